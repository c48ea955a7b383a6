/-! The law's methods over whole objects. -/
/-- what a method of the law is given, beside its world -/
def zFx (p : Program) (s : State) (m : MethodId) (meth : Method) (c : Code) (args : Array Value) (cc : ByteArray) (maxL : Nat) (ret : Option FieldType) (ws : List Cond) (A : Nat → Prop) (G : zk_G) : Prop :=
  p.tables.exec = Jvm.exec ∧ c.code = cc ∧ c.maxLocals = maxL ∧ meth.sig.returnType = ret ∧ (∀ w ∈ ws, w.before args s = true) ∧ s.vm.findClass RL = some m.cls ∧ meth.locks = false ∧ zk_E G s ∧ (∀ q : Nat, s.heap.size ≤ q → A q) ∧ (∀ q : Nat, A q → G.2.2.1 ≤ q) ∧ zk_NC s
theorem zl_addN (a b : Nat) : lN a + lN b = lN (a + b) := wb_inj (by rw [Int64.toBitVec_add, wb_tb, wb_tb, wb_tb, BitVec.ofNat_add])

theorem ra_bal {L : zL} {n t a : Nat} (hI : sInv L n t) (h : a < n) : fChild L (nI a) (nI 2) = L 3 a := by
  have hn := hI.2.1
  refine (zIf_t (nH_yes hI h)).trans ((zIf_t (nIn_yes (by decide))).trans ?_)
  rw [nI_clamp (show a < 2 ^ 31 by omega)]
  exact xChild_2 rfl

theorem ra_pay5 {κ : zCo} {n t a : Nat} {v : Int32} (hI : sInv (kL κ) n t) (h : a < n) (hb : bB 1000000000 (kL κ 3 a)) (hh : kL κ 3 a < nI 9999) (hv : (kL κ 3 a < 0 ∧ v = -1) ∨ (¬ kL κ 3 a < 0 ∧ v = -1 - kL κ 3 a)) : fPay (nI a) v κ = (-9999003, κ) := by
  have := ra_pay4 hI h hb hh
  rcases hv with ⟨w, rfl⟩ | ⟨w, rfl⟩
  · rw [if_pos w] at this
    exact this
  · rw [if_neg w] at this
    exact this

abbrev rmL_refuses : Room := { frames := 11, cells := 300, slots := 1800, locals := 246 }

set_option maxHeartbeats 4000000 in
set_option maxRecDepth 100000 in
theorem zr_1 {p : Program} {l : Launch} {e : Env} {s : State} {m : MethodId} {args : Array Value} {below : List Frame} {meth : Method} {c : Code} {Q : State → Prop} {A : Nat → Prop} {G : zk_G} {H : Heap} {locs : List Loc} {cells slots : Nat} {ls : Array Slot} (hst : l.stackTraces = false) (F : zFx p s m meth c args cL_refuses 7 (some .boolean) vL_refuses A G) {a : zA} {σ : zSt} {κ : zCo}  (ht0 : zTx σ) (hg0 : core σ = κ) (hk0 : kOk κ) {x n t : Nat} (hx31 : x < 2 ^ 31) (hI : sInv (kL κ) n t) (hP : va_P G.1 vwCl (zw G a σ) H) (hD : va_D A (zw G a σ)) (hS : va_S A s.heap H locs) (hl : lv_has ls 7 [(0, .ref a.1), (1, .int (nI x))]) (hcs : cells + 52 ≤ 300 ∧ slots + 312 ≤ 1800)
    (kk : ∀ (σ₁ : zSt) (H₁ : Heap) (locs₁ : List Loc) (ls₁ : Array Slot), zTx σ₁ → core σ₁ = κ →  va_P G.1 vwCl (zw G a σ₁) H₁ → va_D A (zw G a σ₁) → va_S A s.heap H₁ locs₁ → lv_has ls₁ 7 [(0, .ref a.1), (1, .int (nI x)), (2, .int (nI n)), (3, .int (nI t)), (4, .int (nI 1))] → W p l e rmL_refuses s m args below meth c H₁ locs₁ (cells + 52) (slots + 312) Q (F0 m 223 ls₁ [])) :
    W p l e rmL_refuses s m args below meth c H locs cells slots Q (F0 m 0 ls []) := by
  obtain ⟨hx, hb, hml, hr, hts, hown, hlocks, hE, hA, hA0, hN⟩ := id F
  have hok0 := yOk_of hk0 hg0 ht0
  have hn12 := hI.2.1
  have ht40 := hI.2.2.2.1
  have w1 := hts _ (List.mem_cons_of_mem _ (memB (in0_wsL_law0_r4 _ (List.mem_of_getElem? (l := wsL_law0_r4) (i := 3) rfl)) rfl))
  have w2 := hts _ (List.mem_cons_of_mem _ (memB (in0_wsL_law0_r4 _ (List.mem_of_getElem? (l := wsL_law0_r4) (i := 4) rfl)) rfl))
  have w3 := hts _ (List.mem_cons_of_mem _ (memB (in0_wsL_law0_r4 _ (List.mem_of_getElem? (l := wsL_law0_r4) (i := 5) rfl)) rfl))
  refine lv_aload_n hx hb dL_refuses_0 rfl (lv_at hl 0 rfl) ?_
  refine lv_iconst (v := nI 2) hx hb dL_refuses_1 (by decide) ?_
  refine lv_iconst (v := nI 1) hx hb dL_refuses_2 (by decide) ?_
  refine lv_iconst (v := nI 0) hx hb dL_refuses_3 (by decide) ?_
  refine lv_iconst (v := nI 0) hx hb dL_refuses_4 (by decide) ?_
  refine zk_call1 (va_runS (As := [.ref a.1, .int (nI 2), .int (nI 1), .int (nI 0), .int (nI 0)]) (rest := []) ⟨hx, hb, hml, hown, hts⟩ (c_C_2 l G hst a σ hok0 (nI 1) (nI 0) (nI 0) _) (va_cwS 5 hts gL_refuses_L_call rfl rfl rfl (by decide +kernel) ⟨Nat.le_of_ble_eq_true rfl, Nat.le_of_ble_eq_true rfl⟩) (zk_preSH hN hE hA0 hS hP hD) rfl rfl hl.1 rfl (lv_room (Nat.le_of_ble_eq_true rfl)) dL_refuses_5 ⟨by show cells + 4 ≤ 300; omega, by show slots + 24 ≤ 1800; omega⟩) hP hD hS hA (fun r2 σ1 H locs hpost hP hD hS => ?_)
  refine zk_cs (cells + 4) (slots + 24) rfl rfl ?_
  have hP : va_P G.1 vwCl (zw G a σ1) H := hP
  have hD : va_D A (zw G a σ1) := hD
  obtain ⟨⟨er, ec⟩, ht0⟩ := hpost
  rw [hg0] at er ec
  have hg0 := ec
  have hok0 := yOk_of hk0 hg0 ht0
  refine zk_top (er.trans (ra_about1 hI)) ?_
  refine lv_istore_n (lv' := [(2, .int (nI n)), (0, .ref a.1), (1, .int (nI x))]) hx hb dL_refuses_8 rfl hl (by decide) rfl (fun ls hl => ?_)
  refine lv_aload_n hx hb dL_refuses_9 rfl (lv_at hl 1 rfl) ?_
  refine lv_iconst (v := nI 2) hx hb dL_refuses_10 (by decide) ?_
  refine lv_iconst (v := nI 0) hx hb dL_refuses_11 (by decide) ?_
  refine lv_iconst (v := nI 0) hx hb dL_refuses_12 (by decide) ?_
  refine lv_iconst (v := nI 0) hx hb dL_refuses_13 (by decide) ?_
  refine zk_call1 (va_runS (As := [.ref a.1, .int (nI 2), .int (nI 0), .int (nI 0), .int (nI 0)]) (rest := []) ⟨hx, hb, hml, hown, hts⟩ (c_C_2 l G hst a σ1 hok0 (nI 0) (nI 0) (nI 0) _) (va_cwS 5 hts gL_refuses_L_call rfl rfl rfl (by decide +kernel) ⟨Nat.le_of_ble_eq_true rfl, Nat.le_of_ble_eq_true rfl⟩) (zk_preSH hN hE hA0 hS hP hD) rfl rfl hl.1 rfl (lv_room (Nat.le_of_ble_eq_true rfl)) dL_refuses_14 ⟨by show cells + 4 + 4 ≤ 300; omega, by show slots + 24 + 24 ≤ 1800; omega⟩) hP hD hS hA (fun r4 σ3 H locs hpost hP hD hS => ?_)
  refine zk_cs (cells + 4 + 4) (slots + 24 + 24) rfl rfl ?_
  have hP : va_P G.1 vwCl (zw G a σ3) H := hP
  have hD : va_D A (zw G a σ3) := hD
  obtain ⟨⟨er, ec⟩, ht0⟩ := hpost
  rw [hg0] at er ec
  have hg0 := ec
  have hok0 := yOk_of hk0 hg0 ht0
  refine zk_top (er.trans (ra_about0 hI)) ?_
  refine lv_istore_n (lv' := [(3, .int (nI t)), (2, .int (nI n)), (0, .ref a.1), (1, .int (nI x))]) hx hb dL_refuses_17 rfl hl (by decide) rfl (fun ls hl => ?_)
  refine lv_aload_n hx hb dL_refuses_18 rfl (lv_at hl 2 rfl) ?_
  refine lv_iconst (v := nI 2) hx hb dL_refuses_19 (by decide) ?_
  refine lv_bipush (v := nI 12) hx hb dL_refuses_20 (by decide) ?_
  refine lv_iload_n hx hb dL_refuses_22 rfl (lv_at hl 3 rfl) ?_
  refine lv_bipush (v := nI 9) hx hb dL_refuses_23 (by decide) ?_
  refine zk_iremN hx hb dL_refuses_25 (by omega) (by omega) (by omega) ?_
  refine zk_iaddN hx hb dL_refuses_26 ?_
  refine lv_iconst (v := nI 0) hx hb dL_refuses_27 (by decide) ?_
  refine lv_iconst (v := nI 0) hx hb dL_refuses_28 (by decide) ?_
  refine zk_call1 (va_runS (As := [.ref a.1, .int (nI 2), .int (nI (12 + (x % 9))), .int (nI 0), .int (nI 0)]) (rest := []) ⟨hx, hb, hml, hown, hts⟩ (c_C_2 l G hst a σ3 hok0 (nI (12 + (x % 9))) (nI 0) (nI 0) _) (va_cwS 5 hts gL_refuses_L_call rfl rfl rfl (by decide +kernel) ⟨Nat.le_of_ble_eq_true rfl, Nat.le_of_ble_eq_true rfl⟩) (zk_preSH hN hE hA0 hS hP hD) rfl rfl hl.1 rfl (lv_room (Nat.le_of_ble_eq_true rfl)) dL_refuses_29 ⟨by show cells + 4 + 4 + 4 ≤ 300; omega, by show slots + 24 + 24 + 24 ≤ 1800; omega⟩) hP hD hS hA (fun r6 σ5 H locs hpost hP hD hS => ?_)
  refine zk_cs (cells + 4 + 4 + 4) (slots + 24 + 24 + 24) rfl rfl ?_
  have hP : va_P G.1 vwCl (zw G a σ5) H := hP
  have hD : va_D A (zw G a σ5) := hD
  obtain ⟨⟨er, ec⟩, ht0⟩ := hpost
  rw [hg0] at er ec
  have hg0 := ec
  have hok0 := yOk_of hk0 hg0 ht0
  refine zk_top (er.trans (ra_about (by omega) (by omega))) ?_
  refine lv_ldc hx hb (v := (-9999002)) hown w1 dL_refuses_32 ?_
  refine lv_icmp_ne (tgt := 220) hx hb dL_refuses_34 (by decide) (fun z => absurd (by decide) z) (fun _ => ?_)
  refine lv_aload_n hx hb dL_refuses_37 rfl (lv_at hl 2 rfl) ?_
  refine lv_iconst (v := nI 3) hx hb dL_refuses_38 (by decide) ?_
  refine lv_iload_n hx hb dL_refuses_39 rfl (lv_at hl 1 rfl) ?_
  refine lv_bipush (v := nI 9) hx hb dL_refuses_40 (by decide) ?_
  refine lv_iconst (v := nI 0) hx hb dL_refuses_42 (by decide) ?_
  refine zk_call1 (va_runS (As := [.ref a.1, .int (nI 3), .int (nI n), .int (nI 9), .int (nI 0)]) (rest := []) ⟨hx, hb, hml, hown, hts⟩ (c_C_3 l G hst a σ5 hok0 (nI n) (nI 9) (nI 0) _) (va_cwS 5 hts gL_refuses_L_call rfl rfl rfl (by decide +kernel) ⟨Nat.le_of_ble_eq_true rfl, Nat.le_of_ble_eq_true rfl⟩) (zk_preSH hN hE hA0 hS hP hD) rfl rfl hl.1 rfl (lv_room (Nat.le_of_ble_eq_true rfl)) dL_refuses_43 ⟨by show cells + 4 + 4 + 4 + 4 ≤ 300; omega, by show slots + 24 + 24 + 24 + 24 ≤ 1800; omega⟩) hP hD hS hA (fun r8 σ7 H locs hpost hP hD hS => ?_)
  refine zk_cs (cells + 4 + 4 + 4 + 4) (slots + 24 + 24 + 24 + 24) rfl rfl ?_
  have hP : va_P G.1 vwCl (zw G a σ7) H := hP
  have hD : va_D A (zw G a σ7) := hD
  obtain ⟨⟨er, ec⟩, ht0⟩ := hpost
  rw [hg0] at er ec
  have hg0 := ec
  have hok0 := yOk_of hk0 hg0 ht0
  refine zk_top (er.trans (ra_child1 hI (Nat.le_refl n) (by omega) _)) ?_
  refine lv_ldc hx hb (v := (-9999001)) hown w2 dL_refuses_46 ?_
  refine lv_icmp_ne (tgt := 220) hx hb dL_refuses_48 (by decide) (fun z => absurd (by decide) z) (fun _ => ?_)
  refine lv_aload_n hx hb dL_refuses_51 rfl (lv_at hl 2 rfl) ?_
  refine lv_iconst (v := nI 4) hx hb dL_refuses_52 (by decide) ?_
  refine lv_iconst (v := nI 5) hx hb dL_refuses_53 (by decide) ?_
  refine lv_iload_n hx hb dL_refuses_54 rfl (lv_at hl 3 rfl) ?_
  refine lv_bipush (v := nI 9) hx hb dL_refuses_55 (by decide) ?_
  refine zk_iremN hx hb dL_refuses_57 (by omega) (by omega) (by omega) ?_
  refine zk_iaddN hx hb dL_refuses_58 ?_
  refine lv_bipush (v := nI 9) hx hb dL_refuses_59 (by decide) ?_
  refine lv_iconst (v := nI 0) hx hb dL_refuses_61 (by decide) ?_
  refine zk_call1 (va_runS (As := [.ref a.1, .int (nI 4), .int (nI (5 + (x % 9))), .int (nI 9), .int (nI 0)]) (rest := []) ⟨hx, hb, hml, hown, hts⟩ (c_C_4 l G hst a σ7 hok0 (nI (5 + (x % 9))) (nI 9) (nI 0) _) (va_cwS 5 hts gL_refuses_L_call rfl rfl rfl (by decide +kernel) ⟨Nat.le_of_ble_eq_true rfl, Nat.le_of_ble_eq_true rfl⟩) (zk_preSH hN hE hA0 hS hP hD) rfl rfl hl.1 rfl (lv_room (Nat.le_of_ble_eq_true rfl)) dL_refuses_62 ⟨by show cells + 4 + 4 + 4 + 4 + 4 ≤ 300; omega, by show slots + 24 + 24 + 24 + 24 + 24 ≤ 1800; omega⟩) hP hD hS hA (fun r10 σ9 H locs hpost hP hD hS => ?_)
  refine zk_cs (cells + 4 + 4 + 4 + 4 + 4) (slots + 24 + 24 + 24 + 24 + 24) rfl rfl ?_
  have hP : va_P G.1 vwCl (zw G a σ9) H := hP
  have hD : va_D A (zw G a σ9) := hD
  obtain ⟨⟨er, ec⟩, ht0⟩ := hpost
  rw [hg0] at er ec
  have hg0 := ec
  have hok0 := yOk_of hk0 hg0 ht0
  refine zk_top (er.trans (ra_family1 (by omega) (by omega) _)) ?_
  refine lv_ldc hx hb (v := (-9999001)) hown w2 dL_refuses_65 ?_
  refine lv_icmp_ne (tgt := 220) hx hb dL_refuses_67 (by decide) (fun z => absurd (by decide) z) (fun _ => ?_)
  refine lv_aload_n hx hb dL_refuses_70 rfl (lv_at hl 2 rfl) ?_
  refine lv_iconst (v := nI 4) hx hb dL_refuses_71 (by decide) ?_
  refine lv_iload_n hx hb dL_refuses_72 rfl (lv_at hl 3 rfl) ?_
  refine lv_iconst (v := nI 5) hx hb dL_refuses_73 (by decide) ?_
  refine zk_iremN hx hb dL_refuses_74 (by omega) (by omega) (by omega) ?_
  refine lv_iconst (v := nI 5) hx hb dL_refuses_75 (by decide) ?_
  refine lv_iload_n hx hb dL_refuses_76 rfl (lv_at hl 3 rfl) ?_
  refine lv_bipush (v := nI 9) hx hb dL_refuses_77 (by decide) ?_
  refine zk_iremN hx hb dL_refuses_79 (by omega) (by omega) (by omega) ?_
  refine zk_iaddN hx hb dL_refuses_80 ?_
  refine lv_iconst (v := nI 0) hx hb dL_refuses_81 (by decide) ?_
  refine zk_call1 (va_runS (As := [.ref a.1, .int (nI 4), .int (nI (x % 5)), .int (nI (5 + (x % 9))), .int (nI 0)]) (rest := []) ⟨hx, hb, hml, hown, hts⟩ (c_C_4 l G hst a σ9 hok0 (nI (x % 5)) (nI (5 + (x % 9))) (nI 0) _) (va_cwS 5 hts gL_refuses_L_call rfl rfl rfl (by decide +kernel) ⟨Nat.le_of_ble_eq_true rfl, Nat.le_of_ble_eq_true rfl⟩) (zk_preSH hN hE hA0 hS hP hD) rfl rfl hl.1 rfl (lv_room (Nat.le_of_ble_eq_true rfl)) dL_refuses_82 ⟨by show cells + 4 + 4 + 4 + 4 + 4 + 4 ≤ 300; omega, by show slots + 24 + 24 + 24 + 24 + 24 + 24 ≤ 1800; omega⟩) hP hD hS hA (fun r12 σ11 H locs hpost hP hD hS => ?_)
  refine zk_cs (cells + 4 + 4 + 4 + 4 + 4 + 4) (slots + 24 + 24 + 24 + 24 + 24 + 24) rfl rfl ?_
  have hP : va_P G.1 vwCl (zw G a σ11) H := hP
  have hD : va_D A (zw G a σ11) := hD
  obtain ⟨⟨er, ec⟩, ht0⟩ := hpost
  rw [hg0] at er ec
  have hg0 := ec
  have hok0 := yOk_of hk0 hg0 ht0
  refine zk_top (er.trans (ra_family2 (by omega) (by omega) (by omega))) ?_
  refine lv_ldc hx hb (v := (-9999002)) hown w1 dL_refuses_85 ?_
  refine lv_icmp_ne (tgt := 220) hx hb dL_refuses_87 (by decide) (fun z => absurd (by decide) z) (fun _ => ?_)
  refine lv_aload_n hx hb dL_refuses_90 rfl (lv_at hl 2 rfl) ?_
  refine lv_iconst (v := nI 5) hx hb dL_refuses_91 (by decide) ?_
  refine lv_bipush (v := nI 40) hx hb dL_refuses_92 (by decide) ?_
  refine lv_bipush (v := nI 9) hx hb dL_refuses_94 (by decide) ?_
  refine lv_iconst (v := nI 0) hx hb dL_refuses_96 (by decide) ?_
  refine zk_call1 (va_runS (As := [.ref a.1, .int (nI 5), .int (nI 40), .int (nI 9), .int (nI 0)]) (rest := []) ⟨hx, hb, hml, hown, hts⟩ (c_C_5 l G hst a σ11 hok0 (nI 40) (nI 9) (nI 0) _) (va_cwS 5 hts gL_refuses_L_call rfl rfl rfl (by decide +kernel) ⟨Nat.le_of_ble_eq_true rfl, Nat.le_of_ble_eq_true rfl⟩) (zk_preSH hN hE hA0 hS hP hD) rfl rfl hl.1 rfl (lv_room (Nat.le_of_ble_eq_true rfl)) dL_refuses_97 ⟨by show cells + 4 + 4 + 4 + 4 + 4 + 4 + 4 ≤ 300; omega, by show slots + 24 + 24 + 24 + 24 + 24 + 24 + 24 ≤ 1800; omega⟩) hP hD hS hA (fun r14 σ13 H locs hpost hP hD hS => ?_)
  refine zk_cs (cells + 4 + 4 + 4 + 4 + 4 + 4 + 4) (slots + 24 + 24 + 24 + 24 + 24 + 24 + 24) rfl rfl ?_
  have hP : va_P G.1 vwCl (zw G a σ13) H := hP
  have hD : va_D A (zw G a σ13) := hD
  obtain ⟨⟨er, ec⟩, ht0⟩ := hpost
  rw [hg0] at er ec
  have hg0 := ec
  have hok0 := yOk_of hk0 hg0 ht0
  refine zk_top (er.trans (ra_day1 (by omega) (by omega) _)) ?_
  refine lv_ldc hx hb (v := (-9999001)) hown w2 dL_refuses_100 ?_
  refine lv_icmp_ne (tgt := 220) hx hb dL_refuses_102 (by decide) (fun z => absurd (by decide) z) (fun _ => ?_)
  refine lv_aload_n hx hb dL_refuses_105 rfl (lv_at hl 2 rfl) ?_
  refine lv_iconst (v := nI 5) hx hb dL_refuses_106 (by decide) ?_
  refine lv_iload_n hx hb dL_refuses_107 rfl (lv_at hl 3 rfl) ?_
  refine lv_bipush (v := nI 40) hx hb dL_refuses_108 (by decide) ?_
  refine zk_iremN hx hb dL_refuses_110 (by omega) (by omega) (by omega) ?_
  refine lv_iconst (v := nI 4) hx hb dL_refuses_111 (by decide) ?_
  refine lv_iload_n hx hb dL_refuses_112 rfl (lv_at hl 3 rfl) ?_
  refine lv_bipush (v := nI 9) hx hb dL_refuses_113 (by decide) ?_
  refine zk_iremN hx hb dL_refuses_115 (by omega) (by omega) (by omega) ?_
  refine zk_iaddN hx hb dL_refuses_116 ?_
  refine lv_iconst (v := nI 0) hx hb dL_refuses_117 (by decide) ?_
  refine zk_call1 (va_runS (As := [.ref a.1, .int (nI 5), .int (nI (x % 40)), .int (nI (4 + (x % 9))), .int (nI 0)]) (rest := []) ⟨hx, hb, hml, hown, hts⟩ (c_C_5 l G hst a σ13 hok0 (nI (x % 40)) (nI (4 + (x % 9))) (nI 0) _) (va_cwS 5 hts gL_refuses_L_call rfl rfl rfl (by decide +kernel) ⟨Nat.le_of_ble_eq_true rfl, Nat.le_of_ble_eq_true rfl⟩) (zk_preSH hN hE hA0 hS hP hD) rfl rfl hl.1 rfl (lv_room (Nat.le_of_ble_eq_true rfl)) dL_refuses_118 ⟨by show cells + 4 + 4 + 4 + 4 + 4 + 4 + 4 + 4 ≤ 300; omega, by show slots + 24 + 24 + 24 + 24 + 24 + 24 + 24 + 24 ≤ 1800; omega⟩) hP hD hS hA (fun r16 σ15 H locs hpost hP hD hS => ?_)
  refine zk_cs (cells + 4 + 4 + 4 + 4 + 4 + 4 + 4 + 4) (slots + 24 + 24 + 24 + 24 + 24 + 24 + 24 + 24) rfl rfl ?_
  have hP : va_P G.1 vwCl (zw G a σ15) H := hP
  have hD : va_D A (zw G a σ15) := hD
  obtain ⟨⟨er, ec⟩, ht0⟩ := hpost
  rw [hg0] at er ec
  have hg0 := ec
  have hok0 := yOk_of hk0 hg0 ht0
  refine zk_top (er.trans (ra_day2 (by omega) (by omega) (by omega))) ?_
  refine lv_ldc hx hb (v := (-9999002)) hown w1 dL_refuses_121 ?_
  refine lv_icmp_ne (tgt := 220) hx hb dL_refuses_123 (by decide) (fun z => absurd (by decide) z) (fun _ => ?_)
  refine lv_aload_n hx hb dL_refuses_126 rfl (lv_at hl 2 rfl) ?_
  refine lv_bipush (v := nI 6) hx hb dL_refuses_127 (by decide) ?_
  refine lv_iload_n hx hb dL_refuses_129 rfl (lv_at hl 1 rfl) ?_
  refine lv_iconst (v := nI 0) hx hb dL_refuses_130 (by decide) ?_
  refine lv_bipush (v := nI 9) hx hb dL_refuses_131 (by decide) ?_
  refine zk_call1 (va_runS (As := [.ref a.1, .int (nI 6), .int (nI n), .int (nI 0), .int (nI 9)]) (rest := []) ⟨hx, hb, hml, hown, hts⟩ (c_C_6 l G hst a σ15 hok0 (nI n) (nI 0) (nI 9) _) (va_cwS 5 hts gL_refuses_L_call rfl rfl rfl (by decide +kernel) ⟨Nat.le_of_ble_eq_true rfl, Nat.le_of_ble_eq_true rfl⟩) (zk_preSH hN hE hA0 hS hP hD) rfl rfl hl.1 rfl (lv_room (Nat.le_of_ble_eq_true rfl)) dL_refuses_133 ⟨by show cells + 4 + 4 + 4 + 4 + 4 + 4 + 4 + 4 + 4 ≤ 300; omega, by show slots + 24 + 24 + 24 + 24 + 24 + 24 + 24 + 24 + 24 ≤ 1800; omega⟩) hP hD hS hA (fun r18 σ17 H locs hpost hP hD hS => ?_)
  refine zk_cs (cells + 4 + 4 + 4 + 4 + 4 + 4 + 4 + 4 + 4) (slots + 24 + 24 + 24 + 24 + 24 + 24 + 24 + 24 + 24) rfl rfl ?_
  have hP : va_P G.1 vwCl (zw G a σ17) H := hP
  have hD : va_D A (zw G a σ17) := hD
  obtain ⟨⟨er, ec⟩, ht0⟩ := hpost
  rw [hg0] at er ec
  have hg0 := ec
  have hok0 := yOk_of hk0 hg0 ht0
  refine zk_top (er.trans (ra_meal1 hI (Nat.le_refl n) (by omega) _ _)) ?_
  refine lv_ldc hx hb (v := (-9999001)) hown w2 dL_refuses_136 ?_
  refine lv_icmp_ne (tgt := 220) hx hb dL_refuses_138 (by decide) (fun z => absurd (by decide) z) (fun _ => ?_)
  refine lv_aload_n hx hb dL_refuses_141 rfl (lv_at hl 2 rfl) ?_
  refine lv_bipush (v := nI 7) hx hb dL_refuses_142 (by decide) ?_
  refine lv_iconst (v := nI 2) hx hb dL_refuses_144 (by decide) ?_
  refine lv_iload_n hx hb dL_refuses_145 rfl (lv_at hl 3 rfl) ?_
  refine lv_bipush (v := nI 9) hx hb dL_refuses_146 (by decide) ?_
  refine zk_iremN hx hb dL_refuses_148 (by omega) (by omega) (by omega) ?_
  refine zk_iaddN hx hb dL_refuses_149 ?_
  refine lv_iconst (v := nI 0) hx hb dL_refuses_150 (by decide) ?_
  refine lv_iconst (v := nI 0) hx hb dL_refuses_151 (by decide) ?_
  refine zk_call1 (va_runS (As := [.ref a.1, .int (nI 7), .int (nI (2 + (x % 9))), .int (nI 0), .int (nI 0)]) (rest := []) ⟨hx, hb, hml, hown, hts⟩ (c_C_7 l G hst a σ17 hok0 (nI (2 + (x % 9))) (nI 0) (nI 0) _) (va_cwS 5 hts gL_refuses_L_call rfl rfl rfl (by decide +kernel) ⟨Nat.le_of_ble_eq_true rfl, Nat.le_of_ble_eq_true rfl⟩) (zk_preSH hN hE hA0 hS hP hD) rfl rfl hl.1 rfl (lv_room (Nat.le_of_ble_eq_true rfl)) dL_refuses_152 ⟨by show cells + 4 + 4 + 4 + 4 + 4 + 4 + 4 + 4 + 4 + 4 ≤ 300; omega, by show slots + 24 + 24 + 24 + 24 + 24 + 24 + 24 + 24 + 24 + 24 ≤ 1800; omega⟩) hP hD hS hA (fun r20 σ19 H locs hpost hP hD hS => ?_)
  refine zk_cs (cells + 4 + 4 + 4 + 4 + 4 + 4 + 4 + 4 + 4 + 4) (slots + 24 + 24 + 24 + 24 + 24 + 24 + 24 + 24 + 24 + 24) rfl rfl ?_
  have hP : va_P G.1 vwCl (zw G a σ19) H := hP
  have hD : va_D A (zw G a σ19) := hD
  obtain ⟨⟨er, ec⟩, ht0⟩ := hpost
  rw [hg0] at er ec
  have hg0 := ec
  have hok0 := yOk_of hk0 hg0 ht0
  refine zk_top (er.trans (ra_setting (by omega) (by omega))) ?_
  refine lv_ldc hx hb (v := (-9999002)) hown w1 dL_refuses_155 ?_
  refine lv_icmp_ne (tgt := 220) hx hb dL_refuses_157 (by decide) (fun z => absurd (by decide) z) (fun _ => ?_)
  refine lv_aload_n hx hb dL_refuses_160 rfl (lv_at hl 2 rfl) ?_
  refine lv_bipush (v := nI 8) hx hb dL_refuses_161 (by decide) ?_
  refine lv_iconst (v := -1) hx hb dL_refuses_163 (by decide) ?_
  refine lv_bipush (v := nI 9) hx hb dL_refuses_164 (by decide) ?_
  refine lv_iconst (v := nI 0) hx hb dL_refuses_166 (by decide) ?_
  refine zk_call1 (va_runS (As := [.ref a.1, .int (nI 8), .int (-1), .int (nI 9), .int (nI 0)]) (rest := []) ⟨hx, hb, hml, hown, hts⟩ (c_C_8 l G hst a σ19 hok0 (-1) (nI 9) (nI 0) _) (va_cwS 5 hts gL_refuses_L_call rfl rfl rfl (by decide +kernel) ⟨Nat.le_of_ble_eq_true rfl, Nat.le_of_ble_eq_true rfl⟩) (zk_preSH hN hE hA0 hS hP hD) rfl rfl hl.1 rfl (lv_room (Nat.le_of_ble_eq_true rfl)) dL_refuses_167 ⟨by show cells + 4 + 4 + 4 + 4 + 4 + 4 + 4 + 4 + 4 + 4 + 4 ≤ 300; omega, by show slots + 24 + 24 + 24 + 24 + 24 + 24 + 24 + 24 + 24 + 24 + 24 ≤ 1800; omega⟩) hP hD hS hA (fun r22 σ21 H locs hpost hP hD hS => ?_)
  refine zk_cs (cells + 4 + 4 + 4 + 4 + 4 + 4 + 4 + 4 + 4 + 4 + 4) (slots + 24 + 24 + 24 + 24 + 24 + 24 + 24 + 24 + 24 + 24 + 24) rfl rfl ?_
  have hP : va_P G.1 vwCl (zw G a σ21) H := hP
  have hD : va_D A (zw G a σ21) := hD
  obtain ⟨⟨er, ec⟩, ht0⟩ := hpost
  rw [hg0] at er ec
  have hq := (ra_come1 _ : fCome (-1) (nI 9) κ = ((-9999001), κ))
  rw [hq] at er ec
  have hg0 : core σ21 = κ := ec
  have er : r22 = (-9999001) := er
  have hok0 := yOk_of hk0 hg0 ht0
  refine zk_top er ?_
  refine lv_ldc hx hb (v := (-9999001)) hown w2 dL_refuses_170 ?_
  refine lv_icmp_ne (tgt := 220) hx hb dL_refuses_172 (by decide) (fun z => absurd (by decide) z) (fun _ => ?_)
  refine lv_aload_n hx hb dL_refuses_175 rfl (lv_at hl 2 rfl) ?_
  refine lv_bipush (v := nI 8) hx hb dL_refuses_176 (by decide) ?_
  refine lv_iload_n hx hb dL_refuses_178 rfl (lv_at hl 3 rfl) ?_
  refine lv_iconst (v := nI 5) hx hb dL_refuses_179 (by decide) ?_
  refine zk_iremN hx hb dL_refuses_180 (by omega) (by omega) (by omega) ?_
  refine lv_iconst (v := nI 4) hx hb dL_refuses_181 (by decide) ?_
  refine lv_iload_n hx hb dL_refuses_182 rfl (lv_at hl 3 rfl) ?_
  refine lv_bipush (v := nI 9) hx hb dL_refuses_183 (by decide) ?_
  refine zk_iremN hx hb dL_refuses_185 (by omega) (by omega) (by omega) ?_
  refine zk_iaddN hx hb dL_refuses_186 ?_
  refine lv_iconst (v := nI 0) hx hb dL_refuses_187 (by decide) ?_
  refine zk_call1 (va_runS (As := [.ref a.1, .int (nI 8), .int (nI (x % 5)), .int (nI (4 + (x % 9))), .int (nI 0)]) (rest := []) ⟨hx, hb, hml, hown, hts⟩ (c_C_8 l G hst a σ21 hok0 (nI (x % 5)) (nI (4 + (x % 9))) (nI 0) _) (va_cwS 5 hts gL_refuses_L_call rfl rfl rfl (by decide +kernel) ⟨Nat.le_of_ble_eq_true rfl, Nat.le_of_ble_eq_true rfl⟩) (zk_preSH hN hE hA0 hS hP hD) rfl rfl hl.1 rfl (lv_room (Nat.le_of_ble_eq_true rfl)) dL_refuses_188 ⟨by show cells + 4 + 4 + 4 + 4 + 4 + 4 + 4 + 4 + 4 + 4 + 4 + 4 ≤ 300; omega, by show slots + 24 + 24 + 24 + 24 + 24 + 24 + 24 + 24 + 24 + 24 + 24 + 24 ≤ 1800; omega⟩) hP hD hS hA (fun r24 σ23 H locs hpost hP hD hS => ?_)
  refine zk_cs (cells + 4 + 4 + 4 + 4 + 4 + 4 + 4 + 4 + 4 + 4 + 4 + 4) (slots + 24 + 24 + 24 + 24 + 24 + 24 + 24 + 24 + 24 + 24 + 24 + 24) rfl rfl ?_
  have hP : va_P G.1 vwCl (zw G a σ23) H := hP
  have hD : va_D A (zw G a σ23) := hD
  obtain ⟨⟨er, ec⟩, ht0⟩ := hpost
  rw [hg0] at er ec
  have hq := (ra_come2 (by omega) (by omega) (by omega) : fCome (nI (x % 5)) (nI (4 + (x % 9))) κ = ((-9999002), κ))
  rw [hq] at er ec
  have hg0 : core σ23 = κ := ec
  have er : r24 = (-9999002) := er
  have hok0 := yOk_of hk0 hg0 ht0
  refine zk_top er ?_
  refine lv_ldc hx hb (v := (-9999002)) hown w1 dL_refuses_191 ?_
  refine lv_icmp_ne (tgt := 220) hx hb dL_refuses_193 (by decide) (fun z => absurd (by decide) z) (fun _ => ?_)
  refine lv_iload_n hx hb dL_refuses_196 rfl (lv_at hl 1 rfl) ?_
  refine lv_bipush (v := nI 12) hx hb dL_refuses_197 (by decide) ?_
  refine lv_icmp_lt (tgt := 216) hx hb dL_refuses_199 (by decide) (fun h199_24 => ?_) (fun h199_24 => ?_)
  · have h199_24 := zk_lt (by omega) (by omega) h199_24
    refine lv_iconst (v := nI 1) hx hb dL_refuses_216 (by decide) ?_
    refine lv_goto (tgt := 221) hx hb dL_refuses_217 (by decide) ?_
    refine lv_istore (lv' := [(4, .int (nI 1)), (3, .int (nI t)), (2, .int (nI n)), (0, .ref a.1), (1, .int (nI x))]) hx hb dL_refuses_221 hl (by decide) rfl (fun ls hl => ?_)
    refine W.widen (k := cells + 52) (n := slots + 312) (by omega) (by omega) ?_
    exact kk σ23 _ _ _ ht0 hg0 hP hD hS (lv_sub hl [3, 4, 2, 1, 0] rfl)
  · have h199_24 := zk_nlt (by omega) (by omega) h199_24
    refine lv_aload_n hx hb dL_refuses_202 rfl (lv_at hl 2 rfl) ?_
    refine lv_bipush (v := nI 8) hx hb dL_refuses_203 (by decide) ?_
    refine lv_iconst (v := nI 0) hx hb dL_refuses_205 (by decide) ?_
    refine lv_iconst (v := nI 0) hx hb dL_refuses_206 (by decide) ?_
    refine lv_iconst (v := nI 0) hx hb dL_refuses_207 (by decide) ?_
    refine zk_call1 (va_runS (As := [.ref a.1, .int (nI 8), .int (nI 0), .int (nI 0), .int (nI 0)]) (rest := []) ⟨hx, hb, hml, hown, hts⟩ (c_C_8 l G hst a σ23 hok0 (nI 0) (nI 0) (nI 0) _) (va_cwS 5 hts gL_refuses_L_call rfl rfl rfl (by decide +kernel) ⟨Nat.le_of_ble_eq_true rfl, Nat.le_of_ble_eq_true rfl⟩) (zk_preSH hN hE hA0 hS hP hD) rfl rfl hl.1 rfl (lv_room (Nat.le_of_ble_eq_true rfl)) dL_refuses_208 ⟨by show cells + 4 + 4 + 4 + 4 + 4 + 4 + 4 + 4 + 4 + 4 + 4 + 4 + 4 ≤ 300; omega, by show slots + 24 + 24 + 24 + 24 + 24 + 24 + 24 + 24 + 24 + 24 + 24 + 24 + 24 ≤ 1800; omega⟩) hP hD hS hA (fun r27 σ26 H locs hpost hP hD hS => ?_)
    refine zk_cs (cells + 4 + 4 + 4 + 4 + 4 + 4 + 4 + 4 + 4 + 4 + 4 + 4 + 4) (slots + 24 + 24 + 24 + 24 + 24 + 24 + 24 + 24 + 24 + 24 + 24 + 24 + 24) rfl rfl ?_
    have hP : va_P G.1 vwCl (zw G a σ26) H := hP
    have hD : va_D A (zw G a σ26) := hD
    obtain ⟨⟨er, ec⟩, ht0⟩ := hpost
    rw [hg0] at er ec
    have hq := (ra_come3 hI (by omega) : fCome (nI 0) (nI 0) κ = ((-9999003), κ))
    rw [hq] at er ec
    have hg0 : core σ26 = κ := ec
    have er : r27 = (-9999003) := er
    have hok0 := yOk_of hk0 hg0 ht0
    refine zk_top er ?_
    refine lv_ldc hx hb (v := (-9999003)) hown w3 dL_refuses_211 ?_
    refine lv_icmp_ne (tgt := 220) hx hb dL_refuses_213 (by decide) (fun z => absurd (by decide) z) (fun _ => ?_)
    refine lv_iconst (v := nI 1) hx hb dL_refuses_216 (by decide) ?_
    refine lv_goto (tgt := 221) hx hb dL_refuses_217 (by decide) ?_
    refine lv_istore (lv' := [(4, .int (nI 1)), (3, .int (nI t)), (2, .int (nI n)), (0, .ref a.1), (1, .int (nI x))]) hx hb dL_refuses_221 hl (by decide) rfl (fun ls hl => ?_)
    refine W.widen (k := cells + 52) (n := slots + 312) (by omega) (by omega) ?_
    exact kk σ26 _ _ _ ht0 hg0 hP hD hS (lv_sub hl [3, 4, 2, 1, 0] rfl)

set_option maxHeartbeats 4000000 in
set_option maxRecDepth 100000 in
theorem zr_2 {p : Program} {l : Launch} {e : Env} {s : State} {m : MethodId} {args : Array Value} {below : List Frame} {meth : Method} {c : Code} {Q : State → Prop} {A : Nat → Prop} {G : zk_G} {H : Heap} {locs : List Loc} {cells slots : Nat} {ls : Array Slot} (hst : l.stackTraces = false) (F : zFx p s m meth c args cL_refuses 7 (some .boolean) vL_refuses A G) {a : zA} {σ : zSt} {κ : zCo}  (ht0 : zTx σ) (hg0 : core σ = κ) (hk0 : kOk κ) {x n t : Nat} (hx31 : x < 2 ^ 31) (hI : sInv (kL κ) n t) (hP : va_P G.1 vwCl (zw G a σ) H) (hD : va_D A (zw G a σ)) (hS : va_S A s.heap H locs) (hl : lv_has ls 7 [(0, .ref a.1), (1, .int (nI x)), (2, .int (nI n)), (3, .int (nI t)), (4, .int (nI 1))]) (hcs : cells + 12 ≤ 300 ∧ slots + 72 ≤ 1800)
    (kk : ∀ (σ₁ : zSt) (H₁ : Heap) (locs₁ : List Loc) (ls₁ : Array Slot), zTx σ₁ → core σ₁ = κ →  va_P G.1 vwCl (zw G a σ₁) H₁ → va_D A (zw G a σ₁) → va_S A s.heap H₁ locs₁ → lv_has ls₁ 7 [(0, .ref a.1), (1, .int (nI x)), (2, .int (nI n)), (3, .int (nI t)), (4, .int (nI 1))] → W p l e rmL_refuses s m args below meth c H₁ locs₁ (cells + 12) (slots + 72) Q (F0 m 293 ls₁ [])) :
    W p l e rmL_refuses s m args below meth c H locs cells slots Q (F0 m 223 ls []) := by
  obtain ⟨hx, hb, hml, hr, hts, hown, hlocks, hE, hA, hA0, hN⟩ := id F
  have hok0 := yOk_of hk0 hg0 ht0
  have hn12 := hI.2.1
  have ht40 := hI.2.2.2.1
  have w1 := hts _ (List.mem_cons_of_mem _ (memB (in0_wsL_law0_r4 _ (List.mem_of_getElem? (l := wsL_law0_r4) (i := 4) rfl)) rfl))
  have w2 := hts _ (List.mem_cons_of_mem _ (memB (in0_wsL_law0_r4 _ (List.mem_of_getElem? (l := wsL_law0_r4) (i := 3) rfl)) rfl))
  have w3 := hts _ (List.mem_cons_of_mem _ (memB (in0_wsL_law0_r4 _ (List.mem_of_getElem? (l := wsL_law0_r4) (i := 5) rfl)) rfl))
  refine lv_iload hx hb dL_refuses_223 (lv_at hl 4 rfl) ?_
  refine lv_if_eq (tgt := 439) hx hb dL_refuses_225 (by decide) (fun z => absurd z (by decide)) (fun _ => ?_)
  refine lv_aload_n hx hb dL_refuses_228 rfl (lv_at hl 0 rfl) ?_
  refine lv_bipush (v := nI 9) hx hb dL_refuses_229 (by decide) ?_
  refine lv_bipush (v := nI 40) hx hb dL_refuses_231 (by decide) ?_
  refine lv_iload_n hx hb dL_refuses_233 rfl (lv_at hl 1 rfl) ?_
  refine lv_bipush (v := nI 9) hx hb dL_refuses_234 (by decide) ?_
  refine zk_iremN hx hb dL_refuses_236 (by omega) (by omega) (by omega) ?_
  refine zk_iaddN hx hb dL_refuses_237 ?_
  refine lv_bipush (v := nI 9) hx hb dL_refuses_238 (by decide) ?_
  refine lv_iconst (v := nI 0) hx hb dL_refuses_240 (by decide) ?_
  refine zk_call1 (va_runS (As := [.ref a.1, .int (nI 9), .int (nI (40 + (x % 9))), .int (nI 9), .int (nI 0)]) (rest := []) ⟨hx, hb, hml, hown, hts⟩ (c_C_9 l G hst a σ hok0 (nI (40 + (x % 9))) (nI 9) (nI 0) _) (va_cwS 5 hts gL_refuses_L_call rfl rfl rfl (by decide +kernel) ⟨Nat.le_of_ble_eq_true rfl, Nat.le_of_ble_eq_true rfl⟩) (zk_preSH hN hE hA0 hS hP hD) rfl rfl hl.1 rfl (lv_room (Nat.le_of_ble_eq_true rfl)) dL_refuses_241 ⟨by show cells + 4 ≤ 300; omega, by show slots + 24 ≤ 1800; omega⟩) hP hD hS hA (fun r2 σ1 H locs hpost hP hD hS => ?_)
  refine zk_cs (cells + 4) (slots + 24) rfl rfl ?_
  have hP : va_P G.1 vwCl (zw G a σ1) H := hP
  have hD : va_D A (zw G a σ1) := hD
  obtain ⟨⟨er, ec⟩, ht0⟩ := hpost
  rw [hg0] at er ec
  have hq := (ra_menu1 (by omega) (by omega) _ : fMenu (nI (40 + (x % 9))) (nI 9) κ = ((-9999001), κ))
  rw [hq] at er ec
  have hg0 : core σ1 = κ := ec
  have er : r2 = (-9999001) := er
  have hok0 := yOk_of hk0 hg0 ht0
  refine zk_top er ?_
  refine lv_ldc hx hb (v := (-9999001)) hown w1 dL_refuses_244 ?_
  refine lv_icmp_ne (tgt := 439) hx hb dL_refuses_246 (by decide) (fun z => absurd (by decide) z) (fun _ => ?_)
  refine lv_aload_n hx hb dL_refuses_249 rfl (lv_at hl 0 rfl) ?_
  refine lv_bipush (v := nI 9) hx hb dL_refuses_250 (by decide) ?_
  refine lv_iload_n hx hb dL_refuses_252 rfl (lv_at hl 1 rfl) ?_
  refine lv_bipush (v := nI 40) hx hb dL_refuses_253 (by decide) ?_
  refine zk_iremN hx hb dL_refuses_255 (by omega) (by omega) (by omega) ?_
  refine lv_iconst (v := nI 4) hx hb dL_refuses_256 (by decide) ?_
  refine lv_iload_n hx hb dL_refuses_257 rfl (lv_at hl 1 rfl) ?_
  refine lv_bipush (v := nI 9) hx hb dL_refuses_258 (by decide) ?_
  refine zk_iremN hx hb dL_refuses_260 (by omega) (by omega) (by omega) ?_
  refine zk_iaddN hx hb dL_refuses_261 ?_
  refine lv_iconst (v := nI 0) hx hb dL_refuses_262 (by decide) ?_
  refine zk_call1 (va_runS (As := [.ref a.1, .int (nI 9), .int (nI (x % 40)), .int (nI (4 + (x % 9))), .int (nI 0)]) (rest := []) ⟨hx, hb, hml, hown, hts⟩ (c_C_9 l G hst a σ1 hok0 (nI (x % 40)) (nI (4 + (x % 9))) (nI 0) _) (va_cwS 5 hts gL_refuses_L_call rfl rfl rfl (by decide +kernel) ⟨Nat.le_of_ble_eq_true rfl, Nat.le_of_ble_eq_true rfl⟩) (zk_preSH hN hE hA0 hS hP hD) rfl rfl hl.1 rfl (lv_room (Nat.le_of_ble_eq_true rfl)) dL_refuses_263 ⟨by show cells + 4 + 4 ≤ 300; omega, by show slots + 24 + 24 ≤ 1800; omega⟩) hP hD hS hA (fun r4 σ3 H locs hpost hP hD hS => ?_)
  refine zk_cs (cells + 4 + 4) (slots + 24 + 24) rfl rfl ?_
  have hP : va_P G.1 vwCl (zw G a σ3) H := hP
  have hD : va_D A (zw G a σ3) := hD
  obtain ⟨⟨er, ec⟩, ht0⟩ := hpost
  rw [hg0] at er ec
  have hq := (ra_menu2 (by omega) (by omega) (by omega) : fMenu (nI (x % 40)) (nI (4 + (x % 9))) κ = ((-9999002), κ))
  rw [hq] at er ec
  have hg0 : core σ3 = κ := ec
  have er : r4 = (-9999002) := er
  have hok0 := yOk_of hk0 hg0 ht0
  refine zk_top er ?_
  refine lv_ldc hx hb (v := (-9999002)) hown w2 dL_refuses_266 ?_
  refine lv_icmp_ne (tgt := 439) hx hb dL_refuses_268 (by decide) (fun z => absurd (by decide) z) (fun _ => ?_)
  refine lv_iload_n hx hb dL_refuses_271 rfl (lv_at hl 3 rfl) ?_
  refine lv_if_eq (tgt := 293) hx hb dL_refuses_272 (by decide) (fun h272_4 => ?_) (fun h272_4 => ?_)
  · have h272_4 := zk_eq0 (by omega) h272_4
    refine W.widen (k := cells + 12) (n := slots + 72) (by omega) (by omega) ?_
    exact kk σ3 _ _ _ ht0 hg0 hP hD hS (lv_sub hl [0, 1, 2, 3, 4] rfl)
  · have h272_4 := zk_ne0 (by omega) h272_4
    refine lv_aload_n hx hb dL_refuses_275 rfl (lv_at hl 0 rfl) ?_
    refine lv_bipush (v := nI 9) hx hb dL_refuses_276 (by decide) ?_
    refine lv_iload_n hx hb dL_refuses_278 rfl (lv_at hl 1 rfl) ?_
    refine lv_iload_n hx hb dL_refuses_279 rfl (lv_at hl 3 rfl) ?_
    refine zk_iremN hx hb dL_refuses_280 (by omega) (by omega) (by omega) ?_
    refine lv_iload_n hx hb dL_refuses_281 rfl (lv_at hl 1 rfl) ?_
    refine lv_iconst (v := nI 4) hx hb dL_refuses_282 (by decide) ?_
    refine zk_iremN hx hb dL_refuses_283 (by omega) (by omega) (by omega) ?_
    refine lv_iconst (v := nI 0) hx hb dL_refuses_284 (by decide) ?_
    refine zk_call1 (va_runS (As := [.ref a.1, .int (nI 9), .int (nI (x % t)), .int (nI (x % 4)), .int (nI 0)]) (rest := []) ⟨hx, hb, hml, hown, hts⟩ (c_C_9 l G hst a σ3 hok0 (nI (x % t)) (nI (x % 4)) (nI 0) _) (va_cwS 5 hts gL_refuses_L_call rfl rfl rfl (by decide +kernel) ⟨Nat.le_of_ble_eq_true rfl, Nat.le_of_ble_eq_true rfl⟩) (zk_preSH hN hE hA0 hS hP hD) rfl rfl hl.1 rfl (lv_room (Nat.le_of_ble_eq_true rfl)) dL_refuses_285 ⟨by show cells + 4 + 4 + 4 ≤ 300; omega, by show slots + 24 + 24 + 24 ≤ 1800; omega⟩) hP hD hS hA (fun r7 σ6 H locs hpost hP hD hS => ?_)
    refine zk_cs (cells + 4 + 4 + 4) (slots + 24 + 24 + 24) rfl rfl ?_
    have hP : va_P G.1 vwCl (zw G a σ6) H := hP
    have hD : va_D A (zw G a σ6) := hD
    obtain ⟨⟨er, ec⟩, ht0⟩ := hpost
    rw [hg0] at er ec
    have hq := (ra_menu3 hI (Nat.mod_lt _ (by omega)) (by omega) : fMenu (nI (x % t)) (nI (x % 4)) κ = ((-9999003), κ))
    rw [hq] at er ec
    have hg0 : core σ6 = κ := ec
    have er : r7 = (-9999003) := er
    have hok0 := yOk_of hk0 hg0 ht0
    refine zk_top er ?_
    refine lv_ldc hx hb (v := (-9999003)) hown w3 dL_refuses_288 ?_
    refine lv_icmp_ne (tgt := 439) hx hb dL_refuses_290 (by decide) (fun z => absurd (by decide) z) (fun _ => ?_)
    refine W.widen (k := cells + 12) (n := slots + 72) (by omega) (by omega) ?_
    exact kk σ6 _ _ _ ht0 hg0 hP hD hS (lv_sub hl [0, 1, 2, 3, 4] rfl)

set_option maxHeartbeats 4000000 in
set_option maxRecDepth 100000 in
theorem zr_2b {p : Program} {l : Launch} {e : Env} {s : State} {m : MethodId} {args : Array Value} {below : List Frame} {meth : Method} {c : Code} {Q : State → Prop} {A : Nat → Prop} {G : zk_G} {H : Heap} {locs : List Loc} {cells slots : Nat} {ls : Array Slot} (hst : l.stackTraces = false) (F : zFx p s m meth c args cL_refuses 7 (some .boolean) vL_refuses A G) {a : zA} {σ : zSt} {κ : zCo}  (ht0 : zTx σ) (hg0 : core σ = κ) (hk0 : kOk κ) {x n t : Nat} (hx31 : x < 2 ^ 31) (hI : sInv (kL κ) n t) (hP : va_P G.1 vwCl (zw G a σ) H) (hD : va_D A (zw G a σ)) (hS : va_S A s.heap H locs) (hl : lv_has ls 7 [(0, .ref a.1), (1, .int (nI x)), (2, .int (nI n)), (3, .int (nI t)), (4, .int (nI 1))]) (hcs : cells + 44 ≤ 300 ∧ slots + 264 ≤ 1800)
    (kk : ∀ (σ₁ : zSt) (H₁ : Heap) (locs₁ : List Loc) (ls₁ : Array Slot), zTx σ₁ → core σ₁ = κ →  va_P G.1 vwCl (zw G a σ₁) H₁ → va_D A (zw G a σ₁) → va_S A s.heap H₁ locs₁ → lv_has ls₁ 7 [(0, .ref a.1), (1, .int (nI x)), (2, .int (nI n)), (3, .int (nI t)), (4, .int (nI 1))] → W p l e rmL_refuses s m args below meth c H₁ locs₁ (cells + 44) (slots + 264) Q (F0 m 442 ls₁ [])) :
    W p l e rmL_refuses s m args below meth c H locs cells slots Q (F0 m 293 ls []) := by
  obtain ⟨hx, hb, hml, hr, hts, hown, hlocks, hE, hA, hA0, hN⟩ := id F
  have hok0 := yOk_of hk0 hg0 ht0
  have hn12 := hI.2.1
  have ht40 := hI.2.2.2.1
  have w1 := hts _ (List.mem_cons_of_mem _ (memB (in0_wsL_law0_r4 _ (List.mem_of_getElem? (l := wsL_law0_r4) (i := 4) rfl)) rfl))
  have w2 := hts _ (List.mem_cons_of_mem _ (memB (in0_wsL_law0_r4 _ (List.mem_of_getElem? (l := wsL_law0_r4) (i := 3) rfl)) rfl))
  have w3 := hts _ (List.mem_cons_of_mem _ (memB (in0_wsL_law0_r4 _ (List.mem_of_getElem? (l := wsL_law0_r4) (i := 5) rfl)) rfl))
  refine lv_aload_n hx hb dL_refuses_293 rfl (lv_at hl 0 rfl) ?_
  refine lv_iload_n hx hb dL_refuses_294 rfl (lv_at hl 2 rfl) ?_
  refine lv_iconst (v := nI 0) hx hb dL_refuses_295 (by decide) ?_
  refine lv_iconst (v := nI 1) hx hb dL_refuses_296 (by decide) ?_
  refine zk_call1 (vx_runSW (As := [.ref a.1, .int (nI n), .int (nI 0), .int (nI 1)]) (rest := []) ⟨hx, hb, hml, hown, hts⟩ (c_F_tryOrder l G hst a σ hok0 (nI n) (nI 0) (nI 1) _) (vx_cwSW 4 hts gL_refuses_L_tryOrder rfl rfl rfl (by decide +kernel) ⟨Nat.le_of_ble_eq_true rfl, Nat.le_of_ble_eq_true rfl⟩) (zk_preSH hN hE hA0 hS hP hD) rfl rfl hl.1 rfl (lv_room (Nat.le_of_ble_eq_true rfl)) dL_refuses_297 ⟨by show cells + 2 ≤ 300; omega, by show slots + 12 ≤ 1800; omega⟩) hP hD hS hA (fun r2 σ1 H locs hpost hP hD hS => ?_)
  refine zk_cs (cells + 2) (slots + 12) rfl rfl ?_
  have hP : va_P G.1 vwCl (zw G a σ1) H := hP
  have hD : va_D A (zw G a σ1) := hD
  obtain ⟨⟨er, ec⟩, ht0⟩ := hpost
  rw [hg0] at er ec
  have hq := (ra_order1 hI (Nat.le_refl n) (by omega) _ _ : fOrder (nI n) (nI 0) (nI 1) κ = ((-9999001), κ))
  rw [hq] at er ec
  have hg0 : core σ1 = κ := ec
  have er : r2 = (-9999001) := er
  have hok0 := yOk_of hk0 hg0 ht0
  refine zk_top er ?_
  refine lv_ldc hx hb (v := (-9999001)) hown w1 dL_refuses_300 ?_
  refine lv_icmp_ne (tgt := 439) hx hb dL_refuses_302 (by decide) (fun z => absurd (by decide) z) (fun _ => ?_)
  refine lv_aload_n hx hb dL_refuses_305 rfl (lv_at hl 0 rfl) ?_
  refine lv_bipush (v := nI 10) hx hb dL_refuses_306 (by decide) ?_
  refine lv_iload_n hx hb dL_refuses_308 rfl (lv_at hl 2 rfl) ?_
  refine lv_iload_n hx hb dL_refuses_309 rfl (lv_at hl 1 rfl) ?_
  refine lv_bipush (v := nI 9) hx hb dL_refuses_310 (by decide) ?_
  refine zk_iremN hx hb dL_refuses_312 (by omega) (by omega) (by omega) ?_
  refine zk_iaddN hx hb dL_refuses_313 ?_
  refine lv_iconst (v := nI 0) hx hb dL_refuses_314 (by decide) ?_
  refine lv_iconst (v := nI 0) hx hb dL_refuses_315 (by decide) ?_
  refine zk_call1 (va_runS (As := [.ref a.1, .int (nI 10), .int (nI (n + (x % 9))), .int (nI 0), .int (nI 0)]) (rest := []) ⟨hx, hb, hml, hown, hts⟩ (c_C_10 l G hst a σ1 hok0 (nI (n + (x % 9))) (nI 0) (nI 0) _) (va_cwS 5 hts gL_refuses_L_call rfl rfl rfl (by decide +kernel) ⟨Nat.le_of_ble_eq_true rfl, Nat.le_of_ble_eq_true rfl⟩) (zk_preSH hN hE hA0 hS hP hD) rfl rfl hl.1 rfl (lv_room (Nat.le_of_ble_eq_true rfl)) dL_refuses_316 ⟨by show cells + 2 + 4 ≤ 300; omega, by show slots + 12 + 24 ≤ 1800; omega⟩) hP hD hS hA (fun r4 σ3 H locs hpost hP hD hS => ?_)
  refine zk_cs (cells + 2 + 4) (slots + 12 + 24) rfl rfl ?_
  have hP : va_P G.1 vwCl (zw G a σ3) H := hP
  have hD : va_D A (zw G a σ3) := hD
  obtain ⟨⟨er, ec⟩, ht0⟩ := hpost
  rw [hg0] at er ec
  have hq := (ra_pay1 hI (by omega) (by omega) _ : fPay (nI (n + (x % 9))) (nI 0) κ = ((-9999001), κ))
  rw [hq] at er ec
  have hg0 : core σ3 = κ := ec
  have er : r4 = (-9999001) := er
  have hok0 := yOk_of hk0 hg0 ht0
  refine zk_top er ?_
  refine lv_ldc hx hb (v := (-9999001)) hown w1 dL_refuses_319 ?_
  refine lv_icmp_ne (tgt := 439) hx hb dL_refuses_321 (by decide) (fun z => absurd (by decide) z) (fun _ => ?_)
  refine lv_aload_n hx hb dL_refuses_324 rfl (lv_at hl 0 rfl) ?_
  refine lv_bipush (v := nI 11) hx hb dL_refuses_325 (by decide) ?_
  refine lv_iconst (v := nI 0) hx hb dL_refuses_327 (by decide) ?_
  refine lv_iload_n hx hb dL_refuses_328 rfl (lv_at hl 2 rfl) ?_
  refine lv_iconst (v := nI 0) hx hb dL_refuses_329 (by decide) ?_
  refine zk_call1 (va_runS (As := [.ref a.1, .int (nI 11), .int (nI 0), .int (nI n), .int (nI 0)]) (rest := []) ⟨hx, hb, hml, hown, hts⟩ (c_C_11 l G hst a σ3 hok0 (nI 0) (nI n) (nI 0) _) (va_cwS 5 hts gL_refuses_L_call rfl rfl rfl (by decide +kernel) ⟨Nat.le_of_ble_eq_true rfl, Nat.le_of_ble_eq_true rfl⟩) (zk_preSH hN hE hA0 hS hP hD) rfl rfl hl.1 rfl (lv_room (Nat.le_of_ble_eq_true rfl)) dL_refuses_330 ⟨by show cells + 2 + 4 + 4 ≤ 300; omega, by show slots + 12 + 24 + 24 ≤ 1800; omega⟩) hP hD hS hA (fun r6 σ5 H locs hpost hP hD hS => ?_)
  refine zk_cs (cells + 2 + 4 + 4) (slots + 12 + 24 + 24) rfl rfl ?_
  have hP : va_P G.1 vwCl (zw G a σ5) H := hP
  have hD : va_D A (zw G a σ5) := hD
  obtain ⟨⟨er, ec⟩, ht0⟩ := hpost
  rw [hg0] at er ec
  have hq := (ra_move1 hI (Nat.le_refl n) (by omega) _ _ : fMove (nI 0) (nI n) (nI 0) κ = ((-9999001), κ))
  rw [hq] at er ec
  have hg0 : core σ5 = κ := ec
  have er : r6 = (-9999001) := er
  have hok0 := yOk_of hk0 hg0 ht0
  refine zk_top er ?_
  refine lv_ldc hx hb (v := (-9999001)) hown w1 dL_refuses_333 ?_
  refine lv_icmp_ne (tgt := 439) hx hb dL_refuses_335 (by decide) (fun z => absurd (by decide) z) (fun _ => ?_)
  refine lv_aload_n hx hb dL_refuses_338 rfl (lv_at hl 0 rfl) ?_
  refine lv_iconst (v := -1) hx hb dL_refuses_339 (by decide) ?_
  refine lv_iload_n hx hb dL_refuses_340 rfl (lv_at hl 1 rfl) ?_
  refine lv_bipush (v := nI 9) hx hb dL_refuses_341 (by decide) ?_
  refine zk_iremN hx hb dL_refuses_343 (by omega) (by omega) (by omega) ?_
  refine lv_isub hx hb dL_refuses_344 ?_
  refine lv_iconst (v := nI 1) hx hb dL_refuses_345 (by decide) ?_
  refine zk_call1 (vx_runSW (As := [.ref a.1, .int ((-1) - (nI (x % 9))), .int (nI 1)]) (rest := []) ⟨hx, hb, hml, hown, hts⟩ (c_F_tryShare l G hst a σ5 hok0 ((-1) - (nI (x % 9))) (nI 1) _) (vx_cwSW 3 hts gL_refuses_L_tryShare rfl rfl rfl (by decide +kernel) ⟨Nat.le_of_ble_eq_true rfl, Nat.le_of_ble_eq_true rfl⟩) (zk_preSH hN hE hA0 hS hP hD) rfl rfl hl.1 rfl (lv_room (Nat.le_of_ble_eq_true rfl)) dL_refuses_346 ⟨by show cells + 2 + 4 + 4 + 2 ≤ 300; omega, by show slots + 12 + 24 + 24 + 12 ≤ 1800; omega⟩) hP hD hS hA (fun r8 σ7 H locs hpost hP hD hS => ?_)
  refine zk_cs (cells + 2 + 4 + 4 + 2) (slots + 12 + 24 + 24 + 12) rfl rfl ?_
  have hP : va_P G.1 vwCl (zw G a σ7) H := hP
  have hD : va_D A (zw G a σ7) := hD
  obtain ⟨⟨er, ec⟩, ht0⟩ := hpost
  rw [hg0] at er ec
  have hq := (ra_share (by omega) _ : fShare ((-1) - (nI (x % 9))) (nI 1) κ = ((-9999001), κ))
  rw [hq] at er ec
  have hg0 : core σ7 = κ := ec
  have er : r8 = (-9999001) := er
  have hok0 := yOk_of hk0 hg0 ht0
  refine zk_top er ?_
  refine lv_ldc hx hb (v := (-9999001)) hown w1 dL_refuses_349 ?_
  refine lv_icmp_ne (tgt := 439) hx hb dL_refuses_351 (by decide) (fun z => absurd (by decide) z) (fun _ => ?_)
  refine lv_aload_n hx hb dL_refuses_354 rfl (lv_at hl 0 rfl) ?_
  refine lv_bipush (v := nI 12) hx hb dL_refuses_355 (by decide) ?_
  refine lv_iload_n hx hb dL_refuses_357 rfl (lv_at hl 2 rfl) ?_
  refine lv_iconst (v := nI 0) hx hb dL_refuses_358 (by decide) ?_
  refine lv_iconst (v := nI 0) hx hb dL_refuses_359 (by decide) ?_
  refine zk_call1 (va_runS (As := [.ref a.1, .int (nI 12), .int (nI n), .int (nI 0), .int (nI 0)]) (rest := []) ⟨hx, hb, hml, hown, hts⟩ (c_C_12 l G hst a σ7 hok0 (nI n) (nI 0) (nI 0) _) (va_cwS 5 hts gL_refuses_L_call rfl rfl rfl (by decide +kernel) ⟨Nat.le_of_ble_eq_true rfl, Nat.le_of_ble_eq_true rfl⟩) (zk_preSH hN hE hA0 hS hP hD) rfl rfl hl.1 rfl (lv_room (Nat.le_of_ble_eq_true rfl)) dL_refuses_360 ⟨by show cells + 2 + 4 + 4 + 2 + 4 ≤ 300; omega, by show slots + 12 + 24 + 24 + 12 + 24 ≤ 1800; omega⟩) hP hD hS hA (fun r10 σ9 H locs hpost hP hD hS => ?_)
  refine zk_cs (cells + 2 + 4 + 4 + 2 + 4) (slots + 12 + 24 + 24 + 12 + 24) rfl rfl ?_
  have hP : va_P G.1 vwCl (zw G a σ9) H := hP
  have hD : va_D A (zw G a σ9) := hD
  obtain ⟨⟨er, ec⟩, ht0⟩ := hpost
  rw [hg0] at er ec
  have hq := (ra_ent1 hI (Nat.le_refl n) (by omega) _ _ : fEntitle (nI n) (nI 0) (nI 0) κ = ((-9999001), κ))
  rw [hq] at er ec
  have hg0 : core σ9 = κ := ec
  have er : r10 = (-9999001) := er
  have hok0 := yOk_of hk0 hg0 ht0
  refine zk_top er ?_
  refine lv_ldc hx hb (v := (-9999001)) hown w1 dL_refuses_363 ?_
  refine lv_icmp_ne (tgt := 439) hx hb dL_refuses_365 (by decide) (fun z => absurd (by decide) z) (fun _ => ?_)
  refine lv_aload_n hx hb dL_refuses_368 rfl (lv_at hl 0 rfl) ?_
  refine lv_bipush (v := nI 13) hx hb dL_refuses_369 (by decide) ?_
  refine lv_iconst (v := nI 5) hx hb dL_refuses_371 (by decide) ?_
  refine lv_iconst (v := nI 0) hx hb dL_refuses_372 (by decide) ?_
  refine lv_iconst (v := nI 0) hx hb dL_refuses_373 (by decide) ?_
  refine zk_call1 (va_runS (As := [.ref a.1, .int (nI 13), .int (nI 5), .int (nI 0), .int (nI 0)]) (rest := []) ⟨hx, hb, hml, hown, hts⟩ (c_C_13 l G hst a σ9 hok0 (nI 5) (nI 0) (nI 0) _) (va_cwS 5 hts gL_refuses_L_call rfl rfl rfl (by decide +kernel) ⟨Nat.le_of_ble_eq_true rfl, Nat.le_of_ble_eq_true rfl⟩) (zk_preSH hN hE hA0 hS hP hD) rfl rfl hl.1 rfl (lv_room (Nat.le_of_ble_eq_true rfl)) dL_refuses_374 ⟨by show cells + 2 + 4 + 4 + 2 + 4 + 4 ≤ 300; omega, by show slots + 12 + 24 + 24 + 12 + 24 + 24 ≤ 1800; omega⟩) hP hD hS hA (fun r12 σ11 H locs hpost hP hD hS => ?_)
  refine zk_cs (cells + 2 + 4 + 4 + 2 + 4 + 4) (slots + 12 + 24 + 24 + 12 + 24 + 24) rfl rfl ?_
  have hP : va_P G.1 vwCl (zw G a σ11) H := hP
  have hD : va_D A (zw G a σ11) := hD
  obtain ⟨⟨er, ec⟩, ht0⟩ := hpost
  rw [hg0] at er ec
  have hq := (ra_off : fWriteOff (nI 5) κ = ((-9999001), κ))
  rw [hq] at er ec
  have hg0 : core σ11 = κ := ec
  have er : r12 = (-9999001) := er
  have hok0 := yOk_of hk0 hg0 ht0
  refine zk_top er ?_
  refine lv_ldc hx hb (v := (-9999001)) hown w1 dL_refuses_377 ?_
  refine lv_icmp_ne (tgt := 439) hx hb dL_refuses_379 (by decide) (fun z => absurd (by decide) z) (fun _ => ?_)
  refine lv_aload_n hx hb dL_refuses_382 rfl (lv_at hl 0 rfl) ?_
  refine lv_bipush (v := nI 14) hx hb dL_refuses_383 (by decide) ?_
  refine lv_iconst (v := nI 0) hx hb dL_refuses_385 (by decide) ?_
  refine lv_iconst (v := nI 0) hx hb dL_refuses_386 (by decide) ?_
  refine lv_iconst (v := nI 0) hx hb dL_refuses_387 (by decide) ?_
  refine zk_call1 (va_runS (As := [.ref a.1, .int (nI 14), .int (nI 0), .int (nI 0), .int (nI 0)]) (rest := []) ⟨hx, hb, hml, hown, hts⟩ (c_C_14 l G hst a σ11 hok0 (nI 0) (nI 0) (nI 0) _) (va_cwS 5 hts gL_refuses_L_call rfl rfl rfl (by decide +kernel) ⟨Nat.le_of_ble_eq_true rfl, Nat.le_of_ble_eq_true rfl⟩) (zk_preSH hN hE hA0 hS hP hD) rfl rfl hl.1 rfl (lv_room (Nat.le_of_ble_eq_true rfl)) dL_refuses_388 ⟨by show cells + 2 + 4 + 4 + 2 + 4 + 4 + 4 ≤ 300; omega, by show slots + 12 + 24 + 24 + 12 + 24 + 24 + 24 ≤ 1800; omega⟩) hP hD hS hA (fun r14 σ13 H locs hpost hP hD hS => ?_)
  refine zk_cs (cells + 2 + 4 + 4 + 2 + 4 + 4 + 4) (slots + 12 + 24 + 24 + 12 + 24 + 24 + 24) rfl rfl ?_
  have hP : va_P G.1 vwCl (zw G a σ13) H := hP
  have hD : va_D A (zw G a σ13) := hD
  obtain ⟨⟨er, ec⟩, ht0⟩ := hpost
  rw [hg0] at er ec
  have hq := (ra_days0 : fDays (nI 0) κ = ((-9999002), κ))
  rw [hq] at er ec
  have hg0 : core σ13 = κ := ec
  have er : r14 = (-9999002) := er
  have hok0 := yOk_of hk0 hg0 ht0
  refine zk_top er ?_
  refine lv_ldc hx hb (v := (-9999002)) hown w2 dL_refuses_391 ?_
  refine lv_icmp_ne (tgt := 439) hx hb dL_refuses_393 (by decide) (fun z => absurd (by decide) z) (fun _ => ?_)
  refine lv_aload_n hx hb dL_refuses_396 rfl (lv_at hl 0 rfl) ?_
  refine lv_bipush (v := nI 14) hx hb dL_refuses_397 (by decide) ?_
  refine lv_bipush (v := nI 41) hx hb dL_refuses_399 (by decide) ?_
  refine lv_iload_n hx hb dL_refuses_401 rfl (lv_at hl 1 rfl) ?_
  refine lv_bipush (v := nI 9) hx hb dL_refuses_402 (by decide) ?_
  refine zk_iremN hx hb dL_refuses_404 (by omega) (by omega) (by omega) ?_
  refine zk_iaddN hx hb dL_refuses_405 ?_
  refine lv_iconst (v := nI 0) hx hb dL_refuses_406 (by decide) ?_
  refine lv_iconst (v := nI 0) hx hb dL_refuses_407 (by decide) ?_
  refine zk_call1 (va_runS (As := [.ref a.1, .int (nI 14), .int (nI (41 + (x % 9))), .int (nI 0), .int (nI 0)]) (rest := []) ⟨hx, hb, hml, hown, hts⟩ (c_C_14 l G hst a σ13 hok0 (nI (41 + (x % 9))) (nI 0) (nI 0) _) (va_cwS 5 hts gL_refuses_L_call rfl rfl rfl (by decide +kernel) ⟨Nat.le_of_ble_eq_true rfl, Nat.le_of_ble_eq_true rfl⟩) (zk_preSH hN hE hA0 hS hP hD) rfl rfl hl.1 rfl (lv_room (Nat.le_of_ble_eq_true rfl)) dL_refuses_408 ⟨by show cells + 2 + 4 + 4 + 2 + 4 + 4 + 4 + 4 ≤ 300; omega, by show slots + 12 + 24 + 24 + 12 + 24 + 24 + 24 + 24 ≤ 1800; omega⟩) hP hD hS hA (fun r16 σ15 H locs hpost hP hD hS => ?_)
  refine zk_cs (cells + 2 + 4 + 4 + 2 + 4 + 4 + 4 + 4) (slots + 12 + 24 + 24 + 12 + 24 + 24 + 24 + 24) rfl rfl ?_
  have hP : va_P G.1 vwCl (zw G a σ15) H := hP
  have hD : va_D A (zw G a σ15) := hD
  obtain ⟨⟨er, ec⟩, ht0⟩ := hpost
  rw [hg0] at er ec
  have hq := (ra_days1 (by omega) (by omega) : fDays (nI (41 + (x % 9))) κ = ((-9999002), κ))
  rw [hq] at er ec
  have hg0 : core σ15 = κ := ec
  have er : r16 = (-9999002) := er
  have hok0 := yOk_of hk0 hg0 ht0
  refine zk_top er ?_
  refine lv_ldc hx hb (v := (-9999002)) hown w2 dL_refuses_411 ?_
  refine lv_icmp_ne (tgt := 439) hx hb dL_refuses_413 (by decide) (fun z => absurd (by decide) z) (fun _ => ?_)
  refine lv_iload_n hx hb dL_refuses_416 rfl (lv_at hl 3 rfl) ?_
  refine lv_if_eq (tgt := 435) hx hb dL_refuses_417 (by decide) (fun h417_16 => ?_) (fun h417_16 => ?_)
  · have h417_16 := zk_eq0 (by omega) h417_16
    refine lv_iconst (v := nI 1) hx hb dL_refuses_435 (by decide) ?_
    refine lv_goto (tgt := 440) hx hb dL_refuses_436 (by decide) ?_
    refine lv_istore (lv' := [(4, .int (nI 1)), (0, .ref a.1), (1, .int (nI x)), (2, .int (nI n)), (3, .int (nI t))]) hx hb dL_refuses_440 hl (by decide) rfl (fun ls hl => ?_)
    refine W.widen (k := cells + 44) (n := slots + 264) (by omega) (by omega) ?_
    exact kk σ15 _ _ _ ht0 hg0 hP hD hS (lv_sub hl [1, 2, 3, 4, 0] rfl)
  · have h417_16 := zk_ne0 (by omega) h417_16
    refine lv_aload_n hx hb dL_refuses_420 rfl (lv_at hl 0 rfl) ?_
    refine lv_bipush (v := nI 14) hx hb dL_refuses_421 (by decide) ?_
    refine lv_bipush (v := nI 40) hx hb dL_refuses_423 (by decide) ?_
    refine lv_iconst (v := nI 0) hx hb dL_refuses_425 (by decide) ?_
    refine lv_iconst (v := nI 0) hx hb dL_refuses_426 (by decide) ?_
    refine zk_call1 (va_runS (As := [.ref a.1, .int (nI 14), .int (nI 40), .int (nI 0), .int (nI 0)]) (rest := []) ⟨hx, hb, hml, hown, hts⟩ (c_C_14 l G hst a σ15 hok0 (nI 40) (nI 0) (nI 0) _) (va_cwS 5 hts gL_refuses_L_call rfl rfl rfl (by decide +kernel) ⟨Nat.le_of_ble_eq_true rfl, Nat.le_of_ble_eq_true rfl⟩) (zk_preSH hN hE hA0 hS hP hD) rfl rfl hl.1 rfl (lv_room (Nat.le_of_ble_eq_true rfl)) dL_refuses_427 ⟨by show cells + 2 + 4 + 4 + 2 + 4 + 4 + 4 + 4 + 4 ≤ 300; omega, by show slots + 12 + 24 + 24 + 12 + 24 + 24 + 24 + 24 + 24 ≤ 1800; omega⟩) hP hD hS hA (fun r19 σ18 H locs hpost hP hD hS => ?_)
    refine zk_cs (cells + 2 + 4 + 4 + 2 + 4 + 4 + 4 + 4 + 4) (slots + 12 + 24 + 24 + 12 + 24 + 24 + 24 + 24 + 24) rfl rfl ?_
    have hP : va_P G.1 vwCl (zw G a σ18) H := hP
    have hD : va_D A (zw G a σ18) := hD
    obtain ⟨⟨er, ec⟩, ht0⟩ := hpost
    rw [hg0] at er ec
    have hq := (ra_days2 hI (by omega) : fDays (nI 40) κ = ((-9999003), κ))
    rw [hq] at er ec
    have hg0 : core σ18 = κ := ec
    have er : r19 = (-9999003) := er
    have hok0 := yOk_of hk0 hg0 ht0
    refine zk_top er ?_
    refine lv_ldc hx hb (v := (-9999003)) hown w3 dL_refuses_430 ?_
    refine lv_icmp_ne (tgt := 439) hx hb dL_refuses_432 (by decide) (fun z => absurd (by decide) z) (fun _ => ?_)
    refine lv_iconst (v := nI 1) hx hb dL_refuses_435 (by decide) ?_
    refine lv_goto (tgt := 440) hx hb dL_refuses_436 (by decide) ?_
    refine lv_istore (lv' := [(4, .int (nI 1)), (0, .ref a.1), (1, .int (nI x)), (2, .int (nI n)), (3, .int (nI t))]) hx hb dL_refuses_440 hl (by decide) rfl (fun ls hl => ?_)
    refine W.widen (k := cells + 44) (n := slots + 264) (by omega) (by omega) ?_
    exact kk σ18 _ _ _ ht0 hg0 hP hD hS (lv_sub hl [1, 2, 3, 4, 0] rfl)

set_option maxHeartbeats 4000000 in
set_option maxRecDepth 100000 in
theorem zr_3 {p : Program} {l : Launch} {e : Env} {s : State} {m : MethodId} {args : Array Value} {below : List Frame} {meth : Method} {c : Code} {Q : State → Prop} {A : Nat → Prop} {G : zk_G} {H : Heap} {locs : List Loc} {cells slots : Nat} {ls : Array Slot} (hst : l.stackTraces = false) (F : zFx p s m meth c args cL_refuses 7 (some .boolean) vL_refuses A G) {a : zA} {σ : zSt} {κ : zCo}  (ht0 : zTx σ) (hg0 : core σ = κ) (hk0 : kOk κ) {x n t : Nat} (hx31 : x < 2 ^ 31) (hI : sInv (kL κ) n t) (hP : va_P G.1 vwCl (zw G a σ) H) (hD : va_D A (zw G a σ)) (hS : va_S A s.heap H locs) (hl : lv_has ls 7 [(0, .ref a.1), (1, .int (nI x)), (2, .int (nI n)), (3, .int (nI t)), (4, .int (nI 1))]) (hcs : cells + 44 ≤ 300 ∧ slots + 264 ≤ 1800)
    (kk : ∀ (σ₁ : zSt) (H₁ : Heap) (locs₁ : List Loc) (ls₁ : Array Slot), zTx σ₁ → core σ₁ = κ →  va_P G.1 vwCl (zw G a σ₁) H₁ → va_D A (zw G a σ₁) → va_S A s.heap H₁ locs₁ → lv_has ls₁ 7 [(0, .ref a.1), (1, .int (nI x)), (2, .int (nI n)), (3, .int (nI t)), (4, .int (nI 1))] → W p l e rmL_refuses s m args below meth c H₁ locs₁ (cells + 44) (slots + 264) Q (F0 m 626 ls₁ [])) :
    W p l e rmL_refuses s m args below meth c H locs cells slots Q (F0 m 442 ls []) := by
  obtain ⟨hx, hb, hml, hr, hts, hown, hlocks, hE, hA, hA0, hN⟩ := id F
  have hok0 := yOk_of hk0 hg0 ht0
  have hn12 := hI.2.1
  have ht40 := hI.2.2.2.1
  have w1 := hts _ (List.mem_cons_of_mem _ (memB (in0_wsL_law0_r4 _ (List.mem_of_getElem? (l := wsL_law0_r4) (i := 3) rfl)) rfl))
  have w2 := hts _ (List.mem_cons_of_mem _ (memB (in0_wsL_law0_r4 _ (List.mem_of_getElem? (l := wsL_law0_r4) (i := 4) rfl)) rfl))
  refine lv_iload hx hb dL_refuses_442 (lv_at hl 4 rfl) ?_
  refine lv_if_eq (tgt := 623) hx hb dL_refuses_444 (by decide) (fun z => absurd z (by decide)) (fun _ => ?_)
  refine lv_aload_n hx hb dL_refuses_447 rfl (lv_at hl 0 rfl) ?_
  refine lv_bipush (v := nI 15) hx hb dL_refuses_448 (by decide) ?_
  refine lv_iconst (v := nI 0) hx hb dL_refuses_450 (by decide) ?_
  refine lv_sipush (v := nI 1000) hx hb dL_refuses_451 (by decide) ?_
  refine lv_iload_n hx hb dL_refuses_454 rfl (lv_at hl 1 rfl) ?_
  refine lv_bipush (v := nI 9) hx hb dL_refuses_455 (by decide) ?_
  refine zk_iremN hx hb dL_refuses_457 (by omega) (by omega) (by omega) ?_
  refine zk_iaddN hx hb dL_refuses_458 ?_
  refine lv_iconst (v := nI 0) hx hb dL_refuses_459 (by decide) ?_
  refine zk_call1 (va_runS (As := [.ref a.1, .int (nI 15), .int (nI 0), .int (nI (1000 + (x % 9))), .int (nI 0)]) (rest := []) ⟨hx, hb, hml, hown, hts⟩ (c_C_15 l G hst a σ hok0 (nI 0) (nI (1000 + (x % 9))) (nI 0) _) (va_cwS 5 hts gL_refuses_L_call rfl rfl rfl (by decide +kernel) ⟨Nat.le_of_ble_eq_true rfl, Nat.le_of_ble_eq_true rfl⟩) (zk_preSH hN hE hA0 hS hP hD) rfl rfl hl.1 rfl (lv_room (Nat.le_of_ble_eq_true rfl)) dL_refuses_460 ⟨by show cells + 4 ≤ 300; omega, by show slots + 24 ≤ 1800; omega⟩) hP hD hS hA (fun r2 σ1 H locs hpost hP hD hS => ?_)
  refine zk_cs (cells + 4) (slots + 24) rfl rfl ?_
  have hP : va_P G.1 vwCl (zw G a σ1) H := hP
  have hD : va_D A (zw G a σ1) := hD
  obtain ⟨⟨er, ec⟩, ht0⟩ := hpost
  rw [hg0] at er ec
  have hq := (ra_set1 (by omega) (by omega) : fSet (nI 0) (nI (1000 + (x % 9))) κ = ((-9999002), κ))
  rw [hq] at er ec
  have hg0 : core σ1 = κ := ec
  have er : r2 = (-9999002) := er
  have hok0 := yOk_of hk0 hg0 ht0
  refine zk_top er ?_
  refine lv_ldc hx hb (v := (-9999002)) hown w1 dL_refuses_463 ?_
  refine lv_icmp_ne (tgt := 623) hx hb dL_refuses_465 (by decide) (fun z => absurd (by decide) z) (fun _ => ?_)
  refine lv_aload_n hx hb dL_refuses_468 rfl (lv_at hl 0 rfl) ?_
  refine lv_bipush (v := nI 15) hx hb dL_refuses_469 (by decide) ?_
  refine lv_iconst (v := nI 0) hx hb dL_refuses_471 (by decide) ?_
  refine lv_iconst (v := nI 0) hx hb dL_refuses_472 (by decide) ?_
  refine lv_iconst (v := nI 0) hx hb dL_refuses_473 (by decide) ?_
  refine zk_call1 (va_runS (As := [.ref a.1, .int (nI 15), .int (nI 0), .int (nI 0), .int (nI 0)]) (rest := []) ⟨hx, hb, hml, hown, hts⟩ (c_C_15 l G hst a σ1 hok0 (nI 0) (nI 0) (nI 0) _) (va_cwS 5 hts gL_refuses_L_call rfl rfl rfl (by decide +kernel) ⟨Nat.le_of_ble_eq_true rfl, Nat.le_of_ble_eq_true rfl⟩) (zk_preSH hN hE hA0 hS hP hD) rfl rfl hl.1 rfl (lv_room (Nat.le_of_ble_eq_true rfl)) dL_refuses_474 ⟨by show cells + 4 + 4 ≤ 300; omega, by show slots + 24 + 24 ≤ 1800; omega⟩) hP hD hS hA (fun r4 σ3 H locs hpost hP hD hS => ?_)
  refine zk_cs (cells + 4 + 4) (slots + 24 + 24) rfl rfl ?_
  have hP : va_P G.1 vwCl (zw G a σ3) H := hP
  have hD : va_D A (zw G a σ3) := hD
  obtain ⟨⟨er, ec⟩, ht0⟩ := hpost
  rw [hg0] at er ec
  have hq := (ra_set0 : fSet (nI 0) (nI 0) κ = ((-9999002), κ))
  rw [hq] at er ec
  have hg0 : core σ3 = κ := ec
  have er : r4 = (-9999002) := er
  have hok0 := yOk_of hk0 hg0 ht0
  refine zk_top er ?_
  refine lv_ldc hx hb (v := (-9999002)) hown w1 dL_refuses_477 ?_
  refine lv_icmp_ne (tgt := 623) hx hb dL_refuses_479 (by decide) (fun z => absurd (by decide) z) (fun _ => ?_)
  refine lv_aload_n hx hb dL_refuses_482 rfl (lv_at hl 0 rfl) ?_
  refine lv_bipush (v := nI 15) hx hb dL_refuses_483 (by decide) ?_
  refine lv_iconst (v := nI 1) hx hb dL_refuses_485 (by decide) ?_
  refine lv_sipush (v := nI 10000) hx hb dL_refuses_486 (by decide) ?_
  refine lv_iload_n hx hb dL_refuses_489 rfl (lv_at hl 1 rfl) ?_
  refine lv_bipush (v := nI 9) hx hb dL_refuses_490 (by decide) ?_
  refine zk_iremN hx hb dL_refuses_492 (by omega) (by omega) (by omega) ?_
  refine zk_iaddN hx hb dL_refuses_493 ?_
  refine lv_iconst (v := nI 0) hx hb dL_refuses_494 (by decide) ?_
  refine zk_call1 (va_runS (As := [.ref a.1, .int (nI 15), .int (nI 1), .int (nI (10000 + (x % 9))), .int (nI 0)]) (rest := []) ⟨hx, hb, hml, hown, hts⟩ (c_C_15 l G hst a σ3 hok0 (nI 1) (nI (10000 + (x % 9))) (nI 0) _) (va_cwS 5 hts gL_refuses_L_call rfl rfl rfl (by decide +kernel) ⟨Nat.le_of_ble_eq_true rfl, Nat.le_of_ble_eq_true rfl⟩) (zk_preSH hN hE hA0 hS hP hD) rfl rfl hl.1 rfl (lv_room (Nat.le_of_ble_eq_true rfl)) dL_refuses_495 ⟨by show cells + 4 + 4 + 4 ≤ 300; omega, by show slots + 24 + 24 + 24 ≤ 1800; omega⟩) hP hD hS hA (fun r6 σ5 H locs hpost hP hD hS => ?_)
  refine zk_cs (cells + 4 + 4 + 4) (slots + 24 + 24 + 24) rfl rfl ?_
  have hP : va_P G.1 vwCl (zw G a σ5) H := hP
  have hD : va_D A (zw G a σ5) := hD
  obtain ⟨⟨er, ec⟩, ht0⟩ := hpost
  rw [hg0] at er ec
  have hq := (ra_set2 (by omega) (by omega) : fSet (nI 1) (nI (10000 + (x % 9))) κ = ((-9999002), κ))
  rw [hq] at er ec
  have hg0 : core σ5 = κ := ec
  have er : r6 = (-9999002) := er
  have hok0 := yOk_of hk0 hg0 ht0
  refine zk_top er ?_
  refine lv_ldc hx hb (v := (-9999002)) hown w1 dL_refuses_498 ?_
  refine lv_icmp_ne (tgt := 623) hx hb dL_refuses_500 (by decide) (fun z => absurd (by decide) z) (fun _ => ?_)
  refine lv_aload_n hx hb dL_refuses_503 rfl (lv_at hl 0 rfl) ?_
  refine lv_bipush (v := nI 17) hx hb dL_refuses_504 (by decide) ?_
  refine lv_iload_n hx hb dL_refuses_506 rfl (lv_at hl 2 rfl) ?_
  refine lv_iconst (v := nI 0) hx hb dL_refuses_507 (by decide) ?_
  refine lv_iconst (v := nI 0) hx hb dL_refuses_508 (by decide) ?_
  refine zk_call1 (va_runS (As := [.ref a.1, .int (nI 17), .int (nI n), .int (nI 0), .int (nI 0)]) (rest := []) ⟨hx, hb, hml, hown, hts⟩ (c_C_17 l G hst a σ5 hok0 (nI n) (nI 0) (nI 0) _) (va_cwS 5 hts gL_refuses_L_call rfl rfl rfl (by decide +kernel) ⟨Nat.le_of_ble_eq_true rfl, Nat.le_of_ble_eq_true rfl⟩) (zk_preSH hN hE hA0 hS hP hD) rfl rfl hl.1 rfl (lv_room (Nat.le_of_ble_eq_true rfl)) dL_refuses_509 ⟨by show cells + 4 + 4 + 4 + 4 ≤ 300; omega, by show slots + 24 + 24 + 24 + 24 ≤ 1800; omega⟩) hP hD hS hA (fun r8 σ7 H locs hpost hP hD hS => ?_)
  refine zk_cs (cells + 4 + 4 + 4 + 4) (slots + 24 + 24 + 24 + 24) rfl rfl ?_
  have hP : va_P G.1 vwCl (zw G a σ7) H := hP
  have hD : va_D A (zw G a σ7) := hD
  obtain ⟨⟨er, ec⟩, ht0⟩ := hpost
  rw [hg0] at er ec
  have hg0 := ec
  have hok0 := yOk_of hk0 hg0 ht0
  refine zk_top (er.trans (ra_ref hI (Nat.le_refl n) (by omega))) ?_
  refine lv_ldc hx hb (v := (-9999001)) hown w2 dL_refuses_512 ?_
  refine lv_icmp_ne (tgt := 623) hx hb dL_refuses_514 (by decide) (fun z => absurd (by decide) z) (fun _ => ?_)
  refine lv_aload_n hx hb dL_refuses_517 rfl (lv_at hl 0 rfl) ?_
  refine lv_bipush (v := nI 18) hx hb dL_refuses_518 (by decide) ?_
  refine lv_iconst (v := nI 5) hx hb dL_refuses_520 (by decide) ?_
  refine lv_iload_n hx hb dL_refuses_521 rfl (lv_at hl 1 rfl) ?_
  refine lv_bipush (v := nI 9) hx hb dL_refuses_522 (by decide) ?_
  refine zk_iremN hx hb dL_refuses_524 (by omega) (by omega) (by omega) ?_
  refine zk_iaddN hx hb dL_refuses_525 ?_
  refine lv_iconst (v := nI 0) hx hb dL_refuses_526 (by decide) ?_
  refine lv_iconst (v := nI 0) hx hb dL_refuses_527 (by decide) ?_
  refine zk_call1 (va_runS (As := [.ref a.1, .int (nI 18), .int (nI (5 + (x % 9))), .int (nI 0), .int (nI 0)]) (rest := []) ⟨hx, hb, hml, hown, hts⟩ (c_C_18 l G hst a σ7 hok0 (nI (5 + (x % 9))) (nI 0) (nI 0) _) (va_cwS 5 hts gL_refuses_L_call rfl rfl rfl (by decide +kernel) ⟨Nat.le_of_ble_eq_true rfl, Nat.le_of_ble_eq_true rfl⟩) (zk_preSH hN hE hA0 hS hP hD) rfl rfl hl.1 rfl (lv_room (Nat.le_of_ble_eq_true rfl)) dL_refuses_528 ⟨by show cells + 4 + 4 + 4 + 4 + 4 ≤ 300; omega, by show slots + 24 + 24 + 24 + 24 + 24 ≤ 1800; omega⟩) hP hD hS hA (fun r10 σ9 H locs hpost hP hD hS => ?_)
  refine zk_cs (cells + 4 + 4 + 4 + 4 + 4) (slots + 24 + 24 + 24 + 24 + 24) rfl rfl ?_
  have hP : va_P G.1 vwCl (zw G a σ9) H := hP
  have hD : va_D A (zw G a σ9) := hD
  obtain ⟨⟨er, ec⟩, ht0⟩ := hpost
  rw [hg0] at er ec
  have er := ra_needs (by omega) (by omega) er
  have hg0 := ec
  have hok0 := yOk_of hk0 hg0 ht0
  refine zk_top er ?_
  refine lv_ldc hx hb (v := (-9999001)) hown w2 dL_refuses_531 ?_
  refine lv_icmp_ne (tgt := 623) hx hb dL_refuses_533 (by decide) (fun z => absurd (by decide) z) (fun _ => ?_)
  refine lv_aload_n hx hb dL_refuses_536 rfl (lv_at hl 0 rfl) ?_
  refine lv_bipush (v := nI 19) hx hb dL_refuses_537 (by decide) ?_
  refine lv_iconst (v := -1) hx hb dL_refuses_539 (by decide) ?_
  refine lv_iconst (v := nI 0) hx hb dL_refuses_540 (by decide) ?_
  refine lv_iconst (v := nI 0) hx hb dL_refuses_541 (by decide) ?_
  refine zk_call1 (va_runS (As := [.ref a.1, .int (nI 19), .int (-1), .int (nI 0), .int (nI 0)]) (rest := []) ⟨hx, hb, hml, hown, hts⟩ (c_C_19 l G hst a σ9 hok0 (-1) (nI 0) (nI 0) _) (va_cwS 5 hts gL_refuses_L_call rfl rfl rfl (by decide +kernel) ⟨Nat.le_of_ble_eq_true rfl, Nat.le_of_ble_eq_true rfl⟩) (zk_preSH hN hE hA0 hS hP hD) rfl rfl hl.1 rfl (lv_room (Nat.le_of_ble_eq_true rfl)) dL_refuses_542 ⟨by show cells + 4 + 4 + 4 + 4 + 4 + 4 ≤ 300; omega, by show slots + 24 + 24 + 24 + 24 + 24 + 24 ≤ 1800; omega⟩) hP hD hS hA (fun r12 σ11 H locs hpost hP hD hS => ?_)
  refine zk_cs (cells + 4 + 4 + 4 + 4 + 4 + 4) (slots + 24 + 24 + 24 + 24 + 24 + 24) rfl rfl ?_
  have hP : va_P G.1 vwCl (zw G a σ11) H := hP
  have hD : va_D A (zw G a σ11) := hD
  obtain ⟨⟨er, ec⟩, ht0⟩ := hpost
  rw [hg0] at er ec
  have hg0 := ec
  have hok0 := yOk_of hk0 hg0 ht0
  refine zk_top (er.trans (ra_ife1 _ _)) ?_
  refine lv_ldc hx hb (v := (-9999001)) hown w2 dL_refuses_545 ?_
  refine lv_icmp_ne (tgt := 623) hx hb dL_refuses_547 (by decide) (fun z => absurd (by decide) z) (fun _ => ?_)
  refine lv_aload_n hx hb dL_refuses_550 rfl (lv_at hl 0 rfl) ?_
  refine lv_bipush (v := nI 20) hx hb dL_refuses_551 (by decide) ?_
  refine lv_sipush (v := nI 1000) hx hb dL_refuses_553 (by decide) ?_
  refine lv_iload_n hx hb dL_refuses_556 rfl (lv_at hl 1 rfl) ?_
  refine lv_bipush (v := nI 9) hx hb dL_refuses_557 (by decide) ?_
  refine zk_iremN hx hb dL_refuses_559 (by omega) (by omega) (by omega) ?_
  refine zk_iaddN hx hb dL_refuses_560 ?_
  refine lv_iconst (v := nI 0) hx hb dL_refuses_561 (by decide) ?_
  refine lv_iconst (v := nI 0) hx hb dL_refuses_562 (by decide) ?_
  refine zk_call1 (va_runS (As := [.ref a.1, .int (nI 20), .int (nI (1000 + (x % 9))), .int (nI 0), .int (nI 0)]) (rest := []) ⟨hx, hb, hml, hown, hts⟩ (c_C_20 l G hst a σ11 hok0 (nI (1000 + (x % 9))) (nI 0) (nI 0) _) (va_cwS 5 hts gL_refuses_L_call rfl rfl rfl (by decide +kernel) ⟨Nat.le_of_ble_eq_true rfl, Nat.le_of_ble_eq_true rfl⟩) (zk_preSH hN hE hA0 hS hP hD) rfl rfl hl.1 rfl (lv_room (Nat.le_of_ble_eq_true rfl)) dL_refuses_563 ⟨by show cells + 4 + 4 + 4 + 4 + 4 + 4 + 4 ≤ 300; omega, by show slots + 24 + 24 + 24 + 24 + 24 + 24 + 24 ≤ 1800; omega⟩) hP hD hS hA (fun r14 σ13 H locs hpost hP hD hS => ?_)
  refine zk_cs (cells + 4 + 4 + 4 + 4 + 4 + 4 + 4) (slots + 24 + 24 + 24 + 24 + 24 + 24 + 24) rfl rfl ?_
  have hP : va_P G.1 vwCl (zw G a σ13) H := hP
  have hD : va_D A (zw G a σ13) := hD
  obtain ⟨⟨er, ec⟩, ht0⟩ := hpost
  rw [hg0] at er ec
  have hg0 := ec
  have hok0 := yOk_of hk0 hg0 ht0
  refine zk_top (er.trans (ra_ifp (by omega) (by omega))) ?_
  refine lv_ldc hx hb (v := (-9999002)) hown w1 dL_refuses_566 ?_
  refine lv_icmp_ne (tgt := 623) hx hb dL_refuses_568 (by decide) (fun z => absurd (by decide) z) (fun _ => ?_)
  refine lv_aload_n hx hb dL_refuses_571 rfl (lv_at hl 0 rfl) ?_
  refine lv_bipush (v := nI 21) hx hb dL_refuses_572 (by decide) ?_
  refine lv_iconst (v := nI 2) hx hb dL_refuses_574 (by decide) ?_
  refine lv_iconst (v := nI 0) hx hb dL_refuses_575 (by decide) ?_
  refine lv_iconst (v := nI 0) hx hb dL_refuses_576 (by decide) ?_
  refine zk_call1 (va_runS (As := [.ref a.1, .int (nI 21), .int (nI 2), .int (nI 0), .int (nI 0)]) (rest := []) ⟨hx, hb, hml, hown, hts⟩ (c_C_21 l G hst a σ13 hok0 (nI 2) (nI 0) (nI 0) _) (va_cwS 5 hts gL_refuses_L_call rfl rfl rfl (by decide +kernel) ⟨Nat.le_of_ble_eq_true rfl, Nat.le_of_ble_eq_true rfl⟩) (zk_preSH hN hE hA0 hS hP hD) rfl rfl hl.1 rfl (lv_room (Nat.le_of_ble_eq_true rfl)) dL_refuses_577 ⟨by show cells + 4 + 4 + 4 + 4 + 4 + 4 + 4 + 4 ≤ 300; omega, by show slots + 24 + 24 + 24 + 24 + 24 + 24 + 24 + 24 ≤ 1800; omega⟩) hP hD hS hA (fun r16 σ15 H locs hpost hP hD hS => ?_)
  refine zk_cs (cells + 4 + 4 + 4 + 4 + 4 + 4 + 4 + 4) (slots + 24 + 24 + 24 + 24 + 24 + 24 + 24 + 24) rfl rfl ?_
  have hP : va_P G.1 vwCl (zw G a σ15) H := hP
  have hD : va_D A (zw G a σ15) := hD
  obtain ⟨⟨er, ec⟩, ht0⟩ := hpost
  rw [hg0] at er ec
  have hq := (ra_keep : fKeep (nI 2) κ = ((-9999001), κ))
  rw [hq] at er ec
  have hg0 : core σ15 = κ := ec
  have er : r16 = (-9999001) := er
  have hok0 := yOk_of hk0 hg0 ht0
  refine zk_top er ?_
  refine lv_ldc hx hb (v := (-9999001)) hown w2 dL_refuses_580 ?_
  refine lv_icmp_ne (tgt := 623) hx hb dL_refuses_582 (by decide) (fun z => absurd (by decide) z) (fun _ => ?_)
  refine lv_aload_n hx hb dL_refuses_585 rfl (lv_at hl 0 rfl) ?_
  refine lv_bipush (v := nI 22) hx hb dL_refuses_586 (by decide) ?_
  refine lv_iconst (v := -1) hx hb dL_refuses_588 (by decide) ?_
  refine lv_iconst (v := nI 0) hx hb dL_refuses_589 (by decide) ?_
  refine lv_iconst (v := nI 0) hx hb dL_refuses_590 (by decide) ?_
  refine zk_call1 (va_runS (As := [.ref a.1, .int (nI 22), .int (-1), .int (nI 0), .int (nI 0)]) (rest := []) ⟨hx, hb, hml, hown, hts⟩ (c_C_22 l G hst a σ15 hok0 (-1) (nI 0) (nI 0) _) (va_cwS 5 hts gL_refuses_L_call rfl rfl rfl (by decide +kernel) ⟨Nat.le_of_ble_eq_true rfl, Nat.le_of_ble_eq_true rfl⟩) (zk_preSH hN hE hA0 hS hP hD) rfl rfl hl.1 rfl (lv_room (Nat.le_of_ble_eq_true rfl)) dL_refuses_591 ⟨by show cells + 4 + 4 + 4 + 4 + 4 + 4 + 4 + 4 + 4 ≤ 300; omega, by show slots + 24 + 24 + 24 + 24 + 24 + 24 + 24 + 24 + 24 ≤ 1800; omega⟩) hP hD hS hA (fun r18 σ17 H locs hpost hP hD hS => ?_)
  refine zk_cs (cells + 4 + 4 + 4 + 4 + 4 + 4 + 4 + 4 + 4) (slots + 24 + 24 + 24 + 24 + 24 + 24 + 24 + 24 + 24) rfl rfl ?_
  have hP : va_P G.1 vwCl (zw G a σ17) H := hP
  have hD : va_D A (zw G a σ17) := hD
  obtain ⟨⟨er, ec⟩, ht0⟩ := hpost
  rw [hg0] at er ec
  have hq := (ra_back : fBack (-1) κ = ((-9999001), κ))
  rw [hq] at er ec
  have hg0 : core σ17 = κ := ec
  have er : r18 = (-9999001) := er
  have hok0 := yOk_of hk0 hg0 ht0
  refine zk_top er ?_
  refine lv_ldc hx hb (v := (-9999001)) hown w2 dL_refuses_594 ?_
  refine lv_icmp_ne (tgt := 623) hx hb dL_refuses_596 (by decide) (fun z => absurd (by decide) z) (fun _ => ?_)
  refine lv_aload_n hx hb dL_refuses_599 rfl (lv_at hl 0 rfl) ?_
  refine lv_iconst (v := nI 0) hx hb dL_refuses_600 (by decide) ?_
  refine lv_sipush (v := nI 256) hx hb dL_refuses_601 (by decide) ?_
  refine lv_iload_n hx hb dL_refuses_604 rfl (lv_at hl 1 rfl) ?_
  refine lv_bipush (v := nI 9) hx hb dL_refuses_605 (by decide) ?_
  refine zk_iremN hx hb dL_refuses_607 (by omega) (by omega) (by omega) ?_
  refine zk_iaddN hx hb dL_refuses_608 ?_
  refine lv_iconst (v := nI 0) hx hb dL_refuses_609 (by decide) ?_
  refine lv_iconst (v := nI 0) hx hb dL_refuses_610 (by decide) ?_
  refine zk_call1 (va_runS (As := [.ref a.1, .int (nI 0), .int (nI (256 + (x % 9))), .int (nI 0), .int (nI 0)]) (rest := []) ⟨hx, hb, hml, hown, hts⟩ (c_C_0 l G hst a σ17 hok0 (nI (256 + (x % 9))) (nI 0) (nI 0) _) (va_cwS 5 hts gL_refuses_L_call rfl rfl rfl (by decide +kernel) ⟨Nat.le_of_ble_eq_true rfl, Nat.le_of_ble_eq_true rfl⟩) (zk_preSH hN hE hA0 hS hP hD) rfl rfl hl.1 rfl (lv_room (Nat.le_of_ble_eq_true rfl)) dL_refuses_611 ⟨by show cells + 4 + 4 + 4 + 4 + 4 + 4 + 4 + 4 + 4 + 4 ≤ 300; omega, by show slots + 24 + 24 + 24 + 24 + 24 + 24 + 24 + 24 + 24 + 24 ≤ 1800; omega⟩) hP hD hS hA (fun r20 σ19 H locs hpost hP hD hS => ?_)
  refine zk_cs (cells + 4 + 4 + 4 + 4 + 4 + 4 + 4 + 4 + 4 + 4) (slots + 24 + 24 + 24 + 24 + 24 + 24 + 24 + 24 + 24 + 24) rfl rfl ?_
  have hP : va_P G.1 vwCl (zw G a σ19) H := hP
  have hD : va_D A (zw G a σ19) := hD
  obtain ⟨⟨er, ec⟩, ht0⟩ := hpost
  rw [hg0] at er ec
  have hq := (ra_app (by omega) (by omega) : fAppend (nI (256 + (x % 9))) κ = ((-9999002), κ))
  rw [hq] at er ec
  have hg0 : core σ19 = κ := ec
  have er : r20 = (-9999002) := er
  have hok0 := yOk_of hk0 hg0 ht0
  refine zk_top er ?_
  refine lv_ldc hx hb (v := (-9999002)) hown w1 dL_refuses_614 ?_
  refine lv_icmp_ne (tgt := 623) hx hb dL_refuses_616 (by decide) (fun z => absurd (by decide) z) (fun _ => ?_)
  refine lv_iconst (v := nI 1) hx hb dL_refuses_619 (by decide) ?_
  refine lv_goto (tgt := 624) hx hb dL_refuses_620 (by decide) ?_
  refine lv_istore (lv' := [(4, .int (nI 1)), (0, .ref a.1), (1, .int (nI x)), (2, .int (nI n)), (3, .int (nI t))]) hx hb dL_refuses_624 hl (by decide) rfl (fun ls hl => ?_)
  refine W.widen (k := cells + 44) (n := slots + 264) (by omega) (by omega) ?_
  exact kk σ19 _ _ _ ht0 hg0 hP hD hS (lv_sub hl [1, 2, 3, 4, 0] rfl)

set_option maxHeartbeats 4000000 in
set_option maxRecDepth 100000 in
theorem zr_4a {p : Program} {l : Launch} {e : Env} {s : State} {m : MethodId} {args : Array Value} {below : List Frame} {meth : Method} {c : Code} {Q : State → Prop} {A : Nat → Prop} {G : zk_G} {H : Heap} {locs : List Loc} {cells slots : Nat} {ls : Array Slot} (hst : l.stackTraces = false) (F : zFx p s m meth c args cL_refuses 7 (some .boolean) vL_refuses A G) {a : zA} {σ : zSt} {κ : zCo}  (ht0 : zTx σ) (hg0 : core σ = κ) (hk0 : kOk κ) {x n t : Nat} (hx31 : x < 2 ^ 31) (hI : sInv (kL κ) n t) (hcn : x % n < n) (hbal : ∀ c, c < n → bB 1000000000 (kL κ 3 c)) (hP : va_P G.1 vwCl (zw G a σ) H) (hD : va_D A (zw G a σ)) (hS : va_S A s.heap H locs) (hl : lv_has ls 7 [(0, .ref a.1), (1, .int (nI x)), (2, .int (nI n)), (3, .int (nI t)), (4, .int (nI 1)), (5, .int (nI (x % n)))]) (hcs : cells + 24 ≤ 300 ∧ slots + 144 ≤ 1800)
    (kk : ∀ (σ₁ : zSt) (H₁ : Heap) (locs₁ : List Loc) (ls₁ : Array Slot), zTx σ₁ → core σ₁ = κ →  va_P G.1 vwCl (zw G a σ₁) H₁ → va_D A (zw G a σ₁) → va_S A s.heap H₁ locs₁ → lv_has ls₁ 7 [(0, .ref a.1), (1, .int (nI x)), (2, .int (nI n)), (3, .int (nI t)), (4, .int (nI 1)), (5, .int (nI (x % n))), (6, .int (kL κ 3 (x % n)))] → W p l e rmL_refuses s m args below meth c H₁ locs₁ (cells + 24) (slots + 144) Q (F0 m 748 ls₁ [])) :
    W p l e rmL_refuses s m args below meth c H locs cells slots Q (F0 m 635 ls []) := by
  obtain ⟨hx, hb, hml, hr, hts, hown, hlocks, hE, hA, hA0, hN⟩ := id F
  have hok0 := yOk_of hk0 hg0 ht0
  have hn12 := hI.2.1
  have ht40 := hI.2.2.2.1
  have w1 := hts _ (List.mem_cons_of_mem _ (memB (in0_wsL_law0_r4 _ (List.mem_of_getElem? (l := wsL_law0_r4) (i := 3) rfl)) rfl))
  have w2 := hts _ (List.mem_cons_of_mem _ (memB (in0_wsL_law0_r4 _ (List.mem_of_getElem? (l := wsL_law0_r4) (i := 4) rfl)) rfl))
  refine lv_aload_n hx hb dL_refuses_635 rfl (lv_at hl 0 rfl) ?_
  refine lv_iconst (v := nI 3) hx hb dL_refuses_636 (by decide) ?_
  refine lv_iload hx hb dL_refuses_637 (lv_at hl 5 rfl) ?_
  refine lv_iconst (v := nI 2) hx hb dL_refuses_639 (by decide) ?_
  refine lv_iconst (v := nI 0) hx hb dL_refuses_640 (by decide) ?_
  refine zk_call1 (va_runS (As := [.ref a.1, .int (nI 3), .int (nI (x % n)), .int (nI 2), .int (nI 0)]) (rest := []) ⟨hx, hb, hml, hown, hts⟩ (c_C_3 l G hst a σ hok0 (nI (x % n)) (nI 2) (nI 0) _) (va_cwS 5 hts gL_refuses_L_call rfl rfl rfl (by decide +kernel) ⟨Nat.le_of_ble_eq_true rfl, Nat.le_of_ble_eq_true rfl⟩) (zk_preSH hN hE hA0 hS hP hD) rfl rfl hl.1 rfl (lv_room (Nat.le_of_ble_eq_true rfl)) dL_refuses_641 ⟨by show cells + 4 ≤ 300; omega, by show slots + 24 ≤ 1800; omega⟩) hP hD hS hA (fun r2 σ1 H locs hpost hP hD hS => ?_)
  refine zk_cs (cells + 4) (slots + 24) rfl rfl ?_
  have hP : va_P G.1 vwCl (zw G a σ1) H := hP
  have hD : va_D A (zw G a σ1) := hD
  obtain ⟨⟨er, ec⟩, ht0⟩ := hpost
  rw [hg0] at er ec
  have hg0 := ec
  have hok0 := yOk_of hk0 hg0 ht0
  refine zk_top (er.trans (ra_bal hI hcn)) ?_
  refine lv_istore (lv' := [(6, .int (kL κ 3 (x % n))), (0, .ref a.1), (1, .int (nI x)), (2, .int (nI n)), (3, .int (nI t)), (4, .int (nI 1)), (5, .int (nI (x % n)))]) hx hb dL_refuses_644 hl (by decide) rfl (fun ls hl => ?_)
  refine lv_iload hx hb dL_refuses_646 (lv_at hl 5 rfl) ?_
  refine lv_if_eq (tgt := 921) hx hb dL_refuses_648 (by decide) (fun z => absurd z (by decide)) (fun _ => ?_)
  refine lv_aload_n hx hb dL_refuses_651 rfl (lv_at hl 1 rfl) ?_
  refine lv_iconst (v := nI 3) hx hb dL_refuses_652 (by decide) ?_
  refine lv_iload hx hb dL_refuses_653 (lv_at hl 6 rfl) ?_
  refine lv_bipush (v := nI 9) hx hb dL_refuses_655 (by decide) ?_
  refine lv_iload_n hx hb dL_refuses_657 rfl (lv_at hl 2 rfl) ?_
  refine lv_bipush (v := nI 9) hx hb dL_refuses_658 (by decide) ?_
  refine zk_iremN hx hb dL_refuses_660 (by omega) (by omega) (by omega) ?_
  refine zk_iaddN hx hb dL_refuses_661 ?_
  refine lv_iconst (v := nI 0) hx hb dL_refuses_662 (by decide) ?_
  refine zk_call1 (va_runS (As := [.ref a.1, .int (nI 3), .int (nI (x % n)), .int (nI (9 + (x % 9))), .int (nI 0)]) (rest := []) ⟨hx, hb, hml, hown, hts⟩ (c_C_3 l G hst a σ1 hok0 (nI (x % n)) (nI (9 + (x % 9))) (nI 0) _) (va_cwS 5 hts gL_refuses_L_call rfl rfl rfl (by decide +kernel) ⟨Nat.le_of_ble_eq_true rfl, Nat.le_of_ble_eq_true rfl⟩) (zk_preSH hN hE hA0 hS hP hD) rfl rfl hl.1 rfl (lv_room (Nat.le_of_ble_eq_true rfl)) dL_refuses_663 ⟨by show cells + 4 + 4 ≤ 300; omega, by show slots + 24 + 24 ≤ 1800; omega⟩) hP hD hS hA (fun r4 σ3 H locs hpost hP hD hS => ?_)
  refine zk_cs (cells + 4 + 4) (slots + 24 + 24) rfl rfl ?_
  have hP : va_P G.1 vwCl (zw G a σ3) H := hP
  have hD : va_D A (zw G a σ3) := hD
  obtain ⟨⟨er, ec⟩, ht0⟩ := hpost
  rw [hg0] at er ec
  have hg0 := ec
  have hok0 := yOk_of hk0 hg0 ht0
  refine zk_top (er.trans (ra_child2 hI hcn (by omega) (by omega))) ?_
  refine lv_ldc hx hb (v := (-9999002)) hown w1 dL_refuses_666 ?_
  refine lv_icmp_ne (tgt := 921) hx hb dL_refuses_668 (by decide) (fun z => absurd (by decide) z) (fun _ => ?_)
  refine lv_aload_n hx hb dL_refuses_671 rfl (lv_at hl 1 rfl) ?_
  refine lv_bipush (v := nI 6) hx hb dL_refuses_672 (by decide) ?_
  refine lv_iload hx hb dL_refuses_674 (lv_at hl 6 rfl) ?_
  refine lv_bipush (v := nI 40) hx hb dL_refuses_676 (by decide) ?_
  refine lv_bipush (v := nI 9) hx hb dL_refuses_678 (by decide) ?_
  refine zk_call1 (va_runS (As := [.ref a.1, .int (nI 6), .int (nI (x % n)), .int (nI 40), .int (nI 9)]) (rest := []) ⟨hx, hb, hml, hown, hts⟩ (c_C_6 l G hst a σ3 hok0 (nI (x % n)) (nI 40) (nI 9) _) (va_cwS 5 hts gL_refuses_L_call rfl rfl rfl (by decide +kernel) ⟨Nat.le_of_ble_eq_true rfl, Nat.le_of_ble_eq_true rfl⟩) (zk_preSH hN hE hA0 hS hP hD) rfl rfl hl.1 rfl (lv_room (Nat.le_of_ble_eq_true rfl)) dL_refuses_680 ⟨by show cells + 4 + 4 + 4 ≤ 300; omega, by show slots + 24 + 24 + 24 ≤ 1800; omega⟩) hP hD hS hA (fun r6 σ5 H locs hpost hP hD hS => ?_)
  refine zk_cs (cells + 4 + 4 + 4) (slots + 24 + 24 + 24) rfl rfl ?_
  have hP : va_P G.1 vwCl (zw G a σ5) H := hP
  have hD : va_D A (zw G a σ5) := hD
  obtain ⟨⟨er, ec⟩, ht0⟩ := hpost
  rw [hg0] at er ec
  have hg0 := ec
  have hok0 := yOk_of hk0 hg0 ht0
  refine zk_top (er.trans (ra_meal2 (by omega) (by omega) _ _)) ?_
  refine lv_ldc hx hb (v := (-9999001)) hown w2 dL_refuses_683 ?_
  refine lv_icmp_ne (tgt := 921) hx hb dL_refuses_685 (by decide) (fun z => absurd (by decide) z) (fun _ => ?_)
  refine lv_aload_n hx hb dL_refuses_688 rfl (lv_at hl 1 rfl) ?_
  refine lv_bipush (v := nI 6) hx hb dL_refuses_689 (by decide) ?_
  refine lv_iload hx hb dL_refuses_691 (lv_at hl 6 rfl) ?_
  refine lv_iload_n hx hb dL_refuses_693 rfl (lv_at hl 2 rfl) ?_
  refine lv_bipush (v := nI 40) hx hb dL_refuses_694 (by decide) ?_
  refine zk_iremN hx hb dL_refuses_696 (by omega) (by omega) (by omega) ?_
  refine lv_iconst (v := nI 3) hx hb dL_refuses_697 (by decide) ?_
  refine lv_iload_n hx hb dL_refuses_698 rfl (lv_at hl 2 rfl) ?_
  refine lv_bipush (v := nI 9) hx hb dL_refuses_699 (by decide) ?_
  refine zk_iremN hx hb dL_refuses_701 (by omega) (by omega) (by omega) ?_
  refine zk_iaddN hx hb dL_refuses_702 ?_
  refine zk_call1 (va_runS (As := [.ref a.1, .int (nI 6), .int (nI (x % n)), .int (nI (x % 40)), .int (nI (3 + (x % 9)))]) (rest := []) ⟨hx, hb, hml, hown, hts⟩ (c_C_6 l G hst a σ5 hok0 (nI (x % n)) (nI (x % 40)) (nI (3 + (x % 9))) _) (va_cwS 5 hts gL_refuses_L_call rfl rfl rfl (by decide +kernel) ⟨Nat.le_of_ble_eq_true rfl, Nat.le_of_ble_eq_true rfl⟩) (zk_preSH hN hE hA0 hS hP hD) rfl rfl hl.1 rfl (lv_room (Nat.le_of_ble_eq_true rfl)) dL_refuses_703 ⟨by show cells + 4 + 4 + 4 + 4 ≤ 300; omega, by show slots + 24 + 24 + 24 + 24 ≤ 1800; omega⟩) hP hD hS hA (fun r8 σ7 H locs hpost hP hD hS => ?_)
  refine zk_cs (cells + 4 + 4 + 4 + 4) (slots + 24 + 24 + 24 + 24) rfl rfl ?_
  have hP : va_P G.1 vwCl (zw G a σ7) H := hP
  have hD : va_D A (zw G a σ7) := hD
  obtain ⟨⟨er, ec⟩, ht0⟩ := hpost
  rw [hg0] at er ec
  have hg0 := ec
  have hok0 := yOk_of hk0 hg0 ht0
  refine zk_top (er.trans (ra_meal3 hI hcn (by omega) (by omega) (by omega))) ?_
  refine lv_ldc hx hb (v := (-9999002)) hown w1 dL_refuses_706 ?_
  refine lv_icmp_ne (tgt := 921) hx hb dL_refuses_708 (by decide) (fun z => absurd (by decide) z) (fun _ => ?_)
  refine lv_aload_n hx hb dL_refuses_711 rfl (lv_at hl 1 rfl) ?_
  refine lv_bipush (v := nI 10) hx hb dL_refuses_712 (by decide) ?_
  refine lv_iload hx hb dL_refuses_714 (lv_at hl 6 rfl) ?_
  refine lv_iconst (v := nI 0) hx hb dL_refuses_716 (by decide) ?_
  refine lv_iconst (v := nI 0) hx hb dL_refuses_717 (by decide) ?_
  refine zk_call1 (va_runS (As := [.ref a.1, .int (nI 10), .int (nI (x % n)), .int (nI 0), .int (nI 0)]) (rest := []) ⟨hx, hb, hml, hown, hts⟩ (c_C_10 l G hst a σ7 hok0 (nI (x % n)) (nI 0) (nI 0) _) (va_cwS 5 hts gL_refuses_L_call rfl rfl rfl (by decide +kernel) ⟨Nat.le_of_ble_eq_true rfl, Nat.le_of_ble_eq_true rfl⟩) (zk_preSH hN hE hA0 hS hP hD) rfl rfl hl.1 rfl (lv_room (Nat.le_of_ble_eq_true rfl)) dL_refuses_718 ⟨by show cells + 4 + 4 + 4 + 4 + 4 ≤ 300; omega, by show slots + 24 + 24 + 24 + 24 + 24 ≤ 1800; omega⟩) hP hD hS hA (fun r10 σ9 H locs hpost hP hD hS => ?_)
  refine zk_cs (cells + 4 + 4 + 4 + 4 + 4) (slots + 24 + 24 + 24 + 24 + 24) rfl rfl ?_
  have hP : va_P G.1 vwCl (zw G a σ9) H := hP
  have hD : va_D A (zw G a σ9) := hD
  obtain ⟨⟨er, ec⟩, ht0⟩ := hpost
  rw [hg0] at er ec
  have hq := (ra_pay2 hI hcn : fPay (nI (x % n)) (nI 0) κ = ((-9999002), κ))
  rw [hq] at er ec
  have hg0 : core σ9 = κ := ec
  have er : r10 = (-9999002) := er
  have hok0 := yOk_of hk0 hg0 ht0
  refine zk_top er ?_
  refine lv_ldc hx hb (v := (-9999002)) hown w1 dL_refuses_721 ?_
  refine lv_icmp_ne (tgt := 921) hx hb dL_refuses_723 (by decide) (fun z => absurd (by decide) z) (fun _ => ?_)
  refine lv_aload_n hx hb dL_refuses_726 rfl (lv_at hl 1 rfl) ?_
  refine lv_bipush (v := nI 10) hx hb dL_refuses_727 (by decide) ?_
  refine lv_iload hx hb dL_refuses_729 (lv_at hl 6 rfl) ?_
  refine lv_sipush (v := nI 10000) hx hb dL_refuses_731 (by decide) ?_
  refine lv_iload_n hx hb dL_refuses_734 rfl (lv_at hl 2 rfl) ?_
  refine lv_bipush (v := nI 9) hx hb dL_refuses_735 (by decide) ?_
  refine zk_iremN hx hb dL_refuses_737 (by omega) (by omega) (by omega) ?_
  refine zk_iaddN hx hb dL_refuses_738 ?_
  refine lv_iconst (v := nI 0) hx hb dL_refuses_739 (by decide) ?_
  refine zk_call1 (va_runS (As := [.ref a.1, .int (nI 10), .int (nI (x % n)), .int (nI (10000 + (x % 9))), .int (nI 0)]) (rest := []) ⟨hx, hb, hml, hown, hts⟩ (c_C_10 l G hst a σ9 hok0 (nI (x % n)) (nI (10000 + (x % 9))) (nI 0) _) (va_cwS 5 hts gL_refuses_L_call rfl rfl rfl (by decide +kernel) ⟨Nat.le_of_ble_eq_true rfl, Nat.le_of_ble_eq_true rfl⟩) (zk_preSH hN hE hA0 hS hP hD) rfl rfl hl.1 rfl (lv_room (Nat.le_of_ble_eq_true rfl)) dL_refuses_740 ⟨by show cells + 4 + 4 + 4 + 4 + 4 + 4 ≤ 300; omega, by show slots + 24 + 24 + 24 + 24 + 24 + 24 ≤ 1800; omega⟩) hP hD hS hA (fun r12 σ11 H locs hpost hP hD hS => ?_)
  refine zk_cs (cells + 4 + 4 + 4 + 4 + 4 + 4) (slots + 24 + 24 + 24 + 24 + 24 + 24) rfl rfl ?_
  have hP : va_P G.1 vwCl (zw G a σ11) H := hP
  have hD : va_D A (zw G a σ11) := hD
  obtain ⟨⟨er, ec⟩, ht0⟩ := hpost
  rw [hg0] at er ec
  have hq := (ra_pay3 hI hcn (by omega) (by omega) : fPay (nI (x % n)) (nI (10000 + (x % 9))) κ = ((-9999002), κ))
  rw [hq] at er ec
  have hg0 : core σ11 = κ := ec
  have er : r12 = (-9999002) := er
  have hok0 := yOk_of hk0 hg0 ht0
  refine zk_top er ?_
  refine lv_ldc hx hb (v := (-9999002)) hown w1 dL_refuses_743 ?_
  refine lv_icmp_ne (tgt := 921) hx hb dL_refuses_745 (by decide) (fun z => absurd (by decide) z) (fun _ => ?_)
  refine W.widen (k := cells + 24) (n := slots + 144) (by omega) (by omega) ?_
  exact kk σ11 _ _ _ ht0 hg0 hP hD hS (lv_sub hl [1, 2, 3, 4, 5, 6, 0] rfl)

set_option maxHeartbeats 4000000 in
set_option maxRecDepth 100000 in
theorem zr_4b {p : Program} {l : Launch} {e : Env} {s : State} {m : MethodId} {args : Array Value} {below : List Frame} {meth : Method} {c : Code} {Q : State → Prop} {A : Nat → Prop} {G : zk_G} {H : Heap} {locs : List Loc} {cells slots : Nat} {ls : Array Slot} (hst : l.stackTraces = false) (F : zFx p s m meth c args cL_refuses 7 (some .boolean) vL_refuses A G) {a : zA} {σ : zSt} {κ : zCo}  (ht0 : zTx σ) (hg0 : core σ = κ) (hk0 : kOk κ) {x n t : Nat} (hx31 : x < 2 ^ 31) (hI : sInv (kL κ) n t) (hcn : x % n < n) (hbal : ∀ c, c < n → bB 1000000000 (kL κ 3 c)) (hP : va_P G.1 vwCl (zw G a σ) H) (hD : va_D A (zw G a σ)) (hS : va_S A s.heap H locs) (hl : lv_has ls 7 [(0, .ref a.1), (1, .int (nI x)), (2, .int (nI n)), (3, .int (nI t)), (4, .int (nI 1)), (5, .int (nI (x % n))), (6, .int (kL κ 3 (x % n)))]) (hcs : cells + 4 ≤ 300 ∧ slots + 24 ≤ 1800)
    (kk : ∀ (σ₁ : zSt) (H₁ : Heap) (locs₁ : List Loc) (ls₁ : Array Slot), zTx σ₁ → core σ₁ = κ →  va_P G.1 vwCl (zw G a σ₁) H₁ → va_D A (zw G a σ₁) → va_S A s.heap H₁ locs₁ → lv_has ls₁ 7 [(0, .ref a.1), (1, .int (nI x)), (2, .int (nI n)), (3, .int (nI t)), (4, .int (nI 1)), (5, .int (nI (x % n))), (6, .int (kL κ 3 (x % n)))] → W p l e rmL_refuses s m args below meth c H₁ locs₁ (cells + 4) (slots + 24) Q (F0 m 783 ls₁ [])) :
    W p l e rmL_refuses s m args below meth c H locs cells slots Q (F0 m 748 ls []) := by
  obtain ⟨hx, hb, hml, hr, hts, hown, hlocks, hE, hA, hA0, hN⟩ := id F
  have hok0 := yOk_of hk0 hg0 ht0
  have hn12 := hI.2.1
  have ht40 := hI.2.2.2.1
  have w1 := hts _ (List.mem_cons_of_mem _ (memB (in0_wsL_law0_r4 _ (List.mem_of_getElem? (l := wsL_law0_r4) (i := 5) rfl)) rfl))
  refine lv_iload hx hb dL_refuses_748 (lv_at hl 6 rfl) ?_
  refine lv_sipush (v := nI 9999) hx hb dL_refuses_750 (by decide) ?_
  refine lv_icmp_ge (tgt := 783) hx hb dL_refuses_753 (by decide) (fun h753_0 => ?_) (fun h753_0 => ?_)
  · have h753_0 := zk_l1 h753_0
    refine W.widen (k := cells + 4) (n := slots + 24) (by omega) (by omega) ?_
    exact kk σ _ _ _ ht0 hg0 hP hD hS (lv_sub hl [0, 1, 2, 3, 4, 5, 6] rfl)
  · have h753_0 := zk_l2 h753_0
    refine lv_aload_n hx hb dL_refuses_756 rfl (lv_at hl 0 rfl) ?_
    refine lv_bipush (v := nI 10) hx hb dL_refuses_757 (by decide) ?_
    refine lv_iload hx hb dL_refuses_759 (lv_at hl 5 rfl) ?_
    refine lv_iload hx hb dL_refuses_761 (lv_at hl 6 rfl) ?_
    refine lv_if_ge (tgt := 770) hx hb dL_refuses_763 (by decide) (fun h763_1 => ?_) (fun h763_1 => ?_)
    · have h763_1 := zk_l1 h763_1
      refine lv_iconst (v := -1) hx hb dL_refuses_770 (by decide) ?_
      refine lv_iload hx hb dL_refuses_771 (lv_at hl 6 rfl) ?_
      refine lv_isub hx hb dL_refuses_773 ?_
      refine lv_iconst (v := nI 0) hx hb dL_refuses_774 (by decide) ?_
      refine zk_call1 (va_runS (As := [.ref a.1, .int (nI 10), .int (nI (x % n)), .int ((-1) - (kL κ 3 (x % n))), .int (nI 0)]) (rest := []) ⟨hx, hb, hml, hown, hts⟩ (c_C_10 l G hst a σ hok0 (nI (x % n)) ((-1) - (kL κ 3 (x % n))) (nI 0) _) (va_cwS 5 hts gL_refuses_L_call rfl rfl rfl (by decide +kernel) ⟨Nat.le_of_ble_eq_true rfl, Nat.le_of_ble_eq_true rfl⟩) (zk_preSH hN hE hA0 hS hP hD) rfl rfl hl.1 rfl (lv_room (Nat.le_of_ble_eq_true rfl)) dL_refuses_775 ⟨by show cells + 4 ≤ 300; omega, by show slots + 24 ≤ 1800; omega⟩) hP hD hS hA (fun r4 σ3 H locs hpost hP hD hS => ?_)
      refine zk_cs (cells + 4) (slots + 24) rfl rfl ?_
      have hP : va_P G.1 vwCl (zw G a σ3) H := hP
      have hD : va_D A (zw G a σ3) := hD
      obtain ⟨⟨er, ec⟩, ht0⟩ := hpost
      rw [hg0] at er ec
      have hq := (ra_pay5 hI hcn (hbal _ hcn) (by assumption) (by first | (refine Or.inr ⟨by assumption, ?_⟩; rfl) | (refine Or.inl ⟨by assumption, ?_⟩; rfl)) : fPay (nI (x % n)) ((-1) - (kL κ 3 (x % n))) κ = ((-9999003), κ))
      rw [hq] at er ec
      have hg0 : core σ3 = κ := ec
      have er : r4 = (-9999003) := er
      have hok0 := yOk_of hk0 hg0 ht0
      refine zk_top er ?_
      refine lv_ldc hx hb (v := (-9999003)) hown w1 dL_refuses_778 ?_
      refine lv_icmp_ne (tgt := 921) hx hb dL_refuses_780 (by decide) (fun z => absurd (by decide) z) (fun _ => ?_)
      refine W.widen (k := cells + 4) (n := slots + 24) (by omega) (by omega) ?_
      exact kk σ3 _ _ _ ht0 hg0 hP hD hS (lv_sub hl [0, 1, 2, 3, 4, 5, 6] rfl)
    · have h763_1 := zk_l2 h763_1
      refine lv_iconst (v := -1) hx hb dL_refuses_766 (by decide) ?_
      refine lv_goto (tgt := 774) hx hb dL_refuses_767 (by decide) ?_
      refine lv_iconst (v := nI 0) hx hb dL_refuses_774 (by decide) ?_
      refine zk_call1 (va_runS (As := [.ref a.1, .int (nI 10), .int (nI (x % n)), .int (-1), .int (nI 0)]) (rest := []) ⟨hx, hb, hml, hown, hts⟩ (c_C_10 l G hst a σ hok0 (nI (x % n)) (-1) (nI 0) _) (va_cwS 5 hts gL_refuses_L_call rfl rfl rfl (by decide +kernel) ⟨Nat.le_of_ble_eq_true rfl, Nat.le_of_ble_eq_true rfl⟩) (zk_preSH hN hE hA0 hS hP hD) rfl rfl hl.1 rfl (lv_room (Nat.le_of_ble_eq_true rfl)) dL_refuses_775 ⟨by show cells + 4 ≤ 300; omega, by show slots + 24 ≤ 1800; omega⟩) hP hD hS hA (fun r6 σ5 H locs hpost hP hD hS => ?_)
      refine zk_cs (cells + 4) (slots + 24) rfl rfl ?_
      have hP : va_P G.1 vwCl (zw G a σ5) H := hP
      have hD : va_D A (zw G a σ5) := hD
      obtain ⟨⟨er, ec⟩, ht0⟩ := hpost
      rw [hg0] at er ec
      have hq := (ra_pay5 hI hcn (hbal _ hcn) (by assumption) (by first | (refine Or.inr ⟨by assumption, ?_⟩; rfl) | (refine Or.inl ⟨by assumption, ?_⟩; rfl)) : fPay (nI (x % n)) (-1) κ = ((-9999003), κ))
      rw [hq] at er ec
      have hg0 : core σ5 = κ := ec
      have er : r6 = (-9999003) := er
      have hok0 := yOk_of hk0 hg0 ht0
      refine zk_top er ?_
      refine lv_ldc hx hb (v := (-9999003)) hown w1 dL_refuses_778 ?_
      refine lv_icmp_ne (tgt := 921) hx hb dL_refuses_780 (by decide) (fun z => absurd (by decide) z) (fun _ => ?_)
      refine W.widen (k := cells + 4) (n := slots + 24) (by omega) (by omega) ?_
      exact kk σ5 _ _ _ ht0 hg0 hP hD hS (lv_sub hl [0, 1, 2, 3, 4, 5, 6] rfl)

set_option maxHeartbeats 4000000 in
set_option maxRecDepth 100000 in
theorem zr_4c {p : Program} {l : Launch} {e : Env} {s : State} {m : MethodId} {args : Array Value} {below : List Frame} {meth : Method} {c : Code} {Q : State → Prop} {A : Nat → Prop} {G : zk_G} {H : Heap} {locs : List Loc} {cells slots : Nat} {ls : Array Slot} (hst : l.stackTraces = false) (F : zFx p s m meth c args cL_refuses 7 (some .boolean) vL_refuses A G) {a : zA} {σ : zSt} {κ : zCo}  (ht0 : zTx σ) (hg0 : core σ = κ) (hk0 : kOk κ) {x n t : Nat} (hx31 : x < 2 ^ 31) (hI : sInv (kL κ) n t) (hcn : x % n < n) (hbal : ∀ c, c < n → bB 1000000000 (kL κ 3 c)) (hP : va_P G.1 vwCl (zw G a σ) H) (hD : va_D A (zw G a σ)) (hS : va_S A s.heap H locs) (hl : lv_has ls 7 [(0, .ref a.1), (1, .int (nI x)), (2, .int (nI n)), (3, .int (nI t)), (4, .int (nI 1)), (5, .int (nI (x % n))), (6, .int (kL κ 3 (x % n)))]) (hcs : cells + 28 ≤ 300 ∧ slots + 168 ≤ 1800)
    (kk : ∀ (σ₁ : zSt) (H₁ : Heap) (locs₁ : List Loc) (ls₁ : Array Slot), zTx σ₁ → core σ₁ = κ →  va_P G.1 vwCl (zw G a σ₁) H₁ → va_D A (zw G a σ₁) → va_S A s.heap H₁ locs₁ → lv_has ls₁ 7 [(0, .ref a.1), (1, .int (nI x)), (2, .int (nI n)), (3, .int (nI t)), (4, .int (nI 1)), (5, .int (nI (x % n))), (6, .int (kL κ 3 (x % n)))] → W p l e rmL_refuses s m args below meth c H₁ locs₁ (cells + 28) (slots + 168) Q (F0 m 888 ls₁ [])) :
    W p l e rmL_refuses s m args below meth c H locs cells slots Q (F0 m 783 ls []) := by
  obtain ⟨hx, hb, hml, hr, hts, hown, hlocks, hE, hA, hA0, hN⟩ := id F
  have hok0 := yOk_of hk0 hg0 ht0
  have hn12 := hI.2.1
  have ht40 := hI.2.2.2.1
  have w1 := hts _ (List.mem_cons_of_mem _ (memB (in0_wsL_law0_r4 _ (List.mem_of_getElem? (l := wsL_law0_r4) (i := 3) rfl)) rfl))
  have w2 := hts _ (List.mem_cons_of_mem _ (memB (in0_wsL_law0_r4 _ (List.mem_of_getElem? (l := wsL_law0_r4) (i := 5) rfl)) rfl))
  have w3 := hts _ (List.mem_cons_of_mem _ (memB (in0_wsL_law0_r4 _ (List.mem_of_getElem? (l := wsL_law0_r4) (i := 4) rfl)) rfl))
  refine lv_aload_n hx hb dL_refuses_783 rfl (lv_at hl 0 rfl) ?_
  refine lv_bipush (v := nI 11) hx hb dL_refuses_784 (by decide) ?_
  refine lv_iload hx hb dL_refuses_786 (lv_at hl 5 rfl) ?_
  refine lv_iload hx hb dL_refuses_788 (lv_at hl 5 rfl) ?_
  refine lv_iconst (v := nI 0) hx hb dL_refuses_790 (by decide) ?_
  refine zk_call1 (va_runS (As := [.ref a.1, .int (nI 11), .int (nI (x % n)), .int (nI (x % n)), .int (nI 0)]) (rest := []) ⟨hx, hb, hml, hown, hts⟩ (c_C_11 l G hst a σ hok0 (nI (x % n)) (nI (x % n)) (nI 0) _) (va_cwS 5 hts gL_refuses_L_call rfl rfl rfl (by decide +kernel) ⟨Nat.le_of_ble_eq_true rfl, Nat.le_of_ble_eq_true rfl⟩) (zk_preSH hN hE hA0 hS hP hD) rfl rfl hl.1 rfl (lv_room (Nat.le_of_ble_eq_true rfl)) dL_refuses_791 ⟨by show cells + 4 ≤ 300; omega, by show slots + 24 ≤ 1800; omega⟩) hP hD hS hA (fun r2 σ1 H locs hpost hP hD hS => ?_)
  refine zk_cs (cells + 4) (slots + 24) rfl rfl ?_
  have hP : va_P G.1 vwCl (zw G a σ1) H := hP
  have hD : va_D A (zw G a σ1) := hD
  obtain ⟨⟨er, ec⟩, ht0⟩ := hpost
  rw [hg0] at er ec
  have hq := (ra_move2 hI hcn : fMove (nI (x % n)) (nI (x % n)) (nI 0) κ = ((-9999002), κ))
  rw [hq] at er ec
  have hg0 : core σ1 = κ := ec
  have er : r2 = (-9999002) := er
  have hok0 := yOk_of hk0 hg0 ht0
  refine zk_top er ?_
  refine lv_ldc hx hb (v := (-9999002)) hown w1 dL_refuses_794 ?_
  refine lv_icmp_ne (tgt := 921) hx hb dL_refuses_796 (by decide) (fun z => absurd (by decide) z) (fun _ => ?_)
  refine lv_aload_n hx hb dL_refuses_799 rfl (lv_at hl 0 rfl) ?_
  refine lv_bipush (v := nI 11) hx hb dL_refuses_800 (by decide) ?_
  refine lv_iload hx hb dL_refuses_802 (lv_at hl 5 rfl) ?_
  refine lv_iload hx hb dL_refuses_804 (lv_at hl 5 rfl) ?_
  refine lv_iconst (v := nI 1) hx hb dL_refuses_806 (by decide) ?_
  refine zk_call1 (va_runS (As := [.ref a.1, .int (nI 11), .int (nI (x % n)), .int (nI (x % n)), .int (nI 1)]) (rest := []) ⟨hx, hb, hml, hown, hts⟩ (c_C_11 l G hst a σ1 hok0 (nI (x % n)) (nI (x % n)) (nI 1) _) (va_cwS 5 hts gL_refuses_L_call rfl rfl rfl (by decide +kernel) ⟨Nat.le_of_ble_eq_true rfl, Nat.le_of_ble_eq_true rfl⟩) (zk_preSH hN hE hA0 hS hP hD) rfl rfl hl.1 rfl (lv_room (Nat.le_of_ble_eq_true rfl)) dL_refuses_807 ⟨by show cells + 4 + 4 ≤ 300; omega, by show slots + 24 + 24 ≤ 1800; omega⟩) hP hD hS hA (fun r4 σ3 H locs hpost hP hD hS => ?_)
  refine zk_cs (cells + 4 + 4) (slots + 24 + 24) rfl rfl ?_
  have hP : va_P G.1 vwCl (zw G a σ3) H := hP
  have hD : va_D A (zw G a σ3) := hD
  obtain ⟨⟨er, ec⟩, ht0⟩ := hpost
  rw [hg0] at er ec
  have hq := (ra_move3 hI hcn : fMove (nI (x % n)) (nI (x % n)) (nI 1) κ = ((-9999003), κ))
  rw [hq] at er ec
  have hg0 : core σ3 = κ := ec
  have er : r4 = (-9999003) := er
  have hok0 := yOk_of hk0 hg0 ht0
  refine zk_top er ?_
  refine lv_ldc hx hb (v := (-9999003)) hown w2 dL_refuses_810 ?_
  refine lv_icmp_ne (tgt := 921) hx hb dL_refuses_812 (by decide) (fun z => absurd (by decide) z) (fun _ => ?_)
  refine lv_aload_n hx hb dL_refuses_815 rfl (lv_at hl 0 rfl) ?_
  refine lv_bipush (v := nI 12) hx hb dL_refuses_816 (by decide) ?_
  refine lv_iload hx hb dL_refuses_818 (lv_at hl 5 rfl) ?_
  refine lv_bipush (v := nI 40) hx hb dL_refuses_820 (by decide) ?_
  refine lv_iconst (v := -1) hx hb dL_refuses_822 (by decide) ?_
  refine zk_call1 (va_runS (As := [.ref a.1, .int (nI 12), .int (nI (x % n)), .int (nI 40), .int (-1)]) (rest := []) ⟨hx, hb, hml, hown, hts⟩ (c_C_12 l G hst a σ3 hok0 (nI (x % n)) (nI 40) (-1) _) (va_cwS 5 hts gL_refuses_L_call rfl rfl rfl (by decide +kernel) ⟨Nat.le_of_ble_eq_true rfl, Nat.le_of_ble_eq_true rfl⟩) (zk_preSH hN hE hA0 hS hP hD) rfl rfl hl.1 rfl (lv_room (Nat.le_of_ble_eq_true rfl)) dL_refuses_823 ⟨by show cells + 4 + 4 + 4 ≤ 300; omega, by show slots + 24 + 24 + 24 ≤ 1800; omega⟩) hP hD hS hA (fun r6 σ5 H locs hpost hP hD hS => ?_)
  refine zk_cs (cells + 4 + 4 + 4) (slots + 24 + 24 + 24) rfl rfl ?_
  have hP : va_P G.1 vwCl (zw G a σ5) H := hP
  have hD : va_D A (zw G a σ5) := hD
  obtain ⟨⟨er, ec⟩, ht0⟩ := hpost
  rw [hg0] at er ec
  have hq := (ra_ent2 (by omega) (by omega) _ _ : fEntitle (nI (x % n)) (nI 40) (-1) κ = ((-9999001), κ))
  rw [hq] at er ec
  have hg0 : core σ5 = κ := ec
  have er : r6 = (-9999001) := er
  have hok0 := yOk_of hk0 hg0 ht0
  refine zk_top er ?_
  refine lv_ldc hx hb (v := (-9999001)) hown w3 dL_refuses_826 ?_
  refine lv_icmp_ne (tgt := 921) hx hb dL_refuses_828 (by decide) (fun z => absurd (by decide) z) (fun _ => ?_)
  refine lv_aload_n hx hb dL_refuses_831 rfl (lv_at hl 0 rfl) ?_
  refine lv_bipush (v := nI 12) hx hb dL_refuses_832 (by decide) ?_
  refine lv_iload hx hb dL_refuses_834 (lv_at hl 5 rfl) ?_
  refine lv_iconst (v := nI 5) hx hb dL_refuses_836 (by decide) ?_
  refine lv_iload_n hx hb dL_refuses_837 rfl (lv_at hl 1 rfl) ?_
  refine lv_bipush (v := nI 30) hx hb dL_refuses_838 (by decide) ?_
  refine zk_iremN hx hb dL_refuses_840 (by omega) (by omega) (by omega) ?_
  refine zk_iaddN hx hb dL_refuses_841 ?_
  refine lv_iload_n hx hb dL_refuses_842 rfl (lv_at hl 1 rfl) ?_
  refine lv_iconst (v := nI 5) hx hb dL_refuses_843 (by decide) ?_
  refine zk_iremN hx hb dL_refuses_844 (by omega) (by omega) (by omega) ?_
  refine zk_call1 (va_runS (As := [.ref a.1, .int (nI 12), .int (nI (x % n)), .int (nI (5 + (x % 30))), .int (nI (x % 5))]) (rest := []) ⟨hx, hb, hml, hown, hts⟩ (c_C_12 l G hst a σ5 hok0 (nI (x % n)) (nI (5 + (x % 30))) (nI (x % 5)) _) (va_cwS 5 hts gL_refuses_L_call rfl rfl rfl (by decide +kernel) ⟨Nat.le_of_ble_eq_true rfl, Nat.le_of_ble_eq_true rfl⟩) (zk_preSH hN hE hA0 hS hP hD) rfl rfl hl.1 rfl (lv_room (Nat.le_of_ble_eq_true rfl)) dL_refuses_845 ⟨by show cells + 4 + 4 + 4 + 4 ≤ 300; omega, by show slots + 24 + 24 + 24 + 24 ≤ 1800; omega⟩) hP hD hS hA (fun r8 σ7 H locs hpost hP hD hS => ?_)
  refine zk_cs (cells + 4 + 4 + 4 + 4) (slots + 24 + 24 + 24 + 24) rfl rfl ?_
  have hP : va_P G.1 vwCl (zw G a σ7) H := hP
  have hD : va_D A (zw G a σ7) := hD
  obtain ⟨⟨er, ec⟩, ht0⟩ := hpost
  rw [hg0] at er ec
  have hq := (ra_ent3 hI hcn (by omega) (by omega) : fEntitle (nI (x % n)) (nI (5 + (x % 30))) (nI (x % 5)) κ = ((-9999002), κ))
  rw [hq] at er ec
  have hg0 : core σ7 = κ := ec
  have er : r8 = (-9999002) := er
  have hok0 := yOk_of hk0 hg0 ht0
  refine zk_top er ?_
  refine lv_ldc hx hb (v := (-9999002)) hown w1 dL_refuses_848 ?_
  refine lv_icmp_ne (tgt := 921) hx hb dL_refuses_850 (by decide) (fun z => absurd (by decide) z) (fun _ => ?_)
  refine lv_aload_n hx hb dL_refuses_853 rfl (lv_at hl 0 rfl) ?_
  refine lv_bipush (v := nI 19) hx hb dL_refuses_854 (by decide) ?_
  refine lv_iload hx hb dL_refuses_856 (lv_at hl 5 rfl) ?_
  refine lv_iconst (v := nI 0) hx hb dL_refuses_858 (by decide) ?_
  refine lv_bipush (v := nI 40) hx hb dL_refuses_859 (by decide) ?_
  refine lv_iload_n hx hb dL_refuses_861 rfl (lv_at hl 1 rfl) ?_
  refine lv_bipush (v := nI 9) hx hb dL_refuses_862 (by decide) ?_
  refine zk_iremN hx hb dL_refuses_864 (by omega) (by omega) (by omega) ?_
  refine zk_iaddN hx hb dL_refuses_865 ?_
  refine zk_call1 (va_runS (As := [.ref a.1, .int (nI 19), .int (nI (x % n)), .int (nI 0), .int (nI (40 + (x % 9)))]) (rest := []) ⟨hx, hb, hml, hown, hts⟩ (c_C_19 l G hst a σ7 hok0 (nI (x % n)) (nI 0) (nI (40 + (x % 9))) _) (va_cwS 5 hts gL_refuses_L_call rfl rfl rfl (by decide +kernel) ⟨Nat.le_of_ble_eq_true rfl, Nat.le_of_ble_eq_true rfl⟩) (zk_preSH hN hE hA0 hS hP hD) rfl rfl hl.1 rfl (lv_room (Nat.le_of_ble_eq_true rfl)) dL_refuses_866 ⟨by show cells + 4 + 4 + 4 + 4 + 4 ≤ 300; omega, by show slots + 24 + 24 + 24 + 24 + 24 ≤ 1800; omega⟩) hP hD hS hA (fun r10 σ9 H locs hpost hP hD hS => ?_)
  refine zk_cs (cells + 4 + 4 + 4 + 4 + 4) (slots + 24 + 24 + 24 + 24 + 24) rfl rfl ?_
  have hP : va_P G.1 vwCl (zw G a σ9) H := hP
  have hD : va_D A (zw G a σ9) := hD
  obtain ⟨⟨er, ec⟩, ht0⟩ := hpost
  rw [hg0] at er ec
  have hg0 := ec
  have hok0 := yOk_of hk0 hg0 ht0
  refine zk_top (er.trans (ra_ife2 hI hcn (by omega) (by omega))) ?_
  refine lv_ldc hx hb (v := (-9999002)) hown w1 dL_refuses_869 ?_
  refine lv_icmp_ne (tgt := 921) hx hb dL_refuses_871 (by decide) (fun z => absurd (by decide) z) (fun _ => ?_)
  refine lv_aload_n hx hb dL_refuses_874 rfl (lv_at hl 0 rfl) ?_
  refine lv_iload hx hb dL_refuses_875 (lv_at hl 5 rfl) ?_
  refine lv_bipush (v := nI 40) hx hb dL_refuses_877 (by decide) ?_
  refine lv_iconst (v := nI 1) hx hb dL_refuses_879 (by decide) ?_
  refine zk_call1 (vx_runSW (As := [.ref a.1, .int (nI (x % n)), .int (nI 40), .int (nI 1)]) (rest := []) ⟨hx, hb, hml, hown, hts⟩ (c_F_tryOrder l G hst a σ9 hok0 (nI (x % n)) (nI 40) (nI 1) _) (vx_cwSW 4 hts gL_refuses_L_tryOrder rfl rfl rfl (by decide +kernel) ⟨Nat.le_of_ble_eq_true rfl, Nat.le_of_ble_eq_true rfl⟩) (zk_preSH hN hE hA0 hS hP hD) rfl rfl hl.1 rfl (lv_room (Nat.le_of_ble_eq_true rfl)) dL_refuses_880 ⟨by show cells + 4 + 4 + 4 + 4 + 4 + 2 ≤ 300; omega, by show slots + 24 + 24 + 24 + 24 + 24 + 12 ≤ 1800; omega⟩) hP hD hS hA (fun r12 σ11 H locs hpost hP hD hS => ?_)
  refine zk_cs (cells + 4 + 4 + 4 + 4 + 4 + 2) (slots + 24 + 24 + 24 + 24 + 24 + 12) rfl rfl ?_
  have hP : va_P G.1 vwCl (zw G a σ11) H := hP
  have hD : va_D A (zw G a σ11) := hD
  obtain ⟨⟨er, ec⟩, ht0⟩ := hpost
  rw [hg0] at er ec
  have hq := (ra_order2 (by omega) (by omega) _ _ : fOrder (nI (x % n)) (nI 40) (nI 1) κ = ((-9999001), κ))
  rw [hq] at er ec
  have hg0 : core σ11 = κ := ec
  have er : r12 = (-9999001) := er
  have hok0 := yOk_of hk0 hg0 ht0
  refine zk_top er ?_
  refine lv_ldc hx hb (v := (-9999001)) hown w3 dL_refuses_883 ?_
  refine lv_icmp_ne (tgt := 921) hx hb dL_refuses_885 (by decide) (fun z => absurd (by decide) z) (fun _ => ?_)
  refine W.widen (k := cells + 28) (n := slots + 168) (by omega) (by omega) ?_
  exact kk σ11 _ _ _ ht0 hg0 hP hD hS (lv_sub hl [0, 1, 2, 3, 4, 5, 6] rfl)

set_option maxHeartbeats 4000000 in
set_option maxRecDepth 100000 in
theorem zr_4d {p : Program} {l : Launch} {e : Env} {s : State} {m : MethodId} {args : Array Value} {below : List Frame} {meth : Method} {c : Code} {Q : State → Prop} {A : Nat → Prop} {G : zk_G} {H : Heap} {locs : List Loc} {cells slots : Nat} {ls : Array Slot} (hst : l.stackTraces = false) (F : zFx p s m meth c args cL_refuses 7 (some .boolean) vL_refuses A G) {a : zA} {σ : zSt} {κ : zCo}  (ht0 : zTx σ) (hg0 : core σ = κ) (hk0 : kOk κ) {x n t : Nat} (hx31 : x < 2 ^ 31) (hI : sInv (kL κ) n t) (hcn : x % n < n) (hbal : ∀ c, c < n → bB 1000000000 (kL κ 3 c)) (hP : va_P G.1 vwCl (zw G a σ) H) (hD : va_D A (zw G a σ)) (hS : va_S A s.heap H locs) (hl : lv_has ls 7 [(0, .ref a.1), (1, .int (nI x)), (2, .int (nI n)), (3, .int (nI t)), (4, .int (nI 1)), (5, .int (nI (x % n))), (6, .int (kL κ 3 (x % n)))]) (hcs : cells + 4 ≤ 300 ∧ slots + 24 ≤ 1800)
    (kk : ∀ (σ₁ : zSt) (H₁ : Heap) (locs₁ : List Loc) (ls₁ : Array Slot), zTx σ₁ → core σ₁ = κ →  va_P G.1 vwCl (zw G a σ₁) H₁ → va_D A (zw G a σ₁) → va_S A s.heap H₁ locs₁ → lv_has ls₁ 7 [(0, .ref a.1), (1, .int (nI x)), (2, .int (nI n)), (3, .int (nI t)), (4, .int (nI 1))] → W p l e rmL_refuses s m args below meth c H₁ locs₁ (cells + 4) (slots + 24) Q (F0 m 924 ls₁ [])) :
    W p l e rmL_refuses s m args below meth c H locs cells slots Q (F0 m 888 ls []) := by
  obtain ⟨hx, hb, hml, hr, hts, hown, hlocks, hE, hA, hA0, hN⟩ := id F
  have hok0 := yOk_of hk0 hg0 ht0
  have hn12 := hI.2.1
  have ht40 := hI.2.2.2.1
  have w1 := hts _ (List.mem_cons_of_mem _ (memB (in0_wsL_law0_r4 _ (List.mem_of_getElem? (l := wsL_law0_r4) (i := 5) rfl)) rfl))
  refine lv_iload_n hx hb dL_refuses_888 rfl (lv_at hl 3 rfl) ?_
  refine lv_if_eq (tgt := 917) hx hb dL_refuses_889 (by decide) (fun h889_0 => ?_) (fun h889_0 => ?_)
  · have h889_0 := zk_eq0 (by omega) h889_0
    refine lv_iconst (v := nI 1) hx hb dL_refuses_917 (by decide) ?_
    refine lv_goto (tgt := 922) hx hb dL_refuses_918 (by decide) ?_
    refine lv_istore (lv' := [(4, .int (nI 1)), (0, .ref a.1), (1, .int (nI x)), (2, .int (nI n)), (3, .int (nI t)), (5, .int (nI (x % n))), (6, .int (kL κ 3 (x % n)))]) hx hb dL_refuses_922 hl (by decide) rfl (fun ls hl => ?_)
    refine W.widen (k := cells + 4) (n := slots + 24) (by omega) (by omega) ?_
    exact kk σ _ _ _ ht0 hg0 hP hD hS (lv_sub hl [1, 2, 3, 4, 0] rfl)
  · have h889_0 := zk_ne0 (by omega) h889_0
    refine lv_aload_n hx hb dL_refuses_892 rfl (lv_at hl 0 rfl) ?_
    refine lv_iload hx hb dL_refuses_893 (lv_at hl 5 rfl) ?_
    refine lv_iload_n hx hb dL_refuses_895 rfl (lv_at hl 1 rfl) ?_
    refine lv_iload_n hx hb dL_refuses_896 rfl (lv_at hl 3 rfl) ?_
    refine zk_iremN hx hb dL_refuses_897 (by omega) (by omega) (by omega) ?_
    refine lv_iload_n hx hb dL_refuses_898 rfl (lv_at hl 1 rfl) ?_
    refine lv_iconst (v := nI 2) hx hb dL_refuses_899 (by decide) ?_
    refine zk_iremN hx hb dL_refuses_900 (by omega) (by omega) (by omega) ?_
    refine lv_if_ne (tgt := 908) hx hb dL_refuses_901 (by decide) (fun h901_1 => ?_) (fun h901_1 => ?_)
    · have h901_1 := zk_ne0 (by omega) h901_1
      refine lv_iconst (v := nI 0) hx hb dL_refuses_908 (by decide) ?_
      refine zk_call1 (vx_runSW (As := [.ref a.1, .int (nI (x % n)), .int (nI (x % t)), .int (nI 0)]) (rest := []) ⟨hx, hb, hml, hown, hts⟩ (c_F_tryOrder l G hst a σ hok0 (nI (x % n)) (nI (x % t)) (nI 0) _) (vx_cwSW 4 hts gL_refuses_L_tryOrder rfl rfl rfl (by decide +kernel) ⟨Nat.le_of_ble_eq_true rfl, Nat.le_of_ble_eq_true rfl⟩) (zk_preSH hN hE hA0 hS hP hD) rfl rfl hl.1 rfl (lv_room (Nat.le_of_ble_eq_true rfl)) dL_refuses_909 ⟨by show cells + 2 ≤ 300; omega, by show slots + 12 ≤ 1800; omega⟩) hP hD hS hA (fun r4 σ3 H locs hpost hP hD hS => ?_)
      refine zk_cs (cells + 2) (slots + 12) rfl rfl ?_
      have hP : va_P G.1 vwCl (zw G a σ3) H := hP
      have hD : va_D A (zw G a σ3) := hD
      obtain ⟨⟨er, ec⟩, ht0⟩ := hpost
      rw [hg0] at er ec
      have hq := (ra_order3 hI hcn (Nat.mod_lt _ (by omega)) _ : fOrder (nI (x % n)) (nI (x % t)) (nI 0) κ = ((-9999003), κ))
      rw [hq] at er ec
      have hg0 : core σ3 = κ := ec
      have er : r4 = (-9999003) := er
      have hok0 := yOk_of hk0 hg0 ht0
      refine zk_top er ?_
      refine lv_ldc hx hb (v := (-9999003)) hown w1 dL_refuses_912 ?_
      refine lv_icmp_ne (tgt := 921) hx hb dL_refuses_914 (by decide) (fun z => absurd (by decide) z) (fun _ => ?_)
      refine lv_iconst (v := nI 1) hx hb dL_refuses_917 (by decide) ?_
      refine lv_goto (tgt := 922) hx hb dL_refuses_918 (by decide) ?_
      refine lv_istore (lv' := [(4, .int (nI 1)), (0, .ref a.1), (1, .int (nI x)), (2, .int (nI n)), (3, .int (nI t)), (5, .int (nI (x % n))), (6, .int (kL κ 3 (x % n)))]) hx hb dL_refuses_922 hl (by decide) rfl (fun ls hl => ?_)
      refine W.widen (k := cells + 4) (n := slots + 24) (by omega) (by omega) ?_
      exact kk σ3 _ _ _ ht0 hg0 hP hD hS (lv_sub hl [1, 2, 3, 4, 0] rfl)
    · have h901_1 := zk_eq0 (by omega) h901_1
      refine lv_iconst (v := nI 1) hx hb dL_refuses_904 (by decide) ?_
      refine lv_goto (tgt := 909) hx hb dL_refuses_905 (by decide) ?_
      refine zk_call1 (vx_runSW (As := [.ref a.1, .int (nI (x % n)), .int (nI (x % t)), .int (nI 1)]) (rest := []) ⟨hx, hb, hml, hown, hts⟩ (c_F_tryOrder l G hst a σ hok0 (nI (x % n)) (nI (x % t)) (nI 1) _) (vx_cwSW 4 hts gL_refuses_L_tryOrder rfl rfl rfl (by decide +kernel) ⟨Nat.le_of_ble_eq_true rfl, Nat.le_of_ble_eq_true rfl⟩) (zk_preSH hN hE hA0 hS hP hD) rfl rfl hl.1 rfl (lv_room (Nat.le_of_ble_eq_true rfl)) dL_refuses_909 ⟨by show cells + 2 ≤ 300; omega, by show slots + 12 ≤ 1800; omega⟩) hP hD hS hA (fun r6 σ5 H locs hpost hP hD hS => ?_)
      refine zk_cs (cells + 2) (slots + 12) rfl rfl ?_
      have hP : va_P G.1 vwCl (zw G a σ5) H := hP
      have hD : va_D A (zw G a σ5) := hD
      obtain ⟨⟨er, ec⟩, ht0⟩ := hpost
      rw [hg0] at er ec
      have hq := (ra_order3 hI hcn (Nat.mod_lt _ (by omega)) _ : fOrder (nI (x % n)) (nI (x % t)) (nI 1) κ = ((-9999003), κ))
      rw [hq] at er ec
      have hg0 : core σ5 = κ := ec
      have er : r6 = (-9999003) := er
      have hok0 := yOk_of hk0 hg0 ht0
      refine zk_top er ?_
      refine lv_ldc hx hb (v := (-9999003)) hown w1 dL_refuses_912 ?_
      refine lv_icmp_ne (tgt := 921) hx hb dL_refuses_914 (by decide) (fun z => absurd (by decide) z) (fun _ => ?_)
      refine lv_iconst (v := nI 1) hx hb dL_refuses_917 (by decide) ?_
      refine lv_goto (tgt := 922) hx hb dL_refuses_918 (by decide) ?_
      refine lv_istore (lv' := [(4, .int (nI 1)), (0, .ref a.1), (1, .int (nI x)), (2, .int (nI n)), (3, .int (nI t)), (5, .int (nI (x % n))), (6, .int (kL κ 3 (x % n)))]) hx hb dL_refuses_922 hl (by decide) rfl (fun ls hl => ?_)
      refine W.widen (k := cells + 4) (n := slots + 24) (by omega) (by omega) ?_
      exact kk σ5 _ _ _ ht0 hg0 hP hD hS (lv_sub hl [1, 2, 3, 4, 0] rfl)

set_option maxHeartbeats 4000000 in
set_option maxRecDepth 100000 in
theorem zr_5 {p : Program} {l : Launch} {e : Env} {s : State} {m : MethodId} {args : Array Value} {below : List Frame} {meth : Method} {c : Code} {Q : State → Prop} {A : Nat → Prop} {G : zk_G} {H : Heap} {locs : List Loc} {cells slots : Nat} {ls : Array Slot} (hst : l.stackTraces = false) (F : zFx p s m meth c args cL_refuses 7 (some .boolean) vL_refuses A G) {a : zA} {σ : zSt} {κ : zCo}  (ht0 : zTx σ) (hg0 : core σ = κ) (hk0 : kOk κ) {x n t : Nat} (hx31 : x < 2 ^ 31) (hI : sInv (kL κ) n t) (hP : va_P G.1 vwCl (zw G a σ) H) (hD : va_D A (zw G a σ)) (hS : va_S A s.heap H locs) (hl : lv_has ls 7 [(0, .ref a.1), (1, .int (nI x)), (2, .int (nI n)), (3, .int (nI t)), (4, .int (nI 1))]) (hcs : cells + 28 ≤ 300 ∧ slots + 168 ≤ 1800)
    (kk : ∀ (σ₁ : zSt) (H₁ : Heap) (locs₁ : List Loc) (ls₁ : Array Slot), zTx σ₁ → core σ₁ = κ →  va_P G.1 vwCl (zw G a σ₁) H₁ → va_D A (zw G a σ₁) → va_S A s.heap H₁ locs₁ → lv_has ls₁ 7 [(0, .ref a.1), (1, .int (nI x)), (2, .int (nI n)), (3, .int (nI t)), (4, .int (nI 1))] → W p l e rmL_refuses s m args below meth c H₁ locs₁ (cells + 28) (slots + 168) Q (F0 m 1011 ls₁ [.int (nI 1)])) :
    W p l e rmL_refuses s m args below meth c H locs cells slots Q (F0 m 924 ls []) := by
  obtain ⟨hx, hb, hml, hr, hts, hown, hlocks, hE, hA, hA0, hN⟩ := id F
  have hok0 := yOk_of hk0 hg0 ht0
  have hn12 := hI.2.1
  have ht40 := hI.2.2.2.1
  have w1 := hts _ (List.mem_cons_of_mem _ (memB (in0_wsL_law0_r4 _ (List.mem_of_getElem? (l := wsL_law0_r4) (i := 3) rfl)) rfl))
  have w2 := hts _ (List.mem_cons_of_mem _ (memB (in0_wsL_law0_r4 _ (List.mem_of_getElem? (l := wsL_law0_r4) (i := 6) rfl)) rfl))
  have w3 := hts _ (List.mem_cons_of_mem _ (memB (in0_wsL_law0_r4 _ (List.mem_of_getElem? (l := wsL_law0_r4) (i := 7) rfl)) rfl))
  have w4 := hts _ (List.mem_cons_of_mem _ (memB (in0_wsL_law0_r4 _ (List.mem_of_getElem? (l := wsL_law0_r4) (i := 5) rfl)) rfl))
  refine lv_iload hx hb dL_refuses_924 (lv_at hl 4 rfl) ?_
  refine lv_if_eq (tgt := 1010) hx hb dL_refuses_926 (by decide) (fun z => absurd z (by decide)) (fun _ => ?_)
  refine lv_aload_n hx hb dL_refuses_929 rfl (lv_at hl 0 rfl) ?_
  refine lv_iconst (v := nI 4) hx hb dL_refuses_930 (by decide) ?_
  refine lv_lconst (v := lN 0) hx hb dL_refuses_931 rfl ?_
  refine zk_call1 (vx_runSW (As := [.ref a.1, .int (nI 4), .long (lN 0)]) (rest := []) ⟨hx, hb, hml, hown, hts⟩ (c_F_tryScript l G hst a σ hok0 (nI 4) (lN 0) _) (vx_cwSW 3 hts gL_refuses_L_tryScript rfl rfl rfl (by decide +kernel) ⟨Nat.le_of_ble_eq_true rfl, Nat.le_of_ble_eq_true rfl⟩) (zk_preSH hN hE hA0 hS hP hD) rfl rfl hl.1 rfl (lv_room (Nat.le_of_ble_eq_true rfl)) dL_refuses_932 ⟨by show cells + 1 ≤ 300; omega, by show slots + 6 ≤ 1800; omega⟩) hP hD hS hA (fun r2 σ1 H locs hpost hP hD hS => ?_)
  refine zk_cs (cells + 1) (slots + 6) rfl rfl ?_
  have hP : va_P G.1 vwCl (zw G a σ1) H := hP
  have hD : va_D A (zw G a σ1) := hD
  obtain ⟨⟨er, ec⟩, ht0⟩ := hpost
  rw [hg0] at er ec
  have hg0 := ec
  have hok0 := yOk_of hk0 hg0 ht0
  refine zk_top (er.trans (ra_scr1 _)) ?_
  refine lv_ldc hx hb (v := (-9999002)) hown w1 dL_refuses_935 ?_
  refine lv_icmp_ne (tgt := 1010) hx hb dL_refuses_937 (by decide) (fun z => absurd (by decide) z) (fun _ => ?_)
  refine lv_aload_n hx hb dL_refuses_940 rfl (lv_at hl 0 rfl) ?_
  refine lv_iconst (v := nI 1) hx hb dL_refuses_941 (by decide) ?_
  refine lv_ldc2 hx hb (v := lN 1000000) hown w2 dL_refuses_942 ?_
  refine lv_iload_n hx hb dL_refuses_945 rfl (lv_at hl 1 rfl) ?_
  refine lv_i2l (v := lN x) hx hb dL_refuses_946 (nI_l (by omega)) ?_
  refine lv_ladd hx hb dL_refuses_947 ?_
  refine zk_topL (zl_addN 1000000 x) ?_
  refine zk_call1 (vx_runSW (As := [.ref a.1, .int (nI 1), .long (lN (1000000 + x))]) (rest := []) ⟨hx, hb, hml, hown, hts⟩ (c_F_tryScript l G hst a σ1 hok0 (nI 1) (lN (1000000 + x)) _) (vx_cwSW 3 hts gL_refuses_L_tryScript rfl rfl rfl (by decide +kernel) ⟨Nat.le_of_ble_eq_true rfl, Nat.le_of_ble_eq_true rfl⟩) (zk_preSH hN hE hA0 hS hP hD) rfl rfl hl.1 rfl (lv_room (Nat.le_of_ble_eq_true rfl)) dL_refuses_948 ⟨by show cells + 1 + 1 ≤ 300; omega, by show slots + 6 + 6 ≤ 1800; omega⟩) hP hD hS hA (fun r4 σ3 H locs hpost hP hD hS => ?_)
  refine zk_cs (cells + 1 + 1) (slots + 6 + 6) rfl rfl ?_
  have hP : va_P G.1 vwCl (zw G a σ3) H := hP
  have hD : va_D A (zw G a σ3) := hD
  obtain ⟨⟨er, ec⟩, ht0⟩ := hpost
  rw [hg0] at er ec
  have hg0 := ec
  have hok0 := yOk_of hk0 hg0 ht0
  refine zk_top (er.trans (ra_scr2 (by omega))) ?_
  refine lv_ldc hx hb (v := (-9999002)) hown w1 dL_refuses_951 ?_
  refine lv_icmp_ne (tgt := 1010) hx hb dL_refuses_953 (by decide) (fun z => absurd (by decide) z) (fun _ => ?_)
  refine lv_aload_n hx hb dL_refuses_956 rfl (lv_at hl 0 rfl) ?_
  refine lv_iconst (v := nI 2) hx hb dL_refuses_957 (by decide) ?_
  refine lv_ldc2 hx hb (v := (-1)) hown w3 dL_refuses_958 ?_
  refine lv_iload_n hx hb dL_refuses_961 rfl (lv_at hl 1 rfl) ?_
  refine lv_i2l (v := lN x) hx hb dL_refuses_962 (nI_l (by omega)) ?_
  refine lv_lsub hx hb dL_refuses_963 ?_
  refine zk_call1 (vx_runSW (As := [.ref a.1, .int (nI 2), .long ((-1) - (lN x))]) (rest := []) ⟨hx, hb, hml, hown, hts⟩ (c_F_tryScript l G hst a σ3 hok0 (nI 2) ((-1) - (lN x)) _) (vx_cwSW 3 hts gL_refuses_L_tryScript rfl rfl rfl (by decide +kernel) ⟨Nat.le_of_ble_eq_true rfl, Nat.le_of_ble_eq_true rfl⟩) (zk_preSH hN hE hA0 hS hP hD) rfl rfl hl.1 rfl (lv_room (Nat.le_of_ble_eq_true rfl)) dL_refuses_964 ⟨by show cells + 1 + 1 + 1 ≤ 300; omega, by show slots + 6 + 6 + 6 ≤ 1800; omega⟩) hP hD hS hA (fun r6 σ5 H locs hpost hP hD hS => ?_)
  refine zk_cs (cells + 1 + 1 + 1) (slots + 6 + 6 + 6) rfl rfl ?_
  have hP : va_P G.1 vwCl (zw G a σ5) H := hP
  have hD : va_D A (zw G a σ5) := hD
  obtain ⟨⟨er, ec⟩, ht0⟩ := hpost
  rw [hg0] at er ec
  have hg0 := ec
  have hok0 := yOk_of hk0 hg0 ht0
  refine zk_top (er.trans (ra_scr3 (by omega))) ?_
  refine lv_ldc hx hb (v := (-9999002)) hown w1 dL_refuses_967 ?_
  refine lv_icmp_ne (tgt := 1010) hx hb dL_refuses_969 (by decide) (fun z => absurd (by decide) z) (fun _ => ?_)
  refine lv_aload_n hx hb dL_refuses_972 rfl (lv_at hl 0 rfl) ?_
  refine lv_iload_n hx hb dL_refuses_973 rfl (lv_at hl 1 rfl) ?_
  refine lv_i2l (v := lN x) hx hb dL_refuses_974 (nI_l (by omega)) ?_
  refine lv_bipush (v := nI 100) hx hb dL_refuses_975 (by decide) ?_
  refine zk_call1 (vx_runSW (As := [.ref a.1, .long (lN x), .int (nI 100)]) (rest := []) ⟨hx, hb, hml, hown, hts⟩ (c_F_trySimulate l G hst a σ5 hok0 (lN x) (nI 100) _) (vx_cwSW 3 hts gL_refuses_L_trySimulate rfl rfl rfl (by decide +kernel) ⟨Nat.le_of_ble_eq_true rfl, Nat.le_of_ble_eq_true rfl⟩) (zk_preSH hN hE hA0 hS hP hD) rfl rfl hl.1 rfl (lv_room (Nat.le_of_ble_eq_true rfl)) dL_refuses_977 ⟨by show cells + 1 + 1 + 1 + 1 ≤ 300; omega, by show slots + 6 + 6 + 6 + 6 ≤ 1800; omega⟩) hP hD hS hA (fun r8 σ7 H locs hpost hP hD hS => ?_)
  refine zk_cs (cells + 1 + 1 + 1 + 1) (slots + 6 + 6 + 6 + 6) rfl rfl ?_
  have hP : va_P G.1 vwCl (zw G a σ7) H := hP
  have hD : va_D A (zw G a σ7) := hD
  obtain ⟨⟨er, ec⟩, ht0⟩ := hpost
  rw [hg0] at er ec
  have hg0 := ec
  have hok0 := yOk_of hk0 hg0 ht0
  refine zk_top (er.trans (ra_sim _)) ?_
  refine lv_ldc hx hb (v := (-9999002)) hown w1 dL_refuses_980 ?_
  refine lv_icmp_ne (tgt := 1010) hx hb dL_refuses_982 (by decide) (fun z => absurd (by decide) z) (fun _ => ?_)
  refine lv_aload_n hx hb dL_refuses_985 rfl (lv_at hl 0 rfl) ?_
  refine zk_call1 (va_runV (As := []) (rest := []) ⟨hx, hb, hml, hown, hts⟩ (c_F_errorPosition l G a σ7 hok0 _) (cwV 0 hts gL_refuses_X5_errorPosition rfl rfl rfl (by decide +kernel) ⟨Nat.le_of_ble_eq_true rfl, Nat.le_of_ble_eq_true rfl⟩) (zk_preVH hN hE hA0 hS hP hD (va_recv hE.1 hP (ci := 4) (q0 := 0) rfl rfl)) rfl rfl hl.1 rfl (lv_room (Nat.le_of_ble_eq_true rfl)) dL_refuses_986 ⟨by show cells + 1 + 1 + 1 + 1 + 0 ≤ 300; omega, by show slots + 6 + 6 + 6 + 6 + 0 ≤ 1800; omega⟩) hP hD hS hA (fun r10 σ9 H locs hpost hP hD hS => ?_)
  refine zk_cs (cells + 1 + 1 + 1 + 1 + 0) (slots + 6 + 6 + 6 + 6 + 0) rfl rfl ?_
  have hP : va_P G.1 vwCl (zw G a σ9) H := hP
  have hD : va_D A (zw G a σ9) := hD
  obtain ⟨⟨er, ec⟩, ht0⟩ := hpost
  rw [hg0] at er ec
  have hg0 := ec
  have hok0 := yOk_of hk0 hg0 ht0
  refine zk_top er ?_
  refine lv_iconst (v := -1) hx hb dL_refuses_989 (by decide) ?_
  refine lv_icmp_eq (tgt := 1006) hx hb dL_refuses_990 (by decide) (fun h990_10 => ?_) (fun h990_10 => ?_)
  · refine lv_iconst (v := nI 1) hx hb dL_refuses_1006 (by decide) ?_
    refine lv_goto (tgt := 1011) hx hb dL_refuses_1007 (by decide) ?_
    refine W.widen (k := cells + 28) (n := slots + 168) (by omega) (by omega) ?_
    exact kk σ9 _ _ _ ht0 hg0 hP hD hS (lv_sub hl [0, 1, 2, 3, 4] rfl)
  · refine lv_aload_n hx hb dL_refuses_993 rfl (lv_at hl 0 rfl) ?_
    refine lv_iconst (v := nI 1) hx hb dL_refuses_994 (by decide) ?_
    refine lv_iconst (v := nI 0) hx hb dL_refuses_995 (by decide) ?_
    refine lv_iconst (v := nI 0) hx hb dL_refuses_996 (by decide) ?_
    refine lv_iconst (v := nI 0) hx hb dL_refuses_997 (by decide) ?_
    refine zk_call1 (va_runS (As := [.ref a.1, .int (nI 1), .int (nI 0), .int (nI 0), .int (nI 0)]) (rest := []) ⟨hx, hb, hml, hown, hts⟩ (c_C_1 l G hst a σ9 hok0 (nI 0) (nI 0) (nI 0) _) (va_cwS 5 hts gL_refuses_L_call rfl rfl rfl (by decide +kernel) ⟨Nat.le_of_ble_eq_true rfl, Nat.le_of_ble_eq_true rfl⟩) (zk_preSH hN hE hA0 hS hP hD) rfl rfl hl.1 rfl (lv_room (Nat.le_of_ble_eq_true rfl)) dL_refuses_998 ⟨by show cells + 1 + 1 + 1 + 1 + 0 + 4 ≤ 300; omega, by show slots + 6 + 6 + 6 + 6 + 0 + 24 ≤ 1800; omega⟩) hP hD hS hA (fun r13 σ12 H locs hpost hP hD hS => ?_)
    refine zk_cs (cells + 1 + 1 + 1 + 1 + 0 + 4) (slots + 6 + 6 + 6 + 6 + 0 + 24) rfl rfl ?_
    have hP : va_P G.1 vwCl (zw G a σ12) H := hP
    have hD : va_D A (zw G a σ12) := hD
    obtain ⟨⟨er, ec⟩, ht0⟩ := hpost
    rw [hg0] at er ec
    have hq := (ra_load (by assumption) : fLoad κ = ((-9999003), κ))
    rw [hq] at er ec
    have hg0 : core σ12 = κ := ec
    have er : r13 = (-9999003) := er
    have hok0 := yOk_of hk0 hg0 ht0
    refine zk_top er ?_
    refine lv_ldc hx hb (v := (-9999003)) hown w4 dL_refuses_1001 ?_
    refine lv_icmp_ne (tgt := 1010) hx hb dL_refuses_1003 (by decide) (fun z => absurd (by decide) z) (fun _ => ?_)
    refine lv_iconst (v := nI 1) hx hb dL_refuses_1006 (by decide) ?_
    refine lv_goto (tgt := 1011) hx hb dL_refuses_1007 (by decide) ?_
    refine W.widen (k := cells + 28) (n := slots + 168) (by omega) (by omega) ?_
    exact kk σ12 _ _ _ ht0 hg0 hP hD hS (lv_sub hl [0, 1, 2, 3, 4] rfl)

set_option maxHeartbeats 4000000 in
set_option maxRecDepth 100000 in
/-- calls that throw change nothing, and answer as they must -/
theorem c_L_refuses (l : Launch) (G : zk_G) (hst : l.stackTraces = false) (a : zA) (σ : zSt) (hok : yOk σ) (x : Nat) (hx31 : x < 2 ^ 31) (hb : ∀ c, c < zN (kL (core σ)) → bB 1000000000 (kL (core σ) 3 c)) : zk_IH (S := zSt) l yL_refuses vL_refuses rmL_refuses G [.ref a.1, .int (nI x)] (zw G a σ) (fun r σ' => (r = nI 1 ∧ core σ' = core σ) ∧ zTx σ') (zw G a) := by
  refine zk_bodyIN (cc := cL_refuses) (maxL := 7) (ret := (some .boolean)) (by decide) rfl (Nat.le_of_ble_eq_true rfl) ?_
  intro p E0 s m args below meth cd A ls Q hF hN hQ
  obtain ⟨hx, hb0, hml, hr, hts, hown, hlocks, -, hE, hP, hD, hS, hA, hA0, hl⟩ := hF
  have F : zFx p s m meth cd args cL_refuses 7 (some .boolean) vL_refuses A G := ⟨hx, hb0, hml, hr, hts, hown, hlocks, hE, hA, hA0, hN⟩
  have hl : lv_has ls 7 [(0, .ref a.1), (1, .int (nI x))] := hl
  obtain ⟨ht0, hk⟩ := hok
  obtain ⟨κ, hg0⟩ : ∃ κ, core σ = κ := ⟨_, rfl⟩
  have hk0 : kOk κ := by rw [← hg0]; exact hk
  rw [hg0] at hb hQ
  have hI := hk0.1
  revert hb hI
  generalize zN (kL κ) = n
  generalize zT (kL κ) = t
  intro hb hI
  have hn12 := hI.2.1
  have fin : ∀ (σ₁ : zSt) (H₁ : Heap) (locs₁ : List Loc) (ls₁ : Array Slot), zTx σ₁ → core σ₁ = κ → va_P G.1 vwCl (zw G a σ₁) H₁ → va_D A (zw G a σ₁) → va_S A s.heap H₁ locs₁ → lv_has ls₁ 7 [(0, .ref a.1), (1, .int (nI x)), (2, .int (nI n)), (3, .int (nI t)), (4, .int (nI 1))] → W p l E0 rmL_refuses s m args below meth cd H₁ locs₁ 212 1272 Q (F0 m 924 ls₁ []) := by
    intro σ₁ H₁ locs₁ ls₁ ht hg hP hD hS hl
    refine zr_5 hst F ht hg hk0 hx31 hI hP hD hS hl ⟨by decide, by decide⟩ (fun σ₂ H₂ locs₂ ls₂ ht hg hP hD hS hl => ?_)
    exact zk_retz σ₂ hQ hx hb0 hr hlocks hS hP hD (Nat.le_of_ble_eq_true rfl) (Nat.le_of_ble_eq_true rfl) dL_refuses_1011 rfl ⟨⟨rfl, hg⟩, ht⟩
  refine zr_1 hst F ht0 hg0 hk0 hx31 hI hP hD hS hl ⟨by decide, by decide⟩ (fun σ₁ H locs ls ht hg hP hD hS hl => ?_)
  refine zr_2 hst F ht hg hk0 hx31 hI hP hD hS hl ⟨by decide, by decide⟩ (fun σ₂ H locs ls ht hg hP hD hS hl => ?_)
  refine zr_2b hst F ht hg hk0 hx31 hI hP hD hS hl ⟨by decide, by decide⟩ (fun σ₃ H locs ls ht hg hP hD hS hl => ?_)
  refine zr_3 hst F ht hg hk0 hx31 hI hP hD hS hl ⟨by decide, by decide⟩ (fun σ₄ H locs ls ht hg hP hD hS hl => ?_)
  refine lv_iload_n hx hb0 dL_refuses_626 rfl (lv_at hl 2 rfl) ?_
  refine lv_if_le (tgt := 924) hx hb0 dL_refuses_627 (by decide) (fun _ => ?_) (fun h => ?_)
  · exact W.widen (k := 212) (n := 1272) (by decide) (by decide) (fin σ₄ H locs ls ht hg hP hD hS hl)
  · have h := zk_nle0 (by omega) h
    have hcn : x % n < n := Nat.mod_lt _ h
    refine lv_iload_n hx hb0 dL_refuses_630 rfl (lv_at hl 1 rfl) ?_
    refine lv_iload_n hx hb0 dL_refuses_631 rfl (lv_at hl 2 rfl) ?_
    refine zk_iremN hx hb0 dL_refuses_632 hx31 h (by omega) ?_
    refine lv_istore (lv' := [(5, .int (nI (x % n))), (0, .ref a.1), (1, .int (nI x)), (2, .int (nI n)), (3, .int (nI t)), (4, .int (nI 1))]) hx hb0 dL_refuses_633 hl (by decide) rfl (fun ls hl => ?_)
    have hl := lv_sub (l' := [(0, .ref a.1), (1, .int (nI x)), (2, .int (nI n)), (3, .int (nI t)), (4, .int (nI 1)), (5, .int (nI (x % n)))]) hl [1, 2, 3, 4, 5, 0] rfl
    refine zr_4a hst F ht hg hk0 hx31 hI hcn hb hP hD hS hl ⟨by decide, by decide⟩ (fun σ₅ H locs ls ht hg hP hD hS hl => ?_)
    refine zr_4b hst F ht hg hk0 hx31 hI hcn hb hP hD hS hl ⟨by decide, by decide⟩ (fun σ₆ H locs ls ht hg hP hD hS hl => ?_)
    refine zr_4c hst F ht hg hk0 hx31 hI hcn hb hP hD hS hl ⟨by decide, by decide⟩ (fun σ₇ H locs ls ht hg hP hD hS hl => ?_)
    refine zr_4d hst F ht hg hk0 hx31 hI hcn hb hP hD hS hl ⟨by decide, by decide⟩ (fun σ₈ H locs ls ht hg hP hD hS hl => ?_)
    exact fin σ₈ H locs ls ht hg hP hD hS hl
