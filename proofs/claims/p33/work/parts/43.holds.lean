/-! What the law asks to hold, holds. -/
def zto (x : Nat) : Int32 := if x / 1024 % 3 = 0 then -1 else nI (x / 16 % 40 + x / 4096 % (40 - x / 16 % 40))
theorem zto_0 {x : Nat} (h : x / 1024 % 3 = 0) : -1 = zto x := by unfold zto; rw [if_pos h]
theorem zto_1 {x : Nat} (h : ¬ x / 1024 % 3 = 0) : nI (x / 16 % 40 + x / 4096 % (40 - x / 16 % 40)) = zto x := by unfold zto; rw [if_neg h]

abbrev rmL_holds : Room := { frames := 11, cells := 1600, slots := 9600, locals := 246 }

set_option maxHeartbeats 4000000 in
set_option maxRecDepth 100000 in
theorem zh_1 {p : Program} {l : Launch} {e : Env} {s : State} {m : MethodId} {args : Array Value} {below : List Frame} {meth : Method} {c : Code} {Q : State → Prop} {A : Nat → Prop} {G : zk_G} {H : Heap} {locs : List Loc} {cells slots : Nat} {ls : Array Slot} (hst : l.stackTraces = false) (F : zFx p s m meth c args cL_holds 21 (some .boolean) vL_holds A G) {a : zA} {σ : zSt} {κ : zCo}  (ht0 : zTx σ) (hg0 : core σ = κ) (hk0 : kOk κ) {x n t : Nat} (hx31 : x < 2 ^ 31) (hI : sInv (kL κ) n t) (hp1 : fAbout (kL κ) (nI 11) = fAbout (kL κ) (nI 8) + fAbout (kL κ) (nI 10) - fAbout (kL κ) (nI 9)) (hp2 : fAbout (kL κ) (nI 3) = fAbout (kL κ) (nI 4) + fAbout (kL κ) (nI 5)) (hP : va_P G.1 vwCl (zw G a σ) H) (hD : va_D A (zw G a σ)) (hS : va_S A s.heap H locs) (hl : lv_has ls 21 [(0, .ref a.1), (1, .int (nI x))]) (hcs : cells + 36 ≤ 1600 ∧ slots + 216 ≤ 9600)
    (kk : ∀ (σ₁ : zSt) (H₁ : Heap) (locs₁ : List Loc) (ls₁ : Array Slot), zTx σ₁ → core σ₁ = κ →  va_P G.1 vwCl (zw G a σ₁) H₁ → va_D A (zw G a σ₁) → va_S A s.heap H₁ locs₁ → lv_has ls₁ 21 [(0, .ref a.1), (1, .int (nI x)), (2, .int (nI n)), (3, .int (nI t)), (4, .int (fAbout (kL κ) (nI 11))), (5, .int (nI 1))] → W p l e rmL_holds s m args below meth c H₁ locs₁ (cells + 36) (slots + 216) Q (F0 m 98 ls₁ [])) :
    W p l e rmL_holds s m args below meth c H locs cells slots Q (F0 m 0 ls []) := by
  obtain ⟨hx, hb, hml, hr, hts, hown, hlocks, hE, hA, hA0, hN⟩ := id F
  have hok0 := yOk_of hk0 hg0 ht0
  have hn12 := hI.2.1
  have ht40 := hI.2.2.2.1
  refine lv_aload_n hx hb dL_holds_0 rfl (lv_at hl 0 rfl) ?_
  refine lv_iconst (v := nI 2) hx hb dL_holds_1 (by decide) ?_
  refine lv_iconst (v := nI 1) hx hb dL_holds_2 (by decide) ?_
  refine lv_iconst (v := nI 0) hx hb dL_holds_3 (by decide) ?_
  refine lv_iconst (v := nI 0) hx hb dL_holds_4 (by decide) ?_
  refine zk_call1 (va_runS (As := [.ref a.1, .int (nI 2), .int (nI 1), .int (nI 0), .int (nI 0)]) (rest := []) ⟨hx, hb, hml, hown, hts⟩ (c_C_2 l G hst a σ hok0 (nI 1) (nI 0) (nI 0) _) (va_cwS 5 hts gL_holds_L_call rfl rfl rfl (by decide +kernel) ⟨Nat.le_of_ble_eq_true rfl, Nat.le_of_ble_eq_true rfl⟩) (zk_preSH hN hE hA0 hS hP hD) rfl rfl hl.1 rfl (lv_room (Nat.le_of_ble_eq_true rfl)) dL_holds_5 ⟨by show cells + 4 ≤ 1600; omega, by show slots + 24 ≤ 9600; omega⟩) hP hD hS hA (fun r2 σ1 H locs hpost hP hD hS => ?_)
  refine zk_cs (cells + 4) (slots + 24) rfl rfl ?_
  have hP : va_P G.1 vwCl (zw G a σ1) H := hP
  have hD : va_D A (zw G a σ1) := hD
  obtain ⟨⟨er, ec⟩, ht0⟩ := hpost
  rw [hg0] at er ec
  have hg0 : core σ1 = κ := ec
  have hok0 := yOk_of hk0 hg0 ht0
  refine zk_top (er.trans (ra_about1 hI)) ?_
  refine lv_istore_n (lv' := [(2, .int (nI n)), (0, .ref a.1), (1, .int (nI x))]) hx hb dL_holds_8 rfl hl (by decide) rfl (fun ls hl => ?_)
  refine lv_aload_n hx hb dL_holds_9 rfl (lv_at hl 1 rfl) ?_
  refine lv_iconst (v := nI 2) hx hb dL_holds_10 (by decide) ?_
  refine lv_iconst (v := nI 0) hx hb dL_holds_11 (by decide) ?_
  refine lv_iconst (v := nI 0) hx hb dL_holds_12 (by decide) ?_
  refine lv_iconst (v := nI 0) hx hb dL_holds_13 (by decide) ?_
  refine zk_call1 (va_runS (As := [.ref a.1, .int (nI 2), .int (nI 0), .int (nI 0), .int (nI 0)]) (rest := []) ⟨hx, hb, hml, hown, hts⟩ (c_C_2 l G hst a σ1 hok0 (nI 0) (nI 0) (nI 0) _) (va_cwS 5 hts gL_holds_L_call rfl rfl rfl (by decide +kernel) ⟨Nat.le_of_ble_eq_true rfl, Nat.le_of_ble_eq_true rfl⟩) (zk_preSH hN hE hA0 hS hP hD) rfl rfl hl.1 rfl (lv_room (Nat.le_of_ble_eq_true rfl)) dL_holds_14 ⟨by show cells + 4 + 4 ≤ 1600; omega, by show slots + 24 + 24 ≤ 9600; omega⟩) hP hD hS hA (fun r4 σ3 H locs hpost hP hD hS => ?_)
  refine zk_cs (cells + 4 + 4) (slots + 24 + 24) rfl rfl ?_
  have hP : va_P G.1 vwCl (zw G a σ3) H := hP
  have hD : va_D A (zw G a σ3) := hD
  obtain ⟨⟨er, ec⟩, ht0⟩ := hpost
  rw [hg0] at er ec
  have hg0 : core σ3 = κ := ec
  have hok0 := yOk_of hk0 hg0 ht0
  refine zk_top (er.trans (ra_about0 hI)) ?_
  refine lv_istore_n (lv' := [(3, .int (nI t)), (2, .int (nI n)), (0, .ref a.1), (1, .int (nI x))]) hx hb dL_holds_17 rfl hl (by decide) rfl (fun ls hl => ?_)
  refine lv_aload_n hx hb dL_holds_18 rfl (lv_at hl 2 rfl) ?_
  refine lv_iconst (v := nI 2) hx hb dL_holds_19 (by decide) ?_
  refine lv_bipush (v := nI 11) hx hb dL_holds_20 (by decide) ?_
  refine lv_iconst (v := nI 0) hx hb dL_holds_22 (by decide) ?_
  refine lv_iconst (v := nI 0) hx hb dL_holds_23 (by decide) ?_
  refine zk_call1 (va_runS (As := [.ref a.1, .int (nI 2), .int (nI 11), .int (nI 0), .int (nI 0)]) (rest := []) ⟨hx, hb, hml, hown, hts⟩ (c_C_2 l G hst a σ3 hok0 (nI 11) (nI 0) (nI 0) _) (va_cwS 5 hts gL_holds_L_call rfl rfl rfl (by decide +kernel) ⟨Nat.le_of_ble_eq_true rfl, Nat.le_of_ble_eq_true rfl⟩) (zk_preSH hN hE hA0 hS hP hD) rfl rfl hl.1 rfl (lv_room (Nat.le_of_ble_eq_true rfl)) dL_holds_24 ⟨by show cells + 4 + 4 + 4 ≤ 1600; omega, by show slots + 24 + 24 + 24 ≤ 9600; omega⟩) hP hD hS hA (fun r6 σ5 H locs hpost hP hD hS => ?_)
  refine zk_cs (cells + 4 + 4 + 4) (slots + 24 + 24 + 24) rfl rfl ?_
  have hP : va_P G.1 vwCl (zw G a σ5) H := hP
  have hD : va_D A (zw G a σ5) := hD
  obtain ⟨⟨er, ec⟩, ht0⟩ := hpost
  rw [hg0] at er ec
  have hg0 : core σ5 = κ := ec
  have hok0 := yOk_of hk0 hg0 ht0
  refine zk_top (er) ?_
  refine lv_istore (lv' := [(4, .int (fAbout (kL κ) (nI 11))), (3, .int (nI t)), (2, .int (nI n)), (0, .ref a.1), (1, .int (nI x))]) hx hb dL_holds_27 hl (by decide) rfl (fun ls hl => ?_)
  refine lv_iload hx hb dL_holds_29 (lv_at hl 0 rfl) ?_
  refine lv_aload_n hx hb dL_holds_31 rfl (lv_at hl 3 rfl) ?_
  refine lv_iconst (v := nI 2) hx hb dL_holds_32 (by decide) ?_
  refine lv_bipush (v := nI 8) hx hb dL_holds_33 (by decide) ?_
  refine lv_iconst (v := nI 0) hx hb dL_holds_35 (by decide) ?_
  refine lv_iconst (v := nI 0) hx hb dL_holds_36 (by decide) ?_
  refine zk_call1 (va_runS (As := [.ref a.1, .int (nI 2), .int (nI 8), .int (nI 0), .int (nI 0)]) (rest := [.int (fAbout (kL κ) (nI 11))]) ⟨hx, hb, hml, hown, hts⟩ (c_C_2 l G hst a σ5 hok0 (nI 8) (nI 0) (nI 0) _) (va_cwS 5 hts gL_holds_L_call rfl rfl rfl (by decide +kernel) ⟨Nat.le_of_ble_eq_true rfl, Nat.le_of_ble_eq_true rfl⟩) (zk_preSH hN hE hA0 hS hP hD) rfl rfl hl.1 rfl (lv_room (Nat.le_of_ble_eq_true rfl)) dL_holds_37 ⟨by show cells + 4 + 4 + 4 + 4 ≤ 1600; omega, by show slots + 24 + 24 + 24 + 24 ≤ 9600; omega⟩) hP hD hS hA (fun r8 σ7 H locs hpost hP hD hS => ?_)
  refine zk_cs (cells + 4 + 4 + 4 + 4) (slots + 24 + 24 + 24 + 24) rfl rfl ?_
  have hP : va_P G.1 vwCl (zw G a σ7) H := hP
  have hD : va_D A (zw G a σ7) := hD
  obtain ⟨⟨er, ec⟩, ht0⟩ := hpost
  rw [hg0] at er ec
  have hg0 : core σ7 = κ := ec
  have hok0 := yOk_of hk0 hg0 ht0
  refine zk_top (er) ?_
  refine lv_aload_n hx hb dL_holds_40 rfl (lv_at hl 3 rfl) ?_
  refine lv_iconst (v := nI 2) hx hb dL_holds_41 (by decide) ?_
  refine lv_bipush (v := nI 10) hx hb dL_holds_42 (by decide) ?_
  refine lv_iconst (v := nI 0) hx hb dL_holds_44 (by decide) ?_
  refine lv_iconst (v := nI 0) hx hb dL_holds_45 (by decide) ?_
  refine zk_call1 (va_runS (As := [.ref a.1, .int (nI 2), .int (nI 10), .int (nI 0), .int (nI 0)]) (rest := [.int (fAbout (kL κ) (nI 8)), .int (fAbout (kL κ) (nI 11))]) ⟨hx, hb, hml, hown, hts⟩ (c_C_2 l G hst a σ7 hok0 (nI 10) (nI 0) (nI 0) _) (va_cwS 5 hts gL_holds_L_call rfl rfl rfl (by decide +kernel) ⟨Nat.le_of_ble_eq_true rfl, Nat.le_of_ble_eq_true rfl⟩) (zk_preSH hN hE hA0 hS hP hD) rfl rfl hl.1 rfl (lv_room (Nat.le_of_ble_eq_true rfl)) dL_holds_46 ⟨by show cells + 4 + 4 + 4 + 4 + 4 ≤ 1600; omega, by show slots + 24 + 24 + 24 + 24 + 24 ≤ 9600; omega⟩) hP hD hS hA (fun r10 σ9 H locs hpost hP hD hS => ?_)
  refine zk_cs (cells + 4 + 4 + 4 + 4 + 4) (slots + 24 + 24 + 24 + 24 + 24) rfl rfl ?_
  have hP : va_P G.1 vwCl (zw G a σ9) H := hP
  have hD : va_D A (zw G a σ9) := hD
  obtain ⟨⟨er, ec⟩, ht0⟩ := hpost
  rw [hg0] at er ec
  have hg0 : core σ9 = κ := ec
  have hok0 := yOk_of hk0 hg0 ht0
  refine zk_top (er) ?_
  refine lv_iadd hx hb dL_holds_49 ?_
  refine lv_aload_n hx hb dL_holds_50 rfl (lv_at hl 3 rfl) ?_
  refine lv_iconst (v := nI 2) hx hb dL_holds_51 (by decide) ?_
  refine lv_bipush (v := nI 9) hx hb dL_holds_52 (by decide) ?_
  refine lv_iconst (v := nI 0) hx hb dL_holds_54 (by decide) ?_
  refine lv_iconst (v := nI 0) hx hb dL_holds_55 (by decide) ?_
  refine zk_call1 (va_runS (As := [.ref a.1, .int (nI 2), .int (nI 9), .int (nI 0), .int (nI 0)]) (rest := [.int ((fAbout (kL κ) (nI 8)) + (fAbout (kL κ) (nI 10))), .int (fAbout (kL κ) (nI 11))]) ⟨hx, hb, hml, hown, hts⟩ (c_C_2 l G hst a σ9 hok0 (nI 9) (nI 0) (nI 0) _) (va_cwS 5 hts gL_holds_L_call rfl rfl rfl (by decide +kernel) ⟨Nat.le_of_ble_eq_true rfl, Nat.le_of_ble_eq_true rfl⟩) (zk_preSH hN hE hA0 hS hP hD) rfl rfl hl.1 rfl (lv_room (Nat.le_of_ble_eq_true rfl)) dL_holds_56 ⟨by show cells + 4 + 4 + 4 + 4 + 4 + 4 ≤ 1600; omega, by show slots + 24 + 24 + 24 + 24 + 24 + 24 ≤ 9600; omega⟩) hP hD hS hA (fun r12 σ11 H locs hpost hP hD hS => ?_)
  refine zk_cs (cells + 4 + 4 + 4 + 4 + 4 + 4) (slots + 24 + 24 + 24 + 24 + 24 + 24) rfl rfl ?_
  have hP : va_P G.1 vwCl (zw G a σ11) H := hP
  have hD : va_D A (zw G a σ11) := hD
  obtain ⟨⟨er, ec⟩, ht0⟩ := hpost
  rw [hg0] at er ec
  have hg0 : core σ11 = κ := ec
  have hok0 := yOk_of hk0 hg0 ht0
  refine zk_top (er) ?_
  refine lv_isub hx hb dL_holds_59 ?_
  refine lv_icmp_ne (tgt := 95) hx hb dL_holds_60 (by decide) (fun h => absurd hp1 h) (fun _ => ?_)
  refine lv_aload_n hx hb dL_holds_63 rfl (lv_at hl 3 rfl) ?_
  refine lv_iconst (v := nI 2) hx hb dL_holds_64 (by decide) ?_
  refine lv_iconst (v := nI 3) hx hb dL_holds_65 (by decide) ?_
  refine lv_iconst (v := nI 0) hx hb dL_holds_66 (by decide) ?_
  refine lv_iconst (v := nI 0) hx hb dL_holds_67 (by decide) ?_
  refine zk_call1 (va_runS (As := [.ref a.1, .int (nI 2), .int (nI 3), .int (nI 0), .int (nI 0)]) (rest := []) ⟨hx, hb, hml, hown, hts⟩ (c_C_2 l G hst a σ11 hok0 (nI 3) (nI 0) (nI 0) _) (va_cwS 5 hts gL_holds_L_call rfl rfl rfl (by decide +kernel) ⟨Nat.le_of_ble_eq_true rfl, Nat.le_of_ble_eq_true rfl⟩) (zk_preSH hN hE hA0 hS hP hD) rfl rfl hl.1 rfl (lv_room (Nat.le_of_ble_eq_true rfl)) dL_holds_68 ⟨by show cells + 4 + 4 + 4 + 4 + 4 + 4 + 4 ≤ 1600; omega, by show slots + 24 + 24 + 24 + 24 + 24 + 24 + 24 ≤ 9600; omega⟩) hP hD hS hA (fun r14 σ13 H locs hpost hP hD hS => ?_)
  refine zk_cs (cells + 4 + 4 + 4 + 4 + 4 + 4 + 4) (slots + 24 + 24 + 24 + 24 + 24 + 24 + 24) rfl rfl ?_
  have hP : va_P G.1 vwCl (zw G a σ13) H := hP
  have hD : va_D A (zw G a σ13) := hD
  obtain ⟨⟨er, ec⟩, ht0⟩ := hpost
  rw [hg0] at er ec
  have hg0 : core σ13 = κ := ec
  have hok0 := yOk_of hk0 hg0 ht0
  refine zk_top (er) ?_
  refine lv_aload_n hx hb dL_holds_71 rfl (lv_at hl 3 rfl) ?_
  refine lv_iconst (v := nI 2) hx hb dL_holds_72 (by decide) ?_
  refine lv_iconst (v := nI 4) hx hb dL_holds_73 (by decide) ?_
  refine lv_iconst (v := nI 0) hx hb dL_holds_74 (by decide) ?_
  refine lv_iconst (v := nI 0) hx hb dL_holds_75 (by decide) ?_
  refine zk_call1 (va_runS (As := [.ref a.1, .int (nI 2), .int (nI 4), .int (nI 0), .int (nI 0)]) (rest := [.int (fAbout (kL κ) (nI 3))]) ⟨hx, hb, hml, hown, hts⟩ (c_C_2 l G hst a σ13 hok0 (nI 4) (nI 0) (nI 0) _) (va_cwS 5 hts gL_holds_L_call rfl rfl rfl (by decide +kernel) ⟨Nat.le_of_ble_eq_true rfl, Nat.le_of_ble_eq_true rfl⟩) (zk_preSH hN hE hA0 hS hP hD) rfl rfl hl.1 rfl (lv_room (Nat.le_of_ble_eq_true rfl)) dL_holds_76 ⟨by show cells + 4 + 4 + 4 + 4 + 4 + 4 + 4 + 4 ≤ 1600; omega, by show slots + 24 + 24 + 24 + 24 + 24 + 24 + 24 + 24 ≤ 9600; omega⟩) hP hD hS hA (fun r16 σ15 H locs hpost hP hD hS => ?_)
  refine zk_cs (cells + 4 + 4 + 4 + 4 + 4 + 4 + 4 + 4) (slots + 24 + 24 + 24 + 24 + 24 + 24 + 24 + 24) rfl rfl ?_
  have hP : va_P G.1 vwCl (zw G a σ15) H := hP
  have hD : va_D A (zw G a σ15) := hD
  obtain ⟨⟨er, ec⟩, ht0⟩ := hpost
  rw [hg0] at er ec
  have hg0 : core σ15 = κ := ec
  have hok0 := yOk_of hk0 hg0 ht0
  refine zk_top (er) ?_
  refine lv_aload_n hx hb dL_holds_79 rfl (lv_at hl 3 rfl) ?_
  refine lv_iconst (v := nI 2) hx hb dL_holds_80 (by decide) ?_
  refine lv_iconst (v := nI 5) hx hb dL_holds_81 (by decide) ?_
  refine lv_iconst (v := nI 0) hx hb dL_holds_82 (by decide) ?_
  refine lv_iconst (v := nI 0) hx hb dL_holds_83 (by decide) ?_
  refine zk_call1 (va_runS (As := [.ref a.1, .int (nI 2), .int (nI 5), .int (nI 0), .int (nI 0)]) (rest := [.int (fAbout (kL κ) (nI 4)), .int (fAbout (kL κ) (nI 3))]) ⟨hx, hb, hml, hown, hts⟩ (c_C_2 l G hst a σ15 hok0 (nI 5) (nI 0) (nI 0) _) (va_cwS 5 hts gL_holds_L_call rfl rfl rfl (by decide +kernel) ⟨Nat.le_of_ble_eq_true rfl, Nat.le_of_ble_eq_true rfl⟩) (zk_preSH hN hE hA0 hS hP hD) rfl rfl hl.1 rfl (lv_room (Nat.le_of_ble_eq_true rfl)) dL_holds_84 ⟨by show cells + 4 + 4 + 4 + 4 + 4 + 4 + 4 + 4 + 4 ≤ 1600; omega, by show slots + 24 + 24 + 24 + 24 + 24 + 24 + 24 + 24 + 24 ≤ 9600; omega⟩) hP hD hS hA (fun r18 σ17 H locs hpost hP hD hS => ?_)
  refine zk_cs (cells + 4 + 4 + 4 + 4 + 4 + 4 + 4 + 4 + 4) (slots + 24 + 24 + 24 + 24 + 24 + 24 + 24 + 24 + 24) rfl rfl ?_
  have hP : va_P G.1 vwCl (zw G a σ17) H := hP
  have hD : va_D A (zw G a σ17) := hD
  obtain ⟨⟨er, ec⟩, ht0⟩ := hpost
  rw [hg0] at er ec
  have hg0 : core σ17 = κ := ec
  have hok0 := yOk_of hk0 hg0 ht0
  refine zk_top (er) ?_
  refine lv_iadd hx hb dL_holds_87 ?_
  refine lv_icmp_ne (tgt := 95) hx hb dL_holds_88 (by decide) (fun h => absurd hp2 h) (fun _ => ?_)
  refine lv_iconst (v := nI 1) hx hb dL_holds_91 (by decide) ?_
  refine lv_goto (tgt := 96) hx hb dL_holds_92 (by decide) ?_
  refine lv_istore (lv' := [(5, .int (nI 1)), (4, .int (fAbout (kL κ) (nI 11))), (3, .int (nI t)), (2, .int (nI n)), (0, .ref a.1), (1, .int (nI x))]) hx hb dL_holds_96 hl (by decide) rfl (fun ls hl => ?_)
  refine W.widen (k := cells + 36) (n := slots + 216) (by omega) (by omega) ?_
  exact kk σ17 _ _ _ ht0 hg0 hP hD hS (lv_sub hl [4, 5, 3, 2, 1, 0] rfl)

set_option maxHeartbeats 4000000 in
set_option maxRecDepth 100000 in
theorem zh_2 {p : Program} {l : Launch} {e : Env} {s : State} {m : MethodId} {args : Array Value} {below : List Frame} {meth : Method} {c : Code} {Q : State → Prop} {A : Nat → Prop} {G : zk_G} {H : Heap} {locs : List Loc} {cells slots : Nat} {ls : Array Slot} (hst : l.stackTraces = false) (F : zFx p s m meth c args cL_holds 21 (some .boolean) vL_holds A G) {a : zA} {σ : zSt} {κ : zCo}  (ht0 : zTx σ) (hg0 : core σ = κ) (hk0 : kOk κ) {x n t i : Nat} (hx31 : x < 2 ^ 31) (hI : sInv (kL κ) n t) (hi : i < 40) (hd0 : t ≤ i → fDay (kL κ) (nI i) (nI 2) = 0) (hP : va_P G.1 vwCl (zw G a σ) H) (hD : va_D A (zw G a σ)) (hS : va_S A s.heap H locs) (hl : lv_has ls 21 [(0, .ref a.1), (1, .int (nI x)), (2, .int (nI n)), (3, .int (nI t)), (4, .int (fAbout (kL κ) (nI 11))), (5, .int (nI 1)), (6, .int (zs (fun k => fDay (kL κ) (nI k) (nI 1)) i)), (7, .int (zs (fun k => fDay (kL κ) (nI k) (nI 3)) i)), (8, .int (nI i))]) (hcs : cells + 20 ≤ 1600 ∧ slots + 120 ≤ 9600)
    (kk : ∀ (σ₁ : zSt) (H₁ : Heap) (locs₁ : List Loc) (ls₁ : Array Slot), zTx σ₁ → core σ₁ = κ →  va_P G.1 vwCl (zw G a σ₁) H₁ → va_D A (zw G a σ₁) → va_S A s.heap H₁ locs₁ → lv_has ls₁ 21 [(0, .ref a.1), (1, .int (nI x)), (2, .int (nI n)), (3, .int (nI t)), (4, .int (fAbout (kL κ) (nI 11))), (5, .int (nI 1)), (6, .int (zs (fun k => fDay (kL κ) (nI k) (nI 1)) (i + 1))), (7, .int (zs (fun k => fDay (kL κ) (nI k) (nI 3)) (i + 1))), (8, .int (nI (i + 1)))] → W p l e rmL_holds s m args below meth c H₁ locs₁ (cells + 20) (slots + 120) Q (F0 m 107 ls₁ [])) :
    W p l e rmL_holds s m args below meth c H locs cells slots Q (F0 m 107 ls []) := by
  obtain ⟨hx, hb, hml, hr, hts, hown, hlocks, hE, hA, hA0, hN⟩ := id F
  have hok0 := yOk_of hk0 hg0 ht0
  have hn12 := hI.2.1
  have ht40 := hI.2.2.2.1
  refine lv_iload hx hb dL_holds_107 (lv_at hl 8 rfl) ?_
  refine lv_bipush (v := nI 40) hx hb dL_holds_109 (by decide) ?_
  refine lv_icmp_ge (tgt := 199) hx hb dL_holds_111 (by decide) (fun h => absurd (zk_le (by omega) (by omega) h) (by omega)) (fun _ => ?_)
  refine lv_iload hx hb dL_holds_114 (lv_at hl 5 rfl) ?_
  refine lv_if_eq (tgt := 199) hx hb dL_holds_116 (by decide) (fun z => absurd z (by decide)) (fun _ => ?_)
  refine lv_iload hx hb dL_holds_119 (lv_at hl 6 rfl) ?_
  refine lv_aload_n hx hb dL_holds_121 rfl (lv_at hl 0 rfl) ?_
  refine lv_iconst (v := nI 5) hx hb dL_holds_122 (by decide) ?_
  refine lv_iload hx hb dL_holds_123 (lv_at hl 8 rfl) ?_
  refine lv_iconst (v := nI 1) hx hb dL_holds_125 (by decide) ?_
  refine lv_iconst (v := nI 0) hx hb dL_holds_126 (by decide) ?_
  refine zk_call1 (va_runS (As := [.ref a.1, .int (nI 5), .int (nI i), .int (nI 1), .int (nI 0)]) (rest := [.int (zs (fun k => fDay (kL κ) (nI k) (nI 1)) i)]) ⟨hx, hb, hml, hown, hts⟩ (c_C_5 l G hst a σ hok0 (nI i) (nI 1) (nI 0) _) (va_cwS 5 hts gL_holds_L_call rfl rfl rfl (by decide +kernel) ⟨Nat.le_of_ble_eq_true rfl, Nat.le_of_ble_eq_true rfl⟩) (zk_preSH hN hE hA0 hS hP hD) rfl rfl hl.1 rfl (lv_room (Nat.le_of_ble_eq_true rfl)) dL_holds_127 ⟨by show cells + 4 ≤ 1600; omega, by show slots + 24 ≤ 9600; omega⟩) hP hD hS hA (fun r2 σ1 H locs hpost hP hD hS => ?_)
  refine zk_cs (cells + 4) (slots + 24) rfl rfl ?_
  have hP : va_P G.1 vwCl (zw G a σ1) H := hP
  have hD : va_D A (zw G a σ1) := hD
  obtain ⟨⟨er, ec⟩, ht0⟩ := hpost
  rw [hg0] at er ec
  have hg0 : core σ1 = κ := ec
  have hok0 := yOk_of hk0 hg0 ht0
  refine zk_top (er) ?_
  refine lv_iadd hx hb dL_holds_130 ?_
  refine zk_top (show (zs (fun k => fDay (kL κ) (nI k) (nI 1)) i) + (fDay (kL κ) (nI i) (nI 1)) = zs (fun k => fDay (kL κ) (nI k) (nI 1)) (i + 1) from rfl) ?_
  refine lv_istore (lv' := [(6, .int (zs (fun k => fDay (kL κ) (nI k) (nI 1)) (i + 1))), (0, .ref a.1), (1, .int (nI x)), (2, .int (nI n)), (3, .int (nI t)), (4, .int (fAbout (kL κ) (nI 11))), (5, .int (nI 1)), (7, .int (zs (fun k => fDay (kL κ) (nI k) (nI 3)) i)), (8, .int (nI i))]) hx hb dL_holds_131 hl (by decide) rfl (fun ls hl => ?_)
  refine lv_iload hx hb dL_holds_133 (lv_at hl 7 rfl) ?_
  refine lv_aload_n hx hb dL_holds_135 rfl (lv_at hl 1 rfl) ?_
  refine lv_iconst (v := nI 5) hx hb dL_holds_136 (by decide) ?_
  refine lv_iload hx hb dL_holds_137 (lv_at hl 8 rfl) ?_
  refine lv_iconst (v := nI 3) hx hb dL_holds_139 (by decide) ?_
  refine lv_iconst (v := nI 0) hx hb dL_holds_140 (by decide) ?_
  refine zk_call1 (va_runS (As := [.ref a.1, .int (nI 5), .int (nI i), .int (nI 3), .int (nI 0)]) (rest := [.int (zs (fun k => fDay (kL κ) (nI k) (nI 3)) i)]) ⟨hx, hb, hml, hown, hts⟩ (c_C_5 l G hst a σ1 hok0 (nI i) (nI 3) (nI 0) _) (va_cwS 5 hts gL_holds_L_call rfl rfl rfl (by decide +kernel) ⟨Nat.le_of_ble_eq_true rfl, Nat.le_of_ble_eq_true rfl⟩) (zk_preSH hN hE hA0 hS hP hD) rfl rfl hl.1 rfl (lv_room (Nat.le_of_ble_eq_true rfl)) dL_holds_141 ⟨by show cells + 4 + 4 ≤ 1600; omega, by show slots + 24 + 24 ≤ 9600; omega⟩) hP hD hS hA (fun r4 σ3 H locs hpost hP hD hS => ?_)
  refine zk_cs (cells + 4 + 4) (slots + 24 + 24) rfl rfl ?_
  have hP : va_P G.1 vwCl (zw G a σ3) H := hP
  have hD : va_D A (zw G a σ3) := hD
  obtain ⟨⟨er, ec⟩, ht0⟩ := hpost
  rw [hg0] at er ec
  have hg0 : core σ3 = κ := ec
  have hok0 := yOk_of hk0 hg0 ht0
  refine zk_top (er) ?_
  refine lv_iadd hx hb dL_holds_144 ?_
  refine zk_top (show (zs (fun k => fDay (kL κ) (nI k) (nI 3)) i) + (fDay (kL κ) (nI i) (nI 3)) = zs (fun k => fDay (kL κ) (nI k) (nI 3)) (i + 1) from rfl) ?_
  refine lv_istore (lv' := [(7, .int (zs (fun k => fDay (kL κ) (nI k) (nI 3)) (i + 1))), (6, .int (zs (fun k => fDay (kL κ) (nI k) (nI 1)) (i + 1))), (0, .ref a.1), (1, .int (nI x)), (2, .int (nI n)), (3, .int (nI t)), (4, .int (fAbout (kL κ) (nI 11))), (5, .int (nI 1)), (8, .int (nI i))]) hx hb dL_holds_145 hl (by decide) rfl (fun ls hl => ?_)
  refine lv_aload_n hx hb dL_holds_147 rfl (lv_at hl 2 rfl) ?_
  refine lv_iconst (v := nI 5) hx hb dL_holds_148 (by decide) ?_
  refine lv_iload hx hb dL_holds_149 (lv_at hl 8 rfl) ?_
  refine lv_iconst (v := nI 2) hx hb dL_holds_151 (by decide) ?_
  refine lv_iconst (v := nI 0) hx hb dL_holds_152 (by decide) ?_
  refine zk_call1 (va_runS (As := [.ref a.1, .int (nI 5), .int (nI i), .int (nI 2), .int (nI 0)]) (rest := []) ⟨hx, hb, hml, hown, hts⟩ (c_C_5 l G hst a σ3 hok0 (nI i) (nI 2) (nI 0) _) (va_cwS 5 hts gL_holds_L_call rfl rfl rfl (by decide +kernel) ⟨Nat.le_of_ble_eq_true rfl, Nat.le_of_ble_eq_true rfl⟩) (zk_preSH hN hE hA0 hS hP hD) rfl rfl hl.1 rfl (lv_room (Nat.le_of_ble_eq_true rfl)) dL_holds_153 ⟨by show cells + 4 + 4 + 4 ≤ 1600; omega, by show slots + 24 + 24 + 24 ≤ 9600; omega⟩) hP hD hS hA (fun r6 σ5 H locs hpost hP hD hS => ?_)
  refine zk_cs (cells + 4 + 4 + 4) (slots + 24 + 24 + 24) rfl rfl ?_
  have hP : va_P G.1 vwCl (zw G a σ5) H := hP
  have hD : va_D A (zw G a σ5) := hD
  obtain ⟨⟨er, ec⟩, ht0⟩ := hpost
  rw [hg0] at er ec
  have hg0 : core σ5 = κ := ec
  have hok0 := yOk_of hk0 hg0 ht0
  refine zk_top (er) ?_
  refine lv_aload_n hx hb dL_holds_156 rfl (lv_at hl 2 rfl) ?_
  refine lv_iconst (v := nI 5) hx hb dL_holds_157 (by decide) ?_
  refine lv_iload hx hb dL_holds_158 (lv_at hl 8 rfl) ?_
  refine lv_iconst (v := nI 1) hx hb dL_holds_160 (by decide) ?_
  refine lv_iconst (v := nI 0) hx hb dL_holds_161 (by decide) ?_
  refine zk_call1 (va_runS (As := [.ref a.1, .int (nI 5), .int (nI i), .int (nI 1), .int (nI 0)]) (rest := [.int (fDay (kL κ) (nI i) (nI 2))]) ⟨hx, hb, hml, hown, hts⟩ (c_C_5 l G hst a σ5 hok0 (nI i) (nI 1) (nI 0) _) (va_cwS 5 hts gL_holds_L_call rfl rfl rfl (by decide +kernel) ⟨Nat.le_of_ble_eq_true rfl, Nat.le_of_ble_eq_true rfl⟩) (zk_preSH hN hE hA0 hS hP hD) rfl rfl hl.1 rfl (lv_room (Nat.le_of_ble_eq_true rfl)) dL_holds_162 ⟨by show cells + 4 + 4 + 4 + 4 ≤ 1600; omega, by show slots + 24 + 24 + 24 + 24 ≤ 9600; omega⟩) hP hD hS hA (fun r8 σ7 H locs hpost hP hD hS => ?_)
  refine zk_cs (cells + 4 + 4 + 4 + 4) (slots + 24 + 24 + 24 + 24) rfl rfl ?_
  have hP : va_P G.1 vwCl (zw G a σ7) H := hP
  have hD : va_D A (zw G a σ7) := hD
  obtain ⟨⟨er, ec⟩, ht0⟩ := hpost
  rw [hg0] at er ec
  have hg0 : core σ7 = κ := ec
  have hok0 := yOk_of hk0 hg0 ht0
  refine zk_top (er) ?_
  refine lv_icmp_gt (tgt := 190) hx hb dL_holds_165 (by decide) (fun h => absurd h (hp_le hi)) (fun _ => ?_)
  refine lv_iload hx hb dL_holds_168 (lv_at hl 8 rfl) ?_
  refine lv_iload_n hx hb dL_holds_170 rfl (lv_at hl 5 rfl) ?_
  refine lv_icmp_lt (tgt := 186) hx hb dL_holds_171 (by decide) (fun h171_8 => ?_) (fun h171_8 => ?_)
  · have h171_8 := zk_lt (by omega) (by omega) h171_8
    refine lv_iconst (v := nI 1) hx hb dL_holds_186 (by decide) ?_
    refine lv_goto (tgt := 191) hx hb dL_holds_187 (by decide) ?_
    refine lv_istore (lv' := [(5, .int (nI 1)), (7, .int (zs (fun k => fDay (kL κ) (nI k) (nI 3)) (i + 1))), (6, .int (zs (fun k => fDay (kL κ) (nI k) (nI 1)) (i + 1))), (0, .ref a.1), (1, .int (nI x)), (2, .int (nI n)), (3, .int (nI t)), (4, .int (fAbout (kL κ) (nI 11))), (8, .int (nI i))]) hx hb dL_holds_191 hl (by decide) rfl (fun ls hl => ?_)
    refine lv_iinc (v := nI (i + 1)) (lv' := [(8, .int (nI (i + 1))), (5, .int (nI 1)), (7, .int (zs (fun k => fDay (kL κ) (nI k) (nI 3)) (i + 1))), (6, .int (zs (fun k => fDay (kL κ) (nI k) (nI 1)) (i + 1))), (0, .ref a.1), (1, .int (nI x)), (2, .int (nI n)), (3, .int (nI t)), (4, .int (fAbout (kL κ) (nI 11)))]) hx hb dL_holds_193 hl (k := 8) rfl (zk_inc i 1) (by decide) rfl (fun ls hl => ?_)
    refine lv_goto (tgt := 107) hx hb dL_holds_196 (by decide) ?_
    refine W.widen (k := cells + 20) (n := slots + 120) (by omega) (by omega) ?_
    exact kk σ7 _ _ _ ht0 hg0 hP hD hS (lv_sub hl [4, 5, 6, 7, 8, 1, 3, 2, 0] rfl)
  · have h171_8 := zk_nlt (by omega) (by omega) h171_8
    refine lv_aload_n hx hb dL_holds_174 rfl (lv_at hl 2 rfl) ?_
    refine lv_iconst (v := nI 5) hx hb dL_holds_175 (by decide) ?_
    refine lv_iload hx hb dL_holds_176 (lv_at hl 8 rfl) ?_
    refine lv_iconst (v := nI 2) hx hb dL_holds_178 (by decide) ?_
    refine lv_iconst (v := nI 0) hx hb dL_holds_179 (by decide) ?_
    refine zk_call1 (va_runS (As := [.ref a.1, .int (nI 5), .int (nI i), .int (nI 2), .int (nI 0)]) (rest := []) ⟨hx, hb, hml, hown, hts⟩ (c_C_5 l G hst a σ7 hok0 (nI i) (nI 2) (nI 0) _) (va_cwS 5 hts gL_holds_L_call rfl rfl rfl (by decide +kernel) ⟨Nat.le_of_ble_eq_true rfl, Nat.le_of_ble_eq_true rfl⟩) (zk_preSH hN hE hA0 hS hP hD) rfl rfl hl.1 rfl (lv_room (Nat.le_of_ble_eq_true rfl)) dL_holds_180 ⟨by show cells + 4 + 4 + 4 + 4 + 4 ≤ 1600; omega, by show slots + 24 + 24 + 24 + 24 + 24 ≤ 9600; omega⟩) hP hD hS hA (fun r11 σ10 H locs hpost hP hD hS => ?_)
    refine zk_cs (cells + 4 + 4 + 4 + 4 + 4) (slots + 24 + 24 + 24 + 24 + 24) rfl rfl ?_
    have hP : va_P G.1 vwCl (zw G a σ10) H := hP
    have hD : va_D A (zw G a σ10) := hD
    obtain ⟨⟨er, ec⟩, ht0⟩ := hpost
    rw [hg0] at er ec
    have hg0 : core σ10 = κ := ec
    have hok0 := yOk_of hk0 hg0 ht0
    refine zk_top (er) ?_
    refine lv_if_ne (tgt := 190) hx hb dL_holds_183 (by decide) (fun z => absurd (hd0 (by omega)) z) (fun _ => ?_)
    refine lv_iconst (v := nI 1) hx hb dL_holds_186 (by decide) ?_
    refine lv_goto (tgt := 191) hx hb dL_holds_187 (by decide) ?_
    refine lv_istore (lv' := [(5, .int (nI 1)), (7, .int (zs (fun k => fDay (kL κ) (nI k) (nI 3)) (i + 1))), (6, .int (zs (fun k => fDay (kL κ) (nI k) (nI 1)) (i + 1))), (0, .ref a.1), (1, .int (nI x)), (2, .int (nI n)), (3, .int (nI t)), (4, .int (fAbout (kL κ) (nI 11))), (8, .int (nI i))]) hx hb dL_holds_191 hl (by decide) rfl (fun ls hl => ?_)
    refine lv_iinc (v := nI (i + 1)) (lv' := [(8, .int (nI (i + 1))), (5, .int (nI 1)), (7, .int (zs (fun k => fDay (kL κ) (nI k) (nI 3)) (i + 1))), (6, .int (zs (fun k => fDay (kL κ) (nI k) (nI 1)) (i + 1))), (0, .ref a.1), (1, .int (nI x)), (2, .int (nI n)), (3, .int (nI t)), (4, .int (fAbout (kL κ) (nI 11)))]) hx hb dL_holds_193 hl (k := 8) rfl (zk_inc i 1) (by decide) rfl (fun ls hl => ?_)
    refine lv_goto (tgt := 107) hx hb dL_holds_196 (by decide) ?_
    refine W.widen (k := cells + 20) (n := slots + 120) (by omega) (by omega) ?_
    exact kk σ10 _ _ _ ht0 hg0 hP hD hS (lv_sub hl [4, 5, 6, 7, 8, 1, 3, 2, 0] rfl)

set_option maxHeartbeats 4000000 in
set_option maxRecDepth 100000 in
theorem zh_3 {p : Program} {l : Launch} {e : Env} {s : State} {m : MethodId} {args : Array Value} {below : List Frame} {meth : Method} {c : Code} {Q : State → Prop} {A : Nat → Prop} {G : zk_G} {H : Heap} {locs : List Loc} {cells slots : Nat} {ls : Array Slot} (hst : l.stackTraces = false) (F : zFx p s m meth c args cL_holds 21 (some .boolean) vL_holds A G) {a : zA} {σ : zSt} {κ : zCo}  (ht0 : zTx σ) (hg0 : core σ = κ) (hk0 : kOk κ) {x n t : Nat} (hx31 : x < 2 ^ 31) (hI : sInv (kL κ) n t) (hp3 : zs (fun k => fDay (kL κ) (nI k) (nI 3)) 40 = fAbout (kL κ) (nI 9)) (hp4 : zs (fun k => fDay (kL κ) (nI k) (nI 1)) 40 = fAbout (kL κ) (nI 2) + fAbout (kL κ) (nI 3) + fAbout (kL κ) (nI 6) + fAbout (kL κ) (nI 7)) (hP : va_P G.1 vwCl (zw G a σ) H) (hD : va_D A (zw G a σ)) (hS : va_S A s.heap H locs) (hl : lv_has ls 21 [(0, .ref a.1), (1, .int (nI x)), (2, .int (nI n)), (3, .int (nI t)), (4, .int (fAbout (kL κ) (nI 11))), (5, .int (nI 1)), (6, .int (zs (fun k => fDay (kL κ) (nI k) (nI 1)) 40)), (7, .int (zs (fun k => fDay (kL κ) (nI k) (nI 3)) 40)), (8, .int (nI 40))]) (hcs : cells + 20 ≤ 1600 ∧ slots + 120 ≤ 9600)
    (kk : ∀ (σ₁ : zSt) (H₁ : Heap) (locs₁ : List Loc) (ls₁ : Array Slot), zTx σ₁ → core σ₁ = κ →  va_P G.1 vwCl (zw G a σ₁) H₁ → va_D A (zw G a σ₁) → va_S A s.heap H₁ locs₁ → lv_has ls₁ 21 [(0, .ref a.1), (1, .int (nI x)), (2, .int (nI n)), (3, .int (nI t)), (4, .int (fAbout (kL κ) (nI 11))), (5, .int (nI 1)), (7, .int (zs (fun k => fDay (kL κ) (nI k) (nI 3)) 40)), (8, .int (nI 0)), (9, .int (nI 0)), (10, .int (nI 0))] → W p l e rmL_holds s m args below meth c H₁ locs₁ (cells + 20) (slots + 120) Q (F0 m 276 ls₁ [])) :
    W p l e rmL_holds s m args below meth c H locs cells slots Q (F0 m 199 ls []) := by
  obtain ⟨hx, hb, hml, hr, hts, hown, hlocks, hE, hA, hA0, hN⟩ := id F
  have hok0 := yOk_of hk0 hg0 ht0
  have hn12 := hI.2.1
  have ht40 := hI.2.2.2.1
  refine lv_iload hx hb dL_holds_199 (lv_at hl 5 rfl) ?_
  refine lv_if_eq (tgt := 264) hx hb dL_holds_201 (by decide) (fun z => absurd z (by decide)) (fun _ => ?_)
  refine lv_iload hx hb dL_holds_204 (lv_at hl 7 rfl) ?_
  refine lv_aload_n hx hb dL_holds_206 rfl (lv_at hl 0 rfl) ?_
  refine lv_iconst (v := nI 2) hx hb dL_holds_207 (by decide) ?_
  refine lv_bipush (v := nI 9) hx hb dL_holds_208 (by decide) ?_
  refine lv_iconst (v := nI 0) hx hb dL_holds_210 (by decide) ?_
  refine lv_iconst (v := nI 0) hx hb dL_holds_211 (by decide) ?_
  refine zk_call1 (va_runS (As := [.ref a.1, .int (nI 2), .int (nI 9), .int (nI 0), .int (nI 0)]) (rest := [.int (zs (fun k => fDay (kL κ) (nI k) (nI 3)) 40)]) ⟨hx, hb, hml, hown, hts⟩ (c_C_2 l G hst a σ hok0 (nI 9) (nI 0) (nI 0) _) (va_cwS 5 hts gL_holds_L_call rfl rfl rfl (by decide +kernel) ⟨Nat.le_of_ble_eq_true rfl, Nat.le_of_ble_eq_true rfl⟩) (zk_preSH hN hE hA0 hS hP hD) rfl rfl hl.1 rfl (lv_room (Nat.le_of_ble_eq_true rfl)) dL_holds_212 ⟨by show cells + 4 ≤ 1600; omega, by show slots + 24 ≤ 9600; omega⟩) hP hD hS hA (fun r2 σ1 H locs hpost hP hD hS => ?_)
  refine zk_cs (cells + 4) (slots + 24) rfl rfl ?_
  have hP : va_P G.1 vwCl (zw G a σ1) H := hP
  have hD : va_D A (zw G a σ1) := hD
  obtain ⟨⟨er, ec⟩, ht0⟩ := hpost
  rw [hg0] at er ec
  have hg0 : core σ1 = κ := ec
  have hok0 := yOk_of hk0 hg0 ht0
  refine zk_top (er) ?_
  refine lv_icmp_ne (tgt := 264) hx hb dL_holds_215 (by decide) (fun h => absurd hp3 h) (fun _ => ?_)
  refine lv_iload hx hb dL_holds_218 (lv_at hl 6 rfl) ?_
  refine lv_aload_n hx hb dL_holds_220 rfl (lv_at hl 0 rfl) ?_
  refine lv_iconst (v := nI 2) hx hb dL_holds_221 (by decide) ?_
  refine lv_iconst (v := nI 2) hx hb dL_holds_222 (by decide) ?_
  refine lv_iconst (v := nI 0) hx hb dL_holds_223 (by decide) ?_
  refine lv_iconst (v := nI 0) hx hb dL_holds_224 (by decide) ?_
  refine zk_call1 (va_runS (As := [.ref a.1, .int (nI 2), .int (nI 2), .int (nI 0), .int (nI 0)]) (rest := [.int (zs (fun k => fDay (kL κ) (nI k) (nI 1)) 40)]) ⟨hx, hb, hml, hown, hts⟩ (c_C_2 l G hst a σ1 hok0 (nI 2) (nI 0) (nI 0) _) (va_cwS 5 hts gL_holds_L_call rfl rfl rfl (by decide +kernel) ⟨Nat.le_of_ble_eq_true rfl, Nat.le_of_ble_eq_true rfl⟩) (zk_preSH hN hE hA0 hS hP hD) rfl rfl hl.1 rfl (lv_room (Nat.le_of_ble_eq_true rfl)) dL_holds_225 ⟨by show cells + 4 + 4 ≤ 1600; omega, by show slots + 24 + 24 ≤ 9600; omega⟩) hP hD hS hA (fun r4 σ3 H locs hpost hP hD hS => ?_)
  refine zk_cs (cells + 4 + 4) (slots + 24 + 24) rfl rfl ?_
  have hP : va_P G.1 vwCl (zw G a σ3) H := hP
  have hD : va_D A (zw G a σ3) := hD
  obtain ⟨⟨er, ec⟩, ht0⟩ := hpost
  rw [hg0] at er ec
  have hg0 : core σ3 = κ := ec
  have hok0 := yOk_of hk0 hg0 ht0
  refine zk_top (er) ?_
  refine lv_aload_n hx hb dL_holds_228 rfl (lv_at hl 0 rfl) ?_
  refine lv_iconst (v := nI 2) hx hb dL_holds_229 (by decide) ?_
  refine lv_iconst (v := nI 3) hx hb dL_holds_230 (by decide) ?_
  refine lv_iconst (v := nI 0) hx hb dL_holds_231 (by decide) ?_
  refine lv_iconst (v := nI 0) hx hb dL_holds_232 (by decide) ?_
  refine zk_call1 (va_runS (As := [.ref a.1, .int (nI 2), .int (nI 3), .int (nI 0), .int (nI 0)]) (rest := [.int (fAbout (kL κ) (nI 2)), .int (zs (fun k => fDay (kL κ) (nI k) (nI 1)) 40)]) ⟨hx, hb, hml, hown, hts⟩ (c_C_2 l G hst a σ3 hok0 (nI 3) (nI 0) (nI 0) _) (va_cwS 5 hts gL_holds_L_call rfl rfl rfl (by decide +kernel) ⟨Nat.le_of_ble_eq_true rfl, Nat.le_of_ble_eq_true rfl⟩) (zk_preSH hN hE hA0 hS hP hD) rfl rfl hl.1 rfl (lv_room (Nat.le_of_ble_eq_true rfl)) dL_holds_233 ⟨by show cells + 4 + 4 + 4 ≤ 1600; omega, by show slots + 24 + 24 + 24 ≤ 9600; omega⟩) hP hD hS hA (fun r6 σ5 H locs hpost hP hD hS => ?_)
  refine zk_cs (cells + 4 + 4 + 4) (slots + 24 + 24 + 24) rfl rfl ?_
  have hP : va_P G.1 vwCl (zw G a σ5) H := hP
  have hD : va_D A (zw G a σ5) := hD
  obtain ⟨⟨er, ec⟩, ht0⟩ := hpost
  rw [hg0] at er ec
  have hg0 : core σ5 = κ := ec
  have hok0 := yOk_of hk0 hg0 ht0
  refine zk_top (er) ?_
  refine lv_iadd hx hb dL_holds_236 ?_
  refine lv_aload_n hx hb dL_holds_237 rfl (lv_at hl 0 rfl) ?_
  refine lv_iconst (v := nI 2) hx hb dL_holds_238 (by decide) ?_
  refine lv_bipush (v := nI 6) hx hb dL_holds_239 (by decide) ?_
  refine lv_iconst (v := nI 0) hx hb dL_holds_241 (by decide) ?_
  refine lv_iconst (v := nI 0) hx hb dL_holds_242 (by decide) ?_
  refine zk_call1 (va_runS (As := [.ref a.1, .int (nI 2), .int (nI 6), .int (nI 0), .int (nI 0)]) (rest := [.int ((fAbout (kL κ) (nI 2)) + (fAbout (kL κ) (nI 3))), .int (zs (fun k => fDay (kL κ) (nI k) (nI 1)) 40)]) ⟨hx, hb, hml, hown, hts⟩ (c_C_2 l G hst a σ5 hok0 (nI 6) (nI 0) (nI 0) _) (va_cwS 5 hts gL_holds_L_call rfl rfl rfl (by decide +kernel) ⟨Nat.le_of_ble_eq_true rfl, Nat.le_of_ble_eq_true rfl⟩) (zk_preSH hN hE hA0 hS hP hD) rfl rfl hl.1 rfl (lv_room (Nat.le_of_ble_eq_true rfl)) dL_holds_243 ⟨by show cells + 4 + 4 + 4 + 4 ≤ 1600; omega, by show slots + 24 + 24 + 24 + 24 ≤ 9600; omega⟩) hP hD hS hA (fun r8 σ7 H locs hpost hP hD hS => ?_)
  refine zk_cs (cells + 4 + 4 + 4 + 4) (slots + 24 + 24 + 24 + 24) rfl rfl ?_
  have hP : va_P G.1 vwCl (zw G a σ7) H := hP
  have hD : va_D A (zw G a σ7) := hD
  obtain ⟨⟨er, ec⟩, ht0⟩ := hpost
  rw [hg0] at er ec
  have hg0 : core σ7 = κ := ec
  have hok0 := yOk_of hk0 hg0 ht0
  refine zk_top (er) ?_
  refine lv_iadd hx hb dL_holds_246 ?_
  refine lv_aload_n hx hb dL_holds_247 rfl (lv_at hl 0 rfl) ?_
  refine lv_iconst (v := nI 2) hx hb dL_holds_248 (by decide) ?_
  refine lv_bipush (v := nI 7) hx hb dL_holds_249 (by decide) ?_
  refine lv_iconst (v := nI 0) hx hb dL_holds_251 (by decide) ?_
  refine lv_iconst (v := nI 0) hx hb dL_holds_252 (by decide) ?_
  refine zk_call1 (va_runS (As := [.ref a.1, .int (nI 2), .int (nI 7), .int (nI 0), .int (nI 0)]) (rest := [.int (((fAbout (kL κ) (nI 2)) + (fAbout (kL κ) (nI 3))) + (fAbout (kL κ) (nI 6))), .int (zs (fun k => fDay (kL κ) (nI k) (nI 1)) 40)]) ⟨hx, hb, hml, hown, hts⟩ (c_C_2 l G hst a σ7 hok0 (nI 7) (nI 0) (nI 0) _) (va_cwS 5 hts gL_holds_L_call rfl rfl rfl (by decide +kernel) ⟨Nat.le_of_ble_eq_true rfl, Nat.le_of_ble_eq_true rfl⟩) (zk_preSH hN hE hA0 hS hP hD) rfl rfl hl.1 rfl (lv_room (Nat.le_of_ble_eq_true rfl)) dL_holds_253 ⟨by show cells + 4 + 4 + 4 + 4 + 4 ≤ 1600; omega, by show slots + 24 + 24 + 24 + 24 + 24 ≤ 9600; omega⟩) hP hD hS hA (fun r10 σ9 H locs hpost hP hD hS => ?_)
  refine zk_cs (cells + 4 + 4 + 4 + 4 + 4) (slots + 24 + 24 + 24 + 24 + 24) rfl rfl ?_
  have hP : va_P G.1 vwCl (zw G a σ9) H := hP
  have hD : va_D A (zw G a σ9) := hD
  obtain ⟨⟨er, ec⟩, ht0⟩ := hpost
  rw [hg0] at er ec
  have hg0 : core σ9 = κ := ec
  have hok0 := yOk_of hk0 hg0 ht0
  refine zk_top (er) ?_
  refine lv_iadd hx hb dL_holds_256 ?_
  refine lv_icmp_ne (tgt := 264) hx hb dL_holds_257 (by decide) (fun h => absurd hp4 h) (fun _ => ?_)
  refine lv_iconst (v := nI 1) hx hb dL_holds_260 (by decide) ?_
  refine lv_goto (tgt := 265) hx hb dL_holds_261 (by decide) ?_
  refine lv_istore (lv' := [(5, .int (nI 1)), (0, .ref a.1), (1, .int (nI x)), (2, .int (nI n)), (3, .int (nI t)), (4, .int (fAbout (kL κ) (nI 11))), (6, .int (zs (fun k => fDay (kL κ) (nI k) (nI 1)) 40)), (7, .int (zs (fun k => fDay (kL κ) (nI k) (nI 3)) 40)), (8, .int (nI 40))]) hx hb dL_holds_265 hl (by decide) rfl (fun ls hl => ?_)
  refine lv_iconst (v := nI 0) hx hb dL_holds_267 (by decide) ?_
  refine lv_istore (lv' := [(8, .int (nI 0)), (5, .int (nI 1)), (0, .ref a.1), (1, .int (nI x)), (2, .int (nI n)), (3, .int (nI t)), (4, .int (fAbout (kL κ) (nI 11))), (6, .int (zs (fun k => fDay (kL κ) (nI k) (nI 1)) 40)), (7, .int (zs (fun k => fDay (kL κ) (nI k) (nI 3)) 40))]) hx hb dL_holds_268 hl (by decide) rfl (fun ls hl => ?_)
  refine lv_iconst (v := nI 0) hx hb dL_holds_270 (by decide) ?_
  refine lv_istore (lv' := [(9, .int (nI 0)), (8, .int (nI 0)), (5, .int (nI 1)), (0, .ref a.1), (1, .int (nI x)), (2, .int (nI n)), (3, .int (nI t)), (4, .int (fAbout (kL κ) (nI 11))), (6, .int (zs (fun k => fDay (kL κ) (nI k) (nI 1)) 40)), (7, .int (zs (fun k => fDay (kL κ) (nI k) (nI 3)) 40))]) hx hb dL_holds_271 hl (by decide) rfl (fun ls hl => ?_)
  refine lv_iconst (v := nI 0) hx hb dL_holds_273 (by decide) ?_
  refine lv_istore (lv' := [(10, .int (nI 0)), (9, .int (nI 0)), (8, .int (nI 0)), (5, .int (nI 1)), (0, .ref a.1), (1, .int (nI x)), (2, .int (nI n)), (3, .int (nI t)), (4, .int (fAbout (kL κ) (nI 11))), (6, .int (zs (fun k => fDay (kL κ) (nI k) (nI 1)) 40)), (7, .int (zs (fun k => fDay (kL κ) (nI k) (nI 3)) 40))]) hx hb dL_holds_274 hl (by decide) rfl (fun ls hl => ?_)
  refine W.widen (k := cells + 20) (n := slots + 120) (by omega) (by omega) ?_
  exact kk σ9 _ _ _ ht0 hg0 hP hD hS (lv_sub hl [4, 5, 6, 7, 8, 3, 10, 2, 1, 0] rfl)

set_option maxHeartbeats 4000000 in
set_option maxRecDepth 100000 in
theorem zh_b {p : Program} {l : Launch} {e : Env} {s : State} {m : MethodId} {args : Array Value} {below : List Frame} {meth : Method} {c : Code} {Q : State → Prop} {A : Nat → Prop} {G : zk_G} {H : Heap} {locs : List Loc} {cells slots : Nat} {ls : Array Slot} (hst : l.stackTraces = false) (F : zFx p s m meth c args cL_holds 21 (some .boolean) vL_holds A G) {a : zA} {σ : zSt} {κ : zCo}  (ht0 : zTx σ) (hg0 : core σ = κ) (hk0 : kOk κ) {x n t i d : Nat} (hx31 : x < 2 ^ 31) (hI : sInv (kL κ) n t) (hi : i < n) (hdd : (x % 40 + i) % 40 = d) (hd40 : d < 40) (hP : va_P G.1 vwCl (zw G a σ) H) (hD : va_D A (zw G a σ)) (hS : va_S A s.heap H locs) (hl : lv_has ls 21 [(0, .ref a.1), (1, .int (nI x)), (2, .int (nI n)), (3, .int (nI t)), (4, .int (fAbout (kL κ) (nI 11))), (5, .int (nI 1)), (7, .int (zs (fun k => fDay (kL κ) (nI k) (nI 3)) 40)), (8, .int (zs (fun k => fChild (kL κ) (nI k) (nI 2)) i)), (9, .int (zs (fun k => fChild (kL κ) (nI k) (nI 7)) i)), (10, .int (nI i))]) (hcs : cells + 28 ≤ 1600 ∧ slots + 168 ≤ 9600)
    (kk : ∀ (σ₁ : zSt) (H₁ : Heap) (locs₁ : List Loc) (ls₁ : Array Slot), zTx σ₁ → core σ₁ = κ →  va_P G.1 vwCl (zw G a σ₁) H₁ → va_D A (zw G a σ₁) → va_S A s.heap H₁ locs₁ → lv_has ls₁ 21 [(0, .ref a.1), (1, .int (nI x)), (2, .int (nI n)), (3, .int (nI t)), (4, .int (fAbout (kL κ) (nI 11))), (5, .int (nI 1)), (7, .int (zs (fun k => fDay (kL κ) (nI k) (nI 3)) 40)), (8, .int (zs (fun k => fChild (kL κ) (nI k) (nI 2)) (i + 1))), (9, .int (zs (fun k => fChild (kL κ) (nI k) (nI 7)) (i + 1))), (10, .int (nI i)), (11, .int (nI d)), (12, .int (kL κ 9 (i * 40 + d))), (13, .int (if kL κ 9 (i * 40 + d) = nI 2 then kL κ 11 (i * 40 + d) else -1)), (14, .int (if sEnt (kL κ) i d then nI 1 else nI 0))] → W p l e rmL_holds s m args below meth c H₁ locs₁ (cells + 28) (slots + 168) Q (F0 m 402 ls₁ [])) :
    W p l e rmL_holds s m args below meth c H locs cells slots Q (F0 m 276 ls []) := by
  obtain ⟨hx, hb, hml, hr, hts, hown, hlocks, hE, hA, hA0, hN⟩ := id F
  have hok0 := yOk_of hk0 hg0 ht0
  have hn12 := hI.2.1
  have ht40 := hI.2.2.2.1
  refine lv_iload hx hb dL_holds_276 (lv_at hl 9 rfl) ?_
  refine lv_iload_n hx hb dL_holds_278 rfl (lv_at hl 2 rfl) ?_
  refine lv_icmp_ge (tgt := 552) hx hb dL_holds_279 (by decide) (fun h => absurd (zk_le (by omega) (by omega) h) (by omega)) (fun _ => ?_)
  refine lv_iload hx hb dL_holds_282 (lv_at hl 5 rfl) ?_
  refine lv_if_eq (tgt := 552) hx hb dL_holds_284 (by decide) (fun z => absurd z (by decide)) (fun _ => ?_)
  refine lv_iload hx hb dL_holds_287 (lv_at hl 7 rfl) ?_
  refine lv_aload_n hx hb dL_holds_289 rfl (lv_at hl 0 rfl) ?_
  refine lv_iconst (v := nI 3) hx hb dL_holds_290 (by decide) ?_
  refine lv_iload hx hb dL_holds_291 (lv_at hl 9 rfl) ?_
  refine lv_iconst (v := nI 2) hx hb dL_holds_293 (by decide) ?_
  refine lv_iconst (v := nI 0) hx hb dL_holds_294 (by decide) ?_
  refine zk_call1 (va_runS (As := [.ref a.1, .int (nI 3), .int (nI i), .int (nI 2), .int (nI 0)]) (rest := [.int (zs (fun k => fChild (kL κ) (nI k) (nI 2)) i)]) ⟨hx, hb, hml, hown, hts⟩ (c_C_3 l G hst a σ hok0 (nI i) (nI 2) (nI 0) _) (va_cwS 5 hts gL_holds_L_call rfl rfl rfl (by decide +kernel) ⟨Nat.le_of_ble_eq_true rfl, Nat.le_of_ble_eq_true rfl⟩) (zk_preSH hN hE hA0 hS hP hD) rfl rfl hl.1 rfl (lv_room (Nat.le_of_ble_eq_true rfl)) dL_holds_295 ⟨by show cells + 4 ≤ 1600; omega, by show slots + 24 ≤ 9600; omega⟩) hP hD hS hA (fun r2 σ1 H locs hpost hP hD hS => ?_)
  refine zk_cs (cells + 4) (slots + 24) rfl rfl ?_
  have hP : va_P G.1 vwCl (zw G a σ1) H := hP
  have hD : va_D A (zw G a σ1) := hD
  obtain ⟨⟨er, ec⟩, ht0⟩ := hpost
  rw [hg0] at er ec
  have hg0 : core σ1 = κ := ec
  have hok0 := yOk_of hk0 hg0 ht0
  refine zk_top (er) ?_
  refine lv_iadd hx hb dL_holds_298 ?_
  refine zk_top (show (zs (fun k => fChild (kL κ) (nI k) (nI 2)) i) + (fChild (kL κ) (nI i) (nI 2)) = zs (fun k => fChild (kL κ) (nI k) (nI 2)) (i + 1) from rfl) ?_
  refine lv_istore (lv' := [(8, .int (zs (fun k => fChild (kL κ) (nI k) (nI 2)) (i + 1))), (0, .ref a.1), (1, .int (nI x)), (2, .int (nI n)), (3, .int (nI t)), (4, .int (fAbout (kL κ) (nI 11))), (5, .int (nI 1)), (7, .int (zs (fun k => fDay (kL κ) (nI k) (nI 3)) 40)), (9, .int (zs (fun k => fChild (kL κ) (nI k) (nI 7)) i)), (10, .int (nI i))]) hx hb dL_holds_299 hl (by decide) rfl (fun ls hl => ?_)
  refine lv_iload hx hb dL_holds_301 (lv_at hl 8 rfl) ?_
  refine lv_aload_n hx hb dL_holds_303 rfl (lv_at hl 1 rfl) ?_
  refine lv_iconst (v := nI 3) hx hb dL_holds_304 (by decide) ?_
  refine lv_iload hx hb dL_holds_305 (lv_at hl 9 rfl) ?_
  refine lv_bipush (v := nI 7) hx hb dL_holds_307 (by decide) ?_
  refine lv_iconst (v := nI 0) hx hb dL_holds_309 (by decide) ?_
  refine zk_call1 (va_runS (As := [.ref a.1, .int (nI 3), .int (nI i), .int (nI 7), .int (nI 0)]) (rest := [.int (zs (fun k => fChild (kL κ) (nI k) (nI 7)) i)]) ⟨hx, hb, hml, hown, hts⟩ (c_C_3 l G hst a σ1 hok0 (nI i) (nI 7) (nI 0) _) (va_cwS 5 hts gL_holds_L_call rfl rfl rfl (by decide +kernel) ⟨Nat.le_of_ble_eq_true rfl, Nat.le_of_ble_eq_true rfl⟩) (zk_preSH hN hE hA0 hS hP hD) rfl rfl hl.1 rfl (lv_room (Nat.le_of_ble_eq_true rfl)) dL_holds_310 ⟨by show cells + 4 + 4 ≤ 1600; omega, by show slots + 24 + 24 ≤ 9600; omega⟩) hP hD hS hA (fun r4 σ3 H locs hpost hP hD hS => ?_)
  refine zk_cs (cells + 4 + 4) (slots + 24 + 24) rfl rfl ?_
  have hP : va_P G.1 vwCl (zw G a σ3) H := hP
  have hD : va_D A (zw G a σ3) := hD
  obtain ⟨⟨er, ec⟩, ht0⟩ := hpost
  rw [hg0] at er ec
  have hg0 : core σ3 = κ := ec
  have hok0 := yOk_of hk0 hg0 ht0
  refine zk_top (er) ?_
  refine lv_iadd hx hb dL_holds_313 ?_
  refine zk_top (show (zs (fun k => fChild (kL κ) (nI k) (nI 7)) i) + (fChild (kL κ) (nI i) (nI 7)) = zs (fun k => fChild (kL κ) (nI k) (nI 7)) (i + 1) from rfl) ?_
  refine lv_istore (lv' := [(9, .int (zs (fun k => fChild (kL κ) (nI k) (nI 7)) (i + 1))), (8, .int (zs (fun k => fChild (kL κ) (nI k) (nI 2)) (i + 1))), (0, .ref a.1), (1, .int (nI x)), (2, .int (nI n)), (3, .int (nI t)), (4, .int (fAbout (kL κ) (nI 11))), (5, .int (nI 1)), (7, .int (zs (fun k => fDay (kL κ) (nI k) (nI 3)) 40)), (10, .int (nI i))]) hx hb dL_holds_314 hl (by decide) rfl (fun ls hl => ?_)
  refine lv_iload_n hx hb dL_holds_316 rfl (lv_at hl 3 rfl) ?_
  refine lv_bipush (v := nI 40) hx hb dL_holds_317 (by decide) ?_
  refine zk_iremN hx hb dL_holds_319 (by omega) (by omega) (by omega) ?_
  refine lv_iload hx hb dL_holds_320 (lv_at hl 9 rfl) ?_
  refine zk_iaddN hx hb dL_holds_322 ?_
  refine lv_bipush (v := nI 40) hx hb dL_holds_323 (by decide) ?_
  refine zk_iremN hx hb dL_holds_325 (by omega) (by omega) (by omega) ?_
  refine zk_top (congrArg nI hdd) ?_
  refine lv_istore (lv' := [(11, .int (nI d)), (9, .int (zs (fun k => fChild (kL κ) (nI k) (nI 7)) (i + 1))), (8, .int (zs (fun k => fChild (kL κ) (nI k) (nI 2)) (i + 1))), (0, .ref a.1), (1, .int (nI x)), (2, .int (nI n)), (3, .int (nI t)), (4, .int (fAbout (kL κ) (nI 11))), (5, .int (nI 1)), (7, .int (zs (fun k => fDay (kL κ) (nI k) (nI 3)) 40)), (10, .int (nI i))]) hx hb dL_holds_326 hl (by decide) rfl (fun ls hl => ?_)
  refine lv_aload_n hx hb dL_holds_328 rfl (lv_at hl 3 rfl) ?_
  refine lv_bipush (v := nI 6) hx hb dL_holds_329 (by decide) ?_
  refine lv_iload hx hb dL_holds_331 (lv_at hl 10 rfl) ?_
  refine lv_iload hx hb dL_holds_333 (lv_at hl 0 rfl) ?_
  refine lv_iconst (v := nI 0) hx hb dL_holds_335 (by decide) ?_
  refine zk_call1 (va_runS (As := [.ref a.1, .int (nI 6), .int (nI i), .int (nI d), .int (nI 0)]) (rest := []) ⟨hx, hb, hml, hown, hts⟩ (c_C_6 l G hst a σ3 hok0 (nI i) (nI d) (nI 0) _) (va_cwS 5 hts gL_holds_L_call rfl rfl rfl (by decide +kernel) ⟨Nat.le_of_ble_eq_true rfl, Nat.le_of_ble_eq_true rfl⟩) (zk_preSH hN hE hA0 hS hP hD) rfl rfl hl.1 rfl (lv_room (Nat.le_of_ble_eq_true rfl)) dL_holds_336 ⟨by show cells + 4 + 4 + 4 ≤ 1600; omega, by show slots + 24 + 24 + 24 ≤ 9600; omega⟩) hP hD hS hA (fun r6 σ5 H locs hpost hP hD hS => ?_)
  refine zk_cs (cells + 4 + 4 + 4) (slots + 24 + 24 + 24) rfl rfl ?_
  have hP : va_P G.1 vwCl (zw G a σ5) H := hP
  have hD : va_D A (zw G a σ5) := hD
  obtain ⟨⟨er, ec⟩, ht0⟩ := hpost
  rw [hg0] at er ec
  have hg0 : core σ5 = κ := ec
  have hok0 := yOk_of hk0 hg0 ht0
  refine zk_top (er.trans (hm_0 hI hi hd40)) ?_
  refine lv_istore (lv' := [(12, .int (kL κ 9 (i * 40 + d))), (11, .int (nI d)), (9, .int (zs (fun k => fChild (kL κ) (nI k) (nI 7)) (i + 1))), (8, .int (zs (fun k => fChild (kL κ) (nI k) (nI 2)) (i + 1))), (0, .ref a.1), (1, .int (nI x)), (2, .int (nI n)), (3, .int (nI t)), (4, .int (fAbout (kL κ) (nI 11))), (5, .int (nI 1)), (7, .int (zs (fun k => fDay (kL κ) (nI k) (nI 3)) 40)), (10, .int (nI i))]) hx hb dL_holds_339 hl (by decide) rfl (fun ls hl => ?_)
  refine lv_aload_n hx hb dL_holds_341 rfl (lv_at hl 4 rfl) ?_
  refine lv_bipush (v := nI 6) hx hb dL_holds_342 (by decide) ?_
  refine lv_iload hx hb dL_holds_344 (lv_at hl 11 rfl) ?_
  refine lv_iload hx hb dL_holds_346 (lv_at hl 1 rfl) ?_
  refine lv_iconst (v := nI 2) hx hb dL_holds_348 (by decide) ?_
  refine zk_call1 (va_runS (As := [.ref a.1, .int (nI 6), .int (nI i), .int (nI d), .int (nI 2)]) (rest := []) ⟨hx, hb, hml, hown, hts⟩ (c_C_6 l G hst a σ5 hok0 (nI i) (nI d) (nI 2) _) (va_cwS 5 hts gL_holds_L_call rfl rfl rfl (by decide +kernel) ⟨Nat.le_of_ble_eq_true rfl, Nat.le_of_ble_eq_true rfl⟩) (zk_preSH hN hE hA0 hS hP hD) rfl rfl hl.1 rfl (lv_room (Nat.le_of_ble_eq_true rfl)) dL_holds_349 ⟨by show cells + 4 + 4 + 4 + 4 ≤ 1600; omega, by show slots + 24 + 24 + 24 + 24 ≤ 9600; omega⟩) hP hD hS hA (fun r8 σ7 H locs hpost hP hD hS => ?_)
  refine zk_cs (cells + 4 + 4 + 4 + 4) (slots + 24 + 24 + 24 + 24) rfl rfl ?_
  have hP : va_P G.1 vwCl (zw G a σ7) H := hP
  have hD : va_D A (zw G a σ7) := hD
  obtain ⟨⟨er, ec⟩, ht0⟩ := hpost
  rw [hg0] at er ec
  have hg0 : core σ7 = κ := ec
  have hok0 := yOk_of hk0 hg0 ht0
  refine zk_top (er.trans (hm_2 hI hi hd40)) ?_
  refine lv_istore (lv' := [(13, .int (if kL κ 9 (i * 40 + d) = nI 2 then kL κ 11 (i * 40 + d) else -1)), (12, .int (kL κ 9 (i * 40 + d))), (11, .int (nI d)), (9, .int (zs (fun k => fChild (kL κ) (nI k) (nI 7)) (i + 1))), (8, .int (zs (fun k => fChild (kL κ) (nI k) (nI 2)) (i + 1))), (0, .ref a.1), (1, .int (nI x)), (2, .int (nI n)), (3, .int (nI t)), (4, .int (fAbout (kL κ) (nI 11))), (5, .int (nI 1)), (7, .int (zs (fun k => fDay (kL κ) (nI k) (nI 3)) 40)), (10, .int (nI i))]) hx hb dL_holds_352 hl (by decide) rfl (fun ls hl => ?_)
  refine lv_aload_n hx hb dL_holds_354 rfl (lv_at hl 5 rfl) ?_
  refine lv_iconst (v := nI 3) hx hb dL_holds_355 (by decide) ?_
  refine lv_iload hx hb dL_holds_356 (lv_at hl 12 rfl) ?_
  refine lv_iconst (v := nI 3) hx hb dL_holds_358 (by decide) ?_
  refine lv_iconst (v := nI 0) hx hb dL_holds_359 (by decide) ?_
  refine zk_call1 (va_runS (As := [.ref a.1, .int (nI 3), .int (nI i), .int (nI 3), .int (nI 0)]) (rest := []) ⟨hx, hb, hml, hown, hts⟩ (c_C_3 l G hst a σ7 hok0 (nI i) (nI 3) (nI 0) _) (va_cwS 5 hts gL_holds_L_call rfl rfl rfl (by decide +kernel) ⟨Nat.le_of_ble_eq_true rfl, Nat.le_of_ble_eq_true rfl⟩) (zk_preSH hN hE hA0 hS hP hD) rfl rfl hl.1 rfl (lv_room (Nat.le_of_ble_eq_true rfl)) dL_holds_360 ⟨by show cells + 4 + 4 + 4 + 4 + 4 ≤ 1600; omega, by show slots + 24 + 24 + 24 + 24 + 24 ≤ 9600; omega⟩) hP hD hS hA (fun r10 σ9 H locs hpost hP hD hS => ?_)
  refine zk_cs (cells + 4 + 4 + 4 + 4 + 4) (slots + 24 + 24 + 24 + 24 + 24) rfl rfl ?_
  have hP : va_P G.1 vwCl (zw G a σ9) H := hP
  have hD : va_D A (zw G a σ9) := hD
  obtain ⟨⟨er, ec⟩, ht0⟩ := hpost
  rw [hg0] at er ec
  have hg0 : core σ9 = κ := ec
  have hok0 := yOk_of hk0 hg0 ht0
  refine zk_top (er.trans (hc_3 hI hi)) ?_
  refine lv_iconst (v := -1) hx hb dL_holds_363 (by decide) ?_
  refine lv_icmp_eq (tgt := 399) hx hb dL_holds_364 (by decide) (fun h364_10 => ?_) (fun h364_10 => ?_)
  · refine lv_iconst (v := nI 0) hx hb dL_holds_399 (by decide) ?_
    refine zk_top (show nI 0 = if sEnt (kL κ) i d then nI 1 else nI 0 from (if_neg (fun z => by first | exact z.1 (by assumption) | exact z.2.1 (by assumption) | exact z.2.2 (by assumption))).symm) ?_
    refine lv_istore (lv' := [(14, .int (if sEnt (kL κ) i d then nI 1 else nI 0)), (13, .int (if kL κ 9 (i * 40 + d) = nI 2 then kL κ 11 (i * 40 + d) else -1)), (12, .int (kL κ 9 (i * 40 + d))), (11, .int (nI d)), (9, .int (zs (fun k => fChild (kL κ) (nI k) (nI 7)) (i + 1))), (8, .int (zs (fun k => fChild (kL κ) (nI k) (nI 2)) (i + 1))), (0, .ref a.1), (1, .int (nI x)), (2, .int (nI n)), (3, .int (nI t)), (4, .int (fAbout (kL κ) (nI 11))), (5, .int (nI 1)), (7, .int (zs (fun k => fDay (kL κ) (nI k) (nI 3)) 40)), (10, .int (nI i))]) hx hb dL_holds_400 hl (by decide) rfl (fun ls hl => ?_)
    refine W.widen (k := cells + 28) (n := slots + 168) (by omega) (by omega) ?_
    exact kk σ9 _ _ _ ht0 hg0 hP hD hS (lv_sub hl [6, 7, 8, 9, 10, 11, 12, 5, 4, 13, 3, 2, 1, 0] rfl)
  · refine lv_iload hx hb dL_holds_367 (lv_at hl 2 rfl) ?_
    refine lv_aload_n hx hb dL_holds_369 rfl (lv_at hl 5 rfl) ?_
    refine lv_iconst (v := nI 3) hx hb dL_holds_370 (by decide) ?_
    refine lv_iload hx hb dL_holds_371 (lv_at hl 12 rfl) ?_
    refine lv_iconst (v := nI 3) hx hb dL_holds_373 (by decide) ?_
    refine lv_iconst (v := nI 0) hx hb dL_holds_374 (by decide) ?_
    refine zk_call1 (va_runS (As := [.ref a.1, .int (nI 3), .int (nI i), .int (nI 3), .int (nI 0)]) (rest := [.int (nI d)]) ⟨hx, hb, hml, hown, hts⟩ (c_C_3 l G hst a σ9 hok0 (nI i) (nI 3) (nI 0) _) (va_cwS 5 hts gL_holds_L_call rfl rfl rfl (by decide +kernel) ⟨Nat.le_of_ble_eq_true rfl, Nat.le_of_ble_eq_true rfl⟩) (zk_preSH hN hE hA0 hS hP hD) rfl rfl hl.1 rfl (lv_room (Nat.le_of_ble_eq_true rfl)) dL_holds_375 ⟨by show cells + 4 + 4 + 4 + 4 + 4 + 4 ≤ 1600; omega, by show slots + 24 + 24 + 24 + 24 + 24 + 24 ≤ 9600; omega⟩) hP hD hS hA (fun r13 σ12 H locs hpost hP hD hS => ?_)
    refine zk_cs (cells + 4 + 4 + 4 + 4 + 4 + 4) (slots + 24 + 24 + 24 + 24 + 24 + 24) rfl rfl ?_
    have hP : va_P G.1 vwCl (zw G a σ12) H := hP
    have hD : va_D A (zw G a σ12) := hD
    obtain ⟨⟨er, ec⟩, ht0⟩ := hpost
    rw [hg0] at er ec
    have hg0 : core σ12 = κ := ec
    have hok0 := yOk_of hk0 hg0 ht0
    refine zk_top (er.trans (hc_3 hI hi)) ?_
    refine lv_icmp_lt (tgt := 399) hx hb dL_holds_378 (by decide) (fun h378_13 => ?_) (fun h378_13 => ?_)
    · have h378_13 := h378_13
      refine lv_iconst (v := nI 0) hx hb dL_holds_399 (by decide) ?_
      refine zk_top (show nI 0 = if sEnt (kL κ) i d then nI 1 else nI 0 from (if_neg (fun z => by first | exact z.1 (by assumption) | exact z.2.1 (by assumption) | exact z.2.2 (by assumption))).symm) ?_
      refine lv_istore (lv' := [(14, .int (if sEnt (kL κ) i d then nI 1 else nI 0)), (13, .int (if kL κ 9 (i * 40 + d) = nI 2 then kL κ 11 (i * 40 + d) else -1)), (12, .int (kL κ 9 (i * 40 + d))), (11, .int (nI d)), (9, .int (zs (fun k => fChild (kL κ) (nI k) (nI 7)) (i + 1))), (8, .int (zs (fun k => fChild (kL κ) (nI k) (nI 2)) (i + 1))), (0, .ref a.1), (1, .int (nI x)), (2, .int (nI n)), (3, .int (nI t)), (4, .int (fAbout (kL κ) (nI 11))), (5, .int (nI 1)), (7, .int (zs (fun k => fDay (kL κ) (nI k) (nI 3)) 40)), (10, .int (nI i))]) hx hb dL_holds_400 hl (by decide) rfl (fun ls hl => ?_)
      refine W.widen (k := cells + 28) (n := slots + 168) (by omega) (by omega) ?_
      exact kk σ12 _ _ _ ht0 hg0 hP hD hS (lv_sub hl [6, 7, 8, 9, 10, 11, 12, 5, 4, 13, 3, 2, 1, 0] rfl)
    · have h378_13 := h378_13
      refine lv_iload hx hb dL_holds_381 (lv_at hl 2 rfl) ?_
      refine lv_aload_n hx hb dL_holds_383 rfl (lv_at hl 5 rfl) ?_
      refine lv_iconst (v := nI 3) hx hb dL_holds_384 (by decide) ?_
      refine lv_iload hx hb dL_holds_385 (lv_at hl 12 rfl) ?_
      refine lv_iconst (v := nI 4) hx hb dL_holds_387 (by decide) ?_
      refine lv_iconst (v := nI 0) hx hb dL_holds_388 (by decide) ?_
      refine zk_call1 (va_runS (As := [.ref a.1, .int (nI 3), .int (nI i), .int (nI 4), .int (nI 0)]) (rest := [.int (nI d)]) ⟨hx, hb, hml, hown, hts⟩ (c_C_3 l G hst a σ12 hok0 (nI i) (nI 4) (nI 0) _) (va_cwS 5 hts gL_holds_L_call rfl rfl rfl (by decide +kernel) ⟨Nat.le_of_ble_eq_true rfl, Nat.le_of_ble_eq_true rfl⟩) (zk_preSH hN hE hA0 hS hP hD) rfl rfl hl.1 rfl (lv_room (Nat.le_of_ble_eq_true rfl)) dL_holds_389 ⟨by show cells + 4 + 4 + 4 + 4 + 4 + 4 + 4 ≤ 1600; omega, by show slots + 24 + 24 + 24 + 24 + 24 + 24 + 24 ≤ 9600; omega⟩) hP hD hS hA (fun r16 σ15 H locs hpost hP hD hS => ?_)
      refine zk_cs (cells + 4 + 4 + 4 + 4 + 4 + 4 + 4) (slots + 24 + 24 + 24 + 24 + 24 + 24 + 24) rfl rfl ?_
      have hP : va_P G.1 vwCl (zw G a σ15) H := hP
      have hD : va_D A (zw G a σ15) := hD
      obtain ⟨⟨er, ec⟩, ht0⟩ := hpost
      rw [hg0] at er ec
      have hg0 : core σ15 = κ := ec
      have hok0 := yOk_of hk0 hg0 ht0
      refine zk_top (er.trans (hc_4 hI hi)) ?_
      refine lv_icmp_gt (tgt := 399) hx hb dL_holds_392 (by decide) (fun h392_16 => ?_) (fun h392_16 => ?_)
      · have h392_16 := h392_16
        refine lv_iconst (v := nI 0) hx hb dL_holds_399 (by decide) ?_
        refine zk_top (show nI 0 = if sEnt (kL κ) i d then nI 1 else nI 0 from (if_neg (fun z => by first | exact z.1 (by assumption) | exact z.2.1 (by assumption) | exact z.2.2 (by assumption))).symm) ?_
        refine lv_istore (lv' := [(14, .int (if sEnt (kL κ) i d then nI 1 else nI 0)), (13, .int (if kL κ 9 (i * 40 + d) = nI 2 then kL κ 11 (i * 40 + d) else -1)), (12, .int (kL κ 9 (i * 40 + d))), (11, .int (nI d)), (9, .int (zs (fun k => fChild (kL κ) (nI k) (nI 7)) (i + 1))), (8, .int (zs (fun k => fChild (kL κ) (nI k) (nI 2)) (i + 1))), (0, .ref a.1), (1, .int (nI x)), (2, .int (nI n)), (3, .int (nI t)), (4, .int (fAbout (kL κ) (nI 11))), (5, .int (nI 1)), (7, .int (zs (fun k => fDay (kL κ) (nI k) (nI 3)) 40)), (10, .int (nI i))]) hx hb dL_holds_400 hl (by decide) rfl (fun ls hl => ?_)
        refine W.widen (k := cells + 28) (n := slots + 168) (by omega) (by omega) ?_
        exact kk σ15 _ _ _ ht0 hg0 hP hD hS (lv_sub hl [6, 7, 8, 9, 10, 11, 12, 5, 4, 13, 3, 2, 1, 0] rfl)
      · have h392_16 := h392_16
        refine lv_iconst (v := nI 1) hx hb dL_holds_395 (by decide) ?_
        refine lv_goto (tgt := 400) hx hb dL_holds_396 (by decide) ?_
        refine zk_top (show nI 1 = if sEnt (kL κ) i d then nI 1 else nI 0 from (if_pos ⟨by assumption, by assumption, by assumption⟩).symm) ?_
        refine lv_istore (lv' := [(14, .int (if sEnt (kL κ) i d then nI 1 else nI 0)), (13, .int (if kL κ 9 (i * 40 + d) = nI 2 then kL κ 11 (i * 40 + d) else -1)), (12, .int (kL κ 9 (i * 40 + d))), (11, .int (nI d)), (9, .int (zs (fun k => fChild (kL κ) (nI k) (nI 7)) (i + 1))), (8, .int (zs (fun k => fChild (kL κ) (nI k) (nI 2)) (i + 1))), (0, .ref a.1), (1, .int (nI x)), (2, .int (nI n)), (3, .int (nI t)), (4, .int (fAbout (kL κ) (nI 11))), (5, .int (nI 1)), (7, .int (zs (fun k => fDay (kL κ) (nI k) (nI 3)) 40)), (10, .int (nI i))]) hx hb dL_holds_400 hl (by decide) rfl (fun ls hl => ?_)
        refine W.widen (k := cells + 28) (n := slots + 168) (by omega) (by omega) ?_
        exact kk σ15 _ _ _ ht0 hg0 hP hD hS (lv_sub hl [6, 7, 8, 9, 10, 11, 12, 5, 4, 13, 3, 2, 1, 0] rfl)

set_option maxHeartbeats 4000000 in
set_option maxRecDepth 100000 in
theorem zh_k0 {p : Program} {l : Launch} {e : Env} {s : State} {m : MethodId} {args : Array Value} {below : List Frame} {meth : Method} {c : Code} {Q : State → Prop} {A : Nat → Prop} {G : zk_G} {H : Heap} {locs : List Loc} {cells slots : Nat} {ls : Array Slot} (hst : l.stackTraces = false) (F : zFx p s m meth c args cL_holds 21 (some .boolean) vL_holds A G) {a : zA} {σ : zSt} {κ : zCo}  (ht0 : zTx σ) (hg0 : core σ = κ) (hk0 : kOk κ) {x n t i d : Nat} (hx31 : x < 2 ^ 31) (hI : sInv (kL κ) n t) (hi : i < n) (hd40 : d < 40) (hk : kL κ 9 (i * 40 + d) = nI 0) {v : Int32} (hP : va_P G.1 vwCl (zw G a σ) H) (hD : va_D A (zw G a σ)) (hS : va_S A s.heap H locs) (hl : lv_has ls 21 [(0, .ref a.1), (1, .int (nI x)), (2, .int (nI n)), (3, .int (nI t)), (4, .int (fAbout (kL κ) (nI 11))), (5, .int (nI 1)), (7, .int (zs (fun k => fDay (kL κ) (nI k) (nI 3)) 40)), (8, .int (zs (fun k => fChild (kL κ) (nI k) (nI 2)) (i + 1))), (9, .int (zs (fun k => fChild (kL κ) (nI k) (nI 7)) (i + 1))), (10, .int (nI i)), (11, .int (nI d)), (12, .int (nI 0)), (13, .int (-1)), (14, .int v)]) (hcs : cells + 12 ≤ 1600 ∧ slots + 72 ≤ 9600)
    (kk : ∀ (σ₁ : zSt) (H₁ : Heap) (locs₁ : List Loc) (ls₁ : Array Slot), zTx σ₁ → core σ₁ = κ →  va_P G.1 vwCl (zw G a σ₁) H₁ → va_D A (zw G a σ₁) → va_S A s.heap H₁ locs₁ → lv_has ls₁ 21 [(0, .ref a.1), (1, .int (nI x)), (2, .int (nI n)), (3, .int (nI t)), (4, .int (fAbout (kL κ) (nI 11))), (5, .int (nI 1)), (7, .int (zs (fun k => fDay (kL κ) (nI k) (nI 3)) 40)), (8, .int (zs (fun k => fChild (kL κ) (nI k) (nI 2)) (i + 1))), (9, .int (zs (fun k => fChild (kL κ) (nI k) (nI 7)) (i + 1))), (10, .int (nI (i + 1)))] → W p l e rmL_holds s m args below meth c H₁ locs₁ (cells + 12) (slots + 72) Q (F0 m 276 ls₁ [])) :
    W p l e rmL_holds s m args below meth c H locs cells slots Q (F0 m 402 ls []) := by
  obtain ⟨hx, hb, hml, hr, hts, hown, hlocks, hE, hA, hA0, hN⟩ := id F
  have hok0 := yOk_of hk0 hg0 ht0
  have hn12 := hI.2.1
  have ht40 := hI.2.2.2.1
  refine lv_iload hx hb dL_holds_402 (lv_at hl 11 rfl) ?_
  refine lv_iconst (v := nI 2) hx hb dL_holds_404 (by decide) ?_
  refine lv_icmp_ne (tgt := 453) hx hb dL_holds_405 (by decide) (fun _ => ?_) (fun z => absurd z (by decide))
  refine lv_iload hx hb dL_holds_453 (lv_at hl 11 rfl) ?_
  refine lv_iconst (v := nI 3) hx hb dL_holds_455 (by decide) ?_
  refine lv_icmp_ne (tgt := 478) hx hb dL_holds_456 (by decide) (fun _ => ?_) (fun z => absurd z (by decide))
  refine lv_iload hx hb dL_holds_478 (lv_at hl 11 rfl) ?_
  refine lv_iconst (v := nI 2) hx hb dL_holds_480 (by decide) ?_
  refine lv_icmp_eq (tgt := 490) hx hb dL_holds_481 (by decide) (fun z => absurd z (by decide)) (fun _ => ?_)
  refine lv_iload hx hb dL_holds_484 (lv_at hl 12 rfl) ?_
  refine lv_iconst (v := -1) hx hb dL_holds_486 (by decide) ?_
  refine lv_icmp_ne (tgt := 543) hx hb dL_holds_487 (by decide) (fun z => absurd (by decide) z) (fun _ => ?_)
  refine lv_iload hx hb dL_holds_490 (lv_at hl 10 rfl) ?_
  refine lv_iload_n hx hb dL_holds_492 rfl (lv_at hl 3 rfl) ?_
  refine lv_icmp_ge (tgt := 505) hx hb dL_holds_493 (by decide) (fun h493_0 => ?_) (fun h493_0 => ?_)
  · have h493_0 := zk_le (by omega) (by omega) h493_0
    refine lv_iload hx hb dL_holds_505 (lv_at hl 11 rfl) ?_
    refine lv_iconst (v := nI 2) hx hb dL_holds_507 (by decide) ?_
    refine lv_icmp_ge (tgt := 543) hx hb dL_holds_508 (by decide) (fun z => absurd z (by decide)) (fun _ => ?_)
    refine lv_iload hx hb dL_holds_511 (lv_at hl 11 rfl) ?_
    refine lv_iconst (v := nI 5) hx hb dL_holds_513 (by decide) ?_
    refine lv_icmp_ne (tgt := 539) hx hb dL_holds_514 (by decide) (fun _ => ?_) (fun z => absurd z (by decide))
    refine lv_iconst (v := nI 1) hx hb dL_holds_539 (by decide) ?_
    refine lv_goto (tgt := 544) hx hb dL_holds_540 (by decide) ?_
    refine lv_istore (lv' := [(5, .int (nI 1)), (0, .ref a.1), (1, .int (nI x)), (2, .int (nI n)), (3, .int (nI t)), (4, .int (fAbout (kL κ) (nI 11))), (7, .int (zs (fun k => fDay (kL κ) (nI k) (nI 3)) 40)), (8, .int (zs (fun k => fChild (kL κ) (nI k) (nI 2)) (i + 1))), (9, .int (zs (fun k => fChild (kL κ) (nI k) (nI 7)) (i + 1))), (10, .int (nI i)), (11, .int (nI d)), (12, .int (nI 0)), (13, .int (-1)), (14, .int v)]) hx hb dL_holds_544 hl (by decide) rfl (fun ls hl => ?_)
    refine lv_iinc (v := nI (i + 1)) (lv' := [(10, .int (nI (i + 1))), (5, .int (nI 1)), (0, .ref a.1), (1, .int (nI x)), (2, .int (nI n)), (3, .int (nI t)), (4, .int (fAbout (kL κ) (nI 11))), (7, .int (zs (fun k => fDay (kL κ) (nI k) (nI 3)) 40)), (8, .int (zs (fun k => fChild (kL κ) (nI k) (nI 2)) (i + 1))), (9, .int (zs (fun k => fChild (kL κ) (nI k) (nI 7)) (i + 1))), (11, .int (nI d)), (12, .int (nI 0)), (13, .int (-1)), (14, .int v)]) hx hb dL_holds_546 hl (k := 9) rfl (zk_inc i 1) (by decide) rfl (fun ls hl => ?_)
    refine lv_goto (tgt := 276) hx hb dL_holds_549 (by decide) ?_
    refine W.widen (k := cells + 12) (n := slots + 72) (by omega) (by omega) ?_
    exact kk σ _ _ _ ht0 hg0 hP hD hS (lv_sub hl [2, 3, 4, 5, 6, 1, 7, 8, 9, 0] rfl)
  · have h493_0 := zk_nle (by omega) (by omega) h493_0
    refine lv_iload hx hb dL_holds_496 (lv_at hl 11 rfl) ?_
    refine lv_iconst (v := nI 1) hx hb dL_holds_498 (by decide) ?_
    refine lv_icmp_eq (tgt := 543) hx hb dL_holds_499 (by decide) (fun z => absurd z (by decide)) (fun _ => ?_)
    refine lv_goto (tgt := 511) hx hb dL_holds_502 (by decide) ?_
    refine lv_iload hx hb dL_holds_511 (lv_at hl 11 rfl) ?_
    refine lv_iconst (v := nI 5) hx hb dL_holds_513 (by decide) ?_
    refine lv_icmp_ne (tgt := 539) hx hb dL_holds_514 (by decide) (fun _ => ?_) (fun z => absurd z (by decide))
    refine lv_iconst (v := nI 1) hx hb dL_holds_539 (by decide) ?_
    refine lv_goto (tgt := 544) hx hb dL_holds_540 (by decide) ?_
    refine lv_istore (lv' := [(5, .int (nI 1)), (0, .ref a.1), (1, .int (nI x)), (2, .int (nI n)), (3, .int (nI t)), (4, .int (fAbout (kL κ) (nI 11))), (7, .int (zs (fun k => fDay (kL κ) (nI k) (nI 3)) 40)), (8, .int (zs (fun k => fChild (kL κ) (nI k) (nI 2)) (i + 1))), (9, .int (zs (fun k => fChild (kL κ) (nI k) (nI 7)) (i + 1))), (10, .int (nI i)), (11, .int (nI d)), (12, .int (nI 0)), (13, .int (-1)), (14, .int v)]) hx hb dL_holds_544 hl (by decide) rfl (fun ls hl => ?_)
    refine lv_iinc (v := nI (i + 1)) (lv' := [(10, .int (nI (i + 1))), (5, .int (nI 1)), (0, .ref a.1), (1, .int (nI x)), (2, .int (nI n)), (3, .int (nI t)), (4, .int (fAbout (kL κ) (nI 11))), (7, .int (zs (fun k => fDay (kL κ) (nI k) (nI 3)) 40)), (8, .int (zs (fun k => fChild (kL κ) (nI k) (nI 2)) (i + 1))), (9, .int (zs (fun k => fChild (kL κ) (nI k) (nI 7)) (i + 1))), (11, .int (nI d)), (12, .int (nI 0)), (13, .int (-1)), (14, .int v)]) hx hb dL_holds_546 hl (k := 9) rfl (zk_inc i 1) (by decide) rfl (fun ls hl => ?_)
    refine lv_goto (tgt := 276) hx hb dL_holds_549 (by decide) ?_
    refine W.widen (k := cells + 12) (n := slots + 72) (by omega) (by omega) ?_
    exact kk σ _ _ _ ht0 hg0 hP hD hS (lv_sub hl [2, 3, 4, 5, 6, 1, 7, 8, 9, 0] rfl)

set_option maxHeartbeats 4000000 in
set_option maxRecDepth 100000 in
theorem zh_k1 {p : Program} {l : Launch} {e : Env} {s : State} {m : MethodId} {args : Array Value} {below : List Frame} {meth : Method} {c : Code} {Q : State → Prop} {A : Nat → Prop} {G : zk_G} {H : Heap} {locs : List Loc} {cells slots : Nat} {ls : Array Slot} (hst : l.stackTraces = false) (F : zFx p s m meth c args cL_holds 21 (some .boolean) vL_holds A G) {a : zA} {σ : zSt} {κ : zCo}  (ht0 : zTx σ) (hg0 : core σ = κ) (hk0 : kOk κ) {x n t i d : Nat} (hx31 : x < 2 ^ 31) (hI : sInv (kL κ) n t) (hi : i < n) (hd40 : d < 40) (hk : kL κ 9 (i * 40 + d) = nI 1) (hdt : t ≤ d) {v : Int32} (hP : va_P G.1 vwCl (zw G a σ) H) (hD : va_D A (zw G a σ)) (hS : va_S A s.heap H locs) (hl : lv_has ls 21 [(0, .ref a.1), (1, .int (nI x)), (2, .int (nI n)), (3, .int (nI t)), (4, .int (fAbout (kL κ) (nI 11))), (5, .int (nI 1)), (7, .int (zs (fun k => fDay (kL κ) (nI k) (nI 3)) 40)), (8, .int (zs (fun k => fChild (kL κ) (nI k) (nI 2)) (i + 1))), (9, .int (zs (fun k => fChild (kL κ) (nI k) (nI 7)) (i + 1))), (10, .int (nI i)), (11, .int (nI d)), (12, .int (nI 1)), (13, .int (-1)), (14, .int v)]) (hcs : cells + 12 ≤ 1600 ∧ slots + 72 ≤ 9600)
    (kk : ∀ (σ₁ : zSt) (H₁ : Heap) (locs₁ : List Loc) (ls₁ : Array Slot), zTx σ₁ → core σ₁ = κ →  va_P G.1 vwCl (zw G a σ₁) H₁ → va_D A (zw G a σ₁) → va_S A s.heap H₁ locs₁ → lv_has ls₁ 21 [(0, .ref a.1), (1, .int (nI x)), (2, .int (nI n)), (3, .int (nI t)), (4, .int (fAbout (kL κ) (nI 11))), (5, .int (nI 1)), (7, .int (zs (fun k => fDay (kL κ) (nI k) (nI 3)) 40)), (8, .int (zs (fun k => fChild (kL κ) (nI k) (nI 2)) (i + 1))), (9, .int (zs (fun k => fChild (kL κ) (nI k) (nI 7)) (i + 1))), (10, .int (nI (i + 1)))] → W p l e rmL_holds s m args below meth c H₁ locs₁ (cells + 12) (slots + 72) Q (F0 m 276 ls₁ [])) :
    W p l e rmL_holds s m args below meth c H locs cells slots Q (F0 m 402 ls []) := by
  obtain ⟨hx, hb, hml, hr, hts, hown, hlocks, hE, hA, hA0, hN⟩ := id F
  have hok0 := yOk_of hk0 hg0 ht0
  have hn12 := hI.2.1
  have ht40 := hI.2.2.2.1
  refine lv_iload hx hb dL_holds_402 (lv_at hl 11 rfl) ?_
  refine lv_iconst (v := nI 2) hx hb dL_holds_404 (by decide) ?_
  refine lv_icmp_ne (tgt := 453) hx hb dL_holds_405 (by decide) (fun _ => ?_) (fun z => absurd z (by decide))
  refine lv_iload hx hb dL_holds_453 (lv_at hl 11 rfl) ?_
  refine lv_iconst (v := nI 3) hx hb dL_holds_455 (by decide) ?_
  refine lv_icmp_ne (tgt := 478) hx hb dL_holds_456 (by decide) (fun _ => ?_) (fun z => absurd z (by decide))
  refine lv_iload hx hb dL_holds_478 (lv_at hl 11 rfl) ?_
  refine lv_iconst (v := nI 2) hx hb dL_holds_480 (by decide) ?_
  refine lv_icmp_eq (tgt := 490) hx hb dL_holds_481 (by decide) (fun z => absurd z (by decide)) (fun _ => ?_)
  refine lv_iload hx hb dL_holds_484 (lv_at hl 12 rfl) ?_
  refine lv_iconst (v := -1) hx hb dL_holds_486 (by decide) ?_
  refine lv_icmp_ne (tgt := 543) hx hb dL_holds_487 (by decide) (fun z => absurd (by decide) z) (fun _ => ?_)
  refine lv_iload hx hb dL_holds_490 (lv_at hl 10 rfl) ?_
  refine lv_iload_n hx hb dL_holds_492 rfl (lv_at hl 3 rfl) ?_
  refine lv_icmp_ge (tgt := 505) hx hb dL_holds_493 (by decide) (fun _ => ?_) (fun h => absurd (zk_nle (by omega) (by omega) h) (by omega))
  refine lv_iload hx hb dL_holds_505 (lv_at hl 11 rfl) ?_
  refine lv_iconst (v := nI 2) hx hb dL_holds_507 (by decide) ?_
  refine lv_icmp_ge (tgt := 543) hx hb dL_holds_508 (by decide) (fun z => absurd z (by decide)) (fun _ => ?_)
  refine lv_iload hx hb dL_holds_511 (lv_at hl 11 rfl) ?_
  refine lv_iconst (v := nI 5) hx hb dL_holds_513 (by decide) ?_
  refine lv_icmp_ne (tgt := 539) hx hb dL_holds_514 (by decide) (fun _ => ?_) (fun z => absurd z (by decide))
  refine lv_iconst (v := nI 1) hx hb dL_holds_539 (by decide) ?_
  refine lv_goto (tgt := 544) hx hb dL_holds_540 (by decide) ?_
  refine lv_istore (lv' := [(5, .int (nI 1)), (0, .ref a.1), (1, .int (nI x)), (2, .int (nI n)), (3, .int (nI t)), (4, .int (fAbout (kL κ) (nI 11))), (7, .int (zs (fun k => fDay (kL κ) (nI k) (nI 3)) 40)), (8, .int (zs (fun k => fChild (kL κ) (nI k) (nI 2)) (i + 1))), (9, .int (zs (fun k => fChild (kL κ) (nI k) (nI 7)) (i + 1))), (10, .int (nI i)), (11, .int (nI d)), (12, .int (nI 1)), (13, .int (-1)), (14, .int v)]) hx hb dL_holds_544 hl (by decide) rfl (fun ls hl => ?_)
  refine lv_iinc (v := nI (i + 1)) (lv' := [(10, .int (nI (i + 1))), (5, .int (nI 1)), (0, .ref a.1), (1, .int (nI x)), (2, .int (nI n)), (3, .int (nI t)), (4, .int (fAbout (kL κ) (nI 11))), (7, .int (zs (fun k => fDay (kL κ) (nI k) (nI 3)) 40)), (8, .int (zs (fun k => fChild (kL κ) (nI k) (nI 2)) (i + 1))), (9, .int (zs (fun k => fChild (kL κ) (nI k) (nI 7)) (i + 1))), (11, .int (nI d)), (12, .int (nI 1)), (13, .int (-1)), (14, .int v)]) hx hb dL_holds_546 hl (k := 9) rfl (zk_inc i 1) (by decide) rfl (fun ls hl => ?_)
  refine lv_goto (tgt := 276) hx hb dL_holds_549 (by decide) ?_
  refine W.widen (k := cells + 12) (n := slots + 72) (by omega) (by omega) ?_
  exact kk σ _ _ _ ht0 hg0 hP hD hS (lv_sub hl [2, 3, 4, 5, 6, 1, 7, 8, 9, 0] rfl)

set_option maxHeartbeats 4000000 in
set_option maxRecDepth 100000 in
theorem zh_k2 {p : Program} {l : Launch} {e : Env} {s : State} {m : MethodId} {args : Array Value} {below : List Frame} {meth : Method} {c : Code} {Q : State → Prop} {A : Nat → Prop} {G : zk_G} {H : Heap} {locs : List Loc} {cells slots : Nat} {ls : Array Slot} (hst : l.stackTraces = false) (F : zFx p s m meth c args cL_holds 21 (some .boolean) vL_holds A G) {a : zA} {σ : zSt} {κ : zCo}  (ht0 : zTx σ) (hg0 : core σ = κ) (hk0 : kOk κ) {x n t i d j q : Nat} (hx31 : x < 2 ^ 31) (hI : sInv (kL κ) n t) (hi : i < n) (hd40 : d < 40) (hk : kL κ 9 (i * 40 + d) = nI 2) (hdt : d < t) (hj : j < n) (hji : kL κ 1 j = kL κ 1 i) (hq0 : 1 ≤ q) (hq9 : q ≤ 999) (hq : kL κ 10 (i * 40 + d) = nI q) (hP : va_P G.1 vwCl (zw G a σ) H) (hD : va_D A (zw G a σ)) (hS : va_S A s.heap H locs) (hl : lv_has ls 21 [(0, .ref a.1), (1, .int (nI x)), (2, .int (nI n)), (3, .int (nI t)), (4, .int (fAbout (kL κ) (nI 11))), (5, .int (nI 1)), (7, .int (zs (fun k => fDay (kL κ) (nI k) (nI 3)) 40)), (8, .int (zs (fun k => fChild (kL κ) (nI k) (nI 2)) (i + 1))), (9, .int (zs (fun k => fChild (kL κ) (nI k) (nI 7)) (i + 1))), (10, .int (nI i)), (11, .int (nI d)), (12, .int (nI 2)), (13, .int (nI j)), (14, .int (nI 0))]) (hcs : cells + 12 ≤ 1600 ∧ slots + 72 ≤ 9600)
    (kk : ∀ (σ₁ : zSt) (H₁ : Heap) (locs₁ : List Loc) (ls₁ : Array Slot), zTx σ₁ → core σ₁ = κ →  va_P G.1 vwCl (zw G a σ₁) H₁ → va_D A (zw G a σ₁) → va_S A s.heap H₁ locs₁ → lv_has ls₁ 21 [(0, .ref a.1), (1, .int (nI x)), (2, .int (nI n)), (3, .int (nI t)), (4, .int (fAbout (kL κ) (nI 11))), (5, .int (nI 1)), (7, .int (zs (fun k => fDay (kL κ) (nI k) (nI 3)) 40)), (8, .int (zs (fun k => fChild (kL κ) (nI k) (nI 2)) (i + 1))), (9, .int (zs (fun k => fChild (kL κ) (nI k) (nI 7)) (i + 1))), (10, .int (nI (i + 1)))] → W p l e rmL_holds s m args below meth c H₁ locs₁ (cells + 12) (slots + 72) Q (F0 m 276 ls₁ [])) :
    W p l e rmL_holds s m args below meth c H locs cells slots Q (F0 m 402 ls []) := by
  obtain ⟨hx, hb, hml, hr, hts, hown, hlocks, hE, hA, hA0, hN⟩ := id F
  have hok0 := yOk_of hk0 hg0 ht0
  have hn12 := hI.2.1
  have ht40 := hI.2.2.2.1
  refine lv_iload hx hb dL_holds_402 (lv_at hl 11 rfl) ?_
  refine lv_iconst (v := nI 2) hx hb dL_holds_404 (by decide) ?_
  refine lv_icmp_ne (tgt := 453) hx hb dL_holds_405 (by decide) (fun z => absurd (by decide) z) (fun _ => ?_)
  refine lv_iload hx hb dL_holds_408 (lv_at hl 13 rfl) ?_
  refine lv_if_ne (tgt := 543) hx hb dL_holds_410 (by decide) (fun z => absurd (by decide) z) (fun _ => ?_)
  refine lv_iload hx hb dL_holds_413 (lv_at hl 12 rfl) ?_
  refine lv_if_lt (tgt := 543) hx hb dL_holds_415 (by decide) (fun h => absurd h (nneg (by omega))) (fun _ => ?_)
  refine lv_aload_n hx hb dL_holds_418 rfl (lv_at hl 0 rfl) ?_
  refine lv_iconst (v := nI 3) hx hb dL_holds_419 (by decide) ?_
  refine lv_iload hx hb dL_holds_420 (lv_at hl 12 rfl) ?_
  refine lv_iconst (v := nI 0) hx hb dL_holds_422 (by decide) ?_
  refine lv_iconst (v := nI 0) hx hb dL_holds_423 (by decide) ?_
  refine zk_call1 (va_runS (As := [.ref a.1, .int (nI 3), .int (nI j), .int (nI 0), .int (nI 0)]) (rest := []) ⟨hx, hb, hml, hown, hts⟩ (c_C_3 l G hst a σ hok0 (nI j) (nI 0) (nI 0) _) (va_cwS 5 hts gL_holds_L_call rfl rfl rfl (by decide +kernel) ⟨Nat.le_of_ble_eq_true rfl, Nat.le_of_ble_eq_true rfl⟩) (zk_preSH hN hE hA0 hS hP hD) rfl rfl hl.1 rfl (lv_room (Nat.le_of_ble_eq_true rfl)) dL_holds_424 ⟨by show cells + 4 ≤ 1600; omega, by show slots + 24 ≤ 9600; omega⟩) hP hD hS hA (fun r2 σ1 H locs hpost hP hD hS => ?_)
  refine zk_cs (cells + 4) (slots + 24) rfl rfl ?_
  have hP : va_P G.1 vwCl (zw G a σ1) H := hP
  have hD : va_D A (zw G a σ1) := hD
  obtain ⟨⟨er, ec⟩, ht0⟩ := hpost
  rw [hg0] at er ec
  have hg0 : core σ1 = κ := ec
  have hok0 := yOk_of hk0 hg0 ht0
  refine zk_top (er.trans (hc_0 hI hj)) ?_
  refine lv_aload_n hx hb dL_holds_427 rfl (lv_at hl 0 rfl) ?_
  refine lv_iconst (v := nI 3) hx hb dL_holds_428 (by decide) ?_
  refine lv_iload hx hb dL_holds_429 (lv_at hl 9 rfl) ?_
  refine lv_iconst (v := nI 0) hx hb dL_holds_431 (by decide) ?_
  refine lv_iconst (v := nI 0) hx hb dL_holds_432 (by decide) ?_
  refine zk_call1 (va_runS (As := [.ref a.1, .int (nI 3), .int (nI i), .int (nI 0), .int (nI 0)]) (rest := [.int (kL κ 1 j)]) ⟨hx, hb, hml, hown, hts⟩ (c_C_3 l G hst a σ1 hok0 (nI i) (nI 0) (nI 0) _) (va_cwS 5 hts gL_holds_L_call rfl rfl rfl (by decide +kernel) ⟨Nat.le_of_ble_eq_true rfl, Nat.le_of_ble_eq_true rfl⟩) (zk_preSH hN hE hA0 hS hP hD) rfl rfl hl.1 rfl (lv_room (Nat.le_of_ble_eq_true rfl)) dL_holds_433 ⟨by show cells + 4 + 4 ≤ 1600; omega, by show slots + 24 + 24 ≤ 9600; omega⟩) hP hD hS hA (fun r4 σ3 H locs hpost hP hD hS => ?_)
  refine zk_cs (cells + 4 + 4) (slots + 24 + 24) rfl rfl ?_
  have hP : va_P G.1 vwCl (zw G a σ3) H := hP
  have hD : va_D A (zw G a σ3) := hD
  obtain ⟨⟨er, ec⟩, ht0⟩ := hpost
  rw [hg0] at er ec
  have hg0 : core σ3 = κ := ec
  have hok0 := yOk_of hk0 hg0 ht0
  refine zk_top (er.trans (hc_0 hI hi)) ?_
  refine lv_icmp_ne (tgt := 543) hx hb dL_holds_436 (by decide) (fun h => absurd hji h) (fun _ => ?_)
  refine lv_aload_n hx hb dL_holds_439 rfl (lv_at hl 0 rfl) ?_
  refine lv_bipush (v := nI 6) hx hb dL_holds_440 (by decide) ?_
  refine lv_iload hx hb dL_holds_442 (lv_at hl 9 rfl) ?_
  refine lv_iload hx hb dL_holds_444 (lv_at hl 10 rfl) ?_
  refine lv_iconst (v := nI 1) hx hb dL_holds_446 (by decide) ?_
  refine zk_call1 (va_runS (As := [.ref a.1, .int (nI 6), .int (nI i), .int (nI d), .int (nI 1)]) (rest := []) ⟨hx, hb, hml, hown, hts⟩ (c_C_6 l G hst a σ3 hok0 (nI i) (nI d) (nI 1) _) (va_cwS 5 hts gL_holds_L_call rfl rfl rfl (by decide +kernel) ⟨Nat.le_of_ble_eq_true rfl, Nat.le_of_ble_eq_true rfl⟩) (zk_preSH hN hE hA0 hS hP hD) rfl rfl hl.1 rfl (lv_room (Nat.le_of_ble_eq_true rfl)) dL_holds_447 ⟨by show cells + 4 + 4 + 4 ≤ 1600; omega, by show slots + 24 + 24 + 24 ≤ 9600; omega⟩) hP hD hS hA (fun r6 σ5 H locs hpost hP hD hS => ?_)
  refine zk_cs (cells + 4 + 4 + 4) (slots + 24 + 24 + 24) rfl rfl ?_
  have hP : va_P G.1 vwCl (zw G a σ5) H := hP
  have hD : va_D A (zw G a σ5) := hD
  obtain ⟨⟨er, ec⟩, ht0⟩ := hpost
  rw [hg0] at er ec
  have hg0 : core σ5 = κ := ec
  have hok0 := yOk_of hk0 hg0 ht0
  refine zk_top (er.trans ((hm_1 hI hi hd40).trans ((if_pos hk).trans hq))) ?_
  refine lv_if_le (tgt := 543) hx hb dL_holds_450 (by decide) (fun h => absurd (zk_le0 (by omega) h) (by omega)) (fun _ => ?_)
  refine lv_iload hx hb dL_holds_453 (lv_at hl 11 rfl) ?_
  refine lv_iconst (v := nI 3) hx hb dL_holds_455 (by decide) ?_
  refine lv_icmp_ne (tgt := 478) hx hb dL_holds_456 (by decide) (fun _ => ?_) (fun z => absurd z (by decide))
  refine lv_iload hx hb dL_holds_478 (lv_at hl 11 rfl) ?_
  refine lv_iconst (v := nI 2) hx hb dL_holds_480 (by decide) ?_
  refine lv_icmp_eq (tgt := 490) hx hb dL_holds_481 (by decide) (fun _ => ?_) (fun z => absurd (by decide) z)
  refine lv_iload hx hb dL_holds_490 (lv_at hl 10 rfl) ?_
  refine lv_iload_n hx hb dL_holds_492 rfl (lv_at hl 3 rfl) ?_
  refine lv_icmp_ge (tgt := 505) hx hb dL_holds_493 (by decide) (fun h => absurd (zk_le (by omega) (by omega) h) (by omega)) (fun _ => ?_)
  refine lv_iload hx hb dL_holds_496 (lv_at hl 11 rfl) ?_
  refine lv_iconst (v := nI 1) hx hb dL_holds_498 (by decide) ?_
  refine lv_icmp_eq (tgt := 543) hx hb dL_holds_499 (by decide) (fun z => absurd z (by decide)) (fun _ => ?_)
  refine lv_goto (tgt := 511) hx hb dL_holds_502 (by decide) ?_
  refine lv_iload hx hb dL_holds_511 (lv_at hl 11 rfl) ?_
  refine lv_iconst (v := nI 5) hx hb dL_holds_513 (by decide) ?_
  refine lv_icmp_ne (tgt := 539) hx hb dL_holds_514 (by decide) (fun _ => ?_) (fun z => absurd z (by decide))
  refine lv_iconst (v := nI 1) hx hb dL_holds_539 (by decide) ?_
  refine lv_goto (tgt := 544) hx hb dL_holds_540 (by decide) ?_
  refine lv_istore (lv' := [(5, .int (nI 1)), (0, .ref a.1), (1, .int (nI x)), (2, .int (nI n)), (3, .int (nI t)), (4, .int (fAbout (kL κ) (nI 11))), (7, .int (zs (fun k => fDay (kL κ) (nI k) (nI 3)) 40)), (8, .int (zs (fun k => fChild (kL κ) (nI k) (nI 2)) (i + 1))), (9, .int (zs (fun k => fChild (kL κ) (nI k) (nI 7)) (i + 1))), (10, .int (nI i)), (11, .int (nI d)), (12, .int (nI 2)), (13, .int (nI j)), (14, .int (nI 0))]) hx hb dL_holds_544 hl (by decide) rfl (fun ls hl => ?_)
  refine lv_iinc (v := nI (i + 1)) (lv' := [(10, .int (nI (i + 1))), (5, .int (nI 1)), (0, .ref a.1), (1, .int (nI x)), (2, .int (nI n)), (3, .int (nI t)), (4, .int (fAbout (kL κ) (nI 11))), (7, .int (zs (fun k => fDay (kL κ) (nI k) (nI 3)) 40)), (8, .int (zs (fun k => fChild (kL κ) (nI k) (nI 2)) (i + 1))), (9, .int (zs (fun k => fChild (kL κ) (nI k) (nI 7)) (i + 1))), (11, .int (nI d)), (12, .int (nI 2)), (13, .int (nI j)), (14, .int (nI 0))]) hx hb dL_holds_546 hl (k := 9) rfl (zk_inc i 1) (by decide) rfl (fun ls hl => ?_)
  refine lv_goto (tgt := 276) hx hb dL_holds_549 (by decide) ?_
  refine W.widen (k := cells + 12) (n := slots + 72) (by omega) (by omega) ?_
  exact kk σ5 _ _ _ ht0 hg0 hP hD hS (lv_sub hl [2, 3, 4, 5, 6, 1, 7, 8, 9, 0] rfl)

set_option maxHeartbeats 4000000 in
set_option maxRecDepth 100000 in
theorem zh_k3 {p : Program} {l : Launch} {e : Env} {s : State} {m : MethodId} {args : Array Value} {below : List Frame} {meth : Method} {c : Code} {Q : State → Prop} {A : Nat → Prop} {G : zk_G} {H : Heap} {locs : List Loc} {cells slots : Nat} {ls : Array Slot} (hst : l.stackTraces = false) (F : zFx p s m meth c args cL_holds 21 (some .boolean) vL_holds A G) {a : zA} {σ : zSt} {κ : zCo}  (ht0 : zTx σ) (hg0 : core σ = κ) (hk0 : kOk κ) {x n t i d : Nat} (hx31 : x < 2 ^ 31) (hI : sInv (kL κ) n t) (hi : i < n) (hd40 : d < 40) (hk : kL κ 9 (i * 40 + d) = nI 3) (hdt : d < t) (hP : va_P G.1 vwCl (zw G a σ) H) (hD : va_D A (zw G a σ)) (hS : va_S A s.heap H locs) (hl : lv_has ls 21 [(0, .ref a.1), (1, .int (nI x)), (2, .int (nI n)), (3, .int (nI t)), (4, .int (fAbout (kL κ) (nI 11))), (5, .int (nI 1)), (7, .int (zs (fun k => fDay (kL κ) (nI k) (nI 3)) 40)), (8, .int (zs (fun k => fChild (kL κ) (nI k) (nI 2)) (i + 1))), (9, .int (zs (fun k => fChild (kL κ) (nI k) (nI 7)) (i + 1))), (10, .int (nI i)), (11, .int (nI d)), (12, .int (nI 3)), (13, .int (-1)), (14, .int (nI 1))]) (hcs : cells + 12 ≤ 1600 ∧ slots + 72 ≤ 9600)
    (kk : ∀ (σ₁ : zSt) (H₁ : Heap) (locs₁ : List Loc) (ls₁ : Array Slot), zTx σ₁ → core σ₁ = κ →  va_P G.1 vwCl (zw G a σ₁) H₁ → va_D A (zw G a σ₁) → va_S A s.heap H₁ locs₁ → lv_has ls₁ 21 [(0, .ref a.1), (1, .int (nI x)), (2, .int (nI n)), (3, .int (nI t)), (4, .int (fAbout (kL κ) (nI 11))), (5, .int (nI 1)), (7, .int (zs (fun k => fDay (kL κ) (nI k) (nI 3)) 40)), (8, .int (zs (fun k => fChild (kL κ) (nI k) (nI 2)) (i + 1))), (9, .int (zs (fun k => fChild (kL κ) (nI k) (nI 7)) (i + 1))), (10, .int (nI (i + 1)))] → W p l e rmL_holds s m args below meth c H₁ locs₁ (cells + 12) (slots + 72) Q (F0 m 276 ls₁ [])) :
    W p l e rmL_holds s m args below meth c H locs cells slots Q (F0 m 402 ls []) := by
  obtain ⟨hx, hb, hml, hr, hts, hown, hlocks, hE, hA, hA0, hN⟩ := id F
  have hok0 := yOk_of hk0 hg0 ht0
  have hn12 := hI.2.1
  have ht40 := hI.2.2.2.1
  refine lv_iload hx hb dL_holds_402 (lv_at hl 11 rfl) ?_
  refine lv_iconst (v := nI 2) hx hb dL_holds_404 (by decide) ?_
  refine lv_icmp_ne (tgt := 453) hx hb dL_holds_405 (by decide) (fun _ => ?_) (fun z => absurd z (by decide))
  refine lv_iload hx hb dL_holds_453 (lv_at hl 11 rfl) ?_
  refine lv_iconst (v := nI 3) hx hb dL_holds_455 (by decide) ?_
  refine lv_icmp_ne (tgt := 478) hx hb dL_holds_456 (by decide) (fun z => absurd (by decide) z) (fun _ => ?_)
  refine lv_iload hx hb dL_holds_459 (lv_at hl 13 rfl) ?_
  refine lv_if_eq (tgt := 543) hx hb dL_holds_461 (by decide) (fun z => absurd z (by decide)) (fun _ => ?_)
  refine lv_aload_n hx hb dL_holds_464 rfl (lv_at hl 0 rfl) ?_
  refine lv_bipush (v := nI 6) hx hb dL_holds_465 (by decide) ?_
  refine lv_iload hx hb dL_holds_467 (lv_at hl 9 rfl) ?_
  refine lv_iload hx hb dL_holds_469 (lv_at hl 10 rfl) ?_
  refine lv_iconst (v := nI 1) hx hb dL_holds_471 (by decide) ?_
  refine zk_call1 (va_runS (As := [.ref a.1, .int (nI 6), .int (nI i), .int (nI d), .int (nI 1)]) (rest := []) ⟨hx, hb, hml, hown, hts⟩ (c_C_6 l G hst a σ hok0 (nI i) (nI d) (nI 1) _) (va_cwS 5 hts gL_holds_L_call rfl rfl rfl (by decide +kernel) ⟨Nat.le_of_ble_eq_true rfl, Nat.le_of_ble_eq_true rfl⟩) (zk_preSH hN hE hA0 hS hP hD) rfl rfl hl.1 rfl (lv_room (Nat.le_of_ble_eq_true rfl)) dL_holds_472 ⟨by show cells + 4 ≤ 1600; omega, by show slots + 24 ≤ 9600; omega⟩) hP hD hS hA (fun r2 σ1 H locs hpost hP hD hS => ?_)
  refine zk_cs (cells + 4) (slots + 24) rfl rfl ?_
  have hP : va_P G.1 vwCl (zw G a σ1) H := hP
  have hD : va_D A (zw G a σ1) := hD
  obtain ⟨⟨er, ec⟩, ht0⟩ := hpost
  rw [hg0] at er ec
  have hg0 : core σ1 = κ := ec
  have hok0 := yOk_of hk0 hg0 ht0
  refine zk_top (er.trans ((hm_1 hI hi hd40).trans ((if_neg (by rw [hk]; decide)).trans (if_pos hk)))) ?_
  refine lv_if_ne (tgt := 543) hx hb dL_holds_475 (by decide) (fun z => absurd (by decide) z) (fun _ => ?_)
  refine lv_iload hx hb dL_holds_478 (lv_at hl 11 rfl) ?_
  refine lv_iconst (v := nI 2) hx hb dL_holds_480 (by decide) ?_
  refine lv_icmp_eq (tgt := 490) hx hb dL_holds_481 (by decide) (fun z => absurd z (by decide)) (fun _ => ?_)
  refine lv_iload hx hb dL_holds_484 (lv_at hl 12 rfl) ?_
  refine lv_iconst (v := -1) hx hb dL_holds_486 (by decide) ?_
  refine lv_icmp_ne (tgt := 543) hx hb dL_holds_487 (by decide) (fun z => absurd (by decide) z) (fun _ => ?_)
  refine lv_iload hx hb dL_holds_490 (lv_at hl 10 rfl) ?_
  refine lv_iload_n hx hb dL_holds_492 rfl (lv_at hl 3 rfl) ?_
  refine lv_icmp_ge (tgt := 505) hx hb dL_holds_493 (by decide) (fun h => absurd (zk_le (by omega) (by omega) h) (by omega)) (fun _ => ?_)
  refine lv_iload hx hb dL_holds_496 (lv_at hl 11 rfl) ?_
  refine lv_iconst (v := nI 1) hx hb dL_holds_498 (by decide) ?_
  refine lv_icmp_eq (tgt := 543) hx hb dL_holds_499 (by decide) (fun z => absurd z (by decide)) (fun _ => ?_)
  refine lv_goto (tgt := 511) hx hb dL_holds_502 (by decide) ?_
  refine lv_iload hx hb dL_holds_511 (lv_at hl 11 rfl) ?_
  refine lv_iconst (v := nI 5) hx hb dL_holds_513 (by decide) ?_
  refine lv_icmp_ne (tgt := 539) hx hb dL_holds_514 (by decide) (fun _ => ?_) (fun z => absurd z (by decide))
  refine lv_iconst (v := nI 1) hx hb dL_holds_539 (by decide) ?_
  refine lv_goto (tgt := 544) hx hb dL_holds_540 (by decide) ?_
  refine lv_istore (lv' := [(5, .int (nI 1)), (0, .ref a.1), (1, .int (nI x)), (2, .int (nI n)), (3, .int (nI t)), (4, .int (fAbout (kL κ) (nI 11))), (7, .int (zs (fun k => fDay (kL κ) (nI k) (nI 3)) 40)), (8, .int (zs (fun k => fChild (kL κ) (nI k) (nI 2)) (i + 1))), (9, .int (zs (fun k => fChild (kL κ) (nI k) (nI 7)) (i + 1))), (10, .int (nI i)), (11, .int (nI d)), (12, .int (nI 3)), (13, .int (-1)), (14, .int (nI 1))]) hx hb dL_holds_544 hl (by decide) rfl (fun ls hl => ?_)
  refine lv_iinc (v := nI (i + 1)) (lv' := [(10, .int (nI (i + 1))), (5, .int (nI 1)), (0, .ref a.1), (1, .int (nI x)), (2, .int (nI n)), (3, .int (nI t)), (4, .int (fAbout (kL κ) (nI 11))), (7, .int (zs (fun k => fDay (kL κ) (nI k) (nI 3)) 40)), (8, .int (zs (fun k => fChild (kL κ) (nI k) (nI 2)) (i + 1))), (9, .int (zs (fun k => fChild (kL κ) (nI k) (nI 7)) (i + 1))), (11, .int (nI d)), (12, .int (nI 3)), (13, .int (-1)), (14, .int (nI 1))]) hx hb dL_holds_546 hl (k := 9) rfl (zk_inc i 1) (by decide) rfl (fun ls hl => ?_)
  refine lv_goto (tgt := 276) hx hb dL_holds_549 (by decide) ?_
  refine W.widen (k := cells + 12) (n := slots + 72) (by omega) (by omega) ?_
  exact kk σ1 _ _ _ ht0 hg0 hP hD hS (lv_sub hl [2, 3, 4, 5, 6, 1, 7, 8, 9, 0] rfl)

set_option maxHeartbeats 4000000 in
set_option maxRecDepth 100000 in
theorem zh_k4 {p : Program} {l : Launch} {e : Env} {s : State} {m : MethodId} {args : Array Value} {below : List Frame} {meth : Method} {c : Code} {Q : State → Prop} {A : Nat → Prop} {G : zk_G} {H : Heap} {locs : List Loc} {cells slots : Nat} {ls : Array Slot} (hst : l.stackTraces = false) (F : zFx p s m meth c args cL_holds 21 (some .boolean) vL_holds A G) {a : zA} {σ : zSt} {κ : zCo}  (ht0 : zTx σ) (hg0 : core σ = κ) (hk0 : kOk κ) {x n t i d : Nat} (hx31 : x < 2 ^ 31) (hI : sInv (kL κ) n t) (hi : i < n) (hd40 : d < 40) (hk : kL κ 9 (i * 40 + d) = nI 4) (hdt : d < t) {v : Int32} (hP : va_P G.1 vwCl (zw G a σ) H) (hD : va_D A (zw G a σ)) (hS : va_S A s.heap H locs) (hl : lv_has ls 21 [(0, .ref a.1), (1, .int (nI x)), (2, .int (nI n)), (3, .int (nI t)), (4, .int (fAbout (kL κ) (nI 11))), (5, .int (nI 1)), (7, .int (zs (fun k => fDay (kL κ) (nI k) (nI 3)) 40)), (8, .int (zs (fun k => fChild (kL κ) (nI k) (nI 2)) (i + 1))), (9, .int (zs (fun k => fChild (kL κ) (nI k) (nI 7)) (i + 1))), (10, .int (nI i)), (11, .int (nI d)), (12, .int (nI 4)), (13, .int (-1)), (14, .int v)]) (hcs : cells + 12 ≤ 1600 ∧ slots + 72 ≤ 9600)
    (kk : ∀ (σ₁ : zSt) (H₁ : Heap) (locs₁ : List Loc) (ls₁ : Array Slot), zTx σ₁ → core σ₁ = κ →  va_P G.1 vwCl (zw G a σ₁) H₁ → va_D A (zw G a σ₁) → va_S A s.heap H₁ locs₁ → lv_has ls₁ 21 [(0, .ref a.1), (1, .int (nI x)), (2, .int (nI n)), (3, .int (nI t)), (4, .int (fAbout (kL κ) (nI 11))), (5, .int (nI 1)), (7, .int (zs (fun k => fDay (kL κ) (nI k) (nI 3)) 40)), (8, .int (zs (fun k => fChild (kL κ) (nI k) (nI 2)) (i + 1))), (9, .int (zs (fun k => fChild (kL κ) (nI k) (nI 7)) (i + 1))), (10, .int (nI (i + 1)))] → W p l e rmL_holds s m args below meth c H₁ locs₁ (cells + 12) (slots + 72) Q (F0 m 276 ls₁ [])) :
    W p l e rmL_holds s m args below meth c H locs cells slots Q (F0 m 402 ls []) := by
  obtain ⟨hx, hb, hml, hr, hts, hown, hlocks, hE, hA, hA0, hN⟩ := id F
  have hok0 := yOk_of hk0 hg0 ht0
  have hn12 := hI.2.1
  have ht40 := hI.2.2.2.1
  refine lv_iload hx hb dL_holds_402 (lv_at hl 11 rfl) ?_
  refine lv_iconst (v := nI 2) hx hb dL_holds_404 (by decide) ?_
  refine lv_icmp_ne (tgt := 453) hx hb dL_holds_405 (by decide) (fun _ => ?_) (fun z => absurd z (by decide))
  refine lv_iload hx hb dL_holds_453 (lv_at hl 11 rfl) ?_
  refine lv_iconst (v := nI 3) hx hb dL_holds_455 (by decide) ?_
  refine lv_icmp_ne (tgt := 478) hx hb dL_holds_456 (by decide) (fun _ => ?_) (fun z => absurd z (by decide))
  refine lv_iload hx hb dL_holds_478 (lv_at hl 11 rfl) ?_
  refine lv_iconst (v := nI 2) hx hb dL_holds_480 (by decide) ?_
  refine lv_icmp_eq (tgt := 490) hx hb dL_holds_481 (by decide) (fun z => absurd z (by decide)) (fun _ => ?_)
  refine lv_iload hx hb dL_holds_484 (lv_at hl 12 rfl) ?_
  refine lv_iconst (v := -1) hx hb dL_holds_486 (by decide) ?_
  refine lv_icmp_ne (tgt := 543) hx hb dL_holds_487 (by decide) (fun z => absurd (by decide) z) (fun _ => ?_)
  refine lv_iload hx hb dL_holds_490 (lv_at hl 10 rfl) ?_
  refine lv_iload_n hx hb dL_holds_492 rfl (lv_at hl 3 rfl) ?_
  refine lv_icmp_ge (tgt := 505) hx hb dL_holds_493 (by decide) (fun h => absurd (zk_le (by omega) (by omega) h) (by omega)) (fun _ => ?_)
  refine lv_iload hx hb dL_holds_496 (lv_at hl 11 rfl) ?_
  refine lv_iconst (v := nI 1) hx hb dL_holds_498 (by decide) ?_
  refine lv_icmp_eq (tgt := 543) hx hb dL_holds_499 (by decide) (fun z => absurd z (by decide)) (fun _ => ?_)
  refine lv_goto (tgt := 511) hx hb dL_holds_502 (by decide) ?_
  refine lv_iload hx hb dL_holds_511 (lv_at hl 11 rfl) ?_
  refine lv_iconst (v := nI 5) hx hb dL_holds_513 (by decide) ?_
  refine lv_icmp_ne (tgt := 539) hx hb dL_holds_514 (by decide) (fun _ => ?_) (fun z => absurd z (by decide))
  refine lv_iconst (v := nI 1) hx hb dL_holds_539 (by decide) ?_
  refine lv_goto (tgt := 544) hx hb dL_holds_540 (by decide) ?_
  refine lv_istore (lv' := [(5, .int (nI 1)), (0, .ref a.1), (1, .int (nI x)), (2, .int (nI n)), (3, .int (nI t)), (4, .int (fAbout (kL κ) (nI 11))), (7, .int (zs (fun k => fDay (kL κ) (nI k) (nI 3)) 40)), (8, .int (zs (fun k => fChild (kL κ) (nI k) (nI 2)) (i + 1))), (9, .int (zs (fun k => fChild (kL κ) (nI k) (nI 7)) (i + 1))), (10, .int (nI i)), (11, .int (nI d)), (12, .int (nI 4)), (13, .int (-1)), (14, .int v)]) hx hb dL_holds_544 hl (by decide) rfl (fun ls hl => ?_)
  refine lv_iinc (v := nI (i + 1)) (lv' := [(10, .int (nI (i + 1))), (5, .int (nI 1)), (0, .ref a.1), (1, .int (nI x)), (2, .int (nI n)), (3, .int (nI t)), (4, .int (fAbout (kL κ) (nI 11))), (7, .int (zs (fun k => fDay (kL κ) (nI k) (nI 3)) 40)), (8, .int (zs (fun k => fChild (kL κ) (nI k) (nI 2)) (i + 1))), (9, .int (zs (fun k => fChild (kL κ) (nI k) (nI 7)) (i + 1))), (11, .int (nI d)), (12, .int (nI 4)), (13, .int (-1)), (14, .int v)]) hx hb dL_holds_546 hl (k := 9) rfl (zk_inc i 1) (by decide) rfl (fun ls hl => ?_)
  refine lv_goto (tgt := 276) hx hb dL_holds_549 (by decide) ?_
  refine W.widen (k := cells + 12) (n := slots + 72) (by omega) (by omega) ?_
  exact kk σ _ _ _ ht0 hg0 hP hD hS (lv_sub hl [2, 3, 4, 5, 6, 1, 7, 8, 9, 0] rfl)

set_option maxHeartbeats 4000000 in
set_option maxRecDepth 100000 in
theorem zh_k5 {p : Program} {l : Launch} {e : Env} {s : State} {m : MethodId} {args : Array Value} {below : List Frame} {meth : Method} {c : Code} {Q : State → Prop} {A : Nat → Prop} {G : zk_G} {H : Heap} {locs : List Loc} {cells slots : Nat} {ls : Array Slot} (hst : l.stackTraces = false) (F : zFx p s m meth c args cL_holds 21 (some .boolean) vL_holds A G) {a : zA} {σ : zSt} {κ : zCo}  (ht0 : zTx σ) (hg0 : core σ = κ) (hk0 : kOk κ) {x n t i d : Nat} (hx31 : x < 2 ^ 31) (hI : sInv (kL κ) n t) (hi : i < n) (hd40 : d < 40) (hk : kL κ 9 (i * 40 + d) = nI 5) (hdt : d < t) (h5 : ¬ kL κ 6 d &&& kL κ 2 i = 0) {v : Int32} (hP : va_P G.1 vwCl (zw G a σ) H) (hD : va_D A (zw G a σ)) (hS : va_S A s.heap H locs) (hl : lv_has ls 21 [(0, .ref a.1), (1, .int (nI x)), (2, .int (nI n)), (3, .int (nI t)), (4, .int (fAbout (kL κ) (nI 11))), (5, .int (nI 1)), (7, .int (zs (fun k => fDay (kL κ) (nI k) (nI 3)) 40)), (8, .int (zs (fun k => fChild (kL κ) (nI k) (nI 2)) (i + 1))), (9, .int (zs (fun k => fChild (kL κ) (nI k) (nI 7)) (i + 1))), (10, .int (nI i)), (11, .int (nI d)), (12, .int (nI 5)), (13, .int (-1)), (14, .int v)]) (hcs : cells + 12 ≤ 1600 ∧ slots + 72 ≤ 9600)
    (kk : ∀ (σ₁ : zSt) (H₁ : Heap) (locs₁ : List Loc) (ls₁ : Array Slot), zTx σ₁ → core σ₁ = κ →  va_P G.1 vwCl (zw G a σ₁) H₁ → va_D A (zw G a σ₁) → va_S A s.heap H₁ locs₁ → lv_has ls₁ 21 [(0, .ref a.1), (1, .int (nI x)), (2, .int (nI n)), (3, .int (nI t)), (4, .int (fAbout (kL κ) (nI 11))), (5, .int (nI 1)), (7, .int (zs (fun k => fDay (kL κ) (nI k) (nI 3)) 40)), (8, .int (zs (fun k => fChild (kL κ) (nI k) (nI 2)) (i + 1))), (9, .int (zs (fun k => fChild (kL κ) (nI k) (nI 7)) (i + 1))), (10, .int (nI (i + 1)))] → W p l e rmL_holds s m args below meth c H₁ locs₁ (cells + 12) (slots + 72) Q (F0 m 276 ls₁ [])) :
    W p l e rmL_holds s m args below meth c H locs cells slots Q (F0 m 402 ls []) := by
  obtain ⟨hx, hb, hml, hr, hts, hown, hlocks, hE, hA, hA0, hN⟩ := id F
  have hok0 := yOk_of hk0 hg0 ht0
  have hn12 := hI.2.1
  have ht40 := hI.2.2.2.1
  refine lv_iload hx hb dL_holds_402 (lv_at hl 11 rfl) ?_
  refine lv_iconst (v := nI 2) hx hb dL_holds_404 (by decide) ?_
  refine lv_icmp_ne (tgt := 453) hx hb dL_holds_405 (by decide) (fun _ => ?_) (fun z => absurd z (by decide))
  refine lv_iload hx hb dL_holds_453 (lv_at hl 11 rfl) ?_
  refine lv_iconst (v := nI 3) hx hb dL_holds_455 (by decide) ?_
  refine lv_icmp_ne (tgt := 478) hx hb dL_holds_456 (by decide) (fun _ => ?_) (fun z => absurd z (by decide))
  refine lv_iload hx hb dL_holds_478 (lv_at hl 11 rfl) ?_
  refine lv_iconst (v := nI 2) hx hb dL_holds_480 (by decide) ?_
  refine lv_icmp_eq (tgt := 490) hx hb dL_holds_481 (by decide) (fun z => absurd z (by decide)) (fun _ => ?_)
  refine lv_iload hx hb dL_holds_484 (lv_at hl 12 rfl) ?_
  refine lv_iconst (v := -1) hx hb dL_holds_486 (by decide) ?_
  refine lv_icmp_ne (tgt := 543) hx hb dL_holds_487 (by decide) (fun z => absurd (by decide) z) (fun _ => ?_)
  refine lv_iload hx hb dL_holds_490 (lv_at hl 10 rfl) ?_
  refine lv_iload_n hx hb dL_holds_492 rfl (lv_at hl 3 rfl) ?_
  refine lv_icmp_ge (tgt := 505) hx hb dL_holds_493 (by decide) (fun h => absurd (zk_le (by omega) (by omega) h) (by omega)) (fun _ => ?_)
  refine lv_iload hx hb dL_holds_496 (lv_at hl 11 rfl) ?_
  refine lv_iconst (v := nI 1) hx hb dL_holds_498 (by decide) ?_
  refine lv_icmp_eq (tgt := 543) hx hb dL_holds_499 (by decide) (fun z => absurd z (by decide)) (fun _ => ?_)
  refine lv_goto (tgt := 511) hx hb dL_holds_502 (by decide) ?_
  refine lv_iload hx hb dL_holds_511 (lv_at hl 11 rfl) ?_
  refine lv_iconst (v := nI 5) hx hb dL_holds_513 (by decide) ?_
  refine lv_icmp_ne (tgt := 539) hx hb dL_holds_514 (by decide) (fun z => absurd (by decide) z) (fun _ => ?_)
  refine lv_aload_n hx hb dL_holds_517 rfl (lv_at hl 0 rfl) ?_
  refine lv_iconst (v := nI 5) hx hb dL_holds_518 (by decide) ?_
  refine lv_iload hx hb dL_holds_519 (lv_at hl 10 rfl) ?_
  refine lv_iconst (v := nI 0) hx hb dL_holds_521 (by decide) ?_
  refine lv_iconst (v := nI 0) hx hb dL_holds_522 (by decide) ?_
  refine zk_call1 (va_runS (As := [.ref a.1, .int (nI 5), .int (nI d), .int (nI 0), .int (nI 0)]) (rest := []) ⟨hx, hb, hml, hown, hts⟩ (c_C_5 l G hst a σ hok0 (nI d) (nI 0) (nI 0) _) (va_cwS 5 hts gL_holds_L_call rfl rfl rfl (by decide +kernel) ⟨Nat.le_of_ble_eq_true rfl, Nat.le_of_ble_eq_true rfl⟩) (zk_preSH hN hE hA0 hS hP hD) rfl rfl hl.1 rfl (lv_room (Nat.le_of_ble_eq_true rfl)) dL_holds_523 ⟨by show cells + 4 ≤ 1600; omega, by show slots + 24 ≤ 9600; omega⟩) hP hD hS hA (fun r2 σ1 H locs hpost hP hD hS => ?_)
  refine zk_cs (cells + 4) (slots + 24) rfl rfl ?_
  have hP : va_P G.1 vwCl (zw G a σ1) H := hP
  have hD : va_D A (zw G a σ1) := hD
  obtain ⟨⟨er, ec⟩, ht0⟩ := hpost
  rw [hg0] at er ec
  have hg0 : core σ1 = κ := ec
  have hok0 := yOk_of hk0 hg0 ht0
  refine zk_top (er.trans (hd_0 hd40)) ?_
  refine lv_aload_n hx hb dL_holds_526 rfl (lv_at hl 0 rfl) ?_
  refine lv_iconst (v := nI 3) hx hb dL_holds_527 (by decide) ?_
  refine lv_iload hx hb dL_holds_528 (lv_at hl 9 rfl) ?_
  refine lv_iconst (v := nI 1) hx hb dL_holds_530 (by decide) ?_
  refine lv_iconst (v := nI 0) hx hb dL_holds_531 (by decide) ?_
  refine zk_call1 (va_runS (As := [.ref a.1, .int (nI 3), .int (nI i), .int (nI 1), .int (nI 0)]) (rest := [.int (kL κ 6 d)]) ⟨hx, hb, hml, hown, hts⟩ (c_C_3 l G hst a σ1 hok0 (nI i) (nI 1) (nI 0) _) (va_cwS 5 hts gL_holds_L_call rfl rfl rfl (by decide +kernel) ⟨Nat.le_of_ble_eq_true rfl, Nat.le_of_ble_eq_true rfl⟩) (zk_preSH hN hE hA0 hS hP hD) rfl rfl hl.1 rfl (lv_room (Nat.le_of_ble_eq_true rfl)) dL_holds_532 ⟨by show cells + 4 + 4 ≤ 1600; omega, by show slots + 24 + 24 ≤ 9600; omega⟩) hP hD hS hA (fun r4 σ3 H locs hpost hP hD hS => ?_)
  refine zk_cs (cells + 4 + 4) (slots + 24 + 24) rfl rfl ?_
  have hP : va_P G.1 vwCl (zw G a σ3) H := hP
  have hD : va_D A (zw G a σ3) := hD
  obtain ⟨⟨er, ec⟩, ht0⟩ := hpost
  rw [hg0] at er ec
  have hg0 : core σ3 = κ := ec
  have hok0 := yOk_of hk0 hg0 ht0
  refine zk_top (er.trans (hc_1 hI hi)) ?_
  refine lv_iand hx hb dL_holds_535 ?_
  refine lv_if_eq (tgt := 543) hx hb dL_holds_536 (by decide) (fun h => absurd h h5) (fun _ => ?_)
  refine lv_iconst (v := nI 1) hx hb dL_holds_539 (by decide) ?_
  refine lv_goto (tgt := 544) hx hb dL_holds_540 (by decide) ?_
  refine lv_istore (lv' := [(5, .int (nI 1)), (0, .ref a.1), (1, .int (nI x)), (2, .int (nI n)), (3, .int (nI t)), (4, .int (fAbout (kL κ) (nI 11))), (7, .int (zs (fun k => fDay (kL κ) (nI k) (nI 3)) 40)), (8, .int (zs (fun k => fChild (kL κ) (nI k) (nI 2)) (i + 1))), (9, .int (zs (fun k => fChild (kL κ) (nI k) (nI 7)) (i + 1))), (10, .int (nI i)), (11, .int (nI d)), (12, .int (nI 5)), (13, .int (-1)), (14, .int v)]) hx hb dL_holds_544 hl (by decide) rfl (fun ls hl => ?_)
  refine lv_iinc (v := nI (i + 1)) (lv' := [(10, .int (nI (i + 1))), (5, .int (nI 1)), (0, .ref a.1), (1, .int (nI x)), (2, .int (nI n)), (3, .int (nI t)), (4, .int (fAbout (kL κ) (nI 11))), (7, .int (zs (fun k => fDay (kL κ) (nI k) (nI 3)) 40)), (8, .int (zs (fun k => fChild (kL κ) (nI k) (nI 2)) (i + 1))), (9, .int (zs (fun k => fChild (kL κ) (nI k) (nI 7)) (i + 1))), (11, .int (nI d)), (12, .int (nI 5)), (13, .int (-1)), (14, .int v)]) hx hb dL_holds_546 hl (k := 9) rfl (zk_inc i 1) (by decide) rfl (fun ls hl => ?_)
  refine lv_goto (tgt := 276) hx hb dL_holds_549 (by decide) ?_
  refine W.widen (k := cells + 12) (n := slots + 72) (by omega) (by omega) ?_
  exact kk σ3 _ _ _ ht0 hg0 hP hD hS (lv_sub hl [2, 3, 4, 5, 6, 1, 7, 8, 9, 0] rfl)

set_option maxHeartbeats 4000000 in
set_option maxRecDepth 100000 in
theorem zh_4 {p : Program} {l : Launch} {e : Env} {s : State} {m : MethodId} {args : Array Value} {below : List Frame} {meth : Method} {c : Code} {Q : State → Prop} {A : Nat → Prop} {G : zk_G} {H : Heap} {locs : List Loc} {cells slots : Nat} {ls : Array Slot} (hst : l.stackTraces = false) (F : zFx p s m meth c args cL_holds 21 (some .boolean) vL_holds A G) {a : zA} {σ : zSt} {κ : zCo}  (ht0 : zTx σ) (hg0 : core σ = κ) (hk0 : kOk κ) {x n t : Nat} (hx31 : x < 2 ^ 31) (hI : sInv (kL κ) n t) (hp5 : zs (fun k => fChild (kL κ) (nI k) (nI 2)) n = fAbout (kL κ) (nI 11)) (hp6 : zs (fun k => fChild (kL κ) (nI k) (nI 7)) n = zs (fun k => fDay (kL κ) (nI k) (nI 3)) 40) (hP : va_P G.1 vwCl (zw G a σ) H) (hD : va_D A (zw G a σ)) (hS : va_S A s.heap H locs) (hl : lv_has ls 21 [(0, .ref a.1), (1, .int (nI x)), (2, .int (nI n)), (3, .int (nI t)), (4, .int (fAbout (kL κ) (nI 11))), (5, .int (nI 1)), (7, .int (zs (fun k => fDay (kL κ) (nI k) (nI 3)) 40)), (8, .int (zs (fun k => fChild (kL κ) (nI k) (nI 2)) n)), (9, .int (zs (fun k => fChild (kL κ) (nI k) (nI 7)) n)), (10, .int (nI n))]) (hcs : cells + 0 ≤ 1600 ∧ slots + 0 ≤ 9600)
    (kk : ∀ (σ₁ : zSt) (H₁ : Heap) (locs₁ : List Loc) (ls₁ : Array Slot), zTx σ₁ → core σ₁ = κ →  va_P G.1 vwCl (zw G a σ₁) H₁ → va_D A (zw G a σ₁) → va_S A s.heap H₁ locs₁ → lv_has ls₁ 21 [(0, .ref a.1), (1, .int (nI x)), (2, .int (nI n)), (3, .int (nI t)), (4, .int (fAbout (kL κ) (nI 11))), (5, .int (nI 1)), (10, .int (nI 0)), (11, .int (nI 0)), (12, .int (nI 0))] → W p l e rmL_holds s m args below meth c H₁ locs₁ (cells + 0) (slots + 0) Q (F0 m 587 ls₁ [])) :
    W p l e rmL_holds s m args below meth c H locs cells slots Q (F0 m 552 ls []) := by
  obtain ⟨hx, hb, hml, hr, hts, hown, hlocks, hE, hA, hA0, hN⟩ := id F
  have hok0 := yOk_of hk0 hg0 ht0
  have hn12 := hI.2.1
  have ht40 := hI.2.2.2.1
  refine lv_iload hx hb dL_holds_552 (lv_at hl 5 rfl) ?_
  refine lv_if_eq (tgt := 575) hx hb dL_holds_554 (by decide) (fun z => absurd z (by decide)) (fun _ => ?_)
  refine lv_iload hx hb dL_holds_557 (lv_at hl 7 rfl) ?_
  refine lv_iload hx hb dL_holds_559 (lv_at hl 4 rfl) ?_
  refine lv_icmp_ne (tgt := 575) hx hb dL_holds_561 (by decide) (fun h => absurd hp5 h) (fun _ => ?_)
  refine lv_iload hx hb dL_holds_564 (lv_at hl 8 rfl) ?_
  refine lv_iload hx hb dL_holds_566 (lv_at hl 6 rfl) ?_
  refine lv_icmp_ne (tgt := 575) hx hb dL_holds_568 (by decide) (fun h => absurd hp6 h) (fun _ => ?_)
  refine lv_iconst (v := nI 1) hx hb dL_holds_571 (by decide) ?_
  refine lv_goto (tgt := 576) hx hb dL_holds_572 (by decide) ?_
  refine lv_istore (lv' := [(5, .int (nI 1)), (0, .ref a.1), (1, .int (nI x)), (2, .int (nI n)), (3, .int (nI t)), (4, .int (fAbout (kL κ) (nI 11))), (7, .int (zs (fun k => fDay (kL κ) (nI k) (nI 3)) 40)), (8, .int (zs (fun k => fChild (kL κ) (nI k) (nI 2)) n)), (9, .int (zs (fun k => fChild (kL κ) (nI k) (nI 7)) n)), (10, .int (nI n))]) hx hb dL_holds_576 hl (by decide) rfl (fun ls hl => ?_)
  refine lv_iconst (v := nI 0) hx hb dL_holds_578 (by decide) ?_
  refine lv_istore (lv' := [(10, .int (nI 0)), (5, .int (nI 1)), (0, .ref a.1), (1, .int (nI x)), (2, .int (nI n)), (3, .int (nI t)), (4, .int (fAbout (kL κ) (nI 11))), (7, .int (zs (fun k => fDay (kL κ) (nI k) (nI 3)) 40)), (8, .int (zs (fun k => fChild (kL κ) (nI k) (nI 2)) n)), (9, .int (zs (fun k => fChild (kL κ) (nI k) (nI 7)) n))]) hx hb dL_holds_579 hl (by decide) rfl (fun ls hl => ?_)
  refine lv_iconst (v := nI 0) hx hb dL_holds_581 (by decide) ?_
  refine lv_istore (lv' := [(11, .int (nI 0)), (10, .int (nI 0)), (5, .int (nI 1)), (0, .ref a.1), (1, .int (nI x)), (2, .int (nI n)), (3, .int (nI t)), (4, .int (fAbout (kL κ) (nI 11))), (7, .int (zs (fun k => fDay (kL κ) (nI k) (nI 3)) 40)), (8, .int (zs (fun k => fChild (kL κ) (nI k) (nI 2)) n)), (9, .int (zs (fun k => fChild (kL κ) (nI k) (nI 7)) n))]) hx hb dL_holds_582 hl (by decide) rfl (fun ls hl => ?_)
  refine lv_iconst (v := nI 0) hx hb dL_holds_584 (by decide) ?_
  refine lv_istore (lv' := [(12, .int (nI 0)), (11, .int (nI 0)), (10, .int (nI 0)), (5, .int (nI 1)), (0, .ref a.1), (1, .int (nI x)), (2, .int (nI n)), (3, .int (nI t)), (4, .int (fAbout (kL κ) (nI 11))), (7, .int (zs (fun k => fDay (kL κ) (nI k) (nI 3)) 40)), (8, .int (zs (fun k => fChild (kL κ) (nI k) (nI 2)) n)), (9, .int (zs (fun k => fChild (kL κ) (nI k) (nI 7)) n))]) hx hb dL_holds_585 hl (by decide) rfl (fun ls hl => ?_)
  refine W.widen (k := cells + 0) (n := slots + 0) (by omega) (by omega) ?_
  exact kk σ _ _ _ ht0 hg0 hP hD hS (lv_sub hl [4, 5, 6, 7, 8, 3, 2, 1, 0] rfl)

set_option maxHeartbeats 4000000 in
set_option maxRecDepth 100000 in
theorem zh_5 {p : Program} {l : Launch} {e : Env} {s : State} {m : MethodId} {args : Array Value} {below : List Frame} {meth : Method} {c : Code} {Q : State → Prop} {A : Nat → Prop} {G : zk_G} {H : Heap} {locs : List Loc} {cells slots : Nat} {ls : Array Slot} (hst : l.stackTraces = false) (F : zFx p s m meth c args cL_holds 21 (some .boolean) vL_holds A G) {a : zA} {σ : zSt} {κ : zCo}  (ht0 : zTx σ) (hg0 : core σ = κ) (hk0 : kOk κ) {x n t i : Nat} (hx31 : x < 2 ^ 31) (hI : sInv (kL κ) n t) (hi : i < 5) (hP : va_P G.1 vwCl (zw G a σ) H) (hD : va_D A (zw G a σ)) (hS : va_S A s.heap H locs) (hl : lv_has ls 21 [(0, .ref a.1), (1, .int (nI x)), (2, .int (nI n)), (3, .int (nI t)), (4, .int (fAbout (kL κ) (nI 11))), (5, .int (nI 1)), (10, .int (zs (fun k => fFamily (kL κ) (nI k) (nI 3)) i)), (11, .int (zs (fun k => fFamily (kL κ) (nI k) (nI 2)) i)), (12, .int (nI i))]) (hcs : cells + 8 ≤ 1600 ∧ slots + 48 ≤ 9600)
    (kk : ∀ (σ₁ : zSt) (H₁ : Heap) (locs₁ : List Loc) (ls₁ : Array Slot), zTx σ₁ → core σ₁ = κ →  va_P G.1 vwCl (zw G a σ₁) H₁ → va_D A (zw G a σ₁) → va_S A s.heap H₁ locs₁ → lv_has ls₁ 21 [(0, .ref a.1), (1, .int (nI x)), (2, .int (nI n)), (3, .int (nI t)), (4, .int (fAbout (kL κ) (nI 11))), (5, .int (nI 1)), (10, .int (zs (fun k => fFamily (kL κ) (nI k) (nI 3)) (i + 1))), (11, .int (zs (fun k => fFamily (kL κ) (nI k) (nI 2)) (i + 1))), (12, .int (nI (i + 1)))] → W p l e rmL_holds s m args below meth c H₁ locs₁ (cells + 8) (slots + 48) Q (F0 m 587 ls₁ [])) :
    W p l e rmL_holds s m args below meth c H locs cells slots Q (F0 m 587 ls []) := by
  obtain ⟨hx, hb, hml, hr, hts, hown, hlocks, hE, hA, hA0, hN⟩ := id F
  have hok0 := yOk_of hk0 hg0 ht0
  have hn12 := hI.2.1
  have ht40 := hI.2.2.2.1
  refine lv_iload hx hb dL_holds_587 (lv_at hl 8 rfl) ?_
  refine lv_iconst (v := nI 5) hx hb dL_holds_589 (by decide) ?_
  refine lv_icmp_ge (tgt := 627) hx hb dL_holds_590 (by decide) (fun h => absurd (zk_le (by omega) (by omega) h) (by omega)) (fun _ => ?_)
  refine lv_iload hx hb dL_holds_593 (lv_at hl 6 rfl) ?_
  refine lv_aload_n hx hb dL_holds_595 rfl (lv_at hl 0 rfl) ?_
  refine lv_iconst (v := nI 4) hx hb dL_holds_596 (by decide) ?_
  refine lv_iload hx hb dL_holds_597 (lv_at hl 8 rfl) ?_
  refine lv_iconst (v := nI 3) hx hb dL_holds_599 (by decide) ?_
  refine lv_iconst (v := nI 0) hx hb dL_holds_600 (by decide) ?_
  refine zk_call1 (va_runS (As := [.ref a.1, .int (nI 4), .int (nI i), .int (nI 3), .int (nI 0)]) (rest := [.int (zs (fun k => fFamily (kL κ) (nI k) (nI 3)) i)]) ⟨hx, hb, hml, hown, hts⟩ (c_C_4 l G hst a σ hok0 (nI i) (nI 3) (nI 0) _) (va_cwS 5 hts gL_holds_L_call rfl rfl rfl (by decide +kernel) ⟨Nat.le_of_ble_eq_true rfl, Nat.le_of_ble_eq_true rfl⟩) (zk_preSH hN hE hA0 hS hP hD) rfl rfl hl.1 rfl (lv_room (Nat.le_of_ble_eq_true rfl)) dL_holds_601 ⟨by show cells + 4 ≤ 1600; omega, by show slots + 24 ≤ 9600; omega⟩) hP hD hS hA (fun r2 σ1 H locs hpost hP hD hS => ?_)
  refine zk_cs (cells + 4) (slots + 24) rfl rfl ?_
  have hP : va_P G.1 vwCl (zw G a σ1) H := hP
  have hD : va_D A (zw G a σ1) := hD
  obtain ⟨⟨er, ec⟩, ht0⟩ := hpost
  rw [hg0] at er ec
  have hg0 : core σ1 = κ := ec
  have hok0 := yOk_of hk0 hg0 ht0
  refine zk_top (er) ?_
  refine lv_iadd hx hb dL_holds_604 ?_
  refine zk_top (show (zs (fun k => fFamily (kL κ) (nI k) (nI 3)) i) + (fFamily (kL κ) (nI i) (nI 3)) = zs (fun k => fFamily (kL κ) (nI k) (nI 3)) (i + 1) from rfl) ?_
  refine lv_istore (lv' := [(10, .int (zs (fun k => fFamily (kL κ) (nI k) (nI 3)) (i + 1))), (0, .ref a.1), (1, .int (nI x)), (2, .int (nI n)), (3, .int (nI t)), (4, .int (fAbout (kL κ) (nI 11))), (5, .int (nI 1)), (11, .int (zs (fun k => fFamily (kL κ) (nI k) (nI 2)) i)), (12, .int (nI i))]) hx hb dL_holds_605 hl (by decide) rfl (fun ls hl => ?_)
  refine lv_iload hx hb dL_holds_607 (lv_at hl 7 rfl) ?_
  refine lv_aload_n hx hb dL_holds_609 rfl (lv_at hl 1 rfl) ?_
  refine lv_iconst (v := nI 4) hx hb dL_holds_610 (by decide) ?_
  refine lv_iload hx hb dL_holds_611 (lv_at hl 8 rfl) ?_
  refine lv_iconst (v := nI 2) hx hb dL_holds_613 (by decide) ?_
  refine lv_iconst (v := nI 0) hx hb dL_holds_614 (by decide) ?_
  refine zk_call1 (va_runS (As := [.ref a.1, .int (nI 4), .int (nI i), .int (nI 2), .int (nI 0)]) (rest := [.int (zs (fun k => fFamily (kL κ) (nI k) (nI 2)) i)]) ⟨hx, hb, hml, hown, hts⟩ (c_C_4 l G hst a σ1 hok0 (nI i) (nI 2) (nI 0) _) (va_cwS 5 hts gL_holds_L_call rfl rfl rfl (by decide +kernel) ⟨Nat.le_of_ble_eq_true rfl, Nat.le_of_ble_eq_true rfl⟩) (zk_preSH hN hE hA0 hS hP hD) rfl rfl hl.1 rfl (lv_room (Nat.le_of_ble_eq_true rfl)) dL_holds_615 ⟨by show cells + 4 + 4 ≤ 1600; omega, by show slots + 24 + 24 ≤ 9600; omega⟩) hP hD hS hA (fun r4 σ3 H locs hpost hP hD hS => ?_)
  refine zk_cs (cells + 4 + 4) (slots + 24 + 24) rfl rfl ?_
  have hP : va_P G.1 vwCl (zw G a σ3) H := hP
  have hD : va_D A (zw G a σ3) := hD
  obtain ⟨⟨er, ec⟩, ht0⟩ := hpost
  rw [hg0] at er ec
  have hg0 : core σ3 = κ := ec
  have hok0 := yOk_of hk0 hg0 ht0
  refine zk_top (er) ?_
  refine lv_iadd hx hb dL_holds_618 ?_
  refine zk_top (show (zs (fun k => fFamily (kL κ) (nI k) (nI 2)) i) + (fFamily (kL κ) (nI i) (nI 2)) = zs (fun k => fFamily (kL κ) (nI k) (nI 2)) (i + 1) from rfl) ?_
  refine lv_istore (lv' := [(11, .int (zs (fun k => fFamily (kL κ) (nI k) (nI 2)) (i + 1))), (10, .int (zs (fun k => fFamily (kL κ) (nI k) (nI 3)) (i + 1))), (0, .ref a.1), (1, .int (nI x)), (2, .int (nI n)), (3, .int (nI t)), (4, .int (fAbout (kL κ) (nI 11))), (5, .int (nI 1)), (12, .int (nI i))]) hx hb dL_holds_619 hl (by decide) rfl (fun ls hl => ?_)
  refine lv_iinc (v := nI (i + 1)) (lv' := [(12, .int (nI (i + 1))), (11, .int (zs (fun k => fFamily (kL κ) (nI k) (nI 2)) (i + 1))), (10, .int (zs (fun k => fFamily (kL κ) (nI k) (nI 3)) (i + 1))), (0, .ref a.1), (1, .int (nI x)), (2, .int (nI n)), (3, .int (nI t)), (4, .int (fAbout (kL κ) (nI 11))), (5, .int (nI 1))]) hx hb dL_holds_621 hl (k := 8) rfl (zk_inc i 1) (by decide) rfl (fun ls hl => ?_)
  refine lv_goto (tgt := 587) hx hb dL_holds_624 (by decide) ?_
  refine W.widen (k := cells + 8) (n := slots + 48) (by omega) (by omega) ?_
  exact kk σ3 _ _ _ ht0 hg0 hP hD hS (lv_sub hl [3, 4, 5, 6, 7, 8, 2, 1, 0] rfl)

set_option maxHeartbeats 4000000 in
set_option maxRecDepth 100000 in
theorem zh_6 {p : Program} {l : Launch} {e : Env} {s : State} {m : MethodId} {args : Array Value} {below : List Frame} {meth : Method} {c : Code} {Q : State → Prop} {A : Nat → Prop} {G : zk_G} {H : Heap} {locs : List Loc} {cells slots : Nat} {ls : Array Slot} (hst : l.stackTraces = false) (F : zFx p s m meth c args cL_holds 21 (some .boolean) vL_holds A G) {a : zA} {σ : zSt} {κ : zCo}  (ht0 : zTx σ) (hg0 : core σ = κ) (hk0 : kOk κ) {x n t : Nat} (hx31 : x < 2 ^ 31) (hI : sInv (kL κ) n t) (hp7 : zs (fun k => fFamily (kL κ) (nI k) (nI 2)) 5 = fAbout (kL κ) (nI 11)) (hp8 : ¬ zs (fun k => fFamily (kL κ) (nI k) (nI 3)) 5 < 0) (hP : va_P G.1 vwCl (zw G a σ) H) (hD : va_D A (zw G a σ)) (hS : va_S A s.heap H locs) (hl : lv_has ls 21 [(0, .ref a.1), (1, .int (nI x)), (2, .int (nI n)), (3, .int (nI t)), (4, .int (fAbout (kL κ) (nI 11))), (5, .int (nI 1)), (10, .int (zs (fun k => fFamily (kL κ) (nI k) (nI 3)) 5)), (11, .int (zs (fun k => fFamily (kL κ) (nI k) (nI 2)) 5)), (12, .int (nI 5))]) (hcs : cells + 0 ≤ 1600 ∧ slots + 0 ≤ 9600)
    (kk : ∀ (σ₁ : zSt) (H₁ : Heap) (locs₁ : List Loc) (ls₁ : Array Slot), zTx σ₁ → core σ₁ = κ →  va_P G.1 vwCl (zw G a σ₁) H₁ → va_D A (zw G a σ₁) → va_S A s.heap H₁ locs₁ → lv_has ls₁ 21 [(0, .ref a.1), (1, .int (nI x)), (2, .int (nI n)), (3, .int (nI t)), (4, .int (fAbout (kL κ) (nI 11))), (5, .int (nI 1))] → W p l e rmL_holds s m args below meth c H₁ locs₁ (cells + 0) (slots + 0) Q (F0 m 651 ls₁ [])) :
    W p l e rmL_holds s m args below meth c H locs cells slots Q (F0 m 627 ls []) := by
  obtain ⟨hx, hb, hml, hr, hts, hown, hlocks, hE, hA, hA0, hN⟩ := id F
  have hok0 := yOk_of hk0 hg0 ht0
  have hn12 := hI.2.1
  have ht40 := hI.2.2.2.1
  refine lv_iload hx hb dL_holds_627 (lv_at hl 5 rfl) ?_
  refine lv_if_eq (tgt := 648) hx hb dL_holds_629 (by decide) (fun z => absurd z (by decide)) (fun _ => ?_)
  refine lv_iload hx hb dL_holds_632 (lv_at hl 7 rfl) ?_
  refine lv_iload hx hb dL_holds_634 (lv_at hl 4 rfl) ?_
  refine lv_icmp_ne (tgt := 648) hx hb dL_holds_636 (by decide) (fun h => absurd hp7 h) (fun _ => ?_)
  refine lv_iload hx hb dL_holds_639 (lv_at hl 6 rfl) ?_
  refine lv_if_lt (tgt := 648) hx hb dL_holds_641 (by decide) (fun h => absurd h hp8) (fun _ => ?_)
  refine lv_iconst (v := nI 1) hx hb dL_holds_644 (by decide) ?_
  refine lv_goto (tgt := 649) hx hb dL_holds_645 (by decide) ?_
  refine lv_istore (lv' := [(5, .int (nI 1)), (0, .ref a.1), (1, .int (nI x)), (2, .int (nI n)), (3, .int (nI t)), (4, .int (fAbout (kL κ) (nI 11))), (10, .int (zs (fun k => fFamily (kL κ) (nI k) (nI 3)) 5)), (11, .int (zs (fun k => fFamily (kL κ) (nI k) (nI 2)) 5)), (12, .int (nI 5))]) hx hb dL_holds_649 hl (by decide) rfl (fun ls hl => ?_)
  refine W.widen (k := cells + 0) (n := slots + 0) (by omega) (by omega) ?_
  exact kk σ _ _ _ ht0 hg0 hP hD hS (lv_sub hl [1, 2, 3, 4, 5, 0] rfl)

set_option maxHeartbeats 4000000 in
set_option maxRecDepth 100000 in
theorem zh_7 {p : Program} {l : Launch} {e : Env} {s : State} {m : MethodId} {args : Array Value} {below : List Frame} {meth : Method} {c : Code} {Q : State → Prop} {A : Nat → Prop} {G : zk_G} {H : Heap} {locs : List Loc} {cells slots : Nat} {ls : Array Slot} (hst : l.stackTraces = false) (F : zFx p s m meth c args cL_holds 21 (some .boolean) vL_holds A G) {a : zA} {σ : zSt} {κ : zCo}  (ht0 : zTx σ) (hg0 : core σ = κ) (hk0 : kOk κ) {x n t : Nat} (hx31 : x < 2 ^ 31) (hI : sInv (kL κ) n t) (hn0 : 0 < n) (hP : va_P G.1 vwCl (zw G a σ) H) (hD : va_D A (zw G a σ)) (hS : va_S A s.heap H locs) (hl : lv_has ls 21 [(0, .ref a.1), (1, .int (nI x)), (2, .int (nI n)), (3, .int (nI t)), (4, .int (fAbout (kL κ) (nI 11))), (5, .int (nI 1))]) (hcs : cells + 0 ≤ 1600 ∧ slots + 0 ≤ 9600)
    (kk : ∀ (σ₁ : zSt) (H₁ : Heap) (locs₁ : List Loc) (ls₁ : Array Slot), zTx σ₁ → core σ₁ = κ →  va_P G.1 vwCl (zw G a σ₁) H₁ → va_D A (zw G a σ₁) → va_S A s.heap H₁ locs₁ → lv_has ls₁ 21 [(0, .ref a.1), (1, .int (nI x)), (2, .int (nI n)), (3, .int (nI t)), (4, .int (fAbout (kL κ) (nI 11))), (5, .int (nI 1)), (12, .int (nI (x % n))), (13, .int (nI (x / 16 % 40))), (14, .int (zto x))] → W p l e rmL_holds s m args below meth c H₁ locs₁ (cells + 0) (slots + 0) Q (F0 m 704 ls₁ [])) :
    W p l e rmL_holds s m args below meth c H locs cells slots Q (F0 m 655 ls []) := by
  obtain ⟨hx, hb, hml, hr, hts, hown, hlocks, hE, hA, hA0, hN⟩ := id F
  have hok0 := yOk_of hk0 hg0 ht0
  have hn12 := hI.2.1
  have ht40 := hI.2.2.2.1
  refine lv_iload hx hb dL_holds_655 (lv_at hl 5 rfl) ?_
  refine lv_if_eq (tgt := 982) hx hb dL_holds_657 (by decide) (fun z => absurd z (by decide)) (fun _ => ?_)
  refine lv_iload_n hx hb dL_holds_660 rfl (lv_at hl 1 rfl) ?_
  refine lv_iload_n hx hb dL_holds_661 rfl (lv_at hl 2 rfl) ?_
  refine zk_iremN hx hb dL_holds_662 (by omega) (by omega) (by omega) ?_
  refine lv_istore (lv' := [(12, .int (nI (x % n))), (0, .ref a.1), (1, .int (nI x)), (2, .int (nI n)), (3, .int (nI t)), (4, .int (fAbout (kL κ) (nI 11))), (5, .int (nI 1))]) hx hb dL_holds_663 hl (by decide) rfl (fun ls hl => ?_)
  refine lv_iload_n hx hb dL_holds_665 rfl (lv_at hl 2 rfl) ?_
  refine lv_bipush (v := nI 16) hx hb dL_holds_666 (by decide) ?_
  refine zk_idivN hx hb dL_holds_668 (by omega) (by omega) (by omega) ?_
  refine lv_bipush (v := nI 40) hx hb dL_holds_669 (by decide) ?_
  refine zk_iremN hx hb dL_holds_671 (by omega) (by omega) (by omega) ?_
  refine lv_istore (lv' := [(13, .int (nI ((x / 16) % 40))), (12, .int (nI (x % n))), (0, .ref a.1), (1, .int (nI x)), (2, .int (nI n)), (3, .int (nI t)), (4, .int (fAbout (kL κ) (nI 11))), (5, .int (nI 1))]) hx hb dL_holds_672 hl (by decide) rfl (fun ls hl => ?_)
  refine lv_iload_n hx hb dL_holds_674 rfl (lv_at hl 3 rfl) ?_
  refine lv_sipush (v := nI 1024) hx hb dL_holds_675 (by decide) ?_
  refine zk_idivN hx hb dL_holds_678 (by omega) (by omega) (by omega) ?_
  refine lv_iconst (v := nI 3) hx hb dL_holds_679 (by decide) ?_
  refine zk_iremN hx hb dL_holds_680 (by omega) (by omega) (by omega) ?_
  refine lv_if_ne (tgt := 688) hx hb dL_holds_681 (by decide) (fun h681_0 => ?_) (fun h681_0 => ?_)
  · have h681_0 := zk_ne0 (by omega) h681_0
    refine lv_iload hx hb dL_holds_688 (lv_at hl 0 rfl) ?_
    refine lv_iload_n hx hb dL_holds_690 rfl (lv_at hl 3 rfl) ?_
    refine lv_sipush (v := nI 4096) hx hb dL_holds_691 (by decide) ?_
    refine zk_idivN hx hb dL_holds_694 (by omega) (by omega) (by omega) ?_
    refine lv_bipush (v := nI 40) hx hb dL_holds_695 (by decide) ?_
    refine lv_iload hx hb dL_holds_697 (lv_at hl 0 rfl) ?_
    refine zk_isubN hx hb dL_holds_699 (by omega) ?_
    refine zk_iremN hx hb dL_holds_700 (by omega) (by omega) (by omega) ?_
    refine zk_iaddN hx hb dL_holds_701 ?_
    refine zk_top (zto_1 (by omega)) ?_
    refine lv_istore (lv' := [(14, .int (zto x)), (13, .int (nI ((x / 16) % 40))), (12, .int (nI (x % n))), (0, .ref a.1), (1, .int (nI x)), (2, .int (nI n)), (3, .int (nI t)), (4, .int (fAbout (kL κ) (nI 11))), (5, .int (nI 1))]) hx hb dL_holds_702 hl (by decide) rfl (fun ls hl => ?_)
    refine W.widen (k := cells + 0) (n := slots + 0) (by omega) (by omega) ?_
    exact kk σ _ _ _ ht0 hg0 hP hD hS (lv_sub hl [3, 4, 5, 6, 7, 8, 2, 1, 0] rfl)
  · have h681_0 := zk_eq0 (by omega) h681_0
    refine lv_iconst (v := -1) hx hb dL_holds_684 (by decide) ?_
    refine lv_goto (tgt := 702) hx hb dL_holds_685 (by decide) ?_
    refine zk_top (zto_0 (by omega)) ?_
    refine lv_istore (lv' := [(14, .int (zto x)), (13, .int (nI ((x / 16) % 40))), (12, .int (nI (x % n))), (0, .ref a.1), (1, .int (nI x)), (2, .int (nI n)), (3, .int (nI t)), (4, .int (fAbout (kL κ) (nI 11))), (5, .int (nI 1))]) hx hb dL_holds_702 hl (by decide) rfl (fun ls hl => ?_)
    refine W.widen (k := cells + 0) (n := slots + 0) (by omega) (by omega) ?_
    exact kk σ _ _ _ ht0 hg0 hP hD hS (lv_sub hl [3, 4, 5, 6, 7, 8, 2, 1, 0] rfl)

set_option maxHeartbeats 4000000 in
set_option maxRecDepth 100000 in
theorem zh_8 {p : Program} {l : Launch} {e : Env} {s : State} {m : MethodId} {args : Array Value} {below : List Frame} {meth : Method} {c : Code} {Q : State → Prop} {A : Nat → Prop} {G : zk_G} {H : Heap} {locs : List Loc} {cells slots : Nat} {ls : Array Slot} (hst : l.stackTraces = false) (F : zFx p s m meth c args cL_holds 21 (some .boolean) vL_holds A G) {a : zA} {σ : zSt} {κ : zCo}  (ht0 : zTx σ) (hg0 : core σ = κ) (hk0 : kOk κ) {x n t cc fr bj : Nat} (hx31 : x < 2 ^ 31) (hI : sInv (kL κ) n t) {to : Int32} (hbest : (sBest (kL κ) (zN (kL κ)) (zT (kL κ)) (zN (kL κ))).1 = nI bj) (hP : va_P G.1 vwCl (zw G a σ) H) (hD : va_D A (zw G a σ)) (hS : va_S A s.heap H locs) (hl : lv_has ls 21 [(0, .ref a.1), (1, .int (nI x)), (2, .int (nI n)), (3, .int (nI t)), (4, .int (fAbout (kL κ) (nI 11))), (5, .int (nI 1)), (12, .int (nI cc)), (13, .int (nI fr)), (14, .int to)]) (hcs : cells + 24 ≤ 1600 ∧ slots + 144 ≤ 9600)
    (kk : ∀ (σ₁ : zSt) (H₁ : Heap) (locs₁ : List Loc) (ls₁ : Array Slot), zTx σ₁ → core σ₁ = κ →  va_P G.1 vwCl (zw G a σ₁) H₁ → va_D A (zw G a σ₁) → va_S A s.heap H₁ locs₁ → lv_has ls₁ 21 [(0, .ref a.1), (1, .int (nI x)), (2, .int (nI n)), (3, .int (nI t)), (4, .int (fAbout (kL κ) (nI 11))), (5, .int (nI 1)), (12, .int (nI cc)), (13, .int (nI fr)), (14, .int to), (15, .int (fIfEnt (kL κ) (nI cc) (nI fr) to)), (16, .int (fRefused (kL κ) (nI cc))), (17, .int (fIfPrice (kL κ) (fSetting (kL κ) (nI 0)))), (18, .int (fAbout (kL κ) (nI 3))), (19, .int (fChild (kL κ) (nI cc) (nI 8))), (20, .int (nI bj))] → W p l e rmL_holds s m args below meth c H₁ locs₁ (cells + 24) (slots + 144) Q (F0 m 777 ls₁ [])) :
    W p l e rmL_holds s m args below meth c H locs cells slots Q (F0 m 704 ls []) := by
  obtain ⟨hx, hb, hml, hr, hts, hown, hlocks, hE, hA, hA0, hN⟩ := id F
  have hok0 := yOk_of hk0 hg0 ht0
  have hn12 := hI.2.1
  have ht40 := hI.2.2.2.1
  refine lv_aload_n hx hb dL_holds_704 rfl (lv_at hl 0 rfl) ?_
  refine lv_bipush (v := nI 19) hx hb dL_holds_705 (by decide) ?_
  refine lv_iload hx hb dL_holds_707 (lv_at hl 6 rfl) ?_
  refine lv_iload hx hb dL_holds_709 (lv_at hl 7 rfl) ?_
  refine lv_iload hx hb dL_holds_711 (lv_at hl 8 rfl) ?_
  refine zk_call1 (va_runS (As := [.ref a.1, .int (nI 19), .int (nI cc), .int (nI fr), .int to]) (rest := []) ⟨hx, hb, hml, hown, hts⟩ (c_C_19 l G hst a σ hok0 (nI cc) (nI fr) to _) (va_cwS 5 hts gL_holds_L_call rfl rfl rfl (by decide +kernel) ⟨Nat.le_of_ble_eq_true rfl, Nat.le_of_ble_eq_true rfl⟩) (zk_preSH hN hE hA0 hS hP hD) rfl rfl hl.1 rfl (lv_room (Nat.le_of_ble_eq_true rfl)) dL_holds_713 ⟨by show cells + 4 ≤ 1600; omega, by show slots + 24 ≤ 9600; omega⟩) hP hD hS hA (fun r2 σ1 H locs hpost hP hD hS => ?_)
  refine zk_cs (cells + 4) (slots + 24) rfl rfl ?_
  have hP : va_P G.1 vwCl (zw G a σ1) H := hP
  have hD : va_D A (zw G a σ1) := hD
  obtain ⟨⟨er, ec⟩, ht0⟩ := hpost
  rw [hg0] at er ec
  have hg0 : core σ1 = κ := ec
  have hok0 := yOk_of hk0 hg0 ht0
  refine zk_top (er) ?_
  refine lv_istore (lv' := [(15, .int (fIfEnt (kL κ) (nI cc) (nI fr) to)), (0, .ref a.1), (1, .int (nI x)), (2, .int (nI n)), (3, .int (nI t)), (4, .int (fAbout (kL κ) (nI 11))), (5, .int (nI 1)), (12, .int (nI cc)), (13, .int (nI fr)), (14, .int to)]) hx hb dL_holds_716 hl (by decide) rfl (fun ls hl => ?_)
  refine lv_aload_n hx hb dL_holds_718 rfl (lv_at hl 1 rfl) ?_
  refine lv_bipush (v := nI 17) hx hb dL_holds_719 (by decide) ?_
  refine lv_iload hx hb dL_holds_721 (lv_at hl 7 rfl) ?_
  refine lv_iconst (v := nI 0) hx hb dL_holds_723 (by decide) ?_
  refine lv_iconst (v := nI 0) hx hb dL_holds_724 (by decide) ?_
  refine zk_call1 (va_runS (As := [.ref a.1, .int (nI 17), .int (nI cc), .int (nI 0), .int (nI 0)]) (rest := []) ⟨hx, hb, hml, hown, hts⟩ (c_C_17 l G hst a σ1 hok0 (nI cc) (nI 0) (nI 0) _) (va_cwS 5 hts gL_holds_L_call rfl rfl rfl (by decide +kernel) ⟨Nat.le_of_ble_eq_true rfl, Nat.le_of_ble_eq_true rfl⟩) (zk_preSH hN hE hA0 hS hP hD) rfl rfl hl.1 rfl (lv_room (Nat.le_of_ble_eq_true rfl)) dL_holds_725 ⟨by show cells + 4 + 4 ≤ 1600; omega, by show slots + 24 + 24 ≤ 9600; omega⟩) hP hD hS hA (fun r4 σ3 H locs hpost hP hD hS => ?_)
  refine zk_cs (cells + 4 + 4) (slots + 24 + 24) rfl rfl ?_
  have hP : va_P G.1 vwCl (zw G a σ3) H := hP
  have hD : va_D A (zw G a σ3) := hD
  obtain ⟨⟨er, ec⟩, ht0⟩ := hpost
  rw [hg0] at er ec
  have hg0 : core σ3 = κ := ec
  have hok0 := yOk_of hk0 hg0 ht0
  refine zk_top (er) ?_
  refine lv_istore (lv' := [(16, .int (fRefused (kL κ) (nI cc))), (15, .int (fIfEnt (kL κ) (nI cc) (nI fr) to)), (0, .ref a.1), (1, .int (nI x)), (2, .int (nI n)), (3, .int (nI t)), (4, .int (fAbout (kL κ) (nI 11))), (5, .int (nI 1)), (12, .int (nI cc)), (13, .int (nI fr)), (14, .int to)]) hx hb dL_holds_728 hl (by decide) rfl (fun ls hl => ?_)
  refine lv_aload_n hx hb dL_holds_730 rfl (lv_at hl 2 rfl) ?_
  refine lv_bipush (v := nI 20) hx hb dL_holds_731 (by decide) ?_
  refine lv_aload_n hx hb dL_holds_733 rfl (lv_at hl 2 rfl) ?_
  refine lv_bipush (v := nI 7) hx hb dL_holds_734 (by decide) ?_
  refine lv_iconst (v := nI 0) hx hb dL_holds_736 (by decide) ?_
  refine lv_iconst (v := nI 0) hx hb dL_holds_737 (by decide) ?_
  refine lv_iconst (v := nI 0) hx hb dL_holds_738 (by decide) ?_
  refine zk_call1 (va_runS (As := [.ref a.1, .int (nI 7), .int (nI 0), .int (nI 0), .int (nI 0)]) (rest := [.int (nI 20), .ref a.1]) ⟨hx, hb, hml, hown, hts⟩ (c_C_7 l G hst a σ3 hok0 (nI 0) (nI 0) (nI 0) _) (va_cwS 5 hts gL_holds_L_call rfl rfl rfl (by decide +kernel) ⟨Nat.le_of_ble_eq_true rfl, Nat.le_of_ble_eq_true rfl⟩) (zk_preSH hN hE hA0 hS hP hD) rfl rfl hl.1 rfl (lv_room (Nat.le_of_ble_eq_true rfl)) dL_holds_739 ⟨by show cells + 4 + 4 + 4 ≤ 1600; omega, by show slots + 24 + 24 + 24 ≤ 9600; omega⟩) hP hD hS hA (fun r6 σ5 H locs hpost hP hD hS => ?_)
  refine zk_cs (cells + 4 + 4 + 4) (slots + 24 + 24 + 24) rfl rfl ?_
  have hP : va_P G.1 vwCl (zw G a σ5) H := hP
  have hD : va_D A (zw G a σ5) := hD
  obtain ⟨⟨er, ec⟩, ht0⟩ := hpost
  rw [hg0] at er ec
  have hg0 : core σ5 = κ := ec
  have hok0 := yOk_of hk0 hg0 ht0
  refine zk_top (er) ?_
  refine lv_iconst (v := nI 0) hx hb dL_holds_742 (by decide) ?_
  refine lv_iconst (v := nI 0) hx hb dL_holds_743 (by decide) ?_
  refine zk_call1 (va_runS (As := [.ref a.1, .int (nI 20), .int (fSetting (kL κ) (nI 0)), .int (nI 0), .int (nI 0)]) (rest := []) ⟨hx, hb, hml, hown, hts⟩ (c_C_20 l G hst a σ5 hok0 (fSetting (kL κ) (nI 0)) (nI 0) (nI 0) _) (va_cwS 5 hts gL_holds_L_call rfl rfl rfl (by decide +kernel) ⟨Nat.le_of_ble_eq_true rfl, Nat.le_of_ble_eq_true rfl⟩) (zk_preSH hN hE hA0 hS hP hD) rfl rfl hl.1 rfl (lv_room (Nat.le_of_ble_eq_true rfl)) dL_holds_744 ⟨by show cells + 4 + 4 + 4 + 4 ≤ 1600; omega, by show slots + 24 + 24 + 24 + 24 ≤ 9600; omega⟩) hP hD hS hA (fun r8 σ7 H locs hpost hP hD hS => ?_)
  refine zk_cs (cells + 4 + 4 + 4 + 4) (slots + 24 + 24 + 24 + 24) rfl rfl ?_
  have hP : va_P G.1 vwCl (zw G a σ7) H := hP
  have hD : va_D A (zw G a σ7) := hD
  obtain ⟨⟨er, ec⟩, ht0⟩ := hpost
  rw [hg0] at er ec
  have hg0 : core σ7 = κ := ec
  have hok0 := yOk_of hk0 hg0 ht0
  refine zk_top (er) ?_
  refine lv_istore (lv' := [(17, .int (fIfPrice (kL κ) (fSetting (kL κ) (nI 0)))), (16, .int (fRefused (kL κ) (nI cc))), (15, .int (fIfEnt (kL κ) (nI cc) (nI fr) to)), (0, .ref a.1), (1, .int (nI x)), (2, .int (nI n)), (3, .int (nI t)), (4, .int (fAbout (kL κ) (nI 11))), (5, .int (nI 1)), (12, .int (nI cc)), (13, .int (nI fr)), (14, .int to)]) hx hb dL_holds_747 hl (by decide) rfl (fun ls hl => ?_)
  refine lv_aload_n hx hb dL_holds_749 rfl (lv_at hl 3 rfl) ?_
  refine lv_iconst (v := nI 2) hx hb dL_holds_750 (by decide) ?_
  refine lv_iconst (v := nI 3) hx hb dL_holds_751 (by decide) ?_
  refine lv_iconst (v := nI 0) hx hb dL_holds_752 (by decide) ?_
  refine lv_iconst (v := nI 0) hx hb dL_holds_753 (by decide) ?_
  refine zk_call1 (va_runS (As := [.ref a.1, .int (nI 2), .int (nI 3), .int (nI 0), .int (nI 0)]) (rest := []) ⟨hx, hb, hml, hown, hts⟩ (c_C_2 l G hst a σ7 hok0 (nI 3) (nI 0) (nI 0) _) (va_cwS 5 hts gL_holds_L_call rfl rfl rfl (by decide +kernel) ⟨Nat.le_of_ble_eq_true rfl, Nat.le_of_ble_eq_true rfl⟩) (zk_preSH hN hE hA0 hS hP hD) rfl rfl hl.1 rfl (lv_room (Nat.le_of_ble_eq_true rfl)) dL_holds_754 ⟨by show cells + 4 + 4 + 4 + 4 + 4 ≤ 1600; omega, by show slots + 24 + 24 + 24 + 24 + 24 ≤ 9600; omega⟩) hP hD hS hA (fun r10 σ9 H locs hpost hP hD hS => ?_)
  refine zk_cs (cells + 4 + 4 + 4 + 4 + 4) (slots + 24 + 24 + 24 + 24 + 24) rfl rfl ?_
  have hP : va_P G.1 vwCl (zw G a σ9) H := hP
  have hD : va_D A (zw G a σ9) := hD
  obtain ⟨⟨er, ec⟩, ht0⟩ := hpost
  rw [hg0] at er ec
  have hg0 : core σ9 = κ := ec
  have hok0 := yOk_of hk0 hg0 ht0
  refine zk_top (er) ?_
  refine lv_istore (lv' := [(18, .int (fAbout (kL κ) (nI 3))), (17, .int (fIfPrice (kL κ) (fSetting (kL κ) (nI 0)))), (16, .int (fRefused (kL κ) (nI cc))), (15, .int (fIfEnt (kL κ) (nI cc) (nI fr) to)), (0, .ref a.1), (1, .int (nI x)), (2, .int (nI n)), (3, .int (nI t)), (4, .int (fAbout (kL κ) (nI 11))), (5, .int (nI 1)), (12, .int (nI cc)), (13, .int (nI fr)), (14, .int to)]) hx hb dL_holds_757 hl (by decide) rfl (fun ls hl => ?_)
  refine lv_aload_n hx hb dL_holds_759 rfl (lv_at hl 4 rfl) ?_
  refine lv_iconst (v := nI 3) hx hb dL_holds_760 (by decide) ?_
  refine lv_iload hx hb dL_holds_761 (lv_at hl 10 rfl) ?_
  refine lv_bipush (v := nI 8) hx hb dL_holds_763 (by decide) ?_
  refine lv_iconst (v := nI 0) hx hb dL_holds_765 (by decide) ?_
  refine zk_call1 (va_runS (As := [.ref a.1, .int (nI 3), .int (nI cc), .int (nI 8), .int (nI 0)]) (rest := []) ⟨hx, hb, hml, hown, hts⟩ (c_C_3 l G hst a σ9 hok0 (nI cc) (nI 8) (nI 0) _) (va_cwS 5 hts gL_holds_L_call rfl rfl rfl (by decide +kernel) ⟨Nat.le_of_ble_eq_true rfl, Nat.le_of_ble_eq_true rfl⟩) (zk_preSH hN hE hA0 hS hP hD) rfl rfl hl.1 rfl (lv_room (Nat.le_of_ble_eq_true rfl)) dL_holds_766 ⟨by show cells + 4 + 4 + 4 + 4 + 4 + 4 ≤ 1600; omega, by show slots + 24 + 24 + 24 + 24 + 24 + 24 ≤ 9600; omega⟩) hP hD hS hA (fun r12 σ11 H locs hpost hP hD hS => ?_)
  refine zk_cs (cells + 4 + 4 + 4 + 4 + 4 + 4) (slots + 24 + 24 + 24 + 24 + 24 + 24) rfl rfl ?_
  have hP : va_P G.1 vwCl (zw G a σ11) H := hP
  have hD : va_D A (zw G a σ11) := hD
  obtain ⟨⟨er, ec⟩, ht0⟩ := hpost
  rw [hg0] at er ec
  have hg0 : core σ11 = κ := ec
  have hok0 := yOk_of hk0 hg0 ht0
  refine zk_top (er) ?_
  refine lv_istore (lv' := [(19, .int (fChild (kL κ) (nI cc) (nI 8))), (18, .int (fAbout (kL κ) (nI 3))), (17, .int (fIfPrice (kL κ) (fSetting (kL κ) (nI 0)))), (16, .int (fRefused (kL κ) (nI cc))), (15, .int (fIfEnt (kL κ) (nI cc) (nI fr) to)), (0, .ref a.1), (1, .int (nI x)), (2, .int (nI n)), (3, .int (nI t)), (4, .int (fAbout (kL κ) (nI 11))), (5, .int (nI 1)), (12, .int (nI cc)), (13, .int (nI fr)), (14, .int to)]) hx hb dL_holds_769 hl (by decide) rfl (fun ls hl => ?_)
  refine lv_aload_n hx hb dL_holds_771 rfl (lv_at hl 5 rfl) ?_
  refine zk_call1 (va_runV (As := []) (rest := []) ⟨hx, hb, hml, hown, hts⟩ (c_F_bestEntitled l G a σ11 hok0 _) (cwV 0 hts gL_holds_X5_bestEntitled rfl rfl rfl (by decide +kernel) ⟨Nat.le_of_ble_eq_true rfl, Nat.le_of_ble_eq_true rfl⟩) (zk_preVH hN hE hA0 hS hP hD (va_recv hE.1 hP (ci := 4) (q0 := 0) rfl rfl)) rfl rfl hl.1 rfl (lv_room (Nat.le_of_ble_eq_true rfl)) dL_holds_772 ⟨by show cells + 4 + 4 + 4 + 4 + 4 + 4 + 0 ≤ 1600; omega, by show slots + 24 + 24 + 24 + 24 + 24 + 24 + 0 ≤ 9600; omega⟩) hP hD hS hA (fun r14 σ13 H locs hpost hP hD hS => ?_)
  refine zk_cs (cells + 4 + 4 + 4 + 4 + 4 + 4 + 0) (slots + 24 + 24 + 24 + 24 + 24 + 24 + 0) rfl rfl ?_
  have hP : va_P G.1 vwCl (zw G a σ13) H := hP
  have hD : va_D A (zw G a σ13) := hD
  obtain ⟨⟨er, ec⟩, ht0⟩ := hpost
  rw [hg0] at er ec
  have hg0 : core σ13 = κ := ec
  have hok0 := yOk_of hk0 hg0 ht0
  refine zk_top (er.trans (hbest)) ?_
  refine lv_istore (lv' := [(20, .int (nI bj)), (19, .int (fChild (kL κ) (nI cc) (nI 8))), (18, .int (fAbout (kL κ) (nI 3))), (17, .int (fIfPrice (kL κ) (fSetting (kL κ) (nI 0)))), (16, .int (fRefused (kL κ) (nI cc))), (15, .int (fIfEnt (kL κ) (nI cc) (nI fr) to)), (0, .ref a.1), (1, .int (nI x)), (2, .int (nI n)), (3, .int (nI t)), (4, .int (fAbout (kL κ) (nI 11))), (5, .int (nI 1)), (12, .int (nI cc)), (13, .int (nI fr)), (14, .int to)]) hx hb dL_holds_775 hl (by decide) rfl (fun ls hl => ?_)
  refine W.widen (k := cells + 24) (n := slots + 144) (by omega) (by omega) ?_
  exact kk σ13 _ _ _ ht0 hg0 hP hD hS (lv_sub hl [6, 7, 8, 9, 10, 11, 12, 13, 14, 5, 4, 3, 2, 1, 0] rfl)

set_option maxHeartbeats 4000000 in
set_option maxRecDepth 100000 in
theorem zh_9 {p : Program} {l : Launch} {e : Env} {s : State} {m : MethodId} {args : Array Value} {below : List Frame} {meth : Method} {c : Code} {Q : State → Prop} {A : Nat → Prop} {G : zk_G} {H : Heap} {locs : List Loc} {cells slots : Nat} {ls : Array Slot} (hst : l.stackTraces = false) (F : zFx p s m meth c args cL_holds 21 (some .boolean) vL_holds A G) {a : zA} {σ : zSt} {κ : zCo} {κ1 κ2 : zCo} (ht0 : zTx σ) (hg0 : core σ = κ) (hk0 : kOk κ) {x n t cc fr bj mm : Nat} (hx31 : x < 2 ^ 31) (hI : sInv (kL κ) n t) {to tl rf sv hd mi : Int32} (hk1 : kOk κ1) (hk2 : kOk κ2) (hq1 : fEntitle (nI cc) (nI fr) to κ = (tl, κ1)) (ha1 : fAbout (kL κ1) (nI 11) = fAbout (kL κ) (nI 11) + tl) (ha2 : fAbout (kL κ1) (nI 3) = hd) (hq2 : fUndo κ1 = (nI mm, κ2)) (hmm : mm < 14) (hbj : bj < n) (hP : va_P G.1 vwCl (zw G a σ) H) (hD : va_D A (zw G a σ)) (hS : va_S A s.heap H locs) (hl : lv_has ls 21 [(0, .ref a.1), (1, .int (nI x)), (2, .int (nI n)), (3, .int (nI t)), (4, .int (fAbout (kL κ) (nI 11))), (5, .int (nI 1)), (12, .int (nI cc)), (13, .int (nI fr)), (14, .int to), (15, .int tl), (16, .int rf), (17, .int sv), (18, .int hd), (19, .int mi), (20, .int (nI bj))]) (hcs : cells + 16 ≤ 1600 ∧ slots + 96 ≤ 9600)
    (kk : ∀ (σ₁ : zSt) (H₁ : Heap) (locs₁ : List Loc) (ls₁ : Array Slot), zTx σ₁ → core σ₁ = κ2 →  va_P G.1 vwCl (zw G a σ₁) H₁ → va_D A (zw G a σ₁) → va_S A s.heap H₁ locs₁ → lv_has ls₁ 21 [(0, .ref a.1), (1, .int (nI x)), (2, .int (nI n)), (3, .int (nI t)), (4, .int (fAbout (kL κ) (nI 11))), (5, .int (nI 1)), (12, .int (nI cc)), (13, .int (nI fr)), (14, .int to), (15, .int tl), (16, .int rf), (17, .int sv), (18, .int hd), (19, .int mi), (20, .int (nI bj))] → W p l e rmL_holds s m args below meth c H₁ locs₁ (cells + 16) (slots + 96) Q (F0 m 854 ls₁ [])) :
    W p l e rmL_holds s m args below meth c H locs cells slots Q (F0 m 777 ls []) := by
  obtain ⟨hx, hb, hml, hr, hts, hown, hlocks, hE, hA, hA0, hN⟩ := id F
  have hok0 := yOk_of hk0 hg0 ht0
  have hn12 := hI.2.1
  have ht40 := hI.2.2.2.1
  refine lv_aload_n hx hb dL_holds_777 rfl (lv_at hl 0 rfl) ?_
  refine lv_bipush (v := nI 12) hx hb dL_holds_778 (by decide) ?_
  refine lv_iload hx hb dL_holds_780 (lv_at hl 6 rfl) ?_
  refine lv_iload hx hb dL_holds_782 (lv_at hl 7 rfl) ?_
  refine lv_iload hx hb dL_holds_784 (lv_at hl 8 rfl) ?_
  refine zk_call1 (va_runS (As := [.ref a.1, .int (nI 12), .int (nI cc), .int (nI fr), .int to]) (rest := []) ⟨hx, hb, hml, hown, hts⟩ (c_C_12 l G hst a σ hok0 (nI cc) (nI fr) to _) (va_cwS 5 hts gL_holds_L_call rfl rfl rfl (by decide +kernel) ⟨Nat.le_of_ble_eq_true rfl, Nat.le_of_ble_eq_true rfl⟩) (zk_preSH hN hE hA0 hS hP hD) rfl rfl hl.1 rfl (lv_room (Nat.le_of_ble_eq_true rfl)) dL_holds_786 ⟨by show cells + 4 ≤ 1600; omega, by show slots + 24 ≤ 9600; omega⟩) hP hD hS hA (fun r2 σ1 H locs hpost hP hD hS => ?_)
  refine zk_cs (cells + 4) (slots + 24) rfl rfl ?_
  have hP : va_P G.1 vwCl (zw G a σ1) H := hP
  have hD : va_D A (zw G a σ1) := hD
  obtain ⟨⟨er, ec⟩, ht0⟩ := hpost
  rw [hg0] at er ec
  rw [hq1] at er ec
  have er : r2 = tl := er
  have hg0 : core σ1 = κ1 := ec
  have hok0 := yOk_of hk1 hg0 ht0
  refine zk_top er ?_
  refine lv_iload hx hb dL_holds_789 (lv_at hl 9 rfl) ?_
  refine lv_icmp_ne (tgt := 851) hx hb dL_holds_791 (by decide) (fun h => absurd rfl h) (fun _ => ?_)
  refine lv_aload_n hx hb dL_holds_794 rfl (lv_at hl 0 rfl) ?_
  refine lv_iconst (v := nI 2) hx hb dL_holds_795 (by decide) ?_
  refine lv_bipush (v := nI 11) hx hb dL_holds_796 (by decide) ?_
  refine lv_iconst (v := nI 0) hx hb dL_holds_798 (by decide) ?_
  refine lv_iconst (v := nI 0) hx hb dL_holds_799 (by decide) ?_
  refine zk_call1 (va_runS (As := [.ref a.1, .int (nI 2), .int (nI 11), .int (nI 0), .int (nI 0)]) (rest := []) ⟨hx, hb, hml, hown, hts⟩ (c_C_2 l G hst a σ1 hok0 (nI 11) (nI 0) (nI 0) _) (va_cwS 5 hts gL_holds_L_call rfl rfl rfl (by decide +kernel) ⟨Nat.le_of_ble_eq_true rfl, Nat.le_of_ble_eq_true rfl⟩) (zk_preSH hN hE hA0 hS hP hD) rfl rfl hl.1 rfl (lv_room (Nat.le_of_ble_eq_true rfl)) dL_holds_800 ⟨by show cells + 4 + 4 ≤ 1600; omega, by show slots + 24 + 24 ≤ 9600; omega⟩) hP hD hS hA (fun r4 σ3 H locs hpost hP hD hS => ?_)
  refine zk_cs (cells + 4 + 4) (slots + 24 + 24) rfl rfl ?_
  have hP : va_P G.1 vwCl (zw G a σ3) H := hP
  have hD : va_D A (zw G a σ3) := hD
  obtain ⟨⟨er, ec⟩, ht0⟩ := hpost
  rw [hg0] at er ec
  have hg0 : core σ3 = κ1 := ec
  have hok0 := yOk_of hk1 hg0 ht0
  refine zk_top (er.trans (ha1)) ?_
  refine lv_iload hx hb dL_holds_803 (lv_at hl 4 rfl) ?_
  refine lv_iload hx hb dL_holds_805 (lv_at hl 9 rfl) ?_
  refine lv_iadd hx hb dL_holds_807 ?_
  refine lv_icmp_ne (tgt := 851) hx hb dL_holds_808 (by decide) (fun h => absurd rfl h) (fun _ => ?_)
  refine lv_aload_n hx hb dL_holds_811 rfl (lv_at hl 0 rfl) ?_
  refine lv_iconst (v := nI 2) hx hb dL_holds_812 (by decide) ?_
  refine lv_iconst (v := nI 3) hx hb dL_holds_813 (by decide) ?_
  refine lv_iconst (v := nI 0) hx hb dL_holds_814 (by decide) ?_
  refine lv_iconst (v := nI 0) hx hb dL_holds_815 (by decide) ?_
  refine zk_call1 (va_runS (As := [.ref a.1, .int (nI 2), .int (nI 3), .int (nI 0), .int (nI 0)]) (rest := []) ⟨hx, hb, hml, hown, hts⟩ (c_C_2 l G hst a σ3 hok0 (nI 3) (nI 0) (nI 0) _) (va_cwS 5 hts gL_holds_L_call rfl rfl rfl (by decide +kernel) ⟨Nat.le_of_ble_eq_true rfl, Nat.le_of_ble_eq_true rfl⟩) (zk_preSH hN hE hA0 hS hP hD) rfl rfl hl.1 rfl (lv_room (Nat.le_of_ble_eq_true rfl)) dL_holds_816 ⟨by show cells + 4 + 4 + 4 ≤ 1600; omega, by show slots + 24 + 24 + 24 ≤ 9600; omega⟩) hP hD hS hA (fun r6 σ5 H locs hpost hP hD hS => ?_)
  refine zk_cs (cells + 4 + 4 + 4) (slots + 24 + 24 + 24) rfl rfl ?_
  have hP : va_P G.1 vwCl (zw G a σ5) H := hP
  have hD : va_D A (zw G a σ5) := hD
  obtain ⟨⟨er, ec⟩, ht0⟩ := hpost
  rw [hg0] at er ec
  have hg0 : core σ5 = κ1 := ec
  have hok0 := yOk_of hk1 hg0 ht0
  refine zk_top (er.trans (ha2)) ?_
  refine lv_iload hx hb dL_holds_819 (lv_at hl 12 rfl) ?_
  refine lv_icmp_ne (tgt := 851) hx hb dL_holds_821 (by decide) (fun h => absurd rfl h) (fun _ => ?_)
  refine lv_aload_n hx hb dL_holds_824 rfl (lv_at hl 0 rfl) ?_
  refine lv_bipush (v := nI 16) hx hb dL_holds_825 (by decide) ?_
  refine lv_iconst (v := nI 0) hx hb dL_holds_827 (by decide) ?_
  refine lv_iconst (v := nI 0) hx hb dL_holds_828 (by decide) ?_
  refine lv_iconst (v := nI 0) hx hb dL_holds_829 (by decide) ?_
  refine zk_call1 (va_runS (As := [.ref a.1, .int (nI 16), .int (nI 0), .int (nI 0), .int (nI 0)]) (rest := []) ⟨hx, hb, hml, hown, hts⟩ (c_C_16 l G hst a σ5 hok0 (nI 0) (nI 0) (nI 0) _) (va_cwS 5 hts gL_holds_L_call rfl rfl rfl (by decide +kernel) ⟨Nat.le_of_ble_eq_true rfl, Nat.le_of_ble_eq_true rfl⟩) (zk_preSH hN hE hA0 hS hP hD) rfl rfl hl.1 rfl (lv_room (Nat.le_of_ble_eq_true rfl)) dL_holds_830 ⟨by show cells + 4 + 4 + 4 + 4 ≤ 1600; omega, by show slots + 24 + 24 + 24 + 24 ≤ 9600; omega⟩) hP hD hS hA (fun r8 σ7 H locs hpost hP hD hS => ?_)
  refine zk_cs (cells + 4 + 4 + 4 + 4) (slots + 24 + 24 + 24 + 24) rfl rfl ?_
  have hP : va_P G.1 vwCl (zw G a σ7) H := hP
  have hD : va_D A (zw G a σ7) := hD
  obtain ⟨⟨er, ec⟩, ht0⟩ := hpost
  rw [hg0] at er ec
  rw [hq2] at er ec
  have er : r8 = nI mm := er
  have hg0 : core σ7 = κ2 := ec
  have hok0 := yOk_of hk2 hg0 ht0
  refine zk_top er ?_
  refine lv_if_lt (tgt := 851) hx hb dL_holds_833 (by decide) (fun h => absurd h (nneg (by omega))) (fun _ => ?_)
  refine lv_iload hx hb dL_holds_836 (lv_at hl 14 rfl) ?_
  refine lv_if_lt (tgt := 851) hx hb dL_holds_838 (by decide) (fun h => absurd h (nneg (by omega))) (fun _ => ?_)
  refine lv_iload hx hb dL_holds_841 (lv_at hl 14 rfl) ?_
  refine lv_iload_n hx hb dL_holds_843 rfl (lv_at hl 2 rfl) ?_
  refine lv_icmp_ge (tgt := 851) hx hb dL_holds_844 (by decide) (fun h => absurd (zk_le (by omega) (by omega) h) (by omega)) (fun _ => ?_)
  refine lv_iconst (v := nI 1) hx hb dL_holds_847 (by decide) ?_
  refine lv_goto (tgt := 852) hx hb dL_holds_848 (by decide) ?_
  refine lv_istore (lv' := [(5, .int (nI 1)), (0, .ref a.1), (1, .int (nI x)), (2, .int (nI n)), (3, .int (nI t)), (4, .int (fAbout (kL κ) (nI 11))), (12, .int (nI cc)), (13, .int (nI fr)), (14, .int to), (15, .int tl), (16, .int rf), (17, .int sv), (18, .int hd), (19, .int mi), (20, .int (nI bj))]) hx hb dL_holds_852 hl (by decide) rfl (fun ls hl => ?_)
  refine W.widen (k := cells + 16) (n := slots + 96) (by omega) (by omega) ?_
  exact kk σ7 _ _ _ ht0 hg0 hP hD hS (lv_sub hl [1, 2, 3, 4, 5, 0, 6, 7, 8, 9, 10, 11, 12, 13, 14] rfl)

set_option maxHeartbeats 4000000 in
set_option maxRecDepth 100000 in
theorem zh_10 {p : Program} {l : Launch} {e : Env} {s : State} {m : MethodId} {args : Array Value} {below : List Frame} {meth : Method} {c : Code} {Q : State → Prop} {A : Nat → Prop} {G : zk_G} {H : Heap} {locs : List Loc} {cells slots : Nat} {ls : Array Slot} (hst : l.stackTraces = false) (F : zFx p s m meth c args cL_holds 21 (some .boolean) vL_holds A G) {a : zA} {σ : zSt} {κ : zCo} {κ1 κ2 : zCo} (ht0 : zTx σ) (hg0 : core σ = κ) (hk0 : kOk κ) {x n t cc mm : Nat} (hx31 : x < 2 ^ 31) (hI : sInv (kL κ) n t) {sv hd mi : Int32} (htl : t < 40) (hk1 : kOk κ1) (hk2 : kOk κ2) (hq1 : fDays (nI (40 - t)) κ = (sv, κ1)) (ha1 : fAbout (kL κ1) (nI 3) = hd + sv) (ha2 : fAbout (kL κ1) (nI 2) = nI 0) (hq2 : fUndo κ1 = (nI mm, κ2)) (hmm : mm < 14) (hmis : fChild (kL κ1) (nI cc) (nI 8) = mi) (hP : va_P G.1 vwCl (zw G a σ) H) (hD : va_D A (zw G a σ)) (hS : va_S A s.heap H locs) (hl : lv_has ls 21 [(0, .ref a.1), (1, .int (nI x)), (2, .int (nI n)), (3, .int (nI t)), (4, .int (fAbout (kL κ) (nI 11))), (5, .int (nI 1)), (12, .int (nI cc)), (16, .int (-1)), (17, .int sv), (18, .int hd), (19, .int mi)]) (hcs : cells + 24 ≤ 1600 ∧ slots + 144 ≤ 9600)
    (kk : ∀ (σ₁ : zSt) (H₁ : Heap) (locs₁ : List Loc) (ls₁ : Array Slot), zTx σ₁ → core σ₁ = κ2 →  va_P G.1 vwCl (zw G a σ₁) H₁ → va_D A (zw G a σ₁) → va_S A s.heap H₁ locs₁ → lv_has ls₁ 21 [(0, .ref a.1), (1, .int (nI x)), (2, .int (nI n)), (3, .int (nI t)), (4, .int (fAbout (kL κ) (nI 11))), (5, .int (nI 1))] → W p l e rmL_holds s m args below meth c H₁ locs₁ (cells + 24) (slots + 144) Q (F0 m 982 ls₁ [])) :
    W p l e rmL_holds s m args below meth c H locs cells slots Q (F0 m 854 ls []) := by
  obtain ⟨hx, hb, hml, hr, hts, hown, hlocks, hE, hA, hA0, hN⟩ := id F
  have hok0 := yOk_of hk0 hg0 ht0
  have hn12 := hI.2.1
  have ht40 := hI.2.2.2.1
  refine lv_iload_n hx hb dL_holds_854 rfl (lv_at hl 3 rfl) ?_
  refine lv_bipush (v := nI 40) hx hb dL_holds_855 (by decide) ?_
  refine lv_icmp_ge (tgt := 982) hx hb dL_holds_857 (by decide) (fun h => absurd (zk_le (by omega) (by omega) h) (by omega)) (fun _ => ?_)
  refine lv_iload hx hb dL_holds_860 (lv_at hl 5 rfl) ?_
  refine lv_if_eq (tgt := 982) hx hb dL_holds_862 (by decide) (fun z => absurd z (by decide)) (fun _ => ?_)
  refine lv_aload_n hx hb dL_holds_865 rfl (lv_at hl 0 rfl) ?_
  refine lv_bipush (v := nI 14) hx hb dL_holds_866 (by decide) ?_
  refine lv_bipush (v := nI 40) hx hb dL_holds_868 (by decide) ?_
  refine lv_iload_n hx hb dL_holds_870 rfl (lv_at hl 3 rfl) ?_
  refine zk_isubN hx hb dL_holds_871 (by omega) ?_
  refine lv_iconst (v := nI 0) hx hb dL_holds_872 (by decide) ?_
  refine lv_iconst (v := nI 0) hx hb dL_holds_873 (by decide) ?_
  refine zk_call1 (va_runS (As := [.ref a.1, .int (nI 14), .int (nI (40 - t)), .int (nI 0), .int (nI 0)]) (rest := []) ⟨hx, hb, hml, hown, hts⟩ (c_C_14 l G hst a σ hok0 (nI (40 - t)) (nI 0) (nI 0) _) (va_cwS 5 hts gL_holds_L_call rfl rfl rfl (by decide +kernel) ⟨Nat.le_of_ble_eq_true rfl, Nat.le_of_ble_eq_true rfl⟩) (zk_preSH hN hE hA0 hS hP hD) rfl rfl hl.1 rfl (lv_room (Nat.le_of_ble_eq_true rfl)) dL_holds_874 ⟨by show cells + 4 ≤ 1600; omega, by show slots + 24 ≤ 9600; omega⟩) hP hD hS hA (fun r2 σ1 H locs hpost hP hD hS => ?_)
  refine zk_cs (cells + 4) (slots + 24) rfl rfl ?_
  have hP : va_P G.1 vwCl (zw G a σ1) H := hP
  have hD : va_D A (zw G a σ1) := hD
  obtain ⟨⟨er, ec⟩, ht0⟩ := hpost
  rw [hg0] at er ec
  rw [hq1] at er ec
  have er : r2 = sv := er
  have hg0 : core σ1 = κ1 := ec
  have hok0 := yOk_of hk1 hg0 ht0
  refine zk_top er ?_
  refine lv_iload hx hb dL_holds_877 (lv_at hl 8 rfl) ?_
  refine lv_icmp_ne (tgt := 979) hx hb dL_holds_879 (by decide) (fun h => absurd rfl h) (fun _ => ?_)
  refine lv_aload_n hx hb dL_holds_882 rfl (lv_at hl 0 rfl) ?_
  refine lv_iconst (v := nI 2) hx hb dL_holds_883 (by decide) ?_
  refine lv_iconst (v := nI 3) hx hb dL_holds_884 (by decide) ?_
  refine lv_iconst (v := nI 0) hx hb dL_holds_885 (by decide) ?_
  refine lv_iconst (v := nI 0) hx hb dL_holds_886 (by decide) ?_
  refine zk_call1 (va_runS (As := [.ref a.1, .int (nI 2), .int (nI 3), .int (nI 0), .int (nI 0)]) (rest := []) ⟨hx, hb, hml, hown, hts⟩ (c_C_2 l G hst a σ1 hok0 (nI 3) (nI 0) (nI 0) _) (va_cwS 5 hts gL_holds_L_call rfl rfl rfl (by decide +kernel) ⟨Nat.le_of_ble_eq_true rfl, Nat.le_of_ble_eq_true rfl⟩) (zk_preSH hN hE hA0 hS hP hD) rfl rfl hl.1 rfl (lv_room (Nat.le_of_ble_eq_true rfl)) dL_holds_887 ⟨by show cells + 4 + 4 ≤ 1600; omega, by show slots + 24 + 24 ≤ 9600; omega⟩) hP hD hS hA (fun r4 σ3 H locs hpost hP hD hS => ?_)
  refine zk_cs (cells + 4 + 4) (slots + 24 + 24) rfl rfl ?_
  have hP : va_P G.1 vwCl (zw G a σ3) H := hP
  have hD : va_D A (zw G a σ3) := hD
  obtain ⟨⟨er, ec⟩, ht0⟩ := hpost
  rw [hg0] at er ec
  have hg0 : core σ3 = κ1 := ec
  have hok0 := yOk_of hk1 hg0 ht0
  refine zk_top (er.trans (ha1)) ?_
  refine lv_iload hx hb dL_holds_890 (lv_at hl 9 rfl) ?_
  refine lv_iload hx hb dL_holds_892 (lv_at hl 8 rfl) ?_
  refine lv_iadd hx hb dL_holds_894 ?_
  refine lv_icmp_ne (tgt := 979) hx hb dL_holds_895 (by decide) (fun h => absurd rfl h) (fun _ => ?_)
  refine lv_aload_n hx hb dL_holds_898 rfl (lv_at hl 0 rfl) ?_
  refine lv_iconst (v := nI 2) hx hb dL_holds_899 (by decide) ?_
  refine lv_iconst (v := nI 2) hx hb dL_holds_900 (by decide) ?_
  refine lv_iconst (v := nI 0) hx hb dL_holds_901 (by decide) ?_
  refine lv_iconst (v := nI 0) hx hb dL_holds_902 (by decide) ?_
  refine zk_call1 (va_runS (As := [.ref a.1, .int (nI 2), .int (nI 2), .int (nI 0), .int (nI 0)]) (rest := []) ⟨hx, hb, hml, hown, hts⟩ (c_C_2 l G hst a σ3 hok0 (nI 2) (nI 0) (nI 0) _) (va_cwS 5 hts gL_holds_L_call rfl rfl rfl (by decide +kernel) ⟨Nat.le_of_ble_eq_true rfl, Nat.le_of_ble_eq_true rfl⟩) (zk_preSH hN hE hA0 hS hP hD) rfl rfl hl.1 rfl (lv_room (Nat.le_of_ble_eq_true rfl)) dL_holds_903 ⟨by show cells + 4 + 4 + 4 ≤ 1600; omega, by show slots + 24 + 24 + 24 ≤ 9600; omega⟩) hP hD hS hA (fun r6 σ5 H locs hpost hP hD hS => ?_)
  refine zk_cs (cells + 4 + 4 + 4) (slots + 24 + 24 + 24) rfl rfl ?_
  have hP : va_P G.1 vwCl (zw G a σ5) H := hP
  have hD : va_D A (zw G a σ5) := hD
  obtain ⟨⟨er, ec⟩, ht0⟩ := hpost
  rw [hg0] at er ec
  have hg0 : core σ5 = κ1 := ec
  have hok0 := yOk_of hk1 hg0 ht0
  refine zk_top (er.trans (ha2)) ?_
  refine lv_if_ne (tgt := 979) hx hb dL_holds_906 (by decide) (fun z => absurd (by decide) z) (fun _ => ?_)
  refine lv_iload hx hb dL_holds_909 (lv_at hl 7 rfl) ?_
  refine lv_iconst (v := -1) hx hb dL_holds_911 (by decide) ?_
  refine lv_icmp_ne (tgt := 933) hx hb dL_holds_912 (by decide) (fun z => absurd (by decide) z) (fun _ => ?_)
  refine lv_aload_n hx hb dL_holds_915 rfl (lv_at hl 0 rfl) ?_
  refine lv_iconst (v := nI 3) hx hb dL_holds_916 (by decide) ?_
  refine lv_iload hx hb dL_holds_917 (lv_at hl 6 rfl) ?_
  refine lv_bipush (v := nI 8) hx hb dL_holds_919 (by decide) ?_
  refine lv_iconst (v := nI 0) hx hb dL_holds_921 (by decide) ?_
  refine zk_call1 (va_runS (As := [.ref a.1, .int (nI 3), .int (nI cc), .int (nI 8), .int (nI 0)]) (rest := []) ⟨hx, hb, hml, hown, hts⟩ (c_C_3 l G hst a σ5 hok0 (nI cc) (nI 8) (nI 0) _) (va_cwS 5 hts gL_holds_L_call rfl rfl rfl (by decide +kernel) ⟨Nat.le_of_ble_eq_true rfl, Nat.le_of_ble_eq_true rfl⟩) (zk_preSH hN hE hA0 hS hP hD) rfl rfl hl.1 rfl (lv_room (Nat.le_of_ble_eq_true rfl)) dL_holds_922 ⟨by show cells + 4 + 4 + 4 + 4 ≤ 1600; omega, by show slots + 24 + 24 + 24 + 24 ≤ 9600; omega⟩) hP hD hS hA (fun r8 σ7 H locs hpost hP hD hS => ?_)
  refine zk_cs (cells + 4 + 4 + 4 + 4) (slots + 24 + 24 + 24 + 24) rfl rfl ?_
  have hP : va_P G.1 vwCl (zw G a σ7) H := hP
  have hD : va_D A (zw G a σ7) := hD
  obtain ⟨⟨er, ec⟩, ht0⟩ := hpost
  rw [hg0] at er ec
  have hg0 : core σ7 = κ1 := ec
  have hok0 := yOk_of hk1 hg0 ht0
  refine zk_top (er.trans (hmis)) ?_
  refine lv_iload hx hb dL_holds_925 (lv_at hl 10 rfl) ?_
  refine lv_icmp_ne (tgt := 979) hx hb dL_holds_927 (by decide) (fun h => absurd rfl h) (fun _ => ?_)
  refine lv_goto (tgt := 963) hx hb dL_holds_930 (by decide) ?_
  refine lv_aload_n hx hb dL_holds_963 rfl (lv_at hl 0 rfl) ?_
  refine lv_bipush (v := nI 16) hx hb dL_holds_964 (by decide) ?_
  refine lv_iconst (v := nI 0) hx hb dL_holds_966 (by decide) ?_
  refine lv_iconst (v := nI 0) hx hb dL_holds_967 (by decide) ?_
  refine lv_iconst (v := nI 0) hx hb dL_holds_968 (by decide) ?_
  refine zk_call1 (va_runS (As := [.ref a.1, .int (nI 16), .int (nI 0), .int (nI 0), .int (nI 0)]) (rest := []) ⟨hx, hb, hml, hown, hts⟩ (c_C_16 l G hst a σ7 hok0 (nI 0) (nI 0) (nI 0) _) (va_cwS 5 hts gL_holds_L_call rfl rfl rfl (by decide +kernel) ⟨Nat.le_of_ble_eq_true rfl, Nat.le_of_ble_eq_true rfl⟩) (zk_preSH hN hE hA0 hS hP hD) rfl rfl hl.1 rfl (lv_room (Nat.le_of_ble_eq_true rfl)) dL_holds_969 ⟨by show cells + 4 + 4 + 4 + 4 + 4 ≤ 1600; omega, by show slots + 24 + 24 + 24 + 24 + 24 ≤ 9600; omega⟩) hP hD hS hA (fun r10 σ9 H locs hpost hP hD hS => ?_)
  refine zk_cs (cells + 4 + 4 + 4 + 4 + 4) (slots + 24 + 24 + 24 + 24 + 24) rfl rfl ?_
  have hP : va_P G.1 vwCl (zw G a σ9) H := hP
  have hD : va_D A (zw G a σ9) := hD
  obtain ⟨⟨er, ec⟩, ht0⟩ := hpost
  rw [hg0] at er ec
  rw [hq2] at er ec
  have er : r10 = nI mm := er
  have hg0 : core σ9 = κ2 := ec
  have hok0 := yOk_of hk2 hg0 ht0
  refine zk_top er ?_
  refine lv_if_lt (tgt := 979) hx hb dL_holds_972 (by decide) (fun h => absurd h (nneg (by omega))) (fun _ => ?_)
  refine lv_iconst (v := nI 1) hx hb dL_holds_975 (by decide) ?_
  refine lv_goto (tgt := 980) hx hb dL_holds_976 (by decide) ?_
  refine lv_istore (lv' := [(5, .int (nI 1)), (0, .ref a.1), (1, .int (nI x)), (2, .int (nI n)), (3, .int (nI t)), (4, .int (fAbout (kL κ) (nI 11))), (12, .int (nI cc)), (16, .int (-1)), (17, .int sv), (18, .int hd), (19, .int mi)]) hx hb dL_holds_980 hl (by decide) rfl (fun ls hl => ?_)
  refine W.widen (k := cells + 24) (n := slots + 144) (by omega) (by omega) ?_
  exact kk σ9 _ _ _ ht0 hg0 hP hD hS (lv_sub hl [1, 2, 3, 4, 5, 0] rfl)

set_option maxHeartbeats 4000000 in
set_option maxRecDepth 100000 in
theorem zh_11 {p : Program} {l : Launch} {e : Env} {s : State} {m : MethodId} {args : Array Value} {below : List Frame} {meth : Method} {c : Code} {Q : State → Prop} {A : Nat → Prop} {G : zk_G} {H : Heap} {locs : List Loc} {cells slots : Nat} {ls : Array Slot} (hst : l.stackTraces = false) (F : zFx p s m meth c args cL_holds 21 (some .boolean) vL_holds A G) {a : zA} {σ : zSt} {κ : zCo} {κ1 κ2 : zCo} (ht0 : zTx σ) (hg0 : core σ = κ) (hk0 : kOk κ) {x n t cc mm rd : Nat} (hx31 : x < 2 ^ 31) (hI : sInv (kL κ) n t) {sv hd mi : Int32} (htl : t < 40) (hk1 : kOk κ1) (hk2 : kOk κ2) (hq1 : fDays (nI (40 - t)) κ = (sv, κ1)) (ha1 : fAbout (kL κ1) (nI 3) = hd + sv) (ha2 : fAbout (kL κ1) (nI 2) = nI 0) (hq2 : fUndo κ1 = (nI mm, κ2)) (hmm : mm < 14) (hrd : rd < 40) (hm4 : fMeal (kL κ1) (nI cc) (nI rd) (nI 0) = nI 4) (hgt : mi < fChild (kL κ1) (nI cc) (nI 8)) (hP : va_P G.1 vwCl (zw G a σ) H) (hD : va_D A (zw G a σ)) (hS : va_S A s.heap H locs) (hl : lv_has ls 21 [(0, .ref a.1), (1, .int (nI x)), (2, .int (nI n)), (3, .int (nI t)), (4, .int (fAbout (kL κ) (nI 11))), (5, .int (nI 1)), (12, .int (nI cc)), (16, .int (nI rd)), (17, .int sv), (18, .int hd), (19, .int mi)]) (hcs : cells + 24 ≤ 1600 ∧ slots + 144 ≤ 9600)
    (kk : ∀ (σ₁ : zSt) (H₁ : Heap) (locs₁ : List Loc) (ls₁ : Array Slot), zTx σ₁ → core σ₁ = κ2 →  va_P G.1 vwCl (zw G a σ₁) H₁ → va_D A (zw G a σ₁) → va_S A s.heap H₁ locs₁ → lv_has ls₁ 21 [(0, .ref a.1), (1, .int (nI x)), (2, .int (nI n)), (3, .int (nI t)), (4, .int (fAbout (kL κ) (nI 11))), (5, .int (nI 1))] → W p l e rmL_holds s m args below meth c H₁ locs₁ (cells + 24) (slots + 144) Q (F0 m 982 ls₁ [])) :
    W p l e rmL_holds s m args below meth c H locs cells slots Q (F0 m 854 ls []) := by
  obtain ⟨hx, hb, hml, hr, hts, hown, hlocks, hE, hA, hA0, hN⟩ := id F
  have hok0 := yOk_of hk0 hg0 ht0
  have hn12 := hI.2.1
  have ht40 := hI.2.2.2.1
  refine lv_iload_n hx hb dL_holds_854 rfl (lv_at hl 3 rfl) ?_
  refine lv_bipush (v := nI 40) hx hb dL_holds_855 (by decide) ?_
  refine lv_icmp_ge (tgt := 982) hx hb dL_holds_857 (by decide) (fun h => absurd (zk_le (by omega) (by omega) h) (by omega)) (fun _ => ?_)
  refine lv_iload hx hb dL_holds_860 (lv_at hl 5 rfl) ?_
  refine lv_if_eq (tgt := 982) hx hb dL_holds_862 (by decide) (fun z => absurd z (by decide)) (fun _ => ?_)
  refine lv_aload_n hx hb dL_holds_865 rfl (lv_at hl 0 rfl) ?_
  refine lv_bipush (v := nI 14) hx hb dL_holds_866 (by decide) ?_
  refine lv_bipush (v := nI 40) hx hb dL_holds_868 (by decide) ?_
  refine lv_iload_n hx hb dL_holds_870 rfl (lv_at hl 3 rfl) ?_
  refine zk_isubN hx hb dL_holds_871 (by omega) ?_
  refine lv_iconst (v := nI 0) hx hb dL_holds_872 (by decide) ?_
  refine lv_iconst (v := nI 0) hx hb dL_holds_873 (by decide) ?_
  refine zk_call1 (va_runS (As := [.ref a.1, .int (nI 14), .int (nI (40 - t)), .int (nI 0), .int (nI 0)]) (rest := []) ⟨hx, hb, hml, hown, hts⟩ (c_C_14 l G hst a σ hok0 (nI (40 - t)) (nI 0) (nI 0) _) (va_cwS 5 hts gL_holds_L_call rfl rfl rfl (by decide +kernel) ⟨Nat.le_of_ble_eq_true rfl, Nat.le_of_ble_eq_true rfl⟩) (zk_preSH hN hE hA0 hS hP hD) rfl rfl hl.1 rfl (lv_room (Nat.le_of_ble_eq_true rfl)) dL_holds_874 ⟨by show cells + 4 ≤ 1600; omega, by show slots + 24 ≤ 9600; omega⟩) hP hD hS hA (fun r2 σ1 H locs hpost hP hD hS => ?_)
  refine zk_cs (cells + 4) (slots + 24) rfl rfl ?_
  have hP : va_P G.1 vwCl (zw G a σ1) H := hP
  have hD : va_D A (zw G a σ1) := hD
  obtain ⟨⟨er, ec⟩, ht0⟩ := hpost
  rw [hg0] at er ec
  rw [hq1] at er ec
  have er : r2 = sv := er
  have hg0 : core σ1 = κ1 := ec
  have hok0 := yOk_of hk1 hg0 ht0
  refine zk_top er ?_
  refine lv_iload hx hb dL_holds_877 (lv_at hl 8 rfl) ?_
  refine lv_icmp_ne (tgt := 979) hx hb dL_holds_879 (by decide) (fun h => absurd rfl h) (fun _ => ?_)
  refine lv_aload_n hx hb dL_holds_882 rfl (lv_at hl 0 rfl) ?_
  refine lv_iconst (v := nI 2) hx hb dL_holds_883 (by decide) ?_
  refine lv_iconst (v := nI 3) hx hb dL_holds_884 (by decide) ?_
  refine lv_iconst (v := nI 0) hx hb dL_holds_885 (by decide) ?_
  refine lv_iconst (v := nI 0) hx hb dL_holds_886 (by decide) ?_
  refine zk_call1 (va_runS (As := [.ref a.1, .int (nI 2), .int (nI 3), .int (nI 0), .int (nI 0)]) (rest := []) ⟨hx, hb, hml, hown, hts⟩ (c_C_2 l G hst a σ1 hok0 (nI 3) (nI 0) (nI 0) _) (va_cwS 5 hts gL_holds_L_call rfl rfl rfl (by decide +kernel) ⟨Nat.le_of_ble_eq_true rfl, Nat.le_of_ble_eq_true rfl⟩) (zk_preSH hN hE hA0 hS hP hD) rfl rfl hl.1 rfl (lv_room (Nat.le_of_ble_eq_true rfl)) dL_holds_887 ⟨by show cells + 4 + 4 ≤ 1600; omega, by show slots + 24 + 24 ≤ 9600; omega⟩) hP hD hS hA (fun r4 σ3 H locs hpost hP hD hS => ?_)
  refine zk_cs (cells + 4 + 4) (slots + 24 + 24) rfl rfl ?_
  have hP : va_P G.1 vwCl (zw G a σ3) H := hP
  have hD : va_D A (zw G a σ3) := hD
  obtain ⟨⟨er, ec⟩, ht0⟩ := hpost
  rw [hg0] at er ec
  have hg0 : core σ3 = κ1 := ec
  have hok0 := yOk_of hk1 hg0 ht0
  refine zk_top (er.trans (ha1)) ?_
  refine lv_iload hx hb dL_holds_890 (lv_at hl 9 rfl) ?_
  refine lv_iload hx hb dL_holds_892 (lv_at hl 8 rfl) ?_
  refine lv_iadd hx hb dL_holds_894 ?_
  refine lv_icmp_ne (tgt := 979) hx hb dL_holds_895 (by decide) (fun h => absurd rfl h) (fun _ => ?_)
  refine lv_aload_n hx hb dL_holds_898 rfl (lv_at hl 0 rfl) ?_
  refine lv_iconst (v := nI 2) hx hb dL_holds_899 (by decide) ?_
  refine lv_iconst (v := nI 2) hx hb dL_holds_900 (by decide) ?_
  refine lv_iconst (v := nI 0) hx hb dL_holds_901 (by decide) ?_
  refine lv_iconst (v := nI 0) hx hb dL_holds_902 (by decide) ?_
  refine zk_call1 (va_runS (As := [.ref a.1, .int (nI 2), .int (nI 2), .int (nI 0), .int (nI 0)]) (rest := []) ⟨hx, hb, hml, hown, hts⟩ (c_C_2 l G hst a σ3 hok0 (nI 2) (nI 0) (nI 0) _) (va_cwS 5 hts gL_holds_L_call rfl rfl rfl (by decide +kernel) ⟨Nat.le_of_ble_eq_true rfl, Nat.le_of_ble_eq_true rfl⟩) (zk_preSH hN hE hA0 hS hP hD) rfl rfl hl.1 rfl (lv_room (Nat.le_of_ble_eq_true rfl)) dL_holds_903 ⟨by show cells + 4 + 4 + 4 ≤ 1600; omega, by show slots + 24 + 24 + 24 ≤ 9600; omega⟩) hP hD hS hA (fun r6 σ5 H locs hpost hP hD hS => ?_)
  refine zk_cs (cells + 4 + 4 + 4) (slots + 24 + 24 + 24) rfl rfl ?_
  have hP : va_P G.1 vwCl (zw G a σ5) H := hP
  have hD : va_D A (zw G a σ5) := hD
  obtain ⟨⟨er, ec⟩, ht0⟩ := hpost
  rw [hg0] at er ec
  have hg0 : core σ5 = κ1 := ec
  have hok0 := yOk_of hk1 hg0 ht0
  refine zk_top (er.trans (ha2)) ?_
  refine lv_if_ne (tgt := 979) hx hb dL_holds_906 (by decide) (fun z => absurd (by decide) z) (fun _ => ?_)
  refine lv_iload hx hb dL_holds_909 (lv_at hl 7 rfl) ?_
  refine lv_iconst (v := -1) hx hb dL_holds_911 (by decide) ?_
  refine lv_icmp_ne (tgt := 933) hx hb dL_holds_912 (by decide) (fun _ => ?_) (fun h => absurd h (zp_m1 (by omega)))
  refine lv_aload_n hx hb dL_holds_933 rfl (lv_at hl 0 rfl) ?_
  refine lv_bipush (v := nI 6) hx hb dL_holds_934 (by decide) ?_
  refine lv_iload hx hb dL_holds_936 (lv_at hl 6 rfl) ?_
  refine lv_iload hx hb dL_holds_938 (lv_at hl 7 rfl) ?_
  refine lv_iconst (v := nI 0) hx hb dL_holds_940 (by decide) ?_
  refine zk_call1 (va_runS (As := [.ref a.1, .int (nI 6), .int (nI cc), .int (nI rd), .int (nI 0)]) (rest := []) ⟨hx, hb, hml, hown, hts⟩ (c_C_6 l G hst a σ5 hok0 (nI cc) (nI rd) (nI 0) _) (va_cwS 5 hts gL_holds_L_call rfl rfl rfl (by decide +kernel) ⟨Nat.le_of_ble_eq_true rfl, Nat.le_of_ble_eq_true rfl⟩) (zk_preSH hN hE hA0 hS hP hD) rfl rfl hl.1 rfl (lv_room (Nat.le_of_ble_eq_true rfl)) dL_holds_941 ⟨by show cells + 4 + 4 + 4 + 4 ≤ 1600; omega, by show slots + 24 + 24 + 24 + 24 ≤ 9600; omega⟩) hP hD hS hA (fun r8 σ7 H locs hpost hP hD hS => ?_)
  refine zk_cs (cells + 4 + 4 + 4 + 4) (slots + 24 + 24 + 24 + 24) rfl rfl ?_
  have hP : va_P G.1 vwCl (zw G a σ7) H := hP
  have hD : va_D A (zw G a σ7) := hD
  obtain ⟨⟨er, ec⟩, ht0⟩ := hpost
  rw [hg0] at er ec
  have hg0 : core σ7 = κ1 := ec
  have hok0 := yOk_of hk1 hg0 ht0
  refine zk_top (er.trans (hm4)) ?_
  refine lv_iconst (v := nI 4) hx hb dL_holds_944 (by decide) ?_
  refine lv_icmp_ne (tgt := 979) hx hb dL_holds_945 (by decide) (fun z => absurd (by decide) z) (fun _ => ?_)
  refine lv_aload_n hx hb dL_holds_948 rfl (lv_at hl 0 rfl) ?_
  refine lv_iconst (v := nI 3) hx hb dL_holds_949 (by decide) ?_
  refine lv_iload hx hb dL_holds_950 (lv_at hl 6 rfl) ?_
  refine lv_bipush (v := nI 8) hx hb dL_holds_952 (by decide) ?_
  refine lv_iconst (v := nI 0) hx hb dL_holds_954 (by decide) ?_
  refine zk_call1 (va_runS (As := [.ref a.1, .int (nI 3), .int (nI cc), .int (nI 8), .int (nI 0)]) (rest := []) ⟨hx, hb, hml, hown, hts⟩ (c_C_3 l G hst a σ7 hok0 (nI cc) (nI 8) (nI 0) _) (va_cwS 5 hts gL_holds_L_call rfl rfl rfl (by decide +kernel) ⟨Nat.le_of_ble_eq_true rfl, Nat.le_of_ble_eq_true rfl⟩) (zk_preSH hN hE hA0 hS hP hD) rfl rfl hl.1 rfl (lv_room (Nat.le_of_ble_eq_true rfl)) dL_holds_955 ⟨by show cells + 4 + 4 + 4 + 4 + 4 ≤ 1600; omega, by show slots + 24 + 24 + 24 + 24 + 24 ≤ 9600; omega⟩) hP hD hS hA (fun r10 σ9 H locs hpost hP hD hS => ?_)
  refine zk_cs (cells + 4 + 4 + 4 + 4 + 4) (slots + 24 + 24 + 24 + 24 + 24) rfl rfl ?_
  have hP : va_P G.1 vwCl (zw G a σ9) H := hP
  have hD : va_D A (zw G a σ9) := hD
  obtain ⟨⟨er, ec⟩, ht0⟩ := hpost
  rw [hg0] at er ec
  have hg0 : core σ9 = κ1 := ec
  have hok0 := yOk_of hk1 hg0 ht0
  refine zk_top (er) ?_
  refine lv_iload hx hb dL_holds_958 (lv_at hl 10 rfl) ?_
  refine lv_icmp_le (tgt := 979) hx hb dL_holds_960 (by decide) (fun h => absurd h (Int32.not_le.mpr hgt)) (fun _ => ?_)
  refine lv_aload_n hx hb dL_holds_963 rfl (lv_at hl 0 rfl) ?_
  refine lv_bipush (v := nI 16) hx hb dL_holds_964 (by decide) ?_
  refine lv_iconst (v := nI 0) hx hb dL_holds_966 (by decide) ?_
  refine lv_iconst (v := nI 0) hx hb dL_holds_967 (by decide) ?_
  refine lv_iconst (v := nI 0) hx hb dL_holds_968 (by decide) ?_
  refine zk_call1 (va_runS (As := [.ref a.1, .int (nI 16), .int (nI 0), .int (nI 0), .int (nI 0)]) (rest := []) ⟨hx, hb, hml, hown, hts⟩ (c_C_16 l G hst a σ9 hok0 (nI 0) (nI 0) (nI 0) _) (va_cwS 5 hts gL_holds_L_call rfl rfl rfl (by decide +kernel) ⟨Nat.le_of_ble_eq_true rfl, Nat.le_of_ble_eq_true rfl⟩) (zk_preSH hN hE hA0 hS hP hD) rfl rfl hl.1 rfl (lv_room (Nat.le_of_ble_eq_true rfl)) dL_holds_969 ⟨by show cells + 4 + 4 + 4 + 4 + 4 + 4 ≤ 1600; omega, by show slots + 24 + 24 + 24 + 24 + 24 + 24 ≤ 9600; omega⟩) hP hD hS hA (fun r12 σ11 H locs hpost hP hD hS => ?_)
  refine zk_cs (cells + 4 + 4 + 4 + 4 + 4 + 4) (slots + 24 + 24 + 24 + 24 + 24 + 24) rfl rfl ?_
  have hP : va_P G.1 vwCl (zw G a σ11) H := hP
  have hD : va_D A (zw G a σ11) := hD
  obtain ⟨⟨er, ec⟩, ht0⟩ := hpost
  rw [hg0] at er ec
  rw [hq2] at er ec
  have er : r12 = nI mm := er
  have hg0 : core σ11 = κ2 := ec
  have hok0 := yOk_of hk2 hg0 ht0
  refine zk_top er ?_
  refine lv_if_lt (tgt := 979) hx hb dL_holds_972 (by decide) (fun h => absurd h (nneg (by omega))) (fun _ => ?_)
  refine lv_iconst (v := nI 1) hx hb dL_holds_975 (by decide) ?_
  refine lv_goto (tgt := 980) hx hb dL_holds_976 (by decide) ?_
  refine lv_istore (lv' := [(5, .int (nI 1)), (0, .ref a.1), (1, .int (nI x)), (2, .int (nI n)), (3, .int (nI t)), (4, .int (fAbout (kL κ) (nI 11))), (12, .int (nI cc)), (16, .int (nI rd)), (17, .int sv), (18, .int hd), (19, .int mi)]) hx hb dL_holds_980 hl (by decide) rfl (fun ls hl => ?_)
  refine W.widen (k := cells + 24) (n := slots + 144) (by omega) (by omega) ?_
  exact kk σ11 _ _ _ ht0 hg0 hP hD hS (lv_sub hl [1, 2, 3, 4, 5, 0] rfl)

set_option maxHeartbeats 4000000 in
set_option maxRecDepth 100000 in
theorem zh_12 {p : Program} {l : Launch} {e : Env} {s : State} {m : MethodId} {args : Array Value} {below : List Frame} {meth : Method} {c : Code} {Q : State → Prop} {A : Nat → Prop} {G : zk_G} {H : Heap} {locs : List Loc} {cells slots : Nat} {ls : Array Slot} (hst : l.stackTraces = false) (F : zFx p s m meth c args cL_holds 21 (some .boolean) vL_holds A G) {a : zA} {σ : zSt} {κ : zCo}  (ht0 : zTx σ) (hg0 : core σ = κ) (hk0 : kOk κ) {x n t : Nat} (hx31 : x < 2 ^ 31) (hI : sInv (kL κ) n t) (hP : va_P G.1 vwCl (zw G a σ) H) (hD : va_D A (zw G a σ)) (hS : va_S A s.heap H locs) (hl : lv_has ls 21 [(0, .ref a.1), (1, .int (nI x)), (2, .int (nI n)), (3, .int (nI t)), (4, .int (fAbout (kL κ) (nI 11))), (5, .int (nI 1))]) (hcs : cells + 8 ≤ 1600 ∧ slots + 48 ≤ 9600)
    (kk : ∀ (σ₁ : zSt) (H₁ : Heap) (locs₁ : List Loc) (ls₁ : Array Slot), zTx σ₁ → core σ₁ = κ →  va_P G.1 vwCl (zw G a σ₁) H₁ → va_D A (zw G a σ₁) → va_S A s.heap H₁ locs₁ → lv_has ls₁ 21 [(0, .ref a.1), (1, .int (nI x)), (2, .int (nI n)), (3, .int (nI t)), (4, .int (fAbout (kL κ) (nI 11))), (5, .int (nI 1))] → W p l e rmL_holds s m args below meth c H₁ locs₁ (cells + 8) (slots + 48) Q (F0 m 1037 ls₁ [])) :
    W p l e rmL_holds s m args below meth c H locs cells slots Q (F0 m 982 ls []) := by
  obtain ⟨hx, hb, hml, hr, hts, hown, hlocks, hE, hA, hA0, hN⟩ := id F
  have hok0 := yOk_of hk0 hg0 ht0
  have hn12 := hI.2.1
  have ht40 := hI.2.2.2.1
  refine lv_iload_n hx hb dL_holds_982 rfl (lv_at hl 1 rfl) ?_
  refine lv_iconst (v := nI 5) hx hb dL_holds_983 (by decide) ?_
  refine zk_iremN hx hb dL_holds_984 (by omega) (by omega) (by omega) ?_
  refine lv_istore (lv' := [(12, .int (nI (x % 5))), (0, .ref a.1), (1, .int (nI x)), (2, .int (nI n)), (3, .int (nI t)), (4, .int (fAbout (kL κ) (nI 11))), (5, .int (nI 1))]) hx hb dL_holds_985 hl (by decide) rfl (fun ls hl => ?_)
  refine lv_aload_n hx hb dL_holds_987 rfl (lv_at hl 1 rfl) ?_
  refine lv_bipush (v := nI 18) hx hb dL_holds_988 (by decide) ?_
  refine lv_iload hx hb dL_holds_990 (lv_at hl 0 rfl) ?_
  refine lv_iconst (v := nI 0) hx hb dL_holds_992 (by decide) ?_
  refine lv_iconst (v := nI 0) hx hb dL_holds_993 (by decide) ?_
  refine zk_call1 (va_runS (As := [.ref a.1, .int (nI 18), .int (nI (x % 5)), .int (nI 0), .int (nI 0)]) (rest := []) ⟨hx, hb, hml, hown, hts⟩ (c_C_18 l G hst a σ hok0 (nI (x % 5)) (nI 0) (nI 0) _) (va_cwS 5 hts gL_holds_L_call rfl rfl rfl (by decide +kernel) ⟨Nat.le_of_ble_eq_true rfl, Nat.le_of_ble_eq_true rfl⟩) (zk_preSH hN hE hA0 hS hP hD) rfl rfl hl.1 rfl (lv_room (Nat.le_of_ble_eq_true rfl)) dL_holds_994 ⟨by show cells + 4 ≤ 1600; omega, by show slots + 24 ≤ 9600; omega⟩) hP hD hS hA (fun r2 σ1 H locs hpost hP hD hS => ?_)
  refine zk_cs (cells + 4) (slots + 24) rfl rfl ?_
  have hP : va_P G.1 vwCl (zw G a σ1) H := hP
  have hD : va_D A (zw G a σ1) := hD
  obtain ⟨⟨er, ec⟩, ht0⟩ := hpost
  rw [hg0] at er ec
  have hg0 : core σ1 = κ := ec
  have hok0 := yOk_of hk0 hg0 ht0
  rcases hp_needs hI (show x % 5 < 5 by omega) er with e9 | ⟨kk9, hk9, e9, hf9⟩
  · refine zk_top e9 ?_
    refine lv_istore (lv' := [(13, .int (-1)), (12, .int (nI (x % 5))), (0, .ref a.1), (1, .int (nI x)), (2, .int (nI n)), (3, .int (nI t)), (4, .int (fAbout (kL κ) (nI 11))), (5, .int (nI 1))]) hx hb dL_holds_997 hl (by decide) rfl (fun ls hl => ?_)
    refine lv_iload hx hb dL_holds_999 (lv_at hl 7 rfl) ?_
    refine lv_if_eq (tgt := 1034) hx hb dL_holds_1001 (by decide) (fun z => absurd z (by decide)) (fun _ => ?_)
    refine lv_iload hx hb dL_holds_1004 (lv_at hl 0 rfl) ?_
    refine lv_iconst (v := -1) hx hb dL_holds_1006 (by decide) ?_
    refine lv_icmp_eq (tgt := 1030) hx hb dL_holds_1007 (by decide) (fun _ => ?_) (fun z => absurd (by decide) z)
    refine lv_iconst (v := nI 1) hx hb dL_holds_1030 (by decide) ?_
    refine lv_goto (tgt := 1035) hx hb dL_holds_1031 (by decide) ?_
    refine lv_istore (lv' := [(5, .int (nI 1)), (13, .int (-1)), (12, .int (nI (x % 5))), (0, .ref a.1), (1, .int (nI x)), (2, .int (nI n)), (3, .int (nI t)), (4, .int (fAbout (kL κ) (nI 11)))]) hx hb dL_holds_1035 hl (by decide) rfl (fun ls hl => ?_)
    refine W.widen (k := cells + 8) (n := slots + 48) (by omega) (by omega) ?_
    exact kk σ1 _ _ _ ht0 hg0 hP hD hS (lv_sub hl [3, 4, 5, 6, 7, 0] rfl)
  · refine zk_top e9 ?_
    refine lv_istore (lv' := [(13, .int (nI (100 * kk9))), (12, .int (nI (x % 5))), (0, .ref a.1), (1, .int (nI x)), (2, .int (nI n)), (3, .int (nI t)), (4, .int (fAbout (kL κ) (nI 11))), (5, .int (nI 1))]) hx hb dL_holds_997 hl (by decide) rfl (fun ls hl => ?_)
    refine lv_iload hx hb dL_holds_999 (lv_at hl 7 rfl) ?_
    refine lv_if_eq (tgt := 1034) hx hb dL_holds_1001 (by decide) (fun z => absurd z (by decide)) (fun _ => ?_)
    refine lv_iload hx hb dL_holds_1004 (lv_at hl 0 rfl) ?_
    refine lv_iconst (v := -1) hx hb dL_holds_1006 (by decide) ?_
    refine lv_icmp_eq (tgt := 1030) hx hb dL_holds_1007 (by decide) (fun h1007_2 => ?_) (fun h1007_2 => ?_)
    · refine lv_iconst (v := nI 1) hx hb dL_holds_1030 (by decide) ?_
      refine lv_goto (tgt := 1035) hx hb dL_holds_1031 (by decide) ?_
      refine lv_istore (lv' := [(5, .int (nI 1)), (13, .int (nI (100 * kk9))), (12, .int (nI (x % 5))), (0, .ref a.1), (1, .int (nI x)), (2, .int (nI n)), (3, .int (nI t)), (4, .int (fAbout (kL κ) (nI 11)))]) hx hb dL_holds_1035 hl (by decide) rfl (fun ls hl => ?_)
      refine W.widen (k := cells + 8) (n := slots + 48) (by omega) (by omega) ?_
      exact kk σ1 _ _ _ ht0 hg0 hP hD hS (lv_sub hl [3, 4, 5, 6, 7, 0] rfl)
    · refine lv_iload hx hb dL_holds_1010 (lv_at hl 0 rfl) ?_
      refine lv_bipush (v := nI 100) hx hb dL_holds_1012 (by decide) ?_
      refine zk_iremN hx hb dL_holds_1014 (by omega) (by omega) (by omega) ?_
      refine lv_if_ne (tgt := 1034) hx hb dL_holds_1015 (by decide) (fun h => absurd (show nI (100 * kk9 % 100) = 0 by rw [Nat.mul_mod_right]; rfl) h) (fun _ => ?_)
      refine lv_aload_n hx hb dL_holds_1018 rfl (lv_at hl 2 rfl) ?_
      refine lv_iconst (v := nI 4) hx hb dL_holds_1019 (by decide) ?_
      refine lv_iload hx hb dL_holds_1020 (lv_at hl 1 rfl) ?_
      refine lv_iconst (v := nI 0) hx hb dL_holds_1022 (by decide) ?_
      refine lv_iconst (v := nI 0) hx hb dL_holds_1023 (by decide) ?_
      refine zk_call1 (va_runS (As := [.ref a.1, .int (nI 4), .int (nI (x % 5)), .int (nI 0), .int (nI 0)]) (rest := []) ⟨hx, hb, hml, hown, hts⟩ (c_C_4 l G hst a σ1 hok0 (nI (x % 5)) (nI 0) (nI 0) _) (va_cwS 5 hts gL_holds_L_call rfl rfl rfl (by decide +kernel) ⟨Nat.le_of_ble_eq_true rfl, Nat.le_of_ble_eq_true rfl⟩) (zk_preSH hN hE hA0 hS hP hD) rfl rfl hl.1 rfl (lv_room (Nat.le_of_ble_eq_true rfl)) dL_holds_1024 ⟨by show cells + 4 + 4 ≤ 1600; omega, by show slots + 24 + 24 ≤ 9600; omega⟩) hP hD hS hA (fun r5 σ4 H locs hpost hP hD hS => ?_)
      refine zk_cs (cells + 4 + 4) (slots + 24 + 24) rfl rfl ?_
      have hP : va_P G.1 vwCl (zw G a σ4) H := hP
      have hD : va_D A (zw G a σ4) := hD
      obtain ⟨⟨er, ec⟩, ht0⟩ := hpost
      rw [hg0] at er ec
      have hg0 : core σ4 = κ := ec
      have hok0 := yOk_of hk0 hg0 ht0
      refine zk_top (er) ?_
      refine lv_if_le (tgt := 1034) hx hb dL_holds_1027 (by decide) (fun h => absurd h hf9) (fun _ => ?_)
      refine lv_iconst (v := nI 1) hx hb dL_holds_1030 (by decide) ?_
      refine lv_goto (tgt := 1035) hx hb dL_holds_1031 (by decide) ?_
      refine lv_istore (lv' := [(5, .int (nI 1)), (13, .int (nI (100 * kk9))), (12, .int (nI (x % 5))), (0, .ref a.1), (1, .int (nI x)), (2, .int (nI n)), (3, .int (nI t)), (4, .int (fAbout (kL κ) (nI 11)))]) hx hb dL_holds_1035 hl (by decide) rfl (fun ls hl => ?_)
      refine W.widen (k := cells + 8) (n := slots + 48) (by omega) (by omega) ?_
      exact kk σ4 _ _ _ ht0 hg0 hP hD hS (lv_sub hl [3, 4, 5, 6, 7, 0] rfl)

set_option maxHeartbeats 4000000 in
set_option maxRecDepth 100000 in
theorem zh_13 {p : Program} {l : Launch} {e : Env} {s : State} {m : MethodId} {args : Array Value} {below : List Frame} {meth : Method} {c : Code} {Q : State → Prop} {A : Nat → Prop} {G : zk_G} {H : Heap} {locs : List Loc} {cells slots : Nat} {ls : Array Slot} (hst : l.stackTraces = false) (F : zFx p s m meth c args cL_holds 21 (some .boolean) vL_holds A G) {a : zA} {σ : zSt} {κ : zCo}  (ht0 : zTx σ) (hg0 : core σ = κ) (hk0 : kOk κ) {x n t : Nat} (hx31 : x < 2 ^ 31) (hI : sInv (kL κ) n t) (hP : va_P G.1 vwCl (zw G a σ) H) (hD : va_D A (zw G a σ)) (hS : va_S A s.heap H locs) (hl : lv_has ls 21 [(0, .ref a.1), (1, .int (nI x)), (2, .int (nI n)), (3, .int (nI t)), (4, .int (fAbout (kL κ) (nI 11))), (5, .int (nI 1))]) (hcs : cells + 8 ≤ 1600 ∧ slots + 48 ≤ 9600)
    (kk : ∀ (σ₁ : zSt) (H₁ : Heap) (locs₁ : List Loc) (ls₁ : Array Slot), zTx σ₁ → core σ₁ = κ →  va_P G.1 vwCl (zw G a σ₁) H₁ → va_D A (zw G a σ₁) → va_S A s.heap H₁ locs₁ → lv_has ls₁ 21 [(0, .ref a.1), (1, .int (nI x)), (2, .int (nI n)), (3, .int (nI t)), (4, .int (fAbout (kL κ) (nI 11))), (5, .int (nI 1))] → W p l e rmL_holds s m args below meth c H₁ locs₁ (cells + 8) (slots + 48) Q (F0 m 1073 ls₁ [.int (nI 1)])) :
    W p l e rmL_holds s m args below meth c H locs cells slots Q (F0 m 1037 ls []) := by
  obtain ⟨hx, hb, hml, hr, hts, hown, hlocks, hE, hA, hA0, hN⟩ := id F
  have hok0 := yOk_of hk0 hg0 ht0
  have hn12 := hI.2.1
  have ht40 := hI.2.2.2.1
  refine lv_iload hx hb dL_holds_1037 (lv_at hl 5 rfl) ?_
  refine lv_if_eq (tgt := 1072) hx hb dL_holds_1039 (by decide) (fun z => absurd z (by decide)) (fun _ => ?_)
  refine lv_aload_n hx hb dL_holds_1042 rfl (lv_at hl 0 rfl) ?_
  refine lv_iconst (v := nI 2) hx hb dL_holds_1043 (by decide) ?_
  refine lv_iconst (v := nI 0) hx hb dL_holds_1044 (by decide) ?_
  refine lv_iconst (v := nI 0) hx hb dL_holds_1045 (by decide) ?_
  refine lv_iconst (v := nI 0) hx hb dL_holds_1046 (by decide) ?_
  refine zk_call1 (va_runS (As := [.ref a.1, .int (nI 2), .int (nI 0), .int (nI 0), .int (nI 0)]) (rest := []) ⟨hx, hb, hml, hown, hts⟩ (c_C_2 l G hst a σ hok0 (nI 0) (nI 0) (nI 0) _) (va_cwS 5 hts gL_holds_L_call rfl rfl rfl (by decide +kernel) ⟨Nat.le_of_ble_eq_true rfl, Nat.le_of_ble_eq_true rfl⟩) (zk_preSH hN hE hA0 hS hP hD) rfl rfl hl.1 rfl (lv_room (Nat.le_of_ble_eq_true rfl)) dL_holds_1047 ⟨by show cells + 4 ≤ 1600; omega, by show slots + 24 ≤ 9600; omega⟩) hP hD hS hA (fun r2 σ1 H locs hpost hP hD hS => ?_)
  refine zk_cs (cells + 4) (slots + 24) rfl rfl ?_
  have hP : va_P G.1 vwCl (zw G a σ1) H := hP
  have hD : va_D A (zw G a σ1) := hD
  obtain ⟨⟨er, ec⟩, ht0⟩ := hpost
  rw [hg0] at er ec
  have hg0 : core σ1 = κ := ec
  have hok0 := yOk_of hk0 hg0 ht0
  refine zk_top (er.trans (ra_about0 hI)) ?_
  refine lv_iload_n hx hb dL_holds_1050 rfl (lv_at hl 3 rfl) ?_
  refine lv_icmp_ne (tgt := 1072) hx hb dL_holds_1051 (by decide) (fun h => absurd rfl h) (fun _ => ?_)
  refine lv_aload_n hx hb dL_holds_1054 rfl (lv_at hl 0 rfl) ?_
  refine lv_iconst (v := nI 2) hx hb dL_holds_1055 (by decide) ?_
  refine lv_bipush (v := nI 11) hx hb dL_holds_1056 (by decide) ?_
  refine lv_iconst (v := nI 0) hx hb dL_holds_1058 (by decide) ?_
  refine lv_iconst (v := nI 0) hx hb dL_holds_1059 (by decide) ?_
  refine zk_call1 (va_runS (As := [.ref a.1, .int (nI 2), .int (nI 11), .int (nI 0), .int (nI 0)]) (rest := []) ⟨hx, hb, hml, hown, hts⟩ (c_C_2 l G hst a σ1 hok0 (nI 11) (nI 0) (nI 0) _) (va_cwS 5 hts gL_holds_L_call rfl rfl rfl (by decide +kernel) ⟨Nat.le_of_ble_eq_true rfl, Nat.le_of_ble_eq_true rfl⟩) (zk_preSH hN hE hA0 hS hP hD) rfl rfl hl.1 rfl (lv_room (Nat.le_of_ble_eq_true rfl)) dL_holds_1060 ⟨by show cells + 4 + 4 ≤ 1600; omega, by show slots + 24 + 24 ≤ 9600; omega⟩) hP hD hS hA (fun r4 σ3 H locs hpost hP hD hS => ?_)
  refine zk_cs (cells + 4 + 4) (slots + 24 + 24) rfl rfl ?_
  have hP : va_P G.1 vwCl (zw G a σ3) H := hP
  have hD : va_D A (zw G a σ3) := hD
  obtain ⟨⟨er, ec⟩, ht0⟩ := hpost
  rw [hg0] at er ec
  have hg0 : core σ3 = κ := ec
  have hok0 := yOk_of hk0 hg0 ht0
  refine zk_top (er) ?_
  refine lv_iload hx hb dL_holds_1063 (lv_at hl 4 rfl) ?_
  refine lv_icmp_ne (tgt := 1072) hx hb dL_holds_1065 (by decide) (fun h => absurd rfl h) (fun _ => ?_)
  refine lv_iconst (v := nI 1) hx hb dL_holds_1068 (by decide) ?_
  refine lv_goto (tgt := 1073) hx hb dL_holds_1069 (by decide) ?_
  refine W.widen (k := cells + 8) (n := slots + 48) (by omega) (by omega) ?_
  exact kk σ3 _ _ _ ht0 hg0 hP hD hS (lv_sub hl [0, 1, 2, 3, 4, 5] rfl)

/-- what stands behind the law's asking -/
noncomputable def kHold (κ : zCo) : zCo := if zN (kL κ) = 0 then κ else if zT (kL κ) < 40 then kU (kU κ) else kU κ
theorem zto_ok {L : zL} {n t c x : Nat} (hI : sInv L n t) (hc : c < n) : sfEnt L (nI c) (nI (x / 16 % 40)) (zto x) = 0 := by
  refine (if_neg (fun z => z.elim (fun y => y (nH_yes hI hc)) (fun y => y (nD_yes (Nat.mod_lt _ (by decide)))))).trans (if_pos ?_)
  have hf : x / 16 % 40 < 40 := Nat.mod_lt _ (by decide)
  unfold zto
  by_cases w : x / 1024 % 3 = 0
  · rw [if_pos w]
    exact Or.inl rfl
  · rw [if_neg w]
    have hm : x / 4096 % (40 - x / 16 % 40) < 40 - x / 16 % 40 := Nat.mod_lt _ (by omega)
    exact Or.inr ⟨nnlt (by omega) (by omega), nD_yes (by omega)⟩
set_option maxHeartbeats 8000000 in
set_option maxRecDepth 100000 in
theorem c_L_holds (l : Launch) (G : zk_G) (hst : l.stackTraces = false) (a : zA) (σ : zSt) (ht0 : zTx σ) (x : Nat) (hx31 : x < 2 ^ 31) {B : Int} (hz : kI B (core σ)) (hB : 9999 ≤ B) (hB2 : B ≤ 20000000) : zk_IH (S := zSt) l yL_holds vL_holds rmL_holds G [.ref a.1, .int (nI x)] (zw G a σ) (fun r σ' => (r = nI 1 ∧ core σ' = kHold (core σ)) ∧ zTx σ') (zw G a) := by
  refine zk_bodyIN (cc := cL_holds) (maxL := 21) (ret := (some .boolean)) (by decide) rfl (Nat.le_of_ble_eq_true rfl) ?_
  intro p E0 s m args below meth cd A ls Q hF hN hQ
  obtain ⟨hx, hb0, hml, hr, hts, hown, hlocks, -, hE, hP, hD, hS, hA, hA0, hl⟩ := hF
  have F : zFx p s m meth cd args cL_holds 21 (some .boolean) vL_holds A G := ⟨hx, hb0, hml, hr, hts, hown, hlocks, hE, hA, hA0, hN⟩
  have hl : lv_has ls 21 [(0, .ref a.1), (1, .int (nI x))] := hl
  obtain ⟨κ, hg0⟩ : ∃ κ, core σ = κ := ⟨_, rfl⟩
  rw [hg0] at hz hQ
  have hk0 : kOk κ := kI_ok hz
  have h := gE_at hz.1
  obtain ⟨n, en⟩ : ∃ n, zN (kL κ) = n := ⟨_, rfl⟩
  obtain ⟨t, et⟩ : ∃ t, zT (kL κ) = t := ⟨_, rfl⟩
  rw [en, et] at h
  have hI := h.1
  have hn12 := hI.2.1
  have ht40 := hI.2.2.2.1
  have hx0 := h.2.2.2.1
  have tail : ∀ (κ' : zCo), kL κ' = kL κ → kOk κ' → kHold κ = κ' → ∀ (σ : zSt) (H : Heap) (locs : List Loc) (ls : Array Slot) (cells slots : Nat), cells + 16 ≤ 1600 ∧ slots + 96 ≤ 9600 → zTx σ → core σ = κ' → va_P G.1 vwCl (zw G a σ) H → va_D A (zw G a σ) → va_S A s.heap H locs → lv_has ls 21 [(0, .ref a.1), (1, .int (nI x)), (2, .int (nI n)), (3, .int (nI t)), (4, .int (fAbout (kL κ) (nI 11))), (5, .int (nI 1))] → W p l E0 rmL_holds s m args below meth cd H locs cells slots Q (F0 m 982 ls []) := by
    intro κ' hL hk' hK σ H locs ls cells slots hcs ht0 hg0 hP hD hS hl
    rw [← hL] at hl
    have hI : sInv (kL κ') n t := by rw [hL]; exact hI
    refine zh_12 hst F ht0 hg0 hk' hx31 hI hP hD hS hl ⟨by omega, by omega⟩ (fun σ H locs ls ht0 hg0 hP hD hS hl => ?_)
    refine zh_13 hst F ht0 hg0 hk' hx31 hI hP hD hS hl ⟨by omega, by omega⟩ (fun σ H locs ls ht0 hg0 hP hD hS hl => ?_)
    refine zk_retz σ hQ hx hb0 hr hlocks hS hP hD ?_ ?_ dL_holds_1073 rfl ⟨⟨rfl, hg0.trans hK.symm⟩, ht0⟩
    · show cells + 8 + 8 ≤ 1600
      omega
    · show slots + 48 + 48 ≤ 9600
      omega
  have blockD : ∀ (σ : zSt) (H : Heap) (locs : List Loc) (ls : Array Slot) (cells slots : Nat), cells + 120 ≤ 1600 ∧ slots + 720 ≤ 9600 → zTx σ → core σ = κ → va_P G.1 vwCl (zw G a σ) H → va_D A (zw G a σ) → va_S A s.heap H locs → lv_has ls 21 [(0, .ref a.1), (1, .int (nI x)), (2, .int (nI n)), (3, .int (nI t)), (4, .int (fAbout (kL κ) (nI 11))), (5, .int (nI 1))] → W p l E0 rmL_holds s m args below meth cd H locs cells slots Q (F0 m 651 ls []) := by
    intro σ H locs ls cells slots hcs ht0 hg0 hP hD hS hl
    refine lv_iload_n hx hb0 dL_holds_651 rfl (lv_at hl 2 rfl) ?_
    refine lv_if_le (tgt := 982) hx hb0 dL_holds_652 (by decide) (fun h9 => ?_) (fun h9 => ?_)
    · have h9 := zk_le0 (by omega) h9
      exact tail κ rfl hk0 (if_pos (en.trans h9)) σ H locs ls cells slots (by omega) ht0 hg0 hP hD hS hl
    · have h9 := zk_nle0 (by omega) h9
      have hcn : x % n < n := Nat.mod_lt _ h9
      refine zh_7 hst F ht0 hg0 hk0 hx31 hI h9 hP hD hS hl ⟨by omega, by omega⟩ (fun σ H locs ls ht0 hg0 hP hD hS hl => ?_)
      obtain ⟨bj, hbj, ebj⟩ := hp_best (L := kL κ) (n := n) (t := t) n h9
      refine zh_8 (bj := bj) hst F ht0 hg0 hk0 hx31 hI (by rw [en, et]; exact ebj) hP hD hS hl ⟨by omega, by omega⟩ (fun σ H locs ls ht0 hg0 hP hD hS hl => ?_)
      have hz0 := zto_ok (x := x) hI hcn
      have hq1 := hp_ent (κ := κ) hz0
      have a1 := hp_ent11 h (by omega) (by omega) hcn (nI (x / 16 % 40)) (zto x) hz0
      have a2 := hp_ent3 h (by omega) (by omega) hcn (nI (x / 16 % 40)) (zto x)
      have hE1 : zI (B + 40000) (sEntitle (kL κ) (zT (kL κ)) (nI (x % n)).toNatClampNeg (nI (x / 16 % 40)) (zto x)) n t := by
        rw [nI_clamp (show x % n < 2 ^ 31 by omega), et]
        exact i_entitle h (by omega) (by omega) hcn _ _
      obtain ⟨m1, hm1, hu1⟩ := undo_rm hk0 (sEntitle (kL κ) (zT (kL κ)) (nI (x % n)).toNatClampNeg (nI (x / 16 % 40)) (zto x))
      refine zh_9 hst F ht0 hg0 hk0 hx31 hI (kOk_rm hk0 hE1) (kOk_U hk0) hq1 a1 a2 hu1 hm1 hbj hP hD hS hl ⟨by omega, by omega⟩ (fun σ H locs ls ht0 hg0 hP hD hS hl => ?_)
      by_cases w : t < 40
      · have hKe : kHold κ = kU (kU κ) := (if_neg (by omega)).trans (if_pos (by omega))
        have hIu : sInv (kL (kU κ)) n t := hI
        have hkU := kOk_U hk0
        have hd1 : fDays (nI (40 - t)) (kU κ) = (fIfPrice (kL κ) (fSetting (kL κ) (nI 0)), kRm (kU κ) (sDays n t (40 - t) (kL κ)).2) := by
          rw [hp_price h]
          exact hp_days hIu w
        have hD1 := i_days h hB (by omega) (40 - t) (by omega)
        have b1 := hp_days3 h hB (by omega)
        rw [← hp_price h] at b1
        have b2 := hp_days2 h hB (by omega)
        obtain ⟨m2, hm2, hu2⟩ := undo_rm hkU (sDays n t (40 - t) (kL κ)).2
        rcases hp_refused h hB (by omega) hcn with ⟨r1, r2⟩ | ⟨d, d1, r1, r2, r3⟩
        · rw [r1] at hl
          refine zh_10 (κ := kU κ) hst F ht0 hg0 hkU hx31 hIu w (kOk_rm hkU hD1) (kOk_U hkU) hd1 b1 b2 hu2 hm2 r2 hP hD hS (lv_sub (l' := [(0, .ref a.1), (1, .int (nI x)), (2, .int (nI n)), (3, .int (nI t)), (4, .int (fAbout (kL κ) (nI 11))), (5, .int (nI 1)), (12, .int (nI (x % n))), (16, .int (-1)), (17, .int (fIfPrice (kL κ) (fSetting (kL κ) (nI 0)))), (18, .int (fAbout (kL κ) (nI 3))), (19, .int (fChild (kL κ) (nI (x % n)) (nI 8)))]) hl [0, 1, 2, 3, 4, 5, 6, 10, 11, 12, 13] rfl) ⟨by omega, by omega⟩ (fun σ H locs ls ht0 hg0 hP hD hS hl => ?_)
          exact tail (kU (kU κ)) rfl (kOk_U hkU) hKe σ H locs ls _ _ (by omega) ht0 hg0 hP hD hS hl
        · rw [r1] at hl
          refine zh_11 (κ := kU κ) hst F ht0 hg0 hkU hx31 hIu w (kOk_rm hkU hD1) (kOk_U hkU) hd1 b1 b2 hu2 hm2 d1 r2 r3 hP hD hS (lv_sub (l' := [(0, .ref a.1), (1, .int (nI x)), (2, .int (nI n)), (3, .int (nI t)), (4, .int (fAbout (kL κ) (nI 11))), (5, .int (nI 1)), (12, .int (nI (x % n))), (16, .int (nI d)), (17, .int (fIfPrice (kL κ) (fSetting (kL κ) (nI 0)))), (18, .int (fAbout (kL κ) (nI 3))), (19, .int (fChild (kL κ) (nI (x % n)) (nI 8)))]) hl [0, 1, 2, 3, 4, 5, 6, 10, 11, 12, 13] rfl) ⟨by omega, by omega⟩ (fun σ H locs ls ht0 hg0 hP hD hS hl => ?_)
          exact tail (kU (kU κ)) rfl (kOk_U hkU) hKe σ H locs ls _ _ (by omega) ht0 hg0 hP hD hS hl
      · have hKe : kHold κ = kU κ := (if_neg (by omega)).trans (if_neg (by omega))
        refine lv_iload_n hx hb0 dL_holds_854 rfl (lv_at hl 3 rfl) ?_
        refine lv_bipush (v := nI 40) hx hb0 dL_holds_855 (by decide) ?_
        refine lv_icmp_ge (tgt := 982) hx hb0 dL_holds_857 (by decide) (fun _ => ?_) (fun h => absurd (zk_nle (by omega) (by omega) h) (by omega))
        exact tail (kU κ) rfl (kOk_U hk0) hKe σ H locs ls _ _ (by omega) ht0 hg0 hP hD hS (lv_sub hl [0, 1, 2, 3, 4, 5] rfl)
  have lC : (fun i => ∀ (σ : zSt) (H : Heap) (locs : List Loc) (ls : Array Slot) (cells slots : Nat), cells + (140 + 8 * (5 - i)) ≤ 1600 ∧ slots + (840 + 48 * (5 - i)) ≤ 9600 → zTx σ → core σ = κ → va_P G.1 vwCl (zw G a σ) H → va_D A (zw G a σ) → va_S A s.heap H locs → lv_has ls 21 [(0, .ref a.1), (1, .int (nI x)), (2, .int (nI n)), (3, .int (nI t)), (4, .int (fAbout (kL κ) (nI 11))), (5, .int (nI 1)), (10, .int (zs (fun k => fFamily (kL κ) (nI k) (nI 3)) i)), (11, .int (zs (fun k => fFamily (kL κ) (nI k) (nI 2)) i)), (12, .int (nI i))] → W p l E0 rmL_holds s m args below meth cd H locs cells slots Q (F0 m 587 ls [])) 0 := by
    refine zk_loop0 (V := fun i => ∀ (σ : zSt) (H : Heap) (locs : List Loc) (ls : Array Slot) (cells slots : Nat), cells + (140 + 8 * (5 - i)) ≤ 1600 ∧ slots + (840 + 48 * (5 - i)) ≤ 9600 → zTx σ → core σ = κ → va_P G.1 vwCl (zw G a σ) H → va_D A (zw G a σ) → va_S A s.heap H locs → lv_has ls 21 [(0, .ref a.1), (1, .int (nI x)), (2, .int (nI n)), (3, .int (nI t)), (4, .int (fAbout (kL κ) (nI 11))), (5, .int (nI 1)), (10, .int (zs (fun k => fFamily (kL κ) (nI k) (nI 3)) i)), (11, .int (zs (fun k => fFamily (kL κ) (nI k) (nI 2)) i)), (12, .int (nI i))] → W p l E0 rmL_holds s m args below meth cd H locs cells slots Q (F0 m 587 ls [])) (n := 5) ?_ ?_
    · intro σ H locs ls cells slots hcs ht0 hg0 hP hD hS hl
      refine lv_iload hx hb0 dL_holds_587 (lv_at hl 8 rfl) ?_
      refine lv_iconst (v := nI 5) hx hb0 dL_holds_589 (by decide) ?_
      refine lv_icmp_ge (tgt := 627) hx hb0 dL_holds_590 (by decide) (fun _ => ?_) (fun h => absurd (by decide) h)
      refine zh_6 hst F ht0 hg0 hk0 hx31 hI (hp_all h) (hp_debt h (by omega) (by omega)) hP hD hS hl ⟨by omega, by omega⟩ (fun σ H locs ls ht0 hg0 hP hD hS hl => ?_)
      exact blockD σ H locs ls _ _ (by omega) ht0 hg0 hP hD hS hl
    · intro i hi ih σ H locs ls cells slots hcs ht0 hg0 hP hD hS hl
      refine zh_5 hst F ht0 hg0 hk0 hx31 hI hi hP hD hS hl ⟨by omega, by omega⟩ (fun σ H locs ls ht0 hg0 hP hD hS hl => ?_)
      exact ih σ H locs ls _ _ (by omega) ht0 hg0 hP hD hS hl
  have lB : (fun i => ∀ (σ : zSt) (H : Heap) (locs : List Loc) (ls : Array Slot) (cells slots : Nat), cells + (200 + 40 * (n - i)) ≤ 1600 ∧ slots + (1200 + 240 * (n - i)) ≤ 9600 → zTx σ → core σ = κ → va_P G.1 vwCl (zw G a σ) H → va_D A (zw G a σ) → va_S A s.heap H locs → lv_has ls 21 [(0, .ref a.1), (1, .int (nI x)), (2, .int (nI n)), (3, .int (nI t)), (4, .int (fAbout (kL κ) (nI 11))), (5, .int (nI 1)), (7, .int (zs (fun k => fDay (kL κ) (nI k) (nI 3)) 40)), (8, .int (zs (fun k => fChild (kL κ) (nI k) (nI 2)) i)), (9, .int (zs (fun k => fChild (kL κ) (nI k) (nI 7)) i)), (10, .int (nI i))] → W p l E0 rmL_holds s m args below meth cd H locs cells slots Q (F0 m 276 ls [])) 0 := by
    refine zk_loop0 (V := fun i => ∀ (σ : zSt) (H : Heap) (locs : List Loc) (ls : Array Slot) (cells slots : Nat), cells + (200 + 40 * (n - i)) ≤ 1600 ∧ slots + (1200 + 240 * (n - i)) ≤ 9600 → zTx σ → core σ = κ → va_P G.1 vwCl (zw G a σ) H → va_D A (zw G a σ) → va_S A s.heap H locs → lv_has ls 21 [(0, .ref a.1), (1, .int (nI x)), (2, .int (nI n)), (3, .int (nI t)), (4, .int (fAbout (kL κ) (nI 11))), (5, .int (nI 1)), (7, .int (zs (fun k => fDay (kL κ) (nI k) (nI 3)) 40)), (8, .int (zs (fun k => fChild (kL κ) (nI k) (nI 2)) i)), (9, .int (zs (fun k => fChild (kL κ) (nI k) (nI 7)) i)), (10, .int (nI i))] → W p l E0 rmL_holds s m args below meth cd H locs cells slots Q (F0 m 276 ls [])) (n := n) ?_ ?_
    · intro σ H locs ls cells slots hcs ht0 hg0 hP hD hS hl
      refine lv_iload hx hb0 dL_holds_276 (lv_at hl 9 rfl) ?_
      refine lv_iload_n hx hb0 dL_holds_278 rfl (lv_at hl 2 rfl) ?_
      refine lv_icmp_ge (tgt := 552) hx hb0 dL_holds_279 (by decide) (fun _ => ?_) (fun h => absurd (Int32.le_refl _) h)
      refine zh_4 hst F ht0 hg0 hk0 hx31 hI (hp_sum h) ((hp_pays h).trans (hp_chg hI).symm) hP hD hS hl ⟨by omega, by omega⟩ (fun σ H locs ls ht0 hg0 hP hD hS hl => ?_)
      exact lC σ H locs ls _ _ (by omega) ht0 hg0 hP hD hS hl
    · intro i hi ih σ H locs ls cells slots hcs ht0 hg0 hP hD hS hl
      obtain ⟨d, hdd⟩ : ∃ d, (x % 40 + i) % 40 = d := ⟨_, rfl⟩
      have hd40 : d < 40 := by rw [← hdd]; exact Nat.mod_lt _ (by decide)
      refine zh_b hst F ht0 hg0 hk0 hx31 hI hi hdd hd40 hP hD hS hl ⟨by omega, by omega⟩ (fun σ H locs ls ht0 hg0 hP hD hS hl => ?_)
      have cw := hx0.2.2.1 i d hi hd40
      have cn := hx0.2.2.2 i d hi hd40
      obtain ⟨k, k5, ek⟩ := h.2.1.2.2.1 (i * 40 + d) (by omega)
      have hlt : ¬ (k = 0 ∨ k = 1) → d < t := fun z => by
        refine Nat.lt_of_not_le (fun y => z ?_)
        rcases h.2.2.1 i d hi y hd40 with e | e
        · exact Or.inl (zk_eq (by omega) (by decide) (ek.symm.trans e))
        · exact Or.inr (zk_eq (by omega) (by decide) (ek.symm.trans e))
      have py : ¬ k = 2 → (if kL κ 9 (i * 40 + d) = nI 2 then kL κ 11 (i * 40 + d) else -1) = -1 := fun z => if_neg (fun e => z (zk_eq (by omega) (by decide) (ek.symm.trans e)))
      rcases (show k = 0 ∨ k = 1 ∨ k = 2 ∨ k = 3 ∨ k = 4 ∨ k = 5 by omega) with rfl | rfl | rfl | rfl | rfl | rfl
      · rw [py (by decide), ek] at hl
        refine zh_k0 hst F ht0 hg0 hk0 hx31 hI hi hd40 ek hP hD hS hl ⟨by omega, by omega⟩ (fun σ H locs ls ht0 hg0 hP hD hS hl => ?_)
        exact ih σ H locs ls _ _ (by omega) ht0 hg0 hP hD hS hl
      · rw [py (by decide), ek] at hl
        have hdt : t ≤ d := Nat.le_of_not_lt (fun z => hx0.2.1 i d hi z hd40 ek)
        refine zh_k1 hst F ht0 hg0 hk0 hx31 hI hi hd40 ek hdt hP hD hS hl ⟨by omega, by omega⟩ (fun σ H locs ls ht0 hg0 hP hD hS hl => ?_)
        exact ih σ H locs ls _ _ (by omega) ht0 hg0 hP hD hS hl
      · obtain ⟨⟨j, j1, j2, j3⟩, q, q1, q2, q3⟩ := cw.1 ek
        rw [show (if kL κ 9 (i * 40 + d) = nI 2 then kL κ 11 (i * 40 + d) else -1) = nI j from (if_pos ek).trans j2, show (if sEnt (kL κ) i d then nI 1 else nI 0) = nI 0 from if_neg (cn.1 ek), ek] at hl
        refine zh_k2 hst F ht0 hg0 hk0 hx31 hI hi hd40 ek (hlt (by decide)) j1 j3 q1 q2 q3 hP hD hS hl ⟨by omega, by omega⟩ (fun σ H locs ls ht0 hg0 hP hD hS hl => ?_)
        exact ih σ H locs ls _ _ (by omega) ht0 hg0 hP hD hS hl
      · rw [py (by decide), show (if sEnt (kL κ) i d then nI 1 else nI 0) = nI 1 from if_pos (cn.2 ek), ek] at hl
        refine zh_k3 hst F ht0 hg0 hk0 hx31 hI hi hd40 ek (hlt (by decide)) hP hD hS hl ⟨by omega, by omega⟩ (fun σ H locs ls ht0 hg0 hP hD hS hl => ?_)
        exact ih σ H locs ls _ _ (by omega) ht0 hg0 hP hD hS hl
      · rw [py (by decide), ek] at hl
        refine zh_k4 hst F ht0 hg0 hk0 hx31 hI hi hd40 ek (hlt (by decide)) hP hD hS hl ⟨by omega, by omega⟩ (fun σ H locs ls ht0 hg0 hP hD hS hl => ?_)
        exact ih σ H locs ls _ _ (by omega) ht0 hg0 hP hD hS hl
      · rw [py (by decide), ek] at hl
        refine zh_k5 hst F ht0 hg0 hk0 hx31 hI hi hd40 ek (hlt (by decide)) (cw.2 ek) hP hD hS hl ⟨by omega, by omega⟩ (fun σ H locs ls ht0 hg0 hP hD hS hl => ?_)
        exact ih σ H locs ls _ _ (by omega) ht0 hg0 hP hD hS hl
  have lA : (fun i => ∀ (σ : zSt) (H : Heap) (locs : List Loc) (ls : Array Slot) (cells slots : Nat), cells + (720 + 20 * (40 - i)) ≤ 1600 ∧ slots + (4320 + 120 * (40 - i)) ≤ 9600 → zTx σ → core σ = κ → va_P G.1 vwCl (zw G a σ) H → va_D A (zw G a σ) → va_S A s.heap H locs → lv_has ls 21 [(0, .ref a.1), (1, .int (nI x)), (2, .int (nI n)), (3, .int (nI t)), (4, .int (fAbout (kL κ) (nI 11))), (5, .int (nI 1)), (6, .int (zs (fun k => fDay (kL κ) (nI k) (nI 1)) i)), (7, .int (zs (fun k => fDay (kL κ) (nI k) (nI 3)) i)), (8, .int (nI i))] → W p l E0 rmL_holds s m args below meth cd H locs cells slots Q (F0 m 107 ls [])) 0 := by
    refine zk_loop0 (V := fun i => ∀ (σ : zSt) (H : Heap) (locs : List Loc) (ls : Array Slot) (cells slots : Nat), cells + (720 + 20 * (40 - i)) ≤ 1600 ∧ slots + (4320 + 120 * (40 - i)) ≤ 9600 → zTx σ → core σ = κ → va_P G.1 vwCl (zw G a σ) H → va_D A (zw G a σ) → va_S A s.heap H locs → lv_has ls 21 [(0, .ref a.1), (1, .int (nI x)), (2, .int (nI n)), (3, .int (nI t)), (4, .int (fAbout (kL κ) (nI 11))), (5, .int (nI 1)), (6, .int (zs (fun k => fDay (kL κ) (nI k) (nI 1)) i)), (7, .int (zs (fun k => fDay (kL κ) (nI k) (nI 3)) i)), (8, .int (nI i))] → W p l E0 rmL_holds s m args below meth cd H locs cells slots Q (F0 m 107 ls [])) (n := 40) ?_ ?_
    · intro σ H locs ls cells slots hcs ht0 hg0 hP hD hS hl
      refine lv_iload hx hb0 dL_holds_107 (lv_at hl 8 rfl) ?_
      refine lv_bipush (v := nI 40) hx hb0 dL_holds_109 (by decide) ?_
      refine lv_icmp_ge (tgt := 199) hx hb0 dL_holds_111 (by decide) (fun _ => ?_) (fun h => absurd (by decide) h)
      refine zh_3 hst F ht0 hg0 hk0 hx31 hI (hp_chg hI) (hp_meals h) hP hD hS hl ⟨by omega, by omega⟩ (fun σ H locs ls ht0 hg0 hP hD hS hl => ?_)
      exact lB σ H locs ls _ _ (by omega) ht0 hg0 hP hD hS hl
    · intro i hi ih σ H locs ls cells slots hcs ht0 hg0 hP hD hS hl
      refine zh_2 hst F ht0 hg0 hk0 hx31 hI hi (fun z => hp_d0 h hi z) hP hD hS hl ⟨by omega, by omega⟩ (fun σ H locs ls ht0 hg0 hP hD hS hl => ?_)
      exact ih σ H locs ls _ _ (by omega) ht0 hg0 hP hD hS hl
  refine zh_1 hst F ht0 hg0 hk0 hx31 hI (hp_money h) (hp_srv hI) hP hD hS hl ⟨by decide, by decide⟩ (fun σ H locs ls ht0 hg0 hP hD hS hl => ?_)
  refine lv_iconst (v := nI 0) hx hb0 dL_holds_98 (by decide) ?_
  refine lv_istore (lv' := [(6, .int (nI 0)), (0, .ref a.1), (1, .int (nI x)), (2, .int (nI n)), (3, .int (nI t)), (4, .int (fAbout (kL κ) (nI 11))), (5, .int (nI 1))]) hx hb0 dL_holds_99 hl (by decide) rfl (fun ls hl => ?_)
  refine lv_iconst (v := nI 0) hx hb0 dL_holds_101 (by decide) ?_
  refine lv_istore (lv' := [(7, .int (nI 0)), (6, .int (nI 0)), (0, .ref a.1), (1, .int (nI x)), (2, .int (nI n)), (3, .int (nI t)), (4, .int (fAbout (kL κ) (nI 11))), (5, .int (nI 1))]) hx hb0 dL_holds_102 hl (by decide) rfl (fun ls hl => ?_)
  refine lv_iconst (v := nI 0) hx hb0 dL_holds_104 (by decide) ?_
  refine lv_istore (lv' := [(8, .int (nI 0)), (7, .int (nI 0)), (6, .int (nI 0)), (0, .ref a.1), (1, .int (nI x)), (2, .int (nI n)), (3, .int (nI t)), (4, .int (fAbout (kL κ) (nI 11))), (5, .int (nI 1))]) hx hb0 dL_holds_105 hl (by decide) rfl (fun ls hl => ?_)
  exact lA σ H locs ls _ _ (by omega) ht0 hg0 hP hD hS (lv_sub hl [3, 4, 5, 6, 7, 8, 2, 1, 0] rfl)

