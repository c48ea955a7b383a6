/-! The law, piece by piece. -/
set_option maxHeartbeats 4000000 in
set_option maxRecDepth 100000 in
theorem zs_1 {p : Program} {l : Launch} {e : Env} {s : State} {m : MethodId} {args : Array Value} {below : List Frame} {meth : Method} {c : Code} {Q : State → Prop} {A : Nat → Prop} {G : zk_G} {H : Heap} {locs : List Loc} {cells slots : Nat} {ls : Array Slot} (hst : l.stackTraces = false) (F : zFx p s m meth c args cL_law 10 (some .boolean) lw_tbl A G) {a : zA} {b : zA} {σ : zSt} {τ : zSt} {κ : zCo} {κ1 : zCo} (ht0 : zTx σ) (hg0 : core σ = κ) (ht1 : zTx τ) (hg1 : core τ = κ) (hk0 : kOk κ) {bs Ls i x y : Nat} {xs : Nat → Int32} {rv : Int32} (hi : i < 30) (hLs : Ls ≤ 260) (hX : va_X bs Ls xs s s.heap) (hbl : bs < s.heap.size) (hbA : ¬ A bs) (hcx : cellN xs Ls (2 * i) = x) (hcy : cellN xs Ls (2 * i + 1) = y) (hx31 : x < 2 ^ 31) (hy31 : y < 2 ^ 31) (hk1 : kOk κ1) (hq1 : kAct (x % 24) y κ = (rv, κ1)) (hbal_0 : ∀ c, c < zN (kL κ) → bB 1000000000 (kL κ 3 c)) (hbal_1 : ∀ c, c < zN (kL κ1) → bB 1000000000 (kL κ1 3 c)) (hP : va_P G.1 vwCl (zw G a σ ++ zw G b τ) H) (hD : va_D A (zw G a σ ++ zw G b τ)) (hS : va_S A s.heap H locs) (hl : lv_has ls 10 [(0, .ref bs), (1, .ref a.1), (2, .ref b.1), (3, .int (nI 1)), (4, .int (nI i))]) (hcs : cells + 1460 ≤ 600130 ∧ slots + 8760 ≤ 7301080)
    (kk : ∀ (σ₁ : zSt) (τ₁ : zSt) (H₁ : Heap) (locs₁ : List Loc) (ls₁ : Array Slot), zTx σ₁ → core σ₁ = κ1 → zTx τ₁ → core τ₁ = κ1 →  va_P G.1 vwCl (zw G a σ₁ ++ zw G b τ₁) H₁ → va_D A (zw G a σ₁ ++ zw G b τ₁) → va_S A s.heap H₁ locs₁ → lv_has ls₁ 10 [(0, .ref bs), (1, .ref a.1), (2, .ref b.1), (3, .int (nI 1)), (4, .int (nI i)), (5, .int (nI x)), (6, .int (nI y))] → W p l e room_1 s m args below meth c H₁ locs₁ (cells + 1460) (slots + 8760) Q (F0 m 107 ls₁ [])) :
    W p l e room_1 s m args below meth c H locs cells slots Q (F0 m 28 ls []) := by
  obtain ⟨hx, hb, hml, hr, hts, hown, hlocks, hE, hA, hA0, hN⟩ := id F
  have hok0 := yOk_of hk0 hg0 ht0
  have hok1 := yOk_of hk0 hg1 ht1
  refine lv_iload_n hx hb dL_law_28 rfl (lv_at hl 3 rfl) ?_
  refine lv_if_eq (tgt := 242) hx hb dL_law_29 (by decide) (fun z => absurd z (by decide)) (fun _ => ?_)
  refine lv_aload_n hx hb dL_law_32 rfl (lv_at hl 0 rfl) ?_
  refine lv_iconst (v := nI 2) hx hb dL_law_33 (by decide) ?_
  refine lv_iload hx hb dL_law_34 (lv_at hl 4 rfl) ?_
  refine zk_imulN hx hb dL_law_36 ?_
  refine zk_callI (S := Unit) (wc := []) (wr := zw G a σ ++ zw G b τ) (va_runS (As := [.ref bs, .int (nI (2 * i))]) (rest := []) ⟨hx, hb, hml, hown, hts⟩ (c_L_cell l G bs Ls xs hLs (2 * i) (by omega) _) (va_cwS 2 hts gL_law_L_cell rfl rfl rfl (by decide +kernel) ⟨Nat.le_of_ble_eq_true rfl, Nat.le_of_ble_eq_true rfl⟩) (zk_preSC hE hA0 hS hX hbl hbA) rfl rfl hl.1 rfl (lv_room (Nat.le_of_ble_eq_true rfl)) dL_law_37 ⟨by show cells + 0 ≤ 600130; omega, by show slots + 0 ≤ 7301080; omega⟩) hP hD hS hA (fun r u H locs er hP hD hS => ?_)
  have hP : va_P G.1 vwCl (zw G a σ ++ zw G b τ) H := hP
  have hD : va_D A (zw G a σ ++ zw G b τ) := hD
  refine zk_cs (cells) (slots) rfl rfl ?_
  have er : r = nI (cellN xs Ls (2 * i)) := er
  rw [hcx] at er
  refine zk_top er ?_
  refine lv_istore (lv' := [(5, .int (nI x)), (0, .ref bs), (1, .ref a.1), (2, .ref b.1), (3, .int (nI 1)), (4, .int (nI i))]) hx hb dL_law_40 hl (by decide) rfl (fun ls hl => ?_)
  refine lv_aload_n hx hb dL_law_42 rfl (lv_at hl 1 rfl) ?_
  refine lv_iconst (v := nI 2) hx hb dL_law_43 (by decide) ?_
  refine lv_iload hx hb dL_law_44 (lv_at hl 5 rfl) ?_
  refine zk_imulN hx hb dL_law_46 ?_
  refine lv_iconst (v := nI 1) hx hb dL_law_47 (by decide) ?_
  refine zk_iaddN hx hb dL_law_48 ?_
  refine zk_callI (S := Unit) (wc := []) (wr := zw G a σ ++ zw G b τ) (va_runS (As := [.ref bs, .int (nI ((2 * i) + 1))]) (rest := []) ⟨hx, hb, hml, hown, hts⟩ (c_L_cell l G bs Ls xs hLs ((2 * i) + 1) (by omega) _) (va_cwS 2 hts gL_law_L_cell rfl rfl rfl (by decide +kernel) ⟨Nat.le_of_ble_eq_true rfl, Nat.le_of_ble_eq_true rfl⟩) (zk_preSC hE hA0 hS hX hbl hbA) rfl rfl hl.1 rfl (lv_room (Nat.le_of_ble_eq_true rfl)) dL_law_49 ⟨by show cells + 0 ≤ 600130; omega, by show slots + 0 ≤ 7301080; omega⟩) hP hD hS hA (fun r u H locs er hP hD hS => ?_)
  have hP : va_P G.1 vwCl (zw G a σ ++ zw G b τ) H := hP
  have hD : va_D A (zw G a σ ++ zw G b τ) := hD
  refine zk_cs (cells) (slots) rfl rfl ?_
  have er : r = nI (cellN xs Ls ((2 * i) + 1)) := er
  rw [hcy] at er
  refine zk_top er ?_
  refine lv_istore (lv' := [(6, .int (nI y)), (5, .int (nI x)), (0, .ref bs), (1, .ref a.1), (2, .ref b.1), (3, .int (nI 1)), (4, .int (nI i))]) hx hb dL_law_52 hl (by decide) rfl (fun ls hl => ?_)
  refine lv_aload_n hx hb dL_law_54 rfl (lv_at hl 3 rfl) ?_
  refine lv_iload hx hb dL_law_55 (lv_at hl 1 rfl) ?_
  refine zk_callI (wr := zw G b τ) (va_runS (As := [.ref a.1, .int (nI x)]) (rest := []) ⟨hx, hb, hml, hown, hts⟩ (c_L_refuses l G hst a σ hok0 x hx31 (by rw [hg0]; exact hbal_0) _) (va_cwS 2 hts gL_law_L_refuses rfl rfl rfl (by decide +kernel) ⟨Nat.le_of_ble_eq_true rfl, Nat.le_of_ble_eq_true rfl⟩) (zk_preSH hN hE hA0 hS (zk_Papp hP).1 (zk_Dapp hD).1) rfl rfl hl.1 rfl (lv_room (Nat.le_of_ble_eq_true rfl)) dL_law_57 ⟨by show cells + 300 ≤ 600130; omega, by show slots + 1800 ≤ 7301080; omega⟩) hP hD hS hA (fun r σ1 H locs hpost hP hD hS => ?_)
  refine zk_cs (cells + 300) (slots + 1800) rfl rfl ?_
  have hP : va_P G.1 vwCl (zw G a σ1 ++ zw G b τ) H := hP
  have hD : va_D A (zw G a σ1 ++ zw G b τ) := hD
  obtain ⟨⟨er, ec⟩, ht0⟩ := hpost
  rw [hg0] at ec
  have hg0 : core σ1 = κ := ec
  have hok0 := yOk_of hk0 hg0 ht0
  refine zk_top er ?_
  refine lv_if_eq (tgt := 105) hx hb dL_law_60 (by decide) (fun z => absurd z (by decide)) (fun _ => ?_)
  refine lv_aload_n hx hb dL_law_63 rfl (lv_at hl 3 rfl) ?_
  refine lv_iload hx hb dL_law_64 (lv_at hl 1 rfl) ?_
  refine lv_iload hx hb dL_law_66 (lv_at hl 0 rfl) ?_
  refine zk_callI (wr := zw G b τ) (va_runS (As := [.ref a.1, .int (nI x), .int (nI y)]) (rest := []) ⟨hx, hb, hml, hown, hts⟩ (c_L_act l G hst a σ1 hok0 x y hx31 hy31 _) (va_cwS 3 hts gL_law_L_act rfl rfl rfl (by decide +kernel) ⟨Nat.le_of_ble_eq_true rfl, Nat.le_of_ble_eq_true rfl⟩) (zk_preSH hN hE hA0 hS (zk_Papp hP).1 (zk_Dapp hD).1) rfl rfl hl.1 rfl (lv_room (Nat.le_of_ble_eq_true rfl)) dL_law_68 ⟨by show cells + 300 + 30 ≤ 600130; omega, by show slots + 1800 + 180 ≤ 7301080; omega⟩) hP hD hS hA (fun r σ2 H locs hpost hP hD hS => ?_)
  refine zk_cs (cells + 300 + 30) (slots + 1800 + 180) rfl rfl ?_
  have hP : va_P G.1 vwCl (zw G a σ2 ++ zw G b τ) H := hP
  have hD : va_D A (zw G a σ2 ++ zw G b τ) := hD
  obtain ⟨⟨er, ec⟩, ht0⟩ := hpost
  rw [hg0] at ec
  rw [hg0] at er
  rw [hq1] at er ec
  have er : r = rv := er
  have hg0 : core σ2 = κ1 := ec
  have hok0 := yOk_of hk1 hg0 ht0
  refine zk_top er ?_
  refine lv_aload_n hx hb dL_law_71 rfl (lv_at hl 4 rfl) ?_
  refine lv_iload hx hb dL_law_72 (lv_at hl 1 rfl) ?_
  refine lv_iload hx hb dL_law_74 (lv_at hl 0 rfl) ?_
  refine zk_callB (wr := zw G a σ2) (va_runS (As := [.ref b.1, .int (nI x), .int (nI y)]) (rest := [.int rv]) ⟨hx, hb, hml, hown, hts⟩ (c_L_act l G hst b τ hok1 x y hx31 hy31 _) (va_cwS 3 hts gL_law_L_act rfl rfl rfl (by decide +kernel) ⟨Nat.le_of_ble_eq_true rfl, Nat.le_of_ble_eq_true rfl⟩) (zk_preSH hN hE hA0 hS (zk_Papp hP).2 (zk_Dapp hD).2) rfl rfl hl.1 rfl (lv_room (Nat.le_of_ble_eq_true rfl)) dL_law_76 ⟨by show cells + 300 + 30 + 30 ≤ 600130; omega, by show slots + 1800 + 180 + 180 ≤ 7301080; omega⟩) hP hD hS hA (fun r τ3 H locs hpost hP hD hS => ?_)
  refine zk_cs (cells + 300 + 30 + 30) (slots + 1800 + 180 + 180) rfl rfl ?_
  have hP : va_P G.1 vwCl (zw G a σ2 ++ zw G b τ3) H := hP
  have hD : va_D A (zw G a σ2 ++ zw G b τ3) := hD
  obtain ⟨⟨er, ec⟩, ht1⟩ := hpost
  rw [hg1] at ec
  rw [hg1] at er
  rw [hq1] at er ec
  have er : r = rv := er
  have hg1 : core τ3 = κ1 := ec
  have hok1 := yOk_of hk1 hg1 ht1
  refine zk_top er ?_
  refine lv_icmp_ne (tgt := 105) hx hb dL_law_79 (by decide) (fun h => absurd rfl h) (fun _ => ?_)
  refine lv_aload_n hx hb dL_law_82 rfl (lv_at hl 3 rfl) ?_
  refine lv_iload hx hb dL_law_83 (lv_at hl 0 rfl) ?_
  refine zk_callI (wr := zw G b τ3) (va_runS (As := [.ref a.1, .int (nI y)]) (rest := []) ⟨hx, hb, hml, hown, hts⟩ (c_L_refuses l G hst a σ2 hok0 y hy31 (by rw [hg0]; exact hbal_1) _) (va_cwS 2 hts gL_law_L_refuses rfl rfl rfl (by decide +kernel) ⟨Nat.le_of_ble_eq_true rfl, Nat.le_of_ble_eq_true rfl⟩) (zk_preSH hN hE hA0 hS (zk_Papp hP).1 (zk_Dapp hD).1) rfl rfl hl.1 rfl (lv_room (Nat.le_of_ble_eq_true rfl)) dL_law_85 ⟨by show cells + 300 + 30 + 30 + 300 ≤ 600130; omega, by show slots + 1800 + 180 + 180 + 1800 ≤ 7301080; omega⟩) hP hD hS hA (fun r σ4 H locs hpost hP hD hS => ?_)
  refine zk_cs (cells + 300 + 30 + 30 + 300) (slots + 1800 + 180 + 180 + 1800) rfl rfl ?_
  have hP : va_P G.1 vwCl (zw G a σ4 ++ zw G b τ3) H := hP
  have hD : va_D A (zw G a σ4 ++ zw G b τ3) := hD
  obtain ⟨⟨er, ec⟩, ht0⟩ := hpost
  rw [hg0] at ec
  have hg0 : core σ4 = κ1 := ec
  have hok0 := yOk_of hk1 hg0 ht0
  refine zk_top er ?_
  refine lv_if_eq (tgt := 105) hx hb dL_law_88 (by decide) (fun z => absurd z (by decide)) (fun _ => ?_)
  refine lv_aload_n hx hb dL_law_91 rfl (lv_at hl 3 rfl) ?_
  refine lv_aload_n hx hb dL_law_92 rfl (lv_at hl 4 rfl) ?_
  refine lv_iload hx hb dL_law_93 (lv_at hl 1 rfl) ?_
  refine zk_call1 (va_runS (As := [.ref a.1, .ref b.1, .int (nI x)]) (rest := []) ⟨hx, hb, hml, hown, hts⟩ (c_L_alike l G hst a b σ4 τ3 hok0 hok1 (hg1.trans hg0.symm) x hx31 _) (va_cwS 3 hts gL_law_L_alike rfl rfl rfl (by decide +kernel) ⟨Nat.le_of_ble_eq_true rfl, Nat.le_of_ble_eq_true rfl⟩) (zk_preSH hN hE hA0 hS hP hD) rfl rfl hl.1 rfl (lv_room (Nat.le_of_ble_eq_true rfl)) dL_law_95 ⟨by show cells + 300 + 30 + 30 + 300 + 800 ≤ 600130; omega, by show slots + 1800 + 180 + 180 + 1800 + 4800 ≤ 7301080; omega⟩) hP hD hS hA (fun r u H locs hpost hP hD hS => ?_)
  obtain ⟨σ5, τ6⟩ := u
  refine zk_cs (cells + 300 + 30 + 30 + 300 + 800) (slots + 1800 + 180 + 180 + 1800 + 4800) rfl rfl ?_
  have hP : va_P G.1 vwCl (zw G a σ5 ++ zw G b τ6) H := hP
  have hD : va_D A (zw G a σ5 ++ zw G b τ6) := hD
  obtain ⟨⟨er, ec, ed⟩, ht0, ht1⟩ := hpost
  rw [hg0] at ec ed
  have hg0 : core σ5 = κ1 := ec
  have hg1 : core τ6 = κ1 := ed
  have hok0 := yOk_of hk1 hg0 ht0
  have hok1 := yOk_of hk1 hg1 ht1
  refine zk_top er ?_
  refine lv_if_eq (tgt := 105) hx hb dL_law_98 (by decide) (fun z => absurd z (by decide)) (fun _ => ?_)
  refine lv_iconst (v := nI 1) hx hb dL_law_101 (by decide) ?_
  refine lv_goto (tgt := 106) hx hb dL_law_102 (by decide) ?_
  refine lv_istore_n (lv' := [(3, .int (nI 1)), (6, .int (nI y)), (5, .int (nI x)), (0, .ref bs), (1, .ref a.1), (2, .ref b.1), (4, .int (nI i))]) hx hb dL_law_106 rfl hl (by decide) rfl (fun ls hl => ?_)
  refine W.widen (k := cells + 1460) (n := slots + 8760) (by omega) (by omega) ?_
  exact kk σ5 τ6 _ _ _ ht0 hg0 ht1 hg1 hP hD hS (lv_sub hl [3, 4, 5, 0, 6, 2, 1] rfl)

set_option maxHeartbeats 4000000 in
set_option maxRecDepth 100000 in
theorem zs_2 {p : Program} {l : Launch} {e : Env} {s : State} {m : MethodId} {args : Array Value} {below : List Frame} {meth : Method} {c : Code} {Q : State → Prop} {A : Nat → Prop} {G : zk_G} {H : Heap} {locs : List Loc} {cells slots : Nat} {ls : Array Slot} (hst : l.stackTraces = false) (F : zFx p s m meth c args cL_law 10 (some .boolean) lw_tbl A G) {a : zA} {b : zA} {σ : zSt} {τ : zSt} {κ : zCo}  (ht0 : zTx σ) (hg0 : core σ = κ) (ht1 : zTx τ) (hg1 : core τ = κ) (hk0 : kOk κ) {bs i x y : Nat} (hx31 : x < 2 ^ 31) (hy31 : y < 2 ^ 31) (hk1 : kOk (kHold κ)) {BB : Int} (hz : kI BB κ) (hB : 9999 ≤ BB) (hB2 : BB ≤ 20000000) (hP : va_P G.1 vwCl (zw G a σ ++ zw G b τ) H) (hD : va_D A (zw G a σ ++ zw G b τ)) (hS : va_S A s.heap H locs) (hl : lv_has ls 10 [(0, .ref bs), (1, .ref a.1), (2, .ref b.1), (3, .int (nI 1)), (4, .int (nI i)), (5, .int (nI x)), (6, .int (nI y))]) (hcs : cells + 4004 ≤ 600130 ∧ slots + 24024 ≤ 7301080)
    (kk : ∀ (σ₁ : zSt) (τ₁ : zSt) (H₁ : Heap) (locs₁ : List Loc) (ls₁ : Array Slot), zTx σ₁ → core σ₁ = kHold κ → zTx τ₁ → core τ₁ = kHold κ →  va_P G.1 vwCl (zw G a σ₁ ++ zw G b τ₁) H₁ → va_D A (zw G a σ₁ ++ zw G b τ₁) → va_S A s.heap H₁ locs₁ → lv_has ls₁ 10 [(0, .ref bs), (1, .ref a.1), (2, .ref b.1), (3, .int (nI 1)), (4, .int (nI i))] → W p l e room_1 s m args below meth c H₁ locs₁ (cells + 4004) (slots + 24024) Q (F0 m 236 ls₁ [])) :
    W p l e room_1 s m args below meth c H locs cells slots Q (F0 m 115 ls []) := by
  obtain ⟨hx, hb, hml, hr, hts, hown, hlocks, hE, hA, hA0, hN⟩ := id F
  have hok0 := yOk_of hk0 hg0 ht0
  have hok1 := yOk_of hk0 hg1 ht1
  have w1 := hts _ (in0_wsL_law0_r1 _ (List.mem_of_getElem? (l := wsL_law0_r1) (i := 3) rfl))
  have w2 := hts _ (in0_wsL_law0_r1 _ (List.mem_of_getElem? (l := wsL_law0_r1) (i := 4) rfl))
  have w3 := hts _ (in0_wsL_law0_r1 _ (List.mem_of_getElem? (l := wsL_law0_r1) (i := 5) rfl))
  refine lv_iload_n hx hb dL_law_115 rfl (lv_at hl 3 rfl) ?_
  refine lv_if_eq (tgt := 236) hx hb dL_law_116 (by decide) (fun z => absurd z (by decide)) (fun _ => ?_)
  refine lv_aload_n hx hb dL_law_119 rfl (lv_at hl 1 rfl) ?_
  refine lv_iload hx hb dL_law_120 (lv_at hl 6 rfl) ?_
  refine zk_callI (wr := zw G b τ) (va_runS (As := [.ref a.1, .int (nI y)]) (rest := []) ⟨hx, hb, hml, hown, hts⟩ (c_L_holds l G hst a σ ht0 y hy31 (by rw [hg0]; exact hz) hB hB2 _) (va_cwS 2 hts gL_law_L_holds rfl rfl rfl (by decide +kernel) ⟨Nat.le_of_ble_eq_true rfl, Nat.le_of_ble_eq_true rfl⟩) (zk_preSH hN hE hA0 hS (zk_Papp hP).1 (zk_Dapp hD).1) rfl rfl hl.1 rfl (lv_room (Nat.le_of_ble_eq_true rfl)) dL_law_122 ⟨by show cells + 1600 ≤ 600130; omega, by show slots + 9600 ≤ 7301080; omega⟩) hP hD hS hA (fun r σ1 H locs hpost hP hD hS => ?_)
  refine zk_cs (cells + 1600) (slots + 9600) rfl rfl ?_
  have hP : va_P G.1 vwCl (zw G a σ1 ++ zw G b τ) H := hP
  have hD : va_D A (zw G a σ1 ++ zw G b τ) := hD
  obtain ⟨⟨er, ec⟩, ht0⟩ := hpost
  rw [hg0] at ec
  have hg0 : core σ1 = kHold κ := ec
  have hok0 := yOk_of hk1 hg0 ht0
  refine zk_top er ?_
  refine lv_if_eq (tgt := 141) hx hb dL_law_125 (by decide) (fun z => absurd z (by decide)) (fun _ => ?_)
  refine lv_aload_n hx hb dL_law_128 rfl (lv_at hl 2 rfl) ?_
  refine lv_iload hx hb dL_law_129 (lv_at hl 6 rfl) ?_
  refine zk_callB (wr := zw G a σ1) (va_runS (As := [.ref b.1, .int (nI y)]) (rest := []) ⟨hx, hb, hml, hown, hts⟩ (c_L_holds l G hst b τ ht1 y hy31 (by rw [hg1]; exact hz) hB hB2 _) (va_cwS 2 hts gL_law_L_holds rfl rfl rfl (by decide +kernel) ⟨Nat.le_of_ble_eq_true rfl, Nat.le_of_ble_eq_true rfl⟩) (zk_preSH hN hE hA0 hS (zk_Papp hP).2 (zk_Dapp hD).2) rfl rfl hl.1 rfl (lv_room (Nat.le_of_ble_eq_true rfl)) dL_law_131 ⟨by show cells + 1600 + 1600 ≤ 600130; omega, by show slots + 9600 + 9600 ≤ 7301080; omega⟩) hP hD hS hA (fun r τ2 H locs hpost hP hD hS => ?_)
  refine zk_cs (cells + 1600 + 1600) (slots + 9600 + 9600) rfl rfl ?_
  have hP : va_P G.1 vwCl (zw G a σ1 ++ zw G b τ2) H := hP
  have hD : va_D A (zw G a σ1 ++ zw G b τ2) := hD
  obtain ⟨⟨er, ec⟩, ht1⟩ := hpost
  rw [hg1] at ec
  have hg1 : core τ2 = kHold κ := ec
  have hok1 := yOk_of hk1 hg1 ht1
  refine zk_top er ?_
  refine lv_if_eq (tgt := 141) hx hb dL_law_134 (by decide) (fun z => absurd z (by decide)) (fun _ => ?_)
  refine lv_iconst (v := nI 1) hx hb dL_law_137 (by decide) ?_
  refine lv_goto (tgt := 142) hx hb dL_law_138 (by decide) ?_
  refine lv_istore_n (lv' := [(3, .int (nI 1)), (0, .ref bs), (1, .ref a.1), (2, .ref b.1), (4, .int (nI i)), (5, .int (nI x)), (6, .int (nI y))]) hx hb dL_law_142 rfl hl (by decide) rfl (fun ls hl => ?_)
  refine lv_iload hx hb dL_law_143 (lv_at hl 5 rfl) ?_
  refine lv_i2l (v := lN x) hx hb dL_law_145 (nI_l (by omega)) ?_
  refine lv_ldc2 hx hb (v := lN 3434252380) hown w1 dL_law_146 ?_
  refine lv_lmul hx hb dL_law_149 ?_
  refine lv_ldc2 hx hb (v := lN 821) hown w2 dL_law_150 ?_
  refine lv_lsub hx hb dL_law_153 ?_
  refine lv_lstore (lv' := [(7, .long (((lN x) * (lN 3434252380)) - (lN 821))), (3, .int (nI 1)), (0, .ref bs), (1, .ref a.1), (2, .ref b.1), (4, .int (nI i)), (5, .int (nI x)), (6, .int (nI y))]) hx hb dL_law_154 hl (by decide) rfl (fun ls hl => ?_)
  refine lv_aload_n hx hb dL_law_156 rfl (lv_at hl 3 rfl) ?_
  refine lv_lload hx hb dL_law_157 (lv_at hl 0 rfl) ?_
  refine lv_iconst (v := nI 1) hx hb dL_law_159 (by decide) ?_
  refine lv_iload hx hb dL_law_160 (lv_at hl 7 rfl) ?_
  refine lv_bipush (v := nI 30) hx hb dL_law_162 (by decide) ?_
  refine zk_iremN hx hb dL_law_164 (by omega) (by omega) (by omega) ?_
  refine zk_iaddN hx hb dL_law_165 ?_
  refine zk_callI (wr := zw G b τ2) (vx_runSW (As := [.ref a.1, .long (((lN x) * (lN 3434252380)) - (lN 821)), .int (nI (1 + (y % 30)))]) (rest := []) ⟨hx, hb, hml, hown, hts⟩ (c_F_trySimulate l G hst a σ1 hok0 (((lN x) * (lN 3434252380)) - (lN 821)) (nI (1 + (y % 30))) _) (vx_cwSW 3 hts gL_law_L_trySimulate rfl rfl rfl (by decide +kernel) ⟨Nat.le_of_ble_eq_true rfl, Nat.le_of_ble_eq_true rfl⟩) (zk_preSH hN hE hA0 hS (zk_Papp hP).1 (zk_Dapp hD).1) rfl rfl hl.1 rfl (lv_room (Nat.le_of_ble_eq_true rfl)) dL_law_166 ⟨by show cells + 1600 + 1600 + 1 ≤ 600130; omega, by show slots + 9600 + 9600 + 6 ≤ 7301080; omega⟩) hP hD hS hA (fun r4 σ3 H locs hpost hP hD hS => ?_)
  refine zk_cs (cells + 1600 + 1600 + 1) (slots + 9600 + 9600 + 6) rfl rfl ?_
  have hP : va_P G.1 vwCl (zw G a σ3 ++ zw G b τ2) H := hP
  have hD : va_D A (zw G a σ3 ++ zw G b τ2) := hD
  obtain ⟨⟨er, ec⟩, ht0⟩ := hpost
  rw [hg0] at er ec
  have hg0 : core σ3 = kHold κ := ec
  have hok0 := yOk_of hk1 hg0 ht0
  refine zk_top er ?_
  refine lv_istore (lv' := [(9, .int (fSim (kL (kHold κ)) (((lN x) * (lN 3434252380)) - (lN 821)) (nI (1 + (y % 30))))), (7, .long (((lN x) * (lN 3434252380)) - (lN 821))), (3, .int (nI 1)), (0, .ref bs), (1, .ref a.1), (2, .ref b.1), (4, .int (nI i)), (5, .int (nI x)), (6, .int (nI y))]) hx hb dL_law_169 hl (by decide) rfl (fun ls hl => ?_)
  refine lv_iload_n hx hb dL_law_171 rfl (lv_at hl 2 rfl) ?_
  refine lv_if_eq (tgt := 234) hx hb dL_law_172 (by decide) (fun z => absurd z (by decide)) (fun _ => ?_)
  refine lv_iload hx hb dL_law_175 (lv_at hl 0 rfl) ?_
  refine lv_aload_n hx hb dL_law_177 rfl (lv_at hl 5 rfl) ?_
  refine lv_lload hx hb dL_law_178 (lv_at hl 1 rfl) ?_
  refine lv_iconst (v := nI 1) hx hb dL_law_180 (by decide) ?_
  refine lv_iload hx hb dL_law_181 (lv_at hl 8 rfl) ?_
  refine lv_bipush (v := nI 30) hx hb dL_law_183 (by decide) ?_
  refine zk_iremN hx hb dL_law_185 (by omega) (by omega) (by omega) ?_
  refine zk_iaddN hx hb dL_law_186 ?_
  refine zk_callB (wr := zw G a σ3) (vx_runSW (As := [.ref b.1, .long (((lN x) * (lN 3434252380)) - (lN 821)), .int (nI (1 + (y % 30)))]) (rest := [.int (fSim (kL (kHold κ)) (((lN x) * (lN 3434252380)) - (lN 821)) (nI (1 + (y % 30))))]) ⟨hx, hb, hml, hown, hts⟩ (c_F_trySimulate l G hst b τ2 hok1 (((lN x) * (lN 3434252380)) - (lN 821)) (nI (1 + (y % 30))) _) (vx_cwSW 3 hts gL_law_L_trySimulate rfl rfl rfl (by decide +kernel) ⟨Nat.le_of_ble_eq_true rfl, Nat.le_of_ble_eq_true rfl⟩) (zk_preSH hN hE hA0 hS (zk_Papp hP).2 (zk_Dapp hD).2) rfl rfl hl.1 rfl (lv_room (Nat.le_of_ble_eq_true rfl)) dL_law_187 ⟨by show cells + 1600 + 1600 + 1 + 1 ≤ 600130; omega, by show slots + 9600 + 9600 + 6 + 6 ≤ 7301080; omega⟩) hP hD hS hA (fun r6 τ5 H locs hpost hP hD hS => ?_)
  refine zk_cs (cells + 1600 + 1600 + 1 + 1) (slots + 9600 + 9600 + 6 + 6) rfl rfl ?_
  have hP : va_P G.1 vwCl (zw G a σ3 ++ zw G b τ5) H := hP
  have hD : va_D A (zw G a σ3 ++ zw G b τ5) := hD
  obtain ⟨⟨er, ec⟩, ht1⟩ := hpost
  rw [hg1] at er ec
  have hg1 : core τ5 = kHold κ := ec
  have hok1 := yOk_of hk1 hg1 ht1
  refine zk_top er ?_
  refine lv_icmp_ne (tgt := 234) hx hb dL_law_190 (by decide) (fun h => absurd rfl h) (fun _ => ?_)
  refine lv_aload_n hx hb dL_law_193 rfl (lv_at hl 4 rfl) ?_
  refine lv_iconst (v := nI 2) hx hb dL_law_194 (by decide) ?_
  refine lv_iload hx hb dL_law_195 (lv_at hl 8 rfl) ?_
  refine lv_i2l (v := lN y) hx hb dL_law_197 (nI_l (by omega)) ?_
  refine lv_ldc2 hx hb (v := lN 400) hown w3 dL_law_198 ?_
  refine lv_lmul hx hb dL_law_201 ?_
  refine zk_callI (wr := zw G b τ5) (vx_runSW (As := [.ref a.1, .int (nI 2), .long ((lN y) * (lN 400))]) (rest := []) ⟨hx, hb, hml, hown, hts⟩ (c_F_tryScript l G hst a σ3 hok0 (nI 2) ((lN y) * (lN 400)) _) (vx_cwSW 3 hts gL_law_L_tryScript rfl rfl rfl (by decide +kernel) ⟨Nat.le_of_ble_eq_true rfl, Nat.le_of_ble_eq_true rfl⟩) (zk_preSH hN hE hA0 hS (zk_Papp hP).1 (zk_Dapp hD).1) rfl rfl hl.1 rfl (lv_room (Nat.le_of_ble_eq_true rfl)) dL_law_202 ⟨by show cells + 1600 + 1600 + 1 + 1 + 1 ≤ 600130; omega, by show slots + 9600 + 9600 + 6 + 6 + 6 ≤ 7301080; omega⟩) hP hD hS hA (fun r8 σ7 H locs hpost hP hD hS => ?_)
  refine zk_cs (cells + 1600 + 1600 + 1 + 1 + 1) (slots + 9600 + 9600 + 6 + 6 + 6) rfl rfl ?_
  have hP : va_P G.1 vwCl (zw G a σ7 ++ zw G b τ5) H := hP
  have hD : va_D A (zw G a σ7 ++ zw G b τ5) := hD
  obtain ⟨⟨er, ec⟩, ht0⟩ := hpost
  rw [hg0] at er ec
  have hg0 : core σ7 = kHold κ := ec
  have hok0 := yOk_of hk1 hg0 ht0
  refine zk_top er ?_
  refine lv_aload_n hx hb dL_law_205 rfl (lv_at hl 5 rfl) ?_
  refine lv_iconst (v := nI 2) hx hb dL_law_206 (by decide) ?_
  refine lv_iload hx hb dL_law_207 (lv_at hl 8 rfl) ?_
  refine lv_i2l (v := lN y) hx hb dL_law_209 (nI_l (by omega)) ?_
  refine lv_ldc2 hx hb (v := lN 400) hown w3 dL_law_210 ?_
  refine lv_lmul hx hb dL_law_213 ?_
  refine zk_callB (wr := zw G a σ7) (vx_runSW (As := [.ref b.1, .int (nI 2), .long ((lN y) * (lN 400))]) (rest := [.int (fScript (kL (kHold κ)) (nI 2) ((lN y) * (lN 400)))]) ⟨hx, hb, hml, hown, hts⟩ (c_F_tryScript l G hst b τ5 hok1 (nI 2) ((lN y) * (lN 400)) _) (vx_cwSW 3 hts gL_law_L_tryScript rfl rfl rfl (by decide +kernel) ⟨Nat.le_of_ble_eq_true rfl, Nat.le_of_ble_eq_true rfl⟩) (zk_preSH hN hE hA0 hS (zk_Papp hP).2 (zk_Dapp hD).2) rfl rfl hl.1 rfl (lv_room (Nat.le_of_ble_eq_true rfl)) dL_law_214 ⟨by show cells + 1600 + 1600 + 1 + 1 + 1 + 1 ≤ 600130; omega, by show slots + 9600 + 9600 + 6 + 6 + 6 + 6 ≤ 7301080; omega⟩) hP hD hS hA (fun r10 τ9 H locs hpost hP hD hS => ?_)
  refine zk_cs (cells + 1600 + 1600 + 1 + 1 + 1 + 1) (slots + 9600 + 9600 + 6 + 6 + 6 + 6) rfl rfl ?_
  have hP : va_P G.1 vwCl (zw G a σ7 ++ zw G b τ9) H := hP
  have hD : va_D A (zw G a σ7 ++ zw G b τ9) := hD
  obtain ⟨⟨er, ec⟩, ht1⟩ := hpost
  rw [hg1] at er ec
  have hg1 : core τ9 = kHold κ := ec
  have hok1 := yOk_of hk1 hg1 ht1
  refine zk_top er ?_
  refine lv_icmp_ne (tgt := 234) hx hb dL_law_217 (by decide) (fun h => absurd rfl h) (fun _ => ?_)
  refine lv_aload_n hx hb dL_law_220 rfl (lv_at hl 4 rfl) ?_
  refine lv_aload_n hx hb dL_law_221 rfl (lv_at hl 5 rfl) ?_
  refine lv_iload hx hb dL_law_222 (lv_at hl 8 rfl) ?_
  refine zk_call1 (va_runS (As := [.ref a.1, .ref b.1, .int (nI y)]) (rest := []) ⟨hx, hb, hml, hown, hts⟩ (c_L_alike l G hst a b σ7 τ9 hok0 hok1 (hg1.trans hg0.symm) y hy31 _) (va_cwS 3 hts gL_law_L_alike rfl rfl rfl (by decide +kernel) ⟨Nat.le_of_ble_eq_true rfl, Nat.le_of_ble_eq_true rfl⟩) (zk_preSH hN hE hA0 hS hP hD) rfl rfl hl.1 rfl (lv_room (Nat.le_of_ble_eq_true rfl)) dL_law_224 ⟨by show cells + 1600 + 1600 + 1 + 1 + 1 + 1 + 800 ≤ 600130; omega, by show slots + 9600 + 9600 + 6 + 6 + 6 + 6 + 4800 ≤ 7301080; omega⟩) hP hD hS hA (fun r u H locs hpost hP hD hS => ?_)
  obtain ⟨σ11, τ12⟩ := u
  refine zk_cs (cells + 1600 + 1600 + 1 + 1 + 1 + 1 + 800) (slots + 9600 + 9600 + 6 + 6 + 6 + 6 + 4800) rfl rfl ?_
  have hP : va_P G.1 vwCl (zw G a σ11 ++ zw G b τ12) H := hP
  have hD : va_D A (zw G a σ11 ++ zw G b τ12) := hD
  obtain ⟨⟨er, ec, ed⟩, ht0, ht1⟩ := hpost
  rw [hg0] at ec ed
  have hg0 : core σ11 = kHold κ := ec
  have hg1 : core τ12 = kHold κ := ed
  have hok0 := yOk_of hk1 hg0 ht0
  have hok1 := yOk_of hk1 hg1 ht1
  refine zk_top er ?_
  refine lv_if_eq (tgt := 234) hx hb dL_law_227 (by decide) (fun z => absurd z (by decide)) (fun _ => ?_)
  refine lv_iconst (v := nI 1) hx hb dL_law_230 (by decide) ?_
  refine lv_goto (tgt := 235) hx hb dL_law_231 (by decide) ?_
  refine lv_istore_n (lv' := [(3, .int (nI 1)), (9, .int (fSim (kL (kHold κ)) (((lN x) * (lN 3434252380)) - (lN 821)) (nI (1 + (y % 30))))), (7, .long (((lN x) * (lN 3434252380)) - (lN 821))), (0, .ref bs), (1, .ref a.1), (2, .ref b.1), (4, .int (nI i)), (5, .int (nI x)), (6, .int (nI y))]) hx hb dL_law_235 rfl hl (by decide) rfl (fun ls hl => ?_)
  refine W.widen (k := cells + 4004) (n := slots + 24024) (by omega) (by omega) ?_
  exact kk σ11 τ12 _ _ _ ht0 hg0 ht1 hg1 hP hD hS (lv_sub hl [3, 4, 5, 0, 6] rfl)

