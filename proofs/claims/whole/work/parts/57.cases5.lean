/-! cases of the law -/
set_option maxHeartbeats 4000000 in
set_option maxRecDepth 100000 in
theorem zl_c20 {p : Program} {l : Launch} {e : Env} {s : State} {m : MethodId} {below : List Frame} {meth : Method} {c : Code} {H : Heap} {locs : List Loc} {cells slots : Nat} {Q : State → Prop} {bs Ls : Nat} {xs : Nat → Int32} {ls : Array Slot} {G : zk_G} {a : zA} {b : Nat → Nat} {q j : Nat} (C : zlC p l s m meth c bs Ls xs G) (hj : j < 512) (hJ : 4 * j + 4 ≤ Ls) (hcs : cells + 4 ≤ 601024 ∧ slots + 24 ≤ 7293034) (hS : zlS G s a b q j H locs) (hl : lv_has ls 7 [(0, .ref bs), (1, .ref a.1), (2, .ref (b 0)), (3, .ref q), (4, .int (nI (4 * j)))])
    (done : ∀ (H1 : Heap) (locs1 : List Loc) (ls1 : Array Slot), zlS G s a b q (j + 1) H1 locs1 → lv_has ls1 7 [(0, .ref bs), (1, .ref a.1), (2, .ref (b 0)), (3, .ref q), (4, .int (nI (4 * j)))] → W p l e room_1 s m #[.ref bs] below meth c H1 locs1 (cells + 4) (slots + 24) Q (F0 m 2035 ls1 [])) :
    W p l e room_1 s m #[.ref bs] below meth c H locs cells slots Q (F0 m 1418 ls []) := by
  obtain ⟨hst, ⟨hx, hb, hr, hml, hown, hts, hX, hbl, hlocks, hgv⟩, hLs, hE, hN⟩ := id C
  have hown : s.vm.findClass RL = some m.cls := hown
  have hK := hE.1
  have hA : ∀ q : Nat, s.heap.size ≤ q → zlA s q := fun _ h => h
  have hA0 : ∀ q : Nat, zlA s q → G.2.2.1 ≤ q := fun q h => Nat.le_trans hE.2.2.2.2 h
  have hB1 := zlB_1 j
  have hBl := zlB_lo j
  have hBh := zlB_hi hj
  obtain ⟨fo, T, L, Z, sv, SL, S, o, cn, rf, tn, sp, ou, ch, K, Y, D, SK, sk, n, t, ⟨hw, hh, hsl, htx⟩, hP, hD, hS⟩ := hS
  obtain ⟨⟨po, hT⟩, hch⟩ := id htx
  unfold zlW at hP hD
  refine lv_aload_n hx hb dL_law_1418 rfl (lv_at hl 1 rfl) ?_
  refine lv_aload_n hx hb dL_law_1419 rfl (lv_at hl 3 rfl) ?_
  have hP0 : va_P G.1 vwCl ((zb_o G q fo ++ (zb_5 G a ++ (zb_L G a.2.2.1 L ++ (zb_M G a.2.2.1 L ++ zb_H G a.2.2.2.2.1.1 a.2.2.2.2.1.2.1 a.2.2.2.2.1.2.2 S (nI o) (nI cn))))) ++ ((zb_6 G b rf (nI tn) (nI cn) sp ou ++ (zb_r G (b 2) K ++ zb_d G (b 4) D)) ++ (zb_T G a.2.1 T ++ (zb_L G a.2.2.2.1 Z ++ (zb_M G a.2.2.2.1 Z ++ (zb_S G a sv ++ (zb_P G a.2.2.2.2.2.2.2 SL 2 ++ (zb_a G (b 1) 120 ch ++ (zb_r G (b 3) Y ++ (zb_k G (b 5) SK ++ zb_f G (b 6) sk)))))))))) H := zk_Pperm hP (zlp_a _ _ _ _ _ _ _ _ _ _ _ _ _ _ _ _ _)
  have hD0 : va_D (zlA s) ((zb_o G q fo ++ (zb_5 G a ++ (zb_L G a.2.2.1 L ++ (zb_M G a.2.2.1 L ++ zb_H G a.2.2.2.2.1.1 a.2.2.2.2.1.2.1 a.2.2.2.2.1.2.2 S (nI o) (nI cn))))) ++ ((zb_6 G b rf (nI tn) (nI cn) sp ou ++ (zb_r G (b 2) K ++ zb_d G (b 4) D)) ++ (zb_T G a.2.1 T ++ (zb_L G a.2.2.2.1 Z ++ (zb_M G a.2.2.2.1 Z ++ (zb_S G a sv ++ (zb_P G a.2.2.2.2.2.2.2 SL 2 ++ (zb_a G (b 1) 120 ch ++ (zb_r G (b 3) Y ++ (zb_k G (b 5) SK ++ zb_f G (b 6) sk)))))))))) := zk_Dperm hD (zlp_a _ _ _ _ _ _ _ _ _ _ _ _ _ _ _ _ _)
  refine zk_callI (wr := (zb_6 G b rf (nI tn) (nI cn) sp ou ++ (zb_r G (b 2) K ++ zb_d G (b 4) D)) ++ (zb_T G a.2.1 T ++ (zb_L G a.2.2.2.1 Z ++ (zb_M G a.2.2.2.1 Z ++ (zb_S G a sv ++ (zb_P G a.2.2.2.2.2.2.2 SL 2 ++ (zb_a G (b 1) 120 ch ++ (zb_r G (b 3) Y ++ (zb_k G (b 5) SK ++ zb_f G (b 6) sk))))))))) (vx_runSW (As := [.ref a.1, .ref q]) (rest := []) ⟨hx, hb, hml, hown, hts⟩ (c_L_undo l G hst a L n t (rL (wR hw)) S o cn hh.1 hh.2.1 q fo _) (vx_cwSW 2 hts gL_law_L_undo rfl rfl rfl (by decide +kernel) ⟨Nat.le_of_ble_eq_true rfl, Nat.le_of_ble_eq_true rfl⟩) (zk_preSH hN hE hA0 hS (zk_Papp hP0).1 (zk_Dapp hD0).1) rfl rfl hl.1 rfl (lv_room (Nat.le_of_ble_eq_true rfl)) dL_law_1420 ⟨by show cells + 1 ≤ 601024; omega, by show slots + 6 ≤ 7293034; omega⟩) hP0 hD0 hS hA (fun r u H locs hL hP hD hS => ?_)
  refine lv_istore (lv' := [(5, .int r), (0, .ref bs), (1, .ref a.1), (2, .ref (b 0)), (3, .ref q), (4, .int (nI (4 * j)))]) hx hb dL_law_1423 hl (by decide) rfl (fun ls hl => ?_)
  refine lv_aload_n hx hb dL_law_1425 rfl (lv_at hl 3 rfl) ?_
  have hP0 := zk_Pperm hP (List.perm_append_comm_assoc _ _ _)
  have hD0 := zk_Dperm hD (List.perm_append_comm_assoc _ _ _)
  refine zk_callI (va_runV (As := []) (rest := []) ⟨hx, hb, hml, hown, hts⟩ (c_X6_undo l G b rf (nI tn) cn sp ou hh.2.1 K D _) (cwV 0 hts gL_law_X6_undo rfl rfl rfl (by decide +kernel) ⟨Nat.le_of_ble_eq_true rfl, Nat.le_of_ble_eq_true rfl⟩) (zk_preV hE hA0 hS (zk_Papp hP0).1 (zk_Dapp hD0).1 (va_recv hK hP0 (ci := 5) (q0 := 0) rfl rfl)) rfl rfl hl.1 rfl (lv_room (Nat.le_of_ble_eq_true rfl)) dL_law_1426 ⟨by show cells + 1 + 0 ≤ 601024; omega, by show slots + 6 + 0 ≤ 7293034; omega⟩) hP0 hD0 hS hA (fun r2 vm H locs hM hP hD hS => ?_)
  obtain ⟨⟨hk, hans⟩, hfin⟩ := zp_undo hw hh hL hM
  refine zl_tail (t := 1429) C dL_law_1429 dL_law_1431 dL_law_1432 dL_law_1435 dL_law_1437 dL_law_1442 dL_law_1444 dL_law_1447 dL_law_1448 dL_law_1449 dL_law_1450 dL_law_1452 dL_law_1453 dL_law_1454 dL_law_1459 (by decide) ⟨by show cells + 1 + 0 ≤ 601024; omega, by show slots + 6 + 0 ≤ 7293034; omega⟩ hl (zk_Pperm hP (zlt _ _ _ _ _)) (zk_Dperm hD (zlt _ _ _ _ _)) hS hk hans (fun H locs ls hP hD hS hl => ?_)
  refine W.widen (k := cells + 4) (n := slots + 24) (by show cells + 1 + 0 ≤ cells + 4; omega) (by show slots + 6 + 0 ≤ slots + 24; omega) ?_
  refine done H locs ls ?_ hl
  obtain ⟨_ | v0, f1⟩ := u
  · obtain ⟨ec, ek⟩ := hfin
    have hP : va_P G.1 vwCl (zb_6 G b vm.1 (nI tn) (nI vm.2.1) sp ou ++ (zb_o G q f1 ++ ((zb_r G (b 2) vm.2.2 ++ zb_d G (b 4) D) ++ ((zb_5 G a ++ (zb_L G a.2.2.1 L ++ (zb_M G a.2.2.1 L ++ zb_H G a.2.2.2.2.1.1 a.2.2.2.2.1.2.1 a.2.2.2.2.1.2.2 S (nI o) (nI cn)))) ++ (zb_T G a.2.1 T ++ (zb_L G a.2.2.2.1 Z ++ (zb_M G a.2.2.2.1 Z ++ (zb_S G a sv ++ (zb_P G a.2.2.2.2.2.2.2 SL 2 ++ (zb_a G (b 1) 120 ch ++ (zb_r G (b 3) Y ++ (zb_k G (b 5) SK ++ zb_f G (b 6) sk)))))))))))) H := hP
    have hD : va_D (zlA s) (zb_6 G b vm.1 (nI tn) (nI vm.2.1) sp ou ++ (zb_o G q f1 ++ ((zb_r G (b 2) vm.2.2 ++ zb_d G (b 4) D) ++ ((zb_5 G a ++ (zb_L G a.2.2.1 L ++ (zb_M G a.2.2.1 L ++ zb_H G a.2.2.2.2.1.1 a.2.2.2.2.1.2.1 a.2.2.2.2.1.2.2 S (nI o) (nI cn)))) ++ (zb_T G a.2.1 T ++ (zb_L G a.2.2.2.1 Z ++ (zb_M G a.2.2.2.1 Z ++ (zb_S G a sv ++ (zb_P G a.2.2.2.2.2.2.2 SL 2 ++ (zb_a G (b 1) 120 ch ++ (zb_r G (b 3) Y ++ (zb_k G (b 5) SK ++ zb_f G (b 6) sk)))))))))))) := hD
    rw [ec, ek] at hP hD
    exact ⟨f1, T, L, Z, sv, SL, S, o, cn, vm.1, tn, sp, ou, ch, K, Y, D, SK, sk, n, t, ⟨w_mono hw hB1, hist_mono hh hB1, slot_mono hsl hB1, htx⟩, zk_Pperm hP (zlf_a _ _ _ _ _ _ _ _ _ _ _ _ _ _ _ _ _), zk_Dperm hD (zlf_a _ _ _ _ _ _ _ _ _ _ _ _ _ _ _ _ _), hS⟩
  · obtain ⟨⟨n2, t2, hw2⟩, hh2, ec⟩ := hfin
    have hP : va_P G.1 vwCl (zb_6 G b vm.1 (nI tn) (nI vm.2.1) sp ou ++ (zb_o G q f1 ++ ((zb_r G (b 2) vm.2.2 ++ zb_d G (b 4) D) ++ ((zb_5 G a ++ (zb_L G a.2.2.1 (S ((o + (cn - 1)) % 14)) ++ (zb_M G a.2.2.1 (S ((o + (cn - 1)) % 14)) ++ zb_H G a.2.2.2.2.1.1 a.2.2.2.2.1.2.1 a.2.2.2.2.1.2.2 S (nI o) (nI (cn - 1))))) ++ (zb_T G a.2.1 T ++ (zb_L G a.2.2.2.1 Z ++ (zb_M G a.2.2.2.1 Z ++ (zb_S G a sv ++ (zb_P G a.2.2.2.2.2.2.2 SL 2 ++ (zb_a G (b 1) 120 ch ++ (zb_r G (b 3) Y ++ (zb_k G (b 5) SK ++ zb_f G (b 6) sk)))))))))))) H := hP
    have hD : va_D (zlA s) (zb_6 G b vm.1 (nI tn) (nI vm.2.1) sp ou ++ (zb_o G q f1 ++ ((zb_r G (b 2) vm.2.2 ++ zb_d G (b 4) D) ++ ((zb_5 G a ++ (zb_L G a.2.2.1 (S ((o + (cn - 1)) % 14)) ++ (zb_M G a.2.2.1 (S ((o + (cn - 1)) % 14)) ++ zb_H G a.2.2.2.2.1.1 a.2.2.2.2.1.2.1 a.2.2.2.2.1.2.2 S (nI o) (nI (cn - 1))))) ++ (zb_T G a.2.1 T ++ (zb_L G a.2.2.2.1 Z ++ (zb_M G a.2.2.2.1 Z ++ (zb_S G a sv ++ (zb_P G a.2.2.2.2.2.2.2 SL 2 ++ (zb_a G (b 1) 120 ch ++ (zb_r G (b 3) Y ++ (zb_k G (b 5) SK ++ zb_f G (b 6) sk)))))))))))) := hD
    rw [ec] at hP hD
    exact ⟨f1, T, S ((o + (cn - 1)) % 14), Z, sv, SL, S, o, cn - 1, vm.1, tn, sp, ou, ch, vm.2.2, Y, D, SK, sk, n2, t2, ⟨w_mono hw2 hB1, hist_mono hh2 hB1, slot_mono hsl hB1, htx⟩, zk_Pperm hP (zlf_a _ _ _ _ _ _ _ _ _ _ _ _ _ _ _ _ _), zk_Dperm hD (zlf_a _ _ _ _ _ _ _ _ _ _ _ _ _ _ _ _ _), hS⟩
set_option maxHeartbeats 4000000 in
set_option maxRecDepth 100000 in
theorem zl_c21 {p : Program} {l : Launch} {e : Env} {s : State} {m : MethodId} {below : List Frame} {meth : Method} {c : Code} {H : Heap} {locs : List Loc} {cells slots : Nat} {Q : State → Prop} {bs Ls : Nat} {xs : Nat → Int32} {ls : Array Slot} {G : zk_G} {a : zA} {b : Nat → Nat} {q j : Nat} (C : zlC p l s m meth c bs Ls xs G) (hj : j < 512) (hJ : 4 * j + 4 ≤ Ls) (hcs : cells + 4 ≤ 601024 ∧ slots + 24 ≤ 7293034) (hS : zlS G s a b q j H locs) (hl : lv_has ls 7 [(0, .ref bs), (1, .ref a.1), (2, .ref (b 0)), (3, .ref q), (4, .int (nI (4 * j)))])
    (done : ∀ (H1 : Heap) (locs1 : List Loc) (ls1 : Array Slot), zlS G s a b q (j + 1) H1 locs1 → lv_has ls1 7 [(0, .ref bs), (1, .ref a.1), (2, .ref (b 0)), (3, .ref q), (4, .int (nI (4 * j)))] → W p l e room_1 s m #[.ref bs] below meth c H1 locs1 (cells + 4) (slots + 24) Q (F0 m 2035 ls1 [])) :
    W p l e room_1 s m #[.ref bs] below meth c H locs cells slots Q (F0 m 1462 ls []) := by
  obtain ⟨hst, ⟨hx, hb, hr, hml, hown, hts, hX, hbl, hlocks, hgv⟩, hLs, hE, hN⟩ := id C
  have hown : s.vm.findClass RL = some m.cls := hown
  have hK := hE.1
  have hA : ∀ q : Nat, s.heap.size ≤ q → zlA s q := fun _ h => h
  have hA0 : ∀ q : Nat, zlA s q → G.2.2.1 ≤ q := fun q h => Nat.le_trans hE.2.2.2.2 h
  have hB1 := zlB_1 j
  have hBl := zlB_lo j
  have hBh := zlB_hi hj
  obtain ⟨fo, T, L, Z, sv, SL, S, o, cn, rf, tn, sp, ou, ch, K, Y, D, SK, sk, n, t, ⟨hw, hh, hsl, htx⟩, hP, hD, hS⟩ := hS
  obtain ⟨⟨po, hT⟩, hch⟩ := id htx
  unfold zlW at hP hD
  refine lv_aload_n hx hb dL_law_1462 rfl (lv_at hl 1 rfl) ?_
  refine zl_ld (k := 1) C hS (lv_at hl 0 rfl) (lv_at hl 4 rfl) (by omega) (by decide) dL_law_1463 dL_law_1464 dL_law_1466 dL_law_1467 dL_law_1468 ?_
  refine lv_aload_n hx hb dL_law_1469 rfl (lv_at hl 3 rfl) ?_
  have hP0 : va_P G.1 vwCl ((zb_o G q fo ++ (zb_5 G a ++ (zb_L G a.2.2.1 L ++ (zb_M G a.2.2.1 L ++ (zb_L G a.2.2.2.1 Z ++ zb_M G a.2.2.2.1 Z))))) ++ ((zb_6 G b rf (nI tn) (nI cn) sp ou ++ (zb_r G (b 2) K ++ zb_r G (b 3) Y)) ++ (zb_T G a.2.1 T ++ (zb_S G a sv ++ (zb_P G a.2.2.2.2.2.2.2 SL 2 ++ (zb_H G a.2.2.2.2.1.1 a.2.2.2.2.1.2.1 a.2.2.2.2.1.2.2 S (nI o) (nI cn) ++ (zb_a G (b 1) 120 ch ++ (zb_d G (b 4) D ++ (zb_k G (b 5) SK ++ zb_f G (b 6) sk))))))))) H := zk_Pperm hP (zlp_z _ _ _ _ _ _ _ _ _ _ _ _ _ _ _ _ _)
  have hD0 : va_D (zlA s) ((zb_o G q fo ++ (zb_5 G a ++ (zb_L G a.2.2.1 L ++ (zb_M G a.2.2.1 L ++ (zb_L G a.2.2.2.1 Z ++ zb_M G a.2.2.2.1 Z))))) ++ ((zb_6 G b rf (nI tn) (nI cn) sp ou ++ (zb_r G (b 2) K ++ zb_r G (b 3) Y)) ++ (zb_T G a.2.1 T ++ (zb_S G a sv ++ (zb_P G a.2.2.2.2.2.2.2 SL 2 ++ (zb_H G a.2.2.2.2.1.1 a.2.2.2.2.1.2.1 a.2.2.2.2.1.2.2 S (nI o) (nI cn) ++ (zb_a G (b 1) 120 ch ++ (zb_d G (b 4) D ++ (zb_k G (b 5) SK ++ zb_f G (b 6) sk))))))))) := zk_Dperm hD (zlp_z _ _ _ _ _ _ _ _ _ _ _ _ _ _ _ _ _)
  refine zk_callI (wr := (zb_6 G b rf (nI tn) (nI cn) sp ou ++ (zb_r G (b 2) K ++ zb_r G (b 3) Y)) ++ (zb_T G a.2.1 T ++ (zb_S G a sv ++ (zb_P G a.2.2.2.2.2.2.2 SL 2 ++ (zb_H G a.2.2.2.2.1.1 a.2.2.2.2.1.2.1 a.2.2.2.2.1.2.2 S (nI o) (nI cn) ++ (zb_a G (b 1) 120 ch ++ (zb_d G (b 4) D ++ (zb_k G (b 5) SK ++ zb_f G (b 6) sk)))))))) (vx_runSW (As := [.ref a.1, .int (xs (4 * j + 1)), .ref q]) (rest := []) ⟨hx, hb, hml, hown, hts⟩ (c_L_refusedOn l G hst a L n t (rL (wR hw)) (xs (4 * j + 1)) Z q fo _) (vx_cwSW 3 hts gL_law_L_refusedOn rfl rfl rfl (by decide +kernel) ⟨Nat.le_of_ble_eq_true rfl, Nat.le_of_ble_eq_true rfl⟩) (zk_preSH hN hE hA0 hS (zk_Papp hP0).1 (zk_Dapp hD0).1) rfl rfl hl.1 rfl (lv_room (Nat.le_of_ble_eq_true rfl)) dL_law_1470 ⟨by show cells + 2 ≤ 601024; omega, by show slots + 12 ≤ 7293034; omega⟩) hP0 hD0 hS hA (fun r u H locs hL hP hD hS => ?_)
  refine lv_istore (lv' := [(5, .int r), (0, .ref bs), (1, .ref a.1), (2, .ref (b 0)), (3, .ref q), (4, .int (nI (4 * j)))]) hx hb dL_law_1473 hl (by decide) rfl (fun ls hl => ?_)
  refine lv_aload_n hx hb dL_law_1475 rfl (lv_at hl 3 rfl) ?_
  refine zl_ld (k := 1) C hS (lv_at hl 1 rfl) (lv_at hl 5 rfl) (by omega) (by decide) dL_law_1476 dL_law_1477 dL_law_1479 dL_law_1480 dL_law_1481 ?_
  have hP0 := zk_Pperm hP (List.perm_append_comm_assoc _ _ _)
  have hD0 := zk_Dperm hD (List.perm_append_comm_assoc _ _ _)
  refine zk_callI (va_runV (As := [.int (xs (4 * j + 1))]) (rest := []) ⟨hx, hb, hml, hown, hts⟩ (c_X6_refusedOn l G b rf (nI tn) (nI cn) sp ou K n t (rK (wR hw)) (rP (wR hw)) Y (xs (4 * j + 1)) _) (cwV 1 hts gL_law_X6_refusedOn rfl rfl rfl (by decide +kernel) ⟨Nat.le_of_ble_eq_true rfl, Nat.le_of_ble_eq_true rfl⟩) (zk_preV hE hA0 hS (zk_Papp hP0).1 (zk_Dapp hD0).1 (va_recv hK hP0 (ci := 5) (q0 := 0) rfl rfl)) rfl rfl hl.1 rfl (lv_room (Nat.le_of_ble_eq_true rfl)) dL_law_1482 ⟨by show cells + 2 + 0 ≤ 601024; omega, by show slots + 12 + 0 ≤ 7293034; omega⟩) hP0 hD0 hS hA (fun r2 vm H locs hM hP hD hS => ?_)
  obtain ⟨hk, hans⟩ := zp_refusedOn hw hL hM
  refine zl_tail (t := 1485) C dL_law_1485 dL_law_1487 dL_law_1488 dL_law_1491 dL_law_1493 dL_law_1498 dL_law_1500 dL_law_1503 dL_law_1504 dL_law_1505 dL_law_1506 dL_law_1508 dL_law_1509 dL_law_1510 dL_law_1515 (by decide) ⟨by show cells + 2 + 0 ≤ 601024; omega, by show slots + 12 + 0 ≤ 7293034; omega⟩ hl (zk_Pperm hP (zlt _ _ _ _ _)) (zk_Dperm hD (zlt _ _ _ _ _)) hS hk hans (fun H locs ls hP hD hS hl => ?_)
  refine W.widen (k := cells + 4) (n := slots + 24) (by show cells + 2 + 0 ≤ cells + 4; omega) (by show slots + 12 + 0 ≤ slots + 24; omega) ?_
  refine done H locs ls ?_ hl
  obtain ⟨_ | v0, f1⟩ := u
  · have hP : va_P G.1 vwCl (zb_6 G b vm.1 (nI tn) (nI cn) sp ou ++ (zb_o G q f1 ++ ((zb_r G (b 2) K ++ zb_r G (b 3) vm.2) ++ ((zb_5 G a ++ (zb_L G a.2.2.1 L ++ (zb_M G a.2.2.1 L ++ (zb_L G a.2.2.2.1 Z ++ zb_M G a.2.2.2.1 Z)))) ++ (zb_T G a.2.1 T ++ (zb_S G a sv ++ (zb_P G a.2.2.2.2.2.2.2 SL 2 ++ (zb_H G a.2.2.2.2.1.1 a.2.2.2.2.1.2.1 a.2.2.2.2.1.2.2 S (nI o) (nI cn) ++ (zb_a G (b 1) 120 ch ++ (zb_d G (b 4) D ++ (zb_k G (b 5) SK ++ zb_f G (b 6) sk))))))))))) H := hP
    have hD : va_D (zlA s) (zb_6 G b vm.1 (nI tn) (nI cn) sp ou ++ (zb_o G q f1 ++ ((zb_r G (b 2) K ++ zb_r G (b 3) vm.2) ++ ((zb_5 G a ++ (zb_L G a.2.2.1 L ++ (zb_M G a.2.2.1 L ++ (zb_L G a.2.2.2.1 Z ++ zb_M G a.2.2.2.1 Z)))) ++ (zb_T G a.2.1 T ++ (zb_S G a sv ++ (zb_P G a.2.2.2.2.2.2.2 SL 2 ++ (zb_H G a.2.2.2.2.1.1 a.2.2.2.2.1.2.1 a.2.2.2.2.1.2.2 S (nI o) (nI cn) ++ (zb_a G (b 1) 120 ch ++ (zb_d G (b 4) D ++ (zb_k G (b 5) SK ++ zb_f G (b 6) sk))))))))))) := hD
    exact ⟨f1, T, L, Z, sv, SL, S, o, cn, vm.1, tn, sp, ou, ch, K, vm.2, D, SK, sk, n, t, ⟨w_mono hw hB1, hist_mono hh hB1, slot_mono hsl hB1, htx⟩, zk_Pperm hP (zlf_z _ _ _ _ _ _ _ _ _ _ _ _ _ _ _ _ _), zk_Dperm hD (zlf_z _ _ _ _ _ _ _ _ _ _ _ _ _ _ _ _ _), hS⟩
  · have hP : va_P G.1 vwCl (zb_6 G b vm.1 (nI tn) (nI cn) sp ou ++ (zb_o G q f1 ++ ((zb_r G (b 2) K ++ zb_r G (b 3) vm.2) ++ ((zb_5 G a ++ (zb_L G a.2.2.1 L ++ (zb_M G a.2.2.1 L ++ (zb_L G a.2.2.2.1 v0 ++ zb_M G a.2.2.2.1 v0)))) ++ (zb_T G a.2.1 T ++ (zb_S G a sv ++ (zb_P G a.2.2.2.2.2.2.2 SL 2 ++ (zb_H G a.2.2.2.2.1.1 a.2.2.2.2.1.2.1 a.2.2.2.2.1.2.2 S (nI o) (nI cn) ++ (zb_a G (b 1) 120 ch ++ (zb_d G (b 4) D ++ (zb_k G (b 5) SK ++ zb_f G (b 6) sk))))))))))) H := hP
    have hD : va_D (zlA s) (zb_6 G b vm.1 (nI tn) (nI cn) sp ou ++ (zb_o G q f1 ++ ((zb_r G (b 2) K ++ zb_r G (b 3) vm.2) ++ ((zb_5 G a ++ (zb_L G a.2.2.1 L ++ (zb_M G a.2.2.1 L ++ (zb_L G a.2.2.2.1 v0 ++ zb_M G a.2.2.2.1 v0)))) ++ (zb_T G a.2.1 T ++ (zb_S G a sv ++ (zb_P G a.2.2.2.2.2.2.2 SL 2 ++ (zb_H G a.2.2.2.2.1.1 a.2.2.2.2.1.2.1 a.2.2.2.2.1.2.2 S (nI o) (nI cn) ++ (zb_a G (b 1) 120 ch ++ (zb_d G (b 4) D ++ (zb_k G (b 5) SK ++ zb_f G (b 6) sk))))))))))) := hD
    exact ⟨f1, T, L, v0, sv, SL, S, o, cn, vm.1, tn, sp, ou, ch, K, vm.2, D, SK, sk, n, t, ⟨w_mono hw hB1, hist_mono hh hB1, slot_mono hsl hB1, htx⟩, zk_Pperm hP (zlf_z _ _ _ _ _ _ _ _ _ _ _ _ _ _ _ _ _), zk_Dperm hD (zlf_z _ _ _ _ _ _ _ _ _ _ _ _ _ _ _ _ _), hS⟩
set_option maxHeartbeats 4000000 in
set_option maxRecDepth 100000 in
theorem zl_c22 {p : Program} {l : Launch} {e : Env} {s : State} {m : MethodId} {below : List Frame} {meth : Method} {c : Code} {H : Heap} {locs : List Loc} {cells slots : Nat} {Q : State → Prop} {bs Ls : Nat} {xs : Nat → Int32} {ls : Array Slot} {G : zk_G} {a : zA} {b : Nat → Nat} {q j : Nat} (C : zlC p l s m meth c bs Ls xs G) (hj : j < 512) (hJ : 4 * j + 4 ≤ Ls) (hcs : cells + 4 ≤ 601024 ∧ slots + 24 ≤ 7293034) (hS : zlS G s a b q j H locs) (hl : lv_has ls 7 [(0, .ref bs), (1, .ref a.1), (2, .ref (b 0)), (3, .ref q), (4, .int (nI (4 * j)))])
    (done : ∀ (H1 : Heap) (locs1 : List Loc) (ls1 : Array Slot), zlS G s a b q (j + 1) H1 locs1 → lv_has ls1 7 [(0, .ref bs), (1, .ref a.1), (2, .ref (b 0)), (3, .ref q), (4, .int (nI (4 * j)))] → W p l e room_1 s m #[.ref bs] below meth c H1 locs1 (cells + 4) (slots + 24) Q (F0 m 2035 ls1 [])) :
    W p l e room_1 s m #[.ref bs] below meth c H locs cells slots Q (F0 m 1518 ls []) := by
  obtain ⟨hst, ⟨hx, hb, hr, hml, hown, hts, hX, hbl, hlocks, hgv⟩, hLs, hE, hN⟩ := id C
  have hown : s.vm.findClass RL = some m.cls := hown
  have hK := hE.1
  have hA : ∀ q : Nat, s.heap.size ≤ q → zlA s q := fun _ h => h
  have hA0 : ∀ q : Nat, zlA s q → G.2.2.1 ≤ q := fun q h => Nat.le_trans hE.2.2.2.2 h
  have hB1 := zlB_1 j
  have hBl := zlB_lo j
  have hBh := zlB_hi hj
  obtain ⟨fo, T, L, Z, sv, SL, S, o, cn, rf, tn, sp, ou, ch, K, Y, D, SK, sk, n, t, ⟨hw, hh, hsl, htx⟩, hP, hD, hS⟩ := hS
  obtain ⟨⟨po, hT⟩, hch⟩ := id htx
  unfold zlW at hP hD
  refine lv_aload_n hx hb dL_law_1518 rfl (lv_at hl 1 rfl) ?_
  refine zl_ld (k := 1) C hS (lv_at hl 0 rfl) (lv_at hl 4 rfl) (by omega) (by decide) dL_law_1519 dL_law_1520 dL_law_1522 dL_law_1523 dL_law_1524 ?_
  refine lv_aload_n hx hb dL_law_1525 rfl (lv_at hl 3 rfl) ?_
  have hP0 : va_P G.1 vwCl ((zb_o G q fo ++ (zb_5 G a ++ (zb_L G a.2.2.1 L ++ (zb_M G a.2.2.1 L ++ (zb_L G a.2.2.2.1 Z ++ zb_M G a.2.2.2.1 Z))))) ++ ((zb_6 G b rf (nI tn) (nI cn) sp ou ++ (zb_r G (b 2) K ++ zb_r G (b 3) Y)) ++ (zb_T G a.2.1 T ++ (zb_S G a sv ++ (zb_P G a.2.2.2.2.2.2.2 SL 2 ++ (zb_H G a.2.2.2.2.1.1 a.2.2.2.2.1.2.1 a.2.2.2.2.1.2.2 S (nI o) (nI cn) ++ (zb_a G (b 1) 120 ch ++ (zb_d G (b 4) D ++ (zb_k G (b 5) SK ++ zb_f G (b 6) sk))))))))) H := zk_Pperm hP (zlp_z _ _ _ _ _ _ _ _ _ _ _ _ _ _ _ _ _)
  have hD0 : va_D (zlA s) ((zb_o G q fo ++ (zb_5 G a ++ (zb_L G a.2.2.1 L ++ (zb_M G a.2.2.1 L ++ (zb_L G a.2.2.2.1 Z ++ zb_M G a.2.2.2.1 Z))))) ++ ((zb_6 G b rf (nI tn) (nI cn) sp ou ++ (zb_r G (b 2) K ++ zb_r G (b 3) Y)) ++ (zb_T G a.2.1 T ++ (zb_S G a sv ++ (zb_P G a.2.2.2.2.2.2.2 SL 2 ++ (zb_H G a.2.2.2.2.1.1 a.2.2.2.2.1.2.1 a.2.2.2.2.1.2.2 S (nI o) (nI cn) ++ (zb_a G (b 1) 120 ch ++ (zb_d G (b 4) D ++ (zb_k G (b 5) SK ++ zb_f G (b 6) sk))))))))) := zk_Dperm hD (zlp_z _ _ _ _ _ _ _ _ _ _ _ _ _ _ _ _ _)
  refine zk_callI (wr := (zb_6 G b rf (nI tn) (nI cn) sp ou ++ (zb_r G (b 2) K ++ zb_r G (b 3) Y)) ++ (zb_T G a.2.1 T ++ (zb_S G a sv ++ (zb_P G a.2.2.2.2.2.2.2 SL 2 ++ (zb_H G a.2.2.2.2.1.1 a.2.2.2.2.1.2.1 a.2.2.2.2.1.2.2 S (nI o) (nI cn) ++ (zb_a G (b 1) 120 ch ++ (zb_d G (b 4) D ++ (zb_k G (b 5) SK ++ zb_f G (b 6) sk)))))))) (vx_runSW (As := [.ref a.1, .int (xs (4 * j + 1)), .ref q]) (rest := []) ⟨hx, hb, hml, hown, hts⟩ (c_L_needs l G hst a L n t (rL (wR hw)) (xs (4 * j + 1)) Z q fo _) (vx_cwSW 3 hts gL_law_L_needs rfl rfl rfl (by decide +kernel) ⟨Nat.le_of_ble_eq_true rfl, Nat.le_of_ble_eq_true rfl⟩) (zk_preSH hN hE hA0 hS (zk_Papp hP0).1 (zk_Dapp hD0).1) rfl rfl hl.1 rfl (lv_room (Nat.le_of_ble_eq_true rfl)) dL_law_1526 ⟨by show cells + 2 ≤ 601024; omega, by show slots + 12 ≤ 7293034; omega⟩) hP0 hD0 hS hA (fun r u H locs hL hP hD hS => ?_)
  refine lv_istore (lv' := [(5, .int r), (0, .ref bs), (1, .ref a.1), (2, .ref (b 0)), (3, .ref q), (4, .int (nI (4 * j)))]) hx hb dL_law_1529 hl (by decide) rfl (fun ls hl => ?_)
  refine lv_aload_n hx hb dL_law_1531 rfl (lv_at hl 3 rfl) ?_
  refine zl_ld (k := 1) C hS (lv_at hl 1 rfl) (lv_at hl 5 rfl) (by omega) (by decide) dL_law_1532 dL_law_1533 dL_law_1535 dL_law_1536 dL_law_1537 ?_
  have hP0 := zk_Pperm hP (List.perm_append_comm_assoc _ _ _)
  have hD0 := zk_Dperm hD (List.perm_append_comm_assoc _ _ _)
  refine zk_callI (va_runV (As := [.int (xs (4 * j + 1))]) (rest := []) ⟨hx, hb, hml, hown, hts⟩ (c_X6_needs l G b rf (nI tn) (nI cn) sp ou K n t (rK (wR hw)) (rP (wR hw)) Y (xs (4 * j + 1)) _) (cwV 1 hts gL_law_X6_needs rfl rfl rfl (by decide +kernel) ⟨Nat.le_of_ble_eq_true rfl, Nat.le_of_ble_eq_true rfl⟩) (zk_preV hE hA0 hS (zk_Papp hP0).1 (zk_Dapp hD0).1 (va_recv hK hP0 (ci := 5) (q0 := 0) rfl rfl)) rfl rfl hl.1 rfl (lv_room (Nat.le_of_ble_eq_true rfl)) dL_law_1538 ⟨by show cells + 2 + 0 ≤ 601024; omega, by show slots + 12 + 0 ≤ 7293034; omega⟩) hP0 hD0 hS hA (fun r2 vm H locs hM hP hD hS => ?_)
  obtain ⟨hk, hans⟩ := zp_needs hw hL hM
  refine zl_tail (t := 1541) C dL_law_1541 dL_law_1543 dL_law_1544 dL_law_1547 dL_law_1549 dL_law_1554 dL_law_1556 dL_law_1559 dL_law_1560 dL_law_1561 dL_law_1562 dL_law_1564 dL_law_1565 dL_law_1566 dL_law_1571 (by decide) ⟨by show cells + 2 + 0 ≤ 601024; omega, by show slots + 12 + 0 ≤ 7293034; omega⟩ hl (zk_Pperm hP (zlt _ _ _ _ _)) (zk_Dperm hD (zlt _ _ _ _ _)) hS hk hans (fun H locs ls hP hD hS hl => ?_)
  refine W.widen (k := cells + 4) (n := slots + 24) (by show cells + 2 + 0 ≤ cells + 4; omega) (by show slots + 12 + 0 ≤ slots + 24; omega) ?_
  refine done H locs ls ?_ hl
  obtain ⟨_ | v0, f1⟩ := u
  · have hP : va_P G.1 vwCl (zb_6 G b vm.1 (nI tn) (nI cn) sp ou ++ (zb_o G q f1 ++ ((zb_r G (b 2) K ++ zb_r G (b 3) vm.2) ++ ((zb_5 G a ++ (zb_L G a.2.2.1 L ++ (zb_M G a.2.2.1 L ++ (zb_L G a.2.2.2.1 Z ++ zb_M G a.2.2.2.1 Z)))) ++ (zb_T G a.2.1 T ++ (zb_S G a sv ++ (zb_P G a.2.2.2.2.2.2.2 SL 2 ++ (zb_H G a.2.2.2.2.1.1 a.2.2.2.2.1.2.1 a.2.2.2.2.1.2.2 S (nI o) (nI cn) ++ (zb_a G (b 1) 120 ch ++ (zb_d G (b 4) D ++ (zb_k G (b 5) SK ++ zb_f G (b 6) sk))))))))))) H := hP
    have hD : va_D (zlA s) (zb_6 G b vm.1 (nI tn) (nI cn) sp ou ++ (zb_o G q f1 ++ ((zb_r G (b 2) K ++ zb_r G (b 3) vm.2) ++ ((zb_5 G a ++ (zb_L G a.2.2.1 L ++ (zb_M G a.2.2.1 L ++ (zb_L G a.2.2.2.1 Z ++ zb_M G a.2.2.2.1 Z)))) ++ (zb_T G a.2.1 T ++ (zb_S G a sv ++ (zb_P G a.2.2.2.2.2.2.2 SL 2 ++ (zb_H G a.2.2.2.2.1.1 a.2.2.2.2.1.2.1 a.2.2.2.2.1.2.2 S (nI o) (nI cn) ++ (zb_a G (b 1) 120 ch ++ (zb_d G (b 4) D ++ (zb_k G (b 5) SK ++ zb_f G (b 6) sk))))))))))) := hD
    exact ⟨f1, T, L, Z, sv, SL, S, o, cn, vm.1, tn, sp, ou, ch, K, vm.2, D, SK, sk, n, t, ⟨w_mono hw hB1, hist_mono hh hB1, slot_mono hsl hB1, htx⟩, zk_Pperm hP (zlf_z _ _ _ _ _ _ _ _ _ _ _ _ _ _ _ _ _), zk_Dperm hD (zlf_z _ _ _ _ _ _ _ _ _ _ _ _ _ _ _ _ _), hS⟩
  · have hP : va_P G.1 vwCl (zb_6 G b vm.1 (nI tn) (nI cn) sp ou ++ (zb_o G q f1 ++ ((zb_r G (b 2) K ++ zb_r G (b 3) vm.2) ++ ((zb_5 G a ++ (zb_L G a.2.2.1 L ++ (zb_M G a.2.2.1 L ++ (zb_L G a.2.2.2.1 v0 ++ zb_M G a.2.2.2.1 v0)))) ++ (zb_T G a.2.1 T ++ (zb_S G a sv ++ (zb_P G a.2.2.2.2.2.2.2 SL 2 ++ (zb_H G a.2.2.2.2.1.1 a.2.2.2.2.1.2.1 a.2.2.2.2.1.2.2 S (nI o) (nI cn) ++ (zb_a G (b 1) 120 ch ++ (zb_d G (b 4) D ++ (zb_k G (b 5) SK ++ zb_f G (b 6) sk))))))))))) H := hP
    have hD : va_D (zlA s) (zb_6 G b vm.1 (nI tn) (nI cn) sp ou ++ (zb_o G q f1 ++ ((zb_r G (b 2) K ++ zb_r G (b 3) vm.2) ++ ((zb_5 G a ++ (zb_L G a.2.2.1 L ++ (zb_M G a.2.2.1 L ++ (zb_L G a.2.2.2.1 v0 ++ zb_M G a.2.2.2.1 v0)))) ++ (zb_T G a.2.1 T ++ (zb_S G a sv ++ (zb_P G a.2.2.2.2.2.2.2 SL 2 ++ (zb_H G a.2.2.2.2.1.1 a.2.2.2.2.1.2.1 a.2.2.2.2.1.2.2 S (nI o) (nI cn) ++ (zb_a G (b 1) 120 ch ++ (zb_d G (b 4) D ++ (zb_k G (b 5) SK ++ zb_f G (b 6) sk))))))))))) := hD
    exact ⟨f1, T, L, v0, sv, SL, S, o, cn, vm.1, tn, sp, ou, ch, K, vm.2, D, SK, sk, n, t, ⟨w_mono hw hB1, hist_mono hh hB1, slot_mono hsl hB1, htx⟩, zk_Pperm hP (zlf_z _ _ _ _ _ _ _ _ _ _ _ _ _ _ _ _ _), zk_Dperm hD (zlf_z _ _ _ _ _ _ _ _ _ _ _ _ _ _ _ _ _), hS⟩
set_option maxHeartbeats 4000000 in
set_option maxRecDepth 100000 in
theorem zl_c23 {p : Program} {l : Launch} {e : Env} {s : State} {m : MethodId} {below : List Frame} {meth : Method} {c : Code} {H : Heap} {locs : List Loc} {cells slots : Nat} {Q : State → Prop} {bs Ls : Nat} {xs : Nat → Int32} {ls : Array Slot} {G : zk_G} {a : zA} {b : Nat → Nat} {q j : Nat} (C : zlC p l s m meth c bs Ls xs G) (hj : j < 512) (hJ : 4 * j + 4 ≤ Ls) (hcs : cells + 4 ≤ 601024 ∧ slots + 24 ≤ 7293034) (hS : zlS G s a b q j H locs) (hl : lv_has ls 7 [(0, .ref bs), (1, .ref a.1), (2, .ref (b 0)), (3, .ref q), (4, .int (nI (4 * j)))])
    (done : ∀ (H1 : Heap) (locs1 : List Loc) (ls1 : Array Slot), zlS G s a b q (j + 1) H1 locs1 → lv_has ls1 7 [(0, .ref bs), (1, .ref a.1), (2, .ref (b 0)), (3, .ref q), (4, .int (nI (4 * j)))] → W p l e room_1 s m #[.ref bs] below meth c H1 locs1 (cells + 4) (slots + 24) Q (F0 m 2035 ls1 [])) :
    W p l e room_1 s m #[.ref bs] below meth c H locs cells slots Q (F0 m 1574 ls []) := by
  obtain ⟨hst, ⟨hx, hb, hr, hml, hown, hts, hX, hbl, hlocks, hgv⟩, hLs, hE, hN⟩ := id C
  have hown : s.vm.findClass RL = some m.cls := hown
  have hK := hE.1
  have hA : ∀ q : Nat, s.heap.size ≤ q → zlA s q := fun _ h => h
  have hA0 : ∀ q : Nat, zlA s q → G.2.2.1 ≤ q := fun q h => Nat.le_trans hE.2.2.2.2 h
  have hB1 := zlB_1 j
  have hBl := zlB_lo j
  have hBh := zlB_hi hj
  obtain ⟨fo, T, L, Z, sv, SL, S, o, cn, rf, tn, sp, ou, ch, K, Y, D, SK, sk, n, t, ⟨hw, hh, hsl, htx⟩, hP, hD, hS⟩ := hS
  obtain ⟨⟨po, hT⟩, hch⟩ := id htx
  unfold zlW at hP hD
  refine lv_aload_n hx hb dL_law_1574 rfl (lv_at hl 1 rfl) ?_
  refine zl_ld (k := 1) C hS (lv_at hl 0 rfl) (lv_at hl 4 rfl) (by omega) (by decide) dL_law_1575 dL_law_1576 dL_law_1578 dL_law_1579 dL_law_1580 ?_
  refine zl_ld (k := 2) C hS (lv_at hl 0 rfl) (lv_at hl 4 rfl) (by omega) (by decide) dL_law_1581 dL_law_1582 dL_law_1584 dL_law_1585 dL_law_1586 ?_
  refine zl_ld (k := 3) C hS (lv_at hl 0 rfl) (lv_at hl 4 rfl) (by omega) (by decide) dL_law_1587 dL_law_1588 dL_law_1590 dL_law_1591 dL_law_1592 ?_
  refine lv_aload_n hx hb dL_law_1593 rfl (lv_at hl 3 rfl) ?_
  have hP0 : va_P G.1 vwCl ((zb_o G q fo ++ (zb_5 G a ++ (zb_L G a.2.2.1 L ++ (zb_M G a.2.2.1 L ++ (zb_L G a.2.2.2.1 Z ++ zb_M G a.2.2.2.1 Z))))) ++ ((zb_6 G b rf (nI tn) (nI cn) sp ou ++ (zb_r G (b 2) K ++ zb_r G (b 3) Y)) ++ (zb_T G a.2.1 T ++ (zb_S G a sv ++ (zb_P G a.2.2.2.2.2.2.2 SL 2 ++ (zb_H G a.2.2.2.2.1.1 a.2.2.2.2.1.2.1 a.2.2.2.2.1.2.2 S (nI o) (nI cn) ++ (zb_a G (b 1) 120 ch ++ (zb_d G (b 4) D ++ (zb_k G (b 5) SK ++ zb_f G (b 6) sk))))))))) H := zk_Pperm hP (zlp_z _ _ _ _ _ _ _ _ _ _ _ _ _ _ _ _ _)
  have hD0 : va_D (zlA s) ((zb_o G q fo ++ (zb_5 G a ++ (zb_L G a.2.2.1 L ++ (zb_M G a.2.2.1 L ++ (zb_L G a.2.2.2.1 Z ++ zb_M G a.2.2.2.1 Z))))) ++ ((zb_6 G b rf (nI tn) (nI cn) sp ou ++ (zb_r G (b 2) K ++ zb_r G (b 3) Y)) ++ (zb_T G a.2.1 T ++ (zb_S G a sv ++ (zb_P G a.2.2.2.2.2.2.2 SL 2 ++ (zb_H G a.2.2.2.2.1.1 a.2.2.2.2.1.2.1 a.2.2.2.2.1.2.2 S (nI o) (nI cn) ++ (zb_a G (b 1) 120 ch ++ (zb_d G (b 4) D ++ (zb_k G (b 5) SK ++ zb_f G (b 6) sk))))))))) := zk_Dperm hD (zlp_z _ _ _ _ _ _ _ _ _ _ _ _ _ _ _ _ _)
  refine zk_callI (wr := (zb_6 G b rf (nI tn) (nI cn) sp ou ++ (zb_r G (b 2) K ++ zb_r G (b 3) Y)) ++ (zb_T G a.2.1 T ++ (zb_S G a sv ++ (zb_P G a.2.2.2.2.2.2.2 SL 2 ++ (zb_H G a.2.2.2.2.1.1 a.2.2.2.2.1.2.1 a.2.2.2.2.1.2.2 S (nI o) (nI cn) ++ (zb_a G (b 1) 120 ch ++ (zb_d G (b 4) D ++ (zb_k G (b 5) SK ++ zb_f G (b 6) sk)))))))) (vx_runSW (As := [.ref a.1, .int (xs (4 * j + 1)), .int (xs (4 * j + 2)), .int (xs (4 * j + 3)), .ref q]) (rest := []) ⟨hx, hb, hml, hown, hts⟩ (c_L_ifEntitled l G hst a L n t (rL (wR hw)) (xs (4 * j + 1)) (xs (4 * j + 2)) (xs (4 * j + 3)) Z q fo _) (vx_cwSW 5 hts gL_law_L_ifEntitled rfl rfl rfl (by decide +kernel) ⟨Nat.le_of_ble_eq_true rfl, Nat.le_of_ble_eq_true rfl⟩) (zk_preSH hN hE hA0 hS (zk_Papp hP0).1 (zk_Dapp hD0).1) rfl rfl hl.1 rfl (lv_room (Nat.le_of_ble_eq_true rfl)) dL_law_1594 ⟨by show cells + 2 ≤ 601024; omega, by show slots + 12 ≤ 7293034; omega⟩) hP0 hD0 hS hA (fun r u H locs hL hP hD hS => ?_)
  refine lv_istore (lv' := [(5, .int r), (0, .ref bs), (1, .ref a.1), (2, .ref (b 0)), (3, .ref q), (4, .int (nI (4 * j)))]) hx hb dL_law_1597 hl (by decide) rfl (fun ls hl => ?_)
  refine lv_aload_n hx hb dL_law_1599 rfl (lv_at hl 3 rfl) ?_
  refine zl_ld (k := 1) C hS (lv_at hl 1 rfl) (lv_at hl 5 rfl) (by omega) (by decide) dL_law_1600 dL_law_1601 dL_law_1603 dL_law_1604 dL_law_1605 ?_
  refine zl_ld (k := 2) C hS (lv_at hl 1 rfl) (lv_at hl 5 rfl) (by omega) (by decide) dL_law_1606 dL_law_1607 dL_law_1609 dL_law_1610 dL_law_1611 ?_
  refine zl_ld (k := 3) C hS (lv_at hl 1 rfl) (lv_at hl 5 rfl) (by omega) (by decide) dL_law_1612 dL_law_1613 dL_law_1615 dL_law_1616 dL_law_1617 ?_
  have hP0 := zk_Pperm hP (List.perm_append_comm_assoc _ _ _)
  have hD0 := zk_Dperm hD (List.perm_append_comm_assoc _ _ _)
  refine zk_callI (va_runV (As := [.int (xs (4 * j + 1)), .int (xs (4 * j + 2)), .int (xs (4 * j + 3))]) (rest := []) ⟨hx, hb, hml, hown, hts⟩ (c_X6_ifEntitled l G b rf (nI tn) (nI cn) sp ou K n t (rK (wR hw)) Y (xs (4 * j + 1)) (xs (4 * j + 2)) (xs (4 * j + 3)) _) (cwV 3 hts gL_law_X6_ifEntitled rfl rfl rfl (by decide +kernel) ⟨Nat.le_of_ble_eq_true rfl, Nat.le_of_ble_eq_true rfl⟩) (zk_preV hE hA0 hS (zk_Papp hP0).1 (zk_Dapp hD0).1 (va_recv hK hP0 (ci := 5) (q0 := 0) rfl rfl)) rfl rfl hl.1 rfl (lv_room (Nat.le_of_ble_eq_true rfl)) dL_law_1618 ⟨by show cells + 2 + 0 ≤ 601024; omega, by show slots + 12 + 0 ≤ 7293034; omega⟩) hP0 hD0 hS hA (fun r2 vm H locs hM hP hD hS => ?_)
  obtain ⟨hk, hans⟩ := zp_ifEntitled hw ⟨by omega, by omega⟩ hL hM
  refine zl_tail (t := 1621) C dL_law_1621 dL_law_1623 dL_law_1624 dL_law_1627 dL_law_1629 dL_law_1634 dL_law_1636 dL_law_1639 dL_law_1640 dL_law_1641 dL_law_1642 dL_law_1644 dL_law_1645 dL_law_1646 dL_law_1651 (by decide) ⟨by show cells + 2 + 0 ≤ 601024; omega, by show slots + 12 + 0 ≤ 7293034; omega⟩ hl (zk_Pperm hP (zlt _ _ _ _ _)) (zk_Dperm hD (zlt _ _ _ _ _)) hS hk hans (fun H locs ls hP hD hS hl => ?_)
  refine W.widen (k := cells + 4) (n := slots + 24) (by show cells + 2 + 0 ≤ cells + 4; omega) (by show slots + 12 + 0 ≤ slots + 24; omega) ?_
  refine done H locs ls ?_ hl
  obtain ⟨_ | v0, f1⟩ := u
  · have hP : va_P G.1 vwCl (zb_6 G b vm.1 (nI tn) (nI cn) sp ou ++ (zb_o G q f1 ++ ((zb_r G (b 2) K ++ zb_r G (b 3) vm.2) ++ ((zb_5 G a ++ (zb_L G a.2.2.1 L ++ (zb_M G a.2.2.1 L ++ (zb_L G a.2.2.2.1 Z ++ zb_M G a.2.2.2.1 Z)))) ++ (zb_T G a.2.1 T ++ (zb_S G a sv ++ (zb_P G a.2.2.2.2.2.2.2 SL 2 ++ (zb_H G a.2.2.2.2.1.1 a.2.2.2.2.1.2.1 a.2.2.2.2.1.2.2 S (nI o) (nI cn) ++ (zb_a G (b 1) 120 ch ++ (zb_d G (b 4) D ++ (zb_k G (b 5) SK ++ zb_f G (b 6) sk))))))))))) H := hP
    have hD : va_D (zlA s) (zb_6 G b vm.1 (nI tn) (nI cn) sp ou ++ (zb_o G q f1 ++ ((zb_r G (b 2) K ++ zb_r G (b 3) vm.2) ++ ((zb_5 G a ++ (zb_L G a.2.2.1 L ++ (zb_M G a.2.2.1 L ++ (zb_L G a.2.2.2.1 Z ++ zb_M G a.2.2.2.1 Z)))) ++ (zb_T G a.2.1 T ++ (zb_S G a sv ++ (zb_P G a.2.2.2.2.2.2.2 SL 2 ++ (zb_H G a.2.2.2.2.1.1 a.2.2.2.2.1.2.1 a.2.2.2.2.1.2.2 S (nI o) (nI cn) ++ (zb_a G (b 1) 120 ch ++ (zb_d G (b 4) D ++ (zb_k G (b 5) SK ++ zb_f G (b 6) sk))))))))))) := hD
    exact ⟨f1, T, L, Z, sv, SL, S, o, cn, vm.1, tn, sp, ou, ch, K, vm.2, D, SK, sk, n, t, ⟨w_mono hw hB1, hist_mono hh hB1, slot_mono hsl hB1, htx⟩, zk_Pperm hP (zlf_z _ _ _ _ _ _ _ _ _ _ _ _ _ _ _ _ _), zk_Dperm hD (zlf_z _ _ _ _ _ _ _ _ _ _ _ _ _ _ _ _ _), hS⟩
  · have hP : va_P G.1 vwCl (zb_6 G b vm.1 (nI tn) (nI cn) sp ou ++ (zb_o G q f1 ++ ((zb_r G (b 2) K ++ zb_r G (b 3) vm.2) ++ ((zb_5 G a ++ (zb_L G a.2.2.1 L ++ (zb_M G a.2.2.1 L ++ (zb_L G a.2.2.2.1 v0 ++ zb_M G a.2.2.2.1 v0)))) ++ (zb_T G a.2.1 T ++ (zb_S G a sv ++ (zb_P G a.2.2.2.2.2.2.2 SL 2 ++ (zb_H G a.2.2.2.2.1.1 a.2.2.2.2.1.2.1 a.2.2.2.2.1.2.2 S (nI o) (nI cn) ++ (zb_a G (b 1) 120 ch ++ (zb_d G (b 4) D ++ (zb_k G (b 5) SK ++ zb_f G (b 6) sk))))))))))) H := hP
    have hD : va_D (zlA s) (zb_6 G b vm.1 (nI tn) (nI cn) sp ou ++ (zb_o G q f1 ++ ((zb_r G (b 2) K ++ zb_r G (b 3) vm.2) ++ ((zb_5 G a ++ (zb_L G a.2.2.1 L ++ (zb_M G a.2.2.1 L ++ (zb_L G a.2.2.2.1 v0 ++ zb_M G a.2.2.2.1 v0)))) ++ (zb_T G a.2.1 T ++ (zb_S G a sv ++ (zb_P G a.2.2.2.2.2.2.2 SL 2 ++ (zb_H G a.2.2.2.2.1.1 a.2.2.2.2.1.2.1 a.2.2.2.2.1.2.2 S (nI o) (nI cn) ++ (zb_a G (b 1) 120 ch ++ (zb_d G (b 4) D ++ (zb_k G (b 5) SK ++ zb_f G (b 6) sk))))))))))) := hD
    exact ⟨f1, T, L, v0, sv, SL, S, o, cn, vm.1, tn, sp, ou, ch, K, vm.2, D, SK, sk, n, t, ⟨w_mono hw hB1, hist_mono hh hB1, slot_mono hsl hB1, htx⟩, zk_Pperm hP (zlf_z _ _ _ _ _ _ _ _ _ _ _ _ _ _ _ _ _), zk_Dperm hD (zlf_z _ _ _ _ _ _ _ _ _ _ _ _ _ _ _ _ _), hS⟩
set_option maxHeartbeats 4000000 in
set_option maxRecDepth 100000 in
theorem zl_c24 {p : Program} {l : Launch} {e : Env} {s : State} {m : MethodId} {below : List Frame} {meth : Method} {c : Code} {H : Heap} {locs : List Loc} {cells slots : Nat} {Q : State → Prop} {bs Ls : Nat} {xs : Nat → Int32} {ls : Array Slot} {G : zk_G} {a : zA} {b : Nat → Nat} {q j : Nat} (C : zlC p l s m meth c bs Ls xs G) (hj : j < 512) (hJ : 4 * j + 4 ≤ Ls) (hcs : cells + 4 ≤ 601024 ∧ slots + 24 ≤ 7293034) (hS : zlS G s a b q j H locs) (hl : lv_has ls 7 [(0, .ref bs), (1, .ref a.1), (2, .ref (b 0)), (3, .ref q), (4, .int (nI (4 * j)))])
    (done : ∀ (H1 : Heap) (locs1 : List Loc) (ls1 : Array Slot), zlS G s a b q (j + 1) H1 locs1 → lv_has ls1 7 [(0, .ref bs), (1, .ref a.1), (2, .ref (b 0)), (3, .ref q), (4, .int (nI (4 * j)))] → W p l e room_1 s m #[.ref bs] below meth c H1 locs1 (cells + 4) (slots + 24) Q (F0 m 2035 ls1 [])) :
    W p l e room_1 s m #[.ref bs] below meth c H locs cells slots Q (F0 m 1654 ls []) := by
  obtain ⟨hst, ⟨hx, hb, hr, hml, hown, hts, hX, hbl, hlocks, hgv⟩, hLs, hE, hN⟩ := id C
  have hown : s.vm.findClass RL = some m.cls := hown
  have hK := hE.1
  have hA : ∀ q : Nat, s.heap.size ≤ q → zlA s q := fun _ h => h
  have hA0 : ∀ q : Nat, zlA s q → G.2.2.1 ≤ q := fun q h => Nat.le_trans hE.2.2.2.2 h
  have hB1 := zlB_1 j
  have hBl := zlB_lo j
  have hBh := zlB_hi hj
  obtain ⟨fo, T, L, Z, sv, SL, S, o, cn, rf, tn, sp, ou, ch, K, Y, D, SK, sk, n, t, ⟨hw, hh, hsl, htx⟩, hP, hD, hS⟩ := hS
  obtain ⟨⟨po, hT⟩, hch⟩ := id htx
  unfold zlW at hP hD
  refine lv_aload_n hx hb dL_law_1654 rfl (lv_at hl 1 rfl) ?_
  refine zl_ld (k := 1) C hS (lv_at hl 0 rfl) (lv_at hl 4 rfl) (by omega) (by decide) dL_law_1655 dL_law_1656 dL_law_1658 dL_law_1659 dL_law_1660 ?_
  refine lv_aload_n hx hb dL_law_1661 rfl (lv_at hl 3 rfl) ?_
  have hP0 : va_P G.1 vwCl ((zb_o G q fo ++ (zb_5 G a ++ (zb_L G a.2.2.1 L ++ (zb_M G a.2.2.1 L ++ (zb_L G a.2.2.2.1 Z ++ zb_M G a.2.2.2.1 Z))))) ++ ((zb_6 G b rf (nI tn) (nI cn) sp ou ++ (zb_r G (b 2) K ++ zb_r G (b 3) Y)) ++ (zb_T G a.2.1 T ++ (zb_S G a sv ++ (zb_P G a.2.2.2.2.2.2.2 SL 2 ++ (zb_H G a.2.2.2.2.1.1 a.2.2.2.2.1.2.1 a.2.2.2.2.1.2.2 S (nI o) (nI cn) ++ (zb_a G (b 1) 120 ch ++ (zb_d G (b 4) D ++ (zb_k G (b 5) SK ++ zb_f G (b 6) sk))))))))) H := zk_Pperm hP (zlp_z _ _ _ _ _ _ _ _ _ _ _ _ _ _ _ _ _)
  have hD0 : va_D (zlA s) ((zb_o G q fo ++ (zb_5 G a ++ (zb_L G a.2.2.1 L ++ (zb_M G a.2.2.1 L ++ (zb_L G a.2.2.2.1 Z ++ zb_M G a.2.2.2.1 Z))))) ++ ((zb_6 G b rf (nI tn) (nI cn) sp ou ++ (zb_r G (b 2) K ++ zb_r G (b 3) Y)) ++ (zb_T G a.2.1 T ++ (zb_S G a sv ++ (zb_P G a.2.2.2.2.2.2.2 SL 2 ++ (zb_H G a.2.2.2.2.1.1 a.2.2.2.2.1.2.1 a.2.2.2.2.1.2.2 S (nI o) (nI cn) ++ (zb_a G (b 1) 120 ch ++ (zb_d G (b 4) D ++ (zb_k G (b 5) SK ++ zb_f G (b 6) sk))))))))) := zk_Dperm hD (zlp_z _ _ _ _ _ _ _ _ _ _ _ _ _ _ _ _ _)
  refine zk_callI (wr := (zb_6 G b rf (nI tn) (nI cn) sp ou ++ (zb_r G (b 2) K ++ zb_r G (b 3) Y)) ++ (zb_T G a.2.1 T ++ (zb_S G a sv ++ (zb_P G a.2.2.2.2.2.2.2 SL 2 ++ (zb_H G a.2.2.2.2.1.1 a.2.2.2.2.1.2.1 a.2.2.2.2.1.2.2 S (nI o) (nI cn) ++ (zb_a G (b 1) 120 ch ++ (zb_d G (b 4) D ++ (zb_k G (b 5) SK ++ zb_f G (b 6) sk)))))))) (vx_runSW (As := [.ref a.1, .int (xs (4 * j + 1)), .ref q]) (rest := []) ⟨hx, hb, hml, hown, hts⟩ (c_L_ifPrice l G hst a L n t (rL (wR hw)) (xs (4 * j + 1)) Z q fo _) (vx_cwSW 3 hts gL_law_L_ifPrice rfl rfl rfl (by decide +kernel) ⟨Nat.le_of_ble_eq_true rfl, Nat.le_of_ble_eq_true rfl⟩) (zk_preSH hN hE hA0 hS (zk_Papp hP0).1 (zk_Dapp hD0).1) rfl rfl hl.1 rfl (lv_room (Nat.le_of_ble_eq_true rfl)) dL_law_1662 ⟨by show cells + 1 ≤ 601024; omega, by show slots + 6 ≤ 7293034; omega⟩) hP0 hD0 hS hA (fun r u H locs hL hP hD hS => ?_)
  refine lv_istore (lv' := [(5, .int r), (0, .ref bs), (1, .ref a.1), (2, .ref (b 0)), (3, .ref q), (4, .int (nI (4 * j)))]) hx hb dL_law_1665 hl (by decide) rfl (fun ls hl => ?_)
  refine lv_aload_n hx hb dL_law_1667 rfl (lv_at hl 3 rfl) ?_
  refine zl_ld (k := 1) C hS (lv_at hl 1 rfl) (lv_at hl 5 rfl) (by omega) (by decide) dL_law_1668 dL_law_1669 dL_law_1671 dL_law_1672 dL_law_1673 ?_
  have hP0 := zk_Pperm hP (List.perm_append_comm_assoc _ _ _)
  have hD0 := zk_Dperm hD (List.perm_append_comm_assoc _ _ _)
  refine zk_callI (va_runV (As := [.int (xs (4 * j + 1))]) (rest := []) ⟨hx, hb, hml, hown, hts⟩ (c_X6_ifPrice l G b rf (nI tn) (nI cn) sp ou K n t (rK (wR hw)) Y (xs (4 * j + 1)) _) (cwV 1 hts gL_law_X6_ifPrice rfl rfl rfl (by decide +kernel) ⟨Nat.le_of_ble_eq_true rfl, Nat.le_of_ble_eq_true rfl⟩) (zk_preV hE hA0 hS (zk_Papp hP0).1 (zk_Dapp hD0).1 (va_recv hK hP0 (ci := 5) (q0 := 0) rfl rfl)) rfl rfl hl.1 rfl (lv_room (Nat.le_of_ble_eq_true rfl)) dL_law_1674 ⟨by show cells + 1 + 0 ≤ 601024; omega, by show slots + 6 + 0 ≤ 7293034; omega⟩) hP0 hD0 hS hA (fun r2 vm H locs hM hP hD hS => ?_)
  obtain ⟨hk, hans⟩ := zp_ifPrice hw ⟨by omega, by omega⟩ hL hM
  refine zl_tail (t := 1677) C dL_law_1677 dL_law_1679 dL_law_1680 dL_law_1683 dL_law_1685 dL_law_1690 dL_law_1692 dL_law_1695 dL_law_1696 dL_law_1697 dL_law_1698 dL_law_1700 dL_law_1701 dL_law_1702 dL_law_1707 (by decide) ⟨by show cells + 1 + 0 ≤ 601024; omega, by show slots + 6 + 0 ≤ 7293034; omega⟩ hl (zk_Pperm hP (zlt _ _ _ _ _)) (zk_Dperm hD (zlt _ _ _ _ _)) hS hk hans (fun H locs ls hP hD hS hl => ?_)
  refine W.widen (k := cells + 4) (n := slots + 24) (by show cells + 1 + 0 ≤ cells + 4; omega) (by show slots + 6 + 0 ≤ slots + 24; omega) ?_
  refine done H locs ls ?_ hl
  obtain ⟨_ | v0, f1⟩ := u
  · have hP : va_P G.1 vwCl (zb_6 G b vm.1 (nI tn) (nI cn) sp ou ++ (zb_o G q f1 ++ ((zb_r G (b 2) K ++ zb_r G (b 3) vm.2) ++ ((zb_5 G a ++ (zb_L G a.2.2.1 L ++ (zb_M G a.2.2.1 L ++ (zb_L G a.2.2.2.1 Z ++ zb_M G a.2.2.2.1 Z)))) ++ (zb_T G a.2.1 T ++ (zb_S G a sv ++ (zb_P G a.2.2.2.2.2.2.2 SL 2 ++ (zb_H G a.2.2.2.2.1.1 a.2.2.2.2.1.2.1 a.2.2.2.2.1.2.2 S (nI o) (nI cn) ++ (zb_a G (b 1) 120 ch ++ (zb_d G (b 4) D ++ (zb_k G (b 5) SK ++ zb_f G (b 6) sk))))))))))) H := hP
    have hD : va_D (zlA s) (zb_6 G b vm.1 (nI tn) (nI cn) sp ou ++ (zb_o G q f1 ++ ((zb_r G (b 2) K ++ zb_r G (b 3) vm.2) ++ ((zb_5 G a ++ (zb_L G a.2.2.1 L ++ (zb_M G a.2.2.1 L ++ (zb_L G a.2.2.2.1 Z ++ zb_M G a.2.2.2.1 Z)))) ++ (zb_T G a.2.1 T ++ (zb_S G a sv ++ (zb_P G a.2.2.2.2.2.2.2 SL 2 ++ (zb_H G a.2.2.2.2.1.1 a.2.2.2.2.1.2.1 a.2.2.2.2.1.2.2 S (nI o) (nI cn) ++ (zb_a G (b 1) 120 ch ++ (zb_d G (b 4) D ++ (zb_k G (b 5) SK ++ zb_f G (b 6) sk))))))))))) := hD
    exact ⟨f1, T, L, Z, sv, SL, S, o, cn, vm.1, tn, sp, ou, ch, K, vm.2, D, SK, sk, n, t, ⟨w_mono hw hB1, hist_mono hh hB1, slot_mono hsl hB1, htx⟩, zk_Pperm hP (zlf_z _ _ _ _ _ _ _ _ _ _ _ _ _ _ _ _ _), zk_Dperm hD (zlf_z _ _ _ _ _ _ _ _ _ _ _ _ _ _ _ _ _), hS⟩
  · have hP : va_P G.1 vwCl (zb_6 G b vm.1 (nI tn) (nI cn) sp ou ++ (zb_o G q f1 ++ ((zb_r G (b 2) K ++ zb_r G (b 3) vm.2) ++ ((zb_5 G a ++ (zb_L G a.2.2.1 L ++ (zb_M G a.2.2.1 L ++ (zb_L G a.2.2.2.1 v0 ++ zb_M G a.2.2.2.1 v0)))) ++ (zb_T G a.2.1 T ++ (zb_S G a sv ++ (zb_P G a.2.2.2.2.2.2.2 SL 2 ++ (zb_H G a.2.2.2.2.1.1 a.2.2.2.2.1.2.1 a.2.2.2.2.1.2.2 S (nI o) (nI cn) ++ (zb_a G (b 1) 120 ch ++ (zb_d G (b 4) D ++ (zb_k G (b 5) SK ++ zb_f G (b 6) sk))))))))))) H := hP
    have hD : va_D (zlA s) (zb_6 G b vm.1 (nI tn) (nI cn) sp ou ++ (zb_o G q f1 ++ ((zb_r G (b 2) K ++ zb_r G (b 3) vm.2) ++ ((zb_5 G a ++ (zb_L G a.2.2.1 L ++ (zb_M G a.2.2.1 L ++ (zb_L G a.2.2.2.1 v0 ++ zb_M G a.2.2.2.1 v0)))) ++ (zb_T G a.2.1 T ++ (zb_S G a sv ++ (zb_P G a.2.2.2.2.2.2.2 SL 2 ++ (zb_H G a.2.2.2.2.1.1 a.2.2.2.2.1.2.1 a.2.2.2.2.1.2.2 S (nI o) (nI cn) ++ (zb_a G (b 1) 120 ch ++ (zb_d G (b 4) D ++ (zb_k G (b 5) SK ++ zb_f G (b 6) sk))))))))))) := hD
    exact ⟨f1, T, L, v0, sv, SL, S, o, cn, vm.1, tn, sp, ou, ch, K, vm.2, D, SK, sk, n, t, ⟨w_mono hw hB1, hist_mono hh hB1, slot_mono hsl hB1, htx⟩, zk_Pperm hP (zlf_z _ _ _ _ _ _ _ _ _ _ _ _ _ _ _ _ _), zk_Dperm hD (zlf_z _ _ _ _ _ _ _ _ _ _ _ _ _ _ _ _ _), hS⟩
