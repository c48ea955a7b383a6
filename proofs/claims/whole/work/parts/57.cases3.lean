/-! cases of the law -/
set_option maxHeartbeats 4000000 in
set_option maxRecDepth 100000 in
theorem zl_c10 {p : Program} {l : Launch} {e : Env} {s : State} {m : MethodId} {below : List Frame} {meth : Method} {c : Code} {H : Heap} {locs : List Loc} {cells slots : Nat} {Q : State → Prop} {bs Ls : Nat} {xs : Nat → Int32} {ls : Array Slot} {G : zk_G} {a : zA} {b : Nat → Nat} {q j : Nat} (C : zlC p l s m meth c bs Ls xs G) (hj : j < 512) (hJ : 4 * j + 4 ≤ Ls) (hcs : cells + 4 ≤ 601024 ∧ slots + 24 ≤ 7293034) (hS : zlS G s a b q j H locs) (hl : lv_has ls 7 [(0, .ref bs), (1, .ref a.1), (2, .ref (b 0)), (3, .ref q), (4, .int (nI (4 * j)))])
    (done : ∀ (H1 : Heap) (locs1 : List Loc) (ls1 : Array Slot), zlS G s a b q (j + 1) H1 locs1 → lv_has ls1 7 [(0, .ref bs), (1, .ref a.1), (2, .ref (b 0)), (3, .ref q), (4, .int (nI (4 * j)))] → W p l e room_1 s m #[.ref bs] below meth c H1 locs1 (cells + 4) (slots + 24) Q (F0 m 2035 ls1 [])) :
    W p l e room_1 s m #[.ref bs] below meth c H locs cells slots Q (F0 m 694 ls []) := by
  obtain ⟨hst, ⟨hx, hb, hr, hml, hown, hts, hX, hbl, hlocks, hgv⟩, hLs, hE, hN⟩ := id C
  have hown : s.vm.findClass RL = some m.cls := hown
  have hK := hE.1
  have hA : ∀ q : Nat, s.heap.size ≤ q → zlA s q := fun _ h => h
  have hA0 : ∀ q : Nat, zlA s q → G.2.2.1 ≤ q := fun q h => Nat.le_trans hE.2.2.2.2 h
  have hB1 := zlB_1 j
  have hBl := zlB_lo j
  have hBh := zlB_hi hj
  obtain ⟨fo, T, L, Z, sv, SL, S, o, cn, rf, tn, sp, ou, ch, K, Y, D, SK, sk, n, t, ⟨hw, hh, hsl, htx⟩, hP, hD, hS⟩ := hS
  obtain ⟨⟨po, hT⟩, hch⟩ := id htx
  unfold zlW at hP hD
  refine lv_aload_n hx hb dL_law_694 rfl (lv_at hl 1 rfl) ?_
  refine zl_ld (k := 1) C hS (lv_at hl 0 rfl) (lv_at hl 4 rfl) (by omega) (by decide) dL_law_695 dL_law_696 dL_law_698 dL_law_699 dL_law_700 ?_
  refine zl_ld (k := 2) C hS (lv_at hl 0 rfl) (lv_at hl 4 rfl) (by omega) (by decide) dL_law_701 dL_law_702 dL_law_704 dL_law_705 dL_law_706 ?_
  refine lv_aload_n hx hb dL_law_707 rfl (lv_at hl 3 rfl) ?_
  have hP0 : va_P G.1 vwCl ((zb_o G q fo ++ (zb_5 G a ++ (zb_L G a.2.2.1 L ++ (zb_M G a.2.2.1 L ++ zb_H G a.2.2.2.2.1.1 a.2.2.2.2.1.2.1 a.2.2.2.2.1.2.2 S (nI o) (nI cn))))) ++ ((zb_6 G b rf (nI tn) (nI cn) sp ou ++ (zb_r G (b 2) K ++ zb_d G (b 4) D)) ++ (zb_T G a.2.1 T ++ (zb_L G a.2.2.2.1 Z ++ (zb_M G a.2.2.2.1 Z ++ (zb_S G a sv ++ (zb_P G a.2.2.2.2.2.2.2 SL 2 ++ (zb_a G (b 1) 120 ch ++ (zb_r G (b 3) Y ++ (zb_k G (b 5) SK ++ zb_f G (b 6) sk)))))))))) H := zk_Pperm hP (zlp_a _ _ _ _ _ _ _ _ _ _ _ _ _ _ _ _ _)
  have hD0 : va_D (zlA s) ((zb_o G q fo ++ (zb_5 G a ++ (zb_L G a.2.2.1 L ++ (zb_M G a.2.2.1 L ++ zb_H G a.2.2.2.2.1.1 a.2.2.2.2.1.2.1 a.2.2.2.2.1.2.2 S (nI o) (nI cn))))) ++ ((zb_6 G b rf (nI tn) (nI cn) sp ou ++ (zb_r G (b 2) K ++ zb_d G (b 4) D)) ++ (zb_T G a.2.1 T ++ (zb_L G a.2.2.2.1 Z ++ (zb_M G a.2.2.2.1 Z ++ (zb_S G a sv ++ (zb_P G a.2.2.2.2.2.2.2 SL 2 ++ (zb_a G (b 1) 120 ch ++ (zb_r G (b 3) Y ++ (zb_k G (b 5) SK ++ zb_f G (b 6) sk)))))))))) := zk_Dperm hD (zlp_a _ _ _ _ _ _ _ _ _ _ _ _ _ _ _ _ _)
  refine zk_callI (wr := (zb_6 G b rf (nI tn) (nI cn) sp ou ++ (zb_r G (b 2) K ++ zb_d G (b 4) D)) ++ (zb_T G a.2.1 T ++ (zb_L G a.2.2.2.1 Z ++ (zb_M G a.2.2.2.1 Z ++ (zb_S G a sv ++ (zb_P G a.2.2.2.2.2.2.2 SL 2 ++ (zb_a G (b 1) 120 ch ++ (zb_r G (b 3) Y ++ (zb_k G (b 5) SK ++ zb_f G (b 6) sk))))))))) (vx_runSW (As := [.ref a.1, .int (xs (4 * j + 1)), .int (xs (4 * j + 2)), .ref q]) (rest := []) ⟨hx, hb, hml, hown, hts⟩ (c_L_come l G hst a L n t (rL (wR hw)) (xs (4 * j + 1)) (xs (4 * j + 2)) S o cn hh.1 hh.2.1 q fo _) (vx_cwSW 4 hts gL_law_L_come rfl rfl rfl (by decide +kernel) ⟨Nat.le_of_ble_eq_true rfl, Nat.le_of_ble_eq_true rfl⟩) (zk_preSH hN hE hA0 hS (zk_Papp hP0).1 (zk_Dapp hD0).1) rfl rfl hl.1 rfl (lv_room (Nat.le_of_ble_eq_true rfl)) dL_law_708 ⟨by show cells + 2 ≤ 601024; omega, by show slots + 12 ≤ 7293034; omega⟩) hP0 hD0 hS hA (fun r u H locs hL hP hD hS => ?_)
  refine lv_istore (lv' := [(5, .int r), (0, .ref bs), (1, .ref a.1), (2, .ref (b 0)), (3, .ref q), (4, .int (nI (4 * j)))]) hx hb dL_law_711 hl (by decide) rfl (fun ls hl => ?_)
  refine lv_aload_n hx hb dL_law_713 rfl (lv_at hl 3 rfl) ?_
  refine zl_ld (k := 1) C hS (lv_at hl 1 rfl) (lv_at hl 5 rfl) (by omega) (by decide) dL_law_714 dL_law_715 dL_law_717 dL_law_718 dL_law_719 ?_
  refine zl_ld (k := 2) C hS (lv_at hl 1 rfl) (lv_at hl 5 rfl) (by omega) (by decide) dL_law_720 dL_law_721 dL_law_723 dL_law_724 dL_law_725 ?_
  have hP0 := zk_Pperm hP (List.perm_append_comm_assoc _ _ _)
  have hD0 := zk_Dperm hD (List.perm_append_comm_assoc _ _ _)
  refine zk_callI (va_runV (As := [.int (xs (4 * j + 1)), .int (xs (4 * j + 2))]) (rest := []) ⟨hx, hb, hml, hown, hts⟩ (c_X6_come l G b rf (nI tn) cn sp ou hh.2.1 K n t (rK (wR hw)) D (xs (4 * j + 1)) (xs (4 * j + 2)) _) (cwV 2 hts gL_law_X6_come rfl rfl rfl (by decide +kernel) ⟨Nat.le_of_ble_eq_true rfl, Nat.le_of_ble_eq_true rfl⟩) (zk_preV hE hA0 hS (zk_Papp hP0).1 (zk_Dapp hD0).1 (va_recv hK hP0 (ci := 5) (q0 := 0) rfl rfl)) rfl rfl hl.1 rfl (lv_room (Nat.le_of_ble_eq_true rfl)) dL_law_726 ⟨by show cells + 2 + 0 ≤ 601024; omega, by show slots + 12 + 0 ≤ 7293034; omega⟩) hP0 hD0 hS hA (fun r2 vm H locs hM hP hD hS => ?_)
  obtain ⟨⟨hk, hans⟩, hfin⟩ := zp_come hw hh ⟨by omega, by omega⟩ hL hM
  refine zl_tail (t := 729) C dL_law_729 dL_law_731 dL_law_732 dL_law_735 dL_law_737 dL_law_742 dL_law_744 dL_law_747 dL_law_748 dL_law_749 dL_law_750 dL_law_752 dL_law_753 dL_law_754 dL_law_759 (by decide) ⟨by show cells + 2 + 0 ≤ 601024; omega, by show slots + 12 + 0 ≤ 7293034; omega⟩ hl (zk_Pperm hP (zlt _ _ _ _ _)) (zk_Dperm hD (zlt _ _ _ _ _)) hS hk hans (fun H locs ls hP hD hS hl => ?_)
  refine W.widen (k := cells + 4) (n := slots + 24) (by show cells + 2 + 0 ≤ cells + 4; omega) (by show slots + 12 + 0 ≤ slots + 24; omega) ?_
  refine done H locs ls ?_ hl
  rw [zlB_s] at hfin
  obtain ⟨_ | v0, f1⟩ := u
  · obtain ⟨⟨hh2, ec⟩, n2, t2, hw2⟩ := hfin
    have hP : va_P G.1 vwCl (zb_6 G b vm.1 (nI tn) (nI vm.2.1.1) sp ou ++ (zb_o G q f1 ++ ((zb_r G (b 2) vm.2.2 ++ zb_d G (b 4) vm.2.1.2) ++ ((zb_5 G a ++ (zb_L G a.2.2.1 L ++ (zb_M G a.2.2.1 L ++ zb_H G a.2.2.2.2.1.1 a.2.2.2.2.1.2.1 a.2.2.2.2.1.2.2 S (nI o) (nI cn)))) ++ (zb_T G a.2.1 T ++ (zb_L G a.2.2.2.1 Z ++ (zb_M G a.2.2.2.1 Z ++ (zb_S G a sv ++ (zb_P G a.2.2.2.2.2.2.2 SL 2 ++ (zb_a G (b 1) 120 ch ++ (zb_r G (b 3) Y ++ (zb_k G (b 5) SK ++ zb_f G (b 6) sk)))))))))))) H := hP
    have hD : va_D (zlA s) (zb_6 G b vm.1 (nI tn) (nI vm.2.1.1) sp ou ++ (zb_o G q f1 ++ ((zb_r G (b 2) vm.2.2 ++ zb_d G (b 4) vm.2.1.2) ++ ((zb_5 G a ++ (zb_L G a.2.2.1 L ++ (zb_M G a.2.2.1 L ++ zb_H G a.2.2.2.2.1.1 a.2.2.2.2.1.2.1 a.2.2.2.2.1.2.2 S (nI o) (nI cn)))) ++ (zb_T G a.2.1 T ++ (zb_L G a.2.2.2.1 Z ++ (zb_M G a.2.2.2.1 Z ++ (zb_S G a sv ++ (zb_P G a.2.2.2.2.2.2.2 SL 2 ++ (zb_a G (b 1) 120 ch ++ (zb_r G (b 3) Y ++ (zb_k G (b 5) SK ++ zb_f G (b 6) sk)))))))))))) := hD
    rw [ec] at hP hD
    exact ⟨f1, T, L, Z, sv, SL, S, o, cn, vm.1, tn, sp, ou, ch, vm.2.2, Y, vm.2.1.2, SK, sk, n2, t2, ⟨hw2, hh2, slot_mono hsl hB1, htx⟩, zk_Pperm hP (zlf_a _ _ _ _ _ _ _ _ _ _ _ _ _ _ _ _ _), zk_Dperm hD (zlf_a _ _ _ _ _ _ _ _ _ _ _ _ _ _ _ _ _), hS⟩
  · obtain ⟨⟨hh2, ec⟩, n2, t2, hw2⟩ := hfin
    have hP : va_P G.1 vwCl (zb_6 G b vm.1 (nI tn) (nI vm.2.1.1) sp ou ++ (zb_o G q f1 ++ ((zb_r G (b 2) vm.2.2 ++ zb_d G (b 4) vm.2.1.2) ++ ((zb_5 G a ++ (zb_L G a.2.2.1 v0.2 ++ (zb_M G a.2.2.1 v0.2 ++ zb_H G a.2.2.2.2.1.1 a.2.2.2.2.1.2.1 a.2.2.2.2.1.2.2 v0.1.2.2 (nI v0.1.1) (nI v0.1.2.1)))) ++ (zb_T G a.2.1 T ++ (zb_L G a.2.2.2.1 Z ++ (zb_M G a.2.2.2.1 Z ++ (zb_S G a sv ++ (zb_P G a.2.2.2.2.2.2.2 SL 2 ++ (zb_a G (b 1) 120 ch ++ (zb_r G (b 3) Y ++ (zb_k G (b 5) SK ++ zb_f G (b 6) sk)))))))))))) H := hP
    have hD : va_D (zlA s) (zb_6 G b vm.1 (nI tn) (nI vm.2.1.1) sp ou ++ (zb_o G q f1 ++ ((zb_r G (b 2) vm.2.2 ++ zb_d G (b 4) vm.2.1.2) ++ ((zb_5 G a ++ (zb_L G a.2.2.1 v0.2 ++ (zb_M G a.2.2.1 v0.2 ++ zb_H G a.2.2.2.2.1.1 a.2.2.2.2.1.2.1 a.2.2.2.2.1.2.2 v0.1.2.2 (nI v0.1.1) (nI v0.1.2.1)))) ++ (zb_T G a.2.1 T ++ (zb_L G a.2.2.2.1 Z ++ (zb_M G a.2.2.2.1 Z ++ (zb_S G a sv ++ (zb_P G a.2.2.2.2.2.2.2 SL 2 ++ (zb_a G (b 1) 120 ch ++ (zb_r G (b 3) Y ++ (zb_k G (b 5) SK ++ zb_f G (b 6) sk)))))))))))) := hD
    rw [ec] at hP hD
    exact ⟨f1, T, v0.2, Z, sv, SL, v0.1.2.2, v0.1.1, v0.1.2.1, vm.1, tn, sp, ou, ch, vm.2.2, Y, vm.2.1.2, SK, sk, n2, t2, ⟨hw2, hh2, slot_mono hsl hB1, htx⟩, zk_Pperm hP (zlf_a _ _ _ _ _ _ _ _ _ _ _ _ _ _ _ _ _), zk_Dperm hD (zlf_a _ _ _ _ _ _ _ _ _ _ _ _ _ _ _ _ _), hS⟩
set_option maxHeartbeats 4000000 in
set_option maxRecDepth 100000 in
theorem zl_c11 {p : Program} {l : Launch} {e : Env} {s : State} {m : MethodId} {below : List Frame} {meth : Method} {c : Code} {H : Heap} {locs : List Loc} {cells slots : Nat} {Q : State → Prop} {bs Ls : Nat} {xs : Nat → Int32} {ls : Array Slot} {G : zk_G} {a : zA} {b : Nat → Nat} {q j : Nat} (C : zlC p l s m meth c bs Ls xs G) (hj : j < 512) (hJ : 4 * j + 4 ≤ Ls) (hcs : cells + 4 ≤ 601024 ∧ slots + 24 ≤ 7293034) (hS : zlS G s a b q j H locs) (hl : lv_has ls 7 [(0, .ref bs), (1, .ref a.1), (2, .ref (b 0)), (3, .ref q), (4, .int (nI (4 * j)))])
    (done : ∀ (H1 : Heap) (locs1 : List Loc) (ls1 : Array Slot), zlS G s a b q (j + 1) H1 locs1 → lv_has ls1 7 [(0, .ref bs), (1, .ref a.1), (2, .ref (b 0)), (3, .ref q), (4, .int (nI (4 * j)))] → W p l e room_1 s m #[.ref bs] below meth c H1 locs1 (cells + 4) (slots + 24) Q (F0 m 2035 ls1 [])) :
    W p l e room_1 s m #[.ref bs] below meth c H locs cells slots Q (F0 m 762 ls []) := by
  obtain ⟨hst, ⟨hx, hb, hr, hml, hown, hts, hX, hbl, hlocks, hgv⟩, hLs, hE, hN⟩ := id C
  have hown : s.vm.findClass RL = some m.cls := hown
  have hK := hE.1
  have hA : ∀ q : Nat, s.heap.size ≤ q → zlA s q := fun _ h => h
  have hA0 : ∀ q : Nat, zlA s q → G.2.2.1 ≤ q := fun q h => Nat.le_trans hE.2.2.2.2 h
  have hB1 := zlB_1 j
  have hBl := zlB_lo j
  have hBh := zlB_hi hj
  obtain ⟨fo, T, L, Z, sv, SL, S, o, cn, rf, tn, sp, ou, ch, K, Y, D, SK, sk, n, t, ⟨hw, hh, hsl, htx⟩, hP, hD, hS⟩ := hS
  obtain ⟨⟨po, hT⟩, hch⟩ := id htx
  unfold zlW at hP hD
  refine lv_aload_n hx hb dL_law_762 rfl (lv_at hl 1 rfl) ?_
  refine zl_ld (k := 1) C hS (lv_at hl 0 rfl) (lv_at hl 4 rfl) (by omega) (by decide) dL_law_763 dL_law_764 dL_law_766 dL_law_767 dL_law_768 ?_
  refine zl_ld (k := 2) C hS (lv_at hl 0 rfl) (lv_at hl 4 rfl) (by omega) (by decide) dL_law_769 dL_law_770 dL_law_772 dL_law_773 dL_law_774 ?_
  refine lv_aload_n hx hb dL_law_775 rfl (lv_at hl 3 rfl) ?_
  have hP0 : va_P G.1 vwCl ((zb_o G q fo ++ (zb_5 G a ++ (zb_L G a.2.2.1 L ++ (zb_M G a.2.2.1 L ++ zb_H G a.2.2.2.2.1.1 a.2.2.2.2.1.2.1 a.2.2.2.2.1.2.2 S (nI o) (nI cn))))) ++ ((zb_6 G b rf (nI tn) (nI cn) sp ou ++ (zb_r G (b 2) K ++ zb_d G (b 4) D)) ++ (zb_T G a.2.1 T ++ (zb_L G a.2.2.2.1 Z ++ (zb_M G a.2.2.2.1 Z ++ (zb_S G a sv ++ (zb_P G a.2.2.2.2.2.2.2 SL 2 ++ (zb_a G (b 1) 120 ch ++ (zb_r G (b 3) Y ++ (zb_k G (b 5) SK ++ zb_f G (b 6) sk)))))))))) H := zk_Pperm hP (zlp_a _ _ _ _ _ _ _ _ _ _ _ _ _ _ _ _ _)
  have hD0 : va_D (zlA s) ((zb_o G q fo ++ (zb_5 G a ++ (zb_L G a.2.2.1 L ++ (zb_M G a.2.2.1 L ++ zb_H G a.2.2.2.2.1.1 a.2.2.2.2.1.2.1 a.2.2.2.2.1.2.2 S (nI o) (nI cn))))) ++ ((zb_6 G b rf (nI tn) (nI cn) sp ou ++ (zb_r G (b 2) K ++ zb_d G (b 4) D)) ++ (zb_T G a.2.1 T ++ (zb_L G a.2.2.2.1 Z ++ (zb_M G a.2.2.2.1 Z ++ (zb_S G a sv ++ (zb_P G a.2.2.2.2.2.2.2 SL 2 ++ (zb_a G (b 1) 120 ch ++ (zb_r G (b 3) Y ++ (zb_k G (b 5) SK ++ zb_f G (b 6) sk)))))))))) := zk_Dperm hD (zlp_a _ _ _ _ _ _ _ _ _ _ _ _ _ _ _ _ _)
  refine zk_callI (wr := (zb_6 G b rf (nI tn) (nI cn) sp ou ++ (zb_r G (b 2) K ++ zb_d G (b 4) D)) ++ (zb_T G a.2.1 T ++ (zb_L G a.2.2.2.1 Z ++ (zb_M G a.2.2.2.1 Z ++ (zb_S G a sv ++ (zb_P G a.2.2.2.2.2.2.2 SL 2 ++ (zb_a G (b 1) 120 ch ++ (zb_r G (b 3) Y ++ (zb_k G (b 5) SK ++ zb_f G (b 6) sk))))))))) (vx_runSW (As := [.ref a.1, .int (xs (4 * j + 1)), .int (xs (4 * j + 2)), .ref q]) (rest := []) ⟨hx, hb, hml, hown, hts⟩ (c_L_menu l G hst a L n t (rL (wR hw)) (xs (4 * j + 1)) (xs (4 * j + 2)) S o cn hh.1 hh.2.1 q fo _) (vx_cwSW 4 hts gL_law_L_menu rfl rfl rfl (by decide +kernel) ⟨Nat.le_of_ble_eq_true rfl, Nat.le_of_ble_eq_true rfl⟩) (zk_preSH hN hE hA0 hS (zk_Papp hP0).1 (zk_Dapp hD0).1) rfl rfl hl.1 rfl (lv_room (Nat.le_of_ble_eq_true rfl)) dL_law_776 ⟨by show cells + 2 ≤ 601024; omega, by show slots + 12 ≤ 7293034; omega⟩) hP0 hD0 hS hA (fun r u H locs hL hP hD hS => ?_)
  refine lv_istore (lv' := [(5, .int r), (0, .ref bs), (1, .ref a.1), (2, .ref (b 0)), (3, .ref q), (4, .int (nI (4 * j)))]) hx hb dL_law_779 hl (by decide) rfl (fun ls hl => ?_)
  refine lv_aload_n hx hb dL_law_781 rfl (lv_at hl 3 rfl) ?_
  refine zl_ld (k := 1) C hS (lv_at hl 1 rfl) (lv_at hl 5 rfl) (by omega) (by decide) dL_law_782 dL_law_783 dL_law_785 dL_law_786 dL_law_787 ?_
  refine zl_ld (k := 2) C hS (lv_at hl 1 rfl) (lv_at hl 5 rfl) (by omega) (by decide) dL_law_788 dL_law_789 dL_law_791 dL_law_792 dL_law_793 ?_
  have hP0 := zk_Pperm hP (List.perm_append_comm_assoc _ _ _)
  have hD0 := zk_Dperm hD (List.perm_append_comm_assoc _ _ _)
  refine zk_callI (va_runV (As := [.int (xs (4 * j + 1)), .int (xs (4 * j + 2))]) (rest := []) ⟨hx, hb, hml, hown, hts⟩ (c_X6_menu l G b rf (nI tn) cn sp ou hh.2.1 K n t (rK (wR hw)) D (xs (4 * j + 1)) (xs (4 * j + 2)) _) (cwV 2 hts gL_law_X6_menu rfl rfl rfl (by decide +kernel) ⟨Nat.le_of_ble_eq_true rfl, Nat.le_of_ble_eq_true rfl⟩) (zk_preV hE hA0 hS (zk_Papp hP0).1 (zk_Dapp hD0).1 (va_recv hK hP0 (ci := 5) (q0 := 0) rfl rfl)) rfl rfl hl.1 rfl (lv_room (Nat.le_of_ble_eq_true rfl)) dL_law_794 ⟨by show cells + 2 + 0 ≤ 601024; omega, by show slots + 12 + 0 ≤ 7293034; omega⟩) hP0 hD0 hS hA (fun r2 vm H locs hM hP hD hS => ?_)
  obtain ⟨⟨hk, hans⟩, hfin⟩ := zp_menu hw hh ⟨by omega, by omega⟩ hL hM
  refine zl_tail (t := 797) C dL_law_797 dL_law_799 dL_law_800 dL_law_803 dL_law_805 dL_law_810 dL_law_812 dL_law_815 dL_law_816 dL_law_817 dL_law_818 dL_law_820 dL_law_821 dL_law_822 dL_law_827 (by decide) ⟨by show cells + 2 + 0 ≤ 601024; omega, by show slots + 12 + 0 ≤ 7293034; omega⟩ hl (zk_Pperm hP (zlt _ _ _ _ _)) (zk_Dperm hD (zlt _ _ _ _ _)) hS hk hans (fun H locs ls hP hD hS hl => ?_)
  refine W.widen (k := cells + 4) (n := slots + 24) (by show cells + 2 + 0 ≤ cells + 4; omega) (by show slots + 12 + 0 ≤ slots + 24; omega) ?_
  refine done H locs ls ?_ hl
  rw [zlB_s] at hfin
  obtain ⟨_ | v0, f1⟩ := u
  · obtain ⟨⟨hh2, ec⟩, n2, t2, hw2⟩ := hfin
    have hP : va_P G.1 vwCl (zb_6 G b vm.1 (nI tn) (nI vm.2.1.1) sp ou ++ (zb_o G q f1 ++ ((zb_r G (b 2) vm.2.2 ++ zb_d G (b 4) vm.2.1.2) ++ ((zb_5 G a ++ (zb_L G a.2.2.1 L ++ (zb_M G a.2.2.1 L ++ zb_H G a.2.2.2.2.1.1 a.2.2.2.2.1.2.1 a.2.2.2.2.1.2.2 S (nI o) (nI cn)))) ++ (zb_T G a.2.1 T ++ (zb_L G a.2.2.2.1 Z ++ (zb_M G a.2.2.2.1 Z ++ (zb_S G a sv ++ (zb_P G a.2.2.2.2.2.2.2 SL 2 ++ (zb_a G (b 1) 120 ch ++ (zb_r G (b 3) Y ++ (zb_k G (b 5) SK ++ zb_f G (b 6) sk)))))))))))) H := hP
    have hD : va_D (zlA s) (zb_6 G b vm.1 (nI tn) (nI vm.2.1.1) sp ou ++ (zb_o G q f1 ++ ((zb_r G (b 2) vm.2.2 ++ zb_d G (b 4) vm.2.1.2) ++ ((zb_5 G a ++ (zb_L G a.2.2.1 L ++ (zb_M G a.2.2.1 L ++ zb_H G a.2.2.2.2.1.1 a.2.2.2.2.1.2.1 a.2.2.2.2.1.2.2 S (nI o) (nI cn)))) ++ (zb_T G a.2.1 T ++ (zb_L G a.2.2.2.1 Z ++ (zb_M G a.2.2.2.1 Z ++ (zb_S G a sv ++ (zb_P G a.2.2.2.2.2.2.2 SL 2 ++ (zb_a G (b 1) 120 ch ++ (zb_r G (b 3) Y ++ (zb_k G (b 5) SK ++ zb_f G (b 6) sk)))))))))))) := hD
    rw [ec] at hP hD
    exact ⟨f1, T, L, Z, sv, SL, S, o, cn, vm.1, tn, sp, ou, ch, vm.2.2, Y, vm.2.1.2, SK, sk, n2, t2, ⟨hw2, hh2, slot_mono hsl hB1, htx⟩, zk_Pperm hP (zlf_a _ _ _ _ _ _ _ _ _ _ _ _ _ _ _ _ _), zk_Dperm hD (zlf_a _ _ _ _ _ _ _ _ _ _ _ _ _ _ _ _ _), hS⟩
  · obtain ⟨⟨hh2, ec⟩, n2, t2, hw2⟩ := hfin
    have hP : va_P G.1 vwCl (zb_6 G b vm.1 (nI tn) (nI vm.2.1.1) sp ou ++ (zb_o G q f1 ++ ((zb_r G (b 2) vm.2.2 ++ zb_d G (b 4) vm.2.1.2) ++ ((zb_5 G a ++ (zb_L G a.2.2.1 v0.2 ++ (zb_M G a.2.2.1 v0.2 ++ zb_H G a.2.2.2.2.1.1 a.2.2.2.2.1.2.1 a.2.2.2.2.1.2.2 v0.1.2.2 (nI v0.1.1) (nI v0.1.2.1)))) ++ (zb_T G a.2.1 T ++ (zb_L G a.2.2.2.1 Z ++ (zb_M G a.2.2.2.1 Z ++ (zb_S G a sv ++ (zb_P G a.2.2.2.2.2.2.2 SL 2 ++ (zb_a G (b 1) 120 ch ++ (zb_r G (b 3) Y ++ (zb_k G (b 5) SK ++ zb_f G (b 6) sk)))))))))))) H := hP
    have hD : va_D (zlA s) (zb_6 G b vm.1 (nI tn) (nI vm.2.1.1) sp ou ++ (zb_o G q f1 ++ ((zb_r G (b 2) vm.2.2 ++ zb_d G (b 4) vm.2.1.2) ++ ((zb_5 G a ++ (zb_L G a.2.2.1 v0.2 ++ (zb_M G a.2.2.1 v0.2 ++ zb_H G a.2.2.2.2.1.1 a.2.2.2.2.1.2.1 a.2.2.2.2.1.2.2 v0.1.2.2 (nI v0.1.1) (nI v0.1.2.1)))) ++ (zb_T G a.2.1 T ++ (zb_L G a.2.2.2.1 Z ++ (zb_M G a.2.2.2.1 Z ++ (zb_S G a sv ++ (zb_P G a.2.2.2.2.2.2.2 SL 2 ++ (zb_a G (b 1) 120 ch ++ (zb_r G (b 3) Y ++ (zb_k G (b 5) SK ++ zb_f G (b 6) sk)))))))))))) := hD
    rw [ec] at hP hD
    exact ⟨f1, T, v0.2, Z, sv, SL, v0.1.2.2, v0.1.1, v0.1.2.1, vm.1, tn, sp, ou, ch, vm.2.2, Y, vm.2.1.2, SK, sk, n2, t2, ⟨hw2, hh2, slot_mono hsl hB1, htx⟩, zk_Pperm hP (zlf_a _ _ _ _ _ _ _ _ _ _ _ _ _ _ _ _ _), zk_Dperm hD (zlf_a _ _ _ _ _ _ _ _ _ _ _ _ _ _ _ _ _), hS⟩
set_option maxHeartbeats 4000000 in
set_option maxRecDepth 100000 in
theorem zl_c12 {p : Program} {l : Launch} {e : Env} {s : State} {m : MethodId} {below : List Frame} {meth : Method} {c : Code} {H : Heap} {locs : List Loc} {cells slots : Nat} {Q : State → Prop} {bs Ls : Nat} {xs : Nat → Int32} {ls : Array Slot} {G : zk_G} {a : zA} {b : Nat → Nat} {q j : Nat} (C : zlC p l s m meth c bs Ls xs G) (hj : j < 512) (hJ : 4 * j + 4 ≤ Ls) (hcs : cells + 4 ≤ 601024 ∧ slots + 24 ≤ 7293034) (hS : zlS G s a b q j H locs) (hl : lv_has ls 7 [(0, .ref bs), (1, .ref a.1), (2, .ref (b 0)), (3, .ref q), (4, .int (nI (4 * j)))])
    (done : ∀ (H1 : Heap) (locs1 : List Loc) (ls1 : Array Slot), zlS G s a b q (j + 1) H1 locs1 → lv_has ls1 7 [(0, .ref bs), (1, .ref a.1), (2, .ref (b 0)), (3, .ref q), (4, .int (nI (4 * j)))] → W p l e room_1 s m #[.ref bs] below meth c H1 locs1 (cells + 4) (slots + 24) Q (F0 m 2035 ls1 [])) :
    W p l e room_1 s m #[.ref bs] below meth c H locs cells slots Q (F0 m 830 ls []) := by
  obtain ⟨hst, ⟨hx, hb, hr, hml, hown, hts, hX, hbl, hlocks, hgv⟩, hLs, hE, hN⟩ := id C
  have hown : s.vm.findClass RL = some m.cls := hown
  have hK := hE.1
  have hA : ∀ q : Nat, s.heap.size ≤ q → zlA s q := fun _ h => h
  have hA0 : ∀ q : Nat, zlA s q → G.2.2.1 ≤ q := fun q h => Nat.le_trans hE.2.2.2.2 h
  have hB1 := zlB_1 j
  have hBl := zlB_lo j
  have hBh := zlB_hi hj
  obtain ⟨fo, T, L, Z, sv, SL, S, o, cn, rf, tn, sp, ou, ch, K, Y, D, SK, sk, n, t, ⟨hw, hh, hsl, htx⟩, hP, hD, hS⟩ := hS
  obtain ⟨⟨po, hT⟩, hch⟩ := id htx
  unfold zlW at hP hD
  refine lv_aload_n hx hb dL_law_830 rfl (lv_at hl 1 rfl) ?_
  refine zl_ld (k := 1) C hS (lv_at hl 0 rfl) (lv_at hl 4 rfl) (by omega) (by decide) dL_law_831 dL_law_832 dL_law_834 dL_law_835 dL_law_836 ?_
  refine zl_ld (k := 2) C hS (lv_at hl 0 rfl) (lv_at hl 4 rfl) (by omega) (by decide) dL_law_837 dL_law_838 dL_law_840 dL_law_841 dL_law_842 ?_
  refine zl_ldb (k := 3) C hS (lv_at hl 0 rfl) (lv_at hl 4 rfl) (by omega) (by decide) dL_law_843 dL_law_844 dL_law_846 dL_law_847 dL_law_848 dL_law_849 dL_law_852 dL_law_853 dL_law_856 ?_
  refine lv_aload_n hx hb dL_law_857 rfl (lv_at hl 3 rfl) ?_
  have hP0 : va_P G.1 vwCl ((zb_o G q fo ++ (zb_5 G a ++ (zb_L G a.2.2.1 L ++ (zb_M G a.2.2.1 L ++ zb_H G a.2.2.2.2.1.1 a.2.2.2.2.1.2.1 a.2.2.2.2.1.2.2 S (nI o) (nI cn))))) ++ ((zb_6 G b rf (nI tn) (nI cn) sp ou ++ (zb_r G (b 2) K ++ zb_d G (b 4) D)) ++ (zb_T G a.2.1 T ++ (zb_L G a.2.2.2.1 Z ++ (zb_M G a.2.2.2.1 Z ++ (zb_S G a sv ++ (zb_P G a.2.2.2.2.2.2.2 SL 2 ++ (zb_a G (b 1) 120 ch ++ (zb_r G (b 3) Y ++ (zb_k G (b 5) SK ++ zb_f G (b 6) sk)))))))))) H := zk_Pperm hP (zlp_a _ _ _ _ _ _ _ _ _ _ _ _ _ _ _ _ _)
  have hD0 : va_D (zlA s) ((zb_o G q fo ++ (zb_5 G a ++ (zb_L G a.2.2.1 L ++ (zb_M G a.2.2.1 L ++ zb_H G a.2.2.2.2.1.1 a.2.2.2.2.1.2.1 a.2.2.2.2.1.2.2 S (nI o) (nI cn))))) ++ ((zb_6 G b rf (nI tn) (nI cn) sp ou ++ (zb_r G (b 2) K ++ zb_d G (b 4) D)) ++ (zb_T G a.2.1 T ++ (zb_L G a.2.2.2.1 Z ++ (zb_M G a.2.2.2.1 Z ++ (zb_S G a sv ++ (zb_P G a.2.2.2.2.2.2.2 SL 2 ++ (zb_a G (b 1) 120 ch ++ (zb_r G (b 3) Y ++ (zb_k G (b 5) SK ++ zb_f G (b 6) sk)))))))))) := zk_Dperm hD (zlp_a _ _ _ _ _ _ _ _ _ _ _ _ _ _ _ _ _)
  refine zk_callI (wr := (zb_6 G b rf (nI tn) (nI cn) sp ou ++ (zb_r G (b 2) K ++ zb_d G (b 4) D)) ++ (zb_T G a.2.1 T ++ (zb_L G a.2.2.2.1 Z ++ (zb_M G a.2.2.2.1 Z ++ (zb_S G a sv ++ (zb_P G a.2.2.2.2.2.2.2 SL 2 ++ (zb_a G (b 1) 120 ch ++ (zb_r G (b 3) Y ++ (zb_k G (b 5) SK ++ zb_f G (b 6) sk))))))))) (vx_runSW (As := [.ref a.1, .int (xs (4 * j + 1)), .int (xs (4 * j + 2)), .int (if xs (4 * j + 3) = 0 then nI 0 else nI 1), .ref q]) (rest := []) ⟨hx, hb, hml, hown, hts⟩ (c_L_order l G hst a L n t (rL (wR hw)) (xs (4 * j + 1)) (xs (4 * j + 2)) (if xs (4 * j + 3) = 0 then nI 0 else nI 1) S o cn hh.1 hh.2.1 q fo _) (vx_cwSW 5 hts gL_law_L_order rfl rfl rfl (by decide +kernel) ⟨Nat.le_of_ble_eq_true rfl, Nat.le_of_ble_eq_true rfl⟩) (zk_preSH hN hE hA0 hS (zk_Papp hP0).1 (zk_Dapp hD0).1) rfl rfl hl.1 rfl (lv_room (Nat.le_of_ble_eq_true rfl)) dL_law_858 ⟨by show cells + 2 ≤ 601024; omega, by show slots + 12 ≤ 7293034; omega⟩) hP0 hD0 hS hA (fun r u H locs hL hP hD hS => ?_)
  refine lv_istore (lv' := [(5, .int r), (0, .ref bs), (1, .ref a.1), (2, .ref (b 0)), (3, .ref q), (4, .int (nI (4 * j)))]) hx hb dL_law_861 hl (by decide) rfl (fun ls hl => ?_)
  refine lv_aload_n hx hb dL_law_863 rfl (lv_at hl 3 rfl) ?_
  refine zl_ld (k := 1) C hS (lv_at hl 1 rfl) (lv_at hl 5 rfl) (by omega) (by decide) dL_law_864 dL_law_865 dL_law_867 dL_law_868 dL_law_869 ?_
  refine zl_ld (k := 2) C hS (lv_at hl 1 rfl) (lv_at hl 5 rfl) (by omega) (by decide) dL_law_870 dL_law_871 dL_law_873 dL_law_874 dL_law_875 ?_
  refine zl_ldb (k := 3) C hS (lv_at hl 1 rfl) (lv_at hl 5 rfl) (by omega) (by decide) dL_law_876 dL_law_877 dL_law_879 dL_law_880 dL_law_881 dL_law_882 dL_law_885 dL_law_886 dL_law_889 ?_
  have hP0 := zk_Pperm hP (List.perm_append_comm_assoc _ _ _)
  have hD0 := zk_Dperm hD (List.perm_append_comm_assoc _ _ _)
  refine zk_callI (va_runV (As := [.int (xs (4 * j + 1)), .int (xs (4 * j + 2)), .int (if xs (4 * j + 3) = 0 then nI 0 else nI 1)]) (rest := []) ⟨hx, hb, hml, hown, hts⟩ (c_X6_order l G b rf (nI tn) cn sp ou hh.2.1 K n t (rK (wR hw)) D (xs (4 * j + 1)) (xs (4 * j + 2)) (if xs (4 * j + 3) = 0 then nI 0 else nI 1) _) (cwV 3 hts gL_law_X6_order rfl rfl rfl (by decide +kernel) ⟨Nat.le_of_ble_eq_true rfl, Nat.le_of_ble_eq_true rfl⟩) (zk_preV hE hA0 hS (zk_Papp hP0).1 (zk_Dapp hD0).1 (va_recv hK hP0 (ci := 5) (q0 := 0) rfl rfl)) rfl rfl hl.1 rfl (lv_room (Nat.le_of_ble_eq_true rfl)) dL_law_890 ⟨by show cells + 2 + 0 ≤ 601024; omega, by show slots + 12 + 0 ≤ 7293034; omega⟩) hP0 hD0 hS hA (fun r2 vm H locs hM hP hD hS => ?_)
  obtain ⟨⟨hk, hans⟩, hfin⟩ := zp_order hw hh ⟨by omega, by omega⟩ hL hM
  refine zl_tail (t := 893) C dL_law_893 dL_law_895 dL_law_896 dL_law_899 dL_law_901 dL_law_906 dL_law_908 dL_law_911 dL_law_912 dL_law_913 dL_law_914 dL_law_916 dL_law_917 dL_law_918 dL_law_923 (by decide) ⟨by show cells + 2 + 0 ≤ 601024; omega, by show slots + 12 + 0 ≤ 7293034; omega⟩ hl (zk_Pperm hP (zlt _ _ _ _ _)) (zk_Dperm hD (zlt _ _ _ _ _)) hS hk hans (fun H locs ls hP hD hS hl => ?_)
  refine W.widen (k := cells + 4) (n := slots + 24) (by show cells + 2 + 0 ≤ cells + 4; omega) (by show slots + 12 + 0 ≤ slots + 24; omega) ?_
  refine done H locs ls ?_ hl
  rw [zlB_s] at hfin
  obtain ⟨_ | v0, f1⟩ := u
  · obtain ⟨⟨hh2, ec⟩, n2, t2, hw2⟩ := hfin
    have hP : va_P G.1 vwCl (zb_6 G b vm.1 (nI tn) (nI vm.2.1.1) sp ou ++ (zb_o G q f1 ++ ((zb_r G (b 2) vm.2.2 ++ zb_d G (b 4) vm.2.1.2) ++ ((zb_5 G a ++ (zb_L G a.2.2.1 L ++ (zb_M G a.2.2.1 L ++ zb_H G a.2.2.2.2.1.1 a.2.2.2.2.1.2.1 a.2.2.2.2.1.2.2 S (nI o) (nI cn)))) ++ (zb_T G a.2.1 T ++ (zb_L G a.2.2.2.1 Z ++ (zb_M G a.2.2.2.1 Z ++ (zb_S G a sv ++ (zb_P G a.2.2.2.2.2.2.2 SL 2 ++ (zb_a G (b 1) 120 ch ++ (zb_r G (b 3) Y ++ (zb_k G (b 5) SK ++ zb_f G (b 6) sk)))))))))))) H := hP
    have hD : va_D (zlA s) (zb_6 G b vm.1 (nI tn) (nI vm.2.1.1) sp ou ++ (zb_o G q f1 ++ ((zb_r G (b 2) vm.2.2 ++ zb_d G (b 4) vm.2.1.2) ++ ((zb_5 G a ++ (zb_L G a.2.2.1 L ++ (zb_M G a.2.2.1 L ++ zb_H G a.2.2.2.2.1.1 a.2.2.2.2.1.2.1 a.2.2.2.2.1.2.2 S (nI o) (nI cn)))) ++ (zb_T G a.2.1 T ++ (zb_L G a.2.2.2.1 Z ++ (zb_M G a.2.2.2.1 Z ++ (zb_S G a sv ++ (zb_P G a.2.2.2.2.2.2.2 SL 2 ++ (zb_a G (b 1) 120 ch ++ (zb_r G (b 3) Y ++ (zb_k G (b 5) SK ++ zb_f G (b 6) sk)))))))))))) := hD
    rw [ec] at hP hD
    exact ⟨f1, T, L, Z, sv, SL, S, o, cn, vm.1, tn, sp, ou, ch, vm.2.2, Y, vm.2.1.2, SK, sk, n2, t2, ⟨hw2, hh2, slot_mono hsl hB1, htx⟩, zk_Pperm hP (zlf_a _ _ _ _ _ _ _ _ _ _ _ _ _ _ _ _ _), zk_Dperm hD (zlf_a _ _ _ _ _ _ _ _ _ _ _ _ _ _ _ _ _), hS⟩
  · obtain ⟨⟨hh2, ec⟩, n2, t2, hw2⟩ := hfin
    have hP : va_P G.1 vwCl (zb_6 G b vm.1 (nI tn) (nI vm.2.1.1) sp ou ++ (zb_o G q f1 ++ ((zb_r G (b 2) vm.2.2 ++ zb_d G (b 4) vm.2.1.2) ++ ((zb_5 G a ++ (zb_L G a.2.2.1 v0.2 ++ (zb_M G a.2.2.1 v0.2 ++ zb_H G a.2.2.2.2.1.1 a.2.2.2.2.1.2.1 a.2.2.2.2.1.2.2 v0.1.2.2 (nI v0.1.1) (nI v0.1.2.1)))) ++ (zb_T G a.2.1 T ++ (zb_L G a.2.2.2.1 Z ++ (zb_M G a.2.2.2.1 Z ++ (zb_S G a sv ++ (zb_P G a.2.2.2.2.2.2.2 SL 2 ++ (zb_a G (b 1) 120 ch ++ (zb_r G (b 3) Y ++ (zb_k G (b 5) SK ++ zb_f G (b 6) sk)))))))))))) H := hP
    have hD : va_D (zlA s) (zb_6 G b vm.1 (nI tn) (nI vm.2.1.1) sp ou ++ (zb_o G q f1 ++ ((zb_r G (b 2) vm.2.2 ++ zb_d G (b 4) vm.2.1.2) ++ ((zb_5 G a ++ (zb_L G a.2.2.1 v0.2 ++ (zb_M G a.2.2.1 v0.2 ++ zb_H G a.2.2.2.2.1.1 a.2.2.2.2.1.2.1 a.2.2.2.2.1.2.2 v0.1.2.2 (nI v0.1.1) (nI v0.1.2.1)))) ++ (zb_T G a.2.1 T ++ (zb_L G a.2.2.2.1 Z ++ (zb_M G a.2.2.2.1 Z ++ (zb_S G a sv ++ (zb_P G a.2.2.2.2.2.2.2 SL 2 ++ (zb_a G (b 1) 120 ch ++ (zb_r G (b 3) Y ++ (zb_k G (b 5) SK ++ zb_f G (b 6) sk)))))))))))) := hD
    rw [ec] at hP hD
    exact ⟨f1, T, v0.2, Z, sv, SL, v0.1.2.2, v0.1.1, v0.1.2.1, vm.1, tn, sp, ou, ch, vm.2.2, Y, vm.2.1.2, SK, sk, n2, t2, ⟨hw2, hh2, slot_mono hsl hB1, htx⟩, zk_Pperm hP (zlf_a _ _ _ _ _ _ _ _ _ _ _ _ _ _ _ _ _), zk_Dperm hD (zlf_a _ _ _ _ _ _ _ _ _ _ _ _ _ _ _ _ _), hS⟩
set_option maxHeartbeats 4000000 in
set_option maxRecDepth 100000 in
theorem zl_c13 {p : Program} {l : Launch} {e : Env} {s : State} {m : MethodId} {below : List Frame} {meth : Method} {c : Code} {H : Heap} {locs : List Loc} {cells slots : Nat} {Q : State → Prop} {bs Ls : Nat} {xs : Nat → Int32} {ls : Array Slot} {G : zk_G} {a : zA} {b : Nat → Nat} {q j : Nat} (C : zlC p l s m meth c bs Ls xs G) (hj : j < 512) (hJ : 4 * j + 4 ≤ Ls) (hcs : cells + 4 ≤ 601024 ∧ slots + 24 ≤ 7293034) (hS : zlS G s a b q j H locs) (hl : lv_has ls 7 [(0, .ref bs), (1, .ref a.1), (2, .ref (b 0)), (3, .ref q), (4, .int (nI (4 * j)))])
    (done : ∀ (H1 : Heap) (locs1 : List Loc) (ls1 : Array Slot), zlS G s a b q (j + 1) H1 locs1 → lv_has ls1 7 [(0, .ref bs), (1, .ref a.1), (2, .ref (b 0)), (3, .ref q), (4, .int (nI (4 * j)))] → W p l e room_1 s m #[.ref bs] below meth c H1 locs1 (cells + 4) (slots + 24) Q (F0 m 2035 ls1 [])) :
    W p l e room_1 s m #[.ref bs] below meth c H locs cells slots Q (F0 m 926 ls []) := by
  obtain ⟨hst, ⟨hx, hb, hr, hml, hown, hts, hX, hbl, hlocks, hgv⟩, hLs, hE, hN⟩ := id C
  have hown : s.vm.findClass RL = some m.cls := hown
  have hK := hE.1
  have hA : ∀ q : Nat, s.heap.size ≤ q → zlA s q := fun _ h => h
  have hA0 : ∀ q : Nat, zlA s q → G.2.2.1 ≤ q := fun q h => Nat.le_trans hE.2.2.2.2 h
  have hB1 := zlB_1 j
  have hBl := zlB_lo j
  have hBh := zlB_hi hj
  obtain ⟨fo, T, L, Z, sv, SL, S, o, cn, rf, tn, sp, ou, ch, K, Y, D, SK, sk, n, t, ⟨hw, hh, hsl, htx⟩, hP, hD, hS⟩ := hS
  obtain ⟨⟨po, hT⟩, hch⟩ := id htx
  unfold zlW at hP hD
  refine lv_aload_n hx hb dL_law_926 rfl (lv_at hl 1 rfl) ?_
  refine zl_ld (k := 1) C hS (lv_at hl 0 rfl) (lv_at hl 4 rfl) (by omega) (by decide) dL_law_927 dL_law_928 dL_law_930 dL_law_931 dL_law_932 ?_
  refine zl_ld (k := 2) C hS (lv_at hl 0 rfl) (lv_at hl 4 rfl) (by omega) (by decide) dL_law_933 dL_law_934 dL_law_936 dL_law_937 dL_law_938 ?_
  refine lv_aload_n hx hb dL_law_939 rfl (lv_at hl 3 rfl) ?_
  have hP0 : va_P G.1 vwCl ((zb_o G q fo ++ (zb_5 G a ++ (zb_L G a.2.2.1 L ++ (zb_M G a.2.2.1 L ++ zb_H G a.2.2.2.2.1.1 a.2.2.2.2.1.2.1 a.2.2.2.2.1.2.2 S (nI o) (nI cn))))) ++ ((zb_6 G b rf (nI tn) (nI cn) sp ou ++ (zb_r G (b 2) K ++ zb_d G (b 4) D)) ++ (zb_T G a.2.1 T ++ (zb_L G a.2.2.2.1 Z ++ (zb_M G a.2.2.2.1 Z ++ (zb_S G a sv ++ (zb_P G a.2.2.2.2.2.2.2 SL 2 ++ (zb_a G (b 1) 120 ch ++ (zb_r G (b 3) Y ++ (zb_k G (b 5) SK ++ zb_f G (b 6) sk)))))))))) H := zk_Pperm hP (zlp_a _ _ _ _ _ _ _ _ _ _ _ _ _ _ _ _ _)
  have hD0 : va_D (zlA s) ((zb_o G q fo ++ (zb_5 G a ++ (zb_L G a.2.2.1 L ++ (zb_M G a.2.2.1 L ++ zb_H G a.2.2.2.2.1.1 a.2.2.2.2.1.2.1 a.2.2.2.2.1.2.2 S (nI o) (nI cn))))) ++ ((zb_6 G b rf (nI tn) (nI cn) sp ou ++ (zb_r G (b 2) K ++ zb_d G (b 4) D)) ++ (zb_T G a.2.1 T ++ (zb_L G a.2.2.2.1 Z ++ (zb_M G a.2.2.2.1 Z ++ (zb_S G a sv ++ (zb_P G a.2.2.2.2.2.2.2 SL 2 ++ (zb_a G (b 1) 120 ch ++ (zb_r G (b 3) Y ++ (zb_k G (b 5) SK ++ zb_f G (b 6) sk)))))))))) := zk_Dperm hD (zlp_a _ _ _ _ _ _ _ _ _ _ _ _ _ _ _ _ _)
  refine zk_callI (wr := (zb_6 G b rf (nI tn) (nI cn) sp ou ++ (zb_r G (b 2) K ++ zb_d G (b 4) D)) ++ (zb_T G a.2.1 T ++ (zb_L G a.2.2.2.1 Z ++ (zb_M G a.2.2.2.1 Z ++ (zb_S G a sv ++ (zb_P G a.2.2.2.2.2.2.2 SL 2 ++ (zb_a G (b 1) 120 ch ++ (zb_r G (b 3) Y ++ (zb_k G (b 5) SK ++ zb_f G (b 6) sk))))))))) (vx_runSW (As := [.ref a.1, .int (xs (4 * j + 1)), .int (xs (4 * j + 2)), .ref q]) (rest := []) ⟨hx, hb, hml, hown, hts⟩ (c_L_pay l G hst a L n t (rL (wR hw)) (xs (4 * j + 1)) (xs (4 * j + 2)) S o cn hh.1 hh.2.1 q fo _) (vx_cwSW 4 hts gL_law_L_pay rfl rfl rfl (by decide +kernel) ⟨Nat.le_of_ble_eq_true rfl, Nat.le_of_ble_eq_true rfl⟩) (zk_preSH hN hE hA0 hS (zk_Papp hP0).1 (zk_Dapp hD0).1) rfl rfl hl.1 rfl (lv_room (Nat.le_of_ble_eq_true rfl)) dL_law_940 ⟨by show cells + 2 ≤ 601024; omega, by show slots + 12 ≤ 7293034; omega⟩) hP0 hD0 hS hA (fun r u H locs hL hP hD hS => ?_)
  refine lv_istore (lv' := [(5, .int r), (0, .ref bs), (1, .ref a.1), (2, .ref (b 0)), (3, .ref q), (4, .int (nI (4 * j)))]) hx hb dL_law_943 hl (by decide) rfl (fun ls hl => ?_)
  refine lv_aload_n hx hb dL_law_945 rfl (lv_at hl 3 rfl) ?_
  refine zl_ld (k := 1) C hS (lv_at hl 1 rfl) (lv_at hl 5 rfl) (by omega) (by decide) dL_law_946 dL_law_947 dL_law_949 dL_law_950 dL_law_951 ?_
  refine zl_ld (k := 2) C hS (lv_at hl 1 rfl) (lv_at hl 5 rfl) (by omega) (by decide) dL_law_952 dL_law_953 dL_law_955 dL_law_956 dL_law_957 ?_
  have hP0 := zk_Pperm hP (List.perm_append_comm_assoc _ _ _)
  have hD0 := zk_Dperm hD (List.perm_append_comm_assoc _ _ _)
  refine zk_callI (va_runV (As := [.int (xs (4 * j + 1)), .int (xs (4 * j + 2))]) (rest := []) ⟨hx, hb, hml, hown, hts⟩ (c_X6_pay l G b rf (nI tn) cn sp ou hh.2.1 K n t (rK (wR hw)) D (xs (4 * j + 1)) (xs (4 * j + 2)) _) (cwV 2 hts gL_law_X6_pay rfl rfl rfl (by decide +kernel) ⟨Nat.le_of_ble_eq_true rfl, Nat.le_of_ble_eq_true rfl⟩) (zk_preV hE hA0 hS (zk_Papp hP0).1 (zk_Dapp hD0).1 (va_recv hK hP0 (ci := 5) (q0 := 0) rfl rfl)) rfl rfl hl.1 rfl (lv_room (Nat.le_of_ble_eq_true rfl)) dL_law_958 ⟨by show cells + 2 + 0 ≤ 601024; omega, by show slots + 12 + 0 ≤ 7293034; omega⟩) hP0 hD0 hS hA (fun r2 vm H locs hM hP hD hS => ?_)
  obtain ⟨⟨hk, hans⟩, hfin⟩ := zp_pay hw hh ⟨by omega, by omega⟩ hL hM
  refine zl_tail (t := 961) C dL_law_961 dL_law_963 dL_law_964 dL_law_967 dL_law_969 dL_law_974 dL_law_976 dL_law_979 dL_law_980 dL_law_981 dL_law_982 dL_law_984 dL_law_985 dL_law_986 dL_law_991 (by decide) ⟨by show cells + 2 + 0 ≤ 601024; omega, by show slots + 12 + 0 ≤ 7293034; omega⟩ hl (zk_Pperm hP (zlt _ _ _ _ _)) (zk_Dperm hD (zlt _ _ _ _ _)) hS hk hans (fun H locs ls hP hD hS hl => ?_)
  refine W.widen (k := cells + 4) (n := slots + 24) (by show cells + 2 + 0 ≤ cells + 4; omega) (by show slots + 12 + 0 ≤ slots + 24; omega) ?_
  refine done H locs ls ?_ hl
  rw [zlB_s] at hfin
  obtain ⟨_ | v0, f1⟩ := u
  · obtain ⟨⟨hh2, ec⟩, n2, t2, hw2⟩ := hfin
    have hP : va_P G.1 vwCl (zb_6 G b vm.1 (nI tn) (nI vm.2.1.1) sp ou ++ (zb_o G q f1 ++ ((zb_r G (b 2) vm.2.2 ++ zb_d G (b 4) vm.2.1.2) ++ ((zb_5 G a ++ (zb_L G a.2.2.1 L ++ (zb_M G a.2.2.1 L ++ zb_H G a.2.2.2.2.1.1 a.2.2.2.2.1.2.1 a.2.2.2.2.1.2.2 S (nI o) (nI cn)))) ++ (zb_T G a.2.1 T ++ (zb_L G a.2.2.2.1 Z ++ (zb_M G a.2.2.2.1 Z ++ (zb_S G a sv ++ (zb_P G a.2.2.2.2.2.2.2 SL 2 ++ (zb_a G (b 1) 120 ch ++ (zb_r G (b 3) Y ++ (zb_k G (b 5) SK ++ zb_f G (b 6) sk)))))))))))) H := hP
    have hD : va_D (zlA s) (zb_6 G b vm.1 (nI tn) (nI vm.2.1.1) sp ou ++ (zb_o G q f1 ++ ((zb_r G (b 2) vm.2.2 ++ zb_d G (b 4) vm.2.1.2) ++ ((zb_5 G a ++ (zb_L G a.2.2.1 L ++ (zb_M G a.2.2.1 L ++ zb_H G a.2.2.2.2.1.1 a.2.2.2.2.1.2.1 a.2.2.2.2.1.2.2 S (nI o) (nI cn)))) ++ (zb_T G a.2.1 T ++ (zb_L G a.2.2.2.1 Z ++ (zb_M G a.2.2.2.1 Z ++ (zb_S G a sv ++ (zb_P G a.2.2.2.2.2.2.2 SL 2 ++ (zb_a G (b 1) 120 ch ++ (zb_r G (b 3) Y ++ (zb_k G (b 5) SK ++ zb_f G (b 6) sk)))))))))))) := hD
    rw [ec] at hP hD
    exact ⟨f1, T, L, Z, sv, SL, S, o, cn, vm.1, tn, sp, ou, ch, vm.2.2, Y, vm.2.1.2, SK, sk, n2, t2, ⟨hw2, hh2, slot_mono hsl hB1, htx⟩, zk_Pperm hP (zlf_a _ _ _ _ _ _ _ _ _ _ _ _ _ _ _ _ _), zk_Dperm hD (zlf_a _ _ _ _ _ _ _ _ _ _ _ _ _ _ _ _ _), hS⟩
  · obtain ⟨⟨hh2, ec⟩, n2, t2, hw2⟩ := hfin
    have hP : va_P G.1 vwCl (zb_6 G b vm.1 (nI tn) (nI vm.2.1.1) sp ou ++ (zb_o G q f1 ++ ((zb_r G (b 2) vm.2.2 ++ zb_d G (b 4) vm.2.1.2) ++ ((zb_5 G a ++ (zb_L G a.2.2.1 v0.2 ++ (zb_M G a.2.2.1 v0.2 ++ zb_H G a.2.2.2.2.1.1 a.2.2.2.2.1.2.1 a.2.2.2.2.1.2.2 v0.1.2.2 (nI v0.1.1) (nI v0.1.2.1)))) ++ (zb_T G a.2.1 T ++ (zb_L G a.2.2.2.1 Z ++ (zb_M G a.2.2.2.1 Z ++ (zb_S G a sv ++ (zb_P G a.2.2.2.2.2.2.2 SL 2 ++ (zb_a G (b 1) 120 ch ++ (zb_r G (b 3) Y ++ (zb_k G (b 5) SK ++ zb_f G (b 6) sk)))))))))))) H := hP
    have hD : va_D (zlA s) (zb_6 G b vm.1 (nI tn) (nI vm.2.1.1) sp ou ++ (zb_o G q f1 ++ ((zb_r G (b 2) vm.2.2 ++ zb_d G (b 4) vm.2.1.2) ++ ((zb_5 G a ++ (zb_L G a.2.2.1 v0.2 ++ (zb_M G a.2.2.1 v0.2 ++ zb_H G a.2.2.2.2.1.1 a.2.2.2.2.1.2.1 a.2.2.2.2.1.2.2 v0.1.2.2 (nI v0.1.1) (nI v0.1.2.1)))) ++ (zb_T G a.2.1 T ++ (zb_L G a.2.2.2.1 Z ++ (zb_M G a.2.2.2.1 Z ++ (zb_S G a sv ++ (zb_P G a.2.2.2.2.2.2.2 SL 2 ++ (zb_a G (b 1) 120 ch ++ (zb_r G (b 3) Y ++ (zb_k G (b 5) SK ++ zb_f G (b 6) sk)))))))))))) := hD
    rw [ec] at hP hD
    exact ⟨f1, T, v0.2, Z, sv, SL, v0.1.2.2, v0.1.1, v0.1.2.1, vm.1, tn, sp, ou, ch, vm.2.2, Y, vm.2.1.2, SK, sk, n2, t2, ⟨hw2, hh2, slot_mono hsl hB1, htx⟩, zk_Pperm hP (zlf_a _ _ _ _ _ _ _ _ _ _ _ _ _ _ _ _ _), zk_Dperm hD (zlf_a _ _ _ _ _ _ _ _ _ _ _ _ _ _ _ _ _), hS⟩
set_option maxHeartbeats 4000000 in
set_option maxRecDepth 100000 in
theorem zl_c14 {p : Program} {l : Launch} {e : Env} {s : State} {m : MethodId} {below : List Frame} {meth : Method} {c : Code} {H : Heap} {locs : List Loc} {cells slots : Nat} {Q : State → Prop} {bs Ls : Nat} {xs : Nat → Int32} {ls : Array Slot} {G : zk_G} {a : zA} {b : Nat → Nat} {q j : Nat} (C : zlC p l s m meth c bs Ls xs G) (hj : j < 512) (hJ : 4 * j + 4 ≤ Ls) (hcs : cells + 4 ≤ 601024 ∧ slots + 24 ≤ 7293034) (hS : zlS G s a b q j H locs) (hl : lv_has ls 7 [(0, .ref bs), (1, .ref a.1), (2, .ref (b 0)), (3, .ref q), (4, .int (nI (4 * j)))])
    (done : ∀ (H1 : Heap) (locs1 : List Loc) (ls1 : Array Slot), zlS G s a b q (j + 1) H1 locs1 → lv_has ls1 7 [(0, .ref bs), (1, .ref a.1), (2, .ref (b 0)), (3, .ref q), (4, .int (nI (4 * j)))] → W p l e room_1 s m #[.ref bs] below meth c H1 locs1 (cells + 4) (slots + 24) Q (F0 m 2035 ls1 [])) :
    W p l e room_1 s m #[.ref bs] below meth c H locs cells slots Q (F0 m 994 ls []) := by
  obtain ⟨hst, ⟨hx, hb, hr, hml, hown, hts, hX, hbl, hlocks, hgv⟩, hLs, hE, hN⟩ := id C
  have hown : s.vm.findClass RL = some m.cls := hown
  have hK := hE.1
  have hA : ∀ q : Nat, s.heap.size ≤ q → zlA s q := fun _ h => h
  have hA0 : ∀ q : Nat, zlA s q → G.2.2.1 ≤ q := fun q h => Nat.le_trans hE.2.2.2.2 h
  have hB1 := zlB_1 j
  have hBl := zlB_lo j
  have hBh := zlB_hi hj
  obtain ⟨fo, T, L, Z, sv, SL, S, o, cn, rf, tn, sp, ou, ch, K, Y, D, SK, sk, n, t, ⟨hw, hh, hsl, htx⟩, hP, hD, hS⟩ := hS
  obtain ⟨⟨po, hT⟩, hch⟩ := id htx
  unfold zlW at hP hD
  refine lv_aload_n hx hb dL_law_994 rfl (lv_at hl 1 rfl) ?_
  refine zl_ld (k := 1) C hS (lv_at hl 0 rfl) (lv_at hl 4 rfl) (by omega) (by decide) dL_law_995 dL_law_996 dL_law_998 dL_law_999 dL_law_1000 ?_
  refine zl_ld (k := 2) C hS (lv_at hl 0 rfl) (lv_at hl 4 rfl) (by omega) (by decide) dL_law_1001 dL_law_1002 dL_law_1004 dL_law_1005 dL_law_1006 ?_
  refine zl_ld (k := 3) C hS (lv_at hl 0 rfl) (lv_at hl 4 rfl) (by omega) (by decide) dL_law_1007 dL_law_1008 dL_law_1010 dL_law_1011 dL_law_1012 ?_
  refine lv_aload_n hx hb dL_law_1013 rfl (lv_at hl 3 rfl) ?_
  have hP0 : va_P G.1 vwCl ((zb_o G q fo ++ (zb_5 G a ++ (zb_L G a.2.2.1 L ++ (zb_M G a.2.2.1 L ++ zb_H G a.2.2.2.2.1.1 a.2.2.2.2.1.2.1 a.2.2.2.2.1.2.2 S (nI o) (nI cn))))) ++ ((zb_6 G b rf (nI tn) (nI cn) sp ou ++ (zb_r G (b 2) K ++ zb_d G (b 4) D)) ++ (zb_T G a.2.1 T ++ (zb_L G a.2.2.2.1 Z ++ (zb_M G a.2.2.2.1 Z ++ (zb_S G a sv ++ (zb_P G a.2.2.2.2.2.2.2 SL 2 ++ (zb_a G (b 1) 120 ch ++ (zb_r G (b 3) Y ++ (zb_k G (b 5) SK ++ zb_f G (b 6) sk)))))))))) H := zk_Pperm hP (zlp_a _ _ _ _ _ _ _ _ _ _ _ _ _ _ _ _ _)
  have hD0 : va_D (zlA s) ((zb_o G q fo ++ (zb_5 G a ++ (zb_L G a.2.2.1 L ++ (zb_M G a.2.2.1 L ++ zb_H G a.2.2.2.2.1.1 a.2.2.2.2.1.2.1 a.2.2.2.2.1.2.2 S (nI o) (nI cn))))) ++ ((zb_6 G b rf (nI tn) (nI cn) sp ou ++ (zb_r G (b 2) K ++ zb_d G (b 4) D)) ++ (zb_T G a.2.1 T ++ (zb_L G a.2.2.2.1 Z ++ (zb_M G a.2.2.2.1 Z ++ (zb_S G a sv ++ (zb_P G a.2.2.2.2.2.2.2 SL 2 ++ (zb_a G (b 1) 120 ch ++ (zb_r G (b 3) Y ++ (zb_k G (b 5) SK ++ zb_f G (b 6) sk)))))))))) := zk_Dperm hD (zlp_a _ _ _ _ _ _ _ _ _ _ _ _ _ _ _ _ _)
  refine zk_callI (wr := (zb_6 G b rf (nI tn) (nI cn) sp ou ++ (zb_r G (b 2) K ++ zb_d G (b 4) D)) ++ (zb_T G a.2.1 T ++ (zb_L G a.2.2.2.1 Z ++ (zb_M G a.2.2.2.1 Z ++ (zb_S G a sv ++ (zb_P G a.2.2.2.2.2.2.2 SL 2 ++ (zb_a G (b 1) 120 ch ++ (zb_r G (b 3) Y ++ (zb_k G (b 5) SK ++ zb_f G (b 6) sk))))))))) (vx_runSW (As := [.ref a.1, .int (xs (4 * j + 1)), .int (xs (4 * j + 2)), .int (xs (4 * j + 3)), .ref q]) (rest := []) ⟨hx, hb, hml, hown, hts⟩ (c_L_move l G hst a L n t (rL (wR hw)) (xs (4 * j + 1)) (xs (4 * j + 2)) (xs (4 * j + 3)) S o cn hh.1 hh.2.1 q fo _) (vx_cwSW 5 hts gL_law_L_move rfl rfl rfl (by decide +kernel) ⟨Nat.le_of_ble_eq_true rfl, Nat.le_of_ble_eq_true rfl⟩) (zk_preSH hN hE hA0 hS (zk_Papp hP0).1 (zk_Dapp hD0).1) rfl rfl hl.1 rfl (lv_room (Nat.le_of_ble_eq_true rfl)) dL_law_1014 ⟨by show cells + 2 ≤ 601024; omega, by show slots + 12 ≤ 7293034; omega⟩) hP0 hD0 hS hA (fun r u H locs hL hP hD hS => ?_)
  refine lv_istore (lv' := [(5, .int r), (0, .ref bs), (1, .ref a.1), (2, .ref (b 0)), (3, .ref q), (4, .int (nI (4 * j)))]) hx hb dL_law_1017 hl (by decide) rfl (fun ls hl => ?_)
  refine lv_aload_n hx hb dL_law_1019 rfl (lv_at hl 3 rfl) ?_
  refine zl_ld (k := 1) C hS (lv_at hl 1 rfl) (lv_at hl 5 rfl) (by omega) (by decide) dL_law_1020 dL_law_1021 dL_law_1023 dL_law_1024 dL_law_1025 ?_
  refine zl_ld (k := 2) C hS (lv_at hl 1 rfl) (lv_at hl 5 rfl) (by omega) (by decide) dL_law_1026 dL_law_1027 dL_law_1029 dL_law_1030 dL_law_1031 ?_
  refine zl_ld (k := 3) C hS (lv_at hl 1 rfl) (lv_at hl 5 rfl) (by omega) (by decide) dL_law_1032 dL_law_1033 dL_law_1035 dL_law_1036 dL_law_1037 ?_
  have hP0 := zk_Pperm hP (List.perm_append_comm_assoc _ _ _)
  have hD0 := zk_Dperm hD (List.perm_append_comm_assoc _ _ _)
  refine zk_callI (va_runV (As := [.int (xs (4 * j + 1)), .int (xs (4 * j + 2)), .int (xs (4 * j + 3))]) (rest := []) ⟨hx, hb, hml, hown, hts⟩ (c_X6_move l G b rf (nI tn) cn sp ou hh.2.1 K n t (rK (wR hw)) D (xs (4 * j + 1)) (xs (4 * j + 2)) (xs (4 * j + 3)) _) (cwV 3 hts gL_law_X6_move rfl rfl rfl (by decide +kernel) ⟨Nat.le_of_ble_eq_true rfl, Nat.le_of_ble_eq_true rfl⟩) (zk_preV hE hA0 hS (zk_Papp hP0).1 (zk_Dapp hD0).1 (va_recv hK hP0 (ci := 5) (q0 := 0) rfl rfl)) rfl rfl hl.1 rfl (lv_room (Nat.le_of_ble_eq_true rfl)) dL_law_1038 ⟨by show cells + 2 + 0 ≤ 601024; omega, by show slots + 12 + 0 ≤ 7293034; omega⟩) hP0 hD0 hS hA (fun r2 vm H locs hM hP hD hS => ?_)
  obtain ⟨⟨hk, hans⟩, hfin⟩ := zp_move hw hh ⟨by omega, by omega⟩ hL hM
  refine zl_tail (t := 1041) C dL_law_1041 dL_law_1043 dL_law_1044 dL_law_1047 dL_law_1049 dL_law_1054 dL_law_1056 dL_law_1059 dL_law_1060 dL_law_1061 dL_law_1062 dL_law_1064 dL_law_1065 dL_law_1066 dL_law_1071 (by decide) ⟨by show cells + 2 + 0 ≤ 601024; omega, by show slots + 12 + 0 ≤ 7293034; omega⟩ hl (zk_Pperm hP (zlt _ _ _ _ _)) (zk_Dperm hD (zlt _ _ _ _ _)) hS hk hans (fun H locs ls hP hD hS hl => ?_)
  refine W.widen (k := cells + 4) (n := slots + 24) (by show cells + 2 + 0 ≤ cells + 4; omega) (by show slots + 12 + 0 ≤ slots + 24; omega) ?_
  refine done H locs ls ?_ hl
  rw [zlB_s] at hfin
  obtain ⟨_ | v0, f1⟩ := u
  · obtain ⟨⟨hh2, ec⟩, n2, t2, hw2⟩ := hfin
    have hP : va_P G.1 vwCl (zb_6 G b vm.1 (nI tn) (nI vm.2.1.1) sp ou ++ (zb_o G q f1 ++ ((zb_r G (b 2) vm.2.2 ++ zb_d G (b 4) vm.2.1.2) ++ ((zb_5 G a ++ (zb_L G a.2.2.1 L ++ (zb_M G a.2.2.1 L ++ zb_H G a.2.2.2.2.1.1 a.2.2.2.2.1.2.1 a.2.2.2.2.1.2.2 S (nI o) (nI cn)))) ++ (zb_T G a.2.1 T ++ (zb_L G a.2.2.2.1 Z ++ (zb_M G a.2.2.2.1 Z ++ (zb_S G a sv ++ (zb_P G a.2.2.2.2.2.2.2 SL 2 ++ (zb_a G (b 1) 120 ch ++ (zb_r G (b 3) Y ++ (zb_k G (b 5) SK ++ zb_f G (b 6) sk)))))))))))) H := hP
    have hD : va_D (zlA s) (zb_6 G b vm.1 (nI tn) (nI vm.2.1.1) sp ou ++ (zb_o G q f1 ++ ((zb_r G (b 2) vm.2.2 ++ zb_d G (b 4) vm.2.1.2) ++ ((zb_5 G a ++ (zb_L G a.2.2.1 L ++ (zb_M G a.2.2.1 L ++ zb_H G a.2.2.2.2.1.1 a.2.2.2.2.1.2.1 a.2.2.2.2.1.2.2 S (nI o) (nI cn)))) ++ (zb_T G a.2.1 T ++ (zb_L G a.2.2.2.1 Z ++ (zb_M G a.2.2.2.1 Z ++ (zb_S G a sv ++ (zb_P G a.2.2.2.2.2.2.2 SL 2 ++ (zb_a G (b 1) 120 ch ++ (zb_r G (b 3) Y ++ (zb_k G (b 5) SK ++ zb_f G (b 6) sk)))))))))))) := hD
    rw [ec] at hP hD
    exact ⟨f1, T, L, Z, sv, SL, S, o, cn, vm.1, tn, sp, ou, ch, vm.2.2, Y, vm.2.1.2, SK, sk, n2, t2, ⟨hw2, hh2, slot_mono hsl hB1, htx⟩, zk_Pperm hP (zlf_a _ _ _ _ _ _ _ _ _ _ _ _ _ _ _ _ _), zk_Dperm hD (zlf_a _ _ _ _ _ _ _ _ _ _ _ _ _ _ _ _ _), hS⟩
  · obtain ⟨⟨hh2, ec⟩, n2, t2, hw2⟩ := hfin
    have hP : va_P G.1 vwCl (zb_6 G b vm.1 (nI tn) (nI vm.2.1.1) sp ou ++ (zb_o G q f1 ++ ((zb_r G (b 2) vm.2.2 ++ zb_d G (b 4) vm.2.1.2) ++ ((zb_5 G a ++ (zb_L G a.2.2.1 v0.2 ++ (zb_M G a.2.2.1 v0.2 ++ zb_H G a.2.2.2.2.1.1 a.2.2.2.2.1.2.1 a.2.2.2.2.1.2.2 v0.1.2.2 (nI v0.1.1) (nI v0.1.2.1)))) ++ (zb_T G a.2.1 T ++ (zb_L G a.2.2.2.1 Z ++ (zb_M G a.2.2.2.1 Z ++ (zb_S G a sv ++ (zb_P G a.2.2.2.2.2.2.2 SL 2 ++ (zb_a G (b 1) 120 ch ++ (zb_r G (b 3) Y ++ (zb_k G (b 5) SK ++ zb_f G (b 6) sk)))))))))))) H := hP
    have hD : va_D (zlA s) (zb_6 G b vm.1 (nI tn) (nI vm.2.1.1) sp ou ++ (zb_o G q f1 ++ ((zb_r G (b 2) vm.2.2 ++ zb_d G (b 4) vm.2.1.2) ++ ((zb_5 G a ++ (zb_L G a.2.2.1 v0.2 ++ (zb_M G a.2.2.1 v0.2 ++ zb_H G a.2.2.2.2.1.1 a.2.2.2.2.1.2.1 a.2.2.2.2.1.2.2 v0.1.2.2 (nI v0.1.1) (nI v0.1.2.1)))) ++ (zb_T G a.2.1 T ++ (zb_L G a.2.2.2.1 Z ++ (zb_M G a.2.2.2.1 Z ++ (zb_S G a sv ++ (zb_P G a.2.2.2.2.2.2.2 SL 2 ++ (zb_a G (b 1) 120 ch ++ (zb_r G (b 3) Y ++ (zb_k G (b 5) SK ++ zb_f G (b 6) sk)))))))))))) := hD
    rw [ec] at hP hD
    exact ⟨f1, T, v0.2, Z, sv, SL, v0.1.2.2, v0.1.1, v0.1.2.1, vm.1, tn, sp, ou, ch, vm.2.2, Y, vm.2.1.2, SK, sk, n2, t2, ⟨hw2, hh2, slot_mono hsl hB1, htx⟩, zk_Pperm hP (zlf_a _ _ _ _ _ _ _ _ _ _ _ _ _ _ _ _ _), zk_Dperm hD (zlf_a _ _ _ _ _ _ _ _ _ _ _ _ _ _ _ _ _), hS⟩
