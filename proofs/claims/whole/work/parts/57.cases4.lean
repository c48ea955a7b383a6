/-! cases of the law -/
set_option maxHeartbeats 4000000 in
set_option maxRecDepth 100000 in
theorem zl_c15 {p : Program} {l : Launch} {e : Env} {s : State} {m : MethodId} {below : List Frame} {meth : Method} {c : Code} {H : Heap} {locs : List Loc} {cells slots : Nat} {Q : State → Prop} {bs Ls : Nat} {xs : Nat → Int32} {ls : Array Slot} {G : zk_G} {a : zA} {b : Nat → Nat} {q j : Nat} (C : zlC p l s m meth c bs Ls xs G) (hj : j < 512) (hJ : 4 * j + 4 ≤ Ls) (hcs : cells + 4 ≤ 601024 ∧ slots + 24 ≤ 7293034) (hS : zlS G s a b q j H locs) (hl : lv_has ls 7 [(0, .ref bs), (1, .ref a.1), (2, .ref (b 0)), (3, .ref q), (4, .int (nI (4 * j)))])
    (done : ∀ (H1 : Heap) (locs1 : List Loc) (ls1 : Array Slot), zlS G s a b q (j + 1) H1 locs1 → lv_has ls1 7 [(0, .ref bs), (1, .ref a.1), (2, .ref (b 0)), (3, .ref q), (4, .int (nI (4 * j)))] → W p l e room_1 s m #[.ref bs] below meth c H1 locs1 (cells + 4) (slots + 24) Q (F0 m 2035 ls1 [])) :
    W p l e room_1 s m #[.ref bs] below meth c H locs cells slots Q (F0 m 1074 ls []) := by
  obtain ⟨hst, ⟨hx, hb, hr, hml, hown, hts, hX, hbl, hlocks, hgv⟩, hLs, hE, hN⟩ := id C
  have hown : s.vm.findClass RL = some m.cls := hown
  have hK := hE.1
  have hA : ∀ q : Nat, s.heap.size ≤ q → zlA s q := fun _ h => h
  have hA0 : ∀ q : Nat, zlA s q → G.2.2.1 ≤ q := fun q h => Nat.le_trans hE.2.2.2.2 h
  have hB1 := zlB_1 j
  have hBl := zlB_lo j
  have hBh := zlB_hi hj
  obtain ⟨fo, T, L, Z, sv, SL, S, o, cn, rf, tn, sp, ou, ch, K, Y, D, SK, sk, n, t, ⟨hw, hh, hsl, htx⟩, hP, hD, hS⟩ := hS
  obtain ⟨⟨po, hT⟩, hch⟩ := id htx
  unfold zlW at hP hD
  refine lv_aload_n hx hb dL_law_1074 rfl (lv_at hl 1 rfl) ?_
  refine zl_ld (k := 1) C hS (lv_at hl 0 rfl) (lv_at hl 4 rfl) (by omega) (by decide) dL_law_1075 dL_law_1076 dL_law_1078 dL_law_1079 dL_law_1080 ?_
  refine zl_ldb (k := 2) C hS (lv_at hl 0 rfl) (lv_at hl 4 rfl) (by omega) (by decide) dL_law_1081 dL_law_1082 dL_law_1084 dL_law_1085 dL_law_1086 dL_law_1087 dL_law_1090 dL_law_1091 dL_law_1094 ?_
  refine lv_aload_n hx hb dL_law_1095 rfl (lv_at hl 3 rfl) ?_
  have hP0 : va_P G.1 vwCl ((zb_o G q fo ++ (zb_5 G a ++ (zb_L G a.2.2.1 L ++ (zb_M G a.2.2.1 L ++ zb_H G a.2.2.2.2.1.1 a.2.2.2.2.1.2.1 a.2.2.2.2.1.2.2 S (nI o) (nI cn))))) ++ ((zb_6 G b rf (nI tn) (nI cn) sp ou ++ (zb_r G (b 2) K ++ zb_d G (b 4) D)) ++ (zb_T G a.2.1 T ++ (zb_L G a.2.2.2.1 Z ++ (zb_M G a.2.2.2.1 Z ++ (zb_S G a sv ++ (zb_P G a.2.2.2.2.2.2.2 SL 2 ++ (zb_a G (b 1) 120 ch ++ (zb_r G (b 3) Y ++ (zb_k G (b 5) SK ++ zb_f G (b 6) sk)))))))))) H := zk_Pperm hP (zlp_a _ _ _ _ _ _ _ _ _ _ _ _ _ _ _ _ _)
  have hD0 : va_D (zlA s) ((zb_o G q fo ++ (zb_5 G a ++ (zb_L G a.2.2.1 L ++ (zb_M G a.2.2.1 L ++ zb_H G a.2.2.2.2.1.1 a.2.2.2.2.1.2.1 a.2.2.2.2.1.2.2 S (nI o) (nI cn))))) ++ ((zb_6 G b rf (nI tn) (nI cn) sp ou ++ (zb_r G (b 2) K ++ zb_d G (b 4) D)) ++ (zb_T G a.2.1 T ++ (zb_L G a.2.2.2.1 Z ++ (zb_M G a.2.2.2.1 Z ++ (zb_S G a sv ++ (zb_P G a.2.2.2.2.2.2.2 SL 2 ++ (zb_a G (b 1) 120 ch ++ (zb_r G (b 3) Y ++ (zb_k G (b 5) SK ++ zb_f G (b 6) sk)))))))))) := zk_Dperm hD (zlp_a _ _ _ _ _ _ _ _ _ _ _ _ _ _ _ _ _)
  refine zk_callI (wr := (zb_6 G b rf (nI tn) (nI cn) sp ou ++ (zb_r G (b 2) K ++ zb_d G (b 4) D)) ++ (zb_T G a.2.1 T ++ (zb_L G a.2.2.2.1 Z ++ (zb_M G a.2.2.2.1 Z ++ (zb_S G a sv ++ (zb_P G a.2.2.2.2.2.2.2 SL 2 ++ (zb_a G (b 1) 120 ch ++ (zb_r G (b 3) Y ++ (zb_k G (b 5) SK ++ zb_f G (b 6) sk))))))))) (vx_runSW (As := [.ref a.1, .int (xs (4 * j + 1)), .int (if xs (4 * j + 2) = 0 then nI 0 else nI 1), .ref q]) (rest := []) ⟨hx, hb, hml, hown, hts⟩ (c_L_share l G hst a L n t (rL (wR hw)) (xs (4 * j + 1)) (if xs (4 * j + 2) = 0 then nI 0 else nI 1) S o cn hh.1 hh.2.1 q fo _) (vx_cwSW 4 hts gL_law_L_share rfl rfl rfl (by decide +kernel) ⟨Nat.le_of_ble_eq_true rfl, Nat.le_of_ble_eq_true rfl⟩) (zk_preSH hN hE hA0 hS (zk_Papp hP0).1 (zk_Dapp hD0).1) rfl rfl hl.1 rfl (lv_room (Nat.le_of_ble_eq_true rfl)) dL_law_1096 ⟨by show cells + 2 ≤ 601024; omega, by show slots + 12 ≤ 7293034; omega⟩) hP0 hD0 hS hA (fun r u H locs hL hP hD hS => ?_)
  refine lv_istore (lv' := [(5, .int r), (0, .ref bs), (1, .ref a.1), (2, .ref (b 0)), (3, .ref q), (4, .int (nI (4 * j)))]) hx hb dL_law_1099 hl (by decide) rfl (fun ls hl => ?_)
  refine lv_aload_n hx hb dL_law_1101 rfl (lv_at hl 3 rfl) ?_
  refine zl_ld (k := 1) C hS (lv_at hl 1 rfl) (lv_at hl 5 rfl) (by omega) (by decide) dL_law_1102 dL_law_1103 dL_law_1105 dL_law_1106 dL_law_1107 ?_
  refine zl_ldb (k := 2) C hS (lv_at hl 1 rfl) (lv_at hl 5 rfl) (by omega) (by decide) dL_law_1108 dL_law_1109 dL_law_1111 dL_law_1112 dL_law_1113 dL_law_1114 dL_law_1117 dL_law_1118 dL_law_1121 ?_
  have hP0 := zk_Pperm hP (List.perm_append_comm_assoc _ _ _)
  have hD0 := zk_Dperm hD (List.perm_append_comm_assoc _ _ _)
  refine zk_callI (va_runV (As := [.int (xs (4 * j + 1)), .int (if xs (4 * j + 2) = 0 then nI 0 else nI 1)]) (rest := []) ⟨hx, hb, hml, hown, hts⟩ (c_X6_share l G b rf (nI tn) cn sp ou hh.2.1 K n t (rK (wR hw)) D (xs (4 * j + 1)) (if xs (4 * j + 2) = 0 then nI 0 else nI 1) _) (cwV 2 hts gL_law_X6_share rfl rfl rfl (by decide +kernel) ⟨Nat.le_of_ble_eq_true rfl, Nat.le_of_ble_eq_true rfl⟩) (zk_preV hE hA0 hS (zk_Papp hP0).1 (zk_Dapp hD0).1 (va_recv hK hP0 (ci := 5) (q0 := 0) rfl rfl)) rfl rfl hl.1 rfl (lv_room (Nat.le_of_ble_eq_true rfl)) dL_law_1122 ⟨by show cells + 2 + 0 ≤ 601024; omega, by show slots + 12 + 0 ≤ 7293034; omega⟩) hP0 hD0 hS hA (fun r2 vm H locs hM hP hD hS => ?_)
  obtain ⟨⟨hk, hans⟩, hfin⟩ := zp_share hw hh ⟨by omega, by omega⟩ hL hM
  refine zl_tail (t := 1125) C dL_law_1125 dL_law_1127 dL_law_1128 dL_law_1131 dL_law_1133 dL_law_1138 dL_law_1140 dL_law_1143 dL_law_1144 dL_law_1145 dL_law_1146 dL_law_1148 dL_law_1149 dL_law_1150 dL_law_1155 (by decide) ⟨by show cells + 2 + 0 ≤ 601024; omega, by show slots + 12 + 0 ≤ 7293034; omega⟩ hl (zk_Pperm hP (zlt _ _ _ _ _)) (zk_Dperm hD (zlt _ _ _ _ _)) hS hk hans (fun H locs ls hP hD hS hl => ?_)
  refine W.widen (k := cells + 4) (n := slots + 24) (by show cells + 2 + 0 ≤ cells + 4; omega) (by show slots + 12 + 0 ≤ slots + 24; omega) ?_
  refine done H locs ls ?_ hl
  rw [zlB_s] at hfin
  obtain ⟨_ | v0, f1⟩ := u
  · obtain ⟨⟨hh2, ec⟩, n2, t2, hw2⟩ := hfin
    have hP : va_P G.1 vwCl (zb_6 G b vm.1 (nI tn) (nI vm.2.1.1) sp ou ++ (zb_o G q f1 ++ ((zb_r G (b 2) vm.2.2 ++ zb_d G (b 4) vm.2.1.2) ++ ((zb_5 G a ++ (zb_L G a.2.2.1 L ++ (zb_M G a.2.2.1 L ++ zb_H G a.2.2.2.2.1.1 a.2.2.2.2.1.2.1 a.2.2.2.2.1.2.2 S (nI o) (nI cn)))) ++ (zb_T G a.2.1 T ++ (zb_L G a.2.2.2.1 Z ++ (zb_M G a.2.2.2.1 Z ++ (zb_S G a sv ++ (zb_P G a.2.2.2.2.2.2.2 SL 2 ++ (zb_a G (b 1) 120 ch ++ (zb_r G (b 3) Y ++ (zb_k G (b 5) SK ++ zb_f G (b 6) sk)))))))))))) H := hP
    have hD : va_D (zlA s) (zb_6 G b vm.1 (nI tn) (nI vm.2.1.1) sp ou ++ (zb_o G q f1 ++ ((zb_r G (b 2) vm.2.2 ++ zb_d G (b 4) vm.2.1.2) ++ ((zb_5 G a ++ (zb_L G a.2.2.1 L ++ (zb_M G a.2.2.1 L ++ zb_H G a.2.2.2.2.1.1 a.2.2.2.2.1.2.1 a.2.2.2.2.1.2.2 S (nI o) (nI cn)))) ++ (zb_T G a.2.1 T ++ (zb_L G a.2.2.2.1 Z ++ (zb_M G a.2.2.2.1 Z ++ (zb_S G a sv ++ (zb_P G a.2.2.2.2.2.2.2 SL 2 ++ (zb_a G (b 1) 120 ch ++ (zb_r G (b 3) Y ++ (zb_k G (b 5) SK ++ zb_f G (b 6) sk)))))))))))) := hD
    rw [ec] at hP hD
    exact ⟨f1, T, L, Z, sv, SL, S, o, cn, vm.1, tn, sp, ou, ch, vm.2.2, Y, vm.2.1.2, SK, sk, n2, t2, ⟨hw2, hh2, slot_mono hsl hB1, htx⟩, zk_Pperm hP (zlf_a _ _ _ _ _ _ _ _ _ _ _ _ _ _ _ _ _), zk_Dperm hD (zlf_a _ _ _ _ _ _ _ _ _ _ _ _ _ _ _ _ _), hS⟩
  · obtain ⟨⟨hh2, ec⟩, n2, t2, hw2⟩ := hfin
    have hP : va_P G.1 vwCl (zb_6 G b vm.1 (nI tn) (nI vm.2.1.1) sp ou ++ (zb_o G q f1 ++ ((zb_r G (b 2) vm.2.2 ++ zb_d G (b 4) vm.2.1.2) ++ ((zb_5 G a ++ (zb_L G a.2.2.1 v0.2 ++ (zb_M G a.2.2.1 v0.2 ++ zb_H G a.2.2.2.2.1.1 a.2.2.2.2.1.2.1 a.2.2.2.2.1.2.2 v0.1.2.2 (nI v0.1.1) (nI v0.1.2.1)))) ++ (zb_T G a.2.1 T ++ (zb_L G a.2.2.2.1 Z ++ (zb_M G a.2.2.2.1 Z ++ (zb_S G a sv ++ (zb_P G a.2.2.2.2.2.2.2 SL 2 ++ (zb_a G (b 1) 120 ch ++ (zb_r G (b 3) Y ++ (zb_k G (b 5) SK ++ zb_f G (b 6) sk)))))))))))) H := hP
    have hD : va_D (zlA s) (zb_6 G b vm.1 (nI tn) (nI vm.2.1.1) sp ou ++ (zb_o G q f1 ++ ((zb_r G (b 2) vm.2.2 ++ zb_d G (b 4) vm.2.1.2) ++ ((zb_5 G a ++ (zb_L G a.2.2.1 v0.2 ++ (zb_M G a.2.2.1 v0.2 ++ zb_H G a.2.2.2.2.1.1 a.2.2.2.2.1.2.1 a.2.2.2.2.1.2.2 v0.1.2.2 (nI v0.1.1) (nI v0.1.2.1)))) ++ (zb_T G a.2.1 T ++ (zb_L G a.2.2.2.1 Z ++ (zb_M G a.2.2.2.1 Z ++ (zb_S G a sv ++ (zb_P G a.2.2.2.2.2.2.2 SL 2 ++ (zb_a G (b 1) 120 ch ++ (zb_r G (b 3) Y ++ (zb_k G (b 5) SK ++ zb_f G (b 6) sk)))))))))))) := hD
    rw [ec] at hP hD
    exact ⟨f1, T, v0.2, Z, sv, SL, v0.1.2.2, v0.1.1, v0.1.2.1, vm.1, tn, sp, ou, ch, vm.2.2, Y, vm.2.1.2, SK, sk, n2, t2, ⟨hw2, hh2, slot_mono hsl hB1, htx⟩, zk_Pperm hP (zlf_a _ _ _ _ _ _ _ _ _ _ _ _ _ _ _ _ _), zk_Dperm hD (zlf_a _ _ _ _ _ _ _ _ _ _ _ _ _ _ _ _ _), hS⟩
set_option maxHeartbeats 4000000 in
set_option maxRecDepth 100000 in
theorem zl_c16 {p : Program} {l : Launch} {e : Env} {s : State} {m : MethodId} {below : List Frame} {meth : Method} {c : Code} {H : Heap} {locs : List Loc} {cells slots : Nat} {Q : State → Prop} {bs Ls : Nat} {xs : Nat → Int32} {ls : Array Slot} {G : zk_G} {a : zA} {b : Nat → Nat} {q j : Nat} (C : zlC p l s m meth c bs Ls xs G) (hj : j < 512) (hJ : 4 * j + 4 ≤ Ls) (hcs : cells + 4 ≤ 601024 ∧ slots + 24 ≤ 7293034) (hS : zlS G s a b q j H locs) (hl : lv_has ls 7 [(0, .ref bs), (1, .ref a.1), (2, .ref (b 0)), (3, .ref q), (4, .int (nI (4 * j)))])
    (done : ∀ (H1 : Heap) (locs1 : List Loc) (ls1 : Array Slot), zlS G s a b q (j + 1) H1 locs1 → lv_has ls1 7 [(0, .ref bs), (1, .ref a.1), (2, .ref (b 0)), (3, .ref q), (4, .int (nI (4 * j)))] → W p l e room_1 s m #[.ref bs] below meth c H1 locs1 (cells + 4) (slots + 24) Q (F0 m 2035 ls1 [])) :
    W p l e room_1 s m #[.ref bs] below meth c H locs cells slots Q (F0 m 1158 ls []) := by
  obtain ⟨hst, ⟨hx, hb, hr, hml, hown, hts, hX, hbl, hlocks, hgv⟩, hLs, hE, hN⟩ := id C
  have hown : s.vm.findClass RL = some m.cls := hown
  have hK := hE.1
  have hA : ∀ q : Nat, s.heap.size ≤ q → zlA s q := fun _ h => h
  have hA0 : ∀ q : Nat, zlA s q → G.2.2.1 ≤ q := fun q h => Nat.le_trans hE.2.2.2.2 h
  have hB1 := zlB_1 j
  have hBl := zlB_lo j
  have hBh := zlB_hi hj
  obtain ⟨fo, T, L, Z, sv, SL, S, o, cn, rf, tn, sp, ou, ch, K, Y, D, SK, sk, n, t, ⟨hw, hh, hsl, htx⟩, hP, hD, hS⟩ := hS
  obtain ⟨⟨po, hT⟩, hch⟩ := id htx
  unfold zlW at hP hD
  refine lv_aload_n hx hb dL_law_1158 rfl (lv_at hl 1 rfl) ?_
  refine zl_ld (k := 1) C hS (lv_at hl 0 rfl) (lv_at hl 4 rfl) (by omega) (by decide) dL_law_1159 dL_law_1160 dL_law_1162 dL_law_1163 dL_law_1164 ?_
  refine zl_ld (k := 2) C hS (lv_at hl 0 rfl) (lv_at hl 4 rfl) (by omega) (by decide) dL_law_1165 dL_law_1166 dL_law_1168 dL_law_1169 dL_law_1170 ?_
  refine zl_ld (k := 3) C hS (lv_at hl 0 rfl) (lv_at hl 4 rfl) (by omega) (by decide) dL_law_1171 dL_law_1172 dL_law_1174 dL_law_1175 dL_law_1176 ?_
  refine lv_aload_n hx hb dL_law_1177 rfl (lv_at hl 3 rfl) ?_
  have hP0 : va_P G.1 vwCl ((zb_o G q fo ++ (zb_5 G a ++ (zb_L G a.2.2.1 L ++ (zb_M G a.2.2.1 L ++ zb_H G a.2.2.2.2.1.1 a.2.2.2.2.1.2.1 a.2.2.2.2.1.2.2 S (nI o) (nI cn))))) ++ ((zb_6 G b rf (nI tn) (nI cn) sp ou ++ (zb_r G (b 2) K ++ zb_d G (b 4) D)) ++ (zb_T G a.2.1 T ++ (zb_L G a.2.2.2.1 Z ++ (zb_M G a.2.2.2.1 Z ++ (zb_S G a sv ++ (zb_P G a.2.2.2.2.2.2.2 SL 2 ++ (zb_a G (b 1) 120 ch ++ (zb_r G (b 3) Y ++ (zb_k G (b 5) SK ++ zb_f G (b 6) sk)))))))))) H := zk_Pperm hP (zlp_a _ _ _ _ _ _ _ _ _ _ _ _ _ _ _ _ _)
  have hD0 : va_D (zlA s) ((zb_o G q fo ++ (zb_5 G a ++ (zb_L G a.2.2.1 L ++ (zb_M G a.2.2.1 L ++ zb_H G a.2.2.2.2.1.1 a.2.2.2.2.1.2.1 a.2.2.2.2.1.2.2 S (nI o) (nI cn))))) ++ ((zb_6 G b rf (nI tn) (nI cn) sp ou ++ (zb_r G (b 2) K ++ zb_d G (b 4) D)) ++ (zb_T G a.2.1 T ++ (zb_L G a.2.2.2.1 Z ++ (zb_M G a.2.2.2.1 Z ++ (zb_S G a sv ++ (zb_P G a.2.2.2.2.2.2.2 SL 2 ++ (zb_a G (b 1) 120 ch ++ (zb_r G (b 3) Y ++ (zb_k G (b 5) SK ++ zb_f G (b 6) sk)))))))))) := zk_Dperm hD (zlp_a _ _ _ _ _ _ _ _ _ _ _ _ _ _ _ _ _)
  refine zk_callI (wr := (zb_6 G b rf (nI tn) (nI cn) sp ou ++ (zb_r G (b 2) K ++ zb_d G (b 4) D)) ++ (zb_T G a.2.1 T ++ (zb_L G a.2.2.2.1 Z ++ (zb_M G a.2.2.2.1 Z ++ (zb_S G a sv ++ (zb_P G a.2.2.2.2.2.2.2 SL 2 ++ (zb_a G (b 1) 120 ch ++ (zb_r G (b 3) Y ++ (zb_k G (b 5) SK ++ zb_f G (b 6) sk))))))))) (vx_runSW (As := [.ref a.1, .int (xs (4 * j + 1)), .int (xs (4 * j + 2)), .int (xs (4 * j + 3)), .ref q]) (rest := []) ⟨hx, hb, hml, hown, hts⟩ (c_L_entitle l G hst a L n t (rL (wR hw)) (xs (4 * j + 1)) (xs (4 * j + 2)) (xs (4 * j + 3)) S o cn hh.1 hh.2.1 q fo _) (vx_cwSW 5 hts gL_law_L_entitle rfl rfl rfl (by decide +kernel) ⟨Nat.le_of_ble_eq_true rfl, Nat.le_of_ble_eq_true rfl⟩) (zk_preSH hN hE hA0 hS (zk_Papp hP0).1 (zk_Dapp hD0).1) rfl rfl hl.1 rfl (lv_room (Nat.le_of_ble_eq_true rfl)) dL_law_1178 ⟨by show cells + 2 ≤ 601024; omega, by show slots + 12 ≤ 7293034; omega⟩) hP0 hD0 hS hA (fun r u H locs hL hP hD hS => ?_)
  refine lv_istore (lv' := [(5, .int r), (0, .ref bs), (1, .ref a.1), (2, .ref (b 0)), (3, .ref q), (4, .int (nI (4 * j)))]) hx hb dL_law_1181 hl (by decide) rfl (fun ls hl => ?_)
  refine lv_aload_n hx hb dL_law_1183 rfl (lv_at hl 3 rfl) ?_
  refine zl_ld (k := 1) C hS (lv_at hl 1 rfl) (lv_at hl 5 rfl) (by omega) (by decide) dL_law_1184 dL_law_1185 dL_law_1187 dL_law_1188 dL_law_1189 ?_
  refine zl_ld (k := 2) C hS (lv_at hl 1 rfl) (lv_at hl 5 rfl) (by omega) (by decide) dL_law_1190 dL_law_1191 dL_law_1193 dL_law_1194 dL_law_1195 ?_
  refine zl_ld (k := 3) C hS (lv_at hl 1 rfl) (lv_at hl 5 rfl) (by omega) (by decide) dL_law_1196 dL_law_1197 dL_law_1199 dL_law_1200 dL_law_1201 ?_
  have hP0 := zk_Pperm hP (List.perm_append_comm_assoc _ _ _)
  have hD0 := zk_Dperm hD (List.perm_append_comm_assoc _ _ _)
  refine zk_callI (va_runV (As := [.int (xs (4 * j + 1)), .int (xs (4 * j + 2)), .int (xs (4 * j + 3))]) (rest := []) ⟨hx, hb, hml, hown, hts⟩ (c_X6_entitle l G b rf (nI tn) cn sp ou hh.2.1 K n t (rK (wR hw)) D (xs (4 * j + 1)) (xs (4 * j + 2)) (xs (4 * j + 3)) _) (cwV 3 hts gL_law_X6_entitle rfl rfl rfl (by decide +kernel) ⟨Nat.le_of_ble_eq_true rfl, Nat.le_of_ble_eq_true rfl⟩) (zk_preV hE hA0 hS (zk_Papp hP0).1 (zk_Dapp hD0).1 (va_recv hK hP0 (ci := 5) (q0 := 0) rfl rfl)) rfl rfl hl.1 rfl (lv_room (Nat.le_of_ble_eq_true rfl)) dL_law_1202 ⟨by show cells + 2 + 0 ≤ 601024; omega, by show slots + 12 + 0 ≤ 7293034; omega⟩) hP0 hD0 hS hA (fun r2 vm H locs hM hP hD hS => ?_)
  obtain ⟨⟨hk, hans⟩, hfin⟩ := zp_entitle hw hh ⟨by omega, by omega⟩ hL hM
  refine zl_tail (t := 1205) C dL_law_1205 dL_law_1207 dL_law_1208 dL_law_1211 dL_law_1213 dL_law_1218 dL_law_1220 dL_law_1223 dL_law_1224 dL_law_1225 dL_law_1226 dL_law_1228 dL_law_1229 dL_law_1230 dL_law_1235 (by decide) ⟨by show cells + 2 + 0 ≤ 601024; omega, by show slots + 12 + 0 ≤ 7293034; omega⟩ hl (zk_Pperm hP (zlt _ _ _ _ _)) (zk_Dperm hD (zlt _ _ _ _ _)) hS hk hans (fun H locs ls hP hD hS hl => ?_)
  refine W.widen (k := cells + 4) (n := slots + 24) (by show cells + 2 + 0 ≤ cells + 4; omega) (by show slots + 12 + 0 ≤ slots + 24; omega) ?_
  refine done H locs ls ?_ hl
  rw [zlB_s] at hfin
  obtain ⟨_ | v0, f1⟩ := u
  · obtain ⟨⟨hh2, ec⟩, n2, t2, hw2⟩ := hfin
    have hP : va_P G.1 vwCl (zb_6 G b vm.1 (nI tn) (nI vm.2.1.1) sp ou ++ (zb_o G q f1 ++ ((zb_r G (b 2) vm.2.2 ++ zb_d G (b 4) vm.2.1.2) ++ ((zb_5 G a ++ (zb_L G a.2.2.1 L ++ (zb_M G a.2.2.1 L ++ zb_H G a.2.2.2.2.1.1 a.2.2.2.2.1.2.1 a.2.2.2.2.1.2.2 S (nI o) (nI cn)))) ++ (zb_T G a.2.1 T ++ (zb_L G a.2.2.2.1 Z ++ (zb_M G a.2.2.2.1 Z ++ (zb_S G a sv ++ (zb_P G a.2.2.2.2.2.2.2 SL 2 ++ (zb_a G (b 1) 120 ch ++ (zb_r G (b 3) Y ++ (zb_k G (b 5) SK ++ zb_f G (b 6) sk)))))))))))) H := hP
    have hD : va_D (zlA s) (zb_6 G b vm.1 (nI tn) (nI vm.2.1.1) sp ou ++ (zb_o G q f1 ++ ((zb_r G (b 2) vm.2.2 ++ zb_d G (b 4) vm.2.1.2) ++ ((zb_5 G a ++ (zb_L G a.2.2.1 L ++ (zb_M G a.2.2.1 L ++ zb_H G a.2.2.2.2.1.1 a.2.2.2.2.1.2.1 a.2.2.2.2.1.2.2 S (nI o) (nI cn)))) ++ (zb_T G a.2.1 T ++ (zb_L G a.2.2.2.1 Z ++ (zb_M G a.2.2.2.1 Z ++ (zb_S G a sv ++ (zb_P G a.2.2.2.2.2.2.2 SL 2 ++ (zb_a G (b 1) 120 ch ++ (zb_r G (b 3) Y ++ (zb_k G (b 5) SK ++ zb_f G (b 6) sk)))))))))))) := hD
    rw [ec] at hP hD
    exact ⟨f1, T, L, Z, sv, SL, S, o, cn, vm.1, tn, sp, ou, ch, vm.2.2, Y, vm.2.1.2, SK, sk, n2, t2, ⟨hw2, hh2, slot_mono hsl hB1, htx⟩, zk_Pperm hP (zlf_a _ _ _ _ _ _ _ _ _ _ _ _ _ _ _ _ _), zk_Dperm hD (zlf_a _ _ _ _ _ _ _ _ _ _ _ _ _ _ _ _ _), hS⟩
  · obtain ⟨⟨hh2, ec⟩, n2, t2, hw2⟩ := hfin
    have hP : va_P G.1 vwCl (zb_6 G b vm.1 (nI tn) (nI vm.2.1.1) sp ou ++ (zb_o G q f1 ++ ((zb_r G (b 2) vm.2.2 ++ zb_d G (b 4) vm.2.1.2) ++ ((zb_5 G a ++ (zb_L G a.2.2.1 v0.2 ++ (zb_M G a.2.2.1 v0.2 ++ zb_H G a.2.2.2.2.1.1 a.2.2.2.2.1.2.1 a.2.2.2.2.1.2.2 v0.1.2.2 (nI v0.1.1) (nI v0.1.2.1)))) ++ (zb_T G a.2.1 T ++ (zb_L G a.2.2.2.1 Z ++ (zb_M G a.2.2.2.1 Z ++ (zb_S G a sv ++ (zb_P G a.2.2.2.2.2.2.2 SL 2 ++ (zb_a G (b 1) 120 ch ++ (zb_r G (b 3) Y ++ (zb_k G (b 5) SK ++ zb_f G (b 6) sk)))))))))))) H := hP
    have hD : va_D (zlA s) (zb_6 G b vm.1 (nI tn) (nI vm.2.1.1) sp ou ++ (zb_o G q f1 ++ ((zb_r G (b 2) vm.2.2 ++ zb_d G (b 4) vm.2.1.2) ++ ((zb_5 G a ++ (zb_L G a.2.2.1 v0.2 ++ (zb_M G a.2.2.1 v0.2 ++ zb_H G a.2.2.2.2.1.1 a.2.2.2.2.1.2.1 a.2.2.2.2.1.2.2 v0.1.2.2 (nI v0.1.1) (nI v0.1.2.1)))) ++ (zb_T G a.2.1 T ++ (zb_L G a.2.2.2.1 Z ++ (zb_M G a.2.2.2.1 Z ++ (zb_S G a sv ++ (zb_P G a.2.2.2.2.2.2.2 SL 2 ++ (zb_a G (b 1) 120 ch ++ (zb_r G (b 3) Y ++ (zb_k G (b 5) SK ++ zb_f G (b 6) sk)))))))))))) := hD
    rw [ec] at hP hD
    exact ⟨f1, T, v0.2, Z, sv, SL, v0.1.2.2, v0.1.1, v0.1.2.1, vm.1, tn, sp, ou, ch, vm.2.2, Y, vm.2.1.2, SK, sk, n2, t2, ⟨hw2, hh2, slot_mono hsl hB1, htx⟩, zk_Pperm hP (zlf_a _ _ _ _ _ _ _ _ _ _ _ _ _ _ _ _ _), zk_Dperm hD (zlf_a _ _ _ _ _ _ _ _ _ _ _ _ _ _ _ _ _), hS⟩
set_option maxHeartbeats 4000000 in
set_option maxRecDepth 100000 in
theorem zl_c17 {p : Program} {l : Launch} {e : Env} {s : State} {m : MethodId} {below : List Frame} {meth : Method} {c : Code} {H : Heap} {locs : List Loc} {cells slots : Nat} {Q : State → Prop} {bs Ls : Nat} {xs : Nat → Int32} {ls : Array Slot} {G : zk_G} {a : zA} {b : Nat → Nat} {q j : Nat} (C : zlC p l s m meth c bs Ls xs G) (hj : j < 512) (hJ : 4 * j + 4 ≤ Ls) (hcs : cells + 4 ≤ 601024 ∧ slots + 24 ≤ 7293034) (hS : zlS G s a b q j H locs) (hl : lv_has ls 7 [(0, .ref bs), (1, .ref a.1), (2, .ref (b 0)), (3, .ref q), (4, .int (nI (4 * j)))])
    (done : ∀ (H1 : Heap) (locs1 : List Loc) (ls1 : Array Slot), zlS G s a b q (j + 1) H1 locs1 → lv_has ls1 7 [(0, .ref bs), (1, .ref a.1), (2, .ref (b 0)), (3, .ref q), (4, .int (nI (4 * j)))] → W p l e room_1 s m #[.ref bs] below meth c H1 locs1 (cells + 4) (slots + 24) Q (F0 m 2035 ls1 [])) :
    W p l e room_1 s m #[.ref bs] below meth c H locs cells slots Q (F0 m 1238 ls []) := by
  obtain ⟨hst, ⟨hx, hb, hr, hml, hown, hts, hX, hbl, hlocks, hgv⟩, hLs, hE, hN⟩ := id C
  have hown : s.vm.findClass RL = some m.cls := hown
  have hK := hE.1
  have hA : ∀ q : Nat, s.heap.size ≤ q → zlA s q := fun _ h => h
  have hA0 : ∀ q : Nat, zlA s q → G.2.2.1 ≤ q := fun q h => Nat.le_trans hE.2.2.2.2 h
  have hB1 := zlB_1 j
  have hBl := zlB_lo j
  have hBh := zlB_hi hj
  obtain ⟨fo, T, L, Z, sv, SL, S, o, cn, rf, tn, sp, ou, ch, K, Y, D, SK, sk, n, t, ⟨hw, hh, hsl, htx⟩, hP, hD, hS⟩ := hS
  obtain ⟨⟨po, hT⟩, hch⟩ := id htx
  unfold zlW at hP hD
  refine lv_aload_n hx hb dL_law_1238 rfl (lv_at hl 1 rfl) ?_
  refine zl_ld (k := 1) C hS (lv_at hl 0 rfl) (lv_at hl 4 rfl) (by omega) (by decide) dL_law_1239 dL_law_1240 dL_law_1242 dL_law_1243 dL_law_1244 ?_
  refine lv_aload_n hx hb dL_law_1245 rfl (lv_at hl 3 rfl) ?_
  have hP0 : va_P G.1 vwCl ((zb_o G q fo ++ (zb_5 G a ++ (zb_L G a.2.2.1 L ++ (zb_M G a.2.2.1 L ++ zb_H G a.2.2.2.2.1.1 a.2.2.2.2.1.2.1 a.2.2.2.2.1.2.2 S (nI o) (nI cn))))) ++ ((zb_6 G b rf (nI tn) (nI cn) sp ou ++ (zb_r G (b 2) K ++ zb_d G (b 4) D)) ++ (zb_T G a.2.1 T ++ (zb_L G a.2.2.2.1 Z ++ (zb_M G a.2.2.2.1 Z ++ (zb_S G a sv ++ (zb_P G a.2.2.2.2.2.2.2 SL 2 ++ (zb_a G (b 1) 120 ch ++ (zb_r G (b 3) Y ++ (zb_k G (b 5) SK ++ zb_f G (b 6) sk)))))))))) H := zk_Pperm hP (zlp_a _ _ _ _ _ _ _ _ _ _ _ _ _ _ _ _ _)
  have hD0 : va_D (zlA s) ((zb_o G q fo ++ (zb_5 G a ++ (zb_L G a.2.2.1 L ++ (zb_M G a.2.2.1 L ++ zb_H G a.2.2.2.2.1.1 a.2.2.2.2.1.2.1 a.2.2.2.2.1.2.2 S (nI o) (nI cn))))) ++ ((zb_6 G b rf (nI tn) (nI cn) sp ou ++ (zb_r G (b 2) K ++ zb_d G (b 4) D)) ++ (zb_T G a.2.1 T ++ (zb_L G a.2.2.2.1 Z ++ (zb_M G a.2.2.2.1 Z ++ (zb_S G a sv ++ (zb_P G a.2.2.2.2.2.2.2 SL 2 ++ (zb_a G (b 1) 120 ch ++ (zb_r G (b 3) Y ++ (zb_k G (b 5) SK ++ zb_f G (b 6) sk)))))))))) := zk_Dperm hD (zlp_a _ _ _ _ _ _ _ _ _ _ _ _ _ _ _ _ _)
  refine zk_callI (wr := (zb_6 G b rf (nI tn) (nI cn) sp ou ++ (zb_r G (b 2) K ++ zb_d G (b 4) D)) ++ (zb_T G a.2.1 T ++ (zb_L G a.2.2.2.1 Z ++ (zb_M G a.2.2.2.1 Z ++ (zb_S G a sv ++ (zb_P G a.2.2.2.2.2.2.2 SL 2 ++ (zb_a G (b 1) 120 ch ++ (zb_r G (b 3) Y ++ (zb_k G (b 5) SK ++ zb_f G (b 6) sk))))))))) (vx_runSW (As := [.ref a.1, .int (xs (4 * j + 1)), .ref q]) (rest := []) ⟨hx, hb, hml, hown, hts⟩ (c_L_writeOff l G hst a L n t (rL (wR hw)) (xs (4 * j + 1)) S o cn hh.1 hh.2.1 q fo _) (vx_cwSW 3 hts gL_law_L_writeOff rfl rfl rfl (by decide +kernel) ⟨Nat.le_of_ble_eq_true rfl, Nat.le_of_ble_eq_true rfl⟩) (zk_preSH hN hE hA0 hS (zk_Papp hP0).1 (zk_Dapp hD0).1) rfl rfl hl.1 rfl (lv_room (Nat.le_of_ble_eq_true rfl)) dL_law_1246 ⟨by show cells + 2 ≤ 601024; omega, by show slots + 12 ≤ 7293034; omega⟩) hP0 hD0 hS hA (fun r u H locs hL hP hD hS => ?_)
  refine lv_istore (lv' := [(5, .int r), (0, .ref bs), (1, .ref a.1), (2, .ref (b 0)), (3, .ref q), (4, .int (nI (4 * j)))]) hx hb dL_law_1249 hl (by decide) rfl (fun ls hl => ?_)
  refine lv_aload_n hx hb dL_law_1251 rfl (lv_at hl 3 rfl) ?_
  refine zl_ld (k := 1) C hS (lv_at hl 1 rfl) (lv_at hl 5 rfl) (by omega) (by decide) dL_law_1252 dL_law_1253 dL_law_1255 dL_law_1256 dL_law_1257 ?_
  have hP0 := zk_Pperm hP (List.perm_append_comm_assoc _ _ _)
  have hD0 := zk_Dperm hD (List.perm_append_comm_assoc _ _ _)
  refine zk_callI (va_runV (As := [.int (xs (4 * j + 1))]) (rest := []) ⟨hx, hb, hml, hown, hts⟩ (c_X6_writeOff l G b rf (nI tn) cn sp ou hh.2.1 K n t (rK (wR hw)) D (xs (4 * j + 1)) _) (cwV 1 hts gL_law_X6_writeOff rfl rfl rfl (by decide +kernel) ⟨Nat.le_of_ble_eq_true rfl, Nat.le_of_ble_eq_true rfl⟩) (zk_preV hE hA0 hS (zk_Papp hP0).1 (zk_Dapp hD0).1 (va_recv hK hP0 (ci := 5) (q0 := 0) rfl rfl)) rfl rfl hl.1 rfl (lv_room (Nat.le_of_ble_eq_true rfl)) dL_law_1258 ⟨by show cells + 2 + 0 ≤ 601024; omega, by show slots + 12 + 0 ≤ 7293034; omega⟩) hP0 hD0 hS hA (fun r2 vm H locs hM hP hD hS => ?_)
  obtain ⟨⟨hk, hans⟩, hfin⟩ := zp_writeOff hw hh ⟨by omega, by omega⟩ hL hM
  refine zl_tail (t := 1261) C dL_law_1261 dL_law_1263 dL_law_1264 dL_law_1267 dL_law_1269 dL_law_1274 dL_law_1276 dL_law_1279 dL_law_1280 dL_law_1281 dL_law_1282 dL_law_1284 dL_law_1285 dL_law_1286 dL_law_1291 (by decide) ⟨by show cells + 2 + 0 ≤ 601024; omega, by show slots + 12 + 0 ≤ 7293034; omega⟩ hl (zk_Pperm hP (zlt _ _ _ _ _)) (zk_Dperm hD (zlt _ _ _ _ _)) hS hk hans (fun H locs ls hP hD hS hl => ?_)
  refine W.widen (k := cells + 4) (n := slots + 24) (by show cells + 2 + 0 ≤ cells + 4; omega) (by show slots + 12 + 0 ≤ slots + 24; omega) ?_
  refine done H locs ls ?_ hl
  rw [zlB_s] at hfin
  obtain ⟨_ | v0, f1⟩ := u
  · obtain ⟨⟨hh2, ec⟩, n2, t2, hw2⟩ := hfin
    have hP : va_P G.1 vwCl (zb_6 G b vm.1 (nI tn) (nI vm.2.1.1) sp ou ++ (zb_o G q f1 ++ ((zb_r G (b 2) vm.2.2 ++ zb_d G (b 4) vm.2.1.2) ++ ((zb_5 G a ++ (zb_L G a.2.2.1 L ++ (zb_M G a.2.2.1 L ++ zb_H G a.2.2.2.2.1.1 a.2.2.2.2.1.2.1 a.2.2.2.2.1.2.2 S (nI o) (nI cn)))) ++ (zb_T G a.2.1 T ++ (zb_L G a.2.2.2.1 Z ++ (zb_M G a.2.2.2.1 Z ++ (zb_S G a sv ++ (zb_P G a.2.2.2.2.2.2.2 SL 2 ++ (zb_a G (b 1) 120 ch ++ (zb_r G (b 3) Y ++ (zb_k G (b 5) SK ++ zb_f G (b 6) sk)))))))))))) H := hP
    have hD : va_D (zlA s) (zb_6 G b vm.1 (nI tn) (nI vm.2.1.1) sp ou ++ (zb_o G q f1 ++ ((zb_r G (b 2) vm.2.2 ++ zb_d G (b 4) vm.2.1.2) ++ ((zb_5 G a ++ (zb_L G a.2.2.1 L ++ (zb_M G a.2.2.1 L ++ zb_H G a.2.2.2.2.1.1 a.2.2.2.2.1.2.1 a.2.2.2.2.1.2.2 S (nI o) (nI cn)))) ++ (zb_T G a.2.1 T ++ (zb_L G a.2.2.2.1 Z ++ (zb_M G a.2.2.2.1 Z ++ (zb_S G a sv ++ (zb_P G a.2.2.2.2.2.2.2 SL 2 ++ (zb_a G (b 1) 120 ch ++ (zb_r G (b 3) Y ++ (zb_k G (b 5) SK ++ zb_f G (b 6) sk)))))))))))) := hD
    rw [ec] at hP hD
    exact ⟨f1, T, L, Z, sv, SL, S, o, cn, vm.1, tn, sp, ou, ch, vm.2.2, Y, vm.2.1.2, SK, sk, n2, t2, ⟨hw2, hh2, slot_mono hsl hB1, htx⟩, zk_Pperm hP (zlf_a _ _ _ _ _ _ _ _ _ _ _ _ _ _ _ _ _), zk_Dperm hD (zlf_a _ _ _ _ _ _ _ _ _ _ _ _ _ _ _ _ _), hS⟩
  · obtain ⟨⟨hh2, ec⟩, n2, t2, hw2⟩ := hfin
    have hP : va_P G.1 vwCl (zb_6 G b vm.1 (nI tn) (nI vm.2.1.1) sp ou ++ (zb_o G q f1 ++ ((zb_r G (b 2) vm.2.2 ++ zb_d G (b 4) vm.2.1.2) ++ ((zb_5 G a ++ (zb_L G a.2.2.1 v0.2 ++ (zb_M G a.2.2.1 v0.2 ++ zb_H G a.2.2.2.2.1.1 a.2.2.2.2.1.2.1 a.2.2.2.2.1.2.2 v0.1.2.2 (nI v0.1.1) (nI v0.1.2.1)))) ++ (zb_T G a.2.1 T ++ (zb_L G a.2.2.2.1 Z ++ (zb_M G a.2.2.2.1 Z ++ (zb_S G a sv ++ (zb_P G a.2.2.2.2.2.2.2 SL 2 ++ (zb_a G (b 1) 120 ch ++ (zb_r G (b 3) Y ++ (zb_k G (b 5) SK ++ zb_f G (b 6) sk)))))))))))) H := hP
    have hD : va_D (zlA s) (zb_6 G b vm.1 (nI tn) (nI vm.2.1.1) sp ou ++ (zb_o G q f1 ++ ((zb_r G (b 2) vm.2.2 ++ zb_d G (b 4) vm.2.1.2) ++ ((zb_5 G a ++ (zb_L G a.2.2.1 v0.2 ++ (zb_M G a.2.2.1 v0.2 ++ zb_H G a.2.2.2.2.1.1 a.2.2.2.2.1.2.1 a.2.2.2.2.1.2.2 v0.1.2.2 (nI v0.1.1) (nI v0.1.2.1)))) ++ (zb_T G a.2.1 T ++ (zb_L G a.2.2.2.1 Z ++ (zb_M G a.2.2.2.1 Z ++ (zb_S G a sv ++ (zb_P G a.2.2.2.2.2.2.2 SL 2 ++ (zb_a G (b 1) 120 ch ++ (zb_r G (b 3) Y ++ (zb_k G (b 5) SK ++ zb_f G (b 6) sk)))))))))))) := hD
    rw [ec] at hP hD
    exact ⟨f1, T, v0.2, Z, sv, SL, v0.1.2.2, v0.1.1, v0.1.2.1, vm.1, tn, sp, ou, ch, vm.2.2, Y, vm.2.1.2, SK, sk, n2, t2, ⟨hw2, hh2, slot_mono hsl hB1, htx⟩, zk_Pperm hP (zlf_a _ _ _ _ _ _ _ _ _ _ _ _ _ _ _ _ _), zk_Dperm hD (zlf_a _ _ _ _ _ _ _ _ _ _ _ _ _ _ _ _ _), hS⟩
set_option maxHeartbeats 4000000 in
set_option maxRecDepth 100000 in
theorem zl_c18 {p : Program} {l : Launch} {e : Env} {s : State} {m : MethodId} {below : List Frame} {meth : Method} {c : Code} {H : Heap} {locs : List Loc} {cells slots : Nat} {Q : State → Prop} {bs Ls : Nat} {xs : Nat → Int32} {ls : Array Slot} {G : zk_G} {a : zA} {b : Nat → Nat} {q j : Nat} (C : zlC p l s m meth c bs Ls xs G) (hj : j < 512) (hJ : 4 * j + 4 ≤ Ls) (hcs : cells + 4 ≤ 601024 ∧ slots + 24 ≤ 7293034) (hS : zlS G s a b q j H locs) (hl : lv_has ls 7 [(0, .ref bs), (1, .ref a.1), (2, .ref (b 0)), (3, .ref q), (4, .int (nI (4 * j)))])
    (done : ∀ (H1 : Heap) (locs1 : List Loc) (ls1 : Array Slot), zlS G s a b q (j + 1) H1 locs1 → lv_has ls1 7 [(0, .ref bs), (1, .ref a.1), (2, .ref (b 0)), (3, .ref q), (4, .int (nI (4 * j)))] → W p l e room_1 s m #[.ref bs] below meth c H1 locs1 (cells + 4) (slots + 24) Q (F0 m 2035 ls1 [])) :
    W p l e room_1 s m #[.ref bs] below meth c H locs cells slots Q (F0 m 1294 ls []) := by
  obtain ⟨hst, ⟨hx, hb, hr, hml, hown, hts, hX, hbl, hlocks, hgv⟩, hLs, hE, hN⟩ := id C
  have hown : s.vm.findClass RL = some m.cls := hown
  have hK := hE.1
  have hA : ∀ q : Nat, s.heap.size ≤ q → zlA s q := fun _ h => h
  have hA0 : ∀ q : Nat, zlA s q → G.2.2.1 ≤ q := fun q h => Nat.le_trans hE.2.2.2.2 h
  have hB1 := zlB_1 j
  have hBl := zlB_lo j
  have hBh := zlB_hi hj
  obtain ⟨fo, T, L, Z, sv, SL, S, o, cn, rf, tn, sp, ou, ch, K, Y, D, SK, sk, n, t, ⟨hw, hh, hsl, htx⟩, hP, hD, hS⟩ := hS
  obtain ⟨⟨po, hT⟩, hch⟩ := id htx
  unfold zlW at hP hD
  refine lv_aload_n hx hb dL_law_1294 rfl (lv_at hl 1 rfl) ?_
  refine zl_ld (k := 1) C hS (lv_at hl 0 rfl) (lv_at hl 4 rfl) (by omega) (by decide) dL_law_1295 dL_law_1296 dL_law_1298 dL_law_1299 dL_law_1300 ?_
  refine lv_aload_n hx hb dL_law_1301 rfl (lv_at hl 3 rfl) ?_
  have hP0 : va_P G.1 vwCl ((zb_o G q fo ++ (zb_5 G a ++ (zb_L G a.2.2.1 L ++ (zb_M G a.2.2.1 L ++ zb_H G a.2.2.2.2.1.1 a.2.2.2.2.1.2.1 a.2.2.2.2.1.2.2 S (nI o) (nI cn))))) ++ ((zb_6 G b rf (nI tn) (nI cn) sp ou ++ (zb_r G (b 2) K ++ zb_d G (b 4) D)) ++ (zb_T G a.2.1 T ++ (zb_L G a.2.2.2.1 Z ++ (zb_M G a.2.2.2.1 Z ++ (zb_S G a sv ++ (zb_P G a.2.2.2.2.2.2.2 SL 2 ++ (zb_a G (b 1) 120 ch ++ (zb_r G (b 3) Y ++ (zb_k G (b 5) SK ++ zb_f G (b 6) sk)))))))))) H := zk_Pperm hP (zlp_a _ _ _ _ _ _ _ _ _ _ _ _ _ _ _ _ _)
  have hD0 : va_D (zlA s) ((zb_o G q fo ++ (zb_5 G a ++ (zb_L G a.2.2.1 L ++ (zb_M G a.2.2.1 L ++ zb_H G a.2.2.2.2.1.1 a.2.2.2.2.1.2.1 a.2.2.2.2.1.2.2 S (nI o) (nI cn))))) ++ ((zb_6 G b rf (nI tn) (nI cn) sp ou ++ (zb_r G (b 2) K ++ zb_d G (b 4) D)) ++ (zb_T G a.2.1 T ++ (zb_L G a.2.2.2.1 Z ++ (zb_M G a.2.2.2.1 Z ++ (zb_S G a sv ++ (zb_P G a.2.2.2.2.2.2.2 SL 2 ++ (zb_a G (b 1) 120 ch ++ (zb_r G (b 3) Y ++ (zb_k G (b 5) SK ++ zb_f G (b 6) sk)))))))))) := zk_Dperm hD (zlp_a _ _ _ _ _ _ _ _ _ _ _ _ _ _ _ _ _)
  refine zk_callI (wr := (zb_6 G b rf (nI tn) (nI cn) sp ou ++ (zb_r G (b 2) K ++ zb_d G (b 4) D)) ++ (zb_T G a.2.1 T ++ (zb_L G a.2.2.2.1 Z ++ (zb_M G a.2.2.2.1 Z ++ (zb_S G a sv ++ (zb_P G a.2.2.2.2.2.2.2 SL 2 ++ (zb_a G (b 1) 120 ch ++ (zb_r G (b 3) Y ++ (zb_k G (b 5) SK ++ zb_f G (b 6) sk))))))))) (vx_runSW (As := [.ref a.1, .int (xs (4 * j + 1)), .ref q]) (rest := []) ⟨hx, hb, hml, hown, hts⟩ (c_L_days l G hst a L n t (rL (wR hw)) (xs (4 * j + 1)) S o cn hh.1 hh.2.1 q fo _) (vx_cwSW 3 hts gL_law_L_days rfl rfl rfl (by decide +kernel) ⟨Nat.le_of_ble_eq_true rfl, Nat.le_of_ble_eq_true rfl⟩) (zk_preSH hN hE hA0 hS (zk_Papp hP0).1 (zk_Dapp hD0).1) rfl rfl hl.1 rfl (lv_room (Nat.le_of_ble_eq_true rfl)) dL_law_1302 ⟨by show cells + 2 ≤ 601024; omega, by show slots + 12 ≤ 7293034; omega⟩) hP0 hD0 hS hA (fun r u H locs hL hP hD hS => ?_)
  refine lv_istore (lv' := [(5, .int r), (0, .ref bs), (1, .ref a.1), (2, .ref (b 0)), (3, .ref q), (4, .int (nI (4 * j)))]) hx hb dL_law_1305 hl (by decide) rfl (fun ls hl => ?_)
  refine lv_aload_n hx hb dL_law_1307 rfl (lv_at hl 3 rfl) ?_
  refine zl_ld (k := 1) C hS (lv_at hl 1 rfl) (lv_at hl 5 rfl) (by omega) (by decide) dL_law_1308 dL_law_1309 dL_law_1311 dL_law_1312 dL_law_1313 ?_
  have hP0 := zk_Pperm hP (List.perm_append_comm_assoc _ _ _)
  have hD0 := zk_Dperm hD (List.perm_append_comm_assoc _ _ _)
  refine zk_callI (va_runV (As := [.int (xs (4 * j + 1))]) (rest := []) ⟨hx, hb, hml, hown, hts⟩ (c_X6_days l G b rf (nI tn) cn sp ou hh.2.1 K n t (rK (wR hw)) D (xs (4 * j + 1)) (rP (wR hw)) _) (cwV 1 hts gL_law_X6_days rfl rfl rfl (by decide +kernel) ⟨Nat.le_of_ble_eq_true rfl, Nat.le_of_ble_eq_true rfl⟩) (zk_preV hE hA0 hS (zk_Papp hP0).1 (zk_Dapp hD0).1 (va_recv hK hP0 (ci := 5) (q0 := 0) rfl rfl)) rfl rfl hl.1 rfl (lv_room (Nat.le_of_ble_eq_true rfl)) dL_law_1314 ⟨by show cells + 2 + 0 ≤ 601024; omega, by show slots + 12 + 0 ≤ 7293034; omega⟩) hP0 hD0 hS hA (fun r2 vm H locs hM hP hD hS => ?_)
  obtain ⟨⟨hk, hans⟩, hfin⟩ := zp_days hw hh ⟨by omega, by omega⟩ hL hM
  refine zl_tail (t := 1317) C dL_law_1317 dL_law_1319 dL_law_1320 dL_law_1323 dL_law_1325 dL_law_1330 dL_law_1332 dL_law_1335 dL_law_1336 dL_law_1337 dL_law_1338 dL_law_1340 dL_law_1341 dL_law_1342 dL_law_1347 (by decide) ⟨by show cells + 2 + 0 ≤ 601024; omega, by show slots + 12 + 0 ≤ 7293034; omega⟩ hl (zk_Pperm hP (zlt _ _ _ _ _)) (zk_Dperm hD (zlt _ _ _ _ _)) hS hk hans (fun H locs ls hP hD hS hl => ?_)
  refine W.widen (k := cells + 4) (n := slots + 24) (by show cells + 2 + 0 ≤ cells + 4; omega) (by show slots + 12 + 0 ≤ slots + 24; omega) ?_
  refine done H locs ls ?_ hl
  rw [zlB_s] at hfin
  obtain ⟨_ | v0, f1⟩ := u
  · obtain ⟨⟨hh2, ec⟩, n2, t2, hw2⟩ := hfin
    have hP : va_P G.1 vwCl (zb_6 G b vm.1 (nI tn) (nI vm.2.1.1) sp ou ++ (zb_o G q f1 ++ ((zb_r G (b 2) vm.2.2 ++ zb_d G (b 4) vm.2.1.2) ++ ((zb_5 G a ++ (zb_L G a.2.2.1 L ++ (zb_M G a.2.2.1 L ++ zb_H G a.2.2.2.2.1.1 a.2.2.2.2.1.2.1 a.2.2.2.2.1.2.2 S (nI o) (nI cn)))) ++ (zb_T G a.2.1 T ++ (zb_L G a.2.2.2.1 Z ++ (zb_M G a.2.2.2.1 Z ++ (zb_S G a sv ++ (zb_P G a.2.2.2.2.2.2.2 SL 2 ++ (zb_a G (b 1) 120 ch ++ (zb_r G (b 3) Y ++ (zb_k G (b 5) SK ++ zb_f G (b 6) sk)))))))))))) H := hP
    have hD : va_D (zlA s) (zb_6 G b vm.1 (nI tn) (nI vm.2.1.1) sp ou ++ (zb_o G q f1 ++ ((zb_r G (b 2) vm.2.2 ++ zb_d G (b 4) vm.2.1.2) ++ ((zb_5 G a ++ (zb_L G a.2.2.1 L ++ (zb_M G a.2.2.1 L ++ zb_H G a.2.2.2.2.1.1 a.2.2.2.2.1.2.1 a.2.2.2.2.1.2.2 S (nI o) (nI cn)))) ++ (zb_T G a.2.1 T ++ (zb_L G a.2.2.2.1 Z ++ (zb_M G a.2.2.2.1 Z ++ (zb_S G a sv ++ (zb_P G a.2.2.2.2.2.2.2 SL 2 ++ (zb_a G (b 1) 120 ch ++ (zb_r G (b 3) Y ++ (zb_k G (b 5) SK ++ zb_f G (b 6) sk)))))))))))) := hD
    rw [ec] at hP hD
    exact ⟨f1, T, L, Z, sv, SL, S, o, cn, vm.1, tn, sp, ou, ch, vm.2.2, Y, vm.2.1.2, SK, sk, n2, t2, ⟨hw2, hh2, slot_mono hsl hB1, htx⟩, zk_Pperm hP (zlf_a _ _ _ _ _ _ _ _ _ _ _ _ _ _ _ _ _), zk_Dperm hD (zlf_a _ _ _ _ _ _ _ _ _ _ _ _ _ _ _ _ _), hS⟩
  · obtain ⟨⟨hh2, ec⟩, n2, t2, hw2⟩ := hfin
    have hP : va_P G.1 vwCl (zb_6 G b vm.1 (nI tn) (nI vm.2.1.1) sp ou ++ (zb_o G q f1 ++ ((zb_r G (b 2) vm.2.2 ++ zb_d G (b 4) vm.2.1.2) ++ ((zb_5 G a ++ (zb_L G a.2.2.1 v0.2 ++ (zb_M G a.2.2.1 v0.2 ++ zb_H G a.2.2.2.2.1.1 a.2.2.2.2.1.2.1 a.2.2.2.2.1.2.2 v0.1.2.2 (nI v0.1.1) (nI v0.1.2.1)))) ++ (zb_T G a.2.1 T ++ (zb_L G a.2.2.2.1 Z ++ (zb_M G a.2.2.2.1 Z ++ (zb_S G a sv ++ (zb_P G a.2.2.2.2.2.2.2 SL 2 ++ (zb_a G (b 1) 120 ch ++ (zb_r G (b 3) Y ++ (zb_k G (b 5) SK ++ zb_f G (b 6) sk)))))))))))) H := hP
    have hD : va_D (zlA s) (zb_6 G b vm.1 (nI tn) (nI vm.2.1.1) sp ou ++ (zb_o G q f1 ++ ((zb_r G (b 2) vm.2.2 ++ zb_d G (b 4) vm.2.1.2) ++ ((zb_5 G a ++ (zb_L G a.2.2.1 v0.2 ++ (zb_M G a.2.2.1 v0.2 ++ zb_H G a.2.2.2.2.1.1 a.2.2.2.2.1.2.1 a.2.2.2.2.1.2.2 v0.1.2.2 (nI v0.1.1) (nI v0.1.2.1)))) ++ (zb_T G a.2.1 T ++ (zb_L G a.2.2.2.1 Z ++ (zb_M G a.2.2.2.1 Z ++ (zb_S G a sv ++ (zb_P G a.2.2.2.2.2.2.2 SL 2 ++ (zb_a G (b 1) 120 ch ++ (zb_r G (b 3) Y ++ (zb_k G (b 5) SK ++ zb_f G (b 6) sk)))))))))))) := hD
    rw [ec] at hP hD
    exact ⟨f1, T, v0.2, Z, sv, SL, v0.1.2.2, v0.1.1, v0.1.2.1, vm.1, tn, sp, ou, ch, vm.2.2, Y, vm.2.1.2, SK, sk, n2, t2, ⟨hw2, hh2, slot_mono hsl hB1, htx⟩, zk_Pperm hP (zlf_a _ _ _ _ _ _ _ _ _ _ _ _ _ _ _ _ _), zk_Dperm hD (zlf_a _ _ _ _ _ _ _ _ _ _ _ _ _ _ _ _ _), hS⟩
set_option maxHeartbeats 4000000 in
set_option maxRecDepth 100000 in
theorem zl_c19 {p : Program} {l : Launch} {e : Env} {s : State} {m : MethodId} {below : List Frame} {meth : Method} {c : Code} {H : Heap} {locs : List Loc} {cells slots : Nat} {Q : State → Prop} {bs Ls : Nat} {xs : Nat → Int32} {ls : Array Slot} {G : zk_G} {a : zA} {b : Nat → Nat} {q j : Nat} (C : zlC p l s m meth c bs Ls xs G) (hj : j < 512) (hJ : 4 * j + 4 ≤ Ls) (hcs : cells + 4 ≤ 601024 ∧ slots + 24 ≤ 7293034) (hS : zlS G s a b q j H locs) (hl : lv_has ls 7 [(0, .ref bs), (1, .ref a.1), (2, .ref (b 0)), (3, .ref q), (4, .int (nI (4 * j)))])
    (done : ∀ (H1 : Heap) (locs1 : List Loc) (ls1 : Array Slot), zlS G s a b q (j + 1) H1 locs1 → lv_has ls1 7 [(0, .ref bs), (1, .ref a.1), (2, .ref (b 0)), (3, .ref q), (4, .int (nI (4 * j)))] → W p l e room_1 s m #[.ref bs] below meth c H1 locs1 (cells + 4) (slots + 24) Q (F0 m 2035 ls1 [])) :
    W p l e room_1 s m #[.ref bs] below meth c H locs cells slots Q (F0 m 1350 ls []) := by
  obtain ⟨hst, ⟨hx, hb, hr, hml, hown, hts, hX, hbl, hlocks, hgv⟩, hLs, hE, hN⟩ := id C
  have hown : s.vm.findClass RL = some m.cls := hown
  have hK := hE.1
  have hA : ∀ q : Nat, s.heap.size ≤ q → zlA s q := fun _ h => h
  have hA0 : ∀ q : Nat, zlA s q → G.2.2.1 ≤ q := fun q h => Nat.le_trans hE.2.2.2.2 h
  have hB1 := zlB_1 j
  have hBl := zlB_lo j
  have hBh := zlB_hi hj
  obtain ⟨fo, T, L, Z, sv, SL, S, o, cn, rf, tn, sp, ou, ch, K, Y, D, SK, sk, n, t, ⟨hw, hh, hsl, htx⟩, hP, hD, hS⟩ := hS
  obtain ⟨⟨po, hT⟩, hch⟩ := id htx
  unfold zlW at hP hD
  refine lv_aload_n hx hb dL_law_1350 rfl (lv_at hl 1 rfl) ?_
  refine zl_ld (k := 1) C hS (lv_at hl 0 rfl) (lv_at hl 4 rfl) (by omega) (by decide) dL_law_1351 dL_law_1352 dL_law_1354 dL_law_1355 dL_law_1356 ?_
  refine zl_ld (k := 2) C hS (lv_at hl 0 rfl) (lv_at hl 4 rfl) (by omega) (by decide) dL_law_1357 dL_law_1358 dL_law_1360 dL_law_1361 dL_law_1362 ?_
  refine lv_aload_n hx hb dL_law_1363 rfl (lv_at hl 3 rfl) ?_
  have hP0 : va_P G.1 vwCl ((zb_o G q fo ++ (zb_5 G a ++ (zb_L G a.2.2.1 L ++ (zb_M G a.2.2.1 L ++ zb_H G a.2.2.2.2.1.1 a.2.2.2.2.1.2.1 a.2.2.2.2.1.2.2 S (nI o) (nI cn))))) ++ ((zb_6 G b rf (nI tn) (nI cn) sp ou ++ (zb_r G (b 2) K ++ zb_d G (b 4) D)) ++ (zb_T G a.2.1 T ++ (zb_L G a.2.2.2.1 Z ++ (zb_M G a.2.2.2.1 Z ++ (zb_S G a sv ++ (zb_P G a.2.2.2.2.2.2.2 SL 2 ++ (zb_a G (b 1) 120 ch ++ (zb_r G (b 3) Y ++ (zb_k G (b 5) SK ++ zb_f G (b 6) sk)))))))))) H := zk_Pperm hP (zlp_a _ _ _ _ _ _ _ _ _ _ _ _ _ _ _ _ _)
  have hD0 : va_D (zlA s) ((zb_o G q fo ++ (zb_5 G a ++ (zb_L G a.2.2.1 L ++ (zb_M G a.2.2.1 L ++ zb_H G a.2.2.2.2.1.1 a.2.2.2.2.1.2.1 a.2.2.2.2.1.2.2 S (nI o) (nI cn))))) ++ ((zb_6 G b rf (nI tn) (nI cn) sp ou ++ (zb_r G (b 2) K ++ zb_d G (b 4) D)) ++ (zb_T G a.2.1 T ++ (zb_L G a.2.2.2.1 Z ++ (zb_M G a.2.2.2.1 Z ++ (zb_S G a sv ++ (zb_P G a.2.2.2.2.2.2.2 SL 2 ++ (zb_a G (b 1) 120 ch ++ (zb_r G (b 3) Y ++ (zb_k G (b 5) SK ++ zb_f G (b 6) sk)))))))))) := zk_Dperm hD (zlp_a _ _ _ _ _ _ _ _ _ _ _ _ _ _ _ _ _)
  refine zk_callI (wr := (zb_6 G b rf (nI tn) (nI cn) sp ou ++ (zb_r G (b 2) K ++ zb_d G (b 4) D)) ++ (zb_T G a.2.1 T ++ (zb_L G a.2.2.2.1 Z ++ (zb_M G a.2.2.2.1 Z ++ (zb_S G a sv ++ (zb_P G a.2.2.2.2.2.2.2 SL 2 ++ (zb_a G (b 1) 120 ch ++ (zb_r G (b 3) Y ++ (zb_k G (b 5) SK ++ zb_f G (b 6) sk))))))))) (vx_runSW (As := [.ref a.1, .int (xs (4 * j + 1)), .int (xs (4 * j + 2)), .ref q]) (rest := []) ⟨hx, hb, hml, hown, hts⟩ (c_L_set l G hst a L n t (rL (wR hw)) (xs (4 * j + 1)) (xs (4 * j + 2)) S o cn hh.1 hh.2.1 q fo _) (vx_cwSW 4 hts gL_law_L_set rfl rfl rfl (by decide +kernel) ⟨Nat.le_of_ble_eq_true rfl, Nat.le_of_ble_eq_true rfl⟩) (zk_preSH hN hE hA0 hS (zk_Papp hP0).1 (zk_Dapp hD0).1) rfl rfl hl.1 rfl (lv_room (Nat.le_of_ble_eq_true rfl)) dL_law_1364 ⟨by show cells + 2 ≤ 601024; omega, by show slots + 12 ≤ 7293034; omega⟩) hP0 hD0 hS hA (fun r u H locs hL hP hD hS => ?_)
  refine lv_istore (lv' := [(5, .int r), (0, .ref bs), (1, .ref a.1), (2, .ref (b 0)), (3, .ref q), (4, .int (nI (4 * j)))]) hx hb dL_law_1367 hl (by decide) rfl (fun ls hl => ?_)
  refine lv_aload_n hx hb dL_law_1369 rfl (lv_at hl 3 rfl) ?_
  refine zl_ld (k := 1) C hS (lv_at hl 1 rfl) (lv_at hl 5 rfl) (by omega) (by decide) dL_law_1370 dL_law_1371 dL_law_1373 dL_law_1374 dL_law_1375 ?_
  refine zl_ld (k := 2) C hS (lv_at hl 1 rfl) (lv_at hl 5 rfl) (by omega) (by decide) dL_law_1376 dL_law_1377 dL_law_1379 dL_law_1380 dL_law_1381 ?_
  have hP0 := zk_Pperm hP (List.perm_append_comm_assoc _ _ _)
  have hD0 := zk_Dperm hD (List.perm_append_comm_assoc _ _ _)
  refine zk_callI (va_runV (As := [.int (xs (4 * j + 1)), .int (xs (4 * j + 2))]) (rest := []) ⟨hx, hb, hml, hown, hts⟩ (c_X6_set l G b rf (nI tn) cn sp ou hh.2.1 K n t (rK (wR hw)) D (xs (4 * j + 1)) (xs (4 * j + 2)) _) (cwV 2 hts gL_law_X6_set rfl rfl rfl (by decide +kernel) ⟨Nat.le_of_ble_eq_true rfl, Nat.le_of_ble_eq_true rfl⟩) (zk_preV hE hA0 hS (zk_Papp hP0).1 (zk_Dapp hD0).1 (va_recv hK hP0 (ci := 5) (q0 := 0) rfl rfl)) rfl rfl hl.1 rfl (lv_room (Nat.le_of_ble_eq_true rfl)) dL_law_1382 ⟨by show cells + 2 + 0 ≤ 601024; omega, by show slots + 12 + 0 ≤ 7293034; omega⟩) hP0 hD0 hS hA (fun r2 vm H locs hM hP hD hS => ?_)
  obtain ⟨⟨hk, hans⟩, hfin⟩ := zp_set hw hh ⟨by omega, by omega⟩ hL hM
  refine zl_tail (t := 1385) C dL_law_1385 dL_law_1387 dL_law_1388 dL_law_1391 dL_law_1393 dL_law_1398 dL_law_1400 dL_law_1403 dL_law_1404 dL_law_1405 dL_law_1406 dL_law_1408 dL_law_1409 dL_law_1410 dL_law_1415 (by decide) ⟨by show cells + 2 + 0 ≤ 601024; omega, by show slots + 12 + 0 ≤ 7293034; omega⟩ hl (zk_Pperm hP (zlt _ _ _ _ _)) (zk_Dperm hD (zlt _ _ _ _ _)) hS hk hans (fun H locs ls hP hD hS hl => ?_)
  refine W.widen (k := cells + 4) (n := slots + 24) (by show cells + 2 + 0 ≤ cells + 4; omega) (by show slots + 12 + 0 ≤ slots + 24; omega) ?_
  refine done H locs ls ?_ hl
  rw [zlB_s] at hfin
  obtain ⟨_ | v0, f1⟩ := u
  · obtain ⟨⟨hh2, ec⟩, n2, t2, hw2⟩ := hfin
    have hP : va_P G.1 vwCl (zb_6 G b vm.1 (nI tn) (nI vm.2.1.1) sp ou ++ (zb_o G q f1 ++ ((zb_r G (b 2) vm.2.2 ++ zb_d G (b 4) vm.2.1.2) ++ ((zb_5 G a ++ (zb_L G a.2.2.1 L ++ (zb_M G a.2.2.1 L ++ zb_H G a.2.2.2.2.1.1 a.2.2.2.2.1.2.1 a.2.2.2.2.1.2.2 S (nI o) (nI cn)))) ++ (zb_T G a.2.1 T ++ (zb_L G a.2.2.2.1 Z ++ (zb_M G a.2.2.2.1 Z ++ (zb_S G a sv ++ (zb_P G a.2.2.2.2.2.2.2 SL 2 ++ (zb_a G (b 1) 120 ch ++ (zb_r G (b 3) Y ++ (zb_k G (b 5) SK ++ zb_f G (b 6) sk)))))))))))) H := hP
    have hD : va_D (zlA s) (zb_6 G b vm.1 (nI tn) (nI vm.2.1.1) sp ou ++ (zb_o G q f1 ++ ((zb_r G (b 2) vm.2.2 ++ zb_d G (b 4) vm.2.1.2) ++ ((zb_5 G a ++ (zb_L G a.2.2.1 L ++ (zb_M G a.2.2.1 L ++ zb_H G a.2.2.2.2.1.1 a.2.2.2.2.1.2.1 a.2.2.2.2.1.2.2 S (nI o) (nI cn)))) ++ (zb_T G a.2.1 T ++ (zb_L G a.2.2.2.1 Z ++ (zb_M G a.2.2.2.1 Z ++ (zb_S G a sv ++ (zb_P G a.2.2.2.2.2.2.2 SL 2 ++ (zb_a G (b 1) 120 ch ++ (zb_r G (b 3) Y ++ (zb_k G (b 5) SK ++ zb_f G (b 6) sk)))))))))))) := hD
    rw [ec] at hP hD
    exact ⟨f1, T, L, Z, sv, SL, S, o, cn, vm.1, tn, sp, ou, ch, vm.2.2, Y, vm.2.1.2, SK, sk, n2, t2, ⟨hw2, hh2, slot_mono hsl hB1, htx⟩, zk_Pperm hP (zlf_a _ _ _ _ _ _ _ _ _ _ _ _ _ _ _ _ _), zk_Dperm hD (zlf_a _ _ _ _ _ _ _ _ _ _ _ _ _ _ _ _ _), hS⟩
  · obtain ⟨⟨hh2, ec⟩, n2, t2, hw2⟩ := hfin
    have hP : va_P G.1 vwCl (zb_6 G b vm.1 (nI tn) (nI vm.2.1.1) sp ou ++ (zb_o G q f1 ++ ((zb_r G (b 2) vm.2.2 ++ zb_d G (b 4) vm.2.1.2) ++ ((zb_5 G a ++ (zb_L G a.2.2.1 v0.2 ++ (zb_M G a.2.2.1 v0.2 ++ zb_H G a.2.2.2.2.1.1 a.2.2.2.2.1.2.1 a.2.2.2.2.1.2.2 v0.1.2.2 (nI v0.1.1) (nI v0.1.2.1)))) ++ (zb_T G a.2.1 T ++ (zb_L G a.2.2.2.1 Z ++ (zb_M G a.2.2.2.1 Z ++ (zb_S G a sv ++ (zb_P G a.2.2.2.2.2.2.2 SL 2 ++ (zb_a G (b 1) 120 ch ++ (zb_r G (b 3) Y ++ (zb_k G (b 5) SK ++ zb_f G (b 6) sk)))))))))))) H := hP
    have hD : va_D (zlA s) (zb_6 G b vm.1 (nI tn) (nI vm.2.1.1) sp ou ++ (zb_o G q f1 ++ ((zb_r G (b 2) vm.2.2 ++ zb_d G (b 4) vm.2.1.2) ++ ((zb_5 G a ++ (zb_L G a.2.2.1 v0.2 ++ (zb_M G a.2.2.1 v0.2 ++ zb_H G a.2.2.2.2.1.1 a.2.2.2.2.1.2.1 a.2.2.2.2.1.2.2 v0.1.2.2 (nI v0.1.1) (nI v0.1.2.1)))) ++ (zb_T G a.2.1 T ++ (zb_L G a.2.2.2.1 Z ++ (zb_M G a.2.2.2.1 Z ++ (zb_S G a sv ++ (zb_P G a.2.2.2.2.2.2.2 SL 2 ++ (zb_a G (b 1) 120 ch ++ (zb_r G (b 3) Y ++ (zb_k G (b 5) SK ++ zb_f G (b 6) sk)))))))))))) := hD
    rw [ec] at hP hD
    exact ⟨f1, T, v0.2, Z, sv, SL, v0.1.2.2, v0.1.1, v0.1.2.1, vm.1, tn, sp, ou, ch, vm.2.2, Y, vm.2.1.2, SK, sk, n2, t2, ⟨hw2, hh2, slot_mono hsl hB1, htx⟩, zk_Pperm hP (zlf_a _ _ _ _ _ _ _ _ _ _ _ _ _ _ _ _ _), zk_Dperm hD (zlf_a _ _ _ _ _ _ _ _ _ _ _ _ _ _ _ _ _), hS⟩
