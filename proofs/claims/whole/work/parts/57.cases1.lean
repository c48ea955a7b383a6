/-! cases of the law -/
theorem zlp_clearText {α : Type} (f0 f1 f2 f3 f4 f5 f6 f7 f8 f9 f10 f11 f12 f13 f14 f15 f16 : List α) : (f0 ++ (f1 ++ (f2 ++ (f3 ++ (f4 ++ (f5 ++ (f6 ++ (f7 ++ (f8 ++ (f9 ++ (f10 ++ (f11 ++ (f12 ++ (f13 ++ (f14 ++ (f15 ++ f16)))))))))))))))).Perm ((f1 ++ f2) ++ ((f10) ++ (f0 ++ (f3 ++ (f4 ++ (f5 ++ (f6 ++ (f7 ++ (f8 ++ (f9 ++ (f11 ++ (f12 ++ (f13 ++ (f14 ++ (f15 ++ f16))))))))))))))) := by
  classical
  rw [List.perm_iff_count]
  intro x
  simp only [List.count_append]
  omega
theorem zlf_clearText {α : Type} (f0 f1 f2 f3 f4 f5 f6 f7 f8 f9 f10 f11 f12 f13 f14 f15 f16 : List α) : ((f10) ++ ((f1 ++ f2) ++ (f0 ++ (f3 ++ (f4 ++ (f5 ++ (f6 ++ (f7 ++ (f8 ++ (f9 ++ (f11 ++ (f12 ++ (f13 ++ (f14 ++ (f15 ++ f16))))))))))))))).Perm (f0 ++ (f1 ++ (f2 ++ (f3 ++ (f4 ++ (f5 ++ (f6 ++ (f7 ++ (f8 ++ (f9 ++ (f10 ++ (f11 ++ (f12 ++ (f13 ++ (f14 ++ (f15 ++ f16)))))))))))))))) := by
  classical
  rw [List.perm_iff_count]
  intro x
  simp only [List.count_append]
  omega
set_option maxHeartbeats 4000000 in
set_option maxRecDepth 100000 in
theorem zl_c1 {p : Program} {l : Launch} {e : Env} {s : State} {m : MethodId} {below : List Frame} {meth : Method} {c : Code} {H : Heap} {locs : List Loc} {cells slots : Nat} {Q : State → Prop} {bs Ls : Nat} {xs : Nat → Int32} {ls : Array Slot} {G : zk_G} {a : zA} {b : Nat → Nat} {q j : Nat} (C : zlC p l s m meth c bs Ls xs G) (hj : j < 512) (hJ : 4 * j + 4 ≤ Ls) (hcs : cells + 4 ≤ 601024 ∧ slots + 24 ≤ 7293034) (hS : zlS G s a b q j H locs) (hl : lv_has ls 7 [(0, .ref bs), (1, .ref a.1), (2, .ref (b 0)), (3, .ref q), (4, .int (nI (4 * j)))])
    (done : ∀ (H1 : Heap) (locs1 : List Loc) (ls1 : Array Slot), zlS G s a b q (j + 1) H1 locs1 → lv_has ls1 7 [(0, .ref bs), (1, .ref a.1), (2, .ref (b 0)), (3, .ref q), (4, .int (nI (4 * j)))] → W p l e room_1 s m #[.ref bs] below meth c H1 locs1 (cells + 4) (slots + 24) Q (F0 m 2035 ls1 [])) :
    W p l e room_1 s m #[.ref bs] below meth c H locs cells slots Q (F0 m 228 ls []) := by
  obtain ⟨hst, ⟨hx, hb, hr, hml, hown, hts, hX, hbl, hlocks, hgv⟩, hLs, hE, hN⟩ := id C
  have hown : s.vm.findClass RL = some m.cls := hown
  have hK := hE.1
  have hA : ∀ q : Nat, s.heap.size ≤ q → zlA s q := fun _ h => h
  have hA0 : ∀ q : Nat, zlA s q → G.2.2.1 ≤ q := fun q h => Nat.le_trans hE.2.2.2.2 h
  have hB1 := zlB_1 j
  have hBl := zlB_lo j
  have hBh := zlB_hi hj
  obtain ⟨fo, T, L, Z, sv, SL, S, o, cn, rf, tn, sp, ou, ch, K, Y, D, SK, sk, n, t, ⟨hw, hh, hsl, htx⟩, hP, hD, hS⟩ := hS
  obtain ⟨⟨po, hT⟩, hch⟩ := id htx
  unfold zlW at hP hD
  refine lv_aload_n hx hb dL_law_228 rfl (lv_at hl 1 rfl) ?_
  have hP0 : va_P G.1 vwCl ((zb_5 G a ++ zb_T G a.2.1 T) ++ ((zb_6 G b rf (nI tn) (nI cn) sp ou) ++ (zb_o G q fo ++ (zb_L G a.2.2.1 L ++ (zb_M G a.2.2.1 L ++ (zb_L G a.2.2.2.1 Z ++ (zb_M G a.2.2.2.1 Z ++ (zb_S G a sv ++ (zb_P G a.2.2.2.2.2.2.2 SL 2 ++ (zb_H G a.2.2.2.2.1.1 a.2.2.2.2.1.2.1 a.2.2.2.2.1.2.2 S (nI o) (nI cn) ++ (zb_a G (b 1) 120 ch ++ (zb_r G (b 2) K ++ (zb_r G (b 3) Y ++ (zb_d G (b 4) D ++ (zb_k G (b 5) SK ++ zb_f G (b 6) sk))))))))))))))) H := zk_Pperm hP (zlp_clearText _ _ _ _ _ _ _ _ _ _ _ _ _ _ _ _ _)
  have hD0 : va_D (zlA s) ((zb_5 G a ++ zb_T G a.2.1 T) ++ ((zb_6 G b rf (nI tn) (nI cn) sp ou) ++ (zb_o G q fo ++ (zb_L G a.2.2.1 L ++ (zb_M G a.2.2.1 L ++ (zb_L G a.2.2.2.1 Z ++ (zb_M G a.2.2.2.1 Z ++ (zb_S G a sv ++ (zb_P G a.2.2.2.2.2.2.2 SL 2 ++ (zb_H G a.2.2.2.2.1.1 a.2.2.2.2.1.2.1 a.2.2.2.2.1.2.2 S (nI o) (nI cn) ++ (zb_a G (b 1) 120 ch ++ (zb_r G (b 2) K ++ (zb_r G (b 3) Y ++ (zb_d G (b 4) D ++ (zb_k G (b 5) SK ++ zb_f G (b 6) sk))))))))))))))) := zk_Dperm hD (zlp_clearText _ _ _ _ _ _ _ _ _ _ _ _ _ _ _ _ _)
  refine zk_callI (wr := (zb_6 G b rf (nI tn) (nI cn) sp ou) ++ (zb_o G q fo ++ (zb_L G a.2.2.1 L ++ (zb_M G a.2.2.1 L ++ (zb_L G a.2.2.2.1 Z ++ (zb_M G a.2.2.2.1 Z ++ (zb_S G a sv ++ (zb_P G a.2.2.2.2.2.2.2 SL 2 ++ (zb_H G a.2.2.2.2.1.1 a.2.2.2.2.1.2.1 a.2.2.2.2.1.2.2 S (nI o) (nI cn) ++ (zb_a G (b 1) 120 ch ++ (zb_r G (b 2) K ++ (zb_r G (b 3) Y ++ (zb_d G (b 4) D ++ (zb_k G (b 5) SK ++ zb_f G (b 6) sk)))))))))))))) (va_runV (As := []) (rest := []) ⟨hx, hb, hml, hown, hts⟩ (c_X5_clearText l G a T tn po hT _) (cwV 0 hts gL_law_X5_clearText rfl rfl rfl (by decide +kernel) ⟨Nat.le_of_ble_eq_true rfl, Nat.le_of_ble_eq_true rfl⟩) (zk_preV hE hA0 hS (zk_Papp hP0).1 (zk_Dapp hD0).1 (va_recv hK hP0 (ci := 4) (q0 := 0) rfl rfl)) rfl rfl hl.1 rfl (lv_room (Nat.le_of_ble_eq_true rfl)) dL_law_229 ⟨by show cells + 0 ≤ 601024; omega, by show slots + 0 ≤ 7293034; omega⟩) hP0 hD0 hS hA (fun r u H locs hL hP hD hS => ?_)
  refine lv_aload_n hx hb dL_law_232 rfl (lv_at hl 2 rfl) ?_
  have hP0 := zk_Pperm hP (List.perm_append_comm_assoc _ _ _)
  have hD0 := zk_Dperm hD (List.perm_append_comm_assoc _ _ _)
  refine zk_callI (va_runV (As := []) (rest := [.int r]) ⟨hx, hb, hml, hown, hts⟩ (c_X6_clearText l G b rf tn (nI cn) sp ou hT.2.1 _) (cwV 0 hts gL_law_X6_clearText rfl rfl rfl (by decide +kernel) ⟨Nat.le_of_ble_eq_true rfl, Nat.le_of_ble_eq_true rfl⟩) (zk_preV hE hA0 hS (zk_Papp hP0).1 (zk_Dapp hD0).1 (va_recv hK hP0 (ci := 5) (q0 := 0) rfl rfl)) rfl rfl hl.1 rfl (lv_room (Nat.le_of_ble_eq_true rfl)) dL_law_233 ⟨by show cells + 0 + 0 ≤ 601024; omega, by show slots + 0 + 0 ≤ 7293034; omega⟩) hP0 hD0 hS hA (fun r2 vm H locs hM hP hD hS => ?_)
  have hL : r = nI tn ∧ u = up2 T 0 0 (nI 0) := hL
  have hM : r2 = nI tn := hM
  have hans : r = r2 := hL.1.trans hM.symm
  refine lv_icmp_eq (tgt := 2035) hx hb dL_law_236 (by decide) (fun _ => ?_) (fun h => absurd hans h)
  refine W.widen (k := cells + 4) (n := slots + 24) (by show cells + 0 + 0 ≤ cells + 4; omega) (by show slots + 0 + 0 ≤ slots + 24; omega) ?_
  refine done H locs ls ?_ hl
  have hP : va_P G.1 vwCl ((zb_6 G b (nI 0) (nI 0) (nI cn) sp ou) ++ ((zb_5 G a ++ zb_T G a.2.1 u) ++ (zb_o G q fo ++ (zb_L G a.2.2.1 L ++ (zb_M G a.2.2.1 L ++ (zb_L G a.2.2.2.1 Z ++ (zb_M G a.2.2.2.1 Z ++ (zb_S G a sv ++ (zb_P G a.2.2.2.2.2.2.2 SL 2 ++ (zb_H G a.2.2.2.2.1.1 a.2.2.2.2.1.2.1 a.2.2.2.2.1.2.2 S (nI o) (nI cn) ++ (zb_a G (b 1) 120 ch ++ (zb_r G (b 2) K ++ (zb_r G (b 3) Y ++ (zb_d G (b 4) D ++ (zb_k G (b 5) SK ++ zb_f G (b 6) sk))))))))))))))) H := hP
  have hD : va_D (zlA s) ((zb_6 G b (nI 0) (nI 0) (nI cn) sp ou) ++ ((zb_5 G a ++ zb_T G a.2.1 u) ++ (zb_o G q fo ++ (zb_L G a.2.2.1 L ++ (zb_M G a.2.2.1 L ++ (zb_L G a.2.2.2.1 Z ++ (zb_M G a.2.2.2.1 Z ++ (zb_S G a sv ++ (zb_P G a.2.2.2.2.2.2.2 SL 2 ++ (zb_H G a.2.2.2.2.1.1 a.2.2.2.2.1.2.1 a.2.2.2.2.1.2.2 S (nI o) (nI cn) ++ (zb_a G (b 1) 120 ch ++ (zb_r G (b 2) K ++ (zb_r G (b 3) Y ++ (zb_d G (b 4) D ++ (zb_k G (b 5) SK ++ zb_f G (b 6) sk))))))))))))))) := hD
  exact ⟨fo, u, L, Z, sv, SL, S, o, cn, (nI 0), 0, sp, ou, ch, K, Y, D, SK, sk, n, t, ⟨w_mono hw hB1, hist_mono hh hB1, slot_mono hsl hB1, by rw [hL.2]; exact text_clear htx⟩, zk_Pperm hP (zlf_clearText _ _ _ _ _ _ _ _ _ _ _ _ _ _ _ _ _), zk_Dperm hD (zlf_clearText _ _ _ _ _ _ _ _ _ _ _ _ _ _ _ _ _), hS⟩
theorem zlp_errorPosition {α : Type} (f0 f1 f2 f3 f4 f5 f6 f7 f8 f9 f10 f11 f12 f13 f14 f15 f16 : List α) : (f0 ++ (f1 ++ (f2 ++ (f3 ++ (f4 ++ (f5 ++ (f6 ++ (f7 ++ (f8 ++ (f9 ++ (f10 ++ (f11 ++ (f12 ++ (f13 ++ (f14 ++ (f15 ++ f16)))))))))))))))).Perm ((f1 ++ f2) ++ ((f10 ++ (f11 ++ f13)) ++ (f0 ++ (f3 ++ (f4 ++ (f5 ++ (f6 ++ (f7 ++ (f8 ++ (f9 ++ (f12 ++ (f14 ++ (f15 ++ f16))))))))))))) := by
  classical
  rw [List.perm_iff_count]
  intro x
  simp only [List.count_append]
  omega
theorem zlf_errorPosition {α : Type} (f0 f1 f2 f3 f4 f5 f6 f7 f8 f9 f10 f11 f12 f13 f14 f15 f16 : List α) : ((f10 ++ (f11 ++ f13)) ++ ((f1 ++ f2) ++ (f0 ++ (f3 ++ (f4 ++ (f5 ++ (f6 ++ (f7 ++ (f8 ++ (f9 ++ (f12 ++ (f14 ++ (f15 ++ f16))))))))))))).Perm (f0 ++ (f1 ++ (f2 ++ (f3 ++ (f4 ++ (f5 ++ (f6 ++ (f7 ++ (f8 ++ (f9 ++ (f10 ++ (f11 ++ (f12 ++ (f13 ++ (f14 ++ (f15 ++ f16)))))))))))))))) := by
  classical
  rw [List.perm_iff_count]
  intro x
  simp only [List.count_append]
  omega
set_option maxHeartbeats 4000000 in
set_option maxRecDepth 100000 in
theorem zl_c2 {p : Program} {l : Launch} {e : Env} {s : State} {m : MethodId} {below : List Frame} {meth : Method} {c : Code} {H : Heap} {locs : List Loc} {cells slots : Nat} {Q : State → Prop} {bs Ls : Nat} {xs : Nat → Int32} {ls : Array Slot} {G : zk_G} {a : zA} {b : Nat → Nat} {q j : Nat} (C : zlC p l s m meth c bs Ls xs G) (hj : j < 512) (hJ : 4 * j + 4 ≤ Ls) (hcs : cells + 4 ≤ 601024 ∧ slots + 24 ≤ 7293034) (hS : zlS G s a b q j H locs) (hl : lv_has ls 7 [(0, .ref bs), (1, .ref a.1), (2, .ref (b 0)), (3, .ref q), (4, .int (nI (4 * j)))])
    (done : ∀ (H1 : Heap) (locs1 : List Loc) (ls1 : Array Slot), zlS G s a b q (j + 1) H1 locs1 → lv_has ls1 7 [(0, .ref bs), (1, .ref a.1), (2, .ref (b 0)), (3, .ref q), (4, .int (nI (4 * j)))] → W p l e room_1 s m #[.ref bs] below meth c H1 locs1 (cells + 4) (slots + 24) Q (F0 m 2035 ls1 [])) :
    W p l e room_1 s m #[.ref bs] below meth c H locs cells slots Q (F0 m 241 ls []) := by
  obtain ⟨hst, ⟨hx, hb, hr, hml, hown, hts, hX, hbl, hlocks, hgv⟩, hLs, hE, hN⟩ := id C
  have hown : s.vm.findClass RL = some m.cls := hown
  have hK := hE.1
  have hA : ∀ q : Nat, s.heap.size ≤ q → zlA s q := fun _ h => h
  have hA0 : ∀ q : Nat, zlA s q → G.2.2.1 ≤ q := fun q h => Nat.le_trans hE.2.2.2.2 h
  have hB1 := zlB_1 j
  have hBl := zlB_lo j
  have hBh := zlB_hi hj
  obtain ⟨fo, T, L, Z, sv, SL, S, o, cn, rf, tn, sp, ou, ch, K, Y, D, SK, sk, n, t, ⟨hw, hh, hsl, htx⟩, hP, hD, hS⟩ := hS
  obtain ⟨⟨po, hT⟩, hch⟩ := id htx
  unfold zlW at hP hD
  refine lv_aload_n hx hb dL_law_241 rfl (lv_at hl 1 rfl) ?_
  have hP0 : va_P G.1 vwCl ((zb_5 G a ++ zb_T G a.2.1 T) ++ ((zb_6 G b rf (nI tn) (nI cn) sp ou ++ (zb_a G (b 1) 120 ch ++ zb_r G (b 3) Y)) ++ (zb_o G q fo ++ (zb_L G a.2.2.1 L ++ (zb_M G a.2.2.1 L ++ (zb_L G a.2.2.2.1 Z ++ (zb_M G a.2.2.2.1 Z ++ (zb_S G a sv ++ (zb_P G a.2.2.2.2.2.2.2 SL 2 ++ (zb_H G a.2.2.2.2.1.1 a.2.2.2.2.1.2.1 a.2.2.2.2.1.2.2 S (nI o) (nI cn) ++ (zb_r G (b 2) K ++ (zb_d G (b 4) D ++ (zb_k G (b 5) SK ++ zb_f G (b 6) sk))))))))))))) H := zk_Pperm hP (zlp_errorPosition _ _ _ _ _ _ _ _ _ _ _ _ _ _ _ _ _)
  have hD0 : va_D (zlA s) ((zb_5 G a ++ zb_T G a.2.1 T) ++ ((zb_6 G b rf (nI tn) (nI cn) sp ou ++ (zb_a G (b 1) 120 ch ++ zb_r G (b 3) Y)) ++ (zb_o G q fo ++ (zb_L G a.2.2.1 L ++ (zb_M G a.2.2.1 L ++ (zb_L G a.2.2.2.1 Z ++ (zb_M G a.2.2.2.1 Z ++ (zb_S G a sv ++ (zb_P G a.2.2.2.2.2.2.2 SL 2 ++ (zb_H G a.2.2.2.2.1.1 a.2.2.2.2.1.2.1 a.2.2.2.2.1.2.2 S (nI o) (nI cn) ++ (zb_r G (b 2) K ++ (zb_d G (b 4) D ++ (zb_k G (b 5) SK ++ zb_f G (b 6) sk))))))))))))) := zk_Dperm hD (zlp_errorPosition _ _ _ _ _ _ _ _ _ _ _ _ _ _ _ _ _)
  refine zk_callI (wr := (zb_6 G b rf (nI tn) (nI cn) sp ou ++ (zb_a G (b 1) 120 ch ++ zb_r G (b 3) Y)) ++ (zb_o G q fo ++ (zb_L G a.2.2.1 L ++ (zb_M G a.2.2.1 L ++ (zb_L G a.2.2.2.1 Z ++ (zb_M G a.2.2.2.1 Z ++ (zb_S G a sv ++ (zb_P G a.2.2.2.2.2.2.2 SL 2 ++ (zb_H G a.2.2.2.2.1.1 a.2.2.2.2.1.2.1 a.2.2.2.2.1.2.2 S (nI o) (nI cn) ++ (zb_r G (b 2) K ++ (zb_d G (b 4) D ++ (zb_k G (b 5) SK ++ zb_f G (b 6) sk)))))))))))) (va_runV (As := []) (rest := []) ⟨hx, hb, hml, hown, hts⟩ (c_X5_errorPosition l G a T tn po hT _) (cwV 0 hts gL_law_X5_errorPosition rfl rfl rfl (by decide +kernel) ⟨Nat.le_of_ble_eq_true rfl, Nat.le_of_ble_eq_true rfl⟩) (zk_preV hE hA0 hS (zk_Papp hP0).1 (zk_Dapp hD0).1 (va_recv hK hP0 (ci := 4) (q0 := 0) rfl rfl)) rfl rfl hl.1 rfl (lv_room (Nat.le_of_ble_eq_true rfl)) dL_law_242 ⟨by show cells + 0 ≤ 601024; omega, by show slots + 0 ≤ 7293034; omega⟩) hP0 hD0 hS hA (fun r u H locs hL hP hD hS => ?_)
  refine lv_aload_n hx hb dL_law_245 rfl (lv_at hl 2 rfl) ?_
  have hP0 := zk_Pperm hP (List.perm_append_comm_assoc _ _ _)
  have hD0 := zk_Dperm hD (List.perm_append_comm_assoc _ _ _)
  refine zk_callI (va_runV (As := []) (rest := [.int r]) ⟨hx, hb, hml, hown, hts⟩ (c_X6_errorPosition l G b rf tn (nI cn) sp ou hT.2.1 ch Y _) (cwV 0 hts gL_law_X6_errorPosition rfl rfl rfl (by decide +kernel) ⟨Nat.le_of_ble_eq_true rfl, Nat.le_of_ble_eq_true rfl⟩) (zk_preV hE hA0 hS (zk_Papp hP0).1 (zk_Dapp hD0).1 (va_recv hK hP0 (ci := 5) (q0 := 0) rfl rfl)) rfl rfl hl.1 rfl (lv_room (Nat.le_of_ble_eq_true rfl)) dL_law_246 ⟨by show cells + 0 + 0 ≤ 601024; omega, by show slots + 0 + 0 ≤ 7293034; omega⟩) hP0 hD0 hS hA (fun r2 vm H locs hM hP hD hS => ?_)
  have hL : r = (if (tEr T tn).1 = true then -1 else nI (tEr T tn).2.1) ∧ u = (tEr T tn).2.2 := hL
  have hM : r2 = (if (kText ch tn).1 = true then -1 else nI (kText ch tn).2.1) ∧ vm = (kText ch tn).2 := hM
  obtain ⟨x1, x2, x3⟩ := text_er htx
  have hans : r = r2 := by rw [hL.1, hM.1, x2, x3]
  refine lv_icmp_eq (tgt := 2035) hx hb dL_law_249 (by decide) (fun _ => ?_) (fun h => absurd hans h)
  refine W.widen (k := cells + 4) (n := slots + 24) (by show cells + 0 + 0 ≤ cells + 4; omega) (by show slots + 0 + 0 ≤ slots + 24; omega) ?_
  refine done H locs ls ?_ hl
  have hP : va_P G.1 vwCl ((zb_6 G b (nI 0) (nI tn) (nI cn) (nI vm.1) vm.2.2 ++ (zb_a G (b 1) 120 ch ++ zb_r G (b 3) vm.2.1)) ++ ((zb_5 G a ++ zb_T G a.2.1 u) ++ (zb_o G q fo ++ (zb_L G a.2.2.1 L ++ (zb_M G a.2.2.1 L ++ (zb_L G a.2.2.2.1 Z ++ (zb_M G a.2.2.2.1 Z ++ (zb_S G a sv ++ (zb_P G a.2.2.2.2.2.2.2 SL 2 ++ (zb_H G a.2.2.2.2.1.1 a.2.2.2.2.1.2.1 a.2.2.2.2.1.2.2 S (nI o) (nI cn) ++ (zb_r G (b 2) K ++ (zb_d G (b 4) D ++ (zb_k G (b 5) SK ++ zb_f G (b 6) sk))))))))))))) H := hP
  have hD : va_D (zlA s) ((zb_6 G b (nI 0) (nI tn) (nI cn) (nI vm.1) vm.2.2 ++ (zb_a G (b 1) 120 ch ++ zb_r G (b 3) vm.2.1)) ++ ((zb_5 G a ++ zb_T G a.2.1 u) ++ (zb_o G q fo ++ (zb_L G a.2.2.1 L ++ (zb_M G a.2.2.1 L ++ (zb_L G a.2.2.2.1 Z ++ (zb_M G a.2.2.2.1 Z ++ (zb_S G a sv ++ (zb_P G a.2.2.2.2.2.2.2 SL 2 ++ (zb_H G a.2.2.2.2.1.1 a.2.2.2.2.1.2.1 a.2.2.2.2.1.2.2 S (nI o) (nI cn) ++ (zb_r G (b 2) K ++ (zb_d G (b 4) D ++ (zb_k G (b 5) SK ++ zb_f G (b 6) sk))))))))))))) := hD
  exact ⟨fo, u, L, Z, sv, SL, S, o, cn, (nI 0), tn, nI vm.1, vm.2.2, ch, K, vm.2.1, D, SK, sk, n, t, ⟨w_mono hw hB1, hist_mono hh hB1, slot_mono hsl hB1, by rw [hL.2]; exact x1⟩, zk_Pperm hP (zlf_errorPosition _ _ _ _ _ _ _ _ _ _ _ _ _ _ _ _ _), zk_Dperm hD (zlf_errorPosition _ _ _ _ _ _ _ _ _ _ _ _ _ _ _ _ _), hS⟩
theorem zlp_bestEntitled {α : Type} (f0 f1 f2 f3 f4 f5 f6 f7 f8 f9 f10 f11 f12 f13 f14 f15 f16 : List α) : (f0 ++ (f1 ++ (f2 ++ (f3 ++ (f4 ++ (f5 ++ (f6 ++ (f7 ++ (f8 ++ (f9 ++ (f10 ++ (f11 ++ (f12 ++ (f13 ++ (f14 ++ (f15 ++ f16)))))))))))))))).Perm ((f1 ++ (f3 ++ (f4 ++ (f5 ++ f6)))) ++ ((f10 ++ (f12 ++ f13)) ++ (f0 ++ (f2 ++ (f7 ++ (f8 ++ (f9 ++ (f11 ++ (f14 ++ (f15 ++ f16)))))))))) := by
  classical
  rw [List.perm_iff_count]
  intro x
  simp only [List.count_append]
  omega
theorem zlf_bestEntitled {α : Type} (f0 f1 f2 f3 f4 f5 f6 f7 f8 f9 f10 f11 f12 f13 f14 f15 f16 : List α) : ((f10 ++ (f12 ++ f13)) ++ ((f1 ++ (f3 ++ (f4 ++ (f5 ++ f6)))) ++ (f0 ++ (f2 ++ (f7 ++ (f8 ++ (f9 ++ (f11 ++ (f14 ++ (f15 ++ f16)))))))))).Perm (f0 ++ (f1 ++ (f2 ++ (f3 ++ (f4 ++ (f5 ++ (f6 ++ (f7 ++ (f8 ++ (f9 ++ (f10 ++ (f11 ++ (f12 ++ (f13 ++ (f14 ++ (f15 ++ f16)))))))))))))))) := by
  classical
  rw [List.perm_iff_count]
  intro x
  simp only [List.count_append]
  omega
set_option maxHeartbeats 4000000 in
set_option maxRecDepth 100000 in
theorem zl_c25 {p : Program} {l : Launch} {e : Env} {s : State} {m : MethodId} {below : List Frame} {meth : Method} {c : Code} {H : Heap} {locs : List Loc} {cells slots : Nat} {Q : State → Prop} {bs Ls : Nat} {xs : Nat → Int32} {ls : Array Slot} {G : zk_G} {a : zA} {b : Nat → Nat} {q j : Nat} (C : zlC p l s m meth c bs Ls xs G) (hj : j < 512) (hJ : 4 * j + 4 ≤ Ls) (hcs : cells + 4 ≤ 601024 ∧ slots + 24 ≤ 7293034) (hS : zlS G s a b q j H locs) (hl : lv_has ls 7 [(0, .ref bs), (1, .ref a.1), (2, .ref (b 0)), (3, .ref q), (4, .int (nI (4 * j)))])
    (done : ∀ (H1 : Heap) (locs1 : List Loc) (ls1 : Array Slot), zlS G s a b q (j + 1) H1 locs1 → lv_has ls1 7 [(0, .ref bs), (1, .ref a.1), (2, .ref (b 0)), (3, .ref q), (4, .int (nI (4 * j)))] → W p l e room_1 s m #[.ref bs] below meth c H1 locs1 (cells + 4) (slots + 24) Q (F0 m 2035 ls1 [])) :
    W p l e room_1 s m #[.ref bs] below meth c H locs cells slots Q (F0 m 1710 ls []) := by
  obtain ⟨hst, ⟨hx, hb, hr, hml, hown, hts, hX, hbl, hlocks, hgv⟩, hLs, hE, hN⟩ := id C
  have hown : s.vm.findClass RL = some m.cls := hown
  have hK := hE.1
  have hA : ∀ q : Nat, s.heap.size ≤ q → zlA s q := fun _ h => h
  have hA0 : ∀ q : Nat, zlA s q → G.2.2.1 ≤ q := fun q h => Nat.le_trans hE.2.2.2.2 h
  have hB1 := zlB_1 j
  have hBl := zlB_lo j
  have hBh := zlB_hi hj
  obtain ⟨fo, T, L, Z, sv, SL, S, o, cn, rf, tn, sp, ou, ch, K, Y, D, SK, sk, n, t, ⟨hw, hh, hsl, htx⟩, hP, hD, hS⟩ := hS
  obtain ⟨⟨po, hT⟩, hch⟩ := id htx
  unfold zlW at hP hD
  refine lv_aload_n hx hb dL_law_1710 rfl (lv_at hl 1 rfl) ?_
  have hP0 : va_P G.1 vwCl ((zb_5 G a ++ (zb_L G a.2.2.1 L ++ (zb_M G a.2.2.1 L ++ (zb_L G a.2.2.2.1 Z ++ zb_M G a.2.2.2.1 Z)))) ++ ((zb_6 G b rf (nI tn) (nI cn) sp ou ++ (zb_r G (b 2) K ++ zb_r G (b 3) Y)) ++ (zb_o G q fo ++ (zb_T G a.2.1 T ++ (zb_S G a sv ++ (zb_P G a.2.2.2.2.2.2.2 SL 2 ++ (zb_H G a.2.2.2.2.1.1 a.2.2.2.2.1.2.1 a.2.2.2.2.1.2.2 S (nI o) (nI cn) ++ (zb_a G (b 1) 120 ch ++ (zb_d G (b 4) D ++ (zb_k G (b 5) SK ++ zb_f G (b 6) sk)))))))))) H := zk_Pperm hP (zlp_bestEntitled _ _ _ _ _ _ _ _ _ _ _ _ _ _ _ _ _)
  have hD0 : va_D (zlA s) ((zb_5 G a ++ (zb_L G a.2.2.1 L ++ (zb_M G a.2.2.1 L ++ (zb_L G a.2.2.2.1 Z ++ zb_M G a.2.2.2.1 Z)))) ++ ((zb_6 G b rf (nI tn) (nI cn) sp ou ++ (zb_r G (b 2) K ++ zb_r G (b 3) Y)) ++ (zb_o G q fo ++ (zb_T G a.2.1 T ++ (zb_S G a sv ++ (zb_P G a.2.2.2.2.2.2.2 SL 2 ++ (zb_H G a.2.2.2.2.1.1 a.2.2.2.2.1.2.1 a.2.2.2.2.1.2.2 S (nI o) (nI cn) ++ (zb_a G (b 1) 120 ch ++ (zb_d G (b 4) D ++ (zb_k G (b 5) SK ++ zb_f G (b 6) sk)))))))))) := zk_Dperm hD (zlp_bestEntitled _ _ _ _ _ _ _ _ _ _ _ _ _ _ _ _ _)
  refine zk_callI (wr := (zb_6 G b rf (nI tn) (nI cn) sp ou ++ (zb_r G (b 2) K ++ zb_r G (b 3) Y)) ++ (zb_o G q fo ++ (zb_T G a.2.1 T ++ (zb_S G a sv ++ (zb_P G a.2.2.2.2.2.2.2 SL 2 ++ (zb_H G a.2.2.2.2.1.1 a.2.2.2.2.1.2.1 a.2.2.2.2.1.2.2 S (nI o) (nI cn) ++ (zb_a G (b 1) 120 ch ++ (zb_d G (b 4) D ++ (zb_k G (b 5) SK ++ zb_f G (b 6) sk))))))))) (va_runV (As := []) (rest := []) ⟨hx, hb, hml, hown, hts⟩ (c_X5_bestEntitled l G a L n t (rL (wR hw)) Z _) (cwV 0 hts gL_law_X5_bestEntitled rfl rfl rfl (by decide +kernel) ⟨Nat.le_of_ble_eq_true rfl, Nat.le_of_ble_eq_true rfl⟩) (zk_preV hE hA0 hS (zk_Papp hP0).1 (zk_Dapp hD0).1 (va_recv hK hP0 (ci := 4) (q0 := 0) rfl rfl)) rfl rfl hl.1 rfl (lv_room (Nat.le_of_ble_eq_true rfl)) dL_law_1711 ⟨by show cells + 0 ≤ 601024; omega, by show slots + 0 ≤ 7293034; omega⟩) hP0 hD0 hS hA (fun r u H locs hL hP hD hS => ?_)
  refine lv_aload_n hx hb dL_law_1714 rfl (lv_at hl 2 rfl) ?_
  have hP0 := zk_Pperm hP (List.perm_append_comm_assoc _ _ _)
  have hD0 := zk_Dperm hD (List.perm_append_comm_assoc _ _ _)
  refine zk_callI (va_runV (As := []) (rest := [.int r]) ⟨hx, hb, hml, hown, hts⟩ (c_X6_bestEntitled l G b rf (nI tn) (nI cn) sp ou K n t (rK (wR hw)) (rP (wR hw)) Y _) (cwV 0 hts gL_law_X6_bestEntitled rfl rfl rfl (by decide +kernel) ⟨Nat.le_of_ble_eq_true rfl, Nat.le_of_ble_eq_true rfl⟩) (zk_preV hE hA0 hS (zk_Papp hP0).1 (zk_Dapp hD0).1 (va_recv hK hP0 (ci := 5) (q0 := 0) rfl rfl)) rfl rfl hl.1 rfl (lv_room (Nat.le_of_ble_eq_true rfl)) dL_law_1715 ⟨by show cells + 0 + 0 ≤ 601024; omega, by show slots + 0 + 0 ≤ 7293034; omega⟩) hP0 hD0 hS hA (fun r2 vm H locs hM hP hD hS => ?_)
  have hL : r = (sBest L n t n).1 := hL
  have hM : r2 = (kBest K n t n).1 ∧ vm.1 = 0 := hM
  have hans : r = r2 := by rw [hL, hM.1]; exact q_best (wR hw)
  refine lv_icmp_eq (tgt := 2035) hx hb dL_law_1718 (by decide) (fun _ => ?_) (fun h => absurd hans h)
  refine W.widen (k := cells + 4) (n := slots + 24) (by show cells + 0 + 0 ≤ cells + 4; omega) (by show slots + 0 + 0 ≤ slots + 24; omega) ?_
  refine done H locs ls ?_ hl
  have hP : va_P G.1 vwCl ((zb_6 G b vm.1 (nI tn) (nI cn) sp ou ++ (zb_r G (b 2) K ++ zb_r G (b 3) vm.2)) ++ ((zb_5 G a ++ (zb_L G a.2.2.1 L ++ (zb_M G a.2.2.1 L ++ (zb_L G a.2.2.2.1 u ++ zb_M G a.2.2.2.1 u)))) ++ (zb_o G q fo ++ (zb_T G a.2.1 T ++ (zb_S G a sv ++ (zb_P G a.2.2.2.2.2.2.2 SL 2 ++ (zb_H G a.2.2.2.2.1.1 a.2.2.2.2.1.2.1 a.2.2.2.2.1.2.2 S (nI o) (nI cn) ++ (zb_a G (b 1) 120 ch ++ (zb_d G (b 4) D ++ (zb_k G (b 5) SK ++ zb_f G (b 6) sk)))))))))) H := hP
  have hD : va_D (zlA s) ((zb_6 G b vm.1 (nI tn) (nI cn) sp ou ++ (zb_r G (b 2) K ++ zb_r G (b 3) vm.2)) ++ ((zb_5 G a ++ (zb_L G a.2.2.1 L ++ (zb_M G a.2.2.1 L ++ (zb_L G a.2.2.2.1 u ++ zb_M G a.2.2.2.1 u)))) ++ (zb_o G q fo ++ (zb_T G a.2.1 T ++ (zb_S G a sv ++ (zb_P G a.2.2.2.2.2.2.2 SL 2 ++ (zb_H G a.2.2.2.2.1.1 a.2.2.2.2.1.2.1 a.2.2.2.2.1.2.2 S (nI o) (nI cn) ++ (zb_a G (b 1) 120 ch ++ (zb_d G (b 4) D ++ (zb_k G (b 5) SK ++ zb_f G (b 6) sk)))))))))) := hD
  exact ⟨fo, T, L, u, sv, SL, S, o, cn, vm.1, tn, sp, ou, ch, K, vm.2, D, SK, sk, n, t, ⟨w_mono hw hB1, hist_mono hh hB1, slot_mono hsl hB1, htx⟩, zk_Pperm hP (zlf_bestEntitled _ _ _ _ _ _ _ _ _ _ _ _ _ _ _ _ _), zk_Dperm hD (zlf_bestEntitled _ _ _ _ _ _ _ _ _ _ _ _ _ _ _ _ _), hS⟩
