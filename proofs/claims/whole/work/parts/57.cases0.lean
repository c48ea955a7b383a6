/-! Worlds in the order of a call's pieces. -/
theorem zlp_T {α : Type} (f0 f1 f2 f3 f4 f5 f6 f7 f8 f9 f10 f11 f12 f13 f14 f15 f16 : List α) : (f0 ++ (f1 ++ (f2 ++ (f3 ++ (f4 ++ (f5 ++ (f6 ++ (f7 ++ (f8 ++ (f9 ++ (f10 ++ (f11 ++ (f12 ++ (f13 ++ (f14 ++ (f15 ++ f16)))))))))))))))).Perm ((f0 ++ (f1 ++ f2)) ++ ((f10 ++ f11) ++ (f3 ++ (f4 ++ (f5 ++ (f6 ++ (f7 ++ (f8 ++ (f9 ++ (f12 ++ (f13 ++ (f14 ++ (f15 ++ f16))))))))))))) := by
  classical
  rw [List.perm_iff_count]
  intro x
  simp only [List.count_append]
  omega
theorem zlf_T {α : Type} (f0 f1 f2 f3 f4 f5 f6 f7 f8 f9 f10 f11 f12 f13 f14 f15 f16 : List α) : (f10 ++ (f0 ++ (f11 ++ ((f1 ++ f2) ++ (f3 ++ (f4 ++ (f5 ++ (f6 ++ (f7 ++ (f8 ++ (f9 ++ (f12 ++ (f13 ++ (f14 ++ (f15 ++ f16))))))))))))))).Perm (f0 ++ (f1 ++ (f2 ++ (f3 ++ (f4 ++ (f5 ++ (f6 ++ (f7 ++ (f8 ++ (f9 ++ (f10 ++ (f11 ++ (f12 ++ (f13 ++ (f14 ++ (f15 ++ f16)))))))))))))))) := by
  classical
  rw [List.perm_iff_count]
  intro x
  simp only [List.count_append]
  omega
theorem zlp_load {α : Type} (f0 f1 f2 f3 f4 f5 f6 f7 f8 f9 f10 f11 f12 f13 f14 f15 f16 : List α) : (f0 ++ (f1 ++ (f2 ++ (f3 ++ (f4 ++ (f5 ++ (f6 ++ (f7 ++ (f8 ++ (f9 ++ (f10 ++ (f11 ++ (f12 ++ (f13 ++ (f14 ++ (f15 ++ f16)))))))))))))))).Perm ((f0 ++ (f1 ++ (f2 ++ (f3 ++ (f4 ++ (f7 ++ f9)))))) ++ ((f10 ++ (f11 ++ (f13 ++ (f12 ++ f16)))) ++ (f5 ++ (f6 ++ (f8 ++ (f14 ++ f15)))))) := by
  classical
  rw [List.perm_iff_count]
  intro x
  simp only [List.count_append]
  omega
theorem zlf_load {α : Type} (f0 f1 f2 f3 f4 f5 f6 f7 f8 f9 f10 f11 f12 f13 f14 f15 f16 : List α) : (f10 ++ (f0 ++ ((f11 ++ (f13 ++ (f12 ++ f16))) ++ ((f1 ++ (f2 ++ (f3 ++ (f4 ++ (f7 ++ f9))))) ++ (f5 ++ (f6 ++ (f8 ++ (f14 ++ f15)))))))).Perm (f0 ++ (f1 ++ (f2 ++ (f3 ++ (f4 ++ (f5 ++ (f6 ++ (f7 ++ (f8 ++ (f9 ++ (f10 ++ (f11 ++ (f12 ++ (f13 ++ (f14 ++ (f15 ++ f16)))))))))))))))) := by
  classical
  rw [List.perm_iff_count]
  intro x
  simp only [List.count_append]
  omega
theorem zlp_q {α : Type} (f0 f1 f2 f3 f4 f5 f6 f7 f8 f9 f10 f11 f12 f13 f14 f15 f16 : List α) : (f0 ++ (f1 ++ (f2 ++ (f3 ++ (f4 ++ (f5 ++ (f6 ++ (f7 ++ (f8 ++ (f9 ++ (f10 ++ (f11 ++ (f12 ++ (f13 ++ (f14 ++ (f15 ++ f16)))))))))))))))).Perm ((f0 ++ (f1 ++ (f3 ++ f4))) ++ ((f10 ++ f12) ++ (f2 ++ (f5 ++ (f6 ++ (f7 ++ (f8 ++ (f9 ++ (f11 ++ (f13 ++ (f14 ++ (f15 ++ f16)))))))))))) := by
  classical
  rw [List.perm_iff_count]
  intro x
  simp only [List.count_append]
  omega
theorem zlf_q {α : Type} (f0 f1 f2 f3 f4 f5 f6 f7 f8 f9 f10 f11 f12 f13 f14 f15 f16 : List α) : (f10 ++ (f0 ++ (f12 ++ ((f1 ++ (f3 ++ f4)) ++ (f2 ++ (f5 ++ (f6 ++ (f7 ++ (f8 ++ (f9 ++ (f11 ++ (f13 ++ (f14 ++ (f15 ++ f16)))))))))))))).Perm (f0 ++ (f1 ++ (f2 ++ (f3 ++ (f4 ++ (f5 ++ (f6 ++ (f7 ++ (f8 ++ (f9 ++ (f10 ++ (f11 ++ (f12 ++ (f13 ++ (f14 ++ (f15 ++ f16)))))))))))))))) := by
  classical
  rw [List.perm_iff_count]
  intro x
  simp only [List.count_append]
  omega
theorem zlp_a {α : Type} (f0 f1 f2 f3 f4 f5 f6 f7 f8 f9 f10 f11 f12 f13 f14 f15 f16 : List α) : (f0 ++ (f1 ++ (f2 ++ (f3 ++ (f4 ++ (f5 ++ (f6 ++ (f7 ++ (f8 ++ (f9 ++ (f10 ++ (f11 ++ (f12 ++ (f13 ++ (f14 ++ (f15 ++ f16)))))))))))))))).Perm ((f0 ++ (f1 ++ (f3 ++ (f4 ++ f9)))) ++ ((f10 ++ (f12 ++ f14)) ++ (f2 ++ (f5 ++ (f6 ++ (f7 ++ (f8 ++ (f11 ++ (f13 ++ (f15 ++ f16)))))))))) := by
  classical
  rw [List.perm_iff_count]
  intro x
  simp only [List.count_append]
  omega
theorem zlf_a {α : Type} (f0 f1 f2 f3 f4 f5 f6 f7 f8 f9 f10 f11 f12 f13 f14 f15 f16 : List α) : (f10 ++ (f0 ++ ((f12 ++ f14) ++ ((f1 ++ (f3 ++ (f4 ++ f9))) ++ (f2 ++ (f5 ++ (f6 ++ (f7 ++ (f8 ++ (f11 ++ (f13 ++ (f15 ++ f16)))))))))))).Perm (f0 ++ (f1 ++ (f2 ++ (f3 ++ (f4 ++ (f5 ++ (f6 ++ (f7 ++ (f8 ++ (f9 ++ (f10 ++ (f11 ++ (f12 ++ (f13 ++ (f14 ++ (f15 ++ f16)))))))))))))))) := by
  classical
  rw [List.perm_iff_count]
  intro x
  simp only [List.count_append]
  omega
theorem zlp_z {α : Type} (f0 f1 f2 f3 f4 f5 f6 f7 f8 f9 f10 f11 f12 f13 f14 f15 f16 : List α) : (f0 ++ (f1 ++ (f2 ++ (f3 ++ (f4 ++ (f5 ++ (f6 ++ (f7 ++ (f8 ++ (f9 ++ (f10 ++ (f11 ++ (f12 ++ (f13 ++ (f14 ++ (f15 ++ f16)))))))))))))))).Perm ((f0 ++ (f1 ++ (f3 ++ (f4 ++ (f5 ++ f6))))) ++ ((f10 ++ (f12 ++ f13)) ++ (f2 ++ (f7 ++ (f8 ++ (f9 ++ (f11 ++ (f14 ++ (f15 ++ f16))))))))) := by
  classical
  rw [List.perm_iff_count]
  intro x
  simp only [List.count_append]
  omega
theorem zlf_z {α : Type} (f0 f1 f2 f3 f4 f5 f6 f7 f8 f9 f10 f11 f12 f13 f14 f15 f16 : List α) : (f10 ++ (f0 ++ ((f12 ++ f13) ++ ((f1 ++ (f3 ++ (f4 ++ (f5 ++ f6)))) ++ (f2 ++ (f7 ++ (f8 ++ (f9 ++ (f11 ++ (f14 ++ (f15 ++ f16))))))))))).Perm (f0 ++ (f1 ++ (f2 ++ (f3 ++ (f4 ++ (f5 ++ (f6 ++ (f7 ++ (f8 ++ (f9 ++ (f10 ++ (f11 ++ (f12 ++ (f13 ++ (f14 ++ (f15 ++ f16)))))))))))))))) := by
  classical
  rw [List.perm_iff_count]
  intro x
  simp only [List.count_append]
  omega
theorem zlp_sv {α : Type} (f0 f1 f2 f3 f4 f5 f6 f7 f8 f9 f10 f11 f12 f13 f14 f15 f16 : List α) : (f0 ++ (f1 ++ (f2 ++ (f3 ++ (f4 ++ (f5 ++ (f6 ++ (f7 ++ (f8 ++ (f9 ++ (f10 ++ (f11 ++ (f12 ++ (f13 ++ (f14 ++ (f15 ++ f16)))))))))))))))).Perm ((f0 ++ (f1 ++ (f3 ++ (f4 ++ (f7 ++ f8))))) ++ ((f10 ++ (f12 ++ (f15 ++ f16))) ++ (f2 ++ (f5 ++ (f6 ++ (f9 ++ (f11 ++ (f13 ++ f14)))))))) := by
  classical
  rw [List.perm_iff_count]
  intro x
  simp only [List.count_append]
  omega
theorem zlf_sv {α : Type} (f0 f1 f2 f3 f4 f5 f6 f7 f8 f9 f10 f11 f12 f13 f14 f15 f16 : List α) : (f10 ++ (f0 ++ ((f12 ++ (f15 ++ f16)) ++ ((f1 ++ (f3 ++ (f4 ++ (f7 ++ f8)))) ++ (f2 ++ (f5 ++ (f6 ++ (f9 ++ (f11 ++ (f13 ++ f14)))))))))).Perm (f0 ++ (f1 ++ (f2 ++ (f3 ++ (f4 ++ (f5 ++ (f6 ++ (f7 ++ (f8 ++ (f9 ++ (f10 ++ (f11 ++ (f12 ++ (f13 ++ (f14 ++ (f15 ++ f16)))))))))))))))) := by
  classical
  rw [List.perm_iff_count]
  intro x
  simp only [List.count_append]
  omega
theorem zlp_re {α : Type} (f0 f1 f2 f3 f4 f5 f6 f7 f8 f9 f10 f11 f12 f13 f14 f15 f16 : List α) : (f0 ++ (f1 ++ (f2 ++ (f3 ++ (f4 ++ (f5 ++ (f6 ++ (f7 ++ (f8 ++ (f9 ++ (f10 ++ (f11 ++ (f12 ++ (f13 ++ (f14 ++ (f15 ++ f16)))))))))))))))).Perm ((f0 ++ (f1 ++ (f3 ++ (f4 ++ (f7 ++ (f8 ++ f9)))))) ++ ((f10 ++ (f12 ++ (f15 ++ f16))) ++ (f2 ++ (f5 ++ (f6 ++ (f11 ++ (f13 ++ f14))))))) := by
  classical
  rw [List.perm_iff_count]
  intro x
  simp only [List.count_append]
  omega
theorem zlf_re {α : Type} (f0 f1 f2 f3 f4 f5 f6 f7 f8 f9 f10 f11 f12 f13 f14 f15 f16 : List α) : (f10 ++ (f0 ++ ((f12 ++ (f15 ++ f16)) ++ ((f1 ++ (f3 ++ (f4 ++ (f7 ++ (f8 ++ f9))))) ++ (f2 ++ (f5 ++ (f6 ++ (f11 ++ (f13 ++ f14))))))))).Perm (f0 ++ (f1 ++ (f2 ++ (f3 ++ (f4 ++ (f5 ++ (f6 ++ (f7 ++ (f8 ++ (f9 ++ (f10 ++ (f11 ++ (f12 ++ (f13 ++ (f14 ++ (f15 ++ f16)))))))))))))))) := by
  classical
  rw [List.perm_iff_count]
  intro x
  simp only [List.count_append]
  omega
theorem zlt {α : Type} (A B C D E : List α) : ((A ++ B) ++ ((C ++ D) ++ E)).Perm (A ++ (C ++ (B ++ (D ++ E)))) := by
  classical
  rw [List.perm_iff_count]
  intro x
  simp only [List.count_append]
  omega
set_option maxHeartbeats 4000000 in
set_option maxRecDepth 100000 in
theorem zl_c0 {p : Program} {l : Launch} {e : Env} {s : State} {m : MethodId} {below : List Frame} {meth : Method} {c : Code} {H : Heap} {locs : List Loc} {cells slots : Nat} {Q : State → Prop} {bs Ls : Nat} {xs : Nat → Int32} {ls : Array Slot} {G : zk_G} {a : zA} {b : Nat → Nat} {q j : Nat} (C : zlC p l s m meth c bs Ls xs G) (hj : j < 512) (hJ : 4 * j + 4 ≤ Ls) (hcs : cells + 4 ≤ 601024 ∧ slots + 24 ≤ 7293034) (hS : zlS G s a b q j H locs) (hl : lv_has ls 7 [(0, .ref bs), (1, .ref a.1), (2, .ref (b 0)), (3, .ref q), (4, .int (nI (4 * j)))])
    (done : ∀ (H1 : Heap) (locs1 : List Loc) (ls1 : Array Slot), zlS G s a b q (j + 1) H1 locs1 → lv_has ls1 7 [(0, .ref bs), (1, .ref a.1), (2, .ref (b 0)), (3, .ref q), (4, .int (nI (4 * j)))] → W p l e room_1 s m #[.ref bs] below meth c H1 locs1 (cells + 4) (slots + 24) Q (F0 m 2035 ls1 [])) :
    W p l e room_1 s m #[.ref bs] below meth c H locs cells slots Q (F0 m 172 ls []) := by
  obtain ⟨hst, ⟨hx, hb, hr, hml, hown, hts, hX, hbl, hlocks, hgv⟩, hLs, hE, hN⟩ := id C
  have hown : s.vm.findClass RL = some m.cls := hown
  have hK := hE.1
  have hA : ∀ q : Nat, s.heap.size ≤ q → zlA s q := fun _ h => h
  have hA0 : ∀ q : Nat, zlA s q → G.2.2.1 ≤ q := fun q h => Nat.le_trans hE.2.2.2.2 h
  have hB1 := zlB_1 j
  have hBl := zlB_lo j
  have hBh := zlB_hi hj
  obtain ⟨fo, T, L, Z, sv, SL, S, o, cn, rf, tn, sp, ou, ch, K, Y, D, SK, sk, n, t, ⟨hw, hh, hsl, htx⟩, hP, hD, hS⟩ := hS
  obtain ⟨⟨po, hT⟩, hch⟩ := id htx
  unfold zlW at hP hD
  refine lv_aload_n hx hb dL_law_172 rfl (lv_at hl 1 rfl) ?_
  refine zl_ld (k := 1) C hS (lv_at hl 0 rfl) (lv_at hl 4 rfl) (by omega) (by decide) dL_law_173 dL_law_174 dL_law_176 dL_law_177 dL_law_178 ?_
  refine lv_aload_n hx hb dL_law_179 rfl (lv_at hl 3 rfl) ?_
  have hP0 : va_P G.1 vwCl ((zb_o G q fo ++ (zb_5 G a ++ zb_T G a.2.1 T)) ++ ((zb_6 G b rf (nI tn) (nI cn) sp ou ++ zb_a G (b 1) 120 ch) ++ (zb_L G a.2.2.1 L ++ (zb_M G a.2.2.1 L ++ (zb_L G a.2.2.2.1 Z ++ (zb_M G a.2.2.2.1 Z ++ (zb_S G a sv ++ (zb_P G a.2.2.2.2.2.2.2 SL 2 ++ (zb_H G a.2.2.2.2.1.1 a.2.2.2.2.1.2.1 a.2.2.2.2.1.2.2 S (nI o) (nI cn) ++ (zb_r G (b 2) K ++ (zb_r G (b 3) Y ++ (zb_d G (b 4) D ++ (zb_k G (b 5) SK ++ zb_f G (b 6) sk))))))))))))) H := zk_Pperm hP (zlp_T _ _ _ _ _ _ _ _ _ _ _ _ _ _ _ _ _)
  have hD0 : va_D (zlA s) ((zb_o G q fo ++ (zb_5 G a ++ zb_T G a.2.1 T)) ++ ((zb_6 G b rf (nI tn) (nI cn) sp ou ++ zb_a G (b 1) 120 ch) ++ (zb_L G a.2.2.1 L ++ (zb_M G a.2.2.1 L ++ (zb_L G a.2.2.2.1 Z ++ (zb_M G a.2.2.2.1 Z ++ (zb_S G a sv ++ (zb_P G a.2.2.2.2.2.2.2 SL 2 ++ (zb_H G a.2.2.2.2.1.1 a.2.2.2.2.1.2.1 a.2.2.2.2.1.2.2 S (nI o) (nI cn) ++ (zb_r G (b 2) K ++ (zb_r G (b 3) Y ++ (zb_d G (b 4) D ++ (zb_k G (b 5) SK ++ zb_f G (b 6) sk))))))))))))) := zk_Dperm hD (zlp_T _ _ _ _ _ _ _ _ _ _ _ _ _ _ _ _ _)
  refine zk_callI (wr := (zb_6 G b rf (nI tn) (nI cn) sp ou ++ zb_a G (b 1) 120 ch) ++ (zb_L G a.2.2.1 L ++ (zb_M G a.2.2.1 L ++ (zb_L G a.2.2.2.1 Z ++ (zb_M G a.2.2.2.1 Z ++ (zb_S G a sv ++ (zb_P G a.2.2.2.2.2.2.2 SL 2 ++ (zb_H G a.2.2.2.2.1.1 a.2.2.2.2.1.2.1 a.2.2.2.2.1.2.2 S (nI o) (nI cn) ++ (zb_r G (b 2) K ++ (zb_r G (b 3) Y ++ (zb_d G (b 4) D ++ (zb_k G (b 5) SK ++ zb_f G (b 6) sk)))))))))))) (vx_runSW (As := [.ref a.1, .int (xs (4 * j + 1)), .ref q]) (rest := []) ⟨hx, hb, hml, hown, hts⟩ (c_L_append l G hst a T tn po hT (xs (4 * j + 1)) q fo _) (vx_cwSW 3 hts gL_law_L_append rfl rfl rfl (by decide +kernel) ⟨Nat.le_of_ble_eq_true rfl, Nat.le_of_ble_eq_true rfl⟩) (zk_preSH hN hE hA0 hS (zk_Papp hP0).1 (zk_Dapp hD0).1) rfl rfl hl.1 rfl (lv_room (Nat.le_of_ble_eq_true rfl)) dL_law_180 ⟨by show cells + 1 ≤ 601024; omega, by show slots + 6 ≤ 7293034; omega⟩) hP0 hD0 hS hA (fun r u H locs hL hP hD hS => ?_)
  refine lv_istore (lv' := [(5, .int r), (0, .ref bs), (1, .ref a.1), (2, .ref (b 0)), (3, .ref q), (4, .int (nI (4 * j)))]) hx hb dL_law_183 hl (by decide) rfl (fun ls hl => ?_)
  refine lv_aload_n hx hb dL_law_185 rfl (lv_at hl 3 rfl) ?_
  refine zl_ld (k := 1) C hS (lv_at hl 1 rfl) (lv_at hl 5 rfl) (by omega) (by decide) dL_law_186 dL_law_187 dL_law_189 dL_law_190 dL_law_191 ?_
  have hP0 := zk_Pperm hP (List.perm_append_comm_assoc _ _ _)
  have hD0 := zk_Dperm hD (List.perm_append_comm_assoc _ _ _)
  refine zk_callI (va_runV (As := [.int (xs (4 * j + 1))]) (rest := []) ⟨hx, hb, hml, hown, hts⟩ (c_X6_append l G b rf tn (nI cn) sp ou hT.2.1 ch (xs (4 * j + 1)) _) (cwV 1 hts gL_law_X6_append rfl rfl rfl (by decide +kernel) ⟨Nat.le_of_ble_eq_true rfl, Nat.le_of_ble_eq_true rfl⟩) (zk_preV hE hA0 hS (zk_Papp hP0).1 (zk_Dapp hD0).1 (va_recv hK hP0 (ci := 5) (q0 := 0) rfl rfl)) rfl rfl hl.1 rfl (lv_room (Nat.le_of_ble_eq_true rfl)) dL_law_192 ⟨by show cells + 1 + 0 ≤ 601024; omega, by show slots + 6 + 0 ≤ 7293034; omega⟩) hP0 hD0 hS hA (fun r2 vm H locs hM hP hD hS => ?_)
  obtain ⟨⟨hk, hans⟩, hfin⟩ := zp_append htx hL hM
  refine zl_tail (t := 195) C dL_law_195 dL_law_197 dL_law_198 dL_law_201 dL_law_203 dL_law_208 dL_law_210 dL_law_213 dL_law_214 dL_law_215 dL_law_216 dL_law_218 dL_law_219 dL_law_220 dL_law_225 (by decide) ⟨by show cells + 1 + 0 ≤ 601024; omega, by show slots + 6 + 0 ≤ 7293034; omega⟩ hl (zk_Pperm hP (zlt _ _ _ _ _)) (zk_Dperm hD (zlt _ _ _ _ _)) hS hk hans (fun H locs ls hP hD hS hl => ?_)
  refine W.widen (k := cells + 4) (n := slots + 24) (by show cells + 1 + 0 ≤ cells + 4; omega) (by show slots + 6 + 0 ≤ slots + 24; omega) ?_
  refine done H locs ls ?_ hl
  obtain ⟨_ | v0, f1⟩ := u
  · have hP : va_P G.1 vwCl (zb_6 G b vm.1 (nI vm.2.1) (nI cn) sp ou ++ (zb_o G q f1 ++ (zb_a G (b 1) 120 vm.2.2 ++ ((zb_5 G a ++ zb_T G a.2.1 T) ++ (zb_L G a.2.2.1 L ++ (zb_M G a.2.2.1 L ++ (zb_L G a.2.2.2.1 Z ++ (zb_M G a.2.2.2.1 Z ++ (zb_S G a sv ++ (zb_P G a.2.2.2.2.2.2.2 SL 2 ++ (zb_H G a.2.2.2.2.1.1 a.2.2.2.2.1.2.1 a.2.2.2.2.1.2.2 S (nI o) (nI cn) ++ (zb_r G (b 2) K ++ (zb_r G (b 3) Y ++ (zb_d G (b 4) D ++ (zb_k G (b 5) SK ++ zb_f G (b 6) sk))))))))))))))) H := hP
    have hD : va_D (zlA s) (zb_6 G b vm.1 (nI vm.2.1) (nI cn) sp ou ++ (zb_o G q f1 ++ (zb_a G (b 1) 120 vm.2.2 ++ ((zb_5 G a ++ zb_T G a.2.1 T) ++ (zb_L G a.2.2.1 L ++ (zb_M G a.2.2.1 L ++ (zb_L G a.2.2.2.1 Z ++ (zb_M G a.2.2.2.1 Z ++ (zb_S G a sv ++ (zb_P G a.2.2.2.2.2.2.2 SL 2 ++ (zb_H G a.2.2.2.2.1.1 a.2.2.2.2.1.2.1 a.2.2.2.2.1.2.2 S (nI o) (nI cn) ++ (zb_r G (b 2) K ++ (zb_r G (b 3) Y ++ (zb_d G (b 4) D ++ (zb_k G (b 5) SK ++ zb_f G (b 6) sk))))))))))))))) := hD
    exact ⟨f1, T, L, Z, sv, SL, S, o, cn, vm.1, vm.2.1, sp, ou, vm.2.2, K, Y, D, SK, sk, n, t, ⟨w_mono hw hB1, hist_mono hh hB1, slot_mono hsl hB1, hfin⟩, zk_Pperm hP (zlf_T _ _ _ _ _ _ _ _ _ _ _ _ _ _ _ _ _), zk_Dperm hD (zlf_T _ _ _ _ _ _ _ _ _ _ _ _ _ _ _ _ _), hS⟩
  · have hP : va_P G.1 vwCl (zb_6 G b vm.1 (nI vm.2.1) (nI cn) sp ou ++ (zb_o G q f1 ++ (zb_a G (b 1) 120 vm.2.2 ++ ((zb_5 G a ++ zb_T G a.2.1 v0) ++ (zb_L G a.2.2.1 L ++ (zb_M G a.2.2.1 L ++ (zb_L G a.2.2.2.1 Z ++ (zb_M G a.2.2.2.1 Z ++ (zb_S G a sv ++ (zb_P G a.2.2.2.2.2.2.2 SL 2 ++ (zb_H G a.2.2.2.2.1.1 a.2.2.2.2.1.2.1 a.2.2.2.2.1.2.2 S (nI o) (nI cn) ++ (zb_r G (b 2) K ++ (zb_r G (b 3) Y ++ (zb_d G (b 4) D ++ (zb_k G (b 5) SK ++ zb_f G (b 6) sk))))))))))))))) H := hP
    have hD : va_D (zlA s) (zb_6 G b vm.1 (nI vm.2.1) (nI cn) sp ou ++ (zb_o G q f1 ++ (zb_a G (b 1) 120 vm.2.2 ++ ((zb_5 G a ++ zb_T G a.2.1 v0) ++ (zb_L G a.2.2.1 L ++ (zb_M G a.2.2.1 L ++ (zb_L G a.2.2.2.1 Z ++ (zb_M G a.2.2.2.1 Z ++ (zb_S G a sv ++ (zb_P G a.2.2.2.2.2.2.2 SL 2 ++ (zb_H G a.2.2.2.2.1.1 a.2.2.2.2.1.2.1 a.2.2.2.2.1.2.2 S (nI o) (nI cn) ++ (zb_r G (b 2) K ++ (zb_r G (b 3) Y ++ (zb_d G (b 4) D ++ (zb_k G (b 5) SK ++ zb_f G (b 6) sk))))))))))))))) := hD
    exact ⟨f1, v0, L, Z, sv, SL, S, o, cn, vm.1, vm.2.1, sp, ou, vm.2.2, K, Y, D, SK, sk, n, t, ⟨w_mono hw hB1, hist_mono hh hB1, slot_mono hsl hB1, hfin⟩, zk_Pperm hP (zlf_T _ _ _ _ _ _ _ _ _ _ _ _ _ _ _ _ _), zk_Dperm hD (zlf_T _ _ _ _ _ _ _ _ _ _ _ _ _ _ _ _ _), hS⟩
set_option maxHeartbeats 4000000 in
set_option maxRecDepth 100000 in
theorem zl_c3 {p : Program} {l : Launch} {e : Env} {s : State} {m : MethodId} {below : List Frame} {meth : Method} {c : Code} {H : Heap} {locs : List Loc} {cells slots : Nat} {Q : State → Prop} {bs Ls : Nat} {xs : Nat → Int32} {ls : Array Slot} {G : zk_G} {a : zA} {b : Nat → Nat} {q j : Nat} (C : zlC p l s m meth c bs Ls xs G) (hj : j < 512) (hJ : 4 * j + 4 ≤ Ls) (hcs : cells + 4 ≤ 601024 ∧ slots + 24 ≤ 7293034) (hS : zlS G s a b q j H locs) (hl : lv_has ls 7 [(0, .ref bs), (1, .ref a.1), (2, .ref (b 0)), (3, .ref q), (4, .int (nI (4 * j)))])
    (done : ∀ (H1 : Heap) (locs1 : List Loc) (ls1 : Array Slot), zlS G s a b q (j + 1) H1 locs1 → lv_has ls1 7 [(0, .ref bs), (1, .ref a.1), (2, .ref (b 0)), (3, .ref q), (4, .int (nI (4 * j)))] → W p l e room_1 s m #[.ref bs] below meth c H1 locs1 (cells + 4) (slots + 24) Q (F0 m 2035 ls1 [])) :
    W p l e room_1 s m #[.ref bs] below meth c H locs cells slots Q (F0 m 254 ls []) := by
  obtain ⟨hst, ⟨hx, hb, hr, hml, hown, hts, hX, hbl, hlocks, hgv⟩, hLs, hE, hN⟩ := id C
  have hown : s.vm.findClass RL = some m.cls := hown
  have hK := hE.1
  have hA : ∀ q : Nat, s.heap.size ≤ q → zlA s q := fun _ h => h
  have hA0 : ∀ q : Nat, zlA s q → G.2.2.1 ≤ q := fun q h => Nat.le_trans hE.2.2.2.2 h
  have hB1 := zlB_1 j
  have hBl := zlB_lo j
  have hBh := zlB_hi hj
  obtain ⟨fo, T, L, Z, sv, SL, S, o, cn, rf, tn, sp, ou, ch, K, Y, D, SK, sk, n, t, ⟨hw, hh, hsl, htx⟩, hP, hD, hS⟩ := hS
  obtain ⟨⟨po, hT⟩, hch⟩ := id htx
  unfold zlW at hP hD
  refine lv_aload_n hx hb dL_law_254 rfl (lv_at hl 1 rfl) ?_
  refine lv_aload_n hx hb dL_law_255 rfl (lv_at hl 3 rfl) ?_
  have hP0 : va_P G.1 vwCl ((zb_o G q fo ++ (zb_5 G a ++ (zb_T G a.2.1 T ++ (zb_L G a.2.2.1 L ++ (zb_M G a.2.2.1 L ++ (zb_S G a sv ++ zb_H G a.2.2.2.2.1.1 a.2.2.2.2.1.2.1 a.2.2.2.2.1.2.2 S (nI o) (nI cn))))))) ++ ((zb_6 G b rf (nI tn) (nI cn) sp ou ++ (zb_a G (b 1) 120 ch ++ (zb_r G (b 3) Y ++ (zb_r G (b 2) K ++ zb_f G (b 6) sk)))) ++ (zb_L G a.2.2.2.1 Z ++ (zb_M G a.2.2.2.1 Z ++ (zb_P G a.2.2.2.2.2.2.2 SL 2 ++ (zb_d G (b 4) D ++ zb_k G (b 5) SK)))))) H := zk_Pperm hP (zlp_load _ _ _ _ _ _ _ _ _ _ _ _ _ _ _ _ _)
  have hD0 : va_D (zlA s) ((zb_o G q fo ++ (zb_5 G a ++ (zb_T G a.2.1 T ++ (zb_L G a.2.2.1 L ++ (zb_M G a.2.2.1 L ++ (zb_S G a sv ++ zb_H G a.2.2.2.2.1.1 a.2.2.2.2.1.2.1 a.2.2.2.2.1.2.2 S (nI o) (nI cn))))))) ++ ((zb_6 G b rf (nI tn) (nI cn) sp ou ++ (zb_a G (b 1) 120 ch ++ (zb_r G (b 3) Y ++ (zb_r G (b 2) K ++ zb_f G (b 6) sk)))) ++ (zb_L G a.2.2.2.1 Z ++ (zb_M G a.2.2.2.1 Z ++ (zb_P G a.2.2.2.2.2.2.2 SL 2 ++ (zb_d G (b 4) D ++ zb_k G (b 5) SK)))))) := zk_Dperm hD (zlp_load _ _ _ _ _ _ _ _ _ _ _ _ _ _ _ _ _)
  refine zk_callI (wr := (zb_6 G b rf (nI tn) (nI cn) sp ou ++ (zb_a G (b 1) 120 ch ++ (zb_r G (b 3) Y ++ (zb_r G (b 2) K ++ zb_f G (b 6) sk)))) ++ (zb_L G a.2.2.2.1 Z ++ (zb_M G a.2.2.2.1 Z ++ (zb_P G a.2.2.2.2.2.2.2 SL 2 ++ (zb_d G (b 4) D ++ zb_k G (b 5) SK))))) (vx_runSW (As := [.ref a.1, .ref q]) (rest := []) ⟨hx, hb, hml, hown, hts⟩ (c_L_load l G hst a L n t (rL (wR hw)) T tn po hT sv S o cn hh.1 hh.2.1 q fo _) (vx_cwSW 2 hts gL_law_L_load rfl rfl rfl (by decide +kernel) ⟨Nat.le_of_ble_eq_true rfl, Nat.le_of_ble_eq_true rfl⟩) (zk_preSH hN hE hA0 hS (zk_Papp hP0).1 (zk_Dapp hD0).1) rfl rfl hl.1 rfl (lv_room (Nat.le_of_ble_eq_true rfl)) dL_law_256 ⟨by show cells + 1 ≤ 601024; omega, by show slots + 6 ≤ 7293034; omega⟩) hP0 hD0 hS hA (fun r u H locs hL hP hD hS => ?_)
  refine lv_istore (lv' := [(5, .int r), (0, .ref bs), (1, .ref a.1), (2, .ref (b 0)), (3, .ref q), (4, .int (nI (4 * j)))]) hx hb dL_law_259 hl (by decide) rfl (fun ls hl => ?_)
  refine lv_aload_n hx hb dL_law_261 rfl (lv_at hl 3 rfl) ?_
  have hP0 := zk_Pperm hP (List.perm_append_comm_assoc _ _ _)
  have hD0 := zk_Dperm hD (List.perm_append_comm_assoc _ _ _)
  refine zk_callI (va_runV (As := []) (rest := []) ⟨hx, hb, hml, hown, hts⟩ (c_X6_load l G b rf tn (nI cn) sp ou hT.2.1 ch Y K n t (rK (wR hw)) sk _) (cwV 0 hts gL_law_X6_load rfl rfl rfl (by decide +kernel) ⟨Nat.le_of_ble_eq_true rfl, Nat.le_of_ble_eq_true rfl⟩) (zk_preV hE hA0 hS (zk_Papp hP0).1 (zk_Dapp hD0).1 (va_recv hK hP0 (ci := 5) (q0 := 0) rfl rfl)) rfl rfl hl.1 rfl (lv_room (Nat.le_of_ble_eq_true rfl)) dL_law_262 ⟨by show cells + 1 + 0 ≤ 601024; omega, by show slots + 6 + 0 ≤ 7293034; omega⟩) hP0 hD0 hS hA (fun r2 vm H locs hM hP hD hS => ?_)
  obtain ⟨⟨hk, hans⟩, hfin⟩ := zp_load (B := zlB (j + 1)) htx (by omega) hL hM
  refine zl_tail (t := 265) C dL_law_265 dL_law_267 dL_law_268 dL_law_271 dL_law_273 dL_law_278 dL_law_280 dL_law_283 dL_law_284 dL_law_285 dL_law_286 dL_law_288 dL_law_289 dL_law_290 dL_law_295 (by decide) ⟨by show cells + 1 + 0 ≤ 601024; omega, by show slots + 6 + 0 ≤ 7293034; omega⟩ hl (zk_Pperm hP (zlt _ _ _ _ _)) (zk_Dperm hD (zlt _ _ _ _ _)) hS hk hans (fun H locs ls hP hD hS hl => ?_)
  refine W.widen (k := cells + 4) (n := slots + 24) (by show cells + 1 + 0 ≤ cells + 4; omega) (by show slots + 6 + 0 ≤ slots + 24; omega) ?_
  refine done H locs ls ?_ hl
  obtain ⟨_ | v0, f1, x9⟩ := u
  · obtain ⟨ht2, ek, es, ec⟩ := hfin
    have hP : va_P G.1 vwCl (zb_6 G b vm.1 (nI tn) vm.2.1 (nI vm.2.2.2.2.1) vm.2.2.2.2.2.2 ++ (zb_o G q f1 ++ ((zb_a G (b 1) 120 ch ++ (zb_r G (b 3) vm.2.2.2.2.2.1 ++ (zb_r G (b 2) vm.2.2.1 ++ zb_f G (b 6) vm.2.2.2.1))) ++ ((zb_5 G a ++ (zb_T G a.2.1 x9 ++ (zb_L G a.2.2.1 L ++ (zb_M G a.2.2.1 L ++ (zb_S G a sv ++ zb_H G a.2.2.2.2.1.1 a.2.2.2.2.1.2.1 a.2.2.2.2.1.2.2 S (nI o) (nI cn)))))) ++ (zb_L G a.2.2.2.1 Z ++ (zb_M G a.2.2.2.1 Z ++ (zb_P G a.2.2.2.2.2.2.2 SL 2 ++ (zb_d G (b 4) D ++ zb_k G (b 5) SK)))))))) H := hP
    have hD : va_D (zlA s) (zb_6 G b vm.1 (nI tn) vm.2.1 (nI vm.2.2.2.2.1) vm.2.2.2.2.2.2 ++ (zb_o G q f1 ++ ((zb_a G (b 1) 120 ch ++ (zb_r G (b 3) vm.2.2.2.2.2.1 ++ (zb_r G (b 2) vm.2.2.1 ++ zb_f G (b 6) vm.2.2.2.1))) ++ ((zb_5 G a ++ (zb_T G a.2.1 x9 ++ (zb_L G a.2.2.1 L ++ (zb_M G a.2.2.1 L ++ (zb_S G a sv ++ zb_H G a.2.2.2.2.1.1 a.2.2.2.2.1.2.1 a.2.2.2.2.1.2.2 S (nI o) (nI cn)))))) ++ (zb_L G a.2.2.2.1 Z ++ (zb_M G a.2.2.2.1 Z ++ (zb_P G a.2.2.2.2.2.2.2 SL 2 ++ (zb_d G (b 4) D ++ zb_k G (b 5) SK)))))))) := hD
    rw [ek, es, ec] at hP hD
    exact ⟨f1, x9, L, Z, sv, SL, S, o, cn, vm.1, tn, nI vm.2.2.2.2.1, vm.2.2.2.2.2.2, ch, K, vm.2.2.2.2.2.1, D, SK, sk, n, t, ⟨w_mono hw hB1, hist_mono hh hB1, slot_mono hsl hB1, ht2⟩, zk_Pperm hP (zlf_load _ _ _ _ _ _ _ _ _ _ _ _ _ _ _ _ _), zk_Dperm hD (zlf_load _ _ _ _ _ _ _ _ _ _ _ _ _ _ _ _ _), hS⟩
  · obtain ⟨ht2, ⟨n2, t2, hw2⟩, e1, e2, ec⟩ := hfin
    have hP : va_P G.1 vwCl (zb_6 G b vm.1 (nI tn) vm.2.1 (nI vm.2.2.2.2.1) vm.2.2.2.2.2.2 ++ (zb_o G q f1 ++ ((zb_a G (b 1) 120 ch ++ (zb_r G (b 3) vm.2.2.2.2.2.1 ++ (zb_r G (b 2) vm.2.2.1 ++ zb_f G (b 6) vm.2.2.2.1))) ++ ((zb_5 G a ++ (zb_T G a.2.1 v0.1 ++ (zb_L G a.2.2.1 v0.2.1 ++ (zb_M G a.2.2.1 v0.2.1 ++ (zb_S G a v0.2.2 ++ zb_H G a.2.2.2.2.1.1 a.2.2.2.2.1.2.1 a.2.2.2.2.1.2.2 S (nI o) (nI 0)))))) ++ (zb_L G a.2.2.2.1 Z ++ (zb_M G a.2.2.2.1 Z ++ (zb_P G a.2.2.2.2.2.2.2 SL 2 ++ (zb_d G (b 4) D ++ zb_k G (b 5) SK)))))))) H := hP
    have hD : va_D (zlA s) (zb_6 G b vm.1 (nI tn) vm.2.1 (nI vm.2.2.2.2.1) vm.2.2.2.2.2.2 ++ (zb_o G q f1 ++ ((zb_a G (b 1) 120 ch ++ (zb_r G (b 3) vm.2.2.2.2.2.1 ++ (zb_r G (b 2) vm.2.2.1 ++ zb_f G (b 6) vm.2.2.2.1))) ++ ((zb_5 G a ++ (zb_T G a.2.1 v0.1 ++ (zb_L G a.2.2.1 v0.2.1 ++ (zb_M G a.2.2.1 v0.2.1 ++ (zb_S G a v0.2.2 ++ zb_H G a.2.2.2.2.1.1 a.2.2.2.2.1.2.1 a.2.2.2.2.1.2.2 S (nI o) (nI 0)))))) ++ (zb_L G a.2.2.2.1 Z ++ (zb_M G a.2.2.2.1 Z ++ (zb_P G a.2.2.2.2.2.2.2 SL 2 ++ (zb_d G (b 4) D ++ zb_k G (b 5) SK)))))))) := hD
    rw [ec] at hP hD
    exact ⟨f1, v0.1, v0.2.1, Z, v0.2.2, SL, S, o, 0, vm.1, tn, nI vm.2.2.2.2.1, vm.2.2.2.2.2.2, ch, vm.2.2.1, vm.2.2.2.2.2.1, D, SK, vm.2.2.2.1, n2, t2, ⟨hw2, hist_0 (hist_mono hh hB1), slot_new e1 e2, ht2⟩, zk_Pperm hP (zlf_load _ _ _ _ _ _ _ _ _ _ _ _ _ _ _ _ _), zk_Dperm hD (zlf_load _ _ _ _ _ _ _ _ _ _ _ _ _ _ _ _ _), hS⟩
