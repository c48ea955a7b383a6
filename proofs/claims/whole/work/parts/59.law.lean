/-! The switch, the loop, the start. -/
theorem zl_and31 (x : Int32) : ∃ k, k < 32 ∧ x &&& nI 31 = nI k := by
  refine ⟨x.toBitVec.toNat % 32, Nat.mod_lt _ (by decide), ?_⟩
  apply Int32.toBitVec_inj.mp
  apply BitVec.eq_of_toNat_eq
  have h1 : (x &&& nI 31).toBitVec.toNat = x.toBitVec.toNat % 32 := by
    rw [Int32.toBitVec_and, BitVec.toNat_and]
    exact Nat.and_two_pow_sub_one_eq_mod _ 5
  rw [h1]
  have h2 : x.toBitVec.toNat % 32 < 32 := Nat.mod_lt _ (by decide)
  show _ = (BitVec.ofNat 32 (x.toBitVec.toNat % 32)).toNat
  rw [BitVec.toNat_ofNat]
  exact (Nat.mod_eq_of_lt (Nat.lt_of_lt_of_le h2 (by decide))).symm
theorem zlS_s {G : zk_G} {s : State} {a : zA} {b : Nat → Nat} {q j : Nat} {H : Heap} {locs : List Loc} (h : zlS G s a b q j H locs) : va_S (zlA s) s.heap H locs := by
  obtain ⟨_, _, _, _, _, _, _, _, _, _, _, _, _, _, _, _, _, _, _, _, _, _, _, _, h⟩ := h
  exact h
theorem zlS_1 {G : zk_G} {s : State} {a : zA} {b : Nat → Nat} {q j : Nat} {H : Heap} {locs : List Loc} (h : zlS G s a b q j H locs) : zlS G s a b q (j + 1) H locs := by
  obtain ⟨fo, T, L, Z, sv, SL, S, o, cn, rf, tn, sp, ou, ch, K, Y, D, SK, sk, n, t, ⟨hw, hh, hsl, htx⟩, hP, hD, hS⟩ := h
  have hB1 := zlB_1 j
  exact ⟨fo, T, L, Z, sv, SL, S, o, cn, rf, tn, sp, ou, ch, K, Y, D, SK, sk, n, t, ⟨w_mono hw hB1, hist_mono hh hB1, slot_mono hsl hB1, htx⟩, hP, hD, hS⟩
set_option maxHeartbeats 4000000 in
set_option maxRecDepth 100000 in
theorem zl_switch {p : Program} {l : Launch} {e : Env} {s : State} {m : MethodId} {below : List Frame} {meth : Method} {c : Code} {H : Heap} {locs : List Loc} {cells slots : Nat} {Q : State → Prop} {bs Ls : Nat} {xs : Nat → Int32} {ls : Array Slot} {G : zk_G} {a : zA} {b : Nat → Nat} {q j : Nat} (C : zlC p l s m meth c bs Ls xs G) {k : Nat} (hk32 : k < 32) (hj : j < 512) (hJ : 4 * j + 4 ≤ Ls) (hcs : cells + 4 ≤ 601024 ∧ slots + 24 ≤ 7293034) (hS : zlS G s a b q j H locs) (hl : lv_has ls 7 [(0, .ref bs), (1, .ref a.1), (2, .ref (b 0)), (3, .ref q), (4, .int (nI (4 * j)))])
    (done : ∀ (H1 : Heap) (locs1 : List Loc) (ls1 : Array Slot), zlS G s a b q (j + 1) H1 locs1 → lv_has ls1 7 [(0, .ref bs), (1, .ref a.1), (2, .ref (b 0)), (3, .ref q), (4, .int (nI (4 * j)))] → W p l e room_1 s m #[.ref bs] below meth c H1 locs1 (cells + 4) (slots + 24) Q (F0 m 2035 ls1 [])) :
    W p l e room_1 s m #[.ref bs] below meth c H locs cells slots Q (F0 m 39 ls [.int (nI k)]) := by
  obtain ⟨hst, ⟨hx, hb, hr, hml, hown, hts, hX, hbl, hlocks, hgv⟩, hLs, hE, hN⟩ := id C
  rcases (show k = 0 ∨ k = 1 ∨ k = 2 ∨ k = 3 ∨ k = 4 ∨ k = 5 ∨ k = 6 ∨ k = 7 ∨ k = 8 ∨ k = 9 ∨ k = 10 ∨ k = 11 ∨ k = 12 ∨ k = 13 ∨ k = 14 ∨ k = 15 ∨ k = 16 ∨ k = 17 ∨ k = 18 ∨ k = 19 ∨ k = 20 ∨ k = 21 ∨ k = 22 ∨ k = 23 ∨ k = 24 ∨ k = 25 ∨ k = 26 ∨ k = 27 ∨ k = 28 ∨ k = 29 ∨ k = 30 ∨ k = 31 by omega) with rfl | rfl | rfl | rfl | rfl | rfl | rfl | rfl | rfl | rfl | rfl | rfl | rfl | rfl | rfl | rfl | rfl | rfl | rfl | rfl | rfl | rfl | rfl | rfl | rfl | rfl | rfl | rfl | rfl | rfl | rfl | rfl
  · exact lv_tableIn (off := 133) (tgt := 172) hx hb dL_law_39 (by decide) (by decide) (by decide) (by decide) (zl_c0 C hj hJ hcs hS hl done)
  · exact lv_tableIn (off := 189) (tgt := 228) hx hb dL_law_39 (by decide) (by decide) (by decide) (by decide) (zl_c1 C hj hJ hcs hS hl done)
  · exact lv_tableIn (off := 202) (tgt := 241) hx hb dL_law_39 (by decide) (by decide) (by decide) (by decide) (zl_c2 C hj hJ hcs hS hl done)
  · exact lv_tableIn (off := 215) (tgt := 254) hx hb dL_law_39 (by decide) (by decide) (by decide) (by decide) (zl_c3 C hj hJ hcs hS hl done)
  · exact lv_tableIn (off := 259) (tgt := 298) hx hb dL_law_39 (by decide) (by decide) (by decide) (by decide) (zl_c4 C hj hJ hcs hS hl done)
  · exact lv_tableIn (off := 315) (tgt := 354) hx hb dL_law_39 (by decide) (by decide) (by decide) (by decide) (zl_c5 C hj hJ hcs hS hl done)
  · exact lv_tableIn (off := 383) (tgt := 422) hx hb dL_law_39 (by decide) (by decide) (by decide) (by decide) (zl_c6 C hj hJ hcs hS hl done)
  · exact lv_tableIn (off := 451) (tgt := 490) hx hb dL_law_39 (by decide) (by decide) (by decide) (by decide) (zl_c7 C hj hJ hcs hS hl done)
  · exact lv_tableIn (off := 519) (tgt := 558) hx hb dL_law_39 (by decide) (by decide) (by decide) (by decide) (zl_c8 C hj hJ hcs hS hl done)
  · exact lv_tableIn (off := 599) (tgt := 638) hx hb dL_law_39 (by decide) (by decide) (by decide) (by decide) (zl_c9 C hj hJ hcs hS hl done)
  · exact lv_tableIn (off := 655) (tgt := 694) hx hb dL_law_39 (by decide) (by decide) (by decide) (by decide) (zl_c10 C hj hJ hcs hS hl done)
  · exact lv_tableIn (off := 723) (tgt := 762) hx hb dL_law_39 (by decide) (by decide) (by decide) (by decide) (zl_c11 C hj hJ hcs hS hl done)
  · exact lv_tableIn (off := 791) (tgt := 830) hx hb dL_law_39 (by decide) (by decide) (by decide) (by decide) (zl_c12 C hj hJ hcs hS hl done)
  · exact lv_tableIn (off := 887) (tgt := 926) hx hb dL_law_39 (by decide) (by decide) (by decide) (by decide) (zl_c13 C hj hJ hcs hS hl done)
  · exact lv_tableIn (off := 955) (tgt := 994) hx hb dL_law_39 (by decide) (by decide) (by decide) (by decide) (zl_c14 C hj hJ hcs hS hl done)
  · exact lv_tableIn (off := 1035) (tgt := 1074) hx hb dL_law_39 (by decide) (by decide) (by decide) (by decide) (zl_c15 C hj hJ hcs hS hl done)
  · exact lv_tableIn (off := 1119) (tgt := 1158) hx hb dL_law_39 (by decide) (by decide) (by decide) (by decide) (zl_c16 C hj hJ hcs hS hl done)
  · exact lv_tableIn (off := 1199) (tgt := 1238) hx hb dL_law_39 (by decide) (by decide) (by decide) (by decide) (zl_c17 C hj hJ hcs hS hl done)
  · exact lv_tableIn (off := 1255) (tgt := 1294) hx hb dL_law_39 (by decide) (by decide) (by decide) (by decide) (zl_c18 C hj hJ hcs hS hl done)
  · exact lv_tableIn (off := 1311) (tgt := 1350) hx hb dL_law_39 (by decide) (by decide) (by decide) (by decide) (zl_c19 C hj hJ hcs hS hl done)
  · exact lv_tableIn (off := 1379) (tgt := 1418) hx hb dL_law_39 (by decide) (by decide) (by decide) (by decide) (zl_c20 C hj hJ hcs hS hl done)
  · exact lv_tableIn (off := 1423) (tgt := 1462) hx hb dL_law_39 (by decide) (by decide) (by decide) (by decide) (zl_c21 C hj hJ hcs hS hl done)
  · exact lv_tableIn (off := 1479) (tgt := 1518) hx hb dL_law_39 (by decide) (by decide) (by decide) (by decide) (zl_c22 C hj hJ hcs hS hl done)
  · exact lv_tableIn (off := 1535) (tgt := 1574) hx hb dL_law_39 (by decide) (by decide) (by decide) (by decide) (zl_c23 C hj hJ hcs hS hl done)
  · exact lv_tableIn (off := 1615) (tgt := 1654) hx hb dL_law_39 (by decide) (by decide) (by decide) (by decide) (zl_c24 C hj hJ hcs hS hl done)
  · exact lv_tableIn (off := 1671) (tgt := 1710) hx hb dL_law_39 (by decide) (by decide) (by decide) (by decide) (zl_c25 C hj hJ hcs hS hl done)
  · exact lv_tableIn (off := 1684) (tgt := 1723) hx hb dL_law_39 (by decide) (by decide) (by decide) (by decide) (zl_c26 C hj hJ hcs hS hl done)
  · exact lv_tableIn (off := 1784) (tgt := 1823) hx hb dL_law_39 (by decide) (by decide) (by decide) (by decide) (zl_c27 C hj hJ hcs hS hl done)
  · exact lv_tableIn (off := 1884) (tgt := 1923) hx hb dL_law_39 (by decide) (by decide) (by decide) (by decide) (zl_c28 C hj hJ hcs hS hl done)
  · exact lv_tableIn (off := 1940) (tgt := 1979) hx hb dL_law_39 (by decide) (by decide) (by decide) (by decide) (zl_c29 C hj hJ hcs hS hl done)
  · exact lv_tableOut (tgt := 2035) hx hb dL_law_39 (Or.inr (by decide)) (by decide) (W.widen (k := cells + 4) (n := slots + 24) (by omega) (by omega) (done H locs ls (zlS_1 hS) hl))
  · exact lv_tableOut (tgt := 2035) hx hb dL_law_39 (Or.inr (by decide)) (by decide) (W.widen (k := cells + 4) (n := slots + 24) (by omega) (by omega) (done H locs ls (zlS_1 hS) hl))
set_option maxHeartbeats 4000000 in
set_option maxRecDepth 100000 in
theorem zl_loop {p : Program} {l : Launch} {e : Env} {s : State} {m : MethodId} {below : List Frame} {meth : Method} {c : Code} {bs Ls : Nat} {xs : Nat → Int32} {G : zk_G} {a : zA} {b : Nat → Nat} {q : Nat} (C : zlC p l s m meth c bs Ls xs G) : ∀ (N j : Nat), 513 ≤ j + N → j ≤ 512 → ∀ (H : Heap) (locs : List Loc) (cells slots : Nat) (ls : Array Slot), cells = 250 + 4 * j → slots = 60000 + 24 * j → zlS G s a b q j H locs → lv_has ls 7 [(0, .ref bs), (1, .ref a.1), (2, .ref (b 0)), (3, .ref q), (4, .int (nI (4 * j)))] → W p l e room_1 s m #[.ref bs] below meth c H locs cells slots (lw_Z below #[.ref bs] s) (F0 m 23 ls []) := by
  obtain ⟨hst, ⟨hx, hb, hr, hml, hown, hts, hX, hbl, hlocks, hgv⟩, hLs, hE, hN⟩ := id C
  intro N
  induction N with
  | zero => exact fun j h1 h2 => absurd h1 (by omega)
  | succ N ih =>
    intro j h1 h2 H locs cells slots ls hc hs hS hl
    have hSv := zlS_s hS
    refine lv_iload hx hb dL_law_23 (lv_at hl 4 rfl) ?_
    refine lv_aload_n hx hb dL_law_25 rfl (lv_at hl 0 rfl) ?_
    refine va_slen hx hb hX hbl (Nat.not_le.mpr hbl) hSv dL_law_26 ?_
    refine lv_iconst (v := nI 4) hx hb dL_law_27 (by decide) ?_
    refine lv_isub hx hb dL_law_28 ?_
    refine lv_icmp_gt (tgt := 2041) hx hb dL_law_29 (by decide) (fun _ => ?_) (fun h => ?_)
    · refine lv_iconst (v := 1) hx hb dL_law_2041 (by decide) ?_
      refine va_forget (fun q hq => hSv.2.2 q hq) ?_
      refine W.widen (k := 601024) (n := 7293034) (by omega) (by omega) ?_
      exact lw_ret hx hb hr hlocks dL_law_2042
    · have hJ : 4 * j + 4 ≤ Ls := by
        refine Nat.not_lt.mp (fun z => h ?_)
        have t1 : (nI Ls).toInt = (Ls : Int) := nI_toInt (by omega)
        have t2 : (nI 4).toInt = ((4 : Nat) : Int) := nI_toInt (by decide)
        have t3 : (nI (4 * j)).toInt = ((4 * j : Nat) : Int) := nI_toInt (by omega)
        show nI Ls - nI 4 < nI (4 * j)
        rw [Int32.lt_iff_toInt_lt, bi_sub (by rw [t1, t2]; omega) (by rw [t1, t2]; omega), t1, t2, t3]
        omega
      refine lv_aload_n hx hb dL_law_32 rfl (lv_at hl 0 rfl) ?_
      refine lv_iload hx hb dL_law_33 (lv_at hl 4 rfl) ?_
      refine va_sld hx hb hX hbl (Nat.not_le.mpr hbl) hSv (vp_in_nI (show 4 * j < Ls by omega) (by omega)) dL_law_35 ?_
      refine lv_bipush (v := nI 31) hx hb dL_law_36 (by decide) ?_
      refine lv_iand hx hb dL_law_38 ?_
      obtain ⟨k, hk, ek⟩ := zl_and31 (xs (nI (4 * j)).toNatClampNeg)
      refine zk_top ek ?_
      refine zl_switch C hk (by omega) hJ ⟨by omega, by omega⟩ hS hl (fun H locs ls hS hl => ?_)
      refine lv_iinc (v := nI (4 * (j + 1))) (lv' := [(4, .int (nI (4 * (j + 1)))), (0, .ref bs), (1, .ref a.1), (2, .ref (b 0)), (3, .ref q)]) hx hb dL_law_2035 hl (k := 4) rfl ((zk_inc (4 * j) 4).trans (by rw [show 4 * j + 4 = 4 * (j + 1) by omega])) (by decide) rfl (fun ls hl => ?_)
      refine lv_goto (tgt := 23) hx hb dL_law_2038 (by decide) ?_
      exact ih (j + 1) (by omega) (by omega) H locs _ _ ls (by omega) (by omega) hS (lv_sub hl [1, 2, 3, 4, 0] rfl)
/-- the new text, the new ledger, side by side with the model's -/
theorem zw_0 : zW 4809999 zL0 zL0 0 0 := by
  refine ⟨⟨⟨sInv_0, sInv_0⟩, fun _ _ => rfl, fun c hc => absurd hc (Nat.not_lt_zero c), fun _ _ => rfl, fun _ _ => ⟨rfl, rfl⟩, fun _ _ => rfl, fun p _ e => absurd (show nI 0 = nI 2 from e) (by decide), fun _ _ _ _ _ => rfl, fun _ _ _ => rfl, by decide⟩, ⟨⟨⟨250, by decide, by decide, rfl⟩, ⟨500, by decide, rfl⟩⟩, fun c hc => absurd hc (Nat.not_lt_zero c), fun p _ => ⟨0, by decide, rfl⟩, fun p _ e => absurd (show nI 0 = nI 2 from e) (by decide)⟩, fun c d hc => absurd hc (Nat.not_lt_zero c), fun f _ => Or.inl rfl⟩
theorem zt_0 : zText zT0 0 (fun _ => nI 0) := ⟨⟨0, tInv_0⟩, rfl⟩
theorem zh_0 {B : Int} : zHist B (fun _ => zL0) 0 0 (fun _ => zR0) := ⟨by decide, by decide, fun j hj => absurd hj (Nat.not_lt_zero j)⟩
theorem zs_00 {B : Int} : zSlot B (fun _ => nI 0) (fun _ => zL0) (fun _ => nI 0) (fun _ => zR0) := fun j _ => ⟨rfl, Or.inl rfl⟩
theorem zB_0 : zlB 0 = 4809999 := rfl
theorem zx_6 (G : zk_G) (b : Nat → Nat) : zb_X6 G b = zb_6 G b (nI 0) (nI 0) (nI 0) (nI 0) (nI 0) ++ (zb_a G (b 1) 120 (fun _ => nI 0) ++ (zb_r G (b 2) zL0 ++ (zb_r G (b 3) zR0 ++ (zb_d G (b 4) (fun _ => zR0) ++ (zb_k G (b 5) (fun _ => zR0) ++ zb_f G (b 6) (fun _ => nI 0)))))) := rfl
theorem zlp_0 {α : Type} (o f1 f2 f3 f4 f5 f6 f7 f8 f9 x : List α) : (((((((f1 ++ f2) ++ (f3 ++ f4)) ++ (f5 ++ f6)) ++ f7) ++ (f8 ++ f9)) ++ x) ++ o).Perm (o ++ (f1 ++ (f2 ++ (f3 ++ (f4 ++ (f5 ++ (f6 ++ (f7 ++ (f8 ++ (f9 ++ x)))))))))) := by
  classical
  rw [List.perm_iff_count]
  intro y
  simp only [List.count_append]
  omega
theorem zk_cAl {G : zk_G} {s : State} {cA : ClassId} (hK : va_K G.1 vwCl (zk_TY G.2.1) s) (hK2 : va_K G.1 vwCl (zk_TY G.2.1 ++ [(cA, .long)]) s) : cA = G.2.1 3 := by
  have h1 : s.vm.findClass ("[" ++ FieldType.long.toString) = some cA := (hK2.2 5 (cA, .long) rfl).2
  have h2 : s.vm.findClass ("[" ++ FieldType.long.toString) = some (G.2.1 3) := (hK.2 3 (G.2.1 3, .long) rfl).2
  exact Option.some.inj (h1.symm.trans h2)
set_option maxHeartbeats 4000000 in
set_option maxRecDepth 100000 in
theorem whole_start {p : Program} {e : Env} {s : State} {m : MethodId} {below : List Frame} {meth : Method} {c : Code} (l : Launch) (hflags : l.flags = flags0) {b L : Nat} {xs : Nat → Int32} (hL : L ≤ 2048) (C0 : lw_At p s m meth c b L xs) : W p l e room_1 s m #[Value.ref b] below meth c s.heap [] 0 0 (lw_Z below #[Value.ref b] s) (entryFrame m ([Value.ref b] : List Value).toArray 7) := by
  obtain ⟨hx, hb, hr, hml, hown, hts, hX, hbl, hlocks, hgv⟩ := id C0
  have hst : l.stackTraces = false := by
    unfold Launch.stackTraces
    rw [hflags]
    decide +kernel
  obtain ⟨G, hE, hN⟩ := zl_env hts hgv
  have C : zlC p l s m meth c b L xs G := ⟨hst, C0, hL, hE, hN⟩
  have hown : s.vm.findClass RL = some m.cls := hown
  have hA : ∀ q : Nat, s.heap.size ≤ q → zlA s q := fun _ h => h
  have hA0 : ∀ q : Nat, zlA s q → G.2.2.1 ≤ q := fun q h => Nat.le_trans hE.2.2.2.2 h
  have hS : va_S (zlA s) s.heap s.heap [] := va_S.rf
  have hK := hE.1
  have hP : va_P G.1 vwCl [] s.heap := fun k q h => by simp at h
  have hD : va_D (zlA s) [] := ⟨fun i j p q h => by simp at h, fun k q h => by simp at h⟩
  have hl := lv_entry ([.ref b]) (n := 7) (Nat.le_of_ble_eq_true rfl)
  rw [lg_entry_eq]
  generalize (lg_sl ([.ref b]) ++ List.replicate (7 - (lg_sl ([.ref b])).length) Slot.unset).toArray = ls at hl ⊢
  have hl : lv_has ls 7 [(0, .ref b)] := hl
  have wr1 : ∀ (w : Cond) (i : Nat), wsL_law0_r1[i]? = some w → w.before #[Value.ref b] s = true := fun w i h => hts w (in0_wsL_law0_r1 w (List.mem_of_getElem? h))
  refine va_new (ci := 4) (fs := [.null, .null, .null, .null, .null, .null]) (C := RX5) (T := TX5) (N := 6) hx hb hts inX5 tyX5 tyX5_ok hown (wr1 (.classLink RL 8 RX5) 0 rfl) (wr1 (.instantiable RX5 6) 1 rfl) (wr1 (.initialized RX5) 2 rfl) hK hP hD hS hA rfl (fun j hj => by rcases (show j = 0 ∨ j = 1 ∨ j = 2 ∨ j = 3 ∨ j = 4 ∨ j = 5 by omega) with rfl | rfl | rfl | rfl | rfl | rfl <;> rfl) (Nat.le_of_ble_eq_true rfl) (Nat.le_of_ble_eq_true rfl) dL_law_0 (fun qx H hP hD hS => ?_)
  refine lv_dup hx hb dL_law_3 rfl ?_
  have hP : va_P G.1 vwCl ([(qx, .inr (4, [.null, .null, .null, .null, .null, .null]))] ++ []) H := hP
  have hD : va_D (zlA s) ([(qx, .inr (4, [.null, .null, .null, .null, .null, .null]))] ++ []) := hD
  refine zk_callV (wr := []) (va_runI (As := []) (rest := [.ref qx]) ⟨hx, hb, hml, hown, hts⟩ (c_X5_init l G qx _) (cwI 0 hts gL_law_X5_init rfl rfl rfl (wr1 (.initialized RX5) 2 rfl) (wr1 (.methodLink RL 104 yX5_init) 8 rfl) (wr1 (.instanceMethod yX5_init) 9 rfl) rfl (by decide +kernel) ⟨Nat.le_of_ble_eq_true rfl, Nat.le_of_ble_eq_true rfl⟩) (zk_preS hE hA0 hS (zk_Papp hP).1 (zk_Dapp hD).1) rfl rfl hl.1 rfl (lv_room (Nat.le_of_ble_eq_true rfl)) dL_law_4 ⟨Nat.le_of_ble_eq_true rfl, Nat.le_of_ble_eq_true rfl⟩) hP hD hS hA (fun a H locs ea hP hD hS => ?_)
  have hP2 : va_P G.1 vwCl (zb_X0 G a) H := by rw [← List.append_nil (zb_X0 G a)]; exact hP
  have hD2 : va_D (zlA s) (zb_X0 G a) := by rw [← List.append_nil (zb_X0 G a)]; exact hD
  have ea : a.1 = qx := ea
  subst ea
  have hP := hP2
  have hD := hD2
  refine lv_astore_n (lv' := [(1, .ref a.1), (0, .ref b)]) hx hb dL_law_7 rfl hl (by decide) rfl (fun ls hl => ?_)
  refine W.widen (k := 242) (n := 28361) (Nat.le_of_ble_eq_true rfl) (Nat.le_of_ble_eq_true rfl) ?_
  refine va_new (ci := 5) (fs := [.int (nI 0), .null, .int (nI 0), .null, .null, .null, .int (nI 0), .null, .null, .int (nI 0), .int (nI 0)]) (C := RX6) (T := TX6) (N := 11) hx hb hts inX6 tyX6 tyX6_ok hown (wr1 (.classLink RL 105 RX6) 3 rfl) (wr1 (.instantiable RX6 11) 4 rfl) (wr1 (.initialized RX6) 5 rfl) hK hP hD hS hA rfl (fun j hj => by rcases (show j = 0 ∨ j = 1 ∨ j = 2 ∨ j = 3 ∨ j = 4 ∨ j = 5 ∨ j = 6 ∨ j = 7 ∨ j = 8 ∨ j = 9 ∨ j = 10 by omega) with rfl | rfl | rfl | rfl | rfl | rfl | rfl | rfl | rfl | rfl | rfl <;> rfl) (Nat.le_of_ble_eq_true rfl) (Nat.le_of_ble_eq_true rfl) dL_law_8 (fun qm H hP hD hS => ?_)
  refine lv_dup hx hb dL_law_11 rfl ?_
  have hP := zk_Pperm hP List.perm_append_comm
  have hD := zk_Dperm hD List.perm_append_comm
  refine zk_callV (wr := zb_X0 G a) (va_runI (As := []) (rest := [.ref qm]) ⟨hx, hb, hml, hown, hts⟩ (c_X6_init l G qm _) (cwI 0 hts gL_law_X6_init rfl rfl rfl (wr1 (.initialized RX6) 5 rfl) (hts _ (in0_wsL_law0_r3 _ (List.mem_of_getElem? (i := 20) (a := Cond.methodLink RL 107 yX6_init) rfl))) (hts _ (in0_wsL_law0_r3 _ (List.mem_of_getElem? (i := 21) (a := Cond.instanceMethod yX6_init) rfl))) rfl (by decide +kernel) ⟨Nat.le_of_ble_eq_true rfl, Nat.le_of_ble_eq_true rfl⟩) (zk_preS hE hA0 hS (zk_Papp hP).1 (zk_Dapp hD).1) rfl rfl hl.1 rfl (lv_room (Nat.le_of_ble_eq_true rfl)) dL_law_12 ⟨Nat.le_of_ble_eq_true rfl, Nat.le_of_ble_eq_true rfl⟩) hP hD hS hA (fun bb H locs eb hP hD hS => ?_)
  have hP2 : va_P G.1 vwCl (zb_X0 G a ++ zb_X6 G bb) H := zk_Pperm hP List.perm_append_comm
  have hD2 : va_D (zlA s) (zb_X0 G a ++ zb_X6 G bb) := zk_Dperm hD List.perm_append_comm
  have eb : bb 0 = qm := eb
  subst eb
  have hP := hP2
  have hD := hD2
  refine lv_astore_n (lv' := [(2, .ref (bb 0)), (1, .ref a.1), (0, .ref b)]) hx hb dL_law_15 rfl hl (by decide) rfl (fun ls hl => ?_)
  refine W.widen (k := 249) (n := 59000) (Nat.le_of_ble_eq_true rfl) (Nat.le_of_ble_eq_true rfl) ?_
  refine lv_iconst (v := nI 1) hx hb dL_law_16 (by decide) ?_
  refine va_newa (atype := .long) (a0 := (1, .inr (.inl (fun _ => 0)))) (N' := 1) hx hb (wr1 (.arrayClass .long) 6 rfl) rfl hK hP hD hS hA (fun _ => rfl) (nI_pos (by decide)) (nI_clamp (by decide)) (by decide) (Nat.le_of_ble_eq_true rfl) (Nat.le_of_ble_eq_true rfl) dL_law_17 (fun q cA H hK2 hP hD hS => ?_)
  have ec := zk_cAl hK hK2
  subst ec
  refine lv_astore_n (lv' := [(3, .ref q), (2, .ref (bb 0)), (1, .ref a.1), (0, .ref b)]) hx hb dL_law_19 rfl hl (by decide) rfl (fun ls hl => ?_)
  refine lv_iconst (v := nI 0) hx hb dL_law_20 (by decide) ?_
  refine lv_istore (lv' := [(4, .int (nI 0)), (3, .ref q), (2, .ref (bb 0)), (1, .ref a.1), (0, .ref b)]) hx hb dL_law_21 hl (by decide) rfl (fun ls hl => ?_)
  refine W.widen (k := 250) (n := 60000) (Nat.le_of_ble_eq_true rfl) (Nat.le_of_ble_eq_true rfl) ?_
  have hP : va_P G.1 vwCl ((zb_X0 G a ++ zb_X6 G bb) ++ zb_o G q (fun _ => 0)) H := hP
  have hD : va_D (zlA s) ((zb_X0 G a ++ zb_X6 G bb) ++ zb_o G q (fun _ => 0)) := hD
  rw [zx_6] at hP hD
  refine zl_loop C 513 0 (by decide) (by decide) H locs 250 60000 ls rfl rfl ?_ (lv_sub hl [4, 3, 2, 1, 0] rfl)
  exact ⟨fun _ => 0, zT0, zL0, zL0, fun _ => nI 0, fun _ => zL0, fun _ => zL0, 0, 0, nI 0, 0, nI 0, nI 0, fun _ => nI 0, zL0, zR0, fun _ => zR0, fun _ => zR0, fun _ => nI 0, 0, 0, ⟨zw_0, zh_0, zs_00, zt_0⟩, zk_Pperm hP (zlp_0 _ _ _ _ _ _ _ _ _ _ _), zk_Dperm hD (zlp_0 _ _ _ _ _ _ _ _ _ _ _), hS⟩
