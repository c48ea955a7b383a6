abbrev rmX6_append : Room := { frames := 1, cells := 0, slots := 0, locals := 25 }
set_option maxHeartbeats 4000000 in
set_option maxRecDepth 100000 in
/-- a character is put down -/
theorem c_X6_append (l : Launch) (G : zk_G) (b : Nat → Nat) (rf : Int32) (tn : Nat) (ac : Int32) (sp : Int32) (ou : Int32) (htn : tn ≤ 120) (ch : Nat → Int32) (c : Int32) : zk_I (S := Int32 × Nat × (Nat → Int32)) l yX6_append wsX6_append rmX6_append G [.ref (b 0), .int c] ((zb_6 G b rf (nI tn) ac sp ou) ++ zb_a G (b 1) 120 ch) (fun r u => (zIn c 256 ∧ tn < 120 ∧ u.1 = 0 ∧ r = nI u.2.1 ∧ u.2.1 = tn + 1 ∧ u.2.2 = upd ch tn c) ∨ (¬ zIn c 256 ∧ u.1 = nI 1 ∧ u.2.1 = tn ∧ u.2.2 = ch) ∨ (zIn c 256 ∧ ¬ tn < 120 ∧ u.1 = nI 2 ∧ u.2.1 = tn ∧ u.2.2 = ch)) (fun u => zb_6 G b u.1 (nI u.2.1) ac sp ou ++ zb_a G (b 1) 120 u.2.2) := by
  refine zk_bodyI (cc := cX6_append) (maxL := 2) (ret := (some .int)) (by decide) rfl (Nat.le_of_ble_eq_true rfl) ?_
  intro p E0 s m args below meth cd A ls Q hF hQ
  obtain ⟨hx, hb, hml, hr, hts, hown, hlocks, -, hE, hP, hD, hS, hA, hA0, hl⟩ := hF
  have hK := hE.1
  have hl : lv_has ls 2 [(0, .ref (b 0)), (1, .int c)] := hl
  have w1 := hts _ (List.mem_of_getElem? (l := wsX6_append) (i := 1) (a := Cond.constantLong RX6 87 (255)) rfl)
  have w2 := hts _ (List.mem_of_getElem? (l := wsX6_append) (i := 2) (a := Cond.fieldLink RX6 89 "MealAccountsModel" "size" "I") rfl)
  have w3 := hts _ (List.mem_of_getElem? (l := wsX6_append) (i := 3) (a := Cond.fieldLink RX6 7 "MealAccountsModel" "text" "[I") rfl)
  refine lv_aload_n hx hb dX6_append_0 rfl (lv_at hl 0 rfl) ?_
  refine lv_iload_n hx hb dX6_append_1 rfl (lv_at hl 1 rfl) ?_
  refine lv_i2l (v := c.toInt64) hx hb dX6_append_2 rfl ?_
  refine lv_lconst (v := lN 0) hx hb dX6_append_3 rfl ?_
  refine zk_topL (show lN 0 = (nI 0).toInt64 from (nI_l (by decide)).symm) ?_
  refine lv_ldc2 hx hb (v := lN 255) hown w1 dX6_append_4 ?_
  refine zk_topL (show lN 255 = (nI 255).toInt64 from (nI_l (by decide)).symm) ?_
  have hP0 : va_P G.1 vwCl (([] : va_W) ++ ((zb_6 G b rf (nI tn) ac sp ou) ++ zb_a G (b 1) 120 ch)) s.heap := hP
  have hD0 : va_D A (([] : va_W) ++ ((zb_6 G b rf (nI tn) ac sp ou) ++ zb_a G (b 1) 120 ch)) := hD
  refine zk_callI (wr := (zb_6 G b rf (nI tn) ac sp ou) ++ zb_a G (b 1) 120 ch) (va_runS (As := [.long c.toInt64, .long ((nI 0).toInt64), .long ((nI 255).toInt64)]) (rest := [.ref (b 0)]) ⟨hx, hb, hml, hown, hts⟩ (c_X6_inI l G c (nI 0) (nI 255) _) (cwS 3 hts gX6_append_X6_in rfl rfl rfl (by decide +kernel) ⟨Nat.le_of_ble_eq_true rfl, Nat.le_of_ble_eq_true rfl⟩) (zk_preS hE hA0 hS (zk_Papp hP0).1 (zk_Dapp hD0).1) rfl rfl hl.1 rfl (lv_room (Nat.le_of_ble_eq_true rfl)) dX6_append_7 ⟨Nat.le_of_ble_eq_true rfl, Nat.le_of_ble_eq_true rfl⟩) hP0 hD0 hS hA (fun r1 u2 H locs q3 hP hD hS => ?_)
  subst q3
  have hP : va_P G.1 vwCl ((zb_6 G b rf (nI tn) ac sp ou) ++ zb_a G (b 1) 120 ch) H := hP
  have hD : va_D A ((zb_6 G b rf (nI tn) ac sp ou) ++ zb_a G (b 1) 120 ch) := hD
  refine lv_if_ne (tgt := 17) hx hb dX6_append_10 (by decide) (fun h10_3 => ?_) (fun h10_3 => ?_)
  · have h10_3 := zk_b1 h10_3
    refine lv_aload_n hx hb dX6_append_17 rfl (lv_at hl 0 rfl) ?_
    refine va_get (D := G.1) (ci := 5) (v := .int (nI tn)) (C := RX6) (T := TX6) (N := 11) hx hb hts (fun _ h => List.mem_cons_of_mem _ (List.mem_append_right _ h)) hown hK hP 0 rfl rfl 2 (by decide) w2 (fun _ h9 => h9) rfl dX6_append_18 ?_
    refine lv_bipush (v := nI 120) hx hb dX6_append_21 (by decide) ?_
    refine lv_icmp_ne (tgt := 30) hx hb dX6_append_23 (by decide) (fun h23_4 => ?_) (fun h23_4 => ?_)
    · have h23_4 := zk_ne (by omega) (by omega) h23_4
      refine lv_iconst (v := nI 0) hx hb dX6_append_30 (by decide) ?_
      have hP0 : va_P G.1 vwCl ((zb_6 G b rf (nI tn) ac sp ou) ++ (zb_a G (b 1) 120 ch)) H := zk_Pperm hP (show ((zb_6 G b rf (nI tn) ac sp ou) ++ zb_a G (b 1) 120 ch).Perm ((zb_6 G b rf (nI tn) ac sp ou) ++ (zb_a G (b 1) 120 ch)) from (show ((zb_6 G b rf (nI tn) ac sp ou) ++ zb_a G (b 1) 120 ch).Perm ((zb_6 G b rf (nI tn) ac sp ou) ++ zb_a G (b 1) 120 ch) from List.Perm.refl _).trans (List.Perm.of_eq (by simp only [List.append_assoc, List.append_nil, List.nil_append])))
      have hD0 : va_D A ((zb_6 G b rf (nI tn) ac sp ou) ++ (zb_a G (b 1) 120 ch)) := zk_Dperm hD (show ((zb_6 G b rf (nI tn) ac sp ou) ++ zb_a G (b 1) 120 ch).Perm ((zb_6 G b rf (nI tn) ac sp ou) ++ (zb_a G (b 1) 120 ch)) from (show ((zb_6 G b rf (nI tn) ac sp ou) ++ zb_a G (b 1) 120 ch).Perm ((zb_6 G b rf (nI tn) ac sp ou) ++ zb_a G (b 1) 120 ch) from List.Perm.refl _).trans (List.Perm.of_eq (by simp only [List.append_assoc, List.append_nil, List.nil_append])))
      refine zk_callI (wr := zb_a G (b 1) 120 ch) (va_runV (As := [.int (nI 0)]) (rest := []) ⟨hx, hb, hml, hown, hts⟩ (c_X6_refused l G b rf (nI tn) ac sp ou (nI 0) _) (cwV 1 hts gX6_append_X6_refused rfl rfl rfl (by decide +kernel) ⟨Nat.le_of_ble_eq_true rfl, Nat.le_of_ble_eq_true rfl⟩) (zk_preV hE hA0 hS (zk_Papp hP0).1 (zk_Dapp hD0).1 (va_recv hK hP0 (ci := 5) (q0 := 0) rfl rfl)) rfl rfl hl.1 rfl (lv_room (Nat.le_of_ble_eq_true rfl)) dX6_append_31 ⟨Nat.le_of_ble_eq_true rfl, Nat.le_of_ble_eq_true rfl⟩) hP0 hD0 hS hA (fun r6 u7 H locs q8 hP hD hS => ?_)
      subst q8
      have hP : va_P G.1 vwCl ((zb_6 G b (nI 0) (nI tn) ac sp ou) ++ zb_a G (b 1) 120 ch) H := zk_Pperm hP (show ((zb_6 G b (nI 0) (nI tn) ac sp ou) ++ zb_a G (b 1) 120 ch).Perm ((zb_6 G b (nI 0) (nI tn) ac sp ou) ++ (zb_a G (b 1) 120 ch)) from (show ((zb_6 G b (nI 0) (nI tn) ac sp ou) ++ zb_a G (b 1) 120 ch).Perm ((zb_6 G b (nI 0) (nI tn) ac sp ou) ++ zb_a G (b 1) 120 ch) from List.Perm.refl _).trans (List.Perm.of_eq (by simp only [List.append_assoc, List.append_nil, List.nil_append]))).symm
      have hD : va_D A ((zb_6 G b (nI 0) (nI tn) ac sp ou) ++ zb_a G (b 1) 120 ch) := zk_Dperm hD (show ((zb_6 G b (nI 0) (nI tn) ac sp ou) ++ zb_a G (b 1) 120 ch).Perm ((zb_6 G b (nI 0) (nI tn) ac sp ou) ++ (zb_a G (b 1) 120 ch)) from (show ((zb_6 G b (nI 0) (nI tn) ac sp ou) ++ zb_a G (b 1) 120 ch).Perm ((zb_6 G b (nI 0) (nI tn) ac sp ou) ++ zb_a G (b 1) 120 ch) from List.Perm.refl _).trans (List.Perm.of_eq (by simp only [List.append_assoc, List.append_nil, List.nil_append]))).symm
      refine zk_top (show (if 0 < (nI 0) then nI 1 else nI 0) = nI 0 by decide) ?_
      refine lv_if_eq (tgt := 39) hx hb dX6_append_34 (by decide) (fun _ => ?_) (fun z => absurd (by decide) z)
      refine lv_aload_n hx hb dX6_append_39 rfl (lv_at hl 0 rfl) ?_
      refine va_get (D := G.1) (ci := 5) (v := .ref (b 1)) (C := RX6) (T := TX6) (N := 11) hx hb hts (fun _ h => List.mem_cons_of_mem _ (List.mem_append_right _ h)) hown hK hP 0 rfl rfl 1 (by decide) w3 (fun _ h9 => h9) rfl dX6_append_40 ?_
      refine lv_aload_n hx hb dX6_append_43 rfl (lv_at hl 0 rfl) ?_
      refine va_get (D := G.1) (ci := 5) (v := .int (nI tn)) (C := RX6) (T := TX6) (N := 11) hx hb hts (fun _ h => List.mem_cons_of_mem _ (List.mem_append_right _ h)) hown hK hP 0 rfl rfl 2 (by decide) w2 (fun _ h9 => h9) rfl dX6_append_44 ?_
      refine lv_iload_n hx hb dX6_append_47 rfl (lv_at hl 1 rfl) ?_
      refine zk_iastN hx hb hK hP hD hS 1 0 rfl rfl (k := tn) (n := 120) (by omega) (by omega) dX6_append_48 (fun H locs hP hD hS => ?_)
      obtain ⟨F9, eF9⟩ : ∃ z : Nat → Int32, z = upd ch tn c := ⟨_, rfl⟩
      have hP : va_P G.1 vwCl ((zb_6 G b (nI 0) (nI tn) ac sp ou) ++ zb_a G (b 1) 120 F9) H := by rw [eF9]; exact hP
      have hD : va_D A ((zb_6 G b (nI 0) (nI tn) ac sp ou) ++ zb_a G (b 1) 120 F9) := by rw [eF9]; exact hD
      refine lv_aload_n hx hb dX6_append_49 rfl (lv_at hl 0 rfl) ?_
      refine lv_dup hx hb dX6_append_50 rfl ?_
      refine va_get (D := G.1) (ci := 5) (v := .int (nI tn)) (C := RX6) (T := TX6) (N := 11) hx hb hts (fun _ h => List.mem_cons_of_mem _ (List.mem_append_right _ h)) hown hK hP 0 rfl rfl 2 (by decide) w2 (fun _ h9 => h9) rfl dX6_append_51 ?_
      refine lv_iconst (v := nI 1) hx hb dX6_append_54 (by decide) ?_
      refine zk_iaddN hx hb dX6_append_55 ?_
      refine va_put (D := G.1) (ci := 5) (v := .int (nI (tn + 1))) (ty := .int) (C := RX6) (T := TX6) (N := 11) hx hb hts (fun _ h => List.mem_cons_of_mem _ (List.mem_append_right _ h)) tyX6 tyX6_ok nmX6 hown hK hP hD hS 0 rfl rfl 2 (by decide) w2 (fun _ h9 => h9) rfl (by decide +kernel) rfl rfl (Nat.le_of_ble_eq_true rfl) dX6_append_56 (fun H locs hP hD hS => ?_)
      have hP : va_P G.1 vwCl ((zb_6 G b (nI 0) (nI (tn + 1)) ac sp ou) ++ zb_a G (b 1) 120 F9) H := hP
      have hD : va_D A ((zb_6 G b (nI 0) (nI (tn + 1)) ac sp ou) ++ zb_a G (b 1) 120 F9) := hD
      refine lv_aload_n hx hb dX6_append_59 rfl (lv_at hl 0 rfl) ?_
      refine va_get (D := G.1) (ci := 5) (v := .int (nI (tn + 1))) (C := RX6) (T := TX6) (N := 11) hx hb hts (fun _ h => List.mem_cons_of_mem _ (List.mem_append_right _ h)) hown hK hP 0 rfl rfl 2 (by decide) w2 (fun _ h9 => h9) rfl dX6_append_60 ?_
      exact zk_reti (nI 0, tn + 1, F9) hQ hx hb hr hlocks hS hP hD (Nat.le_of_ble_eq_true rfl) (Nat.le_of_ble_eq_true rfl) dX6_append_63 (Or.inl ⟨zIn_of h10_3 (by decide), by omega, rfl, rfl, rfl, eF9⟩)
    · have h23_4 := zk_eq (by omega) (by omega) h23_4
      refine lv_iconst (v := nI 2) hx hb dX6_append_26 (by decide) ?_
      refine lv_goto (tgt := 31) hx hb dX6_append_27 (by decide) ?_
      have hP0 : va_P G.1 vwCl ((zb_6 G b rf (nI tn) ac sp ou) ++ (zb_a G (b 1) 120 ch)) H := zk_Pperm hP (show ((zb_6 G b rf (nI tn) ac sp ou) ++ zb_a G (b 1) 120 ch).Perm ((zb_6 G b rf (nI tn) ac sp ou) ++ (zb_a G (b 1) 120 ch)) from (show ((zb_6 G b rf (nI tn) ac sp ou) ++ zb_a G (b 1) 120 ch).Perm ((zb_6 G b rf (nI tn) ac sp ou) ++ zb_a G (b 1) 120 ch) from List.Perm.refl _).trans (List.Perm.of_eq (by simp only [List.append_assoc, List.append_nil, List.nil_append])))
      have hD0 : va_D A ((zb_6 G b rf (nI tn) ac sp ou) ++ (zb_a G (b 1) 120 ch)) := zk_Dperm hD (show ((zb_6 G b rf (nI tn) ac sp ou) ++ zb_a G (b 1) 120 ch).Perm ((zb_6 G b rf (nI tn) ac sp ou) ++ (zb_a G (b 1) 120 ch)) from (show ((zb_6 G b rf (nI tn) ac sp ou) ++ zb_a G (b 1) 120 ch).Perm ((zb_6 G b rf (nI tn) ac sp ou) ++ zb_a G (b 1) 120 ch) from List.Perm.refl _).trans (List.Perm.of_eq (by simp only [List.append_assoc, List.append_nil, List.nil_append])))
      refine zk_callI (wr := zb_a G (b 1) 120 ch) (va_runV (As := [.int (nI 2)]) (rest := []) ⟨hx, hb, hml, hown, hts⟩ (c_X6_refused l G b rf (nI tn) ac sp ou (nI 2) _) (cwV 1 hts gX6_append_X6_refused rfl rfl rfl (by decide +kernel) ⟨Nat.le_of_ble_eq_true rfl, Nat.le_of_ble_eq_true rfl⟩) (zk_preV hE hA0 hS (zk_Papp hP0).1 (zk_Dapp hD0).1 (va_recv hK hP0 (ci := 5) (q0 := 0) rfl rfl)) rfl rfl hl.1 rfl (lv_room (Nat.le_of_ble_eq_true rfl)) dX6_append_31 ⟨Nat.le_of_ble_eq_true rfl, Nat.le_of_ble_eq_true rfl⟩) hP0 hD0 hS hA (fun r10 u11 H locs q12 hP hD hS => ?_)
      subst q12
      have hP : va_P G.1 vwCl ((zb_6 G b (nI 2) (nI tn) ac sp ou) ++ zb_a G (b 1) 120 ch) H := zk_Pperm hP (show ((zb_6 G b (nI 2) (nI tn) ac sp ou) ++ zb_a G (b 1) 120 ch).Perm ((zb_6 G b (nI 2) (nI tn) ac sp ou) ++ (zb_a G (b 1) 120 ch)) from (show ((zb_6 G b (nI 2) (nI tn) ac sp ou) ++ zb_a G (b 1) 120 ch).Perm ((zb_6 G b (nI 2) (nI tn) ac sp ou) ++ zb_a G (b 1) 120 ch) from List.Perm.refl _).trans (List.Perm.of_eq (by simp only [List.append_assoc, List.append_nil, List.nil_append]))).symm
      have hD : va_D A ((zb_6 G b (nI 2) (nI tn) ac sp ou) ++ zb_a G (b 1) 120 ch) := zk_Dperm hD (show ((zb_6 G b (nI 2) (nI tn) ac sp ou) ++ zb_a G (b 1) 120 ch).Perm ((zb_6 G b (nI 2) (nI tn) ac sp ou) ++ (zb_a G (b 1) 120 ch)) from (show ((zb_6 G b (nI 2) (nI tn) ac sp ou) ++ zb_a G (b 1) 120 ch).Perm ((zb_6 G b (nI 2) (nI tn) ac sp ou) ++ zb_a G (b 1) 120 ch) from List.Perm.refl _).trans (List.Perm.of_eq (by simp only [List.append_assoc, List.append_nil, List.nil_append]))).symm
      refine zk_top (show (if 0 < (nI 2) then nI 1 else nI 0) = nI 1 by decide) ?_
      refine lv_if_eq (tgt := 39) hx hb dX6_append_34 (by decide) (fun z => absurd z (by decide)) (fun _ => ?_)
      refine lv_iconst (v := nI 0) hx hb dX6_append_37 (by decide) ?_
      exact zk_reti (nI 2, tn, ch) hQ hx hb hr hlocks hS hP hD (Nat.le_of_ble_eq_true rfl) (Nat.le_of_ble_eq_true rfl) dX6_append_38 (Or.inr (Or.inr ⟨zIn_of h10_3 (by decide), by omega, rfl, rfl, rfl⟩))
  · have h10_3 := zk_b0 h10_3
    refine lv_iconst (v := nI 1) hx hb dX6_append_13 (by decide) ?_
    refine lv_goto (tgt := 31) hx hb dX6_append_14 (by decide) ?_
    have hP0 : va_P G.1 vwCl ((zb_6 G b rf (nI tn) ac sp ou) ++ (zb_a G (b 1) 120 ch)) H := zk_Pperm hP (show ((zb_6 G b rf (nI tn) ac sp ou) ++ zb_a G (b 1) 120 ch).Perm ((zb_6 G b rf (nI tn) ac sp ou) ++ (zb_a G (b 1) 120 ch)) from (show ((zb_6 G b rf (nI tn) ac sp ou) ++ zb_a G (b 1) 120 ch).Perm ((zb_6 G b rf (nI tn) ac sp ou) ++ zb_a G (b 1) 120 ch) from List.Perm.refl _).trans (List.Perm.of_eq (by simp only [List.append_assoc, List.append_nil, List.nil_append])))
    have hD0 : va_D A ((zb_6 G b rf (nI tn) ac sp ou) ++ (zb_a G (b 1) 120 ch)) := zk_Dperm hD (show ((zb_6 G b rf (nI tn) ac sp ou) ++ zb_a G (b 1) 120 ch).Perm ((zb_6 G b rf (nI tn) ac sp ou) ++ (zb_a G (b 1) 120 ch)) from (show ((zb_6 G b rf (nI tn) ac sp ou) ++ zb_a G (b 1) 120 ch).Perm ((zb_6 G b rf (nI tn) ac sp ou) ++ zb_a G (b 1) 120 ch) from List.Perm.refl _).trans (List.Perm.of_eq (by simp only [List.append_assoc, List.append_nil, List.nil_append])))
    refine zk_callI (wr := zb_a G (b 1) 120 ch) (va_runV (As := [.int (nI 1)]) (rest := []) ⟨hx, hb, hml, hown, hts⟩ (c_X6_refused l G b rf (nI tn) ac sp ou (nI 1) _) (cwV 1 hts gX6_append_X6_refused rfl rfl rfl (by decide +kernel) ⟨Nat.le_of_ble_eq_true rfl, Nat.le_of_ble_eq_true rfl⟩) (zk_preV hE hA0 hS (zk_Papp hP0).1 (zk_Dapp hD0).1 (va_recv hK hP0 (ci := 5) (q0 := 0) rfl rfl)) rfl rfl hl.1 rfl (lv_room (Nat.le_of_ble_eq_true rfl)) dX6_append_31 ⟨Nat.le_of_ble_eq_true rfl, Nat.le_of_ble_eq_true rfl⟩) hP0 hD0 hS hA (fun r13 u14 H locs q15 hP hD hS => ?_)
    subst q15
    have hP : va_P G.1 vwCl ((zb_6 G b (nI 1) (nI tn) ac sp ou) ++ zb_a G (b 1) 120 ch) H := zk_Pperm hP (show ((zb_6 G b (nI 1) (nI tn) ac sp ou) ++ zb_a G (b 1) 120 ch).Perm ((zb_6 G b (nI 1) (nI tn) ac sp ou) ++ (zb_a G (b 1) 120 ch)) from (show ((zb_6 G b (nI 1) (nI tn) ac sp ou) ++ zb_a G (b 1) 120 ch).Perm ((zb_6 G b (nI 1) (nI tn) ac sp ou) ++ zb_a G (b 1) 120 ch) from List.Perm.refl _).trans (List.Perm.of_eq (by simp only [List.append_assoc, List.append_nil, List.nil_append]))).symm
    have hD : va_D A ((zb_6 G b (nI 1) (nI tn) ac sp ou) ++ zb_a G (b 1) 120 ch) := zk_Dperm hD (show ((zb_6 G b (nI 1) (nI tn) ac sp ou) ++ zb_a G (b 1) 120 ch).Perm ((zb_6 G b (nI 1) (nI tn) ac sp ou) ++ (zb_a G (b 1) 120 ch)) from (show ((zb_6 G b (nI 1) (nI tn) ac sp ou) ++ zb_a G (b 1) 120 ch).Perm ((zb_6 G b (nI 1) (nI tn) ac sp ou) ++ zb_a G (b 1) 120 ch) from List.Perm.refl _).trans (List.Perm.of_eq (by simp only [List.append_assoc, List.append_nil, List.nil_append]))).symm
    refine zk_top (show (if 0 < (nI 1) then nI 1 else nI 0) = nI 1 by decide) ?_
    refine lv_if_eq (tgt := 39) hx hb dX6_append_34 (by decide) (fun z => absurd z (by decide)) (fun _ => ?_)
    refine lv_iconst (v := nI 0) hx hb dX6_append_37 (by decide) ?_
    exact zk_reti (nI 1, tn, ch) hQ hx hb hr hlocks hS hP hD (Nat.le_of_ble_eq_true rfl) (Nat.le_of_ble_eq_true rfl) dX6_append_38 (Or.inr (Or.inl ⟨zIn_no h10_3 (by decide), rfl, rfl, rfl⟩))

abbrev rmX6_clearText : Room := { frames := 0, cells := 0, slots := 0, locals := 0 }
set_option maxHeartbeats 4000000 in
set_option maxRecDepth 100000 in
/-- the text is emptied -/
theorem c_X6_clearText (l : Launch) (G : zk_G) (b : Nat → Nat) (rf : Int32) (tn : Nat) (ac : Int32) (sp : Int32) (ou : Int32) (htn : tn ≤ 120) : zk_I (S := Unit) l yX6_clearText wsX6_clearText rmX6_clearText G [.ref (b 0)] (zb_6 G b rf (nI tn) ac sp ou) (fun r _ => r = nI tn) (fun _ => zb_6 G b (nI 0) (nI 0) ac sp ou) := by
  refine zk_bodyI (cc := cX6_clearText) (maxL := 2) (ret := (some .int)) (by decide) rfl (Nat.le_of_ble_eq_true rfl) ?_
  intro p E0 s m args below meth cd A ls Q hF hQ
  obtain ⟨hx, hb, hml, hr, hts, hown, hlocks, -, hE, hP, hD, hS, hA, hA0, hl⟩ := hF
  have hK := hE.1
  have hl : lv_has ls 2 [(0, .ref (b 0))] := hl
  have w1 := hts _ (List.mem_of_getElem? (l := wsX6_clearText) (i := 1) (a := Cond.fieldLink RX6 33 "MealAccountsModel" "refusal" "I") rfl)
  have w2 := hts _ (List.mem_of_getElem? (l := wsX6_clearText) (i := 2) (a := Cond.fieldLink RX6 89 "MealAccountsModel" "size" "I") rfl)
  refine lv_aload_n hx hb dX6_clearText_0 rfl (lv_at hl 0 rfl) ?_
  refine lv_iconst (v := nI 0) hx hb dX6_clearText_1 (by decide) ?_
  refine va_put (D := G.1) (ci := 5) (v := .int (nI 0)) (ty := .int) (C := RX6) (T := TX6) (N := 11) hx hb hts (fun _ h => List.mem_cons_of_mem _ (List.mem_append_right _ h)) tyX6 tyX6_ok nmX6 hown hK hP hD hS 0 rfl rfl 0 (by decide) w1 (fun _ h9 => h9) rfl (by decide +kernel) rfl rfl (Nat.le_of_ble_eq_true rfl) dX6_clearText_2 (fun H locs hP hD hS => ?_)
  have hP : va_P G.1 vwCl (zb_6 G b (nI 0) (nI tn) ac sp ou) H := hP
  have hD : va_D A (zb_6 G b (nI 0) (nI tn) ac sp ou) := hD
  refine lv_aload_n hx hb dX6_clearText_5 rfl (lv_at hl 0 rfl) ?_
  refine va_get (D := G.1) (ci := 5) (v := .int (nI tn)) (C := RX6) (T := TX6) (N := 11) hx hb hts (fun _ h => List.mem_cons_of_mem _ (List.mem_append_right _ h)) hown hK hP 0 rfl rfl 2 (by decide) w2 (fun _ h9 => h9) rfl dX6_clearText_6 ?_
  refine lv_istore_n (lv' := [(1, .int (nI tn)), (0, .ref (b 0))]) hx hb dX6_clearText_9 rfl hl (by decide) rfl (fun ls hl => ?_)
  refine lv_aload_n hx hb dX6_clearText_10 rfl (lv_at hl 1 rfl) ?_
  refine lv_iconst (v := nI 0) hx hb dX6_clearText_11 (by decide) ?_
  refine va_put (D := G.1) (ci := 5) (v := .int (nI 0)) (ty := .int) (C := RX6) (T := TX6) (N := 11) hx hb hts (fun _ h => List.mem_cons_of_mem _ (List.mem_append_right _ h)) tyX6 tyX6_ok nmX6 hown hK hP hD hS 0 rfl rfl 2 (by decide) w2 (fun _ h9 => h9) rfl (by decide +kernel) rfl rfl (Nat.le_of_ble_eq_true rfl) dX6_clearText_12 (fun H locs hP hD hS => ?_)
  have hP : va_P G.1 vwCl (zb_6 G b (nI 0) (nI 0) ac sp ou) H := hP
  have hD : va_D A (zb_6 G b (nI 0) (nI 0) ac sp ou) := hD
  refine lv_iload_n hx hb dX6_clearText_15 rfl (lv_at hl 0 rfl) ?_
  exact zk_reti () hQ hx hb hr hlocks hS hP hD (Nat.le_of_ble_eq_true rfl) (Nat.le_of_ble_eq_true rfl) dX6_clearText_16 (rfl)

abbrev rmX6_number : Room := { frames := 1, cells := 0, slots := 0, locals := 25 }
set_option maxHeartbeats 4000000 in
set_option maxRecDepth 100000 in
/-- a number -/
theorem c_X6_number (l : Launch) (G : zk_G) (b : Nat → Nat) (rf : Int32) (tn : Nat) (ac : Int32) (po : Nat) (ou : Int32) (htn : tn ≤ 120) (ch : Nat → Int32) (dg lo hi : Nat) (hdg1 : 1 ≤ dg) (hdg : dg ≤ 4) (hlo : lo < 10000) (hhi : hi < 10000) (hpo : po ≤ 120) : zk_I (S := Nat) l yX6_number wsX6_number rmX6_number G [.ref (b 0), .int (nI dg), .int (nI lo), .int (nI hi)] ((zb_6 G b rf (nI tn) ac (nI po) ou) ++ zb_a G (b 1) 120 ch) (fun r u => r = sOpt (tRange ch tn lo hi dg 0 po).1 ∧ u = (tRange ch tn lo hi dg 0 po).2) (fun u => zb_6 G b rf (nI tn) ac (nI u) ou ++ zb_a G (b 1) 120 ch) := by
  refine zk_bodyI (cc := cX6_number) (maxL := 8) (ret := (some .int)) (by decide) rfl (Nat.le_of_ble_eq_true rfl) ?_
  intro p E0 s m args below meth cd A ls Q hF hQ
  obtain ⟨hx, hb, hml, hr, hts, hown, hlocks, -, hE, hP, hD, hS, hA, hA0, hl⟩ := hF
  have hK := hE.1
  have hl : lv_has ls 8 [(0, .ref (b 0)), (1, .int (nI dg)), (2, .int (nI lo)), (3, .int (nI hi))] := hl
  have w1 := hts _ (List.mem_of_getElem? (l := wsX6_number) (i := 1) (a := Cond.fieldLink RX6 95 "MealAccountsModel" "spot" "I") rfl)
  have w2 := hts _ (List.mem_of_getElem? (l := wsX6_number) (i := 2) (a := Cond.fieldLink RX6 89 "MealAccountsModel" "size" "I") rfl)
  have w4 := hts _ (List.mem_of_getElem? (l := wsX6_number) (i := 4) (a := Cond.constantLong RX6 98 (9)) rfl)
  have w3 := hts _ (List.mem_of_getElem? (l := wsX6_number) (i := 3) (a := Cond.fieldLink RX6 7 "MealAccountsModel" "text" "[I") rfl)
  refine lv_iconst (v := nI 0) hx hb dX6_number_0 (by decide) ?_
  refine lv_istore (lv' := [(4, .int (nI 0)), (0, .ref (b 0)), (1, .int (nI dg)), (2, .int (nI lo)), (3, .int (nI hi))]) hx hb dX6_number_1 hl (by decide) rfl (fun ls hl => ?_)
  refine lv_iconst (v := nI 1) hx hb dX6_number_3 (by decide) ?_
  refine lv_istore (lv' := [(5, .int (nI 1)), (4, .int (nI 0)), (0, .ref (b 0)), (1, .int (nI dg)), (2, .int (nI lo)), (3, .int (nI hi))]) hx hb dX6_number_4 hl (by decide) rfl (fun ls hl => ?_)
  refine lv_iconst (v := nI 1) hx hb dX6_number_6 (by decide) ?_
  refine lv_istore (lv' := [(6, .int (nI 1)), (5, .int (nI 1)), (4, .int (nI 0)), (0, .ref (b 0)), (1, .int (nI dg)), (2, .int (nI lo)), (3, .int (nI hi))]) hx hb dX6_number_7 hl (by decide) rfl (fun ls hl => ?_)
  have lp1 : ∀ (n3 : Nat) (i : Nat) (y : Nat), dg - i < n3 → (1 ≤ i) → (i ≤ dg) → (y = 10 ^ (i - 1)) → (y ≤ 1000) → ∀ (ls : Array Slot), lv_has ls 8 [(6, .int (nI i)), (5, .int (nI y)), (4, .int (nI 0)), (0, .ref (b 0)), (1, .int (nI dg)), (2, .int (nI lo)), (3, .int (nI hi))] → W p l E0 rmX6_number s m args below meth cd s.heap [] 0 0 Q (F0 m 9 ls []) := by
    intro n3
    induction n3 with
    | zero => intro i y hz; exact absurd hz (Nat.not_lt_zero _)
    | succ n3 ih2 =>
      intro i y hm hi1 hi2 hy hy2 ls hl
      refine lv_iload hx hb dX6_number_9 (lv_at hl 0 rfl) ?_
      refine lv_iload_n hx hb dX6_number_11 rfl (lv_at hl 4 rfl) ?_
      refine lv_icmp_ge (tgt := 28) hx hb dX6_number_12 (by decide) (fun h12_3 => ?_) (fun h12_3 => ?_)
      · have h12_3 := zk_le (by omega) (by omega) h12_3
        have lp5 : ∀ (n7 : Nat) (k : Nat) (bb : Nat) (pp : Nat) (v : Nat) (y : Nat), k < n7 → (k ≤ dg) → (pp ≤ 120) → ((bb + 1) * 10 ^ k ≤ 10000) → (tRange ch tn lo hi dg 0 po = tRange ch tn lo hi k bb pp) → (v = bb * 10 ^ k) → (y = uN k) → (v ≤ 10000) → (y ≤ 1000) → ∀ (H : Heap) (locs : List Loc) (hP : va_P G.1 vwCl ((zb_6 G b rf (nI tn) ac (nI pp) ou) ++ zb_a G (b 1) 120 ch) H) (hD : va_D A ((zb_6 G b rf (nI tn) ac (nI pp) ou) ++ zb_a G (b 1) 120 ch)) (hS : va_S A s.heap H locs) (ls : Array Slot), lv_has ls 8 [(5, .int (nI y)), (4, .int (nI v)), (0, .ref (b 0)), (1, .int (nI dg)), (2, .int (nI lo)), (3, .int (nI hi))] → W p l E0 rmX6_number s m args below meth cd H locs 0 0 Q (F0 m 28 ls []) := by
          intro n7
          induction n7 with
          | zero => intro k bb pp v y hz; exact absurd hz (Nat.not_lt_zero _)
          | succ n7 ih6 =>
            intro k bb pp v y hm hk hp hb2 hq2 hv hy hv2 hy3 H locs hP hD hS ls hl
            refine lv_iload hx hb dX6_number_28 (lv_at hl 0 rfl) ?_
            refine lv_if_le (tgt := 128) hx hb dX6_number_30 (by decide) (fun h30_7 => ?_) (fun h30_7 => ?_)
            · have h30_7 := zk_le0 (by omega) h30_7
              refine lv_iload hx hb dX6_number_128 (lv_at hl 1 rfl) ?_
              exact zk_reti pp hQ hx hb hr hlocks hS hP hD (Nat.le_of_ble_eq_true rfl) (Nat.le_of_ble_eq_true rfl) dX6_number_130 (by rw [hq2, uN_0 (k := k) (by omega)]; show nI v = nI bb ∧ pp = pp; rw [hv, uN_0 (k := k) (by omega), Nat.pow_zero, Nat.mul_one]; exact ⟨rfl, rfl⟩)
            · have h30_7 := zk_nle0 (by omega) h30_7
              refine lv_aload_n hx hb dX6_number_33 rfl (lv_at hl 2 rfl) ?_
              refine va_get (D := G.1) (ci := 5) (v := .int (nI pp)) (C := RX6) (T := TX6) (N := 11) hx hb hts (fun _ h => List.mem_cons_of_mem _ (List.mem_append_right _ h)) hown hK hP 0 rfl rfl 9 (by decide) w1 (fun _ h9 => h9) rfl dX6_number_34 ?_
              refine lv_aload_n hx hb dX6_number_37 rfl (lv_at hl 2 rfl) ?_
              refine va_get (D := G.1) (ci := 5) (v := .int (nI tn)) (C := RX6) (T := TX6) (N := 11) hx hb hts (fun _ h => List.mem_cons_of_mem _ (List.mem_append_right _ h)) hown hK hP 0 rfl rfl 2 (by decide) w2 (fun _ h9 => h9) rfl dX6_number_38 ?_
              refine lv_icmp_ge (tgt := 59) hx hb dX6_number_41 (by decide) (fun h41_8 => ?_) (fun h41_8 => ?_)
              · have h41_8 := zk_le (by omega) (by omega) h41_8
                refine lv_iconst (v := -1) hx hb dX6_number_59 (by decide) ?_
                refine lv_topi (fun x10 ex10 => ?_)
                refine lv_istore (lv' := [(6, .int x10), (5, .int (nI y)), (4, .int (nI v)), (0, .ref (b 0)), (1, .int (nI dg)), (2, .int (nI lo)), (3, .int (nI hi))]) hx hb dX6_number_60 hl (by decide) rfl (fun ls hl => ?_)
                refine lv_iload hx hb dX6_number_62 (lv_at hl 2 rfl) ?_
                refine lv_iload hx hb dX6_number_64 (lv_at hl 0 rfl) ?_
                refine lv_iload hx hb dX6_number_66 (lv_at hl 1 rfl) ?_
                refine lv_imul hx hb dX6_number_68 ?_
                refine lv_iadd hx hb dX6_number_69 ?_
                refine lv_topi (fun x11 ex11 => ?_)
                refine lv_istore (lv' := [(7, .int x11), (6, .int x10), (5, .int (nI y)), (4, .int (nI v)), (0, .ref (b 0)), (1, .int (nI dg)), (2, .int (nI lo)), (3, .int (nI hi))]) hx hb dX6_number_70 hl (by decide) rfl (fun ls hl => ?_)
                refine lv_iload hx hb dX6_number_72 (lv_at hl 1 rfl) ?_
                refine lv_i2l (v := x10.toInt64) hx hb dX6_number_74 rfl ?_
                refine lv_lconst (v := lN 0) hx hb dX6_number_75 rfl ?_
                refine zk_topL (show lN 0 = (nI 0).toInt64 from (nI_l (by decide)).symm) ?_
                refine lv_ldc2 hx hb (v := lN 9) hown w4 dX6_number_76 ?_
                refine zk_topL (show lN 9 = (nI 9).toInt64 from (nI_l (by decide)).symm) ?_
                have hP0 : va_P G.1 vwCl (([] : va_W) ++ ((zb_6 G b rf (nI tn) ac (nI pp) ou) ++ zb_a G (b 1) 120 ch)) H := hP
                have hD0 : va_D A (([] : va_W) ++ ((zb_6 G b rf (nI tn) ac (nI pp) ou) ++ zb_a G (b 1) 120 ch)) := hD
                refine zk_callI (wr := (zb_6 G b rf (nI tn) ac (nI pp) ou) ++ zb_a G (b 1) 120 ch) (va_runS (As := [.long x10.toInt64, .long ((nI 0).toInt64), .long ((nI 9).toInt64)]) (rest := []) ⟨hx, hb, hml, hown, hts⟩ (c_X6_inI l G x10 (nI 0) (nI 9) _) (cwS 3 hts gX6_number_X6_in rfl rfl rfl (by decide +kernel) ⟨Nat.le_of_ble_eq_true rfl, Nat.le_of_ble_eq_true rfl⟩) (zk_preS hE hA0 hS (zk_Papp hP0).1 (zk_Dapp hD0).1) rfl rfl hl.1 rfl (lv_room (Nat.le_of_ble_eq_true rfl)) dX6_number_79 ⟨Nat.le_of_ble_eq_true rfl, Nat.le_of_ble_eq_true rfl⟩) hP0 hD0 hS hA (fun r12 u13 H locs q14 hP hD hS => ?_)
                subst q14
                have hP : va_P G.1 vwCl ((zb_6 G b rf (nI tn) ac (nI pp) ou) ++ zb_a G (b 1) 120 ch) H := hP
                have hD : va_D A ((zb_6 G b rf (nI tn) ac (nI pp) ou) ++ zb_a G (b 1) 120 ch) := hD
                refine lv_if_eq (tgt := 102) hx hb dX6_number_82 (by decide) (fun h82_14 => ?_) (fun h82_14 => ?_)
                · have h82_14 := zk_b0 h82_14
                  refine lv_iconst (v := -1) hx hb dX6_number_102 (by decide) ?_
                  exact zk_reti pp hQ hx hb hr hlocks hS hP hD (Nat.le_of_ble_eq_true rfl) (Nat.le_of_ble_eq_true rfl) dX6_number_103 (by obtain ⟨j, rfl, ey⟩ := uN_1 (k := k) (by omega); rw [hq2, tRange, if_pos (show ¬ pp < tn by omega)]; exact ⟨rfl, rfl⟩)
                · have h82_14 := zk_b1 h82_14
                  exact absurd h82_14.1 (by rw [ex10]; decide)
              · have h41_8 := zk_nle (by omega) (by omega) h41_8
                refine lv_aload_n hx hb dX6_number_44 rfl (lv_at hl 2 rfl) ?_
                refine va_get (D := G.1) (ci := 5) (v := .ref (b 1)) (C := RX6) (T := TX6) (N := 11) hx hb hts (fun _ h => List.mem_cons_of_mem _ (List.mem_append_right _ h)) hown hK hP 0 rfl rfl 1 (by decide) w3 (fun _ h9 => h9) rfl dX6_number_45 ?_
                refine lv_aload_n hx hb dX6_number_48 rfl (lv_at hl 2 rfl) ?_
                refine va_get (D := G.1) (ci := 5) (v := .int (nI pp)) (C := RX6) (T := TX6) (N := 11) hx hb hts (fun _ h => List.mem_cons_of_mem _ (List.mem_append_right _ h)) hown hK hP 0 rfl rfl 9 (by decide) w1 (fun _ h9 => h9) rfl dX6_number_49 ?_
                refine zk_ialdN hx hb hK hP 1 0 rfl rfl (k := pp) (n := 120) (by omega) (by omega) dX6_number_52 ?_
                refine lv_bipush (v := nI 48) hx hb dX6_number_53 (by decide) ?_
                refine lv_isub hx hb dX6_number_55 ?_
                refine lv_goto (tgt := 60) hx hb dX6_number_56 (by decide) ?_
                refine lv_topi (fun x16 ex16 => ?_)
                refine lv_istore (lv' := [(6, .int x16), (5, .int (nI y)), (4, .int (nI v)), (0, .ref (b 0)), (1, .int (nI dg)), (2, .int (nI lo)), (3, .int (nI hi))]) hx hb dX6_number_60 hl (by decide) rfl (fun ls hl => ?_)
                refine lv_iload hx hb dX6_number_62 (lv_at hl 2 rfl) ?_
                refine lv_iload hx hb dX6_number_64 (lv_at hl 0 rfl) ?_
                refine lv_iload hx hb dX6_number_66 (lv_at hl 1 rfl) ?_
                refine lv_imul hx hb dX6_number_68 ?_
                refine lv_iadd hx hb dX6_number_69 ?_
                refine lv_topi (fun x17 ex17 => ?_)
                refine lv_istore (lv' := [(7, .int x17), (6, .int x16), (5, .int (nI y)), (4, .int (nI v)), (0, .ref (b 0)), (1, .int (nI dg)), (2, .int (nI lo)), (3, .int (nI hi))]) hx hb dX6_number_70 hl (by decide) rfl (fun ls hl => ?_)
                refine lv_iload hx hb dX6_number_72 (lv_at hl 1 rfl) ?_
                refine lv_i2l (v := x16.toInt64) hx hb dX6_number_74 rfl ?_
                refine lv_lconst (v := lN 0) hx hb dX6_number_75 rfl ?_
                refine zk_topL (show lN 0 = (nI 0).toInt64 from (nI_l (by decide)).symm) ?_
                refine lv_ldc2 hx hb (v := lN 9) hown w4 dX6_number_76 ?_
                refine zk_topL (show lN 9 = (nI 9).toInt64 from (nI_l (by decide)).symm) ?_
                have hP0 : va_P G.1 vwCl (([] : va_W) ++ ((zb_6 G b rf (nI tn) ac (nI pp) ou) ++ zb_a G (b 1) 120 ch)) H := hP
                have hD0 : va_D A (([] : va_W) ++ ((zb_6 G b rf (nI tn) ac (nI pp) ou) ++ zb_a G (b 1) 120 ch)) := hD
                refine zk_callI (wr := (zb_6 G b rf (nI tn) ac (nI pp) ou) ++ zb_a G (b 1) 120 ch) (va_runS (As := [.long x16.toInt64, .long ((nI 0).toInt64), .long ((nI 9).toInt64)]) (rest := []) ⟨hx, hb, hml, hown, hts⟩ (c_X6_inI l G x16 (nI 0) (nI 9) _) (cwS 3 hts gX6_number_X6_in rfl rfl rfl (by decide +kernel) ⟨Nat.le_of_ble_eq_true rfl, Nat.le_of_ble_eq_true rfl⟩) (zk_preS hE hA0 hS (zk_Papp hP0).1 (zk_Dapp hD0).1) rfl rfl hl.1 rfl (lv_room (Nat.le_of_ble_eq_true rfl)) dX6_number_79 ⟨Nat.le_of_ble_eq_true rfl, Nat.le_of_ble_eq_true rfl⟩) hP0 hD0 hS hA (fun r18 u19 H locs q20 hP hD hS => ?_)
                subst q20
                have hP : va_P G.1 vwCl ((zb_6 G b rf (nI tn) ac (nI pp) ou) ++ zb_a G (b 1) 120 ch) H := hP
                have hD : va_D A ((zb_6 G b rf (nI tn) ac (nI pp) ou) ++ zb_a G (b 1) 120 ch) := hD
                refine lv_if_eq (tgt := 102) hx hb dX6_number_82 (by decide) (fun h82_20 => ?_) (fun h82_20 => ?_)
                · have h82_20 := zk_b0 h82_20
                  refine lv_iconst (v := -1) hx hb dX6_number_102 (by decide) ?_
                  exact zk_reti pp hQ hx hb hr hlocks hS hP hD (Nat.le_of_ble_eq_true rfl) (Nat.le_of_ble_eq_true rfl) dX6_number_103 (by obtain ⟨j, rfl, ey⟩ := uN_1 (k := k) (by omega); rw [hq2, tRange, if_neg (show ¬ ¬ pp < tn by omega), if_pos (by rw [← ex16]; exact zin_or h82_20)]; exact ⟨rfl, rfl⟩)
                · have h82_20 := zk_b1 h82_20
                  obtain ⟨ed, hd9⟩ := tDig_9 (c := ch pp) (by rw [← ex16]; exact h82_20.1) (by rw [← ex16]; exact h82_20.2)
                  have hno : ¬ (ch pp - nI 48 < 0 ∨ nI 9 < ch pp - nI 48) := fun w => w.elim (by rw [← ex16]; exact h82_20.1) (by rw [← ex16]; exact h82_20.2)
                  obtain ⟨j, rfl, ey⟩ := uN_1 (k := k) (by omega)
                  have hbb : (10 * bb + tDig (ch pp) + 1) * 10 ^ j ≤ 10000 := by
                    refine Nat.le_trans ?_ hb2
                    rw [Nat.pow_succ, Nat.mul_comm (10 ^ j) 10, ← Nat.mul_assoc]
                    exact Nat.mul_le_mul_right _ (by omega)
                  have hbs : (10 * bb + tDig (ch pp) + 1) * 10 ^ j = (10 * bb + tDig (ch pp)) * 10 ^ j + 10 ^ j := Nat.succ_mul _ _
                  have hp10 : 1 ≤ 10 ^ j := Nat.pow_pos (by decide)
                  have ex7 : x17 = nI ((10 * bb + tDig (ch pp)) * 10 ^ j) := by
                    rw [ex17, ex16, ed, hv, hy, ey, pk_mul, nI_add, Nat.pow_succ, Nat.mul_comm (10 ^ j) 10, ← Nat.mul_assoc, ← Nat.add_mul, Nat.mul_comm bb 10]
                  have ey2 : y = 10 ^ j := hy.trans ey
                  have hl : lv_has ls 8 [(7, .int (nI ((10 * bb + tDig (ch pp)) * 10 ^ j))), (6, .int x16), (5, .int (nI (10 ^ j))), (4, .int (nI v)), (0, .ref (b 0)), (1, .int (nI dg)), (2, .int (nI lo)), (3, .int (nI hi))] := by rw [ex7, ey2] at hl; exact hl
                  refine lv_iload hx hb dX6_number_85 (lv_at hl 0 rfl) ?_
                  refine lv_iload_n hx hb dX6_number_87 rfl (lv_at hl 7 rfl) ?_
                  refine lv_icmp_gt (tgt := 102) hx hb dX6_number_88 (by decide) (fun h88_21 => ?_) (fun h88_21 => ?_)
                  · have h88_21 := zk_lt (by omega) (by omega) h88_21
                    refine lv_iconst (v := -1) hx hb dX6_number_102 (by decide) ?_
                    exact zk_reti pp hQ hx hb hr hlocks hS hP hD (Nat.le_of_ble_eq_true rfl) (Nat.le_of_ble_eq_true rfl) dX6_number_103 (by rw [hq2, tRange, if_neg (show ¬ ¬ pp < tn by omega), if_neg hno, if_pos (Or.inl (by omega))]; exact ⟨rfl, rfl⟩)
                  · have h88_21 := zk_nlt (by omega) (by omega) h88_21
                    refine lv_iload hx hb dX6_number_91 (lv_at hl 0 rfl) ?_
                    refine lv_iload hx hb dX6_number_93 (lv_at hl 2 rfl) ?_
                    refine zk_iaddN hx hb dX6_number_95 ?_
                    refine lv_iconst (v := nI 1) hx hb dX6_number_96 (by decide) ?_
                    refine zk_isubN hx hb dX6_number_97 (by omega) ?_
                    refine lv_iload_n hx hb dX6_number_98 rfl (lv_at hl 6 rfl) ?_
                    refine lv_icmp_ge (tgt := 104) hx hb dX6_number_99 (by decide) (fun h99_22 => ?_) (fun h99_22 => ?_)
                    · have h99_22 := zk_le (by omega) (by omega) h99_22
                      refine lv_iload hx hb dX6_number_104 (lv_at hl 0 rfl) ?_
                      refine lv_istore (lv' := [(4, .int (nI ((10 * bb + tDig (ch pp)) * 10 ^ j))), (7, .int (nI ((10 * bb + tDig (ch pp)) * 10 ^ j))), (6, .int x16), (5, .int (nI (10 ^ j))), (0, .ref (b 0)), (1, .int (nI dg)), (2, .int (nI lo)), (3, .int (nI hi))]) hx hb dX6_number_106 hl (by decide) rfl (fun ls hl => ?_)
                      refine lv_iload hx hb dX6_number_108 (lv_at hl 3 rfl) ?_
                      refine lv_bipush (v := nI 10) hx hb dX6_number_110 (by decide) ?_
                      refine zk_idivN hx hb dX6_number_112 (by omega) (by omega) (by omega) ?_
                      refine lv_istore (lv' := [(5, .int (nI ((10 ^ j) / 10))), (4, .int (nI ((10 * bb + tDig (ch pp)) * 10 ^ j))), (7, .int (nI ((10 * bb + tDig (ch pp)) * 10 ^ j))), (6, .int x16), (0, .ref (b 0)), (1, .int (nI dg)), (2, .int (nI lo)), (3, .int (nI hi))]) hx hb dX6_number_113 hl (by decide) rfl (fun ls hl => ?_)
                      refine lv_aload_n hx hb dX6_number_115 rfl (lv_at hl 4 rfl) ?_
                      refine lv_dup hx hb dX6_number_116 rfl ?_
                      refine va_get (D := G.1) (ci := 5) (v := .int (nI pp)) (C := RX6) (T := TX6) (N := 11) hx hb hts (fun _ h => List.mem_cons_of_mem _ (List.mem_append_right _ h)) hown hK hP 0 rfl rfl 9 (by decide) w1 (fun _ h9 => h9) rfl dX6_number_117 ?_
                      refine lv_iconst (v := nI 1) hx hb dX6_number_120 (by decide) ?_
                      refine zk_iaddN hx hb dX6_number_121 ?_
                      refine va_put (D := G.1) (ci := 5) (v := .int (nI (pp + 1))) (ty := .int) (C := RX6) (T := TX6) (N := 11) hx hb hts (fun _ h => List.mem_cons_of_mem _ (List.mem_append_right _ h)) tyX6 tyX6_ok nmX6 hown hK hP hD hS 0 rfl rfl 9 (by decide) w1 (fun _ h9 => h9) rfl (by decide +kernel) rfl rfl (Nat.le_of_ble_eq_true rfl) dX6_number_122 (fun H locs hP hD hS => ?_)
                      have hP : va_P G.1 vwCl ((zb_6 G b rf (nI tn) ac (nI (pp + 1)) ou) ++ zb_a G (b 1) 120 ch) H := hP
                      have hD : va_D A ((zb_6 G b rf (nI tn) ac (nI (pp + 1)) ou) ++ zb_a G (b 1) 120 ch) := hD
                      refine lv_goto (tgt := 28) hx hb dX6_number_125 (by decide) ?_
                      exact ih6 j (10 * bb + tDig (ch pp)) (pp + 1) ((10 * bb + tDig (ch pp)) * 10 ^ j) ((10 ^ j) / 10) (by omega) (by omega) (by omega) (hbb) (by rw [hq2, tRange, if_neg (show ¬ ¬ pp < tn by omega), if_neg hno, if_neg (fun w => w.elim (fun w => by omega) (fun w => by omega))]) (rfl) (uN_s j) (by omega) (by omega) _ _ hP hD hS ls (lv_sub hl [0, 1, 4, 5, 6, 7] rfl)
                    · have h99_22 := zk_nle (by omega) (by omega) h99_22
                      refine lv_iconst (v := -1) hx hb dX6_number_102 (by decide) ?_
                      exact zk_reti pp hQ hx hb hr hlocks hS hP hD (Nat.le_of_ble_eq_true rfl) (Nat.le_of_ble_eq_true rfl) dX6_number_103 (by rw [hq2, tRange, if_neg (show ¬ ¬ pp < tn by omega), if_neg hno, if_pos (Or.inr (by omega))]; exact ⟨rfl, rfl⟩)
        exact lp5 _ dg 0 po 0 y (Nat.lt_succ_self _) (Nat.le_refl _) (hpo) (by rcases (show dg = 1 ∨ dg = 2 ∨ dg = 3 ∨ dg = 4 by omega) with rfl | rfl | rfl | rfl <;> decide) (rfl) ((Nat.zero_mul _).symm) (by rw [hy, show i = dg by omega]; rcases (show dg = 1 ∨ dg = 2 ∨ dg = 3 ∨ dg = 4 by omega) with rfl | rfl | rfl | rfl <;> rfl) (by omega) (by omega) _ _ hP hD hS ls (lv_sub hl [1, 2, 3, 4, 5, 6] rfl)
      · have h12_3 := zk_nle (by omega) (by omega) h12_3
        refine lv_iload hx hb dX6_number_15 (lv_at hl 1 rfl) ?_
        refine lv_bipush (v := nI 10) hx hb dX6_number_17 (by decide) ?_
        refine zk_imulN hx hb dX6_number_19 ?_
        refine lv_istore (lv' := [(5, .int (nI (y * 10))), (6, .int (nI i)), (4, .int (nI 0)), (0, .ref (b 0)), (1, .int (nI dg)), (2, .int (nI lo)), (3, .int (nI hi))]) hx hb dX6_number_20 hl (by decide) rfl (fun ls hl => ?_)
        refine lv_iinc (v := nI (i + 1)) (lv' := [(6, .int (nI (i + 1))), (5, .int (nI (y * 10))), (4, .int (nI 0)), (0, .ref (b 0)), (1, .int (nI dg)), (2, .int (nI lo)), (3, .int (nI hi))]) hx hb dX6_number_22 hl (k := 1) rfl (zk_inc i 1) (by decide) rfl (fun ls hl => ?_)
        refine lv_goto (tgt := 9) hx hb dX6_number_25 (by decide) ?_
        exact ih2 (i + 1) (y * 10) (by omega) (by omega) (by omega) (by rw [hy, show i + 1 - 1 = (i - 1) + 1 by omega, Nat.pow_succ]) (by rw [hy]; rcases (show i = 1 ∨ i = 2 ∨ i = 3 by omega) with z | z | z <;> rw [z] <;> decide) ls (lv_sub hl [0, 1, 2, 3, 4, 5, 6] rfl)
  exact lp1 _ 1 1 (Nat.lt_succ_self _) (by omega) (by omega) (rfl) (by decide) ls (lv_sub hl [0, 1, 2, 3, 4, 5, 6] rfl)

abbrev rmX6_readCommand : Room := { frames := 5, cells := 0, slots := 0, locals := 120 }
set_option maxHeartbeats 4000000 in
set_option maxRecDepth 100000 in
/-- a command is read and done -/
theorem c_X6_readCommand (l : Launch) (G : zk_G) (b : Nat → Nat) (rf : Int32) (tn : Nat) (ac : Int32) (po : Nat) (ou : Int32) (htn : tn ≤ 120) (ch : Nat → Int32) (hlt : po < tn) (K : zL) (hI : sInv K (zN K) (zT K)) (hp0 : ¬ K 0 2 < nI 1) : zk_I (S := Nat × zL × Int32) l yX6_readCommand wsX6_readCommand rmX6_readCommand G [.ref (b 0), .ref (b 3)] ((zb_6 G b rf (nI tn) ac (nI po) ou) ++ ((zb_a G (b 1) 120 ch) ++ zb_r G (b 3) K)) (fun r u => r = (if (kTStep ch tn (true, po, K, ou)).1 = true then nI 1 else nI 0) ∧ u = (kTStep ch tn (true, po, K, ou)).2 ∧ sInv u.2.1 (zN u.2.1) (zT u.2.1) ∧ u.2.1 0 2 = K 0 2) (fun u => zb_6 G b rf (nI tn) ac (nI u.1) u.2.2 ++ (zb_a G (b 1) 120 ch ++ zb_r G (b 3) u.2.1)) := by
  refine zk_bodyI (cc := cX6_readCommand) (maxL := 6) (ret := (some .boolean)) (by decide) rfl (Nat.le_of_ble_eq_true rfl) ?_
  intro p E0 s m args below meth cd A ls Q hF hQ
  obtain ⟨hx, hb, hml, hr, hts, hown, hlocks, -, hE, hP, hD, hS, hA, hA0, hl⟩ := hF
  have hK := hE.1
  have hl : lv_has ls 6 [(0, .ref (b 0)), (1, .ref (b 3))] := hl
  obtain ⟨hn, hn12, ht, ht40, hfam, hpay⟩ := id hI
  have w1 := hts _ (List.mem_of_getElem? (l := wsX6_readCommand) (i := 1) (a := Cond.fieldLink RX6 7 "MealAccountsModel" "text" "[I") rfl)
  have w2 := hts _ (List.mem_of_getElem? (l := wsX6_readCommand) (i := 2) (a := Cond.fieldLink RX6 95 "MealAccountsModel" "spot" "I") rfl)
  have w3 := hts _ (List.mem_of_getElem? (l := wsX6_readCommand) (i := 3) (a := Cond.fieldLink RX6 129 "MealAccountsModel" "out" "I") rfl)
  refine lv_aload_n hx hb dX6_readCommand_0 rfl (lv_at hl 0 rfl) ?_
  refine va_get (D := G.1) (ci := 5) (v := .ref (b 1)) (C := RX6) (T := TX6) (N := 11) hx hb hts (fun _ h => List.mem_cons_of_mem _ (List.mem_append_right _ h)) hown hK hP 0 rfl rfl 1 (by decide) w1 (fun _ h9 => h9) rfl dX6_readCommand_1 ?_
  refine lv_aload_n hx hb dX6_readCommand_4 rfl (lv_at hl 0 rfl) ?_
  refine va_get (D := G.1) (ci := 5) (v := .int (nI po)) (C := RX6) (T := TX6) (N := 11) hx hb hts (fun _ h => List.mem_cons_of_mem _ (List.mem_append_right _ h)) hown hK hP 0 rfl rfl 9 (by decide) w2 (fun _ h9 => h9) rfl dX6_readCommand_5 ?_
  refine zk_ialdN hx hb hK hP 1 0 rfl rfl (k := po) (n := 120) (by omega) (by omega) dX6_readCommand_8 ?_
  refine lv_istore_n (lv' := [(2, .int (ch po)), (0, .ref (b 0)), (1, .ref (b 3))]) hx hb dX6_readCommand_9 rfl hl (by decide) rfl (fun ls hl => ?_)
  refine lv_aload_n hx hb dX6_readCommand_10 rfl (lv_at hl 1 rfl) ?_
  refine lv_dup hx hb dX6_readCommand_11 rfl ?_
  refine va_get (D := G.1) (ci := 5) (v := .int (nI po)) (C := RX6) (T := TX6) (N := 11) hx hb hts (fun _ h => List.mem_cons_of_mem _ (List.mem_append_right _ h)) hown hK hP 0 rfl rfl 9 (by decide) w2 (fun _ h9 => h9) rfl dX6_readCommand_12 ?_
  refine lv_iconst (v := nI 1) hx hb dX6_readCommand_15 (by decide) ?_
  refine zk_iaddN hx hb dX6_readCommand_16 ?_
  refine va_put (D := G.1) (ci := 5) (v := .int (nI (po + 1))) (ty := .int) (C := RX6) (T := TX6) (N := 11) hx hb hts (fun _ h => List.mem_cons_of_mem _ (List.mem_append_right _ h)) tyX6 tyX6_ok nmX6 hown hK hP hD hS 0 rfl rfl 9 (by decide) w2 (fun _ h9 => h9) rfl (by decide +kernel) rfl rfl (Nat.le_of_ble_eq_true rfl) dX6_readCommand_17 (fun H locs hP hD hS => ?_)
  have hP : va_P G.1 vwCl ((zb_6 G b rf (nI tn) ac (nI (po + 1)) ou) ++ ((zb_a G (b 1) 120 ch) ++ zb_r G (b 3) K)) H := hP
  have hD : va_D A ((zb_6 G b rf (nI tn) ac (nI (po + 1)) ou) ++ ((zb_a G (b 1) 120 ch) ++ zb_r G (b 3) K)) := hD
  refine lv_iconst (v := nI 0) hx hb dX6_readCommand_20 (by decide) ?_
  refine lv_istore_n (lv' := [(3, .int (nI 0)), (2, .int (ch po)), (0, .ref (b 0)), (1, .ref (b 3))]) hx hb dX6_readCommand_21 rfl hl (by decide) rfl (fun ls hl => ?_)
  refine lv_iconst (v := nI 0) hx hb dX6_readCommand_22 (by decide) ?_
  refine lv_istore (lv' := [(4, .int (nI 0)), (3, .int (nI 0)), (2, .int (ch po)), (0, .ref (b 0)), (1, .ref (b 3))]) hx hb dX6_readCommand_23 hl (by decide) rfl (fun ls hl => ?_)
  refine lv_iconst (v := nI 0) hx hb dX6_readCommand_25 (by decide) ?_
  refine lv_istore (lv' := [(5, .int (nI 0)), (4, .int (nI 0)), (3, .int (nI 0)), (2, .int (ch po)), (0, .ref (b 0)), (1, .ref (b 3))]) hx hb dX6_readCommand_26 hl (by decide) rfl (fun ls hl => ?_)
  refine lv_iload_n hx hb dX6_readCommand_28 rfl (lv_at hl 3 rfl) ?_
  rcases Decidable.em (ch po = nI 99) with h1_99 | h1_n99
  · refine lv_tableIn (tgt := 100) hx hb dX6_readCommand_29 (by rw [h1_99]; decide) (by rw [h1_99]; decide) (by rw [h1_99]; rfl) (by decide) ?_
    refine lv_aload_n hx hb dX6_readCommand_100 rfl (lv_at hl 4 rfl) ?_
    refine lv_iconst (v := nI 1) hx hb dX6_readCommand_101 (by decide) ?_
    refine lv_iconst (v := nI 0) hx hb dX6_readCommand_102 (by decide) ?_
    refine lv_iconst (v := nI 4) hx hb dX6_readCommand_103 (by decide) ?_
    have hP0 : va_P G.1 vwCl ((zb_6 G b rf (nI tn) ac (nI (po + 1)) ou ++ zb_a G (b 1) 120 ch) ++ (zb_r G (b 3) K)) H := zk_Pperm hP (show ((zb_6 G b rf (nI tn) ac (nI (po + 1)) ou) ++ ((zb_a G (b 1) 120 ch) ++ zb_r G (b 3) K)).Perm ((zb_6 G b rf (nI tn) ac (nI (po + 1)) ou ++ zb_a G (b 1) 120 ch) ++ (zb_r G (b 3) K)) from (show ((zb_6 G b rf (nI tn) ac (nI (po + 1)) ou) ++ ((zb_a G (b 1) 120 ch) ++ zb_r G (b 3) K)).Perm ((zb_6 G b rf (nI tn) ac (nI (po + 1)) ou) ++ ((zb_a G (b 1) 120 ch) ++ zb_r G (b 3) K)) from ((List.perm_append_comm_assoc _ _ _)).trans (List.perm_append_comm_assoc _ _ _)).trans (List.Perm.of_eq (by simp only [List.append_assoc, List.append_nil, List.nil_append])))
    have hD0 : va_D A ((zb_6 G b rf (nI tn) ac (nI (po + 1)) ou ++ zb_a G (b 1) 120 ch) ++ (zb_r G (b 3) K)) := zk_Dperm hD (show ((zb_6 G b rf (nI tn) ac (nI (po + 1)) ou) ++ ((zb_a G (b 1) 120 ch) ++ zb_r G (b 3) K)).Perm ((zb_6 G b rf (nI tn) ac (nI (po + 1)) ou ++ zb_a G (b 1) 120 ch) ++ (zb_r G (b 3) K)) from (show ((zb_6 G b rf (nI tn) ac (nI (po + 1)) ou) ++ ((zb_a G (b 1) 120 ch) ++ zb_r G (b 3) K)).Perm ((zb_6 G b rf (nI tn) ac (nI (po + 1)) ou) ++ ((zb_a G (b 1) 120 ch) ++ zb_r G (b 3) K)) from ((List.perm_append_comm_assoc _ _ _)).trans (List.perm_append_comm_assoc _ _ _)).trans (List.Perm.of_eq (by simp only [List.append_assoc, List.append_nil, List.nil_append])))
    refine zk_callI (wr := zb_r G (b 3) K) (va_runV (As := [.int (nI 1), .int (nI 0), .int (nI 4)]) (rest := []) ⟨hx, hb, hml, hown, hts⟩ (c_X6_number l G b rf tn ac (po + 1) ou htn ch 1 0 4 (by decide) (by decide) (by decide) (by decide) (by omega) _) (cwV 3 hts gX6_readCommand_X6_number rfl rfl rfl (by decide +kernel) ⟨Nat.le_of_ble_eq_true rfl, Nat.le_of_ble_eq_true rfl⟩) (zk_preV hE hA0 hS (zk_Papp hP0).1 (zk_Dapp hD0).1 (va_recv hK hP0 (ci := 5) (q0 := 0) rfl rfl)) rfl rfl hl.1 rfl (lv_room (Nat.le_of_ble_eq_true rfl)) dX6_readCommand_104 ⟨Nat.le_of_ble_eq_true rfl, Nat.le_of_ble_eq_true rfl⟩) hP0 hD0 hS hA (fun r2 u3 H locs q4 hP hD hS => ?_)
    obtain ⟨er2, eu3⟩ := q4
    subst eu3
    have hmr2 : ∀ v, (tRange ch tn 0 4 1 0 (po + 1)).1 = some v → v ≤ 4 := fun v hv => tRange_in (by decide) hv
    have hP : va_P G.1 vwCl ((zb_6 G b rf (nI tn) ac (nI ((tRange ch tn 0 4 1 0 (po + 1)).2)) ou) ++ ((zb_a G (b 1) 120 ch) ++ zb_r G (b 3) K)) H := zk_Pperm hP (show ((zb_6 G b rf (nI tn) ac (nI ((tRange ch tn 0 4 1 0 (po + 1)).2)) ou) ++ ((zb_a G (b 1) 120 ch) ++ zb_r G (b 3) K)).Perm ((zb_6 G b rf (nI tn) ac (nI ((tRange ch tn 0 4 1 0 (po + 1)).2)) ou ++ zb_a G (b 1) 120 ch) ++ (zb_r G (b 3) K)) from (show ((zb_6 G b rf (nI tn) ac (nI ((tRange ch tn 0 4 1 0 (po + 1)).2)) ou) ++ ((zb_a G (b 1) 120 ch) ++ zb_r G (b 3) K)).Perm ((zb_6 G b rf (nI tn) ac (nI ((tRange ch tn 0 4 1 0 (po + 1)).2)) ou) ++ ((zb_a G (b 1) 120 ch) ++ zb_r G (b 3) K)) from ((List.perm_append_comm_assoc _ _ _)).trans (List.perm_append_comm_assoc _ _ _)).trans (List.Perm.of_eq (by simp only [List.append_assoc, List.append_nil, List.nil_append]))).symm
    have hD : va_D A ((zb_6 G b rf (nI tn) ac (nI ((tRange ch tn 0 4 1 0 (po + 1)).2)) ou) ++ ((zb_a G (b 1) 120 ch) ++ zb_r G (b 3) K)) := zk_Dperm hD (show ((zb_6 G b rf (nI tn) ac (nI ((tRange ch tn 0 4 1 0 (po + 1)).2)) ou) ++ ((zb_a G (b 1) 120 ch) ++ zb_r G (b 3) K)).Perm ((zb_6 G b rf (nI tn) ac (nI ((tRange ch tn 0 4 1 0 (po + 1)).2)) ou ++ zb_a G (b 1) 120 ch) ++ (zb_r G (b 3) K)) from (show ((zb_6 G b rf (nI tn) ac (nI ((tRange ch tn 0 4 1 0 (po + 1)).2)) ou) ++ ((zb_a G (b 1) 120 ch) ++ zb_r G (b 3) K)).Perm ((zb_6 G b rf (nI tn) ac (nI ((tRange ch tn 0 4 1 0 (po + 1)).2)) ou) ++ ((zb_a G (b 1) 120 ch) ++ zb_r G (b 3) K)) from ((List.perm_append_comm_assoc _ _ _)).trans (List.perm_append_comm_assoc _ _ _)).trans (List.Perm.of_eq (by simp only [List.append_assoc, List.append_nil, List.nil_append]))).symm
    refine lv_istore_n (lv' := [(3, .int r2), (5, .int (nI 0)), (4, .int (nI 0)), (2, .int (ch po)), (0, .ref (b 0)), (1, .ref (b 3))]) hx hb dX6_readCommand_107 rfl hl (by decide) rfl (fun ls hl => ?_)
    refine lv_iload_n hx hb dX6_readCommand_108 rfl (lv_at hl 0 rfl) ?_
    refine lv_iconst (v := -1) hx hb dX6_readCommand_109 (by decide) ?_
    refine lv_icmp_ne (tgt := 117) hx hb dX6_readCommand_110 (by decide) (fun h110_4 => ?_) (fun h110_4 => ?_)
    · obtain ⟨a0, ha0, hb0, he0⟩ := sOpt_1 (by decide) hmr2 (fun z => h110_4 (er2.trans z))
      have hv0 := er2.trans he0
      have hl : lv_has ls 6 [(3, .int (nI a0)), (5, .int (nI 0)), (4, .int (nI 0)), (2, .int (ch po)), (0, .ref (b 0)), (1, .ref (b 3))] := by rw [hv0] at hl; exact hl
      refine lv_aload_n hx hb dX6_readCommand_117 rfl (lv_at hl 4 rfl) ?_
      refine lv_iconst (v := nI 1) hx hb dX6_readCommand_118 (by decide) ?_
      refine lv_iconst (v := nI 0) hx hb dX6_readCommand_119 (by decide) ?_
      refine lv_iconst (v := nI 3) hx hb dX6_readCommand_120 (by decide) ?_
      have hP0 : va_P G.1 vwCl ((zb_6 G b rf (nI tn) ac (nI ((tRange ch tn 0 4 1 0 (po + 1)).2)) ou ++ zb_a G (b 1) 120 ch) ++ (zb_r G (b 3) K)) H := zk_Pperm hP (show ((zb_6 G b rf (nI tn) ac (nI ((tRange ch tn 0 4 1 0 (po + 1)).2)) ou) ++ ((zb_a G (b 1) 120 ch) ++ zb_r G (b 3) K)).Perm ((zb_6 G b rf (nI tn) ac (nI ((tRange ch tn 0 4 1 0 (po + 1)).2)) ou ++ zb_a G (b 1) 120 ch) ++ (zb_r G (b 3) K)) from (show ((zb_6 G b rf (nI tn) ac (nI ((tRange ch tn 0 4 1 0 (po + 1)).2)) ou) ++ ((zb_a G (b 1) 120 ch) ++ zb_r G (b 3) K)).Perm ((zb_6 G b rf (nI tn) ac (nI ((tRange ch tn 0 4 1 0 (po + 1)).2)) ou) ++ ((zb_a G (b 1) 120 ch) ++ zb_r G (b 3) K)) from ((List.perm_append_comm_assoc _ _ _)).trans (List.perm_append_comm_assoc _ _ _)).trans (List.Perm.of_eq (by simp only [List.append_assoc, List.append_nil, List.nil_append])))
      have hD0 : va_D A ((zb_6 G b rf (nI tn) ac (nI ((tRange ch tn 0 4 1 0 (po + 1)).2)) ou ++ zb_a G (b 1) 120 ch) ++ (zb_r G (b 3) K)) := zk_Dperm hD (show ((zb_6 G b rf (nI tn) ac (nI ((tRange ch tn 0 4 1 0 (po + 1)).2)) ou) ++ ((zb_a G (b 1) 120 ch) ++ zb_r G (b 3) K)).Perm ((zb_6 G b rf (nI tn) ac (nI ((tRange ch tn 0 4 1 0 (po + 1)).2)) ou ++ zb_a G (b 1) 120 ch) ++ (zb_r G (b 3) K)) from (show ((zb_6 G b rf (nI tn) ac (nI ((tRange ch tn 0 4 1 0 (po + 1)).2)) ou) ++ ((zb_a G (b 1) 120 ch) ++ zb_r G (b 3) K)).Perm ((zb_6 G b rf (nI tn) ac (nI ((tRange ch tn 0 4 1 0 (po + 1)).2)) ou) ++ ((zb_a G (b 1) 120 ch) ++ zb_r G (b 3) K)) from ((List.perm_append_comm_assoc _ _ _)).trans (List.perm_append_comm_assoc _ _ _)).trans (List.Perm.of_eq (by simp only [List.append_assoc, List.append_nil, List.nil_append])))
      refine zk_callI (wr := zb_r G (b 3) K) (va_runV (As := [.int (nI 1), .int (nI 0), .int (nI 3)]) (rest := []) ⟨hx, hb, hml, hown, hts⟩ (c_X6_number l G b rf tn ac ((tRange ch tn 0 4 1 0 (po + 1)).2) ou htn ch 1 0 3 (by decide) (by decide) (by decide) (by decide) (tRange_le htn (by omega)) _) (cwV 3 hts gX6_readCommand_X6_number rfl rfl rfl (by decide +kernel) ⟨Nat.le_of_ble_eq_true rfl, Nat.le_of_ble_eq_true rfl⟩) (zk_preV hE hA0 hS (zk_Papp hP0).1 (zk_Dapp hD0).1 (va_recv hK hP0 (ci := 5) (q0 := 0) rfl rfl)) rfl rfl hl.1 rfl (lv_room (Nat.le_of_ble_eq_true rfl)) dX6_readCommand_121 ⟨Nat.le_of_ble_eq_true rfl, Nat.le_of_ble_eq_true rfl⟩) hP0 hD0 hS hA (fun r6 u7 H locs q8 hP hD hS => ?_)
      obtain ⟨er6, eu7⟩ := q8
      subst eu7
      have hmr6 : ∀ v, (tRange ch tn 0 3 1 0 ((tRange ch tn 0 4 1 0 (po + 1)).2)).1 = some v → v ≤ 3 := fun v hv => tRange_in (by decide) hv
      have hP : va_P G.1 vwCl ((zb_6 G b rf (nI tn) ac (nI ((tRange ch tn 0 3 1 0 ((tRange ch tn 0 4 1 0 (po + 1)).2)).2)) ou) ++ ((zb_a G (b 1) 120 ch) ++ zb_r G (b 3) K)) H := zk_Pperm hP (show ((zb_6 G b rf (nI tn) ac (nI ((tRange ch tn 0 3 1 0 ((tRange ch tn 0 4 1 0 (po + 1)).2)).2)) ou) ++ ((zb_a G (b 1) 120 ch) ++ zb_r G (b 3) K)).Perm ((zb_6 G b rf (nI tn) ac (nI ((tRange ch tn 0 3 1 0 ((tRange ch tn 0 4 1 0 (po + 1)).2)).2)) ou ++ zb_a G (b 1) 120 ch) ++ (zb_r G (b 3) K)) from (show ((zb_6 G b rf (nI tn) ac (nI ((tRange ch tn 0 3 1 0 ((tRange ch tn 0 4 1 0 (po + 1)).2)).2)) ou) ++ ((zb_a G (b 1) 120 ch) ++ zb_r G (b 3) K)).Perm ((zb_6 G b rf (nI tn) ac (nI ((tRange ch tn 0 3 1 0 ((tRange ch tn 0 4 1 0 (po + 1)).2)).2)) ou) ++ ((zb_a G (b 1) 120 ch) ++ zb_r G (b 3) K)) from ((List.perm_append_comm_assoc _ _ _)).trans (List.perm_append_comm_assoc _ _ _)).trans (List.Perm.of_eq (by simp only [List.append_assoc, List.append_nil, List.nil_append]))).symm
      have hD : va_D A ((zb_6 G b rf (nI tn) ac (nI ((tRange ch tn 0 3 1 0 ((tRange ch tn 0 4 1 0 (po + 1)).2)).2)) ou) ++ ((zb_a G (b 1) 120 ch) ++ zb_r G (b 3) K)) := zk_Dperm hD (show ((zb_6 G b rf (nI tn) ac (nI ((tRange ch tn 0 3 1 0 ((tRange ch tn 0 4 1 0 (po + 1)).2)).2)) ou) ++ ((zb_a G (b 1) 120 ch) ++ zb_r G (b 3) K)).Perm ((zb_6 G b rf (nI tn) ac (nI ((tRange ch tn 0 3 1 0 ((tRange ch tn 0 4 1 0 (po + 1)).2)).2)) ou ++ zb_a G (b 1) 120 ch) ++ (zb_r G (b 3) K)) from (show ((zb_6 G b rf (nI tn) ac (nI ((tRange ch tn 0 3 1 0 ((tRange ch tn 0 4 1 0 (po + 1)).2)).2)) ou) ++ ((zb_a G (b 1) 120 ch) ++ zb_r G (b 3) K)).Perm ((zb_6 G b rf (nI tn) ac (nI ((tRange ch tn 0 3 1 0 ((tRange ch tn 0 4 1 0 (po + 1)).2)).2)) ou) ++ ((zb_a G (b 1) 120 ch) ++ zb_r G (b 3) K)) from ((List.perm_append_comm_assoc _ _ _)).trans (List.perm_append_comm_assoc _ _ _)).trans (List.Perm.of_eq (by simp only [List.append_assoc, List.append_nil, List.nil_append]))).symm
      refine lv_istore (lv' := [(4, .int r6), (3, .int (nI a0)), (5, .int (nI 0)), (2, .int (ch po)), (0, .ref (b 0)), (1, .ref (b 3))]) hx hb dX6_readCommand_124 hl (by decide) rfl (fun ls hl => ?_)
      refine lv_goto (tgt := 308) hx hb dX6_readCommand_126 (by decide) ?_
      refine lv_iload_n hx hb dX6_readCommand_308 rfl (lv_at hl 1 rfl) ?_
      refine lv_iconst (v := -1) hx hb dX6_readCommand_309 (by decide) ?_
      refine lv_icmp_eq (tgt := 325) hx hb dX6_readCommand_310 (by decide) (fun h310_8 => ?_) (fun h310_8 => ?_)
      · exact absurd h310_8 (zk_m1n (by omega))
      · refine lv_iload hx hb dX6_readCommand_313 (lv_at hl 0 rfl) ?_
        refine lv_iconst (v := -1) hx hb dX6_readCommand_315 (by decide) ?_
        refine lv_icmp_eq (tgt := 325) hx hb dX6_readCommand_316 (by decide) (fun h316_9 => ?_) (fun h316_9 => ?_)
        · refine lv_iconst (v := nI 0) hx hb dX6_readCommand_325 (by decide) ?_
          exact zk_retz ((tRange ch tn 0 3 1 0 ((tRange ch tn 0 4 1 0 (po + 1)).2)).2, K, ou) hQ hx hb hr hlocks hS hP hD (Nat.le_of_ble_eq_true rfl) (Nat.le_of_ble_eq_true rfl) dX6_readCommand_326 (rfl) (by rw [kTS_none hlt (show tCmd ch tn po = (none, (tRange ch tn 0 3 1 0 ((tRange ch tn 0 4 1 0 (po + 1)).2)).2) from (tCmd_99 hlt h1_99).trans (t2_sn ha0 (sOpt_2 (by decide) hmr6 (er6.symm.trans h316_9))))]; exact ⟨rfl, rfl, hI, rfl⟩)
        · refine lv_iload hx hb dX6_readCommand_319 (lv_at hl 2 rfl) ?_
          refine lv_iconst (v := -1) hx hb dX6_readCommand_321 (by decide) ?_
          refine lv_icmp_ne (tgt := 327) hx hb dX6_readCommand_322 (by decide) (fun _ => ?_) (fun z => absurd z (by decide))
          obtain ⟨a1, ha1, hb1, he1⟩ := sOpt_1 (by decide) hmr6 (fun z => h316_9 (er6.trans z))
          have hv1 := er6.trans he1
          have hl : lv_has ls 6 [(4, .int (nI a1)), (3, .int (nI a0)), (5, .int (nI 0)), (2, .int (ch po)), (0, .ref (b 0)), (1, .ref (b 3))] := by rw [hv1] at hl; exact hl
          have hC : tCmd ch tn po = (some [a0, a1], (tRange ch tn 0 3 1 0 ((tRange ch tn 0 4 1 0 (po + 1)).2)).2) := (tCmd_99 hlt h1_99).trans (t2_ss ha0 ha1)
          refine lv_aload_n hx hb dX6_readCommand_327 rfl (lv_at hl 4 rfl) ?_
          refine lv_dup hx hb dX6_readCommand_328 rfl ?_
          refine va_get (D := G.1) (ci := 5) (v := .int ou) (C := RX6) (T := TX6) (N := 11) hx hb hts (fun _ h => List.mem_cons_of_mem _ (List.mem_append_right _ h)) hown hK hP 0 rfl rfl 10 (by decide) w3 (fun _ h9 => h9) rfl dX6_readCommand_329 ?_
          refine lv_aload_n hx hb dX6_readCommand_332 rfl (lv_at hl 5 rfl) ?_
          refine lv_iload_n hx hb dX6_readCommand_333 rfl (lv_at hl 3 rfl) ?_
          refine lv_iload_n hx hb dX6_readCommand_334 rfl (lv_at hl 1 rfl) ?_
          refine lv_iload hx hb dX6_readCommand_335 (lv_at hl 0 rfl) ?_
          refine lv_iload hx hb dX6_readCommand_337 (lv_at hl 2 rfl) ?_
          have hdk : kDok (ch po) (nI a0) := (by rw [h1_99]; exact kDok_c (by omega))
          have hP0 : va_P G.1 vwCl ((zb_r G (b 3) K) ++ ((zb_6 G b rf (nI tn) ac (nI ((tRange ch tn 0 3 1 0 ((tRange ch tn 0 4 1 0 (po + 1)).2)).2)) ou) ++ zb_a G (b 1) 120 ch)) H := zk_Pperm hP (show ((zb_6 G b rf (nI tn) ac (nI ((tRange ch tn 0 3 1 0 ((tRange ch tn 0 4 1 0 (po + 1)).2)).2)) ou) ++ ((zb_a G (b 1) 120 ch) ++ zb_r G (b 3) K)).Perm ((zb_r G (b 3) K) ++ ((zb_6 G b rf (nI tn) ac (nI ((tRange ch tn 0 3 1 0 ((tRange ch tn 0 4 1 0 (po + 1)).2)).2)) ou) ++ zb_a G (b 1) 120 ch)) from (show ((zb_6 G b rf (nI tn) ac (nI ((tRange ch tn 0 3 1 0 ((tRange ch tn 0 4 1 0 (po + 1)).2)).2)) ou) ++ ((zb_a G (b 1) 120 ch) ++ zb_r G (b 3) K)).Perm ((zb_r G (b 3) K) ++ ((zb_6 G b rf (nI tn) ac (nI ((tRange ch tn 0 3 1 0 ((tRange ch tn 0 4 1 0 (po + 1)).2)).2)) ou) ++ zb_a G (b 1) 120 ch)) from ((List.Perm.append_left _ List.perm_append_comm).trans (List.perm_append_comm_assoc _ _ _))).trans (List.Perm.of_eq (by simp only [List.append_assoc, List.append_nil, List.nil_append])))
          have hD0 : va_D A ((zb_r G (b 3) K) ++ ((zb_6 G b rf (nI tn) ac (nI ((tRange ch tn 0 3 1 0 ((tRange ch tn 0 4 1 0 (po + 1)).2)).2)) ou) ++ zb_a G (b 1) 120 ch)) := zk_Dperm hD (show ((zb_6 G b rf (nI tn) ac (nI ((tRange ch tn 0 3 1 0 ((tRange ch tn 0 4 1 0 (po + 1)).2)).2)) ou) ++ ((zb_a G (b 1) 120 ch) ++ zb_r G (b 3) K)).Perm ((zb_r G (b 3) K) ++ ((zb_6 G b rf (nI tn) ac (nI ((tRange ch tn 0 3 1 0 ((tRange ch tn 0 4 1 0 (po + 1)).2)).2)) ou) ++ zb_a G (b 1) 120 ch)) from (show ((zb_6 G b rf (nI tn) ac (nI ((tRange ch tn 0 3 1 0 ((tRange ch tn 0 4 1 0 (po + 1)).2)).2)) ou) ++ ((zb_a G (b 1) 120 ch) ++ zb_r G (b 3) K)).Perm ((zb_r G (b 3) K) ++ ((zb_6 G b rf (nI tn) ac (nI ((tRange ch tn 0 3 1 0 ((tRange ch tn 0 4 1 0 (po + 1)).2)).2)) ou) ++ zb_a G (b 1) 120 ch)) from ((List.Perm.append_left _ List.perm_append_comm).trans (List.perm_append_comm_assoc _ _ _))).trans (List.Perm.of_eq (by simp only [List.append_assoc, List.append_nil, List.nil_append])))
          refine zk_callI (wr := (zb_6 G b rf (nI tn) ac (nI ((tRange ch tn 0 3 1 0 ((tRange ch tn 0 4 1 0 (po + 1)).2)).2)) ou) ++ zb_a G (b 1) 120 ch) (va_runS (As := [.ref (b 3), .int (ch po), .int (nI a0), .int (nI a1), .int (nI 0)]) (rest := [.int ou, .ref (b 0)]) ⟨hx, hb, hml, hown, hts⟩ (c_X6_does l G (b 3) K (zN K) (zT K) hI (ch po) (nI a0) (nI a1) (nI 0) hdk hp0 _) (cwS 5 hts gX6_readCommand_X6_does rfl rfl rfl (by decide +kernel) ⟨Nat.le_of_ble_eq_true rfl, Nat.le_of_ble_eq_true rfl⟩) (zk_preS hE hA0 hS (zk_Papp hP0).1 (zk_Dapp hD0).1) rfl rfl hl.1 rfl (lv_room (Nat.le_of_ble_eq_true rfl)) dX6_readCommand_339 ⟨Nat.le_of_ble_eq_true rfl, Nat.le_of_ble_eq_true rfl⟩) hP0 hD0 hS hA (fun r11 u12 H locs q13 hP hD hS => ?_)
          obtain ⟨er11, eL14⟩ := q13
          have hP : va_P G.1 vwCl ((zb_6 G b rf (nI tn) ac (nI ((tRange ch tn 0 3 1 0 ((tRange ch tn 0 4 1 0 (po + 1)).2)).2)) ou) ++ ((zb_a G (b 1) 120 ch) ++ zb_r G (b 3) u12)) H := zk_Pperm hP (show ((zb_6 G b rf (nI tn) ac (nI ((tRange ch tn 0 3 1 0 ((tRange ch tn 0 4 1 0 (po + 1)).2)).2)) ou) ++ ((zb_a G (b 1) 120 ch) ++ zb_r G (b 3) u12)).Perm ((zb_r G (b 3) u12) ++ ((zb_6 G b rf (nI tn) ac (nI ((tRange ch tn 0 3 1 0 ((tRange ch tn 0 4 1 0 (po + 1)).2)).2)) ou) ++ zb_a G (b 1) 120 ch)) from (show ((zb_6 G b rf (nI tn) ac (nI ((tRange ch tn 0 3 1 0 ((tRange ch tn 0 4 1 0 (po + 1)).2)).2)) ou) ++ ((zb_a G (b 1) 120 ch) ++ zb_r G (b 3) u12)).Perm ((zb_r G (b 3) u12) ++ ((zb_6 G b rf (nI tn) ac (nI ((tRange ch tn 0 3 1 0 ((tRange ch tn 0 4 1 0 (po + 1)).2)).2)) ou) ++ zb_a G (b 1) 120 ch)) from ((List.Perm.append_left _ List.perm_append_comm).trans (List.perm_append_comm_assoc _ _ _))).trans (List.Perm.of_eq (by simp only [List.append_assoc, List.append_nil, List.nil_append]))).symm
          have hD : va_D A ((zb_6 G b rf (nI tn) ac (nI ((tRange ch tn 0 3 1 0 ((tRange ch tn 0 4 1 0 (po + 1)).2)).2)) ou) ++ ((zb_a G (b 1) 120 ch) ++ zb_r G (b 3) u12)) := zk_Dperm hD (show ((zb_6 G b rf (nI tn) ac (nI ((tRange ch tn 0 3 1 0 ((tRange ch tn 0 4 1 0 (po + 1)).2)).2)) ou) ++ ((zb_a G (b 1) 120 ch) ++ zb_r G (b 3) u12)).Perm ((zb_r G (b 3) u12) ++ ((zb_6 G b rf (nI tn) ac (nI ((tRange ch tn 0 3 1 0 ((tRange ch tn 0 4 1 0 (po + 1)).2)).2)) ou) ++ zb_a G (b 1) 120 ch)) from (show ((zb_6 G b rf (nI tn) ac (nI ((tRange ch tn 0 3 1 0 ((tRange ch tn 0 4 1 0 (po + 1)).2)).2)) ou) ++ ((zb_a G (b 1) 120 ch) ++ zb_r G (b 3) u12)).Perm ((zb_r G (b 3) u12) ++ ((zb_6 G b rf (nI tn) ac (nI ((tRange ch tn 0 3 1 0 ((tRange ch tn 0 4 1 0 (po + 1)).2)).2)) ou) ++ zb_a G (b 1) 120 ch)) from ((List.Perm.append_left _ List.perm_append_comm).trans (List.perm_append_comm_assoc _ _ _))).trans (List.Perm.of_eq (by simp only [List.append_assoc, List.append_nil, List.nil_append]))).symm
          refine lv_if_eq (tgt := 349) hx hb dX6_readCommand_342 (by decide) (fun h342_14 => ?_) (fun h342_14 => ?_)
          · refine lv_iconst (v := nI 1) hx hb dX6_readCommand_349 (by decide) ?_
            refine lv_iadd hx hb dX6_readCommand_350 ?_
            refine lv_topi (fun x16 ex16 => ?_)
            refine va_put (D := G.1) (ci := 5) (v := .int x16) (ty := .int) (C := RX6) (T := TX6) (N := 11) hx hb hts (fun _ h => List.mem_cons_of_mem _ (List.mem_append_right _ h)) tyX6 tyX6_ok nmX6 hown hK hP hD hS 0 rfl rfl 10 (by decide) w3 (fun _ h9 => h9) rfl (by decide +kernel) rfl rfl (Nat.le_of_ble_eq_true rfl) dX6_readCommand_351 (fun H locs hP hD hS => ?_)
            have hP : va_P G.1 vwCl ((zb_6 G b rf (nI tn) ac (nI ((tRange ch tn 0 3 1 0 ((tRange ch tn 0 4 1 0 (po + 1)).2)).2)) x16) ++ ((zb_a G (b 1) 120 ch) ++ zb_r G (b 3) u12)) H := hP
            have hD : va_D A ((zb_6 G b rf (nI tn) ac (nI ((tRange ch tn 0 3 1 0 ((tRange ch tn 0 4 1 0 (po + 1)).2)).2)) x16) ++ ((zb_a G (b 1) 120 ch) ++ zb_r G (b 3) u12)) := hD
            refine lv_iconst (v := nI 1) hx hb dX6_readCommand_354 (by decide) ?_
            exact zk_retz ((tRange ch tn 0 3 1 0 ((tRange ch tn 0 4 1 0 (po + 1)).2)).2, u12, x16) hQ hx hb hr hlocks hS hP hD (Nat.le_of_ble_eq_true rfl) (Nat.le_of_ble_eq_true rfl) dX6_readCommand_355 (rfl) (by rw [kTS_some hlt hC]; exact ⟨rfl, Prod.ext rfl (Prod.ext eL14 (by show x16 = _; rw [ex16]; exact congrArg (ou + ·) (if_pos (er11.symm.trans h342_14)).symm)), by rw [eL14]; exact kDoes_inv hI hdk, by rw [eL14]; exact kDoes_r0⟩)
          · refine lv_iconst (v := nI 0) hx hb dX6_readCommand_345 (by decide) ?_
            refine lv_goto (tgt := 350) hx hb dX6_readCommand_346 (by decide) ?_
            refine lv_iadd hx hb dX6_readCommand_350 ?_
            refine lv_topi (fun x17 ex17 => ?_)
            refine va_put (D := G.1) (ci := 5) (v := .int x17) (ty := .int) (C := RX6) (T := TX6) (N := 11) hx hb hts (fun _ h => List.mem_cons_of_mem _ (List.mem_append_right _ h)) tyX6 tyX6_ok nmX6 hown hK hP hD hS 0 rfl rfl 10 (by decide) w3 (fun _ h9 => h9) rfl (by decide +kernel) rfl rfl (Nat.le_of_ble_eq_true rfl) dX6_readCommand_351 (fun H locs hP hD hS => ?_)
            have hP : va_P G.1 vwCl ((zb_6 G b rf (nI tn) ac (nI ((tRange ch tn 0 3 1 0 ((tRange ch tn 0 4 1 0 (po + 1)).2)).2)) x17) ++ ((zb_a G (b 1) 120 ch) ++ zb_r G (b 3) u12)) H := hP
            have hD : va_D A ((zb_6 G b rf (nI tn) ac (nI ((tRange ch tn 0 3 1 0 ((tRange ch tn 0 4 1 0 (po + 1)).2)).2)) x17) ++ ((zb_a G (b 1) 120 ch) ++ zb_r G (b 3) u12)) := hD
            refine lv_iconst (v := nI 1) hx hb dX6_readCommand_354 (by decide) ?_
            exact zk_retz ((tRange ch tn 0 3 1 0 ((tRange ch tn 0 4 1 0 (po + 1)).2)).2, u12, x17) hQ hx hb hr hlocks hS hP hD (Nat.le_of_ble_eq_true rfl) (Nat.le_of_ble_eq_true rfl) dX6_readCommand_355 (rfl) (by rw [kTS_some hlt hC]; exact ⟨rfl, Prod.ext rfl (Prod.ext eL14 (by show x17 = _; rw [ex17]; exact congrArg (ou + ·) (if_neg (fun z => h342_14 (er11.trans z))).symm)), by rw [eL14]; exact kDoes_inv hI hdk, by rw [eL14]; exact kDoes_r0⟩)
    · refine lv_iconst (v := -1) hx hb dX6_readCommand_113 (by decide) ?_
      refine lv_goto (tgt := 124) hx hb dX6_readCommand_114 (by decide) ?_
      refine lv_istore (lv' := [(4, .int (-1)), (3, .int r2), (5, .int (nI 0)), (2, .int (ch po)), (0, .ref (b 0)), (1, .ref (b 3))]) hx hb dX6_readCommand_124 hl (by decide) rfl (fun ls hl => ?_)
      refine lv_goto (tgt := 308) hx hb dX6_readCommand_126 (by decide) ?_
      refine lv_iload_n hx hb dX6_readCommand_308 rfl (lv_at hl 1 rfl) ?_
      refine lv_iconst (v := -1) hx hb dX6_readCommand_309 (by decide) ?_
      refine lv_icmp_eq (tgt := 325) hx hb dX6_readCommand_310 (by decide) (fun h310_17 => ?_) (fun h310_17 => ?_)
      · refine lv_iconst (v := nI 0) hx hb dX6_readCommand_325 (by decide) ?_
        exact zk_retz ((tRange ch tn 0 4 1 0 (po + 1)).2, K, ou) hQ hx hb hr hlocks hS hP hD (Nat.le_of_ble_eq_true rfl) (Nat.le_of_ble_eq_true rfl) dX6_readCommand_326 (rfl) (by rw [kTS_none hlt (show tCmd ch tn po = (none, (tRange ch tn 0 4 1 0 (po + 1)).2) from (tCmd_99 hlt h1_99).trans (t2_n (sOpt_2 (by decide) hmr2 (er2.symm.trans h110_4))))]; exact ⟨rfl, rfl, hI, rfl⟩)
      · exact absurd h110_4 h310_17
  rcases Decidable.em (ch po = nI 100) with h1_100 | h1_n100
  · refine lv_tableIn (tgt := 284) hx hb dX6_readCommand_29 (by rw [h1_100]; decide) (by rw [h1_100]; decide) (by rw [h1_100]; rfl) (by decide) ?_
    refine lv_aload_n hx hb dX6_readCommand_284 rfl (lv_at hl 4 rfl) ?_
    refine lv_iconst (v := nI 1) hx hb dX6_readCommand_285 (by decide) ?_
    refine lv_iconst (v := nI 1) hx hb dX6_readCommand_286 (by decide) ?_
    refine lv_bipush (v := nI 9) hx hb dX6_readCommand_287 (by decide) ?_
    have hP0 : va_P G.1 vwCl ((zb_6 G b rf (nI tn) ac (nI (po + 1)) ou ++ zb_a G (b 1) 120 ch) ++ (zb_r G (b 3) K)) H := zk_Pperm hP (show ((zb_6 G b rf (nI tn) ac (nI (po + 1)) ou) ++ ((zb_a G (b 1) 120 ch) ++ zb_r G (b 3) K)).Perm ((zb_6 G b rf (nI tn) ac (nI (po + 1)) ou ++ zb_a G (b 1) 120 ch) ++ (zb_r G (b 3) K)) from (show ((zb_6 G b rf (nI tn) ac (nI (po + 1)) ou) ++ ((zb_a G (b 1) 120 ch) ++ zb_r G (b 3) K)).Perm ((zb_6 G b rf (nI tn) ac (nI (po + 1)) ou) ++ ((zb_a G (b 1) 120 ch) ++ zb_r G (b 3) K)) from ((List.perm_append_comm_assoc _ _ _)).trans (List.perm_append_comm_assoc _ _ _)).trans (List.Perm.of_eq (by simp only [List.append_assoc, List.append_nil, List.nil_append])))
    have hD0 : va_D A ((zb_6 G b rf (nI tn) ac (nI (po + 1)) ou ++ zb_a G (b 1) 120 ch) ++ (zb_r G (b 3) K)) := zk_Dperm hD (show ((zb_6 G b rf (nI tn) ac (nI (po + 1)) ou) ++ ((zb_a G (b 1) 120 ch) ++ zb_r G (b 3) K)).Perm ((zb_6 G b rf (nI tn) ac (nI (po + 1)) ou ++ zb_a G (b 1) 120 ch) ++ (zb_r G (b 3) K)) from (show ((zb_6 G b rf (nI tn) ac (nI (po + 1)) ou) ++ ((zb_a G (b 1) 120 ch) ++ zb_r G (b 3) K)).Perm ((zb_6 G b rf (nI tn) ac (nI (po + 1)) ou) ++ ((zb_a G (b 1) 120 ch) ++ zb_r G (b 3) K)) from ((List.perm_append_comm_assoc _ _ _)).trans (List.perm_append_comm_assoc _ _ _)).trans (List.Perm.of_eq (by simp only [List.append_assoc, List.append_nil, List.nil_append])))
    refine zk_callI (wr := zb_r G (b 3) K) (va_runV (As := [.int (nI 1), .int (nI 1), .int (nI 9)]) (rest := []) ⟨hx, hb, hml, hown, hts⟩ (c_X6_number l G b rf tn ac (po + 1) ou htn ch 1 1 9 (by decide) (by decide) (by decide) (by decide) (by omega) _) (cwV 3 hts gX6_readCommand_X6_number rfl rfl rfl (by decide +kernel) ⟨Nat.le_of_ble_eq_true rfl, Nat.le_of_ble_eq_true rfl⟩) (zk_preV hE hA0 hS (zk_Papp hP0).1 (zk_Dapp hD0).1 (va_recv hK hP0 (ci := 5) (q0 := 0) rfl rfl)) rfl rfl hl.1 rfl (lv_room (Nat.le_of_ble_eq_true rfl)) dX6_readCommand_289 ⟨Nat.le_of_ble_eq_true rfl, Nat.le_of_ble_eq_true rfl⟩) hP0 hD0 hS hA (fun r19 u20 H locs q21 hP hD hS => ?_)
    obtain ⟨er19, eu20⟩ := q21
    subst eu20
    have hmr19 : ∀ v, (tRange ch tn 1 9 1 0 (po + 1)).1 = some v → v ≤ 9 := fun v hv => tRange_in (by decide) hv
    have hP : va_P G.1 vwCl ((zb_6 G b rf (nI tn) ac (nI ((tRange ch tn 1 9 1 0 (po + 1)).2)) ou) ++ ((zb_a G (b 1) 120 ch) ++ zb_r G (b 3) K)) H := zk_Pperm hP (show ((zb_6 G b rf (nI tn) ac (nI ((tRange ch tn 1 9 1 0 (po + 1)).2)) ou) ++ ((zb_a G (b 1) 120 ch) ++ zb_r G (b 3) K)).Perm ((zb_6 G b rf (nI tn) ac (nI ((tRange ch tn 1 9 1 0 (po + 1)).2)) ou ++ zb_a G (b 1) 120 ch) ++ (zb_r G (b 3) K)) from (show ((zb_6 G b rf (nI tn) ac (nI ((tRange ch tn 1 9 1 0 (po + 1)).2)) ou) ++ ((zb_a G (b 1) 120 ch) ++ zb_r G (b 3) K)).Perm ((zb_6 G b rf (nI tn) ac (nI ((tRange ch tn 1 9 1 0 (po + 1)).2)) ou) ++ ((zb_a G (b 1) 120 ch) ++ zb_r G (b 3) K)) from ((List.perm_append_comm_assoc _ _ _)).trans (List.perm_append_comm_assoc _ _ _)).trans (List.Perm.of_eq (by simp only [List.append_assoc, List.append_nil, List.nil_append]))).symm
    have hD : va_D A ((zb_6 G b rf (nI tn) ac (nI ((tRange ch tn 1 9 1 0 (po + 1)).2)) ou) ++ ((zb_a G (b 1) 120 ch) ++ zb_r G (b 3) K)) := zk_Dperm hD (show ((zb_6 G b rf (nI tn) ac (nI ((tRange ch tn 1 9 1 0 (po + 1)).2)) ou) ++ ((zb_a G (b 1) 120 ch) ++ zb_r G (b 3) K)).Perm ((zb_6 G b rf (nI tn) ac (nI ((tRange ch tn 1 9 1 0 (po + 1)).2)) ou ++ zb_a G (b 1) 120 ch) ++ (zb_r G (b 3) K)) from (show ((zb_6 G b rf (nI tn) ac (nI ((tRange ch tn 1 9 1 0 (po + 1)).2)) ou) ++ ((zb_a G (b 1) 120 ch) ++ zb_r G (b 3) K)).Perm ((zb_6 G b rf (nI tn) ac (nI ((tRange ch tn 1 9 1 0 (po + 1)).2)) ou) ++ ((zb_a G (b 1) 120 ch) ++ zb_r G (b 3) K)) from ((List.perm_append_comm_assoc _ _ _)).trans (List.perm_append_comm_assoc _ _ _)).trans (List.Perm.of_eq (by simp only [List.append_assoc, List.append_nil, List.nil_append]))).symm
    refine lv_istore_n (lv' := [(3, .int r19), (5, .int (nI 0)), (4, .int (nI 0)), (2, .int (ch po)), (0, .ref (b 0)), (1, .ref (b 3))]) hx hb dX6_readCommand_292 rfl hl (by decide) rfl (fun ls hl => ?_)
    refine lv_goto (tgt := 308) hx hb dX6_readCommand_293 (by decide) ?_
    refine lv_iload_n hx hb dX6_readCommand_308 rfl (lv_at hl 0 rfl) ?_
    refine lv_iconst (v := -1) hx hb dX6_readCommand_309 (by decide) ?_
    refine lv_icmp_eq (tgt := 325) hx hb dX6_readCommand_310 (by decide) (fun h310_21 => ?_) (fun h310_21 => ?_)
    · refine lv_iconst (v := nI 0) hx hb dX6_readCommand_325 (by decide) ?_
      exact zk_retz ((tRange ch tn 1 9 1 0 (po + 1)).2, K, ou) hQ hx hb hr hlocks hS hP hD (Nat.le_of_ble_eq_true rfl) (Nat.le_of_ble_eq_true rfl) dX6_readCommand_326 (rfl) (by rw [kTS_none hlt (show tCmd ch tn po = (none, (tRange ch tn 1 9 1 0 (po + 1)).2) from (tCmd_100 hlt h1_100).trans (t1_n (sOpt_2 (by decide) hmr19 (er19.symm.trans h310_21))))]; exact ⟨rfl, rfl, hI, rfl⟩)
    · refine lv_iload hx hb dX6_readCommand_313 (lv_at hl 2 rfl) ?_
      refine lv_iconst (v := -1) hx hb dX6_readCommand_315 (by decide) ?_
      refine lv_icmp_eq (tgt := 325) hx hb dX6_readCommand_316 (by decide) (fun z => absurd z (by decide)) (fun _ => ?_)
      refine lv_iload hx hb dX6_readCommand_319 (lv_at hl 1 rfl) ?_
      refine lv_iconst (v := -1) hx hb dX6_readCommand_321 (by decide) ?_
      refine lv_icmp_ne (tgt := 327) hx hb dX6_readCommand_322 (by decide) (fun _ => ?_) (fun z => absurd z (by decide))
      obtain ⟨a0, ha0, hb0, he0⟩ := sOpt_1 (by decide) hmr19 (fun z => h310_21 (er19.trans z))
      have hv0 := er19.trans he0
      have hl : lv_has ls 6 [(3, .int (nI a0)), (5, .int (nI 0)), (4, .int (nI 0)), (2, .int (ch po)), (0, .ref (b 0)), (1, .ref (b 3))] := by rw [hv0] at hl; exact hl
      have hC : tCmd ch tn po = (some [a0], (tRange ch tn 1 9 1 0 (po + 1)).2) := (tCmd_100 hlt h1_100).trans (t1_s ha0)
      refine lv_aload_n hx hb dX6_readCommand_327 rfl (lv_at hl 4 rfl) ?_
      refine lv_dup hx hb dX6_readCommand_328 rfl ?_
      refine va_get (D := G.1) (ci := 5) (v := .int ou) (C := RX6) (T := TX6) (N := 11) hx hb hts (fun _ h => List.mem_cons_of_mem _ (List.mem_append_right _ h)) hown hK hP 0 rfl rfl 10 (by decide) w3 (fun _ h9 => h9) rfl dX6_readCommand_329 ?_
      refine lv_aload_n hx hb dX6_readCommand_332 rfl (lv_at hl 5 rfl) ?_
      refine lv_iload_n hx hb dX6_readCommand_333 rfl (lv_at hl 3 rfl) ?_
      refine lv_iload_n hx hb dX6_readCommand_334 rfl (lv_at hl 0 rfl) ?_
      refine lv_iload hx hb dX6_readCommand_335 (lv_at hl 2 rfl) ?_
      refine lv_iload hx hb dX6_readCommand_337 (lv_at hl 1 rfl) ?_
      have hdk : kDok (ch po) (nI a0) := (by rw [h1_100]; exact kDok_d _)
      have hP0 : va_P G.1 vwCl ((zb_r G (b 3) K) ++ ((zb_6 G b rf (nI tn) ac (nI ((tRange ch tn 1 9 1 0 (po + 1)).2)) ou) ++ zb_a G (b 1) 120 ch)) H := zk_Pperm hP (show ((zb_6 G b rf (nI tn) ac (nI ((tRange ch tn 1 9 1 0 (po + 1)).2)) ou) ++ ((zb_a G (b 1) 120 ch) ++ zb_r G (b 3) K)).Perm ((zb_r G (b 3) K) ++ ((zb_6 G b rf (nI tn) ac (nI ((tRange ch tn 1 9 1 0 (po + 1)).2)) ou) ++ zb_a G (b 1) 120 ch)) from (show ((zb_6 G b rf (nI tn) ac (nI ((tRange ch tn 1 9 1 0 (po + 1)).2)) ou) ++ ((zb_a G (b 1) 120 ch) ++ zb_r G (b 3) K)).Perm ((zb_r G (b 3) K) ++ ((zb_6 G b rf (nI tn) ac (nI ((tRange ch tn 1 9 1 0 (po + 1)).2)) ou) ++ zb_a G (b 1) 120 ch)) from ((List.Perm.append_left _ List.perm_append_comm).trans (List.perm_append_comm_assoc _ _ _))).trans (List.Perm.of_eq (by simp only [List.append_assoc, List.append_nil, List.nil_append])))
      have hD0 : va_D A ((zb_r G (b 3) K) ++ ((zb_6 G b rf (nI tn) ac (nI ((tRange ch tn 1 9 1 0 (po + 1)).2)) ou) ++ zb_a G (b 1) 120 ch)) := zk_Dperm hD (show ((zb_6 G b rf (nI tn) ac (nI ((tRange ch tn 1 9 1 0 (po + 1)).2)) ou) ++ ((zb_a G (b 1) 120 ch) ++ zb_r G (b 3) K)).Perm ((zb_r G (b 3) K) ++ ((zb_6 G b rf (nI tn) ac (nI ((tRange ch tn 1 9 1 0 (po + 1)).2)) ou) ++ zb_a G (b 1) 120 ch)) from (show ((zb_6 G b rf (nI tn) ac (nI ((tRange ch tn 1 9 1 0 (po + 1)).2)) ou) ++ ((zb_a G (b 1) 120 ch) ++ zb_r G (b 3) K)).Perm ((zb_r G (b 3) K) ++ ((zb_6 G b rf (nI tn) ac (nI ((tRange ch tn 1 9 1 0 (po + 1)).2)) ou) ++ zb_a G (b 1) 120 ch)) from ((List.Perm.append_left _ List.perm_append_comm).trans (List.perm_append_comm_assoc _ _ _))).trans (List.Perm.of_eq (by simp only [List.append_assoc, List.append_nil, List.nil_append])))
      refine zk_callI (wr := (zb_6 G b rf (nI tn) ac (nI ((tRange ch tn 1 9 1 0 (po + 1)).2)) ou) ++ zb_a G (b 1) 120 ch) (va_runS (As := [.ref (b 3), .int (ch po), .int (nI a0), .int (nI 0), .int (nI 0)]) (rest := [.int ou, .ref (b 0)]) ⟨hx, hb, hml, hown, hts⟩ (c_X6_does l G (b 3) K (zN K) (zT K) hI (ch po) (nI a0) (nI 0) (nI 0) hdk hp0 _) (cwS 5 hts gX6_readCommand_X6_does rfl rfl rfl (by decide +kernel) ⟨Nat.le_of_ble_eq_true rfl, Nat.le_of_ble_eq_true rfl⟩) (zk_preS hE hA0 hS (zk_Papp hP0).1 (zk_Dapp hD0).1) rfl rfl hl.1 rfl (lv_room (Nat.le_of_ble_eq_true rfl)) dX6_readCommand_339 ⟨Nat.le_of_ble_eq_true rfl, Nat.le_of_ble_eq_true rfl⟩) hP0 hD0 hS hA (fun r23 u24 H locs q25 hP hD hS => ?_)
      obtain ⟨er23, eL26⟩ := q25
      have hP : va_P G.1 vwCl ((zb_6 G b rf (nI tn) ac (nI ((tRange ch tn 1 9 1 0 (po + 1)).2)) ou) ++ ((zb_a G (b 1) 120 ch) ++ zb_r G (b 3) u24)) H := zk_Pperm hP (show ((zb_6 G b rf (nI tn) ac (nI ((tRange ch tn 1 9 1 0 (po + 1)).2)) ou) ++ ((zb_a G (b 1) 120 ch) ++ zb_r G (b 3) u24)).Perm ((zb_r G (b 3) u24) ++ ((zb_6 G b rf (nI tn) ac (nI ((tRange ch tn 1 9 1 0 (po + 1)).2)) ou) ++ zb_a G (b 1) 120 ch)) from (show ((zb_6 G b rf (nI tn) ac (nI ((tRange ch tn 1 9 1 0 (po + 1)).2)) ou) ++ ((zb_a G (b 1) 120 ch) ++ zb_r G (b 3) u24)).Perm ((zb_r G (b 3) u24) ++ ((zb_6 G b rf (nI tn) ac (nI ((tRange ch tn 1 9 1 0 (po + 1)).2)) ou) ++ zb_a G (b 1) 120 ch)) from ((List.Perm.append_left _ List.perm_append_comm).trans (List.perm_append_comm_assoc _ _ _))).trans (List.Perm.of_eq (by simp only [List.append_assoc, List.append_nil, List.nil_append]))).symm
      have hD : va_D A ((zb_6 G b rf (nI tn) ac (nI ((tRange ch tn 1 9 1 0 (po + 1)).2)) ou) ++ ((zb_a G (b 1) 120 ch) ++ zb_r G (b 3) u24)) := zk_Dperm hD (show ((zb_6 G b rf (nI tn) ac (nI ((tRange ch tn 1 9 1 0 (po + 1)).2)) ou) ++ ((zb_a G (b 1) 120 ch) ++ zb_r G (b 3) u24)).Perm ((zb_r G (b 3) u24) ++ ((zb_6 G b rf (nI tn) ac (nI ((tRange ch tn 1 9 1 0 (po + 1)).2)) ou) ++ zb_a G (b 1) 120 ch)) from (show ((zb_6 G b rf (nI tn) ac (nI ((tRange ch tn 1 9 1 0 (po + 1)).2)) ou) ++ ((zb_a G (b 1) 120 ch) ++ zb_r G (b 3) u24)).Perm ((zb_r G (b 3) u24) ++ ((zb_6 G b rf (nI tn) ac (nI ((tRange ch tn 1 9 1 0 (po + 1)).2)) ou) ++ zb_a G (b 1) 120 ch)) from ((List.Perm.append_left _ List.perm_append_comm).trans (List.perm_append_comm_assoc _ _ _))).trans (List.Perm.of_eq (by simp only [List.append_assoc, List.append_nil, List.nil_append]))).symm
      refine lv_if_eq (tgt := 349) hx hb dX6_readCommand_342 (by decide) (fun h342_26 => ?_) (fun h342_26 => ?_)
      · refine lv_iconst (v := nI 1) hx hb dX6_readCommand_349 (by decide) ?_
        refine lv_iadd hx hb dX6_readCommand_350 ?_
        refine lv_topi (fun x28 ex28 => ?_)
        refine va_put (D := G.1) (ci := 5) (v := .int x28) (ty := .int) (C := RX6) (T := TX6) (N := 11) hx hb hts (fun _ h => List.mem_cons_of_mem _ (List.mem_append_right _ h)) tyX6 tyX6_ok nmX6 hown hK hP hD hS 0 rfl rfl 10 (by decide) w3 (fun _ h9 => h9) rfl (by decide +kernel) rfl rfl (Nat.le_of_ble_eq_true rfl) dX6_readCommand_351 (fun H locs hP hD hS => ?_)
        have hP : va_P G.1 vwCl ((zb_6 G b rf (nI tn) ac (nI ((tRange ch tn 1 9 1 0 (po + 1)).2)) x28) ++ ((zb_a G (b 1) 120 ch) ++ zb_r G (b 3) u24)) H := hP
        have hD : va_D A ((zb_6 G b rf (nI tn) ac (nI ((tRange ch tn 1 9 1 0 (po + 1)).2)) x28) ++ ((zb_a G (b 1) 120 ch) ++ zb_r G (b 3) u24)) := hD
        refine lv_iconst (v := nI 1) hx hb dX6_readCommand_354 (by decide) ?_
        exact zk_retz ((tRange ch tn 1 9 1 0 (po + 1)).2, u24, x28) hQ hx hb hr hlocks hS hP hD (Nat.le_of_ble_eq_true rfl) (Nat.le_of_ble_eq_true rfl) dX6_readCommand_355 (rfl) (by rw [kTS_some hlt hC]; exact ⟨rfl, Prod.ext rfl (Prod.ext eL26 (by show x28 = _; rw [ex28]; exact congrArg (ou + ·) (if_pos (er23.symm.trans h342_26)).symm)), by rw [eL26]; exact kDoes_inv hI hdk, by rw [eL26]; exact kDoes_r0⟩)
      · refine lv_iconst (v := nI 0) hx hb dX6_readCommand_345 (by decide) ?_
        refine lv_goto (tgt := 350) hx hb dX6_readCommand_346 (by decide) ?_
        refine lv_iadd hx hb dX6_readCommand_350 ?_
        refine lv_topi (fun x29 ex29 => ?_)
        refine va_put (D := G.1) (ci := 5) (v := .int x29) (ty := .int) (C := RX6) (T := TX6) (N := 11) hx hb hts (fun _ h => List.mem_cons_of_mem _ (List.mem_append_right _ h)) tyX6 tyX6_ok nmX6 hown hK hP hD hS 0 rfl rfl 10 (by decide) w3 (fun _ h9 => h9) rfl (by decide +kernel) rfl rfl (Nat.le_of_ble_eq_true rfl) dX6_readCommand_351 (fun H locs hP hD hS => ?_)
        have hP : va_P G.1 vwCl ((zb_6 G b rf (nI tn) ac (nI ((tRange ch tn 1 9 1 0 (po + 1)).2)) x29) ++ ((zb_a G (b 1) 120 ch) ++ zb_r G (b 3) u24)) H := hP
        have hD : va_D A ((zb_6 G b rf (nI tn) ac (nI ((tRange ch tn 1 9 1 0 (po + 1)).2)) x29) ++ ((zb_a G (b 1) 120 ch) ++ zb_r G (b 3) u24)) := hD
        refine lv_iconst (v := nI 1) hx hb dX6_readCommand_354 (by decide) ?_
        exact zk_retz ((tRange ch tn 1 9 1 0 (po + 1)).2, u24, x29) hQ hx hb hr hlocks hS hP hD (Nat.le_of_ble_eq_true rfl) (Nat.le_of_ble_eq_true rfl) dX6_readCommand_355 (rfl) (by rw [kTS_some hlt hC]; exact ⟨rfl, Prod.ext rfl (Prod.ext eL26 (by show x29 = _; rw [ex29]; exact congrArg (ou + ·) (if_neg (fun z => h342_26 (er23.trans z))).symm)), by rw [eL26]; exact kDoes_inv hI hdk, by rw [eL26]; exact kDoes_r0⟩)
  rcases Decidable.em (ch po = nI 101) with h1_101 | h1_n101
  · refine lv_tableIn (tgt := 222) hx hb dX6_readCommand_29 (by rw [h1_101]; decide) (by rw [h1_101]; decide) (by rw [h1_101]; rfl) (by decide) ?_
    refine lv_aload_n hx hb dX6_readCommand_222 rfl (lv_at hl 4 rfl) ?_
    refine lv_iconst (v := nI 2) hx hb dX6_readCommand_223 (by decide) ?_
    refine lv_iconst (v := nI 0) hx hb dX6_readCommand_224 (by decide) ?_
    refine lv_bipush (v := nI 11) hx hb dX6_readCommand_225 (by decide) ?_
    have hP0 : va_P G.1 vwCl ((zb_6 G b rf (nI tn) ac (nI (po + 1)) ou ++ zb_a G (b 1) 120 ch) ++ (zb_r G (b 3) K)) H := zk_Pperm hP (show ((zb_6 G b rf (nI tn) ac (nI (po + 1)) ou) ++ ((zb_a G (b 1) 120 ch) ++ zb_r G (b 3) K)).Perm ((zb_6 G b rf (nI tn) ac (nI (po + 1)) ou ++ zb_a G (b 1) 120 ch) ++ (zb_r G (b 3) K)) from (show ((zb_6 G b rf (nI tn) ac (nI (po + 1)) ou) ++ ((zb_a G (b 1) 120 ch) ++ zb_r G (b 3) K)).Perm ((zb_6 G b rf (nI tn) ac (nI (po + 1)) ou) ++ ((zb_a G (b 1) 120 ch) ++ zb_r G (b 3) K)) from ((List.perm_append_comm_assoc _ _ _)).trans (List.perm_append_comm_assoc _ _ _)).trans (List.Perm.of_eq (by simp only [List.append_assoc, List.append_nil, List.nil_append])))
    have hD0 : va_D A ((zb_6 G b rf (nI tn) ac (nI (po + 1)) ou ++ zb_a G (b 1) 120 ch) ++ (zb_r G (b 3) K)) := zk_Dperm hD (show ((zb_6 G b rf (nI tn) ac (nI (po + 1)) ou) ++ ((zb_a G (b 1) 120 ch) ++ zb_r G (b 3) K)).Perm ((zb_6 G b rf (nI tn) ac (nI (po + 1)) ou ++ zb_a G (b 1) 120 ch) ++ (zb_r G (b 3) K)) from (show ((zb_6 G b rf (nI tn) ac (nI (po + 1)) ou) ++ ((zb_a G (b 1) 120 ch) ++ zb_r G (b 3) K)).Perm ((zb_6 G b rf (nI tn) ac (nI (po + 1)) ou) ++ ((zb_a G (b 1) 120 ch) ++ zb_r G (b 3) K)) from ((List.perm_append_comm_assoc _ _ _)).trans (List.perm_append_comm_assoc _ _ _)).trans (List.Perm.of_eq (by simp only [List.append_assoc, List.append_nil, List.nil_append])))
    refine zk_callI (wr := zb_r G (b 3) K) (va_runV (As := [.int (nI 2), .int (nI 0), .int (nI 11)]) (rest := []) ⟨hx, hb, hml, hown, hts⟩ (c_X6_number l G b rf tn ac (po + 1) ou htn ch 2 0 11 (by decide) (by decide) (by decide) (by decide) (by omega) _) (cwV 3 hts gX6_readCommand_X6_number rfl rfl rfl (by decide +kernel) ⟨Nat.le_of_ble_eq_true rfl, Nat.le_of_ble_eq_true rfl⟩) (zk_preV hE hA0 hS (zk_Papp hP0).1 (zk_Dapp hD0).1 (va_recv hK hP0 (ci := 5) (q0 := 0) rfl rfl)) rfl rfl hl.1 rfl (lv_room (Nat.le_of_ble_eq_true rfl)) dX6_readCommand_227 ⟨Nat.le_of_ble_eq_true rfl, Nat.le_of_ble_eq_true rfl⟩) hP0 hD0 hS hA (fun r30 u31 H locs q32 hP hD hS => ?_)
    obtain ⟨er30, eu31⟩ := q32
    subst eu31
    have hmr30 : ∀ v, (tRange ch tn 0 11 2 0 (po + 1)).1 = some v → v ≤ 11 := fun v hv => tRange_in (by decide) hv
    have hP : va_P G.1 vwCl ((zb_6 G b rf (nI tn) ac (nI ((tRange ch tn 0 11 2 0 (po + 1)).2)) ou) ++ ((zb_a G (b 1) 120 ch) ++ zb_r G (b 3) K)) H := zk_Pperm hP (show ((zb_6 G b rf (nI tn) ac (nI ((tRange ch tn 0 11 2 0 (po + 1)).2)) ou) ++ ((zb_a G (b 1) 120 ch) ++ zb_r G (b 3) K)).Perm ((zb_6 G b rf (nI tn) ac (nI ((tRange ch tn 0 11 2 0 (po + 1)).2)) ou ++ zb_a G (b 1) 120 ch) ++ (zb_r G (b 3) K)) from (show ((zb_6 G b rf (nI tn) ac (nI ((tRange ch tn 0 11 2 0 (po + 1)).2)) ou) ++ ((zb_a G (b 1) 120 ch) ++ zb_r G (b 3) K)).Perm ((zb_6 G b rf (nI tn) ac (nI ((tRange ch tn 0 11 2 0 (po + 1)).2)) ou) ++ ((zb_a G (b 1) 120 ch) ++ zb_r G (b 3) K)) from ((List.perm_append_comm_assoc _ _ _)).trans (List.perm_append_comm_assoc _ _ _)).trans (List.Perm.of_eq (by simp only [List.append_assoc, List.append_nil, List.nil_append]))).symm
    have hD : va_D A ((zb_6 G b rf (nI tn) ac (nI ((tRange ch tn 0 11 2 0 (po + 1)).2)) ou) ++ ((zb_a G (b 1) 120 ch) ++ zb_r G (b 3) K)) := zk_Dperm hD (show ((zb_6 G b rf (nI tn) ac (nI ((tRange ch tn 0 11 2 0 (po + 1)).2)) ou) ++ ((zb_a G (b 1) 120 ch) ++ zb_r G (b 3) K)).Perm ((zb_6 G b rf (nI tn) ac (nI ((tRange ch tn 0 11 2 0 (po + 1)).2)) ou ++ zb_a G (b 1) 120 ch) ++ (zb_r G (b 3) K)) from (show ((zb_6 G b rf (nI tn) ac (nI ((tRange ch tn 0 11 2 0 (po + 1)).2)) ou) ++ ((zb_a G (b 1) 120 ch) ++ zb_r G (b 3) K)).Perm ((zb_6 G b rf (nI tn) ac (nI ((tRange ch tn 0 11 2 0 (po + 1)).2)) ou) ++ ((zb_a G (b 1) 120 ch) ++ zb_r G (b 3) K)) from ((List.perm_append_comm_assoc _ _ _)).trans (List.perm_append_comm_assoc _ _ _)).trans (List.Perm.of_eq (by simp only [List.append_assoc, List.append_nil, List.nil_append]))).symm
    refine lv_istore_n (lv' := [(3, .int r30), (5, .int (nI 0)), (4, .int (nI 0)), (2, .int (ch po)), (0, .ref (b 0)), (1, .ref (b 3))]) hx hb dX6_readCommand_230 rfl hl (by decide) rfl (fun ls hl => ?_)
    refine lv_iload_n hx hb dX6_readCommand_231 rfl (lv_at hl 0 rfl) ?_
    refine lv_iconst (v := -1) hx hb dX6_readCommand_232 (by decide) ?_
    refine lv_icmp_ne (tgt := 240) hx hb dX6_readCommand_233 (by decide) (fun h233_32 => ?_) (fun h233_32 => ?_)
    · obtain ⟨a0, ha0, hb0, he0⟩ := sOpt_1 (by decide) hmr30 (fun z => h233_32 (er30.trans z))
      have hv0 := er30.trans he0
      have hl : lv_has ls 6 [(3, .int (nI a0)), (5, .int (nI 0)), (4, .int (nI 0)), (2, .int (ch po)), (0, .ref (b 0)), (1, .ref (b 3))] := by rw [hv0] at hl; exact hl
      refine lv_aload_n hx hb dX6_readCommand_240 rfl (lv_at hl 4 rfl) ?_
      refine lv_iconst (v := nI 2) hx hb dX6_readCommand_241 (by decide) ?_
      refine lv_iconst (v := nI 0) hx hb dX6_readCommand_242 (by decide) ?_
      refine lv_bipush (v := nI 39) hx hb dX6_readCommand_243 (by decide) ?_
      have hP0 : va_P G.1 vwCl ((zb_6 G b rf (nI tn) ac (nI ((tRange ch tn 0 11 2 0 (po + 1)).2)) ou ++ zb_a G (b 1) 120 ch) ++ (zb_r G (b 3) K)) H := zk_Pperm hP (show ((zb_6 G b rf (nI tn) ac (nI ((tRange ch tn 0 11 2 0 (po + 1)).2)) ou) ++ ((zb_a G (b 1) 120 ch) ++ zb_r G (b 3) K)).Perm ((zb_6 G b rf (nI tn) ac (nI ((tRange ch tn 0 11 2 0 (po + 1)).2)) ou ++ zb_a G (b 1) 120 ch) ++ (zb_r G (b 3) K)) from (show ((zb_6 G b rf (nI tn) ac (nI ((tRange ch tn 0 11 2 0 (po + 1)).2)) ou) ++ ((zb_a G (b 1) 120 ch) ++ zb_r G (b 3) K)).Perm ((zb_6 G b rf (nI tn) ac (nI ((tRange ch tn 0 11 2 0 (po + 1)).2)) ou) ++ ((zb_a G (b 1) 120 ch) ++ zb_r G (b 3) K)) from ((List.perm_append_comm_assoc _ _ _)).trans (List.perm_append_comm_assoc _ _ _)).trans (List.Perm.of_eq (by simp only [List.append_assoc, List.append_nil, List.nil_append])))
      have hD0 : va_D A ((zb_6 G b rf (nI tn) ac (nI ((tRange ch tn 0 11 2 0 (po + 1)).2)) ou ++ zb_a G (b 1) 120 ch) ++ (zb_r G (b 3) K)) := zk_Dperm hD (show ((zb_6 G b rf (nI tn) ac (nI ((tRange ch tn 0 11 2 0 (po + 1)).2)) ou) ++ ((zb_a G (b 1) 120 ch) ++ zb_r G (b 3) K)).Perm ((zb_6 G b rf (nI tn) ac (nI ((tRange ch tn 0 11 2 0 (po + 1)).2)) ou ++ zb_a G (b 1) 120 ch) ++ (zb_r G (b 3) K)) from (show ((zb_6 G b rf (nI tn) ac (nI ((tRange ch tn 0 11 2 0 (po + 1)).2)) ou) ++ ((zb_a G (b 1) 120 ch) ++ zb_r G (b 3) K)).Perm ((zb_6 G b rf (nI tn) ac (nI ((tRange ch tn 0 11 2 0 (po + 1)).2)) ou) ++ ((zb_a G (b 1) 120 ch) ++ zb_r G (b 3) K)) from ((List.perm_append_comm_assoc _ _ _)).trans (List.perm_append_comm_assoc _ _ _)).trans (List.Perm.of_eq (by simp only [List.append_assoc, List.append_nil, List.nil_append])))
      refine zk_callI (wr := zb_r G (b 3) K) (va_runV (As := [.int (nI 2), .int (nI 0), .int (nI 39)]) (rest := []) ⟨hx, hb, hml, hown, hts⟩ (c_X6_number l G b rf tn ac ((tRange ch tn 0 11 2 0 (po + 1)).2) ou htn ch 2 0 39 (by decide) (by decide) (by decide) (by decide) (tRange_le htn (by omega)) _) (cwV 3 hts gX6_readCommand_X6_number rfl rfl rfl (by decide +kernel) ⟨Nat.le_of_ble_eq_true rfl, Nat.le_of_ble_eq_true rfl⟩) (zk_preV hE hA0 hS (zk_Papp hP0).1 (zk_Dapp hD0).1 (va_recv hK hP0 (ci := 5) (q0 := 0) rfl rfl)) rfl rfl hl.1 rfl (lv_room (Nat.le_of_ble_eq_true rfl)) dX6_readCommand_245 ⟨Nat.le_of_ble_eq_true rfl, Nat.le_of_ble_eq_true rfl⟩) hP0 hD0 hS hA (fun r34 u35 H locs q36 hP hD hS => ?_)
      obtain ⟨er34, eu35⟩ := q36
      subst eu35
      have hmr34 : ∀ v, (tRange ch tn 0 39 2 0 ((tRange ch tn 0 11 2 0 (po + 1)).2)).1 = some v → v ≤ 39 := fun v hv => tRange_in (by decide) hv
      have hP : va_P G.1 vwCl ((zb_6 G b rf (nI tn) ac (nI ((tRange ch tn 0 39 2 0 ((tRange ch tn 0 11 2 0 (po + 1)).2)).2)) ou) ++ ((zb_a G (b 1) 120 ch) ++ zb_r G (b 3) K)) H := zk_Pperm hP (show ((zb_6 G b rf (nI tn) ac (nI ((tRange ch tn 0 39 2 0 ((tRange ch tn 0 11 2 0 (po + 1)).2)).2)) ou) ++ ((zb_a G (b 1) 120 ch) ++ zb_r G (b 3) K)).Perm ((zb_6 G b rf (nI tn) ac (nI ((tRange ch tn 0 39 2 0 ((tRange ch tn 0 11 2 0 (po + 1)).2)).2)) ou ++ zb_a G (b 1) 120 ch) ++ (zb_r G (b 3) K)) from (show ((zb_6 G b rf (nI tn) ac (nI ((tRange ch tn 0 39 2 0 ((tRange ch tn 0 11 2 0 (po + 1)).2)).2)) ou) ++ ((zb_a G (b 1) 120 ch) ++ zb_r G (b 3) K)).Perm ((zb_6 G b rf (nI tn) ac (nI ((tRange ch tn 0 39 2 0 ((tRange ch tn 0 11 2 0 (po + 1)).2)).2)) ou) ++ ((zb_a G (b 1) 120 ch) ++ zb_r G (b 3) K)) from ((List.perm_append_comm_assoc _ _ _)).trans (List.perm_append_comm_assoc _ _ _)).trans (List.Perm.of_eq (by simp only [List.append_assoc, List.append_nil, List.nil_append]))).symm
      have hD : va_D A ((zb_6 G b rf (nI tn) ac (nI ((tRange ch tn 0 39 2 0 ((tRange ch tn 0 11 2 0 (po + 1)).2)).2)) ou) ++ ((zb_a G (b 1) 120 ch) ++ zb_r G (b 3) K)) := zk_Dperm hD (show ((zb_6 G b rf (nI tn) ac (nI ((tRange ch tn 0 39 2 0 ((tRange ch tn 0 11 2 0 (po + 1)).2)).2)) ou) ++ ((zb_a G (b 1) 120 ch) ++ zb_r G (b 3) K)).Perm ((zb_6 G b rf (nI tn) ac (nI ((tRange ch tn 0 39 2 0 ((tRange ch tn 0 11 2 0 (po + 1)).2)).2)) ou ++ zb_a G (b 1) 120 ch) ++ (zb_r G (b 3) K)) from (show ((zb_6 G b rf (nI tn) ac (nI ((tRange ch tn 0 39 2 0 ((tRange ch tn 0 11 2 0 (po + 1)).2)).2)) ou) ++ ((zb_a G (b 1) 120 ch) ++ zb_r G (b 3) K)).Perm ((zb_6 G b rf (nI tn) ac (nI ((tRange ch tn 0 39 2 0 ((tRange ch tn 0 11 2 0 (po + 1)).2)).2)) ou) ++ ((zb_a G (b 1) 120 ch) ++ zb_r G (b 3) K)) from ((List.perm_append_comm_assoc _ _ _)).trans (List.perm_append_comm_assoc _ _ _)).trans (List.Perm.of_eq (by simp only [List.append_assoc, List.append_nil, List.nil_append]))).symm
      refine lv_istore (lv' := [(4, .int r34), (3, .int (nI a0)), (5, .int (nI 0)), (2, .int (ch po)), (0, .ref (b 0)), (1, .ref (b 3))]) hx hb dX6_readCommand_248 hl (by decide) rfl (fun ls hl => ?_)
      refine lv_iload hx hb dX6_readCommand_250 (lv_at hl 0 rfl) ?_
      refine lv_iconst (v := -1) hx hb dX6_readCommand_252 (by decide) ?_
      refine lv_icmp_ne (tgt := 260) hx hb dX6_readCommand_253 (by decide) (fun h253_36 => ?_) (fun h253_36 => ?_)
      · obtain ⟨a1, ha1, hb1, he1⟩ := sOpt_1 (by decide) hmr34 (fun z => h253_36 (er34.trans z))
        have hv1 := er34.trans he1
        have hl : lv_has ls 6 [(4, .int (nI a1)), (3, .int (nI a0)), (5, .int (nI 0)), (2, .int (ch po)), (0, .ref (b 0)), (1, .ref (b 3))] := by rw [hv1] at hl; exact hl
        refine lv_aload_n hx hb dX6_readCommand_260 rfl (lv_at hl 4 rfl) ?_
        refine lv_iconst (v := nI 2) hx hb dX6_readCommand_261 (by decide) ?_
        refine lv_iconst (v := nI 0) hx hb dX6_readCommand_262 (by decide) ?_
        refine lv_bipush (v := nI 39) hx hb dX6_readCommand_263 (by decide) ?_
        have hP0 : va_P G.1 vwCl ((zb_6 G b rf (nI tn) ac (nI ((tRange ch tn 0 39 2 0 ((tRange ch tn 0 11 2 0 (po + 1)).2)).2)) ou ++ zb_a G (b 1) 120 ch) ++ (zb_r G (b 3) K)) H := zk_Pperm hP (show ((zb_6 G b rf (nI tn) ac (nI ((tRange ch tn 0 39 2 0 ((tRange ch tn 0 11 2 0 (po + 1)).2)).2)) ou) ++ ((zb_a G (b 1) 120 ch) ++ zb_r G (b 3) K)).Perm ((zb_6 G b rf (nI tn) ac (nI ((tRange ch tn 0 39 2 0 ((tRange ch tn 0 11 2 0 (po + 1)).2)).2)) ou ++ zb_a G (b 1) 120 ch) ++ (zb_r G (b 3) K)) from (show ((zb_6 G b rf (nI tn) ac (nI ((tRange ch tn 0 39 2 0 ((tRange ch tn 0 11 2 0 (po + 1)).2)).2)) ou) ++ ((zb_a G (b 1) 120 ch) ++ zb_r G (b 3) K)).Perm ((zb_6 G b rf (nI tn) ac (nI ((tRange ch tn 0 39 2 0 ((tRange ch tn 0 11 2 0 (po + 1)).2)).2)) ou) ++ ((zb_a G (b 1) 120 ch) ++ zb_r G (b 3) K)) from ((List.perm_append_comm_assoc _ _ _)).trans (List.perm_append_comm_assoc _ _ _)).trans (List.Perm.of_eq (by simp only [List.append_assoc, List.append_nil, List.nil_append])))
        have hD0 : va_D A ((zb_6 G b rf (nI tn) ac (nI ((tRange ch tn 0 39 2 0 ((tRange ch tn 0 11 2 0 (po + 1)).2)).2)) ou ++ zb_a G (b 1) 120 ch) ++ (zb_r G (b 3) K)) := zk_Dperm hD (show ((zb_6 G b rf (nI tn) ac (nI ((tRange ch tn 0 39 2 0 ((tRange ch tn 0 11 2 0 (po + 1)).2)).2)) ou) ++ ((zb_a G (b 1) 120 ch) ++ zb_r G (b 3) K)).Perm ((zb_6 G b rf (nI tn) ac (nI ((tRange ch tn 0 39 2 0 ((tRange ch tn 0 11 2 0 (po + 1)).2)).2)) ou ++ zb_a G (b 1) 120 ch) ++ (zb_r G (b 3) K)) from (show ((zb_6 G b rf (nI tn) ac (nI ((tRange ch tn 0 39 2 0 ((tRange ch tn 0 11 2 0 (po + 1)).2)).2)) ou) ++ ((zb_a G (b 1) 120 ch) ++ zb_r G (b 3) K)).Perm ((zb_6 G b rf (nI tn) ac (nI ((tRange ch tn 0 39 2 0 ((tRange ch tn 0 11 2 0 (po + 1)).2)).2)) ou) ++ ((zb_a G (b 1) 120 ch) ++ zb_r G (b 3) K)) from ((List.perm_append_comm_assoc _ _ _)).trans (List.perm_append_comm_assoc _ _ _)).trans (List.Perm.of_eq (by simp only [List.append_assoc, List.append_nil, List.nil_append])))
        refine zk_callI (wr := zb_r G (b 3) K) (va_runV (As := [.int (nI 2), .int (nI 0), .int (nI 39)]) (rest := []) ⟨hx, hb, hml, hown, hts⟩ (c_X6_number l G b rf tn ac ((tRange ch tn 0 39 2 0 ((tRange ch tn 0 11 2 0 (po + 1)).2)).2) ou htn ch 2 0 39 (by decide) (by decide) (by decide) (by decide) (tRange_le htn (tRange_le htn (by omega))) _) (cwV 3 hts gX6_readCommand_X6_number rfl rfl rfl (by decide +kernel) ⟨Nat.le_of_ble_eq_true rfl, Nat.le_of_ble_eq_true rfl⟩) (zk_preV hE hA0 hS (zk_Papp hP0).1 (zk_Dapp hD0).1 (va_recv hK hP0 (ci := 5) (q0 := 0) rfl rfl)) rfl rfl hl.1 rfl (lv_room (Nat.le_of_ble_eq_true rfl)) dX6_readCommand_265 ⟨Nat.le_of_ble_eq_true rfl, Nat.le_of_ble_eq_true rfl⟩) hP0 hD0 hS hA (fun r38 u39 H locs q40 hP hD hS => ?_)
        obtain ⟨er38, eu39⟩ := q40
        subst eu39
        have hmr38 : ∀ v, (tRange ch tn 0 39 2 0 ((tRange ch tn 0 39 2 0 ((tRange ch tn 0 11 2 0 (po + 1)).2)).2)).1 = some v → v ≤ 39 := fun v hv => tRange_in (by decide) hv
        have hP : va_P G.1 vwCl ((zb_6 G b rf (nI tn) ac (nI ((tRange ch tn 0 39 2 0 ((tRange ch tn 0 39 2 0 ((tRange ch tn 0 11 2 0 (po + 1)).2)).2)).2)) ou) ++ ((zb_a G (b 1) 120 ch) ++ zb_r G (b 3) K)) H := zk_Pperm hP (show ((zb_6 G b rf (nI tn) ac (nI ((tRange ch tn 0 39 2 0 ((tRange ch tn 0 39 2 0 ((tRange ch tn 0 11 2 0 (po + 1)).2)).2)).2)) ou) ++ ((zb_a G (b 1) 120 ch) ++ zb_r G (b 3) K)).Perm ((zb_6 G b rf (nI tn) ac (nI ((tRange ch tn 0 39 2 0 ((tRange ch tn 0 39 2 0 ((tRange ch tn 0 11 2 0 (po + 1)).2)).2)).2)) ou ++ zb_a G (b 1) 120 ch) ++ (zb_r G (b 3) K)) from (show ((zb_6 G b rf (nI tn) ac (nI ((tRange ch tn 0 39 2 0 ((tRange ch tn 0 39 2 0 ((tRange ch tn 0 11 2 0 (po + 1)).2)).2)).2)) ou) ++ ((zb_a G (b 1) 120 ch) ++ zb_r G (b 3) K)).Perm ((zb_6 G b rf (nI tn) ac (nI ((tRange ch tn 0 39 2 0 ((tRange ch tn 0 39 2 0 ((tRange ch tn 0 11 2 0 (po + 1)).2)).2)).2)) ou) ++ ((zb_a G (b 1) 120 ch) ++ zb_r G (b 3) K)) from ((List.perm_append_comm_assoc _ _ _)).trans (List.perm_append_comm_assoc _ _ _)).trans (List.Perm.of_eq (by simp only [List.append_assoc, List.append_nil, List.nil_append]))).symm
        have hD : va_D A ((zb_6 G b rf (nI tn) ac (nI ((tRange ch tn 0 39 2 0 ((tRange ch tn 0 39 2 0 ((tRange ch tn 0 11 2 0 (po + 1)).2)).2)).2)) ou) ++ ((zb_a G (b 1) 120 ch) ++ zb_r G (b 3) K)) := zk_Dperm hD (show ((zb_6 G b rf (nI tn) ac (nI ((tRange ch tn 0 39 2 0 ((tRange ch tn 0 39 2 0 ((tRange ch tn 0 11 2 0 (po + 1)).2)).2)).2)) ou) ++ ((zb_a G (b 1) 120 ch) ++ zb_r G (b 3) K)).Perm ((zb_6 G b rf (nI tn) ac (nI ((tRange ch tn 0 39 2 0 ((tRange ch tn 0 39 2 0 ((tRange ch tn 0 11 2 0 (po + 1)).2)).2)).2)) ou ++ zb_a G (b 1) 120 ch) ++ (zb_r G (b 3) K)) from (show ((zb_6 G b rf (nI tn) ac (nI ((tRange ch tn 0 39 2 0 ((tRange ch tn 0 39 2 0 ((tRange ch tn 0 11 2 0 (po + 1)).2)).2)).2)) ou) ++ ((zb_a G (b 1) 120 ch) ++ zb_r G (b 3) K)).Perm ((zb_6 G b rf (nI tn) ac (nI ((tRange ch tn 0 39 2 0 ((tRange ch tn 0 39 2 0 ((tRange ch tn 0 11 2 0 (po + 1)).2)).2)).2)) ou) ++ ((zb_a G (b 1) 120 ch) ++ zb_r G (b 3) K)) from ((List.perm_append_comm_assoc _ _ _)).trans (List.perm_append_comm_assoc _ _ _)).trans (List.Perm.of_eq (by simp only [List.append_assoc, List.append_nil, List.nil_append]))).symm
        refine lv_istore (lv' := [(5, .int r38), (4, .int (nI a1)), (3, .int (nI a0)), (2, .int (ch po)), (0, .ref (b 0)), (1, .ref (b 3))]) hx hb dX6_readCommand_268 hl (by decide) rfl (fun ls hl => ?_)
        refine lv_goto (tgt := 308) hx hb dX6_readCommand_270 (by decide) ?_
        refine lv_iload_n hx hb dX6_readCommand_308 rfl (lv_at hl 2 rfl) ?_
        refine lv_iconst (v := -1) hx hb dX6_readCommand_309 (by decide) ?_
        refine lv_icmp_eq (tgt := 325) hx hb dX6_readCommand_310 (by decide) (fun h310_40 => ?_) (fun h310_40 => ?_)
        · exact absurd h310_40 (zk_m1n (by omega))
        · refine lv_iload hx hb dX6_readCommand_313 (lv_at hl 1 rfl) ?_
          refine lv_iconst (v := -1) hx hb dX6_readCommand_315 (by decide) ?_
          refine lv_icmp_eq (tgt := 325) hx hb dX6_readCommand_316 (by decide) (fun h316_41 => ?_) (fun h316_41 => ?_)
          · exact absurd h316_41 (zk_m1n (by omega))
          · refine lv_iload hx hb dX6_readCommand_319 (lv_at hl 0 rfl) ?_
            refine lv_iconst (v := -1) hx hb dX6_readCommand_321 (by decide) ?_
            refine lv_icmp_ne (tgt := 327) hx hb dX6_readCommand_322 (by decide) (fun h322_42 => ?_) (fun h322_42 => ?_)
            · obtain ⟨a2, ha2, hb2, he2⟩ := sOpt_1 (by decide) hmr38 (fun z => h322_42 (er38.trans z))
              have hv2 := er38.trans he2
              have hl : lv_has ls 6 [(5, .int (nI a2)), (4, .int (nI a1)), (3, .int (nI a0)), (2, .int (ch po)), (0, .ref (b 0)), (1, .ref (b 3))] := by rw [hv2] at hl; exact hl
              have hC : tCmd ch tn po = (some [a0, a1, a2], (tRange ch tn 0 39 2 0 ((tRange ch tn 0 39 2 0 ((tRange ch tn 0 11 2 0 (po + 1)).2)).2)).2) := (tCmd_101 hlt h1_101).trans ((t3_s ha0).trans (by rw [t2_ss (A := rF ch tn 0 39 2) (B := rF ch tn 0 39 2) ha1 ha2] <;> rfl))
              refine lv_aload_n hx hb dX6_readCommand_327 rfl (lv_at hl 4 rfl) ?_
              refine lv_dup hx hb dX6_readCommand_328 rfl ?_
              refine va_get (D := G.1) (ci := 5) (v := .int ou) (C := RX6) (T := TX6) (N := 11) hx hb hts (fun _ h => List.mem_cons_of_mem _ (List.mem_append_right _ h)) hown hK hP 0 rfl rfl 10 (by decide) w3 (fun _ h9 => h9) rfl dX6_readCommand_329 ?_
              refine lv_aload_n hx hb dX6_readCommand_332 rfl (lv_at hl 5 rfl) ?_
              refine lv_iload_n hx hb dX6_readCommand_333 rfl (lv_at hl 3 rfl) ?_
              refine lv_iload_n hx hb dX6_readCommand_334 rfl (lv_at hl 2 rfl) ?_
              refine lv_iload hx hb dX6_readCommand_335 (lv_at hl 1 rfl) ?_
              refine lv_iload hx hb dX6_readCommand_337 (lv_at hl 0 rfl) ?_
              have hdk : kDok (ch po) (nI a0) := (by rw [h1_101]; exact kDok_e _)
              have hP0 : va_P G.1 vwCl ((zb_r G (b 3) K) ++ ((zb_6 G b rf (nI tn) ac (nI ((tRange ch tn 0 39 2 0 ((tRange ch tn 0 39 2 0 ((tRange ch tn 0 11 2 0 (po + 1)).2)).2)).2)) ou) ++ zb_a G (b 1) 120 ch)) H := zk_Pperm hP (show ((zb_6 G b rf (nI tn) ac (nI ((tRange ch tn 0 39 2 0 ((tRange ch tn 0 39 2 0 ((tRange ch tn 0 11 2 0 (po + 1)).2)).2)).2)) ou) ++ ((zb_a G (b 1) 120 ch) ++ zb_r G (b 3) K)).Perm ((zb_r G (b 3) K) ++ ((zb_6 G b rf (nI tn) ac (nI ((tRange ch tn 0 39 2 0 ((tRange ch tn 0 39 2 0 ((tRange ch tn 0 11 2 0 (po + 1)).2)).2)).2)) ou) ++ zb_a G (b 1) 120 ch)) from (show ((zb_6 G b rf (nI tn) ac (nI ((tRange ch tn 0 39 2 0 ((tRange ch tn 0 39 2 0 ((tRange ch tn 0 11 2 0 (po + 1)).2)).2)).2)) ou) ++ ((zb_a G (b 1) 120 ch) ++ zb_r G (b 3) K)).Perm ((zb_r G (b 3) K) ++ ((zb_6 G b rf (nI tn) ac (nI ((tRange ch tn 0 39 2 0 ((tRange ch tn 0 39 2 0 ((tRange ch tn 0 11 2 0 (po + 1)).2)).2)).2)) ou) ++ zb_a G (b 1) 120 ch)) from ((List.Perm.append_left _ List.perm_append_comm).trans (List.perm_append_comm_assoc _ _ _))).trans (List.Perm.of_eq (by simp only [List.append_assoc, List.append_nil, List.nil_append])))
              have hD0 : va_D A ((zb_r G (b 3) K) ++ ((zb_6 G b rf (nI tn) ac (nI ((tRange ch tn 0 39 2 0 ((tRange ch tn 0 39 2 0 ((tRange ch tn 0 11 2 0 (po + 1)).2)).2)).2)) ou) ++ zb_a G (b 1) 120 ch)) := zk_Dperm hD (show ((zb_6 G b rf (nI tn) ac (nI ((tRange ch tn 0 39 2 0 ((tRange ch tn 0 39 2 0 ((tRange ch tn 0 11 2 0 (po + 1)).2)).2)).2)) ou) ++ ((zb_a G (b 1) 120 ch) ++ zb_r G (b 3) K)).Perm ((zb_r G (b 3) K) ++ ((zb_6 G b rf (nI tn) ac (nI ((tRange ch tn 0 39 2 0 ((tRange ch tn 0 39 2 0 ((tRange ch tn 0 11 2 0 (po + 1)).2)).2)).2)) ou) ++ zb_a G (b 1) 120 ch)) from (show ((zb_6 G b rf (nI tn) ac (nI ((tRange ch tn 0 39 2 0 ((tRange ch tn 0 39 2 0 ((tRange ch tn 0 11 2 0 (po + 1)).2)).2)).2)) ou) ++ ((zb_a G (b 1) 120 ch) ++ zb_r G (b 3) K)).Perm ((zb_r G (b 3) K) ++ ((zb_6 G b rf (nI tn) ac (nI ((tRange ch tn 0 39 2 0 ((tRange ch tn 0 39 2 0 ((tRange ch tn 0 11 2 0 (po + 1)).2)).2)).2)) ou) ++ zb_a G (b 1) 120 ch)) from ((List.Perm.append_left _ List.perm_append_comm).trans (List.perm_append_comm_assoc _ _ _))).trans (List.Perm.of_eq (by simp only [List.append_assoc, List.append_nil, List.nil_append])))
              refine zk_callI (wr := (zb_6 G b rf (nI tn) ac (nI ((tRange ch tn 0 39 2 0 ((tRange ch tn 0 39 2 0 ((tRange ch tn 0 11 2 0 (po + 1)).2)).2)).2)) ou) ++ zb_a G (b 1) 120 ch) (va_runS (As := [.ref (b 3), .int (ch po), .int (nI a0), .int (nI a1), .int (nI a2)]) (rest := [.int ou, .ref (b 0)]) ⟨hx, hb, hml, hown, hts⟩ (c_X6_does l G (b 3) K (zN K) (zT K) hI (ch po) (nI a0) (nI a1) (nI a2) hdk hp0 _) (cwS 5 hts gX6_readCommand_X6_does rfl rfl rfl (by decide +kernel) ⟨Nat.le_of_ble_eq_true rfl, Nat.le_of_ble_eq_true rfl⟩) (zk_preS hE hA0 hS (zk_Papp hP0).1 (zk_Dapp hD0).1) rfl rfl hl.1 rfl (lv_room (Nat.le_of_ble_eq_true rfl)) dX6_readCommand_339 ⟨Nat.le_of_ble_eq_true rfl, Nat.le_of_ble_eq_true rfl⟩) hP0 hD0 hS hA (fun r44 u45 H locs q46 hP hD hS => ?_)
              obtain ⟨er44, eL47⟩ := q46
              have hP : va_P G.1 vwCl ((zb_6 G b rf (nI tn) ac (nI ((tRange ch tn 0 39 2 0 ((tRange ch tn 0 39 2 0 ((tRange ch tn 0 11 2 0 (po + 1)).2)).2)).2)) ou) ++ ((zb_a G (b 1) 120 ch) ++ zb_r G (b 3) u45)) H := zk_Pperm hP (show ((zb_6 G b rf (nI tn) ac (nI ((tRange ch tn 0 39 2 0 ((tRange ch tn 0 39 2 0 ((tRange ch tn 0 11 2 0 (po + 1)).2)).2)).2)) ou) ++ ((zb_a G (b 1) 120 ch) ++ zb_r G (b 3) u45)).Perm ((zb_r G (b 3) u45) ++ ((zb_6 G b rf (nI tn) ac (nI ((tRange ch tn 0 39 2 0 ((tRange ch tn 0 39 2 0 ((tRange ch tn 0 11 2 0 (po + 1)).2)).2)).2)) ou) ++ zb_a G (b 1) 120 ch)) from (show ((zb_6 G b rf (nI tn) ac (nI ((tRange ch tn 0 39 2 0 ((tRange ch tn 0 39 2 0 ((tRange ch tn 0 11 2 0 (po + 1)).2)).2)).2)) ou) ++ ((zb_a G (b 1) 120 ch) ++ zb_r G (b 3) u45)).Perm ((zb_r G (b 3) u45) ++ ((zb_6 G b rf (nI tn) ac (nI ((tRange ch tn 0 39 2 0 ((tRange ch tn 0 39 2 0 ((tRange ch tn 0 11 2 0 (po + 1)).2)).2)).2)) ou) ++ zb_a G (b 1) 120 ch)) from ((List.Perm.append_left _ List.perm_append_comm).trans (List.perm_append_comm_assoc _ _ _))).trans (List.Perm.of_eq (by simp only [List.append_assoc, List.append_nil, List.nil_append]))).symm
              have hD : va_D A ((zb_6 G b rf (nI tn) ac (nI ((tRange ch tn 0 39 2 0 ((tRange ch tn 0 39 2 0 ((tRange ch tn 0 11 2 0 (po + 1)).2)).2)).2)) ou) ++ ((zb_a G (b 1) 120 ch) ++ zb_r G (b 3) u45)) := zk_Dperm hD (show ((zb_6 G b rf (nI tn) ac (nI ((tRange ch tn 0 39 2 0 ((tRange ch tn 0 39 2 0 ((tRange ch tn 0 11 2 0 (po + 1)).2)).2)).2)) ou) ++ ((zb_a G (b 1) 120 ch) ++ zb_r G (b 3) u45)).Perm ((zb_r G (b 3) u45) ++ ((zb_6 G b rf (nI tn) ac (nI ((tRange ch tn 0 39 2 0 ((tRange ch tn 0 39 2 0 ((tRange ch tn 0 11 2 0 (po + 1)).2)).2)).2)) ou) ++ zb_a G (b 1) 120 ch)) from (show ((zb_6 G b rf (nI tn) ac (nI ((tRange ch tn 0 39 2 0 ((tRange ch tn 0 39 2 0 ((tRange ch tn 0 11 2 0 (po + 1)).2)).2)).2)) ou) ++ ((zb_a G (b 1) 120 ch) ++ zb_r G (b 3) u45)).Perm ((zb_r G (b 3) u45) ++ ((zb_6 G b rf (nI tn) ac (nI ((tRange ch tn 0 39 2 0 ((tRange ch tn 0 39 2 0 ((tRange ch tn 0 11 2 0 (po + 1)).2)).2)).2)) ou) ++ zb_a G (b 1) 120 ch)) from ((List.Perm.append_left _ List.perm_append_comm).trans (List.perm_append_comm_assoc _ _ _))).trans (List.Perm.of_eq (by simp only [List.append_assoc, List.append_nil, List.nil_append]))).symm
              refine lv_if_eq (tgt := 349) hx hb dX6_readCommand_342 (by decide) (fun h342_47 => ?_) (fun h342_47 => ?_)
              · refine lv_iconst (v := nI 1) hx hb dX6_readCommand_349 (by decide) ?_
                refine lv_iadd hx hb dX6_readCommand_350 ?_
                refine lv_topi (fun x49 ex49 => ?_)
                refine va_put (D := G.1) (ci := 5) (v := .int x49) (ty := .int) (C := RX6) (T := TX6) (N := 11) hx hb hts (fun _ h => List.mem_cons_of_mem _ (List.mem_append_right _ h)) tyX6 tyX6_ok nmX6 hown hK hP hD hS 0 rfl rfl 10 (by decide) w3 (fun _ h9 => h9) rfl (by decide +kernel) rfl rfl (Nat.le_of_ble_eq_true rfl) dX6_readCommand_351 (fun H locs hP hD hS => ?_)
                have hP : va_P G.1 vwCl ((zb_6 G b rf (nI tn) ac (nI ((tRange ch tn 0 39 2 0 ((tRange ch tn 0 39 2 0 ((tRange ch tn 0 11 2 0 (po + 1)).2)).2)).2)) x49) ++ ((zb_a G (b 1) 120 ch) ++ zb_r G (b 3) u45)) H := hP
                have hD : va_D A ((zb_6 G b rf (nI tn) ac (nI ((tRange ch tn 0 39 2 0 ((tRange ch tn 0 39 2 0 ((tRange ch tn 0 11 2 0 (po + 1)).2)).2)).2)) x49) ++ ((zb_a G (b 1) 120 ch) ++ zb_r G (b 3) u45)) := hD
                refine lv_iconst (v := nI 1) hx hb dX6_readCommand_354 (by decide) ?_
                exact zk_retz ((tRange ch tn 0 39 2 0 ((tRange ch tn 0 39 2 0 ((tRange ch tn 0 11 2 0 (po + 1)).2)).2)).2, u45, x49) hQ hx hb hr hlocks hS hP hD (Nat.le_of_ble_eq_true rfl) (Nat.le_of_ble_eq_true rfl) dX6_readCommand_355 (rfl) (by rw [kTS_some hlt hC]; exact ⟨rfl, Prod.ext rfl (Prod.ext eL47 (by show x49 = _; rw [ex49]; exact congrArg (ou + ·) (if_pos (er44.symm.trans h342_47)).symm)), by rw [eL47]; exact kDoes_inv hI hdk, by rw [eL47]; exact kDoes_r0⟩)
              · refine lv_iconst (v := nI 0) hx hb dX6_readCommand_345 (by decide) ?_
                refine lv_goto (tgt := 350) hx hb dX6_readCommand_346 (by decide) ?_
                refine lv_iadd hx hb dX6_readCommand_350 ?_
                refine lv_topi (fun x50 ex50 => ?_)
                refine va_put (D := G.1) (ci := 5) (v := .int x50) (ty := .int) (C := RX6) (T := TX6) (N := 11) hx hb hts (fun _ h => List.mem_cons_of_mem _ (List.mem_append_right _ h)) tyX6 tyX6_ok nmX6 hown hK hP hD hS 0 rfl rfl 10 (by decide) w3 (fun _ h9 => h9) rfl (by decide +kernel) rfl rfl (Nat.le_of_ble_eq_true rfl) dX6_readCommand_351 (fun H locs hP hD hS => ?_)
                have hP : va_P G.1 vwCl ((zb_6 G b rf (nI tn) ac (nI ((tRange ch tn 0 39 2 0 ((tRange ch tn 0 39 2 0 ((tRange ch tn 0 11 2 0 (po + 1)).2)).2)).2)) x50) ++ ((zb_a G (b 1) 120 ch) ++ zb_r G (b 3) u45)) H := hP
                have hD : va_D A ((zb_6 G b rf (nI tn) ac (nI ((tRange ch tn 0 39 2 0 ((tRange ch tn 0 39 2 0 ((tRange ch tn 0 11 2 0 (po + 1)).2)).2)).2)) x50) ++ ((zb_a G (b 1) 120 ch) ++ zb_r G (b 3) u45)) := hD
                refine lv_iconst (v := nI 1) hx hb dX6_readCommand_354 (by decide) ?_
                exact zk_retz ((tRange ch tn 0 39 2 0 ((tRange ch tn 0 39 2 0 ((tRange ch tn 0 11 2 0 (po + 1)).2)).2)).2, u45, x50) hQ hx hb hr hlocks hS hP hD (Nat.le_of_ble_eq_true rfl) (Nat.le_of_ble_eq_true rfl) dX6_readCommand_355 (rfl) (by rw [kTS_some hlt hC]; exact ⟨rfl, Prod.ext rfl (Prod.ext eL47 (by show x50 = _; rw [ex50]; exact congrArg (ou + ·) (if_neg (fun z => h342_47 (er44.trans z))).symm)), by rw [eL47]; exact kDoes_inv hI hdk, by rw [eL47]; exact kDoes_r0⟩)
            · refine lv_iconst (v := nI 0) hx hb dX6_readCommand_325 (by decide) ?_
              exact zk_retz ((tRange ch tn 0 39 2 0 ((tRange ch tn 0 39 2 0 ((tRange ch tn 0 11 2 0 (po + 1)).2)).2)).2, K, ou) hQ hx hb hr hlocks hS hP hD (Nat.le_of_ble_eq_true rfl) (Nat.le_of_ble_eq_true rfl) dX6_readCommand_326 (rfl) (by rw [kTS_none hlt (show tCmd ch tn po = (none, (tRange ch tn 0 39 2 0 ((tRange ch tn 0 39 2 0 ((tRange ch tn 0 11 2 0 (po + 1)).2)).2)).2) from (tCmd_101 hlt h1_101).trans ((t3_s ha0).trans (by rw [t2_sn (A := rF ch tn 0 39 2) (B := rF ch tn 0 39 2) ha1 (sOpt_2 (by decide) hmr38 (er38.symm.trans h322_42))] <;> rfl)))]; exact ⟨rfl, rfl, hI, rfl⟩)
      · refine lv_iconst (v := -1) hx hb dX6_readCommand_256 (by decide) ?_
        refine lv_goto (tgt := 268) hx hb dX6_readCommand_257 (by decide) ?_
        refine lv_istore (lv' := [(5, .int (-1)), (4, .int r34), (3, .int (nI a0)), (2, .int (ch po)), (0, .ref (b 0)), (1, .ref (b 3))]) hx hb dX6_readCommand_268 hl (by decide) rfl (fun ls hl => ?_)
        refine lv_goto (tgt := 308) hx hb dX6_readCommand_270 (by decide) ?_
        refine lv_iload_n hx hb dX6_readCommand_308 rfl (lv_at hl 2 rfl) ?_
        refine lv_iconst (v := -1) hx hb dX6_readCommand_309 (by decide) ?_
        refine lv_icmp_eq (tgt := 325) hx hb dX6_readCommand_310 (by decide) (fun h310_50 => ?_) (fun h310_50 => ?_)
        · exact absurd h310_50 (zk_m1n (by omega))
        · refine lv_iload hx hb dX6_readCommand_313 (lv_at hl 1 rfl) ?_
          refine lv_iconst (v := -1) hx hb dX6_readCommand_315 (by decide) ?_
          refine lv_icmp_eq (tgt := 325) hx hb dX6_readCommand_316 (by decide) (fun h316_51 => ?_) (fun h316_51 => ?_)
          · refine lv_iconst (v := nI 0) hx hb dX6_readCommand_325 (by decide) ?_
            exact zk_retz ((tRange ch tn 0 39 2 0 ((tRange ch tn 0 11 2 0 (po + 1)).2)).2, K, ou) hQ hx hb hr hlocks hS hP hD (Nat.le_of_ble_eq_true rfl) (Nat.le_of_ble_eq_true rfl) dX6_readCommand_326 (rfl) (by rw [kTS_none hlt (show tCmd ch tn po = (none, (tRange ch tn 0 39 2 0 ((tRange ch tn 0 11 2 0 (po + 1)).2)).2) from (tCmd_101 hlt h1_101).trans ((t3_s ha0).trans (by rw [t2_n (A := rF ch tn 0 39 2) (B := rF ch tn 0 39 2) (sOpt_2 (by decide) hmr34 (er34.symm.trans h253_36))] <;> rfl)))]; exact ⟨rfl, rfl, hI, rfl⟩)
          · exact absurd h253_36 h316_51
    · refine lv_iconst (v := -1) hx hb dX6_readCommand_236 (by decide) ?_
      refine lv_goto (tgt := 248) hx hb dX6_readCommand_237 (by decide) ?_
      refine lv_istore (lv' := [(4, .int (-1)), (3, .int r30), (5, .int (nI 0)), (2, .int (ch po)), (0, .ref (b 0)), (1, .ref (b 3))]) hx hb dX6_readCommand_248 hl (by decide) rfl (fun ls hl => ?_)
      refine lv_iload hx hb dX6_readCommand_250 (lv_at hl 0 rfl) ?_
      refine lv_iconst (v := -1) hx hb dX6_readCommand_252 (by decide) ?_
      refine lv_icmp_ne (tgt := 260) hx hb dX6_readCommand_253 (by decide) (fun z => absurd (by decide) z) (fun _ => ?_)
      refine lv_iconst (v := -1) hx hb dX6_readCommand_256 (by decide) ?_
      refine lv_goto (tgt := 268) hx hb dX6_readCommand_257 (by decide) ?_
      refine lv_istore (lv' := [(5, .int (-1)), (4, .int (-1)), (3, .int r30), (2, .int (ch po)), (0, .ref (b 0)), (1, .ref (b 3))]) hx hb dX6_readCommand_268 hl (by decide) rfl (fun ls hl => ?_)
      refine lv_goto (tgt := 308) hx hb dX6_readCommand_270 (by decide) ?_
      refine lv_iload_n hx hb dX6_readCommand_308 rfl (lv_at hl 2 rfl) ?_
      refine lv_iconst (v := -1) hx hb dX6_readCommand_309 (by decide) ?_
      refine lv_icmp_eq (tgt := 325) hx hb dX6_readCommand_310 (by decide) (fun h310_52 => ?_) (fun h310_52 => ?_)
      · refine lv_iconst (v := nI 0) hx hb dX6_readCommand_325 (by decide) ?_
        exact zk_retz ((tRange ch tn 0 11 2 0 (po + 1)).2, K, ou) hQ hx hb hr hlocks hS hP hD (Nat.le_of_ble_eq_true rfl) (Nat.le_of_ble_eq_true rfl) dX6_readCommand_326 (rfl) (by rw [kTS_none hlt (show tCmd ch tn po = (none, (tRange ch tn 0 11 2 0 (po + 1)).2) from (tCmd_101 hlt h1_101).trans (t3_n (sOpt_2 (by decide) hmr30 (er30.symm.trans h233_32))))]; exact ⟨rfl, rfl, hI, rfl⟩)
      · exact absurd h233_32 h310_52
  rcases Decidable.em (ch po = nI 102) with h1_102 | h1_n102
  · refine lv_tableIn (tgt := 296) hx hb dX6_readCommand_29 (by rw [h1_102]; decide) (by rw [h1_102]; decide) (by rw [h1_102]; rfl) (by decide) ?_
    refine lv_aload_n hx hb dX6_readCommand_296 rfl (lv_at hl 4 rfl) ?_
    refine lv_dup hx hb dX6_readCommand_297 rfl ?_
    refine va_get (D := G.1) (ci := 5) (v := .int (nI (po + 1))) (C := RX6) (T := TX6) (N := 11) hx hb hts (fun _ h => List.mem_cons_of_mem _ (List.mem_append_right _ h)) hown hK hP 0 rfl rfl 9 (by decide) w2 (fun _ h9 => h9) rfl dX6_readCommand_298 ?_
    refine lv_iconst (v := nI 1) hx hb dX6_readCommand_301 (by decide) ?_
    refine zk_isubN hx hb dX6_readCommand_302 (by omega) ?_
    refine va_put (D := G.1) (ci := 5) (v := .int (nI ((po + 1) - 1))) (ty := .int) (C := RX6) (T := TX6) (N := 11) hx hb hts (fun _ h => List.mem_cons_of_mem _ (List.mem_append_right _ h)) tyX6 tyX6_ok nmX6 hown hK hP hD hS 0 rfl rfl 9 (by decide) w2 (fun _ h9 => h9) rfl (by decide +kernel) rfl rfl (Nat.le_of_ble_eq_true rfl) dX6_readCommand_303 (fun H locs hP hD hS => ?_)
    have hP : va_P G.1 vwCl ((zb_6 G b rf (nI tn) ac (nI ((po + 1) - 1)) ou) ++ ((zb_a G (b 1) 120 ch) ++ zb_r G (b 3) K)) H := hP
    have hD : va_D A ((zb_6 G b rf (nI tn) ac (nI ((po + 1) - 1)) ou) ++ ((zb_a G (b 1) 120 ch) ++ zb_r G (b 3) K)) := hD
    refine lv_iconst (v := nI 0) hx hb dX6_readCommand_306 (by decide) ?_
    exact zk_retz ((po + 1) - 1, K, ou) hQ hx hb hr hlocks hS hP hD (Nat.le_of_ble_eq_true rfl) (Nat.le_of_ble_eq_true rfl) dX6_readCommand_307 (rfl) (by rw [kTS_none hlt (show tCmd ch tn po = (none, (po + 1) - 1) from tCmd_no hlt (by rw [h1_102]; decide) (by rw [h1_102]; decide) (by rw [h1_102]; decide) (by rw [h1_102]; decide) (by rw [h1_102]; decide) (by rw [h1_102]; decide) (by rw [h1_102]; decide))]; exact ⟨rfl, rfl, hI, rfl⟩)
  rcases Decidable.em (ch po = nI 103) with h1_103 | h1_n103
  · refine lv_tableIn (tgt := 296) hx hb dX6_readCommand_29 (by rw [h1_103]; decide) (by rw [h1_103]; decide) (by rw [h1_103]; rfl) (by decide) ?_
    refine lv_aload_n hx hb dX6_readCommand_296 rfl (lv_at hl 4 rfl) ?_
    refine lv_dup hx hb dX6_readCommand_297 rfl ?_
    refine va_get (D := G.1) (ci := 5) (v := .int (nI (po + 1))) (C := RX6) (T := TX6) (N := 11) hx hb hts (fun _ h => List.mem_cons_of_mem _ (List.mem_append_right _ h)) hown hK hP 0 rfl rfl 9 (by decide) w2 (fun _ h9 => h9) rfl dX6_readCommand_298 ?_
    refine lv_iconst (v := nI 1) hx hb dX6_readCommand_301 (by decide) ?_
    refine zk_isubN hx hb dX6_readCommand_302 (by omega) ?_
    refine va_put (D := G.1) (ci := 5) (v := .int (nI ((po + 1) - 1))) (ty := .int) (C := RX6) (T := TX6) (N := 11) hx hb hts (fun _ h => List.mem_cons_of_mem _ (List.mem_append_right _ h)) tyX6 tyX6_ok nmX6 hown hK hP hD hS 0 rfl rfl 9 (by decide) w2 (fun _ h9 => h9) rfl (by decide +kernel) rfl rfl (Nat.le_of_ble_eq_true rfl) dX6_readCommand_303 (fun H locs hP hD hS => ?_)
    have hP : va_P G.1 vwCl ((zb_6 G b rf (nI tn) ac (nI ((po + 1) - 1)) ou) ++ ((zb_a G (b 1) 120 ch) ++ zb_r G (b 3) K)) H := hP
    have hD : va_D A ((zb_6 G b rf (nI tn) ac (nI ((po + 1) - 1)) ou) ++ ((zb_a G (b 1) 120 ch) ++ zb_r G (b 3) K)) := hD
    refine lv_iconst (v := nI 0) hx hb dX6_readCommand_306 (by decide) ?_
    exact zk_retz ((po + 1) - 1, K, ou) hQ hx hb hr hlocks hS hP hD (Nat.le_of_ble_eq_true rfl) (Nat.le_of_ble_eq_true rfl) dX6_readCommand_307 (rfl) (by rw [kTS_none hlt (show tCmd ch tn po = (none, (po + 1) - 1) from tCmd_no hlt (by rw [h1_103]; decide) (by rw [h1_103]; decide) (by rw [h1_103]; decide) (by rw [h1_103]; decide) (by rw [h1_103]; decide) (by rw [h1_103]; decide) (by rw [h1_103]; decide))]; exact ⟨rfl, rfl, hI, rfl⟩)
  rcases Decidable.em (ch po = nI 104) with h1_104 | h1_n104
  · refine lv_tableIn (tgt := 273) hx hb dX6_readCommand_29 (by rw [h1_104]; decide) (by rw [h1_104]; decide) (by rw [h1_104]; rfl) (by decide) ?_
    refine lv_aload_n hx hb dX6_readCommand_273 rfl (lv_at hl 4 rfl) ?_
    refine lv_iconst (v := nI 1) hx hb dX6_readCommand_274 (by decide) ?_
    refine lv_iconst (v := nI 0) hx hb dX6_readCommand_275 (by decide) ?_
    refine lv_iconst (v := nI 4) hx hb dX6_readCommand_276 (by decide) ?_
    have hP0 : va_P G.1 vwCl ((zb_6 G b rf (nI tn) ac (nI (po + 1)) ou ++ zb_a G (b 1) 120 ch) ++ (zb_r G (b 3) K)) H := zk_Pperm hP (show ((zb_6 G b rf (nI tn) ac (nI (po + 1)) ou) ++ ((zb_a G (b 1) 120 ch) ++ zb_r G (b 3) K)).Perm ((zb_6 G b rf (nI tn) ac (nI (po + 1)) ou ++ zb_a G (b 1) 120 ch) ++ (zb_r G (b 3) K)) from (show ((zb_6 G b rf (nI tn) ac (nI (po + 1)) ou) ++ ((zb_a G (b 1) 120 ch) ++ zb_r G (b 3) K)).Perm ((zb_6 G b rf (nI tn) ac (nI (po + 1)) ou) ++ ((zb_a G (b 1) 120 ch) ++ zb_r G (b 3) K)) from ((List.perm_append_comm_assoc _ _ _)).trans (List.perm_append_comm_assoc _ _ _)).trans (List.Perm.of_eq (by simp only [List.append_assoc, List.append_nil, List.nil_append])))
    have hD0 : va_D A ((zb_6 G b rf (nI tn) ac (nI (po + 1)) ou ++ zb_a G (b 1) 120 ch) ++ (zb_r G (b 3) K)) := zk_Dperm hD (show ((zb_6 G b rf (nI tn) ac (nI (po + 1)) ou) ++ ((zb_a G (b 1) 120 ch) ++ zb_r G (b 3) K)).Perm ((zb_6 G b rf (nI tn) ac (nI (po + 1)) ou ++ zb_a G (b 1) 120 ch) ++ (zb_r G (b 3) K)) from (show ((zb_6 G b rf (nI tn) ac (nI (po + 1)) ou) ++ ((zb_a G (b 1) 120 ch) ++ zb_r G (b 3) K)).Perm ((zb_6 G b rf (nI tn) ac (nI (po + 1)) ou) ++ ((zb_a G (b 1) 120 ch) ++ zb_r G (b 3) K)) from ((List.perm_append_comm_assoc _ _ _)).trans (List.perm_append_comm_assoc _ _ _)).trans (List.Perm.of_eq (by simp only [List.append_assoc, List.append_nil, List.nil_append])))
    refine zk_callI (wr := zb_r G (b 3) K) (va_runV (As := [.int (nI 1), .int (nI 0), .int (nI 4)]) (rest := []) ⟨hx, hb, hml, hown, hts⟩ (c_X6_number l G b rf tn ac (po + 1) ou htn ch 1 0 4 (by decide) (by decide) (by decide) (by decide) (by omega) _) (cwV 3 hts gX6_readCommand_X6_number rfl rfl rfl (by decide +kernel) ⟨Nat.le_of_ble_eq_true rfl, Nat.le_of_ble_eq_true rfl⟩) (zk_preV hE hA0 hS (zk_Papp hP0).1 (zk_Dapp hD0).1 (va_recv hK hP0 (ci := 5) (q0 := 0) rfl rfl)) rfl rfl hl.1 rfl (lv_room (Nat.le_of_ble_eq_true rfl)) dX6_readCommand_277 ⟨Nat.le_of_ble_eq_true rfl, Nat.le_of_ble_eq_true rfl⟩) hP0 hD0 hS hA (fun r54 u55 H locs q56 hP hD hS => ?_)
    obtain ⟨er54, eu55⟩ := q56
    subst eu55
    have hmr54 : ∀ v, (tRange ch tn 0 4 1 0 (po + 1)).1 = some v → v ≤ 4 := fun v hv => tRange_in (by decide) hv
    have hP : va_P G.1 vwCl ((zb_6 G b rf (nI tn) ac (nI ((tRange ch tn 0 4 1 0 (po + 1)).2)) ou) ++ ((zb_a G (b 1) 120 ch) ++ zb_r G (b 3) K)) H := zk_Pperm hP (show ((zb_6 G b rf (nI tn) ac (nI ((tRange ch tn 0 4 1 0 (po + 1)).2)) ou) ++ ((zb_a G (b 1) 120 ch) ++ zb_r G (b 3) K)).Perm ((zb_6 G b rf (nI tn) ac (nI ((tRange ch tn 0 4 1 0 (po + 1)).2)) ou ++ zb_a G (b 1) 120 ch) ++ (zb_r G (b 3) K)) from (show ((zb_6 G b rf (nI tn) ac (nI ((tRange ch tn 0 4 1 0 (po + 1)).2)) ou) ++ ((zb_a G (b 1) 120 ch) ++ zb_r G (b 3) K)).Perm ((zb_6 G b rf (nI tn) ac (nI ((tRange ch tn 0 4 1 0 (po + 1)).2)) ou) ++ ((zb_a G (b 1) 120 ch) ++ zb_r G (b 3) K)) from ((List.perm_append_comm_assoc _ _ _)).trans (List.perm_append_comm_assoc _ _ _)).trans (List.Perm.of_eq (by simp only [List.append_assoc, List.append_nil, List.nil_append]))).symm
    have hD : va_D A ((zb_6 G b rf (nI tn) ac (nI ((tRange ch tn 0 4 1 0 (po + 1)).2)) ou) ++ ((zb_a G (b 1) 120 ch) ++ zb_r G (b 3) K)) := zk_Dperm hD (show ((zb_6 G b rf (nI tn) ac (nI ((tRange ch tn 0 4 1 0 (po + 1)).2)) ou) ++ ((zb_a G (b 1) 120 ch) ++ zb_r G (b 3) K)).Perm ((zb_6 G b rf (nI tn) ac (nI ((tRange ch tn 0 4 1 0 (po + 1)).2)) ou ++ zb_a G (b 1) 120 ch) ++ (zb_r G (b 3) K)) from (show ((zb_6 G b rf (nI tn) ac (nI ((tRange ch tn 0 4 1 0 (po + 1)).2)) ou) ++ ((zb_a G (b 1) 120 ch) ++ zb_r G (b 3) K)).Perm ((zb_6 G b rf (nI tn) ac (nI ((tRange ch tn 0 4 1 0 (po + 1)).2)) ou) ++ ((zb_a G (b 1) 120 ch) ++ zb_r G (b 3) K)) from ((List.perm_append_comm_assoc _ _ _)).trans (List.perm_append_comm_assoc _ _ _)).trans (List.Perm.of_eq (by simp only [List.append_assoc, List.append_nil, List.nil_append]))).symm
    refine lv_istore_n (lv' := [(3, .int r54), (5, .int (nI 0)), (4, .int (nI 0)), (2, .int (ch po)), (0, .ref (b 0)), (1, .ref (b 3))]) hx hb dX6_readCommand_280 rfl hl (by decide) rfl (fun ls hl => ?_)
    refine lv_goto (tgt := 308) hx hb dX6_readCommand_281 (by decide) ?_
    refine lv_iload_n hx hb dX6_readCommand_308 rfl (lv_at hl 0 rfl) ?_
    refine lv_iconst (v := -1) hx hb dX6_readCommand_309 (by decide) ?_
    refine lv_icmp_eq (tgt := 325) hx hb dX6_readCommand_310 (by decide) (fun h310_56 => ?_) (fun h310_56 => ?_)
    · refine lv_iconst (v := nI 0) hx hb dX6_readCommand_325 (by decide) ?_
      exact zk_retz ((tRange ch tn 0 4 1 0 (po + 1)).2, K, ou) hQ hx hb hr hlocks hS hP hD (Nat.le_of_ble_eq_true rfl) (Nat.le_of_ble_eq_true rfl) dX6_readCommand_326 (rfl) (by rw [kTS_none hlt (show tCmd ch tn po = (none, (tRange ch tn 0 4 1 0 (po + 1)).2) from (tCmd_104 hlt h1_104).trans (t1_n (sOpt_2 (by decide) hmr54 (er54.symm.trans h310_56))))]; exact ⟨rfl, rfl, hI, rfl⟩)
    · refine lv_iload hx hb dX6_readCommand_313 (lv_at hl 2 rfl) ?_
      refine lv_iconst (v := -1) hx hb dX6_readCommand_315 (by decide) ?_
      refine lv_icmp_eq (tgt := 325) hx hb dX6_readCommand_316 (by decide) (fun z => absurd z (by decide)) (fun _ => ?_)
      refine lv_iload hx hb dX6_readCommand_319 (lv_at hl 1 rfl) ?_
      refine lv_iconst (v := -1) hx hb dX6_readCommand_321 (by decide) ?_
      refine lv_icmp_ne (tgt := 327) hx hb dX6_readCommand_322 (by decide) (fun _ => ?_) (fun z => absurd z (by decide))
      obtain ⟨a0, ha0, hb0, he0⟩ := sOpt_1 (by decide) hmr54 (fun z => h310_56 (er54.trans z))
      have hv0 := er54.trans he0
      have hl : lv_has ls 6 [(3, .int (nI a0)), (5, .int (nI 0)), (4, .int (nI 0)), (2, .int (ch po)), (0, .ref (b 0)), (1, .ref (b 3))] := by rw [hv0] at hl; exact hl
      have hC : tCmd ch tn po = (some [a0], (tRange ch tn 0 4 1 0 (po + 1)).2) := (tCmd_104 hlt h1_104).trans (t1_s ha0)
      refine lv_aload_n hx hb dX6_readCommand_327 rfl (lv_at hl 4 rfl) ?_
      refine lv_dup hx hb dX6_readCommand_328 rfl ?_
      refine va_get (D := G.1) (ci := 5) (v := .int ou) (C := RX6) (T := TX6) (N := 11) hx hb hts (fun _ h => List.mem_cons_of_mem _ (List.mem_append_right _ h)) hown hK hP 0 rfl rfl 10 (by decide) w3 (fun _ h9 => h9) rfl dX6_readCommand_329 ?_
      refine lv_aload_n hx hb dX6_readCommand_332 rfl (lv_at hl 5 rfl) ?_
      refine lv_iload_n hx hb dX6_readCommand_333 rfl (lv_at hl 3 rfl) ?_
      refine lv_iload_n hx hb dX6_readCommand_334 rfl (lv_at hl 0 rfl) ?_
      refine lv_iload hx hb dX6_readCommand_335 (lv_at hl 2 rfl) ?_
      refine lv_iload hx hb dX6_readCommand_337 (lv_at hl 1 rfl) ?_
      have hdk : kDok (ch po) (nI a0) := (by rw [h1_104]; exact kDok_h (by omega))
      have hP0 : va_P G.1 vwCl ((zb_r G (b 3) K) ++ ((zb_6 G b rf (nI tn) ac (nI ((tRange ch tn 0 4 1 0 (po + 1)).2)) ou) ++ zb_a G (b 1) 120 ch)) H := zk_Pperm hP (show ((zb_6 G b rf (nI tn) ac (nI ((tRange ch tn 0 4 1 0 (po + 1)).2)) ou) ++ ((zb_a G (b 1) 120 ch) ++ zb_r G (b 3) K)).Perm ((zb_r G (b 3) K) ++ ((zb_6 G b rf (nI tn) ac (nI ((tRange ch tn 0 4 1 0 (po + 1)).2)) ou) ++ zb_a G (b 1) 120 ch)) from (show ((zb_6 G b rf (nI tn) ac (nI ((tRange ch tn 0 4 1 0 (po + 1)).2)) ou) ++ ((zb_a G (b 1) 120 ch) ++ zb_r G (b 3) K)).Perm ((zb_r G (b 3) K) ++ ((zb_6 G b rf (nI tn) ac (nI ((tRange ch tn 0 4 1 0 (po + 1)).2)) ou) ++ zb_a G (b 1) 120 ch)) from ((List.Perm.append_left _ List.perm_append_comm).trans (List.perm_append_comm_assoc _ _ _))).trans (List.Perm.of_eq (by simp only [List.append_assoc, List.append_nil, List.nil_append])))
      have hD0 : va_D A ((zb_r G (b 3) K) ++ ((zb_6 G b rf (nI tn) ac (nI ((tRange ch tn 0 4 1 0 (po + 1)).2)) ou) ++ zb_a G (b 1) 120 ch)) := zk_Dperm hD (show ((zb_6 G b rf (nI tn) ac (nI ((tRange ch tn 0 4 1 0 (po + 1)).2)) ou) ++ ((zb_a G (b 1) 120 ch) ++ zb_r G (b 3) K)).Perm ((zb_r G (b 3) K) ++ ((zb_6 G b rf (nI tn) ac (nI ((tRange ch tn 0 4 1 0 (po + 1)).2)) ou) ++ zb_a G (b 1) 120 ch)) from (show ((zb_6 G b rf (nI tn) ac (nI ((tRange ch tn 0 4 1 0 (po + 1)).2)) ou) ++ ((zb_a G (b 1) 120 ch) ++ zb_r G (b 3) K)).Perm ((zb_r G (b 3) K) ++ ((zb_6 G b rf (nI tn) ac (nI ((tRange ch tn 0 4 1 0 (po + 1)).2)) ou) ++ zb_a G (b 1) 120 ch)) from ((List.Perm.append_left _ List.perm_append_comm).trans (List.perm_append_comm_assoc _ _ _))).trans (List.Perm.of_eq (by simp only [List.append_assoc, List.append_nil, List.nil_append])))
      refine zk_callI (wr := (zb_6 G b rf (nI tn) ac (nI ((tRange ch tn 0 4 1 0 (po + 1)).2)) ou) ++ zb_a G (b 1) 120 ch) (va_runS (As := [.ref (b 3), .int (ch po), .int (nI a0), .int (nI 0), .int (nI 0)]) (rest := [.int ou, .ref (b 0)]) ⟨hx, hb, hml, hown, hts⟩ (c_X6_does l G (b 3) K (zN K) (zT K) hI (ch po) (nI a0) (nI 0) (nI 0) hdk hp0 _) (cwS 5 hts gX6_readCommand_X6_does rfl rfl rfl (by decide +kernel) ⟨Nat.le_of_ble_eq_true rfl, Nat.le_of_ble_eq_true rfl⟩) (zk_preS hE hA0 hS (zk_Papp hP0).1 (zk_Dapp hD0).1) rfl rfl hl.1 rfl (lv_room (Nat.le_of_ble_eq_true rfl)) dX6_readCommand_339 ⟨Nat.le_of_ble_eq_true rfl, Nat.le_of_ble_eq_true rfl⟩) hP0 hD0 hS hA (fun r58 u59 H locs q60 hP hD hS => ?_)
      obtain ⟨er58, eL61⟩ := q60
      have hP : va_P G.1 vwCl ((zb_6 G b rf (nI tn) ac (nI ((tRange ch tn 0 4 1 0 (po + 1)).2)) ou) ++ ((zb_a G (b 1) 120 ch) ++ zb_r G (b 3) u59)) H := zk_Pperm hP (show ((zb_6 G b rf (nI tn) ac (nI ((tRange ch tn 0 4 1 0 (po + 1)).2)) ou) ++ ((zb_a G (b 1) 120 ch) ++ zb_r G (b 3) u59)).Perm ((zb_r G (b 3) u59) ++ ((zb_6 G b rf (nI tn) ac (nI ((tRange ch tn 0 4 1 0 (po + 1)).2)) ou) ++ zb_a G (b 1) 120 ch)) from (show ((zb_6 G b rf (nI tn) ac (nI ((tRange ch tn 0 4 1 0 (po + 1)).2)) ou) ++ ((zb_a G (b 1) 120 ch) ++ zb_r G (b 3) u59)).Perm ((zb_r G (b 3) u59) ++ ((zb_6 G b rf (nI tn) ac (nI ((tRange ch tn 0 4 1 0 (po + 1)).2)) ou) ++ zb_a G (b 1) 120 ch)) from ((List.Perm.append_left _ List.perm_append_comm).trans (List.perm_append_comm_assoc _ _ _))).trans (List.Perm.of_eq (by simp only [List.append_assoc, List.append_nil, List.nil_append]))).symm
      have hD : va_D A ((zb_6 G b rf (nI tn) ac (nI ((tRange ch tn 0 4 1 0 (po + 1)).2)) ou) ++ ((zb_a G (b 1) 120 ch) ++ zb_r G (b 3) u59)) := zk_Dperm hD (show ((zb_6 G b rf (nI tn) ac (nI ((tRange ch tn 0 4 1 0 (po + 1)).2)) ou) ++ ((zb_a G (b 1) 120 ch) ++ zb_r G (b 3) u59)).Perm ((zb_r G (b 3) u59) ++ ((zb_6 G b rf (nI tn) ac (nI ((tRange ch tn 0 4 1 0 (po + 1)).2)) ou) ++ zb_a G (b 1) 120 ch)) from (show ((zb_6 G b rf (nI tn) ac (nI ((tRange ch tn 0 4 1 0 (po + 1)).2)) ou) ++ ((zb_a G (b 1) 120 ch) ++ zb_r G (b 3) u59)).Perm ((zb_r G (b 3) u59) ++ ((zb_6 G b rf (nI tn) ac (nI ((tRange ch tn 0 4 1 0 (po + 1)).2)) ou) ++ zb_a G (b 1) 120 ch)) from ((List.Perm.append_left _ List.perm_append_comm).trans (List.perm_append_comm_assoc _ _ _))).trans (List.Perm.of_eq (by simp only [List.append_assoc, List.append_nil, List.nil_append]))).symm
      refine lv_if_eq (tgt := 349) hx hb dX6_readCommand_342 (by decide) (fun h342_61 => ?_) (fun h342_61 => ?_)
      · refine lv_iconst (v := nI 1) hx hb dX6_readCommand_349 (by decide) ?_
        refine lv_iadd hx hb dX6_readCommand_350 ?_
        refine lv_topi (fun x63 ex63 => ?_)
        refine va_put (D := G.1) (ci := 5) (v := .int x63) (ty := .int) (C := RX6) (T := TX6) (N := 11) hx hb hts (fun _ h => List.mem_cons_of_mem _ (List.mem_append_right _ h)) tyX6 tyX6_ok nmX6 hown hK hP hD hS 0 rfl rfl 10 (by decide) w3 (fun _ h9 => h9) rfl (by decide +kernel) rfl rfl (Nat.le_of_ble_eq_true rfl) dX6_readCommand_351 (fun H locs hP hD hS => ?_)
        have hP : va_P G.1 vwCl ((zb_6 G b rf (nI tn) ac (nI ((tRange ch tn 0 4 1 0 (po + 1)).2)) x63) ++ ((zb_a G (b 1) 120 ch) ++ zb_r G (b 3) u59)) H := hP
        have hD : va_D A ((zb_6 G b rf (nI tn) ac (nI ((tRange ch tn 0 4 1 0 (po + 1)).2)) x63) ++ ((zb_a G (b 1) 120 ch) ++ zb_r G (b 3) u59)) := hD
        refine lv_iconst (v := nI 1) hx hb dX6_readCommand_354 (by decide) ?_
        exact zk_retz ((tRange ch tn 0 4 1 0 (po + 1)).2, u59, x63) hQ hx hb hr hlocks hS hP hD (Nat.le_of_ble_eq_true rfl) (Nat.le_of_ble_eq_true rfl) dX6_readCommand_355 (rfl) (by rw [kTS_some hlt hC]; exact ⟨rfl, Prod.ext rfl (Prod.ext eL61 (by show x63 = _; rw [ex63]; exact congrArg (ou + ·) (if_pos (er58.symm.trans h342_61)).symm)), by rw [eL61]; exact kDoes_inv hI hdk, by rw [eL61]; exact kDoes_r0⟩)
      · refine lv_iconst (v := nI 0) hx hb dX6_readCommand_345 (by decide) ?_
        refine lv_goto (tgt := 350) hx hb dX6_readCommand_346 (by decide) ?_
        refine lv_iadd hx hb dX6_readCommand_350 ?_
        refine lv_topi (fun x64 ex64 => ?_)
        refine va_put (D := G.1) (ci := 5) (v := .int x64) (ty := .int) (C := RX6) (T := TX6) (N := 11) hx hb hts (fun _ h => List.mem_cons_of_mem _ (List.mem_append_right _ h)) tyX6 tyX6_ok nmX6 hown hK hP hD hS 0 rfl rfl 10 (by decide) w3 (fun _ h9 => h9) rfl (by decide +kernel) rfl rfl (Nat.le_of_ble_eq_true rfl) dX6_readCommand_351 (fun H locs hP hD hS => ?_)
        have hP : va_P G.1 vwCl ((zb_6 G b rf (nI tn) ac (nI ((tRange ch tn 0 4 1 0 (po + 1)).2)) x64) ++ ((zb_a G (b 1) 120 ch) ++ zb_r G (b 3) u59)) H := hP
        have hD : va_D A ((zb_6 G b rf (nI tn) ac (nI ((tRange ch tn 0 4 1 0 (po + 1)).2)) x64) ++ ((zb_a G (b 1) 120 ch) ++ zb_r G (b 3) u59)) := hD
        refine lv_iconst (v := nI 1) hx hb dX6_readCommand_354 (by decide) ?_
        exact zk_retz ((tRange ch tn 0 4 1 0 (po + 1)).2, u59, x64) hQ hx hb hr hlocks hS hP hD (Nat.le_of_ble_eq_true rfl) (Nat.le_of_ble_eq_true rfl) dX6_readCommand_355 (rfl) (by rw [kTS_some hlt hC]; exact ⟨rfl, Prod.ext rfl (Prod.ext eL61 (by show x64 = _; rw [ex64]; exact congrArg (ou + ·) (if_neg (fun z => h342_61 (er58.trans z))).symm)), by rw [eL61]; exact kDoes_inv hI hdk, by rw [eL61]; exact kDoes_r0⟩)
  rcases Decidable.em (ch po = nI 105) with h1_105 | h1_n105
  · refine lv_tableIn (tgt := 296) hx hb dX6_readCommand_29 (by rw [h1_105]; decide) (by rw [h1_105]; decide) (by rw [h1_105]; rfl) (by decide) ?_
    refine lv_aload_n hx hb dX6_readCommand_296 rfl (lv_at hl 4 rfl) ?_
    refine lv_dup hx hb dX6_readCommand_297 rfl ?_
    refine va_get (D := G.1) (ci := 5) (v := .int (nI (po + 1))) (C := RX6) (T := TX6) (N := 11) hx hb hts (fun _ h => List.mem_cons_of_mem _ (List.mem_append_right _ h)) hown hK hP 0 rfl rfl 9 (by decide) w2 (fun _ h9 => h9) rfl dX6_readCommand_298 ?_
    refine lv_iconst (v := nI 1) hx hb dX6_readCommand_301 (by decide) ?_
    refine zk_isubN hx hb dX6_readCommand_302 (by omega) ?_
    refine va_put (D := G.1) (ci := 5) (v := .int (nI ((po + 1) - 1))) (ty := .int) (C := RX6) (T := TX6) (N := 11) hx hb hts (fun _ h => List.mem_cons_of_mem _ (List.mem_append_right _ h)) tyX6 tyX6_ok nmX6 hown hK hP hD hS 0 rfl rfl 9 (by decide) w2 (fun _ h9 => h9) rfl (by decide +kernel) rfl rfl (Nat.le_of_ble_eq_true rfl) dX6_readCommand_303 (fun H locs hP hD hS => ?_)
    have hP : va_P G.1 vwCl ((zb_6 G b rf (nI tn) ac (nI ((po + 1) - 1)) ou) ++ ((zb_a G (b 1) 120 ch) ++ zb_r G (b 3) K)) H := hP
    have hD : va_D A ((zb_6 G b rf (nI tn) ac (nI ((po + 1) - 1)) ou) ++ ((zb_a G (b 1) 120 ch) ++ zb_r G (b 3) K)) := hD
    refine lv_iconst (v := nI 0) hx hb dX6_readCommand_306 (by decide) ?_
    exact zk_retz ((po + 1) - 1, K, ou) hQ hx hb hr hlocks hS hP hD (Nat.le_of_ble_eq_true rfl) (Nat.le_of_ble_eq_true rfl) dX6_readCommand_307 (rfl) (by rw [kTS_none hlt (show tCmd ch tn po = (none, (po + 1) - 1) from tCmd_no hlt (by rw [h1_105]; decide) (by rw [h1_105]; decide) (by rw [h1_105]; decide) (by rw [h1_105]; decide) (by rw [h1_105]; decide) (by rw [h1_105]; decide) (by rw [h1_105]; decide))]; exact ⟨rfl, rfl, hI, rfl⟩)
  rcases Decidable.em (ch po = nI 106) with h1_106 | h1_n106
  · refine lv_tableIn (tgt := 296) hx hb dX6_readCommand_29 (by rw [h1_106]; decide) (by rw [h1_106]; decide) (by rw [h1_106]; rfl) (by decide) ?_
    refine lv_aload_n hx hb dX6_readCommand_296 rfl (lv_at hl 4 rfl) ?_
    refine lv_dup hx hb dX6_readCommand_297 rfl ?_
    refine va_get (D := G.1) (ci := 5) (v := .int (nI (po + 1))) (C := RX6) (T := TX6) (N := 11) hx hb hts (fun _ h => List.mem_cons_of_mem _ (List.mem_append_right _ h)) hown hK hP 0 rfl rfl 9 (by decide) w2 (fun _ h9 => h9) rfl dX6_readCommand_298 ?_
    refine lv_iconst (v := nI 1) hx hb dX6_readCommand_301 (by decide) ?_
    refine zk_isubN hx hb dX6_readCommand_302 (by omega) ?_
    refine va_put (D := G.1) (ci := 5) (v := .int (nI ((po + 1) - 1))) (ty := .int) (C := RX6) (T := TX6) (N := 11) hx hb hts (fun _ h => List.mem_cons_of_mem _ (List.mem_append_right _ h)) tyX6 tyX6_ok nmX6 hown hK hP hD hS 0 rfl rfl 9 (by decide) w2 (fun _ h9 => h9) rfl (by decide +kernel) rfl rfl (Nat.le_of_ble_eq_true rfl) dX6_readCommand_303 (fun H locs hP hD hS => ?_)
    have hP : va_P G.1 vwCl ((zb_6 G b rf (nI tn) ac (nI ((po + 1) - 1)) ou) ++ ((zb_a G (b 1) 120 ch) ++ zb_r G (b 3) K)) H := hP
    have hD : va_D A ((zb_6 G b rf (nI tn) ac (nI ((po + 1) - 1)) ou) ++ ((zb_a G (b 1) 120 ch) ++ zb_r G (b 3) K)) := hD
    refine lv_iconst (v := nI 0) hx hb dX6_readCommand_306 (by decide) ?_
    exact zk_retz ((po + 1) - 1, K, ou) hQ hx hb hr hlocks hS hP hD (Nat.le_of_ble_eq_true rfl) (Nat.le_of_ble_eq_true rfl) dX6_readCommand_307 (rfl) (by rw [kTS_none hlt (show tCmd ch tn po = (none, (po + 1) - 1) from tCmd_no hlt (by rw [h1_106]; decide) (by rw [h1_106]; decide) (by rw [h1_106]; decide) (by rw [h1_106]; decide) (by rw [h1_106]; decide) (by rw [h1_106]; decide) (by rw [h1_106]; decide))]; exact ⟨rfl, rfl, hI, rfl⟩)
  rcases Decidable.em (ch po = nI 107) with h1_107 | h1_n107
  · refine lv_tableIn (tgt := 296) hx hb dX6_readCommand_29 (by rw [h1_107]; decide) (by rw [h1_107]; decide) (by rw [h1_107]; rfl) (by decide) ?_
    refine lv_aload_n hx hb dX6_readCommand_296 rfl (lv_at hl 4 rfl) ?_
    refine lv_dup hx hb dX6_readCommand_297 rfl ?_
    refine va_get (D := G.1) (ci := 5) (v := .int (nI (po + 1))) (C := RX6) (T := TX6) (N := 11) hx hb hts (fun _ h => List.mem_cons_of_mem _ (List.mem_append_right _ h)) hown hK hP 0 rfl rfl 9 (by decide) w2 (fun _ h9 => h9) rfl dX6_readCommand_298 ?_
    refine lv_iconst (v := nI 1) hx hb dX6_readCommand_301 (by decide) ?_
    refine zk_isubN hx hb dX6_readCommand_302 (by omega) ?_
    refine va_put (D := G.1) (ci := 5) (v := .int (nI ((po + 1) - 1))) (ty := .int) (C := RX6) (T := TX6) (N := 11) hx hb hts (fun _ h => List.mem_cons_of_mem _ (List.mem_append_right _ h)) tyX6 tyX6_ok nmX6 hown hK hP hD hS 0 rfl rfl 9 (by decide) w2 (fun _ h9 => h9) rfl (by decide +kernel) rfl rfl (Nat.le_of_ble_eq_true rfl) dX6_readCommand_303 (fun H locs hP hD hS => ?_)
    have hP : va_P G.1 vwCl ((zb_6 G b rf (nI tn) ac (nI ((po + 1) - 1)) ou) ++ ((zb_a G (b 1) 120 ch) ++ zb_r G (b 3) K)) H := hP
    have hD : va_D A ((zb_6 G b rf (nI tn) ac (nI ((po + 1) - 1)) ou) ++ ((zb_a G (b 1) 120 ch) ++ zb_r G (b 3) K)) := hD
    refine lv_iconst (v := nI 0) hx hb dX6_readCommand_306 (by decide) ?_
    exact zk_retz ((po + 1) - 1, K, ou) hQ hx hb hr hlocks hS hP hD (Nat.le_of_ble_eq_true rfl) (Nat.le_of_ble_eq_true rfl) dX6_readCommand_307 (rfl) (by rw [kTS_none hlt (show tCmd ch tn po = (none, (po + 1) - 1) from tCmd_no hlt (by rw [h1_107]; decide) (by rw [h1_107]; decide) (by rw [h1_107]; decide) (by rw [h1_107]; decide) (by rw [h1_107]; decide) (by rw [h1_107]; decide) (by rw [h1_107]; decide))]; exact ⟨rfl, rfl, hI, rfl⟩)
  rcases Decidable.em (ch po = nI 108) with h1_108 | h1_n108
  · refine lv_tableIn (tgt := 296) hx hb dX6_readCommand_29 (by rw [h1_108]; decide) (by rw [h1_108]; decide) (by rw [h1_108]; rfl) (by decide) ?_
    refine lv_aload_n hx hb dX6_readCommand_296 rfl (lv_at hl 4 rfl) ?_
    refine lv_dup hx hb dX6_readCommand_297 rfl ?_
    refine va_get (D := G.1) (ci := 5) (v := .int (nI (po + 1))) (C := RX6) (T := TX6) (N := 11) hx hb hts (fun _ h => List.mem_cons_of_mem _ (List.mem_append_right _ h)) hown hK hP 0 rfl rfl 9 (by decide) w2 (fun _ h9 => h9) rfl dX6_readCommand_298 ?_
    refine lv_iconst (v := nI 1) hx hb dX6_readCommand_301 (by decide) ?_
    refine zk_isubN hx hb dX6_readCommand_302 (by omega) ?_
    refine va_put (D := G.1) (ci := 5) (v := .int (nI ((po + 1) - 1))) (ty := .int) (C := RX6) (T := TX6) (N := 11) hx hb hts (fun _ h => List.mem_cons_of_mem _ (List.mem_append_right _ h)) tyX6 tyX6_ok nmX6 hown hK hP hD hS 0 rfl rfl 9 (by decide) w2 (fun _ h9 => h9) rfl (by decide +kernel) rfl rfl (Nat.le_of_ble_eq_true rfl) dX6_readCommand_303 (fun H locs hP hD hS => ?_)
    have hP : va_P G.1 vwCl ((zb_6 G b rf (nI tn) ac (nI ((po + 1) - 1)) ou) ++ ((zb_a G (b 1) 120 ch) ++ zb_r G (b 3) K)) H := hP
    have hD : va_D A ((zb_6 G b rf (nI tn) ac (nI ((po + 1) - 1)) ou) ++ ((zb_a G (b 1) 120 ch) ++ zb_r G (b 3) K)) := hD
    refine lv_iconst (v := nI 0) hx hb dX6_readCommand_306 (by decide) ?_
    exact zk_retz ((po + 1) - 1, K, ou) hQ hx hb hr hlocks hS hP hD (Nat.le_of_ble_eq_true rfl) (Nat.le_of_ble_eq_true rfl) dX6_readCommand_307 (rfl) (by rw [kTS_none hlt (show tCmd ch tn po = (none, (po + 1) - 1) from tCmd_no hlt (by rw [h1_108]; decide) (by rw [h1_108]; decide) (by rw [h1_108]; decide) (by rw [h1_108]; decide) (by rw [h1_108]; decide) (by rw [h1_108]; decide) (by rw [h1_108]; decide))]; exact ⟨rfl, rfl, hI, rfl⟩)
  rcases Decidable.em (ch po = nI 109) with h1_109 | h1_n109
  · refine lv_tableIn (tgt := 129) hx hb dX6_readCommand_29 (by rw [h1_109]; decide) (by rw [h1_109]; decide) (by rw [h1_109]; rfl) (by decide) ?_
    refine lv_aload_n hx hb dX6_readCommand_129 rfl (lv_at hl 4 rfl) ?_
    refine lv_iconst (v := nI 2) hx hb dX6_readCommand_130 (by decide) ?_
    refine lv_iconst (v := nI 0) hx hb dX6_readCommand_131 (by decide) ?_
    refine lv_bipush (v := nI 39) hx hb dX6_readCommand_132 (by decide) ?_
    have hP0 : va_P G.1 vwCl ((zb_6 G b rf (nI tn) ac (nI (po + 1)) ou ++ zb_a G (b 1) 120 ch) ++ (zb_r G (b 3) K)) H := zk_Pperm hP (show ((zb_6 G b rf (nI tn) ac (nI (po + 1)) ou) ++ ((zb_a G (b 1) 120 ch) ++ zb_r G (b 3) K)).Perm ((zb_6 G b rf (nI tn) ac (nI (po + 1)) ou ++ zb_a G (b 1) 120 ch) ++ (zb_r G (b 3) K)) from (show ((zb_6 G b rf (nI tn) ac (nI (po + 1)) ou) ++ ((zb_a G (b 1) 120 ch) ++ zb_r G (b 3) K)).Perm ((zb_6 G b rf (nI tn) ac (nI (po + 1)) ou) ++ ((zb_a G (b 1) 120 ch) ++ zb_r G (b 3) K)) from ((List.perm_append_comm_assoc _ _ _)).trans (List.perm_append_comm_assoc _ _ _)).trans (List.Perm.of_eq (by simp only [List.append_assoc, List.append_nil, List.nil_append])))
    have hD0 : va_D A ((zb_6 G b rf (nI tn) ac (nI (po + 1)) ou ++ zb_a G (b 1) 120 ch) ++ (zb_r G (b 3) K)) := zk_Dperm hD (show ((zb_6 G b rf (nI tn) ac (nI (po + 1)) ou) ++ ((zb_a G (b 1) 120 ch) ++ zb_r G (b 3) K)).Perm ((zb_6 G b rf (nI tn) ac (nI (po + 1)) ou ++ zb_a G (b 1) 120 ch) ++ (zb_r G (b 3) K)) from (show ((zb_6 G b rf (nI tn) ac (nI (po + 1)) ou) ++ ((zb_a G (b 1) 120 ch) ++ zb_r G (b 3) K)).Perm ((zb_6 G b rf (nI tn) ac (nI (po + 1)) ou) ++ ((zb_a G (b 1) 120 ch) ++ zb_r G (b 3) K)) from ((List.perm_append_comm_assoc _ _ _)).trans (List.perm_append_comm_assoc _ _ _)).trans (List.Perm.of_eq (by simp only [List.append_assoc, List.append_nil, List.nil_append])))
    refine zk_callI (wr := zb_r G (b 3) K) (va_runV (As := [.int (nI 2), .int (nI 0), .int (nI 39)]) (rest := []) ⟨hx, hb, hml, hown, hts⟩ (c_X6_number l G b rf tn ac (po + 1) ou htn ch 2 0 39 (by decide) (by decide) (by decide) (by decide) (by omega) _) (cwV 3 hts gX6_readCommand_X6_number rfl rfl rfl (by decide +kernel) ⟨Nat.le_of_ble_eq_true rfl, Nat.le_of_ble_eq_true rfl⟩) (zk_preV hE hA0 hS (zk_Papp hP0).1 (zk_Dapp hD0).1 (va_recv hK hP0 (ci := 5) (q0 := 0) rfl rfl)) rfl rfl hl.1 rfl (lv_room (Nat.le_of_ble_eq_true rfl)) dX6_readCommand_134 ⟨Nat.le_of_ble_eq_true rfl, Nat.le_of_ble_eq_true rfl⟩) hP0 hD0 hS hA (fun r65 u66 H locs q67 hP hD hS => ?_)
    obtain ⟨er65, eu66⟩ := q67
    subst eu66
    have hmr65 : ∀ v, (tRange ch tn 0 39 2 0 (po + 1)).1 = some v → v ≤ 39 := fun v hv => tRange_in (by decide) hv
    have hP : va_P G.1 vwCl ((zb_6 G b rf (nI tn) ac (nI ((tRange ch tn 0 39 2 0 (po + 1)).2)) ou) ++ ((zb_a G (b 1) 120 ch) ++ zb_r G (b 3) K)) H := zk_Pperm hP (show ((zb_6 G b rf (nI tn) ac (nI ((tRange ch tn 0 39 2 0 (po + 1)).2)) ou) ++ ((zb_a G (b 1) 120 ch) ++ zb_r G (b 3) K)).Perm ((zb_6 G b rf (nI tn) ac (nI ((tRange ch tn 0 39 2 0 (po + 1)).2)) ou ++ zb_a G (b 1) 120 ch) ++ (zb_r G (b 3) K)) from (show ((zb_6 G b rf (nI tn) ac (nI ((tRange ch tn 0 39 2 0 (po + 1)).2)) ou) ++ ((zb_a G (b 1) 120 ch) ++ zb_r G (b 3) K)).Perm ((zb_6 G b rf (nI tn) ac (nI ((tRange ch tn 0 39 2 0 (po + 1)).2)) ou) ++ ((zb_a G (b 1) 120 ch) ++ zb_r G (b 3) K)) from ((List.perm_append_comm_assoc _ _ _)).trans (List.perm_append_comm_assoc _ _ _)).trans (List.Perm.of_eq (by simp only [List.append_assoc, List.append_nil, List.nil_append]))).symm
    have hD : va_D A ((zb_6 G b rf (nI tn) ac (nI ((tRange ch tn 0 39 2 0 (po + 1)).2)) ou) ++ ((zb_a G (b 1) 120 ch) ++ zb_r G (b 3) K)) := zk_Dperm hD (show ((zb_6 G b rf (nI tn) ac (nI ((tRange ch tn 0 39 2 0 (po + 1)).2)) ou) ++ ((zb_a G (b 1) 120 ch) ++ zb_r G (b 3) K)).Perm ((zb_6 G b rf (nI tn) ac (nI ((tRange ch tn 0 39 2 0 (po + 1)).2)) ou ++ zb_a G (b 1) 120 ch) ++ (zb_r G (b 3) K)) from (show ((zb_6 G b rf (nI tn) ac (nI ((tRange ch tn 0 39 2 0 (po + 1)).2)) ou) ++ ((zb_a G (b 1) 120 ch) ++ zb_r G (b 3) K)).Perm ((zb_6 G b rf (nI tn) ac (nI ((tRange ch tn 0 39 2 0 (po + 1)).2)) ou) ++ ((zb_a G (b 1) 120 ch) ++ zb_r G (b 3) K)) from ((List.perm_append_comm_assoc _ _ _)).trans (List.perm_append_comm_assoc _ _ _)).trans (List.Perm.of_eq (by simp only [List.append_assoc, List.append_nil, List.nil_append]))).symm
    refine lv_istore_n (lv' := [(3, .int r65), (5, .int (nI 0)), (4, .int (nI 0)), (2, .int (ch po)), (0, .ref (b 0)), (1, .ref (b 3))]) hx hb dX6_readCommand_137 rfl hl (by decide) rfl (fun ls hl => ?_)
    refine lv_iload_n hx hb dX6_readCommand_138 rfl (lv_at hl 0 rfl) ?_
    refine lv_iconst (v := -1) hx hb dX6_readCommand_139 (by decide) ?_
    refine lv_icmp_ne (tgt := 147) hx hb dX6_readCommand_140 (by decide) (fun h140_67 => ?_) (fun h140_67 => ?_)
    · obtain ⟨a0, ha0, hb0, he0⟩ := sOpt_1 (by decide) hmr65 (fun z => h140_67 (er65.trans z))
      have hv0 := er65.trans he0
      have hl : lv_has ls 6 [(3, .int (nI a0)), (5, .int (nI 0)), (4, .int (nI 0)), (2, .int (ch po)), (0, .ref (b 0)), (1, .ref (b 3))] := by rw [hv0] at hl; exact hl
      refine lv_aload_n hx hb dX6_readCommand_147 rfl (lv_at hl 4 rfl) ?_
      refine lv_iconst (v := nI 1) hx hb dX6_readCommand_148 (by decide) ?_
      refine lv_iconst (v := nI 0) hx hb dX6_readCommand_149 (by decide) ?_
      refine lv_iconst (v := nI 3) hx hb dX6_readCommand_150 (by decide) ?_
      have hP0 : va_P G.1 vwCl ((zb_6 G b rf (nI tn) ac (nI ((tRange ch tn 0 39 2 0 (po + 1)).2)) ou ++ zb_a G (b 1) 120 ch) ++ (zb_r G (b 3) K)) H := zk_Pperm hP (show ((zb_6 G b rf (nI tn) ac (nI ((tRange ch tn 0 39 2 0 (po + 1)).2)) ou) ++ ((zb_a G (b 1) 120 ch) ++ zb_r G (b 3) K)).Perm ((zb_6 G b rf (nI tn) ac (nI ((tRange ch tn 0 39 2 0 (po + 1)).2)) ou ++ zb_a G (b 1) 120 ch) ++ (zb_r G (b 3) K)) from (show ((zb_6 G b rf (nI tn) ac (nI ((tRange ch tn 0 39 2 0 (po + 1)).2)) ou) ++ ((zb_a G (b 1) 120 ch) ++ zb_r G (b 3) K)).Perm ((zb_6 G b rf (nI tn) ac (nI ((tRange ch tn 0 39 2 0 (po + 1)).2)) ou) ++ ((zb_a G (b 1) 120 ch) ++ zb_r G (b 3) K)) from ((List.perm_append_comm_assoc _ _ _)).trans (List.perm_append_comm_assoc _ _ _)).trans (List.Perm.of_eq (by simp only [List.append_assoc, List.append_nil, List.nil_append])))
      have hD0 : va_D A ((zb_6 G b rf (nI tn) ac (nI ((tRange ch tn 0 39 2 0 (po + 1)).2)) ou ++ zb_a G (b 1) 120 ch) ++ (zb_r G (b 3) K)) := zk_Dperm hD (show ((zb_6 G b rf (nI tn) ac (nI ((tRange ch tn 0 39 2 0 (po + 1)).2)) ou) ++ ((zb_a G (b 1) 120 ch) ++ zb_r G (b 3) K)).Perm ((zb_6 G b rf (nI tn) ac (nI ((tRange ch tn 0 39 2 0 (po + 1)).2)) ou ++ zb_a G (b 1) 120 ch) ++ (zb_r G (b 3) K)) from (show ((zb_6 G b rf (nI tn) ac (nI ((tRange ch tn 0 39 2 0 (po + 1)).2)) ou) ++ ((zb_a G (b 1) 120 ch) ++ zb_r G (b 3) K)).Perm ((zb_6 G b rf (nI tn) ac (nI ((tRange ch tn 0 39 2 0 (po + 1)).2)) ou) ++ ((zb_a G (b 1) 120 ch) ++ zb_r G (b 3) K)) from ((List.perm_append_comm_assoc _ _ _)).trans (List.perm_append_comm_assoc _ _ _)).trans (List.Perm.of_eq (by simp only [List.append_assoc, List.append_nil, List.nil_append])))
      refine zk_callI (wr := zb_r G (b 3) K) (va_runV (As := [.int (nI 1), .int (nI 0), .int (nI 3)]) (rest := []) ⟨hx, hb, hml, hown, hts⟩ (c_X6_number l G b rf tn ac ((tRange ch tn 0 39 2 0 (po + 1)).2) ou htn ch 1 0 3 (by decide) (by decide) (by decide) (by decide) (tRange_le htn (by omega)) _) (cwV 3 hts gX6_readCommand_X6_number rfl rfl rfl (by decide +kernel) ⟨Nat.le_of_ble_eq_true rfl, Nat.le_of_ble_eq_true rfl⟩) (zk_preV hE hA0 hS (zk_Papp hP0).1 (zk_Dapp hD0).1 (va_recv hK hP0 (ci := 5) (q0 := 0) rfl rfl)) rfl rfl hl.1 rfl (lv_room (Nat.le_of_ble_eq_true rfl)) dX6_readCommand_151 ⟨Nat.le_of_ble_eq_true rfl, Nat.le_of_ble_eq_true rfl⟩) hP0 hD0 hS hA (fun r69 u70 H locs q71 hP hD hS => ?_)
      obtain ⟨er69, eu70⟩ := q71
      subst eu70
      have hmr69 : ∀ v, (tRange ch tn 0 3 1 0 ((tRange ch tn 0 39 2 0 (po + 1)).2)).1 = some v → v ≤ 3 := fun v hv => tRange_in (by decide) hv
      have hP : va_P G.1 vwCl ((zb_6 G b rf (nI tn) ac (nI ((tRange ch tn 0 3 1 0 ((tRange ch tn 0 39 2 0 (po + 1)).2)).2)) ou) ++ ((zb_a G (b 1) 120 ch) ++ zb_r G (b 3) K)) H := zk_Pperm hP (show ((zb_6 G b rf (nI tn) ac (nI ((tRange ch tn 0 3 1 0 ((tRange ch tn 0 39 2 0 (po + 1)).2)).2)) ou) ++ ((zb_a G (b 1) 120 ch) ++ zb_r G (b 3) K)).Perm ((zb_6 G b rf (nI tn) ac (nI ((tRange ch tn 0 3 1 0 ((tRange ch tn 0 39 2 0 (po + 1)).2)).2)) ou ++ zb_a G (b 1) 120 ch) ++ (zb_r G (b 3) K)) from (show ((zb_6 G b rf (nI tn) ac (nI ((tRange ch tn 0 3 1 0 ((tRange ch tn 0 39 2 0 (po + 1)).2)).2)) ou) ++ ((zb_a G (b 1) 120 ch) ++ zb_r G (b 3) K)).Perm ((zb_6 G b rf (nI tn) ac (nI ((tRange ch tn 0 3 1 0 ((tRange ch tn 0 39 2 0 (po + 1)).2)).2)) ou) ++ ((zb_a G (b 1) 120 ch) ++ zb_r G (b 3) K)) from ((List.perm_append_comm_assoc _ _ _)).trans (List.perm_append_comm_assoc _ _ _)).trans (List.Perm.of_eq (by simp only [List.append_assoc, List.append_nil, List.nil_append]))).symm
      have hD : va_D A ((zb_6 G b rf (nI tn) ac (nI ((tRange ch tn 0 3 1 0 ((tRange ch tn 0 39 2 0 (po + 1)).2)).2)) ou) ++ ((zb_a G (b 1) 120 ch) ++ zb_r G (b 3) K)) := zk_Dperm hD (show ((zb_6 G b rf (nI tn) ac (nI ((tRange ch tn 0 3 1 0 ((tRange ch tn 0 39 2 0 (po + 1)).2)).2)) ou) ++ ((zb_a G (b 1) 120 ch) ++ zb_r G (b 3) K)).Perm ((zb_6 G b rf (nI tn) ac (nI ((tRange ch tn 0 3 1 0 ((tRange ch tn 0 39 2 0 (po + 1)).2)).2)) ou ++ zb_a G (b 1) 120 ch) ++ (zb_r G (b 3) K)) from (show ((zb_6 G b rf (nI tn) ac (nI ((tRange ch tn 0 3 1 0 ((tRange ch tn 0 39 2 0 (po + 1)).2)).2)) ou) ++ ((zb_a G (b 1) 120 ch) ++ zb_r G (b 3) K)).Perm ((zb_6 G b rf (nI tn) ac (nI ((tRange ch tn 0 3 1 0 ((tRange ch tn 0 39 2 0 (po + 1)).2)).2)) ou) ++ ((zb_a G (b 1) 120 ch) ++ zb_r G (b 3) K)) from ((List.perm_append_comm_assoc _ _ _)).trans (List.perm_append_comm_assoc _ _ _)).trans (List.Perm.of_eq (by simp only [List.append_assoc, List.append_nil, List.nil_append]))).symm
      refine lv_istore (lv' := [(4, .int r69), (3, .int (nI a0)), (5, .int (nI 0)), (2, .int (ch po)), (0, .ref (b 0)), (1, .ref (b 3))]) hx hb dX6_readCommand_154 hl (by decide) rfl (fun ls hl => ?_)
      refine lv_goto (tgt := 308) hx hb dX6_readCommand_156 (by decide) ?_
      refine lv_iload_n hx hb dX6_readCommand_308 rfl (lv_at hl 1 rfl) ?_
      refine lv_iconst (v := -1) hx hb dX6_readCommand_309 (by decide) ?_
      refine lv_icmp_eq (tgt := 325) hx hb dX6_readCommand_310 (by decide) (fun h310_71 => ?_) (fun h310_71 => ?_)
      · exact absurd h310_71 (zk_m1n (by omega))
      · refine lv_iload hx hb dX6_readCommand_313 (lv_at hl 0 rfl) ?_
        refine lv_iconst (v := -1) hx hb dX6_readCommand_315 (by decide) ?_
        refine lv_icmp_eq (tgt := 325) hx hb dX6_readCommand_316 (by decide) (fun h316_72 => ?_) (fun h316_72 => ?_)
        · refine lv_iconst (v := nI 0) hx hb dX6_readCommand_325 (by decide) ?_
          exact zk_retz ((tRange ch tn 0 3 1 0 ((tRange ch tn 0 39 2 0 (po + 1)).2)).2, K, ou) hQ hx hb hr hlocks hS hP hD (Nat.le_of_ble_eq_true rfl) (Nat.le_of_ble_eq_true rfl) dX6_readCommand_326 (rfl) (by rw [kTS_none hlt (show tCmd ch tn po = (none, (tRange ch tn 0 3 1 0 ((tRange ch tn 0 39 2 0 (po + 1)).2)).2) from (tCmd_109 hlt h1_109).trans (t2_sn ha0 (sOpt_2 (by decide) hmr69 (er69.symm.trans h316_72))))]; exact ⟨rfl, rfl, hI, rfl⟩)
        · refine lv_iload hx hb dX6_readCommand_319 (lv_at hl 2 rfl) ?_
          refine lv_iconst (v := -1) hx hb dX6_readCommand_321 (by decide) ?_
          refine lv_icmp_ne (tgt := 327) hx hb dX6_readCommand_322 (by decide) (fun _ => ?_) (fun z => absurd z (by decide))
          obtain ⟨a1, ha1, hb1, he1⟩ := sOpt_1 (by decide) hmr69 (fun z => h316_72 (er69.trans z))
          have hv1 := er69.trans he1
          have hl : lv_has ls 6 [(4, .int (nI a1)), (3, .int (nI a0)), (5, .int (nI 0)), (2, .int (ch po)), (0, .ref (b 0)), (1, .ref (b 3))] := by rw [hv1] at hl; exact hl
          have hC : tCmd ch tn po = (some [a0, a1], (tRange ch tn 0 3 1 0 ((tRange ch tn 0 39 2 0 (po + 1)).2)).2) := (tCmd_109 hlt h1_109).trans (t2_ss ha0 ha1)
          refine lv_aload_n hx hb dX6_readCommand_327 rfl (lv_at hl 4 rfl) ?_
          refine lv_dup hx hb dX6_readCommand_328 rfl ?_
          refine va_get (D := G.1) (ci := 5) (v := .int ou) (C := RX6) (T := TX6) (N := 11) hx hb hts (fun _ h => List.mem_cons_of_mem _ (List.mem_append_right _ h)) hown hK hP 0 rfl rfl 10 (by decide) w3 (fun _ h9 => h9) rfl dX6_readCommand_329 ?_
          refine lv_aload_n hx hb dX6_readCommand_332 rfl (lv_at hl 5 rfl) ?_
          refine lv_iload_n hx hb dX6_readCommand_333 rfl (lv_at hl 3 rfl) ?_
          refine lv_iload_n hx hb dX6_readCommand_334 rfl (lv_at hl 1 rfl) ?_
          refine lv_iload hx hb dX6_readCommand_335 (lv_at hl 0 rfl) ?_
          refine lv_iload hx hb dX6_readCommand_337 (lv_at hl 2 rfl) ?_
          have hdk : kDok (ch po) (nI a0) := (by rw [h1_109]; exact kDok_m (by omega))
          have hP0 : va_P G.1 vwCl ((zb_r G (b 3) K) ++ ((zb_6 G b rf (nI tn) ac (nI ((tRange ch tn 0 3 1 0 ((tRange ch tn 0 39 2 0 (po + 1)).2)).2)) ou) ++ zb_a G (b 1) 120 ch)) H := zk_Pperm hP (show ((zb_6 G b rf (nI tn) ac (nI ((tRange ch tn 0 3 1 0 ((tRange ch tn 0 39 2 0 (po + 1)).2)).2)) ou) ++ ((zb_a G (b 1) 120 ch) ++ zb_r G (b 3) K)).Perm ((zb_r G (b 3) K) ++ ((zb_6 G b rf (nI tn) ac (nI ((tRange ch tn 0 3 1 0 ((tRange ch tn 0 39 2 0 (po + 1)).2)).2)) ou) ++ zb_a G (b 1) 120 ch)) from (show ((zb_6 G b rf (nI tn) ac (nI ((tRange ch tn 0 3 1 0 ((tRange ch tn 0 39 2 0 (po + 1)).2)).2)) ou) ++ ((zb_a G (b 1) 120 ch) ++ zb_r G (b 3) K)).Perm ((zb_r G (b 3) K) ++ ((zb_6 G b rf (nI tn) ac (nI ((tRange ch tn 0 3 1 0 ((tRange ch tn 0 39 2 0 (po + 1)).2)).2)) ou) ++ zb_a G (b 1) 120 ch)) from ((List.Perm.append_left _ List.perm_append_comm).trans (List.perm_append_comm_assoc _ _ _))).trans (List.Perm.of_eq (by simp only [List.append_assoc, List.append_nil, List.nil_append])))
          have hD0 : va_D A ((zb_r G (b 3) K) ++ ((zb_6 G b rf (nI tn) ac (nI ((tRange ch tn 0 3 1 0 ((tRange ch tn 0 39 2 0 (po + 1)).2)).2)) ou) ++ zb_a G (b 1) 120 ch)) := zk_Dperm hD (show ((zb_6 G b rf (nI tn) ac (nI ((tRange ch tn 0 3 1 0 ((tRange ch tn 0 39 2 0 (po + 1)).2)).2)) ou) ++ ((zb_a G (b 1) 120 ch) ++ zb_r G (b 3) K)).Perm ((zb_r G (b 3) K) ++ ((zb_6 G b rf (nI tn) ac (nI ((tRange ch tn 0 3 1 0 ((tRange ch tn 0 39 2 0 (po + 1)).2)).2)) ou) ++ zb_a G (b 1) 120 ch)) from (show ((zb_6 G b rf (nI tn) ac (nI ((tRange ch tn 0 3 1 0 ((tRange ch tn 0 39 2 0 (po + 1)).2)).2)) ou) ++ ((zb_a G (b 1) 120 ch) ++ zb_r G (b 3) K)).Perm ((zb_r G (b 3) K) ++ ((zb_6 G b rf (nI tn) ac (nI ((tRange ch tn 0 3 1 0 ((tRange ch tn 0 39 2 0 (po + 1)).2)).2)) ou) ++ zb_a G (b 1) 120 ch)) from ((List.Perm.append_left _ List.perm_append_comm).trans (List.perm_append_comm_assoc _ _ _))).trans (List.Perm.of_eq (by simp only [List.append_assoc, List.append_nil, List.nil_append])))
          refine zk_callI (wr := (zb_6 G b rf (nI tn) ac (nI ((tRange ch tn 0 3 1 0 ((tRange ch tn 0 39 2 0 (po + 1)).2)).2)) ou) ++ zb_a G (b 1) 120 ch) (va_runS (As := [.ref (b 3), .int (ch po), .int (nI a0), .int (nI a1), .int (nI 0)]) (rest := [.int ou, .ref (b 0)]) ⟨hx, hb, hml, hown, hts⟩ (c_X6_does l G (b 3) K (zN K) (zT K) hI (ch po) (nI a0) (nI a1) (nI 0) hdk hp0 _) (cwS 5 hts gX6_readCommand_X6_does rfl rfl rfl (by decide +kernel) ⟨Nat.le_of_ble_eq_true rfl, Nat.le_of_ble_eq_true rfl⟩) (zk_preS hE hA0 hS (zk_Papp hP0).1 (zk_Dapp hD0).1) rfl rfl hl.1 rfl (lv_room (Nat.le_of_ble_eq_true rfl)) dX6_readCommand_339 ⟨Nat.le_of_ble_eq_true rfl, Nat.le_of_ble_eq_true rfl⟩) hP0 hD0 hS hA (fun r74 u75 H locs q76 hP hD hS => ?_)
          obtain ⟨er74, eL77⟩ := q76
          have hP : va_P G.1 vwCl ((zb_6 G b rf (nI tn) ac (nI ((tRange ch tn 0 3 1 0 ((tRange ch tn 0 39 2 0 (po + 1)).2)).2)) ou) ++ ((zb_a G (b 1) 120 ch) ++ zb_r G (b 3) u75)) H := zk_Pperm hP (show ((zb_6 G b rf (nI tn) ac (nI ((tRange ch tn 0 3 1 0 ((tRange ch tn 0 39 2 0 (po + 1)).2)).2)) ou) ++ ((zb_a G (b 1) 120 ch) ++ zb_r G (b 3) u75)).Perm ((zb_r G (b 3) u75) ++ ((zb_6 G b rf (nI tn) ac (nI ((tRange ch tn 0 3 1 0 ((tRange ch tn 0 39 2 0 (po + 1)).2)).2)) ou) ++ zb_a G (b 1) 120 ch)) from (show ((zb_6 G b rf (nI tn) ac (nI ((tRange ch tn 0 3 1 0 ((tRange ch tn 0 39 2 0 (po + 1)).2)).2)) ou) ++ ((zb_a G (b 1) 120 ch) ++ zb_r G (b 3) u75)).Perm ((zb_r G (b 3) u75) ++ ((zb_6 G b rf (nI tn) ac (nI ((tRange ch tn 0 3 1 0 ((tRange ch tn 0 39 2 0 (po + 1)).2)).2)) ou) ++ zb_a G (b 1) 120 ch)) from ((List.Perm.append_left _ List.perm_append_comm).trans (List.perm_append_comm_assoc _ _ _))).trans (List.Perm.of_eq (by simp only [List.append_assoc, List.append_nil, List.nil_append]))).symm
          have hD : va_D A ((zb_6 G b rf (nI tn) ac (nI ((tRange ch tn 0 3 1 0 ((tRange ch tn 0 39 2 0 (po + 1)).2)).2)) ou) ++ ((zb_a G (b 1) 120 ch) ++ zb_r G (b 3) u75)) := zk_Dperm hD (show ((zb_6 G b rf (nI tn) ac (nI ((tRange ch tn 0 3 1 0 ((tRange ch tn 0 39 2 0 (po + 1)).2)).2)) ou) ++ ((zb_a G (b 1) 120 ch) ++ zb_r G (b 3) u75)).Perm ((zb_r G (b 3) u75) ++ ((zb_6 G b rf (nI tn) ac (nI ((tRange ch tn 0 3 1 0 ((tRange ch tn 0 39 2 0 (po + 1)).2)).2)) ou) ++ zb_a G (b 1) 120 ch)) from (show ((zb_6 G b rf (nI tn) ac (nI ((tRange ch tn 0 3 1 0 ((tRange ch tn 0 39 2 0 (po + 1)).2)).2)) ou) ++ ((zb_a G (b 1) 120 ch) ++ zb_r G (b 3) u75)).Perm ((zb_r G (b 3) u75) ++ ((zb_6 G b rf (nI tn) ac (nI ((tRange ch tn 0 3 1 0 ((tRange ch tn 0 39 2 0 (po + 1)).2)).2)) ou) ++ zb_a G (b 1) 120 ch)) from ((List.Perm.append_left _ List.perm_append_comm).trans (List.perm_append_comm_assoc _ _ _))).trans (List.Perm.of_eq (by simp only [List.append_assoc, List.append_nil, List.nil_append]))).symm
          refine lv_if_eq (tgt := 349) hx hb dX6_readCommand_342 (by decide) (fun h342_77 => ?_) (fun h342_77 => ?_)
          · refine lv_iconst (v := nI 1) hx hb dX6_readCommand_349 (by decide) ?_
            refine lv_iadd hx hb dX6_readCommand_350 ?_
            refine lv_topi (fun x79 ex79 => ?_)
            refine va_put (D := G.1) (ci := 5) (v := .int x79) (ty := .int) (C := RX6) (T := TX6) (N := 11) hx hb hts (fun _ h => List.mem_cons_of_mem _ (List.mem_append_right _ h)) tyX6 tyX6_ok nmX6 hown hK hP hD hS 0 rfl rfl 10 (by decide) w3 (fun _ h9 => h9) rfl (by decide +kernel) rfl rfl (Nat.le_of_ble_eq_true rfl) dX6_readCommand_351 (fun H locs hP hD hS => ?_)
            have hP : va_P G.1 vwCl ((zb_6 G b rf (nI tn) ac (nI ((tRange ch tn 0 3 1 0 ((tRange ch tn 0 39 2 0 (po + 1)).2)).2)) x79) ++ ((zb_a G (b 1) 120 ch) ++ zb_r G (b 3) u75)) H := hP
            have hD : va_D A ((zb_6 G b rf (nI tn) ac (nI ((tRange ch tn 0 3 1 0 ((tRange ch tn 0 39 2 0 (po + 1)).2)).2)) x79) ++ ((zb_a G (b 1) 120 ch) ++ zb_r G (b 3) u75)) := hD
            refine lv_iconst (v := nI 1) hx hb dX6_readCommand_354 (by decide) ?_
            exact zk_retz ((tRange ch tn 0 3 1 0 ((tRange ch tn 0 39 2 0 (po + 1)).2)).2, u75, x79) hQ hx hb hr hlocks hS hP hD (Nat.le_of_ble_eq_true rfl) (Nat.le_of_ble_eq_true rfl) dX6_readCommand_355 (rfl) (by rw [kTS_some hlt hC]; exact ⟨rfl, Prod.ext rfl (Prod.ext eL77 (by show x79 = _; rw [ex79]; exact congrArg (ou + ·) (if_pos (er74.symm.trans h342_77)).symm)), by rw [eL77]; exact kDoes_inv hI hdk, by rw [eL77]; exact kDoes_r0⟩)
          · refine lv_iconst (v := nI 0) hx hb dX6_readCommand_345 (by decide) ?_
            refine lv_goto (tgt := 350) hx hb dX6_readCommand_346 (by decide) ?_
            refine lv_iadd hx hb dX6_readCommand_350 ?_
            refine lv_topi (fun x80 ex80 => ?_)
            refine va_put (D := G.1) (ci := 5) (v := .int x80) (ty := .int) (C := RX6) (T := TX6) (N := 11) hx hb hts (fun _ h => List.mem_cons_of_mem _ (List.mem_append_right _ h)) tyX6 tyX6_ok nmX6 hown hK hP hD hS 0 rfl rfl 10 (by decide) w3 (fun _ h9 => h9) rfl (by decide +kernel) rfl rfl (Nat.le_of_ble_eq_true rfl) dX6_readCommand_351 (fun H locs hP hD hS => ?_)
            have hP : va_P G.1 vwCl ((zb_6 G b rf (nI tn) ac (nI ((tRange ch tn 0 3 1 0 ((tRange ch tn 0 39 2 0 (po + 1)).2)).2)) x80) ++ ((zb_a G (b 1) 120 ch) ++ zb_r G (b 3) u75)) H := hP
            have hD : va_D A ((zb_6 G b rf (nI tn) ac (nI ((tRange ch tn 0 3 1 0 ((tRange ch tn 0 39 2 0 (po + 1)).2)).2)) x80) ++ ((zb_a G (b 1) 120 ch) ++ zb_r G (b 3) u75)) := hD
            refine lv_iconst (v := nI 1) hx hb dX6_readCommand_354 (by decide) ?_
            exact zk_retz ((tRange ch tn 0 3 1 0 ((tRange ch tn 0 39 2 0 (po + 1)).2)).2, u75, x80) hQ hx hb hr hlocks hS hP hD (Nat.le_of_ble_eq_true rfl) (Nat.le_of_ble_eq_true rfl) dX6_readCommand_355 (rfl) (by rw [kTS_some hlt hC]; exact ⟨rfl, Prod.ext rfl (Prod.ext eL77 (by show x80 = _; rw [ex80]; exact congrArg (ou + ·) (if_neg (fun z => h342_77 (er74.trans z))).symm)), by rw [eL77]; exact kDoes_inv hI hdk, by rw [eL77]; exact kDoes_r0⟩)
    · refine lv_iconst (v := -1) hx hb dX6_readCommand_143 (by decide) ?_
      refine lv_goto (tgt := 154) hx hb dX6_readCommand_144 (by decide) ?_
      refine lv_istore (lv' := [(4, .int (-1)), (3, .int r65), (5, .int (nI 0)), (2, .int (ch po)), (0, .ref (b 0)), (1, .ref (b 3))]) hx hb dX6_readCommand_154 hl (by decide) rfl (fun ls hl => ?_)
      refine lv_goto (tgt := 308) hx hb dX6_readCommand_156 (by decide) ?_
      refine lv_iload_n hx hb dX6_readCommand_308 rfl (lv_at hl 1 rfl) ?_
      refine lv_iconst (v := -1) hx hb dX6_readCommand_309 (by decide) ?_
      refine lv_icmp_eq (tgt := 325) hx hb dX6_readCommand_310 (by decide) (fun h310_80 => ?_) (fun h310_80 => ?_)
      · refine lv_iconst (v := nI 0) hx hb dX6_readCommand_325 (by decide) ?_
        exact zk_retz ((tRange ch tn 0 39 2 0 (po + 1)).2, K, ou) hQ hx hb hr hlocks hS hP hD (Nat.le_of_ble_eq_true rfl) (Nat.le_of_ble_eq_true rfl) dX6_readCommand_326 (rfl) (by rw [kTS_none hlt (show tCmd ch tn po = (none, (tRange ch tn 0 39 2 0 (po + 1)).2) from (tCmd_109 hlt h1_109).trans (t2_n (sOpt_2 (by decide) hmr65 (er65.symm.trans h140_67))))]; exact ⟨rfl, rfl, hI, rfl⟩)
      · exact absurd h140_67 h310_80
  rcases Decidable.em (ch po = nI 110) with h1_110 | h1_n110
  · refine lv_tableIn (tgt := 296) hx hb dX6_readCommand_29 (by rw [h1_110]; decide) (by rw [h1_110]; decide) (by rw [h1_110]; rfl) (by decide) ?_
    refine lv_aload_n hx hb dX6_readCommand_296 rfl (lv_at hl 4 rfl) ?_
    refine lv_dup hx hb dX6_readCommand_297 rfl ?_
    refine va_get (D := G.1) (ci := 5) (v := .int (nI (po + 1))) (C := RX6) (T := TX6) (N := 11) hx hb hts (fun _ h => List.mem_cons_of_mem _ (List.mem_append_right _ h)) hown hK hP 0 rfl rfl 9 (by decide) w2 (fun _ h9 => h9) rfl dX6_readCommand_298 ?_
    refine lv_iconst (v := nI 1) hx hb dX6_readCommand_301 (by decide) ?_
    refine zk_isubN hx hb dX6_readCommand_302 (by omega) ?_
    refine va_put (D := G.1) (ci := 5) (v := .int (nI ((po + 1) - 1))) (ty := .int) (C := RX6) (T := TX6) (N := 11) hx hb hts (fun _ h => List.mem_cons_of_mem _ (List.mem_append_right _ h)) tyX6 tyX6_ok nmX6 hown hK hP hD hS 0 rfl rfl 9 (by decide) w2 (fun _ h9 => h9) rfl (by decide +kernel) rfl rfl (Nat.le_of_ble_eq_true rfl) dX6_readCommand_303 (fun H locs hP hD hS => ?_)
    have hP : va_P G.1 vwCl ((zb_6 G b rf (nI tn) ac (nI ((po + 1) - 1)) ou) ++ ((zb_a G (b 1) 120 ch) ++ zb_r G (b 3) K)) H := hP
    have hD : va_D A ((zb_6 G b rf (nI tn) ac (nI ((po + 1) - 1)) ou) ++ ((zb_a G (b 1) 120 ch) ++ zb_r G (b 3) K)) := hD
    refine lv_iconst (v := nI 0) hx hb dX6_readCommand_306 (by decide) ?_
    exact zk_retz ((po + 1) - 1, K, ou) hQ hx hb hr hlocks hS hP hD (Nat.le_of_ble_eq_true rfl) (Nat.le_of_ble_eq_true rfl) dX6_readCommand_307 (rfl) (by rw [kTS_none hlt (show tCmd ch tn po = (none, (po + 1) - 1) from tCmd_no hlt (by rw [h1_110]; decide) (by rw [h1_110]; decide) (by rw [h1_110]; decide) (by rw [h1_110]; decide) (by rw [h1_110]; decide) (by rw [h1_110]; decide) (by rw [h1_110]; decide))]; exact ⟨rfl, rfl, hI, rfl⟩)
  rcases Decidable.em (ch po = nI 111) with h1_111 | h1_n111
  · refine lv_tableIn (tgt := 159) hx hb dX6_readCommand_29 (by rw [h1_111]; decide) (by rw [h1_111]; decide) (by rw [h1_111]; rfl) (by decide) ?_
    refine lv_aload_n hx hb dX6_readCommand_159 rfl (lv_at hl 4 rfl) ?_
    refine lv_iconst (v := nI 2) hx hb dX6_readCommand_160 (by decide) ?_
    refine lv_iconst (v := nI 0) hx hb dX6_readCommand_161 (by decide) ?_
    refine lv_bipush (v := nI 11) hx hb dX6_readCommand_162 (by decide) ?_
    have hP0 : va_P G.1 vwCl ((zb_6 G b rf (nI tn) ac (nI (po + 1)) ou ++ zb_a G (b 1) 120 ch) ++ (zb_r G (b 3) K)) H := zk_Pperm hP (show ((zb_6 G b rf (nI tn) ac (nI (po + 1)) ou) ++ ((zb_a G (b 1) 120 ch) ++ zb_r G (b 3) K)).Perm ((zb_6 G b rf (nI tn) ac (nI (po + 1)) ou ++ zb_a G (b 1) 120 ch) ++ (zb_r G (b 3) K)) from (show ((zb_6 G b rf (nI tn) ac (nI (po + 1)) ou) ++ ((zb_a G (b 1) 120 ch) ++ zb_r G (b 3) K)).Perm ((zb_6 G b rf (nI tn) ac (nI (po + 1)) ou) ++ ((zb_a G (b 1) 120 ch) ++ zb_r G (b 3) K)) from ((List.perm_append_comm_assoc _ _ _)).trans (List.perm_append_comm_assoc _ _ _)).trans (List.Perm.of_eq (by simp only [List.append_assoc, List.append_nil, List.nil_append])))
    have hD0 : va_D A ((zb_6 G b rf (nI tn) ac (nI (po + 1)) ou ++ zb_a G (b 1) 120 ch) ++ (zb_r G (b 3) K)) := zk_Dperm hD (show ((zb_6 G b rf (nI tn) ac (nI (po + 1)) ou) ++ ((zb_a G (b 1) 120 ch) ++ zb_r G (b 3) K)).Perm ((zb_6 G b rf (nI tn) ac (nI (po + 1)) ou ++ zb_a G (b 1) 120 ch) ++ (zb_r G (b 3) K)) from (show ((zb_6 G b rf (nI tn) ac (nI (po + 1)) ou) ++ ((zb_a G (b 1) 120 ch) ++ zb_r G (b 3) K)).Perm ((zb_6 G b rf (nI tn) ac (nI (po + 1)) ou) ++ ((zb_a G (b 1) 120 ch) ++ zb_r G (b 3) K)) from ((List.perm_append_comm_assoc _ _ _)).trans (List.perm_append_comm_assoc _ _ _)).trans (List.Perm.of_eq (by simp only [List.append_assoc, List.append_nil, List.nil_append])))
    refine zk_callI (wr := zb_r G (b 3) K) (va_runV (As := [.int (nI 2), .int (nI 0), .int (nI 11)]) (rest := []) ⟨hx, hb, hml, hown, hts⟩ (c_X6_number l G b rf tn ac (po + 1) ou htn ch 2 0 11 (by decide) (by decide) (by decide) (by decide) (by omega) _) (cwV 3 hts gX6_readCommand_X6_number rfl rfl rfl (by decide +kernel) ⟨Nat.le_of_ble_eq_true rfl, Nat.le_of_ble_eq_true rfl⟩) (zk_preV hE hA0 hS (zk_Papp hP0).1 (zk_Dapp hD0).1 (va_recv hK hP0 (ci := 5) (q0 := 0) rfl rfl)) rfl rfl hl.1 rfl (lv_room (Nat.le_of_ble_eq_true rfl)) dX6_readCommand_164 ⟨Nat.le_of_ble_eq_true rfl, Nat.le_of_ble_eq_true rfl⟩) hP0 hD0 hS hA (fun r82 u83 H locs q84 hP hD hS => ?_)
    obtain ⟨er82, eu83⟩ := q84
    subst eu83
    have hmr82 : ∀ v, (tRange ch tn 0 11 2 0 (po + 1)).1 = some v → v ≤ 11 := fun v hv => tRange_in (by decide) hv
    have hP : va_P G.1 vwCl ((zb_6 G b rf (nI tn) ac (nI ((tRange ch tn 0 11 2 0 (po + 1)).2)) ou) ++ ((zb_a G (b 1) 120 ch) ++ zb_r G (b 3) K)) H := zk_Pperm hP (show ((zb_6 G b rf (nI tn) ac (nI ((tRange ch tn 0 11 2 0 (po + 1)).2)) ou) ++ ((zb_a G (b 1) 120 ch) ++ zb_r G (b 3) K)).Perm ((zb_6 G b rf (nI tn) ac (nI ((tRange ch tn 0 11 2 0 (po + 1)).2)) ou ++ zb_a G (b 1) 120 ch) ++ (zb_r G (b 3) K)) from (show ((zb_6 G b rf (nI tn) ac (nI ((tRange ch tn 0 11 2 0 (po + 1)).2)) ou) ++ ((zb_a G (b 1) 120 ch) ++ zb_r G (b 3) K)).Perm ((zb_6 G b rf (nI tn) ac (nI ((tRange ch tn 0 11 2 0 (po + 1)).2)) ou) ++ ((zb_a G (b 1) 120 ch) ++ zb_r G (b 3) K)) from ((List.perm_append_comm_assoc _ _ _)).trans (List.perm_append_comm_assoc _ _ _)).trans (List.Perm.of_eq (by simp only [List.append_assoc, List.append_nil, List.nil_append]))).symm
    have hD : va_D A ((zb_6 G b rf (nI tn) ac (nI ((tRange ch tn 0 11 2 0 (po + 1)).2)) ou) ++ ((zb_a G (b 1) 120 ch) ++ zb_r G (b 3) K)) := zk_Dperm hD (show ((zb_6 G b rf (nI tn) ac (nI ((tRange ch tn 0 11 2 0 (po + 1)).2)) ou) ++ ((zb_a G (b 1) 120 ch) ++ zb_r G (b 3) K)).Perm ((zb_6 G b rf (nI tn) ac (nI ((tRange ch tn 0 11 2 0 (po + 1)).2)) ou ++ zb_a G (b 1) 120 ch) ++ (zb_r G (b 3) K)) from (show ((zb_6 G b rf (nI tn) ac (nI ((tRange ch tn 0 11 2 0 (po + 1)).2)) ou) ++ ((zb_a G (b 1) 120 ch) ++ zb_r G (b 3) K)).Perm ((zb_6 G b rf (nI tn) ac (nI ((tRange ch tn 0 11 2 0 (po + 1)).2)) ou) ++ ((zb_a G (b 1) 120 ch) ++ zb_r G (b 3) K)) from ((List.perm_append_comm_assoc _ _ _)).trans (List.perm_append_comm_assoc _ _ _)).trans (List.Perm.of_eq (by simp only [List.append_assoc, List.append_nil, List.nil_append]))).symm
    refine lv_istore_n (lv' := [(3, .int r82), (5, .int (nI 0)), (4, .int (nI 0)), (2, .int (ch po)), (0, .ref (b 0)), (1, .ref (b 3))]) hx hb dX6_readCommand_167 rfl hl (by decide) rfl (fun ls hl => ?_)
    refine lv_iload_n hx hb dX6_readCommand_168 rfl (lv_at hl 0 rfl) ?_
    refine lv_iconst (v := -1) hx hb dX6_readCommand_169 (by decide) ?_
    refine lv_icmp_ne (tgt := 177) hx hb dX6_readCommand_170 (by decide) (fun h170_84 => ?_) (fun h170_84 => ?_)
    · obtain ⟨a0, ha0, hb0, he0⟩ := sOpt_1 (by decide) hmr82 (fun z => h170_84 (er82.trans z))
      have hv0 := er82.trans he0
      have hl : lv_has ls 6 [(3, .int (nI a0)), (5, .int (nI 0)), (4, .int (nI 0)), (2, .int (ch po)), (0, .ref (b 0)), (1, .ref (b 3))] := by rw [hv0] at hl; exact hl
      refine lv_aload_n hx hb dX6_readCommand_177 rfl (lv_at hl 4 rfl) ?_
      refine lv_iconst (v := nI 2) hx hb dX6_readCommand_178 (by decide) ?_
      refine lv_iconst (v := nI 0) hx hb dX6_readCommand_179 (by decide) ?_
      refine lv_bipush (v := nI 39) hx hb dX6_readCommand_180 (by decide) ?_
      have hP0 : va_P G.1 vwCl ((zb_6 G b rf (nI tn) ac (nI ((tRange ch tn 0 11 2 0 (po + 1)).2)) ou ++ zb_a G (b 1) 120 ch) ++ (zb_r G (b 3) K)) H := zk_Pperm hP (show ((zb_6 G b rf (nI tn) ac (nI ((tRange ch tn 0 11 2 0 (po + 1)).2)) ou) ++ ((zb_a G (b 1) 120 ch) ++ zb_r G (b 3) K)).Perm ((zb_6 G b rf (nI tn) ac (nI ((tRange ch tn 0 11 2 0 (po + 1)).2)) ou ++ zb_a G (b 1) 120 ch) ++ (zb_r G (b 3) K)) from (show ((zb_6 G b rf (nI tn) ac (nI ((tRange ch tn 0 11 2 0 (po + 1)).2)) ou) ++ ((zb_a G (b 1) 120 ch) ++ zb_r G (b 3) K)).Perm ((zb_6 G b rf (nI tn) ac (nI ((tRange ch tn 0 11 2 0 (po + 1)).2)) ou) ++ ((zb_a G (b 1) 120 ch) ++ zb_r G (b 3) K)) from ((List.perm_append_comm_assoc _ _ _)).trans (List.perm_append_comm_assoc _ _ _)).trans (List.Perm.of_eq (by simp only [List.append_assoc, List.append_nil, List.nil_append])))
      have hD0 : va_D A ((zb_6 G b rf (nI tn) ac (nI ((tRange ch tn 0 11 2 0 (po + 1)).2)) ou ++ zb_a G (b 1) 120 ch) ++ (zb_r G (b 3) K)) := zk_Dperm hD (show ((zb_6 G b rf (nI tn) ac (nI ((tRange ch tn 0 11 2 0 (po + 1)).2)) ou) ++ ((zb_a G (b 1) 120 ch) ++ zb_r G (b 3) K)).Perm ((zb_6 G b rf (nI tn) ac (nI ((tRange ch tn 0 11 2 0 (po + 1)).2)) ou ++ zb_a G (b 1) 120 ch) ++ (zb_r G (b 3) K)) from (show ((zb_6 G b rf (nI tn) ac (nI ((tRange ch tn 0 11 2 0 (po + 1)).2)) ou) ++ ((zb_a G (b 1) 120 ch) ++ zb_r G (b 3) K)).Perm ((zb_6 G b rf (nI tn) ac (nI ((tRange ch tn 0 11 2 0 (po + 1)).2)) ou) ++ ((zb_a G (b 1) 120 ch) ++ zb_r G (b 3) K)) from ((List.perm_append_comm_assoc _ _ _)).trans (List.perm_append_comm_assoc _ _ _)).trans (List.Perm.of_eq (by simp only [List.append_assoc, List.append_nil, List.nil_append])))
      refine zk_callI (wr := zb_r G (b 3) K) (va_runV (As := [.int (nI 2), .int (nI 0), .int (nI 39)]) (rest := []) ⟨hx, hb, hml, hown, hts⟩ (c_X6_number l G b rf tn ac ((tRange ch tn 0 11 2 0 (po + 1)).2) ou htn ch 2 0 39 (by decide) (by decide) (by decide) (by decide) (tRange_le htn (by omega)) _) (cwV 3 hts gX6_readCommand_X6_number rfl rfl rfl (by decide +kernel) ⟨Nat.le_of_ble_eq_true rfl, Nat.le_of_ble_eq_true rfl⟩) (zk_preV hE hA0 hS (zk_Papp hP0).1 (zk_Dapp hD0).1 (va_recv hK hP0 (ci := 5) (q0 := 0) rfl rfl)) rfl rfl hl.1 rfl (lv_room (Nat.le_of_ble_eq_true rfl)) dX6_readCommand_182 ⟨Nat.le_of_ble_eq_true rfl, Nat.le_of_ble_eq_true rfl⟩) hP0 hD0 hS hA (fun r86 u87 H locs q88 hP hD hS => ?_)
      obtain ⟨er86, eu87⟩ := q88
      subst eu87
      have hmr86 : ∀ v, (tRange ch tn 0 39 2 0 ((tRange ch tn 0 11 2 0 (po + 1)).2)).1 = some v → v ≤ 39 := fun v hv => tRange_in (by decide) hv
      have hP : va_P G.1 vwCl ((zb_6 G b rf (nI tn) ac (nI ((tRange ch tn 0 39 2 0 ((tRange ch tn 0 11 2 0 (po + 1)).2)).2)) ou) ++ ((zb_a G (b 1) 120 ch) ++ zb_r G (b 3) K)) H := zk_Pperm hP (show ((zb_6 G b rf (nI tn) ac (nI ((tRange ch tn 0 39 2 0 ((tRange ch tn 0 11 2 0 (po + 1)).2)).2)) ou) ++ ((zb_a G (b 1) 120 ch) ++ zb_r G (b 3) K)).Perm ((zb_6 G b rf (nI tn) ac (nI ((tRange ch tn 0 39 2 0 ((tRange ch tn 0 11 2 0 (po + 1)).2)).2)) ou ++ zb_a G (b 1) 120 ch) ++ (zb_r G (b 3) K)) from (show ((zb_6 G b rf (nI tn) ac (nI ((tRange ch tn 0 39 2 0 ((tRange ch tn 0 11 2 0 (po + 1)).2)).2)) ou) ++ ((zb_a G (b 1) 120 ch) ++ zb_r G (b 3) K)).Perm ((zb_6 G b rf (nI tn) ac (nI ((tRange ch tn 0 39 2 0 ((tRange ch tn 0 11 2 0 (po + 1)).2)).2)) ou) ++ ((zb_a G (b 1) 120 ch) ++ zb_r G (b 3) K)) from ((List.perm_append_comm_assoc _ _ _)).trans (List.perm_append_comm_assoc _ _ _)).trans (List.Perm.of_eq (by simp only [List.append_assoc, List.append_nil, List.nil_append]))).symm
      have hD : va_D A ((zb_6 G b rf (nI tn) ac (nI ((tRange ch tn 0 39 2 0 ((tRange ch tn 0 11 2 0 (po + 1)).2)).2)) ou) ++ ((zb_a G (b 1) 120 ch) ++ zb_r G (b 3) K)) := zk_Dperm hD (show ((zb_6 G b rf (nI tn) ac (nI ((tRange ch tn 0 39 2 0 ((tRange ch tn 0 11 2 0 (po + 1)).2)).2)) ou) ++ ((zb_a G (b 1) 120 ch) ++ zb_r G (b 3) K)).Perm ((zb_6 G b rf (nI tn) ac (nI ((tRange ch tn 0 39 2 0 ((tRange ch tn 0 11 2 0 (po + 1)).2)).2)) ou ++ zb_a G (b 1) 120 ch) ++ (zb_r G (b 3) K)) from (show ((zb_6 G b rf (nI tn) ac (nI ((tRange ch tn 0 39 2 0 ((tRange ch tn 0 11 2 0 (po + 1)).2)).2)) ou) ++ ((zb_a G (b 1) 120 ch) ++ zb_r G (b 3) K)).Perm ((zb_6 G b rf (nI tn) ac (nI ((tRange ch tn 0 39 2 0 ((tRange ch tn 0 11 2 0 (po + 1)).2)).2)) ou) ++ ((zb_a G (b 1) 120 ch) ++ zb_r G (b 3) K)) from ((List.perm_append_comm_assoc _ _ _)).trans (List.perm_append_comm_assoc _ _ _)).trans (List.Perm.of_eq (by simp only [List.append_assoc, List.append_nil, List.nil_append]))).symm
      refine lv_istore (lv' := [(4, .int r86), (3, .int (nI a0)), (5, .int (nI 0)), (2, .int (ch po)), (0, .ref (b 0)), (1, .ref (b 3))]) hx hb dX6_readCommand_185 hl (by decide) rfl (fun ls hl => ?_)
      refine lv_goto (tgt := 308) hx hb dX6_readCommand_187 (by decide) ?_
      refine lv_iload_n hx hb dX6_readCommand_308 rfl (lv_at hl 1 rfl) ?_
      refine lv_iconst (v := -1) hx hb dX6_readCommand_309 (by decide) ?_
      refine lv_icmp_eq (tgt := 325) hx hb dX6_readCommand_310 (by decide) (fun h310_88 => ?_) (fun h310_88 => ?_)
      · exact absurd h310_88 (zk_m1n (by omega))
      · refine lv_iload hx hb dX6_readCommand_313 (lv_at hl 0 rfl) ?_
        refine lv_iconst (v := -1) hx hb dX6_readCommand_315 (by decide) ?_
        refine lv_icmp_eq (tgt := 325) hx hb dX6_readCommand_316 (by decide) (fun h316_89 => ?_) (fun h316_89 => ?_)
        · refine lv_iconst (v := nI 0) hx hb dX6_readCommand_325 (by decide) ?_
          exact zk_retz ((tRange ch tn 0 39 2 0 ((tRange ch tn 0 11 2 0 (po + 1)).2)).2, K, ou) hQ hx hb hr hlocks hS hP hD (Nat.le_of_ble_eq_true rfl) (Nat.le_of_ble_eq_true rfl) dX6_readCommand_326 (rfl) (by rw [kTS_none hlt (show tCmd ch tn po = (none, (tRange ch tn 0 39 2 0 ((tRange ch tn 0 11 2 0 (po + 1)).2)).2) from (tCmd_111 hlt h1_111).trans (t2_sn ha0 (sOpt_2 (by decide) hmr86 (er86.symm.trans h316_89))))]; exact ⟨rfl, rfl, hI, rfl⟩)
        · refine lv_iload hx hb dX6_readCommand_319 (lv_at hl 2 rfl) ?_
          refine lv_iconst (v := -1) hx hb dX6_readCommand_321 (by decide) ?_
          refine lv_icmp_ne (tgt := 327) hx hb dX6_readCommand_322 (by decide) (fun _ => ?_) (fun z => absurd z (by decide))
          obtain ⟨a1, ha1, hb1, he1⟩ := sOpt_1 (by decide) hmr86 (fun z => h316_89 (er86.trans z))
          have hv1 := er86.trans he1
          have hl : lv_has ls 6 [(4, .int (nI a1)), (3, .int (nI a0)), (5, .int (nI 0)), (2, .int (ch po)), (0, .ref (b 0)), (1, .ref (b 3))] := by rw [hv1] at hl; exact hl
          have hC : tCmd ch tn po = (some [a0, a1], (tRange ch tn 0 39 2 0 ((tRange ch tn 0 11 2 0 (po + 1)).2)).2) := (tCmd_111 hlt h1_111).trans (t2_ss ha0 ha1)
          refine lv_aload_n hx hb dX6_readCommand_327 rfl (lv_at hl 4 rfl) ?_
          refine lv_dup hx hb dX6_readCommand_328 rfl ?_
          refine va_get (D := G.1) (ci := 5) (v := .int ou) (C := RX6) (T := TX6) (N := 11) hx hb hts (fun _ h => List.mem_cons_of_mem _ (List.mem_append_right _ h)) hown hK hP 0 rfl rfl 10 (by decide) w3 (fun _ h9 => h9) rfl dX6_readCommand_329 ?_
          refine lv_aload_n hx hb dX6_readCommand_332 rfl (lv_at hl 5 rfl) ?_
          refine lv_iload_n hx hb dX6_readCommand_333 rfl (lv_at hl 3 rfl) ?_
          refine lv_iload_n hx hb dX6_readCommand_334 rfl (lv_at hl 1 rfl) ?_
          refine lv_iload hx hb dX6_readCommand_335 (lv_at hl 0 rfl) ?_
          refine lv_iload hx hb dX6_readCommand_337 (lv_at hl 2 rfl) ?_
          have hdk : kDok (ch po) (nI a0) := (by rw [h1_111]; exact kDok_o _)
          have hP0 : va_P G.1 vwCl ((zb_r G (b 3) K) ++ ((zb_6 G b rf (nI tn) ac (nI ((tRange ch tn 0 39 2 0 ((tRange ch tn 0 11 2 0 (po + 1)).2)).2)) ou) ++ zb_a G (b 1) 120 ch)) H := zk_Pperm hP (show ((zb_6 G b rf (nI tn) ac (nI ((tRange ch tn 0 39 2 0 ((tRange ch tn 0 11 2 0 (po + 1)).2)).2)) ou) ++ ((zb_a G (b 1) 120 ch) ++ zb_r G (b 3) K)).Perm ((zb_r G (b 3) K) ++ ((zb_6 G b rf (nI tn) ac (nI ((tRange ch tn 0 39 2 0 ((tRange ch tn 0 11 2 0 (po + 1)).2)).2)) ou) ++ zb_a G (b 1) 120 ch)) from (show ((zb_6 G b rf (nI tn) ac (nI ((tRange ch tn 0 39 2 0 ((tRange ch tn 0 11 2 0 (po + 1)).2)).2)) ou) ++ ((zb_a G (b 1) 120 ch) ++ zb_r G (b 3) K)).Perm ((zb_r G (b 3) K) ++ ((zb_6 G b rf (nI tn) ac (nI ((tRange ch tn 0 39 2 0 ((tRange ch tn 0 11 2 0 (po + 1)).2)).2)) ou) ++ zb_a G (b 1) 120 ch)) from ((List.Perm.append_left _ List.perm_append_comm).trans (List.perm_append_comm_assoc _ _ _))).trans (List.Perm.of_eq (by simp only [List.append_assoc, List.append_nil, List.nil_append])))
          have hD0 : va_D A ((zb_r G (b 3) K) ++ ((zb_6 G b rf (nI tn) ac (nI ((tRange ch tn 0 39 2 0 ((tRange ch tn 0 11 2 0 (po + 1)).2)).2)) ou) ++ zb_a G (b 1) 120 ch)) := zk_Dperm hD (show ((zb_6 G b rf (nI tn) ac (nI ((tRange ch tn 0 39 2 0 ((tRange ch tn 0 11 2 0 (po + 1)).2)).2)) ou) ++ ((zb_a G (b 1) 120 ch) ++ zb_r G (b 3) K)).Perm ((zb_r G (b 3) K) ++ ((zb_6 G b rf (nI tn) ac (nI ((tRange ch tn 0 39 2 0 ((tRange ch tn 0 11 2 0 (po + 1)).2)).2)) ou) ++ zb_a G (b 1) 120 ch)) from (show ((zb_6 G b rf (nI tn) ac (nI ((tRange ch tn 0 39 2 0 ((tRange ch tn 0 11 2 0 (po + 1)).2)).2)) ou) ++ ((zb_a G (b 1) 120 ch) ++ zb_r G (b 3) K)).Perm ((zb_r G (b 3) K) ++ ((zb_6 G b rf (nI tn) ac (nI ((tRange ch tn 0 39 2 0 ((tRange ch tn 0 11 2 0 (po + 1)).2)).2)) ou) ++ zb_a G (b 1) 120 ch)) from ((List.Perm.append_left _ List.perm_append_comm).trans (List.perm_append_comm_assoc _ _ _))).trans (List.Perm.of_eq (by simp only [List.append_assoc, List.append_nil, List.nil_append])))
          refine zk_callI (wr := (zb_6 G b rf (nI tn) ac (nI ((tRange ch tn 0 39 2 0 ((tRange ch tn 0 11 2 0 (po + 1)).2)).2)) ou) ++ zb_a G (b 1) 120 ch) (va_runS (As := [.ref (b 3), .int (ch po), .int (nI a0), .int (nI a1), .int (nI 0)]) (rest := [.int ou, .ref (b 0)]) ⟨hx, hb, hml, hown, hts⟩ (c_X6_does l G (b 3) K (zN K) (zT K) hI (ch po) (nI a0) (nI a1) (nI 0) hdk hp0 _) (cwS 5 hts gX6_readCommand_X6_does rfl rfl rfl (by decide +kernel) ⟨Nat.le_of_ble_eq_true rfl, Nat.le_of_ble_eq_true rfl⟩) (zk_preS hE hA0 hS (zk_Papp hP0).1 (zk_Dapp hD0).1) rfl rfl hl.1 rfl (lv_room (Nat.le_of_ble_eq_true rfl)) dX6_readCommand_339 ⟨Nat.le_of_ble_eq_true rfl, Nat.le_of_ble_eq_true rfl⟩) hP0 hD0 hS hA (fun r91 u92 H locs q93 hP hD hS => ?_)
          obtain ⟨er91, eL94⟩ := q93
          have hP : va_P G.1 vwCl ((zb_6 G b rf (nI tn) ac (nI ((tRange ch tn 0 39 2 0 ((tRange ch tn 0 11 2 0 (po + 1)).2)).2)) ou) ++ ((zb_a G (b 1) 120 ch) ++ zb_r G (b 3) u92)) H := zk_Pperm hP (show ((zb_6 G b rf (nI tn) ac (nI ((tRange ch tn 0 39 2 0 ((tRange ch tn 0 11 2 0 (po + 1)).2)).2)) ou) ++ ((zb_a G (b 1) 120 ch) ++ zb_r G (b 3) u92)).Perm ((zb_r G (b 3) u92) ++ ((zb_6 G b rf (nI tn) ac (nI ((tRange ch tn 0 39 2 0 ((tRange ch tn 0 11 2 0 (po + 1)).2)).2)) ou) ++ zb_a G (b 1) 120 ch)) from (show ((zb_6 G b rf (nI tn) ac (nI ((tRange ch tn 0 39 2 0 ((tRange ch tn 0 11 2 0 (po + 1)).2)).2)) ou) ++ ((zb_a G (b 1) 120 ch) ++ zb_r G (b 3) u92)).Perm ((zb_r G (b 3) u92) ++ ((zb_6 G b rf (nI tn) ac (nI ((tRange ch tn 0 39 2 0 ((tRange ch tn 0 11 2 0 (po + 1)).2)).2)) ou) ++ zb_a G (b 1) 120 ch)) from ((List.Perm.append_left _ List.perm_append_comm).trans (List.perm_append_comm_assoc _ _ _))).trans (List.Perm.of_eq (by simp only [List.append_assoc, List.append_nil, List.nil_append]))).symm
          have hD : va_D A ((zb_6 G b rf (nI tn) ac (nI ((tRange ch tn 0 39 2 0 ((tRange ch tn 0 11 2 0 (po + 1)).2)).2)) ou) ++ ((zb_a G (b 1) 120 ch) ++ zb_r G (b 3) u92)) := zk_Dperm hD (show ((zb_6 G b rf (nI tn) ac (nI ((tRange ch tn 0 39 2 0 ((tRange ch tn 0 11 2 0 (po + 1)).2)).2)) ou) ++ ((zb_a G (b 1) 120 ch) ++ zb_r G (b 3) u92)).Perm ((zb_r G (b 3) u92) ++ ((zb_6 G b rf (nI tn) ac (nI ((tRange ch tn 0 39 2 0 ((tRange ch tn 0 11 2 0 (po + 1)).2)).2)) ou) ++ zb_a G (b 1) 120 ch)) from (show ((zb_6 G b rf (nI tn) ac (nI ((tRange ch tn 0 39 2 0 ((tRange ch tn 0 11 2 0 (po + 1)).2)).2)) ou) ++ ((zb_a G (b 1) 120 ch) ++ zb_r G (b 3) u92)).Perm ((zb_r G (b 3) u92) ++ ((zb_6 G b rf (nI tn) ac (nI ((tRange ch tn 0 39 2 0 ((tRange ch tn 0 11 2 0 (po + 1)).2)).2)) ou) ++ zb_a G (b 1) 120 ch)) from ((List.Perm.append_left _ List.perm_append_comm).trans (List.perm_append_comm_assoc _ _ _))).trans (List.Perm.of_eq (by simp only [List.append_assoc, List.append_nil, List.nil_append]))).symm
          refine lv_if_eq (tgt := 349) hx hb dX6_readCommand_342 (by decide) (fun h342_94 => ?_) (fun h342_94 => ?_)
          · refine lv_iconst (v := nI 1) hx hb dX6_readCommand_349 (by decide) ?_
            refine lv_iadd hx hb dX6_readCommand_350 ?_
            refine lv_topi (fun x96 ex96 => ?_)
            refine va_put (D := G.1) (ci := 5) (v := .int x96) (ty := .int) (C := RX6) (T := TX6) (N := 11) hx hb hts (fun _ h => List.mem_cons_of_mem _ (List.mem_append_right _ h)) tyX6 tyX6_ok nmX6 hown hK hP hD hS 0 rfl rfl 10 (by decide) w3 (fun _ h9 => h9) rfl (by decide +kernel) rfl rfl (Nat.le_of_ble_eq_true rfl) dX6_readCommand_351 (fun H locs hP hD hS => ?_)
            have hP : va_P G.1 vwCl ((zb_6 G b rf (nI tn) ac (nI ((tRange ch tn 0 39 2 0 ((tRange ch tn 0 11 2 0 (po + 1)).2)).2)) x96) ++ ((zb_a G (b 1) 120 ch) ++ zb_r G (b 3) u92)) H := hP
            have hD : va_D A ((zb_6 G b rf (nI tn) ac (nI ((tRange ch tn 0 39 2 0 ((tRange ch tn 0 11 2 0 (po + 1)).2)).2)) x96) ++ ((zb_a G (b 1) 120 ch) ++ zb_r G (b 3) u92)) := hD
            refine lv_iconst (v := nI 1) hx hb dX6_readCommand_354 (by decide) ?_
            exact zk_retz ((tRange ch tn 0 39 2 0 ((tRange ch tn 0 11 2 0 (po + 1)).2)).2, u92, x96) hQ hx hb hr hlocks hS hP hD (Nat.le_of_ble_eq_true rfl) (Nat.le_of_ble_eq_true rfl) dX6_readCommand_355 (rfl) (by rw [kTS_some hlt hC]; exact ⟨rfl, Prod.ext rfl (Prod.ext eL94 (by show x96 = _; rw [ex96]; exact congrArg (ou + ·) (if_pos (er91.symm.trans h342_94)).symm)), by rw [eL94]; exact kDoes_inv hI hdk, by rw [eL94]; exact kDoes_r0⟩)
          · refine lv_iconst (v := nI 0) hx hb dX6_readCommand_345 (by decide) ?_
            refine lv_goto (tgt := 350) hx hb dX6_readCommand_346 (by decide) ?_
            refine lv_iadd hx hb dX6_readCommand_350 ?_
            refine lv_topi (fun x97 ex97 => ?_)
            refine va_put (D := G.1) (ci := 5) (v := .int x97) (ty := .int) (C := RX6) (T := TX6) (N := 11) hx hb hts (fun _ h => List.mem_cons_of_mem _ (List.mem_append_right _ h)) tyX6 tyX6_ok nmX6 hown hK hP hD hS 0 rfl rfl 10 (by decide) w3 (fun _ h9 => h9) rfl (by decide +kernel) rfl rfl (Nat.le_of_ble_eq_true rfl) dX6_readCommand_351 (fun H locs hP hD hS => ?_)
            have hP : va_P G.1 vwCl ((zb_6 G b rf (nI tn) ac (nI ((tRange ch tn 0 39 2 0 ((tRange ch tn 0 11 2 0 (po + 1)).2)).2)) x97) ++ ((zb_a G (b 1) 120 ch) ++ zb_r G (b 3) u92)) H := hP
            have hD : va_D A ((zb_6 G b rf (nI tn) ac (nI ((tRange ch tn 0 39 2 0 ((tRange ch tn 0 11 2 0 (po + 1)).2)).2)) x97) ++ ((zb_a G (b 1) 120 ch) ++ zb_r G (b 3) u92)) := hD
            refine lv_iconst (v := nI 1) hx hb dX6_readCommand_354 (by decide) ?_
            exact zk_retz ((tRange ch tn 0 39 2 0 ((tRange ch tn 0 11 2 0 (po + 1)).2)).2, u92, x97) hQ hx hb hr hlocks hS hP hD (Nat.le_of_ble_eq_true rfl) (Nat.le_of_ble_eq_true rfl) dX6_readCommand_355 (rfl) (by rw [kTS_some hlt hC]; exact ⟨rfl, Prod.ext rfl (Prod.ext eL94 (by show x97 = _; rw [ex97]; exact congrArg (ou + ·) (if_neg (fun z => h342_94 (er91.trans z))).symm)), by rw [eL94]; exact kDoes_inv hI hdk, by rw [eL94]; exact kDoes_r0⟩)
    · refine lv_iconst (v := -1) hx hb dX6_readCommand_173 (by decide) ?_
      refine lv_goto (tgt := 185) hx hb dX6_readCommand_174 (by decide) ?_
      refine lv_istore (lv' := [(4, .int (-1)), (3, .int r82), (5, .int (nI 0)), (2, .int (ch po)), (0, .ref (b 0)), (1, .ref (b 3))]) hx hb dX6_readCommand_185 hl (by decide) rfl (fun ls hl => ?_)
      refine lv_goto (tgt := 308) hx hb dX6_readCommand_187 (by decide) ?_
      refine lv_iload_n hx hb dX6_readCommand_308 rfl (lv_at hl 1 rfl) ?_
      refine lv_iconst (v := -1) hx hb dX6_readCommand_309 (by decide) ?_
      refine lv_icmp_eq (tgt := 325) hx hb dX6_readCommand_310 (by decide) (fun h310_97 => ?_) (fun h310_97 => ?_)
      · refine lv_iconst (v := nI 0) hx hb dX6_readCommand_325 (by decide) ?_
        exact zk_retz ((tRange ch tn 0 11 2 0 (po + 1)).2, K, ou) hQ hx hb hr hlocks hS hP hD (Nat.le_of_ble_eq_true rfl) (Nat.le_of_ble_eq_true rfl) dX6_readCommand_326 (rfl) (by rw [kTS_none hlt (show tCmd ch tn po = (none, (tRange ch tn 0 11 2 0 (po + 1)).2) from (tCmd_111 hlt h1_111).trans (t2_n (sOpt_2 (by decide) hmr82 (er82.symm.trans h170_84))))]; exact ⟨rfl, rfl, hI, rfl⟩)
      · exact absurd h170_84 h310_97
  rcases Decidable.em (ch po = nI 112) with h1_112 | h1_n112
  · refine lv_tableIn (tgt := 190) hx hb dX6_readCommand_29 (by rw [h1_112]; decide) (by rw [h1_112]; decide) (by rw [h1_112]; rfl) (by decide) ?_
    refine lv_aload_n hx hb dX6_readCommand_190 rfl (lv_at hl 4 rfl) ?_
    refine lv_iconst (v := nI 2) hx hb dX6_readCommand_191 (by decide) ?_
    refine lv_iconst (v := nI 0) hx hb dX6_readCommand_192 (by decide) ?_
    refine lv_bipush (v := nI 11) hx hb dX6_readCommand_193 (by decide) ?_
    have hP0 : va_P G.1 vwCl ((zb_6 G b rf (nI tn) ac (nI (po + 1)) ou ++ zb_a G (b 1) 120 ch) ++ (zb_r G (b 3) K)) H := zk_Pperm hP (show ((zb_6 G b rf (nI tn) ac (nI (po + 1)) ou) ++ ((zb_a G (b 1) 120 ch) ++ zb_r G (b 3) K)).Perm ((zb_6 G b rf (nI tn) ac (nI (po + 1)) ou ++ zb_a G (b 1) 120 ch) ++ (zb_r G (b 3) K)) from (show ((zb_6 G b rf (nI tn) ac (nI (po + 1)) ou) ++ ((zb_a G (b 1) 120 ch) ++ zb_r G (b 3) K)).Perm ((zb_6 G b rf (nI tn) ac (nI (po + 1)) ou) ++ ((zb_a G (b 1) 120 ch) ++ zb_r G (b 3) K)) from ((List.perm_append_comm_assoc _ _ _)).trans (List.perm_append_comm_assoc _ _ _)).trans (List.Perm.of_eq (by simp only [List.append_assoc, List.append_nil, List.nil_append])))
    have hD0 : va_D A ((zb_6 G b rf (nI tn) ac (nI (po + 1)) ou ++ zb_a G (b 1) 120 ch) ++ (zb_r G (b 3) K)) := zk_Dperm hD (show ((zb_6 G b rf (nI tn) ac (nI (po + 1)) ou) ++ ((zb_a G (b 1) 120 ch) ++ zb_r G (b 3) K)).Perm ((zb_6 G b rf (nI tn) ac (nI (po + 1)) ou ++ zb_a G (b 1) 120 ch) ++ (zb_r G (b 3) K)) from (show ((zb_6 G b rf (nI tn) ac (nI (po + 1)) ou) ++ ((zb_a G (b 1) 120 ch) ++ zb_r G (b 3) K)).Perm ((zb_6 G b rf (nI tn) ac (nI (po + 1)) ou) ++ ((zb_a G (b 1) 120 ch) ++ zb_r G (b 3) K)) from ((List.perm_append_comm_assoc _ _ _)).trans (List.perm_append_comm_assoc _ _ _)).trans (List.Perm.of_eq (by simp only [List.append_assoc, List.append_nil, List.nil_append])))
    refine zk_callI (wr := zb_r G (b 3) K) (va_runV (As := [.int (nI 2), .int (nI 0), .int (nI 11)]) (rest := []) ⟨hx, hb, hml, hown, hts⟩ (c_X6_number l G b rf tn ac (po + 1) ou htn ch 2 0 11 (by decide) (by decide) (by decide) (by decide) (by omega) _) (cwV 3 hts gX6_readCommand_X6_number rfl rfl rfl (by decide +kernel) ⟨Nat.le_of_ble_eq_true rfl, Nat.le_of_ble_eq_true rfl⟩) (zk_preV hE hA0 hS (zk_Papp hP0).1 (zk_Dapp hD0).1 (va_recv hK hP0 (ci := 5) (q0 := 0) rfl rfl)) rfl rfl hl.1 rfl (lv_room (Nat.le_of_ble_eq_true rfl)) dX6_readCommand_195 ⟨Nat.le_of_ble_eq_true rfl, Nat.le_of_ble_eq_true rfl⟩) hP0 hD0 hS hA (fun r99 u100 H locs q101 hP hD hS => ?_)
    obtain ⟨er99, eu100⟩ := q101
    subst eu100
    have hmr99 : ∀ v, (tRange ch tn 0 11 2 0 (po + 1)).1 = some v → v ≤ 11 := fun v hv => tRange_in (by decide) hv
    have hP : va_P G.1 vwCl ((zb_6 G b rf (nI tn) ac (nI ((tRange ch tn 0 11 2 0 (po + 1)).2)) ou) ++ ((zb_a G (b 1) 120 ch) ++ zb_r G (b 3) K)) H := zk_Pperm hP (show ((zb_6 G b rf (nI tn) ac (nI ((tRange ch tn 0 11 2 0 (po + 1)).2)) ou) ++ ((zb_a G (b 1) 120 ch) ++ zb_r G (b 3) K)).Perm ((zb_6 G b rf (nI tn) ac (nI ((tRange ch tn 0 11 2 0 (po + 1)).2)) ou ++ zb_a G (b 1) 120 ch) ++ (zb_r G (b 3) K)) from (show ((zb_6 G b rf (nI tn) ac (nI ((tRange ch tn 0 11 2 0 (po + 1)).2)) ou) ++ ((zb_a G (b 1) 120 ch) ++ zb_r G (b 3) K)).Perm ((zb_6 G b rf (nI tn) ac (nI ((tRange ch tn 0 11 2 0 (po + 1)).2)) ou) ++ ((zb_a G (b 1) 120 ch) ++ zb_r G (b 3) K)) from ((List.perm_append_comm_assoc _ _ _)).trans (List.perm_append_comm_assoc _ _ _)).trans (List.Perm.of_eq (by simp only [List.append_assoc, List.append_nil, List.nil_append]))).symm
    have hD : va_D A ((zb_6 G b rf (nI tn) ac (nI ((tRange ch tn 0 11 2 0 (po + 1)).2)) ou) ++ ((zb_a G (b 1) 120 ch) ++ zb_r G (b 3) K)) := zk_Dperm hD (show ((zb_6 G b rf (nI tn) ac (nI ((tRange ch tn 0 11 2 0 (po + 1)).2)) ou) ++ ((zb_a G (b 1) 120 ch) ++ zb_r G (b 3) K)).Perm ((zb_6 G b rf (nI tn) ac (nI ((tRange ch tn 0 11 2 0 (po + 1)).2)) ou ++ zb_a G (b 1) 120 ch) ++ (zb_r G (b 3) K)) from (show ((zb_6 G b rf (nI tn) ac (nI ((tRange ch tn 0 11 2 0 (po + 1)).2)) ou) ++ ((zb_a G (b 1) 120 ch) ++ zb_r G (b 3) K)).Perm ((zb_6 G b rf (nI tn) ac (nI ((tRange ch tn 0 11 2 0 (po + 1)).2)) ou) ++ ((zb_a G (b 1) 120 ch) ++ zb_r G (b 3) K)) from ((List.perm_append_comm_assoc _ _ _)).trans (List.perm_append_comm_assoc _ _ _)).trans (List.Perm.of_eq (by simp only [List.append_assoc, List.append_nil, List.nil_append]))).symm
    refine lv_istore_n (lv' := [(3, .int r99), (5, .int (nI 0)), (4, .int (nI 0)), (2, .int (ch po)), (0, .ref (b 0)), (1, .ref (b 3))]) hx hb dX6_readCommand_198 rfl hl (by decide) rfl (fun ls hl => ?_)
    refine lv_iload_n hx hb dX6_readCommand_199 rfl (lv_at hl 0 rfl) ?_
    refine lv_iconst (v := -1) hx hb dX6_readCommand_200 (by decide) ?_
    refine lv_icmp_ne (tgt := 208) hx hb dX6_readCommand_201 (by decide) (fun h201_101 => ?_) (fun h201_101 => ?_)
    · obtain ⟨a0, ha0, hb0, he0⟩ := sOpt_1 (by decide) hmr99 (fun z => h201_101 (er99.trans z))
      have hv0 := er99.trans he0
      have hl : lv_has ls 6 [(3, .int (nI a0)), (5, .int (nI 0)), (4, .int (nI 0)), (2, .int (ch po)), (0, .ref (b 0)), (1, .ref (b 3))] := by rw [hv0] at hl; exact hl
      refine lv_aload_n hx hb dX6_readCommand_208 rfl (lv_at hl 4 rfl) ?_
      refine lv_iconst (v := nI 4) hx hb dX6_readCommand_209 (by decide) ?_
      refine lv_iconst (v := nI 1) hx hb dX6_readCommand_210 (by decide) ?_
      refine lv_sipush (v := nI 9999) hx hb dX6_readCommand_211 (by decide) ?_
      have hP0 : va_P G.1 vwCl ((zb_6 G b rf (nI tn) ac (nI ((tRange ch tn 0 11 2 0 (po + 1)).2)) ou ++ zb_a G (b 1) 120 ch) ++ (zb_r G (b 3) K)) H := zk_Pperm hP (show ((zb_6 G b rf (nI tn) ac (nI ((tRange ch tn 0 11 2 0 (po + 1)).2)) ou) ++ ((zb_a G (b 1) 120 ch) ++ zb_r G (b 3) K)).Perm ((zb_6 G b rf (nI tn) ac (nI ((tRange ch tn 0 11 2 0 (po + 1)).2)) ou ++ zb_a G (b 1) 120 ch) ++ (zb_r G (b 3) K)) from (show ((zb_6 G b rf (nI tn) ac (nI ((tRange ch tn 0 11 2 0 (po + 1)).2)) ou) ++ ((zb_a G (b 1) 120 ch) ++ zb_r G (b 3) K)).Perm ((zb_6 G b rf (nI tn) ac (nI ((tRange ch tn 0 11 2 0 (po + 1)).2)) ou) ++ ((zb_a G (b 1) 120 ch) ++ zb_r G (b 3) K)) from ((List.perm_append_comm_assoc _ _ _)).trans (List.perm_append_comm_assoc _ _ _)).trans (List.Perm.of_eq (by simp only [List.append_assoc, List.append_nil, List.nil_append])))
      have hD0 : va_D A ((zb_6 G b rf (nI tn) ac (nI ((tRange ch tn 0 11 2 0 (po + 1)).2)) ou ++ zb_a G (b 1) 120 ch) ++ (zb_r G (b 3) K)) := zk_Dperm hD (show ((zb_6 G b rf (nI tn) ac (nI ((tRange ch tn 0 11 2 0 (po + 1)).2)) ou) ++ ((zb_a G (b 1) 120 ch) ++ zb_r G (b 3) K)).Perm ((zb_6 G b rf (nI tn) ac (nI ((tRange ch tn 0 11 2 0 (po + 1)).2)) ou ++ zb_a G (b 1) 120 ch) ++ (zb_r G (b 3) K)) from (show ((zb_6 G b rf (nI tn) ac (nI ((tRange ch tn 0 11 2 0 (po + 1)).2)) ou) ++ ((zb_a G (b 1) 120 ch) ++ zb_r G (b 3) K)).Perm ((zb_6 G b rf (nI tn) ac (nI ((tRange ch tn 0 11 2 0 (po + 1)).2)) ou) ++ ((zb_a G (b 1) 120 ch) ++ zb_r G (b 3) K)) from ((List.perm_append_comm_assoc _ _ _)).trans (List.perm_append_comm_assoc _ _ _)).trans (List.Perm.of_eq (by simp only [List.append_assoc, List.append_nil, List.nil_append])))
      refine zk_callI (wr := zb_r G (b 3) K) (va_runV (As := [.int (nI 4), .int (nI 1), .int (nI 9999)]) (rest := []) ⟨hx, hb, hml, hown, hts⟩ (c_X6_number l G b rf tn ac ((tRange ch tn 0 11 2 0 (po + 1)).2) ou htn ch 4 1 9999 (by decide) (by decide) (by decide) (by decide) (tRange_le htn (by omega)) _) (cwV 3 hts gX6_readCommand_X6_number rfl rfl rfl (by decide +kernel) ⟨Nat.le_of_ble_eq_true rfl, Nat.le_of_ble_eq_true rfl⟩) (zk_preV hE hA0 hS (zk_Papp hP0).1 (zk_Dapp hD0).1 (va_recv hK hP0 (ci := 5) (q0 := 0) rfl rfl)) rfl rfl hl.1 rfl (lv_room (Nat.le_of_ble_eq_true rfl)) dX6_readCommand_214 ⟨Nat.le_of_ble_eq_true rfl, Nat.le_of_ble_eq_true rfl⟩) hP0 hD0 hS hA (fun r103 u104 H locs q105 hP hD hS => ?_)
      obtain ⟨er103, eu104⟩ := q105
      subst eu104
      have hmr103 : ∀ v, (tRange ch tn 1 9999 4 0 ((tRange ch tn 0 11 2 0 (po + 1)).2)).1 = some v → v ≤ 9999 := fun v hv => tRange_in (by decide) hv
      have hP : va_P G.1 vwCl ((zb_6 G b rf (nI tn) ac (nI ((tRange ch tn 1 9999 4 0 ((tRange ch tn 0 11 2 0 (po + 1)).2)).2)) ou) ++ ((zb_a G (b 1) 120 ch) ++ zb_r G (b 3) K)) H := zk_Pperm hP (show ((zb_6 G b rf (nI tn) ac (nI ((tRange ch tn 1 9999 4 0 ((tRange ch tn 0 11 2 0 (po + 1)).2)).2)) ou) ++ ((zb_a G (b 1) 120 ch) ++ zb_r G (b 3) K)).Perm ((zb_6 G b rf (nI tn) ac (nI ((tRange ch tn 1 9999 4 0 ((tRange ch tn 0 11 2 0 (po + 1)).2)).2)) ou ++ zb_a G (b 1) 120 ch) ++ (zb_r G (b 3) K)) from (show ((zb_6 G b rf (nI tn) ac (nI ((tRange ch tn 1 9999 4 0 ((tRange ch tn 0 11 2 0 (po + 1)).2)).2)) ou) ++ ((zb_a G (b 1) 120 ch) ++ zb_r G (b 3) K)).Perm ((zb_6 G b rf (nI tn) ac (nI ((tRange ch tn 1 9999 4 0 ((tRange ch tn 0 11 2 0 (po + 1)).2)).2)) ou) ++ ((zb_a G (b 1) 120 ch) ++ zb_r G (b 3) K)) from ((List.perm_append_comm_assoc _ _ _)).trans (List.perm_append_comm_assoc _ _ _)).trans (List.Perm.of_eq (by simp only [List.append_assoc, List.append_nil, List.nil_append]))).symm
      have hD : va_D A ((zb_6 G b rf (nI tn) ac (nI ((tRange ch tn 1 9999 4 0 ((tRange ch tn 0 11 2 0 (po + 1)).2)).2)) ou) ++ ((zb_a G (b 1) 120 ch) ++ zb_r G (b 3) K)) := zk_Dperm hD (show ((zb_6 G b rf (nI tn) ac (nI ((tRange ch tn 1 9999 4 0 ((tRange ch tn 0 11 2 0 (po + 1)).2)).2)) ou) ++ ((zb_a G (b 1) 120 ch) ++ zb_r G (b 3) K)).Perm ((zb_6 G b rf (nI tn) ac (nI ((tRange ch tn 1 9999 4 0 ((tRange ch tn 0 11 2 0 (po + 1)).2)).2)) ou ++ zb_a G (b 1) 120 ch) ++ (zb_r G (b 3) K)) from (show ((zb_6 G b rf (nI tn) ac (nI ((tRange ch tn 1 9999 4 0 ((tRange ch tn 0 11 2 0 (po + 1)).2)).2)) ou) ++ ((zb_a G (b 1) 120 ch) ++ zb_r G (b 3) K)).Perm ((zb_6 G b rf (nI tn) ac (nI ((tRange ch tn 1 9999 4 0 ((tRange ch tn 0 11 2 0 (po + 1)).2)).2)) ou) ++ ((zb_a G (b 1) 120 ch) ++ zb_r G (b 3) K)) from ((List.perm_append_comm_assoc _ _ _)).trans (List.perm_append_comm_assoc _ _ _)).trans (List.Perm.of_eq (by simp only [List.append_assoc, List.append_nil, List.nil_append]))).symm
      refine lv_istore (lv' := [(4, .int r103), (3, .int (nI a0)), (5, .int (nI 0)), (2, .int (ch po)), (0, .ref (b 0)), (1, .ref (b 3))]) hx hb dX6_readCommand_217 hl (by decide) rfl (fun ls hl => ?_)
      refine lv_goto (tgt := 308) hx hb dX6_readCommand_219 (by decide) ?_
      refine lv_iload_n hx hb dX6_readCommand_308 rfl (lv_at hl 1 rfl) ?_
      refine lv_iconst (v := -1) hx hb dX6_readCommand_309 (by decide) ?_
      refine lv_icmp_eq (tgt := 325) hx hb dX6_readCommand_310 (by decide) (fun h310_105 => ?_) (fun h310_105 => ?_)
      · exact absurd h310_105 (zk_m1n (by omega))
      · refine lv_iload hx hb dX6_readCommand_313 (lv_at hl 0 rfl) ?_
        refine lv_iconst (v := -1) hx hb dX6_readCommand_315 (by decide) ?_
        refine lv_icmp_eq (tgt := 325) hx hb dX6_readCommand_316 (by decide) (fun h316_106 => ?_) (fun h316_106 => ?_)
        · refine lv_iconst (v := nI 0) hx hb dX6_readCommand_325 (by decide) ?_
          exact zk_retz ((tRange ch tn 1 9999 4 0 ((tRange ch tn 0 11 2 0 (po + 1)).2)).2, K, ou) hQ hx hb hr hlocks hS hP hD (Nat.le_of_ble_eq_true rfl) (Nat.le_of_ble_eq_true rfl) dX6_readCommand_326 (rfl) (by rw [kTS_none hlt (show tCmd ch tn po = (none, (tRange ch tn 1 9999 4 0 ((tRange ch tn 0 11 2 0 (po + 1)).2)).2) from (tCmd_112 hlt h1_112).trans (t2_sn ha0 (sOpt_2 (by decide) hmr103 (er103.symm.trans h316_106))))]; exact ⟨rfl, rfl, hI, rfl⟩)
        · refine lv_iload hx hb dX6_readCommand_319 (lv_at hl 2 rfl) ?_
          refine lv_iconst (v := -1) hx hb dX6_readCommand_321 (by decide) ?_
          refine lv_icmp_ne (tgt := 327) hx hb dX6_readCommand_322 (by decide) (fun _ => ?_) (fun z => absurd z (by decide))
          obtain ⟨a1, ha1, hb1, he1⟩ := sOpt_1 (by decide) hmr103 (fun z => h316_106 (er103.trans z))
          have hv1 := er103.trans he1
          have hl : lv_has ls 6 [(4, .int (nI a1)), (3, .int (nI a0)), (5, .int (nI 0)), (2, .int (ch po)), (0, .ref (b 0)), (1, .ref (b 3))] := by rw [hv1] at hl; exact hl
          have hC : tCmd ch tn po = (some [a0, a1], (tRange ch tn 1 9999 4 0 ((tRange ch tn 0 11 2 0 (po + 1)).2)).2) := (tCmd_112 hlt h1_112).trans (t2_ss ha0 ha1)
          refine lv_aload_n hx hb dX6_readCommand_327 rfl (lv_at hl 4 rfl) ?_
          refine lv_dup hx hb dX6_readCommand_328 rfl ?_
          refine va_get (D := G.1) (ci := 5) (v := .int ou) (C := RX6) (T := TX6) (N := 11) hx hb hts (fun _ h => List.mem_cons_of_mem _ (List.mem_append_right _ h)) hown hK hP 0 rfl rfl 10 (by decide) w3 (fun _ h9 => h9) rfl dX6_readCommand_329 ?_
          refine lv_aload_n hx hb dX6_readCommand_332 rfl (lv_at hl 5 rfl) ?_
          refine lv_iload_n hx hb dX6_readCommand_333 rfl (lv_at hl 3 rfl) ?_
          refine lv_iload_n hx hb dX6_readCommand_334 rfl (lv_at hl 1 rfl) ?_
          refine lv_iload hx hb dX6_readCommand_335 (lv_at hl 0 rfl) ?_
          refine lv_iload hx hb dX6_readCommand_337 (lv_at hl 2 rfl) ?_
          have hdk : kDok (ch po) (nI a0) := (by rw [h1_112]; exact kDok_p _)
          have hP0 : va_P G.1 vwCl ((zb_r G (b 3) K) ++ ((zb_6 G b rf (nI tn) ac (nI ((tRange ch tn 1 9999 4 0 ((tRange ch tn 0 11 2 0 (po + 1)).2)).2)) ou) ++ zb_a G (b 1) 120 ch)) H := zk_Pperm hP (show ((zb_6 G b rf (nI tn) ac (nI ((tRange ch tn 1 9999 4 0 ((tRange ch tn 0 11 2 0 (po + 1)).2)).2)) ou) ++ ((zb_a G (b 1) 120 ch) ++ zb_r G (b 3) K)).Perm ((zb_r G (b 3) K) ++ ((zb_6 G b rf (nI tn) ac (nI ((tRange ch tn 1 9999 4 0 ((tRange ch tn 0 11 2 0 (po + 1)).2)).2)) ou) ++ zb_a G (b 1) 120 ch)) from (show ((zb_6 G b rf (nI tn) ac (nI ((tRange ch tn 1 9999 4 0 ((tRange ch tn 0 11 2 0 (po + 1)).2)).2)) ou) ++ ((zb_a G (b 1) 120 ch) ++ zb_r G (b 3) K)).Perm ((zb_r G (b 3) K) ++ ((zb_6 G b rf (nI tn) ac (nI ((tRange ch tn 1 9999 4 0 ((tRange ch tn 0 11 2 0 (po + 1)).2)).2)) ou) ++ zb_a G (b 1) 120 ch)) from ((List.Perm.append_left _ List.perm_append_comm).trans (List.perm_append_comm_assoc _ _ _))).trans (List.Perm.of_eq (by simp only [List.append_assoc, List.append_nil, List.nil_append])))
          have hD0 : va_D A ((zb_r G (b 3) K) ++ ((zb_6 G b rf (nI tn) ac (nI ((tRange ch tn 1 9999 4 0 ((tRange ch tn 0 11 2 0 (po + 1)).2)).2)) ou) ++ zb_a G (b 1) 120 ch)) := zk_Dperm hD (show ((zb_6 G b rf (nI tn) ac (nI ((tRange ch tn 1 9999 4 0 ((tRange ch tn 0 11 2 0 (po + 1)).2)).2)) ou) ++ ((zb_a G (b 1) 120 ch) ++ zb_r G (b 3) K)).Perm ((zb_r G (b 3) K) ++ ((zb_6 G b rf (nI tn) ac (nI ((tRange ch tn 1 9999 4 0 ((tRange ch tn 0 11 2 0 (po + 1)).2)).2)) ou) ++ zb_a G (b 1) 120 ch)) from (show ((zb_6 G b rf (nI tn) ac (nI ((tRange ch tn 1 9999 4 0 ((tRange ch tn 0 11 2 0 (po + 1)).2)).2)) ou) ++ ((zb_a G (b 1) 120 ch) ++ zb_r G (b 3) K)).Perm ((zb_r G (b 3) K) ++ ((zb_6 G b rf (nI tn) ac (nI ((tRange ch tn 1 9999 4 0 ((tRange ch tn 0 11 2 0 (po + 1)).2)).2)) ou) ++ zb_a G (b 1) 120 ch)) from ((List.Perm.append_left _ List.perm_append_comm).trans (List.perm_append_comm_assoc _ _ _))).trans (List.Perm.of_eq (by simp only [List.append_assoc, List.append_nil, List.nil_append])))
          refine zk_callI (wr := (zb_6 G b rf (nI tn) ac (nI ((tRange ch tn 1 9999 4 0 ((tRange ch tn 0 11 2 0 (po + 1)).2)).2)) ou) ++ zb_a G (b 1) 120 ch) (va_runS (As := [.ref (b 3), .int (ch po), .int (nI a0), .int (nI a1), .int (nI 0)]) (rest := [.int ou, .ref (b 0)]) ⟨hx, hb, hml, hown, hts⟩ (c_X6_does l G (b 3) K (zN K) (zT K) hI (ch po) (nI a0) (nI a1) (nI 0) hdk hp0 _) (cwS 5 hts gX6_readCommand_X6_does rfl rfl rfl (by decide +kernel) ⟨Nat.le_of_ble_eq_true rfl, Nat.le_of_ble_eq_true rfl⟩) (zk_preS hE hA0 hS (zk_Papp hP0).1 (zk_Dapp hD0).1) rfl rfl hl.1 rfl (lv_room (Nat.le_of_ble_eq_true rfl)) dX6_readCommand_339 ⟨Nat.le_of_ble_eq_true rfl, Nat.le_of_ble_eq_true rfl⟩) hP0 hD0 hS hA (fun r108 u109 H locs q110 hP hD hS => ?_)
          obtain ⟨er108, eL111⟩ := q110
          have hP : va_P G.1 vwCl ((zb_6 G b rf (nI tn) ac (nI ((tRange ch tn 1 9999 4 0 ((tRange ch tn 0 11 2 0 (po + 1)).2)).2)) ou) ++ ((zb_a G (b 1) 120 ch) ++ zb_r G (b 3) u109)) H := zk_Pperm hP (show ((zb_6 G b rf (nI tn) ac (nI ((tRange ch tn 1 9999 4 0 ((tRange ch tn 0 11 2 0 (po + 1)).2)).2)) ou) ++ ((zb_a G (b 1) 120 ch) ++ zb_r G (b 3) u109)).Perm ((zb_r G (b 3) u109) ++ ((zb_6 G b rf (nI tn) ac (nI ((tRange ch tn 1 9999 4 0 ((tRange ch tn 0 11 2 0 (po + 1)).2)).2)) ou) ++ zb_a G (b 1) 120 ch)) from (show ((zb_6 G b rf (nI tn) ac (nI ((tRange ch tn 1 9999 4 0 ((tRange ch tn 0 11 2 0 (po + 1)).2)).2)) ou) ++ ((zb_a G (b 1) 120 ch) ++ zb_r G (b 3) u109)).Perm ((zb_r G (b 3) u109) ++ ((zb_6 G b rf (nI tn) ac (nI ((tRange ch tn 1 9999 4 0 ((tRange ch tn 0 11 2 0 (po + 1)).2)).2)) ou) ++ zb_a G (b 1) 120 ch)) from ((List.Perm.append_left _ List.perm_append_comm).trans (List.perm_append_comm_assoc _ _ _))).trans (List.Perm.of_eq (by simp only [List.append_assoc, List.append_nil, List.nil_append]))).symm
          have hD : va_D A ((zb_6 G b rf (nI tn) ac (nI ((tRange ch tn 1 9999 4 0 ((tRange ch tn 0 11 2 0 (po + 1)).2)).2)) ou) ++ ((zb_a G (b 1) 120 ch) ++ zb_r G (b 3) u109)) := zk_Dperm hD (show ((zb_6 G b rf (nI tn) ac (nI ((tRange ch tn 1 9999 4 0 ((tRange ch tn 0 11 2 0 (po + 1)).2)).2)) ou) ++ ((zb_a G (b 1) 120 ch) ++ zb_r G (b 3) u109)).Perm ((zb_r G (b 3) u109) ++ ((zb_6 G b rf (nI tn) ac (nI ((tRange ch tn 1 9999 4 0 ((tRange ch tn 0 11 2 0 (po + 1)).2)).2)) ou) ++ zb_a G (b 1) 120 ch)) from (show ((zb_6 G b rf (nI tn) ac (nI ((tRange ch tn 1 9999 4 0 ((tRange ch tn 0 11 2 0 (po + 1)).2)).2)) ou) ++ ((zb_a G (b 1) 120 ch) ++ zb_r G (b 3) u109)).Perm ((zb_r G (b 3) u109) ++ ((zb_6 G b rf (nI tn) ac (nI ((tRange ch tn 1 9999 4 0 ((tRange ch tn 0 11 2 0 (po + 1)).2)).2)) ou) ++ zb_a G (b 1) 120 ch)) from ((List.Perm.append_left _ List.perm_append_comm).trans (List.perm_append_comm_assoc _ _ _))).trans (List.Perm.of_eq (by simp only [List.append_assoc, List.append_nil, List.nil_append]))).symm
          refine lv_if_eq (tgt := 349) hx hb dX6_readCommand_342 (by decide) (fun h342_111 => ?_) (fun h342_111 => ?_)
          · refine lv_iconst (v := nI 1) hx hb dX6_readCommand_349 (by decide) ?_
            refine lv_iadd hx hb dX6_readCommand_350 ?_
            refine lv_topi (fun x113 ex113 => ?_)
            refine va_put (D := G.1) (ci := 5) (v := .int x113) (ty := .int) (C := RX6) (T := TX6) (N := 11) hx hb hts (fun _ h => List.mem_cons_of_mem _ (List.mem_append_right _ h)) tyX6 tyX6_ok nmX6 hown hK hP hD hS 0 rfl rfl 10 (by decide) w3 (fun _ h9 => h9) rfl (by decide +kernel) rfl rfl (Nat.le_of_ble_eq_true rfl) dX6_readCommand_351 (fun H locs hP hD hS => ?_)
            have hP : va_P G.1 vwCl ((zb_6 G b rf (nI tn) ac (nI ((tRange ch tn 1 9999 4 0 ((tRange ch tn 0 11 2 0 (po + 1)).2)).2)) x113) ++ ((zb_a G (b 1) 120 ch) ++ zb_r G (b 3) u109)) H := hP
            have hD : va_D A ((zb_6 G b rf (nI tn) ac (nI ((tRange ch tn 1 9999 4 0 ((tRange ch tn 0 11 2 0 (po + 1)).2)).2)) x113) ++ ((zb_a G (b 1) 120 ch) ++ zb_r G (b 3) u109)) := hD
            refine lv_iconst (v := nI 1) hx hb dX6_readCommand_354 (by decide) ?_
            exact zk_retz ((tRange ch tn 1 9999 4 0 ((tRange ch tn 0 11 2 0 (po + 1)).2)).2, u109, x113) hQ hx hb hr hlocks hS hP hD (Nat.le_of_ble_eq_true rfl) (Nat.le_of_ble_eq_true rfl) dX6_readCommand_355 (rfl) (by rw [kTS_some hlt hC]; exact ⟨rfl, Prod.ext rfl (Prod.ext eL111 (by show x113 = _; rw [ex113]; exact congrArg (ou + ·) (if_pos (er108.symm.trans h342_111)).symm)), by rw [eL111]; exact kDoes_inv hI hdk, by rw [eL111]; exact kDoes_r0⟩)
          · refine lv_iconst (v := nI 0) hx hb dX6_readCommand_345 (by decide) ?_
            refine lv_goto (tgt := 350) hx hb dX6_readCommand_346 (by decide) ?_
            refine lv_iadd hx hb dX6_readCommand_350 ?_
            refine lv_topi (fun x114 ex114 => ?_)
            refine va_put (D := G.1) (ci := 5) (v := .int x114) (ty := .int) (C := RX6) (T := TX6) (N := 11) hx hb hts (fun _ h => List.mem_cons_of_mem _ (List.mem_append_right _ h)) tyX6 tyX6_ok nmX6 hown hK hP hD hS 0 rfl rfl 10 (by decide) w3 (fun _ h9 => h9) rfl (by decide +kernel) rfl rfl (Nat.le_of_ble_eq_true rfl) dX6_readCommand_351 (fun H locs hP hD hS => ?_)
            have hP : va_P G.1 vwCl ((zb_6 G b rf (nI tn) ac (nI ((tRange ch tn 1 9999 4 0 ((tRange ch tn 0 11 2 0 (po + 1)).2)).2)) x114) ++ ((zb_a G (b 1) 120 ch) ++ zb_r G (b 3) u109)) H := hP
            have hD : va_D A ((zb_6 G b rf (nI tn) ac (nI ((tRange ch tn 1 9999 4 0 ((tRange ch tn 0 11 2 0 (po + 1)).2)).2)) x114) ++ ((zb_a G (b 1) 120 ch) ++ zb_r G (b 3) u109)) := hD
            refine lv_iconst (v := nI 1) hx hb dX6_readCommand_354 (by decide) ?_
            exact zk_retz ((tRange ch tn 1 9999 4 0 ((tRange ch tn 0 11 2 0 (po + 1)).2)).2, u109, x114) hQ hx hb hr hlocks hS hP hD (Nat.le_of_ble_eq_true rfl) (Nat.le_of_ble_eq_true rfl) dX6_readCommand_355 (rfl) (by rw [kTS_some hlt hC]; exact ⟨rfl, Prod.ext rfl (Prod.ext eL111 (by show x114 = _; rw [ex114]; exact congrArg (ou + ·) (if_neg (fun z => h342_111 (er108.trans z))).symm)), by rw [eL111]; exact kDoes_inv hI hdk, by rw [eL111]; exact kDoes_r0⟩)
    · refine lv_iconst (v := -1) hx hb dX6_readCommand_204 (by decide) ?_
      refine lv_goto (tgt := 217) hx hb dX6_readCommand_205 (by decide) ?_
      refine lv_istore (lv' := [(4, .int (-1)), (3, .int r99), (5, .int (nI 0)), (2, .int (ch po)), (0, .ref (b 0)), (1, .ref (b 3))]) hx hb dX6_readCommand_217 hl (by decide) rfl (fun ls hl => ?_)
      refine lv_goto (tgt := 308) hx hb dX6_readCommand_219 (by decide) ?_
      refine lv_iload_n hx hb dX6_readCommand_308 rfl (lv_at hl 1 rfl) ?_
      refine lv_iconst (v := -1) hx hb dX6_readCommand_309 (by decide) ?_
      refine lv_icmp_eq (tgt := 325) hx hb dX6_readCommand_310 (by decide) (fun h310_114 => ?_) (fun h310_114 => ?_)
      · refine lv_iconst (v := nI 0) hx hb dX6_readCommand_325 (by decide) ?_
        exact zk_retz ((tRange ch tn 0 11 2 0 (po + 1)).2, K, ou) hQ hx hb hr hlocks hS hP hD (Nat.le_of_ble_eq_true rfl) (Nat.le_of_ble_eq_true rfl) dX6_readCommand_326 (rfl) (by rw [kTS_none hlt (show tCmd ch tn po = (none, (tRange ch tn 0 11 2 0 (po + 1)).2) from (tCmd_112 hlt h1_112).trans (t2_n (sOpt_2 (by decide) hmr99 (er99.symm.trans h201_101))))]; exact ⟨rfl, rfl, hI, rfl⟩)
      · exact absurd h201_101 h310_114
  refine lv_tableOut (tgt := 296) hx hb dX6_readCommand_29 (zk_out (99) 14 (fun k hk z => by
        rcases (show k = 0 ∨ k = 1 ∨ k = 2 ∨ k = 3 ∨ k = 4 ∨ k = 5 ∨ k = 6 ∨ k = 7 ∨ k = 8 ∨ k = 9 ∨ k = 10 ∨ k = 11 ∨ k = 12 ∨ k = 13 by omega) with rfl | rfl | rfl | rfl | rfl | rfl | rfl | rfl | rfl | rfl | rfl | rfl | rfl | rfl
        · exact h1_n99 (zk_toI z (by decide))
        · exact h1_n100 (zk_toI z (by decide))
        · exact h1_n101 (zk_toI z (by decide))
        · exact h1_n102 (zk_toI z (by decide))
        · exact h1_n103 (zk_toI z (by decide))
        · exact h1_n104 (zk_toI z (by decide))
        · exact h1_n105 (zk_toI z (by decide))
        · exact h1_n106 (zk_toI z (by decide))
        · exact h1_n107 (zk_toI z (by decide))
        · exact h1_n108 (zk_toI z (by decide))
        · exact h1_n109 (zk_toI z (by decide))
        · exact h1_n110 (zk_toI z (by decide))
        · exact h1_n111 (zk_toI z (by decide))
        · exact h1_n112 (zk_toI z (by decide)))) (by decide) ?_
  refine lv_aload_n hx hb dX6_readCommand_296 rfl (lv_at hl 4 rfl) ?_
  refine lv_dup hx hb dX6_readCommand_297 rfl ?_
  refine va_get (D := G.1) (ci := 5) (v := .int (nI (po + 1))) (C := RX6) (T := TX6) (N := 11) hx hb hts (fun _ h => List.mem_cons_of_mem _ (List.mem_append_right _ h)) hown hK hP 0 rfl rfl 9 (by decide) w2 (fun _ h9 => h9) rfl dX6_readCommand_298 ?_
  refine lv_iconst (v := nI 1) hx hb dX6_readCommand_301 (by decide) ?_
  refine zk_isubN hx hb dX6_readCommand_302 (by omega) ?_
  refine va_put (D := G.1) (ci := 5) (v := .int (nI ((po + 1) - 1))) (ty := .int) (C := RX6) (T := TX6) (N := 11) hx hb hts (fun _ h => List.mem_cons_of_mem _ (List.mem_append_right _ h)) tyX6 tyX6_ok nmX6 hown hK hP hD hS 0 rfl rfl 9 (by decide) w2 (fun _ h9 => h9) rfl (by decide +kernel) rfl rfl (Nat.le_of_ble_eq_true rfl) dX6_readCommand_303 (fun H locs hP hD hS => ?_)
  have hP : va_P G.1 vwCl ((zb_6 G b rf (nI tn) ac (nI ((po + 1) - 1)) ou) ++ ((zb_a G (b 1) 120 ch) ++ zb_r G (b 3) K)) H := hP
  have hD : va_D A ((zb_6 G b rf (nI tn) ac (nI ((po + 1) - 1)) ou) ++ ((zb_a G (b 1) 120 ch) ++ zb_r G (b 3) K)) := hD
  refine lv_iconst (v := nI 0) hx hb dX6_readCommand_306 (by decide) ?_
  exact zk_retz ((po + 1) - 1, K, ou) hQ hx hb hr hlocks hS hP hD (Nat.le_of_ble_eq_true rfl) (Nat.le_of_ble_eq_true rfl) dX6_readCommand_307 (rfl) (by rw [kTS_none hlt (show tCmd ch tn po = (none, (po + 1) - 1) from tCmd_no hlt h1_n99 h1_n109 h1_n111 h1_n112 h1_n101 h1_n104 h1_n100)]; exact ⟨rfl, rfl, hI, rfl⟩)

abbrev rmX6_readText : Room := { frames := 6, cells := 0, slots := 0, locals := 145 }
set_option maxHeartbeats 4000000 in
set_option maxRecDepth 100000 in
/-- the text is read and done -/
theorem c_X6_readText (l : Launch) (G : zk_G) (b : Nat → Nat) (rf : Int32) (tn : Nat) (ac : Int32) (sp : Int32) (ou : Int32) (htn : tn ≤ 120) (ch : Nat → Int32) (Z : zL) : zk_I (S := Nat × zL × Int32) l yX6_readText wsX6_readText rmX6_readText G [.ref (b 0), .ref (b 3)] ((zb_6 G b rf (nI tn) ac sp ou) ++ ((zb_a G (b 1) 120 ch) ++ zb_r G (b 3) Z)) (fun r u => r = (if (kText ch tn).1 = true then -1 else nI (kText ch tn).2.1) ∧ u = (kText ch tn).2) (fun u => zb_6 G b rf (nI tn) ac (nI u.1) u.2.2 ++ (zb_a G (b 1) 120 ch ++ zb_r G (b 3) u.2.1)) := by
  refine zk_bodyI (cc := cX6_readText) (maxL := 2) (ret := (some .int)) (by decide) rfl (Nat.le_of_ble_eq_true rfl) ?_
  intro p E0 s m args below meth cd A ls Q hF hQ
  obtain ⟨hx, hb, hml, hr, hts, hown, hlocks, -, hE, hP, hD, hS, hA, hA0, hl⟩ := hF
  have hK := hE.1
  have hl : lv_has ls 2 [(0, .ref (b 0)), (1, .ref (b 3))] := hl
  have w1 := hts _ (List.mem_of_getElem? (l := wsX6_readText) (i := 1) (a := Cond.fieldLink RX6 129 "MealAccountsModel" "out" "I") rfl)
  have w2 := hts _ (List.mem_of_getElem? (l := wsX6_readText) (i := 2) (a := Cond.fieldLink RX6 95 "MealAccountsModel" "spot" "I") rfl)
  have w3 := hts _ (List.mem_of_getElem? (l := wsX6_readText) (i := 3) (a := Cond.fieldLink RX6 89 "MealAccountsModel" "size" "I") rfl)
  have w4 := hts _ (List.mem_of_getElem? (l := wsX6_readText) (i := 4) (a := Cond.fieldLink RX6 7 "MealAccountsModel" "text" "[I") rfl)
  refine lv_aload_n hx hb dX6_readText_0 rfl (lv_at hl 1 rfl) ?_
  have hP0 : va_P G.1 vwCl ((zb_r G (b 3) Z) ++ ((zb_6 G b rf (nI tn) ac sp ou) ++ zb_a G (b 1) 120 ch)) s.heap := zk_Pperm hP (show ((zb_6 G b rf (nI tn) ac sp ou) ++ ((zb_a G (b 1) 120 ch) ++ zb_r G (b 3) Z)).Perm ((zb_r G (b 3) Z) ++ ((zb_6 G b rf (nI tn) ac sp ou) ++ zb_a G (b 1) 120 ch)) from (show ((zb_6 G b rf (nI tn) ac sp ou) ++ ((zb_a G (b 1) 120 ch) ++ zb_r G (b 3) Z)).Perm ((zb_r G (b 3) Z) ++ ((zb_6 G b rf (nI tn) ac sp ou) ++ zb_a G (b 1) 120 ch)) from ((List.Perm.append_left _ List.perm_append_comm).trans (List.perm_append_comm_assoc _ _ _))).trans (List.Perm.of_eq (by simp only [List.append_assoc, List.append_nil, List.nil_append])))
  have hD0 : va_D A ((zb_r G (b 3) Z) ++ ((zb_6 G b rf (nI tn) ac sp ou) ++ zb_a G (b 1) 120 ch)) := zk_Dperm hD (show ((zb_6 G b rf (nI tn) ac sp ou) ++ ((zb_a G (b 1) 120 ch) ++ zb_r G (b 3) Z)).Perm ((zb_r G (b 3) Z) ++ ((zb_6 G b rf (nI tn) ac sp ou) ++ zb_a G (b 1) 120 ch)) from (show ((zb_6 G b rf (nI tn) ac sp ou) ++ ((zb_a G (b 1) 120 ch) ++ zb_r G (b 3) Z)).Perm ((zb_r G (b 3) Z) ++ ((zb_6 G b rf (nI tn) ac sp ou) ++ zb_a G (b 1) 120 ch)) from ((List.Perm.append_left _ List.perm_append_comm).trans (List.perm_append_comm_assoc _ _ _))).trans (List.Perm.of_eq (by simp only [List.append_assoc, List.append_nil, List.nil_append])))
  refine zk_callV (wr := (zb_6 G b rf (nI tn) ac sp ou) ++ zb_a G (b 1) 120 ch) (va_runS (As := [.ref (b 3)]) (rest := []) ⟨hx, hb, hml, hown, hts⟩ (c_X6_begin l G (b 3) (zrow Z) _) (cwS 1 hts gX6_readText_X6_begin rfl rfl rfl (by decide +kernel) ⟨Nat.le_of_ble_eq_true rfl, Nat.le_of_ble_eq_true rfl⟩) (zk_preS hE hA0 hS (zk_Papp hP0).1 (zk_Dapp hD0).1) rfl rfl hl.1 rfl (lv_room (Nat.le_of_ble_eq_true rfl)) dX6_readText_1 ⟨Nat.le_of_ble_eq_true rfl, Nat.le_of_ble_eq_true rfl⟩) hP0 hD0 hS hA (fun u2 H locs q3 hP hD hS => ?_)
  have hP : va_P G.1 vwCl ((zb_6 G b rf (nI tn) ac sp ou) ++ ((zb_a G (b 1) 120 ch) ++ zb_r G (b 3) zL0)) H := zk_Pperm hP (show ((zb_6 G b rf (nI tn) ac sp ou) ++ ((zb_a G (b 1) 120 ch) ++ zb_r G (b 3) zL0)).Perm ((zb_r G (b 3) zL0) ++ ((zb_6 G b rf (nI tn) ac sp ou) ++ zb_a G (b 1) 120 ch)) from (show ((zb_6 G b rf (nI tn) ac sp ou) ++ ((zb_a G (b 1) 120 ch) ++ zb_r G (b 3) zL0)).Perm ((zb_r G (b 3) zL0) ++ ((zb_6 G b rf (nI tn) ac sp ou) ++ zb_a G (b 1) 120 ch)) from ((List.Perm.append_left _ List.perm_append_comm).trans (List.perm_append_comm_assoc _ _ _))).trans (List.Perm.of_eq (by simp only [List.append_assoc, List.append_nil, List.nil_append]))).symm
  have hD : va_D A ((zb_6 G b rf (nI tn) ac sp ou) ++ ((zb_a G (b 1) 120 ch) ++ zb_r G (b 3) zL0)) := zk_Dperm hD (show ((zb_6 G b rf (nI tn) ac sp ou) ++ ((zb_a G (b 1) 120 ch) ++ zb_r G (b 3) zL0)).Perm ((zb_r G (b 3) zL0) ++ ((zb_6 G b rf (nI tn) ac sp ou) ++ zb_a G (b 1) 120 ch)) from (show ((zb_6 G b rf (nI tn) ac sp ou) ++ ((zb_a G (b 1) 120 ch) ++ zb_r G (b 3) zL0)).Perm ((zb_r G (b 3) zL0) ++ ((zb_6 G b rf (nI tn) ac sp ou) ++ zb_a G (b 1) 120 ch)) from ((List.Perm.append_left _ List.perm_append_comm).trans (List.perm_append_comm_assoc _ _ _))).trans (List.Perm.of_eq (by simp only [List.append_assoc, List.append_nil, List.nil_append]))).symm
  refine lv_aload_n hx hb dX6_readText_4 rfl (lv_at hl 0 rfl) ?_
  refine lv_iconst (v := nI 0) hx hb dX6_readText_5 (by decide) ?_
  refine va_put (D := G.1) (ci := 5) (v := .int (nI 0)) (ty := .int) (C := RX6) (T := TX6) (N := 11) hx hb hts (fun _ h => List.mem_cons_of_mem _ (List.mem_append_right _ h)) tyX6 tyX6_ok nmX6 hown hK hP hD hS 0 rfl rfl 10 (by decide) w1 (fun _ h9 => h9) rfl (by decide +kernel) rfl rfl (Nat.le_of_ble_eq_true rfl) dX6_readText_6 (fun H locs hP hD hS => ?_)
  have hP : va_P G.1 vwCl ((zb_6 G b rf (nI tn) ac sp (nI 0)) ++ ((zb_a G (b 1) 120 ch) ++ zb_r G (b 3) zL0)) H := hP
  have hD : va_D A ((zb_6 G b rf (nI tn) ac sp (nI 0)) ++ ((zb_a G (b 1) 120 ch) ++ zb_r G (b 3) zL0)) := hD
  refine lv_aload_n hx hb dX6_readText_9 rfl (lv_at hl 0 rfl) ?_
  refine lv_iconst (v := nI 0) hx hb dX6_readText_10 (by decide) ?_
  refine va_put (D := G.1) (ci := 5) (v := .int (nI 0)) (ty := .int) (C := RX6) (T := TX6) (N := 11) hx hb hts (fun _ h => List.mem_cons_of_mem _ (List.mem_append_right _ h)) tyX6 tyX6_ok nmX6 hown hK hP hD hS 0 rfl rfl 9 (by decide) w2 (fun _ h9 => h9) rfl (by decide +kernel) rfl rfl (Nat.le_of_ble_eq_true rfl) dX6_readText_11 (fun H locs hP hD hS => ?_)
  have hP : va_P G.1 vwCl ((zb_6 G b rf (nI tn) ac (nI 0) (nI 0)) ++ ((zb_a G (b 1) 120 ch) ++ zb_r G (b 3) zL0)) H := hP
  have hD : va_D A ((zb_6 G b rf (nI tn) ac (nI 0) (nI 0)) ++ ((zb_a G (b 1) 120 ch) ++ zb_r G (b 3) zL0)) := hD
  refine lv_aload_n hx hb dX6_readText_14 rfl (lv_at hl 0 rfl) ?_
  refine va_get (D := G.1) (ci := 5) (v := .int (nI tn)) (C := RX6) (T := TX6) (N := 11) hx hb hts (fun _ h => List.mem_cons_of_mem _ (List.mem_append_right _ h)) hown hK hP 0 rfl rfl 2 (by decide) w3 (fun _ h9 => h9) rfl dX6_readText_15 ?_
  refine lv_if_eq (tgt := 32) hx hb dX6_readText_18 (by decide) (fun h18_3 => ?_) (fun h18_3 => ?_)
  · have h18_3 := zk_eq0 (by omega) h18_3
    refine lv_iconst (v := nI 0) hx hb dX6_readText_32 (by decide) ?_
    exact zk_reti (0, zL0, nI 0) hQ hx hb hr hlocks hS hP hD (Nat.le_of_ble_eq_true rfl) (Nat.le_of_ble_eq_true rfl) dX6_readText_33 (by rw [show kText ch tn = (false, 0, zL0, nI 0) from kText_stay (i := 0) (show (false, 0, zL0, nI 0) = kT0 ch tn from (if_pos (Or.inl (show tn = 0 by omega))).symm) (fun z => absurd z.1 Bool.false_ne_true) (by omega)]; exact ⟨rfl, rfl⟩)
  · have h18_3 := zk_ne0 (by omega) h18_3
    refine lv_aload_n hx hb dX6_readText_21 rfl (lv_at hl 0 rfl) ?_
    refine va_get (D := G.1) (ci := 5) (v := .ref (b 1)) (C := RX6) (T := TX6) (N := 11) hx hb hts (fun _ h => List.mem_cons_of_mem _ (List.mem_append_right _ h)) hown hK hP 0 rfl rfl 1 (by decide) w4 (fun _ h9 => h9) rfl dX6_readText_22 ?_
    refine lv_iconst (v := nI 0) hx hb dX6_readText_25 (by decide) ?_
    refine zk_ialdN hx hb hK hP 1 0 rfl rfl (k := 0) (n := 120) (by omega) (by omega) dX6_readText_26 ?_
    refine lv_bipush (v := nI 83) hx hb dX6_readText_27 (by decide) ?_
    refine lv_icmp_eq (tgt := 34) hx hb dX6_readText_29 (by decide) (fun h29_4 => ?_) (fun h29_4 => ?_)
    · refine lv_aload_n hx hb dX6_readText_34 rfl (lv_at hl 0 rfl) ?_
      refine lv_iconst (v := nI 1) hx hb dX6_readText_35 (by decide) ?_
      refine va_put (D := G.1) (ci := 5) (v := .int (nI 1)) (ty := .int) (C := RX6) (T := TX6) (N := 11) hx hb hts (fun _ h => List.mem_cons_of_mem _ (List.mem_append_right _ h)) tyX6 tyX6_ok nmX6 hown hK hP hD hS 0 rfl rfl 9 (by decide) w2 (fun _ h9 => h9) rfl (by decide +kernel) rfl rfl (Nat.le_of_ble_eq_true rfl) dX6_readText_36 (fun H locs hP hD hS => ?_)
      have hP : va_P G.1 vwCl ((zb_6 G b rf (nI tn) ac (nI 1) (nI 0)) ++ ((zb_a G (b 1) 120 ch) ++ zb_r G (b 3) zL0)) H := hP
      have hD : va_D A ((zb_6 G b rf (nI tn) ac (nI 1) (nI 0)) ++ ((zb_a G (b 1) 120 ch) ++ zb_r G (b 3) zL0)) := hD
      have lp6 : ∀ (n8 : Nat) (i : Nat) (pp : Nat) (X : zL) (o : Int32), 121 - pp < n8 → (i < pp) → (pp ≤ 120) → ((true, pp, X, o) = zfold (fun _ x => kTStep ch tn x) i (kT0 ch tn)) → (sInv X (zN X) (zT X)) → (X 0 2 = zL0 0 2) → ∀ (H : Heap) (locs : List Loc) (hP : va_P G.1 vwCl ((zb_6 G b rf (nI tn) ac (nI pp) o) ++ ((zb_a G (b 1) 120 ch) ++ zb_r G (b 3) X)) H) (hD : va_D A ((zb_6 G b rf (nI tn) ac (nI pp) o) ++ ((zb_a G (b 1) 120 ch) ++ zb_r G (b 3) X))) (hS : va_S A s.heap H locs) (ls : Array Slot), lv_has ls 2 [(0, .ref (b 0)), (1, .ref (b 3))] → W p l E0 rmX6_readText s m args below meth cd H locs 0 0 Q (F0 m 39 ls []) := by
        intro n8
        induction n8 with
        | zero => intro i pp X o hz; exact absurd hz (Nat.not_lt_zero _)
        | succ n8 ih7 =>
          intro i pp X o hm hip hpp hq hX hpX H locs hP hD hS ls hl
          refine lv_aload_n hx hb dX6_readText_39 rfl (lv_at hl 0 rfl) ?_
          refine va_get (D := G.1) (ci := 5) (v := .int (nI pp)) (C := RX6) (T := TX6) (N := 11) hx hb hts (fun _ h => List.mem_cons_of_mem _ (List.mem_append_right _ h)) hown hK hP 0 rfl rfl 9 (by decide) w2 (fun _ h9 => h9) rfl dX6_readText_40 ?_
          refine lv_aload_n hx hb dX6_readText_43 rfl (lv_at hl 0 rfl) ?_
          refine va_get (D := G.1) (ci := 5) (v := .int (nI tn)) (C := RX6) (T := TX6) (N := 11) hx hb hts (fun _ h => List.mem_cons_of_mem _ (List.mem_append_right _ h)) hown hK hP 0 rfl rfl 2 (by decide) w3 (fun _ h9 => h9) rfl dX6_readText_44 ?_
          refine lv_icmp_ge (tgt := 63) hx hb dX6_readText_47 (by decide) (fun h47_8 => ?_) (fun h47_8 => ?_)
          · have h47_8 := zk_le (by omega) (by omega) h47_8
            refine lv_iconst (v := -1) hx hb dX6_readText_63 (by decide) ?_
            exact zk_reti (pp, X, o) hQ hx hb hr hlocks hS hP hD (Nat.le_of_ble_eq_true rfl) (Nat.le_of_ble_eq_true rfl) dX6_readText_64 (by rw [show kText ch tn = (true, pp, X, o) from kText_stay hq (fun z => absurd (show pp < tn from z.2) (by omega)) (by omega)]; exact ⟨rfl, rfl⟩)
          · have h47_8 := zk_nle (by omega) (by omega) h47_8
            refine lv_aload_n hx hb dX6_readText_50 rfl (lv_at hl 0 rfl) ?_
            refine lv_aload_n hx hb dX6_readText_51 rfl (lv_at hl 1 rfl) ?_
            have hP0 : va_P G.1 vwCl ((zb_6 G b rf (nI tn) ac (nI pp) o ++ (zb_a G (b 1) 120 ch ++ zb_r G (b 3) X)) ++ (([] : va_W))) H := zk_Pperm hP (show ((zb_6 G b rf (nI tn) ac (nI pp) o) ++ ((zb_a G (b 1) 120 ch) ++ zb_r G (b 3) X)).Perm ((zb_6 G b rf (nI tn) ac (nI pp) o ++ (zb_a G (b 1) 120 ch ++ zb_r G (b 3) X)) ++ (([] : va_W))) from (show ((zb_6 G b rf (nI tn) ac (nI pp) o) ++ ((zb_a G (b 1) 120 ch) ++ zb_r G (b 3) X)).Perm ((zb_6 G b rf (nI tn) ac (nI pp) o) ++ ((zb_a G (b 1) 120 ch) ++ zb_r G (b 3) X)) from ((((List.Perm.append_left _ List.perm_append_comm).trans (List.perm_append_comm_assoc _ _ _))).trans ((List.Perm.append_left _ List.perm_append_comm).trans (List.perm_append_comm_assoc _ _ _))).trans ((List.Perm.append_left _ List.perm_append_comm).trans (List.perm_append_comm_assoc _ _ _))).trans (List.Perm.of_eq (by simp only [List.append_assoc, List.append_nil, List.nil_append])))
            have hD0 : va_D A ((zb_6 G b rf (nI tn) ac (nI pp) o ++ (zb_a G (b 1) 120 ch ++ zb_r G (b 3) X)) ++ (([] : va_W))) := zk_Dperm hD (show ((zb_6 G b rf (nI tn) ac (nI pp) o) ++ ((zb_a G (b 1) 120 ch) ++ zb_r G (b 3) X)).Perm ((zb_6 G b rf (nI tn) ac (nI pp) o ++ (zb_a G (b 1) 120 ch ++ zb_r G (b 3) X)) ++ (([] : va_W))) from (show ((zb_6 G b rf (nI tn) ac (nI pp) o) ++ ((zb_a G (b 1) 120 ch) ++ zb_r G (b 3) X)).Perm ((zb_6 G b rf (nI tn) ac (nI pp) o) ++ ((zb_a G (b 1) 120 ch) ++ zb_r G (b 3) X)) from ((((List.Perm.append_left _ List.perm_append_comm).trans (List.perm_append_comm_assoc _ _ _))).trans ((List.Perm.append_left _ List.perm_append_comm).trans (List.perm_append_comm_assoc _ _ _))).trans ((List.Perm.append_left _ List.perm_append_comm).trans (List.perm_append_comm_assoc _ _ _))).trans (List.Perm.of_eq (by simp only [List.append_assoc, List.append_nil, List.nil_append])))
            refine zk_callI (wr := ([] : va_W)) (va_runV (As := [.ref (b 3)]) (rest := []) ⟨hx, hb, hml, hown, hts⟩ (c_X6_readCommand l G b rf tn ac pp o htn ch (by omega) X hX (by rw [hpX]; decide) _) (cwV 1 hts gX6_readText_X6_readCommand rfl rfl rfl (by decide +kernel) ⟨Nat.le_of_ble_eq_true rfl, Nat.le_of_ble_eq_true rfl⟩) (zk_preV hE hA0 hS (zk_Papp hP0).1 (zk_Dapp hD0).1 (va_recv hK hP0 (ci := 5) (q0 := 0) rfl rfl)) rfl rfl hl.1 rfl (lv_room (Nat.le_of_ble_eq_true rfl)) dX6_readText_52 ⟨Nat.le_of_ble_eq_true rfl, Nat.le_of_ble_eq_true rfl⟩) hP0 hD0 hS hA (fun r10 u11 H locs q12 hP hD hS => ?_)
            obtain ⟨er10, eu11, hivu11, hpvu11⟩ := q12
            have hgtu11 := kTS_gt (ch := ch) (n := tn) (po := pp) (K := X) (o := o) (by omega)
            have hleu11 := kTS_le (ch := ch) (n := tn) (po := pp) (K := X) (o := o) htn (by omega)
            have hle2u11 : u11.1 ≤ 120 := by rw [eu11]; exact hleu11
            have hp13 : u11.2.1 0 2 = zL0 0 2 := hpvu11.trans hpX
            subst er10
            have hP : va_P G.1 vwCl ((zb_6 G b rf (nI tn) ac (nI u11.1) u11.2.2) ++ ((zb_a G (b 1) 120 ch) ++ zb_r G (b 3) u11.2.1)) H := zk_Pperm hP (show ((zb_6 G b rf (nI tn) ac (nI u11.1) u11.2.2) ++ ((zb_a G (b 1) 120 ch) ++ zb_r G (b 3) u11.2.1)).Perm ((zb_6 G b rf (nI tn) ac (nI u11.1) u11.2.2 ++ (zb_a G (b 1) 120 ch ++ zb_r G (b 3) u11.2.1)) ++ (([] : va_W))) from (show ((zb_6 G b rf (nI tn) ac (nI u11.1) u11.2.2) ++ ((zb_a G (b 1) 120 ch) ++ zb_r G (b 3) u11.2.1)).Perm ((zb_6 G b rf (nI tn) ac (nI u11.1) u11.2.2) ++ ((zb_a G (b 1) 120 ch) ++ zb_r G (b 3) u11.2.1)) from ((((List.Perm.append_left _ List.perm_append_comm).trans (List.perm_append_comm_assoc _ _ _))).trans ((List.Perm.append_left _ List.perm_append_comm).trans (List.perm_append_comm_assoc _ _ _))).trans ((List.Perm.append_left _ List.perm_append_comm).trans (List.perm_append_comm_assoc _ _ _))).trans (List.Perm.of_eq (by simp only [List.append_assoc, List.append_nil, List.nil_append]))).symm
            have hD : va_D A ((zb_6 G b rf (nI tn) ac (nI u11.1) u11.2.2) ++ ((zb_a G (b 1) 120 ch) ++ zb_r G (b 3) u11.2.1)) := zk_Dperm hD (show ((zb_6 G b rf (nI tn) ac (nI u11.1) u11.2.2) ++ ((zb_a G (b 1) 120 ch) ++ zb_r G (b 3) u11.2.1)).Perm ((zb_6 G b rf (nI tn) ac (nI u11.1) u11.2.2 ++ (zb_a G (b 1) 120 ch ++ zb_r G (b 3) u11.2.1)) ++ (([] : va_W))) from (show ((zb_6 G b rf (nI tn) ac (nI u11.1) u11.2.2) ++ ((zb_a G (b 1) 120 ch) ++ zb_r G (b 3) u11.2.1)).Perm ((zb_6 G b rf (nI tn) ac (nI u11.1) u11.2.2) ++ ((zb_a G (b 1) 120 ch) ++ zb_r G (b 3) u11.2.1)) from ((((List.Perm.append_left _ List.perm_append_comm).trans (List.perm_append_comm_assoc _ _ _))).trans ((List.Perm.append_left _ List.perm_append_comm).trans (List.perm_append_comm_assoc _ _ _))).trans ((List.Perm.append_left _ List.perm_append_comm).trans (List.perm_append_comm_assoc _ _ _))).trans (List.Perm.of_eq (by simp only [List.append_assoc, List.append_nil, List.nil_append]))).symm
            refine lv_if_ne (tgt := 39) hx hb dX6_readText_55 (by decide) (fun h55_13 => ?_) (fun h55_13 => ?_)
            · have h55_13 := zk_b1 h55_13
              exact ih7 (i + 1) u11.1 u11.2.1 u11.2.2 (by have h9 := hgtu11 h55_13; rw [← eu11] at h9; omega) (by have := hgtu11 h55_13; rw [← eu11] at this; omega) (hle2u11) (kT_step hq (Prod.ext h55_13.symm eu11)) (hivu11) (hp13) _ _ hP hD hS ls (lv_sub hl [0, 1] rfl)
            · have h55_13 := zk_b0 h55_13
              refine lv_aload_n hx hb dX6_readText_58 rfl (lv_at hl 0 rfl) ?_
              refine va_get (D := G.1) (ci := 5) (v := .int (nI u11.1)) (C := RX6) (T := TX6) (N := 11) hx hb hts (fun _ h => List.mem_cons_of_mem _ (List.mem_append_right _ h)) hown hK hP 0 rfl rfl 9 (by decide) w2 (fun _ h9 => h9) rfl dX6_readText_59 ?_
              exact zk_reti (u11.1, u11.2.1, u11.2.2) hQ hx hb hr hlocks hS hP hD (Nat.le_of_ble_eq_true rfl) (Nat.le_of_ble_eq_true rfl) dX6_readText_62 (by rw [show kText ch tn = (false, u11.1, u11.2.1, u11.2.2) from kText_stay (kT_step hq (Prod.ext (by show false = (kTStep ch tn (true, pp, X, o)).1; cases hz : (kTStep ch tn (true, pp, X, o)).1; rfl; exact absurd hz h55_13) eu11)) (fun z => absurd z.1 Bool.false_ne_true) (by omega)]; exact ⟨rfl, rfl⟩)
      exact lp6 _ 0 1 zL0 (nI 0) (Nat.lt_succ_self _) (by omega) (by decide) ((if_neg (fun z => z.elim (fun z => by omega) (fun z => z h29_4))).symm) (sInv_0) (rfl) _ _ hP hD hS ls (lv_sub hl [0, 1] rfl)
    · refine lv_iconst (v := nI 0) hx hb dX6_readText_32 (by decide) ?_
      exact zk_reti (0, zL0, nI 0) hQ hx hb hr hlocks hS hP hD (Nat.le_of_ble_eq_true rfl) (Nat.le_of_ble_eq_true rfl) dX6_readText_33 (by rw [show kText ch tn = (false, 0, zL0, nI 0) from kText_stay (i := 0) (show (false, 0, zL0, nI 0) = kT0 ch tn from (if_pos (Or.inr h29_4)).symm) (fun z => absurd z.1 Bool.false_ne_true) (by omega)]; exact ⟨rfl, rfl⟩)
