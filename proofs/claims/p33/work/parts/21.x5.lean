abbrev rmX5_requireFamily : Room := { frames := 6, cells := 1, slots := 6, locals := 82 }
set_option maxHeartbeats 4000000 in
set_option maxRecDepth 100000 in
/-- a family must be -/
theorem c_X5_requireFamily (l : Launch) (G : zk_G) (hst : l.stackTraces = false) (f : Int32) : zk_XV (S := Unit) l yX5_requireFamily wsX5_requireFamily rmX5_requireFamily G [.int f] ([]) (fun _ => sFam f) (fun _ => []) (fun E => E = "java/lang/IndexOutOfBoundsException" ∧ ¬ sFam f) := by
  refine zk_bodyXV (cc := cX5_requireFamily) (maxL := 1) (ret := none) (by decide) rfl (Nat.le_of_ble_eq_true rfl) ?_
  intro p E0 s m args below meth cd A ls Q hF hnx hQ
  obtain ⟨hx, hb, hml, hr, hts, hown, hlocks, -, hE, hP, hD, hS, hA, hA0, hl⟩ := hF
  have hK := hE.1
  have hl : lv_has ls 1 [(0, .int f)] := hl
  have w1 := hts _ (List.mem_of_getElem? (l := wsX5_requireFamily) (i := 1) (a := Cond.classLink RX5 330 "java/lang/IndexOutOfBoundsException") rfl)
  have w2 := hts _ (List.mem_of_getElem? (l := wsX5_requireFamily) (i := 2) (a := Cond.initialized "java/lang/IndexOutOfBoundsException") rfl)
  refine lv_iload_n hx hb dX5_requireFamily_0 rfl (lv_at hl 0 rfl) ?_
  have hP0 : va_P G.1 vwCl (([] : va_W) ++ (([] : va_W))) s.heap := hP
  have hD0 : va_D A (([] : va_W) ++ (([] : va_W))) := hD
  refine zk_callI (wr := ([] : va_W)) (va_runS (As := [.int f]) (rest := []) ⟨hx, hb, hml, hown, hts⟩ (c_X5_isFamily l G f _) (cwS 1 hts gX5_requireFamily_X5_isFamily rfl rfl rfl (by decide +kernel) ⟨Nat.le_of_ble_eq_true rfl, Nat.le_of_ble_eq_true rfl⟩) (zk_preS hE hA0 hS (zk_Papp hP0).1 (zk_Dapp hD0).1) rfl rfl hl.1 rfl (lv_room (Nat.le_of_ble_eq_true rfl)) dX5_requireFamily_1 ⟨Nat.le_of_ble_eq_true rfl, Nat.le_of_ble_eq_true rfl⟩) hP0 hD0 hS hA (fun r1 u2 H locs q3 hP hD hS => ?_)
  subst q3
  have hP : va_P G.1 vwCl (([] : va_W)) H := hP
  have hD : va_D A (([] : va_W)) := hD
  refine lv_if_ne (tgt := 18) hx hb dX5_requireFamily_4 (by decide) (fun h4_3 => ?_) (fun h4_3 => ?_)
  · have h4_3 := zk_b1 h4_3
    rw [hQ]
    refine vx_ret ?_
    exact zk_retv () rfl hx hb hr hlocks hS hP hD (Nat.le_of_ble_eq_true rfl) (Nat.le_of_ble_eq_true rfl) dX5_requireFamily_18 (h4_3)
  · have h4_3 := zk_b0 h4_3
    rw [hQ]
    exact vx_throwSW (cls := "java/lang/IndexOutOfBoundsException") (names := zk_up) hx hb hst hown (by decide +kernel) (by decide +kernel) w1 w2 (zk_R14 hE.2.2.1) (zk_hat (fun w hw => hts w (List.mem_cons_of_mem _ (List.mem_append_right _ hw))) hE.2.1.2.2.2.2.2.2.2 hE.2.1.2.2.2.2.2.2.2.2.2.2.1 (by decide +kernel)) (by decide +kernel) (hE.2.2.2.1.1.narrow hA0) (hE.2.2.2.1.2.1.narrow hA0) hS (hl.1.trans hml.symm) dX5_requireFamily_7 dX5_requireFamily_10 dX5_requireFamily_11 dX5_requireFamily_14 dX5_requireFamily_17 (fun x h => (hnx x h).elim) (Nat.le_of_ble_eq_true rfl) (Nat.le_of_ble_eq_true rfl) (Nat.le_of_ble_eq_true rfl) (Nat.le_of_ble_eq_true rfl) hlocks (fun t _ hz hk => zk_thx hP hD hS (List.Perm.refl _) (⟨rfl, h4_3⟩) hz hk) hS.2.2 (Nat.le_of_ble_eq_true rfl) (Nat.le_of_ble_eq_true rfl)

abbrev rmX5_requireDay : Room := { frames := 6, cells := 1, slots := 6, locals := 82 }
set_option maxHeartbeats 4000000 in
set_option maxRecDepth 100000 in
/-- a day must be -/
theorem c_X5_requireDay (l : Launch) (G : zk_G) (hst : l.stackTraces = false) (d : Int32) : zk_XV (S := Unit) l yX5_requireDay wsX5_requireDay rmX5_requireDay G [.int d] ([]) (fun _ => sDay d) (fun _ => []) (fun E => E = "java/lang/IndexOutOfBoundsException" ∧ ¬ sDay d) := by
  refine zk_bodyXV (cc := cX5_requireDay) (maxL := 1) (ret := none) (by decide) rfl (Nat.le_of_ble_eq_true rfl) ?_
  intro p E0 s m args below meth cd A ls Q hF hnx hQ
  obtain ⟨hx, hb, hml, hr, hts, hown, hlocks, -, hE, hP, hD, hS, hA, hA0, hl⟩ := hF
  have hK := hE.1
  have hl : lv_has ls 1 [(0, .int d)] := hl
  have w1 := hts _ (List.mem_of_getElem? (l := wsX5_requireDay) (i := 1) (a := Cond.classLink RX5 330 "java/lang/IndexOutOfBoundsException") rfl)
  have w2 := hts _ (List.mem_of_getElem? (l := wsX5_requireDay) (i := 2) (a := Cond.initialized "java/lang/IndexOutOfBoundsException") rfl)
  refine lv_iload_n hx hb dX5_requireDay_0 rfl (lv_at hl 0 rfl) ?_
  have hP0 : va_P G.1 vwCl (([] : va_W) ++ (([] : va_W))) s.heap := hP
  have hD0 : va_D A (([] : va_W) ++ (([] : va_W))) := hD
  refine zk_callI (wr := ([] : va_W)) (va_runS (As := [.int d]) (rest := []) ⟨hx, hb, hml, hown, hts⟩ (c_X5_isDay l G d _) (cwS 1 hts gX5_requireDay_X5_isDay rfl rfl rfl (by decide +kernel) ⟨Nat.le_of_ble_eq_true rfl, Nat.le_of_ble_eq_true rfl⟩) (zk_preS hE hA0 hS (zk_Papp hP0).1 (zk_Dapp hD0).1) rfl rfl hl.1 rfl (lv_room (Nat.le_of_ble_eq_true rfl)) dX5_requireDay_1 ⟨Nat.le_of_ble_eq_true rfl, Nat.le_of_ble_eq_true rfl⟩) hP0 hD0 hS hA (fun r1 u2 H locs q3 hP hD hS => ?_)
  subst q3
  have hP : va_P G.1 vwCl (([] : va_W)) H := hP
  have hD : va_D A (([] : va_W)) := hD
  refine lv_if_ne (tgt := 18) hx hb dX5_requireDay_4 (by decide) (fun h4_3 => ?_) (fun h4_3 => ?_)
  · have h4_3 := zk_b1 h4_3
    rw [hQ]
    refine vx_ret ?_
    exact zk_retv () rfl hx hb hr hlocks hS hP hD (Nat.le_of_ble_eq_true rfl) (Nat.le_of_ble_eq_true rfl) dX5_requireDay_18 (h4_3)
  · have h4_3 := zk_b0 h4_3
    rw [hQ]
    exact vx_throwSW (cls := "java/lang/IndexOutOfBoundsException") (names := zk_up) hx hb hst hown (by decide +kernel) (by decide +kernel) w1 w2 (zk_R16 hE.2.2.1) (zk_hat (fun w hw => hts w (List.mem_cons_of_mem _ (List.mem_append_right _ hw))) hE.2.1.2.2.2.2.2.2.2 hE.2.1.2.2.2.2.2.2.2.2.2.2.1 (by decide +kernel)) (by decide +kernel) (hE.2.2.2.1.1.narrow hA0) (hE.2.2.2.1.2.1.narrow hA0) hS (hl.1.trans hml.symm) dX5_requireDay_7 dX5_requireDay_10 dX5_requireDay_11 dX5_requireDay_14 dX5_requireDay_17 (fun x h => (hnx x h).elim) (Nat.le_of_ble_eq_true rfl) (Nat.le_of_ble_eq_true rfl) (Nat.le_of_ble_eq_true rfl) (Nat.le_of_ble_eq_true rfl) hlocks (fun t _ hz hk => zk_thx hP hD hS (List.Perm.refl _) (⟨rfl, h4_3⟩) hz hk) hS.2.2 (Nat.le_of_ble_eq_true rfl) (Nat.le_of_ble_eq_true rfl)

abbrev rmX5_requireFine : Room := { frames := 6, cells := 1, slots := 6, locals := 82 }
set_option maxHeartbeats 4000000 in
set_option maxRecDepth 100000 in
/-- nothing must speak against it -/
theorem c_X5_requireFine (l : Launch) (G : zk_G) (hst : l.stackTraces = false) (f : Int32) : zk_XV (S := Unit) l yX5_requireFine wsX5_requireFine rmX5_requireFine G [.int f] ([]) (fun _ => ¬ f = nI 1 ∧ ¬ f = nI 2 ∧ ¬ f = nI 3) (fun _ => []) (fun E => (E = "java/lang/IndexOutOfBoundsException" ∧ f = nI 1) ∨ (E = "java/lang/IllegalArgumentException" ∧ f = nI 2) ∨ (E = "java/lang/IllegalStateException" ∧ f = nI 3)) := by
  refine zk_bodyXV (cc := cX5_requireFine) (maxL := 1) (ret := none) (by decide) rfl (Nat.le_of_ble_eq_true rfl) ?_
  intro p E0 s m args below meth cd A ls Q hF hnx hQ
  obtain ⟨hx, hb, hml, hr, hts, hown, hlocks, -, hE, hP, hD, hS, hA, hA0, hl⟩ := hF
  have hK := hE.1
  have hl : lv_has ls 1 [(0, .int f)] := hl
  have w1 := hts _ (List.mem_of_getElem? (l := wsX5_requireFine) (i := 1) (a := Cond.classLink RX5 330 "java/lang/IndexOutOfBoundsException") rfl)
  have w2 := hts _ (List.mem_of_getElem? (l := wsX5_requireFine) (i := 2) (a := Cond.initialized "java/lang/IndexOutOfBoundsException") rfl)
  have w3 := hts _ (List.mem_of_getElem? (l := wsX5_requireFine) (i := 3) (a := Cond.classLink RX5 41 "java/lang/IllegalArgumentException") rfl)
  have w4 := hts _ (List.mem_of_getElem? (l := wsX5_requireFine) (i := 4) (a := Cond.initialized "java/lang/IllegalArgumentException") rfl)
  have w5 := hts _ (List.mem_of_getElem? (l := wsX5_requireFine) (i := 5) (a := Cond.classLink RX5 52 "java/lang/IllegalStateException") rfl)
  have w6 := hts _ (List.mem_of_getElem? (l := wsX5_requireFine) (i := 6) (a := Cond.initialized "java/lang/IllegalStateException") rfl)
  refine lv_iload_n hx hb dX5_requireFine_0 rfl (lv_at hl 0 rfl) ?_
  rcases Decidable.em (f = nI 1) with h1_1 | h1_n1
  · refine lv_tableIn (tgt := 28) hx hb dX5_requireFine_1 (by rw [h1_1]; decide) (by rw [h1_1]; decide) (by rw [h1_1]; rfl) (by decide) ?_
    rw [hQ]
    exact vx_throwSW (cls := "java/lang/IndexOutOfBoundsException") (names := zk_up) hx hb hst hown (by decide +kernel) (by decide +kernel) w1 w2 (zk_R20 hE.2.2.1) (zk_hat (fun w hw => hts w (List.mem_cons_of_mem _ (List.mem_append_left _ (List.mem_append_left _ (List.mem_append_right _ hw))))) hE.2.1.2.2.2.2.2.2.2 hE.2.1.2.2.2.2.2.2.2.2.2.2.1 (by decide +kernel)) (by decide +kernel) (hE.2.2.2.1.1.narrow hA0) (hE.2.2.2.1.2.1.narrow hA0) hS (hl.1.trans hml.symm) dX5_requireFine_28 dX5_requireFine_31 dX5_requireFine_32 dX5_requireFine_35 dX5_requireFine_38 (fun x h => (hnx x h).elim) (Nat.le_of_ble_eq_true rfl) (Nat.le_of_ble_eq_true rfl) (Nat.le_of_ble_eq_true rfl) (Nat.le_of_ble_eq_true rfl) hlocks (fun t _ hz hk => zk_thx hP hD hS (List.Perm.refl _) (Or.inl ⟨rfl, h1_1⟩) hz hk) hS.2.2 (Nat.le_of_ble_eq_true rfl) (Nat.le_of_ble_eq_true rfl)
  rcases Decidable.em (f = nI 2) with h1_2 | h1_n2
  · refine lv_tableIn (tgt := 39) hx hb dX5_requireFine_1 (by rw [h1_2]; decide) (by rw [h1_2]; decide) (by rw [h1_2]; rfl) (by decide) ?_
    rw [hQ]
    exact vx_throwSW (cls := "java/lang/IllegalArgumentException") (names := zk_up) hx hb hst hown (by decide +kernel) (by decide +kernel) w3 w4 (zk_R21 hE.2.2.1) (zk_hat (fun w hw => hts w (List.mem_cons_of_mem _ (List.mem_append_left _ (List.mem_append_right _ hw)))) hE.2.1.2.2.2.2.2.2.2 hE.2.1.2.2.2.2.2.2.2.2.2.2.2.1 (by decide +kernel)) (by decide +kernel) (hE.2.2.2.1.1.narrow hA0) (hE.2.2.2.1.2.1.narrow hA0) hS (hl.1.trans hml.symm) dX5_requireFine_39 dX5_requireFine_42 dX5_requireFine_43 dX5_requireFine_46 dX5_requireFine_49 (fun x h => (hnx x h).elim) (Nat.le_of_ble_eq_true rfl) (Nat.le_of_ble_eq_true rfl) (Nat.le_of_ble_eq_true rfl) (Nat.le_of_ble_eq_true rfl) hlocks (fun t _ hz hk => zk_thx hP hD hS (List.Perm.refl _) (Or.inr (Or.inl ⟨rfl, h1_2⟩)) hz hk) hS.2.2 (Nat.le_of_ble_eq_true rfl) (Nat.le_of_ble_eq_true rfl)
  rcases Decidable.em (f = nI 3) with h1_3 | h1_n3
  · refine lv_tableIn (tgt := 50) hx hb dX5_requireFine_1 (by rw [h1_3]; decide) (by rw [h1_3]; decide) (by rw [h1_3]; rfl) (by decide) ?_
    rw [hQ]
    exact vx_throwSW (cls := "java/lang/IllegalStateException") (names := zk_up) hx hb hst hown (by decide +kernel) (by decide +kernel) w5 w6 (zk_R22 hE.2.2.1) (zk_hat (fun w hw => hts w (List.mem_cons_of_mem _ (List.mem_append_right _ hw))) hE.2.1.2.2.2.2.2.2.2 hE.2.1.2.2.2.2.2.2.2.2.2.2.2.2 (by decide +kernel)) (by decide +kernel) (hE.2.2.2.1.1.narrow hA0) (hE.2.2.2.1.2.1.narrow hA0) hS (hl.1.trans hml.symm) dX5_requireFine_50 dX5_requireFine_53 dX5_requireFine_54 dX5_requireFine_57 dX5_requireFine_60 (fun x h => (hnx x h).elim) (Nat.le_of_ble_eq_true rfl) (Nat.le_of_ble_eq_true rfl) (Nat.le_of_ble_eq_true rfl) (Nat.le_of_ble_eq_true rfl) hlocks (fun t _ hz hk => zk_thx hP hD hS (List.Perm.refl _) (Or.inr (Or.inr ⟨rfl, h1_3⟩)) hz hk) hS.2.2 (Nat.le_of_ble_eq_true rfl) (Nat.le_of_ble_eq_true rfl)
  refine lv_tableOut (tgt := 61) hx hb dX5_requireFine_1 (zk_out (1) 3 (fun k hk z => by
        rcases (show k = 0 ∨ k = 1 ∨ k = 2 by omega) with rfl | rfl | rfl
        · exact h1_n1 (zk_toI z (by decide))
        · exact h1_n2 (zk_toI z (by decide))
        · exact h1_n3 (zk_toI z (by decide)))) (by decide) ?_
  rw [hQ]
  refine vx_ret ?_
  exact zk_retv () rfl hx hb hr hlocks hS hP hD (Nat.le_of_ble_eq_true rfl) (Nat.le_of_ble_eq_true rfl) dX5_requireFine_61 (⟨h1_n1, h1_n2, h1_n3⟩)

abbrev rmX5_requireChild : Room := { frames := 6, cells := 1, slots := 6, locals := 82 }
set_option maxHeartbeats 4000000 in
set_option maxRecDepth 100000 in
/-- a child must be -/
theorem c_X5_requireChild (l : Launch) (G : zk_G) (hst : l.stackTraces = false) (a : zA) (L : zL) (n t : Nat) (hI : sInv L n t) (c : Int32) : zk_XV (S := Unit) l yX5_requireChild wsX5_requireChild rmX5_requireChild G [.ref a.1, .int c] ((zb_5 G a) ++ ((zb_L G a.2.2.1 L) ++ zb_M G a.2.2.1 L)) (fun _ => sHas L c) (fun _ => (zb_5 G a) ++ ((zb_L G a.2.2.1 L) ++ zb_M G a.2.2.1 L)) (fun E => E = "java/lang/IndexOutOfBoundsException" ∧ ¬ sHas L c) := by
  refine zk_bodyXV (cc := cX5_requireChild) (maxL := 2) (ret := none) (by decide) rfl (Nat.le_of_ble_eq_true rfl) ?_
  intro p E0 s m args below meth cd A ls Q hF hnx hQ
  obtain ⟨hx, hb, hml, hr, hts, hown, hlocks, -, hE, hP, hD, hS, hA, hA0, hl⟩ := hF
  have hK := hE.1
  have hl : lv_has ls 2 [(0, .ref a.1), (1, .int c)] := hl
  obtain ⟨hn, hn12, ht, ht40, hfam, hpay⟩ := id hI
  have w3 := hts _ (List.mem_of_getElem? (l := wsX5_requireChild) (i := 3) (a := Cond.fieldLink RX5 19 "MealAccounts" "now" "LMealAccounts$Ledger;") rfl)
  have w1 := hts _ (List.mem_of_getElem? (l := wsX5_requireChild) (i := 1) (a := Cond.classLink RX5 330 "java/lang/IndexOutOfBoundsException") rfl)
  have w2 := hts _ (List.mem_of_getElem? (l := wsX5_requireChild) (i := 2) (a := Cond.initialized "java/lang/IndexOutOfBoundsException") rfl)
  refine lv_aload_n hx hb dX5_requireChild_0 rfl (lv_at hl 0 rfl) ?_
  refine va_get (D := G.1) (ci := 4) (v := .ref (a.2.2.1 0)) (C := RX5) (T := TX5) (N := 6) hx hb hts (fun _ h => List.mem_cons_of_mem _ (List.mem_append_left _ (List.mem_append_left _ (List.mem_append_right _ h)))) hown hK hP 0 rfl rfl 1 (by decide) w3 (fun _ h9 => h9) rfl dX5_requireChild_1 ?_
  refine lv_iload_n hx hb dX5_requireChild_4 rfl (lv_at hl 1 rfl) ?_
  have hP0 : va_P G.1 vwCl ((zb_L G a.2.2.1 L ++ zb_M G a.2.2.1 L) ++ (zb_5 G a)) s.heap := zk_Pperm hP (show ((zb_5 G a) ++ ((zb_L G a.2.2.1 L) ++ zb_M G a.2.2.1 L)).Perm ((zb_L G a.2.2.1 L ++ zb_M G a.2.2.1 L) ++ (zb_5 G a)) from (show ((zb_5 G a) ++ ((zb_L G a.2.2.1 L) ++ zb_M G a.2.2.1 L)).Perm ((zb_L G a.2.2.1 L) ++ ((zb_M G a.2.2.1 L) ++ zb_5 G a)) from (((List.Perm.append_left _ List.perm_append_comm).trans (List.perm_append_comm_assoc _ _ _))).trans ((List.Perm.append_left _ List.perm_append_comm).trans (List.perm_append_comm_assoc _ _ _))).trans (List.Perm.of_eq (by simp only [List.append_assoc, List.append_nil, List.nil_append])))
  have hD0 : va_D A ((zb_L G a.2.2.1 L ++ zb_M G a.2.2.1 L) ++ (zb_5 G a)) := zk_Dperm hD (show ((zb_5 G a) ++ ((zb_L G a.2.2.1 L) ++ zb_M G a.2.2.1 L)).Perm ((zb_L G a.2.2.1 L ++ zb_M G a.2.2.1 L) ++ (zb_5 G a)) from (show ((zb_5 G a) ++ ((zb_L G a.2.2.1 L) ++ zb_M G a.2.2.1 L)).Perm ((zb_L G a.2.2.1 L) ++ ((zb_M G a.2.2.1 L) ++ zb_5 G a)) from (((List.Perm.append_left _ List.perm_append_comm).trans (List.perm_append_comm_assoc _ _ _))).trans ((List.Perm.append_left _ List.perm_append_comm).trans (List.perm_append_comm_assoc _ _ _))).trans (List.Perm.of_eq (by simp only [List.append_assoc, List.append_nil, List.nil_append])))
  refine zk_callI (wr := zb_5 G a) (va_runV (As := [.int c]) (rest := []) ⟨hx, hb, hml, hown, hts⟩ (c_X2_hasChild l G a.2.2.1 L n t hI c _) (cwV 1 hts gX5_requireChild_X2_hasChild rfl rfl rfl (by decide +kernel) ⟨Nat.le_of_ble_eq_true rfl, Nat.le_of_ble_eq_true rfl⟩) (zk_preV hE hA0 hS (zk_Papp hP0).1 (zk_Dapp hD0).1 (va_recv hK hP (ci := 1) (q0 := 1) rfl rfl)) rfl rfl hl.1 rfl (lv_room (Nat.le_of_ble_eq_true rfl)) dX5_requireChild_5 ⟨Nat.le_of_ble_eq_true rfl, Nat.le_of_ble_eq_true rfl⟩) hP0 hD0 hS hA (fun r1 u2 H locs q3 hP hD hS => ?_)
  subst q3
  have hP : va_P G.1 vwCl ((zb_5 G a) ++ ((zb_L G a.2.2.1 L) ++ zb_M G a.2.2.1 L)) H := zk_Pperm hP (show ((zb_5 G a) ++ ((zb_L G a.2.2.1 L) ++ zb_M G a.2.2.1 L)).Perm ((zb_L G a.2.2.1 L ++ zb_M G a.2.2.1 L) ++ (zb_5 G a)) from (show ((zb_5 G a) ++ ((zb_L G a.2.2.1 L) ++ zb_M G a.2.2.1 L)).Perm ((zb_L G a.2.2.1 L) ++ ((zb_M G a.2.2.1 L) ++ zb_5 G a)) from (((List.Perm.append_left _ List.perm_append_comm).trans (List.perm_append_comm_assoc _ _ _))).trans ((List.Perm.append_left _ List.perm_append_comm).trans (List.perm_append_comm_assoc _ _ _))).trans (List.Perm.of_eq (by simp only [List.append_assoc, List.append_nil, List.nil_append]))).symm
  have hD : va_D A ((zb_5 G a) ++ ((zb_L G a.2.2.1 L) ++ zb_M G a.2.2.1 L)) := zk_Dperm hD (show ((zb_5 G a) ++ ((zb_L G a.2.2.1 L) ++ zb_M G a.2.2.1 L)).Perm ((zb_L G a.2.2.1 L ++ zb_M G a.2.2.1 L) ++ (zb_5 G a)) from (show ((zb_5 G a) ++ ((zb_L G a.2.2.1 L) ++ zb_M G a.2.2.1 L)).Perm ((zb_L G a.2.2.1 L) ++ ((zb_M G a.2.2.1 L) ++ zb_5 G a)) from (((List.Perm.append_left _ List.perm_append_comm).trans (List.perm_append_comm_assoc _ _ _))).trans ((List.Perm.append_left _ List.perm_append_comm).trans (List.perm_append_comm_assoc _ _ _))).trans (List.Perm.of_eq (by simp only [List.append_assoc, List.append_nil, List.nil_append]))).symm
  have hP : va_P G.1 vwCl ((zb_5 G a) ++ ((zb_L G a.2.2.1 L) ++ zb_M G a.2.2.1 L)) H := hP
  have hD : va_D A ((zb_5 G a) ++ ((zb_L G a.2.2.1 L) ++ zb_M G a.2.2.1 L)) := hD
  refine lv_if_ne (tgt := 22) hx hb dX5_requireChild_8 (by decide) (fun h8_3 => ?_) (fun h8_3 => ?_)
  · have h8_3 := zk_b1 h8_3
    rw [hQ]
    refine vx_ret ?_
    exact zk_retv () rfl hx hb hr hlocks hS hP hD (Nat.le_of_ble_eq_true rfl) (Nat.le_of_ble_eq_true rfl) dX5_requireChild_22 (h8_3)
  · have h8_3 := zk_b0 h8_3
    rw [hQ]
    exact vx_throwSW (cls := "java/lang/IndexOutOfBoundsException") (names := zk_up) hx hb hst hown (by decide +kernel) (by decide +kernel) w1 w2 (zk_R12 hE.2.2.1) (zk_hat (fun w hw => hts w (List.mem_cons_of_mem _ (List.mem_append_right _ hw))) hE.2.1.2.2.2.2.2.2.2 hE.2.1.2.2.2.2.2.2.2.2.2.2.1 (by decide +kernel)) (by decide +kernel) (hE.2.2.2.1.1.narrow hA0) (hE.2.2.2.1.2.1.narrow hA0) hS (hl.1.trans hml.symm) dX5_requireChild_11 dX5_requireChild_14 dX5_requireChild_15 dX5_requireChild_18 dX5_requireChild_21 (fun x h => (hnx x h).elim) (Nat.le_of_ble_eq_true rfl) (Nat.le_of_ble_eq_true rfl) (Nat.le_of_ble_eq_true rfl) (Nat.le_of_ble_eq_true rfl) hlocks (fun t _ hz hk => zk_thx hP hD hS (List.Perm.refl _) (⟨rfl, h8_3⟩) hz hk) hS.2.2 (Nat.le_of_ble_eq_true rfl) (Nat.le_of_ble_eq_true rfl)

def zIn (w : Int32) (N : Nat) : Prop := ∃ j, j < N ∧ w = nI j
def xAbout (L : zL) (n t : Nat) (w : Int32) : Int32 :=
  if w = nI 0 then nI t else if w = nI 1 then nI n else if w = nI 2 then zs (fun i => if L 9 i = (nI 1) then nI 1 else nI 0) 480 else if w = nI 3 then zs (fun i => if L 9 i = (nI 2) then nI 1 else nI 0) 480 + zs (fun i => if L 9 i = (nI 3) then nI 1 else nI 0) 480 else if w = nI 4 then zs (fun i => if L 9 i = (nI 2) then nI 1 else nI 0) 480 else if w = nI 5 then zs (fun i => if L 9 i = (nI 3) then nI 1 else nI 0) 480 else if w = nI 6 then zs (fun i => if L 9 i = (nI 4) then nI 1 else nI 0) 480 else if w = nI 7 then zs (fun i => if L 9 i = (nI 5) then nI 1 else nI 0) 480 else if w = nI 8 then L 0 4 else if w = nI 9 then zs (fun j => zs (fun i => if L 9 (i * 40 + j) = nI 2 then L 10 (i * 40 + j) else nI 0) 12) 40 else if w = nI 10 then zs (L 8) 5 else if w = nI 11 then zs (L 3) n else -1
theorem xAbout_0 {L : zL} {n t : Nat} {w : Int32} (h : w = nI 0) : xAbout L n t w = nI t := by subst h; rfl
theorem xAbout_1 {L : zL} {n t : Nat} {w : Int32} (h : w = nI 1) : xAbout L n t w = nI n := by subst h; rfl
theorem xAbout_2 {L : zL} {n t : Nat} {w : Int32} (h : w = nI 2) : xAbout L n t w = zs (fun i => if L 9 i = (nI 1) then nI 1 else nI 0) 480 := by subst h; rfl
theorem xAbout_3 {L : zL} {n t : Nat} {w : Int32} (h : w = nI 3) : xAbout L n t w = zs (fun i => if L 9 i = (nI 2) then nI 1 else nI 0) 480 + zs (fun i => if L 9 i = (nI 3) then nI 1 else nI 0) 480 := by subst h; rfl
theorem xAbout_4 {L : zL} {n t : Nat} {w : Int32} (h : w = nI 4) : xAbout L n t w = zs (fun i => if L 9 i = (nI 2) then nI 1 else nI 0) 480 := by subst h; rfl
theorem xAbout_5 {L : zL} {n t : Nat} {w : Int32} (h : w = nI 5) : xAbout L n t w = zs (fun i => if L 9 i = (nI 3) then nI 1 else nI 0) 480 := by subst h; rfl
theorem xAbout_6 {L : zL} {n t : Nat} {w : Int32} (h : w = nI 6) : xAbout L n t w = zs (fun i => if L 9 i = (nI 4) then nI 1 else nI 0) 480 := by subst h; rfl
theorem xAbout_7 {L : zL} {n t : Nat} {w : Int32} (h : w = nI 7) : xAbout L n t w = zs (fun i => if L 9 i = (nI 5) then nI 1 else nI 0) 480 := by subst h; rfl
theorem xAbout_8 {L : zL} {n t : Nat} {w : Int32} (h : w = nI 8) : xAbout L n t w = L 0 4 := by subst h; rfl
theorem xAbout_9 {L : zL} {n t : Nat} {w : Int32} (h : w = nI 9) : xAbout L n t w = zs (fun j => zs (fun i => if L 9 (i * 40 + j) = nI 2 then L 10 (i * 40 + j) else nI 0) 12) 40 := by subst h; rfl
theorem xAbout_10 {L : zL} {n t : Nat} {w : Int32} (h : w = nI 10) : xAbout L n t w = zs (L 8) 5 := by subst h; rfl
theorem xAbout_11 {L : zL} {n t : Nat} {w : Int32} (h : w = nI 11) : xAbout L n t w = zs (L 3) n := by subst h; rfl
abbrev rmX5_about : Room := { frames := 6, cells := 1, slots := 6, locals := 89 }
set_option maxHeartbeats 4000000 in
set_option maxRecDepth 100000 in
/-- what there is -/
theorem c_X5_about (l : Launch) (G : zk_G) (hst : l.stackTraces = false) (a : zA) (L : zL) (n t : Nat) (hI : sInv L n t) (w : Int32) : zk_XI (S := Unit) l yX5_about wsX5_about rmX5_about G [.ref a.1, .int w] ((zb_5 G a) ++ ((zb_L G a.2.2.1 L) ++ zb_M G a.2.2.1 L)) (fun r _ => zIn w 12 ∧ r = xAbout L n t w) (fun _ => (zb_5 G a) ++ ((zb_L G a.2.2.1 L) ++ zb_M G a.2.2.1 L)) (fun E => E = "java/lang/IllegalArgumentException" ∧ ¬ zIn w 12) := by
  refine zk_bodyXI (cc := cX5_about) (maxL := 2) (ret := (some .int)) (by decide) rfl (Nat.le_of_ble_eq_true rfl) ?_
  intro p E0 s m args below meth cd A ls Q hF hnx hQ
  obtain ⟨hx, hb, hml, hr, hts, hown, hlocks, -, hE, hP, hD, hS, hA, hA0, hl⟩ := hF
  have hK := hE.1
  have hl : lv_has ls 2 [(0, .ref a.1), (1, .int w)] := hl
  obtain ⟨hn, hn12, ht, ht40, hfam, hpay⟩ := id hI
  have w3 := hts _ (List.mem_of_getElem? (l := wsX5_about) (i := 3) (a := Cond.fieldLink RX5 19 "MealAccounts" "now" "LMealAccounts$Ledger;") rfl)
  have w4 := hts _ (List.mem_of_getElem? (l := wsX5_about) (i := 4) (a := Cond.fieldLink RX5 87 "MealAccounts$Ledger" "today" "I") rfl)
  have w5 := hts _ (List.mem_of_getElem? (l := wsX5_about) (i := 5) (a := Cond.fieldLink RX5 90 "MealAccounts$Ledger" "children" "I") rfl)
  have w6 := hts _ (List.mem_of_getElem? (l := wsX5_about) (i := 6) (a := Cond.fieldLink RX5 93 "MealAccounts$Ledger" "meals" "LMealAccounts$Meals;") rfl)
  have w7 := hts _ (List.mem_of_getElem? (l := wsX5_about) (i := 7) (a := Cond.fieldLink RX5 106 "MealAccounts$Ledger" "paidIn" "I") rfl)
  have w1 := hts _ (List.mem_of_getElem? (l := wsX5_about) (i := 1) (a := Cond.classLink RX5 41 "java/lang/IllegalArgumentException") rfl)
  have w2 := hts _ (List.mem_of_getElem? (l := wsX5_about) (i := 2) (a := Cond.initialized "java/lang/IllegalArgumentException") rfl)
  refine lv_iload_n hx hb dX5_about_0 rfl (lv_at hl 1 rfl) ?_
  rcases Decidable.em (w = nI 0) with h1_0 | h1_n0
  · refine lv_tableIn (tgt := 64) hx hb dX5_about_1 (by rw [h1_0]; decide) (by rw [h1_0]; decide) (by rw [h1_0]; rfl) (by decide) ?_
    refine lv_aload_n hx hb dX5_about_64 rfl (lv_at hl 0 rfl) ?_
    refine va_get (D := G.1) (ci := 4) (v := .ref (a.2.2.1 0)) (C := RX5) (T := TX5) (N := 6) hx hb hts (fun _ h => List.mem_cons_of_mem _ (List.mem_append_left _ (List.mem_append_left _ (List.mem_append_left _ (List.mem_append_right _ h))))) hown hK hP 0 rfl rfl 1 (by decide) w3 (fun _ h9 => h9) rfl dX5_about_65 ?_
    refine va_get (D := G.1) (ci := 1) (v := .int (L 0 0)) (C := RX2) (T := TX2) (N := 14) hx hb hts (fun _ h => List.mem_cons_of_mem _ (List.mem_append_left _ (List.mem_append_left _ (List.mem_append_right _ h)))) hown hK hP 1 rfl rfl 0 (by decide) w4 (fun _ h9 => h9) rfl dX5_about_68 ?_
    refine zk_top hI.2.2.1 ?_
    rw [hQ]
    refine vx_ret ?_
    exact zk_reti () rfl hx hb hr hlocks hS hP hD (Nat.le_of_ble_eq_true rfl) (Nat.le_of_ble_eq_true rfl) dX5_about_71 (⟨⟨0, by decide, h1_0⟩, by rw [xAbout_0 h1_0]⟩)
  rcases Decidable.em (w = nI 1) with h1_1 | h1_n1
  · refine lv_tableIn (tgt := 72) hx hb dX5_about_1 (by rw [h1_1]; decide) (by rw [h1_1]; decide) (by rw [h1_1]; rfl) (by decide) ?_
    refine lv_aload_n hx hb dX5_about_72 rfl (lv_at hl 0 rfl) ?_
    refine va_get (D := G.1) (ci := 4) (v := .ref (a.2.2.1 0)) (C := RX5) (T := TX5) (N := 6) hx hb hts (fun _ h => List.mem_cons_of_mem _ (List.mem_append_left _ (List.mem_append_left _ (List.mem_append_left _ (List.mem_append_right _ h))))) hown hK hP 0 rfl rfl 1 (by decide) w3 (fun _ h9 => h9) rfl dX5_about_73 ?_
    refine va_get (D := G.1) (ci := 1) (v := .int (L 0 1)) (C := RX2) (T := TX2) (N := 14) hx hb hts (fun _ h => List.mem_cons_of_mem _ (List.mem_append_left _ (List.mem_append_left _ (List.mem_append_right _ h)))) hown hK hP 1 rfl rfl 1 (by decide) w5 (fun _ h9 => h9) rfl dX5_about_76 ?_
    refine zk_top hI.1 ?_
    rw [hQ]
    refine vx_ret ?_
    exact zk_reti () rfl hx hb hr hlocks hS hP hD (Nat.le_of_ble_eq_true rfl) (Nat.le_of_ble_eq_true rfl) dX5_about_79 (⟨⟨1, by decide, h1_1⟩, by rw [xAbout_1 h1_1]⟩)
  rcases Decidable.em (w = nI 2) with h1_2 | h1_n2
  · refine lv_tableIn (tgt := 80) hx hb dX5_about_1 (by rw [h1_2]; decide) (by rw [h1_2]; decide) (by rw [h1_2]; rfl) (by decide) ?_
    refine lv_aload_n hx hb dX5_about_80 rfl (lv_at hl 0 rfl) ?_
    refine va_get (D := G.1) (ci := 4) (v := .ref (a.2.2.1 0)) (C := RX5) (T := TX5) (N := 6) hx hb hts (fun _ h => List.mem_cons_of_mem _ (List.mem_append_left _ (List.mem_append_left _ (List.mem_append_left _ (List.mem_append_right _ h))))) hown hK hP 0 rfl rfl 1 (by decide) w3 (fun _ h9 => h9) rfl dX5_about_81 ?_
    refine va_get (D := G.1) (ci := 1) (v := .ref (a.2.2.1 9)) (C := RX2) (T := TX2) (N := 14) hx hb hts (fun _ h => List.mem_cons_of_mem _ (List.mem_append_left _ (List.mem_append_left _ (List.mem_append_right _ h)))) hown hK hP 1 rfl rfl 13 (by decide) w6 (fun _ h9 => h9) rfl dX5_about_84 ?_
    refine lv_iconst (v := nI 1) hx hb dX5_about_87 (by decide) ?_
    have hP0 : va_P G.1 vwCl ((zb_M G a.2.2.1 L) ++ ((zb_5 G a) ++ zb_L G a.2.2.1 L)) s.heap := zk_Pperm hP (show ((zb_5 G a) ++ ((zb_L G a.2.2.1 L) ++ zb_M G a.2.2.1 L)).Perm ((zb_M G a.2.2.1 L) ++ ((zb_5 G a) ++ zb_L G a.2.2.1 L)) from (show ((zb_5 G a) ++ ((zb_L G a.2.2.1 L) ++ zb_M G a.2.2.1 L)).Perm ((zb_M G a.2.2.1 L) ++ ((zb_5 G a) ++ zb_L G a.2.2.1 L)) from ((List.Perm.append_left _ List.perm_append_comm).trans (List.perm_append_comm_assoc _ _ _))).trans (List.Perm.of_eq (by simp only [List.append_assoc, List.append_nil, List.nil_append])))
    have hD0 : va_D A ((zb_M G a.2.2.1 L) ++ ((zb_5 G a) ++ zb_L G a.2.2.1 L)) := zk_Dperm hD (show ((zb_5 G a) ++ ((zb_L G a.2.2.1 L) ++ zb_M G a.2.2.1 L)).Perm ((zb_M G a.2.2.1 L) ++ ((zb_5 G a) ++ zb_L G a.2.2.1 L)) from (show ((zb_5 G a) ++ ((zb_L G a.2.2.1 L) ++ zb_M G a.2.2.1 L)).Perm ((zb_M G a.2.2.1 L) ++ ((zb_5 G a) ++ zb_L G a.2.2.1 L)) from ((List.Perm.append_left _ List.perm_append_comm).trans (List.perm_append_comm_assoc _ _ _))).trans (List.Perm.of_eq (by simp only [List.append_assoc, List.append_nil, List.nil_append])))
    refine zk_callI (wr := (zb_5 G a) ++ zb_L G a.2.2.1 L) (va_runV (As := [.int (nI 1)]) (rest := []) ⟨hx, hb, hml, hown, hts⟩ (c_X3_countAll l G a.2.2.1 L (nI 1) _) (cwV 1 hts gX5_about_X3_countAll rfl rfl rfl (by decide +kernel) ⟨Nat.le_of_ble_eq_true rfl, Nat.le_of_ble_eq_true rfl⟩) (zk_preV hE hA0 hS (zk_Papp hP0).1 (zk_Dapp hD0).1 (va_recv hK hP (ci := 2) (q0 := 10) rfl rfl)) rfl rfl hl.1 rfl (lv_room (Nat.le_of_ble_eq_true rfl)) dX5_about_88 ⟨Nat.le_of_ble_eq_true rfl, Nat.le_of_ble_eq_true rfl⟩) hP0 hD0 hS hA (fun r2 u3 H locs q4 hP hD hS => ?_)
    subst q4
    have hP : va_P G.1 vwCl ((zb_5 G a) ++ ((zb_L G a.2.2.1 L) ++ zb_M G a.2.2.1 L)) H := zk_Pperm hP (show ((zb_5 G a) ++ ((zb_L G a.2.2.1 L) ++ zb_M G a.2.2.1 L)).Perm ((zb_M G a.2.2.1 L) ++ ((zb_5 G a) ++ zb_L G a.2.2.1 L)) from (show ((zb_5 G a) ++ ((zb_L G a.2.2.1 L) ++ zb_M G a.2.2.1 L)).Perm ((zb_M G a.2.2.1 L) ++ ((zb_5 G a) ++ zb_L G a.2.2.1 L)) from ((List.Perm.append_left _ List.perm_append_comm).trans (List.perm_append_comm_assoc _ _ _))).trans (List.Perm.of_eq (by simp only [List.append_assoc, List.append_nil, List.nil_append]))).symm
    have hD : va_D A ((zb_5 G a) ++ ((zb_L G a.2.2.1 L) ++ zb_M G a.2.2.1 L)) := zk_Dperm hD (show ((zb_5 G a) ++ ((zb_L G a.2.2.1 L) ++ zb_M G a.2.2.1 L)).Perm ((zb_M G a.2.2.1 L) ++ ((zb_5 G a) ++ zb_L G a.2.2.1 L)) from (show ((zb_5 G a) ++ ((zb_L G a.2.2.1 L) ++ zb_M G a.2.2.1 L)).Perm ((zb_M G a.2.2.1 L) ++ ((zb_5 G a) ++ zb_L G a.2.2.1 L)) from ((List.Perm.append_left _ List.perm_append_comm).trans (List.perm_append_comm_assoc _ _ _))).trans (List.Perm.of_eq (by simp only [List.append_assoc, List.append_nil, List.nil_append]))).symm
    have hP : va_P G.1 vwCl ((zb_5 G a) ++ ((zb_L G a.2.2.1 L) ++ zb_M G a.2.2.1 L)) H := hP
    have hD : va_D A ((zb_5 G a) ++ ((zb_L G a.2.2.1 L) ++ zb_M G a.2.2.1 L)) := hD
    rw [hQ]
    refine vx_ret ?_
    exact zk_reti () rfl hx hb hr hlocks hS hP hD (Nat.le_of_ble_eq_true rfl) (Nat.le_of_ble_eq_true rfl) dX5_about_91 (⟨⟨2, by decide, h1_2⟩, by rw [xAbout_2 h1_2]⟩)
  rcases Decidable.em (w = nI 3) with h1_3 | h1_n3
  · refine lv_tableIn (tgt := 92) hx hb dX5_about_1 (by rw [h1_3]; decide) (by rw [h1_3]; decide) (by rw [h1_3]; rfl) (by decide) ?_
    refine lv_aload_n hx hb dX5_about_92 rfl (lv_at hl 0 rfl) ?_
    refine va_get (D := G.1) (ci := 4) (v := .ref (a.2.2.1 0)) (C := RX5) (T := TX5) (N := 6) hx hb hts (fun _ h => List.mem_cons_of_mem _ (List.mem_append_left _ (List.mem_append_left _ (List.mem_append_left _ (List.mem_append_right _ h))))) hown hK hP 0 rfl rfl 1 (by decide) w3 (fun _ h9 => h9) rfl dX5_about_93 ?_
    refine va_get (D := G.1) (ci := 1) (v := .ref (a.2.2.1 9)) (C := RX2) (T := TX2) (N := 14) hx hb hts (fun _ h => List.mem_cons_of_mem _ (List.mem_append_left _ (List.mem_append_left _ (List.mem_append_right _ h)))) hown hK hP 1 rfl rfl 13 (by decide) w6 (fun _ h9 => h9) rfl dX5_about_96 ?_
    have hP0 : va_P G.1 vwCl ((zb_M G a.2.2.1 L) ++ ((zb_5 G a) ++ zb_L G a.2.2.1 L)) s.heap := zk_Pperm hP (show ((zb_5 G a) ++ ((zb_L G a.2.2.1 L) ++ zb_M G a.2.2.1 L)).Perm ((zb_M G a.2.2.1 L) ++ ((zb_5 G a) ++ zb_L G a.2.2.1 L)) from (show ((zb_5 G a) ++ ((zb_L G a.2.2.1 L) ++ zb_M G a.2.2.1 L)).Perm ((zb_M G a.2.2.1 L) ++ ((zb_5 G a) ++ zb_L G a.2.2.1 L)) from ((List.Perm.append_left _ List.perm_append_comm).trans (List.perm_append_comm_assoc _ _ _))).trans (List.Perm.of_eq (by simp only [List.append_assoc, List.append_nil, List.nil_append])))
    have hD0 : va_D A ((zb_M G a.2.2.1 L) ++ ((zb_5 G a) ++ zb_L G a.2.2.1 L)) := zk_Dperm hD (show ((zb_5 G a) ++ ((zb_L G a.2.2.1 L) ++ zb_M G a.2.2.1 L)).Perm ((zb_M G a.2.2.1 L) ++ ((zb_5 G a) ++ zb_L G a.2.2.1 L)) from (show ((zb_5 G a) ++ ((zb_L G a.2.2.1 L) ++ zb_M G a.2.2.1 L)).Perm ((zb_M G a.2.2.1 L) ++ ((zb_5 G a) ++ zb_L G a.2.2.1 L)) from ((List.Perm.append_left _ List.perm_append_comm).trans (List.perm_append_comm_assoc _ _ _))).trans (List.Perm.of_eq (by simp only [List.append_assoc, List.append_nil, List.nil_append])))
    refine zk_callI (wr := (zb_5 G a) ++ zb_L G a.2.2.1 L) (va_runV (As := []) (rest := []) ⟨hx, hb, hml, hown, hts⟩ (c_X3_countServed l G a.2.2.1 L _) (cwV 0 hts gX5_about_X3_countServed rfl rfl rfl (by decide +kernel) ⟨Nat.le_of_ble_eq_true rfl, Nat.le_of_ble_eq_true rfl⟩) (zk_preV hE hA0 hS (zk_Papp hP0).1 (zk_Dapp hD0).1 (va_recv hK hP (ci := 2) (q0 := 10) rfl rfl)) rfl rfl hl.1 rfl (lv_room (Nat.le_of_ble_eq_true rfl)) dX5_about_99 ⟨Nat.le_of_ble_eq_true rfl, Nat.le_of_ble_eq_true rfl⟩) hP0 hD0 hS hA (fun r5 u6 H locs q7 hP hD hS => ?_)
    subst q7
    have hP : va_P G.1 vwCl ((zb_5 G a) ++ ((zb_L G a.2.2.1 L) ++ zb_M G a.2.2.1 L)) H := zk_Pperm hP (show ((zb_5 G a) ++ ((zb_L G a.2.2.1 L) ++ zb_M G a.2.2.1 L)).Perm ((zb_M G a.2.2.1 L) ++ ((zb_5 G a) ++ zb_L G a.2.2.1 L)) from (show ((zb_5 G a) ++ ((zb_L G a.2.2.1 L) ++ zb_M G a.2.2.1 L)).Perm ((zb_M G a.2.2.1 L) ++ ((zb_5 G a) ++ zb_L G a.2.2.1 L)) from ((List.Perm.append_left _ List.perm_append_comm).trans (List.perm_append_comm_assoc _ _ _))).trans (List.Perm.of_eq (by simp only [List.append_assoc, List.append_nil, List.nil_append]))).symm
    have hD : va_D A ((zb_5 G a) ++ ((zb_L G a.2.2.1 L) ++ zb_M G a.2.2.1 L)) := zk_Dperm hD (show ((zb_5 G a) ++ ((zb_L G a.2.2.1 L) ++ zb_M G a.2.2.1 L)).Perm ((zb_M G a.2.2.1 L) ++ ((zb_5 G a) ++ zb_L G a.2.2.1 L)) from (show ((zb_5 G a) ++ ((zb_L G a.2.2.1 L) ++ zb_M G a.2.2.1 L)).Perm ((zb_M G a.2.2.1 L) ++ ((zb_5 G a) ++ zb_L G a.2.2.1 L)) from ((List.Perm.append_left _ List.perm_append_comm).trans (List.perm_append_comm_assoc _ _ _))).trans (List.Perm.of_eq (by simp only [List.append_assoc, List.append_nil, List.nil_append]))).symm
    have hP : va_P G.1 vwCl ((zb_5 G a) ++ ((zb_L G a.2.2.1 L) ++ zb_M G a.2.2.1 L)) H := hP
    have hD : va_D A ((zb_5 G a) ++ ((zb_L G a.2.2.1 L) ++ zb_M G a.2.2.1 L)) := hD
    rw [hQ]
    refine vx_ret ?_
    exact zk_reti () rfl hx hb hr hlocks hS hP hD (Nat.le_of_ble_eq_true rfl) (Nat.le_of_ble_eq_true rfl) dX5_about_102 (⟨⟨3, by decide, h1_3⟩, by rw [xAbout_3 h1_3]⟩)
  rcases Decidable.em (w = nI 4) with h1_4 | h1_n4
  · refine lv_tableIn (tgt := 103) hx hb dX5_about_1 (by rw [h1_4]; decide) (by rw [h1_4]; decide) (by rw [h1_4]; rfl) (by decide) ?_
    refine lv_aload_n hx hb dX5_about_103 rfl (lv_at hl 0 rfl) ?_
    refine va_get (D := G.1) (ci := 4) (v := .ref (a.2.2.1 0)) (C := RX5) (T := TX5) (N := 6) hx hb hts (fun _ h => List.mem_cons_of_mem _ (List.mem_append_left _ (List.mem_append_left _ (List.mem_append_left _ (List.mem_append_right _ h))))) hown hK hP 0 rfl rfl 1 (by decide) w3 (fun _ h9 => h9) rfl dX5_about_104 ?_
    refine va_get (D := G.1) (ci := 1) (v := .ref (a.2.2.1 9)) (C := RX2) (T := TX2) (N := 14) hx hb hts (fun _ h => List.mem_cons_of_mem _ (List.mem_append_left _ (List.mem_append_left _ (List.mem_append_right _ h)))) hown hK hP 1 rfl rfl 13 (by decide) w6 (fun _ h9 => h9) rfl dX5_about_107 ?_
    refine lv_iconst (v := nI 2) hx hb dX5_about_110 (by decide) ?_
    have hP0 : va_P G.1 vwCl ((zb_M G a.2.2.1 L) ++ ((zb_5 G a) ++ zb_L G a.2.2.1 L)) s.heap := zk_Pperm hP (show ((zb_5 G a) ++ ((zb_L G a.2.2.1 L) ++ zb_M G a.2.2.1 L)).Perm ((zb_M G a.2.2.1 L) ++ ((zb_5 G a) ++ zb_L G a.2.2.1 L)) from (show ((zb_5 G a) ++ ((zb_L G a.2.2.1 L) ++ zb_M G a.2.2.1 L)).Perm ((zb_M G a.2.2.1 L) ++ ((zb_5 G a) ++ zb_L G a.2.2.1 L)) from ((List.Perm.append_left _ List.perm_append_comm).trans (List.perm_append_comm_assoc _ _ _))).trans (List.Perm.of_eq (by simp only [List.append_assoc, List.append_nil, List.nil_append])))
    have hD0 : va_D A ((zb_M G a.2.2.1 L) ++ ((zb_5 G a) ++ zb_L G a.2.2.1 L)) := zk_Dperm hD (show ((zb_5 G a) ++ ((zb_L G a.2.2.1 L) ++ zb_M G a.2.2.1 L)).Perm ((zb_M G a.2.2.1 L) ++ ((zb_5 G a) ++ zb_L G a.2.2.1 L)) from (show ((zb_5 G a) ++ ((zb_L G a.2.2.1 L) ++ zb_M G a.2.2.1 L)).Perm ((zb_M G a.2.2.1 L) ++ ((zb_5 G a) ++ zb_L G a.2.2.1 L)) from ((List.Perm.append_left _ List.perm_append_comm).trans (List.perm_append_comm_assoc _ _ _))).trans (List.Perm.of_eq (by simp only [List.append_assoc, List.append_nil, List.nil_append])))
    refine zk_callI (wr := (zb_5 G a) ++ zb_L G a.2.2.1 L) (va_runV (As := [.int (nI 2)]) (rest := []) ⟨hx, hb, hml, hown, hts⟩ (c_X3_countAll l G a.2.2.1 L (nI 2) _) (cwV 1 hts gX5_about_X3_countAll rfl rfl rfl (by decide +kernel) ⟨Nat.le_of_ble_eq_true rfl, Nat.le_of_ble_eq_true rfl⟩) (zk_preV hE hA0 hS (zk_Papp hP0).1 (zk_Dapp hD0).1 (va_recv hK hP (ci := 2) (q0 := 10) rfl rfl)) rfl rfl hl.1 rfl (lv_room (Nat.le_of_ble_eq_true rfl)) dX5_about_111 ⟨Nat.le_of_ble_eq_true rfl, Nat.le_of_ble_eq_true rfl⟩) hP0 hD0 hS hA (fun r8 u9 H locs q10 hP hD hS => ?_)
    subst q10
    have hP : va_P G.1 vwCl ((zb_5 G a) ++ ((zb_L G a.2.2.1 L) ++ zb_M G a.2.2.1 L)) H := zk_Pperm hP (show ((zb_5 G a) ++ ((zb_L G a.2.2.1 L) ++ zb_M G a.2.2.1 L)).Perm ((zb_M G a.2.2.1 L) ++ ((zb_5 G a) ++ zb_L G a.2.2.1 L)) from (show ((zb_5 G a) ++ ((zb_L G a.2.2.1 L) ++ zb_M G a.2.2.1 L)).Perm ((zb_M G a.2.2.1 L) ++ ((zb_5 G a) ++ zb_L G a.2.2.1 L)) from ((List.Perm.append_left _ List.perm_append_comm).trans (List.perm_append_comm_assoc _ _ _))).trans (List.Perm.of_eq (by simp only [List.append_assoc, List.append_nil, List.nil_append]))).symm
    have hD : va_D A ((zb_5 G a) ++ ((zb_L G a.2.2.1 L) ++ zb_M G a.2.2.1 L)) := zk_Dperm hD (show ((zb_5 G a) ++ ((zb_L G a.2.2.1 L) ++ zb_M G a.2.2.1 L)).Perm ((zb_M G a.2.2.1 L) ++ ((zb_5 G a) ++ zb_L G a.2.2.1 L)) from (show ((zb_5 G a) ++ ((zb_L G a.2.2.1 L) ++ zb_M G a.2.2.1 L)).Perm ((zb_M G a.2.2.1 L) ++ ((zb_5 G a) ++ zb_L G a.2.2.1 L)) from ((List.Perm.append_left _ List.perm_append_comm).trans (List.perm_append_comm_assoc _ _ _))).trans (List.Perm.of_eq (by simp only [List.append_assoc, List.append_nil, List.nil_append]))).symm
    have hP : va_P G.1 vwCl ((zb_5 G a) ++ ((zb_L G a.2.2.1 L) ++ zb_M G a.2.2.1 L)) H := hP
    have hD : va_D A ((zb_5 G a) ++ ((zb_L G a.2.2.1 L) ++ zb_M G a.2.2.1 L)) := hD
    rw [hQ]
    refine vx_ret ?_
    exact zk_reti () rfl hx hb hr hlocks hS hP hD (Nat.le_of_ble_eq_true rfl) (Nat.le_of_ble_eq_true rfl) dX5_about_114 (⟨⟨4, by decide, h1_4⟩, by rw [xAbout_4 h1_4]⟩)
  rcases Decidable.em (w = nI 5) with h1_5 | h1_n5
  · refine lv_tableIn (tgt := 115) hx hb dX5_about_1 (by rw [h1_5]; decide) (by rw [h1_5]; decide) (by rw [h1_5]; rfl) (by decide) ?_
    refine lv_aload_n hx hb dX5_about_115 rfl (lv_at hl 0 rfl) ?_
    refine va_get (D := G.1) (ci := 4) (v := .ref (a.2.2.1 0)) (C := RX5) (T := TX5) (N := 6) hx hb hts (fun _ h => List.mem_cons_of_mem _ (List.mem_append_left _ (List.mem_append_left _ (List.mem_append_left _ (List.mem_append_right _ h))))) hown hK hP 0 rfl rfl 1 (by decide) w3 (fun _ h9 => h9) rfl dX5_about_116 ?_
    refine va_get (D := G.1) (ci := 1) (v := .ref (a.2.2.1 9)) (C := RX2) (T := TX2) (N := 14) hx hb hts (fun _ h => List.mem_cons_of_mem _ (List.mem_append_left _ (List.mem_append_left _ (List.mem_append_right _ h)))) hown hK hP 1 rfl rfl 13 (by decide) w6 (fun _ h9 => h9) rfl dX5_about_119 ?_
    refine lv_iconst (v := nI 3) hx hb dX5_about_122 (by decide) ?_
    have hP0 : va_P G.1 vwCl ((zb_M G a.2.2.1 L) ++ ((zb_5 G a) ++ zb_L G a.2.2.1 L)) s.heap := zk_Pperm hP (show ((zb_5 G a) ++ ((zb_L G a.2.2.1 L) ++ zb_M G a.2.2.1 L)).Perm ((zb_M G a.2.2.1 L) ++ ((zb_5 G a) ++ zb_L G a.2.2.1 L)) from (show ((zb_5 G a) ++ ((zb_L G a.2.2.1 L) ++ zb_M G a.2.2.1 L)).Perm ((zb_M G a.2.2.1 L) ++ ((zb_5 G a) ++ zb_L G a.2.2.1 L)) from ((List.Perm.append_left _ List.perm_append_comm).trans (List.perm_append_comm_assoc _ _ _))).trans (List.Perm.of_eq (by simp only [List.append_assoc, List.append_nil, List.nil_append])))
    have hD0 : va_D A ((zb_M G a.2.2.1 L) ++ ((zb_5 G a) ++ zb_L G a.2.2.1 L)) := zk_Dperm hD (show ((zb_5 G a) ++ ((zb_L G a.2.2.1 L) ++ zb_M G a.2.2.1 L)).Perm ((zb_M G a.2.2.1 L) ++ ((zb_5 G a) ++ zb_L G a.2.2.1 L)) from (show ((zb_5 G a) ++ ((zb_L G a.2.2.1 L) ++ zb_M G a.2.2.1 L)).Perm ((zb_M G a.2.2.1 L) ++ ((zb_5 G a) ++ zb_L G a.2.2.1 L)) from ((List.Perm.append_left _ List.perm_append_comm).trans (List.perm_append_comm_assoc _ _ _))).trans (List.Perm.of_eq (by simp only [List.append_assoc, List.append_nil, List.nil_append])))
    refine zk_callI (wr := (zb_5 G a) ++ zb_L G a.2.2.1 L) (va_runV (As := [.int (nI 3)]) (rest := []) ⟨hx, hb, hml, hown, hts⟩ (c_X3_countAll l G a.2.2.1 L (nI 3) _) (cwV 1 hts gX5_about_X3_countAll rfl rfl rfl (by decide +kernel) ⟨Nat.le_of_ble_eq_true rfl, Nat.le_of_ble_eq_true rfl⟩) (zk_preV hE hA0 hS (zk_Papp hP0).1 (zk_Dapp hD0).1 (va_recv hK hP (ci := 2) (q0 := 10) rfl rfl)) rfl rfl hl.1 rfl (lv_room (Nat.le_of_ble_eq_true rfl)) dX5_about_123 ⟨Nat.le_of_ble_eq_true rfl, Nat.le_of_ble_eq_true rfl⟩) hP0 hD0 hS hA (fun r11 u12 H locs q13 hP hD hS => ?_)
    subst q13
    have hP : va_P G.1 vwCl ((zb_5 G a) ++ ((zb_L G a.2.2.1 L) ++ zb_M G a.2.2.1 L)) H := zk_Pperm hP (show ((zb_5 G a) ++ ((zb_L G a.2.2.1 L) ++ zb_M G a.2.2.1 L)).Perm ((zb_M G a.2.2.1 L) ++ ((zb_5 G a) ++ zb_L G a.2.2.1 L)) from (show ((zb_5 G a) ++ ((zb_L G a.2.2.1 L) ++ zb_M G a.2.2.1 L)).Perm ((zb_M G a.2.2.1 L) ++ ((zb_5 G a) ++ zb_L G a.2.2.1 L)) from ((List.Perm.append_left _ List.perm_append_comm).trans (List.perm_append_comm_assoc _ _ _))).trans (List.Perm.of_eq (by simp only [List.append_assoc, List.append_nil, List.nil_append]))).symm
    have hD : va_D A ((zb_5 G a) ++ ((zb_L G a.2.2.1 L) ++ zb_M G a.2.2.1 L)) := zk_Dperm hD (show ((zb_5 G a) ++ ((zb_L G a.2.2.1 L) ++ zb_M G a.2.2.1 L)).Perm ((zb_M G a.2.2.1 L) ++ ((zb_5 G a) ++ zb_L G a.2.2.1 L)) from (show ((zb_5 G a) ++ ((zb_L G a.2.2.1 L) ++ zb_M G a.2.2.1 L)).Perm ((zb_M G a.2.2.1 L) ++ ((zb_5 G a) ++ zb_L G a.2.2.1 L)) from ((List.Perm.append_left _ List.perm_append_comm).trans (List.perm_append_comm_assoc _ _ _))).trans (List.Perm.of_eq (by simp only [List.append_assoc, List.append_nil, List.nil_append]))).symm
    have hP : va_P G.1 vwCl ((zb_5 G a) ++ ((zb_L G a.2.2.1 L) ++ zb_M G a.2.2.1 L)) H := hP
    have hD : va_D A ((zb_5 G a) ++ ((zb_L G a.2.2.1 L) ++ zb_M G a.2.2.1 L)) := hD
    rw [hQ]
    refine vx_ret ?_
    exact zk_reti () rfl hx hb hr hlocks hS hP hD (Nat.le_of_ble_eq_true rfl) (Nat.le_of_ble_eq_true rfl) dX5_about_126 (⟨⟨5, by decide, h1_5⟩, by rw [xAbout_5 h1_5]⟩)
  rcases Decidable.em (w = nI 6) with h1_6 | h1_n6
  · refine lv_tableIn (tgt := 127) hx hb dX5_about_1 (by rw [h1_6]; decide) (by rw [h1_6]; decide) (by rw [h1_6]; rfl) (by decide) ?_
    refine lv_aload_n hx hb dX5_about_127 rfl (lv_at hl 0 rfl) ?_
    refine va_get (D := G.1) (ci := 4) (v := .ref (a.2.2.1 0)) (C := RX5) (T := TX5) (N := 6) hx hb hts (fun _ h => List.mem_cons_of_mem _ (List.mem_append_left _ (List.mem_append_left _ (List.mem_append_left _ (List.mem_append_right _ h))))) hown hK hP 0 rfl rfl 1 (by decide) w3 (fun _ h9 => h9) rfl dX5_about_128 ?_
    refine va_get (D := G.1) (ci := 1) (v := .ref (a.2.2.1 9)) (C := RX2) (T := TX2) (N := 14) hx hb hts (fun _ h => List.mem_cons_of_mem _ (List.mem_append_left _ (List.mem_append_left _ (List.mem_append_right _ h)))) hown hK hP 1 rfl rfl 13 (by decide) w6 (fun _ h9 => h9) rfl dX5_about_131 ?_
    refine lv_iconst (v := nI 4) hx hb dX5_about_134 (by decide) ?_
    have hP0 : va_P G.1 vwCl ((zb_M G a.2.2.1 L) ++ ((zb_5 G a) ++ zb_L G a.2.2.1 L)) s.heap := zk_Pperm hP (show ((zb_5 G a) ++ ((zb_L G a.2.2.1 L) ++ zb_M G a.2.2.1 L)).Perm ((zb_M G a.2.2.1 L) ++ ((zb_5 G a) ++ zb_L G a.2.2.1 L)) from (show ((zb_5 G a) ++ ((zb_L G a.2.2.1 L) ++ zb_M G a.2.2.1 L)).Perm ((zb_M G a.2.2.1 L) ++ ((zb_5 G a) ++ zb_L G a.2.2.1 L)) from ((List.Perm.append_left _ List.perm_append_comm).trans (List.perm_append_comm_assoc _ _ _))).trans (List.Perm.of_eq (by simp only [List.append_assoc, List.append_nil, List.nil_append])))
    have hD0 : va_D A ((zb_M G a.2.2.1 L) ++ ((zb_5 G a) ++ zb_L G a.2.2.1 L)) := zk_Dperm hD (show ((zb_5 G a) ++ ((zb_L G a.2.2.1 L) ++ zb_M G a.2.2.1 L)).Perm ((zb_M G a.2.2.1 L) ++ ((zb_5 G a) ++ zb_L G a.2.2.1 L)) from (show ((zb_5 G a) ++ ((zb_L G a.2.2.1 L) ++ zb_M G a.2.2.1 L)).Perm ((zb_M G a.2.2.1 L) ++ ((zb_5 G a) ++ zb_L G a.2.2.1 L)) from ((List.Perm.append_left _ List.perm_append_comm).trans (List.perm_append_comm_assoc _ _ _))).trans (List.Perm.of_eq (by simp only [List.append_assoc, List.append_nil, List.nil_append])))
    refine zk_callI (wr := (zb_5 G a) ++ zb_L G a.2.2.1 L) (va_runV (As := [.int (nI 4)]) (rest := []) ⟨hx, hb, hml, hown, hts⟩ (c_X3_countAll l G a.2.2.1 L (nI 4) _) (cwV 1 hts gX5_about_X3_countAll rfl rfl rfl (by decide +kernel) ⟨Nat.le_of_ble_eq_true rfl, Nat.le_of_ble_eq_true rfl⟩) (zk_preV hE hA0 hS (zk_Papp hP0).1 (zk_Dapp hD0).1 (va_recv hK hP (ci := 2) (q0 := 10) rfl rfl)) rfl rfl hl.1 rfl (lv_room (Nat.le_of_ble_eq_true rfl)) dX5_about_135 ⟨Nat.le_of_ble_eq_true rfl, Nat.le_of_ble_eq_true rfl⟩) hP0 hD0 hS hA (fun r14 u15 H locs q16 hP hD hS => ?_)
    subst q16
    have hP : va_P G.1 vwCl ((zb_5 G a) ++ ((zb_L G a.2.2.1 L) ++ zb_M G a.2.2.1 L)) H := zk_Pperm hP (show ((zb_5 G a) ++ ((zb_L G a.2.2.1 L) ++ zb_M G a.2.2.1 L)).Perm ((zb_M G a.2.2.1 L) ++ ((zb_5 G a) ++ zb_L G a.2.2.1 L)) from (show ((zb_5 G a) ++ ((zb_L G a.2.2.1 L) ++ zb_M G a.2.2.1 L)).Perm ((zb_M G a.2.2.1 L) ++ ((zb_5 G a) ++ zb_L G a.2.2.1 L)) from ((List.Perm.append_left _ List.perm_append_comm).trans (List.perm_append_comm_assoc _ _ _))).trans (List.Perm.of_eq (by simp only [List.append_assoc, List.append_nil, List.nil_append]))).symm
    have hD : va_D A ((zb_5 G a) ++ ((zb_L G a.2.2.1 L) ++ zb_M G a.2.2.1 L)) := zk_Dperm hD (show ((zb_5 G a) ++ ((zb_L G a.2.2.1 L) ++ zb_M G a.2.2.1 L)).Perm ((zb_M G a.2.2.1 L) ++ ((zb_5 G a) ++ zb_L G a.2.2.1 L)) from (show ((zb_5 G a) ++ ((zb_L G a.2.2.1 L) ++ zb_M G a.2.2.1 L)).Perm ((zb_M G a.2.2.1 L) ++ ((zb_5 G a) ++ zb_L G a.2.2.1 L)) from ((List.Perm.append_left _ List.perm_append_comm).trans (List.perm_append_comm_assoc _ _ _))).trans (List.Perm.of_eq (by simp only [List.append_assoc, List.append_nil, List.nil_append]))).symm
    have hP : va_P G.1 vwCl ((zb_5 G a) ++ ((zb_L G a.2.2.1 L) ++ zb_M G a.2.2.1 L)) H := hP
    have hD : va_D A ((zb_5 G a) ++ ((zb_L G a.2.2.1 L) ++ zb_M G a.2.2.1 L)) := hD
    rw [hQ]
    refine vx_ret ?_
    exact zk_reti () rfl hx hb hr hlocks hS hP hD (Nat.le_of_ble_eq_true rfl) (Nat.le_of_ble_eq_true rfl) dX5_about_138 (⟨⟨6, by decide, h1_6⟩, by rw [xAbout_6 h1_6]⟩)
  rcases Decidable.em (w = nI 7) with h1_7 | h1_n7
  · refine lv_tableIn (tgt := 139) hx hb dX5_about_1 (by rw [h1_7]; decide) (by rw [h1_7]; decide) (by rw [h1_7]; rfl) (by decide) ?_
    refine lv_aload_n hx hb dX5_about_139 rfl (lv_at hl 0 rfl) ?_
    refine va_get (D := G.1) (ci := 4) (v := .ref (a.2.2.1 0)) (C := RX5) (T := TX5) (N := 6) hx hb hts (fun _ h => List.mem_cons_of_mem _ (List.mem_append_left _ (List.mem_append_left _ (List.mem_append_left _ (List.mem_append_right _ h))))) hown hK hP 0 rfl rfl 1 (by decide) w3 (fun _ h9 => h9) rfl dX5_about_140 ?_
    refine va_get (D := G.1) (ci := 1) (v := .ref (a.2.2.1 9)) (C := RX2) (T := TX2) (N := 14) hx hb hts (fun _ h => List.mem_cons_of_mem _ (List.mem_append_left _ (List.mem_append_left _ (List.mem_append_right _ h)))) hown hK hP 1 rfl rfl 13 (by decide) w6 (fun _ h9 => h9) rfl dX5_about_143 ?_
    refine lv_iconst (v := nI 5) hx hb dX5_about_146 (by decide) ?_
    have hP0 : va_P G.1 vwCl ((zb_M G a.2.2.1 L) ++ ((zb_5 G a) ++ zb_L G a.2.2.1 L)) s.heap := zk_Pperm hP (show ((zb_5 G a) ++ ((zb_L G a.2.2.1 L) ++ zb_M G a.2.2.1 L)).Perm ((zb_M G a.2.2.1 L) ++ ((zb_5 G a) ++ zb_L G a.2.2.1 L)) from (show ((zb_5 G a) ++ ((zb_L G a.2.2.1 L) ++ zb_M G a.2.2.1 L)).Perm ((zb_M G a.2.2.1 L) ++ ((zb_5 G a) ++ zb_L G a.2.2.1 L)) from ((List.Perm.append_left _ List.perm_append_comm).trans (List.perm_append_comm_assoc _ _ _))).trans (List.Perm.of_eq (by simp only [List.append_assoc, List.append_nil, List.nil_append])))
    have hD0 : va_D A ((zb_M G a.2.2.1 L) ++ ((zb_5 G a) ++ zb_L G a.2.2.1 L)) := zk_Dperm hD (show ((zb_5 G a) ++ ((zb_L G a.2.2.1 L) ++ zb_M G a.2.2.1 L)).Perm ((zb_M G a.2.2.1 L) ++ ((zb_5 G a) ++ zb_L G a.2.2.1 L)) from (show ((zb_5 G a) ++ ((zb_L G a.2.2.1 L) ++ zb_M G a.2.2.1 L)).Perm ((zb_M G a.2.2.1 L) ++ ((zb_5 G a) ++ zb_L G a.2.2.1 L)) from ((List.Perm.append_left _ List.perm_append_comm).trans (List.perm_append_comm_assoc _ _ _))).trans (List.Perm.of_eq (by simp only [List.append_assoc, List.append_nil, List.nil_append])))
    refine zk_callI (wr := (zb_5 G a) ++ zb_L G a.2.2.1 L) (va_runV (As := [.int (nI 5)]) (rest := []) ⟨hx, hb, hml, hown, hts⟩ (c_X3_countAll l G a.2.2.1 L (nI 5) _) (cwV 1 hts gX5_about_X3_countAll rfl rfl rfl (by decide +kernel) ⟨Nat.le_of_ble_eq_true rfl, Nat.le_of_ble_eq_true rfl⟩) (zk_preV hE hA0 hS (zk_Papp hP0).1 (zk_Dapp hD0).1 (va_recv hK hP (ci := 2) (q0 := 10) rfl rfl)) rfl rfl hl.1 rfl (lv_room (Nat.le_of_ble_eq_true rfl)) dX5_about_147 ⟨Nat.le_of_ble_eq_true rfl, Nat.le_of_ble_eq_true rfl⟩) hP0 hD0 hS hA (fun r17 u18 H locs q19 hP hD hS => ?_)
    subst q19
    have hP : va_P G.1 vwCl ((zb_5 G a) ++ ((zb_L G a.2.2.1 L) ++ zb_M G a.2.2.1 L)) H := zk_Pperm hP (show ((zb_5 G a) ++ ((zb_L G a.2.2.1 L) ++ zb_M G a.2.2.1 L)).Perm ((zb_M G a.2.2.1 L) ++ ((zb_5 G a) ++ zb_L G a.2.2.1 L)) from (show ((zb_5 G a) ++ ((zb_L G a.2.2.1 L) ++ zb_M G a.2.2.1 L)).Perm ((zb_M G a.2.2.1 L) ++ ((zb_5 G a) ++ zb_L G a.2.2.1 L)) from ((List.Perm.append_left _ List.perm_append_comm).trans (List.perm_append_comm_assoc _ _ _))).trans (List.Perm.of_eq (by simp only [List.append_assoc, List.append_nil, List.nil_append]))).symm
    have hD : va_D A ((zb_5 G a) ++ ((zb_L G a.2.2.1 L) ++ zb_M G a.2.2.1 L)) := zk_Dperm hD (show ((zb_5 G a) ++ ((zb_L G a.2.2.1 L) ++ zb_M G a.2.2.1 L)).Perm ((zb_M G a.2.2.1 L) ++ ((zb_5 G a) ++ zb_L G a.2.2.1 L)) from (show ((zb_5 G a) ++ ((zb_L G a.2.2.1 L) ++ zb_M G a.2.2.1 L)).Perm ((zb_M G a.2.2.1 L) ++ ((zb_5 G a) ++ zb_L G a.2.2.1 L)) from ((List.Perm.append_left _ List.perm_append_comm).trans (List.perm_append_comm_assoc _ _ _))).trans (List.Perm.of_eq (by simp only [List.append_assoc, List.append_nil, List.nil_append]))).symm
    have hP : va_P G.1 vwCl ((zb_5 G a) ++ ((zb_L G a.2.2.1 L) ++ zb_M G a.2.2.1 L)) H := hP
    have hD : va_D A ((zb_5 G a) ++ ((zb_L G a.2.2.1 L) ++ zb_M G a.2.2.1 L)) := hD
    rw [hQ]
    refine vx_ret ?_
    exact zk_reti () rfl hx hb hr hlocks hS hP hD (Nat.le_of_ble_eq_true rfl) (Nat.le_of_ble_eq_true rfl) dX5_about_150 (⟨⟨7, by decide, h1_7⟩, by rw [xAbout_7 h1_7]⟩)
  rcases Decidable.em (w = nI 8) with h1_8 | h1_n8
  · refine lv_tableIn (tgt := 151) hx hb dX5_about_1 (by rw [h1_8]; decide) (by rw [h1_8]; decide) (by rw [h1_8]; rfl) (by decide) ?_
    refine lv_aload_n hx hb dX5_about_151 rfl (lv_at hl 0 rfl) ?_
    refine va_get (D := G.1) (ci := 4) (v := .ref (a.2.2.1 0)) (C := RX5) (T := TX5) (N := 6) hx hb hts (fun _ h => List.mem_cons_of_mem _ (List.mem_append_left _ (List.mem_append_left _ (List.mem_append_left _ (List.mem_append_right _ h))))) hown hK hP 0 rfl rfl 1 (by decide) w3 (fun _ h9 => h9) rfl dX5_about_152 ?_
    refine va_get (D := G.1) (ci := 1) (v := .int (L 0 4)) (C := RX2) (T := TX2) (N := 14) hx hb hts (fun _ h => List.mem_cons_of_mem _ (List.mem_append_left _ (List.mem_append_left _ (List.mem_append_right _ h)))) hown hK hP 1 rfl rfl 4 (by decide) w7 (fun _ h9 => h9) rfl dX5_about_155 ?_
    rw [hQ]
    refine vx_ret ?_
    exact zk_reti () rfl hx hb hr hlocks hS hP hD (Nat.le_of_ble_eq_true rfl) (Nat.le_of_ble_eq_true rfl) dX5_about_158 (⟨⟨8, by decide, h1_8⟩, by rw [xAbout_8 h1_8]⟩)
  rcases Decidable.em (w = nI 9) with h1_9 | h1_n9
  · refine lv_tableIn (tgt := 159) hx hb dX5_about_1 (by rw [h1_9]; decide) (by rw [h1_9]; decide) (by rw [h1_9]; rfl) (by decide) ?_
    refine lv_aload_n hx hb dX5_about_159 rfl (lv_at hl 0 rfl) ?_
    refine va_get (D := G.1) (ci := 4) (v := .ref (a.2.2.1 0)) (C := RX5) (T := TX5) (N := 6) hx hb hts (fun _ h => List.mem_cons_of_mem _ (List.mem_append_left _ (List.mem_append_left _ (List.mem_append_left _ (List.mem_append_right _ h))))) hown hK hP 0 rfl rfl 1 (by decide) w3 (fun _ h9 => h9) rfl dX5_about_160 ?_
    refine va_get (D := G.1) (ci := 1) (v := .ref (a.2.2.1 9)) (C := RX2) (T := TX2) (N := 14) hx hb hts (fun _ h => List.mem_cons_of_mem _ (List.mem_append_left _ (List.mem_append_left _ (List.mem_append_right _ h)))) hown hK hP 1 rfl rfl 13 (by decide) w6 (fun _ h9 => h9) rfl dX5_about_163 ?_
    have hP0 : va_P G.1 vwCl ((zb_M G a.2.2.1 L) ++ ((zb_5 G a) ++ zb_L G a.2.2.1 L)) s.heap := zk_Pperm hP (show ((zb_5 G a) ++ ((zb_L G a.2.2.1 L) ++ zb_M G a.2.2.1 L)).Perm ((zb_M G a.2.2.1 L) ++ ((zb_5 G a) ++ zb_L G a.2.2.1 L)) from (show ((zb_5 G a) ++ ((zb_L G a.2.2.1 L) ++ zb_M G a.2.2.1 L)).Perm ((zb_M G a.2.2.1 L) ++ ((zb_5 G a) ++ zb_L G a.2.2.1 L)) from ((List.Perm.append_left _ List.perm_append_comm).trans (List.perm_append_comm_assoc _ _ _))).trans (List.Perm.of_eq (by simp only [List.append_assoc, List.append_nil, List.nil_append])))
    have hD0 : va_D A ((zb_M G a.2.2.1 L) ++ ((zb_5 G a) ++ zb_L G a.2.2.1 L)) := zk_Dperm hD (show ((zb_5 G a) ++ ((zb_L G a.2.2.1 L) ++ zb_M G a.2.2.1 L)).Perm ((zb_M G a.2.2.1 L) ++ ((zb_5 G a) ++ zb_L G a.2.2.1 L)) from (show ((zb_5 G a) ++ ((zb_L G a.2.2.1 L) ++ zb_M G a.2.2.1 L)).Perm ((zb_M G a.2.2.1 L) ++ ((zb_5 G a) ++ zb_L G a.2.2.1 L)) from ((List.Perm.append_left _ List.perm_append_comm).trans (List.perm_append_comm_assoc _ _ _))).trans (List.Perm.of_eq (by simp only [List.append_assoc, List.append_nil, List.nil_append])))
    refine zk_callI (wr := (zb_5 G a) ++ zb_L G a.2.2.1 L) (va_runV (As := []) (rest := []) ⟨hx, hb, hml, hown, hts⟩ (c_X3_chargedInAll l G a.2.2.1 L _) (cwV 0 hts gX5_about_X3_chargedInAll rfl rfl rfl (by decide +kernel) ⟨Nat.le_of_ble_eq_true rfl, Nat.le_of_ble_eq_true rfl⟩) (zk_preV hE hA0 hS (zk_Papp hP0).1 (zk_Dapp hD0).1 (va_recv hK hP (ci := 2) (q0 := 10) rfl rfl)) rfl rfl hl.1 rfl (lv_room (Nat.le_of_ble_eq_true rfl)) dX5_about_166 ⟨Nat.le_of_ble_eq_true rfl, Nat.le_of_ble_eq_true rfl⟩) hP0 hD0 hS hA (fun r20 u21 H locs q22 hP hD hS => ?_)
    subst q22
    have hP : va_P G.1 vwCl ((zb_5 G a) ++ ((zb_L G a.2.2.1 L) ++ zb_M G a.2.2.1 L)) H := zk_Pperm hP (show ((zb_5 G a) ++ ((zb_L G a.2.2.1 L) ++ zb_M G a.2.2.1 L)).Perm ((zb_M G a.2.2.1 L) ++ ((zb_5 G a) ++ zb_L G a.2.2.1 L)) from (show ((zb_5 G a) ++ ((zb_L G a.2.2.1 L) ++ zb_M G a.2.2.1 L)).Perm ((zb_M G a.2.2.1 L) ++ ((zb_5 G a) ++ zb_L G a.2.2.1 L)) from ((List.Perm.append_left _ List.perm_append_comm).trans (List.perm_append_comm_assoc _ _ _))).trans (List.Perm.of_eq (by simp only [List.append_assoc, List.append_nil, List.nil_append]))).symm
    have hD : va_D A ((zb_5 G a) ++ ((zb_L G a.2.2.1 L) ++ zb_M G a.2.2.1 L)) := zk_Dperm hD (show ((zb_5 G a) ++ ((zb_L G a.2.2.1 L) ++ zb_M G a.2.2.1 L)).Perm ((zb_M G a.2.2.1 L) ++ ((zb_5 G a) ++ zb_L G a.2.2.1 L)) from (show ((zb_5 G a) ++ ((zb_L G a.2.2.1 L) ++ zb_M G a.2.2.1 L)).Perm ((zb_M G a.2.2.1 L) ++ ((zb_5 G a) ++ zb_L G a.2.2.1 L)) from ((List.Perm.append_left _ List.perm_append_comm).trans (List.perm_append_comm_assoc _ _ _))).trans (List.Perm.of_eq (by simp only [List.append_assoc, List.append_nil, List.nil_append]))).symm
    have hP : va_P G.1 vwCl ((zb_5 G a) ++ ((zb_L G a.2.2.1 L) ++ zb_M G a.2.2.1 L)) H := hP
    have hD : va_D A ((zb_5 G a) ++ ((zb_L G a.2.2.1 L) ++ zb_M G a.2.2.1 L)) := hD
    rw [hQ]
    refine vx_ret ?_
    exact zk_reti () rfl hx hb hr hlocks hS hP hD (Nat.le_of_ble_eq_true rfl) (Nat.le_of_ble_eq_true rfl) dX5_about_169 (⟨⟨9, by decide, h1_9⟩, by rw [xAbout_9 h1_9]⟩)
  rcases Decidable.em (w = nI 10) with h1_10 | h1_n10
  · refine lv_tableIn (tgt := 170) hx hb dX5_about_1 (by rw [h1_10]; decide) (by rw [h1_10]; decide) (by rw [h1_10]; rfl) (by decide) ?_
    refine lv_aload_n hx hb dX5_about_170 rfl (lv_at hl 0 rfl) ?_
    refine va_get (D := G.1) (ci := 4) (v := .ref (a.2.2.1 0)) (C := RX5) (T := TX5) (N := 6) hx hb hts (fun _ h => List.mem_cons_of_mem _ (List.mem_append_left _ (List.mem_append_left _ (List.mem_append_left _ (List.mem_append_right _ h))))) hown hK hP 0 rfl rfl 1 (by decide) w3 (fun _ h9 => h9) rfl dX5_about_171 ?_
    have hP0 : va_P G.1 vwCl ((zb_L G a.2.2.1 L ++ zb_M G a.2.2.1 L) ++ (zb_5 G a)) s.heap := zk_Pperm hP (show ((zb_5 G a) ++ ((zb_L G a.2.2.1 L) ++ zb_M G a.2.2.1 L)).Perm ((zb_L G a.2.2.1 L ++ zb_M G a.2.2.1 L) ++ (zb_5 G a)) from (show ((zb_5 G a) ++ ((zb_L G a.2.2.1 L) ++ zb_M G a.2.2.1 L)).Perm ((zb_L G a.2.2.1 L) ++ ((zb_M G a.2.2.1 L) ++ zb_5 G a)) from (((List.Perm.append_left _ List.perm_append_comm).trans (List.perm_append_comm_assoc _ _ _))).trans ((List.Perm.append_left _ List.perm_append_comm).trans (List.perm_append_comm_assoc _ _ _))).trans (List.Perm.of_eq (by simp only [List.append_assoc, List.append_nil, List.nil_append])))
    have hD0 : va_D A ((zb_L G a.2.2.1 L ++ zb_M G a.2.2.1 L) ++ (zb_5 G a)) := zk_Dperm hD (show ((zb_5 G a) ++ ((zb_L G a.2.2.1 L) ++ zb_M G a.2.2.1 L)).Perm ((zb_L G a.2.2.1 L ++ zb_M G a.2.2.1 L) ++ (zb_5 G a)) from (show ((zb_5 G a) ++ ((zb_L G a.2.2.1 L) ++ zb_M G a.2.2.1 L)).Perm ((zb_L G a.2.2.1 L) ++ ((zb_M G a.2.2.1 L) ++ zb_5 G a)) from (((List.Perm.append_left _ List.perm_append_comm).trans (List.perm_append_comm_assoc _ _ _))).trans ((List.Perm.append_left _ List.perm_append_comm).trans (List.perm_append_comm_assoc _ _ _))).trans (List.Perm.of_eq (by simp only [List.append_assoc, List.append_nil, List.nil_append])))
    refine zk_callI (wr := zb_5 G a) (va_runV (As := []) (rest := []) ⟨hx, hb, hml, hown, hts⟩ (c_X2_writtenOffInAll l G a.2.2.1 L n t hI _) (cwV 0 hts gX5_about_X2_writtenOffInAll rfl rfl rfl (by decide +kernel) ⟨Nat.le_of_ble_eq_true rfl, Nat.le_of_ble_eq_true rfl⟩) (zk_preV hE hA0 hS (zk_Papp hP0).1 (zk_Dapp hD0).1 (va_recv hK hP (ci := 1) (q0 := 1) rfl rfl)) rfl rfl hl.1 rfl (lv_room (Nat.le_of_ble_eq_true rfl)) dX5_about_174 ⟨Nat.le_of_ble_eq_true rfl, Nat.le_of_ble_eq_true rfl⟩) hP0 hD0 hS hA (fun r23 u24 H locs q25 hP hD hS => ?_)
    subst q25
    have hP : va_P G.1 vwCl ((zb_5 G a) ++ ((zb_L G a.2.2.1 L) ++ zb_M G a.2.2.1 L)) H := zk_Pperm hP (show ((zb_5 G a) ++ ((zb_L G a.2.2.1 L) ++ zb_M G a.2.2.1 L)).Perm ((zb_L G a.2.2.1 L ++ zb_M G a.2.2.1 L) ++ (zb_5 G a)) from (show ((zb_5 G a) ++ ((zb_L G a.2.2.1 L) ++ zb_M G a.2.2.1 L)).Perm ((zb_L G a.2.2.1 L) ++ ((zb_M G a.2.2.1 L) ++ zb_5 G a)) from (((List.Perm.append_left _ List.perm_append_comm).trans (List.perm_append_comm_assoc _ _ _))).trans ((List.Perm.append_left _ List.perm_append_comm).trans (List.perm_append_comm_assoc _ _ _))).trans (List.Perm.of_eq (by simp only [List.append_assoc, List.append_nil, List.nil_append]))).symm
    have hD : va_D A ((zb_5 G a) ++ ((zb_L G a.2.2.1 L) ++ zb_M G a.2.2.1 L)) := zk_Dperm hD (show ((zb_5 G a) ++ ((zb_L G a.2.2.1 L) ++ zb_M G a.2.2.1 L)).Perm ((zb_L G a.2.2.1 L ++ zb_M G a.2.2.1 L) ++ (zb_5 G a)) from (show ((zb_5 G a) ++ ((zb_L G a.2.2.1 L) ++ zb_M G a.2.2.1 L)).Perm ((zb_L G a.2.2.1 L) ++ ((zb_M G a.2.2.1 L) ++ zb_5 G a)) from (((List.Perm.append_left _ List.perm_append_comm).trans (List.perm_append_comm_assoc _ _ _))).trans ((List.Perm.append_left _ List.perm_append_comm).trans (List.perm_append_comm_assoc _ _ _))).trans (List.Perm.of_eq (by simp only [List.append_assoc, List.append_nil, List.nil_append]))).symm
    have hP : va_P G.1 vwCl ((zb_5 G a) ++ ((zb_L G a.2.2.1 L) ++ zb_M G a.2.2.1 L)) H := hP
    have hD : va_D A ((zb_5 G a) ++ ((zb_L G a.2.2.1 L) ++ zb_M G a.2.2.1 L)) := hD
    rw [hQ]
    refine vx_ret ?_
    exact zk_reti () rfl hx hb hr hlocks hS hP hD (Nat.le_of_ble_eq_true rfl) (Nat.le_of_ble_eq_true rfl) dX5_about_177 (⟨⟨10, by decide, h1_10⟩, by rw [xAbout_10 h1_10]⟩)
  rcases Decidable.em (w = nI 11) with h1_11 | h1_n11
  · refine lv_tableIn (tgt := 178) hx hb dX5_about_1 (by rw [h1_11]; decide) (by rw [h1_11]; decide) (by rw [h1_11]; rfl) (by decide) ?_
    refine lv_aload_n hx hb dX5_about_178 rfl (lv_at hl 0 rfl) ?_
    refine va_get (D := G.1) (ci := 4) (v := .ref (a.2.2.1 0)) (C := RX5) (T := TX5) (N := 6) hx hb hts (fun _ h => List.mem_cons_of_mem _ (List.mem_append_left _ (List.mem_append_left _ (List.mem_append_left _ (List.mem_append_right _ h))))) hown hK hP 0 rfl rfl 1 (by decide) w3 (fun _ h9 => h9) rfl dX5_about_179 ?_
    have hP0 : va_P G.1 vwCl ((zb_L G a.2.2.1 L ++ zb_M G a.2.2.1 L) ++ (zb_5 G a)) s.heap := zk_Pperm hP (show ((zb_5 G a) ++ ((zb_L G a.2.2.1 L) ++ zb_M G a.2.2.1 L)).Perm ((zb_L G a.2.2.1 L ++ zb_M G a.2.2.1 L) ++ (zb_5 G a)) from (show ((zb_5 G a) ++ ((zb_L G a.2.2.1 L) ++ zb_M G a.2.2.1 L)).Perm ((zb_L G a.2.2.1 L) ++ ((zb_M G a.2.2.1 L) ++ zb_5 G a)) from (((List.Perm.append_left _ List.perm_append_comm).trans (List.perm_append_comm_assoc _ _ _))).trans ((List.Perm.append_left _ List.perm_append_comm).trans (List.perm_append_comm_assoc _ _ _))).trans (List.Perm.of_eq (by simp only [List.append_assoc, List.append_nil, List.nil_append])))
    have hD0 : va_D A ((zb_L G a.2.2.1 L ++ zb_M G a.2.2.1 L) ++ (zb_5 G a)) := zk_Dperm hD (show ((zb_5 G a) ++ ((zb_L G a.2.2.1 L) ++ zb_M G a.2.2.1 L)).Perm ((zb_L G a.2.2.1 L ++ zb_M G a.2.2.1 L) ++ (zb_5 G a)) from (show ((zb_5 G a) ++ ((zb_L G a.2.2.1 L) ++ zb_M G a.2.2.1 L)).Perm ((zb_L G a.2.2.1 L) ++ ((zb_M G a.2.2.1 L) ++ zb_5 G a)) from (((List.Perm.append_left _ List.perm_append_comm).trans (List.perm_append_comm_assoc _ _ _))).trans ((List.Perm.append_left _ List.perm_append_comm).trans (List.perm_append_comm_assoc _ _ _))).trans (List.Perm.of_eq (by simp only [List.append_assoc, List.append_nil, List.nil_append])))
    refine zk_callI (wr := zb_5 G a) (va_runV (As := []) (rest := []) ⟨hx, hb, hml, hown, hts⟩ (c_X2_sumOfBalances l G a.2.2.1 L n t hI _) (cwV 0 hts gX5_about_X2_sumOfBalances rfl rfl rfl (by decide +kernel) ⟨Nat.le_of_ble_eq_true rfl, Nat.le_of_ble_eq_true rfl⟩) (zk_preV hE hA0 hS (zk_Papp hP0).1 (zk_Dapp hD0).1 (va_recv hK hP (ci := 1) (q0 := 1) rfl rfl)) rfl rfl hl.1 rfl (lv_room (Nat.le_of_ble_eq_true rfl)) dX5_about_182 ⟨Nat.le_of_ble_eq_true rfl, Nat.le_of_ble_eq_true rfl⟩) hP0 hD0 hS hA (fun r26 u27 H locs q28 hP hD hS => ?_)
    subst q28
    have hP : va_P G.1 vwCl ((zb_5 G a) ++ ((zb_L G a.2.2.1 L) ++ zb_M G a.2.2.1 L)) H := zk_Pperm hP (show ((zb_5 G a) ++ ((zb_L G a.2.2.1 L) ++ zb_M G a.2.2.1 L)).Perm ((zb_L G a.2.2.1 L ++ zb_M G a.2.2.1 L) ++ (zb_5 G a)) from (show ((zb_5 G a) ++ ((zb_L G a.2.2.1 L) ++ zb_M G a.2.2.1 L)).Perm ((zb_L G a.2.2.1 L) ++ ((zb_M G a.2.2.1 L) ++ zb_5 G a)) from (((List.Perm.append_left _ List.perm_append_comm).trans (List.perm_append_comm_assoc _ _ _))).trans ((List.Perm.append_left _ List.perm_append_comm).trans (List.perm_append_comm_assoc _ _ _))).trans (List.Perm.of_eq (by simp only [List.append_assoc, List.append_nil, List.nil_append]))).symm
    have hD : va_D A ((zb_5 G a) ++ ((zb_L G a.2.2.1 L) ++ zb_M G a.2.2.1 L)) := zk_Dperm hD (show ((zb_5 G a) ++ ((zb_L G a.2.2.1 L) ++ zb_M G a.2.2.1 L)).Perm ((zb_L G a.2.2.1 L ++ zb_M G a.2.2.1 L) ++ (zb_5 G a)) from (show ((zb_5 G a) ++ ((zb_L G a.2.2.1 L) ++ zb_M G a.2.2.1 L)).Perm ((zb_L G a.2.2.1 L) ++ ((zb_M G a.2.2.1 L) ++ zb_5 G a)) from (((List.Perm.append_left _ List.perm_append_comm).trans (List.perm_append_comm_assoc _ _ _))).trans ((List.Perm.append_left _ List.perm_append_comm).trans (List.perm_append_comm_assoc _ _ _))).trans (List.Perm.of_eq (by simp only [List.append_assoc, List.append_nil, List.nil_append]))).symm
    have hP : va_P G.1 vwCl ((zb_5 G a) ++ ((zb_L G a.2.2.1 L) ++ zb_M G a.2.2.1 L)) H := hP
    have hD : va_D A ((zb_5 G a) ++ ((zb_L G a.2.2.1 L) ++ zb_M G a.2.2.1 L)) := hD
    rw [hQ]
    refine vx_ret ?_
    exact zk_reti () rfl hx hb hr hlocks hS hP hD (Nat.le_of_ble_eq_true rfl) (Nat.le_of_ble_eq_true rfl) dX5_about_185 (⟨⟨11, by decide, h1_11⟩, by rw [xAbout_11 h1_11]⟩)
  refine lv_tableOut (tgt := 186) hx hb dX5_about_1 (zk_out (0) 12 (fun k hk z => by
        rcases (show k = 0 ∨ k = 1 ∨ k = 2 ∨ k = 3 ∨ k = 4 ∨ k = 5 ∨ k = 6 ∨ k = 7 ∨ k = 8 ∨ k = 9 ∨ k = 10 ∨ k = 11 by omega) with rfl | rfl | rfl | rfl | rfl | rfl | rfl | rfl | rfl | rfl | rfl | rfl
        · exact h1_n0 (zk_toI z (by decide))
        · exact h1_n1 (zk_toI z (by decide))
        · exact h1_n2 (zk_toI z (by decide))
        · exact h1_n3 (zk_toI z (by decide))
        · exact h1_n4 (zk_toI z (by decide))
        · exact h1_n5 (zk_toI z (by decide))
        · exact h1_n6 (zk_toI z (by decide))
        · exact h1_n7 (zk_toI z (by decide))
        · exact h1_n8 (zk_toI z (by decide))
        · exact h1_n9 (zk_toI z (by decide))
        · exact h1_n10 (zk_toI z (by decide))
        · exact h1_n11 (zk_toI z (by decide)))) (by decide) ?_
  rw [hQ]
  exact vx_throwS (cls := "java/lang/IllegalArgumentException") (names := zk_up) hx hb hst hown (by decide +kernel) (by decide +kernel) w1 w2 (zk_R11 hE.2.2.1) (zk_hat (fun w hw => hts w (List.mem_cons_of_mem _ (List.mem_append_right _ hw))) hE.2.1.2.2.2.2.2.2.2 hE.2.1.2.2.2.2.2.2.2.2.2.2.2.1 (by decide +kernel)) (by decide +kernel) (hE.2.2.2.1.1.narrow hA0) (hE.2.2.2.1.2.1.narrow hA0) hS (hl.1.trans hml.symm) dX5_about_186 dX5_about_189 dX5_about_190 dX5_about_192 dX5_about_195 (fun x h => (hnx x h).elim) (Nat.le_of_ble_eq_true rfl) (Nat.le_of_ble_eq_true rfl) (Nat.le_of_ble_eq_true rfl) (Nat.le_of_ble_eq_true rfl) hlocks (fun t _ hz hk => zk_thx hP hD hS (List.Perm.refl _) (⟨rfl, (fun ⟨j, hj, e⟩ => by
        rcases (show j = 0 ∨ j = 1 ∨ j = 2 ∨ j = 3 ∨ j = 4 ∨ j = 5 ∨ j = 6 ∨ j = 7 ∨ j = 8 ∨ j = 9 ∨ j = 10 ∨ j = 11 by omega) with rfl | rfl | rfl | rfl | rfl | rfl | rfl | rfl | rfl | rfl | rfl | rfl
        · exact h1_n0 e
        · exact h1_n1 e
        · exact h1_n2 e
        · exact h1_n3 e
        · exact h1_n4 e
        · exact h1_n5 e
        · exact h1_n6 e
        · exact h1_n7 e
        · exact h1_n8 e
        · exact h1_n9 e
        · exact h1_n10 e
        · exact h1_n11 e)⟩) hz hk) hS.2.2 (Nat.le_of_ble_eq_true rfl) (Nat.le_of_ble_eq_true rfl)

def xSetting (L : zL) (n t : Nat) (w : Int32) : Int32 :=
  if w = nI 0 then L 0 2 else if w = nI 1 then L 0 3 else -1
theorem xSetting_0 {L : zL} {n t : Nat} {w : Int32} (h : w = nI 0) : xSetting L n t w = L 0 2 := by subst h; rfl
theorem xSetting_1 {L : zL} {n t : Nat} {w : Int32} (h : w = nI 1) : xSetting L n t w = L 0 3 := by subst h; rfl
abbrev rmX5_setting : Room := { frames := 6, cells := 1, slots := 6, locals := 82 }
set_option maxHeartbeats 4000000 in
set_option maxRecDepth 100000 in
/-- a setting -/
theorem c_X5_setting (l : Launch) (G : zk_G) (hst : l.stackTraces = false) (a : zA) (L : zL) (n t : Nat) (hI : sInv L n t) (w : Int32) : zk_XI (S := Unit) l yX5_setting wsX5_setting rmX5_setting G [.ref a.1, .int w] ((zb_5 G a) ++ ((zb_L G a.2.2.1 L) ++ zb_M G a.2.2.1 L)) (fun r _ => zIn w 2 ∧ r = xSetting L n t w) (fun _ => (zb_5 G a) ++ ((zb_L G a.2.2.1 L) ++ zb_M G a.2.2.1 L)) (fun E => E = "java/lang/IllegalArgumentException" ∧ ¬ zIn w 2) := by
  refine zk_bodyXI (cc := cX5_setting) (maxL := 2) (ret := (some .int)) (by decide) rfl (Nat.le_of_ble_eq_true rfl) ?_
  intro p E0 s m args below meth cd A ls Q hF hnx hQ
  obtain ⟨hx, hb, hml, hr, hts, hown, hlocks, -, hE, hP, hD, hS, hA, hA0, hl⟩ := hF
  have hK := hE.1
  have hl : lv_has ls 2 [(0, .ref a.1), (1, .int w)] := hl
  obtain ⟨hn, hn12, ht, ht40, hfam, hpay⟩ := id hI
  have w3 := hts _ (List.mem_of_getElem? (l := wsX5_setting) (i := 3) (a := Cond.fieldLink RX5 19 "MealAccounts" "now" "LMealAccounts$Ledger;") rfl)
  have w4 := hts _ (List.mem_of_getElem? (l := wsX5_setting) (i := 4) (a := Cond.fieldLink RX5 200 "MealAccounts$Ledger" "price" "I") rfl)
  have w5 := hts _ (List.mem_of_getElem? (l := wsX5_setting) (i := 5) (a := Cond.fieldLink RX5 203 "MealAccounts$Ledger" "limit" "I") rfl)
  have w1 := hts _ (List.mem_of_getElem? (l := wsX5_setting) (i := 1) (a := Cond.classLink RX5 41 "java/lang/IllegalArgumentException") rfl)
  have w2 := hts _ (List.mem_of_getElem? (l := wsX5_setting) (i := 2) (a := Cond.initialized "java/lang/IllegalArgumentException") rfl)
  refine lv_iload_n hx hb dX5_setting_0 rfl (lv_at hl 1 rfl) ?_
  rcases Decidable.em (w = nI 0) with h1_0 | h1_n0
  · refine lv_lookup (tgt := 28) hx hb dX5_setting_1 (by decide) (off := 27) (by rw [h1_0]; decide) (by decide) ?_
    refine lv_aload_n hx hb dX5_setting_28 rfl (lv_at hl 0 rfl) ?_
    refine va_get (D := G.1) (ci := 4) (v := .ref (a.2.2.1 0)) (C := RX5) (T := TX5) (N := 6) hx hb hts (fun _ h => List.mem_cons_of_mem _ (List.mem_append_left _ (List.mem_append_left _ (List.mem_append_right _ h)))) hown hK hP 0 rfl rfl 1 (by decide) w3 (fun _ h9 => h9) rfl dX5_setting_29 ?_
    refine va_get (D := G.1) (ci := 1) (v := .int (L 0 2)) (C := RX2) (T := TX2) (N := 14) hx hb hts (fun _ h => List.mem_cons_of_mem _ (List.mem_append_left _ (List.mem_append_right _ h))) hown hK hP 1 rfl rfl 2 (by decide) w4 (fun _ h9 => h9) rfl dX5_setting_32 ?_
    rw [hQ]
    refine vx_ret ?_
    exact zk_reti () rfl hx hb hr hlocks hS hP hD (Nat.le_of_ble_eq_true rfl) (Nat.le_of_ble_eq_true rfl) dX5_setting_35 (⟨⟨0, by decide, h1_0⟩, by rw [xSetting_0 h1_0]⟩)
  rcases Decidable.em (w = nI 1) with h1_1 | h1_n1
  · refine lv_lookup (tgt := 36) hx hb dX5_setting_1 (by decide) (off := 35) (by rw [h1_1]; decide) (by decide) ?_
    refine lv_aload_n hx hb dX5_setting_36 rfl (lv_at hl 0 rfl) ?_
    refine va_get (D := G.1) (ci := 4) (v := .ref (a.2.2.1 0)) (C := RX5) (T := TX5) (N := 6) hx hb hts (fun _ h => List.mem_cons_of_mem _ (List.mem_append_left _ (List.mem_append_left _ (List.mem_append_right _ h)))) hown hK hP 0 rfl rfl 1 (by decide) w3 (fun _ h9 => h9) rfl dX5_setting_37 ?_
    refine va_get (D := G.1) (ci := 1) (v := .int (L 0 3)) (C := RX2) (T := TX2) (N := 14) hx hb hts (fun _ h => List.mem_cons_of_mem _ (List.mem_append_left _ (List.mem_append_right _ h))) hown hK hP 1 rfl rfl 3 (by decide) w5 (fun _ h9 => h9) rfl dX5_setting_40 ?_
    rw [hQ]
    refine vx_ret ?_
    exact zk_reti () rfl hx hb hr hlocks hS hP hD (Nat.le_of_ble_eq_true rfl) (Nat.le_of_ble_eq_true rfl) dX5_setting_43 (⟨⟨1, by decide, h1_1⟩, by rw [xSetting_1 h1_1]⟩)
  refine lv_lookup (tgt := 44) hx hb dX5_setting_1 (by decide) (off := 43) ((if_neg (fun z => h1_n0 (zk_toI z.symm (by decide)))).trans ((if_neg (fun z => h1_n1 (zk_toI z.symm (by decide)))).trans (rfl))) (by decide) ?_
  rw [hQ]
  exact vx_throwS (cls := "java/lang/IllegalArgumentException") (names := zk_up) hx hb hst hown (by decide +kernel) (by decide +kernel) w1 w2 (zk_R19 hE.2.2.1) (zk_hat (fun w hw => hts w (List.mem_cons_of_mem _ (List.mem_append_right _ hw))) hE.2.1.2.2.2.2.2.2.2 hE.2.1.2.2.2.2.2.2.2.2.2.2.2.1 (by decide +kernel)) (by decide +kernel) (hE.2.2.2.1.1.narrow hA0) (hE.2.2.2.1.2.1.narrow hA0) hS (hl.1.trans hml.symm) dX5_setting_44 dX5_setting_47 dX5_setting_48 dX5_setting_50 dX5_setting_53 (fun x h => (hnx x h).elim) (Nat.le_of_ble_eq_true rfl) (Nat.le_of_ble_eq_true rfl) (Nat.le_of_ble_eq_true rfl) (Nat.le_of_ble_eq_true rfl) hlocks (fun t _ hz hk => zk_thx hP hD hS (List.Perm.refl _) (⟨rfl, (fun ⟨j, hj, e⟩ => by
        rcases (show j = 0 ∨ j = 1 by omega) with rfl | rfl
        · exact h1_n0 e
        · exact h1_n1 e)⟩) hz hk) hS.2.2 (Nat.le_of_ble_eq_true rfl) (Nat.le_of_ble_eq_true rfl)

def xChild (L : zL) (n t : Nat) (ck : Nat) (w : Int32) : Int32 :=
  if w = nI 0 then (L 1) ck else if w = nI 1 then (L 2) ck else if w = nI 2 then (L 3) ck else if w = nI 3 then (L 4) ck else if w = nI 4 then (L 5) ck else if w = nI 5 then (zs (fun i => if L 9 (ck * 40 + i) = (nI 2) then nI 1 else nI 0) 40) + (zs (fun i => if L 9 (ck * 40 + i) = (nI 3) then nI 1 else nI 0) 40) else if w = nI 6 then zs (fun i => if L 9 (ck * 40 + i) = nI 2 ∧ ¬ L 11 (ck * 40 + i) = nI ck then nI 1 else nI 0) 40 else if w = nI 7 then zs (fun i => if L 9 i = nI 2 ∧ L 11 i = (nI ck) then L 10 i else nI 0) 480 else if w = nI 8 then zs (fun i => if L 9 (ck * 40 + i) = (nI 4) then nI 1 else nI 0) 40 else -1
theorem xChild_0 {L : zL} {n t : Nat} {ck : Nat} {w : Int32} (h : w = nI 0) : xChild L n t ck w = (L 1) ck := by subst h; rfl
theorem xChild_1 {L : zL} {n t : Nat} {ck : Nat} {w : Int32} (h : w = nI 1) : xChild L n t ck w = (L 2) ck := by subst h; rfl
theorem xChild_2 {L : zL} {n t : Nat} {ck : Nat} {w : Int32} (h : w = nI 2) : xChild L n t ck w = (L 3) ck := by subst h; rfl
theorem xChild_3 {L : zL} {n t : Nat} {ck : Nat} {w : Int32} (h : w = nI 3) : xChild L n t ck w = (L 4) ck := by subst h; rfl
theorem xChild_4 {L : zL} {n t : Nat} {ck : Nat} {w : Int32} (h : w = nI 4) : xChild L n t ck w = (L 5) ck := by subst h; rfl
theorem xChild_5 {L : zL} {n t : Nat} {ck : Nat} {w : Int32} (h : w = nI 5) : xChild L n t ck w = (zs (fun i => if L 9 (ck * 40 + i) = (nI 2) then nI 1 else nI 0) 40) + (zs (fun i => if L 9 (ck * 40 + i) = (nI 3) then nI 1 else nI 0) 40) := by subst h; rfl
theorem xChild_6 {L : zL} {n t : Nat} {ck : Nat} {w : Int32} (h : w = nI 6) : xChild L n t ck w = zs (fun i => if L 9 (ck * 40 + i) = nI 2 ∧ ¬ L 11 (ck * 40 + i) = nI ck then nI 1 else nI 0) 40 := by subst h; rfl
theorem xChild_7 {L : zL} {n t : Nat} {ck : Nat} {w : Int32} (h : w = nI 7) : xChild L n t ck w = zs (fun i => if L 9 i = nI 2 ∧ L 11 i = (nI ck) then L 10 i else nI 0) 480 := by subst h; rfl
theorem xChild_8 {L : zL} {n t : Nat} {ck : Nat} {w : Int32} (h : w = nI 8) : xChild L n t ck w = zs (fun i => if L 9 (ck * 40 + i) = (nI 4) then nI 1 else nI 0) 40 := by subst h; rfl
abbrev rmX5_child : Room := { frames := 7, cells := 4, slots := 24, locals := 103 }
set_option maxHeartbeats 4000000 in
set_option maxRecDepth 100000 in
/-- a child -/
theorem c_X5_child (l : Launch) (G : zk_G) (hst : l.stackTraces = false) (a : zA) (L : zL) (n t : Nat) (hI : sInv L n t) (c w : Int32) : zk_XI (S := Unit) l yX5_child wsX5_child rmX5_child G [.ref a.1, .int c, .int w] ((zb_5 G a) ++ ((zb_L G a.2.2.1 L) ++ zb_M G a.2.2.1 L)) (fun r _ => sHas L c ∧ zIn w 9 ∧ r = xChild L n t c.toNatClampNeg w) (fun _ => (zb_5 G a) ++ ((zb_L G a.2.2.1 L) ++ zb_M G a.2.2.1 L)) (fun E => (E = "java/lang/IndexOutOfBoundsException" ∧ ¬ sHas L c) ∨ (E = "java/lang/IllegalArgumentException" ∧ sHas L c ∧ ¬ zIn w 9)) := by
  refine zk_bodyXI (cc := cX5_child) (maxL := 3) (ret := (some .int)) (by decide) rfl (Nat.le_of_ble_eq_true rfl) ?_
  intro p E0 s m args below meth cd A ls Q hF hnx hQ
  obtain ⟨hx, hb, hml, hr, hts, hown, hlocks, -, hE, hP, hD, hS, hA, hA0, hl⟩ := hF
  have hK := hE.1
  have hl : lv_has ls 3 [(0, .ref a.1), (1, .int c), (2, .int w)] := hl
  obtain ⟨hn, hn12, ht, ht40, hfam, hpay⟩ := id hI
  have w3 := hts _ (List.mem_of_getElem? (l := wsX5_child) (i := 3) (a := Cond.fieldLink RX5 19 "MealAccounts" "now" "LMealAccounts$Ledger;") rfl)
  have w4 := hts _ (List.mem_of_getElem? (l := wsX5_child) (i := 4) (a := Cond.fieldLink RX5 124 "MealAccounts$Ledger" "familyOf" "[I") rfl)
  have w5 := hts _ (List.mem_of_getElem? (l := wsX5_child) (i := 5) (a := Cond.fieldLink RX5 128 "MealAccounts$Ledger" "dietOf" "[I") rfl)
  have w6 := hts _ (List.mem_of_getElem? (l := wsX5_child) (i := 6) (a := Cond.fieldLink RX5 131 "MealAccounts$Ledger" "balanceOf" "[I") rfl)
  have w7 := hts _ (List.mem_of_getElem? (l := wsX5_child) (i := 7) (a := Cond.fieldLink RX5 134 "MealAccounts$Ledger" "firstDayOf" "[I") rfl)
  have w8 := hts _ (List.mem_of_getElem? (l := wsX5_child) (i := 8) (a := Cond.fieldLink RX5 137 "MealAccounts$Ledger" "lastDayOf" "[I") rfl)
  have w9 := hts _ (List.mem_of_getElem? (l := wsX5_child) (i := 9) (a := Cond.fieldLink RX5 93 "MealAccounts$Ledger" "meals" "LMealAccounts$Meals;") rfl)
  have w1 := hts _ (List.mem_of_getElem? (l := wsX5_child) (i := 1) (a := Cond.classLink RX5 41 "java/lang/IllegalArgumentException") rfl)
  have w2 := hts _ (List.mem_of_getElem? (l := wsX5_child) (i := 2) (a := Cond.initialized "java/lang/IllegalArgumentException") rfl)
  refine lv_aload_n hx hb dX5_child_0 rfl (lv_at hl 0 rfl) ?_
  refine lv_iload_n hx hb dX5_child_1 rfl (lv_at hl 1 rfl) ?_
  have hP0 : va_P G.1 vwCl (((zb_5 G a) ++ ((zb_L G a.2.2.1 L) ++ zb_M G a.2.2.1 L)) ++ (([] : va_W))) s.heap := zk_Pperm hP (show ((zb_5 G a) ++ ((zb_L G a.2.2.1 L) ++ zb_M G a.2.2.1 L)).Perm (((zb_5 G a) ++ ((zb_L G a.2.2.1 L) ++ zb_M G a.2.2.1 L)) ++ (([] : va_W))) from (show ((zb_5 G a) ++ ((zb_L G a.2.2.1 L) ++ zb_M G a.2.2.1 L)).Perm ((zb_5 G a) ++ ((zb_L G a.2.2.1 L) ++ zb_M G a.2.2.1 L)) from ((((List.Perm.append_left _ List.perm_append_comm).trans (List.perm_append_comm_assoc _ _ _))).trans ((List.Perm.append_left _ List.perm_append_comm).trans (List.perm_append_comm_assoc _ _ _))).trans ((List.Perm.append_left _ List.perm_append_comm).trans (List.perm_append_comm_assoc _ _ _))).trans (List.Perm.of_eq (by simp only [List.append_assoc, List.append_nil, List.nil_append])))
  have hD0 : va_D A (((zb_5 G a) ++ ((zb_L G a.2.2.1 L) ++ zb_M G a.2.2.1 L)) ++ (([] : va_W))) := zk_Dperm hD (show ((zb_5 G a) ++ ((zb_L G a.2.2.1 L) ++ zb_M G a.2.2.1 L)).Perm (((zb_5 G a) ++ ((zb_L G a.2.2.1 L) ++ zb_M G a.2.2.1 L)) ++ (([] : va_W))) from (show ((zb_5 G a) ++ ((zb_L G a.2.2.1 L) ++ zb_M G a.2.2.1 L)).Perm ((zb_5 G a) ++ ((zb_L G a.2.2.1 L) ++ zb_M G a.2.2.1 L)) from ((((List.Perm.append_left _ List.perm_append_comm).trans (List.perm_append_comm_assoc _ _ _))).trans ((List.Perm.append_left _ List.perm_append_comm).trans (List.perm_append_comm_assoc _ _ _))).trans ((List.Perm.append_left _ List.perm_append_comm).trans (List.perm_append_comm_assoc _ _ _))).trans (List.Perm.of_eq (by simp only [List.append_assoc, List.append_nil, List.nil_append])))
  refine zk_callXV (wr := ([] : va_W)) (vx_runV (As := [.int c]) (rest := []) ⟨hx, hb, hml, hown, hts⟩ (c_X5_requireChild l G hst a L n t hI c _) (cwV 1 hts gX5_child_X5_requireChild rfl rfl rfl (by decide +kernel) ⟨Nat.le_of_ble_eq_true rfl, Nat.le_of_ble_eq_true rfl⟩) (zk_preV hE hA0 hS (zk_Papp hP0).1 (zk_Dapp hD0).1 (va_recv hK hP (ci := 4) (q0 := 0) rfl rfl)) rfl rfl hl.1 rfl (lv_room (Nat.le_of_ble_eq_true rfl)) dX5_child_2 ⟨Nat.le_of_ble_eq_true rfl, Nat.le_of_ble_eq_true rfl⟩) hQ hnx hlocks (Nat.le_of_ble_eq_true rfl) (Nat.le_of_ble_eq_true rfl) (show ((zb_5 G a) ++ ((zb_L G a.2.2.1 L) ++ zb_M G a.2.2.1 L)).Perm (((zb_5 G a) ++ ((zb_L G a.2.2.1 L) ++ zb_M G a.2.2.1 L)) ++ (([] : va_W))) from (show ((zb_5 G a) ++ ((zb_L G a.2.2.1 L) ++ zb_M G a.2.2.1 L)).Perm (((zb_5 G a) ++ ((zb_L G a.2.2.1 L) ++ zb_M G a.2.2.1 L)) ++ (([] : va_W))) from (show ((zb_5 G a) ++ ((zb_L G a.2.2.1 L) ++ zb_M G a.2.2.1 L)).Perm ((zb_5 G a) ++ ((zb_L G a.2.2.1 L) ++ zb_M G a.2.2.1 L)) from ((((List.Perm.append_left _ List.perm_append_comm).trans (List.perm_append_comm_assoc _ _ _))).trans ((List.Perm.append_left _ List.perm_append_comm).trans (List.perm_append_comm_assoc _ _ _))).trans ((List.Perm.append_left _ List.perm_append_comm).trans (List.perm_append_comm_assoc _ _ _))).trans (List.Perm.of_eq (by simp only [List.append_assoc, List.append_nil, List.nil_append])))).symm (fun E h => Or.inl h) hP0 hD0 hS hA (fun _ H locs hq1 hP hD hS => ?_)
  have hP : va_P G.1 vwCl ((zb_5 G a) ++ ((zb_L G a.2.2.1 L) ++ zb_M G a.2.2.1 L)) H := zk_Pperm hP (show ((zb_5 G a) ++ ((zb_L G a.2.2.1 L) ++ zb_M G a.2.2.1 L)).Perm (((zb_5 G a) ++ ((zb_L G a.2.2.1 L) ++ zb_M G a.2.2.1 L)) ++ (([] : va_W))) from (show ((zb_5 G a) ++ ((zb_L G a.2.2.1 L) ++ zb_M G a.2.2.1 L)).Perm ((zb_5 G a) ++ ((zb_L G a.2.2.1 L) ++ zb_M G a.2.2.1 L)) from ((((List.Perm.append_left _ List.perm_append_comm).trans (List.perm_append_comm_assoc _ _ _))).trans ((List.Perm.append_left _ List.perm_append_comm).trans (List.perm_append_comm_assoc _ _ _))).trans ((List.Perm.append_left _ List.perm_append_comm).trans (List.perm_append_comm_assoc _ _ _))).trans (List.Perm.of_eq (by simp only [List.append_assoc, List.append_nil, List.nil_append]))).symm
  have hD : va_D A ((zb_5 G a) ++ ((zb_L G a.2.2.1 L) ++ zb_M G a.2.2.1 L)) := zk_Dperm hD (show ((zb_5 G a) ++ ((zb_L G a.2.2.1 L) ++ zb_M G a.2.2.1 L)).Perm (((zb_5 G a) ++ ((zb_L G a.2.2.1 L) ++ zb_M G a.2.2.1 L)) ++ (([] : va_W))) from (show ((zb_5 G a) ++ ((zb_L G a.2.2.1 L) ++ zb_M G a.2.2.1 L)).Perm ((zb_5 G a) ++ ((zb_L G a.2.2.1 L) ++ zb_M G a.2.2.1 L)) from ((((List.Perm.append_left _ List.perm_append_comm).trans (List.perm_append_comm_assoc _ _ _))).trans ((List.Perm.append_left _ List.perm_append_comm).trans (List.perm_append_comm_assoc _ _ _))).trans ((List.Perm.append_left _ List.perm_append_comm).trans (List.perm_append_comm_assoc _ _ _))).trans (List.Perm.of_eq (by simp only [List.append_assoc, List.append_nil, List.nil_append]))).symm
  obtain ⟨ck, hck, eck⟩ := sHas_nat hI hq1
  subst eck
  have nck := nI_clamp (show ck < 2 ^ 31 by omega)
  refine lv_iload_n hx hb dX5_child_5 rfl (lv_at hl 2 rfl) ?_
  rcases Decidable.em (w = nI 0) with h2_0 | h2_n0
  · refine lv_tableIn (tgt := 56) hx hb dX5_child_6 (by rw [h2_0]; decide) (by rw [h2_0]; decide) (by rw [h2_0]; rfl) (by decide) ?_
    refine lv_aload_n hx hb dX5_child_56 rfl (lv_at hl 0 rfl) ?_
    refine va_get (D := G.1) (ci := 4) (v := .ref (a.2.2.1 0)) (C := RX5) (T := TX5) (N := 6) hx hb hts (fun _ h => List.mem_cons_of_mem _ (List.mem_append_left _ (List.mem_append_left _ (List.mem_append_left _ (List.mem_append_left _ (List.mem_append_right _ h)))))) hown hK hP 0 rfl rfl 1 (by decide) w3 (fun _ h9 => h9) rfl dX5_child_57 ?_
    refine va_get (D := G.1) (ci := 1) (v := .ref (a.2.2.1 1)) (C := RX2) (T := TX2) (N := 14) hx hb hts (fun _ h => List.mem_cons_of_mem _ (List.mem_append_left _ (List.mem_append_left _ (List.mem_append_left _ (List.mem_append_right _ h))))) hown hK hP 1 rfl rfl 5 (by decide) w4 (fun _ h9 => h9) rfl dX5_child_60 ?_
    refine lv_iload_n hx hb dX5_child_63 rfl (lv_at hl 1 rfl) ?_
    refine zk_ialdN hx hb hK hP 2 0 rfl rfl (k := ck) (n := 12) (by omega) (by omega) dX5_child_64 ?_
    rw [hQ]
    refine vx_ret ?_
    exact zk_reti () rfl hx hb hr hlocks hS hP hD (Nat.le_of_ble_eq_true rfl) (Nat.le_of_ble_eq_true rfl) dX5_child_65 (⟨hq1, ⟨0, by decide, h2_0⟩, by rw [nck, xChild_0 h2_0]⟩)
  rcases Decidable.em (w = nI 1) with h2_1 | h2_n1
  · refine lv_tableIn (tgt := 66) hx hb dX5_child_6 (by rw [h2_1]; decide) (by rw [h2_1]; decide) (by rw [h2_1]; rfl) (by decide) ?_
    refine lv_aload_n hx hb dX5_child_66 rfl (lv_at hl 0 rfl) ?_
    refine va_get (D := G.1) (ci := 4) (v := .ref (a.2.2.1 0)) (C := RX5) (T := TX5) (N := 6) hx hb hts (fun _ h => List.mem_cons_of_mem _ (List.mem_append_left _ (List.mem_append_left _ (List.mem_append_left _ (List.mem_append_left _ (List.mem_append_right _ h)))))) hown hK hP 0 rfl rfl 1 (by decide) w3 (fun _ h9 => h9) rfl dX5_child_67 ?_
    refine va_get (D := G.1) (ci := 1) (v := .ref (a.2.2.1 2)) (C := RX2) (T := TX2) (N := 14) hx hb hts (fun _ h => List.mem_cons_of_mem _ (List.mem_append_left _ (List.mem_append_left _ (List.mem_append_left _ (List.mem_append_right _ h))))) hown hK hP 1 rfl rfl 6 (by decide) w5 (fun _ h9 => h9) rfl dX5_child_70 ?_
    refine lv_iload_n hx hb dX5_child_73 rfl (lv_at hl 1 rfl) ?_
    refine zk_ialdN hx hb hK hP 3 0 rfl rfl (k := ck) (n := 12) (by omega) (by omega) dX5_child_74 ?_
    rw [hQ]
    refine vx_ret ?_
    exact zk_reti () rfl hx hb hr hlocks hS hP hD (Nat.le_of_ble_eq_true rfl) (Nat.le_of_ble_eq_true rfl) dX5_child_75 (⟨hq1, ⟨1, by decide, h2_1⟩, by rw [nck, xChild_1 h2_1]⟩)
  rcases Decidable.em (w = nI 2) with h2_2 | h2_n2
  · refine lv_tableIn (tgt := 76) hx hb dX5_child_6 (by rw [h2_2]; decide) (by rw [h2_2]; decide) (by rw [h2_2]; rfl) (by decide) ?_
    refine lv_aload_n hx hb dX5_child_76 rfl (lv_at hl 0 rfl) ?_
    refine va_get (D := G.1) (ci := 4) (v := .ref (a.2.2.1 0)) (C := RX5) (T := TX5) (N := 6) hx hb hts (fun _ h => List.mem_cons_of_mem _ (List.mem_append_left _ (List.mem_append_left _ (List.mem_append_left _ (List.mem_append_left _ (List.mem_append_right _ h)))))) hown hK hP 0 rfl rfl 1 (by decide) w3 (fun _ h9 => h9) rfl dX5_child_77 ?_
    refine va_get (D := G.1) (ci := 1) (v := .ref (a.2.2.1 3)) (C := RX2) (T := TX2) (N := 14) hx hb hts (fun _ h => List.mem_cons_of_mem _ (List.mem_append_left _ (List.mem_append_left _ (List.mem_append_left _ (List.mem_append_right _ h))))) hown hK hP 1 rfl rfl 7 (by decide) w6 (fun _ h9 => h9) rfl dX5_child_80 ?_
    refine lv_iload_n hx hb dX5_child_83 rfl (lv_at hl 1 rfl) ?_
    refine zk_ialdN hx hb hK hP 4 0 rfl rfl (k := ck) (n := 12) (by omega) (by omega) dX5_child_84 ?_
    rw [hQ]
    refine vx_ret ?_
    exact zk_reti () rfl hx hb hr hlocks hS hP hD (Nat.le_of_ble_eq_true rfl) (Nat.le_of_ble_eq_true rfl) dX5_child_85 (⟨hq1, ⟨2, by decide, h2_2⟩, by rw [nck, xChild_2 h2_2]⟩)
  rcases Decidable.em (w = nI 3) with h2_3 | h2_n3
  · refine lv_tableIn (tgt := 86) hx hb dX5_child_6 (by rw [h2_3]; decide) (by rw [h2_3]; decide) (by rw [h2_3]; rfl) (by decide) ?_
    refine lv_aload_n hx hb dX5_child_86 rfl (lv_at hl 0 rfl) ?_
    refine va_get (D := G.1) (ci := 4) (v := .ref (a.2.2.1 0)) (C := RX5) (T := TX5) (N := 6) hx hb hts (fun _ h => List.mem_cons_of_mem _ (List.mem_append_left _ (List.mem_append_left _ (List.mem_append_left _ (List.mem_append_left _ (List.mem_append_right _ h)))))) hown hK hP 0 rfl rfl 1 (by decide) w3 (fun _ h9 => h9) rfl dX5_child_87 ?_
    refine va_get (D := G.1) (ci := 1) (v := .ref (a.2.2.1 4)) (C := RX2) (T := TX2) (N := 14) hx hb hts (fun _ h => List.mem_cons_of_mem _ (List.mem_append_left _ (List.mem_append_left _ (List.mem_append_left _ (List.mem_append_right _ h))))) hown hK hP 1 rfl rfl 8 (by decide) w7 (fun _ h9 => h9) rfl dX5_child_90 ?_
    refine lv_iload_n hx hb dX5_child_93 rfl (lv_at hl 1 rfl) ?_
    refine zk_ialdN hx hb hK hP 5 0 rfl rfl (k := ck) (n := 12) (by omega) (by omega) dX5_child_94 ?_
    rw [hQ]
    refine vx_ret ?_
    exact zk_reti () rfl hx hb hr hlocks hS hP hD (Nat.le_of_ble_eq_true rfl) (Nat.le_of_ble_eq_true rfl) dX5_child_95 (⟨hq1, ⟨3, by decide, h2_3⟩, by rw [nck, xChild_3 h2_3]⟩)
  rcases Decidable.em (w = nI 4) with h2_4 | h2_n4
  · refine lv_tableIn (tgt := 96) hx hb dX5_child_6 (by rw [h2_4]; decide) (by rw [h2_4]; decide) (by rw [h2_4]; rfl) (by decide) ?_
    refine lv_aload_n hx hb dX5_child_96 rfl (lv_at hl 0 rfl) ?_
    refine va_get (D := G.1) (ci := 4) (v := .ref (a.2.2.1 0)) (C := RX5) (T := TX5) (N := 6) hx hb hts (fun _ h => List.mem_cons_of_mem _ (List.mem_append_left _ (List.mem_append_left _ (List.mem_append_left _ (List.mem_append_left _ (List.mem_append_right _ h)))))) hown hK hP 0 rfl rfl 1 (by decide) w3 (fun _ h9 => h9) rfl dX5_child_97 ?_
    refine va_get (D := G.1) (ci := 1) (v := .ref (a.2.2.1 5)) (C := RX2) (T := TX2) (N := 14) hx hb hts (fun _ h => List.mem_cons_of_mem _ (List.mem_append_left _ (List.mem_append_left _ (List.mem_append_left _ (List.mem_append_right _ h))))) hown hK hP 1 rfl rfl 9 (by decide) w8 (fun _ h9 => h9) rfl dX5_child_100 ?_
    refine lv_iload_n hx hb dX5_child_103 rfl (lv_at hl 1 rfl) ?_
    refine zk_ialdN hx hb hK hP 6 0 rfl rfl (k := ck) (n := 12) (by omega) (by omega) dX5_child_104 ?_
    rw [hQ]
    refine vx_ret ?_
    exact zk_reti () rfl hx hb hr hlocks hS hP hD (Nat.le_of_ble_eq_true rfl) (Nat.le_of_ble_eq_true rfl) dX5_child_105 (⟨hq1, ⟨4, by decide, h2_4⟩, by rw [nck, xChild_4 h2_4]⟩)
  rcases Decidable.em (w = nI 5) with h2_5 | h2_n5
  · refine lv_tableIn (tgt := 106) hx hb dX5_child_6 (by rw [h2_5]; decide) (by rw [h2_5]; decide) (by rw [h2_5]; rfl) (by decide) ?_
    refine lv_aload_n hx hb dX5_child_106 rfl (lv_at hl 0 rfl) ?_
    refine va_get (D := G.1) (ci := 4) (v := .ref (a.2.2.1 0)) (C := RX5) (T := TX5) (N := 6) hx hb hts (fun _ h => List.mem_cons_of_mem _ (List.mem_append_left _ (List.mem_append_left _ (List.mem_append_left _ (List.mem_append_left _ (List.mem_append_right _ h)))))) hown hK hP 0 rfl rfl 1 (by decide) w3 (fun _ h9 => h9) rfl dX5_child_107 ?_
    refine va_get (D := G.1) (ci := 1) (v := .ref (a.2.2.1 9)) (C := RX2) (T := TX2) (N := 14) hx hb hts (fun _ h => List.mem_cons_of_mem _ (List.mem_append_left _ (List.mem_append_left _ (List.mem_append_left _ (List.mem_append_right _ h))))) hown hK hP 1 rfl rfl 13 (by decide) w9 (fun _ h9 => h9) rfl dX5_child_110 ?_
    refine lv_iload_n hx hb dX5_child_113 rfl (lv_at hl 1 rfl) ?_
    refine lv_iconst (v := nI 2) hx hb dX5_child_114 (by decide) ?_
    have hP0 : va_P G.1 vwCl ((zb_M G a.2.2.1 L) ++ ((zb_5 G a) ++ zb_L G a.2.2.1 L)) H := zk_Pperm hP (show ((zb_5 G a) ++ ((zb_L G a.2.2.1 L) ++ zb_M G a.2.2.1 L)).Perm ((zb_M G a.2.2.1 L) ++ ((zb_5 G a) ++ zb_L G a.2.2.1 L)) from (show ((zb_5 G a) ++ ((zb_L G a.2.2.1 L) ++ zb_M G a.2.2.1 L)).Perm ((zb_M G a.2.2.1 L) ++ ((zb_5 G a) ++ zb_L G a.2.2.1 L)) from ((List.Perm.append_left _ List.perm_append_comm).trans (List.perm_append_comm_assoc _ _ _))).trans (List.Perm.of_eq (by simp only [List.append_assoc, List.append_nil, List.nil_append])))
    have hD0 : va_D A ((zb_M G a.2.2.1 L) ++ ((zb_5 G a) ++ zb_L G a.2.2.1 L)) := zk_Dperm hD (show ((zb_5 G a) ++ ((zb_L G a.2.2.1 L) ++ zb_M G a.2.2.1 L)).Perm ((zb_M G a.2.2.1 L) ++ ((zb_5 G a) ++ zb_L G a.2.2.1 L)) from (show ((zb_5 G a) ++ ((zb_L G a.2.2.1 L) ++ zb_M G a.2.2.1 L)).Perm ((zb_M G a.2.2.1 L) ++ ((zb_5 G a) ++ zb_L G a.2.2.1 L)) from ((List.Perm.append_left _ List.perm_append_comm).trans (List.perm_append_comm_assoc _ _ _))).trans (List.Perm.of_eq (by simp only [List.append_assoc, List.append_nil, List.nil_append])))
    refine zk_callI (wr := (zb_5 G a) ++ zb_L G a.2.2.1 L) (va_runV (As := [.int (nI ck), .int (nI 2)]) (rest := []) ⟨hx, hb, hml, hown, hts⟩ (c_X3_countOf l G a.2.2.1 L ck (nI 2) (by omega) _) (cwV 2 hts gX5_child_X3_countOf rfl rfl rfl (by decide +kernel) ⟨Nat.le_of_ble_eq_true rfl, Nat.le_of_ble_eq_true rfl⟩) (zk_preV hE hA0 hS (zk_Papp hP0).1 (zk_Dapp hD0).1 (va_recv hK hP (ci := 2) (q0 := 10) rfl rfl)) rfl rfl hl.1 rfl (lv_room (Nat.le_of_ble_eq_true rfl)) dX5_child_115 ⟨Nat.le_of_ble_eq_true rfl, Nat.le_of_ble_eq_true rfl⟩) hP0 hD0 hS hA (fun r3 u4 H locs q5 hP hD hS => ?_)
    subst q5
    have hP : va_P G.1 vwCl ((zb_5 G a) ++ ((zb_L G a.2.2.1 L) ++ zb_M G a.2.2.1 L)) H := zk_Pperm hP (show ((zb_5 G a) ++ ((zb_L G a.2.2.1 L) ++ zb_M G a.2.2.1 L)).Perm ((zb_M G a.2.2.1 L) ++ ((zb_5 G a) ++ zb_L G a.2.2.1 L)) from (show ((zb_5 G a) ++ ((zb_L G a.2.2.1 L) ++ zb_M G a.2.2.1 L)).Perm ((zb_M G a.2.2.1 L) ++ ((zb_5 G a) ++ zb_L G a.2.2.1 L)) from ((List.Perm.append_left _ List.perm_append_comm).trans (List.perm_append_comm_assoc _ _ _))).trans (List.Perm.of_eq (by simp only [List.append_assoc, List.append_nil, List.nil_append]))).symm
    have hD : va_D A ((zb_5 G a) ++ ((zb_L G a.2.2.1 L) ++ zb_M G a.2.2.1 L)) := zk_Dperm hD (show ((zb_5 G a) ++ ((zb_L G a.2.2.1 L) ++ zb_M G a.2.2.1 L)).Perm ((zb_M G a.2.2.1 L) ++ ((zb_5 G a) ++ zb_L G a.2.2.1 L)) from (show ((zb_5 G a) ++ ((zb_L G a.2.2.1 L) ++ zb_M G a.2.2.1 L)).Perm ((zb_M G a.2.2.1 L) ++ ((zb_5 G a) ++ zb_L G a.2.2.1 L)) from ((List.Perm.append_left _ List.perm_append_comm).trans (List.perm_append_comm_assoc _ _ _))).trans (List.Perm.of_eq (by simp only [List.append_assoc, List.append_nil, List.nil_append]))).symm
    have hP : va_P G.1 vwCl ((zb_5 G a) ++ ((zb_L G a.2.2.1 L) ++ zb_M G a.2.2.1 L)) H := hP
    have hD : va_D A ((zb_5 G a) ++ ((zb_L G a.2.2.1 L) ++ zb_M G a.2.2.1 L)) := hD
    refine lv_aload_n hx hb dX5_child_118 rfl (lv_at hl 0 rfl) ?_
    refine va_get (D := G.1) (ci := 4) (v := .ref (a.2.2.1 0)) (C := RX5) (T := TX5) (N := 6) hx hb hts (fun _ h => List.mem_cons_of_mem _ (List.mem_append_left _ (List.mem_append_left _ (List.mem_append_left _ (List.mem_append_left _ (List.mem_append_right _ h)))))) hown hK hP 0 rfl rfl 1 (by decide) w3 (fun _ h9 => h9) rfl dX5_child_119 ?_
    refine va_get (D := G.1) (ci := 1) (v := .ref (a.2.2.1 9)) (C := RX2) (T := TX2) (N := 14) hx hb hts (fun _ h => List.mem_cons_of_mem _ (List.mem_append_left _ (List.mem_append_left _ (List.mem_append_left _ (List.mem_append_right _ h))))) hown hK hP 1 rfl rfl 13 (by decide) w9 (fun _ h9 => h9) rfl dX5_child_122 ?_
    refine lv_iload_n hx hb dX5_child_125 rfl (lv_at hl 1 rfl) ?_
    refine lv_iconst (v := nI 3) hx hb dX5_child_126 (by decide) ?_
    have hP0 : va_P G.1 vwCl ((zb_M G a.2.2.1 L) ++ ((zb_5 G a) ++ zb_L G a.2.2.1 L)) H := zk_Pperm hP (show ((zb_5 G a) ++ ((zb_L G a.2.2.1 L) ++ zb_M G a.2.2.1 L)).Perm ((zb_M G a.2.2.1 L) ++ ((zb_5 G a) ++ zb_L G a.2.2.1 L)) from (show ((zb_5 G a) ++ ((zb_L G a.2.2.1 L) ++ zb_M G a.2.2.1 L)).Perm ((zb_M G a.2.2.1 L) ++ ((zb_5 G a) ++ zb_L G a.2.2.1 L)) from ((List.Perm.append_left _ List.perm_append_comm).trans (List.perm_append_comm_assoc _ _ _))).trans (List.Perm.of_eq (by simp only [List.append_assoc, List.append_nil, List.nil_append])))
    have hD0 : va_D A ((zb_M G a.2.2.1 L) ++ ((zb_5 G a) ++ zb_L G a.2.2.1 L)) := zk_Dperm hD (show ((zb_5 G a) ++ ((zb_L G a.2.2.1 L) ++ zb_M G a.2.2.1 L)).Perm ((zb_M G a.2.2.1 L) ++ ((zb_5 G a) ++ zb_L G a.2.2.1 L)) from (show ((zb_5 G a) ++ ((zb_L G a.2.2.1 L) ++ zb_M G a.2.2.1 L)).Perm ((zb_M G a.2.2.1 L) ++ ((zb_5 G a) ++ zb_L G a.2.2.1 L)) from ((List.Perm.append_left _ List.perm_append_comm).trans (List.perm_append_comm_assoc _ _ _))).trans (List.Perm.of_eq (by simp only [List.append_assoc, List.append_nil, List.nil_append])))
    refine zk_callI (wr := (zb_5 G a) ++ zb_L G a.2.2.1 L) (va_runV (As := [.int (nI ck), .int (nI 3)]) (rest := [.int (zs (fun i => if L 9 (ck * 40 + i) = (nI 2) then nI 1 else nI 0) 40)]) ⟨hx, hb, hml, hown, hts⟩ (c_X3_countOf l G a.2.2.1 L ck (nI 3) (by omega) _) (cwV 2 hts gX5_child_X3_countOf rfl rfl rfl (by decide +kernel) ⟨Nat.le_of_ble_eq_true rfl, Nat.le_of_ble_eq_true rfl⟩) (zk_preV hE hA0 hS (zk_Papp hP0).1 (zk_Dapp hD0).1 (va_recv hK hP (ci := 2) (q0 := 10) rfl rfl)) rfl rfl hl.1 rfl (lv_room (Nat.le_of_ble_eq_true rfl)) dX5_child_127 ⟨Nat.le_of_ble_eq_true rfl, Nat.le_of_ble_eq_true rfl⟩) hP0 hD0 hS hA (fun r6 u7 H locs q8 hP hD hS => ?_)
    subst q8
    have hP : va_P G.1 vwCl ((zb_5 G a) ++ ((zb_L G a.2.2.1 L) ++ zb_M G a.2.2.1 L)) H := zk_Pperm hP (show ((zb_5 G a) ++ ((zb_L G a.2.2.1 L) ++ zb_M G a.2.2.1 L)).Perm ((zb_M G a.2.2.1 L) ++ ((zb_5 G a) ++ zb_L G a.2.2.1 L)) from (show ((zb_5 G a) ++ ((zb_L G a.2.2.1 L) ++ zb_M G a.2.2.1 L)).Perm ((zb_M G a.2.2.1 L) ++ ((zb_5 G a) ++ zb_L G a.2.2.1 L)) from ((List.Perm.append_left _ List.perm_append_comm).trans (List.perm_append_comm_assoc _ _ _))).trans (List.Perm.of_eq (by simp only [List.append_assoc, List.append_nil, List.nil_append]))).symm
    have hD : va_D A ((zb_5 G a) ++ ((zb_L G a.2.2.1 L) ++ zb_M G a.2.2.1 L)) := zk_Dperm hD (show ((zb_5 G a) ++ ((zb_L G a.2.2.1 L) ++ zb_M G a.2.2.1 L)).Perm ((zb_M G a.2.2.1 L) ++ ((zb_5 G a) ++ zb_L G a.2.2.1 L)) from (show ((zb_5 G a) ++ ((zb_L G a.2.2.1 L) ++ zb_M G a.2.2.1 L)).Perm ((zb_M G a.2.2.1 L) ++ ((zb_5 G a) ++ zb_L G a.2.2.1 L)) from ((List.Perm.append_left _ List.perm_append_comm).trans (List.perm_append_comm_assoc _ _ _))).trans (List.Perm.of_eq (by simp only [List.append_assoc, List.append_nil, List.nil_append]))).symm
    have hP : va_P G.1 vwCl ((zb_5 G a) ++ ((zb_L G a.2.2.1 L) ++ zb_M G a.2.2.1 L)) H := hP
    have hD : va_D A ((zb_5 G a) ++ ((zb_L G a.2.2.1 L) ++ zb_M G a.2.2.1 L)) := hD
    refine lv_iadd hx hb dX5_child_130 ?_
    rw [hQ]
    refine vx_ret ?_
    exact zk_reti () rfl hx hb hr hlocks hS hP hD (Nat.le_of_ble_eq_true rfl) (Nat.le_of_ble_eq_true rfl) dX5_child_131 (⟨hq1, ⟨5, by decide, h2_5⟩, by rw [nck, xChild_5 h2_5]⟩)
  rcases Decidable.em (w = nI 6) with h2_6 | h2_n6
  · refine lv_tableIn (tgt := 132) hx hb dX5_child_6 (by rw [h2_6]; decide) (by rw [h2_6]; decide) (by rw [h2_6]; rfl) (by decide) ?_
    refine lv_aload_n hx hb dX5_child_132 rfl (lv_at hl 0 rfl) ?_
    refine va_get (D := G.1) (ci := 4) (v := .ref (a.2.2.1 0)) (C := RX5) (T := TX5) (N := 6) hx hb hts (fun _ h => List.mem_cons_of_mem _ (List.mem_append_left _ (List.mem_append_left _ (List.mem_append_left _ (List.mem_append_left _ (List.mem_append_right _ h)))))) hown hK hP 0 rfl rfl 1 (by decide) w3 (fun _ h9 => h9) rfl dX5_child_133 ?_
    refine va_get (D := G.1) (ci := 1) (v := .ref (a.2.2.1 9)) (C := RX2) (T := TX2) (N := 14) hx hb hts (fun _ h => List.mem_cons_of_mem _ (List.mem_append_left _ (List.mem_append_left _ (List.mem_append_left _ (List.mem_append_right _ h))))) hown hK hP 1 rfl rfl 13 (by decide) w9 (fun _ h9 => h9) rfl dX5_child_136 ?_
    refine lv_iload_n hx hb dX5_child_139 rfl (lv_at hl 1 rfl) ?_
    have hP0 : va_P G.1 vwCl ((zb_M G a.2.2.1 L) ++ ((zb_5 G a) ++ zb_L G a.2.2.1 L)) H := zk_Pperm hP (show ((zb_5 G a) ++ ((zb_L G a.2.2.1 L) ++ zb_M G a.2.2.1 L)).Perm ((zb_M G a.2.2.1 L) ++ ((zb_5 G a) ++ zb_L G a.2.2.1 L)) from (show ((zb_5 G a) ++ ((zb_L G a.2.2.1 L) ++ zb_M G a.2.2.1 L)).Perm ((zb_M G a.2.2.1 L) ++ ((zb_5 G a) ++ zb_L G a.2.2.1 L)) from ((List.Perm.append_left _ List.perm_append_comm).trans (List.perm_append_comm_assoc _ _ _))).trans (List.Perm.of_eq (by simp only [List.append_assoc, List.append_nil, List.nil_append])))
    have hD0 : va_D A ((zb_M G a.2.2.1 L) ++ ((zb_5 G a) ++ zb_L G a.2.2.1 L)) := zk_Dperm hD (show ((zb_5 G a) ++ ((zb_L G a.2.2.1 L) ++ zb_M G a.2.2.1 L)).Perm ((zb_M G a.2.2.1 L) ++ ((zb_5 G a) ++ zb_L G a.2.2.1 L)) from (show ((zb_5 G a) ++ ((zb_L G a.2.2.1 L) ++ zb_M G a.2.2.1 L)).Perm ((zb_M G a.2.2.1 L) ++ ((zb_5 G a) ++ zb_L G a.2.2.1 L)) from ((List.Perm.append_left _ List.perm_append_comm).trans (List.perm_append_comm_assoc _ _ _))).trans (List.Perm.of_eq (by simp only [List.append_assoc, List.append_nil, List.nil_append])))
    refine zk_callI (wr := (zb_5 G a) ++ zb_L G a.2.2.1 L) (va_runV (As := [.int (nI ck)]) (rest := []) ⟨hx, hb, hml, hown, hts⟩ (c_X3_countChargedToSiblings l G a.2.2.1 L ck (by omega) _) (cwV 1 hts gX5_child_X3_countChargedToSiblings rfl rfl rfl (by decide +kernel) ⟨Nat.le_of_ble_eq_true rfl, Nat.le_of_ble_eq_true rfl⟩) (zk_preV hE hA0 hS (zk_Papp hP0).1 (zk_Dapp hD0).1 (va_recv hK hP (ci := 2) (q0 := 10) rfl rfl)) rfl rfl hl.1 rfl (lv_room (Nat.le_of_ble_eq_true rfl)) dX5_child_140 ⟨Nat.le_of_ble_eq_true rfl, Nat.le_of_ble_eq_true rfl⟩) hP0 hD0 hS hA (fun r9 u10 H locs q11 hP hD hS => ?_)
    subst q11
    have hP : va_P G.1 vwCl ((zb_5 G a) ++ ((zb_L G a.2.2.1 L) ++ zb_M G a.2.2.1 L)) H := zk_Pperm hP (show ((zb_5 G a) ++ ((zb_L G a.2.2.1 L) ++ zb_M G a.2.2.1 L)).Perm ((zb_M G a.2.2.1 L) ++ ((zb_5 G a) ++ zb_L G a.2.2.1 L)) from (show ((zb_5 G a) ++ ((zb_L G a.2.2.1 L) ++ zb_M G a.2.2.1 L)).Perm ((zb_M G a.2.2.1 L) ++ ((zb_5 G a) ++ zb_L G a.2.2.1 L)) from ((List.Perm.append_left _ List.perm_append_comm).trans (List.perm_append_comm_assoc _ _ _))).trans (List.Perm.of_eq (by simp only [List.append_assoc, List.append_nil, List.nil_append]))).symm
    have hD : va_D A ((zb_5 G a) ++ ((zb_L G a.2.2.1 L) ++ zb_M G a.2.2.1 L)) := zk_Dperm hD (show ((zb_5 G a) ++ ((zb_L G a.2.2.1 L) ++ zb_M G a.2.2.1 L)).Perm ((zb_M G a.2.2.1 L) ++ ((zb_5 G a) ++ zb_L G a.2.2.1 L)) from (show ((zb_5 G a) ++ ((zb_L G a.2.2.1 L) ++ zb_M G a.2.2.1 L)).Perm ((zb_M G a.2.2.1 L) ++ ((zb_5 G a) ++ zb_L G a.2.2.1 L)) from ((List.Perm.append_left _ List.perm_append_comm).trans (List.perm_append_comm_assoc _ _ _))).trans (List.Perm.of_eq (by simp only [List.append_assoc, List.append_nil, List.nil_append]))).symm
    have hP : va_P G.1 vwCl ((zb_5 G a) ++ ((zb_L G a.2.2.1 L) ++ zb_M G a.2.2.1 L)) H := hP
    have hD : va_D A ((zb_5 G a) ++ ((zb_L G a.2.2.1 L) ++ zb_M G a.2.2.1 L)) := hD
    rw [hQ]
    refine vx_ret ?_
    exact zk_reti () rfl hx hb hr hlocks hS hP hD (Nat.le_of_ble_eq_true rfl) (Nat.le_of_ble_eq_true rfl) dX5_child_143 (⟨hq1, ⟨6, by decide, h2_6⟩, by rw [nck, xChild_6 h2_6]⟩)
  rcases Decidable.em (w = nI 7) with h2_7 | h2_n7
  · refine lv_tableIn (tgt := 144) hx hb dX5_child_6 (by rw [h2_7]; decide) (by rw [h2_7]; decide) (by rw [h2_7]; rfl) (by decide) ?_
    refine lv_aload_n hx hb dX5_child_144 rfl (lv_at hl 0 rfl) ?_
    refine va_get (D := G.1) (ci := 4) (v := .ref (a.2.2.1 0)) (C := RX5) (T := TX5) (N := 6) hx hb hts (fun _ h => List.mem_cons_of_mem _ (List.mem_append_left _ (List.mem_append_left _ (List.mem_append_left _ (List.mem_append_left _ (List.mem_append_right _ h)))))) hown hK hP 0 rfl rfl 1 (by decide) w3 (fun _ h9 => h9) rfl dX5_child_145 ?_
    refine va_get (D := G.1) (ci := 1) (v := .ref (a.2.2.1 9)) (C := RX2) (T := TX2) (N := 14) hx hb hts (fun _ h => List.mem_cons_of_mem _ (List.mem_append_left _ (List.mem_append_left _ (List.mem_append_left _ (List.mem_append_right _ h))))) hown hK hP 1 rfl rfl 13 (by decide) w9 (fun _ h9 => h9) rfl dX5_child_148 ?_
    refine lv_iload_n hx hb dX5_child_151 rfl (lv_at hl 1 rfl) ?_
    have hP0 : va_P G.1 vwCl ((zb_M G a.2.2.1 L) ++ ((zb_5 G a) ++ zb_L G a.2.2.1 L)) H := zk_Pperm hP (show ((zb_5 G a) ++ ((zb_L G a.2.2.1 L) ++ zb_M G a.2.2.1 L)).Perm ((zb_M G a.2.2.1 L) ++ ((zb_5 G a) ++ zb_L G a.2.2.1 L)) from (show ((zb_5 G a) ++ ((zb_L G a.2.2.1 L) ++ zb_M G a.2.2.1 L)).Perm ((zb_M G a.2.2.1 L) ++ ((zb_5 G a) ++ zb_L G a.2.2.1 L)) from ((List.Perm.append_left _ List.perm_append_comm).trans (List.perm_append_comm_assoc _ _ _))).trans (List.Perm.of_eq (by simp only [List.append_assoc, List.append_nil, List.nil_append])))
    have hD0 : va_D A ((zb_M G a.2.2.1 L) ++ ((zb_5 G a) ++ zb_L G a.2.2.1 L)) := zk_Dperm hD (show ((zb_5 G a) ++ ((zb_L G a.2.2.1 L) ++ zb_M G a.2.2.1 L)).Perm ((zb_M G a.2.2.1 L) ++ ((zb_5 G a) ++ zb_L G a.2.2.1 L)) from (show ((zb_5 G a) ++ ((zb_L G a.2.2.1 L) ++ zb_M G a.2.2.1 L)).Perm ((zb_M G a.2.2.1 L) ++ ((zb_5 G a) ++ zb_L G a.2.2.1 L)) from ((List.Perm.append_left _ List.perm_append_comm).trans (List.perm_append_comm_assoc _ _ _))).trans (List.Perm.of_eq (by simp only [List.append_assoc, List.append_nil, List.nil_append])))
    refine zk_callI (wr := (zb_5 G a) ++ zb_L G a.2.2.1 L) (va_runV (As := [.int (nI ck)]) (rest := []) ⟨hx, hb, hml, hown, hts⟩ (c_X3_chargedTo l G a.2.2.1 L (nI ck) _) (cwV 1 hts gX5_child_X3_chargedTo rfl rfl rfl (by decide +kernel) ⟨Nat.le_of_ble_eq_true rfl, Nat.le_of_ble_eq_true rfl⟩) (zk_preV hE hA0 hS (zk_Papp hP0).1 (zk_Dapp hD0).1 (va_recv hK hP (ci := 2) (q0 := 10) rfl rfl)) rfl rfl hl.1 rfl (lv_room (Nat.le_of_ble_eq_true rfl)) dX5_child_152 ⟨Nat.le_of_ble_eq_true rfl, Nat.le_of_ble_eq_true rfl⟩) hP0 hD0 hS hA (fun r12 u13 H locs q14 hP hD hS => ?_)
    subst q14
    have hP : va_P G.1 vwCl ((zb_5 G a) ++ ((zb_L G a.2.2.1 L) ++ zb_M G a.2.2.1 L)) H := zk_Pperm hP (show ((zb_5 G a) ++ ((zb_L G a.2.2.1 L) ++ zb_M G a.2.2.1 L)).Perm ((zb_M G a.2.2.1 L) ++ ((zb_5 G a) ++ zb_L G a.2.2.1 L)) from (show ((zb_5 G a) ++ ((zb_L G a.2.2.1 L) ++ zb_M G a.2.2.1 L)).Perm ((zb_M G a.2.2.1 L) ++ ((zb_5 G a) ++ zb_L G a.2.2.1 L)) from ((List.Perm.append_left _ List.perm_append_comm).trans (List.perm_append_comm_assoc _ _ _))).trans (List.Perm.of_eq (by simp only [List.append_assoc, List.append_nil, List.nil_append]))).symm
    have hD : va_D A ((zb_5 G a) ++ ((zb_L G a.2.2.1 L) ++ zb_M G a.2.2.1 L)) := zk_Dperm hD (show ((zb_5 G a) ++ ((zb_L G a.2.2.1 L) ++ zb_M G a.2.2.1 L)).Perm ((zb_M G a.2.2.1 L) ++ ((zb_5 G a) ++ zb_L G a.2.2.1 L)) from (show ((zb_5 G a) ++ ((zb_L G a.2.2.1 L) ++ zb_M G a.2.2.1 L)).Perm ((zb_M G a.2.2.1 L) ++ ((zb_5 G a) ++ zb_L G a.2.2.1 L)) from ((List.Perm.append_left _ List.perm_append_comm).trans (List.perm_append_comm_assoc _ _ _))).trans (List.Perm.of_eq (by simp only [List.append_assoc, List.append_nil, List.nil_append]))).symm
    have hP : va_P G.1 vwCl ((zb_5 G a) ++ ((zb_L G a.2.2.1 L) ++ zb_M G a.2.2.1 L)) H := hP
    have hD : va_D A ((zb_5 G a) ++ ((zb_L G a.2.2.1 L) ++ zb_M G a.2.2.1 L)) := hD
    rw [hQ]
    refine vx_ret ?_
    exact zk_reti () rfl hx hb hr hlocks hS hP hD (Nat.le_of_ble_eq_true rfl) (Nat.le_of_ble_eq_true rfl) dX5_child_155 (⟨hq1, ⟨7, by decide, h2_7⟩, by rw [nck, xChild_7 h2_7]⟩)
  rcases Decidable.em (w = nI 8) with h2_8 | h2_n8
  · refine lv_tableIn (tgt := 156) hx hb dX5_child_6 (by rw [h2_8]; decide) (by rw [h2_8]; decide) (by rw [h2_8]; rfl) (by decide) ?_
    refine lv_aload_n hx hb dX5_child_156 rfl (lv_at hl 0 rfl) ?_
    refine va_get (D := G.1) (ci := 4) (v := .ref (a.2.2.1 0)) (C := RX5) (T := TX5) (N := 6) hx hb hts (fun _ h => List.mem_cons_of_mem _ (List.mem_append_left _ (List.mem_append_left _ (List.mem_append_left _ (List.mem_append_left _ (List.mem_append_right _ h)))))) hown hK hP 0 rfl rfl 1 (by decide) w3 (fun _ h9 => h9) rfl dX5_child_157 ?_
    refine va_get (D := G.1) (ci := 1) (v := .ref (a.2.2.1 9)) (C := RX2) (T := TX2) (N := 14) hx hb hts (fun _ h => List.mem_cons_of_mem _ (List.mem_append_left _ (List.mem_append_left _ (List.mem_append_left _ (List.mem_append_right _ h))))) hown hK hP 1 rfl rfl 13 (by decide) w9 (fun _ h9 => h9) rfl dX5_child_160 ?_
    refine lv_iload_n hx hb dX5_child_163 rfl (lv_at hl 1 rfl) ?_
    refine lv_iconst (v := nI 4) hx hb dX5_child_164 (by decide) ?_
    have hP0 : va_P G.1 vwCl ((zb_M G a.2.2.1 L) ++ ((zb_5 G a) ++ zb_L G a.2.2.1 L)) H := zk_Pperm hP (show ((zb_5 G a) ++ ((zb_L G a.2.2.1 L) ++ zb_M G a.2.2.1 L)).Perm ((zb_M G a.2.2.1 L) ++ ((zb_5 G a) ++ zb_L G a.2.2.1 L)) from (show ((zb_5 G a) ++ ((zb_L G a.2.2.1 L) ++ zb_M G a.2.2.1 L)).Perm ((zb_M G a.2.2.1 L) ++ ((zb_5 G a) ++ zb_L G a.2.2.1 L)) from ((List.Perm.append_left _ List.perm_append_comm).trans (List.perm_append_comm_assoc _ _ _))).trans (List.Perm.of_eq (by simp only [List.append_assoc, List.append_nil, List.nil_append])))
    have hD0 : va_D A ((zb_M G a.2.2.1 L) ++ ((zb_5 G a) ++ zb_L G a.2.2.1 L)) := zk_Dperm hD (show ((zb_5 G a) ++ ((zb_L G a.2.2.1 L) ++ zb_M G a.2.2.1 L)).Perm ((zb_M G a.2.2.1 L) ++ ((zb_5 G a) ++ zb_L G a.2.2.1 L)) from (show ((zb_5 G a) ++ ((zb_L G a.2.2.1 L) ++ zb_M G a.2.2.1 L)).Perm ((zb_M G a.2.2.1 L) ++ ((zb_5 G a) ++ zb_L G a.2.2.1 L)) from ((List.Perm.append_left _ List.perm_append_comm).trans (List.perm_append_comm_assoc _ _ _))).trans (List.Perm.of_eq (by simp only [List.append_assoc, List.append_nil, List.nil_append])))
    refine zk_callI (wr := (zb_5 G a) ++ zb_L G a.2.2.1 L) (va_runV (As := [.int (nI ck), .int (nI 4)]) (rest := []) ⟨hx, hb, hml, hown, hts⟩ (c_X3_countOf l G a.2.2.1 L ck (nI 4) (by omega) _) (cwV 2 hts gX5_child_X3_countOf rfl rfl rfl (by decide +kernel) ⟨Nat.le_of_ble_eq_true rfl, Nat.le_of_ble_eq_true rfl⟩) (zk_preV hE hA0 hS (zk_Papp hP0).1 (zk_Dapp hD0).1 (va_recv hK hP (ci := 2) (q0 := 10) rfl rfl)) rfl rfl hl.1 rfl (lv_room (Nat.le_of_ble_eq_true rfl)) dX5_child_165 ⟨Nat.le_of_ble_eq_true rfl, Nat.le_of_ble_eq_true rfl⟩) hP0 hD0 hS hA (fun r15 u16 H locs q17 hP hD hS => ?_)
    subst q17
    have hP : va_P G.1 vwCl ((zb_5 G a) ++ ((zb_L G a.2.2.1 L) ++ zb_M G a.2.2.1 L)) H := zk_Pperm hP (show ((zb_5 G a) ++ ((zb_L G a.2.2.1 L) ++ zb_M G a.2.2.1 L)).Perm ((zb_M G a.2.2.1 L) ++ ((zb_5 G a) ++ zb_L G a.2.2.1 L)) from (show ((zb_5 G a) ++ ((zb_L G a.2.2.1 L) ++ zb_M G a.2.2.1 L)).Perm ((zb_M G a.2.2.1 L) ++ ((zb_5 G a) ++ zb_L G a.2.2.1 L)) from ((List.Perm.append_left _ List.perm_append_comm).trans (List.perm_append_comm_assoc _ _ _))).trans (List.Perm.of_eq (by simp only [List.append_assoc, List.append_nil, List.nil_append]))).symm
    have hD : va_D A ((zb_5 G a) ++ ((zb_L G a.2.2.1 L) ++ zb_M G a.2.2.1 L)) := zk_Dperm hD (show ((zb_5 G a) ++ ((zb_L G a.2.2.1 L) ++ zb_M G a.2.2.1 L)).Perm ((zb_M G a.2.2.1 L) ++ ((zb_5 G a) ++ zb_L G a.2.2.1 L)) from (show ((zb_5 G a) ++ ((zb_L G a.2.2.1 L) ++ zb_M G a.2.2.1 L)).Perm ((zb_M G a.2.2.1 L) ++ ((zb_5 G a) ++ zb_L G a.2.2.1 L)) from ((List.Perm.append_left _ List.perm_append_comm).trans (List.perm_append_comm_assoc _ _ _))).trans (List.Perm.of_eq (by simp only [List.append_assoc, List.append_nil, List.nil_append]))).symm
    have hP : va_P G.1 vwCl ((zb_5 G a) ++ ((zb_L G a.2.2.1 L) ++ zb_M G a.2.2.1 L)) H := hP
    have hD : va_D A ((zb_5 G a) ++ ((zb_L G a.2.2.1 L) ++ zb_M G a.2.2.1 L)) := hD
    rw [hQ]
    refine vx_ret ?_
    exact zk_reti () rfl hx hb hr hlocks hS hP hD (Nat.le_of_ble_eq_true rfl) (Nat.le_of_ble_eq_true rfl) dX5_child_168 (⟨hq1, ⟨8, by decide, h2_8⟩, by rw [nck, xChild_8 h2_8]⟩)
  refine lv_tableOut (tgt := 169) hx hb dX5_child_6 (zk_out (0) 9 (fun k hk z => by
        rcases (show k = 0 ∨ k = 1 ∨ k = 2 ∨ k = 3 ∨ k = 4 ∨ k = 5 ∨ k = 6 ∨ k = 7 ∨ k = 8 by omega) with rfl | rfl | rfl | rfl | rfl | rfl | rfl | rfl | rfl
        · exact h2_n0 (zk_toI z (by decide))
        · exact h2_n1 (zk_toI z (by decide))
        · exact h2_n2 (zk_toI z (by decide))
        · exact h2_n3 (zk_toI z (by decide))
        · exact h2_n4 (zk_toI z (by decide))
        · exact h2_n5 (zk_toI z (by decide))
        · exact h2_n6 (zk_toI z (by decide))
        · exact h2_n7 (zk_toI z (by decide))
        · exact h2_n8 (zk_toI z (by decide)))) (by decide) ?_
  rw [hQ]
  exact vx_throwS (cls := "java/lang/IllegalArgumentException") (names := zk_up) hx hb hst hown (by decide +kernel) (by decide +kernel) w1 w2 (zk_R13 hE.2.2.1) (zk_hat (fun w hw => hts w (List.mem_cons_of_mem _ (List.mem_append_left _ (List.mem_append_right _ hw)))) hE.2.1.2.2.2.2.2.2.2 hE.2.1.2.2.2.2.2.2.2.2.2.2.2.1 (by decide +kernel)) (by decide +kernel) (hE.2.2.2.1.1.narrow hA0) (hE.2.2.2.1.2.1.narrow hA0) hS (hl.1.trans hml.symm) dX5_child_169 dX5_child_172 dX5_child_173 dX5_child_175 dX5_child_178 (fun x h => (hnx x h).elim) (Nat.le_of_ble_eq_true rfl) (Nat.le_of_ble_eq_true rfl) (Nat.le_of_ble_eq_true rfl) (Nat.le_of_ble_eq_true rfl) hlocks (fun t _ hz hk => zk_thx hP hD hS (List.Perm.refl _) (Or.inr ⟨rfl, hq1, (fun ⟨j, hj, e⟩ => by
        rcases (show j = 0 ∨ j = 1 ∨ j = 2 ∨ j = 3 ∨ j = 4 ∨ j = 5 ∨ j = 6 ∨ j = 7 ∨ j = 8 by omega) with rfl | rfl | rfl | rfl | rfl | rfl | rfl | rfl | rfl
        · exact h2_n0 e
        · exact h2_n1 e
        · exact h2_n2 e
        · exact h2_n3 e
        · exact h2_n4 e
        · exact h2_n5 e
        · exact h2_n6 e
        · exact h2_n7 e
        · exact h2_n8 e)⟩) hz hk) hS.2.2 (Nat.le_of_ble_eq_true rfl) (Nat.le_of_ble_eq_true rfl)

def xFamily (L : zL) (n t : Nat) (fk : Nat) (w : Int32) : Int32 :=
  if w = nI 0 then zs (fun i => if L 1 i = (nI fk) then nI 1 else nI 0) n else if w = nI 1 then (L 7) fk else if w = nI 2 then zs (fun i => if L 1 i = (nI fk) then L 3 i else nI 0) n else if w = nI 3 then sDebt L n (nI fk) else if w = nI 4 then (L 8) fk else -1
theorem xFamily_0 {L : zL} {n t : Nat} {fk : Nat} {w : Int32} (h : w = nI 0) : xFamily L n t fk w = zs (fun i => if L 1 i = (nI fk) then nI 1 else nI 0) n := by subst h; rfl
theorem xFamily_1 {L : zL} {n t : Nat} {fk : Nat} {w : Int32} (h : w = nI 1) : xFamily L n t fk w = (L 7) fk := by subst h; rfl
theorem xFamily_2 {L : zL} {n t : Nat} {fk : Nat} {w : Int32} (h : w = nI 2) : xFamily L n t fk w = zs (fun i => if L 1 i = (nI fk) then L 3 i else nI 0) n := by subst h; rfl
theorem xFamily_3 {L : zL} {n t : Nat} {fk : Nat} {w : Int32} (h : w = nI 3) : xFamily L n t fk w = sDebt L n (nI fk) := by subst h; rfl
theorem xFamily_4 {L : zL} {n t : Nat} {fk : Nat} {w : Int32} (h : w = nI 4) : xFamily L n t fk w = (L 8) fk := by subst h; rfl
abbrev rmX5_family : Room := { frames := 7, cells := 4, slots := 24, locals := 102 }
set_option maxHeartbeats 4000000 in
set_option maxRecDepth 100000 in
/-- a family -/
theorem c_X5_family (l : Launch) (G : zk_G) (hst : l.stackTraces = false) (a : zA) (L : zL) (n t : Nat) (hI : sInv L n t) (f w : Int32) : zk_XI (S := Unit) l yX5_family wsX5_family rmX5_family G [.ref a.1, .int f, .int w] ((zb_5 G a) ++ ((zb_L G a.2.2.1 L) ++ zb_M G a.2.2.1 L)) (fun r _ => sFam f ∧ zIn w 5 ∧ r = xFamily L n t f.toNatClampNeg w) (fun _ => (zb_5 G a) ++ ((zb_L G a.2.2.1 L) ++ zb_M G a.2.2.1 L)) (fun E => (E = "java/lang/IndexOutOfBoundsException" ∧ ¬ sFam f) ∨ (E = "java/lang/IllegalArgumentException" ∧ sFam f ∧ ¬ zIn w 5)) := by
  refine zk_bodyXI (cc := cX5_family) (maxL := 3) (ret := (some .int)) (by decide) rfl (Nat.le_of_ble_eq_true rfl) ?_
  intro p E0 s m args below meth cd A ls Q hF hnx hQ
  obtain ⟨hx, hb, hml, hr, hts, hown, hlocks, -, hE, hP, hD, hS, hA, hA0, hl⟩ := hF
  have hK := hE.1
  have hl : lv_has ls 3 [(0, .ref a.1), (1, .int f), (2, .int w)] := hl
  obtain ⟨hn, hn12, ht, ht40, hfam, hpay⟩ := id hI
  have w3 := hts _ (List.mem_of_getElem? (l := wsX5_family) (i := 3) (a := Cond.fieldLink RX5 19 "MealAccounts" "now" "LMealAccounts$Ledger;") rfl)
  have w4 := hts _ (List.mem_of_getElem? (l := wsX5_family) (i := 4) (a := Cond.fieldLink RX5 158 "MealAccounts$Ledger" "sharing" "[I") rfl)
  have w5 := hts _ (List.mem_of_getElem? (l := wsX5_family) (i := 5) (a := Cond.fieldLink RX5 167 "MealAccounts$Ledger" "writtenOffFor" "[I") rfl)
  have w1 := hts _ (List.mem_of_getElem? (l := wsX5_family) (i := 1) (a := Cond.classLink RX5 41 "java/lang/IllegalArgumentException") rfl)
  have w2 := hts _ (List.mem_of_getElem? (l := wsX5_family) (i := 2) (a := Cond.initialized "java/lang/IllegalArgumentException") rfl)
  refine lv_iload_n hx hb dX5_family_0 rfl (lv_at hl 1 rfl) ?_
  have hP0 : va_P G.1 vwCl (([] : va_W) ++ ((zb_5 G a) ++ ((zb_L G a.2.2.1 L) ++ zb_M G a.2.2.1 L))) s.heap := hP
  have hD0 : va_D A (([] : va_W) ++ ((zb_5 G a) ++ ((zb_L G a.2.2.1 L) ++ zb_M G a.2.2.1 L))) := hD
  refine zk_callXV (wr := (zb_5 G a) ++ ((zb_L G a.2.2.1 L) ++ zb_M G a.2.2.1 L)) (vx_runS (As := [.int f]) (rest := []) ⟨hx, hb, hml, hown, hts⟩ (c_X5_requireFamily l G hst f _) (cwS 1 hts gX5_family_X5_requireFamily rfl rfl rfl (by decide +kernel) ⟨Nat.le_of_ble_eq_true rfl, Nat.le_of_ble_eq_true rfl⟩) (zk_preS hE hA0 hS (zk_Papp hP0).1 (zk_Dapp hD0).1) rfl rfl hl.1 rfl (lv_room (Nat.le_of_ble_eq_true rfl)) dX5_family_1 ⟨Nat.le_of_ble_eq_true rfl, Nat.le_of_ble_eq_true rfl⟩) hQ hnx hlocks (Nat.le_of_ble_eq_true rfl) (Nat.le_of_ble_eq_true rfl) (List.Perm.refl _) (fun E h => Or.inl h) hP0 hD0 hS hA (fun _ H locs hq1 hP hD hS => ?_)
  have hP : va_P G.1 vwCl ((zb_5 G a) ++ ((zb_L G a.2.2.1 L) ++ zb_M G a.2.2.1 L)) H := hP
  have hD : va_D A ((zb_5 G a) ++ ((zb_L G a.2.2.1 L) ++ zb_M G a.2.2.1 L)) := hD
  obtain ⟨fk, hfk, efk⟩ := sFam_nat hq1
  subst efk
  have nfk := nI_clamp (show fk < 2 ^ 31 by omega)
  refine lv_iload_n hx hb dX5_family_4 rfl (lv_at hl 2 rfl) ?_
  rcases Decidable.em (w = nI 0) with h2_0 | h2_n0
  · refine lv_tableIn (tgt := 40) hx hb dX5_family_5 (by rw [h2_0]; decide) (by rw [h2_0]; decide) (by rw [h2_0]; rfl) (by decide) ?_
    refine lv_aload_n hx hb dX5_family_40 rfl (lv_at hl 0 rfl) ?_
    refine va_get (D := G.1) (ci := 4) (v := .ref (a.2.2.1 0)) (C := RX5) (T := TX5) (N := 6) hx hb hts (fun _ h => List.mem_cons_of_mem _ (List.mem_append_left _ (List.mem_append_left _ (List.mem_append_left _ (List.mem_append_right _ h))))) hown hK hP 0 rfl rfl 1 (by decide) w3 (fun _ h9 => h9) rfl dX5_family_41 ?_
    refine lv_iload_n hx hb dX5_family_44 rfl (lv_at hl 1 rfl) ?_
    have hP0 : va_P G.1 vwCl ((zb_L G a.2.2.1 L ++ zb_M G a.2.2.1 L) ++ (zb_5 G a)) H := zk_Pperm hP (show ((zb_5 G a) ++ ((zb_L G a.2.2.1 L) ++ zb_M G a.2.2.1 L)).Perm ((zb_L G a.2.2.1 L ++ zb_M G a.2.2.1 L) ++ (zb_5 G a)) from (show ((zb_5 G a) ++ ((zb_L G a.2.2.1 L) ++ zb_M G a.2.2.1 L)).Perm ((zb_L G a.2.2.1 L) ++ ((zb_M G a.2.2.1 L) ++ zb_5 G a)) from (((List.Perm.append_left _ List.perm_append_comm).trans (List.perm_append_comm_assoc _ _ _))).trans ((List.Perm.append_left _ List.perm_append_comm).trans (List.perm_append_comm_assoc _ _ _))).trans (List.Perm.of_eq (by simp only [List.append_assoc, List.append_nil, List.nil_append])))
    have hD0 : va_D A ((zb_L G a.2.2.1 L ++ zb_M G a.2.2.1 L) ++ (zb_5 G a)) := zk_Dperm hD (show ((zb_5 G a) ++ ((zb_L G a.2.2.1 L) ++ zb_M G a.2.2.1 L)).Perm ((zb_L G a.2.2.1 L ++ zb_M G a.2.2.1 L) ++ (zb_5 G a)) from (show ((zb_5 G a) ++ ((zb_L G a.2.2.1 L) ++ zb_M G a.2.2.1 L)).Perm ((zb_L G a.2.2.1 L) ++ ((zb_M G a.2.2.1 L) ++ zb_5 G a)) from (((List.Perm.append_left _ List.perm_append_comm).trans (List.perm_append_comm_assoc _ _ _))).trans ((List.Perm.append_left _ List.perm_append_comm).trans (List.perm_append_comm_assoc _ _ _))).trans (List.Perm.of_eq (by simp only [List.append_assoc, List.append_nil, List.nil_append])))
    refine zk_callI (wr := zb_5 G a) (va_runV (As := [.int (nI fk)]) (rest := []) ⟨hx, hb, hml, hown, hts⟩ (c_X2_childrenOf l G a.2.2.1 L n t hI (nI fk) _) (cwV 1 hts gX5_family_X2_childrenOf rfl rfl rfl (by decide +kernel) ⟨Nat.le_of_ble_eq_true rfl, Nat.le_of_ble_eq_true rfl⟩) (zk_preV hE hA0 hS (zk_Papp hP0).1 (zk_Dapp hD0).1 (va_recv hK hP (ci := 1) (q0 := 1) rfl rfl)) rfl rfl hl.1 rfl (lv_room (Nat.le_of_ble_eq_true rfl)) dX5_family_45 ⟨Nat.le_of_ble_eq_true rfl, Nat.le_of_ble_eq_true rfl⟩) hP0 hD0 hS hA (fun r3 u4 H locs q5 hP hD hS => ?_)
    subst q5
    have hP : va_P G.1 vwCl ((zb_5 G a) ++ ((zb_L G a.2.2.1 L) ++ zb_M G a.2.2.1 L)) H := zk_Pperm hP (show ((zb_5 G a) ++ ((zb_L G a.2.2.1 L) ++ zb_M G a.2.2.1 L)).Perm ((zb_L G a.2.2.1 L ++ zb_M G a.2.2.1 L) ++ (zb_5 G a)) from (show ((zb_5 G a) ++ ((zb_L G a.2.2.1 L) ++ zb_M G a.2.2.1 L)).Perm ((zb_L G a.2.2.1 L) ++ ((zb_M G a.2.2.1 L) ++ zb_5 G a)) from (((List.Perm.append_left _ List.perm_append_comm).trans (List.perm_append_comm_assoc _ _ _))).trans ((List.Perm.append_left _ List.perm_append_comm).trans (List.perm_append_comm_assoc _ _ _))).trans (List.Perm.of_eq (by simp only [List.append_assoc, List.append_nil, List.nil_append]))).symm
    have hD : va_D A ((zb_5 G a) ++ ((zb_L G a.2.2.1 L) ++ zb_M G a.2.2.1 L)) := zk_Dperm hD (show ((zb_5 G a) ++ ((zb_L G a.2.2.1 L) ++ zb_M G a.2.2.1 L)).Perm ((zb_L G a.2.2.1 L ++ zb_M G a.2.2.1 L) ++ (zb_5 G a)) from (show ((zb_5 G a) ++ ((zb_L G a.2.2.1 L) ++ zb_M G a.2.2.1 L)).Perm ((zb_L G a.2.2.1 L) ++ ((zb_M G a.2.2.1 L) ++ zb_5 G a)) from (((List.Perm.append_left _ List.perm_append_comm).trans (List.perm_append_comm_assoc _ _ _))).trans ((List.Perm.append_left _ List.perm_append_comm).trans (List.perm_append_comm_assoc _ _ _))).trans (List.Perm.of_eq (by simp only [List.append_assoc, List.append_nil, List.nil_append]))).symm
    have hP : va_P G.1 vwCl ((zb_5 G a) ++ ((zb_L G a.2.2.1 L) ++ zb_M G a.2.2.1 L)) H := hP
    have hD : va_D A ((zb_5 G a) ++ ((zb_L G a.2.2.1 L) ++ zb_M G a.2.2.1 L)) := hD
    rw [hQ]
    refine vx_ret ?_
    exact zk_reti () rfl hx hb hr hlocks hS hP hD (Nat.le_of_ble_eq_true rfl) (Nat.le_of_ble_eq_true rfl) dX5_family_48 (⟨hq1, ⟨0, by decide, h2_0⟩, by rw [nfk, xFamily_0 h2_0]⟩)
  rcases Decidable.em (w = nI 1) with h2_1 | h2_n1
  · refine lv_tableIn (tgt := 49) hx hb dX5_family_5 (by rw [h2_1]; decide) (by rw [h2_1]; decide) (by rw [h2_1]; rfl) (by decide) ?_
    refine lv_aload_n hx hb dX5_family_49 rfl (lv_at hl 0 rfl) ?_
    refine va_get (D := G.1) (ci := 4) (v := .ref (a.2.2.1 0)) (C := RX5) (T := TX5) (N := 6) hx hb hts (fun _ h => List.mem_cons_of_mem _ (List.mem_append_left _ (List.mem_append_left _ (List.mem_append_left _ (List.mem_append_right _ h))))) hown hK hP 0 rfl rfl 1 (by decide) w3 (fun _ h9 => h9) rfl dX5_family_50 ?_
    refine va_get (D := G.1) (ci := 1) (v := .ref (a.2.2.1 7)) (C := RX2) (T := TX2) (N := 14) hx hb hts (fun _ h => List.mem_cons_of_mem _ (List.mem_append_left _ (List.mem_append_left _ (List.mem_append_right _ h)))) hown hK hP 1 rfl rfl 11 (by decide) w4 (fun _ h9 => h9) rfl dX5_family_53 ?_
    refine lv_iload_n hx hb dX5_family_56 rfl (lv_at hl 1 rfl) ?_
    refine zk_ialdN hx hb hK hP 8 0 rfl rfl (k := fk) (n := 5) (by omega) (by omega) dX5_family_57 ?_
    rw [hQ]
    refine vx_ret ?_
    exact zk_reti () rfl hx hb hr hlocks hS hP hD (Nat.le_of_ble_eq_true rfl) (Nat.le_of_ble_eq_true rfl) dX5_family_58 (⟨hq1, ⟨1, by decide, h2_1⟩, by rw [nfk, xFamily_1 h2_1]⟩)
  rcases Decidable.em (w = nI 2) with h2_2 | h2_n2
  · refine lv_tableIn (tgt := 59) hx hb dX5_family_5 (by rw [h2_2]; decide) (by rw [h2_2]; decide) (by rw [h2_2]; rfl) (by decide) ?_
    refine lv_aload_n hx hb dX5_family_59 rfl (lv_at hl 0 rfl) ?_
    refine va_get (D := G.1) (ci := 4) (v := .ref (a.2.2.1 0)) (C := RX5) (T := TX5) (N := 6) hx hb hts (fun _ h => List.mem_cons_of_mem _ (List.mem_append_left _ (List.mem_append_left _ (List.mem_append_left _ (List.mem_append_right _ h))))) hown hK hP 0 rfl rfl 1 (by decide) w3 (fun _ h9 => h9) rfl dX5_family_60 ?_
    refine lv_iload_n hx hb dX5_family_63 rfl (lv_at hl 1 rfl) ?_
    have hP0 : va_P G.1 vwCl ((zb_L G a.2.2.1 L ++ zb_M G a.2.2.1 L) ++ (zb_5 G a)) H := zk_Pperm hP (show ((zb_5 G a) ++ ((zb_L G a.2.2.1 L) ++ zb_M G a.2.2.1 L)).Perm ((zb_L G a.2.2.1 L ++ zb_M G a.2.2.1 L) ++ (zb_5 G a)) from (show ((zb_5 G a) ++ ((zb_L G a.2.2.1 L) ++ zb_M G a.2.2.1 L)).Perm ((zb_L G a.2.2.1 L) ++ ((zb_M G a.2.2.1 L) ++ zb_5 G a)) from (((List.Perm.append_left _ List.perm_append_comm).trans (List.perm_append_comm_assoc _ _ _))).trans ((List.Perm.append_left _ List.perm_append_comm).trans (List.perm_append_comm_assoc _ _ _))).trans (List.Perm.of_eq (by simp only [List.append_assoc, List.append_nil, List.nil_append])))
    have hD0 : va_D A ((zb_L G a.2.2.1 L ++ zb_M G a.2.2.1 L) ++ (zb_5 G a)) := zk_Dperm hD (show ((zb_5 G a) ++ ((zb_L G a.2.2.1 L) ++ zb_M G a.2.2.1 L)).Perm ((zb_L G a.2.2.1 L ++ zb_M G a.2.2.1 L) ++ (zb_5 G a)) from (show ((zb_5 G a) ++ ((zb_L G a.2.2.1 L) ++ zb_M G a.2.2.1 L)).Perm ((zb_L G a.2.2.1 L) ++ ((zb_M G a.2.2.1 L) ++ zb_5 G a)) from (((List.Perm.append_left _ List.perm_append_comm).trans (List.perm_append_comm_assoc _ _ _))).trans ((List.Perm.append_left _ List.perm_append_comm).trans (List.perm_append_comm_assoc _ _ _))).trans (List.Perm.of_eq (by simp only [List.append_assoc, List.append_nil, List.nil_append])))
    refine zk_callI (wr := zb_5 G a) (va_runV (As := [.int (nI fk)]) (rest := []) ⟨hx, hb, hml, hown, hts⟩ (c_X2_sumOfBalancesOf l G a.2.2.1 L n t hI (nI fk) _) (cwV 1 hts gX5_family_X2_sumOfBalancesOf rfl rfl rfl (by decide +kernel) ⟨Nat.le_of_ble_eq_true rfl, Nat.le_of_ble_eq_true rfl⟩) (zk_preV hE hA0 hS (zk_Papp hP0).1 (zk_Dapp hD0).1 (va_recv hK hP (ci := 1) (q0 := 1) rfl rfl)) rfl rfl hl.1 rfl (lv_room (Nat.le_of_ble_eq_true rfl)) dX5_family_64 ⟨Nat.le_of_ble_eq_true rfl, Nat.le_of_ble_eq_true rfl⟩) hP0 hD0 hS hA (fun r6 u7 H locs q8 hP hD hS => ?_)
    subst q8
    have hP : va_P G.1 vwCl ((zb_5 G a) ++ ((zb_L G a.2.2.1 L) ++ zb_M G a.2.2.1 L)) H := zk_Pperm hP (show ((zb_5 G a) ++ ((zb_L G a.2.2.1 L) ++ zb_M G a.2.2.1 L)).Perm ((zb_L G a.2.2.1 L ++ zb_M G a.2.2.1 L) ++ (zb_5 G a)) from (show ((zb_5 G a) ++ ((zb_L G a.2.2.1 L) ++ zb_M G a.2.2.1 L)).Perm ((zb_L G a.2.2.1 L) ++ ((zb_M G a.2.2.1 L) ++ zb_5 G a)) from (((List.Perm.append_left _ List.perm_append_comm).trans (List.perm_append_comm_assoc _ _ _))).trans ((List.Perm.append_left _ List.perm_append_comm).trans (List.perm_append_comm_assoc _ _ _))).trans (List.Perm.of_eq (by simp only [List.append_assoc, List.append_nil, List.nil_append]))).symm
    have hD : va_D A ((zb_5 G a) ++ ((zb_L G a.2.2.1 L) ++ zb_M G a.2.2.1 L)) := zk_Dperm hD (show ((zb_5 G a) ++ ((zb_L G a.2.2.1 L) ++ zb_M G a.2.2.1 L)).Perm ((zb_L G a.2.2.1 L ++ zb_M G a.2.2.1 L) ++ (zb_5 G a)) from (show ((zb_5 G a) ++ ((zb_L G a.2.2.1 L) ++ zb_M G a.2.2.1 L)).Perm ((zb_L G a.2.2.1 L) ++ ((zb_M G a.2.2.1 L) ++ zb_5 G a)) from (((List.Perm.append_left _ List.perm_append_comm).trans (List.perm_append_comm_assoc _ _ _))).trans ((List.Perm.append_left _ List.perm_append_comm).trans (List.perm_append_comm_assoc _ _ _))).trans (List.Perm.of_eq (by simp only [List.append_assoc, List.append_nil, List.nil_append]))).symm
    have hP : va_P G.1 vwCl ((zb_5 G a) ++ ((zb_L G a.2.2.1 L) ++ zb_M G a.2.2.1 L)) H := hP
    have hD : va_D A ((zb_5 G a) ++ ((zb_L G a.2.2.1 L) ++ zb_M G a.2.2.1 L)) := hD
    rw [hQ]
    refine vx_ret ?_
    exact zk_reti () rfl hx hb hr hlocks hS hP hD (Nat.le_of_ble_eq_true rfl) (Nat.le_of_ble_eq_true rfl) dX5_family_67 (⟨hq1, ⟨2, by decide, h2_2⟩, by rw [nfk, xFamily_2 h2_2]⟩)
  rcases Decidable.em (w = nI 3) with h2_3 | h2_n3
  · refine lv_tableIn (tgt := 68) hx hb dX5_family_5 (by rw [h2_3]; decide) (by rw [h2_3]; decide) (by rw [h2_3]; rfl) (by decide) ?_
    refine lv_aload_n hx hb dX5_family_68 rfl (lv_at hl 0 rfl) ?_
    refine va_get (D := G.1) (ci := 4) (v := .ref (a.2.2.1 0)) (C := RX5) (T := TX5) (N := 6) hx hb hts (fun _ h => List.mem_cons_of_mem _ (List.mem_append_left _ (List.mem_append_left _ (List.mem_append_left _ (List.mem_append_right _ h))))) hown hK hP 0 rfl rfl 1 (by decide) w3 (fun _ h9 => h9) rfl dX5_family_69 ?_
    refine lv_iload_n hx hb dX5_family_72 rfl (lv_at hl 1 rfl) ?_
    have hP0 : va_P G.1 vwCl ((zb_L G a.2.2.1 L ++ zb_M G a.2.2.1 L) ++ (zb_5 G a)) H := zk_Pperm hP (show ((zb_5 G a) ++ ((zb_L G a.2.2.1 L) ++ zb_M G a.2.2.1 L)).Perm ((zb_L G a.2.2.1 L ++ zb_M G a.2.2.1 L) ++ (zb_5 G a)) from (show ((zb_5 G a) ++ ((zb_L G a.2.2.1 L) ++ zb_M G a.2.2.1 L)).Perm ((zb_L G a.2.2.1 L) ++ ((zb_M G a.2.2.1 L) ++ zb_5 G a)) from (((List.Perm.append_left _ List.perm_append_comm).trans (List.perm_append_comm_assoc _ _ _))).trans ((List.Perm.append_left _ List.perm_append_comm).trans (List.perm_append_comm_assoc _ _ _))).trans (List.Perm.of_eq (by simp only [List.append_assoc, List.append_nil, List.nil_append])))
    have hD0 : va_D A ((zb_L G a.2.2.1 L ++ zb_M G a.2.2.1 L) ++ (zb_5 G a)) := zk_Dperm hD (show ((zb_5 G a) ++ ((zb_L G a.2.2.1 L) ++ zb_M G a.2.2.1 L)).Perm ((zb_L G a.2.2.1 L ++ zb_M G a.2.2.1 L) ++ (zb_5 G a)) from (show ((zb_5 G a) ++ ((zb_L G a.2.2.1 L) ++ zb_M G a.2.2.1 L)).Perm ((zb_L G a.2.2.1 L) ++ ((zb_M G a.2.2.1 L) ++ zb_5 G a)) from (((List.Perm.append_left _ List.perm_append_comm).trans (List.perm_append_comm_assoc _ _ _))).trans ((List.Perm.append_left _ List.perm_append_comm).trans (List.perm_append_comm_assoc _ _ _))).trans (List.Perm.of_eq (by simp only [List.append_assoc, List.append_nil, List.nil_append])))
    refine zk_callI (wr := zb_5 G a) (va_runV (As := [.int (nI fk)]) (rest := []) ⟨hx, hb, hml, hown, hts⟩ (c_X2_debtOf l G a.2.2.1 L n t hI (nI fk) _) (cwV 1 hts gX5_family_X2_debtOf rfl rfl rfl (by decide +kernel) ⟨Nat.le_of_ble_eq_true rfl, Nat.le_of_ble_eq_true rfl⟩) (zk_preV hE hA0 hS (zk_Papp hP0).1 (zk_Dapp hD0).1 (va_recv hK hP (ci := 1) (q0 := 1) rfl rfl)) rfl rfl hl.1 rfl (lv_room (Nat.le_of_ble_eq_true rfl)) dX5_family_73 ⟨Nat.le_of_ble_eq_true rfl, Nat.le_of_ble_eq_true rfl⟩) hP0 hD0 hS hA (fun r9 u10 H locs q11 hP hD hS => ?_)
    subst q11
    have hP : va_P G.1 vwCl ((zb_5 G a) ++ ((zb_L G a.2.2.1 L) ++ zb_M G a.2.2.1 L)) H := zk_Pperm hP (show ((zb_5 G a) ++ ((zb_L G a.2.2.1 L) ++ zb_M G a.2.2.1 L)).Perm ((zb_L G a.2.2.1 L ++ zb_M G a.2.2.1 L) ++ (zb_5 G a)) from (show ((zb_5 G a) ++ ((zb_L G a.2.2.1 L) ++ zb_M G a.2.2.1 L)).Perm ((zb_L G a.2.2.1 L) ++ ((zb_M G a.2.2.1 L) ++ zb_5 G a)) from (((List.Perm.append_left _ List.perm_append_comm).trans (List.perm_append_comm_assoc _ _ _))).trans ((List.Perm.append_left _ List.perm_append_comm).trans (List.perm_append_comm_assoc _ _ _))).trans (List.Perm.of_eq (by simp only [List.append_assoc, List.append_nil, List.nil_append]))).symm
    have hD : va_D A ((zb_5 G a) ++ ((zb_L G a.2.2.1 L) ++ zb_M G a.2.2.1 L)) := zk_Dperm hD (show ((zb_5 G a) ++ ((zb_L G a.2.2.1 L) ++ zb_M G a.2.2.1 L)).Perm ((zb_L G a.2.2.1 L ++ zb_M G a.2.2.1 L) ++ (zb_5 G a)) from (show ((zb_5 G a) ++ ((zb_L G a.2.2.1 L) ++ zb_M G a.2.2.1 L)).Perm ((zb_L G a.2.2.1 L) ++ ((zb_M G a.2.2.1 L) ++ zb_5 G a)) from (((List.Perm.append_left _ List.perm_append_comm).trans (List.perm_append_comm_assoc _ _ _))).trans ((List.Perm.append_left _ List.perm_append_comm).trans (List.perm_append_comm_assoc _ _ _))).trans (List.Perm.of_eq (by simp only [List.append_assoc, List.append_nil, List.nil_append]))).symm
    have hP : va_P G.1 vwCl ((zb_5 G a) ++ ((zb_L G a.2.2.1 L) ++ zb_M G a.2.2.1 L)) H := hP
    have hD : va_D A ((zb_5 G a) ++ ((zb_L G a.2.2.1 L) ++ zb_M G a.2.2.1 L)) := hD
    rw [hQ]
    refine vx_ret ?_
    exact zk_reti () rfl hx hb hr hlocks hS hP hD (Nat.le_of_ble_eq_true rfl) (Nat.le_of_ble_eq_true rfl) dX5_family_76 (⟨hq1, ⟨3, by decide, h2_3⟩, by rw [nfk, xFamily_3 h2_3]⟩)
  rcases Decidable.em (w = nI 4) with h2_4 | h2_n4
  · refine lv_tableIn (tgt := 77) hx hb dX5_family_5 (by rw [h2_4]; decide) (by rw [h2_4]; decide) (by rw [h2_4]; rfl) (by decide) ?_
    refine lv_aload_n hx hb dX5_family_77 rfl (lv_at hl 0 rfl) ?_
    refine va_get (D := G.1) (ci := 4) (v := .ref (a.2.2.1 0)) (C := RX5) (T := TX5) (N := 6) hx hb hts (fun _ h => List.mem_cons_of_mem _ (List.mem_append_left _ (List.mem_append_left _ (List.mem_append_left _ (List.mem_append_right _ h))))) hown hK hP 0 rfl rfl 1 (by decide) w3 (fun _ h9 => h9) rfl dX5_family_78 ?_
    refine va_get (D := G.1) (ci := 1) (v := .ref (a.2.2.1 8)) (C := RX2) (T := TX2) (N := 14) hx hb hts (fun _ h => List.mem_cons_of_mem _ (List.mem_append_left _ (List.mem_append_left _ (List.mem_append_right _ h)))) hown hK hP 1 rfl rfl 12 (by decide) w5 (fun _ h9 => h9) rfl dX5_family_81 ?_
    refine lv_iload_n hx hb dX5_family_84 rfl (lv_at hl 1 rfl) ?_
    refine zk_ialdN hx hb hK hP 9 0 rfl rfl (k := fk) (n := 5) (by omega) (by omega) dX5_family_85 ?_
    rw [hQ]
    refine vx_ret ?_
    exact zk_reti () rfl hx hb hr hlocks hS hP hD (Nat.le_of_ble_eq_true rfl) (Nat.le_of_ble_eq_true rfl) dX5_family_86 (⟨hq1, ⟨4, by decide, h2_4⟩, by rw [nfk, xFamily_4 h2_4]⟩)
  refine lv_tableOut (tgt := 87) hx hb dX5_family_5 (zk_out (0) 5 (fun k hk z => by
        rcases (show k = 0 ∨ k = 1 ∨ k = 2 ∨ k = 3 ∨ k = 4 by omega) with rfl | rfl | rfl | rfl | rfl
        · exact h2_n0 (zk_toI z (by decide))
        · exact h2_n1 (zk_toI z (by decide))
        · exact h2_n2 (zk_toI z (by decide))
        · exact h2_n3 (zk_toI z (by decide))
        · exact h2_n4 (zk_toI z (by decide)))) (by decide) ?_
  rw [hQ]
  exact vx_throwS (cls := "java/lang/IllegalArgumentException") (names := zk_up) hx hb hst hown (by decide +kernel) (by decide +kernel) w1 w2 (zk_R15 hE.2.2.1) (zk_hat (fun w hw => hts w (List.mem_cons_of_mem _ (List.mem_append_left _ (List.mem_append_right _ hw)))) hE.2.1.2.2.2.2.2.2.2 hE.2.1.2.2.2.2.2.2.2.2.2.2.2.1 (by decide +kernel)) (by decide +kernel) (hE.2.2.2.1.1.narrow hA0) (hE.2.2.2.1.2.1.narrow hA0) hS (hl.1.trans hml.symm) dX5_family_87 dX5_family_90 dX5_family_91 dX5_family_93 dX5_family_96 (fun x h => (hnx x h).elim) (Nat.le_of_ble_eq_true rfl) (Nat.le_of_ble_eq_true rfl) (Nat.le_of_ble_eq_true rfl) (Nat.le_of_ble_eq_true rfl) hlocks (fun t _ hz hk => zk_thx hP hD hS (List.Perm.refl _) (Or.inr ⟨rfl, hq1, (fun ⟨j, hj, e⟩ => by
        rcases (show j = 0 ∨ j = 1 ∨ j = 2 ∨ j = 3 ∨ j = 4 by omega) with rfl | rfl | rfl | rfl | rfl
        · exact h2_n0 e
        · exact h2_n1 e
        · exact h2_n2 e
        · exact h2_n3 e
        · exact h2_n4 e)⟩) hz hk) hS.2.2 (Nat.le_of_ble_eq_true rfl) (Nat.le_of_ble_eq_true rfl)

def xDay (L : zL) (n t : Nat) (dk : Nat) (w : Int32) : Int32 :=
  if w = nI 0 then (L 6) dk else if w = nI 1 then nI 12 - zs (fun i => if L 9 (i * 40 + dk) = (nI 0) then nI 1 else nI 0) 12 else if w = nI 2 then (zs (fun i => if L 9 (i * 40 + dk) = (nI 2) then nI 1 else nI 0) 12) + (zs (fun i => if L 9 (i * 40 + dk) = (nI 3) then nI 1 else nI 0) 12) else if w = nI 3 then zs (fun i => if L 9 (i * 40 + dk) = nI 2 then L 10 (i * 40 + dk) else nI 0) 12 else -1
theorem xDay_0 {L : zL} {n t : Nat} {dk : Nat} {w : Int32} (h : w = nI 0) : xDay L n t dk w = (L 6) dk := by subst h; rfl
theorem xDay_1 {L : zL} {n t : Nat} {dk : Nat} {w : Int32} (h : w = nI 1) : xDay L n t dk w = nI 12 - zs (fun i => if L 9 (i * 40 + dk) = (nI 0) then nI 1 else nI 0) 12 := by subst h; rfl
theorem xDay_2 {L : zL} {n t : Nat} {dk : Nat} {w : Int32} (h : w = nI 2) : xDay L n t dk w = (zs (fun i => if L 9 (i * 40 + dk) = (nI 2) then nI 1 else nI 0) 12) + (zs (fun i => if L 9 (i * 40 + dk) = (nI 3) then nI 1 else nI 0) 12) := by subst h; rfl
theorem xDay_3 {L : zL} {n t : Nat} {dk : Nat} {w : Int32} (h : w = nI 3) : xDay L n t dk w = zs (fun i => if L 9 (i * 40 + dk) = nI 2 then L 10 (i * 40 + dk) else nI 0) 12 := by subst h; rfl
abbrev rmX5_day : Room := { frames := 7, cells := 4, slots := 24, locals := 102 }
set_option maxHeartbeats 4000000 in
set_option maxRecDepth 100000 in
/-- a day -/
theorem c_X5_day (l : Launch) (G : zk_G) (hst : l.stackTraces = false) (a : zA) (L : zL) (n t : Nat) (hI : sInv L n t) (d w : Int32) : zk_XI (S := Unit) l yX5_day wsX5_day rmX5_day G [.ref a.1, .int d, .int w] ((zb_5 G a) ++ ((zb_L G a.2.2.1 L) ++ zb_M G a.2.2.1 L)) (fun r _ => sDay d ∧ zIn w 4 ∧ r = xDay L n t d.toNatClampNeg w) (fun _ => (zb_5 G a) ++ ((zb_L G a.2.2.1 L) ++ zb_M G a.2.2.1 L)) (fun E => (E = "java/lang/IndexOutOfBoundsException" ∧ ¬ sDay d) ∨ (E = "java/lang/IllegalArgumentException" ∧ sDay d ∧ ¬ zIn w 4)) := by
  refine zk_bodyXI (cc := cX5_day) (maxL := 3) (ret := (some .int)) (by decide) rfl (Nat.le_of_ble_eq_true rfl) ?_
  intro p E0 s m args below meth cd A ls Q hF hnx hQ
  obtain ⟨hx, hb, hml, hr, hts, hown, hlocks, -, hE, hP, hD, hS, hA, hA0, hl⟩ := hF
  have hK := hE.1
  have hl : lv_has ls 3 [(0, .ref a.1), (1, .int d), (2, .int w)] := hl
  obtain ⟨hn, hn12, ht, ht40, hfam, hpay⟩ := id hI
  have w3 := hts _ (List.mem_of_getElem? (l := wsX5_day) (i := 3) (a := Cond.fieldLink RX5 19 "MealAccounts" "now" "LMealAccounts$Ledger;") rfl)
  have w4 := hts _ (List.mem_of_getElem? (l := wsX5_day) (i := 4) (a := Cond.fieldLink RX5 175 "MealAccounts$Ledger" "menuOn" "[I") rfl)
  have w5 := hts _ (List.mem_of_getElem? (l := wsX5_day) (i := 5) (a := Cond.fieldLink RX5 93 "MealAccounts$Ledger" "meals" "LMealAccounts$Meals;") rfl)
  have w1 := hts _ (List.mem_of_getElem? (l := wsX5_day) (i := 1) (a := Cond.classLink RX5 41 "java/lang/IllegalArgumentException") rfl)
  have w2 := hts _ (List.mem_of_getElem? (l := wsX5_day) (i := 2) (a := Cond.initialized "java/lang/IllegalArgumentException") rfl)
  refine lv_iload_n hx hb dX5_day_0 rfl (lv_at hl 1 rfl) ?_
  have hP0 : va_P G.1 vwCl (([] : va_W) ++ ((zb_5 G a) ++ ((zb_L G a.2.2.1 L) ++ zb_M G a.2.2.1 L))) s.heap := hP
  have hD0 : va_D A (([] : va_W) ++ ((zb_5 G a) ++ ((zb_L G a.2.2.1 L) ++ zb_M G a.2.2.1 L))) := hD
  refine zk_callXV (wr := (zb_5 G a) ++ ((zb_L G a.2.2.1 L) ++ zb_M G a.2.2.1 L)) (vx_runS (As := [.int d]) (rest := []) ⟨hx, hb, hml, hown, hts⟩ (c_X5_requireDay l G hst d _) (cwS 1 hts gX5_day_X5_requireDay rfl rfl rfl (by decide +kernel) ⟨Nat.le_of_ble_eq_true rfl, Nat.le_of_ble_eq_true rfl⟩) (zk_preS hE hA0 hS (zk_Papp hP0).1 (zk_Dapp hD0).1) rfl rfl hl.1 rfl (lv_room (Nat.le_of_ble_eq_true rfl)) dX5_day_1 ⟨Nat.le_of_ble_eq_true rfl, Nat.le_of_ble_eq_true rfl⟩) hQ hnx hlocks (Nat.le_of_ble_eq_true rfl) (Nat.le_of_ble_eq_true rfl) (List.Perm.refl _) (fun E h => Or.inl h) hP0 hD0 hS hA (fun _ H locs hq1 hP hD hS => ?_)
  have hP : va_P G.1 vwCl ((zb_5 G a) ++ ((zb_L G a.2.2.1 L) ++ zb_M G a.2.2.1 L)) H := hP
  have hD : va_D A ((zb_5 G a) ++ ((zb_L G a.2.2.1 L) ++ zb_M G a.2.2.1 L)) := hD
  obtain ⟨dk, hdk, edk⟩ := sDay_nat hq1
  subst edk
  have ndk := nI_clamp (show dk < 2 ^ 31 by omega)
  refine lv_iload_n hx hb dX5_day_4 rfl (lv_at hl 2 rfl) ?_
  rcases Decidable.em (w = nI 0) with h2_0 | h2_n0
  · refine lv_tableIn (tgt := 36) hx hb dX5_day_5 (by rw [h2_0]; decide) (by rw [h2_0]; decide) (by rw [h2_0]; rfl) (by decide) ?_
    refine lv_aload_n hx hb dX5_day_36 rfl (lv_at hl 0 rfl) ?_
    refine va_get (D := G.1) (ci := 4) (v := .ref (a.2.2.1 0)) (C := RX5) (T := TX5) (N := 6) hx hb hts (fun _ h => List.mem_cons_of_mem _ (List.mem_append_left _ (List.mem_append_left _ (List.mem_append_left _ (List.mem_append_left _ (List.mem_append_right _ h)))))) hown hK hP 0 rfl rfl 1 (by decide) w3 (fun _ h9 => h9) rfl dX5_day_37 ?_
    refine va_get (D := G.1) (ci := 1) (v := .ref (a.2.2.1 6)) (C := RX2) (T := TX2) (N := 14) hx hb hts (fun _ h => List.mem_cons_of_mem _ (List.mem_append_left _ (List.mem_append_left _ (List.mem_append_left _ (List.mem_append_right _ h))))) hown hK hP 1 rfl rfl 10 (by decide) w4 (fun _ h9 => h9) rfl dX5_day_40 ?_
    refine lv_iload_n hx hb dX5_day_43 rfl (lv_at hl 1 rfl) ?_
    refine zk_ialdN hx hb hK hP 7 0 rfl rfl (k := dk) (n := 40) (by omega) (by omega) dX5_day_44 ?_
    rw [hQ]
    refine vx_ret ?_
    exact zk_reti () rfl hx hb hr hlocks hS hP hD (Nat.le_of_ble_eq_true rfl) (Nat.le_of_ble_eq_true rfl) dX5_day_45 (⟨hq1, ⟨0, by decide, h2_0⟩, by rw [ndk, xDay_0 h2_0]⟩)
  rcases Decidable.em (w = nI 1) with h2_1 | h2_n1
  · refine lv_tableIn (tgt := 46) hx hb dX5_day_5 (by rw [h2_1]; decide) (by rw [h2_1]; decide) (by rw [h2_1]; rfl) (by decide) ?_
    refine lv_aload_n hx hb dX5_day_46 rfl (lv_at hl 0 rfl) ?_
    refine va_get (D := G.1) (ci := 4) (v := .ref (a.2.2.1 0)) (C := RX5) (T := TX5) (N := 6) hx hb hts (fun _ h => List.mem_cons_of_mem _ (List.mem_append_left _ (List.mem_append_left _ (List.mem_append_left _ (List.mem_append_left _ (List.mem_append_right _ h)))))) hown hK hP 0 rfl rfl 1 (by decide) w3 (fun _ h9 => h9) rfl dX5_day_47 ?_
    refine va_get (D := G.1) (ci := 1) (v := .ref (a.2.2.1 9)) (C := RX2) (T := TX2) (N := 14) hx hb hts (fun _ h => List.mem_cons_of_mem _ (List.mem_append_left _ (List.mem_append_left _ (List.mem_append_left _ (List.mem_append_right _ h))))) hown hK hP 1 rfl rfl 13 (by decide) w5 (fun _ h9 => h9) rfl dX5_day_50 ?_
    refine lv_iload_n hx hb dX5_day_53 rfl (lv_at hl 1 rfl) ?_
    have hP0 : va_P G.1 vwCl ((zb_M G a.2.2.1 L) ++ ((zb_5 G a) ++ zb_L G a.2.2.1 L)) H := zk_Pperm hP (show ((zb_5 G a) ++ ((zb_L G a.2.2.1 L) ++ zb_M G a.2.2.1 L)).Perm ((zb_M G a.2.2.1 L) ++ ((zb_5 G a) ++ zb_L G a.2.2.1 L)) from (show ((zb_5 G a) ++ ((zb_L G a.2.2.1 L) ++ zb_M G a.2.2.1 L)).Perm ((zb_M G a.2.2.1 L) ++ ((zb_5 G a) ++ zb_L G a.2.2.1 L)) from ((List.Perm.append_left _ List.perm_append_comm).trans (List.perm_append_comm_assoc _ _ _))).trans (List.Perm.of_eq (by simp only [List.append_assoc, List.append_nil, List.nil_append])))
    have hD0 : va_D A ((zb_M G a.2.2.1 L) ++ ((zb_5 G a) ++ zb_L G a.2.2.1 L)) := zk_Dperm hD (show ((zb_5 G a) ++ ((zb_L G a.2.2.1 L) ++ zb_M G a.2.2.1 L)).Perm ((zb_M G a.2.2.1 L) ++ ((zb_5 G a) ++ zb_L G a.2.2.1 L)) from (show ((zb_5 G a) ++ ((zb_L G a.2.2.1 L) ++ zb_M G a.2.2.1 L)).Perm ((zb_M G a.2.2.1 L) ++ ((zb_5 G a) ++ zb_L G a.2.2.1 L)) from ((List.Perm.append_left _ List.perm_append_comm).trans (List.perm_append_comm_assoc _ _ _))).trans (List.Perm.of_eq (by simp only [List.append_assoc, List.append_nil, List.nil_append])))
    refine zk_callI (wr := (zb_5 G a) ++ zb_L G a.2.2.1 L) (va_runV (As := [.int (nI dk)]) (rest := []) ⟨hx, hb, hml, hown, hts⟩ (c_X3_countOrderedOn l G a.2.2.1 L dk (by omega) _) (cwV 1 hts gX5_day_X3_countOrderedOn rfl rfl rfl (by decide +kernel) ⟨Nat.le_of_ble_eq_true rfl, Nat.le_of_ble_eq_true rfl⟩) (zk_preV hE hA0 hS (zk_Papp hP0).1 (zk_Dapp hD0).1 (va_recv hK hP (ci := 2) (q0 := 10) rfl rfl)) rfl rfl hl.1 rfl (lv_room (Nat.le_of_ble_eq_true rfl)) dX5_day_54 ⟨Nat.le_of_ble_eq_true rfl, Nat.le_of_ble_eq_true rfl⟩) hP0 hD0 hS hA (fun r3 u4 H locs q5 hP hD hS => ?_)
    subst q5
    have hP : va_P G.1 vwCl ((zb_5 G a) ++ ((zb_L G a.2.2.1 L) ++ zb_M G a.2.2.1 L)) H := zk_Pperm hP (show ((zb_5 G a) ++ ((zb_L G a.2.2.1 L) ++ zb_M G a.2.2.1 L)).Perm ((zb_M G a.2.2.1 L) ++ ((zb_5 G a) ++ zb_L G a.2.2.1 L)) from (show ((zb_5 G a) ++ ((zb_L G a.2.2.1 L) ++ zb_M G a.2.2.1 L)).Perm ((zb_M G a.2.2.1 L) ++ ((zb_5 G a) ++ zb_L G a.2.2.1 L)) from ((List.Perm.append_left _ List.perm_append_comm).trans (List.perm_append_comm_assoc _ _ _))).trans (List.Perm.of_eq (by simp only [List.append_assoc, List.append_nil, List.nil_append]))).symm
    have hD : va_D A ((zb_5 G a) ++ ((zb_L G a.2.2.1 L) ++ zb_M G a.2.2.1 L)) := zk_Dperm hD (show ((zb_5 G a) ++ ((zb_L G a.2.2.1 L) ++ zb_M G a.2.2.1 L)).Perm ((zb_M G a.2.2.1 L) ++ ((zb_5 G a) ++ zb_L G a.2.2.1 L)) from (show ((zb_5 G a) ++ ((zb_L G a.2.2.1 L) ++ zb_M G a.2.2.1 L)).Perm ((zb_M G a.2.2.1 L) ++ ((zb_5 G a) ++ zb_L G a.2.2.1 L)) from ((List.Perm.append_left _ List.perm_append_comm).trans (List.perm_append_comm_assoc _ _ _))).trans (List.Perm.of_eq (by simp only [List.append_assoc, List.append_nil, List.nil_append]))).symm
    have hP : va_P G.1 vwCl ((zb_5 G a) ++ ((zb_L G a.2.2.1 L) ++ zb_M G a.2.2.1 L)) H := hP
    have hD : va_D A ((zb_5 G a) ++ ((zb_L G a.2.2.1 L) ++ zb_M G a.2.2.1 L)) := hD
    rw [hQ]
    refine vx_ret ?_
    exact zk_reti () rfl hx hb hr hlocks hS hP hD (Nat.le_of_ble_eq_true rfl) (Nat.le_of_ble_eq_true rfl) dX5_day_57 (⟨hq1, ⟨1, by decide, h2_1⟩, by rw [ndk, xDay_1 h2_1]⟩)
  rcases Decidable.em (w = nI 2) with h2_2 | h2_n2
  · refine lv_tableIn (tgt := 58) hx hb dX5_day_5 (by rw [h2_2]; decide) (by rw [h2_2]; decide) (by rw [h2_2]; rfl) (by decide) ?_
    refine lv_aload_n hx hb dX5_day_58 rfl (lv_at hl 0 rfl) ?_
    refine va_get (D := G.1) (ci := 4) (v := .ref (a.2.2.1 0)) (C := RX5) (T := TX5) (N := 6) hx hb hts (fun _ h => List.mem_cons_of_mem _ (List.mem_append_left _ (List.mem_append_left _ (List.mem_append_left _ (List.mem_append_left _ (List.mem_append_right _ h)))))) hown hK hP 0 rfl rfl 1 (by decide) w3 (fun _ h9 => h9) rfl dX5_day_59 ?_
    refine va_get (D := G.1) (ci := 1) (v := .ref (a.2.2.1 9)) (C := RX2) (T := TX2) (N := 14) hx hb hts (fun _ h => List.mem_cons_of_mem _ (List.mem_append_left _ (List.mem_append_left _ (List.mem_append_left _ (List.mem_append_right _ h))))) hown hK hP 1 rfl rfl 13 (by decide) w5 (fun _ h9 => h9) rfl dX5_day_62 ?_
    refine lv_iload_n hx hb dX5_day_65 rfl (lv_at hl 1 rfl) ?_
    refine lv_iconst (v := nI 2) hx hb dX5_day_66 (by decide) ?_
    have hP0 : va_P G.1 vwCl ((zb_M G a.2.2.1 L) ++ ((zb_5 G a) ++ zb_L G a.2.2.1 L)) H := zk_Pperm hP (show ((zb_5 G a) ++ ((zb_L G a.2.2.1 L) ++ zb_M G a.2.2.1 L)).Perm ((zb_M G a.2.2.1 L) ++ ((zb_5 G a) ++ zb_L G a.2.2.1 L)) from (show ((zb_5 G a) ++ ((zb_L G a.2.2.1 L) ++ zb_M G a.2.2.1 L)).Perm ((zb_M G a.2.2.1 L) ++ ((zb_5 G a) ++ zb_L G a.2.2.1 L)) from ((List.Perm.append_left _ List.perm_append_comm).trans (List.perm_append_comm_assoc _ _ _))).trans (List.Perm.of_eq (by simp only [List.append_assoc, List.append_nil, List.nil_append])))
    have hD0 : va_D A ((zb_M G a.2.2.1 L) ++ ((zb_5 G a) ++ zb_L G a.2.2.1 L)) := zk_Dperm hD (show ((zb_5 G a) ++ ((zb_L G a.2.2.1 L) ++ zb_M G a.2.2.1 L)).Perm ((zb_M G a.2.2.1 L) ++ ((zb_5 G a) ++ zb_L G a.2.2.1 L)) from (show ((zb_5 G a) ++ ((zb_L G a.2.2.1 L) ++ zb_M G a.2.2.1 L)).Perm ((zb_M G a.2.2.1 L) ++ ((zb_5 G a) ++ zb_L G a.2.2.1 L)) from ((List.Perm.append_left _ List.perm_append_comm).trans (List.perm_append_comm_assoc _ _ _))).trans (List.Perm.of_eq (by simp only [List.append_assoc, List.append_nil, List.nil_append])))
    refine zk_callI (wr := (zb_5 G a) ++ zb_L G a.2.2.1 L) (va_runV (As := [.int (nI dk), .int (nI 2)]) (rest := []) ⟨hx, hb, hml, hown, hts⟩ (c_X3_countOn l G a.2.2.1 L dk (nI 2) (by omega) _) (cwV 2 hts gX5_day_X3_countOn rfl rfl rfl (by decide +kernel) ⟨Nat.le_of_ble_eq_true rfl, Nat.le_of_ble_eq_true rfl⟩) (zk_preV hE hA0 hS (zk_Papp hP0).1 (zk_Dapp hD0).1 (va_recv hK hP (ci := 2) (q0 := 10) rfl rfl)) rfl rfl hl.1 rfl (lv_room (Nat.le_of_ble_eq_true rfl)) dX5_day_67 ⟨Nat.le_of_ble_eq_true rfl, Nat.le_of_ble_eq_true rfl⟩) hP0 hD0 hS hA (fun r6 u7 H locs q8 hP hD hS => ?_)
    subst q8
    have hP : va_P G.1 vwCl ((zb_5 G a) ++ ((zb_L G a.2.2.1 L) ++ zb_M G a.2.2.1 L)) H := zk_Pperm hP (show ((zb_5 G a) ++ ((zb_L G a.2.2.1 L) ++ zb_M G a.2.2.1 L)).Perm ((zb_M G a.2.2.1 L) ++ ((zb_5 G a) ++ zb_L G a.2.2.1 L)) from (show ((zb_5 G a) ++ ((zb_L G a.2.2.1 L) ++ zb_M G a.2.2.1 L)).Perm ((zb_M G a.2.2.1 L) ++ ((zb_5 G a) ++ zb_L G a.2.2.1 L)) from ((List.Perm.append_left _ List.perm_append_comm).trans (List.perm_append_comm_assoc _ _ _))).trans (List.Perm.of_eq (by simp only [List.append_assoc, List.append_nil, List.nil_append]))).symm
    have hD : va_D A ((zb_5 G a) ++ ((zb_L G a.2.2.1 L) ++ zb_M G a.2.2.1 L)) := zk_Dperm hD (show ((zb_5 G a) ++ ((zb_L G a.2.2.1 L) ++ zb_M G a.2.2.1 L)).Perm ((zb_M G a.2.2.1 L) ++ ((zb_5 G a) ++ zb_L G a.2.2.1 L)) from (show ((zb_5 G a) ++ ((zb_L G a.2.2.1 L) ++ zb_M G a.2.2.1 L)).Perm ((zb_M G a.2.2.1 L) ++ ((zb_5 G a) ++ zb_L G a.2.2.1 L)) from ((List.Perm.append_left _ List.perm_append_comm).trans (List.perm_append_comm_assoc _ _ _))).trans (List.Perm.of_eq (by simp only [List.append_assoc, List.append_nil, List.nil_append]))).symm
    have hP : va_P G.1 vwCl ((zb_5 G a) ++ ((zb_L G a.2.2.1 L) ++ zb_M G a.2.2.1 L)) H := hP
    have hD : va_D A ((zb_5 G a) ++ ((zb_L G a.2.2.1 L) ++ zb_M G a.2.2.1 L)) := hD
    refine lv_aload_n hx hb dX5_day_70 rfl (lv_at hl 0 rfl) ?_
    refine va_get (D := G.1) (ci := 4) (v := .ref (a.2.2.1 0)) (C := RX5) (T := TX5) (N := 6) hx hb hts (fun _ h => List.mem_cons_of_mem _ (List.mem_append_left _ (List.mem_append_left _ (List.mem_append_left _ (List.mem_append_left _ (List.mem_append_right _ h)))))) hown hK hP 0 rfl rfl 1 (by decide) w3 (fun _ h9 => h9) rfl dX5_day_71 ?_
    refine va_get (D := G.1) (ci := 1) (v := .ref (a.2.2.1 9)) (C := RX2) (T := TX2) (N := 14) hx hb hts (fun _ h => List.mem_cons_of_mem _ (List.mem_append_left _ (List.mem_append_left _ (List.mem_append_left _ (List.mem_append_right _ h))))) hown hK hP 1 rfl rfl 13 (by decide) w5 (fun _ h9 => h9) rfl dX5_day_74 ?_
    refine lv_iload_n hx hb dX5_day_77 rfl (lv_at hl 1 rfl) ?_
    refine lv_iconst (v := nI 3) hx hb dX5_day_78 (by decide) ?_
    have hP0 : va_P G.1 vwCl ((zb_M G a.2.2.1 L) ++ ((zb_5 G a) ++ zb_L G a.2.2.1 L)) H := zk_Pperm hP (show ((zb_5 G a) ++ ((zb_L G a.2.2.1 L) ++ zb_M G a.2.2.1 L)).Perm ((zb_M G a.2.2.1 L) ++ ((zb_5 G a) ++ zb_L G a.2.2.1 L)) from (show ((zb_5 G a) ++ ((zb_L G a.2.2.1 L) ++ zb_M G a.2.2.1 L)).Perm ((zb_M G a.2.2.1 L) ++ ((zb_5 G a) ++ zb_L G a.2.2.1 L)) from ((List.Perm.append_left _ List.perm_append_comm).trans (List.perm_append_comm_assoc _ _ _))).trans (List.Perm.of_eq (by simp only [List.append_assoc, List.append_nil, List.nil_append])))
    have hD0 : va_D A ((zb_M G a.2.2.1 L) ++ ((zb_5 G a) ++ zb_L G a.2.2.1 L)) := zk_Dperm hD (show ((zb_5 G a) ++ ((zb_L G a.2.2.1 L) ++ zb_M G a.2.2.1 L)).Perm ((zb_M G a.2.2.1 L) ++ ((zb_5 G a) ++ zb_L G a.2.2.1 L)) from (show ((zb_5 G a) ++ ((zb_L G a.2.2.1 L) ++ zb_M G a.2.2.1 L)).Perm ((zb_M G a.2.2.1 L) ++ ((zb_5 G a) ++ zb_L G a.2.2.1 L)) from ((List.Perm.append_left _ List.perm_append_comm).trans (List.perm_append_comm_assoc _ _ _))).trans (List.Perm.of_eq (by simp only [List.append_assoc, List.append_nil, List.nil_append])))
    refine zk_callI (wr := (zb_5 G a) ++ zb_L G a.2.2.1 L) (va_runV (As := [.int (nI dk), .int (nI 3)]) (rest := [.int (zs (fun i => if L 9 (i * 40 + dk) = (nI 2) then nI 1 else nI 0) 12)]) ⟨hx, hb, hml, hown, hts⟩ (c_X3_countOn l G a.2.2.1 L dk (nI 3) (by omega) _) (cwV 2 hts gX5_day_X3_countOn rfl rfl rfl (by decide +kernel) ⟨Nat.le_of_ble_eq_true rfl, Nat.le_of_ble_eq_true rfl⟩) (zk_preV hE hA0 hS (zk_Papp hP0).1 (zk_Dapp hD0).1 (va_recv hK hP (ci := 2) (q0 := 10) rfl rfl)) rfl rfl hl.1 rfl (lv_room (Nat.le_of_ble_eq_true rfl)) dX5_day_79 ⟨Nat.le_of_ble_eq_true rfl, Nat.le_of_ble_eq_true rfl⟩) hP0 hD0 hS hA (fun r9 u10 H locs q11 hP hD hS => ?_)
    subst q11
    have hP : va_P G.1 vwCl ((zb_5 G a) ++ ((zb_L G a.2.2.1 L) ++ zb_M G a.2.2.1 L)) H := zk_Pperm hP (show ((zb_5 G a) ++ ((zb_L G a.2.2.1 L) ++ zb_M G a.2.2.1 L)).Perm ((zb_M G a.2.2.1 L) ++ ((zb_5 G a) ++ zb_L G a.2.2.1 L)) from (show ((zb_5 G a) ++ ((zb_L G a.2.2.1 L) ++ zb_M G a.2.2.1 L)).Perm ((zb_M G a.2.2.1 L) ++ ((zb_5 G a) ++ zb_L G a.2.2.1 L)) from ((List.Perm.append_left _ List.perm_append_comm).trans (List.perm_append_comm_assoc _ _ _))).trans (List.Perm.of_eq (by simp only [List.append_assoc, List.append_nil, List.nil_append]))).symm
    have hD : va_D A ((zb_5 G a) ++ ((zb_L G a.2.2.1 L) ++ zb_M G a.2.2.1 L)) := zk_Dperm hD (show ((zb_5 G a) ++ ((zb_L G a.2.2.1 L) ++ zb_M G a.2.2.1 L)).Perm ((zb_M G a.2.2.1 L) ++ ((zb_5 G a) ++ zb_L G a.2.2.1 L)) from (show ((zb_5 G a) ++ ((zb_L G a.2.2.1 L) ++ zb_M G a.2.2.1 L)).Perm ((zb_M G a.2.2.1 L) ++ ((zb_5 G a) ++ zb_L G a.2.2.1 L)) from ((List.Perm.append_left _ List.perm_append_comm).trans (List.perm_append_comm_assoc _ _ _))).trans (List.Perm.of_eq (by simp only [List.append_assoc, List.append_nil, List.nil_append]))).symm
    have hP : va_P G.1 vwCl ((zb_5 G a) ++ ((zb_L G a.2.2.1 L) ++ zb_M G a.2.2.1 L)) H := hP
    have hD : va_D A ((zb_5 G a) ++ ((zb_L G a.2.2.1 L) ++ zb_M G a.2.2.1 L)) := hD
    refine lv_iadd hx hb dX5_day_82 ?_
    rw [hQ]
    refine vx_ret ?_
    exact zk_reti () rfl hx hb hr hlocks hS hP hD (Nat.le_of_ble_eq_true rfl) (Nat.le_of_ble_eq_true rfl) dX5_day_83 (⟨hq1, ⟨2, by decide, h2_2⟩, by rw [ndk, xDay_2 h2_2]⟩)
  rcases Decidable.em (w = nI 3) with h2_3 | h2_n3
  · refine lv_tableIn (tgt := 84) hx hb dX5_day_5 (by rw [h2_3]; decide) (by rw [h2_3]; decide) (by rw [h2_3]; rfl) (by decide) ?_
    refine lv_aload_n hx hb dX5_day_84 rfl (lv_at hl 0 rfl) ?_
    refine va_get (D := G.1) (ci := 4) (v := .ref (a.2.2.1 0)) (C := RX5) (T := TX5) (N := 6) hx hb hts (fun _ h => List.mem_cons_of_mem _ (List.mem_append_left _ (List.mem_append_left _ (List.mem_append_left _ (List.mem_append_left _ (List.mem_append_right _ h)))))) hown hK hP 0 rfl rfl 1 (by decide) w3 (fun _ h9 => h9) rfl dX5_day_85 ?_
    refine va_get (D := G.1) (ci := 1) (v := .ref (a.2.2.1 9)) (C := RX2) (T := TX2) (N := 14) hx hb hts (fun _ h => List.mem_cons_of_mem _ (List.mem_append_left _ (List.mem_append_left _ (List.mem_append_left _ (List.mem_append_right _ h))))) hown hK hP 1 rfl rfl 13 (by decide) w5 (fun _ h9 => h9) rfl dX5_day_88 ?_
    refine lv_iload_n hx hb dX5_day_91 rfl (lv_at hl 1 rfl) ?_
    have hP0 : va_P G.1 vwCl ((zb_M G a.2.2.1 L) ++ ((zb_5 G a) ++ zb_L G a.2.2.1 L)) H := zk_Pperm hP (show ((zb_5 G a) ++ ((zb_L G a.2.2.1 L) ++ zb_M G a.2.2.1 L)).Perm ((zb_M G a.2.2.1 L) ++ ((zb_5 G a) ++ zb_L G a.2.2.1 L)) from (show ((zb_5 G a) ++ ((zb_L G a.2.2.1 L) ++ zb_M G a.2.2.1 L)).Perm ((zb_M G a.2.2.1 L) ++ ((zb_5 G a) ++ zb_L G a.2.2.1 L)) from ((List.Perm.append_left _ List.perm_append_comm).trans (List.perm_append_comm_assoc _ _ _))).trans (List.Perm.of_eq (by simp only [List.append_assoc, List.append_nil, List.nil_append])))
    have hD0 : va_D A ((zb_M G a.2.2.1 L) ++ ((zb_5 G a) ++ zb_L G a.2.2.1 L)) := zk_Dperm hD (show ((zb_5 G a) ++ ((zb_L G a.2.2.1 L) ++ zb_M G a.2.2.1 L)).Perm ((zb_M G a.2.2.1 L) ++ ((zb_5 G a) ++ zb_L G a.2.2.1 L)) from (show ((zb_5 G a) ++ ((zb_L G a.2.2.1 L) ++ zb_M G a.2.2.1 L)).Perm ((zb_M G a.2.2.1 L) ++ ((zb_5 G a) ++ zb_L G a.2.2.1 L)) from ((List.Perm.append_left _ List.perm_append_comm).trans (List.perm_append_comm_assoc _ _ _))).trans (List.Perm.of_eq (by simp only [List.append_assoc, List.append_nil, List.nil_append])))
    refine zk_callI (wr := (zb_5 G a) ++ zb_L G a.2.2.1 L) (va_runV (As := [.int (nI dk)]) (rest := []) ⟨hx, hb, hml, hown, hts⟩ (c_X3_chargedOn l G a.2.2.1 L dk (by omega) _) (cwV 1 hts gX5_day_X3_chargedOn rfl rfl rfl (by decide +kernel) ⟨Nat.le_of_ble_eq_true rfl, Nat.le_of_ble_eq_true rfl⟩) (zk_preV hE hA0 hS (zk_Papp hP0).1 (zk_Dapp hD0).1 (va_recv hK hP (ci := 2) (q0 := 10) rfl rfl)) rfl rfl hl.1 rfl (lv_room (Nat.le_of_ble_eq_true rfl)) dX5_day_92 ⟨Nat.le_of_ble_eq_true rfl, Nat.le_of_ble_eq_true rfl⟩) hP0 hD0 hS hA (fun r12 u13 H locs q14 hP hD hS => ?_)
    subst q14
    have hP : va_P G.1 vwCl ((zb_5 G a) ++ ((zb_L G a.2.2.1 L) ++ zb_M G a.2.2.1 L)) H := zk_Pperm hP (show ((zb_5 G a) ++ ((zb_L G a.2.2.1 L) ++ zb_M G a.2.2.1 L)).Perm ((zb_M G a.2.2.1 L) ++ ((zb_5 G a) ++ zb_L G a.2.2.1 L)) from (show ((zb_5 G a) ++ ((zb_L G a.2.2.1 L) ++ zb_M G a.2.2.1 L)).Perm ((zb_M G a.2.2.1 L) ++ ((zb_5 G a) ++ zb_L G a.2.2.1 L)) from ((List.Perm.append_left _ List.perm_append_comm).trans (List.perm_append_comm_assoc _ _ _))).trans (List.Perm.of_eq (by simp only [List.append_assoc, List.append_nil, List.nil_append]))).symm
    have hD : va_D A ((zb_5 G a) ++ ((zb_L G a.2.2.1 L) ++ zb_M G a.2.2.1 L)) := zk_Dperm hD (show ((zb_5 G a) ++ ((zb_L G a.2.2.1 L) ++ zb_M G a.2.2.1 L)).Perm ((zb_M G a.2.2.1 L) ++ ((zb_5 G a) ++ zb_L G a.2.2.1 L)) from (show ((zb_5 G a) ++ ((zb_L G a.2.2.1 L) ++ zb_M G a.2.2.1 L)).Perm ((zb_M G a.2.2.1 L) ++ ((zb_5 G a) ++ zb_L G a.2.2.1 L)) from ((List.Perm.append_left _ List.perm_append_comm).trans (List.perm_append_comm_assoc _ _ _))).trans (List.Perm.of_eq (by simp only [List.append_assoc, List.append_nil, List.nil_append]))).symm
    have hP : va_P G.1 vwCl ((zb_5 G a) ++ ((zb_L G a.2.2.1 L) ++ zb_M G a.2.2.1 L)) H := hP
    have hD : va_D A ((zb_5 G a) ++ ((zb_L G a.2.2.1 L) ++ zb_M G a.2.2.1 L)) := hD
    rw [hQ]
    refine vx_ret ?_
    exact zk_reti () rfl hx hb hr hlocks hS hP hD (Nat.le_of_ble_eq_true rfl) (Nat.le_of_ble_eq_true rfl) dX5_day_95 (⟨hq1, ⟨3, by decide, h2_3⟩, by rw [ndk, xDay_3 h2_3]⟩)
  refine lv_tableOut (tgt := 96) hx hb dX5_day_5 (zk_out (0) 4 (fun k hk z => by
        rcases (show k = 0 ∨ k = 1 ∨ k = 2 ∨ k = 3 by omega) with rfl | rfl | rfl | rfl
        · exact h2_n0 (zk_toI z (by decide))
        · exact h2_n1 (zk_toI z (by decide))
        · exact h2_n2 (zk_toI z (by decide))
        · exact h2_n3 (zk_toI z (by decide)))) (by decide) ?_
  rw [hQ]
  exact vx_throwS (cls := "java/lang/IllegalArgumentException") (names := zk_up) hx hb hst hown (by decide +kernel) (by decide +kernel) w1 w2 (zk_R17 hE.2.2.1) (zk_hat (fun w hw => hts w (List.mem_cons_of_mem _ (List.mem_append_left _ (List.mem_append_right _ hw)))) hE.2.1.2.2.2.2.2.2.2 hE.2.1.2.2.2.2.2.2.2.2.2.2.2.1 (by decide +kernel)) (by decide +kernel) (hE.2.2.2.1.1.narrow hA0) (hE.2.2.2.1.2.1.narrow hA0) hS (hl.1.trans hml.symm) dX5_day_96 dX5_day_99 dX5_day_100 dX5_day_102 dX5_day_105 (fun x h => (hnx x h).elim) (Nat.le_of_ble_eq_true rfl) (Nat.le_of_ble_eq_true rfl) (Nat.le_of_ble_eq_true rfl) (Nat.le_of_ble_eq_true rfl) hlocks (fun t _ hz hk => zk_thx hP hD hS (List.Perm.refl _) (Or.inr ⟨rfl, hq1, (fun ⟨j, hj, e⟩ => by
        rcases (show j = 0 ∨ j = 1 ∨ j = 2 ∨ j = 3 by omega) with rfl | rfl | rfl | rfl
        · exact h2_n0 e
        · exact h2_n1 e
        · exact h2_n2 e
        · exact h2_n3 e)⟩) hz hk) hS.2.2 (Nat.le_of_ble_eq_true rfl) (Nat.le_of_ble_eq_true rfl)

def xMeal (L : zL) (n t : Nat) (ck dk : Nat) (w : Int32) : Int32 :=
  if w = nI 0 then L 9 (ck * 40 + dk) else if w = nI 1 then (if L 9 (ck * 40 + dk) = nI 2 then L 10 (ck * 40 + dk) else if L 9 (ck * 40 + dk) = nI 3 then nI 0 else -1) else if w = nI 2 then (if L 9 (ck * 40 + dk) = nI 2 then L 11 (ck * 40 + dk) else -1) else -1
theorem xMeal_0 {L : zL} {n t : Nat} {ck dk : Nat} {w : Int32} (h : w = nI 0) : xMeal L n t ck dk w = L 9 (ck * 40 + dk) := by subst h; rfl
theorem xMeal_1 {L : zL} {n t : Nat} {ck dk : Nat} {w : Int32} (h : w = nI 1) : xMeal L n t ck dk w = (if L 9 (ck * 40 + dk) = nI 2 then L 10 (ck * 40 + dk) else if L 9 (ck * 40 + dk) = nI 3 then nI 0 else -1) := by subst h; rfl
theorem xMeal_2 {L : zL} {n t : Nat} {ck dk : Nat} {w : Int32} (h : w = nI 2) : xMeal L n t ck dk w = (if L 9 (ck * 40 + dk) = nI 2 then L 11 (ck * 40 + dk) else -1) := by subst h; rfl
abbrev rmX5_meal : Room := { frames := 7, cells := 4, slots := 24, locals := 103 }
set_option maxHeartbeats 4000000 in
set_option maxRecDepth 100000 in
/-- a meal -/
theorem c_X5_meal (l : Launch) (G : zk_G) (hst : l.stackTraces = false) (a : zA) (L : zL) (n t : Nat) (hI : sInv L n t) (c d w : Int32) : zk_XI (S := Unit) l yX5_meal wsX5_meal rmX5_meal G [.ref a.1, .int c, .int d, .int w] ((zb_5 G a) ++ ((zb_L G a.2.2.1 L) ++ zb_M G a.2.2.1 L)) (fun r _ => sHas L c ∧ sDay d ∧ zIn w 3 ∧ r = xMeal L n t c.toNatClampNeg d.toNatClampNeg w) (fun _ => (zb_5 G a) ++ ((zb_L G a.2.2.1 L) ++ zb_M G a.2.2.1 L)) (fun E => (E = "java/lang/IndexOutOfBoundsException" ∧ ¬ (sHas L c ∧ sDay d)) ∨ (E = "java/lang/IllegalArgumentException" ∧ sHas L c ∧ sDay d ∧ ¬ zIn w 3)) := by
  refine zk_bodyXI (cc := cX5_meal) (maxL := 4) (ret := (some .int)) (by decide) rfl (Nat.le_of_ble_eq_true rfl) ?_
  intro p E0 s m args below meth cd A ls Q hF hnx hQ
  obtain ⟨hx, hb, hml, hr, hts, hown, hlocks, -, hE, hP, hD, hS, hA, hA0, hl⟩ := hF
  have hK := hE.1
  have hl : lv_has ls 4 [(0, .ref a.1), (1, .int c), (2, .int d), (3, .int w)] := hl
  obtain ⟨hn, hn12, ht, ht40, hfam, hpay⟩ := id hI
  have w3 := hts _ (List.mem_of_getElem? (l := wsX5_meal) (i := 3) (a := Cond.fieldLink RX5 19 "MealAccounts" "now" "LMealAccounts$Ledger;") rfl)
  have w4 := hts _ (List.mem_of_getElem? (l := wsX5_meal) (i := 4) (a := Cond.fieldLink RX5 93 "MealAccounts$Ledger" "meals" "LMealAccounts$Meals;") rfl)
  have w1 := hts _ (List.mem_of_getElem? (l := wsX5_meal) (i := 1) (a := Cond.classLink RX5 41 "java/lang/IllegalArgumentException") rfl)
  have w2 := hts _ (List.mem_of_getElem? (l := wsX5_meal) (i := 2) (a := Cond.initialized "java/lang/IllegalArgumentException") rfl)
  refine lv_aload_n hx hb dX5_meal_0 rfl (lv_at hl 0 rfl) ?_
  refine lv_iload_n hx hb dX5_meal_1 rfl (lv_at hl 1 rfl) ?_
  have hP0 : va_P G.1 vwCl (((zb_5 G a) ++ ((zb_L G a.2.2.1 L) ++ zb_M G a.2.2.1 L)) ++ (([] : va_W))) s.heap := zk_Pperm hP (show ((zb_5 G a) ++ ((zb_L G a.2.2.1 L) ++ zb_M G a.2.2.1 L)).Perm (((zb_5 G a) ++ ((zb_L G a.2.2.1 L) ++ zb_M G a.2.2.1 L)) ++ (([] : va_W))) from (show ((zb_5 G a) ++ ((zb_L G a.2.2.1 L) ++ zb_M G a.2.2.1 L)).Perm ((zb_5 G a) ++ ((zb_L G a.2.2.1 L) ++ zb_M G a.2.2.1 L)) from ((((List.Perm.append_left _ List.perm_append_comm).trans (List.perm_append_comm_assoc _ _ _))).trans ((List.Perm.append_left _ List.perm_append_comm).trans (List.perm_append_comm_assoc _ _ _))).trans ((List.Perm.append_left _ List.perm_append_comm).trans (List.perm_append_comm_assoc _ _ _))).trans (List.Perm.of_eq (by simp only [List.append_assoc, List.append_nil, List.nil_append])))
  have hD0 : va_D A (((zb_5 G a) ++ ((zb_L G a.2.2.1 L) ++ zb_M G a.2.2.1 L)) ++ (([] : va_W))) := zk_Dperm hD (show ((zb_5 G a) ++ ((zb_L G a.2.2.1 L) ++ zb_M G a.2.2.1 L)).Perm (((zb_5 G a) ++ ((zb_L G a.2.2.1 L) ++ zb_M G a.2.2.1 L)) ++ (([] : va_W))) from (show ((zb_5 G a) ++ ((zb_L G a.2.2.1 L) ++ zb_M G a.2.2.1 L)).Perm ((zb_5 G a) ++ ((zb_L G a.2.2.1 L) ++ zb_M G a.2.2.1 L)) from ((((List.Perm.append_left _ List.perm_append_comm).trans (List.perm_append_comm_assoc _ _ _))).trans ((List.Perm.append_left _ List.perm_append_comm).trans (List.perm_append_comm_assoc _ _ _))).trans ((List.Perm.append_left _ List.perm_append_comm).trans (List.perm_append_comm_assoc _ _ _))).trans (List.Perm.of_eq (by simp only [List.append_assoc, List.append_nil, List.nil_append])))
  refine zk_callXV (wr := ([] : va_W)) (vx_runV (As := [.int c]) (rest := []) ⟨hx, hb, hml, hown, hts⟩ (c_X5_requireChild l G hst a L n t hI c _) (cwV 1 hts gX5_meal_X5_requireChild rfl rfl rfl (by decide +kernel) ⟨Nat.le_of_ble_eq_true rfl, Nat.le_of_ble_eq_true rfl⟩) (zk_preV hE hA0 hS (zk_Papp hP0).1 (zk_Dapp hD0).1 (va_recv hK hP (ci := 4) (q0 := 0) rfl rfl)) rfl rfl hl.1 rfl (lv_room (Nat.le_of_ble_eq_true rfl)) dX5_meal_2 ⟨Nat.le_of_ble_eq_true rfl, Nat.le_of_ble_eq_true rfl⟩) hQ hnx hlocks (Nat.le_of_ble_eq_true rfl) (Nat.le_of_ble_eq_true rfl) (show ((zb_5 G a) ++ ((zb_L G a.2.2.1 L) ++ zb_M G a.2.2.1 L)).Perm (((zb_5 G a) ++ ((zb_L G a.2.2.1 L) ++ zb_M G a.2.2.1 L)) ++ (([] : va_W))) from (show ((zb_5 G a) ++ ((zb_L G a.2.2.1 L) ++ zb_M G a.2.2.1 L)).Perm (((zb_5 G a) ++ ((zb_L G a.2.2.1 L) ++ zb_M G a.2.2.1 L)) ++ (([] : va_W))) from (show ((zb_5 G a) ++ ((zb_L G a.2.2.1 L) ++ zb_M G a.2.2.1 L)).Perm ((zb_5 G a) ++ ((zb_L G a.2.2.1 L) ++ zb_M G a.2.2.1 L)) from ((((List.Perm.append_left _ List.perm_append_comm).trans (List.perm_append_comm_assoc _ _ _))).trans ((List.Perm.append_left _ List.perm_append_comm).trans (List.perm_append_comm_assoc _ _ _))).trans ((List.Perm.append_left _ List.perm_append_comm).trans (List.perm_append_comm_assoc _ _ _))).trans (List.Perm.of_eq (by simp only [List.append_assoc, List.append_nil, List.nil_append])))).symm (fun E h => Or.inl ⟨h.1, fun z => h.2 z.1⟩) hP0 hD0 hS hA (fun _ H locs hq1 hP hD hS => ?_)
  have hP : va_P G.1 vwCl ((zb_5 G a) ++ ((zb_L G a.2.2.1 L) ++ zb_M G a.2.2.1 L)) H := zk_Pperm hP (show ((zb_5 G a) ++ ((zb_L G a.2.2.1 L) ++ zb_M G a.2.2.1 L)).Perm (((zb_5 G a) ++ ((zb_L G a.2.2.1 L) ++ zb_M G a.2.2.1 L)) ++ (([] : va_W))) from (show ((zb_5 G a) ++ ((zb_L G a.2.2.1 L) ++ zb_M G a.2.2.1 L)).Perm ((zb_5 G a) ++ ((zb_L G a.2.2.1 L) ++ zb_M G a.2.2.1 L)) from ((((List.Perm.append_left _ List.perm_append_comm).trans (List.perm_append_comm_assoc _ _ _))).trans ((List.Perm.append_left _ List.perm_append_comm).trans (List.perm_append_comm_assoc _ _ _))).trans ((List.Perm.append_left _ List.perm_append_comm).trans (List.perm_append_comm_assoc _ _ _))).trans (List.Perm.of_eq (by simp only [List.append_assoc, List.append_nil, List.nil_append]))).symm
  have hD : va_D A ((zb_5 G a) ++ ((zb_L G a.2.2.1 L) ++ zb_M G a.2.2.1 L)) := zk_Dperm hD (show ((zb_5 G a) ++ ((zb_L G a.2.2.1 L) ++ zb_M G a.2.2.1 L)).Perm (((zb_5 G a) ++ ((zb_L G a.2.2.1 L) ++ zb_M G a.2.2.1 L)) ++ (([] : va_W))) from (show ((zb_5 G a) ++ ((zb_L G a.2.2.1 L) ++ zb_M G a.2.2.1 L)).Perm ((zb_5 G a) ++ ((zb_L G a.2.2.1 L) ++ zb_M G a.2.2.1 L)) from ((((List.Perm.append_left _ List.perm_append_comm).trans (List.perm_append_comm_assoc _ _ _))).trans ((List.Perm.append_left _ List.perm_append_comm).trans (List.perm_append_comm_assoc _ _ _))).trans ((List.Perm.append_left _ List.perm_append_comm).trans (List.perm_append_comm_assoc _ _ _))).trans (List.Perm.of_eq (by simp only [List.append_assoc, List.append_nil, List.nil_append]))).symm
  obtain ⟨ck, hck, eck⟩ := sHas_nat hI hq1
  subst eck
  have nck := nI_clamp (show ck < 2 ^ 31 by omega)
  refine lv_iload_n hx hb dX5_meal_5 rfl (lv_at hl 2 rfl) ?_
  have hP0 : va_P G.1 vwCl (([] : va_W) ++ ((zb_5 G a) ++ ((zb_L G a.2.2.1 L) ++ zb_M G a.2.2.1 L))) H := hP
  have hD0 : va_D A (([] : va_W) ++ ((zb_5 G a) ++ ((zb_L G a.2.2.1 L) ++ zb_M G a.2.2.1 L))) := hD
  refine zk_callXV (wr := (zb_5 G a) ++ ((zb_L G a.2.2.1 L) ++ zb_M G a.2.2.1 L)) (vx_runS (As := [.int d]) (rest := []) ⟨hx, hb, hml, hown, hts⟩ (c_X5_requireDay l G hst d _) (cwS 1 hts gX5_meal_X5_requireDay rfl rfl rfl (by decide +kernel) ⟨Nat.le_of_ble_eq_true rfl, Nat.le_of_ble_eq_true rfl⟩) (zk_preS hE hA0 hS (zk_Papp hP0).1 (zk_Dapp hD0).1) rfl rfl hl.1 rfl (lv_room (Nat.le_of_ble_eq_true rfl)) dX5_meal_6 ⟨Nat.le_of_ble_eq_true rfl, Nat.le_of_ble_eq_true rfl⟩) hQ hnx hlocks (Nat.le_of_ble_eq_true rfl) (Nat.le_of_ble_eq_true rfl) (List.Perm.refl _) (fun E h => Or.inl ⟨h.1, fun z => h.2 z.2⟩) hP0 hD0 hS hA (fun _ H locs hq2 hP hD hS => ?_)
  have hP : va_P G.1 vwCl ((zb_5 G a) ++ ((zb_L G a.2.2.1 L) ++ zb_M G a.2.2.1 L)) H := hP
  have hD : va_D A ((zb_5 G a) ++ ((zb_L G a.2.2.1 L) ++ zb_M G a.2.2.1 L)) := hD
  obtain ⟨dk, hdk, edk⟩ := sDay_nat hq2
  subst edk
  have ndk := nI_clamp (show dk < 2 ^ 31 by omega)
  refine lv_iload_n hx hb dX5_meal_9 rfl (lv_at hl 3 rfl) ?_
  rcases Decidable.em (w = nI 0) with h3_0 | h3_n0
  · refine lv_tableIn (tgt := 36) hx hb dX5_meal_10 (by rw [h3_0]; decide) (by rw [h3_0]; decide) (by rw [h3_0]; rfl) (by decide) ?_
    refine lv_aload_n hx hb dX5_meal_36 rfl (lv_at hl 0 rfl) ?_
    refine va_get (D := G.1) (ci := 4) (v := .ref (a.2.2.1 0)) (C := RX5) (T := TX5) (N := 6) hx hb hts (fun _ h => List.mem_cons_of_mem _ (List.mem_append_left _ (List.mem_append_left _ (List.mem_append_left _ (List.mem_append_left _ (List.mem_append_right _ h)))))) hown hK hP 0 rfl rfl 1 (by decide) w3 (fun _ h9 => h9) rfl dX5_meal_37 ?_
    refine va_get (D := G.1) (ci := 1) (v := .ref (a.2.2.1 9)) (C := RX2) (T := TX2) (N := 14) hx hb hts (fun _ h => List.mem_cons_of_mem _ (List.mem_append_left _ (List.mem_append_left _ (List.mem_append_left _ (List.mem_append_right _ h))))) hown hK hP 1 rfl rfl 13 (by decide) w4 (fun _ h9 => h9) rfl dX5_meal_40 ?_
    refine lv_iload_n hx hb dX5_meal_43 rfl (lv_at hl 1 rfl) ?_
    refine lv_iload_n hx hb dX5_meal_44 rfl (lv_at hl 2 rfl) ?_
    have hP0 : va_P G.1 vwCl ((zb_M G a.2.2.1 L) ++ ((zb_5 G a) ++ zb_L G a.2.2.1 L)) H := zk_Pperm hP (show ((zb_5 G a) ++ ((zb_L G a.2.2.1 L) ++ zb_M G a.2.2.1 L)).Perm ((zb_M G a.2.2.1 L) ++ ((zb_5 G a) ++ zb_L G a.2.2.1 L)) from (show ((zb_5 G a) ++ ((zb_L G a.2.2.1 L) ++ zb_M G a.2.2.1 L)).Perm ((zb_M G a.2.2.1 L) ++ ((zb_5 G a) ++ zb_L G a.2.2.1 L)) from ((List.Perm.append_left _ List.perm_append_comm).trans (List.perm_append_comm_assoc _ _ _))).trans (List.Perm.of_eq (by simp only [List.append_assoc, List.append_nil, List.nil_append])))
    have hD0 : va_D A ((zb_M G a.2.2.1 L) ++ ((zb_5 G a) ++ zb_L G a.2.2.1 L)) := zk_Dperm hD (show ((zb_5 G a) ++ ((zb_L G a.2.2.1 L) ++ zb_M G a.2.2.1 L)).Perm ((zb_M G a.2.2.1 L) ++ ((zb_5 G a) ++ zb_L G a.2.2.1 L)) from (show ((zb_5 G a) ++ ((zb_L G a.2.2.1 L) ++ zb_M G a.2.2.1 L)).Perm ((zb_M G a.2.2.1 L) ++ ((zb_5 G a) ++ zb_L G a.2.2.1 L)) from ((List.Perm.append_left _ List.perm_append_comm).trans (List.perm_append_comm_assoc _ _ _))).trans (List.Perm.of_eq (by simp only [List.append_assoc, List.append_nil, List.nil_append])))
    refine zk_callI (wr := (zb_5 G a) ++ zb_L G a.2.2.1 L) (va_runV (As := [.int (nI ck), .int (nI dk)]) (rest := []) ⟨hx, hb, hml, hown, hts⟩ (c_X3_kindOf l G a.2.2.1 L ck dk (by omega) (by omega) _) (cwV 2 hts gX5_meal_X3_kindOf rfl rfl rfl (by decide +kernel) ⟨Nat.le_of_ble_eq_true rfl, Nat.le_of_ble_eq_true rfl⟩) (zk_preV hE hA0 hS (zk_Papp hP0).1 (zk_Dapp hD0).1 (va_recv hK hP (ci := 2) (q0 := 10) rfl rfl)) rfl rfl hl.1 rfl (lv_room (Nat.le_of_ble_eq_true rfl)) dX5_meal_45 ⟨Nat.le_of_ble_eq_true rfl, Nat.le_of_ble_eq_true rfl⟩) hP0 hD0 hS hA (fun r4 u5 H locs q6 hP hD hS => ?_)
    subst q6
    have hP : va_P G.1 vwCl ((zb_5 G a) ++ ((zb_L G a.2.2.1 L) ++ zb_M G a.2.2.1 L)) H := zk_Pperm hP (show ((zb_5 G a) ++ ((zb_L G a.2.2.1 L) ++ zb_M G a.2.2.1 L)).Perm ((zb_M G a.2.2.1 L) ++ ((zb_5 G a) ++ zb_L G a.2.2.1 L)) from (show ((zb_5 G a) ++ ((zb_L G a.2.2.1 L) ++ zb_M G a.2.2.1 L)).Perm ((zb_M G a.2.2.1 L) ++ ((zb_5 G a) ++ zb_L G a.2.2.1 L)) from ((List.Perm.append_left _ List.perm_append_comm).trans (List.perm_append_comm_assoc _ _ _))).trans (List.Perm.of_eq (by simp only [List.append_assoc, List.append_nil, List.nil_append]))).symm
    have hD : va_D A ((zb_5 G a) ++ ((zb_L G a.2.2.1 L) ++ zb_M G a.2.2.1 L)) := zk_Dperm hD (show ((zb_5 G a) ++ ((zb_L G a.2.2.1 L) ++ zb_M G a.2.2.1 L)).Perm ((zb_M G a.2.2.1 L) ++ ((zb_5 G a) ++ zb_L G a.2.2.1 L)) from (show ((zb_5 G a) ++ ((zb_L G a.2.2.1 L) ++ zb_M G a.2.2.1 L)).Perm ((zb_M G a.2.2.1 L) ++ ((zb_5 G a) ++ zb_L G a.2.2.1 L)) from ((List.Perm.append_left _ List.perm_append_comm).trans (List.perm_append_comm_assoc _ _ _))).trans (List.Perm.of_eq (by simp only [List.append_assoc, List.append_nil, List.nil_append]))).symm
    have hP : va_P G.1 vwCl ((zb_5 G a) ++ ((zb_L G a.2.2.1 L) ++ zb_M G a.2.2.1 L)) H := hP
    have hD : va_D A ((zb_5 G a) ++ ((zb_L G a.2.2.1 L) ++ zb_M G a.2.2.1 L)) := hD
    rw [hQ]
    refine vx_ret ?_
    exact zk_reti () rfl hx hb hr hlocks hS hP hD (Nat.le_of_ble_eq_true rfl) (Nat.le_of_ble_eq_true rfl) dX5_meal_48 (⟨hq1, hq2, ⟨0, by decide, h3_0⟩, by rw [nck, ndk, xMeal_0 h3_0]⟩)
  rcases Decidable.em (w = nI 1) with h3_1 | h3_n1
  · refine lv_tableIn (tgt := 49) hx hb dX5_meal_10 (by rw [h3_1]; decide) (by rw [h3_1]; decide) (by rw [h3_1]; rfl) (by decide) ?_
    refine lv_aload_n hx hb dX5_meal_49 rfl (lv_at hl 0 rfl) ?_
    refine va_get (D := G.1) (ci := 4) (v := .ref (a.2.2.1 0)) (C := RX5) (T := TX5) (N := 6) hx hb hts (fun _ h => List.mem_cons_of_mem _ (List.mem_append_left _ (List.mem_append_left _ (List.mem_append_left _ (List.mem_append_left _ (List.mem_append_right _ h)))))) hown hK hP 0 rfl rfl 1 (by decide) w3 (fun _ h9 => h9) rfl dX5_meal_50 ?_
    refine va_get (D := G.1) (ci := 1) (v := .ref (a.2.2.1 9)) (C := RX2) (T := TX2) (N := 14) hx hb hts (fun _ h => List.mem_cons_of_mem _ (List.mem_append_left _ (List.mem_append_left _ (List.mem_append_left _ (List.mem_append_right _ h))))) hown hK hP 1 rfl rfl 13 (by decide) w4 (fun _ h9 => h9) rfl dX5_meal_53 ?_
    refine lv_iload_n hx hb dX5_meal_56 rfl (lv_at hl 1 rfl) ?_
    refine lv_iload_n hx hb dX5_meal_57 rfl (lv_at hl 2 rfl) ?_
    have hP0 : va_P G.1 vwCl ((zb_M G a.2.2.1 L) ++ ((zb_5 G a) ++ zb_L G a.2.2.1 L)) H := zk_Pperm hP (show ((zb_5 G a) ++ ((zb_L G a.2.2.1 L) ++ zb_M G a.2.2.1 L)).Perm ((zb_M G a.2.2.1 L) ++ ((zb_5 G a) ++ zb_L G a.2.2.1 L)) from (show ((zb_5 G a) ++ ((zb_L G a.2.2.1 L) ++ zb_M G a.2.2.1 L)).Perm ((zb_M G a.2.2.1 L) ++ ((zb_5 G a) ++ zb_L G a.2.2.1 L)) from ((List.Perm.append_left _ List.perm_append_comm).trans (List.perm_append_comm_assoc _ _ _))).trans (List.Perm.of_eq (by simp only [List.append_assoc, List.append_nil, List.nil_append])))
    have hD0 : va_D A ((zb_M G a.2.2.1 L) ++ ((zb_5 G a) ++ zb_L G a.2.2.1 L)) := zk_Dperm hD (show ((zb_5 G a) ++ ((zb_L G a.2.2.1 L) ++ zb_M G a.2.2.1 L)).Perm ((zb_M G a.2.2.1 L) ++ ((zb_5 G a) ++ zb_L G a.2.2.1 L)) from (show ((zb_5 G a) ++ ((zb_L G a.2.2.1 L) ++ zb_M G a.2.2.1 L)).Perm ((zb_M G a.2.2.1 L) ++ ((zb_5 G a) ++ zb_L G a.2.2.1 L)) from ((List.Perm.append_left _ List.perm_append_comm).trans (List.perm_append_comm_assoc _ _ _))).trans (List.Perm.of_eq (by simp only [List.append_assoc, List.append_nil, List.nil_append])))
    refine zk_callI (wr := (zb_5 G a) ++ zb_L G a.2.2.1 L) (va_runV (As := [.int (nI ck), .int (nI dk)]) (rest := []) ⟨hx, hb, hml, hown, hts⟩ (c_X3_chargeOf l G a.2.2.1 L ck dk (by omega) (by omega) _) (cwV 2 hts gX5_meal_X3_chargeOf rfl rfl rfl (by decide +kernel) ⟨Nat.le_of_ble_eq_true rfl, Nat.le_of_ble_eq_true rfl⟩) (zk_preV hE hA0 hS (zk_Papp hP0).1 (zk_Dapp hD0).1 (va_recv hK hP (ci := 2) (q0 := 10) rfl rfl)) rfl rfl hl.1 rfl (lv_room (Nat.le_of_ble_eq_true rfl)) dX5_meal_58 ⟨Nat.le_of_ble_eq_true rfl, Nat.le_of_ble_eq_true rfl⟩) hP0 hD0 hS hA (fun r7 u8 H locs q9 hP hD hS => ?_)
    subst q9
    have hP : va_P G.1 vwCl ((zb_5 G a) ++ ((zb_L G a.2.2.1 L) ++ zb_M G a.2.2.1 L)) H := zk_Pperm hP (show ((zb_5 G a) ++ ((zb_L G a.2.2.1 L) ++ zb_M G a.2.2.1 L)).Perm ((zb_M G a.2.2.1 L) ++ ((zb_5 G a) ++ zb_L G a.2.2.1 L)) from (show ((zb_5 G a) ++ ((zb_L G a.2.2.1 L) ++ zb_M G a.2.2.1 L)).Perm ((zb_M G a.2.2.1 L) ++ ((zb_5 G a) ++ zb_L G a.2.2.1 L)) from ((List.Perm.append_left _ List.perm_append_comm).trans (List.perm_append_comm_assoc _ _ _))).trans (List.Perm.of_eq (by simp only [List.append_assoc, List.append_nil, List.nil_append]))).symm
    have hD : va_D A ((zb_5 G a) ++ ((zb_L G a.2.2.1 L) ++ zb_M G a.2.2.1 L)) := zk_Dperm hD (show ((zb_5 G a) ++ ((zb_L G a.2.2.1 L) ++ zb_M G a.2.2.1 L)).Perm ((zb_M G a.2.2.1 L) ++ ((zb_5 G a) ++ zb_L G a.2.2.1 L)) from (show ((zb_5 G a) ++ ((zb_L G a.2.2.1 L) ++ zb_M G a.2.2.1 L)).Perm ((zb_M G a.2.2.1 L) ++ ((zb_5 G a) ++ zb_L G a.2.2.1 L)) from ((List.Perm.append_left _ List.perm_append_comm).trans (List.perm_append_comm_assoc _ _ _))).trans (List.Perm.of_eq (by simp only [List.append_assoc, List.append_nil, List.nil_append]))).symm
    have hP : va_P G.1 vwCl ((zb_5 G a) ++ ((zb_L G a.2.2.1 L) ++ zb_M G a.2.2.1 L)) H := hP
    have hD : va_D A ((zb_5 G a) ++ ((zb_L G a.2.2.1 L) ++ zb_M G a.2.2.1 L)) := hD
    rw [hQ]
    refine vx_ret ?_
    exact zk_reti () rfl hx hb hr hlocks hS hP hD (Nat.le_of_ble_eq_true rfl) (Nat.le_of_ble_eq_true rfl) dX5_meal_61 (⟨hq1, hq2, ⟨1, by decide, h3_1⟩, by rw [nck, ndk, xMeal_1 h3_1]⟩)
  rcases Decidable.em (w = nI 2) with h3_2 | h3_n2
  · refine lv_tableIn (tgt := 62) hx hb dX5_meal_10 (by rw [h3_2]; decide) (by rw [h3_2]; decide) (by rw [h3_2]; rfl) (by decide) ?_
    refine lv_aload_n hx hb dX5_meal_62 rfl (lv_at hl 0 rfl) ?_
    refine va_get (D := G.1) (ci := 4) (v := .ref (a.2.2.1 0)) (C := RX5) (T := TX5) (N := 6) hx hb hts (fun _ h => List.mem_cons_of_mem _ (List.mem_append_left _ (List.mem_append_left _ (List.mem_append_left _ (List.mem_append_left _ (List.mem_append_right _ h)))))) hown hK hP 0 rfl rfl 1 (by decide) w3 (fun _ h9 => h9) rfl dX5_meal_63 ?_
    refine va_get (D := G.1) (ci := 1) (v := .ref (a.2.2.1 9)) (C := RX2) (T := TX2) (N := 14) hx hb hts (fun _ h => List.mem_cons_of_mem _ (List.mem_append_left _ (List.mem_append_left _ (List.mem_append_left _ (List.mem_append_right _ h))))) hown hK hP 1 rfl rfl 13 (by decide) w4 (fun _ h9 => h9) rfl dX5_meal_66 ?_
    refine lv_iload_n hx hb dX5_meal_69 rfl (lv_at hl 1 rfl) ?_
    refine lv_iload_n hx hb dX5_meal_70 rfl (lv_at hl 2 rfl) ?_
    have hP0 : va_P G.1 vwCl ((zb_M G a.2.2.1 L) ++ ((zb_5 G a) ++ zb_L G a.2.2.1 L)) H := zk_Pperm hP (show ((zb_5 G a) ++ ((zb_L G a.2.2.1 L) ++ zb_M G a.2.2.1 L)).Perm ((zb_M G a.2.2.1 L) ++ ((zb_5 G a) ++ zb_L G a.2.2.1 L)) from (show ((zb_5 G a) ++ ((zb_L G a.2.2.1 L) ++ zb_M G a.2.2.1 L)).Perm ((zb_M G a.2.2.1 L) ++ ((zb_5 G a) ++ zb_L G a.2.2.1 L)) from ((List.Perm.append_left _ List.perm_append_comm).trans (List.perm_append_comm_assoc _ _ _))).trans (List.Perm.of_eq (by simp only [List.append_assoc, List.append_nil, List.nil_append])))
    have hD0 : va_D A ((zb_M G a.2.2.1 L) ++ ((zb_5 G a) ++ zb_L G a.2.2.1 L)) := zk_Dperm hD (show ((zb_5 G a) ++ ((zb_L G a.2.2.1 L) ++ zb_M G a.2.2.1 L)).Perm ((zb_M G a.2.2.1 L) ++ ((zb_5 G a) ++ zb_L G a.2.2.1 L)) from (show ((zb_5 G a) ++ ((zb_L G a.2.2.1 L) ++ zb_M G a.2.2.1 L)).Perm ((zb_M G a.2.2.1 L) ++ ((zb_5 G a) ++ zb_L G a.2.2.1 L)) from ((List.Perm.append_left _ List.perm_append_comm).trans (List.perm_append_comm_assoc _ _ _))).trans (List.Perm.of_eq (by simp only [List.append_assoc, List.append_nil, List.nil_append])))
    refine zk_callI (wr := (zb_5 G a) ++ zb_L G a.2.2.1 L) (va_runV (As := [.int (nI ck), .int (nI dk)]) (rest := []) ⟨hx, hb, hml, hown, hts⟩ (c_X3_payerOf l G a.2.2.1 L ck dk (by omega) (by omega) _) (cwV 2 hts gX5_meal_X3_payerOf rfl rfl rfl (by decide +kernel) ⟨Nat.le_of_ble_eq_true rfl, Nat.le_of_ble_eq_true rfl⟩) (zk_preV hE hA0 hS (zk_Papp hP0).1 (zk_Dapp hD0).1 (va_recv hK hP (ci := 2) (q0 := 10) rfl rfl)) rfl rfl hl.1 rfl (lv_room (Nat.le_of_ble_eq_true rfl)) dX5_meal_71 ⟨Nat.le_of_ble_eq_true rfl, Nat.le_of_ble_eq_true rfl⟩) hP0 hD0 hS hA (fun r10 u11 H locs q12 hP hD hS => ?_)
    subst q12
    have hP : va_P G.1 vwCl ((zb_5 G a) ++ ((zb_L G a.2.2.1 L) ++ zb_M G a.2.2.1 L)) H := zk_Pperm hP (show ((zb_5 G a) ++ ((zb_L G a.2.2.1 L) ++ zb_M G a.2.2.1 L)).Perm ((zb_M G a.2.2.1 L) ++ ((zb_5 G a) ++ zb_L G a.2.2.1 L)) from (show ((zb_5 G a) ++ ((zb_L G a.2.2.1 L) ++ zb_M G a.2.2.1 L)).Perm ((zb_M G a.2.2.1 L) ++ ((zb_5 G a) ++ zb_L G a.2.2.1 L)) from ((List.Perm.append_left _ List.perm_append_comm).trans (List.perm_append_comm_assoc _ _ _))).trans (List.Perm.of_eq (by simp only [List.append_assoc, List.append_nil, List.nil_append]))).symm
    have hD : va_D A ((zb_5 G a) ++ ((zb_L G a.2.2.1 L) ++ zb_M G a.2.2.1 L)) := zk_Dperm hD (show ((zb_5 G a) ++ ((zb_L G a.2.2.1 L) ++ zb_M G a.2.2.1 L)).Perm ((zb_M G a.2.2.1 L) ++ ((zb_5 G a) ++ zb_L G a.2.2.1 L)) from (show ((zb_5 G a) ++ ((zb_L G a.2.2.1 L) ++ zb_M G a.2.2.1 L)).Perm ((zb_M G a.2.2.1 L) ++ ((zb_5 G a) ++ zb_L G a.2.2.1 L)) from ((List.Perm.append_left _ List.perm_append_comm).trans (List.perm_append_comm_assoc _ _ _))).trans (List.Perm.of_eq (by simp only [List.append_assoc, List.append_nil, List.nil_append]))).symm
    have hP : va_P G.1 vwCl ((zb_5 G a) ++ ((zb_L G a.2.2.1 L) ++ zb_M G a.2.2.1 L)) H := hP
    have hD : va_D A ((zb_5 G a) ++ ((zb_L G a.2.2.1 L) ++ zb_M G a.2.2.1 L)) := hD
    rw [hQ]
    refine vx_ret ?_
    exact zk_reti () rfl hx hb hr hlocks hS hP hD (Nat.le_of_ble_eq_true rfl) (Nat.le_of_ble_eq_true rfl) dX5_meal_74 (⟨hq1, hq2, ⟨2, by decide, h3_2⟩, by rw [nck, ndk, xMeal_2 h3_2]⟩)
  refine lv_tableOut (tgt := 75) hx hb dX5_meal_10 (zk_out (0) 3 (fun k hk z => by
        rcases (show k = 0 ∨ k = 1 ∨ k = 2 by omega) with rfl | rfl | rfl
        · exact h3_n0 (zk_toI z (by decide))
        · exact h3_n1 (zk_toI z (by decide))
        · exact h3_n2 (zk_toI z (by decide)))) (by decide) ?_
  rw [hQ]
  exact vx_throwS (cls := "java/lang/IllegalArgumentException") (names := zk_up) hx hb hst hown (by decide +kernel) (by decide +kernel) w1 w2 (zk_R18 hE.2.2.1) (zk_hat (fun w hw => hts w (List.mem_cons_of_mem _ (List.mem_append_left _ (List.mem_append_right _ hw)))) hE.2.1.2.2.2.2.2.2.2 hE.2.1.2.2.2.2.2.2.2.2.2.2.2.1 (by decide +kernel)) (by decide +kernel) (hE.2.2.2.1.1.narrow hA0) (hE.2.2.2.1.2.1.narrow hA0) hS (hl.1.trans hml.symm) dX5_meal_75 dX5_meal_78 dX5_meal_79 dX5_meal_81 dX5_meal_84 (fun x h => (hnx x h).elim) (Nat.le_of_ble_eq_true rfl) (Nat.le_of_ble_eq_true rfl) (Nat.le_of_ble_eq_true rfl) (Nat.le_of_ble_eq_true rfl) hlocks (fun t _ hz hk => zk_thx hP hD hS (List.Perm.refl _) (Or.inr ⟨rfl, hq1, hq2, (fun ⟨j, hj, e⟩ => by
        rcases (show j = 0 ∨ j = 1 ∨ j = 2 by omega) with rfl | rfl | rfl
        · exact h3_n0 e
        · exact h3_n1 e
        · exact h3_n2 e)⟩) hz hk) hS.2.2 (Nat.le_of_ble_eq_true rfl) (Nat.le_of_ble_eq_true rfl)

abbrev rmX5_beginAction : Room := { frames := 7, cells := 2, slots := 12, locals := 103 }
set_option maxHeartbeats 4000000 in
set_option maxRecDepth 100000 in
/-- an action begins -/
theorem c_X5_beginAction (l : Launch) (G : zk_G) (hst : l.stackTraces = false) (a : zA) (L : zL) (n t : Nat) (hI : sInv L n t) (f : Int32) (S : Nat → zL) (o cn : Nat) (ho : o < 14) (hcn : cn ≤ 14) : zk_XV (S := Nat × Nat × (Nat → zL)) l yX5_beginAction wsX5_beginAction rmX5_beginAction G [.ref a.1, .int f] ((zb_5 G a) ++ ((zb_L G a.2.2.1 L) ++ ((zb_M G a.2.2.1 L) ++ zb_H G a.2.2.2.2.1.1 a.2.2.2.2.1.2.1 a.2.2.2.2.1.2.2 S (nI o) (nI cn)))) (fun u => (¬ f = nI 1 ∧ ¬ f = nI 2 ∧ ¬ f = nI 3) ∧ u = hRem o cn S L) (fun u => zb_5 G a ++ ((zb_L G a.2.2.1 L) ++ ((zb_M G a.2.2.1 L) ++ zb_H G a.2.2.2.2.1.1 a.2.2.2.2.1.2.1 a.2.2.2.2.1.2.2 u.2.2 (nI u.1) (nI u.2.1)))) (fun E => (E = "java/lang/IndexOutOfBoundsException" ∧ f = nI 1) ∨ (E = "java/lang/IllegalArgumentException" ∧ f = nI 2) ∨ (E = "java/lang/IllegalStateException" ∧ f = nI 3)) := by
  refine zk_bodyXV (cc := cX5_beginAction) (maxL := 2) (ret := none) (by decide) rfl (Nat.le_of_ble_eq_true rfl) ?_
  intro p E0 s m args below meth cd A ls Q hF hnx hQ
  obtain ⟨hx, hb, hml, hr, hts, hown, hlocks, -, hE, hP, hD, hS, hA, hA0, hl⟩ := hF
  have hK := hE.1
  have hl : lv_has ls 2 [(0, .ref a.1), (1, .int f)] := hl
  obtain ⟨hn, hn12, ht, ht40, hfam, hpay⟩ := id hI
  have w1 := hts _ (List.mem_of_getElem? (l := wsX5_beginAction) (i := 1) (a := Cond.fieldLink RX5 29 "MealAccounts" "history" "LMealAccounts$History;") rfl)
  have w2 := hts _ (List.mem_of_getElem? (l := wsX5_beginAction) (i := 2) (a := Cond.fieldLink RX5 19 "MealAccounts" "now" "LMealAccounts$Ledger;") rfl)
  refine lv_iload_n hx hb dX5_beginAction_0 rfl (lv_at hl 1 rfl) ?_
  have hP0 : va_P G.1 vwCl (([] : va_W) ++ ((zb_5 G a) ++ ((zb_L G a.2.2.1 L) ++ ((zb_M G a.2.2.1 L) ++ zb_H G a.2.2.2.2.1.1 a.2.2.2.2.1.2.1 a.2.2.2.2.1.2.2 S (nI o) (nI cn))))) s.heap := hP
  have hD0 : va_D A (([] : va_W) ++ ((zb_5 G a) ++ ((zb_L G a.2.2.1 L) ++ ((zb_M G a.2.2.1 L) ++ zb_H G a.2.2.2.2.1.1 a.2.2.2.2.1.2.1 a.2.2.2.2.1.2.2 S (nI o) (nI cn))))) := hD
  refine zk_callXV (wr := (zb_5 G a) ++ ((zb_L G a.2.2.1 L) ++ ((zb_M G a.2.2.1 L) ++ zb_H G a.2.2.2.2.1.1 a.2.2.2.2.1.2.1 a.2.2.2.2.1.2.2 S (nI o) (nI cn)))) (vx_runS (As := [.int f]) (rest := []) ⟨hx, hb, hml, hown, hts⟩ (c_X5_requireFine l G hst f _) (cwS 1 hts gX5_beginAction_X5_requireFine rfl rfl rfl (by decide +kernel) ⟨Nat.le_of_ble_eq_true rfl, Nat.le_of_ble_eq_true rfl⟩) (zk_preS hE hA0 hS (zk_Papp hP0).1 (zk_Dapp hD0).1) rfl rfl hl.1 rfl (lv_room (Nat.le_of_ble_eq_true rfl)) dX5_beginAction_1 ⟨Nat.le_of_ble_eq_true rfl, Nat.le_of_ble_eq_true rfl⟩) hQ hnx hlocks (Nat.le_of_ble_eq_true rfl) (Nat.le_of_ble_eq_true rfl) (List.Perm.refl _) (fun E h => h) hP0 hD0 hS hA (fun _ H locs hq1 hP hD hS => ?_)
  have hP : va_P G.1 vwCl ((zb_5 G a) ++ ((zb_L G a.2.2.1 L) ++ ((zb_M G a.2.2.1 L) ++ zb_H G a.2.2.2.2.1.1 a.2.2.2.2.1.2.1 a.2.2.2.2.1.2.2 S (nI o) (nI cn)))) H := hP
  have hD : va_D A ((zb_5 G a) ++ ((zb_L G a.2.2.1 L) ++ ((zb_M G a.2.2.1 L) ++ zb_H G a.2.2.2.2.1.1 a.2.2.2.2.1.2.1 a.2.2.2.2.1.2.2 S (nI o) (nI cn)))) := hD
  refine lv_aload_n hx hb dX5_beginAction_4 rfl (lv_at hl 0 rfl) ?_
  refine va_get (D := G.1) (ci := 4) (v := .ref a.2.2.2.2.1.1) (C := RX5) (T := TX5) (N := 6) hx hb hts (fun _ h => List.mem_cons_of_mem _ (List.mem_append_left _ (List.mem_append_left _ (List.mem_append_left _ (List.mem_append_left _ (List.mem_append_left _ (List.mem_append_left _ (List.mem_append_right _ h)))))))) hown hK hP 0 rfl rfl 3 (by decide) w1 (fun _ h9 => h9) rfl dX5_beginAction_5 ?_
  refine lv_aload_n hx hb dX5_beginAction_8 rfl (lv_at hl 0 rfl) ?_
  refine va_get (D := G.1) (ci := 4) (v := .ref (a.2.2.1 0)) (C := RX5) (T := TX5) (N := 6) hx hb hts (fun _ h => List.mem_cons_of_mem _ (List.mem_append_left _ (List.mem_append_left _ (List.mem_append_left _ (List.mem_append_left _ (List.mem_append_left _ (List.mem_append_left _ (List.mem_append_right _ h)))))))) hown hK hP 0 rfl rfl 1 (by decide) w2 (fun _ h9 => h9) rfl dX5_beginAction_9 ?_
  have hP0 : va_P G.1 vwCl ((zb_H G a.2.2.2.2.1.1 a.2.2.2.2.1.2.1 a.2.2.2.2.1.2.2 S (nI o) (nI cn) ++ (zb_L G a.2.2.1 L ++ zb_M G a.2.2.1 L)) ++ (zb_5 G a)) H := zk_Pperm hP (show ((zb_5 G a) ++ ((zb_L G a.2.2.1 L) ++ ((zb_M G a.2.2.1 L) ++ zb_H G a.2.2.2.2.1.1 a.2.2.2.2.1.2.1 a.2.2.2.2.1.2.2 S (nI o) (nI cn)))).Perm ((zb_H G a.2.2.2.2.1.1 a.2.2.2.2.1.2.1 a.2.2.2.2.1.2.2 S (nI o) (nI cn) ++ (zb_L G a.2.2.1 L ++ zb_M G a.2.2.1 L)) ++ (zb_5 G a)) from (show ((zb_5 G a) ++ ((zb_L G a.2.2.1 L) ++ ((zb_M G a.2.2.1 L) ++ zb_H G a.2.2.2.2.1.1 a.2.2.2.2.1.2.1 a.2.2.2.2.1.2.2 S (nI o) (nI cn)))).Perm ((zb_H G a.2.2.2.2.1.1 a.2.2.2.2.1.2.1 a.2.2.2.2.1.2.2 S (nI o) (nI cn)) ++ ((zb_L G a.2.2.1 L) ++ ((zb_M G a.2.2.1 L) ++ zb_5 G a))) from ((((List.Perm.append_left _ (List.perm_append_comm_assoc _ _ _)).trans (List.perm_append_comm_assoc _ _ _))).trans ((List.Perm.append_left _ (List.perm_append_comm_assoc _ _ _)).trans (List.perm_append_comm_assoc _ _ _))).trans ((List.Perm.append_left _ ((List.Perm.append_left _ List.perm_append_comm).trans (List.perm_append_comm_assoc _ _ _))).trans (List.perm_append_comm_assoc _ _ _))).trans (List.Perm.of_eq (by simp only [List.append_assoc, List.append_nil, List.nil_append])))
  have hD0 : va_D A ((zb_H G a.2.2.2.2.1.1 a.2.2.2.2.1.2.1 a.2.2.2.2.1.2.2 S (nI o) (nI cn) ++ (zb_L G a.2.2.1 L ++ zb_M G a.2.2.1 L)) ++ (zb_5 G a)) := zk_Dperm hD (show ((zb_5 G a) ++ ((zb_L G a.2.2.1 L) ++ ((zb_M G a.2.2.1 L) ++ zb_H G a.2.2.2.2.1.1 a.2.2.2.2.1.2.1 a.2.2.2.2.1.2.2 S (nI o) (nI cn)))).Perm ((zb_H G a.2.2.2.2.1.1 a.2.2.2.2.1.2.1 a.2.2.2.2.1.2.2 S (nI o) (nI cn) ++ (zb_L G a.2.2.1 L ++ zb_M G a.2.2.1 L)) ++ (zb_5 G a)) from (show ((zb_5 G a) ++ ((zb_L G a.2.2.1 L) ++ ((zb_M G a.2.2.1 L) ++ zb_H G a.2.2.2.2.1.1 a.2.2.2.2.1.2.1 a.2.2.2.2.1.2.2 S (nI o) (nI cn)))).Perm ((zb_H G a.2.2.2.2.1.1 a.2.2.2.2.1.2.1 a.2.2.2.2.1.2.2 S (nI o) (nI cn)) ++ ((zb_L G a.2.2.1 L) ++ ((zb_M G a.2.2.1 L) ++ zb_5 G a))) from ((((List.Perm.append_left _ (List.perm_append_comm_assoc _ _ _)).trans (List.perm_append_comm_assoc _ _ _))).trans ((List.Perm.append_left _ (List.perm_append_comm_assoc _ _ _)).trans (List.perm_append_comm_assoc _ _ _))).trans ((List.Perm.append_left _ ((List.Perm.append_left _ List.perm_append_comm).trans (List.perm_append_comm_assoc _ _ _))).trans (List.perm_append_comm_assoc _ _ _))).trans (List.Perm.of_eq (by simp only [List.append_assoc, List.append_nil, List.nil_append])))
  refine zk_callV (wr := zb_5 G a) (va_runV (As := [.ref (a.2.2.1 0)]) (rest := []) ⟨hx, hb, hml, hown, hts⟩ (c_X1_remember l G a.2.2.2.2.1.1 a.2.2.2.2.1.2.1 a.2.2.2.2.1.2.2 S o cn ho hcn a.2.2.1 L _) (cwV 1 hts gX5_beginAction_X1_remember rfl rfl rfl (by decide +kernel) ⟨Nat.le_of_ble_eq_true rfl, Nat.le_of_ble_eq_true rfl⟩) (zk_preV hE hA0 hS (zk_Papp hP0).1 (zk_Dapp hD0).1 (va_recv hK hP0 (ci := 0) (q0 := 0) rfl rfl)) rfl rfl hl.1 rfl (lv_room (Nat.le_of_ble_eq_true rfl)) dX5_beginAction_12 ⟨Nat.le_of_ble_eq_true rfl, Nat.le_of_ble_eq_true rfl⟩) hP0 hD0 hS hA (fun u2 H locs q3 hP hD hS => ?_)
  have hP : va_P G.1 vwCl ((zb_5 G a) ++ ((zb_L G a.2.2.1 L) ++ ((zb_M G a.2.2.1 L) ++ zb_H G a.2.2.2.2.1.1 a.2.2.2.2.1.2.1 a.2.2.2.2.1.2.2 u2.2.2 (nI u2.1) (nI u2.2.1)))) H := zk_Pperm hP (show ((zb_5 G a) ++ ((zb_L G a.2.2.1 L) ++ ((zb_M G a.2.2.1 L) ++ zb_H G a.2.2.2.2.1.1 a.2.2.2.2.1.2.1 a.2.2.2.2.1.2.2 u2.2.2 (nI u2.1) (nI u2.2.1)))).Perm ((zb_H G a.2.2.2.2.1.1 a.2.2.2.2.1.2.1 a.2.2.2.2.1.2.2 u2.2.2 (nI u2.1) (nI u2.2.1) ++ (zb_L G a.2.2.1 L ++ zb_M G a.2.2.1 L)) ++ (zb_5 G a)) from (show ((zb_5 G a) ++ ((zb_L G a.2.2.1 L) ++ ((zb_M G a.2.2.1 L) ++ zb_H G a.2.2.2.2.1.1 a.2.2.2.2.1.2.1 a.2.2.2.2.1.2.2 u2.2.2 (nI u2.1) (nI u2.2.1)))).Perm ((zb_H G a.2.2.2.2.1.1 a.2.2.2.2.1.2.1 a.2.2.2.2.1.2.2 u2.2.2 (nI u2.1) (nI u2.2.1)) ++ ((zb_L G a.2.2.1 L) ++ ((zb_M G a.2.2.1 L) ++ zb_5 G a))) from ((((List.Perm.append_left _ (List.perm_append_comm_assoc _ _ _)).trans (List.perm_append_comm_assoc _ _ _))).trans ((List.Perm.append_left _ (List.perm_append_comm_assoc _ _ _)).trans (List.perm_append_comm_assoc _ _ _))).trans ((List.Perm.append_left _ ((List.Perm.append_left _ List.perm_append_comm).trans (List.perm_append_comm_assoc _ _ _))).trans (List.perm_append_comm_assoc _ _ _))).trans (List.Perm.of_eq (by simp only [List.append_assoc, List.append_nil, List.nil_append]))).symm
  have hD : va_D A ((zb_5 G a) ++ ((zb_L G a.2.2.1 L) ++ ((zb_M G a.2.2.1 L) ++ zb_H G a.2.2.2.2.1.1 a.2.2.2.2.1.2.1 a.2.2.2.2.1.2.2 u2.2.2 (nI u2.1) (nI u2.2.1)))) := zk_Dperm hD (show ((zb_5 G a) ++ ((zb_L G a.2.2.1 L) ++ ((zb_M G a.2.2.1 L) ++ zb_H G a.2.2.2.2.1.1 a.2.2.2.2.1.2.1 a.2.2.2.2.1.2.2 u2.2.2 (nI u2.1) (nI u2.2.1)))).Perm ((zb_H G a.2.2.2.2.1.1 a.2.2.2.2.1.2.1 a.2.2.2.2.1.2.2 u2.2.2 (nI u2.1) (nI u2.2.1) ++ (zb_L G a.2.2.1 L ++ zb_M G a.2.2.1 L)) ++ (zb_5 G a)) from (show ((zb_5 G a) ++ ((zb_L G a.2.2.1 L) ++ ((zb_M G a.2.2.1 L) ++ zb_H G a.2.2.2.2.1.1 a.2.2.2.2.1.2.1 a.2.2.2.2.1.2.2 u2.2.2 (nI u2.1) (nI u2.2.1)))).Perm ((zb_H G a.2.2.2.2.1.1 a.2.2.2.2.1.2.1 a.2.2.2.2.1.2.2 u2.2.2 (nI u2.1) (nI u2.2.1)) ++ ((zb_L G a.2.2.1 L) ++ ((zb_M G a.2.2.1 L) ++ zb_5 G a))) from ((((List.Perm.append_left _ (List.perm_append_comm_assoc _ _ _)).trans (List.perm_append_comm_assoc _ _ _))).trans ((List.Perm.append_left _ (List.perm_append_comm_assoc _ _ _)).trans (List.perm_append_comm_assoc _ _ _))).trans ((List.Perm.append_left _ ((List.Perm.append_left _ List.perm_append_comm).trans (List.perm_append_comm_assoc _ _ _))).trans (List.perm_append_comm_assoc _ _ _))).trans (List.Perm.of_eq (by simp only [List.append_assoc, List.append_nil, List.nil_append]))).symm
  rw [hQ]
  refine vx_ret ?_
  exact zk_retv u2 rfl hx hb hr hlocks hS hP hD (Nat.le_of_ble_eq_true rfl) (Nat.le_of_ble_eq_true rfl) dX5_beginAction_15 (⟨hq1, q3⟩)
