abbrev rmX5_requireFamily : Room := { frames := 6, cells := 1, slots := 6, locals := 82 }
set_option maxHeartbeats 4000000 in
set_option maxRecDepth 100000 in
/-- a family must be -/
theorem c_X5_requireFamily (l : Launch) (G : zk_G) (hst : l.stackTraces = false) (f : Int32) : zk_XV (S := Unit) l yX5_requireFamily wsX5_requireFamily rmX5_requireFamily G [.int f] ([]) (fun _ => sFam f) (fun _ => []) (fun E => E = "java/lang/IndexOutOfBoundsException" ∧ ¬ sFam f) := by
  refine zk_bodyXV (cc := cX5_requireFamily) (maxL := 1) (ret := none) (by decide) rfl (Nat.le_of_ble_eq_true rfl) ?_
  intro p E0 s m args below meth cd A ls Q hF hnx hQ
  obtain ⟨hx, hb, hml, hr, hts, hown, hlocks, -, hE, hP, hD, hS, hA, hA0, hl⟩ := hF
  have hK := hE.1
  have hl : lv_has ls 1 [(0, .int f)] := hl
  have w1 := hts _ (List.mem_of_getElem? (l := wsX5_requireFamily) (i := 1) (a := Cond.classLink RX5 330 "java/lang/IndexOutOfBoundsException") rfl)
  have w2 := hts _ (List.mem_of_getElem? (l := wsX5_requireFamily) (i := 2) (a := Cond.initialized "java/lang/IndexOutOfBoundsException") rfl)
  refine lv_iload_n hx hb dX5_requireFamily_0 rfl (lv_at hl 0 rfl) ?_
  have hP0 : va_P G.1 vwCl (([] : va_W) ++ (([] : va_W))) s.heap := hP
  have hD0 : va_D A (([] : va_W) ++ (([] : va_W))) := hD
  refine zk_callI (wr := ([] : va_W)) (va_runS (As := [.int f]) (rest := []) ⟨hx, hb, hml, hown, hts⟩ (c_X5_isFamily l G f _) (cwS 1 hts gX5_requireFamily_X5_isFamily rfl rfl rfl (by decide +kernel) ⟨Nat.le_of_ble_eq_true rfl, Nat.le_of_ble_eq_true rfl⟩) (zk_preS hE hA0 hS (zk_Papp hP0).1 (zk_Dapp hD0).1) rfl rfl hl.1 rfl (lv_room (Nat.le_of_ble_eq_true rfl)) dX5_requireFamily_1 ⟨Nat.le_of_ble_eq_true rfl, Nat.le_of_ble_eq_true rfl⟩) hP0 hD0 hS hA (fun r1 u2 H locs q3 hP hD hS => ?_)
  subst q3
  have hP : va_P G.1 vwCl (([] : va_W)) H := hP
  have hD : va_D A (([] : va_W)) := hD
  refine lv_if_ne (tgt := 18) hx hb dX5_requireFamily_4 (by decide) (fun h4_3 => ?_) (fun h4_3 => ?_)
  · have h4_3 := zk_b1 h4_3
    rw [hQ]
    refine vx_ret ?_
    exact zk_retv () rfl hx hb hr hlocks hS hP hD (Nat.le_of_ble_eq_true rfl) (Nat.le_of_ble_eq_true rfl) dX5_requireFamily_18 (h4_3)
  · have h4_3 := zk_b0 h4_3
    rw [hQ]
    exact vx_throwSW (cls := "java/lang/IndexOutOfBoundsException") (names := zk_up) hx hb hst hown (by decide +kernel) (by decide +kernel) w1 w2 (zk_R14 hE.2.2.1) (zk_hat (fun w hw => hts w (List.mem_cons_of_mem _ (List.mem_append_right _ hw))) hE.2.1.2.2.2.2.2.2.2 hE.2.1.2.2.2.2.2.2.2.2.2.2.1 (by decide +kernel)) (by decide +kernel) (hE.2.2.2.1.1.narrow hA0) (hE.2.2.2.1.2.1.narrow hA0) hS (hl.1.trans hml.symm) dX5_requireFamily_7 dX5_requireFamily_10 dX5_requireFamily_11 dX5_requireFamily_14 dX5_requireFamily_17 (fun x h => (hnx x h).elim) (Nat.le_of_ble_eq_true rfl) (Nat.le_of_ble_eq_true rfl) (Nat.le_of_ble_eq_true rfl) (Nat.le_of_ble_eq_true rfl) hlocks (fun t _ hz hk => zk_thx hP hD hS (List.Perm.refl _) (⟨rfl, h4_3⟩) hz hk) hS.2.2 (Nat.le_of_ble_eq_true rfl) (Nat.le_of_ble_eq_true rfl)

abbrev rmX5_requireDay : Room := { frames := 6, cells := 1, slots := 6, locals := 82 }
set_option maxHeartbeats 4000000 in
set_option maxRecDepth 100000 in
/-- a day must be -/
theorem c_X5_requireDay (l : Launch) (G : zk_G) (hst : l.stackTraces = false) (d : Int32) : zk_XV (S := Unit) l yX5_requireDay wsX5_requireDay rmX5_requireDay G [.int d] ([]) (fun _ => sDay d) (fun _ => []) (fun E => E = "java/lang/IndexOutOfBoundsException" ∧ ¬ sDay d) := by
  refine zk_bodyXV (cc := cX5_requireDay) (maxL := 1) (ret := none) (by decide) rfl (Nat.le_of_ble_eq_true rfl) ?_
  intro p E0 s m args below meth cd A ls Q hF hnx hQ
  obtain ⟨hx, hb, hml, hr, hts, hown, hlocks, -, hE, hP, hD, hS, hA, hA0, hl⟩ := hF
  have hK := hE.1
  have hl : lv_has ls 1 [(0, .int d)] := hl
  have w1 := hts _ (List.mem_of_getElem? (l := wsX5_requireDay) (i := 1) (a := Cond.classLink RX5 330 "java/lang/IndexOutOfBoundsException") rfl)
  have w2 := hts _ (List.mem_of_getElem? (l := wsX5_requireDay) (i := 2) (a := Cond.initialized "java/lang/IndexOutOfBoundsException") rfl)
  refine lv_iload_n hx hb dX5_requireDay_0 rfl (lv_at hl 0 rfl) ?_
  have hP0 : va_P G.1 vwCl (([] : va_W) ++ (([] : va_W))) s.heap := hP
  have hD0 : va_D A (([] : va_W) ++ (([] : va_W))) := hD
  refine zk_callI (wr := ([] : va_W)) (va_runS (As := [.int d]) (rest := []) ⟨hx, hb, hml, hown, hts⟩ (c_X5_isDay l G d _) (cwS 1 hts gX5_requireDay_X5_isDay rfl rfl rfl (by decide +kernel) ⟨Nat.le_of_ble_eq_true rfl, Nat.le_of_ble_eq_true rfl⟩) (zk_preS hE hA0 hS (zk_Papp hP0).1 (zk_Dapp hD0).1) rfl rfl hl.1 rfl (lv_room (Nat.le_of_ble_eq_true rfl)) dX5_requireDay_1 ⟨Nat.le_of_ble_eq_true rfl, Nat.le_of_ble_eq_true rfl⟩) hP0 hD0 hS hA (fun r1 u2 H locs q3 hP hD hS => ?_)
  subst q3
  have hP : va_P G.1 vwCl (([] : va_W)) H := hP
  have hD : va_D A (([] : va_W)) := hD
  refine lv_if_ne (tgt := 18) hx hb dX5_requireDay_4 (by decide) (fun h4_3 => ?_) (fun h4_3 => ?_)
  · have h4_3 := zk_b1 h4_3
    rw [hQ]
    refine vx_ret ?_
    exact zk_retv () rfl hx hb hr hlocks hS hP hD (Nat.le_of_ble_eq_true rfl) (Nat.le_of_ble_eq_true rfl) dX5_requireDay_18 (h4_3)
  · have h4_3 := zk_b0 h4_3
    rw [hQ]
    exact vx_throwSW (cls := "java/lang/IndexOutOfBoundsException") (names := zk_up) hx hb hst hown (by decide +kernel) (by decide +kernel) w1 w2 (zk_R16 hE.2.2.1) (zk_hat (fun w hw => hts w (List.mem_cons_of_mem _ (List.mem_append_right _ hw))) hE.2.1.2.2.2.2.2.2.2 hE.2.1.2.2.2.2.2.2.2.2.2.2.1 (by decide +kernel)) (by decide +kernel) (hE.2.2.2.1.1.narrow hA0) (hE.2.2.2.1.2.1.narrow hA0) hS (hl.1.trans hml.symm) dX5_requireDay_7 dX5_requireDay_10 dX5_requireDay_11 dX5_requireDay_14 dX5_requireDay_17 (fun x h => (hnx x h).elim) (Nat.le_of_ble_eq_true rfl) (Nat.le_of_ble_eq_true rfl) (Nat.le_of_ble_eq_true rfl) (Nat.le_of_ble_eq_true rfl) hlocks (fun t _ hz hk => zk_thx hP hD hS (List.Perm.refl _) (⟨rfl, h4_3⟩) hz hk) hS.2.2 (Nat.le_of_ble_eq_true rfl) (Nat.le_of_ble_eq_true rfl)

abbrev rmX5_requireFine : Room := { frames := 6, cells := 1, slots := 6, locals := 82 }
set_option maxHeartbeats 4000000 in
set_option maxRecDepth 100000 in
/-- nothing must speak against it -/
theorem c_X5_requireFine (l : Launch) (G : zk_G) (hst : l.stackTraces = false) (f : Int32) : zk_XV (S := Unit) l yX5_requireFine wsX5_requireFine rmX5_requireFine G [.int f] ([]) (fun _ => ¬ f = nI 1 ∧ ¬ f = nI 2 ∧ ¬ f = nI 3) (fun _ => []) (fun E => (E = "java/lang/IndexOutOfBoundsException" ∧ f = nI 1) ∨ (E = "java/lang/IllegalArgumentException" ∧ f = nI 2) ∨ (E = "java/lang/IllegalStateException" ∧ f = nI 3)) := by
  refine zk_bodyXV (cc := cX5_requireFine) (maxL := 1) (ret := none) (by decide) rfl (Nat.le_of_ble_eq_true rfl) ?_
  intro p E0 s m args below meth cd A ls Q hF hnx hQ
  obtain ⟨hx, hb, hml, hr, hts, hown, hlocks, -, hE, hP, hD, hS, hA, hA0, hl⟩ := hF
  have hK := hE.1
  have hl : lv_has ls 1 [(0, .int f)] := hl
  have w1 := hts _ (List.mem_of_getElem? (l := wsX5_requireFine) (i := 1) (a := Cond.classLink RX5 330 "java/lang/IndexOutOfBoundsException") rfl)
  have w2 := hts _ (List.mem_of_getElem? (l := wsX5_requireFine) (i := 2) (a := Cond.initialized "java/lang/IndexOutOfBoundsException") rfl)
  have w3 := hts _ (List.mem_of_getElem? (l := wsX5_requireFine) (i := 3) (a := Cond.classLink RX5 41 "java/lang/IllegalArgumentException") rfl)
  have w4 := hts _ (List.mem_of_getElem? (l := wsX5_requireFine) (i := 4) (a := Cond.initialized "java/lang/IllegalArgumentException") rfl)
  have w5 := hts _ (List.mem_of_getElem? (l := wsX5_requireFine) (i := 5) (a := Cond.classLink RX5 52 "java/lang/IllegalStateException") rfl)
  have w6 := hts _ (List.mem_of_getElem? (l := wsX5_requireFine) (i := 6) (a := Cond.initialized "java/lang/IllegalStateException") rfl)
  refine lv_iload_n hx hb dX5_requireFine_0 rfl (lv_at hl 0 rfl) ?_
  rcases Decidable.em (f = nI 1) with h1_1 | h1_n1
  · refine lv_tableIn (tgt := 28) hx hb dX5_requireFine_1 (by rw [h1_1]; decide) (by rw [h1_1]; decide) (by rw [h1_1]; rfl) (by decide) ?_
    rw [hQ]
    exact vx_throwSW (cls := "java/lang/IndexOutOfBoundsException") (names := zk_up) hx hb hst hown (by decide +kernel) (by decide +kernel) w1 w2 (zk_R20 hE.2.2.1) (zk_hat (fun w hw => hts w (List.mem_cons_of_mem _ (List.mem_append_left _ (List.mem_append_left _ (List.mem_append_right _ hw))))) hE.2.1.2.2.2.2.2.2.2 hE.2.1.2.2.2.2.2.2.2.2.2.2.1 (by decide +kernel)) (by decide +kernel) (hE.2.2.2.1.1.narrow hA0) (hE.2.2.2.1.2.1.narrow hA0) hS (hl.1.trans hml.symm) dX5_requireFine_28 dX5_requireFine_31 dX5_requireFine_32 dX5_requireFine_35 dX5_requireFine_38 (fun x h => (hnx x h).elim) (Nat.le_of_ble_eq_true rfl) (Nat.le_of_ble_eq_true rfl) (Nat.le_of_ble_eq_true rfl) (Nat.le_of_ble_eq_true rfl) hlocks (fun t _ hz hk => zk_thx hP hD hS (List.Perm.refl _) (Or.inl ⟨rfl, h1_1⟩) hz hk) hS.2.2 (Nat.le_of_ble_eq_true rfl) (Nat.le_of_ble_eq_true rfl)
  rcases Decidable.em (f = nI 2) with h1_2 | h1_n2
  · refine lv_tableIn (tgt := 39) hx hb dX5_requireFine_1 (by rw [h1_2]; decide) (by rw [h1_2]; decide) (by rw [h1_2]; rfl) (by decide) ?_
    rw [hQ]
    exact vx_throwSW (cls := "java/lang/IllegalArgumentException") (names := zk_up) hx hb hst hown (by decide +kernel) (by decide +kernel) w3 w4 (zk_R21 hE.2.2.1) (zk_hat (fun w hw => hts w (List.mem_cons_of_mem _ (List.mem_append_left _ (List.mem_append_right _ hw)))) hE.2.1.2.2.2.2.2.2.2 hE.2.1.2.2.2.2.2.2.2.2.2.2.2.1 (by decide +kernel)) (by decide +kernel) (hE.2.2.2.1.1.narrow hA0) (hE.2.2.2.1.2.1.narrow hA0) hS (hl.1.trans hml.symm) dX5_requireFine_39 dX5_requireFine_42 dX5_requireFine_43 dX5_requireFine_46 dX5_requireFine_49 (fun x h => (hnx x h).elim) (Nat.le_of_ble_eq_true rfl) (Nat.le_of_ble_eq_true rfl) (Nat.le_of_ble_eq_true rfl) (Nat.le_of_ble_eq_true rfl) hlocks (fun t _ hz hk => zk_thx hP hD hS (List.Perm.refl _) (Or.inr (Or.inl ⟨rfl, h1_2⟩)) hz hk) hS.2.2 (Nat.le_of_ble_eq_true rfl) (Nat.le_of_ble_eq_true rfl)
  rcases Decidable.em (f = nI 3) with h1_3 | h1_n3
  · refine lv_tableIn (tgt := 50) hx hb dX5_requireFine_1 (by rw [h1_3]; decide) (by rw [h1_3]; decide) (by rw [h1_3]; rfl) (by decide) ?_
    rw [hQ]
    exact vx_throwSW (cls := "java/lang/IllegalStateException") (names := zk_up) hx hb hst hown (by decide +kernel) (by decide +kernel) w5 w6 (zk_R22 hE.2.2.1) (zk_hat (fun w hw => hts w (List.mem_cons_of_mem _ (List.mem_append_right _ hw))) hE.2.1.2.2.2.2.2.2.2 hE.2.1.2.2.2.2.2.2.2.2.2.2.2.2 (by decide +kernel)) (by decide +kernel) (hE.2.2.2.1.1.narrow hA0) (hE.2.2.2.1.2.1.narrow hA0) hS (hl.1.trans hml.symm) dX5_requireFine_50 dX5_requireFine_53 dX5_requireFine_54 dX5_requireFine_57 dX5_requireFine_60 (fun x h => (hnx x h).elim) (Nat.le_of_ble_eq_true rfl) (Nat.le_of_ble_eq_true rfl) (Nat.le_of_ble_eq_true rfl) (Nat.le_of_ble_eq_true rfl) hlocks (fun t _ hz hk => zk_thx hP hD hS (List.Perm.refl _) (Or.inr (Or.inr ⟨rfl, h1_3⟩)) hz hk) hS.2.2 (Nat.le_of_ble_eq_true rfl) (Nat.le_of_ble_eq_true rfl)
  refine lv_tableOut (tgt := 61) hx hb dX5_requireFine_1 (zk_out (1) 3 (fun k hk z => by
        rcases (show k = 0 ∨ k = 1 ∨ k = 2 by omega) with rfl | rfl | rfl
        · exact h1_n1 (zk_toI z (by decide))
        · exact h1_n2 (zk_toI z (by decide))
        · exact h1_n3 (zk_toI z (by decide)))) (by decide) ?_
  rw [hQ]
  refine vx_ret ?_
  exact zk_retv () rfl hx hb hr hlocks hS hP hD (Nat.le_of_ble_eq_true rfl) (Nat.le_of_ble_eq_true rfl) dX5_requireFine_61 (⟨h1_n1, h1_n2, h1_n3⟩)

abbrev rmX5_requireChild : Room := { frames := 6, cells := 1, slots := 6, locals := 82 }
set_option maxHeartbeats 4000000 in
set_option maxRecDepth 100000 in
/-- a child must be -/
theorem c_X5_requireChild (l : Launch) (G : zk_G) (hst : l.stackTraces = false) (a : zA) (L : zL) (n t : Nat) (hI : sInv L n t) (c : Int32) : zk_XV (S := Unit) l yX5_requireChild wsX5_requireChild rmX5_requireChild G [.ref a.1, .int c] ((zb_5 G a) ++ ((zb_L G a.2.2.1 L) ++ zb_M G a.2.2.1 L)) (fun _ => sHas L c) (fun _ => (zb_5 G a) ++ ((zb_L G a.2.2.1 L) ++ zb_M G a.2.2.1 L)) (fun E => E = "java/lang/IndexOutOfBoundsException" ∧ ¬ sHas L c) := by
  refine zk_bodyXV (cc := cX5_requireChild) (maxL := 2) (ret := none) (by decide) rfl (Nat.le_of_ble_eq_true rfl) ?_
  intro p E0 s m args below meth cd A ls Q hF hnx hQ
  obtain ⟨hx, hb, hml, hr, hts, hown, hlocks, -, hE, hP, hD, hS, hA, hA0, hl⟩ := hF
  have hK := hE.1
  have hl : lv_has ls 2 [(0, .ref a.1), (1, .int c)] := hl
  obtain ⟨hn, hn12, ht, ht40, hfam, hpay⟩ := id hI
  have w3 := hts _ (List.mem_of_getElem? (l := wsX5_requireChild) (i := 3) (a := Cond.fieldLink RX5 19 "MealAccounts" "now" "LMealAccounts$Ledger;") rfl)
  have w1 := hts _ (List.mem_of_getElem? (l := wsX5_requireChild) (i := 1) (a := Cond.classLink RX5 330 "java/lang/IndexOutOfBoundsException") rfl)
  have w2 := hts _ (List.mem_of_getElem? (l := wsX5_requireChild) (i := 2) (a := Cond.initialized "java/lang/IndexOutOfBoundsException") rfl)
  refine lv_aload_n hx hb dX5_requireChild_0 rfl (lv_at hl 0 rfl) ?_
  refine va_get (D := G.1) (ci := 4) (v := .ref (a.2.2.1 0)) (C := RX5) (T := TX5) (N := 6) hx hb hts (fun _ h => List.mem_cons_of_mem _ (List.mem_append_left _ (List.mem_append_left _ (List.mem_append_right _ h)))) hown hK hP 0 rfl rfl 1 (by decide) w3 (fun _ h9 => h9) rfl dX5_requireChild_1 ?_
  refine lv_iload_n hx hb dX5_requireChild_4 rfl (lv_at hl 1 rfl) ?_
  have hP0 : va_P G.1 vwCl ((zb_L G a.2.2.1 L ++ zb_M G a.2.2.1 L) ++ (zb_5 G a)) s.heap := zk_Pperm hP (show ((zb_5 G a) ++ ((zb_L G a.2.2.1 L) ++ zb_M G a.2.2.1 L)).Perm ((zb_L G a.2.2.1 L ++ zb_M G a.2.2.1 L) ++ (zb_5 G a)) from (show ((zb_5 G a) ++ ((zb_L G a.2.2.1 L) ++ zb_M G a.2.2.1 L)).Perm ((zb_L G a.2.2.1 L) ++ ((zb_M G a.2.2.1 L) ++ zb_5 G a)) from (((List.Perm.append_left _ List.perm_append_comm).trans (List.perm_append_comm_assoc _ _ _))).trans ((List.Perm.append_left _ List.perm_append_comm).trans (List.perm_append_comm_assoc _ _ _))).trans (List.Perm.of_eq (by simp only [List.append_assoc, List.append_nil, List.nil_append])))
  have hD0 : va_D A ((zb_L G a.2.2.1 L ++ zb_M G a.2.2.1 L) ++ (zb_5 G a)) := zk_Dperm hD (show ((zb_5 G a) ++ ((zb_L G a.2.2.1 L) ++ zb_M G a.2.2.1 L)).Perm ((zb_L G a.2.2.1 L ++ zb_M G a.2.2.1 L) ++ (zb_5 G a)) from (show ((zb_5 G a) ++ ((zb_L G a.2.2.1 L) ++ zb_M G a.2.2.1 L)).Perm ((zb_L G a.2.2.1 L) ++ ((zb_M G a.2.2.1 L) ++ zb_5 G a)) from (((List.Perm.append_left _ List.perm_append_comm).trans (List.perm_append_comm_assoc _ _ _))).trans ((List.Perm.append_left _ List.perm_append_comm).trans (List.perm_append_comm_assoc _ _ _))).trans (List.Perm.of_eq (by simp only [List.append_assoc, List.append_nil, List.nil_append])))
  refine zk_callI (wr := zb_5 G a) (va_runV (As := [.int c]) (rest := []) ⟨hx, hb, hml, hown, hts⟩ (c_X2_hasChild l G a.2.2.1 L n t hI c _) (cwV 1 hts gX5_requireChild_X2_hasChild rfl rfl rfl (by decide +kernel) ⟨Nat.le_of_ble_eq_true rfl, Nat.le_of_ble_eq_true rfl⟩) (zk_preV hE hA0 hS (zk_Papp hP0).1 (zk_Dapp hD0).1 (va_recv hK hP (ci := 1) (q0 := 1) rfl rfl)) rfl rfl hl.1 rfl (lv_room (Nat.le_of_ble_eq_true rfl)) dX5_requireChild_5 ⟨Nat.le_of_ble_eq_true rfl, Nat.le_of_ble_eq_true rfl⟩) hP0 hD0 hS hA (fun r1 u2 H locs q3 hP hD hS => ?_)
  subst q3
  have hP : va_P G.1 vwCl ((zb_5 G a) ++ ((zb_L G a.2.2.1 L) ++ zb_M G a.2.2.1 L)) H := zk_Pperm hP (show ((zb_5 G a) ++ ((zb_L G a.2.2.1 L) ++ zb_M G a.2.2.1 L)).Perm ((zb_L G a.2.2.1 L ++ zb_M G a.2.2.1 L) ++ (zb_5 G a)) from (show ((zb_5 G a) ++ ((zb_L G a.2.2.1 L) ++ zb_M G a.2.2.1 L)).Perm ((zb_L G a.2.2.1 L) ++ ((zb_M G a.2.2.1 L) ++ zb_5 G a)) from (((List.Perm.append_left _ List.perm_append_comm).trans (List.perm_append_comm_assoc _ _ _))).trans ((List.Perm.append_left _ List.perm_append_comm).trans (List.perm_append_comm_assoc _ _ _))).trans (List.Perm.of_eq (by simp only [List.append_assoc, List.append_nil, List.nil_append]))).symm
  have hD : va_D A ((zb_5 G a) ++ ((zb_L G a.2.2.1 L) ++ zb_M G a.2.2.1 L)) := zk_Dperm hD (show ((zb_5 G a) ++ ((zb_L G a.2.2.1 L) ++ zb_M G a.2.2.1 L)).Perm ((zb_L G a.2.2.1 L ++ zb_M G a.2.2.1 L) ++ (zb_5 G a)) from (show ((zb_5 G a) ++ ((zb_L G a.2.2.1 L) ++ zb_M G a.2.2.1 L)).Perm ((zb_L G a.2.2.1 L) ++ ((zb_M G a.2.2.1 L) ++ zb_5 G a)) from (((List.Perm.append_left _ List.perm_append_comm).trans (List.perm_append_comm_assoc _ _ _))).trans ((List.Perm.append_left _ List.perm_append_comm).trans (List.perm_append_comm_assoc _ _ _))).trans (List.Perm.of_eq (by simp only [List.append_assoc, List.append_nil, List.nil_append]))).symm
  have hP : va_P G.1 vwCl ((zb_5 G a) ++ ((zb_L G a.2.2.1 L) ++ zb_M G a.2.2.1 L)) H := hP
  have hD : va_D A ((zb_5 G a) ++ ((zb_L G a.2.2.1 L) ++ zb_M G a.2.2.1 L)) := hD
  refine lv_if_ne (tgt := 22) hx hb dX5_requireChild_8 (by decide) (fun h8_3 => ?_) (fun h8_3 => ?_)
  · have h8_3 := zk_b1 h8_3
    rw [hQ]
    refine vx_ret ?_
    exact zk_retv () rfl hx hb hr hlocks hS hP hD (Nat.le_of_ble_eq_true rfl) (Nat.le_of_ble_eq_true rfl) dX5_requireChild_22 (h8_3)
  · have h8_3 := zk_b0 h8_3
    rw [hQ]
    exact vx_throwSW (cls := "java/lang/IndexOutOfBoundsException") (names := zk_up) hx hb hst hown (by decide +kernel) (by decide +kernel) w1 w2 (zk_R12 hE.2.2.1) (zk_hat (fun w hw => hts w (List.mem_cons_of_mem _ (List.mem_append_right _ hw))) hE.2.1.2.2.2.2.2.2.2 hE.2.1.2.2.2.2.2.2.2.2.2.2.1 (by decide +kernel)) (by decide +kernel) (hE.2.2.2.1.1.narrow hA0) (hE.2.2.2.1.2.1.narrow hA0) hS (hl.1.trans hml.symm) dX5_requireChild_11 dX5_requireChild_14 dX5_requireChild_15 dX5_requireChild_18 dX5_requireChild_21 (fun x h => (hnx x h).elim) (Nat.le_of_ble_eq_true rfl) (Nat.le_of_ble_eq_true rfl) (Nat.le_of_ble_eq_true rfl) (Nat.le_of_ble_eq_true rfl) hlocks (fun t _ hz hk => zk_thx hP hD hS (List.Perm.refl _) (⟨rfl, h8_3⟩) hz hk) hS.2.2 (Nat.le_of_ble_eq_true rfl) (Nat.le_of_ble_eq_true rfl)
