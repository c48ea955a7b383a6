abbrev rmX6_goOn : Room := { frames := 4, cells := 0, slots := 0, locals := 96 }
set_option maxHeartbeats 4000000 in
set_option maxRecDepth 100000 in
/-- all days that are left -/
theorem c_X6_goOn (l : Launch) (G : zk_G) (b : Nat → Nat) (rf sz ac sp ou : Int32) (K : zL) (n t : Nat) (hI : sInv K n t) (hp0 : ¬ K 0 2 < nI 1) : zk_I (S := zL) l yX6_goOn wsX6_goOn rmX6_goOn G [.ref (b 0)] ((zb_6 G b rf sz ac sp ou) ++ zb_r G (b 3) K) (fun r u => r = kSrv u n (-1) (-1) - kSrv K n (-1) (-1) ∧ u = kEnd K n t) (fun u => zb_6 G b rf sz ac sp ou ++ zb_r G (b 3) u) := by
  refine zk_bodyI (cc := cX6_goOn) (maxL := 1) (ret := (some .int)) (by decide) rfl (Nat.le_of_ble_eq_true rfl) ?_
  intro p E0 s m args below meth cd A ls Q hF hQ
  obtain ⟨hx, hb, hml, hr, hts, hown, hlocks, -, hE, hP, hD, hS, hA, hA0, hl⟩ := hF
  have hK := hE.1
  have hl : lv_has ls 1 [(0, .ref (b 0))] := hl
  obtain ⟨hn, hn12, ht, ht40, hfam, hpay⟩ := id hI
  have w1 := hts _ (List.mem_of_getElem? (l := wsX6_goOn) (i := 1) (a := Cond.fieldLink RX6 16 "MealAccountsModel" "trial" "[I") rfl)
  refine lv_aload_n hx hb dX6_goOn_0 rfl (lv_at hl 0 rfl) ?_
  refine va_get (D := G.1) (ci := 5) (v := .ref (b 3)) (C := RX6) (T := TX6) (N := 11) hx hb hts (fun _ h => List.mem_cons_of_mem _ (List.mem_append_right _ h)) hown hK hP 0 rfl rfl 4 (by decide) w1 (fun _ h9 => h9) rfl dX6_goOn_1 ?_
  refine lv_bipush (v := nI 40) hx hb dX6_goOn_4 (by decide) ?_
  refine lv_aload_n hx hb dX6_goOn_6 rfl (lv_at hl 0 rfl) ?_
  refine va_get (D := G.1) (ci := 5) (v := .ref (b 3)) (C := RX6) (T := TX6) (N := 11) hx hb hts (fun _ h => List.mem_cons_of_mem _ (List.mem_append_right _ h)) hown hK hP 0 rfl rfl 4 (by decide) w1 (fun _ h9 => h9) rfl dX6_goOn_7 ?_
  refine lv_iconst (v := nI 0) hx hb dX6_goOn_10 (by decide) ?_
  refine zk_ialdN hx hb hK hP 1 0 rfl rfl (k := 0) (n := 1555) (by omega) (by omega) dX6_goOn_11 ?_
  refine zk_top (zrow_l K (c := 0) (by omega)) ?_
  refine zk_top hI.2.2.1 ?_
  refine zk_isubN hx hb dX6_goOn_12 (by omega) ?_
  have hP0 : va_P G.1 vwCl ((zb_r G (b 3) K) ++ (zb_6 G b rf sz ac sp ou)) s.heap := zk_Pperm hP (show ((zb_6 G b rf sz ac sp ou) ++ zb_r G (b 3) K).Perm ((zb_r G (b 3) K) ++ (zb_6 G b rf sz ac sp ou)) from (show ((zb_6 G b rf sz ac sp ou) ++ zb_r G (b 3) K).Perm ((zb_r G (b 3) K) ++ zb_6 G b rf sz ac sp ou) from List.perm_append_comm).trans (List.Perm.of_eq (by simp only [List.append_assoc, List.append_nil, List.nil_append])))
  have hD0 : va_D A ((zb_r G (b 3) K) ++ (zb_6 G b rf sz ac sp ou)) := zk_Dperm hD (show ((zb_6 G b rf sz ac sp ou) ++ zb_r G (b 3) K).Perm ((zb_r G (b 3) K) ++ (zb_6 G b rf sz ac sp ou)) from (show ((zb_6 G b rf sz ac sp ou) ++ zb_r G (b 3) K).Perm ((zb_r G (b 3) K) ++ zb_6 G b rf sz ac sp ou) from List.perm_append_comm).trans (List.Perm.of_eq (by simp only [List.append_assoc, List.append_nil, List.nil_append])))
  refine zk_callI (wr := zb_6 G b rf sz ac sp ou) (va_runS (As := [.ref (b 3), .int (nI (40 - t))]) (rest := []) ⟨hx, hb, hml, hown, hts⟩ (c_X6_daysOn l G (b 3) K n t hI (40 - t) (by omega) hp0 _) (cwS 2 hts gX6_goOn_X6_daysOn rfl rfl rfl (by decide +kernel) ⟨Nat.le_of_ble_eq_true rfl, Nat.le_of_ble_eq_true rfl⟩) (zk_preS hE hA0 hS (zk_Papp hP0).1 (zk_Dapp hD0).1) rfl rfl hl.1 rfl (lv_room (Nat.le_of_ble_eq_true rfl)) dX6_goOn_13 ⟨Nat.le_of_ble_eq_true rfl, Nat.le_of_ble_eq_true rfl⟩) hP0 hD0 hS hA (fun r1 u2 H locs q3 hP hD hS => ?_)
  obtain ⟨er1, eL4⟩ := q3
  have hI5 : sInv u2 n (t + (40 - t)) := by rw [eL4]; exact sInv_kDays hI _ (by omega)
  have hP : va_P G.1 vwCl ((zb_6 G b rf sz ac sp ou) ++ zb_r G (b 3) u2) H := zk_Pperm hP (show ((zb_6 G b rf sz ac sp ou) ++ zb_r G (b 3) u2).Perm ((zb_r G (b 3) u2) ++ (zb_6 G b rf sz ac sp ou)) from (show ((zb_6 G b rf sz ac sp ou) ++ zb_r G (b 3) u2).Perm ((zb_r G (b 3) u2) ++ zb_6 G b rf sz ac sp ou) from List.perm_append_comm).trans (List.Perm.of_eq (by simp only [List.append_assoc, List.append_nil, List.nil_append]))).symm
  have hD : va_D A ((zb_6 G b rf sz ac sp ou) ++ zb_r G (b 3) u2) := zk_Dperm hD (show ((zb_6 G b rf sz ac sp ou) ++ zb_r G (b 3) u2).Perm ((zb_r G (b 3) u2) ++ (zb_6 G b rf sz ac sp ou)) from (show ((zb_6 G b rf sz ac sp ou) ++ zb_r G (b 3) u2).Perm ((zb_r G (b 3) u2) ++ zb_6 G b rf sz ac sp ou) from List.perm_append_comm).trans (List.Perm.of_eq (by simp only [List.append_assoc, List.append_nil, List.nil_append]))).symm
  exact zk_reti u2 hQ hx hb hr hlocks hS hP hD (Nat.le_of_ble_eq_true rfl) (Nat.le_of_ble_eq_true rfl) dX6_goOn_16 (⟨er1, eL4⟩)

abbrev rmX6_refusedOn : Room := { frames := 5, cells := 0, slots := 0, locals := 116 }
set_option maxHeartbeats 4000000 in
set_option maxRecDepth 100000 in
/-- on which day a child is refused -/
theorem c_X6_refusedOn (l : Launch) (G : zk_G) (b : Nat → Nat) (rf sz ac sp ou : Int32) (K : zL) (n t : Nat) (hI : sInv K n t) (hp0 : ¬ K 0 2 < nI 1) (Z : zL) (c : Int32) : zk_I (S := Int32 × zL) l yX6_refusedOn wsX6_refusedOn rmX6_refusedOn G [.ref (b 0), .int c] ((zb_6 G b rf sz ac sp ou) ++ ((zb_r G (b 2) K) ++ zb_r G (b 3) Z)) (fun r u => (sHas K c ∧ u.1 = 0 ∧ ((∃ d, t ≤ d ∧ d < 40 ∧ r = nI d ∧ kEnd K n t 9 (c.toNatClampNeg * 40 + d) = nI 4 ∧ ∀ e, t ≤ e → e < d → ¬ kEnd K n t 9 (c.toNatClampNeg * 40 + e) = nI 4) ∨ (r = -1 ∧ ∀ e, t ≤ e → e < 40 → ¬ kEnd K n t 9 (c.toNatClampNeg * 40 + e) = nI 4))) ∨ (¬ sHas K c ∧ u.1 = nI 1)) (fun u => zb_6 G b u.1 sz ac sp ou ++ (zb_r G (b 2) K ++ zb_r G (b 3) u.2)) := by
  refine zk_bodyI (cc := cX6_refusedOn) (maxL := 3) (ret := (some .int)) (by decide) rfl (Nat.le_of_ble_eq_true rfl) ?_
  intro p E0 s m args below meth cd A ls Q hF hQ
  obtain ⟨hx, hb, hml, hr, hts, hown, hlocks, -, hE, hP, hD, hS, hA, hA0, hl⟩ := hF
  have hK := hE.1
  have hl : lv_has ls 3 [(0, .ref (b 0)), (1, .int c)] := hl
  obtain ⟨hn, hn12, ht, ht40, hfam, hpay⟩ := id hI
  have w1 := hts _ (List.mem_of_getElem? (l := wsX6_refusedOn) (i := 1) (a := Cond.fieldLink RX6 13 "MealAccountsModel" "now" "[I") rfl)
  have w2 := hts _ (List.mem_of_getElem? (l := wsX6_refusedOn) (i := 2) (a := Cond.fieldLink RX6 16 "MealAccountsModel" "trial" "[I") rfl)
  refine lv_aload_n hx hb dX6_refusedOn_0 rfl (lv_at hl 0 rfl) ?_
  refine lv_aload_n hx hb dX6_refusedOn_1 rfl (lv_at hl 0 rfl) ?_
  refine va_get (D := G.1) (ci := 5) (v := .ref (b 2)) (C := RX6) (T := TX6) (N := 11) hx hb hts (fun _ h => List.mem_cons_of_mem _ (List.mem_append_right _ h)) hown hK hP 0 rfl rfl 3 (by decide) w1 (fun _ h9 => h9) rfl dX6_refusedOn_2 ?_
  refine lv_iload_n hx hb dX6_refusedOn_5 rfl (lv_at hl 1 rfl) ?_
  have hP0 : va_P G.1 vwCl ((zb_r G (b 2) K) ++ ((zb_6 G b rf sz ac sp ou) ++ zb_r G (b 3) Z)) s.heap := zk_Pperm hP (show ((zb_6 G b rf sz ac sp ou) ++ ((zb_r G (b 2) K) ++ zb_r G (b 3) Z)).Perm ((zb_r G (b 2) K) ++ ((zb_6 G b rf sz ac sp ou) ++ zb_r G (b 3) Z)) from (show ((zb_6 G b rf sz ac sp ou) ++ ((zb_r G (b 2) K) ++ zb_r G (b 3) Z)).Perm ((zb_r G (b 2) K) ++ ((zb_6 G b rf sz ac sp ou) ++ zb_r G (b 3) Z)) from (List.perm_append_comm_assoc _ _ _)).trans (List.Perm.of_eq (by simp only [List.append_assoc, List.append_nil, List.nil_append])))
  have hD0 : va_D A ((zb_r G (b 2) K) ++ ((zb_6 G b rf sz ac sp ou) ++ zb_r G (b 3) Z)) := zk_Dperm hD (show ((zb_6 G b rf sz ac sp ou) ++ ((zb_r G (b 2) K) ++ zb_r G (b 3) Z)).Perm ((zb_r G (b 2) K) ++ ((zb_6 G b rf sz ac sp ou) ++ zb_r G (b 3) Z)) from (show ((zb_6 G b rf sz ac sp ou) ++ ((zb_r G (b 2) K) ++ zb_r G (b 3) Z)).Perm ((zb_r G (b 2) K) ++ ((zb_6 G b rf sz ac sp ou) ++ zb_r G (b 3) Z)) from (List.perm_append_comm_assoc _ _ _)).trans (List.Perm.of_eq (by simp only [List.append_assoc, List.append_nil, List.nil_append])))
  refine zk_callI (wr := (zb_6 G b rf sz ac sp ou) ++ zb_r G (b 3) Z) (va_runS (As := [.ref (b 2), .int c]) (rest := [.ref (b 0)]) ⟨hx, hb, hml, hown, hts⟩ (c_X6_isChild l G (b 2) K n t hI c _) (cwS 2 hts gX6_refusedOn_X6_isChild rfl rfl rfl (by decide +kernel) ⟨Nat.le_of_ble_eq_true rfl, Nat.le_of_ble_eq_true rfl⟩) (zk_preS hE hA0 hS (zk_Papp hP0).1 (zk_Dapp hD0).1) rfl rfl hl.1 rfl (lv_room (Nat.le_of_ble_eq_true rfl)) dX6_refusedOn_6 ⟨Nat.le_of_ble_eq_true rfl, Nat.le_of_ble_eq_true rfl⟩) hP0 hD0 hS hA (fun r1 u2 H locs q3 hP hD hS => ?_)
  subst q3
  have hP : va_P G.1 vwCl ((zb_6 G b rf sz ac sp ou) ++ ((zb_r G (b 2) K) ++ zb_r G (b 3) Z)) H := zk_Pperm hP (show ((zb_6 G b rf sz ac sp ou) ++ ((zb_r G (b 2) K) ++ zb_r G (b 3) Z)).Perm ((zb_r G (b 2) K) ++ ((zb_6 G b rf sz ac sp ou) ++ zb_r G (b 3) Z)) from (show ((zb_6 G b rf sz ac sp ou) ++ ((zb_r G (b 2) K) ++ zb_r G (b 3) Z)).Perm ((zb_r G (b 2) K) ++ ((zb_6 G b rf sz ac sp ou) ++ zb_r G (b 3) Z)) from (List.perm_append_comm_assoc _ _ _)).trans (List.Perm.of_eq (by simp only [List.append_assoc, List.append_nil, List.nil_append]))).symm
  have hD : va_D A ((zb_6 G b rf sz ac sp ou) ++ ((zb_r G (b 2) K) ++ zb_r G (b 3) Z)) := zk_Dperm hD (show ((zb_6 G b rf sz ac sp ou) ++ ((zb_r G (b 2) K) ++ zb_r G (b 3) Z)).Perm ((zb_r G (b 2) K) ++ ((zb_6 G b rf sz ac sp ou) ++ zb_r G (b 3) Z)) from (show ((zb_6 G b rf sz ac sp ou) ++ ((zb_r G (b 2) K) ++ zb_r G (b 3) Z)).Perm ((zb_r G (b 2) K) ++ ((zb_6 G b rf sz ac sp ou) ++ zb_r G (b 3) Z)) from (List.perm_append_comm_assoc _ _ _)).trans (List.Perm.of_eq (by simp only [List.append_assoc, List.append_nil, List.nil_append]))).symm
  refine lv_if_eq (tgt := 16) hx hb dX6_refusedOn_9 (by decide) (fun h9_3 => ?_) (fun h9_3 => ?_)
  · have h9_3 := zk_b0 h9_3
    refine lv_iconst (v := nI 1) hx hb dX6_refusedOn_16 (by decide) ?_
    have hP0 : va_P G.1 vwCl ((zb_6 G b rf sz ac sp ou) ++ ((zb_r G (b 2) K) ++ zb_r G (b 3) Z)) H := zk_Pperm hP (show ((zb_6 G b rf sz ac sp ou) ++ ((zb_r G (b 2) K) ++ zb_r G (b 3) Z)).Perm ((zb_6 G b rf sz ac sp ou) ++ ((zb_r G (b 2) K) ++ zb_r G (b 3) Z)) from (show ((zb_6 G b rf sz ac sp ou) ++ ((zb_r G (b 2) K) ++ zb_r G (b 3) Z)).Perm ((zb_6 G b rf sz ac sp ou) ++ ((zb_r G (b 2) K) ++ zb_r G (b 3) Z)) from List.Perm.refl _).trans (List.Perm.of_eq (by simp only [List.append_assoc, List.append_nil, List.nil_append])))
    have hD0 : va_D A ((zb_6 G b rf sz ac sp ou) ++ ((zb_r G (b 2) K) ++ zb_r G (b 3) Z)) := zk_Dperm hD (show ((zb_6 G b rf sz ac sp ou) ++ ((zb_r G (b 2) K) ++ zb_r G (b 3) Z)).Perm ((zb_6 G b rf sz ac sp ou) ++ ((zb_r G (b 2) K) ++ zb_r G (b 3) Z)) from (show ((zb_6 G b rf sz ac sp ou) ++ ((zb_r G (b 2) K) ++ zb_r G (b 3) Z)).Perm ((zb_6 G b rf sz ac sp ou) ++ ((zb_r G (b 2) K) ++ zb_r G (b 3) Z)) from List.Perm.refl _).trans (List.Perm.of_eq (by simp only [List.append_assoc, List.append_nil, List.nil_append])))
    refine zk_callI (wr := (zb_r G (b 2) K) ++ zb_r G (b 3) Z) (va_runV (As := [.int (nI 1)]) (rest := []) ⟨hx, hb, hml, hown, hts⟩ (c_X6_refused l G b rf sz ac sp ou (nI 1) _) (cwV 1 hts gX6_refusedOn_X6_refused rfl rfl rfl (by decide +kernel) ⟨Nat.le_of_ble_eq_true rfl, Nat.le_of_ble_eq_true rfl⟩) (zk_preV hE hA0 hS (zk_Papp hP0).1 (zk_Dapp hD0).1 (va_recv hK hP0 (ci := 5) (q0 := 0) rfl rfl)) rfl rfl hl.1 rfl (lv_room (Nat.le_of_ble_eq_true rfl)) dX6_refusedOn_17 ⟨Nat.le_of_ble_eq_true rfl, Nat.le_of_ble_eq_true rfl⟩) hP0 hD0 hS hA (fun r5 u6 H locs q7 hP hD hS => ?_)
    subst q7
    have hP : va_P G.1 vwCl ((zb_6 G b (nI 1) sz ac sp ou) ++ ((zb_r G (b 2) K) ++ zb_r G (b 3) Z)) H := zk_Pperm hP (show ((zb_6 G b (nI 1) sz ac sp ou) ++ ((zb_r G (b 2) K) ++ zb_r G (b 3) Z)).Perm ((zb_6 G b (nI 1) sz ac sp ou) ++ ((zb_r G (b 2) K) ++ zb_r G (b 3) Z)) from (show ((zb_6 G b (nI 1) sz ac sp ou) ++ ((zb_r G (b 2) K) ++ zb_r G (b 3) Z)).Perm ((zb_6 G b (nI 1) sz ac sp ou) ++ ((zb_r G (b 2) K) ++ zb_r G (b 3) Z)) from List.Perm.refl _).trans (List.Perm.of_eq (by simp only [List.append_assoc, List.append_nil, List.nil_append]))).symm
    have hD : va_D A ((zb_6 G b (nI 1) sz ac sp ou) ++ ((zb_r G (b 2) K) ++ zb_r G (b 3) Z)) := zk_Dperm hD (show ((zb_6 G b (nI 1) sz ac sp ou) ++ ((zb_r G (b 2) K) ++ zb_r G (b 3) Z)).Perm ((zb_6 G b (nI 1) sz ac sp ou) ++ ((zb_r G (b 2) K) ++ zb_r G (b 3) Z)) from (show ((zb_6 G b (nI 1) sz ac sp ou) ++ ((zb_r G (b 2) K) ++ zb_r G (b 3) Z)).Perm ((zb_6 G b (nI 1) sz ac sp ou) ++ ((zb_r G (b 2) K) ++ zb_r G (b 3) Z)) from List.Perm.refl _).trans (List.Perm.of_eq (by simp only [List.append_assoc, List.append_nil, List.nil_append]))).symm
    refine zk_top (show (if 0 < (nI 1) then nI 1 else nI 0) = nI 1 by decide) ?_
    refine lv_if_eq (tgt := 25) hx hb dX6_refusedOn_20 (by decide) (fun z => absurd z (by decide)) (fun _ => ?_)
    refine lv_iconst (v := nI 0) hx hb dX6_refusedOn_23 (by decide) ?_
    exact zk_reti (nI 1, Z) hQ hx hb hr hlocks hS hP hD (Nat.le_of_ble_eq_true rfl) (Nat.le_of_ble_eq_true rfl) dX6_refusedOn_24 (Or.inr ⟨h9_3, rfl⟩)
  · have h9_3 := zk_b1 h9_3
    refine lv_iconst (v := nI 0) hx hb dX6_refusedOn_12 (by decide) ?_
    refine lv_goto (tgt := 17) hx hb dX6_refusedOn_13 (by decide) ?_
    have hP0 : va_P G.1 vwCl ((zb_6 G b rf sz ac sp ou) ++ ((zb_r G (b 2) K) ++ zb_r G (b 3) Z)) H := zk_Pperm hP (show ((zb_6 G b rf sz ac sp ou) ++ ((zb_r G (b 2) K) ++ zb_r G (b 3) Z)).Perm ((zb_6 G b rf sz ac sp ou) ++ ((zb_r G (b 2) K) ++ zb_r G (b 3) Z)) from (show ((zb_6 G b rf sz ac sp ou) ++ ((zb_r G (b 2) K) ++ zb_r G (b 3) Z)).Perm ((zb_6 G b rf sz ac sp ou) ++ ((zb_r G (b 2) K) ++ zb_r G (b 3) Z)) from List.Perm.refl _).trans (List.Perm.of_eq (by simp only [List.append_assoc, List.append_nil, List.nil_append])))
    have hD0 : va_D A ((zb_6 G b rf sz ac sp ou) ++ ((zb_r G (b 2) K) ++ zb_r G (b 3) Z)) := zk_Dperm hD (show ((zb_6 G b rf sz ac sp ou) ++ ((zb_r G (b 2) K) ++ zb_r G (b 3) Z)).Perm ((zb_6 G b rf sz ac sp ou) ++ ((zb_r G (b 2) K) ++ zb_r G (b 3) Z)) from (show ((zb_6 G b rf sz ac sp ou) ++ ((zb_r G (b 2) K) ++ zb_r G (b 3) Z)).Perm ((zb_6 G b rf sz ac sp ou) ++ ((zb_r G (b 2) K) ++ zb_r G (b 3) Z)) from List.Perm.refl _).trans (List.Perm.of_eq (by simp only [List.append_assoc, List.append_nil, List.nil_append])))
    refine zk_callI (wr := (zb_r G (b 2) K) ++ zb_r G (b 3) Z) (va_runV (As := [.int (nI 0)]) (rest := []) ⟨hx, hb, hml, hown, hts⟩ (c_X6_refused l G b rf sz ac sp ou (nI 0) _) (cwV 1 hts gX6_refusedOn_X6_refused rfl rfl rfl (by decide +kernel) ⟨Nat.le_of_ble_eq_true rfl, Nat.le_of_ble_eq_true rfl⟩) (zk_preV hE hA0 hS (zk_Papp hP0).1 (zk_Dapp hD0).1 (va_recv hK hP0 (ci := 5) (q0 := 0) rfl rfl)) rfl rfl hl.1 rfl (lv_room (Nat.le_of_ble_eq_true rfl)) dX6_refusedOn_17 ⟨Nat.le_of_ble_eq_true rfl, Nat.le_of_ble_eq_true rfl⟩) hP0 hD0 hS hA (fun r8 u9 H locs q10 hP hD hS => ?_)
    subst q10
    have hP : va_P G.1 vwCl ((zb_6 G b (nI 0) sz ac sp ou) ++ ((zb_r G (b 2) K) ++ zb_r G (b 3) Z)) H := zk_Pperm hP (show ((zb_6 G b (nI 0) sz ac sp ou) ++ ((zb_r G (b 2) K) ++ zb_r G (b 3) Z)).Perm ((zb_6 G b (nI 0) sz ac sp ou) ++ ((zb_r G (b 2) K) ++ zb_r G (b 3) Z)) from (show ((zb_6 G b (nI 0) sz ac sp ou) ++ ((zb_r G (b 2) K) ++ zb_r G (b 3) Z)).Perm ((zb_6 G b (nI 0) sz ac sp ou) ++ ((zb_r G (b 2) K) ++ zb_r G (b 3) Z)) from List.Perm.refl _).trans (List.Perm.of_eq (by simp only [List.append_assoc, List.append_nil, List.nil_append]))).symm
    have hD : va_D A ((zb_6 G b (nI 0) sz ac sp ou) ++ ((zb_r G (b 2) K) ++ zb_r G (b 3) Z)) := zk_Dperm hD (show ((zb_6 G b (nI 0) sz ac sp ou) ++ ((zb_r G (b 2) K) ++ zb_r G (b 3) Z)).Perm ((zb_6 G b (nI 0) sz ac sp ou) ++ ((zb_r G (b 2) K) ++ zb_r G (b 3) Z)) from (show ((zb_6 G b (nI 0) sz ac sp ou) ++ ((zb_r G (b 2) K) ++ zb_r G (b 3) Z)).Perm ((zb_6 G b (nI 0) sz ac sp ou) ++ ((zb_r G (b 2) K) ++ zb_r G (b 3) Z)) from List.Perm.refl _).trans (List.Perm.of_eq (by simp only [List.append_assoc, List.append_nil, List.nil_append]))).symm
    refine zk_top (show (if 0 < (nI 0) then nI 1 else nI 0) = nI 0 by decide) ?_
    refine lv_if_eq (tgt := 25) hx hb dX6_refusedOn_20 (by decide) (fun _ => ?_) (fun z => absurd (by decide) z)
    obtain ⟨ck, hck, eck⟩ := sHas_nat hI h9_3
    subst eck
    have nck := nI_clamp (show ck < 2 ^ 31 by omega)
    refine lv_aload_n hx hb dX6_refusedOn_25 rfl (lv_at hl 0 rfl) ?_
    refine va_get (D := G.1) (ci := 5) (v := .ref (b 2)) (C := RX6) (T := TX6) (N := 11) hx hb hts (fun _ h => List.mem_cons_of_mem _ (List.mem_append_right _ h)) hown hK hP 0 rfl rfl 3 (by decide) w1 (fun _ h9 => h9) rfl dX6_refusedOn_26 ?_
    refine lv_iconst (v := nI 0) hx hb dX6_refusedOn_29 (by decide) ?_
    refine lv_aload_n hx hb dX6_refusedOn_30 rfl (lv_at hl 0 rfl) ?_
    refine va_get (D := G.1) (ci := 5) (v := .ref (b 3)) (C := RX6) (T := TX6) (N := 11) hx hb hts (fun _ h => List.mem_cons_of_mem _ (List.mem_append_right _ h)) hown hK hP 0 rfl rfl 4 (by decide) w2 (fun _ h9 => h9) rfl dX6_refusedOn_31 ?_
    refine lv_iconst (v := nI 0) hx hb dX6_refusedOn_34 (by decide) ?_
    have hP0 : va_P G.1 vwCl ((zb_r G (b 2) K ++ zb_r G (b 3) Z) ++ (zb_6 G b (nI 0) sz ac sp ou)) H := zk_Pperm hP (show ((zb_6 G b (nI 0) sz ac sp ou) ++ ((zb_r G (b 2) K) ++ zb_r G (b 3) Z)).Perm ((zb_r G (b 2) K ++ zb_r G (b 3) Z) ++ (zb_6 G b (nI 0) sz ac sp ou)) from (show ((zb_6 G b (nI 0) sz ac sp ou) ++ ((zb_r G (b 2) K) ++ zb_r G (b 3) Z)).Perm ((zb_r G (b 2) K) ++ ((zb_r G (b 3) Z) ++ zb_6 G b (nI 0) sz ac sp ou)) from (((List.Perm.append_left _ List.perm_append_comm).trans (List.perm_append_comm_assoc _ _ _))).trans ((List.Perm.append_left _ List.perm_append_comm).trans (List.perm_append_comm_assoc _ _ _))).trans (List.Perm.of_eq (by simp only [List.append_assoc, List.append_nil, List.nil_append])))
    have hD0 : va_D A ((zb_r G (b 2) K ++ zb_r G (b 3) Z) ++ (zb_6 G b (nI 0) sz ac sp ou)) := zk_Dperm hD (show ((zb_6 G b (nI 0) sz ac sp ou) ++ ((zb_r G (b 2) K) ++ zb_r G (b 3) Z)).Perm ((zb_r G (b 2) K ++ zb_r G (b 3) Z) ++ (zb_6 G b (nI 0) sz ac sp ou)) from (show ((zb_6 G b (nI 0) sz ac sp ou) ++ ((zb_r G (b 2) K) ++ zb_r G (b 3) Z)).Perm ((zb_r G (b 2) K) ++ ((zb_r G (b 3) Z) ++ zb_6 G b (nI 0) sz ac sp ou)) from (((List.Perm.append_left _ List.perm_append_comm).trans (List.perm_append_comm_assoc _ _ _))).trans ((List.Perm.append_left _ List.perm_append_comm).trans (List.perm_append_comm_assoc _ _ _))).trans (List.Perm.of_eq (by simp only [List.append_assoc, List.append_nil, List.nil_append])))
    refine zk_callV (wr := zb_6 G b (nI 0) sz ac sp ou) (va_runS (As := [.ref (b 2), .int (nI 0), .ref (b 3), .int (nI 0)]) (rest := []) ⟨hx, hb, hml, hown, hts⟩ (c_X6_copyTerm l G (b 2) 1555 0 (b 3) 1555 0 (zrow K) (zrow Z) (by omega) (by omega) (by decide) (by decide) _) (cwS 4 hts gX6_refusedOn_X6_copyTerm rfl rfl rfl (by decide +kernel) ⟨Nat.le_of_ble_eq_true rfl, Nat.le_of_ble_eq_true rfl⟩) (zk_preS hE hA0 hS (zk_Papp hP0).1 (zk_Dapp hD0).1) rfl rfl hl.1 rfl (lv_room (Nat.le_of_ble_eq_true rfl)) dX6_refusedOn_35 ⟨Nat.le_of_ble_eq_true rfl, Nat.le_of_ble_eq_true rfl⟩) hP0 hD0 hS hA (fun u12 H locs q13 hP hD hS => ?_)
    subst q13
    obtain ⟨hP, hD⟩ := zk_cong (q0 := 1) (g := zrow K) hP hD rfl (kcp_rr K _)
    have hP : va_P G.1 vwCl ((zb_r G (b 2) K ++ zb_r G (b 3) K) ++ (zb_6 G b (nI 0) sz ac sp ou)) H := hP
    have hD : va_D A ((zb_r G (b 2) K ++ zb_r G (b 3) K) ++ (zb_6 G b (nI 0) sz ac sp ou)) := hD
    have hP : va_P G.1 vwCl ((zb_6 G b (nI 0) sz ac sp ou) ++ ((zb_r G (b 2) K) ++ zb_r G (b 3) K)) H := zk_Pperm hP (show ((zb_6 G b (nI 0) sz ac sp ou) ++ ((zb_r G (b 2) K) ++ zb_r G (b 3) K)).Perm ((zb_r G (b 2) K ++ zb_r G (b 3) K) ++ (zb_6 G b (nI 0) sz ac sp ou)) from (show ((zb_6 G b (nI 0) sz ac sp ou) ++ ((zb_r G (b 2) K) ++ zb_r G (b 3) K)).Perm ((zb_r G (b 2) K) ++ ((zb_r G (b 3) K) ++ zb_6 G b (nI 0) sz ac sp ou)) from (((List.Perm.append_left _ List.perm_append_comm).trans (List.perm_append_comm_assoc _ _ _))).trans ((List.Perm.append_left _ List.perm_append_comm).trans (List.perm_append_comm_assoc _ _ _))).trans (List.Perm.of_eq (by simp only [List.append_assoc, List.append_nil, List.nil_append]))).symm
    have hD : va_D A ((zb_6 G b (nI 0) sz ac sp ou) ++ ((zb_r G (b 2) K) ++ zb_r G (b 3) K)) := zk_Dperm hD (show ((zb_6 G b (nI 0) sz ac sp ou) ++ ((zb_r G (b 2) K) ++ zb_r G (b 3) K)).Perm ((zb_r G (b 2) K ++ zb_r G (b 3) K) ++ (zb_6 G b (nI 0) sz ac sp ou)) from (show ((zb_6 G b (nI 0) sz ac sp ou) ++ ((zb_r G (b 2) K) ++ zb_r G (b 3) K)).Perm ((zb_r G (b 2) K) ++ ((zb_r G (b 3) K) ++ zb_6 G b (nI 0) sz ac sp ou)) from (((List.Perm.append_left _ List.perm_append_comm).trans (List.perm_append_comm_assoc _ _ _))).trans ((List.Perm.append_left _ List.perm_append_comm).trans (List.perm_append_comm_assoc _ _ _))).trans (List.Perm.of_eq (by simp only [List.append_assoc, List.append_nil, List.nil_append]))).symm
    refine lv_aload_n hx hb dX6_refusedOn_38 rfl (lv_at hl 0 rfl) ?_
    have hP0 : va_P G.1 vwCl ((zb_6 G b (nI 0) sz ac sp ou ++ zb_r G (b 3) K) ++ (zb_r G (b 2) K)) H := zk_Pperm hP (show ((zb_6 G b (nI 0) sz ac sp ou) ++ ((zb_r G (b 2) K) ++ zb_r G (b 3) K)).Perm ((zb_6 G b (nI 0) sz ac sp ou ++ zb_r G (b 3) K) ++ (zb_r G (b 2) K)) from (show ((zb_6 G b (nI 0) sz ac sp ou) ++ ((zb_r G (b 2) K) ++ zb_r G (b 3) K)).Perm ((zb_6 G b (nI 0) sz ac sp ou) ++ ((zb_r G (b 3) K) ++ zb_r G (b 2) K)) from (((List.Perm.append_left _ List.perm_append_comm).trans (List.perm_append_comm_assoc _ _ _))).trans (List.perm_append_comm_assoc _ _ _)).trans (List.Perm.of_eq (by simp only [List.append_assoc, List.append_nil, List.nil_append])))
    have hD0 : va_D A ((zb_6 G b (nI 0) sz ac sp ou ++ zb_r G (b 3) K) ++ (zb_r G (b 2) K)) := zk_Dperm hD (show ((zb_6 G b (nI 0) sz ac sp ou) ++ ((zb_r G (b 2) K) ++ zb_r G (b 3) K)).Perm ((zb_6 G b (nI 0) sz ac sp ou ++ zb_r G (b 3) K) ++ (zb_r G (b 2) K)) from (show ((zb_6 G b (nI 0) sz ac sp ou) ++ ((zb_r G (b 2) K) ++ zb_r G (b 3) K)).Perm ((zb_6 G b (nI 0) sz ac sp ou) ++ ((zb_r G (b 3) K) ++ zb_r G (b 2) K)) from (((List.Perm.append_left _ List.perm_append_comm).trans (List.perm_append_comm_assoc _ _ _))).trans (List.perm_append_comm_assoc _ _ _)).trans (List.Perm.of_eq (by simp only [List.append_assoc, List.append_nil, List.nil_append])))
    refine zk_callI (wr := zb_r G (b 2) K) (va_runV (As := []) (rest := []) ⟨hx, hb, hml, hown, hts⟩ (c_X6_goOn l G b (nI 0) sz ac sp ou K n t hI hp0 _) (cwV 0 hts gX6_refusedOn_X6_goOn rfl rfl rfl (by decide +kernel) ⟨Nat.le_of_ble_eq_true rfl, Nat.le_of_ble_eq_true rfl⟩) (zk_preV hE hA0 hS (zk_Papp hP0).1 (zk_Dapp hD0).1 (va_recv hK hP0 (ci := 5) (q0 := 0) rfl rfl)) rfl rfl hl.1 rfl (lv_room (Nat.le_of_ble_eq_true rfl)) dX6_refusedOn_39 ⟨Nat.le_of_ble_eq_true rfl, Nat.le_of_ble_eq_true rfl⟩) hP0 hD0 hS hA (fun r14 u15 H locs q16 hP hD hS => ?_)
    obtain ⟨er14, eL17⟩ := q16
    have hI18 : sInv u15 n (t + (40 - t)) := by rw [eL17]; exact sInv_kDays hI _ (by omega)
    have hP : va_P G.1 vwCl ((zb_6 G b (nI 0) sz ac sp ou) ++ ((zb_r G (b 2) K) ++ zb_r G (b 3) u15)) H := zk_Pperm hP (show ((zb_6 G b (nI 0) sz ac sp ou) ++ ((zb_r G (b 2) K) ++ zb_r G (b 3) u15)).Perm ((zb_6 G b (nI 0) sz ac sp ou ++ zb_r G (b 3) u15) ++ (zb_r G (b 2) K)) from (show ((zb_6 G b (nI 0) sz ac sp ou) ++ ((zb_r G (b 2) K) ++ zb_r G (b 3) u15)).Perm ((zb_6 G b (nI 0) sz ac sp ou) ++ ((zb_r G (b 3) u15) ++ zb_r G (b 2) K)) from (((List.Perm.append_left _ List.perm_append_comm).trans (List.perm_append_comm_assoc _ _ _))).trans (List.perm_append_comm_assoc _ _ _)).trans (List.Perm.of_eq (by simp only [List.append_assoc, List.append_nil, List.nil_append]))).symm
    have hD : va_D A ((zb_6 G b (nI 0) sz ac sp ou) ++ ((zb_r G (b 2) K) ++ zb_r G (b 3) u15)) := zk_Dperm hD (show ((zb_6 G b (nI 0) sz ac sp ou) ++ ((zb_r G (b 2) K) ++ zb_r G (b 3) u15)).Perm ((zb_6 G b (nI 0) sz ac sp ou ++ zb_r G (b 3) u15) ++ (zb_r G (b 2) K)) from (show ((zb_6 G b (nI 0) sz ac sp ou) ++ ((zb_r G (b 2) K) ++ zb_r G (b 3) u15)).Perm ((zb_6 G b (nI 0) sz ac sp ou) ++ ((zb_r G (b 3) u15) ++ zb_r G (b 2) K)) from (((List.Perm.append_left _ List.perm_append_comm).trans (List.perm_append_comm_assoc _ _ _))).trans (List.perm_append_comm_assoc _ _ _)).trans (List.Perm.of_eq (by simp only [List.append_assoc, List.append_nil, List.nil_append]))).symm
    refine lv_pop hx hb dX6_refusedOn_42 rfl ?_
    refine lv_aload_n hx hb dX6_refusedOn_43 rfl (lv_at hl 0 rfl) ?_
    refine va_get (D := G.1) (ci := 5) (v := .ref (b 2)) (C := RX6) (T := TX6) (N := 11) hx hb hts (fun _ h => List.mem_cons_of_mem _ (List.mem_append_right _ h)) hown hK hP 0 rfl rfl 3 (by decide) w1 (fun _ h9 => h9) rfl dX6_refusedOn_44 ?_
    refine lv_iconst (v := nI 0) hx hb dX6_refusedOn_47 (by decide) ?_
    refine zk_ialdN hx hb hK hP 1 0 rfl rfl (k := 0) (n := 1555) (by omega) (by omega) dX6_refusedOn_48 ?_
    refine zk_top (zrow_l K (c := 0) (by omega)) ?_
    refine zk_top hI.2.2.1 ?_
    refine lv_istore_n (lv' := [(2, .int (nI t)), (0, .ref (b 0)), (1, .int (nI ck))]) hx hb dX6_refusedOn_49 rfl hl (by decide) rfl (fun ls hl => ?_)
    have lp19 : ∀ (n21 : Nat) (d : Nat) (V : zL), 40 - d < n21 → (d ≤ 40) → (t ≤ d) → (V = kEnd K n t) → (∀ e, t ≤ e → e < d → ¬ V 9 (ck * 40 + e) = nI 4) → ∀ (H : Heap) (locs : List Loc) (hP : va_P G.1 vwCl ((zb_6 G b (nI 0) sz ac sp ou) ++ ((zb_r G (b 2) K) ++ zb_r G (b 3) V)) H) (hD : va_D A ((zb_6 G b (nI 0) sz ac sp ou) ++ ((zb_r G (b 2) K) ++ zb_r G (b 3) V))) (hS : va_S A s.heap H locs) (ls : Array Slot), lv_has ls 3 [(2, .int (nI d)), (0, .ref (b 0)), (1, .int (nI ck))] → W p l E0 rmX6_refusedOn s m args below meth cd H locs 0 0 Q (F0 m 50 ls []) := by
      intro n21
      induction n21 with
      | zero => intro d V hz; exact absurd hz (Nat.not_lt_zero _)
      | succ n21 ih20 =>
        intro d V hm hd htd heU hno H locs hP hD hS ls hl
        refine lv_iload_n hx hb dX6_refusedOn_50 rfl (lv_at hl 0 rfl) ?_
        refine lv_bipush (v := nI 40) hx hb dX6_refusedOn_51 (by decide) ?_
        refine lv_icmp_ge (tgt := 81) hx hb dX6_refusedOn_53 (by decide) (fun h53_21 => ?_) (fun h53_21 => ?_)
        · have h53_21 := zk_le (by omega) (by omega) h53_21
          refine lv_iconst (v := -1) hx hb dX6_refusedOn_81 (by decide) ?_
          exact zk_reti (nI 0, V) hQ hx hb hr hlocks hS hP hD (Nat.le_of_ble_eq_true rfl) (Nat.le_of_ble_eq_true rfl) dX6_refusedOn_82 (Or.inl ⟨h9_3, rfl, Or.inr ⟨rfl, by rw [nck, ← heU]; exact fun e h1 h2 => hno e h1 (by omega)⟩⟩)
        · have h53_21 := zk_nle (by omega) (by omega) h53_21
          refine lv_aload_n hx hb dX6_refusedOn_56 rfl (lv_at hl 1 rfl) ?_
          refine va_get (D := G.1) (ci := 5) (v := .ref (b 3)) (C := RX6) (T := TX6) (N := 11) hx hb hts (fun _ h => List.mem_cons_of_mem _ (List.mem_append_right _ h)) hown hK hP 0 rfl rfl 4 (by decide) w2 (fun _ h9 => h9) rfl dX6_refusedOn_57 ?_
          refine lv_bipush (v := nI 115) hx hb dX6_refusedOn_60 (by decide) ?_
          refine lv_iload_n hx hb dX6_refusedOn_62 rfl (lv_at hl 2 rfl) ?_
          refine lv_iload_n hx hb dX6_refusedOn_63 rfl (lv_at hl 0 rfl) ?_
          have hP0 : va_P G.1 vwCl (([] : va_W) ++ ((zb_6 G b (nI 0) sz ac sp ou) ++ ((zb_r G (b 2) K) ++ zb_r G (b 3) V))) H := hP
          have hD0 : va_D A (([] : va_W) ++ ((zb_6 G b (nI 0) sz ac sp ou) ++ ((zb_r G (b 2) K) ++ zb_r G (b 3) V))) := hD
          refine zk_callI (wr := (zb_6 G b (nI 0) sz ac sp ou) ++ ((zb_r G (b 2) K) ++ zb_r G (b 3) V)) (va_runS (As := [.int (nI ck), .int (nI d)]) (rest := [.int (nI 115), .ref (b 3)]) ⟨hx, hb, hml, hown, hts⟩ (c_X6_at l G ck d _) (cwS 2 hts gX6_refusedOn_X6_at rfl rfl rfl (by decide +kernel) ⟨Nat.le_of_ble_eq_true rfl, Nat.le_of_ble_eq_true rfl⟩) (zk_preS hE hA0 hS (zk_Papp hP0).1 (zk_Dapp hD0).1) rfl rfl hl.1 rfl (lv_room (Nat.le_of_ble_eq_true rfl)) dX6_refusedOn_64 ⟨Nat.le_of_ble_eq_true rfl, Nat.le_of_ble_eq_true rfl⟩) hP0 hD0 hS hA (fun r23 u24 H locs q25 hP hD hS => ?_)
          subst q25
          have hP : va_P G.1 vwCl ((zb_6 G b (nI 0) sz ac sp ou) ++ ((zb_r G (b 2) K) ++ zb_r G (b 3) V)) H := hP
          have hD : va_D A ((zb_6 G b (nI 0) sz ac sp ou) ++ ((zb_r G (b 2) K) ++ zb_r G (b 3) V)) := hD
          refine zk_iaddN hx hb dX6_refusedOn_67 ?_
          refine zk_ialdN hx hb hK hP 2 0 rfl rfl (k := (115 + (ck * 40 + d))) (n := 1555) (by omega) (by omega) dX6_refusedOn_68 ?_
          refine zk_top (zrow_9 V (c := ck * 40 + d) (by omega)) ?_
          refine lv_iconst (v := nI 4) hx hb dX6_refusedOn_69 (by decide) ?_
          refine lv_icmp_ne (tgt := 75) hx hb dX6_refusedOn_70 (by decide) (fun h70_25 => ?_) (fun h70_25 => ?_)
          · refine lv_iinc (v := nI (d + 1)) (lv' := [(2, .int (nI (d + 1))), (0, .ref (b 0)), (1, .int (nI ck))]) hx hb dX6_refusedOn_75 hl (k := 0) rfl (zk_inc d 1) (by decide) rfl (fun ls hl => ?_)
            refine lv_goto (tgt := 50) hx hb dX6_refusedOn_78 (by decide) ?_
            exact ih20 (d + 1) V (by omega) (by omega) (by omega) (heU) (fun e h1 h2 => by by_cases z : e = d; (subst z; exact h70_25); exact hno e h1 (by omega)) _ _ hP hD hS ls (lv_sub hl [0, 1, 2] rfl)
          · refine lv_iload_n hx hb dX6_refusedOn_73 rfl (lv_at hl 0 rfl) ?_
            exact zk_reti (nI 0, V) hQ hx hb hr hlocks hS hP hD (Nat.le_of_ble_eq_true rfl) (Nat.le_of_ble_eq_true rfl) dX6_refusedOn_74 (Or.inl ⟨h9_3, rfl, Or.inl ⟨d, htd, by omega, rfl, by rw [nck, ← heU]; exact ⟨h70_25, hno⟩⟩⟩)
    exact lp19 _ t u15 (Nat.lt_succ_self _) (by omega) (by omega) (eL17) (fun e h1 h2 => by omega) _ _ hP hD hS ls (lv_sub hl [0, 1, 2] rfl)

abbrev rmX6_refusedOf : Room := { frames := 2, cells := 0, slots := 0, locals := 48 }
set_option maxHeartbeats 4000000 in
set_option maxRecDepth 100000 in
/-- the refused meals of a family -/
theorem c_X6_refusedOf (l : Launch) (G : zk_G) (b : Nat → Nat) (rf sz ac sp ou : Int32) (K : zL) (n t : Nat) (hI : sInv K n t) (f : Int32) : zk_I (S := Unit) l yX6_refusedOf wsX6_refusedOf rmX6_refusedOf G [.ref (b 0), .int f] ((zb_6 G b rf sz ac sp ou) ++ zb_r G (b 3) K) (fun r _ => r = kRefOf K n f) (fun _ => zb_6 G b rf sz ac sp ou ++ zb_r G (b 3) K) := by
  refine zk_bodyI (cc := cX6_refusedOf) (maxL := 4) (ret := (some .int)) (by decide) rfl (Nat.le_of_ble_eq_true rfl) ?_
  intro p E0 s m args below meth cd A ls Q hF hQ
  obtain ⟨hx, hb, hml, hr, hts, hown, hlocks, -, hE, hP, hD, hS, hA, hA0, hl⟩ := hF
  have hK := hE.1
  have hl : lv_has ls 4 [(0, .ref (b 0)), (1, .int f)] := hl
  obtain ⟨hn, hn12, ht, ht40, hfam, hpay⟩ := id hI
  have w1 := hts _ (List.mem_of_getElem? (l := wsX6_refusedOf) (i := 1) (a := Cond.fieldLink RX6 16 "MealAccountsModel" "trial" "[I") rfl)
  refine lv_iconst (v := nI 0) hx hb dX6_refusedOf_0 (by decide) ?_
  refine lv_istore_n (lv' := [(2, .int (nI 0)), (0, .ref (b 0)), (1, .int f)]) hx hb dX6_refusedOf_1 rfl hl (by decide) rfl (fun ls hl => ?_)
  refine lv_iconst (v := nI 0) hx hb dX6_refusedOf_2 (by decide) ?_
  refine lv_istore_n (lv' := [(3, .int (nI 0)), (2, .int (nI 0)), (0, .ref (b 0)), (1, .int f)]) hx hb dX6_refusedOf_3 rfl hl (by decide) rfl (fun ls hl => ?_)
  have lp1 : ∀ (n3 : Nat) (i : Nat) (x : Int32), n - i < n3 → (i ≤ n) → (x = zs (fun c => if K 1 c = f then kCnt K n (nI c) (-1) (nI 4) else nI 0) i) → ∀ (H : Heap) (locs : List Loc) (hP : va_P G.1 vwCl ((zb_6 G b rf sz ac sp ou) ++ zb_r G (b 3) K) H) (hD : va_D A ((zb_6 G b rf sz ac sp ou) ++ zb_r G (b 3) K)) (hS : va_S A s.heap H locs) (ls : Array Slot), lv_has ls 4 [(3, .int (nI i)), (2, .int x), (0, .ref (b 0)), (1, .int f)] → W p l E0 rmX6_refusedOf s m args below meth cd H locs 0 0 Q (F0 m 4 ls []) := by
    intro n3
    induction n3 with
    | zero => intro i x hz; exact absurd hz (Nat.not_lt_zero _)
    | succ n3 ih2 =>
      intro i x hm hi hq H locs hP hD hS ls hl
      refine lv_iload_n hx hb dX6_refusedOf_4 rfl (lv_at hl 0 rfl) ?_
      refine lv_aload_n hx hb dX6_refusedOf_5 rfl (lv_at hl 2 rfl) ?_
      refine va_get (D := G.1) (ci := 5) (v := .ref (b 3)) (C := RX6) (T := TX6) (N := 11) hx hb hts (fun _ h => List.mem_cons_of_mem _ (List.mem_append_right _ h)) hown hK hP 0 rfl rfl 4 (by decide) w1 (fun _ h9 => h9) rfl dX6_refusedOf_6 ?_
      refine lv_iconst (v := nI 1) hx hb dX6_refusedOf_9 (by decide) ?_
      refine zk_ialdN hx hb hK hP 1 0 rfl rfl (k := 1) (n := 1555) (by omega) (by omega) dX6_refusedOf_10 ?_
      refine zk_top (zrow_l K (c := 1) (by omega)) ?_
      refine zk_top hI.1 ?_
      refine lv_icmp_ge (tgt := 50) hx hb dX6_refusedOf_11 (by decide) (fun h11_3 => ?_) (fun h11_3 => ?_)
      · have h11_3 := zk_le (by omega) (by omega) h11_3
        refine lv_iload_n hx hb dX6_refusedOf_50 rfl (lv_at hl 1 rfl) ?_
        exact zk_reti () hQ hx hb hr hlocks hS hP hD (Nat.le_of_ble_eq_true rfl) (Nat.le_of_ble_eq_true rfl) dX6_refusedOf_51 (by rw [hq, show i = n by omega]; rfl)
      · have h11_3 := zk_nle (by omega) (by omega) h11_3
        refine lv_iload_n hx hb dX6_refusedOf_14 rfl (lv_at hl 1 rfl) ?_
        refine lv_aload_n hx hb dX6_refusedOf_15 rfl (lv_at hl 2 rfl) ?_
        refine va_get (D := G.1) (ci := 5) (v := .ref (b 3)) (C := RX6) (T := TX6) (N := 11) hx hb hts (fun _ h => List.mem_cons_of_mem _ (List.mem_append_right _ h)) hown hK hP 0 rfl rfl 4 (by decide) w1 (fun _ h9 => h9) rfl dX6_refusedOf_16 ?_
        refine lv_bipush (v := nI 45) hx hb dX6_refusedOf_19 (by decide) ?_
        refine lv_iload_n hx hb dX6_refusedOf_21 rfl (lv_at hl 0 rfl) ?_
        refine zk_iaddN hx hb dX6_refusedOf_22 ?_
        refine zk_ialdN hx hb hK hP 1 0 rfl rfl (k := (45 + i)) (n := 1555) (by omega) (by omega) dX6_refusedOf_23 ?_
        refine zk_top (zrow_1 K (c := i) (by omega)) ?_
        refine lv_iload_n hx hb dX6_refusedOf_24 rfl (lv_at hl 3 rfl) ?_
        refine lv_icmp_ne (tgt := 41) hx hb dX6_refusedOf_25 (by decide) (fun h25_4 => ?_) (fun h25_4 => ?_)
        · refine lv_iconst (v := nI 0) hx hb dX6_refusedOf_41 (by decide) ?_
          refine lv_iadd hx hb dX6_refusedOf_42 ?_
          refine lv_topi (fun x6 ex6 => ?_)
          refine lv_istore_n (lv' := [(2, .int x6), (3, .int (nI i)), (0, .ref (b 0)), (1, .int f)]) hx hb dX6_refusedOf_43 rfl hl (by decide) rfl (fun ls hl => ?_)
          refine lv_iinc (v := nI (i + 1)) (lv' := [(3, .int (nI (i + 1))), (2, .int x6), (0, .ref (b 0)), (1, .int f)]) hx hb dX6_refusedOf_44 hl (k := 1) rfl (zk_inc i 1) (by decide) rfl (fun ls hl => ?_)
          refine lv_goto (tgt := 4) hx hb dX6_refusedOf_47 (by decide) ?_
          exact ih2 (i + 1) x6 (by omega) (by omega) (by refine zs_i hq ?_; simp +decide [zk_a0, h11_3, h25_4, ex6]) _ _ hP hD hS ls (lv_sub hl [0, 1, 2, 3] rfl)
        · refine lv_aload_n hx hb dX6_refusedOf_28 rfl (lv_at hl 2 rfl) ?_
          refine va_get (D := G.1) (ci := 5) (v := .ref (b 3)) (C := RX6) (T := TX6) (N := 11) hx hb hts (fun _ h => List.mem_cons_of_mem _ (List.mem_append_right _ h)) hown hK hP 0 rfl rfl 4 (by decide) w1 (fun _ h9 => h9) rfl dX6_refusedOf_29 ?_
          refine lv_iload_n hx hb dX6_refusedOf_32 rfl (lv_at hl 0 rfl) ?_
          refine lv_iconst (v := -1) hx hb dX6_refusedOf_33 (by decide) ?_
          refine lv_iconst (v := nI 4) hx hb dX6_refusedOf_34 (by decide) ?_
          have hP0 : va_P G.1 vwCl ((zb_r G (b 3) K) ++ (zb_6 G b rf sz ac sp ou)) H := zk_Pperm hP (show ((zb_6 G b rf sz ac sp ou) ++ zb_r G (b 3) K).Perm ((zb_r G (b 3) K) ++ (zb_6 G b rf sz ac sp ou)) from (show ((zb_6 G b rf sz ac sp ou) ++ zb_r G (b 3) K).Perm ((zb_r G (b 3) K) ++ zb_6 G b rf sz ac sp ou) from List.perm_append_comm).trans (List.Perm.of_eq (by simp only [List.append_assoc, List.append_nil, List.nil_append])))
          have hD0 : va_D A ((zb_r G (b 3) K) ++ (zb_6 G b rf sz ac sp ou)) := zk_Dperm hD (show ((zb_6 G b rf sz ac sp ou) ++ zb_r G (b 3) K).Perm ((zb_r G (b 3) K) ++ (zb_6 G b rf sz ac sp ou)) from (show ((zb_6 G b rf sz ac sp ou) ++ zb_r G (b 3) K).Perm ((zb_r G (b 3) K) ++ zb_6 G b rf sz ac sp ou) from List.perm_append_comm).trans (List.Perm.of_eq (by simp only [List.append_assoc, List.append_nil, List.nil_append])))
          refine zk_callI (wr := zb_6 G b rf sz ac sp ou) (va_runS (As := [.ref (b 3), .int (nI i), .int (-1), .int (nI 4)]) (rest := [.int x]) ⟨hx, hb, hml, hown, hts⟩ (c_X6_count l G (b 3) K n t hI (nI i) (-1) (nI 4) _) (cwS 4 hts gX6_refusedOf_X6_count rfl rfl rfl (by decide +kernel) ⟨Nat.le_of_ble_eq_true rfl, Nat.le_of_ble_eq_true rfl⟩) (zk_preS hE hA0 hS (zk_Papp hP0).1 (zk_Dapp hD0).1) rfl rfl hl.1 rfl (lv_room (Nat.le_of_ble_eq_true rfl)) dX6_refusedOf_35 ⟨Nat.le_of_ble_eq_true rfl, Nat.le_of_ble_eq_true rfl⟩) hP0 hD0 hS hA (fun r7 u8 H locs q9 hP hD hS => ?_)
          subst q9
          have hP : va_P G.1 vwCl ((zb_6 G b rf sz ac sp ou) ++ zb_r G (b 3) K) H := zk_Pperm hP (show ((zb_6 G b rf sz ac sp ou) ++ zb_r G (b 3) K).Perm ((zb_r G (b 3) K) ++ (zb_6 G b rf sz ac sp ou)) from (show ((zb_6 G b rf sz ac sp ou) ++ zb_r G (b 3) K).Perm ((zb_r G (b 3) K) ++ zb_6 G b rf sz ac sp ou) from List.perm_append_comm).trans (List.Perm.of_eq (by simp only [List.append_assoc, List.append_nil, List.nil_append]))).symm
          have hD : va_D A ((zb_6 G b rf sz ac sp ou) ++ zb_r G (b 3) K) := zk_Dperm hD (show ((zb_6 G b rf sz ac sp ou) ++ zb_r G (b 3) K).Perm ((zb_r G (b 3) K) ++ (zb_6 G b rf sz ac sp ou)) from (show ((zb_6 G b rf sz ac sp ou) ++ zb_r G (b 3) K).Perm ((zb_r G (b 3) K) ++ zb_6 G b rf sz ac sp ou) from List.perm_append_comm).trans (List.Perm.of_eq (by simp only [List.append_assoc, List.append_nil, List.nil_append]))).symm
          refine lv_goto (tgt := 42) hx hb dX6_refusedOf_38 (by decide) ?_
          refine lv_iadd hx hb dX6_refusedOf_42 ?_
          refine lv_topi (fun x10 ex10 => ?_)
          refine lv_istore_n (lv' := [(2, .int x10), (3, .int (nI i)), (0, .ref (b 0)), (1, .int f)]) hx hb dX6_refusedOf_43 rfl hl (by decide) rfl (fun ls hl => ?_)
          refine lv_iinc (v := nI (i + 1)) (lv' := [(3, .int (nI (i + 1))), (2, .int x10), (0, .ref (b 0)), (1, .int f)]) hx hb dX6_refusedOf_44 hl (k := 1) rfl (zk_inc i 1) (by decide) rfl (fun ls hl => ?_)
          refine lv_goto (tgt := 4) hx hb dX6_refusedOf_47 (by decide) ?_
          exact ih2 (i + 1) x10 (by omega) (by omega) (by refine zs_i hq ?_; simp +decide [zk_a0, h11_3, h25_4, ex10]) _ _ hP hD hS ls (lv_sub hl [0, 1, 2, 3] rfl)
  exact lp1 _ 0 (nI 0) (Nat.lt_succ_self _) (by omega) (rfl) _ _ hP hD hS ls (lv_sub hl [0, 1, 2, 3] rfl)

abbrev rmX6_needs : Room := { frames := 5, cells := 0, slots := 0, locals := 116 }
set_option maxHeartbeats 4000000 in
set_option maxRecDepth 100000 in
/-- what a family needs -/
theorem c_X6_needs (l : Launch) (G : zk_G) (b : Nat → Nat) (rf sz ac sp ou : Int32) (K : zL) (n t : Nat) (hI : sInv K n t) (hp0 : ¬ K 0 2 < nI 1) (Z : zL) (f : Int32) : zk_I (S := Int32 × zL) l yX6_needs wsX6_needs rmX6_needs G [.ref (b 0), .int f] ((zb_6 G b rf sz ac sp ou) ++ ((zb_r G (b 2) K) ++ zb_r G (b 3) Z)) (fun r u => (sFam f ∧ u.1 = 0 ∧ ((∃ lo, lo < n ∧ K 1 lo = f ∧ (∀ j, j < lo → ¬ K 1 j = f) ∧ ((∃ k, k ≤ 200 ∧ r = nI (100 * k) ∧ kTry K n t f lo k ∧ ∀ j, j < k → ¬ kTry K n t f lo j) ∨ (r = -1 ∧ ∀ j, j < 201 → ¬ kTry K n t f lo j))) ∨ (r = -1 ∧ ∀ j, j < n → ¬ K 1 j = f))) ∨ (¬ sFam f ∧ u.1 = nI 1)) (fun u => zb_6 G b u.1 sz ac sp ou ++ (zb_r G (b 2) K ++ zb_r G (b 3) u.2)) := by
  refine zk_bodyI (cc := cX6_needs) (maxL := 5) (ret := (some .int)) (by decide) rfl (Nat.le_of_ble_eq_true rfl) ?_
  intro p E0 s m args below meth cd A ls Q hF hQ
  obtain ⟨hx, hb, hml, hr, hts, hown, hlocks, -, hE, hP, hD, hS, hA, hA0, hl⟩ := hF
  have hK := hE.1
  have hl : lv_has ls 5 [(0, .ref (b 0)), (1, .int f)] := hl
  obtain ⟨hn, hn12, ht, ht40, hfam, hpay⟩ := id hI
  have w1 := hts _ (List.mem_of_getElem? (l := wsX6_needs) (i := 1) (a := Cond.fieldLink RX6 13 "MealAccountsModel" "now" "[I") rfl)
  have w2 := hts _ (List.mem_of_getElem? (l := wsX6_needs) (i := 2) (a := Cond.fieldLink RX6 16 "MealAccountsModel" "trial" "[I") rfl)
  refine lv_aload_n hx hb dX6_needs_0 rfl (lv_at hl 0 rfl) ?_
  refine lv_iload_n hx hb dX6_needs_1 rfl (lv_at hl 1 rfl) ?_
  have hP0 : va_P G.1 vwCl (([] : va_W) ++ ((zb_6 G b rf sz ac sp ou) ++ ((zb_r G (b 2) K) ++ zb_r G (b 3) Z))) s.heap := hP
  have hD0 : va_D A (([] : va_W) ++ ((zb_6 G b rf sz ac sp ou) ++ ((zb_r G (b 2) K) ++ zb_r G (b 3) Z))) := hD
  refine zk_callI (wr := (zb_6 G b rf sz ac sp ou) ++ ((zb_r G (b 2) K) ++ zb_r G (b 3) Z)) (va_runS (As := [.int f]) (rest := [.ref (b 0)]) ⟨hx, hb, hml, hown, hts⟩ (c_X6_isFamily l G f _) (cwS 1 hts gX6_needs_X6_isFamily rfl rfl rfl (by decide +kernel) ⟨Nat.le_of_ble_eq_true rfl, Nat.le_of_ble_eq_true rfl⟩) (zk_preS hE hA0 hS (zk_Papp hP0).1 (zk_Dapp hD0).1) rfl rfl hl.1 rfl (lv_room (Nat.le_of_ble_eq_true rfl)) dX6_needs_2 ⟨Nat.le_of_ble_eq_true rfl, Nat.le_of_ble_eq_true rfl⟩) hP0 hD0 hS hA (fun r1 u2 H locs q3 hP hD hS => ?_)
  subst q3
  have hP : va_P G.1 vwCl ((zb_6 G b rf sz ac sp ou) ++ ((zb_r G (b 2) K) ++ zb_r G (b 3) Z)) H := hP
  have hD : va_D A ((zb_6 G b rf sz ac sp ou) ++ ((zb_r G (b 2) K) ++ zb_r G (b 3) Z)) := hD
  refine lv_if_eq (tgt := 12) hx hb dX6_needs_5 (by decide) (fun h5_3 => ?_) (fun h5_3 => ?_)
  · have h5_3 := zk_b0 h5_3
    refine lv_iconst (v := nI 1) hx hb dX6_needs_12 (by decide) ?_
    have hP0 : va_P G.1 vwCl ((zb_6 G b rf sz ac sp ou) ++ ((zb_r G (b 2) K) ++ zb_r G (b 3) Z)) H := zk_Pperm hP (show ((zb_6 G b rf sz ac sp ou) ++ ((zb_r G (b 2) K) ++ zb_r G (b 3) Z)).Perm ((zb_6 G b rf sz ac sp ou) ++ ((zb_r G (b 2) K) ++ zb_r G (b 3) Z)) from (show ((zb_6 G b rf sz ac sp ou) ++ ((zb_r G (b 2) K) ++ zb_r G (b 3) Z)).Perm ((zb_6 G b rf sz ac sp ou) ++ ((zb_r G (b 2) K) ++ zb_r G (b 3) Z)) from List.Perm.refl _).trans (List.Perm.of_eq (by simp only [List.append_assoc, List.append_nil, List.nil_append])))
    have hD0 : va_D A ((zb_6 G b rf sz ac sp ou) ++ ((zb_r G (b 2) K) ++ zb_r G (b 3) Z)) := zk_Dperm hD (show ((zb_6 G b rf sz ac sp ou) ++ ((zb_r G (b 2) K) ++ zb_r G (b 3) Z)).Perm ((zb_6 G b rf sz ac sp ou) ++ ((zb_r G (b 2) K) ++ zb_r G (b 3) Z)) from (show ((zb_6 G b rf sz ac sp ou) ++ ((zb_r G (b 2) K) ++ zb_r G (b 3) Z)).Perm ((zb_6 G b rf sz ac sp ou) ++ ((zb_r G (b 2) K) ++ zb_r G (b 3) Z)) from List.Perm.refl _).trans (List.Perm.of_eq (by simp only [List.append_assoc, List.append_nil, List.nil_append])))
    refine zk_callI (wr := (zb_r G (b 2) K) ++ zb_r G (b 3) Z) (va_runV (As := [.int (nI 1)]) (rest := []) ⟨hx, hb, hml, hown, hts⟩ (c_X6_refused l G b rf sz ac sp ou (nI 1) _) (cwV 1 hts gX6_needs_X6_refused rfl rfl rfl (by decide +kernel) ⟨Nat.le_of_ble_eq_true rfl, Nat.le_of_ble_eq_true rfl⟩) (zk_preV hE hA0 hS (zk_Papp hP0).1 (zk_Dapp hD0).1 (va_recv hK hP0 (ci := 5) (q0 := 0) rfl rfl)) rfl rfl hl.1 rfl (lv_room (Nat.le_of_ble_eq_true rfl)) dX6_needs_13 ⟨Nat.le_of_ble_eq_true rfl, Nat.le_of_ble_eq_true rfl⟩) hP0 hD0 hS hA (fun r5 u6 H locs q7 hP hD hS => ?_)
    subst q7
    have hP : va_P G.1 vwCl ((zb_6 G b (nI 1) sz ac sp ou) ++ ((zb_r G (b 2) K) ++ zb_r G (b 3) Z)) H := zk_Pperm hP (show ((zb_6 G b (nI 1) sz ac sp ou) ++ ((zb_r G (b 2) K) ++ zb_r G (b 3) Z)).Perm ((zb_6 G b (nI 1) sz ac sp ou) ++ ((zb_r G (b 2) K) ++ zb_r G (b 3) Z)) from (show ((zb_6 G b (nI 1) sz ac sp ou) ++ ((zb_r G (b 2) K) ++ zb_r G (b 3) Z)).Perm ((zb_6 G b (nI 1) sz ac sp ou) ++ ((zb_r G (b 2) K) ++ zb_r G (b 3) Z)) from List.Perm.refl _).trans (List.Perm.of_eq (by simp only [List.append_assoc, List.append_nil, List.nil_append]))).symm
    have hD : va_D A ((zb_6 G b (nI 1) sz ac sp ou) ++ ((zb_r G (b 2) K) ++ zb_r G (b 3) Z)) := zk_Dperm hD (show ((zb_6 G b (nI 1) sz ac sp ou) ++ ((zb_r G (b 2) K) ++ zb_r G (b 3) Z)).Perm ((zb_6 G b (nI 1) sz ac sp ou) ++ ((zb_r G (b 2) K) ++ zb_r G (b 3) Z)) from (show ((zb_6 G b (nI 1) sz ac sp ou) ++ ((zb_r G (b 2) K) ++ zb_r G (b 3) Z)).Perm ((zb_6 G b (nI 1) sz ac sp ou) ++ ((zb_r G (b 2) K) ++ zb_r G (b 3) Z)) from List.Perm.refl _).trans (List.Perm.of_eq (by simp only [List.append_assoc, List.append_nil, List.nil_append]))).symm
    refine zk_top (show (if 0 < (nI 1) then nI 1 else nI 0) = nI 1 by decide) ?_
    refine lv_if_eq (tgt := 21) hx hb dX6_needs_16 (by decide) (fun z => absurd z (by decide)) (fun _ => ?_)
    refine lv_iconst (v := nI 0) hx hb dX6_needs_19 (by decide) ?_
    exact zk_reti (nI 1, Z) hQ hx hb hr hlocks hS hP hD (Nat.le_of_ble_eq_true rfl) (Nat.le_of_ble_eq_true rfl) dX6_needs_20 (Or.inr ⟨h5_3, rfl⟩)
  · have h5_3 := zk_b1 h5_3
    refine lv_iconst (v := nI 0) hx hb dX6_needs_8 (by decide) ?_
    refine lv_goto (tgt := 13) hx hb dX6_needs_9 (by decide) ?_
    have hP0 : va_P G.1 vwCl ((zb_6 G b rf sz ac sp ou) ++ ((zb_r G (b 2) K) ++ zb_r G (b 3) Z)) H := zk_Pperm hP (show ((zb_6 G b rf sz ac sp ou) ++ ((zb_r G (b 2) K) ++ zb_r G (b 3) Z)).Perm ((zb_6 G b rf sz ac sp ou) ++ ((zb_r G (b 2) K) ++ zb_r G (b 3) Z)) from (show ((zb_6 G b rf sz ac sp ou) ++ ((zb_r G (b 2) K) ++ zb_r G (b 3) Z)).Perm ((zb_6 G b rf sz ac sp ou) ++ ((zb_r G (b 2) K) ++ zb_r G (b 3) Z)) from List.Perm.refl _).trans (List.Perm.of_eq (by simp only [List.append_assoc, List.append_nil, List.nil_append])))
    have hD0 : va_D A ((zb_6 G b rf sz ac sp ou) ++ ((zb_r G (b 2) K) ++ zb_r G (b 3) Z)) := zk_Dperm hD (show ((zb_6 G b rf sz ac sp ou) ++ ((zb_r G (b 2) K) ++ zb_r G (b 3) Z)).Perm ((zb_6 G b rf sz ac sp ou) ++ ((zb_r G (b 2) K) ++ zb_r G (b 3) Z)) from (show ((zb_6 G b rf sz ac sp ou) ++ ((zb_r G (b 2) K) ++ zb_r G (b 3) Z)).Perm ((zb_6 G b rf sz ac sp ou) ++ ((zb_r G (b 2) K) ++ zb_r G (b 3) Z)) from List.Perm.refl _).trans (List.Perm.of_eq (by simp only [List.append_assoc, List.append_nil, List.nil_append])))
    refine zk_callI (wr := (zb_r G (b 2) K) ++ zb_r G (b 3) Z) (va_runV (As := [.int (nI 0)]) (rest := []) ⟨hx, hb, hml, hown, hts⟩ (c_X6_refused l G b rf sz ac sp ou (nI 0) _) (cwV 1 hts gX6_needs_X6_refused rfl rfl rfl (by decide +kernel) ⟨Nat.le_of_ble_eq_true rfl, Nat.le_of_ble_eq_true rfl⟩) (zk_preV hE hA0 hS (zk_Papp hP0).1 (zk_Dapp hD0).1 (va_recv hK hP0 (ci := 5) (q0 := 0) rfl rfl)) rfl rfl hl.1 rfl (lv_room (Nat.le_of_ble_eq_true rfl)) dX6_needs_13 ⟨Nat.le_of_ble_eq_true rfl, Nat.le_of_ble_eq_true rfl⟩) hP0 hD0 hS hA (fun r8 u9 H locs q10 hP hD hS => ?_)
    subst q10
    have hP : va_P G.1 vwCl ((zb_6 G b (nI 0) sz ac sp ou) ++ ((zb_r G (b 2) K) ++ zb_r G (b 3) Z)) H := zk_Pperm hP (show ((zb_6 G b (nI 0) sz ac sp ou) ++ ((zb_r G (b 2) K) ++ zb_r G (b 3) Z)).Perm ((zb_6 G b (nI 0) sz ac sp ou) ++ ((zb_r G (b 2) K) ++ zb_r G (b 3) Z)) from (show ((zb_6 G b (nI 0) sz ac sp ou) ++ ((zb_r G (b 2) K) ++ zb_r G (b 3) Z)).Perm ((zb_6 G b (nI 0) sz ac sp ou) ++ ((zb_r G (b 2) K) ++ zb_r G (b 3) Z)) from List.Perm.refl _).trans (List.Perm.of_eq (by simp only [List.append_assoc, List.append_nil, List.nil_append]))).symm
    have hD : va_D A ((zb_6 G b (nI 0) sz ac sp ou) ++ ((zb_r G (b 2) K) ++ zb_r G (b 3) Z)) := zk_Dperm hD (show ((zb_6 G b (nI 0) sz ac sp ou) ++ ((zb_r G (b 2) K) ++ zb_r G (b 3) Z)).Perm ((zb_6 G b (nI 0) sz ac sp ou) ++ ((zb_r G (b 2) K) ++ zb_r G (b 3) Z)) from (show ((zb_6 G b (nI 0) sz ac sp ou) ++ ((zb_r G (b 2) K) ++ zb_r G (b 3) Z)).Perm ((zb_6 G b (nI 0) sz ac sp ou) ++ ((zb_r G (b 2) K) ++ zb_r G (b 3) Z)) from List.Perm.refl _).trans (List.Perm.of_eq (by simp only [List.append_assoc, List.append_nil, List.nil_append]))).symm
    refine zk_top (show (if 0 < (nI 0) then nI 1 else nI 0) = nI 0 by decide) ?_
    refine lv_if_eq (tgt := 21) hx hb dX6_needs_16 (by decide) (fun _ => ?_) (fun z => absurd (by decide) z)
    obtain ⟨fk, hfk, efk⟩ := sFam_nat h5_3
    subst efk
    have nfk := nI_clamp (show fk < 2 ^ 31 by omega)
    refine lv_iconst (v := nI 0) hx hb dX6_needs_21 (by decide) ?_
    refine lv_istore_n (lv' := [(2, .int (nI 0)), (0, .ref (b 0)), (1, .int (nI fk))]) hx hb dX6_needs_22 rfl hl (by decide) rfl (fun ls hl => ?_)
    have lp11 : ∀ (n13 : Nat) (lo : Nat), n - lo < n13 → (lo ≤ n) → (∀ j, j < lo → ¬ K 1 j = nI fk) → ∀ (ls : Array Slot), lv_has ls 5 [(2, .int (nI lo)), (0, .ref (b 0)), (1, .int (nI fk))] → W p l E0 rmX6_needs s m args below meth cd H locs 0 0 Q (F0 m 23 ls []) := by
      intro n13
      induction n13 with
      | zero => intro lo hz; exact absurd hz (Nat.not_lt_zero _)
      | succ n13 ih12 =>
        intro lo hm hlo2 hlo ls hl
        refine lv_iload_n hx hb dX6_needs_23 rfl (lv_at hl 0 rfl) ?_
        refine lv_aload_n hx hb dX6_needs_24 rfl (lv_at hl 1 rfl) ?_
        refine va_get (D := G.1) (ci := 5) (v := .ref (b 2)) (C := RX6) (T := TX6) (N := 11) hx hb hts (fun _ h => List.mem_cons_of_mem _ (List.mem_append_right _ h)) hown hK hP 0 rfl rfl 3 (by decide) w1 (fun _ h9 => h9) rfl dX6_needs_25 ?_
        refine lv_iconst (v := nI 1) hx hb dX6_needs_28 (by decide) ?_
        refine zk_ialdN hx hb hK hP 1 0 rfl rfl (k := 1) (n := 1555) (by omega) (by omega) dX6_needs_29 ?_
        refine zk_top (zrow_l K (c := 1) (by omega)) ?_
        refine zk_top hI.1 ?_
        refine lv_icmp_ge (tgt := 52) hx hb dX6_needs_30 (by decide) (fun h30_13 => ?_) (fun h30_13 => ?_)
        · have h30_13 := zk_le (by omega) (by omega) h30_13
          refine lv_iload_n hx hb dX6_needs_52 rfl (lv_at hl 0 rfl) ?_
          refine lv_aload_n hx hb dX6_needs_53 rfl (lv_at hl 1 rfl) ?_
          refine va_get (D := G.1) (ci := 5) (v := .ref (b 2)) (C := RX6) (T := TX6) (N := 11) hx hb hts (fun _ h => List.mem_cons_of_mem _ (List.mem_append_right _ h)) hown hK hP 0 rfl rfl 3 (by decide) w1 (fun _ h9 => h9) rfl dX6_needs_54 ?_
          refine lv_iconst (v := nI 1) hx hb dX6_needs_57 (by decide) ?_
          refine zk_ialdN hx hb hK hP 1 0 rfl rfl (k := 1) (n := 1555) (by omega) (by omega) dX6_needs_58 ?_
          refine zk_top (zrow_l K (c := 1) (by omega)) ?_
          refine zk_top hI.1 ?_
          refine lv_icmp_ne (tgt := 64) hx hb dX6_needs_59 (by decide) (fun h59_14 => ?_) (fun h59_14 => ?_)
          · have h59_14 := zk_ne (by omega) (by omega) h59_14
            exact absurd (show lo = n by omega) h59_14
          · have h59_14 := zk_eq (by omega) (by omega) h59_14
            refine lv_iconst (v := -1) hx hb dX6_needs_62 (by decide) ?_
            exact zk_reti (nI 0, Z) hQ hx hb hr hlocks hS hP hD (Nat.le_of_ble_eq_true rfl) (Nat.le_of_ble_eq_true rfl) dX6_needs_63 (Or.inl ⟨h5_3, rfl, Or.inr ⟨rfl, fun j hj => hlo j (by omega)⟩⟩)
        · have h30_13 := zk_nle (by omega) (by omega) h30_13
          refine lv_aload_n hx hb dX6_needs_33 rfl (lv_at hl 1 rfl) ?_
          refine va_get (D := G.1) (ci := 5) (v := .ref (b 2)) (C := RX6) (T := TX6) (N := 11) hx hb hts (fun _ h => List.mem_cons_of_mem _ (List.mem_append_right _ h)) hown hK hP 0 rfl rfl 3 (by decide) w1 (fun _ h9 => h9) rfl dX6_needs_34 ?_
          refine lv_bipush (v := nI 45) hx hb dX6_needs_37 (by decide) ?_
          refine lv_iload_n hx hb dX6_needs_39 rfl (lv_at hl 0 rfl) ?_
          refine zk_iaddN hx hb dX6_needs_40 ?_
          refine zk_ialdN hx hb hK hP 1 0 rfl rfl (k := (45 + lo)) (n := 1555) (by omega) (by omega) dX6_needs_41 ?_
          refine zk_top (zrow_1 K (c := lo) (by omega)) ?_
          refine lv_iload_n hx hb dX6_needs_42 rfl (lv_at hl 2 rfl) ?_
          refine lv_icmp_eq (tgt := 52) hx hb dX6_needs_43 (by decide) (fun h43_15 => ?_) (fun h43_15 => ?_)
          · refine lv_iload_n hx hb dX6_needs_52 rfl (lv_at hl 0 rfl) ?_
            refine lv_aload_n hx hb dX6_needs_53 rfl (lv_at hl 1 rfl) ?_
            refine va_get (D := G.1) (ci := 5) (v := .ref (b 2)) (C := RX6) (T := TX6) (N := 11) hx hb hts (fun _ h => List.mem_cons_of_mem _ (List.mem_append_right _ h)) hown hK hP 0 rfl rfl 3 (by decide) w1 (fun _ h9 => h9) rfl dX6_needs_54 ?_
            refine lv_iconst (v := nI 1) hx hb dX6_needs_57 (by decide) ?_
            refine zk_ialdN hx hb hK hP 1 0 rfl rfl (k := 1) (n := 1555) (by omega) (by omega) dX6_needs_58 ?_
            refine zk_top (zrow_l K (c := 1) (by omega)) ?_
            refine zk_top hI.1 ?_
            refine lv_icmp_ne (tgt := 64) hx hb dX6_needs_59 (by decide) (fun h59_16 => ?_) (fun h59_16 => ?_)
            · have h59_16 := zk_ne (by omega) (by omega) h59_16
              have hlf : K 1 lo = nI fk := h43_15
              have hlm : ∀ j, j < lo → ¬ K 1 j = nI fk := hlo
              refine lv_aload_n hx hb dX6_needs_64 rfl (lv_at hl 1 rfl) ?_
              refine va_get (D := G.1) (ci := 5) (v := .ref (b 2)) (C := RX6) (T := TX6) (N := 11) hx hb hts (fun _ h => List.mem_cons_of_mem _ (List.mem_append_right _ h)) hown hK hP 0 rfl rfl 3 (by decide) w1 (fun _ h9 => h9) rfl dX6_needs_65 ?_
              refine lv_iconst (v := nI 0) hx hb dX6_needs_68 (by decide) ?_
              refine lv_aload_n hx hb dX6_needs_69 rfl (lv_at hl 1 rfl) ?_
              refine va_get (D := G.1) (ci := 5) (v := .ref (b 3)) (C := RX6) (T := TX6) (N := 11) hx hb hts (fun _ h => List.mem_cons_of_mem _ (List.mem_append_right _ h)) hown hK hP 0 rfl rfl 4 (by decide) w2 (fun _ h9 => h9) rfl dX6_needs_70 ?_
              refine lv_iconst (v := nI 0) hx hb dX6_needs_73 (by decide) ?_
              have hP0 : va_P G.1 vwCl ((zb_r G (b 2) K ++ zb_r G (b 3) Z) ++ (zb_6 G b (nI 0) sz ac sp ou)) H := zk_Pperm hP (show ((zb_6 G b (nI 0) sz ac sp ou) ++ ((zb_r G (b 2) K) ++ zb_r G (b 3) Z)).Perm ((zb_r G (b 2) K ++ zb_r G (b 3) Z) ++ (zb_6 G b (nI 0) sz ac sp ou)) from (show ((zb_6 G b (nI 0) sz ac sp ou) ++ ((zb_r G (b 2) K) ++ zb_r G (b 3) Z)).Perm ((zb_r G (b 2) K) ++ ((zb_r G (b 3) Z) ++ zb_6 G b (nI 0) sz ac sp ou)) from (((List.Perm.append_left _ List.perm_append_comm).trans (List.perm_append_comm_assoc _ _ _))).trans ((List.Perm.append_left _ List.perm_append_comm).trans (List.perm_append_comm_assoc _ _ _))).trans (List.Perm.of_eq (by simp only [List.append_assoc, List.append_nil, List.nil_append])))
              have hD0 : va_D A ((zb_r G (b 2) K ++ zb_r G (b 3) Z) ++ (zb_6 G b (nI 0) sz ac sp ou)) := zk_Dperm hD (show ((zb_6 G b (nI 0) sz ac sp ou) ++ ((zb_r G (b 2) K) ++ zb_r G (b 3) Z)).Perm ((zb_r G (b 2) K ++ zb_r G (b 3) Z) ++ (zb_6 G b (nI 0) sz ac sp ou)) from (show ((zb_6 G b (nI 0) sz ac sp ou) ++ ((zb_r G (b 2) K) ++ zb_r G (b 3) Z)).Perm ((zb_r G (b 2) K) ++ ((zb_r G (b 3) Z) ++ zb_6 G b (nI 0) sz ac sp ou)) from (((List.Perm.append_left _ List.perm_append_comm).trans (List.perm_append_comm_assoc _ _ _))).trans ((List.Perm.append_left _ List.perm_append_comm).trans (List.perm_append_comm_assoc _ _ _))).trans (List.Perm.of_eq (by simp only [List.append_assoc, List.append_nil, List.nil_append])))
              refine zk_callV (wr := zb_6 G b (nI 0) sz ac sp ou) (va_runS (As := [.ref (b 2), .int (nI 0), .ref (b 3), .int (nI 0)]) (rest := []) ⟨hx, hb, hml, hown, hts⟩ (c_X6_copyTerm l G (b 2) 1555 0 (b 3) 1555 0 (zrow K) (zrow Z) (by omega) (by omega) (by decide) (by decide) _) (cwS 4 hts gX6_needs_X6_copyTerm rfl rfl rfl (by decide +kernel) ⟨Nat.le_of_ble_eq_true rfl, Nat.le_of_ble_eq_true rfl⟩) (zk_preS hE hA0 hS (zk_Papp hP0).1 (zk_Dapp hD0).1) rfl rfl hl.1 rfl (lv_room (Nat.le_of_ble_eq_true rfl)) dX6_needs_74 ⟨Nat.le_of_ble_eq_true rfl, Nat.le_of_ble_eq_true rfl⟩) hP0 hD0 hS hA (fun u19 H locs q20 hP hD hS => ?_)
              subst q20
              obtain ⟨hP, hD⟩ := zk_cong (q0 := 1) (g := zrow K) hP hD rfl (kcp_rr K _)
              have hP : va_P G.1 vwCl ((zb_r G (b 2) K ++ zb_r G (b 3) K) ++ (zb_6 G b (nI 0) sz ac sp ou)) H := hP
              have hD : va_D A ((zb_r G (b 2) K ++ zb_r G (b 3) K) ++ (zb_6 G b (nI 0) sz ac sp ou)) := hD
              have hP : va_P G.1 vwCl ((zb_6 G b (nI 0) sz ac sp ou) ++ ((zb_r G (b 2) K) ++ zb_r G (b 3) K)) H := zk_Pperm hP (show ((zb_6 G b (nI 0) sz ac sp ou) ++ ((zb_r G (b 2) K) ++ zb_r G (b 3) K)).Perm ((zb_r G (b 2) K ++ zb_r G (b 3) K) ++ (zb_6 G b (nI 0) sz ac sp ou)) from (show ((zb_6 G b (nI 0) sz ac sp ou) ++ ((zb_r G (b 2) K) ++ zb_r G (b 3) K)).Perm ((zb_r G (b 2) K) ++ ((zb_r G (b 3) K) ++ zb_6 G b (nI 0) sz ac sp ou)) from (((List.Perm.append_left _ List.perm_append_comm).trans (List.perm_append_comm_assoc _ _ _))).trans ((List.Perm.append_left _ List.perm_append_comm).trans (List.perm_append_comm_assoc _ _ _))).trans (List.Perm.of_eq (by simp only [List.append_assoc, List.append_nil, List.nil_append]))).symm
              have hD : va_D A ((zb_6 G b (nI 0) sz ac sp ou) ++ ((zb_r G (b 2) K) ++ zb_r G (b 3) K)) := zk_Dperm hD (show ((zb_6 G b (nI 0) sz ac sp ou) ++ ((zb_r G (b 2) K) ++ zb_r G (b 3) K)).Perm ((zb_r G (b 2) K ++ zb_r G (b 3) K) ++ (zb_6 G b (nI 0) sz ac sp ou)) from (show ((zb_6 G b (nI 0) sz ac sp ou) ++ ((zb_r G (b 2) K) ++ zb_r G (b 3) K)).Perm ((zb_r G (b 2) K) ++ ((zb_r G (b 3) K) ++ zb_6 G b (nI 0) sz ac sp ou)) from (((List.Perm.append_left _ List.perm_append_comm).trans (List.perm_append_comm_assoc _ _ _))).trans ((List.Perm.append_left _ List.perm_append_comm).trans (List.perm_append_comm_assoc _ _ _))).trans (List.Perm.of_eq (by simp only [List.append_assoc, List.append_nil, List.nil_append]))).symm
              refine lv_aload_n hx hb dX6_needs_77 rfl (lv_at hl 1 rfl) ?_
              refine lv_iload_n hx hb dX6_needs_78 rfl (lv_at hl 2 rfl) ?_
              have hP0 : va_P G.1 vwCl ((zb_6 G b (nI 0) sz ac sp ou ++ zb_r G (b 3) K) ++ (zb_r G (b 2) K)) H := zk_Pperm hP (show ((zb_6 G b (nI 0) sz ac sp ou) ++ ((zb_r G (b 2) K) ++ zb_r G (b 3) K)).Perm ((zb_6 G b (nI 0) sz ac sp ou ++ zb_r G (b 3) K) ++ (zb_r G (b 2) K)) from (show ((zb_6 G b (nI 0) sz ac sp ou) ++ ((zb_r G (b 2) K) ++ zb_r G (b 3) K)).Perm ((zb_6 G b (nI 0) sz ac sp ou) ++ ((zb_r G (b 3) K) ++ zb_r G (b 2) K)) from (((List.Perm.append_left _ List.perm_append_comm).trans (List.perm_append_comm_assoc _ _ _))).trans (List.perm_append_comm_assoc _ _ _)).trans (List.Perm.of_eq (by simp only [List.append_assoc, List.append_nil, List.nil_append])))
              have hD0 : va_D A ((zb_6 G b (nI 0) sz ac sp ou ++ zb_r G (b 3) K) ++ (zb_r G (b 2) K)) := zk_Dperm hD (show ((zb_6 G b (nI 0) sz ac sp ou) ++ ((zb_r G (b 2) K) ++ zb_r G (b 3) K)).Perm ((zb_6 G b (nI 0) sz ac sp ou ++ zb_r G (b 3) K) ++ (zb_r G (b 2) K)) from (show ((zb_6 G b (nI 0) sz ac sp ou) ++ ((zb_r G (b 2) K) ++ zb_r G (b 3) K)).Perm ((zb_6 G b (nI 0) sz ac sp ou) ++ ((zb_r G (b 3) K) ++ zb_r G (b 2) K)) from (((List.Perm.append_left _ List.perm_append_comm).trans (List.perm_append_comm_assoc _ _ _))).trans (List.perm_append_comm_assoc _ _ _)).trans (List.Perm.of_eq (by simp only [List.append_assoc, List.append_nil, List.nil_append])))
              refine zk_callI (wr := zb_r G (b 2) K) (va_runV (As := [.int (nI fk)]) (rest := []) ⟨hx, hb, hml, hown, hts⟩ (c_X6_refusedOf l G b (nI 0) sz ac sp ou K n t hI (nI fk) _) (cwV 1 hts gX6_needs_X6_refusedOf rfl rfl rfl (by decide +kernel) ⟨Nat.le_of_ble_eq_true rfl, Nat.le_of_ble_eq_true rfl⟩) (zk_preV hE hA0 hS (zk_Papp hP0).1 (zk_Dapp hD0).1 (va_recv hK hP0 (ci := 5) (q0 := 0) rfl rfl)) rfl rfl hl.1 rfl (lv_room (Nat.le_of_ble_eq_true rfl)) dX6_needs_79 ⟨Nat.le_of_ble_eq_true rfl, Nat.le_of_ble_eq_true rfl⟩) hP0 hD0 hS hA (fun r21 u22 H locs q23 hP hD hS => ?_)
              subst q23
              have hP : va_P G.1 vwCl ((zb_6 G b (nI 0) sz ac sp ou) ++ ((zb_r G (b 2) K) ++ zb_r G (b 3) K)) H := zk_Pperm hP (show ((zb_6 G b (nI 0) sz ac sp ou) ++ ((zb_r G (b 2) K) ++ zb_r G (b 3) K)).Perm ((zb_6 G b (nI 0) sz ac sp ou ++ zb_r G (b 3) K) ++ (zb_r G (b 2) K)) from (show ((zb_6 G b (nI 0) sz ac sp ou) ++ ((zb_r G (b 2) K) ++ zb_r G (b 3) K)).Perm ((zb_6 G b (nI 0) sz ac sp ou) ++ ((zb_r G (b 3) K) ++ zb_r G (b 2) K)) from (((List.Perm.append_left _ List.perm_append_comm).trans (List.perm_append_comm_assoc _ _ _))).trans (List.perm_append_comm_assoc _ _ _)).trans (List.Perm.of_eq (by simp only [List.append_assoc, List.append_nil, List.nil_append]))).symm
              have hD : va_D A ((zb_6 G b (nI 0) sz ac sp ou) ++ ((zb_r G (b 2) K) ++ zb_r G (b 3) K)) := zk_Dperm hD (show ((zb_6 G b (nI 0) sz ac sp ou) ++ ((zb_r G (b 2) K) ++ zb_r G (b 3) K)).Perm ((zb_6 G b (nI 0) sz ac sp ou ++ zb_r G (b 3) K) ++ (zb_r G (b 2) K)) from (show ((zb_6 G b (nI 0) sz ac sp ou) ++ ((zb_r G (b 2) K) ++ zb_r G (b 3) K)).Perm ((zb_6 G b (nI 0) sz ac sp ou) ++ ((zb_r G (b 3) K) ++ zb_r G (b 2) K)) from (((List.Perm.append_left _ List.perm_append_comm).trans (List.perm_append_comm_assoc _ _ _))).trans (List.perm_append_comm_assoc _ _ _)).trans (List.Perm.of_eq (by simp only [List.append_assoc, List.append_nil, List.nil_append]))).symm
              refine lv_topi (fun x24 ex24 => ?_)
              refine lv_istore_n (lv' := [(3, .int x24), (2, .int (nI lo)), (0, .ref (b 0)), (1, .int (nI fk))]) hx hb dX6_needs_82 rfl hl (by decide) rfl (fun ls hl => ?_)
              refine lv_iconst (v := nI 0) hx hb dX6_needs_83 (by decide) ?_
              refine lv_istore (lv' := [(4, .int (nI 0)), (3, .int x24), (2, .int (nI lo)), (0, .ref (b 0)), (1, .int (nI fk))]) hx hb dX6_needs_84 hl (by decide) rfl (fun ls hl => ?_)
              have lp25 : ∀ (n27 : Nat) (k : Nat) (X : zL), 201 - k < n27 → (k ≤ 201) → (∀ j, j < k → ¬ kTry K n t (nI fk) lo j) → ∀ (H : Heap) (locs : List Loc) (hP : va_P G.1 vwCl ((zb_6 G b (nI 0) sz ac sp ou) ++ ((zb_r G (b 2) K) ++ zb_r G (b 3) X)) H) (hD : va_D A ((zb_6 G b (nI 0) sz ac sp ou) ++ ((zb_r G (b 2) K) ++ zb_r G (b 3) X))) (hS : va_S A s.heap H locs) (ls : Array Slot), lv_has ls 5 [(4, .int (nI (100 * k))), (3, .int x24), (2, .int (nI lo)), (0, .ref (b 0)), (1, .int (nI fk))] → W p l E0 rmX6_needs s m args below meth cd H locs 0 0 Q (F0 m 86 ls []) := by
                intro n27
                induction n27 with
                | zero => intro k X hz; exact absurd hz (Nat.not_lt_zero _)
                | succ n27 ih26 =>
                  intro k X hm hk hno H locs hP hD hS ls hl
                  refine lv_iload hx hb dX6_needs_86 (lv_at hl 0 rfl) ?_
                  refine lv_sipush (v := nI 20000) hx hb dX6_needs_88 (by decide) ?_
                  refine lv_icmp_gt (tgt := 144) hx hb dX6_needs_91 (by decide) (fun h91_27 => ?_) (fun h91_27 => ?_)
                  · have h91_27 := zk_lt (by omega) (by omega) h91_27
                    refine lv_iconst (v := -1) hx hb dX6_needs_144 (by decide) ?_
                    exact zk_reti (nI 0, X) hQ hx hb hr hlocks hS hP hD (Nat.le_of_ble_eq_true rfl) (Nat.le_of_ble_eq_true rfl) dX6_needs_145 (Or.inl ⟨h5_3, rfl, Or.inl ⟨lo, by omega, hlf, hlm, Or.inr ⟨rfl, fun j hj => hno j (by omega)⟩⟩⟩)
                  · have h91_27 := zk_nlt (by omega) (by omega) h91_27
                    refine lv_aload_n hx hb dX6_needs_94 rfl (lv_at hl 3 rfl) ?_
                    refine va_get (D := G.1) (ci := 5) (v := .ref (b 2)) (C := RX6) (T := TX6) (N := 11) hx hb hts (fun _ h => List.mem_cons_of_mem _ (List.mem_append_right _ h)) hown hK hP 0 rfl rfl 3 (by decide) w1 (fun _ h9 => h9) rfl dX6_needs_95 ?_
                    refine lv_iconst (v := nI 0) hx hb dX6_needs_98 (by decide) ?_
                    refine lv_aload_n hx hb dX6_needs_99 rfl (lv_at hl 3 rfl) ?_
                    refine va_get (D := G.1) (ci := 5) (v := .ref (b 3)) (C := RX6) (T := TX6) (N := 11) hx hb hts (fun _ h => List.mem_cons_of_mem _ (List.mem_append_right _ h)) hown hK hP 0 rfl rfl 4 (by decide) w2 (fun _ h9 => h9) rfl dX6_needs_100 ?_
                    refine lv_iconst (v := nI 0) hx hb dX6_needs_103 (by decide) ?_
                    have hP0 : va_P G.1 vwCl ((zb_r G (b 2) K ++ zb_r G (b 3) X) ++ (zb_6 G b (nI 0) sz ac sp ou)) H := zk_Pperm hP (show ((zb_6 G b (nI 0) sz ac sp ou) ++ ((zb_r G (b 2) K) ++ zb_r G (b 3) X)).Perm ((zb_r G (b 2) K ++ zb_r G (b 3) X) ++ (zb_6 G b (nI 0) sz ac sp ou)) from (show ((zb_6 G b (nI 0) sz ac sp ou) ++ ((zb_r G (b 2) K) ++ zb_r G (b 3) X)).Perm ((zb_r G (b 2) K) ++ ((zb_r G (b 3) X) ++ zb_6 G b (nI 0) sz ac sp ou)) from (((List.Perm.append_left _ List.perm_append_comm).trans (List.perm_append_comm_assoc _ _ _))).trans ((List.Perm.append_left _ List.perm_append_comm).trans (List.perm_append_comm_assoc _ _ _))).trans (List.Perm.of_eq (by simp only [List.append_assoc, List.append_nil, List.nil_append])))
                    have hD0 : va_D A ((zb_r G (b 2) K ++ zb_r G (b 3) X) ++ (zb_6 G b (nI 0) sz ac sp ou)) := zk_Dperm hD (show ((zb_6 G b (nI 0) sz ac sp ou) ++ ((zb_r G (b 2) K) ++ zb_r G (b 3) X)).Perm ((zb_r G (b 2) K ++ zb_r G (b 3) X) ++ (zb_6 G b (nI 0) sz ac sp ou)) from (show ((zb_6 G b (nI 0) sz ac sp ou) ++ ((zb_r G (b 2) K) ++ zb_r G (b 3) X)).Perm ((zb_r G (b 2) K) ++ ((zb_r G (b 3) X) ++ zb_6 G b (nI 0) sz ac sp ou)) from (((List.Perm.append_left _ List.perm_append_comm).trans (List.perm_append_comm_assoc _ _ _))).trans ((List.Perm.append_left _ List.perm_append_comm).trans (List.perm_append_comm_assoc _ _ _))).trans (List.Perm.of_eq (by simp only [List.append_assoc, List.append_nil, List.nil_append])))
                    refine zk_callV (wr := zb_6 G b (nI 0) sz ac sp ou) (va_runS (As := [.ref (b 2), .int (nI 0), .ref (b 3), .int (nI 0)]) (rest := []) ⟨hx, hb, hml, hown, hts⟩ (c_X6_copyTerm l G (b 2) 1555 0 (b 3) 1555 0 (zrow K) (zrow X) (by omega) (by omega) (by decide) (by decide) _) (cwS 4 hts gX6_needs_X6_copyTerm rfl rfl rfl (by decide +kernel) ⟨Nat.le_of_ble_eq_true rfl, Nat.le_of_ble_eq_true rfl⟩) (zk_preS hE hA0 hS (zk_Papp hP0).1 (zk_Dapp hD0).1) rfl rfl hl.1 rfl (lv_room (Nat.le_of_ble_eq_true rfl)) dX6_needs_104 ⟨Nat.le_of_ble_eq_true rfl, Nat.le_of_ble_eq_true rfl⟩) hP0 hD0 hS hA (fun u30 H locs q31 hP hD hS => ?_)
                    subst q31
                    obtain ⟨hP, hD⟩ := zk_cong (q0 := 1) (g := zrow K) hP hD rfl (kcp_rr K _)
                    have hP : va_P G.1 vwCl ((zb_r G (b 2) K ++ zb_r G (b 3) K) ++ (zb_6 G b (nI 0) sz ac sp ou)) H := hP
                    have hD : va_D A ((zb_r G (b 2) K ++ zb_r G (b 3) K) ++ (zb_6 G b (nI 0) sz ac sp ou)) := hD
                    have hP : va_P G.1 vwCl ((zb_6 G b (nI 0) sz ac sp ou) ++ ((zb_r G (b 2) K) ++ zb_r G (b 3) K)) H := zk_Pperm hP (show ((zb_6 G b (nI 0) sz ac sp ou) ++ ((zb_r G (b 2) K) ++ zb_r G (b 3) K)).Perm ((zb_r G (b 2) K ++ zb_r G (b 3) K) ++ (zb_6 G b (nI 0) sz ac sp ou)) from (show ((zb_6 G b (nI 0) sz ac sp ou) ++ ((zb_r G (b 2) K) ++ zb_r G (b 3) K)).Perm ((zb_r G (b 2) K) ++ ((zb_r G (b 3) K) ++ zb_6 G b (nI 0) sz ac sp ou)) from (((List.Perm.append_left _ List.perm_append_comm).trans (List.perm_append_comm_assoc _ _ _))).trans ((List.Perm.append_left _ List.perm_append_comm).trans (List.perm_append_comm_assoc _ _ _))).trans (List.Perm.of_eq (by simp only [List.append_assoc, List.append_nil, List.nil_append]))).symm
                    have hD : va_D A ((zb_6 G b (nI 0) sz ac sp ou) ++ ((zb_r G (b 2) K) ++ zb_r G (b 3) K)) := zk_Dperm hD (show ((zb_6 G b (nI 0) sz ac sp ou) ++ ((zb_r G (b 2) K) ++ zb_r G (b 3) K)).Perm ((zb_r G (b 2) K ++ zb_r G (b 3) K) ++ (zb_6 G b (nI 0) sz ac sp ou)) from (show ((zb_6 G b (nI 0) sz ac sp ou) ++ ((zb_r G (b 2) K) ++ zb_r G (b 3) K)).Perm ((zb_r G (b 2) K) ++ ((zb_r G (b 3) K) ++ zb_6 G b (nI 0) sz ac sp ou)) from (((List.Perm.append_left _ List.perm_append_comm).trans (List.perm_append_comm_assoc _ _ _))).trans ((List.Perm.append_left _ List.perm_append_comm).trans (List.perm_append_comm_assoc _ _ _))).trans (List.Perm.of_eq (by simp only [List.append_assoc, List.append_nil, List.nil_append]))).symm
                    refine lv_aload_n hx hb dX6_needs_107 rfl (lv_at hl 3 rfl) ?_
                    refine va_get (D := G.1) (ci := 5) (v := .ref (b 3)) (C := RX6) (T := TX6) (N := 11) hx hb hts (fun _ h => List.mem_cons_of_mem _ (List.mem_append_right _ h)) hown hK hP 0 rfl rfl 4 (by decide) w2 (fun _ h9 => h9) rfl dX6_needs_108 ?_
                    refine lv_bipush (v := nI 69) hx hb dX6_needs_111 (by decide) ?_
                    refine lv_iload_n hx hb dX6_needs_113 rfl (lv_at hl 2 rfl) ?_
                    refine zk_iaddN hx hb dX6_needs_114 ?_
                    refine lv_dup2_11 hx hb dX6_needs_115 rfl rfl ?_
                    refine zk_ialdN hx hb hK hP 2 0 rfl rfl (k := (69 + lo)) (n := 1555) (by omega) (by omega) dX6_needs_116 ?_
                    refine zk_top (zrow_3 K (c := lo) (by omega)) ?_
                    refine lv_iload hx hb dX6_needs_117 (lv_at hl 0 rfl) ?_
                    refine lv_iadd hx hb dX6_needs_119 ?_
                    refine lv_topi (fun x32 ex32 => ?_)
                    refine zk_iastN hx hb hK hP hD hS 2 0 rfl rfl (k := (69 + lo)) (n := 1555) (by omega) (by omega) dX6_needs_120 (fun H locs hP hD hS => ?_)
                    obtain ⟨L33, eL33⟩ : ∃ z : zL, z = up2 K 3 lo x32 := ⟨_, rfl⟩
                    have hP : va_P G.1 vwCl ((zb_6 G b (nI 0) sz ac sp ou) ++ ((zb_r G (b 2) K) ++ zb_r G (b 3) L33)) H := by rw [eL33, show zb_r G (b 3) (up2 K 3 lo x32) = [zk_a (b 3) (G.2.1 0) 1555 (upd (zrow K) (69 + lo) x32)] from (congrArg (fun f => [zk_a (b 3) (G.2.1 0) 1555 f]) (zup_3 K x32 (by omega))).symm]; exact hP
                    have hD : va_D A ((zb_6 G b (nI 0) sz ac sp ou) ++ ((zb_r G (b 2) K) ++ zb_r G (b 3) L33)) := by rw [eL33, show zb_r G (b 3) (up2 K 3 lo x32) = [zk_a (b 3) (G.2.1 0) 1555 (upd (zrow K) (69 + lo) x32)] from (congrArg (fun f => [zk_a (b 3) (G.2.1 0) 1555 f]) (zup_3 K x32 (by omega))).symm]; exact hD
                    have hI34 : sInv L33 n t := by rw [eL33]; exact sInv_row hI rfl rfl rfl rfl
                    refine lv_aload_n hx hb dX6_needs_121 rfl (lv_at hl 3 rfl) ?_
                    have hP0 : va_P G.1 vwCl ((zb_6 G b (nI 0) sz ac sp ou ++ zb_r G (b 3) L33) ++ (zb_r G (b 2) K)) H := zk_Pperm hP (show ((zb_6 G b (nI 0) sz ac sp ou) ++ ((zb_r G (b 2) K) ++ zb_r G (b 3) L33)).Perm ((zb_6 G b (nI 0) sz ac sp ou ++ zb_r G (b 3) L33) ++ (zb_r G (b 2) K)) from (show ((zb_6 G b (nI 0) sz ac sp ou) ++ ((zb_r G (b 2) K) ++ zb_r G (b 3) L33)).Perm ((zb_6 G b (nI 0) sz ac sp ou) ++ ((zb_r G (b 3) L33) ++ zb_r G (b 2) K)) from (((List.Perm.append_left _ List.perm_append_comm).trans (List.perm_append_comm_assoc _ _ _))).trans (List.perm_append_comm_assoc _ _ _)).trans (List.Perm.of_eq (by simp only [List.append_assoc, List.append_nil, List.nil_append])))
                    have hD0 : va_D A ((zb_6 G b (nI 0) sz ac sp ou ++ zb_r G (b 3) L33) ++ (zb_r G (b 2) K)) := zk_Dperm hD (show ((zb_6 G b (nI 0) sz ac sp ou) ++ ((zb_r G (b 2) K) ++ zb_r G (b 3) L33)).Perm ((zb_6 G b (nI 0) sz ac sp ou ++ zb_r G (b 3) L33) ++ (zb_r G (b 2) K)) from (show ((zb_6 G b (nI 0) sz ac sp ou) ++ ((zb_r G (b 2) K) ++ zb_r G (b 3) L33)).Perm ((zb_6 G b (nI 0) sz ac sp ou) ++ ((zb_r G (b 3) L33) ++ zb_r G (b 2) K)) from (((List.Perm.append_left _ List.perm_append_comm).trans (List.perm_append_comm_assoc _ _ _))).trans (List.perm_append_comm_assoc _ _ _)).trans (List.Perm.of_eq (by simp only [List.append_assoc, List.append_nil, List.nil_append])))
                    refine zk_callI (wr := zb_r G (b 2) K) (va_runV (As := []) (rest := []) ⟨hx, hb, hml, hown, hts⟩ (c_X6_goOn l G b (nI 0) sz ac sp ou L33 n t hI34 (by rw [eL33]; exact hp0) _) (cwV 0 hts gX6_needs_X6_goOn rfl rfl rfl (by decide +kernel) ⟨Nat.le_of_ble_eq_true rfl, Nat.le_of_ble_eq_true rfl⟩) (zk_preV hE hA0 hS (zk_Papp hP0).1 (zk_Dapp hD0).1 (va_recv hK hP0 (ci := 5) (q0 := 0) rfl rfl)) rfl rfl hl.1 rfl (lv_room (Nat.le_of_ble_eq_true rfl)) dX6_needs_122 ⟨Nat.le_of_ble_eq_true rfl, Nat.le_of_ble_eq_true rfl⟩) hP0 hD0 hS hA (fun r35 u36 H locs q37 hP hD hS => ?_)
                    obtain ⟨er35, eL38⟩ := q37
                    have hI39 : sInv u36 n (t + (40 - t)) := by rw [eL38]; exact sInv_kDays hI34 _ (by omega)
                    have hP : va_P G.1 vwCl ((zb_6 G b (nI 0) sz ac sp ou) ++ ((zb_r G (b 2) K) ++ zb_r G (b 3) u36)) H := zk_Pperm hP (show ((zb_6 G b (nI 0) sz ac sp ou) ++ ((zb_r G (b 2) K) ++ zb_r G (b 3) u36)).Perm ((zb_6 G b (nI 0) sz ac sp ou ++ zb_r G (b 3) u36) ++ (zb_r G (b 2) K)) from (show ((zb_6 G b (nI 0) sz ac sp ou) ++ ((zb_r G (b 2) K) ++ zb_r G (b 3) u36)).Perm ((zb_6 G b (nI 0) sz ac sp ou) ++ ((zb_r G (b 3) u36) ++ zb_r G (b 2) K)) from (((List.Perm.append_left _ List.perm_append_comm).trans (List.perm_append_comm_assoc _ _ _))).trans (List.perm_append_comm_assoc _ _ _)).trans (List.Perm.of_eq (by simp only [List.append_assoc, List.append_nil, List.nil_append]))).symm
                    have hD : va_D A ((zb_6 G b (nI 0) sz ac sp ou) ++ ((zb_r G (b 2) K) ++ zb_r G (b 3) u36)) := zk_Dperm hD (show ((zb_6 G b (nI 0) sz ac sp ou) ++ ((zb_r G (b 2) K) ++ zb_r G (b 3) u36)).Perm ((zb_6 G b (nI 0) sz ac sp ou ++ zb_r G (b 3) u36) ++ (zb_r G (b 2) K)) from (show ((zb_6 G b (nI 0) sz ac sp ou) ++ ((zb_r G (b 2) K) ++ zb_r G (b 3) u36)).Perm ((zb_6 G b (nI 0) sz ac sp ou) ++ ((zb_r G (b 3) u36) ++ zb_r G (b 2) K)) from (((List.Perm.append_left _ List.perm_append_comm).trans (List.perm_append_comm_assoc _ _ _))).trans (List.perm_append_comm_assoc _ _ _)).trans (List.Perm.of_eq (by simp only [List.append_assoc, List.append_nil, List.nil_append]))).symm
                    refine lv_pop hx hb dX6_needs_125 rfl ?_
                    refine lv_aload_n hx hb dX6_needs_126 rfl (lv_at hl 3 rfl) ?_
                    refine lv_iload_n hx hb dX6_needs_127 rfl (lv_at hl 4 rfl) ?_
                    have hP0 : va_P G.1 vwCl ((zb_6 G b (nI 0) sz ac sp ou ++ zb_r G (b 3) u36) ++ (zb_r G (b 2) K)) H := zk_Pperm hP (show ((zb_6 G b (nI 0) sz ac sp ou) ++ ((zb_r G (b 2) K) ++ zb_r G (b 3) u36)).Perm ((zb_6 G b (nI 0) sz ac sp ou ++ zb_r G (b 3) u36) ++ (zb_r G (b 2) K)) from (show ((zb_6 G b (nI 0) sz ac sp ou) ++ ((zb_r G (b 2) K) ++ zb_r G (b 3) u36)).Perm ((zb_6 G b (nI 0) sz ac sp ou) ++ ((zb_r G (b 3) u36) ++ zb_r G (b 2) K)) from (((List.Perm.append_left _ List.perm_append_comm).trans (List.perm_append_comm_assoc _ _ _))).trans (List.perm_append_comm_assoc _ _ _)).trans (List.Perm.of_eq (by simp only [List.append_assoc, List.append_nil, List.nil_append])))
                    have hD0 : va_D A ((zb_6 G b (nI 0) sz ac sp ou ++ zb_r G (b 3) u36) ++ (zb_r G (b 2) K)) := zk_Dperm hD (show ((zb_6 G b (nI 0) sz ac sp ou) ++ ((zb_r G (b 2) K) ++ zb_r G (b 3) u36)).Perm ((zb_6 G b (nI 0) sz ac sp ou ++ zb_r G (b 3) u36) ++ (zb_r G (b 2) K)) from (show ((zb_6 G b (nI 0) sz ac sp ou) ++ ((zb_r G (b 2) K) ++ zb_r G (b 3) u36)).Perm ((zb_6 G b (nI 0) sz ac sp ou) ++ ((zb_r G (b 3) u36) ++ zb_r G (b 2) K)) from (((List.Perm.append_left _ List.perm_append_comm).trans (List.perm_append_comm_assoc _ _ _))).trans (List.perm_append_comm_assoc _ _ _)).trans (List.Perm.of_eq (by simp only [List.append_assoc, List.append_nil, List.nil_append])))
                    refine zk_callI (wr := zb_r G (b 2) K) (va_runV (As := [.int (nI fk)]) (rest := []) ⟨hx, hb, hml, hown, hts⟩ (c_X6_refusedOf l G b (nI 0) sz ac sp ou u36 n (t + (40 - t)) hI39 (nI fk) _) (cwV 1 hts gX6_needs_X6_refusedOf rfl rfl rfl (by decide +kernel) ⟨Nat.le_of_ble_eq_true rfl, Nat.le_of_ble_eq_true rfl⟩) (zk_preV hE hA0 hS (zk_Papp hP0).1 (zk_Dapp hD0).1 (va_recv hK hP0 (ci := 5) (q0 := 0) rfl rfl)) rfl rfl hl.1 rfl (lv_room (Nat.le_of_ble_eq_true rfl)) dX6_needs_128 ⟨Nat.le_of_ble_eq_true rfl, Nat.le_of_ble_eq_true rfl⟩) hP0 hD0 hS hA (fun r40 u41 H locs q42 hP hD hS => ?_)
                    subst q42
                    have hP : va_P G.1 vwCl ((zb_6 G b (nI 0) sz ac sp ou) ++ ((zb_r G (b 2) K) ++ zb_r G (b 3) u36)) H := zk_Pperm hP (show ((zb_6 G b (nI 0) sz ac sp ou) ++ ((zb_r G (b 2) K) ++ zb_r G (b 3) u36)).Perm ((zb_6 G b (nI 0) sz ac sp ou ++ zb_r G (b 3) u36) ++ (zb_r G (b 2) K)) from (show ((zb_6 G b (nI 0) sz ac sp ou) ++ ((zb_r G (b 2) K) ++ zb_r G (b 3) u36)).Perm ((zb_6 G b (nI 0) sz ac sp ou) ++ ((zb_r G (b 3) u36) ++ zb_r G (b 2) K)) from (((List.Perm.append_left _ List.perm_append_comm).trans (List.perm_append_comm_assoc _ _ _))).trans (List.perm_append_comm_assoc _ _ _)).trans (List.Perm.of_eq (by simp only [List.append_assoc, List.append_nil, List.nil_append]))).symm
                    have hD : va_D A ((zb_6 G b (nI 0) sz ac sp ou) ++ ((zb_r G (b 2) K) ++ zb_r G (b 3) u36)) := zk_Dperm hD (show ((zb_6 G b (nI 0) sz ac sp ou) ++ ((zb_r G (b 2) K) ++ zb_r G (b 3) u36)).Perm ((zb_6 G b (nI 0) sz ac sp ou ++ zb_r G (b 3) u36) ++ (zb_r G (b 2) K)) from (show ((zb_6 G b (nI 0) sz ac sp ou) ++ ((zb_r G (b 2) K) ++ zb_r G (b 3) u36)).Perm ((zb_6 G b (nI 0) sz ac sp ou) ++ ((zb_r G (b 3) u36) ++ zb_r G (b 2) K)) from (((List.Perm.append_left _ List.perm_append_comm).trans (List.perm_append_comm_assoc _ _ _))).trans (List.perm_append_comm_assoc _ _ _)).trans (List.Perm.of_eq (by simp only [List.append_assoc, List.append_nil, List.nil_append]))).symm
                    have htq : (kRefOf u36 n (nI fk) = kRefOf K n (nI fk)) = kTry K n t (nI fk) lo k := by unfold kTry; rw [eL38, eL33, ex32]
                    refine lv_iload_n hx hb dX6_needs_131 rfl (lv_at hl 1 rfl) ?_
                    refine lv_icmp_ne (tgt := 138) hx hb dX6_needs_132 (by decide) (fun h132_42 => ?_) (fun h132_42 => ?_)
                    · have hno2 : ¬ kTry K n t (nI fk) lo k := fun z => h132_42 ((htq.mpr z).trans ex24.symm)
                      refine lv_iinc (v := nI (100 * k + 100)) (lv' := [(4, .int (nI (100 * k + 100))), (3, .int x24), (2, .int (nI lo)), (0, .ref (b 0)), (1, .int (nI fk))]) hx hb dX6_needs_138 hl (k := 0) rfl (zk_inc (100 * k) 100) (by decide) rfl (fun ls hl => ?_)
                      have hl : lv_has ls 5 [(4, .int (nI (100 * (k + 1)))), (3, .int x24), (2, .int (nI lo)), (0, .ref (b 0)), (1, .int (nI fk))] := by rw [show 100 * k + 100 = 100 * (k + 1) by omega] at hl; exact hl
                      refine lv_goto (tgt := 86) hx hb dX6_needs_141 (by decide) ?_
                      exact ih26 (k + 1) u36 (by omega) (by omega) (lt_s hno hno2) _ _ hP hD hS ls (lv_sub hl [0, 1, 2, 3, 4] rfl)
                    · have htr : kTry K n t (nI fk) lo k := by rw [← htq]; exact h132_42.trans ex24
                      refine lv_iload hx hb dX6_needs_135 (lv_at hl 0 rfl) ?_
                      exact zk_reti (nI 0, u36) hQ hx hb hr hlocks hS hP hD (Nat.le_of_ble_eq_true rfl) (Nat.le_of_ble_eq_true rfl) dX6_needs_137 (Or.inl ⟨h5_3, rfl, Or.inl ⟨lo, by omega, hlf, hlm, Or.inl ⟨k, by omega, rfl, htr, hno⟩⟩⟩)
              exact lp25 _ 0 K (Nat.lt_succ_self _) (by omega) (lt_0) _ _ hP hD hS ls (lv_sub hl [0, 1, 2, 3, 4] rfl)
            · have h59_16 := zk_eq (by omega) (by omega) h59_16
              exact absurd h59_16 (by omega)
          · refine lv_iinc (v := nI (lo + 1)) (lv' := [(2, .int (nI (lo + 1))), (0, .ref (b 0)), (1, .int (nI fk))]) hx hb dX6_needs_46 hl (k := 0) rfl (zk_inc lo 1) (by decide) rfl (fun ls hl => ?_)
            refine lv_goto (tgt := 23) hx hb dX6_needs_49 (by decide) ?_
            exact ih12 (lo + 1) (by omega) (by omega) (lt_s hlo h43_15) ls (lv_sub hl [0, 1, 2] rfl)
    exact lp11 _ 0 (Nat.lt_succ_self _) (by omega) (lt_0) ls (lv_sub hl [0, 1, 2] rfl)

abbrev rmX6_ifEntitled : Room := { frames := 3, cells := 0, slots := 0, locals := 74 }
set_option maxHeartbeats 4000000 in
set_option maxRecDepth 100000 in
/-- what entitlement would bring -/
theorem c_X6_ifEntitled (l : Launch) (G : zk_G) (b : Nat → Nat) (rf sz ac sp ou : Int32) (K : zL) (n t : Nat) (hI : sInv K n t) (Z : zL) (c fr to : Int32) : zk_I (S := Int32 × zL) l yX6_ifEntitled wsX6_ifEntitled rmX6_ifEntitled G [.ref (b 0), .int c, .int fr, .int to] ((zb_6 G b rf sz ac sp ou) ++ ((zb_r G (b 2) K) ++ zb_r G (b 3) Z)) (fun r u => u.1 = sfEnt K c fr to ∧ (sfEnt K c fr to = 0 → r = zs (sEntitle K t c.toNatClampNeg fr to 3) n - zs (K 3) n)) (fun u => zb_6 G b u.1 sz ac sp ou ++ (zb_r G (b 2) K ++ zb_r G (b 3) u.2)) := by
  refine zk_bodyI (cc := cX6_ifEntitled) (maxL := 4) (ret := (some .int)) (by decide) rfl (Nat.le_of_ble_eq_true rfl) ?_
  intro p E0 s m args below meth cd A ls Q hF hQ
  obtain ⟨hx, hb, hml, hr, hts, hown, hlocks, -, hE, hP, hD, hS, hA, hA0, hl⟩ := hF
  have hK := hE.1
  have hl : lv_has ls 4 [(0, .ref (b 0)), (1, .int c), (2, .int fr), (3, .int to)] := hl
  obtain ⟨hn, hn12, ht, ht40, hfam, hpay⟩ := id hI
  have w1 := hts _ (List.mem_of_getElem? (l := wsX6_ifEntitled) (i := 1) (a := Cond.fieldLink RX6 13 "MealAccountsModel" "now" "[I") rfl)
  have w2 := hts _ (List.mem_of_getElem? (l := wsX6_ifEntitled) (i := 2) (a := Cond.fieldLink RX6 16 "MealAccountsModel" "trial" "[I") rfl)
  refine lv_aload_n hx hb dX6_ifEntitled_0 rfl (lv_at hl 0 rfl) ?_
  refine lv_aload_n hx hb dX6_ifEntitled_1 rfl (lv_at hl 0 rfl) ?_
  refine va_get (D := G.1) (ci := 5) (v := .ref (b 2)) (C := RX6) (T := TX6) (N := 11) hx hb hts (fun _ h => List.mem_cons_of_mem _ (List.mem_append_right _ h)) hown hK hP 0 rfl rfl 3 (by decide) w1 (fun _ h9 => h9) rfl dX6_ifEntitled_2 ?_
  refine lv_iload_n hx hb dX6_ifEntitled_5 rfl (lv_at hl 1 rfl) ?_
  refine lv_iload_n hx hb dX6_ifEntitled_6 rfl (lv_at hl 2 rfl) ?_
  refine lv_iload_n hx hb dX6_ifEntitled_7 rfl (lv_at hl 3 rfl) ?_
  have hP0 : va_P G.1 vwCl ((zb_r G (b 2) K) ++ ((zb_6 G b rf sz ac sp ou) ++ zb_r G (b 3) Z)) s.heap := zk_Pperm hP (show ((zb_6 G b rf sz ac sp ou) ++ ((zb_r G (b 2) K) ++ zb_r G (b 3) Z)).Perm ((zb_r G (b 2) K) ++ ((zb_6 G b rf sz ac sp ou) ++ zb_r G (b 3) Z)) from (show ((zb_6 G b rf sz ac sp ou) ++ ((zb_r G (b 2) K) ++ zb_r G (b 3) Z)).Perm ((zb_r G (b 2) K) ++ ((zb_6 G b rf sz ac sp ou) ++ zb_r G (b 3) Z)) from (List.perm_append_comm_assoc _ _ _)).trans (List.Perm.of_eq (by simp only [List.append_assoc, List.append_nil, List.nil_append])))
  have hD0 : va_D A ((zb_r G (b 2) K) ++ ((zb_6 G b rf sz ac sp ou) ++ zb_r G (b 3) Z)) := zk_Dperm hD (show ((zb_6 G b rf sz ac sp ou) ++ ((zb_r G (b 2) K) ++ zb_r G (b 3) Z)).Perm ((zb_r G (b 2) K) ++ ((zb_6 G b rf sz ac sp ou) ++ zb_r G (b 3) Z)) from (show ((zb_6 G b rf sz ac sp ou) ++ ((zb_r G (b 2) K) ++ zb_r G (b 3) Z)).Perm ((zb_r G (b 2) K) ++ ((zb_6 G b rf sz ac sp ou) ++ zb_r G (b 3) Z)) from (List.perm_append_comm_assoc _ _ _)).trans (List.Perm.of_eq (by simp only [List.append_assoc, List.append_nil, List.nil_append])))
  refine zk_callI (wr := (zb_6 G b rf sz ac sp ou) ++ zb_r G (b 3) Z) (va_runS (As := [.ref (b 2), .int c, .int fr, .int to]) (rest := [.ref (b 0)]) ⟨hx, hb, hml, hown, hts⟩ (c_X6_whyNotEntitle l G (b 2) K n t hI c fr to _) (cwS 4 hts gX6_ifEntitled_X6_whyNotEntitle rfl rfl rfl (by decide +kernel) ⟨Nat.le_of_ble_eq_true rfl, Nat.le_of_ble_eq_true rfl⟩) (zk_preS hE hA0 hS (zk_Papp hP0).1 (zk_Dapp hD0).1) rfl rfl hl.1 rfl (lv_room (Nat.le_of_ble_eq_true rfl)) dX6_ifEntitled_8 ⟨Nat.le_of_ble_eq_true rfl, Nat.le_of_ble_eq_true rfl⟩) hP0 hD0 hS hA (fun r1 u2 H locs q3 hP hD hS => ?_)
  subst q3
  have hP : va_P G.1 vwCl ((zb_6 G b rf sz ac sp ou) ++ ((zb_r G (b 2) K) ++ zb_r G (b 3) Z)) H := zk_Pperm hP (show ((zb_6 G b rf sz ac sp ou) ++ ((zb_r G (b 2) K) ++ zb_r G (b 3) Z)).Perm ((zb_r G (b 2) K) ++ ((zb_6 G b rf sz ac sp ou) ++ zb_r G (b 3) Z)) from (show ((zb_6 G b rf sz ac sp ou) ++ ((zb_r G (b 2) K) ++ zb_r G (b 3) Z)).Perm ((zb_r G (b 2) K) ++ ((zb_6 G b rf sz ac sp ou) ++ zb_r G (b 3) Z)) from (List.perm_append_comm_assoc _ _ _)).trans (List.Perm.of_eq (by simp only [List.append_assoc, List.append_nil, List.nil_append]))).symm
  have hD : va_D A ((zb_6 G b rf sz ac sp ou) ++ ((zb_r G (b 2) K) ++ zb_r G (b 3) Z)) := zk_Dperm hD (show ((zb_6 G b rf sz ac sp ou) ++ ((zb_r G (b 2) K) ++ zb_r G (b 3) Z)).Perm ((zb_r G (b 2) K) ++ ((zb_6 G b rf sz ac sp ou) ++ zb_r G (b 3) Z)) from (show ((zb_6 G b rf sz ac sp ou) ++ ((zb_r G (b 2) K) ++ zb_r G (b 3) Z)).Perm ((zb_r G (b 2) K) ++ ((zb_6 G b rf sz ac sp ou) ++ zb_r G (b 3) Z)) from (List.perm_append_comm_assoc _ _ _)).trans (List.Perm.of_eq (by simp only [List.append_assoc, List.append_nil, List.nil_append]))).symm
  have hP0 : va_P G.1 vwCl ((zb_6 G b rf sz ac sp ou) ++ ((zb_r G (b 2) K) ++ zb_r G (b 3) Z)) H := zk_Pperm hP (show ((zb_6 G b rf sz ac sp ou) ++ ((zb_r G (b 2) K) ++ zb_r G (b 3) Z)).Perm ((zb_6 G b rf sz ac sp ou) ++ ((zb_r G (b 2) K) ++ zb_r G (b 3) Z)) from (show ((zb_6 G b rf sz ac sp ou) ++ ((zb_r G (b 2) K) ++ zb_r G (b 3) Z)).Perm ((zb_6 G b rf sz ac sp ou) ++ ((zb_r G (b 2) K) ++ zb_r G (b 3) Z)) from List.Perm.refl _).trans (List.Perm.of_eq (by simp only [List.append_assoc, List.append_nil, List.nil_append])))
  have hD0 : va_D A ((zb_6 G b rf sz ac sp ou) ++ ((zb_r G (b 2) K) ++ zb_r G (b 3) Z)) := zk_Dperm hD (show ((zb_6 G b rf sz ac sp ou) ++ ((zb_r G (b 2) K) ++ zb_r G (b 3) Z)).Perm ((zb_6 G b rf sz ac sp ou) ++ ((zb_r G (b 2) K) ++ zb_r G (b 3) Z)) from (show ((zb_6 G b rf sz ac sp ou) ++ ((zb_r G (b 2) K) ++ zb_r G (b 3) Z)).Perm ((zb_6 G b rf sz ac sp ou) ++ ((zb_r G (b 2) K) ++ zb_r G (b 3) Z)) from List.Perm.refl _).trans (List.Perm.of_eq (by simp only [List.append_assoc, List.append_nil, List.nil_append])))
  refine zk_callI (wr := (zb_r G (b 2) K) ++ zb_r G (b 3) Z) (va_runV (As := [.int (sfEnt K c fr to)]) (rest := []) ⟨hx, hb, hml, hown, hts⟩ (c_X6_refused l G b rf sz ac sp ou (sfEnt K c fr to) _) (cwV 1 hts gX6_ifEntitled_X6_refused rfl rfl rfl (by decide +kernel) ⟨Nat.le_of_ble_eq_true rfl, Nat.le_of_ble_eq_true rfl⟩) (zk_preV hE hA0 hS (zk_Papp hP0).1 (zk_Dapp hD0).1 (va_recv hK hP0 (ci := 5) (q0 := 0) rfl rfl)) rfl rfl hl.1 rfl (lv_room (Nat.le_of_ble_eq_true rfl)) dX6_ifEntitled_11 ⟨Nat.le_of_ble_eq_true rfl, Nat.le_of_ble_eq_true rfl⟩) hP0 hD0 hS hA (fun r4 u5 H locs q6 hP hD hS => ?_)
  subst q6
  have hP : va_P G.1 vwCl ((zb_6 G b (sfEnt K c fr to) sz ac sp ou) ++ ((zb_r G (b 2) K) ++ zb_r G (b 3) Z)) H := zk_Pperm hP (show ((zb_6 G b (sfEnt K c fr to) sz ac sp ou) ++ ((zb_r G (b 2) K) ++ zb_r G (b 3) Z)).Perm ((zb_6 G b (sfEnt K c fr to) sz ac sp ou) ++ ((zb_r G (b 2) K) ++ zb_r G (b 3) Z)) from (show ((zb_6 G b (sfEnt K c fr to) sz ac sp ou) ++ ((zb_r G (b 2) K) ++ zb_r G (b 3) Z)).Perm ((zb_6 G b (sfEnt K c fr to) sz ac sp ou) ++ ((zb_r G (b 2) K) ++ zb_r G (b 3) Z)) from List.Perm.refl _).trans (List.Perm.of_eq (by simp only [List.append_assoc, List.append_nil, List.nil_append]))).symm
  have hD : va_D A ((zb_6 G b (sfEnt K c fr to) sz ac sp ou) ++ ((zb_r G (b 2) K) ++ zb_r G (b 3) Z)) := zk_Dperm hD (show ((zb_6 G b (sfEnt K c fr to) sz ac sp ou) ++ ((zb_r G (b 2) K) ++ zb_r G (b 3) Z)).Perm ((zb_6 G b (sfEnt K c fr to) sz ac sp ou) ++ ((zb_r G (b 2) K) ++ zb_r G (b 3) Z)) from (show ((zb_6 G b (sfEnt K c fr to) sz ac sp ou) ++ ((zb_r G (b 2) K) ++ zb_r G (b 3) Z)).Perm ((zb_6 G b (sfEnt K c fr to) sz ac sp ou) ++ ((zb_r G (b 2) K) ++ zb_r G (b 3) Z)) from List.Perm.refl _).trans (List.Perm.of_eq (by simp only [List.append_assoc, List.append_nil, List.nil_append]))).symm
  refine lv_if_eq (tgt := 19) hx hb dX6_ifEntitled_14 (by decide) (fun h14_6 => ?_) (fun h14_6 => ?_)
  · have h14_6 := zk_b0 h14_6
    have hz0 := zFl_p (sfEnt_v K c fr to) h14_6
    have hz := sfEnt_0 hz0
    obtain ⟨ck, hck, eck⟩ := sHas_nat hI hz.1
    subst eck
    have nck := nI_clamp (show ck < 2 ^ 31 by omega)
    rw [hz0] at hP hD
    refine lv_aload_n hx hb dX6_ifEntitled_19 rfl (lv_at hl 0 rfl) ?_
    refine va_get (D := G.1) (ci := 5) (v := .ref (b 2)) (C := RX6) (T := TX6) (N := 11) hx hb hts (fun _ h => List.mem_cons_of_mem _ (List.mem_append_right _ h)) hown hK hP 0 rfl rfl 3 (by decide) w1 (fun _ h9 => h9) rfl dX6_ifEntitled_20 ?_
    refine lv_iconst (v := nI 0) hx hb dX6_ifEntitled_23 (by decide) ?_
    refine lv_aload_n hx hb dX6_ifEntitled_24 rfl (lv_at hl 0 rfl) ?_
    refine va_get (D := G.1) (ci := 5) (v := .ref (b 3)) (C := RX6) (T := TX6) (N := 11) hx hb hts (fun _ h => List.mem_cons_of_mem _ (List.mem_append_right _ h)) hown hK hP 0 rfl rfl 4 (by decide) w2 (fun _ h9 => h9) rfl dX6_ifEntitled_25 ?_
    refine lv_iconst (v := nI 0) hx hb dX6_ifEntitled_28 (by decide) ?_
    have hP0 : va_P G.1 vwCl ((zb_r G (b 2) K ++ zb_r G (b 3) Z) ++ (zb_6 G b 0 sz ac sp ou)) H := zk_Pperm hP (show ((zb_6 G b 0 sz ac sp ou) ++ ((zb_r G (b 2) K) ++ zb_r G (b 3) Z)).Perm ((zb_r G (b 2) K ++ zb_r G (b 3) Z) ++ (zb_6 G b 0 sz ac sp ou)) from (show ((zb_6 G b 0 sz ac sp ou) ++ ((zb_r G (b 2) K) ++ zb_r G (b 3) Z)).Perm ((zb_r G (b 2) K) ++ ((zb_r G (b 3) Z) ++ zb_6 G b 0 sz ac sp ou)) from (((List.Perm.append_left _ List.perm_append_comm).trans (List.perm_append_comm_assoc _ _ _))).trans ((List.Perm.append_left _ List.perm_append_comm).trans (List.perm_append_comm_assoc _ _ _))).trans (List.Perm.of_eq (by simp only [List.append_assoc, List.append_nil, List.nil_append])))
    have hD0 : va_D A ((zb_r G (b 2) K ++ zb_r G (b 3) Z) ++ (zb_6 G b 0 sz ac sp ou)) := zk_Dperm hD (show ((zb_6 G b 0 sz ac sp ou) ++ ((zb_r G (b 2) K) ++ zb_r G (b 3) Z)).Perm ((zb_r G (b 2) K ++ zb_r G (b 3) Z) ++ (zb_6 G b 0 sz ac sp ou)) from (show ((zb_6 G b 0 sz ac sp ou) ++ ((zb_r G (b 2) K) ++ zb_r G (b 3) Z)).Perm ((zb_r G (b 2) K) ++ ((zb_r G (b 3) Z) ++ zb_6 G b 0 sz ac sp ou)) from (((List.Perm.append_left _ List.perm_append_comm).trans (List.perm_append_comm_assoc _ _ _))).trans ((List.Perm.append_left _ List.perm_append_comm).trans (List.perm_append_comm_assoc _ _ _))).trans (List.Perm.of_eq (by simp only [List.append_assoc, List.append_nil, List.nil_append])))
    refine zk_callV (wr := zb_6 G b 0 sz ac sp ou) (va_runS (As := [.ref (b 2), .int (nI 0), .ref (b 3), .int (nI 0)]) (rest := []) ⟨hx, hb, hml, hown, hts⟩ (c_X6_copyTerm l G (b 2) 1555 0 (b 3) 1555 0 (zrow K) (zrow Z) (by omega) (by omega) (by decide) (by decide) _) (cwS 4 hts gX6_ifEntitled_X6_copyTerm rfl rfl rfl (by decide +kernel) ⟨Nat.le_of_ble_eq_true rfl, Nat.le_of_ble_eq_true rfl⟩) (zk_preS hE hA0 hS (zk_Papp hP0).1 (zk_Dapp hD0).1) rfl rfl hl.1 rfl (lv_room (Nat.le_of_ble_eq_true rfl)) dX6_ifEntitled_29 ⟨Nat.le_of_ble_eq_true rfl, Nat.le_of_ble_eq_true rfl⟩) hP0 hD0 hS hA (fun u9 H locs q10 hP hD hS => ?_)
    subst q10
    obtain ⟨hP, hD⟩ := zk_cong (q0 := 1) (g := zrow K) hP hD rfl (kcp_rr K _)
    have hP : va_P G.1 vwCl ((zb_r G (b 2) K ++ zb_r G (b 3) K) ++ (zb_6 G b 0 sz ac sp ou)) H := hP
    have hD : va_D A ((zb_r G (b 2) K ++ zb_r G (b 3) K) ++ (zb_6 G b 0 sz ac sp ou)) := hD
    have hP : va_P G.1 vwCl ((zb_6 G b 0 sz ac sp ou) ++ ((zb_r G (b 2) K) ++ zb_r G (b 3) K)) H := zk_Pperm hP (show ((zb_6 G b 0 sz ac sp ou) ++ ((zb_r G (b 2) K) ++ zb_r G (b 3) K)).Perm ((zb_r G (b 2) K ++ zb_r G (b 3) K) ++ (zb_6 G b 0 sz ac sp ou)) from (show ((zb_6 G b 0 sz ac sp ou) ++ ((zb_r G (b 2) K) ++ zb_r G (b 3) K)).Perm ((zb_r G (b 2) K) ++ ((zb_r G (b 3) K) ++ zb_6 G b 0 sz ac sp ou)) from (((List.Perm.append_left _ List.perm_append_comm).trans (List.perm_append_comm_assoc _ _ _))).trans ((List.Perm.append_left _ List.perm_append_comm).trans (List.perm_append_comm_assoc _ _ _))).trans (List.Perm.of_eq (by simp only [List.append_assoc, List.append_nil, List.nil_append]))).symm
    have hD : va_D A ((zb_6 G b 0 sz ac sp ou) ++ ((zb_r G (b 2) K) ++ zb_r G (b 3) K)) := zk_Dperm hD (show ((zb_6 G b 0 sz ac sp ou) ++ ((zb_r G (b 2) K) ++ zb_r G (b 3) K)).Perm ((zb_r G (b 2) K ++ zb_r G (b 3) K) ++ (zb_6 G b 0 sz ac sp ou)) from (show ((zb_6 G b 0 sz ac sp ou) ++ ((zb_r G (b 2) K) ++ zb_r G (b 3) K)).Perm ((zb_r G (b 2) K) ++ ((zb_r G (b 3) K) ++ zb_6 G b 0 sz ac sp ou)) from (((List.Perm.append_left _ List.perm_append_comm).trans (List.perm_append_comm_assoc _ _ _))).trans ((List.Perm.append_left _ List.perm_append_comm).trans (List.perm_append_comm_assoc _ _ _))).trans (List.Perm.of_eq (by simp only [List.append_assoc, List.append_nil, List.nil_append]))).symm
    refine lv_aload_n hx hb dX6_ifEntitled_32 rfl (lv_at hl 0 rfl) ?_
    refine va_get (D := G.1) (ci := 5) (v := .ref (b 3)) (C := RX6) (T := TX6) (N := 11) hx hb hts (fun _ h => List.mem_cons_of_mem _ (List.mem_append_right _ h)) hown hK hP 0 rfl rfl 4 (by decide) w2 (fun _ h9 => h9) rfl dX6_ifEntitled_33 ?_
    refine lv_iload_n hx hb dX6_ifEntitled_36 rfl (lv_at hl 1 rfl) ?_
    refine lv_iload_n hx hb dX6_ifEntitled_37 rfl (lv_at hl 2 rfl) ?_
    refine lv_iload_n hx hb dX6_ifEntitled_38 rfl (lv_at hl 3 rfl) ?_
    have hP0 : va_P G.1 vwCl ((zb_r G (b 3) K) ++ ((zb_6 G b 0 sz ac sp ou) ++ zb_r G (b 2) K)) H := zk_Pperm hP (show ((zb_6 G b 0 sz ac sp ou) ++ ((zb_r G (b 2) K) ++ zb_r G (b 3) K)).Perm ((zb_r G (b 3) K) ++ ((zb_6 G b 0 sz ac sp ou) ++ zb_r G (b 2) K)) from (show ((zb_6 G b 0 sz ac sp ou) ++ ((zb_r G (b 2) K) ++ zb_r G (b 3) K)).Perm ((zb_r G (b 3) K) ++ ((zb_6 G b 0 sz ac sp ou) ++ zb_r G (b 2) K)) from ((List.Perm.append_left _ List.perm_append_comm).trans (List.perm_append_comm_assoc _ _ _))).trans (List.Perm.of_eq (by simp only [List.append_assoc, List.append_nil, List.nil_append])))
    have hD0 : va_D A ((zb_r G (b 3) K) ++ ((zb_6 G b 0 sz ac sp ou) ++ zb_r G (b 2) K)) := zk_Dperm hD (show ((zb_6 G b 0 sz ac sp ou) ++ ((zb_r G (b 2) K) ++ zb_r G (b 3) K)).Perm ((zb_r G (b 3) K) ++ ((zb_6 G b 0 sz ac sp ou) ++ zb_r G (b 2) K)) from (show ((zb_6 G b 0 sz ac sp ou) ++ ((zb_r G (b 2) K) ++ zb_r G (b 3) K)).Perm ((zb_r G (b 3) K) ++ ((zb_6 G b 0 sz ac sp ou) ++ zb_r G (b 2) K)) from ((List.Perm.append_left _ List.perm_append_comm).trans (List.perm_append_comm_assoc _ _ _))).trans (List.Perm.of_eq (by simp only [List.append_assoc, List.append_nil, List.nil_append])))
    refine zk_callI (wr := (zb_6 G b 0 sz ac sp ou) ++ zb_r G (b 2) K) (va_runS (As := [.ref (b 3), .int (nI ck), .int fr, .int to]) (rest := []) ⟨hx, hb, hml, hown, hts⟩ (c_X6_entitleOn l G (b 3) K n t hI ck fr to (by omega) _) (cwS 4 hts gX6_ifEntitled_X6_entitleOn rfl rfl rfl (by decide +kernel) ⟨Nat.le_of_ble_eq_true rfl, Nat.le_of_ble_eq_true rfl⟩) (zk_preS hE hA0 hS (zk_Papp hP0).1 (zk_Dapp hD0).1) rfl rfl hl.1 rfl (lv_room (Nat.le_of_ble_eq_true rfl)) dX6_ifEntitled_39 ⟨Nat.le_of_ble_eq_true rfl, Nat.le_of_ble_eq_true rfl⟩) hP0 hD0 hS hA (fun r11 u12 H locs q13 hP hD hS => ?_)
    obtain ⟨er11, eL14⟩ := q13
    have hI15 : sInv u12 n t := by rw [eL14]; exact sInv_entitle fr to hI (by omega) (by omega) _ (by omega)
    have hP : va_P G.1 vwCl ((zb_6 G b 0 sz ac sp ou) ++ ((zb_r G (b 2) K) ++ zb_r G (b 3) u12)) H := zk_Pperm hP (show ((zb_6 G b 0 sz ac sp ou) ++ ((zb_r G (b 2) K) ++ zb_r G (b 3) u12)).Perm ((zb_r G (b 3) u12) ++ ((zb_6 G b 0 sz ac sp ou) ++ zb_r G (b 2) K)) from (show ((zb_6 G b 0 sz ac sp ou) ++ ((zb_r G (b 2) K) ++ zb_r G (b 3) u12)).Perm ((zb_r G (b 3) u12) ++ ((zb_6 G b 0 sz ac sp ou) ++ zb_r G (b 2) K)) from ((List.Perm.append_left _ List.perm_append_comm).trans (List.perm_append_comm_assoc _ _ _))).trans (List.Perm.of_eq (by simp only [List.append_assoc, List.append_nil, List.nil_append]))).symm
    have hD : va_D A ((zb_6 G b 0 sz ac sp ou) ++ ((zb_r G (b 2) K) ++ zb_r G (b 3) u12)) := zk_Dperm hD (show ((zb_6 G b 0 sz ac sp ou) ++ ((zb_r G (b 2) K) ++ zb_r G (b 3) u12)).Perm ((zb_r G (b 3) u12) ++ ((zb_6 G b 0 sz ac sp ou) ++ zb_r G (b 2) K)) from (show ((zb_6 G b 0 sz ac sp ou) ++ ((zb_r G (b 2) K) ++ zb_r G (b 3) u12)).Perm ((zb_r G (b 3) u12) ++ ((zb_6 G b 0 sz ac sp ou) ++ zb_r G (b 2) K)) from ((List.Perm.append_left _ List.perm_append_comm).trans (List.perm_append_comm_assoc _ _ _))).trans (List.Perm.of_eq (by simp only [List.append_assoc, List.append_nil, List.nil_append]))).symm
    exact zk_reti (0, u12) hQ hx hb hr hlocks hS hP hD (Nat.le_of_ble_eq_true rfl) (Nat.le_of_ble_eq_true rfl) dX6_ifEntitled_42 (⟨hz0.symm, fun _ => by rw [nck, ← eL14]; exact er11⟩)
  · have h14_6 := zk_b1 h14_6
    refine lv_iconst (v := nI 0) hx hb dX6_ifEntitled_17 (by decide) ?_
    exact zk_reti (sfEnt K c fr to, Z) hQ hx hb hr hlocks hS hP hD (Nat.le_of_ble_eq_true rfl) (Nat.le_of_ble_eq_true rfl) dX6_ifEntitled_18 (⟨rfl, fun z => absurd z (zFl_n h14_6)⟩)

abbrev rmX6_ifPrice : Room := { frames := 5, cells := 0, slots := 0, locals := 116 }
set_option maxHeartbeats 4000000 in
set_option maxRecDepth 100000 in
/-- the meals by another price -/
theorem c_X6_ifPrice (l : Launch) (G : zk_G) (b : Nat → Nat) (rf sz ac sp ou : Int32) (K : zL) (n t : Nat) (hI : sInv K n t) (Z : zL) (pr : Int32) : zk_I (S := Int32 × zL) l yX6_ifPrice wsX6_ifPrice rmX6_ifPrice G [.ref (b 0), .int pr] ((zb_6 G b rf sz ac sp ou) ++ ((zb_r G (b 2) K) ++ zb_r G (b 3) Z)) (fun r u => (¬ pr < nI 1 ∧ ¬ nI 999 < pr ∧ u.1 = 0 ∧ r = kSrv (kEnd (up2 K 0 2 pr) n t) n (-1) (-1) - kSrv (up2 K 0 2 pr) n (-1) (-1)) ∨ ((pr < nI 1 ∨ nI 999 < pr) ∧ u.1 = nI 1)) (fun u => zb_6 G b u.1 sz ac sp ou ++ (zb_r G (b 2) K ++ zb_r G (b 3) u.2)) := by
  refine zk_bodyI (cc := cX6_ifPrice) (maxL := 2) (ret := (some .int)) (by decide) rfl (Nat.le_of_ble_eq_true rfl) ?_
  intro p E0 s m args below meth cd A ls Q hF hQ
  obtain ⟨hx, hb, hml, hr, hts, hown, hlocks, -, hE, hP, hD, hS, hA, hA0, hl⟩ := hF
  have hK := hE.1
  have hl : lv_has ls 2 [(0, .ref (b 0)), (1, .int pr)] := hl
  obtain ⟨hn, hn12, ht, ht40, hfam, hpay⟩ := id hI
  have w1 := hts _ (List.mem_of_getElem? (l := wsX6_ifPrice) (i := 1) (a := Cond.constantLong RX6 180 (999)) rfl)
  have w2 := hts _ (List.mem_of_getElem? (l := wsX6_ifPrice) (i := 2) (a := Cond.fieldLink RX6 13 "MealAccountsModel" "now" "[I") rfl)
  have w3 := hts _ (List.mem_of_getElem? (l := wsX6_ifPrice) (i := 3) (a := Cond.fieldLink RX6 16 "MealAccountsModel" "trial" "[I") rfl)
  refine lv_aload_n hx hb dX6_ifPrice_0 rfl (lv_at hl 0 rfl) ?_
  refine lv_iload_n hx hb dX6_ifPrice_1 rfl (lv_at hl 1 rfl) ?_
  refine lv_i2l (v := pr.toInt64) hx hb dX6_ifPrice_2 rfl ?_
  refine lv_lconst (v := lN 1) hx hb dX6_ifPrice_3 rfl ?_
  refine zk_topL (show lN 1 = (nI 1).toInt64 from (nI_l (by decide)).symm) ?_
  refine lv_ldc2 hx hb (v := lN 999) hown w1 dX6_ifPrice_4 ?_
  refine zk_topL (show lN 999 = (nI 999).toInt64 from (nI_l (by decide)).symm) ?_
  have hP0 : va_P G.1 vwCl (([] : va_W) ++ ((zb_6 G b rf sz ac sp ou) ++ ((zb_r G (b 2) K) ++ zb_r G (b 3) Z))) s.heap := hP
  have hD0 : va_D A (([] : va_W) ++ ((zb_6 G b rf sz ac sp ou) ++ ((zb_r G (b 2) K) ++ zb_r G (b 3) Z))) := hD
  refine zk_callI (wr := (zb_6 G b rf sz ac sp ou) ++ ((zb_r G (b 2) K) ++ zb_r G (b 3) Z)) (va_runS (As := [.long pr.toInt64, .long ((nI 1).toInt64), .long ((nI 999).toInt64)]) (rest := [.ref (b 0)]) ⟨hx, hb, hml, hown, hts⟩ (c_X6_inI l G pr (nI 1) (nI 999) _) (cwS 3 hts gX6_ifPrice_X6_in rfl rfl rfl (by decide +kernel) ⟨Nat.le_of_ble_eq_true rfl, Nat.le_of_ble_eq_true rfl⟩) (zk_preS hE hA0 hS (zk_Papp hP0).1 (zk_Dapp hD0).1) rfl rfl hl.1 rfl (lv_room (Nat.le_of_ble_eq_true rfl)) dX6_ifPrice_7 ⟨Nat.le_of_ble_eq_true rfl, Nat.le_of_ble_eq_true rfl⟩) hP0 hD0 hS hA (fun r1 u2 H locs q3 hP hD hS => ?_)
  subst q3
  have hP : va_P G.1 vwCl ((zb_6 G b rf sz ac sp ou) ++ ((zb_r G (b 2) K) ++ zb_r G (b 3) Z)) H := hP
  have hD : va_D A ((zb_6 G b rf sz ac sp ou) ++ ((zb_r G (b 2) K) ++ zb_r G (b 3) Z)) := hD
  refine lv_if_eq (tgt := 17) hx hb dX6_ifPrice_10 (by decide) (fun h10_3 => ?_) (fun h10_3 => ?_)
  · have h10_3 := zk_b0 h10_3
    refine lv_iconst (v := nI 1) hx hb dX6_ifPrice_17 (by decide) ?_
    have hP0 : va_P G.1 vwCl ((zb_6 G b rf sz ac sp ou) ++ ((zb_r G (b 2) K) ++ zb_r G (b 3) Z)) H := zk_Pperm hP (show ((zb_6 G b rf sz ac sp ou) ++ ((zb_r G (b 2) K) ++ zb_r G (b 3) Z)).Perm ((zb_6 G b rf sz ac sp ou) ++ ((zb_r G (b 2) K) ++ zb_r G (b 3) Z)) from (show ((zb_6 G b rf sz ac sp ou) ++ ((zb_r G (b 2) K) ++ zb_r G (b 3) Z)).Perm ((zb_6 G b rf sz ac sp ou) ++ ((zb_r G (b 2) K) ++ zb_r G (b 3) Z)) from List.Perm.refl _).trans (List.Perm.of_eq (by simp only [List.append_assoc, List.append_nil, List.nil_append])))
    have hD0 : va_D A ((zb_6 G b rf sz ac sp ou) ++ ((zb_r G (b 2) K) ++ zb_r G (b 3) Z)) := zk_Dperm hD (show ((zb_6 G b rf sz ac sp ou) ++ ((zb_r G (b 2) K) ++ zb_r G (b 3) Z)).Perm ((zb_6 G b rf sz ac sp ou) ++ ((zb_r G (b 2) K) ++ zb_r G (b 3) Z)) from (show ((zb_6 G b rf sz ac sp ou) ++ ((zb_r G (b 2) K) ++ zb_r G (b 3) Z)).Perm ((zb_6 G b rf sz ac sp ou) ++ ((zb_r G (b 2) K) ++ zb_r G (b 3) Z)) from List.Perm.refl _).trans (List.Perm.of_eq (by simp only [List.append_assoc, List.append_nil, List.nil_append])))
    refine zk_callI (wr := (zb_r G (b 2) K) ++ zb_r G (b 3) Z) (va_runV (As := [.int (nI 1)]) (rest := []) ⟨hx, hb, hml, hown, hts⟩ (c_X6_refused l G b rf sz ac sp ou (nI 1) _) (cwV 1 hts gX6_ifPrice_X6_refused rfl rfl rfl (by decide +kernel) ⟨Nat.le_of_ble_eq_true rfl, Nat.le_of_ble_eq_true rfl⟩) (zk_preV hE hA0 hS (zk_Papp hP0).1 (zk_Dapp hD0).1 (va_recv hK hP0 (ci := 5) (q0 := 0) rfl rfl)) rfl rfl hl.1 rfl (lv_room (Nat.le_of_ble_eq_true rfl)) dX6_ifPrice_18 ⟨Nat.le_of_ble_eq_true rfl, Nat.le_of_ble_eq_true rfl⟩) hP0 hD0 hS hA (fun r5 u6 H locs q7 hP hD hS => ?_)
    subst q7
    have hP : va_P G.1 vwCl ((zb_6 G b (nI 1) sz ac sp ou) ++ ((zb_r G (b 2) K) ++ zb_r G (b 3) Z)) H := zk_Pperm hP (show ((zb_6 G b (nI 1) sz ac sp ou) ++ ((zb_r G (b 2) K) ++ zb_r G (b 3) Z)).Perm ((zb_6 G b (nI 1) sz ac sp ou) ++ ((zb_r G (b 2) K) ++ zb_r G (b 3) Z)) from (show ((zb_6 G b (nI 1) sz ac sp ou) ++ ((zb_r G (b 2) K) ++ zb_r G (b 3) Z)).Perm ((zb_6 G b (nI 1) sz ac sp ou) ++ ((zb_r G (b 2) K) ++ zb_r G (b 3) Z)) from List.Perm.refl _).trans (List.Perm.of_eq (by simp only [List.append_assoc, List.append_nil, List.nil_append]))).symm
    have hD : va_D A ((zb_6 G b (nI 1) sz ac sp ou) ++ ((zb_r G (b 2) K) ++ zb_r G (b 3) Z)) := zk_Dperm hD (show ((zb_6 G b (nI 1) sz ac sp ou) ++ ((zb_r G (b 2) K) ++ zb_r G (b 3) Z)).Perm ((zb_6 G b (nI 1) sz ac sp ou) ++ ((zb_r G (b 2) K) ++ zb_r G (b 3) Z)) from (show ((zb_6 G b (nI 1) sz ac sp ou) ++ ((zb_r G (b 2) K) ++ zb_r G (b 3) Z)).Perm ((zb_6 G b (nI 1) sz ac sp ou) ++ ((zb_r G (b 2) K) ++ zb_r G (b 3) Z)) from List.Perm.refl _).trans (List.Perm.of_eq (by simp only [List.append_assoc, List.append_nil, List.nil_append]))).symm
    refine zk_top (show (if 0 < (nI 1) then nI 1 else nI 0) = nI 1 by decide) ?_
    refine lv_if_eq (tgt := 26) hx hb dX6_ifPrice_21 (by decide) (fun z => absurd z (by decide)) (fun _ => ?_)
    refine lv_iconst (v := nI 0) hx hb dX6_ifPrice_24 (by decide) ?_
    exact zk_reti (nI 1, Z) hQ hx hb hr hlocks hS hP hD (Nat.le_of_ble_eq_true rfl) (Nat.le_of_ble_eq_true rfl) dX6_ifPrice_25 (Or.inr ⟨zin_or h10_3, rfl⟩)
  · have h10_3 := zk_b1 h10_3
    refine lv_iconst (v := nI 0) hx hb dX6_ifPrice_13 (by decide) ?_
    refine lv_goto (tgt := 18) hx hb dX6_ifPrice_14 (by decide) ?_
    have hP0 : va_P G.1 vwCl ((zb_6 G b rf sz ac sp ou) ++ ((zb_r G (b 2) K) ++ zb_r G (b 3) Z)) H := zk_Pperm hP (show ((zb_6 G b rf sz ac sp ou) ++ ((zb_r G (b 2) K) ++ zb_r G (b 3) Z)).Perm ((zb_6 G b rf sz ac sp ou) ++ ((zb_r G (b 2) K) ++ zb_r G (b 3) Z)) from (show ((zb_6 G b rf sz ac sp ou) ++ ((zb_r G (b 2) K) ++ zb_r G (b 3) Z)).Perm ((zb_6 G b rf sz ac sp ou) ++ ((zb_r G (b 2) K) ++ zb_r G (b 3) Z)) from List.Perm.refl _).trans (List.Perm.of_eq (by simp only [List.append_assoc, List.append_nil, List.nil_append])))
    have hD0 : va_D A ((zb_6 G b rf sz ac sp ou) ++ ((zb_r G (b 2) K) ++ zb_r G (b 3) Z)) := zk_Dperm hD (show ((zb_6 G b rf sz ac sp ou) ++ ((zb_r G (b 2) K) ++ zb_r G (b 3) Z)).Perm ((zb_6 G b rf sz ac sp ou) ++ ((zb_r G (b 2) K) ++ zb_r G (b 3) Z)) from (show ((zb_6 G b rf sz ac sp ou) ++ ((zb_r G (b 2) K) ++ zb_r G (b 3) Z)).Perm ((zb_6 G b rf sz ac sp ou) ++ ((zb_r G (b 2) K) ++ zb_r G (b 3) Z)) from List.Perm.refl _).trans (List.Perm.of_eq (by simp only [List.append_assoc, List.append_nil, List.nil_append])))
    refine zk_callI (wr := (zb_r G (b 2) K) ++ zb_r G (b 3) Z) (va_runV (As := [.int (nI 0)]) (rest := []) ⟨hx, hb, hml, hown, hts⟩ (c_X6_refused l G b rf sz ac sp ou (nI 0) _) (cwV 1 hts gX6_ifPrice_X6_refused rfl rfl rfl (by decide +kernel) ⟨Nat.le_of_ble_eq_true rfl, Nat.le_of_ble_eq_true rfl⟩) (zk_preV hE hA0 hS (zk_Papp hP0).1 (zk_Dapp hD0).1 (va_recv hK hP0 (ci := 5) (q0 := 0) rfl rfl)) rfl rfl hl.1 rfl (lv_room (Nat.le_of_ble_eq_true rfl)) dX6_ifPrice_18 ⟨Nat.le_of_ble_eq_true rfl, Nat.le_of_ble_eq_true rfl⟩) hP0 hD0 hS hA (fun r8 u9 H locs q10 hP hD hS => ?_)
    subst q10
    have hP : va_P G.1 vwCl ((zb_6 G b (nI 0) sz ac sp ou) ++ ((zb_r G (b 2) K) ++ zb_r G (b 3) Z)) H := zk_Pperm hP (show ((zb_6 G b (nI 0) sz ac sp ou) ++ ((zb_r G (b 2) K) ++ zb_r G (b 3) Z)).Perm ((zb_6 G b (nI 0) sz ac sp ou) ++ ((zb_r G (b 2) K) ++ zb_r G (b 3) Z)) from (show ((zb_6 G b (nI 0) sz ac sp ou) ++ ((zb_r G (b 2) K) ++ zb_r G (b 3) Z)).Perm ((zb_6 G b (nI 0) sz ac sp ou) ++ ((zb_r G (b 2) K) ++ zb_r G (b 3) Z)) from List.Perm.refl _).trans (List.Perm.of_eq (by simp only [List.append_assoc, List.append_nil, List.nil_append]))).symm
    have hD : va_D A ((zb_6 G b (nI 0) sz ac sp ou) ++ ((zb_r G (b 2) K) ++ zb_r G (b 3) Z)) := zk_Dperm hD (show ((zb_6 G b (nI 0) sz ac sp ou) ++ ((zb_r G (b 2) K) ++ zb_r G (b 3) Z)).Perm ((zb_6 G b (nI 0) sz ac sp ou) ++ ((zb_r G (b 2) K) ++ zb_r G (b 3) Z)) from (show ((zb_6 G b (nI 0) sz ac sp ou) ++ ((zb_r G (b 2) K) ++ zb_r G (b 3) Z)).Perm ((zb_6 G b (nI 0) sz ac sp ou) ++ ((zb_r G (b 2) K) ++ zb_r G (b 3) Z)) from List.Perm.refl _).trans (List.Perm.of_eq (by simp only [List.append_assoc, List.append_nil, List.nil_append]))).symm
    refine zk_top (show (if 0 < (nI 0) then nI 1 else nI 0) = nI 0 by decide) ?_
    refine lv_if_eq (tgt := 26) hx hb dX6_ifPrice_21 (by decide) (fun _ => ?_) (fun z => absurd (by decide) z)
    refine lv_aload_n hx hb dX6_ifPrice_26 rfl (lv_at hl 0 rfl) ?_
    refine va_get (D := G.1) (ci := 5) (v := .ref (b 2)) (C := RX6) (T := TX6) (N := 11) hx hb hts (fun _ h => List.mem_cons_of_mem _ (List.mem_append_right _ h)) hown hK hP 0 rfl rfl 3 (by decide) w2 (fun _ h9 => h9) rfl dX6_ifPrice_27 ?_
    refine lv_iconst (v := nI 0) hx hb dX6_ifPrice_30 (by decide) ?_
    refine lv_aload_n hx hb dX6_ifPrice_31 rfl (lv_at hl 0 rfl) ?_
    refine va_get (D := G.1) (ci := 5) (v := .ref (b 3)) (C := RX6) (T := TX6) (N := 11) hx hb hts (fun _ h => List.mem_cons_of_mem _ (List.mem_append_right _ h)) hown hK hP 0 rfl rfl 4 (by decide) w3 (fun _ h9 => h9) rfl dX6_ifPrice_32 ?_
    refine lv_iconst (v := nI 0) hx hb dX6_ifPrice_35 (by decide) ?_
    have hP0 : va_P G.1 vwCl ((zb_r G (b 2) K ++ zb_r G (b 3) Z) ++ (zb_6 G b (nI 0) sz ac sp ou)) H := zk_Pperm hP (show ((zb_6 G b (nI 0) sz ac sp ou) ++ ((zb_r G (b 2) K) ++ zb_r G (b 3) Z)).Perm ((zb_r G (b 2) K ++ zb_r G (b 3) Z) ++ (zb_6 G b (nI 0) sz ac sp ou)) from (show ((zb_6 G b (nI 0) sz ac sp ou) ++ ((zb_r G (b 2) K) ++ zb_r G (b 3) Z)).Perm ((zb_r G (b 2) K) ++ ((zb_r G (b 3) Z) ++ zb_6 G b (nI 0) sz ac sp ou)) from (((List.Perm.append_left _ List.perm_append_comm).trans (List.perm_append_comm_assoc _ _ _))).trans ((List.Perm.append_left _ List.perm_append_comm).trans (List.perm_append_comm_assoc _ _ _))).trans (List.Perm.of_eq (by simp only [List.append_assoc, List.append_nil, List.nil_append])))
    have hD0 : va_D A ((zb_r G (b 2) K ++ zb_r G (b 3) Z) ++ (zb_6 G b (nI 0) sz ac sp ou)) := zk_Dperm hD (show ((zb_6 G b (nI 0) sz ac sp ou) ++ ((zb_r G (b 2) K) ++ zb_r G (b 3) Z)).Perm ((zb_r G (b 2) K ++ zb_r G (b 3) Z) ++ (zb_6 G b (nI 0) sz ac sp ou)) from (show ((zb_6 G b (nI 0) sz ac sp ou) ++ ((zb_r G (b 2) K) ++ zb_r G (b 3) Z)).Perm ((zb_r G (b 2) K) ++ ((zb_r G (b 3) Z) ++ zb_6 G b (nI 0) sz ac sp ou)) from (((List.Perm.append_left _ List.perm_append_comm).trans (List.perm_append_comm_assoc _ _ _))).trans ((List.Perm.append_left _ List.perm_append_comm).trans (List.perm_append_comm_assoc _ _ _))).trans (List.Perm.of_eq (by simp only [List.append_assoc, List.append_nil, List.nil_append])))
    refine zk_callV (wr := zb_6 G b (nI 0) sz ac sp ou) (va_runS (As := [.ref (b 2), .int (nI 0), .ref (b 3), .int (nI 0)]) (rest := []) ⟨hx, hb, hml, hown, hts⟩ (c_X6_copyTerm l G (b 2) 1555 0 (b 3) 1555 0 (zrow K) (zrow Z) (by omega) (by omega) (by decide) (by decide) _) (cwS 4 hts gX6_ifPrice_X6_copyTerm rfl rfl rfl (by decide +kernel) ⟨Nat.le_of_ble_eq_true rfl, Nat.le_of_ble_eq_true rfl⟩) (zk_preS hE hA0 hS (zk_Papp hP0).1 (zk_Dapp hD0).1) rfl rfl hl.1 rfl (lv_room (Nat.le_of_ble_eq_true rfl)) dX6_ifPrice_36 ⟨Nat.le_of_ble_eq_true rfl, Nat.le_of_ble_eq_true rfl⟩) hP0 hD0 hS hA (fun u12 H locs q13 hP hD hS => ?_)
    subst q13
    obtain ⟨hP, hD⟩ := zk_cong (q0 := 1) (g := zrow K) hP hD rfl (kcp_rr K _)
    have hP : va_P G.1 vwCl ((zb_r G (b 2) K ++ zb_r G (b 3) K) ++ (zb_6 G b (nI 0) sz ac sp ou)) H := hP
    have hD : va_D A ((zb_r G (b 2) K ++ zb_r G (b 3) K) ++ (zb_6 G b (nI 0) sz ac sp ou)) := hD
    have hP : va_P G.1 vwCl ((zb_6 G b (nI 0) sz ac sp ou) ++ ((zb_r G (b 2) K) ++ zb_r G (b 3) K)) H := zk_Pperm hP (show ((zb_6 G b (nI 0) sz ac sp ou) ++ ((zb_r G (b 2) K) ++ zb_r G (b 3) K)).Perm ((zb_r G (b 2) K ++ zb_r G (b 3) K) ++ (zb_6 G b (nI 0) sz ac sp ou)) from (show ((zb_6 G b (nI 0) sz ac sp ou) ++ ((zb_r G (b 2) K) ++ zb_r G (b 3) K)).Perm ((zb_r G (b 2) K) ++ ((zb_r G (b 3) K) ++ zb_6 G b (nI 0) sz ac sp ou)) from (((List.Perm.append_left _ List.perm_append_comm).trans (List.perm_append_comm_assoc _ _ _))).trans ((List.Perm.append_left _ List.perm_append_comm).trans (List.perm_append_comm_assoc _ _ _))).trans (List.Perm.of_eq (by simp only [List.append_assoc, List.append_nil, List.nil_append]))).symm
    have hD : va_D A ((zb_6 G b (nI 0) sz ac sp ou) ++ ((zb_r G (b 2) K) ++ zb_r G (b 3) K)) := zk_Dperm hD (show ((zb_6 G b (nI 0) sz ac sp ou) ++ ((zb_r G (b 2) K) ++ zb_r G (b 3) K)).Perm ((zb_r G (b 2) K ++ zb_r G (b 3) K) ++ (zb_6 G b (nI 0) sz ac sp ou)) from (show ((zb_6 G b (nI 0) sz ac sp ou) ++ ((zb_r G (b 2) K) ++ zb_r G (b 3) K)).Perm ((zb_r G (b 2) K) ++ ((zb_r G (b 3) K) ++ zb_6 G b (nI 0) sz ac sp ou)) from (((List.Perm.append_left _ List.perm_append_comm).trans (List.perm_append_comm_assoc _ _ _))).trans ((List.Perm.append_left _ List.perm_append_comm).trans (List.perm_append_comm_assoc _ _ _))).trans (List.Perm.of_eq (by simp only [List.append_assoc, List.append_nil, List.nil_append]))).symm
    refine lv_aload_n hx hb dX6_ifPrice_39 rfl (lv_at hl 0 rfl) ?_
    refine va_get (D := G.1) (ci := 5) (v := .ref (b 3)) (C := RX6) (T := TX6) (N := 11) hx hb hts (fun _ h => List.mem_cons_of_mem _ (List.mem_append_right _ h)) hown hK hP 0 rfl rfl 4 (by decide) w3 (fun _ h9 => h9) rfl dX6_ifPrice_40 ?_
    refine lv_iconst (v := nI 2) hx hb dX6_ifPrice_43 (by decide) ?_
    refine lv_iload_n hx hb dX6_ifPrice_44 rfl (lv_at hl 1 rfl) ?_
    refine zk_iastN hx hb hK hP hD hS 2 0 rfl rfl (k := 2) (n := 1555) (by omega) (by omega) dX6_ifPrice_45 (fun H locs hP hD hS => ?_)
    obtain ⟨L14, eL14⟩ : ∃ z : zL, z = up2 K 0 2 pr := ⟨_, rfl⟩
    have hP : va_P G.1 vwCl ((zb_6 G b (nI 0) sz ac sp ou) ++ ((zb_r G (b 2) K) ++ zb_r G (b 3) L14)) H := by rw [eL14, show zb_r G (b 3) (up2 K 0 2 pr) = [zk_a (b 3) (G.2.1 0) 1555 (upd (zrow K) 2 pr)] from (congrArg (fun f => [zk_a (b 3) (G.2.1 0) 1555 f]) (zup_l K pr (by omega))).symm]; exact hP
    have hD : va_D A ((zb_6 G b (nI 0) sz ac sp ou) ++ ((zb_r G (b 2) K) ++ zb_r G (b 3) L14)) := by rw [eL14, show zb_r G (b 3) (up2 K 0 2 pr) = [zk_a (b 3) (G.2.1 0) 1555 (upd (zrow K) 2 pr)] from (congrArg (fun f => [zk_a (b 3) (G.2.1 0) 1555 f]) (zup_l K pr (by omega))).symm]; exact hD
    have hI15 : sInv L14 n t := by rw [eL14]; exact sInv_num hI (by decide) (by decide)
    refine lv_aload_n hx hb dX6_ifPrice_46 rfl (lv_at hl 0 rfl) ?_
    have hP0 : va_P G.1 vwCl ((zb_6 G b (nI 0) sz ac sp ou ++ zb_r G (b 3) L14) ++ (zb_r G (b 2) K)) H := zk_Pperm hP (show ((zb_6 G b (nI 0) sz ac sp ou) ++ ((zb_r G (b 2) K) ++ zb_r G (b 3) L14)).Perm ((zb_6 G b (nI 0) sz ac sp ou ++ zb_r G (b 3) L14) ++ (zb_r G (b 2) K)) from (show ((zb_6 G b (nI 0) sz ac sp ou) ++ ((zb_r G (b 2) K) ++ zb_r G (b 3) L14)).Perm ((zb_6 G b (nI 0) sz ac sp ou) ++ ((zb_r G (b 3) L14) ++ zb_r G (b 2) K)) from (((List.Perm.append_left _ List.perm_append_comm).trans (List.perm_append_comm_assoc _ _ _))).trans (List.perm_append_comm_assoc _ _ _)).trans (List.Perm.of_eq (by simp only [List.append_assoc, List.append_nil, List.nil_append])))
    have hD0 : va_D A ((zb_6 G b (nI 0) sz ac sp ou ++ zb_r G (b 3) L14) ++ (zb_r G (b 2) K)) := zk_Dperm hD (show ((zb_6 G b (nI 0) sz ac sp ou) ++ ((zb_r G (b 2) K) ++ zb_r G (b 3) L14)).Perm ((zb_6 G b (nI 0) sz ac sp ou ++ zb_r G (b 3) L14) ++ (zb_r G (b 2) K)) from (show ((zb_6 G b (nI 0) sz ac sp ou) ++ ((zb_r G (b 2) K) ++ zb_r G (b 3) L14)).Perm ((zb_6 G b (nI 0) sz ac sp ou) ++ ((zb_r G (b 3) L14) ++ zb_r G (b 2) K)) from (((List.Perm.append_left _ List.perm_append_comm).trans (List.perm_append_comm_assoc _ _ _))).trans (List.perm_append_comm_assoc _ _ _)).trans (List.Perm.of_eq (by simp only [List.append_assoc, List.append_nil, List.nil_append])))
    refine zk_callI (wr := zb_r G (b 2) K) (va_runV (As := []) (rest := []) ⟨hx, hb, hml, hown, hts⟩ (c_X6_goOn l G b (nI 0) sz ac sp ou L14 n t hI15 (by rw [eL14]; exact h10_3.1) _) (cwV 0 hts gX6_ifPrice_X6_goOn rfl rfl rfl (by decide +kernel) ⟨Nat.le_of_ble_eq_true rfl, Nat.le_of_ble_eq_true rfl⟩) (zk_preV hE hA0 hS (zk_Papp hP0).1 (zk_Dapp hD0).1 (va_recv hK hP0 (ci := 5) (q0 := 0) rfl rfl)) rfl rfl hl.1 rfl (lv_room (Nat.le_of_ble_eq_true rfl)) dX6_ifPrice_47 ⟨Nat.le_of_ble_eq_true rfl, Nat.le_of_ble_eq_true rfl⟩) hP0 hD0 hS hA (fun r16 u17 H locs q18 hP hD hS => ?_)
    obtain ⟨er16, eL19⟩ := q18
    have hI20 : sInv u17 n (t + (40 - t)) := by rw [eL19]; exact sInv_kDays hI15 _ (by omega)
    have hP : va_P G.1 vwCl ((zb_6 G b (nI 0) sz ac sp ou) ++ ((zb_r G (b 2) K) ++ zb_r G (b 3) u17)) H := zk_Pperm hP (show ((zb_6 G b (nI 0) sz ac sp ou) ++ ((zb_r G (b 2) K) ++ zb_r G (b 3) u17)).Perm ((zb_6 G b (nI 0) sz ac sp ou ++ zb_r G (b 3) u17) ++ (zb_r G (b 2) K)) from (show ((zb_6 G b (nI 0) sz ac sp ou) ++ ((zb_r G (b 2) K) ++ zb_r G (b 3) u17)).Perm ((zb_6 G b (nI 0) sz ac sp ou) ++ ((zb_r G (b 3) u17) ++ zb_r G (b 2) K)) from (((List.Perm.append_left _ List.perm_append_comm).trans (List.perm_append_comm_assoc _ _ _))).trans (List.perm_append_comm_assoc _ _ _)).trans (List.Perm.of_eq (by simp only [List.append_assoc, List.append_nil, List.nil_append]))).symm
    have hD : va_D A ((zb_6 G b (nI 0) sz ac sp ou) ++ ((zb_r G (b 2) K) ++ zb_r G (b 3) u17)) := zk_Dperm hD (show ((zb_6 G b (nI 0) sz ac sp ou) ++ ((zb_r G (b 2) K) ++ zb_r G (b 3) u17)).Perm ((zb_6 G b (nI 0) sz ac sp ou ++ zb_r G (b 3) u17) ++ (zb_r G (b 2) K)) from (show ((zb_6 G b (nI 0) sz ac sp ou) ++ ((zb_r G (b 2) K) ++ zb_r G (b 3) u17)).Perm ((zb_6 G b (nI 0) sz ac sp ou) ++ ((zb_r G (b 3) u17) ++ zb_r G (b 2) K)) from (((List.Perm.append_left _ List.perm_append_comm).trans (List.perm_append_comm_assoc _ _ _))).trans (List.perm_append_comm_assoc _ _ _)).trans (List.Perm.of_eq (by simp only [List.append_assoc, List.append_nil, List.nil_append]))).symm
    exact zk_reti (nI 0, u17) hQ hx hb hr hlocks hS hP hD (Nat.le_of_ble_eq_true rfl) (Nat.le_of_ble_eq_true rfl) dX6_ifPrice_50 (Or.inl ⟨h10_3.1, h10_3.2, rfl, by rw [← eL14, ← eL19]; exact er16⟩)

abbrev rmX6_bestEntitled : Room := { frames := 5, cells := 0, slots := 0, locals := 116 }
set_option maxHeartbeats 4000000 in
set_option maxRecDepth 100000 in
/-- the child that would be entitled best -/
theorem c_X6_bestEntitled (l : Launch) (G : zk_G) (b : Nat → Nat) (rf sz ac sp ou : Int32) (K : zL) (n t : Nat) (hI : sInv K n t) (hp0 : ¬ K 0 2 < nI 1) (Z : zL) : zk_I (S := Int32 × zL) l yX6_bestEntitled wsX6_bestEntitled rmX6_bestEntitled G [.ref (b 0)] ((zb_6 G b rf sz ac sp ou) ++ ((zb_r G (b 2) K) ++ zb_r G (b 3) Z)) (fun r u => r = (kBest K n t n).1 ∧ u.1 = 0) (fun u => zb_6 G b u.1 sz ac sp ou ++ (zb_r G (b 2) K ++ zb_r G (b 3) u.2)) := by
  refine zk_bodyI (cc := cX6_bestEntitled) (maxL := 6) (ret := (some .int)) (by decide) rfl (Nat.le_of_ble_eq_true rfl) ?_
  intro p E0 s m args below meth cd A ls Q hF hQ
  obtain ⟨hx, hb, hml, hr, hts, hown, hlocks, -, hE, hP, hD, hS, hA, hA0, hl⟩ := hF
  have hK := hE.1
  have hl : lv_has ls 6 [(0, .ref (b 0))] := hl
  obtain ⟨hn, hn12, ht, ht40, hfam, hpay⟩ := id hI
  have w1 := hts _ (List.mem_of_getElem? (l := wsX6_bestEntitled) (i := 1) (a := Cond.fieldLink RX6 33 "MealAccountsModel" "refusal" "I") rfl)
  have w2 := hts _ (List.mem_of_getElem? (l := wsX6_bestEntitled) (i := 2) (a := Cond.fieldLink RX6 13 "MealAccountsModel" "now" "[I") rfl)
  have w3 := hts _ (List.mem_of_getElem? (l := wsX6_bestEntitled) (i := 3) (a := Cond.fieldLink RX6 16 "MealAccountsModel" "trial" "[I") rfl)
  refine lv_aload_n hx hb dX6_bestEntitled_0 rfl (lv_at hl 0 rfl) ?_
  refine lv_iconst (v := nI 0) hx hb dX6_bestEntitled_1 (by decide) ?_
  refine va_put (D := G.1) (ci := 5) (v := .int (nI 0)) (ty := .int) (C := RX6) (T := TX6) (N := 11) hx hb hts (fun _ h => List.mem_cons_of_mem _ (List.mem_append_right _ h)) tyX6 tyX6_ok nmX6 hown hK hP hD hS 0 rfl rfl 0 (by decide) w1 (fun _ h9 => h9) rfl (by decide +kernel) rfl rfl (Nat.le_of_ble_eq_true rfl) dX6_bestEntitled_2 (fun H locs hP hD hS => ?_)
  have hP : va_P G.1 vwCl ((zb_6 G b (nI 0) sz ac sp ou) ++ ((zb_r G (b 2) K) ++ zb_r G (b 3) Z)) H := hP
  have hD : va_D A ((zb_6 G b (nI 0) sz ac sp ou) ++ ((zb_r G (b 2) K) ++ zb_r G (b 3) Z)) := hD
  refine lv_iconst (v := -1) hx hb dX6_bestEntitled_5 (by decide) ?_
  refine lv_topi (fun x1 ex1 => ?_)
  refine lv_istore_n (lv' := [(1, .int x1), (0, .ref (b 0))]) hx hb dX6_bestEntitled_6 rfl hl (by decide) rfl (fun ls hl => ?_)
  refine lv_iconst (v := nI 0) hx hb dX6_bestEntitled_7 (by decide) ?_
  refine lv_istore_n (lv' := [(2, .int (nI 0)), (1, .int x1), (0, .ref (b 0))]) hx hb dX6_bestEntitled_8 rfl hl (by decide) rfl (fun ls hl => ?_)
  refine lv_iconst (v := nI 0) hx hb dX6_bestEntitled_9 (by decide) ?_
  refine lv_istore_n (lv' := [(3, .int (nI 0)), (2, .int (nI 0)), (1, .int x1), (0, .ref (b 0))]) hx hb dX6_bestEntitled_10 rfl hl (by decide) rfl (fun ls hl => ?_)
  have lp2 : ∀ (n4 : Nat) (i : Nat) (x : Int32) (y : Int32) (X : zL), n - i < n4 → (i ≤ n) → ((x, y) = kBest K n t i) → ∀ (H : Heap) (locs : List Loc) (hP : va_P G.1 vwCl ((zb_6 G b (nI 0) sz ac sp ou) ++ ((zb_r G (b 2) K) ++ zb_r G (b 3) X)) H) (hD : va_D A ((zb_6 G b (nI 0) sz ac sp ou) ++ ((zb_r G (b 2) K) ++ zb_r G (b 3) X))) (hS : va_S A s.heap H locs) (ls : Array Slot), lv_has ls 6 [(3, .int (nI i)), (2, .int y), (1, .int x), (0, .ref (b 0))] → W p l E0 rmX6_bestEntitled s m args below meth cd H locs 0 0 Q (F0 m 11 ls []) := by
    intro n4
    induction n4 with
    | zero => intro i x y X hz; exact absurd hz (Nat.not_lt_zero _)
    | succ n4 ih3 =>
      intro i x y X hm hi hq H locs hP hD hS ls hl
      refine lv_iload_n hx hb dX6_bestEntitled_11 rfl (lv_at hl 0 rfl) ?_
      refine lv_aload_n hx hb dX6_bestEntitled_12 rfl (lv_at hl 3 rfl) ?_
      refine va_get (D := G.1) (ci := 5) (v := .ref (b 2)) (C := RX6) (T := TX6) (N := 11) hx hb hts (fun _ h => List.mem_cons_of_mem _ (List.mem_append_right _ h)) hown hK hP 0 rfl rfl 3 (by decide) w2 (fun _ h9 => h9) rfl dX6_bestEntitled_13 ?_
      refine lv_iconst (v := nI 1) hx hb dX6_bestEntitled_16 (by decide) ?_
      refine zk_ialdN hx hb hK hP 1 0 rfl rfl (k := 1) (n := 1555) (by omega) (by omega) dX6_bestEntitled_17 ?_
      refine zk_top (zrow_l K (c := 1) (by omega)) ?_
      refine zk_top hI.1 ?_
      refine lv_icmp_ge (tgt := 110) hx hb dX6_bestEntitled_18 (by decide) (fun h18_4 => ?_) (fun h18_4 => ?_)
      · have h18_4 := zk_le (by omega) (by omega) h18_4
        refine lv_iload_n hx hb dX6_bestEntitled_110 rfl (lv_at hl 2 rfl) ?_
        exact zk_reti (nI 0, X) hQ hx hb hr hlocks hS hP hD (Nat.le_of_ble_eq_true rfl) (Nat.le_of_ble_eq_true rfl) dX6_bestEntitled_111 (⟨by rw [show i = n by omega] at hq; exact congrArg Prod.fst hq, rfl⟩)
      · have h18_4 := zk_nle (by omega) (by omega) h18_4
        refine lv_aload_n hx hb dX6_bestEntitled_21 rfl (lv_at hl 3 rfl) ?_
        refine va_get (D := G.1) (ci := 5) (v := .ref (b 2)) (C := RX6) (T := TX6) (N := 11) hx hb hts (fun _ h => List.mem_cons_of_mem _ (List.mem_append_right _ h)) hown hK hP 0 rfl rfl 3 (by decide) w2 (fun _ h9 => h9) rfl dX6_bestEntitled_22 ?_
        refine lv_iconst (v := nI 0) hx hb dX6_bestEntitled_25 (by decide) ?_
        refine lv_aload_n hx hb dX6_bestEntitled_26 rfl (lv_at hl 3 rfl) ?_
        refine va_get (D := G.1) (ci := 5) (v := .ref (b 3)) (C := RX6) (T := TX6) (N := 11) hx hb hts (fun _ h => List.mem_cons_of_mem _ (List.mem_append_right _ h)) hown hK hP 0 rfl rfl 4 (by decide) w3 (fun _ h9 => h9) rfl dX6_bestEntitled_27 ?_
        refine lv_iconst (v := nI 0) hx hb dX6_bestEntitled_30 (by decide) ?_
        have hP0 : va_P G.1 vwCl ((zb_r G (b 2) K ++ zb_r G (b 3) X) ++ (zb_6 G b (nI 0) sz ac sp ou)) H := zk_Pperm hP (show ((zb_6 G b (nI 0) sz ac sp ou) ++ ((zb_r G (b 2) K) ++ zb_r G (b 3) X)).Perm ((zb_r G (b 2) K ++ zb_r G (b 3) X) ++ (zb_6 G b (nI 0) sz ac sp ou)) from (show ((zb_6 G b (nI 0) sz ac sp ou) ++ ((zb_r G (b 2) K) ++ zb_r G (b 3) X)).Perm ((zb_r G (b 2) K) ++ ((zb_r G (b 3) X) ++ zb_6 G b (nI 0) sz ac sp ou)) from (((List.Perm.append_left _ List.perm_append_comm).trans (List.perm_append_comm_assoc _ _ _))).trans ((List.Perm.append_left _ List.perm_append_comm).trans (List.perm_append_comm_assoc _ _ _))).trans (List.Perm.of_eq (by simp only [List.append_assoc, List.append_nil, List.nil_append])))
        have hD0 : va_D A ((zb_r G (b 2) K ++ zb_r G (b 3) X) ++ (zb_6 G b (nI 0) sz ac sp ou)) := zk_Dperm hD (show ((zb_6 G b (nI 0) sz ac sp ou) ++ ((zb_r G (b 2) K) ++ zb_r G (b 3) X)).Perm ((zb_r G (b 2) K ++ zb_r G (b 3) X) ++ (zb_6 G b (nI 0) sz ac sp ou)) from (show ((zb_6 G b (nI 0) sz ac sp ou) ++ ((zb_r G (b 2) K) ++ zb_r G (b 3) X)).Perm ((zb_r G (b 2) K) ++ ((zb_r G (b 3) X) ++ zb_6 G b (nI 0) sz ac sp ou)) from (((List.Perm.append_left _ List.perm_append_comm).trans (List.perm_append_comm_assoc _ _ _))).trans ((List.Perm.append_left _ List.perm_append_comm).trans (List.perm_append_comm_assoc _ _ _))).trans (List.Perm.of_eq (by simp only [List.append_assoc, List.append_nil, List.nil_append])))
        refine zk_callV (wr := zb_6 G b (nI 0) sz ac sp ou) (va_runS (As := [.ref (b 2), .int (nI 0), .ref (b 3), .int (nI 0)]) (rest := []) ⟨hx, hb, hml, hown, hts⟩ (c_X6_copyTerm l G (b 2) 1555 0 (b 3) 1555 0 (zrow K) (zrow X) (by omega) (by omega) (by decide) (by decide) _) (cwS 4 hts gX6_bestEntitled_X6_copyTerm rfl rfl rfl (by decide +kernel) ⟨Nat.le_of_ble_eq_true rfl, Nat.le_of_ble_eq_true rfl⟩) (zk_preS hE hA0 hS (zk_Papp hP0).1 (zk_Dapp hD0).1) rfl rfl hl.1 rfl (lv_room (Nat.le_of_ble_eq_true rfl)) dX6_bestEntitled_31 ⟨Nat.le_of_ble_eq_true rfl, Nat.le_of_ble_eq_true rfl⟩) hP0 hD0 hS hA (fun u7 H locs q8 hP hD hS => ?_)
        subst q8
        obtain ⟨hP, hD⟩ := zk_cong (q0 := 1) (g := zrow K) hP hD rfl (kcp_rr K _)
        have hP : va_P G.1 vwCl ((zb_r G (b 2) K ++ zb_r G (b 3) K) ++ (zb_6 G b (nI 0) sz ac sp ou)) H := hP
        have hD : va_D A ((zb_r G (b 2) K ++ zb_r G (b 3) K) ++ (zb_6 G b (nI 0) sz ac sp ou)) := hD
        have hP : va_P G.1 vwCl ((zb_6 G b (nI 0) sz ac sp ou) ++ ((zb_r G (b 2) K) ++ zb_r G (b 3) K)) H := zk_Pperm hP (show ((zb_6 G b (nI 0) sz ac sp ou) ++ ((zb_r G (b 2) K) ++ zb_r G (b 3) K)).Perm ((zb_r G (b 2) K ++ zb_r G (b 3) K) ++ (zb_6 G b (nI 0) sz ac sp ou)) from (show ((zb_6 G b (nI 0) sz ac sp ou) ++ ((zb_r G (b 2) K) ++ zb_r G (b 3) K)).Perm ((zb_r G (b 2) K) ++ ((zb_r G (b 3) K) ++ zb_6 G b (nI 0) sz ac sp ou)) from (((List.Perm.append_left _ List.perm_append_comm).trans (List.perm_append_comm_assoc _ _ _))).trans ((List.Perm.append_left _ List.perm_append_comm).trans (List.perm_append_comm_assoc _ _ _))).trans (List.Perm.of_eq (by simp only [List.append_assoc, List.append_nil, List.nil_append]))).symm
        have hD : va_D A ((zb_6 G b (nI 0) sz ac sp ou) ++ ((zb_r G (b 2) K) ++ zb_r G (b 3) K)) := zk_Dperm hD (show ((zb_6 G b (nI 0) sz ac sp ou) ++ ((zb_r G (b 2) K) ++ zb_r G (b 3) K)).Perm ((zb_r G (b 2) K ++ zb_r G (b 3) K) ++ (zb_6 G b (nI 0) sz ac sp ou)) from (show ((zb_6 G b (nI 0) sz ac sp ou) ++ ((zb_r G (b 2) K) ++ zb_r G (b 3) K)).Perm ((zb_r G (b 2) K) ++ ((zb_r G (b 3) K) ++ zb_6 G b (nI 0) sz ac sp ou)) from (((List.Perm.append_left _ List.perm_append_comm).trans (List.perm_append_comm_assoc _ _ _))).trans ((List.Perm.append_left _ List.perm_append_comm).trans (List.perm_append_comm_assoc _ _ _))).trans (List.Perm.of_eq (by simp only [List.append_assoc, List.append_nil, List.nil_append]))).symm
        refine lv_aload_n hx hb dX6_bestEntitled_34 rfl (lv_at hl 3 rfl) ?_
        refine va_get (D := G.1) (ci := 5) (v := .ref (b 3)) (C := RX6) (T := TX6) (N := 11) hx hb hts (fun _ h => List.mem_cons_of_mem _ (List.mem_append_right _ h)) hown hK hP 0 rfl rfl 4 (by decide) w3 (fun _ h9 => h9) rfl dX6_bestEntitled_35 ?_
        refine lv_iload_n hx hb dX6_bestEntitled_38 rfl (lv_at hl 0 rfl) ?_
        refine lv_iconst (v := nI 0) hx hb dX6_bestEntitled_39 (by decide) ?_
        refine lv_bipush (v := nI 39) hx hb dX6_bestEntitled_40 (by decide) ?_
        have hP0 : va_P G.1 vwCl ((zb_r G (b 3) K) ++ ((zb_6 G b (nI 0) sz ac sp ou) ++ zb_r G (b 2) K)) H := zk_Pperm hP (show ((zb_6 G b (nI 0) sz ac sp ou) ++ ((zb_r G (b 2) K) ++ zb_r G (b 3) K)).Perm ((zb_r G (b 3) K) ++ ((zb_6 G b (nI 0) sz ac sp ou) ++ zb_r G (b 2) K)) from (show ((zb_6 G b (nI 0) sz ac sp ou) ++ ((zb_r G (b 2) K) ++ zb_r G (b 3) K)).Perm ((zb_r G (b 3) K) ++ ((zb_6 G b (nI 0) sz ac sp ou) ++ zb_r G (b 2) K)) from ((List.Perm.append_left _ List.perm_append_comm).trans (List.perm_append_comm_assoc _ _ _))).trans (List.Perm.of_eq (by simp only [List.append_assoc, List.append_nil, List.nil_append])))
        have hD0 : va_D A ((zb_r G (b 3) K) ++ ((zb_6 G b (nI 0) sz ac sp ou) ++ zb_r G (b 2) K)) := zk_Dperm hD (show ((zb_6 G b (nI 0) sz ac sp ou) ++ ((zb_r G (b 2) K) ++ zb_r G (b 3) K)).Perm ((zb_r G (b 3) K) ++ ((zb_6 G b (nI 0) sz ac sp ou) ++ zb_r G (b 2) K)) from (show ((zb_6 G b (nI 0) sz ac sp ou) ++ ((zb_r G (b 2) K) ++ zb_r G (b 3) K)).Perm ((zb_r G (b 3) K) ++ ((zb_6 G b (nI 0) sz ac sp ou) ++ zb_r G (b 2) K)) from ((List.Perm.append_left _ List.perm_append_comm).trans (List.perm_append_comm_assoc _ _ _))).trans (List.Perm.of_eq (by simp only [List.append_assoc, List.append_nil, List.nil_append])))
        refine zk_callI (wr := (zb_6 G b (nI 0) sz ac sp ou) ++ zb_r G (b 2) K) (va_runS (As := [.ref (b 3), .int (nI i), .int (nI 0), .int (nI 39)]) (rest := []) ⟨hx, hb, hml, hown, hts⟩ (c_X6_entitleOn l G (b 3) K n t hI i (nI 0) (nI 39) (by omega) _) (cwS 4 hts gX6_bestEntitled_X6_entitleOn rfl rfl rfl (by decide +kernel) ⟨Nat.le_of_ble_eq_true rfl, Nat.le_of_ble_eq_true rfl⟩) (zk_preS hE hA0 hS (zk_Papp hP0).1 (zk_Dapp hD0).1) rfl rfl hl.1 rfl (lv_room (Nat.le_of_ble_eq_true rfl)) dX6_bestEntitled_42 ⟨Nat.le_of_ble_eq_true rfl, Nat.le_of_ble_eq_true rfl⟩) hP0 hD0 hS hA (fun r9 u10 H locs q11 hP hD hS => ?_)
        obtain ⟨er9, eL12⟩ := q11
        have hI13 : sInv u10 n t := by rw [eL12]; exact sInv_entitle (nI 0) (nI 39) hI (by omega) (by omega) _ (by omega)
        have hP : va_P G.1 vwCl ((zb_6 G b (nI 0) sz ac sp ou) ++ ((zb_r G (b 2) K) ++ zb_r G (b 3) u10)) H := zk_Pperm hP (show ((zb_6 G b (nI 0) sz ac sp ou) ++ ((zb_r G (b 2) K) ++ zb_r G (b 3) u10)).Perm ((zb_r G (b 3) u10) ++ ((zb_6 G b (nI 0) sz ac sp ou) ++ zb_r G (b 2) K)) from (show ((zb_6 G b (nI 0) sz ac sp ou) ++ ((zb_r G (b 2) K) ++ zb_r G (b 3) u10)).Perm ((zb_r G (b 3) u10) ++ ((zb_6 G b (nI 0) sz ac sp ou) ++ zb_r G (b 2) K)) from ((List.Perm.append_left _ List.perm_append_comm).trans (List.perm_append_comm_assoc _ _ _))).trans (List.Perm.of_eq (by simp only [List.append_assoc, List.append_nil, List.nil_append]))).symm
        have hD : va_D A ((zb_6 G b (nI 0) sz ac sp ou) ++ ((zb_r G (b 2) K) ++ zb_r G (b 3) u10)) := zk_Dperm hD (show ((zb_6 G b (nI 0) sz ac sp ou) ++ ((zb_r G (b 2) K) ++ zb_r G (b 3) u10)).Perm ((zb_r G (b 3) u10) ++ ((zb_6 G b (nI 0) sz ac sp ou) ++ zb_r G (b 2) K)) from (show ((zb_6 G b (nI 0) sz ac sp ou) ++ ((zb_r G (b 2) K) ++ zb_r G (b 3) u10)).Perm ((zb_r G (b 3) u10) ++ ((zb_6 G b (nI 0) sz ac sp ou) ++ zb_r G (b 2) K)) from ((List.Perm.append_left _ List.perm_append_comm).trans (List.perm_append_comm_assoc _ _ _))).trans (List.Perm.of_eq (by simp only [List.append_assoc, List.append_nil, List.nil_append]))).symm
        refine lv_pop hx hb dX6_bestEntitled_45 rfl ?_
        refine lv_aload_n hx hb dX6_bestEntitled_46 rfl (lv_at hl 3 rfl) ?_
        have hP0 : va_P G.1 vwCl ((zb_6 G b (nI 0) sz ac sp ou ++ zb_r G (b 3) u10) ++ (zb_r G (b 2) K)) H := zk_Pperm hP (show ((zb_6 G b (nI 0) sz ac sp ou) ++ ((zb_r G (b 2) K) ++ zb_r G (b 3) u10)).Perm ((zb_6 G b (nI 0) sz ac sp ou ++ zb_r G (b 3) u10) ++ (zb_r G (b 2) K)) from (show ((zb_6 G b (nI 0) sz ac sp ou) ++ ((zb_r G (b 2) K) ++ zb_r G (b 3) u10)).Perm ((zb_6 G b (nI 0) sz ac sp ou) ++ ((zb_r G (b 3) u10) ++ zb_r G (b 2) K)) from (((List.Perm.append_left _ List.perm_append_comm).trans (List.perm_append_comm_assoc _ _ _))).trans (List.perm_append_comm_assoc _ _ _)).trans (List.Perm.of_eq (by simp only [List.append_assoc, List.append_nil, List.nil_append])))
        have hD0 : va_D A ((zb_6 G b (nI 0) sz ac sp ou ++ zb_r G (b 3) u10) ++ (zb_r G (b 2) K)) := zk_Dperm hD (show ((zb_6 G b (nI 0) sz ac sp ou) ++ ((zb_r G (b 2) K) ++ zb_r G (b 3) u10)).Perm ((zb_6 G b (nI 0) sz ac sp ou ++ zb_r G (b 3) u10) ++ (zb_r G (b 2) K)) from (show ((zb_6 G b (nI 0) sz ac sp ou) ++ ((zb_r G (b 2) K) ++ zb_r G (b 3) u10)).Perm ((zb_6 G b (nI 0) sz ac sp ou) ++ ((zb_r G (b 3) u10) ++ zb_r G (b 2) K)) from (((List.Perm.append_left _ List.perm_append_comm).trans (List.perm_append_comm_assoc _ _ _))).trans (List.perm_append_comm_assoc _ _ _)).trans (List.Perm.of_eq (by simp only [List.append_assoc, List.append_nil, List.nil_append])))
        refine zk_callI (wr := zb_r G (b 2) K) (va_runV (As := []) (rest := []) ⟨hx, hb, hml, hown, hts⟩ (c_X6_goOn l G b (nI 0) sz ac sp ou u10 n t hI13 (by rw [eL12, sEntitle_r0]; exact hp0) _) (cwV 0 hts gX6_bestEntitled_X6_goOn rfl rfl rfl (by decide +kernel) ⟨Nat.le_of_ble_eq_true rfl, Nat.le_of_ble_eq_true rfl⟩) (zk_preV hE hA0 hS (zk_Papp hP0).1 (zk_Dapp hD0).1 (va_recv hK hP0 (ci := 5) (q0 := 0) rfl rfl)) rfl rfl hl.1 rfl (lv_room (Nat.le_of_ble_eq_true rfl)) dX6_bestEntitled_47 ⟨Nat.le_of_ble_eq_true rfl, Nat.le_of_ble_eq_true rfl⟩) hP0 hD0 hS hA (fun r14 u15 H locs q16 hP hD hS => ?_)
        obtain ⟨er14, eL17⟩ := q16
        have hI18 : sInv u15 n (t + (40 - t)) := by rw [eL17]; exact sInv_kDays hI13 _ (by omega)
        have hP : va_P G.1 vwCl ((zb_6 G b (nI 0) sz ac sp ou) ++ ((zb_r G (b 2) K) ++ zb_r G (b 3) u15)) H := zk_Pperm hP (show ((zb_6 G b (nI 0) sz ac sp ou) ++ ((zb_r G (b 2) K) ++ zb_r G (b 3) u15)).Perm ((zb_6 G b (nI 0) sz ac sp ou ++ zb_r G (b 3) u15) ++ (zb_r G (b 2) K)) from (show ((zb_6 G b (nI 0) sz ac sp ou) ++ ((zb_r G (b 2) K) ++ zb_r G (b 3) u15)).Perm ((zb_6 G b (nI 0) sz ac sp ou) ++ ((zb_r G (b 3) u15) ++ zb_r G (b 2) K)) from (((List.Perm.append_left _ List.perm_append_comm).trans (List.perm_append_comm_assoc _ _ _))).trans (List.perm_append_comm_assoc _ _ _)).trans (List.Perm.of_eq (by simp only [List.append_assoc, List.append_nil, List.nil_append]))).symm
        have hD : va_D A ((zb_6 G b (nI 0) sz ac sp ou) ++ ((zb_r G (b 2) K) ++ zb_r G (b 3) u15)) := zk_Dperm hD (show ((zb_6 G b (nI 0) sz ac sp ou) ++ ((zb_r G (b 2) K) ++ zb_r G (b 3) u15)).Perm ((zb_6 G b (nI 0) sz ac sp ou ++ zb_r G (b 3) u15) ++ (zb_r G (b 2) K)) from (show ((zb_6 G b (nI 0) sz ac sp ou) ++ ((zb_r G (b 2) K) ++ zb_r G (b 3) u15)).Perm ((zb_6 G b (nI 0) sz ac sp ou) ++ ((zb_r G (b 3) u15) ++ zb_r G (b 2) K)) from (((List.Perm.append_left _ List.perm_append_comm).trans (List.perm_append_comm_assoc _ _ _))).trans (List.perm_append_comm_assoc _ _ _)).trans (List.Perm.of_eq (by simp only [List.append_assoc, List.append_nil, List.nil_append]))).symm
        refine lv_pop hx hb dX6_bestEntitled_50 rfl ?_
        refine lv_aload_n hx hb dX6_bestEntitled_51 rfl (lv_at hl 3 rfl) ?_
        refine va_get (D := G.1) (ci := 5) (v := .ref (b 3)) (C := RX6) (T := TX6) (N := 11) hx hb hts (fun _ h => List.mem_cons_of_mem _ (List.mem_append_right _ h)) hown hK hP 0 rfl rfl 4 (by decide) w3 (fun _ h9 => h9) rfl dX6_bestEntitled_52 ?_
        refine lv_iconst (v := -1) hx hb dX6_bestEntitled_55 (by decide) ?_
        refine lv_iconst (v := -1) hx hb dX6_bestEntitled_56 (by decide) ?_
        refine lv_iconst (v := nI 4) hx hb dX6_bestEntitled_57 (by decide) ?_
        have hP0 : va_P G.1 vwCl ((zb_r G (b 3) u15) ++ ((zb_6 G b (nI 0) sz ac sp ou) ++ zb_r G (b 2) K)) H := zk_Pperm hP (show ((zb_6 G b (nI 0) sz ac sp ou) ++ ((zb_r G (b 2) K) ++ zb_r G (b 3) u15)).Perm ((zb_r G (b 3) u15) ++ ((zb_6 G b (nI 0) sz ac sp ou) ++ zb_r G (b 2) K)) from (show ((zb_6 G b (nI 0) sz ac sp ou) ++ ((zb_r G (b 2) K) ++ zb_r G (b 3) u15)).Perm ((zb_r G (b 3) u15) ++ ((zb_6 G b (nI 0) sz ac sp ou) ++ zb_r G (b 2) K)) from ((List.Perm.append_left _ List.perm_append_comm).trans (List.perm_append_comm_assoc _ _ _))).trans (List.Perm.of_eq (by simp only [List.append_assoc, List.append_nil, List.nil_append])))
        have hD0 : va_D A ((zb_r G (b 3) u15) ++ ((zb_6 G b (nI 0) sz ac sp ou) ++ zb_r G (b 2) K)) := zk_Dperm hD (show ((zb_6 G b (nI 0) sz ac sp ou) ++ ((zb_r G (b 2) K) ++ zb_r G (b 3) u15)).Perm ((zb_r G (b 3) u15) ++ ((zb_6 G b (nI 0) sz ac sp ou) ++ zb_r G (b 2) K)) from (show ((zb_6 G b (nI 0) sz ac sp ou) ++ ((zb_r G (b 2) K) ++ zb_r G (b 3) u15)).Perm ((zb_r G (b 3) u15) ++ ((zb_6 G b (nI 0) sz ac sp ou) ++ zb_r G (b 2) K)) from ((List.Perm.append_left _ List.perm_append_comm).trans (List.perm_append_comm_assoc _ _ _))).trans (List.Perm.of_eq (by simp only [List.append_assoc, List.append_nil, List.nil_append])))
        refine zk_callI (wr := (zb_6 G b (nI 0) sz ac sp ou) ++ zb_r G (b 2) K) (va_runS (As := [.ref (b 3), .int (-1), .int (-1), .int (nI 4)]) (rest := []) ⟨hx, hb, hml, hown, hts⟩ (c_X6_count l G (b 3) u15 n (t + (40 - t)) hI18 (-1) (-1) (nI 4) _) (cwS 4 hts gX6_bestEntitled_X6_count rfl rfl rfl (by decide +kernel) ⟨Nat.le_of_ble_eq_true rfl, Nat.le_of_ble_eq_true rfl⟩) (zk_preS hE hA0 hS (zk_Papp hP0).1 (zk_Dapp hD0).1) rfl rfl hl.1 rfl (lv_room (Nat.le_of_ble_eq_true rfl)) dX6_bestEntitled_58 ⟨Nat.le_of_ble_eq_true rfl, Nat.le_of_ble_eq_true rfl⟩) hP0 hD0 hS hA (fun r19 u20 H locs q21 hP hD hS => ?_)
        subst q21
        have hP : va_P G.1 vwCl ((zb_6 G b (nI 0) sz ac sp ou) ++ ((zb_r G (b 2) K) ++ zb_r G (b 3) u15)) H := zk_Pperm hP (show ((zb_6 G b (nI 0) sz ac sp ou) ++ ((zb_r G (b 2) K) ++ zb_r G (b 3) u15)).Perm ((zb_r G (b 3) u15) ++ ((zb_6 G b (nI 0) sz ac sp ou) ++ zb_r G (b 2) K)) from (show ((zb_6 G b (nI 0) sz ac sp ou) ++ ((zb_r G (b 2) K) ++ zb_r G (b 3) u15)).Perm ((zb_r G (b 3) u15) ++ ((zb_6 G b (nI 0) sz ac sp ou) ++ zb_r G (b 2) K)) from ((List.Perm.append_left _ List.perm_append_comm).trans (List.perm_append_comm_assoc _ _ _))).trans (List.Perm.of_eq (by simp only [List.append_assoc, List.append_nil, List.nil_append]))).symm
        have hD : va_D A ((zb_6 G b (nI 0) sz ac sp ou) ++ ((zb_r G (b 2) K) ++ zb_r G (b 3) u15)) := zk_Dperm hD (show ((zb_6 G b (nI 0) sz ac sp ou) ++ ((zb_r G (b 2) K) ++ zb_r G (b 3) u15)).Perm ((zb_r G (b 3) u15) ++ ((zb_6 G b (nI 0) sz ac sp ou) ++ zb_r G (b 2) K)) from (show ((zb_6 G b (nI 0) sz ac sp ou) ++ ((zb_r G (b 2) K) ++ zb_r G (b 3) u15)).Perm ((zb_r G (b 3) u15) ++ ((zb_6 G b (nI 0) sz ac sp ou) ++ zb_r G (b 2) K)) from ((List.Perm.append_left _ List.perm_append_comm).trans (List.perm_append_comm_assoc _ _ _))).trans (List.Perm.of_eq (by simp only [List.append_assoc, List.append_nil, List.nil_append]))).symm
        have hbc : kCnt u15 n (-1) (-1) (nI 4) = kBC K n t i := by rw [eL17, eL12]; rfl
        refine lv_topi (fun x22 ex22 => ?_)
        refine lv_istore (lv' := [(4, .int x22), (3, .int (nI i)), (2, .int y), (1, .int x), (0, .ref (b 0))]) hx hb dX6_bestEntitled_61 hl (by decide) rfl (fun ls hl => ?_)
        have hbv : x22 = kBC K n t i := ex22.trans hbc
        refine lv_iload_n hx hb dX6_bestEntitled_63 rfl (lv_at hl 3 rfl) ?_
        refine lv_iconst (v := -1) hx hb dX6_bestEntitled_64 (by decide) ?_
        refine lv_icmp_eq (tgt := 74) hx hb dX6_bestEntitled_65 (by decide) (fun h65_22 => ?_) (fun h65_22 => ?_)
        · refine lv_iconst (v := nI 1) hx hb dX6_bestEntitled_74 (by decide) ?_
          refine lv_goto (tgt := 79) hx hb dX6_bestEntitled_75 (by decide) ?_
          refine lv_istore (lv' := [(5, .int (nI 1)), (4, .int x22), (3, .int (nI i)), (2, .int y), (1, .int x), (0, .ref (b 0))]) hx hb dX6_bestEntitled_79 hl (by decide) rfl (fun ls hl => ?_)
          refine lv_iload hx hb dX6_bestEntitled_81 (lv_at hl 0 rfl) ?_
          refine lv_if_eq (tgt := 90) hx hb dX6_bestEntitled_83 (by decide) (fun z => absurd z (by decide)) (fun _ => ?_)
          refine lv_iload_n hx hb dX6_bestEntitled_86 rfl (lv_at hl 2 rfl) ?_
          refine lv_goto (tgt := 91) hx hb dX6_bestEntitled_87 (by decide) ?_
          refine lv_istore_n (lv' := [(1, .int (nI i)), (5, .int (nI 1)), (4, .int x22), (3, .int (nI i)), (2, .int y), (0, .ref (b 0))]) hx hb dX6_bestEntitled_91 rfl hl (by decide) rfl (fun ls hl => ?_)
          refine lv_iload hx hb dX6_bestEntitled_92 (lv_at hl 1 rfl) ?_
          refine lv_if_eq (tgt := 102) hx hb dX6_bestEntitled_94 (by decide) (fun z => absurd z (by decide)) (fun _ => ?_)
          refine lv_iload hx hb dX6_bestEntitled_97 (lv_at hl 2 rfl) ?_
          refine lv_goto (tgt := 103) hx hb dX6_bestEntitled_99 (by decide) ?_
          refine lv_istore_n (lv' := [(2, .int x22), (1, .int (nI i)), (5, .int (nI 1)), (4, .int x22), (3, .int (nI i)), (0, .ref (b 0))]) hx hb dX6_bestEntitled_103 rfl hl (by decide) rfl (fun ls hl => ?_)
          refine lv_iinc (v := nI (i + 1)) (lv' := [(3, .int (nI (i + 1))), (2, .int x22), (1, .int (nI i)), (5, .int (nI 1)), (4, .int x22), (0, .ref (b 0))]) hx hb dX6_bestEntitled_104 hl (k := 4) rfl (zk_inc i 1) (by decide) rfl (fun ls hl => ?_)
          refine lv_goto (tgt := 11) hx hb dX6_bestEntitled_107 (by decide) ?_
          exact ih3 (i + 1) (nI i) x22 u15 (by omega) (by omega) (by refine zfold_i (f := kBStep K n t) hq ?_; show _ = kBStep K n t i (x, y); unfold kBStep; rw [if_pos (Or.inl h65_22), ← hbv]) _ _ hP hD hS ls (lv_sub hl [0, 1, 2, 5] rfl)
        · refine lv_iload hx hb dX6_bestEntitled_68 (lv_at hl 0 rfl) ?_
          refine lv_iload_n hx hb dX6_bestEntitled_70 rfl (lv_at hl 2 rfl) ?_
          refine lv_icmp_ge (tgt := 78) hx hb dX6_bestEntitled_71 (by decide) (fun h71_23 => ?_) (fun h71_23 => ?_)
          · have h71_23 := zk_l1 h71_23
            refine lv_iconst (v := nI 0) hx hb dX6_bestEntitled_78 (by decide) ?_
            refine lv_istore (lv' := [(5, .int (nI 0)), (4, .int x22), (3, .int (nI i)), (2, .int y), (1, .int x), (0, .ref (b 0))]) hx hb dX6_bestEntitled_79 hl (by decide) rfl (fun ls hl => ?_)
            refine lv_iload hx hb dX6_bestEntitled_81 (lv_at hl 0 rfl) ?_
            refine lv_if_eq (tgt := 90) hx hb dX6_bestEntitled_83 (by decide) (fun _ => ?_) (fun z => absurd (by decide) z)
            refine lv_iload_n hx hb dX6_bestEntitled_90 rfl (lv_at hl 4 rfl) ?_
            refine lv_istore_n (lv' := [(1, .int x), (5, .int (nI 0)), (4, .int x22), (3, .int (nI i)), (2, .int y), (0, .ref (b 0))]) hx hb dX6_bestEntitled_91 rfl hl (by decide) rfl (fun ls hl => ?_)
            refine lv_iload hx hb dX6_bestEntitled_92 (lv_at hl 1 rfl) ?_
            refine lv_if_eq (tgt := 102) hx hb dX6_bestEntitled_94 (by decide) (fun _ => ?_) (fun z => absurd (by decide) z)
            refine lv_iload_n hx hb dX6_bestEntitled_102 rfl (lv_at hl 4 rfl) ?_
            refine lv_istore_n (lv' := [(2, .int y), (1, .int x), (5, .int (nI 0)), (4, .int x22), (3, .int (nI i)), (0, .ref (b 0))]) hx hb dX6_bestEntitled_103 rfl hl (by decide) rfl (fun ls hl => ?_)
            refine lv_iinc (v := nI (i + 1)) (lv' := [(3, .int (nI (i + 1))), (2, .int y), (1, .int x), (5, .int (nI 0)), (4, .int x22), (0, .ref (b 0))]) hx hb dX6_bestEntitled_104 hl (k := 4) rfl (zk_inc i 1) (by decide) rfl (fun ls hl => ?_)
            refine lv_goto (tgt := 11) hx hb dX6_bestEntitled_107 (by decide) ?_
            exact ih3 (i + 1) x y u15 (by omega) (by omega) (by refine zfold_i (f := kBStep K n t) hq ?_; show _ = kBStep K n t i (x, y); unfold kBStep; exact (if_neg (fun z => z.elim h65_22 (by rw [← hbv]; exact h71_23))).symm) _ _ hP hD hS ls (lv_sub hl [0, 1, 2, 5] rfl)
          · have h71_23 := zk_l2 h71_23
            refine lv_iconst (v := nI 1) hx hb dX6_bestEntitled_74 (by decide) ?_
            refine lv_goto (tgt := 79) hx hb dX6_bestEntitled_75 (by decide) ?_
            refine lv_istore (lv' := [(5, .int (nI 1)), (4, .int x22), (3, .int (nI i)), (2, .int y), (1, .int x), (0, .ref (b 0))]) hx hb dX6_bestEntitled_79 hl (by decide) rfl (fun ls hl => ?_)
            refine lv_iload hx hb dX6_bestEntitled_81 (lv_at hl 0 rfl) ?_
            refine lv_if_eq (tgt := 90) hx hb dX6_bestEntitled_83 (by decide) (fun z => absurd z (by decide)) (fun _ => ?_)
            refine lv_iload_n hx hb dX6_bestEntitled_86 rfl (lv_at hl 2 rfl) ?_
            refine lv_goto (tgt := 91) hx hb dX6_bestEntitled_87 (by decide) ?_
            refine lv_istore_n (lv' := [(1, .int (nI i)), (5, .int (nI 1)), (4, .int x22), (3, .int (nI i)), (2, .int y), (0, .ref (b 0))]) hx hb dX6_bestEntitled_91 rfl hl (by decide) rfl (fun ls hl => ?_)
            refine lv_iload hx hb dX6_bestEntitled_92 (lv_at hl 1 rfl) ?_
            refine lv_if_eq (tgt := 102) hx hb dX6_bestEntitled_94 (by decide) (fun z => absurd z (by decide)) (fun _ => ?_)
            refine lv_iload hx hb dX6_bestEntitled_97 (lv_at hl 2 rfl) ?_
            refine lv_goto (tgt := 103) hx hb dX6_bestEntitled_99 (by decide) ?_
            refine lv_istore_n (lv' := [(2, .int x22), (1, .int (nI i)), (5, .int (nI 1)), (4, .int x22), (3, .int (nI i)), (0, .ref (b 0))]) hx hb dX6_bestEntitled_103 rfl hl (by decide) rfl (fun ls hl => ?_)
            refine lv_iinc (v := nI (i + 1)) (lv' := [(3, .int (nI (i + 1))), (2, .int x22), (1, .int (nI i)), (5, .int (nI 1)), (4, .int x22), (0, .ref (b 0))]) hx hb dX6_bestEntitled_104 hl (k := 4) rfl (zk_inc i 1) (by decide) rfl (fun ls hl => ?_)
            refine lv_goto (tgt := 11) hx hb dX6_bestEntitled_107 (by decide) ?_
            exact ih3 (i + 1) (nI i) x22 u15 (by omega) (by omega) (by refine zfold_i (f := kBStep K n t) hq ?_; show _ = kBStep K n t i (x, y); unfold kBStep; rw [if_pos (Or.inr (by rw [← hbv]; exact h71_23)), ← hbv]) _ _ hP hD hS ls (lv_sub hl [0, 1, 2, 5] rfl)
  exact lp2 _ 0 x1 (nI 0) Z (Nat.lt_succ_self _) (by omega) (by rw [ex1]; rfl) _ _ hP hD hS ls (lv_sub hl [0, 1, 2, 3] rfl)
