def mAbout (K : zL) (n t : Nat) (w : Int32) : Int32 :=
  if w = nI 0 then nI t else if w = nI 1 then nI n else if w = nI 2 then kCnt K n (-1) (-1) (nI 1) else if w = nI 3 then kSrv K n (-1) (-1) else if w = nI 4 then kCnt K n (-1) (-1) (nI 2) else if w = nI 5 then kCnt K n (-1) (-1) (nI 3) else if w = nI 6 then kCnt K n (-1) (-1) (nI 4) else if w = nI 7 then kCnt K n (-1) (-1) (nI 5) else if w = nI 8 then K 0 4 else if w = nI 9 then kChg K n (-1) (-1) else if w = nI 10 then zs (K 8) 5 else if w = nI 11 then zs (K 3) n else -1
theorem mAbout_0 {K : zL} {n t : Nat} {w : Int32} (h : w = nI 0) : mAbout K n t w = nI t := by subst h; rfl
theorem mAbout_1 {K : zL} {n t : Nat} {w : Int32} (h : w = nI 1) : mAbout K n t w = nI n := by subst h; rfl
theorem mAbout_2 {K : zL} {n t : Nat} {w : Int32} (h : w = nI 2) : mAbout K n t w = kCnt K n (-1) (-1) (nI 1) := by subst h; rfl
theorem mAbout_3 {K : zL} {n t : Nat} {w : Int32} (h : w = nI 3) : mAbout K n t w = kSrv K n (-1) (-1) := by subst h; rfl
theorem mAbout_4 {K : zL} {n t : Nat} {w : Int32} (h : w = nI 4) : mAbout K n t w = kCnt K n (-1) (-1) (nI 2) := by subst h; rfl
theorem mAbout_5 {K : zL} {n t : Nat} {w : Int32} (h : w = nI 5) : mAbout K n t w = kCnt K n (-1) (-1) (nI 3) := by subst h; rfl
theorem mAbout_6 {K : zL} {n t : Nat} {w : Int32} (h : w = nI 6) : mAbout K n t w = kCnt K n (-1) (-1) (nI 4) := by subst h; rfl
theorem mAbout_7 {K : zL} {n t : Nat} {w : Int32} (h : w = nI 7) : mAbout K n t w = kCnt K n (-1) (-1) (nI 5) := by subst h; rfl
theorem mAbout_8 {K : zL} {n t : Nat} {w : Int32} (h : w = nI 8) : mAbout K n t w = K 0 4 := by subst h; rfl
theorem mAbout_9 {K : zL} {n t : Nat} {w : Int32} (h : w = nI 9) : mAbout K n t w = kChg K n (-1) (-1) := by subst h; rfl
theorem mAbout_10 {K : zL} {n t : Nat} {w : Int32} (h : w = nI 10) : mAbout K n t w = zs (K 8) 5 := by subst h; rfl
theorem mAbout_11 {K : zL} {n t : Nat} {w : Int32} (h : w = nI 11) : mAbout K n t w = zs (K 3) n := by subst h; rfl
abbrev rmX6_about : Room := { frames := 3, cells := 0, slots := 0, locals := 70 }
set_option maxHeartbeats 4000000 in
set_option maxRecDepth 100000 in
/-- what there is -/
theorem c_X6_about (l : Launch) (G : zk_G) (b : Nat → Nat) (rf sz ac sp ou : Int32) (K : zL) (n t : Nat) (hI : sInv K n t) (w : Int32) : zk_I (S := Int32) l yX6_about wsX6_about rmX6_about G [.ref (b 0), .int w] ((zb_6 G b rf sz ac sp ou) ++ zb_r G (b 2) K) (fun r u => (zIn w 12 ∧ u = nI 0 ∧ r = mAbout K n t w) ∨ (¬ zIn w 12 ∧ u = nI 1)) (fun u => zb_6 G b u sz ac sp ou ++ zb_r G (b 2) K) := by
  refine zk_bodyI (cc := cX6_about) (maxL := 2) (ret := (some .int)) (by decide) rfl (Nat.le_of_ble_eq_true rfl) ?_
  intro p E0 s m args below meth cd A ls Q hF hQ
  obtain ⟨hx, hb, hml, hr, hts, hown, hlocks, -, hE, hP, hD, hS, hA, hA0, hl⟩ := hF
  have hK := hE.1
  have hl : lv_has ls 2 [(0, .ref (b 0)), (1, .int w)] := hl
  obtain ⟨hn, hn12, ht, ht40, hfam, hpay⟩ := id hI
  have w1 := hts _ (List.mem_of_getElem? (l := wsX6_about) (i := 1) (a := Cond.constantLong RX6 151 (11)) rfl)
  have w2 := hts _ (List.mem_of_getElem? (l := wsX6_about) (i := 2) (a := Cond.fieldLink RX6 13 "MealAccountsModel" "now" "[I") rfl)
  refine lv_aload_n hx hb dX6_about_0 rfl (lv_at hl 0 rfl) ?_
  refine lv_iload_n hx hb dX6_about_1 rfl (lv_at hl 1 rfl) ?_
  refine lv_i2l (v := w.toInt64) hx hb dX6_about_2 rfl ?_
  refine lv_lconst (v := lN 0) hx hb dX6_about_3 rfl ?_
  refine zk_topL (show lN 0 = (nI 0).toInt64 from (nI_l (by decide)).symm) ?_
  refine lv_ldc2 hx hb (v := lN 11) hown w1 dX6_about_4 ?_
  refine zk_topL (show lN 11 = (nI 11).toInt64 from (nI_l (by decide)).symm) ?_
  have hP0 : va_P G.1 vwCl (([] : va_W) ++ ((zb_6 G b rf sz ac sp ou) ++ zb_r G (b 2) K)) s.heap := hP
  have hD0 : va_D A (([] : va_W) ++ ((zb_6 G b rf sz ac sp ou) ++ zb_r G (b 2) K)) := hD
  refine zk_callI (wr := (zb_6 G b rf sz ac sp ou) ++ zb_r G (b 2) K) (va_runS (As := [.long w.toInt64, .long ((nI 0).toInt64), .long ((nI 11).toInt64)]) (rest := [.ref (b 0)]) ⟨hx, hb, hml, hown, hts⟩ (c_X6_inI l G w (nI 0) (nI 11) _) (cwS 3 hts gX6_about_X6_in rfl rfl rfl (by decide +kernel) ⟨Nat.le_of_ble_eq_true rfl, Nat.le_of_ble_eq_true rfl⟩) (zk_preS hE hA0 hS (zk_Papp hP0).1 (zk_Dapp hD0).1) rfl rfl hl.1 rfl (lv_room (Nat.le_of_ble_eq_true rfl)) dX6_about_7 ⟨Nat.le_of_ble_eq_true rfl, Nat.le_of_ble_eq_true rfl⟩) hP0 hD0 hS hA (fun r1 u2 H locs q3 hP hD hS => ?_)
  subst q3
  have hP : va_P G.1 vwCl ((zb_6 G b rf sz ac sp ou) ++ zb_r G (b 2) K) H := hP
  have hD : va_D A ((zb_6 G b rf sz ac sp ou) ++ zb_r G (b 2) K) := hD
  refine lv_if_eq (tgt := 17) hx hb dX6_about_10 (by decide) (fun h10_3 => ?_) (fun h10_3 => ?_)
  · have h10_3 := zk_b0 h10_3
    refine lv_iconst (v := nI 1) hx hb dX6_about_17 (by decide) ?_
    have hP0 : va_P G.1 vwCl ((zb_6 G b rf sz ac sp ou) ++ (zb_r G (b 2) K)) H := zk_Pperm hP (show ((zb_6 G b rf sz ac sp ou) ++ zb_r G (b 2) K).Perm ((zb_6 G b rf sz ac sp ou) ++ (zb_r G (b 2) K)) from (show ((zb_6 G b rf sz ac sp ou) ++ zb_r G (b 2) K).Perm ((zb_6 G b rf sz ac sp ou) ++ zb_r G (b 2) K) from List.Perm.refl _).trans (List.Perm.of_eq (by simp only [List.append_assoc, List.append_nil, List.nil_append])))
    have hD0 : va_D A ((zb_6 G b rf sz ac sp ou) ++ (zb_r G (b 2) K)) := zk_Dperm hD (show ((zb_6 G b rf sz ac sp ou) ++ zb_r G (b 2) K).Perm ((zb_6 G b rf sz ac sp ou) ++ (zb_r G (b 2) K)) from (show ((zb_6 G b rf sz ac sp ou) ++ zb_r G (b 2) K).Perm ((zb_6 G b rf sz ac sp ou) ++ zb_r G (b 2) K) from List.Perm.refl _).trans (List.Perm.of_eq (by simp only [List.append_assoc, List.append_nil, List.nil_append])))
    refine zk_callI (wr := zb_r G (b 2) K) (va_runV (As := [.int (nI 1)]) (rest := []) ⟨hx, hb, hml, hown, hts⟩ (c_X6_refused l G b rf sz ac sp ou (nI 1) _) (cwV 1 hts gX6_about_X6_refused rfl rfl rfl (by decide +kernel) ⟨Nat.le_of_ble_eq_true rfl, Nat.le_of_ble_eq_true rfl⟩) (zk_preV hE hA0 hS (zk_Papp hP0).1 (zk_Dapp hD0).1 (va_recv hK hP0 (ci := 5) (q0 := 0) rfl rfl)) rfl rfl hl.1 rfl (lv_room (Nat.le_of_ble_eq_true rfl)) dX6_about_18 ⟨Nat.le_of_ble_eq_true rfl, Nat.le_of_ble_eq_true rfl⟩) hP0 hD0 hS hA (fun r5 u6 H locs q7 hP hD hS => ?_)
    subst q7
    have hP : va_P G.1 vwCl ((zb_6 G b (nI 1) sz ac sp ou) ++ zb_r G (b 2) K) H := zk_Pperm hP (show ((zb_6 G b (nI 1) sz ac sp ou) ++ zb_r G (b 2) K).Perm ((zb_6 G b (nI 1) sz ac sp ou) ++ (zb_r G (b 2) K)) from (show ((zb_6 G b (nI 1) sz ac sp ou) ++ zb_r G (b 2) K).Perm ((zb_6 G b (nI 1) sz ac sp ou) ++ zb_r G (b 2) K) from List.Perm.refl _).trans (List.Perm.of_eq (by simp only [List.append_assoc, List.append_nil, List.nil_append]))).symm
    have hD : va_D A ((zb_6 G b (nI 1) sz ac sp ou) ++ zb_r G (b 2) K) := zk_Dperm hD (show ((zb_6 G b (nI 1) sz ac sp ou) ++ zb_r G (b 2) K).Perm ((zb_6 G b (nI 1) sz ac sp ou) ++ (zb_r G (b 2) K)) from (show ((zb_6 G b (nI 1) sz ac sp ou) ++ zb_r G (b 2) K).Perm ((zb_6 G b (nI 1) sz ac sp ou) ++ zb_r G (b 2) K) from List.Perm.refl _).trans (List.Perm.of_eq (by simp only [List.append_assoc, List.append_nil, List.nil_append]))).symm
    refine zk_top (show (if 0 < (nI 1) then nI 1 else nI 0) = nI 1 by decide) ?_
    refine lv_if_eq (tgt := 26) hx hb dX6_about_21 (by decide) (fun z => absurd z (by decide)) (fun _ => ?_)
    refine lv_iconst (v := nI 0) hx hb dX6_about_24 (by decide) ?_
    exact zk_reti (nI 1) hQ hx hb hr hlocks hS hP hD (Nat.le_of_ble_eq_true rfl) (Nat.le_of_ble_eq_true rfl) dX6_about_25 (Or.inr (⟨zIn_no h10_3 (by decide), rfl⟩))
  · have h10_3 := zk_b1 h10_3
    refine lv_iconst (v := nI 0) hx hb dX6_about_13 (by decide) ?_
    refine lv_goto (tgt := 18) hx hb dX6_about_14 (by decide) ?_
    have hP0 : va_P G.1 vwCl ((zb_6 G b rf sz ac sp ou) ++ (zb_r G (b 2) K)) H := zk_Pperm hP (show ((zb_6 G b rf sz ac sp ou) ++ zb_r G (b 2) K).Perm ((zb_6 G b rf sz ac sp ou) ++ (zb_r G (b 2) K)) from (show ((zb_6 G b rf sz ac sp ou) ++ zb_r G (b 2) K).Perm ((zb_6 G b rf sz ac sp ou) ++ zb_r G (b 2) K) from List.Perm.refl _).trans (List.Perm.of_eq (by simp only [List.append_assoc, List.append_nil, List.nil_append])))
    have hD0 : va_D A ((zb_6 G b rf sz ac sp ou) ++ (zb_r G (b 2) K)) := zk_Dperm hD (show ((zb_6 G b rf sz ac sp ou) ++ zb_r G (b 2) K).Perm ((zb_6 G b rf sz ac sp ou) ++ (zb_r G (b 2) K)) from (show ((zb_6 G b rf sz ac sp ou) ++ zb_r G (b 2) K).Perm ((zb_6 G b rf sz ac sp ou) ++ zb_r G (b 2) K) from List.Perm.refl _).trans (List.Perm.of_eq (by simp only [List.append_assoc, List.append_nil, List.nil_append])))
    refine zk_callI (wr := zb_r G (b 2) K) (va_runV (As := [.int (nI 0)]) (rest := []) ⟨hx, hb, hml, hown, hts⟩ (c_X6_refused l G b rf sz ac sp ou (nI 0) _) (cwV 1 hts gX6_about_X6_refused rfl rfl rfl (by decide +kernel) ⟨Nat.le_of_ble_eq_true rfl, Nat.le_of_ble_eq_true rfl⟩) (zk_preV hE hA0 hS (zk_Papp hP0).1 (zk_Dapp hD0).1 (va_recv hK hP0 (ci := 5) (q0 := 0) rfl rfl)) rfl rfl hl.1 rfl (lv_room (Nat.le_of_ble_eq_true rfl)) dX6_about_18 ⟨Nat.le_of_ble_eq_true rfl, Nat.le_of_ble_eq_true rfl⟩) hP0 hD0 hS hA (fun r8 u9 H locs q10 hP hD hS => ?_)
    subst q10
    have hP : va_P G.1 vwCl ((zb_6 G b (nI 0) sz ac sp ou) ++ zb_r G (b 2) K) H := zk_Pperm hP (show ((zb_6 G b (nI 0) sz ac sp ou) ++ zb_r G (b 2) K).Perm ((zb_6 G b (nI 0) sz ac sp ou) ++ (zb_r G (b 2) K)) from (show ((zb_6 G b (nI 0) sz ac sp ou) ++ zb_r G (b 2) K).Perm ((zb_6 G b (nI 0) sz ac sp ou) ++ zb_r G (b 2) K) from List.Perm.refl _).trans (List.Perm.of_eq (by simp only [List.append_assoc, List.append_nil, List.nil_append]))).symm
    have hD : va_D A ((zb_6 G b (nI 0) sz ac sp ou) ++ zb_r G (b 2) K) := zk_Dperm hD (show ((zb_6 G b (nI 0) sz ac sp ou) ++ zb_r G (b 2) K).Perm ((zb_6 G b (nI 0) sz ac sp ou) ++ (zb_r G (b 2) K)) from (show ((zb_6 G b (nI 0) sz ac sp ou) ++ zb_r G (b 2) K).Perm ((zb_6 G b (nI 0) sz ac sp ou) ++ zb_r G (b 2) K) from List.Perm.refl _).trans (List.Perm.of_eq (by simp only [List.append_assoc, List.append_nil, List.nil_append]))).symm
    refine zk_top (show (if 0 < (nI 0) then nI 1 else nI 0) = nI 0 by decide) ?_
    refine lv_if_eq (tgt := 26) hx hb dX6_about_21 (by decide) (fun _ => ?_) (fun z => absurd (by decide) z)
    refine lv_iload_n hx hb dX6_about_26 rfl (lv_at hl 1 rfl) ?_
    rcases Decidable.em (w = nI 0) with h11_0 | h11_n0
    · refine lv_tableIn (tgt := 84) hx hb dX6_about_27 (by rw [h11_0]; decide) (by rw [h11_0]; decide) (by rw [h11_0]; rfl) (by decide) ?_
      have hl : lv_has ls 2 [(0, .ref (b 0)), (1, .int (nI 0))] := by rw [h11_0] at hl; exact hl
      refine lv_aload_n hx hb dX6_about_84 rfl (lv_at hl 0 rfl) ?_
      refine va_get (D := G.1) (ci := 5) (v := .ref (b 2)) (C := RX6) (T := TX6) (N := 11) hx hb hts (fun _ h => List.mem_cons_of_mem _ (List.mem_append_right _ h)) hown hK hP 0 rfl rfl 3 (by decide) w2 (fun _ h9 => h9) rfl dX6_about_85 ?_
      refine lv_iload_n hx hb dX6_about_88 rfl (lv_at hl 1 rfl) ?_
      refine zk_ialdN hx hb hK hP 1 0 rfl rfl (k := 0) (n := 1555) (by omega) (by omega) dX6_about_89 ?_
      refine zk_top (zrow_l K (c := 0) (by omega)) ?_
      refine zk_top hI.2.2.1 ?_
      exact zk_reti (nI 0) hQ hx hb hr hlocks hS hP hD (Nat.le_of_ble_eq_true rfl) (Nat.le_of_ble_eq_true rfl) dX6_about_90 (Or.inl ⟨zIn_of h10_3 (by decide), rfl, by rw [mAbout_0 h11_0]⟩)
    rcases Decidable.em (w = nI 1) with h11_1 | h11_n1
    · refine lv_tableIn (tgt := 84) hx hb dX6_about_27 (by rw [h11_1]; decide) (by rw [h11_1]; decide) (by rw [h11_1]; rfl) (by decide) ?_
      have hl : lv_has ls 2 [(0, .ref (b 0)), (1, .int (nI 1))] := by rw [h11_1] at hl; exact hl
      refine lv_aload_n hx hb dX6_about_84 rfl (lv_at hl 0 rfl) ?_
      refine va_get (D := G.1) (ci := 5) (v := .ref (b 2)) (C := RX6) (T := TX6) (N := 11) hx hb hts (fun _ h => List.mem_cons_of_mem _ (List.mem_append_right _ h)) hown hK hP 0 rfl rfl 3 (by decide) w2 (fun _ h9 => h9) rfl dX6_about_85 ?_
      refine lv_iload_n hx hb dX6_about_88 rfl (lv_at hl 1 rfl) ?_
      refine zk_ialdN hx hb hK hP 1 0 rfl rfl (k := 1) (n := 1555) (by omega) (by omega) dX6_about_89 ?_
      refine zk_top (zrow_l K (c := 1) (by omega)) ?_
      refine zk_top hI.1 ?_
      exact zk_reti (nI 0) hQ hx hb hr hlocks hS hP hD (Nat.le_of_ble_eq_true rfl) (Nat.le_of_ble_eq_true rfl) dX6_about_90 (Or.inl ⟨zIn_of h10_3 (by decide), rfl, by rw [mAbout_1 h11_1]⟩)
    rcases Decidable.em (w = nI 2) with h11_2 | h11_n2
    · refine lv_tableIn (tgt := 91) hx hb dX6_about_27 (by rw [h11_2]; decide) (by rw [h11_2]; decide) (by rw [h11_2]; rfl) (by decide) ?_
      refine lv_aload_n hx hb dX6_about_91 rfl (lv_at hl 0 rfl) ?_
      refine va_get (D := G.1) (ci := 5) (v := .ref (b 2)) (C := RX6) (T := TX6) (N := 11) hx hb hts (fun _ h => List.mem_cons_of_mem _ (List.mem_append_right _ h)) hown hK hP 0 rfl rfl 3 (by decide) w2 (fun _ h9 => h9) rfl dX6_about_92 ?_
      refine lv_iconst (v := -1) hx hb dX6_about_95 (by decide) ?_
      refine lv_iconst (v := -1) hx hb dX6_about_96 (by decide) ?_
      refine lv_iconst (v := nI 1) hx hb dX6_about_97 (by decide) ?_
      have hP0 : va_P G.1 vwCl ((zb_r G (b 2) K) ++ (zb_6 G b (nI 0) sz ac sp ou)) H := zk_Pperm hP (show ((zb_6 G b (nI 0) sz ac sp ou) ++ zb_r G (b 2) K).Perm ((zb_r G (b 2) K) ++ (zb_6 G b (nI 0) sz ac sp ou)) from (show ((zb_6 G b (nI 0) sz ac sp ou) ++ zb_r G (b 2) K).Perm ((zb_r G (b 2) K) ++ zb_6 G b (nI 0) sz ac sp ou) from List.perm_append_comm).trans (List.Perm.of_eq (by simp only [List.append_assoc, List.append_nil, List.nil_append])))
      have hD0 : va_D A ((zb_r G (b 2) K) ++ (zb_6 G b (nI 0) sz ac sp ou)) := zk_Dperm hD (show ((zb_6 G b (nI 0) sz ac sp ou) ++ zb_r G (b 2) K).Perm ((zb_r G (b 2) K) ++ (zb_6 G b (nI 0) sz ac sp ou)) from (show ((zb_6 G b (nI 0) sz ac sp ou) ++ zb_r G (b 2) K).Perm ((zb_r G (b 2) K) ++ zb_6 G b (nI 0) sz ac sp ou) from List.perm_append_comm).trans (List.Perm.of_eq (by simp only [List.append_assoc, List.append_nil, List.nil_append])))
      refine zk_callI (wr := zb_6 G b (nI 0) sz ac sp ou) (va_runS (As := [.ref (b 2), .int (-1), .int (-1), .int (nI 1)]) (rest := []) ⟨hx, hb, hml, hown, hts⟩ (c_X6_count l G (b 2) K n t hI (-1) (-1) (nI 1) _) (cwS 4 hts gX6_about_X6_count rfl rfl rfl (by decide +kernel) ⟨Nat.le_of_ble_eq_true rfl, Nat.le_of_ble_eq_true rfl⟩) (zk_preS hE hA0 hS (zk_Papp hP0).1 (zk_Dapp hD0).1) rfl rfl hl.1 rfl (lv_room (Nat.le_of_ble_eq_true rfl)) dX6_about_98 ⟨Nat.le_of_ble_eq_true rfl, Nat.le_of_ble_eq_true rfl⟩) hP0 hD0 hS hA (fun r12 u13 H locs q14 hP hD hS => ?_)
      subst q14
      have hP : va_P G.1 vwCl ((zb_6 G b (nI 0) sz ac sp ou) ++ zb_r G (b 2) K) H := zk_Pperm hP (show ((zb_6 G b (nI 0) sz ac sp ou) ++ zb_r G (b 2) K).Perm ((zb_r G (b 2) K) ++ (zb_6 G b (nI 0) sz ac sp ou)) from (show ((zb_6 G b (nI 0) sz ac sp ou) ++ zb_r G (b 2) K).Perm ((zb_r G (b 2) K) ++ zb_6 G b (nI 0) sz ac sp ou) from List.perm_append_comm).trans (List.Perm.of_eq (by simp only [List.append_assoc, List.append_nil, List.nil_append]))).symm
      have hD : va_D A ((zb_6 G b (nI 0) sz ac sp ou) ++ zb_r G (b 2) K) := zk_Dperm hD (show ((zb_6 G b (nI 0) sz ac sp ou) ++ zb_r G (b 2) K).Perm ((zb_r G (b 2) K) ++ (zb_6 G b (nI 0) sz ac sp ou)) from (show ((zb_6 G b (nI 0) sz ac sp ou) ++ zb_r G (b 2) K).Perm ((zb_r G (b 2) K) ++ zb_6 G b (nI 0) sz ac sp ou) from List.perm_append_comm).trans (List.Perm.of_eq (by simp only [List.append_assoc, List.append_nil, List.nil_append]))).symm
      exact zk_reti (nI 0) hQ hx hb hr hlocks hS hP hD (Nat.le_of_ble_eq_true rfl) (Nat.le_of_ble_eq_true rfl) dX6_about_101 (Or.inl ⟨zIn_of h10_3 (by decide), rfl, by rw [mAbout_2 h11_2]⟩)
    rcases Decidable.em (w = nI 3) with h11_3 | h11_n3
    · refine lv_tableIn (tgt := 102) hx hb dX6_about_27 (by rw [h11_3]; decide) (by rw [h11_3]; decide) (by rw [h11_3]; rfl) (by decide) ?_
      refine lv_aload_n hx hb dX6_about_102 rfl (lv_at hl 0 rfl) ?_
      refine va_get (D := G.1) (ci := 5) (v := .ref (b 2)) (C := RX6) (T := TX6) (N := 11) hx hb hts (fun _ h => List.mem_cons_of_mem _ (List.mem_append_right _ h)) hown hK hP 0 rfl rfl 3 (by decide) w2 (fun _ h9 => h9) rfl dX6_about_103 ?_
      refine lv_iconst (v := -1) hx hb dX6_about_106 (by decide) ?_
      refine lv_iconst (v := -1) hx hb dX6_about_107 (by decide) ?_
      have hP0 : va_P G.1 vwCl ((zb_r G (b 2) K) ++ (zb_6 G b (nI 0) sz ac sp ou)) H := zk_Pperm hP (show ((zb_6 G b (nI 0) sz ac sp ou) ++ zb_r G (b 2) K).Perm ((zb_r G (b 2) K) ++ (zb_6 G b (nI 0) sz ac sp ou)) from (show ((zb_6 G b (nI 0) sz ac sp ou) ++ zb_r G (b 2) K).Perm ((zb_r G (b 2) K) ++ zb_6 G b (nI 0) sz ac sp ou) from List.perm_append_comm).trans (List.Perm.of_eq (by simp only [List.append_assoc, List.append_nil, List.nil_append])))
      have hD0 : va_D A ((zb_r G (b 2) K) ++ (zb_6 G b (nI 0) sz ac sp ou)) := zk_Dperm hD (show ((zb_6 G b (nI 0) sz ac sp ou) ++ zb_r G (b 2) K).Perm ((zb_r G (b 2) K) ++ (zb_6 G b (nI 0) sz ac sp ou)) from (show ((zb_6 G b (nI 0) sz ac sp ou) ++ zb_r G (b 2) K).Perm ((zb_r G (b 2) K) ++ zb_6 G b (nI 0) sz ac sp ou) from List.perm_append_comm).trans (List.Perm.of_eq (by simp only [List.append_assoc, List.append_nil, List.nil_append])))
      refine zk_callI (wr := zb_6 G b (nI 0) sz ac sp ou) (va_runS (As := [.ref (b 2), .int (-1), .int (-1)]) (rest := []) ⟨hx, hb, hml, hown, hts⟩ (c_X6_served l G (b 2) K n t hI (-1) (-1) _) (cwS 3 hts gX6_about_X6_served rfl rfl rfl (by decide +kernel) ⟨Nat.le_of_ble_eq_true rfl, Nat.le_of_ble_eq_true rfl⟩) (zk_preS hE hA0 hS (zk_Papp hP0).1 (zk_Dapp hD0).1) rfl rfl hl.1 rfl (lv_room (Nat.le_of_ble_eq_true rfl)) dX6_about_108 ⟨Nat.le_of_ble_eq_true rfl, Nat.le_of_ble_eq_true rfl⟩) hP0 hD0 hS hA (fun r15 u16 H locs q17 hP hD hS => ?_)
      subst q17
      have hP : va_P G.1 vwCl ((zb_6 G b (nI 0) sz ac sp ou) ++ zb_r G (b 2) K) H := zk_Pperm hP (show ((zb_6 G b (nI 0) sz ac sp ou) ++ zb_r G (b 2) K).Perm ((zb_r G (b 2) K) ++ (zb_6 G b (nI 0) sz ac sp ou)) from (show ((zb_6 G b (nI 0) sz ac sp ou) ++ zb_r G (b 2) K).Perm ((zb_r G (b 2) K) ++ zb_6 G b (nI 0) sz ac sp ou) from List.perm_append_comm).trans (List.Perm.of_eq (by simp only [List.append_assoc, List.append_nil, List.nil_append]))).symm
      have hD : va_D A ((zb_6 G b (nI 0) sz ac sp ou) ++ zb_r G (b 2) K) := zk_Dperm hD (show ((zb_6 G b (nI 0) sz ac sp ou) ++ zb_r G (b 2) K).Perm ((zb_r G (b 2) K) ++ (zb_6 G b (nI 0) sz ac sp ou)) from (show ((zb_6 G b (nI 0) sz ac sp ou) ++ zb_r G (b 2) K).Perm ((zb_r G (b 2) K) ++ zb_6 G b (nI 0) sz ac sp ou) from List.perm_append_comm).trans (List.Perm.of_eq (by simp only [List.append_assoc, List.append_nil, List.nil_append]))).symm
      exact zk_reti (nI 0) hQ hx hb hr hlocks hS hP hD (Nat.le_of_ble_eq_true rfl) (Nat.le_of_ble_eq_true rfl) dX6_about_111 (Or.inl ⟨zIn_of h10_3 (by decide), rfl, by rw [mAbout_3 h11_3]⟩)
    rcases Decidable.em (w = nI 4) with h11_4 | h11_n4
    · refine lv_tableIn (tgt := 112) hx hb dX6_about_27 (by rw [h11_4]; decide) (by rw [h11_4]; decide) (by rw [h11_4]; rfl) (by decide) ?_
      refine lv_aload_n hx hb dX6_about_112 rfl (lv_at hl 0 rfl) ?_
      refine va_get (D := G.1) (ci := 5) (v := .ref (b 2)) (C := RX6) (T := TX6) (N := 11) hx hb hts (fun _ h => List.mem_cons_of_mem _ (List.mem_append_right _ h)) hown hK hP 0 rfl rfl 3 (by decide) w2 (fun _ h9 => h9) rfl dX6_about_113 ?_
      refine lv_iconst (v := -1) hx hb dX6_about_116 (by decide) ?_
      refine lv_iconst (v := -1) hx hb dX6_about_117 (by decide) ?_
      refine lv_iconst (v := nI 2) hx hb dX6_about_118 (by decide) ?_
      have hP0 : va_P G.1 vwCl ((zb_r G (b 2) K) ++ (zb_6 G b (nI 0) sz ac sp ou)) H := zk_Pperm hP (show ((zb_6 G b (nI 0) sz ac sp ou) ++ zb_r G (b 2) K).Perm ((zb_r G (b 2) K) ++ (zb_6 G b (nI 0) sz ac sp ou)) from (show ((zb_6 G b (nI 0) sz ac sp ou) ++ zb_r G (b 2) K).Perm ((zb_r G (b 2) K) ++ zb_6 G b (nI 0) sz ac sp ou) from List.perm_append_comm).trans (List.Perm.of_eq (by simp only [List.append_assoc, List.append_nil, List.nil_append])))
      have hD0 : va_D A ((zb_r G (b 2) K) ++ (zb_6 G b (nI 0) sz ac sp ou)) := zk_Dperm hD (show ((zb_6 G b (nI 0) sz ac sp ou) ++ zb_r G (b 2) K).Perm ((zb_r G (b 2) K) ++ (zb_6 G b (nI 0) sz ac sp ou)) from (show ((zb_6 G b (nI 0) sz ac sp ou) ++ zb_r G (b 2) K).Perm ((zb_r G (b 2) K) ++ zb_6 G b (nI 0) sz ac sp ou) from List.perm_append_comm).trans (List.Perm.of_eq (by simp only [List.append_assoc, List.append_nil, List.nil_append])))
      refine zk_callI (wr := zb_6 G b (nI 0) sz ac sp ou) (va_runS (As := [.ref (b 2), .int (-1), .int (-1), .int (nI 2)]) (rest := []) ⟨hx, hb, hml, hown, hts⟩ (c_X6_count l G (b 2) K n t hI (-1) (-1) (nI 2) _) (cwS 4 hts gX6_about_X6_count rfl rfl rfl (by decide +kernel) ⟨Nat.le_of_ble_eq_true rfl, Nat.le_of_ble_eq_true rfl⟩) (zk_preS hE hA0 hS (zk_Papp hP0).1 (zk_Dapp hD0).1) rfl rfl hl.1 rfl (lv_room (Nat.le_of_ble_eq_true rfl)) dX6_about_119 ⟨Nat.le_of_ble_eq_true rfl, Nat.le_of_ble_eq_true rfl⟩) hP0 hD0 hS hA (fun r18 u19 H locs q20 hP hD hS => ?_)
      subst q20
      have hP : va_P G.1 vwCl ((zb_6 G b (nI 0) sz ac sp ou) ++ zb_r G (b 2) K) H := zk_Pperm hP (show ((zb_6 G b (nI 0) sz ac sp ou) ++ zb_r G (b 2) K).Perm ((zb_r G (b 2) K) ++ (zb_6 G b (nI 0) sz ac sp ou)) from (show ((zb_6 G b (nI 0) sz ac sp ou) ++ zb_r G (b 2) K).Perm ((zb_r G (b 2) K) ++ zb_6 G b (nI 0) sz ac sp ou) from List.perm_append_comm).trans (List.Perm.of_eq (by simp only [List.append_assoc, List.append_nil, List.nil_append]))).symm
      have hD : va_D A ((zb_6 G b (nI 0) sz ac sp ou) ++ zb_r G (b 2) K) := zk_Dperm hD (show ((zb_6 G b (nI 0) sz ac sp ou) ++ zb_r G (b 2) K).Perm ((zb_r G (b 2) K) ++ (zb_6 G b (nI 0) sz ac sp ou)) from (show ((zb_6 G b (nI 0) sz ac sp ou) ++ zb_r G (b 2) K).Perm ((zb_r G (b 2) K) ++ zb_6 G b (nI 0) sz ac sp ou) from List.perm_append_comm).trans (List.Perm.of_eq (by simp only [List.append_assoc, List.append_nil, List.nil_append]))).symm
      exact zk_reti (nI 0) hQ hx hb hr hlocks hS hP hD (Nat.le_of_ble_eq_true rfl) (Nat.le_of_ble_eq_true rfl) dX6_about_122 (Or.inl ⟨zIn_of h10_3 (by decide), rfl, by rw [mAbout_4 h11_4]⟩)
    rcases Decidable.em (w = nI 5) with h11_5 | h11_n5
    · refine lv_tableIn (tgt := 123) hx hb dX6_about_27 (by rw [h11_5]; decide) (by rw [h11_5]; decide) (by rw [h11_5]; rfl) (by decide) ?_
      refine lv_aload_n hx hb dX6_about_123 rfl (lv_at hl 0 rfl) ?_
      refine va_get (D := G.1) (ci := 5) (v := .ref (b 2)) (C := RX6) (T := TX6) (N := 11) hx hb hts (fun _ h => List.mem_cons_of_mem _ (List.mem_append_right _ h)) hown hK hP 0 rfl rfl 3 (by decide) w2 (fun _ h9 => h9) rfl dX6_about_124 ?_
      refine lv_iconst (v := -1) hx hb dX6_about_127 (by decide) ?_
      refine lv_iconst (v := -1) hx hb dX6_about_128 (by decide) ?_
      refine lv_iconst (v := nI 3) hx hb dX6_about_129 (by decide) ?_
      have hP0 : va_P G.1 vwCl ((zb_r G (b 2) K) ++ (zb_6 G b (nI 0) sz ac sp ou)) H := zk_Pperm hP (show ((zb_6 G b (nI 0) sz ac sp ou) ++ zb_r G (b 2) K).Perm ((zb_r G (b 2) K) ++ (zb_6 G b (nI 0) sz ac sp ou)) from (show ((zb_6 G b (nI 0) sz ac sp ou) ++ zb_r G (b 2) K).Perm ((zb_r G (b 2) K) ++ zb_6 G b (nI 0) sz ac sp ou) from List.perm_append_comm).trans (List.Perm.of_eq (by simp only [List.append_assoc, List.append_nil, List.nil_append])))
      have hD0 : va_D A ((zb_r G (b 2) K) ++ (zb_6 G b (nI 0) sz ac sp ou)) := zk_Dperm hD (show ((zb_6 G b (nI 0) sz ac sp ou) ++ zb_r G (b 2) K).Perm ((zb_r G (b 2) K) ++ (zb_6 G b (nI 0) sz ac sp ou)) from (show ((zb_6 G b (nI 0) sz ac sp ou) ++ zb_r G (b 2) K).Perm ((zb_r G (b 2) K) ++ zb_6 G b (nI 0) sz ac sp ou) from List.perm_append_comm).trans (List.Perm.of_eq (by simp only [List.append_assoc, List.append_nil, List.nil_append])))
      refine zk_callI (wr := zb_6 G b (nI 0) sz ac sp ou) (va_runS (As := [.ref (b 2), .int (-1), .int (-1), .int (nI 3)]) (rest := []) ⟨hx, hb, hml, hown, hts⟩ (c_X6_count l G (b 2) K n t hI (-1) (-1) (nI 3) _) (cwS 4 hts gX6_about_X6_count rfl rfl rfl (by decide +kernel) ⟨Nat.le_of_ble_eq_true rfl, Nat.le_of_ble_eq_true rfl⟩) (zk_preS hE hA0 hS (zk_Papp hP0).1 (zk_Dapp hD0).1) rfl rfl hl.1 rfl (lv_room (Nat.le_of_ble_eq_true rfl)) dX6_about_130 ⟨Nat.le_of_ble_eq_true rfl, Nat.le_of_ble_eq_true rfl⟩) hP0 hD0 hS hA (fun r21 u22 H locs q23 hP hD hS => ?_)
      subst q23
      have hP : va_P G.1 vwCl ((zb_6 G b (nI 0) sz ac sp ou) ++ zb_r G (b 2) K) H := zk_Pperm hP (show ((zb_6 G b (nI 0) sz ac sp ou) ++ zb_r G (b 2) K).Perm ((zb_r G (b 2) K) ++ (zb_6 G b (nI 0) sz ac sp ou)) from (show ((zb_6 G b (nI 0) sz ac sp ou) ++ zb_r G (b 2) K).Perm ((zb_r G (b 2) K) ++ zb_6 G b (nI 0) sz ac sp ou) from List.perm_append_comm).trans (List.Perm.of_eq (by simp only [List.append_assoc, List.append_nil, List.nil_append]))).symm
      have hD : va_D A ((zb_6 G b (nI 0) sz ac sp ou) ++ zb_r G (b 2) K) := zk_Dperm hD (show ((zb_6 G b (nI 0) sz ac sp ou) ++ zb_r G (b 2) K).Perm ((zb_r G (b 2) K) ++ (zb_6 G b (nI 0) sz ac sp ou)) from (show ((zb_6 G b (nI 0) sz ac sp ou) ++ zb_r G (b 2) K).Perm ((zb_r G (b 2) K) ++ zb_6 G b (nI 0) sz ac sp ou) from List.perm_append_comm).trans (List.Perm.of_eq (by simp only [List.append_assoc, List.append_nil, List.nil_append]))).symm
      exact zk_reti (nI 0) hQ hx hb hr hlocks hS hP hD (Nat.le_of_ble_eq_true rfl) (Nat.le_of_ble_eq_true rfl) dX6_about_133 (Or.inl ⟨zIn_of h10_3 (by decide), rfl, by rw [mAbout_5 h11_5]⟩)
    rcases Decidable.em (w = nI 6) with h11_6 | h11_n6
    · refine lv_tableIn (tgt := 134) hx hb dX6_about_27 (by rw [h11_6]; decide) (by rw [h11_6]; decide) (by rw [h11_6]; rfl) (by decide) ?_
      refine lv_aload_n hx hb dX6_about_134 rfl (lv_at hl 0 rfl) ?_
      refine va_get (D := G.1) (ci := 5) (v := .ref (b 2)) (C := RX6) (T := TX6) (N := 11) hx hb hts (fun _ h => List.mem_cons_of_mem _ (List.mem_append_right _ h)) hown hK hP 0 rfl rfl 3 (by decide) w2 (fun _ h9 => h9) rfl dX6_about_135 ?_
      refine lv_iconst (v := -1) hx hb dX6_about_138 (by decide) ?_
      refine lv_iconst (v := -1) hx hb dX6_about_139 (by decide) ?_
      refine lv_iconst (v := nI 4) hx hb dX6_about_140 (by decide) ?_
      have hP0 : va_P G.1 vwCl ((zb_r G (b 2) K) ++ (zb_6 G b (nI 0) sz ac sp ou)) H := zk_Pperm hP (show ((zb_6 G b (nI 0) sz ac sp ou) ++ zb_r G (b 2) K).Perm ((zb_r G (b 2) K) ++ (zb_6 G b (nI 0) sz ac sp ou)) from (show ((zb_6 G b (nI 0) sz ac sp ou) ++ zb_r G (b 2) K).Perm ((zb_r G (b 2) K) ++ zb_6 G b (nI 0) sz ac sp ou) from List.perm_append_comm).trans (List.Perm.of_eq (by simp only [List.append_assoc, List.append_nil, List.nil_append])))
      have hD0 : va_D A ((zb_r G (b 2) K) ++ (zb_6 G b (nI 0) sz ac sp ou)) := zk_Dperm hD (show ((zb_6 G b (nI 0) sz ac sp ou) ++ zb_r G (b 2) K).Perm ((zb_r G (b 2) K) ++ (zb_6 G b (nI 0) sz ac sp ou)) from (show ((zb_6 G b (nI 0) sz ac sp ou) ++ zb_r G (b 2) K).Perm ((zb_r G (b 2) K) ++ zb_6 G b (nI 0) sz ac sp ou) from List.perm_append_comm).trans (List.Perm.of_eq (by simp only [List.append_assoc, List.append_nil, List.nil_append])))
      refine zk_callI (wr := zb_6 G b (nI 0) sz ac sp ou) (va_runS (As := [.ref (b 2), .int (-1), .int (-1), .int (nI 4)]) (rest := []) ⟨hx, hb, hml, hown, hts⟩ (c_X6_count l G (b 2) K n t hI (-1) (-1) (nI 4) _) (cwS 4 hts gX6_about_X6_count rfl rfl rfl (by decide +kernel) ⟨Nat.le_of_ble_eq_true rfl, Nat.le_of_ble_eq_true rfl⟩) (zk_preS hE hA0 hS (zk_Papp hP0).1 (zk_Dapp hD0).1) rfl rfl hl.1 rfl (lv_room (Nat.le_of_ble_eq_true rfl)) dX6_about_141 ⟨Nat.le_of_ble_eq_true rfl, Nat.le_of_ble_eq_true rfl⟩) hP0 hD0 hS hA (fun r24 u25 H locs q26 hP hD hS => ?_)
      subst q26
      have hP : va_P G.1 vwCl ((zb_6 G b (nI 0) sz ac sp ou) ++ zb_r G (b 2) K) H := zk_Pperm hP (show ((zb_6 G b (nI 0) sz ac sp ou) ++ zb_r G (b 2) K).Perm ((zb_r G (b 2) K) ++ (zb_6 G b (nI 0) sz ac sp ou)) from (show ((zb_6 G b (nI 0) sz ac sp ou) ++ zb_r G (b 2) K).Perm ((zb_r G (b 2) K) ++ zb_6 G b (nI 0) sz ac sp ou) from List.perm_append_comm).trans (List.Perm.of_eq (by simp only [List.append_assoc, List.append_nil, List.nil_append]))).symm
      have hD : va_D A ((zb_6 G b (nI 0) sz ac sp ou) ++ zb_r G (b 2) K) := zk_Dperm hD (show ((zb_6 G b (nI 0) sz ac sp ou) ++ zb_r G (b 2) K).Perm ((zb_r G (b 2) K) ++ (zb_6 G b (nI 0) sz ac sp ou)) from (show ((zb_6 G b (nI 0) sz ac sp ou) ++ zb_r G (b 2) K).Perm ((zb_r G (b 2) K) ++ zb_6 G b (nI 0) sz ac sp ou) from List.perm_append_comm).trans (List.Perm.of_eq (by simp only [List.append_assoc, List.append_nil, List.nil_append]))).symm
      exact zk_reti (nI 0) hQ hx hb hr hlocks hS hP hD (Nat.le_of_ble_eq_true rfl) (Nat.le_of_ble_eq_true rfl) dX6_about_144 (Or.inl ⟨zIn_of h10_3 (by decide), rfl, by rw [mAbout_6 h11_6]⟩)
    rcases Decidable.em (w = nI 7) with h11_7 | h11_n7
    · refine lv_tableIn (tgt := 145) hx hb dX6_about_27 (by rw [h11_7]; decide) (by rw [h11_7]; decide) (by rw [h11_7]; rfl) (by decide) ?_
      refine lv_aload_n hx hb dX6_about_145 rfl (lv_at hl 0 rfl) ?_
      refine va_get (D := G.1) (ci := 5) (v := .ref (b 2)) (C := RX6) (T := TX6) (N := 11) hx hb hts (fun _ h => List.mem_cons_of_mem _ (List.mem_append_right _ h)) hown hK hP 0 rfl rfl 3 (by decide) w2 (fun _ h9 => h9) rfl dX6_about_146 ?_
      refine lv_iconst (v := -1) hx hb dX6_about_149 (by decide) ?_
      refine lv_iconst (v := -1) hx hb dX6_about_150 (by decide) ?_
      refine lv_iconst (v := nI 5) hx hb dX6_about_151 (by decide) ?_
      have hP0 : va_P G.1 vwCl ((zb_r G (b 2) K) ++ (zb_6 G b (nI 0) sz ac sp ou)) H := zk_Pperm hP (show ((zb_6 G b (nI 0) sz ac sp ou) ++ zb_r G (b 2) K).Perm ((zb_r G (b 2) K) ++ (zb_6 G b (nI 0) sz ac sp ou)) from (show ((zb_6 G b (nI 0) sz ac sp ou) ++ zb_r G (b 2) K).Perm ((zb_r G (b 2) K) ++ zb_6 G b (nI 0) sz ac sp ou) from List.perm_append_comm).trans (List.Perm.of_eq (by simp only [List.append_assoc, List.append_nil, List.nil_append])))
      have hD0 : va_D A ((zb_r G (b 2) K) ++ (zb_6 G b (nI 0) sz ac sp ou)) := zk_Dperm hD (show ((zb_6 G b (nI 0) sz ac sp ou) ++ zb_r G (b 2) K).Perm ((zb_r G (b 2) K) ++ (zb_6 G b (nI 0) sz ac sp ou)) from (show ((zb_6 G b (nI 0) sz ac sp ou) ++ zb_r G (b 2) K).Perm ((zb_r G (b 2) K) ++ zb_6 G b (nI 0) sz ac sp ou) from List.perm_append_comm).trans (List.Perm.of_eq (by simp only [List.append_assoc, List.append_nil, List.nil_append])))
      refine zk_callI (wr := zb_6 G b (nI 0) sz ac sp ou) (va_runS (As := [.ref (b 2), .int (-1), .int (-1), .int (nI 5)]) (rest := []) ⟨hx, hb, hml, hown, hts⟩ (c_X6_count l G (b 2) K n t hI (-1) (-1) (nI 5) _) (cwS 4 hts gX6_about_X6_count rfl rfl rfl (by decide +kernel) ⟨Nat.le_of_ble_eq_true rfl, Nat.le_of_ble_eq_true rfl⟩) (zk_preS hE hA0 hS (zk_Papp hP0).1 (zk_Dapp hD0).1) rfl rfl hl.1 rfl (lv_room (Nat.le_of_ble_eq_true rfl)) dX6_about_152 ⟨Nat.le_of_ble_eq_true rfl, Nat.le_of_ble_eq_true rfl⟩) hP0 hD0 hS hA (fun r27 u28 H locs q29 hP hD hS => ?_)
      subst q29
      have hP : va_P G.1 vwCl ((zb_6 G b (nI 0) sz ac sp ou) ++ zb_r G (b 2) K) H := zk_Pperm hP (show ((zb_6 G b (nI 0) sz ac sp ou) ++ zb_r G (b 2) K).Perm ((zb_r G (b 2) K) ++ (zb_6 G b (nI 0) sz ac sp ou)) from (show ((zb_6 G b (nI 0) sz ac sp ou) ++ zb_r G (b 2) K).Perm ((zb_r G (b 2) K) ++ zb_6 G b (nI 0) sz ac sp ou) from List.perm_append_comm).trans (List.Perm.of_eq (by simp only [List.append_assoc, List.append_nil, List.nil_append]))).symm
      have hD : va_D A ((zb_6 G b (nI 0) sz ac sp ou) ++ zb_r G (b 2) K) := zk_Dperm hD (show ((zb_6 G b (nI 0) sz ac sp ou) ++ zb_r G (b 2) K).Perm ((zb_r G (b 2) K) ++ (zb_6 G b (nI 0) sz ac sp ou)) from (show ((zb_6 G b (nI 0) sz ac sp ou) ++ zb_r G (b 2) K).Perm ((zb_r G (b 2) K) ++ zb_6 G b (nI 0) sz ac sp ou) from List.perm_append_comm).trans (List.Perm.of_eq (by simp only [List.append_assoc, List.append_nil, List.nil_append]))).symm
      exact zk_reti (nI 0) hQ hx hb hr hlocks hS hP hD (Nat.le_of_ble_eq_true rfl) (Nat.le_of_ble_eq_true rfl) dX6_about_155 (Or.inl ⟨zIn_of h10_3 (by decide), rfl, by rw [mAbout_7 h11_7]⟩)
    rcases Decidable.em (w = nI 8) with h11_8 | h11_n8
    · refine lv_tableIn (tgt := 156) hx hb dX6_about_27 (by rw [h11_8]; decide) (by rw [h11_8]; decide) (by rw [h11_8]; rfl) (by decide) ?_
      refine lv_aload_n hx hb dX6_about_156 rfl (lv_at hl 0 rfl) ?_
      refine va_get (D := G.1) (ci := 5) (v := .ref (b 2)) (C := RX6) (T := TX6) (N := 11) hx hb hts (fun _ h => List.mem_cons_of_mem _ (List.mem_append_right _ h)) hown hK hP 0 rfl rfl 3 (by decide) w2 (fun _ h9 => h9) rfl dX6_about_157 ?_
      refine lv_iconst (v := nI 4) hx hb dX6_about_160 (by decide) ?_
      refine zk_ialdN hx hb hK hP 1 0 rfl rfl (k := 4) (n := 1555) (by omega) (by omega) dX6_about_161 ?_
      refine zk_top (zrow_l K (c := 4) (by omega)) ?_
      exact zk_reti (nI 0) hQ hx hb hr hlocks hS hP hD (Nat.le_of_ble_eq_true rfl) (Nat.le_of_ble_eq_true rfl) dX6_about_162 (Or.inl ⟨zIn_of h10_3 (by decide), rfl, by rw [mAbout_8 h11_8]⟩)
    rcases Decidable.em (w = nI 9) with h11_9 | h11_n9
    · refine lv_tableIn (tgt := 163) hx hb dX6_about_27 (by rw [h11_9]; decide) (by rw [h11_9]; decide) (by rw [h11_9]; rfl) (by decide) ?_
      refine lv_aload_n hx hb dX6_about_163 rfl (lv_at hl 0 rfl) ?_
      refine va_get (D := G.1) (ci := 5) (v := .ref (b 2)) (C := RX6) (T := TX6) (N := 11) hx hb hts (fun _ h => List.mem_cons_of_mem _ (List.mem_append_right _ h)) hown hK hP 0 rfl rfl 3 (by decide) w2 (fun _ h9 => h9) rfl dX6_about_164 ?_
      refine lv_iconst (v := -1) hx hb dX6_about_167 (by decide) ?_
      refine lv_iconst (v := -1) hx hb dX6_about_168 (by decide) ?_
      have hP0 : va_P G.1 vwCl ((zb_r G (b 2) K) ++ (zb_6 G b (nI 0) sz ac sp ou)) H := zk_Pperm hP (show ((zb_6 G b (nI 0) sz ac sp ou) ++ zb_r G (b 2) K).Perm ((zb_r G (b 2) K) ++ (zb_6 G b (nI 0) sz ac sp ou)) from (show ((zb_6 G b (nI 0) sz ac sp ou) ++ zb_r G (b 2) K).Perm ((zb_r G (b 2) K) ++ zb_6 G b (nI 0) sz ac sp ou) from List.perm_append_comm).trans (List.Perm.of_eq (by simp only [List.append_assoc, List.append_nil, List.nil_append])))
      have hD0 : va_D A ((zb_r G (b 2) K) ++ (zb_6 G b (nI 0) sz ac sp ou)) := zk_Dperm hD (show ((zb_6 G b (nI 0) sz ac sp ou) ++ zb_r G (b 2) K).Perm ((zb_r G (b 2) K) ++ (zb_6 G b (nI 0) sz ac sp ou)) from (show ((zb_6 G b (nI 0) sz ac sp ou) ++ zb_r G (b 2) K).Perm ((zb_r G (b 2) K) ++ zb_6 G b (nI 0) sz ac sp ou) from List.perm_append_comm).trans (List.Perm.of_eq (by simp only [List.append_assoc, List.append_nil, List.nil_append])))
      refine zk_callI (wr := zb_6 G b (nI 0) sz ac sp ou) (va_runS (As := [.ref (b 2), .int (-1), .int (-1)]) (rest := []) ⟨hx, hb, hml, hown, hts⟩ (c_X6_charged l G (b 2) K n t hI (-1) (-1) _) (cwS 3 hts gX6_about_X6_charged rfl rfl rfl (by decide +kernel) ⟨Nat.le_of_ble_eq_true rfl, Nat.le_of_ble_eq_true rfl⟩) (zk_preS hE hA0 hS (zk_Papp hP0).1 (zk_Dapp hD0).1) rfl rfl hl.1 rfl (lv_room (Nat.le_of_ble_eq_true rfl)) dX6_about_169 ⟨Nat.le_of_ble_eq_true rfl, Nat.le_of_ble_eq_true rfl⟩) hP0 hD0 hS hA (fun r30 u31 H locs q32 hP hD hS => ?_)
      subst q32
      have hP : va_P G.1 vwCl ((zb_6 G b (nI 0) sz ac sp ou) ++ zb_r G (b 2) K) H := zk_Pperm hP (show ((zb_6 G b (nI 0) sz ac sp ou) ++ zb_r G (b 2) K).Perm ((zb_r G (b 2) K) ++ (zb_6 G b (nI 0) sz ac sp ou)) from (show ((zb_6 G b (nI 0) sz ac sp ou) ++ zb_r G (b 2) K).Perm ((zb_r G (b 2) K) ++ zb_6 G b (nI 0) sz ac sp ou) from List.perm_append_comm).trans (List.Perm.of_eq (by simp only [List.append_assoc, List.append_nil, List.nil_append]))).symm
      have hD : va_D A ((zb_6 G b (nI 0) sz ac sp ou) ++ zb_r G (b 2) K) := zk_Dperm hD (show ((zb_6 G b (nI 0) sz ac sp ou) ++ zb_r G (b 2) K).Perm ((zb_r G (b 2) K) ++ (zb_6 G b (nI 0) sz ac sp ou)) from (show ((zb_6 G b (nI 0) sz ac sp ou) ++ zb_r G (b 2) K).Perm ((zb_r G (b 2) K) ++ zb_6 G b (nI 0) sz ac sp ou) from List.perm_append_comm).trans (List.Perm.of_eq (by simp only [List.append_assoc, List.append_nil, List.nil_append]))).symm
      exact zk_reti (nI 0) hQ hx hb hr hlocks hS hP hD (Nat.le_of_ble_eq_true rfl) (Nat.le_of_ble_eq_true rfl) dX6_about_172 (Or.inl ⟨zIn_of h10_3 (by decide), rfl, by rw [mAbout_9 h11_9]⟩)
    rcases Decidable.em (w = nI 10) with h11_10 | h11_n10
    · refine lv_tableIn (tgt := 173) hx hb dX6_about_27 (by rw [h11_10]; decide) (by rw [h11_10]; decide) (by rw [h11_10]; rfl) (by decide) ?_
      refine lv_aload_n hx hb dX6_about_173 rfl (lv_at hl 0 rfl) ?_
      refine va_get (D := G.1) (ci := 5) (v := .ref (b 2)) (C := RX6) (T := TX6) (N := 11) hx hb hts (fun _ h => List.mem_cons_of_mem _ (List.mem_append_right _ h)) hown hK hP 0 rfl rfl 3 (by decide) w2 (fun _ h9 => h9) rfl dX6_about_174 ?_
      refine lv_bipush (v := nI 110) hx hb dX6_about_177 (by decide) ?_
      refine lv_iconst (v := nI 5) hx hb dX6_about_179 (by decide) ?_
      have hP0 : va_P G.1 vwCl ((zb_r G (b 2) K) ++ (zb_6 G b (nI 0) sz ac sp ou)) H := zk_Pperm hP (show ((zb_6 G b (nI 0) sz ac sp ou) ++ zb_r G (b 2) K).Perm ((zb_r G (b 2) K) ++ (zb_6 G b (nI 0) sz ac sp ou)) from (show ((zb_6 G b (nI 0) sz ac sp ou) ++ zb_r G (b 2) K).Perm ((zb_r G (b 2) K) ++ zb_6 G b (nI 0) sz ac sp ou) from List.perm_append_comm).trans (List.Perm.of_eq (by simp only [List.append_assoc, List.append_nil, List.nil_append])))
      have hD0 : va_D A ((zb_r G (b 2) K) ++ (zb_6 G b (nI 0) sz ac sp ou)) := zk_Dperm hD (show ((zb_6 G b (nI 0) sz ac sp ou) ++ zb_r G (b 2) K).Perm ((zb_r G (b 2) K) ++ (zb_6 G b (nI 0) sz ac sp ou)) from (show ((zb_6 G b (nI 0) sz ac sp ou) ++ zb_r G (b 2) K).Perm ((zb_r G (b 2) K) ++ zb_6 G b (nI 0) sz ac sp ou) from List.perm_append_comm).trans (List.Perm.of_eq (by simp only [List.append_assoc, List.append_nil, List.nil_append])))
      refine zk_callI (wr := zb_6 G b (nI 0) sz ac sp ou) (va_runS (As := [.ref (b 2), .int (nI 110), .int (nI 5)]) (rest := []) ⟨hx, hb, hml, hown, hts⟩ (c_X6_sum l G (b 2) K n t hI 110 5 (by omega) _) (cwS 3 hts gX6_about_X6_sum rfl rfl rfl (by decide +kernel) ⟨Nat.le_of_ble_eq_true rfl, Nat.le_of_ble_eq_true rfl⟩) (zk_preS hE hA0 hS (zk_Papp hP0).1 (zk_Dapp hD0).1) rfl rfl hl.1 rfl (lv_room (Nat.le_of_ble_eq_true rfl)) dX6_about_180 ⟨Nat.le_of_ble_eq_true rfl, Nat.le_of_ble_eq_true rfl⟩) hP0 hD0 hS hA (fun r33 u34 H locs q35 hP hD hS => ?_)
      subst q35
      have hP : va_P G.1 vwCl ((zb_6 G b (nI 0) sz ac sp ou) ++ zb_r G (b 2) K) H := zk_Pperm hP (show ((zb_6 G b (nI 0) sz ac sp ou) ++ zb_r G (b 2) K).Perm ((zb_r G (b 2) K) ++ (zb_6 G b (nI 0) sz ac sp ou)) from (show ((zb_6 G b (nI 0) sz ac sp ou) ++ zb_r G (b 2) K).Perm ((zb_r G (b 2) K) ++ zb_6 G b (nI 0) sz ac sp ou) from List.perm_append_comm).trans (List.Perm.of_eq (by simp only [List.append_assoc, List.append_nil, List.nil_append]))).symm
      have hD : va_D A ((zb_6 G b (nI 0) sz ac sp ou) ++ zb_r G (b 2) K) := zk_Dperm hD (show ((zb_6 G b (nI 0) sz ac sp ou) ++ zb_r G (b 2) K).Perm ((zb_r G (b 2) K) ++ (zb_6 G b (nI 0) sz ac sp ou)) from (show ((zb_6 G b (nI 0) sz ac sp ou) ++ zb_r G (b 2) K).Perm ((zb_r G (b 2) K) ++ zb_6 G b (nI 0) sz ac sp ou) from List.perm_append_comm).trans (List.Perm.of_eq (by simp only [List.append_assoc, List.append_nil, List.nil_append]))).symm
      refine zk_top (zsum_8 K (by omega)) ?_
      exact zk_reti (nI 0) hQ hx hb hr hlocks hS hP hD (Nat.le_of_ble_eq_true rfl) (Nat.le_of_ble_eq_true rfl) dX6_about_183 (Or.inl ⟨zIn_of h10_3 (by decide), rfl, by rw [mAbout_10 h11_10]⟩)
    refine lv_tableOut (tgt := 184) hx hb dX6_about_27 (zk_out (0) 11 (fun k hk z => by
        rcases (show k = 0 ∨ k = 1 ∨ k = 2 ∨ k = 3 ∨ k = 4 ∨ k = 5 ∨ k = 6 ∨ k = 7 ∨ k = 8 ∨ k = 9 ∨ k = 10 by omega) with rfl | rfl | rfl | rfl | rfl | rfl | rfl | rfl | rfl | rfl | rfl
        · exact h11_n0 (zk_toI z (by decide))
        · exact h11_n1 (zk_toI z (by decide))
        · exact h11_n2 (zk_toI z (by decide))
        · exact h11_n3 (zk_toI z (by decide))
        · exact h11_n4 (zk_toI z (by decide))
        · exact h11_n5 (zk_toI z (by decide))
        · exact h11_n6 (zk_toI z (by decide))
        · exact h11_n7 (zk_toI z (by decide))
        · exact h11_n8 (zk_toI z (by decide))
        · exact h11_n9 (zk_toI z (by decide))
        · exact h11_n10 (zk_toI z (by decide)))) (by decide) ?_
    have hw11 : w = nI 11 := by
      obtain ⟨j, hj, ej⟩ := zIn_of h10_3 (by decide)
      rcases (show j = 0 ∨ j = 1 ∨ j = 2 ∨ j = 3 ∨ j = 4 ∨ j = 5 ∨ j = 6 ∨ j = 7 ∨ j = 8 ∨ j = 9 ∨ j = 10 ∨ j = 11 by omega) with rfl | rfl | rfl | rfl | rfl | rfl | rfl | rfl | rfl | rfl | rfl | rfl
      · exact absurd ej h11_n0
      · exact absurd ej h11_n1
      · exact absurd ej h11_n2
      · exact absurd ej h11_n3
      · exact absurd ej h11_n4
      · exact absurd ej h11_n5
      · exact absurd ej h11_n6
      · exact absurd ej h11_n7
      · exact absurd ej h11_n8
      · exact absurd ej h11_n9
      · exact absurd ej h11_n10
      · exact ej
    refine lv_aload_n hx hb dX6_about_184 rfl (lv_at hl 0 rfl) ?_
    refine va_get (D := G.1) (ci := 5) (v := .ref (b 2)) (C := RX6) (T := TX6) (N := 11) hx hb hts (fun _ h => List.mem_cons_of_mem _ (List.mem_append_right _ h)) hown hK hP 0 rfl rfl 3 (by decide) w2 (fun _ h9 => h9) rfl dX6_about_185 ?_
    refine lv_bipush (v := nI 69) hx hb dX6_about_188 (by decide) ?_
    refine lv_aload_n hx hb dX6_about_190 rfl (lv_at hl 0 rfl) ?_
    refine va_get (D := G.1) (ci := 5) (v := .ref (b 2)) (C := RX6) (T := TX6) (N := 11) hx hb hts (fun _ h => List.mem_cons_of_mem _ (List.mem_append_right _ h)) hown hK hP 0 rfl rfl 3 (by decide) w2 (fun _ h9 => h9) rfl dX6_about_191 ?_
    refine lv_iconst (v := nI 1) hx hb dX6_about_194 (by decide) ?_
    refine zk_ialdN hx hb hK hP 1 0 rfl rfl (k := 1) (n := 1555) (by omega) (by omega) dX6_about_195 ?_
    refine zk_top (zrow_l K (c := 1) (by omega)) ?_
    refine zk_top hI.1 ?_
    have hP0 : va_P G.1 vwCl ((zb_r G (b 2) K) ++ (zb_6 G b (nI 0) sz ac sp ou)) H := zk_Pperm hP (show ((zb_6 G b (nI 0) sz ac sp ou) ++ zb_r G (b 2) K).Perm ((zb_r G (b 2) K) ++ (zb_6 G b (nI 0) sz ac sp ou)) from (show ((zb_6 G b (nI 0) sz ac sp ou) ++ zb_r G (b 2) K).Perm ((zb_r G (b 2) K) ++ zb_6 G b (nI 0) sz ac sp ou) from List.perm_append_comm).trans (List.Perm.of_eq (by simp only [List.append_assoc, List.append_nil, List.nil_append])))
    have hD0 : va_D A ((zb_r G (b 2) K) ++ (zb_6 G b (nI 0) sz ac sp ou)) := zk_Dperm hD (show ((zb_6 G b (nI 0) sz ac sp ou) ++ zb_r G (b 2) K).Perm ((zb_r G (b 2) K) ++ (zb_6 G b (nI 0) sz ac sp ou)) from (show ((zb_6 G b (nI 0) sz ac sp ou) ++ zb_r G (b 2) K).Perm ((zb_r G (b 2) K) ++ zb_6 G b (nI 0) sz ac sp ou) from List.perm_append_comm).trans (List.Perm.of_eq (by simp only [List.append_assoc, List.append_nil, List.nil_append])))
    refine zk_callI (wr := zb_6 G b (nI 0) sz ac sp ou) (va_runS (As := [.ref (b 2), .int (nI 69), .int (nI n)]) (rest := []) ⟨hx, hb, hml, hown, hts⟩ (c_X6_sum l G (b 2) K n t hI 69 n (by omega) _) (cwS 3 hts gX6_about_X6_sum rfl rfl rfl (by decide +kernel) ⟨Nat.le_of_ble_eq_true rfl, Nat.le_of_ble_eq_true rfl⟩) (zk_preS hE hA0 hS (zk_Papp hP0).1 (zk_Dapp hD0).1) rfl rfl hl.1 rfl (lv_room (Nat.le_of_ble_eq_true rfl)) dX6_about_196 ⟨Nat.le_of_ble_eq_true rfl, Nat.le_of_ble_eq_true rfl⟩) hP0 hD0 hS hA (fun r36 u37 H locs q38 hP hD hS => ?_)
    subst q38
    have hP : va_P G.1 vwCl ((zb_6 G b (nI 0) sz ac sp ou) ++ zb_r G (b 2) K) H := zk_Pperm hP (show ((zb_6 G b (nI 0) sz ac sp ou) ++ zb_r G (b 2) K).Perm ((zb_r G (b 2) K) ++ (zb_6 G b (nI 0) sz ac sp ou)) from (show ((zb_6 G b (nI 0) sz ac sp ou) ++ zb_r G (b 2) K).Perm ((zb_r G (b 2) K) ++ zb_6 G b (nI 0) sz ac sp ou) from List.perm_append_comm).trans (List.Perm.of_eq (by simp only [List.append_assoc, List.append_nil, List.nil_append]))).symm
    have hD : va_D A ((zb_6 G b (nI 0) sz ac sp ou) ++ zb_r G (b 2) K) := zk_Dperm hD (show ((zb_6 G b (nI 0) sz ac sp ou) ++ zb_r G (b 2) K).Perm ((zb_r G (b 2) K) ++ (zb_6 G b (nI 0) sz ac sp ou)) from (show ((zb_6 G b (nI 0) sz ac sp ou) ++ zb_r G (b 2) K).Perm ((zb_r G (b 2) K) ++ zb_6 G b (nI 0) sz ac sp ou) from List.perm_append_comm).trans (List.Perm.of_eq (by simp only [List.append_assoc, List.append_nil, List.nil_append]))).symm
    refine zk_top (zsum_3 K (by omega)) ?_
    exact zk_reti (nI 0) hQ hx hb hr hlocks hS hP hD (Nat.le_of_ble_eq_true rfl) (Nat.le_of_ble_eq_true rfl) dX6_about_199 (Or.inl ⟨zIn_of h10_3 (by decide), rfl, by rw [mAbout_11 hw11]⟩)

abbrev rmX6_bySiblings : Room := { frames := 1, cells := 0, slots := 0, locals := 21 }
set_option maxHeartbeats 4000000 in
set_option maxRecDepth 100000 in
/-- the meals that siblings pay -/
theorem c_X6_bySiblings (l : Launch) (G : zk_G) (b : Nat → Nat) (rf sz ac sp ou : Int32) (K : zL) (n t : Nat) (hI : sInv K n t) (c : Nat) (hc : c < n) : zk_I (S := Unit) l yX6_bySiblings wsX6_bySiblings rmX6_bySiblings G [.ref (b 0), .int (nI c)] ((zb_6 G b rf sz ac sp ou) ++ zb_r G (b 2) K) (fun r _ => r = mSib K c) (fun _ => zb_6 G b rf sz ac sp ou ++ zb_r G (b 2) K) := by
  refine zk_bodyI (cc := cX6_bySiblings) (maxL := 4) (ret := (some .int)) (by decide) rfl (Nat.le_of_ble_eq_true rfl) ?_
  intro p E0 s m args below meth cd A ls Q hF hQ
  obtain ⟨hx, hb, hml, hr, hts, hown, hlocks, -, hE, hP, hD, hS, hA, hA0, hl⟩ := hF
  have hK := hE.1
  have hl : lv_has ls 4 [(0, .ref (b 0)), (1, .int (nI c))] := hl
  obtain ⟨hn, hn12, ht, ht40, hfam, hpay⟩ := id hI
  have w1 := hts _ (List.mem_of_getElem? (l := wsX6_bySiblings) (i := 1) (a := Cond.fieldLink RX6 13 "MealAccountsModel" "now" "[I") rfl)
  refine lv_iconst (v := nI 0) hx hb dX6_bySiblings_0 (by decide) ?_
  refine lv_istore_n (lv' := [(2, .int (nI 0)), (0, .ref (b 0)), (1, .int (nI c))]) hx hb dX6_bySiblings_1 rfl hl (by decide) rfl (fun ls hl => ?_)
  refine lv_iconst (v := nI 0) hx hb dX6_bySiblings_2 (by decide) ?_
  refine lv_istore_n (lv' := [(3, .int (nI 0)), (2, .int (nI 0)), (0, .ref (b 0)), (1, .int (nI c))]) hx hb dX6_bySiblings_3 rfl hl (by decide) rfl (fun ls hl => ?_)
  have lp1 : ∀ (n3 : Nat) (i : Nat) (x : Int32), 40 - i < n3 → (i ≤ 40) → (x = zs (fun i => if K 9 (c * 40 + i) = nI 2 ∧ ¬ K 11 (c * 40 + i) = nI c then nI 1 else nI 0) i) → ∀ (H : Heap) (locs : List Loc) (hP : va_P G.1 vwCl ((zb_6 G b rf sz ac sp ou) ++ zb_r G (b 2) K) H) (hD : va_D A ((zb_6 G b rf sz ac sp ou) ++ zb_r G (b 2) K)) (hS : va_S A s.heap H locs) (ls : Array Slot), lv_has ls 4 [(3, .int (nI i)), (2, .int x), (0, .ref (b 0)), (1, .int (nI c))] → W p l E0 rmX6_bySiblings s m args below meth cd H locs 0 0 Q (F0 m 4 ls []) := by
    intro n3
    induction n3 with
    | zero => intro i x hz; exact absurd hz (Nat.not_lt_zero _)
    | succ n3 ih2 =>
      intro i x hm hi hq H locs hP hD hS ls hl
      refine lv_iload_n hx hb dX6_bySiblings_4 rfl (lv_at hl 0 rfl) ?_
      refine lv_bipush (v := nI 40) hx hb dX6_bySiblings_5 (by decide) ?_
      refine lv_icmp_ge (tgt := 59) hx hb dX6_bySiblings_7 (by decide) (fun h7_3 => ?_) (fun h7_3 => ?_)
      · have h7_3 := zk_le (by omega) (by omega) h7_3
        refine lv_iload_n hx hb dX6_bySiblings_59 rfl (lv_at hl 1 rfl) ?_
        exact zk_reti () hQ hx hb hr hlocks hS hP hD (Nat.le_of_ble_eq_true rfl) (Nat.le_of_ble_eq_true rfl) dX6_bySiblings_60 (by rw [hq, show i = 40 by omega]; rfl)
      · have h7_3 := zk_nle (by omega) (by omega) h7_3
        refine lv_iload_n hx hb dX6_bySiblings_10 rfl (lv_at hl 1 rfl) ?_
        refine lv_aload_n hx hb dX6_bySiblings_11 rfl (lv_at hl 2 rfl) ?_
        refine va_get (D := G.1) (ci := 5) (v := .ref (b 2)) (C := RX6) (T := TX6) (N := 11) hx hb hts (fun _ h => List.mem_cons_of_mem _ (List.mem_append_right _ h)) hown hK hP 0 rfl rfl 3 (by decide) w1 (fun _ h9 => h9) rfl dX6_bySiblings_12 ?_
        refine lv_bipush (v := nI 115) hx hb dX6_bySiblings_15 (by decide) ?_
        refine lv_iload_n hx hb dX6_bySiblings_17 rfl (lv_at hl 3 rfl) ?_
        refine lv_iload_n hx hb dX6_bySiblings_18 rfl (lv_at hl 0 rfl) ?_
        have hP0 : va_P G.1 vwCl (([] : va_W) ++ ((zb_6 G b rf sz ac sp ou) ++ zb_r G (b 2) K)) H := hP
        have hD0 : va_D A (([] : va_W) ++ ((zb_6 G b rf sz ac sp ou) ++ zb_r G (b 2) K)) := hD
        refine zk_callI (wr := (zb_6 G b rf sz ac sp ou) ++ zb_r G (b 2) K) (va_runS (As := [.int (nI c), .int (nI i)]) (rest := [.int (nI 115), .ref (b 2), .int x]) ⟨hx, hb, hml, hown, hts⟩ (c_X6_at l G c i _) (cwS 2 hts gX6_bySiblings_X6_at rfl rfl rfl (by decide +kernel) ⟨Nat.le_of_ble_eq_true rfl, Nat.le_of_ble_eq_true rfl⟩) (zk_preS hE hA0 hS (zk_Papp hP0).1 (zk_Dapp hD0).1) rfl rfl hl.1 rfl (lv_room (Nat.le_of_ble_eq_true rfl)) dX6_bySiblings_19 ⟨Nat.le_of_ble_eq_true rfl, Nat.le_of_ble_eq_true rfl⟩) hP0 hD0 hS hA (fun r5 u6 H locs q7 hP hD hS => ?_)
        subst q7
        have hP : va_P G.1 vwCl ((zb_6 G b rf sz ac sp ou) ++ zb_r G (b 2) K) H := hP
        have hD : va_D A ((zb_6 G b rf sz ac sp ou) ++ zb_r G (b 2) K) := hD
        refine zk_iaddN hx hb dX6_bySiblings_22 ?_
        refine zk_ialdN hx hb hK hP 1 0 rfl rfl (k := (115 + (c * 40 + i))) (n := 1555) (by omega) (by omega) dX6_bySiblings_23 ?_
        refine zk_top (zrow_9 K (c := c * 40 + i) (by omega)) ?_
        refine lv_iconst (v := nI 2) hx hb dX6_bySiblings_24 (by decide) ?_
        refine lv_icmp_ne (tgt := 50) hx hb dX6_bySiblings_25 (by decide) (fun h25_7 => ?_) (fun h25_7 => ?_)
        · refine lv_iconst (v := nI 0) hx hb dX6_bySiblings_50 (by decide) ?_
          refine lv_iadd hx hb dX6_bySiblings_51 ?_
          refine lv_topi (fun x9 ex9 => ?_)
          refine lv_istore_n (lv' := [(2, .int x9), (3, .int (nI i)), (0, .ref (b 0)), (1, .int (nI c))]) hx hb dX6_bySiblings_52 rfl hl (by decide) rfl (fun ls hl => ?_)
          refine lv_iinc (v := nI (i + 1)) (lv' := [(3, .int (nI (i + 1))), (2, .int x9), (0, .ref (b 0)), (1, .int (nI c))]) hx hb dX6_bySiblings_53 hl (k := 1) rfl (zk_inc i 1) (by decide) rfl (fun ls hl => ?_)
          refine lv_goto (tgt := 4) hx hb dX6_bySiblings_56 (by decide) ?_
          exact ih2 (i + 1) x9 (by omega) (by omega) (by refine zs_i hq ?_; simp +decide [zk_a0, h7_3, h25_7, ex9]) _ _ hP hD hS ls (lv_sub hl [0, 1, 2, 3] rfl)
        · refine lv_aload_n hx hb dX6_bySiblings_28 rfl (lv_at hl 2 rfl) ?_
          refine va_get (D := G.1) (ci := 5) (v := .ref (b 2)) (C := RX6) (T := TX6) (N := 11) hx hb hts (fun _ h => List.mem_cons_of_mem _ (List.mem_append_right _ h)) hown hK hP 0 rfl rfl 3 (by decide) w1 (fun _ h9 => h9) rfl dX6_bySiblings_29 ?_
          refine lv_sipush (v := nI 1075) hx hb dX6_bySiblings_32 (by decide) ?_
          refine lv_iload_n hx hb dX6_bySiblings_35 rfl (lv_at hl 3 rfl) ?_
          refine lv_iload_n hx hb dX6_bySiblings_36 rfl (lv_at hl 0 rfl) ?_
          have hP0 : va_P G.1 vwCl (([] : va_W) ++ ((zb_6 G b rf sz ac sp ou) ++ zb_r G (b 2) K)) H := hP
          have hD0 : va_D A (([] : va_W) ++ ((zb_6 G b rf sz ac sp ou) ++ zb_r G (b 2) K)) := hD
          refine zk_callI (wr := (zb_6 G b rf sz ac sp ou) ++ zb_r G (b 2) K) (va_runS (As := [.int (nI c), .int (nI i)]) (rest := [.int (nI 1075), .ref (b 2), .int x]) ⟨hx, hb, hml, hown, hts⟩ (c_X6_at l G c i _) (cwS 2 hts gX6_bySiblings_X6_at rfl rfl rfl (by decide +kernel) ⟨Nat.le_of_ble_eq_true rfl, Nat.le_of_ble_eq_true rfl⟩) (zk_preS hE hA0 hS (zk_Papp hP0).1 (zk_Dapp hD0).1) rfl rfl hl.1 rfl (lv_room (Nat.le_of_ble_eq_true rfl)) dX6_bySiblings_37 ⟨Nat.le_of_ble_eq_true rfl, Nat.le_of_ble_eq_true rfl⟩) hP0 hD0 hS hA (fun r10 u11 H locs q12 hP hD hS => ?_)
          subst q12
          have hP : va_P G.1 vwCl ((zb_6 G b rf sz ac sp ou) ++ zb_r G (b 2) K) H := hP
          have hD : va_D A ((zb_6 G b rf sz ac sp ou) ++ zb_r G (b 2) K) := hD
          refine zk_iaddN hx hb dX6_bySiblings_40 ?_
          refine zk_ialdN hx hb hK hP 1 0 rfl rfl (k := (1075 + (c * 40 + i))) (n := 1555) (by omega) (by omega) dX6_bySiblings_41 ?_
          refine zk_top (zrow_11 K (c := c * 40 + i) (by omega)) ?_
          refine lv_iload_n hx hb dX6_bySiblings_42 rfl (lv_at hl 3 rfl) ?_
          refine lv_icmp_eq (tgt := 50) hx hb dX6_bySiblings_43 (by decide) (fun h43_12 => ?_) (fun h43_12 => ?_)
          · refine lv_iconst (v := nI 0) hx hb dX6_bySiblings_50 (by decide) ?_
            refine lv_iadd hx hb dX6_bySiblings_51 ?_
            refine lv_topi (fun x14 ex14 => ?_)
            refine lv_istore_n (lv' := [(2, .int x14), (3, .int (nI i)), (0, .ref (b 0)), (1, .int (nI c))]) hx hb dX6_bySiblings_52 rfl hl (by decide) rfl (fun ls hl => ?_)
            refine lv_iinc (v := nI (i + 1)) (lv' := [(3, .int (nI (i + 1))), (2, .int x14), (0, .ref (b 0)), (1, .int (nI c))]) hx hb dX6_bySiblings_53 hl (k := 1) rfl (zk_inc i 1) (by decide) rfl (fun ls hl => ?_)
            refine lv_goto (tgt := 4) hx hb dX6_bySiblings_56 (by decide) ?_
            exact ih2 (i + 1) x14 (by omega) (by omega) (by refine zs_i hq ?_; simp +decide [zk_a0, h7_3, h25_7, h43_12, ex14]) _ _ hP hD hS ls (lv_sub hl [0, 1, 2, 3] rfl)
          · refine lv_iconst (v := nI 1) hx hb dX6_bySiblings_46 (by decide) ?_
            refine lv_goto (tgt := 51) hx hb dX6_bySiblings_47 (by decide) ?_
            refine lv_iadd hx hb dX6_bySiblings_51 ?_
            refine lv_topi (fun x15 ex15 => ?_)
            refine lv_istore_n (lv' := [(2, .int x15), (3, .int (nI i)), (0, .ref (b 0)), (1, .int (nI c))]) hx hb dX6_bySiblings_52 rfl hl (by decide) rfl (fun ls hl => ?_)
            refine lv_iinc (v := nI (i + 1)) (lv' := [(3, .int (nI (i + 1))), (2, .int x15), (0, .ref (b 0)), (1, .int (nI c))]) hx hb dX6_bySiblings_53 hl (k := 1) rfl (zk_inc i 1) (by decide) rfl (fun ls hl => ?_)
            refine lv_goto (tgt := 4) hx hb dX6_bySiblings_56 (by decide) ?_
            exact ih2 (i + 1) x15 (by omega) (by omega) (by refine zs_i hq ?_; simp +decide [zk_a0, h7_3, h25_7, h43_12, ex15]) _ _ hP hD hS ls (lv_sub hl [0, 1, 2, 3] rfl)
  exact lp1 _ 0 (nI 0) (Nat.lt_succ_self _) (by omega) (rfl) _ _ hP hD hS ls (lv_sub hl [0, 1, 2, 3] rfl)

def mChild (K : zL) (n t : Nat) (ck : Nat) (w : Int32) : Int32 :=
  if w = nI 0 then K 1 ck else if w = nI 1 then K 2 ck else if w = nI 2 then K 3 ck else if w = nI 3 then K 4 ck else if w = nI 4 then K 5 ck else if w = nI 5 then kSrv K n (nI ck) (-1) else if w = nI 6 then mSib K ck else if w = nI 7 then kChg K n (-1) (nI ck) else if w = nI 8 then kCnt K n (nI ck) (-1) (nI 4) else -1
theorem mChild_0 {K : zL} {n t : Nat} {ck : Nat} {w : Int32} (h : w = nI 0) : mChild K n t ck w = K 1 ck := by subst h; rfl
theorem mChild_1 {K : zL} {n t : Nat} {ck : Nat} {w : Int32} (h : w = nI 1) : mChild K n t ck w = K 2 ck := by subst h; rfl
theorem mChild_2 {K : zL} {n t : Nat} {ck : Nat} {w : Int32} (h : w = nI 2) : mChild K n t ck w = K 3 ck := by subst h; rfl
theorem mChild_3 {K : zL} {n t : Nat} {ck : Nat} {w : Int32} (h : w = nI 3) : mChild K n t ck w = K 4 ck := by subst h; rfl
theorem mChild_4 {K : zL} {n t : Nat} {ck : Nat} {w : Int32} (h : w = nI 4) : mChild K n t ck w = K 5 ck := by subst h; rfl
theorem mChild_5 {K : zL} {n t : Nat} {ck : Nat} {w : Int32} (h : w = nI 5) : mChild K n t ck w = kSrv K n (nI ck) (-1) := by subst h; rfl
theorem mChild_6 {K : zL} {n t : Nat} {ck : Nat} {w : Int32} (h : w = nI 6) : mChild K n t ck w = mSib K ck := by subst h; rfl
theorem mChild_7 {K : zL} {n t : Nat} {ck : Nat} {w : Int32} (h : w = nI 7) : mChild K n t ck w = kChg K n (-1) (nI ck) := by subst h; rfl
theorem mChild_8 {K : zL} {n t : Nat} {ck : Nat} {w : Int32} (h : w = nI 8) : mChild K n t ck w = kCnt K n (nI ck) (-1) (nI 4) := by subst h; rfl
abbrev rmX6_child : Room := { frames := 3, cells := 0, slots := 0, locals := 70 }
set_option maxHeartbeats 4000000 in
set_option maxRecDepth 100000 in
/-- a child -/
theorem c_X6_child (l : Launch) (G : zk_G) (b : Nat → Nat) (rf sz ac sp ou : Int32) (K : zL) (n t : Nat) (hI : sInv K n t) (c w : Int32) : zk_I (S := Int32) l yX6_child wsX6_child rmX6_child G [.ref (b 0), .int c, .int w] ((zb_6 G b rf sz ac sp ou) ++ zb_r G (b 2) K) (fun r u => (sHas K c ∧ zIn w 9 ∧ u = nI 0 ∧ r = mChild K n t c.toNatClampNeg w) ∨ (¬ sHas K c ∧ u = nI 1) ∨ (sHas K c ∧ ¬ zIn w 9 ∧ u = nI 2)) (fun u => zb_6 G b u sz ac sp ou ++ zb_r G (b 2) K) := by
  refine zk_bodyI (cc := cX6_child) (maxL := 3) (ret := (some .int)) (by decide) rfl (Nat.le_of_ble_eq_true rfl) ?_
  intro p E0 s m args below meth cd A ls Q hF hQ
  obtain ⟨hx, hb, hml, hr, hts, hown, hlocks, -, hE, hP, hD, hS, hA, hA0, hl⟩ := hF
  have hK := hE.1
  have hl : lv_has ls 3 [(0, .ref (b 0)), (1, .int c), (2, .int w)] := hl
  obtain ⟨hn, hn12, ht, ht40, hfam, hpay⟩ := id hI
  have w1 := hts _ (List.mem_of_getElem? (l := wsX6_child) (i := 1) (a := Cond.fieldLink RX6 13 "MealAccountsModel" "now" "[I") rfl)
  have w2 := hts _ (List.mem_of_getElem? (l := wsX6_child) (i := 2) (a := Cond.constantLong RX6 156 (8)) rfl)
  refine lv_aload_n hx hb dX6_child_0 rfl (lv_at hl 0 rfl) ?_
  refine lv_aload_n hx hb dX6_child_1 rfl (lv_at hl 0 rfl) ?_
  refine va_get (D := G.1) (ci := 5) (v := .ref (b 2)) (C := RX6) (T := TX6) (N := 11) hx hb hts (fun _ h => List.mem_cons_of_mem _ (List.mem_append_right _ h)) hown hK hP 0 rfl rfl 3 (by decide) w1 (fun _ h9 => h9) rfl dX6_child_2 ?_
  refine lv_iload_n hx hb dX6_child_5 rfl (lv_at hl 1 rfl) ?_
  have hP0 : va_P G.1 vwCl ((zb_r G (b 2) K) ++ (zb_6 G b rf sz ac sp ou)) s.heap := zk_Pperm hP (show ((zb_6 G b rf sz ac sp ou) ++ zb_r G (b 2) K).Perm ((zb_r G (b 2) K) ++ (zb_6 G b rf sz ac sp ou)) from (show ((zb_6 G b rf sz ac sp ou) ++ zb_r G (b 2) K).Perm ((zb_r G (b 2) K) ++ zb_6 G b rf sz ac sp ou) from List.perm_append_comm).trans (List.Perm.of_eq (by simp only [List.append_assoc, List.append_nil, List.nil_append])))
  have hD0 : va_D A ((zb_r G (b 2) K) ++ (zb_6 G b rf sz ac sp ou)) := zk_Dperm hD (show ((zb_6 G b rf sz ac sp ou) ++ zb_r G (b 2) K).Perm ((zb_r G (b 2) K) ++ (zb_6 G b rf sz ac sp ou)) from (show ((zb_6 G b rf sz ac sp ou) ++ zb_r G (b 2) K).Perm ((zb_r G (b 2) K) ++ zb_6 G b rf sz ac sp ou) from List.perm_append_comm).trans (List.Perm.of_eq (by simp only [List.append_assoc, List.append_nil, List.nil_append])))
  refine zk_callI (wr := zb_6 G b rf sz ac sp ou) (va_runS (As := [.ref (b 2), .int c]) (rest := [.ref (b 0)]) ⟨hx, hb, hml, hown, hts⟩ (c_X6_isChild l G (b 2) K n t hI c _) (cwS 2 hts gX6_child_X6_isChild rfl rfl rfl (by decide +kernel) ⟨Nat.le_of_ble_eq_true rfl, Nat.le_of_ble_eq_true rfl⟩) (zk_preS hE hA0 hS (zk_Papp hP0).1 (zk_Dapp hD0).1) rfl rfl hl.1 rfl (lv_room (Nat.le_of_ble_eq_true rfl)) dX6_child_6 ⟨Nat.le_of_ble_eq_true rfl, Nat.le_of_ble_eq_true rfl⟩) hP0 hD0 hS hA (fun r1 u2 H locs q3 hP hD hS => ?_)
  subst q3
  have hP : va_P G.1 vwCl ((zb_6 G b rf sz ac sp ou) ++ zb_r G (b 2) K) H := zk_Pperm hP (show ((zb_6 G b rf sz ac sp ou) ++ zb_r G (b 2) K).Perm ((zb_r G (b 2) K) ++ (zb_6 G b rf sz ac sp ou)) from (show ((zb_6 G b rf sz ac sp ou) ++ zb_r G (b 2) K).Perm ((zb_r G (b 2) K) ++ zb_6 G b rf sz ac sp ou) from List.perm_append_comm).trans (List.Perm.of_eq (by simp only [List.append_assoc, List.append_nil, List.nil_append]))).symm
  have hD : va_D A ((zb_6 G b rf sz ac sp ou) ++ zb_r G (b 2) K) := zk_Dperm hD (show ((zb_6 G b rf sz ac sp ou) ++ zb_r G (b 2) K).Perm ((zb_r G (b 2) K) ++ (zb_6 G b rf sz ac sp ou)) from (show ((zb_6 G b rf sz ac sp ou) ++ zb_r G (b 2) K).Perm ((zb_r G (b 2) K) ++ zb_6 G b rf sz ac sp ou) from List.perm_append_comm).trans (List.Perm.of_eq (by simp only [List.append_assoc, List.append_nil, List.nil_append]))).symm
  refine lv_if_ne (tgt := 16) hx hb dX6_child_9 (by decide) (fun h9_3 => ?_) (fun h9_3 => ?_)
  · have h9_3 := zk_b1 h9_3
    refine lv_iload_n hx hb dX6_child_16 rfl (lv_at hl 2 rfl) ?_
    refine lv_i2l (v := w.toInt64) hx hb dX6_child_17 rfl ?_
    refine lv_lconst (v := lN 0) hx hb dX6_child_18 rfl ?_
    refine zk_topL (show lN 0 = (nI 0).toInt64 from (nI_l (by decide)).symm) ?_
    refine lv_ldc2 hx hb (v := lN 8) hown w2 dX6_child_19 ?_
    refine zk_topL (show lN 8 = (nI 8).toInt64 from (nI_l (by decide)).symm) ?_
    have hP0 : va_P G.1 vwCl (([] : va_W) ++ ((zb_6 G b rf sz ac sp ou) ++ zb_r G (b 2) K)) H := hP
    have hD0 : va_D A (([] : va_W) ++ ((zb_6 G b rf sz ac sp ou) ++ zb_r G (b 2) K)) := hD
    refine zk_callI (wr := (zb_6 G b rf sz ac sp ou) ++ zb_r G (b 2) K) (va_runS (As := [.long w.toInt64, .long ((nI 0).toInt64), .long ((nI 8).toInt64)]) (rest := [.ref (b 0)]) ⟨hx, hb, hml, hown, hts⟩ (c_X6_inI l G w (nI 0) (nI 8) _) (cwS 3 hts gX6_child_X6_in rfl rfl rfl (by decide +kernel) ⟨Nat.le_of_ble_eq_true rfl, Nat.le_of_ble_eq_true rfl⟩) (zk_preS hE hA0 hS (zk_Papp hP0).1 (zk_Dapp hD0).1) rfl rfl hl.1 rfl (lv_room (Nat.le_of_ble_eq_true rfl)) dX6_child_22 ⟨Nat.le_of_ble_eq_true rfl, Nat.le_of_ble_eq_true rfl⟩) hP0 hD0 hS hA (fun r5 u6 H locs q7 hP hD hS => ?_)
    subst q7
    have hP : va_P G.1 vwCl ((zb_6 G b rf sz ac sp ou) ++ zb_r G (b 2) K) H := hP
    have hD : va_D A ((zb_6 G b rf sz ac sp ou) ++ zb_r G (b 2) K) := hD
    refine lv_if_eq (tgt := 32) hx hb dX6_child_25 (by decide) (fun h25_7 => ?_) (fun h25_7 => ?_)
    · have h25_7 := zk_b0 h25_7
      refine lv_iconst (v := nI 2) hx hb dX6_child_32 (by decide) ?_
      have hP0 : va_P G.1 vwCl ((zb_6 G b rf sz ac sp ou) ++ (zb_r G (b 2) K)) H := zk_Pperm hP (show ((zb_6 G b rf sz ac sp ou) ++ zb_r G (b 2) K).Perm ((zb_6 G b rf sz ac sp ou) ++ (zb_r G (b 2) K)) from (show ((zb_6 G b rf sz ac sp ou) ++ zb_r G (b 2) K).Perm ((zb_6 G b rf sz ac sp ou) ++ zb_r G (b 2) K) from List.Perm.refl _).trans (List.Perm.of_eq (by simp only [List.append_assoc, List.append_nil, List.nil_append])))
      have hD0 : va_D A ((zb_6 G b rf sz ac sp ou) ++ (zb_r G (b 2) K)) := zk_Dperm hD (show ((zb_6 G b rf sz ac sp ou) ++ zb_r G (b 2) K).Perm ((zb_6 G b rf sz ac sp ou) ++ (zb_r G (b 2) K)) from (show ((zb_6 G b rf sz ac sp ou) ++ zb_r G (b 2) K).Perm ((zb_6 G b rf sz ac sp ou) ++ zb_r G (b 2) K) from List.Perm.refl _).trans (List.Perm.of_eq (by simp only [List.append_assoc, List.append_nil, List.nil_append])))
      refine zk_callI (wr := zb_r G (b 2) K) (va_runV (As := [.int (nI 2)]) (rest := []) ⟨hx, hb, hml, hown, hts⟩ (c_X6_refused l G b rf sz ac sp ou (nI 2) _) (cwV 1 hts gX6_child_X6_refused rfl rfl rfl (by decide +kernel) ⟨Nat.le_of_ble_eq_true rfl, Nat.le_of_ble_eq_true rfl⟩) (zk_preV hE hA0 hS (zk_Papp hP0).1 (zk_Dapp hD0).1 (va_recv hK hP0 (ci := 5) (q0 := 0) rfl rfl)) rfl rfl hl.1 rfl (lv_room (Nat.le_of_ble_eq_true rfl)) dX6_child_33 ⟨Nat.le_of_ble_eq_true rfl, Nat.le_of_ble_eq_true rfl⟩) hP0 hD0 hS hA (fun r9 u10 H locs q11 hP hD hS => ?_)
      subst q11
      have hP : va_P G.1 vwCl ((zb_6 G b (nI 2) sz ac sp ou) ++ zb_r G (b 2) K) H := zk_Pperm hP (show ((zb_6 G b (nI 2) sz ac sp ou) ++ zb_r G (b 2) K).Perm ((zb_6 G b (nI 2) sz ac sp ou) ++ (zb_r G (b 2) K)) from (show ((zb_6 G b (nI 2) sz ac sp ou) ++ zb_r G (b 2) K).Perm ((zb_6 G b (nI 2) sz ac sp ou) ++ zb_r G (b 2) K) from List.Perm.refl _).trans (List.Perm.of_eq (by simp only [List.append_assoc, List.append_nil, List.nil_append]))).symm
      have hD : va_D A ((zb_6 G b (nI 2) sz ac sp ou) ++ zb_r G (b 2) K) := zk_Dperm hD (show ((zb_6 G b (nI 2) sz ac sp ou) ++ zb_r G (b 2) K).Perm ((zb_6 G b (nI 2) sz ac sp ou) ++ (zb_r G (b 2) K)) from (show ((zb_6 G b (nI 2) sz ac sp ou) ++ zb_r G (b 2) K).Perm ((zb_6 G b (nI 2) sz ac sp ou) ++ zb_r G (b 2) K) from List.Perm.refl _).trans (List.Perm.of_eq (by simp only [List.append_assoc, List.append_nil, List.nil_append]))).symm
      refine zk_top (show (if 0 < (nI 2) then nI 1 else nI 0) = nI 1 by decide) ?_
      refine lv_if_eq (tgt := 41) hx hb dX6_child_36 (by decide) (fun z => absurd z (by decide)) (fun _ => ?_)
      refine lv_iconst (v := nI 0) hx hb dX6_child_39 (by decide) ?_
      exact zk_reti (nI 2) hQ hx hb hr hlocks hS hP hD (Nat.le_of_ble_eq_true rfl) (Nat.le_of_ble_eq_true rfl) dX6_child_40 (Or.inr (Or.inr (⟨h9_3, zIn_no h25_7 (by decide), rfl⟩)))
    · have h25_7 := zk_b1 h25_7
      refine lv_iconst (v := nI 0) hx hb dX6_child_28 (by decide) ?_
      refine lv_goto (tgt := 33) hx hb dX6_child_29 (by decide) ?_
      have hP0 : va_P G.1 vwCl ((zb_6 G b rf sz ac sp ou) ++ (zb_r G (b 2) K)) H := zk_Pperm hP (show ((zb_6 G b rf sz ac sp ou) ++ zb_r G (b 2) K).Perm ((zb_6 G b rf sz ac sp ou) ++ (zb_r G (b 2) K)) from (show ((zb_6 G b rf sz ac sp ou) ++ zb_r G (b 2) K).Perm ((zb_6 G b rf sz ac sp ou) ++ zb_r G (b 2) K) from List.Perm.refl _).trans (List.Perm.of_eq (by simp only [List.append_assoc, List.append_nil, List.nil_append])))
      have hD0 : va_D A ((zb_6 G b rf sz ac sp ou) ++ (zb_r G (b 2) K)) := zk_Dperm hD (show ((zb_6 G b rf sz ac sp ou) ++ zb_r G (b 2) K).Perm ((zb_6 G b rf sz ac sp ou) ++ (zb_r G (b 2) K)) from (show ((zb_6 G b rf sz ac sp ou) ++ zb_r G (b 2) K).Perm ((zb_6 G b rf sz ac sp ou) ++ zb_r G (b 2) K) from List.Perm.refl _).trans (List.Perm.of_eq (by simp only [List.append_assoc, List.append_nil, List.nil_append])))
      refine zk_callI (wr := zb_r G (b 2) K) (va_runV (As := [.int (nI 0)]) (rest := []) ⟨hx, hb, hml, hown, hts⟩ (c_X6_refused l G b rf sz ac sp ou (nI 0) _) (cwV 1 hts gX6_child_X6_refused rfl rfl rfl (by decide +kernel) ⟨Nat.le_of_ble_eq_true rfl, Nat.le_of_ble_eq_true rfl⟩) (zk_preV hE hA0 hS (zk_Papp hP0).1 (zk_Dapp hD0).1 (va_recv hK hP0 (ci := 5) (q0 := 0) rfl rfl)) rfl rfl hl.1 rfl (lv_room (Nat.le_of_ble_eq_true rfl)) dX6_child_33 ⟨Nat.le_of_ble_eq_true rfl, Nat.le_of_ble_eq_true rfl⟩) hP0 hD0 hS hA (fun r12 u13 H locs q14 hP hD hS => ?_)
      subst q14
      have hP : va_P G.1 vwCl ((zb_6 G b (nI 0) sz ac sp ou) ++ zb_r G (b 2) K) H := zk_Pperm hP (show ((zb_6 G b (nI 0) sz ac sp ou) ++ zb_r G (b 2) K).Perm ((zb_6 G b (nI 0) sz ac sp ou) ++ (zb_r G (b 2) K)) from (show ((zb_6 G b (nI 0) sz ac sp ou) ++ zb_r G (b 2) K).Perm ((zb_6 G b (nI 0) sz ac sp ou) ++ zb_r G (b 2) K) from List.Perm.refl _).trans (List.Perm.of_eq (by simp only [List.append_assoc, List.append_nil, List.nil_append]))).symm
      have hD : va_D A ((zb_6 G b (nI 0) sz ac sp ou) ++ zb_r G (b 2) K) := zk_Dperm hD (show ((zb_6 G b (nI 0) sz ac sp ou) ++ zb_r G (b 2) K).Perm ((zb_6 G b (nI 0) sz ac sp ou) ++ (zb_r G (b 2) K)) from (show ((zb_6 G b (nI 0) sz ac sp ou) ++ zb_r G (b 2) K).Perm ((zb_6 G b (nI 0) sz ac sp ou) ++ zb_r G (b 2) K) from List.Perm.refl _).trans (List.Perm.of_eq (by simp only [List.append_assoc, List.append_nil, List.nil_append]))).symm
      refine zk_top (show (if 0 < (nI 0) then nI 1 else nI 0) = nI 0 by decide) ?_
      refine lv_if_eq (tgt := 41) hx hb dX6_child_36 (by decide) (fun _ => ?_) (fun z => absurd (by decide) z)
      obtain ⟨ck, hck, eck⟩ := sHas_nat hI h9_3
      subst eck
      have nck := nI_clamp (show ck < 2 ^ 31 by omega)
      refine lv_iload_n hx hb dX6_child_41 rfl (lv_at hl 2 rfl) ?_
      rcases Decidable.em (w = nI 0) with h15_0 | h15_n0
      · refine lv_tableIn (tgt := 88) hx hb dX6_child_42 (by rw [h15_0]; decide) (by rw [h15_0]; decide) (by rw [h15_0]; rfl) (by decide) ?_
        refine lv_aload_n hx hb dX6_child_88 rfl (lv_at hl 0 rfl) ?_
        refine va_get (D := G.1) (ci := 5) (v := .ref (b 2)) (C := RX6) (T := TX6) (N := 11) hx hb hts (fun _ h => List.mem_cons_of_mem _ (List.mem_append_right _ h)) hown hK hP 0 rfl rfl 3 (by decide) w1 (fun _ h9 => h9) rfl dX6_child_89 ?_
        refine lv_bipush (v := nI 45) hx hb dX6_child_92 (by decide) ?_
        refine lv_iload_n hx hb dX6_child_94 rfl (lv_at hl 1 rfl) ?_
        refine zk_iaddN hx hb dX6_child_95 ?_
        refine zk_ialdN hx hb hK hP 1 0 rfl rfl (k := (45 + ck)) (n := 1555) (by omega) (by omega) dX6_child_96 ?_
        refine zk_top (zrow_1 K (c := ck) (by omega)) ?_
        exact zk_reti (nI 0) hQ hx hb hr hlocks hS hP hD (Nat.le_of_ble_eq_true rfl) (Nat.le_of_ble_eq_true rfl) dX6_child_97 (Or.inl ⟨h9_3, zIn_of h25_7 (by decide), rfl, by rw [nck, mChild_0 h15_0]⟩)
      rcases Decidable.em (w = nI 1) with h15_1 | h15_n1
      · refine lv_tableIn (tgt := 98) hx hb dX6_child_42 (by rw [h15_1]; decide) (by rw [h15_1]; decide) (by rw [h15_1]; rfl) (by decide) ?_
        refine lv_aload_n hx hb dX6_child_98 rfl (lv_at hl 0 rfl) ?_
        refine va_get (D := G.1) (ci := 5) (v := .ref (b 2)) (C := RX6) (T := TX6) (N := 11) hx hb hts (fun _ h => List.mem_cons_of_mem _ (List.mem_append_right _ h)) hown hK hP 0 rfl rfl 3 (by decide) w1 (fun _ h9 => h9) rfl dX6_child_99 ?_
        refine lv_bipush (v := nI 57) hx hb dX6_child_102 (by decide) ?_
        refine lv_iload_n hx hb dX6_child_104 rfl (lv_at hl 1 rfl) ?_
        refine zk_iaddN hx hb dX6_child_105 ?_
        refine zk_ialdN hx hb hK hP 1 0 rfl rfl (k := (57 + ck)) (n := 1555) (by omega) (by omega) dX6_child_106 ?_
        refine zk_top (zrow_2 K (c := ck) (by omega)) ?_
        exact zk_reti (nI 0) hQ hx hb hr hlocks hS hP hD (Nat.le_of_ble_eq_true rfl) (Nat.le_of_ble_eq_true rfl) dX6_child_107 (Or.inl ⟨h9_3, zIn_of h25_7 (by decide), rfl, by rw [nck, mChild_1 h15_1]⟩)
      rcases Decidable.em (w = nI 2) with h15_2 | h15_n2
      · refine lv_tableIn (tgt := 108) hx hb dX6_child_42 (by rw [h15_2]; decide) (by rw [h15_2]; decide) (by rw [h15_2]; rfl) (by decide) ?_
        refine lv_aload_n hx hb dX6_child_108 rfl (lv_at hl 0 rfl) ?_
        refine va_get (D := G.1) (ci := 5) (v := .ref (b 2)) (C := RX6) (T := TX6) (N := 11) hx hb hts (fun _ h => List.mem_cons_of_mem _ (List.mem_append_right _ h)) hown hK hP 0 rfl rfl 3 (by decide) w1 (fun _ h9 => h9) rfl dX6_child_109 ?_
        refine lv_bipush (v := nI 69) hx hb dX6_child_112 (by decide) ?_
        refine lv_iload_n hx hb dX6_child_114 rfl (lv_at hl 1 rfl) ?_
        refine zk_iaddN hx hb dX6_child_115 ?_
        refine zk_ialdN hx hb hK hP 1 0 rfl rfl (k := (69 + ck)) (n := 1555) (by omega) (by omega) dX6_child_116 ?_
        refine zk_top (zrow_3 K (c := ck) (by omega)) ?_
        exact zk_reti (nI 0) hQ hx hb hr hlocks hS hP hD (Nat.le_of_ble_eq_true rfl) (Nat.le_of_ble_eq_true rfl) dX6_child_117 (Or.inl ⟨h9_3, zIn_of h25_7 (by decide), rfl, by rw [nck, mChild_2 h15_2]⟩)
      rcases Decidable.em (w = nI 3) with h15_3 | h15_n3
      · refine lv_tableIn (tgt := 118) hx hb dX6_child_42 (by rw [h15_3]; decide) (by rw [h15_3]; decide) (by rw [h15_3]; rfl) (by decide) ?_
        refine lv_aload_n hx hb dX6_child_118 rfl (lv_at hl 0 rfl) ?_
        refine va_get (D := G.1) (ci := 5) (v := .ref (b 2)) (C := RX6) (T := TX6) (N := 11) hx hb hts (fun _ h => List.mem_cons_of_mem _ (List.mem_append_right _ h)) hown hK hP 0 rfl rfl 3 (by decide) w1 (fun _ h9 => h9) rfl dX6_child_119 ?_
        refine lv_bipush (v := nI 81) hx hb dX6_child_122 (by decide) ?_
        refine lv_iload_n hx hb dX6_child_124 rfl (lv_at hl 1 rfl) ?_
        refine zk_iaddN hx hb dX6_child_125 ?_
        refine zk_ialdN hx hb hK hP 1 0 rfl rfl (k := (81 + ck)) (n := 1555) (by omega) (by omega) dX6_child_126 ?_
        refine zk_top (zrow_4 K (c := ck) (by omega)) ?_
        exact zk_reti (nI 0) hQ hx hb hr hlocks hS hP hD (Nat.le_of_ble_eq_true rfl) (Nat.le_of_ble_eq_true rfl) dX6_child_127 (Or.inl ⟨h9_3, zIn_of h25_7 (by decide), rfl, by rw [nck, mChild_3 h15_3]⟩)
      rcases Decidable.em (w = nI 4) with h15_4 | h15_n4
      · refine lv_tableIn (tgt := 128) hx hb dX6_child_42 (by rw [h15_4]; decide) (by rw [h15_4]; decide) (by rw [h15_4]; rfl) (by decide) ?_
        refine lv_aload_n hx hb dX6_child_128 rfl (lv_at hl 0 rfl) ?_
        refine va_get (D := G.1) (ci := 5) (v := .ref (b 2)) (C := RX6) (T := TX6) (N := 11) hx hb hts (fun _ h => List.mem_cons_of_mem _ (List.mem_append_right _ h)) hown hK hP 0 rfl rfl 3 (by decide) w1 (fun _ h9 => h9) rfl dX6_child_129 ?_
        refine lv_bipush (v := nI 93) hx hb dX6_child_132 (by decide) ?_
        refine lv_iload_n hx hb dX6_child_134 rfl (lv_at hl 1 rfl) ?_
        refine zk_iaddN hx hb dX6_child_135 ?_
        refine zk_ialdN hx hb hK hP 1 0 rfl rfl (k := (93 + ck)) (n := 1555) (by omega) (by omega) dX6_child_136 ?_
        refine zk_top (zrow_5 K (c := ck) (by omega)) ?_
        exact zk_reti (nI 0) hQ hx hb hr hlocks hS hP hD (Nat.le_of_ble_eq_true rfl) (Nat.le_of_ble_eq_true rfl) dX6_child_137 (Or.inl ⟨h9_3, zIn_of h25_7 (by decide), rfl, by rw [nck, mChild_4 h15_4]⟩)
      rcases Decidable.em (w = nI 5) with h15_5 | h15_n5
      · refine lv_tableIn (tgt := 138) hx hb dX6_child_42 (by rw [h15_5]; decide) (by rw [h15_5]; decide) (by rw [h15_5]; rfl) (by decide) ?_
        refine lv_aload_n hx hb dX6_child_138 rfl (lv_at hl 0 rfl) ?_
        refine va_get (D := G.1) (ci := 5) (v := .ref (b 2)) (C := RX6) (T := TX6) (N := 11) hx hb hts (fun _ h => List.mem_cons_of_mem _ (List.mem_append_right _ h)) hown hK hP 0 rfl rfl 3 (by decide) w1 (fun _ h9 => h9) rfl dX6_child_139 ?_
        refine lv_iload_n hx hb dX6_child_142 rfl (lv_at hl 1 rfl) ?_
        refine lv_iconst (v := -1) hx hb dX6_child_143 (by decide) ?_
        have hP0 : va_P G.1 vwCl ((zb_r G (b 2) K) ++ (zb_6 G b (nI 0) sz ac sp ou)) H := zk_Pperm hP (show ((zb_6 G b (nI 0) sz ac sp ou) ++ zb_r G (b 2) K).Perm ((zb_r G (b 2) K) ++ (zb_6 G b (nI 0) sz ac sp ou)) from (show ((zb_6 G b (nI 0) sz ac sp ou) ++ zb_r G (b 2) K).Perm ((zb_r G (b 2) K) ++ zb_6 G b (nI 0) sz ac sp ou) from List.perm_append_comm).trans (List.Perm.of_eq (by simp only [List.append_assoc, List.append_nil, List.nil_append])))
        have hD0 : va_D A ((zb_r G (b 2) K) ++ (zb_6 G b (nI 0) sz ac sp ou)) := zk_Dperm hD (show ((zb_6 G b (nI 0) sz ac sp ou) ++ zb_r G (b 2) K).Perm ((zb_r G (b 2) K) ++ (zb_6 G b (nI 0) sz ac sp ou)) from (show ((zb_6 G b (nI 0) sz ac sp ou) ++ zb_r G (b 2) K).Perm ((zb_r G (b 2) K) ++ zb_6 G b (nI 0) sz ac sp ou) from List.perm_append_comm).trans (List.Perm.of_eq (by simp only [List.append_assoc, List.append_nil, List.nil_append])))
        refine zk_callI (wr := zb_6 G b (nI 0) sz ac sp ou) (va_runS (As := [.ref (b 2), .int (nI ck), .int (-1)]) (rest := []) ⟨hx, hb, hml, hown, hts⟩ (c_X6_served l G (b 2) K n t hI (nI ck) (-1) _) (cwS 3 hts gX6_child_X6_served rfl rfl rfl (by decide +kernel) ⟨Nat.le_of_ble_eq_true rfl, Nat.le_of_ble_eq_true rfl⟩) (zk_preS hE hA0 hS (zk_Papp hP0).1 (zk_Dapp hD0).1) rfl rfl hl.1 rfl (lv_room (Nat.le_of_ble_eq_true rfl)) dX6_child_144 ⟨Nat.le_of_ble_eq_true rfl, Nat.le_of_ble_eq_true rfl⟩) hP0 hD0 hS hA (fun r16 u17 H locs q18 hP hD hS => ?_)
        subst q18
        have hP : va_P G.1 vwCl ((zb_6 G b (nI 0) sz ac sp ou) ++ zb_r G (b 2) K) H := zk_Pperm hP (show ((zb_6 G b (nI 0) sz ac sp ou) ++ zb_r G (b 2) K).Perm ((zb_r G (b 2) K) ++ (zb_6 G b (nI 0) sz ac sp ou)) from (show ((zb_6 G b (nI 0) sz ac sp ou) ++ zb_r G (b 2) K).Perm ((zb_r G (b 2) K) ++ zb_6 G b (nI 0) sz ac sp ou) from List.perm_append_comm).trans (List.Perm.of_eq (by simp only [List.append_assoc, List.append_nil, List.nil_append]))).symm
        have hD : va_D A ((zb_6 G b (nI 0) sz ac sp ou) ++ zb_r G (b 2) K) := zk_Dperm hD (show ((zb_6 G b (nI 0) sz ac sp ou) ++ zb_r G (b 2) K).Perm ((zb_r G (b 2) K) ++ (zb_6 G b (nI 0) sz ac sp ou)) from (show ((zb_6 G b (nI 0) sz ac sp ou) ++ zb_r G (b 2) K).Perm ((zb_r G (b 2) K) ++ zb_6 G b (nI 0) sz ac sp ou) from List.perm_append_comm).trans (List.Perm.of_eq (by simp only [List.append_assoc, List.append_nil, List.nil_append]))).symm
        exact zk_reti (nI 0) hQ hx hb hr hlocks hS hP hD (Nat.le_of_ble_eq_true rfl) (Nat.le_of_ble_eq_true rfl) dX6_child_147 (Or.inl ⟨h9_3, zIn_of h25_7 (by decide), rfl, by rw [nck, mChild_5 h15_5]⟩)
      rcases Decidable.em (w = nI 6) with h15_6 | h15_n6
      · refine lv_tableIn (tgt := 148) hx hb dX6_child_42 (by rw [h15_6]; decide) (by rw [h15_6]; decide) (by rw [h15_6]; rfl) (by decide) ?_
        refine lv_aload_n hx hb dX6_child_148 rfl (lv_at hl 0 rfl) ?_
        refine lv_iload_n hx hb dX6_child_149 rfl (lv_at hl 1 rfl) ?_
        have hP0 : va_P G.1 vwCl ((zb_6 G b (nI 0) sz ac sp ou ++ zb_r G (b 2) K) ++ (([] : va_W))) H := zk_Pperm hP (show ((zb_6 G b (nI 0) sz ac sp ou) ++ zb_r G (b 2) K).Perm ((zb_6 G b (nI 0) sz ac sp ou ++ zb_r G (b 2) K) ++ (([] : va_W))) from (show ((zb_6 G b (nI 0) sz ac sp ou) ++ zb_r G (b 2) K).Perm ((zb_6 G b (nI 0) sz ac sp ou) ++ zb_r G (b 2) K) from (List.perm_append_comm).trans List.perm_append_comm).trans (List.Perm.of_eq (by simp only [List.append_assoc, List.append_nil, List.nil_append])))
        have hD0 : va_D A ((zb_6 G b (nI 0) sz ac sp ou ++ zb_r G (b 2) K) ++ (([] : va_W))) := zk_Dperm hD (show ((zb_6 G b (nI 0) sz ac sp ou) ++ zb_r G (b 2) K).Perm ((zb_6 G b (nI 0) sz ac sp ou ++ zb_r G (b 2) K) ++ (([] : va_W))) from (show ((zb_6 G b (nI 0) sz ac sp ou) ++ zb_r G (b 2) K).Perm ((zb_6 G b (nI 0) sz ac sp ou) ++ zb_r G (b 2) K) from (List.perm_append_comm).trans List.perm_append_comm).trans (List.Perm.of_eq (by simp only [List.append_assoc, List.append_nil, List.nil_append])))
        refine zk_callI (wr := ([] : va_W)) (va_runV (As := [.int (nI ck)]) (rest := []) ⟨hx, hb, hml, hown, hts⟩ (c_X6_bySiblings l G b (nI 0) sz ac sp ou K n t hI ck (by omega) _) (cwV 1 hts gX6_child_X6_bySiblings rfl rfl rfl (by decide +kernel) ⟨Nat.le_of_ble_eq_true rfl, Nat.le_of_ble_eq_true rfl⟩) (zk_preV hE hA0 hS (zk_Papp hP0).1 (zk_Dapp hD0).1 (va_recv hK hP0 (ci := 5) (q0 := 0) rfl rfl)) rfl rfl hl.1 rfl (lv_room (Nat.le_of_ble_eq_true rfl)) dX6_child_150 ⟨Nat.le_of_ble_eq_true rfl, Nat.le_of_ble_eq_true rfl⟩) hP0 hD0 hS hA (fun r19 u20 H locs q21 hP hD hS => ?_)
        subst q21
        have hP : va_P G.1 vwCl ((zb_6 G b (nI 0) sz ac sp ou) ++ zb_r G (b 2) K) H := zk_Pperm hP (show ((zb_6 G b (nI 0) sz ac sp ou) ++ zb_r G (b 2) K).Perm ((zb_6 G b (nI 0) sz ac sp ou ++ zb_r G (b 2) K) ++ (([] : va_W))) from (show ((zb_6 G b (nI 0) sz ac sp ou) ++ zb_r G (b 2) K).Perm ((zb_6 G b (nI 0) sz ac sp ou) ++ zb_r G (b 2) K) from (List.perm_append_comm).trans List.perm_append_comm).trans (List.Perm.of_eq (by simp only [List.append_assoc, List.append_nil, List.nil_append]))).symm
        have hD : va_D A ((zb_6 G b (nI 0) sz ac sp ou) ++ zb_r G (b 2) K) := zk_Dperm hD (show ((zb_6 G b (nI 0) sz ac sp ou) ++ zb_r G (b 2) K).Perm ((zb_6 G b (nI 0) sz ac sp ou ++ zb_r G (b 2) K) ++ (([] : va_W))) from (show ((zb_6 G b (nI 0) sz ac sp ou) ++ zb_r G (b 2) K).Perm ((zb_6 G b (nI 0) sz ac sp ou) ++ zb_r G (b 2) K) from (List.perm_append_comm).trans List.perm_append_comm).trans (List.Perm.of_eq (by simp only [List.append_assoc, List.append_nil, List.nil_append]))).symm
        exact zk_reti (nI 0) hQ hx hb hr hlocks hS hP hD (Nat.le_of_ble_eq_true rfl) (Nat.le_of_ble_eq_true rfl) dX6_child_153 (Or.inl ⟨h9_3, zIn_of h25_7 (by decide), rfl, by rw [nck, mChild_6 h15_6]⟩)
      rcases Decidable.em (w = nI 7) with h15_7 | h15_n7
      · refine lv_tableIn (tgt := 154) hx hb dX6_child_42 (by rw [h15_7]; decide) (by rw [h15_7]; decide) (by rw [h15_7]; rfl) (by decide) ?_
        refine lv_aload_n hx hb dX6_child_154 rfl (lv_at hl 0 rfl) ?_
        refine va_get (D := G.1) (ci := 5) (v := .ref (b 2)) (C := RX6) (T := TX6) (N := 11) hx hb hts (fun _ h => List.mem_cons_of_mem _ (List.mem_append_right _ h)) hown hK hP 0 rfl rfl 3 (by decide) w1 (fun _ h9 => h9) rfl dX6_child_155 ?_
        refine lv_iconst (v := -1) hx hb dX6_child_158 (by decide) ?_
        refine lv_iload_n hx hb dX6_child_159 rfl (lv_at hl 1 rfl) ?_
        have hP0 : va_P G.1 vwCl ((zb_r G (b 2) K) ++ (zb_6 G b (nI 0) sz ac sp ou)) H := zk_Pperm hP (show ((zb_6 G b (nI 0) sz ac sp ou) ++ zb_r G (b 2) K).Perm ((zb_r G (b 2) K) ++ (zb_6 G b (nI 0) sz ac sp ou)) from (show ((zb_6 G b (nI 0) sz ac sp ou) ++ zb_r G (b 2) K).Perm ((zb_r G (b 2) K) ++ zb_6 G b (nI 0) sz ac sp ou) from List.perm_append_comm).trans (List.Perm.of_eq (by simp only [List.append_assoc, List.append_nil, List.nil_append])))
        have hD0 : va_D A ((zb_r G (b 2) K) ++ (zb_6 G b (nI 0) sz ac sp ou)) := zk_Dperm hD (show ((zb_6 G b (nI 0) sz ac sp ou) ++ zb_r G (b 2) K).Perm ((zb_r G (b 2) K) ++ (zb_6 G b (nI 0) sz ac sp ou)) from (show ((zb_6 G b (nI 0) sz ac sp ou) ++ zb_r G (b 2) K).Perm ((zb_r G (b 2) K) ++ zb_6 G b (nI 0) sz ac sp ou) from List.perm_append_comm).trans (List.Perm.of_eq (by simp only [List.append_assoc, List.append_nil, List.nil_append])))
        refine zk_callI (wr := zb_6 G b (nI 0) sz ac sp ou) (va_runS (As := [.ref (b 2), .int (-1), .int (nI ck)]) (rest := []) ⟨hx, hb, hml, hown, hts⟩ (c_X6_charged l G (b 2) K n t hI (-1) (nI ck) _) (cwS 3 hts gX6_child_X6_charged rfl rfl rfl (by decide +kernel) ⟨Nat.le_of_ble_eq_true rfl, Nat.le_of_ble_eq_true rfl⟩) (zk_preS hE hA0 hS (zk_Papp hP0).1 (zk_Dapp hD0).1) rfl rfl hl.1 rfl (lv_room (Nat.le_of_ble_eq_true rfl)) dX6_child_160 ⟨Nat.le_of_ble_eq_true rfl, Nat.le_of_ble_eq_true rfl⟩) hP0 hD0 hS hA (fun r22 u23 H locs q24 hP hD hS => ?_)
        subst q24
        have hP : va_P G.1 vwCl ((zb_6 G b (nI 0) sz ac sp ou) ++ zb_r G (b 2) K) H := zk_Pperm hP (show ((zb_6 G b (nI 0) sz ac sp ou) ++ zb_r G (b 2) K).Perm ((zb_r G (b 2) K) ++ (zb_6 G b (nI 0) sz ac sp ou)) from (show ((zb_6 G b (nI 0) sz ac sp ou) ++ zb_r G (b 2) K).Perm ((zb_r G (b 2) K) ++ zb_6 G b (nI 0) sz ac sp ou) from List.perm_append_comm).trans (List.Perm.of_eq (by simp only [List.append_assoc, List.append_nil, List.nil_append]))).symm
        have hD : va_D A ((zb_6 G b (nI 0) sz ac sp ou) ++ zb_r G (b 2) K) := zk_Dperm hD (show ((zb_6 G b (nI 0) sz ac sp ou) ++ zb_r G (b 2) K).Perm ((zb_r G (b 2) K) ++ (zb_6 G b (nI 0) sz ac sp ou)) from (show ((zb_6 G b (nI 0) sz ac sp ou) ++ zb_r G (b 2) K).Perm ((zb_r G (b 2) K) ++ zb_6 G b (nI 0) sz ac sp ou) from List.perm_append_comm).trans (List.Perm.of_eq (by simp only [List.append_assoc, List.append_nil, List.nil_append]))).symm
        exact zk_reti (nI 0) hQ hx hb hr hlocks hS hP hD (Nat.le_of_ble_eq_true rfl) (Nat.le_of_ble_eq_true rfl) dX6_child_163 (Or.inl ⟨h9_3, zIn_of h25_7 (by decide), rfl, by rw [nck, mChild_7 h15_7]⟩)
      refine lv_tableOut (tgt := 164) hx hb dX6_child_42 (zk_out (0) 8 (fun k hk z => by
        rcases (show k = 0 ∨ k = 1 ∨ k = 2 ∨ k = 3 ∨ k = 4 ∨ k = 5 ∨ k = 6 ∨ k = 7 by omega) with rfl | rfl | rfl | rfl | rfl | rfl | rfl | rfl
        · exact h15_n0 (zk_toI z (by decide))
        · exact h15_n1 (zk_toI z (by decide))
        · exact h15_n2 (zk_toI z (by decide))
        · exact h15_n3 (zk_toI z (by decide))
        · exact h15_n4 (zk_toI z (by decide))
        · exact h15_n5 (zk_toI z (by decide))
        · exact h15_n6 (zk_toI z (by decide))
        · exact h15_n7 (zk_toI z (by decide)))) (by decide) ?_
      have hw8 : w = nI 8 := by
        obtain ⟨j, hj, ej⟩ := zIn_of h25_7 (by decide)
        rcases (show j = 0 ∨ j = 1 ∨ j = 2 ∨ j = 3 ∨ j = 4 ∨ j = 5 ∨ j = 6 ∨ j = 7 ∨ j = 8 by omega) with rfl | rfl | rfl | rfl | rfl | rfl | rfl | rfl | rfl
        · exact absurd ej h15_n0
        · exact absurd ej h15_n1
        · exact absurd ej h15_n2
        · exact absurd ej h15_n3
        · exact absurd ej h15_n4
        · exact absurd ej h15_n5
        · exact absurd ej h15_n6
        · exact absurd ej h15_n7
        · exact ej
      refine lv_aload_n hx hb dX6_child_164 rfl (lv_at hl 0 rfl) ?_
      refine va_get (D := G.1) (ci := 5) (v := .ref (b 2)) (C := RX6) (T := TX6) (N := 11) hx hb hts (fun _ h => List.mem_cons_of_mem _ (List.mem_append_right _ h)) hown hK hP 0 rfl rfl 3 (by decide) w1 (fun _ h9 => h9) rfl dX6_child_165 ?_
      refine lv_iload_n hx hb dX6_child_168 rfl (lv_at hl 1 rfl) ?_
      refine lv_iconst (v := -1) hx hb dX6_child_169 (by decide) ?_
      refine lv_iconst (v := nI 4) hx hb dX6_child_170 (by decide) ?_
      have hP0 : va_P G.1 vwCl ((zb_r G (b 2) K) ++ (zb_6 G b (nI 0) sz ac sp ou)) H := zk_Pperm hP (show ((zb_6 G b (nI 0) sz ac sp ou) ++ zb_r G (b 2) K).Perm ((zb_r G (b 2) K) ++ (zb_6 G b (nI 0) sz ac sp ou)) from (show ((zb_6 G b (nI 0) sz ac sp ou) ++ zb_r G (b 2) K).Perm ((zb_r G (b 2) K) ++ zb_6 G b (nI 0) sz ac sp ou) from List.perm_append_comm).trans (List.Perm.of_eq (by simp only [List.append_assoc, List.append_nil, List.nil_append])))
      have hD0 : va_D A ((zb_r G (b 2) K) ++ (zb_6 G b (nI 0) sz ac sp ou)) := zk_Dperm hD (show ((zb_6 G b (nI 0) sz ac sp ou) ++ zb_r G (b 2) K).Perm ((zb_r G (b 2) K) ++ (zb_6 G b (nI 0) sz ac sp ou)) from (show ((zb_6 G b (nI 0) sz ac sp ou) ++ zb_r G (b 2) K).Perm ((zb_r G (b 2) K) ++ zb_6 G b (nI 0) sz ac sp ou) from List.perm_append_comm).trans (List.Perm.of_eq (by simp only [List.append_assoc, List.append_nil, List.nil_append])))
      refine zk_callI (wr := zb_6 G b (nI 0) sz ac sp ou) (va_runS (As := [.ref (b 2), .int (nI ck), .int (-1), .int (nI 4)]) (rest := []) ⟨hx, hb, hml, hown, hts⟩ (c_X6_count l G (b 2) K n t hI (nI ck) (-1) (nI 4) _) (cwS 4 hts gX6_child_X6_count rfl rfl rfl (by decide +kernel) ⟨Nat.le_of_ble_eq_true rfl, Nat.le_of_ble_eq_true rfl⟩) (zk_preS hE hA0 hS (zk_Papp hP0).1 (zk_Dapp hD0).1) rfl rfl hl.1 rfl (lv_room (Nat.le_of_ble_eq_true rfl)) dX6_child_171 ⟨Nat.le_of_ble_eq_true rfl, Nat.le_of_ble_eq_true rfl⟩) hP0 hD0 hS hA (fun r25 u26 H locs q27 hP hD hS => ?_)
      subst q27
      have hP : va_P G.1 vwCl ((zb_6 G b (nI 0) sz ac sp ou) ++ zb_r G (b 2) K) H := zk_Pperm hP (show ((zb_6 G b (nI 0) sz ac sp ou) ++ zb_r G (b 2) K).Perm ((zb_r G (b 2) K) ++ (zb_6 G b (nI 0) sz ac sp ou)) from (show ((zb_6 G b (nI 0) sz ac sp ou) ++ zb_r G (b 2) K).Perm ((zb_r G (b 2) K) ++ zb_6 G b (nI 0) sz ac sp ou) from List.perm_append_comm).trans (List.Perm.of_eq (by simp only [List.append_assoc, List.append_nil, List.nil_append]))).symm
      have hD : va_D A ((zb_6 G b (nI 0) sz ac sp ou) ++ zb_r G (b 2) K) := zk_Dperm hD (show ((zb_6 G b (nI 0) sz ac sp ou) ++ zb_r G (b 2) K).Perm ((zb_r G (b 2) K) ++ (zb_6 G b (nI 0) sz ac sp ou)) from (show ((zb_6 G b (nI 0) sz ac sp ou) ++ zb_r G (b 2) K).Perm ((zb_r G (b 2) K) ++ zb_6 G b (nI 0) sz ac sp ou) from List.perm_append_comm).trans (List.Perm.of_eq (by simp only [List.append_assoc, List.append_nil, List.nil_append]))).symm
      exact zk_reti (nI 0) hQ hx hb hr hlocks hS hP hD (Nat.le_of_ble_eq_true rfl) (Nat.le_of_ble_eq_true rfl) dX6_child_174 (Or.inl ⟨h9_3, zIn_of h25_7 (by decide), rfl, by rw [nck, mChild_8 hw8]⟩)
  · have h9_3 := zk_b0 h9_3
    refine lv_iconst (v := nI 1) hx hb dX6_child_12 (by decide) ?_
    refine lv_goto (tgt := 33) hx hb dX6_child_13 (by decide) ?_
    have hP0 : va_P G.1 vwCl ((zb_6 G b rf sz ac sp ou) ++ (zb_r G (b 2) K)) H := zk_Pperm hP (show ((zb_6 G b rf sz ac sp ou) ++ zb_r G (b 2) K).Perm ((zb_6 G b rf sz ac sp ou) ++ (zb_r G (b 2) K)) from (show ((zb_6 G b rf sz ac sp ou) ++ zb_r G (b 2) K).Perm ((zb_6 G b rf sz ac sp ou) ++ zb_r G (b 2) K) from List.Perm.refl _).trans (List.Perm.of_eq (by simp only [List.append_assoc, List.append_nil, List.nil_append])))
    have hD0 : va_D A ((zb_6 G b rf sz ac sp ou) ++ (zb_r G (b 2) K)) := zk_Dperm hD (show ((zb_6 G b rf sz ac sp ou) ++ zb_r G (b 2) K).Perm ((zb_6 G b rf sz ac sp ou) ++ (zb_r G (b 2) K)) from (show ((zb_6 G b rf sz ac sp ou) ++ zb_r G (b 2) K).Perm ((zb_6 G b rf sz ac sp ou) ++ zb_r G (b 2) K) from List.Perm.refl _).trans (List.Perm.of_eq (by simp only [List.append_assoc, List.append_nil, List.nil_append])))
    refine zk_callI (wr := zb_r G (b 2) K) (va_runV (As := [.int (nI 1)]) (rest := []) ⟨hx, hb, hml, hown, hts⟩ (c_X6_refused l G b rf sz ac sp ou (nI 1) _) (cwV 1 hts gX6_child_X6_refused rfl rfl rfl (by decide +kernel) ⟨Nat.le_of_ble_eq_true rfl, Nat.le_of_ble_eq_true rfl⟩) (zk_preV hE hA0 hS (zk_Papp hP0).1 (zk_Dapp hD0).1 (va_recv hK hP0 (ci := 5) (q0 := 0) rfl rfl)) rfl rfl hl.1 rfl (lv_room (Nat.le_of_ble_eq_true rfl)) dX6_child_33 ⟨Nat.le_of_ble_eq_true rfl, Nat.le_of_ble_eq_true rfl⟩) hP0 hD0 hS hA (fun r28 u29 H locs q30 hP hD hS => ?_)
    subst q30
    have hP : va_P G.1 vwCl ((zb_6 G b (nI 1) sz ac sp ou) ++ zb_r G (b 2) K) H := zk_Pperm hP (show ((zb_6 G b (nI 1) sz ac sp ou) ++ zb_r G (b 2) K).Perm ((zb_6 G b (nI 1) sz ac sp ou) ++ (zb_r G (b 2) K)) from (show ((zb_6 G b (nI 1) sz ac sp ou) ++ zb_r G (b 2) K).Perm ((zb_6 G b (nI 1) sz ac sp ou) ++ zb_r G (b 2) K) from List.Perm.refl _).trans (List.Perm.of_eq (by simp only [List.append_assoc, List.append_nil, List.nil_append]))).symm
    have hD : va_D A ((zb_6 G b (nI 1) sz ac sp ou) ++ zb_r G (b 2) K) := zk_Dperm hD (show ((zb_6 G b (nI 1) sz ac sp ou) ++ zb_r G (b 2) K).Perm ((zb_6 G b (nI 1) sz ac sp ou) ++ (zb_r G (b 2) K)) from (show ((zb_6 G b (nI 1) sz ac sp ou) ++ zb_r G (b 2) K).Perm ((zb_6 G b (nI 1) sz ac sp ou) ++ zb_r G (b 2) K) from List.Perm.refl _).trans (List.Perm.of_eq (by simp only [List.append_assoc, List.append_nil, List.nil_append]))).symm
    refine zk_top (show (if 0 < (nI 1) then nI 1 else nI 0) = nI 1 by decide) ?_
    refine lv_if_eq (tgt := 41) hx hb dX6_child_36 (by decide) (fun z => absurd z (by decide)) (fun _ => ?_)
    refine lv_iconst (v := nI 0) hx hb dX6_child_39 (by decide) ?_
    exact zk_reti (nI 1) hQ hx hb hr hlocks hS hP hD (Nat.le_of_ble_eq_true rfl) (Nat.le_of_ble_eq_true rfl) dX6_child_40 (Or.inr (Or.inl ⟨h9_3, rfl⟩))

def mFamily (K : zL) (n t : Nat) (fk : Nat) (w : Int32) : Int32 :=
  if w = nI 0 then zs (fun i => if K 1 i = nI fk then nI 1 else nI 0) n else if w = nI 1 then K 7 fk else if w = nI 2 then zs (fun i => if K 1 i = nI fk then K 3 i else nI 0) n else if w = nI 3 then sDebt K n (nI fk) else if w = nI 4 then K 8 fk else -1
theorem mFamily_0 {K : zL} {n t : Nat} {fk : Nat} {w : Int32} (h : w = nI 0) : mFamily K n t fk w = zs (fun i => if K 1 i = nI fk then nI 1 else nI 0) n := by subst h; rfl
theorem mFamily_1 {K : zL} {n t : Nat} {fk : Nat} {w : Int32} (h : w = nI 1) : mFamily K n t fk w = K 7 fk := by subst h; rfl
theorem mFamily_2 {K : zL} {n t : Nat} {fk : Nat} {w : Int32} (h : w = nI 2) : mFamily K n t fk w = zs (fun i => if K 1 i = nI fk then K 3 i else nI 0) n := by subst h; rfl
theorem mFamily_3 {K : zL} {n t : Nat} {fk : Nat} {w : Int32} (h : w = nI 3) : mFamily K n t fk w = sDebt K n (nI fk) := by subst h; rfl
theorem mFamily_4 {K : zL} {n t : Nat} {fk : Nat} {w : Int32} (h : w = nI 4) : mFamily K n t fk w = K 8 fk := by subst h; rfl
abbrev rmX6_family : Room := { frames := 2, cells := 0, slots := 0, locals := 45 }
set_option maxHeartbeats 4000000 in
set_option maxRecDepth 100000 in
/-- a family -/
theorem c_X6_family (l : Launch) (G : zk_G) (b : Nat → Nat) (rf sz ac sp ou : Int32) (K : zL) (n t : Nat) (hI : sInv K n t) (f w : Int32) : zk_I (S := Int32) l yX6_family wsX6_family rmX6_family G [.ref (b 0), .int f, .int w] ((zb_6 G b rf sz ac sp ou) ++ zb_r G (b 2) K) (fun r u => (sFam f ∧ zIn w 5 ∧ u = nI 0 ∧ r = mFamily K n t f.toNatClampNeg w) ∨ (¬ sFam f ∧ u = nI 1) ∨ (sFam f ∧ ¬ zIn w 5 ∧ u = nI 2)) (fun u => zb_6 G b u sz ac sp ou ++ zb_r G (b 2) K) := by
  refine zk_bodyI (cc := cX6_family) (maxL := 6) (ret := (some .int)) (by decide) rfl (Nat.le_of_ble_eq_true rfl) ?_
  intro p E0 s m args below meth cd A ls Q hF hQ
  obtain ⟨hx, hb, hml, hr, hts, hown, hlocks, -, hE, hP, hD, hS, hA, hA0, hl⟩ := hF
  have hK := hE.1
  have hl : lv_has ls 6 [(0, .ref (b 0)), (1, .int f), (2, .int w)] := hl
  obtain ⟨hn, hn12, ht, ht40, hfam, hpay⟩ := id hI
  have w1 := hts _ (List.mem_of_getElem? (l := wsX6_family) (i := 1) (a := Cond.constantLong RX6 41 (4)) rfl)
  have w2 := hts _ (List.mem_of_getElem? (l := wsX6_family) (i := 2) (a := Cond.fieldLink RX6 13 "MealAccountsModel" "now" "[I") rfl)
  refine lv_aload_n hx hb dX6_family_0 rfl (lv_at hl 0 rfl) ?_
  refine lv_iload_n hx hb dX6_family_1 rfl (lv_at hl 1 rfl) ?_
  have hP0 : va_P G.1 vwCl (([] : va_W) ++ ((zb_6 G b rf sz ac sp ou) ++ zb_r G (b 2) K)) s.heap := hP
  have hD0 : va_D A (([] : va_W) ++ ((zb_6 G b rf sz ac sp ou) ++ zb_r G (b 2) K)) := hD
  refine zk_callI (wr := (zb_6 G b rf sz ac sp ou) ++ zb_r G (b 2) K) (va_runS (As := [.int f]) (rest := [.ref (b 0)]) ⟨hx, hb, hml, hown, hts⟩ (c_X6_isFamily l G f _) (cwS 1 hts gX6_family_X6_isFamily rfl rfl rfl (by decide +kernel) ⟨Nat.le_of_ble_eq_true rfl, Nat.le_of_ble_eq_true rfl⟩) (zk_preS hE hA0 hS (zk_Papp hP0).1 (zk_Dapp hD0).1) rfl rfl hl.1 rfl (lv_room (Nat.le_of_ble_eq_true rfl)) dX6_family_2 ⟨Nat.le_of_ble_eq_true rfl, Nat.le_of_ble_eq_true rfl⟩) hP0 hD0 hS hA (fun r1 u2 H locs q3 hP hD hS => ?_)
  subst q3
  have hP : va_P G.1 vwCl ((zb_6 G b rf sz ac sp ou) ++ zb_r G (b 2) K) H := hP
  have hD : va_D A ((zb_6 G b rf sz ac sp ou) ++ zb_r G (b 2) K) := hD
  refine lv_if_ne (tgt := 12) hx hb dX6_family_5 (by decide) (fun h5_3 => ?_) (fun h5_3 => ?_)
  · have h5_3 := zk_b1 h5_3
    refine lv_iload_n hx hb dX6_family_12 rfl (lv_at hl 2 rfl) ?_
    refine lv_i2l (v := w.toInt64) hx hb dX6_family_13 rfl ?_
    refine lv_lconst (v := lN 0) hx hb dX6_family_14 rfl ?_
    refine zk_topL (show lN 0 = (nI 0).toInt64 from (nI_l (by decide)).symm) ?_
    refine lv_ldc2 hx hb (v := lN 4) hown w1 dX6_family_15 ?_
    refine zk_topL (show lN 4 = (nI 4).toInt64 from (nI_l (by decide)).symm) ?_
    have hP0 : va_P G.1 vwCl (([] : va_W) ++ ((zb_6 G b rf sz ac sp ou) ++ zb_r G (b 2) K)) H := hP
    have hD0 : va_D A (([] : va_W) ++ ((zb_6 G b rf sz ac sp ou) ++ zb_r G (b 2) K)) := hD
    refine zk_callI (wr := (zb_6 G b rf sz ac sp ou) ++ zb_r G (b 2) K) (va_runS (As := [.long w.toInt64, .long ((nI 0).toInt64), .long ((nI 4).toInt64)]) (rest := [.ref (b 0)]) ⟨hx, hb, hml, hown, hts⟩ (c_X6_inI l G w (nI 0) (nI 4) _) (cwS 3 hts gX6_family_X6_in rfl rfl rfl (by decide +kernel) ⟨Nat.le_of_ble_eq_true rfl, Nat.le_of_ble_eq_true rfl⟩) (zk_preS hE hA0 hS (zk_Papp hP0).1 (zk_Dapp hD0).1) rfl rfl hl.1 rfl (lv_room (Nat.le_of_ble_eq_true rfl)) dX6_family_18 ⟨Nat.le_of_ble_eq_true rfl, Nat.le_of_ble_eq_true rfl⟩) hP0 hD0 hS hA (fun r5 u6 H locs q7 hP hD hS => ?_)
    subst q7
    have hP : va_P G.1 vwCl ((zb_6 G b rf sz ac sp ou) ++ zb_r G (b 2) K) H := hP
    have hD : va_D A ((zb_6 G b rf sz ac sp ou) ++ zb_r G (b 2) K) := hD
    refine lv_if_eq (tgt := 28) hx hb dX6_family_21 (by decide) (fun h21_7 => ?_) (fun h21_7 => ?_)
    · have h21_7 := zk_b0 h21_7
      refine lv_iconst (v := nI 2) hx hb dX6_family_28 (by decide) ?_
      have hP0 : va_P G.1 vwCl ((zb_6 G b rf sz ac sp ou) ++ (zb_r G (b 2) K)) H := zk_Pperm hP (show ((zb_6 G b rf sz ac sp ou) ++ zb_r G (b 2) K).Perm ((zb_6 G b rf sz ac sp ou) ++ (zb_r G (b 2) K)) from (show ((zb_6 G b rf sz ac sp ou) ++ zb_r G (b 2) K).Perm ((zb_6 G b rf sz ac sp ou) ++ zb_r G (b 2) K) from List.Perm.refl _).trans (List.Perm.of_eq (by simp only [List.append_assoc, List.append_nil, List.nil_append])))
      have hD0 : va_D A ((zb_6 G b rf sz ac sp ou) ++ (zb_r G (b 2) K)) := zk_Dperm hD (show ((zb_6 G b rf sz ac sp ou) ++ zb_r G (b 2) K).Perm ((zb_6 G b rf sz ac sp ou) ++ (zb_r G (b 2) K)) from (show ((zb_6 G b rf sz ac sp ou) ++ zb_r G (b 2) K).Perm ((zb_6 G b rf sz ac sp ou) ++ zb_r G (b 2) K) from List.Perm.refl _).trans (List.Perm.of_eq (by simp only [List.append_assoc, List.append_nil, List.nil_append])))
      refine zk_callI (wr := zb_r G (b 2) K) (va_runV (As := [.int (nI 2)]) (rest := []) ⟨hx, hb, hml, hown, hts⟩ (c_X6_refused l G b rf sz ac sp ou (nI 2) _) (cwV 1 hts gX6_family_X6_refused rfl rfl rfl (by decide +kernel) ⟨Nat.le_of_ble_eq_true rfl, Nat.le_of_ble_eq_true rfl⟩) (zk_preV hE hA0 hS (zk_Papp hP0).1 (zk_Dapp hD0).1 (va_recv hK hP0 (ci := 5) (q0 := 0) rfl rfl)) rfl rfl hl.1 rfl (lv_room (Nat.le_of_ble_eq_true rfl)) dX6_family_29 ⟨Nat.le_of_ble_eq_true rfl, Nat.le_of_ble_eq_true rfl⟩) hP0 hD0 hS hA (fun r9 u10 H locs q11 hP hD hS => ?_)
      subst q11
      have hP : va_P G.1 vwCl ((zb_6 G b (nI 2) sz ac sp ou) ++ zb_r G (b 2) K) H := zk_Pperm hP (show ((zb_6 G b (nI 2) sz ac sp ou) ++ zb_r G (b 2) K).Perm ((zb_6 G b (nI 2) sz ac sp ou) ++ (zb_r G (b 2) K)) from (show ((zb_6 G b (nI 2) sz ac sp ou) ++ zb_r G (b 2) K).Perm ((zb_6 G b (nI 2) sz ac sp ou) ++ zb_r G (b 2) K) from List.Perm.refl _).trans (List.Perm.of_eq (by simp only [List.append_assoc, List.append_nil, List.nil_append]))).symm
      have hD : va_D A ((zb_6 G b (nI 2) sz ac sp ou) ++ zb_r G (b 2) K) := zk_Dperm hD (show ((zb_6 G b (nI 2) sz ac sp ou) ++ zb_r G (b 2) K).Perm ((zb_6 G b (nI 2) sz ac sp ou) ++ (zb_r G (b 2) K)) from (show ((zb_6 G b (nI 2) sz ac sp ou) ++ zb_r G (b 2) K).Perm ((zb_6 G b (nI 2) sz ac sp ou) ++ zb_r G (b 2) K) from List.Perm.refl _).trans (List.Perm.of_eq (by simp only [List.append_assoc, List.append_nil, List.nil_append]))).symm
      refine zk_top (show (if 0 < (nI 2) then nI 1 else nI 0) = nI 1 by decide) ?_
      refine lv_if_eq (tgt := 37) hx hb dX6_family_32 (by decide) (fun z => absurd z (by decide)) (fun _ => ?_)
      refine lv_iconst (v := nI 0) hx hb dX6_family_35 (by decide) ?_
      exact zk_reti (nI 2) hQ hx hb hr hlocks hS hP hD (Nat.le_of_ble_eq_true rfl) (Nat.le_of_ble_eq_true rfl) dX6_family_36 (Or.inr (Or.inr (⟨h5_3, zIn_no h21_7 (by decide), rfl⟩)))
    · have h21_7 := zk_b1 h21_7
      refine lv_iconst (v := nI 0) hx hb dX6_family_24 (by decide) ?_
      refine lv_goto (tgt := 29) hx hb dX6_family_25 (by decide) ?_
      have hP0 : va_P G.1 vwCl ((zb_6 G b rf sz ac sp ou) ++ (zb_r G (b 2) K)) H := zk_Pperm hP (show ((zb_6 G b rf sz ac sp ou) ++ zb_r G (b 2) K).Perm ((zb_6 G b rf sz ac sp ou) ++ (zb_r G (b 2) K)) from (show ((zb_6 G b rf sz ac sp ou) ++ zb_r G (b 2) K).Perm ((zb_6 G b rf sz ac sp ou) ++ zb_r G (b 2) K) from List.Perm.refl _).trans (List.Perm.of_eq (by simp only [List.append_assoc, List.append_nil, List.nil_append])))
      have hD0 : va_D A ((zb_6 G b rf sz ac sp ou) ++ (zb_r G (b 2) K)) := zk_Dperm hD (show ((zb_6 G b rf sz ac sp ou) ++ zb_r G (b 2) K).Perm ((zb_6 G b rf sz ac sp ou) ++ (zb_r G (b 2) K)) from (show ((zb_6 G b rf sz ac sp ou) ++ zb_r G (b 2) K).Perm ((zb_6 G b rf sz ac sp ou) ++ zb_r G (b 2) K) from List.Perm.refl _).trans (List.Perm.of_eq (by simp only [List.append_assoc, List.append_nil, List.nil_append])))
      refine zk_callI (wr := zb_r G (b 2) K) (va_runV (As := [.int (nI 0)]) (rest := []) ⟨hx, hb, hml, hown, hts⟩ (c_X6_refused l G b rf sz ac sp ou (nI 0) _) (cwV 1 hts gX6_family_X6_refused rfl rfl rfl (by decide +kernel) ⟨Nat.le_of_ble_eq_true rfl, Nat.le_of_ble_eq_true rfl⟩) (zk_preV hE hA0 hS (zk_Papp hP0).1 (zk_Dapp hD0).1 (va_recv hK hP0 (ci := 5) (q0 := 0) rfl rfl)) rfl rfl hl.1 rfl (lv_room (Nat.le_of_ble_eq_true rfl)) dX6_family_29 ⟨Nat.le_of_ble_eq_true rfl, Nat.le_of_ble_eq_true rfl⟩) hP0 hD0 hS hA (fun r12 u13 H locs q14 hP hD hS => ?_)
      subst q14
      have hP : va_P G.1 vwCl ((zb_6 G b (nI 0) sz ac sp ou) ++ zb_r G (b 2) K) H := zk_Pperm hP (show ((zb_6 G b (nI 0) sz ac sp ou) ++ zb_r G (b 2) K).Perm ((zb_6 G b (nI 0) sz ac sp ou) ++ (zb_r G (b 2) K)) from (show ((zb_6 G b (nI 0) sz ac sp ou) ++ zb_r G (b 2) K).Perm ((zb_6 G b (nI 0) sz ac sp ou) ++ zb_r G (b 2) K) from List.Perm.refl _).trans (List.Perm.of_eq (by simp only [List.append_assoc, List.append_nil, List.nil_append]))).symm
      have hD : va_D A ((zb_6 G b (nI 0) sz ac sp ou) ++ zb_r G (b 2) K) := zk_Dperm hD (show ((zb_6 G b (nI 0) sz ac sp ou) ++ zb_r G (b 2) K).Perm ((zb_6 G b (nI 0) sz ac sp ou) ++ (zb_r G (b 2) K)) from (show ((zb_6 G b (nI 0) sz ac sp ou) ++ zb_r G (b 2) K).Perm ((zb_6 G b (nI 0) sz ac sp ou) ++ zb_r G (b 2) K) from List.Perm.refl _).trans (List.Perm.of_eq (by simp only [List.append_assoc, List.append_nil, List.nil_append]))).symm
      refine zk_top (show (if 0 < (nI 0) then nI 1 else nI 0) = nI 0 by decide) ?_
      refine lv_if_eq (tgt := 37) hx hb dX6_family_32 (by decide) (fun _ => ?_) (fun z => absurd (by decide) z)
      obtain ⟨fk, hfk, efk⟩ := sFam_nat h5_3
      subst efk
      have nfk := nI_clamp (show fk < 2 ^ 31 by omega)
      refine lv_iconst (v := nI 0) hx hb dX6_family_37 (by decide) ?_
      refine lv_istore_n (lv' := [(3, .int (nI 0)), (0, .ref (b 0)), (1, .int (nI fk)), (2, .int w)]) hx hb dX6_family_38 rfl hl (by decide) rfl (fun ls hl => ?_)
      refine lv_iconst (v := nI 0) hx hb dX6_family_39 (by decide) ?_
      refine lv_istore (lv' := [(4, .int (nI 0)), (3, .int (nI 0)), (0, .ref (b 0)), (1, .int (nI fk)), (2, .int w)]) hx hb dX6_family_40 hl (by decide) rfl (fun ls hl => ?_)
      refine lv_iconst (v := nI 0) hx hb dX6_family_42 (by decide) ?_
      refine lv_istore (lv' := [(5, .int (nI 0)), (4, .int (nI 0)), (3, .int (nI 0)), (0, .ref (b 0)), (1, .int (nI fk)), (2, .int w)]) hx hb dX6_family_43 hl (by decide) rfl (fun ls hl => ?_)
      have lp15 : ∀ (n17 : Nat) (i : Nat) (x : Int32) (y : Int32), n - i < n17 → (i ≤ n) → (x = zs (fun i => if K 1 i = nI fk then nI 1 else nI 0) i) → (y = zs (fun i => if K 1 i = nI fk then K 3 i else nI 0) i) → ∀ (ls : Array Slot), lv_has ls 6 [(5, .int (nI i)), (4, .int y), (3, .int x), (0, .ref (b 0)), (1, .int (nI fk)), (2, .int w)] → W p l E0 rmX6_family s m args below meth cd H locs 0 0 Q (F0 m 45 ls []) := by
        intro n17
        induction n17 with
        | zero => intro i x y hz; exact absurd hz (Nat.not_lt_zero _)
        | succ n17 ih16 =>
          intro i x y hm hi hq hq2 ls hl
          refine lv_iload hx hb dX6_family_45 (lv_at hl 0 rfl) ?_
          refine lv_aload_n hx hb dX6_family_47 rfl (lv_at hl 3 rfl) ?_
          refine va_get (D := G.1) (ci := 5) (v := .ref (b 2)) (C := RX6) (T := TX6) (N := 11) hx hb hts (fun _ h => List.mem_cons_of_mem _ (List.mem_append_right _ h)) hown hK hP 0 rfl rfl 3 (by decide) w2 (fun _ h9 => h9) rfl dX6_family_48 ?_
          refine lv_iconst (v := nI 1) hx hb dX6_family_51 (by decide) ?_
          refine zk_ialdN hx hb hK hP 1 0 rfl rfl (k := 1) (n := 1555) (by omega) (by omega) dX6_family_52 ?_
          refine zk_top (zrow_l K (c := 1) (by omega)) ?_
          refine zk_top hI.1 ?_
          refine lv_icmp_ge (tgt := 117) hx hb dX6_family_53 (by decide) (fun h53_17 => ?_) (fun h53_17 => ?_)
          · have h53_17 := zk_le (by omega) (by omega) h53_17
            have ein : i = n := by omega
            rw [ein] at hq hq2
            have hl : lv_has ls 6 [(5, .int (nI i)), (4, .int (zs (fun i => if K 1 i = nI fk then K 3 i else nI 0) n)), (3, .int (zs (fun i => if K 1 i = nI fk then nI 1 else nI 0) n)), (0, .ref (b 0)), (1, .int (nI fk)), (2, .int w)] := by rw [hq, hq2] at hl; exact hl
            refine lv_iload_n hx hb dX6_family_117 rfl (lv_at hl 5 rfl) ?_
            refine lv_if_ne (tgt := 125) hx hb dX6_family_118 (by decide) (fun h118_18 => ?_) (fun h118_18 => ?_)
            · refine lv_iload_n hx hb dX6_family_125 rfl (lv_at hl 5 rfl) ?_
              refine lv_iconst (v := nI 1) hx hb dX6_family_126 (by decide) ?_
              refine lv_icmp_ne (tgt := 142) hx hb dX6_family_127 (by decide) (fun h127_19 => ?_) (fun h127_19 => ?_)
              · refine lv_iload_n hx hb dX6_family_142 rfl (lv_at hl 5 rfl) ?_
                refine lv_iconst (v := nI 2) hx hb dX6_family_143 (by decide) ?_
                refine lv_icmp_ne (tgt := 152) hx hb dX6_family_144 (by decide) (fun h144_20 => ?_) (fun h144_20 => ?_)
                · refine lv_iload_n hx hb dX6_family_152 rfl (lv_at hl 5 rfl) ?_
                  refine lv_iconst (v := nI 3) hx hb dX6_family_153 (by decide) ?_
                  refine lv_icmp_ne (tgt := 168) hx hb dX6_family_154 (by decide) (fun h154_21 => ?_) (fun h154_21 => ?_)
                  · have hw4 : w = nI 4 := by
                      obtain ⟨j, hj, ej⟩ := zIn_of h21_7 (by decide)
                      rcases (show j = 0 ∨ j = 1 ∨ j = 2 ∨ j = 3 ∨ j = 4 by omega) with rfl | rfl | rfl | rfl | rfl
                      · exact absurd ej h118_18
                      · exact absurd ej h127_19
                      · exact absurd ej h144_20
                      · exact absurd ej h154_21
                      · exact ej
                    refine lv_aload_n hx hb dX6_family_168 rfl (lv_at hl 3 rfl) ?_
                    refine va_get (D := G.1) (ci := 5) (v := .ref (b 2)) (C := RX6) (T := TX6) (N := 11) hx hb hts (fun _ h => List.mem_cons_of_mem _ (List.mem_append_right _ h)) hown hK hP 0 rfl rfl 3 (by decide) w2 (fun _ h9 => h9) rfl dX6_family_169 ?_
                    refine lv_bipush (v := nI 110) hx hb dX6_family_172 (by decide) ?_
                    refine lv_iload_n hx hb dX6_family_174 rfl (lv_at hl 4 rfl) ?_
                    refine zk_iaddN hx hb dX6_family_175 ?_
                    refine zk_ialdN hx hb hK hP 1 0 rfl rfl (k := (110 + fk)) (n := 1555) (by omega) (by omega) dX6_family_176 ?_
                    refine zk_top (zrow_8 K (c := fk) (by omega)) ?_
                    exact zk_reti (nI 0) hQ hx hb hr hlocks hS hP hD (Nat.le_of_ble_eq_true rfl) (Nat.le_of_ble_eq_true rfl) dX6_family_177 (Or.inl ⟨h5_3, zIn_of h21_7 (by decide), rfl, by rw [nfk, mFamily_4 hw4]⟩)
                  · refine lv_aload_n hx hb dX6_family_157 rfl (lv_at hl 3 rfl) ?_
                    refine va_get (D := G.1) (ci := 5) (v := .ref (b 2)) (C := RX6) (T := TX6) (N := 11) hx hb hts (fun _ h => List.mem_cons_of_mem _ (List.mem_append_right _ h)) hown hK hP 0 rfl rfl 3 (by decide) w2 (fun _ h9 => h9) rfl dX6_family_158 ?_
                    refine lv_iload_n hx hb dX6_family_161 rfl (lv_at hl 4 rfl) ?_
                    have hP0 : va_P G.1 vwCl ((zb_r G (b 2) K) ++ (zb_6 G b (nI 0) sz ac sp ou)) H := zk_Pperm hP (show ((zb_6 G b (nI 0) sz ac sp ou) ++ zb_r G (b 2) K).Perm ((zb_r G (b 2) K) ++ (zb_6 G b (nI 0) sz ac sp ou)) from (show ((zb_6 G b (nI 0) sz ac sp ou) ++ zb_r G (b 2) K).Perm ((zb_r G (b 2) K) ++ zb_6 G b (nI 0) sz ac sp ou) from List.perm_append_comm).trans (List.Perm.of_eq (by simp only [List.append_assoc, List.append_nil, List.nil_append])))
                    have hD0 : va_D A ((zb_r G (b 2) K) ++ (zb_6 G b (nI 0) sz ac sp ou)) := zk_Dperm hD (show ((zb_6 G b (nI 0) sz ac sp ou) ++ zb_r G (b 2) K).Perm ((zb_r G (b 2) K) ++ (zb_6 G b (nI 0) sz ac sp ou)) from (show ((zb_6 G b (nI 0) sz ac sp ou) ++ zb_r G (b 2) K).Perm ((zb_r G (b 2) K) ++ zb_6 G b (nI 0) sz ac sp ou) from List.perm_append_comm).trans (List.Perm.of_eq (by simp only [List.append_assoc, List.append_nil, List.nil_append])))
                    refine zk_callI (wr := zb_6 G b (nI 0) sz ac sp ou) (va_runS (As := [.ref (b 2), .int (nI fk)]) (rest := []) ⟨hx, hb, hml, hown, hts⟩ (c_X6_debt l G (b 2) K n t hI (nI fk) _) (cwS 2 hts gX6_family_X6_debt rfl rfl rfl (by decide +kernel) ⟨Nat.le_of_ble_eq_true rfl, Nat.le_of_ble_eq_true rfl⟩) (zk_preS hE hA0 hS (zk_Papp hP0).1 (zk_Dapp hD0).1) rfl rfl hl.1 rfl (lv_room (Nat.le_of_ble_eq_true rfl)) dX6_family_162 ⟨Nat.le_of_ble_eq_true rfl, Nat.le_of_ble_eq_true rfl⟩) hP0 hD0 hS hA (fun r23 u24 H locs q25 hP hD hS => ?_)
                    subst q25
                    have hP : va_P G.1 vwCl ((zb_6 G b (nI 0) sz ac sp ou) ++ zb_r G (b 2) K) H := zk_Pperm hP (show ((zb_6 G b (nI 0) sz ac sp ou) ++ zb_r G (b 2) K).Perm ((zb_r G (b 2) K) ++ (zb_6 G b (nI 0) sz ac sp ou)) from (show ((zb_6 G b (nI 0) sz ac sp ou) ++ zb_r G (b 2) K).Perm ((zb_r G (b 2) K) ++ zb_6 G b (nI 0) sz ac sp ou) from List.perm_append_comm).trans (List.Perm.of_eq (by simp only [List.append_assoc, List.append_nil, List.nil_append]))).symm
                    have hD : va_D A ((zb_6 G b (nI 0) sz ac sp ou) ++ zb_r G (b 2) K) := zk_Dperm hD (show ((zb_6 G b (nI 0) sz ac sp ou) ++ zb_r G (b 2) K).Perm ((zb_r G (b 2) K) ++ (zb_6 G b (nI 0) sz ac sp ou)) from (show ((zb_6 G b (nI 0) sz ac sp ou) ++ zb_r G (b 2) K).Perm ((zb_r G (b 2) K) ++ zb_6 G b (nI 0) sz ac sp ou) from List.perm_append_comm).trans (List.Perm.of_eq (by simp only [List.append_assoc, List.append_nil, List.nil_append]))).symm
                    refine lv_goto (tgt := 177) hx hb dX6_family_165 (by decide) ?_
                    exact zk_reti (nI 0) hQ hx hb hr hlocks hS hP hD (Nat.le_of_ble_eq_true rfl) (Nat.le_of_ble_eq_true rfl) dX6_family_177 (Or.inl ⟨h5_3, zIn_of h21_7 (by decide), rfl, by rw [nfk, mFamily_3 h154_21]⟩)
                · refine lv_iload hx hb dX6_family_147 (lv_at hl 1 rfl) ?_
                  refine lv_goto (tgt := 177) hx hb dX6_family_149 (by decide) ?_
                  exact zk_reti (nI 0) hQ hx hb hr hlocks hS hP hD (Nat.le_of_ble_eq_true rfl) (Nat.le_of_ble_eq_true rfl) dX6_family_177 (Or.inl ⟨h5_3, zIn_of h21_7 (by decide), rfl, by rw [nfk, mFamily_2 h144_20]⟩)
              · refine lv_aload_n hx hb dX6_family_130 rfl (lv_at hl 3 rfl) ?_
                refine va_get (D := G.1) (ci := 5) (v := .ref (b 2)) (C := RX6) (T := TX6) (N := 11) hx hb hts (fun _ h => List.mem_cons_of_mem _ (List.mem_append_right _ h)) hown hK hP 0 rfl rfl 3 (by decide) w2 (fun _ h9 => h9) rfl dX6_family_131 ?_
                refine lv_bipush (v := nI 105) hx hb dX6_family_134 (by decide) ?_
                refine lv_iload_n hx hb dX6_family_136 rfl (lv_at hl 4 rfl) ?_
                refine zk_iaddN hx hb dX6_family_137 ?_
                refine zk_ialdN hx hb hK hP 1 0 rfl rfl (k := (105 + fk)) (n := 1555) (by omega) (by omega) dX6_family_138 ?_
                refine zk_top (zrow_7 K (c := fk) (by omega)) ?_
                refine lv_goto (tgt := 177) hx hb dX6_family_139 (by decide) ?_
                exact zk_reti (nI 0) hQ hx hb hr hlocks hS hP hD (Nat.le_of_ble_eq_true rfl) (Nat.le_of_ble_eq_true rfl) dX6_family_177 (Or.inl ⟨h5_3, zIn_of h21_7 (by decide), rfl, by rw [nfk, mFamily_1 h127_19]⟩)
            · refine lv_iload_n hx hb dX6_family_121 rfl (lv_at hl 2 rfl) ?_
              refine lv_goto (tgt := 177) hx hb dX6_family_122 (by decide) ?_
              exact zk_reti (nI 0) hQ hx hb hr hlocks hS hP hD (Nat.le_of_ble_eq_true rfl) (Nat.le_of_ble_eq_true rfl) dX6_family_177 (Or.inl ⟨h5_3, zIn_of h21_7 (by decide), rfl, by rw [nfk, mFamily_0 h118_18]⟩)
          · have h53_17 := zk_nle (by omega) (by omega) h53_17
            refine lv_iload_n hx hb dX6_family_56 rfl (lv_at hl 2 rfl) ?_
            refine lv_aload_n hx hb dX6_family_57 rfl (lv_at hl 3 rfl) ?_
            refine va_get (D := G.1) (ci := 5) (v := .ref (b 2)) (C := RX6) (T := TX6) (N := 11) hx hb hts (fun _ h => List.mem_cons_of_mem _ (List.mem_append_right _ h)) hown hK hP 0 rfl rfl 3 (by decide) w2 (fun _ h9 => h9) rfl dX6_family_58 ?_
            refine lv_bipush (v := nI 45) hx hb dX6_family_61 (by decide) ?_
            refine lv_iload hx hb dX6_family_63 (lv_at hl 0 rfl) ?_
            refine zk_iaddN hx hb dX6_family_65 ?_
            refine zk_ialdN hx hb hK hP 1 0 rfl rfl (k := (45 + i)) (n := 1555) (by omega) (by omega) dX6_family_66 ?_
            refine zk_top (zrow_1 K (c := i) (by omega)) ?_
            refine lv_iload_n hx hb dX6_family_67 rfl (lv_at hl 4 rfl) ?_
            refine lv_icmp_ne (tgt := 75) hx hb dX6_family_68 (by decide) (fun h68_25 => ?_) (fun h68_25 => ?_)
            · refine lv_iconst (v := nI 0) hx hb dX6_family_75 (by decide) ?_
              refine lv_iadd hx hb dX6_family_76 ?_
              refine lv_topi (fun x27 ex27 => ?_)
              refine lv_istore_n (lv' := [(3, .int x27), (5, .int (nI i)), (4, .int y), (0, .ref (b 0)), (1, .int (nI fk)), (2, .int w)]) hx hb dX6_family_77 rfl hl (by decide) rfl (fun ls hl => ?_)
              refine lv_iload hx hb dX6_family_78 (lv_at hl 2 rfl) ?_
              refine lv_aload_n hx hb dX6_family_80 rfl (lv_at hl 3 rfl) ?_
              refine va_get (D := G.1) (ci := 5) (v := .ref (b 2)) (C := RX6) (T := TX6) (N := 11) hx hb hts (fun _ h => List.mem_cons_of_mem _ (List.mem_append_right _ h)) hown hK hP 0 rfl rfl 3 (by decide) w2 (fun _ h9 => h9) rfl dX6_family_81 ?_
              refine lv_bipush (v := nI 45) hx hb dX6_family_84 (by decide) ?_
              refine lv_iload hx hb dX6_family_86 (lv_at hl 1 rfl) ?_
              refine zk_iaddN hx hb dX6_family_88 ?_
              refine zk_ialdN hx hb hK hP 1 0 rfl rfl (k := (45 + i)) (n := 1555) (by omega) (by omega) dX6_family_89 ?_
              refine zk_top (zrow_1 K (c := i) (by omega)) ?_
              refine lv_iload_n hx hb dX6_family_90 rfl (lv_at hl 4 rfl) ?_
              refine lv_icmp_ne (tgt := 107) hx hb dX6_family_91 (by decide) (fun h91_27 => ?_) (fun h91_27 => ?_)
              · refine lv_iconst (v := nI 0) hx hb dX6_family_107 (by decide) ?_
                refine lv_iadd hx hb dX6_family_108 ?_
                refine lv_topi (fun x29 ex29 => ?_)
                refine lv_istore (lv' := [(4, .int x29), (3, .int x27), (5, .int (nI i)), (0, .ref (b 0)), (1, .int (nI fk)), (2, .int w)]) hx hb dX6_family_109 hl (by decide) rfl (fun ls hl => ?_)
                refine lv_iinc (v := nI (i + 1)) (lv' := [(5, .int (nI (i + 1))), (4, .int x29), (3, .int x27), (0, .ref (b 0)), (1, .int (nI fk)), (2, .int w)]) hx hb dX6_family_111 hl (k := 2) rfl (zk_inc i 1) (by decide) rfl (fun ls hl => ?_)
                refine lv_goto (tgt := 45) hx hb dX6_family_114 (by decide) ?_
                exact ih16 (i + 1) x27 x29 (by omega) (by omega) (by first | (exact absurd h68_25 h91_27) | (exact absurd h91_27 h68_25) | (refine zs_i hq ?_; simp +decide [zk_a0, h5_3, h21_7, nfk, h53_17, h68_25, ex27, h91_27, ex29])) (by first | (exact absurd h68_25 h91_27) | (exact absurd h91_27 h68_25) | (refine zs_i hq2 ?_; simp +decide [zk_a0, h5_3, h21_7, nfk, h53_17, h68_25, ex27, h91_27, ex29])) ls (lv_sub hl [0, 1, 2, 3, 4, 5] rfl)
              · refine lv_aload_n hx hb dX6_family_94 rfl (lv_at hl 3 rfl) ?_
                refine va_get (D := G.1) (ci := 5) (v := .ref (b 2)) (C := RX6) (T := TX6) (N := 11) hx hb hts (fun _ h => List.mem_cons_of_mem _ (List.mem_append_right _ h)) hown hK hP 0 rfl rfl 3 (by decide) w2 (fun _ h9 => h9) rfl dX6_family_95 ?_
                refine lv_bipush (v := nI 69) hx hb dX6_family_98 (by decide) ?_
                refine lv_iload hx hb dX6_family_100 (lv_at hl 1 rfl) ?_
                refine zk_iaddN hx hb dX6_family_102 ?_
                refine zk_ialdN hx hb hK hP 1 0 rfl rfl (k := (69 + i)) (n := 1555) (by omega) (by omega) dX6_family_103 ?_
                refine zk_top (zrow_3 K (c := i) (by omega)) ?_
                refine lv_goto (tgt := 108) hx hb dX6_family_104 (by decide) ?_
                refine lv_iadd hx hb dX6_family_108 ?_
                refine lv_topi (fun x30 ex30 => ?_)
                refine lv_istore (lv' := [(4, .int x30), (3, .int x27), (5, .int (nI i)), (0, .ref (b 0)), (1, .int (nI fk)), (2, .int w)]) hx hb dX6_family_109 hl (by decide) rfl (fun ls hl => ?_)
                refine lv_iinc (v := nI (i + 1)) (lv' := [(5, .int (nI (i + 1))), (4, .int x30), (3, .int x27), (0, .ref (b 0)), (1, .int (nI fk)), (2, .int w)]) hx hb dX6_family_111 hl (k := 2) rfl (zk_inc i 1) (by decide) rfl (fun ls hl => ?_)
                refine lv_goto (tgt := 45) hx hb dX6_family_114 (by decide) ?_
                exact ih16 (i + 1) x27 x30 (by omega) (by omega) (by first | (exact absurd h68_25 h91_27) | (exact absurd h91_27 h68_25) | (refine zs_i hq ?_; simp +decide [zk_a0, h5_3, h21_7, nfk, h53_17, h68_25, ex27, h91_27, ex30])) (by first | (exact absurd h68_25 h91_27) | (exact absurd h91_27 h68_25) | (refine zs_i hq2 ?_; simp +decide [zk_a0, h5_3, h21_7, nfk, h53_17, h68_25, ex27, h91_27, ex30])) ls (lv_sub hl [0, 1, 2, 3, 4, 5] rfl)
            · refine lv_iconst (v := nI 1) hx hb dX6_family_71 (by decide) ?_
              refine lv_goto (tgt := 76) hx hb dX6_family_72 (by decide) ?_
              refine lv_iadd hx hb dX6_family_76 ?_
              refine lv_topi (fun x31 ex31 => ?_)
              refine lv_istore_n (lv' := [(3, .int x31), (5, .int (nI i)), (4, .int y), (0, .ref (b 0)), (1, .int (nI fk)), (2, .int w)]) hx hb dX6_family_77 rfl hl (by decide) rfl (fun ls hl => ?_)
              refine lv_iload hx hb dX6_family_78 (lv_at hl 2 rfl) ?_
              refine lv_aload_n hx hb dX6_family_80 rfl (lv_at hl 3 rfl) ?_
              refine va_get (D := G.1) (ci := 5) (v := .ref (b 2)) (C := RX6) (T := TX6) (N := 11) hx hb hts (fun _ h => List.mem_cons_of_mem _ (List.mem_append_right _ h)) hown hK hP 0 rfl rfl 3 (by decide) w2 (fun _ h9 => h9) rfl dX6_family_81 ?_
              refine lv_bipush (v := nI 45) hx hb dX6_family_84 (by decide) ?_
              refine lv_iload hx hb dX6_family_86 (lv_at hl 1 rfl) ?_
              refine zk_iaddN hx hb dX6_family_88 ?_
              refine zk_ialdN hx hb hK hP 1 0 rfl rfl (k := (45 + i)) (n := 1555) (by omega) (by omega) dX6_family_89 ?_
              refine zk_top (zrow_1 K (c := i) (by omega)) ?_
              refine lv_iload_n hx hb dX6_family_90 rfl (lv_at hl 4 rfl) ?_
              refine lv_icmp_ne (tgt := 107) hx hb dX6_family_91 (by decide) (fun h91_31 => ?_) (fun h91_31 => ?_)
              · refine lv_iconst (v := nI 0) hx hb dX6_family_107 (by decide) ?_
                refine lv_iadd hx hb dX6_family_108 ?_
                refine lv_topi (fun x33 ex33 => ?_)
                refine lv_istore (lv' := [(4, .int x33), (3, .int x31), (5, .int (nI i)), (0, .ref (b 0)), (1, .int (nI fk)), (2, .int w)]) hx hb dX6_family_109 hl (by decide) rfl (fun ls hl => ?_)
                refine lv_iinc (v := nI (i + 1)) (lv' := [(5, .int (nI (i + 1))), (4, .int x33), (3, .int x31), (0, .ref (b 0)), (1, .int (nI fk)), (2, .int w)]) hx hb dX6_family_111 hl (k := 2) rfl (zk_inc i 1) (by decide) rfl (fun ls hl => ?_)
                refine lv_goto (tgt := 45) hx hb dX6_family_114 (by decide) ?_
                exact ih16 (i + 1) x31 x33 (by omega) (by omega) (by first | (exact absurd h68_25 h91_31) | (exact absurd h91_31 h68_25) | (refine zs_i hq ?_; simp +decide [zk_a0, h5_3, h21_7, nfk, h53_17, h68_25, ex31, h91_31, ex33])) (by first | (exact absurd h68_25 h91_31) | (exact absurd h91_31 h68_25) | (refine zs_i hq2 ?_; simp +decide [zk_a0, h5_3, h21_7, nfk, h53_17, h68_25, ex31, h91_31, ex33])) ls (lv_sub hl [0, 1, 2, 3, 4, 5] rfl)
              · refine lv_aload_n hx hb dX6_family_94 rfl (lv_at hl 3 rfl) ?_
                refine va_get (D := G.1) (ci := 5) (v := .ref (b 2)) (C := RX6) (T := TX6) (N := 11) hx hb hts (fun _ h => List.mem_cons_of_mem _ (List.mem_append_right _ h)) hown hK hP 0 rfl rfl 3 (by decide) w2 (fun _ h9 => h9) rfl dX6_family_95 ?_
                refine lv_bipush (v := nI 69) hx hb dX6_family_98 (by decide) ?_
                refine lv_iload hx hb dX6_family_100 (lv_at hl 1 rfl) ?_
                refine zk_iaddN hx hb dX6_family_102 ?_
                refine zk_ialdN hx hb hK hP 1 0 rfl rfl (k := (69 + i)) (n := 1555) (by omega) (by omega) dX6_family_103 ?_
                refine zk_top (zrow_3 K (c := i) (by omega)) ?_
                refine lv_goto (tgt := 108) hx hb dX6_family_104 (by decide) ?_
                refine lv_iadd hx hb dX6_family_108 ?_
                refine lv_topi (fun x34 ex34 => ?_)
                refine lv_istore (lv' := [(4, .int x34), (3, .int x31), (5, .int (nI i)), (0, .ref (b 0)), (1, .int (nI fk)), (2, .int w)]) hx hb dX6_family_109 hl (by decide) rfl (fun ls hl => ?_)
                refine lv_iinc (v := nI (i + 1)) (lv' := [(5, .int (nI (i + 1))), (4, .int x34), (3, .int x31), (0, .ref (b 0)), (1, .int (nI fk)), (2, .int w)]) hx hb dX6_family_111 hl (k := 2) rfl (zk_inc i 1) (by decide) rfl (fun ls hl => ?_)
                refine lv_goto (tgt := 45) hx hb dX6_family_114 (by decide) ?_
                exact ih16 (i + 1) x31 x34 (by omega) (by omega) (by first | (exact absurd h68_25 h91_31) | (exact absurd h91_31 h68_25) | (refine zs_i hq ?_; simp +decide [zk_a0, h5_3, h21_7, nfk, h53_17, h68_25, ex31, h91_31, ex34])) (by first | (exact absurd h68_25 h91_31) | (exact absurd h91_31 h68_25) | (refine zs_i hq2 ?_; simp +decide [zk_a0, h5_3, h21_7, nfk, h53_17, h68_25, ex31, h91_31, ex34])) ls (lv_sub hl [0, 1, 2, 3, 4, 5] rfl)
      exact lp15 _ 0 (nI 0) (nI 0) (Nat.lt_succ_self _) (by omega) (rfl) (rfl) ls (lv_sub hl [0, 1, 2, 3, 4, 5] rfl)
  · have h5_3 := zk_b0 h5_3
    refine lv_iconst (v := nI 1) hx hb dX6_family_8 (by decide) ?_
    refine lv_goto (tgt := 29) hx hb dX6_family_9 (by decide) ?_
    have hP0 : va_P G.1 vwCl ((zb_6 G b rf sz ac sp ou) ++ (zb_r G (b 2) K)) H := zk_Pperm hP (show ((zb_6 G b rf sz ac sp ou) ++ zb_r G (b 2) K).Perm ((zb_6 G b rf sz ac sp ou) ++ (zb_r G (b 2) K)) from (show ((zb_6 G b rf sz ac sp ou) ++ zb_r G (b 2) K).Perm ((zb_6 G b rf sz ac sp ou) ++ zb_r G (b 2) K) from List.Perm.refl _).trans (List.Perm.of_eq (by simp only [List.append_assoc, List.append_nil, List.nil_append])))
    have hD0 : va_D A ((zb_6 G b rf sz ac sp ou) ++ (zb_r G (b 2) K)) := zk_Dperm hD (show ((zb_6 G b rf sz ac sp ou) ++ zb_r G (b 2) K).Perm ((zb_6 G b rf sz ac sp ou) ++ (zb_r G (b 2) K)) from (show ((zb_6 G b rf sz ac sp ou) ++ zb_r G (b 2) K).Perm ((zb_6 G b rf sz ac sp ou) ++ zb_r G (b 2) K) from List.Perm.refl _).trans (List.Perm.of_eq (by simp only [List.append_assoc, List.append_nil, List.nil_append])))
    refine zk_callI (wr := zb_r G (b 2) K) (va_runV (As := [.int (nI 1)]) (rest := []) ⟨hx, hb, hml, hown, hts⟩ (c_X6_refused l G b rf sz ac sp ou (nI 1) _) (cwV 1 hts gX6_family_X6_refused rfl rfl rfl (by decide +kernel) ⟨Nat.le_of_ble_eq_true rfl, Nat.le_of_ble_eq_true rfl⟩) (zk_preV hE hA0 hS (zk_Papp hP0).1 (zk_Dapp hD0).1 (va_recv hK hP0 (ci := 5) (q0 := 0) rfl rfl)) rfl rfl hl.1 rfl (lv_room (Nat.le_of_ble_eq_true rfl)) dX6_family_29 ⟨Nat.le_of_ble_eq_true rfl, Nat.le_of_ble_eq_true rfl⟩) hP0 hD0 hS hA (fun r35 u36 H locs q37 hP hD hS => ?_)
    subst q37
    have hP : va_P G.1 vwCl ((zb_6 G b (nI 1) sz ac sp ou) ++ zb_r G (b 2) K) H := zk_Pperm hP (show ((zb_6 G b (nI 1) sz ac sp ou) ++ zb_r G (b 2) K).Perm ((zb_6 G b (nI 1) sz ac sp ou) ++ (zb_r G (b 2) K)) from (show ((zb_6 G b (nI 1) sz ac sp ou) ++ zb_r G (b 2) K).Perm ((zb_6 G b (nI 1) sz ac sp ou) ++ zb_r G (b 2) K) from List.Perm.refl _).trans (List.Perm.of_eq (by simp only [List.append_assoc, List.append_nil, List.nil_append]))).symm
    have hD : va_D A ((zb_6 G b (nI 1) sz ac sp ou) ++ zb_r G (b 2) K) := zk_Dperm hD (show ((zb_6 G b (nI 1) sz ac sp ou) ++ zb_r G (b 2) K).Perm ((zb_6 G b (nI 1) sz ac sp ou) ++ (zb_r G (b 2) K)) from (show ((zb_6 G b (nI 1) sz ac sp ou) ++ zb_r G (b 2) K).Perm ((zb_6 G b (nI 1) sz ac sp ou) ++ zb_r G (b 2) K) from List.Perm.refl _).trans (List.Perm.of_eq (by simp only [List.append_assoc, List.append_nil, List.nil_append]))).symm
    refine zk_top (show (if 0 < (nI 1) then nI 1 else nI 0) = nI 1 by decide) ?_
    refine lv_if_eq (tgt := 37) hx hb dX6_family_32 (by decide) (fun z => absurd z (by decide)) (fun _ => ?_)
    refine lv_iconst (v := nI 0) hx hb dX6_family_35 (by decide) ?_
    exact zk_reti (nI 1) hQ hx hb hr hlocks hS hP hD (Nat.le_of_ble_eq_true rfl) (Nat.le_of_ble_eq_true rfl) dX6_family_36 (Or.inr (Or.inl ⟨h5_3, rfl⟩))

def mDay (K : zL) (n t : Nat) (dk : Nat) (w : Int32) : Int32 :=
  if w = nI 0 then K 6 dk else if w = nI 1 then (((kSrv K n (-1) (nI dk)) + (kCnt K n (-1) (nI dk) (nI 1))) + (kCnt K n (-1) (nI dk) (nI 4))) + (kCnt K n (-1) (nI dk) (nI 5)) else if w = nI 2 then kSrv K n (-1) (nI dk) else if w = nI 3 then kChg K n (nI dk) (-1) else -1
theorem mDay_0 {K : zL} {n t : Nat} {dk : Nat} {w : Int32} (h : w = nI 0) : mDay K n t dk w = K 6 dk := by subst h; rfl
theorem mDay_1 {K : zL} {n t : Nat} {dk : Nat} {w : Int32} (h : w = nI 1) : mDay K n t dk w = (((kSrv K n (-1) (nI dk)) + (kCnt K n (-1) (nI dk) (nI 1))) + (kCnt K n (-1) (nI dk) (nI 4))) + (kCnt K n (-1) (nI dk) (nI 5)) := by subst h; rfl
theorem mDay_2 {K : zL} {n t : Nat} {dk : Nat} {w : Int32} (h : w = nI 2) : mDay K n t dk w = kSrv K n (-1) (nI dk) := by subst h; rfl
theorem mDay_3 {K : zL} {n t : Nat} {dk : Nat} {w : Int32} (h : w = nI 3) : mDay K n t dk w = kChg K n (nI dk) (-1) := by subst h; rfl
abbrev rmX6_day : Room := { frames := 3, cells := 0, slots := 0, locals := 70 }
set_option maxHeartbeats 4000000 in
set_option maxRecDepth 100000 in
/-- a day -/
theorem c_X6_day (l : Launch) (G : zk_G) (b : Nat → Nat) (rf sz ac sp ou : Int32) (K : zL) (n t : Nat) (hI : sInv K n t) (d w : Int32) : zk_I (S := Int32) l yX6_day wsX6_day rmX6_day G [.ref (b 0), .int d, .int w] ((zb_6 G b rf sz ac sp ou) ++ zb_r G (b 2) K) (fun r u => (sDay d ∧ zIn w 4 ∧ u = nI 0 ∧ r = mDay K n t d.toNatClampNeg w) ∨ (¬ sDay d ∧ u = nI 1) ∨ (sDay d ∧ ¬ zIn w 4 ∧ u = nI 2)) (fun u => zb_6 G b u sz ac sp ou ++ zb_r G (b 2) K) := by
  refine zk_bodyI (cc := cX6_day) (maxL := 4) (ret := (some .int)) (by decide) rfl (Nat.le_of_ble_eq_true rfl) ?_
  intro p E0 s m args below meth cd A ls Q hF hQ
  obtain ⟨hx, hb, hml, hr, hts, hown, hlocks, -, hE, hP, hD, hS, hA, hA0, hl⟩ := hF
  have hK := hE.1
  have hl : lv_has ls 4 [(0, .ref (b 0)), (1, .int d), (2, .int w)] := hl
  obtain ⟨hn, hn12, ht, ht40, hfam, hpay⟩ := id hI
  have w1 := hts _ (List.mem_of_getElem? (l := wsX6_day) (i := 1) (a := Cond.constantLong RX6 165 (3)) rfl)
  have w2 := hts _ (List.mem_of_getElem? (l := wsX6_day) (i := 2) (a := Cond.fieldLink RX6 13 "MealAccountsModel" "now" "[I") rfl)
  refine lv_aload_n hx hb dX6_day_0 rfl (lv_at hl 0 rfl) ?_
  refine lv_iload_n hx hb dX6_day_1 rfl (lv_at hl 1 rfl) ?_
  have hP0 : va_P G.1 vwCl (([] : va_W) ++ ((zb_6 G b rf sz ac sp ou) ++ zb_r G (b 2) K)) s.heap := hP
  have hD0 : va_D A (([] : va_W) ++ ((zb_6 G b rf sz ac sp ou) ++ zb_r G (b 2) K)) := hD
  refine zk_callI (wr := (zb_6 G b rf sz ac sp ou) ++ zb_r G (b 2) K) (va_runS (As := [.int d]) (rest := [.ref (b 0)]) ⟨hx, hb, hml, hown, hts⟩ (c_X6_isDay l G d _) (cwS 1 hts gX6_day_X6_isDay rfl rfl rfl (by decide +kernel) ⟨Nat.le_of_ble_eq_true rfl, Nat.le_of_ble_eq_true rfl⟩) (zk_preS hE hA0 hS (zk_Papp hP0).1 (zk_Dapp hD0).1) rfl rfl hl.1 rfl (lv_room (Nat.le_of_ble_eq_true rfl)) dX6_day_2 ⟨Nat.le_of_ble_eq_true rfl, Nat.le_of_ble_eq_true rfl⟩) hP0 hD0 hS hA (fun r1 u2 H locs q3 hP hD hS => ?_)
  subst q3
  have hP : va_P G.1 vwCl ((zb_6 G b rf sz ac sp ou) ++ zb_r G (b 2) K) H := hP
  have hD : va_D A ((zb_6 G b rf sz ac sp ou) ++ zb_r G (b 2) K) := hD
  refine lv_if_ne (tgt := 12) hx hb dX6_day_5 (by decide) (fun h5_3 => ?_) (fun h5_3 => ?_)
  · have h5_3 := zk_b1 h5_3
    refine lv_iload_n hx hb dX6_day_12 rfl (lv_at hl 2 rfl) ?_
    refine lv_i2l (v := w.toInt64) hx hb dX6_day_13 rfl ?_
    refine lv_lconst (v := lN 0) hx hb dX6_day_14 rfl ?_
    refine zk_topL (show lN 0 = (nI 0).toInt64 from (nI_l (by decide)).symm) ?_
    refine lv_ldc2 hx hb (v := lN 3) hown w1 dX6_day_15 ?_
    refine zk_topL (show lN 3 = (nI 3).toInt64 from (nI_l (by decide)).symm) ?_
    have hP0 : va_P G.1 vwCl (([] : va_W) ++ ((zb_6 G b rf sz ac sp ou) ++ zb_r G (b 2) K)) H := hP
    have hD0 : va_D A (([] : va_W) ++ ((zb_6 G b rf sz ac sp ou) ++ zb_r G (b 2) K)) := hD
    refine zk_callI (wr := (zb_6 G b rf sz ac sp ou) ++ zb_r G (b 2) K) (va_runS (As := [.long w.toInt64, .long ((nI 0).toInt64), .long ((nI 3).toInt64)]) (rest := [.ref (b 0)]) ⟨hx, hb, hml, hown, hts⟩ (c_X6_inI l G w (nI 0) (nI 3) _) (cwS 3 hts gX6_day_X6_in rfl rfl rfl (by decide +kernel) ⟨Nat.le_of_ble_eq_true rfl, Nat.le_of_ble_eq_true rfl⟩) (zk_preS hE hA0 hS (zk_Papp hP0).1 (zk_Dapp hD0).1) rfl rfl hl.1 rfl (lv_room (Nat.le_of_ble_eq_true rfl)) dX6_day_18 ⟨Nat.le_of_ble_eq_true rfl, Nat.le_of_ble_eq_true rfl⟩) hP0 hD0 hS hA (fun r5 u6 H locs q7 hP hD hS => ?_)
    subst q7
    have hP : va_P G.1 vwCl ((zb_6 G b rf sz ac sp ou) ++ zb_r G (b 2) K) H := hP
    have hD : va_D A ((zb_6 G b rf sz ac sp ou) ++ zb_r G (b 2) K) := hD
    refine lv_if_eq (tgt := 28) hx hb dX6_day_21 (by decide) (fun h21_7 => ?_) (fun h21_7 => ?_)
    · have h21_7 := zk_b0 h21_7
      refine lv_iconst (v := nI 2) hx hb dX6_day_28 (by decide) ?_
      have hP0 : va_P G.1 vwCl ((zb_6 G b rf sz ac sp ou) ++ (zb_r G (b 2) K)) H := zk_Pperm hP (show ((zb_6 G b rf sz ac sp ou) ++ zb_r G (b 2) K).Perm ((zb_6 G b rf sz ac sp ou) ++ (zb_r G (b 2) K)) from (show ((zb_6 G b rf sz ac sp ou) ++ zb_r G (b 2) K).Perm ((zb_6 G b rf sz ac sp ou) ++ zb_r G (b 2) K) from List.Perm.refl _).trans (List.Perm.of_eq (by simp only [List.append_assoc, List.append_nil, List.nil_append])))
      have hD0 : va_D A ((zb_6 G b rf sz ac sp ou) ++ (zb_r G (b 2) K)) := zk_Dperm hD (show ((zb_6 G b rf sz ac sp ou) ++ zb_r G (b 2) K).Perm ((zb_6 G b rf sz ac sp ou) ++ (zb_r G (b 2) K)) from (show ((zb_6 G b rf sz ac sp ou) ++ zb_r G (b 2) K).Perm ((zb_6 G b rf sz ac sp ou) ++ zb_r G (b 2) K) from List.Perm.refl _).trans (List.Perm.of_eq (by simp only [List.append_assoc, List.append_nil, List.nil_append])))
      refine zk_callI (wr := zb_r G (b 2) K) (va_runV (As := [.int (nI 2)]) (rest := []) ⟨hx, hb, hml, hown, hts⟩ (c_X6_refused l G b rf sz ac sp ou (nI 2) _) (cwV 1 hts gX6_day_X6_refused rfl rfl rfl (by decide +kernel) ⟨Nat.le_of_ble_eq_true rfl, Nat.le_of_ble_eq_true rfl⟩) (zk_preV hE hA0 hS (zk_Papp hP0).1 (zk_Dapp hD0).1 (va_recv hK hP0 (ci := 5) (q0 := 0) rfl rfl)) rfl rfl hl.1 rfl (lv_room (Nat.le_of_ble_eq_true rfl)) dX6_day_29 ⟨Nat.le_of_ble_eq_true rfl, Nat.le_of_ble_eq_true rfl⟩) hP0 hD0 hS hA (fun r9 u10 H locs q11 hP hD hS => ?_)
      subst q11
      have hP : va_P G.1 vwCl ((zb_6 G b (nI 2) sz ac sp ou) ++ zb_r G (b 2) K) H := zk_Pperm hP (show ((zb_6 G b (nI 2) sz ac sp ou) ++ zb_r G (b 2) K).Perm ((zb_6 G b (nI 2) sz ac sp ou) ++ (zb_r G (b 2) K)) from (show ((zb_6 G b (nI 2) sz ac sp ou) ++ zb_r G (b 2) K).Perm ((zb_6 G b (nI 2) sz ac sp ou) ++ zb_r G (b 2) K) from List.Perm.refl _).trans (List.Perm.of_eq (by simp only [List.append_assoc, List.append_nil, List.nil_append]))).symm
      have hD : va_D A ((zb_6 G b (nI 2) sz ac sp ou) ++ zb_r G (b 2) K) := zk_Dperm hD (show ((zb_6 G b (nI 2) sz ac sp ou) ++ zb_r G (b 2) K).Perm ((zb_6 G b (nI 2) sz ac sp ou) ++ (zb_r G (b 2) K)) from (show ((zb_6 G b (nI 2) sz ac sp ou) ++ zb_r G (b 2) K).Perm ((zb_6 G b (nI 2) sz ac sp ou) ++ zb_r G (b 2) K) from List.Perm.refl _).trans (List.Perm.of_eq (by simp only [List.append_assoc, List.append_nil, List.nil_append]))).symm
      refine zk_top (show (if 0 < (nI 2) then nI 1 else nI 0) = nI 1 by decide) ?_
      refine lv_if_eq (tgt := 37) hx hb dX6_day_32 (by decide) (fun z => absurd z (by decide)) (fun _ => ?_)
      refine lv_iconst (v := nI 0) hx hb dX6_day_35 (by decide) ?_
      exact zk_reti (nI 2) hQ hx hb hr hlocks hS hP hD (Nat.le_of_ble_eq_true rfl) (Nat.le_of_ble_eq_true rfl) dX6_day_36 (Or.inr (Or.inr (⟨h5_3, zIn_no h21_7 (by decide), rfl⟩)))
    · have h21_7 := zk_b1 h21_7
      refine lv_iconst (v := nI 0) hx hb dX6_day_24 (by decide) ?_
      refine lv_goto (tgt := 29) hx hb dX6_day_25 (by decide) ?_
      have hP0 : va_P G.1 vwCl ((zb_6 G b rf sz ac sp ou) ++ (zb_r G (b 2) K)) H := zk_Pperm hP (show ((zb_6 G b rf sz ac sp ou) ++ zb_r G (b 2) K).Perm ((zb_6 G b rf sz ac sp ou) ++ (zb_r G (b 2) K)) from (show ((zb_6 G b rf sz ac sp ou) ++ zb_r G (b 2) K).Perm ((zb_6 G b rf sz ac sp ou) ++ zb_r G (b 2) K) from List.Perm.refl _).trans (List.Perm.of_eq (by simp only [List.append_assoc, List.append_nil, List.nil_append])))
      have hD0 : va_D A ((zb_6 G b rf sz ac sp ou) ++ (zb_r G (b 2) K)) := zk_Dperm hD (show ((zb_6 G b rf sz ac sp ou) ++ zb_r G (b 2) K).Perm ((zb_6 G b rf sz ac sp ou) ++ (zb_r G (b 2) K)) from (show ((zb_6 G b rf sz ac sp ou) ++ zb_r G (b 2) K).Perm ((zb_6 G b rf sz ac sp ou) ++ zb_r G (b 2) K) from List.Perm.refl _).trans (List.Perm.of_eq (by simp only [List.append_assoc, List.append_nil, List.nil_append])))
      refine zk_callI (wr := zb_r G (b 2) K) (va_runV (As := [.int (nI 0)]) (rest := []) ⟨hx, hb, hml, hown, hts⟩ (c_X6_refused l G b rf sz ac sp ou (nI 0) _) (cwV 1 hts gX6_day_X6_refused rfl rfl rfl (by decide +kernel) ⟨Nat.le_of_ble_eq_true rfl, Nat.le_of_ble_eq_true rfl⟩) (zk_preV hE hA0 hS (zk_Papp hP0).1 (zk_Dapp hD0).1 (va_recv hK hP0 (ci := 5) (q0 := 0) rfl rfl)) rfl rfl hl.1 rfl (lv_room (Nat.le_of_ble_eq_true rfl)) dX6_day_29 ⟨Nat.le_of_ble_eq_true rfl, Nat.le_of_ble_eq_true rfl⟩) hP0 hD0 hS hA (fun r12 u13 H locs q14 hP hD hS => ?_)
      subst q14
      have hP : va_P G.1 vwCl ((zb_6 G b (nI 0) sz ac sp ou) ++ zb_r G (b 2) K) H := zk_Pperm hP (show ((zb_6 G b (nI 0) sz ac sp ou) ++ zb_r G (b 2) K).Perm ((zb_6 G b (nI 0) sz ac sp ou) ++ (zb_r G (b 2) K)) from (show ((zb_6 G b (nI 0) sz ac sp ou) ++ zb_r G (b 2) K).Perm ((zb_6 G b (nI 0) sz ac sp ou) ++ zb_r G (b 2) K) from List.Perm.refl _).trans (List.Perm.of_eq (by simp only [List.append_assoc, List.append_nil, List.nil_append]))).symm
      have hD : va_D A ((zb_6 G b (nI 0) sz ac sp ou) ++ zb_r G (b 2) K) := zk_Dperm hD (show ((zb_6 G b (nI 0) sz ac sp ou) ++ zb_r G (b 2) K).Perm ((zb_6 G b (nI 0) sz ac sp ou) ++ (zb_r G (b 2) K)) from (show ((zb_6 G b (nI 0) sz ac sp ou) ++ zb_r G (b 2) K).Perm ((zb_6 G b (nI 0) sz ac sp ou) ++ zb_r G (b 2) K) from List.Perm.refl _).trans (List.Perm.of_eq (by simp only [List.append_assoc, List.append_nil, List.nil_append]))).symm
      refine zk_top (show (if 0 < (nI 0) then nI 1 else nI 0) = nI 0 by decide) ?_
      refine lv_if_eq (tgt := 37) hx hb dX6_day_32 (by decide) (fun _ => ?_) (fun z => absurd (by decide) z)
      obtain ⟨dk, hdk, edk⟩ := sDay_nat h5_3
      subst edk
      have ndk := nI_clamp (show dk < 2 ^ 31 by omega)
      refine lv_aload_n hx hb dX6_day_37 rfl (lv_at hl 0 rfl) ?_
      refine va_get (D := G.1) (ci := 5) (v := .ref (b 2)) (C := RX6) (T := TX6) (N := 11) hx hb hts (fun _ h => List.mem_cons_of_mem _ (List.mem_append_right _ h)) hown hK hP 0 rfl rfl 3 (by decide) w2 (fun _ h9 => h9) rfl dX6_day_38 ?_
      refine lv_iconst (v := -1) hx hb dX6_day_41 (by decide) ?_
      refine lv_iload_n hx hb dX6_day_42 rfl (lv_at hl 1 rfl) ?_
      have hP0 : va_P G.1 vwCl ((zb_r G (b 2) K) ++ (zb_6 G b (nI 0) sz ac sp ou)) H := zk_Pperm hP (show ((zb_6 G b (nI 0) sz ac sp ou) ++ zb_r G (b 2) K).Perm ((zb_r G (b 2) K) ++ (zb_6 G b (nI 0) sz ac sp ou)) from (show ((zb_6 G b (nI 0) sz ac sp ou) ++ zb_r G (b 2) K).Perm ((zb_r G (b 2) K) ++ zb_6 G b (nI 0) sz ac sp ou) from List.perm_append_comm).trans (List.Perm.of_eq (by simp only [List.append_assoc, List.append_nil, List.nil_append])))
      have hD0 : va_D A ((zb_r G (b 2) K) ++ (zb_6 G b (nI 0) sz ac sp ou)) := zk_Dperm hD (show ((zb_6 G b (nI 0) sz ac sp ou) ++ zb_r G (b 2) K).Perm ((zb_r G (b 2) K) ++ (zb_6 G b (nI 0) sz ac sp ou)) from (show ((zb_6 G b (nI 0) sz ac sp ou) ++ zb_r G (b 2) K).Perm ((zb_r G (b 2) K) ++ zb_6 G b (nI 0) sz ac sp ou) from List.perm_append_comm).trans (List.Perm.of_eq (by simp only [List.append_assoc, List.append_nil, List.nil_append])))
      refine zk_callI (wr := zb_6 G b (nI 0) sz ac sp ou) (va_runS (As := [.ref (b 2), .int (-1), .int (nI dk)]) (rest := []) ⟨hx, hb, hml, hown, hts⟩ (c_X6_served l G (b 2) K n t hI (-1) (nI dk) _) (cwS 3 hts gX6_day_X6_served rfl rfl rfl (by decide +kernel) ⟨Nat.le_of_ble_eq_true rfl, Nat.le_of_ble_eq_true rfl⟩) (zk_preS hE hA0 hS (zk_Papp hP0).1 (zk_Dapp hD0).1) rfl rfl hl.1 rfl (lv_room (Nat.le_of_ble_eq_true rfl)) dX6_day_43 ⟨Nat.le_of_ble_eq_true rfl, Nat.le_of_ble_eq_true rfl⟩) hP0 hD0 hS hA (fun r15 u16 H locs q17 hP hD hS => ?_)
      subst q17
      have hP : va_P G.1 vwCl ((zb_6 G b (nI 0) sz ac sp ou) ++ zb_r G (b 2) K) H := zk_Pperm hP (show ((zb_6 G b (nI 0) sz ac sp ou) ++ zb_r G (b 2) K).Perm ((zb_r G (b 2) K) ++ (zb_6 G b (nI 0) sz ac sp ou)) from (show ((zb_6 G b (nI 0) sz ac sp ou) ++ zb_r G (b 2) K).Perm ((zb_r G (b 2) K) ++ zb_6 G b (nI 0) sz ac sp ou) from List.perm_append_comm).trans (List.Perm.of_eq (by simp only [List.append_assoc, List.append_nil, List.nil_append]))).symm
      have hD : va_D A ((zb_6 G b (nI 0) sz ac sp ou) ++ zb_r G (b 2) K) := zk_Dperm hD (show ((zb_6 G b (nI 0) sz ac sp ou) ++ zb_r G (b 2) K).Perm ((zb_r G (b 2) K) ++ (zb_6 G b (nI 0) sz ac sp ou)) from (show ((zb_6 G b (nI 0) sz ac sp ou) ++ zb_r G (b 2) K).Perm ((zb_r G (b 2) K) ++ zb_6 G b (nI 0) sz ac sp ou) from List.perm_append_comm).trans (List.Perm.of_eq (by simp only [List.append_assoc, List.append_nil, List.nil_append]))).symm
      refine lv_aload_n hx hb dX6_day_46 rfl (lv_at hl 0 rfl) ?_
      refine va_get (D := G.1) (ci := 5) (v := .ref (b 2)) (C := RX6) (T := TX6) (N := 11) hx hb hts (fun _ h => List.mem_cons_of_mem _ (List.mem_append_right _ h)) hown hK hP 0 rfl rfl 3 (by decide) w2 (fun _ h9 => h9) rfl dX6_day_47 ?_
      refine lv_iconst (v := -1) hx hb dX6_day_50 (by decide) ?_
      refine lv_iload_n hx hb dX6_day_51 rfl (lv_at hl 1 rfl) ?_
      refine lv_iconst (v := nI 1) hx hb dX6_day_52 (by decide) ?_
      have hP0 : va_P G.1 vwCl ((zb_r G (b 2) K) ++ (zb_6 G b (nI 0) sz ac sp ou)) H := zk_Pperm hP (show ((zb_6 G b (nI 0) sz ac sp ou) ++ zb_r G (b 2) K).Perm ((zb_r G (b 2) K) ++ (zb_6 G b (nI 0) sz ac sp ou)) from (show ((zb_6 G b (nI 0) sz ac sp ou) ++ zb_r G (b 2) K).Perm ((zb_r G (b 2) K) ++ zb_6 G b (nI 0) sz ac sp ou) from List.perm_append_comm).trans (List.Perm.of_eq (by simp only [List.append_assoc, List.append_nil, List.nil_append])))
      have hD0 : va_D A ((zb_r G (b 2) K) ++ (zb_6 G b (nI 0) sz ac sp ou)) := zk_Dperm hD (show ((zb_6 G b (nI 0) sz ac sp ou) ++ zb_r G (b 2) K).Perm ((zb_r G (b 2) K) ++ (zb_6 G b (nI 0) sz ac sp ou)) from (show ((zb_6 G b (nI 0) sz ac sp ou) ++ zb_r G (b 2) K).Perm ((zb_r G (b 2) K) ++ zb_6 G b (nI 0) sz ac sp ou) from List.perm_append_comm).trans (List.Perm.of_eq (by simp only [List.append_assoc, List.append_nil, List.nil_append])))
      refine zk_callI (wr := zb_6 G b (nI 0) sz ac sp ou) (va_runS (As := [.ref (b 2), .int (-1), .int (nI dk), .int (nI 1)]) (rest := [.int (kSrv K n (-1) (nI dk))]) ⟨hx, hb, hml, hown, hts⟩ (c_X6_count l G (b 2) K n t hI (-1) (nI dk) (nI 1) _) (cwS 4 hts gX6_day_X6_count rfl rfl rfl (by decide +kernel) ⟨Nat.le_of_ble_eq_true rfl, Nat.le_of_ble_eq_true rfl⟩) (zk_preS hE hA0 hS (zk_Papp hP0).1 (zk_Dapp hD0).1) rfl rfl hl.1 rfl (lv_room (Nat.le_of_ble_eq_true rfl)) dX6_day_53 ⟨Nat.le_of_ble_eq_true rfl, Nat.le_of_ble_eq_true rfl⟩) hP0 hD0 hS hA (fun r18 u19 H locs q20 hP hD hS => ?_)
      subst q20
      have hP : va_P G.1 vwCl ((zb_6 G b (nI 0) sz ac sp ou) ++ zb_r G (b 2) K) H := zk_Pperm hP (show ((zb_6 G b (nI 0) sz ac sp ou) ++ zb_r G (b 2) K).Perm ((zb_r G (b 2) K) ++ (zb_6 G b (nI 0) sz ac sp ou)) from (show ((zb_6 G b (nI 0) sz ac sp ou) ++ zb_r G (b 2) K).Perm ((zb_r G (b 2) K) ++ zb_6 G b (nI 0) sz ac sp ou) from List.perm_append_comm).trans (List.Perm.of_eq (by simp only [List.append_assoc, List.append_nil, List.nil_append]))).symm
      have hD : va_D A ((zb_6 G b (nI 0) sz ac sp ou) ++ zb_r G (b 2) K) := zk_Dperm hD (show ((zb_6 G b (nI 0) sz ac sp ou) ++ zb_r G (b 2) K).Perm ((zb_r G (b 2) K) ++ (zb_6 G b (nI 0) sz ac sp ou)) from (show ((zb_6 G b (nI 0) sz ac sp ou) ++ zb_r G (b 2) K).Perm ((zb_r G (b 2) K) ++ zb_6 G b (nI 0) sz ac sp ou) from List.perm_append_comm).trans (List.Perm.of_eq (by simp only [List.append_assoc, List.append_nil, List.nil_append]))).symm
      refine lv_iadd hx hb dX6_day_56 ?_
      refine lv_aload_n hx hb dX6_day_57 rfl (lv_at hl 0 rfl) ?_
      refine va_get (D := G.1) (ci := 5) (v := .ref (b 2)) (C := RX6) (T := TX6) (N := 11) hx hb hts (fun _ h => List.mem_cons_of_mem _ (List.mem_append_right _ h)) hown hK hP 0 rfl rfl 3 (by decide) w2 (fun _ h9 => h9) rfl dX6_day_58 ?_
      refine lv_iconst (v := -1) hx hb dX6_day_61 (by decide) ?_
      refine lv_iload_n hx hb dX6_day_62 rfl (lv_at hl 1 rfl) ?_
      refine lv_iconst (v := nI 4) hx hb dX6_day_63 (by decide) ?_
      have hP0 : va_P G.1 vwCl ((zb_r G (b 2) K) ++ (zb_6 G b (nI 0) sz ac sp ou)) H := zk_Pperm hP (show ((zb_6 G b (nI 0) sz ac sp ou) ++ zb_r G (b 2) K).Perm ((zb_r G (b 2) K) ++ (zb_6 G b (nI 0) sz ac sp ou)) from (show ((zb_6 G b (nI 0) sz ac sp ou) ++ zb_r G (b 2) K).Perm ((zb_r G (b 2) K) ++ zb_6 G b (nI 0) sz ac sp ou) from List.perm_append_comm).trans (List.Perm.of_eq (by simp only [List.append_assoc, List.append_nil, List.nil_append])))
      have hD0 : va_D A ((zb_r G (b 2) K) ++ (zb_6 G b (nI 0) sz ac sp ou)) := zk_Dperm hD (show ((zb_6 G b (nI 0) sz ac sp ou) ++ zb_r G (b 2) K).Perm ((zb_r G (b 2) K) ++ (zb_6 G b (nI 0) sz ac sp ou)) from (show ((zb_6 G b (nI 0) sz ac sp ou) ++ zb_r G (b 2) K).Perm ((zb_r G (b 2) K) ++ zb_6 G b (nI 0) sz ac sp ou) from List.perm_append_comm).trans (List.Perm.of_eq (by simp only [List.append_assoc, List.append_nil, List.nil_append])))
      refine zk_callI (wr := zb_6 G b (nI 0) sz ac sp ou) (va_runS (As := [.ref (b 2), .int (-1), .int (nI dk), .int (nI 4)]) (rest := [.int ((kSrv K n (-1) (nI dk)) + (kCnt K n (-1) (nI dk) (nI 1)))]) ⟨hx, hb, hml, hown, hts⟩ (c_X6_count l G (b 2) K n t hI (-1) (nI dk) (nI 4) _) (cwS 4 hts gX6_day_X6_count rfl rfl rfl (by decide +kernel) ⟨Nat.le_of_ble_eq_true rfl, Nat.le_of_ble_eq_true rfl⟩) (zk_preS hE hA0 hS (zk_Papp hP0).1 (zk_Dapp hD0).1) rfl rfl hl.1 rfl (lv_room (Nat.le_of_ble_eq_true rfl)) dX6_day_64 ⟨Nat.le_of_ble_eq_true rfl, Nat.le_of_ble_eq_true rfl⟩) hP0 hD0 hS hA (fun r21 u22 H locs q23 hP hD hS => ?_)
      subst q23
      have hP : va_P G.1 vwCl ((zb_6 G b (nI 0) sz ac sp ou) ++ zb_r G (b 2) K) H := zk_Pperm hP (show ((zb_6 G b (nI 0) sz ac sp ou) ++ zb_r G (b 2) K).Perm ((zb_r G (b 2) K) ++ (zb_6 G b (nI 0) sz ac sp ou)) from (show ((zb_6 G b (nI 0) sz ac sp ou) ++ zb_r G (b 2) K).Perm ((zb_r G (b 2) K) ++ zb_6 G b (nI 0) sz ac sp ou) from List.perm_append_comm).trans (List.Perm.of_eq (by simp only [List.append_assoc, List.append_nil, List.nil_append]))).symm
      have hD : va_D A ((zb_6 G b (nI 0) sz ac sp ou) ++ zb_r G (b 2) K) := zk_Dperm hD (show ((zb_6 G b (nI 0) sz ac sp ou) ++ zb_r G (b 2) K).Perm ((zb_r G (b 2) K) ++ (zb_6 G b (nI 0) sz ac sp ou)) from (show ((zb_6 G b (nI 0) sz ac sp ou) ++ zb_r G (b 2) K).Perm ((zb_r G (b 2) K) ++ zb_6 G b (nI 0) sz ac sp ou) from List.perm_append_comm).trans (List.Perm.of_eq (by simp only [List.append_assoc, List.append_nil, List.nil_append]))).symm
      refine lv_iadd hx hb dX6_day_67 ?_
      refine lv_aload_n hx hb dX6_day_68 rfl (lv_at hl 0 rfl) ?_
      refine va_get (D := G.1) (ci := 5) (v := .ref (b 2)) (C := RX6) (T := TX6) (N := 11) hx hb hts (fun _ h => List.mem_cons_of_mem _ (List.mem_append_right _ h)) hown hK hP 0 rfl rfl 3 (by decide) w2 (fun _ h9 => h9) rfl dX6_day_69 ?_
      refine lv_iconst (v := -1) hx hb dX6_day_72 (by decide) ?_
      refine lv_iload_n hx hb dX6_day_73 rfl (lv_at hl 1 rfl) ?_
      refine lv_iconst (v := nI 5) hx hb dX6_day_74 (by decide) ?_
      have hP0 : va_P G.1 vwCl ((zb_r G (b 2) K) ++ (zb_6 G b (nI 0) sz ac sp ou)) H := zk_Pperm hP (show ((zb_6 G b (nI 0) sz ac sp ou) ++ zb_r G (b 2) K).Perm ((zb_r G (b 2) K) ++ (zb_6 G b (nI 0) sz ac sp ou)) from (show ((zb_6 G b (nI 0) sz ac sp ou) ++ zb_r G (b 2) K).Perm ((zb_r G (b 2) K) ++ zb_6 G b (nI 0) sz ac sp ou) from List.perm_append_comm).trans (List.Perm.of_eq (by simp only [List.append_assoc, List.append_nil, List.nil_append])))
      have hD0 : va_D A ((zb_r G (b 2) K) ++ (zb_6 G b (nI 0) sz ac sp ou)) := zk_Dperm hD (show ((zb_6 G b (nI 0) sz ac sp ou) ++ zb_r G (b 2) K).Perm ((zb_r G (b 2) K) ++ (zb_6 G b (nI 0) sz ac sp ou)) from (show ((zb_6 G b (nI 0) sz ac sp ou) ++ zb_r G (b 2) K).Perm ((zb_r G (b 2) K) ++ zb_6 G b (nI 0) sz ac sp ou) from List.perm_append_comm).trans (List.Perm.of_eq (by simp only [List.append_assoc, List.append_nil, List.nil_append])))
      refine zk_callI (wr := zb_6 G b (nI 0) sz ac sp ou) (va_runS (As := [.ref (b 2), .int (-1), .int (nI dk), .int (nI 5)]) (rest := [.int (((kSrv K n (-1) (nI dk)) + (kCnt K n (-1) (nI dk) (nI 1))) + (kCnt K n (-1) (nI dk) (nI 4)))]) ⟨hx, hb, hml, hown, hts⟩ (c_X6_count l G (b 2) K n t hI (-1) (nI dk) (nI 5) _) (cwS 4 hts gX6_day_X6_count rfl rfl rfl (by decide +kernel) ⟨Nat.le_of_ble_eq_true rfl, Nat.le_of_ble_eq_true rfl⟩) (zk_preS hE hA0 hS (zk_Papp hP0).1 (zk_Dapp hD0).1) rfl rfl hl.1 rfl (lv_room (Nat.le_of_ble_eq_true rfl)) dX6_day_75 ⟨Nat.le_of_ble_eq_true rfl, Nat.le_of_ble_eq_true rfl⟩) hP0 hD0 hS hA (fun r24 u25 H locs q26 hP hD hS => ?_)
      subst q26
      have hP : va_P G.1 vwCl ((zb_6 G b (nI 0) sz ac sp ou) ++ zb_r G (b 2) K) H := zk_Pperm hP (show ((zb_6 G b (nI 0) sz ac sp ou) ++ zb_r G (b 2) K).Perm ((zb_r G (b 2) K) ++ (zb_6 G b (nI 0) sz ac sp ou)) from (show ((zb_6 G b (nI 0) sz ac sp ou) ++ zb_r G (b 2) K).Perm ((zb_r G (b 2) K) ++ zb_6 G b (nI 0) sz ac sp ou) from List.perm_append_comm).trans (List.Perm.of_eq (by simp only [List.append_assoc, List.append_nil, List.nil_append]))).symm
      have hD : va_D A ((zb_6 G b (nI 0) sz ac sp ou) ++ zb_r G (b 2) K) := zk_Dperm hD (show ((zb_6 G b (nI 0) sz ac sp ou) ++ zb_r G (b 2) K).Perm ((zb_r G (b 2) K) ++ (zb_6 G b (nI 0) sz ac sp ou)) from (show ((zb_6 G b (nI 0) sz ac sp ou) ++ zb_r G (b 2) K).Perm ((zb_r G (b 2) K) ++ zb_6 G b (nI 0) sz ac sp ou) from List.perm_append_comm).trans (List.Perm.of_eq (by simp only [List.append_assoc, List.append_nil, List.nil_append]))).symm
      refine lv_iadd hx hb dX6_day_78 ?_
      refine lv_istore_n (lv' := [(3, .int ((((kSrv K n (-1) (nI dk)) + (kCnt K n (-1) (nI dk) (nI 1))) + (kCnt K n (-1) (nI dk) (nI 4))) + (kCnt K n (-1) (nI dk) (nI 5)))), (0, .ref (b 0)), (1, .int (nI dk)), (2, .int w)]) hx hb dX6_day_79 rfl hl (by decide) rfl (fun ls hl => ?_)
      refine lv_iload_n hx hb dX6_day_80 rfl (lv_at hl 3 rfl) ?_
      refine lv_if_ne (tgt := 95) hx hb dX6_day_81 (by decide) (fun h81_26 => ?_) (fun h81_26 => ?_)
      · refine lv_iload_n hx hb dX6_day_95 rfl (lv_at hl 3 rfl) ?_
        refine lv_iconst (v := nI 1) hx hb dX6_day_96 (by decide) ?_
        refine lv_icmp_ne (tgt := 104) hx hb dX6_day_97 (by decide) (fun h97_27 => ?_) (fun h97_27 => ?_)
        · refine lv_iload_n hx hb dX6_day_104 rfl (lv_at hl 3 rfl) ?_
          refine lv_iconst (v := nI 2) hx hb dX6_day_105 (by decide) ?_
          refine lv_icmp_ne (tgt := 121) hx hb dX6_day_106 (by decide) (fun h106_28 => ?_) (fun h106_28 => ?_)
          · have hw3 : w = nI 3 := by
              obtain ⟨j, hj, ej⟩ := zIn_of h21_7 (by decide)
              rcases (show j = 0 ∨ j = 1 ∨ j = 2 ∨ j = 3 by omega) with rfl | rfl | rfl | rfl
              · exact absurd ej h81_26
              · exact absurd ej h97_27
              · exact absurd ej h106_28
              · exact ej
            refine lv_aload_n hx hb dX6_day_121 rfl (lv_at hl 1 rfl) ?_
            refine va_get (D := G.1) (ci := 5) (v := .ref (b 2)) (C := RX6) (T := TX6) (N := 11) hx hb hts (fun _ h => List.mem_cons_of_mem _ (List.mem_append_right _ h)) hown hK hP 0 rfl rfl 3 (by decide) w2 (fun _ h9 => h9) rfl dX6_day_122 ?_
            refine lv_iload_n hx hb dX6_day_125 rfl (lv_at hl 2 rfl) ?_
            refine lv_iconst (v := -1) hx hb dX6_day_126 (by decide) ?_
            have hP0 : va_P G.1 vwCl ((zb_r G (b 2) K) ++ (zb_6 G b (nI 0) sz ac sp ou)) H := zk_Pperm hP (show ((zb_6 G b (nI 0) sz ac sp ou) ++ zb_r G (b 2) K).Perm ((zb_r G (b 2) K) ++ (zb_6 G b (nI 0) sz ac sp ou)) from (show ((zb_6 G b (nI 0) sz ac sp ou) ++ zb_r G (b 2) K).Perm ((zb_r G (b 2) K) ++ zb_6 G b (nI 0) sz ac sp ou) from List.perm_append_comm).trans (List.Perm.of_eq (by simp only [List.append_assoc, List.append_nil, List.nil_append])))
            have hD0 : va_D A ((zb_r G (b 2) K) ++ (zb_6 G b (nI 0) sz ac sp ou)) := zk_Dperm hD (show ((zb_6 G b (nI 0) sz ac sp ou) ++ zb_r G (b 2) K).Perm ((zb_r G (b 2) K) ++ (zb_6 G b (nI 0) sz ac sp ou)) from (show ((zb_6 G b (nI 0) sz ac sp ou) ++ zb_r G (b 2) K).Perm ((zb_r G (b 2) K) ++ zb_6 G b (nI 0) sz ac sp ou) from List.perm_append_comm).trans (List.Perm.of_eq (by simp only [List.append_assoc, List.append_nil, List.nil_append])))
            refine zk_callI (wr := zb_6 G b (nI 0) sz ac sp ou) (va_runS (As := [.ref (b 2), .int (nI dk), .int (-1)]) (rest := []) ⟨hx, hb, hml, hown, hts⟩ (c_X6_charged l G (b 2) K n t hI (nI dk) (-1) _) (cwS 3 hts gX6_day_X6_charged rfl rfl rfl (by decide +kernel) ⟨Nat.le_of_ble_eq_true rfl, Nat.le_of_ble_eq_true rfl⟩) (zk_preS hE hA0 hS (zk_Papp hP0).1 (zk_Dapp hD0).1) rfl rfl hl.1 rfl (lv_room (Nat.le_of_ble_eq_true rfl)) dX6_day_127 ⟨Nat.le_of_ble_eq_true rfl, Nat.le_of_ble_eq_true rfl⟩) hP0 hD0 hS hA (fun r30 u31 H locs q32 hP hD hS => ?_)
            subst q32
            have hP : va_P G.1 vwCl ((zb_6 G b (nI 0) sz ac sp ou) ++ zb_r G (b 2) K) H := zk_Pperm hP (show ((zb_6 G b (nI 0) sz ac sp ou) ++ zb_r G (b 2) K).Perm ((zb_r G (b 2) K) ++ (zb_6 G b (nI 0) sz ac sp ou)) from (show ((zb_6 G b (nI 0) sz ac sp ou) ++ zb_r G (b 2) K).Perm ((zb_r G (b 2) K) ++ zb_6 G b (nI 0) sz ac sp ou) from List.perm_append_comm).trans (List.Perm.of_eq (by simp only [List.append_assoc, List.append_nil, List.nil_append]))).symm
            have hD : va_D A ((zb_6 G b (nI 0) sz ac sp ou) ++ zb_r G (b 2) K) := zk_Dperm hD (show ((zb_6 G b (nI 0) sz ac sp ou) ++ zb_r G (b 2) K).Perm ((zb_r G (b 2) K) ++ (zb_6 G b (nI 0) sz ac sp ou)) from (show ((zb_6 G b (nI 0) sz ac sp ou) ++ zb_r G (b 2) K).Perm ((zb_r G (b 2) K) ++ zb_6 G b (nI 0) sz ac sp ou) from List.perm_append_comm).trans (List.Perm.of_eq (by simp only [List.append_assoc, List.append_nil, List.nil_append]))).symm
            exact zk_reti (nI 0) hQ hx hb hr hlocks hS hP hD (Nat.le_of_ble_eq_true rfl) (Nat.le_of_ble_eq_true rfl) dX6_day_130 (Or.inl ⟨h5_3, zIn_of h21_7 (by decide), rfl, by rw [ndk, mDay_3 hw3]⟩)
          · refine lv_aload_n hx hb dX6_day_109 rfl (lv_at hl 1 rfl) ?_
            refine va_get (D := G.1) (ci := 5) (v := .ref (b 2)) (C := RX6) (T := TX6) (N := 11) hx hb hts (fun _ h => List.mem_cons_of_mem _ (List.mem_append_right _ h)) hown hK hP 0 rfl rfl 3 (by decide) w2 (fun _ h9 => h9) rfl dX6_day_110 ?_
            refine lv_iconst (v := -1) hx hb dX6_day_113 (by decide) ?_
            refine lv_iload_n hx hb dX6_day_114 rfl (lv_at hl 2 rfl) ?_
            have hP0 : va_P G.1 vwCl ((zb_r G (b 2) K) ++ (zb_6 G b (nI 0) sz ac sp ou)) H := zk_Pperm hP (show ((zb_6 G b (nI 0) sz ac sp ou) ++ zb_r G (b 2) K).Perm ((zb_r G (b 2) K) ++ (zb_6 G b (nI 0) sz ac sp ou)) from (show ((zb_6 G b (nI 0) sz ac sp ou) ++ zb_r G (b 2) K).Perm ((zb_r G (b 2) K) ++ zb_6 G b (nI 0) sz ac sp ou) from List.perm_append_comm).trans (List.Perm.of_eq (by simp only [List.append_assoc, List.append_nil, List.nil_append])))
            have hD0 : va_D A ((zb_r G (b 2) K) ++ (zb_6 G b (nI 0) sz ac sp ou)) := zk_Dperm hD (show ((zb_6 G b (nI 0) sz ac sp ou) ++ zb_r G (b 2) K).Perm ((zb_r G (b 2) K) ++ (zb_6 G b (nI 0) sz ac sp ou)) from (show ((zb_6 G b (nI 0) sz ac sp ou) ++ zb_r G (b 2) K).Perm ((zb_r G (b 2) K) ++ zb_6 G b (nI 0) sz ac sp ou) from List.perm_append_comm).trans (List.Perm.of_eq (by simp only [List.append_assoc, List.append_nil, List.nil_append])))
            refine zk_callI (wr := zb_6 G b (nI 0) sz ac sp ou) (va_runS (As := [.ref (b 2), .int (-1), .int (nI dk)]) (rest := []) ⟨hx, hb, hml, hown, hts⟩ (c_X6_served l G (b 2) K n t hI (-1) (nI dk) _) (cwS 3 hts gX6_day_X6_served rfl rfl rfl (by decide +kernel) ⟨Nat.le_of_ble_eq_true rfl, Nat.le_of_ble_eq_true rfl⟩) (zk_preS hE hA0 hS (zk_Papp hP0).1 (zk_Dapp hD0).1) rfl rfl hl.1 rfl (lv_room (Nat.le_of_ble_eq_true rfl)) dX6_day_115 ⟨Nat.le_of_ble_eq_true rfl, Nat.le_of_ble_eq_true rfl⟩) hP0 hD0 hS hA (fun r33 u34 H locs q35 hP hD hS => ?_)
            subst q35
            have hP : va_P G.1 vwCl ((zb_6 G b (nI 0) sz ac sp ou) ++ zb_r G (b 2) K) H := zk_Pperm hP (show ((zb_6 G b (nI 0) sz ac sp ou) ++ zb_r G (b 2) K).Perm ((zb_r G (b 2) K) ++ (zb_6 G b (nI 0) sz ac sp ou)) from (show ((zb_6 G b (nI 0) sz ac sp ou) ++ zb_r G (b 2) K).Perm ((zb_r G (b 2) K) ++ zb_6 G b (nI 0) sz ac sp ou) from List.perm_append_comm).trans (List.Perm.of_eq (by simp only [List.append_assoc, List.append_nil, List.nil_append]))).symm
            have hD : va_D A ((zb_6 G b (nI 0) sz ac sp ou) ++ zb_r G (b 2) K) := zk_Dperm hD (show ((zb_6 G b (nI 0) sz ac sp ou) ++ zb_r G (b 2) K).Perm ((zb_r G (b 2) K) ++ (zb_6 G b (nI 0) sz ac sp ou)) from (show ((zb_6 G b (nI 0) sz ac sp ou) ++ zb_r G (b 2) K).Perm ((zb_r G (b 2) K) ++ zb_6 G b (nI 0) sz ac sp ou) from List.perm_append_comm).trans (List.Perm.of_eq (by simp only [List.append_assoc, List.append_nil, List.nil_append]))).symm
            refine lv_goto (tgt := 130) hx hb dX6_day_118 (by decide) ?_
            exact zk_reti (nI 0) hQ hx hb hr hlocks hS hP hD (Nat.le_of_ble_eq_true rfl) (Nat.le_of_ble_eq_true rfl) dX6_day_130 (Or.inl ⟨h5_3, zIn_of h21_7 (by decide), rfl, by rw [ndk, mDay_2 h106_28]⟩)
        · refine lv_iload_n hx hb dX6_day_100 rfl (lv_at hl 0 rfl) ?_
          refine lv_goto (tgt := 130) hx hb dX6_day_101 (by decide) ?_
          exact zk_reti (nI 0) hQ hx hb hr hlocks hS hP hD (Nat.le_of_ble_eq_true rfl) (Nat.le_of_ble_eq_true rfl) dX6_day_130 (Or.inl ⟨h5_3, zIn_of h21_7 (by decide), rfl, by rw [ndk, mDay_1 h97_27]⟩)
      · refine lv_aload_n hx hb dX6_day_84 rfl (lv_at hl 1 rfl) ?_
        refine va_get (D := G.1) (ci := 5) (v := .ref (b 2)) (C := RX6) (T := TX6) (N := 11) hx hb hts (fun _ h => List.mem_cons_of_mem _ (List.mem_append_right _ h)) hown hK hP 0 rfl rfl 3 (by decide) w2 (fun _ h9 => h9) rfl dX6_day_85 ?_
        refine lv_iconst (v := nI 5) hx hb dX6_day_88 (by decide) ?_
        refine lv_iload_n hx hb dX6_day_89 rfl (lv_at hl 2 rfl) ?_
        refine zk_iaddN hx hb dX6_day_90 ?_
        refine zk_ialdN hx hb hK hP 1 0 rfl rfl (k := (5 + dk)) (n := 1555) (by omega) (by omega) dX6_day_91 ?_
        refine zk_top (zrow_6 K (c := dk) (by omega)) ?_
        refine lv_goto (tgt := 130) hx hb dX6_day_92 (by decide) ?_
        exact zk_reti (nI 0) hQ hx hb hr hlocks hS hP hD (Nat.le_of_ble_eq_true rfl) (Nat.le_of_ble_eq_true rfl) dX6_day_130 (Or.inl ⟨h5_3, zIn_of h21_7 (by decide), rfl, by rw [ndk, mDay_0 h81_26]⟩)
  · have h5_3 := zk_b0 h5_3
    refine lv_iconst (v := nI 1) hx hb dX6_day_8 (by decide) ?_
    refine lv_goto (tgt := 29) hx hb dX6_day_9 (by decide) ?_
    have hP0 : va_P G.1 vwCl ((zb_6 G b rf sz ac sp ou) ++ (zb_r G (b 2) K)) H := zk_Pperm hP (show ((zb_6 G b rf sz ac sp ou) ++ zb_r G (b 2) K).Perm ((zb_6 G b rf sz ac sp ou) ++ (zb_r G (b 2) K)) from (show ((zb_6 G b rf sz ac sp ou) ++ zb_r G (b 2) K).Perm ((zb_6 G b rf sz ac sp ou) ++ zb_r G (b 2) K) from List.Perm.refl _).trans (List.Perm.of_eq (by simp only [List.append_assoc, List.append_nil, List.nil_append])))
    have hD0 : va_D A ((zb_6 G b rf sz ac sp ou) ++ (zb_r G (b 2) K)) := zk_Dperm hD (show ((zb_6 G b rf sz ac sp ou) ++ zb_r G (b 2) K).Perm ((zb_6 G b rf sz ac sp ou) ++ (zb_r G (b 2) K)) from (show ((zb_6 G b rf sz ac sp ou) ++ zb_r G (b 2) K).Perm ((zb_6 G b rf sz ac sp ou) ++ zb_r G (b 2) K) from List.Perm.refl _).trans (List.Perm.of_eq (by simp only [List.append_assoc, List.append_nil, List.nil_append])))
    refine zk_callI (wr := zb_r G (b 2) K) (va_runV (As := [.int (nI 1)]) (rest := []) ⟨hx, hb, hml, hown, hts⟩ (c_X6_refused l G b rf sz ac sp ou (nI 1) _) (cwV 1 hts gX6_day_X6_refused rfl rfl rfl (by decide +kernel) ⟨Nat.le_of_ble_eq_true rfl, Nat.le_of_ble_eq_true rfl⟩) (zk_preV hE hA0 hS (zk_Papp hP0).1 (zk_Dapp hD0).1 (va_recv hK hP0 (ci := 5) (q0 := 0) rfl rfl)) rfl rfl hl.1 rfl (lv_room (Nat.le_of_ble_eq_true rfl)) dX6_day_29 ⟨Nat.le_of_ble_eq_true rfl, Nat.le_of_ble_eq_true rfl⟩) hP0 hD0 hS hA (fun r36 u37 H locs q38 hP hD hS => ?_)
    subst q38
    have hP : va_P G.1 vwCl ((zb_6 G b (nI 1) sz ac sp ou) ++ zb_r G (b 2) K) H := zk_Pperm hP (show ((zb_6 G b (nI 1) sz ac sp ou) ++ zb_r G (b 2) K).Perm ((zb_6 G b (nI 1) sz ac sp ou) ++ (zb_r G (b 2) K)) from (show ((zb_6 G b (nI 1) sz ac sp ou) ++ zb_r G (b 2) K).Perm ((zb_6 G b (nI 1) sz ac sp ou) ++ zb_r G (b 2) K) from List.Perm.refl _).trans (List.Perm.of_eq (by simp only [List.append_assoc, List.append_nil, List.nil_append]))).symm
    have hD : va_D A ((zb_6 G b (nI 1) sz ac sp ou) ++ zb_r G (b 2) K) := zk_Dperm hD (show ((zb_6 G b (nI 1) sz ac sp ou) ++ zb_r G (b 2) K).Perm ((zb_6 G b (nI 1) sz ac sp ou) ++ (zb_r G (b 2) K)) from (show ((zb_6 G b (nI 1) sz ac sp ou) ++ zb_r G (b 2) K).Perm ((zb_6 G b (nI 1) sz ac sp ou) ++ zb_r G (b 2) K) from List.Perm.refl _).trans (List.Perm.of_eq (by simp only [List.append_assoc, List.append_nil, List.nil_append]))).symm
    refine zk_top (show (if 0 < (nI 1) then nI 1 else nI 0) = nI 1 by decide) ?_
    refine lv_if_eq (tgt := 37) hx hb dX6_day_32 (by decide) (fun z => absurd z (by decide)) (fun _ => ?_)
    refine lv_iconst (v := nI 0) hx hb dX6_day_35 (by decide) ?_
    exact zk_reti (nI 1) hQ hx hb hr hlocks hS hP hD (Nat.le_of_ble_eq_true rfl) (Nat.le_of_ble_eq_true rfl) dX6_day_36 (Or.inr (Or.inl ⟨h5_3, rfl⟩))

def mMeal (K : zL) (c d : Nat) (w : Int32) : Int32 := if w = 0 then K 9 (c * 40 + d) else if K 9 (c * 40 + d) = nI 2 then (if w = nI 1 then K 10 (c * 40 + d) else K 11 (c * 40 + d)) else if w = nI 1 ∧ K 9 (c * 40 + d) = nI 3 then nI 0 else -1
abbrev rmX6_meal : Room := { frames := 2, cells := 0, slots := 0, locals := 46 }
set_option maxHeartbeats 4000000 in
set_option maxRecDepth 100000 in
/-- a meal -/
theorem c_X6_meal (l : Launch) (G : zk_G) (b : Nat → Nat) (rf sz ac sp ou : Int32) (K : zL) (n t : Nat) (hI : sInv K n t) (c d w : Int32) : zk_I (S := Int32) l yX6_meal wsX6_meal rmX6_meal G [.ref (b 0), .int c, .int d, .int w] ((zb_6 G b rf sz ac sp ou) ++ zb_r G (b 2) K) (fun r u => (sHas K c ∧ sDay d ∧ zIn w 3 ∧ u = nI 0 ∧ r = mMeal K c.toNatClampNeg d.toNatClampNeg w) ∨ (¬ sHas K c ∧ u = nI 1) ∨ (sHas K c ∧ ¬ sDay d ∧ u = nI 1) ∨ (sHas K c ∧ sDay d ∧ ¬ zIn w 3 ∧ u = nI 2)) (fun u => zb_6 G b u sz ac sp ou ++ zb_r G (b 2) K) := by
  refine zk_bodyI (cc := cX6_meal) (maxL := 5) (ret := (some .int)) (by decide) rfl (Nat.le_of_ble_eq_true rfl) ?_
  intro p E0 s m args below meth cd A ls Q hF hQ
  obtain ⟨hx, hb, hml, hr, hts, hown, hlocks, -, hE, hP, hD, hS, hA, hA0, hl⟩ := hF
  have hK := hE.1
  have hl : lv_has ls 5 [(0, .ref (b 0)), (1, .int c), (2, .int d), (3, .int w)] := hl
  obtain ⟨hn, hn12, ht, ht40, hfam, hpay⟩ := id hI
  have w1 := hts _ (List.mem_of_getElem? (l := wsX6_meal) (i := 1) (a := Cond.fieldLink RX6 13 "MealAccountsModel" "now" "[I") rfl)
  have w2 := hts _ (List.mem_of_getElem? (l := wsX6_meal) (i := 2) (a := Cond.constantLong RX6 167 (2)) rfl)
  refine lv_aload_n hx hb dX6_meal_0 rfl (lv_at hl 0 rfl) ?_
  refine lv_aload_n hx hb dX6_meal_1 rfl (lv_at hl 0 rfl) ?_
  refine va_get (D := G.1) (ci := 5) (v := .ref (b 2)) (C := RX6) (T := TX6) (N := 11) hx hb hts (fun _ h => List.mem_cons_of_mem _ (List.mem_append_right _ h)) hown hK hP 0 rfl rfl 3 (by decide) w1 (fun _ h9 => h9) rfl dX6_meal_2 ?_
  refine lv_iload_n hx hb dX6_meal_5 rfl (lv_at hl 1 rfl) ?_
  have hP0 : va_P G.1 vwCl ((zb_r G (b 2) K) ++ (zb_6 G b rf sz ac sp ou)) s.heap := zk_Pperm hP (show ((zb_6 G b rf sz ac sp ou) ++ zb_r G (b 2) K).Perm ((zb_r G (b 2) K) ++ (zb_6 G b rf sz ac sp ou)) from (show ((zb_6 G b rf sz ac sp ou) ++ zb_r G (b 2) K).Perm ((zb_r G (b 2) K) ++ zb_6 G b rf sz ac sp ou) from List.perm_append_comm).trans (List.Perm.of_eq (by simp only [List.append_assoc, List.append_nil, List.nil_append])))
  have hD0 : va_D A ((zb_r G (b 2) K) ++ (zb_6 G b rf sz ac sp ou)) := zk_Dperm hD (show ((zb_6 G b rf sz ac sp ou) ++ zb_r G (b 2) K).Perm ((zb_r G (b 2) K) ++ (zb_6 G b rf sz ac sp ou)) from (show ((zb_6 G b rf sz ac sp ou) ++ zb_r G (b 2) K).Perm ((zb_r G (b 2) K) ++ zb_6 G b rf sz ac sp ou) from List.perm_append_comm).trans (List.Perm.of_eq (by simp only [List.append_assoc, List.append_nil, List.nil_append])))
  refine zk_callI (wr := zb_6 G b rf sz ac sp ou) (va_runS (As := [.ref (b 2), .int c]) (rest := [.ref (b 0)]) ⟨hx, hb, hml, hown, hts⟩ (c_X6_isChild l G (b 2) K n t hI c _) (cwS 2 hts gX6_meal_X6_isChild rfl rfl rfl (by decide +kernel) ⟨Nat.le_of_ble_eq_true rfl, Nat.le_of_ble_eq_true rfl⟩) (zk_preS hE hA0 hS (zk_Papp hP0).1 (zk_Dapp hD0).1) rfl rfl hl.1 rfl (lv_room (Nat.le_of_ble_eq_true rfl)) dX6_meal_6 ⟨Nat.le_of_ble_eq_true rfl, Nat.le_of_ble_eq_true rfl⟩) hP0 hD0 hS hA (fun r1 u2 H locs q3 hP hD hS => ?_)
  subst q3
  have hP : va_P G.1 vwCl ((zb_6 G b rf sz ac sp ou) ++ zb_r G (b 2) K) H := zk_Pperm hP (show ((zb_6 G b rf sz ac sp ou) ++ zb_r G (b 2) K).Perm ((zb_r G (b 2) K) ++ (zb_6 G b rf sz ac sp ou)) from (show ((zb_6 G b rf sz ac sp ou) ++ zb_r G (b 2) K).Perm ((zb_r G (b 2) K) ++ zb_6 G b rf sz ac sp ou) from List.perm_append_comm).trans (List.Perm.of_eq (by simp only [List.append_assoc, List.append_nil, List.nil_append]))).symm
  have hD : va_D A ((zb_6 G b rf sz ac sp ou) ++ zb_r G (b 2) K) := zk_Dperm hD (show ((zb_6 G b rf sz ac sp ou) ++ zb_r G (b 2) K).Perm ((zb_r G (b 2) K) ++ (zb_6 G b rf sz ac sp ou)) from (show ((zb_6 G b rf sz ac sp ou) ++ zb_r G (b 2) K).Perm ((zb_r G (b 2) K) ++ zb_6 G b rf sz ac sp ou) from List.perm_append_comm).trans (List.Perm.of_eq (by simp only [List.append_assoc, List.append_nil, List.nil_append]))).symm
  refine lv_if_eq (tgt := 19) hx hb dX6_meal_9 (by decide) (fun h9_3 => ?_) (fun h9_3 => ?_)
  · have h9_3 := zk_b0 h9_3
    refine lv_iconst (v := nI 1) hx hb dX6_meal_19 (by decide) ?_
    refine lv_goto (tgt := 40) hx hb dX6_meal_20 (by decide) ?_
    have hP0 : va_P G.1 vwCl ((zb_6 G b rf sz ac sp ou) ++ (zb_r G (b 2) K)) H := zk_Pperm hP (show ((zb_6 G b rf sz ac sp ou) ++ zb_r G (b 2) K).Perm ((zb_6 G b rf sz ac sp ou) ++ (zb_r G (b 2) K)) from (show ((zb_6 G b rf sz ac sp ou) ++ zb_r G (b 2) K).Perm ((zb_6 G b rf sz ac sp ou) ++ zb_r G (b 2) K) from List.Perm.refl _).trans (List.Perm.of_eq (by simp only [List.append_assoc, List.append_nil, List.nil_append])))
    have hD0 : va_D A ((zb_6 G b rf sz ac sp ou) ++ (zb_r G (b 2) K)) := zk_Dperm hD (show ((zb_6 G b rf sz ac sp ou) ++ zb_r G (b 2) K).Perm ((zb_6 G b rf sz ac sp ou) ++ (zb_r G (b 2) K)) from (show ((zb_6 G b rf sz ac sp ou) ++ zb_r G (b 2) K).Perm ((zb_6 G b rf sz ac sp ou) ++ zb_r G (b 2) K) from List.Perm.refl _).trans (List.Perm.of_eq (by simp only [List.append_assoc, List.append_nil, List.nil_append])))
    refine zk_callI (wr := zb_r G (b 2) K) (va_runV (As := [.int (nI 1)]) (rest := []) ⟨hx, hb, hml, hown, hts⟩ (c_X6_refused l G b rf sz ac sp ou (nI 1) _) (cwV 1 hts gX6_meal_X6_refused rfl rfl rfl (by decide +kernel) ⟨Nat.le_of_ble_eq_true rfl, Nat.le_of_ble_eq_true rfl⟩) (zk_preV hE hA0 hS (zk_Papp hP0).1 (zk_Dapp hD0).1 (va_recv hK hP0 (ci := 5) (q0 := 0) rfl rfl)) rfl rfl hl.1 rfl (lv_room (Nat.le_of_ble_eq_true rfl)) dX6_meal_40 ⟨Nat.le_of_ble_eq_true rfl, Nat.le_of_ble_eq_true rfl⟩) hP0 hD0 hS hA (fun r5 u6 H locs q7 hP hD hS => ?_)
    subst q7
    have hP : va_P G.1 vwCl ((zb_6 G b (nI 1) sz ac sp ou) ++ zb_r G (b 2) K) H := zk_Pperm hP (show ((zb_6 G b (nI 1) sz ac sp ou) ++ zb_r G (b 2) K).Perm ((zb_6 G b (nI 1) sz ac sp ou) ++ (zb_r G (b 2) K)) from (show ((zb_6 G b (nI 1) sz ac sp ou) ++ zb_r G (b 2) K).Perm ((zb_6 G b (nI 1) sz ac sp ou) ++ zb_r G (b 2) K) from List.Perm.refl _).trans (List.Perm.of_eq (by simp only [List.append_assoc, List.append_nil, List.nil_append]))).symm
    have hD : va_D A ((zb_6 G b (nI 1) sz ac sp ou) ++ zb_r G (b 2) K) := zk_Dperm hD (show ((zb_6 G b (nI 1) sz ac sp ou) ++ zb_r G (b 2) K).Perm ((zb_6 G b (nI 1) sz ac sp ou) ++ (zb_r G (b 2) K)) from (show ((zb_6 G b (nI 1) sz ac sp ou) ++ zb_r G (b 2) K).Perm ((zb_6 G b (nI 1) sz ac sp ou) ++ zb_r G (b 2) K) from List.Perm.refl _).trans (List.Perm.of_eq (by simp only [List.append_assoc, List.append_nil, List.nil_append]))).symm
    refine zk_top (show (if 0 < (nI 1) then nI 1 else nI 0) = nI 1 by decide) ?_
    refine lv_if_eq (tgt := 48) hx hb dX6_meal_43 (by decide) (fun z => absurd z (by decide)) (fun _ => ?_)
    refine lv_iconst (v := nI 0) hx hb dX6_meal_46 (by decide) ?_
    exact zk_reti (nI 1) hQ hx hb hr hlocks hS hP hD (Nat.le_of_ble_eq_true rfl) (Nat.le_of_ble_eq_true rfl) dX6_meal_47 (Or.inr (Or.inl ⟨h9_3, rfl⟩))
  · have h9_3 := zk_b1 h9_3
    refine lv_iload_n hx hb dX6_meal_12 rfl (lv_at hl 2 rfl) ?_
    have hP0 : va_P G.1 vwCl (([] : va_W) ++ ((zb_6 G b rf sz ac sp ou) ++ zb_r G (b 2) K)) H := hP
    have hD0 : va_D A (([] : va_W) ++ ((zb_6 G b rf sz ac sp ou) ++ zb_r G (b 2) K)) := hD
    refine zk_callI (wr := (zb_6 G b rf sz ac sp ou) ++ zb_r G (b 2) K) (va_runS (As := [.int d]) (rest := [.ref (b 0)]) ⟨hx, hb, hml, hown, hts⟩ (c_X6_isDay l G d _) (cwS 1 hts gX6_meal_X6_isDay rfl rfl rfl (by decide +kernel) ⟨Nat.le_of_ble_eq_true rfl, Nat.le_of_ble_eq_true rfl⟩) (zk_preS hE hA0 hS (zk_Papp hP0).1 (zk_Dapp hD0).1) rfl rfl hl.1 rfl (lv_room (Nat.le_of_ble_eq_true rfl)) dX6_meal_13 ⟨Nat.le_of_ble_eq_true rfl, Nat.le_of_ble_eq_true rfl⟩) hP0 hD0 hS hA (fun r8 u9 H locs q10 hP hD hS => ?_)
    subst q10
    have hP : va_P G.1 vwCl ((zb_6 G b rf sz ac sp ou) ++ zb_r G (b 2) K) H := hP
    have hD : va_D A ((zb_6 G b rf sz ac sp ou) ++ zb_r G (b 2) K) := hD
    refine lv_if_ne (tgt := 23) hx hb dX6_meal_16 (by decide) (fun h16_10 => ?_) (fun h16_10 => ?_)
    · have h16_10 := zk_b1 h16_10
      refine lv_iload_n hx hb dX6_meal_23 rfl (lv_at hl 3 rfl) ?_
      refine lv_i2l (v := w.toInt64) hx hb dX6_meal_24 rfl ?_
      refine lv_lconst (v := lN 0) hx hb dX6_meal_25 rfl ?_
      refine zk_topL (show lN 0 = (nI 0).toInt64 from (nI_l (by decide)).symm) ?_
      refine lv_ldc2 hx hb (v := lN 2) hown w2 dX6_meal_26 ?_
      refine zk_topL (show lN 2 = (nI 2).toInt64 from (nI_l (by decide)).symm) ?_
      have hP0 : va_P G.1 vwCl (([] : va_W) ++ ((zb_6 G b rf sz ac sp ou) ++ zb_r G (b 2) K)) H := hP
      have hD0 : va_D A (([] : va_W) ++ ((zb_6 G b rf sz ac sp ou) ++ zb_r G (b 2) K)) := hD
      refine zk_callI (wr := (zb_6 G b rf sz ac sp ou) ++ zb_r G (b 2) K) (va_runS (As := [.long w.toInt64, .long ((nI 0).toInt64), .long ((nI 2).toInt64)]) (rest := [.ref (b 0)]) ⟨hx, hb, hml, hown, hts⟩ (c_X6_inI l G w (nI 0) (nI 2) _) (cwS 3 hts gX6_meal_X6_in rfl rfl rfl (by decide +kernel) ⟨Nat.le_of_ble_eq_true rfl, Nat.le_of_ble_eq_true rfl⟩) (zk_preS hE hA0 hS (zk_Papp hP0).1 (zk_Dapp hD0).1) rfl rfl hl.1 rfl (lv_room (Nat.le_of_ble_eq_true rfl)) dX6_meal_29 ⟨Nat.le_of_ble_eq_true rfl, Nat.le_of_ble_eq_true rfl⟩) hP0 hD0 hS hA (fun r12 u13 H locs q14 hP hD hS => ?_)
      subst q14
      have hP : va_P G.1 vwCl ((zb_6 G b rf sz ac sp ou) ++ zb_r G (b 2) K) H := hP
      have hD : va_D A ((zb_6 G b rf sz ac sp ou) ++ zb_r G (b 2) K) := hD
      refine lv_if_eq (tgt := 39) hx hb dX6_meal_32 (by decide) (fun h32_14 => ?_) (fun h32_14 => ?_)
      · have h32_14 := zk_b0 h32_14
        refine lv_iconst (v := nI 2) hx hb dX6_meal_39 (by decide) ?_
        have hP0 : va_P G.1 vwCl ((zb_6 G b rf sz ac sp ou) ++ (zb_r G (b 2) K)) H := zk_Pperm hP (show ((zb_6 G b rf sz ac sp ou) ++ zb_r G (b 2) K).Perm ((zb_6 G b rf sz ac sp ou) ++ (zb_r G (b 2) K)) from (show ((zb_6 G b rf sz ac sp ou) ++ zb_r G (b 2) K).Perm ((zb_6 G b rf sz ac sp ou) ++ zb_r G (b 2) K) from List.Perm.refl _).trans (List.Perm.of_eq (by simp only [List.append_assoc, List.append_nil, List.nil_append])))
        have hD0 : va_D A ((zb_6 G b rf sz ac sp ou) ++ (zb_r G (b 2) K)) := zk_Dperm hD (show ((zb_6 G b rf sz ac sp ou) ++ zb_r G (b 2) K).Perm ((zb_6 G b rf sz ac sp ou) ++ (zb_r G (b 2) K)) from (show ((zb_6 G b rf sz ac sp ou) ++ zb_r G (b 2) K).Perm ((zb_6 G b rf sz ac sp ou) ++ zb_r G (b 2) K) from List.Perm.refl _).trans (List.Perm.of_eq (by simp only [List.append_assoc, List.append_nil, List.nil_append])))
        refine zk_callI (wr := zb_r G (b 2) K) (va_runV (As := [.int (nI 2)]) (rest := []) ⟨hx, hb, hml, hown, hts⟩ (c_X6_refused l G b rf sz ac sp ou (nI 2) _) (cwV 1 hts gX6_meal_X6_refused rfl rfl rfl (by decide +kernel) ⟨Nat.le_of_ble_eq_true rfl, Nat.le_of_ble_eq_true rfl⟩) (zk_preV hE hA0 hS (zk_Papp hP0).1 (zk_Dapp hD0).1 (va_recv hK hP0 (ci := 5) (q0 := 0) rfl rfl)) rfl rfl hl.1 rfl (lv_room (Nat.le_of_ble_eq_true rfl)) dX6_meal_40 ⟨Nat.le_of_ble_eq_true rfl, Nat.le_of_ble_eq_true rfl⟩) hP0 hD0 hS hA (fun r16 u17 H locs q18 hP hD hS => ?_)
        subst q18
        have hP : va_P G.1 vwCl ((zb_6 G b (nI 2) sz ac sp ou) ++ zb_r G (b 2) K) H := zk_Pperm hP (show ((zb_6 G b (nI 2) sz ac sp ou) ++ zb_r G (b 2) K).Perm ((zb_6 G b (nI 2) sz ac sp ou) ++ (zb_r G (b 2) K)) from (show ((zb_6 G b (nI 2) sz ac sp ou) ++ zb_r G (b 2) K).Perm ((zb_6 G b (nI 2) sz ac sp ou) ++ zb_r G (b 2) K) from List.Perm.refl _).trans (List.Perm.of_eq (by simp only [List.append_assoc, List.append_nil, List.nil_append]))).symm
        have hD : va_D A ((zb_6 G b (nI 2) sz ac sp ou) ++ zb_r G (b 2) K) := zk_Dperm hD (show ((zb_6 G b (nI 2) sz ac sp ou) ++ zb_r G (b 2) K).Perm ((zb_6 G b (nI 2) sz ac sp ou) ++ (zb_r G (b 2) K)) from (show ((zb_6 G b (nI 2) sz ac sp ou) ++ zb_r G (b 2) K).Perm ((zb_6 G b (nI 2) sz ac sp ou) ++ zb_r G (b 2) K) from List.Perm.refl _).trans (List.Perm.of_eq (by simp only [List.append_assoc, List.append_nil, List.nil_append]))).symm
        refine zk_top (show (if 0 < (nI 2) then nI 1 else nI 0) = nI 1 by decide) ?_
        refine lv_if_eq (tgt := 48) hx hb dX6_meal_43 (by decide) (fun z => absurd z (by decide)) (fun _ => ?_)
        refine lv_iconst (v := nI 0) hx hb dX6_meal_46 (by decide) ?_
        exact zk_reti (nI 2) hQ hx hb hr hlocks hS hP hD (Nat.le_of_ble_eq_true rfl) (Nat.le_of_ble_eq_true rfl) dX6_meal_47 (Or.inr (Or.inr (Or.inr ⟨h9_3, h16_10, zIn_no h32_14 (by decide), rfl⟩)))
      · have h32_14 := zk_b1 h32_14
        refine lv_iconst (v := nI 0) hx hb dX6_meal_35 (by decide) ?_
        refine lv_goto (tgt := 40) hx hb dX6_meal_36 (by decide) ?_
        have hP0 : va_P G.1 vwCl ((zb_6 G b rf sz ac sp ou) ++ (zb_r G (b 2) K)) H := zk_Pperm hP (show ((zb_6 G b rf sz ac sp ou) ++ zb_r G (b 2) K).Perm ((zb_6 G b rf sz ac sp ou) ++ (zb_r G (b 2) K)) from (show ((zb_6 G b rf sz ac sp ou) ++ zb_r G (b 2) K).Perm ((zb_6 G b rf sz ac sp ou) ++ zb_r G (b 2) K) from List.Perm.refl _).trans (List.Perm.of_eq (by simp only [List.append_assoc, List.append_nil, List.nil_append])))
        have hD0 : va_D A ((zb_6 G b rf sz ac sp ou) ++ (zb_r G (b 2) K)) := zk_Dperm hD (show ((zb_6 G b rf sz ac sp ou) ++ zb_r G (b 2) K).Perm ((zb_6 G b rf sz ac sp ou) ++ (zb_r G (b 2) K)) from (show ((zb_6 G b rf sz ac sp ou) ++ zb_r G (b 2) K).Perm ((zb_6 G b rf sz ac sp ou) ++ zb_r G (b 2) K) from List.Perm.refl _).trans (List.Perm.of_eq (by simp only [List.append_assoc, List.append_nil, List.nil_append])))
        refine zk_callI (wr := zb_r G (b 2) K) (va_runV (As := [.int (nI 0)]) (rest := []) ⟨hx, hb, hml, hown, hts⟩ (c_X6_refused l G b rf sz ac sp ou (nI 0) _) (cwV 1 hts gX6_meal_X6_refused rfl rfl rfl (by decide +kernel) ⟨Nat.le_of_ble_eq_true rfl, Nat.le_of_ble_eq_true rfl⟩) (zk_preV hE hA0 hS (zk_Papp hP0).1 (zk_Dapp hD0).1 (va_recv hK hP0 (ci := 5) (q0 := 0) rfl rfl)) rfl rfl hl.1 rfl (lv_room (Nat.le_of_ble_eq_true rfl)) dX6_meal_40 ⟨Nat.le_of_ble_eq_true rfl, Nat.le_of_ble_eq_true rfl⟩) hP0 hD0 hS hA (fun r19 u20 H locs q21 hP hD hS => ?_)
        subst q21
        have hP : va_P G.1 vwCl ((zb_6 G b (nI 0) sz ac sp ou) ++ zb_r G (b 2) K) H := zk_Pperm hP (show ((zb_6 G b (nI 0) sz ac sp ou) ++ zb_r G (b 2) K).Perm ((zb_6 G b (nI 0) sz ac sp ou) ++ (zb_r G (b 2) K)) from (show ((zb_6 G b (nI 0) sz ac sp ou) ++ zb_r G (b 2) K).Perm ((zb_6 G b (nI 0) sz ac sp ou) ++ zb_r G (b 2) K) from List.Perm.refl _).trans (List.Perm.of_eq (by simp only [List.append_assoc, List.append_nil, List.nil_append]))).symm
        have hD : va_D A ((zb_6 G b (nI 0) sz ac sp ou) ++ zb_r G (b 2) K) := zk_Dperm hD (show ((zb_6 G b (nI 0) sz ac sp ou) ++ zb_r G (b 2) K).Perm ((zb_6 G b (nI 0) sz ac sp ou) ++ (zb_r G (b 2) K)) from (show ((zb_6 G b (nI 0) sz ac sp ou) ++ zb_r G (b 2) K).Perm ((zb_6 G b (nI 0) sz ac sp ou) ++ zb_r G (b 2) K) from List.Perm.refl _).trans (List.Perm.of_eq (by simp only [List.append_assoc, List.append_nil, List.nil_append]))).symm
        refine zk_top (show (if 0 < (nI 0) then nI 1 else nI 0) = nI 0 by decide) ?_
        refine lv_if_eq (tgt := 48) hx hb dX6_meal_43 (by decide) (fun _ => ?_) (fun z => absurd (by decide) z)
        obtain ⟨ck, hck, eck⟩ := sHas_nat hI h9_3
        subst eck
        have nck := nI_clamp (show ck < 2 ^ 31 by omega)
        obtain ⟨dk, hdk, edk⟩ := sDay_nat h16_10
        subst edk
        have ndk := nI_clamp (show dk < 2 ^ 31 by omega)
        refine lv_aload_n hx hb dX6_meal_48 rfl (lv_at hl 0 rfl) ?_
        refine va_get (D := G.1) (ci := 5) (v := .ref (b 2)) (C := RX6) (T := TX6) (N := 11) hx hb hts (fun _ h => List.mem_cons_of_mem _ (List.mem_append_right _ h)) hown hK hP 0 rfl rfl 3 (by decide) w1 (fun _ h9 => h9) rfl dX6_meal_49 ?_
        refine lv_bipush (v := nI 115) hx hb dX6_meal_52 (by decide) ?_
        refine lv_iload_n hx hb dX6_meal_54 rfl (lv_at hl 1 rfl) ?_
        refine lv_iload_n hx hb dX6_meal_55 rfl (lv_at hl 2 rfl) ?_
        have hP0 : va_P G.1 vwCl (([] : va_W) ++ ((zb_6 G b (nI 0) sz ac sp ou) ++ zb_r G (b 2) K)) H := hP
        have hD0 : va_D A (([] : va_W) ++ ((zb_6 G b (nI 0) sz ac sp ou) ++ zb_r G (b 2) K)) := hD
        refine zk_callI (wr := (zb_6 G b (nI 0) sz ac sp ou) ++ zb_r G (b 2) K) (va_runS (As := [.int (nI ck), .int (nI dk)]) (rest := [.int (nI 115), .ref (b 2)]) ⟨hx, hb, hml, hown, hts⟩ (c_X6_at l G ck dk _) (cwS 2 hts gX6_meal_X6_at rfl rfl rfl (by decide +kernel) ⟨Nat.le_of_ble_eq_true rfl, Nat.le_of_ble_eq_true rfl⟩) (zk_preS hE hA0 hS (zk_Papp hP0).1 (zk_Dapp hD0).1) rfl rfl hl.1 rfl (lv_room (Nat.le_of_ble_eq_true rfl)) dX6_meal_56 ⟨Nat.le_of_ble_eq_true rfl, Nat.le_of_ble_eq_true rfl⟩) hP0 hD0 hS hA (fun r22 u23 H locs q24 hP hD hS => ?_)
        subst q24
        have hP : va_P G.1 vwCl ((zb_6 G b (nI 0) sz ac sp ou) ++ zb_r G (b 2) K) H := hP
        have hD : va_D A ((zb_6 G b (nI 0) sz ac sp ou) ++ zb_r G (b 2) K) := hD
        refine zk_iaddN hx hb dX6_meal_59 ?_
        refine zk_ialdN hx hb hK hP 1 0 rfl rfl (k := (115 + (ck * 40 + dk))) (n := 1555) (by omega) (by omega) dX6_meal_60 ?_
        refine zk_top (zrow_9 K (c := ck * 40 + dk) (by omega)) ?_
        refine lv_istore (lv' := [(4, .int (K 9 (ck * 40 + dk))), (0, .ref (b 0)), (1, .int (nI ck)), (2, .int (nI dk)), (3, .int w)]) hx hb dX6_meal_61 hl (by decide) rfl (fun ls hl => ?_)
        refine lv_iload_n hx hb dX6_meal_63 rfl (lv_at hl 4 rfl) ?_
        refine lv_if_ne (tgt := 70) hx hb dX6_meal_64 (by decide) (fun h64_24 => ?_) (fun h64_24 => ?_)
        · refine lv_iload hx hb dX6_meal_70 (lv_at hl 0 rfl) ?_
          refine lv_iconst (v := nI 2) hx hb dX6_meal_72 (by decide) ?_
          refine lv_icmp_ne (tgt := 104) hx hb dX6_meal_73 (by decide) (fun h73_25 => ?_) (fun h73_25 => ?_)
          · refine lv_iload_n hx hb dX6_meal_104 rfl (lv_at hl 4 rfl) ?_
            refine lv_iconst (v := nI 1) hx hb dX6_meal_105 (by decide) ?_
            refine lv_icmp_ne (tgt := 119) hx hb dX6_meal_106 (by decide) (fun h106_26 => ?_) (fun h106_26 => ?_)
            · refine lv_iconst (v := -1) hx hb dX6_meal_119 (by decide) ?_
              exact zk_reti (nI 0) hQ hx hb hr hlocks hS hP hD (Nat.le_of_ble_eq_true rfl) (Nat.le_of_ble_eq_true rfl) dX6_meal_120 (Or.inl ⟨h9_3, h16_10, zIn_of h32_14 (by decide), rfl, by rw [nck, ndk]; unfold mMeal; simp +decide [h64_24, h73_25, h106_26]⟩)
            · refine lv_iload hx hb dX6_meal_109 (lv_at hl 0 rfl) ?_
              refine lv_iconst (v := nI 3) hx hb dX6_meal_111 (by decide) ?_
              refine lv_icmp_ne (tgt := 119) hx hb dX6_meal_112 (by decide) (fun h112_27 => ?_) (fun h112_27 => ?_)
              · refine lv_iconst (v := -1) hx hb dX6_meal_119 (by decide) ?_
                exact zk_reti (nI 0) hQ hx hb hr hlocks hS hP hD (Nat.le_of_ble_eq_true rfl) (Nat.le_of_ble_eq_true rfl) dX6_meal_120 (Or.inl ⟨h9_3, h16_10, zIn_of h32_14 (by decide), rfl, by rw [nck, ndk]; unfold mMeal; simp +decide [h64_24, h73_25, h106_26, h112_27]⟩)
              · refine lv_iconst (v := nI 0) hx hb dX6_meal_115 (by decide) ?_
                refine lv_goto (tgt := 120) hx hb dX6_meal_116 (by decide) ?_
                exact zk_reti (nI 0) hQ hx hb hr hlocks hS hP hD (Nat.le_of_ble_eq_true rfl) (Nat.le_of_ble_eq_true rfl) dX6_meal_120 (Or.inl ⟨h9_3, h16_10, zIn_of h32_14 (by decide), rfl, by rw [nck, ndk]; unfold mMeal; simp +decide [h64_24, h73_25, h106_26, h112_27]⟩)
          · refine lv_aload_n hx hb dX6_meal_76 rfl (lv_at hl 1 rfl) ?_
            refine va_get (D := G.1) (ci := 5) (v := .ref (b 2)) (C := RX6) (T := TX6) (N := 11) hx hb hts (fun _ h => List.mem_cons_of_mem _ (List.mem_append_right _ h)) hown hK hP 0 rfl rfl 3 (by decide) w1 (fun _ h9 => h9) rfl dX6_meal_77 ?_
            refine lv_iload_n hx hb dX6_meal_80 rfl (lv_at hl 4 rfl) ?_
            refine lv_iconst (v := nI 1) hx hb dX6_meal_81 (by decide) ?_
            refine lv_icmp_ne (tgt := 91) hx hb dX6_meal_82 (by decide) (fun h82_28 => ?_) (fun h82_28 => ?_)
            · refine lv_sipush (v := nI 1075) hx hb dX6_meal_91 (by decide) ?_
              refine lv_iload_n hx hb dX6_meal_94 rfl (lv_at hl 2 rfl) ?_
              refine lv_iload_n hx hb dX6_meal_95 rfl (lv_at hl 3 rfl) ?_
              have hP0 : va_P G.1 vwCl (([] : va_W) ++ ((zb_6 G b (nI 0) sz ac sp ou) ++ zb_r G (b 2) K)) H := hP
              have hD0 : va_D A (([] : va_W) ++ ((zb_6 G b (nI 0) sz ac sp ou) ++ zb_r G (b 2) K)) := hD
              refine zk_callI (wr := (zb_6 G b (nI 0) sz ac sp ou) ++ zb_r G (b 2) K) (va_runS (As := [.int (nI ck), .int (nI dk)]) (rest := [.int (nI 1075), .ref (b 2)]) ⟨hx, hb, hml, hown, hts⟩ (c_X6_at l G ck dk _) (cwS 2 hts gX6_meal_X6_at rfl rfl rfl (by decide +kernel) ⟨Nat.le_of_ble_eq_true rfl, Nat.le_of_ble_eq_true rfl⟩) (zk_preS hE hA0 hS (zk_Papp hP0).1 (zk_Dapp hD0).1) rfl rfl hl.1 rfl (lv_room (Nat.le_of_ble_eq_true rfl)) dX6_meal_96 ⟨Nat.le_of_ble_eq_true rfl, Nat.le_of_ble_eq_true rfl⟩) hP0 hD0 hS hA (fun r30 u31 H locs q32 hP hD hS => ?_)
              subst q32
              have hP : va_P G.1 vwCl ((zb_6 G b (nI 0) sz ac sp ou) ++ zb_r G (b 2) K) H := hP
              have hD : va_D A ((zb_6 G b (nI 0) sz ac sp ou) ++ zb_r G (b 2) K) := hD
              refine zk_iaddN hx hb dX6_meal_99 ?_
              refine zk_ialdN hx hb hK hP 1 0 rfl rfl (k := (1075 + (ck * 40 + dk))) (n := 1555) (by omega) (by omega) dX6_meal_100 ?_
              refine zk_top (zrow_11 K (c := ck * 40 + dk) (by omega)) ?_
              refine lv_goto (tgt := 120) hx hb dX6_meal_101 (by decide) ?_
              exact zk_reti (nI 0) hQ hx hb hr hlocks hS hP hD (Nat.le_of_ble_eq_true rfl) (Nat.le_of_ble_eq_true rfl) dX6_meal_120 (Or.inl ⟨h9_3, h16_10, zIn_of h32_14 (by decide), rfl, by rw [nck, ndk]; unfold mMeal; simp +decide [h64_24, h73_25, h82_28]⟩)
            · refine lv_sipush (v := nI 595) hx hb dX6_meal_85 (by decide) ?_
              refine lv_goto (tgt := 94) hx hb dX6_meal_88 (by decide) ?_
              refine lv_iload_n hx hb dX6_meal_94 rfl (lv_at hl 2 rfl) ?_
              refine lv_iload_n hx hb dX6_meal_95 rfl (lv_at hl 3 rfl) ?_
              have hP0 : va_P G.1 vwCl (([] : va_W) ++ ((zb_6 G b (nI 0) sz ac sp ou) ++ zb_r G (b 2) K)) H := hP
              have hD0 : va_D A (([] : va_W) ++ ((zb_6 G b (nI 0) sz ac sp ou) ++ zb_r G (b 2) K)) := hD
              refine zk_callI (wr := (zb_6 G b (nI 0) sz ac sp ou) ++ zb_r G (b 2) K) (va_runS (As := [.int (nI ck), .int (nI dk)]) (rest := [.int (nI 595), .ref (b 2)]) ⟨hx, hb, hml, hown, hts⟩ (c_X6_at l G ck dk _) (cwS 2 hts gX6_meal_X6_at rfl rfl rfl (by decide +kernel) ⟨Nat.le_of_ble_eq_true rfl, Nat.le_of_ble_eq_true rfl⟩) (zk_preS hE hA0 hS (zk_Papp hP0).1 (zk_Dapp hD0).1) rfl rfl hl.1 rfl (lv_room (Nat.le_of_ble_eq_true rfl)) dX6_meal_96 ⟨Nat.le_of_ble_eq_true rfl, Nat.le_of_ble_eq_true rfl⟩) hP0 hD0 hS hA (fun r33 u34 H locs q35 hP hD hS => ?_)
              subst q35
              have hP : va_P G.1 vwCl ((zb_6 G b (nI 0) sz ac sp ou) ++ zb_r G (b 2) K) H := hP
              have hD : va_D A ((zb_6 G b (nI 0) sz ac sp ou) ++ zb_r G (b 2) K) := hD
              refine zk_iaddN hx hb dX6_meal_99 ?_
              refine zk_ialdN hx hb hK hP 1 0 rfl rfl (k := (595 + (ck * 40 + dk))) (n := 1555) (by omega) (by omega) dX6_meal_100 ?_
              refine zk_top (zrow_10 K (c := ck * 40 + dk) (by omega)) ?_
              refine lv_goto (tgt := 120) hx hb dX6_meal_101 (by decide) ?_
              exact zk_reti (nI 0) hQ hx hb hr hlocks hS hP hD (Nat.le_of_ble_eq_true rfl) (Nat.le_of_ble_eq_true rfl) dX6_meal_120 (Or.inl ⟨h9_3, h16_10, zIn_of h32_14 (by decide), rfl, by rw [nck, ndk]; unfold mMeal; simp +decide [h64_24, h73_25, h82_28]⟩)
        · refine lv_iload hx hb dX6_meal_67 (lv_at hl 0 rfl) ?_
          exact zk_reti (nI 0) hQ hx hb hr hlocks hS hP hD (Nat.le_of_ble_eq_true rfl) (Nat.le_of_ble_eq_true rfl) dX6_meal_69 (Or.inl ⟨h9_3, h16_10, zIn_of h32_14 (by decide), rfl, by rw [nck, ndk]; unfold mMeal; simp +decide [h64_24]⟩)
    · have h16_10 := zk_b0 h16_10
      refine lv_iconst (v := nI 1) hx hb dX6_meal_19 (by decide) ?_
      refine lv_goto (tgt := 40) hx hb dX6_meal_20 (by decide) ?_
      have hP0 : va_P G.1 vwCl ((zb_6 G b rf sz ac sp ou) ++ (zb_r G (b 2) K)) H := zk_Pperm hP (show ((zb_6 G b rf sz ac sp ou) ++ zb_r G (b 2) K).Perm ((zb_6 G b rf sz ac sp ou) ++ (zb_r G (b 2) K)) from (show ((zb_6 G b rf sz ac sp ou) ++ zb_r G (b 2) K).Perm ((zb_6 G b rf sz ac sp ou) ++ zb_r G (b 2) K) from List.Perm.refl _).trans (List.Perm.of_eq (by simp only [List.append_assoc, List.append_nil, List.nil_append])))
      have hD0 : va_D A ((zb_6 G b rf sz ac sp ou) ++ (zb_r G (b 2) K)) := zk_Dperm hD (show ((zb_6 G b rf sz ac sp ou) ++ zb_r G (b 2) K).Perm ((zb_6 G b rf sz ac sp ou) ++ (zb_r G (b 2) K)) from (show ((zb_6 G b rf sz ac sp ou) ++ zb_r G (b 2) K).Perm ((zb_6 G b rf sz ac sp ou) ++ zb_r G (b 2) K) from List.Perm.refl _).trans (List.Perm.of_eq (by simp only [List.append_assoc, List.append_nil, List.nil_append])))
      refine zk_callI (wr := zb_r G (b 2) K) (va_runV (As := [.int (nI 1)]) (rest := []) ⟨hx, hb, hml, hown, hts⟩ (c_X6_refused l G b rf sz ac sp ou (nI 1) _) (cwV 1 hts gX6_meal_X6_refused rfl rfl rfl (by decide +kernel) ⟨Nat.le_of_ble_eq_true rfl, Nat.le_of_ble_eq_true rfl⟩) (zk_preV hE hA0 hS (zk_Papp hP0).1 (zk_Dapp hD0).1 (va_recv hK hP0 (ci := 5) (q0 := 0) rfl rfl)) rfl rfl hl.1 rfl (lv_room (Nat.le_of_ble_eq_true rfl)) dX6_meal_40 ⟨Nat.le_of_ble_eq_true rfl, Nat.le_of_ble_eq_true rfl⟩) hP0 hD0 hS hA (fun r36 u37 H locs q38 hP hD hS => ?_)
      subst q38
      have hP : va_P G.1 vwCl ((zb_6 G b (nI 1) sz ac sp ou) ++ zb_r G (b 2) K) H := zk_Pperm hP (show ((zb_6 G b (nI 1) sz ac sp ou) ++ zb_r G (b 2) K).Perm ((zb_6 G b (nI 1) sz ac sp ou) ++ (zb_r G (b 2) K)) from (show ((zb_6 G b (nI 1) sz ac sp ou) ++ zb_r G (b 2) K).Perm ((zb_6 G b (nI 1) sz ac sp ou) ++ zb_r G (b 2) K) from List.Perm.refl _).trans (List.Perm.of_eq (by simp only [List.append_assoc, List.append_nil, List.nil_append]))).symm
      have hD : va_D A ((zb_6 G b (nI 1) sz ac sp ou) ++ zb_r G (b 2) K) := zk_Dperm hD (show ((zb_6 G b (nI 1) sz ac sp ou) ++ zb_r G (b 2) K).Perm ((zb_6 G b (nI 1) sz ac sp ou) ++ (zb_r G (b 2) K)) from (show ((zb_6 G b (nI 1) sz ac sp ou) ++ zb_r G (b 2) K).Perm ((zb_6 G b (nI 1) sz ac sp ou) ++ zb_r G (b 2) K) from List.Perm.refl _).trans (List.Perm.of_eq (by simp only [List.append_assoc, List.append_nil, List.nil_append]))).symm
      refine zk_top (show (if 0 < (nI 1) then nI 1 else nI 0) = nI 1 by decide) ?_
      refine lv_if_eq (tgt := 48) hx hb dX6_meal_43 (by decide) (fun z => absurd z (by decide)) (fun _ => ?_)
      refine lv_iconst (v := nI 0) hx hb dX6_meal_46 (by decide) ?_
      exact zk_reti (nI 1) hQ hx hb hr hlocks hS hP hD (Nat.le_of_ble_eq_true rfl) (Nat.le_of_ble_eq_true rfl) dX6_meal_47 (Or.inr (Or.inr (Or.inl ⟨h9_3, h16_10, rfl⟩)))

abbrev rmX6_setting : Room := { frames := 1, cells := 0, slots := 0, locals := 25 }
set_option maxHeartbeats 4000000 in
set_option maxRecDepth 100000 in
/-- a setting -/
theorem c_X6_setting (l : Launch) (G : zk_G) (b : Nat → Nat) (rf sz ac sp ou : Int32) (K : zL) (n t : Nat) (hI : sInv K n t) (w : Int32) : zk_I (S := Int32) l yX6_setting wsX6_setting rmX6_setting G [.ref (b 0), .int w] ((zb_6 G b rf sz ac sp ou) ++ zb_r G (b 2) K) (fun r u => (zIn w 2 ∧ u = nI 0 ∧ r = K 0 (2 + w.toNatClampNeg)) ∨ (¬ zIn w 2 ∧ u = nI 1)) (fun u => zb_6 G b u sz ac sp ou ++ zb_r G (b 2) K) := by
  refine zk_bodyI (cc := cX6_setting) (maxL := 2) (ret := (some .int)) (by decide) rfl (Nat.le_of_ble_eq_true rfl) ?_
  intro p E0 s m args below meth cd A ls Q hF hQ
  obtain ⟨hx, hb, hml, hr, hts, hown, hlocks, -, hE, hP, hD, hS, hA, hA0, hl⟩ := hF
  have hK := hE.1
  have hl : lv_has ls 2 [(0, .ref (b 0)), (1, .int w)] := hl
  obtain ⟨hn, hn12, ht, ht40, hfam, hpay⟩ := id hI
  have w1 := hts _ (List.mem_of_getElem? (l := wsX6_setting) (i := 1) (a := Cond.fieldLink RX6 13 "MealAccountsModel" "now" "[I") rfl)
  refine lv_aload_n hx hb dX6_setting_0 rfl (lv_at hl 0 rfl) ?_
  refine lv_iload_n hx hb dX6_setting_1 rfl (lv_at hl 1 rfl) ?_
  refine lv_i2l (v := w.toInt64) hx hb dX6_setting_2 rfl ?_
  refine lv_lconst (v := lN 0) hx hb dX6_setting_3 rfl ?_
  refine zk_topL (show lN 0 = (nI 0).toInt64 from (nI_l (by decide)).symm) ?_
  refine lv_lconst (v := lN 1) hx hb dX6_setting_4 rfl ?_
  refine zk_topL (show lN 1 = (nI 1).toInt64 from (nI_l (by decide)).symm) ?_
  have hP0 : va_P G.1 vwCl (([] : va_W) ++ ((zb_6 G b rf sz ac sp ou) ++ zb_r G (b 2) K)) s.heap := hP
  have hD0 : va_D A (([] : va_W) ++ ((zb_6 G b rf sz ac sp ou) ++ zb_r G (b 2) K)) := hD
  refine zk_callI (wr := (zb_6 G b rf sz ac sp ou) ++ zb_r G (b 2) K) (va_runS (As := [.long w.toInt64, .long ((nI 0).toInt64), .long ((nI 1).toInt64)]) (rest := [.ref (b 0)]) ⟨hx, hb, hml, hown, hts⟩ (c_X6_inI l G w (nI 0) (nI 1) _) (cwS 3 hts gX6_setting_X6_in rfl rfl rfl (by decide +kernel) ⟨Nat.le_of_ble_eq_true rfl, Nat.le_of_ble_eq_true rfl⟩) (zk_preS hE hA0 hS (zk_Papp hP0).1 (zk_Dapp hD0).1) rfl rfl hl.1 rfl (lv_room (Nat.le_of_ble_eq_true rfl)) dX6_setting_5 ⟨Nat.le_of_ble_eq_true rfl, Nat.le_of_ble_eq_true rfl⟩) hP0 hD0 hS hA (fun r1 u2 H locs q3 hP hD hS => ?_)
  subst q3
  have hP : va_P G.1 vwCl ((zb_6 G b rf sz ac sp ou) ++ zb_r G (b 2) K) H := hP
  have hD : va_D A ((zb_6 G b rf sz ac sp ou) ++ zb_r G (b 2) K) := hD
  refine lv_if_eq (tgt := 15) hx hb dX6_setting_8 (by decide) (fun h8_3 => ?_) (fun h8_3 => ?_)
  · have h8_3 := zk_b0 h8_3
    refine lv_iconst (v := nI 1) hx hb dX6_setting_15 (by decide) ?_
    have hP0 : va_P G.1 vwCl ((zb_6 G b rf sz ac sp ou) ++ (zb_r G (b 2) K)) H := zk_Pperm hP (show ((zb_6 G b rf sz ac sp ou) ++ zb_r G (b 2) K).Perm ((zb_6 G b rf sz ac sp ou) ++ (zb_r G (b 2) K)) from (show ((zb_6 G b rf sz ac sp ou) ++ zb_r G (b 2) K).Perm ((zb_6 G b rf sz ac sp ou) ++ zb_r G (b 2) K) from List.Perm.refl _).trans (List.Perm.of_eq (by simp only [List.append_assoc, List.append_nil, List.nil_append])))
    have hD0 : va_D A ((zb_6 G b rf sz ac sp ou) ++ (zb_r G (b 2) K)) := zk_Dperm hD (show ((zb_6 G b rf sz ac sp ou) ++ zb_r G (b 2) K).Perm ((zb_6 G b rf sz ac sp ou) ++ (zb_r G (b 2) K)) from (show ((zb_6 G b rf sz ac sp ou) ++ zb_r G (b 2) K).Perm ((zb_6 G b rf sz ac sp ou) ++ zb_r G (b 2) K) from List.Perm.refl _).trans (List.Perm.of_eq (by simp only [List.append_assoc, List.append_nil, List.nil_append])))
    refine zk_callI (wr := zb_r G (b 2) K) (va_runV (As := [.int (nI 1)]) (rest := []) ⟨hx, hb, hml, hown, hts⟩ (c_X6_refused l G b rf sz ac sp ou (nI 1) _) (cwV 1 hts gX6_setting_X6_refused rfl rfl rfl (by decide +kernel) ⟨Nat.le_of_ble_eq_true rfl, Nat.le_of_ble_eq_true rfl⟩) (zk_preV hE hA0 hS (zk_Papp hP0).1 (zk_Dapp hD0).1 (va_recv hK hP0 (ci := 5) (q0 := 0) rfl rfl)) rfl rfl hl.1 rfl (lv_room (Nat.le_of_ble_eq_true rfl)) dX6_setting_16 ⟨Nat.le_of_ble_eq_true rfl, Nat.le_of_ble_eq_true rfl⟩) hP0 hD0 hS hA (fun r5 u6 H locs q7 hP hD hS => ?_)
    subst q7
    have hP : va_P G.1 vwCl ((zb_6 G b (nI 1) sz ac sp ou) ++ zb_r G (b 2) K) H := zk_Pperm hP (show ((zb_6 G b (nI 1) sz ac sp ou) ++ zb_r G (b 2) K).Perm ((zb_6 G b (nI 1) sz ac sp ou) ++ (zb_r G (b 2) K)) from (show ((zb_6 G b (nI 1) sz ac sp ou) ++ zb_r G (b 2) K).Perm ((zb_6 G b (nI 1) sz ac sp ou) ++ zb_r G (b 2) K) from List.Perm.refl _).trans (List.Perm.of_eq (by simp only [List.append_assoc, List.append_nil, List.nil_append]))).symm
    have hD : va_D A ((zb_6 G b (nI 1) sz ac sp ou) ++ zb_r G (b 2) K) := zk_Dperm hD (show ((zb_6 G b (nI 1) sz ac sp ou) ++ zb_r G (b 2) K).Perm ((zb_6 G b (nI 1) sz ac sp ou) ++ (zb_r G (b 2) K)) from (show ((zb_6 G b (nI 1) sz ac sp ou) ++ zb_r G (b 2) K).Perm ((zb_6 G b (nI 1) sz ac sp ou) ++ zb_r G (b 2) K) from List.Perm.refl _).trans (List.Perm.of_eq (by simp only [List.append_assoc, List.append_nil, List.nil_append]))).symm
    refine zk_top (show (if 0 < (nI 1) then nI 1 else nI 0) = nI 1 by decide) ?_
    refine lv_if_eq (tgt := 24) hx hb dX6_setting_19 (by decide) (fun z => absurd z (by decide)) (fun _ => ?_)
    refine lv_iconst (v := nI 0) hx hb dX6_setting_22 (by decide) ?_
    exact zk_reti (nI 1) hQ hx hb hr hlocks hS hP hD (Nat.le_of_ble_eq_true rfl) (Nat.le_of_ble_eq_true rfl) dX6_setting_23 (Or.inr ⟨zIn_no h8_3 (by decide), rfl⟩)
  · have h8_3 := zk_b1 h8_3
    refine lv_iconst (v := nI 0) hx hb dX6_setting_11 (by decide) ?_
    refine lv_goto (tgt := 16) hx hb dX6_setting_12 (by decide) ?_
    have hP0 : va_P G.1 vwCl ((zb_6 G b rf sz ac sp ou) ++ (zb_r G (b 2) K)) H := zk_Pperm hP (show ((zb_6 G b rf sz ac sp ou) ++ zb_r G (b 2) K).Perm ((zb_6 G b rf sz ac sp ou) ++ (zb_r G (b 2) K)) from (show ((zb_6 G b rf sz ac sp ou) ++ zb_r G (b 2) K).Perm ((zb_6 G b rf sz ac sp ou) ++ zb_r G (b 2) K) from List.Perm.refl _).trans (List.Perm.of_eq (by simp only [List.append_assoc, List.append_nil, List.nil_append])))
    have hD0 : va_D A ((zb_6 G b rf sz ac sp ou) ++ (zb_r G (b 2) K)) := zk_Dperm hD (show ((zb_6 G b rf sz ac sp ou) ++ zb_r G (b 2) K).Perm ((zb_6 G b rf sz ac sp ou) ++ (zb_r G (b 2) K)) from (show ((zb_6 G b rf sz ac sp ou) ++ zb_r G (b 2) K).Perm ((zb_6 G b rf sz ac sp ou) ++ zb_r G (b 2) K) from List.Perm.refl _).trans (List.Perm.of_eq (by simp only [List.append_assoc, List.append_nil, List.nil_append])))
    refine zk_callI (wr := zb_r G (b 2) K) (va_runV (As := [.int (nI 0)]) (rest := []) ⟨hx, hb, hml, hown, hts⟩ (c_X6_refused l G b rf sz ac sp ou (nI 0) _) (cwV 1 hts gX6_setting_X6_refused rfl rfl rfl (by decide +kernel) ⟨Nat.le_of_ble_eq_true rfl, Nat.le_of_ble_eq_true rfl⟩) (zk_preV hE hA0 hS (zk_Papp hP0).1 (zk_Dapp hD0).1 (va_recv hK hP0 (ci := 5) (q0 := 0) rfl rfl)) rfl rfl hl.1 rfl (lv_room (Nat.le_of_ble_eq_true rfl)) dX6_setting_16 ⟨Nat.le_of_ble_eq_true rfl, Nat.le_of_ble_eq_true rfl⟩) hP0 hD0 hS hA (fun r8 u9 H locs q10 hP hD hS => ?_)
    subst q10
    have hP : va_P G.1 vwCl ((zb_6 G b (nI 0) sz ac sp ou) ++ zb_r G (b 2) K) H := zk_Pperm hP (show ((zb_6 G b (nI 0) sz ac sp ou) ++ zb_r G (b 2) K).Perm ((zb_6 G b (nI 0) sz ac sp ou) ++ (zb_r G (b 2) K)) from (show ((zb_6 G b (nI 0) sz ac sp ou) ++ zb_r G (b 2) K).Perm ((zb_6 G b (nI 0) sz ac sp ou) ++ zb_r G (b 2) K) from List.Perm.refl _).trans (List.Perm.of_eq (by simp only [List.append_assoc, List.append_nil, List.nil_append]))).symm
    have hD : va_D A ((zb_6 G b (nI 0) sz ac sp ou) ++ zb_r G (b 2) K) := zk_Dperm hD (show ((zb_6 G b (nI 0) sz ac sp ou) ++ zb_r G (b 2) K).Perm ((zb_6 G b (nI 0) sz ac sp ou) ++ (zb_r G (b 2) K)) from (show ((zb_6 G b (nI 0) sz ac sp ou) ++ zb_r G (b 2) K).Perm ((zb_6 G b (nI 0) sz ac sp ou) ++ zb_r G (b 2) K) from List.Perm.refl _).trans (List.Perm.of_eq (by simp only [List.append_assoc, List.append_nil, List.nil_append]))).symm
    refine zk_top (show (if 0 < (nI 0) then nI 1 else nI 0) = nI 0 by decide) ?_
    refine lv_if_eq (tgt := 24) hx hb dX6_setting_19 (by decide) (fun _ => ?_) (fun z => absurd (by decide) z)
    obtain ⟨j, hj, ej⟩ := zIn_of h8_3 (by decide)
    have nj := nI_clamp (show j < 2 ^ 31 by omega)
    have hl : lv_has ls 2 [(0, .ref (b 0)), (1, .int (nI j))] := by rw [ej] at hl; exact hl
    refine lv_aload_n hx hb dX6_setting_24 rfl (lv_at hl 0 rfl) ?_
    refine va_get (D := G.1) (ci := 5) (v := .ref (b 2)) (C := RX6) (T := TX6) (N := 11) hx hb hts (fun _ h => List.mem_cons_of_mem _ (List.mem_append_right _ h)) hown hK hP 0 rfl rfl 3 (by decide) w1 (fun _ h9 => h9) rfl dX6_setting_25 ?_
    refine lv_iconst (v := nI 2) hx hb dX6_setting_28 (by decide) ?_
    refine lv_iload_n hx hb dX6_setting_29 rfl (lv_at hl 1 rfl) ?_
    refine zk_iaddN hx hb dX6_setting_30 ?_
    refine zk_ialdN hx hb hK hP 1 0 rfl rfl (k := (2 + j)) (n := 1555) (by omega) (by omega) dX6_setting_31 ?_
    refine zk_top (zrow_l K (c := 2 + j) (by omega)) ?_
    exact zk_reti (nI 0) hQ hx hb hr hlocks hS hP hD (Nat.le_of_ble_eq_true rfl) (Nat.le_of_ble_eq_true rfl) dX6_setting_32 (Or.inl ⟨zIn_of h8_3 (by decide), rfl, by rw [ej, nj]⟩)
