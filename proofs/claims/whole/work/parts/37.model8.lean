abbrev rmX6_command : Room := { frames := 4, cells := 0, slots := 0, locals := 96 }
set_option maxHeartbeats 4000000 in
set_option maxRecDepth 100000 in
/-- a command of six digits -/
theorem c_X6_command (l : Launch) (G : zk_G) (b : Nat → Nat) (rf sz ac sp ou : Int32) (K : zL) (n t : Nat) (hI : sInv K n t) (hp0 : ¬ K 0 2 < nI 1) (how fv : Nat) (hh : how < 10) (hf : fv < 100000) : zk_I (S := zL) l yX6_command wsX6_command rmX6_command G [.ref (b 0), .int (nI how), .int (nI fv)] ((zb_6 G b rf sz ac sp ou) ++ zb_r G (b 3) K) (fun r u => r = (kCmd K n t how fv).1 ∧ u = (kCmd K n t how fv).2) (fun u => zb_6 G b rf sz ac sp ou ++ zb_r G (b 3) u) := by
  refine zk_bodyI (cc := cX6_command) (maxL := 6) (ret := (some .boolean)) (by decide) rfl (Nat.le_of_ble_eq_true rfl) ?_
  intro p E0 s m args below meth cd A ls Q hF hQ
  obtain ⟨hx, hb, hml, hr, hts, hown, hlocks, -, hE, hP, hD, hS, hA, hA0, hl⟩ := hF
  have hK := hE.1
  have hl : lv_has ls 6 [(0, .ref (b 0)), (1, .int (nI how)), (2, .int (nI fv))] := hl
  obtain ⟨hn, hn12, ht, ht40, hfam, hpay⟩ := id hI
  have w1 := hts _ (List.mem_of_getElem? (l := wsX6_command) (i := 1) (a := Cond.fieldLink RX6 16 "MealAccountsModel" "trial" "[I") rfl)
  refine lv_iload_n hx hb dX6_command_0 rfl (lv_at hl 2 rfl) ?_
  refine lv_sipush (v := nI 1000) hx hb dX6_command_1 (by decide) ?_
  refine zk_idivN hx hb dX6_command_4 (by omega) (by omega) (by omega) ?_
  refine lv_istore_n (lv' := [(3, .int (nI (fv / 1000))), (0, .ref (b 0)), (1, .int (nI how)), (2, .int (nI fv))]) hx hb dX6_command_5 rfl hl (by decide) rfl (fun ls hl => ?_)
  refine lv_iload_n hx hb dX6_command_6 rfl (lv_at hl 3 rfl) ?_
  refine lv_bipush (v := nI 10) hx hb dX6_command_7 (by decide) ?_
  refine zk_idivN hx hb dX6_command_9 (by omega) (by omega) (by omega) ?_
  refine lv_bipush (v := nI 100) hx hb dX6_command_10 (by decide) ?_
  refine zk_iremN hx hb dX6_command_12 (by omega) (by omega) (by omega) ?_
  refine lv_istore (lv' := [(4, .int (nI ((fv / 10) % 100))), (3, .int (nI (fv / 1000))), (0, .ref (b 0)), (1, .int (nI how)), (2, .int (nI fv))]) hx hb dX6_command_13 hl (by decide) rfl (fun ls hl => ?_)
  refine lv_iload_n hx hb dX6_command_15 rfl (lv_at hl 4 rfl) ?_
  refine lv_bipush (v := nI 10) hx hb dX6_command_16 (by decide) ?_
  refine zk_iremN hx hb dX6_command_18 (by omega) (by omega) (by omega) ?_
  refine lv_istore (lv' := [(5, .int (nI (fv % 10))), (4, .int (nI ((fv / 10) % 100))), (3, .int (nI (fv / 1000))), (0, .ref (b 0)), (1, .int (nI how)), (2, .int (nI fv))]) hx hb dX6_command_19 hl (by decide) rfl (fun ls hl => ?_)
  refine lv_iload_n hx hb dX6_command_21 rfl (lv_at hl 4 rfl) ?_
  rcases Decidable.em (nI how = nI 1) with h1_1 | h1_n1
  · refine lv_tableIn (tgt := 72) hx hb dX6_command_22 (by rw [h1_1]; decide) (by rw [h1_1]; decide) (by rw [h1_1]; rfl) (by decide) ?_
    refine lv_iload hx hb dX6_command_72 (lv_at hl 0 rfl) ?_
    refine lv_iconst (v := nI 2) hx hb dX6_command_74 (by decide) ?_
    refine lv_icmp_ge (tgt := 119) hx hb dX6_command_75 (by decide) (fun h75_1 => ?_) (fun h75_1 => ?_)
    · have h75_1 := zk_le (by omega) (by omega) h75_1
      refine lv_iconst (v := nI 0) hx hb dX6_command_119 (by decide) ?_
      exact zk_retz K hQ hx hb hr hlocks hS hP hD (Nat.le_of_ble_eq_true rfl) (Nat.le_of_ble_eq_true rfl) dX6_command_120 (rfl) (by rw [kCmd_1 (zk_eq (by omega) (by omega) h1_1), if_neg (fun z => by omega)]; exact ⟨rfl, rfl⟩)
    · have h75_1 := zk_nle (by omega) (by omega) h75_1
      refine lv_aload_n hx hb dX6_command_78 rfl (lv_at hl 3 rfl) ?_
      refine va_get (D := G.1) (ci := 5) (v := .ref (b 3)) (C := RX6) (T := TX6) (N := 11) hx hb hts (fun _ h => List.mem_cons_of_mem _ (List.mem_append_right _ h)) hown hK hP 0 rfl rfl 4 (by decide) w1 (fun _ h9 => h9) rfl dX6_command_79 ?_
      refine lv_iload_n hx hb dX6_command_82 rfl (lv_at hl 2 rfl) ?_
      refine lv_iload hx hb dX6_command_83 (lv_at hl 1 rfl) ?_
      have hP0 : va_P G.1 vwCl ((zb_r G (b 3) K) ++ (zb_6 G b rf sz ac sp ou)) s.heap := zk_Pperm hP (show ((zb_6 G b rf sz ac sp ou) ++ zb_r G (b 3) K).Perm ((zb_r G (b 3) K) ++ (zb_6 G b rf sz ac sp ou)) from (show ((zb_6 G b rf sz ac sp ou) ++ zb_r G (b 3) K).Perm ((zb_r G (b 3) K) ++ zb_6 G b rf sz ac sp ou) from List.perm_append_comm).trans (List.Perm.of_eq (by simp only [List.append_assoc, List.append_nil, List.nil_append])))
      have hD0 : va_D A ((zb_r G (b 3) K) ++ (zb_6 G b rf sz ac sp ou)) := zk_Dperm hD (show ((zb_6 G b rf sz ac sp ou) ++ zb_r G (b 3) K).Perm ((zb_r G (b 3) K) ++ (zb_6 G b rf sz ac sp ou)) from (show ((zb_6 G b rf sz ac sp ou) ++ zb_r G (b 3) K).Perm ((zb_r G (b 3) K) ++ zb_6 G b rf sz ac sp ou) from List.perm_append_comm).trans (List.Perm.of_eq (by simp only [List.append_assoc, List.append_nil, List.nil_append])))
      refine zk_callI (wr := zb_6 G b rf sz ac sp ou) (va_runS (As := [.ref (b 3), .int (nI (fv / 1000)), .int (nI ((fv / 10) % 100))]) (rest := []) ⟨hx, hb, hml, hown, hts⟩ (c_X6_whyNotOrder l G (b 3) K n t hI (nI (fv / 1000)) (nI ((fv / 10) % 100)) _) (cwS 3 hts gX6_command_X6_whyNotOrder rfl rfl rfl (by decide +kernel) ⟨Nat.le_of_ble_eq_true rfl, Nat.le_of_ble_eq_true rfl⟩) (zk_preS hE hA0 hS (zk_Papp hP0).1 (zk_Dapp hD0).1) rfl rfl hl.1 rfl (lv_room (Nat.le_of_ble_eq_true rfl)) dX6_command_85 ⟨Nat.le_of_ble_eq_true rfl, Nat.le_of_ble_eq_true rfl⟩) hP0 hD0 hS hA (fun r3 u4 H locs q5 hP hD hS => ?_)
      subst q5
      have hP : va_P G.1 vwCl ((zb_6 G b rf sz ac sp ou) ++ zb_r G (b 3) K) H := zk_Pperm hP (show ((zb_6 G b rf sz ac sp ou) ++ zb_r G (b 3) K).Perm ((zb_r G (b 3) K) ++ (zb_6 G b rf sz ac sp ou)) from (show ((zb_6 G b rf sz ac sp ou) ++ zb_r G (b 3) K).Perm ((zb_r G (b 3) K) ++ zb_6 G b rf sz ac sp ou) from List.perm_append_comm).trans (List.Perm.of_eq (by simp only [List.append_assoc, List.append_nil, List.nil_append]))).symm
      have hD : va_D A ((zb_6 G b rf sz ac sp ou) ++ zb_r G (b 3) K) := zk_Dperm hD (show ((zb_6 G b rf sz ac sp ou) ++ zb_r G (b 3) K).Perm ((zb_r G (b 3) K) ++ (zb_6 G b rf sz ac sp ou)) from (show ((zb_6 G b rf sz ac sp ou) ++ zb_r G (b 3) K).Perm ((zb_r G (b 3) K) ++ zb_6 G b rf sz ac sp ou) from List.perm_append_comm).trans (List.Perm.of_eq (by simp only [List.append_assoc, List.append_nil, List.nil_append]))).symm
      refine lv_if_ne (tgt := 119) hx hb dX6_command_88 (by decide) (fun h88_5 => ?_) (fun h88_5 => ?_)
      · refine lv_iconst (v := nI 0) hx hb dX6_command_119 (by decide) ?_
        exact zk_retz K hQ hx hb hr hlocks hS hP hD (Nat.le_of_ble_eq_true rfl) (Nat.le_of_ble_eq_true rfl) dX6_command_120 (rfl) (by rw [kCmd_1 (zk_eq (by omega) (by omega) h1_1), if_neg (fun z => h88_5 z.2)]; exact ⟨rfl, rfl⟩)
      · have hz := kwOrd_0 h88_5
        have hc1 := sHas_lt hI (by omega) hz.1
        have hd1 := sDay_lt (by omega) hz.2.1
        refine lv_aload_n hx hb dX6_command_91 rfl (lv_at hl 3 rfl) ?_
        refine va_get (D := G.1) (ci := 5) (v := .ref (b 3)) (C := RX6) (T := TX6) (N := 11) hx hb hts (fun _ h => List.mem_cons_of_mem _ (List.mem_append_right _ h)) hown hK hP 0 rfl rfl 4 (by decide) w1 (fun _ h9 => h9) rfl dX6_command_92 ?_
        refine lv_iload_n hx hb dX6_command_95 rfl (lv_at hl 2 rfl) ?_
        refine lv_iload hx hb dX6_command_96 (lv_at hl 1 rfl) ?_
        refine lv_iload hx hb dX6_command_98 (lv_at hl 0 rfl) ?_
        refine lv_iconst (v := nI 1) hx hb dX6_command_100 (by decide) ?_
        refine lv_icmp_ne (tgt := 108) hx hb dX6_command_101 (by decide) (fun h101_6 => ?_) (fun h101_6 => ?_)
        · have h101_6 := zk_ne (by omega) (by omega) h101_6
          refine lv_iconst (v := nI 0) hx hb dX6_command_108 (by decide) ?_
          have hP0 : va_P G.1 vwCl ((zb_r G (b 3) K) ++ (zb_6 G b rf sz ac sp ou)) H := zk_Pperm hP (show ((zb_6 G b rf sz ac sp ou) ++ zb_r G (b 3) K).Perm ((zb_r G (b 3) K) ++ (zb_6 G b rf sz ac sp ou)) from (show ((zb_6 G b rf sz ac sp ou) ++ zb_r G (b 3) K).Perm ((zb_r G (b 3) K) ++ zb_6 G b rf sz ac sp ou) from List.perm_append_comm).trans (List.Perm.of_eq (by simp only [List.append_assoc, List.append_nil, List.nil_append])))
          have hD0 : va_D A ((zb_r G (b 3) K) ++ (zb_6 G b rf sz ac sp ou)) := zk_Dperm hD (show ((zb_6 G b rf sz ac sp ou) ++ zb_r G (b 3) K).Perm ((zb_r G (b 3) K) ++ (zb_6 G b rf sz ac sp ou)) from (show ((zb_6 G b rf sz ac sp ou) ++ zb_r G (b 3) K).Perm ((zb_r G (b 3) K) ++ zb_6 G b rf sz ac sp ou) from List.perm_append_comm).trans (List.Perm.of_eq (by simp only [List.append_assoc, List.append_nil, List.nil_append])))
          refine zk_callI (wr := zb_6 G b rf sz ac sp ou) (va_runS (As := [.ref (b 3), .int (nI (fv / 1000)), .int (nI ((fv / 10) % 100)), .int (nI 0)]) (rest := []) ⟨hx, hb, hml, hown, hts⟩ (c_X6_orderOn l G (b 3) K n t hI (fv / 1000) ((fv / 10) % 100) (nI 0) (by omega) (by omega) _) (cwS 4 hts gX6_command_X6_orderOn rfl rfl rfl (by decide +kernel) ⟨Nat.le_of_ble_eq_true rfl, Nat.le_of_ble_eq_true rfl⟩) (zk_preS hE hA0 hS (zk_Papp hP0).1 (zk_Dapp hD0).1) rfl rfl hl.1 rfl (lv_room (Nat.le_of_ble_eq_true rfl)) dX6_command_109 ⟨Nat.le_of_ble_eq_true rfl, Nat.le_of_ble_eq_true rfl⟩) hP0 hD0 hS hA (fun r8 u9 H locs q10 hP hD hS => ?_)
          obtain ⟨er8, eL11⟩ := q10
          have hI12 : sInv u9 n t := by rw [eL11]; exact sInv_ord (nI 0) hI
          have hP : va_P G.1 vwCl ((zb_6 G b rf sz ac sp ou) ++ zb_r G (b 3) u9) H := zk_Pperm hP (show ((zb_6 G b rf sz ac sp ou) ++ zb_r G (b 3) u9).Perm ((zb_r G (b 3) u9) ++ (zb_6 G b rf sz ac sp ou)) from (show ((zb_6 G b rf sz ac sp ou) ++ zb_r G (b 3) u9).Perm ((zb_r G (b 3) u9) ++ zb_6 G b rf sz ac sp ou) from List.perm_append_comm).trans (List.Perm.of_eq (by simp only [List.append_assoc, List.append_nil, List.nil_append]))).symm
          have hD : va_D A ((zb_6 G b rf sz ac sp ou) ++ zb_r G (b 3) u9) := zk_Dperm hD (show ((zb_6 G b rf sz ac sp ou) ++ zb_r G (b 3) u9).Perm ((zb_r G (b 3) u9) ++ (zb_6 G b rf sz ac sp ou)) from (show ((zb_6 G b rf sz ac sp ou) ++ zb_r G (b 3) u9).Perm ((zb_r G (b 3) u9) ++ zb_6 G b rf sz ac sp ou) from List.perm_append_comm).trans (List.Perm.of_eq (by simp only [List.append_assoc, List.append_nil, List.nil_append]))).symm
          refine lv_if_lt (tgt := 119) hx hb dX6_command_112 (by decide) (fun h112_12 => ?_) (fun h112_12 => ?_)
          · exact absurd (by rw [← er8]; exact h112_12) (kCnt_nn _ hn12 (-1) (nI (fv / 10 % 100)) (nI 1))
          · refine lv_iconst (v := nI 1) hx hb dX6_command_115 (by decide) ?_
            refine lv_goto (tgt := 120) hx hb dX6_command_116 (by decide) ?_
            exact zk_retz u9 hQ hx hb hr hlocks hS hP hD (Nat.le_of_ble_eq_true rfl) (Nat.le_of_ble_eq_true rfl) dX6_command_120 (rfl) (by rw [kCmd_1 (zk_eq (by omega) (by omega) h1_1), if_pos (show fv % 10 < 2 ∧ _ from ⟨by omega, h88_5⟩), if_neg (show ¬ fv % 10 = 1 by omega)]; exact ⟨rfl, eL11⟩)
        · have h101_6 := zk_eq (by omega) (by omega) h101_6
          refine lv_iconst (v := nI 1) hx hb dX6_command_104 (by decide) ?_
          refine lv_goto (tgt := 109) hx hb dX6_command_105 (by decide) ?_
          have hP0 : va_P G.1 vwCl ((zb_r G (b 3) K) ++ (zb_6 G b rf sz ac sp ou)) H := zk_Pperm hP (show ((zb_6 G b rf sz ac sp ou) ++ zb_r G (b 3) K).Perm ((zb_r G (b 3) K) ++ (zb_6 G b rf sz ac sp ou)) from (show ((zb_6 G b rf sz ac sp ou) ++ zb_r G (b 3) K).Perm ((zb_r G (b 3) K) ++ zb_6 G b rf sz ac sp ou) from List.perm_append_comm).trans (List.Perm.of_eq (by simp only [List.append_assoc, List.append_nil, List.nil_append])))
          have hD0 : va_D A ((zb_r G (b 3) K) ++ (zb_6 G b rf sz ac sp ou)) := zk_Dperm hD (show ((zb_6 G b rf sz ac sp ou) ++ zb_r G (b 3) K).Perm ((zb_r G (b 3) K) ++ (zb_6 G b rf sz ac sp ou)) from (show ((zb_6 G b rf sz ac sp ou) ++ zb_r G (b 3) K).Perm ((zb_r G (b 3) K) ++ zb_6 G b rf sz ac sp ou) from List.perm_append_comm).trans (List.Perm.of_eq (by simp only [List.append_assoc, List.append_nil, List.nil_append])))
          refine zk_callI (wr := zb_6 G b rf sz ac sp ou) (va_runS (As := [.ref (b 3), .int (nI (fv / 1000)), .int (nI ((fv / 10) % 100)), .int (nI 1)]) (rest := []) ⟨hx, hb, hml, hown, hts⟩ (c_X6_orderOn l G (b 3) K n t hI (fv / 1000) ((fv / 10) % 100) (nI 1) (by omega) (by omega) _) (cwS 4 hts gX6_command_X6_orderOn rfl rfl rfl (by decide +kernel) ⟨Nat.le_of_ble_eq_true rfl, Nat.le_of_ble_eq_true rfl⟩) (zk_preS hE hA0 hS (zk_Papp hP0).1 (zk_Dapp hD0).1) rfl rfl hl.1 rfl (lv_room (Nat.le_of_ble_eq_true rfl)) dX6_command_109 ⟨Nat.le_of_ble_eq_true rfl, Nat.le_of_ble_eq_true rfl⟩) hP0 hD0 hS hA (fun r14 u15 H locs q16 hP hD hS => ?_)
          obtain ⟨er14, eL17⟩ := q16
          have hI18 : sInv u15 n t := by rw [eL17]; exact sInv_ord (nI 1) hI
          have hP : va_P G.1 vwCl ((zb_6 G b rf sz ac sp ou) ++ zb_r G (b 3) u15) H := zk_Pperm hP (show ((zb_6 G b rf sz ac sp ou) ++ zb_r G (b 3) u15).Perm ((zb_r G (b 3) u15) ++ (zb_6 G b rf sz ac sp ou)) from (show ((zb_6 G b rf sz ac sp ou) ++ zb_r G (b 3) u15).Perm ((zb_r G (b 3) u15) ++ zb_6 G b rf sz ac sp ou) from List.perm_append_comm).trans (List.Perm.of_eq (by simp only [List.append_assoc, List.append_nil, List.nil_append]))).symm
          have hD : va_D A ((zb_6 G b rf sz ac sp ou) ++ zb_r G (b 3) u15) := zk_Dperm hD (show ((zb_6 G b rf sz ac sp ou) ++ zb_r G (b 3) u15).Perm ((zb_r G (b 3) u15) ++ (zb_6 G b rf sz ac sp ou)) from (show ((zb_6 G b rf sz ac sp ou) ++ zb_r G (b 3) u15).Perm ((zb_r G (b 3) u15) ++ zb_6 G b rf sz ac sp ou) from List.perm_append_comm).trans (List.Perm.of_eq (by simp only [List.append_assoc, List.append_nil, List.nil_append]))).symm
          refine lv_if_lt (tgt := 119) hx hb dX6_command_112 (by decide) (fun h112_18 => ?_) (fun h112_18 => ?_)
          · exact absurd (by rw [← er14]; exact h112_18) (kCnt_nn _ hn12 (-1) (nI (fv / 10 % 100)) (nI 1))
          · refine lv_iconst (v := nI 1) hx hb dX6_command_115 (by decide) ?_
            refine lv_goto (tgt := 120) hx hb dX6_command_116 (by decide) ?_
            exact zk_retz u15 hQ hx hb hr hlocks hS hP hD (Nat.le_of_ble_eq_true rfl) (Nat.le_of_ble_eq_true rfl) dX6_command_120 (rfl) (by rw [kCmd_1 (zk_eq (by omega) (by omega) h1_1), if_pos (show fv % 10 < 2 ∧ _ from ⟨by omega, h88_5⟩), if_pos (show fv % 10 = 1 by omega)]; exact ⟨rfl, eL17⟩)
  rcases Decidable.em (nI how = nI 2) with h1_2 | h1_n2
  · refine lv_tableIn (tgt := 121) hx hb dX6_command_22 (by rw [h1_2]; decide) (by rw [h1_2]; decide) (by rw [h1_2]; rfl) (by decide) ?_
    refine lv_aload_n hx hb dX6_command_121 rfl (lv_at hl 3 rfl) ?_
    refine va_get (D := G.1) (ci := 5) (v := .ref (b 3)) (C := RX6) (T := TX6) (N := 11) hx hb hts (fun _ h => List.mem_cons_of_mem _ (List.mem_append_right _ h)) hown hK hP 0 rfl rfl 4 (by decide) w1 (fun _ h9 => h9) rfl dX6_command_122 ?_
    refine lv_iload_n hx hb dX6_command_125 rfl (lv_at hl 2 rfl) ?_
    refine lv_iload_n hx hb dX6_command_126 rfl (lv_at hl 5 rfl) ?_
    refine lv_sipush (v := nI 1000) hx hb dX6_command_127 (by decide) ?_
    refine zk_iremN hx hb dX6_command_130 (by omega) (by omega) (by omega) ?_
    have hP0 : va_P G.1 vwCl ((zb_r G (b 3) K) ++ (zb_6 G b rf sz ac sp ou)) s.heap := zk_Pperm hP (show ((zb_6 G b rf sz ac sp ou) ++ zb_r G (b 3) K).Perm ((zb_r G (b 3) K) ++ (zb_6 G b rf sz ac sp ou)) from (show ((zb_6 G b rf sz ac sp ou) ++ zb_r G (b 3) K).Perm ((zb_r G (b 3) K) ++ zb_6 G b rf sz ac sp ou) from List.perm_append_comm).trans (List.Perm.of_eq (by simp only [List.append_assoc, List.append_nil, List.nil_append])))
    have hD0 : va_D A ((zb_r G (b 3) K) ++ (zb_6 G b rf sz ac sp ou)) := zk_Dperm hD (show ((zb_6 G b rf sz ac sp ou) ++ zb_r G (b 3) K).Perm ((zb_r G (b 3) K) ++ (zb_6 G b rf sz ac sp ou)) from (show ((zb_6 G b rf sz ac sp ou) ++ zb_r G (b 3) K).Perm ((zb_r G (b 3) K) ++ zb_6 G b rf sz ac sp ou) from List.perm_append_comm).trans (List.Perm.of_eq (by simp only [List.append_assoc, List.append_nil, List.nil_append])))
    refine zk_callI (wr := zb_6 G b rf sz ac sp ou) (va_runS (As := [.ref (b 3), .int (nI (fv / 1000)), .int (nI (fv % 1000))]) (rest := []) ⟨hx, hb, hml, hown, hts⟩ (c_X6_whyNotPay l G (b 3) K n t hI (nI (fv / 1000)) (nI (fv % 1000)) _) (cwS 3 hts gX6_command_X6_whyNotPay rfl rfl rfl (by decide +kernel) ⟨Nat.le_of_ble_eq_true rfl, Nat.le_of_ble_eq_true rfl⟩) (zk_preS hE hA0 hS (zk_Papp hP0).1 (zk_Dapp hD0).1) rfl rfl hl.1 rfl (lv_room (Nat.le_of_ble_eq_true rfl)) dX6_command_131 ⟨Nat.le_of_ble_eq_true rfl, Nat.le_of_ble_eq_true rfl⟩) hP0 hD0 hS hA (fun r20 u21 H locs q22 hP hD hS => ?_)
    subst q22
    have hP : va_P G.1 vwCl ((zb_6 G b rf sz ac sp ou) ++ zb_r G (b 3) K) H := zk_Pperm hP (show ((zb_6 G b rf sz ac sp ou) ++ zb_r G (b 3) K).Perm ((zb_r G (b 3) K) ++ (zb_6 G b rf sz ac sp ou)) from (show ((zb_6 G b rf sz ac sp ou) ++ zb_r G (b 3) K).Perm ((zb_r G (b 3) K) ++ zb_6 G b rf sz ac sp ou) from List.perm_append_comm).trans (List.Perm.of_eq (by simp only [List.append_assoc, List.append_nil, List.nil_append]))).symm
    have hD : va_D A ((zb_6 G b rf sz ac sp ou) ++ zb_r G (b 3) K) := zk_Dperm hD (show ((zb_6 G b rf sz ac sp ou) ++ zb_r G (b 3) K).Perm ((zb_r G (b 3) K) ++ (zb_6 G b rf sz ac sp ou)) from (show ((zb_6 G b rf sz ac sp ou) ++ zb_r G (b 3) K).Perm ((zb_r G (b 3) K) ++ zb_6 G b rf sz ac sp ou) from List.perm_append_comm).trans (List.Perm.of_eq (by simp only [List.append_assoc, List.append_nil, List.nil_append]))).symm
    refine lv_if_eq (tgt := 139) hx hb dX6_command_134 (by decide) (fun h134_22 => ?_) (fun h134_22 => ?_)
    · have hc1 := sHas_lt hI (by omega) (sfPay_0 h134_22)
      refine lv_aload_n hx hb dX6_command_139 rfl (lv_at hl 3 rfl) ?_
      refine va_get (D := G.1) (ci := 5) (v := .ref (b 3)) (C := RX6) (T := TX6) (N := 11) hx hb hts (fun _ h => List.mem_cons_of_mem _ (List.mem_append_right _ h)) hown hK hP 0 rfl rfl 4 (by decide) w1 (fun _ h9 => h9) rfl dX6_command_140 ?_
      refine lv_iload_n hx hb dX6_command_143 rfl (lv_at hl 2 rfl) ?_
      refine lv_iload_n hx hb dX6_command_144 rfl (lv_at hl 5 rfl) ?_
      refine lv_sipush (v := nI 1000) hx hb dX6_command_145 (by decide) ?_
      refine zk_iremN hx hb dX6_command_148 (by omega) (by omega) (by omega) ?_
      have hP0 : va_P G.1 vwCl ((zb_r G (b 3) K) ++ (zb_6 G b rf sz ac sp ou)) H := zk_Pperm hP (show ((zb_6 G b rf sz ac sp ou) ++ zb_r G (b 3) K).Perm ((zb_r G (b 3) K) ++ (zb_6 G b rf sz ac sp ou)) from (show ((zb_6 G b rf sz ac sp ou) ++ zb_r G (b 3) K).Perm ((zb_r G (b 3) K) ++ zb_6 G b rf sz ac sp ou) from List.perm_append_comm).trans (List.Perm.of_eq (by simp only [List.append_assoc, List.append_nil, List.nil_append])))
      have hD0 : va_D A ((zb_r G (b 3) K) ++ (zb_6 G b rf sz ac sp ou)) := zk_Dperm hD (show ((zb_6 G b rf sz ac sp ou) ++ zb_r G (b 3) K).Perm ((zb_r G (b 3) K) ++ (zb_6 G b rf sz ac sp ou)) from (show ((zb_6 G b rf sz ac sp ou) ++ zb_r G (b 3) K).Perm ((zb_r G (b 3) K) ++ zb_6 G b rf sz ac sp ou) from List.perm_append_comm).trans (List.Perm.of_eq (by simp only [List.append_assoc, List.append_nil, List.nil_append])))
      refine zk_callI (wr := zb_6 G b rf sz ac sp ou) (va_runS (As := [.ref (b 3), .int (nI (fv / 1000)), .int (nI (fv % 1000))]) (rest := []) ⟨hx, hb, hml, hown, hts⟩ (c_X6_payOn l G (b 3) K n t hI (fv / 1000) (nI (fv % 1000)) (by omega) _) (cwS 3 hts gX6_command_X6_payOn rfl rfl rfl (by decide +kernel) ⟨Nat.le_of_ble_eq_true rfl, Nat.le_of_ble_eq_true rfl⟩) (zk_preS hE hA0 hS (zk_Papp hP0).1 (zk_Dapp hD0).1) rfl rfl hl.1 rfl (lv_room (Nat.le_of_ble_eq_true rfl)) dX6_command_149 ⟨Nat.le_of_ble_eq_true rfl, Nat.le_of_ble_eq_true rfl⟩) hP0 hD0 hS hA (fun r24 u25 H locs q26 hP hD hS => ?_)
      obtain ⟨er24, eL27⟩ := q26
      have hI28 : sInv u25 n t := by rw [eL27]; exact sInv_pay (nI (fv % 1000)) hI
      have hP : va_P G.1 vwCl ((zb_6 G b rf sz ac sp ou) ++ zb_r G (b 3) u25) H := zk_Pperm hP (show ((zb_6 G b rf sz ac sp ou) ++ zb_r G (b 3) u25).Perm ((zb_r G (b 3) u25) ++ (zb_6 G b rf sz ac sp ou)) from (show ((zb_6 G b rf sz ac sp ou) ++ zb_r G (b 3) u25).Perm ((zb_r G (b 3) u25) ++ zb_6 G b rf sz ac sp ou) from List.perm_append_comm).trans (List.Perm.of_eq (by simp only [List.append_assoc, List.append_nil, List.nil_append]))).symm
      have hD : va_D A ((zb_6 G b rf sz ac sp ou) ++ zb_r G (b 3) u25) := zk_Dperm hD (show ((zb_6 G b rf sz ac sp ou) ++ zb_r G (b 3) u25).Perm ((zb_r G (b 3) u25) ++ (zb_6 G b rf sz ac sp ou)) from (show ((zb_6 G b rf sz ac sp ou) ++ zb_r G (b 3) u25).Perm ((zb_r G (b 3) u25) ++ zb_6 G b rf sz ac sp ou) from List.perm_append_comm).trans (List.Perm.of_eq (by simp only [List.append_assoc, List.append_nil, List.nil_append]))).symm
      refine lv_pop hx hb dX6_command_152 rfl ?_
      refine lv_iconst (v := nI 1) hx hb dX6_command_153 (by decide) ?_
      exact zk_retz u25 hQ hx hb hr hlocks hS hP hD (Nat.le_of_ble_eq_true rfl) (Nat.le_of_ble_eq_true rfl) dX6_command_154 (rfl) (by rw [kCmd_2 (zk_eq (by omega) (by omega) h1_2), if_pos (h134_22)]; exact ⟨rfl, eL27⟩)
    · refine lv_iconst (v := nI 0) hx hb dX6_command_137 (by decide) ?_
      exact zk_retz K hQ hx hb hr hlocks hS hP hD (Nat.le_of_ble_eq_true rfl) (Nat.le_of_ble_eq_true rfl) dX6_command_138 (rfl) (by rw [kCmd_2 (zk_eq (by omega) (by omega) h1_2), if_neg (h134_22)]; exact ⟨rfl, rfl⟩)
  rcases Decidable.em (nI how = nI 3) with h1_3 | h1_n3
  · refine lv_tableIn (tgt := 155) hx hb dX6_command_22 (by rw [h1_3]; decide) (by rw [h1_3]; decide) (by rw [h1_3]; rfl) (by decide) ?_
    refine lv_iload hx hb dX6_command_155 (lv_at hl 0 rfl) ?_
    refine lv_if_gt (tgt := 174) hx hb dX6_command_157 (by decide) (fun h157_28 => ?_) (fun h157_28 => ?_)
    · have h157_28 := zk_gt0 (by omega) h157_28
      refine lv_iconst (v := nI 0) hx hb dX6_command_174 (by decide) ?_
      exact zk_retz K hQ hx hb hr hlocks hS hP hD (Nat.le_of_ble_eq_true rfl) (Nat.le_of_ble_eq_true rfl) dX6_command_175 (rfl) (by rw [kCmd_3 (zk_eq (by omega) (by omega) h1_3), if_neg (fun z => by omega)]; exact ⟨rfl, rfl⟩)
    · have h157_28 := zk_ngt0 (by omega) h157_28
      refine lv_aload_n hx hb dX6_command_160 rfl (lv_at hl 3 rfl) ?_
      refine va_get (D := G.1) (ci := 5) (v := .ref (b 3)) (C := RX6) (T := TX6) (N := 11) hx hb hts (fun _ h => List.mem_cons_of_mem _ (List.mem_append_right _ h)) hown hK hP 0 rfl rfl 4 (by decide) w1 (fun _ h9 => h9) rfl dX6_command_161 ?_
      refine lv_iload_n hx hb dX6_command_164 rfl (lv_at hl 2 rfl) ?_
      refine lv_iconst (v := nI 0) hx hb dX6_command_165 (by decide) ?_
      refine lv_iload hx hb dX6_command_166 (lv_at hl 1 rfl) ?_
      have hP0 : va_P G.1 vwCl ((zb_r G (b 3) K) ++ (zb_6 G b rf sz ac sp ou)) s.heap := zk_Pperm hP (show ((zb_6 G b rf sz ac sp ou) ++ zb_r G (b 3) K).Perm ((zb_r G (b 3) K) ++ (zb_6 G b rf sz ac sp ou)) from (show ((zb_6 G b rf sz ac sp ou) ++ zb_r G (b 3) K).Perm ((zb_r G (b 3) K) ++ zb_6 G b rf sz ac sp ou) from List.perm_append_comm).trans (List.Perm.of_eq (by simp only [List.append_assoc, List.append_nil, List.nil_append])))
      have hD0 : va_D A ((zb_r G (b 3) K) ++ (zb_6 G b rf sz ac sp ou)) := zk_Dperm hD (show ((zb_6 G b rf sz ac sp ou) ++ zb_r G (b 3) K).Perm ((zb_r G (b 3) K) ++ (zb_6 G b rf sz ac sp ou)) from (show ((zb_6 G b rf sz ac sp ou) ++ zb_r G (b 3) K).Perm ((zb_r G (b 3) K) ++ zb_6 G b rf sz ac sp ou) from List.perm_append_comm).trans (List.Perm.of_eq (by simp only [List.append_assoc, List.append_nil, List.nil_append])))
      refine zk_callI (wr := zb_6 G b rf sz ac sp ou) (va_runS (As := [.ref (b 3), .int (nI (fv / 1000)), .int (nI 0), .int (nI ((fv / 10) % 100))]) (rest := []) ⟨hx, hb, hml, hown, hts⟩ (c_X6_whyNotEntitle l G (b 3) K n t hI (nI (fv / 1000)) (nI 0) (nI ((fv / 10) % 100)) _) (cwS 4 hts gX6_command_X6_whyNotEntitle rfl rfl rfl (by decide +kernel) ⟨Nat.le_of_ble_eq_true rfl, Nat.le_of_ble_eq_true rfl⟩) (zk_preS hE hA0 hS (zk_Papp hP0).1 (zk_Dapp hD0).1) rfl rfl hl.1 rfl (lv_room (Nat.le_of_ble_eq_true rfl)) dX6_command_168 ⟨Nat.le_of_ble_eq_true rfl, Nat.le_of_ble_eq_true rfl⟩) hP0 hD0 hS hA (fun r30 u31 H locs q32 hP hD hS => ?_)
      subst q32
      have hP : va_P G.1 vwCl ((zb_6 G b rf sz ac sp ou) ++ zb_r G (b 3) K) H := zk_Pperm hP (show ((zb_6 G b rf sz ac sp ou) ++ zb_r G (b 3) K).Perm ((zb_r G (b 3) K) ++ (zb_6 G b rf sz ac sp ou)) from (show ((zb_6 G b rf sz ac sp ou) ++ zb_r G (b 3) K).Perm ((zb_r G (b 3) K) ++ zb_6 G b rf sz ac sp ou) from List.perm_append_comm).trans (List.Perm.of_eq (by simp only [List.append_assoc, List.append_nil, List.nil_append]))).symm
      have hD : va_D A ((zb_6 G b rf sz ac sp ou) ++ zb_r G (b 3) K) := zk_Dperm hD (show ((zb_6 G b rf sz ac sp ou) ++ zb_r G (b 3) K).Perm ((zb_r G (b 3) K) ++ (zb_6 G b rf sz ac sp ou)) from (show ((zb_6 G b rf sz ac sp ou) ++ zb_r G (b 3) K).Perm ((zb_r G (b 3) K) ++ zb_6 G b rf sz ac sp ou) from List.perm_append_comm).trans (List.Perm.of_eq (by simp only [List.append_assoc, List.append_nil, List.nil_append]))).symm
      refine lv_if_eq (tgt := 176) hx hb dX6_command_171 (by decide) (fun h171_32 => ?_) (fun h171_32 => ?_)
      · have hc1 := sHas_lt hI (by omega) (sfEnt_0 h171_32).1
        refine lv_aload_n hx hb dX6_command_176 rfl (lv_at hl 3 rfl) ?_
        refine va_get (D := G.1) (ci := 5) (v := .ref (b 3)) (C := RX6) (T := TX6) (N := 11) hx hb hts (fun _ h => List.mem_cons_of_mem _ (List.mem_append_right _ h)) hown hK hP 0 rfl rfl 4 (by decide) w1 (fun _ h9 => h9) rfl dX6_command_177 ?_
        refine lv_iload_n hx hb dX6_command_180 rfl (lv_at hl 2 rfl) ?_
        refine lv_iconst (v := nI 0) hx hb dX6_command_181 (by decide) ?_
        refine lv_iload hx hb dX6_command_182 (lv_at hl 1 rfl) ?_
        have hP0 : va_P G.1 vwCl ((zb_r G (b 3) K) ++ (zb_6 G b rf sz ac sp ou)) H := zk_Pperm hP (show ((zb_6 G b rf sz ac sp ou) ++ zb_r G (b 3) K).Perm ((zb_r G (b 3) K) ++ (zb_6 G b rf sz ac sp ou)) from (show ((zb_6 G b rf sz ac sp ou) ++ zb_r G (b 3) K).Perm ((zb_r G (b 3) K) ++ zb_6 G b rf sz ac sp ou) from List.perm_append_comm).trans (List.Perm.of_eq (by simp only [List.append_assoc, List.append_nil, List.nil_append])))
        have hD0 : va_D A ((zb_r G (b 3) K) ++ (zb_6 G b rf sz ac sp ou)) := zk_Dperm hD (show ((zb_6 G b rf sz ac sp ou) ++ zb_r G (b 3) K).Perm ((zb_r G (b 3) K) ++ (zb_6 G b rf sz ac sp ou)) from (show ((zb_6 G b rf sz ac sp ou) ++ zb_r G (b 3) K).Perm ((zb_r G (b 3) K) ++ zb_6 G b rf sz ac sp ou) from List.perm_append_comm).trans (List.Perm.of_eq (by simp only [List.append_assoc, List.append_nil, List.nil_append])))
        refine zk_callI (wr := zb_6 G b rf sz ac sp ou) (va_runS (As := [.ref (b 3), .int (nI (fv / 1000)), .int (nI 0), .int (nI ((fv / 10) % 100))]) (rest := []) ⟨hx, hb, hml, hown, hts⟩ (c_X6_entitleOn l G (b 3) K n t hI (fv / 1000) (nI 0) (nI ((fv / 10) % 100)) (by omega) _) (cwS 4 hts gX6_command_X6_entitleOn rfl rfl rfl (by decide +kernel) ⟨Nat.le_of_ble_eq_true rfl, Nat.le_of_ble_eq_true rfl⟩) (zk_preS hE hA0 hS (zk_Papp hP0).1 (zk_Dapp hD0).1) rfl rfl hl.1 rfl (lv_room (Nat.le_of_ble_eq_true rfl)) dX6_command_184 ⟨Nat.le_of_ble_eq_true rfl, Nat.le_of_ble_eq_true rfl⟩) hP0 hD0 hS hA (fun r34 u35 H locs q36 hP hD hS => ?_)
        obtain ⟨er34, eL37⟩ := q36
        have hI38 : sInv u35 n t := by rw [eL37]; exact sInv_entitle (nI 0) (nI ((fv / 10) % 100)) hI (by omega) (by omega) _ (by omega)
        have hP : va_P G.1 vwCl ((zb_6 G b rf sz ac sp ou) ++ zb_r G (b 3) u35) H := zk_Pperm hP (show ((zb_6 G b rf sz ac sp ou) ++ zb_r G (b 3) u35).Perm ((zb_r G (b 3) u35) ++ (zb_6 G b rf sz ac sp ou)) from (show ((zb_6 G b rf sz ac sp ou) ++ zb_r G (b 3) u35).Perm ((zb_r G (b 3) u35) ++ zb_6 G b rf sz ac sp ou) from List.perm_append_comm).trans (List.Perm.of_eq (by simp only [List.append_assoc, List.append_nil, List.nil_append]))).symm
        have hD : va_D A ((zb_6 G b rf sz ac sp ou) ++ zb_r G (b 3) u35) := zk_Dperm hD (show ((zb_6 G b rf sz ac sp ou) ++ zb_r G (b 3) u35).Perm ((zb_r G (b 3) u35) ++ (zb_6 G b rf sz ac sp ou)) from (show ((zb_6 G b rf sz ac sp ou) ++ zb_r G (b 3) u35).Perm ((zb_r G (b 3) u35) ++ zb_6 G b rf sz ac sp ou) from List.perm_append_comm).trans (List.Perm.of_eq (by simp only [List.append_assoc, List.append_nil, List.nil_append]))).symm
        refine lv_pop hx hb dX6_command_187 rfl ?_
        refine lv_iconst (v := nI 1) hx hb dX6_command_188 (by decide) ?_
        exact zk_retz u35 hQ hx hb hr hlocks hS hP hD (Nat.le_of_ble_eq_true rfl) (Nat.le_of_ble_eq_true rfl) dX6_command_189 (rfl) (by rw [kCmd_3 (zk_eq (by omega) (by omega) h1_3), if_pos (⟨by omega, h171_32⟩)]; exact ⟨rfl, eL37⟩)
      · refine lv_iconst (v := nI 0) hx hb dX6_command_174 (by decide) ?_
        exact zk_retz K hQ hx hb hr hlocks hS hP hD (Nat.le_of_ble_eq_true rfl) (Nat.le_of_ble_eq_true rfl) dX6_command_175 (rfl) (by rw [kCmd_3 (zk_eq (by omega) (by omega) h1_3), if_neg (fun z => h171_32 z.2)]; exact ⟨rfl, rfl⟩)
  rcases Decidable.em (nI how = nI 4) with h1_4 | h1_n4
  · refine lv_tableIn (tgt := 190) hx hb dX6_command_22 (by rw [h1_4]; decide) (by rw [h1_4]; decide) (by rw [h1_4]; rfl) (by decide) ?_
    refine lv_iload hx hb dX6_command_190 (lv_at hl 0 rfl) ?_
    refine lv_iconst (v := nI 1) hx hb dX6_command_192 (by decide) ?_
    refine lv_icmp_gt (tgt := 216) hx hb dX6_command_193 (by decide) (fun h193_38 => ?_) (fun h193_38 => ?_)
    · have h193_38 := zk_lt (by omega) (by omega) h193_38
      refine lv_iconst (v := nI 0) hx hb dX6_command_216 (by decide) ?_
      exact zk_retz K hQ hx hb hr hlocks hS hP hD (Nat.le_of_ble_eq_true rfl) (Nat.le_of_ble_eq_true rfl) dX6_command_217 (rfl) (by rw [kCmd_4 (zk_eq (by omega) (by omega) h1_4), if_neg (fun z => by omega)]; exact ⟨rfl, rfl⟩)
    · have h193_38 := zk_nlt (by omega) (by omega) h193_38
      refine lv_iload_n hx hb dX6_command_196 rfl (lv_at hl 5 rfl) ?_
      refine lv_sipush (v := nI 10000) hx hb dX6_command_197 (by decide) ?_
      refine zk_iremN hx hb dX6_command_200 (by omega) (by omega) (by omega) ?_
      refine lv_iconst (v := nI 1) hx hb dX6_command_201 (by decide) ?_
      refine lv_icmp_gt (tgt := 216) hx hb dX6_command_202 (by decide) (fun h202_39 => ?_) (fun h202_39 => ?_)
      · have h202_39 := zk_lt (by omega) (by omega) h202_39
        refine lv_iconst (v := nI 0) hx hb dX6_command_216 (by decide) ?_
        exact zk_retz K hQ hx hb hr hlocks hS hP hD (Nat.le_of_ble_eq_true rfl) (Nat.le_of_ble_eq_true rfl) dX6_command_217 (rfl) (by rw [kCmd_4 (zk_eq (by omega) (by omega) h1_4), if_neg (fun z => by omega)]; exact ⟨rfl, rfl⟩)
      · have h202_39 := zk_nlt (by omega) (by omega) h202_39
        refine lv_iload_n hx hb dX6_command_205 rfl (lv_at hl 5 rfl) ?_
        refine lv_sipush (v := nI 10000) hx hb dX6_command_206 (by decide) ?_
        refine zk_idivN hx hb dX6_command_209 (by omega) (by omega) (by omega) ?_
        have hP0 : va_P G.1 vwCl (([] : va_W) ++ ((zb_6 G b rf sz ac sp ou) ++ zb_r G (b 3) K)) s.heap := hP
        have hD0 : va_D A (([] : va_W) ++ ((zb_6 G b rf sz ac sp ou) ++ zb_r G (b 3) K)) := hD
        refine zk_callI (wr := (zb_6 G b rf sz ac sp ou) ++ zb_r G (b 3) K) (va_runS (As := [.int (nI (fv / 10000))]) (rest := []) ⟨hx, hb, hml, hown, hts⟩ (c_X6_isFamily l G (nI (fv / 10000)) _) (cwS 1 hts gX6_command_X6_isFamily rfl rfl rfl (by decide +kernel) ⟨Nat.le_of_ble_eq_true rfl, Nat.le_of_ble_eq_true rfl⟩) (zk_preS hE hA0 hS (zk_Papp hP0).1 (zk_Dapp hD0).1) rfl rfl hl.1 rfl (lv_room (Nat.le_of_ble_eq_true rfl)) dX6_command_210 ⟨Nat.le_of_ble_eq_true rfl, Nat.le_of_ble_eq_true rfl⟩) hP0 hD0 hS hA (fun r41 u42 H locs q43 hP hD hS => ?_)
        subst q43
        have hP : va_P G.1 vwCl ((zb_6 G b rf sz ac sp ou) ++ zb_r G (b 3) K) H := hP
        have hD : va_D A ((zb_6 G b rf sz ac sp ou) ++ zb_r G (b 3) K) := hD
        refine lv_if_ne (tgt := 218) hx hb dX6_command_213 (by decide) (fun h213_43 => ?_) (fun h213_43 => ?_)
        · have h213_43 := zk_b1 h213_43
          have hf1 := sFam_lt (by omega) h213_43
          refine lv_aload_n hx hb dX6_command_218 rfl (lv_at hl 3 rfl) ?_
          refine va_get (D := G.1) (ci := 5) (v := .ref (b 3)) (C := RX6) (T := TX6) (N := 11) hx hb hts (fun _ h => List.mem_cons_of_mem _ (List.mem_append_right _ h)) hown hK hP 0 rfl rfl 4 (by decide) w1 (fun _ h9 => h9) rfl dX6_command_219 ?_
          refine lv_bipush (v := nI 105) hx hb dX6_command_222 (by decide) ?_
          refine lv_iload_n hx hb dX6_command_224 rfl (lv_at hl 5 rfl) ?_
          refine lv_sipush (v := nI 10000) hx hb dX6_command_225 (by decide) ?_
          refine zk_idivN hx hb dX6_command_228 (by omega) (by omega) (by omega) ?_
          refine zk_iaddN hx hb dX6_command_229 ?_
          refine lv_iload hx hb dX6_command_230 (lv_at hl 0 rfl) ?_
          refine zk_iastN hx hb hK hP hD hS 1 0 rfl rfl (k := (105 + (fv / 10000))) (n := 1555) (by omega) (by omega) dX6_command_232 (fun H locs hP hD hS => ?_)
          obtain ⟨L45, eL45⟩ : ∃ z : zL, z = up2 K 7 (fv / 10000) (nI (fv % 10)) := ⟨_, rfl⟩
          have hP : va_P G.1 vwCl ((zb_6 G b rf sz ac sp ou) ++ zb_r G (b 3) L45) H := by rw [eL45, show zb_r G (b 3) (up2 K 7 (fv / 10000) (nI (fv % 10))) = [zk_a (b 3) (G.2.1 0) 1555 (upd (zrow K) (105 + (fv / 10000)) (nI (fv % 10)))] from (congrArg (fun f => [zk_a (b 3) (G.2.1 0) 1555 f]) (zup_7 K (nI (fv % 10)) (by omega))).symm]; exact hP
          have hD : va_D A ((zb_6 G b rf sz ac sp ou) ++ zb_r G (b 3) L45) := by rw [eL45, show zb_r G (b 3) (up2 K 7 (fv / 10000) (nI (fv % 10))) = [zk_a (b 3) (G.2.1 0) 1555 (upd (zrow K) (105 + (fv / 10000)) (nI (fv % 10)))] from (congrArg (fun f => [zk_a (b 3) (G.2.1 0) 1555 f]) (zup_7 K (nI (fv % 10)) (by omega))).symm]; exact hD
          have hI46 : sInv L45 n t := by rw [eL45]; exact sInv_row hI rfl rfl rfl rfl
          refine lv_iconst (v := nI 1) hx hb dX6_command_233 (by decide) ?_
          exact zk_retz L45 hQ hx hb hr hlocks hS hP hD (Nat.le_of_ble_eq_true rfl) (Nat.le_of_ble_eq_true rfl) dX6_command_234 (rfl) (by rw [kCmd_4 (zk_eq (by omega) (by omega) h1_4), if_pos (⟨by omega, by omega, h213_43⟩)]; exact ⟨rfl, eL45⟩)
        · have h213_43 := zk_b0 h213_43
          refine lv_iconst (v := nI 0) hx hb dX6_command_216 (by decide) ?_
          exact zk_retz K hQ hx hb hr hlocks hS hP hD (Nat.le_of_ble_eq_true rfl) (Nat.le_of_ble_eq_true rfl) dX6_command_217 (rfl) (by rw [kCmd_4 (zk_eq (by omega) (by omega) h1_4), if_neg (fun z => h213_43 z.2.2)]; exact ⟨rfl, rfl⟩)
  rcases Decidable.em (nI how = nI 5) with h1_5 | h1_n5
  · refine lv_tableIn (tgt := 235) hx hb dX6_command_22 (by rw [h1_5]; decide) (by rw [h1_5]; decide) (by rw [h1_5]; rfl) (by decide) ?_
    refine lv_iload_n hx hb dX6_command_235 rfl (lv_at hl 5 rfl) ?_
    refine lv_sipush (v := nI 10000) hx hb dX6_command_236 (by decide) ?_
    refine zk_iremN hx hb dX6_command_239 (by omega) (by omega) (by omega) ?_
    refine lv_if_ne (tgt := 288) hx hb dX6_command_240 (by decide) (fun h240_46 => ?_) (fun h240_46 => ?_)
    · have h240_46 := zk_ne0 (by omega) h240_46
      refine lv_iconst (v := nI 0) hx hb dX6_command_288 (by decide) ?_
      exact zk_retz K hQ hx hb hr hlocks hS hP hD (Nat.le_of_ble_eq_true rfl) (Nat.le_of_ble_eq_true rfl) dX6_command_289 (rfl) (by rw [kCmd_5 (zk_eq (by omega) (by omega) h1_5), if_neg (fun z => by omega)]; exact ⟨rfl, rfl⟩)
    · have h240_46 := zk_eq0 (by omega) h240_46
      refine lv_iload_n hx hb dX6_command_243 rfl (lv_at hl 5 rfl) ?_
      refine lv_sipush (v := nI 10000) hx hb dX6_command_244 (by decide) ?_
      refine zk_idivN hx hb dX6_command_247 (by omega) (by omega) (by omega) ?_
      have hP0 : va_P G.1 vwCl (([] : va_W) ++ ((zb_6 G b rf sz ac sp ou) ++ zb_r G (b 3) K)) s.heap := hP
      have hD0 : va_D A (([] : va_W) ++ ((zb_6 G b rf sz ac sp ou) ++ zb_r G (b 3) K)) := hD
      refine zk_callI (wr := (zb_6 G b rf sz ac sp ou) ++ zb_r G (b 3) K) (va_runS (As := [.int (nI (fv / 10000))]) (rest := []) ⟨hx, hb, hml, hown, hts⟩ (c_X6_isFamily l G (nI (fv / 10000)) _) (cwS 1 hts gX6_command_X6_isFamily rfl rfl rfl (by decide +kernel) ⟨Nat.le_of_ble_eq_true rfl, Nat.le_of_ble_eq_true rfl⟩) (zk_preS hE hA0 hS (zk_Papp hP0).1 (zk_Dapp hD0).1) rfl rfl hl.1 rfl (lv_room (Nat.le_of_ble_eq_true rfl)) dX6_command_248 ⟨Nat.le_of_ble_eq_true rfl, Nat.le_of_ble_eq_true rfl⟩) hP0 hD0 hS hA (fun r48 u49 H locs q50 hP hD hS => ?_)
      subst q50
      have hP : va_P G.1 vwCl ((zb_6 G b rf sz ac sp ou) ++ zb_r G (b 3) K) H := hP
      have hD : va_D A ((zb_6 G b rf sz ac sp ou) ++ zb_r G (b 3) K) := hD
      refine lv_if_eq (tgt := 288) hx hb dX6_command_251 (by decide) (fun h251_50 => ?_) (fun h251_50 => ?_)
      · have h251_50 := zk_b0 h251_50
        refine lv_iconst (v := nI 0) hx hb dX6_command_288 (by decide) ?_
        exact zk_retz K hQ hx hb hr hlocks hS hP hD (Nat.le_of_ble_eq_true rfl) (Nat.le_of_ble_eq_true rfl) dX6_command_289 (rfl) (by rw [kCmd_5 (zk_eq (by omega) (by omega) h1_5), if_neg (fun z => h251_50 z.2.1)]; exact ⟨rfl, rfl⟩)
      · have h251_50 := zk_b1 h251_50
        refine lv_aload_n hx hb dX6_command_254 rfl (lv_at hl 3 rfl) ?_
        refine va_get (D := G.1) (ci := 5) (v := .ref (b 3)) (C := RX6) (T := TX6) (N := 11) hx hb hts (fun _ h => List.mem_cons_of_mem _ (List.mem_append_right _ h)) hown hK hP 0 rfl rfl 4 (by decide) w1 (fun _ h9 => h9) rfl dX6_command_255 ?_
        refine lv_iload_n hx hb dX6_command_258 rfl (lv_at hl 5 rfl) ?_
        refine lv_sipush (v := nI 10000) hx hb dX6_command_259 (by decide) ?_
        refine zk_idivN hx hb dX6_command_262 (by omega) (by omega) (by omega) ?_
        have hP0 : va_P G.1 vwCl ((zb_r G (b 3) K) ++ (zb_6 G b rf sz ac sp ou)) H := zk_Pperm hP (show ((zb_6 G b rf sz ac sp ou) ++ zb_r G (b 3) K).Perm ((zb_r G (b 3) K) ++ (zb_6 G b rf sz ac sp ou)) from (show ((zb_6 G b rf sz ac sp ou) ++ zb_r G (b 3) K).Perm ((zb_r G (b 3) K) ++ zb_6 G b rf sz ac sp ou) from List.perm_append_comm).trans (List.Perm.of_eq (by simp only [List.append_assoc, List.append_nil, List.nil_append])))
        have hD0 : va_D A ((zb_r G (b 3) K) ++ (zb_6 G b rf sz ac sp ou)) := zk_Dperm hD (show ((zb_6 G b rf sz ac sp ou) ++ zb_r G (b 3) K).Perm ((zb_r G (b 3) K) ++ (zb_6 G b rf sz ac sp ou)) from (show ((zb_6 G b rf sz ac sp ou) ++ zb_r G (b 3) K).Perm ((zb_r G (b 3) K) ++ zb_6 G b rf sz ac sp ou) from List.perm_append_comm).trans (List.Perm.of_eq (by simp only [List.append_assoc, List.append_nil, List.nil_append])))
        refine zk_callI (wr := zb_6 G b rf sz ac sp ou) (va_runS (As := [.ref (b 3), .int (nI (fv / 10000))]) (rest := []) ⟨hx, hb, hml, hown, hts⟩ (c_X6_debt l G (b 3) K n t hI (nI (fv / 10000)) _) (cwS 2 hts gX6_command_X6_debt rfl rfl rfl (by decide +kernel) ⟨Nat.le_of_ble_eq_true rfl, Nat.le_of_ble_eq_true rfl⟩) (zk_preS hE hA0 hS (zk_Papp hP0).1 (zk_Dapp hD0).1) rfl rfl hl.1 rfl (lv_room (Nat.le_of_ble_eq_true rfl)) dX6_command_263 ⟨Nat.le_of_ble_eq_true rfl, Nat.le_of_ble_eq_true rfl⟩) hP0 hD0 hS hA (fun r52 u53 H locs q54 hP hD hS => ?_)
        subst q54
        have hP : va_P G.1 vwCl ((zb_6 G b rf sz ac sp ou) ++ zb_r G (b 3) K) H := zk_Pperm hP (show ((zb_6 G b rf sz ac sp ou) ++ zb_r G (b 3) K).Perm ((zb_r G (b 3) K) ++ (zb_6 G b rf sz ac sp ou)) from (show ((zb_6 G b rf sz ac sp ou) ++ zb_r G (b 3) K).Perm ((zb_r G (b 3) K) ++ zb_6 G b rf sz ac sp ou) from List.perm_append_comm).trans (List.Perm.of_eq (by simp only [List.append_assoc, List.append_nil, List.nil_append]))).symm
        have hD : va_D A ((zb_6 G b rf sz ac sp ou) ++ zb_r G (b 3) K) := zk_Dperm hD (show ((zb_6 G b rf sz ac sp ou) ++ zb_r G (b 3) K).Perm ((zb_r G (b 3) K) ++ (zb_6 G b rf sz ac sp ou)) from (show ((zb_6 G b rf sz ac sp ou) ++ zb_r G (b 3) K).Perm ((zb_r G (b 3) K) ++ zb_6 G b rf sz ac sp ou) from List.perm_append_comm).trans (List.Perm.of_eq (by simp only [List.append_assoc, List.append_nil, List.nil_append]))).symm
        refine lv_if_le (tgt := 288) hx hb dX6_command_266 (by decide) (fun h266_54 => ?_) (fun h266_54 => ?_)
        · have h266_54 := zk_l1 h266_54
          refine lv_iconst (v := nI 0) hx hb dX6_command_288 (by decide) ?_
          exact zk_retz K hQ hx hb hr hlocks hS hP hD (Nat.le_of_ble_eq_true rfl) (Nat.le_of_ble_eq_true rfl) dX6_command_289 (rfl) (by rw [kCmd_5 (zk_eq (by omega) (by omega) h1_5), if_neg (fun z => h266_54 z.2.2)]; exact ⟨rfl, rfl⟩)
        · have h266_54 := zk_l2 h266_54
          have hf1 := sFam_lt (by omega) h251_50
          refine lv_aload_n hx hb dX6_command_269 rfl (lv_at hl 3 rfl) ?_
          refine va_get (D := G.1) (ci := 5) (v := .ref (b 3)) (C := RX6) (T := TX6) (N := 11) hx hb hts (fun _ h => List.mem_cons_of_mem _ (List.mem_append_right _ h)) hown hK hP 0 rfl rfl 4 (by decide) w1 (fun _ h9 => h9) rfl dX6_command_270 ?_
          refine lv_iload_n hx hb dX6_command_273 rfl (lv_at hl 5 rfl) ?_
          refine lv_sipush (v := nI 10000) hx hb dX6_command_274 (by decide) ?_
          refine zk_idivN hx hb dX6_command_277 (by omega) (by omega) (by omega) ?_
          have hP0 : va_P G.1 vwCl ((zb_r G (b 3) K) ++ (zb_6 G b rf sz ac sp ou)) H := zk_Pperm hP (show ((zb_6 G b rf sz ac sp ou) ++ zb_r G (b 3) K).Perm ((zb_r G (b 3) K) ++ (zb_6 G b rf sz ac sp ou)) from (show ((zb_6 G b rf sz ac sp ou) ++ zb_r G (b 3) K).Perm ((zb_r G (b 3) K) ++ zb_6 G b rf sz ac sp ou) from List.perm_append_comm).trans (List.Perm.of_eq (by simp only [List.append_assoc, List.append_nil, List.nil_append])))
          have hD0 : va_D A ((zb_r G (b 3) K) ++ (zb_6 G b rf sz ac sp ou)) := zk_Dperm hD (show ((zb_6 G b rf sz ac sp ou) ++ zb_r G (b 3) K).Perm ((zb_r G (b 3) K) ++ (zb_6 G b rf sz ac sp ou)) from (show ((zb_6 G b rf sz ac sp ou) ++ zb_r G (b 3) K).Perm ((zb_r G (b 3) K) ++ zb_6 G b rf sz ac sp ou) from List.perm_append_comm).trans (List.Perm.of_eq (by simp only [List.append_assoc, List.append_nil, List.nil_append])))
          refine zk_callI (wr := zb_6 G b rf sz ac sp ou) (va_runS (As := [.ref (b 3), .int (nI (fv / 10000))]) (rest := []) ⟨hx, hb, hml, hown, hts⟩ (c_X6_writeOffOn l G (b 3) K n t hI (fv / 10000) (by omega) _) (cwS 2 hts gX6_command_X6_writeOffOn rfl rfl rfl (by decide +kernel) ⟨Nat.le_of_ble_eq_true rfl, Nat.le_of_ble_eq_true rfl⟩) (zk_preS hE hA0 hS (zk_Papp hP0).1 (zk_Dapp hD0).1) rfl rfl hl.1 rfl (lv_room (Nat.le_of_ble_eq_true rfl)) dX6_command_278 ⟨Nat.le_of_ble_eq_true rfl, Nat.le_of_ble_eq_true rfl⟩) hP0 hD0 hS hA (fun r56 u57 H locs q58 hP hD hS => ?_)
          obtain ⟨er56, eL59⟩ := q58
          have hI60 : sInv u57 n t := by rw [eL59]; exact sInv_write hI
          have hP : va_P G.1 vwCl ((zb_6 G b rf sz ac sp ou) ++ zb_r G (b 3) u57) H := zk_Pperm hP (show ((zb_6 G b rf sz ac sp ou) ++ zb_r G (b 3) u57).Perm ((zb_r G (b 3) u57) ++ (zb_6 G b rf sz ac sp ou)) from (show ((zb_6 G b rf sz ac sp ou) ++ zb_r G (b 3) u57).Perm ((zb_r G (b 3) u57) ++ zb_6 G b rf sz ac sp ou) from List.perm_append_comm).trans (List.Perm.of_eq (by simp only [List.append_assoc, List.append_nil, List.nil_append]))).symm
          have hD : va_D A ((zb_6 G b rf sz ac sp ou) ++ zb_r G (b 3) u57) := zk_Dperm hD (show ((zb_6 G b rf sz ac sp ou) ++ zb_r G (b 3) u57).Perm ((zb_r G (b 3) u57) ++ (zb_6 G b rf sz ac sp ou)) from (show ((zb_6 G b rf sz ac sp ou) ++ zb_r G (b 3) u57).Perm ((zb_r G (b 3) u57) ++ zb_6 G b rf sz ac sp ou) from List.perm_append_comm).trans (List.Perm.of_eq (by simp only [List.append_assoc, List.append_nil, List.nil_append]))).symm
          refine lv_if_le (tgt := 288) hx hb dX6_command_281 (by decide) (fun h281_60 => ?_) (fun h281_60 => ?_)
          · have h281_60 := zk_l1 h281_60
            exact absurd (by rw [er56]; exact h266_54) h281_60
          · have h281_60 := zk_l2 h281_60
            refine lv_iconst (v := nI 1) hx hb dX6_command_284 (by decide) ?_
            refine lv_goto (tgt := 289) hx hb dX6_command_285 (by decide) ?_
            exact zk_retz u57 hQ hx hb hr hlocks hS hP hD (Nat.le_of_ble_eq_true rfl) (Nat.le_of_ble_eq_true rfl) dX6_command_289 (rfl) (by rw [kCmd_5 (zk_eq (by omega) (by omega) h1_5), if_pos (⟨by omega, h251_50, h266_54⟩)]; exact ⟨rfl, eL59⟩)
  rcases Decidable.em (nI how = nI 6) with h1_6 | h1_n6
  · refine lv_tableIn (tgt := 290) hx hb dX6_command_22 (by rw [h1_6]; decide) (by rw [h1_6]; decide) (by rw [h1_6]; rfl) (by decide) ?_
    refine lv_iload_n hx hb dX6_command_290 rfl (lv_at hl 5 rfl) ?_
    refine lv_bipush (v := nI 100) hx hb dX6_command_291 (by decide) ?_
    refine lv_icmp_ge (tgt := 322) hx hb dX6_command_293 (by decide) (fun h293_61 => ?_) (fun h293_61 => ?_)
    · have h293_61 := zk_le (by omega) (by omega) h293_61
      refine lv_iconst (v := nI 0) hx hb dX6_command_322 (by decide) ?_
      exact zk_retz K hQ hx hb hr hlocks hS hP hD (Nat.le_of_ble_eq_true rfl) (Nat.le_of_ble_eq_true rfl) dX6_command_323 (rfl) (by rw [kCmd_6 (zk_eq (by omega) (by omega) h1_6), if_neg (fun z => by omega)]; exact ⟨rfl, rfl⟩)
    · have h293_61 := zk_nle (by omega) (by omega) h293_61
      refine lv_aload_n hx hb dX6_command_296 rfl (lv_at hl 3 rfl) ?_
      refine va_get (D := G.1) (ci := 5) (v := .ref (b 3)) (C := RX6) (T := TX6) (N := 11) hx hb hts (fun _ h => List.mem_cons_of_mem _ (List.mem_append_right _ h)) hown hK hP 0 rfl rfl 4 (by decide) w1 (fun _ h9 => h9) rfl dX6_command_297 ?_
      refine lv_iload_n hx hb dX6_command_300 rfl (lv_at hl 5 rfl) ?_
      have hP0 : va_P G.1 vwCl ((zb_r G (b 3) K) ++ (zb_6 G b rf sz ac sp ou)) s.heap := zk_Pperm hP (show ((zb_6 G b rf sz ac sp ou) ++ zb_r G (b 3) K).Perm ((zb_r G (b 3) K) ++ (zb_6 G b rf sz ac sp ou)) from (show ((zb_6 G b rf sz ac sp ou) ++ zb_r G (b 3) K).Perm ((zb_r G (b 3) K) ++ zb_6 G b rf sz ac sp ou) from List.perm_append_comm).trans (List.Perm.of_eq (by simp only [List.append_assoc, List.append_nil, List.nil_append])))
      have hD0 : va_D A ((zb_r G (b 3) K) ++ (zb_6 G b rf sz ac sp ou)) := zk_Dperm hD (show ((zb_6 G b rf sz ac sp ou) ++ zb_r G (b 3) K).Perm ((zb_r G (b 3) K) ++ (zb_6 G b rf sz ac sp ou)) from (show ((zb_6 G b rf sz ac sp ou) ++ zb_r G (b 3) K).Perm ((zb_r G (b 3) K) ++ zb_6 G b rf sz ac sp ou) from List.perm_append_comm).trans (List.Perm.of_eq (by simp only [List.append_assoc, List.append_nil, List.nil_append])))
      refine zk_callI (wr := zb_6 G b rf sz ac sp ou) (va_runS (As := [.ref (b 3), .int (nI fv)]) (rest := []) ⟨hx, hb, hml, hown, hts⟩ (c_X6_canGoBy l G (b 3) K n t hI (nI fv) _) (cwS 2 hts gX6_command_X6_canGoBy rfl rfl rfl (by decide +kernel) ⟨Nat.le_of_ble_eq_true rfl, Nat.le_of_ble_eq_true rfl⟩) (zk_preS hE hA0 hS (zk_Papp hP0).1 (zk_Dapp hD0).1) rfl rfl hl.1 rfl (lv_room (Nat.le_of_ble_eq_true rfl)) dX6_command_301 ⟨Nat.le_of_ble_eq_true rfl, Nat.le_of_ble_eq_true rfl⟩) hP0 hD0 hS hA (fun r63 u64 H locs q65 hP hD hS => ?_)
      subst q65
      have hP : va_P G.1 vwCl ((zb_6 G b rf sz ac sp ou) ++ zb_r G (b 3) K) H := zk_Pperm hP (show ((zb_6 G b rf sz ac sp ou) ++ zb_r G (b 3) K).Perm ((zb_r G (b 3) K) ++ (zb_6 G b rf sz ac sp ou)) from (show ((zb_6 G b rf sz ac sp ou) ++ zb_r G (b 3) K).Perm ((zb_r G (b 3) K) ++ zb_6 G b rf sz ac sp ou) from List.perm_append_comm).trans (List.Perm.of_eq (by simp only [List.append_assoc, List.append_nil, List.nil_append]))).symm
      have hD : va_D A ((zb_6 G b rf sz ac sp ou) ++ zb_r G (b 3) K) := zk_Dperm hD (show ((zb_6 G b rf sz ac sp ou) ++ zb_r G (b 3) K).Perm ((zb_r G (b 3) K) ++ (zb_6 G b rf sz ac sp ou)) from (show ((zb_6 G b rf sz ac sp ou) ++ zb_r G (b 3) K).Perm ((zb_r G (b 3) K) ++ zb_6 G b rf sz ac sp ou) from List.perm_append_comm).trans (List.Perm.of_eq (by simp only [List.append_assoc, List.append_nil, List.nil_append]))).symm
      refine lv_if_eq (tgt := 322) hx hb dX6_command_304 (by decide) (fun h304_65 => ?_) (fun h304_65 => ?_)
      · have h304_65 := zk_b0 h304_65
        refine lv_iconst (v := nI 0) hx hb dX6_command_322 (by decide) ?_
        exact zk_retz K hQ hx hb hr hlocks hS hP hD (Nat.le_of_ble_eq_true rfl) (Nat.le_of_ble_eq_true rfl) dX6_command_323 (rfl) (by rw [kCmd_6 (zk_eq (by omega) (by omega) h1_6), if_neg (fun z => h304_65 z.2)]; exact ⟨rfl, rfl⟩)
      · have h304_65 := zk_b1 h304_65
        have hk1 := kCan_nat ht40 (by omega) h304_65
        refine lv_aload_n hx hb dX6_command_307 rfl (lv_at hl 3 rfl) ?_
        refine va_get (D := G.1) (ci := 5) (v := .ref (b 3)) (C := RX6) (T := TX6) (N := 11) hx hb hts (fun _ h => List.mem_cons_of_mem _ (List.mem_append_right _ h)) hown hK hP 0 rfl rfl 4 (by decide) w1 (fun _ h9 => h9) rfl dX6_command_308 ?_
        refine lv_iload_n hx hb dX6_command_311 rfl (lv_at hl 5 rfl) ?_
        have hP0 : va_P G.1 vwCl ((zb_r G (b 3) K) ++ (zb_6 G b rf sz ac sp ou)) H := zk_Pperm hP (show ((zb_6 G b rf sz ac sp ou) ++ zb_r G (b 3) K).Perm ((zb_r G (b 3) K) ++ (zb_6 G b rf sz ac sp ou)) from (show ((zb_6 G b rf sz ac sp ou) ++ zb_r G (b 3) K).Perm ((zb_r G (b 3) K) ++ zb_6 G b rf sz ac sp ou) from List.perm_append_comm).trans (List.Perm.of_eq (by simp only [List.append_assoc, List.append_nil, List.nil_append])))
        have hD0 : va_D A ((zb_r G (b 3) K) ++ (zb_6 G b rf sz ac sp ou)) := zk_Dperm hD (show ((zb_6 G b rf sz ac sp ou) ++ zb_r G (b 3) K).Perm ((zb_r G (b 3) K) ++ (zb_6 G b rf sz ac sp ou)) from (show ((zb_6 G b rf sz ac sp ou) ++ zb_r G (b 3) K).Perm ((zb_r G (b 3) K) ++ zb_6 G b rf sz ac sp ou) from List.perm_append_comm).trans (List.Perm.of_eq (by simp only [List.append_assoc, List.append_nil, List.nil_append])))
        refine zk_callI (wr := zb_6 G b rf sz ac sp ou) (va_runS (As := [.ref (b 3), .int (nI fv)]) (rest := []) ⟨hx, hb, hml, hown, hts⟩ (c_X6_daysOn l G (b 3) K n t hI fv (by omega) hp0 _) (cwS 2 hts gX6_command_X6_daysOn rfl rfl rfl (by decide +kernel) ⟨Nat.le_of_ble_eq_true rfl, Nat.le_of_ble_eq_true rfl⟩) (zk_preS hE hA0 hS (zk_Papp hP0).1 (zk_Dapp hD0).1) rfl rfl hl.1 rfl (lv_room (Nat.le_of_ble_eq_true rfl)) dX6_command_312 ⟨Nat.le_of_ble_eq_true rfl, Nat.le_of_ble_eq_true rfl⟩) hP0 hD0 hS hA (fun r67 u68 H locs q69 hP hD hS => ?_)
        obtain ⟨er67, eL70⟩ := q69
        have hI71 : sInv u68 n (t + fv) := by rw [eL70]; exact sInv_kDays hI _ (by omega)
        have hP : va_P G.1 vwCl ((zb_6 G b rf sz ac sp ou) ++ zb_r G (b 3) u68) H := zk_Pperm hP (show ((zb_6 G b rf sz ac sp ou) ++ zb_r G (b 3) u68).Perm ((zb_r G (b 3) u68) ++ (zb_6 G b rf sz ac sp ou)) from (show ((zb_6 G b rf sz ac sp ou) ++ zb_r G (b 3) u68).Perm ((zb_r G (b 3) u68) ++ zb_6 G b rf sz ac sp ou) from List.perm_append_comm).trans (List.Perm.of_eq (by simp only [List.append_assoc, List.append_nil, List.nil_append]))).symm
        have hD : va_D A ((zb_6 G b rf sz ac sp ou) ++ zb_r G (b 3) u68) := zk_Dperm hD (show ((zb_6 G b rf sz ac sp ou) ++ zb_r G (b 3) u68).Perm ((zb_r G (b 3) u68) ++ (zb_6 G b rf sz ac sp ou)) from (show ((zb_6 G b rf sz ac sp ou) ++ zb_r G (b 3) u68).Perm ((zb_r G (b 3) u68) ++ zb_6 G b rf sz ac sp ou) from List.perm_append_comm).trans (List.Perm.of_eq (by simp only [List.append_assoc, List.append_nil, List.nil_append]))).symm
        refine lv_if_lt (tgt := 322) hx hb dX6_command_315 (by decide) (fun h315_71 => ?_) (fun h315_71 => ?_)
        · exact absurd (by rw [← eL70, ← er67]; exact h315_71) (kDays_nn K fv hn12 hk1.2)
        · refine lv_iconst (v := nI 1) hx hb dX6_command_318 (by decide) ?_
          refine lv_goto (tgt := 323) hx hb dX6_command_319 (by decide) ?_
          exact zk_retz u68 hQ hx hb hr hlocks hS hP hD (Nat.le_of_ble_eq_true rfl) (Nat.le_of_ble_eq_true rfl) dX6_command_323 (rfl) (by rw [kCmd_6 (zk_eq (by omega) (by omega) h1_6), if_pos (⟨by omega, h304_65⟩)]; exact ⟨rfl, eL70⟩)
  rcases Decidable.em (nI how = nI 7) with h1_7 | h1_n7
  · refine lv_tableIn (tgt := 324) hx hb dX6_command_22 (by rw [h1_7]; decide) (by rw [h1_7]; decide) (by rw [h1_7]; rfl) (by decide) ?_
    refine lv_aload_n hx hb dX6_command_324 rfl (lv_at hl 3 rfl) ?_
    refine va_get (D := G.1) (ci := 5) (v := .ref (b 3)) (C := RX6) (T := TX6) (N := 11) hx hb hts (fun _ h => List.mem_cons_of_mem _ (List.mem_append_right _ h)) hown hK hP 0 rfl rfl 4 (by decide) w1 (fun _ h9 => h9) rfl dX6_command_325 ?_
    refine lv_iload_n hx hb dX6_command_328 rfl (lv_at hl 2 rfl) ?_
    have hP0 : va_P G.1 vwCl ((zb_r G (b 3) K) ++ (zb_6 G b rf sz ac sp ou)) s.heap := zk_Pperm hP (show ((zb_6 G b rf sz ac sp ou) ++ zb_r G (b 3) K).Perm ((zb_r G (b 3) K) ++ (zb_6 G b rf sz ac sp ou)) from (show ((zb_6 G b rf sz ac sp ou) ++ zb_r G (b 3) K).Perm ((zb_r G (b 3) K) ++ zb_6 G b rf sz ac sp ou) from List.perm_append_comm).trans (List.Perm.of_eq (by simp only [List.append_assoc, List.append_nil, List.nil_append])))
    have hD0 : va_D A ((zb_r G (b 3) K) ++ (zb_6 G b rf sz ac sp ou)) := zk_Dperm hD (show ((zb_6 G b rf sz ac sp ou) ++ zb_r G (b 3) K).Perm ((zb_r G (b 3) K) ++ (zb_6 G b rf sz ac sp ou)) from (show ((zb_6 G b rf sz ac sp ou) ++ zb_r G (b 3) K).Perm ((zb_r G (b 3) K) ++ zb_6 G b rf sz ac sp ou) from List.perm_append_comm).trans (List.Perm.of_eq (by simp only [List.append_assoc, List.append_nil, List.nil_append])))
    refine zk_callI (wr := zb_6 G b rf sz ac sp ou) (va_runS (As := [.ref (b 3), .int (nI (fv / 1000))]) (rest := []) ⟨hx, hb, hml, hown, hts⟩ (c_X6_isChild l G (b 3) K n t hI (nI (fv / 1000)) _) (cwS 2 hts gX6_command_X6_isChild rfl rfl rfl (by decide +kernel) ⟨Nat.le_of_ble_eq_true rfl, Nat.le_of_ble_eq_true rfl⟩) (zk_preS hE hA0 hS (zk_Papp hP0).1 (zk_Dapp hD0).1) rfl rfl hl.1 rfl (lv_room (Nat.le_of_ble_eq_true rfl)) dX6_command_329 ⟨Nat.le_of_ble_eq_true rfl, Nat.le_of_ble_eq_true rfl⟩) hP0 hD0 hS hA (fun r73 u74 H locs q75 hP hD hS => ?_)
    subst q75
    have hP : va_P G.1 vwCl ((zb_6 G b rf sz ac sp ou) ++ zb_r G (b 3) K) H := zk_Pperm hP (show ((zb_6 G b rf sz ac sp ou) ++ zb_r G (b 3) K).Perm ((zb_r G (b 3) K) ++ (zb_6 G b rf sz ac sp ou)) from (show ((zb_6 G b rf sz ac sp ou) ++ zb_r G (b 3) K).Perm ((zb_r G (b 3) K) ++ zb_6 G b rf sz ac sp ou) from List.perm_append_comm).trans (List.Perm.of_eq (by simp only [List.append_assoc, List.append_nil, List.nil_append]))).symm
    have hD : va_D A ((zb_6 G b rf sz ac sp ou) ++ zb_r G (b 3) K) := zk_Dperm hD (show ((zb_6 G b rf sz ac sp ou) ++ zb_r G (b 3) K).Perm ((zb_r G (b 3) K) ++ (zb_6 G b rf sz ac sp ou)) from (show ((zb_6 G b rf sz ac sp ou) ++ zb_r G (b 3) K).Perm ((zb_r G (b 3) K) ++ zb_6 G b rf sz ac sp ou) from List.perm_append_comm).trans (List.Perm.of_eq (by simp only [List.append_assoc, List.append_nil, List.nil_append]))).symm
    refine lv_if_eq (tgt := 366) hx hb dX6_command_332 (by decide) (fun h332_75 => ?_) (fun h332_75 => ?_)
    · have h332_75 := zk_b0 h332_75
      refine lv_iconst (v := nI 0) hx hb dX6_command_366 (by decide) ?_
      exact zk_retz K hQ hx hb hr hlocks hS hP hD (Nat.le_of_ble_eq_true rfl) (Nat.le_of_ble_eq_true rfl) dX6_command_367 (rfl) (by rw [kCmd_7 (zk_eq (by omega) (by omega) h1_7), if_neg (fun w => h332_75 w.1)]; exact ⟨rfl, rfl⟩)
    · have h332_75 := zk_b1 h332_75
      refine lv_iload hx hb dX6_command_335 (lv_at hl 1 rfl) ?_
      have hP0 : va_P G.1 vwCl (([] : va_W) ++ ((zb_6 G b rf sz ac sp ou) ++ zb_r G (b 3) K)) H := hP
      have hD0 : va_D A (([] : va_W) ++ ((zb_6 G b rf sz ac sp ou) ++ zb_r G (b 3) K)) := hD
      refine zk_callI (wr := (zb_6 G b rf sz ac sp ou) ++ zb_r G (b 3) K) (va_runS (As := [.int (nI ((fv / 10) % 100))]) (rest := []) ⟨hx, hb, hml, hown, hts⟩ (c_X6_isDay l G (nI ((fv / 10) % 100)) _) (cwS 1 hts gX6_command_X6_isDay rfl rfl rfl (by decide +kernel) ⟨Nat.le_of_ble_eq_true rfl, Nat.le_of_ble_eq_true rfl⟩) (zk_preS hE hA0 hS (zk_Papp hP0).1 (zk_Dapp hD0).1) rfl rfl hl.1 rfl (lv_room (Nat.le_of_ble_eq_true rfl)) dX6_command_337 ⟨Nat.le_of_ble_eq_true rfl, Nat.le_of_ble_eq_true rfl⟩) hP0 hD0 hS hA (fun r77 u78 H locs q79 hP hD hS => ?_)
      subst q79
      have hP : va_P G.1 vwCl ((zb_6 G b rf sz ac sp ou) ++ zb_r G (b 3) K) H := hP
      have hD : va_D A ((zb_6 G b rf sz ac sp ou) ++ zb_r G (b 3) K) := hD
      refine lv_if_eq (tgt := 366) hx hb dX6_command_340 (by decide) (fun h340_79 => ?_) (fun h340_79 => ?_)
      · have h340_79 := zk_b0 h340_79
        refine lv_iconst (v := nI 0) hx hb dX6_command_366 (by decide) ?_
        exact zk_retz K hQ hx hb hr hlocks hS hP hD (Nat.le_of_ble_eq_true rfl) (Nat.le_of_ble_eq_true rfl) dX6_command_367 (rfl) (by rw [kCmd_7 (zk_eq (by omega) (by omega) h1_7), if_neg (fun w => h340_79 w.2.1)]; exact ⟨rfl, rfl⟩)
      · have h340_79 := zk_b1 h340_79
        have hc1 := sHas_lt hI (by omega) h332_75
        have hd1 := sDay_lt (by omega) h340_79
        refine lv_aload_n hx hb dX6_command_343 rfl (lv_at hl 3 rfl) ?_
        refine va_get (D := G.1) (ci := 5) (v := .ref (b 3)) (C := RX6) (T := TX6) (N := 11) hx hb hts (fun _ h => List.mem_cons_of_mem _ (List.mem_append_right _ h)) hown hK hP 0 rfl rfl 4 (by decide) w1 (fun _ h9 => h9) rfl dX6_command_344 ?_
        refine lv_bipush (v := nI 115) hx hb dX6_command_347 (by decide) ?_
        refine lv_iload_n hx hb dX6_command_349 rfl (lv_at hl 2 rfl) ?_
        refine lv_iload hx hb dX6_command_350 (lv_at hl 1 rfl) ?_
        have hP0 : va_P G.1 vwCl (([] : va_W) ++ ((zb_6 G b rf sz ac sp ou) ++ zb_r G (b 3) K)) H := hP
        have hD0 : va_D A (([] : va_W) ++ ((zb_6 G b rf sz ac sp ou) ++ zb_r G (b 3) K)) := hD
        refine zk_callI (wr := (zb_6 G b rf sz ac sp ou) ++ zb_r G (b 3) K) (va_runS (As := [.int (nI (fv / 1000)), .int (nI ((fv / 10) % 100))]) (rest := [.int (nI 115), .ref (b 3)]) ⟨hx, hb, hml, hown, hts⟩ (c_X6_at l G (fv / 1000) ((fv / 10) % 100) _) (cwS 2 hts gX6_command_X6_at rfl rfl rfl (by decide +kernel) ⟨Nat.le_of_ble_eq_true rfl, Nat.le_of_ble_eq_true rfl⟩) (zk_preS hE hA0 hS (zk_Papp hP0).1 (zk_Dapp hD0).1) rfl rfl hl.1 rfl (lv_room (Nat.le_of_ble_eq_true rfl)) dX6_command_352 ⟨Nat.le_of_ble_eq_true rfl, Nat.le_of_ble_eq_true rfl⟩) hP0 hD0 hS hA (fun r81 u82 H locs q83 hP hD hS => ?_)
        subst q83
        have hP : va_P G.1 vwCl ((zb_6 G b rf sz ac sp ou) ++ zb_r G (b 3) K) H := hP
        have hD : va_D A ((zb_6 G b rf sz ac sp ou) ++ zb_r G (b 3) K) := hD
        refine zk_iaddN hx hb dX6_command_355 ?_
        refine zk_ialdN hx hb hK hP 1 0 rfl rfl (k := (115 + ((fv / 1000) * 40 + ((fv / 10) % 100)))) (n := 1555) (by omega) (by omega) dX6_command_356 ?_
        refine zk_top (zrow_9 K (c := (fv / 1000) * 40 + ((fv / 10) % 100)) (by omega)) ?_
        refine lv_iload hx hb dX6_command_357 (lv_at hl 0 rfl) ?_
        refine lv_icmp_ne (tgt := 366) hx hb dX6_command_359 (by decide) (fun h359_83 => ?_) (fun h359_83 => ?_)
        · refine lv_iconst (v := nI 0) hx hb dX6_command_366 (by decide) ?_
          exact zk_retz K hQ hx hb hr hlocks hS hP hD (Nat.le_of_ble_eq_true rfl) (Nat.le_of_ble_eq_true rfl) dX6_command_367 (rfl) (by rw [kCmd_7 (zk_eq (by omega) (by omega) h1_7), if_neg (fun w => h359_83 w.2.2)]; exact ⟨rfl, rfl⟩)
        · refine lv_iconst (v := nI 1) hx hb dX6_command_362 (by decide) ?_
          refine lv_goto (tgt := 367) hx hb dX6_command_363 (by decide) ?_
          exact zk_retz K hQ hx hb hr hlocks hS hP hD (Nat.le_of_ble_eq_true rfl) (Nat.le_of_ble_eq_true rfl) dX6_command_367 (rfl) (by rw [kCmd_7 (zk_eq (by omega) (by omega) h1_7), if_pos (⟨h332_75, h340_79, h359_83⟩)]; exact ⟨rfl, rfl⟩)
  rcases Decidable.em (nI how = nI 8) with h1_8 | h1_n8
  · refine lv_tableIn (tgt := 368) hx hb dX6_command_22 (by rw [h1_8]; decide) (by rw [h1_8]; decide) (by rw [h1_8]; rfl) (by decide) ?_
    refine lv_iload hx hb dX6_command_368 (lv_at hl 0 rfl) ?_
    refine lv_if_ne (tgt := 414) hx hb dX6_command_370 (by decide) (fun h370_84 => ?_) (fun h370_84 => ?_)
    · have h370_84 := zk_ne0 (by omega) h370_84
      refine lv_iconst (v := nI 0) hx hb dX6_command_414 (by decide) ?_
      exact zk_retz K hQ hx hb hr hlocks hS hP hD (Nat.le_of_ble_eq_true rfl) (Nat.le_of_ble_eq_true rfl) dX6_command_415 (rfl) (by rw [kCmd_8 (zk_eq (by omega) (by omega) h1_8), if_neg (fun w => by omega)]; exact ⟨rfl, rfl⟩)
    · have h370_84 := zk_eq0 (by omega) h370_84
      refine lv_iload_n hx hb dX6_command_373 rfl (lv_at hl 5 rfl) ?_
      refine lv_sipush (v := nI 10000) hx hb dX6_command_374 (by decide) ?_
      refine zk_idivN hx hb dX6_command_377 (by omega) (by omega) (by omega) ?_
      have hP0 : va_P G.1 vwCl (([] : va_W) ++ ((zb_6 G b rf sz ac sp ou) ++ zb_r G (b 3) K)) s.heap := hP
      have hD0 : va_D A (([] : va_W) ++ ((zb_6 G b rf sz ac sp ou) ++ zb_r G (b 3) K)) := hD
      refine zk_callI (wr := (zb_6 G b rf sz ac sp ou) ++ zb_r G (b 3) K) (va_runS (As := [.int (nI (fv / 10000))]) (rest := []) ⟨hx, hb, hml, hown, hts⟩ (c_X6_isFamily l G (nI (fv / 10000)) _) (cwS 1 hts gX6_command_X6_isFamily rfl rfl rfl (by decide +kernel) ⟨Nat.le_of_ble_eq_true rfl, Nat.le_of_ble_eq_true rfl⟩) (zk_preS hE hA0 hS (zk_Papp hP0).1 (zk_Dapp hD0).1) rfl rfl hl.1 rfl (lv_room (Nat.le_of_ble_eq_true rfl)) dX6_command_378 ⟨Nat.le_of_ble_eq_true rfl, Nat.le_of_ble_eq_true rfl⟩) hP0 hD0 hS hA (fun r86 u87 H locs q88 hP hD hS => ?_)
      subst q88
      have hP : va_P G.1 vwCl ((zb_6 G b rf sz ac sp ou) ++ zb_r G (b 3) K) H := hP
      have hD : va_D A ((zb_6 G b rf sz ac sp ou) ++ zb_r G (b 3) K) := hD
      refine lv_if_eq (tgt := 414) hx hb dX6_command_381 (by decide) (fun h381_88 => ?_) (fun h381_88 => ?_)
      · have h381_88 := zk_b0 h381_88
        refine lv_iconst (v := nI 0) hx hb dX6_command_414 (by decide) ?_
        exact zk_retz K hQ hx hb hr hlocks hS hP hD (Nat.le_of_ble_eq_true rfl) (Nat.le_of_ble_eq_true rfl) dX6_command_415 (rfl) (by rw [kCmd_8 (zk_eq (by omega) (by omega) h1_8), if_neg (fun w => h381_88 w.2.1)]; exact ⟨rfl, rfl⟩)
      · have h381_88 := zk_b1 h381_88
        refine lv_aload_n hx hb dX6_command_384 rfl (lv_at hl 3 rfl) ?_
        refine va_get (D := G.1) (ci := 5) (v := .ref (b 3)) (C := RX6) (T := TX6) (N := 11) hx hb hts (fun _ h => List.mem_cons_of_mem _ (List.mem_append_right _ h)) hown hK hP 0 rfl rfl 4 (by decide) w1 (fun _ h9 => h9) rfl dX6_command_385 ?_
        refine lv_iload_n hx hb dX6_command_388 rfl (lv_at hl 5 rfl) ?_
        refine lv_sipush (v := nI 10000) hx hb dX6_command_389 (by decide) ?_
        refine zk_idivN hx hb dX6_command_392 (by omega) (by omega) (by omega) ?_
        have hP0 : va_P G.1 vwCl ((zb_r G (b 3) K) ++ (zb_6 G b rf sz ac sp ou)) H := zk_Pperm hP (show ((zb_6 G b rf sz ac sp ou) ++ zb_r G (b 3) K).Perm ((zb_r G (b 3) K) ++ (zb_6 G b rf sz ac sp ou)) from (show ((zb_6 G b rf sz ac sp ou) ++ zb_r G (b 3) K).Perm ((zb_r G (b 3) K) ++ zb_6 G b rf sz ac sp ou) from List.perm_append_comm).trans (List.Perm.of_eq (by simp only [List.append_assoc, List.append_nil, List.nil_append])))
        have hD0 : va_D A ((zb_r G (b 3) K) ++ (zb_6 G b rf sz ac sp ou)) := zk_Dperm hD (show ((zb_6 G b rf sz ac sp ou) ++ zb_r G (b 3) K).Perm ((zb_r G (b 3) K) ++ (zb_6 G b rf sz ac sp ou)) from (show ((zb_6 G b rf sz ac sp ou) ++ zb_r G (b 3) K).Perm ((zb_r G (b 3) K) ++ zb_6 G b rf sz ac sp ou) from List.perm_append_comm).trans (List.Perm.of_eq (by simp only [List.append_assoc, List.append_nil, List.nil_append])))
        refine zk_callI (wr := zb_6 G b rf sz ac sp ou) (va_runS (As := [.ref (b 3), .int (nI (fv / 10000))]) (rest := []) ⟨hx, hb, hml, hown, hts⟩ (c_X6_debt l G (b 3) K n t hI (nI (fv / 10000)) _) (cwS 2 hts gX6_command_X6_debt rfl rfl rfl (by decide +kernel) ⟨Nat.le_of_ble_eq_true rfl, Nat.le_of_ble_eq_true rfl⟩) (zk_preS hE hA0 hS (zk_Papp hP0).1 (zk_Dapp hD0).1) rfl rfl hl.1 rfl (lv_room (Nat.le_of_ble_eq_true rfl)) dX6_command_393 ⟨Nat.le_of_ble_eq_true rfl, Nat.le_of_ble_eq_true rfl⟩) hP0 hD0 hS hA (fun r90 u91 H locs q92 hP hD hS => ?_)
        subst q92
        have hP : va_P G.1 vwCl ((zb_6 G b rf sz ac sp ou) ++ zb_r G (b 3) K) H := zk_Pperm hP (show ((zb_6 G b rf sz ac sp ou) ++ zb_r G (b 3) K).Perm ((zb_r G (b 3) K) ++ (zb_6 G b rf sz ac sp ou)) from (show ((zb_6 G b rf sz ac sp ou) ++ zb_r G (b 3) K).Perm ((zb_r G (b 3) K) ++ zb_6 G b rf sz ac sp ou) from List.perm_append_comm).trans (List.Perm.of_eq (by simp only [List.append_assoc, List.append_nil, List.nil_append]))).symm
        have hD : va_D A ((zb_6 G b rf sz ac sp ou) ++ zb_r G (b 3) K) := zk_Dperm hD (show ((zb_6 G b rf sz ac sp ou) ++ zb_r G (b 3) K).Perm ((zb_r G (b 3) K) ++ (zb_6 G b rf sz ac sp ou)) from (show ((zb_6 G b rf sz ac sp ou) ++ zb_r G (b 3) K).Perm ((zb_r G (b 3) K) ++ zb_6 G b rf sz ac sp ou) from List.perm_append_comm).trans (List.Perm.of_eq (by simp only [List.append_assoc, List.append_nil, List.nil_append]))).symm
        refine lv_bipush (v := nI 10) hx hb dX6_command_396 (by decide) ?_
        refine lv_iload_n hx hb dX6_command_398 rfl (lv_at hl 5 rfl) ?_
        refine lv_bipush (v := nI 10) hx hb dX6_command_399 (by decide) ?_
        refine zk_idivN hx hb dX6_command_401 (by omega) (by omega) (by omega) ?_
        refine lv_sipush (v := nI 1000) hx hb dX6_command_402 (by decide) ?_
        refine zk_iremN hx hb dX6_command_405 (by omega) (by omega) (by omega) ?_
        refine zk_imulN hx hb dX6_command_406 ?_
        refine lv_icmp_gt (tgt := 414) hx hb dX6_command_407 (by decide) (fun h407_92 => ?_) (fun h407_92 => ?_)
        · have h407_92 := h407_92
          refine lv_iconst (v := nI 0) hx hb dX6_command_414 (by decide) ?_
          exact zk_retz K hQ hx hb hr hlocks hS hP hD (Nat.le_of_ble_eq_true rfl) (Nat.le_of_ble_eq_true rfl) dX6_command_415 (rfl) (by rw [kCmd_8 (zk_eq (by omega) (by omega) h1_8), if_neg (fun w => w.2.2 h407_92)]; exact ⟨rfl, rfl⟩)
        · have h407_92 := h407_92
          refine lv_iconst (v := nI 1) hx hb dX6_command_410 (by decide) ?_
          refine lv_goto (tgt := 415) hx hb dX6_command_411 (by decide) ?_
          exact zk_retz K hQ hx hb hr hlocks hS hP hD (Nat.le_of_ble_eq_true rfl) (Nat.le_of_ble_eq_true rfl) dX6_command_415 (rfl) (by rw [kCmd_8 (zk_eq (by omega) (by omega) h1_8), if_pos (⟨by omega, h381_88, h407_92⟩)]; exact ⟨rfl, rfl⟩)
  rcases Decidable.em (nI how = nI 9) with h1_9 | h1_n9
  · refine lv_tableIn (tgt := 416) hx hb dX6_command_22 (by rw [h1_9]; decide) (by rw [h1_9]; decide) (by rw [h1_9]; rfl) (by decide) ?_
    refine lv_iload_n hx hb dX6_command_416 rfl (lv_at hl 5 rfl) ?_
    refine lv_bipush (v := nI 100) hx hb dX6_command_417 (by decide) ?_
    refine lv_icmp_ge (tgt := 439) hx hb dX6_command_419 (by decide) (fun h419_93 => ?_) (fun h419_93 => ?_)
    · have h419_93 := zk_le (by omega) (by omega) h419_93
      refine lv_iconst (v := nI 0) hx hb dX6_command_439 (by decide) ?_
      exact zk_retz K hQ hx hb hr hlocks hS hP hD (Nat.le_of_ble_eq_true rfl) (Nat.le_of_ble_eq_true rfl) dX6_command_440 (rfl) (by rw [kCmd_9 (zk_eq (by omega) (by omega) h1_9), if_neg (fun w => by omega)]; exact ⟨rfl, rfl⟩)
    · have h419_93 := zk_nle (by omega) (by omega) h419_93
      refine lv_aload_n hx hb dX6_command_422 rfl (lv_at hl 3 rfl) ?_
      refine va_get (D := G.1) (ci := 5) (v := .ref (b 3)) (C := RX6) (T := TX6) (N := 11) hx hb hts (fun _ h => List.mem_cons_of_mem _ (List.mem_append_right _ h)) hown hK hP 0 rfl rfl 4 (by decide) w1 (fun _ h9 => h9) rfl dX6_command_423 ?_
      refine lv_iconst (v := -1) hx hb dX6_command_426 (by decide) ?_
      refine lv_iconst (v := -1) hx hb dX6_command_427 (by decide) ?_
      have hP0 : va_P G.1 vwCl ((zb_r G (b 3) K) ++ (zb_6 G b rf sz ac sp ou)) s.heap := zk_Pperm hP (show ((zb_6 G b rf sz ac sp ou) ++ zb_r G (b 3) K).Perm ((zb_r G (b 3) K) ++ (zb_6 G b rf sz ac sp ou)) from (show ((zb_6 G b rf sz ac sp ou) ++ zb_r G (b 3) K).Perm ((zb_r G (b 3) K) ++ zb_6 G b rf sz ac sp ou) from List.perm_append_comm).trans (List.Perm.of_eq (by simp only [List.append_assoc, List.append_nil, List.nil_append])))
      have hD0 : va_D A ((zb_r G (b 3) K) ++ (zb_6 G b rf sz ac sp ou)) := zk_Dperm hD (show ((zb_6 G b rf sz ac sp ou) ++ zb_r G (b 3) K).Perm ((zb_r G (b 3) K) ++ (zb_6 G b rf sz ac sp ou)) from (show ((zb_6 G b rf sz ac sp ou) ++ zb_r G (b 3) K).Perm ((zb_r G (b 3) K) ++ zb_6 G b rf sz ac sp ou) from List.perm_append_comm).trans (List.Perm.of_eq (by simp only [List.append_assoc, List.append_nil, List.nil_append])))
      refine zk_callI (wr := zb_6 G b rf sz ac sp ou) (va_runS (As := [.ref (b 3), .int (-1), .int (-1)]) (rest := []) ⟨hx, hb, hml, hown, hts⟩ (c_X6_served l G (b 3) K n t hI (-1) (-1) _) (cwS 3 hts gX6_command_X6_served rfl rfl rfl (by decide +kernel) ⟨Nat.le_of_ble_eq_true rfl, Nat.le_of_ble_eq_true rfl⟩) (zk_preS hE hA0 hS (zk_Papp hP0).1 (zk_Dapp hD0).1) rfl rfl hl.1 rfl (lv_room (Nat.le_of_ble_eq_true rfl)) dX6_command_428 ⟨Nat.le_of_ble_eq_true rfl, Nat.le_of_ble_eq_true rfl⟩) hP0 hD0 hS hA (fun r95 u96 H locs q97 hP hD hS => ?_)
      subst q97
      have hP : va_P G.1 vwCl ((zb_6 G b rf sz ac sp ou) ++ zb_r G (b 3) K) H := zk_Pperm hP (show ((zb_6 G b rf sz ac sp ou) ++ zb_r G (b 3) K).Perm ((zb_r G (b 3) K) ++ (zb_6 G b rf sz ac sp ou)) from (show ((zb_6 G b rf sz ac sp ou) ++ zb_r G (b 3) K).Perm ((zb_r G (b 3) K) ++ zb_6 G b rf sz ac sp ou) from List.perm_append_comm).trans (List.Perm.of_eq (by simp only [List.append_assoc, List.append_nil, List.nil_append]))).symm
      have hD : va_D A ((zb_6 G b rf sz ac sp ou) ++ zb_r G (b 3) K) := zk_Dperm hD (show ((zb_6 G b rf sz ac sp ou) ++ zb_r G (b 3) K).Perm ((zb_r G (b 3) K) ++ (zb_6 G b rf sz ac sp ou)) from (show ((zb_6 G b rf sz ac sp ou) ++ zb_r G (b 3) K).Perm ((zb_r G (b 3) K) ++ zb_6 G b rf sz ac sp ou) from List.perm_append_comm).trans (List.Perm.of_eq (by simp only [List.append_assoc, List.append_nil, List.nil_append]))).symm
      refine lv_iload_n hx hb dX6_command_431 rfl (lv_at hl 5 rfl) ?_
      refine lv_icmp_lt (tgt := 439) hx hb dX6_command_432 (by decide) (fun h432_97 => ?_) (fun h432_97 => ?_)
      · have h432_97 := h432_97
        refine lv_iconst (v := nI 0) hx hb dX6_command_439 (by decide) ?_
        exact zk_retz K hQ hx hb hr hlocks hS hP hD (Nat.le_of_ble_eq_true rfl) (Nat.le_of_ble_eq_true rfl) dX6_command_440 (rfl) (by rw [kCmd_9 (zk_eq (by omega) (by omega) h1_9), if_neg (fun w => w.2 h432_97)]; exact ⟨rfl, rfl⟩)
      · have h432_97 := h432_97
        refine lv_iconst (v := nI 1) hx hb dX6_command_435 (by decide) ?_
        refine lv_goto (tgt := 440) hx hb dX6_command_436 (by decide) ?_
        exact zk_retz K hQ hx hb hr hlocks hS hP hD (Nat.le_of_ble_eq_true rfl) (Nat.le_of_ble_eq_true rfl) dX6_command_440 (rfl) (by rw [kCmd_9 (zk_eq (by omega) (by omega) h1_9), if_pos (⟨by omega, h432_97⟩)]; exact ⟨rfl, rfl⟩)
  refine lv_tableOut (tgt := 441) hx hb dX6_command_22 (zk_out (1) 9 (fun k hk z => by
        rcases (show k = 0 ∨ k = 1 ∨ k = 2 ∨ k = 3 ∨ k = 4 ∨ k = 5 ∨ k = 6 ∨ k = 7 ∨ k = 8 by omega) with rfl | rfl | rfl | rfl | rfl | rfl | rfl | rfl | rfl
        · exact h1_n1 (zk_toI z (by decide))
        · exact h1_n2 (zk_toI z (by decide))
        · exact h1_n3 (zk_toI z (by decide))
        · exact h1_n4 (zk_toI z (by decide))
        · exact h1_n5 (zk_toI z (by decide))
        · exact h1_n6 (zk_toI z (by decide))
        · exact h1_n7 (zk_toI z (by decide))
        · exact h1_n8 (zk_toI z (by decide))
        · exact h1_n9 (zk_toI z (by decide)))) (by decide) ?_
  refine lv_iconst (v := nI 0) hx hb dX6_command_441 (by decide) ?_
  exact zk_retz K hQ hx hb hr hlocks hS hP hD (Nat.le_of_ble_eq_true rfl) (Nat.le_of_ble_eq_true rfl) dX6_command_442 (rfl) (by rw [kCmd_no (fun z => h1_n1 (by rw [z])) (fun z => h1_n2 (by rw [z])) (fun z => h1_n3 (by rw [z])) (fun z => h1_n4 (by rw [z])) (fun z => h1_n5 (by rw [z])) (fun z => h1_n6 (by rw [z])) (fun z => h1_n7 (by rw [z])) (fun z => h1_n8 (by rw [z])) (fun z => h1_n9 (by rw [z]))]; exact ⟨rfl, rfl⟩)

abbrev rmX6_turn : Room := { frames := 5, cells := 0, slots := 0, locals := 120 }
set_option maxHeartbeats 4000000 in
set_option maxRecDepth 100000 in
/-- a turn of a simulation -/
theorem c_X6_turn (l : Launch) (G : zk_G) (b : Nat → Nat) (rf sz ac sp ou : Int32) (K : zL) (n t : Nat) (hI : sInv K n t) (hp0 : ¬ K 0 2 < nI 1) (g : Nat) (hg : g < 2 ^ 31) : zk_V (S := zL) l yX6_turn wsX6_turn rmX6_turn G [.ref (b 0), .int (nI g)] ((zb_6 G b rf sz ac sp ou) ++ zb_r G (b 3) K) (fun u => u = kTurn K n t g) (fun u => zb_6 G b rf sz ac sp ou ++ zb_r G (b 3) u) := by
  refine zk_bodyV (cc := cX6_turn) (maxL := 5) (ret := none) (by decide) rfl (Nat.le_of_ble_eq_true rfl) ?_
  intro p E0 s m args below meth cd A ls Q hF hQ
  obtain ⟨hx, hb, hml, hr, hts, hown, hlocks, -, hE, hP, hD, hS, hA, hA0, hl⟩ := hF
  have hK := hE.1
  have hl : lv_has ls 5 [(0, .ref (b 0)), (1, .int (nI g))] := hl
  obtain ⟨hn, hn12, ht, ht40, hfam, hpay⟩ := id hI
  have w1 := hts _ (List.mem_of_getElem? (l := wsX6_turn) (i := 1) (a := Cond.fieldLink RX6 16 "MealAccountsModel" "trial" "[I") rfl)
  refine lv_iload_n hx hb dX6_turn_0 rfl (lv_at hl 1 rfl) ?_
  refine lv_bipush (v := nI 16) hx hb dX6_turn_1 (by decide) ?_
  refine zk_idivN hx hb dX6_turn_3 (by omega) (by omega) (by omega) ?_
  refine lv_aload_n hx hb dX6_turn_4 rfl (lv_at hl 0 rfl) ?_
  refine va_get (D := G.1) (ci := 5) (v := .ref (b 3)) (C := RX6) (T := TX6) (N := 11) hx hb hts (fun _ h => List.mem_cons_of_mem _ (List.mem_append_right _ h)) hown hK hP 0 rfl rfl 4 (by decide) w1 (fun _ h9 => h9) rfl dX6_turn_5 ?_
  refine lv_iconst (v := nI 1) hx hb dX6_turn_8 (by decide) ?_
  refine zk_ialdN hx hb hK hP 1 0 rfl rfl (k := 1) (n := 1555) (by omega) (by omega) dX6_turn_9 ?_
  refine zk_top (zrow_l K (c := 1) (by omega)) ?_
  refine zk_top hI.1 ?_
  refine lv_if_ne (tgt := 17) hx hb dX6_turn_10 (by decide) (fun h10_0 => ?_) (fun h10_0 => ?_)
  · have h10_0 := zk_ne0 (by omega) h10_0
    refine lv_aload_n hx hb dX6_turn_17 rfl (lv_at hl 0 rfl) ?_
    refine va_get (D := G.1) (ci := 5) (v := .ref (b 3)) (C := RX6) (T := TX6) (N := 11) hx hb hts (fun _ h => List.mem_cons_of_mem _ (List.mem_append_right _ h)) hown hK hP 0 rfl rfl 4 (by decide) w1 (fun _ h9 => h9) rfl dX6_turn_18 ?_
    refine lv_iconst (v := nI 1) hx hb dX6_turn_21 (by decide) ?_
    refine zk_ialdN hx hb hK hP 1 0 rfl rfl (k := 1) (n := 1555) (by omega) (by omega) dX6_turn_22 ?_
    refine zk_top (zrow_l K (c := 1) (by omega)) ?_
    refine zk_top hI.1 ?_
    refine zk_iremN hx hb dX6_turn_23 (by omega) (by omega) (by omega) ?_
    refine zk_top (show nI ((g / 16) % n) = nI (g / 16 % max n 1) by rw [show max n 1 = n by omega]) ?_
    refine lv_istore_n (lv' := [(2, .int (nI (g / 16 % max n 1))), (0, .ref (b 0)), (1, .int (nI g))]) hx hb dX6_turn_24 rfl hl (by decide) rfl (fun ls hl => ?_)
    refine lv_iload_n hx hb dX6_turn_25 rfl (lv_at hl 2 rfl) ?_
    refine lv_sipush (v := nI 256) hx hb dX6_turn_26 (by decide) ?_
    refine zk_idivN hx hb dX6_turn_29 (by omega) (by omega) (by omega) ?_
    refine lv_bipush (v := nI 40) hx hb dX6_turn_30 (by decide) ?_
    refine zk_iremN hx hb dX6_turn_32 (by omega) (by omega) (by omega) ?_
    refine lv_istore_n (lv' := [(3, .int (nI ((g / 256) % 40))), (2, .int (nI (g / 16 % max n 1))), (0, .ref (b 0)), (1, .int (nI g))]) hx hb dX6_turn_33 rfl hl (by decide) rfl (fun ls hl => ?_)
    refine lv_iload_n hx hb dX6_turn_34 rfl (lv_at hl 3 rfl) ?_
    refine lv_bipush (v := nI 16) hx hb dX6_turn_35 (by decide) ?_
    refine zk_iremN hx hb dX6_turn_37 (by omega) (by omega) (by omega) ?_
    refine lv_istore (lv' := [(4, .int (nI (g % 16))), (3, .int (nI ((g / 256) % 40))), (2, .int (nI (g / 16 % max n 1))), (0, .ref (b 0)), (1, .int (nI g))]) hx hb dX6_turn_38 hl (by decide) rfl (fun ls hl => ?_)
    refine lv_iload hx hb dX6_turn_40 (lv_at hl 0 rfl) ?_
    refine lv_if_ne (tgt := 72) hx hb dX6_turn_42 (by decide) (fun h42_1 => ?_) (fun h42_1 => ?_)
    · have h42_1 := zk_ne0 (by omega) h42_1
      refine lv_iload hx hb dX6_turn_72 (lv_at hl 0 rfl) ?_
      refine lv_bipush (v := nI 7) hx hb dX6_turn_74 (by decide) ?_
      refine lv_icmp_ge (tgt := 105) hx hb dX6_turn_76 (by decide) (fun h76_2 => ?_) (fun h76_2 => ?_)
      · have h76_2 := zk_le (by omega) (by omega) h76_2
        refine lv_iload hx hb dX6_turn_105 (lv_at hl 0 rfl) ?_
        refine lv_bipush (v := nI 9) hx hb dX6_turn_107 (by decide) ?_
        refine lv_icmp_ge (tgt := 138) hx hb dX6_turn_109 (by decide) (fun h109_3 => ?_) (fun h109_3 => ?_)
        · have h109_3 := zk_le (by omega) (by omega) h109_3
          refine lv_iload hx hb dX6_turn_138 (lv_at hl 0 rfl) ?_
          refine lv_bipush (v := nI 9) hx hb dX6_turn_140 (by decide) ?_
          refine lv_icmp_ne (tgt := 162) hx hb dX6_turn_142 (by decide) (fun h142_4 => ?_) (fun h142_4 => ?_)
          · have h142_4 := zk_ne (by omega) (by omega) h142_4
            refine lv_iload hx hb dX6_turn_162 (lv_at hl 0 rfl) ?_
            refine lv_bipush (v := nI 10) hx hb dX6_turn_164 (by decide) ?_
            refine lv_icmp_ne (tgt := 187) hx hb dX6_turn_166 (by decide) (fun h166_5 => ?_) (fun h166_5 => ?_)
            · have h166_5 := zk_ne (by omega) (by omega) h166_5
              refine lv_iload hx hb dX6_turn_187 (lv_at hl 0 rfl) ?_
              refine lv_bipush (v := nI 11) hx hb dX6_turn_189 (by decide) ?_
              refine lv_icmp_ne (tgt := 216) hx hb dX6_turn_191 (by decide) (fun h191_6 => ?_) (fun h191_6 => ?_)
              · have h191_6 := zk_ne (by omega) (by omega) h191_6
                refine lv_iload hx hb dX6_turn_216 (lv_at hl 0 rfl) ?_
                refine lv_bipush (v := nI 15) hx hb dX6_turn_218 (by decide) ?_
                refine lv_icmp_ge (tgt := 239) hx hb dX6_turn_220 (by decide) (fun h220_7 => ?_) (fun h220_7 => ?_)
                · have h220_7 := zk_le (by omega) (by omega) h220_7
                  refine lv_aload_n hx hb dX6_turn_239 rfl (lv_at hl 3 rfl) ?_
                  refine va_get (D := G.1) (ci := 5) (v := .ref (b 3)) (C := RX6) (T := TX6) (N := 11) hx hb hts (fun _ h => List.mem_cons_of_mem _ (List.mem_append_right _ h)) hown hK hP 0 rfl rfl 4 (by decide) w1 (fun _ h9 => h9) rfl dX6_turn_240 ?_
                  refine lv_iload_n hx hb dX6_turn_243 rfl (lv_at hl 4 rfl) ?_
                  refine lv_bipush (v := nI 16) hx hb dX6_turn_244 (by decide) ?_
                  refine zk_idivN hx hb dX6_turn_246 (by omega) (by omega) (by omega) ?_
                  refine lv_iconst (v := nI 5) hx hb dX6_turn_247 (by decide) ?_
                  refine zk_iremN hx hb dX6_turn_248 (by omega) (by omega) (by omega) ?_
                  have hP0 : va_P G.1 vwCl ((zb_r G (b 3) K) ++ (zb_6 G b rf sz ac sp ou)) s.heap := zk_Pperm hP (show ((zb_6 G b rf sz ac sp ou) ++ zb_r G (b 3) K).Perm ((zb_r G (b 3) K) ++ (zb_6 G b rf sz ac sp ou)) from (show ((zb_6 G b rf sz ac sp ou) ++ zb_r G (b 3) K).Perm ((zb_r G (b 3) K) ++ zb_6 G b rf sz ac sp ou) from List.perm_append_comm).trans (List.Perm.of_eq (by simp only [List.append_assoc, List.append_nil, List.nil_append])))
                  have hD0 : va_D A ((zb_r G (b 3) K) ++ (zb_6 G b rf sz ac sp ou)) := zk_Dperm hD (show ((zb_6 G b rf sz ac sp ou) ++ zb_r G (b 3) K).Perm ((zb_r G (b 3) K) ++ (zb_6 G b rf sz ac sp ou)) from (show ((zb_6 G b rf sz ac sp ou) ++ zb_r G (b 3) K).Perm ((zb_r G (b 3) K) ++ zb_6 G b rf sz ac sp ou) from List.perm_append_comm).trans (List.Perm.of_eq (by simp only [List.append_assoc, List.append_nil, List.nil_append])))
                  refine zk_callI (wr := zb_6 G b rf sz ac sp ou) (va_runS (As := [.ref (b 3), .int (nI ((g / 16) % 5))]) (rest := []) ⟨hx, hb, hml, hown, hts⟩ (c_X6_debt l G (b 3) K n t hI (nI ((g / 16) % 5)) _) (cwS 2 hts gX6_turn_X6_debt rfl rfl rfl (by decide +kernel) ⟨Nat.le_of_ble_eq_true rfl, Nat.le_of_ble_eq_true rfl⟩) (zk_preS hE hA0 hS (zk_Papp hP0).1 (zk_Dapp hD0).1) rfl rfl hl.1 rfl (lv_room (Nat.le_of_ble_eq_true rfl)) dX6_turn_249 ⟨Nat.le_of_ble_eq_true rfl, Nat.le_of_ble_eq_true rfl⟩) hP0 hD0 hS hA (fun r9 u10 H locs q11 hP hD hS => ?_)
                  subst q11
                  have hP : va_P G.1 vwCl ((zb_6 G b rf sz ac sp ou) ++ zb_r G (b 3) K) H := zk_Pperm hP (show ((zb_6 G b rf sz ac sp ou) ++ zb_r G (b 3) K).Perm ((zb_r G (b 3) K) ++ (zb_6 G b rf sz ac sp ou)) from (show ((zb_6 G b rf sz ac sp ou) ++ zb_r G (b 3) K).Perm ((zb_r G (b 3) K) ++ zb_6 G b rf sz ac sp ou) from List.perm_append_comm).trans (List.Perm.of_eq (by simp only [List.append_assoc, List.append_nil, List.nil_append]))).symm
                  have hD : va_D A ((zb_6 G b rf sz ac sp ou) ++ zb_r G (b 3) K) := zk_Dperm hD (show ((zb_6 G b rf sz ac sp ou) ++ zb_r G (b 3) K).Perm ((zb_r G (b 3) K) ++ (zb_6 G b rf sz ac sp ou)) from (show ((zb_6 G b rf sz ac sp ou) ++ zb_r G (b 3) K).Perm ((zb_r G (b 3) K) ++ zb_6 G b rf sz ac sp ou) from List.perm_append_comm).trans (List.Perm.of_eq (by simp only [List.append_assoc, List.append_nil, List.nil_append]))).symm
                  refine lv_if_le (tgt := 269) hx hb dX6_turn_252 (by decide) (fun h252_11 => ?_) (fun h252_11 => ?_)
                  · have h252_11 := zk_l1 h252_11
                    exact zk_retv K hQ hx hb hr hlocks hS hP hD (Nat.le_of_ble_eq_true rfl) (Nat.le_of_ble_eq_true rfl) dX6_turn_269 (by unfold kTurn; rw [if_neg (show ¬ g % 16 = 0 by omega), if_neg (show ¬ g % 16 < 7 by omega), if_neg (show ¬ g % 16 < 9 by omega), if_neg (show ¬ g % 16 = 9 by omega), if_neg (show ¬ g % 16 = 10 by omega), if_neg (show ¬ g % 16 = 11 by omega), if_neg (show ¬ g % 16 < 15 by omega)]; exact (if_neg h252_11).symm)
                  · have h252_11 := zk_l2 h252_11
                    refine lv_aload_n hx hb dX6_turn_255 rfl (lv_at hl 3 rfl) ?_
                    refine va_get (D := G.1) (ci := 5) (v := .ref (b 3)) (C := RX6) (T := TX6) (N := 11) hx hb hts (fun _ h => List.mem_cons_of_mem _ (List.mem_append_right _ h)) hown hK hP 0 rfl rfl 4 (by decide) w1 (fun _ h9 => h9) rfl dX6_turn_256 ?_
                    refine lv_iload_n hx hb dX6_turn_259 rfl (lv_at hl 4 rfl) ?_
                    refine lv_bipush (v := nI 16) hx hb dX6_turn_260 (by decide) ?_
                    refine zk_idivN hx hb dX6_turn_262 (by omega) (by omega) (by omega) ?_
                    refine lv_iconst (v := nI 5) hx hb dX6_turn_263 (by decide) ?_
                    refine zk_iremN hx hb dX6_turn_264 (by omega) (by omega) (by omega) ?_
                    have hP0 : va_P G.1 vwCl ((zb_r G (b 3) K) ++ (zb_6 G b rf sz ac sp ou)) H := zk_Pperm hP (show ((zb_6 G b rf sz ac sp ou) ++ zb_r G (b 3) K).Perm ((zb_r G (b 3) K) ++ (zb_6 G b rf sz ac sp ou)) from (show ((zb_6 G b rf sz ac sp ou) ++ zb_r G (b 3) K).Perm ((zb_r G (b 3) K) ++ zb_6 G b rf sz ac sp ou) from List.perm_append_comm).trans (List.Perm.of_eq (by simp only [List.append_assoc, List.append_nil, List.nil_append])))
                    have hD0 : va_D A ((zb_r G (b 3) K) ++ (zb_6 G b rf sz ac sp ou)) := zk_Dperm hD (show ((zb_6 G b rf sz ac sp ou) ++ zb_r G (b 3) K).Perm ((zb_r G (b 3) K) ++ (zb_6 G b rf sz ac sp ou)) from (show ((zb_6 G b rf sz ac sp ou) ++ zb_r G (b 3) K).Perm ((zb_r G (b 3) K) ++ zb_6 G b rf sz ac sp ou) from List.perm_append_comm).trans (List.Perm.of_eq (by simp only [List.append_assoc, List.append_nil, List.nil_append])))
                    refine zk_callI (wr := zb_6 G b rf sz ac sp ou) (va_runS (As := [.ref (b 3), .int (nI ((g / 16) % 5))]) (rest := []) ⟨hx, hb, hml, hown, hts⟩ (c_X6_writeOffOn l G (b 3) K n t hI ((g / 16) % 5) (by omega) _) (cwS 2 hts gX6_turn_X6_writeOffOn rfl rfl rfl (by decide +kernel) ⟨Nat.le_of_ble_eq_true rfl, Nat.le_of_ble_eq_true rfl⟩) (zk_preS hE hA0 hS (zk_Papp hP0).1 (zk_Dapp hD0).1) rfl rfl hl.1 rfl (lv_room (Nat.le_of_ble_eq_true rfl)) dX6_turn_265 ⟨Nat.le_of_ble_eq_true rfl, Nat.le_of_ble_eq_true rfl⟩) hP0 hD0 hS hA (fun r13 u14 H locs q15 hP hD hS => ?_)
                    obtain ⟨er13, eL16⟩ := q15
                    have hI17 : sInv u14 n t := by rw [eL16]; exact sInv_write hI
                    have hP : va_P G.1 vwCl ((zb_6 G b rf sz ac sp ou) ++ zb_r G (b 3) u14) H := zk_Pperm hP (show ((zb_6 G b rf sz ac sp ou) ++ zb_r G (b 3) u14).Perm ((zb_r G (b 3) u14) ++ (zb_6 G b rf sz ac sp ou)) from (show ((zb_6 G b rf sz ac sp ou) ++ zb_r G (b 3) u14).Perm ((zb_r G (b 3) u14) ++ zb_6 G b rf sz ac sp ou) from List.perm_append_comm).trans (List.Perm.of_eq (by simp only [List.append_assoc, List.append_nil, List.nil_append]))).symm
                    have hD : va_D A ((zb_6 G b rf sz ac sp ou) ++ zb_r G (b 3) u14) := zk_Dperm hD (show ((zb_6 G b rf sz ac sp ou) ++ zb_r G (b 3) u14).Perm ((zb_r G (b 3) u14) ++ (zb_6 G b rf sz ac sp ou)) from (show ((zb_6 G b rf sz ac sp ou) ++ zb_r G (b 3) u14).Perm ((zb_r G (b 3) u14) ++ zb_6 G b rf sz ac sp ou) from List.perm_append_comm).trans (List.Perm.of_eq (by simp only [List.append_assoc, List.append_nil, List.nil_append]))).symm
                    refine lv_pop hx hb dX6_turn_268 rfl ?_
                    exact zk_retv u14 hQ hx hb hr hlocks hS hP hD (Nat.le_of_ble_eq_true rfl) (Nat.le_of_ble_eq_true rfl) dX6_turn_269 (by unfold kTurn; rw [if_neg (show ¬ g % 16 = 0 by omega), if_neg (show ¬ g % 16 < 7 by omega), if_neg (show ¬ g % 16 < 9 by omega), if_neg (show ¬ g % 16 = 9 by omega), if_neg (show ¬ g % 16 = 10 by omega), if_neg (show ¬ g % 16 = 11 by omega), if_neg (show ¬ g % 16 < 15 by omega)]; exact (eL16).trans (if_pos h252_11).symm)
                · have h220_7 := zk_nle (by omega) (by omega) h220_7
                  refine lv_aload_n hx hb dX6_turn_223 rfl (lv_at hl 3 rfl) ?_
                  refine va_get (D := G.1) (ci := 5) (v := .ref (b 3)) (C := RX6) (T := TX6) (N := 11) hx hb hts (fun _ h => List.mem_cons_of_mem _ (List.mem_append_right _ h)) hown hK hP 0 rfl rfl 4 (by decide) w1 (fun _ h9 => h9) rfl dX6_turn_224 ?_
                  refine lv_bipush (v := nI 100) hx hb dX6_turn_227 (by decide) ?_
                  refine lv_iconst (v := nI 1) hx hb dX6_turn_229 (by decide) ?_
                  refine lv_iconst (v := nI 0) hx hb dX6_turn_230 (by decide) ?_
                  refine lv_iconst (v := nI 0) hx hb dX6_turn_231 (by decide) ?_
                  have hP0 : va_P G.1 vwCl ((zb_r G (b 3) K) ++ (zb_6 G b rf sz ac sp ou)) s.heap := zk_Pperm hP (show ((zb_6 G b rf sz ac sp ou) ++ zb_r G (b 3) K).Perm ((zb_r G (b 3) K) ++ (zb_6 G b rf sz ac sp ou)) from (show ((zb_6 G b rf sz ac sp ou) ++ zb_r G (b 3) K).Perm ((zb_r G (b 3) K) ++ zb_6 G b rf sz ac sp ou) from List.perm_append_comm).trans (List.Perm.of_eq (by simp only [List.append_assoc, List.append_nil, List.nil_append])))
                  have hD0 : va_D A ((zb_r G (b 3) K) ++ (zb_6 G b rf sz ac sp ou)) := zk_Dperm hD (show ((zb_6 G b rf sz ac sp ou) ++ zb_r G (b 3) K).Perm ((zb_r G (b 3) K) ++ (zb_6 G b rf sz ac sp ou)) from (show ((zb_6 G b rf sz ac sp ou) ++ zb_r G (b 3) K).Perm ((zb_r G (b 3) K) ++ zb_6 G b rf sz ac sp ou) from List.perm_append_comm).trans (List.Perm.of_eq (by simp only [List.append_assoc, List.append_nil, List.nil_append])))
                  refine zk_callI (wr := zb_6 G b rf sz ac sp ou) (va_runS (As := [.ref (b 3), .int (nI 100), .int (nI 1), .int (nI 0), .int (nI 0)]) (rest := []) ⟨hx, hb, hml, hown, hts⟩ (c_X6_does l G (b 3) K n t hI (nI 100) (nI 1) (nI 0) (nI 0) (kDok_d _) hp0 _) (cwS 5 hts gX6_turn_X6_does rfl rfl rfl (by decide +kernel) ⟨Nat.le_of_ble_eq_true rfl, Nat.le_of_ble_eq_true rfl⟩) (zk_preS hE hA0 hS (zk_Papp hP0).1 (zk_Dapp hD0).1) rfl rfl hl.1 rfl (lv_room (Nat.le_of_ble_eq_true rfl)) dX6_turn_232 ⟨Nat.le_of_ble_eq_true rfl, Nat.le_of_ble_eq_true rfl⟩) hP0 hD0 hS hA (fun r18 u19 H locs q20 hP hD hS => ?_)
                  obtain ⟨er18, eL21⟩ := q20
                  have hP : va_P G.1 vwCl ((zb_6 G b rf sz ac sp ou) ++ zb_r G (b 3) u19) H := zk_Pperm hP (show ((zb_6 G b rf sz ac sp ou) ++ zb_r G (b 3) u19).Perm ((zb_r G (b 3) u19) ++ (zb_6 G b rf sz ac sp ou)) from (show ((zb_6 G b rf sz ac sp ou) ++ zb_r G (b 3) u19).Perm ((zb_r G (b 3) u19) ++ zb_6 G b rf sz ac sp ou) from List.perm_append_comm).trans (List.Perm.of_eq (by simp only [List.append_assoc, List.append_nil, List.nil_append]))).symm
                  have hD : va_D A ((zb_6 G b rf sz ac sp ou) ++ zb_r G (b 3) u19) := zk_Dperm hD (show ((zb_6 G b rf sz ac sp ou) ++ zb_r G (b 3) u19).Perm ((zb_r G (b 3) u19) ++ (zb_6 G b rf sz ac sp ou)) from (show ((zb_6 G b rf sz ac sp ou) ++ zb_r G (b 3) u19).Perm ((zb_r G (b 3) u19) ++ zb_6 G b rf sz ac sp ou) from List.perm_append_comm).trans (List.Perm.of_eq (by simp only [List.append_assoc, List.append_nil, List.nil_append]))).symm
                  refine lv_pop hx hb dX6_turn_235 rfl ?_
                  refine lv_goto (tgt := 269) hx hb dX6_turn_236 (by decide) ?_
                  exact zk_retv u19 hQ hx hb hr hlocks hS hP hD (Nat.le_of_ble_eq_true rfl) (Nat.le_of_ble_eq_true rfl) dX6_turn_269 (by unfold kTurn; rw [if_neg (show ¬ g % 16 = 0 by omega), if_neg (show ¬ g % 16 < 7 by omega), if_neg (show ¬ g % 16 < 9 by omega), if_neg (show ¬ g % 16 = 9 by omega), if_neg (show ¬ g % 16 = 10 by omega), if_neg (show ¬ g % 16 = 11 by omega), if_pos (show g % 16 < 15 by omega)]; exact eL21)
              · have h191_6 := zk_eq (by omega) (by omega) h191_6
                refine lv_aload_n hx hb dX6_turn_194 rfl (lv_at hl 3 rfl) ?_
                refine va_get (D := G.1) (ci := 5) (v := .ref (b 3)) (C := RX6) (T := TX6) (N := 11) hx hb hts (fun _ h => List.mem_cons_of_mem _ (List.mem_append_right _ h)) hown hK hP 0 rfl rfl 4 (by decide) w1 (fun _ h9 => h9) rfl dX6_turn_195 ?_
                refine lv_bipush (v := nI 109) hx hb dX6_turn_198 (by decide) ?_
                refine lv_iload_n hx hb dX6_turn_200 rfl (lv_at hl 1 rfl) ?_
                refine lv_iload_n hx hb dX6_turn_201 rfl (lv_at hl 4 rfl) ?_
                refine lv_sipush (v := nI 16384) hx hb dX6_turn_202 (by decide) ?_
                refine zk_idivN hx hb dX6_turn_205 (by omega) (by omega) (by omega) ?_
                refine lv_iconst (v := nI 4) hx hb dX6_turn_206 (by decide) ?_
                refine zk_iremN hx hb dX6_turn_207 (by omega) (by omega) (by omega) ?_
                refine lv_iconst (v := nI 0) hx hb dX6_turn_208 (by decide) ?_
                have hP0 : va_P G.1 vwCl ((zb_r G (b 3) K) ++ (zb_6 G b rf sz ac sp ou)) s.heap := zk_Pperm hP (show ((zb_6 G b rf sz ac sp ou) ++ zb_r G (b 3) K).Perm ((zb_r G (b 3) K) ++ (zb_6 G b rf sz ac sp ou)) from (show ((zb_6 G b rf sz ac sp ou) ++ zb_r G (b 3) K).Perm ((zb_r G (b 3) K) ++ zb_6 G b rf sz ac sp ou) from List.perm_append_comm).trans (List.Perm.of_eq (by simp only [List.append_assoc, List.append_nil, List.nil_append])))
                have hD0 : va_D A ((zb_r G (b 3) K) ++ (zb_6 G b rf sz ac sp ou)) := zk_Dperm hD (show ((zb_6 G b rf sz ac sp ou) ++ zb_r G (b 3) K).Perm ((zb_r G (b 3) K) ++ (zb_6 G b rf sz ac sp ou)) from (show ((zb_6 G b rf sz ac sp ou) ++ zb_r G (b 3) K).Perm ((zb_r G (b 3) K) ++ zb_6 G b rf sz ac sp ou) from List.perm_append_comm).trans (List.Perm.of_eq (by simp only [List.append_assoc, List.append_nil, List.nil_append])))
                refine zk_callI (wr := zb_6 G b rf sz ac sp ou) (va_runS (As := [.ref (b 3), .int (nI 109), .int (nI ((g / 256) % 40)), .int (nI ((g / 16384) % 4)), .int (nI 0)]) (rest := []) ⟨hx, hb, hml, hown, hts⟩ (c_X6_does l G (b 3) K n t hI (nI 109) (nI ((g / 256) % 40)) (nI ((g / 16384) % 4)) (nI 0) (kDok_m (by omega)) hp0 _) (cwS 5 hts gX6_turn_X6_does rfl rfl rfl (by decide +kernel) ⟨Nat.le_of_ble_eq_true rfl, Nat.le_of_ble_eq_true rfl⟩) (zk_preS hE hA0 hS (zk_Papp hP0).1 (zk_Dapp hD0).1) rfl rfl hl.1 rfl (lv_room (Nat.le_of_ble_eq_true rfl)) dX6_turn_209 ⟨Nat.le_of_ble_eq_true rfl, Nat.le_of_ble_eq_true rfl⟩) hP0 hD0 hS hA (fun r22 u23 H locs q24 hP hD hS => ?_)
                obtain ⟨er22, eL25⟩ := q24
                have hP : va_P G.1 vwCl ((zb_6 G b rf sz ac sp ou) ++ zb_r G (b 3) u23) H := zk_Pperm hP (show ((zb_6 G b rf sz ac sp ou) ++ zb_r G (b 3) u23).Perm ((zb_r G (b 3) u23) ++ (zb_6 G b rf sz ac sp ou)) from (show ((zb_6 G b rf sz ac sp ou) ++ zb_r G (b 3) u23).Perm ((zb_r G (b 3) u23) ++ zb_6 G b rf sz ac sp ou) from List.perm_append_comm).trans (List.Perm.of_eq (by simp only [List.append_assoc, List.append_nil, List.nil_append]))).symm
                have hD : va_D A ((zb_6 G b rf sz ac sp ou) ++ zb_r G (b 3) u23) := zk_Dperm hD (show ((zb_6 G b rf sz ac sp ou) ++ zb_r G (b 3) u23).Perm ((zb_r G (b 3) u23) ++ (zb_6 G b rf sz ac sp ou)) from (show ((zb_6 G b rf sz ac sp ou) ++ zb_r G (b 3) u23).Perm ((zb_r G (b 3) u23) ++ zb_6 G b rf sz ac sp ou) from List.perm_append_comm).trans (List.Perm.of_eq (by simp only [List.append_assoc, List.append_nil, List.nil_append]))).symm
                refine lv_pop hx hb dX6_turn_212 rfl ?_
                refine lv_goto (tgt := 269) hx hb dX6_turn_213 (by decide) ?_
                exact zk_retv u23 hQ hx hb hr hlocks hS hP hD (Nat.le_of_ble_eq_true rfl) (Nat.le_of_ble_eq_true rfl) dX6_turn_269 (by unfold kTurn; rw [if_neg (show ¬ g % 16 = 0 by omega), if_neg (show ¬ g % 16 < 7 by omega), if_neg (show ¬ g % 16 < 9 by omega), if_neg (show ¬ g % 16 = 9 by omega), if_neg (show ¬ g % 16 = 10 by omega), if_pos (show g % 16 = 11 by omega)]; exact eL25)
            · have h166_5 := zk_eq (by omega) (by omega) h166_5
              refine lv_aload_n hx hb dX6_turn_169 rfl (lv_at hl 3 rfl) ?_
              refine va_get (D := G.1) (ci := 5) (v := .ref (b 3)) (C := RX6) (T := TX6) (N := 11) hx hb hts (fun _ h => List.mem_cons_of_mem _ (List.mem_append_right _ h)) hown hK hP 0 rfl rfl 4 (by decide) w1 (fun _ h9 => h9) rfl dX6_turn_170 ?_
              refine lv_bipush (v := nI 105) hx hb dX6_turn_173 (by decide) ?_
              refine lv_iload_n hx hb dX6_turn_175 rfl (lv_at hl 4 rfl) ?_
              refine lv_bipush (v := nI 16) hx hb dX6_turn_176 (by decide) ?_
              refine zk_idivN hx hb dX6_turn_178 (by omega) (by omega) (by omega) ?_
              refine lv_iconst (v := nI 5) hx hb dX6_turn_179 (by decide) ?_
              refine zk_iremN hx hb dX6_turn_180 (by omega) (by omega) (by omega) ?_
              refine zk_iaddN hx hb dX6_turn_181 ?_
              refine lv_iconst (v := nI 1) hx hb dX6_turn_182 (by decide) ?_
              refine zk_iastN hx hb hK hP hD hS 1 0 rfl rfl (k := (105 + ((g / 16) % 5))) (n := 1555) (by omega) (by omega) dX6_turn_183 (fun H locs hP hD hS => ?_)
              obtain ⟨L26, eL26⟩ : ∃ z : zL, z = up2 K 7 ((g / 16) % 5) (nI 1) := ⟨_, rfl⟩
              have hP : va_P G.1 vwCl ((zb_6 G b rf sz ac sp ou) ++ zb_r G (b 3) L26) H := by rw [eL26, show zb_r G (b 3) (up2 K 7 ((g / 16) % 5) (nI 1)) = [zk_a (b 3) (G.2.1 0) 1555 (upd (zrow K) (105 + ((g / 16) % 5)) (nI 1))] from (congrArg (fun f => [zk_a (b 3) (G.2.1 0) 1555 f]) (zup_7 K (nI 1) (by omega))).symm]; exact hP
              have hD : va_D A ((zb_6 G b rf sz ac sp ou) ++ zb_r G (b 3) L26) := by rw [eL26, show zb_r G (b 3) (up2 K 7 ((g / 16) % 5) (nI 1)) = [zk_a (b 3) (G.2.1 0) 1555 (upd (zrow K) (105 + ((g / 16) % 5)) (nI 1))] from (congrArg (fun f => [zk_a (b 3) (G.2.1 0) 1555 f]) (zup_7 K (nI 1) (by omega))).symm]; exact hD
              have hI27 : sInv L26 n t := by rw [eL26]; exact sInv_row hI rfl rfl rfl rfl
              refine lv_goto (tgt := 269) hx hb dX6_turn_184 (by decide) ?_
              exact zk_retv L26 hQ hx hb hr hlocks hS hP hD (Nat.le_of_ble_eq_true rfl) (Nat.le_of_ble_eq_true rfl) dX6_turn_269 (by unfold kTurn; rw [if_neg (show ¬ g % 16 = 0 by omega), if_neg (show ¬ g % 16 < 7 by omega), if_neg (show ¬ g % 16 < 9 by omega), if_neg (show ¬ g % 16 = 9 by omega), if_pos (show g % 16 = 10 by omega)]; exact eL26)
          · have h142_4 := zk_eq (by omega) (by omega) h142_4
            refine lv_aload_n hx hb dX6_turn_145 rfl (lv_at hl 3 rfl) ?_
            refine va_get (D := G.1) (ci := 5) (v := .ref (b 3)) (C := RX6) (T := TX6) (N := 11) hx hb hts (fun _ h => List.mem_cons_of_mem _ (List.mem_append_right _ h)) hown hK hP 0 rfl rfl 4 (by decide) w1 (fun _ h9 => h9) rfl dX6_turn_146 ?_
            refine lv_bipush (v := nI 101) hx hb dX6_turn_149 (by decide) ?_
            refine lv_iload_n hx hb dX6_turn_151 rfl (lv_at hl 2 rfl) ?_
            refine lv_iload_n hx hb dX6_turn_152 rfl (lv_at hl 1 rfl) ?_
            refine lv_bipush (v := nI 39) hx hb dX6_turn_153 (by decide) ?_
            have hP0 : va_P G.1 vwCl ((zb_r G (b 3) K) ++ (zb_6 G b rf sz ac sp ou)) s.heap := zk_Pperm hP (show ((zb_6 G b rf sz ac sp ou) ++ zb_r G (b 3) K).Perm ((zb_r G (b 3) K) ++ (zb_6 G b rf sz ac sp ou)) from (show ((zb_6 G b rf sz ac sp ou) ++ zb_r G (b 3) K).Perm ((zb_r G (b 3) K) ++ zb_6 G b rf sz ac sp ou) from List.perm_append_comm).trans (List.Perm.of_eq (by simp only [List.append_assoc, List.append_nil, List.nil_append])))
            have hD0 : va_D A ((zb_r G (b 3) K) ++ (zb_6 G b rf sz ac sp ou)) := zk_Dperm hD (show ((zb_6 G b rf sz ac sp ou) ++ zb_r G (b 3) K).Perm ((zb_r G (b 3) K) ++ (zb_6 G b rf sz ac sp ou)) from (show ((zb_6 G b rf sz ac sp ou) ++ zb_r G (b 3) K).Perm ((zb_r G (b 3) K) ++ zb_6 G b rf sz ac sp ou) from List.perm_append_comm).trans (List.Perm.of_eq (by simp only [List.append_assoc, List.append_nil, List.nil_append])))
            refine zk_callI (wr := zb_6 G b rf sz ac sp ou) (va_runS (As := [.ref (b 3), .int (nI 101), .int (nI (g / 16 % max n 1)), .int (nI ((g / 256) % 40)), .int (nI 39)]) (rest := []) ⟨hx, hb, hml, hown, hts⟩ (c_X6_does l G (b 3) K n t hI (nI 101) (nI (g / 16 % max n 1)) (nI ((g / 256) % 40)) (nI 39) (kDok_e _) hp0 _) (cwS 5 hts gX6_turn_X6_does rfl rfl rfl (by decide +kernel) ⟨Nat.le_of_ble_eq_true rfl, Nat.le_of_ble_eq_true rfl⟩) (zk_preS hE hA0 hS (zk_Papp hP0).1 (zk_Dapp hD0).1) rfl rfl hl.1 rfl (lv_room (Nat.le_of_ble_eq_true rfl)) dX6_turn_155 ⟨Nat.le_of_ble_eq_true rfl, Nat.le_of_ble_eq_true rfl⟩) hP0 hD0 hS hA (fun r28 u29 H locs q30 hP hD hS => ?_)
            obtain ⟨er28, eL31⟩ := q30
            have hP : va_P G.1 vwCl ((zb_6 G b rf sz ac sp ou) ++ zb_r G (b 3) u29) H := zk_Pperm hP (show ((zb_6 G b rf sz ac sp ou) ++ zb_r G (b 3) u29).Perm ((zb_r G (b 3) u29) ++ (zb_6 G b rf sz ac sp ou)) from (show ((zb_6 G b rf sz ac sp ou) ++ zb_r G (b 3) u29).Perm ((zb_r G (b 3) u29) ++ zb_6 G b rf sz ac sp ou) from List.perm_append_comm).trans (List.Perm.of_eq (by simp only [List.append_assoc, List.append_nil, List.nil_append]))).symm
            have hD : va_D A ((zb_6 G b rf sz ac sp ou) ++ zb_r G (b 3) u29) := zk_Dperm hD (show ((zb_6 G b rf sz ac sp ou) ++ zb_r G (b 3) u29).Perm ((zb_r G (b 3) u29) ++ (zb_6 G b rf sz ac sp ou)) from (show ((zb_6 G b rf sz ac sp ou) ++ zb_r G (b 3) u29).Perm ((zb_r G (b 3) u29) ++ zb_6 G b rf sz ac sp ou) from List.perm_append_comm).trans (List.Perm.of_eq (by simp only [List.append_assoc, List.append_nil, List.nil_append]))).symm
            refine lv_pop hx hb dX6_turn_158 rfl ?_
            refine lv_goto (tgt := 269) hx hb dX6_turn_159 (by decide) ?_
            exact zk_retv u29 hQ hx hb hr hlocks hS hP hD (Nat.le_of_ble_eq_true rfl) (Nat.le_of_ble_eq_true rfl) dX6_turn_269 (by unfold kTurn; rw [if_neg (show ¬ g % 16 = 0 by omega), if_neg (show ¬ g % 16 < 7 by omega), if_neg (show ¬ g % 16 < 9 by omega), if_pos (show g % 16 = 9 by omega)]; exact eL31)
        · have h109_3 := zk_nle (by omega) (by omega) h109_3
          refine lv_aload_n hx hb dX6_turn_112 rfl (lv_at hl 3 rfl) ?_
          refine va_get (D := G.1) (ci := 5) (v := .ref (b 3)) (C := RX6) (T := TX6) (N := 11) hx hb hts (fun _ h => List.mem_cons_of_mem _ (List.mem_append_right _ h)) hown hK hP 0 rfl rfl 4 (by decide) w1 (fun _ h9 => h9) rfl dX6_turn_113 ?_
          refine lv_bipush (v := nI 112) hx hb dX6_turn_116 (by decide) ?_
          refine lv_iload_n hx hb dX6_turn_118 rfl (lv_at hl 2 rfl) ?_
          refine lv_iconst (v := nI 1) hx hb dX6_turn_119 (by decide) ?_
          refine lv_iload_n hx hb dX6_turn_120 rfl (lv_at hl 4 rfl) ?_
          refine lv_sipush (v := nI 16384) hx hb dX6_turn_121 (by decide) ?_
          refine zk_idivN hx hb dX6_turn_124 (by omega) (by omega) (by omega) ?_
          refine lv_sipush (v := nI 999) hx hb dX6_turn_125 (by decide) ?_
          refine zk_iremN hx hb dX6_turn_128 (by omega) (by omega) (by omega) ?_
          refine zk_iaddN hx hb dX6_turn_129 ?_
          refine lv_iconst (v := nI 0) hx hb dX6_turn_130 (by decide) ?_
          have hP0 : va_P G.1 vwCl ((zb_r G (b 3) K) ++ (zb_6 G b rf sz ac sp ou)) s.heap := zk_Pperm hP (show ((zb_6 G b rf sz ac sp ou) ++ zb_r G (b 3) K).Perm ((zb_r G (b 3) K) ++ (zb_6 G b rf sz ac sp ou)) from (show ((zb_6 G b rf sz ac sp ou) ++ zb_r G (b 3) K).Perm ((zb_r G (b 3) K) ++ zb_6 G b rf sz ac sp ou) from List.perm_append_comm).trans (List.Perm.of_eq (by simp only [List.append_assoc, List.append_nil, List.nil_append])))
          have hD0 : va_D A ((zb_r G (b 3) K) ++ (zb_6 G b rf sz ac sp ou)) := zk_Dperm hD (show ((zb_6 G b rf sz ac sp ou) ++ zb_r G (b 3) K).Perm ((zb_r G (b 3) K) ++ (zb_6 G b rf sz ac sp ou)) from (show ((zb_6 G b rf sz ac sp ou) ++ zb_r G (b 3) K).Perm ((zb_r G (b 3) K) ++ zb_6 G b rf sz ac sp ou) from List.perm_append_comm).trans (List.Perm.of_eq (by simp only [List.append_assoc, List.append_nil, List.nil_append])))
          refine zk_callI (wr := zb_6 G b rf sz ac sp ou) (va_runS (As := [.ref (b 3), .int (nI 112), .int (nI (g / 16 % max n 1)), .int (nI (1 + ((g / 16384) % 999))), .int (nI 0)]) (rest := []) ⟨hx, hb, hml, hown, hts⟩ (c_X6_does l G (b 3) K n t hI (nI 112) (nI (g / 16 % max n 1)) (nI (1 + ((g / 16384) % 999))) (nI 0) (kDok_p _) hp0 _) (cwS 5 hts gX6_turn_X6_does rfl rfl rfl (by decide +kernel) ⟨Nat.le_of_ble_eq_true rfl, Nat.le_of_ble_eq_true rfl⟩) (zk_preS hE hA0 hS (zk_Papp hP0).1 (zk_Dapp hD0).1) rfl rfl hl.1 rfl (lv_room (Nat.le_of_ble_eq_true rfl)) dX6_turn_131 ⟨Nat.le_of_ble_eq_true rfl, Nat.le_of_ble_eq_true rfl⟩) hP0 hD0 hS hA (fun r32 u33 H locs q34 hP hD hS => ?_)
          obtain ⟨er32, eL35⟩ := q34
          have hP : va_P G.1 vwCl ((zb_6 G b rf sz ac sp ou) ++ zb_r G (b 3) u33) H := zk_Pperm hP (show ((zb_6 G b rf sz ac sp ou) ++ zb_r G (b 3) u33).Perm ((zb_r G (b 3) u33) ++ (zb_6 G b rf sz ac sp ou)) from (show ((zb_6 G b rf sz ac sp ou) ++ zb_r G (b 3) u33).Perm ((zb_r G (b 3) u33) ++ zb_6 G b rf sz ac sp ou) from List.perm_append_comm).trans (List.Perm.of_eq (by simp only [List.append_assoc, List.append_nil, List.nil_append]))).symm
          have hD : va_D A ((zb_6 G b rf sz ac sp ou) ++ zb_r G (b 3) u33) := zk_Dperm hD (show ((zb_6 G b rf sz ac sp ou) ++ zb_r G (b 3) u33).Perm ((zb_r G (b 3) u33) ++ (zb_6 G b rf sz ac sp ou)) from (show ((zb_6 G b rf sz ac sp ou) ++ zb_r G (b 3) u33).Perm ((zb_r G (b 3) u33) ++ zb_6 G b rf sz ac sp ou) from List.perm_append_comm).trans (List.Perm.of_eq (by simp only [List.append_assoc, List.append_nil, List.nil_append]))).symm
          refine lv_pop hx hb dX6_turn_134 rfl ?_
          refine lv_goto (tgt := 269) hx hb dX6_turn_135 (by decide) ?_
          exact zk_retv u33 hQ hx hb hr hlocks hS hP hD (Nat.le_of_ble_eq_true rfl) (Nat.le_of_ble_eq_true rfl) dX6_turn_269 (by unfold kTurn; rw [if_neg (show ¬ g % 16 = 0 by omega), if_neg (show ¬ g % 16 < 7 by omega), if_pos (show g % 16 < 9 by omega)]; exact eL35)
      · have h76_2 := zk_nle (by omega) (by omega) h76_2
        refine lv_aload_n hx hb dX6_turn_79 rfl (lv_at hl 3 rfl) ?_
        refine va_get (D := G.1) (ci := 5) (v := .ref (b 3)) (C := RX6) (T := TX6) (N := 11) hx hb hts (fun _ h => List.mem_cons_of_mem _ (List.mem_append_right _ h)) hown hK hP 0 rfl rfl 4 (by decide) w1 (fun _ h9 => h9) rfl dX6_turn_80 ?_
        refine lv_iload_n hx hb dX6_turn_83 rfl (lv_at hl 2 rfl) ?_
        refine lv_iload_n hx hb dX6_turn_84 rfl (lv_at hl 1 rfl) ?_
        have hP0 : va_P G.1 vwCl ((zb_r G (b 3) K) ++ (zb_6 G b rf sz ac sp ou)) s.heap := zk_Pperm hP (show ((zb_6 G b rf sz ac sp ou) ++ zb_r G (b 3) K).Perm ((zb_r G (b 3) K) ++ (zb_6 G b rf sz ac sp ou)) from (show ((zb_6 G b rf sz ac sp ou) ++ zb_r G (b 3) K).Perm ((zb_r G (b 3) K) ++ zb_6 G b rf sz ac sp ou) from List.perm_append_comm).trans (List.Perm.of_eq (by simp only [List.append_assoc, List.append_nil, List.nil_append])))
        have hD0 : va_D A ((zb_r G (b 3) K) ++ (zb_6 G b rf sz ac sp ou)) := zk_Dperm hD (show ((zb_6 G b rf sz ac sp ou) ++ zb_r G (b 3) K).Perm ((zb_r G (b 3) K) ++ (zb_6 G b rf sz ac sp ou)) from (show ((zb_6 G b rf sz ac sp ou) ++ zb_r G (b 3) K).Perm ((zb_r G (b 3) K) ++ zb_6 G b rf sz ac sp ou) from List.perm_append_comm).trans (List.Perm.of_eq (by simp only [List.append_assoc, List.append_nil, List.nil_append])))
        refine zk_callI (wr := zb_6 G b rf sz ac sp ou) (va_runS (As := [.ref (b 3), .int (nI (g / 16 % max n 1)), .int (nI ((g / 256) % 40))]) (rest := []) ⟨hx, hb, hml, hown, hts⟩ (c_X6_whyNotOrder l G (b 3) K n t hI (nI (g / 16 % max n 1)) (nI ((g / 256) % 40)) _) (cwS 3 hts gX6_turn_X6_whyNotOrder rfl rfl rfl (by decide +kernel) ⟨Nat.le_of_ble_eq_true rfl, Nat.le_of_ble_eq_true rfl⟩) (zk_preS hE hA0 hS (zk_Papp hP0).1 (zk_Dapp hD0).1) rfl rfl hl.1 rfl (lv_room (Nat.le_of_ble_eq_true rfl)) dX6_turn_85 ⟨Nat.le_of_ble_eq_true rfl, Nat.le_of_ble_eq_true rfl⟩) hP0 hD0 hS hA (fun r36 u37 H locs q38 hP hD hS => ?_)
        subst q38
        have hP : va_P G.1 vwCl ((zb_6 G b rf sz ac sp ou) ++ zb_r G (b 3) K) H := zk_Pperm hP (show ((zb_6 G b rf sz ac sp ou) ++ zb_r G (b 3) K).Perm ((zb_r G (b 3) K) ++ (zb_6 G b rf sz ac sp ou)) from (show ((zb_6 G b rf sz ac sp ou) ++ zb_r G (b 3) K).Perm ((zb_r G (b 3) K) ++ zb_6 G b rf sz ac sp ou) from List.perm_append_comm).trans (List.Perm.of_eq (by simp only [List.append_assoc, List.append_nil, List.nil_append]))).symm
        have hD : va_D A ((zb_6 G b rf sz ac sp ou) ++ zb_r G (b 3) K) := zk_Dperm hD (show ((zb_6 G b rf sz ac sp ou) ++ zb_r G (b 3) K).Perm ((zb_r G (b 3) K) ++ (zb_6 G b rf sz ac sp ou)) from (show ((zb_6 G b rf sz ac sp ou) ++ zb_r G (b 3) K).Perm ((zb_r G (b 3) K) ++ zb_6 G b rf sz ac sp ou) from List.perm_append_comm).trans (List.Perm.of_eq (by simp only [List.append_assoc, List.append_nil, List.nil_append]))).symm
        refine lv_if_ne (tgt := 269) hx hb dX6_turn_88 (by decide) (fun h88_38 => ?_) (fun h88_38 => ?_)
        · exact zk_retv K hQ hx hb hr hlocks hS hP hD (Nat.le_of_ble_eq_true rfl) (Nat.le_of_ble_eq_true rfl) dX6_turn_269 (by unfold kTurn; rw [if_neg (show ¬ g % 16 = 0 by omega), if_pos (show g % 16 < 7 by omega)]; exact (if_neg h88_38).symm)
        · have hz := kwOrd_0 h88_38
          have hc1 := sHas_lt hI (by have := Nat.mod_le (g / 16) (max n 1); omega) hz.1
          refine lv_aload_n hx hb dX6_turn_91 rfl (lv_at hl 3 rfl) ?_
          refine va_get (D := G.1) (ci := 5) (v := .ref (b 3)) (C := RX6) (T := TX6) (N := 11) hx hb hts (fun _ h => List.mem_cons_of_mem _ (List.mem_append_right _ h)) hown hK hP 0 rfl rfl 4 (by decide) w1 (fun _ h9 => h9) rfl dX6_turn_92 ?_
          refine lv_iload_n hx hb dX6_turn_95 rfl (lv_at hl 2 rfl) ?_
          refine lv_iload_n hx hb dX6_turn_96 rfl (lv_at hl 1 rfl) ?_
          refine lv_iconst (v := nI 1) hx hb dX6_turn_97 (by decide) ?_
          have hP0 : va_P G.1 vwCl ((zb_r G (b 3) K) ++ (zb_6 G b rf sz ac sp ou)) H := zk_Pperm hP (show ((zb_6 G b rf sz ac sp ou) ++ zb_r G (b 3) K).Perm ((zb_r G (b 3) K) ++ (zb_6 G b rf sz ac sp ou)) from (show ((zb_6 G b rf sz ac sp ou) ++ zb_r G (b 3) K).Perm ((zb_r G (b 3) K) ++ zb_6 G b rf sz ac sp ou) from List.perm_append_comm).trans (List.Perm.of_eq (by simp only [List.append_assoc, List.append_nil, List.nil_append])))
          have hD0 : va_D A ((zb_r G (b 3) K) ++ (zb_6 G b rf sz ac sp ou)) := zk_Dperm hD (show ((zb_6 G b rf sz ac sp ou) ++ zb_r G (b 3) K).Perm ((zb_r G (b 3) K) ++ (zb_6 G b rf sz ac sp ou)) from (show ((zb_6 G b rf sz ac sp ou) ++ zb_r G (b 3) K).Perm ((zb_r G (b 3) K) ++ zb_6 G b rf sz ac sp ou) from List.perm_append_comm).trans (List.Perm.of_eq (by simp only [List.append_assoc, List.append_nil, List.nil_append])))
          refine zk_callI (wr := zb_6 G b rf sz ac sp ou) (va_runS (As := [.ref (b 3), .int (nI (g / 16 % max n 1)), .int (nI ((g / 256) % 40)), .int (nI 1)]) (rest := []) ⟨hx, hb, hml, hown, hts⟩ (c_X6_orderOn l G (b 3) K n t hI (g / 16 % max n 1) ((g / 256) % 40) (nI 1) (by omega) (by omega) _) (cwS 4 hts gX6_turn_X6_orderOn rfl rfl rfl (by decide +kernel) ⟨Nat.le_of_ble_eq_true rfl, Nat.le_of_ble_eq_true rfl⟩) (zk_preS hE hA0 hS (zk_Papp hP0).1 (zk_Dapp hD0).1) rfl rfl hl.1 rfl (lv_room (Nat.le_of_ble_eq_true rfl)) dX6_turn_98 ⟨Nat.le_of_ble_eq_true rfl, Nat.le_of_ble_eq_true rfl⟩) hP0 hD0 hS hA (fun r40 u41 H locs q42 hP hD hS => ?_)
          obtain ⟨er40, eL43⟩ := q42
          have hI44 : sInv u41 n t := by rw [eL43]; exact sInv_ord (nI 1) hI
          have hP : va_P G.1 vwCl ((zb_6 G b rf sz ac sp ou) ++ zb_r G (b 3) u41) H := zk_Pperm hP (show ((zb_6 G b rf sz ac sp ou) ++ zb_r G (b 3) u41).Perm ((zb_r G (b 3) u41) ++ (zb_6 G b rf sz ac sp ou)) from (show ((zb_6 G b rf sz ac sp ou) ++ zb_r G (b 3) u41).Perm ((zb_r G (b 3) u41) ++ zb_6 G b rf sz ac sp ou) from List.perm_append_comm).trans (List.Perm.of_eq (by simp only [List.append_assoc, List.append_nil, List.nil_append]))).symm
          have hD : va_D A ((zb_6 G b rf sz ac sp ou) ++ zb_r G (b 3) u41) := zk_Dperm hD (show ((zb_6 G b rf sz ac sp ou) ++ zb_r G (b 3) u41).Perm ((zb_r G (b 3) u41) ++ (zb_6 G b rf sz ac sp ou)) from (show ((zb_6 G b rf sz ac sp ou) ++ zb_r G (b 3) u41).Perm ((zb_r G (b 3) u41) ++ zb_6 G b rf sz ac sp ou) from List.perm_append_comm).trans (List.Perm.of_eq (by simp only [List.append_assoc, List.append_nil, List.nil_append]))).symm
          refine lv_pop hx hb dX6_turn_101 rfl ?_
          refine lv_goto (tgt := 269) hx hb dX6_turn_102 (by decide) ?_
          exact zk_retv u41 hQ hx hb hr hlocks hS hP hD (Nat.le_of_ble_eq_true rfl) (Nat.le_of_ble_eq_true rfl) dX6_turn_269 (by unfold kTurn; rw [if_neg (show ¬ g % 16 = 0 by omega), if_pos (show g % 16 < 7 by omega)]; exact (eL43).trans (if_pos h88_38).symm)
    · have h42_1 := zk_eq0 (by omega) h42_1
      refine lv_aload_n hx hb dX6_turn_45 rfl (lv_at hl 3 rfl) ?_
      refine va_get (D := G.1) (ci := 5) (v := .ref (b 3)) (C := RX6) (T := TX6) (N := 11) hx hb hts (fun _ h => List.mem_cons_of_mem _ (List.mem_append_right _ h)) hown hK hP 0 rfl rfl 4 (by decide) w1 (fun _ h9 => h9) rfl dX6_turn_46 ?_
      refine lv_bipush (v := nI 99) hx hb dX6_turn_49 (by decide) ?_
      refine lv_iload_n hx hb dX6_turn_51 rfl (lv_at hl 4 rfl) ?_
      refine lv_bipush (v := nI 16) hx hb dX6_turn_52 (by decide) ?_
      refine zk_idivN hx hb dX6_turn_54 (by omega) (by omega) (by omega) ?_
      refine lv_iconst (v := nI 5) hx hb dX6_turn_55 (by decide) ?_
      refine zk_iremN hx hb dX6_turn_56 (by omega) (by omega) (by omega) ?_
      refine lv_iload_n hx hb dX6_turn_57 rfl (lv_at hl 4 rfl) ?_
      refine lv_sipush (v := nI 128) hx hb dX6_turn_58 (by decide) ?_
      refine zk_idivN hx hb dX6_turn_61 (by omega) (by omega) (by omega) ?_
      refine lv_iconst (v := nI 4) hx hb dX6_turn_62 (by decide) ?_
      refine zk_iremN hx hb dX6_turn_63 (by omega) (by omega) (by omega) ?_
      refine lv_iconst (v := nI 0) hx hb dX6_turn_64 (by decide) ?_
      have hP0 : va_P G.1 vwCl ((zb_r G (b 3) K) ++ (zb_6 G b rf sz ac sp ou)) s.heap := zk_Pperm hP (show ((zb_6 G b rf sz ac sp ou) ++ zb_r G (b 3) K).Perm ((zb_r G (b 3) K) ++ (zb_6 G b rf sz ac sp ou)) from (show ((zb_6 G b rf sz ac sp ou) ++ zb_r G (b 3) K).Perm ((zb_r G (b 3) K) ++ zb_6 G b rf sz ac sp ou) from List.perm_append_comm).trans (List.Perm.of_eq (by simp only [List.append_assoc, List.append_nil, List.nil_append])))
      have hD0 : va_D A ((zb_r G (b 3) K) ++ (zb_6 G b rf sz ac sp ou)) := zk_Dperm hD (show ((zb_6 G b rf sz ac sp ou) ++ zb_r G (b 3) K).Perm ((zb_r G (b 3) K) ++ (zb_6 G b rf sz ac sp ou)) from (show ((zb_6 G b rf sz ac sp ou) ++ zb_r G (b 3) K).Perm ((zb_r G (b 3) K) ++ zb_6 G b rf sz ac sp ou) from List.perm_append_comm).trans (List.Perm.of_eq (by simp only [List.append_assoc, List.append_nil, List.nil_append])))
      refine zk_callI (wr := zb_6 G b rf sz ac sp ou) (va_runS (As := [.ref (b 3), .int (nI 99), .int (nI ((g / 16) % 5)), .int (nI ((g / 128) % 4)), .int (nI 0)]) (rest := []) ⟨hx, hb, hml, hown, hts⟩ (c_X6_does l G (b 3) K n t hI (nI 99) (nI ((g / 16) % 5)) (nI ((g / 128) % 4)) (nI 0) (kDok_c (by omega)) hp0 _) (cwS 5 hts gX6_turn_X6_does rfl rfl rfl (by decide +kernel) ⟨Nat.le_of_ble_eq_true rfl, Nat.le_of_ble_eq_true rfl⟩) (zk_preS hE hA0 hS (zk_Papp hP0).1 (zk_Dapp hD0).1) rfl rfl hl.1 rfl (lv_room (Nat.le_of_ble_eq_true rfl)) dX6_turn_65 ⟨Nat.le_of_ble_eq_true rfl, Nat.le_of_ble_eq_true rfl⟩) hP0 hD0 hS hA (fun r45 u46 H locs q47 hP hD hS => ?_)
      obtain ⟨er45, eL48⟩ := q47
      have hP : va_P G.1 vwCl ((zb_6 G b rf sz ac sp ou) ++ zb_r G (b 3) u46) H := zk_Pperm hP (show ((zb_6 G b rf sz ac sp ou) ++ zb_r G (b 3) u46).Perm ((zb_r G (b 3) u46) ++ (zb_6 G b rf sz ac sp ou)) from (show ((zb_6 G b rf sz ac sp ou) ++ zb_r G (b 3) u46).Perm ((zb_r G (b 3) u46) ++ zb_6 G b rf sz ac sp ou) from List.perm_append_comm).trans (List.Perm.of_eq (by simp only [List.append_assoc, List.append_nil, List.nil_append]))).symm
      have hD : va_D A ((zb_6 G b rf sz ac sp ou) ++ zb_r G (b 3) u46) := zk_Dperm hD (show ((zb_6 G b rf sz ac sp ou) ++ zb_r G (b 3) u46).Perm ((zb_r G (b 3) u46) ++ (zb_6 G b rf sz ac sp ou)) from (show ((zb_6 G b rf sz ac sp ou) ++ zb_r G (b 3) u46).Perm ((zb_r G (b 3) u46) ++ zb_6 G b rf sz ac sp ou) from List.perm_append_comm).trans (List.Perm.of_eq (by simp only [List.append_assoc, List.append_nil, List.nil_append]))).symm
      refine lv_pop hx hb dX6_turn_68 rfl ?_
      refine lv_goto (tgt := 269) hx hb dX6_turn_69 (by decide) ?_
      exact zk_retv u46 hQ hx hb hr hlocks hS hP hD (Nat.le_of_ble_eq_true rfl) (Nat.le_of_ble_eq_true rfl) dX6_turn_269 (by unfold kTurn; rw [if_pos (show g % 16 = 0 by omega)]; exact eL48)
  · have h10_0 := zk_eq0 (by omega) h10_0
    refine lv_iconst (v := nI 1) hx hb dX6_turn_13 (by decide) ?_
    refine lv_goto (tgt := 23) hx hb dX6_turn_14 (by decide) ?_
    refine zk_iremN hx hb dX6_turn_23 (by omega) (by omega) (by omega) ?_
    refine zk_top (show nI ((g / 16) % 1) = nI (g / 16 % max n 1) by rw [show max n 1 = 1 by omega]) ?_
    refine lv_istore_n (lv' := [(2, .int (nI (g / 16 % max n 1))), (0, .ref (b 0)), (1, .int (nI g))]) hx hb dX6_turn_24 rfl hl (by decide) rfl (fun ls hl => ?_)
    refine lv_iload_n hx hb dX6_turn_25 rfl (lv_at hl 2 rfl) ?_
    refine lv_sipush (v := nI 256) hx hb dX6_turn_26 (by decide) ?_
    refine zk_idivN hx hb dX6_turn_29 (by omega) (by omega) (by omega) ?_
    refine lv_bipush (v := nI 40) hx hb dX6_turn_30 (by decide) ?_
    refine zk_iremN hx hb dX6_turn_32 (by omega) (by omega) (by omega) ?_
    refine lv_istore_n (lv' := [(3, .int (nI ((g / 256) % 40))), (2, .int (nI (g / 16 % max n 1))), (0, .ref (b 0)), (1, .int (nI g))]) hx hb dX6_turn_33 rfl hl (by decide) rfl (fun ls hl => ?_)
    refine lv_iload_n hx hb dX6_turn_34 rfl (lv_at hl 3 rfl) ?_
    refine lv_bipush (v := nI 16) hx hb dX6_turn_35 (by decide) ?_
    refine zk_iremN hx hb dX6_turn_37 (by omega) (by omega) (by omega) ?_
    refine lv_istore (lv' := [(4, .int (nI (g % 16))), (3, .int (nI ((g / 256) % 40))), (2, .int (nI (g / 16 % max n 1))), (0, .ref (b 0)), (1, .int (nI g))]) hx hb dX6_turn_38 hl (by decide) rfl (fun ls hl => ?_)
    refine lv_iload hx hb dX6_turn_40 (lv_at hl 0 rfl) ?_
    refine lv_if_ne (tgt := 72) hx hb dX6_turn_42 (by decide) (fun h42_48 => ?_) (fun h42_48 => ?_)
    · have h42_48 := zk_ne0 (by omega) h42_48
      refine lv_iload hx hb dX6_turn_72 (lv_at hl 0 rfl) ?_
      refine lv_bipush (v := nI 7) hx hb dX6_turn_74 (by decide) ?_
      refine lv_icmp_ge (tgt := 105) hx hb dX6_turn_76 (by decide) (fun h76_49 => ?_) (fun h76_49 => ?_)
      · have h76_49 := zk_le (by omega) (by omega) h76_49
        refine lv_iload hx hb dX6_turn_105 (lv_at hl 0 rfl) ?_
        refine lv_bipush (v := nI 9) hx hb dX6_turn_107 (by decide) ?_
        refine lv_icmp_ge (tgt := 138) hx hb dX6_turn_109 (by decide) (fun h109_50 => ?_) (fun h109_50 => ?_)
        · have h109_50 := zk_le (by omega) (by omega) h109_50
          refine lv_iload hx hb dX6_turn_138 (lv_at hl 0 rfl) ?_
          refine lv_bipush (v := nI 9) hx hb dX6_turn_140 (by decide) ?_
          refine lv_icmp_ne (tgt := 162) hx hb dX6_turn_142 (by decide) (fun h142_51 => ?_) (fun h142_51 => ?_)
          · have h142_51 := zk_ne (by omega) (by omega) h142_51
            refine lv_iload hx hb dX6_turn_162 (lv_at hl 0 rfl) ?_
            refine lv_bipush (v := nI 10) hx hb dX6_turn_164 (by decide) ?_
            refine lv_icmp_ne (tgt := 187) hx hb dX6_turn_166 (by decide) (fun h166_52 => ?_) (fun h166_52 => ?_)
            · have h166_52 := zk_ne (by omega) (by omega) h166_52
              refine lv_iload hx hb dX6_turn_187 (lv_at hl 0 rfl) ?_
              refine lv_bipush (v := nI 11) hx hb dX6_turn_189 (by decide) ?_
              refine lv_icmp_ne (tgt := 216) hx hb dX6_turn_191 (by decide) (fun h191_53 => ?_) (fun h191_53 => ?_)
              · have h191_53 := zk_ne (by omega) (by omega) h191_53
                refine lv_iload hx hb dX6_turn_216 (lv_at hl 0 rfl) ?_
                refine lv_bipush (v := nI 15) hx hb dX6_turn_218 (by decide) ?_
                refine lv_icmp_ge (tgt := 239) hx hb dX6_turn_220 (by decide) (fun h220_54 => ?_) (fun h220_54 => ?_)
                · have h220_54 := zk_le (by omega) (by omega) h220_54
                  refine lv_aload_n hx hb dX6_turn_239 rfl (lv_at hl 3 rfl) ?_
                  refine va_get (D := G.1) (ci := 5) (v := .ref (b 3)) (C := RX6) (T := TX6) (N := 11) hx hb hts (fun _ h => List.mem_cons_of_mem _ (List.mem_append_right _ h)) hown hK hP 0 rfl rfl 4 (by decide) w1 (fun _ h9 => h9) rfl dX6_turn_240 ?_
                  refine lv_iload_n hx hb dX6_turn_243 rfl (lv_at hl 4 rfl) ?_
                  refine lv_bipush (v := nI 16) hx hb dX6_turn_244 (by decide) ?_
                  refine zk_idivN hx hb dX6_turn_246 (by omega) (by omega) (by omega) ?_
                  refine lv_iconst (v := nI 5) hx hb dX6_turn_247 (by decide) ?_
                  refine zk_iremN hx hb dX6_turn_248 (by omega) (by omega) (by omega) ?_
                  have hP0 : va_P G.1 vwCl ((zb_r G (b 3) K) ++ (zb_6 G b rf sz ac sp ou)) s.heap := zk_Pperm hP (show ((zb_6 G b rf sz ac sp ou) ++ zb_r G (b 3) K).Perm ((zb_r G (b 3) K) ++ (zb_6 G b rf sz ac sp ou)) from (show ((zb_6 G b rf sz ac sp ou) ++ zb_r G (b 3) K).Perm ((zb_r G (b 3) K) ++ zb_6 G b rf sz ac sp ou) from List.perm_append_comm).trans (List.Perm.of_eq (by simp only [List.append_assoc, List.append_nil, List.nil_append])))
                  have hD0 : va_D A ((zb_r G (b 3) K) ++ (zb_6 G b rf sz ac sp ou)) := zk_Dperm hD (show ((zb_6 G b rf sz ac sp ou) ++ zb_r G (b 3) K).Perm ((zb_r G (b 3) K) ++ (zb_6 G b rf sz ac sp ou)) from (show ((zb_6 G b rf sz ac sp ou) ++ zb_r G (b 3) K).Perm ((zb_r G (b 3) K) ++ zb_6 G b rf sz ac sp ou) from List.perm_append_comm).trans (List.Perm.of_eq (by simp only [List.append_assoc, List.append_nil, List.nil_append])))
                  refine zk_callI (wr := zb_6 G b rf sz ac sp ou) (va_runS (As := [.ref (b 3), .int (nI ((g / 16) % 5))]) (rest := []) ⟨hx, hb, hml, hown, hts⟩ (c_X6_debt l G (b 3) K n t hI (nI ((g / 16) % 5)) _) (cwS 2 hts gX6_turn_X6_debt rfl rfl rfl (by decide +kernel) ⟨Nat.le_of_ble_eq_true rfl, Nat.le_of_ble_eq_true rfl⟩) (zk_preS hE hA0 hS (zk_Papp hP0).1 (zk_Dapp hD0).1) rfl rfl hl.1 rfl (lv_room (Nat.le_of_ble_eq_true rfl)) dX6_turn_249 ⟨Nat.le_of_ble_eq_true rfl, Nat.le_of_ble_eq_true rfl⟩) hP0 hD0 hS hA (fun r56 u57 H locs q58 hP hD hS => ?_)
                  subst q58
                  have hP : va_P G.1 vwCl ((zb_6 G b rf sz ac sp ou) ++ zb_r G (b 3) K) H := zk_Pperm hP (show ((zb_6 G b rf sz ac sp ou) ++ zb_r G (b 3) K).Perm ((zb_r G (b 3) K) ++ (zb_6 G b rf sz ac sp ou)) from (show ((zb_6 G b rf sz ac sp ou) ++ zb_r G (b 3) K).Perm ((zb_r G (b 3) K) ++ zb_6 G b rf sz ac sp ou) from List.perm_append_comm).trans (List.Perm.of_eq (by simp only [List.append_assoc, List.append_nil, List.nil_append]))).symm
                  have hD : va_D A ((zb_6 G b rf sz ac sp ou) ++ zb_r G (b 3) K) := zk_Dperm hD (show ((zb_6 G b rf sz ac sp ou) ++ zb_r G (b 3) K).Perm ((zb_r G (b 3) K) ++ (zb_6 G b rf sz ac sp ou)) from (show ((zb_6 G b rf sz ac sp ou) ++ zb_r G (b 3) K).Perm ((zb_r G (b 3) K) ++ zb_6 G b rf sz ac sp ou) from List.perm_append_comm).trans (List.Perm.of_eq (by simp only [List.append_assoc, List.append_nil, List.nil_append]))).symm
                  refine lv_if_le (tgt := 269) hx hb dX6_turn_252 (by decide) (fun h252_58 => ?_) (fun h252_58 => ?_)
                  · have h252_58 := zk_l1 h252_58
                    exact zk_retv K hQ hx hb hr hlocks hS hP hD (Nat.le_of_ble_eq_true rfl) (Nat.le_of_ble_eq_true rfl) dX6_turn_269 (by unfold kTurn; rw [if_neg (show ¬ g % 16 = 0 by omega), if_neg (show ¬ g % 16 < 7 by omega), if_neg (show ¬ g % 16 < 9 by omega), if_neg (show ¬ g % 16 = 9 by omega), if_neg (show ¬ g % 16 = 10 by omega), if_neg (show ¬ g % 16 = 11 by omega), if_neg (show ¬ g % 16 < 15 by omega)]; exact (if_neg h252_58).symm)
                  · have h252_58 := zk_l2 h252_58
                    refine lv_aload_n hx hb dX6_turn_255 rfl (lv_at hl 3 rfl) ?_
                    refine va_get (D := G.1) (ci := 5) (v := .ref (b 3)) (C := RX6) (T := TX6) (N := 11) hx hb hts (fun _ h => List.mem_cons_of_mem _ (List.mem_append_right _ h)) hown hK hP 0 rfl rfl 4 (by decide) w1 (fun _ h9 => h9) rfl dX6_turn_256 ?_
                    refine lv_iload_n hx hb dX6_turn_259 rfl (lv_at hl 4 rfl) ?_
                    refine lv_bipush (v := nI 16) hx hb dX6_turn_260 (by decide) ?_
                    refine zk_idivN hx hb dX6_turn_262 (by omega) (by omega) (by omega) ?_
                    refine lv_iconst (v := nI 5) hx hb dX6_turn_263 (by decide) ?_
                    refine zk_iremN hx hb dX6_turn_264 (by omega) (by omega) (by omega) ?_
                    have hP0 : va_P G.1 vwCl ((zb_r G (b 3) K) ++ (zb_6 G b rf sz ac sp ou)) H := zk_Pperm hP (show ((zb_6 G b rf sz ac sp ou) ++ zb_r G (b 3) K).Perm ((zb_r G (b 3) K) ++ (zb_6 G b rf sz ac sp ou)) from (show ((zb_6 G b rf sz ac sp ou) ++ zb_r G (b 3) K).Perm ((zb_r G (b 3) K) ++ zb_6 G b rf sz ac sp ou) from List.perm_append_comm).trans (List.Perm.of_eq (by simp only [List.append_assoc, List.append_nil, List.nil_append])))
                    have hD0 : va_D A ((zb_r G (b 3) K) ++ (zb_6 G b rf sz ac sp ou)) := zk_Dperm hD (show ((zb_6 G b rf sz ac sp ou) ++ zb_r G (b 3) K).Perm ((zb_r G (b 3) K) ++ (zb_6 G b rf sz ac sp ou)) from (show ((zb_6 G b rf sz ac sp ou) ++ zb_r G (b 3) K).Perm ((zb_r G (b 3) K) ++ zb_6 G b rf sz ac sp ou) from List.perm_append_comm).trans (List.Perm.of_eq (by simp only [List.append_assoc, List.append_nil, List.nil_append])))
                    refine zk_callI (wr := zb_6 G b rf sz ac sp ou) (va_runS (As := [.ref (b 3), .int (nI ((g / 16) % 5))]) (rest := []) ⟨hx, hb, hml, hown, hts⟩ (c_X6_writeOffOn l G (b 3) K n t hI ((g / 16) % 5) (by omega) _) (cwS 2 hts gX6_turn_X6_writeOffOn rfl rfl rfl (by decide +kernel) ⟨Nat.le_of_ble_eq_true rfl, Nat.le_of_ble_eq_true rfl⟩) (zk_preS hE hA0 hS (zk_Papp hP0).1 (zk_Dapp hD0).1) rfl rfl hl.1 rfl (lv_room (Nat.le_of_ble_eq_true rfl)) dX6_turn_265 ⟨Nat.le_of_ble_eq_true rfl, Nat.le_of_ble_eq_true rfl⟩) hP0 hD0 hS hA (fun r60 u61 H locs q62 hP hD hS => ?_)
                    obtain ⟨er60, eL63⟩ := q62
                    have hI64 : sInv u61 n t := by rw [eL63]; exact sInv_write hI
                    have hP : va_P G.1 vwCl ((zb_6 G b rf sz ac sp ou) ++ zb_r G (b 3) u61) H := zk_Pperm hP (show ((zb_6 G b rf sz ac sp ou) ++ zb_r G (b 3) u61).Perm ((zb_r G (b 3) u61) ++ (zb_6 G b rf sz ac sp ou)) from (show ((zb_6 G b rf sz ac sp ou) ++ zb_r G (b 3) u61).Perm ((zb_r G (b 3) u61) ++ zb_6 G b rf sz ac sp ou) from List.perm_append_comm).trans (List.Perm.of_eq (by simp only [List.append_assoc, List.append_nil, List.nil_append]))).symm
                    have hD : va_D A ((zb_6 G b rf sz ac sp ou) ++ zb_r G (b 3) u61) := zk_Dperm hD (show ((zb_6 G b rf sz ac sp ou) ++ zb_r G (b 3) u61).Perm ((zb_r G (b 3) u61) ++ (zb_6 G b rf sz ac sp ou)) from (show ((zb_6 G b rf sz ac sp ou) ++ zb_r G (b 3) u61).Perm ((zb_r G (b 3) u61) ++ zb_6 G b rf sz ac sp ou) from List.perm_append_comm).trans (List.Perm.of_eq (by simp only [List.append_assoc, List.append_nil, List.nil_append]))).symm
                    refine lv_pop hx hb dX6_turn_268 rfl ?_
                    exact zk_retv u61 hQ hx hb hr hlocks hS hP hD (Nat.le_of_ble_eq_true rfl) (Nat.le_of_ble_eq_true rfl) dX6_turn_269 (by unfold kTurn; rw [if_neg (show ¬ g % 16 = 0 by omega), if_neg (show ¬ g % 16 < 7 by omega), if_neg (show ¬ g % 16 < 9 by omega), if_neg (show ¬ g % 16 = 9 by omega), if_neg (show ¬ g % 16 = 10 by omega), if_neg (show ¬ g % 16 = 11 by omega), if_neg (show ¬ g % 16 < 15 by omega)]; exact (eL63).trans (if_pos h252_58).symm)
                · have h220_54 := zk_nle (by omega) (by omega) h220_54
                  refine lv_aload_n hx hb dX6_turn_223 rfl (lv_at hl 3 rfl) ?_
                  refine va_get (D := G.1) (ci := 5) (v := .ref (b 3)) (C := RX6) (T := TX6) (N := 11) hx hb hts (fun _ h => List.mem_cons_of_mem _ (List.mem_append_right _ h)) hown hK hP 0 rfl rfl 4 (by decide) w1 (fun _ h9 => h9) rfl dX6_turn_224 ?_
                  refine lv_bipush (v := nI 100) hx hb dX6_turn_227 (by decide) ?_
                  refine lv_iconst (v := nI 1) hx hb dX6_turn_229 (by decide) ?_
                  refine lv_iconst (v := nI 0) hx hb dX6_turn_230 (by decide) ?_
                  refine lv_iconst (v := nI 0) hx hb dX6_turn_231 (by decide) ?_
                  have hP0 : va_P G.1 vwCl ((zb_r G (b 3) K) ++ (zb_6 G b rf sz ac sp ou)) s.heap := zk_Pperm hP (show ((zb_6 G b rf sz ac sp ou) ++ zb_r G (b 3) K).Perm ((zb_r G (b 3) K) ++ (zb_6 G b rf sz ac sp ou)) from (show ((zb_6 G b rf sz ac sp ou) ++ zb_r G (b 3) K).Perm ((zb_r G (b 3) K) ++ zb_6 G b rf sz ac sp ou) from List.perm_append_comm).trans (List.Perm.of_eq (by simp only [List.append_assoc, List.append_nil, List.nil_append])))
                  have hD0 : va_D A ((zb_r G (b 3) K) ++ (zb_6 G b rf sz ac sp ou)) := zk_Dperm hD (show ((zb_6 G b rf sz ac sp ou) ++ zb_r G (b 3) K).Perm ((zb_r G (b 3) K) ++ (zb_6 G b rf sz ac sp ou)) from (show ((zb_6 G b rf sz ac sp ou) ++ zb_r G (b 3) K).Perm ((zb_r G (b 3) K) ++ zb_6 G b rf sz ac sp ou) from List.perm_append_comm).trans (List.Perm.of_eq (by simp only [List.append_assoc, List.append_nil, List.nil_append])))
                  refine zk_callI (wr := zb_6 G b rf sz ac sp ou) (va_runS (As := [.ref (b 3), .int (nI 100), .int (nI 1), .int (nI 0), .int (nI 0)]) (rest := []) ⟨hx, hb, hml, hown, hts⟩ (c_X6_does l G (b 3) K n t hI (nI 100) (nI 1) (nI 0) (nI 0) (kDok_d _) hp0 _) (cwS 5 hts gX6_turn_X6_does rfl rfl rfl (by decide +kernel) ⟨Nat.le_of_ble_eq_true rfl, Nat.le_of_ble_eq_true rfl⟩) (zk_preS hE hA0 hS (zk_Papp hP0).1 (zk_Dapp hD0).1) rfl rfl hl.1 rfl (lv_room (Nat.le_of_ble_eq_true rfl)) dX6_turn_232 ⟨Nat.le_of_ble_eq_true rfl, Nat.le_of_ble_eq_true rfl⟩) hP0 hD0 hS hA (fun r65 u66 H locs q67 hP hD hS => ?_)
                  obtain ⟨er65, eL68⟩ := q67
                  have hP : va_P G.1 vwCl ((zb_6 G b rf sz ac sp ou) ++ zb_r G (b 3) u66) H := zk_Pperm hP (show ((zb_6 G b rf sz ac sp ou) ++ zb_r G (b 3) u66).Perm ((zb_r G (b 3) u66) ++ (zb_6 G b rf sz ac sp ou)) from (show ((zb_6 G b rf sz ac sp ou) ++ zb_r G (b 3) u66).Perm ((zb_r G (b 3) u66) ++ zb_6 G b rf sz ac sp ou) from List.perm_append_comm).trans (List.Perm.of_eq (by simp only [List.append_assoc, List.append_nil, List.nil_append]))).symm
                  have hD : va_D A ((zb_6 G b rf sz ac sp ou) ++ zb_r G (b 3) u66) := zk_Dperm hD (show ((zb_6 G b rf sz ac sp ou) ++ zb_r G (b 3) u66).Perm ((zb_r G (b 3) u66) ++ (zb_6 G b rf sz ac sp ou)) from (show ((zb_6 G b rf sz ac sp ou) ++ zb_r G (b 3) u66).Perm ((zb_r G (b 3) u66) ++ zb_6 G b rf sz ac sp ou) from List.perm_append_comm).trans (List.Perm.of_eq (by simp only [List.append_assoc, List.append_nil, List.nil_append]))).symm
                  refine lv_pop hx hb dX6_turn_235 rfl ?_
                  refine lv_goto (tgt := 269) hx hb dX6_turn_236 (by decide) ?_
                  exact zk_retv u66 hQ hx hb hr hlocks hS hP hD (Nat.le_of_ble_eq_true rfl) (Nat.le_of_ble_eq_true rfl) dX6_turn_269 (by unfold kTurn; rw [if_neg (show ¬ g % 16 = 0 by omega), if_neg (show ¬ g % 16 < 7 by omega), if_neg (show ¬ g % 16 < 9 by omega), if_neg (show ¬ g % 16 = 9 by omega), if_neg (show ¬ g % 16 = 10 by omega), if_neg (show ¬ g % 16 = 11 by omega), if_pos (show g % 16 < 15 by omega)]; exact eL68)
              · have h191_53 := zk_eq (by omega) (by omega) h191_53
                refine lv_aload_n hx hb dX6_turn_194 rfl (lv_at hl 3 rfl) ?_
                refine va_get (D := G.1) (ci := 5) (v := .ref (b 3)) (C := RX6) (T := TX6) (N := 11) hx hb hts (fun _ h => List.mem_cons_of_mem _ (List.mem_append_right _ h)) hown hK hP 0 rfl rfl 4 (by decide) w1 (fun _ h9 => h9) rfl dX6_turn_195 ?_
                refine lv_bipush (v := nI 109) hx hb dX6_turn_198 (by decide) ?_
                refine lv_iload_n hx hb dX6_turn_200 rfl (lv_at hl 1 rfl) ?_
                refine lv_iload_n hx hb dX6_turn_201 rfl (lv_at hl 4 rfl) ?_
                refine lv_sipush (v := nI 16384) hx hb dX6_turn_202 (by decide) ?_
                refine zk_idivN hx hb dX6_turn_205 (by omega) (by omega) (by omega) ?_
                refine lv_iconst (v := nI 4) hx hb dX6_turn_206 (by decide) ?_
                refine zk_iremN hx hb dX6_turn_207 (by omega) (by omega) (by omega) ?_
                refine lv_iconst (v := nI 0) hx hb dX6_turn_208 (by decide) ?_
                have hP0 : va_P G.1 vwCl ((zb_r G (b 3) K) ++ (zb_6 G b rf sz ac sp ou)) s.heap := zk_Pperm hP (show ((zb_6 G b rf sz ac sp ou) ++ zb_r G (b 3) K).Perm ((zb_r G (b 3) K) ++ (zb_6 G b rf sz ac sp ou)) from (show ((zb_6 G b rf sz ac sp ou) ++ zb_r G (b 3) K).Perm ((zb_r G (b 3) K) ++ zb_6 G b rf sz ac sp ou) from List.perm_append_comm).trans (List.Perm.of_eq (by simp only [List.append_assoc, List.append_nil, List.nil_append])))
                have hD0 : va_D A ((zb_r G (b 3) K) ++ (zb_6 G b rf sz ac sp ou)) := zk_Dperm hD (show ((zb_6 G b rf sz ac sp ou) ++ zb_r G (b 3) K).Perm ((zb_r G (b 3) K) ++ (zb_6 G b rf sz ac sp ou)) from (show ((zb_6 G b rf sz ac sp ou) ++ zb_r G (b 3) K).Perm ((zb_r G (b 3) K) ++ zb_6 G b rf sz ac sp ou) from List.perm_append_comm).trans (List.Perm.of_eq (by simp only [List.append_assoc, List.append_nil, List.nil_append])))
                refine zk_callI (wr := zb_6 G b rf sz ac sp ou) (va_runS (As := [.ref (b 3), .int (nI 109), .int (nI ((g / 256) % 40)), .int (nI ((g / 16384) % 4)), .int (nI 0)]) (rest := []) ⟨hx, hb, hml, hown, hts⟩ (c_X6_does l G (b 3) K n t hI (nI 109) (nI ((g / 256) % 40)) (nI ((g / 16384) % 4)) (nI 0) (kDok_m (by omega)) hp0 _) (cwS 5 hts gX6_turn_X6_does rfl rfl rfl (by decide +kernel) ⟨Nat.le_of_ble_eq_true rfl, Nat.le_of_ble_eq_true rfl⟩) (zk_preS hE hA0 hS (zk_Papp hP0).1 (zk_Dapp hD0).1) rfl rfl hl.1 rfl (lv_room (Nat.le_of_ble_eq_true rfl)) dX6_turn_209 ⟨Nat.le_of_ble_eq_true rfl, Nat.le_of_ble_eq_true rfl⟩) hP0 hD0 hS hA (fun r69 u70 H locs q71 hP hD hS => ?_)
                obtain ⟨er69, eL72⟩ := q71
                have hP : va_P G.1 vwCl ((zb_6 G b rf sz ac sp ou) ++ zb_r G (b 3) u70) H := zk_Pperm hP (show ((zb_6 G b rf sz ac sp ou) ++ zb_r G (b 3) u70).Perm ((zb_r G (b 3) u70) ++ (zb_6 G b rf sz ac sp ou)) from (show ((zb_6 G b rf sz ac sp ou) ++ zb_r G (b 3) u70).Perm ((zb_r G (b 3) u70) ++ zb_6 G b rf sz ac sp ou) from List.perm_append_comm).trans (List.Perm.of_eq (by simp only [List.append_assoc, List.append_nil, List.nil_append]))).symm
                have hD : va_D A ((zb_6 G b rf sz ac sp ou) ++ zb_r G (b 3) u70) := zk_Dperm hD (show ((zb_6 G b rf sz ac sp ou) ++ zb_r G (b 3) u70).Perm ((zb_r G (b 3) u70) ++ (zb_6 G b rf sz ac sp ou)) from (show ((zb_6 G b rf sz ac sp ou) ++ zb_r G (b 3) u70).Perm ((zb_r G (b 3) u70) ++ zb_6 G b rf sz ac sp ou) from List.perm_append_comm).trans (List.Perm.of_eq (by simp only [List.append_assoc, List.append_nil, List.nil_append]))).symm
                refine lv_pop hx hb dX6_turn_212 rfl ?_
                refine lv_goto (tgt := 269) hx hb dX6_turn_213 (by decide) ?_
                exact zk_retv u70 hQ hx hb hr hlocks hS hP hD (Nat.le_of_ble_eq_true rfl) (Nat.le_of_ble_eq_true rfl) dX6_turn_269 (by unfold kTurn; rw [if_neg (show ¬ g % 16 = 0 by omega), if_neg (show ¬ g % 16 < 7 by omega), if_neg (show ¬ g % 16 < 9 by omega), if_neg (show ¬ g % 16 = 9 by omega), if_neg (show ¬ g % 16 = 10 by omega), if_pos (show g % 16 = 11 by omega)]; exact eL72)
            · have h166_52 := zk_eq (by omega) (by omega) h166_52
              refine lv_aload_n hx hb dX6_turn_169 rfl (lv_at hl 3 rfl) ?_
              refine va_get (D := G.1) (ci := 5) (v := .ref (b 3)) (C := RX6) (T := TX6) (N := 11) hx hb hts (fun _ h => List.mem_cons_of_mem _ (List.mem_append_right _ h)) hown hK hP 0 rfl rfl 4 (by decide) w1 (fun _ h9 => h9) rfl dX6_turn_170 ?_
              refine lv_bipush (v := nI 105) hx hb dX6_turn_173 (by decide) ?_
              refine lv_iload_n hx hb dX6_turn_175 rfl (lv_at hl 4 rfl) ?_
              refine lv_bipush (v := nI 16) hx hb dX6_turn_176 (by decide) ?_
              refine zk_idivN hx hb dX6_turn_178 (by omega) (by omega) (by omega) ?_
              refine lv_iconst (v := nI 5) hx hb dX6_turn_179 (by decide) ?_
              refine zk_iremN hx hb dX6_turn_180 (by omega) (by omega) (by omega) ?_
              refine zk_iaddN hx hb dX6_turn_181 ?_
              refine lv_iconst (v := nI 1) hx hb dX6_turn_182 (by decide) ?_
              refine zk_iastN hx hb hK hP hD hS 1 0 rfl rfl (k := (105 + ((g / 16) % 5))) (n := 1555) (by omega) (by omega) dX6_turn_183 (fun H locs hP hD hS => ?_)
              obtain ⟨L73, eL73⟩ : ∃ z : zL, z = up2 K 7 ((g / 16) % 5) (nI 1) := ⟨_, rfl⟩
              have hP : va_P G.1 vwCl ((zb_6 G b rf sz ac sp ou) ++ zb_r G (b 3) L73) H := by rw [eL73, show zb_r G (b 3) (up2 K 7 ((g / 16) % 5) (nI 1)) = [zk_a (b 3) (G.2.1 0) 1555 (upd (zrow K) (105 + ((g / 16) % 5)) (nI 1))] from (congrArg (fun f => [zk_a (b 3) (G.2.1 0) 1555 f]) (zup_7 K (nI 1) (by omega))).symm]; exact hP
              have hD : va_D A ((zb_6 G b rf sz ac sp ou) ++ zb_r G (b 3) L73) := by rw [eL73, show zb_r G (b 3) (up2 K 7 ((g / 16) % 5) (nI 1)) = [zk_a (b 3) (G.2.1 0) 1555 (upd (zrow K) (105 + ((g / 16) % 5)) (nI 1))] from (congrArg (fun f => [zk_a (b 3) (G.2.1 0) 1555 f]) (zup_7 K (nI 1) (by omega))).symm]; exact hD
              have hI74 : sInv L73 n t := by rw [eL73]; exact sInv_row hI rfl rfl rfl rfl
              refine lv_goto (tgt := 269) hx hb dX6_turn_184 (by decide) ?_
              exact zk_retv L73 hQ hx hb hr hlocks hS hP hD (Nat.le_of_ble_eq_true rfl) (Nat.le_of_ble_eq_true rfl) dX6_turn_269 (by unfold kTurn; rw [if_neg (show ¬ g % 16 = 0 by omega), if_neg (show ¬ g % 16 < 7 by omega), if_neg (show ¬ g % 16 < 9 by omega), if_neg (show ¬ g % 16 = 9 by omega), if_pos (show g % 16 = 10 by omega)]; exact eL73)
          · have h142_51 := zk_eq (by omega) (by omega) h142_51
            refine lv_aload_n hx hb dX6_turn_145 rfl (lv_at hl 3 rfl) ?_
            refine va_get (D := G.1) (ci := 5) (v := .ref (b 3)) (C := RX6) (T := TX6) (N := 11) hx hb hts (fun _ h => List.mem_cons_of_mem _ (List.mem_append_right _ h)) hown hK hP 0 rfl rfl 4 (by decide) w1 (fun _ h9 => h9) rfl dX6_turn_146 ?_
            refine lv_bipush (v := nI 101) hx hb dX6_turn_149 (by decide) ?_
            refine lv_iload_n hx hb dX6_turn_151 rfl (lv_at hl 2 rfl) ?_
            refine lv_iload_n hx hb dX6_turn_152 rfl (lv_at hl 1 rfl) ?_
            refine lv_bipush (v := nI 39) hx hb dX6_turn_153 (by decide) ?_
            have hP0 : va_P G.1 vwCl ((zb_r G (b 3) K) ++ (zb_6 G b rf sz ac sp ou)) s.heap := zk_Pperm hP (show ((zb_6 G b rf sz ac sp ou) ++ zb_r G (b 3) K).Perm ((zb_r G (b 3) K) ++ (zb_6 G b rf sz ac sp ou)) from (show ((zb_6 G b rf sz ac sp ou) ++ zb_r G (b 3) K).Perm ((zb_r G (b 3) K) ++ zb_6 G b rf sz ac sp ou) from List.perm_append_comm).trans (List.Perm.of_eq (by simp only [List.append_assoc, List.append_nil, List.nil_append])))
            have hD0 : va_D A ((zb_r G (b 3) K) ++ (zb_6 G b rf sz ac sp ou)) := zk_Dperm hD (show ((zb_6 G b rf sz ac sp ou) ++ zb_r G (b 3) K).Perm ((zb_r G (b 3) K) ++ (zb_6 G b rf sz ac sp ou)) from (show ((zb_6 G b rf sz ac sp ou) ++ zb_r G (b 3) K).Perm ((zb_r G (b 3) K) ++ zb_6 G b rf sz ac sp ou) from List.perm_append_comm).trans (List.Perm.of_eq (by simp only [List.append_assoc, List.append_nil, List.nil_append])))
            refine zk_callI (wr := zb_6 G b rf sz ac sp ou) (va_runS (As := [.ref (b 3), .int (nI 101), .int (nI (g / 16 % max n 1)), .int (nI ((g / 256) % 40)), .int (nI 39)]) (rest := []) ⟨hx, hb, hml, hown, hts⟩ (c_X6_does l G (b 3) K n t hI (nI 101) (nI (g / 16 % max n 1)) (nI ((g / 256) % 40)) (nI 39) (kDok_e _) hp0 _) (cwS 5 hts gX6_turn_X6_does rfl rfl rfl (by decide +kernel) ⟨Nat.le_of_ble_eq_true rfl, Nat.le_of_ble_eq_true rfl⟩) (zk_preS hE hA0 hS (zk_Papp hP0).1 (zk_Dapp hD0).1) rfl rfl hl.1 rfl (lv_room (Nat.le_of_ble_eq_true rfl)) dX6_turn_155 ⟨Nat.le_of_ble_eq_true rfl, Nat.le_of_ble_eq_true rfl⟩) hP0 hD0 hS hA (fun r75 u76 H locs q77 hP hD hS => ?_)
            obtain ⟨er75, eL78⟩ := q77
            have hP : va_P G.1 vwCl ((zb_6 G b rf sz ac sp ou) ++ zb_r G (b 3) u76) H := zk_Pperm hP (show ((zb_6 G b rf sz ac sp ou) ++ zb_r G (b 3) u76).Perm ((zb_r G (b 3) u76) ++ (zb_6 G b rf sz ac sp ou)) from (show ((zb_6 G b rf sz ac sp ou) ++ zb_r G (b 3) u76).Perm ((zb_r G (b 3) u76) ++ zb_6 G b rf sz ac sp ou) from List.perm_append_comm).trans (List.Perm.of_eq (by simp only [List.append_assoc, List.append_nil, List.nil_append]))).symm
            have hD : va_D A ((zb_6 G b rf sz ac sp ou) ++ zb_r G (b 3) u76) := zk_Dperm hD (show ((zb_6 G b rf sz ac sp ou) ++ zb_r G (b 3) u76).Perm ((zb_r G (b 3) u76) ++ (zb_6 G b rf sz ac sp ou)) from (show ((zb_6 G b rf sz ac sp ou) ++ zb_r G (b 3) u76).Perm ((zb_r G (b 3) u76) ++ zb_6 G b rf sz ac sp ou) from List.perm_append_comm).trans (List.Perm.of_eq (by simp only [List.append_assoc, List.append_nil, List.nil_append]))).symm
            refine lv_pop hx hb dX6_turn_158 rfl ?_
            refine lv_goto (tgt := 269) hx hb dX6_turn_159 (by decide) ?_
            exact zk_retv u76 hQ hx hb hr hlocks hS hP hD (Nat.le_of_ble_eq_true rfl) (Nat.le_of_ble_eq_true rfl) dX6_turn_269 (by unfold kTurn; rw [if_neg (show ¬ g % 16 = 0 by omega), if_neg (show ¬ g % 16 < 7 by omega), if_neg (show ¬ g % 16 < 9 by omega), if_pos (show g % 16 = 9 by omega)]; exact eL78)
        · have h109_50 := zk_nle (by omega) (by omega) h109_50
          refine lv_aload_n hx hb dX6_turn_112 rfl (lv_at hl 3 rfl) ?_
          refine va_get (D := G.1) (ci := 5) (v := .ref (b 3)) (C := RX6) (T := TX6) (N := 11) hx hb hts (fun _ h => List.mem_cons_of_mem _ (List.mem_append_right _ h)) hown hK hP 0 rfl rfl 4 (by decide) w1 (fun _ h9 => h9) rfl dX6_turn_113 ?_
          refine lv_bipush (v := nI 112) hx hb dX6_turn_116 (by decide) ?_
          refine lv_iload_n hx hb dX6_turn_118 rfl (lv_at hl 2 rfl) ?_
          refine lv_iconst (v := nI 1) hx hb dX6_turn_119 (by decide) ?_
          refine lv_iload_n hx hb dX6_turn_120 rfl (lv_at hl 4 rfl) ?_
          refine lv_sipush (v := nI 16384) hx hb dX6_turn_121 (by decide) ?_
          refine zk_idivN hx hb dX6_turn_124 (by omega) (by omega) (by omega) ?_
          refine lv_sipush (v := nI 999) hx hb dX6_turn_125 (by decide) ?_
          refine zk_iremN hx hb dX6_turn_128 (by omega) (by omega) (by omega) ?_
          refine zk_iaddN hx hb dX6_turn_129 ?_
          refine lv_iconst (v := nI 0) hx hb dX6_turn_130 (by decide) ?_
          have hP0 : va_P G.1 vwCl ((zb_r G (b 3) K) ++ (zb_6 G b rf sz ac sp ou)) s.heap := zk_Pperm hP (show ((zb_6 G b rf sz ac sp ou) ++ zb_r G (b 3) K).Perm ((zb_r G (b 3) K) ++ (zb_6 G b rf sz ac sp ou)) from (show ((zb_6 G b rf sz ac sp ou) ++ zb_r G (b 3) K).Perm ((zb_r G (b 3) K) ++ zb_6 G b rf sz ac sp ou) from List.perm_append_comm).trans (List.Perm.of_eq (by simp only [List.append_assoc, List.append_nil, List.nil_append])))
          have hD0 : va_D A ((zb_r G (b 3) K) ++ (zb_6 G b rf sz ac sp ou)) := zk_Dperm hD (show ((zb_6 G b rf sz ac sp ou) ++ zb_r G (b 3) K).Perm ((zb_r G (b 3) K) ++ (zb_6 G b rf sz ac sp ou)) from (show ((zb_6 G b rf sz ac sp ou) ++ zb_r G (b 3) K).Perm ((zb_r G (b 3) K) ++ zb_6 G b rf sz ac sp ou) from List.perm_append_comm).trans (List.Perm.of_eq (by simp only [List.append_assoc, List.append_nil, List.nil_append])))
          refine zk_callI (wr := zb_6 G b rf sz ac sp ou) (va_runS (As := [.ref (b 3), .int (nI 112), .int (nI (g / 16 % max n 1)), .int (nI (1 + ((g / 16384) % 999))), .int (nI 0)]) (rest := []) ⟨hx, hb, hml, hown, hts⟩ (c_X6_does l G (b 3) K n t hI (nI 112) (nI (g / 16 % max n 1)) (nI (1 + ((g / 16384) % 999))) (nI 0) (kDok_p _) hp0 _) (cwS 5 hts gX6_turn_X6_does rfl rfl rfl (by decide +kernel) ⟨Nat.le_of_ble_eq_true rfl, Nat.le_of_ble_eq_true rfl⟩) (zk_preS hE hA0 hS (zk_Papp hP0).1 (zk_Dapp hD0).1) rfl rfl hl.1 rfl (lv_room (Nat.le_of_ble_eq_true rfl)) dX6_turn_131 ⟨Nat.le_of_ble_eq_true rfl, Nat.le_of_ble_eq_true rfl⟩) hP0 hD0 hS hA (fun r79 u80 H locs q81 hP hD hS => ?_)
          obtain ⟨er79, eL82⟩ := q81
          have hP : va_P G.1 vwCl ((zb_6 G b rf sz ac sp ou) ++ zb_r G (b 3) u80) H := zk_Pperm hP (show ((zb_6 G b rf sz ac sp ou) ++ zb_r G (b 3) u80).Perm ((zb_r G (b 3) u80) ++ (zb_6 G b rf sz ac sp ou)) from (show ((zb_6 G b rf sz ac sp ou) ++ zb_r G (b 3) u80).Perm ((zb_r G (b 3) u80) ++ zb_6 G b rf sz ac sp ou) from List.perm_append_comm).trans (List.Perm.of_eq (by simp only [List.append_assoc, List.append_nil, List.nil_append]))).symm
          have hD : va_D A ((zb_6 G b rf sz ac sp ou) ++ zb_r G (b 3) u80) := zk_Dperm hD (show ((zb_6 G b rf sz ac sp ou) ++ zb_r G (b 3) u80).Perm ((zb_r G (b 3) u80) ++ (zb_6 G b rf sz ac sp ou)) from (show ((zb_6 G b rf sz ac sp ou) ++ zb_r G (b 3) u80).Perm ((zb_r G (b 3) u80) ++ zb_6 G b rf sz ac sp ou) from List.perm_append_comm).trans (List.Perm.of_eq (by simp only [List.append_assoc, List.append_nil, List.nil_append]))).symm
          refine lv_pop hx hb dX6_turn_134 rfl ?_
          refine lv_goto (tgt := 269) hx hb dX6_turn_135 (by decide) ?_
          exact zk_retv u80 hQ hx hb hr hlocks hS hP hD (Nat.le_of_ble_eq_true rfl) (Nat.le_of_ble_eq_true rfl) dX6_turn_269 (by unfold kTurn; rw [if_neg (show ¬ g % 16 = 0 by omega), if_neg (show ¬ g % 16 < 7 by omega), if_pos (show g % 16 < 9 by omega)]; exact eL82)
      · have h76_49 := zk_nle (by omega) (by omega) h76_49
        refine lv_aload_n hx hb dX6_turn_79 rfl (lv_at hl 3 rfl) ?_
        refine va_get (D := G.1) (ci := 5) (v := .ref (b 3)) (C := RX6) (T := TX6) (N := 11) hx hb hts (fun _ h => List.mem_cons_of_mem _ (List.mem_append_right _ h)) hown hK hP 0 rfl rfl 4 (by decide) w1 (fun _ h9 => h9) rfl dX6_turn_80 ?_
        refine lv_iload_n hx hb dX6_turn_83 rfl (lv_at hl 2 rfl) ?_
        refine lv_iload_n hx hb dX6_turn_84 rfl (lv_at hl 1 rfl) ?_
        have hP0 : va_P G.1 vwCl ((zb_r G (b 3) K) ++ (zb_6 G b rf sz ac sp ou)) s.heap := zk_Pperm hP (show ((zb_6 G b rf sz ac sp ou) ++ zb_r G (b 3) K).Perm ((zb_r G (b 3) K) ++ (zb_6 G b rf sz ac sp ou)) from (show ((zb_6 G b rf sz ac sp ou) ++ zb_r G (b 3) K).Perm ((zb_r G (b 3) K) ++ zb_6 G b rf sz ac sp ou) from List.perm_append_comm).trans (List.Perm.of_eq (by simp only [List.append_assoc, List.append_nil, List.nil_append])))
        have hD0 : va_D A ((zb_r G (b 3) K) ++ (zb_6 G b rf sz ac sp ou)) := zk_Dperm hD (show ((zb_6 G b rf sz ac sp ou) ++ zb_r G (b 3) K).Perm ((zb_r G (b 3) K) ++ (zb_6 G b rf sz ac sp ou)) from (show ((zb_6 G b rf sz ac sp ou) ++ zb_r G (b 3) K).Perm ((zb_r G (b 3) K) ++ zb_6 G b rf sz ac sp ou) from List.perm_append_comm).trans (List.Perm.of_eq (by simp only [List.append_assoc, List.append_nil, List.nil_append])))
        refine zk_callI (wr := zb_6 G b rf sz ac sp ou) (va_runS (As := [.ref (b 3), .int (nI (g / 16 % max n 1)), .int (nI ((g / 256) % 40))]) (rest := []) ⟨hx, hb, hml, hown, hts⟩ (c_X6_whyNotOrder l G (b 3) K n t hI (nI (g / 16 % max n 1)) (nI ((g / 256) % 40)) _) (cwS 3 hts gX6_turn_X6_whyNotOrder rfl rfl rfl (by decide +kernel) ⟨Nat.le_of_ble_eq_true rfl, Nat.le_of_ble_eq_true rfl⟩) (zk_preS hE hA0 hS (zk_Papp hP0).1 (zk_Dapp hD0).1) rfl rfl hl.1 rfl (lv_room (Nat.le_of_ble_eq_true rfl)) dX6_turn_85 ⟨Nat.le_of_ble_eq_true rfl, Nat.le_of_ble_eq_true rfl⟩) hP0 hD0 hS hA (fun r83 u84 H locs q85 hP hD hS => ?_)
        subst q85
        have hP : va_P G.1 vwCl ((zb_6 G b rf sz ac sp ou) ++ zb_r G (b 3) K) H := zk_Pperm hP (show ((zb_6 G b rf sz ac sp ou) ++ zb_r G (b 3) K).Perm ((zb_r G (b 3) K) ++ (zb_6 G b rf sz ac sp ou)) from (show ((zb_6 G b rf sz ac sp ou) ++ zb_r G (b 3) K).Perm ((zb_r G (b 3) K) ++ zb_6 G b rf sz ac sp ou) from List.perm_append_comm).trans (List.Perm.of_eq (by simp only [List.append_assoc, List.append_nil, List.nil_append]))).symm
        have hD : va_D A ((zb_6 G b rf sz ac sp ou) ++ zb_r G (b 3) K) := zk_Dperm hD (show ((zb_6 G b rf sz ac sp ou) ++ zb_r G (b 3) K).Perm ((zb_r G (b 3) K) ++ (zb_6 G b rf sz ac sp ou)) from (show ((zb_6 G b rf sz ac sp ou) ++ zb_r G (b 3) K).Perm ((zb_r G (b 3) K) ++ zb_6 G b rf sz ac sp ou) from List.perm_append_comm).trans (List.Perm.of_eq (by simp only [List.append_assoc, List.append_nil, List.nil_append]))).symm
        refine lv_if_ne (tgt := 269) hx hb dX6_turn_88 (by decide) (fun h88_85 => ?_) (fun h88_85 => ?_)
        · exact zk_retv K hQ hx hb hr hlocks hS hP hD (Nat.le_of_ble_eq_true rfl) (Nat.le_of_ble_eq_true rfl) dX6_turn_269 (by unfold kTurn; rw [if_neg (show ¬ g % 16 = 0 by omega), if_pos (show g % 16 < 7 by omega)]; exact (if_neg h88_85).symm)
        · have hz := kwOrd_0 h88_85
          have hc1 := sHas_lt hI (by have := Nat.mod_le (g / 16) (max n 1); omega) hz.1
          refine lv_aload_n hx hb dX6_turn_91 rfl (lv_at hl 3 rfl) ?_
          refine va_get (D := G.1) (ci := 5) (v := .ref (b 3)) (C := RX6) (T := TX6) (N := 11) hx hb hts (fun _ h => List.mem_cons_of_mem _ (List.mem_append_right _ h)) hown hK hP 0 rfl rfl 4 (by decide) w1 (fun _ h9 => h9) rfl dX6_turn_92 ?_
          refine lv_iload_n hx hb dX6_turn_95 rfl (lv_at hl 2 rfl) ?_
          refine lv_iload_n hx hb dX6_turn_96 rfl (lv_at hl 1 rfl) ?_
          refine lv_iconst (v := nI 1) hx hb dX6_turn_97 (by decide) ?_
          have hP0 : va_P G.1 vwCl ((zb_r G (b 3) K) ++ (zb_6 G b rf sz ac sp ou)) H := zk_Pperm hP (show ((zb_6 G b rf sz ac sp ou) ++ zb_r G (b 3) K).Perm ((zb_r G (b 3) K) ++ (zb_6 G b rf sz ac sp ou)) from (show ((zb_6 G b rf sz ac sp ou) ++ zb_r G (b 3) K).Perm ((zb_r G (b 3) K) ++ zb_6 G b rf sz ac sp ou) from List.perm_append_comm).trans (List.Perm.of_eq (by simp only [List.append_assoc, List.append_nil, List.nil_append])))
          have hD0 : va_D A ((zb_r G (b 3) K) ++ (zb_6 G b rf sz ac sp ou)) := zk_Dperm hD (show ((zb_6 G b rf sz ac sp ou) ++ zb_r G (b 3) K).Perm ((zb_r G (b 3) K) ++ (zb_6 G b rf sz ac sp ou)) from (show ((zb_6 G b rf sz ac sp ou) ++ zb_r G (b 3) K).Perm ((zb_r G (b 3) K) ++ zb_6 G b rf sz ac sp ou) from List.perm_append_comm).trans (List.Perm.of_eq (by simp only [List.append_assoc, List.append_nil, List.nil_append])))
          refine zk_callI (wr := zb_6 G b rf sz ac sp ou) (va_runS (As := [.ref (b 3), .int (nI (g / 16 % max n 1)), .int (nI ((g / 256) % 40)), .int (nI 1)]) (rest := []) ⟨hx, hb, hml, hown, hts⟩ (c_X6_orderOn l G (b 3) K n t hI (g / 16 % max n 1) ((g / 256) % 40) (nI 1) (by omega) (by omega) _) (cwS 4 hts gX6_turn_X6_orderOn rfl rfl rfl (by decide +kernel) ⟨Nat.le_of_ble_eq_true rfl, Nat.le_of_ble_eq_true rfl⟩) (zk_preS hE hA0 hS (zk_Papp hP0).1 (zk_Dapp hD0).1) rfl rfl hl.1 rfl (lv_room (Nat.le_of_ble_eq_true rfl)) dX6_turn_98 ⟨Nat.le_of_ble_eq_true rfl, Nat.le_of_ble_eq_true rfl⟩) hP0 hD0 hS hA (fun r87 u88 H locs q89 hP hD hS => ?_)
          obtain ⟨er87, eL90⟩ := q89
          have hI91 : sInv u88 n t := by rw [eL90]; exact sInv_ord (nI 1) hI
          have hP : va_P G.1 vwCl ((zb_6 G b rf sz ac sp ou) ++ zb_r G (b 3) u88) H := zk_Pperm hP (show ((zb_6 G b rf sz ac sp ou) ++ zb_r G (b 3) u88).Perm ((zb_r G (b 3) u88) ++ (zb_6 G b rf sz ac sp ou)) from (show ((zb_6 G b rf sz ac sp ou) ++ zb_r G (b 3) u88).Perm ((zb_r G (b 3) u88) ++ zb_6 G b rf sz ac sp ou) from List.perm_append_comm).trans (List.Perm.of_eq (by simp only [List.append_assoc, List.append_nil, List.nil_append]))).symm
          have hD : va_D A ((zb_6 G b rf sz ac sp ou) ++ zb_r G (b 3) u88) := zk_Dperm hD (show ((zb_6 G b rf sz ac sp ou) ++ zb_r G (b 3) u88).Perm ((zb_r G (b 3) u88) ++ (zb_6 G b rf sz ac sp ou)) from (show ((zb_6 G b rf sz ac sp ou) ++ zb_r G (b 3) u88).Perm ((zb_r G (b 3) u88) ++ zb_6 G b rf sz ac sp ou) from List.perm_append_comm).trans (List.Perm.of_eq (by simp only [List.append_assoc, List.append_nil, List.nil_append]))).symm
          refine lv_pop hx hb dX6_turn_101 rfl ?_
          refine lv_goto (tgt := 269) hx hb dX6_turn_102 (by decide) ?_
          exact zk_retv u88 hQ hx hb hr hlocks hS hP hD (Nat.le_of_ble_eq_true rfl) (Nat.le_of_ble_eq_true rfl) dX6_turn_269 (by unfold kTurn; rw [if_neg (show ¬ g % 16 = 0 by omega), if_pos (show g % 16 < 7 by omega)]; exact (eL90).trans (if_pos h88_85).symm)
    · have h42_48 := zk_eq0 (by omega) h42_48
      refine lv_aload_n hx hb dX6_turn_45 rfl (lv_at hl 3 rfl) ?_
      refine va_get (D := G.1) (ci := 5) (v := .ref (b 3)) (C := RX6) (T := TX6) (N := 11) hx hb hts (fun _ h => List.mem_cons_of_mem _ (List.mem_append_right _ h)) hown hK hP 0 rfl rfl 4 (by decide) w1 (fun _ h9 => h9) rfl dX6_turn_46 ?_
      refine lv_bipush (v := nI 99) hx hb dX6_turn_49 (by decide) ?_
      refine lv_iload_n hx hb dX6_turn_51 rfl (lv_at hl 4 rfl) ?_
      refine lv_bipush (v := nI 16) hx hb dX6_turn_52 (by decide) ?_
      refine zk_idivN hx hb dX6_turn_54 (by omega) (by omega) (by omega) ?_
      refine lv_iconst (v := nI 5) hx hb dX6_turn_55 (by decide) ?_
      refine zk_iremN hx hb dX6_turn_56 (by omega) (by omega) (by omega) ?_
      refine lv_iload_n hx hb dX6_turn_57 rfl (lv_at hl 4 rfl) ?_
      refine lv_sipush (v := nI 128) hx hb dX6_turn_58 (by decide) ?_
      refine zk_idivN hx hb dX6_turn_61 (by omega) (by omega) (by omega) ?_
      refine lv_iconst (v := nI 4) hx hb dX6_turn_62 (by decide) ?_
      refine zk_iremN hx hb dX6_turn_63 (by omega) (by omega) (by omega) ?_
      refine lv_iconst (v := nI 0) hx hb dX6_turn_64 (by decide) ?_
      have hP0 : va_P G.1 vwCl ((zb_r G (b 3) K) ++ (zb_6 G b rf sz ac sp ou)) s.heap := zk_Pperm hP (show ((zb_6 G b rf sz ac sp ou) ++ zb_r G (b 3) K).Perm ((zb_r G (b 3) K) ++ (zb_6 G b rf sz ac sp ou)) from (show ((zb_6 G b rf sz ac sp ou) ++ zb_r G (b 3) K).Perm ((zb_r G (b 3) K) ++ zb_6 G b rf sz ac sp ou) from List.perm_append_comm).trans (List.Perm.of_eq (by simp only [List.append_assoc, List.append_nil, List.nil_append])))
      have hD0 : va_D A ((zb_r G (b 3) K) ++ (zb_6 G b rf sz ac sp ou)) := zk_Dperm hD (show ((zb_6 G b rf sz ac sp ou) ++ zb_r G (b 3) K).Perm ((zb_r G (b 3) K) ++ (zb_6 G b rf sz ac sp ou)) from (show ((zb_6 G b rf sz ac sp ou) ++ zb_r G (b 3) K).Perm ((zb_r G (b 3) K) ++ zb_6 G b rf sz ac sp ou) from List.perm_append_comm).trans (List.Perm.of_eq (by simp only [List.append_assoc, List.append_nil, List.nil_append])))
      refine zk_callI (wr := zb_6 G b rf sz ac sp ou) (va_runS (As := [.ref (b 3), .int (nI 99), .int (nI ((g / 16) % 5)), .int (nI ((g / 128) % 4)), .int (nI 0)]) (rest := []) ⟨hx, hb, hml, hown, hts⟩ (c_X6_does l G (b 3) K n t hI (nI 99) (nI ((g / 16) % 5)) (nI ((g / 128) % 4)) (nI 0) (kDok_c (by omega)) hp0 _) (cwS 5 hts gX6_turn_X6_does rfl rfl rfl (by decide +kernel) ⟨Nat.le_of_ble_eq_true rfl, Nat.le_of_ble_eq_true rfl⟩) (zk_preS hE hA0 hS (zk_Papp hP0).1 (zk_Dapp hD0).1) rfl rfl hl.1 rfl (lv_room (Nat.le_of_ble_eq_true rfl)) dX6_turn_65 ⟨Nat.le_of_ble_eq_true rfl, Nat.le_of_ble_eq_true rfl⟩) hP0 hD0 hS hA (fun r92 u93 H locs q94 hP hD hS => ?_)
      obtain ⟨er92, eL95⟩ := q94
      have hP : va_P G.1 vwCl ((zb_6 G b rf sz ac sp ou) ++ zb_r G (b 3) u93) H := zk_Pperm hP (show ((zb_6 G b rf sz ac sp ou) ++ zb_r G (b 3) u93).Perm ((zb_r G (b 3) u93) ++ (zb_6 G b rf sz ac sp ou)) from (show ((zb_6 G b rf sz ac sp ou) ++ zb_r G (b 3) u93).Perm ((zb_r G (b 3) u93) ++ zb_6 G b rf sz ac sp ou) from List.perm_append_comm).trans (List.Perm.of_eq (by simp only [List.append_assoc, List.append_nil, List.nil_append]))).symm
      have hD : va_D A ((zb_6 G b rf sz ac sp ou) ++ zb_r G (b 3) u93) := zk_Dperm hD (show ((zb_6 G b rf sz ac sp ou) ++ zb_r G (b 3) u93).Perm ((zb_r G (b 3) u93) ++ (zb_6 G b rf sz ac sp ou)) from (show ((zb_6 G b rf sz ac sp ou) ++ zb_r G (b 3) u93).Perm ((zb_r G (b 3) u93) ++ zb_6 G b rf sz ac sp ou) from List.perm_append_comm).trans (List.Perm.of_eq (by simp only [List.append_assoc, List.append_nil, List.nil_append]))).symm
      refine lv_pop hx hb dX6_turn_68 rfl ?_
      refine lv_goto (tgt := 269) hx hb dX6_turn_69 (by decide) ?_
      exact zk_retv u93 hQ hx hb hr hlocks hS hP hD (Nat.le_of_ble_eq_true rfl) (Nat.le_of_ble_eq_true rfl) dX6_turn_269 (by unfold kTurn; rw [if_pos (show g % 16 = 0 by omega)]; exact eL95)

abbrev rmX6_runScript : Room := { frames := 5, cells := 0, slots := 0, locals := 121 }
set_option maxHeartbeats 4000000 in
set_option maxRecDepth 100000 in
/-- a script on a copy -/
theorem c_X6_runScript (l : Launch) (G : zk_G) (b : Nat → Nat) (rf sz ac sp ou : Int32) (K : zL) (n t : Nat) (hI : sInv K n t) (hp0 : ¬ K 0 2 < nI 1) (Z : zL) (nn : Int32) (sc : Int64) : zk_I (S := Int32 × zL) l yX6_runScript wsX6_runScript rmX6_runScript G [.ref (b 0), .int nn, .long sc] ((zb_6 G b rf sz ac sp ou) ++ ((zb_r G (b 2) K) ++ zb_r G (b 3) Z)) (fun r u => (¬ nn < nI 1 ∧ ¬ nI 3 < nn ∧ ¬ sc < lN 0 ∧ ¬ lN (pw6 nn.toNatClampNeg) - lN 1 < sc ∧ u.1 = 0 ∧ r = sOpt (kRun K sc nn.toNatClampNeg nn.toNatClampNeg).1) ∨ (((nn < nI 1 ∨ nI 3 < nn) ∨ (¬ nn < nI 1 ∧ ¬ nI 3 < nn ∧ (sc < lN 0 ∨ lN (pw6 nn.toNatClampNeg) - lN 1 < sc))) ∧ u.1 = nI 1)) (fun u => zb_6 G b u.1 sz ac sp ou ++ (zb_r G (b 2) K ++ zb_r G (b 3) u.2)) := by
  refine zk_bodyI (cc := cX6_runScript) (maxL := 8) (ret := (some .int)) (by decide) rfl (Nat.le_of_ble_eq_true rfl) ?_
  intro p E0 s m args below meth cd A ls Q hF hQ
  obtain ⟨hx, hb, hml, hr, hts, hown, hlocks, -, hE, hP, hD, hS, hA, hA0, hl⟩ := hF
  have hK := hE.1
  have hl : lv_has ls 8 [(0, .ref (b 0)), (1, .int nn), (2, .long sc)] := hl
  obtain ⟨hn, hn12, ht, ht40, hfam, hpay⟩ := id hI
  have w2 := hts _ (List.mem_of_getElem? (l := wsX6_runScript) (i := 2) (a := Cond.constantLong RX6 165 (3)) rfl)
  have w3 := hts _ (List.mem_of_getElem? (l := wsX6_runScript) (i := 3) (a := Cond.fieldLink RX6 13 "MealAccountsModel" "now" "[I") rfl)
  have w4 := hts _ (List.mem_of_getElem? (l := wsX6_runScript) (i := 4) (a := Cond.fieldLink RX6 16 "MealAccountsModel" "trial" "[I") rfl)
  have w1 := hts _ (List.mem_of_getElem? (l := wsX6_runScript) (i := 1) (a := Cond.constantLong RX6 189 (1000000)) rfl)
  have w5 := hts _ (List.mem_of_getElem? (l := wsX6_runScript) (i := 5) (a := Cond.constant RX6 191 (100000)) rfl)
  refine lv_lconst (v := lN 1) hx hb dX6_runScript_0 rfl ?_
  refine lv_topl (fun y1 ey1 => ?_)
  refine lv_lstore (lv' := [(4, .long y1), (0, .ref (b 0)), (1, .int nn), (2, .long sc)]) hx hb dX6_runScript_1 hl (by decide) rfl (fun ls hl => ?_)
  have hl : lv_has ls 8 [(4, .long (lN (pw6 0))), (0, .ref (b 0)), (1, .int nn), (2, .long sc)] := by rw [ey1, show lN 1 = lN (pw6 0) from rfl] at hl; exact hl
  refine lv_iconst (v := nI 0) hx hb dX6_runScript_3 (by decide) ?_
  refine lv_istore (lv' := [(6, .int (nI 0)), (4, .long (lN (pw6 0))), (0, .ref (b 0)), (1, .int nn), (2, .long sc)]) hx hb dX6_runScript_4 hl (by decide) rfl (fun ls hl => ?_)
  have lp2 : ∀ (n4 : Nat) (i : Nat), 3 - i < n4 → (i ≤ 3) → (i = 0 ∨ nI (i - 1) < nn) → ∀ (ls : Array Slot), lv_has ls 8 [(6, .int (nI i)), (4, .long (lN (pw6 i))), (0, .ref (b 0)), (1, .int nn), (2, .long sc)] → W p l E0 rmX6_runScript s m args below meth cd s.heap [] 0 0 Q (F0 m 6 ls []) := by
    intro n4
    induction n4 with
    | zero => intro i hz; exact absurd hz (Nat.not_lt_zero _)
    | succ n4 ih3 =>
      intro i hm hi hle ls hl
      refine lv_iload hx hb dX6_runScript_6 (lv_at hl 0 rfl) ?_
      refine lv_iload_n hx hb dX6_runScript_8 rfl (lv_at hl 3 rfl) ?_
      refine lv_icmp_ge (tgt := 32) hx hb dX6_runScript_9 (by decide) (fun h9_4 => ?_) (fun h9_4 => ?_)
      · have h9_4 := zk_l1 h9_4
        refine lv_aload_n hx hb dX6_runScript_32 rfl (lv_at hl 2 rfl) ?_
        refine lv_iload_n hx hb dX6_runScript_33 rfl (lv_at hl 3 rfl) ?_
        refine lv_i2l (v := nn.toInt64) hx hb dX6_runScript_34 rfl ?_
        refine lv_lconst (v := lN 1) hx hb dX6_runScript_35 rfl ?_
        refine zk_topL (show lN 1 = (nI 1).toInt64 from (nI_l (by decide)).symm) ?_
        refine lv_ldc2 hx hb (v := lN 3) hown w2 dX6_runScript_36 ?_
        refine zk_topL (show lN 3 = (nI 3).toInt64 from (nI_l (by decide)).symm) ?_
        have hP0 : va_P G.1 vwCl (([] : va_W) ++ ((zb_6 G b rf sz ac sp ou) ++ ((zb_r G (b 2) K) ++ zb_r G (b 3) Z))) s.heap := hP
        have hD0 : va_D A (([] : va_W) ++ ((zb_6 G b rf sz ac sp ou) ++ ((zb_r G (b 2) K) ++ zb_r G (b 3) Z))) := hD
        refine zk_callI (wr := (zb_6 G b rf sz ac sp ou) ++ ((zb_r G (b 2) K) ++ zb_r G (b 3) Z)) (va_runS (As := [.long nn.toInt64, .long ((nI 1).toInt64), .long ((nI 3).toInt64)]) (rest := [.ref (b 0)]) ⟨hx, hb, hml, hown, hts⟩ (c_X6_inI l G nn (nI 1) (nI 3) _) (cwS 3 hts gX6_runScript_X6_in rfl rfl rfl (by decide +kernel) ⟨Nat.le_of_ble_eq_true rfl, Nat.le_of_ble_eq_true rfl⟩) (zk_preS hE hA0 hS (zk_Papp hP0).1 (zk_Dapp hD0).1) rfl rfl hl.1 rfl (lv_room (Nat.le_of_ble_eq_true rfl)) dX6_runScript_39 ⟨Nat.le_of_ble_eq_true rfl, Nat.le_of_ble_eq_true rfl⟩) hP0 hD0 hS hA (fun r6 u7 H locs q8 hP hD hS => ?_)
        subst q8
        have hP : va_P G.1 vwCl ((zb_6 G b rf sz ac sp ou) ++ ((zb_r G (b 2) K) ++ zb_r G (b 3) Z)) H := hP
        have hD : va_D A ((zb_6 G b rf sz ac sp ou) ++ ((zb_r G (b 2) K) ++ zb_r G (b 3) Z)) := hD
        refine lv_if_eq (tgt := 61) hx hb dX6_runScript_42 (by decide) (fun h42_8 => ?_) (fun h42_8 => ?_)
        · have h42_8 := zk_b0 h42_8
          refine lv_iconst (v := nI 1) hx hb dX6_runScript_61 (by decide) ?_
          have hP0 : va_P G.1 vwCl ((zb_6 G b rf sz ac sp ou) ++ ((zb_r G (b 2) K) ++ zb_r G (b 3) Z)) H := zk_Pperm hP (show ((zb_6 G b rf sz ac sp ou) ++ ((zb_r G (b 2) K) ++ zb_r G (b 3) Z)).Perm ((zb_6 G b rf sz ac sp ou) ++ ((zb_r G (b 2) K) ++ zb_r G (b 3) Z)) from (show ((zb_6 G b rf sz ac sp ou) ++ ((zb_r G (b 2) K) ++ zb_r G (b 3) Z)).Perm ((zb_6 G b rf sz ac sp ou) ++ ((zb_r G (b 2) K) ++ zb_r G (b 3) Z)) from List.Perm.refl _).trans (List.Perm.of_eq (by simp only [List.append_assoc, List.append_nil, List.nil_append])))
          have hD0 : va_D A ((zb_6 G b rf sz ac sp ou) ++ ((zb_r G (b 2) K) ++ zb_r G (b 3) Z)) := zk_Dperm hD (show ((zb_6 G b rf sz ac sp ou) ++ ((zb_r G (b 2) K) ++ zb_r G (b 3) Z)).Perm ((zb_6 G b rf sz ac sp ou) ++ ((zb_r G (b 2) K) ++ zb_r G (b 3) Z)) from (show ((zb_6 G b rf sz ac sp ou) ++ ((zb_r G (b 2) K) ++ zb_r G (b 3) Z)).Perm ((zb_6 G b rf sz ac sp ou) ++ ((zb_r G (b 2) K) ++ zb_r G (b 3) Z)) from List.Perm.refl _).trans (List.Perm.of_eq (by simp only [List.append_assoc, List.append_nil, List.nil_append])))
          refine zk_callI (wr := (zb_r G (b 2) K) ++ zb_r G (b 3) Z) (va_runV (As := [.int (nI 1)]) (rest := []) ⟨hx, hb, hml, hown, hts⟩ (c_X6_refused l G b rf sz ac sp ou (nI 1) _) (cwV 1 hts gX6_runScript_X6_refused rfl rfl rfl (by decide +kernel) ⟨Nat.le_of_ble_eq_true rfl, Nat.le_of_ble_eq_true rfl⟩) (zk_preV hE hA0 hS (zk_Papp hP0).1 (zk_Dapp hD0).1 (va_recv hK hP0 (ci := 5) (q0 := 0) rfl rfl)) rfl rfl hl.1 rfl (lv_room (Nat.le_of_ble_eq_true rfl)) dX6_runScript_62 ⟨Nat.le_of_ble_eq_true rfl, Nat.le_of_ble_eq_true rfl⟩) hP0 hD0 hS hA (fun r10 u11 H locs q12 hP hD hS => ?_)
          subst q12
          have hP : va_P G.1 vwCl ((zb_6 G b (nI 1) sz ac sp ou) ++ ((zb_r G (b 2) K) ++ zb_r G (b 3) Z)) H := zk_Pperm hP (show ((zb_6 G b (nI 1) sz ac sp ou) ++ ((zb_r G (b 2) K) ++ zb_r G (b 3) Z)).Perm ((zb_6 G b (nI 1) sz ac sp ou) ++ ((zb_r G (b 2) K) ++ zb_r G (b 3) Z)) from (show ((zb_6 G b (nI 1) sz ac sp ou) ++ ((zb_r G (b 2) K) ++ zb_r G (b 3) Z)).Perm ((zb_6 G b (nI 1) sz ac sp ou) ++ ((zb_r G (b 2) K) ++ zb_r G (b 3) Z)) from List.Perm.refl _).trans (List.Perm.of_eq (by simp only [List.append_assoc, List.append_nil, List.nil_append]))).symm
          have hD : va_D A ((zb_6 G b (nI 1) sz ac sp ou) ++ ((zb_r G (b 2) K) ++ zb_r G (b 3) Z)) := zk_Dperm hD (show ((zb_6 G b (nI 1) sz ac sp ou) ++ ((zb_r G (b 2) K) ++ zb_r G (b 3) Z)).Perm ((zb_6 G b (nI 1) sz ac sp ou) ++ ((zb_r G (b 2) K) ++ zb_r G (b 3) Z)) from (show ((zb_6 G b (nI 1) sz ac sp ou) ++ ((zb_r G (b 2) K) ++ zb_r G (b 3) Z)).Perm ((zb_6 G b (nI 1) sz ac sp ou) ++ ((zb_r G (b 2) K) ++ zb_r G (b 3) Z)) from List.Perm.refl _).trans (List.Perm.of_eq (by simp only [List.append_assoc, List.append_nil, List.nil_append]))).symm
          refine zk_top (show (if 0 < (nI 1) then nI 1 else nI 0) = nI 1 by decide) ?_
          refine lv_if_eq (tgt := 70) hx hb dX6_runScript_65 (by decide) (fun z => absurd z (by decide)) (fun _ => ?_)
          refine lv_iconst (v := nI 0) hx hb dX6_runScript_68 (by decide) ?_
          exact zk_reti (nI 1, Z) hQ hx hb hr hlocks hS hP hD (Nat.le_of_ble_eq_true rfl) (Nat.le_of_ble_eq_true rfl) dX6_runScript_69 (Or.inr ⟨Or.inl (zin_or h42_8), rfl⟩)
        · have h42_8 := zk_b1 h42_8
          have hnn0 : ¬ nn < 0 := fun z => h42_8.1 (Int32.lt_trans z (by decide))
          obtain ⟨kn, hkn, ekn⟩ := nI_of hnn0
          subst ekn
          have nkn := nI_clamp hkn
          have hk1 : 1 ≤ kn := zk_nlt hkn (by omega) h42_8.1
          have hk3 : kn ≤ 3 := zk_nlt (by omega) hkn h42_8.2
          have ei : i = kn := by
            have h1 : i ≤ kn := by rcases hle with z | z; omega; have := zk_lt (by omega) hkn z; omega
            have h2 : kn ≤ i := zk_nlt (by omega) hkn h9_4
            omega
          have hl : lv_has ls 8 [(6, .int (nI kn)), (4, .long (lN (pw6 kn))), (0, .ref (b 0)), (1, .int (nI kn)), (2, .long sc)] := by rw [ei] at hl; exact hl
          refine lv_lload_n hx hb dX6_runScript_45 rfl (lv_at hl 4 rfl) ?_
          refine lv_lconst (v := lN 0) hx hb dX6_runScript_46 rfl ?_
          refine lv_lload hx hb dX6_runScript_47 (lv_at hl 1 rfl) ?_
          refine lv_lconst (v := lN 1) hx hb dX6_runScript_49 rfl ?_
          refine lv_lsub hx hb dX6_runScript_50 ?_
          have hP0 : va_P G.1 vwCl (([] : va_W) ++ ((zb_6 G b rf sz ac sp ou) ++ ((zb_r G (b 2) K) ++ zb_r G (b 3) Z))) H := hP
          have hD0 : va_D A (([] : va_W) ++ ((zb_6 G b rf sz ac sp ou) ++ ((zb_r G (b 2) K) ++ zb_r G (b 3) Z))) := hD
          refine zk_callI (wr := (zb_6 G b rf sz ac sp ou) ++ ((zb_r G (b 2) K) ++ zb_r G (b 3) Z)) (va_runS (As := [.long sc, .long (lN 0), .long ((lN (pw6 kn)) - (lN 1))]) (rest := [.ref (b 0)]) ⟨hx, hb, hml, hown, hts⟩ (c_X6_in l G sc (lN 0) ((lN (pw6 kn)) - (lN 1)) _) (cwS 3 hts gX6_runScript_X6_in rfl rfl rfl (by decide +kernel) ⟨Nat.le_of_ble_eq_true rfl, Nat.le_of_ble_eq_true rfl⟩) (zk_preS hE hA0 hS (zk_Papp hP0).1 (zk_Dapp hD0).1) rfl rfl hl.1 rfl (lv_room (Nat.le_of_ble_eq_true rfl)) dX6_runScript_51 ⟨Nat.le_of_ble_eq_true rfl, Nat.le_of_ble_eq_true rfl⟩) hP0 hD0 hS hA (fun r13 u14 H locs q15 hP hD hS => ?_)
          subst q15
          have hP : va_P G.1 vwCl ((zb_6 G b rf sz ac sp ou) ++ ((zb_r G (b 2) K) ++ zb_r G (b 3) Z)) H := hP
          have hD : va_D A ((zb_6 G b rf sz ac sp ou) ++ ((zb_r G (b 2) K) ++ zb_r G (b 3) Z)) := hD
          refine lv_if_eq (tgt := 61) hx hb dX6_runScript_54 (by decide) (fun h54_15 => ?_) (fun h54_15 => ?_)
          · have h54_15 := zk_b0 h54_15
            refine lv_iconst (v := nI 1) hx hb dX6_runScript_61 (by decide) ?_
            have hP0 : va_P G.1 vwCl ((zb_6 G b rf sz ac sp ou) ++ ((zb_r G (b 2) K) ++ zb_r G (b 3) Z)) H := zk_Pperm hP (show ((zb_6 G b rf sz ac sp ou) ++ ((zb_r G (b 2) K) ++ zb_r G (b 3) Z)).Perm ((zb_6 G b rf sz ac sp ou) ++ ((zb_r G (b 2) K) ++ zb_r G (b 3) Z)) from (show ((zb_6 G b rf sz ac sp ou) ++ ((zb_r G (b 2) K) ++ zb_r G (b 3) Z)).Perm ((zb_6 G b rf sz ac sp ou) ++ ((zb_r G (b 2) K) ++ zb_r G (b 3) Z)) from List.Perm.refl _).trans (List.Perm.of_eq (by simp only [List.append_assoc, List.append_nil, List.nil_append])))
            have hD0 : va_D A ((zb_6 G b rf sz ac sp ou) ++ ((zb_r G (b 2) K) ++ zb_r G (b 3) Z)) := zk_Dperm hD (show ((zb_6 G b rf sz ac sp ou) ++ ((zb_r G (b 2) K) ++ zb_r G (b 3) Z)).Perm ((zb_6 G b rf sz ac sp ou) ++ ((zb_r G (b 2) K) ++ zb_r G (b 3) Z)) from (show ((zb_6 G b rf sz ac sp ou) ++ ((zb_r G (b 2) K) ++ zb_r G (b 3) Z)).Perm ((zb_6 G b rf sz ac sp ou) ++ ((zb_r G (b 2) K) ++ zb_r G (b 3) Z)) from List.Perm.refl _).trans (List.Perm.of_eq (by simp only [List.append_assoc, List.append_nil, List.nil_append])))
            refine zk_callI (wr := (zb_r G (b 2) K) ++ zb_r G (b 3) Z) (va_runV (As := [.int (nI 1)]) (rest := []) ⟨hx, hb, hml, hown, hts⟩ (c_X6_refused l G b rf sz ac sp ou (nI 1) _) (cwV 1 hts gX6_runScript_X6_refused rfl rfl rfl (by decide +kernel) ⟨Nat.le_of_ble_eq_true rfl, Nat.le_of_ble_eq_true rfl⟩) (zk_preV hE hA0 hS (zk_Papp hP0).1 (zk_Dapp hD0).1 (va_recv hK hP0 (ci := 5) (q0 := 0) rfl rfl)) rfl rfl hl.1 rfl (lv_room (Nat.le_of_ble_eq_true rfl)) dX6_runScript_62 ⟨Nat.le_of_ble_eq_true rfl, Nat.le_of_ble_eq_true rfl⟩) hP0 hD0 hS hA (fun r17 u18 H locs q19 hP hD hS => ?_)
            subst q19
            have hP : va_P G.1 vwCl ((zb_6 G b (nI 1) sz ac sp ou) ++ ((zb_r G (b 2) K) ++ zb_r G (b 3) Z)) H := zk_Pperm hP (show ((zb_6 G b (nI 1) sz ac sp ou) ++ ((zb_r G (b 2) K) ++ zb_r G (b 3) Z)).Perm ((zb_6 G b (nI 1) sz ac sp ou) ++ ((zb_r G (b 2) K) ++ zb_r G (b 3) Z)) from (show ((zb_6 G b (nI 1) sz ac sp ou) ++ ((zb_r G (b 2) K) ++ zb_r G (b 3) Z)).Perm ((zb_6 G b (nI 1) sz ac sp ou) ++ ((zb_r G (b 2) K) ++ zb_r G (b 3) Z)) from List.Perm.refl _).trans (List.Perm.of_eq (by simp only [List.append_assoc, List.append_nil, List.nil_append]))).symm
            have hD : va_D A ((zb_6 G b (nI 1) sz ac sp ou) ++ ((zb_r G (b 2) K) ++ zb_r G (b 3) Z)) := zk_Dperm hD (show ((zb_6 G b (nI 1) sz ac sp ou) ++ ((zb_r G (b 2) K) ++ zb_r G (b 3) Z)).Perm ((zb_6 G b (nI 1) sz ac sp ou) ++ ((zb_r G (b 2) K) ++ zb_r G (b 3) Z)) from (show ((zb_6 G b (nI 1) sz ac sp ou) ++ ((zb_r G (b 2) K) ++ zb_r G (b 3) Z)).Perm ((zb_6 G b (nI 1) sz ac sp ou) ++ ((zb_r G (b 2) K) ++ zb_r G (b 3) Z)) from List.Perm.refl _).trans (List.Perm.of_eq (by simp only [List.append_assoc, List.append_nil, List.nil_append]))).symm
            refine zk_top (show (if 0 < (nI 1) then nI 1 else nI 0) = nI 1 by decide) ?_
            refine lv_if_eq (tgt := 70) hx hb dX6_runScript_65 (by decide) (fun z => absurd z (by decide)) (fun _ => ?_)
            refine lv_iconst (v := nI 0) hx hb dX6_runScript_68 (by decide) ?_
            exact zk_reti (nI 1, Z) hQ hx hb hr hlocks hS hP hD (Nat.le_of_ble_eq_true rfl) (Nat.le_of_ble_eq_true rfl) dX6_runScript_69 (Or.inr ⟨Or.inr ⟨h42_8.1, h42_8.2, by rw [nkn]; exact zl_or h54_15⟩, rfl⟩)
          · have h54_15 := zk_b1 h54_15
            refine lv_iconst (v := nI 0) hx hb dX6_runScript_57 (by decide) ?_
            refine lv_goto (tgt := 62) hx hb dX6_runScript_58 (by decide) ?_
            have hP0 : va_P G.1 vwCl ((zb_6 G b rf sz ac sp ou) ++ ((zb_r G (b 2) K) ++ zb_r G (b 3) Z)) H := zk_Pperm hP (show ((zb_6 G b rf sz ac sp ou) ++ ((zb_r G (b 2) K) ++ zb_r G (b 3) Z)).Perm ((zb_6 G b rf sz ac sp ou) ++ ((zb_r G (b 2) K) ++ zb_r G (b 3) Z)) from (show ((zb_6 G b rf sz ac sp ou) ++ ((zb_r G (b 2) K) ++ zb_r G (b 3) Z)).Perm ((zb_6 G b rf sz ac sp ou) ++ ((zb_r G (b 2) K) ++ zb_r G (b 3) Z)) from List.Perm.refl _).trans (List.Perm.of_eq (by simp only [List.append_assoc, List.append_nil, List.nil_append])))
            have hD0 : va_D A ((zb_6 G b rf sz ac sp ou) ++ ((zb_r G (b 2) K) ++ zb_r G (b 3) Z)) := zk_Dperm hD (show ((zb_6 G b rf sz ac sp ou) ++ ((zb_r G (b 2) K) ++ zb_r G (b 3) Z)).Perm ((zb_6 G b rf sz ac sp ou) ++ ((zb_r G (b 2) K) ++ zb_r G (b 3) Z)) from (show ((zb_6 G b rf sz ac sp ou) ++ ((zb_r G (b 2) K) ++ zb_r G (b 3) Z)).Perm ((zb_6 G b rf sz ac sp ou) ++ ((zb_r G (b 2) K) ++ zb_r G (b 3) Z)) from List.Perm.refl _).trans (List.Perm.of_eq (by simp only [List.append_assoc, List.append_nil, List.nil_append])))
            refine zk_callI (wr := (zb_r G (b 2) K) ++ zb_r G (b 3) Z) (va_runV (As := [.int (nI 0)]) (rest := []) ⟨hx, hb, hml, hown, hts⟩ (c_X6_refused l G b rf sz ac sp ou (nI 0) _) (cwV 1 hts gX6_runScript_X6_refused rfl rfl rfl (by decide +kernel) ⟨Nat.le_of_ble_eq_true rfl, Nat.le_of_ble_eq_true rfl⟩) (zk_preV hE hA0 hS (zk_Papp hP0).1 (zk_Dapp hD0).1 (va_recv hK hP0 (ci := 5) (q0 := 0) rfl rfl)) rfl rfl hl.1 rfl (lv_room (Nat.le_of_ble_eq_true rfl)) dX6_runScript_62 ⟨Nat.le_of_ble_eq_true rfl, Nat.le_of_ble_eq_true rfl⟩) hP0 hD0 hS hA (fun r20 u21 H locs q22 hP hD hS => ?_)
            subst q22
            have hP : va_P G.1 vwCl ((zb_6 G b (nI 0) sz ac sp ou) ++ ((zb_r G (b 2) K) ++ zb_r G (b 3) Z)) H := zk_Pperm hP (show ((zb_6 G b (nI 0) sz ac sp ou) ++ ((zb_r G (b 2) K) ++ zb_r G (b 3) Z)).Perm ((zb_6 G b (nI 0) sz ac sp ou) ++ ((zb_r G (b 2) K) ++ zb_r G (b 3) Z)) from (show ((zb_6 G b (nI 0) sz ac sp ou) ++ ((zb_r G (b 2) K) ++ zb_r G (b 3) Z)).Perm ((zb_6 G b (nI 0) sz ac sp ou) ++ ((zb_r G (b 2) K) ++ zb_r G (b 3) Z)) from List.Perm.refl _).trans (List.Perm.of_eq (by simp only [List.append_assoc, List.append_nil, List.nil_append]))).symm
            have hD : va_D A ((zb_6 G b (nI 0) sz ac sp ou) ++ ((zb_r G (b 2) K) ++ zb_r G (b 3) Z)) := zk_Dperm hD (show ((zb_6 G b (nI 0) sz ac sp ou) ++ ((zb_r G (b 2) K) ++ zb_r G (b 3) Z)).Perm ((zb_6 G b (nI 0) sz ac sp ou) ++ ((zb_r G (b 2) K) ++ zb_r G (b 3) Z)) from (show ((zb_6 G b (nI 0) sz ac sp ou) ++ ((zb_r G (b 2) K) ++ zb_r G (b 3) Z)).Perm ((zb_6 G b (nI 0) sz ac sp ou) ++ ((zb_r G (b 2) K) ++ zb_r G (b 3) Z)) from List.Perm.refl _).trans (List.Perm.of_eq (by simp only [List.append_assoc, List.append_nil, List.nil_append]))).symm
            refine zk_top (show (if 0 < (nI 0) then nI 1 else nI 0) = nI 0 by decide) ?_
            refine lv_if_eq (tgt := 70) hx hb dX6_runScript_65 (by decide) (fun _ => ?_) (fun z => absurd (by decide) z)
            obtain ⟨s0, hs0, es0⟩ := pk_lOf (show ¬ sc < 0 from h54_15.1)
            subst es0
            refine lv_aload_n hx hb dX6_runScript_70 rfl (lv_at hl 2 rfl) ?_
            refine va_get (D := G.1) (ci := 5) (v := .ref (b 2)) (C := RX6) (T := TX6) (N := 11) hx hb hts (fun _ h => List.mem_cons_of_mem _ (List.mem_append_right _ h)) hown hK hP 0 rfl rfl 3 (by decide) w3 (fun _ h9 => h9) rfl dX6_runScript_71 ?_
            refine lv_iconst (v := nI 0) hx hb dX6_runScript_74 (by decide) ?_
            refine lv_aload_n hx hb dX6_runScript_75 rfl (lv_at hl 2 rfl) ?_
            refine va_get (D := G.1) (ci := 5) (v := .ref (b 3)) (C := RX6) (T := TX6) (N := 11) hx hb hts (fun _ h => List.mem_cons_of_mem _ (List.mem_append_right _ h)) hown hK hP 0 rfl rfl 4 (by decide) w4 (fun _ h9 => h9) rfl dX6_runScript_76 ?_
            refine lv_iconst (v := nI 0) hx hb dX6_runScript_79 (by decide) ?_
            have hP0 : va_P G.1 vwCl ((zb_r G (b 2) K ++ zb_r G (b 3) Z) ++ (zb_6 G b (nI 0) sz ac sp ou)) H := zk_Pperm hP (show ((zb_6 G b (nI 0) sz ac sp ou) ++ ((zb_r G (b 2) K) ++ zb_r G (b 3) Z)).Perm ((zb_r G (b 2) K ++ zb_r G (b 3) Z) ++ (zb_6 G b (nI 0) sz ac sp ou)) from (show ((zb_6 G b (nI 0) sz ac sp ou) ++ ((zb_r G (b 2) K) ++ zb_r G (b 3) Z)).Perm ((zb_r G (b 2) K) ++ ((zb_r G (b 3) Z) ++ zb_6 G b (nI 0) sz ac sp ou)) from (((List.Perm.append_left _ List.perm_append_comm).trans (List.perm_append_comm_assoc _ _ _))).trans ((List.Perm.append_left _ List.perm_append_comm).trans (List.perm_append_comm_assoc _ _ _))).trans (List.Perm.of_eq (by simp only [List.append_assoc, List.append_nil, List.nil_append])))
            have hD0 : va_D A ((zb_r G (b 2) K ++ zb_r G (b 3) Z) ++ (zb_6 G b (nI 0) sz ac sp ou)) := zk_Dperm hD (show ((zb_6 G b (nI 0) sz ac sp ou) ++ ((zb_r G (b 2) K) ++ zb_r G (b 3) Z)).Perm ((zb_r G (b 2) K ++ zb_r G (b 3) Z) ++ (zb_6 G b (nI 0) sz ac sp ou)) from (show ((zb_6 G b (nI 0) sz ac sp ou) ++ ((zb_r G (b 2) K) ++ zb_r G (b 3) Z)).Perm ((zb_r G (b 2) K) ++ ((zb_r G (b 3) Z) ++ zb_6 G b (nI 0) sz ac sp ou)) from (((List.Perm.append_left _ List.perm_append_comm).trans (List.perm_append_comm_assoc _ _ _))).trans ((List.Perm.append_left _ List.perm_append_comm).trans (List.perm_append_comm_assoc _ _ _))).trans (List.Perm.of_eq (by simp only [List.append_assoc, List.append_nil, List.nil_append])))
            refine zk_callV (wr := zb_6 G b (nI 0) sz ac sp ou) (va_runS (As := [.ref (b 2), .int (nI 0), .ref (b 3), .int (nI 0)]) (rest := []) ⟨hx, hb, hml, hown, hts⟩ (c_X6_copyTerm l G (b 2) 1555 0 (b 3) 1555 0 (zrow K) (zrow Z) (by omega) (by omega) (by decide) (by decide) _) (cwS 4 hts gX6_runScript_X6_copyTerm rfl rfl rfl (by decide +kernel) ⟨Nat.le_of_ble_eq_true rfl, Nat.le_of_ble_eq_true rfl⟩) (zk_preS hE hA0 hS (zk_Papp hP0).1 (zk_Dapp hD0).1) rfl rfl hl.1 rfl (lv_room (Nat.le_of_ble_eq_true rfl)) dX6_runScript_80 ⟨Nat.le_of_ble_eq_true rfl, Nat.le_of_ble_eq_true rfl⟩) hP0 hD0 hS hA (fun u24 H locs q25 hP hD hS => ?_)
            subst q25
            obtain ⟨hP, hD⟩ := zk_cong (q0 := 1) (g := zrow K) hP hD rfl (kcp_rr K _)
            have hP : va_P G.1 vwCl ((zb_r G (b 2) K ++ zb_r G (b 3) K) ++ (zb_6 G b (nI 0) sz ac sp ou)) H := hP
            have hD : va_D A ((zb_r G (b 2) K ++ zb_r G (b 3) K) ++ (zb_6 G b (nI 0) sz ac sp ou)) := hD
            have hP : va_P G.1 vwCl ((zb_6 G b (nI 0) sz ac sp ou) ++ ((zb_r G (b 2) K) ++ zb_r G (b 3) K)) H := zk_Pperm hP (show ((zb_6 G b (nI 0) sz ac sp ou) ++ ((zb_r G (b 2) K) ++ zb_r G (b 3) K)).Perm ((zb_r G (b 2) K ++ zb_r G (b 3) K) ++ (zb_6 G b (nI 0) sz ac sp ou)) from (show ((zb_6 G b (nI 0) sz ac sp ou) ++ ((zb_r G (b 2) K) ++ zb_r G (b 3) K)).Perm ((zb_r G (b 2) K) ++ ((zb_r G (b 3) K) ++ zb_6 G b (nI 0) sz ac sp ou)) from (((List.Perm.append_left _ List.perm_append_comm).trans (List.perm_append_comm_assoc _ _ _))).trans ((List.Perm.append_left _ List.perm_append_comm).trans (List.perm_append_comm_assoc _ _ _))).trans (List.Perm.of_eq (by simp only [List.append_assoc, List.append_nil, List.nil_append]))).symm
            have hD : va_D A ((zb_6 G b (nI 0) sz ac sp ou) ++ ((zb_r G (b 2) K) ++ zb_r G (b 3) K)) := zk_Dperm hD (show ((zb_6 G b (nI 0) sz ac sp ou) ++ ((zb_r G (b 2) K) ++ zb_r G (b 3) K)).Perm ((zb_r G (b 2) K ++ zb_r G (b 3) K) ++ (zb_6 G b (nI 0) sz ac sp ou)) from (show ((zb_6 G b (nI 0) sz ac sp ou) ++ ((zb_r G (b 2) K) ++ zb_r G (b 3) K)).Perm ((zb_r G (b 2) K) ++ ((zb_r G (b 3) K) ++ zb_6 G b (nI 0) sz ac sp ou)) from (((List.Perm.append_left _ List.perm_append_comm).trans (List.perm_append_comm_assoc _ _ _))).trans ((List.Perm.append_left _ List.perm_append_comm).trans (List.perm_append_comm_assoc _ _ _))).trans (List.Perm.of_eq (by simp only [List.append_assoc, List.append_nil, List.nil_append]))).symm
            refine lv_iconst (v := nI 0) hx hb dX6_runScript_83 (by decide) ?_
            refine lv_istore (lv' := [(6, .int (nI 0)), (4, .long (lN (pw6 kn))), (0, .ref (b 0)), (1, .int (nI kn)), (2, .long (lN s0))]) hx hb dX6_runScript_84 hl (by decide) rfl (fun ls hl => ?_)
            have lp26 : ∀ (n28 : Nat) (j : Nat) (X : zL), kn - j < n28 → (j ≤ kn) → ((none, X) = kRun K (lN s0) kn j) → (sInv X (zN X) (zT X)) → (X 0 2 = K 0 2) → ∀ (H : Heap) (locs : List Loc) (hP : va_P G.1 vwCl ((zb_6 G b (nI 0) sz ac sp ou) ++ ((zb_r G (b 2) K) ++ zb_r G (b 3) X)) H) (hD : va_D A ((zb_6 G b (nI 0) sz ac sp ou) ++ ((zb_r G (b 2) K) ++ zb_r G (b 3) X))) (hS : va_S A s.heap H locs) (ls : Array Slot), lv_has ls 8 [(6, .int (nI j)), (4, .long (lN (pw6 (kn - j)))), (0, .ref (b 0)), (1, .int (nI kn)), (2, .long (lN s0))] → W p l E0 rmX6_runScript s m args below meth cd H locs 0 0 Q (F0 m 86 ls []) := by
              intro n28
              induction n28 with
              | zero => intro j X hz; exact absurd hz (Nat.not_lt_zero _)
              | succ n28 ih27 =>
                intro j X hm hj hq hX hpX H locs hP hD hS ls hl
                refine lv_iload hx hb dX6_runScript_86 (lv_at hl 0 rfl) ?_
                refine lv_iload_n hx hb dX6_runScript_88 rfl (lv_at hl 3 rfl) ?_
                refine lv_icmp_ge (tgt := 137) hx hb dX6_runScript_89 (by decide) (fun h89_28 => ?_) (fun h89_28 => ?_)
                · have h89_28 := zk_le (by omega) (by omega) h89_28
                  refine lv_iconst (v := -1) hx hb dX6_runScript_137 (by decide) ?_
                  exact zk_reti (nI 0, X) hQ hx hb hr hlocks hS hP hD (Nat.le_of_ble_eq_true rfl) (Nat.le_of_ble_eq_true rfl) dX6_runScript_138 (Or.inl ⟨h42_8.1, h42_8.2, h54_15.1, by rw [nkn]; exact h54_15.2, rfl, by rw [nkn]; rw [show j = kn by omega] at hq; rw [← hq]; rfl⟩)
                · have h89_28 := zk_nle (by omega) (by omega) h89_28
                  refine lv_lload hx hb dX6_runScript_92 (lv_at hl 1 rfl) ?_
                  refine lv_ldc2 hx hb (v := lN 1000000) hown w1 dX6_runScript_94 ?_
                  refine lv_ldiv hx hb dX6_runScript_97 (by decide) ?_
                  refine lv_topl (fun y30 ey30 => ?_)
                  refine lv_lstore (lv' := [(4, .long y30), (6, .int (nI j)), (0, .ref (b 0)), (1, .int (nI kn)), (2, .long (lN s0))]) hx hb dX6_runScript_98 hl (by decide) rfl (fun ls hl => ?_)
                  have eall : y30 = lN (pw6 (kn - 1 - j)) := by rw [ey30, show kn - j = (kn - 1 - j) + 1 by omega]; exact pw6_d (by omega)
                  have hl : lv_has ls 8 [(4, .long (lN (pw6 (kn - 1 - j)))), (6, .int (nI j)), (0, .ref (b 0)), (1, .int (nI kn)), (2, .long (lN s0))] := by rw [eall] at hl; exact hl
                  refine lv_lload_n hx hb dX6_runScript_100 rfl (lv_at hl 4 rfl) ?_
                  refine lv_lload hx hb dX6_runScript_101 (lv_at hl 0 rfl) ?_
                  refine lv_ldiv hx hb dX6_runScript_103 (pw6_ne (by omega)) ?_
                  refine lv_ldc2 hx hb (v := lN 1000000) hown w1 dX6_runScript_104 ?_
                  refine lv_lrem hx hb dX6_runScript_107 (by decide) ?_
                  refine lv_l2i (v := (((lN s0) / (lN (pw6 (kn - 1 - j)))) - ((lN s0) / (lN (pw6 (kn - 1 - j)))) / (lN 1000000) * (lN 1000000)).toInt32) hx hb dX6_runScript_108 rfl ?_
                  refine lv_topi (fun x31 ex31 => ?_)
                  refine lv_istore (lv' := [(7, .int x31), (4, .long (lN (pw6 (kn - 1 - j)))), (6, .int (nI j)), (0, .ref (b 0)), (1, .int (nI kn)), (2, .long (lN s0))]) hx hb dX6_runScript_109 hl (by decide) rfl (fun ls hl => ?_)
                  obtain ⟨gg, hgg, egg⟩ := rGrp_nat (sc := lN s0) h54_15.1 kn j
                  have exx : x31 = nI gg := by rw [ex31, kGrp hs0 (by omega) hk3 rfl]; exact egg
                  have hl : lv_has ls 8 [(7, .int (nI gg)), (4, .long (lN (pw6 (kn - 1 - j)))), (6, .int (nI j)), (0, .ref (b 0)), (1, .int (nI kn)), (2, .long (lN s0))] := by rw [exx] at hl; exact hl
                  have hg2 : (rGrp (lN s0) kn j).toNatClampNeg = gg := by rw [egg]; exact nI_clamp (by omega)
                  refine lv_aload_n hx hb dX6_runScript_111 rfl (lv_at hl 3 rfl) ?_
                  refine lv_iload hx hb dX6_runScript_112 (lv_at hl 0 rfl) ?_
                  refine lv_ldc hx hb (v := nI 100000) hown w5 dX6_runScript_114 ?_
                  refine zk_idivN hx hb dX6_runScript_116 (by omega) (by omega) (by omega) ?_
                  refine lv_iload hx hb dX6_runScript_117 (lv_at hl 0 rfl) ?_
                  refine lv_ldc hx hb (v := nI 100000) hown w5 dX6_runScript_119 ?_
                  refine zk_iremN hx hb dX6_runScript_121 (by omega) (by omega) (by omega) ?_
                  have hP0 : va_P G.1 vwCl ((zb_6 G b (nI 0) sz ac sp ou ++ zb_r G (b 3) X) ++ (zb_r G (b 2) K)) H := zk_Pperm hP (show ((zb_6 G b (nI 0) sz ac sp ou) ++ ((zb_r G (b 2) K) ++ zb_r G (b 3) X)).Perm ((zb_6 G b (nI 0) sz ac sp ou ++ zb_r G (b 3) X) ++ (zb_r G (b 2) K)) from (show ((zb_6 G b (nI 0) sz ac sp ou) ++ ((zb_r G (b 2) K) ++ zb_r G (b 3) X)).Perm ((zb_6 G b (nI 0) sz ac sp ou) ++ ((zb_r G (b 3) X) ++ zb_r G (b 2) K)) from (((List.Perm.append_left _ List.perm_append_comm).trans (List.perm_append_comm_assoc _ _ _))).trans (List.perm_append_comm_assoc _ _ _)).trans (List.Perm.of_eq (by simp only [List.append_assoc, List.append_nil, List.nil_append])))
                  have hD0 : va_D A ((zb_6 G b (nI 0) sz ac sp ou ++ zb_r G (b 3) X) ++ (zb_r G (b 2) K)) := zk_Dperm hD (show ((zb_6 G b (nI 0) sz ac sp ou) ++ ((zb_r G (b 2) K) ++ zb_r G (b 3) X)).Perm ((zb_6 G b (nI 0) sz ac sp ou ++ zb_r G (b 3) X) ++ (zb_r G (b 2) K)) from (show ((zb_6 G b (nI 0) sz ac sp ou) ++ ((zb_r G (b 2) K) ++ zb_r G (b 3) X)).Perm ((zb_6 G b (nI 0) sz ac sp ou) ++ ((zb_r G (b 3) X) ++ zb_r G (b 2) K)) from (((List.Perm.append_left _ List.perm_append_comm).trans (List.perm_append_comm_assoc _ _ _))).trans (List.perm_append_comm_assoc _ _ _)).trans (List.Perm.of_eq (by simp only [List.append_assoc, List.append_nil, List.nil_append])))
                  refine zk_callI (wr := zb_r G (b 2) K) (va_runV (As := [.int (nI (gg / 100000)), .int (nI (gg % 100000))]) (rest := []) ⟨hx, hb, hml, hown, hts⟩ (c_X6_command l G b (nI 0) sz ac sp ou X (zN X) (zT X) hX (by rw [hpX]; exact hp0) (gg / 100000) (gg % 100000) (by omega) (by omega) _) (cwV 2 hts gX6_runScript_X6_command rfl rfl rfl (by decide +kernel) ⟨Nat.le_of_ble_eq_true rfl, Nat.le_of_ble_eq_true rfl⟩) (zk_preV hE hA0 hS (zk_Papp hP0).1 (zk_Dapp hD0).1 (va_recv hK hP0 (ci := 5) (q0 := 0) rfl rfl)) rfl rfl hl.1 rfl (lv_room (Nat.le_of_ble_eq_true rfl)) dX6_runScript_122 ⟨Nat.le_of_ble_eq_true rfl, Nat.le_of_ble_eq_true rfl⟩) hP0 hD0 hS hA (fun r32 u33 H locs q34 hP hD hS => ?_)
                  obtain ⟨er32, eL35⟩ := q34
                  have hI36 : sInv u33 (zN u33) (zT u33) := by rw [eL35]; exact kCmd_inv hX (by omega)
                  have hp37 : u33 0 2 = K 0 2 := by rw [eL35]; exact kCmd_r0.trans hpX
                  have hP : va_P G.1 vwCl ((zb_6 G b (nI 0) sz ac sp ou) ++ ((zb_r G (b 2) K) ++ zb_r G (b 3) u33)) H := zk_Pperm hP (show ((zb_6 G b (nI 0) sz ac sp ou) ++ ((zb_r G (b 2) K) ++ zb_r G (b 3) u33)).Perm ((zb_6 G b (nI 0) sz ac sp ou ++ zb_r G (b 3) u33) ++ (zb_r G (b 2) K)) from (show ((zb_6 G b (nI 0) sz ac sp ou) ++ ((zb_r G (b 2) K) ++ zb_r G (b 3) u33)).Perm ((zb_6 G b (nI 0) sz ac sp ou) ++ ((zb_r G (b 3) u33) ++ zb_r G (b 2) K)) from (((List.Perm.append_left _ List.perm_append_comm).trans (List.perm_append_comm_assoc _ _ _))).trans (List.perm_append_comm_assoc _ _ _)).trans (List.Perm.of_eq (by simp only [List.append_assoc, List.append_nil, List.nil_append]))).symm
                  have hD : va_D A ((zb_6 G b (nI 0) sz ac sp ou) ++ ((zb_r G (b 2) K) ++ zb_r G (b 3) u33)) := zk_Dperm hD (show ((zb_6 G b (nI 0) sz ac sp ou) ++ ((zb_r G (b 2) K) ++ zb_r G (b 3) u33)).Perm ((zb_6 G b (nI 0) sz ac sp ou ++ zb_r G (b 3) u33) ++ (zb_r G (b 2) K)) from (show ((zb_6 G b (nI 0) sz ac sp ou) ++ ((zb_r G (b 2) K) ++ zb_r G (b 3) u33)).Perm ((zb_6 G b (nI 0) sz ac sp ou) ++ ((zb_r G (b 3) u33) ++ zb_r G (b 2) K)) from (((List.Perm.append_left _ List.perm_append_comm).trans (List.perm_append_comm_assoc _ _ _))).trans (List.perm_append_comm_assoc _ _ _)).trans (List.Perm.of_eq (by simp only [List.append_assoc, List.append_nil, List.nil_append]))).symm
                  refine lv_if_ne (tgt := 131) hx hb dX6_runScript_125 (by decide) (fun h125_37 => ?_) (fun h125_37 => ?_)
                  · refine lv_iinc (v := nI (j + 1)) (lv' := [(6, .int (nI (j + 1))), (7, .int (nI gg)), (4, .long (lN (pw6 (kn - 1 - j)))), (0, .ref (b 0)), (1, .int (nI kn)), (2, .long (lN s0))]) hx hb dX6_runScript_131 hl (k := 2) rfl (zk_inc j 1) (by decide) rfl (fun ls hl => ?_)
                    have hl : lv_has ls 8 [(6, .int (nI (j + 1))), (7, .int (nI gg)), (4, .long (lN (pw6 (kn - (j + 1))))), (0, .ref (b 0)), (1, .int (nI kn)), (2, .long (lN s0))] := by rw [show kn - 1 - j = kn - (j + 1) by omega] at hl; exact hl
                    refine lv_goto (tgt := 86) hx hb dX6_runScript_134 (by decide) ?_
                    exact ih27 (j + 1) u33 (by omega) (by omega) (by refine zfold_i (f := kStep (lN s0) kn) hq ?_; show _ = kStep (lN s0) kn j (none, X); unfold kStep; rw [if_pos rfl, hg2]; exact Prod.ext (if_neg (fun z => h125_37 (er32.trans z))).symm eL35) (hI36) (hp37) _ _ hP hD hS ls (lv_sub hl [0, 2, 3, 4, 5] rfl)
                  · refine lv_iload hx hb dX6_runScript_128 (lv_at hl 2 rfl) ?_
                    exact zk_reti (nI 0, u33) hQ hx hb hr hlocks hS hP hD (Nat.le_of_ble_eq_true rfl) (Nat.le_of_ble_eq_true rfl) dX6_runScript_130 (Or.inl ⟨h42_8.1, h42_8.2, h54_15.1, by rw [nkn]; exact h54_15.2, rfl, by rw [nkn, kRun_hit hq (by omega) (show kStep (lN s0) kn j (none, X) = (some j, (kCmd X (zN X) (zT X) (gg / 100000) (gg % 100000)).2) by unfold kStep; rw [if_pos rfl, hg2]; exact Prod.ext (if_pos (er32.symm.trans h125_37)) rfl)]; rfl⟩)
            exact lp26 _ 0 K (Nat.lt_succ_self _) (by omega) (rfl) (sInv_at hI) (rfl) _ _ hP hD hS ls (lv_sub hl [0, 1, 2, 3, 4] rfl)
      · have h9_4 := zk_l2 h9_4
        refine lv_iload hx hb dX6_runScript_12 (lv_at hl 0 rfl) ?_
        refine lv_iconst (v := nI 3) hx hb dX6_runScript_14 (by decide) ?_
        refine lv_icmp_ge (tgt := 32) hx hb dX6_runScript_15 (by decide) (fun h15_38 => ?_) (fun h15_38 => ?_)
        · have h15_38 := zk_le (by omega) (by omega) h15_38
          refine lv_aload_n hx hb dX6_runScript_32 rfl (lv_at hl 2 rfl) ?_
          refine lv_iload_n hx hb dX6_runScript_33 rfl (lv_at hl 3 rfl) ?_
          refine lv_i2l (v := nn.toInt64) hx hb dX6_runScript_34 rfl ?_
          refine lv_lconst (v := lN 1) hx hb dX6_runScript_35 rfl ?_
          refine zk_topL (show lN 1 = (nI 1).toInt64 from (nI_l (by decide)).symm) ?_
          refine lv_ldc2 hx hb (v := lN 3) hown w2 dX6_runScript_36 ?_
          refine zk_topL (show lN 3 = (nI 3).toInt64 from (nI_l (by decide)).symm) ?_
          have hP0 : va_P G.1 vwCl (([] : va_W) ++ ((zb_6 G b rf sz ac sp ou) ++ ((zb_r G (b 2) K) ++ zb_r G (b 3) Z))) s.heap := hP
          have hD0 : va_D A (([] : va_W) ++ ((zb_6 G b rf sz ac sp ou) ++ ((zb_r G (b 2) K) ++ zb_r G (b 3) Z))) := hD
          refine zk_callI (wr := (zb_6 G b rf sz ac sp ou) ++ ((zb_r G (b 2) K) ++ zb_r G (b 3) Z)) (va_runS (As := [.long nn.toInt64, .long ((nI 1).toInt64), .long ((nI 3).toInt64)]) (rest := [.ref (b 0)]) ⟨hx, hb, hml, hown, hts⟩ (c_X6_inI l G nn (nI 1) (nI 3) _) (cwS 3 hts gX6_runScript_X6_in rfl rfl rfl (by decide +kernel) ⟨Nat.le_of_ble_eq_true rfl, Nat.le_of_ble_eq_true rfl⟩) (zk_preS hE hA0 hS (zk_Papp hP0).1 (zk_Dapp hD0).1) rfl rfl hl.1 rfl (lv_room (Nat.le_of_ble_eq_true rfl)) dX6_runScript_39 ⟨Nat.le_of_ble_eq_true rfl, Nat.le_of_ble_eq_true rfl⟩) hP0 hD0 hS hA (fun r40 u41 H locs q42 hP hD hS => ?_)
          subst q42
          have hP : va_P G.1 vwCl ((zb_6 G b rf sz ac sp ou) ++ ((zb_r G (b 2) K) ++ zb_r G (b 3) Z)) H := hP
          have hD : va_D A ((zb_6 G b rf sz ac sp ou) ++ ((zb_r G (b 2) K) ++ zb_r G (b 3) Z)) := hD
          refine lv_if_eq (tgt := 61) hx hb dX6_runScript_42 (by decide) (fun h42_42 => ?_) (fun h42_42 => ?_)
          · have h42_42 := zk_b0 h42_42
            refine lv_iconst (v := nI 1) hx hb dX6_runScript_61 (by decide) ?_
            have hP0 : va_P G.1 vwCl ((zb_6 G b rf sz ac sp ou) ++ ((zb_r G (b 2) K) ++ zb_r G (b 3) Z)) H := zk_Pperm hP (show ((zb_6 G b rf sz ac sp ou) ++ ((zb_r G (b 2) K) ++ zb_r G (b 3) Z)).Perm ((zb_6 G b rf sz ac sp ou) ++ ((zb_r G (b 2) K) ++ zb_r G (b 3) Z)) from (show ((zb_6 G b rf sz ac sp ou) ++ ((zb_r G (b 2) K) ++ zb_r G (b 3) Z)).Perm ((zb_6 G b rf sz ac sp ou) ++ ((zb_r G (b 2) K) ++ zb_r G (b 3) Z)) from List.Perm.refl _).trans (List.Perm.of_eq (by simp only [List.append_assoc, List.append_nil, List.nil_append])))
            have hD0 : va_D A ((zb_6 G b rf sz ac sp ou) ++ ((zb_r G (b 2) K) ++ zb_r G (b 3) Z)) := zk_Dperm hD (show ((zb_6 G b rf sz ac sp ou) ++ ((zb_r G (b 2) K) ++ zb_r G (b 3) Z)).Perm ((zb_6 G b rf sz ac sp ou) ++ ((zb_r G (b 2) K) ++ zb_r G (b 3) Z)) from (show ((zb_6 G b rf sz ac sp ou) ++ ((zb_r G (b 2) K) ++ zb_r G (b 3) Z)).Perm ((zb_6 G b rf sz ac sp ou) ++ ((zb_r G (b 2) K) ++ zb_r G (b 3) Z)) from List.Perm.refl _).trans (List.Perm.of_eq (by simp only [List.append_assoc, List.append_nil, List.nil_append])))
            refine zk_callI (wr := (zb_r G (b 2) K) ++ zb_r G (b 3) Z) (va_runV (As := [.int (nI 1)]) (rest := []) ⟨hx, hb, hml, hown, hts⟩ (c_X6_refused l G b rf sz ac sp ou (nI 1) _) (cwV 1 hts gX6_runScript_X6_refused rfl rfl rfl (by decide +kernel) ⟨Nat.le_of_ble_eq_true rfl, Nat.le_of_ble_eq_true rfl⟩) (zk_preV hE hA0 hS (zk_Papp hP0).1 (zk_Dapp hD0).1 (va_recv hK hP0 (ci := 5) (q0 := 0) rfl rfl)) rfl rfl hl.1 rfl (lv_room (Nat.le_of_ble_eq_true rfl)) dX6_runScript_62 ⟨Nat.le_of_ble_eq_true rfl, Nat.le_of_ble_eq_true rfl⟩) hP0 hD0 hS hA (fun r44 u45 H locs q46 hP hD hS => ?_)
            subst q46
            have hP : va_P G.1 vwCl ((zb_6 G b (nI 1) sz ac sp ou) ++ ((zb_r G (b 2) K) ++ zb_r G (b 3) Z)) H := zk_Pperm hP (show ((zb_6 G b (nI 1) sz ac sp ou) ++ ((zb_r G (b 2) K) ++ zb_r G (b 3) Z)).Perm ((zb_6 G b (nI 1) sz ac sp ou) ++ ((zb_r G (b 2) K) ++ zb_r G (b 3) Z)) from (show ((zb_6 G b (nI 1) sz ac sp ou) ++ ((zb_r G (b 2) K) ++ zb_r G (b 3) Z)).Perm ((zb_6 G b (nI 1) sz ac sp ou) ++ ((zb_r G (b 2) K) ++ zb_r G (b 3) Z)) from List.Perm.refl _).trans (List.Perm.of_eq (by simp only [List.append_assoc, List.append_nil, List.nil_append]))).symm
            have hD : va_D A ((zb_6 G b (nI 1) sz ac sp ou) ++ ((zb_r G (b 2) K) ++ zb_r G (b 3) Z)) := zk_Dperm hD (show ((zb_6 G b (nI 1) sz ac sp ou) ++ ((zb_r G (b 2) K) ++ zb_r G (b 3) Z)).Perm ((zb_6 G b (nI 1) sz ac sp ou) ++ ((zb_r G (b 2) K) ++ zb_r G (b 3) Z)) from (show ((zb_6 G b (nI 1) sz ac sp ou) ++ ((zb_r G (b 2) K) ++ zb_r G (b 3) Z)).Perm ((zb_6 G b (nI 1) sz ac sp ou) ++ ((zb_r G (b 2) K) ++ zb_r G (b 3) Z)) from List.Perm.refl _).trans (List.Perm.of_eq (by simp only [List.append_assoc, List.append_nil, List.nil_append]))).symm
            refine zk_top (show (if 0 < (nI 1) then nI 1 else nI 0) = nI 1 by decide) ?_
            refine lv_if_eq (tgt := 70) hx hb dX6_runScript_65 (by decide) (fun z => absurd z (by decide)) (fun _ => ?_)
            refine lv_iconst (v := nI 0) hx hb dX6_runScript_68 (by decide) ?_
            exact zk_reti (nI 1, Z) hQ hx hb hr hlocks hS hP hD (Nat.le_of_ble_eq_true rfl) (Nat.le_of_ble_eq_true rfl) dX6_runScript_69 (Or.inr ⟨Or.inl (zin_or h42_42), rfl⟩)
          · have h42_42 := zk_b1 h42_42
            have hnn0 : ¬ nn < 0 := fun z => h42_42.1 (Int32.lt_trans z (by decide))
            obtain ⟨kn, hkn, ekn⟩ := nI_of hnn0
            subst ekn
            have nkn := nI_clamp hkn
            have hk1 : 1 ≤ kn := zk_nlt hkn (by omega) h42_42.1
            have hk3 : kn ≤ 3 := zk_nlt (by omega) hkn h42_42.2
            have ei : i = kn := by
              have h1 : i ≤ kn := by rcases hle with z | z; omega; have := zk_lt (by omega) hkn z; omega
              omega
            have hl : lv_has ls 8 [(6, .int (nI kn)), (4, .long (lN (pw6 kn))), (0, .ref (b 0)), (1, .int (nI kn)), (2, .long sc)] := by rw [ei] at hl; exact hl
            refine lv_lload_n hx hb dX6_runScript_45 rfl (lv_at hl 4 rfl) ?_
            refine lv_lconst (v := lN 0) hx hb dX6_runScript_46 rfl ?_
            refine lv_lload hx hb dX6_runScript_47 (lv_at hl 1 rfl) ?_
            refine lv_lconst (v := lN 1) hx hb dX6_runScript_49 rfl ?_
            refine lv_lsub hx hb dX6_runScript_50 ?_
            have hP0 : va_P G.1 vwCl (([] : va_W) ++ ((zb_6 G b rf sz ac sp ou) ++ ((zb_r G (b 2) K) ++ zb_r G (b 3) Z))) H := hP
            have hD0 : va_D A (([] : va_W) ++ ((zb_6 G b rf sz ac sp ou) ++ ((zb_r G (b 2) K) ++ zb_r G (b 3) Z))) := hD
            refine zk_callI (wr := (zb_6 G b rf sz ac sp ou) ++ ((zb_r G (b 2) K) ++ zb_r G (b 3) Z)) (va_runS (As := [.long sc, .long (lN 0), .long ((lN (pw6 kn)) - (lN 1))]) (rest := [.ref (b 0)]) ⟨hx, hb, hml, hown, hts⟩ (c_X6_in l G sc (lN 0) ((lN (pw6 kn)) - (lN 1)) _) (cwS 3 hts gX6_runScript_X6_in rfl rfl rfl (by decide +kernel) ⟨Nat.le_of_ble_eq_true rfl, Nat.le_of_ble_eq_true rfl⟩) (zk_preS hE hA0 hS (zk_Papp hP0).1 (zk_Dapp hD0).1) rfl rfl hl.1 rfl (lv_room (Nat.le_of_ble_eq_true rfl)) dX6_runScript_51 ⟨Nat.le_of_ble_eq_true rfl, Nat.le_of_ble_eq_true rfl⟩) hP0 hD0 hS hA (fun r47 u48 H locs q49 hP hD hS => ?_)
            subst q49
            have hP : va_P G.1 vwCl ((zb_6 G b rf sz ac sp ou) ++ ((zb_r G (b 2) K) ++ zb_r G (b 3) Z)) H := hP
            have hD : va_D A ((zb_6 G b rf sz ac sp ou) ++ ((zb_r G (b 2) K) ++ zb_r G (b 3) Z)) := hD
            refine lv_if_eq (tgt := 61) hx hb dX6_runScript_54 (by decide) (fun h54_49 => ?_) (fun h54_49 => ?_)
            · have h54_49 := zk_b0 h54_49
              refine lv_iconst (v := nI 1) hx hb dX6_runScript_61 (by decide) ?_
              have hP0 : va_P G.1 vwCl ((zb_6 G b rf sz ac sp ou) ++ ((zb_r G (b 2) K) ++ zb_r G (b 3) Z)) H := zk_Pperm hP (show ((zb_6 G b rf sz ac sp ou) ++ ((zb_r G (b 2) K) ++ zb_r G (b 3) Z)).Perm ((zb_6 G b rf sz ac sp ou) ++ ((zb_r G (b 2) K) ++ zb_r G (b 3) Z)) from (show ((zb_6 G b rf sz ac sp ou) ++ ((zb_r G (b 2) K) ++ zb_r G (b 3) Z)).Perm ((zb_6 G b rf sz ac sp ou) ++ ((zb_r G (b 2) K) ++ zb_r G (b 3) Z)) from List.Perm.refl _).trans (List.Perm.of_eq (by simp only [List.append_assoc, List.append_nil, List.nil_append])))
              have hD0 : va_D A ((zb_6 G b rf sz ac sp ou) ++ ((zb_r G (b 2) K) ++ zb_r G (b 3) Z)) := zk_Dperm hD (show ((zb_6 G b rf sz ac sp ou) ++ ((zb_r G (b 2) K) ++ zb_r G (b 3) Z)).Perm ((zb_6 G b rf sz ac sp ou) ++ ((zb_r G (b 2) K) ++ zb_r G (b 3) Z)) from (show ((zb_6 G b rf sz ac sp ou) ++ ((zb_r G (b 2) K) ++ zb_r G (b 3) Z)).Perm ((zb_6 G b rf sz ac sp ou) ++ ((zb_r G (b 2) K) ++ zb_r G (b 3) Z)) from List.Perm.refl _).trans (List.Perm.of_eq (by simp only [List.append_assoc, List.append_nil, List.nil_append])))
              refine zk_callI (wr := (zb_r G (b 2) K) ++ zb_r G (b 3) Z) (va_runV (As := [.int (nI 1)]) (rest := []) ⟨hx, hb, hml, hown, hts⟩ (c_X6_refused l G b rf sz ac sp ou (nI 1) _) (cwV 1 hts gX6_runScript_X6_refused rfl rfl rfl (by decide +kernel) ⟨Nat.le_of_ble_eq_true rfl, Nat.le_of_ble_eq_true rfl⟩) (zk_preV hE hA0 hS (zk_Papp hP0).1 (zk_Dapp hD0).1 (va_recv hK hP0 (ci := 5) (q0 := 0) rfl rfl)) rfl rfl hl.1 rfl (lv_room (Nat.le_of_ble_eq_true rfl)) dX6_runScript_62 ⟨Nat.le_of_ble_eq_true rfl, Nat.le_of_ble_eq_true rfl⟩) hP0 hD0 hS hA (fun r51 u52 H locs q53 hP hD hS => ?_)
              subst q53
              have hP : va_P G.1 vwCl ((zb_6 G b (nI 1) sz ac sp ou) ++ ((zb_r G (b 2) K) ++ zb_r G (b 3) Z)) H := zk_Pperm hP (show ((zb_6 G b (nI 1) sz ac sp ou) ++ ((zb_r G (b 2) K) ++ zb_r G (b 3) Z)).Perm ((zb_6 G b (nI 1) sz ac sp ou) ++ ((zb_r G (b 2) K) ++ zb_r G (b 3) Z)) from (show ((zb_6 G b (nI 1) sz ac sp ou) ++ ((zb_r G (b 2) K) ++ zb_r G (b 3) Z)).Perm ((zb_6 G b (nI 1) sz ac sp ou) ++ ((zb_r G (b 2) K) ++ zb_r G (b 3) Z)) from List.Perm.refl _).trans (List.Perm.of_eq (by simp only [List.append_assoc, List.append_nil, List.nil_append]))).symm
              have hD : va_D A ((zb_6 G b (nI 1) sz ac sp ou) ++ ((zb_r G (b 2) K) ++ zb_r G (b 3) Z)) := zk_Dperm hD (show ((zb_6 G b (nI 1) sz ac sp ou) ++ ((zb_r G (b 2) K) ++ zb_r G (b 3) Z)).Perm ((zb_6 G b (nI 1) sz ac sp ou) ++ ((zb_r G (b 2) K) ++ zb_r G (b 3) Z)) from (show ((zb_6 G b (nI 1) sz ac sp ou) ++ ((zb_r G (b 2) K) ++ zb_r G (b 3) Z)).Perm ((zb_6 G b (nI 1) sz ac sp ou) ++ ((zb_r G (b 2) K) ++ zb_r G (b 3) Z)) from List.Perm.refl _).trans (List.Perm.of_eq (by simp only [List.append_assoc, List.append_nil, List.nil_append]))).symm
              refine zk_top (show (if 0 < (nI 1) then nI 1 else nI 0) = nI 1 by decide) ?_
              refine lv_if_eq (tgt := 70) hx hb dX6_runScript_65 (by decide) (fun z => absurd z (by decide)) (fun _ => ?_)
              refine lv_iconst (v := nI 0) hx hb dX6_runScript_68 (by decide) ?_
              exact zk_reti (nI 1, Z) hQ hx hb hr hlocks hS hP hD (Nat.le_of_ble_eq_true rfl) (Nat.le_of_ble_eq_true rfl) dX6_runScript_69 (Or.inr ⟨Or.inr ⟨h42_42.1, h42_42.2, by rw [nkn]; exact zl_or h54_49⟩, rfl⟩)
            · have h54_49 := zk_b1 h54_49
              refine lv_iconst (v := nI 0) hx hb dX6_runScript_57 (by decide) ?_
              refine lv_goto (tgt := 62) hx hb dX6_runScript_58 (by decide) ?_
              have hP0 : va_P G.1 vwCl ((zb_6 G b rf sz ac sp ou) ++ ((zb_r G (b 2) K) ++ zb_r G (b 3) Z)) H := zk_Pperm hP (show ((zb_6 G b rf sz ac sp ou) ++ ((zb_r G (b 2) K) ++ zb_r G (b 3) Z)).Perm ((zb_6 G b rf sz ac sp ou) ++ ((zb_r G (b 2) K) ++ zb_r G (b 3) Z)) from (show ((zb_6 G b rf sz ac sp ou) ++ ((zb_r G (b 2) K) ++ zb_r G (b 3) Z)).Perm ((zb_6 G b rf sz ac sp ou) ++ ((zb_r G (b 2) K) ++ zb_r G (b 3) Z)) from List.Perm.refl _).trans (List.Perm.of_eq (by simp only [List.append_assoc, List.append_nil, List.nil_append])))
              have hD0 : va_D A ((zb_6 G b rf sz ac sp ou) ++ ((zb_r G (b 2) K) ++ zb_r G (b 3) Z)) := zk_Dperm hD (show ((zb_6 G b rf sz ac sp ou) ++ ((zb_r G (b 2) K) ++ zb_r G (b 3) Z)).Perm ((zb_6 G b rf sz ac sp ou) ++ ((zb_r G (b 2) K) ++ zb_r G (b 3) Z)) from (show ((zb_6 G b rf sz ac sp ou) ++ ((zb_r G (b 2) K) ++ zb_r G (b 3) Z)).Perm ((zb_6 G b rf sz ac sp ou) ++ ((zb_r G (b 2) K) ++ zb_r G (b 3) Z)) from List.Perm.refl _).trans (List.Perm.of_eq (by simp only [List.append_assoc, List.append_nil, List.nil_append])))
              refine zk_callI (wr := (zb_r G (b 2) K) ++ zb_r G (b 3) Z) (va_runV (As := [.int (nI 0)]) (rest := []) ⟨hx, hb, hml, hown, hts⟩ (c_X6_refused l G b rf sz ac sp ou (nI 0) _) (cwV 1 hts gX6_runScript_X6_refused rfl rfl rfl (by decide +kernel) ⟨Nat.le_of_ble_eq_true rfl, Nat.le_of_ble_eq_true rfl⟩) (zk_preV hE hA0 hS (zk_Papp hP0).1 (zk_Dapp hD0).1 (va_recv hK hP0 (ci := 5) (q0 := 0) rfl rfl)) rfl rfl hl.1 rfl (lv_room (Nat.le_of_ble_eq_true rfl)) dX6_runScript_62 ⟨Nat.le_of_ble_eq_true rfl, Nat.le_of_ble_eq_true rfl⟩) hP0 hD0 hS hA (fun r54 u55 H locs q56 hP hD hS => ?_)
              subst q56
              have hP : va_P G.1 vwCl ((zb_6 G b (nI 0) sz ac sp ou) ++ ((zb_r G (b 2) K) ++ zb_r G (b 3) Z)) H := zk_Pperm hP (show ((zb_6 G b (nI 0) sz ac sp ou) ++ ((zb_r G (b 2) K) ++ zb_r G (b 3) Z)).Perm ((zb_6 G b (nI 0) sz ac sp ou) ++ ((zb_r G (b 2) K) ++ zb_r G (b 3) Z)) from (show ((zb_6 G b (nI 0) sz ac sp ou) ++ ((zb_r G (b 2) K) ++ zb_r G (b 3) Z)).Perm ((zb_6 G b (nI 0) sz ac sp ou) ++ ((zb_r G (b 2) K) ++ zb_r G (b 3) Z)) from List.Perm.refl _).trans (List.Perm.of_eq (by simp only [List.append_assoc, List.append_nil, List.nil_append]))).symm
              have hD : va_D A ((zb_6 G b (nI 0) sz ac sp ou) ++ ((zb_r G (b 2) K) ++ zb_r G (b 3) Z)) := zk_Dperm hD (show ((zb_6 G b (nI 0) sz ac sp ou) ++ ((zb_r G (b 2) K) ++ zb_r G (b 3) Z)).Perm ((zb_6 G b (nI 0) sz ac sp ou) ++ ((zb_r G (b 2) K) ++ zb_r G (b 3) Z)) from (show ((zb_6 G b (nI 0) sz ac sp ou) ++ ((zb_r G (b 2) K) ++ zb_r G (b 3) Z)).Perm ((zb_6 G b (nI 0) sz ac sp ou) ++ ((zb_r G (b 2) K) ++ zb_r G (b 3) Z)) from List.Perm.refl _).trans (List.Perm.of_eq (by simp only [List.append_assoc, List.append_nil, List.nil_append]))).symm
              refine zk_top (show (if 0 < (nI 0) then nI 1 else nI 0) = nI 0 by decide) ?_
              refine lv_if_eq (tgt := 70) hx hb dX6_runScript_65 (by decide) (fun _ => ?_) (fun z => absurd (by decide) z)
              obtain ⟨s0, hs0, es0⟩ := pk_lOf (show ¬ sc < 0 from h54_49.1)
              subst es0
              refine lv_aload_n hx hb dX6_runScript_70 rfl (lv_at hl 2 rfl) ?_
              refine va_get (D := G.1) (ci := 5) (v := .ref (b 2)) (C := RX6) (T := TX6) (N := 11) hx hb hts (fun _ h => List.mem_cons_of_mem _ (List.mem_append_right _ h)) hown hK hP 0 rfl rfl 3 (by decide) w3 (fun _ h9 => h9) rfl dX6_runScript_71 ?_
              refine lv_iconst (v := nI 0) hx hb dX6_runScript_74 (by decide) ?_
              refine lv_aload_n hx hb dX6_runScript_75 rfl (lv_at hl 2 rfl) ?_
              refine va_get (D := G.1) (ci := 5) (v := .ref (b 3)) (C := RX6) (T := TX6) (N := 11) hx hb hts (fun _ h => List.mem_cons_of_mem _ (List.mem_append_right _ h)) hown hK hP 0 rfl rfl 4 (by decide) w4 (fun _ h9 => h9) rfl dX6_runScript_76 ?_
              refine lv_iconst (v := nI 0) hx hb dX6_runScript_79 (by decide) ?_
              have hP0 : va_P G.1 vwCl ((zb_r G (b 2) K ++ zb_r G (b 3) Z) ++ (zb_6 G b (nI 0) sz ac sp ou)) H := zk_Pperm hP (show ((zb_6 G b (nI 0) sz ac sp ou) ++ ((zb_r G (b 2) K) ++ zb_r G (b 3) Z)).Perm ((zb_r G (b 2) K ++ zb_r G (b 3) Z) ++ (zb_6 G b (nI 0) sz ac sp ou)) from (show ((zb_6 G b (nI 0) sz ac sp ou) ++ ((zb_r G (b 2) K) ++ zb_r G (b 3) Z)).Perm ((zb_r G (b 2) K) ++ ((zb_r G (b 3) Z) ++ zb_6 G b (nI 0) sz ac sp ou)) from (((List.Perm.append_left _ List.perm_append_comm).trans (List.perm_append_comm_assoc _ _ _))).trans ((List.Perm.append_left _ List.perm_append_comm).trans (List.perm_append_comm_assoc _ _ _))).trans (List.Perm.of_eq (by simp only [List.append_assoc, List.append_nil, List.nil_append])))
              have hD0 : va_D A ((zb_r G (b 2) K ++ zb_r G (b 3) Z) ++ (zb_6 G b (nI 0) sz ac sp ou)) := zk_Dperm hD (show ((zb_6 G b (nI 0) sz ac sp ou) ++ ((zb_r G (b 2) K) ++ zb_r G (b 3) Z)).Perm ((zb_r G (b 2) K ++ zb_r G (b 3) Z) ++ (zb_6 G b (nI 0) sz ac sp ou)) from (show ((zb_6 G b (nI 0) sz ac sp ou) ++ ((zb_r G (b 2) K) ++ zb_r G (b 3) Z)).Perm ((zb_r G (b 2) K) ++ ((zb_r G (b 3) Z) ++ zb_6 G b (nI 0) sz ac sp ou)) from (((List.Perm.append_left _ List.perm_append_comm).trans (List.perm_append_comm_assoc _ _ _))).trans ((List.Perm.append_left _ List.perm_append_comm).trans (List.perm_append_comm_assoc _ _ _))).trans (List.Perm.of_eq (by simp only [List.append_assoc, List.append_nil, List.nil_append])))
              refine zk_callV (wr := zb_6 G b (nI 0) sz ac sp ou) (va_runS (As := [.ref (b 2), .int (nI 0), .ref (b 3), .int (nI 0)]) (rest := []) ⟨hx, hb, hml, hown, hts⟩ (c_X6_copyTerm l G (b 2) 1555 0 (b 3) 1555 0 (zrow K) (zrow Z) (by omega) (by omega) (by decide) (by decide) _) (cwS 4 hts gX6_runScript_X6_copyTerm rfl rfl rfl (by decide +kernel) ⟨Nat.le_of_ble_eq_true rfl, Nat.le_of_ble_eq_true rfl⟩) (zk_preS hE hA0 hS (zk_Papp hP0).1 (zk_Dapp hD0).1) rfl rfl hl.1 rfl (lv_room (Nat.le_of_ble_eq_true rfl)) dX6_runScript_80 ⟨Nat.le_of_ble_eq_true rfl, Nat.le_of_ble_eq_true rfl⟩) hP0 hD0 hS hA (fun u58 H locs q59 hP hD hS => ?_)
              subst q59
              obtain ⟨hP, hD⟩ := zk_cong (q0 := 1) (g := zrow K) hP hD rfl (kcp_rr K _)
              have hP : va_P G.1 vwCl ((zb_r G (b 2) K ++ zb_r G (b 3) K) ++ (zb_6 G b (nI 0) sz ac sp ou)) H := hP
              have hD : va_D A ((zb_r G (b 2) K ++ zb_r G (b 3) K) ++ (zb_6 G b (nI 0) sz ac sp ou)) := hD
              have hP : va_P G.1 vwCl ((zb_6 G b (nI 0) sz ac sp ou) ++ ((zb_r G (b 2) K) ++ zb_r G (b 3) K)) H := zk_Pperm hP (show ((zb_6 G b (nI 0) sz ac sp ou) ++ ((zb_r G (b 2) K) ++ zb_r G (b 3) K)).Perm ((zb_r G (b 2) K ++ zb_r G (b 3) K) ++ (zb_6 G b (nI 0) sz ac sp ou)) from (show ((zb_6 G b (nI 0) sz ac sp ou) ++ ((zb_r G (b 2) K) ++ zb_r G (b 3) K)).Perm ((zb_r G (b 2) K) ++ ((zb_r G (b 3) K) ++ zb_6 G b (nI 0) sz ac sp ou)) from (((List.Perm.append_left _ List.perm_append_comm).trans (List.perm_append_comm_assoc _ _ _))).trans ((List.Perm.append_left _ List.perm_append_comm).trans (List.perm_append_comm_assoc _ _ _))).trans (List.Perm.of_eq (by simp only [List.append_assoc, List.append_nil, List.nil_append]))).symm
              have hD : va_D A ((zb_6 G b (nI 0) sz ac sp ou) ++ ((zb_r G (b 2) K) ++ zb_r G (b 3) K)) := zk_Dperm hD (show ((zb_6 G b (nI 0) sz ac sp ou) ++ ((zb_r G (b 2) K) ++ zb_r G (b 3) K)).Perm ((zb_r G (b 2) K ++ zb_r G (b 3) K) ++ (zb_6 G b (nI 0) sz ac sp ou)) from (show ((zb_6 G b (nI 0) sz ac sp ou) ++ ((zb_r G (b 2) K) ++ zb_r G (b 3) K)).Perm ((zb_r G (b 2) K) ++ ((zb_r G (b 3) K) ++ zb_6 G b (nI 0) sz ac sp ou)) from (((List.Perm.append_left _ List.perm_append_comm).trans (List.perm_append_comm_assoc _ _ _))).trans ((List.Perm.append_left _ List.perm_append_comm).trans (List.perm_append_comm_assoc _ _ _))).trans (List.Perm.of_eq (by simp only [List.append_assoc, List.append_nil, List.nil_append]))).symm
              refine lv_iconst (v := nI 0) hx hb dX6_runScript_83 (by decide) ?_
              refine lv_istore (lv' := [(6, .int (nI 0)), (4, .long (lN (pw6 kn))), (0, .ref (b 0)), (1, .int (nI kn)), (2, .long (lN s0))]) hx hb dX6_runScript_84 hl (by decide) rfl (fun ls hl => ?_)
              have lp60 : ∀ (n62 : Nat) (j : Nat) (X : zL), kn - j < n62 → (j ≤ kn) → ((none, X) = kRun K (lN s0) kn j) → (sInv X (zN X) (zT X)) → (X 0 2 = K 0 2) → ∀ (H : Heap) (locs : List Loc) (hP : va_P G.1 vwCl ((zb_6 G b (nI 0) sz ac sp ou) ++ ((zb_r G (b 2) K) ++ zb_r G (b 3) X)) H) (hD : va_D A ((zb_6 G b (nI 0) sz ac sp ou) ++ ((zb_r G (b 2) K) ++ zb_r G (b 3) X))) (hS : va_S A s.heap H locs) (ls : Array Slot), lv_has ls 8 [(6, .int (nI j)), (4, .long (lN (pw6 (kn - j)))), (0, .ref (b 0)), (1, .int (nI kn)), (2, .long (lN s0))] → W p l E0 rmX6_runScript s m args below meth cd H locs 0 0 Q (F0 m 86 ls []) := by
                intro n62
                induction n62 with
                | zero => intro j X hz; exact absurd hz (Nat.not_lt_zero _)
                | succ n62 ih61 =>
                  intro j X hm hj hq hX hpX H locs hP hD hS ls hl
                  refine lv_iload hx hb dX6_runScript_86 (lv_at hl 0 rfl) ?_
                  refine lv_iload_n hx hb dX6_runScript_88 rfl (lv_at hl 3 rfl) ?_
                  refine lv_icmp_ge (tgt := 137) hx hb dX6_runScript_89 (by decide) (fun h89_62 => ?_) (fun h89_62 => ?_)
                  · have h89_62 := zk_le (by omega) (by omega) h89_62
                    refine lv_iconst (v := -1) hx hb dX6_runScript_137 (by decide) ?_
                    exact zk_reti (nI 0, X) hQ hx hb hr hlocks hS hP hD (Nat.le_of_ble_eq_true rfl) (Nat.le_of_ble_eq_true rfl) dX6_runScript_138 (Or.inl ⟨h42_42.1, h42_42.2, h54_49.1, by rw [nkn]; exact h54_49.2, rfl, by rw [nkn]; rw [show j = kn by omega] at hq; rw [← hq]; rfl⟩)
                  · have h89_62 := zk_nle (by omega) (by omega) h89_62
                    refine lv_lload hx hb dX6_runScript_92 (lv_at hl 1 rfl) ?_
                    refine lv_ldc2 hx hb (v := lN 1000000) hown w1 dX6_runScript_94 ?_
                    refine lv_ldiv hx hb dX6_runScript_97 (by decide) ?_
                    refine lv_topl (fun y64 ey64 => ?_)
                    refine lv_lstore (lv' := [(4, .long y64), (6, .int (nI j)), (0, .ref (b 0)), (1, .int (nI kn)), (2, .long (lN s0))]) hx hb dX6_runScript_98 hl (by decide) rfl (fun ls hl => ?_)
                    have eall : y64 = lN (pw6 (kn - 1 - j)) := by rw [ey64, show kn - j = (kn - 1 - j) + 1 by omega]; exact pw6_d (by omega)
                    have hl : lv_has ls 8 [(4, .long (lN (pw6 (kn - 1 - j)))), (6, .int (nI j)), (0, .ref (b 0)), (1, .int (nI kn)), (2, .long (lN s0))] := by rw [eall] at hl; exact hl
                    refine lv_lload_n hx hb dX6_runScript_100 rfl (lv_at hl 4 rfl) ?_
                    refine lv_lload hx hb dX6_runScript_101 (lv_at hl 0 rfl) ?_
                    refine lv_ldiv hx hb dX6_runScript_103 (pw6_ne (by omega)) ?_
                    refine lv_ldc2 hx hb (v := lN 1000000) hown w1 dX6_runScript_104 ?_
                    refine lv_lrem hx hb dX6_runScript_107 (by decide) ?_
                    refine lv_l2i (v := (((lN s0) / (lN (pw6 (kn - 1 - j)))) - ((lN s0) / (lN (pw6 (kn - 1 - j)))) / (lN 1000000) * (lN 1000000)).toInt32) hx hb dX6_runScript_108 rfl ?_
                    refine lv_topi (fun x65 ex65 => ?_)
                    refine lv_istore (lv' := [(7, .int x65), (4, .long (lN (pw6 (kn - 1 - j)))), (6, .int (nI j)), (0, .ref (b 0)), (1, .int (nI kn)), (2, .long (lN s0))]) hx hb dX6_runScript_109 hl (by decide) rfl (fun ls hl => ?_)
                    obtain ⟨gg, hgg, egg⟩ := rGrp_nat (sc := lN s0) h54_49.1 kn j
                    have exx : x65 = nI gg := by rw [ex65, kGrp hs0 (by omega) hk3 rfl]; exact egg
                    have hl : lv_has ls 8 [(7, .int (nI gg)), (4, .long (lN (pw6 (kn - 1 - j)))), (6, .int (nI j)), (0, .ref (b 0)), (1, .int (nI kn)), (2, .long (lN s0))] := by rw [exx] at hl; exact hl
                    have hg2 : (rGrp (lN s0) kn j).toNatClampNeg = gg := by rw [egg]; exact nI_clamp (by omega)
                    refine lv_aload_n hx hb dX6_runScript_111 rfl (lv_at hl 3 rfl) ?_
                    refine lv_iload hx hb dX6_runScript_112 (lv_at hl 0 rfl) ?_
                    refine lv_ldc hx hb (v := nI 100000) hown w5 dX6_runScript_114 ?_
                    refine zk_idivN hx hb dX6_runScript_116 (by omega) (by omega) (by omega) ?_
                    refine lv_iload hx hb dX6_runScript_117 (lv_at hl 0 rfl) ?_
                    refine lv_ldc hx hb (v := nI 100000) hown w5 dX6_runScript_119 ?_
                    refine zk_iremN hx hb dX6_runScript_121 (by omega) (by omega) (by omega) ?_
                    have hP0 : va_P G.1 vwCl ((zb_6 G b (nI 0) sz ac sp ou ++ zb_r G (b 3) X) ++ (zb_r G (b 2) K)) H := zk_Pperm hP (show ((zb_6 G b (nI 0) sz ac sp ou) ++ ((zb_r G (b 2) K) ++ zb_r G (b 3) X)).Perm ((zb_6 G b (nI 0) sz ac sp ou ++ zb_r G (b 3) X) ++ (zb_r G (b 2) K)) from (show ((zb_6 G b (nI 0) sz ac sp ou) ++ ((zb_r G (b 2) K) ++ zb_r G (b 3) X)).Perm ((zb_6 G b (nI 0) sz ac sp ou) ++ ((zb_r G (b 3) X) ++ zb_r G (b 2) K)) from (((List.Perm.append_left _ List.perm_append_comm).trans (List.perm_append_comm_assoc _ _ _))).trans (List.perm_append_comm_assoc _ _ _)).trans (List.Perm.of_eq (by simp only [List.append_assoc, List.append_nil, List.nil_append])))
                    have hD0 : va_D A ((zb_6 G b (nI 0) sz ac sp ou ++ zb_r G (b 3) X) ++ (zb_r G (b 2) K)) := zk_Dperm hD (show ((zb_6 G b (nI 0) sz ac sp ou) ++ ((zb_r G (b 2) K) ++ zb_r G (b 3) X)).Perm ((zb_6 G b (nI 0) sz ac sp ou ++ zb_r G (b 3) X) ++ (zb_r G (b 2) K)) from (show ((zb_6 G b (nI 0) sz ac sp ou) ++ ((zb_r G (b 2) K) ++ zb_r G (b 3) X)).Perm ((zb_6 G b (nI 0) sz ac sp ou) ++ ((zb_r G (b 3) X) ++ zb_r G (b 2) K)) from (((List.Perm.append_left _ List.perm_append_comm).trans (List.perm_append_comm_assoc _ _ _))).trans (List.perm_append_comm_assoc _ _ _)).trans (List.Perm.of_eq (by simp only [List.append_assoc, List.append_nil, List.nil_append])))
                    refine zk_callI (wr := zb_r G (b 2) K) (va_runV (As := [.int (nI (gg / 100000)), .int (nI (gg % 100000))]) (rest := []) ⟨hx, hb, hml, hown, hts⟩ (c_X6_command l G b (nI 0) sz ac sp ou X (zN X) (zT X) hX (by rw [hpX]; exact hp0) (gg / 100000) (gg % 100000) (by omega) (by omega) _) (cwV 2 hts gX6_runScript_X6_command rfl rfl rfl (by decide +kernel) ⟨Nat.le_of_ble_eq_true rfl, Nat.le_of_ble_eq_true rfl⟩) (zk_preV hE hA0 hS (zk_Papp hP0).1 (zk_Dapp hD0).1 (va_recv hK hP0 (ci := 5) (q0 := 0) rfl rfl)) rfl rfl hl.1 rfl (lv_room (Nat.le_of_ble_eq_true rfl)) dX6_runScript_122 ⟨Nat.le_of_ble_eq_true rfl, Nat.le_of_ble_eq_true rfl⟩) hP0 hD0 hS hA (fun r66 u67 H locs q68 hP hD hS => ?_)
                    obtain ⟨er66, eL69⟩ := q68
                    have hI70 : sInv u67 (zN u67) (zT u67) := by rw [eL69]; exact kCmd_inv hX (by omega)
                    have hp71 : u67 0 2 = K 0 2 := by rw [eL69]; exact kCmd_r0.trans hpX
                    have hP : va_P G.1 vwCl ((zb_6 G b (nI 0) sz ac sp ou) ++ ((zb_r G (b 2) K) ++ zb_r G (b 3) u67)) H := zk_Pperm hP (show ((zb_6 G b (nI 0) sz ac sp ou) ++ ((zb_r G (b 2) K) ++ zb_r G (b 3) u67)).Perm ((zb_6 G b (nI 0) sz ac sp ou ++ zb_r G (b 3) u67) ++ (zb_r G (b 2) K)) from (show ((zb_6 G b (nI 0) sz ac sp ou) ++ ((zb_r G (b 2) K) ++ zb_r G (b 3) u67)).Perm ((zb_6 G b (nI 0) sz ac sp ou) ++ ((zb_r G (b 3) u67) ++ zb_r G (b 2) K)) from (((List.Perm.append_left _ List.perm_append_comm).trans (List.perm_append_comm_assoc _ _ _))).trans (List.perm_append_comm_assoc _ _ _)).trans (List.Perm.of_eq (by simp only [List.append_assoc, List.append_nil, List.nil_append]))).symm
                    have hD : va_D A ((zb_6 G b (nI 0) sz ac sp ou) ++ ((zb_r G (b 2) K) ++ zb_r G (b 3) u67)) := zk_Dperm hD (show ((zb_6 G b (nI 0) sz ac sp ou) ++ ((zb_r G (b 2) K) ++ zb_r G (b 3) u67)).Perm ((zb_6 G b (nI 0) sz ac sp ou ++ zb_r G (b 3) u67) ++ (zb_r G (b 2) K)) from (show ((zb_6 G b (nI 0) sz ac sp ou) ++ ((zb_r G (b 2) K) ++ zb_r G (b 3) u67)).Perm ((zb_6 G b (nI 0) sz ac sp ou) ++ ((zb_r G (b 3) u67) ++ zb_r G (b 2) K)) from (((List.Perm.append_left _ List.perm_append_comm).trans (List.perm_append_comm_assoc _ _ _))).trans (List.perm_append_comm_assoc _ _ _)).trans (List.Perm.of_eq (by simp only [List.append_assoc, List.append_nil, List.nil_append]))).symm
                    refine lv_if_ne (tgt := 131) hx hb dX6_runScript_125 (by decide) (fun h125_71 => ?_) (fun h125_71 => ?_)
                    · refine lv_iinc (v := nI (j + 1)) (lv' := [(6, .int (nI (j + 1))), (7, .int (nI gg)), (4, .long (lN (pw6 (kn - 1 - j)))), (0, .ref (b 0)), (1, .int (nI kn)), (2, .long (lN s0))]) hx hb dX6_runScript_131 hl (k := 2) rfl (zk_inc j 1) (by decide) rfl (fun ls hl => ?_)
                      have hl : lv_has ls 8 [(6, .int (nI (j + 1))), (7, .int (nI gg)), (4, .long (lN (pw6 (kn - (j + 1))))), (0, .ref (b 0)), (1, .int (nI kn)), (2, .long (lN s0))] := by rw [show kn - 1 - j = kn - (j + 1) by omega] at hl; exact hl
                      refine lv_goto (tgt := 86) hx hb dX6_runScript_134 (by decide) ?_
                      exact ih61 (j + 1) u67 (by omega) (by omega) (by refine zfold_i (f := kStep (lN s0) kn) hq ?_; show _ = kStep (lN s0) kn j (none, X); unfold kStep; rw [if_pos rfl, hg2]; exact Prod.ext (if_neg (fun z => h125_71 (er66.trans z))).symm eL69) (hI70) (hp71) _ _ hP hD hS ls (lv_sub hl [0, 2, 3, 4, 5] rfl)
                    · refine lv_iload hx hb dX6_runScript_128 (lv_at hl 2 rfl) ?_
                      exact zk_reti (nI 0, u67) hQ hx hb hr hlocks hS hP hD (Nat.le_of_ble_eq_true rfl) (Nat.le_of_ble_eq_true rfl) dX6_runScript_130 (Or.inl ⟨h42_42.1, h42_42.2, h54_49.1, by rw [nkn]; exact h54_49.2, rfl, by rw [nkn, kRun_hit hq (by omega) (show kStep (lN s0) kn j (none, X) = (some j, (kCmd X (zN X) (zT X) (gg / 100000) (gg % 100000)).2) by unfold kStep; rw [if_pos rfl, hg2]; exact Prod.ext (if_pos (er66.symm.trans h125_71)) rfl)]; rfl⟩)
              exact lp60 _ 0 K (Nat.lt_succ_self _) (by omega) (rfl) (sInv_at hI) (rfl) _ _ hP hD hS ls (lv_sub hl [0, 1, 2, 3, 4] rfl)
        · have h15_38 := zk_nle (by omega) (by omega) h15_38
          refine lv_lload hx hb dX6_runScript_18 (lv_at hl 1 rfl) ?_
          refine lv_ldc2 hx hb (v := lN 1000000) hown w1 dX6_runScript_20 ?_
          refine lv_lmul hx hb dX6_runScript_23 ?_
          refine lv_topl (fun y73 ey73 => ?_)
          refine lv_lstore (lv' := [(4, .long y73), (6, .int (nI i)), (0, .ref (b 0)), (1, .int nn), (2, .long sc)]) hx hb dX6_runScript_24 hl (by decide) rfl (fun ls hl => ?_)
          have hl : lv_has ls 8 [(4, .long (lN (pw6 (i + 1)))), (6, .int (nI i)), (0, .ref (b 0)), (1, .int nn), (2, .long sc)] := by rw [ey73, pw6_s] at hl; exact hl
          refine lv_iinc (v := nI (i + 1)) (lv' := [(6, .int (nI (i + 1))), (4, .long (lN (pw6 (i + 1)))), (0, .ref (b 0)), (1, .int nn), (2, .long sc)]) hx hb dX6_runScript_26 hl (k := 1) rfl (zk_inc i 1) (by decide) rfl (fun ls hl => ?_)
          refine lv_goto (tgt := 6) hx hb dX6_runScript_29 (by decide) ?_
          exact ih3 (i + 1) (by omega) (by omega) (Or.inr (by rw [show i + 1 - 1 = i by omega]; exact h9_4)) ls (lv_sub hl [0, 1, 2, 3, 4] rfl)
  exact lp2 _ 0 (Nat.lt_succ_self _) (by omega) (Or.inl rfl) ls (lv_sub hl [0, 1, 2, 3, 4] rfl)

abbrev rmX6_simulate : Room := { frames := 6, cells := 0, slots := 0, locals := 144 }
set_option maxHeartbeats 4000000 in
set_option maxRecDepth 100000 in
/-- a simulation on a copy -/
theorem c_X6_simulate (l : Launch) (G : zk_G) (b : Nat → Nat) (rf sz ac sp ou : Int32) (K : zL) (n t : Nat) (hI : sInv K n t) (hp0 : ¬ K 0 2 < nI 1) (Z : zL) (seed : Int64) (mm : Int32) : zk_I (S := Int32 × zL) l yX6_simulate wsX6_simulate rmX6_simulate G [.ref (b 0), .long seed, .int mm] ((zb_6 G b rf sz ac sp ou) ++ ((zb_r G (b 2) K) ++ zb_r G (b 3) Z)) (fun r u => (¬ mm < nI 1 ∧ ¬ nI 99 < mm ∧ u.1 = 0 ∧ r = nI 1000 * (kSrv (kMRun K seed mm.toNatClampNeg).2 (zN (kMRun K seed mm.toNatClampNeg).2) (-1) (-1) - kSrv K n (-1) (-1)) + kCnt (kMRun K seed mm.toNatClampNeg).2 (zN (kMRun K seed mm.toNatClampNeg).2) (-1) (-1) (nI 4) - kCnt K n (-1) (-1) (nI 4)) ∨ ((mm < nI 1 ∨ nI 99 < mm) ∧ u.1 = nI 1)) (fun u => zb_6 G b u.1 sz ac sp ou ++ (zb_r G (b 2) K ++ zb_r G (b 3) u.2)) := by
  refine zk_bodyI (cc := cX6_simulate) (maxL := 7) (ret := (some .int)) (by decide) rfl (Nat.le_of_ble_eq_true rfl) ?_
  intro p E0 s m args below meth cd A ls Q hF hQ
  obtain ⟨hx, hb, hml, hr, hts, hown, hlocks, -, hE, hP, hD, hS, hA, hA0, hl⟩ := hF
  have hK := hE.1
  have hl : lv_has ls 7 [(0, .ref (b 0)), (1, .long seed), (3, .int mm)] := hl
  obtain ⟨hn, hn12, ht, ht40, hfam, hpay⟩ := id hI
  have w1 := hts _ (List.mem_of_getElem? (l := wsX6_simulate) (i := 1) (a := Cond.constantLong RX6 196 (99)) rfl)
  have w2 := hts _ (List.mem_of_getElem? (l := wsX6_simulate) (i := 2) (a := Cond.fieldLink RX6 13 "MealAccountsModel" "now" "[I") rfl)
  have w3 := hts _ (List.mem_of_getElem? (l := wsX6_simulate) (i := 3) (a := Cond.fieldLink RX6 16 "MealAccountsModel" "trial" "[I") rfl)
  have w4 := hts _ (List.mem_of_getElem? (l := wsX6_simulate) (i := 4) (a := Cond.constantLong RX6 198 (6364136223846793005)) rfl)
  have w5 := hts _ (List.mem_of_getElem? (l := wsX6_simulate) (i := 5) (a := Cond.constantLong RX6 200 (1442695040888963407)) rfl)
  refine lv_aload_n hx hb dX6_simulate_0 rfl (lv_at hl 0 rfl) ?_
  refine lv_iload_n hx hb dX6_simulate_1 rfl (lv_at hl 2 rfl) ?_
  refine lv_i2l (v := mm.toInt64) hx hb dX6_simulate_2 rfl ?_
  refine lv_lconst (v := lN 1) hx hb dX6_simulate_3 rfl ?_
  refine zk_topL (show lN 1 = (nI 1).toInt64 from (nI_l (by decide)).symm) ?_
  refine lv_ldc2 hx hb (v := lN 99) hown w1 dX6_simulate_4 ?_
  refine zk_topL (show lN 99 = (nI 99).toInt64 from (nI_l (by decide)).symm) ?_
  have hP0 : va_P G.1 vwCl (([] : va_W) ++ ((zb_6 G b rf sz ac sp ou) ++ ((zb_r G (b 2) K) ++ zb_r G (b 3) Z))) s.heap := hP
  have hD0 : va_D A (([] : va_W) ++ ((zb_6 G b rf sz ac sp ou) ++ ((zb_r G (b 2) K) ++ zb_r G (b 3) Z))) := hD
  refine zk_callI (wr := (zb_6 G b rf sz ac sp ou) ++ ((zb_r G (b 2) K) ++ zb_r G (b 3) Z)) (va_runS (As := [.long mm.toInt64, .long ((nI 1).toInt64), .long ((nI 99).toInt64)]) (rest := [.ref (b 0)]) ⟨hx, hb, hml, hown, hts⟩ (c_X6_inI l G mm (nI 1) (nI 99) _) (cwS 3 hts gX6_simulate_X6_in rfl rfl rfl (by decide +kernel) ⟨Nat.le_of_ble_eq_true rfl, Nat.le_of_ble_eq_true rfl⟩) (zk_preS hE hA0 hS (zk_Papp hP0).1 (zk_Dapp hD0).1) rfl rfl hl.1 rfl (lv_room (Nat.le_of_ble_eq_true rfl)) dX6_simulate_7 ⟨Nat.le_of_ble_eq_true rfl, Nat.le_of_ble_eq_true rfl⟩) hP0 hD0 hS hA (fun r1 u2 H locs q3 hP hD hS => ?_)
  subst q3
  have hP : va_P G.1 vwCl ((zb_6 G b rf sz ac sp ou) ++ ((zb_r G (b 2) K) ++ zb_r G (b 3) Z)) H := hP
  have hD : va_D A ((zb_6 G b rf sz ac sp ou) ++ ((zb_r G (b 2) K) ++ zb_r G (b 3) Z)) := hD
  refine lv_if_eq (tgt := 17) hx hb dX6_simulate_10 (by decide) (fun h10_3 => ?_) (fun h10_3 => ?_)
  · have h10_3 := zk_b0 h10_3
    refine lv_iconst (v := nI 1) hx hb dX6_simulate_17 (by decide) ?_
    have hP0 : va_P G.1 vwCl ((zb_6 G b rf sz ac sp ou) ++ ((zb_r G (b 2) K) ++ zb_r G (b 3) Z)) H := zk_Pperm hP (show ((zb_6 G b rf sz ac sp ou) ++ ((zb_r G (b 2) K) ++ zb_r G (b 3) Z)).Perm ((zb_6 G b rf sz ac sp ou) ++ ((zb_r G (b 2) K) ++ zb_r G (b 3) Z)) from (show ((zb_6 G b rf sz ac sp ou) ++ ((zb_r G (b 2) K) ++ zb_r G (b 3) Z)).Perm ((zb_6 G b rf sz ac sp ou) ++ ((zb_r G (b 2) K) ++ zb_r G (b 3) Z)) from List.Perm.refl _).trans (List.Perm.of_eq (by simp only [List.append_assoc, List.append_nil, List.nil_append])))
    have hD0 : va_D A ((zb_6 G b rf sz ac sp ou) ++ ((zb_r G (b 2) K) ++ zb_r G (b 3) Z)) := zk_Dperm hD (show ((zb_6 G b rf sz ac sp ou) ++ ((zb_r G (b 2) K) ++ zb_r G (b 3) Z)).Perm ((zb_6 G b rf sz ac sp ou) ++ ((zb_r G (b 2) K) ++ zb_r G (b 3) Z)) from (show ((zb_6 G b rf sz ac sp ou) ++ ((zb_r G (b 2) K) ++ zb_r G (b 3) Z)).Perm ((zb_6 G b rf sz ac sp ou) ++ ((zb_r G (b 2) K) ++ zb_r G (b 3) Z)) from List.Perm.refl _).trans (List.Perm.of_eq (by simp only [List.append_assoc, List.append_nil, List.nil_append])))
    refine zk_callI (wr := (zb_r G (b 2) K) ++ zb_r G (b 3) Z) (va_runV (As := [.int (nI 1)]) (rest := []) ⟨hx, hb, hml, hown, hts⟩ (c_X6_refused l G b rf sz ac sp ou (nI 1) _) (cwV 1 hts gX6_simulate_X6_refused rfl rfl rfl (by decide +kernel) ⟨Nat.le_of_ble_eq_true rfl, Nat.le_of_ble_eq_true rfl⟩) (zk_preV hE hA0 hS (zk_Papp hP0).1 (zk_Dapp hD0).1 (va_recv hK hP0 (ci := 5) (q0 := 0) rfl rfl)) rfl rfl hl.1 rfl (lv_room (Nat.le_of_ble_eq_true rfl)) dX6_simulate_18 ⟨Nat.le_of_ble_eq_true rfl, Nat.le_of_ble_eq_true rfl⟩) hP0 hD0 hS hA (fun r5 u6 H locs q7 hP hD hS => ?_)
    subst q7
    have hP : va_P G.1 vwCl ((zb_6 G b (nI 1) sz ac sp ou) ++ ((zb_r G (b 2) K) ++ zb_r G (b 3) Z)) H := zk_Pperm hP (show ((zb_6 G b (nI 1) sz ac sp ou) ++ ((zb_r G (b 2) K) ++ zb_r G (b 3) Z)).Perm ((zb_6 G b (nI 1) sz ac sp ou) ++ ((zb_r G (b 2) K) ++ zb_r G (b 3) Z)) from (show ((zb_6 G b (nI 1) sz ac sp ou) ++ ((zb_r G (b 2) K) ++ zb_r G (b 3) Z)).Perm ((zb_6 G b (nI 1) sz ac sp ou) ++ ((zb_r G (b 2) K) ++ zb_r G (b 3) Z)) from List.Perm.refl _).trans (List.Perm.of_eq (by simp only [List.append_assoc, List.append_nil, List.nil_append]))).symm
    have hD : va_D A ((zb_6 G b (nI 1) sz ac sp ou) ++ ((zb_r G (b 2) K) ++ zb_r G (b 3) Z)) := zk_Dperm hD (show ((zb_6 G b (nI 1) sz ac sp ou) ++ ((zb_r G (b 2) K) ++ zb_r G (b 3) Z)).Perm ((zb_6 G b (nI 1) sz ac sp ou) ++ ((zb_r G (b 2) K) ++ zb_r G (b 3) Z)) from (show ((zb_6 G b (nI 1) sz ac sp ou) ++ ((zb_r G (b 2) K) ++ zb_r G (b 3) Z)).Perm ((zb_6 G b (nI 1) sz ac sp ou) ++ ((zb_r G (b 2) K) ++ zb_r G (b 3) Z)) from List.Perm.refl _).trans (List.Perm.of_eq (by simp only [List.append_assoc, List.append_nil, List.nil_append]))).symm
    refine zk_top (show (if 0 < (nI 1) then nI 1 else nI 0) = nI 1 by decide) ?_
    refine lv_if_eq (tgt := 26) hx hb dX6_simulate_21 (by decide) (fun z => absurd z (by decide)) (fun _ => ?_)
    refine lv_iconst (v := nI 0) hx hb dX6_simulate_24 (by decide) ?_
    exact zk_reti (nI 1, Z) hQ hx hb hr hlocks hS hP hD (Nat.le_of_ble_eq_true rfl) (Nat.le_of_ble_eq_true rfl) dX6_simulate_25 (Or.inr ⟨zin_or h10_3, rfl⟩)
  · have h10_3 := zk_b1 h10_3
    refine lv_iconst (v := nI 0) hx hb dX6_simulate_13 (by decide) ?_
    refine lv_goto (tgt := 18) hx hb dX6_simulate_14 (by decide) ?_
    have hP0 : va_P G.1 vwCl ((zb_6 G b rf sz ac sp ou) ++ ((zb_r G (b 2) K) ++ zb_r G (b 3) Z)) H := zk_Pperm hP (show ((zb_6 G b rf sz ac sp ou) ++ ((zb_r G (b 2) K) ++ zb_r G (b 3) Z)).Perm ((zb_6 G b rf sz ac sp ou) ++ ((zb_r G (b 2) K) ++ zb_r G (b 3) Z)) from (show ((zb_6 G b rf sz ac sp ou) ++ ((zb_r G (b 2) K) ++ zb_r G (b 3) Z)).Perm ((zb_6 G b rf sz ac sp ou) ++ ((zb_r G (b 2) K) ++ zb_r G (b 3) Z)) from List.Perm.refl _).trans (List.Perm.of_eq (by simp only [List.append_assoc, List.append_nil, List.nil_append])))
    have hD0 : va_D A ((zb_6 G b rf sz ac sp ou) ++ ((zb_r G (b 2) K) ++ zb_r G (b 3) Z)) := zk_Dperm hD (show ((zb_6 G b rf sz ac sp ou) ++ ((zb_r G (b 2) K) ++ zb_r G (b 3) Z)).Perm ((zb_6 G b rf sz ac sp ou) ++ ((zb_r G (b 2) K) ++ zb_r G (b 3) Z)) from (show ((zb_6 G b rf sz ac sp ou) ++ ((zb_r G (b 2) K) ++ zb_r G (b 3) Z)).Perm ((zb_6 G b rf sz ac sp ou) ++ ((zb_r G (b 2) K) ++ zb_r G (b 3) Z)) from List.Perm.refl _).trans (List.Perm.of_eq (by simp only [List.append_assoc, List.append_nil, List.nil_append])))
    refine zk_callI (wr := (zb_r G (b 2) K) ++ zb_r G (b 3) Z) (va_runV (As := [.int (nI 0)]) (rest := []) ⟨hx, hb, hml, hown, hts⟩ (c_X6_refused l G b rf sz ac sp ou (nI 0) _) (cwV 1 hts gX6_simulate_X6_refused rfl rfl rfl (by decide +kernel) ⟨Nat.le_of_ble_eq_true rfl, Nat.le_of_ble_eq_true rfl⟩) (zk_preV hE hA0 hS (zk_Papp hP0).1 (zk_Dapp hD0).1 (va_recv hK hP0 (ci := 5) (q0 := 0) rfl rfl)) rfl rfl hl.1 rfl (lv_room (Nat.le_of_ble_eq_true rfl)) dX6_simulate_18 ⟨Nat.le_of_ble_eq_true rfl, Nat.le_of_ble_eq_true rfl⟩) hP0 hD0 hS hA (fun r8 u9 H locs q10 hP hD hS => ?_)
    subst q10
    have hP : va_P G.1 vwCl ((zb_6 G b (nI 0) sz ac sp ou) ++ ((zb_r G (b 2) K) ++ zb_r G (b 3) Z)) H := zk_Pperm hP (show ((zb_6 G b (nI 0) sz ac sp ou) ++ ((zb_r G (b 2) K) ++ zb_r G (b 3) Z)).Perm ((zb_6 G b (nI 0) sz ac sp ou) ++ ((zb_r G (b 2) K) ++ zb_r G (b 3) Z)) from (show ((zb_6 G b (nI 0) sz ac sp ou) ++ ((zb_r G (b 2) K) ++ zb_r G (b 3) Z)).Perm ((zb_6 G b (nI 0) sz ac sp ou) ++ ((zb_r G (b 2) K) ++ zb_r G (b 3) Z)) from List.Perm.refl _).trans (List.Perm.of_eq (by simp only [List.append_assoc, List.append_nil, List.nil_append]))).symm
    have hD : va_D A ((zb_6 G b (nI 0) sz ac sp ou) ++ ((zb_r G (b 2) K) ++ zb_r G (b 3) Z)) := zk_Dperm hD (show ((zb_6 G b (nI 0) sz ac sp ou) ++ ((zb_r G (b 2) K) ++ zb_r G (b 3) Z)).Perm ((zb_6 G b (nI 0) sz ac sp ou) ++ ((zb_r G (b 2) K) ++ zb_r G (b 3) Z)) from (show ((zb_6 G b (nI 0) sz ac sp ou) ++ ((zb_r G (b 2) K) ++ zb_r G (b 3) Z)).Perm ((zb_6 G b (nI 0) sz ac sp ou) ++ ((zb_r G (b 2) K) ++ zb_r G (b 3) Z)) from List.Perm.refl _).trans (List.Perm.of_eq (by simp only [List.append_assoc, List.append_nil, List.nil_append]))).symm
    refine zk_top (show (if 0 < (nI 0) then nI 1 else nI 0) = nI 0 by decide) ?_
    refine lv_if_eq (tgt := 26) hx hb dX6_simulate_21 (by decide) (fun _ => ?_) (fun z => absurd (by decide) z)
    have hmm0 : ¬ mm < 0 := fun z => h10_3.1 (Int32.lt_trans z (by decide))
    obtain ⟨km, hkm, ekm⟩ := nI_of hmm0
    subst ekm
    have nkm := nI_clamp hkm
    have hk1 : 1 ≤ km := zk_nlt hkm (by omega) h10_3.1
    have hk99 : km ≤ 99 := zk_nlt (by omega) hkm h10_3.2
    refine lv_aload_n hx hb dX6_simulate_26 rfl (lv_at hl 0 rfl) ?_
    refine va_get (D := G.1) (ci := 5) (v := .ref (b 2)) (C := RX6) (T := TX6) (N := 11) hx hb hts (fun _ h => List.mem_cons_of_mem _ (List.mem_append_right _ h)) hown hK hP 0 rfl rfl 3 (by decide) w2 (fun _ h9 => h9) rfl dX6_simulate_27 ?_
    refine lv_iconst (v := nI 0) hx hb dX6_simulate_30 (by decide) ?_
    refine lv_aload_n hx hb dX6_simulate_31 rfl (lv_at hl 0 rfl) ?_
    refine va_get (D := G.1) (ci := 5) (v := .ref (b 3)) (C := RX6) (T := TX6) (N := 11) hx hb hts (fun _ h => List.mem_cons_of_mem _ (List.mem_append_right _ h)) hown hK hP 0 rfl rfl 4 (by decide) w3 (fun _ h9 => h9) rfl dX6_simulate_32 ?_
    refine lv_iconst (v := nI 0) hx hb dX6_simulate_35 (by decide) ?_
    have hP0 : va_P G.1 vwCl ((zb_r G (b 2) K ++ zb_r G (b 3) Z) ++ (zb_6 G b (nI 0) sz ac sp ou)) H := zk_Pperm hP (show ((zb_6 G b (nI 0) sz ac sp ou) ++ ((zb_r G (b 2) K) ++ zb_r G (b 3) Z)).Perm ((zb_r G (b 2) K ++ zb_r G (b 3) Z) ++ (zb_6 G b (nI 0) sz ac sp ou)) from (show ((zb_6 G b (nI 0) sz ac sp ou) ++ ((zb_r G (b 2) K) ++ zb_r G (b 3) Z)).Perm ((zb_r G (b 2) K) ++ ((zb_r G (b 3) Z) ++ zb_6 G b (nI 0) sz ac sp ou)) from (((List.Perm.append_left _ List.perm_append_comm).trans (List.perm_append_comm_assoc _ _ _))).trans ((List.Perm.append_left _ List.perm_append_comm).trans (List.perm_append_comm_assoc _ _ _))).trans (List.Perm.of_eq (by simp only [List.append_assoc, List.append_nil, List.nil_append])))
    have hD0 : va_D A ((zb_r G (b 2) K ++ zb_r G (b 3) Z) ++ (zb_6 G b (nI 0) sz ac sp ou)) := zk_Dperm hD (show ((zb_6 G b (nI 0) sz ac sp ou) ++ ((zb_r G (b 2) K) ++ zb_r G (b 3) Z)).Perm ((zb_r G (b 2) K ++ zb_r G (b 3) Z) ++ (zb_6 G b (nI 0) sz ac sp ou)) from (show ((zb_6 G b (nI 0) sz ac sp ou) ++ ((zb_r G (b 2) K) ++ zb_r G (b 3) Z)).Perm ((zb_r G (b 2) K) ++ ((zb_r G (b 3) Z) ++ zb_6 G b (nI 0) sz ac sp ou)) from (((List.Perm.append_left _ List.perm_append_comm).trans (List.perm_append_comm_assoc _ _ _))).trans ((List.Perm.append_left _ List.perm_append_comm).trans (List.perm_append_comm_assoc _ _ _))).trans (List.Perm.of_eq (by simp only [List.append_assoc, List.append_nil, List.nil_append])))
    refine zk_callV (wr := zb_6 G b (nI 0) sz ac sp ou) (va_runS (As := [.ref (b 2), .int (nI 0), .ref (b 3), .int (nI 0)]) (rest := []) ⟨hx, hb, hml, hown, hts⟩ (c_X6_copyTerm l G (b 2) 1555 0 (b 3) 1555 0 (zrow K) (zrow Z) (by omega) (by omega) (by decide) (by decide) _) (cwS 4 hts gX6_simulate_X6_copyTerm rfl rfl rfl (by decide +kernel) ⟨Nat.le_of_ble_eq_true rfl, Nat.le_of_ble_eq_true rfl⟩) (zk_preS hE hA0 hS (zk_Papp hP0).1 (zk_Dapp hD0).1) rfl rfl hl.1 rfl (lv_room (Nat.le_of_ble_eq_true rfl)) dX6_simulate_36 ⟨Nat.le_of_ble_eq_true rfl, Nat.le_of_ble_eq_true rfl⟩) hP0 hD0 hS hA (fun u12 H locs q13 hP hD hS => ?_)
    subst q13
    obtain ⟨hP, hD⟩ := zk_cong (q0 := 1) (g := zrow K) hP hD rfl (kcp_rr K _)
    have hP : va_P G.1 vwCl ((zb_r G (b 2) K ++ zb_r G (b 3) K) ++ (zb_6 G b (nI 0) sz ac sp ou)) H := hP
    have hD : va_D A ((zb_r G (b 2) K ++ zb_r G (b 3) K) ++ (zb_6 G b (nI 0) sz ac sp ou)) := hD
    have hP : va_P G.1 vwCl ((zb_6 G b (nI 0) sz ac sp ou) ++ ((zb_r G (b 2) K) ++ zb_r G (b 3) K)) H := zk_Pperm hP (show ((zb_6 G b (nI 0) sz ac sp ou) ++ ((zb_r G (b 2) K) ++ zb_r G (b 3) K)).Perm ((zb_r G (b 2) K ++ zb_r G (b 3) K) ++ (zb_6 G b (nI 0) sz ac sp ou)) from (show ((zb_6 G b (nI 0) sz ac sp ou) ++ ((zb_r G (b 2) K) ++ zb_r G (b 3) K)).Perm ((zb_r G (b 2) K) ++ ((zb_r G (b 3) K) ++ zb_6 G b (nI 0) sz ac sp ou)) from (((List.Perm.append_left _ List.perm_append_comm).trans (List.perm_append_comm_assoc _ _ _))).trans ((List.Perm.append_left _ List.perm_append_comm).trans (List.perm_append_comm_assoc _ _ _))).trans (List.Perm.of_eq (by simp only [List.append_assoc, List.append_nil, List.nil_append]))).symm
    have hD : va_D A ((zb_6 G b (nI 0) sz ac sp ou) ++ ((zb_r G (b 2) K) ++ zb_r G (b 3) K)) := zk_Dperm hD (show ((zb_6 G b (nI 0) sz ac sp ou) ++ ((zb_r G (b 2) K) ++ zb_r G (b 3) K)).Perm ((zb_r G (b 2) K ++ zb_r G (b 3) K) ++ (zb_6 G b (nI 0) sz ac sp ou)) from (show ((zb_6 G b (nI 0) sz ac sp ou) ++ ((zb_r G (b 2) K) ++ zb_r G (b 3) K)).Perm ((zb_r G (b 2) K) ++ ((zb_r G (b 3) K) ++ zb_6 G b (nI 0) sz ac sp ou)) from (((List.Perm.append_left _ List.perm_append_comm).trans (List.perm_append_comm_assoc _ _ _))).trans ((List.Perm.append_left _ List.perm_append_comm).trans (List.perm_append_comm_assoc _ _ _))).trans (List.Perm.of_eq (by simp only [List.append_assoc, List.append_nil, List.nil_append]))).symm
    refine lv_lload_n hx hb dX6_simulate_39 rfl (lv_at hl 1 rfl) ?_
    refine lv_lstore (lv' := [(4, .long seed), (0, .ref (b 0)), (1, .long seed), (3, .int (nI km))]) hx hb dX6_simulate_40 hl (by decide) rfl (fun ls hl => ?_)
    refine lv_iconst (v := nI 0) hx hb dX6_simulate_42 (by decide) ?_
    refine lv_istore (lv' := [(6, .int (nI 0)), (4, .long seed), (0, .ref (b 0)), (1, .long seed), (3, .int (nI km))]) hx hb dX6_simulate_43 hl (by decide) rfl (fun ls hl => ?_)
    have lp14 : ∀ (n16 : Nat) (i : Nat) (y : Int64) (X : zL), km - i < n16 → (i ≤ km) → ((y, X) = kMRun K seed i) → (sInv X (zN X) (zT X)) → (X 0 2 = K 0 2) → ∀ (H : Heap) (locs : List Loc) (hP : va_P G.1 vwCl ((zb_6 G b (nI 0) sz ac sp ou) ++ ((zb_r G (b 2) K) ++ zb_r G (b 3) X)) H) (hD : va_D A ((zb_6 G b (nI 0) sz ac sp ou) ++ ((zb_r G (b 2) K) ++ zb_r G (b 3) X))) (hS : va_S A s.heap H locs) (ls : Array Slot), lv_has ls 7 [(6, .int (nI i)), (4, .long y), (0, .ref (b 0)), (1, .long seed), (3, .int (nI km))] → W p l E0 rmX6_simulate s m args below meth cd H locs 0 0 Q (F0 m 45 ls []) := by
      intro n16
      induction n16 with
      | zero => intro i y X hz; exact absurd hz (Nat.not_lt_zero _)
      | succ n16 ih15 =>
        intro i y X hm hi hq hX hpX H locs hP hD hS ls hl
        refine lv_iload hx hb dX6_simulate_45 (lv_at hl 0 rfl) ?_
        refine lv_iload_n hx hb dX6_simulate_47 rfl (lv_at hl 4 rfl) ?_
        refine lv_icmp_ge (tgt := 79) hx hb dX6_simulate_48 (by decide) (fun h48_16 => ?_) (fun h48_16 => ?_)
        · have h48_16 := zk_le (by omega) (by omega) h48_16
          refine lv_sipush (v := nI 1000) hx hb dX6_simulate_79 (by decide) ?_
          refine lv_aload_n hx hb dX6_simulate_82 rfl (lv_at hl 2 rfl) ?_
          refine va_get (D := G.1) (ci := 5) (v := .ref (b 3)) (C := RX6) (T := TX6) (N := 11) hx hb hts (fun _ h => List.mem_cons_of_mem _ (List.mem_append_right _ h)) hown hK hP 0 rfl rfl 4 (by decide) w3 (fun _ h9 => h9) rfl dX6_simulate_83 ?_
          refine lv_iconst (v := -1) hx hb dX6_simulate_86 (by decide) ?_
          refine lv_iconst (v := -1) hx hb dX6_simulate_87 (by decide) ?_
          have hP0 : va_P G.1 vwCl ((zb_r G (b 3) X) ++ ((zb_6 G b (nI 0) sz ac sp ou) ++ zb_r G (b 2) K)) H := zk_Pperm hP (show ((zb_6 G b (nI 0) sz ac sp ou) ++ ((zb_r G (b 2) K) ++ zb_r G (b 3) X)).Perm ((zb_r G (b 3) X) ++ ((zb_6 G b (nI 0) sz ac sp ou) ++ zb_r G (b 2) K)) from (show ((zb_6 G b (nI 0) sz ac sp ou) ++ ((zb_r G (b 2) K) ++ zb_r G (b 3) X)).Perm ((zb_r G (b 3) X) ++ ((zb_6 G b (nI 0) sz ac sp ou) ++ zb_r G (b 2) K)) from ((List.Perm.append_left _ List.perm_append_comm).trans (List.perm_append_comm_assoc _ _ _))).trans (List.Perm.of_eq (by simp only [List.append_assoc, List.append_nil, List.nil_append])))
          have hD0 : va_D A ((zb_r G (b 3) X) ++ ((zb_6 G b (nI 0) sz ac sp ou) ++ zb_r G (b 2) K)) := zk_Dperm hD (show ((zb_6 G b (nI 0) sz ac sp ou) ++ ((zb_r G (b 2) K) ++ zb_r G (b 3) X)).Perm ((zb_r G (b 3) X) ++ ((zb_6 G b (nI 0) sz ac sp ou) ++ zb_r G (b 2) K)) from (show ((zb_6 G b (nI 0) sz ac sp ou) ++ ((zb_r G (b 2) K) ++ zb_r G (b 3) X)).Perm ((zb_r G (b 3) X) ++ ((zb_6 G b (nI 0) sz ac sp ou) ++ zb_r G (b 2) K)) from ((List.Perm.append_left _ List.perm_append_comm).trans (List.perm_append_comm_assoc _ _ _))).trans (List.Perm.of_eq (by simp only [List.append_assoc, List.append_nil, List.nil_append])))
          refine zk_callI (wr := (zb_6 G b (nI 0) sz ac sp ou) ++ zb_r G (b 2) K) (va_runS (As := [.ref (b 3), .int (-1), .int (-1)]) (rest := [.int (nI 1000)]) ⟨hx, hb, hml, hown, hts⟩ (c_X6_served l G (b 3) X (zN X) (zT X) hX (-1) (-1) _) (cwS 3 hts gX6_simulate_X6_served rfl rfl rfl (by decide +kernel) ⟨Nat.le_of_ble_eq_true rfl, Nat.le_of_ble_eq_true rfl⟩) (zk_preS hE hA0 hS (zk_Papp hP0).1 (zk_Dapp hD0).1) rfl rfl hl.1 rfl (lv_room (Nat.le_of_ble_eq_true rfl)) dX6_simulate_88 ⟨Nat.le_of_ble_eq_true rfl, Nat.le_of_ble_eq_true rfl⟩) hP0 hD0 hS hA (fun r18 u19 H locs q20 hP hD hS => ?_)
          subst q20
          have hP : va_P G.1 vwCl ((zb_6 G b (nI 0) sz ac sp ou) ++ ((zb_r G (b 2) K) ++ zb_r G (b 3) X)) H := zk_Pperm hP (show ((zb_6 G b (nI 0) sz ac sp ou) ++ ((zb_r G (b 2) K) ++ zb_r G (b 3) X)).Perm ((zb_r G (b 3) X) ++ ((zb_6 G b (nI 0) sz ac sp ou) ++ zb_r G (b 2) K)) from (show ((zb_6 G b (nI 0) sz ac sp ou) ++ ((zb_r G (b 2) K) ++ zb_r G (b 3) X)).Perm ((zb_r G (b 3) X) ++ ((zb_6 G b (nI 0) sz ac sp ou) ++ zb_r G (b 2) K)) from ((List.Perm.append_left _ List.perm_append_comm).trans (List.perm_append_comm_assoc _ _ _))).trans (List.Perm.of_eq (by simp only [List.append_assoc, List.append_nil, List.nil_append]))).symm
          have hD : va_D A ((zb_6 G b (nI 0) sz ac sp ou) ++ ((zb_r G (b 2) K) ++ zb_r G (b 3) X)) := zk_Dperm hD (show ((zb_6 G b (nI 0) sz ac sp ou) ++ ((zb_r G (b 2) K) ++ zb_r G (b 3) X)).Perm ((zb_r G (b 3) X) ++ ((zb_6 G b (nI 0) sz ac sp ou) ++ zb_r G (b 2) K)) from (show ((zb_6 G b (nI 0) sz ac sp ou) ++ ((zb_r G (b 2) K) ++ zb_r G (b 3) X)).Perm ((zb_r G (b 3) X) ++ ((zb_6 G b (nI 0) sz ac sp ou) ++ zb_r G (b 2) K)) from ((List.Perm.append_left _ List.perm_append_comm).trans (List.perm_append_comm_assoc _ _ _))).trans (List.Perm.of_eq (by simp only [List.append_assoc, List.append_nil, List.nil_append]))).symm
          refine lv_aload_n hx hb dX6_simulate_91 rfl (lv_at hl 2 rfl) ?_
          refine va_get (D := G.1) (ci := 5) (v := .ref (b 2)) (C := RX6) (T := TX6) (N := 11) hx hb hts (fun _ h => List.mem_cons_of_mem _ (List.mem_append_right _ h)) hown hK hP 0 rfl rfl 3 (by decide) w2 (fun _ h9 => h9) rfl dX6_simulate_92 ?_
          refine lv_iconst (v := -1) hx hb dX6_simulate_95 (by decide) ?_
          refine lv_iconst (v := -1) hx hb dX6_simulate_96 (by decide) ?_
          have hP0 : va_P G.1 vwCl ((zb_r G (b 2) K) ++ ((zb_6 G b (nI 0) sz ac sp ou) ++ zb_r G (b 3) X)) H := zk_Pperm hP (show ((zb_6 G b (nI 0) sz ac sp ou) ++ ((zb_r G (b 2) K) ++ zb_r G (b 3) X)).Perm ((zb_r G (b 2) K) ++ ((zb_6 G b (nI 0) sz ac sp ou) ++ zb_r G (b 3) X)) from (show ((zb_6 G b (nI 0) sz ac sp ou) ++ ((zb_r G (b 2) K) ++ zb_r G (b 3) X)).Perm ((zb_r G (b 2) K) ++ ((zb_6 G b (nI 0) sz ac sp ou) ++ zb_r G (b 3) X)) from (List.perm_append_comm_assoc _ _ _)).trans (List.Perm.of_eq (by simp only [List.append_assoc, List.append_nil, List.nil_append])))
          have hD0 : va_D A ((zb_r G (b 2) K) ++ ((zb_6 G b (nI 0) sz ac sp ou) ++ zb_r G (b 3) X)) := zk_Dperm hD (show ((zb_6 G b (nI 0) sz ac sp ou) ++ ((zb_r G (b 2) K) ++ zb_r G (b 3) X)).Perm ((zb_r G (b 2) K) ++ ((zb_6 G b (nI 0) sz ac sp ou) ++ zb_r G (b 3) X)) from (show ((zb_6 G b (nI 0) sz ac sp ou) ++ ((zb_r G (b 2) K) ++ zb_r G (b 3) X)).Perm ((zb_r G (b 2) K) ++ ((zb_6 G b (nI 0) sz ac sp ou) ++ zb_r G (b 3) X)) from (List.perm_append_comm_assoc _ _ _)).trans (List.Perm.of_eq (by simp only [List.append_assoc, List.append_nil, List.nil_append])))
          refine zk_callI (wr := (zb_6 G b (nI 0) sz ac sp ou) ++ zb_r G (b 3) X) (va_runS (As := [.ref (b 2), .int (-1), .int (-1)]) (rest := [.int (kSrv X (zN X) (-1) (-1)), .int (nI 1000)]) ⟨hx, hb, hml, hown, hts⟩ (c_X6_served l G (b 2) K n t hI (-1) (-1) _) (cwS 3 hts gX6_simulate_X6_served rfl rfl rfl (by decide +kernel) ⟨Nat.le_of_ble_eq_true rfl, Nat.le_of_ble_eq_true rfl⟩) (zk_preS hE hA0 hS (zk_Papp hP0).1 (zk_Dapp hD0).1) rfl rfl hl.1 rfl (lv_room (Nat.le_of_ble_eq_true rfl)) dX6_simulate_97 ⟨Nat.le_of_ble_eq_true rfl, Nat.le_of_ble_eq_true rfl⟩) hP0 hD0 hS hA (fun r21 u22 H locs q23 hP hD hS => ?_)
          subst q23
          have hP : va_P G.1 vwCl ((zb_6 G b (nI 0) sz ac sp ou) ++ ((zb_r G (b 2) K) ++ zb_r G (b 3) X)) H := zk_Pperm hP (show ((zb_6 G b (nI 0) sz ac sp ou) ++ ((zb_r G (b 2) K) ++ zb_r G (b 3) X)).Perm ((zb_r G (b 2) K) ++ ((zb_6 G b (nI 0) sz ac sp ou) ++ zb_r G (b 3) X)) from (show ((zb_6 G b (nI 0) sz ac sp ou) ++ ((zb_r G (b 2) K) ++ zb_r G (b 3) X)).Perm ((zb_r G (b 2) K) ++ ((zb_6 G b (nI 0) sz ac sp ou) ++ zb_r G (b 3) X)) from (List.perm_append_comm_assoc _ _ _)).trans (List.Perm.of_eq (by simp only [List.append_assoc, List.append_nil, List.nil_append]))).symm
          have hD : va_D A ((zb_6 G b (nI 0) sz ac sp ou) ++ ((zb_r G (b 2) K) ++ zb_r G (b 3) X)) := zk_Dperm hD (show ((zb_6 G b (nI 0) sz ac sp ou) ++ ((zb_r G (b 2) K) ++ zb_r G (b 3) X)).Perm ((zb_r G (b 2) K) ++ ((zb_6 G b (nI 0) sz ac sp ou) ++ zb_r G (b 3) X)) from (show ((zb_6 G b (nI 0) sz ac sp ou) ++ ((zb_r G (b 2) K) ++ zb_r G (b 3) X)).Perm ((zb_r G (b 2) K) ++ ((zb_6 G b (nI 0) sz ac sp ou) ++ zb_r G (b 3) X)) from (List.perm_append_comm_assoc _ _ _)).trans (List.Perm.of_eq (by simp only [List.append_assoc, List.append_nil, List.nil_append]))).symm
          refine lv_isub hx hb dX6_simulate_100 ?_
          refine lv_imul hx hb dX6_simulate_101 ?_
          refine lv_aload_n hx hb dX6_simulate_102 rfl (lv_at hl 2 rfl) ?_
          refine va_get (D := G.1) (ci := 5) (v := .ref (b 3)) (C := RX6) (T := TX6) (N := 11) hx hb hts (fun _ h => List.mem_cons_of_mem _ (List.mem_append_right _ h)) hown hK hP 0 rfl rfl 4 (by decide) w3 (fun _ h9 => h9) rfl dX6_simulate_103 ?_
          refine lv_iconst (v := -1) hx hb dX6_simulate_106 (by decide) ?_
          refine lv_iconst (v := -1) hx hb dX6_simulate_107 (by decide) ?_
          refine lv_iconst (v := nI 4) hx hb dX6_simulate_108 (by decide) ?_
          have hP0 : va_P G.1 vwCl ((zb_r G (b 3) X) ++ ((zb_6 G b (nI 0) sz ac sp ou) ++ zb_r G (b 2) K)) H := zk_Pperm hP (show ((zb_6 G b (nI 0) sz ac sp ou) ++ ((zb_r G (b 2) K) ++ zb_r G (b 3) X)).Perm ((zb_r G (b 3) X) ++ ((zb_6 G b (nI 0) sz ac sp ou) ++ zb_r G (b 2) K)) from (show ((zb_6 G b (nI 0) sz ac sp ou) ++ ((zb_r G (b 2) K) ++ zb_r G (b 3) X)).Perm ((zb_r G (b 3) X) ++ ((zb_6 G b (nI 0) sz ac sp ou) ++ zb_r G (b 2) K)) from ((List.Perm.append_left _ List.perm_append_comm).trans (List.perm_append_comm_assoc _ _ _))).trans (List.Perm.of_eq (by simp only [List.append_assoc, List.append_nil, List.nil_append])))
          have hD0 : va_D A ((zb_r G (b 3) X) ++ ((zb_6 G b (nI 0) sz ac sp ou) ++ zb_r G (b 2) K)) := zk_Dperm hD (show ((zb_6 G b (nI 0) sz ac sp ou) ++ ((zb_r G (b 2) K) ++ zb_r G (b 3) X)).Perm ((zb_r G (b 3) X) ++ ((zb_6 G b (nI 0) sz ac sp ou) ++ zb_r G (b 2) K)) from (show ((zb_6 G b (nI 0) sz ac sp ou) ++ ((zb_r G (b 2) K) ++ zb_r G (b 3) X)).Perm ((zb_r G (b 3) X) ++ ((zb_6 G b (nI 0) sz ac sp ou) ++ zb_r G (b 2) K)) from ((List.Perm.append_left _ List.perm_append_comm).trans (List.perm_append_comm_assoc _ _ _))).trans (List.Perm.of_eq (by simp only [List.append_assoc, List.append_nil, List.nil_append])))
          refine zk_callI (wr := (zb_6 G b (nI 0) sz ac sp ou) ++ zb_r G (b 2) K) (va_runS (As := [.ref (b 3), .int (-1), .int (-1), .int (nI 4)]) (rest := [.int ((nI 1000) * ((kSrv X (zN X) (-1) (-1)) - (kSrv K n (-1) (-1))))]) ⟨hx, hb, hml, hown, hts⟩ (c_X6_count l G (b 3) X (zN X) (zT X) hX (-1) (-1) (nI 4) _) (cwS 4 hts gX6_simulate_X6_count rfl rfl rfl (by decide +kernel) ⟨Nat.le_of_ble_eq_true rfl, Nat.le_of_ble_eq_true rfl⟩) (zk_preS hE hA0 hS (zk_Papp hP0).1 (zk_Dapp hD0).1) rfl rfl hl.1 rfl (lv_room (Nat.le_of_ble_eq_true rfl)) dX6_simulate_109 ⟨Nat.le_of_ble_eq_true rfl, Nat.le_of_ble_eq_true rfl⟩) hP0 hD0 hS hA (fun r24 u25 H locs q26 hP hD hS => ?_)
          subst q26
          have hP : va_P G.1 vwCl ((zb_6 G b (nI 0) sz ac sp ou) ++ ((zb_r G (b 2) K) ++ zb_r G (b 3) X)) H := zk_Pperm hP (show ((zb_6 G b (nI 0) sz ac sp ou) ++ ((zb_r G (b 2) K) ++ zb_r G (b 3) X)).Perm ((zb_r G (b 3) X) ++ ((zb_6 G b (nI 0) sz ac sp ou) ++ zb_r G (b 2) K)) from (show ((zb_6 G b (nI 0) sz ac sp ou) ++ ((zb_r G (b 2) K) ++ zb_r G (b 3) X)).Perm ((zb_r G (b 3) X) ++ ((zb_6 G b (nI 0) sz ac sp ou) ++ zb_r G (b 2) K)) from ((List.Perm.append_left _ List.perm_append_comm).trans (List.perm_append_comm_assoc _ _ _))).trans (List.Perm.of_eq (by simp only [List.append_assoc, List.append_nil, List.nil_append]))).symm
          have hD : va_D A ((zb_6 G b (nI 0) sz ac sp ou) ++ ((zb_r G (b 2) K) ++ zb_r G (b 3) X)) := zk_Dperm hD (show ((zb_6 G b (nI 0) sz ac sp ou) ++ ((zb_r G (b 2) K) ++ zb_r G (b 3) X)).Perm ((zb_r G (b 3) X) ++ ((zb_6 G b (nI 0) sz ac sp ou) ++ zb_r G (b 2) K)) from (show ((zb_6 G b (nI 0) sz ac sp ou) ++ ((zb_r G (b 2) K) ++ zb_r G (b 3) X)).Perm ((zb_r G (b 3) X) ++ ((zb_6 G b (nI 0) sz ac sp ou) ++ zb_r G (b 2) K)) from ((List.Perm.append_left _ List.perm_append_comm).trans (List.perm_append_comm_assoc _ _ _))).trans (List.Perm.of_eq (by simp only [List.append_assoc, List.append_nil, List.nil_append]))).symm
          refine lv_iadd hx hb dX6_simulate_112 ?_
          refine lv_aload_n hx hb dX6_simulate_113 rfl (lv_at hl 2 rfl) ?_
          refine va_get (D := G.1) (ci := 5) (v := .ref (b 2)) (C := RX6) (T := TX6) (N := 11) hx hb hts (fun _ h => List.mem_cons_of_mem _ (List.mem_append_right _ h)) hown hK hP 0 rfl rfl 3 (by decide) w2 (fun _ h9 => h9) rfl dX6_simulate_114 ?_
          refine lv_iconst (v := -1) hx hb dX6_simulate_117 (by decide) ?_
          refine lv_iconst (v := -1) hx hb dX6_simulate_118 (by decide) ?_
          refine lv_iconst (v := nI 4) hx hb dX6_simulate_119 (by decide) ?_
          have hP0 : va_P G.1 vwCl ((zb_r G (b 2) K) ++ ((zb_6 G b (nI 0) sz ac sp ou) ++ zb_r G (b 3) X)) H := zk_Pperm hP (show ((zb_6 G b (nI 0) sz ac sp ou) ++ ((zb_r G (b 2) K) ++ zb_r G (b 3) X)).Perm ((zb_r G (b 2) K) ++ ((zb_6 G b (nI 0) sz ac sp ou) ++ zb_r G (b 3) X)) from (show ((zb_6 G b (nI 0) sz ac sp ou) ++ ((zb_r G (b 2) K) ++ zb_r G (b 3) X)).Perm ((zb_r G (b 2) K) ++ ((zb_6 G b (nI 0) sz ac sp ou) ++ zb_r G (b 3) X)) from (List.perm_append_comm_assoc _ _ _)).trans (List.Perm.of_eq (by simp only [List.append_assoc, List.append_nil, List.nil_append])))
          have hD0 : va_D A ((zb_r G (b 2) K) ++ ((zb_6 G b (nI 0) sz ac sp ou) ++ zb_r G (b 3) X)) := zk_Dperm hD (show ((zb_6 G b (nI 0) sz ac sp ou) ++ ((zb_r G (b 2) K) ++ zb_r G (b 3) X)).Perm ((zb_r G (b 2) K) ++ ((zb_6 G b (nI 0) sz ac sp ou) ++ zb_r G (b 3) X)) from (show ((zb_6 G b (nI 0) sz ac sp ou) ++ ((zb_r G (b 2) K) ++ zb_r G (b 3) X)).Perm ((zb_r G (b 2) K) ++ ((zb_6 G b (nI 0) sz ac sp ou) ++ zb_r G (b 3) X)) from (List.perm_append_comm_assoc _ _ _)).trans (List.Perm.of_eq (by simp only [List.append_assoc, List.append_nil, List.nil_append])))
          refine zk_callI (wr := (zb_6 G b (nI 0) sz ac sp ou) ++ zb_r G (b 3) X) (va_runS (As := [.ref (b 2), .int (-1), .int (-1), .int (nI 4)]) (rest := [.int (((nI 1000) * ((kSrv X (zN X) (-1) (-1)) - (kSrv K n (-1) (-1)))) + (kCnt X (zN X) (-1) (-1) (nI 4)))]) ⟨hx, hb, hml, hown, hts⟩ (c_X6_count l G (b 2) K n t hI (-1) (-1) (nI 4) _) (cwS 4 hts gX6_simulate_X6_count rfl rfl rfl (by decide +kernel) ⟨Nat.le_of_ble_eq_true rfl, Nat.le_of_ble_eq_true rfl⟩) (zk_preS hE hA0 hS (zk_Papp hP0).1 (zk_Dapp hD0).1) rfl rfl hl.1 rfl (lv_room (Nat.le_of_ble_eq_true rfl)) dX6_simulate_120 ⟨Nat.le_of_ble_eq_true rfl, Nat.le_of_ble_eq_true rfl⟩) hP0 hD0 hS hA (fun r27 u28 H locs q29 hP hD hS => ?_)
          subst q29
          have hP : va_P G.1 vwCl ((zb_6 G b (nI 0) sz ac sp ou) ++ ((zb_r G (b 2) K) ++ zb_r G (b 3) X)) H := zk_Pperm hP (show ((zb_6 G b (nI 0) sz ac sp ou) ++ ((zb_r G (b 2) K) ++ zb_r G (b 3) X)).Perm ((zb_r G (b 2) K) ++ ((zb_6 G b (nI 0) sz ac sp ou) ++ zb_r G (b 3) X)) from (show ((zb_6 G b (nI 0) sz ac sp ou) ++ ((zb_r G (b 2) K) ++ zb_r G (b 3) X)).Perm ((zb_r G (b 2) K) ++ ((zb_6 G b (nI 0) sz ac sp ou) ++ zb_r G (b 3) X)) from (List.perm_append_comm_assoc _ _ _)).trans (List.Perm.of_eq (by simp only [List.append_assoc, List.append_nil, List.nil_append]))).symm
          have hD : va_D A ((zb_6 G b (nI 0) sz ac sp ou) ++ ((zb_r G (b 2) K) ++ zb_r G (b 3) X)) := zk_Dperm hD (show ((zb_6 G b (nI 0) sz ac sp ou) ++ ((zb_r G (b 2) K) ++ zb_r G (b 3) X)).Perm ((zb_r G (b 2) K) ++ ((zb_6 G b (nI 0) sz ac sp ou) ++ zb_r G (b 3) X)) from (show ((zb_6 G b (nI 0) sz ac sp ou) ++ ((zb_r G (b 2) K) ++ zb_r G (b 3) X)).Perm ((zb_r G (b 2) K) ++ ((zb_6 G b (nI 0) sz ac sp ou) ++ zb_r G (b 3) X)) from (List.perm_append_comm_assoc _ _ _)).trans (List.Perm.of_eq (by simp only [List.append_assoc, List.append_nil, List.nil_append]))).symm
          refine lv_isub hx hb dX6_simulate_123 ?_
          exact zk_reti (nI 0, X) hQ hx hb hr hlocks hS hP hD (Nat.le_of_ble_eq_true rfl) (Nat.le_of_ble_eq_true rfl) dX6_simulate_124 (Or.inl ⟨h10_3.1, h10_3.2, rfl, by rw [nkm]; rw [show i = km by omega] at hq; rw [← hq]⟩)
        · have h48_16 := zk_nle (by omega) (by omega) h48_16
          refine lv_lload hx hb dX6_simulate_51 (lv_at hl 1 rfl) ?_
          refine lv_ldc2 hx hb (v := lN 6364136223846793005) hown w4 dX6_simulate_53 ?_
          refine lv_lmul hx hb dX6_simulate_56 ?_
          refine lv_ldc2 hx hb (v := lN 1442695040888963407) hown w5 dX6_simulate_57 ?_
          refine lv_ladd hx hb dX6_simulate_60 ?_
          refine lv_topl (fun y30 ey30 => ?_)
          refine lv_lstore (lv' := [(4, .long y30), (6, .int (nI i)), (0, .ref (b 0)), (1, .long seed), (3, .int (nI km))]) hx hb dX6_simulate_61 hl (by decide) rfl (fun ls hl => ?_)
          refine lv_aload_n hx hb dX6_simulate_63 rfl (lv_at hl 2 rfl) ?_
          refine lv_lload hx hb dX6_simulate_64 (lv_at hl 0 rfl) ?_
          refine lv_bipush (v := nI 33) hx hb dX6_simulate_66 (by decide) ?_
          refine lv_lushr (v := lN (mR y30)) hx hb dX6_simulate_68 (mR_shr y30) ?_
          refine lv_l2i (v := nI (mR y30)) hx hb dX6_simulate_69 (lN_i _) ?_
          have hP0 : va_P G.1 vwCl ((zb_6 G b (nI 0) sz ac sp ou ++ zb_r G (b 3) X) ++ (zb_r G (b 2) K)) H := zk_Pperm hP (show ((zb_6 G b (nI 0) sz ac sp ou) ++ ((zb_r G (b 2) K) ++ zb_r G (b 3) X)).Perm ((zb_6 G b (nI 0) sz ac sp ou ++ zb_r G (b 3) X) ++ (zb_r G (b 2) K)) from (show ((zb_6 G b (nI 0) sz ac sp ou) ++ ((zb_r G (b 2) K) ++ zb_r G (b 3) X)).Perm ((zb_6 G b (nI 0) sz ac sp ou) ++ ((zb_r G (b 3) X) ++ zb_r G (b 2) K)) from (((List.Perm.append_left _ List.perm_append_comm).trans (List.perm_append_comm_assoc _ _ _))).trans (List.perm_append_comm_assoc _ _ _)).trans (List.Perm.of_eq (by simp only [List.append_assoc, List.append_nil, List.nil_append])))
          have hD0 : va_D A ((zb_6 G b (nI 0) sz ac sp ou ++ zb_r G (b 3) X) ++ (zb_r G (b 2) K)) := zk_Dperm hD (show ((zb_6 G b (nI 0) sz ac sp ou) ++ ((zb_r G (b 2) K) ++ zb_r G (b 3) X)).Perm ((zb_6 G b (nI 0) sz ac sp ou ++ zb_r G (b 3) X) ++ (zb_r G (b 2) K)) from (show ((zb_6 G b (nI 0) sz ac sp ou) ++ ((zb_r G (b 2) K) ++ zb_r G (b 3) X)).Perm ((zb_6 G b (nI 0) sz ac sp ou) ++ ((zb_r G (b 3) X) ++ zb_r G (b 2) K)) from (((List.Perm.append_left _ List.perm_append_comm).trans (List.perm_append_comm_assoc _ _ _))).trans (List.perm_append_comm_assoc _ _ _)).trans (List.Perm.of_eq (by simp only [List.append_assoc, List.append_nil, List.nil_append])))
          refine zk_callV (wr := zb_r G (b 2) K) (va_runV (As := [.int (nI (mR y30))]) (rest := []) ⟨hx, hb, hml, hown, hts⟩ (c_X6_turn l G b (nI 0) sz ac sp ou X (zN X) (zT X) hX (by rw [hpX]; exact hp0) (mR y30) (mR_lt _) _) (cwV 1 hts gX6_simulate_X6_turn rfl rfl rfl (by decide +kernel) ⟨Nat.le_of_ble_eq_true rfl, Nat.le_of_ble_eq_true rfl⟩) (zk_preV hE hA0 hS (zk_Papp hP0).1 (zk_Dapp hD0).1 (va_recv hK hP0 (ci := 5) (q0 := 0) rfl rfl)) rfl rfl hl.1 rfl (lv_room (Nat.le_of_ble_eq_true rfl)) dX6_simulate_70 ⟨Nat.le_of_ble_eq_true rfl, Nat.le_of_ble_eq_true rfl⟩) hP0 hD0 hS hA (fun u32 H locs q33 hP hD hS => ?_)
          have eL34 := q33
          have hI35 : sInv u32 (zN u32) (zT u32) := by rw [eL34]; exact kTurn_inv hX
          have hp36 : u32 0 2 = K 0 2 := by rw [eL34]; exact kTurn_r0.trans hpX
          have hP : va_P G.1 vwCl ((zb_6 G b (nI 0) sz ac sp ou) ++ ((zb_r G (b 2) K) ++ zb_r G (b 3) u32)) H := zk_Pperm hP (show ((zb_6 G b (nI 0) sz ac sp ou) ++ ((zb_r G (b 2) K) ++ zb_r G (b 3) u32)).Perm ((zb_6 G b (nI 0) sz ac sp ou ++ zb_r G (b 3) u32) ++ (zb_r G (b 2) K)) from (show ((zb_6 G b (nI 0) sz ac sp ou) ++ ((zb_r G (b 2) K) ++ zb_r G (b 3) u32)).Perm ((zb_6 G b (nI 0) sz ac sp ou) ++ ((zb_r G (b 3) u32) ++ zb_r G (b 2) K)) from (((List.Perm.append_left _ List.perm_append_comm).trans (List.perm_append_comm_assoc _ _ _))).trans (List.perm_append_comm_assoc _ _ _)).trans (List.Perm.of_eq (by simp only [List.append_assoc, List.append_nil, List.nil_append]))).symm
          have hD : va_D A ((zb_6 G b (nI 0) sz ac sp ou) ++ ((zb_r G (b 2) K) ++ zb_r G (b 3) u32)) := zk_Dperm hD (show ((zb_6 G b (nI 0) sz ac sp ou) ++ ((zb_r G (b 2) K) ++ zb_r G (b 3) u32)).Perm ((zb_6 G b (nI 0) sz ac sp ou ++ zb_r G (b 3) u32) ++ (zb_r G (b 2) K)) from (show ((zb_6 G b (nI 0) sz ac sp ou) ++ ((zb_r G (b 2) K) ++ zb_r G (b 3) u32)).Perm ((zb_6 G b (nI 0) sz ac sp ou) ++ ((zb_r G (b 3) u32) ++ zb_r G (b 2) K)) from (((List.Perm.append_left _ List.perm_append_comm).trans (List.perm_append_comm_assoc _ _ _))).trans (List.perm_append_comm_assoc _ _ _)).trans (List.Perm.of_eq (by simp only [List.append_assoc, List.append_nil, List.nil_append]))).symm
          refine lv_iinc (v := nI (i + 1)) (lv' := [(6, .int (nI (i + 1))), (4, .long y30), (0, .ref (b 0)), (1, .long seed), (3, .int (nI km))]) hx hb dX6_simulate_73 hl (k := 1) rfl (zk_inc i 1) (by decide) rfl (fun ls hl => ?_)
          refine lv_goto (tgt := 45) hx hb dX6_simulate_76 (by decide) ?_
          exact ih15 (i + 1) y30 u32 (by omega) (by omega) (by refine zfold_i (f := fun _ x => kMStep x) hq ?_; show _ = kMStep (y, X); unfold kMStep; exact Prod.ext ey30 (by rw [eL34, ey30]; rfl)) (hI35) (hp36) _ _ hP hD hS ls (lv_sub hl [0, 1, 2, 3, 4] rfl)
    exact lp14 _ 0 seed K (Nat.lt_succ_self _) (by omega) (rfl) (sInv_at hI) (rfl) _ _ hP hD hS ls (lv_sub hl [0, 1, 2, 3, 4] rfl)

abbrev rmX6_save : Room := { frames := 1, cells := 0, slots := 0, locals := 25 }
set_option maxHeartbeats 4000000 in
set_option maxRecDepth 100000 in
/-- the row is kept -/
theorem c_X6_save (l : Launch) (G : zk_G) (b : Nat → Nat) (rf sz ac sp ou : Int32) (K : zL) (n t : Nat) (hI : sInv K n t) (SK : Nat → zL) (sv : Nat → Int32) (sl : Int32) : zk_I (S := Int32 × (Nat → Int32) × (Nat → zL)) l yX6_save wsX6_save rmX6_save G [.ref (b 0), .int sl] ((zb_6 G b rf sz ac sp ou) ++ ((zb_r G (b 2) K) ++ ((zb_k G (b 5) SK) ++ zb_f G (b 6) sv))) (fun r u => (zIn sl 2 ∧ u.1 = 0 ∧ r = nI t ∧ u.2.1 = upd sv sl.toNatClampNeg (nI 1) ∧ u.2.2 = va_up SK sl.toNatClampNeg K) ∨ (¬ zIn sl 2 ∧ u.1 = nI 1 ∧ u.2.1 = sv ∧ u.2.2 = SK)) (fun u => zb_6 G b u.1 sz ac sp ou ++ (zb_r G (b 2) K ++ (zb_k G (b 5) u.2.2 ++ zb_f G (b 6) u.2.1))) := by
  refine zk_bodyI (cc := cX6_save) (maxL := 2) (ret := (some .int)) (by decide) rfl (Nat.le_of_ble_eq_true rfl) ?_
  intro p E0 s m args below meth cd A ls Q hF hQ
  obtain ⟨hx, hb, hml, hr, hts, hown, hlocks, -, hE, hP, hD, hS, hA, hA0, hl⟩ := hF
  have hK := hE.1
  have hl : lv_has ls 2 [(0, .ref (b 0)), (1, .int sl)] := hl
  obtain ⟨hn, hn12, ht, ht40, hfam, hpay⟩ := id hI
  have w1 := hts _ (List.mem_of_getElem? (l := wsX6_save) (i := 1) (a := Cond.fieldLink RX6 13 "MealAccountsModel" "now" "[I") rfl)
  have w2 := hts _ (List.mem_of_getElem? (l := wsX6_save) (i := 2) (a := Cond.fieldLink RX6 22 "MealAccountsModel" "kept" "[I") rfl)
  have w3 := hts _ (List.mem_of_getElem? (l := wsX6_save) (i := 3) (a := Cond.fieldLink RX6 25 "MealAccountsModel" "isKept" "[Z") rfl)
  refine lv_aload_n hx hb dX6_save_0 rfl (lv_at hl 0 rfl) ?_
  refine lv_iload_n hx hb dX6_save_1 rfl (lv_at hl 1 rfl) ?_
  refine lv_i2l (v := sl.toInt64) hx hb dX6_save_2 rfl ?_
  refine lv_lconst (v := lN 0) hx hb dX6_save_3 rfl ?_
  refine zk_topL (show lN 0 = (nI 0).toInt64 from (nI_l (by decide)).symm) ?_
  refine lv_lconst (v := lN 1) hx hb dX6_save_4 rfl ?_
  refine zk_topL (show lN 1 = (nI 1).toInt64 from (nI_l (by decide)).symm) ?_
  have hP0 : va_P G.1 vwCl (([] : va_W) ++ ((zb_6 G b rf sz ac sp ou) ++ ((zb_r G (b 2) K) ++ ((zb_k G (b 5) SK) ++ zb_f G (b 6) sv)))) s.heap := hP
  have hD0 : va_D A (([] : va_W) ++ ((zb_6 G b rf sz ac sp ou) ++ ((zb_r G (b 2) K) ++ ((zb_k G (b 5) SK) ++ zb_f G (b 6) sv)))) := hD
  refine zk_callI (wr := (zb_6 G b rf sz ac sp ou) ++ ((zb_r G (b 2) K) ++ ((zb_k G (b 5) SK) ++ zb_f G (b 6) sv))) (va_runS (As := [.long sl.toInt64, .long ((nI 0).toInt64), .long ((nI 1).toInt64)]) (rest := [.ref (b 0)]) ⟨hx, hb, hml, hown, hts⟩ (c_X6_inI l G sl (nI 0) (nI 1) _) (cwS 3 hts gX6_save_X6_in rfl rfl rfl (by decide +kernel) ⟨Nat.le_of_ble_eq_true rfl, Nat.le_of_ble_eq_true rfl⟩) (zk_preS hE hA0 hS (zk_Papp hP0).1 (zk_Dapp hD0).1) rfl rfl hl.1 rfl (lv_room (Nat.le_of_ble_eq_true rfl)) dX6_save_5 ⟨Nat.le_of_ble_eq_true rfl, Nat.le_of_ble_eq_true rfl⟩) hP0 hD0 hS hA (fun r1 u2 H locs q3 hP hD hS => ?_)
  subst q3
  have hP : va_P G.1 vwCl ((zb_6 G b rf sz ac sp ou) ++ ((zb_r G (b 2) K) ++ ((zb_k G (b 5) SK) ++ zb_f G (b 6) sv))) H := hP
  have hD : va_D A ((zb_6 G b rf sz ac sp ou) ++ ((zb_r G (b 2) K) ++ ((zb_k G (b 5) SK) ++ zb_f G (b 6) sv))) := hD
  refine lv_if_eq (tgt := 15) hx hb dX6_save_8 (by decide) (fun h8_3 => ?_) (fun h8_3 => ?_)
  · have h8_3 := zk_b0 h8_3
    refine lv_iconst (v := nI 1) hx hb dX6_save_15 (by decide) ?_
    have hP0 : va_P G.1 vwCl ((zb_6 G b rf sz ac sp ou) ++ ((zb_r G (b 2) K) ++ ((zb_k G (b 5) SK) ++ zb_f G (b 6) sv))) H := zk_Pperm hP (show ((zb_6 G b rf sz ac sp ou) ++ ((zb_r G (b 2) K) ++ ((zb_k G (b 5) SK) ++ zb_f G (b 6) sv))).Perm ((zb_6 G b rf sz ac sp ou) ++ ((zb_r G (b 2) K) ++ ((zb_k G (b 5) SK) ++ zb_f G (b 6) sv))) from (show ((zb_6 G b rf sz ac sp ou) ++ ((zb_r G (b 2) K) ++ ((zb_k G (b 5) SK) ++ zb_f G (b 6) sv))).Perm ((zb_6 G b rf sz ac sp ou) ++ ((zb_r G (b 2) K) ++ ((zb_k G (b 5) SK) ++ zb_f G (b 6) sv))) from List.Perm.refl _).trans (List.Perm.of_eq (by simp only [List.append_assoc, List.append_nil, List.nil_append])))
    have hD0 : va_D A ((zb_6 G b rf sz ac sp ou) ++ ((zb_r G (b 2) K) ++ ((zb_k G (b 5) SK) ++ zb_f G (b 6) sv))) := zk_Dperm hD (show ((zb_6 G b rf sz ac sp ou) ++ ((zb_r G (b 2) K) ++ ((zb_k G (b 5) SK) ++ zb_f G (b 6) sv))).Perm ((zb_6 G b rf sz ac sp ou) ++ ((zb_r G (b 2) K) ++ ((zb_k G (b 5) SK) ++ zb_f G (b 6) sv))) from (show ((zb_6 G b rf sz ac sp ou) ++ ((zb_r G (b 2) K) ++ ((zb_k G (b 5) SK) ++ zb_f G (b 6) sv))).Perm ((zb_6 G b rf sz ac sp ou) ++ ((zb_r G (b 2) K) ++ ((zb_k G (b 5) SK) ++ zb_f G (b 6) sv))) from List.Perm.refl _).trans (List.Perm.of_eq (by simp only [List.append_assoc, List.append_nil, List.nil_append])))
    refine zk_callI (wr := (zb_r G (b 2) K) ++ ((zb_k G (b 5) SK) ++ zb_f G (b 6) sv)) (va_runV (As := [.int (nI 1)]) (rest := []) ⟨hx, hb, hml, hown, hts⟩ (c_X6_refused l G b rf sz ac sp ou (nI 1) _) (cwV 1 hts gX6_save_X6_refused rfl rfl rfl (by decide +kernel) ⟨Nat.le_of_ble_eq_true rfl, Nat.le_of_ble_eq_true rfl⟩) (zk_preV hE hA0 hS (zk_Papp hP0).1 (zk_Dapp hD0).1 (va_recv hK hP0 (ci := 5) (q0 := 0) rfl rfl)) rfl rfl hl.1 rfl (lv_room (Nat.le_of_ble_eq_true rfl)) dX6_save_16 ⟨Nat.le_of_ble_eq_true rfl, Nat.le_of_ble_eq_true rfl⟩) hP0 hD0 hS hA (fun r5 u6 H locs q7 hP hD hS => ?_)
    subst q7
    have hP : va_P G.1 vwCl ((zb_6 G b (nI 1) sz ac sp ou) ++ ((zb_r G (b 2) K) ++ ((zb_k G (b 5) SK) ++ zb_f G (b 6) sv))) H := zk_Pperm hP (show ((zb_6 G b (nI 1) sz ac sp ou) ++ ((zb_r G (b 2) K) ++ ((zb_k G (b 5) SK) ++ zb_f G (b 6) sv))).Perm ((zb_6 G b (nI 1) sz ac sp ou) ++ ((zb_r G (b 2) K) ++ ((zb_k G (b 5) SK) ++ zb_f G (b 6) sv))) from (show ((zb_6 G b (nI 1) sz ac sp ou) ++ ((zb_r G (b 2) K) ++ ((zb_k G (b 5) SK) ++ zb_f G (b 6) sv))).Perm ((zb_6 G b (nI 1) sz ac sp ou) ++ ((zb_r G (b 2) K) ++ ((zb_k G (b 5) SK) ++ zb_f G (b 6) sv))) from List.Perm.refl _).trans (List.Perm.of_eq (by simp only [List.append_assoc, List.append_nil, List.nil_append]))).symm
    have hD : va_D A ((zb_6 G b (nI 1) sz ac sp ou) ++ ((zb_r G (b 2) K) ++ ((zb_k G (b 5) SK) ++ zb_f G (b 6) sv))) := zk_Dperm hD (show ((zb_6 G b (nI 1) sz ac sp ou) ++ ((zb_r G (b 2) K) ++ ((zb_k G (b 5) SK) ++ zb_f G (b 6) sv))).Perm ((zb_6 G b (nI 1) sz ac sp ou) ++ ((zb_r G (b 2) K) ++ ((zb_k G (b 5) SK) ++ zb_f G (b 6) sv))) from (show ((zb_6 G b (nI 1) sz ac sp ou) ++ ((zb_r G (b 2) K) ++ ((zb_k G (b 5) SK) ++ zb_f G (b 6) sv))).Perm ((zb_6 G b (nI 1) sz ac sp ou) ++ ((zb_r G (b 2) K) ++ ((zb_k G (b 5) SK) ++ zb_f G (b 6) sv))) from List.Perm.refl _).trans (List.Perm.of_eq (by simp only [List.append_assoc, List.append_nil, List.nil_append]))).symm
    refine zk_top (show (if 0 < (nI 1) then nI 1 else nI 0) = nI 1 by decide) ?_
    refine lv_if_eq (tgt := 24) hx hb dX6_save_19 (by decide) (fun z => absurd z (by decide)) (fun _ => ?_)
    refine lv_iconst (v := nI 0) hx hb dX6_save_22 (by decide) ?_
    exact zk_reti (nI 1, sv, SK) hQ hx hb hr hlocks hS hP hD (Nat.le_of_ble_eq_true rfl) (Nat.le_of_ble_eq_true rfl) dX6_save_23 (Or.inr ⟨zIn_no h8_3 (by decide), rfl, rfl, rfl⟩)
  · have h8_3 := zk_b1 h8_3
    refine lv_iconst (v := nI 0) hx hb dX6_save_11 (by decide) ?_
    refine lv_goto (tgt := 16) hx hb dX6_save_12 (by decide) ?_
    have hP0 : va_P G.1 vwCl ((zb_6 G b rf sz ac sp ou) ++ ((zb_r G (b 2) K) ++ ((zb_k G (b 5) SK) ++ zb_f G (b 6) sv))) H := zk_Pperm hP (show ((zb_6 G b rf sz ac sp ou) ++ ((zb_r G (b 2) K) ++ ((zb_k G (b 5) SK) ++ zb_f G (b 6) sv))).Perm ((zb_6 G b rf sz ac sp ou) ++ ((zb_r G (b 2) K) ++ ((zb_k G (b 5) SK) ++ zb_f G (b 6) sv))) from (show ((zb_6 G b rf sz ac sp ou) ++ ((zb_r G (b 2) K) ++ ((zb_k G (b 5) SK) ++ zb_f G (b 6) sv))).Perm ((zb_6 G b rf sz ac sp ou) ++ ((zb_r G (b 2) K) ++ ((zb_k G (b 5) SK) ++ zb_f G (b 6) sv))) from List.Perm.refl _).trans (List.Perm.of_eq (by simp only [List.append_assoc, List.append_nil, List.nil_append])))
    have hD0 : va_D A ((zb_6 G b rf sz ac sp ou) ++ ((zb_r G (b 2) K) ++ ((zb_k G (b 5) SK) ++ zb_f G (b 6) sv))) := zk_Dperm hD (show ((zb_6 G b rf sz ac sp ou) ++ ((zb_r G (b 2) K) ++ ((zb_k G (b 5) SK) ++ zb_f G (b 6) sv))).Perm ((zb_6 G b rf sz ac sp ou) ++ ((zb_r G (b 2) K) ++ ((zb_k G (b 5) SK) ++ zb_f G (b 6) sv))) from (show ((zb_6 G b rf sz ac sp ou) ++ ((zb_r G (b 2) K) ++ ((zb_k G (b 5) SK) ++ zb_f G (b 6) sv))).Perm ((zb_6 G b rf sz ac sp ou) ++ ((zb_r G (b 2) K) ++ ((zb_k G (b 5) SK) ++ zb_f G (b 6) sv))) from List.Perm.refl _).trans (List.Perm.of_eq (by simp only [List.append_assoc, List.append_nil, List.nil_append])))
    refine zk_callI (wr := (zb_r G (b 2) K) ++ ((zb_k G (b 5) SK) ++ zb_f G (b 6) sv)) (va_runV (As := [.int (nI 0)]) (rest := []) ⟨hx, hb, hml, hown, hts⟩ (c_X6_refused l G b rf sz ac sp ou (nI 0) _) (cwV 1 hts gX6_save_X6_refused rfl rfl rfl (by decide +kernel) ⟨Nat.le_of_ble_eq_true rfl, Nat.le_of_ble_eq_true rfl⟩) (zk_preV hE hA0 hS (zk_Papp hP0).1 (zk_Dapp hD0).1 (va_recv hK hP0 (ci := 5) (q0 := 0) rfl rfl)) rfl rfl hl.1 rfl (lv_room (Nat.le_of_ble_eq_true rfl)) dX6_save_16 ⟨Nat.le_of_ble_eq_true rfl, Nat.le_of_ble_eq_true rfl⟩) hP0 hD0 hS hA (fun r8 u9 H locs q10 hP hD hS => ?_)
    subst q10
    have hP : va_P G.1 vwCl ((zb_6 G b (nI 0) sz ac sp ou) ++ ((zb_r G (b 2) K) ++ ((zb_k G (b 5) SK) ++ zb_f G (b 6) sv))) H := zk_Pperm hP (show ((zb_6 G b (nI 0) sz ac sp ou) ++ ((zb_r G (b 2) K) ++ ((zb_k G (b 5) SK) ++ zb_f G (b 6) sv))).Perm ((zb_6 G b (nI 0) sz ac sp ou) ++ ((zb_r G (b 2) K) ++ ((zb_k G (b 5) SK) ++ zb_f G (b 6) sv))) from (show ((zb_6 G b (nI 0) sz ac sp ou) ++ ((zb_r G (b 2) K) ++ ((zb_k G (b 5) SK) ++ zb_f G (b 6) sv))).Perm ((zb_6 G b (nI 0) sz ac sp ou) ++ ((zb_r G (b 2) K) ++ ((zb_k G (b 5) SK) ++ zb_f G (b 6) sv))) from List.Perm.refl _).trans (List.Perm.of_eq (by simp only [List.append_assoc, List.append_nil, List.nil_append]))).symm
    have hD : va_D A ((zb_6 G b (nI 0) sz ac sp ou) ++ ((zb_r G (b 2) K) ++ ((zb_k G (b 5) SK) ++ zb_f G (b 6) sv))) := zk_Dperm hD (show ((zb_6 G b (nI 0) sz ac sp ou) ++ ((zb_r G (b 2) K) ++ ((zb_k G (b 5) SK) ++ zb_f G (b 6) sv))).Perm ((zb_6 G b (nI 0) sz ac sp ou) ++ ((zb_r G (b 2) K) ++ ((zb_k G (b 5) SK) ++ zb_f G (b 6) sv))) from (show ((zb_6 G b (nI 0) sz ac sp ou) ++ ((zb_r G (b 2) K) ++ ((zb_k G (b 5) SK) ++ zb_f G (b 6) sv))).Perm ((zb_6 G b (nI 0) sz ac sp ou) ++ ((zb_r G (b 2) K) ++ ((zb_k G (b 5) SK) ++ zb_f G (b 6) sv))) from List.Perm.refl _).trans (List.Perm.of_eq (by simp only [List.append_assoc, List.append_nil, List.nil_append]))).symm
    refine zk_top (show (if 0 < (nI 0) then nI 1 else nI 0) = nI 0 by decide) ?_
    refine lv_if_eq (tgt := 24) hx hb dX6_save_19 (by decide) (fun _ => ?_) (fun z => absurd (by decide) z)
    obtain ⟨k, hk, ek⟩ := zIn_of h8_3 (by decide)
    have nk := nI_clamp (show k < 2 ^ 31 by omega)
    have hl : lv_has ls 2 [(0, .ref (b 0)), (1, .int (nI k))] := by rw [ek] at hl; exact hl
    refine lv_aload_n hx hb dX6_save_24 rfl (lv_at hl 0 rfl) ?_
    refine va_get (D := G.1) (ci := 5) (v := .ref (b 2)) (C := RX6) (T := TX6) (N := 11) hx hb hts (fun _ h => List.mem_cons_of_mem _ (List.mem_append_right _ h)) hown hK hP 0 rfl rfl 3 (by decide) w1 (fun _ h9 => h9) rfl dX6_save_25 ?_
    refine lv_iconst (v := nI 0) hx hb dX6_save_28 (by decide) ?_
    refine lv_aload_n hx hb dX6_save_29 rfl (lv_at hl 0 rfl) ?_
    refine va_get (D := G.1) (ci := 5) (v := .ref (b 5)) (C := RX6) (T := TX6) (N := 11) hx hb hts (fun _ h => List.mem_cons_of_mem _ (List.mem_append_right _ h)) hown hK hP 0 rfl rfl 7 (by decide) w2 (fun _ h9 => h9) rfl dX6_save_30 ?_
    refine lv_sipush (v := nI 1555) hx hb dX6_save_33 (by decide) ?_
    refine lv_iload_n hx hb dX6_save_36 rfl (lv_at hl 1 rfl) ?_
    refine zk_imulN hx hb dX6_save_37 ?_
    have hP0 : va_P G.1 vwCl ((zb_r G (b 2) K ++ zb_k G (b 5) SK) ++ ((zb_6 G b (nI 0) sz ac sp ou) ++ zb_f G (b 6) sv)) H := zk_Pperm hP (show ((zb_6 G b (nI 0) sz ac sp ou) ++ ((zb_r G (b 2) K) ++ ((zb_k G (b 5) SK) ++ zb_f G (b 6) sv))).Perm ((zb_r G (b 2) K ++ zb_k G (b 5) SK) ++ ((zb_6 G b (nI 0) sz ac sp ou) ++ zb_f G (b 6) sv)) from (show ((zb_6 G b (nI 0) sz ac sp ou) ++ ((zb_r G (b 2) K) ++ ((zb_k G (b 5) SK) ++ zb_f G (b 6) sv))).Perm ((zb_r G (b 2) K) ++ ((zb_k G (b 5) SK) ++ ((zb_6 G b (nI 0) sz ac sp ou) ++ zb_f G (b 6) sv))) from (((List.Perm.append_left _ (List.perm_append_comm_assoc _ _ _)).trans (List.perm_append_comm_assoc _ _ _))).trans ((List.Perm.append_left _ (List.perm_append_comm_assoc _ _ _)).trans (List.perm_append_comm_assoc _ _ _))).trans (List.Perm.of_eq (by simp only [List.append_assoc, List.append_nil, List.nil_append])))
    have hD0 : va_D A ((zb_r G (b 2) K ++ zb_k G (b 5) SK) ++ ((zb_6 G b (nI 0) sz ac sp ou) ++ zb_f G (b 6) sv)) := zk_Dperm hD (show ((zb_6 G b (nI 0) sz ac sp ou) ++ ((zb_r G (b 2) K) ++ ((zb_k G (b 5) SK) ++ zb_f G (b 6) sv))).Perm ((zb_r G (b 2) K ++ zb_k G (b 5) SK) ++ ((zb_6 G b (nI 0) sz ac sp ou) ++ zb_f G (b 6) sv)) from (show ((zb_6 G b (nI 0) sz ac sp ou) ++ ((zb_r G (b 2) K) ++ ((zb_k G (b 5) SK) ++ zb_f G (b 6) sv))).Perm ((zb_r G (b 2) K) ++ ((zb_k G (b 5) SK) ++ ((zb_6 G b (nI 0) sz ac sp ou) ++ zb_f G (b 6) sv))) from (((List.Perm.append_left _ (List.perm_append_comm_assoc _ _ _)).trans (List.perm_append_comm_assoc _ _ _))).trans ((List.Perm.append_left _ (List.perm_append_comm_assoc _ _ _)).trans (List.perm_append_comm_assoc _ _ _))).trans (List.Perm.of_eq (by simp only [List.append_assoc, List.append_nil, List.nil_append])))
    refine zk_callV (wr := (zb_6 G b (nI 0) sz ac sp ou) ++ zb_f G (b 6) sv) (va_runS (As := [.ref (b 2), .int (nI 0), .ref (b 5), .int (nI (1555 * k))]) (rest := []) ⟨hx, hb, hml, hown, hts⟩ (c_X6_copyTerm l G (b 2) 1555 0 (b 5) 3110 (1555 * k) (zrow K) (zdia SK) (by omega) (by omega) (by decide) (by decide) _) (cwS 4 hts gX6_save_X6_copyTerm rfl rfl rfl (by decide +kernel) ⟨Nat.le_of_ble_eq_true rfl, Nat.le_of_ble_eq_true rfl⟩) (zk_preS hE hA0 hS (zk_Papp hP0).1 (zk_Dapp hD0).1) rfl rfl hl.1 rfl (lv_room (Nat.le_of_ble_eq_true rfl)) dX6_save_38 ⟨Nat.le_of_ble_eq_true rfl, Nat.le_of_ble_eq_true rfl⟩) hP0 hD0 hS hA (fun u12 H locs q13 hP hD hS => ?_)
    subst q13
    obtain ⟨hP, hD⟩ := zk_cong (q0 := 1) (g := zdia (va_up SK k K)) hP hD rfl (kcp_rd K SK k _)
    have hP : va_P G.1 vwCl ((zb_r G (b 2) K ++ zb_k G (b 5) (va_up SK k K)) ++ ((zb_6 G b (nI 0) sz ac sp ou) ++ zb_f G (b 6) sv)) H := hP
    have hD : va_D A ((zb_r G (b 2) K ++ zb_k G (b 5) (va_up SK k K)) ++ ((zb_6 G b (nI 0) sz ac sp ou) ++ zb_f G (b 6) sv)) := hD
    have hP : va_P G.1 vwCl ((zb_6 G b (nI 0) sz ac sp ou) ++ ((zb_r G (b 2) K) ++ ((zb_k G (b 5) (va_up SK k K)) ++ zb_f G (b 6) sv))) H := zk_Pperm hP (show ((zb_6 G b (nI 0) sz ac sp ou) ++ ((zb_r G (b 2) K) ++ ((zb_k G (b 5) (va_up SK k K)) ++ zb_f G (b 6) sv))).Perm ((zb_r G (b 2) K ++ zb_k G (b 5) (va_up SK k K)) ++ ((zb_6 G b (nI 0) sz ac sp ou) ++ zb_f G (b 6) sv)) from (show ((zb_6 G b (nI 0) sz ac sp ou) ++ ((zb_r G (b 2) K) ++ ((zb_k G (b 5) (va_up SK k K)) ++ zb_f G (b 6) sv))).Perm ((zb_r G (b 2) K) ++ ((zb_k G (b 5) (va_up SK k K)) ++ ((zb_6 G b (nI 0) sz ac sp ou) ++ zb_f G (b 6) sv))) from (((List.Perm.append_left _ (List.perm_append_comm_assoc _ _ _)).trans (List.perm_append_comm_assoc _ _ _))).trans ((List.Perm.append_left _ (List.perm_append_comm_assoc _ _ _)).trans (List.perm_append_comm_assoc _ _ _))).trans (List.Perm.of_eq (by simp only [List.append_assoc, List.append_nil, List.nil_append]))).symm
    have hD : va_D A ((zb_6 G b (nI 0) sz ac sp ou) ++ ((zb_r G (b 2) K) ++ ((zb_k G (b 5) (va_up SK k K)) ++ zb_f G (b 6) sv))) := zk_Dperm hD (show ((zb_6 G b (nI 0) sz ac sp ou) ++ ((zb_r G (b 2) K) ++ ((zb_k G (b 5) (va_up SK k K)) ++ zb_f G (b 6) sv))).Perm ((zb_r G (b 2) K ++ zb_k G (b 5) (va_up SK k K)) ++ ((zb_6 G b (nI 0) sz ac sp ou) ++ zb_f G (b 6) sv)) from (show ((zb_6 G b (nI 0) sz ac sp ou) ++ ((zb_r G (b 2) K) ++ ((zb_k G (b 5) (va_up SK k K)) ++ zb_f G (b 6) sv))).Perm ((zb_r G (b 2) K) ++ ((zb_k G (b 5) (va_up SK k K)) ++ ((zb_6 G b (nI 0) sz ac sp ou) ++ zb_f G (b 6) sv))) from (((List.Perm.append_left _ (List.perm_append_comm_assoc _ _ _)).trans (List.perm_append_comm_assoc _ _ _))).trans ((List.Perm.append_left _ (List.perm_append_comm_assoc _ _ _)).trans (List.perm_append_comm_assoc _ _ _))).trans (List.Perm.of_eq (by simp only [List.append_assoc, List.append_nil, List.nil_append]))).symm
    refine lv_aload_n hx hb dX6_save_41 rfl (lv_at hl 0 rfl) ?_
    refine va_get (D := G.1) (ci := 5) (v := .ref (b 6)) (C := RX6) (T := TX6) (N := 11) hx hb hts (fun _ h => List.mem_cons_of_mem _ (List.mem_append_right _ h)) hown hK hP 0 rfl rfl 8 (by decide) w3 (fun _ h9 => h9) rfl dX6_save_42 ?_
    refine lv_iload_n hx hb dX6_save_45 rfl (lv_at hl 1 rfl) ?_
    refine lv_iconst (v := nI 1) hx hb dX6_save_46 (by decide) ?_
    refine zk_zastN hx hb hK hP hD hS 3 1 rfl rfl (k := k) (n := 2) (b := 1) (by decide) (by omega) (by omega) dX6_save_47 (fun H locs hP hD hS => ?_)
    obtain ⟨F14, eF14⟩ : ∃ z : Nat → Int32, z = upd sv k (nI 1) := ⟨_, rfl⟩
    have hP : va_P G.1 vwCl ((zb_6 G b (nI 0) sz ac sp ou) ++ ((zb_r G (b 2) K) ++ ((zb_k G (b 5) (va_up SK k K)) ++ zb_f G (b 6) F14))) H := by rw [eF14]; exact hP
    have hD : va_D A ((zb_6 G b (nI 0) sz ac sp ou) ++ ((zb_r G (b 2) K) ++ ((zb_k G (b 5) (va_up SK k K)) ++ zb_f G (b 6) F14))) := by rw [eF14]; exact hD
    refine lv_aload_n hx hb dX6_save_48 rfl (lv_at hl 0 rfl) ?_
    refine va_get (D := G.1) (ci := 5) (v := .ref (b 2)) (C := RX6) (T := TX6) (N := 11) hx hb hts (fun _ h => List.mem_cons_of_mem _ (List.mem_append_right _ h)) hown hK hP 0 rfl rfl 3 (by decide) w1 (fun _ h9 => h9) rfl dX6_save_49 ?_
    refine lv_iconst (v := nI 0) hx hb dX6_save_52 (by decide) ?_
    refine zk_ialdN hx hb hK hP 1 0 rfl rfl (k := 0) (n := 1555) (by omega) (by omega) dX6_save_53 ?_
    refine zk_top (zrow_l K (c := 0) (by omega)) ?_
    refine zk_top hI.2.2.1 ?_
    exact zk_reti (nI 0, F14, va_up SK k K) hQ hx hb hr hlocks hS hP hD (Nat.le_of_ble_eq_true rfl) (Nat.le_of_ble_eq_true rfl) dX6_save_54 (Or.inl ⟨zIn_of h8_3 (by decide), rfl, rfl, by rw [ek, nk]; exact eF14, by rw [ek, nk]⟩)

abbrev rmX6_restore : Room := { frames := 1, cells := 0, slots := 0, locals := 25 }
set_option maxHeartbeats 4000000 in
set_option maxRecDepth 100000 in
/-- a kept row comes back -/
theorem c_X6_restore (l : Launch) (G : zk_G) (b : Nat → Nat) (rf sz ac sp ou : Int32) (K : zL) (n t : Nat) (hI : sInv K n t) (SK : Nat → zL) (sv : Nat → Int32) (sl : Int32) : zk_I (S := Int32 × Int32 × zL) l yX6_restore wsX6_restore rmX6_restore G [.ref (b 0), .int sl] ((zb_6 G b rf sz ac sp ou) ++ ((zb_r G (b 2) K) ++ ((zb_k G (b 5) SK) ++ zb_f G (b 6) sv))) (fun r u => (zIn sl 2 ∧ ¬ sv sl.toNatClampNeg = 0 ∧ u.1 = 0 ∧ u.2.1 = 0 ∧ r = u.2.2 0 0 ∧ u.2.2 = SK sl.toNatClampNeg) ∨ (¬ zIn sl 2 ∧ u.1 = nI 1 ∧ u.2.1 = ac ∧ u.2.2 = K) ∨ (zIn sl 2 ∧ sv sl.toNatClampNeg = 0 ∧ u.1 = nI 2 ∧ u.2.1 = ac ∧ u.2.2 = K)) (fun u => zb_6 G b u.1 sz u.2.1 sp ou ++ (zb_r G (b 2) u.2.2 ++ (zb_k G (b 5) SK ++ zb_f G (b 6) sv))) := by
  refine zk_bodyI (cc := cX6_restore) (maxL := 2) (ret := (some .int)) (by decide) rfl (Nat.le_of_ble_eq_true rfl) ?_
  intro p E0 s m args below meth cd A ls Q hF hQ
  obtain ⟨hx, hb, hml, hr, hts, hown, hlocks, -, hE, hP, hD, hS, hA, hA0, hl⟩ := hF
  have hK := hE.1
  have hl : lv_has ls 2 [(0, .ref (b 0)), (1, .int sl)] := hl
  obtain ⟨hn, hn12, ht, ht40, hfam, hpay⟩ := id hI
  have w1 := hts _ (List.mem_of_getElem? (l := wsX6_restore) (i := 1) (a := Cond.fieldLink RX6 25 "MealAccountsModel" "isKept" "[Z") rfl)
  have w2 := hts _ (List.mem_of_getElem? (l := wsX6_restore) (i := 2) (a := Cond.fieldLink RX6 22 "MealAccountsModel" "kept" "[I") rfl)
  have w3 := hts _ (List.mem_of_getElem? (l := wsX6_restore) (i := 3) (a := Cond.fieldLink RX6 13 "MealAccountsModel" "now" "[I") rfl)
  have w4 := hts _ (List.mem_of_getElem? (l := wsX6_restore) (i := 4) (a := Cond.fieldLink RX6 148 "MealAccountsModel" "acts" "I") rfl)
  refine lv_aload_n hx hb dX6_restore_0 rfl (lv_at hl 0 rfl) ?_
  refine lv_iload_n hx hb dX6_restore_1 rfl (lv_at hl 1 rfl) ?_
  refine lv_i2l (v := sl.toInt64) hx hb dX6_restore_2 rfl ?_
  refine lv_lconst (v := lN 0) hx hb dX6_restore_3 rfl ?_
  refine zk_topL (show lN 0 = (nI 0).toInt64 from (nI_l (by decide)).symm) ?_
  refine lv_lconst (v := lN 1) hx hb dX6_restore_4 rfl ?_
  refine zk_topL (show lN 1 = (nI 1).toInt64 from (nI_l (by decide)).symm) ?_
  have hP0 : va_P G.1 vwCl (([] : va_W) ++ ((zb_6 G b rf sz ac sp ou) ++ ((zb_r G (b 2) K) ++ ((zb_k G (b 5) SK) ++ zb_f G (b 6) sv)))) s.heap := hP
  have hD0 : va_D A (([] : va_W) ++ ((zb_6 G b rf sz ac sp ou) ++ ((zb_r G (b 2) K) ++ ((zb_k G (b 5) SK) ++ zb_f G (b 6) sv)))) := hD
  refine zk_callI (wr := (zb_6 G b rf sz ac sp ou) ++ ((zb_r G (b 2) K) ++ ((zb_k G (b 5) SK) ++ zb_f G (b 6) sv))) (va_runS (As := [.long sl.toInt64, .long ((nI 0).toInt64), .long ((nI 1).toInt64)]) (rest := [.ref (b 0)]) ⟨hx, hb, hml, hown, hts⟩ (c_X6_inI l G sl (nI 0) (nI 1) _) (cwS 3 hts gX6_restore_X6_in rfl rfl rfl (by decide +kernel) ⟨Nat.le_of_ble_eq_true rfl, Nat.le_of_ble_eq_true rfl⟩) (zk_preS hE hA0 hS (zk_Papp hP0).1 (zk_Dapp hD0).1) rfl rfl hl.1 rfl (lv_room (Nat.le_of_ble_eq_true rfl)) dX6_restore_5 ⟨Nat.le_of_ble_eq_true rfl, Nat.le_of_ble_eq_true rfl⟩) hP0 hD0 hS hA (fun r1 u2 H locs q3 hP hD hS => ?_)
  subst q3
  have hP : va_P G.1 vwCl ((zb_6 G b rf sz ac sp ou) ++ ((zb_r G (b 2) K) ++ ((zb_k G (b 5) SK) ++ zb_f G (b 6) sv))) H := hP
  have hD : va_D A ((zb_6 G b rf sz ac sp ou) ++ ((zb_r G (b 2) K) ++ ((zb_k G (b 5) SK) ++ zb_f G (b 6) sv))) := hD
  refine lv_if_ne (tgt := 15) hx hb dX6_restore_8 (by decide) (fun h8_3 => ?_) (fun h8_3 => ?_)
  · have h8_3 := zk_b1 h8_3
    obtain ⟨k, hk, ek⟩ := zIn_of h8_3 (by decide)
    have nk := nI_clamp (show k < 2 ^ 31 by omega)
    have hl : lv_has ls 2 [(0, .ref (b 0)), (1, .int (nI k))] := by rw [ek] at hl; exact hl
    refine lv_aload_n hx hb dX6_restore_15 rfl (lv_at hl 0 rfl) ?_
    refine va_get (D := G.1) (ci := 5) (v := .ref (b 6)) (C := RX6) (T := TX6) (N := 11) hx hb hts (fun _ h => List.mem_cons_of_mem _ (List.mem_append_right _ h)) hown hK hP 0 rfl rfl 8 (by decide) w1 (fun _ h9 => h9) rfl dX6_restore_16 ?_
    refine lv_iload_n hx hb dX6_restore_19 rfl (lv_at hl 1 rfl) ?_
    refine zk_zaldN hx hb hK hP 3 1 rfl rfl (k := k) (n := 2) (by omega) (by omega) dX6_restore_20 ?_
    refine lv_if_ne (tgt := 28) hx hb dX6_restore_21 (by decide) (fun h21_4 => ?_) (fun h21_4 => ?_)
    · refine lv_iconst (v := nI 0) hx hb dX6_restore_28 (by decide) ?_
      have hP0 : va_P G.1 vwCl ((zb_6 G b rf sz ac sp ou) ++ ((zb_r G (b 2) K) ++ ((zb_k G (b 5) SK) ++ zb_f G (b 6) sv))) H := zk_Pperm hP (show ((zb_6 G b rf sz ac sp ou) ++ ((zb_r G (b 2) K) ++ ((zb_k G (b 5) SK) ++ zb_f G (b 6) sv))).Perm ((zb_6 G b rf sz ac sp ou) ++ ((zb_r G (b 2) K) ++ ((zb_k G (b 5) SK) ++ zb_f G (b 6) sv))) from (show ((zb_6 G b rf sz ac sp ou) ++ ((zb_r G (b 2) K) ++ ((zb_k G (b 5) SK) ++ zb_f G (b 6) sv))).Perm ((zb_6 G b rf sz ac sp ou) ++ ((zb_r G (b 2) K) ++ ((zb_k G (b 5) SK) ++ zb_f G (b 6) sv))) from List.Perm.refl _).trans (List.Perm.of_eq (by simp only [List.append_assoc, List.append_nil, List.nil_append])))
      have hD0 : va_D A ((zb_6 G b rf sz ac sp ou) ++ ((zb_r G (b 2) K) ++ ((zb_k G (b 5) SK) ++ zb_f G (b 6) sv))) := zk_Dperm hD (show ((zb_6 G b rf sz ac sp ou) ++ ((zb_r G (b 2) K) ++ ((zb_k G (b 5) SK) ++ zb_f G (b 6) sv))).Perm ((zb_6 G b rf sz ac sp ou) ++ ((zb_r G (b 2) K) ++ ((zb_k G (b 5) SK) ++ zb_f G (b 6) sv))) from (show ((zb_6 G b rf sz ac sp ou) ++ ((zb_r G (b 2) K) ++ ((zb_k G (b 5) SK) ++ zb_f G (b 6) sv))).Perm ((zb_6 G b rf sz ac sp ou) ++ ((zb_r G (b 2) K) ++ ((zb_k G (b 5) SK) ++ zb_f G (b 6) sv))) from List.Perm.refl _).trans (List.Perm.of_eq (by simp only [List.append_assoc, List.append_nil, List.nil_append])))
      refine zk_callI (wr := (zb_r G (b 2) K) ++ ((zb_k G (b 5) SK) ++ zb_f G (b 6) sv)) (va_runV (As := [.int (nI 0)]) (rest := []) ⟨hx, hb, hml, hown, hts⟩ (c_X6_refused l G b rf sz ac sp ou (nI 0) _) (cwV 1 hts gX6_restore_X6_refused rfl rfl rfl (by decide +kernel) ⟨Nat.le_of_ble_eq_true rfl, Nat.le_of_ble_eq_true rfl⟩) (zk_preV hE hA0 hS (zk_Papp hP0).1 (zk_Dapp hD0).1 (va_recv hK hP0 (ci := 5) (q0 := 0) rfl rfl)) rfl rfl hl.1 rfl (lv_room (Nat.le_of_ble_eq_true rfl)) dX6_restore_29 ⟨Nat.le_of_ble_eq_true rfl, Nat.le_of_ble_eq_true rfl⟩) hP0 hD0 hS hA (fun r6 u7 H locs q8 hP hD hS => ?_)
      subst q8
      have hP : va_P G.1 vwCl ((zb_6 G b (nI 0) sz ac sp ou) ++ ((zb_r G (b 2) K) ++ ((zb_k G (b 5) SK) ++ zb_f G (b 6) sv))) H := zk_Pperm hP (show ((zb_6 G b (nI 0) sz ac sp ou) ++ ((zb_r G (b 2) K) ++ ((zb_k G (b 5) SK) ++ zb_f G (b 6) sv))).Perm ((zb_6 G b (nI 0) sz ac sp ou) ++ ((zb_r G (b 2) K) ++ ((zb_k G (b 5) SK) ++ zb_f G (b 6) sv))) from (show ((zb_6 G b (nI 0) sz ac sp ou) ++ ((zb_r G (b 2) K) ++ ((zb_k G (b 5) SK) ++ zb_f G (b 6) sv))).Perm ((zb_6 G b (nI 0) sz ac sp ou) ++ ((zb_r G (b 2) K) ++ ((zb_k G (b 5) SK) ++ zb_f G (b 6) sv))) from List.Perm.refl _).trans (List.Perm.of_eq (by simp only [List.append_assoc, List.append_nil, List.nil_append]))).symm
      have hD : va_D A ((zb_6 G b (nI 0) sz ac sp ou) ++ ((zb_r G (b 2) K) ++ ((zb_k G (b 5) SK) ++ zb_f G (b 6) sv))) := zk_Dperm hD (show ((zb_6 G b (nI 0) sz ac sp ou) ++ ((zb_r G (b 2) K) ++ ((zb_k G (b 5) SK) ++ zb_f G (b 6) sv))).Perm ((zb_6 G b (nI 0) sz ac sp ou) ++ ((zb_r G (b 2) K) ++ ((zb_k G (b 5) SK) ++ zb_f G (b 6) sv))) from (show ((zb_6 G b (nI 0) sz ac sp ou) ++ ((zb_r G (b 2) K) ++ ((zb_k G (b 5) SK) ++ zb_f G (b 6) sv))).Perm ((zb_6 G b (nI 0) sz ac sp ou) ++ ((zb_r G (b 2) K) ++ ((zb_k G (b 5) SK) ++ zb_f G (b 6) sv))) from List.Perm.refl _).trans (List.Perm.of_eq (by simp only [List.append_assoc, List.append_nil, List.nil_append]))).symm
      refine zk_top (show (if 0 < (nI 0) then nI 1 else nI 0) = nI 0 by decide) ?_
      refine lv_if_eq (tgt := 37) hx hb dX6_restore_32 (by decide) (fun _ => ?_) (fun z => absurd (by decide) z)
      refine lv_aload_n hx hb dX6_restore_37 rfl (lv_at hl 0 rfl) ?_
      refine va_get (D := G.1) (ci := 5) (v := .ref (b 5)) (C := RX6) (T := TX6) (N := 11) hx hb hts (fun _ h => List.mem_cons_of_mem _ (List.mem_append_right _ h)) hown hK hP 0 rfl rfl 7 (by decide) w2 (fun _ h9 => h9) rfl dX6_restore_38 ?_
      refine lv_sipush (v := nI 1555) hx hb dX6_restore_41 (by decide) ?_
      refine lv_iload_n hx hb dX6_restore_44 rfl (lv_at hl 1 rfl) ?_
      refine zk_imulN hx hb dX6_restore_45 ?_
      refine lv_aload_n hx hb dX6_restore_46 rfl (lv_at hl 0 rfl) ?_
      refine va_get (D := G.1) (ci := 5) (v := .ref (b 2)) (C := RX6) (T := TX6) (N := 11) hx hb hts (fun _ h => List.mem_cons_of_mem _ (List.mem_append_right _ h)) hown hK hP 0 rfl rfl 3 (by decide) w3 (fun _ h9 => h9) rfl dX6_restore_47 ?_
      refine lv_iconst (v := nI 0) hx hb dX6_restore_50 (by decide) ?_
      have hP0 : va_P G.1 vwCl ((zb_k G (b 5) SK ++ zb_r G (b 2) K) ++ ((zb_6 G b (nI 0) sz ac sp ou) ++ zb_f G (b 6) sv)) H := zk_Pperm hP (show ((zb_6 G b (nI 0) sz ac sp ou) ++ ((zb_r G (b 2) K) ++ ((zb_k G (b 5) SK) ++ zb_f G (b 6) sv))).Perm ((zb_k G (b 5) SK ++ zb_r G (b 2) K) ++ ((zb_6 G b (nI 0) sz ac sp ou) ++ zb_f G (b 6) sv)) from (show ((zb_6 G b (nI 0) sz ac sp ou) ++ ((zb_r G (b 2) K) ++ ((zb_k G (b 5) SK) ++ zb_f G (b 6) sv))).Perm ((zb_k G (b 5) SK) ++ ((zb_r G (b 2) K) ++ ((zb_6 G b (nI 0) sz ac sp ou) ++ zb_f G (b 6) sv))) from ((List.perm_append_comm_assoc _ _ _)).trans ((List.Perm.append_left _ (List.perm_append_comm_assoc _ _ _)).trans (List.perm_append_comm_assoc _ _ _))).trans (List.Perm.of_eq (by simp only [List.append_assoc, List.append_nil, List.nil_append])))
      have hD0 : va_D A ((zb_k G (b 5) SK ++ zb_r G (b 2) K) ++ ((zb_6 G b (nI 0) sz ac sp ou) ++ zb_f G (b 6) sv)) := zk_Dperm hD (show ((zb_6 G b (nI 0) sz ac sp ou) ++ ((zb_r G (b 2) K) ++ ((zb_k G (b 5) SK) ++ zb_f G (b 6) sv))).Perm ((zb_k G (b 5) SK ++ zb_r G (b 2) K) ++ ((zb_6 G b (nI 0) sz ac sp ou) ++ zb_f G (b 6) sv)) from (show ((zb_6 G b (nI 0) sz ac sp ou) ++ ((zb_r G (b 2) K) ++ ((zb_k G (b 5) SK) ++ zb_f G (b 6) sv))).Perm ((zb_k G (b 5) SK) ++ ((zb_r G (b 2) K) ++ ((zb_6 G b (nI 0) sz ac sp ou) ++ zb_f G (b 6) sv))) from ((List.perm_append_comm_assoc _ _ _)).trans ((List.Perm.append_left _ (List.perm_append_comm_assoc _ _ _)).trans (List.perm_append_comm_assoc _ _ _))).trans (List.Perm.of_eq (by simp only [List.append_assoc, List.append_nil, List.nil_append])))
      refine zk_callV (wr := (zb_6 G b (nI 0) sz ac sp ou) ++ zb_f G (b 6) sv) (va_runS (As := [.ref (b 5), .int (nI (1555 * k)), .ref (b 2), .int (nI 0)]) (rest := []) ⟨hx, hb, hml, hown, hts⟩ (c_X6_copyTerm l G (b 5) 3110 (1555 * k) (b 2) 1555 0 (zdia SK) (zrow K) (by omega) (by omega) (by decide) (by decide) _) (cwS 4 hts gX6_restore_X6_copyTerm rfl rfl rfl (by decide +kernel) ⟨Nat.le_of_ble_eq_true rfl, Nat.le_of_ble_eq_true rfl⟩) (zk_preS hE hA0 hS (zk_Papp hP0).1 (zk_Dapp hD0).1) rfl rfl hl.1 rfl (lv_room (Nat.le_of_ble_eq_true rfl)) dX6_restore_51 ⟨Nat.le_of_ble_eq_true rfl, Nat.le_of_ble_eq_true rfl⟩) hP0 hD0 hS hA (fun u10 H locs q11 hP hD hS => ?_)
      subst q11
      obtain ⟨hP, hD⟩ := zk_cong (q0 := 1) (g := zrow (SK k)) hP hD rfl (kcp_dr SK k _)
      have hP : va_P G.1 vwCl ((zb_k G (b 5) SK ++ zb_r G (b 2) (SK k)) ++ ((zb_6 G b (nI 0) sz ac sp ou) ++ zb_f G (b 6) sv)) H := hP
      have hD : va_D A ((zb_k G (b 5) SK ++ zb_r G (b 2) (SK k)) ++ ((zb_6 G b (nI 0) sz ac sp ou) ++ zb_f G (b 6) sv)) := hD
      have hP : va_P G.1 vwCl ((zb_6 G b (nI 0) sz ac sp ou) ++ ((zb_r G (b 2) (SK k)) ++ ((zb_k G (b 5) SK) ++ zb_f G (b 6) sv))) H := zk_Pperm hP (show ((zb_6 G b (nI 0) sz ac sp ou) ++ ((zb_r G (b 2) (SK k)) ++ ((zb_k G (b 5) SK) ++ zb_f G (b 6) sv))).Perm ((zb_k G (b 5) SK ++ zb_r G (b 2) (SK k)) ++ ((zb_6 G b (nI 0) sz ac sp ou) ++ zb_f G (b 6) sv)) from (show ((zb_6 G b (nI 0) sz ac sp ou) ++ ((zb_r G (b 2) (SK k)) ++ ((zb_k G (b 5) SK) ++ zb_f G (b 6) sv))).Perm ((zb_k G (b 5) SK) ++ ((zb_r G (b 2) (SK k)) ++ ((zb_6 G b (nI 0) sz ac sp ou) ++ zb_f G (b 6) sv))) from ((List.perm_append_comm_assoc _ _ _)).trans ((List.Perm.append_left _ (List.perm_append_comm_assoc _ _ _)).trans (List.perm_append_comm_assoc _ _ _))).trans (List.Perm.of_eq (by simp only [List.append_assoc, List.append_nil, List.nil_append]))).symm
      have hD : va_D A ((zb_6 G b (nI 0) sz ac sp ou) ++ ((zb_r G (b 2) (SK k)) ++ ((zb_k G (b 5) SK) ++ zb_f G (b 6) sv))) := zk_Dperm hD (show ((zb_6 G b (nI 0) sz ac sp ou) ++ ((zb_r G (b 2) (SK k)) ++ ((zb_k G (b 5) SK) ++ zb_f G (b 6) sv))).Perm ((zb_k G (b 5) SK ++ zb_r G (b 2) (SK k)) ++ ((zb_6 G b (nI 0) sz ac sp ou) ++ zb_f G (b 6) sv)) from (show ((zb_6 G b (nI 0) sz ac sp ou) ++ ((zb_r G (b 2) (SK k)) ++ ((zb_k G (b 5) SK) ++ zb_f G (b 6) sv))).Perm ((zb_k G (b 5) SK) ++ ((zb_r G (b 2) (SK k)) ++ ((zb_6 G b (nI 0) sz ac sp ou) ++ zb_f G (b 6) sv))) from ((List.perm_append_comm_assoc _ _ _)).trans ((List.Perm.append_left _ (List.perm_append_comm_assoc _ _ _)).trans (List.perm_append_comm_assoc _ _ _))).trans (List.Perm.of_eq (by simp only [List.append_assoc, List.append_nil, List.nil_append]))).symm
      refine lv_aload_n hx hb dX6_restore_54 rfl (lv_at hl 0 rfl) ?_
      refine lv_iconst (v := nI 0) hx hb dX6_restore_55 (by decide) ?_
      refine va_put (D := G.1) (ci := 5) (v := .int (nI 0)) (ty := .int) (C := RX6) (T := TX6) (N := 11) hx hb hts (fun _ h => List.mem_cons_of_mem _ (List.mem_append_right _ h)) tyX6 tyX6_ok nmX6 hown hK hP hD hS 0 rfl rfl 6 (by decide) w4 (fun _ h9 => h9) rfl (by decide +kernel) rfl rfl (Nat.le_of_ble_eq_true rfl) dX6_restore_56 (fun H locs hP hD hS => ?_)
      have hP : va_P G.1 vwCl ((zb_6 G b (nI 0) sz (nI 0) sp ou) ++ ((zb_r G (b 2) (SK k)) ++ ((zb_k G (b 5) SK) ++ zb_f G (b 6) sv))) H := hP
      have hD : va_D A ((zb_6 G b (nI 0) sz (nI 0) sp ou) ++ ((zb_r G (b 2) (SK k)) ++ ((zb_k G (b 5) SK) ++ zb_f G (b 6) sv))) := hD
      refine lv_aload_n hx hb dX6_restore_59 rfl (lv_at hl 0 rfl) ?_
      refine va_get (D := G.1) (ci := 5) (v := .ref (b 2)) (C := RX6) (T := TX6) (N := 11) hx hb hts (fun _ h => List.mem_cons_of_mem _ (List.mem_append_right _ h)) hown hK hP 0 rfl rfl 3 (by decide) w3 (fun _ h9 => h9) rfl dX6_restore_60 ?_
      refine lv_iconst (v := nI 0) hx hb dX6_restore_63 (by decide) ?_
      refine zk_ialdN hx hb hK hP 1 0 rfl rfl (k := 0) (n := 1555) (by omega) (by omega) dX6_restore_64 ?_
      refine zk_top (zrow_l (SK k) (c := 0) (by omega)) ?_
      exact zk_reti (nI 0, nI 0, SK k) hQ hx hb hr hlocks hS hP hD (Nat.le_of_ble_eq_true rfl) (Nat.le_of_ble_eq_true rfl) dX6_restore_65 (Or.inl ⟨zIn_of h8_3 (by decide), by rw [ek, nk]; exact h21_4, rfl, rfl, rfl, by rw [ek, nk]⟩)
    · refine lv_iconst (v := nI 2) hx hb dX6_restore_24 (by decide) ?_
      refine lv_goto (tgt := 29) hx hb dX6_restore_25 (by decide) ?_
      have hP0 : va_P G.1 vwCl ((zb_6 G b rf sz ac sp ou) ++ ((zb_r G (b 2) K) ++ ((zb_k G (b 5) SK) ++ zb_f G (b 6) sv))) H := zk_Pperm hP (show ((zb_6 G b rf sz ac sp ou) ++ ((zb_r G (b 2) K) ++ ((zb_k G (b 5) SK) ++ zb_f G (b 6) sv))).Perm ((zb_6 G b rf sz ac sp ou) ++ ((zb_r G (b 2) K) ++ ((zb_k G (b 5) SK) ++ zb_f G (b 6) sv))) from (show ((zb_6 G b rf sz ac sp ou) ++ ((zb_r G (b 2) K) ++ ((zb_k G (b 5) SK) ++ zb_f G (b 6) sv))).Perm ((zb_6 G b rf sz ac sp ou) ++ ((zb_r G (b 2) K) ++ ((zb_k G (b 5) SK) ++ zb_f G (b 6) sv))) from List.Perm.refl _).trans (List.Perm.of_eq (by simp only [List.append_assoc, List.append_nil, List.nil_append])))
      have hD0 : va_D A ((zb_6 G b rf sz ac sp ou) ++ ((zb_r G (b 2) K) ++ ((zb_k G (b 5) SK) ++ zb_f G (b 6) sv))) := zk_Dperm hD (show ((zb_6 G b rf sz ac sp ou) ++ ((zb_r G (b 2) K) ++ ((zb_k G (b 5) SK) ++ zb_f G (b 6) sv))).Perm ((zb_6 G b rf sz ac sp ou) ++ ((zb_r G (b 2) K) ++ ((zb_k G (b 5) SK) ++ zb_f G (b 6) sv))) from (show ((zb_6 G b rf sz ac sp ou) ++ ((zb_r G (b 2) K) ++ ((zb_k G (b 5) SK) ++ zb_f G (b 6) sv))).Perm ((zb_6 G b rf sz ac sp ou) ++ ((zb_r G (b 2) K) ++ ((zb_k G (b 5) SK) ++ zb_f G (b 6) sv))) from List.Perm.refl _).trans (List.Perm.of_eq (by simp only [List.append_assoc, List.append_nil, List.nil_append])))
      refine zk_callI (wr := (zb_r G (b 2) K) ++ ((zb_k G (b 5) SK) ++ zb_f G (b 6) sv)) (va_runV (As := [.int (nI 2)]) (rest := []) ⟨hx, hb, hml, hown, hts⟩ (c_X6_refused l G b rf sz ac sp ou (nI 2) _) (cwV 1 hts gX6_restore_X6_refused rfl rfl rfl (by decide +kernel) ⟨Nat.le_of_ble_eq_true rfl, Nat.le_of_ble_eq_true rfl⟩) (zk_preV hE hA0 hS (zk_Papp hP0).1 (zk_Dapp hD0).1 (va_recv hK hP0 (ci := 5) (q0 := 0) rfl rfl)) rfl rfl hl.1 rfl (lv_room (Nat.le_of_ble_eq_true rfl)) dX6_restore_29 ⟨Nat.le_of_ble_eq_true rfl, Nat.le_of_ble_eq_true rfl⟩) hP0 hD0 hS hA (fun r12 u13 H locs q14 hP hD hS => ?_)
      subst q14
      have hP : va_P G.1 vwCl ((zb_6 G b (nI 2) sz ac sp ou) ++ ((zb_r G (b 2) K) ++ ((zb_k G (b 5) SK) ++ zb_f G (b 6) sv))) H := zk_Pperm hP (show ((zb_6 G b (nI 2) sz ac sp ou) ++ ((zb_r G (b 2) K) ++ ((zb_k G (b 5) SK) ++ zb_f G (b 6) sv))).Perm ((zb_6 G b (nI 2) sz ac sp ou) ++ ((zb_r G (b 2) K) ++ ((zb_k G (b 5) SK) ++ zb_f G (b 6) sv))) from (show ((zb_6 G b (nI 2) sz ac sp ou) ++ ((zb_r G (b 2) K) ++ ((zb_k G (b 5) SK) ++ zb_f G (b 6) sv))).Perm ((zb_6 G b (nI 2) sz ac sp ou) ++ ((zb_r G (b 2) K) ++ ((zb_k G (b 5) SK) ++ zb_f G (b 6) sv))) from List.Perm.refl _).trans (List.Perm.of_eq (by simp only [List.append_assoc, List.append_nil, List.nil_append]))).symm
      have hD : va_D A ((zb_6 G b (nI 2) sz ac sp ou) ++ ((zb_r G (b 2) K) ++ ((zb_k G (b 5) SK) ++ zb_f G (b 6) sv))) := zk_Dperm hD (show ((zb_6 G b (nI 2) sz ac sp ou) ++ ((zb_r G (b 2) K) ++ ((zb_k G (b 5) SK) ++ zb_f G (b 6) sv))).Perm ((zb_6 G b (nI 2) sz ac sp ou) ++ ((zb_r G (b 2) K) ++ ((zb_k G (b 5) SK) ++ zb_f G (b 6) sv))) from (show ((zb_6 G b (nI 2) sz ac sp ou) ++ ((zb_r G (b 2) K) ++ ((zb_k G (b 5) SK) ++ zb_f G (b 6) sv))).Perm ((zb_6 G b (nI 2) sz ac sp ou) ++ ((zb_r G (b 2) K) ++ ((zb_k G (b 5) SK) ++ zb_f G (b 6) sv))) from List.Perm.refl _).trans (List.Perm.of_eq (by simp only [List.append_assoc, List.append_nil, List.nil_append]))).symm
      refine zk_top (show (if 0 < (nI 2) then nI 1 else nI 0) = nI 1 by decide) ?_
      refine lv_if_eq (tgt := 37) hx hb dX6_restore_32 (by decide) (fun z => absurd z (by decide)) (fun _ => ?_)
      refine lv_iconst (v := nI 0) hx hb dX6_restore_35 (by decide) ?_
      exact zk_reti (nI 2, ac, K) hQ hx hb hr hlocks hS hP hD (Nat.le_of_ble_eq_true rfl) (Nat.le_of_ble_eq_true rfl) dX6_restore_36 (Or.inr (Or.inr ⟨zIn_of h8_3 (by decide), by rw [ek, nk]; exact h21_4, rfl, rfl, rfl⟩))
  · have h8_3 := zk_b0 h8_3
    refine lv_iconst (v := nI 1) hx hb dX6_restore_11 (by decide) ?_
    refine lv_goto (tgt := 29) hx hb dX6_restore_12 (by decide) ?_
    have hP0 : va_P G.1 vwCl ((zb_6 G b rf sz ac sp ou) ++ ((zb_r G (b 2) K) ++ ((zb_k G (b 5) SK) ++ zb_f G (b 6) sv))) H := zk_Pperm hP (show ((zb_6 G b rf sz ac sp ou) ++ ((zb_r G (b 2) K) ++ ((zb_k G (b 5) SK) ++ zb_f G (b 6) sv))).Perm ((zb_6 G b rf sz ac sp ou) ++ ((zb_r G (b 2) K) ++ ((zb_k G (b 5) SK) ++ zb_f G (b 6) sv))) from (show ((zb_6 G b rf sz ac sp ou) ++ ((zb_r G (b 2) K) ++ ((zb_k G (b 5) SK) ++ zb_f G (b 6) sv))).Perm ((zb_6 G b rf sz ac sp ou) ++ ((zb_r G (b 2) K) ++ ((zb_k G (b 5) SK) ++ zb_f G (b 6) sv))) from List.Perm.refl _).trans (List.Perm.of_eq (by simp only [List.append_assoc, List.append_nil, List.nil_append])))
    have hD0 : va_D A ((zb_6 G b rf sz ac sp ou) ++ ((zb_r G (b 2) K) ++ ((zb_k G (b 5) SK) ++ zb_f G (b 6) sv))) := zk_Dperm hD (show ((zb_6 G b rf sz ac sp ou) ++ ((zb_r G (b 2) K) ++ ((zb_k G (b 5) SK) ++ zb_f G (b 6) sv))).Perm ((zb_6 G b rf sz ac sp ou) ++ ((zb_r G (b 2) K) ++ ((zb_k G (b 5) SK) ++ zb_f G (b 6) sv))) from (show ((zb_6 G b rf sz ac sp ou) ++ ((zb_r G (b 2) K) ++ ((zb_k G (b 5) SK) ++ zb_f G (b 6) sv))).Perm ((zb_6 G b rf sz ac sp ou) ++ ((zb_r G (b 2) K) ++ ((zb_k G (b 5) SK) ++ zb_f G (b 6) sv))) from List.Perm.refl _).trans (List.Perm.of_eq (by simp only [List.append_assoc, List.append_nil, List.nil_append])))
    refine zk_callI (wr := (zb_r G (b 2) K) ++ ((zb_k G (b 5) SK) ++ zb_f G (b 6) sv)) (va_runV (As := [.int (nI 1)]) (rest := []) ⟨hx, hb, hml, hown, hts⟩ (c_X6_refused l G b rf sz ac sp ou (nI 1) _) (cwV 1 hts gX6_restore_X6_refused rfl rfl rfl (by decide +kernel) ⟨Nat.le_of_ble_eq_true rfl, Nat.le_of_ble_eq_true rfl⟩) (zk_preV hE hA0 hS (zk_Papp hP0).1 (zk_Dapp hD0).1 (va_recv hK hP0 (ci := 5) (q0 := 0) rfl rfl)) rfl rfl hl.1 rfl (lv_room (Nat.le_of_ble_eq_true rfl)) dX6_restore_29 ⟨Nat.le_of_ble_eq_true rfl, Nat.le_of_ble_eq_true rfl⟩) hP0 hD0 hS hA (fun r15 u16 H locs q17 hP hD hS => ?_)
    subst q17
    have hP : va_P G.1 vwCl ((zb_6 G b (nI 1) sz ac sp ou) ++ ((zb_r G (b 2) K) ++ ((zb_k G (b 5) SK) ++ zb_f G (b 6) sv))) H := zk_Pperm hP (show ((zb_6 G b (nI 1) sz ac sp ou) ++ ((zb_r G (b 2) K) ++ ((zb_k G (b 5) SK) ++ zb_f G (b 6) sv))).Perm ((zb_6 G b (nI 1) sz ac sp ou) ++ ((zb_r G (b 2) K) ++ ((zb_k G (b 5) SK) ++ zb_f G (b 6) sv))) from (show ((zb_6 G b (nI 1) sz ac sp ou) ++ ((zb_r G (b 2) K) ++ ((zb_k G (b 5) SK) ++ zb_f G (b 6) sv))).Perm ((zb_6 G b (nI 1) sz ac sp ou) ++ ((zb_r G (b 2) K) ++ ((zb_k G (b 5) SK) ++ zb_f G (b 6) sv))) from List.Perm.refl _).trans (List.Perm.of_eq (by simp only [List.append_assoc, List.append_nil, List.nil_append]))).symm
    have hD : va_D A ((zb_6 G b (nI 1) sz ac sp ou) ++ ((zb_r G (b 2) K) ++ ((zb_k G (b 5) SK) ++ zb_f G (b 6) sv))) := zk_Dperm hD (show ((zb_6 G b (nI 1) sz ac sp ou) ++ ((zb_r G (b 2) K) ++ ((zb_k G (b 5) SK) ++ zb_f G (b 6) sv))).Perm ((zb_6 G b (nI 1) sz ac sp ou) ++ ((zb_r G (b 2) K) ++ ((zb_k G (b 5) SK) ++ zb_f G (b 6) sv))) from (show ((zb_6 G b (nI 1) sz ac sp ou) ++ ((zb_r G (b 2) K) ++ ((zb_k G (b 5) SK) ++ zb_f G (b 6) sv))).Perm ((zb_6 G b (nI 1) sz ac sp ou) ++ ((zb_r G (b 2) K) ++ ((zb_k G (b 5) SK) ++ zb_f G (b 6) sv))) from List.Perm.refl _).trans (List.Perm.of_eq (by simp only [List.append_assoc, List.append_nil, List.nil_append]))).symm
    refine zk_top (show (if 0 < (nI 1) then nI 1 else nI 0) = nI 1 by decide) ?_
    refine lv_if_eq (tgt := 37) hx hb dX6_restore_32 (by decide) (fun z => absurd z (by decide)) (fun _ => ?_)
    refine lv_iconst (v := nI 0) hx hb dX6_restore_35 (by decide) ?_
    exact zk_reti (nI 1, ac, K) hQ hx hb hr hlocks hS hP hD (Nat.le_of_ble_eq_true rfl) (Nat.le_of_ble_eq_true rfl) dX6_restore_36 (Or.inr (Or.inl ⟨zIn_no h8_3 (by decide), rfl, rfl, rfl⟩))
