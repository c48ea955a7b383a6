abbrev rmX6_does : Room := { frames := 4, cells := 0, slots := 0, locals := 96 }
set_option maxHeartbeats 4000000 in
set_option maxRecDepth 100000 in
/-- a command on a row -/
theorem c_X6_does (l : Launch) (G : zk_G) (q : Nat) (K : zL) (n t : Nat) (hI : sInv K n t) (sg a b th : Int32) (hd : kDok sg a) (hp0 : ¬ K 0 2 < nI 1) : zk_I (S := zL) l yX6_does wsX6_does rmX6_does G [.ref q, .int sg, .int a, .int b, .int th] (zb_r G q K) (fun r u => r = (kDoes K n t sg a b th).1 ∧ u = (kDoes K n t sg a b th).2) (fun u => zb_r G q u) := by
  refine zk_bodyI (cc := cX6_does) (maxL := 5) (ret := (some .boolean)) (by decide) rfl (Nat.le_of_ble_eq_true rfl) ?_
  intro p E0 s m args below meth cd A ls Q hF hQ
  obtain ⟨hx, hb, hml, hr, hts, hown, hlocks, -, hE, hP, hD, hS, hA, hA0, hl⟩ := hF
  have hK := hE.1
  have hl : lv_has ls 5 [(0, .ref q), (1, .int sg), (2, .int a), (3, .int b), (4, .int th)] := hl
  obtain ⟨hn, hn12, ht, ht40, hfam, hpay⟩ := id hI
  refine lv_iload_n hx hb dX6_does_0 rfl (lv_at hl 1 rfl) ?_
  rcases Decidable.em (sg = nI 99) with h1_99 | h1_n99
  · refine lv_tableIn (tgt := 72) hx hb dX6_does_1 (by rw [h1_99]; decide) (by rw [h1_99]; decide) (by rw [h1_99]; rfl) (by decide) ?_
    refine lv_aload_n hx hb dX6_does_72 rfl (lv_at hl 0 rfl) ?_
    refine lv_iconst (v := nI 1) hx hb dX6_does_73 (by decide) ?_
    refine zk_ialdN hx hb hK hP 0 0 rfl rfl (k := 1) (n := 1555) (by omega) (by omega) dX6_does_74 ?_
    refine zk_top (zrow_l K (c := 1) (by omega)) ?_
    refine zk_top hI.1 ?_
    refine lv_bipush (v := nI 12) hx hb dX6_does_75 (by decide) ?_
    refine lv_icmp_ge (tgt := 93) hx hb dX6_does_77 (by decide) (fun h77_1 => ?_) (fun h77_1 => ?_)
    · have h77_1 := zk_le (by omega) (by omega) h77_1
      refine lv_iconst (v := nI 0) hx hb dX6_does_93 (by decide) ?_
      exact zk_retz K hQ hx hb hr hlocks hS hP hD (Nat.le_of_ble_eq_true rfl) (Nat.le_of_ble_eq_true rfl) dX6_does_94 (rfl) (by rw [kDoes_99 h1_99, if_neg (show ¬ n < 12 by omega)]; exact ⟨rfl, rfl⟩)
    · have h77_1 := zk_nle (by omega) (by omega) h77_1
      refine lv_aload_n hx hb dX6_does_80 rfl (lv_at hl 0 rfl) ?_
      refine lv_iload_n hx hb dX6_does_81 rfl (lv_at hl 2 rfl) ?_
      refine lv_iload_n hx hb dX6_does_82 rfl (lv_at hl 3 rfl) ?_
      have hP0 : va_P G.1 vwCl ((zb_r G q K) ++ (([] : va_W))) s.heap := zk_Pperm hP (show (zb_r G q K).Perm ((zb_r G q K) ++ (([] : va_W))) from (show (zb_r G q K).Perm (zb_r G q K) from List.Perm.refl _).trans (List.Perm.of_eq (by simp only [List.append_assoc, List.append_nil, List.nil_append])))
      have hD0 : va_D A ((zb_r G q K) ++ (([] : va_W))) := zk_Dperm hD (show (zb_r G q K).Perm ((zb_r G q K) ++ (([] : va_W))) from (show (zb_r G q K).Perm (zb_r G q K) from List.Perm.refl _).trans (List.Perm.of_eq (by simp only [List.append_assoc, List.append_nil, List.nil_append])))
      refine zk_callI (wr := ([] : va_W)) (va_runS (As := [.ref q, .int a, .int b]) (rest := []) ⟨hx, hb, hml, hown, hts⟩ (c_X6_comeOn l G q K n t hI a b (by omega) _) (cwS 3 hts gX6_does_X6_comeOn rfl rfl rfl (by decide +kernel) ⟨Nat.le_of_ble_eq_true rfl, Nat.le_of_ble_eq_true rfl⟩) (zk_preS hE hA0 hS (zk_Papp hP0).1 (zk_Dapp hD0).1) rfl rfl hl.1 rfl (lv_room (Nat.le_of_ble_eq_true rfl)) dX6_does_83 ⟨Nat.le_of_ble_eq_true rfl, Nat.le_of_ble_eq_true rfl⟩) hP0 hD0 hS hA (fun r3 u4 H locs q5 hP hD hS => ?_)
      obtain ⟨er3, eL6⟩ := q5
      have hP : va_P G.1 vwCl (zb_r G q u4) H := zk_Pperm hP (show (zb_r G q u4).Perm ((zb_r G q u4) ++ (([] : va_W))) from (show (zb_r G q u4).Perm (zb_r G q u4) from List.Perm.refl _).trans (List.Perm.of_eq (by simp only [List.append_assoc, List.append_nil, List.nil_append]))).symm
      have hD : va_D A (zb_r G q u4) := zk_Dperm hD (show (zb_r G q u4).Perm ((zb_r G q u4) ++ (([] : va_W))) from (show (zb_r G q u4).Perm (zb_r G q u4) from List.Perm.refl _).trans (List.Perm.of_eq (by simp only [List.append_assoc, List.append_nil, List.nil_append]))).symm
      refine lv_if_lt (tgt := 93) hx hb dX6_does_86 (by decide) (fun h86_6 => ?_) (fun h86_6 => ?_)
      · exact absurd (show nI n < 0 by rw [← er3]; exact h86_6) (nI_pos (by omega))
      · refine lv_iconst (v := nI 1) hx hb dX6_does_89 (by decide) ?_
        refine lv_goto (tgt := 94) hx hb dX6_does_90 (by decide) ?_
        exact zk_retz u4 hQ hx hb hr hlocks hS hP hD (Nat.le_of_ble_eq_true rfl) (Nat.le_of_ble_eq_true rfl) dX6_does_94 (rfl) (by rw [kDoes_99 h1_99, if_pos (show n < 12 by omega)]; exact ⟨rfl, eL6⟩)
  rcases Decidable.em (sg = nI 100) with h1_100 | h1_n100
  · refine lv_tableIn (tgt := 213) hx hb dX6_does_1 (by rw [h1_100]; decide) (by rw [h1_100]; decide) (by rw [h1_100]; rfl) (by decide) ?_
    refine lv_aload_n hx hb dX6_does_213 rfl (lv_at hl 0 rfl) ?_
    refine lv_iload_n hx hb dX6_does_214 rfl (lv_at hl 2 rfl) ?_
    have hP0 : va_P G.1 vwCl ((zb_r G q K) ++ (([] : va_W))) s.heap := zk_Pperm hP (show (zb_r G q K).Perm ((zb_r G q K) ++ (([] : va_W))) from (show (zb_r G q K).Perm (zb_r G q K) from List.Perm.refl _).trans (List.Perm.of_eq (by simp only [List.append_assoc, List.append_nil, List.nil_append])))
    have hD0 : va_D A ((zb_r G q K) ++ (([] : va_W))) := zk_Dperm hD (show (zb_r G q K).Perm ((zb_r G q K) ++ (([] : va_W))) from (show (zb_r G q K).Perm (zb_r G q K) from List.Perm.refl _).trans (List.Perm.of_eq (by simp only [List.append_assoc, List.append_nil, List.nil_append])))
    refine zk_callI (wr := ([] : va_W)) (va_runS (As := [.ref q, .int a]) (rest := []) ⟨hx, hb, hml, hown, hts⟩ (c_X6_canGoBy l G q K n t hI a _) (cwS 2 hts gX6_does_X6_canGoBy rfl rfl rfl (by decide +kernel) ⟨Nat.le_of_ble_eq_true rfl, Nat.le_of_ble_eq_true rfl⟩) (zk_preS hE hA0 hS (zk_Papp hP0).1 (zk_Dapp hD0).1) rfl rfl hl.1 rfl (lv_room (Nat.le_of_ble_eq_true rfl)) dX6_does_215 ⟨Nat.le_of_ble_eq_true rfl, Nat.le_of_ble_eq_true rfl⟩) hP0 hD0 hS hA (fun r8 u9 H locs q10 hP hD hS => ?_)
    subst q10
    have hP : va_P G.1 vwCl (zb_r G q K) H := zk_Pperm hP (show (zb_r G q K).Perm ((zb_r G q K) ++ (([] : va_W))) from (show (zb_r G q K).Perm (zb_r G q K) from List.Perm.refl _).trans (List.Perm.of_eq (by simp only [List.append_assoc, List.append_nil, List.nil_append]))).symm
    have hD : va_D A (zb_r G q K) := zk_Dperm hD (show (zb_r G q K).Perm ((zb_r G q K) ++ (([] : va_W))) from (show (zb_r G q K).Perm (zb_r G q K) from List.Perm.refl _).trans (List.Perm.of_eq (by simp only [List.append_assoc, List.append_nil, List.nil_append]))).symm
    refine lv_if_eq (tgt := 233) hx hb dX6_does_218 (by decide) (fun h218_10 => ?_) (fun h218_10 => ?_)
    · have h218_10 := zk_b0 h218_10
      refine lv_iconst (v := nI 0) hx hb dX6_does_233 (by decide) ?_
      exact zk_retz K hQ hx hb hr hlocks hS hP hD (Nat.le_of_ble_eq_true rfl) (Nat.le_of_ble_eq_true rfl) dX6_does_234 (rfl) (by rw [kDoes_no (by rw [h1_100]; decide) (by rw [h1_100]; decide) (by rw [h1_100]; decide) (by rw [h1_100]; decide) (by rw [h1_100]; decide) (by rw [h1_100]; decide), if_neg h218_10]; exact ⟨rfl, rfl⟩)
    · have h218_10 := zk_b1 h218_10
      obtain ⟨ak, eak, hak1, hak2⟩ := kwDays_0 ht40 h218_10
      subst eak
      have nak := nI_clamp (show ak < 2 ^ 31 by omega)
      refine lv_aload_n hx hb dX6_does_221 rfl (lv_at hl 0 rfl) ?_
      refine lv_iload_n hx hb dX6_does_222 rfl (lv_at hl 2 rfl) ?_
      have hP0 : va_P G.1 vwCl ((zb_r G q K) ++ (([] : va_W))) H := zk_Pperm hP (show (zb_r G q K).Perm ((zb_r G q K) ++ (([] : va_W))) from (show (zb_r G q K).Perm (zb_r G q K) from List.Perm.refl _).trans (List.Perm.of_eq (by simp only [List.append_assoc, List.append_nil, List.nil_append])))
      have hD0 : va_D A ((zb_r G q K) ++ (([] : va_W))) := zk_Dperm hD (show (zb_r G q K).Perm ((zb_r G q K) ++ (([] : va_W))) from (show (zb_r G q K).Perm (zb_r G q K) from List.Perm.refl _).trans (List.Perm.of_eq (by simp only [List.append_assoc, List.append_nil, List.nil_append])))
      refine zk_callI (wr := ([] : va_W)) (va_runS (As := [.ref q, .int (nI ak)]) (rest := []) ⟨hx, hb, hml, hown, hts⟩ (c_X6_daysOn l G q K n t hI ak (by omega) hp0 _) (cwS 2 hts gX6_does_X6_daysOn rfl rfl rfl (by decide +kernel) ⟨Nat.le_of_ble_eq_true rfl, Nat.le_of_ble_eq_true rfl⟩) (zk_preS hE hA0 hS (zk_Papp hP0).1 (zk_Dapp hD0).1) rfl rfl hl.1 rfl (lv_room (Nat.le_of_ble_eq_true rfl)) dX6_does_223 ⟨Nat.le_of_ble_eq_true rfl, Nat.le_of_ble_eq_true rfl⟩) hP0 hD0 hS hA (fun r12 u13 H locs q14 hP hD hS => ?_)
      obtain ⟨er12, eL15⟩ := q14
      have hI16 : sInv u13 n (t + ak) := by rw [eL15]; exact sInv_kDays hI _ (by omega)
      have hP : va_P G.1 vwCl (zb_r G q u13) H := zk_Pperm hP (show (zb_r G q u13).Perm ((zb_r G q u13) ++ (([] : va_W))) from (show (zb_r G q u13).Perm (zb_r G q u13) from List.Perm.refl _).trans (List.Perm.of_eq (by simp only [List.append_assoc, List.append_nil, List.nil_append]))).symm
      have hD : va_D A (zb_r G q u13) := zk_Dperm hD (show (zb_r G q u13).Perm ((zb_r G q u13) ++ (([] : va_W))) from (show (zb_r G q u13).Perm (zb_r G q u13) from List.Perm.refl _).trans (List.Perm.of_eq (by simp only [List.append_assoc, List.append_nil, List.nil_append]))).symm
      refine lv_if_lt (tgt := 233) hx hb dX6_does_226 (by decide) (fun h226_16 => ?_) (fun h226_16 => ?_)
      · exact absurd (by rw [← eL15, ← er12]; exact h226_16) (kDays_nn K ak hn12 hak2)
      · refine lv_iconst (v := nI 1) hx hb dX6_does_229 (by decide) ?_
        refine lv_goto (tgt := 234) hx hb dX6_does_230 (by decide) ?_
        exact zk_retz u13 hQ hx hb hr hlocks hS hP hD (Nat.le_of_ble_eq_true rfl) (Nat.le_of_ble_eq_true rfl) dX6_does_234 (rfl) (by rw [kDoes_no (by rw [h1_100]; decide) (by rw [h1_100]; decide) (by rw [h1_100]; decide) (by rw [h1_100]; decide) (by rw [h1_100]; decide) (by rw [h1_100]; decide), if_pos h218_10, nak]; exact ⟨rfl, eL15⟩)
  rcases Decidable.em (sg = nI 101) with h1_101 | h1_n101
  · refine lv_tableIn (tgt := 173) hx hb dX6_does_1 (by rw [h1_101]; decide) (by rw [h1_101]; decide) (by rw [h1_101]; rfl) (by decide) ?_
    refine lv_aload_n hx hb dX6_does_173 rfl (lv_at hl 0 rfl) ?_
    refine lv_iload_n hx hb dX6_does_174 rfl (lv_at hl 2 rfl) ?_
    refine lv_iload_n hx hb dX6_does_175 rfl (lv_at hl 3 rfl) ?_
    refine lv_iload hx hb dX6_does_176 (lv_at hl 4 rfl) ?_
    have hP0 : va_P G.1 vwCl ((zb_r G q K) ++ (([] : va_W))) s.heap := zk_Pperm hP (show (zb_r G q K).Perm ((zb_r G q K) ++ (([] : va_W))) from (show (zb_r G q K).Perm (zb_r G q K) from List.Perm.refl _).trans (List.Perm.of_eq (by simp only [List.append_assoc, List.append_nil, List.nil_append])))
    have hD0 : va_D A ((zb_r G q K) ++ (([] : va_W))) := zk_Dperm hD (show (zb_r G q K).Perm ((zb_r G q K) ++ (([] : va_W))) from (show (zb_r G q K).Perm (zb_r G q K) from List.Perm.refl _).trans (List.Perm.of_eq (by simp only [List.append_assoc, List.append_nil, List.nil_append])))
    refine zk_callI (wr := ([] : va_W)) (va_runS (As := [.ref q, .int a, .int b, .int th]) (rest := []) ⟨hx, hb, hml, hown, hts⟩ (c_X6_whyNotEntitle l G q K n t hI a b th _) (cwS 4 hts gX6_does_X6_whyNotEntitle rfl rfl rfl (by decide +kernel) ⟨Nat.le_of_ble_eq_true rfl, Nat.le_of_ble_eq_true rfl⟩) (zk_preS hE hA0 hS (zk_Papp hP0).1 (zk_Dapp hD0).1) rfl rfl hl.1 rfl (lv_room (Nat.le_of_ble_eq_true rfl)) dX6_does_178 ⟨Nat.le_of_ble_eq_true rfl, Nat.le_of_ble_eq_true rfl⟩) hP0 hD0 hS hA (fun r18 u19 H locs q20 hP hD hS => ?_)
    subst q20
    have hP : va_P G.1 vwCl (zb_r G q K) H := zk_Pperm hP (show (zb_r G q K).Perm ((zb_r G q K) ++ (([] : va_W))) from (show (zb_r G q K).Perm (zb_r G q K) from List.Perm.refl _).trans (List.Perm.of_eq (by simp only [List.append_assoc, List.append_nil, List.nil_append]))).symm
    have hD : va_D A (zb_r G q K) := zk_Dperm hD (show (zb_r G q K).Perm ((zb_r G q K) ++ (([] : va_W))) from (show (zb_r G q K).Perm (zb_r G q K) from List.Perm.refl _).trans (List.Perm.of_eq (by simp only [List.append_assoc, List.append_nil, List.nil_append]))).symm
    refine lv_if_eq (tgt := 186) hx hb dX6_does_181 (by decide) (fun h181_20 => ?_) (fun h181_20 => ?_)
    · have hz := sfEnt_0 h181_20
      obtain ⟨ak, hak, eak⟩ := sHas_nat hI (hz.1)
      subst eak
      have nak := nI_clamp (show ak < 2 ^ 31 by omega)
      refine lv_aload_n hx hb dX6_does_186 rfl (lv_at hl 0 rfl) ?_
      refine lv_iload_n hx hb dX6_does_187 rfl (lv_at hl 2 rfl) ?_
      refine lv_iload_n hx hb dX6_does_188 rfl (lv_at hl 3 rfl) ?_
      refine lv_iload hx hb dX6_does_189 (lv_at hl 4 rfl) ?_
      have hP0 : va_P G.1 vwCl ((zb_r G q K) ++ (([] : va_W))) H := zk_Pperm hP (show (zb_r G q K).Perm ((zb_r G q K) ++ (([] : va_W))) from (show (zb_r G q K).Perm (zb_r G q K) from List.Perm.refl _).trans (List.Perm.of_eq (by simp only [List.append_assoc, List.append_nil, List.nil_append])))
      have hD0 : va_D A ((zb_r G q K) ++ (([] : va_W))) := zk_Dperm hD (show (zb_r G q K).Perm ((zb_r G q K) ++ (([] : va_W))) from (show (zb_r G q K).Perm (zb_r G q K) from List.Perm.refl _).trans (List.Perm.of_eq (by simp only [List.append_assoc, List.append_nil, List.nil_append])))
      refine zk_callI (wr := ([] : va_W)) (va_runS (As := [.ref q, .int (nI ak), .int b, .int th]) (rest := []) ⟨hx, hb, hml, hown, hts⟩ (c_X6_entitleOn l G q K n t hI ak b th (by omega) _) (cwS 4 hts gX6_does_X6_entitleOn rfl rfl rfl (by decide +kernel) ⟨Nat.le_of_ble_eq_true rfl, Nat.le_of_ble_eq_true rfl⟩) (zk_preS hE hA0 hS (zk_Papp hP0).1 (zk_Dapp hD0).1) rfl rfl hl.1 rfl (lv_room (Nat.le_of_ble_eq_true rfl)) dX6_does_191 ⟨Nat.le_of_ble_eq_true rfl, Nat.le_of_ble_eq_true rfl⟩) hP0 hD0 hS hA (fun r22 u23 H locs q24 hP hD hS => ?_)
      obtain ⟨er22, eL25⟩ := q24
      have hI26 : sInv u23 n t := by rw [eL25]; exact sInv_entitle b th hI (by omega) (by omega) _ (by omega)
      have hP : va_P G.1 vwCl (zb_r G q u23) H := zk_Pperm hP (show (zb_r G q u23).Perm ((zb_r G q u23) ++ (([] : va_W))) from (show (zb_r G q u23).Perm (zb_r G q u23) from List.Perm.refl _).trans (List.Perm.of_eq (by simp only [List.append_assoc, List.append_nil, List.nil_append]))).symm
      have hD : va_D A (zb_r G q u23) := zk_Dperm hD (show (zb_r G q u23).Perm ((zb_r G q u23) ++ (([] : va_W))) from (show (zb_r G q u23).Perm (zb_r G q u23) from List.Perm.refl _).trans (List.Perm.of_eq (by simp only [List.append_assoc, List.append_nil, List.nil_append]))).symm
      refine lv_pop hx hb dX6_does_194 rfl ?_
      refine lv_iconst (v := nI 1) hx hb dX6_does_195 (by decide) ?_
      exact zk_retz u23 hQ hx hb hr hlocks hS hP hD (Nat.le_of_ble_eq_true rfl) (Nat.le_of_ble_eq_true rfl) dX6_does_196 (rfl) (by rw [kDoes_101 h1_101, if_pos h181_20, nak]; exact ⟨rfl, eL25⟩)
    · refine lv_iconst (v := nI 0) hx hb dX6_does_184 (by decide) ?_
      exact zk_retz K hQ hx hb hr hlocks hS hP hD (Nat.le_of_ble_eq_true rfl) (Nat.le_of_ble_eq_true rfl) dX6_does_185 (rfl) (by rw [kDoes_101 h1_101, if_neg h181_20]; exact ⟨rfl, rfl⟩)
  rcases Decidable.em (sg = nI 102) with h1_102 | h1_n102
  · refine lv_tableIn (tgt := 213) hx hb dX6_does_1 (by rw [h1_102]; decide) (by rw [h1_102]; decide) (by rw [h1_102]; rfl) (by decide) ?_
    refine lv_aload_n hx hb dX6_does_213 rfl (lv_at hl 0 rfl) ?_
    refine lv_iload_n hx hb dX6_does_214 rfl (lv_at hl 2 rfl) ?_
    have hP0 : va_P G.1 vwCl ((zb_r G q K) ++ (([] : va_W))) s.heap := zk_Pperm hP (show (zb_r G q K).Perm ((zb_r G q K) ++ (([] : va_W))) from (show (zb_r G q K).Perm (zb_r G q K) from List.Perm.refl _).trans (List.Perm.of_eq (by simp only [List.append_assoc, List.append_nil, List.nil_append])))
    have hD0 : va_D A ((zb_r G q K) ++ (([] : va_W))) := zk_Dperm hD (show (zb_r G q K).Perm ((zb_r G q K) ++ (([] : va_W))) from (show (zb_r G q K).Perm (zb_r G q K) from List.Perm.refl _).trans (List.Perm.of_eq (by simp only [List.append_assoc, List.append_nil, List.nil_append])))
    refine zk_callI (wr := ([] : va_W)) (va_runS (As := [.ref q, .int a]) (rest := []) ⟨hx, hb, hml, hown, hts⟩ (c_X6_canGoBy l G q K n t hI a _) (cwS 2 hts gX6_does_X6_canGoBy rfl rfl rfl (by decide +kernel) ⟨Nat.le_of_ble_eq_true rfl, Nat.le_of_ble_eq_true rfl⟩) (zk_preS hE hA0 hS (zk_Papp hP0).1 (zk_Dapp hD0).1) rfl rfl hl.1 rfl (lv_room (Nat.le_of_ble_eq_true rfl)) dX6_does_215 ⟨Nat.le_of_ble_eq_true rfl, Nat.le_of_ble_eq_true rfl⟩) hP0 hD0 hS hA (fun r27 u28 H locs q29 hP hD hS => ?_)
    subst q29
    have hP : va_P G.1 vwCl (zb_r G q K) H := zk_Pperm hP (show (zb_r G q K).Perm ((zb_r G q K) ++ (([] : va_W))) from (show (zb_r G q K).Perm (zb_r G q K) from List.Perm.refl _).trans (List.Perm.of_eq (by simp only [List.append_assoc, List.append_nil, List.nil_append]))).symm
    have hD : va_D A (zb_r G q K) := zk_Dperm hD (show (zb_r G q K).Perm ((zb_r G q K) ++ (([] : va_W))) from (show (zb_r G q K).Perm (zb_r G q K) from List.Perm.refl _).trans (List.Perm.of_eq (by simp only [List.append_assoc, List.append_nil, List.nil_append]))).symm
    refine lv_if_eq (tgt := 233) hx hb dX6_does_218 (by decide) (fun h218_29 => ?_) (fun h218_29 => ?_)
    · have h218_29 := zk_b0 h218_29
      refine lv_iconst (v := nI 0) hx hb dX6_does_233 (by decide) ?_
      exact zk_retz K hQ hx hb hr hlocks hS hP hD (Nat.le_of_ble_eq_true rfl) (Nat.le_of_ble_eq_true rfl) dX6_does_234 (rfl) (by rw [kDoes_no (by rw [h1_102]; decide) (by rw [h1_102]; decide) (by rw [h1_102]; decide) (by rw [h1_102]; decide) (by rw [h1_102]; decide) (by rw [h1_102]; decide), if_neg h218_29]; exact ⟨rfl, rfl⟩)
    · have h218_29 := zk_b1 h218_29
      obtain ⟨ak, eak, hak1, hak2⟩ := kwDays_0 ht40 h218_29
      subst eak
      have nak := nI_clamp (show ak < 2 ^ 31 by omega)
      refine lv_aload_n hx hb dX6_does_221 rfl (lv_at hl 0 rfl) ?_
      refine lv_iload_n hx hb dX6_does_222 rfl (lv_at hl 2 rfl) ?_
      have hP0 : va_P G.1 vwCl ((zb_r G q K) ++ (([] : va_W))) H := zk_Pperm hP (show (zb_r G q K).Perm ((zb_r G q K) ++ (([] : va_W))) from (show (zb_r G q K).Perm (zb_r G q K) from List.Perm.refl _).trans (List.Perm.of_eq (by simp only [List.append_assoc, List.append_nil, List.nil_append])))
      have hD0 : va_D A ((zb_r G q K) ++ (([] : va_W))) := zk_Dperm hD (show (zb_r G q K).Perm ((zb_r G q K) ++ (([] : va_W))) from (show (zb_r G q K).Perm (zb_r G q K) from List.Perm.refl _).trans (List.Perm.of_eq (by simp only [List.append_assoc, List.append_nil, List.nil_append])))
      refine zk_callI (wr := ([] : va_W)) (va_runS (As := [.ref q, .int (nI ak)]) (rest := []) ⟨hx, hb, hml, hown, hts⟩ (c_X6_daysOn l G q K n t hI ak (by omega) hp0 _) (cwS 2 hts gX6_does_X6_daysOn rfl rfl rfl (by decide +kernel) ⟨Nat.le_of_ble_eq_true rfl, Nat.le_of_ble_eq_true rfl⟩) (zk_preS hE hA0 hS (zk_Papp hP0).1 (zk_Dapp hD0).1) rfl rfl hl.1 rfl (lv_room (Nat.le_of_ble_eq_true rfl)) dX6_does_223 ⟨Nat.le_of_ble_eq_true rfl, Nat.le_of_ble_eq_true rfl⟩) hP0 hD0 hS hA (fun r31 u32 H locs q33 hP hD hS => ?_)
      obtain ⟨er31, eL34⟩ := q33
      have hI35 : sInv u32 n (t + ak) := by rw [eL34]; exact sInv_kDays hI _ (by omega)
      have hP : va_P G.1 vwCl (zb_r G q u32) H := zk_Pperm hP (show (zb_r G q u32).Perm ((zb_r G q u32) ++ (([] : va_W))) from (show (zb_r G q u32).Perm (zb_r G q u32) from List.Perm.refl _).trans (List.Perm.of_eq (by simp only [List.append_assoc, List.append_nil, List.nil_append]))).symm
      have hD : va_D A (zb_r G q u32) := zk_Dperm hD (show (zb_r G q u32).Perm ((zb_r G q u32) ++ (([] : va_W))) from (show (zb_r G q u32).Perm (zb_r G q u32) from List.Perm.refl _).trans (List.Perm.of_eq (by simp only [List.append_assoc, List.append_nil, List.nil_append]))).symm
      refine lv_if_lt (tgt := 233) hx hb dX6_does_226 (by decide) (fun h226_35 => ?_) (fun h226_35 => ?_)
      · exact absurd (by rw [← eL34, ← er31]; exact h226_35) (kDays_nn K ak hn12 hak2)
      · refine lv_iconst (v := nI 1) hx hb dX6_does_229 (by decide) ?_
        refine lv_goto (tgt := 234) hx hb dX6_does_230 (by decide) ?_
        exact zk_retz u32 hQ hx hb hr hlocks hS hP hD (Nat.le_of_ble_eq_true rfl) (Nat.le_of_ble_eq_true rfl) dX6_does_234 (rfl) (by rw [kDoes_no (by rw [h1_102]; decide) (by rw [h1_102]; decide) (by rw [h1_102]; decide) (by rw [h1_102]; decide) (by rw [h1_102]; decide) (by rw [h1_102]; decide), if_pos h218_29, nak]; exact ⟨rfl, eL34⟩)
  rcases Decidable.em (sg = nI 103) with h1_103 | h1_n103
  · refine lv_tableIn (tgt := 213) hx hb dX6_does_1 (by rw [h1_103]; decide) (by rw [h1_103]; decide) (by rw [h1_103]; rfl) (by decide) ?_
    refine lv_aload_n hx hb dX6_does_213 rfl (lv_at hl 0 rfl) ?_
    refine lv_iload_n hx hb dX6_does_214 rfl (lv_at hl 2 rfl) ?_
    have hP0 : va_P G.1 vwCl ((zb_r G q K) ++ (([] : va_W))) s.heap := zk_Pperm hP (show (zb_r G q K).Perm ((zb_r G q K) ++ (([] : va_W))) from (show (zb_r G q K).Perm (zb_r G q K) from List.Perm.refl _).trans (List.Perm.of_eq (by simp only [List.append_assoc, List.append_nil, List.nil_append])))
    have hD0 : va_D A ((zb_r G q K) ++ (([] : va_W))) := zk_Dperm hD (show (zb_r G q K).Perm ((zb_r G q K) ++ (([] : va_W))) from (show (zb_r G q K).Perm (zb_r G q K) from List.Perm.refl _).trans (List.Perm.of_eq (by simp only [List.append_assoc, List.append_nil, List.nil_append])))
    refine zk_callI (wr := ([] : va_W)) (va_runS (As := [.ref q, .int a]) (rest := []) ⟨hx, hb, hml, hown, hts⟩ (c_X6_canGoBy l G q K n t hI a _) (cwS 2 hts gX6_does_X6_canGoBy rfl rfl rfl (by decide +kernel) ⟨Nat.le_of_ble_eq_true rfl, Nat.le_of_ble_eq_true rfl⟩) (zk_preS hE hA0 hS (zk_Papp hP0).1 (zk_Dapp hD0).1) rfl rfl hl.1 rfl (lv_room (Nat.le_of_ble_eq_true rfl)) dX6_does_215 ⟨Nat.le_of_ble_eq_true rfl, Nat.le_of_ble_eq_true rfl⟩) hP0 hD0 hS hA (fun r37 u38 H locs q39 hP hD hS => ?_)
    subst q39
    have hP : va_P G.1 vwCl (zb_r G q K) H := zk_Pperm hP (show (zb_r G q K).Perm ((zb_r G q K) ++ (([] : va_W))) from (show (zb_r G q K).Perm (zb_r G q K) from List.Perm.refl _).trans (List.Perm.of_eq (by simp only [List.append_assoc, List.append_nil, List.nil_append]))).symm
    have hD : va_D A (zb_r G q K) := zk_Dperm hD (show (zb_r G q K).Perm ((zb_r G q K) ++ (([] : va_W))) from (show (zb_r G q K).Perm (zb_r G q K) from List.Perm.refl _).trans (List.Perm.of_eq (by simp only [List.append_assoc, List.append_nil, List.nil_append]))).symm
    refine lv_if_eq (tgt := 233) hx hb dX6_does_218 (by decide) (fun h218_39 => ?_) (fun h218_39 => ?_)
    · have h218_39 := zk_b0 h218_39
      refine lv_iconst (v := nI 0) hx hb dX6_does_233 (by decide) ?_
      exact zk_retz K hQ hx hb hr hlocks hS hP hD (Nat.le_of_ble_eq_true rfl) (Nat.le_of_ble_eq_true rfl) dX6_does_234 (rfl) (by rw [kDoes_no (by rw [h1_103]; decide) (by rw [h1_103]; decide) (by rw [h1_103]; decide) (by rw [h1_103]; decide) (by rw [h1_103]; decide) (by rw [h1_103]; decide), if_neg h218_39]; exact ⟨rfl, rfl⟩)
    · have h218_39 := zk_b1 h218_39
      obtain ⟨ak, eak, hak1, hak2⟩ := kwDays_0 ht40 h218_39
      subst eak
      have nak := nI_clamp (show ak < 2 ^ 31 by omega)
      refine lv_aload_n hx hb dX6_does_221 rfl (lv_at hl 0 rfl) ?_
      refine lv_iload_n hx hb dX6_does_222 rfl (lv_at hl 2 rfl) ?_
      have hP0 : va_P G.1 vwCl ((zb_r G q K) ++ (([] : va_W))) H := zk_Pperm hP (show (zb_r G q K).Perm ((zb_r G q K) ++ (([] : va_W))) from (show (zb_r G q K).Perm (zb_r G q K) from List.Perm.refl _).trans (List.Perm.of_eq (by simp only [List.append_assoc, List.append_nil, List.nil_append])))
      have hD0 : va_D A ((zb_r G q K) ++ (([] : va_W))) := zk_Dperm hD (show (zb_r G q K).Perm ((zb_r G q K) ++ (([] : va_W))) from (show (zb_r G q K).Perm (zb_r G q K) from List.Perm.refl _).trans (List.Perm.of_eq (by simp only [List.append_assoc, List.append_nil, List.nil_append])))
      refine zk_callI (wr := ([] : va_W)) (va_runS (As := [.ref q, .int (nI ak)]) (rest := []) ⟨hx, hb, hml, hown, hts⟩ (c_X6_daysOn l G q K n t hI ak (by omega) hp0 _) (cwS 2 hts gX6_does_X6_daysOn rfl rfl rfl (by decide +kernel) ⟨Nat.le_of_ble_eq_true rfl, Nat.le_of_ble_eq_true rfl⟩) (zk_preS hE hA0 hS (zk_Papp hP0).1 (zk_Dapp hD0).1) rfl rfl hl.1 rfl (lv_room (Nat.le_of_ble_eq_true rfl)) dX6_does_223 ⟨Nat.le_of_ble_eq_true rfl, Nat.le_of_ble_eq_true rfl⟩) hP0 hD0 hS hA (fun r41 u42 H locs q43 hP hD hS => ?_)
      obtain ⟨er41, eL44⟩ := q43
      have hI45 : sInv u42 n (t + ak) := by rw [eL44]; exact sInv_kDays hI _ (by omega)
      have hP : va_P G.1 vwCl (zb_r G q u42) H := zk_Pperm hP (show (zb_r G q u42).Perm ((zb_r G q u42) ++ (([] : va_W))) from (show (zb_r G q u42).Perm (zb_r G q u42) from List.Perm.refl _).trans (List.Perm.of_eq (by simp only [List.append_assoc, List.append_nil, List.nil_append]))).symm
      have hD : va_D A (zb_r G q u42) := zk_Dperm hD (show (zb_r G q u42).Perm ((zb_r G q u42) ++ (([] : va_W))) from (show (zb_r G q u42).Perm (zb_r G q u42) from List.Perm.refl _).trans (List.Perm.of_eq (by simp only [List.append_assoc, List.append_nil, List.nil_append]))).symm
      refine lv_if_lt (tgt := 233) hx hb dX6_does_226 (by decide) (fun h226_45 => ?_) (fun h226_45 => ?_)
      · exact absurd (by rw [← eL44, ← er41]; exact h226_45) (kDays_nn K ak hn12 hak2)
      · refine lv_iconst (v := nI 1) hx hb dX6_does_229 (by decide) ?_
        refine lv_goto (tgt := 234) hx hb dX6_does_230 (by decide) ?_
        exact zk_retz u42 hQ hx hb hr hlocks hS hP hD (Nat.le_of_ble_eq_true rfl) (Nat.le_of_ble_eq_true rfl) dX6_does_234 (rfl) (by rw [kDoes_no (by rw [h1_103]; decide) (by rw [h1_103]; decide) (by rw [h1_103]; decide) (by rw [h1_103]; decide) (by rw [h1_103]; decide) (by rw [h1_103]; decide), if_pos h218_39, nak]; exact ⟨rfl, eL44⟩)
  rcases Decidable.em (sg = nI 104) with h1_104 | h1_n104
  · refine lv_tableIn (tgt := 197) hx hb dX6_does_1 (by rw [h1_104]; decide) (by rw [h1_104]; decide) (by rw [h1_104]; rfl) (by decide) ?_
    obtain ⟨ak, hak, eak⟩ := sFam_nat (hd.2.2 h1_104)
    subst eak
    have nak := nI_clamp (show ak < 2 ^ 31 by omega)
    refine lv_aload_n hx hb dX6_does_197 rfl (lv_at hl 0 rfl) ?_
    refine lv_bipush (v := nI 105) hx hb dX6_does_198 (by decide) ?_
    refine lv_iload_n hx hb dX6_does_200 rfl (lv_at hl 2 rfl) ?_
    refine zk_iaddN hx hb dX6_does_201 ?_
    refine lv_iconst (v := nI 1) hx hb dX6_does_202 (by decide) ?_
    refine lv_aload_n hx hb dX6_does_203 rfl (lv_at hl 0 rfl) ?_
    refine lv_bipush (v := nI 105) hx hb dX6_does_204 (by decide) ?_
    refine lv_iload_n hx hb dX6_does_206 rfl (lv_at hl 2 rfl) ?_
    refine zk_iaddN hx hb dX6_does_207 ?_
    refine zk_ialdN hx hb hK hP 0 0 rfl rfl (k := (105 + ak)) (n := 1555) (by omega) (by omega) dX6_does_208 ?_
    refine zk_top (zrow_7 K (c := ak) (by omega)) ?_
    refine lv_isub hx hb dX6_does_209 ?_
    refine lv_topi (fun x47 ex47 => ?_)
    refine zk_iastN hx hb hK hP hD hS 0 0 rfl rfl (k := (105 + ak)) (n := 1555) (by omega) (by omega) dX6_does_210 (fun H locs hP hD hS => ?_)
    obtain ⟨L48, eL48⟩ : ∃ z : zL, z = up2 K 7 ak x47 := ⟨_, rfl⟩
    have hP : va_P G.1 vwCl (zb_r G q L48) H := by rw [eL48, show zb_r G q (up2 K 7 ak x47) = [zk_a q (G.2.1 0) 1555 (upd (zrow K) (105 + ak) x47)] from (congrArg (fun f => [zk_a q (G.2.1 0) 1555 f]) (zup_7 K x47 (by omega))).symm]; exact hP
    have hD : va_D A (zb_r G q L48) := by rw [eL48, show zb_r G q (up2 K 7 ak x47) = [zk_a q (G.2.1 0) 1555 (upd (zrow K) (105 + ak) x47)] from (congrArg (fun f => [zk_a q (G.2.1 0) 1555 f]) (zup_7 K x47 (by omega))).symm]; exact hD
    have hI49 : sInv L48 n t := by rw [eL48]; exact sInv_row hI rfl rfl rfl rfl
    refine lv_iconst (v := nI 1) hx hb dX6_does_211 (by decide) ?_
    exact zk_retz L48 hQ hx hb hr hlocks hS hP hD (Nat.le_of_ble_eq_true rfl) (Nat.le_of_ble_eq_true rfl) dX6_does_212 (rfl) (by rw [kDoes_104 h1_104, nak]; exact ⟨rfl, by rw [eL48, ex47]⟩)
  rcases Decidable.em (sg = nI 105) with h1_105 | h1_n105
  · refine lv_tableIn (tgt := 213) hx hb dX6_does_1 (by rw [h1_105]; decide) (by rw [h1_105]; decide) (by rw [h1_105]; rfl) (by decide) ?_
    refine lv_aload_n hx hb dX6_does_213 rfl (lv_at hl 0 rfl) ?_
    refine lv_iload_n hx hb dX6_does_214 rfl (lv_at hl 2 rfl) ?_
    have hP0 : va_P G.1 vwCl ((zb_r G q K) ++ (([] : va_W))) s.heap := zk_Pperm hP (show (zb_r G q K).Perm ((zb_r G q K) ++ (([] : va_W))) from (show (zb_r G q K).Perm (zb_r G q K) from List.Perm.refl _).trans (List.Perm.of_eq (by simp only [List.append_assoc, List.append_nil, List.nil_append])))
    have hD0 : va_D A ((zb_r G q K) ++ (([] : va_W))) := zk_Dperm hD (show (zb_r G q K).Perm ((zb_r G q K) ++ (([] : va_W))) from (show (zb_r G q K).Perm (zb_r G q K) from List.Perm.refl _).trans (List.Perm.of_eq (by simp only [List.append_assoc, List.append_nil, List.nil_append])))
    refine zk_callI (wr := ([] : va_W)) (va_runS (As := [.ref q, .int a]) (rest := []) ⟨hx, hb, hml, hown, hts⟩ (c_X6_canGoBy l G q K n t hI a _) (cwS 2 hts gX6_does_X6_canGoBy rfl rfl rfl (by decide +kernel) ⟨Nat.le_of_ble_eq_true rfl, Nat.le_of_ble_eq_true rfl⟩) (zk_preS hE hA0 hS (zk_Papp hP0).1 (zk_Dapp hD0).1) rfl rfl hl.1 rfl (lv_room (Nat.le_of_ble_eq_true rfl)) dX6_does_215 ⟨Nat.le_of_ble_eq_true rfl, Nat.le_of_ble_eq_true rfl⟩) hP0 hD0 hS hA (fun r50 u51 H locs q52 hP hD hS => ?_)
    subst q52
    have hP : va_P G.1 vwCl (zb_r G q K) H := zk_Pperm hP (show (zb_r G q K).Perm ((zb_r G q K) ++ (([] : va_W))) from (show (zb_r G q K).Perm (zb_r G q K) from List.Perm.refl _).trans (List.Perm.of_eq (by simp only [List.append_assoc, List.append_nil, List.nil_append]))).symm
    have hD : va_D A (zb_r G q K) := zk_Dperm hD (show (zb_r G q K).Perm ((zb_r G q K) ++ (([] : va_W))) from (show (zb_r G q K).Perm (zb_r G q K) from List.Perm.refl _).trans (List.Perm.of_eq (by simp only [List.append_assoc, List.append_nil, List.nil_append]))).symm
    refine lv_if_eq (tgt := 233) hx hb dX6_does_218 (by decide) (fun h218_52 => ?_) (fun h218_52 => ?_)
    · have h218_52 := zk_b0 h218_52
      refine lv_iconst (v := nI 0) hx hb dX6_does_233 (by decide) ?_
      exact zk_retz K hQ hx hb hr hlocks hS hP hD (Nat.le_of_ble_eq_true rfl) (Nat.le_of_ble_eq_true rfl) dX6_does_234 (rfl) (by rw [kDoes_no (by rw [h1_105]; decide) (by rw [h1_105]; decide) (by rw [h1_105]; decide) (by rw [h1_105]; decide) (by rw [h1_105]; decide) (by rw [h1_105]; decide), if_neg h218_52]; exact ⟨rfl, rfl⟩)
    · have h218_52 := zk_b1 h218_52
      obtain ⟨ak, eak, hak1, hak2⟩ := kwDays_0 ht40 h218_52
      subst eak
      have nak := nI_clamp (show ak < 2 ^ 31 by omega)
      refine lv_aload_n hx hb dX6_does_221 rfl (lv_at hl 0 rfl) ?_
      refine lv_iload_n hx hb dX6_does_222 rfl (lv_at hl 2 rfl) ?_
      have hP0 : va_P G.1 vwCl ((zb_r G q K) ++ (([] : va_W))) H := zk_Pperm hP (show (zb_r G q K).Perm ((zb_r G q K) ++ (([] : va_W))) from (show (zb_r G q K).Perm (zb_r G q K) from List.Perm.refl _).trans (List.Perm.of_eq (by simp only [List.append_assoc, List.append_nil, List.nil_append])))
      have hD0 : va_D A ((zb_r G q K) ++ (([] : va_W))) := zk_Dperm hD (show (zb_r G q K).Perm ((zb_r G q K) ++ (([] : va_W))) from (show (zb_r G q K).Perm (zb_r G q K) from List.Perm.refl _).trans (List.Perm.of_eq (by simp only [List.append_assoc, List.append_nil, List.nil_append])))
      refine zk_callI (wr := ([] : va_W)) (va_runS (As := [.ref q, .int (nI ak)]) (rest := []) ⟨hx, hb, hml, hown, hts⟩ (c_X6_daysOn l G q K n t hI ak (by omega) hp0 _) (cwS 2 hts gX6_does_X6_daysOn rfl rfl rfl (by decide +kernel) ⟨Nat.le_of_ble_eq_true rfl, Nat.le_of_ble_eq_true rfl⟩) (zk_preS hE hA0 hS (zk_Papp hP0).1 (zk_Dapp hD0).1) rfl rfl hl.1 rfl (lv_room (Nat.le_of_ble_eq_true rfl)) dX6_does_223 ⟨Nat.le_of_ble_eq_true rfl, Nat.le_of_ble_eq_true rfl⟩) hP0 hD0 hS hA (fun r54 u55 H locs q56 hP hD hS => ?_)
      obtain ⟨er54, eL57⟩ := q56
      have hI58 : sInv u55 n (t + ak) := by rw [eL57]; exact sInv_kDays hI _ (by omega)
      have hP : va_P G.1 vwCl (zb_r G q u55) H := zk_Pperm hP (show (zb_r G q u55).Perm ((zb_r G q u55) ++ (([] : va_W))) from (show (zb_r G q u55).Perm (zb_r G q u55) from List.Perm.refl _).trans (List.Perm.of_eq (by simp only [List.append_assoc, List.append_nil, List.nil_append]))).symm
      have hD : va_D A (zb_r G q u55) := zk_Dperm hD (show (zb_r G q u55).Perm ((zb_r G q u55) ++ (([] : va_W))) from (show (zb_r G q u55).Perm (zb_r G q u55) from List.Perm.refl _).trans (List.Perm.of_eq (by simp only [List.append_assoc, List.append_nil, List.nil_append]))).symm
      refine lv_if_lt (tgt := 233) hx hb dX6_does_226 (by decide) (fun h226_58 => ?_) (fun h226_58 => ?_)
      · exact absurd (by rw [← eL57, ← er54]; exact h226_58) (kDays_nn K ak hn12 hak2)
      · refine lv_iconst (v := nI 1) hx hb dX6_does_229 (by decide) ?_
        refine lv_goto (tgt := 234) hx hb dX6_does_230 (by decide) ?_
        exact zk_retz u55 hQ hx hb hr hlocks hS hP hD (Nat.le_of_ble_eq_true rfl) (Nat.le_of_ble_eq_true rfl) dX6_does_234 (rfl) (by rw [kDoes_no (by rw [h1_105]; decide) (by rw [h1_105]; decide) (by rw [h1_105]; decide) (by rw [h1_105]; decide) (by rw [h1_105]; decide) (by rw [h1_105]; decide), if_pos h218_52, nak]; exact ⟨rfl, eL57⟩)
  rcases Decidable.em (sg = nI 106) with h1_106 | h1_n106
  · refine lv_tableIn (tgt := 213) hx hb dX6_does_1 (by rw [h1_106]; decide) (by rw [h1_106]; decide) (by rw [h1_106]; rfl) (by decide) ?_
    refine lv_aload_n hx hb dX6_does_213 rfl (lv_at hl 0 rfl) ?_
    refine lv_iload_n hx hb dX6_does_214 rfl (lv_at hl 2 rfl) ?_
    have hP0 : va_P G.1 vwCl ((zb_r G q K) ++ (([] : va_W))) s.heap := zk_Pperm hP (show (zb_r G q K).Perm ((zb_r G q K) ++ (([] : va_W))) from (show (zb_r G q K).Perm (zb_r G q K) from List.Perm.refl _).trans (List.Perm.of_eq (by simp only [List.append_assoc, List.append_nil, List.nil_append])))
    have hD0 : va_D A ((zb_r G q K) ++ (([] : va_W))) := zk_Dperm hD (show (zb_r G q K).Perm ((zb_r G q K) ++ (([] : va_W))) from (show (zb_r G q K).Perm (zb_r G q K) from List.Perm.refl _).trans (List.Perm.of_eq (by simp only [List.append_assoc, List.append_nil, List.nil_append])))
    refine zk_callI (wr := ([] : va_W)) (va_runS (As := [.ref q, .int a]) (rest := []) ⟨hx, hb, hml, hown, hts⟩ (c_X6_canGoBy l G q K n t hI a _) (cwS 2 hts gX6_does_X6_canGoBy rfl rfl rfl (by decide +kernel) ⟨Nat.le_of_ble_eq_true rfl, Nat.le_of_ble_eq_true rfl⟩) (zk_preS hE hA0 hS (zk_Papp hP0).1 (zk_Dapp hD0).1) rfl rfl hl.1 rfl (lv_room (Nat.le_of_ble_eq_true rfl)) dX6_does_215 ⟨Nat.le_of_ble_eq_true rfl, Nat.le_of_ble_eq_true rfl⟩) hP0 hD0 hS hA (fun r60 u61 H locs q62 hP hD hS => ?_)
    subst q62
    have hP : va_P G.1 vwCl (zb_r G q K) H := zk_Pperm hP (show (zb_r G q K).Perm ((zb_r G q K) ++ (([] : va_W))) from (show (zb_r G q K).Perm (zb_r G q K) from List.Perm.refl _).trans (List.Perm.of_eq (by simp only [List.append_assoc, List.append_nil, List.nil_append]))).symm
    have hD : va_D A (zb_r G q K) := zk_Dperm hD (show (zb_r G q K).Perm ((zb_r G q K) ++ (([] : va_W))) from (show (zb_r G q K).Perm (zb_r G q K) from List.Perm.refl _).trans (List.Perm.of_eq (by simp only [List.append_assoc, List.append_nil, List.nil_append]))).symm
    refine lv_if_eq (tgt := 233) hx hb dX6_does_218 (by decide) (fun h218_62 => ?_) (fun h218_62 => ?_)
    · have h218_62 := zk_b0 h218_62
      refine lv_iconst (v := nI 0) hx hb dX6_does_233 (by decide) ?_
      exact zk_retz K hQ hx hb hr hlocks hS hP hD (Nat.le_of_ble_eq_true rfl) (Nat.le_of_ble_eq_true rfl) dX6_does_234 (rfl) (by rw [kDoes_no (by rw [h1_106]; decide) (by rw [h1_106]; decide) (by rw [h1_106]; decide) (by rw [h1_106]; decide) (by rw [h1_106]; decide) (by rw [h1_106]; decide), if_neg h218_62]; exact ⟨rfl, rfl⟩)
    · have h218_62 := zk_b1 h218_62
      obtain ⟨ak, eak, hak1, hak2⟩ := kwDays_0 ht40 h218_62
      subst eak
      have nak := nI_clamp (show ak < 2 ^ 31 by omega)
      refine lv_aload_n hx hb dX6_does_221 rfl (lv_at hl 0 rfl) ?_
      refine lv_iload_n hx hb dX6_does_222 rfl (lv_at hl 2 rfl) ?_
      have hP0 : va_P G.1 vwCl ((zb_r G q K) ++ (([] : va_W))) H := zk_Pperm hP (show (zb_r G q K).Perm ((zb_r G q K) ++ (([] : va_W))) from (show (zb_r G q K).Perm (zb_r G q K) from List.Perm.refl _).trans (List.Perm.of_eq (by simp only [List.append_assoc, List.append_nil, List.nil_append])))
      have hD0 : va_D A ((zb_r G q K) ++ (([] : va_W))) := zk_Dperm hD (show (zb_r G q K).Perm ((zb_r G q K) ++ (([] : va_W))) from (show (zb_r G q K).Perm (zb_r G q K) from List.Perm.refl _).trans (List.Perm.of_eq (by simp only [List.append_assoc, List.append_nil, List.nil_append])))
      refine zk_callI (wr := ([] : va_W)) (va_runS (As := [.ref q, .int (nI ak)]) (rest := []) ⟨hx, hb, hml, hown, hts⟩ (c_X6_daysOn l G q K n t hI ak (by omega) hp0 _) (cwS 2 hts gX6_does_X6_daysOn rfl rfl rfl (by decide +kernel) ⟨Nat.le_of_ble_eq_true rfl, Nat.le_of_ble_eq_true rfl⟩) (zk_preS hE hA0 hS (zk_Papp hP0).1 (zk_Dapp hD0).1) rfl rfl hl.1 rfl (lv_room (Nat.le_of_ble_eq_true rfl)) dX6_does_223 ⟨Nat.le_of_ble_eq_true rfl, Nat.le_of_ble_eq_true rfl⟩) hP0 hD0 hS hA (fun r64 u65 H locs q66 hP hD hS => ?_)
      obtain ⟨er64, eL67⟩ := q66
      have hI68 : sInv u65 n (t + ak) := by rw [eL67]; exact sInv_kDays hI _ (by omega)
      have hP : va_P G.1 vwCl (zb_r G q u65) H := zk_Pperm hP (show (zb_r G q u65).Perm ((zb_r G q u65) ++ (([] : va_W))) from (show (zb_r G q u65).Perm (zb_r G q u65) from List.Perm.refl _).trans (List.Perm.of_eq (by simp only [List.append_assoc, List.append_nil, List.nil_append]))).symm
      have hD : va_D A (zb_r G q u65) := zk_Dperm hD (show (zb_r G q u65).Perm ((zb_r G q u65) ++ (([] : va_W))) from (show (zb_r G q u65).Perm (zb_r G q u65) from List.Perm.refl _).trans (List.Perm.of_eq (by simp only [List.append_assoc, List.append_nil, List.nil_append]))).symm
      refine lv_if_lt (tgt := 233) hx hb dX6_does_226 (by decide) (fun h226_68 => ?_) (fun h226_68 => ?_)
      · exact absurd (by rw [← eL67, ← er64]; exact h226_68) (kDays_nn K ak hn12 hak2)
      · refine lv_iconst (v := nI 1) hx hb dX6_does_229 (by decide) ?_
        refine lv_goto (tgt := 234) hx hb dX6_does_230 (by decide) ?_
        exact zk_retz u65 hQ hx hb hr hlocks hS hP hD (Nat.le_of_ble_eq_true rfl) (Nat.le_of_ble_eq_true rfl) dX6_does_234 (rfl) (by rw [kDoes_no (by rw [h1_106]; decide) (by rw [h1_106]; decide) (by rw [h1_106]; decide) (by rw [h1_106]; decide) (by rw [h1_106]; decide) (by rw [h1_106]; decide), if_pos h218_62, nak]; exact ⟨rfl, eL67⟩)
  rcases Decidable.em (sg = nI 107) with h1_107 | h1_n107
  · refine lv_tableIn (tgt := 213) hx hb dX6_does_1 (by rw [h1_107]; decide) (by rw [h1_107]; decide) (by rw [h1_107]; rfl) (by decide) ?_
    refine lv_aload_n hx hb dX6_does_213 rfl (lv_at hl 0 rfl) ?_
    refine lv_iload_n hx hb dX6_does_214 rfl (lv_at hl 2 rfl) ?_
    have hP0 : va_P G.1 vwCl ((zb_r G q K) ++ (([] : va_W))) s.heap := zk_Pperm hP (show (zb_r G q K).Perm ((zb_r G q K) ++ (([] : va_W))) from (show (zb_r G q K).Perm (zb_r G q K) from List.Perm.refl _).trans (List.Perm.of_eq (by simp only [List.append_assoc, List.append_nil, List.nil_append])))
    have hD0 : va_D A ((zb_r G q K) ++ (([] : va_W))) := zk_Dperm hD (show (zb_r G q K).Perm ((zb_r G q K) ++ (([] : va_W))) from (show (zb_r G q K).Perm (zb_r G q K) from List.Perm.refl _).trans (List.Perm.of_eq (by simp only [List.append_assoc, List.append_nil, List.nil_append])))
    refine zk_callI (wr := ([] : va_W)) (va_runS (As := [.ref q, .int a]) (rest := []) ⟨hx, hb, hml, hown, hts⟩ (c_X6_canGoBy l G q K n t hI a _) (cwS 2 hts gX6_does_X6_canGoBy rfl rfl rfl (by decide +kernel) ⟨Nat.le_of_ble_eq_true rfl, Nat.le_of_ble_eq_true rfl⟩) (zk_preS hE hA0 hS (zk_Papp hP0).1 (zk_Dapp hD0).1) rfl rfl hl.1 rfl (lv_room (Nat.le_of_ble_eq_true rfl)) dX6_does_215 ⟨Nat.le_of_ble_eq_true rfl, Nat.le_of_ble_eq_true rfl⟩) hP0 hD0 hS hA (fun r70 u71 H locs q72 hP hD hS => ?_)
    subst q72
    have hP : va_P G.1 vwCl (zb_r G q K) H := zk_Pperm hP (show (zb_r G q K).Perm ((zb_r G q K) ++ (([] : va_W))) from (show (zb_r G q K).Perm (zb_r G q K) from List.Perm.refl _).trans (List.Perm.of_eq (by simp only [List.append_assoc, List.append_nil, List.nil_append]))).symm
    have hD : va_D A (zb_r G q K) := zk_Dperm hD (show (zb_r G q K).Perm ((zb_r G q K) ++ (([] : va_W))) from (show (zb_r G q K).Perm (zb_r G q K) from List.Perm.refl _).trans (List.Perm.of_eq (by simp only [List.append_assoc, List.append_nil, List.nil_append]))).symm
    refine lv_if_eq (tgt := 233) hx hb dX6_does_218 (by decide) (fun h218_72 => ?_) (fun h218_72 => ?_)
    · have h218_72 := zk_b0 h218_72
      refine lv_iconst (v := nI 0) hx hb dX6_does_233 (by decide) ?_
      exact zk_retz K hQ hx hb hr hlocks hS hP hD (Nat.le_of_ble_eq_true rfl) (Nat.le_of_ble_eq_true rfl) dX6_does_234 (rfl) (by rw [kDoes_no (by rw [h1_107]; decide) (by rw [h1_107]; decide) (by rw [h1_107]; decide) (by rw [h1_107]; decide) (by rw [h1_107]; decide) (by rw [h1_107]; decide), if_neg h218_72]; exact ⟨rfl, rfl⟩)
    · have h218_72 := zk_b1 h218_72
      obtain ⟨ak, eak, hak1, hak2⟩ := kwDays_0 ht40 h218_72
      subst eak
      have nak := nI_clamp (show ak < 2 ^ 31 by omega)
      refine lv_aload_n hx hb dX6_does_221 rfl (lv_at hl 0 rfl) ?_
      refine lv_iload_n hx hb dX6_does_222 rfl (lv_at hl 2 rfl) ?_
      have hP0 : va_P G.1 vwCl ((zb_r G q K) ++ (([] : va_W))) H := zk_Pperm hP (show (zb_r G q K).Perm ((zb_r G q K) ++ (([] : va_W))) from (show (zb_r G q K).Perm (zb_r G q K) from List.Perm.refl _).trans (List.Perm.of_eq (by simp only [List.append_assoc, List.append_nil, List.nil_append])))
      have hD0 : va_D A ((zb_r G q K) ++ (([] : va_W))) := zk_Dperm hD (show (zb_r G q K).Perm ((zb_r G q K) ++ (([] : va_W))) from (show (zb_r G q K).Perm (zb_r G q K) from List.Perm.refl _).trans (List.Perm.of_eq (by simp only [List.append_assoc, List.append_nil, List.nil_append])))
      refine zk_callI (wr := ([] : va_W)) (va_runS (As := [.ref q, .int (nI ak)]) (rest := []) ⟨hx, hb, hml, hown, hts⟩ (c_X6_daysOn l G q K n t hI ak (by omega) hp0 _) (cwS 2 hts gX6_does_X6_daysOn rfl rfl rfl (by decide +kernel) ⟨Nat.le_of_ble_eq_true rfl, Nat.le_of_ble_eq_true rfl⟩) (zk_preS hE hA0 hS (zk_Papp hP0).1 (zk_Dapp hD0).1) rfl rfl hl.1 rfl (lv_room (Nat.le_of_ble_eq_true rfl)) dX6_does_223 ⟨Nat.le_of_ble_eq_true rfl, Nat.le_of_ble_eq_true rfl⟩) hP0 hD0 hS hA (fun r74 u75 H locs q76 hP hD hS => ?_)
      obtain ⟨er74, eL77⟩ := q76
      have hI78 : sInv u75 n (t + ak) := by rw [eL77]; exact sInv_kDays hI _ (by omega)
      have hP : va_P G.1 vwCl (zb_r G q u75) H := zk_Pperm hP (show (zb_r G q u75).Perm ((zb_r G q u75) ++ (([] : va_W))) from (show (zb_r G q u75).Perm (zb_r G q u75) from List.Perm.refl _).trans (List.Perm.of_eq (by simp only [List.append_assoc, List.append_nil, List.nil_append]))).symm
      have hD : va_D A (zb_r G q u75) := zk_Dperm hD (show (zb_r G q u75).Perm ((zb_r G q u75) ++ (([] : va_W))) from (show (zb_r G q u75).Perm (zb_r G q u75) from List.Perm.refl _).trans (List.Perm.of_eq (by simp only [List.append_assoc, List.append_nil, List.nil_append]))).symm
      refine lv_if_lt (tgt := 233) hx hb dX6_does_226 (by decide) (fun h226_78 => ?_) (fun h226_78 => ?_)
      · exact absurd (by rw [← eL77, ← er74]; exact h226_78) (kDays_nn K ak hn12 hak2)
      · refine lv_iconst (v := nI 1) hx hb dX6_does_229 (by decide) ?_
        refine lv_goto (tgt := 234) hx hb dX6_does_230 (by decide) ?_
        exact zk_retz u75 hQ hx hb hr hlocks hS hP hD (Nat.le_of_ble_eq_true rfl) (Nat.le_of_ble_eq_true rfl) dX6_does_234 (rfl) (by rw [kDoes_no (by rw [h1_107]; decide) (by rw [h1_107]; decide) (by rw [h1_107]; decide) (by rw [h1_107]; decide) (by rw [h1_107]; decide) (by rw [h1_107]; decide), if_pos h218_72, nak]; exact ⟨rfl, eL77⟩)
  rcases Decidable.em (sg = nI 108) with h1_108 | h1_n108
  · refine lv_tableIn (tgt := 213) hx hb dX6_does_1 (by rw [h1_108]; decide) (by rw [h1_108]; decide) (by rw [h1_108]; rfl) (by decide) ?_
    refine lv_aload_n hx hb dX6_does_213 rfl (lv_at hl 0 rfl) ?_
    refine lv_iload_n hx hb dX6_does_214 rfl (lv_at hl 2 rfl) ?_
    have hP0 : va_P G.1 vwCl ((zb_r G q K) ++ (([] : va_W))) s.heap := zk_Pperm hP (show (zb_r G q K).Perm ((zb_r G q K) ++ (([] : va_W))) from (show (zb_r G q K).Perm (zb_r G q K) from List.Perm.refl _).trans (List.Perm.of_eq (by simp only [List.append_assoc, List.append_nil, List.nil_append])))
    have hD0 : va_D A ((zb_r G q K) ++ (([] : va_W))) := zk_Dperm hD (show (zb_r G q K).Perm ((zb_r G q K) ++ (([] : va_W))) from (show (zb_r G q K).Perm (zb_r G q K) from List.Perm.refl _).trans (List.Perm.of_eq (by simp only [List.append_assoc, List.append_nil, List.nil_append])))
    refine zk_callI (wr := ([] : va_W)) (va_runS (As := [.ref q, .int a]) (rest := []) ⟨hx, hb, hml, hown, hts⟩ (c_X6_canGoBy l G q K n t hI a _) (cwS 2 hts gX6_does_X6_canGoBy rfl rfl rfl (by decide +kernel) ⟨Nat.le_of_ble_eq_true rfl, Nat.le_of_ble_eq_true rfl⟩) (zk_preS hE hA0 hS (zk_Papp hP0).1 (zk_Dapp hD0).1) rfl rfl hl.1 rfl (lv_room (Nat.le_of_ble_eq_true rfl)) dX6_does_215 ⟨Nat.le_of_ble_eq_true rfl, Nat.le_of_ble_eq_true rfl⟩) hP0 hD0 hS hA (fun r80 u81 H locs q82 hP hD hS => ?_)
    subst q82
    have hP : va_P G.1 vwCl (zb_r G q K) H := zk_Pperm hP (show (zb_r G q K).Perm ((zb_r G q K) ++ (([] : va_W))) from (show (zb_r G q K).Perm (zb_r G q K) from List.Perm.refl _).trans (List.Perm.of_eq (by simp only [List.append_assoc, List.append_nil, List.nil_append]))).symm
    have hD : va_D A (zb_r G q K) := zk_Dperm hD (show (zb_r G q K).Perm ((zb_r G q K) ++ (([] : va_W))) from (show (zb_r G q K).Perm (zb_r G q K) from List.Perm.refl _).trans (List.Perm.of_eq (by simp only [List.append_assoc, List.append_nil, List.nil_append]))).symm
    refine lv_if_eq (tgt := 233) hx hb dX6_does_218 (by decide) (fun h218_82 => ?_) (fun h218_82 => ?_)
    · have h218_82 := zk_b0 h218_82
      refine lv_iconst (v := nI 0) hx hb dX6_does_233 (by decide) ?_
      exact zk_retz K hQ hx hb hr hlocks hS hP hD (Nat.le_of_ble_eq_true rfl) (Nat.le_of_ble_eq_true rfl) dX6_does_234 (rfl) (by rw [kDoes_no (by rw [h1_108]; decide) (by rw [h1_108]; decide) (by rw [h1_108]; decide) (by rw [h1_108]; decide) (by rw [h1_108]; decide) (by rw [h1_108]; decide), if_neg h218_82]; exact ⟨rfl, rfl⟩)
    · have h218_82 := zk_b1 h218_82
      obtain ⟨ak, eak, hak1, hak2⟩ := kwDays_0 ht40 h218_82
      subst eak
      have nak := nI_clamp (show ak < 2 ^ 31 by omega)
      refine lv_aload_n hx hb dX6_does_221 rfl (lv_at hl 0 rfl) ?_
      refine lv_iload_n hx hb dX6_does_222 rfl (lv_at hl 2 rfl) ?_
      have hP0 : va_P G.1 vwCl ((zb_r G q K) ++ (([] : va_W))) H := zk_Pperm hP (show (zb_r G q K).Perm ((zb_r G q K) ++ (([] : va_W))) from (show (zb_r G q K).Perm (zb_r G q K) from List.Perm.refl _).trans (List.Perm.of_eq (by simp only [List.append_assoc, List.append_nil, List.nil_append])))
      have hD0 : va_D A ((zb_r G q K) ++ (([] : va_W))) := zk_Dperm hD (show (zb_r G q K).Perm ((zb_r G q K) ++ (([] : va_W))) from (show (zb_r G q K).Perm (zb_r G q K) from List.Perm.refl _).trans (List.Perm.of_eq (by simp only [List.append_assoc, List.append_nil, List.nil_append])))
      refine zk_callI (wr := ([] : va_W)) (va_runS (As := [.ref q, .int (nI ak)]) (rest := []) ⟨hx, hb, hml, hown, hts⟩ (c_X6_daysOn l G q K n t hI ak (by omega) hp0 _) (cwS 2 hts gX6_does_X6_daysOn rfl rfl rfl (by decide +kernel) ⟨Nat.le_of_ble_eq_true rfl, Nat.le_of_ble_eq_true rfl⟩) (zk_preS hE hA0 hS (zk_Papp hP0).1 (zk_Dapp hD0).1) rfl rfl hl.1 rfl (lv_room (Nat.le_of_ble_eq_true rfl)) dX6_does_223 ⟨Nat.le_of_ble_eq_true rfl, Nat.le_of_ble_eq_true rfl⟩) hP0 hD0 hS hA (fun r84 u85 H locs q86 hP hD hS => ?_)
      obtain ⟨er84, eL87⟩ := q86
      have hI88 : sInv u85 n (t + ak) := by rw [eL87]; exact sInv_kDays hI _ (by omega)
      have hP : va_P G.1 vwCl (zb_r G q u85) H := zk_Pperm hP (show (zb_r G q u85).Perm ((zb_r G q u85) ++ (([] : va_W))) from (show (zb_r G q u85).Perm (zb_r G q u85) from List.Perm.refl _).trans (List.Perm.of_eq (by simp only [List.append_assoc, List.append_nil, List.nil_append]))).symm
      have hD : va_D A (zb_r G q u85) := zk_Dperm hD (show (zb_r G q u85).Perm ((zb_r G q u85) ++ (([] : va_W))) from (show (zb_r G q u85).Perm (zb_r G q u85) from List.Perm.refl _).trans (List.Perm.of_eq (by simp only [List.append_assoc, List.append_nil, List.nil_append]))).symm
      refine lv_if_lt (tgt := 233) hx hb dX6_does_226 (by decide) (fun h226_88 => ?_) (fun h226_88 => ?_)
      · exact absurd (by rw [← eL87, ← er84]; exact h226_88) (kDays_nn K ak hn12 hak2)
      · refine lv_iconst (v := nI 1) hx hb dX6_does_229 (by decide) ?_
        refine lv_goto (tgt := 234) hx hb dX6_does_230 (by decide) ?_
        exact zk_retz u85 hQ hx hb hr hlocks hS hP hD (Nat.le_of_ble_eq_true rfl) (Nat.le_of_ble_eq_true rfl) dX6_does_234 (rfl) (by rw [kDoes_no (by rw [h1_108]; decide) (by rw [h1_108]; decide) (by rw [h1_108]; decide) (by rw [h1_108]; decide) (by rw [h1_108]; decide) (by rw [h1_108]; decide), if_pos h218_82, nak]; exact ⟨rfl, eL87⟩)
  rcases Decidable.em (sg = nI 109) with h1_109 | h1_n109
  · refine lv_tableIn (tgt := 95) hx hb dX6_does_1 (by rw [h1_109]; decide) (by rw [h1_109]; decide) (by rw [h1_109]; rfl) (by decide) ?_
    refine lv_iload_n hx hb dX6_does_95 rfl (lv_at hl 2 rfl) ?_
    refine lv_aload_n hx hb dX6_does_96 rfl (lv_at hl 0 rfl) ?_
    refine lv_iconst (v := nI 0) hx hb dX6_does_97 (by decide) ?_
    refine zk_ialdN hx hb hK hP 0 0 rfl rfl (k := 0) (n := 1555) (by omega) (by omega) dX6_does_98 ?_
    refine zk_top (zrow_l K (c := 0) (by omega)) ?_
    refine zk_top hI.2.2.1 ?_
    refine lv_icmp_ge (tgt := 104) hx hb dX6_does_99 (by decide) (fun h99_89 => ?_) (fun h99_89 => ?_)
    · have h99_89 := zk_l1 h99_89
      obtain ⟨ak, hak, eak⟩ := sDay_nat (hd.2.1 h1_109)
      subst eak
      have nak := nI_clamp (show ak < 2 ^ 31 by omega)
      refine lv_aload_n hx hb dX6_does_104 rfl (lv_at hl 0 rfl) ?_
      refine lv_iconst (v := nI 5) hx hb dX6_does_105 (by decide) ?_
      refine lv_iload_n hx hb dX6_does_106 rfl (lv_at hl 2 rfl) ?_
      refine zk_iaddN hx hb dX6_does_107 ?_
      refine lv_iload_n hx hb dX6_does_108 rfl (lv_at hl 3 rfl) ?_
      refine zk_iastN hx hb hK hP hD hS 0 0 rfl rfl (k := (5 + ak)) (n := 1555) (by omega) (by omega) dX6_does_109 (fun H locs hP hD hS => ?_)
      obtain ⟨L91, eL91⟩ : ∃ z : zL, z = up2 K 6 ak b := ⟨_, rfl⟩
      have hP : va_P G.1 vwCl (zb_r G q L91) H := by rw [eL91, show zb_r G q (up2 K 6 ak b) = [zk_a q (G.2.1 0) 1555 (upd (zrow K) (5 + ak) b)] from (congrArg (fun f => [zk_a q (G.2.1 0) 1555 f]) (zup_6 K b (by omega))).symm]; exact hP
      have hD : va_D A (zb_r G q L91) := by rw [eL91, show zb_r G q (up2 K 6 ak b) = [zk_a q (G.2.1 0) 1555 (upd (zrow K) (5 + ak) b)] from (congrArg (fun f => [zk_a q (G.2.1 0) 1555 f]) (zup_6 K b (by omega))).symm]; exact hD
      have hI92 : sInv L91 n t := by rw [eL91]; exact sInv_row hI rfl rfl rfl rfl
      refine lv_iconst (v := nI 1) hx hb dX6_does_110 (by decide) ?_
      exact zk_retz L91 hQ hx hb hr hlocks hS hP hD (Nat.le_of_ble_eq_true rfl) (Nat.le_of_ble_eq_true rfl) dX6_does_111 (rfl) (by rw [kDoes_109 h1_109, if_neg h99_89, nak]; exact ⟨rfl, eL91⟩)
    · have h99_89 := zk_l2 h99_89
      refine lv_iconst (v := nI 0) hx hb dX6_does_102 (by decide) ?_
      exact zk_retz K hQ hx hb hr hlocks hS hP hD (Nat.le_of_ble_eq_true rfl) (Nat.le_of_ble_eq_true rfl) dX6_does_103 (rfl) (by rw [kDoes_109 h1_109, if_pos h99_89]; exact ⟨rfl, rfl⟩)
  rcases Decidable.em (sg = nI 110) with h1_110 | h1_n110
  · refine lv_tableIn (tgt := 213) hx hb dX6_does_1 (by rw [h1_110]; decide) (by rw [h1_110]; decide) (by rw [h1_110]; rfl) (by decide) ?_
    refine lv_aload_n hx hb dX6_does_213 rfl (lv_at hl 0 rfl) ?_
    refine lv_iload_n hx hb dX6_does_214 rfl (lv_at hl 2 rfl) ?_
    have hP0 : va_P G.1 vwCl ((zb_r G q K) ++ (([] : va_W))) s.heap := zk_Pperm hP (show (zb_r G q K).Perm ((zb_r G q K) ++ (([] : va_W))) from (show (zb_r G q K).Perm (zb_r G q K) from List.Perm.refl _).trans (List.Perm.of_eq (by simp only [List.append_assoc, List.append_nil, List.nil_append])))
    have hD0 : va_D A ((zb_r G q K) ++ (([] : va_W))) := zk_Dperm hD (show (zb_r G q K).Perm ((zb_r G q K) ++ (([] : va_W))) from (show (zb_r G q K).Perm (zb_r G q K) from List.Perm.refl _).trans (List.Perm.of_eq (by simp only [List.append_assoc, List.append_nil, List.nil_append])))
    refine zk_callI (wr := ([] : va_W)) (va_runS (As := [.ref q, .int a]) (rest := []) ⟨hx, hb, hml, hown, hts⟩ (c_X6_canGoBy l G q K n t hI a _) (cwS 2 hts gX6_does_X6_canGoBy rfl rfl rfl (by decide +kernel) ⟨Nat.le_of_ble_eq_true rfl, Nat.le_of_ble_eq_true rfl⟩) (zk_preS hE hA0 hS (zk_Papp hP0).1 (zk_Dapp hD0).1) rfl rfl hl.1 rfl (lv_room (Nat.le_of_ble_eq_true rfl)) dX6_does_215 ⟨Nat.le_of_ble_eq_true rfl, Nat.le_of_ble_eq_true rfl⟩) hP0 hD0 hS hA (fun r93 u94 H locs q95 hP hD hS => ?_)
    subst q95
    have hP : va_P G.1 vwCl (zb_r G q K) H := zk_Pperm hP (show (zb_r G q K).Perm ((zb_r G q K) ++ (([] : va_W))) from (show (zb_r G q K).Perm (zb_r G q K) from List.Perm.refl _).trans (List.Perm.of_eq (by simp only [List.append_assoc, List.append_nil, List.nil_append]))).symm
    have hD : va_D A (zb_r G q K) := zk_Dperm hD (show (zb_r G q K).Perm ((zb_r G q K) ++ (([] : va_W))) from (show (zb_r G q K).Perm (zb_r G q K) from List.Perm.refl _).trans (List.Perm.of_eq (by simp only [List.append_assoc, List.append_nil, List.nil_append]))).symm
    refine lv_if_eq (tgt := 233) hx hb dX6_does_218 (by decide) (fun h218_95 => ?_) (fun h218_95 => ?_)
    · have h218_95 := zk_b0 h218_95
      refine lv_iconst (v := nI 0) hx hb dX6_does_233 (by decide) ?_
      exact zk_retz K hQ hx hb hr hlocks hS hP hD (Nat.le_of_ble_eq_true rfl) (Nat.le_of_ble_eq_true rfl) dX6_does_234 (rfl) (by rw [kDoes_no (by rw [h1_110]; decide) (by rw [h1_110]; decide) (by rw [h1_110]; decide) (by rw [h1_110]; decide) (by rw [h1_110]; decide) (by rw [h1_110]; decide), if_neg h218_95]; exact ⟨rfl, rfl⟩)
    · have h218_95 := zk_b1 h218_95
      obtain ⟨ak, eak, hak1, hak2⟩ := kwDays_0 ht40 h218_95
      subst eak
      have nak := nI_clamp (show ak < 2 ^ 31 by omega)
      refine lv_aload_n hx hb dX6_does_221 rfl (lv_at hl 0 rfl) ?_
      refine lv_iload_n hx hb dX6_does_222 rfl (lv_at hl 2 rfl) ?_
      have hP0 : va_P G.1 vwCl ((zb_r G q K) ++ (([] : va_W))) H := zk_Pperm hP (show (zb_r G q K).Perm ((zb_r G q K) ++ (([] : va_W))) from (show (zb_r G q K).Perm (zb_r G q K) from List.Perm.refl _).trans (List.Perm.of_eq (by simp only [List.append_assoc, List.append_nil, List.nil_append])))
      have hD0 : va_D A ((zb_r G q K) ++ (([] : va_W))) := zk_Dperm hD (show (zb_r G q K).Perm ((zb_r G q K) ++ (([] : va_W))) from (show (zb_r G q K).Perm (zb_r G q K) from List.Perm.refl _).trans (List.Perm.of_eq (by simp only [List.append_assoc, List.append_nil, List.nil_append])))
      refine zk_callI (wr := ([] : va_W)) (va_runS (As := [.ref q, .int (nI ak)]) (rest := []) ⟨hx, hb, hml, hown, hts⟩ (c_X6_daysOn l G q K n t hI ak (by omega) hp0 _) (cwS 2 hts gX6_does_X6_daysOn rfl rfl rfl (by decide +kernel) ⟨Nat.le_of_ble_eq_true rfl, Nat.le_of_ble_eq_true rfl⟩) (zk_preS hE hA0 hS (zk_Papp hP0).1 (zk_Dapp hD0).1) rfl rfl hl.1 rfl (lv_room (Nat.le_of_ble_eq_true rfl)) dX6_does_223 ⟨Nat.le_of_ble_eq_true rfl, Nat.le_of_ble_eq_true rfl⟩) hP0 hD0 hS hA (fun r97 u98 H locs q99 hP hD hS => ?_)
      obtain ⟨er97, eL100⟩ := q99
      have hI101 : sInv u98 n (t + ak) := by rw [eL100]; exact sInv_kDays hI _ (by omega)
      have hP : va_P G.1 vwCl (zb_r G q u98) H := zk_Pperm hP (show (zb_r G q u98).Perm ((zb_r G q u98) ++ (([] : va_W))) from (show (zb_r G q u98).Perm (zb_r G q u98) from List.Perm.refl _).trans (List.Perm.of_eq (by simp only [List.append_assoc, List.append_nil, List.nil_append]))).symm
      have hD : va_D A (zb_r G q u98) := zk_Dperm hD (show (zb_r G q u98).Perm ((zb_r G q u98) ++ (([] : va_W))) from (show (zb_r G q u98).Perm (zb_r G q u98) from List.Perm.refl _).trans (List.Perm.of_eq (by simp only [List.append_assoc, List.append_nil, List.nil_append]))).symm
      refine lv_if_lt (tgt := 233) hx hb dX6_does_226 (by decide) (fun h226_101 => ?_) (fun h226_101 => ?_)
      · exact absurd (by rw [← eL100, ← er97]; exact h226_101) (kDays_nn K ak hn12 hak2)
      · refine lv_iconst (v := nI 1) hx hb dX6_does_229 (by decide) ?_
        refine lv_goto (tgt := 234) hx hb dX6_does_230 (by decide) ?_
        exact zk_retz u98 hQ hx hb hr hlocks hS hP hD (Nat.le_of_ble_eq_true rfl) (Nat.le_of_ble_eq_true rfl) dX6_does_234 (rfl) (by rw [kDoes_no (by rw [h1_110]; decide) (by rw [h1_110]; decide) (by rw [h1_110]; decide) (by rw [h1_110]; decide) (by rw [h1_110]; decide) (by rw [h1_110]; decide), if_pos h218_95, nak]; exact ⟨rfl, eL100⟩)
  rcases Decidable.em (sg = nI 111) with h1_111 | h1_n111
  · refine lv_tableIn (tgt := 112) hx hb dX6_does_1 (by rw [h1_111]; decide) (by rw [h1_111]; decide) (by rw [h1_111]; rfl) (by decide) ?_
    refine lv_aload_n hx hb dX6_does_112 rfl (lv_at hl 0 rfl) ?_
    refine lv_iload_n hx hb dX6_does_113 rfl (lv_at hl 2 rfl) ?_
    refine lv_iload_n hx hb dX6_does_114 rfl (lv_at hl 3 rfl) ?_
    have hP0 : va_P G.1 vwCl ((zb_r G q K) ++ (([] : va_W))) s.heap := zk_Pperm hP (show (zb_r G q K).Perm ((zb_r G q K) ++ (([] : va_W))) from (show (zb_r G q K).Perm (zb_r G q K) from List.Perm.refl _).trans (List.Perm.of_eq (by simp only [List.append_assoc, List.append_nil, List.nil_append])))
    have hD0 : va_D A ((zb_r G q K) ++ (([] : va_W))) := zk_Dperm hD (show (zb_r G q K).Perm ((zb_r G q K) ++ (([] : va_W))) from (show (zb_r G q K).Perm (zb_r G q K) from List.Perm.refl _).trans (List.Perm.of_eq (by simp only [List.append_assoc, List.append_nil, List.nil_append])))
    refine zk_callI (wr := ([] : va_W)) (va_runS (As := [.ref q, .int a, .int b]) (rest := []) ⟨hx, hb, hml, hown, hts⟩ (c_X6_whyNotOrder l G q K n t hI a b _) (cwS 3 hts gX6_does_X6_whyNotOrder rfl rfl rfl (by decide +kernel) ⟨Nat.le_of_ble_eq_true rfl, Nat.le_of_ble_eq_true rfl⟩) (zk_preS hE hA0 hS (zk_Papp hP0).1 (zk_Dapp hD0).1) rfl rfl hl.1 rfl (lv_room (Nat.le_of_ble_eq_true rfl)) dX6_does_115 ⟨Nat.le_of_ble_eq_true rfl, Nat.le_of_ble_eq_true rfl⟩) hP0 hD0 hS hA (fun r103 u104 H locs q105 hP hD hS => ?_)
    subst q105
    have hP : va_P G.1 vwCl (zb_r G q K) H := zk_Pperm hP (show (zb_r G q K).Perm ((zb_r G q K) ++ (([] : va_W))) from (show (zb_r G q K).Perm (zb_r G q K) from List.Perm.refl _).trans (List.Perm.of_eq (by simp only [List.append_assoc, List.append_nil, List.nil_append]))).symm
    have hD : va_D A (zb_r G q K) := zk_Dperm hD (show (zb_r G q K).Perm ((zb_r G q K) ++ (([] : va_W))) from (show (zb_r G q K).Perm (zb_r G q K) from List.Perm.refl _).trans (List.Perm.of_eq (by simp only [List.append_assoc, List.append_nil, List.nil_append]))).symm
    refine lv_if_ne (tgt := 152) hx hb dX6_does_118 (by decide) (fun h118_105 => ?_) (fun h118_105 => ?_)
    · refine lv_iconst (v := nI 0) hx hb dX6_does_152 (by decide) ?_
      exact zk_retz K hQ hx hb hr hlocks hS hP hD (Nat.le_of_ble_eq_true rfl) (Nat.le_of_ble_eq_true rfl) dX6_does_153 (rfl) (by rw [kDoes_111 h1_111, if_neg h118_105]; exact ⟨rfl, rfl⟩)
    · have hz := kwOrd_0 h118_105
      obtain ⟨ak, hak, eak⟩ := sHas_nat hI (hz.1)
      subst eak
      have nak := nI_clamp (show ak < 2 ^ 31 by omega)
      obtain ⟨bk, hbk, ebk⟩ := sDay_nat (hz.2.1)
      subst ebk
      have nbk := nI_clamp (show bk < 2 ^ 31 by omega)
      refine lv_aload_n hx hb dX6_does_121 rfl (lv_at hl 0 rfl) ?_
      refine lv_iload_n hx hb dX6_does_122 rfl (lv_at hl 2 rfl) ?_
      refine lv_iload_n hx hb dX6_does_123 rfl (lv_at hl 3 rfl) ?_
      refine lv_aload_n hx hb dX6_does_124 rfl (lv_at hl 0 rfl) ?_
      refine lv_bipush (v := nI 115) hx hb dX6_does_125 (by decide) ?_
      refine lv_iload_n hx hb dX6_does_127 rfl (lv_at hl 2 rfl) ?_
      refine lv_iload_n hx hb dX6_does_128 rfl (lv_at hl 3 rfl) ?_
      have hP0 : va_P G.1 vwCl (([] : va_W) ++ (zb_r G q K)) H := hP
      have hD0 : va_D A (([] : va_W) ++ (zb_r G q K)) := hD
      refine zk_callI (wr := zb_r G q K) (va_runS (As := [.int (nI ak), .int (nI bk)]) (rest := [.int (nI 115), .ref q, .int (nI bk), .int (nI ak), .ref q]) ⟨hx, hb, hml, hown, hts⟩ (c_X6_at l G ak bk _) (cwS 2 hts gX6_does_X6_at rfl rfl rfl (by decide +kernel) ⟨Nat.le_of_ble_eq_true rfl, Nat.le_of_ble_eq_true rfl⟩) (zk_preS hE hA0 hS (zk_Papp hP0).1 (zk_Dapp hD0).1) rfl rfl hl.1 rfl (lv_room (Nat.le_of_ble_eq_true rfl)) dX6_does_129 ⟨Nat.le_of_ble_eq_true rfl, Nat.le_of_ble_eq_true rfl⟩) hP0 hD0 hS hA (fun r107 u108 H locs q109 hP hD hS => ?_)
      subst q109
      have hP : va_P G.1 vwCl (zb_r G q K) H := hP
      have hD : va_D A (zb_r G q K) := hD
      refine zk_iaddN hx hb dX6_does_132 ?_
      refine zk_ialdN hx hb hK hP 0 0 rfl rfl (k := (115 + (ak * 40 + bk))) (n := 1555) (by omega) (by omega) dX6_does_133 ?_
      refine zk_top (zrow_9 K (c := ak * 40 + bk) (by omega)) ?_
      refine lv_if_ne (tgt := 141) hx hb dX6_does_134 (by decide) (fun h134_109 => ?_) (fun h134_109 => ?_)
      · refine lv_iconst (v := nI 0) hx hb dX6_does_141 (by decide) ?_
        have hP0 : va_P G.1 vwCl ((zb_r G q K) ++ (([] : va_W))) H := zk_Pperm hP (show (zb_r G q K).Perm ((zb_r G q K) ++ (([] : va_W))) from (show (zb_r G q K).Perm (zb_r G q K) from List.Perm.refl _).trans (List.Perm.of_eq (by simp only [List.append_assoc, List.append_nil, List.nil_append])))
        have hD0 : va_D A ((zb_r G q K) ++ (([] : va_W))) := zk_Dperm hD (show (zb_r G q K).Perm ((zb_r G q K) ++ (([] : va_W))) from (show (zb_r G q K).Perm (zb_r G q K) from List.Perm.refl _).trans (List.Perm.of_eq (by simp only [List.append_assoc, List.append_nil, List.nil_append])))
        refine zk_callI (wr := ([] : va_W)) (va_runS (As := [.ref q, .int (nI ak), .int (nI bk), .int (nI 0)]) (rest := []) ⟨hx, hb, hml, hown, hts⟩ (c_X6_orderOn l G q K n t hI ak bk (nI 0) (by omega) (by omega) _) (cwS 4 hts gX6_does_X6_orderOn rfl rfl rfl (by decide +kernel) ⟨Nat.le_of_ble_eq_true rfl, Nat.le_of_ble_eq_true rfl⟩) (zk_preS hE hA0 hS (zk_Papp hP0).1 (zk_Dapp hD0).1) rfl rfl hl.1 rfl (lv_room (Nat.le_of_ble_eq_true rfl)) dX6_does_142 ⟨Nat.le_of_ble_eq_true rfl, Nat.le_of_ble_eq_true rfl⟩) hP0 hD0 hS hA (fun r111 u112 H locs q113 hP hD hS => ?_)
        obtain ⟨er111, eL114⟩ := q113
        have hI115 : sInv u112 n t := by rw [eL114]; exact sInv_ord (nI 0) hI
        have hP : va_P G.1 vwCl (zb_r G q u112) H := zk_Pperm hP (show (zb_r G q u112).Perm ((zb_r G q u112) ++ (([] : va_W))) from (show (zb_r G q u112).Perm (zb_r G q u112) from List.Perm.refl _).trans (List.Perm.of_eq (by simp only [List.append_assoc, List.append_nil, List.nil_append]))).symm
        have hD : va_D A (zb_r G q u112) := zk_Dperm hD (show (zb_r G q u112).Perm ((zb_r G q u112) ++ (([] : va_W))) from (show (zb_r G q u112).Perm (zb_r G q u112) from List.Perm.refl _).trans (List.Perm.of_eq (by simp only [List.append_assoc, List.append_nil, List.nil_append]))).symm
        refine lv_if_lt (tgt := 152) hx hb dX6_does_145 (by decide) (fun h145_115 => ?_) (fun h145_115 => ?_)
        · exact absurd (by rw [← er111]; exact h145_115) (kCnt_nn _ hn12 (-1) (nI bk) (nI 1))
        · refine lv_iconst (v := nI 1) hx hb dX6_does_148 (by decide) ?_
          refine lv_goto (tgt := 153) hx hb dX6_does_149 (by decide) ?_
          exact zk_retz u112 hQ hx hb hr hlocks hS hP hD (Nat.le_of_ble_eq_true rfl) (Nat.le_of_ble_eq_true rfl) dX6_does_153 (rfl) (by rw [kDoes_111 h1_111, if_pos h118_105, nak, nbk]; exact ⟨rfl, by rw [eL114, if_neg h134_109]⟩)
      · refine lv_iconst (v := nI 1) hx hb dX6_does_137 (by decide) ?_
        refine lv_goto (tgt := 142) hx hb dX6_does_138 (by decide) ?_
        have hP0 : va_P G.1 vwCl ((zb_r G q K) ++ (([] : va_W))) H := zk_Pperm hP (show (zb_r G q K).Perm ((zb_r G q K) ++ (([] : va_W))) from (show (zb_r G q K).Perm (zb_r G q K) from List.Perm.refl _).trans (List.Perm.of_eq (by simp only [List.append_assoc, List.append_nil, List.nil_append])))
        have hD0 : va_D A ((zb_r G q K) ++ (([] : va_W))) := zk_Dperm hD (show (zb_r G q K).Perm ((zb_r G q K) ++ (([] : va_W))) from (show (zb_r G q K).Perm (zb_r G q K) from List.Perm.refl _).trans (List.Perm.of_eq (by simp only [List.append_assoc, List.append_nil, List.nil_append])))
        refine zk_callI (wr := ([] : va_W)) (va_runS (As := [.ref q, .int (nI ak), .int (nI bk), .int (nI 1)]) (rest := []) ⟨hx, hb, hml, hown, hts⟩ (c_X6_orderOn l G q K n t hI ak bk (nI 1) (by omega) (by omega) _) (cwS 4 hts gX6_does_X6_orderOn rfl rfl rfl (by decide +kernel) ⟨Nat.le_of_ble_eq_true rfl, Nat.le_of_ble_eq_true rfl⟩) (zk_preS hE hA0 hS (zk_Papp hP0).1 (zk_Dapp hD0).1) rfl rfl hl.1 rfl (lv_room (Nat.le_of_ble_eq_true rfl)) dX6_does_142 ⟨Nat.le_of_ble_eq_true rfl, Nat.le_of_ble_eq_true rfl⟩) hP0 hD0 hS hA (fun r117 u118 H locs q119 hP hD hS => ?_)
        obtain ⟨er117, eL120⟩ := q119
        have hI121 : sInv u118 n t := by rw [eL120]; exact sInv_ord (nI 1) hI
        have hP : va_P G.1 vwCl (zb_r G q u118) H := zk_Pperm hP (show (zb_r G q u118).Perm ((zb_r G q u118) ++ (([] : va_W))) from (show (zb_r G q u118).Perm (zb_r G q u118) from List.Perm.refl _).trans (List.Perm.of_eq (by simp only [List.append_assoc, List.append_nil, List.nil_append]))).symm
        have hD : va_D A (zb_r G q u118) := zk_Dperm hD (show (zb_r G q u118).Perm ((zb_r G q u118) ++ (([] : va_W))) from (show (zb_r G q u118).Perm (zb_r G q u118) from List.Perm.refl _).trans (List.Perm.of_eq (by simp only [List.append_assoc, List.append_nil, List.nil_append]))).symm
        refine lv_if_lt (tgt := 152) hx hb dX6_does_145 (by decide) (fun h145_121 => ?_) (fun h145_121 => ?_)
        · exact absurd (by rw [← er117]; exact h145_121) (kCnt_nn _ hn12 (-1) (nI bk) (nI 1))
        · refine lv_iconst (v := nI 1) hx hb dX6_does_148 (by decide) ?_
          refine lv_goto (tgt := 153) hx hb dX6_does_149 (by decide) ?_
          exact zk_retz u118 hQ hx hb hr hlocks hS hP hD (Nat.le_of_ble_eq_true rfl) (Nat.le_of_ble_eq_true rfl) dX6_does_153 (rfl) (by rw [kDoes_111 h1_111, if_pos h118_105, nak, nbk]; exact ⟨rfl, by rw [eL120, if_pos h134_109]⟩)
  rcases Decidable.em (sg = nI 112) with h1_112 | h1_n112
  · refine lv_tableIn (tgt := 154) hx hb dX6_does_1 (by rw [h1_112]; decide) (by rw [h1_112]; decide) (by rw [h1_112]; rfl) (by decide) ?_
    refine lv_aload_n hx hb dX6_does_154 rfl (lv_at hl 0 rfl) ?_
    refine lv_iload_n hx hb dX6_does_155 rfl (lv_at hl 2 rfl) ?_
    have hP0 : va_P G.1 vwCl ((zb_r G q K) ++ (([] : va_W))) s.heap := zk_Pperm hP (show (zb_r G q K).Perm ((zb_r G q K) ++ (([] : va_W))) from (show (zb_r G q K).Perm (zb_r G q K) from List.Perm.refl _).trans (List.Perm.of_eq (by simp only [List.append_assoc, List.append_nil, List.nil_append])))
    have hD0 : va_D A ((zb_r G q K) ++ (([] : va_W))) := zk_Dperm hD (show (zb_r G q K).Perm ((zb_r G q K) ++ (([] : va_W))) from (show (zb_r G q K).Perm (zb_r G q K) from List.Perm.refl _).trans (List.Perm.of_eq (by simp only [List.append_assoc, List.append_nil, List.nil_append])))
    refine zk_callI (wr := ([] : va_W)) (va_runS (As := [.ref q, .int a]) (rest := []) ⟨hx, hb, hml, hown, hts⟩ (c_X6_isChild l G q K n t hI a _) (cwS 2 hts gX6_does_X6_isChild rfl rfl rfl (by decide +kernel) ⟨Nat.le_of_ble_eq_true rfl, Nat.le_of_ble_eq_true rfl⟩) (zk_preS hE hA0 hS (zk_Papp hP0).1 (zk_Dapp hD0).1) rfl rfl hl.1 rfl (lv_room (Nat.le_of_ble_eq_true rfl)) dX6_does_156 ⟨Nat.le_of_ble_eq_true rfl, Nat.le_of_ble_eq_true rfl⟩) hP0 hD0 hS hA (fun r123 u124 H locs q125 hP hD hS => ?_)
    subst q125
    have hP : va_P G.1 vwCl (zb_r G q K) H := zk_Pperm hP (show (zb_r G q K).Perm ((zb_r G q K) ++ (([] : va_W))) from (show (zb_r G q K).Perm (zb_r G q K) from List.Perm.refl _).trans (List.Perm.of_eq (by simp only [List.append_assoc, List.append_nil, List.nil_append]))).symm
    have hD : va_D A (zb_r G q K) := zk_Dperm hD (show (zb_r G q K).Perm ((zb_r G q K) ++ (([] : va_W))) from (show (zb_r G q K).Perm (zb_r G q K) from List.Perm.refl _).trans (List.Perm.of_eq (by simp only [List.append_assoc, List.append_nil, List.nil_append]))).symm
    refine lv_if_ne (tgt := 164) hx hb dX6_does_159 (by decide) (fun h159_125 => ?_) (fun h159_125 => ?_)
    · have h159_125 := zk_b1 h159_125
      obtain ⟨ak, hak, eak⟩ := sHas_nat hI (h159_125)
      subst eak
      have nak := nI_clamp (show ak < 2 ^ 31 by omega)
      refine lv_aload_n hx hb dX6_does_164 rfl (lv_at hl 0 rfl) ?_
      refine lv_iload_n hx hb dX6_does_165 rfl (lv_at hl 2 rfl) ?_
      refine lv_iload_n hx hb dX6_does_166 rfl (lv_at hl 3 rfl) ?_
      have hP0 : va_P G.1 vwCl ((zb_r G q K) ++ (([] : va_W))) H := zk_Pperm hP (show (zb_r G q K).Perm ((zb_r G q K) ++ (([] : va_W))) from (show (zb_r G q K).Perm (zb_r G q K) from List.Perm.refl _).trans (List.Perm.of_eq (by simp only [List.append_assoc, List.append_nil, List.nil_append])))
      have hD0 : va_D A ((zb_r G q K) ++ (([] : va_W))) := zk_Dperm hD (show (zb_r G q K).Perm ((zb_r G q K) ++ (([] : va_W))) from (show (zb_r G q K).Perm (zb_r G q K) from List.Perm.refl _).trans (List.Perm.of_eq (by simp only [List.append_assoc, List.append_nil, List.nil_append])))
      refine zk_callI (wr := ([] : va_W)) (va_runS (As := [.ref q, .int (nI ak), .int b]) (rest := []) ⟨hx, hb, hml, hown, hts⟩ (c_X6_payOn l G q K n t hI ak b (by omega) _) (cwS 3 hts gX6_does_X6_payOn rfl rfl rfl (by decide +kernel) ⟨Nat.le_of_ble_eq_true rfl, Nat.le_of_ble_eq_true rfl⟩) (zk_preS hE hA0 hS (zk_Papp hP0).1 (zk_Dapp hD0).1) rfl rfl hl.1 rfl (lv_room (Nat.le_of_ble_eq_true rfl)) dX6_does_167 ⟨Nat.le_of_ble_eq_true rfl, Nat.le_of_ble_eq_true rfl⟩) hP0 hD0 hS hA (fun r127 u128 H locs q129 hP hD hS => ?_)
      obtain ⟨er127, eL130⟩ := q129
      have hI131 : sInv u128 n t := by rw [eL130]; exact sInv_pay b hI
      have hP : va_P G.1 vwCl (zb_r G q u128) H := zk_Pperm hP (show (zb_r G q u128).Perm ((zb_r G q u128) ++ (([] : va_W))) from (show (zb_r G q u128).Perm (zb_r G q u128) from List.Perm.refl _).trans (List.Perm.of_eq (by simp only [List.append_assoc, List.append_nil, List.nil_append]))).symm
      have hD : va_D A (zb_r G q u128) := zk_Dperm hD (show (zb_r G q u128).Perm ((zb_r G q u128) ++ (([] : va_W))) from (show (zb_r G q u128).Perm (zb_r G q u128) from List.Perm.refl _).trans (List.Perm.of_eq (by simp only [List.append_assoc, List.append_nil, List.nil_append]))).symm
      refine lv_pop hx hb dX6_does_170 rfl ?_
      refine lv_iconst (v := nI 1) hx hb dX6_does_171 (by decide) ?_
      exact zk_retz u128 hQ hx hb hr hlocks hS hP hD (Nat.le_of_ble_eq_true rfl) (Nat.le_of_ble_eq_true rfl) dX6_does_172 (rfl) (by rw [kDoes_112 h1_112, if_pos h159_125, nak]; exact ⟨rfl, eL130⟩)
    · have h159_125 := zk_b0 h159_125
      refine lv_iconst (v := nI 0) hx hb dX6_does_162 (by decide) ?_
      exact zk_retz K hQ hx hb hr hlocks hS hP hD (Nat.le_of_ble_eq_true rfl) (Nat.le_of_ble_eq_true rfl) dX6_does_163 (rfl) (by rw [kDoes_112 h1_112, if_neg h159_125]; exact ⟨rfl, rfl⟩)
  refine lv_tableOut (tgt := 213) hx hb dX6_does_1 (zk_out (99) 14 (fun k hk z => by
        rcases (show k = 0 ∨ k = 1 ∨ k = 2 ∨ k = 3 ∨ k = 4 ∨ k = 5 ∨ k = 6 ∨ k = 7 ∨ k = 8 ∨ k = 9 ∨ k = 10 ∨ k = 11 ∨ k = 12 ∨ k = 13 by omega) with rfl | rfl | rfl | rfl | rfl | rfl | rfl | rfl | rfl | rfl | rfl | rfl | rfl | rfl
        · exact h1_n99 (zk_toI z (by decide))
        · exact h1_n100 (zk_toI z (by decide))
        · exact h1_n101 (zk_toI z (by decide))
        · exact h1_n102 (zk_toI z (by decide))
        · exact h1_n103 (zk_toI z (by decide))
        · exact h1_n104 (zk_toI z (by decide))
        · exact h1_n105 (zk_toI z (by decide))
        · exact h1_n106 (zk_toI z (by decide))
        · exact h1_n107 (zk_toI z (by decide))
        · exact h1_n108 (zk_toI z (by decide))
        · exact h1_n109 (zk_toI z (by decide))
        · exact h1_n110 (zk_toI z (by decide))
        · exact h1_n111 (zk_toI z (by decide))
        · exact h1_n112 (zk_toI z (by decide)))) (by decide) ?_
  refine lv_aload_n hx hb dX6_does_213 rfl (lv_at hl 0 rfl) ?_
  refine lv_iload_n hx hb dX6_does_214 rfl (lv_at hl 2 rfl) ?_
  have hP0 : va_P G.1 vwCl ((zb_r G q K) ++ (([] : va_W))) s.heap := zk_Pperm hP (show (zb_r G q K).Perm ((zb_r G q K) ++ (([] : va_W))) from (show (zb_r G q K).Perm (zb_r G q K) from List.Perm.refl _).trans (List.Perm.of_eq (by simp only [List.append_assoc, List.append_nil, List.nil_append])))
  have hD0 : va_D A ((zb_r G q K) ++ (([] : va_W))) := zk_Dperm hD (show (zb_r G q K).Perm ((zb_r G q K) ++ (([] : va_W))) from (show (zb_r G q K).Perm (zb_r G q K) from List.Perm.refl _).trans (List.Perm.of_eq (by simp only [List.append_assoc, List.append_nil, List.nil_append])))
  refine zk_callI (wr := ([] : va_W)) (va_runS (As := [.ref q, .int a]) (rest := []) ⟨hx, hb, hml, hown, hts⟩ (c_X6_canGoBy l G q K n t hI a _) (cwS 2 hts gX6_does_X6_canGoBy rfl rfl rfl (by decide +kernel) ⟨Nat.le_of_ble_eq_true rfl, Nat.le_of_ble_eq_true rfl⟩) (zk_preS hE hA0 hS (zk_Papp hP0).1 (zk_Dapp hD0).1) rfl rfl hl.1 rfl (lv_room (Nat.le_of_ble_eq_true rfl)) dX6_does_215 ⟨Nat.le_of_ble_eq_true rfl, Nat.le_of_ble_eq_true rfl⟩) hP0 hD0 hS hA (fun r132 u133 H locs q134 hP hD hS => ?_)
  subst q134
  have hP : va_P G.1 vwCl (zb_r G q K) H := zk_Pperm hP (show (zb_r G q K).Perm ((zb_r G q K) ++ (([] : va_W))) from (show (zb_r G q K).Perm (zb_r G q K) from List.Perm.refl _).trans (List.Perm.of_eq (by simp only [List.append_assoc, List.append_nil, List.nil_append]))).symm
  have hD : va_D A (zb_r G q K) := zk_Dperm hD (show (zb_r G q K).Perm ((zb_r G q K) ++ (([] : va_W))) from (show (zb_r G q K).Perm (zb_r G q K) from List.Perm.refl _).trans (List.Perm.of_eq (by simp only [List.append_assoc, List.append_nil, List.nil_append]))).symm
  refine lv_if_eq (tgt := 233) hx hb dX6_does_218 (by decide) (fun h218_134 => ?_) (fun h218_134 => ?_)
  · have h218_134 := zk_b0 h218_134
    refine lv_iconst (v := nI 0) hx hb dX6_does_233 (by decide) ?_
    exact zk_retz K hQ hx hb hr hlocks hS hP hD (Nat.le_of_ble_eq_true rfl) (Nat.le_of_ble_eq_true rfl) dX6_does_234 (rfl) (by rw [kDoes_no h1_n99 h1_n109 h1_n111 h1_n112 h1_n101 h1_n104, if_neg h218_134]; exact ⟨rfl, rfl⟩)
  · have h218_134 := zk_b1 h218_134
    obtain ⟨ak, eak, hak1, hak2⟩ := kwDays_0 ht40 h218_134
    subst eak
    have nak := nI_clamp (show ak < 2 ^ 31 by omega)
    refine lv_aload_n hx hb dX6_does_221 rfl (lv_at hl 0 rfl) ?_
    refine lv_iload_n hx hb dX6_does_222 rfl (lv_at hl 2 rfl) ?_
    have hP0 : va_P G.1 vwCl ((zb_r G q K) ++ (([] : va_W))) H := zk_Pperm hP (show (zb_r G q K).Perm ((zb_r G q K) ++ (([] : va_W))) from (show (zb_r G q K).Perm (zb_r G q K) from List.Perm.refl _).trans (List.Perm.of_eq (by simp only [List.append_assoc, List.append_nil, List.nil_append])))
    have hD0 : va_D A ((zb_r G q K) ++ (([] : va_W))) := zk_Dperm hD (show (zb_r G q K).Perm ((zb_r G q K) ++ (([] : va_W))) from (show (zb_r G q K).Perm (zb_r G q K) from List.Perm.refl _).trans (List.Perm.of_eq (by simp only [List.append_assoc, List.append_nil, List.nil_append])))
    refine zk_callI (wr := ([] : va_W)) (va_runS (As := [.ref q, .int (nI ak)]) (rest := []) ⟨hx, hb, hml, hown, hts⟩ (c_X6_daysOn l G q K n t hI ak (by omega) hp0 _) (cwS 2 hts gX6_does_X6_daysOn rfl rfl rfl (by decide +kernel) ⟨Nat.le_of_ble_eq_true rfl, Nat.le_of_ble_eq_true rfl⟩) (zk_preS hE hA0 hS (zk_Papp hP0).1 (zk_Dapp hD0).1) rfl rfl hl.1 rfl (lv_room (Nat.le_of_ble_eq_true rfl)) dX6_does_223 ⟨Nat.le_of_ble_eq_true rfl, Nat.le_of_ble_eq_true rfl⟩) hP0 hD0 hS hA (fun r136 u137 H locs q138 hP hD hS => ?_)
    obtain ⟨er136, eL139⟩ := q138
    have hI140 : sInv u137 n (t + ak) := by rw [eL139]; exact sInv_kDays hI _ (by omega)
    have hP : va_P G.1 vwCl (zb_r G q u137) H := zk_Pperm hP (show (zb_r G q u137).Perm ((zb_r G q u137) ++ (([] : va_W))) from (show (zb_r G q u137).Perm (zb_r G q u137) from List.Perm.refl _).trans (List.Perm.of_eq (by simp only [List.append_assoc, List.append_nil, List.nil_append]))).symm
    have hD : va_D A (zb_r G q u137) := zk_Dperm hD (show (zb_r G q u137).Perm ((zb_r G q u137) ++ (([] : va_W))) from (show (zb_r G q u137).Perm (zb_r G q u137) from List.Perm.refl _).trans (List.Perm.of_eq (by simp only [List.append_assoc, List.append_nil, List.nil_append]))).symm
    refine lv_if_lt (tgt := 233) hx hb dX6_does_226 (by decide) (fun h226_140 => ?_) (fun h226_140 => ?_)
    · exact absurd (by rw [← eL139, ← er136]; exact h226_140) (kDays_nn K ak hn12 hak2)
    · refine lv_iconst (v := nI 1) hx hb dX6_does_229 (by decide) ?_
      refine lv_goto (tgt := 234) hx hb dX6_does_230 (by decide) ?_
      exact zk_retz u137 hQ hx hb hr hlocks hS hP hD (Nat.le_of_ble_eq_true rfl) (Nat.le_of_ble_eq_true rfl) dX6_does_234 (rfl) (by rw [kDoes_no h1_n99 h1_n109 h1_n111 h1_n112 h1_n101 h1_n104, if_pos h218_134, nak]; exact ⟨rfl, eL139⟩)
