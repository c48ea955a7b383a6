abbrev rmX6_serve : Room := { frames := 2, cells := 0, slots := 0, locals := 47 }
set_option maxHeartbeats 4000000 in
set_option maxRecDepth 100000 in
/-- a meal is served, or not -/
theorem c_X6_serve (l : Launch) (G : zk_G) (q : Nat) (K : zL) (n t : Nat) (hI : sInv K n t) (c d : Nat) (hc : c < n) (hd : d < 40) (hp0 : ¬ K 0 2 < nI 1) : zk_V (S := zL) l yX6_serve wsX6_serve rmX6_serve G [.ref q, .int (nI c), .int (nI d)] (zb_r G q K) (fun u => u = (sServe K n c d).2) (fun u => zb_r G q u) := by
  refine zk_bodyV (cc := cX6_serve) (maxL := 5) (ret := none) (by decide) rfl (Nat.le_of_ble_eq_true rfl) ?_
  intro p E0 s m args below meth cd A ls Q hF hQ
  obtain ⟨hx, hb, hml, hr, hts, hown, hlocks, -, hE, hP, hD, hS, hA, hA0, hl⟩ := hF
  have hK := hE.1
  have hl : lv_has ls 5 [(0, .ref q), (1, .int (nI c)), (2, .int (nI d))] := hl
  obtain ⟨hn, hn12, ht, ht40, hfam, hpay⟩ := id hI
  refine lv_iload_n hx hb dX6_serve_0 rfl (lv_at hl 1 rfl) ?_
  refine lv_iload_n hx hb dX6_serve_1 rfl (lv_at hl 2 rfl) ?_
  have hP0 : va_P G.1 vwCl (([] : va_W) ++ (zb_r G q K)) s.heap := hP
  have hD0 : va_D A (([] : va_W) ++ (zb_r G q K)) := hD
  refine zk_callI (wr := zb_r G q K) (va_runS (As := [.int (nI c), .int (nI d)]) (rest := []) ⟨hx, hb, hml, hown, hts⟩ (c_X6_at l G c d _) (cwS 2 hts gX6_serve_X6_at rfl rfl rfl (by decide +kernel) ⟨Nat.le_of_ble_eq_true rfl, Nat.le_of_ble_eq_true rfl⟩) (zk_preS hE hA0 hS (zk_Papp hP0).1 (zk_Dapp hD0).1) rfl rfl hl.1 rfl (lv_room (Nat.le_of_ble_eq_true rfl)) dX6_serve_2 ⟨Nat.le_of_ble_eq_true rfl, Nat.le_of_ble_eq_true rfl⟩) hP0 hD0 hS hA (fun r1 u2 H locs q3 hP hD hS => ?_)
  subst q3
  have hP : va_P G.1 vwCl (zb_r G q K) H := hP
  have hD : va_D A (zb_r G q K) := hD
  refine lv_istore_n (lv' := [(3, .int (nI (c * 40 + d))), (0, .ref q), (1, .int (nI c)), (2, .int (nI d))]) hx hb dX6_serve_5 rfl hl (by decide) rfl (fun ls hl => ?_)
  refine lv_aload_n hx hb dX6_serve_6 rfl (lv_at hl 1 rfl) ?_
  refine lv_iconst (v := nI 5) hx hb dX6_serve_7 (by decide) ?_
  refine lv_iload_n hx hb dX6_serve_8 rfl (lv_at hl 3 rfl) ?_
  refine zk_iaddN hx hb dX6_serve_9 ?_
  refine zk_ialdN hx hb hK hP 0 0 rfl rfl (k := (5 + d)) (n := 1555) (by omega) (by omega) dX6_serve_10 ?_
  refine zk_top (zrow_6 K (c := d) (by omega)) ?_
  refine lv_aload_n hx hb dX6_serve_11 rfl (lv_at hl 1 rfl) ?_
  refine lv_bipush (v := nI 57) hx hb dX6_serve_12 (by decide) ?_
  refine lv_iload_n hx hb dX6_serve_14 rfl (lv_at hl 2 rfl) ?_
  refine zk_iaddN hx hb dX6_serve_15 ?_
  refine zk_ialdN hx hb hK hP 0 0 rfl rfl (k := (57 + c)) (n := 1555) (by omega) (by omega) dX6_serve_16 ?_
  refine zk_top (zrow_2 K (c := c) (by omega)) ?_
  refine lv_iand hx hb dX6_serve_17 ?_
  refine lv_if_eq (tgt := 29) hx hb dX6_serve_18 (by decide) (fun h18_3 => ?_) (fun h18_3 => ?_)
  · refine lv_aload_n hx hb dX6_serve_29 rfl (lv_at hl 1 rfl) ?_
    refine lv_iload_n hx hb dX6_serve_30 rfl (lv_at hl 2 rfl) ?_
    refine lv_iload_n hx hb dX6_serve_31 rfl (lv_at hl 3 rfl) ?_
    have hP0 : va_P G.1 vwCl ((zb_r G q K) ++ (([] : va_W))) H := zk_Pperm hP (show (zb_r G q K).Perm ((zb_r G q K) ++ (([] : va_W))) from (show (zb_r G q K).Perm (zb_r G q K) from List.Perm.refl _).trans (List.Perm.of_eq (by simp only [List.append_assoc, List.append_nil, List.nil_append])))
    have hD0 : va_D A ((zb_r G q K) ++ (([] : va_W))) := zk_Dperm hD (show (zb_r G q K).Perm ((zb_r G q K) ++ (([] : va_W))) from (show (zb_r G q K).Perm (zb_r G q K) from List.Perm.refl _).trans (List.Perm.of_eq (by simp only [List.append_assoc, List.append_nil, List.nil_append])))
    refine zk_callI (wr := ([] : va_W)) (va_runS (As := [.ref q, .int (nI c), .int (nI d)]) (rest := []) ⟨hx, hb, hml, hown, hts⟩ (c_X6_isEntitled l G q K n t hI c d (by omega) (by omega) _) (cwS 3 hts gX6_serve_X6_isEntitled rfl rfl rfl (by decide +kernel) ⟨Nat.le_of_ble_eq_true rfl, Nat.le_of_ble_eq_true rfl⟩) (zk_preS hE hA0 hS (zk_Papp hP0).1 (zk_Dapp hD0).1) rfl rfl hl.1 rfl (lv_room (Nat.le_of_ble_eq_true rfl)) dX6_serve_32 ⟨Nat.le_of_ble_eq_true rfl, Nat.le_of_ble_eq_true rfl⟩) hP0 hD0 hS hA (fun r5 u6 H locs q7 hP hD hS => ?_)
    subst q7
    have hP : va_P G.1 vwCl (zb_r G q K) H := zk_Pperm hP (show (zb_r G q K).Perm ((zb_r G q K) ++ (([] : va_W))) from (show (zb_r G q K).Perm (zb_r G q K) from List.Perm.refl _).trans (List.Perm.of_eq (by simp only [List.append_assoc, List.append_nil, List.nil_append]))).symm
    have hD : va_D A (zb_r G q K) := zk_Dperm hD (show (zb_r G q K).Perm ((zb_r G q K) ++ (([] : va_W))) from (show (zb_r G q K).Perm (zb_r G q K) from List.Perm.refl _).trans (List.Perm.of_eq (by simp only [List.append_assoc, List.append_nil, List.nil_append]))).symm
    refine lv_if_eq (tgt := 46) hx hb dX6_serve_35 (by decide) (fun h35_7 => ?_) (fun h35_7 => ?_)
    · have h35_7 := zk_b0 h35_7
      refine lv_aload_n hx hb dX6_serve_46 rfl (lv_at hl 1 rfl) ?_
      refine lv_bipush (v := nI 69) hx hb dX6_serve_47 (by decide) ?_
      refine lv_iload_n hx hb dX6_serve_49 rfl (lv_at hl 2 rfl) ?_
      refine zk_iaddN hx hb dX6_serve_50 ?_
      refine zk_ialdN hx hb hK hP 0 0 rfl rfl (k := (69 + c)) (n := 1555) (by omega) (by omega) dX6_serve_51 ?_
      refine zk_top (zrow_3 K (c := c) (by omega)) ?_
      refine lv_aload_n hx hb dX6_serve_52 rfl (lv_at hl 1 rfl) ?_
      refine lv_iconst (v := nI 2) hx hb dX6_serve_53 (by decide) ?_
      refine zk_ialdN hx hb hK hP 0 0 rfl rfl (k := 2) (n := 1555) (by omega) (by omega) dX6_serve_54 ?_
      refine zk_top (zrow_l K (c := 2) (by omega)) ?_
      refine lv_isub hx hb dX6_serve_55 ?_
      refine lv_aload_n hx hb dX6_serve_56 rfl (lv_at hl 1 rfl) ?_
      refine lv_iconst (v := nI 3) hx hb dX6_serve_57 (by decide) ?_
      refine zk_ialdN hx hb hK hP 0 0 rfl rfl (k := 3) (n := 1555) (by omega) (by omega) dX6_serve_58 ?_
      refine zk_top (zrow_l K (c := 3) (by omega)) ?_
      refine lv_ineg hx hb dX6_serve_59 ?_
      refine lv_icmp_lt (tgt := 67) hx hb dX6_serve_60 (by decide) (fun h60_8 => ?_) (fun h60_8 => ?_)
      · have h60_8 := h60_8
        refine lv_aload_n hx hb dX6_serve_67 rfl (lv_at hl 1 rfl) ?_
        refine lv_iload_n hx hb dX6_serve_68 rfl (lv_at hl 2 rfl) ?_
        have hP0 : va_P G.1 vwCl ((zb_r G q K) ++ (([] : va_W))) H := zk_Pperm hP (show (zb_r G q K).Perm ((zb_r G q K) ++ (([] : va_W))) from (show (zb_r G q K).Perm (zb_r G q K) from List.Perm.refl _).trans (List.Perm.of_eq (by simp only [List.append_assoc, List.append_nil, List.nil_append])))
        have hD0 : va_D A ((zb_r G q K) ++ (([] : va_W))) := zk_Dperm hD (show (zb_r G q K).Perm ((zb_r G q K) ++ (([] : va_W))) from (show (zb_r G q K).Perm (zb_r G q K) from List.Perm.refl _).trans (List.Perm.of_eq (by simp only [List.append_assoc, List.append_nil, List.nil_append])))
        refine zk_callI (wr := ([] : va_W)) (va_runS (As := [.ref q, .int (nI c)]) (rest := []) ⟨hx, hb, hml, hown, hts⟩ (c_X6_siblingFor l G q K n t hI c (by omega) _) (cwS 2 hts gX6_serve_X6_siblingFor rfl rfl rfl (by decide +kernel) ⟨Nat.le_of_ble_eq_true rfl, Nat.le_of_ble_eq_true rfl⟩) (zk_preS hE hA0 hS (zk_Papp hP0).1 (zk_Dapp hD0).1) rfl rfl hl.1 rfl (lv_room (Nat.le_of_ble_eq_true rfl)) dX6_serve_69 ⟨Nat.le_of_ble_eq_true rfl, Nat.le_of_ble_eq_true rfl⟩) hP0 hD0 hS hA (fun r10 u11 H locs q12 hP hD hS => ?_)
        subst q12
        have hP : va_P G.1 vwCl (zb_r G q K) H := zk_Pperm hP (show (zb_r G q K).Perm ((zb_r G q K) ++ (([] : va_W))) from (show (zb_r G q K).Perm (zb_r G q K) from List.Perm.refl _).trans (List.Perm.of_eq (by simp only [List.append_assoc, List.append_nil, List.nil_append]))).symm
        have hD : va_D A (zb_r G q K) := zk_Dperm hD (show (zb_r G q K).Perm ((zb_r G q K) ++ (([] : va_W))) from (show (zb_r G q K).Perm (zb_r G q K) from List.Perm.refl _).trans (List.Perm.of_eq (by simp only [List.append_assoc, List.append_nil, List.nil_append]))).symm
        refine lv_istore (lv' := [(4, .int (kPay K n c)), (3, .int (nI (c * 40 + d))), (0, .ref q), (1, .int (nI c)), (2, .int (nI d))]) hx hb dX6_serve_72 hl (by decide) rfl (fun ls hl => ?_)
        refine lv_aload_n hx hb dX6_serve_74 rfl (lv_at hl 2 rfl) ?_
        refine lv_bipush (v := nI 115) hx hb dX6_serve_75 (by decide) ?_
        refine lv_iload_n hx hb dX6_serve_77 rfl (lv_at hl 1 rfl) ?_
        refine zk_iaddN hx hb dX6_serve_78 ?_
        refine lv_iload hx hb dX6_serve_79 (lv_at hl 0 rfl) ?_
        refine lv_iconst (v := -1) hx hb dX6_serve_81 (by decide) ?_
        refine lv_icmp_ne (tgt := 89) hx hb dX6_serve_82 (by decide) (fun h82_12 => ?_) (fun h82_12 => ?_)
        · refine lv_iconst (v := nI 2) hx hb dX6_serve_89 (by decide) ?_
          refine zk_iastN hx hb hK hP hD hS 0 0 rfl rfl (k := (115 + (c * 40 + d))) (n := 1555) (by omega) (by omega) dX6_serve_90 (fun H locs hP hD hS => ?_)
          obtain ⟨L14, eL14⟩ : ∃ z : zL, z = up2 K 9 (c * 40 + d) (nI 2) := ⟨_, rfl⟩
          have hP : va_P G.1 vwCl (zb_r G q L14) H := by rw [eL14, show zb_r G q (up2 K 9 (c * 40 + d) (nI 2)) = [zk_a q (G.2.1 0) 1555 (upd (zrow K) (115 + (c * 40 + d)) (nI 2))] from (congrArg (fun f => [zk_a q (G.2.1 0) 1555 f]) (zup_9 K (nI 2) (by omega))).symm]; exact hP
          have hD : va_D A (zb_r G q L14) := by rw [eL14, show zb_r G q (up2 K 9 (c * 40 + d) (nI 2)) = [zk_a q (G.2.1 0) 1555 (upd (zrow K) (115 + (c * 40 + d)) (nI 2))] from (congrArg (fun f => [zk_a q (G.2.1 0) 1555 f]) (zup_9 K (nI 2) (by omega))).symm]; exact hD
          refine lv_iload hx hb dX6_serve_91 (lv_at hl 0 rfl) ?_
          refine lv_iconst (v := -1) hx hb dX6_serve_93 (by decide) ?_
          refine lv_icmp_eq (tgt := 129) hx hb dX6_serve_94 (by decide) (fun h94_14 => ?_) (fun h94_14 => ?_)
          · exact absurd h94_14 h82_12
          · obtain ⟨j, hj, ej⟩ := (kPay_in (K := K) (n := n) (c := c)).resolve_left h82_12
            have nj := nI_clamp (show j < 2 ^ 31 by omega)
            have hl : lv_has ls 5 [(4, .int (nI j)), (3, .int (nI (c * 40 + d))), (0, .ref q), (1, .int (nI c)), (2, .int (nI d))] := by rw [ej] at hl; exact hl
            refine lv_aload_n hx hb dX6_serve_97 rfl (lv_at hl 2 rfl) ?_
            refine lv_bipush (v := nI 69) hx hb dX6_serve_98 (by decide) ?_
            refine lv_iload hx hb dX6_serve_100 (lv_at hl 0 rfl) ?_
            refine zk_iaddN hx hb dX6_serve_102 ?_
            refine lv_dup2_11 hx hb dX6_serve_103 rfl rfl ?_
            refine zk_ialdN hx hb hK hP 0 0 rfl rfl (k := (69 + j)) (n := 1555) (by omega) (by omega) dX6_serve_104 ?_
            refine zk_top (zrow_3 L14 (c := j) (by omega)) ?_
            refine lv_aload_n hx hb dX6_serve_105 rfl (lv_at hl 2 rfl) ?_
            refine lv_iconst (v := nI 2) hx hb dX6_serve_106 (by decide) ?_
            refine zk_ialdN hx hb hK hP 0 0 rfl rfl (k := 2) (n := 1555) (by omega) (by omega) dX6_serve_107 ?_
            refine zk_top (zrow_l L14 (c := 2) (by omega)) ?_
            refine lv_isub hx hb dX6_serve_108 ?_
            refine lv_topi (fun x16 ex16 => ?_)
            refine zk_iastN hx hb hK hP hD hS 0 0 rfl rfl (k := (69 + j)) (n := 1555) (by omega) (by omega) dX6_serve_109 (fun H locs hP hD hS => ?_)
            obtain ⟨L17, eL17⟩ : ∃ z : zL, z = up2 L14 3 j x16 := ⟨_, rfl⟩
            have hP : va_P G.1 vwCl (zb_r G q L17) H := by rw [eL17, show zb_r G q (up2 L14 3 j x16) = [zk_a q (G.2.1 0) 1555 (upd (zrow L14) (69 + j) x16)] from (congrArg (fun f => [zk_a q (G.2.1 0) 1555 f]) (zup_3 L14 x16 (by omega))).symm]; exact hP
            have hD : va_D A (zb_r G q L17) := by rw [eL17, show zb_r G q (up2 L14 3 j x16) = [zk_a q (G.2.1 0) 1555 (upd (zrow L14) (69 + j) x16)] from (congrArg (fun f => [zk_a q (G.2.1 0) 1555 f]) (zup_3 L14 x16 (by omega))).symm]; exact hD
            refine lv_aload_n hx hb dX6_serve_110 rfl (lv_at hl 2 rfl) ?_
            refine lv_sipush (v := nI 595) hx hb dX6_serve_111 (by decide) ?_
            refine lv_iload_n hx hb dX6_serve_114 rfl (lv_at hl 1 rfl) ?_
            refine zk_iaddN hx hb dX6_serve_115 ?_
            refine lv_aload_n hx hb dX6_serve_116 rfl (lv_at hl 2 rfl) ?_
            refine lv_iconst (v := nI 2) hx hb dX6_serve_117 (by decide) ?_
            refine zk_ialdN hx hb hK hP 0 0 rfl rfl (k := 2) (n := 1555) (by omega) (by omega) dX6_serve_118 ?_
            refine zk_top (zrow_l L17 (c := 2) (by omega)) ?_
            refine lv_topi (fun x18 ex18 => ?_)
            refine zk_iastN hx hb hK hP hD hS 0 0 rfl rfl (k := (595 + (c * 40 + d))) (n := 1555) (by omega) (by omega) dX6_serve_119 (fun H locs hP hD hS => ?_)
            obtain ⟨L19, eL19⟩ : ∃ z : zL, z = up2 L17 10 (c * 40 + d) x18 := ⟨_, rfl⟩
            have hP : va_P G.1 vwCl (zb_r G q L19) H := by rw [eL19, show zb_r G q (up2 L17 10 (c * 40 + d) x18) = [zk_a q (G.2.1 0) 1555 (upd (zrow L17) (595 + (c * 40 + d)) x18)] from (congrArg (fun f => [zk_a q (G.2.1 0) 1555 f]) (zup_10 L17 x18 (by omega))).symm]; exact hP
            have hD : va_D A (zb_r G q L19) := by rw [eL19, show zb_r G q (up2 L17 10 (c * 40 + d) x18) = [zk_a q (G.2.1 0) 1555 (upd (zrow L17) (595 + (c * 40 + d)) x18)] from (congrArg (fun f => [zk_a q (G.2.1 0) 1555 f]) (zup_10 L17 x18 (by omega))).symm]; exact hD
            refine lv_aload_n hx hb dX6_serve_120 rfl (lv_at hl 2 rfl) ?_
            refine lv_sipush (v := nI 1075) hx hb dX6_serve_121 (by decide) ?_
            refine lv_iload_n hx hb dX6_serve_124 rfl (lv_at hl 1 rfl) ?_
            refine zk_iaddN hx hb dX6_serve_125 ?_
            refine lv_iload hx hb dX6_serve_126 (lv_at hl 0 rfl) ?_
            refine zk_iastN hx hb hK hP hD hS 0 0 rfl rfl (k := (1075 + (c * 40 + d))) (n := 1555) (by omega) (by omega) dX6_serve_128 (fun H locs hP hD hS => ?_)
            obtain ⟨L20, eL20⟩ : ∃ z : zL, z = up2 L19 11 (c * 40 + d) (nI j) := ⟨_, rfl⟩
            have hP : va_P G.1 vwCl (zb_r G q L20) H := by rw [eL20, show zb_r G q (up2 L19 11 (c * 40 + d) (nI j)) = [zk_a q (G.2.1 0) 1555 (upd (zrow L19) (1075 + (c * 40 + d)) (nI j))] from (congrArg (fun f => [zk_a q (G.2.1 0) 1555 f]) (zup_11 L19 (nI j) (by omega))).symm]; exact hP
            have hD : va_D A (zb_r G q L20) := by rw [eL20, show zb_r G q (up2 L19 11 (c * 40 + d) (nI j)) = [zk_a q (G.2.1 0) 1555 (upd (zrow L19) (1075 + (c * 40 + d)) (nI j))] from (congrArg (fun f => [zk_a q (G.2.1 0) 1555 f]) (zup_11 L19 (nI j) (by omega))).symm]; exact hD
            exact zk_retv L20 hQ hx hb hr hlocks hS hP hD (Nat.le_of_ble_eq_true rfl) (Nat.le_of_ble_eq_true rfl) dX6_serve_129 (by rw [sServe_5 hp0 (by omega) (by omega) h18_3 h35_7 h60_8 ej]; simp only [eL14, ex16, eL17, ex18, eL19, eL20]; exact kCharge K _ _)
        · refine lv_iconst (v := nI 4) hx hb dX6_serve_85 (by decide) ?_
          refine lv_goto (tgt := 90) hx hb dX6_serve_86 (by decide) ?_
          refine zk_iastN hx hb hK hP hD hS 0 0 rfl rfl (k := (115 + (c * 40 + d))) (n := 1555) (by omega) (by omega) dX6_serve_90 (fun H locs hP hD hS => ?_)
          obtain ⟨L21, eL21⟩ : ∃ z : zL, z = up2 K 9 (c * 40 + d) (nI 4) := ⟨_, rfl⟩
          have hP : va_P G.1 vwCl (zb_r G q L21) H := by rw [eL21, show zb_r G q (up2 K 9 (c * 40 + d) (nI 4)) = [zk_a q (G.2.1 0) 1555 (upd (zrow K) (115 + (c * 40 + d)) (nI 4))] from (congrArg (fun f => [zk_a q (G.2.1 0) 1555 f]) (zup_9 K (nI 4) (by omega))).symm]; exact hP
          have hD : va_D A (zb_r G q L21) := by rw [eL21, show zb_r G q (up2 K 9 (c * 40 + d) (nI 4)) = [zk_a q (G.2.1 0) 1555 (upd (zrow K) (115 + (c * 40 + d)) (nI 4))] from (congrArg (fun f => [zk_a q (G.2.1 0) 1555 f]) (zup_9 K (nI 4) (by omega))).symm]; exact hD
          refine lv_iload hx hb dX6_serve_91 (lv_at hl 0 rfl) ?_
          refine lv_iconst (v := -1) hx hb dX6_serve_93 (by decide) ?_
          refine lv_icmp_eq (tgt := 129) hx hb dX6_serve_94 (by decide) (fun h94_21 => ?_) (fun h94_21 => ?_)
          · exact zk_retv L21 hQ hx hb hr hlocks hS hP hD (Nat.le_of_ble_eq_true rfl) (Nat.le_of_ble_eq_true rfl) dX6_serve_129 (by rw [sServe_4 hp0 (by omega) h18_3 h35_7 h60_8 h82_12]; exact eL21)
          · exact absurd h82_12 h94_21
      · have h60_8 := h60_8
        refine lv_iload_n hx hb dX6_serve_63 rfl (lv_at hl 2 rfl) ?_
        refine lv_goto (tgt := 72) hx hb dX6_serve_64 (by decide) ?_
        refine lv_istore (lv' := [(4, .int (nI c)), (3, .int (nI (c * 40 + d))), (0, .ref q), (1, .int (nI c)), (2, .int (nI d))]) hx hb dX6_serve_72 hl (by decide) rfl (fun ls hl => ?_)
        refine lv_aload_n hx hb dX6_serve_74 rfl (lv_at hl 2 rfl) ?_
        refine lv_bipush (v := nI 115) hx hb dX6_serve_75 (by decide) ?_
        refine lv_iload_n hx hb dX6_serve_77 rfl (lv_at hl 1 rfl) ?_
        refine zk_iaddN hx hb dX6_serve_78 ?_
        refine lv_iload hx hb dX6_serve_79 (lv_at hl 0 rfl) ?_
        refine lv_iconst (v := -1) hx hb dX6_serve_81 (by decide) ?_
        refine lv_icmp_ne (tgt := 89) hx hb dX6_serve_82 (by decide) (fun h82_22 => ?_) (fun h82_22 => ?_)
        · refine lv_iconst (v := nI 2) hx hb dX6_serve_89 (by decide) ?_
          refine zk_iastN hx hb hK hP hD hS 0 0 rfl rfl (k := (115 + (c * 40 + d))) (n := 1555) (by omega) (by omega) dX6_serve_90 (fun H locs hP hD hS => ?_)
          obtain ⟨L24, eL24⟩ : ∃ z : zL, z = up2 K 9 (c * 40 + d) (nI 2) := ⟨_, rfl⟩
          have hP : va_P G.1 vwCl (zb_r G q L24) H := by rw [eL24, show zb_r G q (up2 K 9 (c * 40 + d) (nI 2)) = [zk_a q (G.2.1 0) 1555 (upd (zrow K) (115 + (c * 40 + d)) (nI 2))] from (congrArg (fun f => [zk_a q (G.2.1 0) 1555 f]) (zup_9 K (nI 2) (by omega))).symm]; exact hP
          have hD : va_D A (zb_r G q L24) := by rw [eL24, show zb_r G q (up2 K 9 (c * 40 + d) (nI 2)) = [zk_a q (G.2.1 0) 1555 (upd (zrow K) (115 + (c * 40 + d)) (nI 2))] from (congrArg (fun f => [zk_a q (G.2.1 0) 1555 f]) (zup_9 K (nI 2) (by omega))).symm]; exact hD
          refine lv_iload hx hb dX6_serve_91 (lv_at hl 0 rfl) ?_
          refine lv_iconst (v := -1) hx hb dX6_serve_93 (by decide) ?_
          refine lv_icmp_eq (tgt := 129) hx hb dX6_serve_94 (by decide) (fun h94_24 => ?_) (fun h94_24 => ?_)
          · exact absurd h94_24 (zk_m1n (by omega))
          · refine lv_aload_n hx hb dX6_serve_97 rfl (lv_at hl 2 rfl) ?_
            refine lv_bipush (v := nI 69) hx hb dX6_serve_98 (by decide) ?_
            refine lv_iload hx hb dX6_serve_100 (lv_at hl 0 rfl) ?_
            refine zk_iaddN hx hb dX6_serve_102 ?_
            refine lv_dup2_11 hx hb dX6_serve_103 rfl rfl ?_
            refine zk_ialdN hx hb hK hP 0 0 rfl rfl (k := (69 + c)) (n := 1555) (by omega) (by omega) dX6_serve_104 ?_
            refine zk_top (zrow_3 L24 (c := c) (by omega)) ?_
            refine lv_aload_n hx hb dX6_serve_105 rfl (lv_at hl 2 rfl) ?_
            refine lv_iconst (v := nI 2) hx hb dX6_serve_106 (by decide) ?_
            refine zk_ialdN hx hb hK hP 0 0 rfl rfl (k := 2) (n := 1555) (by omega) (by omega) dX6_serve_107 ?_
            refine zk_top (zrow_l L24 (c := 2) (by omega)) ?_
            refine lv_isub hx hb dX6_serve_108 ?_
            refine lv_topi (fun x26 ex26 => ?_)
            refine zk_iastN hx hb hK hP hD hS 0 0 rfl rfl (k := (69 + c)) (n := 1555) (by omega) (by omega) dX6_serve_109 (fun H locs hP hD hS => ?_)
            obtain ⟨L27, eL27⟩ : ∃ z : zL, z = up2 L24 3 c x26 := ⟨_, rfl⟩
            have hP : va_P G.1 vwCl (zb_r G q L27) H := by rw [eL27, show zb_r G q (up2 L24 3 c x26) = [zk_a q (G.2.1 0) 1555 (upd (zrow L24) (69 + c) x26)] from (congrArg (fun f => [zk_a q (G.2.1 0) 1555 f]) (zup_3 L24 x26 (by omega))).symm]; exact hP
            have hD : va_D A (zb_r G q L27) := by rw [eL27, show zb_r G q (up2 L24 3 c x26) = [zk_a q (G.2.1 0) 1555 (upd (zrow L24) (69 + c) x26)] from (congrArg (fun f => [zk_a q (G.2.1 0) 1555 f]) (zup_3 L24 x26 (by omega))).symm]; exact hD
            refine lv_aload_n hx hb dX6_serve_110 rfl (lv_at hl 2 rfl) ?_
            refine lv_sipush (v := nI 595) hx hb dX6_serve_111 (by decide) ?_
            refine lv_iload_n hx hb dX6_serve_114 rfl (lv_at hl 1 rfl) ?_
            refine zk_iaddN hx hb dX6_serve_115 ?_
            refine lv_aload_n hx hb dX6_serve_116 rfl (lv_at hl 2 rfl) ?_
            refine lv_iconst (v := nI 2) hx hb dX6_serve_117 (by decide) ?_
            refine zk_ialdN hx hb hK hP 0 0 rfl rfl (k := 2) (n := 1555) (by omega) (by omega) dX6_serve_118 ?_
            refine zk_top (zrow_l L27 (c := 2) (by omega)) ?_
            refine lv_topi (fun x28 ex28 => ?_)
            refine zk_iastN hx hb hK hP hD hS 0 0 rfl rfl (k := (595 + (c * 40 + d))) (n := 1555) (by omega) (by omega) dX6_serve_119 (fun H locs hP hD hS => ?_)
            obtain ⟨L29, eL29⟩ : ∃ z : zL, z = up2 L27 10 (c * 40 + d) x28 := ⟨_, rfl⟩
            have hP : va_P G.1 vwCl (zb_r G q L29) H := by rw [eL29, show zb_r G q (up2 L27 10 (c * 40 + d) x28) = [zk_a q (G.2.1 0) 1555 (upd (zrow L27) (595 + (c * 40 + d)) x28)] from (congrArg (fun f => [zk_a q (G.2.1 0) 1555 f]) (zup_10 L27 x28 (by omega))).symm]; exact hP
            have hD : va_D A (zb_r G q L29) := by rw [eL29, show zb_r G q (up2 L27 10 (c * 40 + d) x28) = [zk_a q (G.2.1 0) 1555 (upd (zrow L27) (595 + (c * 40 + d)) x28)] from (congrArg (fun f => [zk_a q (G.2.1 0) 1555 f]) (zup_10 L27 x28 (by omega))).symm]; exact hD
            refine lv_aload_n hx hb dX6_serve_120 rfl (lv_at hl 2 rfl) ?_
            refine lv_sipush (v := nI 1075) hx hb dX6_serve_121 (by decide) ?_
            refine lv_iload_n hx hb dX6_serve_124 rfl (lv_at hl 1 rfl) ?_
            refine zk_iaddN hx hb dX6_serve_125 ?_
            refine lv_iload hx hb dX6_serve_126 (lv_at hl 0 rfl) ?_
            refine zk_iastN hx hb hK hP hD hS 0 0 rfl rfl (k := (1075 + (c * 40 + d))) (n := 1555) (by omega) (by omega) dX6_serve_128 (fun H locs hP hD hS => ?_)
            obtain ⟨L30, eL30⟩ : ∃ z : zL, z = up2 L29 11 (c * 40 + d) (nI c) := ⟨_, rfl⟩
            have hP : va_P G.1 vwCl (zb_r G q L30) H := by rw [eL30, show zb_r G q (up2 L29 11 (c * 40 + d) (nI c)) = [zk_a q (G.2.1 0) 1555 (upd (zrow L29) (1075 + (c * 40 + d)) (nI c))] from (congrArg (fun f => [zk_a q (G.2.1 0) 1555 f]) (zup_11 L29 (nI c) (by omega))).symm]; exact hP
            have hD : va_D A (zb_r G q L30) := by rw [eL30, show zb_r G q (up2 L29 11 (c * 40 + d) (nI c)) = [zk_a q (G.2.1 0) 1555 (upd (zrow L29) (1075 + (c * 40 + d)) (nI c))] from (congrArg (fun f => [zk_a q (G.2.1 0) 1555 f]) (zup_11 L29 (nI c) (by omega))).symm]; exact hD
            exact zk_retv L30 hQ hx hb hr hlocks hS hP hD (Nat.le_of_ble_eq_true rfl) (Nat.le_of_ble_eq_true rfl) dX6_serve_129 (by rw [sServe_3 (by omega) h18_3 h35_7 h60_8]; simp only [eL24, ex26, eL27, ex28, eL29, eL30]; exact kCharge K _ _)
        · exact absurd h82_22 (zk_m1n (by omega))
    · have h35_7 := zk_b1 h35_7
      refine lv_aload_n hx hb dX6_serve_38 rfl (lv_at hl 1 rfl) ?_
      refine lv_bipush (v := nI 115) hx hb dX6_serve_39 (by decide) ?_
      refine lv_iload_n hx hb dX6_serve_41 rfl (lv_at hl 0 rfl) ?_
      refine zk_iaddN hx hb dX6_serve_42 ?_
      refine lv_iconst (v := nI 3) hx hb dX6_serve_43 (by decide) ?_
      refine zk_iastN hx hb hK hP hD hS 0 0 rfl rfl (k := (115 + (c * 40 + d))) (n := 1555) (by omega) (by omega) dX6_serve_44 (fun H locs hP hD hS => ?_)
      obtain ⟨L31, eL31⟩ : ∃ z : zL, z = up2 K 9 (c * 40 + d) (nI 3) := ⟨_, rfl⟩
      have hP : va_P G.1 vwCl (zb_r G q L31) H := by rw [eL31, show zb_r G q (up2 K 9 (c * 40 + d) (nI 3)) = [zk_a q (G.2.1 0) 1555 (upd (zrow K) (115 + (c * 40 + d)) (nI 3))] from (congrArg (fun f => [zk_a q (G.2.1 0) 1555 f]) (zup_9 K (nI 3) (by omega))).symm]; exact hP
      have hD : va_D A (zb_r G q L31) := by rw [eL31, show zb_r G q (up2 K 9 (c * 40 + d) (nI 3)) = [zk_a q (G.2.1 0) 1555 (upd (zrow K) (115 + (c * 40 + d)) (nI 3))] from (congrArg (fun f => [zk_a q (G.2.1 0) 1555 f]) (zup_9 K (nI 3) (by omega))).symm]; exact hD
      exact zk_retv L31 hQ hx hb hr hlocks hS hP hD (Nat.le_of_ble_eq_true rfl) (Nat.le_of_ble_eq_true rfl) dX6_serve_45 (by rw [sServe_2 h18_3 h35_7]; exact eL31)
  · refine lv_aload_n hx hb dX6_serve_21 rfl (lv_at hl 1 rfl) ?_
    refine lv_bipush (v := nI 115) hx hb dX6_serve_22 (by decide) ?_
    refine lv_iload_n hx hb dX6_serve_24 rfl (lv_at hl 0 rfl) ?_
    refine zk_iaddN hx hb dX6_serve_25 ?_
    refine lv_iconst (v := nI 5) hx hb dX6_serve_26 (by decide) ?_
    refine zk_iastN hx hb hK hP hD hS 0 0 rfl rfl (k := (115 + (c * 40 + d))) (n := 1555) (by omega) (by omega) dX6_serve_27 (fun H locs hP hD hS => ?_)
    obtain ⟨L32, eL32⟩ : ∃ z : zL, z = up2 K 9 (c * 40 + d) (nI 5) := ⟨_, rfl⟩
    have hP : va_P G.1 vwCl (zb_r G q L32) H := by rw [eL32, show zb_r G q (up2 K 9 (c * 40 + d) (nI 5)) = [zk_a q (G.2.1 0) 1555 (upd (zrow K) (115 + (c * 40 + d)) (nI 5))] from (congrArg (fun f => [zk_a q (G.2.1 0) 1555 f]) (zup_9 K (nI 5) (by omega))).symm]; exact hP
    have hD : va_D A (zb_r G q L32) := by rw [eL32, show zb_r G q (up2 K 9 (c * 40 + d) (nI 5)) = [zk_a q (G.2.1 0) 1555 (upd (zrow K) (115 + (c * 40 + d)) (nI 5))] from (congrArg (fun f => [zk_a q (G.2.1 0) 1555 f]) (zup_9 K (nI 5) (by omega))).symm]; exact hD
    exact zk_retv L32 hQ hx hb hr hlocks hS hP hD (Nat.le_of_ble_eq_true rfl) (Nat.le_of_ble_eq_true rfl) dX6_serve_28 (by rw [sServe_1 h18_3]; exact eL32)

abbrev rmX6_daysOn : Room := { frames := 3, cells := 0, slots := 0, locals := 71 }
set_option maxHeartbeats 4000000 in
set_option maxRecDepth 100000 in
/-- days go by -/
theorem c_X6_daysOn (l : Launch) (G : zk_G) (q : Nat) (K : zL) (n t : Nat) (hI : sInv K n t) (k : Nat) (hk : t + k ≤ 40) (hp0 : ¬ K 0 2 < nI 1) : zk_I (S := zL) l yX6_daysOn wsX6_daysOn rmX6_daysOn G [.ref q, .int (nI k)] (zb_r G q K) (fun r u => r = kSrv u n (-1) (-1) - kSrv K n (-1) (-1) ∧ u = kDays n t k K) (fun u => zb_r G q u) := by
  refine zk_bodyI (cc := cX6_daysOn) (maxL := 6) (ret := (some .int)) (by decide) rfl (Nat.le_of_ble_eq_true rfl) ?_
  intro p E0 s m args below meth cd A ls Q hF hQ
  obtain ⟨hx, hb, hml, hr, hts, hown, hlocks, -, hE, hP, hD, hS, hA, hA0, hl⟩ := hF
  have hK := hE.1
  have hl : lv_has ls 6 [(0, .ref q), (1, .int (nI k))] := hl
  obtain ⟨hn, hn12, ht, ht40, hfam, hpay⟩ := id hI
  refine lv_aload_n hx hb dX6_daysOn_0 rfl (lv_at hl 0 rfl) ?_
  refine lv_iconst (v := -1) hx hb dX6_daysOn_1 (by decide) ?_
  refine lv_iconst (v := -1) hx hb dX6_daysOn_2 (by decide) ?_
  have hP0 : va_P G.1 vwCl ((zb_r G q K) ++ (([] : va_W))) s.heap := zk_Pperm hP (show (zb_r G q K).Perm ((zb_r G q K) ++ (([] : va_W))) from (show (zb_r G q K).Perm (zb_r G q K) from List.Perm.refl _).trans (List.Perm.of_eq (by simp only [List.append_assoc, List.append_nil, List.nil_append])))
  have hD0 : va_D A ((zb_r G q K) ++ (([] : va_W))) := zk_Dperm hD (show (zb_r G q K).Perm ((zb_r G q K) ++ (([] : va_W))) from (show (zb_r G q K).Perm (zb_r G q K) from List.Perm.refl _).trans (List.Perm.of_eq (by simp only [List.append_assoc, List.append_nil, List.nil_append])))
  refine zk_callI (wr := ([] : va_W)) (va_runS (As := [.ref q, .int (-1), .int (-1)]) (rest := []) ⟨hx, hb, hml, hown, hts⟩ (c_X6_served l G q K n t hI (-1) (-1) _) (cwS 3 hts gX6_daysOn_X6_served rfl rfl rfl (by decide +kernel) ⟨Nat.le_of_ble_eq_true rfl, Nat.le_of_ble_eq_true rfl⟩) (zk_preS hE hA0 hS (zk_Papp hP0).1 (zk_Dapp hD0).1) rfl rfl hl.1 rfl (lv_room (Nat.le_of_ble_eq_true rfl)) dX6_daysOn_3 ⟨Nat.le_of_ble_eq_true rfl, Nat.le_of_ble_eq_true rfl⟩) hP0 hD0 hS hA (fun r1 u2 H locs q3 hP hD hS => ?_)
  subst q3
  have hP : va_P G.1 vwCl (zb_r G q K) H := zk_Pperm hP (show (zb_r G q K).Perm ((zb_r G q K) ++ (([] : va_W))) from (show (zb_r G q K).Perm (zb_r G q K) from List.Perm.refl _).trans (List.Perm.of_eq (by simp only [List.append_assoc, List.append_nil, List.nil_append]))).symm
  have hD : va_D A (zb_r G q K) := zk_Dperm hD (show (zb_r G q K).Perm ((zb_r G q K) ++ (([] : va_W))) from (show (zb_r G q K).Perm (zb_r G q K) from List.Perm.refl _).trans (List.Perm.of_eq (by simp only [List.append_assoc, List.append_nil, List.nil_append]))).symm
  refine lv_topi (fun x4 ex4 => ?_)
  refine lv_istore_n (lv' := [(2, .int x4), (0, .ref q), (1, .int (nI k))]) hx hb dX6_daysOn_6 rfl hl (by decide) rfl (fun ls hl => ?_)
  refine lv_iconst (v := nI 0) hx hb dX6_daysOn_7 (by decide) ?_
  refine lv_istore_n (lv' := [(3, .int (nI 0)), (2, .int x4), (0, .ref q), (1, .int (nI k))]) hx hb dX6_daysOn_8 rfl hl (by decide) rfl (fun ls hl => ?_)
  have lp5 : ∀ (n7 : Nat) (i : Nat) (X : zL), k - i < n7 → (i ≤ k) → (X = kDays n t i K) → (sInv X n (t + i)) → (X 0 2 = K 0 2) → ∀ (H : Heap) (locs : List Loc) (hP : va_P G.1 vwCl (zb_r G q X) H) (hD : va_D A (zb_r G q X)) (hS : va_S A s.heap H locs) (ls : Array Slot), lv_has ls 6 [(3, .int (nI i)), (2, .int x4), (0, .ref q), (1, .int (nI k))] → W p l E0 rmX6_daysOn s m args below meth cd H locs 0 0 Q (F0 m 9 ls []) := by
    intro n7
    induction n7 with
    | zero => intro i X hz; exact absurd hz (Nat.not_lt_zero _)
    | succ n7 ih6 =>
      intro i X hm hi hq hX hpX H locs hP hD hS ls hl
      refine lv_iload_n hx hb dX6_daysOn_9 rfl (lv_at hl 0 rfl) ?_
      refine lv_iload_n hx hb dX6_daysOn_10 rfl (lv_at hl 3 rfl) ?_
      refine lv_icmp_ge (tgt := 73) hx hb dX6_daysOn_11 (by decide) (fun h11_7 => ?_) (fun h11_7 => ?_)
      · have h11_7 := zk_le (by omega) (by omega) h11_7
        refine lv_aload_n hx hb dX6_daysOn_73 rfl (lv_at hl 2 rfl) ?_
        refine lv_iconst (v := -1) hx hb dX6_daysOn_74 (by decide) ?_
        refine lv_iconst (v := -1) hx hb dX6_daysOn_75 (by decide) ?_
        have hP0 : va_P G.1 vwCl ((zb_r G q X) ++ (([] : va_W))) H := zk_Pperm hP (show (zb_r G q X).Perm ((zb_r G q X) ++ (([] : va_W))) from (show (zb_r G q X).Perm (zb_r G q X) from List.Perm.refl _).trans (List.Perm.of_eq (by simp only [List.append_assoc, List.append_nil, List.nil_append])))
        have hD0 : va_D A ((zb_r G q X) ++ (([] : va_W))) := zk_Dperm hD (show (zb_r G q X).Perm ((zb_r G q X) ++ (([] : va_W))) from (show (zb_r G q X).Perm (zb_r G q X) from List.Perm.refl _).trans (List.Perm.of_eq (by simp only [List.append_assoc, List.append_nil, List.nil_append])))
        refine zk_callI (wr := ([] : va_W)) (va_runS (As := [.ref q, .int (-1), .int (-1)]) (rest := []) ⟨hx, hb, hml, hown, hts⟩ (c_X6_served l G q X n (t + i) hX (-1) (-1) _) (cwS 3 hts gX6_daysOn_X6_served rfl rfl rfl (by decide +kernel) ⟨Nat.le_of_ble_eq_true rfl, Nat.le_of_ble_eq_true rfl⟩) (zk_preS hE hA0 hS (zk_Papp hP0).1 (zk_Dapp hD0).1) rfl rfl hl.1 rfl (lv_room (Nat.le_of_ble_eq_true rfl)) dX6_daysOn_76 ⟨Nat.le_of_ble_eq_true rfl, Nat.le_of_ble_eq_true rfl⟩) hP0 hD0 hS hA (fun r9 u10 H locs q11 hP hD hS => ?_)
        subst q11
        have hP : va_P G.1 vwCl (zb_r G q X) H := zk_Pperm hP (show (zb_r G q X).Perm ((zb_r G q X) ++ (([] : va_W))) from (show (zb_r G q X).Perm (zb_r G q X) from List.Perm.refl _).trans (List.Perm.of_eq (by simp only [List.append_assoc, List.append_nil, List.nil_append]))).symm
        have hD : va_D A (zb_r G q X) := zk_Dperm hD (show (zb_r G q X).Perm ((zb_r G q X) ++ (([] : va_W))) from (show (zb_r G q X).Perm (zb_r G q X) from List.Perm.refl _).trans (List.Perm.of_eq (by simp only [List.append_assoc, List.append_nil, List.nil_append]))).symm
        refine lv_iload_n hx hb dX6_daysOn_79 rfl (lv_at hl 1 rfl) ?_
        refine lv_isub hx hb dX6_daysOn_80 ?_
        exact zk_reti X hQ hx hb hr hlocks hS hP hD (Nat.le_of_ble_eq_true rfl) (Nat.le_of_ble_eq_true rfl) dX6_daysOn_81 (⟨by rw [ex4], by rw [show i = k by omega] at hq; exact hq⟩)
      · have h11_7 := zk_nle (by omega) (by omega) h11_7
        refine lv_aload_n hx hb dX6_daysOn_14 rfl (lv_at hl 2 rfl) ?_
        refine lv_iconst (v := nI 0) hx hb dX6_daysOn_15 (by decide) ?_
        refine zk_ialdN hx hb hK hP 0 0 rfl rfl (k := 0) (n := 1555) (by omega) (by omega) dX6_daysOn_16 ?_
        refine zk_top (zrow_l X (c := 0) (by omega)) ?_
        refine zk_top hX.2.2.1 ?_
        refine lv_istore (lv' := [(4, .int (nI (t + i))), (3, .int (nI i)), (2, .int x4), (0, .ref q), (1, .int (nI k))]) hx hb dX6_daysOn_17 hl (by decide) rfl (fun ls hl => ?_)
        refine lv_iconst (v := nI 0) hx hb dX6_daysOn_19 (by decide) ?_
        refine lv_istore (lv' := [(5, .int (nI 0)), (4, .int (nI (t + i))), (3, .int (nI i)), (2, .int x4), (0, .ref q), (1, .int (nI k))]) hx hb dX6_daysOn_20 hl (by decide) rfl (fun ls hl => ?_)
        have lp12 : ∀ (n14 : Nat) (j : Nat) (Z : zL), n - j < n14 → (j ≤ n) → (Z = zfold (kDayC n (t + i)) j X) → (sInv Z n (t + i)) → (Z 0 2 = K 0 2) → ∀ (H : Heap) (locs : List Loc) (hP : va_P G.1 vwCl (zb_r G q Z) H) (hD : va_D A (zb_r G q Z)) (hS : va_S A s.heap H locs) (ls : Array Slot), lv_has ls 6 [(5, .int (nI j)), (4, .int (nI (t + i))), (3, .int (nI i)), (2, .int x4), (0, .ref q), (1, .int (nI k))] → W p l E0 rmX6_daysOn s m args below meth cd H locs 0 0 Q (F0 m 22 ls []) := by
          intro n14
          induction n14 with
          | zero => intro j Z hz; exact absurd hz (Nat.not_lt_zero _)
          | succ n14 ih13 =>
            intro j Z hm hj hrr hZ hpZ H locs hP hD hS ls hl
            refine lv_iload hx hb dX6_daysOn_22 (lv_at hl 0 rfl) ?_
            refine lv_aload_n hx hb dX6_daysOn_24 rfl (lv_at hl 4 rfl) ?_
            refine lv_iconst (v := nI 1) hx hb dX6_daysOn_25 (by decide) ?_
            refine zk_ialdN hx hb hK hP 0 0 rfl rfl (k := 1) (n := 1555) (by omega) (by omega) dX6_daysOn_26 ?_
            refine zk_top (zrow_l Z (c := 1) (by omega)) ?_
            refine zk_top hZ.1 ?_
            refine lv_icmp_ge (tgt := 60) hx hb dX6_daysOn_27 (by decide) (fun h27_14 => ?_) (fun h27_14 => ?_)
            · have h27_14 := zk_le (by omega) (by omega) h27_14
              refine lv_aload_n hx hb dX6_daysOn_60 rfl (lv_at hl 4 rfl) ?_
              refine lv_iconst (v := nI 0) hx hb dX6_daysOn_61 (by decide) ?_
              refine lv_dup2_11 hx hb dX6_daysOn_62 rfl rfl ?_
              refine zk_ialdN hx hb hK hP 0 0 rfl rfl (k := 0) (n := 1555) (by omega) (by omega) dX6_daysOn_63 ?_
              refine zk_top (zrow_l Z (c := 0) (by omega)) ?_
              refine zk_top hZ.2.2.1 ?_
              refine lv_iconst (v := nI 1) hx hb dX6_daysOn_64 (by decide) ?_
              refine zk_iaddN hx hb dX6_daysOn_65 ?_
              refine zk_iastN hx hb hK hP hD hS 0 0 rfl rfl (k := 0) (n := 1555) (by omega) (by omega) dX6_daysOn_66 (fun H locs hP hD hS => ?_)
              obtain ⟨L16, eL16⟩ : ∃ z : zL, z = up2 Z 0 0 (nI ((t + i) + 1)) := ⟨_, rfl⟩
              have hP : va_P G.1 vwCl (zb_r G q L16) H := by rw [eL16, show zb_r G q (up2 Z 0 0 (nI ((t + i) + 1))) = [zk_a q (G.2.1 0) 1555 (upd (zrow Z) 0 (nI ((t + i) + 1)))] from (congrArg (fun f => [zk_a q (G.2.1 0) 1555 f]) (zup_l Z (nI ((t + i) + 1)) (by omega))).symm]; exact hP
              have hD : va_D A (zb_r G q L16) := by rw [eL16, show zb_r G q (up2 Z 0 0 (nI ((t + i) + 1))) = [zk_a q (G.2.1 0) 1555 (upd (zrow Z) 0 (nI ((t + i) + 1)))] from (congrArg (fun f => [zk_a q (G.2.1 0) 1555 f]) (zup_l Z (nI ((t + i) + 1)) (by omega))).symm]; exact hD
              have hI17 : sInv L16 n ((t + i) + 1) := by rw [eL16]; exact sInv_today hZ (by omega)
              have hp18 : L16 0 2 = K 0 2 := by rw [eL16]; exact hpZ
              refine lv_iinc (v := nI (i + 1)) (lv' := [(3, .int (nI (i + 1))), (5, .int (nI j)), (4, .int (nI (t + i))), (2, .int x4), (0, .ref q), (1, .int (nI k))]) hx hb dX6_daysOn_67 hl (k := 2) rfl (zk_inc i 1) (by decide) rfl (fun ls hl => ?_)
              refine lv_goto (tgt := 9) hx hb dX6_daysOn_70 (by decide) ?_
              exact ih6 (i + 1) L16 (by omega) (by omega) (by rw [eL16]; show _ = kDay n (t + i) (kDays n t i K); rw [← hq]; unfold kDay; rw [show j = n by omega] at hrr; rw [← hrr]) (hI17) (hp18) _ _ hP hD hS ls (lv_sub hl [0, 3, 4, 5] rfl)
            · have h27_14 := zk_nle (by omega) (by omega) h27_14
              refine lv_aload_n hx hb dX6_daysOn_30 rfl (lv_at hl 4 rfl) ?_
              refine lv_bipush (v := nI 115) hx hb dX6_daysOn_31 (by decide) ?_
              refine lv_iload hx hb dX6_daysOn_33 (lv_at hl 0 rfl) ?_
              refine lv_iload hx hb dX6_daysOn_35 (lv_at hl 1 rfl) ?_
              have hP0 : va_P G.1 vwCl (([] : va_W) ++ (zb_r G q Z)) H := hP
              have hD0 : va_D A (([] : va_W) ++ (zb_r G q Z)) := hD
              refine zk_callI (wr := zb_r G q Z) (va_runS (As := [.int (nI j), .int (nI (t + i))]) (rest := [.int (nI 115), .ref q]) ⟨hx, hb, hml, hown, hts⟩ (c_X6_at l G j (t + i) _) (cwS 2 hts gX6_daysOn_X6_at rfl rfl rfl (by decide +kernel) ⟨Nat.le_of_ble_eq_true rfl, Nat.le_of_ble_eq_true rfl⟩) (zk_preS hE hA0 hS (zk_Papp hP0).1 (zk_Dapp hD0).1) rfl rfl hl.1 rfl (lv_room (Nat.le_of_ble_eq_true rfl)) dX6_daysOn_37 ⟨Nat.le_of_ble_eq_true rfl, Nat.le_of_ble_eq_true rfl⟩) hP0 hD0 hS hA (fun r19 u20 H locs q21 hP hD hS => ?_)
              subst q21
              have hP : va_P G.1 vwCl (zb_r G q Z) H := hP
              have hD : va_D A (zb_r G q Z) := hD
              refine zk_iaddN hx hb dX6_daysOn_40 ?_
              refine zk_ialdN hx hb hK hP 0 0 rfl rfl (k := (115 + (j * 40 + (t + i)))) (n := 1555) (by omega) (by omega) dX6_daysOn_41 ?_
              refine zk_top (zrow_9 Z (c := j * 40 + (t + i)) (by omega)) ?_
              refine lv_iconst (v := nI 1) hx hb dX6_daysOn_42 (by decide) ?_
              refine lv_icmp_ne (tgt := 54) hx hb dX6_daysOn_43 (by decide) (fun h43_21 => ?_) (fun h43_21 => ?_)
              · refine lv_iinc (v := nI (j + 1)) (lv' := [(5, .int (nI (j + 1))), (4, .int (nI (t + i))), (3, .int (nI i)), (2, .int x4), (0, .ref q), (1, .int (nI k))]) hx hb dX6_daysOn_54 hl (k := 0) rfl (zk_inc j 1) (by decide) rfl (fun ls hl => ?_)
                refine lv_goto (tgt := 22) hx hb dX6_daysOn_57 (by decide) ?_
                exact ih13 (j + 1) Z (by omega) (by omega) (by refine zfold_i (f := kDayC n (t + i)) hrr ?_; unfold kDayC; exact (if_neg h43_21).symm) (hZ) (hpZ) _ _ hP hD hS ls (lv_sub hl [0, 1, 2, 3, 4, 5] rfl)
              · refine lv_aload_n hx hb dX6_daysOn_46 rfl (lv_at hl 4 rfl) ?_
                refine lv_iload hx hb dX6_daysOn_47 (lv_at hl 0 rfl) ?_
                refine lv_iload hx hb dX6_daysOn_49 (lv_at hl 1 rfl) ?_
                have hP0 : va_P G.1 vwCl ((zb_r G q Z) ++ (([] : va_W))) H := zk_Pperm hP (show (zb_r G q Z).Perm ((zb_r G q Z) ++ (([] : va_W))) from (show (zb_r G q Z).Perm (zb_r G q Z) from List.Perm.refl _).trans (List.Perm.of_eq (by simp only [List.append_assoc, List.append_nil, List.nil_append])))
                have hD0 : va_D A ((zb_r G q Z) ++ (([] : va_W))) := zk_Dperm hD (show (zb_r G q Z).Perm ((zb_r G q Z) ++ (([] : va_W))) from (show (zb_r G q Z).Perm (zb_r G q Z) from List.Perm.refl _).trans (List.Perm.of_eq (by simp only [List.append_assoc, List.append_nil, List.nil_append])))
                refine zk_callV (wr := ([] : va_W)) (va_runS (As := [.ref q, .int (nI j), .int (nI (t + i))]) (rest := []) ⟨hx, hb, hml, hown, hts⟩ (c_X6_serve l G q Z n (t + i) hZ j (t + i) (by omega) (by omega) (by rw [hpZ]; exact hp0) _) (cwS 3 hts gX6_daysOn_X6_serve rfl rfl rfl (by decide +kernel) ⟨Nat.le_of_ble_eq_true rfl, Nat.le_of_ble_eq_true rfl⟩) (zk_preS hE hA0 hS (zk_Papp hP0).1 (zk_Dapp hD0).1) rfl rfl hl.1 rfl (lv_room (Nat.le_of_ble_eq_true rfl)) dX6_daysOn_51 ⟨Nat.le_of_ble_eq_true rfl, Nat.le_of_ble_eq_true rfl⟩) hP0 hD0 hS hA (fun u24 H locs q25 hP hD hS => ?_)
                have eL26 := q25
                have hI27 : sInv u24 n (t + i) := by rw [eL26]; exact sInv_serve hZ (by omega) (by omega) (by omega)
                have hp28 : u24 0 2 = K 0 2 := by rw [eL26]; exact (congrFun (sServe_r0 Z n j (t + i)) 2).trans hpZ
                have hP : va_P G.1 vwCl (zb_r G q u24) H := zk_Pperm hP (show (zb_r G q u24).Perm ((zb_r G q u24) ++ (([] : va_W))) from (show (zb_r G q u24).Perm (zb_r G q u24) from List.Perm.refl _).trans (List.Perm.of_eq (by simp only [List.append_assoc, List.append_nil, List.nil_append]))).symm
                have hD : va_D A (zb_r G q u24) := zk_Dperm hD (show (zb_r G q u24).Perm ((zb_r G q u24) ++ (([] : va_W))) from (show (zb_r G q u24).Perm (zb_r G q u24) from List.Perm.refl _).trans (List.Perm.of_eq (by simp only [List.append_assoc, List.append_nil, List.nil_append]))).symm
                refine lv_iinc (v := nI (j + 1)) (lv' := [(5, .int (nI (j + 1))), (4, .int (nI (t + i))), (3, .int (nI i)), (2, .int x4), (0, .ref q), (1, .int (nI k))]) hx hb dX6_daysOn_54 hl (k := 0) rfl (zk_inc j 1) (by decide) rfl (fun ls hl => ?_)
                refine lv_goto (tgt := 22) hx hb dX6_daysOn_57 (by decide) ?_
                exact ih13 (j + 1) u24 (by omega) (by omega) (by refine zfold_i (f := kDayC n (t + i)) hrr ?_; unfold kDayC; rw [if_pos h43_21]; exact eL26) (hI27) (hp28) _ _ hP hD hS ls (lv_sub hl [0, 1, 2, 3, 4, 5] rfl)
        exact lp12 _ 0 X (Nat.lt_succ_self _) (by omega) (rfl) (hX) (hpX) _ _ hP hD hS ls (lv_sub hl [0, 1, 2, 3, 4, 5] rfl)
  exact lp5 _ 0 K (Nat.lt_succ_self _) (by omega) (rfl) (hI) (rfl) _ _ hP hD hS ls (lv_sub hl [0, 1, 2, 3] rfl)

abbrev rmX6_entitleOn : Room := { frames := 2, cells := 0, slots := 0, locals := 47 }
set_option maxHeartbeats 4000000 in
set_option maxRecDepth 100000 in
/-- entitlement changes -/
theorem c_X6_entitleOn (l : Launch) (G : zk_G) (q : Nat) (K : zL) (n t : Nat) (hI : sInv K n t) (c : Nat) (fr to : Int32) (hc : c < n) : zk_I (S := zL) l yX6_entitleOn wsX6_entitleOn rmX6_entitleOn G [.ref q, .int (nI c), .int fr, .int to] (zb_r G q K) (fun r u => r = zs (u 3) n - zs (K 3) n ∧ u = sEntitle K t c fr to) (fun u => zb_r G q u) := by
  refine zk_bodyI (cc := cX6_entitleOn) (maxL := 8) (ret := (some .int)) (by decide) rfl (Nat.le_of_ble_eq_true rfl) ?_
  intro p E0 s m args below meth cd A ls Q hF hQ
  obtain ⟨hx, hb, hml, hr, hts, hown, hlocks, -, hE, hP, hD, hS, hA, hA0, hl⟩ := hF
  have hK := hE.1
  have hl : lv_has ls 8 [(0, .ref q), (1, .int (nI c)), (2, .int fr), (3, .int to)] := hl
  obtain ⟨hn, hn12, ht, ht40, hfam, hpay⟩ := id hI
  refine lv_aload_n hx hb dX6_entitleOn_0 rfl (lv_at hl 0 rfl) ?_
  refine lv_bipush (v := nI 69) hx hb dX6_entitleOn_1 (by decide) ?_
  refine lv_aload_n hx hb dX6_entitleOn_3 rfl (lv_at hl 0 rfl) ?_
  refine lv_iconst (v := nI 1) hx hb dX6_entitleOn_4 (by decide) ?_
  refine zk_ialdN hx hb hK hP 0 0 rfl rfl (k := 1) (n := 1555) (by omega) (by omega) dX6_entitleOn_5 ?_
  refine zk_top (zrow_l K (c := 1) (by omega)) ?_
  refine zk_top hI.1 ?_
  have hP0 : va_P G.1 vwCl ((zb_r G q K) ++ (([] : va_W))) s.heap := zk_Pperm hP (show (zb_r G q K).Perm ((zb_r G q K) ++ (([] : va_W))) from (show (zb_r G q K).Perm (zb_r G q K) from List.Perm.refl _).trans (List.Perm.of_eq (by simp only [List.append_assoc, List.append_nil, List.nil_append])))
  have hD0 : va_D A ((zb_r G q K) ++ (([] : va_W))) := zk_Dperm hD (show (zb_r G q K).Perm ((zb_r G q K) ++ (([] : va_W))) from (show (zb_r G q K).Perm (zb_r G q K) from List.Perm.refl _).trans (List.Perm.of_eq (by simp only [List.append_assoc, List.append_nil, List.nil_append])))
  refine zk_callI (wr := ([] : va_W)) (va_runS (As := [.ref q, .int (nI 69), .int (nI n)]) (rest := []) ⟨hx, hb, hml, hown, hts⟩ (c_X6_sum l G q K n t hI 69 n (by omega) _) (cwS 3 hts gX6_entitleOn_X6_sum rfl rfl rfl (by decide +kernel) ⟨Nat.le_of_ble_eq_true rfl, Nat.le_of_ble_eq_true rfl⟩) (zk_preS hE hA0 hS (zk_Papp hP0).1 (zk_Dapp hD0).1) rfl rfl hl.1 rfl (lv_room (Nat.le_of_ble_eq_true rfl)) dX6_entitleOn_6 ⟨Nat.le_of_ble_eq_true rfl, Nat.le_of_ble_eq_true rfl⟩) hP0 hD0 hS hA (fun r1 u2 H locs q3 hP hD hS => ?_)
  subst q3
  have hP : va_P G.1 vwCl (zb_r G q K) H := zk_Pperm hP (show (zb_r G q K).Perm ((zb_r G q K) ++ (([] : va_W))) from (show (zb_r G q K).Perm (zb_r G q K) from List.Perm.refl _).trans (List.Perm.of_eq (by simp only [List.append_assoc, List.append_nil, List.nil_append]))).symm
  have hD : va_D A (zb_r G q K) := zk_Dperm hD (show (zb_r G q K).Perm ((zb_r G q K) ++ (([] : va_W))) from (show (zb_r G q K).Perm (zb_r G q K) from List.Perm.refl _).trans (List.Perm.of_eq (by simp only [List.append_assoc, List.append_nil, List.nil_append]))).symm
  refine zk_top (zsum_3 K (by omega)) ?_
  refine lv_topi (fun x4 ex4 => ?_)
  refine lv_istore (lv' := [(4, .int x4), (0, .ref q), (1, .int (nI c)), (2, .int fr), (3, .int to)]) hx hb dX6_entitleOn_9 hl (by decide) rfl (fun ls hl => ?_)
  refine lv_aload_n hx hb dX6_entitleOn_11 rfl (lv_at hl 1 rfl) ?_
  refine lv_bipush (v := nI 81) hx hb dX6_entitleOn_12 (by decide) ?_
  refine lv_iload_n hx hb dX6_entitleOn_14 rfl (lv_at hl 2 rfl) ?_
  refine zk_iaddN hx hb dX6_entitleOn_15 ?_
  refine lv_iload_n hx hb dX6_entitleOn_16 rfl (lv_at hl 4 rfl) ?_
  refine lv_iconst (v := -1) hx hb dX6_entitleOn_17 (by decide) ?_
  refine lv_icmp_ne (tgt := 25) hx hb dX6_entitleOn_18 (by decide) (fun h18_4 => ?_) (fun h18_4 => ?_)
  · refine lv_iload_n hx hb dX6_entitleOn_25 rfl (lv_at hl 3 rfl) ?_
    refine zk_iastN hx hb hK hP hD hS 0 0 rfl rfl (k := (81 + c)) (n := 1555) (by omega) (by omega) dX6_entitleOn_26 (fun H locs hP hD hS => ?_)
    obtain ⟨L6, eL6⟩ : ∃ z : zL, z = up2 K 4 c fr := ⟨_, rfl⟩
    have hP : va_P G.1 vwCl (zb_r G q L6) H := by rw [eL6, show zb_r G q (up2 K 4 c fr) = [zk_a q (G.2.1 0) 1555 (upd (zrow K) (81 + c) fr)] from (congrArg (fun f => [zk_a q (G.2.1 0) 1555 f]) (zup_4 K fr (by omega))).symm]; exact hP
    have hD : va_D A (zb_r G q L6) := by rw [eL6, show zb_r G q (up2 K 4 c fr) = [zk_a q (G.2.1 0) 1555 (upd (zrow K) (81 + c) fr)] from (congrArg (fun f => [zk_a q (G.2.1 0) 1555 f]) (zup_4 K fr (by omega))).symm]; exact hD
    have hI7 : sInv L6 n t := by rw [eL6]; exact sInv_row hI rfl rfl rfl rfl
    refine lv_aload_n hx hb dX6_entitleOn_27 rfl (lv_at hl 1 rfl) ?_
    refine lv_bipush (v := nI 93) hx hb dX6_entitleOn_28 (by decide) ?_
    refine lv_iload_n hx hb dX6_entitleOn_30 rfl (lv_at hl 2 rfl) ?_
    refine zk_iaddN hx hb dX6_entitleOn_31 ?_
    refine lv_iload_n hx hb dX6_entitleOn_32 rfl (lv_at hl 4 rfl) ?_
    refine zk_iastN hx hb hK hP hD hS 0 0 rfl rfl (k := (93 + c)) (n := 1555) (by omega) (by omega) dX6_entitleOn_33 (fun H locs hP hD hS => ?_)
    obtain ⟨L8, eL8⟩ : ∃ z : zL, z = up2 L6 5 c to := ⟨_, rfl⟩
    have hP : va_P G.1 vwCl (zb_r G q L8) H := by rw [eL8, show zb_r G q (up2 L6 5 c to) = [zk_a q (G.2.1 0) 1555 (upd (zrow L6) (93 + c) to)] from (congrArg (fun f => [zk_a q (G.2.1 0) 1555 f]) (zup_5 L6 to (by omega))).symm]; exact hP
    have hD : va_D A (zb_r G q L8) := by rw [eL8, show zb_r G q (up2 L6 5 c to) = [zk_a q (G.2.1 0) 1555 (upd (zrow L6) (93 + c) to)] from (congrArg (fun f => [zk_a q (G.2.1 0) 1555 f]) (zup_5 L6 to (by omega))).symm]; exact hD
    have hI9 : sInv L8 n t := by rw [eL8]; exact sInv_row hI7 rfl rfl rfl rfl
    refine lv_iconst (v := nI 0) hx hb dX6_entitleOn_34 (by decide) ?_
    refine lv_istore (lv' := [(5, .int (nI 0)), (4, .int x4), (0, .ref q), (1, .int (nI c)), (2, .int fr), (3, .int to)]) hx hb dX6_entitleOn_35 hl (by decide) rfl (fun ls hl => ?_)
    have lp10 : ∀ (n12 : Nat) (i : Nat) (X : zL), t - i < n12 → (i ≤ t) → (X = sEntitle K i c fr to) → ∀ (H : Heap) (locs : List Loc) (hP : va_P G.1 vwCl (zb_r G q X) H) (hD : va_D A (zb_r G q X)) (hS : va_S A s.heap H locs) (ls : Array Slot), lv_has ls 8 [(5, .int (nI i)), (4, .int x4), (0, .ref q), (1, .int (nI c)), (2, .int fr), (3, .int to)] → W p l E0 rmX6_entitleOn s m args below meth cd H locs 0 0 Q (F0 m 37 ls []) := by
      intro n12
      induction n12 with
      | zero => intro i X hz; exact absurd hz (Nat.not_lt_zero _)
      | succ n12 ih11 =>
        intro i X hm hi hq H locs hP hD hS ls hl
        have hX : sInv X n t := by rw [hq]; exact sInv_entitle fr to hI hc hn12 i (by omega)
        refine lv_iload hx hb dX6_entitleOn_37 (lv_at hl 0 rfl) ?_
        refine lv_aload_n hx hb dX6_entitleOn_39 rfl (lv_at hl 2 rfl) ?_
        refine lv_iconst (v := nI 0) hx hb dX6_entitleOn_40 (by decide) ?_
        refine zk_ialdN hx hb hK hP 0 0 rfl rfl (k := 0) (n := 1555) (by omega) (by omega) dX6_entitleOn_41 ?_
        refine zk_top (zrow_l X (c := 0) (by omega)) ?_
        refine zk_top hX.2.2.1 ?_
        refine lv_icmp_ge (tgt := 175) hx hb dX6_entitleOn_42 (by decide) (fun h42_12 => ?_) (fun h42_12 => ?_)
        · have h42_12 := zk_le (by omega) (by omega) h42_12
          refine lv_aload_n hx hb dX6_entitleOn_175 rfl (lv_at hl 2 rfl) ?_
          refine lv_bipush (v := nI 69) hx hb dX6_entitleOn_176 (by decide) ?_
          refine lv_aload_n hx hb dX6_entitleOn_178 rfl (lv_at hl 2 rfl) ?_
          refine lv_iconst (v := nI 1) hx hb dX6_entitleOn_179 (by decide) ?_
          refine zk_ialdN hx hb hK hP 0 0 rfl rfl (k := 1) (n := 1555) (by omega) (by omega) dX6_entitleOn_180 ?_
          refine zk_top (zrow_l X (c := 1) (by omega)) ?_
          refine zk_top hX.1 ?_
          have hP0 : va_P G.1 vwCl ((zb_r G q X) ++ (([] : va_W))) H := zk_Pperm hP (show (zb_r G q X).Perm ((zb_r G q X) ++ (([] : va_W))) from (show (zb_r G q X).Perm (zb_r G q X) from List.Perm.refl _).trans (List.Perm.of_eq (by simp only [List.append_assoc, List.append_nil, List.nil_append])))
          have hD0 : va_D A ((zb_r G q X) ++ (([] : va_W))) := zk_Dperm hD (show (zb_r G q X).Perm ((zb_r G q X) ++ (([] : va_W))) from (show (zb_r G q X).Perm (zb_r G q X) from List.Perm.refl _).trans (List.Perm.of_eq (by simp only [List.append_assoc, List.append_nil, List.nil_append])))
          refine zk_callI (wr := ([] : va_W)) (va_runS (As := [.ref q, .int (nI 69), .int (nI n)]) (rest := []) ⟨hx, hb, hml, hown, hts⟩ (c_X6_sum l G q X n t hX 69 n (by omega) _) (cwS 3 hts gX6_entitleOn_X6_sum rfl rfl rfl (by decide +kernel) ⟨Nat.le_of_ble_eq_true rfl, Nat.le_of_ble_eq_true rfl⟩) (zk_preS hE hA0 hS (zk_Papp hP0).1 (zk_Dapp hD0).1) rfl rfl hl.1 rfl (lv_room (Nat.le_of_ble_eq_true rfl)) dX6_entitleOn_181 ⟨Nat.le_of_ble_eq_true rfl, Nat.le_of_ble_eq_true rfl⟩) hP0 hD0 hS hA (fun r14 u15 H locs q16 hP hD hS => ?_)
          subst q16
          have hP : va_P G.1 vwCl (zb_r G q X) H := zk_Pperm hP (show (zb_r G q X).Perm ((zb_r G q X) ++ (([] : va_W))) from (show (zb_r G q X).Perm (zb_r G q X) from List.Perm.refl _).trans (List.Perm.of_eq (by simp only [List.append_assoc, List.append_nil, List.nil_append]))).symm
          have hD : va_D A (zb_r G q X) := zk_Dperm hD (show (zb_r G q X).Perm ((zb_r G q X) ++ (([] : va_W))) from (show (zb_r G q X).Perm (zb_r G q X) from List.Perm.refl _).trans (List.Perm.of_eq (by simp only [List.append_assoc, List.append_nil, List.nil_append]))).symm
          refine zk_top (zsum_3 X (by omega)) ?_
          refine lv_iload hx hb dX6_entitleOn_184 (lv_at hl 1 rfl) ?_
          refine lv_isub hx hb dX6_entitleOn_186 ?_
          exact zk_reti X hQ hx hb hr hlocks hS hP hD (Nat.le_of_ble_eq_true rfl) (Nat.le_of_ble_eq_true rfl) dX6_entitleOn_187 (⟨by rw [ex4], by rw [show i = t by omega] at hq; exact hq⟩)
        · have h42_12 := zk_nle (by omega) (by omega) h42_12
          refine lv_iload_n hx hb dX6_entitleOn_45 rfl (lv_at hl 3 rfl) ?_
          refine lv_iload hx hb dX6_entitleOn_46 (lv_at hl 0 rfl) ?_
          have hP0 : va_P G.1 vwCl (([] : va_W) ++ (zb_r G q X)) H := hP
          have hD0 : va_D A (([] : va_W) ++ (zb_r G q X)) := hD
          refine zk_callI (wr := zb_r G q X) (va_runS (As := [.int (nI c), .int (nI i)]) (rest := []) ⟨hx, hb, hml, hown, hts⟩ (c_X6_at l G c i _) (cwS 2 hts gX6_entitleOn_X6_at rfl rfl rfl (by decide +kernel) ⟨Nat.le_of_ble_eq_true rfl, Nat.le_of_ble_eq_true rfl⟩) (zk_preS hE hA0 hS (zk_Papp hP0).1 (zk_Dapp hD0).1) rfl rfl hl.1 rfl (lv_room (Nat.le_of_ble_eq_true rfl)) dX6_entitleOn_48 ⟨Nat.le_of_ble_eq_true rfl, Nat.le_of_ble_eq_true rfl⟩) hP0 hD0 hS hA (fun r17 u18 H locs q19 hP hD hS => ?_)
          subst q19
          have hP : va_P G.1 vwCl (zb_r G q X) H := hP
          have hD : va_D A (zb_r G q X) := hD
          refine lv_istore (lv' := [(6, .int (nI (c * 40 + i))), (5, .int (nI i)), (4, .int x4), (0, .ref q), (1, .int (nI c)), (2, .int fr), (3, .int to)]) hx hb dX6_entitleOn_51 hl (by decide) rfl (fun ls hl => ?_)
          refine lv_aload_n hx hb dX6_entitleOn_53 rfl (lv_at hl 3 rfl) ?_
          refine lv_iload_n hx hb dX6_entitleOn_54 rfl (lv_at hl 4 rfl) ?_
          refine lv_iload hx hb dX6_entitleOn_55 (lv_at hl 1 rfl) ?_
          have hP0 : va_P G.1 vwCl ((zb_r G q X) ++ (([] : va_W))) H := zk_Pperm hP (show (zb_r G q X).Perm ((zb_r G q X) ++ (([] : va_W))) from (show (zb_r G q X).Perm (zb_r G q X) from List.Perm.refl _).trans (List.Perm.of_eq (by simp only [List.append_assoc, List.append_nil, List.nil_append])))
          have hD0 : va_D A ((zb_r G q X) ++ (([] : va_W))) := zk_Dperm hD (show (zb_r G q X).Perm ((zb_r G q X) ++ (([] : va_W))) from (show (zb_r G q X).Perm (zb_r G q X) from List.Perm.refl _).trans (List.Perm.of_eq (by simp only [List.append_assoc, List.append_nil, List.nil_append])))
          refine zk_callI (wr := ([] : va_W)) (va_runS (As := [.ref q, .int (nI c), .int (nI i)]) (rest := []) ⟨hx, hb, hml, hown, hts⟩ (c_X6_isEntitled l G q X n t hX c i (by omega) (by omega) _) (cwS 3 hts gX6_entitleOn_X6_isEntitled rfl rfl rfl (by decide +kernel) ⟨Nat.le_of_ble_eq_true rfl, Nat.le_of_ble_eq_true rfl⟩) (zk_preS hE hA0 hS (zk_Papp hP0).1 (zk_Dapp hD0).1) rfl rfl hl.1 rfl (lv_room (Nat.le_of_ble_eq_true rfl)) dX6_entitleOn_57 ⟨Nat.le_of_ble_eq_true rfl, Nat.le_of_ble_eq_true rfl⟩) hP0 hD0 hS hA (fun r20 u21 H locs q22 hP hD hS => ?_)
          subst q22
          have hP : va_P G.1 vwCl (zb_r G q X) H := zk_Pperm hP (show (zb_r G q X).Perm ((zb_r G q X) ++ (([] : va_W))) from (show (zb_r G q X).Perm (zb_r G q X) from List.Perm.refl _).trans (List.Perm.of_eq (by simp only [List.append_assoc, List.append_nil, List.nil_append]))).symm
          have hD : va_D A (zb_r G q X) := zk_Dperm hD (show (zb_r G q X).Perm ((zb_r G q X) ++ (([] : va_W))) from (show (zb_r G q X).Perm (zb_r G q X) from List.Perm.refl _).trans (List.Perm.of_eq (by simp only [List.append_assoc, List.append_nil, List.nil_append]))).symm
          refine lv_istore (lv' := [(7, .int ((if sEnt X c i then nI 1 else nI 0))), (6, .int (nI (c * 40 + i))), (5, .int (nI i)), (4, .int x4), (0, .ref q), (1, .int (nI c)), (2, .int fr), (3, .int to)]) hx hb dX6_entitleOn_60 hl (by decide) rfl (fun ls hl => ?_)
          refine lv_aload_n hx hb dX6_entitleOn_62 rfl (lv_at hl 4 rfl) ?_
          refine lv_bipush (v := nI 115) hx hb dX6_entitleOn_63 (by decide) ?_
          refine lv_iload hx hb dX6_entitleOn_65 (lv_at hl 1 rfl) ?_
          refine zk_iaddN hx hb dX6_entitleOn_67 ?_
          refine zk_ialdN hx hb hK hP 0 0 rfl rfl (k := (115 + (c * 40 + i))) (n := 1555) (by omega) (by omega) dX6_entitleOn_68 ?_
          refine zk_top (zrow_9 X (c := c * 40 + i) (by omega)) ?_
          refine lv_iconst (v := nI 2) hx hb dX6_entitleOn_69 (by decide) ?_
          refine lv_icmp_ne (tgt := 113) hx hb dX6_entitleOn_70 (by decide) (fun h70_22 => ?_) (fun h70_22 => ?_)
          · refine lv_aload_n hx hb dX6_entitleOn_113 rfl (lv_at hl 4 rfl) ?_
            refine lv_bipush (v := nI 115) hx hb dX6_entitleOn_114 (by decide) ?_
            refine lv_iload hx hb dX6_entitleOn_116 (lv_at hl 1 rfl) ?_
            refine zk_iaddN hx hb dX6_entitleOn_118 ?_
            refine zk_ialdN hx hb hK hP 0 0 rfl rfl (k := (115 + (c * 40 + i))) (n := 1555) (by omega) (by omega) dX6_entitleOn_119 ?_
            refine zk_top (zrow_9 X (c := c * 40 + i) (by omega)) ?_
            refine lv_iconst (v := nI 3) hx hb dX6_entitleOn_120 (by decide) ?_
            refine lv_icmp_ne (tgt := 169) hx hb dX6_entitleOn_121 (by decide) (fun h121_23 => ?_) (fun h121_23 => ?_)
            · refine lv_iinc (v := nI (i + 1)) (lv' := [(5, .int (nI (i + 1))), (7, .int ((if sEnt X c i then nI 1 else nI 0))), (6, .int (nI (c * 40 + i))), (4, .int x4), (0, .ref q), (1, .int (nI c)), (2, .int fr), (3, .int to)]) hx hb dX6_entitleOn_169 hl (k := 2) rfl (zk_inc i 1) (by decide) rfl (fun ls hl => ?_)
              refine lv_goto (tgt := 37) hx hb dX6_entitleOn_172 (by decide) ?_
              exact ih11 (i + 1) X (by omega) (by omega) (by refine zfold_i (f := fun d X => sSettle X c d) hq ?_; show _ = sSettle X c i; unfold sSettle; exact ((if_neg (fun z => h70_22 z.1)).trans (if_neg (fun z => h121_23 z.1))).symm) _ _ hP hD hS ls (lv_sub hl [0, 3, 4, 5, 6, 7] rfl)
            · refine lv_iload hx hb dX6_entitleOn_124 (lv_at hl 0 rfl) ?_
              refine lv_if_ne (tgt := 169) hx hb dX6_entitleOn_126 (by decide) (fun h126_24 => ?_) (fun h126_24 => ?_)
              · have h126_24 := zk_b1 h126_24
                refine lv_iinc (v := nI (i + 1)) (lv' := [(5, .int (nI (i + 1))), (7, .int ((if sEnt X c i then nI 1 else nI 0))), (6, .int (nI (c * 40 + i))), (4, .int x4), (0, .ref q), (1, .int (nI c)), (2, .int fr), (3, .int to)]) hx hb dX6_entitleOn_169 hl (k := 2) rfl (zk_inc i 1) (by decide) rfl (fun ls hl => ?_)
                refine lv_goto (tgt := 37) hx hb dX6_entitleOn_172 (by decide) ?_
                exact ih11 (i + 1) X (by omega) (by omega) (by refine zfold_i (f := fun d X => sSettle X c d) hq ?_; show _ = sSettle X c i; unfold sSettle; exact ((if_neg (fun z => h70_22 z.1)).trans (if_neg (fun z => z.2 h126_24))).symm) _ _ hP hD hS ls (lv_sub hl [0, 3, 4, 5, 6, 7] rfl)
              · have h126_24 := zk_b0 h126_24
                refine lv_aload_n hx hb dX6_entitleOn_129 rfl (lv_at hl 4 rfl) ?_
                refine lv_bipush (v := nI 69) hx hb dX6_entitleOn_130 (by decide) ?_
                refine lv_iload_n hx hb dX6_entitleOn_132 rfl (lv_at hl 5 rfl) ?_
                refine zk_iaddN hx hb dX6_entitleOn_133 ?_
                refine lv_dup2_11 hx hb dX6_entitleOn_134 rfl rfl ?_
                refine zk_ialdN hx hb hK hP 0 0 rfl rfl (k := (69 + c)) (n := 1555) (by omega) (by omega) dX6_entitleOn_135 ?_
                refine zk_top (zrow_3 X (c := c) (by omega)) ?_
                refine lv_aload_n hx hb dX6_entitleOn_136 rfl (lv_at hl 4 rfl) ?_
                refine lv_iconst (v := nI 2) hx hb dX6_entitleOn_137 (by decide) ?_
                refine zk_ialdN hx hb hK hP 0 0 rfl rfl (k := 2) (n := 1555) (by omega) (by omega) dX6_entitleOn_138 ?_
                refine zk_top (zrow_l X (c := 2) (by omega)) ?_
                refine lv_isub hx hb dX6_entitleOn_139 ?_
                refine lv_topi (fun x26 ex26 => ?_)
                refine zk_iastN hx hb hK hP hD hS 0 0 rfl rfl (k := (69 + c)) (n := 1555) (by omega) (by omega) dX6_entitleOn_140 (fun H locs hP hD hS => ?_)
                obtain ⟨L27, eL27⟩ : ∃ z : zL, z = up2 X 3 c x26 := ⟨_, rfl⟩
                have hP : va_P G.1 vwCl (zb_r G q L27) H := by rw [eL27, show zb_r G q (up2 X 3 c x26) = [zk_a q (G.2.1 0) 1555 (upd (zrow X) (69 + c) x26)] from (congrArg (fun f => [zk_a q (G.2.1 0) 1555 f]) (zup_3 X x26 (by omega))).symm]; exact hP
                have hD : va_D A (zb_r G q L27) := by rw [eL27, show zb_r G q (up2 X 3 c x26) = [zk_a q (G.2.1 0) 1555 (upd (zrow X) (69 + c) x26)] from (congrArg (fun f => [zk_a q (G.2.1 0) 1555 f]) (zup_3 X x26 (by omega))).symm]; exact hD
                have hI28 : sInv L27 n t := by rw [eL27]; exact sInv_row hX rfl rfl rfl rfl
                refine lv_aload_n hx hb dX6_entitleOn_141 rfl (lv_at hl 4 rfl) ?_
                refine lv_bipush (v := nI 115) hx hb dX6_entitleOn_142 (by decide) ?_
                refine lv_iload hx hb dX6_entitleOn_144 (lv_at hl 1 rfl) ?_
                refine zk_iaddN hx hb dX6_entitleOn_146 ?_
                refine lv_iconst (v := nI 2) hx hb dX6_entitleOn_147 (by decide) ?_
                refine zk_iastN hx hb hK hP hD hS 0 0 rfl rfl (k := (115 + (c * 40 + i))) (n := 1555) (by omega) (by omega) dX6_entitleOn_148 (fun H locs hP hD hS => ?_)
                obtain ⟨L29, eL29⟩ : ∃ z : zL, z = up2 L27 9 (c * 40 + i) (nI 2) := ⟨_, rfl⟩
                have hP : va_P G.1 vwCl (zb_r G q L29) H := by rw [eL29, show zb_r G q (up2 L27 9 (c * 40 + i) (nI 2)) = [zk_a q (G.2.1 0) 1555 (upd (zrow L27) (115 + (c * 40 + i)) (nI 2))] from (congrArg (fun f => [zk_a q (G.2.1 0) 1555 f]) (zup_9 L27 (nI 2) (by omega))).symm]; exact hP
                have hD : va_D A (zb_r G q L29) := by rw [eL29, show zb_r G q (up2 L27 9 (c * 40 + i) (nI 2)) = [zk_a q (G.2.1 0) 1555 (upd (zrow L27) (115 + (c * 40 + i)) (nI 2))] from (congrArg (fun f => [zk_a q (G.2.1 0) 1555 f]) (zup_9 L27 (nI 2) (by omega))).symm]; exact hD
                refine lv_aload_n hx hb dX6_entitleOn_149 rfl (lv_at hl 4 rfl) ?_
                refine lv_sipush (v := nI 595) hx hb dX6_entitleOn_150 (by decide) ?_
                refine lv_iload hx hb dX6_entitleOn_153 (lv_at hl 1 rfl) ?_
                refine zk_iaddN hx hb dX6_entitleOn_155 ?_
                refine lv_aload_n hx hb dX6_entitleOn_156 rfl (lv_at hl 4 rfl) ?_
                refine lv_iconst (v := nI 2) hx hb dX6_entitleOn_157 (by decide) ?_
                refine zk_ialdN hx hb hK hP 0 0 rfl rfl (k := 2) (n := 1555) (by omega) (by omega) dX6_entitleOn_158 ?_
                refine zk_top (zrow_l L29 (c := 2) (by omega)) ?_
                refine lv_topi (fun x30 ex30 => ?_)
                refine zk_iastN hx hb hK hP hD hS 0 0 rfl rfl (k := (595 + (c * 40 + i))) (n := 1555) (by omega) (by omega) dX6_entitleOn_159 (fun H locs hP hD hS => ?_)
                obtain ⟨L31, eL31⟩ : ∃ z : zL, z = up2 L29 10 (c * 40 + i) x30 := ⟨_, rfl⟩
                have hP : va_P G.1 vwCl (zb_r G q L31) H := by rw [eL31, show zb_r G q (up2 L29 10 (c * 40 + i) x30) = [zk_a q (G.2.1 0) 1555 (upd (zrow L29) (595 + (c * 40 + i)) x30)] from (congrArg (fun f => [zk_a q (G.2.1 0) 1555 f]) (zup_10 L29 x30 (by omega))).symm]; exact hP
                have hD : va_D A (zb_r G q L31) := by rw [eL31, show zb_r G q (up2 L29 10 (c * 40 + i) x30) = [zk_a q (G.2.1 0) 1555 (upd (zrow L29) (595 + (c * 40 + i)) x30)] from (congrArg (fun f => [zk_a q (G.2.1 0) 1555 f]) (zup_10 L29 x30 (by omega))).symm]; exact hD
                refine lv_aload_n hx hb dX6_entitleOn_160 rfl (lv_at hl 4 rfl) ?_
                refine lv_sipush (v := nI 1075) hx hb dX6_entitleOn_161 (by decide) ?_
                refine lv_iload hx hb dX6_entitleOn_164 (lv_at hl 1 rfl) ?_
                refine zk_iaddN hx hb dX6_entitleOn_166 ?_
                refine lv_iload_n hx hb dX6_entitleOn_167 rfl (lv_at hl 5 rfl) ?_
                refine zk_iastN hx hb hK hP hD hS 0 0 rfl rfl (k := (1075 + (c * 40 + i))) (n := 1555) (by omega) (by omega) dX6_entitleOn_168 (fun H locs hP hD hS => ?_)
                obtain ⟨L32, eL32⟩ : ∃ z : zL, z = up2 L31 11 (c * 40 + i) (nI c) := ⟨_, rfl⟩
                have hP : va_P G.1 vwCl (zb_r G q L32) H := by rw [eL32, show zb_r G q (up2 L31 11 (c * 40 + i) (nI c)) = [zk_a q (G.2.1 0) 1555 (upd (zrow L31) (1075 + (c * 40 + i)) (nI c))] from (congrArg (fun f => [zk_a q (G.2.1 0) 1555 f]) (zup_11 L31 (nI c) (by omega))).symm]; exact hP
                have hD : va_D A (zb_r G q L32) := by rw [eL32, show zb_r G q (up2 L31 11 (c * 40 + i) (nI c)) = [zk_a q (G.2.1 0) 1555 (upd (zrow L31) (1075 + (c * 40 + i)) (nI c))] from (congrArg (fun f => [zk_a q (G.2.1 0) 1555 f]) (zup_11 L31 (nI c) (by omega))).symm]; exact hD
                refine lv_iinc (v := nI (i + 1)) (lv' := [(5, .int (nI (i + 1))), (7, .int ((if sEnt X c i then nI 1 else nI 0))), (6, .int (nI (c * 40 + i))), (4, .int x4), (0, .ref q), (1, .int (nI c)), (2, .int fr), (3, .int to)]) hx hb dX6_entitleOn_169 hl (k := 2) rfl (zk_inc i 1) (by decide) rfl (fun ls hl => ?_)
                refine lv_goto (tgt := 37) hx hb dX6_entitleOn_172 (by decide) ?_
                exact ih11 (i + 1) L32 (by omega) (by omega) (by refine zfold_i (f := fun d X => sSettle X c d) hq ?_; show _ = sSettle X c i; unfold sSettle; rw [if_neg (fun z => h70_22 z.1), if_pos ⟨h121_23, h126_24⟩]; unfold sCharge; simp only [ex4, eL6, eL8, ex26, eL27, eL29, ex30, eL31, eL32]; rfl) _ _ hP hD hS ls (lv_sub hl [0, 3, 4, 5, 6, 7] rfl)
          · refine lv_iload hx hb dX6_entitleOn_73 (lv_at hl 0 rfl) ?_
            refine lv_if_eq (tgt := 113) hx hb dX6_entitleOn_75 (by decide) (fun h75_32 => ?_) (fun h75_32 => ?_)
            · have h75_32 := zk_b0 h75_32
              refine lv_aload_n hx hb dX6_entitleOn_113 rfl (lv_at hl 4 rfl) ?_
              refine lv_bipush (v := nI 115) hx hb dX6_entitleOn_114 (by decide) ?_
              refine lv_iload hx hb dX6_entitleOn_116 (lv_at hl 1 rfl) ?_
              refine zk_iaddN hx hb dX6_entitleOn_118 ?_
              refine zk_ialdN hx hb hK hP 0 0 rfl rfl (k := (115 + (c * 40 + i))) (n := 1555) (by omega) (by omega) dX6_entitleOn_119 ?_
              refine zk_top (zrow_9 X (c := c * 40 + i) (by omega)) ?_
              refine lv_iconst (v := nI 3) hx hb dX6_entitleOn_120 (by decide) ?_
              refine lv_icmp_ne (tgt := 169) hx hb dX6_entitleOn_121 (by decide) (fun h121_33 => ?_) (fun h121_33 => ?_)
              · refine lv_iinc (v := nI (i + 1)) (lv' := [(5, .int (nI (i + 1))), (7, .int ((if sEnt X c i then nI 1 else nI 0))), (6, .int (nI (c * 40 + i))), (4, .int x4), (0, .ref q), (1, .int (nI c)), (2, .int fr), (3, .int to)]) hx hb dX6_entitleOn_169 hl (k := 2) rfl (zk_inc i 1) (by decide) rfl (fun ls hl => ?_)
                refine lv_goto (tgt := 37) hx hb dX6_entitleOn_172 (by decide) ?_
                exact ih11 (i + 1) X (by omega) (by omega) (by refine zfold_i (f := fun d X => sSettle X c d) hq ?_; show _ = sSettle X c i; unfold sSettle; exact ((if_neg (fun z => h75_32 z.2)).trans (if_neg (fun z => h121_33 z.1))).symm) _ _ hP hD hS ls (lv_sub hl [0, 3, 4, 5, 6, 7] rfl)
              · refine lv_iload hx hb dX6_entitleOn_124 (lv_at hl 0 rfl) ?_
                refine lv_if_ne (tgt := 169) hx hb dX6_entitleOn_126 (by decide) (fun h126_34 => ?_) (fun h126_34 => ?_)
                · have h126_34 := zk_b1 h126_34
                  refine lv_iinc (v := nI (i + 1)) (lv' := [(5, .int (nI (i + 1))), (7, .int ((if sEnt X c i then nI 1 else nI 0))), (6, .int (nI (c * 40 + i))), (4, .int x4), (0, .ref q), (1, .int (nI c)), (2, .int fr), (3, .int to)]) hx hb dX6_entitleOn_169 hl (k := 2) rfl (zk_inc i 1) (by decide) rfl (fun ls hl => ?_)
                  refine lv_goto (tgt := 37) hx hb dX6_entitleOn_172 (by decide) ?_
                  exact ih11 (i + 1) X (by omega) (by omega) (by refine zfold_i (f := fun d X => sSettle X c d) hq ?_; show _ = sSettle X c i; unfold sSettle; exact ((if_neg (fun z => h75_32 z.2)).trans (if_neg (fun z => z.2 h126_34))).symm) _ _ hP hD hS ls (lv_sub hl [0, 3, 4, 5, 6, 7] rfl)
                · have h126_34 := zk_b0 h126_34
                  refine lv_aload_n hx hb dX6_entitleOn_129 rfl (lv_at hl 4 rfl) ?_
                  refine lv_bipush (v := nI 69) hx hb dX6_entitleOn_130 (by decide) ?_
                  refine lv_iload_n hx hb dX6_entitleOn_132 rfl (lv_at hl 5 rfl) ?_
                  refine zk_iaddN hx hb dX6_entitleOn_133 ?_
                  refine lv_dup2_11 hx hb dX6_entitleOn_134 rfl rfl ?_
                  refine zk_ialdN hx hb hK hP 0 0 rfl rfl (k := (69 + c)) (n := 1555) (by omega) (by omega) dX6_entitleOn_135 ?_
                  refine zk_top (zrow_3 X (c := c) (by omega)) ?_
                  refine lv_aload_n hx hb dX6_entitleOn_136 rfl (lv_at hl 4 rfl) ?_
                  refine lv_iconst (v := nI 2) hx hb dX6_entitleOn_137 (by decide) ?_
                  refine zk_ialdN hx hb hK hP 0 0 rfl rfl (k := 2) (n := 1555) (by omega) (by omega) dX6_entitleOn_138 ?_
                  refine zk_top (zrow_l X (c := 2) (by omega)) ?_
                  refine lv_isub hx hb dX6_entitleOn_139 ?_
                  refine lv_topi (fun x36 ex36 => ?_)
                  refine zk_iastN hx hb hK hP hD hS 0 0 rfl rfl (k := (69 + c)) (n := 1555) (by omega) (by omega) dX6_entitleOn_140 (fun H locs hP hD hS => ?_)
                  obtain ⟨L37, eL37⟩ : ∃ z : zL, z = up2 X 3 c x36 := ⟨_, rfl⟩
                  have hP : va_P G.1 vwCl (zb_r G q L37) H := by rw [eL37, show zb_r G q (up2 X 3 c x36) = [zk_a q (G.2.1 0) 1555 (upd (zrow X) (69 + c) x36)] from (congrArg (fun f => [zk_a q (G.2.1 0) 1555 f]) (zup_3 X x36 (by omega))).symm]; exact hP
                  have hD : va_D A (zb_r G q L37) := by rw [eL37, show zb_r G q (up2 X 3 c x36) = [zk_a q (G.2.1 0) 1555 (upd (zrow X) (69 + c) x36)] from (congrArg (fun f => [zk_a q (G.2.1 0) 1555 f]) (zup_3 X x36 (by omega))).symm]; exact hD
                  have hI38 : sInv L37 n t := by rw [eL37]; exact sInv_row hX rfl rfl rfl rfl
                  refine lv_aload_n hx hb dX6_entitleOn_141 rfl (lv_at hl 4 rfl) ?_
                  refine lv_bipush (v := nI 115) hx hb dX6_entitleOn_142 (by decide) ?_
                  refine lv_iload hx hb dX6_entitleOn_144 (lv_at hl 1 rfl) ?_
                  refine zk_iaddN hx hb dX6_entitleOn_146 ?_
                  refine lv_iconst (v := nI 2) hx hb dX6_entitleOn_147 (by decide) ?_
                  refine zk_iastN hx hb hK hP hD hS 0 0 rfl rfl (k := (115 + (c * 40 + i))) (n := 1555) (by omega) (by omega) dX6_entitleOn_148 (fun H locs hP hD hS => ?_)
                  obtain ⟨L39, eL39⟩ : ∃ z : zL, z = up2 L37 9 (c * 40 + i) (nI 2) := ⟨_, rfl⟩
                  have hP : va_P G.1 vwCl (zb_r G q L39) H := by rw [eL39, show zb_r G q (up2 L37 9 (c * 40 + i) (nI 2)) = [zk_a q (G.2.1 0) 1555 (upd (zrow L37) (115 + (c * 40 + i)) (nI 2))] from (congrArg (fun f => [zk_a q (G.2.1 0) 1555 f]) (zup_9 L37 (nI 2) (by omega))).symm]; exact hP
                  have hD : va_D A (zb_r G q L39) := by rw [eL39, show zb_r G q (up2 L37 9 (c * 40 + i) (nI 2)) = [zk_a q (G.2.1 0) 1555 (upd (zrow L37) (115 + (c * 40 + i)) (nI 2))] from (congrArg (fun f => [zk_a q (G.2.1 0) 1555 f]) (zup_9 L37 (nI 2) (by omega))).symm]; exact hD
                  refine lv_aload_n hx hb dX6_entitleOn_149 rfl (lv_at hl 4 rfl) ?_
                  refine lv_sipush (v := nI 595) hx hb dX6_entitleOn_150 (by decide) ?_
                  refine lv_iload hx hb dX6_entitleOn_153 (lv_at hl 1 rfl) ?_
                  refine zk_iaddN hx hb dX6_entitleOn_155 ?_
                  refine lv_aload_n hx hb dX6_entitleOn_156 rfl (lv_at hl 4 rfl) ?_
                  refine lv_iconst (v := nI 2) hx hb dX6_entitleOn_157 (by decide) ?_
                  refine zk_ialdN hx hb hK hP 0 0 rfl rfl (k := 2) (n := 1555) (by omega) (by omega) dX6_entitleOn_158 ?_
                  refine zk_top (zrow_l L39 (c := 2) (by omega)) ?_
                  refine lv_topi (fun x40 ex40 => ?_)
                  refine zk_iastN hx hb hK hP hD hS 0 0 rfl rfl (k := (595 + (c * 40 + i))) (n := 1555) (by omega) (by omega) dX6_entitleOn_159 (fun H locs hP hD hS => ?_)
                  obtain ⟨L41, eL41⟩ : ∃ z : zL, z = up2 L39 10 (c * 40 + i) x40 := ⟨_, rfl⟩
                  have hP : va_P G.1 vwCl (zb_r G q L41) H := by rw [eL41, show zb_r G q (up2 L39 10 (c * 40 + i) x40) = [zk_a q (G.2.1 0) 1555 (upd (zrow L39) (595 + (c * 40 + i)) x40)] from (congrArg (fun f => [zk_a q (G.2.1 0) 1555 f]) (zup_10 L39 x40 (by omega))).symm]; exact hP
                  have hD : va_D A (zb_r G q L41) := by rw [eL41, show zb_r G q (up2 L39 10 (c * 40 + i) x40) = [zk_a q (G.2.1 0) 1555 (upd (zrow L39) (595 + (c * 40 + i)) x40)] from (congrArg (fun f => [zk_a q (G.2.1 0) 1555 f]) (zup_10 L39 x40 (by omega))).symm]; exact hD
                  refine lv_aload_n hx hb dX6_entitleOn_160 rfl (lv_at hl 4 rfl) ?_
                  refine lv_sipush (v := nI 1075) hx hb dX6_entitleOn_161 (by decide) ?_
                  refine lv_iload hx hb dX6_entitleOn_164 (lv_at hl 1 rfl) ?_
                  refine zk_iaddN hx hb dX6_entitleOn_166 ?_
                  refine lv_iload_n hx hb dX6_entitleOn_167 rfl (lv_at hl 5 rfl) ?_
                  refine zk_iastN hx hb hK hP hD hS 0 0 rfl rfl (k := (1075 + (c * 40 + i))) (n := 1555) (by omega) (by omega) dX6_entitleOn_168 (fun H locs hP hD hS => ?_)
                  obtain ⟨L42, eL42⟩ : ∃ z : zL, z = up2 L41 11 (c * 40 + i) (nI c) := ⟨_, rfl⟩
                  have hP : va_P G.1 vwCl (zb_r G q L42) H := by rw [eL42, show zb_r G q (up2 L41 11 (c * 40 + i) (nI c)) = [zk_a q (G.2.1 0) 1555 (upd (zrow L41) (1075 + (c * 40 + i)) (nI c))] from (congrArg (fun f => [zk_a q (G.2.1 0) 1555 f]) (zup_11 L41 (nI c) (by omega))).symm]; exact hP
                  have hD : va_D A (zb_r G q L42) := by rw [eL42, show zb_r G q (up2 L41 11 (c * 40 + i) (nI c)) = [zk_a q (G.2.1 0) 1555 (upd (zrow L41) (1075 + (c * 40 + i)) (nI c))] from (congrArg (fun f => [zk_a q (G.2.1 0) 1555 f]) (zup_11 L41 (nI c) (by omega))).symm]; exact hD
                  refine lv_iinc (v := nI (i + 1)) (lv' := [(5, .int (nI (i + 1))), (7, .int ((if sEnt X c i then nI 1 else nI 0))), (6, .int (nI (c * 40 + i))), (4, .int x4), (0, .ref q), (1, .int (nI c)), (2, .int fr), (3, .int to)]) hx hb dX6_entitleOn_169 hl (k := 2) rfl (zk_inc i 1) (by decide) rfl (fun ls hl => ?_)
                  refine lv_goto (tgt := 37) hx hb dX6_entitleOn_172 (by decide) ?_
                  exact ih11 (i + 1) L42 (by omega) (by omega) (by refine zfold_i (f := fun d X => sSettle X c d) hq ?_; show _ = sSettle X c i; unfold sSettle; rw [if_neg (fun z => h75_32 z.2), if_pos ⟨h121_33, h126_34⟩]; unfold sCharge; simp only [ex4, eL6, eL8, ex36, eL37, eL39, ex40, eL41, eL42]; rfl) _ _ hP hD hS ls (lv_sub hl [0, 3, 4, 5, 6, 7] rfl)
            · have h75_32 := zk_b1 h75_32
              refine lv_aload_n hx hb dX6_entitleOn_78 rfl (lv_at hl 4 rfl) ?_
              refine lv_bipush (v := nI 69) hx hb dX6_entitleOn_79 (by decide) ?_
              refine lv_aload_n hx hb dX6_entitleOn_81 rfl (lv_at hl 4 rfl) ?_
              refine lv_sipush (v := nI 1075) hx hb dX6_entitleOn_82 (by decide) ?_
              refine lv_iload hx hb dX6_entitleOn_85 (lv_at hl 1 rfl) ?_
              refine zk_iaddN hx hb dX6_entitleOn_87 ?_
              refine zk_ialdN hx hb hK hP 0 0 rfl rfl (k := (1075 + (c * 40 + i))) (n := 1555) (by omega) (by omega) dX6_entitleOn_88 ?_
              refine zk_top (zrow_11 X (c := c * 40 + i) (by omega)) ?_
              obtain ⟨j, hj, ej⟩ := hX.2.2.2.2.2 (c * 40 + i) (by omega) h70_22
              refine zk_top ej ?_
              have nj := nI_clamp (show j < 2 ^ 31 by omega)
              refine zk_iaddN hx hb dX6_entitleOn_89 ?_
              refine lv_dup2_11 hx hb dX6_entitleOn_90 rfl rfl ?_
              refine zk_ialdN hx hb hK hP 0 0 rfl rfl (k := (69 + j)) (n := 1555) (by omega) (by omega) dX6_entitleOn_91 ?_
              refine zk_top (zrow_3 X (c := j) (by omega)) ?_
              refine lv_aload_n hx hb dX6_entitleOn_92 rfl (lv_at hl 4 rfl) ?_
              refine lv_sipush (v := nI 595) hx hb dX6_entitleOn_93 (by decide) ?_
              refine lv_iload hx hb dX6_entitleOn_96 (lv_at hl 1 rfl) ?_
              refine zk_iaddN hx hb dX6_entitleOn_98 ?_
              refine zk_ialdN hx hb hK hP 0 0 rfl rfl (k := (595 + (c * 40 + i))) (n := 1555) (by omega) (by omega) dX6_entitleOn_99 ?_
              refine zk_top (zrow_10 X (c := c * 40 + i) (by omega)) ?_
              refine lv_iadd hx hb dX6_entitleOn_100 ?_
              refine lv_topi (fun x43 ex43 => ?_)
              refine zk_iastN hx hb hK hP hD hS 0 0 rfl rfl (k := (69 + j)) (n := 1555) (by omega) (by omega) dX6_entitleOn_101 (fun H locs hP hD hS => ?_)
              obtain ⟨L44, eL44⟩ : ∃ z : zL, z = up2 X 3 j x43 := ⟨_, rfl⟩
              have hP : va_P G.1 vwCl (zb_r G q L44) H := by rw [eL44, show zb_r G q (up2 X 3 j x43) = [zk_a q (G.2.1 0) 1555 (upd (zrow X) (69 + j) x43)] from (congrArg (fun f => [zk_a q (G.2.1 0) 1555 f]) (zup_3 X x43 (by omega))).symm]; exact hP
              have hD : va_D A (zb_r G q L44) := by rw [eL44, show zb_r G q (up2 X 3 j x43) = [zk_a q (G.2.1 0) 1555 (upd (zrow X) (69 + j) x43)] from (congrArg (fun f => [zk_a q (G.2.1 0) 1555 f]) (zup_3 X x43 (by omega))).symm]; exact hD
              have hI45 : sInv L44 n t := by rw [eL44]; exact sInv_row hX rfl rfl rfl rfl
              refine lv_aload_n hx hb dX6_entitleOn_102 rfl (lv_at hl 4 rfl) ?_
              refine lv_bipush (v := nI 115) hx hb dX6_entitleOn_103 (by decide) ?_
              refine lv_iload hx hb dX6_entitleOn_105 (lv_at hl 1 rfl) ?_
              refine zk_iaddN hx hb dX6_entitleOn_107 ?_
              refine lv_iconst (v := nI 3) hx hb dX6_entitleOn_108 (by decide) ?_
              refine zk_iastN hx hb hK hP hD hS 0 0 rfl rfl (k := (115 + (c * 40 + i))) (n := 1555) (by omega) (by omega) dX6_entitleOn_109 (fun H locs hP hD hS => ?_)
              obtain ⟨L46, eL46⟩ : ∃ z : zL, z = up2 L44 9 (c * 40 + i) (nI 3) := ⟨_, rfl⟩
              have hP : va_P G.1 vwCl (zb_r G q L46) H := by rw [eL46, show zb_r G q (up2 L44 9 (c * 40 + i) (nI 3)) = [zk_a q (G.2.1 0) 1555 (upd (zrow L44) (115 + (c * 40 + i)) (nI 3))] from (congrArg (fun f => [zk_a q (G.2.1 0) 1555 f]) (zup_9 L44 (nI 3) (by omega))).symm]; exact hP
              have hD : va_D A (zb_r G q L46) := by rw [eL46, show zb_r G q (up2 L44 9 (c * 40 + i) (nI 3)) = [zk_a q (G.2.1 0) 1555 (upd (zrow L44) (115 + (c * 40 + i)) (nI 3))] from (congrArg (fun f => [zk_a q (G.2.1 0) 1555 f]) (zup_9 L44 (nI 3) (by omega))).symm]; exact hD
              refine lv_goto (tgt := 169) hx hb dX6_entitleOn_110 (by decide) ?_
              refine lv_iinc (v := nI (i + 1)) (lv' := [(5, .int (nI (i + 1))), (7, .int ((if sEnt X c i then nI 1 else nI 0))), (6, .int (nI (c * 40 + i))), (4, .int x4), (0, .ref q), (1, .int (nI c)), (2, .int fr), (3, .int to)]) hx hb dX6_entitleOn_169 hl (k := 2) rfl (zk_inc i 1) (by decide) rfl (fun ls hl => ?_)
              refine lv_goto (tgt := 37) hx hb dX6_entitleOn_172 (by decide) ?_
              exact ih11 (i + 1) L46 (by omega) (by omega) (by refine zfold_i (f := fun d X => sSettle X c d) hq ?_; show _ = sSettle X c i; unfold sSettle; rw [if_pos ⟨h70_22, h75_32⟩, ej, nj]; simp only [ex4, eL6, eL8, ex43, eL44, eL46]) _ _ hP hD hS ls (lv_sub hl [0, 3, 4, 5, 6, 7] rfl)
    exact lp10 _ 0 L8 (Nat.lt_succ_self _) (by omega) (by simp only [ex4, eL6, eL8]; unfold sEntitle; show _ = up2 (up2 K 4 c (if to = -1 then -1 else fr)) 5 c to; rw [if_neg h18_4]) _ _ hP hD hS ls (lv_sub hl [0, 1, 2, 3, 4, 5] rfl)
  · refine lv_iconst (v := -1) hx hb dX6_entitleOn_21 (by decide) ?_
    refine lv_goto (tgt := 26) hx hb dX6_entitleOn_22 (by decide) ?_
    refine lv_topi (fun x47 ex47 => ?_)
    refine zk_iastN hx hb hK hP hD hS 0 0 rfl rfl (k := (81 + c)) (n := 1555) (by omega) (by omega) dX6_entitleOn_26 (fun H locs hP hD hS => ?_)
    obtain ⟨L48, eL48⟩ : ∃ z : zL, z = up2 K 4 c x47 := ⟨_, rfl⟩
    have hP : va_P G.1 vwCl (zb_r G q L48) H := by rw [eL48, show zb_r G q (up2 K 4 c x47) = [zk_a q (G.2.1 0) 1555 (upd (zrow K) (81 + c) x47)] from (congrArg (fun f => [zk_a q (G.2.1 0) 1555 f]) (zup_4 K x47 (by omega))).symm]; exact hP
    have hD : va_D A (zb_r G q L48) := by rw [eL48, show zb_r G q (up2 K 4 c x47) = [zk_a q (G.2.1 0) 1555 (upd (zrow K) (81 + c) x47)] from (congrArg (fun f => [zk_a q (G.2.1 0) 1555 f]) (zup_4 K x47 (by omega))).symm]; exact hD
    have hI49 : sInv L48 n t := by rw [eL48]; exact sInv_row hI rfl rfl rfl rfl
    refine lv_aload_n hx hb dX6_entitleOn_27 rfl (lv_at hl 1 rfl) ?_
    refine lv_bipush (v := nI 93) hx hb dX6_entitleOn_28 (by decide) ?_
    refine lv_iload_n hx hb dX6_entitleOn_30 rfl (lv_at hl 2 rfl) ?_
    refine zk_iaddN hx hb dX6_entitleOn_31 ?_
    refine lv_iload_n hx hb dX6_entitleOn_32 rfl (lv_at hl 4 rfl) ?_
    refine zk_iastN hx hb hK hP hD hS 0 0 rfl rfl (k := (93 + c)) (n := 1555) (by omega) (by omega) dX6_entitleOn_33 (fun H locs hP hD hS => ?_)
    obtain ⟨L50, eL50⟩ : ∃ z : zL, z = up2 L48 5 c to := ⟨_, rfl⟩
    have hP : va_P G.1 vwCl (zb_r G q L50) H := by rw [eL50, show zb_r G q (up2 L48 5 c to) = [zk_a q (G.2.1 0) 1555 (upd (zrow L48) (93 + c) to)] from (congrArg (fun f => [zk_a q (G.2.1 0) 1555 f]) (zup_5 L48 to (by omega))).symm]; exact hP
    have hD : va_D A (zb_r G q L50) := by rw [eL50, show zb_r G q (up2 L48 5 c to) = [zk_a q (G.2.1 0) 1555 (upd (zrow L48) (93 + c) to)] from (congrArg (fun f => [zk_a q (G.2.1 0) 1555 f]) (zup_5 L48 to (by omega))).symm]; exact hD
    have hI51 : sInv L50 n t := by rw [eL50]; exact sInv_row hI49 rfl rfl rfl rfl
    refine lv_iconst (v := nI 0) hx hb dX6_entitleOn_34 (by decide) ?_
    refine lv_istore (lv' := [(5, .int (nI 0)), (4, .int x4), (0, .ref q), (1, .int (nI c)), (2, .int fr), (3, .int to)]) hx hb dX6_entitleOn_35 hl (by decide) rfl (fun ls hl => ?_)
    have lp52 : ∀ (n54 : Nat) (i : Nat) (X : zL), t - i < n54 → (i ≤ t) → (X = sEntitle K i c fr to) → ∀ (H : Heap) (locs : List Loc) (hP : va_P G.1 vwCl (zb_r G q X) H) (hD : va_D A (zb_r G q X)) (hS : va_S A s.heap H locs) (ls : Array Slot), lv_has ls 8 [(5, .int (nI i)), (4, .int x4), (0, .ref q), (1, .int (nI c)), (2, .int fr), (3, .int to)] → W p l E0 rmX6_entitleOn s m args below meth cd H locs 0 0 Q (F0 m 37 ls []) := by
      intro n54
      induction n54 with
      | zero => intro i X hz; exact absurd hz (Nat.not_lt_zero _)
      | succ n54 ih53 =>
        intro i X hm hi hq H locs hP hD hS ls hl
        have hX : sInv X n t := by rw [hq]; exact sInv_entitle fr to hI hc hn12 i (by omega)
        refine lv_iload hx hb dX6_entitleOn_37 (lv_at hl 0 rfl) ?_
        refine lv_aload_n hx hb dX6_entitleOn_39 rfl (lv_at hl 2 rfl) ?_
        refine lv_iconst (v := nI 0) hx hb dX6_entitleOn_40 (by decide) ?_
        refine zk_ialdN hx hb hK hP 0 0 rfl rfl (k := 0) (n := 1555) (by omega) (by omega) dX6_entitleOn_41 ?_
        refine zk_top (zrow_l X (c := 0) (by omega)) ?_
        refine zk_top hX.2.2.1 ?_
        refine lv_icmp_ge (tgt := 175) hx hb dX6_entitleOn_42 (by decide) (fun h42_54 => ?_) (fun h42_54 => ?_)
        · have h42_54 := zk_le (by omega) (by omega) h42_54
          refine lv_aload_n hx hb dX6_entitleOn_175 rfl (lv_at hl 2 rfl) ?_
          refine lv_bipush (v := nI 69) hx hb dX6_entitleOn_176 (by decide) ?_
          refine lv_aload_n hx hb dX6_entitleOn_178 rfl (lv_at hl 2 rfl) ?_
          refine lv_iconst (v := nI 1) hx hb dX6_entitleOn_179 (by decide) ?_
          refine zk_ialdN hx hb hK hP 0 0 rfl rfl (k := 1) (n := 1555) (by omega) (by omega) dX6_entitleOn_180 ?_
          refine zk_top (zrow_l X (c := 1) (by omega)) ?_
          refine zk_top hX.1 ?_
          have hP0 : va_P G.1 vwCl ((zb_r G q X) ++ (([] : va_W))) H := zk_Pperm hP (show (zb_r G q X).Perm ((zb_r G q X) ++ (([] : va_W))) from (show (zb_r G q X).Perm (zb_r G q X) from List.Perm.refl _).trans (List.Perm.of_eq (by simp only [List.append_assoc, List.append_nil, List.nil_append])))
          have hD0 : va_D A ((zb_r G q X) ++ (([] : va_W))) := zk_Dperm hD (show (zb_r G q X).Perm ((zb_r G q X) ++ (([] : va_W))) from (show (zb_r G q X).Perm (zb_r G q X) from List.Perm.refl _).trans (List.Perm.of_eq (by simp only [List.append_assoc, List.append_nil, List.nil_append])))
          refine zk_callI (wr := ([] : va_W)) (va_runS (As := [.ref q, .int (nI 69), .int (nI n)]) (rest := []) ⟨hx, hb, hml, hown, hts⟩ (c_X6_sum l G q X n t hX 69 n (by omega) _) (cwS 3 hts gX6_entitleOn_X6_sum rfl rfl rfl (by decide +kernel) ⟨Nat.le_of_ble_eq_true rfl, Nat.le_of_ble_eq_true rfl⟩) (zk_preS hE hA0 hS (zk_Papp hP0).1 (zk_Dapp hD0).1) rfl rfl hl.1 rfl (lv_room (Nat.le_of_ble_eq_true rfl)) dX6_entitleOn_181 ⟨Nat.le_of_ble_eq_true rfl, Nat.le_of_ble_eq_true rfl⟩) hP0 hD0 hS hA (fun r56 u57 H locs q58 hP hD hS => ?_)
          subst q58
          have hP : va_P G.1 vwCl (zb_r G q X) H := zk_Pperm hP (show (zb_r G q X).Perm ((zb_r G q X) ++ (([] : va_W))) from (show (zb_r G q X).Perm (zb_r G q X) from List.Perm.refl _).trans (List.Perm.of_eq (by simp only [List.append_assoc, List.append_nil, List.nil_append]))).symm
          have hD : va_D A (zb_r G q X) := zk_Dperm hD (show (zb_r G q X).Perm ((zb_r G q X) ++ (([] : va_W))) from (show (zb_r G q X).Perm (zb_r G q X) from List.Perm.refl _).trans (List.Perm.of_eq (by simp only [List.append_assoc, List.append_nil, List.nil_append]))).symm
          refine zk_top (zsum_3 X (by omega)) ?_
          refine lv_iload hx hb dX6_entitleOn_184 (lv_at hl 1 rfl) ?_
          refine lv_isub hx hb dX6_entitleOn_186 ?_
          exact zk_reti X hQ hx hb hr hlocks hS hP hD (Nat.le_of_ble_eq_true rfl) (Nat.le_of_ble_eq_true rfl) dX6_entitleOn_187 (⟨by rw [ex4], by rw [show i = t by omega] at hq; exact hq⟩)
        · have h42_54 := zk_nle (by omega) (by omega) h42_54
          refine lv_iload_n hx hb dX6_entitleOn_45 rfl (lv_at hl 3 rfl) ?_
          refine lv_iload hx hb dX6_entitleOn_46 (lv_at hl 0 rfl) ?_
          have hP0 : va_P G.1 vwCl (([] : va_W) ++ (zb_r G q X)) H := hP
          have hD0 : va_D A (([] : va_W) ++ (zb_r G q X)) := hD
          refine zk_callI (wr := zb_r G q X) (va_runS (As := [.int (nI c), .int (nI i)]) (rest := []) ⟨hx, hb, hml, hown, hts⟩ (c_X6_at l G c i _) (cwS 2 hts gX6_entitleOn_X6_at rfl rfl rfl (by decide +kernel) ⟨Nat.le_of_ble_eq_true rfl, Nat.le_of_ble_eq_true rfl⟩) (zk_preS hE hA0 hS (zk_Papp hP0).1 (zk_Dapp hD0).1) rfl rfl hl.1 rfl (lv_room (Nat.le_of_ble_eq_true rfl)) dX6_entitleOn_48 ⟨Nat.le_of_ble_eq_true rfl, Nat.le_of_ble_eq_true rfl⟩) hP0 hD0 hS hA (fun r59 u60 H locs q61 hP hD hS => ?_)
          subst q61
          have hP : va_P G.1 vwCl (zb_r G q X) H := hP
          have hD : va_D A (zb_r G q X) := hD
          refine lv_istore (lv' := [(6, .int (nI (c * 40 + i))), (5, .int (nI i)), (4, .int x4), (0, .ref q), (1, .int (nI c)), (2, .int fr), (3, .int to)]) hx hb dX6_entitleOn_51 hl (by decide) rfl (fun ls hl => ?_)
          refine lv_aload_n hx hb dX6_entitleOn_53 rfl (lv_at hl 3 rfl) ?_
          refine lv_iload_n hx hb dX6_entitleOn_54 rfl (lv_at hl 4 rfl) ?_
          refine lv_iload hx hb dX6_entitleOn_55 (lv_at hl 1 rfl) ?_
          have hP0 : va_P G.1 vwCl ((zb_r G q X) ++ (([] : va_W))) H := zk_Pperm hP (show (zb_r G q X).Perm ((zb_r G q X) ++ (([] : va_W))) from (show (zb_r G q X).Perm (zb_r G q X) from List.Perm.refl _).trans (List.Perm.of_eq (by simp only [List.append_assoc, List.append_nil, List.nil_append])))
          have hD0 : va_D A ((zb_r G q X) ++ (([] : va_W))) := zk_Dperm hD (show (zb_r G q X).Perm ((zb_r G q X) ++ (([] : va_W))) from (show (zb_r G q X).Perm (zb_r G q X) from List.Perm.refl _).trans (List.Perm.of_eq (by simp only [List.append_assoc, List.append_nil, List.nil_append])))
          refine zk_callI (wr := ([] : va_W)) (va_runS (As := [.ref q, .int (nI c), .int (nI i)]) (rest := []) ⟨hx, hb, hml, hown, hts⟩ (c_X6_isEntitled l G q X n t hX c i (by omega) (by omega) _) (cwS 3 hts gX6_entitleOn_X6_isEntitled rfl rfl rfl (by decide +kernel) ⟨Nat.le_of_ble_eq_true rfl, Nat.le_of_ble_eq_true rfl⟩) (zk_preS hE hA0 hS (zk_Papp hP0).1 (zk_Dapp hD0).1) rfl rfl hl.1 rfl (lv_room (Nat.le_of_ble_eq_true rfl)) dX6_entitleOn_57 ⟨Nat.le_of_ble_eq_true rfl, Nat.le_of_ble_eq_true rfl⟩) hP0 hD0 hS hA (fun r62 u63 H locs q64 hP hD hS => ?_)
          subst q64
          have hP : va_P G.1 vwCl (zb_r G q X) H := zk_Pperm hP (show (zb_r G q X).Perm ((zb_r G q X) ++ (([] : va_W))) from (show (zb_r G q X).Perm (zb_r G q X) from List.Perm.refl _).trans (List.Perm.of_eq (by simp only [List.append_assoc, List.append_nil, List.nil_append]))).symm
          have hD : va_D A (zb_r G q X) := zk_Dperm hD (show (zb_r G q X).Perm ((zb_r G q X) ++ (([] : va_W))) from (show (zb_r G q X).Perm (zb_r G q X) from List.Perm.refl _).trans (List.Perm.of_eq (by simp only [List.append_assoc, List.append_nil, List.nil_append]))).symm
          refine lv_istore (lv' := [(7, .int ((if sEnt X c i then nI 1 else nI 0))), (6, .int (nI (c * 40 + i))), (5, .int (nI i)), (4, .int x4), (0, .ref q), (1, .int (nI c)), (2, .int fr), (3, .int to)]) hx hb dX6_entitleOn_60 hl (by decide) rfl (fun ls hl => ?_)
          refine lv_aload_n hx hb dX6_entitleOn_62 rfl (lv_at hl 4 rfl) ?_
          refine lv_bipush (v := nI 115) hx hb dX6_entitleOn_63 (by decide) ?_
          refine lv_iload hx hb dX6_entitleOn_65 (lv_at hl 1 rfl) ?_
          refine zk_iaddN hx hb dX6_entitleOn_67 ?_
          refine zk_ialdN hx hb hK hP 0 0 rfl rfl (k := (115 + (c * 40 + i))) (n := 1555) (by omega) (by omega) dX6_entitleOn_68 ?_
          refine zk_top (zrow_9 X (c := c * 40 + i) (by omega)) ?_
          refine lv_iconst (v := nI 2) hx hb dX6_entitleOn_69 (by decide) ?_
          refine lv_icmp_ne (tgt := 113) hx hb dX6_entitleOn_70 (by decide) (fun h70_64 => ?_) (fun h70_64 => ?_)
          · refine lv_aload_n hx hb dX6_entitleOn_113 rfl (lv_at hl 4 rfl) ?_
            refine lv_bipush (v := nI 115) hx hb dX6_entitleOn_114 (by decide) ?_
            refine lv_iload hx hb dX6_entitleOn_116 (lv_at hl 1 rfl) ?_
            refine zk_iaddN hx hb dX6_entitleOn_118 ?_
            refine zk_ialdN hx hb hK hP 0 0 rfl rfl (k := (115 + (c * 40 + i))) (n := 1555) (by omega) (by omega) dX6_entitleOn_119 ?_
            refine zk_top (zrow_9 X (c := c * 40 + i) (by omega)) ?_
            refine lv_iconst (v := nI 3) hx hb dX6_entitleOn_120 (by decide) ?_
            refine lv_icmp_ne (tgt := 169) hx hb dX6_entitleOn_121 (by decide) (fun h121_65 => ?_) (fun h121_65 => ?_)
            · refine lv_iinc (v := nI (i + 1)) (lv' := [(5, .int (nI (i + 1))), (7, .int ((if sEnt X c i then nI 1 else nI 0))), (6, .int (nI (c * 40 + i))), (4, .int x4), (0, .ref q), (1, .int (nI c)), (2, .int fr), (3, .int to)]) hx hb dX6_entitleOn_169 hl (k := 2) rfl (zk_inc i 1) (by decide) rfl (fun ls hl => ?_)
              refine lv_goto (tgt := 37) hx hb dX6_entitleOn_172 (by decide) ?_
              exact ih53 (i + 1) X (by omega) (by omega) (by refine zfold_i (f := fun d X => sSettle X c d) hq ?_; show _ = sSettle X c i; unfold sSettle; exact ((if_neg (fun z => h70_64 z.1)).trans (if_neg (fun z => h121_65 z.1))).symm) _ _ hP hD hS ls (lv_sub hl [0, 3, 4, 5, 6, 7] rfl)
            · refine lv_iload hx hb dX6_entitleOn_124 (lv_at hl 0 rfl) ?_
              refine lv_if_ne (tgt := 169) hx hb dX6_entitleOn_126 (by decide) (fun h126_66 => ?_) (fun h126_66 => ?_)
              · have h126_66 := zk_b1 h126_66
                refine lv_iinc (v := nI (i + 1)) (lv' := [(5, .int (nI (i + 1))), (7, .int ((if sEnt X c i then nI 1 else nI 0))), (6, .int (nI (c * 40 + i))), (4, .int x4), (0, .ref q), (1, .int (nI c)), (2, .int fr), (3, .int to)]) hx hb dX6_entitleOn_169 hl (k := 2) rfl (zk_inc i 1) (by decide) rfl (fun ls hl => ?_)
                refine lv_goto (tgt := 37) hx hb dX6_entitleOn_172 (by decide) ?_
                exact ih53 (i + 1) X (by omega) (by omega) (by refine zfold_i (f := fun d X => sSettle X c d) hq ?_; show _ = sSettle X c i; unfold sSettle; exact ((if_neg (fun z => h70_64 z.1)).trans (if_neg (fun z => z.2 h126_66))).symm) _ _ hP hD hS ls (lv_sub hl [0, 3, 4, 5, 6, 7] rfl)
              · have h126_66 := zk_b0 h126_66
                refine lv_aload_n hx hb dX6_entitleOn_129 rfl (lv_at hl 4 rfl) ?_
                refine lv_bipush (v := nI 69) hx hb dX6_entitleOn_130 (by decide) ?_
                refine lv_iload_n hx hb dX6_entitleOn_132 rfl (lv_at hl 5 rfl) ?_
                refine zk_iaddN hx hb dX6_entitleOn_133 ?_
                refine lv_dup2_11 hx hb dX6_entitleOn_134 rfl rfl ?_
                refine zk_ialdN hx hb hK hP 0 0 rfl rfl (k := (69 + c)) (n := 1555) (by omega) (by omega) dX6_entitleOn_135 ?_
                refine zk_top (zrow_3 X (c := c) (by omega)) ?_
                refine lv_aload_n hx hb dX6_entitleOn_136 rfl (lv_at hl 4 rfl) ?_
                refine lv_iconst (v := nI 2) hx hb dX6_entitleOn_137 (by decide) ?_
                refine zk_ialdN hx hb hK hP 0 0 rfl rfl (k := 2) (n := 1555) (by omega) (by omega) dX6_entitleOn_138 ?_
                refine zk_top (zrow_l X (c := 2) (by omega)) ?_
                refine lv_isub hx hb dX6_entitleOn_139 ?_
                refine lv_topi (fun x68 ex68 => ?_)
                refine zk_iastN hx hb hK hP hD hS 0 0 rfl rfl (k := (69 + c)) (n := 1555) (by omega) (by omega) dX6_entitleOn_140 (fun H locs hP hD hS => ?_)
                obtain ⟨L69, eL69⟩ : ∃ z : zL, z = up2 X 3 c x68 := ⟨_, rfl⟩
                have hP : va_P G.1 vwCl (zb_r G q L69) H := by rw [eL69, show zb_r G q (up2 X 3 c x68) = [zk_a q (G.2.1 0) 1555 (upd (zrow X) (69 + c) x68)] from (congrArg (fun f => [zk_a q (G.2.1 0) 1555 f]) (zup_3 X x68 (by omega))).symm]; exact hP
                have hD : va_D A (zb_r G q L69) := by rw [eL69, show zb_r G q (up2 X 3 c x68) = [zk_a q (G.2.1 0) 1555 (upd (zrow X) (69 + c) x68)] from (congrArg (fun f => [zk_a q (G.2.1 0) 1555 f]) (zup_3 X x68 (by omega))).symm]; exact hD
                have hI70 : sInv L69 n t := by rw [eL69]; exact sInv_row hX rfl rfl rfl rfl
                refine lv_aload_n hx hb dX6_entitleOn_141 rfl (lv_at hl 4 rfl) ?_
                refine lv_bipush (v := nI 115) hx hb dX6_entitleOn_142 (by decide) ?_
                refine lv_iload hx hb dX6_entitleOn_144 (lv_at hl 1 rfl) ?_
                refine zk_iaddN hx hb dX6_entitleOn_146 ?_
                refine lv_iconst (v := nI 2) hx hb dX6_entitleOn_147 (by decide) ?_
                refine zk_iastN hx hb hK hP hD hS 0 0 rfl rfl (k := (115 + (c * 40 + i))) (n := 1555) (by omega) (by omega) dX6_entitleOn_148 (fun H locs hP hD hS => ?_)
                obtain ⟨L71, eL71⟩ : ∃ z : zL, z = up2 L69 9 (c * 40 + i) (nI 2) := ⟨_, rfl⟩
                have hP : va_P G.1 vwCl (zb_r G q L71) H := by rw [eL71, show zb_r G q (up2 L69 9 (c * 40 + i) (nI 2)) = [zk_a q (G.2.1 0) 1555 (upd (zrow L69) (115 + (c * 40 + i)) (nI 2))] from (congrArg (fun f => [zk_a q (G.2.1 0) 1555 f]) (zup_9 L69 (nI 2) (by omega))).symm]; exact hP
                have hD : va_D A (zb_r G q L71) := by rw [eL71, show zb_r G q (up2 L69 9 (c * 40 + i) (nI 2)) = [zk_a q (G.2.1 0) 1555 (upd (zrow L69) (115 + (c * 40 + i)) (nI 2))] from (congrArg (fun f => [zk_a q (G.2.1 0) 1555 f]) (zup_9 L69 (nI 2) (by omega))).symm]; exact hD
                refine lv_aload_n hx hb dX6_entitleOn_149 rfl (lv_at hl 4 rfl) ?_
                refine lv_sipush (v := nI 595) hx hb dX6_entitleOn_150 (by decide) ?_
                refine lv_iload hx hb dX6_entitleOn_153 (lv_at hl 1 rfl) ?_
                refine zk_iaddN hx hb dX6_entitleOn_155 ?_
                refine lv_aload_n hx hb dX6_entitleOn_156 rfl (lv_at hl 4 rfl) ?_
                refine lv_iconst (v := nI 2) hx hb dX6_entitleOn_157 (by decide) ?_
                refine zk_ialdN hx hb hK hP 0 0 rfl rfl (k := 2) (n := 1555) (by omega) (by omega) dX6_entitleOn_158 ?_
                refine zk_top (zrow_l L71 (c := 2) (by omega)) ?_
                refine lv_topi (fun x72 ex72 => ?_)
                refine zk_iastN hx hb hK hP hD hS 0 0 rfl rfl (k := (595 + (c * 40 + i))) (n := 1555) (by omega) (by omega) dX6_entitleOn_159 (fun H locs hP hD hS => ?_)
                obtain ⟨L73, eL73⟩ : ∃ z : zL, z = up2 L71 10 (c * 40 + i) x72 := ⟨_, rfl⟩
                have hP : va_P G.1 vwCl (zb_r G q L73) H := by rw [eL73, show zb_r G q (up2 L71 10 (c * 40 + i) x72) = [zk_a q (G.2.1 0) 1555 (upd (zrow L71) (595 + (c * 40 + i)) x72)] from (congrArg (fun f => [zk_a q (G.2.1 0) 1555 f]) (zup_10 L71 x72 (by omega))).symm]; exact hP
                have hD : va_D A (zb_r G q L73) := by rw [eL73, show zb_r G q (up2 L71 10 (c * 40 + i) x72) = [zk_a q (G.2.1 0) 1555 (upd (zrow L71) (595 + (c * 40 + i)) x72)] from (congrArg (fun f => [zk_a q (G.2.1 0) 1555 f]) (zup_10 L71 x72 (by omega))).symm]; exact hD
                refine lv_aload_n hx hb dX6_entitleOn_160 rfl (lv_at hl 4 rfl) ?_
                refine lv_sipush (v := nI 1075) hx hb dX6_entitleOn_161 (by decide) ?_
                refine lv_iload hx hb dX6_entitleOn_164 (lv_at hl 1 rfl) ?_
                refine zk_iaddN hx hb dX6_entitleOn_166 ?_
                refine lv_iload_n hx hb dX6_entitleOn_167 rfl (lv_at hl 5 rfl) ?_
                refine zk_iastN hx hb hK hP hD hS 0 0 rfl rfl (k := (1075 + (c * 40 + i))) (n := 1555) (by omega) (by omega) dX6_entitleOn_168 (fun H locs hP hD hS => ?_)
                obtain ⟨L74, eL74⟩ : ∃ z : zL, z = up2 L73 11 (c * 40 + i) (nI c) := ⟨_, rfl⟩
                have hP : va_P G.1 vwCl (zb_r G q L74) H := by rw [eL74, show zb_r G q (up2 L73 11 (c * 40 + i) (nI c)) = [zk_a q (G.2.1 0) 1555 (upd (zrow L73) (1075 + (c * 40 + i)) (nI c))] from (congrArg (fun f => [zk_a q (G.2.1 0) 1555 f]) (zup_11 L73 (nI c) (by omega))).symm]; exact hP
                have hD : va_D A (zb_r G q L74) := by rw [eL74, show zb_r G q (up2 L73 11 (c * 40 + i) (nI c)) = [zk_a q (G.2.1 0) 1555 (upd (zrow L73) (1075 + (c * 40 + i)) (nI c))] from (congrArg (fun f => [zk_a q (G.2.1 0) 1555 f]) (zup_11 L73 (nI c) (by omega))).symm]; exact hD
                refine lv_iinc (v := nI (i + 1)) (lv' := [(5, .int (nI (i + 1))), (7, .int ((if sEnt X c i then nI 1 else nI 0))), (6, .int (nI (c * 40 + i))), (4, .int x4), (0, .ref q), (1, .int (nI c)), (2, .int fr), (3, .int to)]) hx hb dX6_entitleOn_169 hl (k := 2) rfl (zk_inc i 1) (by decide) rfl (fun ls hl => ?_)
                refine lv_goto (tgt := 37) hx hb dX6_entitleOn_172 (by decide) ?_
                exact ih53 (i + 1) L74 (by omega) (by omega) (by refine zfold_i (f := fun d X => sSettle X c d) hq ?_; show _ = sSettle X c i; unfold sSettle; rw [if_neg (fun z => h70_64 z.1), if_pos ⟨h121_65, h126_66⟩]; unfold sCharge; simp only [ex4, ex47, eL48, eL50, ex68, eL69, eL71, ex72, eL73, eL74]; rfl) _ _ hP hD hS ls (lv_sub hl [0, 3, 4, 5, 6, 7] rfl)
          · refine lv_iload hx hb dX6_entitleOn_73 (lv_at hl 0 rfl) ?_
            refine lv_if_eq (tgt := 113) hx hb dX6_entitleOn_75 (by decide) (fun h75_74 => ?_) (fun h75_74 => ?_)
            · have h75_74 := zk_b0 h75_74
              refine lv_aload_n hx hb dX6_entitleOn_113 rfl (lv_at hl 4 rfl) ?_
              refine lv_bipush (v := nI 115) hx hb dX6_entitleOn_114 (by decide) ?_
              refine lv_iload hx hb dX6_entitleOn_116 (lv_at hl 1 rfl) ?_
              refine zk_iaddN hx hb dX6_entitleOn_118 ?_
              refine zk_ialdN hx hb hK hP 0 0 rfl rfl (k := (115 + (c * 40 + i))) (n := 1555) (by omega) (by omega) dX6_entitleOn_119 ?_
              refine zk_top (zrow_9 X (c := c * 40 + i) (by omega)) ?_
              refine lv_iconst (v := nI 3) hx hb dX6_entitleOn_120 (by decide) ?_
              refine lv_icmp_ne (tgt := 169) hx hb dX6_entitleOn_121 (by decide) (fun h121_75 => ?_) (fun h121_75 => ?_)
              · refine lv_iinc (v := nI (i + 1)) (lv' := [(5, .int (nI (i + 1))), (7, .int ((if sEnt X c i then nI 1 else nI 0))), (6, .int (nI (c * 40 + i))), (4, .int x4), (0, .ref q), (1, .int (nI c)), (2, .int fr), (3, .int to)]) hx hb dX6_entitleOn_169 hl (k := 2) rfl (zk_inc i 1) (by decide) rfl (fun ls hl => ?_)
                refine lv_goto (tgt := 37) hx hb dX6_entitleOn_172 (by decide) ?_
                exact ih53 (i + 1) X (by omega) (by omega) (by refine zfold_i (f := fun d X => sSettle X c d) hq ?_; show _ = sSettle X c i; unfold sSettle; exact ((if_neg (fun z => h75_74 z.2)).trans (if_neg (fun z => h121_75 z.1))).symm) _ _ hP hD hS ls (lv_sub hl [0, 3, 4, 5, 6, 7] rfl)
              · refine lv_iload hx hb dX6_entitleOn_124 (lv_at hl 0 rfl) ?_
                refine lv_if_ne (tgt := 169) hx hb dX6_entitleOn_126 (by decide) (fun h126_76 => ?_) (fun h126_76 => ?_)
                · have h126_76 := zk_b1 h126_76
                  refine lv_iinc (v := nI (i + 1)) (lv' := [(5, .int (nI (i + 1))), (7, .int ((if sEnt X c i then nI 1 else nI 0))), (6, .int (nI (c * 40 + i))), (4, .int x4), (0, .ref q), (1, .int (nI c)), (2, .int fr), (3, .int to)]) hx hb dX6_entitleOn_169 hl (k := 2) rfl (zk_inc i 1) (by decide) rfl (fun ls hl => ?_)
                  refine lv_goto (tgt := 37) hx hb dX6_entitleOn_172 (by decide) ?_
                  exact ih53 (i + 1) X (by omega) (by omega) (by refine zfold_i (f := fun d X => sSettle X c d) hq ?_; show _ = sSettle X c i; unfold sSettle; exact ((if_neg (fun z => h75_74 z.2)).trans (if_neg (fun z => z.2 h126_76))).symm) _ _ hP hD hS ls (lv_sub hl [0, 3, 4, 5, 6, 7] rfl)
                · have h126_76 := zk_b0 h126_76
                  refine lv_aload_n hx hb dX6_entitleOn_129 rfl (lv_at hl 4 rfl) ?_
                  refine lv_bipush (v := nI 69) hx hb dX6_entitleOn_130 (by decide) ?_
                  refine lv_iload_n hx hb dX6_entitleOn_132 rfl (lv_at hl 5 rfl) ?_
                  refine zk_iaddN hx hb dX6_entitleOn_133 ?_
                  refine lv_dup2_11 hx hb dX6_entitleOn_134 rfl rfl ?_
                  refine zk_ialdN hx hb hK hP 0 0 rfl rfl (k := (69 + c)) (n := 1555) (by omega) (by omega) dX6_entitleOn_135 ?_
                  refine zk_top (zrow_3 X (c := c) (by omega)) ?_
                  refine lv_aload_n hx hb dX6_entitleOn_136 rfl (lv_at hl 4 rfl) ?_
                  refine lv_iconst (v := nI 2) hx hb dX6_entitleOn_137 (by decide) ?_
                  refine zk_ialdN hx hb hK hP 0 0 rfl rfl (k := 2) (n := 1555) (by omega) (by omega) dX6_entitleOn_138 ?_
                  refine zk_top (zrow_l X (c := 2) (by omega)) ?_
                  refine lv_isub hx hb dX6_entitleOn_139 ?_
                  refine lv_topi (fun x78 ex78 => ?_)
                  refine zk_iastN hx hb hK hP hD hS 0 0 rfl rfl (k := (69 + c)) (n := 1555) (by omega) (by omega) dX6_entitleOn_140 (fun H locs hP hD hS => ?_)
                  obtain ⟨L79, eL79⟩ : ∃ z : zL, z = up2 X 3 c x78 := ⟨_, rfl⟩
                  have hP : va_P G.1 vwCl (zb_r G q L79) H := by rw [eL79, show zb_r G q (up2 X 3 c x78) = [zk_a q (G.2.1 0) 1555 (upd (zrow X) (69 + c) x78)] from (congrArg (fun f => [zk_a q (G.2.1 0) 1555 f]) (zup_3 X x78 (by omega))).symm]; exact hP
                  have hD : va_D A (zb_r G q L79) := by rw [eL79, show zb_r G q (up2 X 3 c x78) = [zk_a q (G.2.1 0) 1555 (upd (zrow X) (69 + c) x78)] from (congrArg (fun f => [zk_a q (G.2.1 0) 1555 f]) (zup_3 X x78 (by omega))).symm]; exact hD
                  have hI80 : sInv L79 n t := by rw [eL79]; exact sInv_row hX rfl rfl rfl rfl
                  refine lv_aload_n hx hb dX6_entitleOn_141 rfl (lv_at hl 4 rfl) ?_
                  refine lv_bipush (v := nI 115) hx hb dX6_entitleOn_142 (by decide) ?_
                  refine lv_iload hx hb dX6_entitleOn_144 (lv_at hl 1 rfl) ?_
                  refine zk_iaddN hx hb dX6_entitleOn_146 ?_
                  refine lv_iconst (v := nI 2) hx hb dX6_entitleOn_147 (by decide) ?_
                  refine zk_iastN hx hb hK hP hD hS 0 0 rfl rfl (k := (115 + (c * 40 + i))) (n := 1555) (by omega) (by omega) dX6_entitleOn_148 (fun H locs hP hD hS => ?_)
                  obtain ⟨L81, eL81⟩ : ∃ z : zL, z = up2 L79 9 (c * 40 + i) (nI 2) := ⟨_, rfl⟩
                  have hP : va_P G.1 vwCl (zb_r G q L81) H := by rw [eL81, show zb_r G q (up2 L79 9 (c * 40 + i) (nI 2)) = [zk_a q (G.2.1 0) 1555 (upd (zrow L79) (115 + (c * 40 + i)) (nI 2))] from (congrArg (fun f => [zk_a q (G.2.1 0) 1555 f]) (zup_9 L79 (nI 2) (by omega))).symm]; exact hP
                  have hD : va_D A (zb_r G q L81) := by rw [eL81, show zb_r G q (up2 L79 9 (c * 40 + i) (nI 2)) = [zk_a q (G.2.1 0) 1555 (upd (zrow L79) (115 + (c * 40 + i)) (nI 2))] from (congrArg (fun f => [zk_a q (G.2.1 0) 1555 f]) (zup_9 L79 (nI 2) (by omega))).symm]; exact hD
                  refine lv_aload_n hx hb dX6_entitleOn_149 rfl (lv_at hl 4 rfl) ?_
                  refine lv_sipush (v := nI 595) hx hb dX6_entitleOn_150 (by decide) ?_
                  refine lv_iload hx hb dX6_entitleOn_153 (lv_at hl 1 rfl) ?_
                  refine zk_iaddN hx hb dX6_entitleOn_155 ?_
                  refine lv_aload_n hx hb dX6_entitleOn_156 rfl (lv_at hl 4 rfl) ?_
                  refine lv_iconst (v := nI 2) hx hb dX6_entitleOn_157 (by decide) ?_
                  refine zk_ialdN hx hb hK hP 0 0 rfl rfl (k := 2) (n := 1555) (by omega) (by omega) dX6_entitleOn_158 ?_
                  refine zk_top (zrow_l L81 (c := 2) (by omega)) ?_
                  refine lv_topi (fun x82 ex82 => ?_)
                  refine zk_iastN hx hb hK hP hD hS 0 0 rfl rfl (k := (595 + (c * 40 + i))) (n := 1555) (by omega) (by omega) dX6_entitleOn_159 (fun H locs hP hD hS => ?_)
                  obtain ⟨L83, eL83⟩ : ∃ z : zL, z = up2 L81 10 (c * 40 + i) x82 := ⟨_, rfl⟩
                  have hP : va_P G.1 vwCl (zb_r G q L83) H := by rw [eL83, show zb_r G q (up2 L81 10 (c * 40 + i) x82) = [zk_a q (G.2.1 0) 1555 (upd (zrow L81) (595 + (c * 40 + i)) x82)] from (congrArg (fun f => [zk_a q (G.2.1 0) 1555 f]) (zup_10 L81 x82 (by omega))).symm]; exact hP
                  have hD : va_D A (zb_r G q L83) := by rw [eL83, show zb_r G q (up2 L81 10 (c * 40 + i) x82) = [zk_a q (G.2.1 0) 1555 (upd (zrow L81) (595 + (c * 40 + i)) x82)] from (congrArg (fun f => [zk_a q (G.2.1 0) 1555 f]) (zup_10 L81 x82 (by omega))).symm]; exact hD
                  refine lv_aload_n hx hb dX6_entitleOn_160 rfl (lv_at hl 4 rfl) ?_
                  refine lv_sipush (v := nI 1075) hx hb dX6_entitleOn_161 (by decide) ?_
                  refine lv_iload hx hb dX6_entitleOn_164 (lv_at hl 1 rfl) ?_
                  refine zk_iaddN hx hb dX6_entitleOn_166 ?_
                  refine lv_iload_n hx hb dX6_entitleOn_167 rfl (lv_at hl 5 rfl) ?_
                  refine zk_iastN hx hb hK hP hD hS 0 0 rfl rfl (k := (1075 + (c * 40 + i))) (n := 1555) (by omega) (by omega) dX6_entitleOn_168 (fun H locs hP hD hS => ?_)
                  obtain ⟨L84, eL84⟩ : ∃ z : zL, z = up2 L83 11 (c * 40 + i) (nI c) := ⟨_, rfl⟩
                  have hP : va_P G.1 vwCl (zb_r G q L84) H := by rw [eL84, show zb_r G q (up2 L83 11 (c * 40 + i) (nI c)) = [zk_a q (G.2.1 0) 1555 (upd (zrow L83) (1075 + (c * 40 + i)) (nI c))] from (congrArg (fun f => [zk_a q (G.2.1 0) 1555 f]) (zup_11 L83 (nI c) (by omega))).symm]; exact hP
                  have hD : va_D A (zb_r G q L84) := by rw [eL84, show zb_r G q (up2 L83 11 (c * 40 + i) (nI c)) = [zk_a q (G.2.1 0) 1555 (upd (zrow L83) (1075 + (c * 40 + i)) (nI c))] from (congrArg (fun f => [zk_a q (G.2.1 0) 1555 f]) (zup_11 L83 (nI c) (by omega))).symm]; exact hD
                  refine lv_iinc (v := nI (i + 1)) (lv' := [(5, .int (nI (i + 1))), (7, .int ((if sEnt X c i then nI 1 else nI 0))), (6, .int (nI (c * 40 + i))), (4, .int x4), (0, .ref q), (1, .int (nI c)), (2, .int fr), (3, .int to)]) hx hb dX6_entitleOn_169 hl (k := 2) rfl (zk_inc i 1) (by decide) rfl (fun ls hl => ?_)
                  refine lv_goto (tgt := 37) hx hb dX6_entitleOn_172 (by decide) ?_
                  exact ih53 (i + 1) L84 (by omega) (by omega) (by refine zfold_i (f := fun d X => sSettle X c d) hq ?_; show _ = sSettle X c i; unfold sSettle; rw [if_neg (fun z => h75_74 z.2), if_pos ⟨h121_75, h126_76⟩]; unfold sCharge; simp only [ex4, ex47, eL48, eL50, ex78, eL79, eL81, ex82, eL83, eL84]; rfl) _ _ hP hD hS ls (lv_sub hl [0, 3, 4, 5, 6, 7] rfl)
            · have h75_74 := zk_b1 h75_74
              refine lv_aload_n hx hb dX6_entitleOn_78 rfl (lv_at hl 4 rfl) ?_
              refine lv_bipush (v := nI 69) hx hb dX6_entitleOn_79 (by decide) ?_
              refine lv_aload_n hx hb dX6_entitleOn_81 rfl (lv_at hl 4 rfl) ?_
              refine lv_sipush (v := nI 1075) hx hb dX6_entitleOn_82 (by decide) ?_
              refine lv_iload hx hb dX6_entitleOn_85 (lv_at hl 1 rfl) ?_
              refine zk_iaddN hx hb dX6_entitleOn_87 ?_
              refine zk_ialdN hx hb hK hP 0 0 rfl rfl (k := (1075 + (c * 40 + i))) (n := 1555) (by omega) (by omega) dX6_entitleOn_88 ?_
              refine zk_top (zrow_11 X (c := c * 40 + i) (by omega)) ?_
              obtain ⟨j, hj, ej⟩ := hX.2.2.2.2.2 (c * 40 + i) (by omega) h70_64
              refine zk_top ej ?_
              have nj := nI_clamp (show j < 2 ^ 31 by omega)
              refine zk_iaddN hx hb dX6_entitleOn_89 ?_
              refine lv_dup2_11 hx hb dX6_entitleOn_90 rfl rfl ?_
              refine zk_ialdN hx hb hK hP 0 0 rfl rfl (k := (69 + j)) (n := 1555) (by omega) (by omega) dX6_entitleOn_91 ?_
              refine zk_top (zrow_3 X (c := j) (by omega)) ?_
              refine lv_aload_n hx hb dX6_entitleOn_92 rfl (lv_at hl 4 rfl) ?_
              refine lv_sipush (v := nI 595) hx hb dX6_entitleOn_93 (by decide) ?_
              refine lv_iload hx hb dX6_entitleOn_96 (lv_at hl 1 rfl) ?_
              refine zk_iaddN hx hb dX6_entitleOn_98 ?_
              refine zk_ialdN hx hb hK hP 0 0 rfl rfl (k := (595 + (c * 40 + i))) (n := 1555) (by omega) (by omega) dX6_entitleOn_99 ?_
              refine zk_top (zrow_10 X (c := c * 40 + i) (by omega)) ?_
              refine lv_iadd hx hb dX6_entitleOn_100 ?_
              refine lv_topi (fun x85 ex85 => ?_)
              refine zk_iastN hx hb hK hP hD hS 0 0 rfl rfl (k := (69 + j)) (n := 1555) (by omega) (by omega) dX6_entitleOn_101 (fun H locs hP hD hS => ?_)
              obtain ⟨L86, eL86⟩ : ∃ z : zL, z = up2 X 3 j x85 := ⟨_, rfl⟩
              have hP : va_P G.1 vwCl (zb_r G q L86) H := by rw [eL86, show zb_r G q (up2 X 3 j x85) = [zk_a q (G.2.1 0) 1555 (upd (zrow X) (69 + j) x85)] from (congrArg (fun f => [zk_a q (G.2.1 0) 1555 f]) (zup_3 X x85 (by omega))).symm]; exact hP
              have hD : va_D A (zb_r G q L86) := by rw [eL86, show zb_r G q (up2 X 3 j x85) = [zk_a q (G.2.1 0) 1555 (upd (zrow X) (69 + j) x85)] from (congrArg (fun f => [zk_a q (G.2.1 0) 1555 f]) (zup_3 X x85 (by omega))).symm]; exact hD
              have hI87 : sInv L86 n t := by rw [eL86]; exact sInv_row hX rfl rfl rfl rfl
              refine lv_aload_n hx hb dX6_entitleOn_102 rfl (lv_at hl 4 rfl) ?_
              refine lv_bipush (v := nI 115) hx hb dX6_entitleOn_103 (by decide) ?_
              refine lv_iload hx hb dX6_entitleOn_105 (lv_at hl 1 rfl) ?_
              refine zk_iaddN hx hb dX6_entitleOn_107 ?_
              refine lv_iconst (v := nI 3) hx hb dX6_entitleOn_108 (by decide) ?_
              refine zk_iastN hx hb hK hP hD hS 0 0 rfl rfl (k := (115 + (c * 40 + i))) (n := 1555) (by omega) (by omega) dX6_entitleOn_109 (fun H locs hP hD hS => ?_)
              obtain ⟨L88, eL88⟩ : ∃ z : zL, z = up2 L86 9 (c * 40 + i) (nI 3) := ⟨_, rfl⟩
              have hP : va_P G.1 vwCl (zb_r G q L88) H := by rw [eL88, show zb_r G q (up2 L86 9 (c * 40 + i) (nI 3)) = [zk_a q (G.2.1 0) 1555 (upd (zrow L86) (115 + (c * 40 + i)) (nI 3))] from (congrArg (fun f => [zk_a q (G.2.1 0) 1555 f]) (zup_9 L86 (nI 3) (by omega))).symm]; exact hP
              have hD : va_D A (zb_r G q L88) := by rw [eL88, show zb_r G q (up2 L86 9 (c * 40 + i) (nI 3)) = [zk_a q (G.2.1 0) 1555 (upd (zrow L86) (115 + (c * 40 + i)) (nI 3))] from (congrArg (fun f => [zk_a q (G.2.1 0) 1555 f]) (zup_9 L86 (nI 3) (by omega))).symm]; exact hD
              refine lv_goto (tgt := 169) hx hb dX6_entitleOn_110 (by decide) ?_
              refine lv_iinc (v := nI (i + 1)) (lv' := [(5, .int (nI (i + 1))), (7, .int ((if sEnt X c i then nI 1 else nI 0))), (6, .int (nI (c * 40 + i))), (4, .int x4), (0, .ref q), (1, .int (nI c)), (2, .int fr), (3, .int to)]) hx hb dX6_entitleOn_169 hl (k := 2) rfl (zk_inc i 1) (by decide) rfl (fun ls hl => ?_)
              refine lv_goto (tgt := 37) hx hb dX6_entitleOn_172 (by decide) ?_
              exact ih53 (i + 1) L88 (by omega) (by omega) (by refine zfold_i (f := fun d X => sSettle X c d) hq ?_; show _ = sSettle X c i; unfold sSettle; rw [if_pos ⟨h70_64, h75_74⟩, ej, nj]; simp only [ex4, ex47, eL48, eL50, ex85, eL86, eL88]) _ _ hP hD hS ls (lv_sub hl [0, 3, 4, 5, 6, 7] rfl)
    exact lp52 _ 0 L50 (Nat.lt_succ_self _) (by omega) (by simp only [ex4, ex47, eL48, eL50]; unfold sEntitle; show _ = up2 (up2 K 4 c (if to = -1 then -1 else fr)) 5 c to; rw [if_pos h18_4]) _ _ hP hD hS ls (lv_sub hl [0, 1, 2, 3, 4, 5] rfl)

abbrev rmX6_comeOn : Room := { frames := 0, cells := 0, slots := 0, locals := 0 }
set_option maxHeartbeats 4000000 in
set_option maxRecDepth 100000 in
/-- a child comes -/
theorem c_X6_comeOn (l : Launch) (G : zk_G) (q : Nat) (K : zL) (n t : Nat) (hI : sInv K n t) (f di : Int32) (hn2 : n < 12) : zk_I (S := zL) l yX6_comeOn wsX6_comeOn rmX6_comeOn G [.ref q, .int f, .int di] (zb_r G q K) (fun r u => r = nI n ∧ u = kCome K n f di) (fun u => zb_r G q u) := by
  refine zk_bodyI (cc := cX6_comeOn) (maxL := 4) (ret := (some .int)) (by decide) rfl (Nat.le_of_ble_eq_true rfl) ?_
  intro p E0 s m args below meth cd A ls Q hF hQ
  obtain ⟨hx, hb, hml, hr, hts, hown, hlocks, -, hE, hP, hD, hS, hA, hA0, hl⟩ := hF
  have hK := hE.1
  have hl : lv_has ls 4 [(0, .ref q), (1, .int f), (2, .int di)] := hl
  obtain ⟨hn, hn12, ht, ht40, hfam, hpay⟩ := id hI
  refine lv_aload_n hx hb dX6_comeOn_0 rfl (lv_at hl 0 rfl) ?_
  refine lv_iconst (v := nI 1) hx hb dX6_comeOn_1 (by decide) ?_
  refine zk_ialdN hx hb hK hP 0 0 rfl rfl (k := 1) (n := 1555) (by omega) (by omega) dX6_comeOn_2 ?_
  refine zk_top (zrow_l K (c := 1) (by omega)) ?_
  refine zk_top hI.1 ?_
  refine lv_istore_n (lv' := [(3, .int (nI n)), (0, .ref q), (1, .int f), (2, .int di)]) hx hb dX6_comeOn_3 rfl hl (by decide) rfl (fun ls hl => ?_)
  refine lv_aload_n hx hb dX6_comeOn_4 rfl (lv_at hl 1 rfl) ?_
  refine lv_bipush (v := nI 45) hx hb dX6_comeOn_5 (by decide) ?_
  refine lv_iload_n hx hb dX6_comeOn_7 rfl (lv_at hl 0 rfl) ?_
  refine zk_iaddN hx hb dX6_comeOn_8 ?_
  refine lv_iload_n hx hb dX6_comeOn_9 rfl (lv_at hl 2 rfl) ?_
  refine zk_iastN hx hb hK hP hD hS 0 0 rfl rfl (k := (45 + n)) (n := 1555) (by omega) (by omega) dX6_comeOn_10 (fun H locs hP hD hS => ?_)
  obtain ⟨L1, eL1⟩ : ∃ z : zL, z = up2 K 1 n f := ⟨_, rfl⟩
  have hP : va_P G.1 vwCl (zb_r G q L1) H := by rw [eL1, show zb_r G q (up2 K 1 n f) = [zk_a q (G.2.1 0) 1555 (upd (zrow K) (45 + n) f)] from (congrArg (fun f => [zk_a q (G.2.1 0) 1555 f]) (zup_1 K f (by omega))).symm]; exact hP
  have hD : va_D A (zb_r G q L1) := by rw [eL1, show zb_r G q (up2 K 1 n f) = [zk_a q (G.2.1 0) 1555 (upd (zrow K) (45 + n) f)] from (congrArg (fun f => [zk_a q (G.2.1 0) 1555 f]) (zup_1 K f (by omega))).symm]; exact hD
  refine lv_aload_n hx hb dX6_comeOn_11 rfl (lv_at hl 1 rfl) ?_
  refine lv_bipush (v := nI 57) hx hb dX6_comeOn_12 (by decide) ?_
  refine lv_iload_n hx hb dX6_comeOn_14 rfl (lv_at hl 0 rfl) ?_
  refine zk_iaddN hx hb dX6_comeOn_15 ?_
  refine lv_iload_n hx hb dX6_comeOn_16 rfl (lv_at hl 3 rfl) ?_
  refine zk_iastN hx hb hK hP hD hS 0 0 rfl rfl (k := (57 + n)) (n := 1555) (by omega) (by omega) dX6_comeOn_17 (fun H locs hP hD hS => ?_)
  obtain ⟨L2, eL2⟩ : ∃ z : zL, z = up2 L1 2 n di := ⟨_, rfl⟩
  have hP : va_P G.1 vwCl (zb_r G q L2) H := by rw [eL2, show zb_r G q (up2 L1 2 n di) = [zk_a q (G.2.1 0) 1555 (upd (zrow L1) (57 + n) di)] from (congrArg (fun f => [zk_a q (G.2.1 0) 1555 f]) (zup_2 L1 di (by omega))).symm]; exact hP
  have hD : va_D A (zb_r G q L2) := by rw [eL2, show zb_r G q (up2 L1 2 n di) = [zk_a q (G.2.1 0) 1555 (upd (zrow L1) (57 + n) di)] from (congrArg (fun f => [zk_a q (G.2.1 0) 1555 f]) (zup_2 L1 di (by omega))).symm]; exact hD
  refine lv_aload_n hx hb dX6_comeOn_18 rfl (lv_at hl 1 rfl) ?_
  refine lv_bipush (v := nI 81) hx hb dX6_comeOn_19 (by decide) ?_
  refine lv_iload_n hx hb dX6_comeOn_21 rfl (lv_at hl 0 rfl) ?_
  refine zk_iaddN hx hb dX6_comeOn_22 ?_
  refine lv_iconst (v := -1) hx hb dX6_comeOn_23 (by decide) ?_
  refine lv_topi (fun x3 ex3 => ?_)
  refine zk_iastN hx hb hK hP hD hS 0 0 rfl rfl (k := (81 + n)) (n := 1555) (by omega) (by omega) dX6_comeOn_24 (fun H locs hP hD hS => ?_)
  obtain ⟨L4, eL4⟩ : ∃ z : zL, z = up2 L2 4 n x3 := ⟨_, rfl⟩
  have hP : va_P G.1 vwCl (zb_r G q L4) H := by rw [eL4, show zb_r G q (up2 L2 4 n x3) = [zk_a q (G.2.1 0) 1555 (upd (zrow L2) (81 + n) x3)] from (congrArg (fun f => [zk_a q (G.2.1 0) 1555 f]) (zup_4 L2 x3 (by omega))).symm]; exact hP
  have hD : va_D A (zb_r G q L4) := by rw [eL4, show zb_r G q (up2 L2 4 n x3) = [zk_a q (G.2.1 0) 1555 (upd (zrow L2) (81 + n) x3)] from (congrArg (fun f => [zk_a q (G.2.1 0) 1555 f]) (zup_4 L2 x3 (by omega))).symm]; exact hD
  refine lv_aload_n hx hb dX6_comeOn_25 rfl (lv_at hl 1 rfl) ?_
  refine lv_bipush (v := nI 93) hx hb dX6_comeOn_26 (by decide) ?_
  refine lv_iload_n hx hb dX6_comeOn_28 rfl (lv_at hl 0 rfl) ?_
  refine zk_iaddN hx hb dX6_comeOn_29 ?_
  refine lv_iconst (v := -1) hx hb dX6_comeOn_30 (by decide) ?_
  refine lv_topi (fun x5 ex5 => ?_)
  refine zk_iastN hx hb hK hP hD hS 0 0 rfl rfl (k := (93 + n)) (n := 1555) (by omega) (by omega) dX6_comeOn_31 (fun H locs hP hD hS => ?_)
  obtain ⟨L6, eL6⟩ : ∃ z : zL, z = up2 L4 5 n x5 := ⟨_, rfl⟩
  have hP : va_P G.1 vwCl (zb_r G q L6) H := by rw [eL6, show zb_r G q (up2 L4 5 n x5) = [zk_a q (G.2.1 0) 1555 (upd (zrow L4) (93 + n) x5)] from (congrArg (fun f => [zk_a q (G.2.1 0) 1555 f]) (zup_5 L4 x5 (by omega))).symm]; exact hP
  have hD : va_D A (zb_r G q L6) := by rw [eL6, show zb_r G q (up2 L4 5 n x5) = [zk_a q (G.2.1 0) 1555 (upd (zrow L4) (93 + n) x5)] from (congrArg (fun f => [zk_a q (G.2.1 0) 1555 f]) (zup_5 L4 x5 (by omega))).symm]; exact hD
  refine lv_aload_n hx hb dX6_comeOn_32 rfl (lv_at hl 1 rfl) ?_
  refine lv_iconst (v := nI 1) hx hb dX6_comeOn_33 (by decide) ?_
  refine lv_dup2_11 hx hb dX6_comeOn_34 rfl rfl ?_
  refine zk_ialdN hx hb hK hP 0 0 rfl rfl (k := 1) (n := 1555) (by omega) (by omega) dX6_comeOn_35 ?_
  refine zk_top (zrow_l L6 (c := 1) (by omega)) ?_
  refine lv_iconst (v := nI 1) hx hb dX6_comeOn_36 (by decide) ?_
  refine lv_iadd hx hb dX6_comeOn_37 ?_
  refine lv_topi (fun x7 ex7 => ?_)
  refine zk_iastN hx hb hK hP hD hS 0 0 rfl rfl (k := 1) (n := 1555) (by omega) (by omega) dX6_comeOn_38 (fun H locs hP hD hS => ?_)
  obtain ⟨L8, eL8⟩ : ∃ z : zL, z = up2 L6 0 1 x7 := ⟨_, rfl⟩
  have hP : va_P G.1 vwCl (zb_r G q L8) H := by rw [eL8, show zb_r G q (up2 L6 0 1 x7) = [zk_a q (G.2.1 0) 1555 (upd (zrow L6) 1 x7)] from (congrArg (fun f => [zk_a q (G.2.1 0) 1555 f]) (zup_l L6 x7 (by omega))).symm]; exact hP
  have hD : va_D A (zb_r G q L8) := by rw [eL8, show zb_r G q (up2 L6 0 1 x7) = [zk_a q (G.2.1 0) 1555 (upd (zrow L6) 1 x7)] from (congrArg (fun f => [zk_a q (G.2.1 0) 1555 f]) (zup_l L6 x7 (by omega))).symm]; exact hD
  refine lv_iload_n hx hb dX6_comeOn_39 rfl (lv_at hl 0 rfl) ?_
  exact zk_reti L8 hQ hx hb hr hlocks hS hP hD (Nat.le_of_ble_eq_true rfl) (Nat.le_of_ble_eq_true rfl) dX6_comeOn_40 (⟨rfl, by simp only [eL1, eL2, ex3, eL4, ex5, eL6, ex7, eL8]; show up2 (up2 (up2 (up2 (up2 K 1 n f) 2 n di) 4 n (-1)) 5 n (-1)) 0 1 (K 0 1 + nI 1) = kCome K n f di; rw [hn, nI_add]; rfl⟩)

abbrev rmX6_orderOn : Room := { frames := 2, cells := 0, slots := 0, locals := 48 }
set_option maxHeartbeats 4000000 in
set_option maxRecDepth 100000 in
/-- a meal is ordered, or not any more -/
theorem c_X6_orderOn (l : Launch) (G : zk_G) (q : Nat) (K : zL) (n t : Nat) (hI : sInv K n t) (c d : Nat) (b : Int32) (hc : c < n) (hd : d < 40) : zk_I (S := zL) l yX6_orderOn wsX6_orderOn rmX6_orderOn G [.ref q, .int (nI c), .int (nI d), .int b] (zb_r G q K) (fun r u => r = kCnt u n (-1) (nI d) (nI 1) ∧ u = sOrd K (c * 40 + d) b) (fun u => zb_r G q u) := by
  refine zk_bodyI (cc := cX6_orderOn) (maxL := 4) (ret := (some .int)) (by decide) rfl (Nat.le_of_ble_eq_true rfl) ?_
  intro p E0 s m args below meth cd A ls Q hF hQ
  obtain ⟨hx, hb, hml, hr, hts, hown, hlocks, -, hE, hP, hD, hS, hA, hA0, hl⟩ := hF
  have hK := hE.1
  have hl : lv_has ls 4 [(0, .ref q), (1, .int (nI c)), (2, .int (nI d)), (3, .int b)] := hl
  obtain ⟨hn, hn12, ht, ht40, hfam, hpay⟩ := id hI
  refine lv_aload_n hx hb dX6_orderOn_0 rfl (lv_at hl 0 rfl) ?_
  refine lv_bipush (v := nI 115) hx hb dX6_orderOn_1 (by decide) ?_
  refine lv_iload_n hx hb dX6_orderOn_3 rfl (lv_at hl 1 rfl) ?_
  refine lv_iload_n hx hb dX6_orderOn_4 rfl (lv_at hl 2 rfl) ?_
  have hP0 : va_P G.1 vwCl (([] : va_W) ++ (zb_r G q K)) s.heap := hP
  have hD0 : va_D A (([] : va_W) ++ (zb_r G q K)) := hD
  refine zk_callI (wr := zb_r G q K) (va_runS (As := [.int (nI c), .int (nI d)]) (rest := [.int (nI 115), .ref q]) ⟨hx, hb, hml, hown, hts⟩ (c_X6_at l G c d _) (cwS 2 hts gX6_orderOn_X6_at rfl rfl rfl (by decide +kernel) ⟨Nat.le_of_ble_eq_true rfl, Nat.le_of_ble_eq_true rfl⟩) (zk_preS hE hA0 hS (zk_Papp hP0).1 (zk_Dapp hD0).1) rfl rfl hl.1 rfl (lv_room (Nat.le_of_ble_eq_true rfl)) dX6_orderOn_5 ⟨Nat.le_of_ble_eq_true rfl, Nat.le_of_ble_eq_true rfl⟩) hP0 hD0 hS hA (fun r1 u2 H locs q3 hP hD hS => ?_)
  subst q3
  have hP : va_P G.1 vwCl (zb_r G q K) H := hP
  have hD : va_D A (zb_r G q K) := hD
  refine zk_iaddN hx hb dX6_orderOn_8 ?_
  refine lv_iload_n hx hb dX6_orderOn_9 rfl (lv_at hl 3 rfl) ?_
  refine lv_if_eq (tgt := 17) hx hb dX6_orderOn_10 (by decide) (fun h10_3 => ?_) (fun h10_3 => ?_)
  · refine lv_iconst (v := nI 0) hx hb dX6_orderOn_17 (by decide) ?_
    refine zk_iastN hx hb hK hP hD hS 0 0 rfl rfl (k := (115 + (c * 40 + d))) (n := 1555) (by omega) (by omega) dX6_orderOn_18 (fun H locs hP hD hS => ?_)
    obtain ⟨L5, eL5⟩ : ∃ z : zL, z = up2 K 9 (c * 40 + d) (nI 0) := ⟨_, rfl⟩
    have hP : va_P G.1 vwCl (zb_r G q L5) H := by rw [eL5, show zb_r G q (up2 K 9 (c * 40 + d) (nI 0)) = [zk_a q (G.2.1 0) 1555 (upd (zrow K) (115 + (c * 40 + d)) (nI 0))] from (congrArg (fun f => [zk_a q (G.2.1 0) 1555 f]) (zup_9 K (nI 0) (by omega))).symm]; exact hP
    have hD : va_D A (zb_r G q L5) := by rw [eL5, show zb_r G q (up2 K 9 (c * 40 + d) (nI 0)) = [zk_a q (G.2.1 0) 1555 (upd (zrow K) (115 + (c * 40 + d)) (nI 0))] from (congrArg (fun f => [zk_a q (G.2.1 0) 1555 f]) (zup_9 K (nI 0) (by omega))).symm]; exact hD
    have hI2 : sInv L5 n t := by rw [eL5]; exact sInv_kind hI (by decide)
    refine lv_aload_n hx hb dX6_orderOn_19 rfl (lv_at hl 0 rfl) ?_
    refine lv_iconst (v := -1) hx hb dX6_orderOn_20 (by decide) ?_
    refine lv_iload_n hx hb dX6_orderOn_21 rfl (lv_at hl 2 rfl) ?_
    refine lv_iconst (v := nI 1) hx hb dX6_orderOn_22 (by decide) ?_
    have hP0 : va_P G.1 vwCl ((zb_r G q L5) ++ (([] : va_W))) H := zk_Pperm hP (show (zb_r G q L5).Perm ((zb_r G q L5) ++ (([] : va_W))) from (show (zb_r G q L5).Perm (zb_r G q L5) from List.Perm.refl _).trans (List.Perm.of_eq (by simp only [List.append_assoc, List.append_nil, List.nil_append])))
    have hD0 : va_D A ((zb_r G q L5) ++ (([] : va_W))) := zk_Dperm hD (show (zb_r G q L5).Perm ((zb_r G q L5) ++ (([] : va_W))) from (show (zb_r G q L5).Perm (zb_r G q L5) from List.Perm.refl _).trans (List.Perm.of_eq (by simp only [List.append_assoc, List.append_nil, List.nil_append])))
    refine zk_callI (wr := ([] : va_W)) (va_runS (As := [.ref q, .int (-1), .int (nI d), .int (nI 1)]) (rest := []) ⟨hx, hb, hml, hown, hts⟩ (c_X6_count l G q L5 n t hI2 (-1) (nI d) (nI 1) _) (cwS 4 hts gX6_orderOn_X6_count rfl rfl rfl (by decide +kernel) ⟨Nat.le_of_ble_eq_true rfl, Nat.le_of_ble_eq_true rfl⟩) (zk_preS hE hA0 hS (zk_Papp hP0).1 (zk_Dapp hD0).1) rfl rfl hl.1 rfl (lv_room (Nat.le_of_ble_eq_true rfl)) dX6_orderOn_23 ⟨Nat.le_of_ble_eq_true rfl, Nat.le_of_ble_eq_true rfl⟩) hP0 hD0 hS hA (fun r6 u7 H locs q8 hP hD hS => ?_)
    subst q8
    have hP : va_P G.1 vwCl (zb_r G q L5) H := zk_Pperm hP (show (zb_r G q L5).Perm ((zb_r G q L5) ++ (([] : va_W))) from (show (zb_r G q L5).Perm (zb_r G q L5) from List.Perm.refl _).trans (List.Perm.of_eq (by simp only [List.append_assoc, List.append_nil, List.nil_append]))).symm
    have hD : va_D A (zb_r G q L5) := zk_Dperm hD (show (zb_r G q L5).Perm ((zb_r G q L5) ++ (([] : va_W))) from (show (zb_r G q L5).Perm (zb_r G q L5) from List.Perm.refl _).trans (List.Perm.of_eq (by simp only [List.append_assoc, List.append_nil, List.nil_append]))).symm
    exact zk_reti L5 hQ hx hb hr hlocks hS hP hD (Nat.le_of_ble_eq_true rfl) (Nat.le_of_ble_eq_true rfl) dX6_orderOn_26 (⟨rfl, by rw [eL5]; unfold sOrd; simp +decide [zk_a0, h10_3]⟩)
  · refine lv_iconst (v := nI 1) hx hb dX6_orderOn_13 (by decide) ?_
    refine lv_goto (tgt := 18) hx hb dX6_orderOn_14 (by decide) ?_
    refine zk_iastN hx hb hK hP hD hS 0 0 rfl rfl (k := (115 + (c * 40 + d))) (n := 1555) (by omega) (by omega) dX6_orderOn_18 (fun H locs hP hD hS => ?_)
    obtain ⟨L9, eL9⟩ : ∃ z : zL, z = up2 K 9 (c * 40 + d) (nI 1) := ⟨_, rfl⟩
    have hP : va_P G.1 vwCl (zb_r G q L9) H := by rw [eL9, show zb_r G q (up2 K 9 (c * 40 + d) (nI 1)) = [zk_a q (G.2.1 0) 1555 (upd (zrow K) (115 + (c * 40 + d)) (nI 1))] from (congrArg (fun f => [zk_a q (G.2.1 0) 1555 f]) (zup_9 K (nI 1) (by omega))).symm]; exact hP
    have hD : va_D A (zb_r G q L9) := by rw [eL9, show zb_r G q (up2 K 9 (c * 40 + d) (nI 1)) = [zk_a q (G.2.1 0) 1555 (upd (zrow K) (115 + (c * 40 + d)) (nI 1))] from (congrArg (fun f => [zk_a q (G.2.1 0) 1555 f]) (zup_9 K (nI 1) (by omega))).symm]; exact hD
    have hI2 : sInv L9 n t := by rw [eL9]; exact sInv_kind hI (by decide)
    refine lv_aload_n hx hb dX6_orderOn_19 rfl (lv_at hl 0 rfl) ?_
    refine lv_iconst (v := -1) hx hb dX6_orderOn_20 (by decide) ?_
    refine lv_iload_n hx hb dX6_orderOn_21 rfl (lv_at hl 2 rfl) ?_
    refine lv_iconst (v := nI 1) hx hb dX6_orderOn_22 (by decide) ?_
    have hP0 : va_P G.1 vwCl ((zb_r G q L9) ++ (([] : va_W))) H := zk_Pperm hP (show (zb_r G q L9).Perm ((zb_r G q L9) ++ (([] : va_W))) from (show (zb_r G q L9).Perm (zb_r G q L9) from List.Perm.refl _).trans (List.Perm.of_eq (by simp only [List.append_assoc, List.append_nil, List.nil_append])))
    have hD0 : va_D A ((zb_r G q L9) ++ (([] : va_W))) := zk_Dperm hD (show (zb_r G q L9).Perm ((zb_r G q L9) ++ (([] : va_W))) from (show (zb_r G q L9).Perm (zb_r G q L9) from List.Perm.refl _).trans (List.Perm.of_eq (by simp only [List.append_assoc, List.append_nil, List.nil_append])))
    refine zk_callI (wr := ([] : va_W)) (va_runS (As := [.ref q, .int (-1), .int (nI d), .int (nI 1)]) (rest := []) ⟨hx, hb, hml, hown, hts⟩ (c_X6_count l G q L9 n t hI2 (-1) (nI d) (nI 1) _) (cwS 4 hts gX6_orderOn_X6_count rfl rfl rfl (by decide +kernel) ⟨Nat.le_of_ble_eq_true rfl, Nat.le_of_ble_eq_true rfl⟩) (zk_preS hE hA0 hS (zk_Papp hP0).1 (zk_Dapp hD0).1) rfl rfl hl.1 rfl (lv_room (Nat.le_of_ble_eq_true rfl)) dX6_orderOn_23 ⟨Nat.le_of_ble_eq_true rfl, Nat.le_of_ble_eq_true rfl⟩) hP0 hD0 hS hA (fun r10 u11 H locs q12 hP hD hS => ?_)
    subst q12
    have hP : va_P G.1 vwCl (zb_r G q L9) H := zk_Pperm hP (show (zb_r G q L9).Perm ((zb_r G q L9) ++ (([] : va_W))) from (show (zb_r G q L9).Perm (zb_r G q L9) from List.Perm.refl _).trans (List.Perm.of_eq (by simp only [List.append_assoc, List.append_nil, List.nil_append]))).symm
    have hD : va_D A (zb_r G q L9) := zk_Dperm hD (show (zb_r G q L9).Perm ((zb_r G q L9) ++ (([] : va_W))) from (show (zb_r G q L9).Perm (zb_r G q L9) from List.Perm.refl _).trans (List.Perm.of_eq (by simp only [List.append_assoc, List.append_nil, List.nil_append]))).symm
    exact zk_reti L9 hQ hx hb hr hlocks hS hP hD (Nat.le_of_ble_eq_true rfl) (Nat.le_of_ble_eq_true rfl) dX6_orderOn_26 (⟨rfl, by rw [eL9]; unfold sOrd; simp +decide [zk_a0, h10_3]⟩)

abbrev rmX6_payOn : Room := { frames := 0, cells := 0, slots := 0, locals := 0 }
set_option maxHeartbeats 4000000 in
set_option maxRecDepth 100000 in
/-- an amount is paid -/
theorem c_X6_payOn (l : Launch) (G : zk_G) (q : Nat) (K : zL) (n t : Nat) (hI : sInv K n t) (c : Nat) (am : Int32) (hc : c < n) : zk_I (S := zL) l yX6_payOn wsX6_payOn rmX6_payOn G [.ref q, .int (nI c), .int am] (zb_r G q K) (fun r u => r = u 3 c ∧ u = sPay K c am) (fun u => zb_r G q u) := by
  refine zk_bodyI (cc := cX6_payOn) (maxL := 3) (ret := (some .int)) (by decide) rfl (Nat.le_of_ble_eq_true rfl) ?_
  intro p E0 s m args below meth cd A ls Q hF hQ
  obtain ⟨hx, hb, hml, hr, hts, hown, hlocks, -, hE, hP, hD, hS, hA, hA0, hl⟩ := hF
  have hK := hE.1
  have hl : lv_has ls 3 [(0, .ref q), (1, .int (nI c)), (2, .int am)] := hl
  obtain ⟨hn, hn12, ht, ht40, hfam, hpay⟩ := id hI
  refine lv_aload_n hx hb dX6_payOn_0 rfl (lv_at hl 0 rfl) ?_
  refine lv_bipush (v := nI 69) hx hb dX6_payOn_1 (by decide) ?_
  refine lv_iload_n hx hb dX6_payOn_3 rfl (lv_at hl 1 rfl) ?_
  refine zk_iaddN hx hb dX6_payOn_4 ?_
  refine lv_dup2_11 hx hb dX6_payOn_5 rfl rfl ?_
  refine zk_ialdN hx hb hK hP 0 0 rfl rfl (k := (69 + c)) (n := 1555) (by omega) (by omega) dX6_payOn_6 ?_
  refine zk_top (zrow_3 K (c := c) (by omega)) ?_
  refine lv_iload_n hx hb dX6_payOn_7 rfl (lv_at hl 2 rfl) ?_
  refine lv_iadd hx hb dX6_payOn_8 ?_
  refine lv_topi (fun x1 ex1 => ?_)
  refine zk_iastN hx hb hK hP hD hS 0 0 rfl rfl (k := (69 + c)) (n := 1555) (by omega) (by omega) dX6_payOn_9 (fun H locs hP hD hS => ?_)
  obtain ⟨L2, eL2⟩ : ∃ z : zL, z = up2 K 3 c x1 := ⟨_, rfl⟩
  have hP : va_P G.1 vwCl (zb_r G q L2) H := by rw [eL2, show zb_r G q (up2 K 3 c x1) = [zk_a q (G.2.1 0) 1555 (upd (zrow K) (69 + c) x1)] from (congrArg (fun f => [zk_a q (G.2.1 0) 1555 f]) (zup_3 K x1 (by omega))).symm]; exact hP
  have hD : va_D A (zb_r G q L2) := by rw [eL2, show zb_r G q (up2 K 3 c x1) = [zk_a q (G.2.1 0) 1555 (upd (zrow K) (69 + c) x1)] from (congrArg (fun f => [zk_a q (G.2.1 0) 1555 f]) (zup_3 K x1 (by omega))).symm]; exact hD
  have hI3 : sInv L2 n t := by rw [eL2]; exact sInv_row hI rfl rfl rfl rfl
  refine lv_aload_n hx hb dX6_payOn_10 rfl (lv_at hl 0 rfl) ?_
  refine lv_iconst (v := nI 4) hx hb dX6_payOn_11 (by decide) ?_
  refine lv_dup2_11 hx hb dX6_payOn_12 rfl rfl ?_
  refine zk_ialdN hx hb hK hP 0 0 rfl rfl (k := 4) (n := 1555) (by omega) (by omega) dX6_payOn_13 ?_
  refine zk_top (zrow_l L2 (c := 4) (by omega)) ?_
  refine lv_iload_n hx hb dX6_payOn_14 rfl (lv_at hl 2 rfl) ?_
  refine lv_iadd hx hb dX6_payOn_15 ?_
  refine lv_topi (fun x4 ex4 => ?_)
  refine zk_iastN hx hb hK hP hD hS 0 0 rfl rfl (k := 4) (n := 1555) (by omega) (by omega) dX6_payOn_16 (fun H locs hP hD hS => ?_)
  obtain ⟨L5, eL5⟩ : ∃ z : zL, z = up2 L2 0 4 x4 := ⟨_, rfl⟩
  have hP : va_P G.1 vwCl (zb_r G q L5) H := by rw [eL5, show zb_r G q (up2 L2 0 4 x4) = [zk_a q (G.2.1 0) 1555 (upd (zrow L2) 4 x4)] from (congrArg (fun f => [zk_a q (G.2.1 0) 1555 f]) (zup_l L2 x4 (by omega))).symm]; exact hP
  have hD : va_D A (zb_r G q L5) := by rw [eL5, show zb_r G q (up2 L2 0 4 x4) = [zk_a q (G.2.1 0) 1555 (upd (zrow L2) 4 x4)] from (congrArg (fun f => [zk_a q (G.2.1 0) 1555 f]) (zup_l L2 x4 (by omega))).symm]; exact hD
  have hI6 : sInv L5 n t := by rw [eL5]; exact sInv_num hI3 (by decide) (by decide)
  refine lv_aload_n hx hb dX6_payOn_17 rfl (lv_at hl 0 rfl) ?_
  refine lv_bipush (v := nI 69) hx hb dX6_payOn_18 (by decide) ?_
  refine lv_iload_n hx hb dX6_payOn_20 rfl (lv_at hl 1 rfl) ?_
  refine zk_iaddN hx hb dX6_payOn_21 ?_
  refine zk_ialdN hx hb hK hP 0 0 rfl rfl (k := (69 + c)) (n := 1555) (by omega) (by omega) dX6_payOn_22 ?_
  refine zk_top (zrow_3 L5 (c := c) (by omega)) ?_
  exact zk_reti L5 hQ hx hb hr hlocks hS hP hD (Nat.le_of_ble_eq_true rfl) (Nat.le_of_ble_eq_true rfl) dX6_payOn_23 (⟨rfl, by simp only [ex1, eL2, ex4, eL5]; exact kPay_c K c am⟩)

abbrev rmX6_debt : Room := { frames := 0, cells := 0, slots := 0, locals := 0 }
set_option maxHeartbeats 4000000 in
set_option maxRecDepth 100000 in
/-- a family's debt -/
theorem c_X6_debt (l : Launch) (G : zk_G) (q : Nat) (K : zL) (n t : Nat) (hI : sInv K n t) (f : Int32) : zk_I (S := Unit) l yX6_debt wsX6_debt rmX6_debt G [.ref q, .int f] (zb_r G q K) (fun r _ => r = sDebt K n f) (fun _ => zb_r G q K) := by
  refine zk_bodyI (cc := cX6_debt) (maxL := 4) (ret := (some .int)) (by decide) rfl (Nat.le_of_ble_eq_true rfl) ?_
  intro p E0 s m args below meth cd A ls Q hF hQ
  obtain ⟨hx, hb, hml, hr, hts, hown, hlocks, -, hE, hP, hD, hS, hA, hA0, hl⟩ := hF
  have hK := hE.1
  have hl : lv_has ls 4 [(0, .ref q), (1, .int f)] := hl
  obtain ⟨hn, hn12, ht, ht40, hfam, hpay⟩ := id hI
  refine lv_iconst (v := nI 0) hx hb dX6_debt_0 (by decide) ?_
  refine lv_istore_n (lv' := [(2, .int (nI 0)), (0, .ref q), (1, .int f)]) hx hb dX6_debt_1 rfl hl (by decide) rfl (fun ls hl => ?_)
  refine lv_iconst (v := nI 0) hx hb dX6_debt_2 (by decide) ?_
  refine lv_istore_n (lv' := [(3, .int (nI 0)), (2, .int (nI 0)), (0, .ref q), (1, .int f)]) hx hb dX6_debt_3 rfl hl (by decide) rfl (fun ls hl => ?_)
  have lp1 : ∀ (n3 : Nat) (i : Nat) (x : Int32), n - i < n3 → (i ≤ n) → (x = zs (fun i => if K 1 i = f ∧ K 3 i < 0 then -(K 3 i) else nI 0) i) → ∀ (ls : Array Slot), lv_has ls 4 [(3, .int (nI i)), (2, .int x), (0, .ref q), (1, .int f)] → W p l E0 rmX6_debt s m args below meth cd s.heap [] 0 0 Q (F0 m 4 ls []) := by
    intro n3
    induction n3 with
    | zero => intro i x hz; exact absurd hz (Nat.not_lt_zero _)
    | succ n3 ih2 =>
      intro i x hm hi hq ls hl
      refine lv_iload_n hx hb dX6_debt_4 rfl (lv_at hl 0 rfl) ?_
      refine lv_aload_n hx hb dX6_debt_5 rfl (lv_at hl 2 rfl) ?_
      refine lv_iconst (v := nI 1) hx hb dX6_debt_6 (by decide) ?_
      refine zk_ialdN hx hb hK hP 0 0 rfl rfl (k := 1) (n := 1555) (by omega) (by omega) dX6_debt_7 ?_
      refine zk_top (zrow_l K (c := 1) (by omega)) ?_
      refine zk_top hI.1 ?_
      refine lv_icmp_ge (tgt := 50) hx hb dX6_debt_8 (by decide) (fun h8_3 => ?_) (fun h8_3 => ?_)
      · have h8_3 := zk_le (by omega) (by omega) h8_3
        refine lv_iload_n hx hb dX6_debt_50 rfl (lv_at hl 1 rfl) ?_
        exact zk_reti () hQ hx hb hr hlocks hS hP hD (Nat.le_of_ble_eq_true rfl) (Nat.le_of_ble_eq_true rfl) dX6_debt_51 (by rw [hq, show i = n by omega]; rfl)
      · have h8_3 := zk_nle (by omega) (by omega) h8_3
        refine lv_iload_n hx hb dX6_debt_11 rfl (lv_at hl 1 rfl) ?_
        refine lv_aload_n hx hb dX6_debt_12 rfl (lv_at hl 2 rfl) ?_
        refine lv_bipush (v := nI 45) hx hb dX6_debt_13 (by decide) ?_
        refine lv_iload_n hx hb dX6_debt_15 rfl (lv_at hl 0 rfl) ?_
        refine zk_iaddN hx hb dX6_debt_16 ?_
        refine zk_ialdN hx hb hK hP 0 0 rfl rfl (k := (45 + i)) (n := 1555) (by omega) (by omega) dX6_debt_17 ?_
        refine zk_top (zrow_1 K (c := i) (by omega)) ?_
        refine lv_iload_n hx hb dX6_debt_18 rfl (lv_at hl 3 rfl) ?_
        refine lv_icmp_ne (tgt := 41) hx hb dX6_debt_19 (by decide) (fun h19_4 => ?_) (fun h19_4 => ?_)
        · refine lv_iconst (v := nI 0) hx hb dX6_debt_41 (by decide) ?_
          refine lv_iadd hx hb dX6_debt_42 ?_
          refine lv_topi (fun x6 ex6 => ?_)
          refine lv_istore_n (lv' := [(2, .int x6), (3, .int (nI i)), (0, .ref q), (1, .int f)]) hx hb dX6_debt_43 rfl hl (by decide) rfl (fun ls hl => ?_)
          refine lv_iinc (v := nI (i + 1)) (lv' := [(3, .int (nI (i + 1))), (2, .int x6), (0, .ref q), (1, .int f)]) hx hb dX6_debt_44 hl (k := 1) rfl (zk_inc i 1) (by decide) rfl (fun ls hl => ?_)
          refine lv_goto (tgt := 4) hx hb dX6_debt_47 (by decide) ?_
          exact ih2 (i + 1) x6 (by omega) (by omega) (by refine zs_i hq ?_; simp +decide [zk_a0, h8_3, h19_4, ex6]) ls (lv_sub hl [0, 1, 2, 3] rfl)
        · refine lv_aload_n hx hb dX6_debt_22 rfl (lv_at hl 2 rfl) ?_
          refine lv_bipush (v := nI 69) hx hb dX6_debt_23 (by decide) ?_
          refine lv_iload_n hx hb dX6_debt_25 rfl (lv_at hl 0 rfl) ?_
          refine zk_iaddN hx hb dX6_debt_26 ?_
          refine zk_ialdN hx hb hK hP 0 0 rfl rfl (k := (69 + i)) (n := 1555) (by omega) (by omega) dX6_debt_27 ?_
          refine zk_top (zrow_3 K (c := i) (by omega)) ?_
          refine lv_if_ge (tgt := 41) hx hb dX6_debt_28 (by decide) (fun h28_6 => ?_) (fun h28_6 => ?_)
          · have h28_6 := zk_l1 h28_6
            refine lv_iconst (v := nI 0) hx hb dX6_debt_41 (by decide) ?_
            refine lv_iadd hx hb dX6_debt_42 ?_
            refine lv_topi (fun x8 ex8 => ?_)
            refine lv_istore_n (lv' := [(2, .int x8), (3, .int (nI i)), (0, .ref q), (1, .int f)]) hx hb dX6_debt_43 rfl hl (by decide) rfl (fun ls hl => ?_)
            refine lv_iinc (v := nI (i + 1)) (lv' := [(3, .int (nI (i + 1))), (2, .int x8), (0, .ref q), (1, .int f)]) hx hb dX6_debt_44 hl (k := 1) rfl (zk_inc i 1) (by decide) rfl (fun ls hl => ?_)
            refine lv_goto (tgt := 4) hx hb dX6_debt_47 (by decide) ?_
            exact ih2 (i + 1) x8 (by omega) (by omega) (by refine zs_i hq ?_; simp +decide [zk_a0, h8_3, h19_4, h28_6, ex8]) ls (lv_sub hl [0, 1, 2, 3] rfl)
          · have h28_6 := zk_l2 h28_6
            refine lv_aload_n hx hb dX6_debt_31 rfl (lv_at hl 2 rfl) ?_
            refine lv_bipush (v := nI 69) hx hb dX6_debt_32 (by decide) ?_
            refine lv_iload_n hx hb dX6_debt_34 rfl (lv_at hl 0 rfl) ?_
            refine zk_iaddN hx hb dX6_debt_35 ?_
            refine zk_ialdN hx hb hK hP 0 0 rfl rfl (k := (69 + i)) (n := 1555) (by omega) (by omega) dX6_debt_36 ?_
            refine zk_top (zrow_3 K (c := i) (by omega)) ?_
            refine lv_ineg hx hb dX6_debt_37 ?_
            refine lv_goto (tgt := 42) hx hb dX6_debt_38 (by decide) ?_
            refine lv_iadd hx hb dX6_debt_42 ?_
            refine lv_topi (fun x9 ex9 => ?_)
            refine lv_istore_n (lv' := [(2, .int x9), (3, .int (nI i)), (0, .ref q), (1, .int f)]) hx hb dX6_debt_43 rfl hl (by decide) rfl (fun ls hl => ?_)
            refine lv_iinc (v := nI (i + 1)) (lv' := [(3, .int (nI (i + 1))), (2, .int x9), (0, .ref q), (1, .int f)]) hx hb dX6_debt_44 hl (k := 1) rfl (zk_inc i 1) (by decide) rfl (fun ls hl => ?_)
            refine lv_goto (tgt := 4) hx hb dX6_debt_47 (by decide) ?_
            exact ih2 (i + 1) x9 (by omega) (by omega) (by refine zs_i hq ?_; simp +decide [zk_a0, h8_3, h19_4, h28_6, ex9]) ls (lv_sub hl [0, 1, 2, 3] rfl)
  exact lp1 _ 0 (nI 0) (Nat.lt_succ_self _) (by omega) (rfl) ls (lv_sub hl [0, 1, 2, 3] rfl)

abbrev rmX6_writeOffOn : Room := { frames := 1, cells := 0, slots := 0, locals := 23 }
set_option maxHeartbeats 4000000 in
set_option maxRecDepth 100000 in
/-- a debt is written off -/
theorem c_X6_writeOffOn (l : Launch) (G : zk_G) (q : Nat) (K : zL) (n t : Nat) (hI : sInv K n t) (f : Nat) (hf : f < 5) : zk_I (S := zL) l yX6_writeOffOn wsX6_writeOffOn rmX6_writeOffOn G [.ref q, .int (nI f)] (zb_r G q K) (fun r u => r = sDebt K n (nI f) ∧ u = sWrite K n f) (fun u => zb_r G q u) := by
  refine zk_bodyI (cc := cX6_writeOffOn) (maxL := 4) (ret := (some .int)) (by decide) rfl (Nat.le_of_ble_eq_true rfl) ?_
  intro p E0 s m args below meth cd A ls Q hF hQ
  obtain ⟨hx, hb, hml, hr, hts, hown, hlocks, -, hE, hP, hD, hS, hA, hA0, hl⟩ := hF
  have hK := hE.1
  have hl : lv_has ls 4 [(0, .ref q), (1, .int (nI f))] := hl
  obtain ⟨hn, hn12, ht, ht40, hfam, hpay⟩ := id hI
  refine lv_aload_n hx hb dX6_writeOffOn_0 rfl (lv_at hl 0 rfl) ?_
  refine lv_iload_n hx hb dX6_writeOffOn_1 rfl (lv_at hl 1 rfl) ?_
  have hP0 : va_P G.1 vwCl ((zb_r G q K) ++ (([] : va_W))) s.heap := zk_Pperm hP (show (zb_r G q K).Perm ((zb_r G q K) ++ (([] : va_W))) from (show (zb_r G q K).Perm (zb_r G q K) from List.Perm.refl _).trans (List.Perm.of_eq (by simp only [List.append_assoc, List.append_nil, List.nil_append])))
  have hD0 : va_D A ((zb_r G q K) ++ (([] : va_W))) := zk_Dperm hD (show (zb_r G q K).Perm ((zb_r G q K) ++ (([] : va_W))) from (show (zb_r G q K).Perm (zb_r G q K) from List.Perm.refl _).trans (List.Perm.of_eq (by simp only [List.append_assoc, List.append_nil, List.nil_append])))
  refine zk_callI (wr := ([] : va_W)) (va_runS (As := [.ref q, .int (nI f)]) (rest := []) ⟨hx, hb, hml, hown, hts⟩ (c_X6_debt l G q K n t hI (nI f) _) (cwS 2 hts gX6_writeOffOn_X6_debt rfl rfl rfl (by decide +kernel) ⟨Nat.le_of_ble_eq_true rfl, Nat.le_of_ble_eq_true rfl⟩) (zk_preS hE hA0 hS (zk_Papp hP0).1 (zk_Dapp hD0).1) rfl rfl hl.1 rfl (lv_room (Nat.le_of_ble_eq_true rfl)) dX6_writeOffOn_2 ⟨Nat.le_of_ble_eq_true rfl, Nat.le_of_ble_eq_true rfl⟩) hP0 hD0 hS hA (fun r1 u2 H locs q3 hP hD hS => ?_)
  subst q3
  have hP : va_P G.1 vwCl (zb_r G q K) H := zk_Pperm hP (show (zb_r G q K).Perm ((zb_r G q K) ++ (([] : va_W))) from (show (zb_r G q K).Perm (zb_r G q K) from List.Perm.refl _).trans (List.Perm.of_eq (by simp only [List.append_assoc, List.append_nil, List.nil_append]))).symm
  have hD : va_D A (zb_r G q K) := zk_Dperm hD (show (zb_r G q K).Perm ((zb_r G q K) ++ (([] : va_W))) from (show (zb_r G q K).Perm (zb_r G q K) from List.Perm.refl _).trans (List.Perm.of_eq (by simp only [List.append_assoc, List.append_nil, List.nil_append]))).symm
  refine lv_topi (fun x4 ex4 => ?_)
  refine lv_istore_n (lv' := [(2, .int x4), (0, .ref q), (1, .int (nI f))]) hx hb dX6_writeOffOn_5 rfl hl (by decide) rfl (fun ls hl => ?_)
  refine lv_iconst (v := nI 0) hx hb dX6_writeOffOn_6 (by decide) ?_
  refine lv_istore_n (lv' := [(3, .int (nI 0)), (2, .int x4), (0, .ref q), (1, .int (nI f))]) hx hb dX6_writeOffOn_7 rfl hl (by decide) rfl (fun ls hl => ?_)
  have lp5 : ∀ (n7 : Nat) (i : Nat) (X : zL), n - i < n7 → (i ≤ n) → (X = sOff K (nI f) i) → (sInv X n t) → ∀ (H : Heap) (locs : List Loc) (hP : va_P G.1 vwCl (zb_r G q X) H) (hD : va_D A (zb_r G q X)) (hS : va_S A s.heap H locs) (ls : Array Slot), lv_has ls 4 [(3, .int (nI i)), (2, .int x4), (0, .ref q), (1, .int (nI f))] → W p l E0 rmX6_writeOffOn s m args below meth cd H locs 0 0 Q (F0 m 8 ls []) := by
    intro n7
    induction n7 with
    | zero => intro i X hz; exact absurd hz (Nat.not_lt_zero _)
    | succ n7 ih6 =>
      intro i X hm hi hq hX H locs hP hD hS ls hl
      refine lv_iload_n hx hb dX6_writeOffOn_8 rfl (lv_at hl 0 rfl) ?_
      refine lv_aload_n hx hb dX6_writeOffOn_9 rfl (lv_at hl 2 rfl) ?_
      refine lv_iconst (v := nI 1) hx hb dX6_writeOffOn_10 (by decide) ?_
      refine zk_ialdN hx hb hK hP 0 0 rfl rfl (k := 1) (n := 1555) (by omega) (by omega) dX6_writeOffOn_11 ?_
      refine zk_top (zrow_l X (c := 1) (by omega)) ?_
      refine zk_top hX.1 ?_
      refine lv_icmp_ge (tgt := 56) hx hb dX6_writeOffOn_12 (by decide) (fun h12_7 => ?_) (fun h12_7 => ?_)
      · have h12_7 := zk_le (by omega) (by omega) h12_7
        refine lv_aload_n hx hb dX6_writeOffOn_56 rfl (lv_at hl 2 rfl) ?_
        refine lv_bipush (v := nI 110) hx hb dX6_writeOffOn_57 (by decide) ?_
        refine lv_iload_n hx hb dX6_writeOffOn_59 rfl (lv_at hl 3 rfl) ?_
        refine zk_iaddN hx hb dX6_writeOffOn_60 ?_
        refine lv_dup2_11 hx hb dX6_writeOffOn_61 rfl rfl ?_
        refine zk_ialdN hx hb hK hP 0 0 rfl rfl (k := (110 + f)) (n := 1555) (by omega) (by omega) dX6_writeOffOn_62 ?_
        refine zk_top (zrow_8 X (c := f) (by omega)) ?_
        refine lv_iload_n hx hb dX6_writeOffOn_63 rfl (lv_at hl 1 rfl) ?_
        refine lv_iadd hx hb dX6_writeOffOn_64 ?_
        refine lv_topi (fun x9 ex9 => ?_)
        refine zk_iastN hx hb hK hP hD hS 0 0 rfl rfl (k := (110 + f)) (n := 1555) (by omega) (by omega) dX6_writeOffOn_65 (fun H locs hP hD hS => ?_)
        obtain ⟨L10, eL10⟩ : ∃ z : zL, z = up2 X 8 f x9 := ⟨_, rfl⟩
        have hP : va_P G.1 vwCl (zb_r G q L10) H := by rw [eL10, show zb_r G q (up2 X 8 f x9) = [zk_a q (G.2.1 0) 1555 (upd (zrow X) (110 + f) x9)] from (congrArg (fun f => [zk_a q (G.2.1 0) 1555 f]) (zup_8 X x9 (by omega))).symm]; exact hP
        have hD : va_D A (zb_r G q L10) := by rw [eL10, show zb_r G q (up2 X 8 f x9) = [zk_a q (G.2.1 0) 1555 (upd (zrow X) (110 + f) x9)] from (congrArg (fun f => [zk_a q (G.2.1 0) 1555 f]) (zup_8 X x9 (by omega))).symm]; exact hD
        have hI11 : sInv L10 n t := by rw [eL10]; exact sInv_row hX rfl rfl rfl rfl
        refine lv_iload_n hx hb dX6_writeOffOn_66 rfl (lv_at hl 1 rfl) ?_
        exact zk_reti L10 hQ hx hb hr hlocks hS hP hD (Nat.le_of_ble_eq_true rfl) (Nat.le_of_ble_eq_true rfl) dX6_writeOffOn_67 (⟨ex4, by rw [eL10, ex9, ex4, hq, show i = n by omega]; rfl⟩)
      · have h12_7 := zk_nle (by omega) (by omega) h12_7
        refine lv_aload_n hx hb dX6_writeOffOn_15 rfl (lv_at hl 2 rfl) ?_
        refine lv_bipush (v := nI 69) hx hb dX6_writeOffOn_16 (by decide) ?_
        refine lv_iload_n hx hb dX6_writeOffOn_18 rfl (lv_at hl 0 rfl) ?_
        refine zk_iaddN hx hb dX6_writeOffOn_19 ?_
        refine lv_aload_n hx hb dX6_writeOffOn_20 rfl (lv_at hl 2 rfl) ?_
        refine lv_bipush (v := nI 45) hx hb dX6_writeOffOn_21 (by decide) ?_
        refine lv_iload_n hx hb dX6_writeOffOn_23 rfl (lv_at hl 0 rfl) ?_
        refine zk_iaddN hx hb dX6_writeOffOn_24 ?_
        refine zk_ialdN hx hb hK hP 0 0 rfl rfl (k := (45 + i)) (n := 1555) (by omega) (by omega) dX6_writeOffOn_25 ?_
        refine zk_top (zrow_1 X (c := i) (by omega)) ?_
        refine lv_iload_n hx hb dX6_writeOffOn_26 rfl (lv_at hl 3 rfl) ?_
        refine lv_icmp_ne (tgt := 43) hx hb dX6_writeOffOn_27 (by decide) (fun h27_11 => ?_) (fun h27_11 => ?_)
        · refine lv_aload_n hx hb dX6_writeOffOn_43 rfl (lv_at hl 2 rfl) ?_
          refine lv_bipush (v := nI 69) hx hb dX6_writeOffOn_44 (by decide) ?_
          refine lv_iload_n hx hb dX6_writeOffOn_46 rfl (lv_at hl 0 rfl) ?_
          refine zk_iaddN hx hb dX6_writeOffOn_47 ?_
          refine zk_ialdN hx hb hK hP 0 0 rfl rfl (k := (69 + i)) (n := 1555) (by omega) (by omega) dX6_writeOffOn_48 ?_
          refine zk_top (zrow_3 X (c := i) (by omega)) ?_
          refine lv_topi (fun x13 ex13 => ?_)
          refine zk_iastN hx hb hK hP hD hS 0 0 rfl rfl (k := (69 + i)) (n := 1555) (by omega) (by omega) dX6_writeOffOn_49 (fun H locs hP hD hS => ?_)
          obtain ⟨L14, eL14⟩ : ∃ z : zL, z = up2 X 3 i x13 := ⟨_, rfl⟩
          have hP : va_P G.1 vwCl (zb_r G q L14) H := by rw [eL14, show zb_r G q (up2 X 3 i x13) = [zk_a q (G.2.1 0) 1555 (upd (zrow X) (69 + i) x13)] from (congrArg (fun f => [zk_a q (G.2.1 0) 1555 f]) (zup_3 X x13 (by omega))).symm]; exact hP
          have hD : va_D A (zb_r G q L14) := by rw [eL14, show zb_r G q (up2 X 3 i x13) = [zk_a q (G.2.1 0) 1555 (upd (zrow X) (69 + i) x13)] from (congrArg (fun f => [zk_a q (G.2.1 0) 1555 f]) (zup_3 X x13 (by omega))).symm]; exact hD
          have hI15 : sInv L14 n t := by rw [eL14]; exact sInv_row hX rfl rfl rfl rfl
          refine lv_iinc (v := nI (i + 1)) (lv' := [(3, .int (nI (i + 1))), (2, .int x4), (0, .ref q), (1, .int (nI f))]) hx hb dX6_writeOffOn_50 hl (k := 0) rfl (zk_inc i 1) (by decide) rfl (fun ls hl => ?_)
          refine lv_goto (tgt := 8) hx hb dX6_writeOffOn_53 (by decide) ?_
          exact ih6 (i + 1) L14 (by omega) (by omega) (by rw [eL14, ex13]; refine zfold_i (f := fun i X => if X 1 i = nI f ∧ X 3 i < 0 then up2 X 3 i (nI 0) else X) hq ?_; exact (up2_self rfl).trans (if_neg (fun z => h27_11 z.1)).symm) (hI15) _ _ hP hD hS ls (lv_sub hl [0, 1, 2, 3] rfl)
        · refine lv_aload_n hx hb dX6_writeOffOn_30 rfl (lv_at hl 2 rfl) ?_
          refine lv_bipush (v := nI 69) hx hb dX6_writeOffOn_31 (by decide) ?_
          refine lv_iload_n hx hb dX6_writeOffOn_33 rfl (lv_at hl 0 rfl) ?_
          refine zk_iaddN hx hb dX6_writeOffOn_34 ?_
          refine zk_ialdN hx hb hK hP 0 0 rfl rfl (k := (69 + i)) (n := 1555) (by omega) (by omega) dX6_writeOffOn_35 ?_
          refine zk_top (zrow_3 X (c := i) (by omega)) ?_
          refine lv_if_ge (tgt := 43) hx hb dX6_writeOffOn_36 (by decide) (fun h36_15 => ?_) (fun h36_15 => ?_)
          · have h36_15 := zk_l1 h36_15
            refine lv_aload_n hx hb dX6_writeOffOn_43 rfl (lv_at hl 2 rfl) ?_
            refine lv_bipush (v := nI 69) hx hb dX6_writeOffOn_44 (by decide) ?_
            refine lv_iload_n hx hb dX6_writeOffOn_46 rfl (lv_at hl 0 rfl) ?_
            refine zk_iaddN hx hb dX6_writeOffOn_47 ?_
            refine zk_ialdN hx hb hK hP 0 0 rfl rfl (k := (69 + i)) (n := 1555) (by omega) (by omega) dX6_writeOffOn_48 ?_
            refine zk_top (zrow_3 X (c := i) (by omega)) ?_
            refine lv_topi (fun x17 ex17 => ?_)
            refine zk_iastN hx hb hK hP hD hS 0 0 rfl rfl (k := (69 + i)) (n := 1555) (by omega) (by omega) dX6_writeOffOn_49 (fun H locs hP hD hS => ?_)
            obtain ⟨L18, eL18⟩ : ∃ z : zL, z = up2 X 3 i x17 := ⟨_, rfl⟩
            have hP : va_P G.1 vwCl (zb_r G q L18) H := by rw [eL18, show zb_r G q (up2 X 3 i x17) = [zk_a q (G.2.1 0) 1555 (upd (zrow X) (69 + i) x17)] from (congrArg (fun f => [zk_a q (G.2.1 0) 1555 f]) (zup_3 X x17 (by omega))).symm]; exact hP
            have hD : va_D A (zb_r G q L18) := by rw [eL18, show zb_r G q (up2 X 3 i x17) = [zk_a q (G.2.1 0) 1555 (upd (zrow X) (69 + i) x17)] from (congrArg (fun f => [zk_a q (G.2.1 0) 1555 f]) (zup_3 X x17 (by omega))).symm]; exact hD
            have hI19 : sInv L18 n t := by rw [eL18]; exact sInv_row hX rfl rfl rfl rfl
            refine lv_iinc (v := nI (i + 1)) (lv' := [(3, .int (nI (i + 1))), (2, .int x4), (0, .ref q), (1, .int (nI f))]) hx hb dX6_writeOffOn_50 hl (k := 0) rfl (zk_inc i 1) (by decide) rfl (fun ls hl => ?_)
            refine lv_goto (tgt := 8) hx hb dX6_writeOffOn_53 (by decide) ?_
            exact ih6 (i + 1) L18 (by omega) (by omega) (by rw [eL18, ex17]; refine zfold_i (f := fun i X => if X 1 i = nI f ∧ X 3 i < 0 then up2 X 3 i (nI 0) else X) hq ?_; exact (up2_self rfl).trans (if_neg (fun z => h36_15 z.2)).symm) (hI19) _ _ hP hD hS ls (lv_sub hl [0, 1, 2, 3] rfl)
          · have h36_15 := zk_l2 h36_15
            refine lv_iconst (v := nI 0) hx hb dX6_writeOffOn_39 (by decide) ?_
            refine lv_goto (tgt := 49) hx hb dX6_writeOffOn_40 (by decide) ?_
            refine zk_iastN hx hb hK hP hD hS 0 0 rfl rfl (k := (69 + i)) (n := 1555) (by omega) (by omega) dX6_writeOffOn_49 (fun H locs hP hD hS => ?_)
            obtain ⟨L20, eL20⟩ : ∃ z : zL, z = up2 X 3 i (nI 0) := ⟨_, rfl⟩
            have hP : va_P G.1 vwCl (zb_r G q L20) H := by rw [eL20, show zb_r G q (up2 X 3 i (nI 0)) = [zk_a q (G.2.1 0) 1555 (upd (zrow X) (69 + i) (nI 0))] from (congrArg (fun f => [zk_a q (G.2.1 0) 1555 f]) (zup_3 X (nI 0) (by omega))).symm]; exact hP
            have hD : va_D A (zb_r G q L20) := by rw [eL20, show zb_r G q (up2 X 3 i (nI 0)) = [zk_a q (G.2.1 0) 1555 (upd (zrow X) (69 + i) (nI 0))] from (congrArg (fun f => [zk_a q (G.2.1 0) 1555 f]) (zup_3 X (nI 0) (by omega))).symm]; exact hD
            have hI21 : sInv L20 n t := by rw [eL20]; exact sInv_row hX rfl rfl rfl rfl
            refine lv_iinc (v := nI (i + 1)) (lv' := [(3, .int (nI (i + 1))), (2, .int x4), (0, .ref q), (1, .int (nI f))]) hx hb dX6_writeOffOn_50 hl (k := 0) rfl (zk_inc i 1) (by decide) rfl (fun ls hl => ?_)
            refine lv_goto (tgt := 8) hx hb dX6_writeOffOn_53 (by decide) ?_
            exact ih6 (i + 1) L20 (by omega) (by omega) (by rw [eL20]; refine zfold_i (f := fun i X => if X 1 i = nI f ∧ X 3 i < 0 then up2 X 3 i (nI 0) else X) hq ?_; exact (if_pos ⟨h27_11, h36_15⟩).symm) (hI21) _ _ hP hD hS ls (lv_sub hl [0, 1, 2, 3] rfl)
  exact lp5 _ 0 K (Nat.lt_succ_self _) (by omega) (rfl) (hI) _ _ hP hD hS ls (lv_sub hl [0, 1, 2, 3] rfl)

abbrev rmX6_whyNotOrder : Room := { frames := 2, cells := 0, slots := 0, locals := 46 }
set_option maxHeartbeats 4000000 in
set_option maxRecDepth 100000 in
/-- what speaks against an order -/
theorem c_X6_whyNotOrder (l : Launch) (G : zk_G) (q : Nat) (K : zL) (n t : Nat) (hI : sInv K n t) (c d : Int32) : zk_I (S := Unit) l yX6_whyNotOrder wsX6_whyNotOrder rmX6_whyNotOrder G [.ref q, .int c, .int d] (zb_r G q K) (fun r _ => r = kwOrd K t c d) (fun _ => zb_r G q K) := by
  refine zk_bodyI (cc := cX6_whyNotOrder) (maxL := 3) (ret := (some .int)) (by decide) rfl (Nat.le_of_ble_eq_true rfl) ?_
  intro p E0 s m args below meth cd A ls Q hF hQ
  obtain ⟨hx, hb, hml, hr, hts, hown, hlocks, -, hE, hP, hD, hS, hA, hA0, hl⟩ := hF
  have hK := hE.1
  have hl : lv_has ls 3 [(0, .ref q), (1, .int c), (2, .int d)] := hl
  obtain ⟨hn, hn12, ht, ht40, hfam, hpay⟩ := id hI
  refine lv_aload_n hx hb dX6_whyNotOrder_0 rfl (lv_at hl 0 rfl) ?_
  refine lv_iload_n hx hb dX6_whyNotOrder_1 rfl (lv_at hl 1 rfl) ?_
  have hP0 : va_P G.1 vwCl ((zb_r G q K) ++ (([] : va_W))) s.heap := zk_Pperm hP (show (zb_r G q K).Perm ((zb_r G q K) ++ (([] : va_W))) from (show (zb_r G q K).Perm (zb_r G q K) from List.Perm.refl _).trans (List.Perm.of_eq (by simp only [List.append_assoc, List.append_nil, List.nil_append])))
  have hD0 : va_D A ((zb_r G q K) ++ (([] : va_W))) := zk_Dperm hD (show (zb_r G q K).Perm ((zb_r G q K) ++ (([] : va_W))) from (show (zb_r G q K).Perm (zb_r G q K) from List.Perm.refl _).trans (List.Perm.of_eq (by simp only [List.append_assoc, List.append_nil, List.nil_append])))
  refine zk_callI (wr := ([] : va_W)) (va_runS (As := [.ref q, .int c]) (rest := []) ⟨hx, hb, hml, hown, hts⟩ (c_X6_isChild l G q K n t hI c _) (cwS 2 hts gX6_whyNotOrder_X6_isChild rfl rfl rfl (by decide +kernel) ⟨Nat.le_of_ble_eq_true rfl, Nat.le_of_ble_eq_true rfl⟩) (zk_preS hE hA0 hS (zk_Papp hP0).1 (zk_Dapp hD0).1) rfl rfl hl.1 rfl (lv_room (Nat.le_of_ble_eq_true rfl)) dX6_whyNotOrder_2 ⟨Nat.le_of_ble_eq_true rfl, Nat.le_of_ble_eq_true rfl⟩) hP0 hD0 hS hA (fun r1 u2 H locs q3 hP hD hS => ?_)
  subst q3
  have hP : va_P G.1 vwCl (zb_r G q K) H := zk_Pperm hP (show (zb_r G q K).Perm ((zb_r G q K) ++ (([] : va_W))) from (show (zb_r G q K).Perm (zb_r G q K) from List.Perm.refl _).trans (List.Perm.of_eq (by simp only [List.append_assoc, List.append_nil, List.nil_append]))).symm
  have hD : va_D A (zb_r G q K) := zk_Dperm hD (show (zb_r G q K).Perm ((zb_r G q K) ++ (([] : va_W))) from (show (zb_r G q K).Perm (zb_r G q K) from List.Perm.refl _).trans (List.Perm.of_eq (by simp only [List.append_assoc, List.append_nil, List.nil_append]))).symm
  refine lv_if_eq (tgt := 15) hx hb dX6_whyNotOrder_5 (by decide) (fun h5_3 => ?_) (fun h5_3 => ?_)
  · have h5_3 := zk_b0 h5_3
    refine lv_iconst (v := nI 1) hx hb dX6_whyNotOrder_15 (by decide) ?_
    refine lv_goto (tgt := 31) hx hb dX6_whyNotOrder_16 (by decide) ?_
    exact zk_reti () hQ hx hb hr hlocks hS hP hD (Nat.le_of_ble_eq_true rfl) (Nat.le_of_ble_eq_true rfl) dX6_whyNotOrder_31 (by unfold kwOrd; simp +decide [zk_a0, h5_3])
  · have h5_3 := zk_b1 h5_3
    refine lv_iload_n hx hb dX6_whyNotOrder_8 rfl (lv_at hl 2 rfl) ?_
    have hP0 : va_P G.1 vwCl (([] : va_W) ++ (zb_r G q K)) H := hP
    have hD0 : va_D A (([] : va_W) ++ (zb_r G q K)) := hD
    refine zk_callI (wr := zb_r G q K) (va_runS (As := [.int d]) (rest := []) ⟨hx, hb, hml, hown, hts⟩ (c_X6_isDay l G d _) (cwS 1 hts gX6_whyNotOrder_X6_isDay rfl rfl rfl (by decide +kernel) ⟨Nat.le_of_ble_eq_true rfl, Nat.le_of_ble_eq_true rfl⟩) (zk_preS hE hA0 hS (zk_Papp hP0).1 (zk_Dapp hD0).1) rfl rfl hl.1 rfl (lv_room (Nat.le_of_ble_eq_true rfl)) dX6_whyNotOrder_9 ⟨Nat.le_of_ble_eq_true rfl, Nat.le_of_ble_eq_true rfl⟩) hP0 hD0 hS hA (fun r5 u6 H locs q7 hP hD hS => ?_)
    subst q7
    have hP : va_P G.1 vwCl (zb_r G q K) H := hP
    have hD : va_D A (zb_r G q K) := hD
    refine lv_if_ne (tgt := 19) hx hb dX6_whyNotOrder_12 (by decide) (fun h12_7 => ?_) (fun h12_7 => ?_)
    · have h12_7 := zk_b1 h12_7
      refine lv_iload_n hx hb dX6_whyNotOrder_19 rfl (lv_at hl 2 rfl) ?_
      refine lv_aload_n hx hb dX6_whyNotOrder_20 rfl (lv_at hl 0 rfl) ?_
      refine lv_iconst (v := nI 0) hx hb dX6_whyNotOrder_21 (by decide) ?_
      refine zk_ialdN hx hb hK hP 0 0 rfl rfl (k := 0) (n := 1555) (by omega) (by omega) dX6_whyNotOrder_22 ?_
      refine zk_top (zrow_l K (c := 0) (by omega)) ?_
      refine zk_top hI.2.2.1 ?_
      refine lv_icmp_ge (tgt := 30) hx hb dX6_whyNotOrder_23 (by decide) (fun h23_8 => ?_) (fun h23_8 => ?_)
      · have h23_8 := zk_l1 h23_8
        refine lv_iconst (v := nI 0) hx hb dX6_whyNotOrder_30 (by decide) ?_
        exact zk_reti () hQ hx hb hr hlocks hS hP hD (Nat.le_of_ble_eq_true rfl) (Nat.le_of_ble_eq_true rfl) dX6_whyNotOrder_31 (by unfold kwOrd; simp +decide [zk_a0, h5_3, h12_7, h23_8])
      · have h23_8 := zk_l2 h23_8
        refine lv_iconst (v := nI 2) hx hb dX6_whyNotOrder_26 (by decide) ?_
        refine lv_goto (tgt := 31) hx hb dX6_whyNotOrder_27 (by decide) ?_
        exact zk_reti () hQ hx hb hr hlocks hS hP hD (Nat.le_of_ble_eq_true rfl) (Nat.le_of_ble_eq_true rfl) dX6_whyNotOrder_31 (by unfold kwOrd; simp +decide [zk_a0, h5_3, h12_7, h23_8])
    · have h12_7 := zk_b0 h12_7
      refine lv_iconst (v := nI 1) hx hb dX6_whyNotOrder_15 (by decide) ?_
      refine lv_goto (tgt := 31) hx hb dX6_whyNotOrder_16 (by decide) ?_
      exact zk_reti () hQ hx hb hr hlocks hS hP hD (Nat.le_of_ble_eq_true rfl) (Nat.le_of_ble_eq_true rfl) dX6_whyNotOrder_31 (by unfold kwOrd; simp +decide [zk_a0, h5_3, h12_7])

abbrev rmX6_whyNotPay : Room := { frames := 2, cells := 0, slots := 0, locals := 46 }
set_option maxHeartbeats 4000000 in
set_option maxRecDepth 100000 in
/-- what speaks against a payment -/
theorem c_X6_whyNotPay (l : Launch) (G : zk_G) (q : Nat) (K : zL) (n t : Nat) (hI : sInv K n t) (c am : Int32) : zk_I (S := Unit) l yX6_whyNotPay wsX6_whyNotPay rmX6_whyNotPay G [.ref q, .int c, .int am] (zb_r G q K) (fun r _ => r = sfPay K c am) (fun _ => zb_r G q K) := by
  refine zk_bodyI (cc := cX6_whyNotPay) (maxL := 3) (ret := (some .int)) (by decide) rfl (Nat.le_of_ble_eq_true rfl) ?_
  intro p E0 s m args below meth cd A ls Q hF hQ
  obtain ⟨hx, hb, hml, hr, hts, hown, hlocks, -, hE, hP, hD, hS, hA, hA0, hl⟩ := hF
  have hK := hE.1
  have hl : lv_has ls 3 [(0, .ref q), (1, .int c), (2, .int am)] := hl
  obtain ⟨hn, hn12, ht, ht40, hfam, hpay⟩ := id hI
  have w1 := hts _ (List.mem_of_getElem? (l := wsX6_whyNotPay) (i := 1) (a := Cond.constantLong RX6 83 (-9999)) rfl)
  have w2 := hts _ (List.mem_of_getElem? (l := wsX6_whyNotPay) (i := 2) (a := Cond.constantLong RX6 85 (9999)) rfl)
  refine lv_aload_n hx hb dX6_whyNotPay_0 rfl (lv_at hl 0 rfl) ?_
  refine lv_iload_n hx hb dX6_whyNotPay_1 rfl (lv_at hl 1 rfl) ?_
  have hP0 : va_P G.1 vwCl ((zb_r G q K) ++ (([] : va_W))) s.heap := zk_Pperm hP (show (zb_r G q K).Perm ((zb_r G q K) ++ (([] : va_W))) from (show (zb_r G q K).Perm (zb_r G q K) from List.Perm.refl _).trans (List.Perm.of_eq (by simp only [List.append_assoc, List.append_nil, List.nil_append])))
  have hD0 : va_D A ((zb_r G q K) ++ (([] : va_W))) := zk_Dperm hD (show (zb_r G q K).Perm ((zb_r G q K) ++ (([] : va_W))) from (show (zb_r G q K).Perm (zb_r G q K) from List.Perm.refl _).trans (List.Perm.of_eq (by simp only [List.append_assoc, List.append_nil, List.nil_append])))
  refine zk_callI (wr := ([] : va_W)) (va_runS (As := [.ref q, .int c]) (rest := []) ⟨hx, hb, hml, hown, hts⟩ (c_X6_isChild l G q K n t hI c _) (cwS 2 hts gX6_whyNotPay_X6_isChild rfl rfl rfl (by decide +kernel) ⟨Nat.le_of_ble_eq_true rfl, Nat.le_of_ble_eq_true rfl⟩) (zk_preS hE hA0 hS (zk_Papp hP0).1 (zk_Dapp hD0).1) rfl rfl hl.1 rfl (lv_room (Nat.le_of_ble_eq_true rfl)) dX6_whyNotPay_2 ⟨Nat.le_of_ble_eq_true rfl, Nat.le_of_ble_eq_true rfl⟩) hP0 hD0 hS hA (fun r1 u2 H locs q3 hP hD hS => ?_)
  subst q3
  have hP : va_P G.1 vwCl (zb_r G q K) H := zk_Pperm hP (show (zb_r G q K).Perm ((zb_r G q K) ++ (([] : va_W))) from (show (zb_r G q K).Perm (zb_r G q K) from List.Perm.refl _).trans (List.Perm.of_eq (by simp only [List.append_assoc, List.append_nil, List.nil_append]))).symm
  have hD : va_D A (zb_r G q K) := zk_Dperm hD (show (zb_r G q K).Perm ((zb_r G q K) ++ (([] : va_W))) from (show (zb_r G q K).Perm (zb_r G q K) from List.Perm.refl _).trans (List.Perm.of_eq (by simp only [List.append_assoc, List.append_nil, List.nil_append]))).symm
  refine lv_if_ne (tgt := 12) hx hb dX6_whyNotPay_5 (by decide) (fun h5_3 => ?_) (fun h5_3 => ?_)
  · have h5_3 := zk_b1 h5_3
    obtain ⟨ck, hck, rfl⟩ := sHas_nat hI h5_3
    have nck := nI_clamp (show ck < 2 ^ 31 by omega)
    refine lv_iload_n hx hb dX6_whyNotPay_12 rfl (lv_at hl 2 rfl) ?_
    refine lv_if_eq (tgt := 30) hx hb dX6_whyNotPay_13 (by decide) (fun h13_4 => ?_) (fun h13_4 => ?_)
    · refine lv_iconst (v := nI 2) hx hb dX6_whyNotPay_30 (by decide) ?_
      refine lv_goto (tgt := 54) hx hb dX6_whyNotPay_31 (by decide) ?_
      exact zk_reti () hQ hx hb hr hlocks hS hP hD (Nat.le_of_ble_eq_true rfl) (Nat.le_of_ble_eq_true rfl) dX6_whyNotPay_54 (((if_neg (fun z => z h5_3)).trans (if_pos (Or.inl h13_4))).symm)
    · refine lv_iload_n hx hb dX6_whyNotPay_16 rfl (lv_at hl 2 rfl) ?_
      refine lv_i2l (v := am.toInt64) hx hb dX6_whyNotPay_17 rfl ?_
      refine lv_ldc2 hx hb (v := (-9999)) hown w1 dX6_whyNotPay_18 ?_
      refine zk_topL (show (-9999 : Int64) = (-9999 : Int32).toInt64 by decide) ?_
      refine lv_ldc2 hx hb (v := lN 9999) hown w2 dX6_whyNotPay_21 ?_
      refine zk_topL (show lN 9999 = (nI 9999).toInt64 from (nI_l (by decide)).symm) ?_
      have hP0 : va_P G.1 vwCl (([] : va_W) ++ (zb_r G q K)) H := hP
      have hD0 : va_D A (([] : va_W) ++ (zb_r G q K)) := hD
      refine zk_callI (wr := zb_r G q K) (va_runS (As := [.long am.toInt64, .long ((-9999 : Int32).toInt64), .long ((nI 9999).toInt64)]) (rest := []) ⟨hx, hb, hml, hown, hts⟩ (c_X6_inI l G am (-9999) (nI 9999) _) (cwS 3 hts gX6_whyNotPay_X6_in rfl rfl rfl (by decide +kernel) ⟨Nat.le_of_ble_eq_true rfl, Nat.le_of_ble_eq_true rfl⟩) (zk_preS hE hA0 hS (zk_Papp hP0).1 (zk_Dapp hD0).1) rfl rfl hl.1 rfl (lv_room (Nat.le_of_ble_eq_true rfl)) dX6_whyNotPay_24 ⟨Nat.le_of_ble_eq_true rfl, Nat.le_of_ble_eq_true rfl⟩) hP0 hD0 hS hA (fun r6 u7 H locs q8 hP hD hS => ?_)
      subst q8
      have hP : va_P G.1 vwCl (zb_r G q K) H := hP
      have hD : va_D A (zb_r G q K) := hD
      refine lv_if_ne (tgt := 34) hx hb dX6_whyNotPay_27 (by decide) (fun h27_8 => ?_) (fun h27_8 => ?_)
      · have h27_8 := zk_b1 h27_8
        refine lv_iload_n hx hb dX6_whyNotPay_34 rfl (lv_at hl 2 rfl) ?_
        refine lv_if_ge (tgt := 53) hx hb dX6_whyNotPay_35 (by decide) (fun h35_9 => ?_) (fun h35_9 => ?_)
        · have h35_9 := zk_l1 h35_9
          refine lv_iconst (v := nI 0) hx hb dX6_whyNotPay_53 (by decide) ?_
          exact zk_reti () hQ hx hb hr hlocks hS hP hD (Nat.le_of_ble_eq_true rfl) (Nat.le_of_ble_eq_true rfl) dX6_whyNotPay_54 (((if_neg (fun z => z h5_3)).trans ((if_neg (fun z => z.elim h13_4 (fun z => z.elim h27_8.1 h27_8.2))).trans (if_neg (fun z => h35_9 z.1)))).symm)
        · have h35_9 := zk_l2 h35_9
          refine lv_aload_n hx hb dX6_whyNotPay_38 rfl (lv_at hl 0 rfl) ?_
          refine lv_bipush (v := nI 69) hx hb dX6_whyNotPay_39 (by decide) ?_
          refine lv_iload_n hx hb dX6_whyNotPay_41 rfl (lv_at hl 1 rfl) ?_
          refine zk_iaddN hx hb dX6_whyNotPay_42 ?_
          refine zk_ialdN hx hb hK hP 0 0 rfl rfl (k := (69 + ck)) (n := 1555) (by omega) (by omega) dX6_whyNotPay_43 ?_
          refine zk_top (zrow_3 K (c := ck) (by omega)) ?_
          refine lv_iload_n hx hb dX6_whyNotPay_44 rfl (lv_at hl 2 rfl) ?_
          refine lv_iadd hx hb dX6_whyNotPay_45 ?_
          refine lv_if_ge (tgt := 53) hx hb dX6_whyNotPay_46 (by decide) (fun h46_10 => ?_) (fun h46_10 => ?_)
          · have h46_10 := zk_l1 h46_10
            refine lv_iconst (v := nI 0) hx hb dX6_whyNotPay_53 (by decide) ?_
            exact zk_reti () hQ hx hb hr hlocks hS hP hD (Nat.le_of_ble_eq_true rfl) (Nat.le_of_ble_eq_true rfl) dX6_whyNotPay_54 (((if_neg (fun z => z h5_3)).trans ((if_neg (fun z => z.elim h13_4 (fun z => z.elim h27_8.1 h27_8.2))).trans (if_neg (fun z => h46_10 (by have := z.2; rw [nck] at this; exact this))))).symm)
          · have h46_10 := zk_l2 h46_10
            refine lv_iconst (v := nI 3) hx hb dX6_whyNotPay_49 (by decide) ?_
            refine lv_goto (tgt := 54) hx hb dX6_whyNotPay_50 (by decide) ?_
            exact zk_reti () hQ hx hb hr hlocks hS hP hD (Nat.le_of_ble_eq_true rfl) (Nat.le_of_ble_eq_true rfl) dX6_whyNotPay_54 (((if_neg (fun z => z h5_3)).trans ((if_neg (fun z => z.elim h13_4 (fun z => z.elim h27_8.1 h27_8.2))).trans (if_pos ⟨h35_9, by rw [nck]; exact h46_10⟩))).symm)
      · have h27_8 := zk_b0 h27_8
        refine lv_iconst (v := nI 2) hx hb dX6_whyNotPay_30 (by decide) ?_
        refine lv_goto (tgt := 54) hx hb dX6_whyNotPay_31 (by decide) ?_
        exact zk_reti () hQ hx hb hr hlocks hS hP hD (Nat.le_of_ble_eq_true rfl) (Nat.le_of_ble_eq_true rfl) dX6_whyNotPay_54 (((if_neg (fun z => z h5_3)).trans (if_pos (by by_cases z : am < -9999; exact Or.inr (Or.inl z); exact Or.inr (Or.inr (Decidable.byContradiction fun w => h27_8 ⟨z, w⟩))))).symm)
  · have h5_3 := zk_b0 h5_3
    refine lv_iconst (v := nI 1) hx hb dX6_whyNotPay_8 (by decide) ?_
    refine lv_goto (tgt := 54) hx hb dX6_whyNotPay_9 (by decide) ?_
    exact zk_reti () hQ hx hb hr hlocks hS hP hD (Nat.le_of_ble_eq_true rfl) (Nat.le_of_ble_eq_true rfl) dX6_whyNotPay_54 ((if_pos h5_3).symm)

abbrev rmX6_whyNotEntitle : Room := { frames := 2, cells := 0, slots := 0, locals := 46 }
set_option maxHeartbeats 4000000 in
set_option maxRecDepth 100000 in
/-- what speaks against an entitlement -/
theorem c_X6_whyNotEntitle (l : Launch) (G : zk_G) (q : Nat) (K : zL) (n t : Nat) (hI : sInv K n t) (c fr to : Int32) : zk_I (S := Unit) l yX6_whyNotEntitle wsX6_whyNotEntitle rmX6_whyNotEntitle G [.ref q, .int c, .int fr, .int to] (zb_r G q K) (fun r _ => r = sfEnt K c fr to) (fun _ => zb_r G q K) := by
  refine zk_bodyI (cc := cX6_whyNotEntitle) (maxL := 4) (ret := (some .int)) (by decide) rfl (Nat.le_of_ble_eq_true rfl) ?_
  intro p E0 s m args below meth cd A ls Q hF hQ
  obtain ⟨hx, hb, hml, hr, hts, hown, hlocks, -, hE, hP, hD, hS, hA, hA0, hl⟩ := hF
  have hK := hE.1
  have hl : lv_has ls 4 [(0, .ref q), (1, .int c), (2, .int fr), (3, .int to)] := hl
  obtain ⟨hn, hn12, ht, ht40, hfam, hpay⟩ := id hI
  have w1 := hts _ (List.mem_of_getElem? (l := wsX6_whyNotEntitle) (i := 1) (a := Cond.constantLong RX6 43 (39)) rfl)
  refine lv_aload_n hx hb dX6_whyNotEntitle_0 rfl (lv_at hl 0 rfl) ?_
  refine lv_iload_n hx hb dX6_whyNotEntitle_1 rfl (lv_at hl 1 rfl) ?_
  have hP0 : va_P G.1 vwCl ((zb_r G q K) ++ (([] : va_W))) s.heap := zk_Pperm hP (show (zb_r G q K).Perm ((zb_r G q K) ++ (([] : va_W))) from (show (zb_r G q K).Perm (zb_r G q K) from List.Perm.refl _).trans (List.Perm.of_eq (by simp only [List.append_assoc, List.append_nil, List.nil_append])))
  have hD0 : va_D A ((zb_r G q K) ++ (([] : va_W))) := zk_Dperm hD (show (zb_r G q K).Perm ((zb_r G q K) ++ (([] : va_W))) from (show (zb_r G q K).Perm (zb_r G q K) from List.Perm.refl _).trans (List.Perm.of_eq (by simp only [List.append_assoc, List.append_nil, List.nil_append])))
  refine zk_callI (wr := ([] : va_W)) (va_runS (As := [.ref q, .int c]) (rest := []) ⟨hx, hb, hml, hown, hts⟩ (c_X6_isChild l G q K n t hI c _) (cwS 2 hts gX6_whyNotEntitle_X6_isChild rfl rfl rfl (by decide +kernel) ⟨Nat.le_of_ble_eq_true rfl, Nat.le_of_ble_eq_true rfl⟩) (zk_preS hE hA0 hS (zk_Papp hP0).1 (zk_Dapp hD0).1) rfl rfl hl.1 rfl (lv_room (Nat.le_of_ble_eq_true rfl)) dX6_whyNotEntitle_2 ⟨Nat.le_of_ble_eq_true rfl, Nat.le_of_ble_eq_true rfl⟩) hP0 hD0 hS hA (fun r1 u2 H locs q3 hP hD hS => ?_)
  subst q3
  have hP : va_P G.1 vwCl (zb_r G q K) H := zk_Pperm hP (show (zb_r G q K).Perm ((zb_r G q K) ++ (([] : va_W))) from (show (zb_r G q K).Perm (zb_r G q K) from List.Perm.refl _).trans (List.Perm.of_eq (by simp only [List.append_assoc, List.append_nil, List.nil_append]))).symm
  have hD : va_D A (zb_r G q K) := zk_Dperm hD (show (zb_r G q K).Perm ((zb_r G q K) ++ (([] : va_W))) from (show (zb_r G q K).Perm (zb_r G q K) from List.Perm.refl _).trans (List.Perm.of_eq (by simp only [List.append_assoc, List.append_nil, List.nil_append]))).symm
  refine lv_if_eq (tgt := 15) hx hb dX6_whyNotEntitle_5 (by decide) (fun h5_3 => ?_) (fun h5_3 => ?_)
  · have h5_3 := zk_b0 h5_3
    refine lv_iconst (v := nI 1) hx hb dX6_whyNotEntitle_15 (by decide) ?_
    refine lv_goto (tgt := 42) hx hb dX6_whyNotEntitle_16 (by decide) ?_
    exact zk_reti () hQ hx hb hr hlocks hS hP hD (Nat.le_of_ble_eq_true rfl) (Nat.le_of_ble_eq_true rfl) dX6_whyNotEntitle_42 ((if_pos (Or.inl h5_3)).symm)
  · have h5_3 := zk_b1 h5_3
    refine lv_iload_n hx hb dX6_whyNotEntitle_8 rfl (lv_at hl 2 rfl) ?_
    have hP0 : va_P G.1 vwCl (([] : va_W) ++ (zb_r G q K)) H := hP
    have hD0 : va_D A (([] : va_W) ++ (zb_r G q K)) := hD
    refine zk_callI (wr := zb_r G q K) (va_runS (As := [.int fr]) (rest := []) ⟨hx, hb, hml, hown, hts⟩ (c_X6_isDay l G fr _) (cwS 1 hts gX6_whyNotEntitle_X6_isDay rfl rfl rfl (by decide +kernel) ⟨Nat.le_of_ble_eq_true rfl, Nat.le_of_ble_eq_true rfl⟩) (zk_preS hE hA0 hS (zk_Papp hP0).1 (zk_Dapp hD0).1) rfl rfl hl.1 rfl (lv_room (Nat.le_of_ble_eq_true rfl)) dX6_whyNotEntitle_9 ⟨Nat.le_of_ble_eq_true rfl, Nat.le_of_ble_eq_true rfl⟩) hP0 hD0 hS hA (fun r5 u6 H locs q7 hP hD hS => ?_)
    subst q7
    have hP : va_P G.1 vwCl (zb_r G q K) H := hP
    have hD : va_D A (zb_r G q K) := hD
    refine lv_if_ne (tgt := 19) hx hb dX6_whyNotEntitle_12 (by decide) (fun h12_7 => ?_) (fun h12_7 => ?_)
    · have h12_7 := zk_b1 h12_7
      refine lv_iload_n hx hb dX6_whyNotEntitle_19 rfl (lv_at hl 3 rfl) ?_
      refine lv_iconst (v := -1) hx hb dX6_whyNotEntitle_20 (by decide) ?_
      refine lv_icmp_eq (tgt := 37) hx hb dX6_whyNotEntitle_21 (by decide) (fun h21_8 => ?_) (fun h21_8 => ?_)
      · refine lv_iconst (v := nI 0) hx hb dX6_whyNotEntitle_37 (by decide) ?_
        refine lv_goto (tgt := 42) hx hb dX6_whyNotEntitle_38 (by decide) ?_
        exact zk_reti () hQ hx hb hr hlocks hS hP hD (Nat.le_of_ble_eq_true rfl) (Nat.le_of_ble_eq_true rfl) dX6_whyNotEntitle_42 (((if_neg (fun z => z.elim (fun z => z h5_3) (fun z => z h12_7))).trans (if_pos (Or.inl h21_8))).symm)
      · refine lv_iload_n hx hb dX6_whyNotEntitle_24 rfl (lv_at hl 3 rfl) ?_
        refine lv_i2l (v := to.toInt64) hx hb dX6_whyNotEntitle_25 rfl ?_
        refine lv_iload_n hx hb dX6_whyNotEntitle_26 rfl (lv_at hl 2 rfl) ?_
        refine lv_i2l (v := fr.toInt64) hx hb dX6_whyNotEntitle_27 rfl ?_
        refine lv_ldc2 hx hb (v := lN 39) hown w1 dX6_whyNotEntitle_28 ?_
        refine zk_topL (show lN 39 = (nI 39).toInt64 from (nI_l (by decide)).symm) ?_
        have hP0 : va_P G.1 vwCl (([] : va_W) ++ (zb_r G q K)) H := hP
        have hD0 : va_D A (([] : va_W) ++ (zb_r G q K)) := hD
        refine zk_callI (wr := zb_r G q K) (va_runS (As := [.long to.toInt64, .long fr.toInt64, .long ((nI 39).toInt64)]) (rest := []) ⟨hx, hb, hml, hown, hts⟩ (c_X6_inI l G to fr (nI 39) _) (cwS 3 hts gX6_whyNotEntitle_X6_in rfl rfl rfl (by decide +kernel) ⟨Nat.le_of_ble_eq_true rfl, Nat.le_of_ble_eq_true rfl⟩) (zk_preS hE hA0 hS (zk_Papp hP0).1 (zk_Dapp hD0).1) rfl rfl hl.1 rfl (lv_room (Nat.le_of_ble_eq_true rfl)) dX6_whyNotEntitle_31 ⟨Nat.le_of_ble_eq_true rfl, Nat.le_of_ble_eq_true rfl⟩) hP0 hD0 hS hA (fun r10 u11 H locs q12 hP hD hS => ?_)
        subst q12
        have hP : va_P G.1 vwCl (zb_r G q K) H := hP
        have hD : va_D A (zb_r G q K) := hD
        refine lv_if_eq (tgt := 41) hx hb dX6_whyNotEntitle_34 (by decide) (fun h34_12 => ?_) (fun h34_12 => ?_)
        · have h34_12 := zk_b0 h34_12
          refine lv_iconst (v := nI 2) hx hb dX6_whyNotEntitle_41 (by decide) ?_
          exact zk_reti () hQ hx hb hr hlocks hS hP hD (Nat.le_of_ble_eq_true rfl) (Nat.le_of_ble_eq_true rfl) dX6_whyNotEntitle_42 (((if_neg (fun z => z.elim (fun z => z h5_3) (fun z => z h12_7))).trans (if_neg (fun z => z.elim h21_8 (fun z => h34_12 ((zi_ent fr to h12_7.1).mpr z))))).symm)
        · have h34_12 := zk_b1 h34_12
          refine lv_iconst (v := nI 0) hx hb dX6_whyNotEntitle_37 (by decide) ?_
          refine lv_goto (tgt := 42) hx hb dX6_whyNotEntitle_38 (by decide) ?_
          exact zk_reti () hQ hx hb hr hlocks hS hP hD (Nat.le_of_ble_eq_true rfl) (Nat.le_of_ble_eq_true rfl) dX6_whyNotEntitle_42 (((if_neg (fun z => z.elim (fun z => z h5_3) (fun z => z h12_7))).trans (if_pos (Or.inr ((zi_ent fr to h12_7.1).mp h34_12)))).symm)
    · have h12_7 := zk_b0 h12_7
      refine lv_iconst (v := nI 1) hx hb dX6_whyNotEntitle_15 (by decide) ?_
      refine lv_goto (tgt := 42) hx hb dX6_whyNotEntitle_16 (by decide) ?_
      exact zk_reti () hQ hx hb hr hlocks hS hP hD (Nat.le_of_ble_eq_true rfl) (Nat.le_of_ble_eq_true rfl) dX6_whyNotEntitle_42 ((if_pos (Or.inr h12_7)).symm)

abbrev rmX6_canGoBy : Room := { frames := 1, cells := 0, slots := 0, locals := 25 }
set_option maxHeartbeats 4000000 in
set_option maxRecDepth 100000 in
/-- are so many days left -/
theorem c_X6_canGoBy (l : Launch) (G : zk_G) (q : Nat) (K : zL) (n t : Nat) (hI : sInv K n t) (k : Int32) : zk_I (S := Unit) l yX6_canGoBy wsX6_canGoBy rmX6_canGoBy G [.ref q, .int k] (zb_r G q K) (fun r _ => r = if ¬ k < nI 1 ∧ ¬ nI 40 - nI t < k then nI 1 else nI 0) (fun _ => zb_r G q K) := by
  refine zk_bodyI (cc := cX6_canGoBy) (maxL := 2) (ret := (some .boolean)) (by decide) rfl (Nat.le_of_ble_eq_true rfl) ?_
  intro p E0 s m args below meth cd A ls Q hF hQ
  obtain ⟨hx, hb, hml, hr, hts, hown, hlocks, -, hE, hP, hD, hS, hA, hA0, hl⟩ := hF
  have hK := hE.1
  have hl : lv_has ls 2 [(0, .ref q), (1, .int k)] := hl
  obtain ⟨hn, hn12, ht, ht40, hfam, hpay⟩ := id hI
  refine lv_iload_n hx hb dX6_canGoBy_0 rfl (lv_at hl 1 rfl) ?_
  refine lv_i2l (v := k.toInt64) hx hb dX6_canGoBy_1 rfl ?_
  refine lv_lconst (v := lN 1) hx hb dX6_canGoBy_2 rfl ?_
  refine zk_topL (show lN 1 = (nI 1).toInt64 from (nI_l (by decide)).symm) ?_
  refine lv_bipush (v := nI 40) hx hb dX6_canGoBy_3 (by decide) ?_
  refine lv_aload_n hx hb dX6_canGoBy_5 rfl (lv_at hl 0 rfl) ?_
  refine lv_iconst (v := nI 0) hx hb dX6_canGoBy_6 (by decide) ?_
  refine zk_ialdN hx hb hK hP 0 0 rfl rfl (k := 0) (n := 1555) (by omega) (by omega) dX6_canGoBy_7 ?_
  refine zk_top (zrow_l K (c := 0) (by omega)) ?_
  refine zk_top hI.2.2.1 ?_
  refine lv_isub hx hb dX6_canGoBy_8 ?_
  refine lv_i2l (v := ((nI 40) - (nI t)).toInt64) hx hb dX6_canGoBy_9 rfl ?_
  have hP0 : va_P G.1 vwCl (([] : va_W) ++ (zb_r G q K)) s.heap := hP
  have hD0 : va_D A (([] : va_W) ++ (zb_r G q K)) := hD
  refine zk_callI (wr := zb_r G q K) (va_runS (As := [.long k.toInt64, .long ((nI 1).toInt64), .long (((nI 40) - (nI t)).toInt64)]) (rest := []) ⟨hx, hb, hml, hown, hts⟩ (c_X6_inI l G k (nI 1) ((nI 40) - (nI t)) _) (cwS 3 hts gX6_canGoBy_X6_in rfl rfl rfl (by decide +kernel) ⟨Nat.le_of_ble_eq_true rfl, Nat.le_of_ble_eq_true rfl⟩) (zk_preS hE hA0 hS (zk_Papp hP0).1 (zk_Dapp hD0).1) rfl rfl hl.1 rfl (lv_room (Nat.le_of_ble_eq_true rfl)) dX6_canGoBy_10 ⟨Nat.le_of_ble_eq_true rfl, Nat.le_of_ble_eq_true rfl⟩) hP0 hD0 hS hA (fun r1 u2 H locs q3 hP hD hS => ?_)
  subst q3
  have hP : va_P G.1 vwCl (zb_r G q K) H := hP
  have hD : va_D A (zb_r G q K) := hD
  exact zk_retz () hQ hx hb hr hlocks hS hP hD (Nat.le_of_ble_eq_true rfl) (Nat.le_of_ble_eq_true rfl) dX6_canGoBy_13 (zk_nb) (rfl)
