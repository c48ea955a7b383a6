abbrev rmX6_in : Room := { frames := 0, cells := 0, slots := 0, locals := 0 }
set_option maxHeartbeats 4000000 in
set_option maxRecDepth 100000 in
/-- a number in its range -/
theorem c_X6_in (l : Launch) (G : zk_G) (v lo hi : Int64) : zk_I (S := Unit) l yX6_in wsX6_in rmX6_in G [.long v, .long lo, .long hi] ([]) (fun r _ => r = if ¬ v < lo ∧ ¬ hi < v then nI 1 else nI 0) (fun _ => []) := by
  refine zk_bodyI (cc := cX6_in) (maxL := 6) (ret := (some .boolean)) (by decide) rfl (Nat.le_of_ble_eq_true rfl) ?_
  intro p E0 s m args below meth cd A ls Q hF hQ
  obtain ⟨hx, hb, hml, hr, hts, hown, hlocks, -, hE, hP, hD, hS, hA, hA0, hl⟩ := hF
  have hK := hE.1
  have hl : lv_has ls 6 [(0, .long v), (2, .long lo), (4, .long hi)] := hl
  refine lv_lload_n hx hb dX6_in_0 rfl (lv_at hl 0 rfl) ?_
  refine lv_lload_n hx hb dX6_in_1 rfl (lv_at hl 1 rfl) ?_
  refine W.lcmp hx hb dX6_in_2 ?_
  refine lv_if_lt (tgt := 17) hx hb dX6_in_3 (by decide) (fun h3_0 => ?_) (fun h3_0 => ?_)
  · have h3_0 := zk_clt h3_0
    refine lv_iconst (v := nI 0) hx hb dX6_in_17 (by decide) ?_
    exact zk_retz () hQ hx hb hr hlocks hS hP hD (Nat.le_of_ble_eq_true rfl) (Nat.le_of_ble_eq_true rfl) dX6_in_18 (rfl) ((if_neg (fun z => z.1 h3_0)).symm)
  · have h3_0 := zk_cnlt h3_0
    refine lv_lload_n hx hb dX6_in_6 rfl (lv_at hl 0 rfl) ?_
    refine lv_lload hx hb dX6_in_7 (lv_at hl 2 rfl) ?_
    refine W.lcmp hx hb dX6_in_9 ?_
    refine lv_if_gt (tgt := 17) hx hb dX6_in_10 (by decide) (fun h10_1 => ?_) (fun h10_1 => ?_)
    · have h10_1 := zk_cgt h10_1
      refine lv_iconst (v := nI 0) hx hb dX6_in_17 (by decide) ?_
      exact zk_retz () hQ hx hb hr hlocks hS hP hD (Nat.le_of_ble_eq_true rfl) (Nat.le_of_ble_eq_true rfl) dX6_in_18 (rfl) ((if_neg (fun z => z.2 h10_1)).symm)
    · have h10_1 := zk_cngt h10_1
      refine lv_iconst (v := nI 1) hx hb dX6_in_13 (by decide) ?_
      refine lv_goto (tgt := 18) hx hb dX6_in_14 (by decide) ?_
      exact zk_retz () hQ hx hb hr hlocks hS hP hD (Nat.le_of_ble_eq_true rfl) (Nat.le_of_ble_eq_true rfl) dX6_in_18 (rfl) ((if_pos ⟨h3_0, h10_1⟩).symm)

/-- .. of ints -/
theorem c_X6_inI (l : Launch) (G : zk_G) (x y z : Int32) : zk_I (S := Unit) l yX6_in wsX6_in rmX6_in G [.long x.toInt64, .long y.toInt64, .long z.toInt64] ([]) (fun r _ => r = if ¬ x < y ∧ ¬ z < x then nI 1 else nI 0) (fun _ => []) := by
  have h := c_X6_in l G x.toInt64 y.toInt64 z.toInt64
  rw [zi_in] at h
  exact h
abbrev rmX6_isFamily : Room := { frames := 1, cells := 0, slots := 0, locals := 25 }
set_option maxHeartbeats 4000000 in
set_option maxRecDepth 100000 in
/-- is there such a family -/
theorem c_X6_isFamily (l : Launch) (G : zk_G) (f : Int32) : zk_I (S := Unit) l yX6_isFamily wsX6_isFamily rmX6_isFamily G [.int f] ([]) (fun r _ => r = if sFam f then nI 1 else nI 0) (fun _ => []) := by
  refine zk_bodyI (cc := cX6_isFamily) (maxL := 1) (ret := (some .boolean)) (by decide) rfl (Nat.le_of_ble_eq_true rfl) ?_
  intro p E0 s m args below meth cd A ls Q hF hQ
  obtain ⟨hx, hb, hml, hr, hts, hown, hlocks, -, hE, hP, hD, hS, hA, hA0, hl⟩ := hF
  have hK := hE.1
  have hl : lv_has ls 1 [(0, .int f)] := hl
  have w1 := hts _ (List.mem_of_getElem? (l := wsX6_isFamily) (i := 1) (a := Cond.constantLong RX6 41 (4)) rfl)
  refine lv_iload_n hx hb dX6_isFamily_0 rfl (lv_at hl 0 rfl) ?_
  refine lv_i2l (v := f.toInt64) hx hb dX6_isFamily_1 rfl ?_
  refine lv_lconst (v := lN 0) hx hb dX6_isFamily_2 rfl ?_
  refine zk_topL (show lN 0 = (nI 0).toInt64 from (nI_l (by decide)).symm) ?_
  refine lv_ldc2 hx hb (v := lN 4) hown w1 dX6_isFamily_3 ?_
  refine zk_topL (show lN 4 = (nI 4).toInt64 from (nI_l (by decide)).symm) ?_
  have hP0 : va_P G.1 vwCl (([] : va_W) ++ (([] : va_W))) s.heap := hP
  have hD0 : va_D A (([] : va_W) ++ (([] : va_W))) := hD
  refine zk_callI (wr := ([] : va_W)) (va_runS (As := [.long f.toInt64, .long ((nI 0).toInt64), .long ((nI 4).toInt64)]) (rest := []) ⟨hx, hb, hml, hown, hts⟩ (c_X6_inI l G f (nI 0) (nI 4) _) (cwS 3 hts gX6_isFamily_X6_in rfl rfl rfl (by decide +kernel) ⟨Nat.le_of_ble_eq_true rfl, Nat.le_of_ble_eq_true rfl⟩) (zk_preS hE hA0 hS (zk_Papp hP0).1 (zk_Dapp hD0).1) rfl rfl hl.1 rfl (lv_room (Nat.le_of_ble_eq_true rfl)) dX6_isFamily_6 ⟨Nat.le_of_ble_eq_true rfl, Nat.le_of_ble_eq_true rfl⟩) hP0 hD0 hS hA (fun r1 u2 H locs q3 hP hD hS => ?_)
  subst q3
  have hP : va_P G.1 vwCl (([] : va_W)) H := hP
  have hD : va_D A (([] : va_W)) := hD
  exact zk_retz () hQ hx hb hr hlocks hS hP hD (Nat.le_of_ble_eq_true rfl) (Nat.le_of_ble_eq_true rfl) dX6_isFamily_9 (zk_nb) (zk_ifc (zi_fam f))

abbrev rmX6_isDay : Room := { frames := 1, cells := 0, slots := 0, locals := 25 }
set_option maxHeartbeats 4000000 in
set_option maxRecDepth 100000 in
/-- is there such a day -/
theorem c_X6_isDay (l : Launch) (G : zk_G) (d : Int32) : zk_I (S := Unit) l yX6_isDay wsX6_isDay rmX6_isDay G [.int d] ([]) (fun r _ => r = if sDay d then nI 1 else nI 0) (fun _ => []) := by
  refine zk_bodyI (cc := cX6_isDay) (maxL := 1) (ret := (some .boolean)) (by decide) rfl (Nat.le_of_ble_eq_true rfl) ?_
  intro p E0 s m args below meth cd A ls Q hF hQ
  obtain ⟨hx, hb, hml, hr, hts, hown, hlocks, -, hE, hP, hD, hS, hA, hA0, hl⟩ := hF
  have hK := hE.1
  have hl : lv_has ls 1 [(0, .int d)] := hl
  have w1 := hts _ (List.mem_of_getElem? (l := wsX6_isDay) (i := 1) (a := Cond.constantLong RX6 43 (39)) rfl)
  refine lv_iload_n hx hb dX6_isDay_0 rfl (lv_at hl 0 rfl) ?_
  refine lv_i2l (v := d.toInt64) hx hb dX6_isDay_1 rfl ?_
  refine lv_lconst (v := lN 0) hx hb dX6_isDay_2 rfl ?_
  refine zk_topL (show lN 0 = (nI 0).toInt64 from (nI_l (by decide)).symm) ?_
  refine lv_ldc2 hx hb (v := lN 39) hown w1 dX6_isDay_3 ?_
  refine zk_topL (show lN 39 = (nI 39).toInt64 from (nI_l (by decide)).symm) ?_
  have hP0 : va_P G.1 vwCl (([] : va_W) ++ (([] : va_W))) s.heap := hP
  have hD0 : va_D A (([] : va_W) ++ (([] : va_W))) := hD
  refine zk_callI (wr := ([] : va_W)) (va_runS (As := [.long d.toInt64, .long ((nI 0).toInt64), .long ((nI 39).toInt64)]) (rest := []) ⟨hx, hb, hml, hown, hts⟩ (c_X6_inI l G d (nI 0) (nI 39) _) (cwS 3 hts gX6_isDay_X6_in rfl rfl rfl (by decide +kernel) ⟨Nat.le_of_ble_eq_true rfl, Nat.le_of_ble_eq_true rfl⟩) (zk_preS hE hA0 hS (zk_Papp hP0).1 (zk_Dapp hD0).1) rfl rfl hl.1 rfl (lv_room (Nat.le_of_ble_eq_true rfl)) dX6_isDay_6 ⟨Nat.le_of_ble_eq_true rfl, Nat.le_of_ble_eq_true rfl⟩) hP0 hD0 hS hA (fun r1 u2 H locs q3 hP hD hS => ?_)
  subst q3
  have hP : va_P G.1 vwCl (([] : va_W)) H := hP
  have hD : va_D A (([] : va_W)) := hD
  exact zk_retz () hQ hx hb hr hlocks hS hP hD (Nat.le_of_ble_eq_true rfl) (Nat.le_of_ble_eq_true rfl) dX6_isDay_9 (zk_nb) (zk_ifc (zi_day d))

abbrev rmX6_at : Room := { frames := 0, cells := 0, slots := 0, locals := 0 }
set_option maxHeartbeats 4000000 in
set_option maxRecDepth 100000 in
/-- a place -/
theorem c_X6_at (l : Launch) (G : zk_G) (c d : Nat) : zk_I (S := Unit) l yX6_at wsX6_at rmX6_at G [.int (nI c), .int (nI d)] ([]) (fun r _ => r = nI (c * 40 + d)) (fun _ => []) := by
  refine zk_bodyI (cc := cX6_at) (maxL := 2) (ret := (some .int)) (by decide) rfl (Nat.le_of_ble_eq_true rfl) ?_
  intro p E0 s m args below meth cd A ls Q hF hQ
  obtain ⟨hx, hb, hml, hr, hts, hown, hlocks, -, hE, hP, hD, hS, hA, hA0, hl⟩ := hF
  have hK := hE.1
  have hl : lv_has ls 2 [(0, .int (nI c)), (1, .int (nI d))] := hl
  refine lv_bipush (v := nI 40) hx hb dX6_at_0 (by decide) ?_
  refine lv_iload_n hx hb dX6_at_2 rfl (lv_at hl 0 rfl) ?_
  refine zk_imulN hx hb dX6_at_3 ?_
  refine lv_iload_n hx hb dX6_at_4 rfl (lv_at hl 1 rfl) ?_
  refine zk_iaddN hx hb dX6_at_5 ?_
  exact zk_reti () hQ hx hb hr hlocks hS hP hD (Nat.le_of_ble_eq_true rfl) (Nat.le_of_ble_eq_true rfl) dX6_at_6 (by rw [Nat.mul_comm 40 c])

abbrev rmX6_isChild : Room := { frames := 1, cells := 0, slots := 0, locals := 25 }
set_option maxHeartbeats 4000000 in
set_option maxRecDepth 100000 in
/-- is there such a child -/
theorem c_X6_isChild (l : Launch) (G : zk_G) (q : Nat) (K : zL) (n t : Nat) (hI : sInv K n t) (c : Int32) : zk_I (S := Unit) l yX6_isChild wsX6_isChild rmX6_isChild G [.ref q, .int c] (zb_r G q K) (fun r _ => r = if sHas K c then nI 1 else nI 0) (fun _ => zb_r G q K) := by
  refine zk_bodyI (cc := cX6_isChild) (maxL := 2) (ret := (some .boolean)) (by decide) rfl (Nat.le_of_ble_eq_true rfl) ?_
  intro p E0 s m args below meth cd A ls Q hF hQ
  obtain ⟨hx, hb, hml, hr, hts, hown, hlocks, -, hE, hP, hD, hS, hA, hA0, hl⟩ := hF
  have hK := hE.1
  have hl : lv_has ls 2 [(0, .ref q), (1, .int c)] := hl
  obtain ⟨hn, hn12, ht, ht40, hfam, hpay⟩ := id hI
  refine lv_iload_n hx hb dX6_isChild_0 rfl (lv_at hl 1 rfl) ?_
  refine lv_i2l (v := c.toInt64) hx hb dX6_isChild_1 rfl ?_
  refine lv_lconst (v := lN 0) hx hb dX6_isChild_2 rfl ?_
  refine zk_topL (show lN 0 = (nI 0).toInt64 from (nI_l (by decide)).symm) ?_
  refine lv_aload_n hx hb dX6_isChild_3 rfl (lv_at hl 0 rfl) ?_
  refine lv_iconst (v := nI 1) hx hb dX6_isChild_4 (by decide) ?_
  refine zk_ialdN hx hb hK hP 0 0 rfl rfl (k := 1) (n := 1555) (by omega) (by omega) dX6_isChild_5 ?_
  refine zk_top (zrow_l K (c := 1) (by omega)) ?_
  refine zk_top hI.1 ?_
  refine lv_iconst (v := nI 1) hx hb dX6_isChild_6 (by decide) ?_
  refine lv_isub hx hb dX6_isChild_7 ?_
  refine lv_i2l (v := ((nI n) - (nI 1)).toInt64) hx hb dX6_isChild_8 rfl ?_
  have hP0 : va_P G.1 vwCl (([] : va_W) ++ (zb_r G q K)) s.heap := hP
  have hD0 : va_D A (([] : va_W) ++ (zb_r G q K)) := hD
  refine zk_callI (wr := zb_r G q K) (va_runS (As := [.long c.toInt64, .long ((nI 0).toInt64), .long (((nI n) - (nI 1)).toInt64)]) (rest := []) ⟨hx, hb, hml, hown, hts⟩ (c_X6_inI l G c (nI 0) ((nI n) - (nI 1)) _) (cwS 3 hts gX6_isChild_X6_in rfl rfl rfl (by decide +kernel) ⟨Nat.le_of_ble_eq_true rfl, Nat.le_of_ble_eq_true rfl⟩) (zk_preS hE hA0 hS (zk_Papp hP0).1 (zk_Dapp hD0).1) rfl rfl hl.1 rfl (lv_room (Nat.le_of_ble_eq_true rfl)) dX6_isChild_9 ⟨Nat.le_of_ble_eq_true rfl, Nat.le_of_ble_eq_true rfl⟩) hP0 hD0 hS hA (fun r1 u2 H locs q3 hP hD hS => ?_)
  subst q3
  have hP : va_P G.1 vwCl (zb_r G q K) H := hP
  have hD : va_D A (zb_r G q K) := hD
  exact zk_retz () hQ hx hb hr hlocks hS hP hD (Nat.le_of_ble_eq_true rfl) (Nat.le_of_ble_eq_true rfl) dX6_isChild_12 (zk_nb) (zk_ifc (zi_has hI c))

abbrev rmX6_isEntitled : Room := { frames := 1, cells := 0, slots := 0, locals := 25 }
set_option maxHeartbeats 4000000 in
set_option maxRecDepth 100000 in
/-- is a child entitled on a day -/
theorem c_X6_isEntitled (l : Launch) (G : zk_G) (q : Nat) (K : zL) (n t : Nat) (hI : sInv K n t) (c d : Nat) (hc : c < n) (hd : d < 40) : zk_I (S := Unit) l yX6_isEntitled wsX6_isEntitled rmX6_isEntitled G [.ref q, .int (nI c), .int (nI d)] (zb_r G q K) (fun r _ => r = if sEnt K c d then nI 1 else nI 0) (fun _ => zb_r G q K) := by
  refine zk_bodyI (cc := cX6_isEntitled) (maxL := 3) (ret := (some .boolean)) (by decide) rfl (Nat.le_of_ble_eq_true rfl) ?_
  intro p E0 s m args below meth cd A ls Q hF hQ
  obtain ⟨hx, hb, hml, hr, hts, hown, hlocks, -, hE, hP, hD, hS, hA, hA0, hl⟩ := hF
  have hK := hE.1
  have hl : lv_has ls 3 [(0, .ref q), (1, .int (nI c)), (2, .int (nI d))] := hl
  obtain ⟨hn, hn12, ht, ht40, hfam, hpay⟩ := id hI
  refine lv_aload_n hx hb dX6_isEntitled_0 rfl (lv_at hl 0 rfl) ?_
  refine lv_bipush (v := nI 81) hx hb dX6_isEntitled_1 (by decide) ?_
  refine lv_iload_n hx hb dX6_isEntitled_3 rfl (lv_at hl 1 rfl) ?_
  refine zk_iaddN hx hb dX6_isEntitled_4 ?_
  refine zk_ialdN hx hb hK hP 0 0 rfl rfl (k := (81 + c)) (n := 1555) (by omega) (by omega) dX6_isEntitled_5 ?_
  refine zk_top (zrow_4 K (c := c) (by omega)) ?_
  refine lv_iconst (v := -1) hx hb dX6_isEntitled_6 (by decide) ?_
  refine lv_icmp_eq (tgt := 36) hx hb dX6_isEntitled_7 (by decide) (fun h7_0 => ?_) (fun h7_0 => ?_)
  · refine lv_iconst (v := nI 0) hx hb dX6_isEntitled_36 (by decide) ?_
    exact zk_retz () hQ hx hb hr hlocks hS hP hD (Nat.le_of_ble_eq_true rfl) (Nat.le_of_ble_eq_true rfl) dX6_isEntitled_37 (rfl) ((if_neg (fun z => z.1 h7_0)).symm)
  · refine lv_iload_n hx hb dX6_isEntitled_10 rfl (lv_at hl 2 rfl) ?_
    refine lv_i2l (v := (nI d).toInt64) hx hb dX6_isEntitled_11 rfl ?_
    refine lv_aload_n hx hb dX6_isEntitled_12 rfl (lv_at hl 0 rfl) ?_
    refine lv_bipush (v := nI 81) hx hb dX6_isEntitled_13 (by decide) ?_
    refine lv_iload_n hx hb dX6_isEntitled_15 rfl (lv_at hl 1 rfl) ?_
    refine zk_iaddN hx hb dX6_isEntitled_16 ?_
    refine zk_ialdN hx hb hK hP 0 0 rfl rfl (k := (81 + c)) (n := 1555) (by omega) (by omega) dX6_isEntitled_17 ?_
    refine zk_top (zrow_4 K (c := c) (by omega)) ?_
    refine lv_i2l (v := (K 4 c).toInt64) hx hb dX6_isEntitled_18 rfl ?_
    refine lv_aload_n hx hb dX6_isEntitled_19 rfl (lv_at hl 0 rfl) ?_
    refine lv_bipush (v := nI 93) hx hb dX6_isEntitled_20 (by decide) ?_
    refine lv_iload_n hx hb dX6_isEntitled_22 rfl (lv_at hl 1 rfl) ?_
    refine zk_iaddN hx hb dX6_isEntitled_23 ?_
    refine zk_ialdN hx hb hK hP 0 0 rfl rfl (k := (93 + c)) (n := 1555) (by omega) (by omega) dX6_isEntitled_24 ?_
    refine zk_top (zrow_5 K (c := c) (by omega)) ?_
    refine lv_i2l (v := (K 5 c).toInt64) hx hb dX6_isEntitled_25 rfl ?_
    have hP0 : va_P G.1 vwCl (([] : va_W) ++ (zb_r G q K)) s.heap := hP
    have hD0 : va_D A (([] : va_W) ++ (zb_r G q K)) := hD
    refine zk_callI (wr := zb_r G q K) (va_runS (As := [.long ((nI d).toInt64), .long ((K 4 c).toInt64), .long ((K 5 c).toInt64)]) (rest := []) ⟨hx, hb, hml, hown, hts⟩ (c_X6_inI l G (nI d) (K 4 c) (K 5 c) _) (cwS 3 hts gX6_isEntitled_X6_in rfl rfl rfl (by decide +kernel) ⟨Nat.le_of_ble_eq_true rfl, Nat.le_of_ble_eq_true rfl⟩) (zk_preS hE hA0 hS (zk_Papp hP0).1 (zk_Dapp hD0).1) rfl rfl hl.1 rfl (lv_room (Nat.le_of_ble_eq_true rfl)) dX6_isEntitled_26 ⟨Nat.le_of_ble_eq_true rfl, Nat.le_of_ble_eq_true rfl⟩) hP0 hD0 hS hA (fun r2 u3 H locs q4 hP hD hS => ?_)
    subst q4
    have hP : va_P G.1 vwCl (zb_r G q K) H := hP
    have hD : va_D A (zb_r G q K) := hD
    refine lv_if_eq (tgt := 36) hx hb dX6_isEntitled_29 (by decide) (fun h29_4 => ?_) (fun h29_4 => ?_)
    · have h29_4 := zk_b0 h29_4
      refine lv_iconst (v := nI 0) hx hb dX6_isEntitled_36 (by decide) ?_
      exact zk_retz () hQ hx hb hr hlocks hS hP hD (Nat.le_of_ble_eq_true rfl) (Nat.le_of_ble_eq_true rfl) dX6_isEntitled_37 (rfl) ((if_neg (fun z => h29_4 z.2)).symm)
    · have h29_4 := zk_b1 h29_4
      refine lv_iconst (v := nI 1) hx hb dX6_isEntitled_32 (by decide) ?_
      refine lv_goto (tgt := 37) hx hb dX6_isEntitled_33 (by decide) ?_
      exact zk_retz () hQ hx hb hr hlocks hS hP hD (Nat.le_of_ble_eq_true rfl) (Nat.le_of_ble_eq_true rfl) dX6_isEntitled_37 (rfl) ((if_pos ⟨h7_0, h29_4.1, h29_4.2⟩).symm)

abbrev rmX6_count : Room := { frames := 1, cells := 0, slots := 0, locals := 21 }
set_option maxHeartbeats 4000000 in
set_option maxRecDepth 100000 in
/-- the meals of a kind -/
theorem c_X6_count (l : Launch) (G : zk_G) (q : Nat) (K : zL) (n t : Nat) (hI : sInv K n t) (ch dy w : Int32) : zk_I (S := Unit) l yX6_count wsX6_count rmX6_count G [.ref q, .int ch, .int dy, .int w] (zb_r G q K) (fun r _ => r = kCnt K n ch dy w) (fun _ => zb_r G q K) := by
  refine zk_bodyI (cc := cX6_count) (maxL := 8) (ret := (some .int)) (by decide) rfl (Nat.le_of_ble_eq_true rfl) ?_
  intro p E0 s m args below meth cd A ls Q hF hQ
  obtain ⟨hx, hb, hml, hr, hts, hown, hlocks, -, hE, hP, hD, hS, hA, hA0, hl⟩ := hF
  have hK := hE.1
  have hl : lv_has ls 8 [(0, .ref q), (1, .int ch), (2, .int dy), (3, .int w)] := hl
  obtain ⟨hn, hn12, ht, ht40, hfam, hpay⟩ := id hI
  refine lv_iconst (v := nI 0) hx hb dX6_count_0 (by decide) ?_
  refine lv_istore (lv' := [(4, .int (nI 0)), (0, .ref q), (1, .int ch), (2, .int dy), (3, .int w)]) hx hb dX6_count_1 hl (by decide) rfl (fun ls hl => ?_)
  refine lv_iconst (v := nI 0) hx hb dX6_count_3 (by decide) ?_
  refine lv_istore (lv' := [(5, .int (nI 0)), (4, .int (nI 0)), (0, .ref q), (1, .int ch), (2, .int dy), (3, .int w)]) hx hb dX6_count_4 hl (by decide) rfl (fun ls hl => ?_)
  have lp1 : ∀ (n3 : Nat) (i : Nat) (x : Int32), n - i < n3 → (i ≤ n) → (x = zs (fun c => zs (fun d => if (ch = -1 ∨ nI c = ch) ∧ (dy = -1 ∨ nI d = dy) ∧ K 9 (c * 40 + d) = w then nI 1 else nI 0) 40) i) → ∀ (H : Heap) (locs : List Loc) (hP : va_P G.1 vwCl (zb_r G q K) H) (hD : va_D A (zb_r G q K)) (hS : va_S A s.heap H locs) (ls : Array Slot), lv_has ls 8 [(5, .int (nI i)), (4, .int x), (0, .ref q), (1, .int ch), (2, .int dy), (3, .int w)] → W p l E0 rmX6_count s m args below meth cd H locs 0 0 Q (F0 m 6 ls []) := by
    intro n3
    induction n3 with
    | zero => intro i x hz; exact absurd hz (Nat.not_lt_zero _)
    | succ n3 ih2 =>
      intro i x hm hi hq H locs hP hD hS ls hl
      refine lv_iload hx hb dX6_count_6 (lv_at hl 0 rfl) ?_
      refine lv_aload_n hx hb dX6_count_8 rfl (lv_at hl 2 rfl) ?_
      refine lv_iconst (v := nI 1) hx hb dX6_count_9 (by decide) ?_
      refine zk_ialdN hx hb hK hP 0 0 rfl rfl (k := 1) (n := 1555) (by omega) (by omega) dX6_count_10 ?_
      refine zk_top (zrow_l K (c := 1) (by omega)) ?_
      refine zk_top hI.1 ?_
      refine lv_icmp_ge (tgt := 96) hx hb dX6_count_11 (by decide) (fun h11_3 => ?_) (fun h11_3 => ?_)
      · have h11_3 := zk_le (by omega) (by omega) h11_3
        refine lv_iload hx hb dX6_count_96 (lv_at hl 1 rfl) ?_
        exact zk_reti () hQ hx hb hr hlocks hS hP hD (Nat.le_of_ble_eq_true rfl) (Nat.le_of_ble_eq_true rfl) dX6_count_98 (by rw [hq, show i = n by omega]; rfl)
      · have h11_3 := zk_nle (by omega) (by omega) h11_3
        refine lv_iconst (v := nI 0) hx hb dX6_count_14 (by decide) ?_
        refine lv_istore (lv' := [(6, .int (nI 0)), (5, .int (nI i)), (4, .int x), (0, .ref q), (1, .int ch), (2, .int dy), (3, .int w)]) hx hb dX6_count_15 hl (by decide) rfl (fun ls hl => ?_)
        have lp5 : ∀ (n7 : Nat) (j : Nat) (y : Int32), 40 - j < n7 → (j ≤ 40) → (y = x + zs (fun d => if (ch = -1 ∨ nI i = ch) ∧ (dy = -1 ∨ nI d = dy) ∧ K 9 (i * 40 + d) = w then nI 1 else nI 0) j) → ∀ (H : Heap) (locs : List Loc) (hP : va_P G.1 vwCl (zb_r G q K) H) (hD : va_D A (zb_r G q K)) (hS : va_S A s.heap H locs) (ls : Array Slot), lv_has ls 8 [(6, .int (nI j)), (5, .int (nI i)), (4, .int y), (0, .ref q), (1, .int ch), (2, .int dy), (3, .int w)] → W p l E0 rmX6_count s m args below meth cd H locs 0 0 Q (F0 m 17 ls []) := by
          intro n7
          induction n7 with
          | zero => intro j y hz; exact absurd hz (Nat.not_lt_zero _)
          | succ n7 ih6 =>
            intro j y hm hj hy H locs hP hD hS ls hl
            refine lv_iload hx hb dX6_count_17 (lv_at hl 0 rfl) ?_
            refine lv_bipush (v := nI 40) hx hb dX6_count_19 (by decide) ?_
            refine lv_icmp_ge (tgt := 90) hx hb dX6_count_21 (by decide) (fun h21_7 => ?_) (fun h21_7 => ?_)
            · have h21_7 := zk_le (by omega) (by omega) h21_7
              refine lv_iinc (v := nI (i + 1)) (lv' := [(5, .int (nI (i + 1))), (6, .int (nI j)), (4, .int y), (0, .ref q), (1, .int ch), (2, .int dy), (3, .int w)]) hx hb dX6_count_90 hl (k := 1) rfl (zk_inc i 1) (by decide) rfl (fun ls hl => ?_)
              refine lv_goto (tgt := 6) hx hb dX6_count_93 (by decide) ?_
              exact ih2 (i + 1) y (by omega) (by omega) (by refine zs_i hq ?_; rw [show j = 40 by omega] at hy; exact hy) _ _ hP hD hS ls (lv_sub hl [0, 2, 3, 4, 5, 6] rfl)
            · have h21_7 := zk_nle (by omega) (by omega) h21_7
              refine lv_iload_n hx hb dX6_count_24 rfl (lv_at hl 4 rfl) ?_
              refine lv_iconst (v := -1) hx hb dX6_count_25 (by decide) ?_
              refine lv_icmp_eq (tgt := 35) hx hb dX6_count_26 (by decide) (fun h26_8 => ?_) (fun h26_8 => ?_)
              · refine lv_iload_n hx hb dX6_count_35 rfl (lv_at hl 5 rfl) ?_
                refine lv_iconst (v := -1) hx hb dX6_count_36 (by decide) ?_
                refine lv_icmp_eq (tgt := 46) hx hb dX6_count_37 (by decide) (fun h37_9 => ?_) (fun h37_9 => ?_)
                · refine lv_aload_n hx hb dX6_count_46 rfl (lv_at hl 3 rfl) ?_
                  refine lv_bipush (v := nI 115) hx hb dX6_count_47 (by decide) ?_
                  refine lv_iload hx hb dX6_count_49 (lv_at hl 1 rfl) ?_
                  refine lv_iload hx hb dX6_count_51 (lv_at hl 0 rfl) ?_
                  have hP0 : va_P G.1 vwCl (([] : va_W) ++ (zb_r G q K)) H := hP
                  have hD0 : va_D A (([] : va_W) ++ (zb_r G q K)) := hD
                  refine zk_callI (wr := zb_r G q K) (va_runS (As := [.int (nI i), .int (nI j)]) (rest := [.int (nI 115), .ref q]) ⟨hx, hb, hml, hown, hts⟩ (c_X6_at l G i j _) (cwS 2 hts gX6_count_X6_at rfl rfl rfl (by decide +kernel) ⟨Nat.le_of_ble_eq_true rfl, Nat.le_of_ble_eq_true rfl⟩) (zk_preS hE hA0 hS (zk_Papp hP0).1 (zk_Dapp hD0).1) rfl rfl hl.1 rfl (lv_room (Nat.le_of_ble_eq_true rfl)) dX6_count_53 ⟨Nat.le_of_ble_eq_true rfl, Nat.le_of_ble_eq_true rfl⟩) hP0 hD0 hS hA (fun r11 u12 H locs q13 hP hD hS => ?_)
                  subst q13
                  have hP : va_P G.1 vwCl (zb_r G q K) H := hP
                  have hD : va_D A (zb_r G q K) := hD
                  refine zk_iaddN hx hb dX6_count_56 ?_
                  refine zk_ialdN hx hb hK hP 0 0 rfl rfl (k := (115 + (i * 40 + j))) (n := 1555) (by omega) (by omega) dX6_count_57 ?_
                  refine zk_top (zrow_9 K (c := i * 40 + j) (by omega)) ?_
                  refine lv_iload_n hx hb dX6_count_58 rfl (lv_at hl 6 rfl) ?_
                  refine lv_icmp_ne (tgt := 66) hx hb dX6_count_59 (by decide) (fun h59_13 => ?_) (fun h59_13 => ?_)
                  · refine lv_iconst (v := nI 0) hx hb dX6_count_66 (by decide) ?_
                    refine lv_istore (lv' := [(7, .int (nI 0)), (6, .int (nI j)), (5, .int (nI i)), (4, .int y), (0, .ref q), (1, .int ch), (2, .int dy), (3, .int w)]) hx hb dX6_count_67 hl (by decide) rfl (fun ls hl => ?_)
                    refine lv_iload hx hb dX6_count_69 (lv_at hl 3 rfl) ?_
                    refine lv_iload hx hb dX6_count_71 (lv_at hl 0 rfl) ?_
                    refine lv_if_eq (tgt := 80) hx hb dX6_count_73 (by decide) (fun _ => ?_) (fun z => absurd (by decide) z)
                    refine lv_iconst (v := nI 0) hx hb dX6_count_80 (by decide) ?_
                    refine lv_iadd hx hb dX6_count_81 ?_
                    refine lv_topi (fun x15 ex15 => ?_)
                    refine lv_istore (lv' := [(4, .int x15), (7, .int (nI 0)), (6, .int (nI j)), (5, .int (nI i)), (0, .ref q), (1, .int ch), (2, .int dy), (3, .int w)]) hx hb dX6_count_82 hl (by decide) rfl (fun ls hl => ?_)
                    refine lv_iinc (v := nI (j + 1)) (lv' := [(6, .int (nI (j + 1))), (4, .int x15), (7, .int (nI 0)), (5, .int (nI i)), (0, .ref q), (1, .int ch), (2, .int dy), (3, .int w)]) hx hb dX6_count_84 hl (k := 2) rfl (zk_inc j 1) (by decide) rfl (fun ls hl => ?_)
                    refine lv_goto (tgt := 17) hx hb dX6_count_87 (by decide) ?_
                    exact ih6 (j + 1) x15 (by omega) (by omega) (by refine zs2_i hy ?_; simp +decide [zk_a0, h11_3, h21_7, h26_8, h37_9, h59_13, ex15]) _ _ hP hD hS ls (lv_sub hl [0, 3, 1, 4, 5, 6, 7] rfl)
                  · refine lv_iconst (v := nI 1) hx hb dX6_count_62 (by decide) ?_
                    refine lv_goto (tgt := 67) hx hb dX6_count_63 (by decide) ?_
                    refine lv_istore (lv' := [(7, .int (nI 1)), (6, .int (nI j)), (5, .int (nI i)), (4, .int y), (0, .ref q), (1, .int ch), (2, .int dy), (3, .int w)]) hx hb dX6_count_67 hl (by decide) rfl (fun ls hl => ?_)
                    refine lv_iload hx hb dX6_count_69 (lv_at hl 3 rfl) ?_
                    refine lv_iload hx hb dX6_count_71 (lv_at hl 0 rfl) ?_
                    refine lv_if_eq (tgt := 80) hx hb dX6_count_73 (by decide) (fun z => absurd z (by decide)) (fun _ => ?_)
                    refine lv_iconst (v := nI 1) hx hb dX6_count_76 (by decide) ?_
                    refine lv_goto (tgt := 81) hx hb dX6_count_77 (by decide) ?_
                    refine lv_iadd hx hb dX6_count_81 ?_
                    refine lv_topi (fun x16 ex16 => ?_)
                    refine lv_istore (lv' := [(4, .int x16), (7, .int (nI 1)), (6, .int (nI j)), (5, .int (nI i)), (0, .ref q), (1, .int ch), (2, .int dy), (3, .int w)]) hx hb dX6_count_82 hl (by decide) rfl (fun ls hl => ?_)
                    refine lv_iinc (v := nI (j + 1)) (lv' := [(6, .int (nI (j + 1))), (4, .int x16), (7, .int (nI 1)), (5, .int (nI i)), (0, .ref q), (1, .int ch), (2, .int dy), (3, .int w)]) hx hb dX6_count_84 hl (k := 2) rfl (zk_inc j 1) (by decide) rfl (fun ls hl => ?_)
                    refine lv_goto (tgt := 17) hx hb dX6_count_87 (by decide) ?_
                    exact ih6 (j + 1) x16 (by omega) (by omega) (by refine zs2_i hy ?_; simp +decide [zk_a0, h11_3, h21_7, h26_8, h37_9, h59_13, ex16]) _ _ hP hD hS ls (lv_sub hl [0, 3, 1, 4, 5, 6, 7] rfl)
                · refine lv_iload hx hb dX6_count_40 (lv_at hl 0 rfl) ?_
                  refine lv_iload_n hx hb dX6_count_42 rfl (lv_at hl 5 rfl) ?_
                  refine lv_icmp_ne (tgt := 66) hx hb dX6_count_43 (by decide) (fun h43_16 => ?_) (fun h43_16 => ?_)
                  · refine lv_iconst (v := nI 0) hx hb dX6_count_66 (by decide) ?_
                    refine lv_istore (lv' := [(7, .int (nI 0)), (6, .int (nI j)), (5, .int (nI i)), (4, .int y), (0, .ref q), (1, .int ch), (2, .int dy), (3, .int w)]) hx hb dX6_count_67 hl (by decide) rfl (fun ls hl => ?_)
                    refine lv_iload hx hb dX6_count_69 (lv_at hl 3 rfl) ?_
                    refine lv_iload hx hb dX6_count_71 (lv_at hl 0 rfl) ?_
                    refine lv_if_eq (tgt := 80) hx hb dX6_count_73 (by decide) (fun _ => ?_) (fun z => absurd (by decide) z)
                    refine lv_iconst (v := nI 0) hx hb dX6_count_80 (by decide) ?_
                    refine lv_iadd hx hb dX6_count_81 ?_
                    refine lv_topi (fun x18 ex18 => ?_)
                    refine lv_istore (lv' := [(4, .int x18), (7, .int (nI 0)), (6, .int (nI j)), (5, .int (nI i)), (0, .ref q), (1, .int ch), (2, .int dy), (3, .int w)]) hx hb dX6_count_82 hl (by decide) rfl (fun ls hl => ?_)
                    refine lv_iinc (v := nI (j + 1)) (lv' := [(6, .int (nI (j + 1))), (4, .int x18), (7, .int (nI 0)), (5, .int (nI i)), (0, .ref q), (1, .int ch), (2, .int dy), (3, .int w)]) hx hb dX6_count_84 hl (k := 2) rfl (zk_inc j 1) (by decide) rfl (fun ls hl => ?_)
                    refine lv_goto (tgt := 17) hx hb dX6_count_87 (by decide) ?_
                    exact ih6 (j + 1) x18 (by omega) (by omega) (by refine zs2_i hy ?_; simp +decide [zk_a0, h11_3, h21_7, h26_8, h37_9, h43_16, ex18]) _ _ hP hD hS ls (lv_sub hl [0, 3, 1, 4, 5, 6, 7] rfl)
                  · refine lv_aload_n hx hb dX6_count_46 rfl (lv_at hl 3 rfl) ?_
                    refine lv_bipush (v := nI 115) hx hb dX6_count_47 (by decide) ?_
                    refine lv_iload hx hb dX6_count_49 (lv_at hl 1 rfl) ?_
                    refine lv_iload hx hb dX6_count_51 (lv_at hl 0 rfl) ?_
                    have hP0 : va_P G.1 vwCl (([] : va_W) ++ (zb_r G q K)) H := hP
                    have hD0 : va_D A (([] : va_W) ++ (zb_r G q K)) := hD
                    refine zk_callI (wr := zb_r G q K) (va_runS (As := [.int (nI i), .int (nI j)]) (rest := [.int (nI 115), .ref q]) ⟨hx, hb, hml, hown, hts⟩ (c_X6_at l G i j _) (cwS 2 hts gX6_count_X6_at rfl rfl rfl (by decide +kernel) ⟨Nat.le_of_ble_eq_true rfl, Nat.le_of_ble_eq_true rfl⟩) (zk_preS hE hA0 hS (zk_Papp hP0).1 (zk_Dapp hD0).1) rfl rfl hl.1 rfl (lv_room (Nat.le_of_ble_eq_true rfl)) dX6_count_53 ⟨Nat.le_of_ble_eq_true rfl, Nat.le_of_ble_eq_true rfl⟩) hP0 hD0 hS hA (fun r19 u20 H locs q21 hP hD hS => ?_)
                    subst q21
                    have hP : va_P G.1 vwCl (zb_r G q K) H := hP
                    have hD : va_D A (zb_r G q K) := hD
                    refine zk_iaddN hx hb dX6_count_56 ?_
                    refine zk_ialdN hx hb hK hP 0 0 rfl rfl (k := (115 + (i * 40 + j))) (n := 1555) (by omega) (by omega) dX6_count_57 ?_
                    refine zk_top (zrow_9 K (c := i * 40 + j) (by omega)) ?_
                    refine lv_iload_n hx hb dX6_count_58 rfl (lv_at hl 6 rfl) ?_
                    refine lv_icmp_ne (tgt := 66) hx hb dX6_count_59 (by decide) (fun h59_21 => ?_) (fun h59_21 => ?_)
                    · refine lv_iconst (v := nI 0) hx hb dX6_count_66 (by decide) ?_
                      refine lv_istore (lv' := [(7, .int (nI 0)), (6, .int (nI j)), (5, .int (nI i)), (4, .int y), (0, .ref q), (1, .int ch), (2, .int dy), (3, .int w)]) hx hb dX6_count_67 hl (by decide) rfl (fun ls hl => ?_)
                      refine lv_iload hx hb dX6_count_69 (lv_at hl 3 rfl) ?_
                      refine lv_iload hx hb dX6_count_71 (lv_at hl 0 rfl) ?_
                      refine lv_if_eq (tgt := 80) hx hb dX6_count_73 (by decide) (fun _ => ?_) (fun z => absurd (by decide) z)
                      refine lv_iconst (v := nI 0) hx hb dX6_count_80 (by decide) ?_
                      refine lv_iadd hx hb dX6_count_81 ?_
                      refine lv_topi (fun x23 ex23 => ?_)
                      refine lv_istore (lv' := [(4, .int x23), (7, .int (nI 0)), (6, .int (nI j)), (5, .int (nI i)), (0, .ref q), (1, .int ch), (2, .int dy), (3, .int w)]) hx hb dX6_count_82 hl (by decide) rfl (fun ls hl => ?_)
                      refine lv_iinc (v := nI (j + 1)) (lv' := [(6, .int (nI (j + 1))), (4, .int x23), (7, .int (nI 0)), (5, .int (nI i)), (0, .ref q), (1, .int ch), (2, .int dy), (3, .int w)]) hx hb dX6_count_84 hl (k := 2) rfl (zk_inc j 1) (by decide) rfl (fun ls hl => ?_)
                      refine lv_goto (tgt := 17) hx hb dX6_count_87 (by decide) ?_
                      exact ih6 (j + 1) x23 (by omega) (by omega) (by refine zs2_i hy ?_; simp +decide [zk_a0, h11_3, h21_7, h26_8, h37_9, h43_16, h59_21, ex23]) _ _ hP hD hS ls (lv_sub hl [0, 3, 1, 4, 5, 6, 7] rfl)
                    · refine lv_iconst (v := nI 1) hx hb dX6_count_62 (by decide) ?_
                      refine lv_goto (tgt := 67) hx hb dX6_count_63 (by decide) ?_
                      refine lv_istore (lv' := [(7, .int (nI 1)), (6, .int (nI j)), (5, .int (nI i)), (4, .int y), (0, .ref q), (1, .int ch), (2, .int dy), (3, .int w)]) hx hb dX6_count_67 hl (by decide) rfl (fun ls hl => ?_)
                      refine lv_iload hx hb dX6_count_69 (lv_at hl 3 rfl) ?_
                      refine lv_iload hx hb dX6_count_71 (lv_at hl 0 rfl) ?_
                      refine lv_if_eq (tgt := 80) hx hb dX6_count_73 (by decide) (fun z => absurd z (by decide)) (fun _ => ?_)
                      refine lv_iconst (v := nI 1) hx hb dX6_count_76 (by decide) ?_
                      refine lv_goto (tgt := 81) hx hb dX6_count_77 (by decide) ?_
                      refine lv_iadd hx hb dX6_count_81 ?_
                      refine lv_topi (fun x24 ex24 => ?_)
                      refine lv_istore (lv' := [(4, .int x24), (7, .int (nI 1)), (6, .int (nI j)), (5, .int (nI i)), (0, .ref q), (1, .int ch), (2, .int dy), (3, .int w)]) hx hb dX6_count_82 hl (by decide) rfl (fun ls hl => ?_)
                      refine lv_iinc (v := nI (j + 1)) (lv' := [(6, .int (nI (j + 1))), (4, .int x24), (7, .int (nI 1)), (5, .int (nI i)), (0, .ref q), (1, .int ch), (2, .int dy), (3, .int w)]) hx hb dX6_count_84 hl (k := 2) rfl (zk_inc j 1) (by decide) rfl (fun ls hl => ?_)
                      refine lv_goto (tgt := 17) hx hb dX6_count_87 (by decide) ?_
                      exact ih6 (j + 1) x24 (by omega) (by omega) (by refine zs2_i hy ?_; simp +decide [zk_a0, h11_3, h21_7, h26_8, h37_9, h43_16, h59_21, ex24]) _ _ hP hD hS ls (lv_sub hl [0, 3, 1, 4, 5, 6, 7] rfl)
              · refine lv_iload hx hb dX6_count_29 (lv_at hl 1 rfl) ?_
                refine lv_iload_n hx hb dX6_count_31 rfl (lv_at hl 4 rfl) ?_
                refine lv_icmp_ne (tgt := 66) hx hb dX6_count_32 (by decide) (fun h32_24 => ?_) (fun h32_24 => ?_)
                · refine lv_iconst (v := nI 0) hx hb dX6_count_66 (by decide) ?_
                  refine lv_istore (lv' := [(7, .int (nI 0)), (6, .int (nI j)), (5, .int (nI i)), (4, .int y), (0, .ref q), (1, .int ch), (2, .int dy), (3, .int w)]) hx hb dX6_count_67 hl (by decide) rfl (fun ls hl => ?_)
                  refine lv_iload hx hb dX6_count_69 (lv_at hl 3 rfl) ?_
                  refine lv_iload hx hb dX6_count_71 (lv_at hl 0 rfl) ?_
                  refine lv_if_eq (tgt := 80) hx hb dX6_count_73 (by decide) (fun _ => ?_) (fun z => absurd (by decide) z)
                  refine lv_iconst (v := nI 0) hx hb dX6_count_80 (by decide) ?_
                  refine lv_iadd hx hb dX6_count_81 ?_
                  refine lv_topi (fun x26 ex26 => ?_)
                  refine lv_istore (lv' := [(4, .int x26), (7, .int (nI 0)), (6, .int (nI j)), (5, .int (nI i)), (0, .ref q), (1, .int ch), (2, .int dy), (3, .int w)]) hx hb dX6_count_82 hl (by decide) rfl (fun ls hl => ?_)
                  refine lv_iinc (v := nI (j + 1)) (lv' := [(6, .int (nI (j + 1))), (4, .int x26), (7, .int (nI 0)), (5, .int (nI i)), (0, .ref q), (1, .int ch), (2, .int dy), (3, .int w)]) hx hb dX6_count_84 hl (k := 2) rfl (zk_inc j 1) (by decide) rfl (fun ls hl => ?_)
                  refine lv_goto (tgt := 17) hx hb dX6_count_87 (by decide) ?_
                  exact ih6 (j + 1) x26 (by omega) (by omega) (by refine zs2_i hy ?_; simp +decide [zk_a0, h11_3, h21_7, h26_8, h32_24, ex26]) _ _ hP hD hS ls (lv_sub hl [0, 3, 1, 4, 5, 6, 7] rfl)
                · refine lv_iload_n hx hb dX6_count_35 rfl (lv_at hl 5 rfl) ?_
                  refine lv_iconst (v := -1) hx hb dX6_count_36 (by decide) ?_
                  refine lv_icmp_eq (tgt := 46) hx hb dX6_count_37 (by decide) (fun h37_26 => ?_) (fun h37_26 => ?_)
                  · refine lv_aload_n hx hb dX6_count_46 rfl (lv_at hl 3 rfl) ?_
                    refine lv_bipush (v := nI 115) hx hb dX6_count_47 (by decide) ?_
                    refine lv_iload hx hb dX6_count_49 (lv_at hl 1 rfl) ?_
                    refine lv_iload hx hb dX6_count_51 (lv_at hl 0 rfl) ?_
                    have hP0 : va_P G.1 vwCl (([] : va_W) ++ (zb_r G q K)) H := hP
                    have hD0 : va_D A (([] : va_W) ++ (zb_r G q K)) := hD
                    refine zk_callI (wr := zb_r G q K) (va_runS (As := [.int (nI i), .int (nI j)]) (rest := [.int (nI 115), .ref q]) ⟨hx, hb, hml, hown, hts⟩ (c_X6_at l G i j _) (cwS 2 hts gX6_count_X6_at rfl rfl rfl (by decide +kernel) ⟨Nat.le_of_ble_eq_true rfl, Nat.le_of_ble_eq_true rfl⟩) (zk_preS hE hA0 hS (zk_Papp hP0).1 (zk_Dapp hD0).1) rfl rfl hl.1 rfl (lv_room (Nat.le_of_ble_eq_true rfl)) dX6_count_53 ⟨Nat.le_of_ble_eq_true rfl, Nat.le_of_ble_eq_true rfl⟩) hP0 hD0 hS hA (fun r28 u29 H locs q30 hP hD hS => ?_)
                    subst q30
                    have hP : va_P G.1 vwCl (zb_r G q K) H := hP
                    have hD : va_D A (zb_r G q K) := hD
                    refine zk_iaddN hx hb dX6_count_56 ?_
                    refine zk_ialdN hx hb hK hP 0 0 rfl rfl (k := (115 + (i * 40 + j))) (n := 1555) (by omega) (by omega) dX6_count_57 ?_
                    refine zk_top (zrow_9 K (c := i * 40 + j) (by omega)) ?_
                    refine lv_iload_n hx hb dX6_count_58 rfl (lv_at hl 6 rfl) ?_
                    refine lv_icmp_ne (tgt := 66) hx hb dX6_count_59 (by decide) (fun h59_30 => ?_) (fun h59_30 => ?_)
                    · refine lv_iconst (v := nI 0) hx hb dX6_count_66 (by decide) ?_
                      refine lv_istore (lv' := [(7, .int (nI 0)), (6, .int (nI j)), (5, .int (nI i)), (4, .int y), (0, .ref q), (1, .int ch), (2, .int dy), (3, .int w)]) hx hb dX6_count_67 hl (by decide) rfl (fun ls hl => ?_)
                      refine lv_iload hx hb dX6_count_69 (lv_at hl 3 rfl) ?_
                      refine lv_iload hx hb dX6_count_71 (lv_at hl 0 rfl) ?_
                      refine lv_if_eq (tgt := 80) hx hb dX6_count_73 (by decide) (fun _ => ?_) (fun z => absurd (by decide) z)
                      refine lv_iconst (v := nI 0) hx hb dX6_count_80 (by decide) ?_
                      refine lv_iadd hx hb dX6_count_81 ?_
                      refine lv_topi (fun x32 ex32 => ?_)
                      refine lv_istore (lv' := [(4, .int x32), (7, .int (nI 0)), (6, .int (nI j)), (5, .int (nI i)), (0, .ref q), (1, .int ch), (2, .int dy), (3, .int w)]) hx hb dX6_count_82 hl (by decide) rfl (fun ls hl => ?_)
                      refine lv_iinc (v := nI (j + 1)) (lv' := [(6, .int (nI (j + 1))), (4, .int x32), (7, .int (nI 0)), (5, .int (nI i)), (0, .ref q), (1, .int ch), (2, .int dy), (3, .int w)]) hx hb dX6_count_84 hl (k := 2) rfl (zk_inc j 1) (by decide) rfl (fun ls hl => ?_)
                      refine lv_goto (tgt := 17) hx hb dX6_count_87 (by decide) ?_
                      exact ih6 (j + 1) x32 (by omega) (by omega) (by refine zs2_i hy ?_; simp +decide [zk_a0, h11_3, h21_7, h26_8, h32_24, h37_26, h59_30, ex32]) _ _ hP hD hS ls (lv_sub hl [0, 3, 1, 4, 5, 6, 7] rfl)
                    · refine lv_iconst (v := nI 1) hx hb dX6_count_62 (by decide) ?_
                      refine lv_goto (tgt := 67) hx hb dX6_count_63 (by decide) ?_
                      refine lv_istore (lv' := [(7, .int (nI 1)), (6, .int (nI j)), (5, .int (nI i)), (4, .int y), (0, .ref q), (1, .int ch), (2, .int dy), (3, .int w)]) hx hb dX6_count_67 hl (by decide) rfl (fun ls hl => ?_)
                      refine lv_iload hx hb dX6_count_69 (lv_at hl 3 rfl) ?_
                      refine lv_iload hx hb dX6_count_71 (lv_at hl 0 rfl) ?_
                      refine lv_if_eq (tgt := 80) hx hb dX6_count_73 (by decide) (fun z => absurd z (by decide)) (fun _ => ?_)
                      refine lv_iconst (v := nI 1) hx hb dX6_count_76 (by decide) ?_
                      refine lv_goto (tgt := 81) hx hb dX6_count_77 (by decide) ?_
                      refine lv_iadd hx hb dX6_count_81 ?_
                      refine lv_topi (fun x33 ex33 => ?_)
                      refine lv_istore (lv' := [(4, .int x33), (7, .int (nI 1)), (6, .int (nI j)), (5, .int (nI i)), (0, .ref q), (1, .int ch), (2, .int dy), (3, .int w)]) hx hb dX6_count_82 hl (by decide) rfl (fun ls hl => ?_)
                      refine lv_iinc (v := nI (j + 1)) (lv' := [(6, .int (nI (j + 1))), (4, .int x33), (7, .int (nI 1)), (5, .int (nI i)), (0, .ref q), (1, .int ch), (2, .int dy), (3, .int w)]) hx hb dX6_count_84 hl (k := 2) rfl (zk_inc j 1) (by decide) rfl (fun ls hl => ?_)
                      refine lv_goto (tgt := 17) hx hb dX6_count_87 (by decide) ?_
                      exact ih6 (j + 1) x33 (by omega) (by omega) (by refine zs2_i hy ?_; simp +decide [zk_a0, h11_3, h21_7, h26_8, h32_24, h37_26, h59_30, ex33]) _ _ hP hD hS ls (lv_sub hl [0, 3, 1, 4, 5, 6, 7] rfl)
                  · refine lv_iload hx hb dX6_count_40 (lv_at hl 0 rfl) ?_
                    refine lv_iload_n hx hb dX6_count_42 rfl (lv_at hl 5 rfl) ?_
                    refine lv_icmp_ne (tgt := 66) hx hb dX6_count_43 (by decide) (fun h43_33 => ?_) (fun h43_33 => ?_)
                    · refine lv_iconst (v := nI 0) hx hb dX6_count_66 (by decide) ?_
                      refine lv_istore (lv' := [(7, .int (nI 0)), (6, .int (nI j)), (5, .int (nI i)), (4, .int y), (0, .ref q), (1, .int ch), (2, .int dy), (3, .int w)]) hx hb dX6_count_67 hl (by decide) rfl (fun ls hl => ?_)
                      refine lv_iload hx hb dX6_count_69 (lv_at hl 3 rfl) ?_
                      refine lv_iload hx hb dX6_count_71 (lv_at hl 0 rfl) ?_
                      refine lv_if_eq (tgt := 80) hx hb dX6_count_73 (by decide) (fun _ => ?_) (fun z => absurd (by decide) z)
                      refine lv_iconst (v := nI 0) hx hb dX6_count_80 (by decide) ?_
                      refine lv_iadd hx hb dX6_count_81 ?_
                      refine lv_topi (fun x35 ex35 => ?_)
                      refine lv_istore (lv' := [(4, .int x35), (7, .int (nI 0)), (6, .int (nI j)), (5, .int (nI i)), (0, .ref q), (1, .int ch), (2, .int dy), (3, .int w)]) hx hb dX6_count_82 hl (by decide) rfl (fun ls hl => ?_)
                      refine lv_iinc (v := nI (j + 1)) (lv' := [(6, .int (nI (j + 1))), (4, .int x35), (7, .int (nI 0)), (5, .int (nI i)), (0, .ref q), (1, .int ch), (2, .int dy), (3, .int w)]) hx hb dX6_count_84 hl (k := 2) rfl (zk_inc j 1) (by decide) rfl (fun ls hl => ?_)
                      refine lv_goto (tgt := 17) hx hb dX6_count_87 (by decide) ?_
                      exact ih6 (j + 1) x35 (by omega) (by omega) (by refine zs2_i hy ?_; simp +decide [zk_a0, h11_3, h21_7, h26_8, h32_24, h37_26, h43_33, ex35]) _ _ hP hD hS ls (lv_sub hl [0, 3, 1, 4, 5, 6, 7] rfl)
                    · refine lv_aload_n hx hb dX6_count_46 rfl (lv_at hl 3 rfl) ?_
                      refine lv_bipush (v := nI 115) hx hb dX6_count_47 (by decide) ?_
                      refine lv_iload hx hb dX6_count_49 (lv_at hl 1 rfl) ?_
                      refine lv_iload hx hb dX6_count_51 (lv_at hl 0 rfl) ?_
                      have hP0 : va_P G.1 vwCl (([] : va_W) ++ (zb_r G q K)) H := hP
                      have hD0 : va_D A (([] : va_W) ++ (zb_r G q K)) := hD
                      refine zk_callI (wr := zb_r G q K) (va_runS (As := [.int (nI i), .int (nI j)]) (rest := [.int (nI 115), .ref q]) ⟨hx, hb, hml, hown, hts⟩ (c_X6_at l G i j _) (cwS 2 hts gX6_count_X6_at rfl rfl rfl (by decide +kernel) ⟨Nat.le_of_ble_eq_true rfl, Nat.le_of_ble_eq_true rfl⟩) (zk_preS hE hA0 hS (zk_Papp hP0).1 (zk_Dapp hD0).1) rfl rfl hl.1 rfl (lv_room (Nat.le_of_ble_eq_true rfl)) dX6_count_53 ⟨Nat.le_of_ble_eq_true rfl, Nat.le_of_ble_eq_true rfl⟩) hP0 hD0 hS hA (fun r36 u37 H locs q38 hP hD hS => ?_)
                      subst q38
                      have hP : va_P G.1 vwCl (zb_r G q K) H := hP
                      have hD : va_D A (zb_r G q K) := hD
                      refine zk_iaddN hx hb dX6_count_56 ?_
                      refine zk_ialdN hx hb hK hP 0 0 rfl rfl (k := (115 + (i * 40 + j))) (n := 1555) (by omega) (by omega) dX6_count_57 ?_
                      refine zk_top (zrow_9 K (c := i * 40 + j) (by omega)) ?_
                      refine lv_iload_n hx hb dX6_count_58 rfl (lv_at hl 6 rfl) ?_
                      refine lv_icmp_ne (tgt := 66) hx hb dX6_count_59 (by decide) (fun h59_38 => ?_) (fun h59_38 => ?_)
                      · refine lv_iconst (v := nI 0) hx hb dX6_count_66 (by decide) ?_
                        refine lv_istore (lv' := [(7, .int (nI 0)), (6, .int (nI j)), (5, .int (nI i)), (4, .int y), (0, .ref q), (1, .int ch), (2, .int dy), (3, .int w)]) hx hb dX6_count_67 hl (by decide) rfl (fun ls hl => ?_)
                        refine lv_iload hx hb dX6_count_69 (lv_at hl 3 rfl) ?_
                        refine lv_iload hx hb dX6_count_71 (lv_at hl 0 rfl) ?_
                        refine lv_if_eq (tgt := 80) hx hb dX6_count_73 (by decide) (fun _ => ?_) (fun z => absurd (by decide) z)
                        refine lv_iconst (v := nI 0) hx hb dX6_count_80 (by decide) ?_
                        refine lv_iadd hx hb dX6_count_81 ?_
                        refine lv_topi (fun x40 ex40 => ?_)
                        refine lv_istore (lv' := [(4, .int x40), (7, .int (nI 0)), (6, .int (nI j)), (5, .int (nI i)), (0, .ref q), (1, .int ch), (2, .int dy), (3, .int w)]) hx hb dX6_count_82 hl (by decide) rfl (fun ls hl => ?_)
                        refine lv_iinc (v := nI (j + 1)) (lv' := [(6, .int (nI (j + 1))), (4, .int x40), (7, .int (nI 0)), (5, .int (nI i)), (0, .ref q), (1, .int ch), (2, .int dy), (3, .int w)]) hx hb dX6_count_84 hl (k := 2) rfl (zk_inc j 1) (by decide) rfl (fun ls hl => ?_)
                        refine lv_goto (tgt := 17) hx hb dX6_count_87 (by decide) ?_
                        exact ih6 (j + 1) x40 (by omega) (by omega) (by refine zs2_i hy ?_; simp +decide [zk_a0, h11_3, h21_7, h26_8, h32_24, h37_26, h43_33, h59_38, ex40]) _ _ hP hD hS ls (lv_sub hl [0, 3, 1, 4, 5, 6, 7] rfl)
                      · refine lv_iconst (v := nI 1) hx hb dX6_count_62 (by decide) ?_
                        refine lv_goto (tgt := 67) hx hb dX6_count_63 (by decide) ?_
                        refine lv_istore (lv' := [(7, .int (nI 1)), (6, .int (nI j)), (5, .int (nI i)), (4, .int y), (0, .ref q), (1, .int ch), (2, .int dy), (3, .int w)]) hx hb dX6_count_67 hl (by decide) rfl (fun ls hl => ?_)
                        refine lv_iload hx hb dX6_count_69 (lv_at hl 3 rfl) ?_
                        refine lv_iload hx hb dX6_count_71 (lv_at hl 0 rfl) ?_
                        refine lv_if_eq (tgt := 80) hx hb dX6_count_73 (by decide) (fun z => absurd z (by decide)) (fun _ => ?_)
                        refine lv_iconst (v := nI 1) hx hb dX6_count_76 (by decide) ?_
                        refine lv_goto (tgt := 81) hx hb dX6_count_77 (by decide) ?_
                        refine lv_iadd hx hb dX6_count_81 ?_
                        refine lv_topi (fun x41 ex41 => ?_)
                        refine lv_istore (lv' := [(4, .int x41), (7, .int (nI 1)), (6, .int (nI j)), (5, .int (nI i)), (0, .ref q), (1, .int ch), (2, .int dy), (3, .int w)]) hx hb dX6_count_82 hl (by decide) rfl (fun ls hl => ?_)
                        refine lv_iinc (v := nI (j + 1)) (lv' := [(6, .int (nI (j + 1))), (4, .int x41), (7, .int (nI 1)), (5, .int (nI i)), (0, .ref q), (1, .int ch), (2, .int dy), (3, .int w)]) hx hb dX6_count_84 hl (k := 2) rfl (zk_inc j 1) (by decide) rfl (fun ls hl => ?_)
                        refine lv_goto (tgt := 17) hx hb dX6_count_87 (by decide) ?_
                        exact ih6 (j + 1) x41 (by omega) (by omega) (by refine zs2_i hy ?_; simp +decide [zk_a0, h11_3, h21_7, h26_8, h32_24, h37_26, h43_33, h59_38, ex41]) _ _ hP hD hS ls (lv_sub hl [0, 3, 1, 4, 5, 6, 7] rfl)
        exact lp5 _ 0 x (Nat.lt_succ_self _) (by omega) (zs2_0 _ _) _ _ hP hD hS ls (lv_sub hl [0, 1, 2, 3, 4, 5, 6] rfl)
  exact lp1 _ 0 (nI 0) (Nat.lt_succ_self _) (by omega) (rfl) _ _ hP hD hS ls (lv_sub hl [0, 1, 2, 3, 4, 5] rfl)

abbrev rmX6_served : Room := { frames := 2, cells := 0, slots := 0, locals := 48 }
set_option maxHeartbeats 4000000 in
set_option maxRecDepth 100000 in
/-- the meals that were served -/
theorem c_X6_served (l : Launch) (G : zk_G) (q : Nat) (K : zL) (n t : Nat) (hI : sInv K n t) (ch dy : Int32) : zk_I (S := Unit) l yX6_served wsX6_served rmX6_served G [.ref q, .int ch, .int dy] (zb_r G q K) (fun r _ => r = kSrv K n ch dy) (fun _ => zb_r G q K) := by
  refine zk_bodyI (cc := cX6_served) (maxL := 3) (ret := (some .int)) (by decide) rfl (Nat.le_of_ble_eq_true rfl) ?_
  intro p E0 s m args below meth cd A ls Q hF hQ
  obtain ⟨hx, hb, hml, hr, hts, hown, hlocks, -, hE, hP, hD, hS, hA, hA0, hl⟩ := hF
  have hK := hE.1
  have hl : lv_has ls 3 [(0, .ref q), (1, .int ch), (2, .int dy)] := hl
  obtain ⟨hn, hn12, ht, ht40, hfam, hpay⟩ := id hI
  refine lv_aload_n hx hb dX6_served_0 rfl (lv_at hl 0 rfl) ?_
  refine lv_iload_n hx hb dX6_served_1 rfl (lv_at hl 1 rfl) ?_
  refine lv_iload_n hx hb dX6_served_2 rfl (lv_at hl 2 rfl) ?_
  refine lv_iconst (v := nI 2) hx hb dX6_served_3 (by decide) ?_
  have hP0 : va_P G.1 vwCl ((zb_r G q K) ++ (([] : va_W))) s.heap := zk_Pperm hP (show (zb_r G q K).Perm ((zb_r G q K) ++ (([] : va_W))) from (show (zb_r G q K).Perm (zb_r G q K) from List.Perm.refl _).trans (List.Perm.of_eq (by simp only [List.append_assoc, List.append_nil, List.nil_append])))
  have hD0 : va_D A ((zb_r G q K) ++ (([] : va_W))) := zk_Dperm hD (show (zb_r G q K).Perm ((zb_r G q K) ++ (([] : va_W))) from (show (zb_r G q K).Perm (zb_r G q K) from List.Perm.refl _).trans (List.Perm.of_eq (by simp only [List.append_assoc, List.append_nil, List.nil_append])))
  refine zk_callI (wr := ([] : va_W)) (va_runS (As := [.ref q, .int ch, .int dy, .int (nI 2)]) (rest := []) ⟨hx, hb, hml, hown, hts⟩ (c_X6_count l G q K n t hI ch dy (nI 2) _) (cwS 4 hts gX6_served_X6_count rfl rfl rfl (by decide +kernel) ⟨Nat.le_of_ble_eq_true rfl, Nat.le_of_ble_eq_true rfl⟩) (zk_preS hE hA0 hS (zk_Papp hP0).1 (zk_Dapp hD0).1) rfl rfl hl.1 rfl (lv_room (Nat.le_of_ble_eq_true rfl)) dX6_served_4 ⟨Nat.le_of_ble_eq_true rfl, Nat.le_of_ble_eq_true rfl⟩) hP0 hD0 hS hA (fun r1 u2 H locs q3 hP hD hS => ?_)
  subst q3
  have hP : va_P G.1 vwCl (zb_r G q K) H := zk_Pperm hP (show (zb_r G q K).Perm ((zb_r G q K) ++ (([] : va_W))) from (show (zb_r G q K).Perm (zb_r G q K) from List.Perm.refl _).trans (List.Perm.of_eq (by simp only [List.append_assoc, List.append_nil, List.nil_append]))).symm
  have hD : va_D A (zb_r G q K) := zk_Dperm hD (show (zb_r G q K).Perm ((zb_r G q K) ++ (([] : va_W))) from (show (zb_r G q K).Perm (zb_r G q K) from List.Perm.refl _).trans (List.Perm.of_eq (by simp only [List.append_assoc, List.append_nil, List.nil_append]))).symm
  refine lv_aload_n hx hb dX6_served_7 rfl (lv_at hl 0 rfl) ?_
  refine lv_iload_n hx hb dX6_served_8 rfl (lv_at hl 1 rfl) ?_
  refine lv_iload_n hx hb dX6_served_9 rfl (lv_at hl 2 rfl) ?_
  refine lv_iconst (v := nI 3) hx hb dX6_served_10 (by decide) ?_
  have hP0 : va_P G.1 vwCl ((zb_r G q K) ++ (([] : va_W))) H := zk_Pperm hP (show (zb_r G q K).Perm ((zb_r G q K) ++ (([] : va_W))) from (show (zb_r G q K).Perm (zb_r G q K) from List.Perm.refl _).trans (List.Perm.of_eq (by simp only [List.append_assoc, List.append_nil, List.nil_append])))
  have hD0 : va_D A ((zb_r G q K) ++ (([] : va_W))) := zk_Dperm hD (show (zb_r G q K).Perm ((zb_r G q K) ++ (([] : va_W))) from (show (zb_r G q K).Perm (zb_r G q K) from List.Perm.refl _).trans (List.Perm.of_eq (by simp only [List.append_assoc, List.append_nil, List.nil_append])))
  refine zk_callI (wr := ([] : va_W)) (va_runS (As := [.ref q, .int ch, .int dy, .int (nI 3)]) (rest := [.int (kCnt K n ch dy (nI 2))]) ⟨hx, hb, hml, hown, hts⟩ (c_X6_count l G q K n t hI ch dy (nI 3) _) (cwS 4 hts gX6_served_X6_count rfl rfl rfl (by decide +kernel) ⟨Nat.le_of_ble_eq_true rfl, Nat.le_of_ble_eq_true rfl⟩) (zk_preS hE hA0 hS (zk_Papp hP0).1 (zk_Dapp hD0).1) rfl rfl hl.1 rfl (lv_room (Nat.le_of_ble_eq_true rfl)) dX6_served_11 ⟨Nat.le_of_ble_eq_true rfl, Nat.le_of_ble_eq_true rfl⟩) hP0 hD0 hS hA (fun r4 u5 H locs q6 hP hD hS => ?_)
  subst q6
  have hP : va_P G.1 vwCl (zb_r G q K) H := zk_Pperm hP (show (zb_r G q K).Perm ((zb_r G q K) ++ (([] : va_W))) from (show (zb_r G q K).Perm (zb_r G q K) from List.Perm.refl _).trans (List.Perm.of_eq (by simp only [List.append_assoc, List.append_nil, List.nil_append]))).symm
  have hD : va_D A (zb_r G q K) := zk_Dperm hD (show (zb_r G q K).Perm ((zb_r G q K) ++ (([] : va_W))) from (show (zb_r G q K).Perm (zb_r G q K) from List.Perm.refl _).trans (List.Perm.of_eq (by simp only [List.append_assoc, List.append_nil, List.nil_append]))).symm
  refine lv_iadd hx hb dX6_served_14 ?_
  exact zk_reti () hQ hx hb hr hlocks hS hP hD (Nat.le_of_ble_eq_true rfl) (Nat.le_of_ble_eq_true rfl) dX6_served_15 (rfl)

abbrev rmX6_charged : Room := { frames := 1, cells := 0, slots := 0, locals := 21 }
set_option maxHeartbeats 4000000 in
set_option maxRecDepth 100000 in
/-- what is charged -/
theorem c_X6_charged (l : Launch) (G : zk_G) (q : Nat) (K : zL) (n t : Nat) (hI : sInv K n t) (dy py : Int32) : zk_I (S := Unit) l yX6_charged wsX6_charged rmX6_charged G [.ref q, .int dy, .int py] (zb_r G q K) (fun r _ => r = kChg K n dy py) (fun _ => zb_r G q K) := by
  refine zk_bodyI (cc := cX6_charged) (maxL := 7) (ret := (some .int)) (by decide) rfl (Nat.le_of_ble_eq_true rfl) ?_
  intro p E0 s m args below meth cd A ls Q hF hQ
  obtain ⟨hx, hb, hml, hr, hts, hown, hlocks, -, hE, hP, hD, hS, hA, hA0, hl⟩ := hF
  have hK := hE.1
  have hl : lv_has ls 7 [(0, .ref q), (1, .int dy), (2, .int py)] := hl
  obtain ⟨hn, hn12, ht, ht40, hfam, hpay⟩ := id hI
  refine lv_iconst (v := nI 0) hx hb dX6_charged_0 (by decide) ?_
  refine lv_istore_n (lv' := [(3, .int (nI 0)), (0, .ref q), (1, .int dy), (2, .int py)]) hx hb dX6_charged_1 rfl hl (by decide) rfl (fun ls hl => ?_)
  refine lv_iconst (v := nI 0) hx hb dX6_charged_2 (by decide) ?_
  refine lv_istore (lv' := [(4, .int (nI 0)), (3, .int (nI 0)), (0, .ref q), (1, .int dy), (2, .int py)]) hx hb dX6_charged_3 hl (by decide) rfl (fun ls hl => ?_)
  have lp1 : ∀ (n3 : Nat) (i : Nat) (x : Int32), n - i < n3 → (i ≤ n) → (x = zs (fun c => zs (fun d => if K 9 (c * 40 + d) = nI 2 ∧ (dy = -1 ∨ nI d = dy) ∧ (py = -1 ∨ K 11 (c * 40 + d) = py) then K 10 (c * 40 + d) else nI 0) 40) i) → ∀ (H : Heap) (locs : List Loc) (hP : va_P G.1 vwCl (zb_r G q K) H) (hD : va_D A (zb_r G q K)) (hS : va_S A s.heap H locs) (ls : Array Slot), lv_has ls 7 [(4, .int (nI i)), (3, .int x), (0, .ref q), (1, .int dy), (2, .int py)] → W p l E0 rmX6_charged s m args below meth cd H locs 0 0 Q (F0 m 5 ls []) := by
    intro n3
    induction n3 with
    | zero => intro i x hz; exact absurd hz (Nat.not_lt_zero _)
    | succ n3 ih2 =>
      intro i x hm hi hq H locs hP hD hS ls hl
      refine lv_iload hx hb dX6_charged_5 (lv_at hl 0 rfl) ?_
      refine lv_aload_n hx hb dX6_charged_7 rfl (lv_at hl 2 rfl) ?_
      refine lv_iconst (v := nI 1) hx hb dX6_charged_8 (by decide) ?_
      refine zk_ialdN hx hb hK hP 0 0 rfl rfl (k := 1) (n := 1555) (by omega) (by omega) dX6_charged_9 ?_
      refine zk_top (zrow_l K (c := 1) (by omega)) ?_
      refine zk_top hI.1 ?_
      refine lv_icmp_ge (tgt := 116) hx hb dX6_charged_10 (by decide) (fun h10_3 => ?_) (fun h10_3 => ?_)
      · have h10_3 := zk_le (by omega) (by omega) h10_3
        refine lv_iload_n hx hb dX6_charged_116 rfl (lv_at hl 1 rfl) ?_
        exact zk_reti () hQ hx hb hr hlocks hS hP hD (Nat.le_of_ble_eq_true rfl) (Nat.le_of_ble_eq_true rfl) dX6_charged_117 (by rw [hq, show i = n by omega]; rfl)
      · have h10_3 := zk_nle (by omega) (by omega) h10_3
        refine lv_iconst (v := nI 0) hx hb dX6_charged_13 (by decide) ?_
        refine lv_istore (lv' := [(5, .int (nI 0)), (4, .int (nI i)), (3, .int x), (0, .ref q), (1, .int dy), (2, .int py)]) hx hb dX6_charged_14 hl (by decide) rfl (fun ls hl => ?_)
        have lp5 : ∀ (n7 : Nat) (j : Nat) (y : Int32), 40 - j < n7 → (j ≤ 40) → (y = x + zs (fun d => if K 9 (i * 40 + d) = nI 2 ∧ (dy = -1 ∨ nI d = dy) ∧ (py = -1 ∨ K 11 (i * 40 + d) = py) then K 10 (i * 40 + d) else nI 0) j) → ∀ (H : Heap) (locs : List Loc) (hP : va_P G.1 vwCl (zb_r G q K) H) (hD : va_D A (zb_r G q K)) (hS : va_S A s.heap H locs) (ls : Array Slot), lv_has ls 7 [(5, .int (nI j)), (4, .int (nI i)), (3, .int y), (0, .ref q), (1, .int dy), (2, .int py)] → W p l E0 rmX6_charged s m args below meth cd H locs 0 0 Q (F0 m 16 ls []) := by
          intro n7
          induction n7 with
          | zero => intro j y hz; exact absurd hz (Nat.not_lt_zero _)
          | succ n7 ih6 =>
            intro j y hm hj hy H locs hP hD hS ls hl
            refine lv_iload hx hb dX6_charged_16 (lv_at hl 0 rfl) ?_
            refine lv_bipush (v := nI 40) hx hb dX6_charged_18 (by decide) ?_
            refine lv_icmp_ge (tgt := 110) hx hb dX6_charged_20 (by decide) (fun h20_7 => ?_) (fun h20_7 => ?_)
            · have h20_7 := zk_le (by omega) (by omega) h20_7
              refine lv_iinc (v := nI (i + 1)) (lv' := [(4, .int (nI (i + 1))), (5, .int (nI j)), (3, .int y), (0, .ref q), (1, .int dy), (2, .int py)]) hx hb dX6_charged_110 hl (k := 1) rfl (zk_inc i 1) (by decide) rfl (fun ls hl => ?_)
              refine lv_goto (tgt := 5) hx hb dX6_charged_113 (by decide) ?_
              exact ih2 (i + 1) y (by omega) (by omega) (by refine zs_i hq ?_; rw [show j = 40 by omega] at hy; exact hy) _ _ hP hD hS ls (lv_sub hl [0, 2, 3, 4, 5] rfl)
            · have h20_7 := zk_nle (by omega) (by omega) h20_7
              refine lv_aload_n hx hb dX6_charged_23 rfl (lv_at hl 3 rfl) ?_
              refine lv_bipush (v := nI 115) hx hb dX6_charged_24 (by decide) ?_
              refine lv_iload hx hb dX6_charged_26 (lv_at hl 1 rfl) ?_
              refine lv_iload hx hb dX6_charged_28 (lv_at hl 0 rfl) ?_
              have hP0 : va_P G.1 vwCl (([] : va_W) ++ (zb_r G q K)) H := hP
              have hD0 : va_D A (([] : va_W) ++ (zb_r G q K)) := hD
              refine zk_callI (wr := zb_r G q K) (va_runS (As := [.int (nI i), .int (nI j)]) (rest := [.int (nI 115), .ref q]) ⟨hx, hb, hml, hown, hts⟩ (c_X6_at l G i j _) (cwS 2 hts gX6_charged_X6_at rfl rfl rfl (by decide +kernel) ⟨Nat.le_of_ble_eq_true rfl, Nat.le_of_ble_eq_true rfl⟩) (zk_preS hE hA0 hS (zk_Papp hP0).1 (zk_Dapp hD0).1) rfl rfl hl.1 rfl (lv_room (Nat.le_of_ble_eq_true rfl)) dX6_charged_30 ⟨Nat.le_of_ble_eq_true rfl, Nat.le_of_ble_eq_true rfl⟩) hP0 hD0 hS hA (fun r9 u10 H locs q11 hP hD hS => ?_)
              subst q11
              have hP : va_P G.1 vwCl (zb_r G q K) H := hP
              have hD : va_D A (zb_r G q K) := hD
              refine zk_iaddN hx hb dX6_charged_33 ?_
              refine zk_ialdN hx hb hK hP 0 0 rfl rfl (k := (115 + (i * 40 + j))) (n := 1555) (by omega) (by omega) dX6_charged_34 ?_
              refine zk_top (zrow_9 K (c := i * 40 + j) (by omega)) ?_
              refine lv_iconst (v := nI 2) hx hb dX6_charged_35 (by decide) ?_
              refine lv_icmp_ne (tgt := 76) hx hb dX6_charged_36 (by decide) (fun h36_11 => ?_) (fun h36_11 => ?_)
              · refine lv_iconst (v := nI 0) hx hb dX6_charged_76 (by decide) ?_
                refine lv_istore (lv' := [(6, .int (nI 0)), (5, .int (nI j)), (4, .int (nI i)), (3, .int y), (0, .ref q), (1, .int dy), (2, .int py)]) hx hb dX6_charged_77 hl (by decide) rfl (fun ls hl => ?_)
                refine lv_iload_n hx hb dX6_charged_79 rfl (lv_at hl 3 rfl) ?_
                refine lv_iload hx hb dX6_charged_80 (lv_at hl 0 rfl) ?_
                refine lv_if_eq (tgt := 101) hx hb dX6_charged_82 (by decide) (fun _ => ?_) (fun z => absurd (by decide) z)
                refine lv_iconst (v := nI 0) hx hb dX6_charged_101 (by decide) ?_
                refine lv_iadd hx hb dX6_charged_102 ?_
                refine lv_topi (fun x13 ex13 => ?_)
                refine lv_istore_n (lv' := [(3, .int x13), (6, .int (nI 0)), (5, .int (nI j)), (4, .int (nI i)), (0, .ref q), (1, .int dy), (2, .int py)]) hx hb dX6_charged_103 rfl hl (by decide) rfl (fun ls hl => ?_)
                refine lv_iinc (v := nI (j + 1)) (lv' := [(5, .int (nI (j + 1))), (3, .int x13), (6, .int (nI 0)), (4, .int (nI i)), (0, .ref q), (1, .int dy), (2, .int py)]) hx hb dX6_charged_104 hl (k := 2) rfl (zk_inc j 1) (by decide) rfl (fun ls hl => ?_)
                refine lv_goto (tgt := 16) hx hb dX6_charged_107 (by decide) ?_
                exact ih6 (j + 1) x13 (by omega) (by omega) (by refine zs2_i hy ?_; simp +decide [zk_a0, h10_3, h20_7, h36_11, ex13]) _ _ hP hD hS ls (lv_sub hl [0, 3, 1, 4, 5, 6] rfl)
              · refine lv_iload_n hx hb dX6_charged_39 rfl (lv_at hl 4 rfl) ?_
                refine lv_iconst (v := -1) hx hb dX6_charged_40 (by decide) ?_
                refine lv_icmp_eq (tgt := 50) hx hb dX6_charged_41 (by decide) (fun h41_13 => ?_) (fun h41_13 => ?_)
                · refine lv_iload_n hx hb dX6_charged_50 rfl (lv_at hl 5 rfl) ?_
                  refine lv_iconst (v := -1) hx hb dX6_charged_51 (by decide) ?_
                  refine lv_icmp_eq (tgt := 72) hx hb dX6_charged_52 (by decide) (fun h52_14 => ?_) (fun h52_14 => ?_)
                  · refine lv_iconst (v := nI 1) hx hb dX6_charged_72 (by decide) ?_
                    refine lv_goto (tgt := 77) hx hb dX6_charged_73 (by decide) ?_
                    refine lv_istore (lv' := [(6, .int (nI 1)), (5, .int (nI j)), (4, .int (nI i)), (3, .int y), (0, .ref q), (1, .int dy), (2, .int py)]) hx hb dX6_charged_77 hl (by decide) rfl (fun ls hl => ?_)
                    refine lv_iload_n hx hb dX6_charged_79 rfl (lv_at hl 3 rfl) ?_
                    refine lv_iload hx hb dX6_charged_80 (lv_at hl 0 rfl) ?_
                    refine lv_if_eq (tgt := 101) hx hb dX6_charged_82 (by decide) (fun z => absurd z (by decide)) (fun _ => ?_)
                    refine lv_aload_n hx hb dX6_charged_85 rfl (lv_at hl 4 rfl) ?_
                    refine lv_sipush (v := nI 595) hx hb dX6_charged_86 (by decide) ?_
                    refine lv_iload hx hb dX6_charged_89 (lv_at hl 2 rfl) ?_
                    refine lv_iload hx hb dX6_charged_91 (lv_at hl 1 rfl) ?_
                    have hP0 : va_P G.1 vwCl (([] : va_W) ++ (zb_r G q K)) H := hP
                    have hD0 : va_D A (([] : va_W) ++ (zb_r G q K)) := hD
                    refine zk_callI (wr := zb_r G q K) (va_runS (As := [.int (nI i), .int (nI j)]) (rest := [.int (nI 595), .ref q, .int y]) ⟨hx, hb, hml, hown, hts⟩ (c_X6_at l G i j _) (cwS 2 hts gX6_charged_X6_at rfl rfl rfl (by decide +kernel) ⟨Nat.le_of_ble_eq_true rfl, Nat.le_of_ble_eq_true rfl⟩) (zk_preS hE hA0 hS (zk_Papp hP0).1 (zk_Dapp hD0).1) rfl rfl hl.1 rfl (lv_room (Nat.le_of_ble_eq_true rfl)) dX6_charged_93 ⟨Nat.le_of_ble_eq_true rfl, Nat.le_of_ble_eq_true rfl⟩) hP0 hD0 hS hA (fun r16 u17 H locs q18 hP hD hS => ?_)
                    subst q18
                    have hP : va_P G.1 vwCl (zb_r G q K) H := hP
                    have hD : va_D A (zb_r G q K) := hD
                    refine zk_iaddN hx hb dX6_charged_96 ?_
                    refine zk_ialdN hx hb hK hP 0 0 rfl rfl (k := (595 + (i * 40 + j))) (n := 1555) (by omega) (by omega) dX6_charged_97 ?_
                    refine zk_top (zrow_10 K (c := i * 40 + j) (by omega)) ?_
                    refine lv_goto (tgt := 102) hx hb dX6_charged_98 (by decide) ?_
                    refine lv_iadd hx hb dX6_charged_102 ?_
                    refine lv_topi (fun x19 ex19 => ?_)
                    refine lv_istore_n (lv' := [(3, .int x19), (6, .int (nI 1)), (5, .int (nI j)), (4, .int (nI i)), (0, .ref q), (1, .int dy), (2, .int py)]) hx hb dX6_charged_103 rfl hl (by decide) rfl (fun ls hl => ?_)
                    refine lv_iinc (v := nI (j + 1)) (lv' := [(5, .int (nI (j + 1))), (3, .int x19), (6, .int (nI 1)), (4, .int (nI i)), (0, .ref q), (1, .int dy), (2, .int py)]) hx hb dX6_charged_104 hl (k := 2) rfl (zk_inc j 1) (by decide) rfl (fun ls hl => ?_)
                    refine lv_goto (tgt := 16) hx hb dX6_charged_107 (by decide) ?_
                    exact ih6 (j + 1) x19 (by omega) (by omega) (by refine zs2_i hy ?_; simp +decide [zk_a0, h10_3, h20_7, h36_11, h41_13, h52_14, ex19]) _ _ hP hD hS ls (lv_sub hl [0, 3, 1, 4, 5, 6] rfl)
                  · refine lv_aload_n hx hb dX6_charged_55 rfl (lv_at hl 3 rfl) ?_
                    refine lv_sipush (v := nI 1075) hx hb dX6_charged_56 (by decide) ?_
                    refine lv_iload hx hb dX6_charged_59 (lv_at hl 1 rfl) ?_
                    refine lv_iload hx hb dX6_charged_61 (lv_at hl 0 rfl) ?_
                    have hP0 : va_P G.1 vwCl (([] : va_W) ++ (zb_r G q K)) H := hP
                    have hD0 : va_D A (([] : va_W) ++ (zb_r G q K)) := hD
                    refine zk_callI (wr := zb_r G q K) (va_runS (As := [.int (nI i), .int (nI j)]) (rest := [.int (nI 1075), .ref q]) ⟨hx, hb, hml, hown, hts⟩ (c_X6_at l G i j _) (cwS 2 hts gX6_charged_X6_at rfl rfl rfl (by decide +kernel) ⟨Nat.le_of_ble_eq_true rfl, Nat.le_of_ble_eq_true rfl⟩) (zk_preS hE hA0 hS (zk_Papp hP0).1 (zk_Dapp hD0).1) rfl rfl hl.1 rfl (lv_room (Nat.le_of_ble_eq_true rfl)) dX6_charged_63 ⟨Nat.le_of_ble_eq_true rfl, Nat.le_of_ble_eq_true rfl⟩) hP0 hD0 hS hA (fun r20 u21 H locs q22 hP hD hS => ?_)
                    subst q22
                    have hP : va_P G.1 vwCl (zb_r G q K) H := hP
                    have hD : va_D A (zb_r G q K) := hD
                    refine zk_iaddN hx hb dX6_charged_66 ?_
                    refine zk_ialdN hx hb hK hP 0 0 rfl rfl (k := (1075 + (i * 40 + j))) (n := 1555) (by omega) (by omega) dX6_charged_67 ?_
                    refine zk_top (zrow_11 K (c := i * 40 + j) (by omega)) ?_
                    refine lv_iload_n hx hb dX6_charged_68 rfl (lv_at hl 5 rfl) ?_
                    refine lv_icmp_ne (tgt := 76) hx hb dX6_charged_69 (by decide) (fun h69_22 => ?_) (fun h69_22 => ?_)
                    · refine lv_iconst (v := nI 0) hx hb dX6_charged_76 (by decide) ?_
                      refine lv_istore (lv' := [(6, .int (nI 0)), (5, .int (nI j)), (4, .int (nI i)), (3, .int y), (0, .ref q), (1, .int dy), (2, .int py)]) hx hb dX6_charged_77 hl (by decide) rfl (fun ls hl => ?_)
                      refine lv_iload_n hx hb dX6_charged_79 rfl (lv_at hl 3 rfl) ?_
                      refine lv_iload hx hb dX6_charged_80 (lv_at hl 0 rfl) ?_
                      refine lv_if_eq (tgt := 101) hx hb dX6_charged_82 (by decide) (fun _ => ?_) (fun z => absurd (by decide) z)
                      refine lv_iconst (v := nI 0) hx hb dX6_charged_101 (by decide) ?_
                      refine lv_iadd hx hb dX6_charged_102 ?_
                      refine lv_topi (fun x24 ex24 => ?_)
                      refine lv_istore_n (lv' := [(3, .int x24), (6, .int (nI 0)), (5, .int (nI j)), (4, .int (nI i)), (0, .ref q), (1, .int dy), (2, .int py)]) hx hb dX6_charged_103 rfl hl (by decide) rfl (fun ls hl => ?_)
                      refine lv_iinc (v := nI (j + 1)) (lv' := [(5, .int (nI (j + 1))), (3, .int x24), (6, .int (nI 0)), (4, .int (nI i)), (0, .ref q), (1, .int dy), (2, .int py)]) hx hb dX6_charged_104 hl (k := 2) rfl (zk_inc j 1) (by decide) rfl (fun ls hl => ?_)
                      refine lv_goto (tgt := 16) hx hb dX6_charged_107 (by decide) ?_
                      exact ih6 (j + 1) x24 (by omega) (by omega) (by refine zs2_i hy ?_; simp +decide [zk_a0, h10_3, h20_7, h36_11, h41_13, h52_14, h69_22, ex24]) _ _ hP hD hS ls (lv_sub hl [0, 3, 1, 4, 5, 6] rfl)
                    · refine lv_iconst (v := nI 1) hx hb dX6_charged_72 (by decide) ?_
                      refine lv_goto (tgt := 77) hx hb dX6_charged_73 (by decide) ?_
                      refine lv_istore (lv' := [(6, .int (nI 1)), (5, .int (nI j)), (4, .int (nI i)), (3, .int y), (0, .ref q), (1, .int dy), (2, .int py)]) hx hb dX6_charged_77 hl (by decide) rfl (fun ls hl => ?_)
                      refine lv_iload_n hx hb dX6_charged_79 rfl (lv_at hl 3 rfl) ?_
                      refine lv_iload hx hb dX6_charged_80 (lv_at hl 0 rfl) ?_
                      refine lv_if_eq (tgt := 101) hx hb dX6_charged_82 (by decide) (fun z => absurd z (by decide)) (fun _ => ?_)
                      refine lv_aload_n hx hb dX6_charged_85 rfl (lv_at hl 4 rfl) ?_
                      refine lv_sipush (v := nI 595) hx hb dX6_charged_86 (by decide) ?_
                      refine lv_iload hx hb dX6_charged_89 (lv_at hl 2 rfl) ?_
                      refine lv_iload hx hb dX6_charged_91 (lv_at hl 1 rfl) ?_
                      have hP0 : va_P G.1 vwCl (([] : va_W) ++ (zb_r G q K)) H := hP
                      have hD0 : va_D A (([] : va_W) ++ (zb_r G q K)) := hD
                      refine zk_callI (wr := zb_r G q K) (va_runS (As := [.int (nI i), .int (nI j)]) (rest := [.int (nI 595), .ref q, .int y]) ⟨hx, hb, hml, hown, hts⟩ (c_X6_at l G i j _) (cwS 2 hts gX6_charged_X6_at rfl rfl rfl (by decide +kernel) ⟨Nat.le_of_ble_eq_true rfl, Nat.le_of_ble_eq_true rfl⟩) (zk_preS hE hA0 hS (zk_Papp hP0).1 (zk_Dapp hD0).1) rfl rfl hl.1 rfl (lv_room (Nat.le_of_ble_eq_true rfl)) dX6_charged_93 ⟨Nat.le_of_ble_eq_true rfl, Nat.le_of_ble_eq_true rfl⟩) hP0 hD0 hS hA (fun r25 u26 H locs q27 hP hD hS => ?_)
                      subst q27
                      have hP : va_P G.1 vwCl (zb_r G q K) H := hP
                      have hD : va_D A (zb_r G q K) := hD
                      refine zk_iaddN hx hb dX6_charged_96 ?_
                      refine zk_ialdN hx hb hK hP 0 0 rfl rfl (k := (595 + (i * 40 + j))) (n := 1555) (by omega) (by omega) dX6_charged_97 ?_
                      refine zk_top (zrow_10 K (c := i * 40 + j) (by omega)) ?_
                      refine lv_goto (tgt := 102) hx hb dX6_charged_98 (by decide) ?_
                      refine lv_iadd hx hb dX6_charged_102 ?_
                      refine lv_topi (fun x28 ex28 => ?_)
                      refine lv_istore_n (lv' := [(3, .int x28), (6, .int (nI 1)), (5, .int (nI j)), (4, .int (nI i)), (0, .ref q), (1, .int dy), (2, .int py)]) hx hb dX6_charged_103 rfl hl (by decide) rfl (fun ls hl => ?_)
                      refine lv_iinc (v := nI (j + 1)) (lv' := [(5, .int (nI (j + 1))), (3, .int x28), (6, .int (nI 1)), (4, .int (nI i)), (0, .ref q), (1, .int dy), (2, .int py)]) hx hb dX6_charged_104 hl (k := 2) rfl (zk_inc j 1) (by decide) rfl (fun ls hl => ?_)
                      refine lv_goto (tgt := 16) hx hb dX6_charged_107 (by decide) ?_
                      exact ih6 (j + 1) x28 (by omega) (by omega) (by refine zs2_i hy ?_; simp +decide [zk_a0, h10_3, h20_7, h36_11, h41_13, h52_14, h69_22, ex28]) _ _ hP hD hS ls (lv_sub hl [0, 3, 1, 4, 5, 6] rfl)
                · refine lv_iload hx hb dX6_charged_44 (lv_at hl 0 rfl) ?_
                  refine lv_iload_n hx hb dX6_charged_46 rfl (lv_at hl 4 rfl) ?_
                  refine lv_icmp_ne (tgt := 76) hx hb dX6_charged_47 (by decide) (fun h47_28 => ?_) (fun h47_28 => ?_)
                  · refine lv_iconst (v := nI 0) hx hb dX6_charged_76 (by decide) ?_
                    refine lv_istore (lv' := [(6, .int (nI 0)), (5, .int (nI j)), (4, .int (nI i)), (3, .int y), (0, .ref q), (1, .int dy), (2, .int py)]) hx hb dX6_charged_77 hl (by decide) rfl (fun ls hl => ?_)
                    refine lv_iload_n hx hb dX6_charged_79 rfl (lv_at hl 3 rfl) ?_
                    refine lv_iload hx hb dX6_charged_80 (lv_at hl 0 rfl) ?_
                    refine lv_if_eq (tgt := 101) hx hb dX6_charged_82 (by decide) (fun _ => ?_) (fun z => absurd (by decide) z)
                    refine lv_iconst (v := nI 0) hx hb dX6_charged_101 (by decide) ?_
                    refine lv_iadd hx hb dX6_charged_102 ?_
                    refine lv_topi (fun x30 ex30 => ?_)
                    refine lv_istore_n (lv' := [(3, .int x30), (6, .int (nI 0)), (5, .int (nI j)), (4, .int (nI i)), (0, .ref q), (1, .int dy), (2, .int py)]) hx hb dX6_charged_103 rfl hl (by decide) rfl (fun ls hl => ?_)
                    refine lv_iinc (v := nI (j + 1)) (lv' := [(5, .int (nI (j + 1))), (3, .int x30), (6, .int (nI 0)), (4, .int (nI i)), (0, .ref q), (1, .int dy), (2, .int py)]) hx hb dX6_charged_104 hl (k := 2) rfl (zk_inc j 1) (by decide) rfl (fun ls hl => ?_)
                    refine lv_goto (tgt := 16) hx hb dX6_charged_107 (by decide) ?_
                    exact ih6 (j + 1) x30 (by omega) (by omega) (by refine zs2_i hy ?_; simp +decide [zk_a0, h10_3, h20_7, h36_11, h41_13, h47_28, ex30]) _ _ hP hD hS ls (lv_sub hl [0, 3, 1, 4, 5, 6] rfl)
                  · refine lv_iload_n hx hb dX6_charged_50 rfl (lv_at hl 5 rfl) ?_
                    refine lv_iconst (v := -1) hx hb dX6_charged_51 (by decide) ?_
                    refine lv_icmp_eq (tgt := 72) hx hb dX6_charged_52 (by decide) (fun h52_30 => ?_) (fun h52_30 => ?_)
                    · refine lv_iconst (v := nI 1) hx hb dX6_charged_72 (by decide) ?_
                      refine lv_goto (tgt := 77) hx hb dX6_charged_73 (by decide) ?_
                      refine lv_istore (lv' := [(6, .int (nI 1)), (5, .int (nI j)), (4, .int (nI i)), (3, .int y), (0, .ref q), (1, .int dy), (2, .int py)]) hx hb dX6_charged_77 hl (by decide) rfl (fun ls hl => ?_)
                      refine lv_iload_n hx hb dX6_charged_79 rfl (lv_at hl 3 rfl) ?_
                      refine lv_iload hx hb dX6_charged_80 (lv_at hl 0 rfl) ?_
                      refine lv_if_eq (tgt := 101) hx hb dX6_charged_82 (by decide) (fun z => absurd z (by decide)) (fun _ => ?_)
                      refine lv_aload_n hx hb dX6_charged_85 rfl (lv_at hl 4 rfl) ?_
                      refine lv_sipush (v := nI 595) hx hb dX6_charged_86 (by decide) ?_
                      refine lv_iload hx hb dX6_charged_89 (lv_at hl 2 rfl) ?_
                      refine lv_iload hx hb dX6_charged_91 (lv_at hl 1 rfl) ?_
                      have hP0 : va_P G.1 vwCl (([] : va_W) ++ (zb_r G q K)) H := hP
                      have hD0 : va_D A (([] : va_W) ++ (zb_r G q K)) := hD
                      refine zk_callI (wr := zb_r G q K) (va_runS (As := [.int (nI i), .int (nI j)]) (rest := [.int (nI 595), .ref q, .int y]) ⟨hx, hb, hml, hown, hts⟩ (c_X6_at l G i j _) (cwS 2 hts gX6_charged_X6_at rfl rfl rfl (by decide +kernel) ⟨Nat.le_of_ble_eq_true rfl, Nat.le_of_ble_eq_true rfl⟩) (zk_preS hE hA0 hS (zk_Papp hP0).1 (zk_Dapp hD0).1) rfl rfl hl.1 rfl (lv_room (Nat.le_of_ble_eq_true rfl)) dX6_charged_93 ⟨Nat.le_of_ble_eq_true rfl, Nat.le_of_ble_eq_true rfl⟩) hP0 hD0 hS hA (fun r32 u33 H locs q34 hP hD hS => ?_)
                      subst q34
                      have hP : va_P G.1 vwCl (zb_r G q K) H := hP
                      have hD : va_D A (zb_r G q K) := hD
                      refine zk_iaddN hx hb dX6_charged_96 ?_
                      refine zk_ialdN hx hb hK hP 0 0 rfl rfl (k := (595 + (i * 40 + j))) (n := 1555) (by omega) (by omega) dX6_charged_97 ?_
                      refine zk_top (zrow_10 K (c := i * 40 + j) (by omega)) ?_
                      refine lv_goto (tgt := 102) hx hb dX6_charged_98 (by decide) ?_
                      refine lv_iadd hx hb dX6_charged_102 ?_
                      refine lv_topi (fun x35 ex35 => ?_)
                      refine lv_istore_n (lv' := [(3, .int x35), (6, .int (nI 1)), (5, .int (nI j)), (4, .int (nI i)), (0, .ref q), (1, .int dy), (2, .int py)]) hx hb dX6_charged_103 rfl hl (by decide) rfl (fun ls hl => ?_)
                      refine lv_iinc (v := nI (j + 1)) (lv' := [(5, .int (nI (j + 1))), (3, .int x35), (6, .int (nI 1)), (4, .int (nI i)), (0, .ref q), (1, .int dy), (2, .int py)]) hx hb dX6_charged_104 hl (k := 2) rfl (zk_inc j 1) (by decide) rfl (fun ls hl => ?_)
                      refine lv_goto (tgt := 16) hx hb dX6_charged_107 (by decide) ?_
                      exact ih6 (j + 1) x35 (by omega) (by omega) (by refine zs2_i hy ?_; simp +decide [zk_a0, h10_3, h20_7, h36_11, h41_13, h47_28, h52_30, ex35]) _ _ hP hD hS ls (lv_sub hl [0, 3, 1, 4, 5, 6] rfl)
                    · refine lv_aload_n hx hb dX6_charged_55 rfl (lv_at hl 3 rfl) ?_
                      refine lv_sipush (v := nI 1075) hx hb dX6_charged_56 (by decide) ?_
                      refine lv_iload hx hb dX6_charged_59 (lv_at hl 1 rfl) ?_
                      refine lv_iload hx hb dX6_charged_61 (lv_at hl 0 rfl) ?_
                      have hP0 : va_P G.1 vwCl (([] : va_W) ++ (zb_r G q K)) H := hP
                      have hD0 : va_D A (([] : va_W) ++ (zb_r G q K)) := hD
                      refine zk_callI (wr := zb_r G q K) (va_runS (As := [.int (nI i), .int (nI j)]) (rest := [.int (nI 1075), .ref q]) ⟨hx, hb, hml, hown, hts⟩ (c_X6_at l G i j _) (cwS 2 hts gX6_charged_X6_at rfl rfl rfl (by decide +kernel) ⟨Nat.le_of_ble_eq_true rfl, Nat.le_of_ble_eq_true rfl⟩) (zk_preS hE hA0 hS (zk_Papp hP0).1 (zk_Dapp hD0).1) rfl rfl hl.1 rfl (lv_room (Nat.le_of_ble_eq_true rfl)) dX6_charged_63 ⟨Nat.le_of_ble_eq_true rfl, Nat.le_of_ble_eq_true rfl⟩) hP0 hD0 hS hA (fun r36 u37 H locs q38 hP hD hS => ?_)
                      subst q38
                      have hP : va_P G.1 vwCl (zb_r G q K) H := hP
                      have hD : va_D A (zb_r G q K) := hD
                      refine zk_iaddN hx hb dX6_charged_66 ?_
                      refine zk_ialdN hx hb hK hP 0 0 rfl rfl (k := (1075 + (i * 40 + j))) (n := 1555) (by omega) (by omega) dX6_charged_67 ?_
                      refine zk_top (zrow_11 K (c := i * 40 + j) (by omega)) ?_
                      refine lv_iload_n hx hb dX6_charged_68 rfl (lv_at hl 5 rfl) ?_
                      refine lv_icmp_ne (tgt := 76) hx hb dX6_charged_69 (by decide) (fun h69_38 => ?_) (fun h69_38 => ?_)
                      · refine lv_iconst (v := nI 0) hx hb dX6_charged_76 (by decide) ?_
                        refine lv_istore (lv' := [(6, .int (nI 0)), (5, .int (nI j)), (4, .int (nI i)), (3, .int y), (0, .ref q), (1, .int dy), (2, .int py)]) hx hb dX6_charged_77 hl (by decide) rfl (fun ls hl => ?_)
                        refine lv_iload_n hx hb dX6_charged_79 rfl (lv_at hl 3 rfl) ?_
                        refine lv_iload hx hb dX6_charged_80 (lv_at hl 0 rfl) ?_
                        refine lv_if_eq (tgt := 101) hx hb dX6_charged_82 (by decide) (fun _ => ?_) (fun z => absurd (by decide) z)
                        refine lv_iconst (v := nI 0) hx hb dX6_charged_101 (by decide) ?_
                        refine lv_iadd hx hb dX6_charged_102 ?_
                        refine lv_topi (fun x40 ex40 => ?_)
                        refine lv_istore_n (lv' := [(3, .int x40), (6, .int (nI 0)), (5, .int (nI j)), (4, .int (nI i)), (0, .ref q), (1, .int dy), (2, .int py)]) hx hb dX6_charged_103 rfl hl (by decide) rfl (fun ls hl => ?_)
                        refine lv_iinc (v := nI (j + 1)) (lv' := [(5, .int (nI (j + 1))), (3, .int x40), (6, .int (nI 0)), (4, .int (nI i)), (0, .ref q), (1, .int dy), (2, .int py)]) hx hb dX6_charged_104 hl (k := 2) rfl (zk_inc j 1) (by decide) rfl (fun ls hl => ?_)
                        refine lv_goto (tgt := 16) hx hb dX6_charged_107 (by decide) ?_
                        exact ih6 (j + 1) x40 (by omega) (by omega) (by refine zs2_i hy ?_; simp +decide [zk_a0, h10_3, h20_7, h36_11, h41_13, h47_28, h52_30, h69_38, ex40]) _ _ hP hD hS ls (lv_sub hl [0, 3, 1, 4, 5, 6] rfl)
                      · refine lv_iconst (v := nI 1) hx hb dX6_charged_72 (by decide) ?_
                        refine lv_goto (tgt := 77) hx hb dX6_charged_73 (by decide) ?_
                        refine lv_istore (lv' := [(6, .int (nI 1)), (5, .int (nI j)), (4, .int (nI i)), (3, .int y), (0, .ref q), (1, .int dy), (2, .int py)]) hx hb dX6_charged_77 hl (by decide) rfl (fun ls hl => ?_)
                        refine lv_iload_n hx hb dX6_charged_79 rfl (lv_at hl 3 rfl) ?_
                        refine lv_iload hx hb dX6_charged_80 (lv_at hl 0 rfl) ?_
                        refine lv_if_eq (tgt := 101) hx hb dX6_charged_82 (by decide) (fun z => absurd z (by decide)) (fun _ => ?_)
                        refine lv_aload_n hx hb dX6_charged_85 rfl (lv_at hl 4 rfl) ?_
                        refine lv_sipush (v := nI 595) hx hb dX6_charged_86 (by decide) ?_
                        refine lv_iload hx hb dX6_charged_89 (lv_at hl 2 rfl) ?_
                        refine lv_iload hx hb dX6_charged_91 (lv_at hl 1 rfl) ?_
                        have hP0 : va_P G.1 vwCl (([] : va_W) ++ (zb_r G q K)) H := hP
                        have hD0 : va_D A (([] : va_W) ++ (zb_r G q K)) := hD
                        refine zk_callI (wr := zb_r G q K) (va_runS (As := [.int (nI i), .int (nI j)]) (rest := [.int (nI 595), .ref q, .int y]) ⟨hx, hb, hml, hown, hts⟩ (c_X6_at l G i j _) (cwS 2 hts gX6_charged_X6_at rfl rfl rfl (by decide +kernel) ⟨Nat.le_of_ble_eq_true rfl, Nat.le_of_ble_eq_true rfl⟩) (zk_preS hE hA0 hS (zk_Papp hP0).1 (zk_Dapp hD0).1) rfl rfl hl.1 rfl (lv_room (Nat.le_of_ble_eq_true rfl)) dX6_charged_93 ⟨Nat.le_of_ble_eq_true rfl, Nat.le_of_ble_eq_true rfl⟩) hP0 hD0 hS hA (fun r41 u42 H locs q43 hP hD hS => ?_)
                        subst q43
                        have hP : va_P G.1 vwCl (zb_r G q K) H := hP
                        have hD : va_D A (zb_r G q K) := hD
                        refine zk_iaddN hx hb dX6_charged_96 ?_
                        refine zk_ialdN hx hb hK hP 0 0 rfl rfl (k := (595 + (i * 40 + j))) (n := 1555) (by omega) (by omega) dX6_charged_97 ?_
                        refine zk_top (zrow_10 K (c := i * 40 + j) (by omega)) ?_
                        refine lv_goto (tgt := 102) hx hb dX6_charged_98 (by decide) ?_
                        refine lv_iadd hx hb dX6_charged_102 ?_
                        refine lv_topi (fun x44 ex44 => ?_)
                        refine lv_istore_n (lv' := [(3, .int x44), (6, .int (nI 1)), (5, .int (nI j)), (4, .int (nI i)), (0, .ref q), (1, .int dy), (2, .int py)]) hx hb dX6_charged_103 rfl hl (by decide) rfl (fun ls hl => ?_)
                        refine lv_iinc (v := nI (j + 1)) (lv' := [(5, .int (nI (j + 1))), (3, .int x44), (6, .int (nI 1)), (4, .int (nI i)), (0, .ref q), (1, .int dy), (2, .int py)]) hx hb dX6_charged_104 hl (k := 2) rfl (zk_inc j 1) (by decide) rfl (fun ls hl => ?_)
                        refine lv_goto (tgt := 16) hx hb dX6_charged_107 (by decide) ?_
                        exact ih6 (j + 1) x44 (by omega) (by omega) (by refine zs2_i hy ?_; simp +decide [zk_a0, h10_3, h20_7, h36_11, h41_13, h47_28, h52_30, h69_38, ex44]) _ _ hP hD hS ls (lv_sub hl [0, 3, 1, 4, 5, 6] rfl)
        exact lp5 _ 0 x (Nat.lt_succ_self _) (by omega) (zs2_0 _ _) _ _ hP hD hS ls (lv_sub hl [0, 1, 2, 3, 4, 5] rfl)
  exact lp1 _ 0 (nI 0) (Nat.lt_succ_self _) (by omega) (rfl) _ _ hP hD hS ls (lv_sub hl [0, 1, 2, 3, 4] rfl)

abbrev rmX6_sum : Room := { frames := 0, cells := 0, slots := 0, locals := 0 }
set_option maxHeartbeats 4000000 in
set_option maxRecDepth 100000 in
/-- a sum -/
theorem c_X6_sum (l : Launch) (G : zk_G) (q : Nat) (K : zL) (n t : Nat) (hI : sInv K n t) (fr mm : Nat) (hm : fr + mm ≤ 1555) : zk_I (S := Unit) l yX6_sum wsX6_sum rmX6_sum G [.ref q, .int (nI fr), .int (nI mm)] (zb_r G q K) (fun r _ => r = zs (fun k => zrow K (fr + k)) mm) (fun _ => zb_r G q K) := by
  refine zk_bodyI (cc := cX6_sum) (maxL := 5) (ret := (some .int)) (by decide) rfl (Nat.le_of_ble_eq_true rfl) ?_
  intro p E0 s m args below meth cd A ls Q hF hQ
  obtain ⟨hx, hb, hml, hr, hts, hown, hlocks, -, hE, hP, hD, hS, hA, hA0, hl⟩ := hF
  have hK := hE.1
  have hl : lv_has ls 5 [(0, .ref q), (1, .int (nI fr)), (2, .int (nI mm))] := hl
  obtain ⟨hn, hn12, ht, ht40, hfam, hpay⟩ := id hI
  refine lv_iconst (v := nI 0) hx hb dX6_sum_0 (by decide) ?_
  refine lv_istore_n (lv' := [(3, .int (nI 0)), (0, .ref q), (1, .int (nI fr)), (2, .int (nI mm))]) hx hb dX6_sum_1 rfl hl (by decide) rfl (fun ls hl => ?_)
  refine lv_iconst (v := nI 0) hx hb dX6_sum_2 (by decide) ?_
  refine lv_istore (lv' := [(4, .int (nI 0)), (3, .int (nI 0)), (0, .ref q), (1, .int (nI fr)), (2, .int (nI mm))]) hx hb dX6_sum_3 hl (by decide) rfl (fun ls hl => ?_)
  have lp1 : ∀ (n3 : Nat) (i : Nat) (x : Int32), mm - i < n3 → (i ≤ mm) → (x = zs (fun k => zrow K (fr + k)) i) → ∀ (ls : Array Slot), lv_has ls 5 [(4, .int (nI i)), (3, .int x), (0, .ref q), (1, .int (nI fr)), (2, .int (nI mm))] → W p l E0 rmX6_sum s m args below meth cd s.heap [] 0 0 Q (F0 m 5 ls []) := by
    intro n3
    induction n3 with
    | zero => intro i x hz; exact absurd hz (Nat.not_lt_zero _)
    | succ n3 ih2 =>
      intro i x hm hi hq ls hl
      refine lv_iload hx hb dX6_sum_5 (lv_at hl 0 rfl) ?_
      refine lv_iload_n hx hb dX6_sum_7 rfl (lv_at hl 4 rfl) ?_
      refine lv_icmp_ge (tgt := 26) hx hb dX6_sum_8 (by decide) (fun h8_3 => ?_) (fun h8_3 => ?_)
      · have h8_3 := zk_le (by omega) (by omega) h8_3
        refine lv_iload_n hx hb dX6_sum_26 rfl (lv_at hl 1 rfl) ?_
        exact zk_reti () hQ hx hb hr hlocks hS hP hD (Nat.le_of_ble_eq_true rfl) (Nat.le_of_ble_eq_true rfl) dX6_sum_27 (by rw [hq, show i = mm by omega])
      · have h8_3 := zk_nle (by omega) (by omega) h8_3
        refine lv_iload_n hx hb dX6_sum_11 rfl (lv_at hl 1 rfl) ?_
        refine lv_aload_n hx hb dX6_sum_12 rfl (lv_at hl 2 rfl) ?_
        refine lv_iload_n hx hb dX6_sum_13 rfl (lv_at hl 3 rfl) ?_
        refine lv_iload hx hb dX6_sum_14 (lv_at hl 0 rfl) ?_
        refine zk_iaddN hx hb dX6_sum_16 ?_
        refine zk_ialdN hx hb hK hP 0 0 rfl rfl (k := (fr + i)) (n := 1555) (by omega) (by omega) dX6_sum_17 ?_
        refine lv_iadd hx hb dX6_sum_18 ?_
        refine lv_topi (fun x5 ex5 => ?_)
        refine lv_istore_n (lv' := [(3, .int x5), (4, .int (nI i)), (0, .ref q), (1, .int (nI fr)), (2, .int (nI mm))]) hx hb dX6_sum_19 rfl hl (by decide) rfl (fun ls hl => ?_)
        refine lv_iinc (v := nI (i + 1)) (lv' := [(4, .int (nI (i + 1))), (3, .int x5), (0, .ref q), (1, .int (nI fr)), (2, .int (nI mm))]) hx hb dX6_sum_20 hl (k := 1) rfl (zk_inc i 1) (by decide) rfl (fun ls hl => ?_)
        refine lv_goto (tgt := 5) hx hb dX6_sum_23 (by decide) ?_
        exact ih2 (i + 1) x5 (by omega) (by omega) (zs_i hq ex5) ls (lv_sub hl [0, 1, 2, 3, 4] rfl)
  exact lp1 _ 0 (nI 0) (Nat.lt_succ_self _) (by omega) (rfl) ls (lv_sub hl [0, 1, 2, 3, 4] rfl)

abbrev rmX6_siblingFor : Room := { frames := 0, cells := 0, slots := 0, locals := 0 }
set_option maxHeartbeats 4000000 in
set_option maxRecDepth 100000 in
/-- who of the siblings pays -/
theorem c_X6_siblingFor (l : Launch) (G : zk_G) (q : Nat) (K : zL) (n t : Nat) (hI : sInv K n t) (c : Nat) (hc : c < n) : zk_I (S := Unit) l yX6_siblingFor wsX6_siblingFor rmX6_siblingFor G [.ref q, .int (nI c)] (zb_r G q K) (fun r _ => r = kPay K n c) (fun _ => zb_r G q K) := by
  refine zk_bodyI (cc := cX6_siblingFor) (maxL := 5) (ret := (some .int)) (by decide) rfl (Nat.le_of_ble_eq_true rfl) ?_
  intro p E0 s m args below meth cd A ls Q hF hQ
  obtain ⟨hx, hb, hml, hr, hts, hown, hlocks, -, hE, hP, hD, hS, hA, hA0, hl⟩ := hF
  have hK := hE.1
  have hl : lv_has ls 5 [(0, .ref q), (1, .int (nI c))] := hl
  obtain ⟨hn, hn12, ht, ht40, hfam, hpay⟩ := id hI
  obtain ⟨fm, hfm, efm⟩ := hI.2.2.2.2.1 c hc
  have nfm := nI_clamp (show fm < 2 ^ 31 by omega)
  refine lv_iconst (v := -1) hx hb dX6_siblingFor_0 (by decide) ?_
  refine lv_topi (fun x1 ex1 => ?_)
  refine lv_istore_n (lv' := [(2, .int x1), (0, .ref q), (1, .int (nI c))]) hx hb dX6_siblingFor_1 rfl hl (by decide) rfl (fun ls hl => ?_)
  refine lv_iconst (v := nI 0) hx hb dX6_siblingFor_2 (by decide) ?_
  refine lv_istore_n (lv' := [(3, .int (nI 0)), (2, .int x1), (0, .ref q), (1, .int (nI c))]) hx hb dX6_siblingFor_3 rfl hl (by decide) rfl (fun ls hl => ?_)
  have lp2 : ∀ (n4 : Nat) (i : Nat) (x : Int32), n - i < n4 → (i ≤ n) → (i = 0 ∨ K 7 fm = nI 1) → (x = kSib K c i) → ∀ (ls : Array Slot), lv_has ls 5 [(3, .int (nI i)), (2, .int x), (0, .ref q), (1, .int (nI c))] → W p l E0 rmX6_siblingFor s m args below meth cd s.heap [] 0 0 Q (F0 m 4 ls []) := by
    intro n4
    induction n4 with
    | zero => intro i x hz; exact absurd hz (Nat.not_lt_zero _)
    | succ n4 ih3 =>
      intro i x hm hi hs hq ls hl
      refine lv_iload_n hx hb dX6_siblingFor_4 rfl (lv_at hl 0 rfl) ?_
      refine lv_aload_n hx hb dX6_siblingFor_5 rfl (lv_at hl 2 rfl) ?_
      refine lv_iconst (v := nI 1) hx hb dX6_siblingFor_6 (by decide) ?_
      refine zk_ialdN hx hb hK hP 0 0 rfl rfl (k := 1) (n := 1555) (by omega) (by omega) dX6_siblingFor_7 ?_
      refine zk_top (zrow_l K (c := 1) (by omega)) ?_
      refine zk_top hI.1 ?_
      refine lv_icmp_ge (tgt := 102) hx hb dX6_siblingFor_8 (by decide) (fun h8_4 => ?_) (fun h8_4 => ?_)
      · have h8_4 := zk_le (by omega) (by omega) h8_4
        refine lv_iload_n hx hb dX6_siblingFor_102 rfl (lv_at hl 1 rfl) ?_
        exact zk_reti () hQ hx hb hr hlocks hS hP hD (Nat.le_of_ble_eq_true rfl) (Nat.le_of_ble_eq_true rfl) dX6_siblingFor_103 (by unfold kPay; rw [efm, nfm, if_pos (hs.resolve_left (by omega)), hq, show i = n by omega])
      · have h8_4 := zk_nle (by omega) (by omega) h8_4
        refine lv_aload_n hx hb dX6_siblingFor_11 rfl (lv_at hl 2 rfl) ?_
        refine lv_bipush (v := nI 105) hx hb dX6_siblingFor_12 (by decide) ?_
        refine lv_aload_n hx hb dX6_siblingFor_14 rfl (lv_at hl 2 rfl) ?_
        refine lv_bipush (v := nI 45) hx hb dX6_siblingFor_15 (by decide) ?_
        refine lv_iload_n hx hb dX6_siblingFor_17 rfl (lv_at hl 3 rfl) ?_
        refine zk_iaddN hx hb dX6_siblingFor_18 ?_
        refine zk_ialdN hx hb hK hP 0 0 rfl rfl (k := (45 + c)) (n := 1555) (by omega) (by omega) dX6_siblingFor_19 ?_
        refine zk_top (zrow_1 K (c := c) (by omega)) ?_
        refine zk_top efm ?_
        refine zk_iaddN hx hb dX6_siblingFor_20 ?_
        refine zk_ialdN hx hb hK hP 0 0 rfl rfl (k := (105 + fm)) (n := 1555) (by omega) (by omega) dX6_siblingFor_21 ?_
        refine zk_top (zrow_7 K (c := fm) (by omega)) ?_
        refine lv_iconst (v := nI 1) hx hb dX6_siblingFor_22 (by decide) ?_
        refine lv_icmp_ne (tgt := 102) hx hb dX6_siblingFor_23 (by decide) (fun h23_5 => ?_) (fun h23_5 => ?_)
        · refine lv_iload_n hx hb dX6_siblingFor_102 rfl (lv_at hl 1 rfl) ?_
          exact zk_reti () hQ hx hb hr hlocks hS hP hD (Nat.le_of_ble_eq_true rfl) (Nat.le_of_ble_eq_true rfl) dX6_siblingFor_103 (by unfold kPay; rw [efm, nfm, if_neg h23_5, hq, show i = 0 from hs.resolve_right h23_5]; rfl)
        · refine lv_iload_n hx hb dX6_siblingFor_26 rfl (lv_at hl 0 rfl) ?_
          refine lv_iload_n hx hb dX6_siblingFor_27 rfl (lv_at hl 3 rfl) ?_
          refine lv_icmp_eq (tgt := 62) hx hb dX6_siblingFor_28 (by decide) (fun h28_6 => ?_) (fun h28_6 => ?_)
          · have h28_6 := zk_eq (by omega) (by omega) h28_6
            refine lv_iconst (v := nI 0) hx hb dX6_siblingFor_62 (by decide) ?_
            refine lv_istore (lv' := [(4, .int (nI 0)), (3, .int (nI i)), (2, .int x), (0, .ref q), (1, .int (nI c))]) hx hb dX6_siblingFor_63 hl (by decide) rfl (fun ls hl => ?_)
            refine lv_iload hx hb dX6_siblingFor_65 (lv_at hl 0 rfl) ?_
            refine lv_if_eq (tgt := 94) hx hb dX6_siblingFor_67 (by decide) (fun _ => ?_) (fun z => absurd (by decide) z)
            refine lv_iload_n hx hb dX6_siblingFor_94 rfl (lv_at hl 2 rfl) ?_
            refine lv_istore_n (lv' := [(2, .int x), (4, .int (nI 0)), (3, .int (nI i)), (0, .ref q), (1, .int (nI c))]) hx hb dX6_siblingFor_95 rfl hl (by decide) rfl (fun ls hl => ?_)
            refine lv_iinc (v := nI (i + 1)) (lv' := [(3, .int (nI (i + 1))), (2, .int x), (4, .int (nI 0)), (0, .ref q), (1, .int (nI c))]) hx hb dX6_siblingFor_96 hl (k := 2) rfl (zk_inc i 1) (by decide) rfl (fun ls hl => ?_)
            refine lv_goto (tgt := 4) hx hb dX6_siblingFor_99 (by decide) ?_
            exact ih3 (i + 1) x (by omega) (by omega) (Or.inr h23_5) (by refine zfold_i (f := kSibS K c) hq ?_; unfold kSibS; exact (if_neg (fun z => z.1.1 h28_6)).symm) ls (lv_sub hl [0, 1, 3, 4] rfl)
          · have h28_6 := zk_ne (by omega) (by omega) h28_6
            refine lv_aload_n hx hb dX6_siblingFor_31 rfl (lv_at hl 2 rfl) ?_
            refine lv_bipush (v := nI 45) hx hb dX6_siblingFor_32 (by decide) ?_
            refine lv_iload_n hx hb dX6_siblingFor_34 rfl (lv_at hl 0 rfl) ?_
            refine zk_iaddN hx hb dX6_siblingFor_35 ?_
            refine zk_ialdN hx hb hK hP 0 0 rfl rfl (k := (45 + i)) (n := 1555) (by omega) (by omega) dX6_siblingFor_36 ?_
            refine zk_top (zrow_1 K (c := i) (by omega)) ?_
            refine lv_aload_n hx hb dX6_siblingFor_37 rfl (lv_at hl 2 rfl) ?_
            refine lv_bipush (v := nI 45) hx hb dX6_siblingFor_38 (by decide) ?_
            refine lv_iload_n hx hb dX6_siblingFor_40 rfl (lv_at hl 3 rfl) ?_
            refine zk_iaddN hx hb dX6_siblingFor_41 ?_
            refine zk_ialdN hx hb hK hP 0 0 rfl rfl (k := (45 + c)) (n := 1555) (by omega) (by omega) dX6_siblingFor_42 ?_
            refine zk_top (zrow_1 K (c := c) (by omega)) ?_
            refine lv_icmp_ne (tgt := 62) hx hb dX6_siblingFor_43 (by decide) (fun h43_7 => ?_) (fun h43_7 => ?_)
            · refine lv_iconst (v := nI 0) hx hb dX6_siblingFor_62 (by decide) ?_
              refine lv_istore (lv' := [(4, .int (nI 0)), (3, .int (nI i)), (2, .int x), (0, .ref q), (1, .int (nI c))]) hx hb dX6_siblingFor_63 hl (by decide) rfl (fun ls hl => ?_)
              refine lv_iload hx hb dX6_siblingFor_65 (lv_at hl 0 rfl) ?_
              refine lv_if_eq (tgt := 94) hx hb dX6_siblingFor_67 (by decide) (fun _ => ?_) (fun z => absurd (by decide) z)
              refine lv_iload_n hx hb dX6_siblingFor_94 rfl (lv_at hl 2 rfl) ?_
              refine lv_istore_n (lv' := [(2, .int x), (4, .int (nI 0)), (3, .int (nI i)), (0, .ref q), (1, .int (nI c))]) hx hb dX6_siblingFor_95 rfl hl (by decide) rfl (fun ls hl => ?_)
              refine lv_iinc (v := nI (i + 1)) (lv' := [(3, .int (nI (i + 1))), (2, .int x), (4, .int (nI 0)), (0, .ref q), (1, .int (nI c))]) hx hb dX6_siblingFor_96 hl (k := 2) rfl (zk_inc i 1) (by decide) rfl (fun ls hl => ?_)
              refine lv_goto (tgt := 4) hx hb dX6_siblingFor_99 (by decide) ?_
              exact ih3 (i + 1) x (by omega) (by omega) (Or.inr h23_5) (by refine zfold_i (f := kSibS K c) hq ?_; unfold kSibS; exact (if_neg (fun z => h43_7 z.1.2.1)).symm) ls (lv_sub hl [0, 1, 3, 4] rfl)
            · refine lv_aload_n hx hb dX6_siblingFor_46 rfl (lv_at hl 2 rfl) ?_
              refine lv_bipush (v := nI 69) hx hb dX6_siblingFor_47 (by decide) ?_
              refine lv_iload_n hx hb dX6_siblingFor_49 rfl (lv_at hl 0 rfl) ?_
              refine zk_iaddN hx hb dX6_siblingFor_50 ?_
              refine zk_ialdN hx hb hK hP 0 0 rfl rfl (k := (69 + i)) (n := 1555) (by omega) (by omega) dX6_siblingFor_51 ?_
              refine zk_top (zrow_3 K (c := i) (by omega)) ?_
              refine lv_aload_n hx hb dX6_siblingFor_52 rfl (lv_at hl 2 rfl) ?_
              refine lv_iconst (v := nI 2) hx hb dX6_siblingFor_53 (by decide) ?_
              refine zk_ialdN hx hb hK hP 0 0 rfl rfl (k := 2) (n := 1555) (by omega) (by omega) dX6_siblingFor_54 ?_
              refine zk_top (zrow_l K (c := 2) (by omega)) ?_
              refine lv_icmp_lt (tgt := 62) hx hb dX6_siblingFor_55 (by decide) (fun h55_8 => ?_) (fun h55_8 => ?_)
              · have h55_8 := h55_8
                refine lv_iconst (v := nI 0) hx hb dX6_siblingFor_62 (by decide) ?_
                refine lv_istore (lv' := [(4, .int (nI 0)), (3, .int (nI i)), (2, .int x), (0, .ref q), (1, .int (nI c))]) hx hb dX6_siblingFor_63 hl (by decide) rfl (fun ls hl => ?_)
                refine lv_iload hx hb dX6_siblingFor_65 (lv_at hl 0 rfl) ?_
                refine lv_if_eq (tgt := 94) hx hb dX6_siblingFor_67 (by decide) (fun _ => ?_) (fun z => absurd (by decide) z)
                refine lv_iload_n hx hb dX6_siblingFor_94 rfl (lv_at hl 2 rfl) ?_
                refine lv_istore_n (lv' := [(2, .int x), (4, .int (nI 0)), (3, .int (nI i)), (0, .ref q), (1, .int (nI c))]) hx hb dX6_siblingFor_95 rfl hl (by decide) rfl (fun ls hl => ?_)
                refine lv_iinc (v := nI (i + 1)) (lv' := [(3, .int (nI (i + 1))), (2, .int x), (4, .int (nI 0)), (0, .ref q), (1, .int (nI c))]) hx hb dX6_siblingFor_96 hl (k := 2) rfl (zk_inc i 1) (by decide) rfl (fun ls hl => ?_)
                refine lv_goto (tgt := 4) hx hb dX6_siblingFor_99 (by decide) ?_
                exact ih3 (i + 1) x (by omega) (by omega) (Or.inr h23_5) (by refine zfold_i (f := kSibS K c) hq ?_; unfold kSibS; exact (if_neg (fun z => z.1.2.2 h55_8)).symm) ls (lv_sub hl [0, 1, 3, 4] rfl)
              · have h55_8 := h55_8
                refine lv_iconst (v := nI 1) hx hb dX6_siblingFor_58 (by decide) ?_
                refine lv_goto (tgt := 63) hx hb dX6_siblingFor_59 (by decide) ?_
                refine lv_istore (lv' := [(4, .int (nI 1)), (3, .int (nI i)), (2, .int x), (0, .ref q), (1, .int (nI c))]) hx hb dX6_siblingFor_63 hl (by decide) rfl (fun ls hl => ?_)
                refine lv_iload hx hb dX6_siblingFor_65 (lv_at hl 0 rfl) ?_
                refine lv_if_eq (tgt := 94) hx hb dX6_siblingFor_67 (by decide) (fun z => absurd z (by decide)) (fun _ => ?_)
                refine lv_iload_n hx hb dX6_siblingFor_70 rfl (lv_at hl 2 rfl) ?_
                refine lv_iconst (v := -1) hx hb dX6_siblingFor_71 (by decide) ?_
                refine lv_icmp_eq (tgt := 90) hx hb dX6_siblingFor_72 (by decide) (fun h72_9 => ?_) (fun h72_9 => ?_)
                · refine lv_iload_n hx hb dX6_siblingFor_90 rfl (lv_at hl 1 rfl) ?_
                  refine lv_goto (tgt := 95) hx hb dX6_siblingFor_91 (by decide) ?_
                  refine lv_istore_n (lv' := [(2, .int (nI i)), (4, .int (nI 1)), (3, .int (nI i)), (0, .ref q), (1, .int (nI c))]) hx hb dX6_siblingFor_95 rfl hl (by decide) rfl (fun ls hl => ?_)
                  refine lv_iinc (v := nI (i + 1)) (lv' := [(3, .int (nI (i + 1))), (2, .int (nI i)), (4, .int (nI 1)), (0, .ref q), (1, .int (nI c))]) hx hb dX6_siblingFor_96 hl (k := 2) rfl (zk_inc i 1) (by decide) rfl (fun ls hl => ?_)
                  refine lv_goto (tgt := 4) hx hb dX6_siblingFor_99 (by decide) ?_
                  exact ih3 (i + 1) (nI i) (by omega) (by omega) (Or.inr h23_5) (by refine zfold_i (f := kSibS K c) hq ?_; unfold kSibS; exact (if_pos ⟨⟨h28_6, h43_7, h55_8⟩, Or.inl h72_9⟩).symm) ls (lv_sub hl [0, 1, 3, 4] rfl)
                · refine lv_aload_n hx hb dX6_siblingFor_75 rfl (lv_at hl 3 rfl) ?_
                  refine lv_bipush (v := nI 69) hx hb dX6_siblingFor_76 (by decide) ?_
                  refine lv_iload_n hx hb dX6_siblingFor_78 rfl (lv_at hl 1 rfl) ?_
                  refine zk_iaddN hx hb dX6_siblingFor_79 ?_
                  refine zk_ialdN hx hb hK hP 0 0 rfl rfl (k := (69 + i)) (n := 1555) (by omega) (by omega) dX6_siblingFor_80 ?_
                  refine zk_top (zrow_3 K (c := i) (by omega)) ?_
                  refine lv_aload_n hx hb dX6_siblingFor_81 rfl (lv_at hl 3 rfl) ?_
                  refine lv_bipush (v := nI 69) hx hb dX6_siblingFor_82 (by decide) ?_
                  refine lv_iload_n hx hb dX6_siblingFor_84 rfl (lv_at hl 2 rfl) ?_
                  obtain ⟨j, hj, ej⟩ := (kSib_in K c i).resolve_left (fun z => h72_9 (hq.trans z))
                  have exj : x = nI j := hq.trans ej
                  refine zk_top exj ?_
                  have nj := nI_clamp (show j < 2 ^ 31 by omega)
                  refine zk_iaddN hx hb dX6_siblingFor_85 ?_
                  refine zk_ialdN hx hb hK hP 0 0 rfl rfl (k := (69 + j)) (n := 1555) (by omega) (by omega) dX6_siblingFor_86 ?_
                  refine zk_top (zrow_3 K (c := j) (by omega)) ?_
                  refine lv_icmp_le (tgt := 94) hx hb dX6_siblingFor_87 (by decide) (fun h87_10 => ?_) (fun h87_10 => ?_)
                  · have h87_10 := zk_l1 h87_10
                    refine lv_iload_n hx hb dX6_siblingFor_94 rfl (lv_at hl 2 rfl) ?_
                    refine lv_istore_n (lv' := [(2, .int x), (4, .int (nI 1)), (3, .int (nI i)), (0, .ref q), (1, .int (nI c))]) hx hb dX6_siblingFor_95 rfl hl (by decide) rfl (fun ls hl => ?_)
                    refine lv_iinc (v := nI (i + 1)) (lv' := [(3, .int (nI (i + 1))), (2, .int x), (4, .int (nI 1)), (0, .ref q), (1, .int (nI c))]) hx hb dX6_siblingFor_96 hl (k := 2) rfl (zk_inc i 1) (by decide) rfl (fun ls hl => ?_)
                    refine lv_goto (tgt := 4) hx hb dX6_siblingFor_99 (by decide) ?_
                    exact ih3 (i + 1) x (by omega) (by omega) (Or.inr h23_5) (by refine zfold_i (f := kSibS K c) hq ?_; unfold kSibS; exact (if_neg (fun z => z.2.elim h72_9 (by rw [exj, nj]; exact h87_10))).symm) ls (lv_sub hl [0, 1, 3, 4] rfl)
                  · have h87_10 := zk_l2 h87_10
                    refine lv_iload_n hx hb dX6_siblingFor_90 rfl (lv_at hl 1 rfl) ?_
                    refine lv_goto (tgt := 95) hx hb dX6_siblingFor_91 (by decide) ?_
                    refine lv_istore_n (lv' := [(2, .int (nI i)), (4, .int (nI 1)), (3, .int (nI i)), (0, .ref q), (1, .int (nI c))]) hx hb dX6_siblingFor_95 rfl hl (by decide) rfl (fun ls hl => ?_)
                    refine lv_iinc (v := nI (i + 1)) (lv' := [(3, .int (nI (i + 1))), (2, .int (nI i)), (4, .int (nI 1)), (0, .ref q), (1, .int (nI c))]) hx hb dX6_siblingFor_96 hl (k := 2) rfl (zk_inc i 1) (by decide) rfl (fun ls hl => ?_)
                    refine lv_goto (tgt := 4) hx hb dX6_siblingFor_99 (by decide) ?_
                    exact ih3 (i + 1) (nI i) (by omega) (by omega) (Or.inr h23_5) (by refine zfold_i (f := kSibS K c) hq ?_; unfold kSibS; exact (if_pos ⟨⟨h28_6, h43_7, h55_8⟩, Or.inr (by rw [exj, nj]; exact h87_10)⟩).symm) ls (lv_sub hl [0, 1, 3, 4] rfl)
  exact lp2 _ 0 x1 (Nat.lt_succ_self _) (by omega) (Or.inl rfl) (by rw [ex1]; rfl) ls (lv_sub hl [0, 1, 2, 3] rfl)
