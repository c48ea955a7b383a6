abbrev rmX3_place : Room := { frames := 0, cells := 0, slots := 0, locals := 0 }
set_option maxHeartbeats 4000000 in
set_option maxRecDepth 100000 in
/-- the place of a meal -/
theorem c_X3_place (l : Launch) (G : zk_G) (c d : Nat) : zk_I (S := Unit) l yX3_place wsX3_place rmX3_place G [.int (nI c), .int (nI d)] ([]) (fun r _ => r = nI (c * 40 + d)) (fun _ => []) := by
  refine zk_bodyI (cc := cX3_place) (maxL := 2) (ret := (some .int)) (by decide) rfl (Nat.le_of_ble_eq_true rfl) ?_
  intro p E0 s m args below meth cd A ls Q hF hQ
  obtain ⟨hx, hb, hml, hr, hts, hown, hlocks, -, hE, hP, hD, hS, hA, hA0, hl⟩ := hF
  have hK := hE.1
  have hl : lv_has ls 2 [(0, .int (nI c)), (1, .int (nI d))] := hl
  refine lv_iload_n hx hb dX3_place_0 rfl (lv_at hl 0 rfl) ?_
  refine lv_bipush (v := nI 40) hx hb dX3_place_1 (by decide) ?_
  refine zk_imulN hx hb dX3_place_3 ?_
  refine lv_iload_n hx hb dX3_place_4 rfl (lv_at hl 1 rfl) ?_
  refine zk_iaddN hx hb dX3_place_5 ?_
  exact zk_reti () hQ hx hb hr hlocks hS hP hD (Nat.le_of_ble_eq_true rfl) (Nat.le_of_ble_eq_true rfl) dX3_place_6 (rfl)

abbrev rmX3_kindOf : Room := { frames := 1, cells := 0, slots := 0, locals := 21 }
set_option maxHeartbeats 4000000 in
set_option maxRecDepth 100000 in
/-- what became of a meal -/
theorem c_X3_kindOf (l : Launch) (G : zk_G) (ad : Nat → Nat) (L : Nat → Nat → Int32) (c d : Nat) (hc : c < 12) (hd : d < 40) : zk_I (S := Unit) l yX3_kindOf wsX3_kindOf rmX3_kindOf G [.ref (ad 9), .int (nI c), .int (nI d)] (zb_M G ad L) (fun r _ => r = L 9 (c * 40 + d)) (fun _ => zb_M G ad L) := by
  refine zk_bodyI (cc := cX3_kindOf) (maxL := 3) (ret := (some .int)) (by decide) rfl (Nat.le_of_ble_eq_true rfl) ?_
  intro p E0 s m args below meth cd A ls Q hF hQ
  obtain ⟨hx, hb, hml, hr, hts, hown, hlocks, -, hE, hP, hD, hS, hA, hA0, hl⟩ := hF
  have hK := hE.1
  have hl : lv_has ls 3 [(0, .ref (ad 9)), (1, .int (nI c)), (2, .int (nI d))] := hl
  have w1 := hts _ (List.mem_of_getElem? (l := wsX3_kindOf) (i := 1) (a := Cond.fieldLink RX3 11 "MealAccounts$Meals" "kinds" "[I") rfl)
  refine lv_aload_n hx hb dX3_kindOf_0 rfl (lv_at hl 0 rfl) ?_
  refine va_get (D := G.1) (ci := 2) (v := .ref (ad 10)) (C := RX3) (T := TX3) (N := 3) hx hb hts (fun _ h => List.mem_cons_of_mem _ (List.mem_append_right _ h)) hown hK hP 0 rfl rfl 0 (by decide) w1 (fun _ h9 => h9) rfl dX3_kindOf_1 ?_
  refine lv_iload_n hx hb dX3_kindOf_4 rfl (lv_at hl 1 rfl) ?_
  refine lv_iload_n hx hb dX3_kindOf_5 rfl (lv_at hl 2 rfl) ?_
  have hP0 : va_P G.1 vwCl (([] : va_W) ++ (zb_M G ad L)) s.heap := hP
  have hD0 : va_D A (([] : va_W) ++ (zb_M G ad L)) := hD
  refine zk_callI (wr := zb_M G ad L) (va_runS (As := [.int (nI c), .int (nI d)]) (rest := [.ref (ad 10)]) ⟨hx, hb, hml, hown, hts⟩ (c_X3_place l G c d _) (cwS 2 hts gX3_kindOf_X3_place rfl rfl rfl (by decide +kernel) ⟨Nat.le_of_ble_eq_true rfl, Nat.le_of_ble_eq_true rfl⟩) (zk_preS hE hA0 hS (zk_Papp hP0).1 (zk_Dapp hD0).1) rfl rfl hl.1 rfl (lv_room (Nat.le_of_ble_eq_true rfl)) dX3_kindOf_6 ⟨Nat.le_of_ble_eq_true rfl, Nat.le_of_ble_eq_true rfl⟩) hP0 hD0 hS hA (fun r1 u2 H locs q3 hP hD hS => ?_)
  subst q3
  have hP : va_P G.1 vwCl (zb_M G ad L) H := hP
  have hD : va_D A (zb_M G ad L) := hD
  refine zk_ialdN hx hb hK hP 1 0 rfl rfl (k := (c * 40 + d)) (n := 480) (by omega) (by omega) dX3_kindOf_9 ?_
  exact zk_reti () hQ hx hb hr hlocks hS hP hD (Nat.le_of_ble_eq_true rfl) (Nat.le_of_ble_eq_true rfl) dX3_kindOf_10 (rfl)

abbrev rmX3_put : Room := { frames := 1, cells := 0, slots := 0, locals := 21 }
set_option maxHeartbeats 4000000 in
set_option maxRecDepth 100000 in
/-- a meal gets a kind -/
theorem c_X3_put (l : Launch) (G : zk_G) (ad : Nat → Nat) (L : Nat → Nat → Int32) (c d : Nat) (k : Int32) (hc : c < 12) (hd : d < 40) : zk_V (S := Nat → Nat → Int32) l yX3_put wsX3_put rmX3_put G [.ref (ad 9), .int (nI c), .int (nI d), .int k] (zb_M G ad L) (fun u => u = up2 L 9 (c * 40 + d) k) (fun u => zb_M G ad u) := by
  refine zk_bodyV (cc := cX3_put) (maxL := 4) (ret := none) (by decide) rfl (Nat.le_of_ble_eq_true rfl) ?_
  intro p E0 s m args below meth cd A ls Q hF hQ
  obtain ⟨hx, hb, hml, hr, hts, hown, hlocks, -, hE, hP, hD, hS, hA, hA0, hl⟩ := hF
  have hK := hE.1
  have hl : lv_has ls 4 [(0, .ref (ad 9)), (1, .int (nI c)), (2, .int (nI d)), (3, .int k)] := hl
  have w1 := hts _ (List.mem_of_getElem? (l := wsX3_put) (i := 1) (a := Cond.fieldLink RX3 11 "MealAccounts$Meals" "kinds" "[I") rfl)
  refine lv_aload_n hx hb dX3_put_0 rfl (lv_at hl 0 rfl) ?_
  refine va_get (D := G.1) (ci := 2) (v := .ref (ad 10)) (C := RX3) (T := TX3) (N := 3) hx hb hts (fun _ h => List.mem_cons_of_mem _ (List.mem_append_right _ h)) hown hK hP 0 rfl rfl 0 (by decide) w1 (fun _ h9 => h9) rfl dX3_put_1 ?_
  refine lv_iload_n hx hb dX3_put_4 rfl (lv_at hl 1 rfl) ?_
  refine lv_iload_n hx hb dX3_put_5 rfl (lv_at hl 2 rfl) ?_
  have hP0 : va_P G.1 vwCl (([] : va_W) ++ (zb_M G ad L)) s.heap := hP
  have hD0 : va_D A (([] : va_W) ++ (zb_M G ad L)) := hD
  refine zk_callI (wr := zb_M G ad L) (va_runS (As := [.int (nI c), .int (nI d)]) (rest := [.ref (ad 10)]) ⟨hx, hb, hml, hown, hts⟩ (c_X3_place l G c d _) (cwS 2 hts gX3_put_X3_place rfl rfl rfl (by decide +kernel) ⟨Nat.le_of_ble_eq_true rfl, Nat.le_of_ble_eq_true rfl⟩) (zk_preS hE hA0 hS (zk_Papp hP0).1 (zk_Dapp hD0).1) rfl rfl hl.1 rfl (lv_room (Nat.le_of_ble_eq_true rfl)) dX3_put_6 ⟨Nat.le_of_ble_eq_true rfl, Nat.le_of_ble_eq_true rfl⟩) hP0 hD0 hS hA (fun r1 u2 H locs q3 hP hD hS => ?_)
  subst q3
  have hP : va_P G.1 vwCl (zb_M G ad L) H := hP
  have hD : va_D A (zb_M G ad L) := hD
  refine lv_iload_n hx hb dX3_put_9 rfl (lv_at hl 3 rfl) ?_
  refine zk_iastN hx hb hK hP hD hS 1 0 rfl rfl (k := (c * 40 + d)) (n := 480) (by omega) (by omega) dX3_put_10 (fun H locs hP hD hS => ?_)
  obtain ⟨L4, eL4⟩ : ∃ z : Nat → Nat → Int32, z = up2 L 9 (c * 40 + d) k := ⟨_, rfl⟩
  have hP : va_P G.1 vwCl (zb_M G ad L4) H := by rw [eL4]; exact hP
  have hD : va_D A (zb_M G ad L4) := by rw [eL4]; exact hD
  exact zk_retv L4 hQ hx hb hr hlocks hS hP hD (Nat.le_of_ble_eq_true rfl) (Nat.le_of_ble_eq_true rfl) dX3_put_11 (by subst_vars; rfl)

abbrev rmX3_putCharged : Room := { frames := 1, cells := 0, slots := 0, locals := 21 }
set_option maxHeartbeats 4000000 in
set_option maxRecDepth 100000 in
/-- a meal is charged -/
theorem c_X3_putCharged (l : Launch) (G : zk_G) (ad : Nat → Nat) (L : Nat → Nat → Int32) (c d : Nat) (ch py : Int32) (hc : c < 12) (hd : d < 40) : zk_V (S := Nat → Nat → Int32) l yX3_putCharged wsX3_putCharged rmX3_putCharged G [.ref (ad 9), .int (nI c), .int (nI d), .int ch, .int py] (zb_M G ad L) (fun u => u = up2 (up2 (up2 L 9 (c * 40 + d) (nI 2)) 10 (c * 40 + d) ch) 11 (c * 40 + d) py) (fun u => zb_M G ad u) := by
  refine zk_bodyV (cc := cX3_putCharged) (maxL := 6) (ret := none) (by decide) rfl (Nat.le_of_ble_eq_true rfl) ?_
  intro p E0 s m args below meth cd A ls Q hF hQ
  obtain ⟨hx, hb, hml, hr, hts, hown, hlocks, -, hE, hP, hD, hS, hA, hA0, hl⟩ := hF
  have hK := hE.1
  have hl : lv_has ls 6 [(0, .ref (ad 9)), (1, .int (nI c)), (2, .int (nI d)), (3, .int ch), (4, .int py)] := hl
  have w1 := hts _ (List.mem_of_getElem? (l := wsX3_putCharged) (i := 1) (a := Cond.fieldLink RX3 11 "MealAccounts$Meals" "kinds" "[I") rfl)
  have w2 := hts _ (List.mem_of_getElem? (l := wsX3_putCharged) (i := 2) (a := Cond.fieldLink RX3 15 "MealAccounts$Meals" "charges" "[I") rfl)
  have w3 := hts _ (List.mem_of_getElem? (l := wsX3_putCharged) (i := 3) (a := Cond.fieldLink RX3 18 "MealAccounts$Meals" "payers" "[I") rfl)
  refine lv_iload_n hx hb dX3_putCharged_0 rfl (lv_at hl 1 rfl) ?_
  refine lv_iload_n hx hb dX3_putCharged_1 rfl (lv_at hl 2 rfl) ?_
  have hP0 : va_P G.1 vwCl (([] : va_W) ++ (zb_M G ad L)) s.heap := hP
  have hD0 : va_D A (([] : va_W) ++ (zb_M G ad L)) := hD
  refine zk_callI (wr := zb_M G ad L) (va_runS (As := [.int (nI c), .int (nI d)]) (rest := []) ⟨hx, hb, hml, hown, hts⟩ (c_X3_place l G c d _) (cwS 2 hts gX3_putCharged_X3_place rfl rfl rfl (by decide +kernel) ⟨Nat.le_of_ble_eq_true rfl, Nat.le_of_ble_eq_true rfl⟩) (zk_preS hE hA0 hS (zk_Papp hP0).1 (zk_Dapp hD0).1) rfl rfl hl.1 rfl (lv_room (Nat.le_of_ble_eq_true rfl)) dX3_putCharged_2 ⟨Nat.le_of_ble_eq_true rfl, Nat.le_of_ble_eq_true rfl⟩) hP0 hD0 hS hA (fun r1 u2 H locs q3 hP hD hS => ?_)
  subst q3
  have hP : va_P G.1 vwCl (zb_M G ad L) H := hP
  have hD : va_D A (zb_M G ad L) := hD
  refine lv_istore (lv' := [(5, .int (nI (c * 40 + d))), (0, .ref (ad 9)), (1, .int (nI c)), (2, .int (nI d)), (3, .int ch), (4, .int py)]) hx hb dX3_putCharged_5 hl (by decide) rfl (fun ls hl => ?_)
  refine lv_aload_n hx hb dX3_putCharged_7 rfl (lv_at hl 1 rfl) ?_
  refine va_get (D := G.1) (ci := 2) (v := .ref (ad 10)) (C := RX3) (T := TX3) (N := 3) hx hb hts (fun _ h => List.mem_cons_of_mem _ (List.mem_append_right _ h)) hown hK hP 0 rfl rfl 0 (by decide) w1 (fun _ h9 => h9) rfl dX3_putCharged_8 ?_
  refine lv_iload hx hb dX3_putCharged_11 (lv_at hl 0 rfl) ?_
  refine lv_iconst (v := nI 2) hx hb dX3_putCharged_13 (by decide) ?_
  refine zk_iastN hx hb hK hP hD hS 1 0 rfl rfl (k := (c * 40 + d)) (n := 480) (by omega) (by omega) dX3_putCharged_14 (fun H locs hP hD hS => ?_)
  obtain ⟨L4, eL4⟩ : ∃ z : Nat → Nat → Int32, z = up2 L 9 (c * 40 + d) (nI 2) := ⟨_, rfl⟩
  have hP : va_P G.1 vwCl (zb_M G ad L4) H := by rw [eL4]; exact hP
  have hD : va_D A (zb_M G ad L4) := by rw [eL4]; exact hD
  refine lv_aload_n hx hb dX3_putCharged_15 rfl (lv_at hl 1 rfl) ?_
  refine va_get (D := G.1) (ci := 2) (v := .ref (ad 11)) (C := RX3) (T := TX3) (N := 3) hx hb hts (fun _ h => List.mem_cons_of_mem _ (List.mem_append_right _ h)) hown hK hP 0 rfl rfl 1 (by decide) w2 (fun _ h9 => h9) rfl dX3_putCharged_16 ?_
  refine lv_iload hx hb dX3_putCharged_19 (lv_at hl 0 rfl) ?_
  refine lv_iload_n hx hb dX3_putCharged_21 rfl (lv_at hl 4 rfl) ?_
  refine zk_iastN hx hb hK hP hD hS 2 0 rfl rfl (k := (c * 40 + d)) (n := 480) (by omega) (by omega) dX3_putCharged_22 (fun H locs hP hD hS => ?_)
  obtain ⟨L5, eL5⟩ : ∃ z : Nat → Nat → Int32, z = up2 L4 10 (c * 40 + d) ch := ⟨_, rfl⟩
  have hP : va_P G.1 vwCl (zb_M G ad L5) H := by rw [eL5]; exact hP
  have hD : va_D A (zb_M G ad L5) := by rw [eL5]; exact hD
  refine lv_aload_n hx hb dX3_putCharged_23 rfl (lv_at hl 1 rfl) ?_
  refine va_get (D := G.1) (ci := 2) (v := .ref (ad 12)) (C := RX3) (T := TX3) (N := 3) hx hb hts (fun _ h => List.mem_cons_of_mem _ (List.mem_append_right _ h)) hown hK hP 0 rfl rfl 2 (by decide) w3 (fun _ h9 => h9) rfl dX3_putCharged_24 ?_
  refine lv_iload hx hb dX3_putCharged_27 (lv_at hl 0 rfl) ?_
  refine lv_iload hx hb dX3_putCharged_29 (lv_at hl 5 rfl) ?_
  refine zk_iastN hx hb hK hP hD hS 3 0 rfl rfl (k := (c * 40 + d)) (n := 480) (by omega) (by omega) dX3_putCharged_31 (fun H locs hP hD hS => ?_)
  obtain ⟨L6, eL6⟩ : ∃ z : Nat → Nat → Int32, z = up2 L5 11 (c * 40 + d) py := ⟨_, rfl⟩
  have hP : va_P G.1 vwCl (zb_M G ad L6) H := by rw [eL6]; exact hP
  have hD : va_D A (zb_M G ad L6) := by rw [eL6]; exact hD
  exact zk_retv L6 hQ hx hb hr hlocks hS hP hD (Nat.le_of_ble_eq_true rfl) (Nat.le_of_ble_eq_true rfl) dX3_putCharged_32 (by subst_vars; rfl)

abbrev rmX3_chargeOf : Room := { frames := 1, cells := 0, slots := 0, locals := 21 }
set_option maxHeartbeats 4000000 in
set_option maxRecDepth 100000 in
/-- what is charged for a meal -/
theorem c_X3_chargeOf (l : Launch) (G : zk_G) (ad : Nat → Nat) (L : Nat → Nat → Int32) (c d : Nat) (hc : c < 12) (hd : d < 40) : zk_I (S := Unit) l yX3_chargeOf wsX3_chargeOf rmX3_chargeOf G [.ref (ad 9), .int (nI c), .int (nI d)] (zb_M G ad L) (fun r _ => r = if L 9 (c * 40 + d) = nI 2 then L 10 (c * 40 + d) else if L 9 (c * 40 + d) = nI 3 then nI 0 else -1) (fun _ => zb_M G ad L) := by
  refine zk_bodyI (cc := cX3_chargeOf) (maxL := 4) (ret := (some .int)) (by decide) rfl (Nat.le_of_ble_eq_true rfl) ?_
  intro p E0 s m args below meth cd A ls Q hF hQ
  obtain ⟨hx, hb, hml, hr, hts, hown, hlocks, -, hE, hP, hD, hS, hA, hA0, hl⟩ := hF
  have hK := hE.1
  have hl : lv_has ls 4 [(0, .ref (ad 9)), (1, .int (nI c)), (2, .int (nI d))] := hl
  have w1 := hts _ (List.mem_of_getElem? (l := wsX3_chargeOf) (i := 1) (a := Cond.fieldLink RX3 11 "MealAccounts$Meals" "kinds" "[I") rfl)
  have w2 := hts _ (List.mem_of_getElem? (l := wsX3_chargeOf) (i := 2) (a := Cond.fieldLink RX3 15 "MealAccounts$Meals" "charges" "[I") rfl)
  refine lv_iload_n hx hb dX3_chargeOf_0 rfl (lv_at hl 1 rfl) ?_
  refine lv_iload_n hx hb dX3_chargeOf_1 rfl (lv_at hl 2 rfl) ?_
  have hP0 : va_P G.1 vwCl (([] : va_W) ++ (zb_M G ad L)) s.heap := hP
  have hD0 : va_D A (([] : va_W) ++ (zb_M G ad L)) := hD
  refine zk_callI (wr := zb_M G ad L) (va_runS (As := [.int (nI c), .int (nI d)]) (rest := []) ⟨hx, hb, hml, hown, hts⟩ (c_X3_place l G c d _) (cwS 2 hts gX3_chargeOf_X3_place rfl rfl rfl (by decide +kernel) ⟨Nat.le_of_ble_eq_true rfl, Nat.le_of_ble_eq_true rfl⟩) (zk_preS hE hA0 hS (zk_Papp hP0).1 (zk_Dapp hD0).1) rfl rfl hl.1 rfl (lv_room (Nat.le_of_ble_eq_true rfl)) dX3_chargeOf_2 ⟨Nat.le_of_ble_eq_true rfl, Nat.le_of_ble_eq_true rfl⟩) hP0 hD0 hS hA (fun r1 u2 H locs q3 hP hD hS => ?_)
  subst q3
  have hP : va_P G.1 vwCl (zb_M G ad L) H := hP
  have hD : va_D A (zb_M G ad L) := hD
  refine lv_istore_n (lv' := [(3, .int (nI (c * 40 + d))), (0, .ref (ad 9)), (1, .int (nI c)), (2, .int (nI d))]) hx hb dX3_chargeOf_5 rfl hl (by decide) rfl (fun ls hl => ?_)
  refine lv_aload_n hx hb dX3_chargeOf_6 rfl (lv_at hl 1 rfl) ?_
  refine va_get (D := G.1) (ci := 2) (v := .ref (ad 10)) (C := RX3) (T := TX3) (N := 3) hx hb hts (fun _ h => List.mem_cons_of_mem _ (List.mem_append_right _ h)) hown hK hP 0 rfl rfl 0 (by decide) w1 (fun _ h9 => h9) rfl dX3_chargeOf_7 ?_
  refine lv_iload_n hx hb dX3_chargeOf_10 rfl (lv_at hl 0 rfl) ?_
  refine zk_ialdN hx hb hK hP 1 0 rfl rfl (k := (c * 40 + d)) (n := 480) (by omega) (by omega) dX3_chargeOf_11 ?_
  refine lv_iconst (v := nI 2) hx hb dX3_chargeOf_12 (by decide) ?_
  refine lv_icmp_ne (tgt := 23) hx hb dX3_chargeOf_13 (by decide) (fun h13_3 => ?_) (fun h13_3 => ?_)
  · refine lv_aload_n hx hb dX3_chargeOf_23 rfl (lv_at hl 1 rfl) ?_
    refine va_get (D := G.1) (ci := 2) (v := .ref (ad 10)) (C := RX3) (T := TX3) (N := 3) hx hb hts (fun _ h => List.mem_cons_of_mem _ (List.mem_append_right _ h)) hown hK hP 0 rfl rfl 0 (by decide) w1 (fun _ h9 => h9) rfl dX3_chargeOf_24 ?_
    refine lv_iload_n hx hb dX3_chargeOf_27 rfl (lv_at hl 0 rfl) ?_
    refine zk_ialdN hx hb hK hP 1 0 rfl rfl (k := (c * 40 + d)) (n := 480) (by omega) (by omega) dX3_chargeOf_28 ?_
    refine lv_iconst (v := nI 3) hx hb dX3_chargeOf_29 (by decide) ?_
    refine lv_icmp_ne (tgt := 37) hx hb dX3_chargeOf_30 (by decide) (fun h30_4 => ?_) (fun h30_4 => ?_)
    · refine lv_iconst (v := -1) hx hb dX3_chargeOf_37 (by decide) ?_
      exact zk_reti () hQ hx hb hr hlocks hS hP hD (Nat.le_of_ble_eq_true rfl) (Nat.le_of_ble_eq_true rfl) dX3_chargeOf_38 (by simp +decide [zk_a0, h13_3, h30_4])
    · refine lv_iconst (v := nI 0) hx hb dX3_chargeOf_33 (by decide) ?_
      refine lv_goto (tgt := 38) hx hb dX3_chargeOf_34 (by decide) ?_
      exact zk_reti () hQ hx hb hr hlocks hS hP hD (Nat.le_of_ble_eq_true rfl) (Nat.le_of_ble_eq_true rfl) dX3_chargeOf_38 (by simp +decide [zk_a0, h13_3, h30_4])
  · refine lv_aload_n hx hb dX3_chargeOf_16 rfl (lv_at hl 1 rfl) ?_
    refine va_get (D := G.1) (ci := 2) (v := .ref (ad 11)) (C := RX3) (T := TX3) (N := 3) hx hb hts (fun _ h => List.mem_cons_of_mem _ (List.mem_append_right _ h)) hown hK hP 0 rfl rfl 1 (by decide) w2 (fun _ h9 => h9) rfl dX3_chargeOf_17 ?_
    refine lv_iload_n hx hb dX3_chargeOf_20 rfl (lv_at hl 0 rfl) ?_
    refine zk_ialdN hx hb hK hP 2 0 rfl rfl (k := (c * 40 + d)) (n := 480) (by omega) (by omega) dX3_chargeOf_21 ?_
    exact zk_reti () hQ hx hb hr hlocks hS hP hD (Nat.le_of_ble_eq_true rfl) (Nat.le_of_ble_eq_true rfl) dX3_chargeOf_22 (by simp +decide [zk_a0, h13_3])

abbrev rmX3_payerOf : Room := { frames := 1, cells := 0, slots := 0, locals := 21 }
set_option maxHeartbeats 4000000 in
set_option maxRecDepth 100000 in
/-- who is charged for a meal -/
theorem c_X3_payerOf (l : Launch) (G : zk_G) (ad : Nat → Nat) (L : Nat → Nat → Int32) (c d : Nat) (hc : c < 12) (hd : d < 40) : zk_I (S := Unit) l yX3_payerOf wsX3_payerOf rmX3_payerOf G [.ref (ad 9), .int (nI c), .int (nI d)] (zb_M G ad L) (fun r _ => r = if L 9 (c * 40 + d) = nI 2 then L 11 (c * 40 + d) else -1) (fun _ => zb_M G ad L) := by
  refine zk_bodyI (cc := cX3_payerOf) (maxL := 4) (ret := (some .int)) (by decide) rfl (Nat.le_of_ble_eq_true rfl) ?_
  intro p E0 s m args below meth cd A ls Q hF hQ
  obtain ⟨hx, hb, hml, hr, hts, hown, hlocks, -, hE, hP, hD, hS, hA, hA0, hl⟩ := hF
  have hK := hE.1
  have hl : lv_has ls 4 [(0, .ref (ad 9)), (1, .int (nI c)), (2, .int (nI d))] := hl
  have w1 := hts _ (List.mem_of_getElem? (l := wsX3_payerOf) (i := 1) (a := Cond.fieldLink RX3 11 "MealAccounts$Meals" "kinds" "[I") rfl)
  have w2 := hts _ (List.mem_of_getElem? (l := wsX3_payerOf) (i := 2) (a := Cond.fieldLink RX3 18 "MealAccounts$Meals" "payers" "[I") rfl)
  refine lv_iload_n hx hb dX3_payerOf_0 rfl (lv_at hl 1 rfl) ?_
  refine lv_iload_n hx hb dX3_payerOf_1 rfl (lv_at hl 2 rfl) ?_
  have hP0 : va_P G.1 vwCl (([] : va_W) ++ (zb_M G ad L)) s.heap := hP
  have hD0 : va_D A (([] : va_W) ++ (zb_M G ad L)) := hD
  refine zk_callI (wr := zb_M G ad L) (va_runS (As := [.int (nI c), .int (nI d)]) (rest := []) ⟨hx, hb, hml, hown, hts⟩ (c_X3_place l G c d _) (cwS 2 hts gX3_payerOf_X3_place rfl rfl rfl (by decide +kernel) ⟨Nat.le_of_ble_eq_true rfl, Nat.le_of_ble_eq_true rfl⟩) (zk_preS hE hA0 hS (zk_Papp hP0).1 (zk_Dapp hD0).1) rfl rfl hl.1 rfl (lv_room (Nat.le_of_ble_eq_true rfl)) dX3_payerOf_2 ⟨Nat.le_of_ble_eq_true rfl, Nat.le_of_ble_eq_true rfl⟩) hP0 hD0 hS hA (fun r1 u2 H locs q3 hP hD hS => ?_)
  subst q3
  have hP : va_P G.1 vwCl (zb_M G ad L) H := hP
  have hD : va_D A (zb_M G ad L) := hD
  refine lv_istore_n (lv' := [(3, .int (nI (c * 40 + d))), (0, .ref (ad 9)), (1, .int (nI c)), (2, .int (nI d))]) hx hb dX3_payerOf_5 rfl hl (by decide) rfl (fun ls hl => ?_)
  refine lv_aload_n hx hb dX3_payerOf_6 rfl (lv_at hl 1 rfl) ?_
  refine va_get (D := G.1) (ci := 2) (v := .ref (ad 10)) (C := RX3) (T := TX3) (N := 3) hx hb hts (fun _ h => List.mem_cons_of_mem _ (List.mem_append_right _ h)) hown hK hP 0 rfl rfl 0 (by decide) w1 (fun _ h9 => h9) rfl dX3_payerOf_7 ?_
  refine lv_iload_n hx hb dX3_payerOf_10 rfl (lv_at hl 0 rfl) ?_
  refine zk_ialdN hx hb hK hP 1 0 rfl rfl (k := (c * 40 + d)) (n := 480) (by omega) (by omega) dX3_payerOf_11 ?_
  refine lv_iconst (v := nI 2) hx hb dX3_payerOf_12 (by decide) ?_
  refine lv_icmp_ne (tgt := 25) hx hb dX3_payerOf_13 (by decide) (fun h13_3 => ?_) (fun h13_3 => ?_)
  · refine lv_iconst (v := -1) hx hb dX3_payerOf_25 (by decide) ?_
    exact zk_reti () hQ hx hb hr hlocks hS hP hD (Nat.le_of_ble_eq_true rfl) (Nat.le_of_ble_eq_true rfl) dX3_payerOf_26 (by simp +decide [zk_a0, h13_3])
  · refine lv_aload_n hx hb dX3_payerOf_16 rfl (lv_at hl 1 rfl) ?_
    refine va_get (D := G.1) (ci := 2) (v := .ref (ad 12)) (C := RX3) (T := TX3) (N := 3) hx hb hts (fun _ h => List.mem_cons_of_mem _ (List.mem_append_right _ h)) hown hK hP 0 rfl rfl 2 (by decide) w2 (fun _ h9 => h9) rfl dX3_payerOf_17 ?_
    refine lv_iload_n hx hb dX3_payerOf_20 rfl (lv_at hl 0 rfl) ?_
    refine zk_ialdN hx hb hK hP 3 0 rfl rfl (k := (c * 40 + d)) (n := 480) (by omega) (by omega) dX3_payerOf_21 ?_
    refine lv_goto (tgt := 26) hx hb dX3_payerOf_22 (by decide) ?_
    exact zk_reti () hQ hx hb hr hlocks hS hP hD (Nat.le_of_ble_eq_true rfl) (Nat.le_of_ble_eq_true rfl) dX3_payerOf_26 (by simp +decide [zk_a0, h13_3])

abbrev rmX3_countAll : Room := { frames := 0, cells := 0, slots := 0, locals := 0 }
set_option maxHeartbeats 4000000 in
set_option maxRecDepth 100000 in
/-- the meals of a kind -/
theorem c_X3_countAll (l : Launch) (G : zk_G) (ad : Nat → Nat) (L : Nat → Nat → Int32) (kd : Int32) : zk_I (S := Unit) l yX3_countAll wsX3_countAll rmX3_countAll G [.ref (ad 9), .int kd] (zb_M G ad L) (fun r _ => r = zs (fun i => if L 9 i = kd then nI 1 else nI 0) 480) (fun _ => zb_M G ad L) := by
  refine zk_bodyI (cc := cX3_countAll) (maxL := 4) (ret := (some .int)) (by decide) rfl (Nat.le_of_ble_eq_true rfl) ?_
  intro p E0 s m args below meth cd A ls Q hF hQ
  obtain ⟨hx, hb, hml, hr, hts, hown, hlocks, -, hE, hP, hD, hS, hA, hA0, hl⟩ := hF
  have hK := hE.1
  have hl : lv_has ls 4 [(0, .ref (ad 9)), (1, .int kd)] := hl
  have w1 := hts _ (List.mem_of_getElem? (l := wsX3_countAll) (i := 1) (a := Cond.fieldLink RX3 11 "MealAccounts$Meals" "kinds" "[I") rfl)
  refine lv_iconst (v := nI 0) hx hb dX3_countAll_0 (by decide) ?_
  refine lv_istore_n (lv' := [(2, .int (nI 0)), (0, .ref (ad 9)), (1, .int kd)]) hx hb dX3_countAll_1 rfl hl (by decide) rfl (fun ls hl => ?_)
  refine lv_iconst (v := nI 0) hx hb dX3_countAll_2 (by decide) ?_
  refine lv_istore_n (lv' := [(3, .int (nI 0)), (2, .int (nI 0)), (0, .ref (ad 9)), (1, .int kd)]) hx hb dX3_countAll_3 rfl hl (by decide) rfl (fun ls hl => ?_)
  have lp1 : ∀ (n3 : Nat) (i : Nat) (x : Int32), 480 - i < n3 → (i ≤ 480) → (x = zs (fun i => if L 9 i = kd then nI 1 else nI 0) i) → ∀ (ls : Array Slot), lv_has ls 4 [(3, .int (nI i)), (2, .int x), (0, .ref (ad 9)), (1, .int kd)] → W p l E0 rmX3_countAll s m args below meth cd s.heap [] 0 0 Q (F0 m 4 ls []) := by
    intro n3
    induction n3 with
    | zero => intro i x hz; exact absurd hz (Nat.not_lt_zero _)
    | succ n3 ih2 =>
      intro i x hm hi hq ls hl
      refine lv_iload_n hx hb dX3_countAll_4 rfl (lv_at hl 0 rfl) ?_
      refine lv_sipush (v := nI 480) hx hb dX3_countAll_5 (by decide) ?_
      refine lv_icmp_ge (tgt := 30) hx hb dX3_countAll_8 (by decide) (fun h8_3 => ?_) (fun h8_3 => ?_)
      · have h8_3 := zk_le (by omega) (by omega) h8_3
        refine lv_iload_n hx hb dX3_countAll_30 rfl (lv_at hl 1 rfl) ?_
        exact zk_reti () hQ hx hb hr hlocks hS hP hD (Nat.le_of_ble_eq_true rfl) (Nat.le_of_ble_eq_true rfl) dX3_countAll_31 (by rw [hq, show i = 480 by omega])
      · have h8_3 := zk_nle (by omega) (by omega) h8_3
        refine lv_aload_n hx hb dX3_countAll_11 rfl (lv_at hl 2 rfl) ?_
        refine va_get (D := G.1) (ci := 2) (v := .ref (ad 10)) (C := RX3) (T := TX3) (N := 3) hx hb hts (fun _ h => List.mem_cons_of_mem _ (List.mem_append_right _ h)) hown hK hP 0 rfl rfl 0 (by decide) w1 (fun _ h9 => h9) rfl dX3_countAll_12 ?_
        refine lv_iload_n hx hb dX3_countAll_15 rfl (lv_at hl 0 rfl) ?_
        refine zk_ialdN hx hb hK hP 1 0 rfl rfl (k := i) (n := 480) (by omega) (by omega) dX3_countAll_16 ?_
        refine lv_iload_n hx hb dX3_countAll_17 rfl (lv_at hl 3 rfl) ?_
        refine lv_icmp_ne (tgt := 24) hx hb dX3_countAll_18 (by decide) (fun h18_4 => ?_) (fun h18_4 => ?_)
        · refine lv_iinc (v := nI (i + 1)) (lv' := [(3, .int (nI (i + 1))), (2, .int x), (0, .ref (ad 9)), (1, .int kd)]) hx hb dX3_countAll_24 hl (k := 0) rfl (zk_inc i 1) (by decide) rfl (fun ls hl => ?_)
          refine lv_goto (tgt := 4) hx hb dX3_countAll_27 (by decide) ?_
          exact ih2 (i + 1) x (by omega) (by omega) (by refine zs_i hq ?_; simp +decide [zk_a0, h8_3, h18_4]) ls (lv_sub hl [0, 1, 2, 3] rfl)
        · obtain ⟨x6, ex6⟩ : ∃ z : Int32, z = x + nI 1 := ⟨_, rfl⟩
          refine lv_iinc (v := x6) (lv' := [(2, .int x6), (3, .int (nI i)), (0, .ref (ad 9)), (1, .int kd)]) hx hb dX3_countAll_21 hl (k := 1) rfl (by rw [ex6]; rfl) (by decide) rfl (fun ls hl => ?_)
          refine lv_iinc (v := nI (i + 1)) (lv' := [(3, .int (nI (i + 1))), (2, .int x6), (0, .ref (ad 9)), (1, .int kd)]) hx hb dX3_countAll_24 hl (k := 1) rfl (zk_inc i 1) (by decide) rfl (fun ls hl => ?_)
          refine lv_goto (tgt := 4) hx hb dX3_countAll_27 (by decide) ?_
          exact ih2 (i + 1) x6 (by omega) (by omega) (by refine zs_i hq ?_; simp +decide [zk_a0, h8_3, h18_4, ex6]) ls (lv_sub hl [0, 1, 2, 3] rfl)
  exact lp1 _ 0 (nI 0) (Nat.lt_succ_self _) (by omega) (rfl) ls (lv_sub hl [0, 1, 2, 3] rfl)

abbrev rmX3_countServed : Room := { frames := 1, cells := 0, slots := 0, locals := 23 }
set_option maxHeartbeats 4000000 in
set_option maxRecDepth 100000 in
/-- the meals that were served -/
theorem c_X3_countServed (l : Launch) (G : zk_G) (ad : Nat → Nat) (L : Nat → Nat → Int32) : zk_I (S := Unit) l yX3_countServed wsX3_countServed rmX3_countServed G [.ref (ad 9)] (zb_M G ad L) (fun r _ => r = zs (fun i => if L 9 i = (nI 2) then nI 1 else nI 0) 480 + zs (fun i => if L 9 i = (nI 3) then nI 1 else nI 0) 480) (fun _ => zb_M G ad L) := by
  refine zk_bodyI (cc := cX3_countServed) (maxL := 1) (ret := (some .int)) (by decide) rfl (Nat.le_of_ble_eq_true rfl) ?_
  intro p E0 s m args below meth cd A ls Q hF hQ
  obtain ⟨hx, hb, hml, hr, hts, hown, hlocks, -, hE, hP, hD, hS, hA, hA0, hl⟩ := hF
  have hK := hE.1
  have hl : lv_has ls 1 [(0, .ref (ad 9))] := hl
  refine lv_aload_n hx hb dX3_countServed_0 rfl (lv_at hl 0 rfl) ?_
  refine lv_iconst (v := nI 2) hx hb dX3_countServed_1 (by decide) ?_
  have hP0 : va_P G.1 vwCl (zb_M G ad L ++ ([] : va_W)) s.heap := by rw [List.append_nil]; exact hP
  have hD0 : va_D A (zb_M G ad L ++ ([] : va_W)) := by rw [List.append_nil]; exact hD
  refine zk_callI (wr := ([] : va_W)) (va_runV (As := [.int (nI 2)]) (rest := []) ⟨hx, hb, hml, hown, hts⟩ (c_X3_countAll l G ad L (nI 2) _) (cwV 1 hts gX3_countServed_X3_countAll rfl rfl rfl (by decide +kernel) ⟨Nat.le_of_ble_eq_true rfl, Nat.le_of_ble_eq_true rfl⟩) (zk_preV hE hA0 hS (zk_Papp hP0).1 (zk_Dapp hD0).1 (va_recv hK hP (ci := 2) (q0 := 0) rfl rfl)) rfl rfl hl.1 rfl (lv_room (Nat.le_of_ble_eq_true rfl)) dX3_countServed_2 ⟨Nat.le_of_ble_eq_true rfl, Nat.le_of_ble_eq_true rfl⟩) hP0 hD0 hS hA (fun r1 u2 H locs q3 hP hD hS => ?_)
  subst q3
  rw [List.append_nil] at hP hD
  have hP : va_P G.1 vwCl (zb_M G ad L) H := hP
  have hD : va_D A (zb_M G ad L) := hD
  refine lv_aload_n hx hb dX3_countServed_5 rfl (lv_at hl 0 rfl) ?_
  refine lv_iconst (v := nI 3) hx hb dX3_countServed_6 (by decide) ?_
  have hP0 : va_P G.1 vwCl (zb_M G ad L ++ ([] : va_W)) H := by rw [List.append_nil]; exact hP
  have hD0 : va_D A (zb_M G ad L ++ ([] : va_W)) := by rw [List.append_nil]; exact hD
  refine zk_callI (wr := ([] : va_W)) (va_runV (As := [.int (nI 3)]) (rest := [.int (zs (fun i => if L 9 i = (nI 2) then nI 1 else nI 0) 480)]) ⟨hx, hb, hml, hown, hts⟩ (c_X3_countAll l G ad L (nI 3) _) (cwV 1 hts gX3_countServed_X3_countAll rfl rfl rfl (by decide +kernel) ⟨Nat.le_of_ble_eq_true rfl, Nat.le_of_ble_eq_true rfl⟩) (zk_preV hE hA0 hS (zk_Papp hP0).1 (zk_Dapp hD0).1 (va_recv hK hP (ci := 2) (q0 := 0) rfl rfl)) rfl rfl hl.1 rfl (lv_room (Nat.le_of_ble_eq_true rfl)) dX3_countServed_7 ⟨Nat.le_of_ble_eq_true rfl, Nat.le_of_ble_eq_true rfl⟩) hP0 hD0 hS hA (fun r4 u5 H locs q6 hP hD hS => ?_)
  subst q6
  rw [List.append_nil] at hP hD
  have hP : va_P G.1 vwCl (zb_M G ad L) H := hP
  have hD : va_D A (zb_M G ad L) := hD
  refine lv_iadd hx hb dX3_countServed_10 ?_
  exact zk_reti () hQ hx hb hr hlocks hS hP hD (Nat.le_of_ble_eq_true rfl) (Nat.le_of_ble_eq_true rfl) dX3_countServed_11 (rfl)

abbrev rmX3_countOn : Room := { frames := 2, cells := 0, slots := 0, locals := 43 }
set_option maxHeartbeats 4000000 in
set_option maxRecDepth 100000 in
/-- the meals of a kind on a day -/
theorem c_X3_countOn (l : Launch) (G : zk_G) (ad : Nat → Nat) (L : Nat → Nat → Int32) (d : Nat) (kd : Int32) (hd : d < 40) : zk_I (S := Unit) l yX3_countOn wsX3_countOn rmX3_countOn G [.ref (ad 9), .int (nI d), .int kd] (zb_M G ad L) (fun r _ => r = zs (fun i => if L 9 (i * 40 + d) = kd then nI 1 else nI 0) 12) (fun _ => zb_M G ad L) := by
  refine zk_bodyI (cc := cX3_countOn) (maxL := 5) (ret := (some .int)) (by decide) rfl (Nat.le_of_ble_eq_true rfl) ?_
  intro p E0 s m args below meth cd A ls Q hF hQ
  obtain ⟨hx, hb, hml, hr, hts, hown, hlocks, -, hE, hP, hD, hS, hA, hA0, hl⟩ := hF
  have hK := hE.1
  have hl : lv_has ls 5 [(0, .ref (ad 9)), (1, .int (nI d)), (2, .int kd)] := hl
  refine lv_iconst (v := nI 0) hx hb dX3_countOn_0 (by decide) ?_
  refine lv_istore_n (lv' := [(3, .int (nI 0)), (0, .ref (ad 9)), (1, .int (nI d)), (2, .int kd)]) hx hb dX3_countOn_1 rfl hl (by decide) rfl (fun ls hl => ?_)
  refine lv_iconst (v := nI 0) hx hb dX3_countOn_2 (by decide) ?_
  refine lv_istore (lv' := [(4, .int (nI 0)), (3, .int (nI 0)), (0, .ref (ad 9)), (1, .int (nI d)), (2, .int kd)]) hx hb dX3_countOn_3 hl (by decide) rfl (fun ls hl => ?_)
  have lp1 : ∀ (n3 : Nat) (i : Nat) (x : Int32), 12 - i < n3 → (i ≤ 12) → (x = zs (fun i => if L 9 (i * 40 + d) = kd then nI 1 else nI 0) i) → ∀ (H : Heap) (locs : List Loc) (hP : va_P G.1 vwCl (zb_M G ad L) H) (hD : va_D A (zb_M G ad L)) (hS : va_S A s.heap H locs) (ls : Array Slot), lv_has ls 5 [(4, .int (nI i)), (3, .int x), (0, .ref (ad 9)), (1, .int (nI d)), (2, .int kd)] → W p l E0 rmX3_countOn s m args below meth cd H locs 0 0 Q (F0 m 5 ls []) := by
    intro n3
    induction n3 with
    | zero => intro i x hz; exact absurd hz (Nat.not_lt_zero _)
    | succ n3 ih2 =>
      intro i x hm hi hq H locs hP hD hS ls hl
      refine lv_iload hx hb dX3_countOn_5 (lv_at hl 0 rfl) ?_
      refine lv_bipush (v := nI 12) hx hb dX3_countOn_7 (by decide) ?_
      refine lv_icmp_ge (tgt := 32) hx hb dX3_countOn_9 (by decide) (fun h9_3 => ?_) (fun h9_3 => ?_)
      · have h9_3 := zk_le (by omega) (by omega) h9_3
        refine lv_iload_n hx hb dX3_countOn_32 rfl (lv_at hl 1 rfl) ?_
        exact zk_reti () hQ hx hb hr hlocks hS hP hD (Nat.le_of_ble_eq_true rfl) (Nat.le_of_ble_eq_true rfl) dX3_countOn_33 (by rw [hq, show i = 12 by omega])
      · have h9_3 := zk_nle (by omega) (by omega) h9_3
        refine lv_aload_n hx hb dX3_countOn_12 rfl (lv_at hl 2 rfl) ?_
        refine lv_iload hx hb dX3_countOn_13 (lv_at hl 0 rfl) ?_
        refine lv_iload_n hx hb dX3_countOn_15 rfl (lv_at hl 3 rfl) ?_
        have hP0 : va_P G.1 vwCl (zb_M G ad L ++ ([] : va_W)) H := by rw [List.append_nil]; exact hP
        have hD0 : va_D A (zb_M G ad L ++ ([] : va_W)) := by rw [List.append_nil]; exact hD
        refine zk_callI (wr := ([] : va_W)) (va_runV (As := [.int (nI i), .int (nI d)]) (rest := []) ⟨hx, hb, hml, hown, hts⟩ (c_X3_kindOf l G ad L i d (by omega) (by omega) _) (cwV 2 hts gX3_countOn_X3_kindOf rfl rfl rfl (by decide +kernel) ⟨Nat.le_of_ble_eq_true rfl, Nat.le_of_ble_eq_true rfl⟩) (zk_preV hE hA0 hS (zk_Papp hP0).1 (zk_Dapp hD0).1 (va_recv hK hP (ci := 2) (q0 := 0) rfl rfl)) rfl rfl hl.1 rfl (lv_room (Nat.le_of_ble_eq_true rfl)) dX3_countOn_16 ⟨Nat.le_of_ble_eq_true rfl, Nat.le_of_ble_eq_true rfl⟩) hP0 hD0 hS hA (fun r5 u6 H locs q7 hP hD hS => ?_)
        subst q7
        rw [List.append_nil] at hP hD
        have hP : va_P G.1 vwCl (zb_M G ad L) H := hP
        have hD : va_D A (zb_M G ad L) := hD
        refine lv_iload_n hx hb dX3_countOn_19 rfl (lv_at hl 4 rfl) ?_
        refine lv_icmp_ne (tgt := 26) hx hb dX3_countOn_20 (by decide) (fun h20_7 => ?_) (fun h20_7 => ?_)
        · refine lv_iinc (v := nI (i + 1)) (lv' := [(4, .int (nI (i + 1))), (3, .int x), (0, .ref (ad 9)), (1, .int (nI d)), (2, .int kd)]) hx hb dX3_countOn_26 hl (k := 0) rfl (zk_inc i 1) (by decide) rfl (fun ls hl => ?_)
          refine lv_goto (tgt := 5) hx hb dX3_countOn_29 (by decide) ?_
          exact ih2 (i + 1) x (by omega) (by omega) (by refine zs_i hq ?_; simp +decide [zk_a0, h9_3, h20_7]) _ _ hP hD hS ls (lv_sub hl [0, 1, 2, 3, 4] rfl)
        · obtain ⟨x9, ex9⟩ : ∃ z : Int32, z = x + nI 1 := ⟨_, rfl⟩
          refine lv_iinc (v := x9) (lv' := [(3, .int x9), (4, .int (nI i)), (0, .ref (ad 9)), (1, .int (nI d)), (2, .int kd)]) hx hb dX3_countOn_23 hl (k := 1) rfl (by rw [ex9]; rfl) (by decide) rfl (fun ls hl => ?_)
          refine lv_iinc (v := nI (i + 1)) (lv' := [(4, .int (nI (i + 1))), (3, .int x9), (0, .ref (ad 9)), (1, .int (nI d)), (2, .int kd)]) hx hb dX3_countOn_26 hl (k := 1) rfl (zk_inc i 1) (by decide) rfl (fun ls hl => ?_)
          refine lv_goto (tgt := 5) hx hb dX3_countOn_29 (by decide) ?_
          exact ih2 (i + 1) x9 (by omega) (by omega) (by refine zs_i hq ?_; simp +decide [zk_a0, h9_3, h20_7, ex9]) _ _ hP hD hS ls (lv_sub hl [0, 1, 2, 3, 4] rfl)
  exact lp1 _ 0 (nI 0) (Nat.lt_succ_self _) (by omega) (rfl) _ _ hP hD hS ls (lv_sub hl [0, 1, 2, 3, 4] rfl)

abbrev rmX3_countOrderedOn : Room := { frames := 3, cells := 0, slots := 0, locals := 67 }
set_option maxHeartbeats 4000000 in
set_option maxRecDepth 100000 in
/-- the meals that are or were ordered for a day -/
theorem c_X3_countOrderedOn (l : Launch) (G : zk_G) (ad : Nat → Nat) (L : Nat → Nat → Int32) (d : Nat) (hd : d < 40) : zk_I (S := Unit) l yX3_countOrderedOn wsX3_countOrderedOn rmX3_countOrderedOn G [.ref (ad 9), .int (nI d)] (zb_M G ad L) (fun r _ => r = nI 12 - zs (fun i => if L 9 (i * 40 + d) = (nI 0) then nI 1 else nI 0) 12) (fun _ => zb_M G ad L) := by
  refine zk_bodyI (cc := cX3_countOrderedOn) (maxL := 2) (ret := (some .int)) (by decide) rfl (Nat.le_of_ble_eq_true rfl) ?_
  intro p E0 s m args below meth cd A ls Q hF hQ
  obtain ⟨hx, hb, hml, hr, hts, hown, hlocks, -, hE, hP, hD, hS, hA, hA0, hl⟩ := hF
  have hK := hE.1
  have hl : lv_has ls 2 [(0, .ref (ad 9)), (1, .int (nI d))] := hl
  refine lv_bipush (v := nI 12) hx hb dX3_countOrderedOn_0 (by decide) ?_
  refine lv_aload_n hx hb dX3_countOrderedOn_2 rfl (lv_at hl 0 rfl) ?_
  refine lv_iload_n hx hb dX3_countOrderedOn_3 rfl (lv_at hl 1 rfl) ?_
  refine lv_iconst (v := nI 0) hx hb dX3_countOrderedOn_4 (by decide) ?_
  have hP0 : va_P G.1 vwCl (zb_M G ad L ++ ([] : va_W)) s.heap := by rw [List.append_nil]; exact hP
  have hD0 : va_D A (zb_M G ad L ++ ([] : va_W)) := by rw [List.append_nil]; exact hD
  refine zk_callI (wr := ([] : va_W)) (va_runV (As := [.int (nI d), .int (nI 0)]) (rest := [.int (nI 12)]) ⟨hx, hb, hml, hown, hts⟩ (c_X3_countOn l G ad L d (nI 0) (by omega) _) (cwV 2 hts gX3_countOrderedOn_X3_countOn rfl rfl rfl (by decide +kernel) ⟨Nat.le_of_ble_eq_true rfl, Nat.le_of_ble_eq_true rfl⟩) (zk_preV hE hA0 hS (zk_Papp hP0).1 (zk_Dapp hD0).1 (va_recv hK hP (ci := 2) (q0 := 0) rfl rfl)) rfl rfl hl.1 rfl (lv_room (Nat.le_of_ble_eq_true rfl)) dX3_countOrderedOn_5 ⟨Nat.le_of_ble_eq_true rfl, Nat.le_of_ble_eq_true rfl⟩) hP0 hD0 hS hA (fun r1 u2 H locs q3 hP hD hS => ?_)
  subst q3
  rw [List.append_nil] at hP hD
  have hP : va_P G.1 vwCl (zb_M G ad L) H := hP
  have hD : va_D A (zb_M G ad L) := hD
  refine lv_isub hx hb dX3_countOrderedOn_8 ?_
  exact zk_reti () hQ hx hb hr hlocks hS hP hD (Nat.le_of_ble_eq_true rfl) (Nat.le_of_ble_eq_true rfl) dX3_countOrderedOn_9 (rfl)

abbrev rmX3_countOf : Room := { frames := 2, cells := 0, slots := 0, locals := 43 }
set_option maxHeartbeats 4000000 in
set_option maxRecDepth 100000 in
/-- the meals of a kind of a child -/
theorem c_X3_countOf (l : Launch) (G : zk_G) (ad : Nat → Nat) (L : Nat → Nat → Int32) (c : Nat) (kd : Int32) (hc : c < 12) : zk_I (S := Unit) l yX3_countOf wsX3_countOf rmX3_countOf G [.ref (ad 9), .int (nI c), .int kd] (zb_M G ad L) (fun r _ => r = zs (fun i => if L 9 (c * 40 + i) = kd then nI 1 else nI 0) 40) (fun _ => zb_M G ad L) := by
  refine zk_bodyI (cc := cX3_countOf) (maxL := 5) (ret := (some .int)) (by decide) rfl (Nat.le_of_ble_eq_true rfl) ?_
  intro p E0 s m args below meth cd A ls Q hF hQ
  obtain ⟨hx, hb, hml, hr, hts, hown, hlocks, -, hE, hP, hD, hS, hA, hA0, hl⟩ := hF
  have hK := hE.1
  have hl : lv_has ls 5 [(0, .ref (ad 9)), (1, .int (nI c)), (2, .int kd)] := hl
  refine lv_iconst (v := nI 0) hx hb dX3_countOf_0 (by decide) ?_
  refine lv_istore_n (lv' := [(3, .int (nI 0)), (0, .ref (ad 9)), (1, .int (nI c)), (2, .int kd)]) hx hb dX3_countOf_1 rfl hl (by decide) rfl (fun ls hl => ?_)
  refine lv_iconst (v := nI 0) hx hb dX3_countOf_2 (by decide) ?_
  refine lv_istore (lv' := [(4, .int (nI 0)), (3, .int (nI 0)), (0, .ref (ad 9)), (1, .int (nI c)), (2, .int kd)]) hx hb dX3_countOf_3 hl (by decide) rfl (fun ls hl => ?_)
  have lp1 : ∀ (n3 : Nat) (i : Nat) (x : Int32), 40 - i < n3 → (i ≤ 40) → (x = zs (fun i => if L 9 (c * 40 + i) = kd then nI 1 else nI 0) i) → ∀ (H : Heap) (locs : List Loc) (hP : va_P G.1 vwCl (zb_M G ad L) H) (hD : va_D A (zb_M G ad L)) (hS : va_S A s.heap H locs) (ls : Array Slot), lv_has ls 5 [(4, .int (nI i)), (3, .int x), (0, .ref (ad 9)), (1, .int (nI c)), (2, .int kd)] → W p l E0 rmX3_countOf s m args below meth cd H locs 0 0 Q (F0 m 5 ls []) := by
    intro n3
    induction n3 with
    | zero => intro i x hz; exact absurd hz (Nat.not_lt_zero _)
    | succ n3 ih2 =>
      intro i x hm hi hq H locs hP hD hS ls hl
      refine lv_iload hx hb dX3_countOf_5 (lv_at hl 0 rfl) ?_
      refine lv_bipush (v := nI 40) hx hb dX3_countOf_7 (by decide) ?_
      refine lv_icmp_ge (tgt := 32) hx hb dX3_countOf_9 (by decide) (fun h9_3 => ?_) (fun h9_3 => ?_)
      · have h9_3 := zk_le (by omega) (by omega) h9_3
        refine lv_iload_n hx hb dX3_countOf_32 rfl (lv_at hl 1 rfl) ?_
        exact zk_reti () hQ hx hb hr hlocks hS hP hD (Nat.le_of_ble_eq_true rfl) (Nat.le_of_ble_eq_true rfl) dX3_countOf_33 (by rw [hq, show i = 40 by omega])
      · have h9_3 := zk_nle (by omega) (by omega) h9_3
        refine lv_aload_n hx hb dX3_countOf_12 rfl (lv_at hl 2 rfl) ?_
        refine lv_iload_n hx hb dX3_countOf_13 rfl (lv_at hl 3 rfl) ?_
        refine lv_iload hx hb dX3_countOf_14 (lv_at hl 0 rfl) ?_
        have hP0 : va_P G.1 vwCl (zb_M G ad L ++ ([] : va_W)) H := by rw [List.append_nil]; exact hP
        have hD0 : va_D A (zb_M G ad L ++ ([] : va_W)) := by rw [List.append_nil]; exact hD
        refine zk_callI (wr := ([] : va_W)) (va_runV (As := [.int (nI c), .int (nI i)]) (rest := []) ⟨hx, hb, hml, hown, hts⟩ (c_X3_kindOf l G ad L c i (by omega) (by omega) _) (cwV 2 hts gX3_countOf_X3_kindOf rfl rfl rfl (by decide +kernel) ⟨Nat.le_of_ble_eq_true rfl, Nat.le_of_ble_eq_true rfl⟩) (zk_preV hE hA0 hS (zk_Papp hP0).1 (zk_Dapp hD0).1 (va_recv hK hP (ci := 2) (q0 := 0) rfl rfl)) rfl rfl hl.1 rfl (lv_room (Nat.le_of_ble_eq_true rfl)) dX3_countOf_16 ⟨Nat.le_of_ble_eq_true rfl, Nat.le_of_ble_eq_true rfl⟩) hP0 hD0 hS hA (fun r5 u6 H locs q7 hP hD hS => ?_)
        subst q7
        rw [List.append_nil] at hP hD
        have hP : va_P G.1 vwCl (zb_M G ad L) H := hP
        have hD : va_D A (zb_M G ad L) := hD
        refine lv_iload_n hx hb dX3_countOf_19 rfl (lv_at hl 4 rfl) ?_
        refine lv_icmp_ne (tgt := 26) hx hb dX3_countOf_20 (by decide) (fun h20_7 => ?_) (fun h20_7 => ?_)
        · refine lv_iinc (v := nI (i + 1)) (lv' := [(4, .int (nI (i + 1))), (3, .int x), (0, .ref (ad 9)), (1, .int (nI c)), (2, .int kd)]) hx hb dX3_countOf_26 hl (k := 0) rfl (zk_inc i 1) (by decide) rfl (fun ls hl => ?_)
          refine lv_goto (tgt := 5) hx hb dX3_countOf_29 (by decide) ?_
          exact ih2 (i + 1) x (by omega) (by omega) (by refine zs_i hq ?_; simp +decide [zk_a0, h9_3, h20_7]) _ _ hP hD hS ls (lv_sub hl [0, 1, 2, 3, 4] rfl)
        · obtain ⟨x9, ex9⟩ : ∃ z : Int32, z = x + nI 1 := ⟨_, rfl⟩
          refine lv_iinc (v := x9) (lv' := [(3, .int x9), (4, .int (nI i)), (0, .ref (ad 9)), (1, .int (nI c)), (2, .int kd)]) hx hb dX3_countOf_23 hl (k := 1) rfl (by rw [ex9]; rfl) (by decide) rfl (fun ls hl => ?_)
          refine lv_iinc (v := nI (i + 1)) (lv' := [(4, .int (nI (i + 1))), (3, .int x9), (0, .ref (ad 9)), (1, .int (nI c)), (2, .int kd)]) hx hb dX3_countOf_26 hl (k := 1) rfl (zk_inc i 1) (by decide) rfl (fun ls hl => ?_)
          refine lv_goto (tgt := 5) hx hb dX3_countOf_29 (by decide) ?_
          exact ih2 (i + 1) x9 (by omega) (by omega) (by refine zs_i hq ?_; simp +decide [zk_a0, h9_3, h20_7, ex9]) _ _ hP hD hS ls (lv_sub hl [0, 1, 2, 3, 4] rfl)
  exact lp1 _ 0 (nI 0) (Nat.lt_succ_self _) (by omega) (rfl) _ _ hP hD hS ls (lv_sub hl [0, 1, 2, 3, 4] rfl)

abbrev rmX3_countChargedToSiblings : Room := { frames := 2, cells := 0, slots := 0, locals := 44 }
set_option maxHeartbeats 4000000 in
set_option maxRecDepth 100000 in
/-- the meals of a child that siblings pay -/
theorem c_X3_countChargedToSiblings (l : Launch) (G : zk_G) (ad : Nat → Nat) (L : Nat → Nat → Int32) (c : Nat) (hc : c < 12) : zk_I (S := Unit) l yX3_countChargedToSiblings wsX3_countChargedToSiblings rmX3_countChargedToSiblings G [.ref (ad 9), .int (nI c)] (zb_M G ad L) (fun r _ => r = zs (fun i => if L 9 (c * 40 + i) = nI 2 ∧ ¬ L 11 (c * 40 + i) = nI c then nI 1 else nI 0) 40) (fun _ => zb_M G ad L) := by
  refine zk_bodyI (cc := cX3_countChargedToSiblings) (maxL := 4) (ret := (some .int)) (by decide) rfl (Nat.le_of_ble_eq_true rfl) ?_
  intro p E0 s m args below meth cd A ls Q hF hQ
  obtain ⟨hx, hb, hml, hr, hts, hown, hlocks, -, hE, hP, hD, hS, hA, hA0, hl⟩ := hF
  have hK := hE.1
  have hl : lv_has ls 4 [(0, .ref (ad 9)), (1, .int (nI c))] := hl
  refine lv_iconst (v := nI 0) hx hb dX3_countChargedToSiblings_0 (by decide) ?_
  refine lv_istore_n (lv' := [(2, .int (nI 0)), (0, .ref (ad 9)), (1, .int (nI c))]) hx hb dX3_countChargedToSiblings_1 rfl hl (by decide) rfl (fun ls hl => ?_)
  refine lv_iconst (v := nI 0) hx hb dX3_countChargedToSiblings_2 (by decide) ?_
  refine lv_istore_n (lv' := [(3, .int (nI 0)), (2, .int (nI 0)), (0, .ref (ad 9)), (1, .int (nI c))]) hx hb dX3_countChargedToSiblings_3 rfl hl (by decide) rfl (fun ls hl => ?_)
  have lp1 : ∀ (n3 : Nat) (i : Nat) (x : Int32), 40 - i < n3 → (i ≤ 40) → (x = zs (fun i => if L 9 (c * 40 + i) = nI 2 ∧ ¬ L 11 (c * 40 + i) = nI c then nI 1 else nI 0) i) → ∀ (H : Heap) (locs : List Loc) (hP : va_P G.1 vwCl (zb_M G ad L) H) (hD : va_D A (zb_M G ad L)) (hS : va_S A s.heap H locs) (ls : Array Slot), lv_has ls 4 [(3, .int (nI i)), (2, .int x), (0, .ref (ad 9)), (1, .int (nI c))] → W p l E0 rmX3_countChargedToSiblings s m args below meth cd H locs 0 0 Q (F0 m 4 ls []) := by
    intro n3
    induction n3 with
    | zero => intro i x hz; exact absurd hz (Nat.not_lt_zero _)
    | succ n3 ih2 =>
      intro i x hm hi hq H locs hP hD hS ls hl
      refine lv_iload_n hx hb dX3_countChargedToSiblings_4 rfl (lv_at hl 0 rfl) ?_
      refine lv_bipush (v := nI 40) hx hb dX3_countChargedToSiblings_5 (by decide) ?_
      refine lv_icmp_ge (tgt := 39) hx hb dX3_countChargedToSiblings_7 (by decide) (fun h7_3 => ?_) (fun h7_3 => ?_)
      · have h7_3 := zk_le (by omega) (by omega) h7_3
        refine lv_iload_n hx hb dX3_countChargedToSiblings_39 rfl (lv_at hl 1 rfl) ?_
        exact zk_reti () hQ hx hb hr hlocks hS hP hD (Nat.le_of_ble_eq_true rfl) (Nat.le_of_ble_eq_true rfl) dX3_countChargedToSiblings_40 (by rw [hq, show i = 40 by omega])
      · have h7_3 := zk_nle (by omega) (by omega) h7_3
        refine lv_aload_n hx hb dX3_countChargedToSiblings_10 rfl (lv_at hl 2 rfl) ?_
        refine lv_iload_n hx hb dX3_countChargedToSiblings_11 rfl (lv_at hl 3 rfl) ?_
        refine lv_iload_n hx hb dX3_countChargedToSiblings_12 rfl (lv_at hl 0 rfl) ?_
        have hP0 : va_P G.1 vwCl (zb_M G ad L ++ ([] : va_W)) H := by rw [List.append_nil]; exact hP
        have hD0 : va_D A (zb_M G ad L ++ ([] : va_W)) := by rw [List.append_nil]; exact hD
        refine zk_callI (wr := ([] : va_W)) (va_runV (As := [.int (nI c), .int (nI i)]) (rest := []) ⟨hx, hb, hml, hown, hts⟩ (c_X3_kindOf l G ad L c i (by omega) (by omega) _) (cwV 2 hts gX3_countChargedToSiblings_X3_kindOf rfl rfl rfl (by decide +kernel) ⟨Nat.le_of_ble_eq_true rfl, Nat.le_of_ble_eq_true rfl⟩) (zk_preV hE hA0 hS (zk_Papp hP0).1 (zk_Dapp hD0).1 (va_recv hK hP (ci := 2) (q0 := 0) rfl rfl)) rfl rfl hl.1 rfl (lv_room (Nat.le_of_ble_eq_true rfl)) dX3_countChargedToSiblings_13 ⟨Nat.le_of_ble_eq_true rfl, Nat.le_of_ble_eq_true rfl⟩) hP0 hD0 hS hA (fun r5 u6 H locs q7 hP hD hS => ?_)
        subst q7
        rw [List.append_nil] at hP hD
        have hP : va_P G.1 vwCl (zb_M G ad L) H := hP
        have hD : va_D A (zb_M G ad L) := hD
        refine lv_iconst (v := nI 2) hx hb dX3_countChargedToSiblings_16 (by decide) ?_
        refine lv_icmp_ne (tgt := 33) hx hb dX3_countChargedToSiblings_17 (by decide) (fun h17_7 => ?_) (fun h17_7 => ?_)
        · refine lv_iinc (v := nI (i + 1)) (lv' := [(3, .int (nI (i + 1))), (2, .int x), (0, .ref (ad 9)), (1, .int (nI c))]) hx hb dX3_countChargedToSiblings_33 hl (k := 0) rfl (zk_inc i 1) (by decide) rfl (fun ls hl => ?_)
          refine lv_goto (tgt := 4) hx hb dX3_countChargedToSiblings_36 (by decide) ?_
          exact ih2 (i + 1) x (by omega) (by omega) (by refine zs_i hq ?_; simp +decide [zk_a0, h7_3, h17_7]) _ _ hP hD hS ls (lv_sub hl [0, 1, 2, 3] rfl)
        · refine lv_aload_n hx hb dX3_countChargedToSiblings_20 rfl (lv_at hl 2 rfl) ?_
          refine lv_iload_n hx hb dX3_countChargedToSiblings_21 rfl (lv_at hl 3 rfl) ?_
          refine lv_iload_n hx hb dX3_countChargedToSiblings_22 rfl (lv_at hl 0 rfl) ?_
          have hP0 : va_P G.1 vwCl (zb_M G ad L ++ ([] : va_W)) H := by rw [List.append_nil]; exact hP
          have hD0 : va_D A (zb_M G ad L ++ ([] : va_W)) := by rw [List.append_nil]; exact hD
          refine zk_callI (wr := ([] : va_W)) (va_runV (As := [.int (nI c), .int (nI i)]) (rest := []) ⟨hx, hb, hml, hown, hts⟩ (c_X3_payerOf l G ad L c i (by omega) (by omega) _) (cwV 2 hts gX3_countChargedToSiblings_X3_payerOf rfl rfl rfl (by decide +kernel) ⟨Nat.le_of_ble_eq_true rfl, Nat.le_of_ble_eq_true rfl⟩) (zk_preV hE hA0 hS (zk_Papp hP0).1 (zk_Dapp hD0).1 (va_recv hK hP (ci := 2) (q0 := 0) rfl rfl)) rfl rfl hl.1 rfl (lv_room (Nat.le_of_ble_eq_true rfl)) dX3_countChargedToSiblings_23 ⟨Nat.le_of_ble_eq_true rfl, Nat.le_of_ble_eq_true rfl⟩) hP0 hD0 hS hA (fun r9 u10 H locs q11 hP hD hS => ?_)
          subst q11
          rw [List.append_nil] at hP hD
          have hP : va_P G.1 vwCl (zb_M G ad L) H := hP
          have hD : va_D A (zb_M G ad L) := hD
          refine lv_iload_n hx hb dX3_countChargedToSiblings_26 rfl (lv_at hl 3 rfl) ?_
          refine lv_icmp_eq (tgt := 33) hx hb dX3_countChargedToSiblings_27 (by decide) (fun h27_11 => ?_) (fun h27_11 => ?_)
          · refine lv_iinc (v := nI (i + 1)) (lv' := [(3, .int (nI (i + 1))), (2, .int x), (0, .ref (ad 9)), (1, .int (nI c))]) hx hb dX3_countChargedToSiblings_33 hl (k := 0) rfl (zk_inc i 1) (by decide) rfl (fun ls hl => ?_)
            refine lv_goto (tgt := 4) hx hb dX3_countChargedToSiblings_36 (by decide) ?_
            exact ih2 (i + 1) x (by omega) (by omega) (by refine zs_i hq ?_; rw [if_pos h17_7] at h27_11; simp +decide [zk_a0, h7_3, h17_7, h27_11]) _ _ hP hD hS ls (lv_sub hl [0, 1, 2, 3] rfl)
          · obtain ⟨x13, ex13⟩ : ∃ z : Int32, z = x + nI 1 := ⟨_, rfl⟩
            refine lv_iinc (v := x13) (lv' := [(2, .int x13), (3, .int (nI i)), (0, .ref (ad 9)), (1, .int (nI c))]) hx hb dX3_countChargedToSiblings_30 hl (k := 1) rfl (by rw [ex13]; rfl) (by decide) rfl (fun ls hl => ?_)
            refine lv_iinc (v := nI (i + 1)) (lv' := [(3, .int (nI (i + 1))), (2, .int x13), (0, .ref (ad 9)), (1, .int (nI c))]) hx hb dX3_countChargedToSiblings_33 hl (k := 1) rfl (zk_inc i 1) (by decide) rfl (fun ls hl => ?_)
            refine lv_goto (tgt := 4) hx hb dX3_countChargedToSiblings_36 (by decide) ?_
            exact ih2 (i + 1) x13 (by omega) (by omega) (by refine zs_i hq ?_; rw [if_pos h17_7] at h27_11; simp +decide [zk_a0, h7_3, h17_7, h27_11, ex13]) _ _ hP hD hS ls (lv_sub hl [0, 1, 2, 3] rfl)
  exact lp1 _ 0 (nI 0) (Nat.lt_succ_self _) (by omega) (rfl) _ _ hP hD hS ls (lv_sub hl [0, 1, 2, 3] rfl)

abbrev rmX3_chargedTo : Room := { frames := 0, cells := 0, slots := 0, locals := 0 }
set_option maxHeartbeats 4000000 in
set_option maxRecDepth 100000 in
/-- what is charged to a payer -/
theorem c_X3_chargedTo (l : Launch) (G : zk_G) (ad : Nat → Nat) (L : Nat → Nat → Int32) (py : Int32) : zk_I (S := Unit) l yX3_chargedTo wsX3_chargedTo rmX3_chargedTo G [.ref (ad 9), .int py] (zb_M G ad L) (fun r _ => r = zs (fun i => if L 9 i = nI 2 ∧ L 11 i = py then L 10 i else nI 0) 480) (fun _ => zb_M G ad L) := by
  refine zk_bodyI (cc := cX3_chargedTo) (maxL := 4) (ret := (some .int)) (by decide) rfl (Nat.le_of_ble_eq_true rfl) ?_
  intro p E0 s m args below meth cd A ls Q hF hQ
  obtain ⟨hx, hb, hml, hr, hts, hown, hlocks, -, hE, hP, hD, hS, hA, hA0, hl⟩ := hF
  have hK := hE.1
  have hl : lv_has ls 4 [(0, .ref (ad 9)), (1, .int py)] := hl
  have w1 := hts _ (List.mem_of_getElem? (l := wsX3_chargedTo) (i := 1) (a := Cond.fieldLink RX3 11 "MealAccounts$Meals" "kinds" "[I") rfl)
  have w2 := hts _ (List.mem_of_getElem? (l := wsX3_chargedTo) (i := 2) (a := Cond.fieldLink RX3 18 "MealAccounts$Meals" "payers" "[I") rfl)
  have w3 := hts _ (List.mem_of_getElem? (l := wsX3_chargedTo) (i := 3) (a := Cond.fieldLink RX3 15 "MealAccounts$Meals" "charges" "[I") rfl)
  refine lv_iconst (v := nI 0) hx hb dX3_chargedTo_0 (by decide) ?_
  refine lv_istore_n (lv' := [(2, .int (nI 0)), (0, .ref (ad 9)), (1, .int py)]) hx hb dX3_chargedTo_1 rfl hl (by decide) rfl (fun ls hl => ?_)
  refine lv_iconst (v := nI 0) hx hb dX3_chargedTo_2 (by decide) ?_
  refine lv_istore_n (lv' := [(3, .int (nI 0)), (2, .int (nI 0)), (0, .ref (ad 9)), (1, .int py)]) hx hb dX3_chargedTo_3 rfl hl (by decide) rfl (fun ls hl => ?_)
  have lp1 : ∀ (n3 : Nat) (i : Nat) (x : Int32), 480 - i < n3 → (i ≤ 480) → (x = zs (fun i => if L 9 i = nI 2 ∧ L 11 i = py then L 10 i else nI 0) i) → ∀ (ls : Array Slot), lv_has ls 4 [(3, .int (nI i)), (2, .int x), (0, .ref (ad 9)), (1, .int py)] → W p l E0 rmX3_chargedTo s m args below meth cd s.heap [] 0 0 Q (F0 m 4 ls []) := by
    intro n3
    induction n3 with
    | zero => intro i x hz; exact absurd hz (Nat.not_lt_zero _)
    | succ n3 ih2 =>
      intro i x hm hi hq ls hl
      refine lv_iload_n hx hb dX3_chargedTo_4 rfl (lv_at hl 0 rfl) ?_
      refine lv_sipush (v := nI 480) hx hb dX3_chargedTo_5 (by decide) ?_
      refine lv_icmp_ge (tgt := 46) hx hb dX3_chargedTo_8 (by decide) (fun h8_3 => ?_) (fun h8_3 => ?_)
      · have h8_3 := zk_le (by omega) (by omega) h8_3
        refine lv_iload_n hx hb dX3_chargedTo_46 rfl (lv_at hl 1 rfl) ?_
        exact zk_reti () hQ hx hb hr hlocks hS hP hD (Nat.le_of_ble_eq_true rfl) (Nat.le_of_ble_eq_true rfl) dX3_chargedTo_47 (by rw [hq, show i = 480 by omega])
      · have h8_3 := zk_nle (by omega) (by omega) h8_3
        refine lv_aload_n hx hb dX3_chargedTo_11 rfl (lv_at hl 2 rfl) ?_
        refine va_get (D := G.1) (ci := 2) (v := .ref (ad 10)) (C := RX3) (T := TX3) (N := 3) hx hb hts (fun _ h => List.mem_cons_of_mem _ (List.mem_append_right _ h)) hown hK hP 0 rfl rfl 0 (by decide) w1 (fun _ h9 => h9) rfl dX3_chargedTo_12 ?_
        refine lv_iload_n hx hb dX3_chargedTo_15 rfl (lv_at hl 0 rfl) ?_
        refine zk_ialdN hx hb hK hP 1 0 rfl rfl (k := i) (n := 480) (by omega) (by omega) dX3_chargedTo_16 ?_
        refine lv_iconst (v := nI 2) hx hb dX3_chargedTo_17 (by decide) ?_
        refine lv_icmp_ne (tgt := 40) hx hb dX3_chargedTo_18 (by decide) (fun h18_4 => ?_) (fun h18_4 => ?_)
        · refine lv_iinc (v := nI (i + 1)) (lv' := [(3, .int (nI (i + 1))), (2, .int x), (0, .ref (ad 9)), (1, .int py)]) hx hb dX3_chargedTo_40 hl (k := 0) rfl (zk_inc i 1) (by decide) rfl (fun ls hl => ?_)
          refine lv_goto (tgt := 4) hx hb dX3_chargedTo_43 (by decide) ?_
          exact ih2 (i + 1) x (by omega) (by omega) (by refine zs_i hq ?_; simp +decide [zk_a0, h8_3, h18_4]) ls (lv_sub hl [0, 1, 2, 3] rfl)
        · refine lv_aload_n hx hb dX3_chargedTo_21 rfl (lv_at hl 2 rfl) ?_
          refine va_get (D := G.1) (ci := 2) (v := .ref (ad 12)) (C := RX3) (T := TX3) (N := 3) hx hb hts (fun _ h => List.mem_cons_of_mem _ (List.mem_append_right _ h)) hown hK hP 0 rfl rfl 2 (by decide) w2 (fun _ h9 => h9) rfl dX3_chargedTo_22 ?_
          refine lv_iload_n hx hb dX3_chargedTo_25 rfl (lv_at hl 0 rfl) ?_
          refine zk_ialdN hx hb hK hP 3 0 rfl rfl (k := i) (n := 480) (by omega) (by omega) dX3_chargedTo_26 ?_
          refine lv_iload_n hx hb dX3_chargedTo_27 rfl (lv_at hl 3 rfl) ?_
          refine lv_icmp_ne (tgt := 40) hx hb dX3_chargedTo_28 (by decide) (fun h28_5 => ?_) (fun h28_5 => ?_)
          · refine lv_iinc (v := nI (i + 1)) (lv' := [(3, .int (nI (i + 1))), (2, .int x), (0, .ref (ad 9)), (1, .int py)]) hx hb dX3_chargedTo_40 hl (k := 0) rfl (zk_inc i 1) (by decide) rfl (fun ls hl => ?_)
            refine lv_goto (tgt := 4) hx hb dX3_chargedTo_43 (by decide) ?_
            exact ih2 (i + 1) x (by omega) (by omega) (by refine zs_i hq ?_; simp +decide [zk_a0, h8_3, h18_4, h28_5]) ls (lv_sub hl [0, 1, 2, 3] rfl)
          · refine lv_iload_n hx hb dX3_chargedTo_31 rfl (lv_at hl 1 rfl) ?_
            refine lv_aload_n hx hb dX3_chargedTo_32 rfl (lv_at hl 2 rfl) ?_
            refine va_get (D := G.1) (ci := 2) (v := .ref (ad 11)) (C := RX3) (T := TX3) (N := 3) hx hb hts (fun _ h => List.mem_cons_of_mem _ (List.mem_append_right _ h)) hown hK hP 0 rfl rfl 1 (by decide) w3 (fun _ h9 => h9) rfl dX3_chargedTo_33 ?_
            refine lv_iload_n hx hb dX3_chargedTo_36 rfl (lv_at hl 0 rfl) ?_
            refine zk_ialdN hx hb hK hP 2 0 rfl rfl (k := i) (n := 480) (by omega) (by omega) dX3_chargedTo_37 ?_
            refine lv_iadd hx hb dX3_chargedTo_38 ?_
            refine lv_topi (fun x7 ex7 => ?_)
            refine lv_istore_n (lv' := [(2, .int x7), (3, .int (nI i)), (0, .ref (ad 9)), (1, .int py)]) hx hb dX3_chargedTo_39 rfl hl (by decide) rfl (fun ls hl => ?_)
            refine lv_iinc (v := nI (i + 1)) (lv' := [(3, .int (nI (i + 1))), (2, .int x7), (0, .ref (ad 9)), (1, .int py)]) hx hb dX3_chargedTo_40 hl (k := 1) rfl (zk_inc i 1) (by decide) rfl (fun ls hl => ?_)
            refine lv_goto (tgt := 4) hx hb dX3_chargedTo_43 (by decide) ?_
            exact ih2 (i + 1) x7 (by omega) (by omega) (by refine zs_i hq ?_; simp +decide [zk_a0, h8_3, h18_4, h28_5, ex7]) ls (lv_sub hl [0, 1, 2, 3] rfl)
  exact lp1 _ 0 (nI 0) (Nat.lt_succ_self _) (by omega) (rfl) ls (lv_sub hl [0, 1, 2, 3] rfl)

abbrev rmX3_chargedOn : Room := { frames := 2, cells := 0, slots := 0, locals := 44 }
set_option maxHeartbeats 4000000 in
set_option maxRecDepth 100000 in
/-- what is charged on a day -/
theorem c_X3_chargedOn (l : Launch) (G : zk_G) (ad : Nat → Nat) (L : Nat → Nat → Int32) (d : Nat) (hd : d < 40) : zk_I (S := Unit) l yX3_chargedOn wsX3_chargedOn rmX3_chargedOn G [.ref (ad 9), .int (nI d)] (zb_M G ad L) (fun r _ => r = zs (fun i => if L 9 (i * 40 + d) = nI 2 then L 10 (i * 40 + d) else nI 0) 12) (fun _ => zb_M G ad L) := by
  refine zk_bodyI (cc := cX3_chargedOn) (maxL := 4) (ret := (some .int)) (by decide) rfl (Nat.le_of_ble_eq_true rfl) ?_
  intro p E0 s m args below meth cd A ls Q hF hQ
  obtain ⟨hx, hb, hml, hr, hts, hown, hlocks, -, hE, hP, hD, hS, hA, hA0, hl⟩ := hF
  have hK := hE.1
  have hl : lv_has ls 4 [(0, .ref (ad 9)), (1, .int (nI d))] := hl
  refine lv_iconst (v := nI 0) hx hb dX3_chargedOn_0 (by decide) ?_
  refine lv_istore_n (lv' := [(2, .int (nI 0)), (0, .ref (ad 9)), (1, .int (nI d))]) hx hb dX3_chargedOn_1 rfl hl (by decide) rfl (fun ls hl => ?_)
  refine lv_iconst (v := nI 0) hx hb dX3_chargedOn_2 (by decide) ?_
  refine lv_istore_n (lv' := [(3, .int (nI 0)), (2, .int (nI 0)), (0, .ref (ad 9)), (1, .int (nI d))]) hx hb dX3_chargedOn_3 rfl hl (by decide) rfl (fun ls hl => ?_)
  have lp1 : ∀ (n3 : Nat) (i : Nat) (x : Int32), 12 - i < n3 → (i ≤ 12) → (x = zs (fun i => if L 9 (i * 40 + d) = nI 2 then L 10 (i * 40 + d) else nI 0) i) → ∀ (H : Heap) (locs : List Loc) (hP : va_P G.1 vwCl (zb_M G ad L) H) (hD : va_D A (zb_M G ad L)) (hS : va_S A s.heap H locs) (ls : Array Slot), lv_has ls 4 [(3, .int (nI i)), (2, .int x), (0, .ref (ad 9)), (1, .int (nI d))] → W p l E0 rmX3_chargedOn s m args below meth cd H locs 0 0 Q (F0 m 4 ls []) := by
    intro n3
    induction n3 with
    | zero => intro i x hz; exact absurd hz (Nat.not_lt_zero _)
    | succ n3 ih2 =>
      intro i x hm hi hq H locs hP hD hS ls hl
      refine lv_iload_n hx hb dX3_chargedOn_4 rfl (lv_at hl 0 rfl) ?_
      refine lv_bipush (v := nI 12) hx hb dX3_chargedOn_5 (by decide) ?_
      refine lv_icmp_ge (tgt := 35) hx hb dX3_chargedOn_7 (by decide) (fun h7_3 => ?_) (fun h7_3 => ?_)
      · have h7_3 := zk_le (by omega) (by omega) h7_3
        refine lv_iload_n hx hb dX3_chargedOn_35 rfl (lv_at hl 1 rfl) ?_
        exact zk_reti () hQ hx hb hr hlocks hS hP hD (Nat.le_of_ble_eq_true rfl) (Nat.le_of_ble_eq_true rfl) dX3_chargedOn_36 (by rw [hq, show i = 12 by omega])
      · have h7_3 := zk_nle (by omega) (by omega) h7_3
        refine lv_aload_n hx hb dX3_chargedOn_10 rfl (lv_at hl 2 rfl) ?_
        refine lv_iload_n hx hb dX3_chargedOn_11 rfl (lv_at hl 0 rfl) ?_
        refine lv_iload_n hx hb dX3_chargedOn_12 rfl (lv_at hl 3 rfl) ?_
        have hP0 : va_P G.1 vwCl (zb_M G ad L ++ ([] : va_W)) H := by rw [List.append_nil]; exact hP
        have hD0 : va_D A (zb_M G ad L ++ ([] : va_W)) := by rw [List.append_nil]; exact hD
        refine zk_callI (wr := ([] : va_W)) (va_runV (As := [.int (nI i), .int (nI d)]) (rest := []) ⟨hx, hb, hml, hown, hts⟩ (c_X3_kindOf l G ad L i d (by omega) (by omega) _) (cwV 2 hts gX3_chargedOn_X3_kindOf rfl rfl rfl (by decide +kernel) ⟨Nat.le_of_ble_eq_true rfl, Nat.le_of_ble_eq_true rfl⟩) (zk_preV hE hA0 hS (zk_Papp hP0).1 (zk_Dapp hD0).1 (va_recv hK hP (ci := 2) (q0 := 0) rfl rfl)) rfl rfl hl.1 rfl (lv_room (Nat.le_of_ble_eq_true rfl)) dX3_chargedOn_13 ⟨Nat.le_of_ble_eq_true rfl, Nat.le_of_ble_eq_true rfl⟩) hP0 hD0 hS hA (fun r5 u6 H locs q7 hP hD hS => ?_)
        subst q7
        rw [List.append_nil] at hP hD
        have hP : va_P G.1 vwCl (zb_M G ad L) H := hP
        have hD : va_D A (zb_M G ad L) := hD
        refine lv_iconst (v := nI 2) hx hb dX3_chargedOn_16 (by decide) ?_
        refine lv_icmp_ne (tgt := 29) hx hb dX3_chargedOn_17 (by decide) (fun h17_7 => ?_) (fun h17_7 => ?_)
        · refine lv_iinc (v := nI (i + 1)) (lv' := [(3, .int (nI (i + 1))), (2, .int x), (0, .ref (ad 9)), (1, .int (nI d))]) hx hb dX3_chargedOn_29 hl (k := 0) rfl (zk_inc i 1) (by decide) rfl (fun ls hl => ?_)
          refine lv_goto (tgt := 4) hx hb dX3_chargedOn_32 (by decide) ?_
          exact ih2 (i + 1) x (by omega) (by omega) (by refine zs_i hq ?_; simp +decide [zk_a0, h7_3, h17_7]) _ _ hP hD hS ls (lv_sub hl [0, 1, 2, 3] rfl)
        · refine lv_iload_n hx hb dX3_chargedOn_20 rfl (lv_at hl 1 rfl) ?_
          refine lv_aload_n hx hb dX3_chargedOn_21 rfl (lv_at hl 2 rfl) ?_
          refine lv_iload_n hx hb dX3_chargedOn_22 rfl (lv_at hl 0 rfl) ?_
          refine lv_iload_n hx hb dX3_chargedOn_23 rfl (lv_at hl 3 rfl) ?_
          have hP0 : va_P G.1 vwCl (zb_M G ad L ++ ([] : va_W)) H := by rw [List.append_nil]; exact hP
          have hD0 : va_D A (zb_M G ad L ++ ([] : va_W)) := by rw [List.append_nil]; exact hD
          refine zk_callI (wr := ([] : va_W)) (va_runV (As := [.int (nI i), .int (nI d)]) (rest := [.int x]) ⟨hx, hb, hml, hown, hts⟩ (c_X3_chargeOf l G ad L i d (by omega) (by omega) _) (cwV 2 hts gX3_chargedOn_X3_chargeOf rfl rfl rfl (by decide +kernel) ⟨Nat.le_of_ble_eq_true rfl, Nat.le_of_ble_eq_true rfl⟩) (zk_preV hE hA0 hS (zk_Papp hP0).1 (zk_Dapp hD0).1 (va_recv hK hP (ci := 2) (q0 := 0) rfl rfl)) rfl rfl hl.1 rfl (lv_room (Nat.le_of_ble_eq_true rfl)) dX3_chargedOn_24 ⟨Nat.le_of_ble_eq_true rfl, Nat.le_of_ble_eq_true rfl⟩) hP0 hD0 hS hA (fun r9 u10 H locs q11 hP hD hS => ?_)
          subst q11
          rw [List.append_nil] at hP hD
          have hP : va_P G.1 vwCl (zb_M G ad L) H := hP
          have hD : va_D A (zb_M G ad L) := hD
          refine lv_iadd hx hb dX3_chargedOn_27 ?_
          refine lv_topi (fun x12 ex12 => ?_)
          refine lv_istore_n (lv' := [(2, .int x12), (3, .int (nI i)), (0, .ref (ad 9)), (1, .int (nI d))]) hx hb dX3_chargedOn_28 rfl hl (by decide) rfl (fun ls hl => ?_)
          refine lv_iinc (v := nI (i + 1)) (lv' := [(3, .int (nI (i + 1))), (2, .int x12), (0, .ref (ad 9)), (1, .int (nI d))]) hx hb dX3_chargedOn_29 hl (k := 1) rfl (zk_inc i 1) (by decide) rfl (fun ls hl => ?_)
          refine lv_goto (tgt := 4) hx hb dX3_chargedOn_32 (by decide) ?_
          exact ih2 (i + 1) x12 (by omega) (by omega) (by refine zs_i hq ?_; simp +decide [zk_a0, h7_3, h17_7, ex12]) _ _ hP hD hS ls (lv_sub hl [0, 1, 2, 3] rfl)
  exact lp1 _ 0 (nI 0) (Nat.lt_succ_self _) (by omega) (rfl) _ _ hP hD hS ls (lv_sub hl [0, 1, 2, 3] rfl)

abbrev rmX3_chargedInAll : Room := { frames := 3, cells := 0, slots := 0, locals := 67 }
set_option maxHeartbeats 4000000 in
set_option maxRecDepth 100000 in
/-- what is charged in all -/
theorem c_X3_chargedInAll (l : Launch) (G : zk_G) (ad : Nat → Nat) (L : Nat → Nat → Int32)  : zk_I (S := Unit) l yX3_chargedInAll wsX3_chargedInAll rmX3_chargedInAll G [.ref (ad 9)] (zb_M G ad L) (fun r _ => r = zs (fun j => zs (fun i => if L 9 (i * 40 + j) = nI 2 then L 10 (i * 40 + j) else nI 0) 12) 40) (fun _ => zb_M G ad L) := by
  refine zk_bodyI (cc := cX3_chargedInAll) (maxL := 3) (ret := (some .int)) (by decide) rfl (Nat.le_of_ble_eq_true rfl) ?_
  intro p E0 s m args below meth cd A ls Q hF hQ
  obtain ⟨hx, hb, hml, hr, hts, hown, hlocks, -, hE, hP, hD, hS, hA, hA0, hl⟩ := hF
  have hK := hE.1
  have hl : lv_has ls 3 [(0, .ref (ad 9))] := hl
  refine lv_iconst (v := nI 0) hx hb dX3_chargedInAll_0 (by decide) ?_
  refine lv_istore_n (lv' := [(1, .int (nI 0)), (0, .ref (ad 9))]) hx hb dX3_chargedInAll_1 rfl hl (by decide) rfl (fun ls hl => ?_)
  refine lv_iconst (v := nI 0) hx hb dX3_chargedInAll_2 (by decide) ?_
  refine lv_istore_n (lv' := [(2, .int (nI 0)), (1, .int (nI 0)), (0, .ref (ad 9))]) hx hb dX3_chargedInAll_3 rfl hl (by decide) rfl (fun ls hl => ?_)
  have lp1 : ∀ (n3 : Nat) (i : Nat) (x : Int32), 40 - i < n3 → (i ≤ 40) → (x = zs (fun j => zs (fun i => if L 9 (i * 40 + j) = nI 2 then L 10 (i * 40 + j) else nI 0) 12) i) → ∀ (H : Heap) (locs : List Loc) (hP : va_P G.1 vwCl (zb_M G ad L) H) (hD : va_D A (zb_M G ad L)) (hS : va_S A s.heap H locs) (ls : Array Slot), lv_has ls 3 [(2, .int (nI i)), (1, .int x), (0, .ref (ad 9))] → W p l E0 rmX3_chargedInAll s m args below meth cd H locs 0 0 Q (F0 m 4 ls []) := by
    intro n3
    induction n3 with
    | zero => intro i x hz; exact absurd hz (Nat.not_lt_zero _)
    | succ n3 ih2 =>
      intro i x hm hi hq H locs hP hD hS ls hl
      refine lv_iload_n hx hb dX3_chargedInAll_4 rfl (lv_at hl 0 rfl) ?_
      refine lv_bipush (v := nI 40) hx hb dX3_chargedInAll_5 (by decide) ?_
      refine lv_icmp_ge (tgt := 24) hx hb dX3_chargedInAll_7 (by decide) (fun h7_3 => ?_) (fun h7_3 => ?_)
      · have h7_3 := zk_le (by omega) (by omega) h7_3
        refine lv_iload_n hx hb dX3_chargedInAll_24 rfl (lv_at hl 1 rfl) ?_
        exact zk_reti () hQ hx hb hr hlocks hS hP hD (Nat.le_of_ble_eq_true rfl) (Nat.le_of_ble_eq_true rfl) dX3_chargedInAll_25 (by rw [hq, show i = 40 by omega])
      · have h7_3 := zk_nle (by omega) (by omega) h7_3
        refine lv_iload_n hx hb dX3_chargedInAll_10 rfl (lv_at hl 1 rfl) ?_
        refine lv_aload_n hx hb dX3_chargedInAll_11 rfl (lv_at hl 2 rfl) ?_
        refine lv_iload_n hx hb dX3_chargedInAll_12 rfl (lv_at hl 0 rfl) ?_
        have hP0 : va_P G.1 vwCl (zb_M G ad L ++ ([] : va_W)) H := by rw [List.append_nil]; exact hP
        have hD0 : va_D A (zb_M G ad L ++ ([] : va_W)) := by rw [List.append_nil]; exact hD
        refine zk_callI (wr := ([] : va_W)) (va_runV (As := [.int (nI i)]) (rest := [.int x]) ⟨hx, hb, hml, hown, hts⟩ (c_X3_chargedOn l G ad L i (by omega) _) (cwV 1 hts gX3_chargedInAll_X3_chargedOn rfl rfl rfl (by decide +kernel) ⟨Nat.le_of_ble_eq_true rfl, Nat.le_of_ble_eq_true rfl⟩) (zk_preV hE hA0 hS (zk_Papp hP0).1 (zk_Dapp hD0).1 (va_recv hK hP (ci := 2) (q0 := 0) rfl rfl)) rfl rfl hl.1 rfl (lv_room (Nat.le_of_ble_eq_true rfl)) dX3_chargedInAll_13 ⟨Nat.le_of_ble_eq_true rfl, Nat.le_of_ble_eq_true rfl⟩) hP0 hD0 hS hA (fun r5 u6 H locs q7 hP hD hS => ?_)
        subst q7
        rw [List.append_nil] at hP hD
        have hP : va_P G.1 vwCl (zb_M G ad L) H := hP
        have hD : va_D A (zb_M G ad L) := hD
        refine lv_iadd hx hb dX3_chargedInAll_16 ?_
        refine lv_topi (fun x8 ex8 => ?_)
        refine lv_istore_n (lv' := [(1, .int x8), (2, .int (nI i)), (0, .ref (ad 9))]) hx hb dX3_chargedInAll_17 rfl hl (by decide) rfl (fun ls hl => ?_)
        refine lv_iinc (v := nI (i + 1)) (lv' := [(2, .int (nI (i + 1))), (1, .int x8), (0, .ref (ad 9))]) hx hb dX3_chargedInAll_18 hl (k := 1) rfl (zk_inc i 1) (by decide) rfl (fun ls hl => ?_)
        refine lv_goto (tgt := 4) hx hb dX3_chargedInAll_21 (by decide) ?_
        exact ih2 (i + 1) x8 (by omega) (by omega) (by refine zs_i hq ?_; simp +decide [zk_a0, h7_3, ex8]) _ _ hP hD hS ls (lv_sub hl [0, 1, 2] rfl)
  exact lp1 _ 0 (nI 0) (Nat.lt_succ_self _) (by omega) (rfl) _ _ hP hD hS ls (lv_sub hl [0, 1, 2] rfl)

abbrev rmX3_countSince : Room := { frames := 3, cells := 0, slots := 0, locals := 67 }
set_option maxHeartbeats 4000000 in
set_option maxRecDepth 100000 in
/-- the meals of a kind from a day on -/
theorem c_X3_countSince (l : Launch) (G : zk_G) (ad : Nat → Nat) (L : Nat → Nat → Int32) (dy : Nat) (kd : Int32) (hd : dy ≤ 40) : zk_I (S := Unit) l yX3_countSince wsX3_countSince rmX3_countSince G [.ref (ad 9), .int (nI dy), .int kd] (zb_M G ad L) (fun r _ => r = zr (fun j => zs (fun i => if L 9 (i * 40 + j) = kd then nI 1 else nI 0) 12) dy 40) (fun _ => zb_M G ad L) := by
  refine zk_bodyI (cc := cX3_countSince) (maxL := 5) (ret := (some .int)) (by decide) rfl (Nat.le_of_ble_eq_true rfl) ?_
  intro p E0 s m args below meth cd A ls Q hF hQ
  obtain ⟨hx, hb, hml, hr, hts, hown, hlocks, -, hE, hP, hD, hS, hA, hA0, hl⟩ := hF
  have hK := hE.1
  have hl : lv_has ls 5 [(0, .ref (ad 9)), (1, .int (nI dy)), (2, .int kd)] := hl
  refine lv_iconst (v := nI 0) hx hb dX3_countSince_0 (by decide) ?_
  refine lv_istore_n (lv' := [(3, .int (nI 0)), (0, .ref (ad 9)), (1, .int (nI dy)), (2, .int kd)]) hx hb dX3_countSince_1 rfl hl (by decide) rfl (fun ls hl => ?_)
  refine lv_iload_n hx hb dX3_countSince_2 rfl (lv_at hl 2 rfl) ?_
  refine lv_istore (lv' := [(4, .int (nI dy)), (3, .int (nI 0)), (0, .ref (ad 9)), (1, .int (nI dy)), (2, .int kd)]) hx hb dX3_countSince_3 hl (by decide) rfl (fun ls hl => ?_)
  have lp1 : ∀ (n3 : Nat) (i : Nat) (x : Int32), 40 - i < n3 → (i ≤ 40) → (dy ≤ i) → (x = zr (fun j => zs (fun i => if L 9 (i * 40 + j) = kd then nI 1 else nI 0) 12) dy i) → ∀ (H : Heap) (locs : List Loc) (hP : va_P G.1 vwCl (zb_M G ad L) H) (hD : va_D A (zb_M G ad L)) (hS : va_S A s.heap H locs) (ls : Array Slot), lv_has ls 5 [(4, .int (nI i)), (3, .int x), (0, .ref (ad 9)), (1, .int (nI dy)), (2, .int kd)] → W p l E0 rmX3_countSince s m args below meth cd H locs 0 0 Q (F0 m 5 ls []) := by
    intro n3
    induction n3 with
    | zero => intro i x hz; exact absurd hz (Nat.not_lt_zero _)
    | succ n3 ih2 =>
      intro i x hm hi hj hq H locs hP hD hS ls hl
      refine lv_iload hx hb dX3_countSince_5 (lv_at hl 0 rfl) ?_
      refine lv_bipush (v := nI 40) hx hb dX3_countSince_7 (by decide) ?_
      refine lv_icmp_ge (tgt := 28) hx hb dX3_countSince_9 (by decide) (fun h9_3 => ?_) (fun h9_3 => ?_)
      · have h9_3 := zk_le (by omega) (by omega) h9_3
        refine lv_iload_n hx hb dX3_countSince_28 rfl (lv_at hl 1 rfl) ?_
        exact zk_reti () hQ hx hb hr hlocks hS hP hD (Nat.le_of_ble_eq_true rfl) (Nat.le_of_ble_eq_true rfl) dX3_countSince_29 (by rw [hq, show i = 40 by omega])
      · have h9_3 := zk_nle (by omega) (by omega) h9_3
        refine lv_iload_n hx hb dX3_countSince_12 rfl (lv_at hl 1 rfl) ?_
        refine lv_aload_n hx hb dX3_countSince_13 rfl (lv_at hl 2 rfl) ?_
        refine lv_iload hx hb dX3_countSince_14 (lv_at hl 0 rfl) ?_
        refine lv_iload_n hx hb dX3_countSince_16 rfl (lv_at hl 4 rfl) ?_
        have hP0 : va_P G.1 vwCl (zb_M G ad L ++ ([] : va_W)) H := by rw [List.append_nil]; exact hP
        have hD0 : va_D A (zb_M G ad L ++ ([] : va_W)) := by rw [List.append_nil]; exact hD
        refine zk_callI (wr := ([] : va_W)) (va_runV (As := [.int (nI i), .int kd]) (rest := [.int x]) ⟨hx, hb, hml, hown, hts⟩ (c_X3_countOn l G ad L i kd (by omega) _) (cwV 2 hts gX3_countSince_X3_countOn rfl rfl rfl (by decide +kernel) ⟨Nat.le_of_ble_eq_true rfl, Nat.le_of_ble_eq_true rfl⟩) (zk_preV hE hA0 hS (zk_Papp hP0).1 (zk_Dapp hD0).1 (va_recv hK hP (ci := 2) (q0 := 0) rfl rfl)) rfl rfl hl.1 rfl (lv_room (Nat.le_of_ble_eq_true rfl)) dX3_countSince_17 ⟨Nat.le_of_ble_eq_true rfl, Nat.le_of_ble_eq_true rfl⟩) hP0 hD0 hS hA (fun r5 u6 H locs q7 hP hD hS => ?_)
        subst q7
        rw [List.append_nil] at hP hD
        have hP : va_P G.1 vwCl (zb_M G ad L) H := hP
        have hD : va_D A (zb_M G ad L) := hD
        refine lv_iadd hx hb dX3_countSince_20 ?_
        refine lv_topi (fun x8 ex8 => ?_)
        refine lv_istore_n (lv' := [(3, .int x8), (4, .int (nI i)), (0, .ref (ad 9)), (1, .int (nI dy)), (2, .int kd)]) hx hb dX3_countSince_21 rfl hl (by decide) rfl (fun ls hl => ?_)
        refine lv_iinc (v := nI (i + 1)) (lv' := [(4, .int (nI (i + 1))), (3, .int x8), (0, .ref (ad 9)), (1, .int (nI dy)), (2, .int kd)]) hx hb dX3_countSince_22 hl (k := 1) rfl (zk_inc i 1) (by decide) rfl (fun ls hl => ?_)
        refine lv_goto (tgt := 5) hx hb dX3_countSince_25 (by decide) ?_
        exact ih2 (i + 1) x8 (by omega) (by omega) (by omega) (by refine zr_i hj hq ?_; simp +decide [zk_a0, h9_3, ex8]) _ _ hP hD hS ls (lv_sub hl [0, 1, 2, 3, 4] rfl)
  exact lp1 _ dy (nI 0) (Nat.lt_succ_self _) (by omega) (by omega) ((zr_0 (Nat.le_refl _)).symm) _ _ hP hD hS ls (lv_sub hl [0, 1, 2, 3, 4] rfl)
