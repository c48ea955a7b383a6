abbrev rmJ7_fill_53178 : Room := { frames := 0, cells := 0, slots := 0, locals := 0 }
set_option maxHeartbeats 4000000 in
set_option maxRecDepth 100000 in
/-- an array is filled -/
theorem c_J7_fill_53178 (l : Launch) (G : zk_G) (q n : Nat) (f : Nat → Int32) (v : Int32) (hn : n < 2 ^ 31) : zk_V (S := Unit) l yJ7_fill_53178 wsJ7_fill_53178 rmJ7_fill_53178 G [.ref q, .int v] ([zk_a q (G.2.1 0) n f]) (fun _ => True) (fun _ => [zk_a q (G.2.1 0) n (fun _ => v)]) := by
  refine zk_bodyV (cc := cJ7_fill_53178) (maxL := 4) (ret := none) (by decide) rfl (Nat.le_of_ble_eq_true rfl) ?_
  intro p E0 s m args below meth cd A ls Q hF hQ
  obtain ⟨hx, hb, hml, hr, hts, hown, hlocks, -, hE, hP, hD, hS, hA, hA0, hl⟩ := hF
  have hK := hE.1
  have hl : lv_has ls 4 [(0, .ref q), (1, .int v)] := hl
  refine lv_iconst (v := nI 0) hx hb dJ7_fill_53178_0 (by decide) ?_
  refine lv_istore_n (lv' := [(2, .int (nI 0)), (0, .ref q), (1, .int v)]) hx hb dJ7_fill_53178_1 rfl hl (by decide) rfl (fun ls hl => ?_)
  refine lv_aload_n hx hb dJ7_fill_53178_2 rfl (lv_at hl 1 rfl) ?_
  refine va_alen hx hb hK hP 0 0 rfl rfl (v := nI n) rfl dJ7_fill_53178_3 ?_
  refine lv_istore_n (lv' := [(3, .int (nI n)), (2, .int (nI 0)), (0, .ref q), (1, .int v)]) hx hb dJ7_fill_53178_4 rfl hl (by decide) rfl (fun ls hl => ?_)
  have lp1 : ∀ (n3 : Nat) (i : Nat) (F : Nat → Int32), n - i < n3 → (i ≤ n) → (∀ j, j < i → F j = v) → ∀ (H : Heap) (locs : List Loc) (hP : va_P G.1 vwCl ([zk_a q (G.2.1 0) n F]) H) (hD : va_D A ([zk_a q (G.2.1 0) n F])) (hS : va_S A s.heap H locs) (ls : Array Slot), lv_has ls 4 [(3, .int (nI n)), (2, .int (nI i)), (0, .ref q), (1, .int v)] → W p l E0 rmJ7_fill_53178 s m args below meth cd H locs 0 0 Q (F0 m 5 ls []) := by
    intro n3
    induction n3 with
    | zero => intro i F hz; exact absurd hz (Nat.not_lt_zero _)
    | succ n3 ih2 =>
      intro i F hm hi hq H locs hP hD hS ls hl
      refine lv_iload_n hx hb dJ7_fill_53178_5 rfl (lv_at hl 1 rfl) ?_
      refine lv_iload_n hx hb dJ7_fill_53178_6 rfl (lv_at hl 0 rfl) ?_
      refine lv_icmp_ge (tgt := 20) hx hb dJ7_fill_53178_7 (by decide) (fun h7_3 => ?_) (fun h7_3 => ?_)
      · have h7_3 := zk_le (by omega) (by omega) h7_3
        obtain ⟨hP, hD⟩ := zk_cong (q0 := 0) (g := fun _ => v) hP hD rfl (fun j hj => hq j (by omega))
        exact zk_retv () hQ hx hb hr hlocks hS hP hD (Nat.le_of_ble_eq_true rfl) (Nat.le_of_ble_eq_true rfl) dJ7_fill_53178_20 (trivial)
      · have h7_3 := zk_nle (by omega) (by omega) h7_3
        refine lv_aload_n hx hb dJ7_fill_53178_10 rfl (lv_at hl 2 rfl) ?_
        refine lv_iload_n hx hb dJ7_fill_53178_11 rfl (lv_at hl 1 rfl) ?_
        refine lv_iload_n hx hb dJ7_fill_53178_12 rfl (lv_at hl 3 rfl) ?_
        refine zk_iastN hx hb hK hP hD hS 0 0 rfl rfl (k := i) (n := n) (by omega) (by omega) dJ7_fill_53178_13 (fun H locs hP hD hS => ?_)
        obtain ⟨F5, eF5⟩ : ∃ z : Nat → Int32, z = upd F i v := ⟨_, rfl⟩
        have hP : va_P G.1 vwCl ([zk_a q (G.2.1 0) n F5]) H := by rw [eF5]; exact hP
        have hD : va_D A ([zk_a q (G.2.1 0) n F5]) := by rw [eF5]; exact hD
        refine lv_iinc (v := nI (i + 1)) (lv' := [(2, .int (nI (i + 1))), (3, .int (nI n)), (0, .ref q), (1, .int v)]) hx hb dJ7_fill_53178_14 hl (k := 1) rfl (zk_inc i 1) (by decide) rfl (fun ls hl => ?_)
        refine lv_goto (tgt := 5) hx hb dJ7_fill_53178_17 (by decide) ?_
        exact ih2 (i + 1) F5 (by omega) (by omega) (fun j hj => by rw [eF5]; rcases Nat.lt_or_ge j i with z | z; rw [upd_ne _ _ (by omega)]; exact hq j z; rw [show j = i by omega]; exact upd_same _ _ _) _ _ hP hD hS ls (lv_sub hl [1, 0, 2, 3] rfl)
  exact lp1 _ 0 f (Nat.lt_succ_self _) (by omega) (fun j hj => absurd hj (Nat.not_lt_zero j)) _ _ hP hD hS ls (lv_sub hl [0, 1, 2, 3] rfl)

abbrev rmX3_clear : Room := { frames := 1, cells := 0, slots := 0, locals := 23 }
set_option maxHeartbeats 4000000 in
set_option maxRecDepth 100000 in
/-- all meals are as not ordered -/
theorem c_X3_clear (l : Launch) (G : zk_G) (ad : Nat → Nat) (L : zL) : zk_V (S := zL) l yX3_clear wsX3_clear rmX3_clear G [.ref (ad 9)] (zb_M G ad L) (fun u => u = upr L 9 (fun _ => nI 0)) (fun u => zb_M G ad u) := by
  refine zk_bodyV (cc := cX3_clear) (maxL := 1) (ret := none) (by decide) rfl (Nat.le_of_ble_eq_true rfl) ?_
  intro p E0 s m args below meth cd A ls Q hF hQ
  obtain ⟨hx, hb, hml, hr, hts, hown, hlocks, -, hE, hP, hD, hS, hA, hA0, hl⟩ := hF
  have hK := hE.1
  have hl : lv_has ls 1 [(0, .ref (ad 9))] := hl
  have w1 := hts _ (List.mem_of_getElem? (l := wsX3_clear) (i := 1) (a := Cond.fieldLink RX3 11 "MealAccounts$Meals" "kinds" "[I") rfl)
  refine lv_aload_n hx hb dX3_clear_0 rfl (lv_at hl 0 rfl) ?_
  refine va_get (D := G.1) (ci := 2) (v := .ref (ad 10)) (C := RX3) (T := TX3) (N := 3) hx hb hts (fun _ h => List.mem_cons_of_mem _ (List.mem_append_right _ h)) hown hK hP 0 rfl rfl 0 (by decide) w1 (fun _ h9 => h9) rfl dX3_clear_1 ?_
  refine lv_iconst (v := nI 0) hx hb dX3_clear_4 (by decide) ?_
  have hP0 := hP.sub (ws' := [zk_a (ad 10) (G.2.1 0) 480 (L 9)] ++ (zb_M G ad L).eraseIdx 1) [1, 0, 2, 3] rfl
  have hD0 := hD.sub (ws' := [zk_a (ad 10) (G.2.1 0) 480 (L 9)] ++ (zb_M G ad L).eraseIdx 1) [1, 0, 2, 3] (by decide) rfl
  refine zk_callV (wr := (zb_M G ad L).eraseIdx 1) (va_runS (As := [.ref (ad 10), .int (nI 0)]) (rest := []) ⟨hx, hb, hml, hown, hts⟩ (c_J7_fill_53178 l G (ad 10) 480 (L 9) (nI 0) (by omega) _) (va_cwS 2 hts gX3_clear_J7_fill_53178 rfl rfl rfl (by decide +kernel) ⟨Nat.le_of_ble_eq_true rfl, Nat.le_of_ble_eq_true rfl⟩) (zk_preS hE hA0 hS (zk_Papp hP0).1 (zk_Dapp hD0).1) rfl rfl hl.1 rfl (lv_room (Nat.le_of_ble_eq_true rfl)) dX3_clear_5 ⟨Nat.le_of_ble_eq_true rfl, Nat.le_of_ble_eq_true rfl⟩) hP0 hD0 hS hA (fun u H locs _ hP hD hS => ?_)
  have hP := hP.sub (ws' := zb_M G ad (upr L 9 (fun _ => nI 0))) [1, 0, 2, 3] rfl
  have hD := hD.sub (ws' := zb_M G ad (upr L 9 (fun _ => nI 0))) [1, 0, 2, 3] (by decide) rfl
  obtain ⟨L1, eL1⟩ : ∃ z : Nat → Nat → Int32, z = upr L 9 (fun _ => nI 0) := ⟨_, rfl⟩
  have hP : va_P G.1 vwCl (zb_M G ad L1) H := by rw [eL1]; exact hP
  have hD : va_D A (zb_M G ad L1) := by rw [eL1]; exact hD
  exact zk_retv L1 hQ hx hb hr hlocks hS hP hD (Nat.le_of_ble_eq_true rfl) (Nat.le_of_ble_eq_true rfl) dX3_clear_8 (by subst_vars; rfl)

abbrev rmX2_clear : Room := { frames := 2, cells := 0, slots := 0, locals := 43 }
set_option maxHeartbeats 4000000 in
set_option maxRecDepth 100000 in
/-- as a new ledger -/
theorem c_X2_clear (l : Launch) (G : zk_G) (ad : Nat → Nat) (L : zL) : zk_V (S := zL) l yX2_clear wsX2_clear rmX2_clear G [.ref (ad 0)] (zb_L G ad L ++ zb_M G ad L) (fun u => u = sClear L) (fun u => zb_L G ad u ++ zb_M G ad u) := by
  refine zk_bodyV (cc := cX2_clear) (maxL := 1) (ret := none) (by decide) rfl (Nat.le_of_ble_eq_true rfl) ?_
  intro p E0 s m args below meth cd A ls Q hF hQ
  obtain ⟨hx, hb, hml, hr, hts, hown, hlocks, -, hE, hP, hD, hS, hA, hA0, hl⟩ := hF
  have hK := hE.1
  have hl : lv_has ls 1 [(0, .ref (ad 0))] := hl
  have w1 := hts _ (List.mem_of_getElem? (l := wsX2_clear) (i := 1) (a := Cond.fieldLink RX2 50 "MealAccounts$Ledger" "today" "I") rfl)
  have w2 := hts _ (List.mem_of_getElem? (l := wsX2_clear) (i := 2) (a := Cond.fieldLink RX2 53 "MealAccounts$Ledger" "children" "I") rfl)
  have w3 := hts _ (List.mem_of_getElem? (l := wsX2_clear) (i := 3) (a := Cond.fieldLink RX2 43 "MealAccounts$Ledger" "price" "I") rfl)
  have w4 := hts _ (List.mem_of_getElem? (l := wsX2_clear) (i := 4) (a := Cond.fieldLink RX2 47 "MealAccounts$Ledger" "limit" "I") rfl)
  have w5 := hts _ (List.mem_of_getElem? (l := wsX2_clear) (i := 5) (a := Cond.fieldLink RX2 56 "MealAccounts$Ledger" "paidIn" "I") rfl)
  have w6 := hts _ (List.mem_of_getElem? (l := wsX2_clear) (i := 6) (a := Cond.fieldLink RX2 27 "MealAccounts$Ledger" "menuOn" "[I") rfl)
  have w7 := hts _ (List.mem_of_getElem? (l := wsX2_clear) (i := 7) (a := Cond.fieldLink RX2 30 "MealAccounts$Ledger" "sharing" "[I") rfl)
  have w8 := hts _ (List.mem_of_getElem? (l := wsX2_clear) (i := 8) (a := Cond.fieldLink RX2 33 "MealAccounts$Ledger" "writtenOffFor" "[I") rfl)
  have w9 := hts _ (List.mem_of_getElem? (l := wsX2_clear) (i := 9) (a := Cond.fieldLink RX2 39 "MealAccounts$Ledger" "meals" "LMealAccounts$Meals;") rfl)
  refine lv_aload_n hx hb dX2_clear_0 rfl (lv_at hl 0 rfl) ?_
  refine lv_iconst (v := nI 0) hx hb dX2_clear_1 (by decide) ?_
  refine va_put (D := G.1) (ci := 1) (v := .int (nI 0)) (ty := .int) (C := RX2) (T := TX2) (N := 14) hx hb hts (fun _ h => List.mem_cons_of_mem _ (List.mem_append_left _ (List.mem_append_right _ h))) tyX2 tyX2_ok nmX2 hown hK hP hD hS 0 rfl rfl 0 (by decide) w1 (fun _ h9 => h9) rfl (by decide +kernel) rfl rfl (Nat.le_of_ble_eq_true rfl) dX2_clear_2 (fun H locs hP hD hS => ?_)
  obtain ⟨L1, eL1⟩ : ∃ z : Nat → Nat → Int32, z = up2 L 0 0 (nI 0) := ⟨_, rfl⟩
  have hP : va_P G.1 vwCl (zb_L G ad L1 ++ zb_M G ad L1) H := by rw [eL1]; exact hP
  have hD : va_D A (zb_L G ad L1 ++ zb_M G ad L1) := by rw [eL1]; exact hD
  refine lv_aload_n hx hb dX2_clear_5 rfl (lv_at hl 0 rfl) ?_
  refine lv_iconst (v := nI 0) hx hb dX2_clear_6 (by decide) ?_
  refine va_put (D := G.1) (ci := 1) (v := .int (nI 0)) (ty := .int) (C := RX2) (T := TX2) (N := 14) hx hb hts (fun _ h => List.mem_cons_of_mem _ (List.mem_append_left _ (List.mem_append_right _ h))) tyX2 tyX2_ok nmX2 hown hK hP hD hS 0 rfl rfl 1 (by decide) w2 (fun _ h9 => h9) rfl (by decide +kernel) rfl rfl (Nat.le_of_ble_eq_true rfl) dX2_clear_7 (fun H locs hP hD hS => ?_)
  obtain ⟨L2, eL2⟩ : ∃ z : Nat → Nat → Int32, z = up2 L1 0 1 (nI 0) := ⟨_, rfl⟩
  have hP : va_P G.1 vwCl (zb_L G ad L2 ++ zb_M G ad L2) H := by rw [eL2]; exact hP
  have hD : va_D A (zb_L G ad L2 ++ zb_M G ad L2) := by rw [eL2]; exact hD
  refine lv_aload_n hx hb dX2_clear_10 rfl (lv_at hl 0 rfl) ?_
  refine lv_sipush (v := nI 250) hx hb dX2_clear_11 (by decide) ?_
  refine va_put (D := G.1) (ci := 1) (v := .int (nI 250)) (ty := .int) (C := RX2) (T := TX2) (N := 14) hx hb hts (fun _ h => List.mem_cons_of_mem _ (List.mem_append_left _ (List.mem_append_right _ h))) tyX2 tyX2_ok nmX2 hown hK hP hD hS 0 rfl rfl 2 (by decide) w3 (fun _ h9 => h9) rfl (by decide +kernel) rfl rfl (Nat.le_of_ble_eq_true rfl) dX2_clear_14 (fun H locs hP hD hS => ?_)
  obtain ⟨L3, eL3⟩ : ∃ z : Nat → Nat → Int32, z = up2 L2 0 2 (nI 250) := ⟨_, rfl⟩
  have hP : va_P G.1 vwCl (zb_L G ad L3 ++ zb_M G ad L3) H := by rw [eL3]; exact hP
  have hD : va_D A (zb_L G ad L3 ++ zb_M G ad L3) := by rw [eL3]; exact hD
  refine lv_aload_n hx hb dX2_clear_17 rfl (lv_at hl 0 rfl) ?_
  refine lv_sipush (v := nI 500) hx hb dX2_clear_18 (by decide) ?_
  refine va_put (D := G.1) (ci := 1) (v := .int (nI 500)) (ty := .int) (C := RX2) (T := TX2) (N := 14) hx hb hts (fun _ h => List.mem_cons_of_mem _ (List.mem_append_left _ (List.mem_append_right _ h))) tyX2 tyX2_ok nmX2 hown hK hP hD hS 0 rfl rfl 3 (by decide) w4 (fun _ h9 => h9) rfl (by decide +kernel) rfl rfl (Nat.le_of_ble_eq_true rfl) dX2_clear_21 (fun H locs hP hD hS => ?_)
  obtain ⟨L4, eL4⟩ : ∃ z : Nat → Nat → Int32, z = up2 L3 0 3 (nI 500) := ⟨_, rfl⟩
  have hP : va_P G.1 vwCl (zb_L G ad L4 ++ zb_M G ad L4) H := by rw [eL4]; exact hP
  have hD : va_D A (zb_L G ad L4 ++ zb_M G ad L4) := by rw [eL4]; exact hD
  refine lv_aload_n hx hb dX2_clear_24 rfl (lv_at hl 0 rfl) ?_
  refine lv_iconst (v := nI 0) hx hb dX2_clear_25 (by decide) ?_
  refine va_put (D := G.1) (ci := 1) (v := .int (nI 0)) (ty := .int) (C := RX2) (T := TX2) (N := 14) hx hb hts (fun _ h => List.mem_cons_of_mem _ (List.mem_append_left _ (List.mem_append_right _ h))) tyX2 tyX2_ok nmX2 hown hK hP hD hS 0 rfl rfl 4 (by decide) w5 (fun _ h9 => h9) rfl (by decide +kernel) rfl rfl (Nat.le_of_ble_eq_true rfl) dX2_clear_26 (fun H locs hP hD hS => ?_)
  obtain ⟨L5, eL5⟩ : ∃ z : Nat → Nat → Int32, z = up2 L4 0 4 (nI 0) := ⟨_, rfl⟩
  have hP : va_P G.1 vwCl (zb_L G ad L5 ++ zb_M G ad L5) H := by rw [eL5]; exact hP
  have hD : va_D A (zb_L G ad L5 ++ zb_M G ad L5) := by rw [eL5]; exact hD
  refine lv_aload_n hx hb dX2_clear_29 rfl (lv_at hl 0 rfl) ?_
  refine va_get (D := G.1) (ci := 1) (v := .ref (ad 6)) (C := RX2) (T := TX2) (N := 14) hx hb hts (fun _ h => List.mem_cons_of_mem _ (List.mem_append_left _ (List.mem_append_right _ h))) hown hK hP 0 rfl rfl 10 (by decide) w6 (fun _ h9 => h9) rfl dX2_clear_30 ?_
  refine lv_iconst (v := nI 0) hx hb dX2_clear_33 (by decide) ?_
  have hP0 := hP.sub (ws' := [zk_a (ad 6) (G.2.1 0) 40 (L5 6)] ++ (zb_L G ad L5 ++ zb_M G ad L5).eraseIdx 6) [6, 0, 1, 2, 3, 4, 5, 7, 8, 9, 10, 11, 12] rfl
  have hD0 := hD.sub (ws' := [zk_a (ad 6) (G.2.1 0) 40 (L5 6)] ++ (zb_L G ad L5 ++ zb_M G ad L5).eraseIdx 6) [6, 0, 1, 2, 3, 4, 5, 7, 8, 9, 10, 11, 12] (by decide) rfl
  refine zk_callV (wr := (zb_L G ad L5 ++ zb_M G ad L5).eraseIdx 6) (va_runS (As := [.ref (ad 6), .int (nI 0)]) (rest := []) ⟨hx, hb, hml, hown, hts⟩ (c_J7_fill_53178 l G (ad 6) 40 (L5 6) (nI 0) (by omega) _) (va_cwS 2 hts gX2_clear_J7_fill_53178 rfl rfl rfl (by decide +kernel) ⟨Nat.le_of_ble_eq_true rfl, Nat.le_of_ble_eq_true rfl⟩) (zk_preS hE hA0 hS (zk_Papp hP0).1 (zk_Dapp hD0).1) rfl rfl hl.1 rfl (lv_room (Nat.le_of_ble_eq_true rfl)) dX2_clear_34 ⟨Nat.le_of_ble_eq_true rfl, Nat.le_of_ble_eq_true rfl⟩) hP0 hD0 hS hA (fun u H locs _ hP hD hS => ?_)
  have hP := hP.sub (ws' := zb_L G ad (upr L5 6 (fun _ => nI 0)) ++ zb_M G ad (upr L5 6 (fun _ => nI 0))) [1, 2, 3, 4, 5, 6, 0, 7, 8, 9, 10, 11, 12] rfl
  have hD := hD.sub (ws' := zb_L G ad (upr L5 6 (fun _ => nI 0)) ++ zb_M G ad (upr L5 6 (fun _ => nI 0))) [1, 2, 3, 4, 5, 6, 0, 7, 8, 9, 10, 11, 12] (by decide) rfl
  obtain ⟨L6, eL6⟩ : ∃ z : Nat → Nat → Int32, z = upr L5 6 (fun _ => nI 0) := ⟨_, rfl⟩
  have hP : va_P G.1 vwCl (zb_L G ad L6 ++ zb_M G ad L6) H := by rw [eL6]; exact hP
  have hD : va_D A (zb_L G ad L6 ++ zb_M G ad L6) := by rw [eL6]; exact hD
  refine lv_aload_n hx hb dX2_clear_37 rfl (lv_at hl 0 rfl) ?_
  refine va_get (D := G.1) (ci := 1) (v := .ref (ad 7)) (C := RX2) (T := TX2) (N := 14) hx hb hts (fun _ h => List.mem_cons_of_mem _ (List.mem_append_left _ (List.mem_append_right _ h))) hown hK hP 0 rfl rfl 11 (by decide) w7 (fun _ h9 => h9) rfl dX2_clear_38 ?_
  refine lv_iconst (v := nI 0) hx hb dX2_clear_41 (by decide) ?_
  have hP0 := hP.sub (ws' := [zk_a (ad 7) (G.2.1 0) 5 (L6 7)] ++ (zb_L G ad L6 ++ zb_M G ad L6).eraseIdx 7) [7, 0, 1, 2, 3, 4, 5, 6, 8, 9, 10, 11, 12] rfl
  have hD0 := hD.sub (ws' := [zk_a (ad 7) (G.2.1 0) 5 (L6 7)] ++ (zb_L G ad L6 ++ zb_M G ad L6).eraseIdx 7) [7, 0, 1, 2, 3, 4, 5, 6, 8, 9, 10, 11, 12] (by decide) rfl
  refine zk_callV (wr := (zb_L G ad L6 ++ zb_M G ad L6).eraseIdx 7) (va_runS (As := [.ref (ad 7), .int (nI 0)]) (rest := []) ⟨hx, hb, hml, hown, hts⟩ (c_J7_fill_53178 l G (ad 7) 5 (L6 7) (nI 0) (by omega) _) (va_cwS 2 hts gX2_clear_J7_fill_53178 rfl rfl rfl (by decide +kernel) ⟨Nat.le_of_ble_eq_true rfl, Nat.le_of_ble_eq_true rfl⟩) (zk_preS hE hA0 hS (zk_Papp hP0).1 (zk_Dapp hD0).1) rfl rfl hl.1 rfl (lv_room (Nat.le_of_ble_eq_true rfl)) dX2_clear_42 ⟨Nat.le_of_ble_eq_true rfl, Nat.le_of_ble_eq_true rfl⟩) hP0 hD0 hS hA (fun u H locs _ hP hD hS => ?_)
  have hP := hP.sub (ws' := zb_L G ad (upr L6 7 (fun _ => nI 0)) ++ zb_M G ad (upr L6 7 (fun _ => nI 0))) [1, 2, 3, 4, 5, 6, 7, 0, 8, 9, 10, 11, 12] rfl
  have hD := hD.sub (ws' := zb_L G ad (upr L6 7 (fun _ => nI 0)) ++ zb_M G ad (upr L6 7 (fun _ => nI 0))) [1, 2, 3, 4, 5, 6, 7, 0, 8, 9, 10, 11, 12] (by decide) rfl
  obtain ⟨L7, eL7⟩ : ∃ z : Nat → Nat → Int32, z = upr L6 7 (fun _ => nI 0) := ⟨_, rfl⟩
  have hP : va_P G.1 vwCl (zb_L G ad L7 ++ zb_M G ad L7) H := by rw [eL7]; exact hP
  have hD : va_D A (zb_L G ad L7 ++ zb_M G ad L7) := by rw [eL7]; exact hD
  refine lv_aload_n hx hb dX2_clear_45 rfl (lv_at hl 0 rfl) ?_
  refine va_get (D := G.1) (ci := 1) (v := .ref (ad 8)) (C := RX2) (T := TX2) (N := 14) hx hb hts (fun _ h => List.mem_cons_of_mem _ (List.mem_append_left _ (List.mem_append_right _ h))) hown hK hP 0 rfl rfl 12 (by decide) w8 (fun _ h9 => h9) rfl dX2_clear_46 ?_
  refine lv_iconst (v := nI 0) hx hb dX2_clear_49 (by decide) ?_
  have hP0 := hP.sub (ws' := [zk_a (ad 8) (G.2.1 0) 5 (L7 8)] ++ (zb_L G ad L7 ++ zb_M G ad L7).eraseIdx 8) [8, 0, 1, 2, 3, 4, 5, 6, 7, 9, 10, 11, 12] rfl
  have hD0 := hD.sub (ws' := [zk_a (ad 8) (G.2.1 0) 5 (L7 8)] ++ (zb_L G ad L7 ++ zb_M G ad L7).eraseIdx 8) [8, 0, 1, 2, 3, 4, 5, 6, 7, 9, 10, 11, 12] (by decide) rfl
  refine zk_callV (wr := (zb_L G ad L7 ++ zb_M G ad L7).eraseIdx 8) (va_runS (As := [.ref (ad 8), .int (nI 0)]) (rest := []) ⟨hx, hb, hml, hown, hts⟩ (c_J7_fill_53178 l G (ad 8) 5 (L7 8) (nI 0) (by omega) _) (va_cwS 2 hts gX2_clear_J7_fill_53178 rfl rfl rfl (by decide +kernel) ⟨Nat.le_of_ble_eq_true rfl, Nat.le_of_ble_eq_true rfl⟩) (zk_preS hE hA0 hS (zk_Papp hP0).1 (zk_Dapp hD0).1) rfl rfl hl.1 rfl (lv_room (Nat.le_of_ble_eq_true rfl)) dX2_clear_50 ⟨Nat.le_of_ble_eq_true rfl, Nat.le_of_ble_eq_true rfl⟩) hP0 hD0 hS hA (fun u H locs _ hP hD hS => ?_)
  have hP := hP.sub (ws' := zb_L G ad (upr L7 8 (fun _ => nI 0)) ++ zb_M G ad (upr L7 8 (fun _ => nI 0))) [1, 2, 3, 4, 5, 6, 7, 8, 0, 9, 10, 11, 12] rfl
  have hD := hD.sub (ws' := zb_L G ad (upr L7 8 (fun _ => nI 0)) ++ zb_M G ad (upr L7 8 (fun _ => nI 0))) [1, 2, 3, 4, 5, 6, 7, 8, 0, 9, 10, 11, 12] (by decide) rfl
  obtain ⟨L8, eL8⟩ : ∃ z : Nat → Nat → Int32, z = upr L7 8 (fun _ => nI 0) := ⟨_, rfl⟩
  have hP : va_P G.1 vwCl (zb_L G ad L8 ++ zb_M G ad L8) H := by rw [eL8]; exact hP
  have hD : va_D A (zb_L G ad L8 ++ zb_M G ad L8) := by rw [eL8]; exact hD
  refine lv_aload_n hx hb dX2_clear_53 rfl (lv_at hl 0 rfl) ?_
  refine va_get (D := G.1) (ci := 1) (v := .ref (ad 9)) (C := RX2) (T := TX2) (N := 14) hx hb hts (fun _ h => List.mem_cons_of_mem _ (List.mem_append_left _ (List.mem_append_right _ h))) hown hK hP 0 rfl rfl 13 (by decide) w9 (fun _ h9 => h9) rfl dX2_clear_54 ?_
  have hP0 : va_P G.1 vwCl (zb_M G ad L8 ++ zb_L G ad L8) H := zk_Pperm hP List.perm_append_comm
  have hD0 : va_D A (zb_M G ad L8 ++ zb_L G ad L8) := zk_Dperm hD List.perm_append_comm
  refine zk_callV (wr := zb_L G ad L8) (va_runV (As := []) (rest := []) ⟨hx, hb, hml, hown, hts⟩ (c_X3_clear l G ad L8 _) (cwV 0 hts gX2_clear_X3_clear rfl rfl rfl (by decide +kernel) ⟨Nat.le_of_ble_eq_true rfl, Nat.le_of_ble_eq_true rfl⟩) (zk_preV hE hA0 hS (zk_Papp hP0).1 (zk_Dapp hD0).1 (va_recv hK hP (ci := 2) (q0 := 9) rfl rfl)) rfl rfl hl.1 rfl (lv_room (Nat.le_of_ble_eq_true rfl)) dX2_clear_57 ⟨Nat.le_of_ble_eq_true rfl, Nat.le_of_ble_eq_true rfl⟩) hP0 hD0 hS hA (fun u10 H locs q11 hP hD hS => ?_)
  subst q11
  have hP := zk_Pperm hP List.perm_append_comm
  have hD := zk_Dperm hD List.perm_append_comm
  have hP : va_P G.1 vwCl (zb_L G ad (upr L8 9 (fun _ => nI 0)) ++ zb_M G ad (upr L8 9 (fun _ => nI 0))) H := hP
  have hD : va_D A (zb_L G ad (upr L8 9 (fun _ => nI 0)) ++ zb_M G ad (upr L8 9 (fun _ => nI 0))) := hD
  obtain ⟨L13, eL13⟩ : ∃ z : Nat → Nat → Int32, z = upr L8 9 (fun _ => nI 0) := ⟨_, rfl⟩
  have hP : va_P G.1 vwCl (zb_L G ad L13 ++ zb_M G ad L13) H := by rw [eL13]; exact hP
  have hD : va_D A (zb_L G ad L13 ++ zb_M G ad L13) := by rw [eL13]; exact hD
  exact zk_retv L13 hQ hx hb hr hlocks hS hP hD (Nat.le_of_ble_eq_true rfl) (Nat.le_of_ble_eq_true rfl) dX2_clear_60 (by subst_vars; rfl)

abbrev rmX3_copyFrom : Room := { frames := 1, cells := 0, slots := 0, locals := 40 }
set_option maxHeartbeats 4000000 in
set_option maxRecDepth 100000 in
/-- the meals of another -/
theorem c_X3_copyFrom (l : Launch) (G : zk_G) (ad bd : Nat → Nat) (L K : zL) : zk_V (S := Unit) l yX3_copyFrom wsX3_copyFrom rmX3_copyFrom G [.ref (ad 9), .ref (bd 9)] (zb_M G ad L ++ zb_M G bd K) (fun _ => True) (fun _ => zb_M G ad K ++ zb_M G bd K) := by
  refine zk_bodyV (cc := cX3_copyFrom) (maxL := 2) (ret := none) (by decide) rfl (Nat.le_of_ble_eq_true rfl) ?_
  intro p E0 s m args below meth cd A ls Q hF hQ
  obtain ⟨hx, hb, hml, hr, hts, hown, hlocks, -, hE, hP, hD, hS, hA, hA0, hl⟩ := hF
  have hK := hE.1
  have hl : lv_has ls 2 [(0, .ref (ad 9)), (1, .ref (bd 9))] := hl
  have w1 := hts _ (List.mem_of_getElem? (l := wsX3_copyFrom) (i := 1) (a := Cond.fieldLink RX3 11 "MealAccounts$Meals" "kinds" "[I") rfl)
  have w2 := hts _ (List.mem_of_getElem? (l := wsX3_copyFrom) (i := 2) (a := Cond.methodLink RX3 27 arraycopyName) rfl)
  have w3 := hts _ (List.mem_of_getElem? (l := wsX3_copyFrom) (i := 3) (a := Cond.native arraycopyName) rfl)
  have w4 := hts _ (List.mem_of_getElem? (l := wsX3_copyFrom) (i := 4) (a := Cond.static arraycopyName) rfl)
  have w5 := hts _ (List.mem_of_getElem? (l := wsX3_copyFrom) (i := 5) (a := Cond.initialized "java/lang/System") rfl)
  have w6 := hts _ (List.mem_of_getElem? (l := wsX3_copyFrom) (i := 6) (a := Cond.fieldLink RX3 15 "MealAccounts$Meals" "charges" "[I") rfl)
  have w7 := hts _ (List.mem_of_getElem? (l := wsX3_copyFrom) (i := 7) (a := Cond.fieldLink RX3 18 "MealAccounts$Meals" "payers" "[I") rfl)
  refine lv_aload_n hx hb dX3_copyFrom_0 rfl (lv_at hl 1 rfl) ?_
  refine va_get (D := G.1) (ci := 2) (v := .ref (bd 10)) (C := RX3) (T := TX3) (N := 3) hx hb hts (fun _ h => List.mem_cons_of_mem _ (List.mem_append_right _ h)) hown hK hP 4 rfl rfl 0 (by decide) w1 (fun _ h9 => h9) rfl dX3_copyFrom_1 ?_
  refine lv_iconst (v := nI 0) hx hb dX3_copyFrom_4 (by decide) ?_
  refine lv_aload_n hx hb dX3_copyFrom_5 rfl (lv_at hl 0 rfl) ?_
  refine va_get (D := G.1) (ci := 2) (v := .ref (ad 10)) (C := RX3) (T := TX3) (N := 3) hx hb hts (fun _ h => List.mem_cons_of_mem _ (List.mem_append_right _ h)) hown hK hP 0 rfl rfl 0 (by decide) w1 (fun _ h9 => h9) rfl dX3_copyFrom_6 ?_
  refine lv_iconst (v := nI 0) hx hb dX3_copyFrom_9 (by decide) ?_
  refine lv_sipush (v := nI 480) hx hb dX3_copyFrom_10 (by decide) ?_
  refine zk_copyN hx hb (hml.trans hl.1.symm) hown w2 w3 w4 w5 hK hP hD hS 5 1 0 rfl rfl rfl (by omega) (Nat.le_of_ble_eq_true rfl) (Nat.le_of_ble_eq_true rfl) dX3_copyFrom_13 (fun H locs hP hD hS => ?_)
  obtain ⟨L1, eL1⟩ : ∃ z : Nat → Nat → Int32, z = upr L 9 (K 9) := ⟨_, rfl⟩
  have hP : va_P G.1 vwCl (zb_M G ad L1 ++ zb_M G bd K) H := by rw [eL1]; exact hP
  have hD : va_D A (zb_M G ad L1 ++ zb_M G bd K) := by rw [eL1]; exact hD
  refine lv_aload_n hx hb dX3_copyFrom_16 rfl (lv_at hl 1 rfl) ?_
  refine va_get (D := G.1) (ci := 2) (v := .ref (bd 11)) (C := RX3) (T := TX3) (N := 3) hx hb hts (fun _ h => List.mem_cons_of_mem _ (List.mem_append_right _ h)) hown hK hP 4 rfl rfl 1 (by decide) w6 (fun _ h9 => h9) rfl dX3_copyFrom_17 ?_
  refine lv_iconst (v := nI 0) hx hb dX3_copyFrom_20 (by decide) ?_
  refine lv_aload_n hx hb dX3_copyFrom_21 rfl (lv_at hl 0 rfl) ?_
  refine va_get (D := G.1) (ci := 2) (v := .ref (ad 11)) (C := RX3) (T := TX3) (N := 3) hx hb hts (fun _ h => List.mem_cons_of_mem _ (List.mem_append_right _ h)) hown hK hP 0 rfl rfl 1 (by decide) w6 (fun _ h9 => h9) rfl dX3_copyFrom_22 ?_
  refine lv_iconst (v := nI 0) hx hb dX3_copyFrom_25 (by decide) ?_
  refine lv_sipush (v := nI 480) hx hb dX3_copyFrom_26 (by decide) ?_
  refine zk_copyN hx hb (hml.trans hl.1.symm) hown w2 w3 w4 w5 hK hP hD hS 6 2 0 rfl rfl rfl (by omega) (Nat.le_of_ble_eq_true rfl) (Nat.le_of_ble_eq_true rfl) dX3_copyFrom_29 (fun H locs hP hD hS => ?_)
  obtain ⟨L2, eL2⟩ : ∃ z : Nat → Nat → Int32, z = upr L1 10 (K 10) := ⟨_, rfl⟩
  have hP : va_P G.1 vwCl (zb_M G ad L2 ++ zb_M G bd K) H := by rw [eL2]; exact hP
  have hD : va_D A (zb_M G ad L2 ++ zb_M G bd K) := by rw [eL2]; exact hD
  refine lv_aload_n hx hb dX3_copyFrom_32 rfl (lv_at hl 1 rfl) ?_
  refine va_get (D := G.1) (ci := 2) (v := .ref (bd 12)) (C := RX3) (T := TX3) (N := 3) hx hb hts (fun _ h => List.mem_cons_of_mem _ (List.mem_append_right _ h)) hown hK hP 4 rfl rfl 2 (by decide) w7 (fun _ h9 => h9) rfl dX3_copyFrom_33 ?_
  refine lv_iconst (v := nI 0) hx hb dX3_copyFrom_36 (by decide) ?_
  refine lv_aload_n hx hb dX3_copyFrom_37 rfl (lv_at hl 0 rfl) ?_
  refine va_get (D := G.1) (ci := 2) (v := .ref (ad 12)) (C := RX3) (T := TX3) (N := 3) hx hb hts (fun _ h => List.mem_cons_of_mem _ (List.mem_append_right _ h)) hown hK hP 0 rfl rfl 2 (by decide) w7 (fun _ h9 => h9) rfl dX3_copyFrom_38 ?_
  refine lv_iconst (v := nI 0) hx hb dX3_copyFrom_41 (by decide) ?_
  refine lv_sipush (v := nI 480) hx hb dX3_copyFrom_42 (by decide) ?_
  refine zk_copyN hx hb (hml.trans hl.1.symm) hown w2 w3 w4 w5 hK hP hD hS 7 3 0 rfl rfl rfl (by omega) (Nat.le_of_ble_eq_true rfl) (Nat.le_of_ble_eq_true rfl) dX3_copyFrom_45 (fun H locs hP hD hS => ?_)
  obtain ⟨L3, eL3⟩ : ∃ z : Nat → Nat → Int32, z = upr L2 11 (K 11) := ⟨_, rfl⟩
  have hP : va_P G.1 vwCl (zb_M G ad L3 ++ zb_M G bd K) H := by rw [eL3]; exact hP
  have hD : va_D A (zb_M G ad L3 ++ zb_M G bd K) := by rw [eL3]; exact hD
  subst eL1 eL2 eL3
  have hP : va_P G.1 vwCl (zb_M G ad K ++ zb_M G bd K) H := hP
  have hD : va_D A (zb_M G ad K ++ zb_M G bd K) := hD
  exact zk_retv () hQ hx hb hr hlocks hS hP hD (Nat.le_of_ble_eq_true rfl) (Nat.le_of_ble_eq_true rfl) dX3_copyFrom_48 (trivial)

abbrev rmX2_copyBalancesFrom : Room := { frames := 1, cells := 0, slots := 0, locals := 40 }
set_option maxHeartbeats 4000000 in
set_option maxRecDepth 100000 in
/-- the balances of another -/
theorem c_X2_copyBalancesFrom (l : Launch) (G : zk_G) (ad bd : Nat → Nat) (L K : zL) : zk_V (S := Unit) l yX2_copyBalancesFrom wsX2_copyBalancesFrom rmX2_copyBalancesFrom G [.ref (ad 0), .ref (bd 0)] ((zb_L G ad L ++ zb_M G ad L) ++ (zb_L G bd K ++ zb_M G bd K)) (fun _ => True) (fun _ => (zb_L G ad (upr L 3 (K 3)) ++ zb_M G ad (upr L 3 (K 3))) ++ (zb_L G bd K ++ zb_M G bd K)) := by
  refine zk_bodyV (cc := cX2_copyBalancesFrom) (maxL := 2) (ret := none) (by decide) rfl (Nat.le_of_ble_eq_true rfl) ?_
  intro p E0 s m args below meth cd A ls Q hF hQ
  obtain ⟨hx, hb, hml, hr, hts, hown, hlocks, -, hE, hP, hD, hS, hA, hA0, hl⟩ := hF
  have hK := hE.1
  have hl : lv_has ls 2 [(0, .ref (ad 0)), (1, .ref (bd 0))] := hl
  have w1 := hts _ (List.mem_of_getElem? (l := wsX2_copyBalancesFrom) (i := 1) (a := Cond.fieldLink RX2 18 "MealAccounts$Ledger" "balanceOf" "[I") rfl)
  have w2 := hts _ (List.mem_of_getElem? (l := wsX2_copyBalancesFrom) (i := 2) (a := Cond.methodLink RX2 68 arraycopyName) rfl)
  have w3 := hts _ (List.mem_of_getElem? (l := wsX2_copyBalancesFrom) (i := 3) (a := Cond.native arraycopyName) rfl)
  have w4 := hts _ (List.mem_of_getElem? (l := wsX2_copyBalancesFrom) (i := 4) (a := Cond.static arraycopyName) rfl)
  have w5 := hts _ (List.mem_of_getElem? (l := wsX2_copyBalancesFrom) (i := 5) (a := Cond.initialized "java/lang/System") rfl)
  refine lv_aload_n hx hb dX2_copyBalancesFrom_0 rfl (lv_at hl 1 rfl) ?_
  refine va_get (D := G.1) (ci := 1) (v := .ref (bd 3)) (C := RX2) (T := TX2) (N := 14) hx hb hts (fun _ h => List.mem_cons_of_mem _ (List.mem_append_right _ h)) hown hK hP 13 rfl rfl 7 (by decide) w1 (fun _ h9 => h9) rfl dX2_copyBalancesFrom_1 ?_
  refine lv_iconst (v := nI 0) hx hb dX2_copyBalancesFrom_4 (by decide) ?_
  refine lv_aload_n hx hb dX2_copyBalancesFrom_5 rfl (lv_at hl 0 rfl) ?_
  refine va_get (D := G.1) (ci := 1) (v := .ref (ad 3)) (C := RX2) (T := TX2) (N := 14) hx hb hts (fun _ h => List.mem_cons_of_mem _ (List.mem_append_right _ h)) hown hK hP 0 rfl rfl 7 (by decide) w1 (fun _ h9 => h9) rfl dX2_copyBalancesFrom_6 ?_
  refine lv_iconst (v := nI 0) hx hb dX2_copyBalancesFrom_9 (by decide) ?_
  refine lv_bipush (v := nI 12) hx hb dX2_copyBalancesFrom_10 (by decide) ?_
  refine zk_copyN hx hb (hml.trans hl.1.symm) hown w2 w3 w4 w5 hK hP hD hS 16 3 0 rfl rfl rfl (by omega) (Nat.le_of_ble_eq_true rfl) (Nat.le_of_ble_eq_true rfl) dX2_copyBalancesFrom_12 (fun H locs hP hD hS => ?_)
  obtain ⟨L1, eL1⟩ : ∃ z : Nat → Nat → Int32, z = upr L 3 (K 3) := ⟨_, rfl⟩
  have hP : va_P G.1 vwCl (zb_L G ad L1 ++ zb_M G ad L1 ++ (zb_L G bd K ++ zb_M G bd K)) H := by rw [eL1]; exact hP
  have hD : va_D A (zb_L G ad L1 ++ zb_M G ad L1 ++ (zb_L G bd K ++ zb_M G bd K)) := by rw [eL1]; exact hD
  subst eL1
  have hP : va_P G.1 vwCl ((zb_L G ad (upr L 3 (K 3)) ++ zb_M G ad (upr L 3 (K 3))) ++ (zb_L G bd K ++ zb_M G bd K)) H := hP
  have hD : va_D A ((zb_L G ad (upr L 3 (K 3)) ++ zb_M G ad (upr L 3 (K 3))) ++ (zb_L G bd K ++ zb_M G bd K)) := hD
  exact zk_retv () hQ hx hb hr hlocks hS hP hD (Nat.le_of_ble_eq_true rfl) (Nat.le_of_ble_eq_true rfl) dX2_copyBalancesFrom_15 (trivial)

abbrev rmX2_copyFrom : Room := { frames := 2, cells := 0, slots := 0, locals := 61 }
set_option maxHeartbeats 4000000 in
set_option maxRecDepth 100000 in
/-- all of another -/
theorem c_X2_copyFrom (l : Launch) (G : zk_G) (ad bd : Nat → Nat) (L K : zL) : zk_V (S := Unit) l yX2_copyFrom wsX2_copyFrom rmX2_copyFrom G [.ref (ad 0), .ref (bd 0)] ((zb_L G ad L ++ zb_M G ad L) ++ (zb_L G bd K ++ zb_M G bd K)) (fun _ => True) (fun _ => (zb_L G ad K ++ zb_M G ad K) ++ (zb_L G bd K ++ zb_M G bd K)) := by
  refine zk_bodyV (cc := cX2_copyFrom) (maxL := 2) (ret := none) (by decide) rfl (Nat.le_of_ble_eq_true rfl) ?_
  intro p E0 s m args below meth cd A ls Q hF hQ
  obtain ⟨hx, hb, hml, hr, hts, hown, hlocks, -, hE, hP, hD, hS, hA, hA0, hl⟩ := hF
  have hK := hE.1
  have hl : lv_has ls 2 [(0, .ref (ad 0)), (1, .ref (bd 0))] := hl
  have w1 := hts _ (List.mem_of_getElem? (l := wsX2_copyFrom) (i := 1) (a := Cond.fieldLink RX2 50 "MealAccounts$Ledger" "today" "I") rfl)
  have w2 := hts _ (List.mem_of_getElem? (l := wsX2_copyFrom) (i := 2) (a := Cond.fieldLink RX2 53 "MealAccounts$Ledger" "children" "I") rfl)
  have w3 := hts _ (List.mem_of_getElem? (l := wsX2_copyFrom) (i := 3) (a := Cond.fieldLink RX2 43 "MealAccounts$Ledger" "price" "I") rfl)
  have w4 := hts _ (List.mem_of_getElem? (l := wsX2_copyFrom) (i := 4) (a := Cond.fieldLink RX2 47 "MealAccounts$Ledger" "limit" "I") rfl)
  have w5 := hts _ (List.mem_of_getElem? (l := wsX2_copyFrom) (i := 5) (a := Cond.fieldLink RX2 56 "MealAccounts$Ledger" "paidIn" "I") rfl)
  have w6 := hts _ (List.mem_of_getElem? (l := wsX2_copyFrom) (i := 6) (a := Cond.fieldLink RX2 9 "MealAccounts$Ledger" "familyOf" "[I") rfl)
  have w7 := hts _ (List.mem_of_getElem? (l := wsX2_copyFrom) (i := 7) (a := Cond.methodLink RX2 68 arraycopyName) rfl)
  have w8 := hts _ (List.mem_of_getElem? (l := wsX2_copyFrom) (i := 8) (a := Cond.native arraycopyName) rfl)
  have w9 := hts _ (List.mem_of_getElem? (l := wsX2_copyFrom) (i := 9) (a := Cond.static arraycopyName) rfl)
  have w10 := hts _ (List.mem_of_getElem? (l := wsX2_copyFrom) (i := 10) (a := Cond.initialized "java/lang/System") rfl)
  have w11 := hts _ (List.mem_of_getElem? (l := wsX2_copyFrom) (i := 11) (a := Cond.fieldLink RX2 15 "MealAccounts$Ledger" "dietOf" "[I") rfl)
  have w12 := hts _ (List.mem_of_getElem? (l := wsX2_copyFrom) (i := 12) (a := Cond.fieldLink RX2 21 "MealAccounts$Ledger" "firstDayOf" "[I") rfl)
  have w13 := hts _ (List.mem_of_getElem? (l := wsX2_copyFrom) (i := 13) (a := Cond.fieldLink RX2 24 "MealAccounts$Ledger" "lastDayOf" "[I") rfl)
  have w14 := hts _ (List.mem_of_getElem? (l := wsX2_copyFrom) (i := 14) (a := Cond.fieldLink RX2 27 "MealAccounts$Ledger" "menuOn" "[I") rfl)
  have w15 := hts _ (List.mem_of_getElem? (l := wsX2_copyFrom) (i := 15) (a := Cond.fieldLink RX2 30 "MealAccounts$Ledger" "sharing" "[I") rfl)
  have w16 := hts _ (List.mem_of_getElem? (l := wsX2_copyFrom) (i := 16) (a := Cond.fieldLink RX2 33 "MealAccounts$Ledger" "writtenOffFor" "[I") rfl)
  have w17 := hts _ (List.mem_of_getElem? (l := wsX2_copyFrom) (i := 17) (a := Cond.fieldLink RX2 39 "MealAccounts$Ledger" "meals" "LMealAccounts$Meals;") rfl)
  refine lv_aload_n hx hb dX2_copyFrom_0 rfl (lv_at hl 0 rfl) ?_
  refine lv_aload_n hx hb dX2_copyFrom_1 rfl (lv_at hl 1 rfl) ?_
  refine va_get (D := G.1) (ci := 1) (v := .int (K 0 0)) (C := RX2) (T := TX2) (N := 14) hx hb hts (fun _ h => List.mem_cons_of_mem _ (List.mem_append_left _ (List.mem_append_right _ h))) hown hK hP 13 rfl rfl 0 (by decide) w1 (fun _ h9 => h9) rfl dX2_copyFrom_2 ?_
  refine lv_topi (fun x1 ex1 => ?_)
  refine va_put (D := G.1) (ci := 1) (v := .int x1) (ty := .int) (C := RX2) (T := TX2) (N := 14) hx hb hts (fun _ h => List.mem_cons_of_mem _ (List.mem_append_left _ (List.mem_append_right _ h))) tyX2 tyX2_ok nmX2 hown hK hP hD hS 0 rfl rfl 0 (by decide) w1 (fun _ h9 => h9) rfl (by decide +kernel) rfl rfl (Nat.le_of_ble_eq_true rfl) dX2_copyFrom_5 (fun H locs hP hD hS => ?_)
  obtain ⟨L2, eL2⟩ : ∃ z : Nat → Nat → Int32, z = up2 L 0 0 x1 := ⟨_, rfl⟩
  have hP : va_P G.1 vwCl (zb_L G ad L2 ++ zb_M G ad L2 ++ (zb_L G bd K ++ zb_M G bd K)) H := by rw [eL2]; exact hP
  have hD : va_D A (zb_L G ad L2 ++ zb_M G ad L2 ++ (zb_L G bd K ++ zb_M G bd K)) := by rw [eL2]; exact hD
  refine lv_aload_n hx hb dX2_copyFrom_8 rfl (lv_at hl 0 rfl) ?_
  refine lv_aload_n hx hb dX2_copyFrom_9 rfl (lv_at hl 1 rfl) ?_
  refine va_get (D := G.1) (ci := 1) (v := .int (K 0 1)) (C := RX2) (T := TX2) (N := 14) hx hb hts (fun _ h => List.mem_cons_of_mem _ (List.mem_append_left _ (List.mem_append_right _ h))) hown hK hP 13 rfl rfl 1 (by decide) w2 (fun _ h9 => h9) rfl dX2_copyFrom_10 ?_
  refine lv_topi (fun x3 ex3 => ?_)
  refine va_put (D := G.1) (ci := 1) (v := .int x3) (ty := .int) (C := RX2) (T := TX2) (N := 14) hx hb hts (fun _ h => List.mem_cons_of_mem _ (List.mem_append_left _ (List.mem_append_right _ h))) tyX2 tyX2_ok nmX2 hown hK hP hD hS 0 rfl rfl 1 (by decide) w2 (fun _ h9 => h9) rfl (by decide +kernel) rfl rfl (Nat.le_of_ble_eq_true rfl) dX2_copyFrom_13 (fun H locs hP hD hS => ?_)
  obtain ⟨L4, eL4⟩ : ∃ z : Nat → Nat → Int32, z = up2 L2 0 1 x3 := ⟨_, rfl⟩
  have hP : va_P G.1 vwCl (zb_L G ad L4 ++ zb_M G ad L4 ++ (zb_L G bd K ++ zb_M G bd K)) H := by rw [eL4]; exact hP
  have hD : va_D A (zb_L G ad L4 ++ zb_M G ad L4 ++ (zb_L G bd K ++ zb_M G bd K)) := by rw [eL4]; exact hD
  refine lv_aload_n hx hb dX2_copyFrom_16 rfl (lv_at hl 0 rfl) ?_
  refine lv_aload_n hx hb dX2_copyFrom_17 rfl (lv_at hl 1 rfl) ?_
  refine va_get (D := G.1) (ci := 1) (v := .int (K 0 2)) (C := RX2) (T := TX2) (N := 14) hx hb hts (fun _ h => List.mem_cons_of_mem _ (List.mem_append_left _ (List.mem_append_right _ h))) hown hK hP 13 rfl rfl 2 (by decide) w3 (fun _ h9 => h9) rfl dX2_copyFrom_18 ?_
  refine lv_topi (fun x5 ex5 => ?_)
  refine va_put (D := G.1) (ci := 1) (v := .int x5) (ty := .int) (C := RX2) (T := TX2) (N := 14) hx hb hts (fun _ h => List.mem_cons_of_mem _ (List.mem_append_left _ (List.mem_append_right _ h))) tyX2 tyX2_ok nmX2 hown hK hP hD hS 0 rfl rfl 2 (by decide) w3 (fun _ h9 => h9) rfl (by decide +kernel) rfl rfl (Nat.le_of_ble_eq_true rfl) dX2_copyFrom_21 (fun H locs hP hD hS => ?_)
  obtain ⟨L6, eL6⟩ : ∃ z : Nat → Nat → Int32, z = up2 L4 0 2 x5 := ⟨_, rfl⟩
  have hP : va_P G.1 vwCl (zb_L G ad L6 ++ zb_M G ad L6 ++ (zb_L G bd K ++ zb_M G bd K)) H := by rw [eL6]; exact hP
  have hD : va_D A (zb_L G ad L6 ++ zb_M G ad L6 ++ (zb_L G bd K ++ zb_M G bd K)) := by rw [eL6]; exact hD
  refine lv_aload_n hx hb dX2_copyFrom_24 rfl (lv_at hl 0 rfl) ?_
  refine lv_aload_n hx hb dX2_copyFrom_25 rfl (lv_at hl 1 rfl) ?_
  refine va_get (D := G.1) (ci := 1) (v := .int (K 0 3)) (C := RX2) (T := TX2) (N := 14) hx hb hts (fun _ h => List.mem_cons_of_mem _ (List.mem_append_left _ (List.mem_append_right _ h))) hown hK hP 13 rfl rfl 3 (by decide) w4 (fun _ h9 => h9) rfl dX2_copyFrom_26 ?_
  refine lv_topi (fun x7 ex7 => ?_)
  refine va_put (D := G.1) (ci := 1) (v := .int x7) (ty := .int) (C := RX2) (T := TX2) (N := 14) hx hb hts (fun _ h => List.mem_cons_of_mem _ (List.mem_append_left _ (List.mem_append_right _ h))) tyX2 tyX2_ok nmX2 hown hK hP hD hS 0 rfl rfl 3 (by decide) w4 (fun _ h9 => h9) rfl (by decide +kernel) rfl rfl (Nat.le_of_ble_eq_true rfl) dX2_copyFrom_29 (fun H locs hP hD hS => ?_)
  obtain ⟨L8, eL8⟩ : ∃ z : Nat → Nat → Int32, z = up2 L6 0 3 x7 := ⟨_, rfl⟩
  have hP : va_P G.1 vwCl (zb_L G ad L8 ++ zb_M G ad L8 ++ (zb_L G bd K ++ zb_M G bd K)) H := by rw [eL8]; exact hP
  have hD : va_D A (zb_L G ad L8 ++ zb_M G ad L8 ++ (zb_L G bd K ++ zb_M G bd K)) := by rw [eL8]; exact hD
  refine lv_aload_n hx hb dX2_copyFrom_32 rfl (lv_at hl 0 rfl) ?_
  refine lv_aload_n hx hb dX2_copyFrom_33 rfl (lv_at hl 1 rfl) ?_
  refine va_get (D := G.1) (ci := 1) (v := .int (K 0 4)) (C := RX2) (T := TX2) (N := 14) hx hb hts (fun _ h => List.mem_cons_of_mem _ (List.mem_append_left _ (List.mem_append_right _ h))) hown hK hP 13 rfl rfl 4 (by decide) w5 (fun _ h9 => h9) rfl dX2_copyFrom_34 ?_
  refine lv_topi (fun x9 ex9 => ?_)
  refine va_put (D := G.1) (ci := 1) (v := .int x9) (ty := .int) (C := RX2) (T := TX2) (N := 14) hx hb hts (fun _ h => List.mem_cons_of_mem _ (List.mem_append_left _ (List.mem_append_right _ h))) tyX2 tyX2_ok nmX2 hown hK hP hD hS 0 rfl rfl 4 (by decide) w5 (fun _ h9 => h9) rfl (by decide +kernel) rfl rfl (Nat.le_of_ble_eq_true rfl) dX2_copyFrom_37 (fun H locs hP hD hS => ?_)
  obtain ⟨L10, eL10⟩ : ∃ z : Nat → Nat → Int32, z = up2 L8 0 4 x9 := ⟨_, rfl⟩
  have hP : va_P G.1 vwCl (zb_L G ad L10 ++ zb_M G ad L10 ++ (zb_L G bd K ++ zb_M G bd K)) H := by rw [eL10]; exact hP
  have hD : va_D A (zb_L G ad L10 ++ zb_M G ad L10 ++ (zb_L G bd K ++ zb_M G bd K)) := by rw [eL10]; exact hD
  refine lv_aload_n hx hb dX2_copyFrom_40 rfl (lv_at hl 1 rfl) ?_
  refine va_get (D := G.1) (ci := 1) (v := .ref (bd 1)) (C := RX2) (T := TX2) (N := 14) hx hb hts (fun _ h => List.mem_cons_of_mem _ (List.mem_append_left _ (List.mem_append_right _ h))) hown hK hP 13 rfl rfl 5 (by decide) w6 (fun _ h9 => h9) rfl dX2_copyFrom_41 ?_
  refine lv_iconst (v := nI 0) hx hb dX2_copyFrom_44 (by decide) ?_
  refine lv_aload_n hx hb dX2_copyFrom_45 rfl (lv_at hl 0 rfl) ?_
  refine va_get (D := G.1) (ci := 1) (v := .ref (ad 1)) (C := RX2) (T := TX2) (N := 14) hx hb hts (fun _ h => List.mem_cons_of_mem _ (List.mem_append_left _ (List.mem_append_right _ h))) hown hK hP 0 rfl rfl 5 (by decide) w6 (fun _ h9 => h9) rfl dX2_copyFrom_46 ?_
  refine lv_iconst (v := nI 0) hx hb dX2_copyFrom_49 (by decide) ?_
  refine lv_bipush (v := nI 12) hx hb dX2_copyFrom_50 (by decide) ?_
  refine zk_copyN hx hb (hml.trans hl.1.symm) hown w7 w8 w9 w10 hK hP hD hS 14 1 0 rfl rfl rfl (by omega) (Nat.le_of_ble_eq_true rfl) (Nat.le_of_ble_eq_true rfl) dX2_copyFrom_52 (fun H locs hP hD hS => ?_)
  obtain ⟨L11, eL11⟩ : ∃ z : Nat → Nat → Int32, z = upr L10 1 (K 1) := ⟨_, rfl⟩
  have hP : va_P G.1 vwCl (zb_L G ad L11 ++ zb_M G ad L11 ++ (zb_L G bd K ++ zb_M G bd K)) H := by rw [eL11]; exact hP
  have hD : va_D A (zb_L G ad L11 ++ zb_M G ad L11 ++ (zb_L G bd K ++ zb_M G bd K)) := by rw [eL11]; exact hD
  refine lv_aload_n hx hb dX2_copyFrom_55 rfl (lv_at hl 1 rfl) ?_
  refine va_get (D := G.1) (ci := 1) (v := .ref (bd 2)) (C := RX2) (T := TX2) (N := 14) hx hb hts (fun _ h => List.mem_cons_of_mem _ (List.mem_append_left _ (List.mem_append_right _ h))) hown hK hP 13 rfl rfl 6 (by decide) w11 (fun _ h9 => h9) rfl dX2_copyFrom_56 ?_
  refine lv_iconst (v := nI 0) hx hb dX2_copyFrom_59 (by decide) ?_
  refine lv_aload_n hx hb dX2_copyFrom_60 rfl (lv_at hl 0 rfl) ?_
  refine va_get (D := G.1) (ci := 1) (v := .ref (ad 2)) (C := RX2) (T := TX2) (N := 14) hx hb hts (fun _ h => List.mem_cons_of_mem _ (List.mem_append_left _ (List.mem_append_right _ h))) hown hK hP 0 rfl rfl 6 (by decide) w11 (fun _ h9 => h9) rfl dX2_copyFrom_61 ?_
  refine lv_iconst (v := nI 0) hx hb dX2_copyFrom_64 (by decide) ?_
  refine lv_bipush (v := nI 12) hx hb dX2_copyFrom_65 (by decide) ?_
  refine zk_copyN hx hb (hml.trans hl.1.symm) hown w7 w8 w9 w10 hK hP hD hS 15 2 0 rfl rfl rfl (by omega) (Nat.le_of_ble_eq_true rfl) (Nat.le_of_ble_eq_true rfl) dX2_copyFrom_67 (fun H locs hP hD hS => ?_)
  obtain ⟨L12, eL12⟩ : ∃ z : Nat → Nat → Int32, z = upr L11 2 (K 2) := ⟨_, rfl⟩
  have hP : va_P G.1 vwCl (zb_L G ad L12 ++ zb_M G ad L12 ++ (zb_L G bd K ++ zb_M G bd K)) H := by rw [eL12]; exact hP
  have hD : va_D A (zb_L G ad L12 ++ zb_M G ad L12 ++ (zb_L G bd K ++ zb_M G bd K)) := by rw [eL12]; exact hD
  refine lv_aload_n hx hb dX2_copyFrom_70 rfl (lv_at hl 1 rfl) ?_
  refine va_get (D := G.1) (ci := 1) (v := .ref (bd 4)) (C := RX2) (T := TX2) (N := 14) hx hb hts (fun _ h => List.mem_cons_of_mem _ (List.mem_append_left _ (List.mem_append_right _ h))) hown hK hP 13 rfl rfl 8 (by decide) w12 (fun _ h9 => h9) rfl dX2_copyFrom_71 ?_
  refine lv_iconst (v := nI 0) hx hb dX2_copyFrom_74 (by decide) ?_
  refine lv_aload_n hx hb dX2_copyFrom_75 rfl (lv_at hl 0 rfl) ?_
  refine va_get (D := G.1) (ci := 1) (v := .ref (ad 4)) (C := RX2) (T := TX2) (N := 14) hx hb hts (fun _ h => List.mem_cons_of_mem _ (List.mem_append_left _ (List.mem_append_right _ h))) hown hK hP 0 rfl rfl 8 (by decide) w12 (fun _ h9 => h9) rfl dX2_copyFrom_76 ?_
  refine lv_iconst (v := nI 0) hx hb dX2_copyFrom_79 (by decide) ?_
  refine lv_bipush (v := nI 12) hx hb dX2_copyFrom_80 (by decide) ?_
  refine zk_copyN hx hb (hml.trans hl.1.symm) hown w7 w8 w9 w10 hK hP hD hS 17 4 0 rfl rfl rfl (by omega) (Nat.le_of_ble_eq_true rfl) (Nat.le_of_ble_eq_true rfl) dX2_copyFrom_82 (fun H locs hP hD hS => ?_)
  obtain ⟨L13, eL13⟩ : ∃ z : Nat → Nat → Int32, z = upr L12 4 (K 4) := ⟨_, rfl⟩
  have hP : va_P G.1 vwCl (zb_L G ad L13 ++ zb_M G ad L13 ++ (zb_L G bd K ++ zb_M G bd K)) H := by rw [eL13]; exact hP
  have hD : va_D A (zb_L G ad L13 ++ zb_M G ad L13 ++ (zb_L G bd K ++ zb_M G bd K)) := by rw [eL13]; exact hD
  refine lv_aload_n hx hb dX2_copyFrom_85 rfl (lv_at hl 1 rfl) ?_
  refine va_get (D := G.1) (ci := 1) (v := .ref (bd 5)) (C := RX2) (T := TX2) (N := 14) hx hb hts (fun _ h => List.mem_cons_of_mem _ (List.mem_append_left _ (List.mem_append_right _ h))) hown hK hP 13 rfl rfl 9 (by decide) w13 (fun _ h9 => h9) rfl dX2_copyFrom_86 ?_
  refine lv_iconst (v := nI 0) hx hb dX2_copyFrom_89 (by decide) ?_
  refine lv_aload_n hx hb dX2_copyFrom_90 rfl (lv_at hl 0 rfl) ?_
  refine va_get (D := G.1) (ci := 1) (v := .ref (ad 5)) (C := RX2) (T := TX2) (N := 14) hx hb hts (fun _ h => List.mem_cons_of_mem _ (List.mem_append_left _ (List.mem_append_right _ h))) hown hK hP 0 rfl rfl 9 (by decide) w13 (fun _ h9 => h9) rfl dX2_copyFrom_91 ?_
  refine lv_iconst (v := nI 0) hx hb dX2_copyFrom_94 (by decide) ?_
  refine lv_bipush (v := nI 12) hx hb dX2_copyFrom_95 (by decide) ?_
  refine zk_copyN hx hb (hml.trans hl.1.symm) hown w7 w8 w9 w10 hK hP hD hS 18 5 0 rfl rfl rfl (by omega) (Nat.le_of_ble_eq_true rfl) (Nat.le_of_ble_eq_true rfl) dX2_copyFrom_97 (fun H locs hP hD hS => ?_)
  obtain ⟨L14, eL14⟩ : ∃ z : Nat → Nat → Int32, z = upr L13 5 (K 5) := ⟨_, rfl⟩
  have hP : va_P G.1 vwCl (zb_L G ad L14 ++ zb_M G ad L14 ++ (zb_L G bd K ++ zb_M G bd K)) H := by rw [eL14]; exact hP
  have hD : va_D A (zb_L G ad L14 ++ zb_M G ad L14 ++ (zb_L G bd K ++ zb_M G bd K)) := by rw [eL14]; exact hD
  refine lv_aload_n hx hb dX2_copyFrom_100 rfl (lv_at hl 1 rfl) ?_
  refine va_get (D := G.1) (ci := 1) (v := .ref (bd 6)) (C := RX2) (T := TX2) (N := 14) hx hb hts (fun _ h => List.mem_cons_of_mem _ (List.mem_append_left _ (List.mem_append_right _ h))) hown hK hP 13 rfl rfl 10 (by decide) w14 (fun _ h9 => h9) rfl dX2_copyFrom_101 ?_
  refine lv_iconst (v := nI 0) hx hb dX2_copyFrom_104 (by decide) ?_
  refine lv_aload_n hx hb dX2_copyFrom_105 rfl (lv_at hl 0 rfl) ?_
  refine va_get (D := G.1) (ci := 1) (v := .ref (ad 6)) (C := RX2) (T := TX2) (N := 14) hx hb hts (fun _ h => List.mem_cons_of_mem _ (List.mem_append_left _ (List.mem_append_right _ h))) hown hK hP 0 rfl rfl 10 (by decide) w14 (fun _ h9 => h9) rfl dX2_copyFrom_106 ?_
  refine lv_iconst (v := nI 0) hx hb dX2_copyFrom_109 (by decide) ?_
  refine lv_bipush (v := nI 40) hx hb dX2_copyFrom_110 (by decide) ?_
  refine zk_copyN hx hb (hml.trans hl.1.symm) hown w7 w8 w9 w10 hK hP hD hS 19 6 0 rfl rfl rfl (by omega) (Nat.le_of_ble_eq_true rfl) (Nat.le_of_ble_eq_true rfl) dX2_copyFrom_112 (fun H locs hP hD hS => ?_)
  obtain ⟨L15, eL15⟩ : ∃ z : Nat → Nat → Int32, z = upr L14 6 (K 6) := ⟨_, rfl⟩
  have hP : va_P G.1 vwCl (zb_L G ad L15 ++ zb_M G ad L15 ++ (zb_L G bd K ++ zb_M G bd K)) H := by rw [eL15]; exact hP
  have hD : va_D A (zb_L G ad L15 ++ zb_M G ad L15 ++ (zb_L G bd K ++ zb_M G bd K)) := by rw [eL15]; exact hD
  refine lv_aload_n hx hb dX2_copyFrom_115 rfl (lv_at hl 1 rfl) ?_
  refine va_get (D := G.1) (ci := 1) (v := .ref (bd 7)) (C := RX2) (T := TX2) (N := 14) hx hb hts (fun _ h => List.mem_cons_of_mem _ (List.mem_append_left _ (List.mem_append_right _ h))) hown hK hP 13 rfl rfl 11 (by decide) w15 (fun _ h9 => h9) rfl dX2_copyFrom_116 ?_
  refine lv_iconst (v := nI 0) hx hb dX2_copyFrom_119 (by decide) ?_
  refine lv_aload_n hx hb dX2_copyFrom_120 rfl (lv_at hl 0 rfl) ?_
  refine va_get (D := G.1) (ci := 1) (v := .ref (ad 7)) (C := RX2) (T := TX2) (N := 14) hx hb hts (fun _ h => List.mem_cons_of_mem _ (List.mem_append_left _ (List.mem_append_right _ h))) hown hK hP 0 rfl rfl 11 (by decide) w15 (fun _ h9 => h9) rfl dX2_copyFrom_121 ?_
  refine lv_iconst (v := nI 0) hx hb dX2_copyFrom_124 (by decide) ?_
  refine lv_iconst (v := nI 5) hx hb dX2_copyFrom_125 (by decide) ?_
  refine zk_copyN hx hb (hml.trans hl.1.symm) hown w7 w8 w9 w10 hK hP hD hS 20 7 0 rfl rfl rfl (by omega) (Nat.le_of_ble_eq_true rfl) (Nat.le_of_ble_eq_true rfl) dX2_copyFrom_126 (fun H locs hP hD hS => ?_)
  obtain ⟨L16, eL16⟩ : ∃ z : Nat → Nat → Int32, z = upr L15 7 (K 7) := ⟨_, rfl⟩
  have hP : va_P G.1 vwCl (zb_L G ad L16 ++ zb_M G ad L16 ++ (zb_L G bd K ++ zb_M G bd K)) H := by rw [eL16]; exact hP
  have hD : va_D A (zb_L G ad L16 ++ zb_M G ad L16 ++ (zb_L G bd K ++ zb_M G bd K)) := by rw [eL16]; exact hD
  refine lv_aload_n hx hb dX2_copyFrom_129 rfl (lv_at hl 1 rfl) ?_
  refine va_get (D := G.1) (ci := 1) (v := .ref (bd 8)) (C := RX2) (T := TX2) (N := 14) hx hb hts (fun _ h => List.mem_cons_of_mem _ (List.mem_append_left _ (List.mem_append_right _ h))) hown hK hP 13 rfl rfl 12 (by decide) w16 (fun _ h9 => h9) rfl dX2_copyFrom_130 ?_
  refine lv_iconst (v := nI 0) hx hb dX2_copyFrom_133 (by decide) ?_
  refine lv_aload_n hx hb dX2_copyFrom_134 rfl (lv_at hl 0 rfl) ?_
  refine va_get (D := G.1) (ci := 1) (v := .ref (ad 8)) (C := RX2) (T := TX2) (N := 14) hx hb hts (fun _ h => List.mem_cons_of_mem _ (List.mem_append_left _ (List.mem_append_right _ h))) hown hK hP 0 rfl rfl 12 (by decide) w16 (fun _ h9 => h9) rfl dX2_copyFrom_135 ?_
  refine lv_iconst (v := nI 0) hx hb dX2_copyFrom_138 (by decide) ?_
  refine lv_iconst (v := nI 5) hx hb dX2_copyFrom_139 (by decide) ?_
  refine zk_copyN hx hb (hml.trans hl.1.symm) hown w7 w8 w9 w10 hK hP hD hS 21 8 0 rfl rfl rfl (by omega) (Nat.le_of_ble_eq_true rfl) (Nat.le_of_ble_eq_true rfl) dX2_copyFrom_140 (fun H locs hP hD hS => ?_)
  obtain ⟨L17, eL17⟩ : ∃ z : Nat → Nat → Int32, z = upr L16 8 (K 8) := ⟨_, rfl⟩
  have hP : va_P G.1 vwCl (zb_L G ad L17 ++ zb_M G ad L17 ++ (zb_L G bd K ++ zb_M G bd K)) H := by rw [eL17]; exact hP
  have hD : va_D A (zb_L G ad L17 ++ zb_M G ad L17 ++ (zb_L G bd K ++ zb_M G bd K)) := by rw [eL17]; exact hD
  refine lv_aload_n hx hb dX2_copyFrom_143 rfl (lv_at hl 0 rfl) ?_
  refine lv_aload_n hx hb dX2_copyFrom_144 rfl (lv_at hl 1 rfl) ?_
  have hP0 : va_P G.1 vwCl (((zb_L G ad L17 ++ zb_M G ad L17) ++ (zb_L G bd K ++ zb_M G bd K)) ++ (([] : va_W))) H := hP.sub (ws' := ((zb_L G ad L17 ++ zb_M G ad L17) ++ (zb_L G bd K ++ zb_M G bd K)) ++ (([] : va_W))) [0, 1, 2, 3, 4, 5, 6, 7, 8, 9, 10, 11, 12, 13, 14, 15, 16, 17, 18, 19, 20, 21, 22, 23, 24, 25] rfl
  have hD0 : va_D A (((zb_L G ad L17 ++ zb_M G ad L17) ++ (zb_L G bd K ++ zb_M G bd K)) ++ (([] : va_W))) := hD.sub (ws' := ((zb_L G ad L17 ++ zb_M G ad L17) ++ (zb_L G bd K ++ zb_M G bd K)) ++ (([] : va_W))) [0, 1, 2, 3, 4, 5, 6, 7, 8, 9, 10, 11, 12, 13, 14, 15, 16, 17, 18, 19, 20, 21, 22, 23, 24, 25] (by decide) rfl
  refine zk_callV (wr := ([] : va_W)) (va_runV (As := [.ref (bd 0)]) (rest := []) ⟨hx, hb, hml, hown, hts⟩ (c_X2_copyBalancesFrom l G ad bd L17 K _) (cwV 1 hts gX2_copyFrom_X2_copyBalancesFrom rfl rfl rfl (by decide +kernel) ⟨Nat.le_of_ble_eq_true rfl, Nat.le_of_ble_eq_true rfl⟩) (zk_preV hE hA0 hS (zk_Papp hP0).1 (zk_Dapp hD0).1 (va_recv hK hP (ci := 1) (q0 := 0) rfl rfl)) rfl rfl hl.1 rfl (lv_room (Nat.le_of_ble_eq_true rfl)) dX2_copyFrom_145 ⟨Nat.le_of_ble_eq_true rfl, Nat.le_of_ble_eq_true rfl⟩) hP0 hD0 hS hA (fun u19 H locs q20 hP hD hS => ?_)
  have hP : va_P G.1 vwCl (zb_L G ad (upr L17 3 (K 3)) ++ zb_M G ad (upr L17 3 (K 3)) ++ (zb_L G bd K ++ zb_M G bd K)) H := hP.sub (ws' := zb_L G ad (upr L17 3 (K 3)) ++ zb_M G ad (upr L17 3 (K 3)) ++ (zb_L G bd K ++ zb_M G bd K)) [0, 1, 2, 3, 4, 5, 6, 7, 8, 9, 10, 11, 12, 13, 14, 15, 16, 17, 18, 19, 20, 21, 22, 23, 24, 25] rfl
  have hD : va_D A (zb_L G ad (upr L17 3 (K 3)) ++ zb_M G ad (upr L17 3 (K 3)) ++ (zb_L G bd K ++ zb_M G bd K)) := hD.sub (ws' := zb_L G ad (upr L17 3 (K 3)) ++ zb_M G ad (upr L17 3 (K 3)) ++ (zb_L G bd K ++ zb_M G bd K)) [0, 1, 2, 3, 4, 5, 6, 7, 8, 9, 10, 11, 12, 13, 14, 15, 16, 17, 18, 19, 20, 21, 22, 23, 24, 25] (by decide) rfl
  obtain ⟨L21, eL21⟩ : ∃ z : Nat → Nat → Int32, z = upr L17 3 (K 3) := ⟨_, rfl⟩
  have hP : va_P G.1 vwCl (zb_L G ad L21 ++ zb_M G ad L21 ++ (zb_L G bd K ++ zb_M G bd K)) H := by rw [eL21]; exact hP
  have hD : va_D A (zb_L G ad L21 ++ zb_M G ad L21 ++ (zb_L G bd K ++ zb_M G bd K)) := by rw [eL21]; exact hD
  refine lv_aload_n hx hb dX2_copyFrom_148 rfl (lv_at hl 0 rfl) ?_
  refine va_get (D := G.1) (ci := 1) (v := .ref (ad 9)) (C := RX2) (T := TX2) (N := 14) hx hb hts (fun _ h => List.mem_cons_of_mem _ (List.mem_append_left _ (List.mem_append_right _ h))) hown hK hP 0 rfl rfl 13 (by decide) w17 (fun _ h9 => h9) rfl dX2_copyFrom_149 ?_
  refine lv_aload_n hx hb dX2_copyFrom_152 rfl (lv_at hl 1 rfl) ?_
  refine va_get (D := G.1) (ci := 1) (v := .ref (bd 9)) (C := RX2) (T := TX2) (N := 14) hx hb hts (fun _ h => List.mem_cons_of_mem _ (List.mem_append_left _ (List.mem_append_right _ h))) hown hK hP 13 rfl rfl 13 (by decide) w17 (fun _ h9 => h9) rfl dX2_copyFrom_153 ?_
  have hP0 : va_P G.1 vwCl ((zb_M G ad L21 ++ zb_M G bd K) ++ ((zb_L G ad L21) ++ zb_L G bd K)) H := hP.sub (ws' := (zb_M G ad L21 ++ zb_M G bd K) ++ ((zb_L G ad L21) ++ zb_L G bd K)) [9, 10, 11, 12, 22, 23, 24, 25, 0, 1, 2, 3, 4, 5, 6, 7, 8, 13, 14, 15, 16, 17, 18, 19, 20, 21] rfl
  have hD0 : va_D A ((zb_M G ad L21 ++ zb_M G bd K) ++ ((zb_L G ad L21) ++ zb_L G bd K)) := hD.sub (ws' := (zb_M G ad L21 ++ zb_M G bd K) ++ ((zb_L G ad L21) ++ zb_L G bd K)) [9, 10, 11, 12, 22, 23, 24, 25, 0, 1, 2, 3, 4, 5, 6, 7, 8, 13, 14, 15, 16, 17, 18, 19, 20, 21] (by decide) rfl
  refine zk_callV (wr := (zb_L G ad L21) ++ zb_L G bd K) (va_runV (As := [.ref (bd 9)]) (rest := []) ⟨hx, hb, hml, hown, hts⟩ (c_X3_copyFrom l G ad bd L21 K _) (cwV 1 hts gX2_copyFrom_X3_copyFrom rfl rfl rfl (by decide +kernel) ⟨Nat.le_of_ble_eq_true rfl, Nat.le_of_ble_eq_true rfl⟩) (zk_preV hE hA0 hS (zk_Papp hP0).1 (zk_Dapp hD0).1 (va_recv hK hP (ci := 2) (q0 := 9) rfl rfl)) rfl rfl hl.1 rfl (lv_room (Nat.le_of_ble_eq_true rfl)) dX2_copyFrom_156 ⟨Nat.le_of_ble_eq_true rfl, Nat.le_of_ble_eq_true rfl⟩) hP0 hD0 hS hA (fun u23 H locs q24 hP hD hS => ?_)
  have hP : va_P G.1 vwCl (zb_L G ad (upr (upr (upr L21 9 (K 9)) 10 (K 10)) 11 (K 11)) ++ zb_M G ad (upr (upr (upr L21 9 (K 9)) 10 (K 10)) 11 (K 11)) ++ (zb_L G bd K ++ zb_M G bd K)) H := hP.sub (ws' := zb_L G ad (upr (upr (upr L21 9 (K 9)) 10 (K 10)) 11 (K 11)) ++ zb_M G ad (upr (upr (upr L21 9 (K 9)) 10 (K 10)) 11 (K 11)) ++ (zb_L G bd K ++ zb_M G bd K)) [8, 9, 10, 11, 12, 13, 14, 15, 16, 0, 1, 2, 3, 17, 18, 19, 20, 21, 22, 23, 24, 25, 4, 5, 6, 7] rfl
  have hD : va_D A (zb_L G ad (upr (upr (upr L21 9 (K 9)) 10 (K 10)) 11 (K 11)) ++ zb_M G ad (upr (upr (upr L21 9 (K 9)) 10 (K 10)) 11 (K 11)) ++ (zb_L G bd K ++ zb_M G bd K)) := hD.sub (ws' := zb_L G ad (upr (upr (upr L21 9 (K 9)) 10 (K 10)) 11 (K 11)) ++ zb_M G ad (upr (upr (upr L21 9 (K 9)) 10 (K 10)) 11 (K 11)) ++ (zb_L G bd K ++ zb_M G bd K)) [8, 9, 10, 11, 12, 13, 14, 15, 16, 0, 1, 2, 3, 17, 18, 19, 20, 21, 22, 23, 24, 25, 4, 5, 6, 7] (by decide) rfl
  obtain ⟨L25, eL25⟩ : ∃ z : Nat → Nat → Int32, z = upr (upr (upr L21 9 (K 9)) 10 (K 10)) 11 (K 11) := ⟨_, rfl⟩
  have hP : va_P G.1 vwCl (zb_L G ad L25 ++ zb_M G ad L25 ++ (zb_L G bd K ++ zb_M G bd K)) H := by rw [eL25]; exact hP
  have hD : va_D A (zb_L G ad L25 ++ zb_M G ad L25 ++ (zb_L G bd K ++ zb_M G bd K)) := by rw [eL25]; exact hD
  have eK := zb_eq (G := G) (ad := ad) (L := L25) (K := K) (by subst_vars; rfl) (by subst_vars; rfl) (by subst_vars; rfl) (by subst_vars; rfl) (by subst_vars; rfl) (by subst_vars; rfl) (by subst_vars; rfl) (by subst_vars; rfl) (by subst_vars; rfl) (by subst_vars; rfl) (by subst_vars; rfl) (by subst_vars; rfl) (by subst_vars; rfl) (by subst_vars; rfl) (by subst_vars; rfl) (by subst_vars; rfl)
  rw [eK] at hP hD
  exact zk_retv () hQ hx hb hr hlocks hS hP hD (Nat.le_of_ble_eq_true rfl) (Nat.le_of_ble_eq_true rfl) dX2_copyFrom_159 (trivial)
