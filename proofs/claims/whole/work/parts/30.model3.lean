abbrev rmX6_begin : Room := { frames := 0, cells := 0, slots := 0, locals := 0 }
set_option maxHeartbeats 4000000 in
set_option maxRecDepth 100000 in
/-- a row anew -/
theorem c_X6_begin (l : Launch) (G : zk_G) (q : Nat) (f : Nat → Int32) : zk_V (S := Unit) l yX6_begin wsX6_begin rmX6_begin G [.ref q] (zb_a G q 1555 f) (fun _ => True) (fun _ => zb_r G q zL0) := by
  refine zk_bodyV (cc := cX6_begin) (maxL := 2) (ret := none) (by decide) rfl (Nat.le_of_ble_eq_true rfl) ?_
  intro p E0 s m args below meth cd A ls Q hF hQ
  obtain ⟨hx, hb, hml, hr, hts, hown, hlocks, -, hE, hP, hD, hS, hA, hA0, hl⟩ := hF
  have hK := hE.1
  have hl : lv_has ls 2 [(0, .ref q)] := hl
  refine lv_iconst (v := nI 0) hx hb dX6_begin_0 (by decide) ?_
  refine lv_istore_n (lv' := [(1, .int (nI 0)), (0, .ref q)]) hx hb dX6_begin_1 rfl hl (by decide) rfl (fun ls hl => ?_)
  have lp1 : ∀ (n3 : Nat) (i : Nat) (F : Nat → Int32), 1555 - i < n3 → (i ≤ 1555) → (∀ j, j < i → F j = nI 0) → ∀ (H : Heap) (locs : List Loc) (hP : va_P G.1 vwCl (zb_a G q 1555 F) H) (hD : va_D A (zb_a G q 1555 F)) (hS : va_S A s.heap H locs) (ls : Array Slot), lv_has ls 2 [(1, .int (nI i)), (0, .ref q)] → W p l E0 rmX6_begin s m args below meth cd H locs 0 0 Q (F0 m 2 ls []) := by
    intro n3
    induction n3 with
    | zero => intro i F hz; exact absurd hz (Nat.not_lt_zero _)
    | succ n3 ih2 =>
      intro i F hm hi hF H locs hP hD hS ls hl
      refine lv_iload_n hx hb dX6_begin_2 rfl (lv_at hl 0 rfl) ?_
      refine lv_sipush (v := nI 1555) hx hb dX6_begin_3 (by decide) ?_
      refine lv_icmp_ge (tgt := 19) hx hb dX6_begin_6 (by decide) (fun h6_3 => ?_) (fun h6_3 => ?_)
      · have h6_3 := zk_le (by omega) (by omega) h6_3
        refine lv_aload_n hx hb dX6_begin_19 rfl (lv_at hl 1 rfl) ?_
        refine lv_iconst (v := nI 2) hx hb dX6_begin_20 (by decide) ?_
        refine lv_sipush (v := nI 250) hx hb dX6_begin_21 (by decide) ?_
        refine zk_iastN hx hb hK hP hD hS 0 0 rfl rfl (k := 2) (n := 1555) (by omega) (by omega) dX6_begin_24 (fun H locs hP hD hS => ?_)
        obtain ⟨F5, eF5⟩ : ∃ z : Nat → Int32, z = upd F 2 (nI 250) := ⟨_, rfl⟩
        have hP : va_P G.1 vwCl (zb_a G q 1555 F5) H := by rw [eF5]; exact hP
        have hD : va_D A (zb_a G q 1555 F5) := by rw [eF5]; exact hD
        refine lv_aload_n hx hb dX6_begin_25 rfl (lv_at hl 1 rfl) ?_
        refine lv_iconst (v := nI 3) hx hb dX6_begin_26 (by decide) ?_
        refine lv_sipush (v := nI 500) hx hb dX6_begin_27 (by decide) ?_
        refine zk_iastN hx hb hK hP hD hS 0 0 rfl rfl (k := 3) (n := 1555) (by omega) (by omega) dX6_begin_30 (fun H locs hP hD hS => ?_)
        obtain ⟨F6, eF6⟩ : ∃ z : Nat → Int32, z = upd F5 3 (nI 500) := ⟨_, rfl⟩
        have hP : va_P G.1 vwCl (zb_a G q 1555 F6) H := by rw [eF6]; exact hP
        have hD : va_D A (zb_a G q 1555 F6) := by rw [eF6]; exact hD
        obtain ⟨hP, hD⟩ := zk_cong (q0 := 0) (g := zrow zL0) hP hD rfl (fun j hj => zrow_0s j hj (fun j hj => hF j (by omega)) eF5 eF6)
        exact zk_retv () hQ hx hb hr hlocks hS hP hD (Nat.le_of_ble_eq_true rfl) (Nat.le_of_ble_eq_true rfl) dX6_begin_31 (trivial)
      · have h6_3 := zk_nle (by omega) (by omega) h6_3
        refine lv_aload_n hx hb dX6_begin_9 rfl (lv_at hl 1 rfl) ?_
        refine lv_iload_n hx hb dX6_begin_10 rfl (lv_at hl 0 rfl) ?_
        refine lv_iconst (v := nI 0) hx hb dX6_begin_11 (by decide) ?_
        refine zk_iastN hx hb hK hP hD hS 0 0 rfl rfl (k := i) (n := 1555) (by omega) (by omega) dX6_begin_12 (fun H locs hP hD hS => ?_)
        obtain ⟨F7, eF7⟩ : ∃ z : Nat → Int32, z = upd F i (nI 0) := ⟨_, rfl⟩
        have hP : va_P G.1 vwCl (zb_a G q 1555 F7) H := by rw [eF7]; exact hP
        have hD : va_D A (zb_a G q 1555 F7) := by rw [eF7]; exact hD
        refine lv_iinc (v := nI (i + 1)) (lv' := [(1, .int (nI (i + 1))), (0, .ref q)]) hx hb dX6_begin_13 hl (k := 0) rfl (zk_inc i 1) (by decide) rfl (fun ls hl => ?_)
        refine lv_goto (tgt := 2) hx hb dX6_begin_16 (by decide) ?_
        exact ih2 (i + 1) F7 (by omega) (by omega) (fun j hj => by rw [eF7]; by_cases z : j = i; (subst z; exact upd_same F j _); (rw [upd_ne F _ z]; exact hF j (by omega))) _ _ hP hD hS ls (lv_sub hl [0, 1] rfl)
  exact lp1 _ 0 f (Nat.lt_succ_self _) (by omega) (lt_0) _ _ hP hD hS ls (lv_sub hl [0, 1] rfl)

abbrev rmX6_copyTerm : Room := { frames := 0, cells := 0, slots := 0, locals := 0 }
set_option maxHeartbeats 4000000 in
set_option maxRecDepth 100000 in
/-- 1555 places -/
theorem c_X6_copyTerm (l : Launch) (G : zk_G) (q1 n1 fa q2 n2 ta : Nat) (f h : Nat → Int32) (h1 : fa + 1555 ≤ n1) (h2 : ta + 1555 ≤ n2) (h3 : n1 < 2 ^ 31) (h4 : n2 < 2 ^ 31) : zk_V (S := Nat → Int32) l yX6_copyTerm wsX6_copyTerm rmX6_copyTerm G [.ref q1, .int (nI fa), .ref q2, .int (nI ta)] ((zb_a G q1 n1 f) ++ zb_a G q2 n2 h) (fun u => u = kCpy f fa h ta 1555) (fun u => zb_a G q1 n1 f ++ zb_a G q2 n2 u) := by
  refine zk_bodyV (cc := cX6_copyTerm) (maxL := 5) (ret := none) (by decide) rfl (Nat.le_of_ble_eq_true rfl) ?_
  intro p E0 s m args below meth cd A ls Q hF hQ
  obtain ⟨hx, hb, hml, hr, hts, hown, hlocks, -, hE, hP, hD, hS, hA, hA0, hl⟩ := hF
  have hK := hE.1
  have hl : lv_has ls 5 [(0, .ref q1), (1, .int (nI fa)), (2, .ref q2), (3, .int (nI ta))] := hl
  refine lv_iconst (v := nI 0) hx hb dX6_copyTerm_0 (by decide) ?_
  refine lv_istore (lv' := [(4, .int (nI 0)), (0, .ref q1), (1, .int (nI fa)), (2, .ref q2), (3, .int (nI ta))]) hx hb dX6_copyTerm_1 hl (by decide) rfl (fun ls hl => ?_)
  have lp1 : ∀ (n3 : Nat) (i : Nat) (F : Nat → Int32), 1555 - i < n3 → (i ≤ 1555) → (F = kCpy f fa h ta i) → ∀ (H : Heap) (locs : List Loc) (hP : va_P G.1 vwCl ((zb_a G q1 n1 f) ++ zb_a G q2 n2 F) H) (hD : va_D A ((zb_a G q1 n1 f) ++ zb_a G q2 n2 F)) (hS : va_S A s.heap H locs) (ls : Array Slot), lv_has ls 5 [(4, .int (nI i)), (0, .ref q1), (1, .int (nI fa)), (2, .ref q2), (3, .int (nI ta))] → W p l E0 rmX6_copyTerm s m args below meth cd H locs 0 0 Q (F0 m 3 ls []) := by
    intro n3
    induction n3 with
    | zero => intro i F hz; exact absurd hz (Nat.not_lt_zero _)
    | succ n3 ih2 =>
      intro i F hm hi hF H locs hP hD hS ls hl
      refine lv_iload hx hb dX6_copyTerm_3 (lv_at hl 0 rfl) ?_
      refine lv_sipush (v := nI 1555) hx hb dX6_copyTerm_5 (by decide) ?_
      refine lv_icmp_ge (tgt := 29) hx hb dX6_copyTerm_8 (by decide) (fun h8_3 => ?_) (fun h8_3 => ?_)
      · have h8_3 := zk_le (by omega) (by omega) h8_3
        exact zk_retv F hQ hx hb hr hlocks hS hP hD (Nat.le_of_ble_eq_true rfl) (Nat.le_of_ble_eq_true rfl) dX6_copyTerm_29 (by rw [show i = 1555 by omega] at hF; exact hF)
      · have h8_3 := zk_nle (by omega) (by omega) h8_3
        refine lv_aload_n hx hb dX6_copyTerm_11 rfl (lv_at hl 3 rfl) ?_
        refine lv_iload_n hx hb dX6_copyTerm_12 rfl (lv_at hl 4 rfl) ?_
        refine lv_iload hx hb dX6_copyTerm_13 (lv_at hl 0 rfl) ?_
        refine zk_iaddN hx hb dX6_copyTerm_15 ?_
        refine lv_aload_n hx hb dX6_copyTerm_16 rfl (lv_at hl 1 rfl) ?_
        refine lv_iload_n hx hb dX6_copyTerm_17 rfl (lv_at hl 2 rfl) ?_
        refine lv_iload hx hb dX6_copyTerm_18 (lv_at hl 0 rfl) ?_
        refine zk_iaddN hx hb dX6_copyTerm_20 ?_
        refine zk_ialdN hx hb hK hP 0 0 rfl rfl (k := (fa + i)) (n := n1) (by omega) (by omega) dX6_copyTerm_21 ?_
        refine lv_topi (fun x5 ex5 => ?_)
        refine zk_iastN hx hb hK hP hD hS 1 0 rfl rfl (k := (ta + i)) (n := n2) (by omega) (by omega) dX6_copyTerm_22 (fun H locs hP hD hS => ?_)
        obtain ⟨F6, eF6⟩ : ∃ z : Nat → Int32, z = upd F (ta + i) x5 := ⟨_, rfl⟩
        have hP : va_P G.1 vwCl ((zb_a G q1 n1 f) ++ zb_a G q2 n2 F6) H := by rw [eF6]; exact hP
        have hD : va_D A ((zb_a G q1 n1 f) ++ zb_a G q2 n2 F6) := by rw [eF6]; exact hD
        refine lv_iinc (v := nI (i + 1)) (lv' := [(4, .int (nI (i + 1))), (0, .ref q1), (1, .int (nI fa)), (2, .ref q2), (3, .int (nI ta))]) hx hb dX6_copyTerm_23 hl (k := 0) rfl (zk_inc i 1) (by decide) rfl (fun ls hl => ?_)
        refine lv_goto (tgt := 3) hx hb dX6_copyTerm_26 (by decide) ?_
        exact ih2 (i + 1) F6 (by omega) (by omega) (kCpy_s hF (by rw [eF6, ex5])) _ _ hP hD hS ls (lv_sub hl [0, 1, 2, 3, 4] rfl)
  exact lp1 _ 0 h (Nat.lt_succ_self _) (by omega) ((kCpy_0 _ _ _ _).symm) _ _ hP hD hS ls (lv_sub hl [0, 1, 2, 3, 4] rfl)

abbrev rmX6_thrown : Room := { frames := 0, cells := 0, slots := 0, locals := 0 }
set_option maxHeartbeats 4000000 in
set_option maxRecDepth 100000 in
/-- what was refused -/
theorem c_X6_thrown (l : Launch) (G : zk_G) (b : Nat → Nat) (rf sz ac sp ou : Int32) : zk_I (S := Unit) l yX6_thrown wsX6_thrown rmX6_thrown G [.ref (b 0)] (zb_6 G b rf sz ac sp ou) (fun r _ => r = rf) (fun _ => zb_6 G b rf sz ac sp ou) := by
  refine zk_bodyI (cc := cX6_thrown) (maxL := 1) (ret := (some .int)) (by decide) rfl (Nat.le_of_ble_eq_true rfl) ?_
  intro p E0 s m args below meth cd A ls Q hF hQ
  obtain ⟨hx, hb, hml, hr, hts, hown, hlocks, -, hE, hP, hD, hS, hA, hA0, hl⟩ := hF
  have hK := hE.1
  have hl : lv_has ls 1 [(0, .ref (b 0))] := hl
  have w1 := hts _ (List.mem_of_getElem? (l := wsX6_thrown) (i := 1) (a := Cond.fieldLink RX6 33 "MealAccountsModel" "refusal" "I") rfl)
  refine lv_aload_n hx hb dX6_thrown_0 rfl (lv_at hl 0 rfl) ?_
  refine va_get (D := G.1) (ci := 5) (v := .int rf) (C := RX6) (T := TX6) (N := 11) hx hb hts (fun _ h => List.mem_cons_of_mem _ (List.mem_append_right _ h)) hown hK hP 0 rfl rfl 0 (by decide) w1 (fun _ h9 => h9) rfl dX6_thrown_1 ?_
  exact zk_reti () hQ hx hb hr hlocks hS hP hD (Nat.le_of_ble_eq_true rfl) (Nat.le_of_ble_eq_true rfl) dX6_thrown_4 (rfl)

abbrev rmX6_refused : Room := { frames := 0, cells := 0, slots := 0, locals := 0 }
set_option maxHeartbeats 4000000 in
set_option maxRecDepth 100000 in
/-- a refusal -/
theorem c_X6_refused (l : Launch) (G : zk_G) (b : Nat → Nat) (rf sz ac sp ou : Int32) (w : Int32) : zk_I (S := Unit) l yX6_refused wsX6_refused rmX6_refused G [.ref (b 0), .int w] (zb_6 G b rf sz ac sp ou) (fun r _ => r = if 0 < w then nI 1 else nI 0) (fun _ => zb_6 G b w sz ac sp ou) := by
  refine zk_bodyI (cc := cX6_refused) (maxL := 2) (ret := (some .boolean)) (by decide) rfl (Nat.le_of_ble_eq_true rfl) ?_
  intro p E0 s m args below meth cd A ls Q hF hQ
  obtain ⟨hx, hb, hml, hr, hts, hown, hlocks, -, hE, hP, hD, hS, hA, hA0, hl⟩ := hF
  have hK := hE.1
  have hl : lv_has ls 2 [(0, .ref (b 0)), (1, .int w)] := hl
  have w1 := hts _ (List.mem_of_getElem? (l := wsX6_refused) (i := 1) (a := Cond.fieldLink RX6 33 "MealAccountsModel" "refusal" "I") rfl)
  refine lv_aload_n hx hb dX6_refused_0 rfl (lv_at hl 0 rfl) ?_
  refine lv_iload_n hx hb dX6_refused_1 rfl (lv_at hl 1 rfl) ?_
  refine va_put (D := G.1) (ci := 5) (v := .int w) (ty := .int) (C := RX6) (T := TX6) (N := 11) hx hb hts (fun _ h => List.mem_cons_of_mem _ (List.mem_append_right _ h)) tyX6 tyX6_ok nmX6 hown hK hP hD hS 0 rfl rfl 0 (by decide) w1 (fun _ h9 => h9) rfl (by decide +kernel) rfl rfl (Nat.le_of_ble_eq_true rfl) dX6_refused_2 (fun H locs hP hD hS => ?_)
  have hP : va_P G.1 vwCl (zb_6 G b w sz ac sp ou) H := hP
  have hD : va_D A (zb_6 G b w sz ac sp ou) := hD
  refine lv_iload_n hx hb dX6_refused_5 rfl (lv_at hl 1 rfl) ?_
  refine lv_if_le (tgt := 13) hx hb dX6_refused_6 (by decide) (fun h6_0 => ?_) (fun h6_0 => ?_)
  · have h6_0 := zk_l1 h6_0
    refine lv_iconst (v := nI 0) hx hb dX6_refused_13 (by decide) ?_
    exact zk_retz () hQ hx hb hr hlocks hS hP hD (Nat.le_of_ble_eq_true rfl) (Nat.le_of_ble_eq_true rfl) dX6_refused_14 (rfl) ((if_neg h6_0).symm)
  · have h6_0 := zk_l2 h6_0
    refine lv_iconst (v := nI 1) hx hb dX6_refused_9 (by decide) ?_
    refine lv_goto (tgt := 14) hx hb dX6_refused_10 (by decide) ?_
    exact zk_retz () hQ hx hb hr hlocks hS hP hD (Nat.le_of_ble_eq_true rfl) (Nat.le_of_ble_eq_true rfl) dX6_refused_14 (rfl) ((if_pos h6_0).symm)
