abbrev rmX4_lowestWith : Room := { frames := 0, cells := 0, slots := 0, locals := 0 }
set_option maxHeartbeats 4000000 in
set_option maxRecDepth 100000 in
/-- the lowest number with these digits ahead -/
theorem c_X4_lowestWith (l : Launch) (G : zk_G) (b k : Nat) (hk : k < 10) : zk_I (S := Unit) l yX4_lowestWith wsX4_lowestWith rmX4_lowestWith G [.int (nI b), .int (nI k)] ([]) (fun r _ => r = nI (b * 10 ^ k)) (fun _ => []) := by
  refine zk_bodyI (cc := cX4_lowestWith) (maxL := 4) (ret := (some .int)) (by decide) rfl (Nat.le_of_ble_eq_true rfl) ?_
  intro p E0 s m args below meth cd A ls Q hF hQ
  obtain ⟨hx, hb, hml, hr, hts, hown, hlocks, -, hE, hP, hD, hS, hA, hA0, hl⟩ := hF
  have hK := hE.1
  have hl : lv_has ls 4 [(0, .int (nI b)), (1, .int (nI k))] := hl
  refine lv_iload_n hx hb dX4_lowestWith_0 rfl (lv_at hl 0 rfl) ?_
  refine lv_istore_n (lv' := [(2, .int (nI b)), (0, .int (nI b)), (1, .int (nI k))]) hx hb dX4_lowestWith_1 rfl hl (by decide) rfl (fun ls hl => ?_)
  refine lv_iconst (v := nI 0) hx hb dX4_lowestWith_2 (by decide) ?_
  refine lv_istore_n (lv' := [(3, .int (nI 0)), (2, .int (nI b)), (0, .int (nI b)), (1, .int (nI k))]) hx hb dX4_lowestWith_3 rfl hl (by decide) rfl (fun ls hl => ?_)
  have lp1 : ∀ (n3 : Nat) (i : Nat) (y : Nat), k - i < n3 → (i ≤ k) → (y = b * 10 ^ i) → ∀ (ls : Array Slot), lv_has ls 4 [(3, .int (nI i)), (2, .int (nI y)), (0, .int (nI b)), (1, .int (nI k))] → W p l E0 rmX4_lowestWith s m args below meth cd s.heap [] 0 0 Q (F0 m 4 ls []) := by
    intro n3
    induction n3 with
    | zero => intro i y hz; exact absurd hz (Nat.not_lt_zero _)
    | succ n3 ih2 =>
      intro i y hm hi hq ls hl
      refine lv_iload_n hx hb dX4_lowestWith_4 rfl (lv_at hl 0 rfl) ?_
      refine lv_iload_n hx hb dX4_lowestWith_5 rfl (lv_at hl 3 rfl) ?_
      refine lv_icmp_ge (tgt := 20) hx hb dX4_lowestWith_6 (by decide) (fun h6_3 => ?_) (fun h6_3 => ?_)
      · have h6_3 := zk_le (by omega) (by omega) h6_3
        refine lv_iload_n hx hb dX4_lowestWith_20 rfl (lv_at hl 1 rfl) ?_
        exact zk_reti () hQ hx hb hr hlocks hS hP hD (Nat.le_of_ble_eq_true rfl) (Nat.le_of_ble_eq_true rfl) dX4_lowestWith_21 (by rw [hq, show i = k by omega])
      · have h6_3 := zk_nle (by omega) (by omega) h6_3
        refine lv_bipush (v := nI 10) hx hb dX4_lowestWith_9 (by decide) ?_
        refine lv_iload_n hx hb dX4_lowestWith_11 rfl (lv_at hl 1 rfl) ?_
        refine zk_imulN hx hb dX4_lowestWith_12 ?_
        refine lv_istore_n (lv' := [(2, .int (nI (10 * y))), (3, .int (nI i)), (0, .int (nI b)), (1, .int (nI k))]) hx hb dX4_lowestWith_13 rfl hl (by decide) rfl (fun ls hl => ?_)
        refine lv_iinc (v := nI (i + 1)) (lv' := [(3, .int (nI (i + 1))), (2, .int (nI (10 * y))), (0, .int (nI b)), (1, .int (nI k))]) hx hb dX4_lowestWith_14 hl (k := 1) rfl (zk_inc i 1) (by decide) rfl (fun ls hl => ?_)
        refine lv_goto (tgt := 4) hx hb dX4_lowestWith_17 (by decide) ?_
        exact ih2 (i + 1) (10 * y) (by omega) (by omega) (by rw [hq, Nat.pow_succ]; exact (Nat.mul_left_comm _ _ _).trans (by rw [Nat.mul_comm 10])) ls (lv_sub hl [0, 1, 2, 3] rfl)
  exact lp1 _ 0 b (Nat.lt_succ_self _) (by omega) ((Nat.mul_one b).symm) ls (lv_sub hl [0, 1, 2, 3] rfl)

abbrev rmX4_highestWith : Room := { frames := 0, cells := 0, slots := 0, locals := 0 }
set_option maxHeartbeats 4000000 in
set_option maxRecDepth 100000 in
/-- the highest number with these digits ahead -/
theorem c_X4_highestWith (l : Launch) (G : zk_G) (b k : Nat) (hk : k < 10) : zk_I (S := Unit) l yX4_highestWith wsX4_highestWith rmX4_highestWith G [.int (nI b), .int (nI k)] ([]) (fun r _ => r = nI ((b + 1) * 10 ^ k - 1)) (fun _ => []) := by
  refine zk_bodyI (cc := cX4_highestWith) (maxL := 4) (ret := (some .int)) (by decide) rfl (Nat.le_of_ble_eq_true rfl) ?_
  intro p E0 s m args below meth cd A ls Q hF hQ
  obtain ⟨hx, hb, hml, hr, hts, hown, hlocks, -, hE, hP, hD, hS, hA, hA0, hl⟩ := hF
  have hK := hE.1
  have hl : lv_has ls 4 [(0, .int (nI b)), (1, .int (nI k))] := hl
  refine lv_iload_n hx hb dX4_highestWith_0 rfl (lv_at hl 0 rfl) ?_
  refine lv_istore_n (lv' := [(2, .int (nI b)), (0, .int (nI b)), (1, .int (nI k))]) hx hb dX4_highestWith_1 rfl hl (by decide) rfl (fun ls hl => ?_)
  refine lv_iconst (v := nI 0) hx hb dX4_highestWith_2 (by decide) ?_
  refine lv_istore_n (lv' := [(3, .int (nI 0)), (2, .int (nI b)), (0, .int (nI b)), (1, .int (nI k))]) hx hb dX4_highestWith_3 rfl hl (by decide) rfl (fun ls hl => ?_)
  have lp1 : ∀ (n3 : Nat) (i : Nat) (y : Nat), k - i < n3 → (i ≤ k) → (y + 1 = (b + 1) * 10 ^ i) → ∀ (ls : Array Slot), lv_has ls 4 [(3, .int (nI i)), (2, .int (nI y)), (0, .int (nI b)), (1, .int (nI k))] → W p l E0 rmX4_highestWith s m args below meth cd s.heap [] 0 0 Q (F0 m 4 ls []) := by
    intro n3
    induction n3 with
    | zero => intro i y hz; exact absurd hz (Nat.not_lt_zero _)
    | succ n3 ih2 =>
      intro i y hm hi hq ls hl
      refine lv_iload_n hx hb dX4_highestWith_4 rfl (lv_at hl 0 rfl) ?_
      refine lv_iload_n hx hb dX4_highestWith_5 rfl (lv_at hl 3 rfl) ?_
      refine lv_icmp_ge (tgt := 23) hx hb dX4_highestWith_6 (by decide) (fun h6_3 => ?_) (fun h6_3 => ?_)
      · have h6_3 := zk_le (by omega) (by omega) h6_3
        refine lv_iload_n hx hb dX4_highestWith_23 rfl (lv_at hl 1 rfl) ?_
        exact zk_reti () hQ hx hb hr hlocks hS hP hD (Nat.le_of_ble_eq_true rfl) (Nat.le_of_ble_eq_true rfl) dX4_highestWith_24 (by rw [show i = k by omega] at hq; rw [← hq]; rfl)
      · have h6_3 := zk_nle (by omega) (by omega) h6_3
        refine lv_bipush (v := nI 10) hx hb dX4_highestWith_9 (by decide) ?_
        refine lv_iload_n hx hb dX4_highestWith_11 rfl (lv_at hl 1 rfl) ?_
        refine zk_imulN hx hb dX4_highestWith_12 ?_
        refine lv_bipush (v := nI 9) hx hb dX4_highestWith_13 (by decide) ?_
        refine zk_iaddN hx hb dX4_highestWith_15 ?_
        refine lv_istore_n (lv' := [(2, .int (nI ((10 * y) + 9))), (3, .int (nI i)), (0, .int (nI b)), (1, .int (nI k))]) hx hb dX4_highestWith_16 rfl hl (by decide) rfl (fun ls hl => ?_)
        refine lv_iinc (v := nI (i + 1)) (lv' := [(3, .int (nI (i + 1))), (2, .int (nI ((10 * y) + 9))), (0, .int (nI b)), (1, .int (nI k))]) hx hb dX4_highestWith_17 hl (k := 1) rfl (zk_inc i 1) (by decide) rfl (fun ls hl => ?_)
        refine lv_goto (tgt := 4) hx hb dX4_highestWith_20 (by decide) ?_
        exact ih2 (i + 1) ((10 * y) + 9) (by omega) (by omega) (by rw [Nat.pow_succ, ← Nat.mul_assoc, ← hq]; omega) ls (lv_sub hl [0, 1, 2, 3] rfl)
  exact lp1 _ 0 b (Nat.lt_succ_self _) (by omega) ((Nat.mul_one (b + 1)).symm) ls (lv_sub hl [0, 1, 2, 3] rfl)

abbrev rmX4_isAtEnd : Room := { frames := 0, cells := 0, slots := 0, locals := 0 }
set_option maxHeartbeats 4000000 in
set_option maxRecDepth 100000 in
/-- is the reader at the end -/
theorem c_X4_isAtEnd (l : Launch) (G : zk_G) (x : Nat → Nat) (T : zL) (n po : Nat) (hI : tInv T n po)  : zk_I (S := Unit) l yX4_isAtEnd wsX4_isAtEnd rmX4_isAtEnd G [.ref (x 1)] (zb_T G x T) (fun r _ => r = if ¬ po < n then nI 1 else nI 0) (fun _ => zb_T G x T) := by
  refine zk_bodyI (cc := cX4_isAtEnd) (maxL := 1) (ret := (some .boolean)) (by decide) rfl (Nat.le_of_ble_eq_true rfl) ?_
  intro p E0 s m args below meth cd A ls Q hF hQ
  obtain ⟨hx, hb, hml, hr, hts, hown, hlocks, -, hE, hP, hD, hS, hA, hA0, hl⟩ := hF
  have hK := hE.1
  have hl : lv_has ls 1 [(0, .ref (x 1))] := hl
  obtain ⟨hn, hn120, hp, hp120, hch⟩ := id hI
  have w1 := hts _ (List.mem_of_getElem? (l := wsX4_isAtEnd) (i := 1) (a := Cond.fieldLink RX4 33 "MealAccounts$Text" "position" "I") rfl)
  have w2 := hts _ (List.mem_of_getElem? (l := wsX4_isAtEnd) (i := 2) (a := Cond.fieldLink RX4 19 "MealAccounts$Text" "length" "I") rfl)
  refine lv_aload_n hx hb dX4_isAtEnd_0 rfl (lv_at hl 0 rfl) ?_
  refine va_get (D := G.1) (ci := 3) (v := .int (T 0 1)) (C := RX4) (T := TX4) (N := 5) hx hb hts (fun _ h => List.mem_cons_of_mem _ (List.mem_append_right _ h)) hown hK hP 0 rfl rfl 2 (by decide) w1 (fun _ h9 => h9) rfl dX4_isAtEnd_1 ?_
  refine zk_top hI.2.2.1 ?_
  refine lv_aload_n hx hb dX4_isAtEnd_4 rfl (lv_at hl 0 rfl) ?_
  refine va_get (D := G.1) (ci := 3) (v := .int (T 0 0)) (C := RX4) (T := TX4) (N := 5) hx hb hts (fun _ h => List.mem_cons_of_mem _ (List.mem_append_right _ h)) hown hK hP 0 rfl rfl 1 (by decide) w2 (fun _ h9 => h9) rfl dX4_isAtEnd_5 ?_
  refine zk_top hI.1 ?_
  refine lv_icmp_lt (tgt := 15) hx hb dX4_isAtEnd_8 (by decide) (fun h8_0 => ?_) (fun h8_0 => ?_)
  · have h8_0 := zk_lt (by omega) (by omega) h8_0
    refine lv_iconst (v := nI 0) hx hb dX4_isAtEnd_15 (by decide) ?_
    exact zk_retz () hQ hx hb hr hlocks hS hP hD (Nat.le_of_ble_eq_true rfl) (Nat.le_of_ble_eq_true rfl) dX4_isAtEnd_16 (rfl) (by simp +decide [zk_a0, h8_0])
  · have h8_0 := zk_nlt (by omega) (by omega) h8_0
    refine lv_iconst (v := nI 1) hx hb dX4_isAtEnd_11 (by decide) ?_
    refine lv_goto (tgt := 16) hx hb dX4_isAtEnd_12 (by decide) ?_
    exact zk_retz () hQ hx hb hr hlocks hS hP hD (Nat.le_of_ble_eq_true rfl) (Nat.le_of_ble_eq_true rfl) dX4_isAtEnd_16 (rfl) (by simp +decide [zk_a0, h8_0])

abbrev rmX4_add : Room := { frames := 0, cells := 0, slots := 0, locals := 0 }
set_option maxHeartbeats 4000000 in
set_option maxRecDepth 100000 in
/-- a character is put down -/
theorem c_X4_add (l : Launch) (G : zk_G) (x : Nat → Nat) (T : zL) (n po : Nat) (hI : tInv T n po) (q : Nat) (hn2 : n < 120) (hq2 : q < 256) : zk_I (S := zL) l yX4_add wsX4_add rmX4_add G [.ref (x 1), .int (nI q)] (zb_T G x T) (fun r u => r = nI (n + 1) ∧ u = tAdd T n q) (fun u => zb_T G x u) := by
  refine zk_bodyI (cc := cX4_add) (maxL := 2) (ret := (some .int)) (by decide) rfl (Nat.le_of_ble_eq_true rfl) ?_
  intro p E0 s m args below meth cd A ls Q hF hQ
  obtain ⟨hx, hb, hml, hr, hts, hown, hlocks, -, hE, hP, hD, hS, hA, hA0, hl⟩ := hF
  have hK := hE.1
  have hl : lv_has ls 2 [(0, .ref (x 1)), (1, .int (nI q))] := hl
  obtain ⟨hn, hn120, hp, hp120, hch⟩ := id hI
  have w1 := hts _ (List.mem_of_getElem? (l := wsX4_add) (i := 1) (a := Cond.fieldLink RX4 9 "MealAccounts$Text" "characters" "[C") rfl)
  have w2 := hts _ (List.mem_of_getElem? (l := wsX4_add) (i := 2) (a := Cond.fieldLink RX4 19 "MealAccounts$Text" "length" "I") rfl)
  refine lv_aload_n hx hb dX4_add_0 rfl (lv_at hl 0 rfl) ?_
  refine va_get (D := G.1) (ci := 3) (v := .ref (x 2)) (C := RX4) (T := TX4) (N := 5) hx hb hts (fun _ h => List.mem_cons_of_mem _ (List.mem_append_right _ h)) hown hK hP 0 rfl rfl 0 (by decide) w1 (fun _ h9 => h9) rfl dX4_add_1 ?_
  refine lv_aload_n hx hb dX4_add_4 rfl (lv_at hl 0 rfl) ?_
  refine va_get (D := G.1) (ci := 3) (v := .int (T 0 0)) (C := RX4) (T := TX4) (N := 5) hx hb hts (fun _ h => List.mem_cons_of_mem _ (List.mem_append_right _ h)) hown hK hP 0 rfl rfl 1 (by decide) w2 (fun _ h9 => h9) rfl dX4_add_5 ?_
  refine zk_top hI.1 ?_
  refine lv_iload_n hx hb dX4_add_8 rfl (lv_at hl 1 rfl) ?_
  refine zk_castN hx hb hK hP hD hS 1 2 rfl rfl (k := n) (n := 120) (by omega) (by omega) (by omega) dX4_add_9 (fun H locs hP hD hS => ?_)
  obtain ⟨L1, eL1⟩ : ∃ z : zL, z = up2 T 1 n (nI q) := ⟨_, rfl⟩
  have hP : va_P G.1 vwCl (zb_T G x L1) H := by rw [eL1]; exact hP
  have hD : va_D A (zb_T G x L1) := by rw [eL1]; exact hD
  have hI2 : tInv L1 n po := by rw [eL1]; exact tInv_ch hI (by omega)
  refine lv_aload_n hx hb dX4_add_10 rfl (lv_at hl 0 rfl) ?_
  refine lv_dup hx hb dX4_add_11 rfl ?_
  refine va_get (D := G.1) (ci := 3) (v := .int (L1 0 0)) (C := RX4) (T := TX4) (N := 5) hx hb hts (fun _ h => List.mem_cons_of_mem _ (List.mem_append_right _ h)) hown hK hP 0 rfl rfl 1 (by decide) w2 (fun _ h9 => h9) rfl dX4_add_12 ?_
  refine zk_top hI2.1 ?_
  refine lv_iconst (v := nI 1) hx hb dX4_add_15 (by decide) ?_
  refine zk_iaddN hx hb dX4_add_16 ?_
  refine va_put (D := G.1) (ci := 3) (v := .int (nI (n + 1))) (ty := .int) (C := RX4) (T := TX4) (N := 5) hx hb hts (fun _ h => List.mem_cons_of_mem _ (List.mem_append_right _ h)) tyX4 tyX4_ok nmX4 hown hK hP hD hS 0 rfl rfl 1 (by decide) w2 (fun _ h9 => h9) rfl (by decide +kernel) rfl rfl (Nat.le_of_ble_eq_true rfl) dX4_add_17 (fun H locs hP hD hS => ?_)
  obtain ⟨L3, eL3⟩ : ∃ z : zL, z = up2 L1 0 0 (nI (n + 1)) := ⟨_, rfl⟩
  have hP : va_P G.1 vwCl (zb_T G x L3) H := by rw [eL3]; exact hP
  have hD : va_D A (zb_T G x L3) := by rw [eL3]; exact hD
  have hI4 : tInv L3 (n + 1) po := by rw [eL3]; exact tInv_len hI2 (by omega)
  refine lv_aload_n hx hb dX4_add_20 rfl (lv_at hl 0 rfl) ?_
  refine va_get (D := G.1) (ci := 3) (v := .int (L3 0 0)) (C := RX4) (T := TX4) (N := 5) hx hb hts (fun _ h => List.mem_cons_of_mem _ (List.mem_append_right _ h)) hown hK hP 0 rfl rfl 1 (by decide) w2 (fun _ h9 => h9) rfl dX4_add_21 ?_
  refine zk_top hI4.1 ?_
  exact zk_reti L3 hQ hx hb hr hlocks hS hP hD (Nat.le_of_ble_eq_true rfl) (Nat.le_of_ble_eq_true rfl) dX4_add_24 (by subst_vars; exact ⟨rfl, rfl⟩)

abbrev rmX4_readStart : Room := { frames := 1, cells := 0, slots := 0, locals := 20 }
set_option maxHeartbeats 4000000 in
set_option maxRecDepth 100000 in
/-- the reader begins -/
theorem c_X4_readStart (l : Launch) (G : zk_G) (x : Nat → Nat) (T : zL) (n po : Nat) (hI : tInv T n po)  : zk_I (S := zL) l yX4_readStart wsX4_readStart rmX4_readStart G [.ref (x 1)] (zb_T G x T) (fun r u => r = (if (tSt T n).1 = true then nI 1 else nI 0) ∧ u = (tSt T n).2.2) (fun u => zb_T G x u) := by
  refine zk_bodyI (cc := cX4_readStart) (maxL := 1) (ret := (some .boolean)) (by decide) rfl (Nat.le_of_ble_eq_true rfl) ?_
  intro p E0 s m args below meth cd A ls Q hF hQ
  obtain ⟨hx, hb, hml, hr, hts, hown, hlocks, -, hE, hP, hD, hS, hA, hA0, hl⟩ := hF
  have hK := hE.1
  have hl : lv_has ls 1 [(0, .ref (x 1))] := hl
  obtain ⟨hn, hn120, hp, hp120, hch⟩ := id hI
  have w1 := hts _ (List.mem_of_getElem? (l := wsX4_readStart) (i := 1) (a := Cond.fieldLink RX4 33 "MealAccounts$Text" "position" "I") rfl)
  have w2 := hts _ (List.mem_of_getElem? (l := wsX4_readStart) (i := 2) (a := Cond.fieldLink RX4 9 "MealAccounts$Text" "characters" "[C") rfl)
  refine lv_aload_n hx hb dX4_readStart_0 rfl (lv_at hl 0 rfl) ?_
  refine lv_iconst (v := nI 0) hx hb dX4_readStart_1 (by decide) ?_
  refine va_put (D := G.1) (ci := 3) (v := .int (nI 0)) (ty := .int) (C := RX4) (T := TX4) (N := 5) hx hb hts (fun _ h => List.mem_cons_of_mem _ (List.mem_append_right _ h)) tyX4 tyX4_ok nmX4 hown hK hP hD hS 0 rfl rfl 2 (by decide) w1 (fun _ h9 => h9) rfl (by decide +kernel) rfl rfl (Nat.le_of_ble_eq_true rfl) dX4_readStart_2 (fun H locs hP hD hS => ?_)
  obtain ⟨L1, eL1⟩ : ∃ z : zL, z = up2 T 0 1 (nI 0) := ⟨_, rfl⟩
  have hP : va_P G.1 vwCl (zb_T G x L1) H := by rw [eL1]; exact hP
  have hD : va_D A (zb_T G x L1) := by rw [eL1]; exact hD
  have hI2 : tInv L1 n 0 := by rw [eL1]; exact tInv_pos hI (by omega)
  refine lv_aload_n hx hb dX4_readStart_5 rfl (lv_at hl 0 rfl) ?_
  have hP0 : va_P G.1 vwCl ((zb_T G x L1) ++ (([] : va_W))) H := hP.sub (ws' := (zb_T G x L1) ++ (([] : va_W))) [0, 1, 2] rfl
  have hD0 : va_D A ((zb_T G x L1) ++ (([] : va_W))) := hD.sub (ws' := (zb_T G x L1) ++ (([] : va_W))) [0, 1, 2] (by decide) rfl
  refine zk_callI (wr := ([] : va_W)) (va_runV (As := []) (rest := []) ⟨hx, hb, hml, hown, hts⟩ (c_X4_isAtEnd l G x L1 n 0 hI2 _) (cwV 0 hts gX4_readStart_X4_isAtEnd rfl rfl rfl (by decide +kernel) ⟨Nat.le_of_ble_eq_true rfl, Nat.le_of_ble_eq_true rfl⟩) (zk_preV hE hA0 hS (zk_Papp hP0).1 (zk_Dapp hD0).1 (va_recv hK hP (ci := 3) (q0 := 0) rfl rfl)) rfl rfl hl.1 rfl (lv_room (Nat.le_of_ble_eq_true rfl)) dX4_readStart_6 ⟨Nat.le_of_ble_eq_true rfl, Nat.le_of_ble_eq_true rfl⟩) hP0 hD0 hS hA (fun r3 u4 H locs q5 hP hD hS => ?_)
  subst q5
  have hP : va_P G.1 vwCl (zb_T G x L1) H := hP.sub (ws' := zb_T G x L1) [0, 1, 2] rfl
  have hD : va_D A (zb_T G x L1) := hD.sub (ws' := zb_T G x L1) [0, 1, 2] (by decide) rfl
  refine lv_if_ne (tgt := 26) hx hb dX4_readStart_9 (by decide) (fun h9_5 => ?_) (fun h9_5 => ?_)
  · have h9_5 := zk_b1 h9_5
    refine lv_iconst (v := nI 0) hx hb dX4_readStart_26 (by decide) ?_
    exact zk_retz L1 hQ hx hb hr hlocks hS hP hD (Nat.le_of_ble_eq_true rfl) (Nat.le_of_ble_eq_true rfl) dX4_readStart_27 (rfl) (by rw [tSt_0 (Or.inl (show n = 0 by omega))]; subst_vars; exact ⟨rfl, rfl⟩)
  · have h9_5 := zk_b0 h9_5
    refine lv_aload_n hx hb dX4_readStart_12 rfl (lv_at hl 0 rfl) ?_
    refine va_get (D := G.1) (ci := 3) (v := .ref (x 2)) (C := RX4) (T := TX4) (N := 5) hx hb hts (fun _ h => List.mem_cons_of_mem _ (List.mem_append_right _ h)) hown hK hP 0 rfl rfl 0 (by decide) w2 (fun _ h9 => h9) rfl dX4_readStart_13 ?_
    refine lv_aload_n hx hb dX4_readStart_16 rfl (lv_at hl 0 rfl) ?_
    refine va_get (D := G.1) (ci := 3) (v := .int (L1 0 1)) (C := RX4) (T := TX4) (N := 5) hx hb hts (fun _ h => List.mem_cons_of_mem _ (List.mem_append_right _ h)) hown hK hP 0 rfl rfl 2 (by decide) w1 (fun _ h9 => h9) rfl dX4_readStart_17 ?_
    refine zk_top hI2.2.2.1 ?_
    refine zk_caldN hx hb hK hP 1 2 rfl rfl (k := 0) (n := 120) (by omega) (by omega) dX4_readStart_20 ?_
    refine zk_top (show _ = T 1 0 by rw [eL1]; rfl) ?_
    refine lv_bipush (v := nI 83) hx hb dX4_readStart_21 (by decide) ?_
    refine lv_icmp_eq (tgt := 28) hx hb dX4_readStart_23 (by decide) (fun h23_6 => ?_) (fun h23_6 => ?_)
    · refine lv_aload_n hx hb dX4_readStart_28 rfl (lv_at hl 0 rfl) ?_
      refine lv_dup hx hb dX4_readStart_29 rfl ?_
      refine va_get (D := G.1) (ci := 3) (v := .int (L1 0 1)) (C := RX4) (T := TX4) (N := 5) hx hb hts (fun _ h => List.mem_cons_of_mem _ (List.mem_append_right _ h)) hown hK hP 0 rfl rfl 2 (by decide) w1 (fun _ h9 => h9) rfl dX4_readStart_30 ?_
      refine zk_top hI2.2.2.1 ?_
      refine lv_iconst (v := nI 1) hx hb dX4_readStart_33 (by decide) ?_
      refine zk_iaddN hx hb dX4_readStart_34 ?_
      refine va_put (D := G.1) (ci := 3) (v := .int (nI (0 + 1))) (ty := .int) (C := RX4) (T := TX4) (N := 5) hx hb hts (fun _ h => List.mem_cons_of_mem _ (List.mem_append_right _ h)) tyX4 tyX4_ok nmX4 hown hK hP hD hS 0 rfl rfl 2 (by decide) w1 (fun _ h9 => h9) rfl (by decide +kernel) rfl rfl (Nat.le_of_ble_eq_true rfl) dX4_readStart_35 (fun H locs hP hD hS => ?_)
      obtain ⟨L8, eL8⟩ : ∃ z : zL, z = up2 L1 0 1 (nI (0 + 1)) := ⟨_, rfl⟩
      have hP : va_P G.1 vwCl (zb_T G x L8) H := by rw [eL8]; exact hP
      have hD : va_D A (zb_T G x L8) := by rw [eL8]; exact hD
      have hI9 : tInv L8 n (0 + 1) := by rw [eL8]; exact tInv_pos hI2 (by omega)
      refine lv_iconst (v := nI 1) hx hb dX4_readStart_38 (by decide) ?_
      exact zk_retz L8 hQ hx hb hr hlocks hS hP hD (Nat.le_of_ble_eq_true rfl) (Nat.le_of_ble_eq_true rfl) dX4_readStart_39 (rfl) (by rw [tSt_1 (fun z => z.elim (fun z => by omega) (fun z => z h23_6))]; subst_vars; exact ⟨rfl, up2_up2 _ _ _ _ _⟩)
    · refine lv_iconst (v := nI 0) hx hb dX4_readStart_26 (by decide) ?_
      exact zk_retz L1 hQ hx hb hr hlocks hS hP hD (Nat.le_of_ble_eq_true rfl) (Nat.le_of_ble_eq_true rfl) dX4_readStart_27 (rfl) (by rw [tSt_0 (Or.inr h23_6)]; subst_vars; exact ⟨rfl, rfl⟩)

abbrev rmX4_readRange : Room := { frames := 1, cells := 0, slots := 0, locals := 23 }
set_option maxHeartbeats 4000000 in
set_option maxRecDepth 100000 in
/-- a number of some digits is read -/
theorem c_X4_readRange (l : Launch) (G : zk_G) (x : Nat → Nat) (T : zL) (n po : Nat) (hI : tInv T n po) (i dg lo hi : Nat) (hi3 : i < 3) (hdg1 : 1 ≤ dg) (hdg : dg ≤ 4) (hlo : lo < 10000) (hhi : hi < 10000) : zk_I (S := zL) l yX4_readRange wsX4_readRange rmX4_readRange G [.ref (x 1), .int (nI i), .int (nI dg), .int (nI lo), .int (nI hi)] (zb_T G x T) (fun r u => r = (if ¬ (tRange (T 1) n lo hi dg 0 po).1 = none then nI 1 else nI 0) ∧ u = tSet T i (tRange (T 1) n lo hi dg 0 po)) (fun u => zb_T G x u) := by
  refine zk_bodyI (cc := cX4_readRange) (maxL := 8) (ret := (some .boolean)) (by decide) rfl (Nat.le_of_ble_eq_true rfl) ?_
  intro p E0 s m args below meth cd A ls Q hF hQ
  obtain ⟨hx, hb, hml, hr, hts, hown, hlocks, -, hE, hP, hD, hS, hA, hA0, hl⟩ := hF
  have hK := hE.1
  have hl : lv_has ls 8 [(0, .ref (x 1)), (1, .int (nI i)), (2, .int (nI dg)), (3, .int (nI lo)), (4, .int (nI hi))] := hl
  obtain ⟨hn, hn120, hp, hp120, hch⟩ := id hI
  have w3 := hts _ (List.mem_of_getElem? (l := wsX4_readRange) (i := 3) (a := Cond.fieldLink RX4 15 "MealAccounts$Text" "numbers" "[I") rfl)
  have w1 := hts _ (List.mem_of_getElem? (l := wsX4_readRange) (i := 1) (a := Cond.fieldLink RX4 9 "MealAccounts$Text" "characters" "[C") rfl)
  have w2 := hts _ (List.mem_of_getElem? (l := wsX4_readRange) (i := 2) (a := Cond.fieldLink RX4 33 "MealAccounts$Text" "position" "I") rfl)
  refine lv_iconst (v := nI 0) hx hb dX4_readRange_0 (by decide) ?_
  refine lv_istore (lv' := [(5, .int (nI 0)), (0, .ref (x 1)), (1, .int (nI i)), (2, .int (nI dg)), (3, .int (nI lo)), (4, .int (nI hi))]) hx hb dX4_readRange_1 hl (by decide) rfl (fun ls hl => ?_)
  refine lv_iload_n hx hb dX4_readRange_3 rfl (lv_at hl 3 rfl) ?_
  refine lv_iconst (v := nI 1) hx hb dX4_readRange_4 (by decide) ?_
  refine lv_isub hx hb dX4_readRange_5 ?_
  refine lv_topi (fun x1 ex1 => ?_)
  refine lv_istore (lv' := [(6, .int x1), (5, .int (nI 0)), (0, .ref (x 1)), (1, .int (nI i)), (2, .int (nI dg)), (3, .int (nI lo)), (4, .int (nI hi))]) hx hb dX4_readRange_6 hl (by decide) rfl (fun ls hl => ?_)
  have lp2 : ∀ (n4 : Nat) (k : Nat) (b : Nat) (q : Nat) (z : Int32) (X : zL), k < n4 → (k ≤ dg) → ((b + 1) * 10 ^ k ≤ 10000) → (tRange (T 1) n lo hi dg 0 po = tRange (T 1) n lo hi k b q) → (X = tPos T q) → (tInv X n q) → (z = nI k - nI 1) → ∀ (H : Heap) (locs : List Loc) (hP : va_P G.1 vwCl (zb_T G x X) H) (hD : va_D A (zb_T G x X)) (hS : va_S A s.heap H locs) (ls : Array Slot), lv_has ls 8 [(6, .int z), (5, .int (nI b)), (0, .ref (x 1)), (1, .int (nI i)), (2, .int (nI dg)), (3, .int (nI lo)), (4, .int (nI hi))] → W p l E0 rmX4_readRange s m args below meth cd H locs 0 0 Q (F0 m 8 ls []) := by
    intro n4
    induction n4 with
    | zero => intro k b q z X hz; exact absurd hz (Nat.not_lt_zero _)
    | succ n4 ih3 =>
      intro k b q z X hm hk hb2 hq2 hX hX2 hz H locs hP hD hS ls hl
      refine lv_iload hx hb dX4_readRange_8 (lv_at hl 0 rfl) ?_
      refine lv_if_lt (tgt := 101) hx hb dX4_readRange_10 (by decide) (fun h10_4 => ?_) (fun h10_4 => ?_)
      · refine lv_aload_n hx hb dX4_readRange_101 rfl (lv_at hl 2 rfl) ?_
        refine va_get (D := G.1) (ci := 3) (v := .ref (x 3)) (C := RX4) (T := TX4) (N := 5) hx hb hts (fun _ h => List.mem_cons_of_mem _ (List.mem_append_right _ h)) hown hK hP 0 rfl rfl 4 (by decide) w3 (fun _ h9 => h9) rfl dX4_readRange_102 ?_
        refine lv_iload_n hx hb dX4_readRange_105 rfl (lv_at hl 3 rfl) ?_
        refine lv_iload hx hb dX4_readRange_106 (lv_at hl 1 rfl) ?_
        refine zk_iastN hx hb hK hP hD hS 2 0 rfl rfl (k := i) (n := 3) (by omega) (by omega) dX4_readRange_108 (fun H locs hP hD hS => ?_)
        obtain ⟨L6, eL6⟩ : ∃ z : zL, z = up2 X 2 i (nI b) := ⟨_, rfl⟩
        have hP : va_P G.1 vwCl (zb_T G x L6) H := by rw [eL6]; exact hP
        have hD : va_D A (zb_T G x L6) := by rw [eL6]; exact hD
        have hI7 : tInv L6 n q := by rw [eL6]; exact tInv_num hX2
        refine lv_iconst (v := nI 1) hx hb dX4_readRange_109 (by decide) ?_
        exact zk_retz L6 hQ hx hb hr hlocks hS hP hD (Nat.le_of_ble_eq_true rfl) (Nat.le_of_ble_eq_true rfl) dX4_readRange_110 (rfl) (by rw [hq2, show k = 0 from zk_dn0 (by omega) (by rw [← hz]; exact h10_4)]; exact ⟨rfl, by rw [eL6, hX]; rfl⟩)
      · obtain ⟨j, rfl, ez⟩ := zk_dn1 (k := k) (by omega) (by rw [← hz]; exact h10_4)
        have ezz : z = nI j := hz.trans ez
        have hl : lv_has ls 8 [(6, .int (nI j)), (5, .int (nI b)), (0, .ref (x 1)), (1, .int (nI i)), (2, .int (nI dg)), (3, .int (nI lo)), (4, .int (nI hi))] := by rw [ezz] at hl; exact hl
        refine lv_aload_n hx hb dX4_readRange_13 rfl (lv_at hl 2 rfl) ?_
        have hP0 : va_P G.1 vwCl ((zb_T G x X) ++ (([] : va_W))) H := hP.sub (ws' := (zb_T G x X) ++ (([] : va_W))) [0, 1, 2] rfl
        have hD0 : va_D A ((zb_T G x X) ++ (([] : va_W))) := hD.sub (ws' := (zb_T G x X) ++ (([] : va_W))) [0, 1, 2] (by decide) rfl
        refine zk_callI (wr := ([] : va_W)) (va_runV (As := []) (rest := []) ⟨hx, hb, hml, hown, hts⟩ (c_X4_isAtEnd l G x X n q hX2 _) (cwV 0 hts gX4_readRange_X4_isAtEnd rfl rfl rfl (by decide +kernel) ⟨Nat.le_of_ble_eq_true rfl, Nat.le_of_ble_eq_true rfl⟩) (zk_preV hE hA0 hS (zk_Papp hP0).1 (zk_Dapp hD0).1 (va_recv hK hP (ci := 3) (q0 := 0) rfl rfl)) rfl rfl hl.1 rfl (lv_room (Nat.le_of_ble_eq_true rfl)) dX4_readRange_14 ⟨Nat.le_of_ble_eq_true rfl, Nat.le_of_ble_eq_true rfl⟩) hP0 hD0 hS hA (fun r8 u9 H locs q10 hP hD hS => ?_)
        subst q10
        have hP : va_P G.1 vwCl (zb_T G x X) H := hP.sub (ws' := zb_T G x X) [0, 1, 2] rfl
        have hD : va_D A (zb_T G x X) := hD.sub (ws' := zb_T G x X) [0, 1, 2] (by decide) rfl
        refine lv_if_eq (tgt := 22) hx hb dX4_readRange_17 (by decide) (fun h17_10 => ?_) (fun h17_10 => ?_)
        · have h17_10 := zk_b0 h17_10
          refine lv_aload_n hx hb dX4_readRange_22 rfl (lv_at hl 2 rfl) ?_
          refine va_get (D := G.1) (ci := 3) (v := .ref (x 2)) (C := RX4) (T := TX4) (N := 5) hx hb hts (fun _ h => List.mem_cons_of_mem _ (List.mem_append_right _ h)) hown hK hP 0 rfl rfl 0 (by decide) w1 (fun _ h9 => h9) rfl dX4_readRange_23 ?_
          refine lv_aload_n hx hb dX4_readRange_26 rfl (lv_at hl 2 rfl) ?_
          refine va_get (D := G.1) (ci := 3) (v := .int (X 0 1)) (C := RX4) (T := TX4) (N := 5) hx hb hts (fun _ h => List.mem_cons_of_mem _ (List.mem_append_right _ h)) hown hK hP 0 rfl rfl 2 (by decide) w2 (fun _ h9 => h9) rfl dX4_readRange_27 ?_
          refine zk_top hX2.2.2.1 ?_
          refine zk_caldN hx hb hK hP 1 2 rfl rfl (k := q) (n := 120) (by omega) (by omega) dX4_readRange_30 ?_
          refine zk_top (show _ = T 1 q by rw [hX]; rfl) ?_
          refine lv_bipush (v := nI 48) hx hb dX4_readRange_31 (by decide) ?_
          refine lv_isub hx hb dX4_readRange_33 ?_
          refine lv_topi (fun x12 ex12 => ?_)
          refine lv_istore (lv' := [(7, .int x12), (6, .int (nI j)), (5, .int (nI b)), (0, .ref (x 1)), (1, .int (nI i)), (2, .int (nI dg)), (3, .int (nI lo)), (4, .int (nI hi))]) hx hb dX4_readRange_34 hl (by decide) rfl (fun ls hl => ?_)
          refine lv_iload hx hb dX4_readRange_36 (lv_at hl 0 rfl) ?_
          refine lv_if_lt (tgt := 48) hx hb dX4_readRange_38 (by decide) (fun h38_12 => ?_) (fun h38_12 => ?_)
          · refine lv_iconst (v := nI 0) hx hb dX4_readRange_48 (by decide) ?_
            exact zk_retz X hQ hx hb hr hlocks hS hP hD (Nat.le_of_ble_eq_true rfl) (Nat.le_of_ble_eq_true rfl) dX4_readRange_49 (rfl) (by rw [hq2, tRange, if_neg h17_10, if_pos (Or.inl (by rw [← ex12]; exact h38_12))]; exact ⟨rfl, hX⟩)
          · refine lv_iload hx hb dX4_readRange_41 (lv_at hl 0 rfl) ?_
            refine lv_bipush (v := nI 9) hx hb dX4_readRange_43 (by decide) ?_
            refine lv_icmp_le (tgt := 50) hx hb dX4_readRange_45 (by decide) (fun h45_13 => ?_) (fun h45_13 => ?_)
            · have h45_13 := zk_l1 h45_13
              obtain ⟨ed, hd9⟩ := tDig_9 (c := T 1 q) (by rw [← ex12]; exact h38_12) (by rw [← ex12]; exact h45_13)
              have exd : x12 = nI (tDig (T 1 q)) := ex12.trans ed
              have hno : ¬ (T 1 q - nI 48 < 0 ∨ nI 9 < T 1 q - nI 48) := fun w => w.elim (by rw [← ex12]; exact h38_12) (by rw [← ex12]; exact h45_13)
              have hbb : (10 * b + tDig (T 1 q) + 1) * 10 ^ j ≤ 10000 := by
                refine Nat.le_trans ?_ hb2
                rw [Nat.pow_succ, Nat.mul_comm (10 ^ j) 10, ← Nat.mul_assoc]
                exact Nat.mul_le_mul_right _ (by omega)
              have hbc : (10 * b + tDig (T 1 q)) * 10 ^ j ≤ 10000 := Nat.le_trans (Nat.mul_le_mul_right _ (by omega)) hbb
              have hl : lv_has ls 8 [(7, .int (nI (tDig (T 1 q)))), (6, .int (nI j)), (5, .int (nI b)), (0, .ref (x 1)), (1, .int (nI i)), (2, .int (nI dg)), (3, .int (nI lo)), (4, .int (nI hi))] := by rw [exd] at hl; exact hl
              refine lv_bipush (v := nI 10) hx hb dX4_readRange_50 (by decide) ?_
              refine lv_iload hx hb dX4_readRange_52 (lv_at hl 2 rfl) ?_
              refine zk_imulN hx hb dX4_readRange_54 ?_
              refine lv_iload hx hb dX4_readRange_55 (lv_at hl 0 rfl) ?_
              refine zk_iaddN hx hb dX4_readRange_57 ?_
              refine lv_istore (lv' := [(5, .int (nI ((10 * b) + (tDig (T 1 q))))), (7, .int (nI (tDig (T 1 q)))), (6, .int (nI j)), (0, .ref (x 1)), (1, .int (nI i)), (2, .int (nI dg)), (3, .int (nI lo)), (4, .int (nI hi))]) hx hb dX4_readRange_58 hl (by decide) rfl (fun ls hl => ?_)
              refine lv_iload hx hb dX4_readRange_60 (lv_at hl 0 rfl) ?_
              refine lv_iload hx hb dX4_readRange_62 (lv_at hl 2 rfl) ?_
              have hP0 : va_P G.1 vwCl (([] : va_W) ++ (zb_T G x X)) H := hP
              have hD0 : va_D A (([] : va_W) ++ (zb_T G x X)) := hD
              refine zk_callI (wr := zb_T G x X) (va_runS (As := [.int (nI ((10 * b) + (tDig (T 1 q)))), .int (nI j)]) (rest := []) ⟨hx, hb, hml, hown, hts⟩ (c_X4_lowestWith l G ((10 * b) + (tDig (T 1 q))) j (by omega) _) (cwS 2 hts gX4_readRange_X4_lowestWith rfl rfl rfl (by decide +kernel) ⟨Nat.le_of_ble_eq_true rfl, Nat.le_of_ble_eq_true rfl⟩) (zk_preS hE hA0 hS (zk_Papp hP0).1 (zk_Dapp hD0).1) rfl rfl hl.1 rfl (lv_room (Nat.le_of_ble_eq_true rfl)) dX4_readRange_64 ⟨Nat.le_of_ble_eq_true rfl, Nat.le_of_ble_eq_true rfl⟩) hP0 hD0 hS hA (fun r15 u16 H locs q17 hP hD hS => ?_)
              subst q17
              have hP : va_P G.1 vwCl (zb_T G x X) H := hP
              have hD : va_D A (zb_T G x X) := hD
              refine lv_iload hx hb dX4_readRange_67 (lv_at hl 7 rfl) ?_
              refine lv_icmp_gt (tgt := 83) hx hb dX4_readRange_69 (by decide) (fun h69_17 => ?_) (fun h69_17 => ?_)
              · have h69_17 := zk_lt (by omega) (by omega) h69_17
                refine lv_iconst (v := nI 0) hx hb dX4_readRange_83 (by decide) ?_
                exact zk_retz X hQ hx hb hr hlocks hS hP hD (Nat.le_of_ble_eq_true rfl) (Nat.le_of_ble_eq_true rfl) dX4_readRange_84 (rfl) (by rw [hq2, tRange, if_neg h17_10, if_neg hno, if_pos (Or.inl h69_17)]; exact ⟨rfl, hX⟩)
              · have h69_17 := zk_nlt (by omega) (by omega) h69_17
                refine lv_iload hx hb dX4_readRange_72 (lv_at hl 0 rfl) ?_
                refine lv_iload hx hb dX4_readRange_74 (lv_at hl 2 rfl) ?_
                have hP0 : va_P G.1 vwCl (([] : va_W) ++ (zb_T G x X)) H := hP
                have hD0 : va_D A (([] : va_W) ++ (zb_T G x X)) := hD
                refine zk_callI (wr := zb_T G x X) (va_runS (As := [.int (nI ((10 * b) + (tDig (T 1 q)))), .int (nI j)]) (rest := []) ⟨hx, hb, hml, hown, hts⟩ (c_X4_highestWith l G ((10 * b) + (tDig (T 1 q))) j (by omega) _) (cwS 2 hts gX4_readRange_X4_highestWith rfl rfl rfl (by decide +kernel) ⟨Nat.le_of_ble_eq_true rfl, Nat.le_of_ble_eq_true rfl⟩) (zk_preS hE hA0 hS (zk_Papp hP0).1 (zk_Dapp hD0).1) rfl rfl hl.1 rfl (lv_room (Nat.le_of_ble_eq_true rfl)) dX4_readRange_76 ⟨Nat.le_of_ble_eq_true rfl, Nat.le_of_ble_eq_true rfl⟩) hP0 hD0 hS hA (fun r19 u20 H locs q21 hP hD hS => ?_)
                subst q21
                have hP : va_P G.1 vwCl (zb_T G x X) H := hP
                have hD : va_D A (zb_T G x X) := hD
                refine lv_iload_n hx hb dX4_readRange_79 rfl (lv_at hl 6 rfl) ?_
                refine lv_icmp_ge (tgt := 85) hx hb dX4_readRange_80 (by decide) (fun h80_21 => ?_) (fun h80_21 => ?_)
                · have h80_21 := zk_le (by omega) (by omega) h80_21
                  refine lv_aload_n hx hb dX4_readRange_85 rfl (lv_at hl 3 rfl) ?_
                  refine lv_dup hx hb dX4_readRange_86 rfl ?_
                  refine va_get (D := G.1) (ci := 3) (v := .int (X 0 1)) (C := RX4) (T := TX4) (N := 5) hx hb hts (fun _ h => List.mem_cons_of_mem _ (List.mem_append_right _ h)) hown hK hP 0 rfl rfl 2 (by decide) w2 (fun _ h9 => h9) rfl dX4_readRange_87 ?_
                  refine zk_top hX2.2.2.1 ?_
                  refine lv_iconst (v := nI 1) hx hb dX4_readRange_90 (by decide) ?_
                  refine zk_iaddN hx hb dX4_readRange_91 ?_
                  refine va_put (D := G.1) (ci := 3) (v := .int (nI (q + 1))) (ty := .int) (C := RX4) (T := TX4) (N := 5) hx hb hts (fun _ h => List.mem_cons_of_mem _ (List.mem_append_right _ h)) tyX4 tyX4_ok nmX4 hown hK hP hD hS 0 rfl rfl 2 (by decide) w2 (fun _ h9 => h9) rfl (by decide +kernel) rfl rfl (Nat.le_of_ble_eq_true rfl) dX4_readRange_92 (fun H locs hP hD hS => ?_)
                  obtain ⟨L23, eL23⟩ : ∃ z : zL, z = up2 X 0 1 (nI (q + 1)) := ⟨_, rfl⟩
                  have hP : va_P G.1 vwCl (zb_T G x L23) H := by rw [eL23]; exact hP
                  have hD : va_D A (zb_T G x L23) := by rw [eL23]; exact hD
                  have hI24 : tInv L23 n (q + 1) := by rw [eL23]; exact tInv_pos hX2 (by omega)
                  obtain ⟨x25, ex25⟩ : ∃ z : Int32, z = (nI j) - nI 1 := ⟨_, rfl⟩
                  refine lv_iinc (v := x25) (lv' := [(6, .int x25), (5, .int (nI ((10 * b) + (tDig (T 1 q))))), (7, .int (nI (tDig (T 1 q)))), (0, .ref (x 1)), (1, .int (nI i)), (2, .int (nI dg)), (3, .int (nI lo)), (4, .int (nI hi))]) hx hb dX4_readRange_95 hl (k := 2) rfl (by rw [ex25]; exact zk_dec j) (by decide) rfl (fun ls hl => ?_)
                  refine lv_goto (tgt := 8) hx hb dX4_readRange_98 (by decide) ?_
                  exact ih3 j ((10 * b) + (tDig (T 1 q))) (q + 1) x25 L23 (by omega) (by omega) (hbb) (by rw [hq2, tRange, if_neg h17_10, if_neg hno, if_neg (fun w => w.elim (fun w => by omega) (fun w => by omega))]) (by rw [eL23, hX]; exact tPos_pos _ _ _) (hI24) (ex25) _ _ hP hD hS ls (lv_sub hl [0, 1, 3, 4, 5, 6, 7] rfl)
                · have h80_21 := zk_nle (by omega) (by omega) h80_21
                  refine lv_iconst (v := nI 0) hx hb dX4_readRange_83 (by decide) ?_
                  exact zk_retz X hQ hx hb hr hlocks hS hP hD (Nat.le_of_ble_eq_true rfl) (Nat.le_of_ble_eq_true rfl) dX4_readRange_84 (rfl) (by rw [hq2, tRange, if_neg h17_10, if_neg hno, if_pos (Or.inr h80_21)]; exact ⟨rfl, hX⟩)
            · have h45_13 := zk_l2 h45_13
              refine lv_iconst (v := nI 0) hx hb dX4_readRange_48 (by decide) ?_
              exact zk_retz X hQ hx hb hr hlocks hS hP hD (Nat.le_of_ble_eq_true rfl) (Nat.le_of_ble_eq_true rfl) dX4_readRange_49 (rfl) (by rw [hq2, tRange, if_neg h17_10, if_pos (Or.inr (by rw [← ex12]; exact h45_13))]; exact ⟨rfl, hX⟩)
        · have h17_10 := zk_b1 h17_10
          refine lv_iconst (v := nI 0) hx hb dX4_readRange_20 (by decide) ?_
          exact zk_retz X hQ hx hb hr hlocks hS hP hD (Nat.le_of_ble_eq_true rfl) (Nat.le_of_ble_eq_true rfl) dX4_readRange_21 (rfl) (by rw [hq2, tRange, if_pos h17_10]; exact ⟨rfl, hX⟩)
  exact lp2 _ dg 0 po x1 T (Nat.lt_succ_self _) (Nat.le_refl _) (by rcases (show dg = 1 ∨ dg = 2 ∨ dg = 3 ∨ dg = 4 by omega) with rfl | rfl | rfl | rfl <;> decide) (rfl) ((tPos_self hI).symm) (hI) (ex1) _ _ hP hD hS ls (lv_sub hl [0, 1, 2, 3, 4, 5, 6] rfl)

abbrev rmX4_readNumber : Room := { frames := 2, cells := 0, slots := 0, locals := 50 }
set_option maxHeartbeats 4000000 in
set_option maxRecDepth 100000 in
/-- a number of a kind is read -/
theorem c_X4_readNumber (l : Launch) (G : zk_G) (x : Nat → Nat) (T : zL) (n po : Nat) (hI : tInv T n po) (i : Nat) (k : Int32) (hi3 : i < 3) : zk_I (S := zL) l yX4_readNumber wsX4_readNumber rmX4_readNumber G [.ref (x 1), .int (nI i), .int k] (zb_T G x T) (fun r u => r = (if ¬ (tNum (T 1) n k po).1 = none then nI 1 else nI 0) ∧ u = tSet T i (tNum (T 1) n k po)) (fun u => zb_T G x u) := by
  refine zk_bodyI (cc := cX4_readNumber) (maxL := 3) (ret := (some .boolean)) (by decide) rfl (Nat.le_of_ble_eq_true rfl) ?_
  intro p E0 s m args below meth cd A ls Q hF hQ
  obtain ⟨hx, hb, hml, hr, hts, hown, hlocks, -, hE, hP, hD, hS, hA, hA0, hl⟩ := hF
  have hK := hE.1
  have hl : lv_has ls 3 [(0, .ref (x 1)), (1, .int (nI i)), (2, .int k)] := hl
  obtain ⟨hn, hn120, hp, hp120, hch⟩ := id hI
  refine lv_iload_n hx hb dX4_readNumber_0 rfl (lv_at hl 2 rfl) ?_
  rcases Decidable.em (k = nI 97) with h1_97 | h1_n97
  · refine lv_tableIn (tgt := 144) hx hb dX4_readNumber_1 (by rw [h1_97]; decide) (by rw [h1_97]; decide) (by rw [h1_97]; rfl) (by decide) ?_
    refine lv_aload_n hx hb dX4_readNumber_144 rfl (lv_at hl 0 rfl) ?_
    refine lv_iload_n hx hb dX4_readNumber_145 rfl (lv_at hl 1 rfl) ?_
    refine lv_iconst (v := nI 4) hx hb dX4_readNumber_146 (by decide) ?_
    refine lv_iconst (v := nI 1) hx hb dX4_readNumber_147 (by decide) ?_
    refine lv_sipush (v := nI 9999) hx hb dX4_readNumber_148 (by decide) ?_
    have hP0 : va_P G.1 vwCl ((zb_T G x T) ++ (([] : va_W))) s.heap := hP.sub (ws' := (zb_T G x T) ++ (([] : va_W))) [0, 1, 2] rfl
    have hD0 : va_D A ((zb_T G x T) ++ (([] : va_W))) := hD.sub (ws' := (zb_T G x T) ++ (([] : va_W))) [0, 1, 2] (by decide) rfl
    refine zk_callI (wr := ([] : va_W)) (va_runV (As := [.int (nI i), .int (nI 4), .int (nI 1), .int (nI 9999)]) (rest := []) ⟨hx, hb, hml, hown, hts⟩ (c_X4_readRange l G x T n po hI i 4 1 9999 (by omega) (by omega) (by omega) (by omega) (by omega) _) (cwV 4 hts gX4_readNumber_X4_readRange rfl rfl rfl (by decide +kernel) ⟨Nat.le_of_ble_eq_true rfl, Nat.le_of_ble_eq_true rfl⟩) (zk_preV hE hA0 hS (zk_Papp hP0).1 (zk_Dapp hD0).1 (va_recv hK hP (ci := 3) (q0 := 0) rfl rfl)) rfl rfl hl.1 rfl (lv_room (Nat.le_of_ble_eq_true rfl)) dX4_readNumber_151 ⟨Nat.le_of_ble_eq_true rfl, Nat.le_of_ble_eq_true rfl⟩) hP0 hD0 hS hA (fun r2 u3 H locs q4 hP hD hS => ?_)
    obtain ⟨er2, eL5⟩ := q4
    subst er2
    have hI6 : tInv u3 n ((tRange (T 1) n 1 9999 4 0 po).2) := by rw [eL5]; exact tInv_set hI (tRange_le hn120 hp120)
    have hP : va_P G.1 vwCl (zb_T G x u3) H := hP.sub (ws' := zb_T G x u3) [0, 1, 2] rfl
    have hD : va_D A (zb_T G x u3) := hD.sub (ws' := zb_T G x u3) [0, 1, 2] (by decide) rfl
    exact zk_retz u3 hQ hx hb hr hlocks hS hP hD (Nat.le_of_ble_eq_true rfl) (Nat.le_of_ble_eq_true rfl) dX4_readNumber_154 (zk_nb) (by rw [tNum_97 h1_97]; exact ⟨rfl, eL5⟩)
  rcases Decidable.em (k = nI 98) with h1_98 | h1_n98
  · refine lv_tableIn (tgt := 155) hx hb dX4_readNumber_1 (by rw [h1_98]; decide) (by rw [h1_98]; decide) (by rw [h1_98]; rfl) (by decide) ?_
    refine lv_iconst (v := nI 0) hx hb dX4_readNumber_155 (by decide) ?_
    exact zk_retz T hQ hx hb hr hlocks hS hP hD (Nat.le_of_ble_eq_true rfl) (Nat.le_of_ble_eq_true rfl) dX4_readNumber_156 (rfl) (by rw [tNum_no (by rw [h1_98]; rfl)]; exact ⟨rfl, (tPos_self hI).symm⟩)
  rcases Decidable.em (k = nI 99) with h1_99 | h1_n99
  · refine lv_tableIn (tgt := 134) hx hb dX4_readNumber_1 (by rw [h1_99]; decide) (by rw [h1_99]; decide) (by rw [h1_99]; rfl) (by decide) ?_
    refine lv_aload_n hx hb dX4_readNumber_134 rfl (lv_at hl 0 rfl) ?_
    refine lv_iload_n hx hb dX4_readNumber_135 rfl (lv_at hl 1 rfl) ?_
    refine lv_iconst (v := nI 2) hx hb dX4_readNumber_136 (by decide) ?_
    refine lv_iconst (v := nI 0) hx hb dX4_readNumber_137 (by decide) ?_
    refine lv_bipush (v := nI 11) hx hb dX4_readNumber_138 (by decide) ?_
    have hP0 : va_P G.1 vwCl ((zb_T G x T) ++ (([] : va_W))) s.heap := hP.sub (ws' := (zb_T G x T) ++ (([] : va_W))) [0, 1, 2] rfl
    have hD0 : va_D A ((zb_T G x T) ++ (([] : va_W))) := hD.sub (ws' := (zb_T G x T) ++ (([] : va_W))) [0, 1, 2] (by decide) rfl
    refine zk_callI (wr := ([] : va_W)) (va_runV (As := [.int (nI i), .int (nI 2), .int (nI 0), .int (nI 11)]) (rest := []) ⟨hx, hb, hml, hown, hts⟩ (c_X4_readRange l G x T n po hI i 2 0 11 (by omega) (by omega) (by omega) (by omega) (by omega) _) (cwV 4 hts gX4_readNumber_X4_readRange rfl rfl rfl (by decide +kernel) ⟨Nat.le_of_ble_eq_true rfl, Nat.le_of_ble_eq_true rfl⟩) (zk_preV hE hA0 hS (zk_Papp hP0).1 (zk_Dapp hD0).1 (va_recv hK hP (ci := 3) (q0 := 0) rfl rfl)) rfl rfl hl.1 rfl (lv_room (Nat.le_of_ble_eq_true rfl)) dX4_readNumber_140 ⟨Nat.le_of_ble_eq_true rfl, Nat.le_of_ble_eq_true rfl⟩) hP0 hD0 hS hA (fun r7 u8 H locs q9 hP hD hS => ?_)
    obtain ⟨er7, eL10⟩ := q9
    subst er7
    have hI11 : tInv u8 n ((tRange (T 1) n 0 11 2 0 po).2) := by rw [eL10]; exact tInv_set hI (tRange_le hn120 hp120)
    have hP : va_P G.1 vwCl (zb_T G x u8) H := hP.sub (ws' := zb_T G x u8) [0, 1, 2] rfl
    have hD : va_D A (zb_T G x u8) := hD.sub (ws' := zb_T G x u8) [0, 1, 2] (by decide) rfl
    exact zk_retz u8 hQ hx hb hr hlocks hS hP hD (Nat.le_of_ble_eq_true rfl) (Nat.le_of_ble_eq_true rfl) dX4_readNumber_143 (zk_nb) (by rw [tNum_99 h1_99]; exact ⟨rfl, eL10⟩)
  rcases Decidable.em (k = nI 100) with h1_100 | h1_n100
  · refine lv_tableIn (tgt := 124) hx hb dX4_readNumber_1 (by rw [h1_100]; decide) (by rw [h1_100]; decide) (by rw [h1_100]; rfl) (by decide) ?_
    refine lv_aload_n hx hb dX4_readNumber_124 rfl (lv_at hl 0 rfl) ?_
    refine lv_iload_n hx hb dX4_readNumber_125 rfl (lv_at hl 1 rfl) ?_
    refine lv_iconst (v := nI 2) hx hb dX4_readNumber_126 (by decide) ?_
    refine lv_iconst (v := nI 0) hx hb dX4_readNumber_127 (by decide) ?_
    refine lv_bipush (v := nI 39) hx hb dX4_readNumber_128 (by decide) ?_
    have hP0 : va_P G.1 vwCl ((zb_T G x T) ++ (([] : va_W))) s.heap := hP.sub (ws' := (zb_T G x T) ++ (([] : va_W))) [0, 1, 2] rfl
    have hD0 : va_D A ((zb_T G x T) ++ (([] : va_W))) := hD.sub (ws' := (zb_T G x T) ++ (([] : va_W))) [0, 1, 2] (by decide) rfl
    refine zk_callI (wr := ([] : va_W)) (va_runV (As := [.int (nI i), .int (nI 2), .int (nI 0), .int (nI 39)]) (rest := []) ⟨hx, hb, hml, hown, hts⟩ (c_X4_readRange l G x T n po hI i 2 0 39 (by omega) (by omega) (by omega) (by omega) (by omega) _) (cwV 4 hts gX4_readNumber_X4_readRange rfl rfl rfl (by decide +kernel) ⟨Nat.le_of_ble_eq_true rfl, Nat.le_of_ble_eq_true rfl⟩) (zk_preV hE hA0 hS (zk_Papp hP0).1 (zk_Dapp hD0).1 (va_recv hK hP (ci := 3) (q0 := 0) rfl rfl)) rfl rfl hl.1 rfl (lv_room (Nat.le_of_ble_eq_true rfl)) dX4_readNumber_130 ⟨Nat.le_of_ble_eq_true rfl, Nat.le_of_ble_eq_true rfl⟩) hP0 hD0 hS hA (fun r12 u13 H locs q14 hP hD hS => ?_)
    obtain ⟨er12, eL15⟩ := q14
    subst er12
    have hI16 : tInv u13 n ((tRange (T 1) n 0 39 2 0 po).2) := by rw [eL15]; exact tInv_set hI (tRange_le hn120 hp120)
    have hP : va_P G.1 vwCl (zb_T G x u13) H := hP.sub (ws' := zb_T G x u13) [0, 1, 2] rfl
    have hD : va_D A (zb_T G x u13) := hD.sub (ws' := zb_T G x u13) [0, 1, 2] (by decide) rfl
    exact zk_retz u13 hQ hx hb hr hlocks hS hP hD (Nat.le_of_ble_eq_true rfl) (Nat.le_of_ble_eq_true rfl) dX4_readNumber_133 (zk_nb) (by rw [tNum_100 h1_100]; exact ⟨rfl, eL15⟩)
  rcases Decidable.em (k = nI 101) with h1_101 | h1_n101
  · refine lv_tableIn (tgt := 155) hx hb dX4_readNumber_1 (by rw [h1_101]; decide) (by rw [h1_101]; decide) (by rw [h1_101]; rfl) (by decide) ?_
    refine lv_iconst (v := nI 0) hx hb dX4_readNumber_155 (by decide) ?_
    exact zk_retz T hQ hx hb hr hlocks hS hP hD (Nat.le_of_ble_eq_true rfl) (Nat.le_of_ble_eq_true rfl) dX4_readNumber_156 (rfl) (by rw [tNum_no (by rw [h1_101]; rfl)]; exact ⟨rfl, (tPos_self hI).symm⟩)
  rcases Decidable.em (k = nI 102) with h1_102 | h1_n102
  · refine lv_tableIn (tgt := 96) hx hb dX4_readNumber_1 (by rw [h1_102]; decide) (by rw [h1_102]; decide) (by rw [h1_102]; rfl) (by decide) ?_
    refine lv_aload_n hx hb dX4_readNumber_96 rfl (lv_at hl 0 rfl) ?_
    refine lv_iload_n hx hb dX4_readNumber_97 rfl (lv_at hl 1 rfl) ?_
    refine lv_iconst (v := nI 1) hx hb dX4_readNumber_98 (by decide) ?_
    refine lv_iconst (v := nI 0) hx hb dX4_readNumber_99 (by decide) ?_
    refine lv_iconst (v := nI 4) hx hb dX4_readNumber_100 (by decide) ?_
    have hP0 : va_P G.1 vwCl ((zb_T G x T) ++ (([] : va_W))) s.heap := hP.sub (ws' := (zb_T G x T) ++ (([] : va_W))) [0, 1, 2] rfl
    have hD0 : va_D A ((zb_T G x T) ++ (([] : va_W))) := hD.sub (ws' := (zb_T G x T) ++ (([] : va_W))) [0, 1, 2] (by decide) rfl
    refine zk_callI (wr := ([] : va_W)) (va_runV (As := [.int (nI i), .int (nI 1), .int (nI 0), .int (nI 4)]) (rest := []) ⟨hx, hb, hml, hown, hts⟩ (c_X4_readRange l G x T n po hI i 1 0 4 (by omega) (by omega) (by omega) (by omega) (by omega) _) (cwV 4 hts gX4_readNumber_X4_readRange rfl rfl rfl (by decide +kernel) ⟨Nat.le_of_ble_eq_true rfl, Nat.le_of_ble_eq_true rfl⟩) (zk_preV hE hA0 hS (zk_Papp hP0).1 (zk_Dapp hD0).1 (va_recv hK hP (ci := 3) (q0 := 0) rfl rfl)) rfl rfl hl.1 rfl (lv_room (Nat.le_of_ble_eq_true rfl)) dX4_readNumber_101 ⟨Nat.le_of_ble_eq_true rfl, Nat.le_of_ble_eq_true rfl⟩) hP0 hD0 hS hA (fun r17 u18 H locs q19 hP hD hS => ?_)
    obtain ⟨er17, eL20⟩ := q19
    subst er17
    have hI21 : tInv u18 n ((tRange (T 1) n 0 4 1 0 po).2) := by rw [eL20]; exact tInv_set hI (tRange_le hn120 hp120)
    have hP : va_P G.1 vwCl (zb_T G x u18) H := hP.sub (ws' := zb_T G x u18) [0, 1, 2] rfl
    have hD : va_D A (zb_T G x u18) := hD.sub (ws' := zb_T G x u18) [0, 1, 2] (by decide) rfl
    exact zk_retz u18 hQ hx hb hr hlocks hS hP hD (Nat.le_of_ble_eq_true rfl) (Nat.le_of_ble_eq_true rfl) dX4_readNumber_104 (zk_nb) (by rw [tNum_102 h1_102]; exact ⟨rfl, eL20⟩)
  rcases Decidable.em (k = nI 103) with h1_103 | h1_n103
  · refine lv_tableIn (tgt := 155) hx hb dX4_readNumber_1 (by rw [h1_103]; decide) (by rw [h1_103]; decide) (by rw [h1_103]; rfl) (by decide) ?_
    refine lv_iconst (v := nI 0) hx hb dX4_readNumber_155 (by decide) ?_
    exact zk_retz T hQ hx hb hr hlocks hS hP hD (Nat.le_of_ble_eq_true rfl) (Nat.le_of_ble_eq_true rfl) dX4_readNumber_156 (rfl) (by rw [tNum_no (by rw [h1_103]; rfl)]; exact ⟨rfl, (tPos_self hI).symm⟩)
  rcases Decidable.em (k = nI 104) with h1_104 | h1_n104
  · refine lv_tableIn (tgt := 155) hx hb dX4_readNumber_1 (by rw [h1_104]; decide) (by rw [h1_104]; decide) (by rw [h1_104]; rfl) (by decide) ?_
    refine lv_iconst (v := nI 0) hx hb dX4_readNumber_155 (by decide) ?_
    exact zk_retz T hQ hx hb hr hlocks hS hP hD (Nat.le_of_ble_eq_true rfl) (Nat.le_of_ble_eq_true rfl) dX4_readNumber_156 (rfl) (by rw [tNum_no (by rw [h1_104]; rfl)]; exact ⟨rfl, (tPos_self hI).symm⟩)
  rcases Decidable.em (k = nI 105) with h1_105 | h1_n105
  · refine lv_tableIn (tgt := 155) hx hb dX4_readNumber_1 (by rw [h1_105]; decide) (by rw [h1_105]; decide) (by rw [h1_105]; rfl) (by decide) ?_
    refine lv_iconst (v := nI 0) hx hb dX4_readNumber_155 (by decide) ?_
    exact zk_retz T hQ hx hb hr hlocks hS hP hD (Nat.le_of_ble_eq_true rfl) (Nat.le_of_ble_eq_true rfl) dX4_readNumber_156 (rfl) (by rw [tNum_no (by rw [h1_105]; rfl)]; exact ⟨rfl, (tPos_self hI).symm⟩)
  rcases Decidable.em (k = nI 106) with h1_106 | h1_n106
  · refine lv_tableIn (tgt := 155) hx hb dX4_readNumber_1 (by rw [h1_106]; decide) (by rw [h1_106]; decide) (by rw [h1_106]; rfl) (by decide) ?_
    refine lv_iconst (v := nI 0) hx hb dX4_readNumber_155 (by decide) ?_
    exact zk_retz T hQ hx hb hr hlocks hS hP hD (Nat.le_of_ble_eq_true rfl) (Nat.le_of_ble_eq_true rfl) dX4_readNumber_156 (rfl) (by rw [tNum_no (by rw [h1_106]; rfl)]; exact ⟨rfl, (tPos_self hI).symm⟩)
  rcases Decidable.em (k = nI 107) with h1_107 | h1_n107
  · refine lv_tableIn (tgt := 155) hx hb dX4_readNumber_1 (by rw [h1_107]; decide) (by rw [h1_107]; decide) (by rw [h1_107]; rfl) (by decide) ?_
    refine lv_iconst (v := nI 0) hx hb dX4_readNumber_155 (by decide) ?_
    exact zk_retz T hQ hx hb hr hlocks hS hP hD (Nat.le_of_ble_eq_true rfl) (Nat.le_of_ble_eq_true rfl) dX4_readNumber_156 (rfl) (by rw [tNum_no (by rw [h1_107]; rfl)]; exact ⟨rfl, (tPos_self hI).symm⟩)
  rcases Decidable.em (k = nI 108) with h1_108 | h1_n108
  · refine lv_tableIn (tgt := 155) hx hb dX4_readNumber_1 (by rw [h1_108]; decide) (by rw [h1_108]; decide) (by rw [h1_108]; rfl) (by decide) ?_
    refine lv_iconst (v := nI 0) hx hb dX4_readNumber_155 (by decide) ?_
    exact zk_retz T hQ hx hb hr hlocks hS hP hD (Nat.le_of_ble_eq_true rfl) (Nat.le_of_ble_eq_true rfl) dX4_readNumber_156 (rfl) (by rw [tNum_no (by rw [h1_108]; rfl)]; exact ⟨rfl, (tPos_self hI).symm⟩)
  rcases Decidable.em (k = nI 109) with h1_109 | h1_n109
  · refine lv_tableIn (tgt := 155) hx hb dX4_readNumber_1 (by rw [h1_109]; decide) (by rw [h1_109]; decide) (by rw [h1_109]; rfl) (by decide) ?_
    refine lv_iconst (v := nI 0) hx hb dX4_readNumber_155 (by decide) ?_
    exact zk_retz T hQ hx hb hr hlocks hS hP hD (Nat.le_of_ble_eq_true rfl) (Nat.le_of_ble_eq_true rfl) dX4_readNumber_156 (rfl) (by rw [tNum_no (by rw [h1_109]; rfl)]; exact ⟨rfl, (tPos_self hI).symm⟩)
  rcases Decidable.em (k = nI 110) with h1_110 | h1_n110
  · refine lv_tableIn (tgt := 114) hx hb dX4_readNumber_1 (by rw [h1_110]; decide) (by rw [h1_110]; decide) (by rw [h1_110]; rfl) (by decide) ?_
    refine lv_aload_n hx hb dX4_readNumber_114 rfl (lv_at hl 0 rfl) ?_
    refine lv_iload_n hx hb dX4_readNumber_115 rfl (lv_at hl 1 rfl) ?_
    refine lv_iconst (v := nI 1) hx hb dX4_readNumber_116 (by decide) ?_
    refine lv_iconst (v := nI 1) hx hb dX4_readNumber_117 (by decide) ?_
    refine lv_bipush (v := nI 9) hx hb dX4_readNumber_118 (by decide) ?_
    have hP0 : va_P G.1 vwCl ((zb_T G x T) ++ (([] : va_W))) s.heap := hP.sub (ws' := (zb_T G x T) ++ (([] : va_W))) [0, 1, 2] rfl
    have hD0 : va_D A ((zb_T G x T) ++ (([] : va_W))) := hD.sub (ws' := (zb_T G x T) ++ (([] : va_W))) [0, 1, 2] (by decide) rfl
    refine zk_callI (wr := ([] : va_W)) (va_runV (As := [.int (nI i), .int (nI 1), .int (nI 1), .int (nI 9)]) (rest := []) ⟨hx, hb, hml, hown, hts⟩ (c_X4_readRange l G x T n po hI i 1 1 9 (by omega) (by omega) (by omega) (by omega) (by omega) _) (cwV 4 hts gX4_readNumber_X4_readRange rfl rfl rfl (by decide +kernel) ⟨Nat.le_of_ble_eq_true rfl, Nat.le_of_ble_eq_true rfl⟩) (zk_preV hE hA0 hS (zk_Papp hP0).1 (zk_Dapp hD0).1 (va_recv hK hP (ci := 3) (q0 := 0) rfl rfl)) rfl rfl hl.1 rfl (lv_room (Nat.le_of_ble_eq_true rfl)) dX4_readNumber_120 ⟨Nat.le_of_ble_eq_true rfl, Nat.le_of_ble_eq_true rfl⟩) hP0 hD0 hS hA (fun r22 u23 H locs q24 hP hD hS => ?_)
    obtain ⟨er22, eL25⟩ := q24
    subst er22
    have hI26 : tInv u23 n ((tRange (T 1) n 1 9 1 0 po).2) := by rw [eL25]; exact tInv_set hI (tRange_le hn120 hp120)
    have hP : va_P G.1 vwCl (zb_T G x u23) H := hP.sub (ws' := zb_T G x u23) [0, 1, 2] rfl
    have hD : va_D A (zb_T G x u23) := hD.sub (ws' := zb_T G x u23) [0, 1, 2] (by decide) rfl
    exact zk_retz u23 hQ hx hb hr hlocks hS hP hD (Nat.le_of_ble_eq_true rfl) (Nat.le_of_ble_eq_true rfl) dX4_readNumber_123 (zk_nb) (by rw [tNum_110 h1_110]; exact ⟨rfl, eL25⟩)
  rcases Decidable.em (k = nI 111) with h1_111 | h1_n111
  · refine lv_tableIn (tgt := 155) hx hb dX4_readNumber_1 (by rw [h1_111]; decide) (by rw [h1_111]; decide) (by rw [h1_111]; rfl) (by decide) ?_
    refine lv_iconst (v := nI 0) hx hb dX4_readNumber_155 (by decide) ?_
    exact zk_retz T hQ hx hb hr hlocks hS hP hD (Nat.le_of_ble_eq_true rfl) (Nat.le_of_ble_eq_true rfl) dX4_readNumber_156 (rfl) (by rw [tNum_no (by rw [h1_111]; rfl)]; exact ⟨rfl, (tPos_self hI).symm⟩)
  rcases Decidable.em (k = nI 112) with h1_112 | h1_n112
  · refine lv_tableIn (tgt := 155) hx hb dX4_readNumber_1 (by rw [h1_112]; decide) (by rw [h1_112]; decide) (by rw [h1_112]; rfl) (by decide) ?_
    refine lv_iconst (v := nI 0) hx hb dX4_readNumber_155 (by decide) ?_
    exact zk_retz T hQ hx hb hr hlocks hS hP hD (Nat.le_of_ble_eq_true rfl) (Nat.le_of_ble_eq_true rfl) dX4_readNumber_156 (rfl) (by rw [tNum_no (by rw [h1_112]; rfl)]; exact ⟨rfl, (tPos_self hI).symm⟩)
  rcases Decidable.em (k = nI 113) with h1_113 | h1_n113
  · refine lv_tableIn (tgt := 155) hx hb dX4_readNumber_1 (by rw [h1_113]; decide) (by rw [h1_113]; decide) (by rw [h1_113]; rfl) (by decide) ?_
    refine lv_iconst (v := nI 0) hx hb dX4_readNumber_155 (by decide) ?_
    exact zk_retz T hQ hx hb hr hlocks hS hP hD (Nat.le_of_ble_eq_true rfl) (Nat.le_of_ble_eq_true rfl) dX4_readNumber_156 (rfl) (by rw [tNum_no (by rw [h1_113]; rfl)]; exact ⟨rfl, (tPos_self hI).symm⟩)
  rcases Decidable.em (k = nI 114) with h1_114 | h1_n114
  · refine lv_tableIn (tgt := 155) hx hb dX4_readNumber_1 (by rw [h1_114]; decide) (by rw [h1_114]; decide) (by rw [h1_114]; rfl) (by decide) ?_
    refine lv_iconst (v := nI 0) hx hb dX4_readNumber_155 (by decide) ?_
    exact zk_retz T hQ hx hb hr hlocks hS hP hD (Nat.le_of_ble_eq_true rfl) (Nat.le_of_ble_eq_true rfl) dX4_readNumber_156 (rfl) (by rw [tNum_no (by rw [h1_114]; rfl)]; exact ⟨rfl, (tPos_self hI).symm⟩)
  rcases Decidable.em (k = nI 115) with h1_115 | h1_n115
  · refine lv_tableIn (tgt := 155) hx hb dX4_readNumber_1 (by rw [h1_115]; decide) (by rw [h1_115]; decide) (by rw [h1_115]; rfl) (by decide) ?_
    refine lv_iconst (v := nI 0) hx hb dX4_readNumber_155 (by decide) ?_
    exact zk_retz T hQ hx hb hr hlocks hS hP hD (Nat.le_of_ble_eq_true rfl) (Nat.le_of_ble_eq_true rfl) dX4_readNumber_156 (rfl) (by rw [tNum_no (by rw [h1_115]; rfl)]; exact ⟨rfl, (tPos_self hI).symm⟩)
  rcases Decidable.em (k = nI 116) with h1_116 | h1_n116
  · refine lv_tableIn (tgt := 105) hx hb dX4_readNumber_1 (by rw [h1_116]; decide) (by rw [h1_116]; decide) (by rw [h1_116]; rfl) (by decide) ?_
    refine lv_aload_n hx hb dX4_readNumber_105 rfl (lv_at hl 0 rfl) ?_
    refine lv_iload_n hx hb dX4_readNumber_106 rfl (lv_at hl 1 rfl) ?_
    refine lv_iconst (v := nI 1) hx hb dX4_readNumber_107 (by decide) ?_
    refine lv_iconst (v := nI 0) hx hb dX4_readNumber_108 (by decide) ?_
    refine lv_iconst (v := nI 3) hx hb dX4_readNumber_109 (by decide) ?_
    have hP0 : va_P G.1 vwCl ((zb_T G x T) ++ (([] : va_W))) s.heap := hP.sub (ws' := (zb_T G x T) ++ (([] : va_W))) [0, 1, 2] rfl
    have hD0 : va_D A ((zb_T G x T) ++ (([] : va_W))) := hD.sub (ws' := (zb_T G x T) ++ (([] : va_W))) [0, 1, 2] (by decide) rfl
    refine zk_callI (wr := ([] : va_W)) (va_runV (As := [.int (nI i), .int (nI 1), .int (nI 0), .int (nI 3)]) (rest := []) ⟨hx, hb, hml, hown, hts⟩ (c_X4_readRange l G x T n po hI i 1 0 3 (by omega) (by omega) (by omega) (by omega) (by omega) _) (cwV 4 hts gX4_readNumber_X4_readRange rfl rfl rfl (by decide +kernel) ⟨Nat.le_of_ble_eq_true rfl, Nat.le_of_ble_eq_true rfl⟩) (zk_preV hE hA0 hS (zk_Papp hP0).1 (zk_Dapp hD0).1 (va_recv hK hP (ci := 3) (q0 := 0) rfl rfl)) rfl rfl hl.1 rfl (lv_room (Nat.le_of_ble_eq_true rfl)) dX4_readNumber_110 ⟨Nat.le_of_ble_eq_true rfl, Nat.le_of_ble_eq_true rfl⟩) hP0 hD0 hS hA (fun r27 u28 H locs q29 hP hD hS => ?_)
    obtain ⟨er27, eL30⟩ := q29
    subst er27
    have hI31 : tInv u28 n ((tRange (T 1) n 0 3 1 0 po).2) := by rw [eL30]; exact tInv_set hI (tRange_le hn120 hp120)
    have hP : va_P G.1 vwCl (zb_T G x u28) H := hP.sub (ws' := zb_T G x u28) [0, 1, 2] rfl
    have hD : va_D A (zb_T G x u28) := hD.sub (ws' := zb_T G x u28) [0, 1, 2] (by decide) rfl
    exact zk_retz u28 hQ hx hb hr hlocks hS hP hD (Nat.le_of_ble_eq_true rfl) (Nat.le_of_ble_eq_true rfl) dX4_readNumber_113 (zk_nb) (by rw [tNum_116 h1_116]; exact ⟨rfl, eL30⟩)
  refine lv_tableOut (tgt := 155) hx hb dX4_readNumber_1 (zk_out (97) 20 (fun k hk z => by
        rcases (show k = 0 ∨ k = 1 ∨ k = 2 ∨ k = 3 ∨ k = 4 ∨ k = 5 ∨ k = 6 ∨ k = 7 ∨ k = 8 ∨ k = 9 ∨ k = 10 ∨ k = 11 ∨ k = 12 ∨ k = 13 ∨ k = 14 ∨ k = 15 ∨ k = 16 ∨ k = 17 ∨ k = 18 ∨ k = 19 by omega) with rfl | rfl | rfl | rfl | rfl | rfl | rfl | rfl | rfl | rfl | rfl | rfl | rfl | rfl | rfl | rfl | rfl | rfl | rfl | rfl
        · exact h1_n97 (zk_toI z (by decide))
        · exact h1_n98 (zk_toI z (by decide))
        · exact h1_n99 (zk_toI z (by decide))
        · exact h1_n100 (zk_toI z (by decide))
        · exact h1_n101 (zk_toI z (by decide))
        · exact h1_n102 (zk_toI z (by decide))
        · exact h1_n103 (zk_toI z (by decide))
        · exact h1_n104 (zk_toI z (by decide))
        · exact h1_n105 (zk_toI z (by decide))
        · exact h1_n106 (zk_toI z (by decide))
        · exact h1_n107 (zk_toI z (by decide))
        · exact h1_n108 (zk_toI z (by decide))
        · exact h1_n109 (zk_toI z (by decide))
        · exact h1_n110 (zk_toI z (by decide))
        · exact h1_n111 (zk_toI z (by decide))
        · exact h1_n112 (zk_toI z (by decide))
        · exact h1_n113 (zk_toI z (by decide))
        · exact h1_n114 (zk_toI z (by decide))
        · exact h1_n115 (zk_toI z (by decide))
        · exact h1_n116 (zk_toI z (by decide)))) (by decide) ?_
  refine lv_iconst (v := nI 0) hx hb dX4_readNumber_155 (by decide) ?_
  exact zk_retz T hQ hx hb hr hlocks hS hP hD (Nat.le_of_ble_eq_true rfl) (Nat.le_of_ble_eq_true rfl) dX4_readNumber_156 (rfl) (by rw [tNum_no (by unfold tKind; rw [if_neg h1_n102, if_neg h1_n116, if_neg h1_n110, if_neg h1_n100, if_neg h1_n99, if_neg h1_n97])]; exact ⟨rfl, (tPos_self hI).symm⟩)

abbrev rmX4_numbersOf : Room := { frames := 0, cells := 0, slots := 0, locals := 0 }
set_option maxHeartbeats 4000000 in
set_option maxRecDepth 100000 in
/-- the String of a letter -/
theorem c_X4_numbersOf (l : Launch) (G : zk_G) (k : Int32) : zk_S (S := Nat) l yX4_numbersOf wsX4_numbersOf rmX4_numbersOf G [.int k] ([]) (fun i => i = tStr k) (fun i => G.2.2.2.1 i) (fun _ => []) := by
  refine zk_bodyS (cc := cX4_numbersOf) (maxL := 1) (ret := (some (.object "java/lang/String"))) (by decide) rfl (Nat.le_of_ble_eq_true rfl) ?_
  intro p E0 s m args below meth cd A ls Q hF hQ
  obtain ⟨hx, hb, hml, hr, hts, hown, hlocks, -, hE, hP, hD, hS, hA, hA0, hl⟩ := hF
  have hK := hE.1
  have hl : lv_has ls 1 [(0, .int k)] := hl
  refine lv_iload_n hx hb dX4_numbersOf_0 rfl (lv_at hl 0 rfl) ?_
  rcases Decidable.em (k = nI 99) with h1_99 | h1_n99
  · refine lv_tableIn (tgt := 72) hx hb dX4_numbersOf_1 (by rw [h1_99]; decide) (by rw [h1_99]; decide) (by rw [h1_99]; rfl) (by decide) ?_
    refine va_ldcS hx hb hown (zk_R0 hE.2.2.1) dX4_numbersOf_72 ?_
    exact zk_rets 0 hQ hx hb hr hlocks hS hP hD (Nat.le_of_ble_eq_true rfl) (Nat.le_of_ble_eq_true rfl) dX4_numbersOf_74 (by rw [h1_99]; rfl) (rfl)
  rcases Decidable.em (k = nI 100) with h1_100 | h1_n100
  · refine lv_tableIn (tgt := 90) hx hb dX4_numbersOf_1 (by rw [h1_100]; decide) (by rw [h1_100]; decide) (by rw [h1_100]; rfl) (by decide) ?_
    refine va_ldcS hx hb hown (zk_R6 hE.2.2.1) dX4_numbersOf_90 ?_
    exact zk_rets 6 hQ hx hb hr hlocks hS hP hD (Nat.le_of_ble_eq_true rfl) (Nat.le_of_ble_eq_true rfl) dX4_numbersOf_92 (by rw [h1_100]; rfl) (rfl)
  rcases Decidable.em (k = nI 101) with h1_101 | h1_n101
  · refine lv_tableIn (tgt := 84) hx hb dX4_numbersOf_1 (by rw [h1_101]; decide) (by rw [h1_101]; decide) (by rw [h1_101]; rfl) (by decide) ?_
    refine va_ldcS hx hb hown (zk_R4 hE.2.2.1) dX4_numbersOf_84 ?_
    exact zk_rets 4 hQ hx hb hr hlocks hS hP hD (Nat.le_of_ble_eq_true rfl) (Nat.le_of_ble_eq_true rfl) dX4_numbersOf_86 (by rw [h1_101]; rfl) (rfl)
  rcases Decidable.em (k = nI 102) with h1_102 | h1_n102
  · refine lv_tableIn (tgt := 93) hx hb dX4_numbersOf_1 (by rw [h1_102]; decide) (by rw [h1_102]; decide) (by rw [h1_102]; rfl) (by decide) ?_
    refine va_ldcS hx hb hown (zk_R7 hE.2.2.1) dX4_numbersOf_93 ?_
    exact zk_rets 7 hQ hx hb hr hlocks hS hP hD (Nat.le_of_ble_eq_true rfl) (Nat.le_of_ble_eq_true rfl) dX4_numbersOf_95 (by rw [h1_102]; rfl) (rfl)
  rcases Decidable.em (k = nI 103) with h1_103 | h1_n103
  · refine lv_tableIn (tgt := 93) hx hb dX4_numbersOf_1 (by rw [h1_103]; decide) (by rw [h1_103]; decide) (by rw [h1_103]; rfl) (by decide) ?_
    refine va_ldcS hx hb hown (zk_R7 hE.2.2.1) dX4_numbersOf_93 ?_
    exact zk_rets 7 hQ hx hb hr hlocks hS hP hD (Nat.le_of_ble_eq_true rfl) (Nat.le_of_ble_eq_true rfl) dX4_numbersOf_95 (by rw [h1_103]; rfl) (rfl)
  rcases Decidable.em (k = nI 104) with h1_104 | h1_n104
  · refine lv_tableIn (tgt := 87) hx hb dX4_numbersOf_1 (by rw [h1_104]; decide) (by rw [h1_104]; decide) (by rw [h1_104]; rfl) (by decide) ?_
    refine va_ldcS hx hb hown (zk_R5 hE.2.2.1) dX4_numbersOf_87 ?_
    exact zk_rets 5 hQ hx hb hr hlocks hS hP hD (Nat.le_of_ble_eq_true rfl) (Nat.le_of_ble_eq_true rfl) dX4_numbersOf_89 (by rw [h1_104]; rfl) (rfl)
  rcases Decidable.em (k = nI 105) with h1_105 | h1_n105
  · refine lv_tableIn (tgt := 93) hx hb dX4_numbersOf_1 (by rw [h1_105]; decide) (by rw [h1_105]; decide) (by rw [h1_105]; rfl) (by decide) ?_
    refine va_ldcS hx hb hown (zk_R7 hE.2.2.1) dX4_numbersOf_93 ?_
    exact zk_rets 7 hQ hx hb hr hlocks hS hP hD (Nat.le_of_ble_eq_true rfl) (Nat.le_of_ble_eq_true rfl) dX4_numbersOf_95 (by rw [h1_105]; rfl) (rfl)
  rcases Decidable.em (k = nI 106) with h1_106 | h1_n106
  · refine lv_tableIn (tgt := 93) hx hb dX4_numbersOf_1 (by rw [h1_106]; decide) (by rw [h1_106]; decide) (by rw [h1_106]; rfl) (by decide) ?_
    refine va_ldcS hx hb hown (zk_R7 hE.2.2.1) dX4_numbersOf_93 ?_
    exact zk_rets 7 hQ hx hb hr hlocks hS hP hD (Nat.le_of_ble_eq_true rfl) (Nat.le_of_ble_eq_true rfl) dX4_numbersOf_95 (by rw [h1_106]; rfl) (rfl)
  rcases Decidable.em (k = nI 107) with h1_107 | h1_n107
  · refine lv_tableIn (tgt := 93) hx hb dX4_numbersOf_1 (by rw [h1_107]; decide) (by rw [h1_107]; decide) (by rw [h1_107]; rfl) (by decide) ?_
    refine va_ldcS hx hb hown (zk_R7 hE.2.2.1) dX4_numbersOf_93 ?_
    exact zk_rets 7 hQ hx hb hr hlocks hS hP hD (Nat.le_of_ble_eq_true rfl) (Nat.le_of_ble_eq_true rfl) dX4_numbersOf_95 (by rw [h1_107]; rfl) (rfl)
  rcases Decidable.em (k = nI 108) with h1_108 | h1_n108
  · refine lv_tableIn (tgt := 93) hx hb dX4_numbersOf_1 (by rw [h1_108]; decide) (by rw [h1_108]; decide) (by rw [h1_108]; rfl) (by decide) ?_
    refine va_ldcS hx hb hown (zk_R7 hE.2.2.1) dX4_numbersOf_93 ?_
    exact zk_rets 7 hQ hx hb hr hlocks hS hP hD (Nat.le_of_ble_eq_true rfl) (Nat.le_of_ble_eq_true rfl) dX4_numbersOf_95 (by rw [h1_108]; rfl) (rfl)
  rcases Decidable.em (k = nI 109) with h1_109 | h1_n109
  · refine lv_tableIn (tgt := 75) hx hb dX4_numbersOf_1 (by rw [h1_109]; decide) (by rw [h1_109]; decide) (by rw [h1_109]; rfl) (by decide) ?_
    refine va_ldcS hx hb hown (zk_R1 hE.2.2.1) dX4_numbersOf_75 ?_
    exact zk_rets 1 hQ hx hb hr hlocks hS hP hD (Nat.le_of_ble_eq_true rfl) (Nat.le_of_ble_eq_true rfl) dX4_numbersOf_77 (by rw [h1_109]; rfl) (rfl)
  rcases Decidable.em (k = nI 110) with h1_110 | h1_n110
  · refine lv_tableIn (tgt := 93) hx hb dX4_numbersOf_1 (by rw [h1_110]; decide) (by rw [h1_110]; decide) (by rw [h1_110]; rfl) (by decide) ?_
    refine va_ldcS hx hb hown (zk_R7 hE.2.2.1) dX4_numbersOf_93 ?_
    exact zk_rets 7 hQ hx hb hr hlocks hS hP hD (Nat.le_of_ble_eq_true rfl) (Nat.le_of_ble_eq_true rfl) dX4_numbersOf_95 (by rw [h1_110]; rfl) (rfl)
  rcases Decidable.em (k = nI 111) with h1_111 | h1_n111
  · refine lv_tableIn (tgt := 78) hx hb dX4_numbersOf_1 (by rw [h1_111]; decide) (by rw [h1_111]; decide) (by rw [h1_111]; rfl) (by decide) ?_
    refine va_ldcS hx hb hown (zk_R2 hE.2.2.1) dX4_numbersOf_78 ?_
    exact zk_rets 2 hQ hx hb hr hlocks hS hP hD (Nat.le_of_ble_eq_true rfl) (Nat.le_of_ble_eq_true rfl) dX4_numbersOf_80 (by rw [h1_111]; rfl) (rfl)
  rcases Decidable.em (k = nI 112) with h1_112 | h1_n112
  · refine lv_tableIn (tgt := 81) hx hb dX4_numbersOf_1 (by rw [h1_112]; decide) (by rw [h1_112]; decide) (by rw [h1_112]; rfl) (by decide) ?_
    refine va_ldcS hx hb hown (zk_R3 hE.2.2.1) dX4_numbersOf_81 ?_
    exact zk_rets 3 hQ hx hb hr hlocks hS hP hD (Nat.le_of_ble_eq_true rfl) (Nat.le_of_ble_eq_true rfl) dX4_numbersOf_83 (by rw [h1_112]; rfl) (rfl)
  refine lv_tableOut (tgt := 93) hx hb dX4_numbersOf_1 (zk_out (99) 14 (fun k hk z => by
        rcases (show k = 0 ∨ k = 1 ∨ k = 2 ∨ k = 3 ∨ k = 4 ∨ k = 5 ∨ k = 6 ∨ k = 7 ∨ k = 8 ∨ k = 9 ∨ k = 10 ∨ k = 11 ∨ k = 12 ∨ k = 13 by omega) with rfl | rfl | rfl | rfl | rfl | rfl | rfl | rfl | rfl | rfl | rfl | rfl | rfl | rfl
        · exact h1_n99 (zk_toI z (by decide))
        · exact h1_n100 (zk_toI z (by decide))
        · exact h1_n101 (zk_toI z (by decide))
        · exact h1_n102 (zk_toI z (by decide))
        · exact h1_n103 (zk_toI z (by decide))
        · exact h1_n104 (zk_toI z (by decide))
        · exact h1_n105 (zk_toI z (by decide))
        · exact h1_n106 (zk_toI z (by decide))
        · exact h1_n107 (zk_toI z (by decide))
        · exact h1_n108 (zk_toI z (by decide))
        · exact h1_n109 (zk_toI z (by decide))
        · exact h1_n110 (zk_toI z (by decide))
        · exact h1_n111 (zk_toI z (by decide))
        · exact h1_n112 (zk_toI z (by decide)))) (by decide) ?_
  refine va_ldcS hx hb hown (zk_R7 hE.2.2.1) dX4_numbersOf_93 ?_
  exact zk_rets 7 hQ hx hb hr hlocks hS hP hD (Nat.le_of_ble_eq_true rfl) (Nat.le_of_ble_eq_true rfl) dX4_numbersOf_95 (by unfold tStr; rw [if_neg h1_n99, if_neg h1_n109, if_neg h1_n111, if_neg h1_n112, if_neg h1_n101, if_neg h1_n104, if_neg h1_n100]) (rfl)

abbrev rmJ0_isEmpty_aae02 : Room := { frames := 0, cells := 0, slots := 0, locals := 0 }
set_option maxHeartbeats 4000000 in
set_option maxRecDepth 100000 in
/-- is it empty -/
theorem c_J0_isEmpty_aae02 (l : Launch) (G : zk_G) (i : Nat) (hi : i < 8)  : zk_I (S := Unit) l yJ0_isEmpty_aae02 wsJ0_isEmpty_aae02 rmJ0_isEmpty_aae02 G [.ref (G.2.2.2.1 i)] ([]) (fun r _ => r = if zk_sl.getD i 0 = 0 then nI 1 else nI 0) (fun _ => []) := by
  refine zk_bodyI (cc := cJ0_isEmpty_aae02) (maxL := 1) (ret := (some .boolean)) (by decide) rfl (Nat.le_of_ble_eq_true rfl) ?_
  intro p E0 s m args below meth cd A ls Q hF hQ
  obtain ⟨hx, hb, hml, hr, hts, hown, hlocks, -, hE, hP, hD, hS, hA, hA0, hl⟩ := hF
  have hK := hE.1
  have hl : lv_has ls 1 [(0, .ref (G.2.2.2.1 i))] := hl
  have hl3 := zk_len31 hi
  have w1 := hts _ (List.mem_of_getElem? (l := wsJ0_isEmpty_aae02) (i := 1) (a := Cond.fieldLink RJ0 9 "java/lang/String" "value" "[B") rfl)
  refine lv_aload_n hx hb dJ0_isEmpty_aae02_0 rfl (lv_at hl 0 rfl) ?_
  refine vk_getf hx hb ((hE.2.2.2.1.2.2.1.narrow hA0).1 i hi).2.2.1 hS hown w1 (fun _ h9 => h9) dJ0_isEmpty_aae02_1 ?_
  refine va_tlen hx hb ((hE.2.2.2.1.2.2.1.narrow hA0).1 i hi).2.2.2 hS (v := nI (zk_sl.getD i 0)) rfl dJ0_isEmpty_aae02_4 ?_
  refine lv_if_ne (tgt := 12) hx hb dJ0_isEmpty_aae02_5 (by decide) (fun h5_0 => ?_) (fun h5_0 => ?_)
  · have h5_0 := zk_ne0 (by omega) h5_0
    refine lv_iconst (v := nI 0) hx hb dJ0_isEmpty_aae02_12 (by decide) ?_
    exact zk_retz () hQ hx hb hr hlocks hS hP hD (Nat.le_of_ble_eq_true rfl) (Nat.le_of_ble_eq_true rfl) dJ0_isEmpty_aae02_13 (rfl) ((if_neg h5_0).symm)
  · have h5_0 := zk_eq0 (by omega) h5_0
    refine lv_iconst (v := nI 1) hx hb dJ0_isEmpty_aae02_8 (by decide) ?_
    refine lv_goto (tgt := 13) hx hb dJ0_isEmpty_aae02_9 (by decide) ?_
    exact zk_retz () hQ hx hb hr hlocks hS hP hD (Nat.le_of_ble_eq_true rfl) (Nat.le_of_ble_eq_true rfl) dJ0_isEmpty_aae02_13 (rfl) ((if_pos h5_0).symm)

abbrev rmJ0_coder_7d493 : Room := { frames := 0, cells := 0, slots := 0, locals := 0 }
set_option maxHeartbeats 4000000 in
set_option maxRecDepth 100000 in
/-- its coder -/
theorem c_J0_coder_7d493 (l : Launch) (G : zk_G) (i : Nat) (hi : i < 8)  : zk_I (S := Unit) l yJ0_coder_7d493 wsJ0_coder_7d493 rmJ0_coder_7d493 G [.ref (G.2.2.2.1 i)] ([]) (fun r _ => r = nI 0) (fun _ => []) := by
  refine zk_bodyI (cc := cJ0_coder_7d493) (maxL := 1) (ret := (some .byte)) (by decide) rfl (Nat.le_of_ble_eq_true rfl) ?_
  intro p E0 s m args below meth cd A ls Q hF hQ
  obtain ⟨hx, hb, hml, hr, hts, hown, hlocks, -, hE, hP, hD, hS, hA, hA0, hl⟩ := hF
  have hK := hE.1
  have hl : lv_has ls 1 [(0, .ref (G.2.2.2.1 i))] := hl
  have hl3 := zk_len31 hi
  have w1 := hts _ (List.mem_of_getElem? (l := wsJ0_coder_7d493) (i := 1) (a := Cond.fieldLink RJ0 38 "java/lang/String" "COMPACT_STRINGS" "Z") rfl)
  have w2 := hts _ (List.mem_of_getElem? (l := wsJ0_coder_7d493) (i := 2) (a := Cond.fieldLink RJ0 15 "java/lang/String" "coder" "B") rfl)
  refine va_gets hx hb (hE.2.2.2.1.2.2.2.1.narrow hA0) hS hown w1 (fun _ h9 => h9) dJ0_coder_7d493_0 ?_
  refine lv_if_eq (tgt := 13) hx hb dJ0_coder_7d493_3 (by decide) (fun z => absurd z (by decide)) (fun _ => ?_)
  refine lv_aload_n hx hb dJ0_coder_7d493_6 rfl (lv_at hl 0 rfl) ?_
  refine vk_getf hx hb ((hE.2.2.2.1.2.2.1.narrow hA0).1 i hi).2.1 hS hown w2 (fun _ h9 => h9) dJ0_coder_7d493_7 ?_
  refine lv_goto (tgt := 14) hx hb dJ0_coder_7d493_10 (by decide) ?_
  exact zk_retz () hQ hx hb hr hlocks hS hP hD (Nat.le_of_ble_eq_true rfl) (Nat.le_of_ble_eq_true rfl) dJ0_coder_7d493_14 (rfl) (rfl)

abbrev rmJ0_length_8abf5 : Room := { frames := 1, cells := 0, slots := 0, locals := 20 }
set_option maxHeartbeats 4000000 in
set_option maxRecDepth 100000 in
/-- its length -/
theorem c_J0_length_8abf5 (l : Launch) (G : zk_G) (i : Nat) (hi : i < 8)  : zk_I (S := Unit) l yJ0_length_8abf5 wsJ0_length_8abf5 rmJ0_length_8abf5 G [.ref (G.2.2.2.1 i)] ([]) (fun r _ => r = nI (zk_sl.getD i 0)) (fun _ => []) := by
  refine zk_bodyI (cc := cJ0_length_8abf5) (maxL := 1) (ret := (some .int)) (by decide) rfl (Nat.le_of_ble_eq_true rfl) ?_
  intro p E0 s m args below meth cd A ls Q hF hQ
  obtain ⟨hx, hb, hml, hr, hts, hown, hlocks, -, hE, hP, hD, hS, hA, hA0, hl⟩ := hF
  have hK := hE.1
  have hl : lv_has ls 1 [(0, .ref (G.2.2.2.1 i))] := hl
  have hl3 := zk_len31 hi
  have w1 := hts _ (List.mem_of_getElem? (l := wsJ0_length_8abf5) (i := 1) (a := Cond.fieldLink RJ0 9 "java/lang/String" "value" "[B") rfl)
  refine lv_aload_n hx hb dJ0_length_8abf5_0 rfl (lv_at hl 0 rfl) ?_
  refine vk_getf hx hb ((hE.2.2.2.1.2.2.1.narrow hA0).1 i hi).2.2.1 hS hown w1 (fun _ h9 => h9) dJ0_length_8abf5_1 ?_
  refine va_tlen hx hb ((hE.2.2.2.1.2.2.1.narrow hA0).1 i hi).2.2.2 hS (v := nI (zk_sl.getD i 0)) rfl dJ0_length_8abf5_4 ?_
  refine lv_aload_n hx hb dJ0_length_8abf5_5 rfl (lv_at hl 0 rfl) ?_
  have hP0 : va_P G.1 vwCl (([] : va_W) ++ (([] : va_W))) s.heap := hP
  have hD0 : va_D A (([] : va_W) ++ (([] : va_W))) := hD
  refine zk_callI (wr := ([] : va_W)) (va_runV (As := []) (rest := [.int (nI (zk_sl.getD i 0))]) ⟨hx, hb, hml, hown, hts⟩ (c_J0_coder_7d493 l G i hi _) (cwV 0 hts gJ0_length_8abf5_J0_coder_7d493 rfl rfl rfl (by decide +kernel) ⟨Nat.le_of_ble_eq_true rfl, Nat.le_of_ble_eq_true rfl⟩) (zk_preV hE hA0 hS (zk_Papp hP0).1 (zk_Dapp hD0).1 (vk_recv (hE.2.2.2.1.2.2.1.narrow hA0) hi hS)) rfl rfl hl.1 rfl (lv_room (Nat.le_of_ble_eq_true rfl)) dJ0_length_8abf5_6 ⟨Nat.le_of_ble_eq_true rfl, Nat.le_of_ble_eq_true rfl⟩) hP0 hD0 hS hA (fun r1 u2 H locs q3 hP hD hS => ?_)
  subst q3
  have hP : va_P G.1 vwCl (([] : va_W)) H := hP
  have hD : va_D A (([] : va_W)) := hD
  refine lv_ishr hx hb dJ0_length_8abf5_9 ?_
  refine zk_top (zk_shr0 (nI (zk_sl.getD i 0))) ?_
  exact zk_reti () hQ hx hb hr hlocks hS hP hD (Nat.le_of_ble_eq_true rfl) (Nat.le_of_ble_eq_true rfl) dJ0_length_8abf5_10 (rfl)

abbrev rmJ0_isLatin1_aae02 : Room := { frames := 0, cells := 0, slots := 0, locals := 0 }
set_option maxHeartbeats 4000000 in
set_option maxRecDepth 100000 in
/-- is it of bytes -/
theorem c_J0_isLatin1_aae02 (l : Launch) (G : zk_G) (i : Nat) (hi : i < 8)  : zk_I (S := Unit) l yJ0_isLatin1_aae02 wsJ0_isLatin1_aae02 rmJ0_isLatin1_aae02 G [.ref (G.2.2.2.1 i)] ([]) (fun r _ => r = nI 1) (fun _ => []) := by
  refine zk_bodyI (cc := cJ0_isLatin1_aae02) (maxL := 1) (ret := (some .boolean)) (by decide) rfl (Nat.le_of_ble_eq_true rfl) ?_
  intro p E0 s m args below meth cd A ls Q hF hQ
  obtain ⟨hx, hb, hml, hr, hts, hown, hlocks, -, hE, hP, hD, hS, hA, hA0, hl⟩ := hF
  have hK := hE.1
  have hl : lv_has ls 1 [(0, .ref (G.2.2.2.1 i))] := hl
  have hl3 := zk_len31 hi
  have w1 := hts _ (List.mem_of_getElem? (l := wsJ0_isLatin1_aae02) (i := 1) (a := Cond.fieldLink RJ0 38 "java/lang/String" "COMPACT_STRINGS" "Z") rfl)
  have w2 := hts _ (List.mem_of_getElem? (l := wsJ0_isLatin1_aae02) (i := 2) (a := Cond.fieldLink RJ0 15 "java/lang/String" "coder" "B") rfl)
  refine va_gets hx hb (hE.2.2.2.1.2.2.2.1.narrow hA0) hS hown w1 (fun _ h9 => h9) dJ0_isLatin1_aae02_0 ?_
  refine lv_if_eq (tgt := 17) hx hb dJ0_isLatin1_aae02_3 (by decide) (fun z => absurd z (by decide)) (fun _ => ?_)
  refine lv_aload_n hx hb dJ0_isLatin1_aae02_6 rfl (lv_at hl 0 rfl) ?_
  refine vk_getf hx hb ((hE.2.2.2.1.2.2.1.narrow hA0).1 i hi).2.1 hS hown w2 (fun _ h9 => h9) dJ0_isLatin1_aae02_7 ?_
  refine lv_if_ne (tgt := 17) hx hb dJ0_isLatin1_aae02_10 (by decide) (fun z => absurd (by decide) z) (fun _ => ?_)
  refine lv_iconst (v := nI 1) hx hb dJ0_isLatin1_aae02_13 (by decide) ?_
  refine lv_goto (tgt := 18) hx hb dJ0_isLatin1_aae02_14 (by decide) ?_
  exact zk_retz () hQ hx hb hr hlocks hS hP hD (Nat.le_of_ble_eq_true rfl) (Nat.le_of_ble_eq_true rfl) dJ0_isLatin1_aae02_18 (rfl) (rfl)

abbrev rmJ3_checkIndex_8e157 : Room := { frames := 0, cells := 0, slots := 0, locals := 0 }
set_option maxHeartbeats 4000000 in
set_option maxRecDepth 100000 in
/-- an index that is one -/
theorem c_J3_checkIndex_8e157n (l : Launch) (G : zk_G) (k n : Nat) (hk : k < n) (hn : n < 2 ^ 31) : zk_I (S := Unit) l yJ3_checkIndex_8e157 wsJ3_checkIndex_8e157 rmJ3_checkIndex_8e157 G [.int (nI k), .int (nI n), .null] ([]) (fun r _ => r = nI k) (fun _ => []) := by
  refine zk_bodyI (cc := cJ3_checkIndex_8e157) (maxL := 3) (ret := (some .int)) (by decide) rfl (Nat.le_of_ble_eq_true rfl) ?_
  intro p E0 s m args below meth cd A ls Q hF hQ
  obtain ⟨hx, hb, hml, hr, hts, hown, hlocks, -, hE, hP, hD, hS, hA, hA0, hl⟩ := hF
  have hK := hE.1
  have hl : lv_has ls 3 [(0, .int (nI k)), (1, .int (nI n)), (2, .null)] := hl
  refine lv_iload_n hx hb dJ3_checkIndex_8e157_0 rfl (lv_at hl 0 rfl) ?_
  refine lv_if_lt (tgt := 9) hx hb dJ3_checkIndex_8e157_1 (by decide) (fun h1_0 => ?_) (fun h1_0 => ?_)
  · have h1_0 := zk_lt0 (by omega) h1_0
    exact absurd h1_0 (by first | omega | exact id)
  · have h1_0 := zk_nlt0 (by omega) h1_0
    refine lv_iload_n hx hb dJ3_checkIndex_8e157_4 rfl (lv_at hl 0 rfl) ?_
    refine lv_iload_n hx hb dJ3_checkIndex_8e157_5 rfl (lv_at hl 1 rfl) ?_
    refine lv_icmp_lt (tgt := 16) hx hb dJ3_checkIndex_8e157_6 (by decide) (fun h6_1 => ?_) (fun h6_1 => ?_)
    · have h6_1 := zk_lt (by omega) (by omega) h6_1
      refine lv_iload_n hx hb dJ3_checkIndex_8e157_16 rfl (lv_at hl 0 rfl) ?_
      exact zk_reti () hQ hx hb hr hlocks hS hP hD (Nat.le_of_ble_eq_true rfl) (Nat.le_of_ble_eq_true rfl) dJ3_checkIndex_8e157_17 (rfl)
    · have h6_1 := zk_nlt (by omega) (by omega) h6_1
      exact absurd h6_1 (by first | omega | exact id)

set_option maxHeartbeats 4000000 in
set_option maxRecDepth 100000 in
/-- an index that is one -/
theorem c_J3_checkIndex_8e157r (l : Launch) (G : zk_G) (q k n : Nat) (hk : k < n) (hn : n < 2 ^ 31) : zk_I (S := Unit) l yJ3_checkIndex_8e157 wsJ3_checkIndex_8e157 rmJ3_checkIndex_8e157 G [.int (nI k), .int (nI n), .ref q] ([]) (fun r _ => r = nI k) (fun _ => []) := by
  refine zk_bodyI (cc := cJ3_checkIndex_8e157) (maxL := 3) (ret := (some .int)) (by decide) rfl (Nat.le_of_ble_eq_true rfl) ?_
  intro p E0 s m args below meth cd A ls Q hF hQ
  obtain ⟨hx, hb, hml, hr, hts, hown, hlocks, -, hE, hP, hD, hS, hA, hA0, hl⟩ := hF
  have hK := hE.1
  have hl : lv_has ls 3 [(0, .int (nI k)), (1, .int (nI n)), (2, .ref q)] := hl
  refine lv_iload_n hx hb dJ3_checkIndex_8e157_0 rfl (lv_at hl 0 rfl) ?_
  refine lv_if_lt (tgt := 9) hx hb dJ3_checkIndex_8e157_1 (by decide) (fun h1_0 => ?_) (fun h1_0 => ?_)
  · have h1_0 := zk_lt0 (by omega) h1_0
    exact absurd h1_0 (by first | omega | exact id)
  · have h1_0 := zk_nlt0 (by omega) h1_0
    refine lv_iload_n hx hb dJ3_checkIndex_8e157_4 rfl (lv_at hl 0 rfl) ?_
    refine lv_iload_n hx hb dJ3_checkIndex_8e157_5 rfl (lv_at hl 1 rfl) ?_
    refine lv_icmp_lt (tgt := 16) hx hb dJ3_checkIndex_8e157_6 (by decide) (fun h6_1 => ?_) (fun h6_1 => ?_)
    · have h6_1 := zk_lt (by omega) (by omega) h6_1
      refine lv_iload_n hx hb dJ3_checkIndex_8e157_16 rfl (lv_at hl 0 rfl) ?_
      exact zk_reti () hQ hx hb hr hlocks hS hP hD (Nat.le_of_ble_eq_true rfl) (Nat.le_of_ble_eq_true rfl) dJ3_checkIndex_8e157_17 (rfl)
    · have h6_1 := zk_nlt (by omega) (by omega) h6_1
      exact absurd h6_1 (by first | omega | exact id)

abbrev rmJ0_checkIndex_df160 : Room := { frames := 1, cells := 0, slots := 0, locals := 22 }
set_option maxHeartbeats 4000000 in
set_option maxRecDepth 100000 in
/-- an index that is one -/
theorem c_J0_checkIndex_df160 (l : Launch) (G : zk_G) (k n : Nat) (hk : k < n) (hn : n < 2 ^ 31) : zk_V (S := Unit) l yJ0_checkIndex_df160 wsJ0_checkIndex_df160 rmJ0_checkIndex_df160 G [.int (nI k), .int (nI n)] ([]) (fun _ => True) (fun _ => []) := by
  refine zk_bodyV (cc := cJ0_checkIndex_df160) (maxL := 2) (ret := none) (by decide) rfl (Nat.le_of_ble_eq_true rfl) ?_
  intro p E0 s m args below meth cd A ls Q hF hQ
  obtain ⟨hx, hb, hml, hr, hts, hown, hlocks, -, hE, hP, hD, hS, hA, hA0, hl⟩ := hF
  have hK := hE.1
  have hl : lv_has ls 2 [(0, .int (nI k)), (1, .int (nI n))] := hl
  have w1 := hts _ (List.mem_of_getElem? (l := wsJ0_checkIndex_df160) (i := 1) (a := Cond.fieldLink RJ0 1053 "jdk/internal/util/Preconditions" "SIOOBE_FORMATTER" "Ljava/util/function/BiFunction;") rfl)
  refine lv_iload_n hx hb dJ0_checkIndex_df160_0 rfl (lv_at hl 0 rfl) ?_
  refine lv_iload_n hx hb dJ0_checkIndex_df160_1 rfl (lv_at hl 1 rfl) ?_
  rcases va_Zq.narrow hE.2.2.2.1.2.2.2.2 hA0 with hz | ⟨tz, hz⟩
  · refine va_gets hx hb hz hS hown w1 (fun _ h9 => h9) dJ0_checkIndex_df160_2 ?_
    have hP0 : va_P G.1 vwCl (([] : va_W) ++ (([] : va_W))) s.heap := hP
    have hD0 : va_D A (([] : va_W) ++ (([] : va_W))) := hD
    refine zk_callI (wr := ([] : va_W)) (va_runS (As := [.int (nI k), .int (nI n), .null]) (rest := []) ⟨hx, hb, hml, hown, hts⟩ (c_J3_checkIndex_8e157n l G k n (by omega) (by omega) _) (va_cwS 3 hts gJ0_checkIndex_df160_J3_checkIndex_8e157 rfl rfl rfl (by decide +kernel) ⟨Nat.le_of_ble_eq_true rfl, Nat.le_of_ble_eq_true rfl⟩) (zk_preS hE hA0 hS (zk_Papp hP0).1 (zk_Dapp hD0).1) rfl rfl hl.1 rfl (lv_room (Nat.le_of_ble_eq_true rfl)) dJ0_checkIndex_df160_5 ⟨Nat.le_of_ble_eq_true rfl, Nat.le_of_ble_eq_true rfl⟩) hP0 hD0 hS hA (fun r1 u2 H locs q3 hP hD hS => ?_)
    subst q3
    have hP : va_P G.1 vwCl (([] : va_W)) H := hP
    have hD : va_D A (([] : va_W)) := hD
    refine lv_pop hx hb dJ0_checkIndex_df160_8 rfl ?_
    exact zk_retv () hQ hx hb hr hlocks hS hP hD (Nat.le_of_ble_eq_true rfl) (Nat.le_of_ble_eq_true rfl) dJ0_checkIndex_df160_9 (trivial)
  · refine va_gets hx hb hz hS hown w1 (fun _ h9 => h9) dJ0_checkIndex_df160_2 ?_
    have hP0 : va_P G.1 vwCl (([] : va_W) ++ (([] : va_W))) s.heap := hP
    have hD0 : va_D A (([] : va_W) ++ (([] : va_W))) := hD
    refine zk_callI (wr := ([] : va_W)) (va_runS (As := [.int (nI k), .int (nI n), .ref tz]) (rest := []) ⟨hx, hb, hml, hown, hts⟩ (c_J3_checkIndex_8e157r l G tz k n (by omega) (by omega) _) (va_cwS 3 hts gJ0_checkIndex_df160_J3_checkIndex_8e157 rfl rfl rfl (by decide +kernel) ⟨Nat.le_of_ble_eq_true rfl, Nat.le_of_ble_eq_true rfl⟩) (zk_preS hE hA0 hS (zk_Papp hP0).1 (zk_Dapp hD0).1) rfl rfl hl.1 rfl (lv_room (Nat.le_of_ble_eq_true rfl)) dJ0_checkIndex_df160_5 ⟨Nat.le_of_ble_eq_true rfl, Nat.le_of_ble_eq_true rfl⟩) hP0 hD0 hS hA (fun r4 u5 H locs q6 hP hD hS => ?_)
    subst q6
    have hP : va_P G.1 vwCl (([] : va_W)) H := hP
    have hD : va_D A (([] : va_W)) := hD
    refine lv_pop hx hb dJ0_checkIndex_df160_8 rfl ?_
    exact zk_retv () hQ hx hb hr hlocks hS hP hD (Nat.le_of_ble_eq_true rfl) (Nat.le_of_ble_eq_true rfl) dJ0_checkIndex_df160_9 (trivial)

abbrev rmJ1_charAt_3b067 : Room := { frames := 2, cells := 0, slots := 0, locals := 43 }
set_option maxHeartbeats 4000000 in
set_option maxRecDepth 100000 in
/-- a byte as a character -/
theorem c_J1_charAt_3b067 (l : Launch) (G : zk_G) (i : Nat) (hi : i < 8) (k : Nat) (hk : k < zk_sl.getD i 0) : zk_I (S := Unit) l yJ1_charAt_3b067 wsJ1_charAt_3b067 rmJ1_charAt_3b067 G [.ref (G.2.2.2.2 i), .int (nI k)] ([]) (fun r _ => r = zk_ch i k) (fun _ => []) := by
  refine zk_bodyI (cc := cJ1_charAt_3b067) (maxL := 2) (ret := (some .char)) (by decide) rfl (Nat.le_of_ble_eq_true rfl) ?_
  intro p E0 s m args below meth cd A ls Q hF hQ
  obtain ⟨hx, hb, hml, hr, hts, hown, hlocks, -, hE, hP, hD, hS, hA, hA0, hl⟩ := hF
  have hK := hE.1
  have hl : lv_has ls 2 [(0, .ref (G.2.2.2.2 i)), (1, .int (nI k))] := hl
  have hl3 := zk_len31 hi
  refine lv_iload_n hx hb dJ1_charAt_3b067_0 rfl (lv_at hl 1 rfl) ?_
  refine lv_aload_n hx hb dJ1_charAt_3b067_1 rfl (lv_at hl 0 rfl) ?_
  refine va_tlen hx hb ((hE.2.2.2.1.2.2.1.narrow hA0).1 i hi).2.2.2 hS (v := nI (zk_sl.getD i 0)) rfl dJ1_charAt_3b067_2 ?_
  have hP0 : va_P G.1 vwCl (([] : va_W) ++ (([] : va_W))) s.heap := hP
  have hD0 : va_D A (([] : va_W) ++ (([] : va_W))) := hD
  refine zk_callV (wr := ([] : va_W)) (va_runS (As := [.int (nI k), .int (nI (zk_sl.getD i 0))]) (rest := []) ⟨hx, hb, hml, hown, hts⟩ (c_J0_checkIndex_df160 l G k (zk_sl.getD i 0) (by omega) (by omega) _) (va_cwS 2 hts gJ1_charAt_3b067_J0_checkIndex_df160 rfl rfl rfl (by decide +kernel) ⟨Nat.le_of_ble_eq_true rfl, Nat.le_of_ble_eq_true rfl⟩) (zk_preS hE hA0 hS (zk_Papp hP0).1 (zk_Dapp hD0).1) rfl rfl hl.1 rfl (lv_room (Nat.le_of_ble_eq_true rfl)) dJ1_charAt_3b067_3 ⟨Nat.le_of_ble_eq_true rfl, Nat.le_of_ble_eq_true rfl⟩) hP0 hD0 hS hA (fun u2 H locs q3 hP hD hS => ?_)
  have hP : va_P G.1 vwCl (([] : va_W)) H := hP
  have hD : va_D A (([] : va_W)) := hD
  refine lv_aload_n hx hb dJ1_charAt_3b067_6 rfl (lv_at hl 0 rfl) ?_
  refine lv_iload_n hx hb dJ1_charAt_3b067_7 rfl (lv_at hl 1 rfl) ?_
  refine va_tb hx hb ((hE.2.2.2.1.2.2.1.narrow hA0).1 i hi).2.2.2 hS (vp_in_nI (by omega) (by omega)) (v := .int (zk_ch i k)) (by rw [nI_clamp (by omega)]; rfl) dJ1_charAt_3b067_8 ?_
  refine lv_sipush (v := nI 255) hx hb dJ1_charAt_3b067_9 (by decide) ?_
  refine lv_iand hx hb dJ1_charAt_3b067_12 ?_
  refine lv_i2c (v := zk_ch i k) hx hb dJ1_charAt_3b067_13 (((zk_ch_all i hi).2 k hk).1) ?_
  exact zk_retz () hQ hx hb hr hlocks hS hP hD (Nat.le_of_ble_eq_true rfl) (Nat.le_of_ble_eq_true rfl) dJ1_charAt_3b067_14 (((zk_ch_all i hi).2 k hk).2) (rfl)

abbrev rmJ0_charAt_5068e : Room := { frames := 3, cells := 0, slots := 0, locals := 64 }
set_option maxHeartbeats 4000000 in
set_option maxRecDepth 100000 in
/-- a character -/
theorem c_J0_charAt_5068e (l : Launch) (G : zk_G) (i : Nat) (hi : i < 8) (k : Nat) (hk : k < zk_sl.getD i 0) : zk_I (S := Unit) l yJ0_charAt_5068e wsJ0_charAt_5068e rmJ0_charAt_5068e G [.ref (G.2.2.2.1 i), .int (nI k)] ([]) (fun r _ => r = zk_ch i k) (fun _ => []) := by
  refine zk_bodyI (cc := cJ0_charAt_5068e) (maxL := 2) (ret := (some .char)) (by decide) rfl (Nat.le_of_ble_eq_true rfl) ?_
  intro p E0 s m args below meth cd A ls Q hF hQ
  obtain ⟨hx, hb, hml, hr, hts, hown, hlocks, -, hE, hP, hD, hS, hA, hA0, hl⟩ := hF
  have hK := hE.1
  have hl : lv_has ls 2 [(0, .ref (G.2.2.2.1 i)), (1, .int (nI k))] := hl
  have hl3 := zk_len31 hi
  have w1 := hts _ (List.mem_of_getElem? (l := wsJ0_charAt_5068e) (i := 1) (a := Cond.fieldLink RJ0 9 "java/lang/String" "value" "[B") rfl)
  refine lv_aload_n hx hb dJ0_charAt_5068e_0 rfl (lv_at hl 0 rfl) ?_
  have hP0 : va_P G.1 vwCl (([] : va_W) ++ (([] : va_W))) s.heap := hP
  have hD0 : va_D A (([] : va_W) ++ (([] : va_W))) := hD
  refine zk_callI (wr := ([] : va_W)) (va_runV (As := []) (rest := []) ⟨hx, hb, hml, hown, hts⟩ (c_J0_isLatin1_aae02 l G i hi _) (cwV 0 hts gJ0_charAt_5068e_J0_isLatin1_aae02 rfl rfl rfl (by decide +kernel) ⟨Nat.le_of_ble_eq_true rfl, Nat.le_of_ble_eq_true rfl⟩) (zk_preV hE hA0 hS (zk_Papp hP0).1 (zk_Dapp hD0).1 (vk_recv (hE.2.2.2.1.2.2.1.narrow hA0) hi hS)) rfl rfl hl.1 rfl (lv_room (Nat.le_of_ble_eq_true rfl)) dJ0_charAt_5068e_1 ⟨Nat.le_of_ble_eq_true rfl, Nat.le_of_ble_eq_true rfl⟩) hP0 hD0 hS hA (fun r1 u2 H locs q3 hP hD hS => ?_)
  subst q3
  have hP : va_P G.1 vwCl (([] : va_W)) H := hP
  have hD : va_D A (([] : va_W)) := hD
  refine lv_if_eq (tgt := 16) hx hb dJ0_charAt_5068e_4 (by decide) (fun z => absurd z (by decide)) (fun _ => ?_)
  refine lv_aload_n hx hb dJ0_charAt_5068e_7 rfl (lv_at hl 0 rfl) ?_
  refine vk_getf hx hb ((hE.2.2.2.1.2.2.1.narrow hA0).1 i hi).2.2.1 hS hown w1 (fun _ h9 => h9) dJ0_charAt_5068e_8 ?_
  refine lv_iload_n hx hb dJ0_charAt_5068e_11 rfl (lv_at hl 1 rfl) ?_
  have hP0 : va_P G.1 vwCl (([] : va_W) ++ (([] : va_W))) H := hP
  have hD0 : va_D A (([] : va_W) ++ (([] : va_W))) := hD
  refine zk_callI (wr := ([] : va_W)) (va_runS (As := [.ref (G.2.2.2.2 i), .int (nI k)]) (rest := []) ⟨hx, hb, hml, hown, hts⟩ (c_J1_charAt_3b067 l G i hi k (hk) _) (va_cwS 2 hts gJ0_charAt_5068e_J1_charAt_3b067 rfl rfl rfl (by decide +kernel) ⟨Nat.le_of_ble_eq_true rfl, Nat.le_of_ble_eq_true rfl⟩) (zk_preS hE hA0 hS (zk_Papp hP0).1 (zk_Dapp hD0).1) rfl rfl hl.1 rfl (lv_room (Nat.le_of_ble_eq_true rfl)) dJ0_charAt_5068e_12 ⟨Nat.le_of_ble_eq_true rfl, Nat.le_of_ble_eq_true rfl⟩) hP0 hD0 hS hA (fun r4 u5 H locs q6 hP hD hS => ?_)
  subst q6
  have hP : va_P G.1 vwCl (([] : va_W)) H := hP
  have hD : va_D A (([] : va_W)) := hD
  exact zk_retz () hQ hx hb hr hlocks hS hP hD (Nat.le_of_ble_eq_true rfl) (Nat.le_of_ble_eq_true rfl) dJ0_charAt_5068e_15 (((zk_ch_all i hi).2 k hk).2) (rfl)

abbrev rmX4_readCommand : Room := { frames := 4, cells := 0, slots := 0, locals := 85 }
set_option maxHeartbeats 4000000 in
set_option maxRecDepth 100000 in
/-- a command is read -/
theorem c_X4_readCommand (l : Launch) (G : zk_G) (x : Nat → Nat) (T : zL) (n po : Nat) (hI : tInv T n po)  : zk_I (S := zL) l yX4_readCommand wsX4_readCommand rmX4_readCommand G [.ref (x 1)] (zb_T G x T) (fun r u => r = (if (tRd T n po).1 = true then nI 1 else nI 0) ∧ u = (tRd T n po).2.2) (fun u => zb_T G x u) := by
  refine zk_bodyI (cc := cX4_readCommand) (maxL := 3) (ret := (some .boolean)) (by decide) rfl (Nat.le_of_ble_eq_true rfl) ?_
  intro p E0 s m args below meth cd A ls Q hF hQ
  obtain ⟨hx, hb, hml, hr, hts, hown, hlocks, -, hE, hP, hD, hS, hA, hA0, hl⟩ := hF
  have hK := hE.1
  have hl : lv_has ls 3 [(0, .ref (x 1))] := hl
  obtain ⟨hn, hn120, hp, hp120, hch⟩ := id hI
  have w1 := hts _ (List.mem_of_getElem? (l := wsX4_readCommand) (i := 1) (a := Cond.fieldLink RX4 9 "MealAccounts$Text" "characters" "[C") rfl)
  have w2 := hts _ (List.mem_of_getElem? (l := wsX4_readCommand) (i := 2) (a := Cond.fieldLink RX4 33 "MealAccounts$Text" "position" "I") rfl)
  have w3 := hts _ (List.mem_of_getElem? (l := wsX4_readCommand) (i := 3) (a := Cond.fieldLink RX4 36 "MealAccounts$Text" "letter" "C") rfl)
  refine lv_aload_n hx hb dX4_readCommand_0 rfl (lv_at hl 0 rfl) ?_
  have hP0 : va_P G.1 vwCl ((zb_T G x T) ++ (([] : va_W))) s.heap := hP.sub (ws' := (zb_T G x T) ++ (([] : va_W))) [0, 1, 2] rfl
  have hD0 : va_D A ((zb_T G x T) ++ (([] : va_W))) := hD.sub (ws' := (zb_T G x T) ++ (([] : va_W))) [0, 1, 2] (by decide) rfl
  refine zk_callI (wr := ([] : va_W)) (va_runV (As := []) (rest := []) ⟨hx, hb, hml, hown, hts⟩ (c_X4_isAtEnd l G x T n po hI _) (cwV 0 hts gX4_readCommand_X4_isAtEnd rfl rfl rfl (by decide +kernel) ⟨Nat.le_of_ble_eq_true rfl, Nat.le_of_ble_eq_true rfl⟩) (zk_preV hE hA0 hS (zk_Papp hP0).1 (zk_Dapp hD0).1 (va_recv hK hP (ci := 3) (q0 := 0) rfl rfl)) rfl rfl hl.1 rfl (lv_room (Nat.le_of_ble_eq_true rfl)) dX4_readCommand_1 ⟨Nat.le_of_ble_eq_true rfl, Nat.le_of_ble_eq_true rfl⟩) hP0 hD0 hS hA (fun r1 u2 H locs q3 hP hD hS => ?_)
  subst q3
  have hP : va_P G.1 vwCl (zb_T G x T) H := hP.sub (ws' := zb_T G x T) [0, 1, 2] rfl
  have hD : va_D A (zb_T G x T) := hD.sub (ws' := zb_T G x T) [0, 1, 2] (by decide) rfl
  refine lv_if_eq (tgt := 9) hx hb dX4_readCommand_4 (by decide) (fun h4_3 => ?_) (fun h4_3 => ?_)
  · have h4_3 := zk_b0 h4_3
    refine lv_aload_n hx hb dX4_readCommand_9 rfl (lv_at hl 0 rfl) ?_
    refine lv_aload_n hx hb dX4_readCommand_10 rfl (lv_at hl 0 rfl) ?_
    refine va_get (D := G.1) (ci := 3) (v := .ref (x 2)) (C := RX4) (T := TX4) (N := 5) hx hb hts (fun _ h => List.mem_cons_of_mem _ (List.mem_append_right _ h)) hown hK hP 0 rfl rfl 0 (by decide) w1 (fun _ h9 => h9) rfl dX4_readCommand_11 ?_
    refine lv_aload_n hx hb dX4_readCommand_14 rfl (lv_at hl 0 rfl) ?_
    refine va_get (D := G.1) (ci := 3) (v := .int (T 0 1)) (C := RX4) (T := TX4) (N := 5) hx hb hts (fun _ h => List.mem_cons_of_mem _ (List.mem_append_right _ h)) hown hK hP 0 rfl rfl 2 (by decide) w2 (fun _ h9 => h9) rfl dX4_readCommand_15 ?_
    refine zk_top hI.2.2.1 ?_
    refine zk_caldN hx hb hK hP 1 2 rfl rfl (k := po) (n := 120) (by omega) (by omega) dX4_readCommand_18 ?_
    refine va_put (D := G.1) (ci := 3) (v := .int ((T 1) po)) (ty := .char) (C := RX4) (T := TX4) (N := 5) hx hb hts (fun _ h => List.mem_cons_of_mem _ (List.mem_append_right _ h)) tyX4 tyX4_ok nmX4 hown hK hP hD hS 0 rfl rfl 3 (by decide) w3 (fun _ h9 => h9) rfl (by decide +kernel) (tInv_nar hI (by omega)).1 (tInv_nar hI (by omega)).2 (Nat.le_of_ble_eq_true rfl) dX4_readCommand_19 (fun H locs hP hD hS => ?_)
    obtain ⟨L5, eL5⟩ : ∃ z : zL, z = up2 T 0 2 ((T 1) po) := ⟨_, rfl⟩
    have hP : va_P G.1 vwCl (zb_T G x L5) H := by rw [eL5]; exact hP
    have hD : va_D A (zb_T G x L5) := by rw [eL5]; exact hD
    have hI6 : tInv L5 n po := by rw [eL5]; exact tInv_let hI
    refine lv_aload_n hx hb dX4_readCommand_22 rfl (lv_at hl 0 rfl) ?_
    refine va_get (D := G.1) (ci := 3) (v := .int (L5 0 2)) (C := RX4) (T := TX4) (N := 5) hx hb hts (fun _ h => List.mem_cons_of_mem _ (List.mem_append_right _ h)) hown hK hP 0 rfl rfl 3 (by decide) w3 (fun _ h9 => h9) rfl dX4_readCommand_23 ?_
    refine zk_top (show _ = T 1 po by rw [eL5]; rfl) ?_
    have hP0 : va_P G.1 vwCl (([] : va_W) ++ (zb_T G x L5)) H := hP
    have hD0 : va_D A (([] : va_W) ++ (zb_T G x L5)) := hD
    refine zk_callS (wr := zb_T G x L5) (va_runS (As := [.int (T 1 po)]) (rest := []) ⟨hx, hb, hml, hown, hts⟩ (c_X4_numbersOf l G (T 1 po) _) (cwS 1 hts gX4_readCommand_X4_numbersOf rfl rfl rfl (by decide +kernel) ⟨Nat.le_of_ble_eq_true rfl, Nat.le_of_ble_eq_true rfl⟩) (zk_preS hE hA0 hS (zk_Papp hP0).1 (zk_Dapp hD0).1) rfl rfl hl.1 rfl (lv_room (Nat.le_of_ble_eq_true rfl)) dX4_readCommand_26 ⟨Nat.le_of_ble_eq_true rfl, Nat.le_of_ble_eq_true rfl⟩) hP0 hD0 hS hA (fun u8 H locs q9 hP hD hS => ?_)
    subst q9
    have hP : va_P G.1 vwCl (zb_T G x L5) H := hP
    have hD : va_D A (zb_T G x L5) := hD
    refine lv_astore_n (lv' := [(1, .ref (G.2.2.2.1 (tStr (T 1 po)))), (0, .ref (x 1))]) hx hb dX4_readCommand_29 rfl hl (by decide) rfl (fun ls hl => ?_)
    refine lv_aload_n hx hb dX4_readCommand_30 rfl (lv_at hl 0 rfl) ?_
    have hP0 : va_P G.1 vwCl (([] : va_W) ++ (zb_T G x L5)) H := hP
    have hD0 : va_D A (([] : va_W) ++ (zb_T G x L5)) := hD
    refine zk_callI (wr := zb_T G x L5) (va_runV (As := []) (rest := []) ⟨hx, hb, hml, hown, hts⟩ (c_J0_isEmpty_aae02 l G (tStr (T 1 po)) (tStr_lt _) _) (cwV 0 hts gX4_readCommand_J0_isEmpty_aae02 rfl rfl rfl (by decide +kernel) ⟨Nat.le_of_ble_eq_true rfl, Nat.le_of_ble_eq_true rfl⟩) (zk_preV hE hA0 hS (zk_Papp hP0).1 (zk_Dapp hD0).1 (vk_recv (hE.2.2.2.1.2.2.1.narrow hA0) (tStr_lt _) hS)) rfl rfl hl.1 rfl (lv_room (Nat.le_of_ble_eq_true rfl)) dX4_readCommand_31 ⟨Nat.le_of_ble_eq_true rfl, Nat.le_of_ble_eq_true rfl⟩) hP0 hD0 hS hA (fun r10 u11 H locs q12 hP hD hS => ?_)
    subst q12
    have hP : va_P G.1 vwCl (zb_T G x L5) H := hP
    have hD : va_D A (zb_T G x L5) := hD
    refine lv_if_eq (tgt := 39) hx hb dX4_readCommand_34 (by decide) (fun h34_12 => ?_) (fun h34_12 => ?_)
    · have h34_12 := zk_b0 h34_12
      have hR : tRd T n po = tGo (T 1) n (zk_ch (tStr (T 1 po))) (po + 1) (tPos (up2 T 0 2 (T 1 po)) (po + 1)) (zk_sl.getD (tStr (T 1 po)) 0) := by rw [tRd, if_neg h4_3, if_neg h34_12]
      have hs3 := zk_len31 (tStr_lt (T 1 po))
      refine lv_aload_n hx hb dX4_readCommand_39 rfl (lv_at hl 1 rfl) ?_
      refine lv_dup hx hb dX4_readCommand_40 rfl ?_
      refine va_get (D := G.1) (ci := 3) (v := .int (L5 0 1)) (C := RX4) (T := TX4) (N := 5) hx hb hts (fun _ h => List.mem_cons_of_mem _ (List.mem_append_right _ h)) hown hK hP 0 rfl rfl 2 (by decide) w2 (fun _ h9 => h9) rfl dX4_readCommand_41 ?_
      refine zk_top hI6.2.2.1 ?_
      refine lv_iconst (v := nI 1) hx hb dX4_readCommand_44 (by decide) ?_
      refine zk_iaddN hx hb dX4_readCommand_45 ?_
      refine va_put (D := G.1) (ci := 3) (v := .int (nI (po + 1))) (ty := .int) (C := RX4) (T := TX4) (N := 5) hx hb hts (fun _ h => List.mem_cons_of_mem _ (List.mem_append_right _ h)) tyX4 tyX4_ok nmX4 hown hK hP hD hS 0 rfl rfl 2 (by decide) w2 (fun _ h9 => h9) rfl (by decide +kernel) rfl rfl (Nat.le_of_ble_eq_true rfl) dX4_readCommand_46 (fun H locs hP hD hS => ?_)
      obtain ⟨L14, eL14⟩ : ∃ z : zL, z = up2 L5 0 1 (nI (po + 1)) := ⟨_, rfl⟩
      have hP : va_P G.1 vwCl (zb_T G x L14) H := by rw [eL14]; exact hP
      have hD : va_D A (zb_T G x L14) := by rw [eL14]; exact hD
      have hI15 : tInv L14 n (po + 1) := by rw [eL14]; exact tInv_pos hI6 (by omega)
      refine lv_iconst (v := nI 0) hx hb dX4_readCommand_49 (by decide) ?_
      refine lv_istore_n (lv' := [(2, .int (nI 0)), (1, .ref (G.2.2.2.1 (tStr (T 1 po)))), (0, .ref (x 1))]) hx hb dX4_readCommand_50 rfl hl (by decide) rfl (fun ls hl => ?_)
      have lp16 : ∀ (n18 : Nat) (i : Nat) (q : Nat) (X : zL), zk_sl.getD (tStr (T 1 po)) 0 - i < n18 → (i ≤ zk_sl.getD (tStr (T 1 po)) 0) → ((true, q, X) = tGo (T 1) n (zk_ch (tStr (T 1 po))) (po + 1) (tPos (up2 T 0 2 (T 1 po)) (po + 1)) i) → (X 1 = T 1) → (tInv X n q) → ∀ (H : Heap) (locs : List Loc) (hP : va_P G.1 vwCl (zb_T G x X) H) (hD : va_D A (zb_T G x X)) (hS : va_S A s.heap H locs) (ls : Array Slot), lv_has ls 3 [(2, .int (nI i)), (1, .ref (G.2.2.2.1 (tStr (T 1 po)))), (0, .ref (x 1))] → W p l E0 rmX4_readCommand s m args below meth cd H locs 0 0 Q (F0 m 51 ls []) := by
        intro n18
        induction n18 with
        | zero => intro i q X hz; exact absurd hz (Nat.not_lt_zero _)
        | succ n18 ih17 =>
          intro i q X hm hi hX hXc hX2 H locs hP hD hS ls hl
          refine lv_iload_n hx hb dX4_readCommand_51 rfl (lv_at hl 0 rfl) ?_
          refine lv_aload_n hx hb dX4_readCommand_52 rfl (lv_at hl 1 rfl) ?_
          have hP0 : va_P G.1 vwCl (([] : va_W) ++ (zb_T G x X)) H := hP
          have hD0 : va_D A (([] : va_W) ++ (zb_T G x X)) := hD
          refine zk_callI (wr := zb_T G x X) (va_runV (As := []) (rest := [.int (nI i)]) ⟨hx, hb, hml, hown, hts⟩ (c_J0_length_8abf5 l G (tStr (T 1 po)) (tStr_lt _) _) (cwV 0 hts gX4_readCommand_J0_length_8abf5 rfl rfl rfl (by decide +kernel) ⟨Nat.le_of_ble_eq_true rfl, Nat.le_of_ble_eq_true rfl⟩) (zk_preV hE hA0 hS (zk_Papp hP0).1 (zk_Dapp hD0).1 (vk_recv (hE.2.2.2.1.2.2.1.narrow hA0) (tStr_lt _) hS)) rfl rfl hl.1 rfl (lv_room (Nat.le_of_ble_eq_true rfl)) dX4_readCommand_53 ⟨Nat.le_of_ble_eq_true rfl, Nat.le_of_ble_eq_true rfl⟩) hP0 hD0 hS hA (fun r19 u20 H locs q21 hP hD hS => ?_)
          subst q21
          have hP : va_P G.1 vwCl (zb_T G x X) H := hP
          have hD : va_D A (zb_T G x X) := hD
          refine lv_icmp_ge (tgt := 85) hx hb dX4_readCommand_56 (by decide) (fun h56_21 => ?_) (fun h56_21 => ?_)
          · have h56_21 := zk_le (by omega) (by omega) h56_21
            refine lv_iconst (v := nI 1) hx hb dX4_readCommand_85 (by decide) ?_
            exact zk_retz X hQ hx hb hr hlocks hS hP hD (Nat.le_of_ble_eq_true rfl) (Nat.le_of_ble_eq_true rfl) dX4_readCommand_86 (rfl) (by rw [hR, ← show i = zk_sl.getD (tStr (T 1 po)) 0 by omega, ← hX]; exact ⟨rfl, rfl⟩)
          · have h56_21 := zk_nle (by omega) (by omega) h56_21
            refine lv_iload_n hx hb dX4_readCommand_59 rfl (lv_at hl 0 rfl) ?_
            refine lv_iconst (v := nI 3) hx hb dX4_readCommand_60 (by decide) ?_
            refine lv_icmp_ge (tgt := 85) hx hb dX4_readCommand_61 (by decide) (fun h61_22 => ?_) (fun h61_22 => ?_)
            · have h61_22 := zk_le (by omega) (by omega) h61_22
              refine lv_iconst (v := nI 1) hx hb dX4_readCommand_85 (by decide) ?_
              exact zk_retz X hQ hx hb hr hlocks hS hP hD (Nat.le_of_ble_eq_true rfl) (Nat.le_of_ble_eq_true rfl) dX4_readCommand_86 (rfl) (by rw [hR, ← show i = zk_sl.getD (tStr (T 1 po)) 0 by omega, ← hX]; exact ⟨rfl, rfl⟩)
            · have h61_22 := zk_nle (by omega) (by omega) h61_22
              refine lv_aload_n hx hb dX4_readCommand_64 rfl (lv_at hl 2 rfl) ?_
              refine lv_iload_n hx hb dX4_readCommand_65 rfl (lv_at hl 0 rfl) ?_
              refine lv_aload_n hx hb dX4_readCommand_66 rfl (lv_at hl 1 rfl) ?_
              refine lv_iload_n hx hb dX4_readCommand_67 rfl (lv_at hl 0 rfl) ?_
              have hP0 : va_P G.1 vwCl (([] : va_W) ++ (zb_T G x X)) H := hP
              have hD0 : va_D A (([] : va_W) ++ (zb_T G x X)) := hD
              refine zk_callI (wr := zb_T G x X) (va_runV (As := [.int (nI i)]) (rest := [.int (nI i), .ref (x 1)]) ⟨hx, hb, hml, hown, hts⟩ (c_J0_charAt_5068e l G (tStr (T 1 po)) (tStr_lt _) i (by omega) _) (cwV 1 hts gX4_readCommand_J0_charAt_5068e rfl rfl rfl (by decide +kernel) ⟨Nat.le_of_ble_eq_true rfl, Nat.le_of_ble_eq_true rfl⟩) (zk_preV hE hA0 hS (zk_Papp hP0).1 (zk_Dapp hD0).1 (vk_recv (hE.2.2.2.1.2.2.1.narrow hA0) (tStr_lt _) hS)) rfl rfl hl.1 rfl (lv_room (Nat.le_of_ble_eq_true rfl)) dX4_readCommand_68 ⟨Nat.le_of_ble_eq_true rfl, Nat.le_of_ble_eq_true rfl⟩) hP0 hD0 hS hA (fun r24 u25 H locs q26 hP hD hS => ?_)
              subst q26
              have hP : va_P G.1 vwCl (zb_T G x X) H := hP
              have hD : va_D A (zb_T G x X) := hD
              have hP0 : va_P G.1 vwCl ((zb_T G x X) ++ (([] : va_W))) H := hP.sub (ws' := (zb_T G x X) ++ (([] : va_W))) [0, 1, 2] rfl
              have hD0 : va_D A ((zb_T G x X) ++ (([] : va_W))) := hD.sub (ws' := (zb_T G x X) ++ (([] : va_W))) [0, 1, 2] (by decide) rfl
              refine zk_callI (wr := ([] : va_W)) (va_runV (As := [.int (nI i), .int (zk_ch (tStr (T 1 po)) i)]) (rest := []) ⟨hx, hb, hml, hown, hts⟩ (c_X4_readNumber l G x X n q hX2 i (zk_ch (tStr (T 1 po)) i) (by omega) _) (cwV 2 hts gX4_readCommand_X4_readNumber rfl rfl rfl (by decide +kernel) ⟨Nat.le_of_ble_eq_true rfl, Nat.le_of_ble_eq_true rfl⟩) (zk_preV hE hA0 hS (zk_Papp hP0).1 (zk_Dapp hD0).1 (va_recv hK hP (ci := 3) (q0 := 0) rfl rfl)) rfl rfl hl.1 rfl (lv_room (Nat.le_of_ble_eq_true rfl)) dX4_readCommand_71 ⟨Nat.le_of_ble_eq_true rfl, Nat.le_of_ble_eq_true rfl⟩) hP0 hD0 hS hA (fun r27 u28 H locs q29 hP hD hS => ?_)
              obtain ⟨er27, eL30⟩ := q29
              subst er27
              have hI31 : tInv u28 n ((tNum (X 1) n (zk_ch (tStr (T 1 po)) i) q).2) := by rw [eL30]; exact tInv_set hX2 (tNum_le hn120 (hX2).2.2.2.1)
              have hP : va_P G.1 vwCl (zb_T G x u28) H := hP.sub (ws' := zb_T G x u28) [0, 1, 2] rfl
              have hD : va_D A (zb_T G x u28) := hD.sub (ws' := zb_T G x u28) [0, 1, 2] (by decide) rfl
              refine lv_if_ne (tgt := 79) hx hb dX4_readCommand_74 (by decide) (fun h74_31 => ?_) (fun h74_31 => ?_)
              · have h74_31 := zk_b1 h74_31
                refine lv_iinc (v := nI (i + 1)) (lv' := [(2, .int (nI (i + 1))), (1, .ref (G.2.2.2.1 (tStr (T 1 po)))), (0, .ref (x 1))]) hx hb dX4_readCommand_79 hl (k := 0) rfl (zk_inc i 1) (by decide) rfl (fun ls hl => ?_)
                refine lv_goto (tgt := 51) hx hb dX4_readCommand_82 (by decide) ?_
                exact ih17 (i + 1) ((tNum (X 1) n (zk_ch (tStr (T 1 po)) i) q).2) u28 (by omega) (by omega) (by rw [tGo_s hX, zk_some (by rw [hXc] at h74_31; exact h74_31), eL30, hXc]) (by rw [eL30, tSet_1]; exact hXc) (hI31) _ _ hP hD hS ls (lv_sub hl [0, 1, 2] rfl)
              · have h74_31 := zk_b0 h74_31
                refine lv_iconst (v := nI 0) hx hb dX4_readCommand_77 (by decide) ?_
                exact zk_retz u28 hQ hx hb hr hlocks hS hP hD (Nat.le_of_ble_eq_true rfl) (Nat.le_of_ble_eq_true rfl) dX4_readCommand_78 (rfl) (by rw [hR, tGo_end (m := zk_sl.getD (tStr (T 1 po)) 0) (by omega) (tGo_s hX) (by rw [hXc] at h74_31; exact zk_none h74_31)]; exact ⟨rfl, by rw [eL30, hXc]⟩)
      exact lp16 _ 0 (po + 1) L14 (Nat.lt_succ_self _) (by omega) (by subst_vars; rfl) (by subst_vars; rfl) (hI15) _ _ hP hD hS ls (lv_sub hl [0, 1, 2] rfl)
    · have h34_12 := zk_b1 h34_12
      refine lv_iconst (v := nI 0) hx hb dX4_readCommand_37 (by decide) ?_
      exact zk_retz L5 hQ hx hb hr hlocks hS hP hD (Nat.le_of_ble_eq_true rfl) (Nat.le_of_ble_eq_true rfl) dX4_readCommand_38 (rfl) (by rw [tRd, if_neg h4_3, if_pos h34_12]; exact ⟨rfl, eL5⟩)
  · have h4_3 := zk_b1 h4_3
    refine lv_iconst (v := nI 0) hx hb dX4_readCommand_7 (by decide) ?_
    exact zk_retz T hQ hx hb hr hlocks hS hP hD (Nat.le_of_ble_eq_true rfl) (Nat.le_of_ble_eq_true rfl) dX4_readCommand_8 (rfl) (by rw [tRd, if_pos h4_3]; exact ⟨rfl, rfl⟩)

abbrev rmX4_firstError : Room := { frames := 5, cells := 0, slots := 0, locals := 107 }
set_option maxHeartbeats 4000000 in
set_option maxRecDepth 100000 in
/-- where the text is wrong -/
theorem c_X4_firstError (l : Launch) (G : zk_G) (x : Nat → Nat) (T : zL) (n po : Nat) (hI : tInv T n po)  : zk_I (S := zL) l yX4_firstError wsX4_firstError rmX4_firstError G [.ref (x 1)] (zb_T G x T) (fun r u => r = (if (tEr T n).1 = true then -1 else nI (tEr T n).2.1) ∧ u = (tEr T n).2.2) (fun u => zb_T G x u) := by
  refine zk_bodyI (cc := cX4_firstError) (maxL := 3) (ret := (some .int)) (by decide) rfl (Nat.le_of_ble_eq_true rfl) ?_
  intro p E0 s m args below meth cd A ls Q hF hQ
  obtain ⟨hx, hb, hml, hr, hts, hown, hlocks, -, hE, hP, hD, hS, hA, hA0, hl⟩ := hF
  have hK := hE.1
  have hl : lv_has ls 3 [(0, .ref (x 1))] := hl
  obtain ⟨hn, hn120, hp, hp120, hch⟩ := id hI
  have w1 := hts _ (List.mem_of_getElem? (l := wsX4_firstError) (i := 1) (a := Cond.fieldLink RX4 33 "MealAccounts$Text" "position" "I") rfl)
  refine lv_aload_n hx hb dX4_firstError_0 rfl (lv_at hl 0 rfl) ?_
  have hP0 : va_P G.1 vwCl ((zb_T G x T) ++ (([] : va_W))) s.heap := hP.sub (ws' := (zb_T G x T) ++ (([] : va_W))) [0, 1, 2] rfl
  have hD0 : va_D A ((zb_T G x T) ++ (([] : va_W))) := hD.sub (ws' := (zb_T G x T) ++ (([] : va_W))) [0, 1, 2] (by decide) rfl
  refine zk_callI (wr := ([] : va_W)) (va_runV (As := []) (rest := []) ⟨hx, hb, hml, hown, hts⟩ (c_X4_readStart l G x T n po hI _) (cwV 0 hts gX4_firstError_X4_readStart rfl rfl rfl (by decide +kernel) ⟨Nat.le_of_ble_eq_true rfl, Nat.le_of_ble_eq_true rfl⟩) (zk_preV hE hA0 hS (zk_Papp hP0).1 (zk_Dapp hD0).1 (va_recv hK hP (ci := 3) (q0 := 0) rfl rfl)) rfl rfl hl.1 rfl (lv_room (Nat.le_of_ble_eq_true rfl)) dX4_firstError_1 ⟨Nat.le_of_ble_eq_true rfl, Nat.le_of_ble_eq_true rfl⟩) hP0 hD0 hS hA (fun r1 u2 H locs q3 hP hD hS => ?_)
  obtain ⟨er1, eL4⟩ := q3
  subst er1
  have hI5 : tInv u2 n ((tSt T n).2.1) := by rw [eL4]; exact tSt_inv hI
  have hP : va_P G.1 vwCl (zb_T G x u2) H := hP.sub (ws' := zb_T G x u2) [0, 1, 2] rfl
  have hD : va_D A (zb_T G x u2) := hD.sub (ws' := zb_T G x u2) [0, 1, 2] (by decide) rfl
  refine lv_istore_n (lv' := [(1, .int ((if (tSt T n).1 = true then nI 1 else nI 0))), (0, .ref (x 1))]) hx hb dX4_firstError_4 rfl hl (by decide) rfl (fun ls hl => ?_)
  refine lv_iconst (v := nI 0) hx hb dX4_firstError_5 (by decide) ?_
  refine lv_istore_n (lv' := [(2, .int (nI 0)), (1, .int ((if (tSt T n).1 = true then nI 1 else nI 0))), (0, .ref (x 1))]) hx hb dX4_firstError_6 rfl hl (by decide) rfl (fun ls hl => ?_)
  have lp6 : ∀ (n8 : Nat) (i : Nat) (ok : Bool) (q : Nat) (X : zL), 120 - i < n8 → (i ≤ 120) → ((ok, q, X) = zfold (fun _ x => tStep n x) i (tSt T n)) → (tInv X n q) → ∀ (H : Heap) (locs : List Loc) (hP : va_P G.1 vwCl (zb_T G x X) H) (hD : va_D A (zb_T G x X)) (hS : va_S A s.heap H locs) (ls : Array Slot), lv_has ls 3 [(2, .int (nI i)), (1, .int ((if ok = true then nI 1 else nI 0))), (0, .ref (x 1))] → W p l E0 rmX4_firstError s m args below meth cd H locs 0 0 Q (F0 m 7 ls []) := by
    intro n8
    induction n8 with
    | zero => intro i ok q X hz; exact absurd hz (Nat.not_lt_zero _)
    | succ n8 ih7 =>
      intro i ok q X hm hi hX hX2 H locs hP hD hS ls hl
      refine lv_iload_n hx hb dX4_firstError_7 rfl (lv_at hl 0 rfl) ?_
      refine lv_bipush (v := nI 120) hx hb dX4_firstError_8 (by decide) ?_
      refine lv_icmp_ge (tgt := 35) hx hb dX4_firstError_10 (by decide) (fun h10_8 => ?_) (fun h10_8 => ?_)
      · have h10_8 := zk_le (by omega) (by omega) h10_8
        have hZ : tEr T n = (ok, q, X) := by rw [tEr, ← show i = 120 by omega]; exact hX.symm
        refine lv_iload_n hx hb dX4_firstError_35 rfl (lv_at hl 1 rfl) ?_
        refine lv_if_eq (tgt := 43) hx hb dX4_firstError_36 (by decide) (fun h36_9 => ?_) (fun h36_9 => ?_)
        · have h36_9 := zk_b0 h36_9
          refine lv_aload_n hx hb dX4_firstError_43 rfl (lv_at hl 2 rfl) ?_
          refine va_get (D := G.1) (ci := 3) (v := .int (X 0 1)) (C := RX4) (T := TX4) (N := 5) hx hb hts (fun _ h => List.mem_cons_of_mem _ (List.mem_append_right _ h)) hown hK hP 0 rfl rfl 2 (by decide) w1 (fun _ h9 => h9) rfl dX4_firstError_44 ?_
          refine zk_top hX2.2.2.1 ?_
          exact zk_reti X hQ hx hb hr hlocks hS hP hD (Nat.le_of_ble_eq_true rfl) (Nat.le_of_ble_eq_true rfl) dX4_firstError_47 (by rw [hZ, if_neg h36_9]; exact ⟨rfl, rfl⟩)
        · have h36_9 := zk_b1 h36_9
          refine lv_iconst (v := -1) hx hb dX4_firstError_39 (by decide) ?_
          refine lv_goto (tgt := 47) hx hb dX4_firstError_40 (by decide) ?_
          exact zk_reti X hQ hx hb hr hlocks hS hP hD (Nat.le_of_ble_eq_true rfl) (Nat.le_of_ble_eq_true rfl) dX4_firstError_47 (by rw [hZ, if_pos h36_9]; exact ⟨rfl, rfl⟩)
      · have h10_8 := zk_nle (by omega) (by omega) h10_8
        refine lv_iload_n hx hb dX4_firstError_13 rfl (lv_at hl 1 rfl) ?_
        refine lv_if_eq (tgt := 35) hx hb dX4_firstError_14 (by decide) (fun h14_10 => ?_) (fun h14_10 => ?_)
        · have h14_10 := zk_b0 h14_10
          have hZ : tEr T n = (ok, q, X) := tEr_stay hX (fun z => h14_10 z.1) (by omega)
          refine lv_iload_n hx hb dX4_firstError_35 rfl (lv_at hl 1 rfl) ?_
          refine lv_if_eq (tgt := 43) hx hb dX4_firstError_36 (by decide) (fun h36_11 => ?_) (fun h36_11 => ?_)
          · have h36_11 := zk_b0 h36_11
            refine lv_aload_n hx hb dX4_firstError_43 rfl (lv_at hl 2 rfl) ?_
            refine va_get (D := G.1) (ci := 3) (v := .int (X 0 1)) (C := RX4) (T := TX4) (N := 5) hx hb hts (fun _ h => List.mem_cons_of_mem _ (List.mem_append_right _ h)) hown hK hP 0 rfl rfl 2 (by decide) w1 (fun _ h9 => h9) rfl dX4_firstError_44 ?_
            refine zk_top hX2.2.2.1 ?_
            exact zk_reti X hQ hx hb hr hlocks hS hP hD (Nat.le_of_ble_eq_true rfl) (Nat.le_of_ble_eq_true rfl) dX4_firstError_47 (by rw [hZ, if_neg h36_11]; exact ⟨rfl, rfl⟩)
          · have h36_11 := zk_b1 h36_11
            refine lv_iconst (v := -1) hx hb dX4_firstError_39 (by decide) ?_
            refine lv_goto (tgt := 47) hx hb dX4_firstError_40 (by decide) ?_
            exact zk_reti X hQ hx hb hr hlocks hS hP hD (Nat.le_of_ble_eq_true rfl) (Nat.le_of_ble_eq_true rfl) dX4_firstError_47 (by rw [hZ, if_pos h36_11]; exact ⟨rfl, rfl⟩)
        · have h14_10 := zk_b1 h14_10
          refine lv_aload_n hx hb dX4_firstError_17 rfl (lv_at hl 2 rfl) ?_
          have hP0 : va_P G.1 vwCl ((zb_T G x X) ++ (([] : va_W))) H := hP.sub (ws' := (zb_T G x X) ++ (([] : va_W))) [0, 1, 2] rfl
          have hD0 : va_D A ((zb_T G x X) ++ (([] : va_W))) := hD.sub (ws' := (zb_T G x X) ++ (([] : va_W))) [0, 1, 2] (by decide) rfl
          refine zk_callI (wr := ([] : va_W)) (va_runV (As := []) (rest := []) ⟨hx, hb, hml, hown, hts⟩ (c_X4_isAtEnd l G x X n q hX2 _) (cwV 0 hts gX4_firstError_X4_isAtEnd rfl rfl rfl (by decide +kernel) ⟨Nat.le_of_ble_eq_true rfl, Nat.le_of_ble_eq_true rfl⟩) (zk_preV hE hA0 hS (zk_Papp hP0).1 (zk_Dapp hD0).1 (va_recv hK hP (ci := 3) (q0 := 0) rfl rfl)) rfl rfl hl.1 rfl (lv_room (Nat.le_of_ble_eq_true rfl)) dX4_firstError_18 ⟨Nat.le_of_ble_eq_true rfl, Nat.le_of_ble_eq_true rfl⟩) hP0 hD0 hS hA (fun r13 u14 H locs q15 hP hD hS => ?_)
          subst q15
          have hP : va_P G.1 vwCl (zb_T G x X) H := hP.sub (ws' := zb_T G x X) [0, 1, 2] rfl
          have hD : va_D A (zb_T G x X) := hD.sub (ws' := zb_T G x X) [0, 1, 2] (by decide) rfl
          refine lv_if_ne (tgt := 35) hx hb dX4_firstError_21 (by decide) (fun h21_15 => ?_) (fun h21_15 => ?_)
          · have h21_15 := zk_b1 h21_15
            have hZ : tEr T n = (ok, q, X) := tEr_stay hX (fun z => h21_15 z.2) (by omega)
            refine lv_iload_n hx hb dX4_firstError_35 rfl (lv_at hl 1 rfl) ?_
            refine lv_if_eq (tgt := 43) hx hb dX4_firstError_36 (by decide) (fun h36_16 => ?_) (fun h36_16 => ?_)
            · have h36_16 := zk_b0 h36_16
              refine lv_aload_n hx hb dX4_firstError_43 rfl (lv_at hl 2 rfl) ?_
              refine va_get (D := G.1) (ci := 3) (v := .int (X 0 1)) (C := RX4) (T := TX4) (N := 5) hx hb hts (fun _ h => List.mem_cons_of_mem _ (List.mem_append_right _ h)) hown hK hP 0 rfl rfl 2 (by decide) w1 (fun _ h9 => h9) rfl dX4_firstError_44 ?_
              refine zk_top hX2.2.2.1 ?_
              exact zk_reti X hQ hx hb hr hlocks hS hP hD (Nat.le_of_ble_eq_true rfl) (Nat.le_of_ble_eq_true rfl) dX4_firstError_47 (by rw [hZ, if_neg h36_16]; exact ⟨rfl, rfl⟩)
            · have h36_16 := zk_b1 h36_16
              refine lv_iconst (v := -1) hx hb dX4_firstError_39 (by decide) ?_
              refine lv_goto (tgt := 47) hx hb dX4_firstError_40 (by decide) ?_
              exact zk_reti X hQ hx hb hr hlocks hS hP hD (Nat.le_of_ble_eq_true rfl) (Nat.le_of_ble_eq_true rfl) dX4_firstError_47 (by rw [hZ, if_pos h36_16]; exact ⟨rfl, rfl⟩)
          · have h21_15 := zk_b0 h21_15
            refine lv_aload_n hx hb dX4_firstError_24 rfl (lv_at hl 2 rfl) ?_
            have hP0 : va_P G.1 vwCl ((zb_T G x X) ++ (([] : va_W))) H := hP.sub (ws' := (zb_T G x X) ++ (([] : va_W))) [0, 1, 2] rfl
            have hD0 : va_D A ((zb_T G x X) ++ (([] : va_W))) := hD.sub (ws' := (zb_T G x X) ++ (([] : va_W))) [0, 1, 2] (by decide) rfl
            refine zk_callI (wr := ([] : va_W)) (va_runV (As := []) (rest := []) ⟨hx, hb, hml, hown, hts⟩ (c_X4_readCommand l G x X n q hX2 _) (cwV 0 hts gX4_firstError_X4_readCommand rfl rfl rfl (by decide +kernel) ⟨Nat.le_of_ble_eq_true rfl, Nat.le_of_ble_eq_true rfl⟩) (zk_preV hE hA0 hS (zk_Papp hP0).1 (zk_Dapp hD0).1 (va_recv hK hP (ci := 3) (q0 := 0) rfl rfl)) rfl rfl hl.1 rfl (lv_room (Nat.le_of_ble_eq_true rfl)) dX4_firstError_25 ⟨Nat.le_of_ble_eq_true rfl, Nat.le_of_ble_eq_true rfl⟩) hP0 hD0 hS hA (fun r18 u19 H locs q20 hP hD hS => ?_)
            obtain ⟨er18, eL21⟩ := q20
            subst er18
            have hI22 : tInv u19 n ((tRd X n q).2.1) := by rw [eL21]; exact tRd_inv hX2
            have hP : va_P G.1 vwCl (zb_T G x u19) H := hP.sub (ws' := zb_T G x u19) [0, 1, 2] rfl
            have hD : va_D A (zb_T G x u19) := hD.sub (ws' := zb_T G x u19) [0, 1, 2] (by decide) rfl
            refine lv_istore_n (lv' := [(1, .int ((if (tRd X n q).1 = true then nI 1 else nI 0))), (2, .int (nI i)), (0, .ref (x 1))]) hx hb dX4_firstError_28 rfl hl (by decide) rfl (fun ls hl => ?_)
            refine lv_iinc (v := nI (i + 1)) (lv' := [(2, .int (nI (i + 1))), (1, .int ((if (tRd X n q).1 = true then nI 1 else nI 0))), (0, .ref (x 1))]) hx hb dX4_firstError_29 hl (k := 1) rfl (zk_inc i 1) (by decide) rfl (fun ls hl => ?_)
            refine lv_goto (tgt := 7) hx hb dX4_firstError_32 (by decide) ?_
            exact ih7 (i + 1) ((tRd X n q).1) ((tRd X n q).2.1) u19 (by omega) (by omega) (by rw [eL21]; exact tEr_s hX h14_10 (by show q < n; omega)) (hI22) _ _ hP hD hS ls (lv_sub hl [0, 1, 2] rfl)
  exact lp6 _ 0 ((tSt T n).1) ((tSt T n).2.1) u2 (Nat.lt_succ_self _) (by omega) (by rw [eL4]; rfl) (hI5) _ _ hP hD hS ls (lv_sub hl [0, 1, 2] rfl)
