abbrev rmX4_lowestWith : Room := { frames := 0, cells := 0, slots := 0, locals := 0 }
set_option maxHeartbeats 4000000 in
set_option maxRecDepth 100000 in
/-- the lowest number with these digits ahead -/
theorem c_X4_lowestWith (l : Launch) (G : zk_G) (b k : Nat) (hk : k < 10) : zk_I (S := Unit) l yX4_lowestWith wsX4_lowestWith rmX4_lowestWith G [.int (nI b), .int (nI k)] ([]) (fun r _ => r = nI (b * 10 ^ k)) (fun _ => []) := by
  refine zk_bodyI (cc := cX4_lowestWith) (maxL := 4) (ret := (some .int)) (by decide) rfl (Nat.le_of_ble_eq_true rfl) ?_
  intro p E0 s m args below meth cd A ls Q hF hQ
  obtain ⟨hx, hb, hml, hr, hts, hown, hlocks, -, hE, hP, hD, hS, hA, hA0, hl⟩ := hF
  have hK := hE.1
  have hl : lv_has ls 4 [(0, .int (nI b)), (1, .int (nI k))] := hl
  refine lv_iload_n hx hb dX4_lowestWith_0 rfl (lv_at hl 0 rfl) ?_
  refine lv_istore_n (lv' := [(2, .int (nI b)), (0, .int (nI b)), (1, .int (nI k))]) hx hb dX4_lowestWith_1 rfl hl (by decide) rfl (fun ls hl => ?_)
  refine lv_iconst (v := nI 0) hx hb dX4_lowestWith_2 (by decide) ?_
  refine lv_istore_n (lv' := [(3, .int (nI 0)), (2, .int (nI b)), (0, .int (nI b)), (1, .int (nI k))]) hx hb dX4_lowestWith_3 rfl hl (by decide) rfl (fun ls hl => ?_)
  have lp1 : ∀ (n3 : Nat) (i : Nat) (y : Nat), k - i < n3 → (i ≤ k) → (y = b * 10 ^ i) → ∀ (ls : Array Slot), lv_has ls 4 [(3, .int (nI i)), (2, .int (nI y)), (0, .int (nI b)), (1, .int (nI k))] → W p l E0 rmX4_lowestWith s m args below meth cd s.heap [] 0 0 Q (F0 m 4 ls []) := by
    intro n3
    induction n3 with
    | zero => intro i y hz; exact absurd hz (Nat.not_lt_zero _)
    | succ n3 ih2 =>
      intro i y hm hi hq ls hl
      refine lv_iload_n hx hb dX4_lowestWith_4 rfl (lv_at hl 0 rfl) ?_
      refine lv_iload_n hx hb dX4_lowestWith_5 rfl (lv_at hl 3 rfl) ?_
      refine lv_icmp_ge (tgt := 20) hx hb dX4_lowestWith_6 (by decide) (fun h6_3 => ?_) (fun h6_3 => ?_)
      · have h6_3 := zk_le (by omega) (by omega) h6_3
        refine lv_iload_n hx hb dX4_lowestWith_20 rfl (lv_at hl 1 rfl) ?_
        exact zk_reti () hQ hx hb hr hlocks hS hP hD (Nat.le_of_ble_eq_true rfl) (Nat.le_of_ble_eq_true rfl) dX4_lowestWith_21 (by rw [hq, show i = k by omega])
      · have h6_3 := zk_nle (by omega) (by omega) h6_3
        refine lv_bipush (v := nI 10) hx hb dX4_lowestWith_9 (by decide) ?_
        refine lv_iload_n hx hb dX4_lowestWith_11 rfl (lv_at hl 1 rfl) ?_
        refine zk_imulN hx hb dX4_lowestWith_12 ?_
        refine lv_istore_n (lv' := [(2, .int (nI (10 * y))), (3, .int (nI i)), (0, .int (nI b)), (1, .int (nI k))]) hx hb dX4_lowestWith_13 rfl hl (by decide) rfl (fun ls hl => ?_)
        refine lv_iinc (v := nI (i + 1)) (lv' := [(3, .int (nI (i + 1))), (2, .int (nI (10 * y))), (0, .int (nI b)), (1, .int (nI k))]) hx hb dX4_lowestWith_14 hl (k := 1) rfl (zk_inc i 1) (by decide) rfl (fun ls hl => ?_)
        refine lv_goto (tgt := 4) hx hb dX4_lowestWith_17 (by decide) ?_
        exact ih2 (i + 1) (10 * y) (by omega) (by omega) (by rw [hq, Nat.pow_succ]; exact (Nat.mul_left_comm _ _ _).trans (by rw [Nat.mul_comm 10])) ls (lv_sub hl [0, 1, 2, 3] rfl)
  exact lp1 _ 0 b (Nat.lt_succ_self _) (by omega) ((Nat.mul_one b).symm) ls (lv_sub hl [0, 1, 2, 3] rfl)

abbrev rmX4_highestWith : Room := { frames := 0, cells := 0, slots := 0, locals := 0 }
set_option maxHeartbeats 4000000 in
set_option maxRecDepth 100000 in
/-- the highest number with these digits ahead -/
theorem c_X4_highestWith (l : Launch) (G : zk_G) (b k : Nat) (hk : k < 10) : zk_I (S := Unit) l yX4_highestWith wsX4_highestWith rmX4_highestWith G [.int (nI b), .int (nI k)] ([]) (fun r _ => r = nI ((b + 1) * 10 ^ k - 1)) (fun _ => []) := by
  refine zk_bodyI (cc := cX4_highestWith) (maxL := 4) (ret := (some .int)) (by decide) rfl (Nat.le_of_ble_eq_true rfl) ?_
  intro p E0 s m args below meth cd A ls Q hF hQ
  obtain ⟨hx, hb, hml, hr, hts, hown, hlocks, -, hE, hP, hD, hS, hA, hA0, hl⟩ := hF
  have hK := hE.1
  have hl : lv_has ls 4 [(0, .int (nI b)), (1, .int (nI k))] := hl
  refine lv_iload_n hx hb dX4_highestWith_0 rfl (lv_at hl 0 rfl) ?_
  refine lv_istore_n (lv' := [(2, .int (nI b)), (0, .int (nI b)), (1, .int (nI k))]) hx hb dX4_highestWith_1 rfl hl (by decide) rfl (fun ls hl => ?_)
  refine lv_iconst (v := nI 0) hx hb dX4_highestWith_2 (by decide) ?_
  refine lv_istore_n (lv' := [(3, .int (nI 0)), (2, .int (nI b)), (0, .int (nI b)), (1, .int (nI k))]) hx hb dX4_highestWith_3 rfl hl (by decide) rfl (fun ls hl => ?_)
  have lp1 : ∀ (n3 : Nat) (i : Nat) (y : Nat), k - i < n3 → (i ≤ k) → (y + 1 = (b + 1) * 10 ^ i) → ∀ (ls : Array Slot), lv_has ls 4 [(3, .int (nI i)), (2, .int (nI y)), (0, .int (nI b)), (1, .int (nI k))] → W p l E0 rmX4_highestWith s m args below meth cd s.heap [] 0 0 Q (F0 m 4 ls []) := by
    intro n3
    induction n3 with
    | zero => intro i y hz; exact absurd hz (Nat.not_lt_zero _)
    | succ n3 ih2 =>
      intro i y hm hi hq ls hl
      refine lv_iload_n hx hb dX4_highestWith_4 rfl (lv_at hl 0 rfl) ?_
      refine lv_iload_n hx hb dX4_highestWith_5 rfl (lv_at hl 3 rfl) ?_
      refine lv_icmp_ge (tgt := 23) hx hb dX4_highestWith_6 (by decide) (fun h6_3 => ?_) (fun h6_3 => ?_)
      · have h6_3 := zk_le (by omega) (by omega) h6_3
        refine lv_iload_n hx hb dX4_highestWith_23 rfl (lv_at hl 1 rfl) ?_
        exact zk_reti () hQ hx hb hr hlocks hS hP hD (Nat.le_of_ble_eq_true rfl) (Nat.le_of_ble_eq_true rfl) dX4_highestWith_24 (by rw [show i = k by omega] at hq; rw [← hq]; rfl)
      · have h6_3 := zk_nle (by omega) (by omega) h6_3
        refine lv_bipush (v := nI 10) hx hb dX4_highestWith_9 (by decide) ?_
        refine lv_iload_n hx hb dX4_highestWith_11 rfl (lv_at hl 1 rfl) ?_
        refine zk_imulN hx hb dX4_highestWith_12 ?_
        refine lv_bipush (v := nI 9) hx hb dX4_highestWith_13 (by decide) ?_
        refine zk_iaddN hx hb dX4_highestWith_15 ?_
        refine lv_istore_n (lv' := [(2, .int (nI ((10 * y) + 9))), (3, .int (nI i)), (0, .int (nI b)), (1, .int (nI k))]) hx hb dX4_highestWith_16 rfl hl (by decide) rfl (fun ls hl => ?_)
        refine lv_iinc (v := nI (i + 1)) (lv' := [(3, .int (nI (i + 1))), (2, .int (nI ((10 * y) + 9))), (0, .int (nI b)), (1, .int (nI k))]) hx hb dX4_highestWith_17 hl (k := 1) rfl (zk_inc i 1) (by decide) rfl (fun ls hl => ?_)
        refine lv_goto (tgt := 4) hx hb dX4_highestWith_20 (by decide) ?_
        exact ih2 (i + 1) ((10 * y) + 9) (by omega) (by omega) (by rw [Nat.pow_succ, ← Nat.mul_assoc, ← hq]; omega) ls (lv_sub hl [0, 1, 2, 3] rfl)
  exact lp1 _ 0 b (Nat.lt_succ_self _) (by omega) ((Nat.mul_one (b + 1)).symm) ls (lv_sub hl [0, 1, 2, 3] rfl)

abbrev rmX4_isAtEnd : Room := { frames := 0, cells := 0, slots := 0, locals := 0 }
set_option maxHeartbeats 4000000 in
set_option maxRecDepth 100000 in
/-- is the reader at the end -/
theorem c_X4_isAtEnd (l : Launch) (G : zk_G) (x : Nat → Nat) (T : zL) (n po : Nat) (hI : tInv T n po)  : zk_I (S := Unit) l yX4_isAtEnd wsX4_isAtEnd rmX4_isAtEnd G [.ref (x 1)] (zb_T G x T) (fun r _ => r = if ¬ po < n then nI 1 else nI 0) (fun _ => zb_T G x T) := by
  refine zk_bodyI (cc := cX4_isAtEnd) (maxL := 1) (ret := (some .boolean)) (by decide) rfl (Nat.le_of_ble_eq_true rfl) ?_
  intro p E0 s m args below meth cd A ls Q hF hQ
  obtain ⟨hx, hb, hml, hr, hts, hown, hlocks, -, hE, hP, hD, hS, hA, hA0, hl⟩ := hF
  have hK := hE.1
  have hl : lv_has ls 1 [(0, .ref (x 1))] := hl
  obtain ⟨hn, hn120, hp, hp120, hch⟩ := id hI
  have w1 := hts _ (List.mem_of_getElem? (l := wsX4_isAtEnd) (i := 1) (a := Cond.fieldLink RX4 33 "MealAccounts$Text" "position" "I") rfl)
  have w2 := hts _ (List.mem_of_getElem? (l := wsX4_isAtEnd) (i := 2) (a := Cond.fieldLink RX4 19 "MealAccounts$Text" "length" "I") rfl)
  refine lv_aload_n hx hb dX4_isAtEnd_0 rfl (lv_at hl 0 rfl) ?_
  refine va_get (D := G.1) (ci := 3) (v := .int (T 0 1)) (C := RX4) (T := TX4) (N := 5) hx hb hts (fun _ h => List.mem_cons_of_mem _ (List.mem_append_right _ h)) hown hK hP 0 rfl rfl 2 (by decide) w1 (fun _ h9 => h9) rfl dX4_isAtEnd_1 ?_
  refine zk_top hI.2.2.1 ?_
  refine lv_aload_n hx hb dX4_isAtEnd_4 rfl (lv_at hl 0 rfl) ?_
  refine va_get (D := G.1) (ci := 3) (v := .int (T 0 0)) (C := RX4) (T := TX4) (N := 5) hx hb hts (fun _ h => List.mem_cons_of_mem _ (List.mem_append_right _ h)) hown hK hP 0 rfl rfl 1 (by decide) w2 (fun _ h9 => h9) rfl dX4_isAtEnd_5 ?_
  refine zk_top hI.1 ?_
  refine lv_icmp_lt (tgt := 15) hx hb dX4_isAtEnd_8 (by decide) (fun h8_0 => ?_) (fun h8_0 => ?_)
  · have h8_0 := zk_lt (by omega) (by omega) h8_0
    refine lv_iconst (v := nI 0) hx hb dX4_isAtEnd_15 (by decide) ?_
    exact zk_retz () hQ hx hb hr hlocks hS hP hD (Nat.le_of_ble_eq_true rfl) (Nat.le_of_ble_eq_true rfl) dX4_isAtEnd_16 (rfl) (by simp +decide [zk_a0, h8_0])
  · have h8_0 := zk_nlt (by omega) (by omega) h8_0
    refine lv_iconst (v := nI 1) hx hb dX4_isAtEnd_11 (by decide) ?_
    refine lv_goto (tgt := 16) hx hb dX4_isAtEnd_12 (by decide) ?_
    exact zk_retz () hQ hx hb hr hlocks hS hP hD (Nat.le_of_ble_eq_true rfl) (Nat.le_of_ble_eq_true rfl) dX4_isAtEnd_16 (rfl) (by simp +decide [zk_a0, h8_0])

abbrev rmX4_add : Room := { frames := 0, cells := 0, slots := 0, locals := 0 }
set_option maxHeartbeats 4000000 in
set_option maxRecDepth 100000 in
/-- a character is put down -/
theorem c_X4_add (l : Launch) (G : zk_G) (x : Nat → Nat) (T : zL) (n po : Nat) (hI : tInv T n po) (q : Nat) (hn2 : n < 120) (hq2 : q < 256) : zk_I (S := zL) l yX4_add wsX4_add rmX4_add G [.ref (x 1), .int (nI q)] (zb_T G x T) (fun r u => r = nI (n + 1) ∧ u = tAdd T n q) (fun u => zb_T G x u) := by
  refine zk_bodyI (cc := cX4_add) (maxL := 2) (ret := (some .int)) (by decide) rfl (Nat.le_of_ble_eq_true rfl) ?_
  intro p E0 s m args below meth cd A ls Q hF hQ
  obtain ⟨hx, hb, hml, hr, hts, hown, hlocks, -, hE, hP, hD, hS, hA, hA0, hl⟩ := hF
  have hK := hE.1
  have hl : lv_has ls 2 [(0, .ref (x 1)), (1, .int (nI q))] := hl
  obtain ⟨hn, hn120, hp, hp120, hch⟩ := id hI
  have w1 := hts _ (List.mem_of_getElem? (l := wsX4_add) (i := 1) (a := Cond.fieldLink RX4 9 "MealAccounts$Text" "characters" "[C") rfl)
  have w2 := hts _ (List.mem_of_getElem? (l := wsX4_add) (i := 2) (a := Cond.fieldLink RX4 19 "MealAccounts$Text" "length" "I") rfl)
  refine lv_aload_n hx hb dX4_add_0 rfl (lv_at hl 0 rfl) ?_
  refine va_get (D := G.1) (ci := 3) (v := .ref (x 2)) (C := RX4) (T := TX4) (N := 5) hx hb hts (fun _ h => List.mem_cons_of_mem _ (List.mem_append_right _ h)) hown hK hP 0 rfl rfl 0 (by decide) w1 (fun _ h9 => h9) rfl dX4_add_1 ?_
  refine lv_aload_n hx hb dX4_add_4 rfl (lv_at hl 0 rfl) ?_
  refine va_get (D := G.1) (ci := 3) (v := .int (T 0 0)) (C := RX4) (T := TX4) (N := 5) hx hb hts (fun _ h => List.mem_cons_of_mem _ (List.mem_append_right _ h)) hown hK hP 0 rfl rfl 1 (by decide) w2 (fun _ h9 => h9) rfl dX4_add_5 ?_
  refine zk_top hI.1 ?_
  refine lv_iload_n hx hb dX4_add_8 rfl (lv_at hl 1 rfl) ?_
  refine zk_castN hx hb hK hP hD hS 1 2 rfl rfl (k := n) (n := 120) (by omega) (by omega) (by omega) dX4_add_9 (fun H locs hP hD hS => ?_)
  obtain ⟨L1, eL1⟩ : ∃ z : zL, z = up2 T 1 n (nI q) := ⟨_, rfl⟩
  have hP : va_P G.1 vwCl (zb_T G x L1) H := by rw [eL1]; exact hP
  have hD : va_D A (zb_T G x L1) := by rw [eL1]; exact hD
  have hI2 : tInv L1 n po := by rw [eL1]; exact tInv_ch hI (by omega)
  refine lv_aload_n hx hb dX4_add_10 rfl (lv_at hl 0 rfl) ?_
  refine lv_dup hx hb dX4_add_11 rfl ?_
  refine va_get (D := G.1) (ci := 3) (v := .int (L1 0 0)) (C := RX4) (T := TX4) (N := 5) hx hb hts (fun _ h => List.mem_cons_of_mem _ (List.mem_append_right _ h)) hown hK hP 0 rfl rfl 1 (by decide) w2 (fun _ h9 => h9) rfl dX4_add_12 ?_
  refine zk_top hI2.1 ?_
  refine lv_iconst (v := nI 1) hx hb dX4_add_15 (by decide) ?_
  refine zk_iaddN hx hb dX4_add_16 ?_
  refine va_put (D := G.1) (ci := 3) (v := .int (nI (n + 1))) (ty := .int) (C := RX4) (T := TX4) (N := 5) hx hb hts (fun _ h => List.mem_cons_of_mem _ (List.mem_append_right _ h)) tyX4 tyX4_ok nmX4 hown hK hP hD hS 0 rfl rfl 1 (by decide) w2 (fun _ h9 => h9) rfl (by decide +kernel) rfl rfl (Nat.le_of_ble_eq_true rfl) dX4_add_17 (fun H locs hP hD hS => ?_)
  obtain ⟨L3, eL3⟩ : ∃ z : zL, z = up2 L1 0 0 (nI (n + 1)) := ⟨_, rfl⟩
  have hP : va_P G.1 vwCl (zb_T G x L3) H := by rw [eL3]; exact hP
  have hD : va_D A (zb_T G x L3) := by rw [eL3]; exact hD
  have hI4 : tInv L3 (n + 1) po := by rw [eL3]; exact tInv_len hI2 (by omega)
  refine lv_aload_n hx hb dX4_add_20 rfl (lv_at hl 0 rfl) ?_
  refine va_get (D := G.1) (ci := 3) (v := .int (L3 0 0)) (C := RX4) (T := TX4) (N := 5) hx hb hts (fun _ h => List.mem_cons_of_mem _ (List.mem_append_right _ h)) hown hK hP 0 rfl rfl 1 (by decide) w2 (fun _ h9 => h9) rfl dX4_add_21 ?_
  refine zk_top hI4.1 ?_
  exact zk_reti L3 hQ hx hb hr hlocks hS hP hD (Nat.le_of_ble_eq_true rfl) (Nat.le_of_ble_eq_true rfl) dX4_add_24 (by subst_vars; exact ⟨rfl, rfl⟩)

abbrev rmX4_readStart : Room := { frames := 1, cells := 0, slots := 0, locals := 20 }
set_option maxHeartbeats 4000000 in
set_option maxRecDepth 100000 in
/-- the reader begins -/
theorem c_X4_readStart (l : Launch) (G : zk_G) (x : Nat → Nat) (T : zL) (n po : Nat) (hI : tInv T n po)  : zk_I (S := zL) l yX4_readStart wsX4_readStart rmX4_readStart G [.ref (x 1)] (zb_T G x T) (fun r u => r = (if n = 0 ∨ ¬ T 1 0 = nI 83 then nI 0 else nI 1) ∧ u = (if n = 0 ∨ ¬ T 1 0 = nI 83 then tPos T 0 else tPos T 1)) (fun u => zb_T G x u) := by
  refine zk_bodyI (cc := cX4_readStart) (maxL := 1) (ret := (some .boolean)) (by decide) rfl (Nat.le_of_ble_eq_true rfl) ?_
  intro p E0 s m args below meth cd A ls Q hF hQ
  obtain ⟨hx, hb, hml, hr, hts, hown, hlocks, -, hE, hP, hD, hS, hA, hA0, hl⟩ := hF
  have hK := hE.1
  have hl : lv_has ls 1 [(0, .ref (x 1))] := hl
  obtain ⟨hn, hn120, hp, hp120, hch⟩ := id hI
  have w1 := hts _ (List.mem_of_getElem? (l := wsX4_readStart) (i := 1) (a := Cond.fieldLink RX4 33 "MealAccounts$Text" "position" "I") rfl)
  have w2 := hts _ (List.mem_of_getElem? (l := wsX4_readStart) (i := 2) (a := Cond.fieldLink RX4 9 "MealAccounts$Text" "characters" "[C") rfl)
  refine lv_aload_n hx hb dX4_readStart_0 rfl (lv_at hl 0 rfl) ?_
  refine lv_iconst (v := nI 0) hx hb dX4_readStart_1 (by decide) ?_
  refine va_put (D := G.1) (ci := 3) (v := .int (nI 0)) (ty := .int) (C := RX4) (T := TX4) (N := 5) hx hb hts (fun _ h => List.mem_cons_of_mem _ (List.mem_append_right _ h)) tyX4 tyX4_ok nmX4 hown hK hP hD hS 0 rfl rfl 2 (by decide) w1 (fun _ h9 => h9) rfl (by decide +kernel) rfl rfl (Nat.le_of_ble_eq_true rfl) dX4_readStart_2 (fun H locs hP hD hS => ?_)
  obtain ⟨L1, eL1⟩ : ∃ z : zL, z = up2 T 0 1 (nI 0) := ⟨_, rfl⟩
  have hP : va_P G.1 vwCl (zb_T G x L1) H := by rw [eL1]; exact hP
  have hD : va_D A (zb_T G x L1) := by rw [eL1]; exact hD
  have hI2 : tInv L1 n 0 := by rw [eL1]; exact tInv_pos hI (by omega)
  refine lv_aload_n hx hb dX4_readStart_5 rfl (lv_at hl 0 rfl) ?_
  have hP0 : va_P G.1 vwCl ((zb_T G x L1) ++ (([] : va_W))) H := hP.sub (ws' := (zb_T G x L1) ++ (([] : va_W))) [0, 1, 2] rfl
  have hD0 : va_D A ((zb_T G x L1) ++ (([] : va_W))) := hD.sub (ws' := (zb_T G x L1) ++ (([] : va_W))) [0, 1, 2] (by decide) rfl
  refine zk_callI (wr := ([] : va_W)) (va_runV (As := []) (rest := []) ⟨hx, hb, hml, hown, hts⟩ (c_X4_isAtEnd l G x L1 n 0 hI2 _) (cwV 0 hts gX4_readStart_X4_isAtEnd rfl rfl rfl (by decide +kernel) ⟨Nat.le_of_ble_eq_true rfl, Nat.le_of_ble_eq_true rfl⟩) (zk_preV hE hA0 hS (zk_Papp hP0).1 (zk_Dapp hD0).1 (va_recv hK hP (ci := 3) (q0 := 0) rfl rfl)) rfl rfl hl.1 rfl (lv_room (Nat.le_of_ble_eq_true rfl)) dX4_readStart_6 ⟨Nat.le_of_ble_eq_true rfl, Nat.le_of_ble_eq_true rfl⟩) hP0 hD0 hS hA (fun r3 u4 H locs q5 hP hD hS => ?_)
  subst q5
  have hP : va_P G.1 vwCl (zb_T G x L1) H := hP.sub (ws' := zb_T G x L1) [0, 1, 2] rfl
  have hD : va_D A (zb_T G x L1) := hD.sub (ws' := zb_T G x L1) [0, 1, 2] (by decide) rfl
  refine lv_if_ne (tgt := 26) hx hb dX4_readStart_9 (by decide) (fun h9_5 => ?_) (fun h9_5 => ?_)
  · have h9_5 := zk_b1 h9_5
    refine lv_iconst (v := nI 0) hx hb dX4_readStart_26 (by decide) ?_
    exact zk_retz L1 hQ hx hb hr hlocks hS hP hD (Nat.le_of_ble_eq_true rfl) (Nat.le_of_ble_eq_true rfl) dX4_readStart_27 (rfl) (by rw [if_pos (Or.inl (show n = 0 by omega)), if_pos (Or.inl (show n = 0 by omega))]; subst_vars; exact ⟨rfl, rfl⟩)
  · have h9_5 := zk_b0 h9_5
    refine lv_aload_n hx hb dX4_readStart_12 rfl (lv_at hl 0 rfl) ?_
    refine va_get (D := G.1) (ci := 3) (v := .ref (x 2)) (C := RX4) (T := TX4) (N := 5) hx hb hts (fun _ h => List.mem_cons_of_mem _ (List.mem_append_right _ h)) hown hK hP 0 rfl rfl 0 (by decide) w2 (fun _ h9 => h9) rfl dX4_readStart_13 ?_
    refine lv_aload_n hx hb dX4_readStart_16 rfl (lv_at hl 0 rfl) ?_
    refine va_get (D := G.1) (ci := 3) (v := .int (L1 0 1)) (C := RX4) (T := TX4) (N := 5) hx hb hts (fun _ h => List.mem_cons_of_mem _ (List.mem_append_right _ h)) hown hK hP 0 rfl rfl 2 (by decide) w1 (fun _ h9 => h9) rfl dX4_readStart_17 ?_
    refine zk_top hI2.2.2.1 ?_
    refine zk_caldN hx hb hK hP 1 2 rfl rfl (k := 0) (n := 120) (by omega) (by omega) dX4_readStart_20 ?_
    refine zk_top (show _ = T 1 0 by rw [eL1]; rfl) ?_
    refine lv_bipush (v := nI 83) hx hb dX4_readStart_21 (by decide) ?_
    refine lv_icmp_eq (tgt := 28) hx hb dX4_readStart_23 (by decide) (fun h23_6 => ?_) (fun h23_6 => ?_)
    · refine lv_aload_n hx hb dX4_readStart_28 rfl (lv_at hl 0 rfl) ?_
      refine lv_dup hx hb dX4_readStart_29 rfl ?_
      refine va_get (D := G.1) (ci := 3) (v := .int (L1 0 1)) (C := RX4) (T := TX4) (N := 5) hx hb hts (fun _ h => List.mem_cons_of_mem _ (List.mem_append_right _ h)) hown hK hP 0 rfl rfl 2 (by decide) w1 (fun _ h9 => h9) rfl dX4_readStart_30 ?_
      refine zk_top hI2.2.2.1 ?_
      refine lv_iconst (v := nI 1) hx hb dX4_readStart_33 (by decide) ?_
      refine zk_iaddN hx hb dX4_readStart_34 ?_
      refine va_put (D := G.1) (ci := 3) (v := .int (nI (0 + 1))) (ty := .int) (C := RX4) (T := TX4) (N := 5) hx hb hts (fun _ h => List.mem_cons_of_mem _ (List.mem_append_right _ h)) tyX4 tyX4_ok nmX4 hown hK hP hD hS 0 rfl rfl 2 (by decide) w1 (fun _ h9 => h9) rfl (by decide +kernel) rfl rfl (Nat.le_of_ble_eq_true rfl) dX4_readStart_35 (fun H locs hP hD hS => ?_)
      obtain ⟨L8, eL8⟩ : ∃ z : zL, z = up2 L1 0 1 (nI (0 + 1)) := ⟨_, rfl⟩
      have hP : va_P G.1 vwCl (zb_T G x L8) H := by rw [eL8]; exact hP
      have hD : va_D A (zb_T G x L8) := by rw [eL8]; exact hD
      have hI9 : tInv L8 n (0 + 1) := by rw [eL8]; exact tInv_pos hI2 (by omega)
      refine lv_iconst (v := nI 1) hx hb dX4_readStart_38 (by decide) ?_
      exact zk_retz L8 hQ hx hb hr hlocks hS hP hD (Nat.le_of_ble_eq_true rfl) (Nat.le_of_ble_eq_true rfl) dX4_readStart_39 (rfl) (by rw [if_neg (fun z => z.elim (fun z => by omega) (fun z => z h23_6)), if_neg (fun z => z.elim (fun z => by omega) (fun z => z h23_6))]; subst_vars; exact ⟨rfl, up2_up2 _ _ _ _ _⟩)
    · refine lv_iconst (v := nI 0) hx hb dX4_readStart_26 (by decide) ?_
      exact zk_retz L1 hQ hx hb hr hlocks hS hP hD (Nat.le_of_ble_eq_true rfl) (Nat.le_of_ble_eq_true rfl) dX4_readStart_27 (rfl) (by rw [if_pos (Or.inr h23_6), if_pos (Or.inr h23_6)]; subst_vars; exact ⟨rfl, rfl⟩)

abbrev rmX4_readRange : Room := { frames := 1, cells := 0, slots := 0, locals := 23 }
set_option maxHeartbeats 4000000 in
set_option maxRecDepth 100000 in
/-- a number of some digits is read -/
theorem c_X4_readRange (l : Launch) (G : zk_G) (x : Nat → Nat) (T : zL) (n po : Nat) (hI : tInv T n po) (i dg lo hi : Nat) (hi3 : i < 3) (hdg1 : 1 ≤ dg) (hdg : dg ≤ 4) (hlo : lo < 10000) (hhi : hi < 10000) : zk_I (S := zL) l yX4_readRange wsX4_readRange rmX4_readRange G [.ref (x 1), .int (nI i), .int (nI dg), .int (nI lo), .int (nI hi)] (zb_T G x T) (fun r u => r = (if (tRange (T 1) n lo hi dg 0 po).1 = none then nI 0 else nI 1) ∧ u = tSet T i (tRange (T 1) n lo hi dg 0 po)) (fun u => zb_T G x u) := by
  refine zk_bodyI (cc := cX4_readRange) (maxL := 8) (ret := (some .boolean)) (by decide) rfl (Nat.le_of_ble_eq_true rfl) ?_
  intro p E0 s m args below meth cd A ls Q hF hQ
  obtain ⟨hx, hb, hml, hr, hts, hown, hlocks, -, hE, hP, hD, hS, hA, hA0, hl⟩ := hF
  have hK := hE.1
  have hl : lv_has ls 8 [(0, .ref (x 1)), (1, .int (nI i)), (2, .int (nI dg)), (3, .int (nI lo)), (4, .int (nI hi))] := hl
  obtain ⟨hn, hn120, hp, hp120, hch⟩ := id hI
  have w3 := hts _ (List.mem_of_getElem? (l := wsX4_readRange) (i := 3) (a := Cond.fieldLink RX4 15 "MealAccounts$Text" "numbers" "[I") rfl)
  have w1 := hts _ (List.mem_of_getElem? (l := wsX4_readRange) (i := 1) (a := Cond.fieldLink RX4 9 "MealAccounts$Text" "characters" "[C") rfl)
  have w2 := hts _ (List.mem_of_getElem? (l := wsX4_readRange) (i := 2) (a := Cond.fieldLink RX4 33 "MealAccounts$Text" "position" "I") rfl)
  refine lv_iconst (v := nI 0) hx hb dX4_readRange_0 (by decide) ?_
  refine lv_istore (lv' := [(5, .int (nI 0)), (0, .ref (x 1)), (1, .int (nI i)), (2, .int (nI dg)), (3, .int (nI lo)), (4, .int (nI hi))]) hx hb dX4_readRange_1 hl (by decide) rfl (fun ls hl => ?_)
  refine lv_iload_n hx hb dX4_readRange_3 rfl (lv_at hl 3 rfl) ?_
  refine lv_iconst (v := nI 1) hx hb dX4_readRange_4 (by decide) ?_
  refine lv_isub hx hb dX4_readRange_5 ?_
  refine lv_topi (fun x1 ex1 => ?_)
  refine lv_istore (lv' := [(6, .int x1), (5, .int (nI 0)), (0, .ref (x 1)), (1, .int (nI i)), (2, .int (nI dg)), (3, .int (nI lo)), (4, .int (nI hi))]) hx hb dX4_readRange_6 hl (by decide) rfl (fun ls hl => ?_)
  have lp2 : ∀ (n4 : Nat) (k : Nat) (b : Nat) (q : Nat) (z : Int32) (X : zL), k < n4 → (k ≤ dg) → ((b + 1) * 10 ^ k ≤ 10000) → (tRange (T 1) n lo hi dg 0 po = tRange (T 1) n lo hi k b q) → (X = tPos T q) → (tInv X n q) → (z = nI k - nI 1) → ∀ (H : Heap) (locs : List Loc) (hP : va_P G.1 vwCl (zb_T G x X) H) (hD : va_D A (zb_T G x X)) (hS : va_S A s.heap H locs) (ls : Array Slot), lv_has ls 8 [(6, .int z), (5, .int (nI b)), (0, .ref (x 1)), (1, .int (nI i)), (2, .int (nI dg)), (3, .int (nI lo)), (4, .int (nI hi))] → W p l E0 rmX4_readRange s m args below meth cd H locs 0 0 Q (F0 m 8 ls []) := by
    intro n4
    induction n4 with
    | zero => intro k b q z X hz; exact absurd hz (Nat.not_lt_zero _)
    | succ n4 ih3 =>
      intro k b q z X hm hk hb2 hq2 hX hX2 hz H locs hP hD hS ls hl
      refine lv_iload hx hb dX4_readRange_8 (lv_at hl 0 rfl) ?_
      refine lv_if_lt (tgt := 101) hx hb dX4_readRange_10 (by decide) (fun h10_4 => ?_) (fun h10_4 => ?_)
      · refine lv_aload_n hx hb dX4_readRange_101 rfl (lv_at hl 2 rfl) ?_
        refine va_get (D := G.1) (ci := 3) (v := .ref (x 3)) (C := RX4) (T := TX4) (N := 5) hx hb hts (fun _ h => List.mem_cons_of_mem _ (List.mem_append_right _ h)) hown hK hP 0 rfl rfl 4 (by decide) w3 (fun _ h9 => h9) rfl dX4_readRange_102 ?_
        refine lv_iload_n hx hb dX4_readRange_105 rfl (lv_at hl 3 rfl) ?_
        refine lv_iload hx hb dX4_readRange_106 (lv_at hl 1 rfl) ?_
        refine zk_iastN hx hb hK hP hD hS 2 0 rfl rfl (k := i) (n := 3) (by omega) (by omega) dX4_readRange_108 (fun H locs hP hD hS => ?_)
        obtain ⟨L6, eL6⟩ : ∃ z : zL, z = up2 X 2 i (nI b) := ⟨_, rfl⟩
        have hP : va_P G.1 vwCl (zb_T G x L6) H := by rw [eL6]; exact hP
        have hD : va_D A (zb_T G x L6) := by rw [eL6]; exact hD
        have hI7 : tInv L6 n q := by rw [eL6]; exact tInv_num hX2
        refine lv_iconst (v := nI 1) hx hb dX4_readRange_109 (by decide) ?_
        exact zk_retz L6 hQ hx hb hr hlocks hS hP hD (Nat.le_of_ble_eq_true rfl) (Nat.le_of_ble_eq_true rfl) dX4_readRange_110 (rfl) (by rw [hq2, show k = 0 from zk_dn0 (by omega) (by rw [← hz]; exact h10_4)]; exact ⟨rfl, by rw [eL6, hX]; rfl⟩)
      · obtain ⟨j, rfl, ez⟩ := zk_dn1 (k := k) (by omega) (by rw [← hz]; exact h10_4)
        have ezz : z = nI j := hz.trans ez
        have hl : lv_has ls 8 [(6, .int (nI j)), (5, .int (nI b)), (0, .ref (x 1)), (1, .int (nI i)), (2, .int (nI dg)), (3, .int (nI lo)), (4, .int (nI hi))] := by rw [ezz] at hl; exact hl
        refine lv_aload_n hx hb dX4_readRange_13 rfl (lv_at hl 2 rfl) ?_
        have hP0 : va_P G.1 vwCl ((zb_T G x X) ++ (([] : va_W))) H := hP.sub (ws' := (zb_T G x X) ++ (([] : va_W))) [0, 1, 2] rfl
        have hD0 : va_D A ((zb_T G x X) ++ (([] : va_W))) := hD.sub (ws' := (zb_T G x X) ++ (([] : va_W))) [0, 1, 2] (by decide) rfl
        refine zk_callI (wr := ([] : va_W)) (va_runV (As := []) (rest := []) ⟨hx, hb, hml, hown, hts⟩ (c_X4_isAtEnd l G x X n q hX2 _) (cwV 0 hts gX4_readRange_X4_isAtEnd rfl rfl rfl (by decide +kernel) ⟨Nat.le_of_ble_eq_true rfl, Nat.le_of_ble_eq_true rfl⟩) (zk_preV hE hA0 hS (zk_Papp hP0).1 (zk_Dapp hD0).1 (va_recv hK hP (ci := 3) (q0 := 0) rfl rfl)) rfl rfl hl.1 rfl (lv_room (Nat.le_of_ble_eq_true rfl)) dX4_readRange_14 ⟨Nat.le_of_ble_eq_true rfl, Nat.le_of_ble_eq_true rfl⟩) hP0 hD0 hS hA (fun r8 u9 H locs q10 hP hD hS => ?_)
        subst q10
        have hP : va_P G.1 vwCl (zb_T G x X) H := hP.sub (ws' := zb_T G x X) [0, 1, 2] rfl
        have hD : va_D A (zb_T G x X) := hD.sub (ws' := zb_T G x X) [0, 1, 2] (by decide) rfl
        refine lv_if_eq (tgt := 22) hx hb dX4_readRange_17 (by decide) (fun h17_10 => ?_) (fun h17_10 => ?_)
        · have h17_10 := zk_b0 h17_10
          refine lv_aload_n hx hb dX4_readRange_22 rfl (lv_at hl 2 rfl) ?_
          refine va_get (D := G.1) (ci := 3) (v := .ref (x 2)) (C := RX4) (T := TX4) (N := 5) hx hb hts (fun _ h => List.mem_cons_of_mem _ (List.mem_append_right _ h)) hown hK hP 0 rfl rfl 0 (by decide) w1 (fun _ h9 => h9) rfl dX4_readRange_23 ?_
          refine lv_aload_n hx hb dX4_readRange_26 rfl (lv_at hl 2 rfl) ?_
          refine va_get (D := G.1) (ci := 3) (v := .int (X 0 1)) (C := RX4) (T := TX4) (N := 5) hx hb hts (fun _ h => List.mem_cons_of_mem _ (List.mem_append_right _ h)) hown hK hP 0 rfl rfl 2 (by decide) w2 (fun _ h9 => h9) rfl dX4_readRange_27 ?_
          refine zk_top hX2.2.2.1 ?_
          refine zk_caldN hx hb hK hP 1 2 rfl rfl (k := q) (n := 120) (by omega) (by omega) dX4_readRange_30 ?_
          refine zk_top (show _ = T 1 q by rw [hX]; rfl) ?_
          refine lv_bipush (v := nI 48) hx hb dX4_readRange_31 (by decide) ?_
          refine lv_isub hx hb dX4_readRange_33 ?_
          refine lv_topi (fun x12 ex12 => ?_)
          refine lv_istore (lv' := [(7, .int x12), (6, .int (nI j)), (5, .int (nI b)), (0, .ref (x 1)), (1, .int (nI i)), (2, .int (nI dg)), (3, .int (nI lo)), (4, .int (nI hi))]) hx hb dX4_readRange_34 hl (by decide) rfl (fun ls hl => ?_)
          refine lv_iload hx hb dX4_readRange_36 (lv_at hl 0 rfl) ?_
          refine lv_if_lt (tgt := 48) hx hb dX4_readRange_38 (by decide) (fun h38_12 => ?_) (fun h38_12 => ?_)
          · refine lv_iconst (v := nI 0) hx hb dX4_readRange_48 (by decide) ?_
            exact zk_retz X hQ hx hb hr hlocks hS hP hD (Nat.le_of_ble_eq_true rfl) (Nat.le_of_ble_eq_true rfl) dX4_readRange_49 (rfl) (by rw [hq2, tRange, if_neg h17_10, if_pos (Or.inl (by rw [← ex12]; exact h38_12))]; exact ⟨rfl, hX⟩)
          · refine lv_iload hx hb dX4_readRange_41 (lv_at hl 0 rfl) ?_
            refine lv_bipush (v := nI 9) hx hb dX4_readRange_43 (by decide) ?_
            refine lv_icmp_le (tgt := 50) hx hb dX4_readRange_45 (by decide) (fun h45_13 => ?_) (fun h45_13 => ?_)
            · have h45_13 := zk_l1 h45_13
              obtain ⟨ed, hd9⟩ := tDig_9 (c := T 1 q) (by rw [← ex12]; exact h38_12) (by rw [← ex12]; exact h45_13)
              have exd : x12 = nI (tDig (T 1 q)) := ex12.trans ed
              have hno : ¬ (T 1 q - nI 48 < 0 ∨ nI 9 < T 1 q - nI 48) := fun w => w.elim (by rw [← ex12]; exact h38_12) (by rw [← ex12]; exact h45_13)
              have hbb : (10 * b + tDig (T 1 q) + 1) * 10 ^ j ≤ 10000 := by
                refine Nat.le_trans ?_ hb2
                rw [Nat.pow_succ, Nat.mul_comm (10 ^ j) 10, ← Nat.mul_assoc]
                exact Nat.mul_le_mul_right _ (by omega)
              have hbc : (10 * b + tDig (T 1 q)) * 10 ^ j ≤ 10000 := Nat.le_trans (Nat.mul_le_mul_right _ (by omega)) hbb
              have hl : lv_has ls 8 [(7, .int (nI (tDig (T 1 q)))), (6, .int (nI j)), (5, .int (nI b)), (0, .ref (x 1)), (1, .int (nI i)), (2, .int (nI dg)), (3, .int (nI lo)), (4, .int (nI hi))] := by rw [exd] at hl; exact hl
              refine lv_bipush (v := nI 10) hx hb dX4_readRange_50 (by decide) ?_
              refine lv_iload hx hb dX4_readRange_52 (lv_at hl 2 rfl) ?_
              refine zk_imulN hx hb dX4_readRange_54 ?_
              refine lv_iload hx hb dX4_readRange_55 (lv_at hl 0 rfl) ?_
              refine zk_iaddN hx hb dX4_readRange_57 ?_
              refine lv_istore (lv' := [(5, .int (nI ((10 * b) + (tDig (T 1 q))))), (7, .int (nI (tDig (T 1 q)))), (6, .int (nI j)), (0, .ref (x 1)), (1, .int (nI i)), (2, .int (nI dg)), (3, .int (nI lo)), (4, .int (nI hi))]) hx hb dX4_readRange_58 hl (by decide) rfl (fun ls hl => ?_)
              refine lv_iload hx hb dX4_readRange_60 (lv_at hl 0 rfl) ?_
              refine lv_iload hx hb dX4_readRange_62 (lv_at hl 2 rfl) ?_
              have hP0 : va_P G.1 vwCl (([] : va_W) ++ (zb_T G x X)) H := hP
              have hD0 : va_D A (([] : va_W) ++ (zb_T G x X)) := hD
              refine zk_callI (wr := zb_T G x X) (va_runS (As := [.int (nI ((10 * b) + (tDig (T 1 q)))), .int (nI j)]) (rest := []) ⟨hx, hb, hml, hown, hts⟩ (c_X4_lowestWith l G ((10 * b) + (tDig (T 1 q))) j (by omega) _) (cwS 2 hts gX4_readRange_X4_lowestWith rfl rfl rfl (by decide +kernel) ⟨Nat.le_of_ble_eq_true rfl, Nat.le_of_ble_eq_true rfl⟩) (zk_preS hE hA0 hS (zk_Papp hP0).1 (zk_Dapp hD0).1) rfl rfl hl.1 rfl (lv_room (Nat.le_of_ble_eq_true rfl)) dX4_readRange_64 ⟨Nat.le_of_ble_eq_true rfl, Nat.le_of_ble_eq_true rfl⟩) hP0 hD0 hS hA (fun r15 u16 H locs q17 hP hD hS => ?_)
              subst q17
              have hP : va_P G.1 vwCl (zb_T G x X) H := hP
              have hD : va_D A (zb_T G x X) := hD
              refine lv_iload hx hb dX4_readRange_67 (lv_at hl 7 rfl) ?_
              refine lv_icmp_gt (tgt := 83) hx hb dX4_readRange_69 (by decide) (fun h69_17 => ?_) (fun h69_17 => ?_)
              · have h69_17 := zk_lt (by omega) (by omega) h69_17
                refine lv_iconst (v := nI 0) hx hb dX4_readRange_83 (by decide) ?_
                exact zk_retz X hQ hx hb hr hlocks hS hP hD (Nat.le_of_ble_eq_true rfl) (Nat.le_of_ble_eq_true rfl) dX4_readRange_84 (rfl) (by rw [hq2, tRange, if_neg h17_10, if_neg hno, if_pos (Or.inl h69_17)]; exact ⟨rfl, hX⟩)
              · have h69_17 := zk_nlt (by omega) (by omega) h69_17
                refine lv_iload hx hb dX4_readRange_72 (lv_at hl 0 rfl) ?_
                refine lv_iload hx hb dX4_readRange_74 (lv_at hl 2 rfl) ?_
                have hP0 : va_P G.1 vwCl (([] : va_W) ++ (zb_T G x X)) H := hP
                have hD0 : va_D A (([] : va_W) ++ (zb_T G x X)) := hD
                refine zk_callI (wr := zb_T G x X) (va_runS (As := [.int (nI ((10 * b) + (tDig (T 1 q)))), .int (nI j)]) (rest := []) ⟨hx, hb, hml, hown, hts⟩ (c_X4_highestWith l G ((10 * b) + (tDig (T 1 q))) j (by omega) _) (cwS 2 hts gX4_readRange_X4_highestWith rfl rfl rfl (by decide +kernel) ⟨Nat.le_of_ble_eq_true rfl, Nat.le_of_ble_eq_true rfl⟩) (zk_preS hE hA0 hS (zk_Papp hP0).1 (zk_Dapp hD0).1) rfl rfl hl.1 rfl (lv_room (Nat.le_of_ble_eq_true rfl)) dX4_readRange_76 ⟨Nat.le_of_ble_eq_true rfl, Nat.le_of_ble_eq_true rfl⟩) hP0 hD0 hS hA (fun r19 u20 H locs q21 hP hD hS => ?_)
                subst q21
                have hP : va_P G.1 vwCl (zb_T G x X) H := hP
                have hD : va_D A (zb_T G x X) := hD
                refine lv_iload_n hx hb dX4_readRange_79 rfl (lv_at hl 6 rfl) ?_
                refine lv_icmp_ge (tgt := 85) hx hb dX4_readRange_80 (by decide) (fun h80_21 => ?_) (fun h80_21 => ?_)
                · have h80_21 := zk_le (by omega) (by omega) h80_21
                  refine lv_aload_n hx hb dX4_readRange_85 rfl (lv_at hl 3 rfl) ?_
                  refine lv_dup hx hb dX4_readRange_86 rfl ?_
                  refine va_get (D := G.1) (ci := 3) (v := .int (X 0 1)) (C := RX4) (T := TX4) (N := 5) hx hb hts (fun _ h => List.mem_cons_of_mem _ (List.mem_append_right _ h)) hown hK hP 0 rfl rfl 2 (by decide) w2 (fun _ h9 => h9) rfl dX4_readRange_87 ?_
                  refine zk_top hX2.2.2.1 ?_
                  refine lv_iconst (v := nI 1) hx hb dX4_readRange_90 (by decide) ?_
                  refine zk_iaddN hx hb dX4_readRange_91 ?_
                  refine va_put (D := G.1) (ci := 3) (v := .int (nI (q + 1))) (ty := .int) (C := RX4) (T := TX4) (N := 5) hx hb hts (fun _ h => List.mem_cons_of_mem _ (List.mem_append_right _ h)) tyX4 tyX4_ok nmX4 hown hK hP hD hS 0 rfl rfl 2 (by decide) w2 (fun _ h9 => h9) rfl (by decide +kernel) rfl rfl (Nat.le_of_ble_eq_true rfl) dX4_readRange_92 (fun H locs hP hD hS => ?_)
                  obtain ⟨L23, eL23⟩ : ∃ z : zL, z = up2 X 0 1 (nI (q + 1)) := ⟨_, rfl⟩
                  have hP : va_P G.1 vwCl (zb_T G x L23) H := by rw [eL23]; exact hP
                  have hD : va_D A (zb_T G x L23) := by rw [eL23]; exact hD
                  have hI24 : tInv L23 n (q + 1) := by rw [eL23]; exact tInv_pos hX2 (by omega)
                  obtain ⟨x25, ex25⟩ : ∃ z : Int32, z = (nI j) - nI 1 := ⟨_, rfl⟩
                  refine lv_iinc (v := x25) (lv' := [(6, .int x25), (5, .int (nI ((10 * b) + (tDig (T 1 q))))), (7, .int (nI (tDig (T 1 q)))), (0, .ref (x 1)), (1, .int (nI i)), (2, .int (nI dg)), (3, .int (nI lo)), (4, .int (nI hi))]) hx hb dX4_readRange_95 hl (k := 2) rfl (by rw [ex25]; exact zk_dec j) (by decide) rfl (fun ls hl => ?_)
                  refine lv_goto (tgt := 8) hx hb dX4_readRange_98 (by decide) ?_
                  exact ih3 j ((10 * b) + (tDig (T 1 q))) (q + 1) x25 L23 (by omega) (by omega) (hbb) (by rw [hq2, tRange, if_neg h17_10, if_neg hno, if_neg (fun w => w.elim (fun w => by omega) (fun w => by omega))]) (by rw [eL23, hX]; exact tPos_pos _ _ _) (hI24) (ex25) _ _ hP hD hS ls (lv_sub hl [0, 1, 3, 4, 5, 6, 7] rfl)
                · have h80_21 := zk_nle (by omega) (by omega) h80_21
                  refine lv_iconst (v := nI 0) hx hb dX4_readRange_83 (by decide) ?_
                  exact zk_retz X hQ hx hb hr hlocks hS hP hD (Nat.le_of_ble_eq_true rfl) (Nat.le_of_ble_eq_true rfl) dX4_readRange_84 (rfl) (by rw [hq2, tRange, if_neg h17_10, if_neg hno, if_pos (Or.inr h80_21)]; exact ⟨rfl, hX⟩)
            · have h45_13 := zk_l2 h45_13
              refine lv_iconst (v := nI 0) hx hb dX4_readRange_48 (by decide) ?_
              exact zk_retz X hQ hx hb hr hlocks hS hP hD (Nat.le_of_ble_eq_true rfl) (Nat.le_of_ble_eq_true rfl) dX4_readRange_49 (rfl) (by rw [hq2, tRange, if_neg h17_10, if_pos (Or.inr (by rw [← ex12]; exact h45_13))]; exact ⟨rfl, hX⟩)
        · have h17_10 := zk_b1 h17_10
          refine lv_iconst (v := nI 0) hx hb dX4_readRange_20 (by decide) ?_
          exact zk_retz X hQ hx hb hr hlocks hS hP hD (Nat.le_of_ble_eq_true rfl) (Nat.le_of_ble_eq_true rfl) dX4_readRange_21 (rfl) (by rw [hq2, tRange, if_pos h17_10]; exact ⟨rfl, hX⟩)
  exact lp2 _ dg 0 po x1 T (Nat.lt_succ_self _) (Nat.le_refl _) (by rcases (show dg = 1 ∨ dg = 2 ∨ dg = 3 ∨ dg = 4 by omega) with rfl | rfl | rfl | rfl <;> decide) (rfl) ((tPos_self hI).symm) (hI) (ex1) _ _ hP hD hS ls (lv_sub hl [0, 1, 2, 3, 4, 5, 6] rfl)
