abbrev rmX4_lowestWith : Room := { frames := 0, cells := 0, slots := 0, locals := 0 }
set_option maxHeartbeats 4000000 in
set_option maxRecDepth 100000 in
/-- the lowest number with these digits ahead -/
theorem c_X4_lowestWith (l : Launch) (G : zk_G) (b k : Nat) (hk : k < 10) : zk_I (S := Unit) l yX4_lowestWith wsX4_lowestWith rmX4_lowestWith G [.int (nI b), .int (nI k)] ([]) (fun r _ => r = nI (b * 10 ^ k)) (fun _ => []) := by
  refine zk_bodyI (cc := cX4_lowestWith) (maxL := 4) (ret := (some .int)) (by decide) rfl (Nat.le_of_ble_eq_true rfl) ?_
  intro p E0 s m args below meth cd A ls Q hF hQ
  obtain ⟨hx, hb, hml, hr, hts, hown, hlocks, -, hE, hP, hD, hS, hA, hA0, hl⟩ := hF
  have hK := hE.1
  have hl : lv_has ls 4 [(0, .int (nI b)), (1, .int (nI k))] := hl
  refine lv_iload_n hx hb dX4_lowestWith_0 rfl (lv_at hl 0 rfl) ?_
  refine lv_istore_n (lv' := [(2, .int (nI b)), (0, .int (nI b)), (1, .int (nI k))]) hx hb dX4_lowestWith_1 rfl hl (by decide) rfl (fun ls hl => ?_)
  refine lv_iconst (v := nI 0) hx hb dX4_lowestWith_2 (by decide) ?_
  refine lv_istore_n (lv' := [(3, .int (nI 0)), (2, .int (nI b)), (0, .int (nI b)), (1, .int (nI k))]) hx hb dX4_lowestWith_3 rfl hl (by decide) rfl (fun ls hl => ?_)
  have lp1 : ∀ (n3 : Nat) (i : Nat) (y : Nat), k - i < n3 → (i ≤ k) → (y = b * 10 ^ i) → ∀ (ls : Array Slot), lv_has ls 4 [(3, .int (nI i)), (2, .int (nI y)), (0, .int (nI b)), (1, .int (nI k))] → W p l E0 rmX4_lowestWith s m args below meth cd s.heap [] 0 0 Q (F0 m 4 ls []) := by
    intro n3
    induction n3 with
    | zero => intro i y hz; exact absurd hz (Nat.not_lt_zero _)
    | succ n3 ih2 =>
      intro i y hm hi hq ls hl
      refine lv_iload_n hx hb dX4_lowestWith_4 rfl (lv_at hl 0 rfl) ?_
      refine lv_iload_n hx hb dX4_lowestWith_5 rfl (lv_at hl 3 rfl) ?_
      refine lv_icmp_ge (tgt := 20) hx hb dX4_lowestWith_6 (by decide) (fun h6_3 => ?_) (fun h6_3 => ?_)
      · have h6_3 := zk_le (by omega) (by omega) h6_3
        refine lv_iload_n hx hb dX4_lowestWith_20 rfl (lv_at hl 1 rfl) ?_
        exact zk_reti () hQ hx hb hr hlocks hS hP hD (Nat.le_of_ble_eq_true rfl) (Nat.le_of_ble_eq_true rfl) dX4_lowestWith_21 (by rw [hq, show i = k by omega])
      · have h6_3 := zk_nle (by omega) (by omega) h6_3
        refine lv_bipush (v := nI 10) hx hb dX4_lowestWith_9 (by decide) ?_
        refine lv_iload_n hx hb dX4_lowestWith_11 rfl (lv_at hl 1 rfl) ?_
        refine zk_imulN hx hb dX4_lowestWith_12 ?_
        refine lv_istore_n (lv' := [(2, .int (nI (10 * y))), (3, .int (nI i)), (0, .int (nI b)), (1, .int (nI k))]) hx hb dX4_lowestWith_13 rfl hl (by decide) rfl (fun ls hl => ?_)
        refine lv_iinc (v := nI (i + 1)) (lv' := [(3, .int (nI (i + 1))), (2, .int (nI (10 * y))), (0, .int (nI b)), (1, .int (nI k))]) hx hb dX4_lowestWith_14 hl (k := 1) rfl (zk_inc i 1) (by decide) rfl (fun ls hl => ?_)
        refine lv_goto (tgt := 4) hx hb dX4_lowestWith_17 (by decide) ?_
        exact ih2 (i + 1) (10 * y) (by omega) (by omega) (by rw [hq, Nat.pow_succ]; exact (Nat.mul_left_comm _ _ _).trans (by rw [Nat.mul_comm 10])) ls (lv_sub hl [0, 1, 2, 3] rfl)
  exact lp1 _ 0 b (Nat.lt_succ_self _) (by omega) ((Nat.mul_one b).symm) ls (lv_sub hl [0, 1, 2, 3] rfl)

abbrev rmX4_highestWith : Room := { frames := 0, cells := 0, slots := 0, locals := 0 }
set_option maxHeartbeats 4000000 in
set_option maxRecDepth 100000 in
/-- the highest number with these digits ahead -/
theorem c_X4_highestWith (l : Launch) (G : zk_G) (b k : Nat) (hk : k < 10) : zk_I (S := Unit) l yX4_highestWith wsX4_highestWith rmX4_highestWith G [.int (nI b), .int (nI k)] ([]) (fun r _ => r = nI ((b + 1) * 10 ^ k - 1)) (fun _ => []) := by
  refine zk_bodyI (cc := cX4_highestWith) (maxL := 4) (ret := (some .int)) (by decide) rfl (Nat.le_of_ble_eq_true rfl) ?_
  intro p E0 s m args below meth cd A ls Q hF hQ
  obtain ⟨hx, hb, hml, hr, hts, hown, hlocks, -, hE, hP, hD, hS, hA, hA0, hl⟩ := hF
  have hK := hE.1
  have hl : lv_has ls 4 [(0, .int (nI b)), (1, .int (nI k))] := hl
  refine lv_iload_n hx hb dX4_highestWith_0 rfl (lv_at hl 0 rfl) ?_
  refine lv_istore_n (lv' := [(2, .int (nI b)), (0, .int (nI b)), (1, .int (nI k))]) hx hb dX4_highestWith_1 rfl hl (by decide) rfl (fun ls hl => ?_)
  refine lv_iconst (v := nI 0) hx hb dX4_highestWith_2 (by decide) ?_
  refine lv_istore_n (lv' := [(3, .int (nI 0)), (2, .int (nI b)), (0, .int (nI b)), (1, .int (nI k))]) hx hb dX4_highestWith_3 rfl hl (by decide) rfl (fun ls hl => ?_)
  have lp1 : ∀ (n3 : Nat) (i : Nat) (y : Nat), k - i < n3 → (i ≤ k) → (y + 1 = (b + 1) * 10 ^ i) → ∀ (ls : Array Slot), lv_has ls 4 [(3, .int (nI i)), (2, .int (nI y)), (0, .int (nI b)), (1, .int (nI k))] → W p l E0 rmX4_highestWith s m args below meth cd s.heap [] 0 0 Q (F0 m 4 ls []) := by
    intro n3
    induction n3 with
    | zero => intro i y hz; exact absurd hz (Nat.not_lt_zero _)
    | succ n3 ih2 =>
      intro i y hm hi hq ls hl
      refine lv_iload_n hx hb dX4_highestWith_4 rfl (lv_at hl 0 rfl) ?_
      refine lv_iload_n hx hb dX4_highestWith_5 rfl (lv_at hl 3 rfl) ?_
      refine lv_icmp_ge (tgt := 23) hx hb dX4_highestWith_6 (by decide) (fun h6_3 => ?_) (fun h6_3 => ?_)
      · have h6_3 := zk_le (by omega) (by omega) h6_3
        refine lv_iload_n hx hb dX4_highestWith_23 rfl (lv_at hl 1 rfl) ?_
        exact zk_reti () hQ hx hb hr hlocks hS hP hD (Nat.le_of_ble_eq_true rfl) (Nat.le_of_ble_eq_true rfl) dX4_highestWith_24 (by rw [show i = k by omega] at hq; rw [← hq]; rfl)
      · have h6_3 := zk_nle (by omega) (by omega) h6_3
        refine lv_bipush (v := nI 10) hx hb dX4_highestWith_9 (by decide) ?_
        refine lv_iload_n hx hb dX4_highestWith_11 rfl (lv_at hl 1 rfl) ?_
        refine zk_imulN hx hb dX4_highestWith_12 ?_
        refine lv_bipush (v := nI 9) hx hb dX4_highestWith_13 (by decide) ?_
        refine zk_iaddN hx hb dX4_highestWith_15 ?_
        refine lv_istore_n (lv' := [(2, .int (nI ((10 * y) + 9))), (3, .int (nI i)), (0, .int (nI b)), (1, .int (nI k))]) hx hb dX4_highestWith_16 rfl hl (by decide) rfl (fun ls hl => ?_)
        refine lv_iinc (v := nI (i + 1)) (lv' := [(3, .int (nI (i + 1))), (2, .int (nI ((10 * y) + 9))), (0, .int (nI b)), (1, .int (nI k))]) hx hb dX4_highestWith_17 hl (k := 1) rfl (zk_inc i 1) (by decide) rfl (fun ls hl => ?_)
        refine lv_goto (tgt := 4) hx hb dX4_highestWith_20 (by decide) ?_
        exact ih2 (i + 1) ((10 * y) + 9) (by omega) (by omega) (by rw [Nat.pow_succ, ← Nat.mul_assoc, ← hq]; omega) ls (lv_sub hl [0, 1, 2, 3] rfl)
  exact lp1 _ 0 b (Nat.lt_succ_self _) (by omega) ((Nat.mul_one (b + 1)).symm) ls (lv_sub hl [0, 1, 2, 3] rfl)

abbrev rmX4_isAtEnd : Room := { frames := 0, cells := 0, slots := 0, locals := 0 }
set_option maxHeartbeats 4000000 in
set_option maxRecDepth 100000 in
/-- is the reader at the end -/
theorem c_X4_isAtEnd (l : Launch) (G : zk_G) (x : Nat → Nat) (T : zL) (n p : Nat) (hI : tInv T n p)  : zk_I (S := Unit) l yX4_isAtEnd wsX4_isAtEnd rmX4_isAtEnd G [.ref (x 1)] (zb_T G x T) (fun r _ => r = if ¬ p < n then nI 1 else nI 0) (fun _ => zb_T G x T) := by
  refine zk_bodyI (cc := cX4_isAtEnd) (maxL := 1) (ret := (some .boolean)) (by decide) rfl (Nat.le_of_ble_eq_true rfl) ?_
  intro p E0 s m args below meth cd A ls Q hF hQ
  obtain ⟨hx, hb, hml, hr, hts, hown, hlocks, -, hE, hP, hD, hS, hA, hA0, hl⟩ := hF
  have hK := hE.1
  have hl : lv_has ls 1 [(0, .ref (x 1))] := hl
  obtain ⟨hn, hn120, hp, hp120, hch⟩ := id hI
  have w1 := hts _ (List.mem_of_getElem? (l := wsX4_isAtEnd) (i := 1) (a := Cond.fieldLink RX4 33 "MealAccounts$Text" "position" "I") rfl)
  have w2 := hts _ (List.mem_of_getElem? (l := wsX4_isAtEnd) (i := 2) (a := Cond.fieldLink RX4 19 "MealAccounts$Text" "length" "I") rfl)
  refine lv_aload_n hx hb dX4_isAtEnd_0 rfl (lv_at hl 0 rfl) ?_
  refine va_get (D := G.1) (ci := 3) (v := .int (T 0 1)) (C := RX4) (T := TX4) (N := 5) hx hb hts (fun _ h => List.mem_cons_of_mem _ (List.mem_append_right _ h)) hown hK hP 0 rfl rfl 2 (by decide) w1 (fun _ h9 => h9) rfl dX4_isAtEnd_1 ?_
  refine zk_top hI.2.2.1 ?_
  refine lv_aload_n hx hb dX4_isAtEnd_4 rfl (lv_at hl 0 rfl) ?_
  refine va_get (D := G.1) (ci := 3) (v := .int (T 0 0)) (C := RX4) (T := TX4) (N := 5) hx hb hts (fun _ h => List.mem_cons_of_mem _ (List.mem_append_right _ h)) hown hK hP 0 rfl rfl 1 (by decide) w2 (fun _ h9 => h9) rfl dX4_isAtEnd_5 ?_
  refine zk_top hI.1 ?_
  refine lv_icmp_lt (tgt := 15) hx hb dX4_isAtEnd_8 (by decide) (fun h8_0 => ?_) (fun h8_0 => ?_)
  · have h8_0 := zk_lt (by omega) (by omega) h8_0
    refine lv_iconst (v := nI 0) hx hb dX4_isAtEnd_15 (by decide) ?_
    exact zk_retz () hQ hx hb hr hlocks hS hP hD (Nat.le_of_ble_eq_true rfl) (Nat.le_of_ble_eq_true rfl) dX4_isAtEnd_16 (rfl) (by simp +decide [zk_a0, h8_0])
  · have h8_0 := zk_nlt (by omega) (by omega) h8_0
    refine lv_iconst (v := nI 1) hx hb dX4_isAtEnd_11 (by decide) ?_
    refine lv_goto (tgt := 16) hx hb dX4_isAtEnd_12 (by decide) ?_
    exact zk_retz () hQ hx hb hr hlocks hS hP hD (Nat.le_of_ble_eq_true rfl) (Nat.le_of_ble_eq_true rfl) dX4_isAtEnd_16 (rfl) (by simp +decide [zk_a0, h8_0])
