abbrev rmX5_isFamily : Room := { frames := 0, cells := 0, slots := 0, locals := 0 }
set_option maxHeartbeats 4000000 in
set_option maxRecDepth 100000 in
/-- is there such a family -/
theorem c_X5_isFamily (l : Launch) (G : zk_G) (f : Int32) : zk_I (S := Unit) l yX5_isFamily wsX5_isFamily rmX5_isFamily G [.int f] ([]) (fun r _ => r = if sFam f then nI 1 else nI 0) (fun _ => []) := by
  refine zk_bodyI (cc := cX5_isFamily) (maxL := 1) (ret := (some .boolean)) (by decide) rfl (Nat.le_of_ble_eq_true rfl) ?_
  intro p E0 s m args below meth cd A ls Q hF hQ
  obtain ⟨hx, hb, hml, hr, hts, hown, hlocks, -, hE, hP, hD, hS, hA, hA0, hl⟩ := hF
  have hK := hE.1
  have hl : lv_has ls 1 [(0, .int f)] := hl
  refine lv_iload_n hx hb dX5_isFamily_0 rfl (lv_at hl 0 rfl) ?_
  refine lv_if_lt (tgt := 13) hx hb dX5_isFamily_1 (by decide) (fun h1_0 => ?_) (fun h1_0 => ?_)
  · refine lv_iconst (v := nI 0) hx hb dX5_isFamily_13 (by decide) ?_
    exact zk_retz () hQ hx hb hr hlocks hS hP hD (Nat.le_of_ble_eq_true rfl) (Nat.le_of_ble_eq_true rfl) dX5_isFamily_14 (rfl) (by simp +decide [zk_a0, h1_0])
  · refine lv_iload_n hx hb dX5_isFamily_4 rfl (lv_at hl 0 rfl) ?_
    refine lv_iconst (v := nI 5) hx hb dX5_isFamily_5 (by decide) ?_
    refine lv_icmp_ge (tgt := 13) hx hb dX5_isFamily_6 (by decide) (fun h6_1 => ?_) (fun h6_1 => ?_)
    · have h6_1 := zk_l1 h6_1
      refine lv_iconst (v := nI 0) hx hb dX5_isFamily_13 (by decide) ?_
      exact zk_retz () hQ hx hb hr hlocks hS hP hD (Nat.le_of_ble_eq_true rfl) (Nat.le_of_ble_eq_true rfl) dX5_isFamily_14 (rfl) (by simp +decide [zk_a0, h1_0, h6_1])
    · have h6_1 := zk_l2 h6_1
      refine lv_iconst (v := nI 1) hx hb dX5_isFamily_9 (by decide) ?_
      refine lv_goto (tgt := 14) hx hb dX5_isFamily_10 (by decide) ?_
      exact zk_retz () hQ hx hb hr hlocks hS hP hD (Nat.le_of_ble_eq_true rfl) (Nat.le_of_ble_eq_true rfl) dX5_isFamily_14 (rfl) (by simp +decide [zk_a0, h1_0, h6_1])

abbrev rmX5_isDay : Room := { frames := 0, cells := 0, slots := 0, locals := 0 }
set_option maxHeartbeats 4000000 in
set_option maxRecDepth 100000 in
/-- is there such a day -/
theorem c_X5_isDay (l : Launch) (G : zk_G) (d : Int32) : zk_I (S := Unit) l yX5_isDay wsX5_isDay rmX5_isDay G [.int d] ([]) (fun r _ => r = if sDay d then nI 1 else nI 0) (fun _ => []) := by
  refine zk_bodyI (cc := cX5_isDay) (maxL := 1) (ret := (some .boolean)) (by decide) rfl (Nat.le_of_ble_eq_true rfl) ?_
  intro p E0 s m args below meth cd A ls Q hF hQ
  obtain ⟨hx, hb, hml, hr, hts, hown, hlocks, -, hE, hP, hD, hS, hA, hA0, hl⟩ := hF
  have hK := hE.1
  have hl : lv_has ls 1 [(0, .int d)] := hl
  refine lv_iload_n hx hb dX5_isDay_0 rfl (lv_at hl 0 rfl) ?_
  refine lv_if_lt (tgt := 14) hx hb dX5_isDay_1 (by decide) (fun h1_0 => ?_) (fun h1_0 => ?_)
  · refine lv_iconst (v := nI 0) hx hb dX5_isDay_14 (by decide) ?_
    exact zk_retz () hQ hx hb hr hlocks hS hP hD (Nat.le_of_ble_eq_true rfl) (Nat.le_of_ble_eq_true rfl) dX5_isDay_15 (rfl) (by simp +decide [zk_a0, h1_0])
  · refine lv_iload_n hx hb dX5_isDay_4 rfl (lv_at hl 0 rfl) ?_
    refine lv_bipush (v := nI 40) hx hb dX5_isDay_5 (by decide) ?_
    refine lv_icmp_ge (tgt := 14) hx hb dX5_isDay_7 (by decide) (fun h7_1 => ?_) (fun h7_1 => ?_)
    · have h7_1 := zk_l1 h7_1
      refine lv_iconst (v := nI 0) hx hb dX5_isDay_14 (by decide) ?_
      exact zk_retz () hQ hx hb hr hlocks hS hP hD (Nat.le_of_ble_eq_true rfl) (Nat.le_of_ble_eq_true rfl) dX5_isDay_15 (rfl) (by simp +decide [zk_a0, h1_0, h7_1])
    · have h7_1 := zk_l2 h7_1
      refine lv_iconst (v := nI 1) hx hb dX5_isDay_10 (by decide) ?_
      refine lv_goto (tgt := 15) hx hb dX5_isDay_11 (by decide) ?_
      exact zk_retz () hQ hx hb hr hlocks hS hP hD (Nat.le_of_ble_eq_true rfl) (Nat.le_of_ble_eq_true rfl) dX5_isDay_15 (rfl) (by simp +decide [zk_a0, h1_0, h7_1])

abbrev rmX2_hasChild : Room := { frames := 0, cells := 0, slots := 0, locals := 0 }
set_option maxHeartbeats 4000000 in
set_option maxRecDepth 100000 in
/-- is there such a child -/
theorem c_X2_hasChild (l : Launch) (G : zk_G) (ad : Nat → Nat) (L : zL) (n t : Nat) (hI : sInv L n t) (c : Int32) : zk_I (S := Unit) l yX2_hasChild wsX2_hasChild rmX2_hasChild G [.ref (ad 0), .int c] (zb_L G ad L ++ zb_M G ad L) (fun r _ => r = if sHas L c then nI 1 else nI 0) (fun _ => zb_L G ad L ++ zb_M G ad L) := by
  refine zk_bodyI (cc := cX2_hasChild) (maxL := 2) (ret := (some .boolean)) (by decide) rfl (Nat.le_of_ble_eq_true rfl) ?_
  intro p E0 s m args below meth cd A ls Q hF hQ
  obtain ⟨hx, hb, hml, hr, hts, hown, hlocks, -, hE, hP, hD, hS, hA, hA0, hl⟩ := hF
  have hK := hE.1
  have hl : lv_has ls 2 [(0, .ref (ad 0)), (1, .int c)] := hl
  obtain ⟨hn, hn12, ht, ht40, hfam, hpay⟩ := id hI
  have w1 := hts _ (List.mem_of_getElem? (l := wsX2_hasChild) (i := 1) (a := Cond.fieldLink RX2 53 "MealAccounts$Ledger" "children" "I") rfl)
  refine lv_iload_n hx hb dX2_hasChild_0 rfl (lv_at hl 1 rfl) ?_
  refine lv_if_lt (tgt := 16) hx hb dX2_hasChild_1 (by decide) (fun h1_0 => ?_) (fun h1_0 => ?_)
  · refine lv_iconst (v := nI 0) hx hb dX2_hasChild_16 (by decide) ?_
    exact zk_retz () hQ hx hb hr hlocks hS hP hD (Nat.le_of_ble_eq_true rfl) (Nat.le_of_ble_eq_true rfl) dX2_hasChild_17 (rfl) (by simp +decide [zk_a0, h1_0])
  · refine lv_iload_n hx hb dX2_hasChild_4 rfl (lv_at hl 1 rfl) ?_
    refine lv_aload_n hx hb dX2_hasChild_5 rfl (lv_at hl 0 rfl) ?_
    refine va_get (D := G.1) (ci := 1) (v := .int (L 0 1)) (C := RX2) (T := TX2) (N := 14) hx hb hts (fun _ h => List.mem_cons_of_mem _ (List.mem_append_right _ h)) hown hK hP 0 rfl rfl 1 (by decide) w1 (fun _ h9 => h9) rfl dX2_hasChild_6 ?_
    refine lv_icmp_ge (tgt := 16) hx hb dX2_hasChild_9 (by decide) (fun h9_1 => ?_) (fun h9_1 => ?_)
    · have h9_1 := zk_l1 h9_1
      refine lv_iconst (v := nI 0) hx hb dX2_hasChild_16 (by decide) ?_
      exact zk_retz () hQ hx hb hr hlocks hS hP hD (Nat.le_of_ble_eq_true rfl) (Nat.le_of_ble_eq_true rfl) dX2_hasChild_17 (rfl) (by simp +decide [zk_a0, h1_0, h9_1])
    · have h9_1 := zk_l2 h9_1
      refine lv_iconst (v := nI 1) hx hb dX2_hasChild_12 (by decide) ?_
      refine lv_goto (tgt := 17) hx hb dX2_hasChild_13 (by decide) ?_
      exact zk_retz () hQ hx hb hr hlocks hS hP hD (Nat.le_of_ble_eq_true rfl) (Nat.le_of_ble_eq_true rfl) dX2_hasChild_17 (rfl) (by simp +decide [zk_a0, h1_0, h9_1])

abbrev rmX2_daysLeft : Room := { frames := 0, cells := 0, slots := 0, locals := 0 }
set_option maxHeartbeats 4000000 in
set_option maxRecDepth 100000 in
/-- the days that are left -/
theorem c_X2_daysLeft (l : Launch) (G : zk_G) (ad : Nat → Nat) (L : zL) (n t : Nat) (hI : sInv L n t)  : zk_I (S := Unit) l yX2_daysLeft wsX2_daysLeft rmX2_daysLeft G [.ref (ad 0)] (zb_L G ad L ++ zb_M G ad L) (fun r _ => r = nI (40 - t)) (fun _ => zb_L G ad L ++ zb_M G ad L) := by
  refine zk_bodyI (cc := cX2_daysLeft) (maxL := 1) (ret := (some .int)) (by decide) rfl (Nat.le_of_ble_eq_true rfl) ?_
  intro p E0 s m args below meth cd A ls Q hF hQ
  obtain ⟨hx, hb, hml, hr, hts, hown, hlocks, -, hE, hP, hD, hS, hA, hA0, hl⟩ := hF
  have hK := hE.1
  have hl : lv_has ls 1 [(0, .ref (ad 0))] := hl
  obtain ⟨hn, hn12, ht, ht40, hfam, hpay⟩ := id hI
  have w1 := hts _ (List.mem_of_getElem? (l := wsX2_daysLeft) (i := 1) (a := Cond.fieldLink RX2 50 "MealAccounts$Ledger" "today" "I") rfl)
  refine lv_bipush (v := nI 40) hx hb dX2_daysLeft_0 (by decide) ?_
  refine lv_aload_n hx hb dX2_daysLeft_2 rfl (lv_at hl 0 rfl) ?_
  refine va_get (D := G.1) (ci := 1) (v := .int (L 0 0)) (C := RX2) (T := TX2) (N := 14) hx hb hts (fun _ h => List.mem_cons_of_mem _ (List.mem_append_right _ h)) hown hK hP 0 rfl rfl 0 (by decide) w1 (fun _ h9 => h9) rfl dX2_daysLeft_3 ?_
  refine zk_top hI.2.2.1 ?_
  refine zk_isubN hx hb dX2_daysLeft_6 (by omega) ?_
  exact zk_reti () hQ hx hb hr hlocks hS hP hD (Nat.le_of_ble_eq_true rfl) (Nat.le_of_ble_eq_true rfl) dX2_daysLeft_7 (rfl)

abbrev rmX2_childrenOf : Room := { frames := 0, cells := 0, slots := 0, locals := 0 }
set_option maxHeartbeats 4000000 in
set_option maxRecDepth 100000 in
/-- the children of a family -/
theorem c_X2_childrenOf (l : Launch) (G : zk_G) (ad : Nat → Nat) (L : zL) (n t : Nat) (hI : sInv L n t) (f : Int32) : zk_I (S := Unit) l yX2_childrenOf wsX2_childrenOf rmX2_childrenOf G [.ref (ad 0), .int f] (zb_L G ad L ++ zb_M G ad L) (fun r _ => r = zs (fun i => if L 1 i = f then nI 1 else nI 0) n) (fun _ => zb_L G ad L ++ zb_M G ad L) := by
  refine zk_bodyI (cc := cX2_childrenOf) (maxL := 4) (ret := (some .int)) (by decide) rfl (Nat.le_of_ble_eq_true rfl) ?_
  intro p E0 s m args below meth cd A ls Q hF hQ
  obtain ⟨hx, hb, hml, hr, hts, hown, hlocks, -, hE, hP, hD, hS, hA, hA0, hl⟩ := hF
  have hK := hE.1
  have hl : lv_has ls 4 [(0, .ref (ad 0)), (1, .int f)] := hl
  obtain ⟨hn, hn12, ht, ht40, hfam, hpay⟩ := id hI
  have w1 := hts _ (List.mem_of_getElem? (l := wsX2_childrenOf) (i := 1) (a := Cond.fieldLink RX2 53 "MealAccounts$Ledger" "children" "I") rfl)
  have w2 := hts _ (List.mem_of_getElem? (l := wsX2_childrenOf) (i := 2) (a := Cond.fieldLink RX2 9 "MealAccounts$Ledger" "familyOf" "[I") rfl)
  refine lv_iconst (v := nI 0) hx hb dX2_childrenOf_0 (by decide) ?_
  refine lv_istore_n (lv' := [(2, .int (nI 0)), (0, .ref (ad 0)), (1, .int f)]) hx hb dX2_childrenOf_1 rfl hl (by decide) rfl (fun ls hl => ?_)
  refine lv_iconst (v := nI 0) hx hb dX2_childrenOf_2 (by decide) ?_
  refine lv_istore_n (lv' := [(3, .int (nI 0)), (2, .int (nI 0)), (0, .ref (ad 0)), (1, .int f)]) hx hb dX2_childrenOf_3 rfl hl (by decide) rfl (fun ls hl => ?_)
  have lp1 : ∀ (n3 : Nat) (i : Nat) (x : Int32), n - i < n3 → (i ≤ n) → (x = zs (fun i => if L 1 i = f then nI 1 else nI 0) i) → ∀ (ls : Array Slot), lv_has ls 4 [(3, .int (nI i)), (2, .int x), (0, .ref (ad 0)), (1, .int f)] → W p l E0 rmX2_childrenOf s m args below meth cd s.heap [] 0 0 Q (F0 m 4 ls []) := by
    intro n3
    induction n3 with
    | zero => intro i x hz; exact absurd hz (Nat.not_lt_zero _)
    | succ n3 ih2 =>
      intro i x hm hi hq ls hl
      refine lv_iload_n hx hb dX2_childrenOf_4 rfl (lv_at hl 0 rfl) ?_
      refine lv_aload_n hx hb dX2_childrenOf_5 rfl (lv_at hl 2 rfl) ?_
      refine va_get (D := G.1) (ci := 1) (v := .int (L 0 1)) (C := RX2) (T := TX2) (N := 14) hx hb hts (fun _ h => List.mem_cons_of_mem _ (List.mem_append_right _ h)) hown hK hP 0 rfl rfl 1 (by decide) w1 (fun _ h9 => h9) rfl dX2_childrenOf_6 ?_
      refine zk_top hI.1 ?_
      refine lv_icmp_ge (tgt := 31) hx hb dX2_childrenOf_9 (by decide) (fun h9_3 => ?_) (fun h9_3 => ?_)
      · have h9_3 := zk_le (by omega) (by omega) h9_3
        refine lv_iload_n hx hb dX2_childrenOf_31 rfl (lv_at hl 1 rfl) ?_
        exact zk_reti () hQ hx hb hr hlocks hS hP hD (Nat.le_of_ble_eq_true rfl) (Nat.le_of_ble_eq_true rfl) dX2_childrenOf_32 (by rw [hq, show i = n by omega])
      · have h9_3 := zk_nle (by omega) (by omega) h9_3
        refine lv_aload_n hx hb dX2_childrenOf_12 rfl (lv_at hl 2 rfl) ?_
        refine va_get (D := G.1) (ci := 1) (v := .ref (ad 1)) (C := RX2) (T := TX2) (N := 14) hx hb hts (fun _ h => List.mem_cons_of_mem _ (List.mem_append_right _ h)) hown hK hP 0 rfl rfl 5 (by decide) w2 (fun _ h9 => h9) rfl dX2_childrenOf_13 ?_
        refine lv_iload_n hx hb dX2_childrenOf_16 rfl (lv_at hl 0 rfl) ?_
        refine zk_ialdN hx hb hK hP 1 0 rfl rfl (k := i) (n := 12) (by omega) (by omega) dX2_childrenOf_17 ?_
        refine lv_iload_n hx hb dX2_childrenOf_18 rfl (lv_at hl 3 rfl) ?_
        refine lv_icmp_ne (tgt := 25) hx hb dX2_childrenOf_19 (by decide) (fun h19_4 => ?_) (fun h19_4 => ?_)
        · refine lv_iinc (v := nI (i + 1)) (lv' := [(3, .int (nI (i + 1))), (2, .int x), (0, .ref (ad 0)), (1, .int f)]) hx hb dX2_childrenOf_25 hl (k := 0) rfl (zk_inc i 1) (by decide) rfl (fun ls hl => ?_)
          refine lv_goto (tgt := 4) hx hb dX2_childrenOf_28 (by decide) ?_
          exact ih2 (i + 1) x (by omega) (by omega) (by refine zs_i hq ?_; simp +decide [zk_a0, h9_3, h19_4]) ls (lv_sub hl [0, 1, 2, 3] rfl)
        · obtain ⟨x6, ex6⟩ : ∃ z : Int32, z = x + nI 1 := ⟨_, rfl⟩
          refine lv_iinc (v := x6) (lv' := [(2, .int x6), (3, .int (nI i)), (0, .ref (ad 0)), (1, .int f)]) hx hb dX2_childrenOf_22 hl (k := 1) rfl (by rw [ex6]; rfl) (by decide) rfl (fun ls hl => ?_)
          refine lv_iinc (v := nI (i + 1)) (lv' := [(3, .int (nI (i + 1))), (2, .int x6), (0, .ref (ad 0)), (1, .int f)]) hx hb dX2_childrenOf_25 hl (k := 1) rfl (zk_inc i 1) (by decide) rfl (fun ls hl => ?_)
          refine lv_goto (tgt := 4) hx hb dX2_childrenOf_28 (by decide) ?_
          exact ih2 (i + 1) x6 (by omega) (by omega) (by refine zs_i hq ?_; simp +decide [zk_a0, h9_3, h19_4, ex6]) ls (lv_sub hl [0, 1, 2, 3] rfl)
  exact lp1 _ 0 (nI 0) (Nat.lt_succ_self _) (by omega) (rfl) ls (lv_sub hl [0, 1, 2, 3] rfl)

abbrev rmX2_sumOfBalances : Room := { frames := 0, cells := 0, slots := 0, locals := 0 }
set_option maxHeartbeats 4000000 in
set_option maxRecDepth 100000 in
/-- the sum of the balances -/
theorem c_X2_sumOfBalances (l : Launch) (G : zk_G) (ad : Nat → Nat) (L : zL) (n t : Nat) (hI : sInv L n t)  : zk_I (S := Unit) l yX2_sumOfBalances wsX2_sumOfBalances rmX2_sumOfBalances G [.ref (ad 0)] (zb_L G ad L ++ zb_M G ad L) (fun r _ => r = zs (L 3) n) (fun _ => zb_L G ad L ++ zb_M G ad L) := by
  refine zk_bodyI (cc := cX2_sumOfBalances) (maxL := 3) (ret := (some .int)) (by decide) rfl (Nat.le_of_ble_eq_true rfl) ?_
  intro p E0 s m args below meth cd A ls Q hF hQ
  obtain ⟨hx, hb, hml, hr, hts, hown, hlocks, -, hE, hP, hD, hS, hA, hA0, hl⟩ := hF
  have hK := hE.1
  have hl : lv_has ls 3 [(0, .ref (ad 0))] := hl
  obtain ⟨hn, hn12, ht, ht40, hfam, hpay⟩ := id hI
  have w1 := hts _ (List.mem_of_getElem? (l := wsX2_sumOfBalances) (i := 1) (a := Cond.fieldLink RX2 53 "MealAccounts$Ledger" "children" "I") rfl)
  have w2 := hts _ (List.mem_of_getElem? (l := wsX2_sumOfBalances) (i := 2) (a := Cond.fieldLink RX2 18 "MealAccounts$Ledger" "balanceOf" "[I") rfl)
  refine lv_iconst (v := nI 0) hx hb dX2_sumOfBalances_0 (by decide) ?_
  refine lv_istore_n (lv' := [(1, .int (nI 0)), (0, .ref (ad 0))]) hx hb dX2_sumOfBalances_1 rfl hl (by decide) rfl (fun ls hl => ?_)
  refine lv_iconst (v := nI 0) hx hb dX2_sumOfBalances_2 (by decide) ?_
  refine lv_istore_n (lv' := [(2, .int (nI 0)), (1, .int (nI 0)), (0, .ref (ad 0))]) hx hb dX2_sumOfBalances_3 rfl hl (by decide) rfl (fun ls hl => ?_)
  have lp1 : ∀ (n3 : Nat) (i : Nat) (x : Int32), n - i < n3 → (i ≤ n) → (x = zs (L 3) i) → ∀ (ls : Array Slot), lv_has ls 3 [(2, .int (nI i)), (1, .int x), (0, .ref (ad 0))] → W p l E0 rmX2_sumOfBalances s m args below meth cd s.heap [] 0 0 Q (F0 m 4 ls []) := by
    intro n3
    induction n3 with
    | zero => intro i x hz; exact absurd hz (Nat.not_lt_zero _)
    | succ n3 ih2 =>
      intro i x hm hi hq ls hl
      refine lv_iload_n hx hb dX2_sumOfBalances_4 rfl (lv_at hl 0 rfl) ?_
      refine lv_aload_n hx hb dX2_sumOfBalances_5 rfl (lv_at hl 2 rfl) ?_
      refine va_get (D := G.1) (ci := 1) (v := .int (L 0 1)) (C := RX2) (T := TX2) (N := 14) hx hb hts (fun _ h => List.mem_cons_of_mem _ (List.mem_append_right _ h)) hown hK hP 0 rfl rfl 1 (by decide) w1 (fun _ h9 => h9) rfl dX2_sumOfBalances_6 ?_
      refine zk_top hI.1 ?_
      refine lv_icmp_ge (tgt := 27) hx hb dX2_sumOfBalances_9 (by decide) (fun h9_3 => ?_) (fun h9_3 => ?_)
      · have h9_3 := zk_le (by omega) (by omega) h9_3
        refine lv_iload_n hx hb dX2_sumOfBalances_27 rfl (lv_at hl 1 rfl) ?_
        exact zk_reti () hQ hx hb hr hlocks hS hP hD (Nat.le_of_ble_eq_true rfl) (Nat.le_of_ble_eq_true rfl) dX2_sumOfBalances_28 (by rw [hq, show i = n by omega])
      · have h9_3 := zk_nle (by omega) (by omega) h9_3
        refine lv_iload_n hx hb dX2_sumOfBalances_12 rfl (lv_at hl 1 rfl) ?_
        refine lv_aload_n hx hb dX2_sumOfBalances_13 rfl (lv_at hl 2 rfl) ?_
        refine va_get (D := G.1) (ci := 1) (v := .ref (ad 3)) (C := RX2) (T := TX2) (N := 14) hx hb hts (fun _ h => List.mem_cons_of_mem _ (List.mem_append_right _ h)) hown hK hP 0 rfl rfl 7 (by decide) w2 (fun _ h9 => h9) rfl dX2_sumOfBalances_14 ?_
        refine lv_iload_n hx hb dX2_sumOfBalances_17 rfl (lv_at hl 0 rfl) ?_
        refine zk_ialdN hx hb hK hP 3 0 rfl rfl (k := i) (n := 12) (by omega) (by omega) dX2_sumOfBalances_18 ?_
        refine lv_iadd hx hb dX2_sumOfBalances_19 ?_
        refine lv_topi (fun x5 ex5 => ?_)
        refine lv_istore_n (lv' := [(1, .int x5), (2, .int (nI i)), (0, .ref (ad 0))]) hx hb dX2_sumOfBalances_20 rfl hl (by decide) rfl (fun ls hl => ?_)
        refine lv_iinc (v := nI (i + 1)) (lv' := [(2, .int (nI (i + 1))), (1, .int x5), (0, .ref (ad 0))]) hx hb dX2_sumOfBalances_21 hl (k := 1) rfl (zk_inc i 1) (by decide) rfl (fun ls hl => ?_)
        refine lv_goto (tgt := 4) hx hb dX2_sumOfBalances_24 (by decide) ?_
        exact ih2 (i + 1) x5 (by omega) (by omega) (by refine zs_i hq ?_; simp +decide [zk_a0, h9_3, ex5]) ls (lv_sub hl [0, 1, 2] rfl)
  exact lp1 _ 0 (nI 0) (Nat.lt_succ_self _) (by omega) (rfl) ls (lv_sub hl [0, 1, 2] rfl)

abbrev rmX2_sumOfBalancesOf : Room := { frames := 0, cells := 0, slots := 0, locals := 0 }
set_option maxHeartbeats 4000000 in
set_option maxRecDepth 100000 in
/-- the sum of a family's balances -/
theorem c_X2_sumOfBalancesOf (l : Launch) (G : zk_G) (ad : Nat → Nat) (L : zL) (n t : Nat) (hI : sInv L n t) (f : Int32) : zk_I (S := Unit) l yX2_sumOfBalancesOf wsX2_sumOfBalancesOf rmX2_sumOfBalancesOf G [.ref (ad 0), .int f] (zb_L G ad L ++ zb_M G ad L) (fun r _ => r = zs (fun i => if L 1 i = f then L 3 i else nI 0) n) (fun _ => zb_L G ad L ++ zb_M G ad L) := by
  refine zk_bodyI (cc := cX2_sumOfBalancesOf) (maxL := 4) (ret := (some .int)) (by decide) rfl (Nat.le_of_ble_eq_true rfl) ?_
  intro p E0 s m args below meth cd A ls Q hF hQ
  obtain ⟨hx, hb, hml, hr, hts, hown, hlocks, -, hE, hP, hD, hS, hA, hA0, hl⟩ := hF
  have hK := hE.1
  have hl : lv_has ls 4 [(0, .ref (ad 0)), (1, .int f)] := hl
  obtain ⟨hn, hn12, ht, ht40, hfam, hpay⟩ := id hI
  have w1 := hts _ (List.mem_of_getElem? (l := wsX2_sumOfBalancesOf) (i := 1) (a := Cond.fieldLink RX2 53 "MealAccounts$Ledger" "children" "I") rfl)
  have w2 := hts _ (List.mem_of_getElem? (l := wsX2_sumOfBalancesOf) (i := 2) (a := Cond.fieldLink RX2 9 "MealAccounts$Ledger" "familyOf" "[I") rfl)
  have w3 := hts _ (List.mem_of_getElem? (l := wsX2_sumOfBalancesOf) (i := 3) (a := Cond.fieldLink RX2 18 "MealAccounts$Ledger" "balanceOf" "[I") rfl)
  refine lv_iconst (v := nI 0) hx hb dX2_sumOfBalancesOf_0 (by decide) ?_
  refine lv_istore_n (lv' := [(2, .int (nI 0)), (0, .ref (ad 0)), (1, .int f)]) hx hb dX2_sumOfBalancesOf_1 rfl hl (by decide) rfl (fun ls hl => ?_)
  refine lv_iconst (v := nI 0) hx hb dX2_sumOfBalancesOf_2 (by decide) ?_
  refine lv_istore_n (lv' := [(3, .int (nI 0)), (2, .int (nI 0)), (0, .ref (ad 0)), (1, .int f)]) hx hb dX2_sumOfBalancesOf_3 rfl hl (by decide) rfl (fun ls hl => ?_)
  have lp1 : ∀ (n3 : Nat) (i : Nat) (x : Int32), n - i < n3 → (i ≤ n) → (x = zs (fun i => if L 1 i = f then L 3 i else nI 0) i) → ∀ (ls : Array Slot), lv_has ls 4 [(3, .int (nI i)), (2, .int x), (0, .ref (ad 0)), (1, .int f)] → W p l E0 rmX2_sumOfBalancesOf s m args below meth cd s.heap [] 0 0 Q (F0 m 4 ls []) := by
    intro n3
    induction n3 with
    | zero => intro i x hz; exact absurd hz (Nat.not_lt_zero _)
    | succ n3 ih2 =>
      intro i x hm hi hq ls hl
      refine lv_iload_n hx hb dX2_sumOfBalancesOf_4 rfl (lv_at hl 0 rfl) ?_
      refine lv_aload_n hx hb dX2_sumOfBalancesOf_5 rfl (lv_at hl 2 rfl) ?_
      refine va_get (D := G.1) (ci := 1) (v := .int (L 0 1)) (C := RX2) (T := TX2) (N := 14) hx hb hts (fun _ h => List.mem_cons_of_mem _ (List.mem_append_right _ h)) hown hK hP 0 rfl rfl 1 (by decide) w1 (fun _ h9 => h9) rfl dX2_sumOfBalancesOf_6 ?_
      refine zk_top hI.1 ?_
      refine lv_icmp_ge (tgt := 37) hx hb dX2_sumOfBalancesOf_9 (by decide) (fun h9_3 => ?_) (fun h9_3 => ?_)
      · have h9_3 := zk_le (by omega) (by omega) h9_3
        refine lv_iload_n hx hb dX2_sumOfBalancesOf_37 rfl (lv_at hl 1 rfl) ?_
        exact zk_reti () hQ hx hb hr hlocks hS hP hD (Nat.le_of_ble_eq_true rfl) (Nat.le_of_ble_eq_true rfl) dX2_sumOfBalancesOf_38 (by rw [hq, show i = n by omega])
      · have h9_3 := zk_nle (by omega) (by omega) h9_3
        refine lv_aload_n hx hb dX2_sumOfBalancesOf_12 rfl (lv_at hl 2 rfl) ?_
        refine va_get (D := G.1) (ci := 1) (v := .ref (ad 1)) (C := RX2) (T := TX2) (N := 14) hx hb hts (fun _ h => List.mem_cons_of_mem _ (List.mem_append_right _ h)) hown hK hP 0 rfl rfl 5 (by decide) w2 (fun _ h9 => h9) rfl dX2_sumOfBalancesOf_13 ?_
        refine lv_iload_n hx hb dX2_sumOfBalancesOf_16 rfl (lv_at hl 0 rfl) ?_
        refine zk_ialdN hx hb hK hP 1 0 rfl rfl (k := i) (n := 12) (by omega) (by omega) dX2_sumOfBalancesOf_17 ?_
        refine lv_iload_n hx hb dX2_sumOfBalancesOf_18 rfl (lv_at hl 3 rfl) ?_
        refine lv_icmp_ne (tgt := 31) hx hb dX2_sumOfBalancesOf_19 (by decide) (fun h19_4 => ?_) (fun h19_4 => ?_)
        · refine lv_iinc (v := nI (i + 1)) (lv' := [(3, .int (nI (i + 1))), (2, .int x), (0, .ref (ad 0)), (1, .int f)]) hx hb dX2_sumOfBalancesOf_31 hl (k := 0) rfl (zk_inc i 1) (by decide) rfl (fun ls hl => ?_)
          refine lv_goto (tgt := 4) hx hb dX2_sumOfBalancesOf_34 (by decide) ?_
          exact ih2 (i + 1) x (by omega) (by omega) (by refine zs_i hq ?_; simp +decide [zk_a0, h9_3, h19_4]) ls (lv_sub hl [0, 1, 2, 3] rfl)
        · refine lv_iload_n hx hb dX2_sumOfBalancesOf_22 rfl (lv_at hl 1 rfl) ?_
          refine lv_aload_n hx hb dX2_sumOfBalancesOf_23 rfl (lv_at hl 2 rfl) ?_
          refine va_get (D := G.1) (ci := 1) (v := .ref (ad 3)) (C := RX2) (T := TX2) (N := 14) hx hb hts (fun _ h => List.mem_cons_of_mem _ (List.mem_append_right _ h)) hown hK hP 0 rfl rfl 7 (by decide) w3 (fun _ h9 => h9) rfl dX2_sumOfBalancesOf_24 ?_
          refine lv_iload_n hx hb dX2_sumOfBalancesOf_27 rfl (lv_at hl 0 rfl) ?_
          refine zk_ialdN hx hb hK hP 3 0 rfl rfl (k := i) (n := 12) (by omega) (by omega) dX2_sumOfBalancesOf_28 ?_
          refine lv_iadd hx hb dX2_sumOfBalancesOf_29 ?_
          refine lv_topi (fun x6 ex6 => ?_)
          refine lv_istore_n (lv' := [(2, .int x6), (3, .int (nI i)), (0, .ref (ad 0)), (1, .int f)]) hx hb dX2_sumOfBalancesOf_30 rfl hl (by decide) rfl (fun ls hl => ?_)
          refine lv_iinc (v := nI (i + 1)) (lv' := [(3, .int (nI (i + 1))), (2, .int x6), (0, .ref (ad 0)), (1, .int f)]) hx hb dX2_sumOfBalancesOf_31 hl (k := 1) rfl (zk_inc i 1) (by decide) rfl (fun ls hl => ?_)
          refine lv_goto (tgt := 4) hx hb dX2_sumOfBalancesOf_34 (by decide) ?_
          exact ih2 (i + 1) x6 (by omega) (by omega) (by refine zs_i hq ?_; simp +decide [zk_a0, h9_3, h19_4, ex6]) ls (lv_sub hl [0, 1, 2, 3] rfl)
  exact lp1 _ 0 (nI 0) (Nat.lt_succ_self _) (by omega) (rfl) ls (lv_sub hl [0, 1, 2, 3] rfl)

abbrev rmX2_debtOf : Room := { frames := 0, cells := 0, slots := 0, locals := 0 }
set_option maxHeartbeats 4000000 in
set_option maxRecDepth 100000 in
/-- a family's debt -/
theorem c_X2_debtOf (l : Launch) (G : zk_G) (ad : Nat → Nat) (L : zL) (n t : Nat) (hI : sInv L n t) (f : Int32) : zk_I (S := Unit) l yX2_debtOf wsX2_debtOf rmX2_debtOf G [.ref (ad 0), .int f] (zb_L G ad L ++ zb_M G ad L) (fun r _ => r = sDebt L n f) (fun _ => zb_L G ad L ++ zb_M G ad L) := by
  refine zk_bodyI (cc := cX2_debtOf) (maxL := 4) (ret := (some .int)) (by decide) rfl (Nat.le_of_ble_eq_true rfl) ?_
  intro p E0 s m args below meth cd A ls Q hF hQ
  obtain ⟨hx, hb, hml, hr, hts, hown, hlocks, -, hE, hP, hD, hS, hA, hA0, hl⟩ := hF
  have hK := hE.1
  have hl : lv_has ls 4 [(0, .ref (ad 0)), (1, .int f)] := hl
  obtain ⟨hn, hn12, ht, ht40, hfam, hpay⟩ := id hI
  have w1 := hts _ (List.mem_of_getElem? (l := wsX2_debtOf) (i := 1) (a := Cond.fieldLink RX2 53 "MealAccounts$Ledger" "children" "I") rfl)
  have w2 := hts _ (List.mem_of_getElem? (l := wsX2_debtOf) (i := 2) (a := Cond.fieldLink RX2 9 "MealAccounts$Ledger" "familyOf" "[I") rfl)
  have w3 := hts _ (List.mem_of_getElem? (l := wsX2_debtOf) (i := 3) (a := Cond.fieldLink RX2 18 "MealAccounts$Ledger" "balanceOf" "[I") rfl)
  refine lv_iconst (v := nI 0) hx hb dX2_debtOf_0 (by decide) ?_
  refine lv_istore_n (lv' := [(2, .int (nI 0)), (0, .ref (ad 0)), (1, .int f)]) hx hb dX2_debtOf_1 rfl hl (by decide) rfl (fun ls hl => ?_)
  refine lv_iconst (v := nI 0) hx hb dX2_debtOf_2 (by decide) ?_
  refine lv_istore_n (lv' := [(3, .int (nI 0)), (2, .int (nI 0)), (0, .ref (ad 0)), (1, .int f)]) hx hb dX2_debtOf_3 rfl hl (by decide) rfl (fun ls hl => ?_)
  have lp1 : ∀ (n3 : Nat) (i : Nat) (x : Int32), n - i < n3 → (i ≤ n) → (x = zs (fun i => if L 1 i = f ∧ L 3 i < 0 then -(L 3 i) else nI 0) i) → ∀ (ls : Array Slot), lv_has ls 4 [(3, .int (nI i)), (2, .int x), (0, .ref (ad 0)), (1, .int f)] → W p l E0 rmX2_debtOf s m args below meth cd s.heap [] 0 0 Q (F0 m 4 ls []) := by
    intro n3
    induction n3 with
    | zero => intro i x hz; exact absurd hz (Nat.not_lt_zero _)
    | succ n3 ih2 =>
      intro i x hm hi hq ls hl
      refine lv_iload_n hx hb dX2_debtOf_4 rfl (lv_at hl 0 rfl) ?_
      refine lv_aload_n hx hb dX2_debtOf_5 rfl (lv_at hl 2 rfl) ?_
      refine va_get (D := G.1) (ci := 1) (v := .int (L 0 1)) (C := RX2) (T := TX2) (N := 14) hx hb hts (fun _ h => List.mem_cons_of_mem _ (List.mem_append_right _ h)) hown hK hP 0 rfl rfl 1 (by decide) w1 (fun _ h9 => h9) rfl dX2_debtOf_6 ?_
      refine zk_top hI.1 ?_
      refine lv_icmp_ge (tgt := 46) hx hb dX2_debtOf_9 (by decide) (fun h9_3 => ?_) (fun h9_3 => ?_)
      · have h9_3 := zk_le (by omega) (by omega) h9_3
        refine lv_iload_n hx hb dX2_debtOf_46 rfl (lv_at hl 1 rfl) ?_
        exact zk_reti () hQ hx hb hr hlocks hS hP hD (Nat.le_of_ble_eq_true rfl) (Nat.le_of_ble_eq_true rfl) dX2_debtOf_47 (by rw [hq, show i = n by omega]; rfl)
      · have h9_3 := zk_nle (by omega) (by omega) h9_3
        refine lv_aload_n hx hb dX2_debtOf_12 rfl (lv_at hl 2 rfl) ?_
        refine va_get (D := G.1) (ci := 1) (v := .ref (ad 1)) (C := RX2) (T := TX2) (N := 14) hx hb hts (fun _ h => List.mem_cons_of_mem _ (List.mem_append_right _ h)) hown hK hP 0 rfl rfl 5 (by decide) w2 (fun _ h9 => h9) rfl dX2_debtOf_13 ?_
        refine lv_iload_n hx hb dX2_debtOf_16 rfl (lv_at hl 0 rfl) ?_
        refine zk_ialdN hx hb hK hP 1 0 rfl rfl (k := i) (n := 12) (by omega) (by omega) dX2_debtOf_17 ?_
        refine lv_iload_n hx hb dX2_debtOf_18 rfl (lv_at hl 3 rfl) ?_
        refine lv_icmp_ne (tgt := 40) hx hb dX2_debtOf_19 (by decide) (fun h19_4 => ?_) (fun h19_4 => ?_)
        · refine lv_iinc (v := nI (i + 1)) (lv' := [(3, .int (nI (i + 1))), (2, .int x), (0, .ref (ad 0)), (1, .int f)]) hx hb dX2_debtOf_40 hl (k := 0) rfl (zk_inc i 1) (by decide) rfl (fun ls hl => ?_)
          refine lv_goto (tgt := 4) hx hb dX2_debtOf_43 (by decide) ?_
          exact ih2 (i + 1) x (by omega) (by omega) (by refine zs_i hq ?_; simp +decide [Int32.sub_eq_add_neg, zk_a0, h9_3, h19_4]) ls (lv_sub hl [0, 1, 2, 3] rfl)
        · refine lv_aload_n hx hb dX2_debtOf_22 rfl (lv_at hl 2 rfl) ?_
          refine va_get (D := G.1) (ci := 1) (v := .ref (ad 3)) (C := RX2) (T := TX2) (N := 14) hx hb hts (fun _ h => List.mem_cons_of_mem _ (List.mem_append_right _ h)) hown hK hP 0 rfl rfl 7 (by decide) w3 (fun _ h9 => h9) rfl dX2_debtOf_23 ?_
          refine lv_iload_n hx hb dX2_debtOf_26 rfl (lv_at hl 0 rfl) ?_
          refine zk_ialdN hx hb hK hP 3 0 rfl rfl (k := i) (n := 12) (by omega) (by omega) dX2_debtOf_27 ?_
          refine lv_if_ge (tgt := 40) hx hb dX2_debtOf_28 (by decide) (fun h28_5 => ?_) (fun h28_5 => ?_)
          · have h28_5 := zk_l1 h28_5
            refine lv_iinc (v := nI (i + 1)) (lv' := [(3, .int (nI (i + 1))), (2, .int x), (0, .ref (ad 0)), (1, .int f)]) hx hb dX2_debtOf_40 hl (k := 0) rfl (zk_inc i 1) (by decide) rfl (fun ls hl => ?_)
            refine lv_goto (tgt := 4) hx hb dX2_debtOf_43 (by decide) ?_
            exact ih2 (i + 1) x (by omega) (by omega) (by refine zs_i hq ?_; simp +decide [Int32.sub_eq_add_neg, zk_a0, h9_3, h19_4, h28_5]) ls (lv_sub hl [0, 1, 2, 3] rfl)
          · have h28_5 := zk_l2 h28_5
            refine lv_iload_n hx hb dX2_debtOf_31 rfl (lv_at hl 1 rfl) ?_
            refine lv_aload_n hx hb dX2_debtOf_32 rfl (lv_at hl 2 rfl) ?_
            refine va_get (D := G.1) (ci := 1) (v := .ref (ad 3)) (C := RX2) (T := TX2) (N := 14) hx hb hts (fun _ h => List.mem_cons_of_mem _ (List.mem_append_right _ h)) hown hK hP 0 rfl rfl 7 (by decide) w3 (fun _ h9 => h9) rfl dX2_debtOf_33 ?_
            refine lv_iload_n hx hb dX2_debtOf_36 rfl (lv_at hl 0 rfl) ?_
            refine zk_ialdN hx hb hK hP 3 0 rfl rfl (k := i) (n := 12) (by omega) (by omega) dX2_debtOf_37 ?_
            refine lv_isub hx hb dX2_debtOf_38 ?_
            refine lv_topi (fun x7 ex7 => ?_)
            refine lv_istore_n (lv' := [(2, .int x7), (3, .int (nI i)), (0, .ref (ad 0)), (1, .int f)]) hx hb dX2_debtOf_39 rfl hl (by decide) rfl (fun ls hl => ?_)
            refine lv_iinc (v := nI (i + 1)) (lv' := [(3, .int (nI (i + 1))), (2, .int x7), (0, .ref (ad 0)), (1, .int f)]) hx hb dX2_debtOf_40 hl (k := 1) rfl (zk_inc i 1) (by decide) rfl (fun ls hl => ?_)
            refine lv_goto (tgt := 4) hx hb dX2_debtOf_43 (by decide) ?_
            exact ih2 (i + 1) x7 (by omega) (by omega) (by refine zs_i hq ?_; simp +decide [Int32.sub_eq_add_neg, zk_a0, h9_3, h19_4, h28_5, ex7]) ls (lv_sub hl [0, 1, 2, 3] rfl)
  exact lp1 _ 0 (nI 0) (Nat.lt_succ_self _) (by omega) (rfl) ls (lv_sub hl [0, 1, 2, 3] rfl)

abbrev rmX2_writtenOffInAll : Room := { frames := 0, cells := 0, slots := 0, locals := 0 }
set_option maxHeartbeats 4000000 in
set_option maxRecDepth 100000 in
/-- what was written off in all -/
theorem c_X2_writtenOffInAll (l : Launch) (G : zk_G) (ad : Nat → Nat) (L : zL) (n t : Nat) (hI : sInv L n t)  : zk_I (S := Unit) l yX2_writtenOffInAll wsX2_writtenOffInAll rmX2_writtenOffInAll G [.ref (ad 0)] (zb_L G ad L ++ zb_M G ad L) (fun r _ => r = zs (L 8) 5) (fun _ => zb_L G ad L ++ zb_M G ad L) := by
  refine zk_bodyI (cc := cX2_writtenOffInAll) (maxL := 3) (ret := (some .int)) (by decide) rfl (Nat.le_of_ble_eq_true rfl) ?_
  intro p E0 s m args below meth cd A ls Q hF hQ
  obtain ⟨hx, hb, hml, hr, hts, hown, hlocks, -, hE, hP, hD, hS, hA, hA0, hl⟩ := hF
  have hK := hE.1
  have hl : lv_has ls 3 [(0, .ref (ad 0))] := hl
  obtain ⟨hn, hn12, ht, ht40, hfam, hpay⟩ := id hI
  have w1 := hts _ (List.mem_of_getElem? (l := wsX2_writtenOffInAll) (i := 1) (a := Cond.fieldLink RX2 33 "MealAccounts$Ledger" "writtenOffFor" "[I") rfl)
  refine lv_iconst (v := nI 0) hx hb dX2_writtenOffInAll_0 (by decide) ?_
  refine lv_istore_n (lv' := [(1, .int (nI 0)), (0, .ref (ad 0))]) hx hb dX2_writtenOffInAll_1 rfl hl (by decide) rfl (fun ls hl => ?_)
  refine lv_iconst (v := nI 0) hx hb dX2_writtenOffInAll_2 (by decide) ?_
  refine lv_istore_n (lv' := [(2, .int (nI 0)), (1, .int (nI 0)), (0, .ref (ad 0))]) hx hb dX2_writtenOffInAll_3 rfl hl (by decide) rfl (fun ls hl => ?_)
  have lp1 : ∀ (n3 : Nat) (i : Nat) (x : Int32), 5 - i < n3 → (i ≤ 5) → (x = zs (L 8) i) → ∀ (ls : Array Slot), lv_has ls 3 [(2, .int (nI i)), (1, .int x), (0, .ref (ad 0))] → W p l E0 rmX2_writtenOffInAll s m args below meth cd s.heap [] 0 0 Q (F0 m 4 ls []) := by
    intro n3
    induction n3 with
    | zero => intro i x hz; exact absurd hz (Nat.not_lt_zero _)
    | succ n3 ih2 =>
      intro i x hm hi hq ls hl
      refine lv_iload_n hx hb dX2_writtenOffInAll_4 rfl (lv_at hl 0 rfl) ?_
      refine lv_iconst (v := nI 5) hx hb dX2_writtenOffInAll_5 (by decide) ?_
      refine lv_icmp_ge (tgt := 24) hx hb dX2_writtenOffInAll_6 (by decide) (fun h6_3 => ?_) (fun h6_3 => ?_)
      · have h6_3 := zk_le (by omega) (by omega) h6_3
        refine lv_iload_n hx hb dX2_writtenOffInAll_24 rfl (lv_at hl 1 rfl) ?_
        exact zk_reti () hQ hx hb hr hlocks hS hP hD (Nat.le_of_ble_eq_true rfl) (Nat.le_of_ble_eq_true rfl) dX2_writtenOffInAll_25 (by rw [hq, show i = 5 by omega])
      · have h6_3 := zk_nle (by omega) (by omega) h6_3
        refine lv_iload_n hx hb dX2_writtenOffInAll_9 rfl (lv_at hl 1 rfl) ?_
        refine lv_aload_n hx hb dX2_writtenOffInAll_10 rfl (lv_at hl 2 rfl) ?_
        refine va_get (D := G.1) (ci := 1) (v := .ref (ad 8)) (C := RX2) (T := TX2) (N := 14) hx hb hts (fun _ h => List.mem_cons_of_mem _ (List.mem_append_right _ h)) hown hK hP 0 rfl rfl 12 (by decide) w1 (fun _ h9 => h9) rfl dX2_writtenOffInAll_11 ?_
        refine lv_iload_n hx hb dX2_writtenOffInAll_14 rfl (lv_at hl 0 rfl) ?_
        refine zk_ialdN hx hb hK hP 8 0 rfl rfl (k := i) (n := 5) (by omega) (by omega) dX2_writtenOffInAll_15 ?_
        refine lv_iadd hx hb dX2_writtenOffInAll_16 ?_
        refine lv_topi (fun x5 ex5 => ?_)
        refine lv_istore_n (lv' := [(1, .int x5), (2, .int (nI i)), (0, .ref (ad 0))]) hx hb dX2_writtenOffInAll_17 rfl hl (by decide) rfl (fun ls hl => ?_)
        refine lv_iinc (v := nI (i + 1)) (lv' := [(2, .int (nI (i + 1))), (1, .int x5), (0, .ref (ad 0))]) hx hb dX2_writtenOffInAll_18 hl (k := 1) rfl (zk_inc i 1) (by decide) rfl (fun ls hl => ?_)
        refine lv_goto (tgt := 4) hx hb dX2_writtenOffInAll_21 (by decide) ?_
        exact ih2 (i + 1) x5 (by omega) (by omega) (by refine zs_i hq ?_; simp +decide [zk_a0, h6_3, ex5]) ls (lv_sub hl [0, 1, 2] rfl)
  exact lp1 _ 0 (nI 0) (Nat.lt_succ_self _) (by omega) (rfl) ls (lv_sub hl [0, 1, 2] rfl)

abbrev rmX2_lowestChildOf : Room := { frames := 0, cells := 0, slots := 0, locals := 0 }
set_option maxHeartbeats 4000000 in
set_option maxRecDepth 100000 in
/-- the lowest child of a family -/
theorem c_X2_lowestChildOf (l : Launch) (G : zk_G) (ad : Nat → Nat) (L : zL) (n t : Nat) (hI : sInv L n t) (f : Int32) : zk_I (S := Unit) l yX2_lowestChildOf wsX2_lowestChildOf rmX2_lowestChildOf G [.ref (ad 0), .int f] (zb_L G ad L ++ zb_M G ad L) (fun r _ => (∃ k, k < n ∧ r = nI k ∧ L 1 k = f ∧ ∀ j, j < k → ¬ L 1 j = f) ∨ (r = -1 ∧ ∀ j, j < n → ¬ L 1 j = f)) (fun _ => zb_L G ad L ++ zb_M G ad L) := by
  refine zk_bodyI (cc := cX2_lowestChildOf) (maxL := 3) (ret := (some .int)) (by decide) rfl (Nat.le_of_ble_eq_true rfl) ?_
  intro p E0 s m args below meth cd A ls Q hF hQ
  obtain ⟨hx, hb, hml, hr, hts, hown, hlocks, -, hE, hP, hD, hS, hA, hA0, hl⟩ := hF
  have hK := hE.1
  have hl : lv_has ls 3 [(0, .ref (ad 0)), (1, .int f)] := hl
  obtain ⟨hn, hn12, ht, ht40, hfam, hpay⟩ := id hI
  have w1 := hts _ (List.mem_of_getElem? (l := wsX2_lowestChildOf) (i := 1) (a := Cond.fieldLink RX2 53 "MealAccounts$Ledger" "children" "I") rfl)
  have w2 := hts _ (List.mem_of_getElem? (l := wsX2_lowestChildOf) (i := 2) (a := Cond.fieldLink RX2 9 "MealAccounts$Ledger" "familyOf" "[I") rfl)
  refine lv_iconst (v := nI 0) hx hb dX2_lowestChildOf_0 (by decide) ?_
  refine lv_istore_n (lv' := [(2, .int (nI 0)), (0, .ref (ad 0)), (1, .int f)]) hx hb dX2_lowestChildOf_1 rfl hl (by decide) rfl (fun ls hl => ?_)
  have lp1 : ∀ (n3 : Nat) (i : Nat), n - i < n3 → (i ≤ n) → (∀ j, j < i → ¬ L 1 j = f) → ∀ (ls : Array Slot), lv_has ls 3 [(2, .int (nI i)), (0, .ref (ad 0)), (1, .int f)] → W p l E0 rmX2_lowestChildOf s m args below meth cd s.heap [] 0 0 Q (F0 m 2 ls []) := by
    intro n3
    induction n3 with
    | zero => intro i hz; exact absurd hz (Nat.not_lt_zero _)
    | succ n3 ih2 =>
      intro i hm hi hq ls hl
      refine lv_iload_n hx hb dX2_lowestChildOf_2 rfl (lv_at hl 0 rfl) ?_
      refine lv_aload_n hx hb dX2_lowestChildOf_3 rfl (lv_at hl 1 rfl) ?_
      refine va_get (D := G.1) (ci := 1) (v := .int (L 0 1)) (C := RX2) (T := TX2) (N := 14) hx hb hts (fun _ h => List.mem_cons_of_mem _ (List.mem_append_right _ h)) hown hK hP 0 rfl rfl 1 (by decide) w1 (fun _ h9 => h9) rfl dX2_lowestChildOf_4 ?_
      refine zk_top hI.1 ?_
      refine lv_icmp_ge (tgt := 28) hx hb dX2_lowestChildOf_7 (by decide) (fun h7_3 => ?_) (fun h7_3 => ?_)
      · have h7_3 := zk_le (by omega) (by omega) h7_3
        refine lv_iconst (v := -1) hx hb dX2_lowestChildOf_28 (by decide) ?_
        exact zk_reti () hQ hx hb hr hlocks hS hP hD (Nat.le_of_ble_eq_true rfl) (Nat.le_of_ble_eq_true rfl) dX2_lowestChildOf_29 (Or.inr ⟨rfl, fun j hj => hq j (by omega)⟩)
      · have h7_3 := zk_nle (by omega) (by omega) h7_3
        refine lv_aload_n hx hb dX2_lowestChildOf_10 rfl (lv_at hl 1 rfl) ?_
        refine va_get (D := G.1) (ci := 1) (v := .ref (ad 1)) (C := RX2) (T := TX2) (N := 14) hx hb hts (fun _ h => List.mem_cons_of_mem _ (List.mem_append_right _ h)) hown hK hP 0 rfl rfl 5 (by decide) w2 (fun _ h9 => h9) rfl dX2_lowestChildOf_11 ?_
        refine lv_iload_n hx hb dX2_lowestChildOf_14 rfl (lv_at hl 0 rfl) ?_
        refine zk_ialdN hx hb hK hP 1 0 rfl rfl (k := i) (n := 12) (by omega) (by omega) dX2_lowestChildOf_15 ?_
        refine lv_iload_n hx hb dX2_lowestChildOf_16 rfl (lv_at hl 2 rfl) ?_
        refine lv_icmp_ne (tgt := 22) hx hb dX2_lowestChildOf_17 (by decide) (fun h17_4 => ?_) (fun h17_4 => ?_)
        · refine lv_iinc (v := nI (i + 1)) (lv' := [(2, .int (nI (i + 1))), (0, .ref (ad 0)), (1, .int f)]) hx hb dX2_lowestChildOf_22 hl (k := 0) rfl (zk_inc i 1) (by decide) rfl (fun ls hl => ?_)
          refine lv_goto (tgt := 2) hx hb dX2_lowestChildOf_25 (by decide) ?_
          exact ih2 (i + 1) (by omega) (by omega) (lt_s hq h17_4) ls (lv_sub hl [0, 1, 2] rfl)
        · refine lv_iload_n hx hb dX2_lowestChildOf_20 rfl (lv_at hl 0 rfl) ?_
          exact zk_reti () hQ hx hb hr hlocks hS hP hD (Nat.le_of_ble_eq_true rfl) (Nat.le_of_ble_eq_true rfl) dX2_lowestChildOf_21 (Or.inl ⟨i, by omega, rfl, h17_4, hq⟩)
  exact lp1 _ 0 (Nat.lt_succ_self _) (by omega) (lt_0) ls (lv_sub hl [0, 1, 2] rfl)

abbrev rmX2_isEntitled : Room := { frames := 0, cells := 0, slots := 0, locals := 0 }
set_option maxHeartbeats 4000000 in
set_option maxRecDepth 100000 in
/-- is a child entitled on a day -/
theorem c_X2_isEntitled (l : Launch) (G : zk_G) (ad : Nat → Nat) (L : zL) (n t : Nat) (hI : sInv L n t) (c d : Nat) (hc : c < n) (hd : d < 40) : zk_I (S := Unit) l yX2_isEntitled wsX2_isEntitled rmX2_isEntitled G [.ref (ad 0), .int (nI c), .int (nI d)] (zb_L G ad L ++ zb_M G ad L) (fun r _ => r = if sEnt L c d then nI 1 else nI 0) (fun _ => zb_L G ad L ++ zb_M G ad L) := by
  refine zk_bodyI (cc := cX2_isEntitled) (maxL := 3) (ret := (some .boolean)) (by decide) rfl (Nat.le_of_ble_eq_true rfl) ?_
  intro p E0 s m args below meth cd A ls Q hF hQ
  obtain ⟨hx, hb, hml, hr, hts, hown, hlocks, -, hE, hP, hD, hS, hA, hA0, hl⟩ := hF
  have hK := hE.1
  have hl : lv_has ls 3 [(0, .ref (ad 0)), (1, .int (nI c)), (2, .int (nI d))] := hl
  obtain ⟨hn, hn12, ht, ht40, hfam, hpay⟩ := id hI
  have w1 := hts _ (List.mem_of_getElem? (l := wsX2_isEntitled) (i := 1) (a := Cond.fieldLink RX2 21 "MealAccounts$Ledger" "firstDayOf" "[I") rfl)
  have w2 := hts _ (List.mem_of_getElem? (l := wsX2_isEntitled) (i := 2) (a := Cond.fieldLink RX2 24 "MealAccounts$Ledger" "lastDayOf" "[I") rfl)
  refine lv_aload_n hx hb dX2_isEntitled_0 rfl (lv_at hl 0 rfl) ?_
  refine va_get (D := G.1) (ci := 1) (v := .ref (ad 4)) (C := RX2) (T := TX2) (N := 14) hx hb hts (fun _ h => List.mem_cons_of_mem _ (List.mem_append_right _ h)) hown hK hP 0 rfl rfl 8 (by decide) w1 (fun _ h9 => h9) rfl dX2_isEntitled_1 ?_
  refine lv_iload_n hx hb dX2_isEntitled_4 rfl (lv_at hl 1 rfl) ?_
  refine zk_ialdN hx hb hK hP 4 0 rfl rfl (k := c) (n := 12) (by omega) (by omega) dX2_isEntitled_5 ?_
  refine lv_iconst (v := -1) hx hb dX2_isEntitled_6 (by decide) ?_
  refine lv_icmp_eq (tgt := 34) hx hb dX2_isEntitled_7 (by decide) (fun h7_0 => ?_) (fun h7_0 => ?_)
  · refine lv_iconst (v := nI 0) hx hb dX2_isEntitled_34 (by decide) ?_
    exact zk_retz () hQ hx hb hr hlocks hS hP hD (Nat.le_of_ble_eq_true rfl) (Nat.le_of_ble_eq_true rfl) dX2_isEntitled_35 (rfl) (by simp +decide [zk_a0, h7_0])
  · refine lv_iload_n hx hb dX2_isEntitled_10 rfl (lv_at hl 2 rfl) ?_
    refine lv_aload_n hx hb dX2_isEntitled_11 rfl (lv_at hl 0 rfl) ?_
    refine va_get (D := G.1) (ci := 1) (v := .ref (ad 4)) (C := RX2) (T := TX2) (N := 14) hx hb hts (fun _ h => List.mem_cons_of_mem _ (List.mem_append_right _ h)) hown hK hP 0 rfl rfl 8 (by decide) w1 (fun _ h9 => h9) rfl dX2_isEntitled_12 ?_
    refine lv_iload_n hx hb dX2_isEntitled_15 rfl (lv_at hl 1 rfl) ?_
    refine zk_ialdN hx hb hK hP 4 0 rfl rfl (k := c) (n := 12) (by omega) (by omega) dX2_isEntitled_16 ?_
    refine lv_icmp_lt (tgt := 34) hx hb dX2_isEntitled_17 (by decide) (fun h17_1 => ?_) (fun h17_1 => ?_)
    · have h17_1 := h17_1
      refine lv_iconst (v := nI 0) hx hb dX2_isEntitled_34 (by decide) ?_
      exact zk_retz () hQ hx hb hr hlocks hS hP hD (Nat.le_of_ble_eq_true rfl) (Nat.le_of_ble_eq_true rfl) dX2_isEntitled_35 (rfl) (by simp +decide [zk_a0, h7_0, h17_1])
    · have h17_1 := h17_1
      refine lv_iload_n hx hb dX2_isEntitled_20 rfl (lv_at hl 2 rfl) ?_
      refine lv_aload_n hx hb dX2_isEntitled_21 rfl (lv_at hl 0 rfl) ?_
      refine va_get (D := G.1) (ci := 1) (v := .ref (ad 5)) (C := RX2) (T := TX2) (N := 14) hx hb hts (fun _ h => List.mem_cons_of_mem _ (List.mem_append_right _ h)) hown hK hP 0 rfl rfl 9 (by decide) w2 (fun _ h9 => h9) rfl dX2_isEntitled_22 ?_
      refine lv_iload_n hx hb dX2_isEntitled_25 rfl (lv_at hl 1 rfl) ?_
      refine zk_ialdN hx hb hK hP 5 0 rfl rfl (k := c) (n := 12) (by omega) (by omega) dX2_isEntitled_26 ?_
      refine lv_icmp_gt (tgt := 34) hx hb dX2_isEntitled_27 (by decide) (fun h27_2 => ?_) (fun h27_2 => ?_)
      · have h27_2 := h27_2
        refine lv_iconst (v := nI 0) hx hb dX2_isEntitled_34 (by decide) ?_
        exact zk_retz () hQ hx hb hr hlocks hS hP hD (Nat.le_of_ble_eq_true rfl) (Nat.le_of_ble_eq_true rfl) dX2_isEntitled_35 (rfl) (by simp +decide [zk_a0, h7_0, h17_1, h27_2])
      · have h27_2 := h27_2
        refine lv_iconst (v := nI 1) hx hb dX2_isEntitled_30 (by decide) ?_
        refine lv_goto (tgt := 35) hx hb dX2_isEntitled_31 (by decide) ?_
        exact zk_retz () hQ hx hb hr hlocks hS hP hD (Nat.le_of_ble_eq_true rfl) (Nat.le_of_ble_eq_true rfl) dX2_isEntitled_35 (rfl) (by simp +decide [zk_a0, h7_0, h17_1, h27_2])

abbrev rmX2_faultOfCome : Room := { frames := 1, cells := 0, slots := 0, locals := 20 }
set_option maxHeartbeats 4000000 in
set_option maxRecDepth 100000 in
/-- what speaks against a child's coming -/
theorem c_X2_faultOfCome (l : Launch) (G : zk_G) (ad : Nat → Nat) (L : zL) (n t : Nat) (hI : sInv L n t) (f di : Int32) : zk_I (S := Unit) l yX2_faultOfCome wsX2_faultOfCome rmX2_faultOfCome G [.ref (ad 0), .int f, .int di] (zb_L G ad L ++ zb_M G ad L) (fun r _ => r = sfCome n f di) (fun _ => zb_L G ad L ++ zb_M G ad L) := by
  refine zk_bodyI (cc := cX2_faultOfCome) (maxL := 3) (ret := (some .int)) (by decide) rfl (Nat.le_of_ble_eq_true rfl) ?_
  intro p E0 s m args below meth cd A ls Q hF hQ
  obtain ⟨hx, hb, hml, hr, hts, hown, hlocks, -, hE, hP, hD, hS, hA, hA0, hl⟩ := hF
  have hK := hE.1
  have hl : lv_has ls 3 [(0, .ref (ad 0)), (1, .int f), (2, .int di)] := hl
  obtain ⟨hn, hn12, ht, ht40, hfam, hpay⟩ := id hI
  have w2 := hts _ (List.mem_of_getElem? (l := wsX2_faultOfCome) (i := 2) (a := Cond.static yX5_isFamily) rfl)
  have w3 := hts _ (List.mem_of_getElem? (l := wsX2_faultOfCome) (i := 3) (a := Cond.initialized RX5) rfl)
  have w1 := hts _ (List.mem_of_getElem? (l := wsX2_faultOfCome) (i := 1) (a := Cond.fieldLink RX2 53 "MealAccounts$Ledger" "children" "I") rfl)
  refine lv_iload_n hx hb dX2_faultOfCome_0 rfl (lv_at hl 1 rfl) ?_
  have hP0 : va_P G.1 vwCl (([] : va_W) ++ (zb_L G ad L ++ zb_M G ad L)) s.heap := hP
  have hD0 : va_D A (([] : va_W) ++ (zb_L G ad L ++ zb_M G ad L)) := hD
  refine zk_callI (wr := zb_L G ad L ++ zb_M G ad L) (va_runSN (As := [.int f]) (rest := []) ⟨hx, hb, hml, hown, hts⟩ (c_X5_isFamily l G f _) ⟨va_cnB 1 hts (ggX2_faultOfCome_X5_isFamily) rfl rfl rfl hE.2.1.2.2.1 w3 (by decide +kernel) ⟨Nat.le_of_ble_eq_true rfl, Nat.le_of_ble_eq_true rfl⟩, w2, trivial⟩ (zk_preS hE hA0 hS (zk_Papp hP0).1 (zk_Dapp hD0).1) rfl rfl hl.1 rfl (lv_room (Nat.le_of_ble_eq_true rfl)) dX2_faultOfCome_1 ⟨Nat.le_of_ble_eq_true rfl, Nat.le_of_ble_eq_true rfl⟩) hP0 hD0 hS hA (fun r1 u2 H locs q3 hP hD hS => ?_)
  subst q3
  have hP : va_P G.1 vwCl (zb_L G ad L ++ zb_M G ad L) H := hP
  have hD : va_D A (zb_L G ad L ++ zb_M G ad L) := hD
  refine lv_if_ne (tgt := 9) hx hb dX2_faultOfCome_4 (by decide) (fun h4_3 => ?_) (fun h4_3 => ?_)
  · have h4_3 := zk_b1 h4_3
    refine lv_iload_n hx hb dX2_faultOfCome_9 rfl (lv_at hl 2 rfl) ?_
    refine lv_if_lt (tgt := 18) hx hb dX2_faultOfCome_10 (by decide) (fun h10_4 => ?_) (fun h10_4 => ?_)
    · refine lv_iconst (v := nI 2) hx hb dX2_faultOfCome_18 (by decide) ?_
      exact zk_reti () hQ hx hb hr hlocks hS hP hD (Nat.le_of_ble_eq_true rfl) (Nat.le_of_ble_eq_true rfl) dX2_faultOfCome_19 (by unfold sfCome; simp +decide [zk_a0, h4_3, h10_4])
    · refine lv_iload_n hx hb dX2_faultOfCome_13 rfl (lv_at hl 2 rfl) ?_
      refine lv_iconst (v := nI 3) hx hb dX2_faultOfCome_14 (by decide) ?_
      refine lv_icmp_le (tgt := 20) hx hb dX2_faultOfCome_15 (by decide) (fun h15_5 => ?_) (fun h15_5 => ?_)
      · have h15_5 := zk_l1 h15_5
        refine lv_aload_n hx hb dX2_faultOfCome_20 rfl (lv_at hl 0 rfl) ?_
        refine va_get (D := G.1) (ci := 1) (v := .int (L 0 1)) (C := RX2) (T := TX2) (N := 14) hx hb hts (fun _ h => List.mem_cons_of_mem _ (List.mem_append_right _ h)) hown hK hP 0 rfl rfl 1 (by decide) w1 (fun _ h9 => h9) rfl dX2_faultOfCome_21 ?_
        refine zk_top hI.1 ?_
        refine lv_bipush (v := nI 12) hx hb dX2_faultOfCome_24 (by decide) ?_
        refine lv_icmp_lt (tgt := 33) hx hb dX2_faultOfCome_26 (by decide) (fun h26_6 => ?_) (fun h26_6 => ?_)
        · have h26_6 := zk_lt (by omega) (by omega) h26_6
          refine lv_iconst (v := nI 0) hx hb dX2_faultOfCome_33 (by decide) ?_
          exact zk_reti () hQ hx hb hr hlocks hS hP hD (Nat.le_of_ble_eq_true rfl) (Nat.le_of_ble_eq_true rfl) dX2_faultOfCome_34 (by unfold sfCome; simp +decide [zk_a0, h4_3, h10_4, h15_5, h26_6])
        · have h26_6 := zk_nlt (by omega) (by omega) h26_6
          refine lv_iconst (v := nI 3) hx hb dX2_faultOfCome_29 (by decide) ?_
          refine lv_goto (tgt := 34) hx hb dX2_faultOfCome_30 (by decide) ?_
          exact zk_reti () hQ hx hb hr hlocks hS hP hD (Nat.le_of_ble_eq_true rfl) (Nat.le_of_ble_eq_true rfl) dX2_faultOfCome_34 (by unfold sfCome; simp +decide [zk_a0, h4_3, h10_4, h15_5, h26_6])
      · have h15_5 := zk_l2 h15_5
        refine lv_iconst (v := nI 2) hx hb dX2_faultOfCome_18 (by decide) ?_
        exact zk_reti () hQ hx hb hr hlocks hS hP hD (Nat.le_of_ble_eq_true rfl) (Nat.le_of_ble_eq_true rfl) dX2_faultOfCome_19 (by unfold sfCome; simp +decide [zk_a0, h4_3, h10_4, h15_5])
  · have h4_3 := zk_b0 h4_3
    refine lv_iconst (v := nI 1) hx hb dX2_faultOfCome_7 (by decide) ?_
    exact zk_reti () hQ hx hb hr hlocks hS hP hD (Nat.le_of_ble_eq_true rfl) (Nat.le_of_ble_eq_true rfl) dX2_faultOfCome_8 (by unfold sfCome; simp +decide [zk_a0, h4_3])

abbrev rmX2_faultOfMenu : Room := { frames := 1, cells := 0, slots := 0, locals := 20 }
set_option maxHeartbeats 4000000 in
set_option maxRecDepth 100000 in
/-- what speaks against a menu -/
theorem c_X2_faultOfMenu (l : Launch) (G : zk_G) (ad : Nat → Nat) (L : zL) (n t : Nat) (hI : sInv L n t) (d mn : Int32) : zk_I (S := Unit) l yX2_faultOfMenu wsX2_faultOfMenu rmX2_faultOfMenu G [.ref (ad 0), .int d, .int mn] (zb_L G ad L ++ zb_M G ad L) (fun r _ => r = sfMenu t d mn) (fun _ => zb_L G ad L ++ zb_M G ad L) := by
  refine zk_bodyI (cc := cX2_faultOfMenu) (maxL := 3) (ret := (some .int)) (by decide) rfl (Nat.le_of_ble_eq_true rfl) ?_
  intro p E0 s m args below meth cd A ls Q hF hQ
  obtain ⟨hx, hb, hml, hr, hts, hown, hlocks, -, hE, hP, hD, hS, hA, hA0, hl⟩ := hF
  have hK := hE.1
  have hl : lv_has ls 3 [(0, .ref (ad 0)), (1, .int d), (2, .int mn)] := hl
  obtain ⟨hn, hn12, ht, ht40, hfam, hpay⟩ := id hI
  have w2 := hts _ (List.mem_of_getElem? (l := wsX2_faultOfMenu) (i := 2) (a := Cond.static yX5_isDay) rfl)
  have w3 := hts _ (List.mem_of_getElem? (l := wsX2_faultOfMenu) (i := 3) (a := Cond.initialized RX5) rfl)
  have w1 := hts _ (List.mem_of_getElem? (l := wsX2_faultOfMenu) (i := 1) (a := Cond.fieldLink RX2 50 "MealAccounts$Ledger" "today" "I") rfl)
  refine lv_iload_n hx hb dX2_faultOfMenu_0 rfl (lv_at hl 1 rfl) ?_
  have hP0 : va_P G.1 vwCl (([] : va_W) ++ (zb_L G ad L ++ zb_M G ad L)) s.heap := hP
  have hD0 : va_D A (([] : va_W) ++ (zb_L G ad L ++ zb_M G ad L)) := hD
  refine zk_callI (wr := zb_L G ad L ++ zb_M G ad L) (va_runSN (As := [.int d]) (rest := []) ⟨hx, hb, hml, hown, hts⟩ (c_X5_isDay l G d _) ⟨va_cnB 1 hts (ggX2_faultOfMenu_X5_isDay) rfl rfl rfl hE.2.1.2.2.2.1 w3 (by decide +kernel) ⟨Nat.le_of_ble_eq_true rfl, Nat.le_of_ble_eq_true rfl⟩, w2, trivial⟩ (zk_preS hE hA0 hS (zk_Papp hP0).1 (zk_Dapp hD0).1) rfl rfl hl.1 rfl (lv_room (Nat.le_of_ble_eq_true rfl)) dX2_faultOfMenu_1 ⟨Nat.le_of_ble_eq_true rfl, Nat.le_of_ble_eq_true rfl⟩) hP0 hD0 hS hA (fun r1 u2 H locs q3 hP hD hS => ?_)
  subst q3
  have hP : va_P G.1 vwCl (zb_L G ad L ++ zb_M G ad L) H := hP
  have hD : va_D A (zb_L G ad L ++ zb_M G ad L) := hD
  refine lv_if_ne (tgt := 9) hx hb dX2_faultOfMenu_4 (by decide) (fun h4_3 => ?_) (fun h4_3 => ?_)
  · have h4_3 := zk_b1 h4_3
    refine lv_iload_n hx hb dX2_faultOfMenu_9 rfl (lv_at hl 2 rfl) ?_
    refine lv_if_lt (tgt := 18) hx hb dX2_faultOfMenu_10 (by decide) (fun h10_4 => ?_) (fun h10_4 => ?_)
    · refine lv_iconst (v := nI 2) hx hb dX2_faultOfMenu_18 (by decide) ?_
      exact zk_reti () hQ hx hb hr hlocks hS hP hD (Nat.le_of_ble_eq_true rfl) (Nat.le_of_ble_eq_true rfl) dX2_faultOfMenu_19 (by unfold sfMenu; simp +decide [zk_a0, h4_3, h10_4])
    · refine lv_iload_n hx hb dX2_faultOfMenu_13 rfl (lv_at hl 2 rfl) ?_
      refine lv_iconst (v := nI 3) hx hb dX2_faultOfMenu_14 (by decide) ?_
      refine lv_icmp_le (tgt := 20) hx hb dX2_faultOfMenu_15 (by decide) (fun h15_5 => ?_) (fun h15_5 => ?_)
      · have h15_5 := zk_l1 h15_5
        refine lv_iload_n hx hb dX2_faultOfMenu_20 rfl (lv_at hl 1 rfl) ?_
        refine lv_aload_n hx hb dX2_faultOfMenu_21 rfl (lv_at hl 0 rfl) ?_
        refine va_get (D := G.1) (ci := 1) (v := .int (L 0 0)) (C := RX2) (T := TX2) (N := 14) hx hb hts (fun _ h => List.mem_cons_of_mem _ (List.mem_append_right _ h)) hown hK hP 0 rfl rfl 0 (by decide) w1 (fun _ h9 => h9) rfl dX2_faultOfMenu_22 ?_
        refine zk_top hI.2.2.1 ?_
        refine lv_icmp_ge (tgt := 32) hx hb dX2_faultOfMenu_25 (by decide) (fun h25_6 => ?_) (fun h25_6 => ?_)
        · have h25_6 := zk_l1 h25_6
          refine lv_iconst (v := nI 0) hx hb dX2_faultOfMenu_32 (by decide) ?_
          exact zk_reti () hQ hx hb hr hlocks hS hP hD (Nat.le_of_ble_eq_true rfl) (Nat.le_of_ble_eq_true rfl) dX2_faultOfMenu_33 (by unfold sfMenu; simp +decide [zk_a0, h4_3, h10_4, h15_5, h25_6])
        · have h25_6 := zk_l2 h25_6
          refine lv_iconst (v := nI 3) hx hb dX2_faultOfMenu_28 (by decide) ?_
          refine lv_goto (tgt := 33) hx hb dX2_faultOfMenu_29 (by decide) ?_
          exact zk_reti () hQ hx hb hr hlocks hS hP hD (Nat.le_of_ble_eq_true rfl) (Nat.le_of_ble_eq_true rfl) dX2_faultOfMenu_33 (by unfold sfMenu; simp +decide [zk_a0, h4_3, h10_4, h15_5, h25_6])
      · have h15_5 := zk_l2 h15_5
        refine lv_iconst (v := nI 2) hx hb dX2_faultOfMenu_18 (by decide) ?_
        exact zk_reti () hQ hx hb hr hlocks hS hP hD (Nat.le_of_ble_eq_true rfl) (Nat.le_of_ble_eq_true rfl) dX2_faultOfMenu_19 (by unfold sfMenu; simp +decide [zk_a0, h4_3, h10_4, h15_5])
  · have h4_3 := zk_b0 h4_3
    refine lv_iconst (v := nI 1) hx hb dX2_faultOfMenu_7 (by decide) ?_
    exact zk_reti () hQ hx hb hr hlocks hS hP hD (Nat.le_of_ble_eq_true rfl) (Nat.le_of_ble_eq_true rfl) dX2_faultOfMenu_8 (by unfold sfMenu; simp +decide [zk_a0, h4_3])

abbrev rmX2_faultOfOrder : Room := { frames := 1, cells := 0, slots := 0, locals := 21 }
set_option maxHeartbeats 4000000 in
set_option maxRecDepth 100000 in
/-- what speaks against an order -/
theorem c_X2_faultOfOrder (l : Launch) (G : zk_G) (ad : Nat → Nat) (L : zL) (n t : Nat) (hI : sInv L n t) (c d : Int32) : zk_I (S := Unit) l yX2_faultOfOrder wsX2_faultOfOrder rmX2_faultOfOrder G [.ref (ad 0), .int c, .int d] (zb_L G ad L ++ zb_M G ad L) (fun r _ => r = sfOrder L t c d) (fun _ => zb_L G ad L ++ zb_M G ad L) := by
  refine zk_bodyI (cc := cX2_faultOfOrder) (maxL := 3) (ret := (some .int)) (by decide) rfl (Nat.le_of_ble_eq_true rfl) ?_
  intro p E0 s m args below meth cd A ls Q hF hQ
  obtain ⟨hx, hb, hml, hr, hts, hown, hlocks, -, hE, hP, hD, hS, hA, hA0, hl⟩ := hF
  have hK := hE.1
  have hl : lv_has ls 3 [(0, .ref (ad 0)), (1, .int c), (2, .int d)] := hl
  obtain ⟨hn, hn12, ht, ht40, hfam, hpay⟩ := id hI
  have w8 := hts _ (List.mem_of_getElem? (l := wsX2_faultOfOrder) (i := 8) (a := Cond.static yX5_isDay) rfl)
  have w9 := hts _ (List.mem_of_getElem? (l := wsX2_faultOfOrder) (i := 9) (a := Cond.initialized RX5) rfl)
  have w1 := hts _ (List.mem_of_getElem? (l := wsX2_faultOfOrder) (i := 1) (a := Cond.fieldLink RX2 50 "MealAccounts$Ledger" "today" "I") rfl)
  refine lv_aload_n hx hb dX2_faultOfOrder_0 rfl (lv_at hl 0 rfl) ?_
  refine lv_iload_n hx hb dX2_faultOfOrder_1 rfl (lv_at hl 1 rfl) ?_
  have hP0 : va_P G.1 vwCl ((zb_L G ad L ++ zb_M G ad L) ++ ([] : va_W)) s.heap := by rw [List.append_nil]; exact hP
  have hD0 : va_D A ((zb_L G ad L ++ zb_M G ad L) ++ ([] : va_W)) := by rw [List.append_nil]; exact hD
  refine zk_callI (wr := ([] : va_W)) (va_runV (As := [.int c]) (rest := []) ⟨hx, hb, hml, hown, hts⟩ (c_X2_hasChild l G ad L n t hI c _) (cwV 1 hts gX2_faultOfOrder_X2_hasChild rfl rfl rfl (by decide +kernel) ⟨Nat.le_of_ble_eq_true rfl, Nat.le_of_ble_eq_true rfl⟩) (zk_preV hE hA0 hS (zk_Papp hP0).1 (zk_Dapp hD0).1 (va_recv hK hP (ci := 1) (q0 := 0) rfl rfl)) rfl rfl hl.1 rfl (lv_room (Nat.le_of_ble_eq_true rfl)) dX2_faultOfOrder_2 ⟨Nat.le_of_ble_eq_true rfl, Nat.le_of_ble_eq_true rfl⟩) hP0 hD0 hS hA (fun r1 u2 H locs q3 hP hD hS => ?_)
  subst q3
  rw [List.append_nil] at hP hD
  have hP : va_P G.1 vwCl (zb_L G ad L ++ zb_M G ad L) H := hP
  have hD : va_D A (zb_L G ad L ++ zb_M G ad L) := hD
  refine lv_if_eq (tgt := 15) hx hb dX2_faultOfOrder_5 (by decide) (fun h5_3 => ?_) (fun h5_3 => ?_)
  · have h5_3 := zk_b0 h5_3
    refine lv_iconst (v := nI 1) hx hb dX2_faultOfOrder_15 (by decide) ?_
    exact zk_reti () hQ hx hb hr hlocks hS hP hD (Nat.le_of_ble_eq_true rfl) (Nat.le_of_ble_eq_true rfl) dX2_faultOfOrder_16 (by unfold sfOrder; simp +decide [zk_a0, h5_3])
  · have h5_3 := zk_b1 h5_3
    refine lv_iload_n hx hb dX2_faultOfOrder_8 rfl (lv_at hl 2 rfl) ?_
    have hP0 : va_P G.1 vwCl (([] : va_W) ++ (zb_L G ad L ++ zb_M G ad L)) H := hP
    have hD0 : va_D A (([] : va_W) ++ (zb_L G ad L ++ zb_M G ad L)) := hD
    refine zk_callI (wr := zb_L G ad L ++ zb_M G ad L) (va_runSN (As := [.int d]) (rest := []) ⟨hx, hb, hml, hown, hts⟩ (c_X5_isDay l G d _) ⟨va_cnB 1 hts (ggX2_faultOfOrder_X5_isDay) rfl rfl rfl hE.2.1.2.2.2.1 w9 (by decide +kernel) ⟨Nat.le_of_ble_eq_true rfl, Nat.le_of_ble_eq_true rfl⟩, w8, trivial⟩ (zk_preS hE hA0 hS (zk_Papp hP0).1 (zk_Dapp hD0).1) rfl rfl hl.1 rfl (lv_room (Nat.le_of_ble_eq_true rfl)) dX2_faultOfOrder_9 ⟨Nat.le_of_ble_eq_true rfl, Nat.le_of_ble_eq_true rfl⟩) hP0 hD0 hS hA (fun r5 u6 H locs q7 hP hD hS => ?_)
    subst q7
    have hP : va_P G.1 vwCl (zb_L G ad L ++ zb_M G ad L) H := hP
    have hD : va_D A (zb_L G ad L ++ zb_M G ad L) := hD
    refine lv_if_ne (tgt := 17) hx hb dX2_faultOfOrder_12 (by decide) (fun h12_7 => ?_) (fun h12_7 => ?_)
    · have h12_7 := zk_b1 h12_7
      refine lv_iload_n hx hb dX2_faultOfOrder_17 rfl (lv_at hl 2 rfl) ?_
      refine lv_aload_n hx hb dX2_faultOfOrder_18 rfl (lv_at hl 0 rfl) ?_
      refine va_get (D := G.1) (ci := 1) (v := .int (L 0 0)) (C := RX2) (T := TX2) (N := 14) hx hb hts (fun _ h => List.mem_cons_of_mem _ (List.mem_append_right _ h)) hown hK hP 0 rfl rfl 0 (by decide) w1 (fun _ h9 => h9) rfl dX2_faultOfOrder_19 ?_
      refine zk_top hI.2.2.1 ?_
      refine lv_icmp_ge (tgt := 29) hx hb dX2_faultOfOrder_22 (by decide) (fun h22_8 => ?_) (fun h22_8 => ?_)
      · have h22_8 := zk_l1 h22_8
        refine lv_iconst (v := nI 0) hx hb dX2_faultOfOrder_29 (by decide) ?_
        exact zk_reti () hQ hx hb hr hlocks hS hP hD (Nat.le_of_ble_eq_true rfl) (Nat.le_of_ble_eq_true rfl) dX2_faultOfOrder_30 (by unfold sfOrder; simp +decide [zk_a0, h5_3, h12_7, h22_8])
      · have h22_8 := zk_l2 h22_8
        refine lv_iconst (v := nI 3) hx hb dX2_faultOfOrder_25 (by decide) ?_
        refine lv_goto (tgt := 30) hx hb dX2_faultOfOrder_26 (by decide) ?_
        exact zk_reti () hQ hx hb hr hlocks hS hP hD (Nat.le_of_ble_eq_true rfl) (Nat.le_of_ble_eq_true rfl) dX2_faultOfOrder_30 (by unfold sfOrder; simp +decide [zk_a0, h5_3, h12_7, h22_8])
    · have h12_7 := zk_b0 h12_7
      refine lv_iconst (v := nI 1) hx hb dX2_faultOfOrder_15 (by decide) ?_
      exact zk_reti () hQ hx hb hr hlocks hS hP hD (Nat.le_of_ble_eq_true rfl) (Nat.le_of_ble_eq_true rfl) dX2_faultOfOrder_16 (by unfold sfOrder; simp +decide [zk_a0, h5_3, h12_7])

abbrev rmX2_faultOfPay : Room := { frames := 1, cells := 0, slots := 0, locals := 21 }
set_option maxHeartbeats 4000000 in
set_option maxRecDepth 100000 in
/-- what speaks against a payment -/
theorem c_X2_faultOfPay (l : Launch) (G : zk_G) (ad : Nat → Nat) (L : zL) (n t : Nat) (hI : sInv L n t) (c am : Int32) : zk_I (S := Unit) l yX2_faultOfPay wsX2_faultOfPay rmX2_faultOfPay G [.ref (ad 0), .int c, .int am] (zb_L G ad L ++ zb_M G ad L) (fun r _ => r = sfPay L c am) (fun _ => zb_L G ad L ++ zb_M G ad L) := by
  refine zk_bodyI (cc := cX2_faultOfPay) (maxL := 3) (ret := (some .int)) (by decide) rfl (Nat.le_of_ble_eq_true rfl) ?_
  intro p E0 s m args below meth cd A ls Q hF hQ
  obtain ⟨hx, hb, hml, hr, hts, hown, hlocks, -, hE, hP, hD, hS, hA, hA0, hl⟩ := hF
  have hK := hE.1
  have hl : lv_has ls 3 [(0, .ref (ad 0)), (1, .int c), (2, .int am)] := hl
  obtain ⟨hn, hn12, ht, ht40, hfam, hpay⟩ := id hI
  have w1 := hts _ (List.mem_of_getElem? (l := wsX2_faultOfPay) (i := 1) (a := Cond.fieldLink RX2 18 "MealAccounts$Ledger" "balanceOf" "[I") rfl)
  refine lv_aload_n hx hb dX2_faultOfPay_0 rfl (lv_at hl 0 rfl) ?_
  refine lv_iload_n hx hb dX2_faultOfPay_1 rfl (lv_at hl 1 rfl) ?_
  have hP0 : va_P G.1 vwCl ((zb_L G ad L ++ zb_M G ad L) ++ ([] : va_W)) s.heap := by rw [List.append_nil]; exact hP
  have hD0 : va_D A ((zb_L G ad L ++ zb_M G ad L) ++ ([] : va_W)) := by rw [List.append_nil]; exact hD
  refine zk_callI (wr := ([] : va_W)) (va_runV (As := [.int c]) (rest := []) ⟨hx, hb, hml, hown, hts⟩ (c_X2_hasChild l G ad L n t hI c _) (cwV 1 hts gX2_faultOfPay_X2_hasChild rfl rfl rfl (by decide +kernel) ⟨Nat.le_of_ble_eq_true rfl, Nat.le_of_ble_eq_true rfl⟩) (zk_preV hE hA0 hS (zk_Papp hP0).1 (zk_Dapp hD0).1 (va_recv hK hP (ci := 1) (q0 := 0) rfl rfl)) rfl rfl hl.1 rfl (lv_room (Nat.le_of_ble_eq_true rfl)) dX2_faultOfPay_2 ⟨Nat.le_of_ble_eq_true rfl, Nat.le_of_ble_eq_true rfl⟩) hP0 hD0 hS hA (fun r1 u2 H locs q3 hP hD hS => ?_)
  subst q3
  rw [List.append_nil] at hP hD
  have hP : va_P G.1 vwCl (zb_L G ad L ++ zb_M G ad L) H := hP
  have hD : va_D A (zb_L G ad L ++ zb_M G ad L) := hD
  refine lv_if_ne (tgt := 10) hx hb dX2_faultOfPay_5 (by decide) (fun h5_3 => ?_) (fun h5_3 => ?_)
  · have h5_3 := zk_b1 h5_3
    obtain ⟨ck, hck, rfl⟩ := sHas_nat hI h5_3
    have nck := nI_clamp (show ck < 2 ^ 31 by omega)
    refine lv_iload_n hx hb dX2_faultOfPay_10 rfl (lv_at hl 2 rfl) ?_
    refine lv_if_eq (tgt := 28) hx hb dX2_faultOfPay_11 (by decide) (fun h11_4 => ?_) (fun h11_4 => ?_)
    · refine lv_iconst (v := nI 2) hx hb dX2_faultOfPay_28 (by decide) ?_
      exact zk_reti () hQ hx hb hr hlocks hS hP hD (Nat.le_of_ble_eq_true rfl) (Nat.le_of_ble_eq_true rfl) dX2_faultOfPay_29 (by unfold sfPay; simp +decide [zk_a0, h5_3, nck, h11_4])
    · refine lv_iload_n hx hb dX2_faultOfPay_14 rfl (lv_at hl 2 rfl) ?_
      refine lv_sipush (v := (-9999)) hx hb dX2_faultOfPay_15 (by decide) ?_
      refine lv_icmp_lt (tgt := 28) hx hb dX2_faultOfPay_18 (by decide) (fun h18_5 => ?_) (fun h18_5 => ?_)
      · have h18_5 := h18_5
        refine lv_iconst (v := nI 2) hx hb dX2_faultOfPay_28 (by decide) ?_
        exact zk_reti () hQ hx hb hr hlocks hS hP hD (Nat.le_of_ble_eq_true rfl) (Nat.le_of_ble_eq_true rfl) dX2_faultOfPay_29 (by unfold sfPay; simp +decide [zk_a0, h5_3, nck, h11_4, h18_5])
      · have h18_5 := h18_5
        refine lv_iload_n hx hb dX2_faultOfPay_21 rfl (lv_at hl 2 rfl) ?_
        refine lv_sipush (v := nI 9999) hx hb dX2_faultOfPay_22 (by decide) ?_
        refine lv_icmp_le (tgt := 30) hx hb dX2_faultOfPay_25 (by decide) (fun h25_6 => ?_) (fun h25_6 => ?_)
        · have h25_6 := zk_l1 h25_6
          refine lv_iload_n hx hb dX2_faultOfPay_30 rfl (lv_at hl 2 rfl) ?_
          refine lv_if_ge (tgt := 49) hx hb dX2_faultOfPay_31 (by decide) (fun h31_7 => ?_) (fun h31_7 => ?_)
          · have h31_7 := zk_l1 h31_7
            refine lv_iconst (v := nI 0) hx hb dX2_faultOfPay_49 (by decide) ?_
            exact zk_reti () hQ hx hb hr hlocks hS hP hD (Nat.le_of_ble_eq_true rfl) (Nat.le_of_ble_eq_true rfl) dX2_faultOfPay_50 (by unfold sfPay; simp +decide [zk_a0, h5_3, nck, h11_4, h18_5, h25_6, h31_7])
          · have h31_7 := zk_l2 h31_7
            refine lv_aload_n hx hb dX2_faultOfPay_34 rfl (lv_at hl 0 rfl) ?_
            refine va_get (D := G.1) (ci := 1) (v := .ref (ad 3)) (C := RX2) (T := TX2) (N := 14) hx hb hts (fun _ h => List.mem_cons_of_mem _ (List.mem_append_right _ h)) hown hK hP 0 rfl rfl 7 (by decide) w1 (fun _ h9 => h9) rfl dX2_faultOfPay_35 ?_
            refine lv_iload_n hx hb dX2_faultOfPay_38 rfl (lv_at hl 1 rfl) ?_
            refine zk_ialdN hx hb hK hP 3 0 rfl rfl (k := ck) (n := 12) (by omega) (by omega) dX2_faultOfPay_39 ?_
            refine lv_iload_n hx hb dX2_faultOfPay_40 rfl (lv_at hl 2 rfl) ?_
            refine lv_iadd hx hb dX2_faultOfPay_41 ?_
            refine lv_if_ge (tgt := 49) hx hb dX2_faultOfPay_42 (by decide) (fun h42_8 => ?_) (fun h42_8 => ?_)
            · have h42_8 := zk_l1 h42_8
              refine lv_iconst (v := nI 0) hx hb dX2_faultOfPay_49 (by decide) ?_
              exact zk_reti () hQ hx hb hr hlocks hS hP hD (Nat.le_of_ble_eq_true rfl) (Nat.le_of_ble_eq_true rfl) dX2_faultOfPay_50 (by unfold sfPay; simp +decide [zk_a0, h5_3, nck, h11_4, h18_5, h25_6, h31_7, h42_8])
            · have h42_8 := zk_l2 h42_8
              refine lv_iconst (v := nI 3) hx hb dX2_faultOfPay_45 (by decide) ?_
              refine lv_goto (tgt := 50) hx hb dX2_faultOfPay_46 (by decide) ?_
              exact zk_reti () hQ hx hb hr hlocks hS hP hD (Nat.le_of_ble_eq_true rfl) (Nat.le_of_ble_eq_true rfl) dX2_faultOfPay_50 (by unfold sfPay; simp +decide [zk_a0, h5_3, nck, h11_4, h18_5, h25_6, h31_7, h42_8])
        · have h25_6 := zk_l2 h25_6
          refine lv_iconst (v := nI 2) hx hb dX2_faultOfPay_28 (by decide) ?_
          exact zk_reti () hQ hx hb hr hlocks hS hP hD (Nat.le_of_ble_eq_true rfl) (Nat.le_of_ble_eq_true rfl) dX2_faultOfPay_29 (by unfold sfPay; simp +decide [zk_a0, h5_3, nck, h11_4, h18_5, h25_6])
  · have h5_3 := zk_b0 h5_3
    refine lv_iconst (v := nI 1) hx hb dX2_faultOfPay_8 (by decide) ?_
    exact zk_reti () hQ hx hb hr hlocks hS hP hD (Nat.le_of_ble_eq_true rfl) (Nat.le_of_ble_eq_true rfl) dX2_faultOfPay_9 (by unfold sfPay; simp +decide [zk_a0, h5_3])

abbrev rmX2_faultOfMove : Room := { frames := 1, cells := 0, slots := 0, locals := 21 }
set_option maxHeartbeats 4000000 in
set_option maxRecDepth 100000 in
/-- what speaks against a move -/
theorem c_X2_faultOfMove (l : Launch) (G : zk_G) (ad : Nat → Nat) (L : zL) (n t : Nat) (hI : sInv L n t) (c ot am : Int32) : zk_I (S := Unit) l yX2_faultOfMove wsX2_faultOfMove rmX2_faultOfMove G [.ref (ad 0), .int c, .int ot, .int am] (zb_L G ad L ++ zb_M G ad L) (fun r _ => r = sfMove L c ot am) (fun _ => zb_L G ad L ++ zb_M G ad L) := by
  refine zk_bodyI (cc := cX2_faultOfMove) (maxL := 5) (ret := (some .int)) (by decide) rfl (Nat.le_of_ble_eq_true rfl) ?_
  intro p E0 s m args below meth cd A ls Q hF hQ
  obtain ⟨hx, hb, hml, hr, hts, hown, hlocks, -, hE, hP, hD, hS, hA, hA0, hl⟩ := hF
  have hK := hE.1
  have hl : lv_has ls 5 [(0, .ref (ad 0)), (1, .int c), (2, .int ot), (3, .int am)] := hl
  obtain ⟨hn, hn12, ht, ht40, hfam, hpay⟩ := id hI
  have w1 := hts _ (List.mem_of_getElem? (l := wsX2_faultOfMove) (i := 1) (a := Cond.fieldLink RX2 9 "MealAccounts$Ledger" "familyOf" "[I") rfl)
  have w2 := hts _ (List.mem_of_getElem? (l := wsX2_faultOfMove) (i := 2) (a := Cond.fieldLink RX2 18 "MealAccounts$Ledger" "balanceOf" "[I") rfl)
  refine lv_aload_n hx hb dX2_faultOfMove_0 rfl (lv_at hl 0 rfl) ?_
  refine lv_iload_n hx hb dX2_faultOfMove_1 rfl (lv_at hl 1 rfl) ?_
  have hP0 : va_P G.1 vwCl ((zb_L G ad L ++ zb_M G ad L) ++ ([] : va_W)) s.heap := by rw [List.append_nil]; exact hP
  have hD0 : va_D A ((zb_L G ad L ++ zb_M G ad L) ++ ([] : va_W)) := by rw [List.append_nil]; exact hD
  refine zk_callI (wr := ([] : va_W)) (va_runV (As := [.int c]) (rest := []) ⟨hx, hb, hml, hown, hts⟩ (c_X2_hasChild l G ad L n t hI c _) (cwV 1 hts gX2_faultOfMove_X2_hasChild rfl rfl rfl (by decide +kernel) ⟨Nat.le_of_ble_eq_true rfl, Nat.le_of_ble_eq_true rfl⟩) (zk_preV hE hA0 hS (zk_Papp hP0).1 (zk_Dapp hD0).1 (va_recv hK hP (ci := 1) (q0 := 0) rfl rfl)) rfl rfl hl.1 rfl (lv_room (Nat.le_of_ble_eq_true rfl)) dX2_faultOfMove_2 ⟨Nat.le_of_ble_eq_true rfl, Nat.le_of_ble_eq_true rfl⟩) hP0 hD0 hS hA (fun r1 u2 H locs q3 hP hD hS => ?_)
  subst q3
  rw [List.append_nil] at hP hD
  have hP : va_P G.1 vwCl (zb_L G ad L ++ zb_M G ad L) H := hP
  have hD : va_D A (zb_L G ad L ++ zb_M G ad L) := hD
  refine lv_if_eq (tgt := 16) hx hb dX2_faultOfMove_5 (by decide) (fun h5_3 => ?_) (fun h5_3 => ?_)
  · have h5_3 := zk_b0 h5_3
    refine lv_iconst (v := nI 1) hx hb dX2_faultOfMove_16 (by decide) ?_
    exact zk_reti () hQ hx hb hr hlocks hS hP hD (Nat.le_of_ble_eq_true rfl) (Nat.le_of_ble_eq_true rfl) dX2_faultOfMove_17 (by unfold sfMove; simp +decide [zk_a0, h5_3])
  · have h5_3 := zk_b1 h5_3
    obtain ⟨ck, hck, rfl⟩ := sHas_nat hI h5_3
    have nck := nI_clamp (show ck < 2 ^ 31 by omega)
    refine lv_aload_n hx hb dX2_faultOfMove_8 rfl (lv_at hl 0 rfl) ?_
    refine lv_iload_n hx hb dX2_faultOfMove_9 rfl (lv_at hl 2 rfl) ?_
    have hP0 : va_P G.1 vwCl ((zb_L G ad L ++ zb_M G ad L) ++ ([] : va_W)) H := by rw [List.append_nil]; exact hP
    have hD0 : va_D A ((zb_L G ad L ++ zb_M G ad L) ++ ([] : va_W)) := by rw [List.append_nil]; exact hD
    refine zk_callI (wr := ([] : va_W)) (va_runV (As := [.int ot]) (rest := []) ⟨hx, hb, hml, hown, hts⟩ (c_X2_hasChild l G ad L n t hI ot _) (cwV 1 hts gX2_faultOfMove_X2_hasChild rfl rfl rfl (by decide +kernel) ⟨Nat.le_of_ble_eq_true rfl, Nat.le_of_ble_eq_true rfl⟩) (zk_preV hE hA0 hS (zk_Papp hP0).1 (zk_Dapp hD0).1 (va_recv hK hP (ci := 1) (q0 := 0) rfl rfl)) rfl rfl hl.1 rfl (lv_room (Nat.le_of_ble_eq_true rfl)) dX2_faultOfMove_10 ⟨Nat.le_of_ble_eq_true rfl, Nat.le_of_ble_eq_true rfl⟩) hP0 hD0 hS hA (fun r5 u6 H locs q7 hP hD hS => ?_)
    subst q7
    rw [List.append_nil] at hP hD
    have hP : va_P G.1 vwCl (zb_L G ad L ++ zb_M G ad L) H := hP
    have hD : va_D A (zb_L G ad L ++ zb_M G ad L) := hD
    refine lv_if_ne (tgt := 18) hx hb dX2_faultOfMove_13 (by decide) (fun h13_7 => ?_) (fun h13_7 => ?_)
    · have h13_7 := zk_b1 h13_7
      obtain ⟨otk, hotk, rfl⟩ := sHas_nat hI h13_7
      have notk := nI_clamp (show otk < 2 ^ 31 by omega)
      refine lv_iload_n hx hb dX2_faultOfMove_18 rfl (lv_at hl 3 rfl) ?_
      refine lv_iconst (v := nI 1) hx hb dX2_faultOfMove_19 (by decide) ?_
      refine lv_icmp_lt (tgt := 30) hx hb dX2_faultOfMove_20 (by decide) (fun h20_8 => ?_) (fun h20_8 => ?_)
      · have h20_8 := h20_8
        refine lv_iconst (v := nI 2) hx hb dX2_faultOfMove_30 (by decide) ?_
        exact zk_reti () hQ hx hb hr hlocks hS hP hD (Nat.le_of_ble_eq_true rfl) (Nat.le_of_ble_eq_true rfl) dX2_faultOfMove_31 (by unfold sfMove; simp +decide [zk_a0, h5_3, nck, h13_7, notk, h20_8, nI_eq (show ck < 2 ^ 31 by omega) (show otk < 2 ^ 31 by omega)])
      · have h20_8 := h20_8
        refine lv_iload_n hx hb dX2_faultOfMove_23 rfl (lv_at hl 3 rfl) ?_
        refine lv_sipush (v := nI 9999) hx hb dX2_faultOfMove_24 (by decide) ?_
        refine lv_icmp_le (tgt := 32) hx hb dX2_faultOfMove_27 (by decide) (fun h27_9 => ?_) (fun h27_9 => ?_)
        · have h27_9 := zk_l1 h27_9
          refine lv_iload_n hx hb dX2_faultOfMove_32 rfl (lv_at hl 1 rfl) ?_
          refine lv_iload_n hx hb dX2_faultOfMove_33 rfl (lv_at hl 2 rfl) ?_
          refine lv_icmp_eq (tgt := 56) hx hb dX2_faultOfMove_34 (by decide) (fun h34_10 => ?_) (fun h34_10 => ?_)
          · have h34_10 := zk_eq (by omega) (by omega) h34_10
            refine lv_iconst (v := nI 0) hx hb dX2_faultOfMove_56 (by decide) ?_
            refine lv_istore (lv' := [(4, .int (nI 0)), (0, .ref (ad 0)), (1, .int (nI ck)), (2, .int (nI otk)), (3, .int am)]) hx hb dX2_faultOfMove_57 hl (by decide) rfl (fun ls hl => ?_)
            refine lv_iload hx hb dX2_faultOfMove_59 (lv_at hl 0 rfl) ?_
            refine lv_if_eq (tgt := 78) hx hb dX2_faultOfMove_61 (by decide) (fun _ => ?_) (fun z => absurd (by decide) z)
            refine lv_iconst (v := nI 3) hx hb dX2_faultOfMove_78 (by decide) ?_
            exact zk_reti () hQ hx hb hr hlocks hS hP hD (Nat.le_of_ble_eq_true rfl) (Nat.le_of_ble_eq_true rfl) dX2_faultOfMove_79 (by unfold sfMove; simp +decide [zk_a0, h5_3, nck, h13_7, notk, h20_8, h27_9, h34_10, nI_eq (show ck < 2 ^ 31 by omega) (show otk < 2 ^ 31 by omega)])
          · have h34_10 := zk_ne (by omega) (by omega) h34_10
            refine lv_aload_n hx hb dX2_faultOfMove_37 rfl (lv_at hl 0 rfl) ?_
            refine va_get (D := G.1) (ci := 1) (v := .ref (ad 1)) (C := RX2) (T := TX2) (N := 14) hx hb hts (fun _ h => List.mem_cons_of_mem _ (List.mem_append_right _ h)) hown hK hP 0 rfl rfl 5 (by decide) w1 (fun _ h9 => h9) rfl dX2_faultOfMove_38 ?_
            refine lv_iload_n hx hb dX2_faultOfMove_41 rfl (lv_at hl 1 rfl) ?_
            refine zk_ialdN hx hb hK hP 1 0 rfl rfl (k := ck) (n := 12) (by omega) (by omega) dX2_faultOfMove_42 ?_
            refine lv_aload_n hx hb dX2_faultOfMove_43 rfl (lv_at hl 0 rfl) ?_
            refine va_get (D := G.1) (ci := 1) (v := .ref (ad 1)) (C := RX2) (T := TX2) (N := 14) hx hb hts (fun _ h => List.mem_cons_of_mem _ (List.mem_append_right _ h)) hown hK hP 0 rfl rfl 5 (by decide) w1 (fun _ h9 => h9) rfl dX2_faultOfMove_44 ?_
            refine lv_iload_n hx hb dX2_faultOfMove_47 rfl (lv_at hl 2 rfl) ?_
            refine zk_ialdN hx hb hK hP 1 0 rfl rfl (k := otk) (n := 12) (by omega) (by omega) dX2_faultOfMove_48 ?_
            refine lv_icmp_ne (tgt := 56) hx hb dX2_faultOfMove_49 (by decide) (fun h49_11 => ?_) (fun h49_11 => ?_)
            · refine lv_iconst (v := nI 0) hx hb dX2_faultOfMove_56 (by decide) ?_
              refine lv_istore (lv' := [(4, .int (nI 0)), (0, .ref (ad 0)), (1, .int (nI ck)), (2, .int (nI otk)), (3, .int am)]) hx hb dX2_faultOfMove_57 hl (by decide) rfl (fun ls hl => ?_)
              refine lv_iload hx hb dX2_faultOfMove_59 (lv_at hl 0 rfl) ?_
              refine lv_if_eq (tgt := 78) hx hb dX2_faultOfMove_61 (by decide) (fun _ => ?_) (fun z => absurd (by decide) z)
              refine lv_iconst (v := nI 3) hx hb dX2_faultOfMove_78 (by decide) ?_
              exact zk_reti () hQ hx hb hr hlocks hS hP hD (Nat.le_of_ble_eq_true rfl) (Nat.le_of_ble_eq_true rfl) dX2_faultOfMove_79 (by unfold sfMove; simp +decide [zk_a0, h5_3, nck, h13_7, notk, h20_8, h27_9, h34_10, h49_11, nI_eq (show ck < 2 ^ 31 by omega) (show otk < 2 ^ 31 by omega)])
            · refine lv_iconst (v := nI 1) hx hb dX2_faultOfMove_52 (by decide) ?_
              refine lv_goto (tgt := 57) hx hb dX2_faultOfMove_53 (by decide) ?_
              refine lv_istore (lv' := [(4, .int (nI 1)), (0, .ref (ad 0)), (1, .int (nI ck)), (2, .int (nI otk)), (3, .int am)]) hx hb dX2_faultOfMove_57 hl (by decide) rfl (fun ls hl => ?_)
              refine lv_iload hx hb dX2_faultOfMove_59 (lv_at hl 0 rfl) ?_
              refine lv_if_eq (tgt := 78) hx hb dX2_faultOfMove_61 (by decide) (fun z => absurd z (by decide)) (fun _ => ?_)
              refine lv_aload_n hx hb dX2_faultOfMove_64 rfl (lv_at hl 1 rfl) ?_
              refine va_get (D := G.1) (ci := 1) (v := .ref (ad 3)) (C := RX2) (T := TX2) (N := 14) hx hb hts (fun _ h => List.mem_cons_of_mem _ (List.mem_append_right _ h)) hown hK hP 0 rfl rfl 7 (by decide) w2 (fun _ h9 => h9) rfl dX2_faultOfMove_65 ?_
              refine lv_iload_n hx hb dX2_faultOfMove_68 rfl (lv_at hl 2 rfl) ?_
              refine zk_ialdN hx hb hK hP 3 0 rfl rfl (k := ck) (n := 12) (by omega) (by omega) dX2_faultOfMove_69 ?_
              refine lv_iload_n hx hb dX2_faultOfMove_70 rfl (lv_at hl 4 rfl) ?_
              refine lv_icmp_lt (tgt := 78) hx hb dX2_faultOfMove_71 (by decide) (fun h71_12 => ?_) (fun h71_12 => ?_)
              · have h71_12 := h71_12
                refine lv_iconst (v := nI 3) hx hb dX2_faultOfMove_78 (by decide) ?_
                exact zk_reti () hQ hx hb hr hlocks hS hP hD (Nat.le_of_ble_eq_true rfl) (Nat.le_of_ble_eq_true rfl) dX2_faultOfMove_79 (by unfold sfMove; simp +decide [zk_a0, h5_3, nck, h13_7, notk, h20_8, h27_9, h34_10, h49_11, h71_12, nI_eq (show ck < 2 ^ 31 by omega) (show otk < 2 ^ 31 by omega)])
              · have h71_12 := h71_12
                refine lv_iconst (v := nI 0) hx hb dX2_faultOfMove_74 (by decide) ?_
                refine lv_goto (tgt := 79) hx hb dX2_faultOfMove_75 (by decide) ?_
                exact zk_reti () hQ hx hb hr hlocks hS hP hD (Nat.le_of_ble_eq_true rfl) (Nat.le_of_ble_eq_true rfl) dX2_faultOfMove_79 (by unfold sfMove; simp +decide [zk_a0, h5_3, nck, h13_7, notk, h20_8, h27_9, h34_10, h49_11, h71_12, nI_eq (show ck < 2 ^ 31 by omega) (show otk < 2 ^ 31 by omega)])
        · have h27_9 := zk_l2 h27_9
          refine lv_iconst (v := nI 2) hx hb dX2_faultOfMove_30 (by decide) ?_
          exact zk_reti () hQ hx hb hr hlocks hS hP hD (Nat.le_of_ble_eq_true rfl) (Nat.le_of_ble_eq_true rfl) dX2_faultOfMove_31 (by unfold sfMove; simp +decide [zk_a0, h5_3, nck, h13_7, notk, h20_8, h27_9, nI_eq (show ck < 2 ^ 31 by omega) (show otk < 2 ^ 31 by omega)])
    · have h13_7 := zk_b0 h13_7
      refine lv_iconst (v := nI 1) hx hb dX2_faultOfMove_16 (by decide) ?_
      exact zk_reti () hQ hx hb hr hlocks hS hP hD (Nat.le_of_ble_eq_true rfl) (Nat.le_of_ble_eq_true rfl) dX2_faultOfMove_17 (by unfold sfMove; simp +decide [zk_a0, h5_3, nck, h13_7])

abbrev rmX2_faultOfShare : Room := { frames := 1, cells := 0, slots := 0, locals := 20 }
set_option maxHeartbeats 4000000 in
set_option maxRecDepth 100000 in
/-- what speaks against sharing -/
theorem c_X2_faultOfShare (l : Launch) (G : zk_G) (ad : Nat → Nat) (L : zL) (n t : Nat) (hI : sInv L n t) (f : Int32) : zk_I (S := Unit) l yX2_faultOfShare wsX2_faultOfShare rmX2_faultOfShare G [.ref (ad 0), .int f] (zb_L G ad L ++ zb_M G ad L) (fun r _ => r = sfShare f) (fun _ => zb_L G ad L ++ zb_M G ad L) := by
  refine zk_bodyI (cc := cX2_faultOfShare) (maxL := 2) (ret := (some .int)) (by decide) rfl (Nat.le_of_ble_eq_true rfl) ?_
  intro p E0 s m args below meth cd A ls Q hF hQ
  obtain ⟨hx, hb, hml, hr, hts, hown, hlocks, -, hE, hP, hD, hS, hA, hA0, hl⟩ := hF
  have hK := hE.1
  have hl : lv_has ls 2 [(0, .ref (ad 0)), (1, .int f)] := hl
  obtain ⟨hn, hn12, ht, ht40, hfam, hpay⟩ := id hI
  have w1 := hts _ (List.mem_of_getElem? (l := wsX2_faultOfShare) (i := 1) (a := Cond.static yX5_isFamily) rfl)
  have w2 := hts _ (List.mem_of_getElem? (l := wsX2_faultOfShare) (i := 2) (a := Cond.initialized RX5) rfl)
  refine lv_iload_n hx hb dX2_faultOfShare_0 rfl (lv_at hl 1 rfl) ?_
  have hP0 : va_P G.1 vwCl (([] : va_W) ++ (zb_L G ad L ++ zb_M G ad L)) s.heap := hP
  have hD0 : va_D A (([] : va_W) ++ (zb_L G ad L ++ zb_M G ad L)) := hD
  refine zk_callI (wr := zb_L G ad L ++ zb_M G ad L) (va_runSN (As := [.int f]) (rest := []) ⟨hx, hb, hml, hown, hts⟩ (c_X5_isFamily l G f _) ⟨va_cnB 1 hts (ggX2_faultOfShare_X5_isFamily) rfl rfl rfl hE.2.1.2.2.1 w2 (by decide +kernel) ⟨Nat.le_of_ble_eq_true rfl, Nat.le_of_ble_eq_true rfl⟩, w1, trivial⟩ (zk_preS hE hA0 hS (zk_Papp hP0).1 (zk_Dapp hD0).1) rfl rfl hl.1 rfl (lv_room (Nat.le_of_ble_eq_true rfl)) dX2_faultOfShare_1 ⟨Nat.le_of_ble_eq_true rfl, Nat.le_of_ble_eq_true rfl⟩) hP0 hD0 hS hA (fun r1 u2 H locs q3 hP hD hS => ?_)
  subst q3
  have hP : va_P G.1 vwCl (zb_L G ad L ++ zb_M G ad L) H := hP
  have hD : va_D A (zb_L G ad L ++ zb_M G ad L) := hD
  refine lv_if_eq (tgt := 11) hx hb dX2_faultOfShare_4 (by decide) (fun h4_3 => ?_) (fun h4_3 => ?_)
  · have h4_3 := zk_b0 h4_3
    refine lv_iconst (v := nI 1) hx hb dX2_faultOfShare_11 (by decide) ?_
    exact zk_reti () hQ hx hb hr hlocks hS hP hD (Nat.le_of_ble_eq_true rfl) (Nat.le_of_ble_eq_true rfl) dX2_faultOfShare_12 (by unfold sfShare; simp +decide [zk_a0, h4_3])
  · have h4_3 := zk_b1 h4_3
    refine lv_iconst (v := nI 0) hx hb dX2_faultOfShare_7 (by decide) ?_
    refine lv_goto (tgt := 12) hx hb dX2_faultOfShare_8 (by decide) ?_
    exact zk_reti () hQ hx hb hr hlocks hS hP hD (Nat.le_of_ble_eq_true rfl) (Nat.le_of_ble_eq_true rfl) dX2_faultOfShare_12 (by unfold sfShare; simp +decide [zk_a0, h4_3])

abbrev rmX2_faultOfEntitle : Room := { frames := 1, cells := 0, slots := 0, locals := 21 }
set_option maxHeartbeats 4000000 in
set_option maxRecDepth 100000 in
/-- what speaks against an entitlement -/
theorem c_X2_faultOfEntitle (l : Launch) (G : zk_G) (ad : Nat → Nat) (L : zL) (n t : Nat) (hI : sInv L n t) (c fr to : Int32) : zk_I (S := Unit) l yX2_faultOfEntitle wsX2_faultOfEntitle rmX2_faultOfEntitle G [.ref (ad 0), .int c, .int fr, .int to] (zb_L G ad L ++ zb_M G ad L) (fun r _ => r = sfEnt L c fr to) (fun _ => zb_L G ad L ++ zb_M G ad L) := by
  refine zk_bodyI (cc := cX2_faultOfEntitle) (maxL := 4) (ret := (some .int)) (by decide) rfl (Nat.le_of_ble_eq_true rfl) ?_
  intro p E0 s m args below meth cd A ls Q hF hQ
  obtain ⟨hx, hb, hml, hr, hts, hown, hlocks, -, hE, hP, hD, hS, hA, hA0, hl⟩ := hF
  have hK := hE.1
  have hl : lv_has ls 4 [(0, .ref (ad 0)), (1, .int c), (2, .int fr), (3, .int to)] := hl
  obtain ⟨hn, hn12, ht, ht40, hfam, hpay⟩ := id hI
  have w7 := hts _ (List.mem_of_getElem? (l := wsX2_faultOfEntitle) (i := 7) (a := Cond.static yX5_isDay) rfl)
  have w8 := hts _ (List.mem_of_getElem? (l := wsX2_faultOfEntitle) (i := 8) (a := Cond.initialized RX5) rfl)
  refine lv_aload_n hx hb dX2_faultOfEntitle_0 rfl (lv_at hl 0 rfl) ?_
  refine lv_iload_n hx hb dX2_faultOfEntitle_1 rfl (lv_at hl 1 rfl) ?_
  have hP0 : va_P G.1 vwCl ((zb_L G ad L ++ zb_M G ad L) ++ ([] : va_W)) s.heap := by rw [List.append_nil]; exact hP
  have hD0 : va_D A ((zb_L G ad L ++ zb_M G ad L) ++ ([] : va_W)) := by rw [List.append_nil]; exact hD
  refine zk_callI (wr := ([] : va_W)) (va_runV (As := [.int c]) (rest := []) ⟨hx, hb, hml, hown, hts⟩ (c_X2_hasChild l G ad L n t hI c _) (cwV 1 hts gX2_faultOfEntitle_X2_hasChild rfl rfl rfl (by decide +kernel) ⟨Nat.le_of_ble_eq_true rfl, Nat.le_of_ble_eq_true rfl⟩) (zk_preV hE hA0 hS (zk_Papp hP0).1 (zk_Dapp hD0).1 (va_recv hK hP (ci := 1) (q0 := 0) rfl rfl)) rfl rfl hl.1 rfl (lv_room (Nat.le_of_ble_eq_true rfl)) dX2_faultOfEntitle_2 ⟨Nat.le_of_ble_eq_true rfl, Nat.le_of_ble_eq_true rfl⟩) hP0 hD0 hS hA (fun r1 u2 H locs q3 hP hD hS => ?_)
  subst q3
  rw [List.append_nil] at hP hD
  have hP : va_P G.1 vwCl (zb_L G ad L ++ zb_M G ad L) H := hP
  have hD : va_D A (zb_L G ad L ++ zb_M G ad L) := hD
  refine lv_if_eq (tgt := 15) hx hb dX2_faultOfEntitle_5 (by decide) (fun h5_3 => ?_) (fun h5_3 => ?_)
  · have h5_3 := zk_b0 h5_3
    refine lv_iconst (v := nI 1) hx hb dX2_faultOfEntitle_15 (by decide) ?_
    exact zk_reti () hQ hx hb hr hlocks hS hP hD (Nat.le_of_ble_eq_true rfl) (Nat.le_of_ble_eq_true rfl) dX2_faultOfEntitle_16 (by unfold sfEnt; simp +decide [zk_a0, h5_3])
  · have h5_3 := zk_b1 h5_3
    refine lv_iload_n hx hb dX2_faultOfEntitle_8 rfl (lv_at hl 2 rfl) ?_
    have hP0 : va_P G.1 vwCl (([] : va_W) ++ (zb_L G ad L ++ zb_M G ad L)) H := hP
    have hD0 : va_D A (([] : va_W) ++ (zb_L G ad L ++ zb_M G ad L)) := hD
    refine zk_callI (wr := zb_L G ad L ++ zb_M G ad L) (va_runSN (As := [.int fr]) (rest := []) ⟨hx, hb, hml, hown, hts⟩ (c_X5_isDay l G fr _) ⟨va_cnB 1 hts (ggX2_faultOfEntitle_X5_isDay) rfl rfl rfl hE.2.1.2.2.2.1 w8 (by decide +kernel) ⟨Nat.le_of_ble_eq_true rfl, Nat.le_of_ble_eq_true rfl⟩, w7, trivial⟩ (zk_preS hE hA0 hS (zk_Papp hP0).1 (zk_Dapp hD0).1) rfl rfl hl.1 rfl (lv_room (Nat.le_of_ble_eq_true rfl)) dX2_faultOfEntitle_9 ⟨Nat.le_of_ble_eq_true rfl, Nat.le_of_ble_eq_true rfl⟩) hP0 hD0 hS hA (fun r5 u6 H locs q7 hP hD hS => ?_)
    subst q7
    have hP : va_P G.1 vwCl (zb_L G ad L ++ zb_M G ad L) H := hP
    have hD : va_D A (zb_L G ad L ++ zb_M G ad L) := hD
    refine lv_if_ne (tgt := 17) hx hb dX2_faultOfEntitle_12 (by decide) (fun h12_7 => ?_) (fun h12_7 => ?_)
    · have h12_7 := zk_b1 h12_7
      refine lv_iload_n hx hb dX2_faultOfEntitle_17 rfl (lv_at hl 3 rfl) ?_
      refine lv_iconst (v := -1) hx hb dX2_faultOfEntitle_18 (by decide) ?_
      refine lv_icmp_eq (tgt := 34) hx hb dX2_faultOfEntitle_19 (by decide) (fun h19_8 => ?_) (fun h19_8 => ?_)
      · refine lv_iconst (v := nI 0) hx hb dX2_faultOfEntitle_34 (by decide) ?_
        refine lv_goto (tgt := 39) hx hb dX2_faultOfEntitle_35 (by decide) ?_
        exact zk_reti () hQ hx hb hr hlocks hS hP hD (Nat.le_of_ble_eq_true rfl) (Nat.le_of_ble_eq_true rfl) dX2_faultOfEntitle_39 (by unfold sfEnt; simp +decide [zk_a0, h5_3, h12_7, h19_8])
      · refine lv_iload_n hx hb dX2_faultOfEntitle_22 rfl (lv_at hl 3 rfl) ?_
        refine lv_iload_n hx hb dX2_faultOfEntitle_23 rfl (lv_at hl 2 rfl) ?_
        refine lv_icmp_lt (tgt := 38) hx hb dX2_faultOfEntitle_24 (by decide) (fun h24_9 => ?_) (fun h24_9 => ?_)
        · have h24_9 := h24_9
          refine lv_iconst (v := nI 2) hx hb dX2_faultOfEntitle_38 (by decide) ?_
          exact zk_reti () hQ hx hb hr hlocks hS hP hD (Nat.le_of_ble_eq_true rfl) (Nat.le_of_ble_eq_true rfl) dX2_faultOfEntitle_39 (by unfold sfEnt; simp +decide [zk_a0, h5_3, h12_7, h19_8, h24_9])
        · have h24_9 := h24_9
          refine lv_iload_n hx hb dX2_faultOfEntitle_27 rfl (lv_at hl 3 rfl) ?_
          have hP0 : va_P G.1 vwCl (([] : va_W) ++ (zb_L G ad L ++ zb_M G ad L)) H := hP
          have hD0 : va_D A (([] : va_W) ++ (zb_L G ad L ++ zb_M G ad L)) := hD
          refine zk_callI (wr := zb_L G ad L ++ zb_M G ad L) (va_runSN (As := [.int to]) (rest := []) ⟨hx, hb, hml, hown, hts⟩ (c_X5_isDay l G to _) ⟨va_cnB 1 hts (ggX2_faultOfEntitle_X5_isDay) rfl rfl rfl hE.2.1.2.2.2.1 w8 (by decide +kernel) ⟨Nat.le_of_ble_eq_true rfl, Nat.le_of_ble_eq_true rfl⟩, w7, trivial⟩ (zk_preS hE hA0 hS (zk_Papp hP0).1 (zk_Dapp hD0).1) rfl rfl hl.1 rfl (lv_room (Nat.le_of_ble_eq_true rfl)) dX2_faultOfEntitle_28 ⟨Nat.le_of_ble_eq_true rfl, Nat.le_of_ble_eq_true rfl⟩) hP0 hD0 hS hA (fun r11 u12 H locs q13 hP hD hS => ?_)
          subst q13
          have hP : va_P G.1 vwCl (zb_L G ad L ++ zb_M G ad L) H := hP
          have hD : va_D A (zb_L G ad L ++ zb_M G ad L) := hD
          refine lv_if_eq (tgt := 38) hx hb dX2_faultOfEntitle_31 (by decide) (fun h31_13 => ?_) (fun h31_13 => ?_)
          · have h31_13 := zk_b0 h31_13
            refine lv_iconst (v := nI 2) hx hb dX2_faultOfEntitle_38 (by decide) ?_
            exact zk_reti () hQ hx hb hr hlocks hS hP hD (Nat.le_of_ble_eq_true rfl) (Nat.le_of_ble_eq_true rfl) dX2_faultOfEntitle_39 (by unfold sfEnt; simp +decide [zk_a0, h5_3, h12_7, h19_8, h24_9, h31_13])
          · have h31_13 := zk_b1 h31_13
            refine lv_iconst (v := nI 0) hx hb dX2_faultOfEntitle_34 (by decide) ?_
            refine lv_goto (tgt := 39) hx hb dX2_faultOfEntitle_35 (by decide) ?_
            exact zk_reti () hQ hx hb hr hlocks hS hP hD (Nat.le_of_ble_eq_true rfl) (Nat.le_of_ble_eq_true rfl) dX2_faultOfEntitle_39 (by unfold sfEnt; simp +decide [zk_a0, h5_3, h12_7, h19_8, h24_9, h31_13])
    · have h12_7 := zk_b0 h12_7
      refine lv_iconst (v := nI 1) hx hb dX2_faultOfEntitle_15 (by decide) ?_
      exact zk_reti () hQ hx hb hr hlocks hS hP hD (Nat.le_of_ble_eq_true rfl) (Nat.le_of_ble_eq_true rfl) dX2_faultOfEntitle_16 (by unfold sfEnt; simp +decide [zk_a0, h5_3, h12_7])

abbrev rmX2_faultOfWriteOff : Room := { frames := 1, cells := 0, slots := 0, locals := 23 }
set_option maxHeartbeats 4000000 in
set_option maxRecDepth 100000 in
/-- what speaks against writing off -/
theorem c_X2_faultOfWriteOff (l : Launch) (G : zk_G) (ad : Nat → Nat) (L : zL) (n t : Nat) (hI : sInv L n t) (f : Int32) : zk_I (S := Unit) l yX2_faultOfWriteOff wsX2_faultOfWriteOff rmX2_faultOfWriteOff G [.ref (ad 0), .int f] (zb_L G ad L ++ zb_M G ad L) (fun r _ => r = sfOff L n f) (fun _ => zb_L G ad L ++ zb_M G ad L) := by
  refine zk_bodyI (cc := cX2_faultOfWriteOff) (maxL := 2) (ret := (some .int)) (by decide) rfl (Nat.le_of_ble_eq_true rfl) ?_
  intro p E0 s m args below meth cd A ls Q hF hQ
  obtain ⟨hx, hb, hml, hr, hts, hown, hlocks, -, hE, hP, hD, hS, hA, hA0, hl⟩ := hF
  have hK := hE.1
  have hl : lv_has ls 2 [(0, .ref (ad 0)), (1, .int f)] := hl
  obtain ⟨hn, hn12, ht, ht40, hfam, hpay⟩ := id hI
  have w1 := hts _ (List.mem_of_getElem? (l := wsX2_faultOfWriteOff) (i := 1) (a := Cond.static yX5_isFamily) rfl)
  have w2 := hts _ (List.mem_of_getElem? (l := wsX2_faultOfWriteOff) (i := 2) (a := Cond.initialized RX5) rfl)
  refine lv_iload_n hx hb dX2_faultOfWriteOff_0 rfl (lv_at hl 1 rfl) ?_
  have hP0 : va_P G.1 vwCl (([] : va_W) ++ (zb_L G ad L ++ zb_M G ad L)) s.heap := hP
  have hD0 : va_D A (([] : va_W) ++ (zb_L G ad L ++ zb_M G ad L)) := hD
  refine zk_callI (wr := zb_L G ad L ++ zb_M G ad L) (va_runSN (As := [.int f]) (rest := []) ⟨hx, hb, hml, hown, hts⟩ (c_X5_isFamily l G f _) ⟨va_cnB 1 hts (ggX2_faultOfWriteOff_X5_isFamily) rfl rfl rfl hE.2.1.2.2.1 w2 (by decide +kernel) ⟨Nat.le_of_ble_eq_true rfl, Nat.le_of_ble_eq_true rfl⟩, w1, trivial⟩ (zk_preS hE hA0 hS (zk_Papp hP0).1 (zk_Dapp hD0).1) rfl rfl hl.1 rfl (lv_room (Nat.le_of_ble_eq_true rfl)) dX2_faultOfWriteOff_1 ⟨Nat.le_of_ble_eq_true rfl, Nat.le_of_ble_eq_true rfl⟩) hP0 hD0 hS hA (fun r1 u2 H locs q3 hP hD hS => ?_)
  subst q3
  have hP : va_P G.1 vwCl (zb_L G ad L ++ zb_M G ad L) H := hP
  have hD : va_D A (zb_L G ad L ++ zb_M G ad L) := hD
  refine lv_if_ne (tgt := 9) hx hb dX2_faultOfWriteOff_4 (by decide) (fun h4_3 => ?_) (fun h4_3 => ?_)
  · have h4_3 := zk_b1 h4_3
    refine lv_aload_n hx hb dX2_faultOfWriteOff_9 rfl (lv_at hl 0 rfl) ?_
    refine lv_iload_n hx hb dX2_faultOfWriteOff_10 rfl (lv_at hl 1 rfl) ?_
    have hP0 : va_P G.1 vwCl ((zb_L G ad L ++ zb_M G ad L) ++ ([] : va_W)) H := by rw [List.append_nil]; exact hP
    have hD0 : va_D A ((zb_L G ad L ++ zb_M G ad L) ++ ([] : va_W)) := by rw [List.append_nil]; exact hD
    refine zk_callI (wr := ([] : va_W)) (va_runV (As := [.int f]) (rest := []) ⟨hx, hb, hml, hown, hts⟩ (c_X2_debtOf l G ad L n t hI f _) (cwV 1 hts gX2_faultOfWriteOff_X2_debtOf rfl rfl rfl (by decide +kernel) ⟨Nat.le_of_ble_eq_true rfl, Nat.le_of_ble_eq_true rfl⟩) (zk_preV hE hA0 hS (zk_Papp hP0).1 (zk_Dapp hD0).1 (va_recv hK hP (ci := 1) (q0 := 0) rfl rfl)) rfl rfl hl.1 rfl (lv_room (Nat.le_of_ble_eq_true rfl)) dX2_faultOfWriteOff_11 ⟨Nat.le_of_ble_eq_true rfl, Nat.le_of_ble_eq_true rfl⟩) hP0 hD0 hS hA (fun r5 u6 H locs q7 hP hD hS => ?_)
    subst q7
    rw [List.append_nil] at hP hD
    have hP : va_P G.1 vwCl (zb_L G ad L ++ zb_M G ad L) H := hP
    have hD : va_D A (zb_L G ad L ++ zb_M G ad L) := hD
    refine lv_if_ne (tgt := 21) hx hb dX2_faultOfWriteOff_14 (by decide) (fun h14_7 => ?_) (fun h14_7 => ?_)
    · refine lv_iconst (v := nI 0) hx hb dX2_faultOfWriteOff_21 (by decide) ?_
      exact zk_reti () hQ hx hb hr hlocks hS hP hD (Nat.le_of_ble_eq_true rfl) (Nat.le_of_ble_eq_true rfl) dX2_faultOfWriteOff_22 (by unfold sfOff; simp +decide [zk_a0, h4_3, h14_7])
    · refine lv_iconst (v := nI 3) hx hb dX2_faultOfWriteOff_17 (by decide) ?_
      refine lv_goto (tgt := 22) hx hb dX2_faultOfWriteOff_18 (by decide) ?_
      exact zk_reti () hQ hx hb hr hlocks hS hP hD (Nat.le_of_ble_eq_true rfl) (Nat.le_of_ble_eq_true rfl) dX2_faultOfWriteOff_22 (by unfold sfOff; simp +decide [zk_a0, h4_3, h14_7])
  · have h4_3 := zk_b0 h4_3
    refine lv_iconst (v := nI 1) hx hb dX2_faultOfWriteOff_7 (by decide) ?_
    exact zk_reti () hQ hx hb hr hlocks hS hP hD (Nat.le_of_ble_eq_true rfl) (Nat.le_of_ble_eq_true rfl) dX2_faultOfWriteOff_8 (by unfold sfOff; simp +decide [zk_a0, h4_3])

abbrev rmX2_faultOfDays : Room := { frames := 1, cells := 0, slots := 0, locals := 20 }
set_option maxHeartbeats 4000000 in
set_option maxRecDepth 100000 in
/-- what speaks against days -/
theorem c_X2_faultOfDays (l : Launch) (G : zk_G) (ad : Nat → Nat) (L : zL) (n t : Nat) (hI : sInv L n t) (k : Int32) : zk_I (S := Unit) l yX2_faultOfDays wsX2_faultOfDays rmX2_faultOfDays G [.ref (ad 0), .int k] (zb_L G ad L ++ zb_M G ad L) (fun r _ => r = sfDays t k) (fun _ => zb_L G ad L ++ zb_M G ad L) := by
  refine zk_bodyI (cc := cX2_faultOfDays) (maxL := 2) (ret := (some .int)) (by decide) rfl (Nat.le_of_ble_eq_true rfl) ?_
  intro p E0 s m args below meth cd A ls Q hF hQ
  obtain ⟨hx, hb, hml, hr, hts, hown, hlocks, -, hE, hP, hD, hS, hA, hA0, hl⟩ := hF
  have hK := hE.1
  have hl : lv_has ls 2 [(0, .ref (ad 0)), (1, .int k)] := hl
  obtain ⟨hn, hn12, ht, ht40, hfam, hpay⟩ := id hI
  refine lv_iload_n hx hb dX2_faultOfDays_0 rfl (lv_at hl 1 rfl) ?_
  refine lv_iconst (v := nI 1) hx hb dX2_faultOfDays_1 (by decide) ?_
  refine lv_icmp_lt (tgt := 11) hx hb dX2_faultOfDays_2 (by decide) (fun h2_0 => ?_) (fun h2_0 => ?_)
  · have h2_0 := h2_0
    refine lv_iconst (v := nI 2) hx hb dX2_faultOfDays_11 (by decide) ?_
    exact zk_reti () hQ hx hb hr hlocks hS hP hD (Nat.le_of_ble_eq_true rfl) (Nat.le_of_ble_eq_true rfl) dX2_faultOfDays_12 (by unfold sfDays; simp +decide [zk_a0, h2_0])
  · have h2_0 := h2_0
    refine lv_iload_n hx hb dX2_faultOfDays_5 rfl (lv_at hl 1 rfl) ?_
    refine lv_bipush (v := nI 40) hx hb dX2_faultOfDays_6 (by decide) ?_
    refine lv_icmp_le (tgt := 13) hx hb dX2_faultOfDays_8 (by decide) (fun h8_1 => ?_) (fun h8_1 => ?_)
    · have h8_1 := zk_l1 h8_1
      refine lv_iload_n hx hb dX2_faultOfDays_13 rfl (lv_at hl 1 rfl) ?_
      refine lv_aload_n hx hb dX2_faultOfDays_14 rfl (lv_at hl 0 rfl) ?_
      have hP0 : va_P G.1 vwCl ((zb_L G ad L ++ zb_M G ad L) ++ ([] : va_W)) s.heap := by rw [List.append_nil]; exact hP
      have hD0 : va_D A ((zb_L G ad L ++ zb_M G ad L) ++ ([] : va_W)) := by rw [List.append_nil]; exact hD
      refine zk_callI (wr := ([] : va_W)) (va_runV (As := []) (rest := [.int k]) ⟨hx, hb, hml, hown, hts⟩ (c_X2_daysLeft l G ad L n t hI _) (cwV 0 hts gX2_faultOfDays_X2_daysLeft rfl rfl rfl (by decide +kernel) ⟨Nat.le_of_ble_eq_true rfl, Nat.le_of_ble_eq_true rfl⟩) (zk_preV hE hA0 hS (zk_Papp hP0).1 (zk_Dapp hD0).1 (va_recv hK hP (ci := 1) (q0 := 0) rfl rfl)) rfl rfl hl.1 rfl (lv_room (Nat.le_of_ble_eq_true rfl)) dX2_faultOfDays_15 ⟨Nat.le_of_ble_eq_true rfl, Nat.le_of_ble_eq_true rfl⟩) hP0 hD0 hS hA (fun r3 u4 H locs q5 hP hD hS => ?_)
      subst q5
      rw [List.append_nil] at hP hD
      have hP : va_P G.1 vwCl (zb_L G ad L ++ zb_M G ad L) H := hP
      have hD : va_D A (zb_L G ad L ++ zb_M G ad L) := hD
      refine lv_icmp_le (tgt := 25) hx hb dX2_faultOfDays_18 (by decide) (fun h18_5 => ?_) (fun h18_5 => ?_)
      · have h18_5 := zk_l1 h18_5
        refine lv_iconst (v := nI 0) hx hb dX2_faultOfDays_25 (by decide) ?_
        exact zk_reti () hQ hx hb hr hlocks hS hP hD (Nat.le_of_ble_eq_true rfl) (Nat.le_of_ble_eq_true rfl) dX2_faultOfDays_26 (by unfold sfDays; simp +decide [zk_a0, h2_0, h8_1, h18_5])
      · have h18_5 := zk_l2 h18_5
        refine lv_iconst (v := nI 3) hx hb dX2_faultOfDays_21 (by decide) ?_
        refine lv_goto (tgt := 26) hx hb dX2_faultOfDays_22 (by decide) ?_
        exact zk_reti () hQ hx hb hr hlocks hS hP hD (Nat.le_of_ble_eq_true rfl) (Nat.le_of_ble_eq_true rfl) dX2_faultOfDays_26 (by unfold sfDays; simp +decide [zk_a0, h2_0, h8_1, h18_5])
    · have h8_1 := zk_l2 h8_1
      refine lv_iconst (v := nI 2) hx hb dX2_faultOfDays_11 (by decide) ?_
      exact zk_reti () hQ hx hb hr hlocks hS hP hD (Nat.le_of_ble_eq_true rfl) (Nat.le_of_ble_eq_true rfl) dX2_faultOfDays_12 (by unfold sfDays; simp +decide [zk_a0, h2_0, h8_1])

abbrev rmX2_isSuited : Room := { frames := 0, cells := 0, slots := 0, locals := 0 }
set_option maxHeartbeats 4000000 in
set_option maxRecDepth 100000 in
/-- does the menu suit -/
theorem c_X2_isSuited (l : Launch) (G : zk_G) (ad : Nat → Nat) (L : zL) (n t : Nat) (hI : sInv L n t) (c d : Nat) (hc : c < n) (hd : d < 40) : zk_I (S := Unit) l yX2_isSuited wsX2_isSuited rmX2_isSuited G [.ref (ad 0), .int (nI c), .int (nI d)] (zb_L G ad L ++ zb_M G ad L) (fun r _ => r = if sSuit L c d then nI 1 else nI 0) (fun _ => zb_L G ad L ++ zb_M G ad L) := by
  refine zk_bodyI (cc := cX2_isSuited) (maxL := 3) (ret := (some .boolean)) (by decide) rfl (Nat.le_of_ble_eq_true rfl) ?_
  intro p E0 s m args below meth cd A ls Q hF hQ
  obtain ⟨hx, hb, hml, hr, hts, hown, hlocks, -, hE, hP, hD, hS, hA, hA0, hl⟩ := hF
  have hK := hE.1
  have hl : lv_has ls 3 [(0, .ref (ad 0)), (1, .int (nI c)), (2, .int (nI d))] := hl
  obtain ⟨hn, hn12, ht, ht40, hfam, hpay⟩ := id hI
  have w1 := hts _ (List.mem_of_getElem? (l := wsX2_isSuited) (i := 1) (a := Cond.fieldLink RX2 27 "MealAccounts$Ledger" "menuOn" "[I") rfl)
  have w2 := hts _ (List.mem_of_getElem? (l := wsX2_isSuited) (i := 2) (a := Cond.fieldLink RX2 15 "MealAccounts$Ledger" "dietOf" "[I") rfl)
  refine lv_aload_n hx hb dX2_isSuited_0 rfl (lv_at hl 0 rfl) ?_
  refine va_get (D := G.1) (ci := 1) (v := .ref (ad 6)) (C := RX2) (T := TX2) (N := 14) hx hb hts (fun _ h => List.mem_cons_of_mem _ (List.mem_append_right _ h)) hown hK hP 0 rfl rfl 10 (by decide) w1 (fun _ h9 => h9) rfl dX2_isSuited_1 ?_
  refine lv_iload_n hx hb dX2_isSuited_4 rfl (lv_at hl 2 rfl) ?_
  refine zk_ialdN hx hb hK hP 6 0 rfl rfl (k := d) (n := 40) (by omega) (by omega) dX2_isSuited_5 ?_
  refine lv_aload_n hx hb dX2_isSuited_6 rfl (lv_at hl 0 rfl) ?_
  refine va_get (D := G.1) (ci := 1) (v := .ref (ad 2)) (C := RX2) (T := TX2) (N := 14) hx hb hts (fun _ h => List.mem_cons_of_mem _ (List.mem_append_right _ h)) hown hK hP 0 rfl rfl 6 (by decide) w2 (fun _ h9 => h9) rfl dX2_isSuited_7 ?_
  refine lv_iload_n hx hb dX2_isSuited_10 rfl (lv_at hl 1 rfl) ?_
  refine zk_ialdN hx hb hK hP 2 0 rfl rfl (k := c) (n := 12) (by omega) (by omega) dX2_isSuited_11 ?_
  refine lv_iand hx hb dX2_isSuited_12 ?_
  refine lv_if_ne (tgt := 20) hx hb dX2_isSuited_13 (by decide) (fun h13_0 => ?_) (fun h13_0 => ?_)
  · refine lv_iconst (v := nI 0) hx hb dX2_isSuited_20 (by decide) ?_
    exact zk_retz () hQ hx hb hr hlocks hS hP hD (Nat.le_of_ble_eq_true rfl) (Nat.le_of_ble_eq_true rfl) dX2_isSuited_21 (rfl) (by simp +decide [zk_a0, h13_0])
  · refine lv_iconst (v := nI 1) hx hb dX2_isSuited_16 (by decide) ?_
    refine lv_goto (tgt := 21) hx hb dX2_isSuited_17 (by decide) ?_
    exact zk_retz () hQ hx hb hr hlocks hS hP hD (Nat.le_of_ble_eq_true rfl) (Nat.le_of_ble_eq_true rfl) dX2_isSuited_21 (rfl) (by simp +decide [zk_a0, h13_0])

abbrev rmX2_kindWithoutPayer : Room := { frames := 1, cells := 0, slots := 0, locals := 22 }
set_option maxHeartbeats 4000000 in
set_option maxRecDepth 100000 in
/-- what becomes of a meal that nobody pays -/
theorem c_X2_kindWithoutPayer (l : Launch) (G : zk_G) (ad : Nat → Nat) (L : zL) (n t : Nat) (hI : sInv L n t) (c d : Nat) (hc : c < n) (hd : d < 40) : zk_I (S := Unit) l yX2_kindWithoutPayer wsX2_kindWithoutPayer rmX2_kindWithoutPayer G [.ref (ad 0), .int (nI c), .int (nI d)] (zb_L G ad L ++ zb_M G ad L) (fun r _ => r = sKind L c d) (fun _ => zb_L G ad L ++ zb_M G ad L) := by
  refine zk_bodyI (cc := cX2_kindWithoutPayer) (maxL := 3) (ret := (some .int)) (by decide) rfl (Nat.le_of_ble_eq_true rfl) ?_
  intro p E0 s m args below meth cd A ls Q hF hQ
  obtain ⟨hx, hb, hml, hr, hts, hown, hlocks, -, hE, hP, hD, hS, hA, hA0, hl⟩ := hF
  have hK := hE.1
  have hl : lv_has ls 3 [(0, .ref (ad 0)), (1, .int (nI c)), (2, .int (nI d))] := hl
  obtain ⟨hn, hn12, ht, ht40, hfam, hpay⟩ := id hI
  refine lv_aload_n hx hb dX2_kindWithoutPayer_0 rfl (lv_at hl 0 rfl) ?_
  refine lv_iload_n hx hb dX2_kindWithoutPayer_1 rfl (lv_at hl 1 rfl) ?_
  refine lv_iload_n hx hb dX2_kindWithoutPayer_2 rfl (lv_at hl 2 rfl) ?_
  have hP0 : va_P G.1 vwCl ((zb_L G ad L ++ zb_M G ad L) ++ ([] : va_W)) s.heap := by rw [List.append_nil]; exact hP
  have hD0 : va_D A ((zb_L G ad L ++ zb_M G ad L) ++ ([] : va_W)) := by rw [List.append_nil]; exact hD
  refine zk_callI (wr := ([] : va_W)) (va_runV (As := [.int (nI c), .int (nI d)]) (rest := []) ⟨hx, hb, hml, hown, hts⟩ (c_X2_isSuited l G ad L n t hI c d (by omega) (by omega) _) (cwV 2 hts gX2_kindWithoutPayer_X2_isSuited rfl rfl rfl (by decide +kernel) ⟨Nat.le_of_ble_eq_true rfl, Nat.le_of_ble_eq_true rfl⟩) (zk_preV hE hA0 hS (zk_Papp hP0).1 (zk_Dapp hD0).1 (va_recv hK hP (ci := 1) (q0 := 0) rfl rfl)) rfl rfl hl.1 rfl (lv_room (Nat.le_of_ble_eq_true rfl)) dX2_kindWithoutPayer_3 ⟨Nat.le_of_ble_eq_true rfl, Nat.le_of_ble_eq_true rfl⟩) hP0 hD0 hS hA (fun r1 u2 H locs q3 hP hD hS => ?_)
  subst q3
  rw [List.append_nil] at hP hD
  have hP : va_P G.1 vwCl (zb_L G ad L ++ zb_M G ad L) H := hP
  have hD : va_D A (zb_L G ad L ++ zb_M G ad L) := hD
  refine lv_if_ne (tgt := 11) hx hb dX2_kindWithoutPayer_6 (by decide) (fun h6_3 => ?_) (fun h6_3 => ?_)
  · have h6_3 := zk_b1 h6_3
    refine lv_aload_n hx hb dX2_kindWithoutPayer_11 rfl (lv_at hl 0 rfl) ?_
    refine lv_iload_n hx hb dX2_kindWithoutPayer_12 rfl (lv_at hl 1 rfl) ?_
    refine lv_iload_n hx hb dX2_kindWithoutPayer_13 rfl (lv_at hl 2 rfl) ?_
    have hP0 : va_P G.1 vwCl ((zb_L G ad L ++ zb_M G ad L) ++ ([] : va_W)) H := by rw [List.append_nil]; exact hP
    have hD0 : va_D A ((zb_L G ad L ++ zb_M G ad L) ++ ([] : va_W)) := by rw [List.append_nil]; exact hD
    refine zk_callI (wr := ([] : va_W)) (va_runV (As := [.int (nI c), .int (nI d)]) (rest := []) ⟨hx, hb, hml, hown, hts⟩ (c_X2_isEntitled l G ad L n t hI c d (by omega) (by omega) _) (cwV 2 hts gX2_kindWithoutPayer_X2_isEntitled rfl rfl rfl (by decide +kernel) ⟨Nat.le_of_ble_eq_true rfl, Nat.le_of_ble_eq_true rfl⟩) (zk_preV hE hA0 hS (zk_Papp hP0).1 (zk_Dapp hD0).1 (va_recv hK hP (ci := 1) (q0 := 0) rfl rfl)) rfl rfl hl.1 rfl (lv_room (Nat.le_of_ble_eq_true rfl)) dX2_kindWithoutPayer_14 ⟨Nat.le_of_ble_eq_true rfl, Nat.le_of_ble_eq_true rfl⟩) hP0 hD0 hS hA (fun r5 u6 H locs q7 hP hD hS => ?_)
    subst q7
    rw [List.append_nil] at hP hD
    have hP : va_P G.1 vwCl (zb_L G ad L ++ zb_M G ad L) H := hP
    have hD : va_D A (zb_L G ad L ++ zb_M G ad L) := hD
    refine lv_if_eq (tgt := 24) hx hb dX2_kindWithoutPayer_17 (by decide) (fun h17_7 => ?_) (fun h17_7 => ?_)
    · have h17_7 := zk_b0 h17_7
      refine lv_iconst (v := nI 4) hx hb dX2_kindWithoutPayer_24 (by decide) ?_
      exact zk_reti () hQ hx hb hr hlocks hS hP hD (Nat.le_of_ble_eq_true rfl) (Nat.le_of_ble_eq_true rfl) dX2_kindWithoutPayer_25 (by unfold sKind; simp +decide [zk_a0, h6_3, h17_7])
    · have h17_7 := zk_b1 h17_7
      refine lv_iconst (v := nI 3) hx hb dX2_kindWithoutPayer_20 (by decide) ?_
      refine lv_goto (tgt := 25) hx hb dX2_kindWithoutPayer_21 (by decide) ?_
      exact zk_reti () hQ hx hb hr hlocks hS hP hD (Nat.le_of_ble_eq_true rfl) (Nat.le_of_ble_eq_true rfl) dX2_kindWithoutPayer_25 (by unfold sKind; simp +decide [zk_a0, h6_3, h17_7])
  · have h6_3 := zk_b0 h6_3
    refine lv_iconst (v := nI 5) hx hb dX2_kindWithoutPayer_9 (by decide) ?_
    exact zk_reti () hQ hx hb hr hlocks hS hP hD (Nat.le_of_ble_eq_true rfl) (Nat.le_of_ble_eq_true rfl) dX2_kindWithoutPayer_10 (by unfold sKind; simp +decide [zk_a0, h6_3])

abbrev rmX2_richestSibling : Room := { frames := 0, cells := 0, slots := 0, locals := 0 }
set_option maxHeartbeats 4000000 in
set_option maxRecDepth 100000 in
/-- who can pay for a child -/
theorem c_X2_richestSibling (l : Launch) (G : zk_G) (ad : Nat → Nat) (L : zL) (n t : Nat) (hI : sInv L n t) (c : Nat) (hc : c < n) : zk_I (S := Unit) l yX2_richestSibling wsX2_richestSibling rmX2_richestSibling G [.ref (ad 0), .int (nI c)] (zb_L G ad L ++ zb_M G ad L) (fun r _ => r = (sRich L c n).1) (fun _ => zb_L G ad L ++ zb_M G ad L) := by
  refine zk_bodyI (cc := cX2_richestSibling) (maxL := 5) (ret := (some .int)) (by decide) rfl (Nat.le_of_ble_eq_true rfl) ?_
  intro p E0 s m args below meth cd A ls Q hF hQ
  obtain ⟨hx, hb, hml, hr, hts, hown, hlocks, -, hE, hP, hD, hS, hA, hA0, hl⟩ := hF
  have hK := hE.1
  have hl : lv_has ls 5 [(0, .ref (ad 0)), (1, .int (nI c))] := hl
  obtain ⟨hn, hn12, ht, ht40, hfam, hpay⟩ := id hI
  have w1 := hts _ (List.mem_of_getElem? (l := wsX2_richestSibling) (i := 1) (a := Cond.fieldLink RX2 43 "MealAccounts$Ledger" "price" "I") rfl)
  have w2 := hts _ (List.mem_of_getElem? (l := wsX2_richestSibling) (i := 2) (a := Cond.fieldLink RX2 53 "MealAccounts$Ledger" "children" "I") rfl)
  have w3 := hts _ (List.mem_of_getElem? (l := wsX2_richestSibling) (i := 3) (a := Cond.fieldLink RX2 9 "MealAccounts$Ledger" "familyOf" "[I") rfl)
  have w4 := hts _ (List.mem_of_getElem? (l := wsX2_richestSibling) (i := 4) (a := Cond.fieldLink RX2 18 "MealAccounts$Ledger" "balanceOf" "[I") rfl)
  refine lv_iconst (v := -1) hx hb dX2_richestSibling_0 (by decide) ?_
  refine lv_topi (fun x1 ex1 => ?_)
  refine lv_istore_n (lv' := [(2, .int x1), (0, .ref (ad 0)), (1, .int (nI c))]) hx hb dX2_richestSibling_1 rfl hl (by decide) rfl (fun ls hl => ?_)
  refine lv_aload_n hx hb dX2_richestSibling_2 rfl (lv_at hl 1 rfl) ?_
  refine va_get (D := G.1) (ci := 1) (v := .int (L 0 2)) (C := RX2) (T := TX2) (N := 14) hx hb hts (fun _ h => List.mem_cons_of_mem _ (List.mem_append_right _ h)) hown hK hP 0 rfl rfl 2 (by decide) w1 (fun _ h9 => h9) rfl dX2_richestSibling_3 ?_
  refine lv_iconst (v := nI 1) hx hb dX2_richestSibling_6 (by decide) ?_
  refine lv_isub hx hb dX2_richestSibling_7 ?_
  refine lv_topi (fun x2 ex2 => ?_)
  refine lv_istore_n (lv' := [(3, .int x2), (2, .int x1), (0, .ref (ad 0)), (1, .int (nI c))]) hx hb dX2_richestSibling_8 rfl hl (by decide) rfl (fun ls hl => ?_)
  refine lv_iconst (v := nI 0) hx hb dX2_richestSibling_9 (by decide) ?_
  refine lv_istore (lv' := [(4, .int (nI 0)), (3, .int x2), (2, .int x1), (0, .ref (ad 0)), (1, .int (nI c))]) hx hb dX2_richestSibling_10 hl (by decide) rfl (fun ls hl => ?_)
  have lp3 : ∀ (n5 : Nat) (i : Nat) (x : Int32) (y : Int32), n - i < n5 → (i ≤ n) → ((x, y) = sRich L c i) → ∀ (ls : Array Slot), lv_has ls 5 [(4, .int (nI i)), (3, .int y), (2, .int x), (0, .ref (ad 0)), (1, .int (nI c))] → W p l E0 rmX2_richestSibling s m args below meth cd s.heap [] 0 0 Q (F0 m 12 ls []) := by
    intro n5
    induction n5 with
    | zero => intro i x y hz; exact absurd hz (Nat.not_lt_zero _)
    | succ n5 ih4 =>
      intro i x y hm hi hq ls hl
      refine lv_iload hx hb dX2_richestSibling_12 (lv_at hl 0 rfl) ?_
      refine lv_aload_n hx hb dX2_richestSibling_14 rfl (lv_at hl 3 rfl) ?_
      refine va_get (D := G.1) (ci := 1) (v := .int (L 0 1)) (C := RX2) (T := TX2) (N := 14) hx hb hts (fun _ h => List.mem_cons_of_mem _ (List.mem_append_right _ h)) hown hK hP 0 rfl rfl 1 (by decide) w2 (fun _ h9 => h9) rfl dX2_richestSibling_15 ?_
      refine zk_top hI.1 ?_
      refine lv_icmp_ge (tgt := 71) hx hb dX2_richestSibling_18 (by decide) (fun h18_5 => ?_) (fun h18_5 => ?_)
      · have h18_5 := zk_le (by omega) (by omega) h18_5
        refine lv_iload_n hx hb dX2_richestSibling_71 rfl (lv_at hl 2 rfl) ?_
        exact zk_reti () hQ hx hb hr hlocks hS hP hD (Nat.le_of_ble_eq_true rfl) (Nat.le_of_ble_eq_true rfl) dX2_richestSibling_72 (by rw [show i = n by omega] at hq; exact congrArg Prod.fst hq)
      · have h18_5 := zk_nle (by omega) (by omega) h18_5
        refine lv_iload hx hb dX2_richestSibling_21 (lv_at hl 0 rfl) ?_
        refine lv_iload_n hx hb dX2_richestSibling_23 rfl (lv_at hl 4 rfl) ?_
        refine lv_icmp_eq (tgt := 65) hx hb dX2_richestSibling_24 (by decide) (fun h24_6 => ?_) (fun h24_6 => ?_)
        · have h24_6 := zk_eq (by omega) (by omega) h24_6
          refine lv_iinc (v := nI (i + 1)) (lv' := [(4, .int (nI (i + 1))), (3, .int y), (2, .int x), (0, .ref (ad 0)), (1, .int (nI c))]) hx hb dX2_richestSibling_65 hl (k := 0) rfl (zk_inc i 1) (by decide) rfl (fun ls hl => ?_)
          refine lv_goto (tgt := 12) hx hb dX2_richestSibling_68 (by decide) ?_
          exact ih4 (i + 1) x y (by omega) (by omega) (by refine zfold_i hq ?_; simp +decide [zk_a0, ex1, ex2, h18_5, h24_6]) ls (lv_sub hl [0, 1, 2, 3, 4] rfl)
        · have h24_6 := zk_ne (by omega) (by omega) h24_6
          refine lv_aload_n hx hb dX2_richestSibling_27 rfl (lv_at hl 3 rfl) ?_
          refine va_get (D := G.1) (ci := 1) (v := .ref (ad 1)) (C := RX2) (T := TX2) (N := 14) hx hb hts (fun _ h => List.mem_cons_of_mem _ (List.mem_append_right _ h)) hown hK hP 0 rfl rfl 5 (by decide) w3 (fun _ h9 => h9) rfl dX2_richestSibling_28 ?_
          refine lv_iload hx hb dX2_richestSibling_31 (lv_at hl 0 rfl) ?_
          refine zk_ialdN hx hb hK hP 1 0 rfl rfl (k := i) (n := 12) (by omega) (by omega) dX2_richestSibling_33 ?_
          refine lv_aload_n hx hb dX2_richestSibling_34 rfl (lv_at hl 3 rfl) ?_
          refine va_get (D := G.1) (ci := 1) (v := .ref (ad 1)) (C := RX2) (T := TX2) (N := 14) hx hb hts (fun _ h => List.mem_cons_of_mem _ (List.mem_append_right _ h)) hown hK hP 0 rfl rfl 5 (by decide) w3 (fun _ h9 => h9) rfl dX2_richestSibling_35 ?_
          refine lv_iload_n hx hb dX2_richestSibling_38 rfl (lv_at hl 4 rfl) ?_
          refine zk_ialdN hx hb hK hP 1 0 rfl rfl (k := c) (n := 12) (by omega) (by omega) dX2_richestSibling_39 ?_
          refine lv_icmp_ne (tgt := 65) hx hb dX2_richestSibling_40 (by decide) (fun h40_7 => ?_) (fun h40_7 => ?_)
          · refine lv_iinc (v := nI (i + 1)) (lv' := [(4, .int (nI (i + 1))), (3, .int y), (2, .int x), (0, .ref (ad 0)), (1, .int (nI c))]) hx hb dX2_richestSibling_65 hl (k := 0) rfl (zk_inc i 1) (by decide) rfl (fun ls hl => ?_)
            refine lv_goto (tgt := 12) hx hb dX2_richestSibling_68 (by decide) ?_
            exact ih4 (i + 1) x y (by omega) (by omega) (by refine zfold_i hq ?_; simp +decide [zk_a0, ex1, ex2, h18_5, h24_6, h40_7]) ls (lv_sub hl [0, 1, 2, 3, 4] rfl)
          · refine lv_aload_n hx hb dX2_richestSibling_43 rfl (lv_at hl 3 rfl) ?_
            refine va_get (D := G.1) (ci := 1) (v := .ref (ad 3)) (C := RX2) (T := TX2) (N := 14) hx hb hts (fun _ h => List.mem_cons_of_mem _ (List.mem_append_right _ h)) hown hK hP 0 rfl rfl 7 (by decide) w4 (fun _ h9 => h9) rfl dX2_richestSibling_44 ?_
            refine lv_iload hx hb dX2_richestSibling_47 (lv_at hl 0 rfl) ?_
            refine zk_ialdN hx hb hK hP 3 0 rfl rfl (k := i) (n := 12) (by omega) (by omega) dX2_richestSibling_49 ?_
            refine lv_iload_n hx hb dX2_richestSibling_50 rfl (lv_at hl 1 rfl) ?_
            refine lv_icmp_le (tgt := 65) hx hb dX2_richestSibling_51 (by decide) (fun h51_8 => ?_) (fun h51_8 => ?_)
            · have h51_8 := zk_l1 h51_8
              refine lv_iinc (v := nI (i + 1)) (lv' := [(4, .int (nI (i + 1))), (3, .int y), (2, .int x), (0, .ref (ad 0)), (1, .int (nI c))]) hx hb dX2_richestSibling_65 hl (k := 0) rfl (zk_inc i 1) (by decide) rfl (fun ls hl => ?_)
              refine lv_goto (tgt := 12) hx hb dX2_richestSibling_68 (by decide) ?_
              exact ih4 (i + 1) x y (by omega) (by omega) (by refine zfold_i hq ?_; simp +decide [zk_a0, ex1, ex2, h18_5, h24_6, h40_7, h51_8]) ls (lv_sub hl [0, 1, 2, 3, 4] rfl)
            · have h51_8 := zk_l2 h51_8
              refine lv_iload hx hb dX2_richestSibling_54 (lv_at hl 0 rfl) ?_
              refine lv_istore_n (lv' := [(2, .int (nI i)), (4, .int (nI i)), (3, .int y), (0, .ref (ad 0)), (1, .int (nI c))]) hx hb dX2_richestSibling_56 rfl hl (by decide) rfl (fun ls hl => ?_)
              refine lv_aload_n hx hb dX2_richestSibling_57 rfl (lv_at hl 3 rfl) ?_
              refine va_get (D := G.1) (ci := 1) (v := .ref (ad 3)) (C := RX2) (T := TX2) (N := 14) hx hb hts (fun _ h => List.mem_cons_of_mem _ (List.mem_append_right _ h)) hown hK hP 0 rfl rfl 7 (by decide) w4 (fun _ h9 => h9) rfl dX2_richestSibling_58 ?_
              refine lv_iload hx hb dX2_richestSibling_61 (lv_at hl 1 rfl) ?_
              refine zk_ialdN hx hb hK hP 3 0 rfl rfl (k := i) (n := 12) (by omega) (by omega) dX2_richestSibling_63 ?_
              refine lv_topi (fun x10 ex10 => ?_)
              refine lv_istore_n (lv' := [(3, .int x10), (2, .int (nI i)), (4, .int (nI i)), (0, .ref (ad 0)), (1, .int (nI c))]) hx hb dX2_richestSibling_64 rfl hl (by decide) rfl (fun ls hl => ?_)
              refine lv_iinc (v := nI (i + 1)) (lv' := [(4, .int (nI (i + 1))), (3, .int x10), (2, .int (nI i)), (0, .ref (ad 0)), (1, .int (nI c))]) hx hb dX2_richestSibling_65 hl (k := 2) rfl (zk_inc i 1) (by decide) rfl (fun ls hl => ?_)
              refine lv_goto (tgt := 12) hx hb dX2_richestSibling_68 (by decide) ?_
              exact ih4 (i + 1) (nI i) x10 (by omega) (by omega) (by refine zfold_i hq ?_; simp +decide [zk_a0, ex1, ex2, h18_5, h24_6, h40_7, h51_8, ex10]) ls (lv_sub hl [0, 1, 2, 3, 4] rfl)
  exact lp3 _ 0 x1 x2 (Nat.lt_succ_self _) (by omega) (by simp [sRich, zfold, zk_a0, ex1, ex2]) ls (lv_sub hl [0, 1, 2, 3, 4] rfl)

abbrev rmX2_payerOn : Room := { frames := 1, cells := 0, slots := 0, locals := 24 }
set_option maxHeartbeats 4000000 in
set_option maxRecDepth 100000 in
/-- who is to be charged -/
theorem c_X2_payerOn (l : Launch) (G : zk_G) (ad : Nat → Nat) (L : zL) (n t : Nat) (hI : sInv L n t) (c d : Nat) (hc : c < n) (hd : d < 40) : zk_I (S := Unit) l yX2_payerOn wsX2_payerOn rmX2_payerOn G [.ref (ad 0), .int (nI c), .int (nI d)] (zb_L G ad L ++ zb_M G ad L) (fun r _ => r = sPayer L n c d) (fun _ => zb_L G ad L ++ zb_M G ad L) := by
  refine zk_bodyI (cc := cX2_payerOn) (maxL := 3) (ret := (some .int)) (by decide) rfl (Nat.le_of_ble_eq_true rfl) ?_
  intro p E0 s m args below meth cd A ls Q hF hQ
  obtain ⟨hx, hb, hml, hr, hts, hown, hlocks, -, hE, hP, hD, hS, hA, hA0, hl⟩ := hF
  have hK := hE.1
  have hl : lv_has ls 3 [(0, .ref (ad 0)), (1, .int (nI c)), (2, .int (nI d))] := hl
  obtain ⟨hn, hn12, ht, ht40, hfam, hpay⟩ := id hI
  have w1 := hts _ (List.mem_of_getElem? (l := wsX2_payerOn) (i := 1) (a := Cond.fieldLink RX2 18 "MealAccounts$Ledger" "balanceOf" "[I") rfl)
  have w2 := hts _ (List.mem_of_getElem? (l := wsX2_payerOn) (i := 2) (a := Cond.fieldLink RX2 43 "MealAccounts$Ledger" "price" "I") rfl)
  have w3 := hts _ (List.mem_of_getElem? (l := wsX2_payerOn) (i := 3) (a := Cond.fieldLink RX2 47 "MealAccounts$Ledger" "limit" "I") rfl)
  have w4 := hts _ (List.mem_of_getElem? (l := wsX2_payerOn) (i := 4) (a := Cond.fieldLink RX2 30 "MealAccounts$Ledger" "sharing" "[I") rfl)
  have w5 := hts _ (List.mem_of_getElem? (l := wsX2_payerOn) (i := 5) (a := Cond.fieldLink RX2 9 "MealAccounts$Ledger" "familyOf" "[I") rfl)
  refine lv_aload_n hx hb dX2_payerOn_0 rfl (lv_at hl 0 rfl) ?_
  refine lv_iload_n hx hb dX2_payerOn_1 rfl (lv_at hl 1 rfl) ?_
  refine lv_iload_n hx hb dX2_payerOn_2 rfl (lv_at hl 2 rfl) ?_
  have hP0 : va_P G.1 vwCl ((zb_L G ad L ++ zb_M G ad L) ++ ([] : va_W)) s.heap := by rw [List.append_nil]; exact hP
  have hD0 : va_D A ((zb_L G ad L ++ zb_M G ad L) ++ ([] : va_W)) := by rw [List.append_nil]; exact hD
  refine zk_callI (wr := ([] : va_W)) (va_runV (As := [.int (nI c), .int (nI d)]) (rest := []) ⟨hx, hb, hml, hown, hts⟩ (c_X2_isSuited l G ad L n t hI c d (by omega) (by omega) _) (cwV 2 hts gX2_payerOn_X2_isSuited rfl rfl rfl (by decide +kernel) ⟨Nat.le_of_ble_eq_true rfl, Nat.le_of_ble_eq_true rfl⟩) (zk_preV hE hA0 hS (zk_Papp hP0).1 (zk_Dapp hD0).1 (va_recv hK hP (ci := 1) (q0 := 0) rfl rfl)) rfl rfl hl.1 rfl (lv_room (Nat.le_of_ble_eq_true rfl)) dX2_payerOn_3 ⟨Nat.le_of_ble_eq_true rfl, Nat.le_of_ble_eq_true rfl⟩) hP0 hD0 hS hA (fun r1 u2 H locs q3 hP hD hS => ?_)
  subst q3
  rw [List.append_nil] at hP hD
  have hP : va_P G.1 vwCl (zb_L G ad L ++ zb_M G ad L) H := hP
  have hD : va_D A (zb_L G ad L ++ zb_M G ad L) := hD
  refine lv_if_eq (tgt := 18) hx hb dX2_payerOn_6 (by decide) (fun h6_3 => ?_) (fun h6_3 => ?_)
  · have h6_3 := zk_b0 h6_3
    refine lv_iconst (v := -1) hx hb dX2_payerOn_18 (by decide) ?_
    exact zk_reti () hQ hx hb hr hlocks hS hP hD (Nat.le_of_ble_eq_true rfl) (Nat.le_of_ble_eq_true rfl) dX2_payerOn_19 (by unfold sPayer; simp +decide [zk_a0, h6_3])
  · have h6_3 := zk_b1 h6_3
    refine lv_aload_n hx hb dX2_payerOn_9 rfl (lv_at hl 0 rfl) ?_
    refine lv_iload_n hx hb dX2_payerOn_10 rfl (lv_at hl 1 rfl) ?_
    refine lv_iload_n hx hb dX2_payerOn_11 rfl (lv_at hl 2 rfl) ?_
    have hP0 : va_P G.1 vwCl ((zb_L G ad L ++ zb_M G ad L) ++ ([] : va_W)) H := by rw [List.append_nil]; exact hP
    have hD0 : va_D A ((zb_L G ad L ++ zb_M G ad L) ++ ([] : va_W)) := by rw [List.append_nil]; exact hD
    refine zk_callI (wr := ([] : va_W)) (va_runV (As := [.int (nI c), .int (nI d)]) (rest := []) ⟨hx, hb, hml, hown, hts⟩ (c_X2_isEntitled l G ad L n t hI c d (by omega) (by omega) _) (cwV 2 hts gX2_payerOn_X2_isEntitled rfl rfl rfl (by decide +kernel) ⟨Nat.le_of_ble_eq_true rfl, Nat.le_of_ble_eq_true rfl⟩) (zk_preV hE hA0 hS (zk_Papp hP0).1 (zk_Dapp hD0).1 (va_recv hK hP (ci := 1) (q0 := 0) rfl rfl)) rfl rfl hl.1 rfl (lv_room (Nat.le_of_ble_eq_true rfl)) dX2_payerOn_12 ⟨Nat.le_of_ble_eq_true rfl, Nat.le_of_ble_eq_true rfl⟩) hP0 hD0 hS hA (fun r5 u6 H locs q7 hP hD hS => ?_)
    subst q7
    rw [List.append_nil] at hP hD
    have hP : va_P G.1 vwCl (zb_L G ad L ++ zb_M G ad L) H := hP
    have hD : va_D A (zb_L G ad L ++ zb_M G ad L) := hD
    refine lv_if_eq (tgt := 20) hx hb dX2_payerOn_15 (by decide) (fun h15_7 => ?_) (fun h15_7 => ?_)
    · have h15_7 := zk_b0 h15_7
      refine lv_aload_n hx hb dX2_payerOn_20 rfl (lv_at hl 0 rfl) ?_
      refine va_get (D := G.1) (ci := 1) (v := .ref (ad 3)) (C := RX2) (T := TX2) (N := 14) hx hb hts (fun _ h => List.mem_cons_of_mem _ (List.mem_append_right _ h)) hown hK hP 0 rfl rfl 7 (by decide) w1 (fun _ h9 => h9) rfl dX2_payerOn_21 ?_
      refine lv_iload_n hx hb dX2_payerOn_24 rfl (lv_at hl 1 rfl) ?_
      refine zk_ialdN hx hb hK hP 3 0 rfl rfl (k := c) (n := 12) (by omega) (by omega) dX2_payerOn_25 ?_
      refine lv_aload_n hx hb dX2_payerOn_26 rfl (lv_at hl 0 rfl) ?_
      refine va_get (D := G.1) (ci := 1) (v := .int (L 0 2)) (C := RX2) (T := TX2) (N := 14) hx hb hts (fun _ h => List.mem_cons_of_mem _ (List.mem_append_right _ h)) hown hK hP 0 rfl rfl 2 (by decide) w2 (fun _ h9 => h9) rfl dX2_payerOn_27 ?_
      refine lv_isub hx hb dX2_payerOn_30 ?_
      refine lv_aload_n hx hb dX2_payerOn_31 rfl (lv_at hl 0 rfl) ?_
      refine va_get (D := G.1) (ci := 1) (v := .int (L 0 3)) (C := RX2) (T := TX2) (N := 14) hx hb hts (fun _ h => List.mem_cons_of_mem _ (List.mem_append_right _ h)) hown hK hP 0 rfl rfl 3 (by decide) w3 (fun _ h9 => h9) rfl dX2_payerOn_32 ?_
      refine lv_ineg hx hb dX2_payerOn_35 ?_
      refine lv_icmp_lt (tgt := 41) hx hb dX2_payerOn_36 (by decide) (fun h36_8 => ?_) (fun h36_8 => ?_)
      · have h36_8 := h36_8
        refine lv_aload_n hx hb dX2_payerOn_41 rfl (lv_at hl 0 rfl) ?_
        refine va_get (D := G.1) (ci := 1) (v := .ref (ad 7)) (C := RX2) (T := TX2) (N := 14) hx hb hts (fun _ h => List.mem_cons_of_mem _ (List.mem_append_right _ h)) hown hK hP 0 rfl rfl 11 (by decide) w4 (fun _ h9 => h9) rfl dX2_payerOn_42 ?_
        refine lv_aload_n hx hb dX2_payerOn_45 rfl (lv_at hl 0 rfl) ?_
        refine va_get (D := G.1) (ci := 1) (v := .ref (ad 1)) (C := RX2) (T := TX2) (N := 14) hx hb hts (fun _ h => List.mem_cons_of_mem _ (List.mem_append_right _ h)) hown hK hP 0 rfl rfl 5 (by decide) w5 (fun _ h9 => h9) rfl dX2_payerOn_46 ?_
        refine lv_iload_n hx hb dX2_payerOn_49 rfl (lv_at hl 1 rfl) ?_
        refine zk_ialdN hx hb hK hP 1 0 rfl rfl (k := c) (n := 12) (by omega) (by omega) dX2_payerOn_50 ?_
        obtain ⟨fm, hfm, efm⟩ := hI.2.2.2.2.1 c hc
        refine zk_top efm ?_
        have nfm := nI_clamp (show fm < 2 ^ 31 by omega)
        refine zk_ialdN hx hb hK hP 7 0 rfl rfl (k := fm) (n := 5) (by omega) (by omega) dX2_payerOn_51 ?_
        refine lv_iconst (v := nI 1) hx hb dX2_payerOn_52 (by decide) ?_
        refine lv_icmp_ne (tgt := 64) hx hb dX2_payerOn_53 (by decide) (fun h53_9 => ?_) (fun h53_9 => ?_)
        · refine lv_iconst (v := -1) hx hb dX2_payerOn_64 (by decide) ?_
          exact zk_reti () hQ hx hb hr hlocks hS hP hD (Nat.le_of_ble_eq_true rfl) (Nat.le_of_ble_eq_true rfl) dX2_payerOn_65 (by unfold sPayer; simp +decide [zk_a0, h6_3, h15_7, h36_8, efm, nfm, h53_9])
        · refine lv_aload_n hx hb dX2_payerOn_56 rfl (lv_at hl 0 rfl) ?_
          refine lv_iload_n hx hb dX2_payerOn_57 rfl (lv_at hl 1 rfl) ?_
          have hP0 : va_P G.1 vwCl ((zb_L G ad L ++ zb_M G ad L) ++ ([] : va_W)) H := by rw [List.append_nil]; exact hP
          have hD0 : va_D A ((zb_L G ad L ++ zb_M G ad L) ++ ([] : va_W)) := by rw [List.append_nil]; exact hD
          refine zk_callI (wr := ([] : va_W)) (va_runV (As := [.int (nI c)]) (rest := []) ⟨hx, hb, hml, hown, hts⟩ (c_X2_richestSibling l G ad L n t hI c (by omega) _) (cwV 1 hts gX2_payerOn_X2_richestSibling rfl rfl rfl (by decide +kernel) ⟨Nat.le_of_ble_eq_true rfl, Nat.le_of_ble_eq_true rfl⟩) (zk_preV hE hA0 hS (zk_Papp hP0).1 (zk_Dapp hD0).1 (va_recv hK hP (ci := 1) (q0 := 0) rfl rfl)) rfl rfl hl.1 rfl (lv_room (Nat.le_of_ble_eq_true rfl)) dX2_payerOn_58 ⟨Nat.le_of_ble_eq_true rfl, Nat.le_of_ble_eq_true rfl⟩) hP0 hD0 hS hA (fun r11 u12 H locs q13 hP hD hS => ?_)
          subst q13
          rw [List.append_nil] at hP hD
          have hP : va_P G.1 vwCl (zb_L G ad L ++ zb_M G ad L) H := hP
          have hD : va_D A (zb_L G ad L ++ zb_M G ad L) := hD
          refine lv_goto (tgt := 65) hx hb dX2_payerOn_61 (by decide) ?_
          exact zk_reti () hQ hx hb hr hlocks hS hP hD (Nat.le_of_ble_eq_true rfl) (Nat.le_of_ble_eq_true rfl) dX2_payerOn_65 (by unfold sPayer; simp +decide [zk_a0, h6_3, h15_7, h36_8, efm, nfm, h53_9])
      · have h36_8 := h36_8
        refine lv_iload_n hx hb dX2_payerOn_39 rfl (lv_at hl 1 rfl) ?_
        exact zk_reti () hQ hx hb hr hlocks hS hP hD (Nat.le_of_ble_eq_true rfl) (Nat.le_of_ble_eq_true rfl) dX2_payerOn_40 (by unfold sPayer; simp +decide [zk_a0, h6_3, h15_7, h36_8])
    · have h15_7 := zk_b1 h15_7
      refine lv_iconst (v := -1) hx hb dX2_payerOn_18 (by decide) ?_
      exact zk_reti () hQ hx hb hr hlocks hS hP hD (Nat.le_of_ble_eq_true rfl) (Nat.le_of_ble_eq_true rfl) dX2_payerOn_19 (by unfold sPayer; simp +decide [zk_a0, h6_3, h15_7])

abbrev rmX2_addChild : Room := { frames := 0, cells := 0, slots := 0, locals := 0 }
set_option maxHeartbeats 4000000 in
set_option maxRecDepth 100000 in
/-- a child comes -/
theorem c_X2_addChild (l : Launch) (G : zk_G) (ad : Nat → Nat) (L : zL) (n t : Nat) (hI : sInv L n t) (f di : Int32) (hn2 : n < 12) : zk_I (S := zL) l yX2_addChild wsX2_addChild rmX2_addChild G [.ref (ad 0), .int f, .int di] (zb_L G ad L ++ zb_M G ad L) (fun r u => r = nI n ∧ u = sCome L n f di) (fun u => zb_L G ad u ++ zb_M G ad u) := by
  refine zk_bodyI (cc := cX2_addChild) (maxL := 4) (ret := (some .int)) (by decide) rfl (Nat.le_of_ble_eq_true rfl) ?_
  intro p E0 s m args below meth cd A ls Q hF hQ
  obtain ⟨hx, hb, hml, hr, hts, hown, hlocks, -, hE, hP, hD, hS, hA, hA0, hl⟩ := hF
  have hK := hE.1
  have hl : lv_has ls 4 [(0, .ref (ad 0)), (1, .int f), (2, .int di)] := hl
  obtain ⟨hn, hn12, ht, ht40, hfam, hpay⟩ := id hI
  have w1 := hts _ (List.mem_of_getElem? (l := wsX2_addChild) (i := 1) (a := Cond.fieldLink RX2 53 "MealAccounts$Ledger" "children" "I") rfl)
  have w2 := hts _ (List.mem_of_getElem? (l := wsX2_addChild) (i := 2) (a := Cond.fieldLink RX2 9 "MealAccounts$Ledger" "familyOf" "[I") rfl)
  have w3 := hts _ (List.mem_of_getElem? (l := wsX2_addChild) (i := 3) (a := Cond.fieldLink RX2 15 "MealAccounts$Ledger" "dietOf" "[I") rfl)
  have w4 := hts _ (List.mem_of_getElem? (l := wsX2_addChild) (i := 4) (a := Cond.fieldLink RX2 18 "MealAccounts$Ledger" "balanceOf" "[I") rfl)
  have w5 := hts _ (List.mem_of_getElem? (l := wsX2_addChild) (i := 5) (a := Cond.fieldLink RX2 21 "MealAccounts$Ledger" "firstDayOf" "[I") rfl)
  have w6 := hts _ (List.mem_of_getElem? (l := wsX2_addChild) (i := 6) (a := Cond.fieldLink RX2 24 "MealAccounts$Ledger" "lastDayOf" "[I") rfl)
  refine lv_aload_n hx hb dX2_addChild_0 rfl (lv_at hl 0 rfl) ?_
  refine va_get (D := G.1) (ci := 1) (v := .int (L 0 1)) (C := RX2) (T := TX2) (N := 14) hx hb hts (fun _ h => List.mem_cons_of_mem _ (List.mem_append_right _ h)) hown hK hP 0 rfl rfl 1 (by decide) w1 (fun _ h9 => h9) rfl dX2_addChild_1 ?_
  refine zk_top hI.1 ?_
  refine lv_istore_n (lv' := [(3, .int (nI n)), (0, .ref (ad 0)), (1, .int f), (2, .int di)]) hx hb dX2_addChild_4 rfl hl (by decide) rfl (fun ls hl => ?_)
  refine lv_aload_n hx hb dX2_addChild_5 rfl (lv_at hl 1 rfl) ?_
  refine va_get (D := G.1) (ci := 1) (v := .ref (ad 1)) (C := RX2) (T := TX2) (N := 14) hx hb hts (fun _ h => List.mem_cons_of_mem _ (List.mem_append_right _ h)) hown hK hP 0 rfl rfl 5 (by decide) w2 (fun _ h9 => h9) rfl dX2_addChild_6 ?_
  refine lv_iload_n hx hb dX2_addChild_9 rfl (lv_at hl 0 rfl) ?_
  refine lv_iload_n hx hb dX2_addChild_10 rfl (lv_at hl 2 rfl) ?_
  refine zk_iastN hx hb hK hP hD hS 1 0 rfl rfl (k := n) (n := 12) (by omega) (by omega) dX2_addChild_11 (fun H locs hP hD hS => ?_)
  obtain ⟨L1, eL1⟩ : ∃ z : Nat → Nat → Int32, z = up2 L 1 n f := ⟨_, rfl⟩
  have hP : va_P G.1 vwCl (zb_L G ad L1 ++ zb_M G ad L1) H := by rw [eL1]; exact hP
  have hD : va_D A (zb_L G ad L1 ++ zb_M G ad L1) := by rw [eL1]; exact hD
  refine lv_aload_n hx hb dX2_addChild_12 rfl (lv_at hl 1 rfl) ?_
  refine va_get (D := G.1) (ci := 1) (v := .ref (ad 2)) (C := RX2) (T := TX2) (N := 14) hx hb hts (fun _ h => List.mem_cons_of_mem _ (List.mem_append_right _ h)) hown hK hP 0 rfl rfl 6 (by decide) w3 (fun _ h9 => h9) rfl dX2_addChild_13 ?_
  refine lv_iload_n hx hb dX2_addChild_16 rfl (lv_at hl 0 rfl) ?_
  refine lv_iload_n hx hb dX2_addChild_17 rfl (lv_at hl 3 rfl) ?_
  refine zk_iastN hx hb hK hP hD hS 2 0 rfl rfl (k := n) (n := 12) (by omega) (by omega) dX2_addChild_18 (fun H locs hP hD hS => ?_)
  obtain ⟨L2, eL2⟩ : ∃ z : Nat → Nat → Int32, z = up2 L1 2 n di := ⟨_, rfl⟩
  have hP : va_P G.1 vwCl (zb_L G ad L2 ++ zb_M G ad L2) H := by rw [eL2]; exact hP
  have hD : va_D A (zb_L G ad L2 ++ zb_M G ad L2) := by rw [eL2]; exact hD
  refine lv_aload_n hx hb dX2_addChild_19 rfl (lv_at hl 1 rfl) ?_
  refine va_get (D := G.1) (ci := 1) (v := .ref (ad 3)) (C := RX2) (T := TX2) (N := 14) hx hb hts (fun _ h => List.mem_cons_of_mem _ (List.mem_append_right _ h)) hown hK hP 0 rfl rfl 7 (by decide) w4 (fun _ h9 => h9) rfl dX2_addChild_20 ?_
  refine lv_iload_n hx hb dX2_addChild_23 rfl (lv_at hl 0 rfl) ?_
  refine lv_iconst (v := nI 0) hx hb dX2_addChild_24 (by decide) ?_
  refine zk_iastN hx hb hK hP hD hS 3 0 rfl rfl (k := n) (n := 12) (by omega) (by omega) dX2_addChild_25 (fun H locs hP hD hS => ?_)
  obtain ⟨L3, eL3⟩ : ∃ z : Nat → Nat → Int32, z = up2 L2 3 n (nI 0) := ⟨_, rfl⟩
  have hP : va_P G.1 vwCl (zb_L G ad L3 ++ zb_M G ad L3) H := by rw [eL3]; exact hP
  have hD : va_D A (zb_L G ad L3 ++ zb_M G ad L3) := by rw [eL3]; exact hD
  refine lv_aload_n hx hb dX2_addChild_26 rfl (lv_at hl 1 rfl) ?_
  refine va_get (D := G.1) (ci := 1) (v := .ref (ad 4)) (C := RX2) (T := TX2) (N := 14) hx hb hts (fun _ h => List.mem_cons_of_mem _ (List.mem_append_right _ h)) hown hK hP 0 rfl rfl 8 (by decide) w5 (fun _ h9 => h9) rfl dX2_addChild_27 ?_
  refine lv_iload_n hx hb dX2_addChild_30 rfl (lv_at hl 0 rfl) ?_
  refine lv_iconst (v := -1) hx hb dX2_addChild_31 (by decide) ?_
  refine lv_topi (fun x4 ex4 => ?_)
  refine zk_iastN hx hb hK hP hD hS 4 0 rfl rfl (k := n) (n := 12) (by omega) (by omega) dX2_addChild_32 (fun H locs hP hD hS => ?_)
  obtain ⟨L5, eL5⟩ : ∃ z : Nat → Nat → Int32, z = up2 L3 4 n x4 := ⟨_, rfl⟩
  have hP : va_P G.1 vwCl (zb_L G ad L5 ++ zb_M G ad L5) H := by rw [eL5]; exact hP
  have hD : va_D A (zb_L G ad L5 ++ zb_M G ad L5) := by rw [eL5]; exact hD
  refine lv_aload_n hx hb dX2_addChild_33 rfl (lv_at hl 1 rfl) ?_
  refine va_get (D := G.1) (ci := 1) (v := .ref (ad 5)) (C := RX2) (T := TX2) (N := 14) hx hb hts (fun _ h => List.mem_cons_of_mem _ (List.mem_append_right _ h)) hown hK hP 0 rfl rfl 9 (by decide) w6 (fun _ h9 => h9) rfl dX2_addChild_34 ?_
  refine lv_iload_n hx hb dX2_addChild_37 rfl (lv_at hl 0 rfl) ?_
  refine lv_iconst (v := -1) hx hb dX2_addChild_38 (by decide) ?_
  refine lv_topi (fun x6 ex6 => ?_)
  refine zk_iastN hx hb hK hP hD hS 5 0 rfl rfl (k := n) (n := 12) (by omega) (by omega) dX2_addChild_39 (fun H locs hP hD hS => ?_)
  obtain ⟨L7, eL7⟩ : ∃ z : Nat → Nat → Int32, z = up2 L5 5 n x6 := ⟨_, rfl⟩
  have hP : va_P G.1 vwCl (zb_L G ad L7 ++ zb_M G ad L7) H := by rw [eL7]; exact hP
  have hD : va_D A (zb_L G ad L7 ++ zb_M G ad L7) := by rw [eL7]; exact hD
  refine lv_aload_n hx hb dX2_addChild_40 rfl (lv_at hl 1 rfl) ?_
  refine lv_iload_n hx hb dX2_addChild_41 rfl (lv_at hl 0 rfl) ?_
  refine lv_iconst (v := nI 1) hx hb dX2_addChild_42 (by decide) ?_
  refine zk_iaddN hx hb dX2_addChild_43 ?_
  refine va_put (D := G.1) (ci := 1) (v := .int (nI (n + 1))) (ty := .int) (C := RX2) (T := TX2) (N := 14) hx hb hts (fun _ h => List.mem_cons_of_mem _ (List.mem_append_right _ h)) tyX2 tyX2_ok nmX2 hown hK hP hD hS 0 rfl rfl 1 (by decide) w1 (fun _ h9 => h9) rfl (by decide +kernel) rfl rfl (Nat.le_of_ble_eq_true rfl) dX2_addChild_44 (fun H locs hP hD hS => ?_)
  obtain ⟨L8, eL8⟩ : ∃ z : Nat → Nat → Int32, z = up2 L7 0 1 (nI (n + 1)) := ⟨_, rfl⟩
  have hP : va_P G.1 vwCl (zb_L G ad L8 ++ zb_M G ad L8) H := by rw [eL8]; exact hP
  have hD : va_D A (zb_L G ad L8 ++ zb_M G ad L8) := by rw [eL8]; exact hD
  refine lv_iload_n hx hb dX2_addChild_47 rfl (lv_at hl 0 rfl) ?_
  exact zk_reti L8 hQ hx hb hr hlocks hS hP hD (Nat.le_of_ble_eq_true rfl) (Nat.le_of_ble_eq_true rfl) dX2_addChild_48 (by subst_vars; exact ⟨rfl, rfl⟩)

abbrev rmX2_changeMenu : Room := { frames := 0, cells := 0, slots := 0, locals := 0 }
set_option maxHeartbeats 4000000 in
set_option maxRecDepth 100000 in
/-- a menu changes -/
theorem c_X2_changeMenu (l : Launch) (G : zk_G) (ad : Nat → Nat) (L : zL) (n t : Nat) (hI : sInv L n t) (d : Nat) (mn : Int32) (hd : d < 40) : zk_I (S := zL) l yX2_changeMenu wsX2_changeMenu rmX2_changeMenu G [.ref (ad 0), .int (nI d), .int mn] (zb_L G ad L ++ zb_M G ad L) (fun r u => r = L 6 d ∧ u = up2 L 6 d mn) (fun u => zb_L G ad u ++ zb_M G ad u) := by
  refine zk_bodyI (cc := cX2_changeMenu) (maxL := 4) (ret := (some .int)) (by decide) rfl (Nat.le_of_ble_eq_true rfl) ?_
  intro p E0 s m args below meth cd A ls Q hF hQ
  obtain ⟨hx, hb, hml, hr, hts, hown, hlocks, -, hE, hP, hD, hS, hA, hA0, hl⟩ := hF
  have hK := hE.1
  have hl : lv_has ls 4 [(0, .ref (ad 0)), (1, .int (nI d)), (2, .int mn)] := hl
  obtain ⟨hn, hn12, ht, ht40, hfam, hpay⟩ := id hI
  have w1 := hts _ (List.mem_of_getElem? (l := wsX2_changeMenu) (i := 1) (a := Cond.fieldLink RX2 27 "MealAccounts$Ledger" "menuOn" "[I") rfl)
  refine lv_aload_n hx hb dX2_changeMenu_0 rfl (lv_at hl 0 rfl) ?_
  refine va_get (D := G.1) (ci := 1) (v := .ref (ad 6)) (C := RX2) (T := TX2) (N := 14) hx hb hts (fun _ h => List.mem_cons_of_mem _ (List.mem_append_right _ h)) hown hK hP 0 rfl rfl 10 (by decide) w1 (fun _ h9 => h9) rfl dX2_changeMenu_1 ?_
  refine lv_iload_n hx hb dX2_changeMenu_4 rfl (lv_at hl 1 rfl) ?_
  refine zk_ialdN hx hb hK hP 6 0 rfl rfl (k := d) (n := 40) (by omega) (by omega) dX2_changeMenu_5 ?_
  refine lv_topi (fun x1 ex1 => ?_)
  refine lv_istore_n (lv' := [(3, .int x1), (0, .ref (ad 0)), (1, .int (nI d)), (2, .int mn)]) hx hb dX2_changeMenu_6 rfl hl (by decide) rfl (fun ls hl => ?_)
  refine lv_aload_n hx hb dX2_changeMenu_7 rfl (lv_at hl 1 rfl) ?_
  refine va_get (D := G.1) (ci := 1) (v := .ref (ad 6)) (C := RX2) (T := TX2) (N := 14) hx hb hts (fun _ h => List.mem_cons_of_mem _ (List.mem_append_right _ h)) hown hK hP 0 rfl rfl 10 (by decide) w1 (fun _ h9 => h9) rfl dX2_changeMenu_8 ?_
  refine lv_iload_n hx hb dX2_changeMenu_11 rfl (lv_at hl 2 rfl) ?_
  refine lv_iload_n hx hb dX2_changeMenu_12 rfl (lv_at hl 3 rfl) ?_
  refine zk_iastN hx hb hK hP hD hS 6 0 rfl rfl (k := d) (n := 40) (by omega) (by omega) dX2_changeMenu_13 (fun H locs hP hD hS => ?_)
  obtain ⟨L2, eL2⟩ : ∃ z : Nat → Nat → Int32, z = up2 L 6 d mn := ⟨_, rfl⟩
  have hP : va_P G.1 vwCl (zb_L G ad L2 ++ zb_M G ad L2) H := by rw [eL2]; exact hP
  have hD : va_D A (zb_L G ad L2 ++ zb_M G ad L2) := by rw [eL2]; exact hD
  have hI3 : sInv L2 n t := by rw [eL2]; exact sInv_row hI rfl rfl rfl rfl
  refine lv_iload_n hx hb dX2_changeMenu_14 rfl (lv_at hl 0 rfl) ?_
  exact zk_reti L2 hQ hx hb hr hlocks hS hP hD (Nat.le_of_ble_eq_true rfl) (Nat.le_of_ble_eq_true rfl) dX2_changeMenu_15 (by subst_vars; exact ⟨rfl, rfl⟩)

abbrev rmX2_changeOrder : Room := { frames := 4, cells := 0, slots := 0, locals := 88 }
set_option maxHeartbeats 4000000 in
set_option maxRecDepth 100000 in
/-- a meal is ordered, or not any more -/
theorem c_X2_changeOrder (l : Launch) (G : zk_G) (ad : Nat → Nat) (L : zL) (n t : Nat) (hI : sInv L n t) (c d : Nat) (b : Int32) (hc : c < n) (hd : d < 40) : zk_I (S := zL) l yX2_changeOrder wsX2_changeOrder rmX2_changeOrder G [.ref (ad 0), .int (nI c), .int (nI d), .int b] (zb_L G ad L ++ zb_M G ad L) (fun r u => r = sOrdN u d ∧ u = sOrd L (c * 40 + d) b) (fun u => zb_L G ad u ++ zb_M G ad u) := by
  refine zk_bodyI (cc := cX2_changeOrder) (maxL := 4) (ret := (some .int)) (by decide) rfl (Nat.le_of_ble_eq_true rfl) ?_
  intro p E0 s m args below meth cd A ls Q hF hQ
  obtain ⟨hx, hb, hml, hr, hts, hown, hlocks, -, hE, hP, hD, hS, hA, hA0, hl⟩ := hF
  have hK := hE.1
  have hl : lv_has ls 4 [(0, .ref (ad 0)), (1, .int (nI c)), (2, .int (nI d)), (3, .int b)] := hl
  obtain ⟨hn, hn12, ht, ht40, hfam, hpay⟩ := id hI
  have w1 := hts _ (List.mem_of_getElem? (l := wsX2_changeOrder) (i := 1) (a := Cond.fieldLink RX2 39 "MealAccounts$Ledger" "meals" "LMealAccounts$Meals;") rfl)
  refine lv_aload_n hx hb dX2_changeOrder_0 rfl (lv_at hl 0 rfl) ?_
  refine va_get (D := G.1) (ci := 1) (v := .ref (ad 9)) (C := RX2) (T := TX2) (N := 14) hx hb hts (fun _ h => List.mem_cons_of_mem _ (List.mem_append_left _ (List.mem_append_right _ h))) hown hK hP 0 rfl rfl 13 (by decide) w1 (fun _ h9 => h9) rfl dX2_changeOrder_1 ?_
  refine lv_iload_n hx hb dX2_changeOrder_4 rfl (lv_at hl 1 rfl) ?_
  refine lv_iload_n hx hb dX2_changeOrder_5 rfl (lv_at hl 2 rfl) ?_
  refine lv_iload_n hx hb dX2_changeOrder_6 rfl (lv_at hl 3 rfl) ?_
  refine lv_if_eq (tgt := 14) hx hb dX2_changeOrder_7 (by decide) (fun h7_0 => ?_) (fun h7_0 => ?_)
  · refine lv_iconst (v := nI 0) hx hb dX2_changeOrder_14 (by decide) ?_
    have hP0 : va_P G.1 vwCl (zb_M G ad L ++ zb_L G ad L) s.heap := zk_Pperm hP List.perm_append_comm
    have hD0 : va_D A (zb_M G ad L ++ zb_L G ad L) := zk_Dperm hD List.perm_append_comm
    refine zk_callV (wr := zb_L G ad L) (va_runV (As := [.int (nI c), .int (nI d), .int (nI 0)]) (rest := []) ⟨hx, hb, hml, hown, hts⟩ (c_X3_put l G ad L c d (nI 0) (by omega) (by omega) _) (cwV 3 hts gX2_changeOrder_X3_put rfl rfl rfl (by decide +kernel) ⟨Nat.le_of_ble_eq_true rfl, Nat.le_of_ble_eq_true rfl⟩) (zk_preV hE hA0 hS (zk_Papp hP0).1 (zk_Dapp hD0).1 (va_recv hK hP (ci := 2) (q0 := 9) rfl rfl)) rfl rfl hl.1 rfl (lv_room (Nat.le_of_ble_eq_true rfl)) dX2_changeOrder_15 ⟨Nat.le_of_ble_eq_true rfl, Nat.le_of_ble_eq_true rfl⟩) hP0 hD0 hS hA (fun u3 H locs q4 hP hD hS => ?_)
    subst q4
    have hP := zk_Pperm hP List.perm_append_comm
    have hD := zk_Dperm hD List.perm_append_comm
    have hP : va_P G.1 vwCl (zb_L G ad (up2 L 9 (c * 40 + d) (nI 0)) ++ zb_M G ad (up2 L 9 (c * 40 + d) (nI 0))) H := hP
    have hD : va_D A (zb_L G ad (up2 L 9 (c * 40 + d) (nI 0)) ++ zb_M G ad (up2 L 9 (c * 40 + d) (nI 0))) := hD
    obtain ⟨L5, eL5⟩ : ∃ z : Nat → Nat → Int32, z = up2 L 9 (c * 40 + d) (nI 0) := ⟨_, rfl⟩
    have hP : va_P G.1 vwCl (zb_L G ad L5 ++ zb_M G ad L5) H := by rw [eL5]; exact hP
    have hD : va_D A (zb_L G ad L5 ++ zb_M G ad L5) := by rw [eL5]; exact hD
    refine lv_aload_n hx hb dX2_changeOrder_18 rfl (lv_at hl 0 rfl) ?_
    refine va_get (D := G.1) (ci := 1) (v := .ref (ad 9)) (C := RX2) (T := TX2) (N := 14) hx hb hts (fun _ h => List.mem_cons_of_mem _ (List.mem_append_left _ (List.mem_append_right _ h))) hown hK hP 0 rfl rfl 13 (by decide) w1 (fun _ h9 => h9) rfl dX2_changeOrder_19 ?_
    refine lv_iload_n hx hb dX2_changeOrder_22 rfl (lv_at hl 2 rfl) ?_
    have hP0 : va_P G.1 vwCl (zb_M G ad L5 ++ zb_L G ad L5) H := zk_Pperm hP List.perm_append_comm
    have hD0 : va_D A (zb_M G ad L5 ++ zb_L G ad L5) := zk_Dperm hD List.perm_append_comm
    refine zk_callI (wr := zb_L G ad L5) (va_runV (As := [.int (nI d)]) (rest := []) ⟨hx, hb, hml, hown, hts⟩ (c_X3_countOrderedOn l G ad L5 d (by omega) _) (cwV 1 hts gX2_changeOrder_X3_countOrderedOn rfl rfl rfl (by decide +kernel) ⟨Nat.le_of_ble_eq_true rfl, Nat.le_of_ble_eq_true rfl⟩) (zk_preV hE hA0 hS (zk_Papp hP0).1 (zk_Dapp hD0).1 (va_recv hK hP (ci := 2) (q0 := 9) rfl rfl)) rfl rfl hl.1 rfl (lv_room (Nat.le_of_ble_eq_true rfl)) dX2_changeOrder_23 ⟨Nat.le_of_ble_eq_true rfl, Nat.le_of_ble_eq_true rfl⟩) hP0 hD0 hS hA (fun r6 u7 H locs q8 hP hD hS => ?_)
    subst q8
    have hP := zk_Pperm hP List.perm_append_comm
    have hD := zk_Dperm hD List.perm_append_comm
    have hP : va_P G.1 vwCl (zb_L G ad L5 ++ zb_M G ad L5) H := hP
    have hD : va_D A (zb_L G ad L5 ++ zb_M G ad L5) := hD
    exact zk_reti L5 hQ hx hb hr hlocks hS hP hD (Nat.le_of_ble_eq_true rfl) (Nat.le_of_ble_eq_true rfl) dX2_changeOrder_26 (by refine ⟨rfl, ?_⟩; rw [eL5]; unfold sOrd; simp +decide [zk_a0, h7_0])
  · refine lv_iconst (v := nI 1) hx hb dX2_changeOrder_10 (by decide) ?_
    refine lv_goto (tgt := 15) hx hb dX2_changeOrder_11 (by decide) ?_
    have hP0 : va_P G.1 vwCl (zb_M G ad L ++ zb_L G ad L) s.heap := zk_Pperm hP List.perm_append_comm
    have hD0 : va_D A (zb_M G ad L ++ zb_L G ad L) := zk_Dperm hD List.perm_append_comm
    refine zk_callV (wr := zb_L G ad L) (va_runV (As := [.int (nI c), .int (nI d), .int (nI 1)]) (rest := []) ⟨hx, hb, hml, hown, hts⟩ (c_X3_put l G ad L c d (nI 1) (by omega) (by omega) _) (cwV 3 hts gX2_changeOrder_X3_put rfl rfl rfl (by decide +kernel) ⟨Nat.le_of_ble_eq_true rfl, Nat.le_of_ble_eq_true rfl⟩) (zk_preV hE hA0 hS (zk_Papp hP0).1 (zk_Dapp hD0).1 (va_recv hK hP (ci := 2) (q0 := 9) rfl rfl)) rfl rfl hl.1 rfl (lv_room (Nat.le_of_ble_eq_true rfl)) dX2_changeOrder_15 ⟨Nat.le_of_ble_eq_true rfl, Nat.le_of_ble_eq_true rfl⟩) hP0 hD0 hS hA (fun u10 H locs q11 hP hD hS => ?_)
    subst q11
    have hP := zk_Pperm hP List.perm_append_comm
    have hD := zk_Dperm hD List.perm_append_comm
    have hP : va_P G.1 vwCl (zb_L G ad (up2 L 9 (c * 40 + d) (nI 1)) ++ zb_M G ad (up2 L 9 (c * 40 + d) (nI 1))) H := hP
    have hD : va_D A (zb_L G ad (up2 L 9 (c * 40 + d) (nI 1)) ++ zb_M G ad (up2 L 9 (c * 40 + d) (nI 1))) := hD
    obtain ⟨L12, eL12⟩ : ∃ z : Nat → Nat → Int32, z = up2 L 9 (c * 40 + d) (nI 1) := ⟨_, rfl⟩
    have hP : va_P G.1 vwCl (zb_L G ad L12 ++ zb_M G ad L12) H := by rw [eL12]; exact hP
    have hD : va_D A (zb_L G ad L12 ++ zb_M G ad L12) := by rw [eL12]; exact hD
    refine lv_aload_n hx hb dX2_changeOrder_18 rfl (lv_at hl 0 rfl) ?_
    refine va_get (D := G.1) (ci := 1) (v := .ref (ad 9)) (C := RX2) (T := TX2) (N := 14) hx hb hts (fun _ h => List.mem_cons_of_mem _ (List.mem_append_left _ (List.mem_append_right _ h))) hown hK hP 0 rfl rfl 13 (by decide) w1 (fun _ h9 => h9) rfl dX2_changeOrder_19 ?_
    refine lv_iload_n hx hb dX2_changeOrder_22 rfl (lv_at hl 2 rfl) ?_
    have hP0 : va_P G.1 vwCl (zb_M G ad L12 ++ zb_L G ad L12) H := zk_Pperm hP List.perm_append_comm
    have hD0 : va_D A (zb_M G ad L12 ++ zb_L G ad L12) := zk_Dperm hD List.perm_append_comm
    refine zk_callI (wr := zb_L G ad L12) (va_runV (As := [.int (nI d)]) (rest := []) ⟨hx, hb, hml, hown, hts⟩ (c_X3_countOrderedOn l G ad L12 d (by omega) _) (cwV 1 hts gX2_changeOrder_X3_countOrderedOn rfl rfl rfl (by decide +kernel) ⟨Nat.le_of_ble_eq_true rfl, Nat.le_of_ble_eq_true rfl⟩) (zk_preV hE hA0 hS (zk_Papp hP0).1 (zk_Dapp hD0).1 (va_recv hK hP (ci := 2) (q0 := 9) rfl rfl)) rfl rfl hl.1 rfl (lv_room (Nat.le_of_ble_eq_true rfl)) dX2_changeOrder_23 ⟨Nat.le_of_ble_eq_true rfl, Nat.le_of_ble_eq_true rfl⟩) hP0 hD0 hS hA (fun r13 u14 H locs q15 hP hD hS => ?_)
    subst q15
    have hP := zk_Pperm hP List.perm_append_comm
    have hD := zk_Dperm hD List.perm_append_comm
    have hP : va_P G.1 vwCl (zb_L G ad L12 ++ zb_M G ad L12) H := hP
    have hD : va_D A (zb_L G ad L12 ++ zb_M G ad L12) := hD
    exact zk_reti L12 hQ hx hb hr hlocks hS hP hD (Nat.le_of_ble_eq_true rfl) (Nat.le_of_ble_eq_true rfl) dX2_changeOrder_26 (by refine ⟨rfl, ?_⟩; rw [eL12]; unfold sOrd; simp +decide [zk_a0, h7_0])

abbrev rmX2_payIn : Room := { frames := 0, cells := 0, slots := 0, locals := 0 }
set_option maxHeartbeats 4000000 in
set_option maxRecDepth 100000 in
/-- an amount is paid -/
theorem c_X2_payIn (l : Launch) (G : zk_G) (ad : Nat → Nat) (L : zL) (n t : Nat) (hI : sInv L n t) (c : Nat) (am : Int32) (hc : c < n) : zk_I (S := zL) l yX2_payIn wsX2_payIn rmX2_payIn G [.ref (ad 0), .int (nI c), .int am] (zb_L G ad L ++ zb_M G ad L) (fun r u => r = u 3 c ∧ u = sPay L c am) (fun u => zb_L G ad u ++ zb_M G ad u) := by
  refine zk_bodyI (cc := cX2_payIn) (maxL := 3) (ret := (some .int)) (by decide) rfl (Nat.le_of_ble_eq_true rfl) ?_
  intro p E0 s m args below meth cd A ls Q hF hQ
  obtain ⟨hx, hb, hml, hr, hts, hown, hlocks, -, hE, hP, hD, hS, hA, hA0, hl⟩ := hF
  have hK := hE.1
  have hl : lv_has ls 3 [(0, .ref (ad 0)), (1, .int (nI c)), (2, .int am)] := hl
  obtain ⟨hn, hn12, ht, ht40, hfam, hpay⟩ := id hI
  have w1 := hts _ (List.mem_of_getElem? (l := wsX2_payIn) (i := 1) (a := Cond.fieldLink RX2 56 "MealAccounts$Ledger" "paidIn" "I") rfl)
  have w2 := hts _ (List.mem_of_getElem? (l := wsX2_payIn) (i := 2) (a := Cond.fieldLink RX2 18 "MealAccounts$Ledger" "balanceOf" "[I") rfl)
  refine lv_aload_n hx hb dX2_payIn_0 rfl (lv_at hl 0 rfl) ?_
  refine lv_dup hx hb dX2_payIn_1 rfl ?_
  refine va_get (D := G.1) (ci := 1) (v := .int (L 0 4)) (C := RX2) (T := TX2) (N := 14) hx hb hts (fun _ h => List.mem_cons_of_mem _ (List.mem_append_right _ h)) hown hK hP 0 rfl rfl 4 (by decide) w1 (fun _ h9 => h9) rfl dX2_payIn_2 ?_
  refine lv_iload_n hx hb dX2_payIn_5 rfl (lv_at hl 2 rfl) ?_
  refine lv_iadd hx hb dX2_payIn_6 ?_
  refine lv_topi (fun x1 ex1 => ?_)
  refine va_put (D := G.1) (ci := 1) (v := .int x1) (ty := .int) (C := RX2) (T := TX2) (N := 14) hx hb hts (fun _ h => List.mem_cons_of_mem _ (List.mem_append_right _ h)) tyX2 tyX2_ok nmX2 hown hK hP hD hS 0 rfl rfl 4 (by decide) w1 (fun _ h9 => h9) rfl (by decide +kernel) rfl rfl (Nat.le_of_ble_eq_true rfl) dX2_payIn_7 (fun H locs hP hD hS => ?_)
  obtain ⟨L2, eL2⟩ : ∃ z : Nat → Nat → Int32, z = up2 L 0 4 x1 := ⟨_, rfl⟩
  have hP : va_P G.1 vwCl (zb_L G ad L2 ++ zb_M G ad L2) H := by rw [eL2]; exact hP
  have hD : va_D A (zb_L G ad L2 ++ zb_M G ad L2) := by rw [eL2]; exact hD
  have hI3 : sInv L2 n t := by rw [eL2]; exact sInv_num hI (by decide) (by decide)
  refine lv_aload_n hx hb dX2_payIn_10 rfl (lv_at hl 0 rfl) ?_
  refine va_get (D := G.1) (ci := 1) (v := .ref (ad 3)) (C := RX2) (T := TX2) (N := 14) hx hb hts (fun _ h => List.mem_cons_of_mem _ (List.mem_append_right _ h)) hown hK hP 0 rfl rfl 7 (by decide) w2 (fun _ h9 => h9) rfl dX2_payIn_11 ?_
  refine lv_iload_n hx hb dX2_payIn_14 rfl (lv_at hl 1 rfl) ?_
  refine lv_dup2_11 hx hb dX2_payIn_15 rfl rfl ?_
  refine zk_ialdN hx hb hK hP 3 0 rfl rfl (k := c) (n := 12) (by omega) (by omega) dX2_payIn_16 ?_
  refine lv_iload_n hx hb dX2_payIn_17 rfl (lv_at hl 2 rfl) ?_
  refine lv_iadd hx hb dX2_payIn_18 ?_
  refine lv_topi (fun x4 ex4 => ?_)
  refine zk_iastN hx hb hK hP hD hS 3 0 rfl rfl (k := c) (n := 12) (by omega) (by omega) dX2_payIn_19 (fun H locs hP hD hS => ?_)
  obtain ⟨L5, eL5⟩ : ∃ z : Nat → Nat → Int32, z = up2 L2 3 c x4 := ⟨_, rfl⟩
  have hP : va_P G.1 vwCl (zb_L G ad L5 ++ zb_M G ad L5) H := by rw [eL5]; exact hP
  have hD : va_D A (zb_L G ad L5 ++ zb_M G ad L5) := by rw [eL5]; exact hD
  have hI6 : sInv L5 n t := by rw [eL5]; exact sInv_row hI3 rfl rfl rfl rfl
  refine lv_aload_n hx hb dX2_payIn_20 rfl (lv_at hl 0 rfl) ?_
  refine va_get (D := G.1) (ci := 1) (v := .ref (ad 3)) (C := RX2) (T := TX2) (N := 14) hx hb hts (fun _ h => List.mem_cons_of_mem _ (List.mem_append_right _ h)) hown hK hP 0 rfl rfl 7 (by decide) w2 (fun _ h9 => h9) rfl dX2_payIn_21 ?_
  refine lv_iload_n hx hb dX2_payIn_24 rfl (lv_at hl 1 rfl) ?_
  refine zk_ialdN hx hb hK hP 3 0 rfl rfl (k := c) (n := 12) (by omega) (by omega) dX2_payIn_25 ?_
  exact zk_reti L5 hQ hx hb hr hlocks hS hP hD (Nat.le_of_ble_eq_true rfl) (Nat.le_of_ble_eq_true rfl) dX2_payIn_26 (by subst_vars; exact ⟨rfl, rfl⟩)

abbrev rmX2_moveBetween : Room := { frames := 0, cells := 0, slots := 0, locals := 0 }
set_option maxHeartbeats 4000000 in
set_option maxRecDepth 100000 in
/-- an amount goes to a sibling -/
theorem c_X2_moveBetween (l : Launch) (G : zk_G) (ad : Nat → Nat) (L : zL) (n t : Nat) (hI : sInv L n t) (c o : Nat) (am : Int32) (hc : c < n) (ho : o < n) : zk_I (S := zL) l yX2_moveBetween wsX2_moveBetween rmX2_moveBetween G [.ref (ad 0), .int (nI c), .int (nI o), .int am] (zb_L G ad L ++ zb_M G ad L) (fun r u => r = u 3 c ∧ u = sMove L c o am) (fun u => zb_L G ad u ++ zb_M G ad u) := by
  refine zk_bodyI (cc := cX2_moveBetween) (maxL := 4) (ret := (some .int)) (by decide) rfl (Nat.le_of_ble_eq_true rfl) ?_
  intro p E0 s m args below meth cd A ls Q hF hQ
  obtain ⟨hx, hb, hml, hr, hts, hown, hlocks, -, hE, hP, hD, hS, hA, hA0, hl⟩ := hF
  have hK := hE.1
  have hl : lv_has ls 4 [(0, .ref (ad 0)), (1, .int (nI c)), (2, .int (nI o)), (3, .int am)] := hl
  obtain ⟨hn, hn12, ht, ht40, hfam, hpay⟩ := id hI
  have w1 := hts _ (List.mem_of_getElem? (l := wsX2_moveBetween) (i := 1) (a := Cond.fieldLink RX2 18 "MealAccounts$Ledger" "balanceOf" "[I") rfl)
  refine lv_aload_n hx hb dX2_moveBetween_0 rfl (lv_at hl 0 rfl) ?_
  refine va_get (D := G.1) (ci := 1) (v := .ref (ad 3)) (C := RX2) (T := TX2) (N := 14) hx hb hts (fun _ h => List.mem_cons_of_mem _ (List.mem_append_right _ h)) hown hK hP 0 rfl rfl 7 (by decide) w1 (fun _ h9 => h9) rfl dX2_moveBetween_1 ?_
  refine lv_iload_n hx hb dX2_moveBetween_4 rfl (lv_at hl 2 rfl) ?_
  refine lv_dup2_11 hx hb dX2_moveBetween_5 rfl rfl ?_
  refine zk_ialdN hx hb hK hP 3 0 rfl rfl (k := o) (n := 12) (by omega) (by omega) dX2_moveBetween_6 ?_
  refine lv_iload_n hx hb dX2_moveBetween_7 rfl (lv_at hl 3 rfl) ?_
  refine lv_iadd hx hb dX2_moveBetween_8 ?_
  refine lv_topi (fun x1 ex1 => ?_)
  refine zk_iastN hx hb hK hP hD hS 3 0 rfl rfl (k := o) (n := 12) (by omega) (by omega) dX2_moveBetween_9 (fun H locs hP hD hS => ?_)
  obtain ⟨L2, eL2⟩ : ∃ z : Nat → Nat → Int32, z = up2 L 3 o x1 := ⟨_, rfl⟩
  have hP : va_P G.1 vwCl (zb_L G ad L2 ++ zb_M G ad L2) H := by rw [eL2]; exact hP
  have hD : va_D A (zb_L G ad L2 ++ zb_M G ad L2) := by rw [eL2]; exact hD
  have hI3 : sInv L2 n t := by rw [eL2]; exact sInv_row hI rfl rfl rfl rfl
  refine lv_aload_n hx hb dX2_moveBetween_10 rfl (lv_at hl 0 rfl) ?_
  refine va_get (D := G.1) (ci := 1) (v := .ref (ad 3)) (C := RX2) (T := TX2) (N := 14) hx hb hts (fun _ h => List.mem_cons_of_mem _ (List.mem_append_right _ h)) hown hK hP 0 rfl rfl 7 (by decide) w1 (fun _ h9 => h9) rfl dX2_moveBetween_11 ?_
  refine lv_iload_n hx hb dX2_moveBetween_14 rfl (lv_at hl 1 rfl) ?_
  refine lv_dup2_11 hx hb dX2_moveBetween_15 rfl rfl ?_
  refine zk_ialdN hx hb hK hP 3 0 rfl rfl (k := c) (n := 12) (by omega) (by omega) dX2_moveBetween_16 ?_
  refine lv_iload_n hx hb dX2_moveBetween_17 rfl (lv_at hl 3 rfl) ?_
  refine lv_isub hx hb dX2_moveBetween_18 ?_
  refine lv_topi (fun x4 ex4 => ?_)
  refine zk_iastN hx hb hK hP hD hS 3 0 rfl rfl (k := c) (n := 12) (by omega) (by omega) dX2_moveBetween_19 (fun H locs hP hD hS => ?_)
  obtain ⟨L5, eL5⟩ : ∃ z : Nat → Nat → Int32, z = up2 L2 3 c x4 := ⟨_, rfl⟩
  have hP : va_P G.1 vwCl (zb_L G ad L5 ++ zb_M G ad L5) H := by rw [eL5]; exact hP
  have hD : va_D A (zb_L G ad L5 ++ zb_M G ad L5) := by rw [eL5]; exact hD
  have hI6 : sInv L5 n t := by rw [eL5]; exact sInv_row hI3 rfl rfl rfl rfl
  refine lv_aload_n hx hb dX2_moveBetween_20 rfl (lv_at hl 0 rfl) ?_
  refine va_get (D := G.1) (ci := 1) (v := .ref (ad 3)) (C := RX2) (T := TX2) (N := 14) hx hb hts (fun _ h => List.mem_cons_of_mem _ (List.mem_append_right _ h)) hown hK hP 0 rfl rfl 7 (by decide) w1 (fun _ h9 => h9) rfl dX2_moveBetween_21 ?_
  refine lv_iload_n hx hb dX2_moveBetween_24 rfl (lv_at hl 1 rfl) ?_
  refine zk_ialdN hx hb hK hP 3 0 rfl rfl (k := c) (n := 12) (by omega) (by omega) dX2_moveBetween_25 ?_
  exact zk_reti L5 hQ hx hb hr hlocks hS hP hD (Nat.le_of_ble_eq_true rfl) (Nat.le_of_ble_eq_true rfl) dX2_moveBetween_26 (by subst_vars; exact ⟨rfl, rfl⟩)

abbrev rmX2_changeSharing : Room := { frames := 1, cells := 0, slots := 0, locals := 23 }
set_option maxHeartbeats 4000000 in
set_option maxRecDepth 100000 in
/-- a family shares, or not -/
theorem c_X2_changeSharing (l : Launch) (G : zk_G) (ad : Nat → Nat) (L : zL) (n t : Nat) (hI : sInv L n t) (f : Nat) (b : Int32) (hf : f < 5) : zk_I (S := zL) l yX2_changeSharing wsX2_changeSharing rmX2_changeSharing G [.ref (ad 0), .int (nI f), .int b] (zb_L G ad L ++ zb_M G ad L) (fun r u => r = sSumOf u n (nI f) ∧ u = sShare L f b) (fun u => zb_L G ad u ++ zb_M G ad u) := by
  refine zk_bodyI (cc := cX2_changeSharing) (maxL := 3) (ret := (some .int)) (by decide) rfl (Nat.le_of_ble_eq_true rfl) ?_
  intro p E0 s m args below meth cd A ls Q hF hQ
  obtain ⟨hx, hb, hml, hr, hts, hown, hlocks, -, hE, hP, hD, hS, hA, hA0, hl⟩ := hF
  have hK := hE.1
  have hl : lv_has ls 3 [(0, .ref (ad 0)), (1, .int (nI f)), (2, .int b)] := hl
  obtain ⟨hn, hn12, ht, ht40, hfam, hpay⟩ := id hI
  have w1 := hts _ (List.mem_of_getElem? (l := wsX2_changeSharing) (i := 1) (a := Cond.fieldLink RX2 30 "MealAccounts$Ledger" "sharing" "[I") rfl)
  refine lv_aload_n hx hb dX2_changeSharing_0 rfl (lv_at hl 0 rfl) ?_
  refine va_get (D := G.1) (ci := 1) (v := .ref (ad 7)) (C := RX2) (T := TX2) (N := 14) hx hb hts (fun _ h => List.mem_cons_of_mem _ (List.mem_append_right _ h)) hown hK hP 0 rfl rfl 11 (by decide) w1 (fun _ h9 => h9) rfl dX2_changeSharing_1 ?_
  refine lv_iload_n hx hb dX2_changeSharing_4 rfl (lv_at hl 1 rfl) ?_
  refine lv_iload_n hx hb dX2_changeSharing_5 rfl (lv_at hl 2 rfl) ?_
  refine lv_if_eq (tgt := 13) hx hb dX2_changeSharing_6 (by decide) (fun h6_0 => ?_) (fun h6_0 => ?_)
  · refine lv_iconst (v := nI 0) hx hb dX2_changeSharing_13 (by decide) ?_
    refine zk_iastN hx hb hK hP hD hS 7 0 rfl rfl (k := f) (n := 5) (by omega) (by omega) dX2_changeSharing_14 (fun H locs hP hD hS => ?_)
    obtain ⟨L2, eL2⟩ : ∃ z : Nat → Nat → Int32, z = up2 L 7 f (nI 0) := ⟨_, rfl⟩
    have hP : va_P G.1 vwCl (zb_L G ad L2 ++ zb_M G ad L2) H := by rw [eL2]; exact hP
    have hD : va_D A (zb_L G ad L2 ++ zb_M G ad L2) := by rw [eL2]; exact hD
    have hI3 : sInv L2 n t := by rw [eL2]; exact sInv_row hI rfl rfl rfl rfl
    refine lv_aload_n hx hb dX2_changeSharing_15 rfl (lv_at hl 0 rfl) ?_
    refine lv_iload_n hx hb dX2_changeSharing_16 rfl (lv_at hl 1 rfl) ?_
    have hP0 : va_P G.1 vwCl ((zb_L G ad L2 ++ zb_M G ad L2) ++ ([] : va_W)) H := by rw [List.append_nil]; exact hP
    have hD0 : va_D A ((zb_L G ad L2 ++ zb_M G ad L2) ++ ([] : va_W)) := by rw [List.append_nil]; exact hD
    refine zk_callI (wr := ([] : va_W)) (va_runV (As := [.int (nI f)]) (rest := []) ⟨hx, hb, hml, hown, hts⟩ (c_X2_sumOfBalancesOf l G ad L2 n t hI3 (nI f) _) (cwV 1 hts gX2_changeSharing_X2_sumOfBalancesOf rfl rfl rfl (by decide +kernel) ⟨Nat.le_of_ble_eq_true rfl, Nat.le_of_ble_eq_true rfl⟩) (zk_preV hE hA0 hS (zk_Papp hP0).1 (zk_Dapp hD0).1 (va_recv hK hP (ci := 1) (q0 := 0) rfl rfl)) rfl rfl hl.1 rfl (lv_room (Nat.le_of_ble_eq_true rfl)) dX2_changeSharing_17 ⟨Nat.le_of_ble_eq_true rfl, Nat.le_of_ble_eq_true rfl⟩) hP0 hD0 hS hA (fun r4 u5 H locs q6 hP hD hS => ?_)
    subst q6
    rw [List.append_nil] at hP hD
    have hP : va_P G.1 vwCl (zb_L G ad L2 ++ zb_M G ad L2) H := hP
    have hD : va_D A (zb_L G ad L2 ++ zb_M G ad L2) := hD
    exact zk_reti L2 hQ hx hb hr hlocks hS hP hD (Nat.le_of_ble_eq_true rfl) (Nat.le_of_ble_eq_true rfl) dX2_changeSharing_20 (by refine ⟨rfl, ?_⟩; rw [eL2]; unfold sShare; simp +decide [zk_a0, h6_0])
  · refine lv_iconst (v := nI 1) hx hb dX2_changeSharing_9 (by decide) ?_
    refine lv_goto (tgt := 14) hx hb dX2_changeSharing_10 (by decide) ?_
    refine zk_iastN hx hb hK hP hD hS 7 0 rfl rfl (k := f) (n := 5) (by omega) (by omega) dX2_changeSharing_14 (fun H locs hP hD hS => ?_)
    obtain ⟨L7, eL7⟩ : ∃ z : Nat → Nat → Int32, z = up2 L 7 f (nI 1) := ⟨_, rfl⟩
    have hP : va_P G.1 vwCl (zb_L G ad L7 ++ zb_M G ad L7) H := by rw [eL7]; exact hP
    have hD : va_D A (zb_L G ad L7 ++ zb_M G ad L7) := by rw [eL7]; exact hD
    have hI8 : sInv L7 n t := by rw [eL7]; exact sInv_row hI rfl rfl rfl rfl
    refine lv_aload_n hx hb dX2_changeSharing_15 rfl (lv_at hl 0 rfl) ?_
    refine lv_iload_n hx hb dX2_changeSharing_16 rfl (lv_at hl 1 rfl) ?_
    have hP0 : va_P G.1 vwCl ((zb_L G ad L7 ++ zb_M G ad L7) ++ ([] : va_W)) H := by rw [List.append_nil]; exact hP
    have hD0 : va_D A ((zb_L G ad L7 ++ zb_M G ad L7) ++ ([] : va_W)) := by rw [List.append_nil]; exact hD
    refine zk_callI (wr := ([] : va_W)) (va_runV (As := [.int (nI f)]) (rest := []) ⟨hx, hb, hml, hown, hts⟩ (c_X2_sumOfBalancesOf l G ad L7 n t hI8 (nI f) _) (cwV 1 hts gX2_changeSharing_X2_sumOfBalancesOf rfl rfl rfl (by decide +kernel) ⟨Nat.le_of_ble_eq_true rfl, Nat.le_of_ble_eq_true rfl⟩) (zk_preV hE hA0 hS (zk_Papp hP0).1 (zk_Dapp hD0).1 (va_recv hK hP (ci := 1) (q0 := 0) rfl rfl)) rfl rfl hl.1 rfl (lv_room (Nat.le_of_ble_eq_true rfl)) dX2_changeSharing_17 ⟨Nat.le_of_ble_eq_true rfl, Nat.le_of_ble_eq_true rfl⟩) hP0 hD0 hS hA (fun r9 u10 H locs q11 hP hD hS => ?_)
    subst q11
    rw [List.append_nil] at hP hD
    have hP : va_P G.1 vwCl (zb_L G ad L7 ++ zb_M G ad L7) H := hP
    have hD : va_D A (zb_L G ad L7 ++ zb_M G ad L7) := hD
    exact zk_reti L7 hQ hx hb hr hlocks hS hP hD (Nat.le_of_ble_eq_true rfl) (Nat.le_of_ble_eq_true rfl) dX2_changeSharing_20 (by refine ⟨rfl, ?_⟩; rw [eL7]; unfold sShare; simp +decide [zk_a0, h6_0])

abbrev rmX2_changeSetting : Room := { frames := 0, cells := 0, slots := 0, locals := 0 }
set_option maxHeartbeats 4000000 in
set_option maxRecDepth 100000 in
/-- a setting changes -/
theorem c_X2_changeSetting (l : Launch) (G : zk_G) (ad : Nat → Nat) (L : zL) (n t : Nat) (hI : sInv L n t) (w v : Int32) : zk_I (S := zL) l yX2_changeSetting wsX2_changeSetting rmX2_changeSetting G [.ref (ad 0), .int w, .int v] (zb_L G ad L ++ zb_M G ad L) (fun r u => r = (if w = 0 then L 0 2 else L 0 3) ∧ u = sSet L w v) (fun u => zb_L G ad u ++ zb_M G ad u) := by
  refine zk_bodyI (cc := cX2_changeSetting) (maxL := 4) (ret := (some .int)) (by decide) rfl (Nat.le_of_ble_eq_true rfl) ?_
  intro p E0 s m args below meth cd A ls Q hF hQ
  obtain ⟨hx, hb, hml, hr, hts, hown, hlocks, -, hE, hP, hD, hS, hA, hA0, hl⟩ := hF
  have hK := hE.1
  have hl : lv_has ls 4 [(0, .ref (ad 0)), (1, .int w), (2, .int v)] := hl
  obtain ⟨hn, hn12, ht, ht40, hfam, hpay⟩ := id hI
  have w2 := hts _ (List.mem_of_getElem? (l := wsX2_changeSetting) (i := 2) (a := Cond.fieldLink RX2 47 "MealAccounts$Ledger" "limit" "I") rfl)
  have w1 := hts _ (List.mem_of_getElem? (l := wsX2_changeSetting) (i := 1) (a := Cond.fieldLink RX2 43 "MealAccounts$Ledger" "price" "I") rfl)
  refine lv_iload_n hx hb dX2_changeSetting_0 rfl (lv_at hl 1 rfl) ?_
  refine lv_if_ne (tgt := 11) hx hb dX2_changeSetting_1 (by decide) (fun h1_0 => ?_) (fun h1_0 => ?_)
  · refine lv_aload_n hx hb dX2_changeSetting_11 rfl (lv_at hl 0 rfl) ?_
    refine va_get (D := G.1) (ci := 1) (v := .int (L 0 3)) (C := RX2) (T := TX2) (N := 14) hx hb hts (fun _ h => List.mem_cons_of_mem _ (List.mem_append_right _ h)) hown hK hP 0 rfl rfl 3 (by decide) w2 (fun _ h9 => h9) rfl dX2_changeSetting_12 ?_
    refine lv_topi (fun x2 ex2 => ?_)
    refine lv_istore_n (lv' := [(3, .int x2), (0, .ref (ad 0)), (1, .int w), (2, .int v)]) hx hb dX2_changeSetting_15 rfl hl (by decide) rfl (fun ls hl => ?_)
    refine lv_iload_n hx hb dX2_changeSetting_16 rfl (lv_at hl 2 rfl) ?_
    refine lv_if_ne (tgt := 28) hx hb dX2_changeSetting_17 (by decide) (fun h17_2 => ?_) (fun h17_2 => ?_)
    · refine lv_aload_n hx hb dX2_changeSetting_28 rfl (lv_at hl 1 rfl) ?_
      refine lv_iload_n hx hb dX2_changeSetting_29 rfl (lv_at hl 3 rfl) ?_
      refine va_put (D := G.1) (ci := 1) (v := .int v) (ty := .int) (C := RX2) (T := TX2) (N := 14) hx hb hts (fun _ h => List.mem_cons_of_mem _ (List.mem_append_right _ h)) tyX2 tyX2_ok nmX2 hown hK hP hD hS 0 rfl rfl 3 (by decide) w2 (fun _ h9 => h9) rfl (by decide +kernel) rfl rfl (Nat.le_of_ble_eq_true rfl) dX2_changeSetting_30 (fun H locs hP hD hS => ?_)
      obtain ⟨L4, eL4⟩ : ∃ z : Nat → Nat → Int32, z = up2 L 0 3 v := ⟨_, rfl⟩
      have hP : va_P G.1 vwCl (zb_L G ad L4 ++ zb_M G ad L4) H := by rw [eL4]; exact hP
      have hD : va_D A (zb_L G ad L4 ++ zb_M G ad L4) := by rw [eL4]; exact hD
      have hI5 : sInv L4 n t := by rw [eL4]; exact sInv_num hI (by decide) (by decide)
      refine lv_iload_n hx hb dX2_changeSetting_33 rfl (lv_at hl 0 rfl) ?_
      exact zk_reti L4 hQ hx hb hr hlocks hS hP hD (Nat.le_of_ble_eq_true rfl) (Nat.le_of_ble_eq_true rfl) dX2_changeSetting_34 (by first | (exact absurd h1_0 h17_2) | (exact absurd h17_2 h1_0) | (rw [eL4]; unfold sSet; simp +decide [zk_a0, h1_0, ex2, h17_2]))
    · refine lv_aload_n hx hb dX2_changeSetting_20 rfl (lv_at hl 1 rfl) ?_
      refine lv_iload_n hx hb dX2_changeSetting_21 rfl (lv_at hl 3 rfl) ?_
      refine va_put (D := G.1) (ci := 1) (v := .int v) (ty := .int) (C := RX2) (T := TX2) (N := 14) hx hb hts (fun _ h => List.mem_cons_of_mem _ (List.mem_append_right _ h)) tyX2 tyX2_ok nmX2 hown hK hP hD hS 0 rfl rfl 2 (by decide) w1 (fun _ h9 => h9) rfl (by decide +kernel) rfl rfl (Nat.le_of_ble_eq_true rfl) dX2_changeSetting_22 (fun H locs hP hD hS => ?_)
      obtain ⟨L6, eL6⟩ : ∃ z : Nat → Nat → Int32, z = up2 L 0 2 v := ⟨_, rfl⟩
      have hP : va_P G.1 vwCl (zb_L G ad L6 ++ zb_M G ad L6) H := by rw [eL6]; exact hP
      have hD : va_D A (zb_L G ad L6 ++ zb_M G ad L6) := by rw [eL6]; exact hD
      have hI7 : sInv L6 n t := by rw [eL6]; exact sInv_num hI (by decide) (by decide)
      refine lv_goto (tgt := 33) hx hb dX2_changeSetting_25 (by decide) ?_
      refine lv_iload_n hx hb dX2_changeSetting_33 rfl (lv_at hl 0 rfl) ?_
      exact zk_reti L6 hQ hx hb hr hlocks hS hP hD (Nat.le_of_ble_eq_true rfl) (Nat.le_of_ble_eq_true rfl) dX2_changeSetting_34 (by first | (exact absurd h1_0 h17_2) | (exact absurd h17_2 h1_0) | (rw [eL6]; unfold sSet; simp +decide [zk_a0, h1_0, ex2, h17_2]))
  · refine lv_aload_n hx hb dX2_changeSetting_4 rfl (lv_at hl 0 rfl) ?_
    refine va_get (D := G.1) (ci := 1) (v := .int (L 0 2)) (C := RX2) (T := TX2) (N := 14) hx hb hts (fun _ h => List.mem_cons_of_mem _ (List.mem_append_right _ h)) hown hK hP 0 rfl rfl 2 (by decide) w1 (fun _ h9 => h9) rfl dX2_changeSetting_5 ?_
    refine lv_goto (tgt := 15) hx hb dX2_changeSetting_8 (by decide) ?_
    refine lv_topi (fun x8 ex8 => ?_)
    refine lv_istore_n (lv' := [(3, .int x8), (0, .ref (ad 0)), (1, .int w), (2, .int v)]) hx hb dX2_changeSetting_15 rfl hl (by decide) rfl (fun ls hl => ?_)
    refine lv_iload_n hx hb dX2_changeSetting_16 rfl (lv_at hl 2 rfl) ?_
    refine lv_if_ne (tgt := 28) hx hb dX2_changeSetting_17 (by decide) (fun h17_8 => ?_) (fun h17_8 => ?_)
    · refine lv_aload_n hx hb dX2_changeSetting_28 rfl (lv_at hl 1 rfl) ?_
      refine lv_iload_n hx hb dX2_changeSetting_29 rfl (lv_at hl 3 rfl) ?_
      refine va_put (D := G.1) (ci := 1) (v := .int v) (ty := .int) (C := RX2) (T := TX2) (N := 14) hx hb hts (fun _ h => List.mem_cons_of_mem _ (List.mem_append_right _ h)) tyX2 tyX2_ok nmX2 hown hK hP hD hS 0 rfl rfl 3 (by decide) w2 (fun _ h9 => h9) rfl (by decide +kernel) rfl rfl (Nat.le_of_ble_eq_true rfl) dX2_changeSetting_30 (fun H locs hP hD hS => ?_)
      obtain ⟨L10, eL10⟩ : ∃ z : Nat → Nat → Int32, z = up2 L 0 3 v := ⟨_, rfl⟩
      have hP : va_P G.1 vwCl (zb_L G ad L10 ++ zb_M G ad L10) H := by rw [eL10]; exact hP
      have hD : va_D A (zb_L G ad L10 ++ zb_M G ad L10) := by rw [eL10]; exact hD
      have hI11 : sInv L10 n t := by rw [eL10]; exact sInv_num hI (by decide) (by decide)
      refine lv_iload_n hx hb dX2_changeSetting_33 rfl (lv_at hl 0 rfl) ?_
      exact zk_reti L10 hQ hx hb hr hlocks hS hP hD (Nat.le_of_ble_eq_true rfl) (Nat.le_of_ble_eq_true rfl) dX2_changeSetting_34 (by first | (exact absurd h1_0 h17_8) | (exact absurd h17_8 h1_0) | (rw [eL10]; unfold sSet; simp +decide [zk_a0, h1_0, ex8, h17_8]))
    · refine lv_aload_n hx hb dX2_changeSetting_20 rfl (lv_at hl 1 rfl) ?_
      refine lv_iload_n hx hb dX2_changeSetting_21 rfl (lv_at hl 3 rfl) ?_
      refine va_put (D := G.1) (ci := 1) (v := .int v) (ty := .int) (C := RX2) (T := TX2) (N := 14) hx hb hts (fun _ h => List.mem_cons_of_mem _ (List.mem_append_right _ h)) tyX2 tyX2_ok nmX2 hown hK hP hD hS 0 rfl rfl 2 (by decide) w1 (fun _ h9 => h9) rfl (by decide +kernel) rfl rfl (Nat.le_of_ble_eq_true rfl) dX2_changeSetting_22 (fun H locs hP hD hS => ?_)
      obtain ⟨L12, eL12⟩ : ∃ z : Nat → Nat → Int32, z = up2 L 0 2 v := ⟨_, rfl⟩
      have hP : va_P G.1 vwCl (zb_L G ad L12 ++ zb_M G ad L12) H := by rw [eL12]; exact hP
      have hD : va_D A (zb_L G ad L12 ++ zb_M G ad L12) := by rw [eL12]; exact hD
      have hI13 : sInv L12 n t := by rw [eL12]; exact sInv_num hI (by decide) (by decide)
      refine lv_goto (tgt := 33) hx hb dX2_changeSetting_25 (by decide) ?_
      refine lv_iload_n hx hb dX2_changeSetting_33 rfl (lv_at hl 0 rfl) ?_
      exact zk_reti L12 hQ hx hb hr hlocks hS hP hD (Nat.le_of_ble_eq_true rfl) (Nat.le_of_ble_eq_true rfl) dX2_changeSetting_34 (by first | (exact absurd h1_0 h17_8) | (exact absurd h17_8 h1_0) | (rw [eL12]; unfold sSet; simp +decide [zk_a0, h1_0, ex8, h17_8]))

abbrev rmX2_settleAgain : Room := { frames := 2, cells := 0, slots := 0, locals := 46 }
set_option maxHeartbeats 4000000 in
set_option maxRecDepth 100000 in
/-- what was served, by the entitlement of now -/
theorem c_X2_settleAgain (l : Launch) (G : zk_G) (ad : Nat → Nat) (L : zL) (n t : Nat) (hI : sInv L n t) (c d : Nat) (hc : c < n) (hd : d < 40) : zk_V (S := zL) l yX2_settleAgain wsX2_settleAgain rmX2_settleAgain G [.ref (ad 0), .int (nI c), .int (nI d)] (zb_L G ad L ++ zb_M G ad L) (fun u => u = sSettle L c d) (fun u => zb_L G ad u ++ zb_M G ad u) := by
  refine zk_bodyV (cc := cX2_settleAgain) (maxL := 4) (ret := none) (by decide) rfl (Nat.le_of_ble_eq_true rfl) ?_
  intro p E0 s m args below meth cd A ls Q hF hQ
  obtain ⟨hx, hb, hml, hr, hts, hown, hlocks, -, hE, hP, hD, hS, hA, hA0, hl⟩ := hF
  have hK := hE.1
  have hl : lv_has ls 4 [(0, .ref (ad 0)), (1, .int (nI c)), (2, .int (nI d))] := hl
  obtain ⟨hn, hn12, ht, ht40, hfam, hpay⟩ := id hI
  have w1 := hts _ (List.mem_of_getElem? (l := wsX2_settleAgain) (i := 1) (a := Cond.fieldLink RX2 39 "MealAccounts$Ledger" "meals" "LMealAccounts$Meals;") rfl)
  have w2 := hts _ (List.mem_of_getElem? (l := wsX2_settleAgain) (i := 2) (a := Cond.fieldLink RX2 18 "MealAccounts$Ledger" "balanceOf" "[I") rfl)
  have w3 := hts _ (List.mem_of_getElem? (l := wsX2_settleAgain) (i := 3) (a := Cond.fieldLink RX2 43 "MealAccounts$Ledger" "price" "I") rfl)
  refine lv_aload_n hx hb dX2_settleAgain_0 rfl (lv_at hl 0 rfl) ?_
  refine va_get (D := G.1) (ci := 1) (v := .ref (ad 9)) (C := RX2) (T := TX2) (N := 14) hx hb hts (fun _ h => List.mem_cons_of_mem _ (List.mem_append_left _ (List.mem_append_right _ h))) hown hK hP 0 rfl rfl 13 (by decide) w1 (fun _ h9 => h9) rfl dX2_settleAgain_1 ?_
  refine lv_iload_n hx hb dX2_settleAgain_4 rfl (lv_at hl 1 rfl) ?_
  refine lv_iload_n hx hb dX2_settleAgain_5 rfl (lv_at hl 2 rfl) ?_
  have hP0 : va_P G.1 vwCl (zb_M G ad L ++ zb_L G ad L) s.heap := zk_Pperm hP List.perm_append_comm
  have hD0 : va_D A (zb_M G ad L ++ zb_L G ad L) := zk_Dperm hD List.perm_append_comm
  refine zk_callI (wr := zb_L G ad L) (va_runV (As := [.int (nI c), .int (nI d)]) (rest := []) ⟨hx, hb, hml, hown, hts⟩ (c_X3_payerOf l G ad L c d (by omega) (by omega) _) (cwV 2 hts gX2_settleAgain_X3_payerOf rfl rfl rfl (by decide +kernel) ⟨Nat.le_of_ble_eq_true rfl, Nat.le_of_ble_eq_true rfl⟩) (zk_preV hE hA0 hS (zk_Papp hP0).1 (zk_Dapp hD0).1 (va_recv hK hP (ci := 2) (q0 := 9) rfl rfl)) rfl rfl hl.1 rfl (lv_room (Nat.le_of_ble_eq_true rfl)) dX2_settleAgain_6 ⟨Nat.le_of_ble_eq_true rfl, Nat.le_of_ble_eq_true rfl⟩) hP0 hD0 hS hA (fun r1 u2 H locs q3 hP hD hS => ?_)
  subst q3
  have hP := zk_Pperm hP List.perm_append_comm
  have hD := zk_Dperm hD List.perm_append_comm
  have hP : va_P G.1 vwCl (zb_L G ad L ++ zb_M G ad L) H := hP
  have hD : va_D A (zb_L G ad L ++ zb_M G ad L) := hD
  refine lv_topi (fun x4 ex4 => ?_)
  refine lv_istore_n (lv' := [(3, .int x4), (0, .ref (ad 0)), (1, .int (nI c)), (2, .int (nI d))]) hx hb dX2_settleAgain_9 rfl hl (by decide) rfl (fun ls hl => ?_)
  refine lv_iload_n hx hb dX2_settleAgain_10 rfl (lv_at hl 0 rfl) ?_
  refine lv_iconst (v := -1) hx hb dX2_settleAgain_11 (by decide) ?_
  refine lv_icmp_eq (tgt := 55) hx hb dX2_settleAgain_12 (by decide) (fun h12_4 => ?_) (fun h12_4 => ?_)
  · have hno : ¬ (L 9 (c * 40 + d) = nI 2 ∧ sEnt L c d) := fun z => by
      obtain ⟨j, hj, ej⟩ := hI.2.2.2.2.2 (c * 40 + d) (by omega) z.1
      rw [ex4, if_pos z.1, ej] at h12_4
      exact zk_m1n (by omega) h12_4
    refine lv_aload_n hx hb dX2_settleAgain_55 rfl (lv_at hl 1 rfl) ?_
    refine va_get (D := G.1) (ci := 1) (v := .ref (ad 9)) (C := RX2) (T := TX2) (N := 14) hx hb hts (fun _ h => List.mem_cons_of_mem _ (List.mem_append_left _ (List.mem_append_right _ h))) hown hK hP 0 rfl rfl 13 (by decide) w1 (fun _ h9 => h9) rfl dX2_settleAgain_56 ?_
    refine lv_iload_n hx hb dX2_settleAgain_59 rfl (lv_at hl 2 rfl) ?_
    refine lv_iload_n hx hb dX2_settleAgain_60 rfl (lv_at hl 3 rfl) ?_
    have hP0 : va_P G.1 vwCl (zb_M G ad L ++ zb_L G ad L) H := zk_Pperm hP List.perm_append_comm
    have hD0 : va_D A (zb_M G ad L ++ zb_L G ad L) := zk_Dperm hD List.perm_append_comm
    refine zk_callI (wr := zb_L G ad L) (va_runV (As := [.int (nI c), .int (nI d)]) (rest := []) ⟨hx, hb, hml, hown, hts⟩ (c_X3_kindOf l G ad L c d (by omega) (by omega) _) (cwV 2 hts gX2_settleAgain_X3_kindOf rfl rfl rfl (by decide +kernel) ⟨Nat.le_of_ble_eq_true rfl, Nat.le_of_ble_eq_true rfl⟩) (zk_preV hE hA0 hS (zk_Papp hP0).1 (zk_Dapp hD0).1 (va_recv hK hP (ci := 2) (q0 := 9) rfl rfl)) rfl rfl hl.1 rfl (lv_room (Nat.le_of_ble_eq_true rfl)) dX2_settleAgain_61 ⟨Nat.le_of_ble_eq_true rfl, Nat.le_of_ble_eq_true rfl⟩) hP0 hD0 hS hA (fun r6 u7 H locs q8 hP hD hS => ?_)
    subst q8
    have hP := zk_Pperm hP List.perm_append_comm
    have hD := zk_Dperm hD List.perm_append_comm
    have hP : va_P G.1 vwCl (zb_L G ad L ++ zb_M G ad L) H := hP
    have hD : va_D A (zb_L G ad L ++ zb_M G ad L) := hD
    refine lv_iconst (v := nI 3) hx hb dX2_settleAgain_64 (by decide) ?_
    refine lv_icmp_ne (tgt := 104) hx hb dX2_settleAgain_65 (by decide) (fun h65_8 => ?_) (fun h65_8 => ?_)
    · exact zk_retv L hQ hx hb hr hlocks hS hP hD (Nat.le_of_ble_eq_true rfl) (Nat.le_of_ble_eq_true rfl) dX2_settleAgain_104 (by unfold sSettle; rw [if_neg hno, if_neg (fun z => h65_8 z.1)])
    · refine lv_aload_n hx hb dX2_settleAgain_68 rfl (lv_at hl 1 rfl) ?_
      refine lv_iload_n hx hb dX2_settleAgain_69 rfl (lv_at hl 2 rfl) ?_
      refine lv_iload_n hx hb dX2_settleAgain_70 rfl (lv_at hl 3 rfl) ?_
      have hP0 : va_P G.1 vwCl ((zb_L G ad L ++ zb_M G ad L) ++ ([] : va_W)) H := by rw [List.append_nil]; exact hP
      have hD0 : va_D A ((zb_L G ad L ++ zb_M G ad L) ++ ([] : va_W)) := by rw [List.append_nil]; exact hD
      refine zk_callI (wr := ([] : va_W)) (va_runV (As := [.int (nI c), .int (nI d)]) (rest := []) ⟨hx, hb, hml, hown, hts⟩ (c_X2_isEntitled l G ad L n t hI c d (by omega) (by omega) _) (cwV 2 hts gX2_settleAgain_X2_isEntitled rfl rfl rfl (by decide +kernel) ⟨Nat.le_of_ble_eq_true rfl, Nat.le_of_ble_eq_true rfl⟩) (zk_preV hE hA0 hS (zk_Papp hP0).1 (zk_Dapp hD0).1 (va_recv hK hP (ci := 1) (q0 := 0) rfl rfl)) rfl rfl hl.1 rfl (lv_room (Nat.le_of_ble_eq_true rfl)) dX2_settleAgain_71 ⟨Nat.le_of_ble_eq_true rfl, Nat.le_of_ble_eq_true rfl⟩) hP0 hD0 hS hA (fun r10 u11 H locs q12 hP hD hS => ?_)
      subst q12
      rw [List.append_nil] at hP hD
      have hP : va_P G.1 vwCl (zb_L G ad L ++ zb_M G ad L) H := hP
      have hD : va_D A (zb_L G ad L ++ zb_M G ad L) := hD
      refine lv_if_ne (tgt := 104) hx hb dX2_settleAgain_74 (by decide) (fun h74_12 => ?_) (fun h74_12 => ?_)
      · have h74_12 := zk_b1 h74_12
        exact zk_retv L hQ hx hb hr hlocks hS hP hD (Nat.le_of_ble_eq_true rfl) (Nat.le_of_ble_eq_true rfl) dX2_settleAgain_104 (by unfold sSettle; rw [if_neg hno, if_neg (fun z => z.2 h74_12)])
      · have h74_12 := zk_b0 h74_12
        refine lv_aload_n hx hb dX2_settleAgain_77 rfl (lv_at hl 1 rfl) ?_
        refine va_get (D := G.1) (ci := 1) (v := .ref (ad 3)) (C := RX2) (T := TX2) (N := 14) hx hb hts (fun _ h => List.mem_cons_of_mem _ (List.mem_append_left _ (List.mem_append_right _ h))) hown hK hP 0 rfl rfl 7 (by decide) w2 (fun _ h9 => h9) rfl dX2_settleAgain_78 ?_
        refine lv_iload_n hx hb dX2_settleAgain_81 rfl (lv_at hl 2 rfl) ?_
        refine lv_dup2_11 hx hb dX2_settleAgain_82 rfl rfl ?_
        refine zk_ialdN hx hb hK hP 3 0 rfl rfl (k := c) (n := 12) (by omega) (by omega) dX2_settleAgain_83 ?_
        refine lv_aload_n hx hb dX2_settleAgain_84 rfl (lv_at hl 1 rfl) ?_
        refine va_get (D := G.1) (ci := 1) (v := .int (L 0 2)) (C := RX2) (T := TX2) (N := 14) hx hb hts (fun _ h => List.mem_cons_of_mem _ (List.mem_append_left _ (List.mem_append_right _ h))) hown hK hP 0 rfl rfl 2 (by decide) w3 (fun _ h9 => h9) rfl dX2_settleAgain_85 ?_
        refine lv_isub hx hb dX2_settleAgain_88 ?_
        refine lv_topi (fun x14 ex14 => ?_)
        refine zk_iastN hx hb hK hP hD hS 3 0 rfl rfl (k := c) (n := 12) (by omega) (by omega) dX2_settleAgain_89 (fun H locs hP hD hS => ?_)
        obtain ⟨L15, eL15⟩ : ∃ z : Nat → Nat → Int32, z = up2 L 3 c x14 := ⟨_, rfl⟩
        have hP : va_P G.1 vwCl (zb_L G ad L15 ++ zb_M G ad L15) H := by rw [eL15]; exact hP
        have hD : va_D A (zb_L G ad L15 ++ zb_M G ad L15) := by rw [eL15]; exact hD
        have hI16 : sInv L15 n t := by rw [eL15]; exact sInv_row hI rfl rfl rfl rfl
        refine lv_aload_n hx hb dX2_settleAgain_90 rfl (lv_at hl 1 rfl) ?_
        refine va_get (D := G.1) (ci := 1) (v := .ref (ad 9)) (C := RX2) (T := TX2) (N := 14) hx hb hts (fun _ h => List.mem_cons_of_mem _ (List.mem_append_left _ (List.mem_append_right _ h))) hown hK hP 0 rfl rfl 13 (by decide) w1 (fun _ h9 => h9) rfl dX2_settleAgain_91 ?_
        refine lv_iload_n hx hb dX2_settleAgain_94 rfl (lv_at hl 2 rfl) ?_
        refine lv_iload_n hx hb dX2_settleAgain_95 rfl (lv_at hl 3 rfl) ?_
        refine lv_aload_n hx hb dX2_settleAgain_96 rfl (lv_at hl 1 rfl) ?_
        refine va_get (D := G.1) (ci := 1) (v := .int (L15 0 2)) (C := RX2) (T := TX2) (N := 14) hx hb hts (fun _ h => List.mem_cons_of_mem _ (List.mem_append_left _ (List.mem_append_right _ h))) hown hK hP 0 rfl rfl 2 (by decide) w3 (fun _ h9 => h9) rfl dX2_settleAgain_97 ?_
        refine lv_iload_n hx hb dX2_settleAgain_100 rfl (lv_at hl 2 rfl) ?_
        have hP0 : va_P G.1 vwCl (zb_M G ad L15 ++ zb_L G ad L15) H := zk_Pperm hP List.perm_append_comm
        have hD0 : va_D A (zb_M G ad L15 ++ zb_L G ad L15) := zk_Dperm hD List.perm_append_comm
        refine zk_callV (wr := zb_L G ad L15) (va_runV (As := [.int (nI c), .int (nI d), .int (L15 0 2), .int (nI c)]) (rest := []) ⟨hx, hb, hml, hown, hts⟩ (c_X3_putCharged l G ad L15 c d (L15 0 2) (nI c) (by omega) (by omega) _) (cwV 4 hts gX2_settleAgain_X3_putCharged rfl rfl rfl (by decide +kernel) ⟨Nat.le_of_ble_eq_true rfl, Nat.le_of_ble_eq_true rfl⟩) (zk_preV hE hA0 hS (zk_Papp hP0).1 (zk_Dapp hD0).1 (va_recv hK hP (ci := 2) (q0 := 9) rfl rfl)) rfl rfl hl.1 rfl (lv_room (Nat.le_of_ble_eq_true rfl)) dX2_settleAgain_101 ⟨Nat.le_of_ble_eq_true rfl, Nat.le_of_ble_eq_true rfl⟩) hP0 hD0 hS hA (fun u18 H locs q19 hP hD hS => ?_)
        subst q19
        have hP := zk_Pperm hP List.perm_append_comm
        have hD := zk_Dperm hD List.perm_append_comm
        have hP : va_P G.1 vwCl (zb_L G ad (up2 (up2 (up2 L15 9 (c * 40 + d) (nI 2)) 10 (c * 40 + d) (L15 0 2)) 11 (c * 40 + d) (nI c)) ++ zb_M G ad (up2 (up2 (up2 L15 9 (c * 40 + d) (nI 2)) 10 (c * 40 + d) (L15 0 2)) 11 (c * 40 + d) (nI c))) H := hP
        have hD : va_D A (zb_L G ad (up2 (up2 (up2 L15 9 (c * 40 + d) (nI 2)) 10 (c * 40 + d) (L15 0 2)) 11 (c * 40 + d) (nI c)) ++ zb_M G ad (up2 (up2 (up2 L15 9 (c * 40 + d) (nI 2)) 10 (c * 40 + d) (L15 0 2)) 11 (c * 40 + d) (nI c))) := hD
        obtain ⟨L20, eL20⟩ : ∃ z : Nat → Nat → Int32, z = up2 (up2 (up2 L15 9 (c * 40 + d) (nI 2)) 10 (c * 40 + d) (L15 0 2)) 11 (c * 40 + d) (nI c) := ⟨_, rfl⟩
        have hP : va_P G.1 vwCl (zb_L G ad L20 ++ zb_M G ad L20) H := by rw [eL20]; exact hP
        have hD : va_D A (zb_L G ad L20 ++ zb_M G ad L20) := by rw [eL20]; exact hD
        exact zk_retv L20 hQ hx hb hr hlocks hS hP hD (Nat.le_of_ble_eq_true rfl) (Nat.le_of_ble_eq_true rfl) dX2_settleAgain_104 (by subst_vars; unfold sSettle; rw [if_neg hno, if_pos (And.intro h65_8 h74_12)]; rfl)
  · have hk : L 9 (c * 40 + d) = nI 2 := by
      by_cases z : L 9 (c * 40 + d) = nI 2
      · exact z
      · rw [ex4, if_neg z] at h12_4; exact absurd rfl h12_4
    obtain ⟨j, hj, ej⟩ := hI.2.2.2.2.2 (c * 40 + d) (by omega) hk
    have ep : x4 = nI j := by rw [ex4, if_pos hk]; exact ej
    have nj := nI_clamp (show j < 2 ^ 31 by omega)
    have hl : lv_has ls 4 [(3, .int (nI j)), (0, .ref (ad 0)), (1, .int (nI c)), (2, .int (nI d))] := by rw [ep] at hl; exact hl
    refine lv_aload_n hx hb dX2_settleAgain_15 rfl (lv_at hl 1 rfl) ?_
    refine lv_iload_n hx hb dX2_settleAgain_16 rfl (lv_at hl 2 rfl) ?_
    refine lv_iload_n hx hb dX2_settleAgain_17 rfl (lv_at hl 3 rfl) ?_
    have hP0 : va_P G.1 vwCl ((zb_L G ad L ++ zb_M G ad L) ++ ([] : va_W)) H := by rw [List.append_nil]; exact hP
    have hD0 : va_D A ((zb_L G ad L ++ zb_M G ad L) ++ ([] : va_W)) := by rw [List.append_nil]; exact hD
    refine zk_callI (wr := ([] : va_W)) (va_runV (As := [.int (nI c), .int (nI d)]) (rest := []) ⟨hx, hb, hml, hown, hts⟩ (c_X2_isEntitled l G ad L n t hI c d (by omega) (by omega) _) (cwV 2 hts gX2_settleAgain_X2_isEntitled rfl rfl rfl (by decide +kernel) ⟨Nat.le_of_ble_eq_true rfl, Nat.le_of_ble_eq_true rfl⟩) (zk_preV hE hA0 hS (zk_Papp hP0).1 (zk_Dapp hD0).1 (va_recv hK hP (ci := 1) (q0 := 0) rfl rfl)) rfl rfl hl.1 rfl (lv_room (Nat.le_of_ble_eq_true rfl)) dX2_settleAgain_18 ⟨Nat.le_of_ble_eq_true rfl, Nat.le_of_ble_eq_true rfl⟩) hP0 hD0 hS hA (fun r21 u22 H locs q23 hP hD hS => ?_)
    subst q23
    rw [List.append_nil] at hP hD
    have hP : va_P G.1 vwCl (zb_L G ad L ++ zb_M G ad L) H := hP
    have hD : va_D A (zb_L G ad L ++ zb_M G ad L) := hD
    refine lv_if_eq (tgt := 55) hx hb dX2_settleAgain_21 (by decide) (fun h21_23 => ?_) (fun h21_23 => ?_)
    · have h21_23 := zk_b0 h21_23
      have hno : ¬ (L 9 (c * 40 + d) = nI 2 ∧ sEnt L c d) := fun z => h21_23 z.2
      refine lv_aload_n hx hb dX2_settleAgain_55 rfl (lv_at hl 1 rfl) ?_
      refine va_get (D := G.1) (ci := 1) (v := .ref (ad 9)) (C := RX2) (T := TX2) (N := 14) hx hb hts (fun _ h => List.mem_cons_of_mem _ (List.mem_append_left _ (List.mem_append_right _ h))) hown hK hP 0 rfl rfl 13 (by decide) w1 (fun _ h9 => h9) rfl dX2_settleAgain_56 ?_
      refine lv_iload_n hx hb dX2_settleAgain_59 rfl (lv_at hl 2 rfl) ?_
      refine lv_iload_n hx hb dX2_settleAgain_60 rfl (lv_at hl 3 rfl) ?_
      have hP0 : va_P G.1 vwCl (zb_M G ad L ++ zb_L G ad L) H := zk_Pperm hP List.perm_append_comm
      have hD0 : va_D A (zb_M G ad L ++ zb_L G ad L) := zk_Dperm hD List.perm_append_comm
      refine zk_callI (wr := zb_L G ad L) (va_runV (As := [.int (nI c), .int (nI d)]) (rest := []) ⟨hx, hb, hml, hown, hts⟩ (c_X3_kindOf l G ad L c d (by omega) (by omega) _) (cwV 2 hts gX2_settleAgain_X3_kindOf rfl rfl rfl (by decide +kernel) ⟨Nat.le_of_ble_eq_true rfl, Nat.le_of_ble_eq_true rfl⟩) (zk_preV hE hA0 hS (zk_Papp hP0).1 (zk_Dapp hD0).1 (va_recv hK hP (ci := 2) (q0 := 9) rfl rfl)) rfl rfl hl.1 rfl (lv_room (Nat.le_of_ble_eq_true rfl)) dX2_settleAgain_61 ⟨Nat.le_of_ble_eq_true rfl, Nat.le_of_ble_eq_true rfl⟩) hP0 hD0 hS hA (fun r25 u26 H locs q27 hP hD hS => ?_)
      subst q27
      have hP := zk_Pperm hP List.perm_append_comm
      have hD := zk_Dperm hD List.perm_append_comm
      have hP : va_P G.1 vwCl (zb_L G ad L ++ zb_M G ad L) H := hP
      have hD : va_D A (zb_L G ad L ++ zb_M G ad L) := hD
      refine lv_iconst (v := nI 3) hx hb dX2_settleAgain_64 (by decide) ?_
      refine lv_icmp_ne (tgt := 104) hx hb dX2_settleAgain_65 (by decide) (fun h65_27 => ?_) (fun h65_27 => ?_)
      · exact zk_retv L hQ hx hb hr hlocks hS hP hD (Nat.le_of_ble_eq_true rfl) (Nat.le_of_ble_eq_true rfl) dX2_settleAgain_104 (by unfold sSettle; rw [if_neg hno, if_neg (fun z => h65_27 z.1)])
      · refine lv_aload_n hx hb dX2_settleAgain_68 rfl (lv_at hl 1 rfl) ?_
        refine lv_iload_n hx hb dX2_settleAgain_69 rfl (lv_at hl 2 rfl) ?_
        refine lv_iload_n hx hb dX2_settleAgain_70 rfl (lv_at hl 3 rfl) ?_
        have hP0 : va_P G.1 vwCl ((zb_L G ad L ++ zb_M G ad L) ++ ([] : va_W)) H := by rw [List.append_nil]; exact hP
        have hD0 : va_D A ((zb_L G ad L ++ zb_M G ad L) ++ ([] : va_W)) := by rw [List.append_nil]; exact hD
        refine zk_callI (wr := ([] : va_W)) (va_runV (As := [.int (nI c), .int (nI d)]) (rest := []) ⟨hx, hb, hml, hown, hts⟩ (c_X2_isEntitled l G ad L n t hI c d (by omega) (by omega) _) (cwV 2 hts gX2_settleAgain_X2_isEntitled rfl rfl rfl (by decide +kernel) ⟨Nat.le_of_ble_eq_true rfl, Nat.le_of_ble_eq_true rfl⟩) (zk_preV hE hA0 hS (zk_Papp hP0).1 (zk_Dapp hD0).1 (va_recv hK hP (ci := 1) (q0 := 0) rfl rfl)) rfl rfl hl.1 rfl (lv_room (Nat.le_of_ble_eq_true rfl)) dX2_settleAgain_71 ⟨Nat.le_of_ble_eq_true rfl, Nat.le_of_ble_eq_true rfl⟩) hP0 hD0 hS hA (fun r29 u30 H locs q31 hP hD hS => ?_)
        subst q31
        rw [List.append_nil] at hP hD
        have hP : va_P G.1 vwCl (zb_L G ad L ++ zb_M G ad L) H := hP
        have hD : va_D A (zb_L G ad L ++ zb_M G ad L) := hD
        refine lv_if_ne (tgt := 104) hx hb dX2_settleAgain_74 (by decide) (fun h74_31 => ?_) (fun h74_31 => ?_)
        · have h74_31 := zk_b1 h74_31
          exact zk_retv L hQ hx hb hr hlocks hS hP hD (Nat.le_of_ble_eq_true rfl) (Nat.le_of_ble_eq_true rfl) dX2_settleAgain_104 (by unfold sSettle; rw [if_neg hno, if_neg (fun z => z.2 h74_31)])
        · have h74_31 := zk_b0 h74_31
          refine lv_aload_n hx hb dX2_settleAgain_77 rfl (lv_at hl 1 rfl) ?_
          refine va_get (D := G.1) (ci := 1) (v := .ref (ad 3)) (C := RX2) (T := TX2) (N := 14) hx hb hts (fun _ h => List.mem_cons_of_mem _ (List.mem_append_left _ (List.mem_append_right _ h))) hown hK hP 0 rfl rfl 7 (by decide) w2 (fun _ h9 => h9) rfl dX2_settleAgain_78 ?_
          refine lv_iload_n hx hb dX2_settleAgain_81 rfl (lv_at hl 2 rfl) ?_
          refine lv_dup2_11 hx hb dX2_settleAgain_82 rfl rfl ?_
          refine zk_ialdN hx hb hK hP 3 0 rfl rfl (k := c) (n := 12) (by omega) (by omega) dX2_settleAgain_83 ?_
          refine lv_aload_n hx hb dX2_settleAgain_84 rfl (lv_at hl 1 rfl) ?_
          refine va_get (D := G.1) (ci := 1) (v := .int (L 0 2)) (C := RX2) (T := TX2) (N := 14) hx hb hts (fun _ h => List.mem_cons_of_mem _ (List.mem_append_left _ (List.mem_append_right _ h))) hown hK hP 0 rfl rfl 2 (by decide) w3 (fun _ h9 => h9) rfl dX2_settleAgain_85 ?_
          refine lv_isub hx hb dX2_settleAgain_88 ?_
          refine lv_topi (fun x33 ex33 => ?_)
          refine zk_iastN hx hb hK hP hD hS 3 0 rfl rfl (k := c) (n := 12) (by omega) (by omega) dX2_settleAgain_89 (fun H locs hP hD hS => ?_)
          obtain ⟨L34, eL34⟩ : ∃ z : Nat → Nat → Int32, z = up2 L 3 c x33 := ⟨_, rfl⟩
          have hP : va_P G.1 vwCl (zb_L G ad L34 ++ zb_M G ad L34) H := by rw [eL34]; exact hP
          have hD : va_D A (zb_L G ad L34 ++ zb_M G ad L34) := by rw [eL34]; exact hD
          have hI35 : sInv L34 n t := by rw [eL34]; exact sInv_row hI rfl rfl rfl rfl
          refine lv_aload_n hx hb dX2_settleAgain_90 rfl (lv_at hl 1 rfl) ?_
          refine va_get (D := G.1) (ci := 1) (v := .ref (ad 9)) (C := RX2) (T := TX2) (N := 14) hx hb hts (fun _ h => List.mem_cons_of_mem _ (List.mem_append_left _ (List.mem_append_right _ h))) hown hK hP 0 rfl rfl 13 (by decide) w1 (fun _ h9 => h9) rfl dX2_settleAgain_91 ?_
          refine lv_iload_n hx hb dX2_settleAgain_94 rfl (lv_at hl 2 rfl) ?_
          refine lv_iload_n hx hb dX2_settleAgain_95 rfl (lv_at hl 3 rfl) ?_
          refine lv_aload_n hx hb dX2_settleAgain_96 rfl (lv_at hl 1 rfl) ?_
          refine va_get (D := G.1) (ci := 1) (v := .int (L34 0 2)) (C := RX2) (T := TX2) (N := 14) hx hb hts (fun _ h => List.mem_cons_of_mem _ (List.mem_append_left _ (List.mem_append_right _ h))) hown hK hP 0 rfl rfl 2 (by decide) w3 (fun _ h9 => h9) rfl dX2_settleAgain_97 ?_
          refine lv_iload_n hx hb dX2_settleAgain_100 rfl (lv_at hl 2 rfl) ?_
          have hP0 : va_P G.1 vwCl (zb_M G ad L34 ++ zb_L G ad L34) H := zk_Pperm hP List.perm_append_comm
          have hD0 : va_D A (zb_M G ad L34 ++ zb_L G ad L34) := zk_Dperm hD List.perm_append_comm
          refine zk_callV (wr := zb_L G ad L34) (va_runV (As := [.int (nI c), .int (nI d), .int (L34 0 2), .int (nI c)]) (rest := []) ⟨hx, hb, hml, hown, hts⟩ (c_X3_putCharged l G ad L34 c d (L34 0 2) (nI c) (by omega) (by omega) _) (cwV 4 hts gX2_settleAgain_X3_putCharged rfl rfl rfl (by decide +kernel) ⟨Nat.le_of_ble_eq_true rfl, Nat.le_of_ble_eq_true rfl⟩) (zk_preV hE hA0 hS (zk_Papp hP0).1 (zk_Dapp hD0).1 (va_recv hK hP (ci := 2) (q0 := 9) rfl rfl)) rfl rfl hl.1 rfl (lv_room (Nat.le_of_ble_eq_true rfl)) dX2_settleAgain_101 ⟨Nat.le_of_ble_eq_true rfl, Nat.le_of_ble_eq_true rfl⟩) hP0 hD0 hS hA (fun u37 H locs q38 hP hD hS => ?_)
          subst q38
          have hP := zk_Pperm hP List.perm_append_comm
          have hD := zk_Dperm hD List.perm_append_comm
          have hP : va_P G.1 vwCl (zb_L G ad (up2 (up2 (up2 L34 9 (c * 40 + d) (nI 2)) 10 (c * 40 + d) (L34 0 2)) 11 (c * 40 + d) (nI c)) ++ zb_M G ad (up2 (up2 (up2 L34 9 (c * 40 + d) (nI 2)) 10 (c * 40 + d) (L34 0 2)) 11 (c * 40 + d) (nI c))) H := hP
          have hD : va_D A (zb_L G ad (up2 (up2 (up2 L34 9 (c * 40 + d) (nI 2)) 10 (c * 40 + d) (L34 0 2)) 11 (c * 40 + d) (nI c)) ++ zb_M G ad (up2 (up2 (up2 L34 9 (c * 40 + d) (nI 2)) 10 (c * 40 + d) (L34 0 2)) 11 (c * 40 + d) (nI c))) := hD
          obtain ⟨L39, eL39⟩ : ∃ z : Nat → Nat → Int32, z = up2 (up2 (up2 L34 9 (c * 40 + d) (nI 2)) 10 (c * 40 + d) (L34 0 2)) 11 (c * 40 + d) (nI c) := ⟨_, rfl⟩
          have hP : va_P G.1 vwCl (zb_L G ad L39 ++ zb_M G ad L39) H := by rw [eL39]; exact hP
          have hD : va_D A (zb_L G ad L39 ++ zb_M G ad L39) := by rw [eL39]; exact hD
          exact zk_retv L39 hQ hx hb hr hlocks hS hP hD (Nat.le_of_ble_eq_true rfl) (Nat.le_of_ble_eq_true rfl) dX2_settleAgain_104 (by subst_vars; unfold sSettle; rw [if_neg hno, if_pos (And.intro h65_27 h74_31)]; rfl)
    · have h21_23 := zk_b1 h21_23
      refine lv_aload_n hx hb dX2_settleAgain_24 rfl (lv_at hl 1 rfl) ?_
      refine va_get (D := G.1) (ci := 1) (v := .ref (ad 3)) (C := RX2) (T := TX2) (N := 14) hx hb hts (fun _ h => List.mem_cons_of_mem _ (List.mem_append_left _ (List.mem_append_right _ h))) hown hK hP 0 rfl rfl 7 (by decide) w2 (fun _ h9 => h9) rfl dX2_settleAgain_25 ?_
      refine lv_iload_n hx hb dX2_settleAgain_28 rfl (lv_at hl 0 rfl) ?_
      refine lv_dup2_11 hx hb dX2_settleAgain_29 rfl rfl ?_
      refine zk_ialdN hx hb hK hP 3 0 rfl rfl (k := j) (n := 12) (by omega) (by omega) dX2_settleAgain_30 ?_
      refine lv_aload_n hx hb dX2_settleAgain_31 rfl (lv_at hl 1 rfl) ?_
      refine va_get (D := G.1) (ci := 1) (v := .ref (ad 9)) (C := RX2) (T := TX2) (N := 14) hx hb hts (fun _ h => List.mem_cons_of_mem _ (List.mem_append_left _ (List.mem_append_right _ h))) hown hK hP 0 rfl rfl 13 (by decide) w1 (fun _ h9 => h9) rfl dX2_settleAgain_32 ?_
      refine lv_iload_n hx hb dX2_settleAgain_35 rfl (lv_at hl 2 rfl) ?_
      refine lv_iload_n hx hb dX2_settleAgain_36 rfl (lv_at hl 3 rfl) ?_
      have hP0 : va_P G.1 vwCl (zb_M G ad L ++ zb_L G ad L) H := zk_Pperm hP List.perm_append_comm
      have hD0 : va_D A (zb_M G ad L ++ zb_L G ad L) := zk_Dperm hD List.perm_append_comm
      refine zk_callI (wr := zb_L G ad L) (va_runV (As := [.int (nI c), .int (nI d)]) (rest := [.int ((L 3) j), .int (nI j), .ref (ad 3)]) ⟨hx, hb, hml, hown, hts⟩ (c_X3_chargeOf l G ad L c d (by omega) (by omega) _) (cwV 2 hts gX2_settleAgain_X3_chargeOf rfl rfl rfl (by decide +kernel) ⟨Nat.le_of_ble_eq_true rfl, Nat.le_of_ble_eq_true rfl⟩) (zk_preV hE hA0 hS (zk_Papp hP0).1 (zk_Dapp hD0).1 (va_recv hK hP (ci := 2) (q0 := 9) rfl rfl)) rfl rfl hl.1 rfl (lv_room (Nat.le_of_ble_eq_true rfl)) dX2_settleAgain_37 ⟨Nat.le_of_ble_eq_true rfl, Nat.le_of_ble_eq_true rfl⟩) hP0 hD0 hS hA (fun r40 u41 H locs q42 hP hD hS => ?_)
      subst q42
      have hP := zk_Pperm hP List.perm_append_comm
      have hD := zk_Dperm hD List.perm_append_comm
      have hP : va_P G.1 vwCl (zb_L G ad L ++ zb_M G ad L) H := hP
      have hD : va_D A (zb_L G ad L ++ zb_M G ad L) := hD
      refine lv_iadd hx hb dX2_settleAgain_40 ?_
      refine lv_topi (fun x43 ex43 => ?_)
      refine zk_iastN hx hb hK hP hD hS 3 0 rfl rfl (k := j) (n := 12) (by omega) (by omega) dX2_settleAgain_41 (fun H locs hP hD hS => ?_)
      obtain ⟨L44, eL44⟩ : ∃ z : Nat → Nat → Int32, z = up2 L 3 j x43 := ⟨_, rfl⟩
      have hP : va_P G.1 vwCl (zb_L G ad L44 ++ zb_M G ad L44) H := by rw [eL44]; exact hP
      have hD : va_D A (zb_L G ad L44 ++ zb_M G ad L44) := by rw [eL44]; exact hD
      have hI45 : sInv L44 n t := by rw [eL44]; exact sInv_row hI rfl rfl rfl rfl
      refine lv_aload_n hx hb dX2_settleAgain_42 rfl (lv_at hl 1 rfl) ?_
      refine va_get (D := G.1) (ci := 1) (v := .ref (ad 9)) (C := RX2) (T := TX2) (N := 14) hx hb hts (fun _ h => List.mem_cons_of_mem _ (List.mem_append_left _ (List.mem_append_right _ h))) hown hK hP 0 rfl rfl 13 (by decide) w1 (fun _ h9 => h9) rfl dX2_settleAgain_43 ?_
      refine lv_iload_n hx hb dX2_settleAgain_46 rfl (lv_at hl 2 rfl) ?_
      refine lv_iload_n hx hb dX2_settleAgain_47 rfl (lv_at hl 3 rfl) ?_
      refine lv_iconst (v := nI 3) hx hb dX2_settleAgain_48 (by decide) ?_
      have hP0 : va_P G.1 vwCl (zb_M G ad L44 ++ zb_L G ad L44) H := zk_Pperm hP List.perm_append_comm
      have hD0 : va_D A (zb_M G ad L44 ++ zb_L G ad L44) := zk_Dperm hD List.perm_append_comm
      refine zk_callV (wr := zb_L G ad L44) (va_runV (As := [.int (nI c), .int (nI d), .int (nI 3)]) (rest := []) ⟨hx, hb, hml, hown, hts⟩ (c_X3_put l G ad L44 c d (nI 3) (by omega) (by omega) _) (cwV 3 hts gX2_settleAgain_X3_put rfl rfl rfl (by decide +kernel) ⟨Nat.le_of_ble_eq_true rfl, Nat.le_of_ble_eq_true rfl⟩) (zk_preV hE hA0 hS (zk_Papp hP0).1 (zk_Dapp hD0).1 (va_recv hK hP (ci := 2) (q0 := 9) rfl rfl)) rfl rfl hl.1 rfl (lv_room (Nat.le_of_ble_eq_true rfl)) dX2_settleAgain_49 ⟨Nat.le_of_ble_eq_true rfl, Nat.le_of_ble_eq_true rfl⟩) hP0 hD0 hS hA (fun u47 H locs q48 hP hD hS => ?_)
      subst q48
      have hP := zk_Pperm hP List.perm_append_comm
      have hD := zk_Dperm hD List.perm_append_comm
      have hP : va_P G.1 vwCl (zb_L G ad (up2 L44 9 (c * 40 + d) (nI 3)) ++ zb_M G ad (up2 L44 9 (c * 40 + d) (nI 3))) H := hP
      have hD : va_D A (zb_L G ad (up2 L44 9 (c * 40 + d) (nI 3)) ++ zb_M G ad (up2 L44 9 (c * 40 + d) (nI 3))) := hD
      obtain ⟨L49, eL49⟩ : ∃ z : Nat → Nat → Int32, z = up2 L44 9 (c * 40 + d) (nI 3) := ⟨_, rfl⟩
      have hP : va_P G.1 vwCl (zb_L G ad L49 ++ zb_M G ad L49) H := by rw [eL49]; exact hP
      have hD : va_D A (zb_L G ad L49 ++ zb_M G ad L49) := by rw [eL49]; exact hD
      refine lv_goto (tgt := 104) hx hb dX2_settleAgain_52 (by decide) ?_
      exact zk_retv L49 hQ hx hb hr hlocks hS hP hD (Nat.le_of_ble_eq_true rfl) (Nat.le_of_ble_eq_true rfl) dX2_settleAgain_104 (by subst_vars; unfold sSettle; rw [if_pos (And.intro hk h21_23), ej, nj]; simp +decide [hk])

abbrev rmX2_changeEntitlement : Room := { frames := 3, cells := 0, slots := 0, locals := 69 }
set_option maxHeartbeats 4000000 in
set_option maxRecDepth 100000 in
/-- entitlement changes -/
theorem c_X2_changeEntitlement (l : Launch) (G : zk_G) (ad : Nat → Nat) (L : zL) (n t : Nat) (hI : sInv L n t) (c : Nat) (fr to : Int32) (hc : c < n) : zk_I (S := zL) l yX2_changeEntitlement wsX2_changeEntitlement rmX2_changeEntitlement G [.ref (ad 0), .int (nI c), .int fr, .int to] (zb_L G ad L ++ zb_M G ad L) (fun r u => r = zs (u 3) n - zs (L 3) n ∧ u = sEntitle L t c fr to) (fun u => zb_L G ad u ++ zb_M G ad u) := by
  refine zk_bodyI (cc := cX2_changeEntitlement) (maxL := 6) (ret := (some .int)) (by decide) rfl (Nat.le_of_ble_eq_true rfl) ?_
  intro p E0 s m args below meth cd A ls Q hF hQ
  obtain ⟨hx, hb, hml, hr, hts, hown, hlocks, -, hE, hP, hD, hS, hA, hA0, hl⟩ := hF
  have hK := hE.1
  have hl : lv_has ls 6 [(0, .ref (ad 0)), (1, .int (nI c)), (2, .int fr), (3, .int to)] := hl
  obtain ⟨hn, hn12, ht, ht40, hfam, hpay⟩ := id hI
  have w1 := hts _ (List.mem_of_getElem? (l := wsX2_changeEntitlement) (i := 1) (a := Cond.fieldLink RX2 21 "MealAccounts$Ledger" "firstDayOf" "[I") rfl)
  have w2 := hts _ (List.mem_of_getElem? (l := wsX2_changeEntitlement) (i := 2) (a := Cond.fieldLink RX2 24 "MealAccounts$Ledger" "lastDayOf" "[I") rfl)
  have w3 := hts _ (List.mem_of_getElem? (l := wsX2_changeEntitlement) (i := 3) (a := Cond.fieldLink RX2 50 "MealAccounts$Ledger" "today" "I") rfl)
  refine lv_aload_n hx hb dX2_changeEntitlement_0 rfl (lv_at hl 0 rfl) ?_
  have hP0 : va_P G.1 vwCl ((zb_L G ad L ++ zb_M G ad L) ++ ([] : va_W)) s.heap := by rw [List.append_nil]; exact hP
  have hD0 : va_D A ((zb_L G ad L ++ zb_M G ad L) ++ ([] : va_W)) := by rw [List.append_nil]; exact hD
  refine zk_callI (wr := ([] : va_W)) (va_runV (As := []) (rest := []) ⟨hx, hb, hml, hown, hts⟩ (c_X2_sumOfBalances l G ad L n t hI _) (cwV 0 hts gX2_changeEntitlement_X2_sumOfBalances rfl rfl rfl (by decide +kernel) ⟨Nat.le_of_ble_eq_true rfl, Nat.le_of_ble_eq_true rfl⟩) (zk_preV hE hA0 hS (zk_Papp hP0).1 (zk_Dapp hD0).1 (va_recv hK hP (ci := 1) (q0 := 0) rfl rfl)) rfl rfl hl.1 rfl (lv_room (Nat.le_of_ble_eq_true rfl)) dX2_changeEntitlement_1 ⟨Nat.le_of_ble_eq_true rfl, Nat.le_of_ble_eq_true rfl⟩) hP0 hD0 hS hA (fun r1 u2 H locs q3 hP hD hS => ?_)
  subst q3
  rw [List.append_nil] at hP hD
  have hP : va_P G.1 vwCl (zb_L G ad L ++ zb_M G ad L) H := hP
  have hD : va_D A (zb_L G ad L ++ zb_M G ad L) := hD
  refine lv_topi (fun x4 ex4 => ?_)
  refine lv_istore (lv' := [(4, .int x4), (0, .ref (ad 0)), (1, .int (nI c)), (2, .int fr), (3, .int to)]) hx hb dX2_changeEntitlement_4 hl (by decide) rfl (fun ls hl => ?_)
  refine lv_aload_n hx hb dX2_changeEntitlement_6 rfl (lv_at hl 1 rfl) ?_
  refine va_get (D := G.1) (ci := 1) (v := .ref (ad 4)) (C := RX2) (T := TX2) (N := 14) hx hb hts (fun _ h => List.mem_cons_of_mem _ (List.mem_append_left _ (List.mem_append_right _ h))) hown hK hP 0 rfl rfl 8 (by decide) w1 (fun _ h9 => h9) rfl dX2_changeEntitlement_7 ?_
  refine lv_iload_n hx hb dX2_changeEntitlement_10 rfl (lv_at hl 2 rfl) ?_
  refine lv_iload_n hx hb dX2_changeEntitlement_11 rfl (lv_at hl 4 rfl) ?_
  refine lv_iconst (v := -1) hx hb dX2_changeEntitlement_12 (by decide) ?_
  refine lv_icmp_ne (tgt := 20) hx hb dX2_changeEntitlement_13 (by decide) (fun h13_4 => ?_) (fun h13_4 => ?_)
  · refine lv_iload_n hx hb dX2_changeEntitlement_20 rfl (lv_at hl 3 rfl) ?_
    refine zk_iastN hx hb hK hP hD hS 4 0 rfl rfl (k := c) (n := 12) (by omega) (by omega) dX2_changeEntitlement_21 (fun H locs hP hD hS => ?_)
    obtain ⟨L6, eL6⟩ : ∃ z : Nat → Nat → Int32, z = up2 L 4 c fr := ⟨_, rfl⟩
    have hP : va_P G.1 vwCl (zb_L G ad L6 ++ zb_M G ad L6) H := by rw [eL6]; exact hP
    have hD : va_D A (zb_L G ad L6 ++ zb_M G ad L6) := by rw [eL6]; exact hD
    have hI7 : sInv L6 n t := by rw [eL6]; exact sInv_row hI rfl rfl rfl rfl
    refine lv_aload_n hx hb dX2_changeEntitlement_22 rfl (lv_at hl 1 rfl) ?_
    refine va_get (D := G.1) (ci := 1) (v := .ref (ad 5)) (C := RX2) (T := TX2) (N := 14) hx hb hts (fun _ h => List.mem_cons_of_mem _ (List.mem_append_left _ (List.mem_append_right _ h))) hown hK hP 0 rfl rfl 9 (by decide) w2 (fun _ h9 => h9) rfl dX2_changeEntitlement_23 ?_
    refine lv_iload_n hx hb dX2_changeEntitlement_26 rfl (lv_at hl 2 rfl) ?_
    refine lv_iload_n hx hb dX2_changeEntitlement_27 rfl (lv_at hl 4 rfl) ?_
    refine zk_iastN hx hb hK hP hD hS 5 0 rfl rfl (k := c) (n := 12) (by omega) (by omega) dX2_changeEntitlement_28 (fun H locs hP hD hS => ?_)
    obtain ⟨L8, eL8⟩ : ∃ z : Nat → Nat → Int32, z = up2 L6 5 c to := ⟨_, rfl⟩
    have hP : va_P G.1 vwCl (zb_L G ad L8 ++ zb_M G ad L8) H := by rw [eL8]; exact hP
    have hD : va_D A (zb_L G ad L8 ++ zb_M G ad L8) := by rw [eL8]; exact hD
    have hI9 : sInv L8 n t := by rw [eL8]; exact sInv_row hI7 rfl rfl rfl rfl
    refine lv_iconst (v := nI 0) hx hb dX2_changeEntitlement_29 (by decide) ?_
    refine lv_istore (lv' := [(5, .int (nI 0)), (4, .int x4), (0, .ref (ad 0)), (1, .int (nI c)), (2, .int fr), (3, .int to)]) hx hb dX2_changeEntitlement_30 hl (by decide) rfl (fun ls hl => ?_)
    have lp10 : ∀ (n12 : Nat) (i : Nat) (X : zL), t - i < n12 → (i ≤ t) → (X = sEntitle L i c fr to) → (sInv X n t) → ∀ (H : Heap) (locs : List Loc) (hP : va_P G.1 vwCl (zb_L G ad X ++ zb_M G ad X) H) (hD : va_D A (zb_L G ad X ++ zb_M G ad X)) (hS : va_S A s.heap H locs) (ls : Array Slot), lv_has ls 6 [(5, .int (nI i)), (4, .int x4), (0, .ref (ad 0)), (1, .int (nI c)), (2, .int fr), (3, .int to)] → W p l E0 rmX2_changeEntitlement s m args below meth cd H locs 0 0 Q (F0 m 32 ls []) := by
      intro n12
      induction n12 with
      | zero => intro i X hz; exact absurd hz (Nat.not_lt_zero _)
      | succ n12 ih11 =>
        intro i X hm hi hq hX H locs hP hD hS ls hl
        refine lv_iload hx hb dX2_changeEntitlement_32 (lv_at hl 0 rfl) ?_
        refine lv_aload_n hx hb dX2_changeEntitlement_34 rfl (lv_at hl 2 rfl) ?_
        refine va_get (D := G.1) (ci := 1) (v := .int (X 0 0)) (C := RX2) (T := TX2) (N := 14) hx hb hts (fun _ h => List.mem_cons_of_mem _ (List.mem_append_left _ (List.mem_append_right _ h))) hown hK hP 0 rfl rfl 0 (by decide) w3 (fun _ h9 => h9) rfl dX2_changeEntitlement_35 ?_
        refine zk_top hX.2.2.1 ?_
        refine lv_icmp_ge (tgt := 54) hx hb dX2_changeEntitlement_38 (by decide) (fun h38_12 => ?_) (fun h38_12 => ?_)
        · have h38_12 := zk_le (by omega) (by omega) h38_12
          refine lv_aload_n hx hb dX2_changeEntitlement_54 rfl (lv_at hl 2 rfl) ?_
          have hP0 : va_P G.1 vwCl ((zb_L G ad X ++ zb_M G ad X) ++ ([] : va_W)) H := by rw [List.append_nil]; exact hP
          have hD0 : va_D A ((zb_L G ad X ++ zb_M G ad X) ++ ([] : va_W)) := by rw [List.append_nil]; exact hD
          refine zk_callI (wr := ([] : va_W)) (va_runV (As := []) (rest := []) ⟨hx, hb, hml, hown, hts⟩ (c_X2_sumOfBalances l G ad X n t hX _) (cwV 0 hts gX2_changeEntitlement_X2_sumOfBalances rfl rfl rfl (by decide +kernel) ⟨Nat.le_of_ble_eq_true rfl, Nat.le_of_ble_eq_true rfl⟩) (zk_preV hE hA0 hS (zk_Papp hP0).1 (zk_Dapp hD0).1 (va_recv hK hP (ci := 1) (q0 := 0) rfl rfl)) rfl rfl hl.1 rfl (lv_room (Nat.le_of_ble_eq_true rfl)) dX2_changeEntitlement_55 ⟨Nat.le_of_ble_eq_true rfl, Nat.le_of_ble_eq_true rfl⟩) hP0 hD0 hS hA (fun r14 u15 H locs q16 hP hD hS => ?_)
          subst q16
          rw [List.append_nil] at hP hD
          have hP : va_P G.1 vwCl (zb_L G ad X ++ zb_M G ad X) H := hP
          have hD : va_D A (zb_L G ad X ++ zb_M G ad X) := hD
          refine lv_iload hx hb dX2_changeEntitlement_58 (lv_at hl 1 rfl) ?_
          refine lv_isub hx hb dX2_changeEntitlement_60 ?_
          exact zk_reti X hQ hx hb hr hlocks hS hP hD (Nat.le_of_ble_eq_true rfl) (Nat.le_of_ble_eq_true rfl) dX2_changeEntitlement_61 (⟨by rw [ex4], by rw [show i = t by omega] at hq; exact hq⟩)
        · have h38_12 := zk_nle (by omega) (by omega) h38_12
          refine lv_aload_n hx hb dX2_changeEntitlement_41 rfl (lv_at hl 2 rfl) ?_
          refine lv_iload_n hx hb dX2_changeEntitlement_42 rfl (lv_at hl 3 rfl) ?_
          refine lv_iload hx hb dX2_changeEntitlement_43 (lv_at hl 0 rfl) ?_
          have hP0 : va_P G.1 vwCl ((zb_L G ad X ++ zb_M G ad X) ++ ([] : va_W)) H := by rw [List.append_nil]; exact hP
          have hD0 : va_D A ((zb_L G ad X ++ zb_M G ad X) ++ ([] : va_W)) := by rw [List.append_nil]; exact hD
          refine zk_callV (wr := ([] : va_W)) (va_runV (As := [.int (nI c), .int (nI i)]) (rest := []) ⟨hx, hb, hml, hown, hts⟩ (c_X2_settleAgain l G ad X n t hX c i (by omega) (by omega) _) (cwV 2 hts gX2_changeEntitlement_X2_settleAgain rfl rfl rfl (by decide +kernel) ⟨Nat.le_of_ble_eq_true rfl, Nat.le_of_ble_eq_true rfl⟩) (zk_preV hE hA0 hS (zk_Papp hP0).1 (zk_Dapp hD0).1 (va_recv hK hP (ci := 1) (q0 := 0) rfl rfl)) rfl rfl hl.1 rfl (lv_room (Nat.le_of_ble_eq_true rfl)) dX2_changeEntitlement_45 ⟨Nat.le_of_ble_eq_true rfl, Nat.le_of_ble_eq_true rfl⟩) hP0 hD0 hS hA (fun u18 H locs q19 hP hD hS => ?_)
          have eL20 := q19
          rw [List.append_nil] at hP hD
          have hP : va_P G.1 vwCl (zb_L G ad u18 ++ zb_M G ad u18) H := hP
          have hD : va_D A (zb_L G ad u18 ++ zb_M G ad u18) := hD
          have hI21 : sInv u18 n t := by rw [eL20]; exact sInv_settle hX (by omega) (by omega) (by omega)
          refine lv_iinc (v := nI (i + 1)) (lv' := [(5, .int (nI (i + 1))), (4, .int x4), (0, .ref (ad 0)), (1, .int (nI c)), (2, .int fr), (3, .int to)]) hx hb dX2_changeEntitlement_48 hl (k := 0) rfl (zk_inc i 1) (by decide) rfl (fun ls hl => ?_)
          refine lv_goto (tgt := 32) hx hb dX2_changeEntitlement_51 (by decide) ?_
          exact ih11 (i + 1) u18 (by omega) (by omega) (by rw [eL20, hq]; rfl) (hI21) _ _ hP hD hS ls (lv_sub hl [0, 1, 2, 3, 4, 5] rfl)
    exact lp10 _ 0 L8 (Nat.lt_succ_self _) (by omega) (by rw [eL8]; unfold sEntitle; simp +decide [zfold, zk_a0, ex4, h13_4, eL6]) (hI9) _ _ hP hD hS ls (lv_sub hl [0, 1, 2, 3, 4, 5] rfl)
  · refine lv_iconst (v := -1) hx hb dX2_changeEntitlement_16 (by decide) ?_
    refine lv_goto (tgt := 21) hx hb dX2_changeEntitlement_17 (by decide) ?_
    refine lv_topi (fun x22 ex22 => ?_)
    refine zk_iastN hx hb hK hP hD hS 4 0 rfl rfl (k := c) (n := 12) (by omega) (by omega) dX2_changeEntitlement_21 (fun H locs hP hD hS => ?_)
    obtain ⟨L23, eL23⟩ : ∃ z : Nat → Nat → Int32, z = up2 L 4 c x22 := ⟨_, rfl⟩
    have hP : va_P G.1 vwCl (zb_L G ad L23 ++ zb_M G ad L23) H := by rw [eL23]; exact hP
    have hD : va_D A (zb_L G ad L23 ++ zb_M G ad L23) := by rw [eL23]; exact hD
    have hI24 : sInv L23 n t := by rw [eL23]; exact sInv_row hI rfl rfl rfl rfl
    refine lv_aload_n hx hb dX2_changeEntitlement_22 rfl (lv_at hl 1 rfl) ?_
    refine va_get (D := G.1) (ci := 1) (v := .ref (ad 5)) (C := RX2) (T := TX2) (N := 14) hx hb hts (fun _ h => List.mem_cons_of_mem _ (List.mem_append_left _ (List.mem_append_right _ h))) hown hK hP 0 rfl rfl 9 (by decide) w2 (fun _ h9 => h9) rfl dX2_changeEntitlement_23 ?_
    refine lv_iload_n hx hb dX2_changeEntitlement_26 rfl (lv_at hl 2 rfl) ?_
    refine lv_iload_n hx hb dX2_changeEntitlement_27 rfl (lv_at hl 4 rfl) ?_
    refine zk_iastN hx hb hK hP hD hS 5 0 rfl rfl (k := c) (n := 12) (by omega) (by omega) dX2_changeEntitlement_28 (fun H locs hP hD hS => ?_)
    obtain ⟨L25, eL25⟩ : ∃ z : Nat → Nat → Int32, z = up2 L23 5 c to := ⟨_, rfl⟩
    have hP : va_P G.1 vwCl (zb_L G ad L25 ++ zb_M G ad L25) H := by rw [eL25]; exact hP
    have hD : va_D A (zb_L G ad L25 ++ zb_M G ad L25) := by rw [eL25]; exact hD
    have hI26 : sInv L25 n t := by rw [eL25]; exact sInv_row hI24 rfl rfl rfl rfl
    refine lv_iconst (v := nI 0) hx hb dX2_changeEntitlement_29 (by decide) ?_
    refine lv_istore (lv' := [(5, .int (nI 0)), (4, .int x4), (0, .ref (ad 0)), (1, .int (nI c)), (2, .int fr), (3, .int to)]) hx hb dX2_changeEntitlement_30 hl (by decide) rfl (fun ls hl => ?_)
    have lp27 : ∀ (n29 : Nat) (i : Nat) (X : zL), t - i < n29 → (i ≤ t) → (X = sEntitle L i c fr to) → (sInv X n t) → ∀ (H : Heap) (locs : List Loc) (hP : va_P G.1 vwCl (zb_L G ad X ++ zb_M G ad X) H) (hD : va_D A (zb_L G ad X ++ zb_M G ad X)) (hS : va_S A s.heap H locs) (ls : Array Slot), lv_has ls 6 [(5, .int (nI i)), (4, .int x4), (0, .ref (ad 0)), (1, .int (nI c)), (2, .int fr), (3, .int to)] → W p l E0 rmX2_changeEntitlement s m args below meth cd H locs 0 0 Q (F0 m 32 ls []) := by
      intro n29
      induction n29 with
      | zero => intro i X hz; exact absurd hz (Nat.not_lt_zero _)
      | succ n29 ih28 =>
        intro i X hm hi hq hX H locs hP hD hS ls hl
        refine lv_iload hx hb dX2_changeEntitlement_32 (lv_at hl 0 rfl) ?_
        refine lv_aload_n hx hb dX2_changeEntitlement_34 rfl (lv_at hl 2 rfl) ?_
        refine va_get (D := G.1) (ci := 1) (v := .int (X 0 0)) (C := RX2) (T := TX2) (N := 14) hx hb hts (fun _ h => List.mem_cons_of_mem _ (List.mem_append_left _ (List.mem_append_right _ h))) hown hK hP 0 rfl rfl 0 (by decide) w3 (fun _ h9 => h9) rfl dX2_changeEntitlement_35 ?_
        refine zk_top hX.2.2.1 ?_
        refine lv_icmp_ge (tgt := 54) hx hb dX2_changeEntitlement_38 (by decide) (fun h38_29 => ?_) (fun h38_29 => ?_)
        · have h38_29 := zk_le (by omega) (by omega) h38_29
          refine lv_aload_n hx hb dX2_changeEntitlement_54 rfl (lv_at hl 2 rfl) ?_
          have hP0 : va_P G.1 vwCl ((zb_L G ad X ++ zb_M G ad X) ++ ([] : va_W)) H := by rw [List.append_nil]; exact hP
          have hD0 : va_D A ((zb_L G ad X ++ zb_M G ad X) ++ ([] : va_W)) := by rw [List.append_nil]; exact hD
          refine zk_callI (wr := ([] : va_W)) (va_runV (As := []) (rest := []) ⟨hx, hb, hml, hown, hts⟩ (c_X2_sumOfBalances l G ad X n t hX _) (cwV 0 hts gX2_changeEntitlement_X2_sumOfBalances rfl rfl rfl (by decide +kernel) ⟨Nat.le_of_ble_eq_true rfl, Nat.le_of_ble_eq_true rfl⟩) (zk_preV hE hA0 hS (zk_Papp hP0).1 (zk_Dapp hD0).1 (va_recv hK hP (ci := 1) (q0 := 0) rfl rfl)) rfl rfl hl.1 rfl (lv_room (Nat.le_of_ble_eq_true rfl)) dX2_changeEntitlement_55 ⟨Nat.le_of_ble_eq_true rfl, Nat.le_of_ble_eq_true rfl⟩) hP0 hD0 hS hA (fun r31 u32 H locs q33 hP hD hS => ?_)
          subst q33
          rw [List.append_nil] at hP hD
          have hP : va_P G.1 vwCl (zb_L G ad X ++ zb_M G ad X) H := hP
          have hD : va_D A (zb_L G ad X ++ zb_M G ad X) := hD
          refine lv_iload hx hb dX2_changeEntitlement_58 (lv_at hl 1 rfl) ?_
          refine lv_isub hx hb dX2_changeEntitlement_60 ?_
          exact zk_reti X hQ hx hb hr hlocks hS hP hD (Nat.le_of_ble_eq_true rfl) (Nat.le_of_ble_eq_true rfl) dX2_changeEntitlement_61 (⟨by rw [ex4], by rw [show i = t by omega] at hq; exact hq⟩)
        · have h38_29 := zk_nle (by omega) (by omega) h38_29
          refine lv_aload_n hx hb dX2_changeEntitlement_41 rfl (lv_at hl 2 rfl) ?_
          refine lv_iload_n hx hb dX2_changeEntitlement_42 rfl (lv_at hl 3 rfl) ?_
          refine lv_iload hx hb dX2_changeEntitlement_43 (lv_at hl 0 rfl) ?_
          have hP0 : va_P G.1 vwCl ((zb_L G ad X ++ zb_M G ad X) ++ ([] : va_W)) H := by rw [List.append_nil]; exact hP
          have hD0 : va_D A ((zb_L G ad X ++ zb_M G ad X) ++ ([] : va_W)) := by rw [List.append_nil]; exact hD
          refine zk_callV (wr := ([] : va_W)) (va_runV (As := [.int (nI c), .int (nI i)]) (rest := []) ⟨hx, hb, hml, hown, hts⟩ (c_X2_settleAgain l G ad X n t hX c i (by omega) (by omega) _) (cwV 2 hts gX2_changeEntitlement_X2_settleAgain rfl rfl rfl (by decide +kernel) ⟨Nat.le_of_ble_eq_true rfl, Nat.le_of_ble_eq_true rfl⟩) (zk_preV hE hA0 hS (zk_Papp hP0).1 (zk_Dapp hD0).1 (va_recv hK hP (ci := 1) (q0 := 0) rfl rfl)) rfl rfl hl.1 rfl (lv_room (Nat.le_of_ble_eq_true rfl)) dX2_changeEntitlement_45 ⟨Nat.le_of_ble_eq_true rfl, Nat.le_of_ble_eq_true rfl⟩) hP0 hD0 hS hA (fun u35 H locs q36 hP hD hS => ?_)
          have eL37 := q36
          rw [List.append_nil] at hP hD
          have hP : va_P G.1 vwCl (zb_L G ad u35 ++ zb_M G ad u35) H := hP
          have hD : va_D A (zb_L G ad u35 ++ zb_M G ad u35) := hD
          have hI38 : sInv u35 n t := by rw [eL37]; exact sInv_settle hX (by omega) (by omega) (by omega)
          refine lv_iinc (v := nI (i + 1)) (lv' := [(5, .int (nI (i + 1))), (4, .int x4), (0, .ref (ad 0)), (1, .int (nI c)), (2, .int fr), (3, .int to)]) hx hb dX2_changeEntitlement_48 hl (k := 0) rfl (zk_inc i 1) (by decide) rfl (fun ls hl => ?_)
          refine lv_goto (tgt := 32) hx hb dX2_changeEntitlement_51 (by decide) ?_
          exact ih28 (i + 1) u35 (by omega) (by omega) (by rw [eL37, hq]; rfl) (hI38) _ _ hP hD hS ls (lv_sub hl [0, 1, 2, 3, 4, 5] rfl)
    exact lp27 _ 0 L25 (Nat.lt_succ_self _) (by omega) (by rw [eL25]; unfold sEntitle; simp +decide [zfold, zk_a0, ex4, h13_4, ex22, eL23]) (hI26) _ _ hP hD hS ls (lv_sub hl [0, 1, 2, 3, 4, 5] rfl)

abbrev rmX2_writeDebtOff : Room := { frames := 1, cells := 0, slots := 0, locals := 23 }
set_option maxHeartbeats 4000000 in
set_option maxRecDepth 100000 in
/-- a debt is written off -/
theorem c_X2_writeDebtOff (l : Launch) (G : zk_G) (ad : Nat → Nat) (L : zL) (n t : Nat) (hI : sInv L n t) (f : Nat) (hf : f < 5) : zk_I (S := zL) l yX2_writeDebtOff wsX2_writeDebtOff rmX2_writeDebtOff G [.ref (ad 0), .int (nI f)] (zb_L G ad L ++ zb_M G ad L) (fun r u => r = sDebt L n (nI f) ∧ u = sWrite L n f) (fun u => zb_L G ad u ++ zb_M G ad u) := by
  refine zk_bodyI (cc := cX2_writeDebtOff) (maxL := 4) (ret := (some .int)) (by decide) rfl (Nat.le_of_ble_eq_true rfl) ?_
  intro p E0 s m args below meth cd A ls Q hF hQ
  obtain ⟨hx, hb, hml, hr, hts, hown, hlocks, -, hE, hP, hD, hS, hA, hA0, hl⟩ := hF
  have hK := hE.1
  have hl : lv_has ls 4 [(0, .ref (ad 0)), (1, .int (nI f))] := hl
  obtain ⟨hn, hn12, ht, ht40, hfam, hpay⟩ := id hI
  have w1 := hts _ (List.mem_of_getElem? (l := wsX2_writeDebtOff) (i := 1) (a := Cond.fieldLink RX2 53 "MealAccounts$Ledger" "children" "I") rfl)
  have w4 := hts _ (List.mem_of_getElem? (l := wsX2_writeDebtOff) (i := 4) (a := Cond.fieldLink RX2 33 "MealAccounts$Ledger" "writtenOffFor" "[I") rfl)
  have w2 := hts _ (List.mem_of_getElem? (l := wsX2_writeDebtOff) (i := 2) (a := Cond.fieldLink RX2 9 "MealAccounts$Ledger" "familyOf" "[I") rfl)
  have w3 := hts _ (List.mem_of_getElem? (l := wsX2_writeDebtOff) (i := 3) (a := Cond.fieldLink RX2 18 "MealAccounts$Ledger" "balanceOf" "[I") rfl)
  refine lv_aload_n hx hb dX2_writeDebtOff_0 rfl (lv_at hl 0 rfl) ?_
  refine lv_iload_n hx hb dX2_writeDebtOff_1 rfl (lv_at hl 1 rfl) ?_
  have hP0 : va_P G.1 vwCl ((zb_L G ad L ++ zb_M G ad L) ++ ([] : va_W)) s.heap := by rw [List.append_nil]; exact hP
  have hD0 : va_D A ((zb_L G ad L ++ zb_M G ad L) ++ ([] : va_W)) := by rw [List.append_nil]; exact hD
  refine zk_callI (wr := ([] : va_W)) (va_runV (As := [.int (nI f)]) (rest := []) ⟨hx, hb, hml, hown, hts⟩ (c_X2_debtOf l G ad L n t hI (nI f) _) (cwV 1 hts gX2_writeDebtOff_X2_debtOf rfl rfl rfl (by decide +kernel) ⟨Nat.le_of_ble_eq_true rfl, Nat.le_of_ble_eq_true rfl⟩) (zk_preV hE hA0 hS (zk_Papp hP0).1 (zk_Dapp hD0).1 (va_recv hK hP (ci := 1) (q0 := 0) rfl rfl)) rfl rfl hl.1 rfl (lv_room (Nat.le_of_ble_eq_true rfl)) dX2_writeDebtOff_2 ⟨Nat.le_of_ble_eq_true rfl, Nat.le_of_ble_eq_true rfl⟩) hP0 hD0 hS hA (fun r1 u2 H locs q3 hP hD hS => ?_)
  subst q3
  rw [List.append_nil] at hP hD
  have hP : va_P G.1 vwCl (zb_L G ad L ++ zb_M G ad L) H := hP
  have hD : va_D A (zb_L G ad L ++ zb_M G ad L) := hD
  refine lv_topi (fun x4 ex4 => ?_)
  refine lv_istore_n (lv' := [(2, .int x4), (0, .ref (ad 0)), (1, .int (nI f))]) hx hb dX2_writeDebtOff_5 rfl hl (by decide) rfl (fun ls hl => ?_)
  refine lv_iconst (v := nI 0) hx hb dX2_writeDebtOff_6 (by decide) ?_
  refine lv_istore_n (lv' := [(3, .int (nI 0)), (2, .int x4), (0, .ref (ad 0)), (1, .int (nI f))]) hx hb dX2_writeDebtOff_7 rfl hl (by decide) rfl (fun ls hl => ?_)
  have lp5 : ∀ (n7 : Nat) (i : Nat) (X : zL), n - i < n7 → (i ≤ n) → (X = sOff L (nI f) i) → (sInv X n t) → ∀ (H : Heap) (locs : List Loc) (hP : va_P G.1 vwCl (zb_L G ad X ++ zb_M G ad X) H) (hD : va_D A (zb_L G ad X ++ zb_M G ad X)) (hS : va_S A s.heap H locs) (ls : Array Slot), lv_has ls 4 [(3, .int (nI i)), (2, .int x4), (0, .ref (ad 0)), (1, .int (nI f))] → W p l E0 rmX2_writeDebtOff s m args below meth cd H locs 0 0 Q (F0 m 8 ls []) := by
    intro n7
    induction n7 with
    | zero => intro i X hz; exact absurd hz (Nat.not_lt_zero _)
    | succ n7 ih6 =>
      intro i X hm hi hq hX H locs hP hD hS ls hl
      refine lv_iload_n hx hb dX2_writeDebtOff_8 rfl (lv_at hl 0 rfl) ?_
      refine lv_aload_n hx hb dX2_writeDebtOff_9 rfl (lv_at hl 2 rfl) ?_
      refine va_get (D := G.1) (ci := 1) (v := .int (X 0 1)) (C := RX2) (T := TX2) (N := 14) hx hb hts (fun _ h => List.mem_cons_of_mem _ (List.mem_append_right _ h)) hown hK hP 0 rfl rfl 1 (by decide) w1 (fun _ h9 => h9) rfl dX2_writeDebtOff_10 ?_
      refine zk_top hX.1 ?_
      refine lv_icmp_ge (tgt := 48) hx hb dX2_writeDebtOff_13 (by decide) (fun h13_7 => ?_) (fun h13_7 => ?_)
      · have h13_7 := zk_le (by omega) (by omega) h13_7
        refine lv_aload_n hx hb dX2_writeDebtOff_48 rfl (lv_at hl 2 rfl) ?_
        refine va_get (D := G.1) (ci := 1) (v := .ref (ad 8)) (C := RX2) (T := TX2) (N := 14) hx hb hts (fun _ h => List.mem_cons_of_mem _ (List.mem_append_right _ h)) hown hK hP 0 rfl rfl 12 (by decide) w4 (fun _ h9 => h9) rfl dX2_writeDebtOff_49 ?_
        refine lv_iload_n hx hb dX2_writeDebtOff_52 rfl (lv_at hl 3 rfl) ?_
        refine lv_dup2_11 hx hb dX2_writeDebtOff_53 rfl rfl ?_
        refine zk_ialdN hx hb hK hP 8 0 rfl rfl (k := f) (n := 5) (by omega) (by omega) dX2_writeDebtOff_54 ?_
        refine lv_iload_n hx hb dX2_writeDebtOff_55 rfl (lv_at hl 1 rfl) ?_
        refine lv_iadd hx hb dX2_writeDebtOff_56 ?_
        refine lv_topi (fun x9 ex9 => ?_)
        refine zk_iastN hx hb hK hP hD hS 8 0 rfl rfl (k := f) (n := 5) (by omega) (by omega) dX2_writeDebtOff_57 (fun H locs hP hD hS => ?_)
        obtain ⟨L10, eL10⟩ : ∃ z : Nat → Nat → Int32, z = up2 X 8 f x9 := ⟨_, rfl⟩
        have hP : va_P G.1 vwCl (zb_L G ad L10 ++ zb_M G ad L10) H := by rw [eL10]; exact hP
        have hD : va_D A (zb_L G ad L10 ++ zb_M G ad L10) := by rw [eL10]; exact hD
        have hI11 : sInv L10 n t := by rw [eL10]; exact sInv_row hX rfl rfl rfl rfl
        refine lv_iload_n hx hb dX2_writeDebtOff_58 rfl (lv_at hl 1 rfl) ?_
        exact zk_reti L10 hQ hx hb hr hlocks hS hP hD (Nat.le_of_ble_eq_true rfl) (Nat.le_of_ble_eq_true rfl) dX2_writeDebtOff_59 (by refine ⟨by assumption, ?_⟩; rw [eL10, ex9, hq, show i = n by omega]; simp +decide [sWrite, *])
      · have h13_7 := zk_nle (by omega) (by omega) h13_7
        refine lv_aload_n hx hb dX2_writeDebtOff_16 rfl (lv_at hl 2 rfl) ?_
        refine va_get (D := G.1) (ci := 1) (v := .ref (ad 1)) (C := RX2) (T := TX2) (N := 14) hx hb hts (fun _ h => List.mem_cons_of_mem _ (List.mem_append_right _ h)) hown hK hP 0 rfl rfl 5 (by decide) w2 (fun _ h9 => h9) rfl dX2_writeDebtOff_17 ?_
        refine lv_iload_n hx hb dX2_writeDebtOff_20 rfl (lv_at hl 0 rfl) ?_
        refine zk_ialdN hx hb hK hP 1 0 rfl rfl (k := i) (n := 12) (by omega) (by omega) dX2_writeDebtOff_21 ?_
        refine lv_iload_n hx hb dX2_writeDebtOff_22 rfl (lv_at hl 3 rfl) ?_
        refine lv_icmp_ne (tgt := 42) hx hb dX2_writeDebtOff_23 (by decide) (fun h23_11 => ?_) (fun h23_11 => ?_)
        · refine lv_iinc (v := nI (i + 1)) (lv' := [(3, .int (nI (i + 1))), (2, .int x4), (0, .ref (ad 0)), (1, .int (nI f))]) hx hb dX2_writeDebtOff_42 hl (k := 0) rfl (zk_inc i 1) (by decide) rfl (fun ls hl => ?_)
          refine lv_goto (tgt := 8) hx hb dX2_writeDebtOff_45 (by decide) ?_
          exact ih6 (i + 1) X (by omega) (by omega) (by refine zfold_i hq ?_; simp +decide [zk_a0, ex4, hX, h13_7, h23_11]) (hX) _ _ hP hD hS ls (lv_sub hl [0, 1, 2, 3] rfl)
        · refine lv_aload_n hx hb dX2_writeDebtOff_26 rfl (lv_at hl 2 rfl) ?_
          refine va_get (D := G.1) (ci := 1) (v := .ref (ad 3)) (C := RX2) (T := TX2) (N := 14) hx hb hts (fun _ h => List.mem_cons_of_mem _ (List.mem_append_right _ h)) hown hK hP 0 rfl rfl 7 (by decide) w3 (fun _ h9 => h9) rfl dX2_writeDebtOff_27 ?_
          refine lv_iload_n hx hb dX2_writeDebtOff_30 rfl (lv_at hl 0 rfl) ?_
          refine zk_ialdN hx hb hK hP 3 0 rfl rfl (k := i) (n := 12) (by omega) (by omega) dX2_writeDebtOff_31 ?_
          refine lv_if_ge (tgt := 42) hx hb dX2_writeDebtOff_32 (by decide) (fun h32_12 => ?_) (fun h32_12 => ?_)
          · have h32_12 := zk_l1 h32_12
            refine lv_iinc (v := nI (i + 1)) (lv' := [(3, .int (nI (i + 1))), (2, .int x4), (0, .ref (ad 0)), (1, .int (nI f))]) hx hb dX2_writeDebtOff_42 hl (k := 0) rfl (zk_inc i 1) (by decide) rfl (fun ls hl => ?_)
            refine lv_goto (tgt := 8) hx hb dX2_writeDebtOff_45 (by decide) ?_
            exact ih6 (i + 1) X (by omega) (by omega) (by refine zfold_i hq ?_; simp +decide [zk_a0, ex4, hX, h13_7, h23_11, h32_12]) (hX) _ _ hP hD hS ls (lv_sub hl [0, 1, 2, 3] rfl)
          · have h32_12 := zk_l2 h32_12
            refine lv_aload_n hx hb dX2_writeDebtOff_35 rfl (lv_at hl 2 rfl) ?_
            refine va_get (D := G.1) (ci := 1) (v := .ref (ad 3)) (C := RX2) (T := TX2) (N := 14) hx hb hts (fun _ h => List.mem_cons_of_mem _ (List.mem_append_right _ h)) hown hK hP 0 rfl rfl 7 (by decide) w3 (fun _ h9 => h9) rfl dX2_writeDebtOff_36 ?_
            refine lv_iload_n hx hb dX2_writeDebtOff_39 rfl (lv_at hl 0 rfl) ?_
            refine lv_iconst (v := nI 0) hx hb dX2_writeDebtOff_40 (by decide) ?_
            refine zk_iastN hx hb hK hP hD hS 3 0 rfl rfl (k := i) (n := 12) (by omega) (by omega) dX2_writeDebtOff_41 (fun H locs hP hD hS => ?_)
            obtain ⟨L14, eL14⟩ : ∃ z : Nat → Nat → Int32, z = up2 X 3 i (nI 0) := ⟨_, rfl⟩
            have hP : va_P G.1 vwCl (zb_L G ad L14 ++ zb_M G ad L14) H := by rw [eL14]; exact hP
            have hD : va_D A (zb_L G ad L14 ++ zb_M G ad L14) := by rw [eL14]; exact hD
            have hI15 : sInv L14 n t := by rw [eL14]; exact sInv_row hX rfl rfl rfl rfl
            refine lv_iinc (v := nI (i + 1)) (lv' := [(3, .int (nI (i + 1))), (2, .int x4), (0, .ref (ad 0)), (1, .int (nI f))]) hx hb dX2_writeDebtOff_42 hl (k := 0) rfl (zk_inc i 1) (by decide) rfl (fun ls hl => ?_)
            refine lv_goto (tgt := 8) hx hb dX2_writeDebtOff_45 (by decide) ?_
            exact ih6 (i + 1) L14 (by omega) (by omega) (by refine zfold_i hq ?_; simp +decide [zk_a0, ex4, hX, h13_7, h23_11, h32_12, eL14]) (hI15) _ _ hP hD hS ls (lv_sub hl [0, 1, 2, 3] rfl)
  exact lp5 _ 0 L (Nat.lt_succ_self _) (by omega) (rfl) (hI) _ _ hP hD hS ls (lv_sub hl [0, 1, 2, 3] rfl)

abbrev rmX2_serve : Room := { frames := 2, cells := 0, slots := 0, locals := 46 }
set_option maxHeartbeats 4000000 in
set_option maxRecDepth 100000 in
/-- a meal of today is served, or not -/
theorem c_X2_serve (l : Launch) (G : zk_G) (ad : Nat → Nat) (L : zL) (n t : Nat) (hI : sInv L n t) (c : Nat) (hc : c < n) (ht2 : t < 40) : zk_I (S := zL) l yX2_serve wsX2_serve rmX2_serve G [.ref (ad 0), .int (nI c)] (zb_L G ad L ++ zb_M G ad L) (fun r u => r = (sServe L n c t).1 ∧ u = (sServe L n c t).2) (fun u => zb_L G ad u ++ zb_M G ad u) := by
  refine zk_bodyI (cc := cX2_serve) (maxL := 4) (ret := (some .boolean)) (by decide) rfl (Nat.le_of_ble_eq_true rfl) ?_
  intro p E0 s m args below meth cd A ls Q hF hQ
  obtain ⟨hx, hb, hml, hr, hts, hown, hlocks, -, hE, hP, hD, hS, hA, hA0, hl⟩ := hF
  have hK := hE.1
  have hl : lv_has ls 4 [(0, .ref (ad 0)), (1, .int (nI c))] := hl
  obtain ⟨hn, hn12, ht, ht40, hfam, hpay⟩ := id hI
  have w1 := hts _ (List.mem_of_getElem? (l := wsX2_serve) (i := 1) (a := Cond.fieldLink RX2 50 "MealAccounts$Ledger" "today" "I") rfl)
  have w3 := hts _ (List.mem_of_getElem? (l := wsX2_serve) (i := 3) (a := Cond.fieldLink RX2 18 "MealAccounts$Ledger" "balanceOf" "[I") rfl)
  have w4 := hts _ (List.mem_of_getElem? (l := wsX2_serve) (i := 4) (a := Cond.fieldLink RX2 43 "MealAccounts$Ledger" "price" "I") rfl)
  have w2 := hts _ (List.mem_of_getElem? (l := wsX2_serve) (i := 2) (a := Cond.fieldLink RX2 39 "MealAccounts$Ledger" "meals" "LMealAccounts$Meals;") rfl)
  refine lv_aload_n hx hb dX2_serve_0 rfl (lv_at hl 0 rfl) ?_
  refine lv_iload_n hx hb dX2_serve_1 rfl (lv_at hl 1 rfl) ?_
  refine lv_aload_n hx hb dX2_serve_2 rfl (lv_at hl 0 rfl) ?_
  refine va_get (D := G.1) (ci := 1) (v := .int (L 0 0)) (C := RX2) (T := TX2) (N := 14) hx hb hts (fun _ h => List.mem_cons_of_mem _ (List.mem_append_left _ (List.mem_append_right _ h))) hown hK hP 0 rfl rfl 0 (by decide) w1 (fun _ h9 => h9) rfl dX2_serve_3 ?_
  refine zk_top hI.2.2.1 ?_
  have hP0 : va_P G.1 vwCl ((zb_L G ad L ++ zb_M G ad L) ++ ([] : va_W)) s.heap := by rw [List.append_nil]; exact hP
  have hD0 : va_D A ((zb_L G ad L ++ zb_M G ad L) ++ ([] : va_W)) := by rw [List.append_nil]; exact hD
  refine zk_callI (wr := ([] : va_W)) (va_runV (As := [.int (nI c), .int (nI t)]) (rest := []) ⟨hx, hb, hml, hown, hts⟩ (c_X2_payerOn l G ad L n t hI c t (by omega) (by omega) _) (cwV 2 hts gX2_serve_X2_payerOn rfl rfl rfl (by decide +kernel) ⟨Nat.le_of_ble_eq_true rfl, Nat.le_of_ble_eq_true rfl⟩) (zk_preV hE hA0 hS (zk_Papp hP0).1 (zk_Dapp hD0).1 (va_recv hK hP (ci := 1) (q0 := 0) rfl rfl)) rfl rfl hl.1 rfl (lv_room (Nat.le_of_ble_eq_true rfl)) dX2_serve_6 ⟨Nat.le_of_ble_eq_true rfl, Nat.le_of_ble_eq_true rfl⟩) hP0 hD0 hS hA (fun r1 u2 H locs q3 hP hD hS => ?_)
  subst q3
  rw [List.append_nil] at hP hD
  have hP : va_P G.1 vwCl (zb_L G ad L ++ zb_M G ad L) H := hP
  have hD : va_D A (zb_L G ad L ++ zb_M G ad L) := hD
  refine lv_topi (fun x4 ex4 => ?_)
  refine lv_istore_n (lv' := [(2, .int x4), (0, .ref (ad 0)), (1, .int (nI c))]) hx hb dX2_serve_9 rfl hl (by decide) rfl (fun ls hl => ?_)
  refine lv_iload_n hx hb dX2_serve_10 rfl (lv_at hl 0 rfl) ?_
  refine lv_iconst (v := -1) hx hb dX2_serve_11 (by decide) ?_
  refine lv_icmp_ne (tgt := 49) hx hb dX2_serve_12 (by decide) (fun h12_4 => ?_) (fun h12_4 => ?_)
  · obtain ⟨j, hj, ej⟩ : ∃ j, j < n ∧ sPayer L n c t = nI j := by
      rcases sPayer_in L t hc with z | z
      · exact absurd (ex4.trans z) h12_4
      · exact z
    have ep : x4 = nI j := by rw [ex4]; exact ej
    have nj := nI_clamp (show j < 2 ^ 31 by omega)
    have hl : lv_has ls 4 [(2, .int (nI j)), (0, .ref (ad 0)), (1, .int (nI c))] := by rw [ep] at hl; exact hl
    refine lv_aload_n hx hb dX2_serve_49 rfl (lv_at hl 1 rfl) ?_
    refine va_get (D := G.1) (ci := 1) (v := .ref (ad 3)) (C := RX2) (T := TX2) (N := 14) hx hb hts (fun _ h => List.mem_cons_of_mem _ (List.mem_append_left _ (List.mem_append_right _ h))) hown hK hP 0 rfl rfl 7 (by decide) w3 (fun _ h9 => h9) rfl dX2_serve_50 ?_
    refine lv_iload_n hx hb dX2_serve_53 rfl (lv_at hl 0 rfl) ?_
    refine lv_dup2_11 hx hb dX2_serve_54 rfl rfl ?_
    refine zk_ialdN hx hb hK hP 3 0 rfl rfl (k := j) (n := 12) (by omega) (by omega) dX2_serve_55 ?_
    refine lv_aload_n hx hb dX2_serve_56 rfl (lv_at hl 1 rfl) ?_
    refine va_get (D := G.1) (ci := 1) (v := .int (L 0 2)) (C := RX2) (T := TX2) (N := 14) hx hb hts (fun _ h => List.mem_cons_of_mem _ (List.mem_append_left _ (List.mem_append_right _ h))) hown hK hP 0 rfl rfl 2 (by decide) w4 (fun _ h9 => h9) rfl dX2_serve_57 ?_
    refine lv_isub hx hb dX2_serve_60 ?_
    refine lv_topi (fun x6 ex6 => ?_)
    refine zk_iastN hx hb hK hP hD hS 3 0 rfl rfl (k := j) (n := 12) (by omega) (by omega) dX2_serve_61 (fun H locs hP hD hS => ?_)
    obtain ⟨L7, eL7⟩ : ∃ z : Nat → Nat → Int32, z = up2 L 3 j x6 := ⟨_, rfl⟩
    have hP : va_P G.1 vwCl (zb_L G ad L7 ++ zb_M G ad L7) H := by rw [eL7]; exact hP
    have hD : va_D A (zb_L G ad L7 ++ zb_M G ad L7) := by rw [eL7]; exact hD
    have hI8 : sInv L7 n t := by rw [eL7]; exact sInv_row hI rfl rfl rfl rfl
    refine lv_aload_n hx hb dX2_serve_62 rfl (lv_at hl 1 rfl) ?_
    refine va_get (D := G.1) (ci := 1) (v := .ref (ad 9)) (C := RX2) (T := TX2) (N := 14) hx hb hts (fun _ h => List.mem_cons_of_mem _ (List.mem_append_left _ (List.mem_append_right _ h))) hown hK hP 0 rfl rfl 13 (by decide) w2 (fun _ h9 => h9) rfl dX2_serve_63 ?_
    refine lv_iload_n hx hb dX2_serve_66 rfl (lv_at hl 2 rfl) ?_
    refine lv_aload_n hx hb dX2_serve_67 rfl (lv_at hl 1 rfl) ?_
    refine va_get (D := G.1) (ci := 1) (v := .int (L7 0 0)) (C := RX2) (T := TX2) (N := 14) hx hb hts (fun _ h => List.mem_cons_of_mem _ (List.mem_append_left _ (List.mem_append_right _ h))) hown hK hP 0 rfl rfl 0 (by decide) w1 (fun _ h9 => h9) rfl dX2_serve_68 ?_
    refine zk_top hI8.2.2.1 ?_
    refine lv_aload_n hx hb dX2_serve_71 rfl (lv_at hl 1 rfl) ?_
    refine va_get (D := G.1) (ci := 1) (v := .int (L7 0 2)) (C := RX2) (T := TX2) (N := 14) hx hb hts (fun _ h => List.mem_cons_of_mem _ (List.mem_append_left _ (List.mem_append_right _ h))) hown hK hP 0 rfl rfl 2 (by decide) w4 (fun _ h9 => h9) rfl dX2_serve_72 ?_
    refine lv_iload_n hx hb dX2_serve_75 rfl (lv_at hl 0 rfl) ?_
    have hP0 : va_P G.1 vwCl (zb_M G ad L7 ++ zb_L G ad L7) H := zk_Pperm hP List.perm_append_comm
    have hD0 : va_D A (zb_M G ad L7 ++ zb_L G ad L7) := zk_Dperm hD List.perm_append_comm
    refine zk_callV (wr := zb_L G ad L7) (va_runV (As := [.int (nI c), .int (nI t), .int (L7 0 2), .int (nI j)]) (rest := []) ⟨hx, hb, hml, hown, hts⟩ (c_X3_putCharged l G ad L7 c t (L7 0 2) (nI j) (by omega) (by omega) _) (cwV 4 hts gX2_serve_X3_putCharged rfl rfl rfl (by decide +kernel) ⟨Nat.le_of_ble_eq_true rfl, Nat.le_of_ble_eq_true rfl⟩) (zk_preV hE hA0 hS (zk_Papp hP0).1 (zk_Dapp hD0).1 (va_recv hK hP (ci := 2) (q0 := 9) rfl rfl)) rfl rfl hl.1 rfl (lv_room (Nat.le_of_ble_eq_true rfl)) dX2_serve_76 ⟨Nat.le_of_ble_eq_true rfl, Nat.le_of_ble_eq_true rfl⟩) hP0 hD0 hS hA (fun u10 H locs q11 hP hD hS => ?_)
    subst q11
    have hP := zk_Pperm hP List.perm_append_comm
    have hD := zk_Dperm hD List.perm_append_comm
    have hP : va_P G.1 vwCl (zb_L G ad (up2 (up2 (up2 L7 9 (c * 40 + t) (nI 2)) 10 (c * 40 + t) (L7 0 2)) 11 (c * 40 + t) (nI j)) ++ zb_M G ad (up2 (up2 (up2 L7 9 (c * 40 + t) (nI 2)) 10 (c * 40 + t) (L7 0 2)) 11 (c * 40 + t) (nI j))) H := hP
    have hD : va_D A (zb_L G ad (up2 (up2 (up2 L7 9 (c * 40 + t) (nI 2)) 10 (c * 40 + t) (L7 0 2)) 11 (c * 40 + t) (nI j)) ++ zb_M G ad (up2 (up2 (up2 L7 9 (c * 40 + t) (nI 2)) 10 (c * 40 + t) (L7 0 2)) 11 (c * 40 + t) (nI j))) := hD
    obtain ⟨L12, eL12⟩ : ∃ z : Nat → Nat → Int32, z = up2 (up2 (up2 L7 9 (c * 40 + t) (nI 2)) 10 (c * 40 + t) (L7 0 2)) 11 (c * 40 + t) (nI j) := ⟨_, rfl⟩
    have hP : va_P G.1 vwCl (zb_L G ad L12 ++ zb_M G ad L12) H := by rw [eL12]; exact hP
    have hD : va_D A (zb_L G ad L12 ++ zb_M G ad L12) := by rw [eL12]; exact hD
    refine lv_iconst (v := nI 1) hx hb dX2_serve_79 (by decide) ?_
    exact zk_retz L12 hQ hx hb hr hlocks hS hP hD (Nat.le_of_ble_eq_true rfl) (Nat.le_of_ble_eq_true rfl) dX2_serve_80 (rfl) (by subst_vars; unfold sServe; rw [ej, if_neg (zk_m1n (by omega)), nj]; exact ⟨rfl, rfl⟩)
  · refine lv_aload_n hx hb dX2_serve_15 rfl (lv_at hl 1 rfl) ?_
    refine lv_iload_n hx hb dX2_serve_16 rfl (lv_at hl 2 rfl) ?_
    refine lv_aload_n hx hb dX2_serve_17 rfl (lv_at hl 1 rfl) ?_
    refine va_get (D := G.1) (ci := 1) (v := .int (L 0 0)) (C := RX2) (T := TX2) (N := 14) hx hb hts (fun _ h => List.mem_cons_of_mem _ (List.mem_append_left _ (List.mem_append_right _ h))) hown hK hP 0 rfl rfl 0 (by decide) w1 (fun _ h9 => h9) rfl dX2_serve_18 ?_
    refine zk_top hI.2.2.1 ?_
    have hP0 : va_P G.1 vwCl ((zb_L G ad L ++ zb_M G ad L) ++ ([] : va_W)) H := by rw [List.append_nil]; exact hP
    have hD0 : va_D A ((zb_L G ad L ++ zb_M G ad L) ++ ([] : va_W)) := by rw [List.append_nil]; exact hD
    refine zk_callI (wr := ([] : va_W)) (va_runV (As := [.int (nI c), .int (nI t)]) (rest := []) ⟨hx, hb, hml, hown, hts⟩ (c_X2_kindWithoutPayer l G ad L n t hI c t (by omega) (by omega) _) (cwV 2 hts gX2_serve_X2_kindWithoutPayer rfl rfl rfl (by decide +kernel) ⟨Nat.le_of_ble_eq_true rfl, Nat.le_of_ble_eq_true rfl⟩) (zk_preV hE hA0 hS (zk_Papp hP0).1 (zk_Dapp hD0).1 (va_recv hK hP (ci := 1) (q0 := 0) rfl rfl)) rfl rfl hl.1 rfl (lv_room (Nat.le_of_ble_eq_true rfl)) dX2_serve_21 ⟨Nat.le_of_ble_eq_true rfl, Nat.le_of_ble_eq_true rfl⟩) hP0 hD0 hS hA (fun r13 u14 H locs q15 hP hD hS => ?_)
    subst q15
    rw [List.append_nil] at hP hD
    have hP : va_P G.1 vwCl (zb_L G ad L ++ zb_M G ad L) H := hP
    have hD : va_D A (zb_L G ad L ++ zb_M G ad L) := hD
    refine lv_topi (fun x16 ex16 => ?_)
    refine lv_istore_n (lv' := [(3, .int x16), (2, .int x4), (0, .ref (ad 0)), (1, .int (nI c))]) hx hb dX2_serve_24 rfl hl (by decide) rfl (fun ls hl => ?_)
    refine lv_aload_n hx hb dX2_serve_25 rfl (lv_at hl 2 rfl) ?_
    refine va_get (D := G.1) (ci := 1) (v := .ref (ad 9)) (C := RX2) (T := TX2) (N := 14) hx hb hts (fun _ h => List.mem_cons_of_mem _ (List.mem_append_left _ (List.mem_append_right _ h))) hown hK hP 0 rfl rfl 13 (by decide) w2 (fun _ h9 => h9) rfl dX2_serve_26 ?_
    refine lv_iload_n hx hb dX2_serve_29 rfl (lv_at hl 3 rfl) ?_
    refine lv_aload_n hx hb dX2_serve_30 rfl (lv_at hl 2 rfl) ?_
    refine va_get (D := G.1) (ci := 1) (v := .int (L 0 0)) (C := RX2) (T := TX2) (N := 14) hx hb hts (fun _ h => List.mem_cons_of_mem _ (List.mem_append_left _ (List.mem_append_right _ h))) hown hK hP 0 rfl rfl 0 (by decide) w1 (fun _ h9 => h9) rfl dX2_serve_31 ?_
    refine zk_top hI.2.2.1 ?_
    refine lv_iload_n hx hb dX2_serve_34 rfl (lv_at hl 0 rfl) ?_
    have hP0 : va_P G.1 vwCl (zb_M G ad L ++ zb_L G ad L) H := zk_Pperm hP List.perm_append_comm
    have hD0 : va_D A (zb_M G ad L ++ zb_L G ad L) := zk_Dperm hD List.perm_append_comm
    refine zk_callV (wr := zb_L G ad L) (va_runV (As := [.int (nI c), .int (nI t), .int x16]) (rest := []) ⟨hx, hb, hml, hown, hts⟩ (c_X3_put l G ad L c t x16 (by omega) (by omega) _) (cwV 3 hts gX2_serve_X3_put rfl rfl rfl (by decide +kernel) ⟨Nat.le_of_ble_eq_true rfl, Nat.le_of_ble_eq_true rfl⟩) (zk_preV hE hA0 hS (zk_Papp hP0).1 (zk_Dapp hD0).1 (va_recv hK hP (ci := 2) (q0 := 9) rfl rfl)) rfl rfl hl.1 rfl (lv_room (Nat.le_of_ble_eq_true rfl)) dX2_serve_35 ⟨Nat.le_of_ble_eq_true rfl, Nat.le_of_ble_eq_true rfl⟩) hP0 hD0 hS hA (fun u18 H locs q19 hP hD hS => ?_)
    subst q19
    have hP := zk_Pperm hP List.perm_append_comm
    have hD := zk_Dperm hD List.perm_append_comm
    have hP : va_P G.1 vwCl (zb_L G ad (up2 L 9 (c * 40 + t) x16) ++ zb_M G ad (up2 L 9 (c * 40 + t) x16)) H := hP
    have hD : va_D A (zb_L G ad (up2 L 9 (c * 40 + t) x16) ++ zb_M G ad (up2 L 9 (c * 40 + t) x16)) := hD
    obtain ⟨L20, eL20⟩ : ∃ z : Nat → Nat → Int32, z = up2 L 9 (c * 40 + t) x16 := ⟨_, rfl⟩
    have hP : va_P G.1 vwCl (zb_L G ad L20 ++ zb_M G ad L20) H := by rw [eL20]; exact hP
    have hD : va_D A (zb_L G ad L20 ++ zb_M G ad L20) := by rw [eL20]; exact hD
    refine lv_iload_n hx hb dX2_serve_38 rfl (lv_at hl 0 rfl) ?_
    refine lv_iconst (v := nI 3) hx hb dX2_serve_39 (by decide) ?_
    refine lv_icmp_ne (tgt := 47) hx hb dX2_serve_40 (by decide) (fun h40_20 => ?_) (fun h40_20 => ?_)
    · refine lv_iconst (v := nI 0) hx hb dX2_serve_47 (by decide) ?_
      exact zk_retz L20 hQ hx hb hr hlocks hS hP hD (Nat.le_of_ble_eq_true rfl) (Nat.le_of_ble_eq_true rfl) dX2_serve_48 (rfl) (by rw [eL20]; unfold sServe; rw [if_pos (ex4.symm.trans h12_4)]; rw [← ex16]; exact ⟨by simp +decide [h40_20], rfl⟩)
    · refine lv_iconst (v := nI 1) hx hb dX2_serve_43 (by decide) ?_
      refine lv_goto (tgt := 48) hx hb dX2_serve_44 (by decide) ?_
      exact zk_retz L20 hQ hx hb hr hlocks hS hP hD (Nat.le_of_ble_eq_true rfl) (Nat.le_of_ble_eq_true rfl) dX2_serve_48 (rfl) (by rw [eL20]; unfold sServe; rw [if_pos (ex4.symm.trans h12_4)]; rw [← ex16]; exact ⟨by simp +decide [h40_20], rfl⟩)

abbrev rmX2_spend : Room := { frames := 2, cells := 0, slots := 0, locals := 46 }
set_option maxHeartbeats 4000000 in
set_option maxRecDepth 100000 in
/-- a meal is paid, if it can be -/
theorem c_X2_spend (l : Launch) (G : zk_G) (ad : Nat → Nat) (L : zL) (n t : Nat) (hI : sInv L n t) (c d : Nat) (hc : c < n) (hd : d < 40) : zk_I (S := zL) l yX2_spend wsX2_spend rmX2_spend G [.ref (ad 0), .int (nI c), .int (nI d)] (zb_L G ad L ++ zb_M G ad L) (fun r u => r = (sSpend L n c d).1 ∧ u = (sSpend L n c d).2) (fun u => zb_L G ad u ++ zb_M G ad u) := by
  refine zk_bodyI (cc := cX2_spend) (maxL := 4) (ret := (some .boolean)) (by decide) rfl (Nat.le_of_ble_eq_true rfl) ?_
  intro p E0 s m args below meth cd A ls Q hF hQ
  obtain ⟨hx, hb, hml, hr, hts, hown, hlocks, -, hE, hP, hD, hS, hA, hA0, hl⟩ := hF
  have hK := hE.1
  have hl : lv_has ls 4 [(0, .ref (ad 0)), (1, .int (nI c)), (2, .int (nI d))] := hl
  obtain ⟨hn, hn12, ht, ht40, hfam, hpay⟩ := id hI
  have w1 := hts _ (List.mem_of_getElem? (l := wsX2_spend) (i := 1) (a := Cond.fieldLink RX2 18 "MealAccounts$Ledger" "balanceOf" "[I") rfl)
  have w2 := hts _ (List.mem_of_getElem? (l := wsX2_spend) (i := 2) (a := Cond.fieldLink RX2 43 "MealAccounts$Ledger" "price" "I") rfl)
  refine lv_aload_n hx hb dX2_spend_0 rfl (lv_at hl 0 rfl) ?_
  refine lv_iload_n hx hb dX2_spend_1 rfl (lv_at hl 1 rfl) ?_
  refine lv_iload_n hx hb dX2_spend_2 rfl (lv_at hl 2 rfl) ?_
  have hP0 : va_P G.1 vwCl ((zb_L G ad L ++ zb_M G ad L) ++ ([] : va_W)) s.heap := by rw [List.append_nil]; exact hP
  have hD0 : va_D A ((zb_L G ad L ++ zb_M G ad L) ++ ([] : va_W)) := by rw [List.append_nil]; exact hD
  refine zk_callI (wr := ([] : va_W)) (va_runV (As := [.int (nI c), .int (nI d)]) (rest := []) ⟨hx, hb, hml, hown, hts⟩ (c_X2_payerOn l G ad L n t hI c d (by omega) (by omega) _) (cwV 2 hts gX2_spend_X2_payerOn rfl rfl rfl (by decide +kernel) ⟨Nat.le_of_ble_eq_true rfl, Nat.le_of_ble_eq_true rfl⟩) (zk_preV hE hA0 hS (zk_Papp hP0).1 (zk_Dapp hD0).1 (va_recv hK hP (ci := 1) (q0 := 0) rfl rfl)) rfl rfl hl.1 rfl (lv_room (Nat.le_of_ble_eq_true rfl)) dX2_spend_3 ⟨Nat.le_of_ble_eq_true rfl, Nat.le_of_ble_eq_true rfl⟩) hP0 hD0 hS hA (fun r1 u2 H locs q3 hP hD hS => ?_)
  subst q3
  rw [List.append_nil] at hP hD
  have hP : va_P G.1 vwCl (zb_L G ad L ++ zb_M G ad L) H := hP
  have hD : va_D A (zb_L G ad L ++ zb_M G ad L) := hD
  refine lv_topi (fun x4 ex4 => ?_)
  refine lv_istore_n (lv' := [(3, .int x4), (0, .ref (ad 0)), (1, .int (nI c)), (2, .int (nI d))]) hx hb dX2_spend_6 rfl hl (by decide) rfl (fun ls hl => ?_)
  refine lv_iload_n hx hb dX2_spend_7 rfl (lv_at hl 0 rfl) ?_
  refine lv_iconst (v := -1) hx hb dX2_spend_8 (by decide) ?_
  refine lv_icmp_ne (tgt := 28) hx hb dX2_spend_9 (by decide) (fun h9_4 => ?_) (fun h9_4 => ?_)
  · obtain ⟨j, hj, ej⟩ : ∃ j, j < n ∧ sPayer L n c d = nI j := by
      rcases sPayer_in L d hc with z | z
      · exact absurd (ex4.trans z) h9_4
      · exact z
    have ep : x4 = nI j := by rw [ex4]; exact ej
    have nj := nI_clamp (show j < 2 ^ 31 by omega)
    have hl : lv_has ls 4 [(3, .int (nI j)), (0, .ref (ad 0)), (1, .int (nI c)), (2, .int (nI d))] := by rw [ep] at hl; exact hl
    refine lv_aload_n hx hb dX2_spend_28 rfl (lv_at hl 1 rfl) ?_
    refine va_get (D := G.1) (ci := 1) (v := .ref (ad 3)) (C := RX2) (T := TX2) (N := 14) hx hb hts (fun _ h => List.mem_cons_of_mem _ (List.mem_append_right _ h)) hown hK hP 0 rfl rfl 7 (by decide) w1 (fun _ h9 => h9) rfl dX2_spend_29 ?_
    refine lv_iload_n hx hb dX2_spend_32 rfl (lv_at hl 0 rfl) ?_
    refine lv_dup2_11 hx hb dX2_spend_33 rfl rfl ?_
    refine zk_ialdN hx hb hK hP 3 0 rfl rfl (k := j) (n := 12) (by omega) (by omega) dX2_spend_34 ?_
    refine lv_aload_n hx hb dX2_spend_35 rfl (lv_at hl 1 rfl) ?_
    refine va_get (D := G.1) (ci := 1) (v := .int (L 0 2)) (C := RX2) (T := TX2) (N := 14) hx hb hts (fun _ h => List.mem_cons_of_mem _ (List.mem_append_right _ h)) hown hK hP 0 rfl rfl 2 (by decide) w2 (fun _ h9 => h9) rfl dX2_spend_36 ?_
    refine lv_isub hx hb dX2_spend_39 ?_
    refine lv_topi (fun x6 ex6 => ?_)
    refine zk_iastN hx hb hK hP hD hS 3 0 rfl rfl (k := j) (n := 12) (by omega) (by omega) dX2_spend_40 (fun H locs hP hD hS => ?_)
    obtain ⟨L7, eL7⟩ : ∃ z : Nat → Nat → Int32, z = up2 L 3 j x6 := ⟨_, rfl⟩
    have hP : va_P G.1 vwCl (zb_L G ad L7 ++ zb_M G ad L7) H := by rw [eL7]; exact hP
    have hD : va_D A (zb_L G ad L7 ++ zb_M G ad L7) := by rw [eL7]; exact hD
    have hI8 : sInv L7 n t := by rw [eL7]; exact sInv_row hI rfl rfl rfl rfl
    refine lv_iconst (v := nI 1) hx hb dX2_spend_41 (by decide) ?_
    exact zk_retz L7 hQ hx hb hr hlocks hS hP hD (Nat.le_of_ble_eq_true rfl) (Nat.le_of_ble_eq_true rfl) dX2_spend_42 (rfl) (by subst_vars; unfold sSpend; rw [ej, if_neg (zk_m1n (by omega)), nj]; exact ⟨rfl, rfl⟩)
  · refine lv_aload_n hx hb dX2_spend_12 rfl (lv_at hl 1 rfl) ?_
    refine lv_iload_n hx hb dX2_spend_13 rfl (lv_at hl 2 rfl) ?_
    refine lv_iload_n hx hb dX2_spend_14 rfl (lv_at hl 3 rfl) ?_
    have hP0 : va_P G.1 vwCl ((zb_L G ad L ++ zb_M G ad L) ++ ([] : va_W)) H := by rw [List.append_nil]; exact hP
    have hD0 : va_D A ((zb_L G ad L ++ zb_M G ad L) ++ ([] : va_W)) := by rw [List.append_nil]; exact hD
    refine zk_callI (wr := ([] : va_W)) (va_runV (As := [.int (nI c), .int (nI d)]) (rest := []) ⟨hx, hb, hml, hown, hts⟩ (c_X2_kindWithoutPayer l G ad L n t hI c d (by omega) (by omega) _) (cwV 2 hts gX2_spend_X2_kindWithoutPayer rfl rfl rfl (by decide +kernel) ⟨Nat.le_of_ble_eq_true rfl, Nat.le_of_ble_eq_true rfl⟩) (zk_preV hE hA0 hS (zk_Papp hP0).1 (zk_Dapp hD0).1 (va_recv hK hP (ci := 1) (q0 := 0) rfl rfl)) rfl rfl hl.1 rfl (lv_room (Nat.le_of_ble_eq_true rfl)) dX2_spend_15 ⟨Nat.le_of_ble_eq_true rfl, Nat.le_of_ble_eq_true rfl⟩) hP0 hD0 hS hA (fun r9 u10 H locs q11 hP hD hS => ?_)
    subst q11
    rw [List.append_nil] at hP hD
    have hP : va_P G.1 vwCl (zb_L G ad L ++ zb_M G ad L) H := hP
    have hD : va_D A (zb_L G ad L ++ zb_M G ad L) := hD
    refine lv_iconst (v := nI 4) hx hb dX2_spend_18 (by decide) ?_
    refine lv_icmp_eq (tgt := 26) hx hb dX2_spend_19 (by decide) (fun h19_11 => ?_) (fun h19_11 => ?_)
    · refine lv_iconst (v := nI 0) hx hb dX2_spend_26 (by decide) ?_
      exact zk_retz L hQ hx hb hr hlocks hS hP hD (Nat.le_of_ble_eq_true rfl) (Nat.le_of_ble_eq_true rfl) dX2_spend_27 (rfl) (by unfold sSpend; rw [if_pos (ex4.symm.trans h9_4)]; exact ⟨by simp +decide [h19_11], rfl⟩)
    · refine lv_iconst (v := nI 1) hx hb dX2_spend_22 (by decide) ?_
      refine lv_goto (tgt := 27) hx hb dX2_spend_23 (by decide) ?_
      exact zk_retz L hQ hx hb hr hlocks hS hP hD (Nat.le_of_ble_eq_true rfl) (Nat.le_of_ble_eq_true rfl) dX2_spend_27 (rfl) (by unfold sSpend; rw [if_pos (ex4.symm.trans h9_4)]; exact ⟨by simp +decide [h19_11], rfl⟩)

abbrev rmX2_passDays : Room := { frames := 3, cells := 0, slots := 0, locals := 69 }
set_option maxHeartbeats 4000000 in
set_option maxRecDepth 100000 in
/-- days go by -/
theorem c_X2_passDays (l : Launch) (G : zk_G) (ad : Nat → Nat) (L : zL) (n t : Nat) (hI : sInv L n t) (k : Nat) (hk : t + k ≤ 40) : zk_I (S := zL) l yX2_passDays wsX2_passDays rmX2_passDays G [.ref (ad 0), .int (nI k)] (zb_L G ad L ++ zb_M G ad L) (fun r u => r = (sDays n t k L).1 ∧ u = (sDays n t k L).2) (fun u => zb_L G ad u ++ zb_M G ad u) := by
  refine zk_bodyI (cc := cX2_passDays) (maxL := 5) (ret := (some .int)) (by decide) rfl (Nat.le_of_ble_eq_true rfl) ?_
  intro p E0 s m args below meth cd A ls Q hF hQ
  obtain ⟨hx, hb, hml, hr, hts, hown, hlocks, -, hE, hP, hD, hS, hA, hA0, hl⟩ := hF
  have hK := hE.1
  have hl : lv_has ls 5 [(0, .ref (ad 0)), (1, .int (nI k))] := hl
  obtain ⟨hn, hn12, ht, ht40, hfam, hpay⟩ := id hI
  have w1 := hts _ (List.mem_of_getElem? (l := wsX2_passDays) (i := 1) (a := Cond.fieldLink RX2 50 "MealAccounts$Ledger" "today" "I") rfl)
  have w2 := hts _ (List.mem_of_getElem? (l := wsX2_passDays) (i := 2) (a := Cond.fieldLink RX2 53 "MealAccounts$Ledger" "children" "I") rfl)
  have w3 := hts _ (List.mem_of_getElem? (l := wsX2_passDays) (i := 3) (a := Cond.fieldLink RX2 39 "MealAccounts$Ledger" "meals" "LMealAccounts$Meals;") rfl)
  refine lv_iconst (v := nI 0) hx hb dX2_passDays_0 (by decide) ?_
  refine lv_istore_n (lv' := [(2, .int (nI 0)), (0, .ref (ad 0)), (1, .int (nI k))]) hx hb dX2_passDays_1 rfl hl (by decide) rfl (fun ls hl => ?_)
  refine lv_iconst (v := nI 0) hx hb dX2_passDays_2 (by decide) ?_
  refine lv_istore_n (lv' := [(3, .int (nI 0)), (2, .int (nI 0)), (0, .ref (ad 0)), (1, .int (nI k))]) hx hb dX2_passDays_3 rfl hl (by decide) rfl (fun ls hl => ?_)
  have lp1 : ∀ (n3 : Nat) (i : Nat) (x : Int32) (X : zL), k - i < n3 → (i ≤ k) → ((x, X) = sDays n t i L) → (sInv X n (t + i)) → ∀ (H : Heap) (locs : List Loc) (hP : va_P G.1 vwCl (zb_L G ad X ++ zb_M G ad X) H) (hD : va_D A (zb_L G ad X ++ zb_M G ad X)) (hS : va_S A s.heap H locs) (ls : Array Slot), lv_has ls 5 [(3, .int (nI i)), (2, .int x), (0, .ref (ad 0)), (1, .int (nI k))] → W p l E0 rmX2_passDays s m args below meth cd H locs 0 0 Q (F0 m 4 ls []) := by
    intro n3
    induction n3 with
    | zero => intro i x X hz; exact absurd hz (Nat.not_lt_zero _)
    | succ n3 ih2 =>
      intro i x X hm hi hq hX H locs hP hD hS ls hl
      refine lv_iload_n hx hb dX2_passDays_4 rfl (lv_at hl 0 rfl) ?_
      refine lv_iload_n hx hb dX2_passDays_5 rfl (lv_at hl 3 rfl) ?_
      refine lv_icmp_ge (tgt := 81) hx hb dX2_passDays_6 (by decide) (fun h6_3 => ?_) (fun h6_3 => ?_)
      · have h6_3 := zk_le (by omega) (by omega) h6_3
        refine lv_iload_n hx hb dX2_passDays_81 rfl (lv_at hl 1 rfl) ?_
        exact zk_reti X hQ hx hb hr hlocks hS hP hD (Nat.le_of_ble_eq_true rfl) (Nat.le_of_ble_eq_true rfl) dX2_passDays_82 (by rw [show i = k by omega] at hq; rw [← hq]; exact ⟨rfl, rfl⟩)
      · have h6_3 := zk_nle (by omega) (by omega) h6_3
        refine lv_aload_n hx hb dX2_passDays_9 rfl (lv_at hl 2 rfl) ?_
        refine va_get (D := G.1) (ci := 1) (v := .int (X 0 0)) (C := RX2) (T := TX2) (N := 14) hx hb hts (fun _ h => List.mem_cons_of_mem _ (List.mem_append_left _ (List.mem_append_right _ h))) hown hK hP 0 rfl rfl 0 (by decide) w1 (fun _ h9 => h9) rfl dX2_passDays_10 ?_
        refine zk_top hX.2.2.1 ?_
        refine lv_bipush (v := nI 40) hx hb dX2_passDays_13 (by decide) ?_
        refine lv_icmp_ge (tgt := 81) hx hb dX2_passDays_15 (by decide) (fun h15_4 => ?_) (fun h15_4 => ?_)
        · have h15_4 := zk_le (by omega) (by omega) h15_4
          refine lv_iload_n hx hb dX2_passDays_81 rfl (lv_at hl 1 rfl) ?_
          exact zk_reti X hQ hx hb hr hlocks hS hP hD (Nat.le_of_ble_eq_true rfl) (Nat.le_of_ble_eq_true rfl) dX2_passDays_82 (by rw [show i = k by omega] at hq; rw [← hq]; exact ⟨rfl, rfl⟩)
        · have h15_4 := zk_nle (by omega) (by omega) h15_4
          refine lv_iconst (v := nI 0) hx hb dX2_passDays_18 (by decide) ?_
          refine lv_istore (lv' := [(4, .int (nI 0)), (3, .int (nI i)), (2, .int x), (0, .ref (ad 0)), (1, .int (nI k))]) hx hb dX2_passDays_19 hl (by decide) rfl (fun ls hl => ?_)
          have lp6 : ∀ (n8 : Nat) (j : Nat) (y : Int32) (Z : zL), n - j < n8 → (j ≤ n) → ((y, Z) = zfold (sDayC n (t + i)) j (x, X)) → (sInv Z n (t + i)) → ∀ (H : Heap) (locs : List Loc) (hP : va_P G.1 vwCl (zb_L G ad Z ++ zb_M G ad Z) H) (hD : va_D A (zb_L G ad Z ++ zb_M G ad Z)) (hS : va_S A s.heap H locs) (ls : Array Slot), lv_has ls 5 [(4, .int (nI j)), (3, .int (nI i)), (2, .int y), (0, .ref (ad 0)), (1, .int (nI k))] → W p l E0 rmX2_passDays s m args below meth cd H locs 0 0 Q (F0 m 21 ls []) := by
            intro n8
            induction n8 with
            | zero => intro j y Z hz; exact absurd hz (Nat.not_lt_zero _)
            | succ n8 ih7 =>
              intro j y Z hm hj hrr hZ H locs hP hD hS ls hl
              refine lv_iload hx hb dX2_passDays_21 (lv_at hl 0 rfl) ?_
              refine lv_aload_n hx hb dX2_passDays_23 rfl (lv_at hl 3 rfl) ?_
              refine va_get (D := G.1) (ci := 1) (v := .int (Z 0 1)) (C := RX2) (T := TX2) (N := 14) hx hb hts (fun _ h => List.mem_cons_of_mem _ (List.mem_append_left _ (List.mem_append_right _ h))) hown hK hP 0 rfl rfl 1 (by decide) w2 (fun _ h9 => h9) rfl dX2_passDays_24 ?_
              refine zk_top hZ.1 ?_
              refine lv_icmp_ge (tgt := 65) hx hb dX2_passDays_27 (by decide) (fun h27_8 => ?_) (fun h27_8 => ?_)
              · have h27_8 := zk_le (by omega) (by omega) h27_8
                refine lv_aload_n hx hb dX2_passDays_65 rfl (lv_at hl 3 rfl) ?_
                refine lv_dup hx hb dX2_passDays_66 rfl ?_
                refine va_get (D := G.1) (ci := 1) (v := .int (Z 0 0)) (C := RX2) (T := TX2) (N := 14) hx hb hts (fun _ h => List.mem_cons_of_mem _ (List.mem_append_left _ (List.mem_append_right _ h))) hown hK hP 0 rfl rfl 0 (by decide) w1 (fun _ h9 => h9) rfl dX2_passDays_67 ?_
                refine zk_top hZ.2.2.1 ?_
                refine lv_iconst (v := nI 1) hx hb dX2_passDays_70 (by decide) ?_
                refine zk_iaddN hx hb dX2_passDays_71 ?_
                refine va_put (D := G.1) (ci := 1) (v := .int (nI ((t + i) + 1))) (ty := .int) (C := RX2) (T := TX2) (N := 14) hx hb hts (fun _ h => List.mem_cons_of_mem _ (List.mem_append_left _ (List.mem_append_right _ h))) tyX2 tyX2_ok nmX2 hown hK hP hD hS 0 rfl rfl 0 (by decide) w1 (fun _ h9 => h9) rfl (by decide +kernel) rfl rfl (Nat.le_of_ble_eq_true rfl) dX2_passDays_72 (fun H locs hP hD hS => ?_)
                obtain ⟨L10, eL10⟩ : ∃ z : Nat → Nat → Int32, z = up2 Z 0 0 (nI ((t + i) + 1)) := ⟨_, rfl⟩
                have hP : va_P G.1 vwCl (zb_L G ad L10 ++ zb_M G ad L10) H := by rw [eL10]; exact hP
                have hD : va_D A (zb_L G ad L10 ++ zb_M G ad L10) := by rw [eL10]; exact hD
                have hI11 : sInv L10 n ((t + i) + 1) := by rw [eL10]; exact sInv_today hZ (by omega)
                refine lv_iinc (v := nI (i + 1)) (lv' := [(3, .int (nI (i + 1))), (4, .int (nI j)), (2, .int y), (0, .ref (ad 0)), (1, .int (nI k))]) hx hb dX2_passDays_75 hl (k := 1) rfl (zk_inc i 1) (by decide) rfl (fun ls hl => ?_)
                refine lv_goto (tgt := 4) hx hb dX2_passDays_78 (by decide) ?_
                exact ih2 (i + 1) y L10 (by omega) (by omega) (by rw [eL10]; show (y, _) = sOneDay n (t + i) (sDays n t i L); rw [← hq]; unfold sOneDay; rw [show j = n by omega] at hrr; rw [← hrr]) (hI11) _ _ hP hD hS ls (lv_sub hl [0, 2, 3, 4] rfl)
              · have h27_8 := zk_nle (by omega) (by omega) h27_8
                refine lv_aload_n hx hb dX2_passDays_30 rfl (lv_at hl 3 rfl) ?_
                refine va_get (D := G.1) (ci := 1) (v := .ref (ad 9)) (C := RX2) (T := TX2) (N := 14) hx hb hts (fun _ h => List.mem_cons_of_mem _ (List.mem_append_left _ (List.mem_append_right _ h))) hown hK hP 0 rfl rfl 13 (by decide) w3 (fun _ h9 => h9) rfl dX2_passDays_31 ?_
                refine lv_iload hx hb dX2_passDays_34 (lv_at hl 0 rfl) ?_
                refine lv_aload_n hx hb dX2_passDays_36 rfl (lv_at hl 3 rfl) ?_
                refine va_get (D := G.1) (ci := 1) (v := .int (Z 0 0)) (C := RX2) (T := TX2) (N := 14) hx hb hts (fun _ h => List.mem_cons_of_mem _ (List.mem_append_left _ (List.mem_append_right _ h))) hown hK hP 0 rfl rfl 0 (by decide) w1 (fun _ h9 => h9) rfl dX2_passDays_37 ?_
                refine zk_top hZ.2.2.1 ?_
                have hP0 : va_P G.1 vwCl (zb_M G ad Z ++ zb_L G ad Z) H := zk_Pperm hP List.perm_append_comm
                have hD0 : va_D A (zb_M G ad Z ++ zb_L G ad Z) := zk_Dperm hD List.perm_append_comm
                refine zk_callI (wr := zb_L G ad Z) (va_runV (As := [.int (nI j), .int (nI (t + i))]) (rest := []) ⟨hx, hb, hml, hown, hts⟩ (c_X3_kindOf l G ad Z j (t + i) (by omega) (by omega) _) (cwV 2 hts gX2_passDays_X3_kindOf rfl rfl rfl (by decide +kernel) ⟨Nat.le_of_ble_eq_true rfl, Nat.le_of_ble_eq_true rfl⟩) (zk_preV hE hA0 hS (zk_Papp hP0).1 (zk_Dapp hD0).1 (va_recv hK hP (ci := 2) (q0 := 9) rfl rfl)) rfl rfl hl.1 rfl (lv_room (Nat.le_of_ble_eq_true rfl)) dX2_passDays_40 ⟨Nat.le_of_ble_eq_true rfl, Nat.le_of_ble_eq_true rfl⟩) hP0 hD0 hS hA (fun r12 u13 H locs q14 hP hD hS => ?_)
                subst q14
                have hP := zk_Pperm hP List.perm_append_comm
                have hD := zk_Dperm hD List.perm_append_comm
                have hP : va_P G.1 vwCl (zb_L G ad Z ++ zb_M G ad Z) H := hP
                have hD : va_D A (zb_L G ad Z ++ zb_M G ad Z) := hD
                refine lv_iconst (v := nI 1) hx hb dX2_passDays_43 (by decide) ?_
                refine lv_icmp_ne (tgt := 59) hx hb dX2_passDays_44 (by decide) (fun h44_14 => ?_) (fun h44_14 => ?_)
                · refine lv_iinc (v := nI (j + 1)) (lv' := [(4, .int (nI (j + 1))), (3, .int (nI i)), (2, .int y), (0, .ref (ad 0)), (1, .int (nI k))]) hx hb dX2_passDays_59 hl (k := 0) rfl (zk_inc j 1) (by decide) rfl (fun ls hl => ?_)
                  refine lv_goto (tgt := 21) hx hb dX2_passDays_62 (by decide) ?_
                  exact ih7 (j + 1) y Z (by omega) (by omega) (by refine zfold_i hrr ?_; unfold sDayC; exact (if_neg h44_14).symm) (hZ) _ _ hP hD hS ls (lv_sub hl [0, 1, 2, 3, 4] rfl)
                · refine lv_aload_n hx hb dX2_passDays_47 rfl (lv_at hl 3 rfl) ?_
                  refine lv_iload hx hb dX2_passDays_48 (lv_at hl 0 rfl) ?_
                  have hP0 : va_P G.1 vwCl ((zb_L G ad Z ++ zb_M G ad Z) ++ ([] : va_W)) H := by rw [List.append_nil]; exact hP
                  have hD0 : va_D A ((zb_L G ad Z ++ zb_M G ad Z) ++ ([] : va_W)) := by rw [List.append_nil]; exact hD
                  refine zk_callI (wr := ([] : va_W)) (va_runV (As := [.int (nI j)]) (rest := []) ⟨hx, hb, hml, hown, hts⟩ (c_X2_serve l G ad Z n (t + i) hZ j (by omega) (by omega) _) (cwV 1 hts gX2_passDays_X2_serve rfl rfl rfl (by decide +kernel) ⟨Nat.le_of_ble_eq_true rfl, Nat.le_of_ble_eq_true rfl⟩) (zk_preV hE hA0 hS (zk_Papp hP0).1 (zk_Dapp hD0).1 (va_recv hK hP (ci := 1) (q0 := 0) rfl rfl)) rfl rfl hl.1 rfl (lv_room (Nat.le_of_ble_eq_true rfl)) dX2_passDays_50 ⟨Nat.le_of_ble_eq_true rfl, Nat.le_of_ble_eq_true rfl⟩) hP0 hD0 hS hA (fun r16 u17 H locs q18 hP hD hS => ?_)
                  obtain ⟨er16, eL19⟩ := q18
                  rw [List.append_nil] at hP hD
                  have hP : va_P G.1 vwCl (zb_L G ad u17 ++ zb_M G ad u17) H := hP
                  have hD : va_D A (zb_L G ad u17 ++ zb_M G ad u17) := hD
                  have hI20 : sInv u17 n (t + i) := by rw [eL19]; exact sInv_serve hZ (by omega) (by omega) (by omega)
                  refine lv_if_eq (tgt := 59) hx hb dX2_passDays_53 (by decide) (fun h53_20 => ?_) (fun h53_20 => ?_)
                  · refine lv_iinc (v := nI (j + 1)) (lv' := [(4, .int (nI (j + 1))), (3, .int (nI i)), (2, .int y), (0, .ref (ad 0)), (1, .int (nI k))]) hx hb dX2_passDays_59 hl (k := 0) rfl (zk_inc j 1) (by decide) rfl (fun ls hl => ?_)
                    refine lv_goto (tgt := 21) hx hb dX2_passDays_62 (by decide) ?_
                    exact ih7 (j + 1) y u17 (by omega) (by omega) (by refine zfold_i hrr ?_; unfold sDayC; rw [if_pos h44_14, ← er16, ← eL19, h53_20]; exact Prod.ext (Int32.add_zero y).symm rfl) (hI20) _ _ hP hD hS ls (lv_sub hl [0, 1, 2, 3, 4] rfl)
                  · obtain ⟨x22, ex22⟩ : ∃ z : Int32, z = y + nI 1 := ⟨_, rfl⟩
                    refine lv_iinc (v := x22) (lv' := [(2, .int x22), (4, .int (nI j)), (3, .int (nI i)), (0, .ref (ad 0)), (1, .int (nI k))]) hx hb dX2_passDays_56 hl (k := 2) rfl (by rw [ex22]; rfl) (by decide) rfl (fun ls hl => ?_)
                    refine lv_iinc (v := nI (j + 1)) (lv' := [(4, .int (nI (j + 1))), (2, .int x22), (3, .int (nI i)), (0, .ref (ad 0)), (1, .int (nI k))]) hx hb dX2_passDays_59 hl (k := 1) rfl (zk_inc j 1) (by decide) rfl (fun ls hl => ?_)
                    refine lv_goto (tgt := 21) hx hb dX2_passDays_62 (by decide) ?_
                    exact ih7 (j + 1) x22 u17 (by omega) (by omega) (by refine zfold_i hrr ?_; unfold sDayC; rw [if_pos h44_14, ← er16, ← eL19]; exact Prod.ext (by rw [ex22]; rcases sServe_01 Z n j (t + i) with z | z; exact absurd (er16.trans z) h53_20; rw [er16.trans z]) rfl) (hI20) _ _ hP hD hS ls (lv_sub hl [0, 2, 1, 3, 4] rfl)
          exact lp6 _ 0 x X (Nat.lt_succ_self _) (by omega) (rfl) (hX) _ _ hP hD hS ls (lv_sub hl [0, 1, 2, 3, 4] rfl)
  exact lp1 _ 0 (nI 0) L (Nat.lt_succ_self _) (by omega) (rfl) (hI) _ _ hP hD hS ls (lv_sub hl [0, 1, 2, 3] rfl)

abbrev rmX2_spendUntilRefused : Room := { frames := 3, cells := 0, slots := 0, locals := 69 }
set_option maxHeartbeats 4000000 in
set_option maxRecDepth 100000 in
/-- the day on which a child of a family is refused -/
theorem c_X2_spendUntilRefused (l : Launch) (G : zk_G) (ad : Nat → Nat) (L : zL) (n t : Nat) (hI : sInv L n t) (f ch : Int32) : zk_I (S := zL) l yX2_spendUntilRefused wsX2_spendUntilRefused rmX2_spendUntilRefused G [.ref (ad 0), .int f, .int ch] (zb_L G ad L ++ zb_M G ad L) (fun r u => r = sOpt (sSp L n t f ch 40).1 ∧ u = (sSp L n t f ch 40).2) (fun u => zb_L G ad u ++ zb_M G ad u) := by
  refine zk_bodyI (cc := cX2_spendUntilRefused) (maxL := 5) (ret := (some .int)) (by decide) rfl (Nat.le_of_ble_eq_true rfl) ?_
  intro p E0 s m args below meth cd A ls Q hF hQ
  obtain ⟨hx, hb, hml, hr, hts, hown, hlocks, -, hE, hP, hD, hS, hA, hA0, hl⟩ := hF
  have hK := hE.1
  have hl : lv_has ls 5 [(0, .ref (ad 0)), (1, .int f), (2, .int ch)] := hl
  obtain ⟨hn, hn12, ht, ht40, hfam, hpay⟩ := id hI
  have w1 := hts _ (List.mem_of_getElem? (l := wsX2_spendUntilRefused) (i := 1) (a := Cond.fieldLink RX2 50 "MealAccounts$Ledger" "today" "I") rfl)
  have w2 := hts _ (List.mem_of_getElem? (l := wsX2_spendUntilRefused) (i := 2) (a := Cond.fieldLink RX2 53 "MealAccounts$Ledger" "children" "I") rfl)
  have w3 := hts _ (List.mem_of_getElem? (l := wsX2_spendUntilRefused) (i := 3) (a := Cond.fieldLink RX2 9 "MealAccounts$Ledger" "familyOf" "[I") rfl)
  have w4 := hts _ (List.mem_of_getElem? (l := wsX2_spendUntilRefused) (i := 4) (a := Cond.fieldLink RX2 39 "MealAccounts$Ledger" "meals" "LMealAccounts$Meals;") rfl)
  refine lv_aload_n hx hb dX2_spendUntilRefused_0 rfl (lv_at hl 0 rfl) ?_
  refine va_get (D := G.1) (ci := 1) (v := .int (L 0 0)) (C := RX2) (T := TX2) (N := 14) hx hb hts (fun _ h => List.mem_cons_of_mem _ (List.mem_append_left _ (List.mem_append_right _ h))) hown hK hP 0 rfl rfl 0 (by decide) w1 (fun _ h9 => h9) rfl dX2_spendUntilRefused_1 ?_
  refine zk_top hI.2.2.1 ?_
  refine lv_istore_n (lv' := [(3, .int (nI t)), (0, .ref (ad 0)), (1, .int f), (2, .int ch)]) hx hb dX2_spendUntilRefused_4 rfl hl (by decide) rfl (fun ls hl => ?_)
  have lp1 : ∀ (n3 : Nat) (d : Nat) (X : zL), 40 - d < n3 → (d ≤ 40) → (t ≤ d) → ((none, X) = sSp L n t f ch d) → (sInv X n t) → ∀ (H : Heap) (locs : List Loc) (hP : va_P G.1 vwCl (zb_L G ad X ++ zb_M G ad X) H) (hD : va_D A (zb_L G ad X ++ zb_M G ad X)) (hS : va_S A s.heap H locs) (ls : Array Slot), lv_has ls 5 [(3, .int (nI d)), (0, .ref (ad 0)), (1, .int f), (2, .int ch)] → W p l E0 rmX2_spendUntilRefused s m args below meth cd H locs 0 0 Q (F0 m 5 ls []) := by
    intro n3
    induction n3 with
    | zero => intro d X hz; exact absurd hz (Nat.not_lt_zero _)
    | succ n3 ih2 =>
      intro d X hm hd htd hq hX H locs hP hD hS ls hl
      refine lv_iload_n hx hb dX2_spendUntilRefused_5 rfl (lv_at hl 0 rfl) ?_
      refine lv_bipush (v := nI 40) hx hb dX2_spendUntilRefused_6 (by decide) ?_
      refine lv_icmp_ge (tgt := 83) hx hb dX2_spendUntilRefused_8 (by decide) (fun h8_3 => ?_) (fun h8_3 => ?_)
      · have h8_3 := zk_le (by omega) (by omega) h8_3
        refine lv_iconst (v := -1) hx hb dX2_spendUntilRefused_83 (by decide) ?_
        exact zk_reti X hQ hx hb hr hlocks hS hP hD (Nat.le_of_ble_eq_true rfl) (Nat.le_of_ble_eq_true rfl) dX2_spendUntilRefused_84 (by rw [show d = 40 by omega] at hq; rw [← hq]; exact ⟨rfl, rfl⟩)
      · have h8_3 := zk_nle (by omega) (by omega) h8_3
        refine lv_iconst (v := nI 0) hx hb dX2_spendUntilRefused_11 (by decide) ?_
        refine lv_istore (lv' := [(4, .int (nI 0)), (3, .int (nI d)), (0, .ref (ad 0)), (1, .int f), (2, .int ch)]) hx hb dX2_spendUntilRefused_12 hl (by decide) rfl (fun ls hl => ?_)
        have lp5 : ∀ (n7 : Nat) (j : Nat) (Z : zL), n - j < n7 → (j ≤ n) → ((none, Z) = zfold (sSpC n f ch d) j (none, X)) → (sInv Z n t) → ∀ (H : Heap) (locs : List Loc) (hP : va_P G.1 vwCl (zb_L G ad Z ++ zb_M G ad Z) H) (hD : va_D A (zb_L G ad Z ++ zb_M G ad Z)) (hS : va_S A s.heap H locs) (ls : Array Slot), lv_has ls 5 [(4, .int (nI j)), (3, .int (nI d)), (0, .ref (ad 0)), (1, .int f), (2, .int ch)] → W p l E0 rmX2_spendUntilRefused s m args below meth cd H locs 0 0 Q (F0 m 14 ls []) := by
          intro n7
          induction n7 with
          | zero => intro j Z hz; exact absurd hz (Nat.not_lt_zero _)
          | succ n7 ih6 =>
            intro j Z hm hj hrr hZ H locs hP hD hS ls hl
            refine lv_iload hx hb dX2_spendUntilRefused_14 (lv_at hl 0 rfl) ?_
            refine lv_aload_n hx hb dX2_spendUntilRefused_16 rfl (lv_at hl 2 rfl) ?_
            refine va_get (D := G.1) (ci := 1) (v := .int (Z 0 1)) (C := RX2) (T := TX2) (N := 14) hx hb hts (fun _ h => List.mem_cons_of_mem _ (List.mem_append_left _ (List.mem_append_right _ h))) hown hK hP 0 rfl rfl 1 (by decide) w2 (fun _ h9 => h9) rfl dX2_spendUntilRefused_17 ?_
            refine zk_top hZ.1 ?_
            refine lv_icmp_ge (tgt := 77) hx hb dX2_spendUntilRefused_20 (by decide) (fun h20_7 => ?_) (fun h20_7 => ?_)
            · have h20_7 := zk_le (by omega) (by omega) h20_7
              refine lv_iinc (v := nI (d + 1)) (lv' := [(3, .int (nI (d + 1))), (4, .int (nI j)), (0, .ref (ad 0)), (1, .int f), (2, .int ch)]) hx hb dX2_spendUntilRefused_77 hl (k := 1) rfl (zk_inc d 1) (by decide) rfl (fun ls hl => ?_)
              refine lv_goto (tgt := 5) hx hb dX2_spendUntilRefused_80 (by decide) ?_
              exact ih2 (d + 1) Z (by omega) (by omega) (by omega) (by rw [show j = n by omega] at hrr; exact sSp_day hq htd hrr) (hZ) _ _ hP hD hS ls (lv_sub hl [0, 2, 3, 4] rfl)
            · have h20_7 := zk_nle (by omega) (by omega) h20_7
              refine lv_aload_n hx hb dX2_spendUntilRefused_23 rfl (lv_at hl 2 rfl) ?_
              refine va_get (D := G.1) (ci := 1) (v := .ref (ad 1)) (C := RX2) (T := TX2) (N := 14) hx hb hts (fun _ h => List.mem_cons_of_mem _ (List.mem_append_left _ (List.mem_append_right _ h))) hown hK hP 0 rfl rfl 5 (by decide) w3 (fun _ h9 => h9) rfl dX2_spendUntilRefused_24 ?_
              refine lv_iload hx hb dX2_spendUntilRefused_27 (lv_at hl 0 rfl) ?_
              refine zk_ialdN hx hb hK hP 1 0 rfl rfl (k := j) (n := 12) (by omega) (by omega) dX2_spendUntilRefused_29 ?_
              refine lv_iload_n hx hb dX2_spendUntilRefused_30 rfl (lv_at hl 3 rfl) ?_
              refine lv_icmp_ne (tgt := 71) hx hb dX2_spendUntilRefused_31 (by decide) (fun h31_8 => ?_) (fun h31_8 => ?_)
              · refine lv_iinc (v := nI (j + 1)) (lv' := [(4, .int (nI (j + 1))), (3, .int (nI d)), (0, .ref (ad 0)), (1, .int f), (2, .int ch)]) hx hb dX2_spendUntilRefused_71 hl (k := 0) rfl (zk_inc j 1) (by decide) rfl (fun ls hl => ?_)
                refine lv_goto (tgt := 14) hx hb dX2_spendUntilRefused_74 (by decide) ?_
                exact ih6 (j + 1) Z (by omega) (by omega) (by refine zfold_i hrr ?_; unfold sSpC; exact (if_neg (fun z => h31_8 z.2.1)).symm) (hZ) _ _ hP hD hS ls (lv_sub hl [0, 1, 2, 3, 4] rfl)
              · refine lv_aload_n hx hb dX2_spendUntilRefused_34 rfl (lv_at hl 2 rfl) ?_
                refine va_get (D := G.1) (ci := 1) (v := .ref (ad 9)) (C := RX2) (T := TX2) (N := 14) hx hb hts (fun _ h => List.mem_cons_of_mem _ (List.mem_append_left _ (List.mem_append_right _ h))) hown hK hP 0 rfl rfl 13 (by decide) w4 (fun _ h9 => h9) rfl dX2_spendUntilRefused_35 ?_
                refine lv_iload hx hb dX2_spendUntilRefused_38 (lv_at hl 0 rfl) ?_
                refine lv_iload_n hx hb dX2_spendUntilRefused_40 rfl (lv_at hl 1 rfl) ?_
                have hP0 : va_P G.1 vwCl (zb_M G ad Z ++ zb_L G ad Z) H := zk_Pperm hP List.perm_append_comm
                have hD0 : va_D A (zb_M G ad Z ++ zb_L G ad Z) := zk_Dperm hD List.perm_append_comm
                refine zk_callI (wr := zb_L G ad Z) (va_runV (As := [.int (nI j), .int (nI d)]) (rest := []) ⟨hx, hb, hml, hown, hts⟩ (c_X3_kindOf l G ad Z j d (by omega) (by omega) _) (cwV 2 hts gX2_spendUntilRefused_X3_kindOf rfl rfl rfl (by decide +kernel) ⟨Nat.le_of_ble_eq_true rfl, Nat.le_of_ble_eq_true rfl⟩) (zk_preV hE hA0 hS (zk_Papp hP0).1 (zk_Dapp hD0).1 (va_recv hK hP (ci := 2) (q0 := 9) rfl rfl)) rfl rfl hl.1 rfl (lv_room (Nat.le_of_ble_eq_true rfl)) dX2_spendUntilRefused_41 ⟨Nat.le_of_ble_eq_true rfl, Nat.le_of_ble_eq_true rfl⟩) hP0 hD0 hS hA (fun r10 u11 H locs q12 hP hD hS => ?_)
                subst q12
                have hP := zk_Pperm hP List.perm_append_comm
                have hD := zk_Dperm hD List.perm_append_comm
                have hP : va_P G.1 vwCl (zb_L G ad Z ++ zb_M G ad Z) H := hP
                have hD : va_D A (zb_L G ad Z ++ zb_M G ad Z) := hD
                refine lv_iconst (v := nI 1) hx hb dX2_spendUntilRefused_44 (by decide) ?_
                refine lv_icmp_ne (tgt := 71) hx hb dX2_spendUntilRefused_45 (by decide) (fun h45_12 => ?_) (fun h45_12 => ?_)
                · refine lv_iinc (v := nI (j + 1)) (lv' := [(4, .int (nI (j + 1))), (3, .int (nI d)), (0, .ref (ad 0)), (1, .int f), (2, .int ch)]) hx hb dX2_spendUntilRefused_71 hl (k := 0) rfl (zk_inc j 1) (by decide) rfl (fun ls hl => ?_)
                  refine lv_goto (tgt := 14) hx hb dX2_spendUntilRefused_74 (by decide) ?_
                  exact ih6 (j + 1) Z (by omega) (by omega) (by refine zfold_i hrr ?_; unfold sSpC; exact (if_neg (fun z => h45_12 z.2.2)).symm) (hZ) _ _ hP hD hS ls (lv_sub hl [0, 1, 2, 3, 4] rfl)
                · refine lv_aload_n hx hb dX2_spendUntilRefused_48 rfl (lv_at hl 2 rfl) ?_
                  refine lv_iload hx hb dX2_spendUntilRefused_49 (lv_at hl 0 rfl) ?_
                  refine lv_iload_n hx hb dX2_spendUntilRefused_51 rfl (lv_at hl 1 rfl) ?_
                  have hP0 : va_P G.1 vwCl ((zb_L G ad Z ++ zb_M G ad Z) ++ ([] : va_W)) H := by rw [List.append_nil]; exact hP
                  have hD0 : va_D A ((zb_L G ad Z ++ zb_M G ad Z) ++ ([] : va_W)) := by rw [List.append_nil]; exact hD
                  refine zk_callI (wr := ([] : va_W)) (va_runV (As := [.int (nI j), .int (nI d)]) (rest := []) ⟨hx, hb, hml, hown, hts⟩ (c_X2_spend l G ad Z n t hZ j d (by omega) (by omega) _) (cwV 2 hts gX2_spendUntilRefused_X2_spend rfl rfl rfl (by decide +kernel) ⟨Nat.le_of_ble_eq_true rfl, Nat.le_of_ble_eq_true rfl⟩) (zk_preV hE hA0 hS (zk_Papp hP0).1 (zk_Dapp hD0).1 (va_recv hK hP (ci := 1) (q0 := 0) rfl rfl)) rfl rfl hl.1 rfl (lv_room (Nat.le_of_ble_eq_true rfl)) dX2_spendUntilRefused_52 ⟨Nat.le_of_ble_eq_true rfl, Nat.le_of_ble_eq_true rfl⟩) hP0 hD0 hS hA (fun r14 u15 H locs q16 hP hD hS => ?_)
                  obtain ⟨er14, eL17⟩ := q16
                  rw [List.append_nil] at hP hD
                  have hP : va_P G.1 vwCl (zb_L G ad u15 ++ zb_M G ad u15) H := hP
                  have hD : va_D A (zb_L G ad u15 ++ zb_M G ad u15) := hD
                  have hI18 : sInv u15 n t := by rw [eL17]; exact sInv_spend hZ (by omega) (by omega)
                  refine lv_if_ne (tgt := 71) hx hb dX2_spendUntilRefused_55 (by decide) (fun h55_18 => ?_) (fun h55_18 => ?_)
                  · refine lv_iinc (v := nI (j + 1)) (lv' := [(4, .int (nI (j + 1))), (3, .int (nI d)), (0, .ref (ad 0)), (1, .int f), (2, .int ch)]) hx hb dX2_spendUntilRefused_71 hl (k := 0) rfl (zk_inc j 1) (by decide) rfl (fun ls hl => ?_)
                    refine lv_goto (tgt := 14) hx hb dX2_spendUntilRefused_74 (by decide) ?_
                    exact ih6 (j + 1) u15 (by omega) (by omega) (by refine zfold_i hrr ?_; unfold sSpC; rw [if_pos ⟨rfl, h31_8, h45_12⟩, if_neg (fun z => h55_18 (er14.trans z.1)), ← eL17]) (hI18) _ _ hP hD hS ls (lv_sub hl [0, 1, 2, 3, 4] rfl)
                  · refine lv_iload_n hx hb dX2_spendUntilRefused_58 rfl (lv_at hl 4 rfl) ?_
                    refine lv_iconst (v := -1) hx hb dX2_spendUntilRefused_59 (by decide) ?_
                    refine lv_icmp_eq (tgt := 69) hx hb dX2_spendUntilRefused_60 (by decide) (fun h60_19 => ?_) (fun h60_19 => ?_)
                    · refine lv_iload_n hx hb dX2_spendUntilRefused_69 rfl (lv_at hl 1 rfl) ?_
                      exact zk_reti u15 hQ hx hb hr hlocks hS hP hD (Nat.le_of_ble_eq_true rfl) (Nat.le_of_ble_eq_true rfl) dX2_spendUntilRefused_70 (by rw [sSp_hit hq htd (by omega) hrr (by omega) (by unfold sSpC; rw [if_pos ⟨rfl, h31_8, h45_12⟩, if_pos ⟨er14.symm.trans h55_18, Or.inl h60_19⟩, ← eL17])]; exact ⟨rfl, rfl⟩)
                    · refine lv_iload_n hx hb dX2_spendUntilRefused_63 rfl (lv_at hl 4 rfl) ?_
                      refine lv_iload hx hb dX2_spendUntilRefused_64 (lv_at hl 0 rfl) ?_
                      refine lv_icmp_ne (tgt := 71) hx hb dX2_spendUntilRefused_66 (by decide) (fun h66_20 => ?_) (fun h66_20 => ?_)
                      · refine lv_iinc (v := nI (j + 1)) (lv' := [(4, .int (nI (j + 1))), (3, .int (nI d)), (0, .ref (ad 0)), (1, .int f), (2, .int ch)]) hx hb dX2_spendUntilRefused_71 hl (k := 0) rfl (zk_inc j 1) (by decide) rfl (fun ls hl => ?_)
                        refine lv_goto (tgt := 14) hx hb dX2_spendUntilRefused_74 (by decide) ?_
                        exact ih6 (j + 1) u15 (by omega) (by omega) (by refine zfold_i hrr ?_; unfold sSpC; rw [if_pos ⟨rfl, h31_8, h45_12⟩, if_neg (fun z => z.2.elim h60_19 h66_20), ← eL17]) (hI18) _ _ hP hD hS ls (lv_sub hl [0, 1, 2, 3, 4] rfl)
                      · refine lv_iload_n hx hb dX2_spendUntilRefused_69 rfl (lv_at hl 1 rfl) ?_
                        exact zk_reti u15 hQ hx hb hr hlocks hS hP hD (Nat.le_of_ble_eq_true rfl) (Nat.le_of_ble_eq_true rfl) dX2_spendUntilRefused_70 (by rw [sSp_hit hq htd (by omega) hrr (by omega) (by unfold sSpC; rw [if_pos ⟨rfl, h31_8, h45_12⟩, if_pos ⟨er14.symm.trans h55_18, Or.inr h66_20⟩, ← eL17])]; exact ⟨rfl, rfl⟩)
        exact lp5 _ 0 X (Nat.lt_succ_self _) (by omega) (rfl) (hX) _ _ hP hD hS ls (lv_sub hl [0, 1, 2, 3, 4] rfl)
  exact lp1 _ t L (Nat.lt_succ_self _) (by omega) (by omega) ((zfr_0 _ _ (Nat.le_refl _)).symm) (hI) _ _ hP hD hS ls (lv_sub hl [0, 1, 2, 3] rfl)

abbrev rmX2_tryCome : Room := { frames := 2, cells := 0, slots := 0, locals := 42 }
set_option maxHeartbeats 4000000 in
set_option maxRecDepth 100000 in
/-- a child comes, if it can -/
theorem c_X2_tryCome (l : Launch) (G : zk_G) (ad : Nat → Nat) (L : zL) (n t : Nat) (hI : sInv L n t) (f di : Int32) : zk_I (S := zL) l yX2_tryCome wsX2_tryCome rmX2_tryCome G [.ref (ad 0), .int f, .int di] (zb_L G ad L ++ zb_M G ad L) (fun r u => r = (if sfCome n f di = 0 then nI 1 else nI 0) ∧ u = (if sfCome n f di = 0 then sCome L n f di else L)) (fun u => zb_L G ad u ++ zb_M G ad u) := by
  refine zk_bodyI (cc := cX2_tryCome) (maxL := 3) (ret := (some .boolean)) (by decide) rfl (Nat.le_of_ble_eq_true rfl) ?_
  intro p E0 s m args below meth cd A ls Q hF hQ
  obtain ⟨hx, hb, hml, hr, hts, hown, hlocks, -, hE, hP, hD, hS, hA, hA0, hl⟩ := hF
  have hK := hE.1
  have hl : lv_has ls 3 [(0, .ref (ad 0)), (1, .int f), (2, .int di)] := hl
  obtain ⟨hn, hn12, ht, ht40, hfam, hpay⟩ := id hI
  refine lv_aload_n hx hb dX2_tryCome_0 rfl (lv_at hl 0 rfl) ?_
  refine lv_iload_n hx hb dX2_tryCome_1 rfl (lv_at hl 1 rfl) ?_
  refine lv_iload_n hx hb dX2_tryCome_2 rfl (lv_at hl 2 rfl) ?_
  have hP0 : va_P G.1 vwCl ((zb_L G ad L ++ zb_M G ad L) ++ ([] : va_W)) s.heap := by rw [List.append_nil]; exact hP
  have hD0 : va_D A ((zb_L G ad L ++ zb_M G ad L) ++ ([] : va_W)) := by rw [List.append_nil]; exact hD
  refine zk_callI (wr := ([] : va_W)) (va_runV (As := [.int f, .int di]) (rest := []) ⟨hx, hb, hml, hown, hts⟩ (c_X2_faultOfCome l G ad L n t hI f di _) (cwV 2 hts gX2_tryCome_X2_faultOfCome rfl rfl rfl (by decide +kernel) ⟨Nat.le_of_ble_eq_true rfl, Nat.le_of_ble_eq_true rfl⟩) (zk_preV hE hA0 hS (zk_Papp hP0).1 (zk_Dapp hD0).1 (va_recv hK hP (ci := 1) (q0 := 0) rfl rfl)) rfl rfl hl.1 rfl (lv_room (Nat.le_of_ble_eq_true rfl)) dX2_tryCome_3 ⟨Nat.le_of_ble_eq_true rfl, Nat.le_of_ble_eq_true rfl⟩) hP0 hD0 hS hA (fun r1 u2 H locs q3 hP hD hS => ?_)
  subst q3
  rw [List.append_nil] at hP hD
  have hP : va_P G.1 vwCl (zb_L G ad L ++ zb_M G ad L) H := hP
  have hD : va_D A (zb_L G ad L ++ zb_M G ad L) := hD
  refine lv_if_eq (tgt := 11) hx hb dX2_tryCome_6 (by decide) (fun h6_3 => ?_) (fun h6_3 => ?_)
  · have hz := sfCome_0 h6_3
    refine lv_aload_n hx hb dX2_tryCome_11 rfl (lv_at hl 0 rfl) ?_
    refine lv_iload_n hx hb dX2_tryCome_12 rfl (lv_at hl 1 rfl) ?_
    refine lv_iload_n hx hb dX2_tryCome_13 rfl (lv_at hl 2 rfl) ?_
    have hP0 : va_P G.1 vwCl ((zb_L G ad L ++ zb_M G ad L) ++ ([] : va_W)) H := by rw [List.append_nil]; exact hP
    have hD0 : va_D A ((zb_L G ad L ++ zb_M G ad L) ++ ([] : va_W)) := by rw [List.append_nil]; exact hD
    refine zk_callI (wr := ([] : va_W)) (va_runV (As := [.int f, .int di]) (rest := []) ⟨hx, hb, hml, hown, hts⟩ (c_X2_addChild l G ad L n t hI f di (by omega) _) (cwV 2 hts gX2_tryCome_X2_addChild rfl rfl rfl (by decide +kernel) ⟨Nat.le_of_ble_eq_true rfl, Nat.le_of_ble_eq_true rfl⟩) (zk_preV hE hA0 hS (zk_Papp hP0).1 (zk_Dapp hD0).1 (va_recv hK hP (ci := 1) (q0 := 0) rfl rfl)) rfl rfl hl.1 rfl (lv_room (Nat.le_of_ble_eq_true rfl)) dX2_tryCome_14 ⟨Nat.le_of_ble_eq_true rfl, Nat.le_of_ble_eq_true rfl⟩) hP0 hD0 hS hA (fun r5 u6 H locs q7 hP hD hS => ?_)
    obtain ⟨er5, eL8⟩ := q7
    rw [List.append_nil] at hP hD
    have hP : va_P G.1 vwCl (zb_L G ad u6 ++ zb_M G ad u6) H := hP
    have hD : va_D A (zb_L G ad u6 ++ zb_M G ad u6) := hD
    refine lv_pop hx hb dX2_tryCome_17 rfl ?_
    refine lv_iconst (v := nI 1) hx hb dX2_tryCome_18 (by decide) ?_
    exact zk_retz u6 hQ hx hb hr hlocks hS hP hD (Nat.le_of_ble_eq_true rfl) (Nat.le_of_ble_eq_true rfl) dX2_tryCome_19 (rfl) (by rw [if_pos h6_3, if_pos h6_3]; exact ⟨rfl, by rw [eL8]⟩)
  · refine lv_iconst (v := nI 0) hx hb dX2_tryCome_9 (by decide) ?_
    exact zk_retz L hQ hx hb hr hlocks hS hP hD (Nat.le_of_ble_eq_true rfl) (Nat.le_of_ble_eq_true rfl) dX2_tryCome_10 (rfl) (by rw [if_neg h6_3, if_neg h6_3]; exact ⟨rfl, rfl⟩)

abbrev rmX2_tryMenu : Room := { frames := 2, cells := 0, slots := 0, locals := 42 }
set_option maxHeartbeats 4000000 in
set_option maxRecDepth 100000 in
/-- a menu changes, if it can -/
theorem c_X2_tryMenu (l : Launch) (G : zk_G) (ad : Nat → Nat) (L : zL) (n t : Nat) (hI : sInv L n t) (d mn : Int32) : zk_I (S := zL) l yX2_tryMenu wsX2_tryMenu rmX2_tryMenu G [.ref (ad 0), .int d, .int mn] (zb_L G ad L ++ zb_M G ad L) (fun r u => r = (if sfMenu t d mn = 0 then nI 1 else nI 0) ∧ u = (if sfMenu t d mn = 0 then up2 L 6 d.toNatClampNeg mn else L)) (fun u => zb_L G ad u ++ zb_M G ad u) := by
  refine zk_bodyI (cc := cX2_tryMenu) (maxL := 3) (ret := (some .boolean)) (by decide) rfl (Nat.le_of_ble_eq_true rfl) ?_
  intro p E0 s m args below meth cd A ls Q hF hQ
  obtain ⟨hx, hb, hml, hr, hts, hown, hlocks, -, hE, hP, hD, hS, hA, hA0, hl⟩ := hF
  have hK := hE.1
  have hl : lv_has ls 3 [(0, .ref (ad 0)), (1, .int d), (2, .int mn)] := hl
  obtain ⟨hn, hn12, ht, ht40, hfam, hpay⟩ := id hI
  refine lv_aload_n hx hb dX2_tryMenu_0 rfl (lv_at hl 0 rfl) ?_
  refine lv_iload_n hx hb dX2_tryMenu_1 rfl (lv_at hl 1 rfl) ?_
  refine lv_iload_n hx hb dX2_tryMenu_2 rfl (lv_at hl 2 rfl) ?_
  have hP0 : va_P G.1 vwCl ((zb_L G ad L ++ zb_M G ad L) ++ ([] : va_W)) s.heap := by rw [List.append_nil]; exact hP
  have hD0 : va_D A ((zb_L G ad L ++ zb_M G ad L) ++ ([] : va_W)) := by rw [List.append_nil]; exact hD
  refine zk_callI (wr := ([] : va_W)) (va_runV (As := [.int d, .int mn]) (rest := []) ⟨hx, hb, hml, hown, hts⟩ (c_X2_faultOfMenu l G ad L n t hI d mn _) (cwV 2 hts gX2_tryMenu_X2_faultOfMenu rfl rfl rfl (by decide +kernel) ⟨Nat.le_of_ble_eq_true rfl, Nat.le_of_ble_eq_true rfl⟩) (zk_preV hE hA0 hS (zk_Papp hP0).1 (zk_Dapp hD0).1 (va_recv hK hP (ci := 1) (q0 := 0) rfl rfl)) rfl rfl hl.1 rfl (lv_room (Nat.le_of_ble_eq_true rfl)) dX2_tryMenu_3 ⟨Nat.le_of_ble_eq_true rfl, Nat.le_of_ble_eq_true rfl⟩) hP0 hD0 hS hA (fun r1 u2 H locs q3 hP hD hS => ?_)
  subst q3
  rw [List.append_nil] at hP hD
  have hP : va_P G.1 vwCl (zb_L G ad L ++ zb_M G ad L) H := hP
  have hD : va_D A (zb_L G ad L ++ zb_M G ad L) := hD
  refine lv_if_eq (tgt := 11) hx hb dX2_tryMenu_6 (by decide) (fun h6_3 => ?_) (fun h6_3 => ?_)
  · have hz := sfMenu_0 h6_3
    obtain ⟨dk, hdk, edk⟩ := sDay_nat hz.1
    subst edk
    have ndk := nI_clamp (show dk < 2 ^ 31 by omega)
    refine lv_aload_n hx hb dX2_tryMenu_11 rfl (lv_at hl 0 rfl) ?_
    refine lv_iload_n hx hb dX2_tryMenu_12 rfl (lv_at hl 1 rfl) ?_
    refine lv_iload_n hx hb dX2_tryMenu_13 rfl (lv_at hl 2 rfl) ?_
    have hP0 : va_P G.1 vwCl ((zb_L G ad L ++ zb_M G ad L) ++ ([] : va_W)) H := by rw [List.append_nil]; exact hP
    have hD0 : va_D A ((zb_L G ad L ++ zb_M G ad L) ++ ([] : va_W)) := by rw [List.append_nil]; exact hD
    refine zk_callI (wr := ([] : va_W)) (va_runV (As := [.int (nI dk), .int mn]) (rest := []) ⟨hx, hb, hml, hown, hts⟩ (c_X2_changeMenu l G ad L n t hI dk mn (by omega) _) (cwV 2 hts gX2_tryMenu_X2_changeMenu rfl rfl rfl (by decide +kernel) ⟨Nat.le_of_ble_eq_true rfl, Nat.le_of_ble_eq_true rfl⟩) (zk_preV hE hA0 hS (zk_Papp hP0).1 (zk_Dapp hD0).1 (va_recv hK hP (ci := 1) (q0 := 0) rfl rfl)) rfl rfl hl.1 rfl (lv_room (Nat.le_of_ble_eq_true rfl)) dX2_tryMenu_14 ⟨Nat.le_of_ble_eq_true rfl, Nat.le_of_ble_eq_true rfl⟩) hP0 hD0 hS hA (fun r5 u6 H locs q7 hP hD hS => ?_)
    obtain ⟨er5, eL8⟩ := q7
    rw [List.append_nil] at hP hD
    have hP : va_P G.1 vwCl (zb_L G ad u6 ++ zb_M G ad u6) H := hP
    have hD : va_D A (zb_L G ad u6 ++ zb_M G ad u6) := hD
    refine lv_pop hx hb dX2_tryMenu_17 rfl ?_
    refine lv_iconst (v := nI 1) hx hb dX2_tryMenu_18 (by decide) ?_
    exact zk_retz u6 hQ hx hb hr hlocks hS hP hD (Nat.le_of_ble_eq_true rfl) (Nat.le_of_ble_eq_true rfl) dX2_tryMenu_19 (rfl) (by rw [if_pos h6_3, if_pos h6_3]; exact ⟨rfl, by rw [eL8, ndk]⟩)
  · refine lv_iconst (v := nI 0) hx hb dX2_tryMenu_9 (by decide) ?_
    exact zk_retz L hQ hx hb hr hlocks hS hP hD (Nat.le_of_ble_eq_true rfl) (Nat.le_of_ble_eq_true rfl) dX2_tryMenu_10 (rfl) (by rw [if_neg h6_3, if_neg h6_3]; exact ⟨rfl, rfl⟩)

abbrev rmX2_tryOrder : Room := { frames := 5, cells := 0, slots := 0, locals := 111 }
set_option maxHeartbeats 4000000 in
set_option maxRecDepth 100000 in
/-- an order, if it can be -/
theorem c_X2_tryOrder (l : Launch) (G : zk_G) (ad : Nat → Nat) (L : zL) (n t : Nat) (hI : sInv L n t) (c d b : Int32) : zk_I (S := zL) l yX2_tryOrder wsX2_tryOrder rmX2_tryOrder G [.ref (ad 0), .int c, .int d, .int b] (zb_L G ad L ++ zb_M G ad L) (fun r u => r = (if sfOrder L t c d = 0 then nI 1 else nI 0) ∧ u = (if sfOrder L t c d = 0 then sOrd L (c.toNatClampNeg * 40 + d.toNatClampNeg) b else L)) (fun u => zb_L G ad u ++ zb_M G ad u) := by
  refine zk_bodyI (cc := cX2_tryOrder) (maxL := 4) (ret := (some .boolean)) (by decide) rfl (Nat.le_of_ble_eq_true rfl) ?_
  intro p E0 s m args below meth cd A ls Q hF hQ
  obtain ⟨hx, hb, hml, hr, hts, hown, hlocks, -, hE, hP, hD, hS, hA, hA0, hl⟩ := hF
  have hK := hE.1
  have hl : lv_has ls 4 [(0, .ref (ad 0)), (1, .int c), (2, .int d), (3, .int b)] := hl
  obtain ⟨hn, hn12, ht, ht40, hfam, hpay⟩ := id hI
  refine lv_aload_n hx hb dX2_tryOrder_0 rfl (lv_at hl 0 rfl) ?_
  refine lv_iload_n hx hb dX2_tryOrder_1 rfl (lv_at hl 1 rfl) ?_
  refine lv_iload_n hx hb dX2_tryOrder_2 rfl (lv_at hl 2 rfl) ?_
  have hP0 : va_P G.1 vwCl ((zb_L G ad L ++ zb_M G ad L) ++ ([] : va_W)) s.heap := by rw [List.append_nil]; exact hP
  have hD0 : va_D A ((zb_L G ad L ++ zb_M G ad L) ++ ([] : va_W)) := by rw [List.append_nil]; exact hD
  refine zk_callI (wr := ([] : va_W)) (va_runV (As := [.int c, .int d]) (rest := []) ⟨hx, hb, hml, hown, hts⟩ (c_X2_faultOfOrder l G ad L n t hI c d _) (cwV 2 hts gX2_tryOrder_X2_faultOfOrder rfl rfl rfl (by decide +kernel) ⟨Nat.le_of_ble_eq_true rfl, Nat.le_of_ble_eq_true rfl⟩) (zk_preV hE hA0 hS (zk_Papp hP0).1 (zk_Dapp hD0).1 (va_recv hK hP (ci := 1) (q0 := 0) rfl rfl)) rfl rfl hl.1 rfl (lv_room (Nat.le_of_ble_eq_true rfl)) dX2_tryOrder_3 ⟨Nat.le_of_ble_eq_true rfl, Nat.le_of_ble_eq_true rfl⟩) hP0 hD0 hS hA (fun r1 u2 H locs q3 hP hD hS => ?_)
  subst q3
  rw [List.append_nil] at hP hD
  have hP : va_P G.1 vwCl (zb_L G ad L ++ zb_M G ad L) H := hP
  have hD : va_D A (zb_L G ad L ++ zb_M G ad L) := hD
  refine lv_if_eq (tgt := 11) hx hb dX2_tryOrder_6 (by decide) (fun h6_3 => ?_) (fun h6_3 => ?_)
  · have hz := sfOrder_0 h6_3
    obtain ⟨ck, hck, eck⟩ := sHas_nat hI hz.1
    obtain ⟨dk, hdk, edk⟩ := sDay_nat hz.2.1
    subst eck
    have nck := nI_clamp (show ck < 2 ^ 31 by omega)
    subst edk
    have ndk := nI_clamp (show dk < 2 ^ 31 by omega)
    refine lv_aload_n hx hb dX2_tryOrder_11 rfl (lv_at hl 0 rfl) ?_
    refine lv_iload_n hx hb dX2_tryOrder_12 rfl (lv_at hl 1 rfl) ?_
    refine lv_iload_n hx hb dX2_tryOrder_13 rfl (lv_at hl 2 rfl) ?_
    refine lv_iload_n hx hb dX2_tryOrder_14 rfl (lv_at hl 3 rfl) ?_
    have hP0 : va_P G.1 vwCl ((zb_L G ad L ++ zb_M G ad L) ++ ([] : va_W)) H := by rw [List.append_nil]; exact hP
    have hD0 : va_D A ((zb_L G ad L ++ zb_M G ad L) ++ ([] : va_W)) := by rw [List.append_nil]; exact hD
    refine zk_callI (wr := ([] : va_W)) (va_runV (As := [.int (nI ck), .int (nI dk), .int b]) (rest := []) ⟨hx, hb, hml, hown, hts⟩ (c_X2_changeOrder l G ad L n t hI ck dk b (by omega) (by omega) _) (cwV 3 hts gX2_tryOrder_X2_changeOrder rfl rfl rfl (by decide +kernel) ⟨Nat.le_of_ble_eq_true rfl, Nat.le_of_ble_eq_true rfl⟩) (zk_preV hE hA0 hS (zk_Papp hP0).1 (zk_Dapp hD0).1 (va_recv hK hP (ci := 1) (q0 := 0) rfl rfl)) rfl rfl hl.1 rfl (lv_room (Nat.le_of_ble_eq_true rfl)) dX2_tryOrder_15 ⟨Nat.le_of_ble_eq_true rfl, Nat.le_of_ble_eq_true rfl⟩) hP0 hD0 hS hA (fun r5 u6 H locs q7 hP hD hS => ?_)
    obtain ⟨er5, eL8⟩ := q7
    rw [List.append_nil] at hP hD
    have hP : va_P G.1 vwCl (zb_L G ad u6 ++ zb_M G ad u6) H := hP
    have hD : va_D A (zb_L G ad u6 ++ zb_M G ad u6) := hD
    refine lv_pop hx hb dX2_tryOrder_18 rfl ?_
    refine lv_iconst (v := nI 1) hx hb dX2_tryOrder_19 (by decide) ?_
    exact zk_retz u6 hQ hx hb hr hlocks hS hP hD (Nat.le_of_ble_eq_true rfl) (Nat.le_of_ble_eq_true rfl) dX2_tryOrder_20 (rfl) (by rw [if_pos h6_3, if_pos h6_3]; exact ⟨rfl, by rw [eL8, nck, ndk]⟩)
  · refine lv_iconst (v := nI 0) hx hb dX2_tryOrder_9 (by decide) ?_
    exact zk_retz L hQ hx hb hr hlocks hS hP hD (Nat.le_of_ble_eq_true rfl) (Nat.le_of_ble_eq_true rfl) dX2_tryOrder_10 (rfl) (by rw [if_neg h6_3, if_neg h6_3]; exact ⟨rfl, rfl⟩)

abbrev rmX2_tryPay : Room := { frames := 2, cells := 0, slots := 0, locals := 43 }
set_option maxHeartbeats 4000000 in
set_option maxRecDepth 100000 in
/-- a payment, if it can be -/
theorem c_X2_tryPay (l : Launch) (G : zk_G) (ad : Nat → Nat) (L : zL) (n t : Nat) (hI : sInv L n t) (c am : Int32) : zk_I (S := zL) l yX2_tryPay wsX2_tryPay rmX2_tryPay G [.ref (ad 0), .int c, .int am] (zb_L G ad L ++ zb_M G ad L) (fun r u => r = (if sfPay L c am = 0 then nI 1 else nI 0) ∧ u = (if sfPay L c am = 0 then sPay L c.toNatClampNeg am else L)) (fun u => zb_L G ad u ++ zb_M G ad u) := by
  refine zk_bodyI (cc := cX2_tryPay) (maxL := 3) (ret := (some .boolean)) (by decide) rfl (Nat.le_of_ble_eq_true rfl) ?_
  intro p E0 s m args below meth cd A ls Q hF hQ
  obtain ⟨hx, hb, hml, hr, hts, hown, hlocks, -, hE, hP, hD, hS, hA, hA0, hl⟩ := hF
  have hK := hE.1
  have hl : lv_has ls 3 [(0, .ref (ad 0)), (1, .int c), (2, .int am)] := hl
  obtain ⟨hn, hn12, ht, ht40, hfam, hpay⟩ := id hI
  refine lv_aload_n hx hb dX2_tryPay_0 rfl (lv_at hl 0 rfl) ?_
  refine lv_iload_n hx hb dX2_tryPay_1 rfl (lv_at hl 1 rfl) ?_
  refine lv_iload_n hx hb dX2_tryPay_2 rfl (lv_at hl 2 rfl) ?_
  have hP0 : va_P G.1 vwCl ((zb_L G ad L ++ zb_M G ad L) ++ ([] : va_W)) s.heap := by rw [List.append_nil]; exact hP
  have hD0 : va_D A ((zb_L G ad L ++ zb_M G ad L) ++ ([] : va_W)) := by rw [List.append_nil]; exact hD
  refine zk_callI (wr := ([] : va_W)) (va_runV (As := [.int c, .int am]) (rest := []) ⟨hx, hb, hml, hown, hts⟩ (c_X2_faultOfPay l G ad L n t hI c am _) (cwV 2 hts gX2_tryPay_X2_faultOfPay rfl rfl rfl (by decide +kernel) ⟨Nat.le_of_ble_eq_true rfl, Nat.le_of_ble_eq_true rfl⟩) (zk_preV hE hA0 hS (zk_Papp hP0).1 (zk_Dapp hD0).1 (va_recv hK hP (ci := 1) (q0 := 0) rfl rfl)) rfl rfl hl.1 rfl (lv_room (Nat.le_of_ble_eq_true rfl)) dX2_tryPay_3 ⟨Nat.le_of_ble_eq_true rfl, Nat.le_of_ble_eq_true rfl⟩) hP0 hD0 hS hA (fun r1 u2 H locs q3 hP hD hS => ?_)
  subst q3
  rw [List.append_nil] at hP hD
  have hP : va_P G.1 vwCl (zb_L G ad L ++ zb_M G ad L) H := hP
  have hD : va_D A (zb_L G ad L ++ zb_M G ad L) := hD
  refine lv_if_eq (tgt := 11) hx hb dX2_tryPay_6 (by decide) (fun h6_3 => ?_) (fun h6_3 => ?_)
  · have hz := sfPay_0 h6_3
    obtain ⟨ck, hck, eck⟩ := sHas_nat hI hz
    subst eck
    have nck := nI_clamp (show ck < 2 ^ 31 by omega)
    refine lv_aload_n hx hb dX2_tryPay_11 rfl (lv_at hl 0 rfl) ?_
    refine lv_iload_n hx hb dX2_tryPay_12 rfl (lv_at hl 1 rfl) ?_
    refine lv_iload_n hx hb dX2_tryPay_13 rfl (lv_at hl 2 rfl) ?_
    have hP0 : va_P G.1 vwCl ((zb_L G ad L ++ zb_M G ad L) ++ ([] : va_W)) H := by rw [List.append_nil]; exact hP
    have hD0 : va_D A ((zb_L G ad L ++ zb_M G ad L) ++ ([] : va_W)) := by rw [List.append_nil]; exact hD
    refine zk_callI (wr := ([] : va_W)) (va_runV (As := [.int (nI ck), .int am]) (rest := []) ⟨hx, hb, hml, hown, hts⟩ (c_X2_payIn l G ad L n t hI ck am (by omega) _) (cwV 2 hts gX2_tryPay_X2_payIn rfl rfl rfl (by decide +kernel) ⟨Nat.le_of_ble_eq_true rfl, Nat.le_of_ble_eq_true rfl⟩) (zk_preV hE hA0 hS (zk_Papp hP0).1 (zk_Dapp hD0).1 (va_recv hK hP (ci := 1) (q0 := 0) rfl rfl)) rfl rfl hl.1 rfl (lv_room (Nat.le_of_ble_eq_true rfl)) dX2_tryPay_14 ⟨Nat.le_of_ble_eq_true rfl, Nat.le_of_ble_eq_true rfl⟩) hP0 hD0 hS hA (fun r5 u6 H locs q7 hP hD hS => ?_)
    obtain ⟨er5, eL8⟩ := q7
    rw [List.append_nil] at hP hD
    have hP : va_P G.1 vwCl (zb_L G ad u6 ++ zb_M G ad u6) H := hP
    have hD : va_D A (zb_L G ad u6 ++ zb_M G ad u6) := hD
    refine lv_pop hx hb dX2_tryPay_17 rfl ?_
    refine lv_iconst (v := nI 1) hx hb dX2_tryPay_18 (by decide) ?_
    exact zk_retz u6 hQ hx hb hr hlocks hS hP hD (Nat.le_of_ble_eq_true rfl) (Nat.le_of_ble_eq_true rfl) dX2_tryPay_19 (rfl) (by rw [if_pos h6_3, if_pos h6_3]; exact ⟨rfl, by rw [eL8, nck]⟩)
  · refine lv_iconst (v := nI 0) hx hb dX2_tryPay_9 (by decide) ?_
    exact zk_retz L hQ hx hb hr hlocks hS hP hD (Nat.le_of_ble_eq_true rfl) (Nat.le_of_ble_eq_true rfl) dX2_tryPay_10 (rfl) (by rw [if_neg h6_3, if_neg h6_3]; exact ⟨rfl, rfl⟩)

abbrev rmX2_tryShare : Room := { frames := 2, cells := 0, slots := 0, locals := 45 }
set_option maxHeartbeats 4000000 in
set_option maxRecDepth 100000 in
/-- sharing, if it can be -/
theorem c_X2_tryShare (l : Launch) (G : zk_G) (ad : Nat → Nat) (L : zL) (n t : Nat) (hI : sInv L n t) (f b : Int32) : zk_I (S := zL) l yX2_tryShare wsX2_tryShare rmX2_tryShare G [.ref (ad 0), .int f, .int b] (zb_L G ad L ++ zb_M G ad L) (fun r u => r = (if sfShare f = 0 then nI 1 else nI 0) ∧ u = (if sfShare f = 0 then sShare L f.toNatClampNeg b else L)) (fun u => zb_L G ad u ++ zb_M G ad u) := by
  refine zk_bodyI (cc := cX2_tryShare) (maxL := 3) (ret := (some .boolean)) (by decide) rfl (Nat.le_of_ble_eq_true rfl) ?_
  intro p E0 s m args below meth cd A ls Q hF hQ
  obtain ⟨hx, hb, hml, hr, hts, hown, hlocks, -, hE, hP, hD, hS, hA, hA0, hl⟩ := hF
  have hK := hE.1
  have hl : lv_has ls 3 [(0, .ref (ad 0)), (1, .int f), (2, .int b)] := hl
  obtain ⟨hn, hn12, ht, ht40, hfam, hpay⟩ := id hI
  refine lv_aload_n hx hb dX2_tryShare_0 rfl (lv_at hl 0 rfl) ?_
  refine lv_iload_n hx hb dX2_tryShare_1 rfl (lv_at hl 1 rfl) ?_
  have hP0 : va_P G.1 vwCl ((zb_L G ad L ++ zb_M G ad L) ++ ([] : va_W)) s.heap := by rw [List.append_nil]; exact hP
  have hD0 : va_D A ((zb_L G ad L ++ zb_M G ad L) ++ ([] : va_W)) := by rw [List.append_nil]; exact hD
  refine zk_callI (wr := ([] : va_W)) (va_runV (As := [.int f]) (rest := []) ⟨hx, hb, hml, hown, hts⟩ (c_X2_faultOfShare l G ad L n t hI f _) (cwV 1 hts gX2_tryShare_X2_faultOfShare rfl rfl rfl (by decide +kernel) ⟨Nat.le_of_ble_eq_true rfl, Nat.le_of_ble_eq_true rfl⟩) (zk_preV hE hA0 hS (zk_Papp hP0).1 (zk_Dapp hD0).1 (va_recv hK hP (ci := 1) (q0 := 0) rfl rfl)) rfl rfl hl.1 rfl (lv_room (Nat.le_of_ble_eq_true rfl)) dX2_tryShare_2 ⟨Nat.le_of_ble_eq_true rfl, Nat.le_of_ble_eq_true rfl⟩) hP0 hD0 hS hA (fun r1 u2 H locs q3 hP hD hS => ?_)
  subst q3
  rw [List.append_nil] at hP hD
  have hP : va_P G.1 vwCl (zb_L G ad L ++ zb_M G ad L) H := hP
  have hD : va_D A (zb_L G ad L ++ zb_M G ad L) := hD
  refine lv_if_eq (tgt := 10) hx hb dX2_tryShare_5 (by decide) (fun h5_3 => ?_) (fun h5_3 => ?_)
  · have hz := sfShare_0 h5_3
    obtain ⟨fk, hfk, efk⟩ := sFam_nat hz
    subst efk
    have nfk := nI_clamp (show fk < 2 ^ 31 by omega)
    refine lv_aload_n hx hb dX2_tryShare_10 rfl (lv_at hl 0 rfl) ?_
    refine lv_iload_n hx hb dX2_tryShare_11 rfl (lv_at hl 1 rfl) ?_
    refine lv_iload_n hx hb dX2_tryShare_12 rfl (lv_at hl 2 rfl) ?_
    have hP0 : va_P G.1 vwCl ((zb_L G ad L ++ zb_M G ad L) ++ ([] : va_W)) H := by rw [List.append_nil]; exact hP
    have hD0 : va_D A ((zb_L G ad L ++ zb_M G ad L) ++ ([] : va_W)) := by rw [List.append_nil]; exact hD
    refine zk_callI (wr := ([] : va_W)) (va_runV (As := [.int (nI fk), .int b]) (rest := []) ⟨hx, hb, hml, hown, hts⟩ (c_X2_changeSharing l G ad L n t hI fk b (by omega) _) (cwV 2 hts gX2_tryShare_X2_changeSharing rfl rfl rfl (by decide +kernel) ⟨Nat.le_of_ble_eq_true rfl, Nat.le_of_ble_eq_true rfl⟩) (zk_preV hE hA0 hS (zk_Papp hP0).1 (zk_Dapp hD0).1 (va_recv hK hP (ci := 1) (q0 := 0) rfl rfl)) rfl rfl hl.1 rfl (lv_room (Nat.le_of_ble_eq_true rfl)) dX2_tryShare_13 ⟨Nat.le_of_ble_eq_true rfl, Nat.le_of_ble_eq_true rfl⟩) hP0 hD0 hS hA (fun r5 u6 H locs q7 hP hD hS => ?_)
    obtain ⟨er5, eL8⟩ := q7
    rw [List.append_nil] at hP hD
    have hP : va_P G.1 vwCl (zb_L G ad u6 ++ zb_M G ad u6) H := hP
    have hD : va_D A (zb_L G ad u6 ++ zb_M G ad u6) := hD
    refine lv_pop hx hb dX2_tryShare_16 rfl ?_
    refine lv_iconst (v := nI 1) hx hb dX2_tryShare_17 (by decide) ?_
    exact zk_retz u6 hQ hx hb hr hlocks hS hP hD (Nat.le_of_ble_eq_true rfl) (Nat.le_of_ble_eq_true rfl) dX2_tryShare_18 (rfl) (by rw [if_pos h5_3, if_pos h5_3]; exact ⟨rfl, by rw [eL8, nfk]⟩)
  · refine lv_iconst (v := nI 0) hx hb dX2_tryShare_8 (by decide) ?_
    exact zk_retz L hQ hx hb hr hlocks hS hP hD (Nat.le_of_ble_eq_true rfl) (Nat.le_of_ble_eq_true rfl) dX2_tryShare_9 (rfl) (by rw [if_neg h5_3, if_neg h5_3]; exact ⟨rfl, rfl⟩)

abbrev rmX2_tryEntitle : Room := { frames := 4, cells := 0, slots := 0, locals := 94 }
set_option maxHeartbeats 4000000 in
set_option maxRecDepth 100000 in
/-- an entitlement, if it can be -/
theorem c_X2_tryEntitle (l : Launch) (G : zk_G) (ad : Nat → Nat) (L : zL) (n t : Nat) (hI : sInv L n t) (c fr to : Int32) : zk_I (S := zL) l yX2_tryEntitle wsX2_tryEntitle rmX2_tryEntitle G [.ref (ad 0), .int c, .int fr, .int to] (zb_L G ad L ++ zb_M G ad L) (fun r u => r = (if sfEnt L c fr to = 0 then nI 1 else nI 0) ∧ u = (if sfEnt L c fr to = 0 then sEntitle L t c.toNatClampNeg fr to else L)) (fun u => zb_L G ad u ++ zb_M G ad u) := by
  refine zk_bodyI (cc := cX2_tryEntitle) (maxL := 4) (ret := (some .boolean)) (by decide) rfl (Nat.le_of_ble_eq_true rfl) ?_
  intro p E0 s m args below meth cd A ls Q hF hQ
  obtain ⟨hx, hb, hml, hr, hts, hown, hlocks, -, hE, hP, hD, hS, hA, hA0, hl⟩ := hF
  have hK := hE.1
  have hl : lv_has ls 4 [(0, .ref (ad 0)), (1, .int c), (2, .int fr), (3, .int to)] := hl
  obtain ⟨hn, hn12, ht, ht40, hfam, hpay⟩ := id hI
  refine lv_aload_n hx hb dX2_tryEntitle_0 rfl (lv_at hl 0 rfl) ?_
  refine lv_iload_n hx hb dX2_tryEntitle_1 rfl (lv_at hl 1 rfl) ?_
  refine lv_iload_n hx hb dX2_tryEntitle_2 rfl (lv_at hl 2 rfl) ?_
  refine lv_iload_n hx hb dX2_tryEntitle_3 rfl (lv_at hl 3 rfl) ?_
  have hP0 : va_P G.1 vwCl ((zb_L G ad L ++ zb_M G ad L) ++ ([] : va_W)) s.heap := by rw [List.append_nil]; exact hP
  have hD0 : va_D A ((zb_L G ad L ++ zb_M G ad L) ++ ([] : va_W)) := by rw [List.append_nil]; exact hD
  refine zk_callI (wr := ([] : va_W)) (va_runV (As := [.int c, .int fr, .int to]) (rest := []) ⟨hx, hb, hml, hown, hts⟩ (c_X2_faultOfEntitle l G ad L n t hI c fr to _) (cwV 3 hts gX2_tryEntitle_X2_faultOfEntitle rfl rfl rfl (by decide +kernel) ⟨Nat.le_of_ble_eq_true rfl, Nat.le_of_ble_eq_true rfl⟩) (zk_preV hE hA0 hS (zk_Papp hP0).1 (zk_Dapp hD0).1 (va_recv hK hP (ci := 1) (q0 := 0) rfl rfl)) rfl rfl hl.1 rfl (lv_room (Nat.le_of_ble_eq_true rfl)) dX2_tryEntitle_4 ⟨Nat.le_of_ble_eq_true rfl, Nat.le_of_ble_eq_true rfl⟩) hP0 hD0 hS hA (fun r1 u2 H locs q3 hP hD hS => ?_)
  subst q3
  rw [List.append_nil] at hP hD
  have hP : va_P G.1 vwCl (zb_L G ad L ++ zb_M G ad L) H := hP
  have hD : va_D A (zb_L G ad L ++ zb_M G ad L) := hD
  refine lv_if_eq (tgt := 12) hx hb dX2_tryEntitle_7 (by decide) (fun h7_3 => ?_) (fun h7_3 => ?_)
  · have hz := sfEnt_0 h7_3
    obtain ⟨ck, hck, eck⟩ := sHas_nat hI hz.1
    subst eck
    have nck := nI_clamp (show ck < 2 ^ 31 by omega)
    refine lv_aload_n hx hb dX2_tryEntitle_12 rfl (lv_at hl 0 rfl) ?_
    refine lv_iload_n hx hb dX2_tryEntitle_13 rfl (lv_at hl 1 rfl) ?_
    refine lv_iload_n hx hb dX2_tryEntitle_14 rfl (lv_at hl 2 rfl) ?_
    refine lv_iload_n hx hb dX2_tryEntitle_15 rfl (lv_at hl 3 rfl) ?_
    have hP0 : va_P G.1 vwCl ((zb_L G ad L ++ zb_M G ad L) ++ ([] : va_W)) H := by rw [List.append_nil]; exact hP
    have hD0 : va_D A ((zb_L G ad L ++ zb_M G ad L) ++ ([] : va_W)) := by rw [List.append_nil]; exact hD
    refine zk_callI (wr := ([] : va_W)) (va_runV (As := [.int (nI ck), .int fr, .int to]) (rest := []) ⟨hx, hb, hml, hown, hts⟩ (c_X2_changeEntitlement l G ad L n t hI ck fr to (by omega) _) (cwV 3 hts gX2_tryEntitle_X2_changeEntitlement rfl rfl rfl (by decide +kernel) ⟨Nat.le_of_ble_eq_true rfl, Nat.le_of_ble_eq_true rfl⟩) (zk_preV hE hA0 hS (zk_Papp hP0).1 (zk_Dapp hD0).1 (va_recv hK hP (ci := 1) (q0 := 0) rfl rfl)) rfl rfl hl.1 rfl (lv_room (Nat.le_of_ble_eq_true rfl)) dX2_tryEntitle_16 ⟨Nat.le_of_ble_eq_true rfl, Nat.le_of_ble_eq_true rfl⟩) hP0 hD0 hS hA (fun r5 u6 H locs q7 hP hD hS => ?_)
    obtain ⟨er5, eL8⟩ := q7
    rw [List.append_nil] at hP hD
    have hP : va_P G.1 vwCl (zb_L G ad u6 ++ zb_M G ad u6) H := hP
    have hD : va_D A (zb_L G ad u6 ++ zb_M G ad u6) := hD
    have hI9 : sInv u6 n t := by rw [eL8]; exact sInv_entitle fr to hI (by omega) (by omega) _ (by omega)
    refine lv_pop hx hb dX2_tryEntitle_19 rfl ?_
    refine lv_iconst (v := nI 1) hx hb dX2_tryEntitle_20 (by decide) ?_
    exact zk_retz u6 hQ hx hb hr hlocks hS hP hD (Nat.le_of_ble_eq_true rfl) (Nat.le_of_ble_eq_true rfl) dX2_tryEntitle_21 (rfl) (by rw [if_pos h7_3, if_pos h7_3]; exact ⟨rfl, by rw [eL8, nck]⟩)
  · refine lv_iconst (v := nI 0) hx hb dX2_tryEntitle_10 (by decide) ?_
    exact zk_retz L hQ hx hb hr hlocks hS hP hD (Nat.le_of_ble_eq_true rfl) (Nat.le_of_ble_eq_true rfl) dX2_tryEntitle_11 (rfl) (by rw [if_neg h7_3, if_neg h7_3]; exact ⟨rfl, rfl⟩)

abbrev rmX2_tryWriteOff : Room := { frames := 2, cells := 0, slots := 0, locals := 46 }
set_option maxHeartbeats 4000000 in
set_option maxRecDepth 100000 in
/-- a debt is written off, if it can be -/
theorem c_X2_tryWriteOff (l : Launch) (G : zk_G) (ad : Nat → Nat) (L : zL) (n t : Nat) (hI : sInv L n t) (f : Int32) : zk_I (S := zL) l yX2_tryWriteOff wsX2_tryWriteOff rmX2_tryWriteOff G [.ref (ad 0), .int f] (zb_L G ad L ++ zb_M G ad L) (fun r u => r = (if sfOff L n f = 0 then nI 1 else nI 0) ∧ u = (if sfOff L n f = 0 then sWrite L n f.toNatClampNeg else L)) (fun u => zb_L G ad u ++ zb_M G ad u) := by
  refine zk_bodyI (cc := cX2_tryWriteOff) (maxL := 2) (ret := (some .boolean)) (by decide) rfl (Nat.le_of_ble_eq_true rfl) ?_
  intro p E0 s m args below meth cd A ls Q hF hQ
  obtain ⟨hx, hb, hml, hr, hts, hown, hlocks, -, hE, hP, hD, hS, hA, hA0, hl⟩ := hF
  have hK := hE.1
  have hl : lv_has ls 2 [(0, .ref (ad 0)), (1, .int f)] := hl
  obtain ⟨hn, hn12, ht, ht40, hfam, hpay⟩ := id hI
  refine lv_aload_n hx hb dX2_tryWriteOff_0 rfl (lv_at hl 0 rfl) ?_
  refine lv_iload_n hx hb dX2_tryWriteOff_1 rfl (lv_at hl 1 rfl) ?_
  have hP0 : va_P G.1 vwCl ((zb_L G ad L ++ zb_M G ad L) ++ ([] : va_W)) s.heap := by rw [List.append_nil]; exact hP
  have hD0 : va_D A ((zb_L G ad L ++ zb_M G ad L) ++ ([] : va_W)) := by rw [List.append_nil]; exact hD
  refine zk_callI (wr := ([] : va_W)) (va_runV (As := [.int f]) (rest := []) ⟨hx, hb, hml, hown, hts⟩ (c_X2_faultOfWriteOff l G ad L n t hI f _) (cwV 1 hts gX2_tryWriteOff_X2_faultOfWriteOff rfl rfl rfl (by decide +kernel) ⟨Nat.le_of_ble_eq_true rfl, Nat.le_of_ble_eq_true rfl⟩) (zk_preV hE hA0 hS (zk_Papp hP0).1 (zk_Dapp hD0).1 (va_recv hK hP (ci := 1) (q0 := 0) rfl rfl)) rfl rfl hl.1 rfl (lv_room (Nat.le_of_ble_eq_true rfl)) dX2_tryWriteOff_2 ⟨Nat.le_of_ble_eq_true rfl, Nat.le_of_ble_eq_true rfl⟩) hP0 hD0 hS hA (fun r1 u2 H locs q3 hP hD hS => ?_)
  subst q3
  rw [List.append_nil] at hP hD
  have hP : va_P G.1 vwCl (zb_L G ad L ++ zb_M G ad L) H := hP
  have hD : va_D A (zb_L G ad L ++ zb_M G ad L) := hD
  refine lv_if_eq (tgt := 10) hx hb dX2_tryWriteOff_5 (by decide) (fun h5_3 => ?_) (fun h5_3 => ?_)
  · have hz := sfOff_0 h5_3
    obtain ⟨fk, hfk, efk⟩ := sFam_nat hz.1
    subst efk
    have nfk := nI_clamp (show fk < 2 ^ 31 by omega)
    refine lv_aload_n hx hb dX2_tryWriteOff_10 rfl (lv_at hl 0 rfl) ?_
    refine lv_iload_n hx hb dX2_tryWriteOff_11 rfl (lv_at hl 1 rfl) ?_
    have hP0 : va_P G.1 vwCl ((zb_L G ad L ++ zb_M G ad L) ++ ([] : va_W)) H := by rw [List.append_nil]; exact hP
    have hD0 : va_D A ((zb_L G ad L ++ zb_M G ad L) ++ ([] : va_W)) := by rw [List.append_nil]; exact hD
    refine zk_callI (wr := ([] : va_W)) (va_runV (As := [.int (nI fk)]) (rest := []) ⟨hx, hb, hml, hown, hts⟩ (c_X2_writeDebtOff l G ad L n t hI fk (by omega) _) (cwV 1 hts gX2_tryWriteOff_X2_writeDebtOff rfl rfl rfl (by decide +kernel) ⟨Nat.le_of_ble_eq_true rfl, Nat.le_of_ble_eq_true rfl⟩) (zk_preV hE hA0 hS (zk_Papp hP0).1 (zk_Dapp hD0).1 (va_recv hK hP (ci := 1) (q0 := 0) rfl rfl)) rfl rfl hl.1 rfl (lv_room (Nat.le_of_ble_eq_true rfl)) dX2_tryWriteOff_12 ⟨Nat.le_of_ble_eq_true rfl, Nat.le_of_ble_eq_true rfl⟩) hP0 hD0 hS hA (fun r5 u6 H locs q7 hP hD hS => ?_)
    obtain ⟨er5, eL8⟩ := q7
    rw [List.append_nil] at hP hD
    have hP : va_P G.1 vwCl (zb_L G ad u6 ++ zb_M G ad u6) H := hP
    have hD : va_D A (zb_L G ad u6 ++ zb_M G ad u6) := hD
    refine lv_pop hx hb dX2_tryWriteOff_15 rfl ?_
    refine lv_iconst (v := nI 1) hx hb dX2_tryWriteOff_16 (by decide) ?_
    exact zk_retz u6 hQ hx hb hr hlocks hS hP hD (Nat.le_of_ble_eq_true rfl) (Nat.le_of_ble_eq_true rfl) dX2_tryWriteOff_17 (rfl) (by rw [if_pos h5_3, if_pos h5_3]; exact ⟨rfl, by rw [eL8, nfk]⟩)
  · refine lv_iconst (v := nI 0) hx hb dX2_tryWriteOff_8 (by decide) ?_
    exact zk_retz L hQ hx hb hr hlocks hS hP hD (Nat.le_of_ble_eq_true rfl) (Nat.le_of_ble_eq_true rfl) dX2_tryWriteOff_9 (rfl) (by rw [if_neg h5_3, if_neg h5_3]; exact ⟨rfl, rfl⟩)

abbrev rmX2_tryDays : Room := { frames := 4, cells := 0, slots := 0, locals := 93 }
set_option maxHeartbeats 4000000 in
set_option maxRecDepth 100000 in
/-- days go by, if they can -/
theorem c_X2_tryDays (l : Launch) (G : zk_G) (ad : Nat → Nat) (L : zL) (n t : Nat) (hI : sInv L n t) (k : Int32) : zk_I (S := zL) l yX2_tryDays wsX2_tryDays rmX2_tryDays G [.ref (ad 0), .int k] (zb_L G ad L ++ zb_M G ad L) (fun r u => r = (if sfDays t k = 0 then nI 1 else nI 0) ∧ u = (if sfDays t k = 0 then (sDays n t k.toNatClampNeg L).2 else L)) (fun u => zb_L G ad u ++ zb_M G ad u) := by
  refine zk_bodyI (cc := cX2_tryDays) (maxL := 2) (ret := (some .boolean)) (by decide) rfl (Nat.le_of_ble_eq_true rfl) ?_
  intro p E0 s m args below meth cd A ls Q hF hQ
  obtain ⟨hx, hb, hml, hr, hts, hown, hlocks, -, hE, hP, hD, hS, hA, hA0, hl⟩ := hF
  have hK := hE.1
  have hl : lv_has ls 2 [(0, .ref (ad 0)), (1, .int k)] := hl
  obtain ⟨hn, hn12, ht, ht40, hfam, hpay⟩ := id hI
  refine lv_aload_n hx hb dX2_tryDays_0 rfl (lv_at hl 0 rfl) ?_
  refine lv_iload_n hx hb dX2_tryDays_1 rfl (lv_at hl 1 rfl) ?_
  have hP0 : va_P G.1 vwCl ((zb_L G ad L ++ zb_M G ad L) ++ ([] : va_W)) s.heap := by rw [List.append_nil]; exact hP
  have hD0 : va_D A ((zb_L G ad L ++ zb_M G ad L) ++ ([] : va_W)) := by rw [List.append_nil]; exact hD
  refine zk_callI (wr := ([] : va_W)) (va_runV (As := [.int k]) (rest := []) ⟨hx, hb, hml, hown, hts⟩ (c_X2_faultOfDays l G ad L n t hI k _) (cwV 1 hts gX2_tryDays_X2_faultOfDays rfl rfl rfl (by decide +kernel) ⟨Nat.le_of_ble_eq_true rfl, Nat.le_of_ble_eq_true rfl⟩) (zk_preV hE hA0 hS (zk_Papp hP0).1 (zk_Dapp hD0).1 (va_recv hK hP (ci := 1) (q0 := 0) rfl rfl)) rfl rfl hl.1 rfl (lv_room (Nat.le_of_ble_eq_true rfl)) dX2_tryDays_2 ⟨Nat.le_of_ble_eq_true rfl, Nat.le_of_ble_eq_true rfl⟩) hP0 hD0 hS hA (fun r1 u2 H locs q3 hP hD hS => ?_)
  subst q3
  rw [List.append_nil] at hP hD
  have hP : va_P G.1 vwCl (zb_L G ad L ++ zb_M G ad L) H := hP
  have hD : va_D A (zb_L G ad L ++ zb_M G ad L) := hD
  refine lv_if_eq (tgt := 10) hx hb dX2_tryDays_5 (by decide) (fun h5_3 => ?_) (fun h5_3 => ?_)
  · have hz := sfDays_0 ht40 h5_3
    obtain ⟨kk, ekk, hkk1, hkk2⟩ := hz
    subst ekk
    have nkk := nI_clamp (show kk < 2 ^ 31 by omega)
    refine lv_aload_n hx hb dX2_tryDays_10 rfl (lv_at hl 0 rfl) ?_
    refine lv_iload_n hx hb dX2_tryDays_11 rfl (lv_at hl 1 rfl) ?_
    have hP0 : va_P G.1 vwCl ((zb_L G ad L ++ zb_M G ad L) ++ ([] : va_W)) H := by rw [List.append_nil]; exact hP
    have hD0 : va_D A ((zb_L G ad L ++ zb_M G ad L) ++ ([] : va_W)) := by rw [List.append_nil]; exact hD
    refine zk_callI (wr := ([] : va_W)) (va_runV (As := [.int (nI kk)]) (rest := []) ⟨hx, hb, hml, hown, hts⟩ (c_X2_passDays l G ad L n t hI kk (by omega) _) (cwV 1 hts gX2_tryDays_X2_passDays rfl rfl rfl (by decide +kernel) ⟨Nat.le_of_ble_eq_true rfl, Nat.le_of_ble_eq_true rfl⟩) (zk_preV hE hA0 hS (zk_Papp hP0).1 (zk_Dapp hD0).1 (va_recv hK hP (ci := 1) (q0 := 0) rfl rfl)) rfl rfl hl.1 rfl (lv_room (Nat.le_of_ble_eq_true rfl)) dX2_tryDays_12 ⟨Nat.le_of_ble_eq_true rfl, Nat.le_of_ble_eq_true rfl⟩) hP0 hD0 hS hA (fun r5 u6 H locs q7 hP hD hS => ?_)
    obtain ⟨er5, eL8⟩ := q7
    rw [List.append_nil] at hP hD
    have hP : va_P G.1 vwCl (zb_L G ad u6 ++ zb_M G ad u6) H := hP
    have hD : va_D A (zb_L G ad u6 ++ zb_M G ad u6) := hD
    have hI9 : sInv u6 n (t + kk) := by rw [eL8]; exact sInv_days hI _ (by omega)
    refine lv_pop hx hb dX2_tryDays_15 rfl ?_
    refine lv_iconst (v := nI 1) hx hb dX2_tryDays_16 (by decide) ?_
    exact zk_retz u6 hQ hx hb hr hlocks hS hP hD (Nat.le_of_ble_eq_true rfl) (Nat.le_of_ble_eq_true rfl) dX2_tryDays_17 (rfl) (by rw [if_pos h5_3, if_pos h5_3]; exact ⟨rfl, by rw [eL8, nkk]⟩)
  · refine lv_iconst (v := nI 0) hx hb dX2_tryDays_8 (by decide) ?_
    exact zk_retz L hQ hx hb hr hlocks hS hP hD (Nat.le_of_ble_eq_true rfl) (Nat.le_of_ble_eq_true rfl) dX2_tryDays_9 (rfl) (by rw [if_neg h5_3, if_neg h5_3]; exact ⟨rfl, rfl⟩)

abbrev rmX2_tryOtherOrder : Room := { frames := 6, cells := 0, slots := 0, locals := 134 }
set_option maxHeartbeats 4000000 in
set_option maxRecDepth 100000 in
/-- a meal is ordered, or not any more, if it can be -/
theorem c_X2_tryOtherOrder (l : Launch) (G : zk_G) (ad : Nat → Nat) (L : zL) (n t : Nat) (hI : sInv L n t) (c d : Int32) : zk_I (S := zL) l yX2_tryOtherOrder wsX2_tryOtherOrder rmX2_tryOtherOrder G [.ref (ad 0), .int c, .int d] (zb_L G ad L ++ zb_M G ad L) (fun r u => r = (if sfOrder L t c d = 0 then nI 1 else nI 0) ∧ u = (if sfOrder L t c d = 0 then sOrd L (c.toNatClampNeg * 40 + d.toNatClampNeg) (if L 9 (c.toNatClampNeg * 40 + d.toNatClampNeg) = 0 then nI 1 else nI 0) else L)) (fun u => zb_L G ad u ++ zb_M G ad u) := by
  refine zk_bodyI (cc := cX2_tryOtherOrder) (maxL := 3) (ret := (some .boolean)) (by decide) rfl (Nat.le_of_ble_eq_true rfl) ?_
  intro p E0 s m args below meth cd A ls Q hF hQ
  obtain ⟨hx, hb, hml, hr, hts, hown, hlocks, -, hE, hP, hD, hS, hA, hA0, hl⟩ := hF
  have hK := hE.1
  have hl : lv_has ls 3 [(0, .ref (ad 0)), (1, .int c), (2, .int d)] := hl
  obtain ⟨hn, hn12, ht, ht40, hfam, hpay⟩ := id hI
  have w8 := hts _ (List.mem_of_getElem? (l := wsX2_tryOtherOrder) (i := 8) (a := Cond.static yX5_isDay) rfl)
  have w9 := hts _ (List.mem_of_getElem? (l := wsX2_tryOtherOrder) (i := 9) (a := Cond.initialized RX5) rfl)
  have w1 := hts _ (List.mem_of_getElem? (l := wsX2_tryOtherOrder) (i := 1) (a := Cond.fieldLink RX2 39 "MealAccounts$Ledger" "meals" "LMealAccounts$Meals;") rfl)
  refine lv_aload_n hx hb dX2_tryOtherOrder_0 rfl (lv_at hl 0 rfl) ?_
  refine lv_iload_n hx hb dX2_tryOtherOrder_1 rfl (lv_at hl 1 rfl) ?_
  have hP0 : va_P G.1 vwCl ((zb_L G ad L ++ zb_M G ad L) ++ ([] : va_W)) s.heap := by rw [List.append_nil]; exact hP
  have hD0 : va_D A ((zb_L G ad L ++ zb_M G ad L) ++ ([] : va_W)) := by rw [List.append_nil]; exact hD
  refine zk_callI (wr := ([] : va_W)) (va_runV (As := [.int c]) (rest := []) ⟨hx, hb, hml, hown, hts⟩ (c_X2_hasChild l G ad L n t hI c _) (cwV 1 hts gX2_tryOtherOrder_X2_hasChild rfl rfl rfl (by decide +kernel) ⟨Nat.le_of_ble_eq_true rfl, Nat.le_of_ble_eq_true rfl⟩) (zk_preV hE hA0 hS (zk_Papp hP0).1 (zk_Dapp hD0).1 (va_recv hK hP (ci := 1) (q0 := 0) rfl rfl)) rfl rfl hl.1 rfl (lv_room (Nat.le_of_ble_eq_true rfl)) dX2_tryOtherOrder_2 ⟨Nat.le_of_ble_eq_true rfl, Nat.le_of_ble_eq_true rfl⟩) hP0 hD0 hS hA (fun r1 u2 H locs q3 hP hD hS => ?_)
  subst q3
  rw [List.append_nil] at hP hD
  have hP : va_P G.1 vwCl (zb_L G ad L ++ zb_M G ad L) H := hP
  have hD : va_D A (zb_L G ad L ++ zb_M G ad L) := hD
  refine lv_if_eq (tgt := 45) hx hb dX2_tryOtherOrder_5 (by decide) (fun h5_3 => ?_) (fun h5_3 => ?_)
  · have h5_3 := zk_b0 h5_3
    refine lv_iconst (v := nI 0) hx hb dX2_tryOtherOrder_45 (by decide) ?_
    exact zk_retz L hQ hx hb hr hlocks hS hP hD (Nat.le_of_ble_eq_true rfl) (Nat.le_of_ble_eq_true rfl) dX2_tryOtherOrder_46 (rfl) (by rw [if_neg (fun z => h5_3 (sfOrder_0 z).1), if_neg (fun z => h5_3 (sfOrder_0 z).1)]; exact ⟨rfl, rfl⟩)
  · have h5_3 := zk_b1 h5_3
    refine lv_iload_n hx hb dX2_tryOtherOrder_8 rfl (lv_at hl 2 rfl) ?_
    have hP0 : va_P G.1 vwCl (([] : va_W) ++ (zb_L G ad L ++ zb_M G ad L)) H := hP
    have hD0 : va_D A (([] : va_W) ++ (zb_L G ad L ++ zb_M G ad L)) := hD
    refine zk_callI (wr := zb_L G ad L ++ zb_M G ad L) (va_runSN (As := [.int d]) (rest := []) ⟨hx, hb, hml, hown, hts⟩ (c_X5_isDay l G d _) ⟨va_cnB 1 hts (ggX2_tryOtherOrder_X5_isDay) rfl rfl rfl hE.2.1.2.2.2.1 w9 (by decide +kernel) ⟨Nat.le_of_ble_eq_true rfl, Nat.le_of_ble_eq_true rfl⟩, w8, trivial⟩ (zk_preS hE hA0 hS (zk_Papp hP0).1 (zk_Dapp hD0).1) rfl rfl hl.1 rfl (lv_room (Nat.le_of_ble_eq_true rfl)) dX2_tryOtherOrder_9 ⟨Nat.le_of_ble_eq_true rfl, Nat.le_of_ble_eq_true rfl⟩) hP0 hD0 hS hA (fun r5 u6 H locs q7 hP hD hS => ?_)
    subst q7
    have hP : va_P G.1 vwCl (zb_L G ad L ++ zb_M G ad L) H := hP
    have hD : va_D A (zb_L G ad L ++ zb_M G ad L) := hD
    refine lv_if_eq (tgt := 45) hx hb dX2_tryOtherOrder_12 (by decide) (fun h12_7 => ?_) (fun h12_7 => ?_)
    · have h12_7 := zk_b0 h12_7
      refine lv_iconst (v := nI 0) hx hb dX2_tryOtherOrder_45 (by decide) ?_
      exact zk_retz L hQ hx hb hr hlocks hS hP hD (Nat.le_of_ble_eq_true rfl) (Nat.le_of_ble_eq_true rfl) dX2_tryOtherOrder_46 (rfl) (by rw [if_neg (fun z => h12_7 (sfOrder_0 z).2.1), if_neg (fun z => h12_7 (sfOrder_0 z).2.1)]; exact ⟨rfl, rfl⟩)
    · have h12_7 := zk_b1 h12_7
      obtain ⟨ck, hck, eck⟩ := sHas_nat hI h5_3
      obtain ⟨dk, hdk, edk⟩ := sDay_nat h12_7
      subst eck
      have nck := nI_clamp (show ck < 2 ^ 31 by omega)
      subst edk
      have ndk := nI_clamp (show dk < 2 ^ 31 by omega)
      refine lv_aload_n hx hb dX2_tryOtherOrder_15 rfl (lv_at hl 0 rfl) ?_
      refine lv_iload_n hx hb dX2_tryOtherOrder_16 rfl (lv_at hl 1 rfl) ?_
      refine lv_iload_n hx hb dX2_tryOtherOrder_17 rfl (lv_at hl 2 rfl) ?_
      refine lv_aload_n hx hb dX2_tryOtherOrder_18 rfl (lv_at hl 0 rfl) ?_
      refine va_get (D := G.1) (ci := 1) (v := .ref (ad 9)) (C := RX2) (T := TX2) (N := 14) hx hb hts (fun _ h => List.mem_cons_of_mem _ (List.mem_append_left _ (List.mem_append_right _ h))) hown hK hP 0 rfl rfl 13 (by decide) w1 (fun _ h9 => h9) rfl dX2_tryOtherOrder_19 ?_
      refine lv_iload_n hx hb dX2_tryOtherOrder_22 rfl (lv_at hl 1 rfl) ?_
      refine lv_iload_n hx hb dX2_tryOtherOrder_23 rfl (lv_at hl 2 rfl) ?_
      have hP0 : va_P G.1 vwCl (zb_M G ad L ++ zb_L G ad L) H := zk_Pperm hP List.perm_append_comm
      have hD0 : va_D A (zb_M G ad L ++ zb_L G ad L) := zk_Dperm hD List.perm_append_comm
      refine zk_callI (wr := zb_L G ad L) (va_runV (As := [.int (nI ck), .int (nI dk)]) (rest := [.int (nI dk), .int (nI ck), .ref (ad 0)]) ⟨hx, hb, hml, hown, hts⟩ (c_X3_kindOf l G ad L ck dk (by omega) (by omega) _) (cwV 2 hts gX2_tryOtherOrder_X3_kindOf rfl rfl rfl (by decide +kernel) ⟨Nat.le_of_ble_eq_true rfl, Nat.le_of_ble_eq_true rfl⟩) (zk_preV hE hA0 hS (zk_Papp hP0).1 (zk_Dapp hD0).1 (va_recv hK hP (ci := 2) (q0 := 9) rfl rfl)) rfl rfl hl.1 rfl (lv_room (Nat.le_of_ble_eq_true rfl)) dX2_tryOtherOrder_24 ⟨Nat.le_of_ble_eq_true rfl, Nat.le_of_ble_eq_true rfl⟩) hP0 hD0 hS hA (fun r9 u10 H locs q11 hP hD hS => ?_)
      subst q11
      have hP := zk_Pperm hP List.perm_append_comm
      have hD := zk_Dperm hD List.perm_append_comm
      have hP : va_P G.1 vwCl (zb_L G ad L ++ zb_M G ad L) H := hP
      have hD : va_D A (zb_L G ad L ++ zb_M G ad L) := hD
      refine lv_if_ne (tgt := 34) hx hb dX2_tryOtherOrder_27 (by decide) (fun h27_11 => ?_) (fun h27_11 => ?_)
      · refine lv_iconst (v := nI 0) hx hb dX2_tryOtherOrder_34 (by decide) ?_
        have hP0 : va_P G.1 vwCl ((zb_L G ad L ++ zb_M G ad L) ++ ([] : va_W)) H := by rw [List.append_nil]; exact hP
        have hD0 : va_D A ((zb_L G ad L ++ zb_M G ad L) ++ ([] : va_W)) := by rw [List.append_nil]; exact hD
        refine zk_callI (wr := ([] : va_W)) (va_runV (As := [.int (nI ck), .int (nI dk), .int (nI 0)]) (rest := []) ⟨hx, hb, hml, hown, hts⟩ (c_X2_tryOrder l G ad L n t hI (nI ck) (nI dk) (nI 0) _) (cwV 3 hts gX2_tryOtherOrder_X2_tryOrder rfl rfl rfl (by decide +kernel) ⟨Nat.le_of_ble_eq_true rfl, Nat.le_of_ble_eq_true rfl⟩) (zk_preV hE hA0 hS (zk_Papp hP0).1 (zk_Dapp hD0).1 (va_recv hK hP (ci := 1) (q0 := 0) rfl rfl)) rfl rfl hl.1 rfl (lv_room (Nat.le_of_ble_eq_true rfl)) dX2_tryOtherOrder_35 ⟨Nat.le_of_ble_eq_true rfl, Nat.le_of_ble_eq_true rfl⟩) hP0 hD0 hS hA (fun r13 u14 H locs q15 hP hD hS => ?_)
        obtain ⟨er13, eL16⟩ := q15
        subst er13
        rw [List.append_nil] at hP hD
        have hP : va_P G.1 vwCl (zb_L G ad u14 ++ zb_M G ad u14) H := hP
        have hD : va_D A (zb_L G ad u14 ++ zb_M G ad u14) := hD
        refine lv_if_eq (tgt := 45) hx hb dX2_tryOtherOrder_38 (by decide) (fun h38_16 => ?_) (fun h38_16 => ?_)
        · have h38_16 := zk_b0 h38_16
          refine lv_iconst (v := nI 0) hx hb dX2_tryOtherOrder_45 (by decide) ?_
          exact zk_retz u14 hQ hx hb hr hlocks hS hP hD (Nat.le_of_ble_eq_true rfl) (Nat.le_of_ble_eq_true rfl) dX2_tryOtherOrder_46 (rfl) (by rw [if_neg h38_16, if_neg h38_16]; rw [eL16, if_neg h38_16]; exact ⟨rfl, rfl⟩)
        · have h38_16 := zk_b1 h38_16
          refine lv_iconst (v := nI 1) hx hb dX2_tryOtherOrder_41 (by decide) ?_
          refine lv_goto (tgt := 46) hx hb dX2_tryOtherOrder_42 (by decide) ?_
          exact zk_retz u14 hQ hx hb hr hlocks hS hP hD (Nat.le_of_ble_eq_true rfl) (Nat.le_of_ble_eq_true rfl) dX2_tryOtherOrder_46 (rfl) (by rw [if_pos h38_16, if_pos h38_16]; rw [eL16, if_pos h38_16]; simp +decide [nck, ndk, h27_11])
      · refine lv_iconst (v := nI 1) hx hb dX2_tryOtherOrder_30 (by decide) ?_
        refine lv_goto (tgt := 35) hx hb dX2_tryOtherOrder_31 (by decide) ?_
        have hP0 : va_P G.1 vwCl ((zb_L G ad L ++ zb_M G ad L) ++ ([] : va_W)) H := by rw [List.append_nil]; exact hP
        have hD0 : va_D A ((zb_L G ad L ++ zb_M G ad L) ++ ([] : va_W)) := by rw [List.append_nil]; exact hD
        refine zk_callI (wr := ([] : va_W)) (va_runV (As := [.int (nI ck), .int (nI dk), .int (nI 1)]) (rest := []) ⟨hx, hb, hml, hown, hts⟩ (c_X2_tryOrder l G ad L n t hI (nI ck) (nI dk) (nI 1) _) (cwV 3 hts gX2_tryOtherOrder_X2_tryOrder rfl rfl rfl (by decide +kernel) ⟨Nat.le_of_ble_eq_true rfl, Nat.le_of_ble_eq_true rfl⟩) (zk_preV hE hA0 hS (zk_Papp hP0).1 (zk_Dapp hD0).1 (va_recv hK hP (ci := 1) (q0 := 0) rfl rfl)) rfl rfl hl.1 rfl (lv_room (Nat.le_of_ble_eq_true rfl)) dX2_tryOtherOrder_35 ⟨Nat.le_of_ble_eq_true rfl, Nat.le_of_ble_eq_true rfl⟩) hP0 hD0 hS hA (fun r18 u19 H locs q20 hP hD hS => ?_)
        obtain ⟨er18, eL21⟩ := q20
        subst er18
        rw [List.append_nil] at hP hD
        have hP : va_P G.1 vwCl (zb_L G ad u19 ++ zb_M G ad u19) H := hP
        have hD : va_D A (zb_L G ad u19 ++ zb_M G ad u19) := hD
        refine lv_if_eq (tgt := 45) hx hb dX2_tryOtherOrder_38 (by decide) (fun h38_21 => ?_) (fun h38_21 => ?_)
        · have h38_21 := zk_b0 h38_21
          refine lv_iconst (v := nI 0) hx hb dX2_tryOtherOrder_45 (by decide) ?_
          exact zk_retz u19 hQ hx hb hr hlocks hS hP hD (Nat.le_of_ble_eq_true rfl) (Nat.le_of_ble_eq_true rfl) dX2_tryOtherOrder_46 (rfl) (by rw [if_neg h38_21, if_neg h38_21]; rw [eL21, if_neg h38_21]; exact ⟨rfl, rfl⟩)
        · have h38_21 := zk_b1 h38_21
          refine lv_iconst (v := nI 1) hx hb dX2_tryOtherOrder_41 (by decide) ?_
          refine lv_goto (tgt := 46) hx hb dX2_tryOtherOrder_42 (by decide) ?_
          exact zk_retz u19 hQ hx hb hr hlocks hS hP hD (Nat.le_of_ble_eq_true rfl) (Nat.le_of_ble_eq_true rfl) dX2_tryOtherOrder_46 (rfl) (by rw [if_pos h38_21, if_pos h38_21]; rw [eL21, if_pos h38_21]; simp +decide [nck, ndk, h27_11])

abbrev rmX2_tryOtherSharing : Room := { frames := 3, cells := 0, slots := 0, locals := 67 }
set_option maxHeartbeats 4000000 in
set_option maxRecDepth 100000 in
/-- a family shares, or does not any more -/
theorem c_X2_tryOtherSharing (l : Launch) (G : zk_G) (ad : Nat → Nat) (L : zL) (n t : Nat) (hI : sInv L n t) (f : Int32) : zk_I (S := zL) l yX2_tryOtherSharing wsX2_tryOtherSharing rmX2_tryOtherSharing G [.ref (ad 0), .int f] (zb_L G ad L ++ zb_M G ad L) (fun r u => r = (if sFam f then nI 1 else nI 0) ∧ u = (if sFam f then sShare L f.toNatClampNeg (if L 7 f.toNatClampNeg = 0 then nI 1 else nI 0) else L)) (fun u => zb_L G ad u ++ zb_M G ad u) := by
  refine zk_bodyI (cc := cX2_tryOtherSharing) (maxL := 2) (ret := (some .boolean)) (by decide) rfl (Nat.le_of_ble_eq_true rfl) ?_
  intro p E0 s m args below meth cd A ls Q hF hQ
  obtain ⟨hx, hb, hml, hr, hts, hown, hlocks, -, hE, hP, hD, hS, hA, hA0, hl⟩ := hF
  have hK := hE.1
  have hl : lv_has ls 2 [(0, .ref (ad 0)), (1, .int f)] := hl
  obtain ⟨hn, hn12, ht, ht40, hfam, hpay⟩ := id hI
  have w2 := hts _ (List.mem_of_getElem? (l := wsX2_tryOtherSharing) (i := 2) (a := Cond.static yX5_isFamily) rfl)
  have w3 := hts _ (List.mem_of_getElem? (l := wsX2_tryOtherSharing) (i := 3) (a := Cond.initialized RX5) rfl)
  have w1 := hts _ (List.mem_of_getElem? (l := wsX2_tryOtherSharing) (i := 1) (a := Cond.fieldLink RX2 30 "MealAccounts$Ledger" "sharing" "[I") rfl)
  refine lv_iload_n hx hb dX2_tryOtherSharing_0 rfl (lv_at hl 1 rfl) ?_
  have hP0 : va_P G.1 vwCl (([] : va_W) ++ (zb_L G ad L ++ zb_M G ad L)) s.heap := hP
  have hD0 : va_D A (([] : va_W) ++ (zb_L G ad L ++ zb_M G ad L)) := hD
  refine zk_callI (wr := zb_L G ad L ++ zb_M G ad L) (va_runSN (As := [.int f]) (rest := []) ⟨hx, hb, hml, hown, hts⟩ (c_X5_isFamily l G f _) ⟨va_cnB 1 hts (ggX2_tryOtherSharing_X5_isFamily) rfl rfl rfl hE.2.1.2.2.1 w3 (by decide +kernel) ⟨Nat.le_of_ble_eq_true rfl, Nat.le_of_ble_eq_true rfl⟩, w2, trivial⟩ (zk_preS hE hA0 hS (zk_Papp hP0).1 (zk_Dapp hD0).1) rfl rfl hl.1 rfl (lv_room (Nat.le_of_ble_eq_true rfl)) dX2_tryOtherSharing_1 ⟨Nat.le_of_ble_eq_true rfl, Nat.le_of_ble_eq_true rfl⟩) hP0 hD0 hS hA (fun r1 u2 H locs q3 hP hD hS => ?_)
  subst q3
  have hP : va_P G.1 vwCl (zb_L G ad L ++ zb_M G ad L) H := hP
  have hD : va_D A (zb_L G ad L ++ zb_M G ad L) := hD
  refine lv_if_eq (tgt := 33) hx hb dX2_tryOtherSharing_4 (by decide) (fun h4_3 => ?_) (fun h4_3 => ?_)
  · have h4_3 := zk_b0 h4_3
    refine lv_iconst (v := nI 0) hx hb dX2_tryOtherSharing_33 (by decide) ?_
    exact zk_retz L hQ hx hb hr hlocks hS hP hD (Nat.le_of_ble_eq_true rfl) (Nat.le_of_ble_eq_true rfl) dX2_tryOtherSharing_34 (rfl) (by rw [if_neg h4_3, if_neg h4_3]; exact ⟨rfl, rfl⟩)
  · have h4_3 := zk_b1 h4_3
    obtain ⟨fk, hfk, efk⟩ := sFam_nat h4_3
    subst efk
    have nfk := nI_clamp (show fk < 2 ^ 31 by omega)
    refine lv_aload_n hx hb dX2_tryOtherSharing_7 rfl (lv_at hl 0 rfl) ?_
    refine lv_iload_n hx hb dX2_tryOtherSharing_8 rfl (lv_at hl 1 rfl) ?_
    refine lv_aload_n hx hb dX2_tryOtherSharing_9 rfl (lv_at hl 0 rfl) ?_
    refine va_get (D := G.1) (ci := 1) (v := .ref (ad 7)) (C := RX2) (T := TX2) (N := 14) hx hb hts (fun _ h => List.mem_cons_of_mem _ (List.mem_append_right _ h)) hown hK hP 0 rfl rfl 11 (by decide) w1 (fun _ h9 => h9) rfl dX2_tryOtherSharing_10 ?_
    refine lv_iload_n hx hb dX2_tryOtherSharing_13 rfl (lv_at hl 1 rfl) ?_
    refine zk_ialdN hx hb hK hP 7 0 rfl rfl (k := fk) (n := 5) (by omega) (by omega) dX2_tryOtherSharing_14 ?_
    refine lv_if_ne (tgt := 22) hx hb dX2_tryOtherSharing_15 (by decide) (fun h15_4 => ?_) (fun h15_4 => ?_)
    · refine lv_iconst (v := nI 0) hx hb dX2_tryOtherSharing_22 (by decide) ?_
      have hP0 : va_P G.1 vwCl ((zb_L G ad L ++ zb_M G ad L) ++ ([] : va_W)) H := by rw [List.append_nil]; exact hP
      have hD0 : va_D A ((zb_L G ad L ++ zb_M G ad L) ++ ([] : va_W)) := by rw [List.append_nil]; exact hD
      refine zk_callI (wr := ([] : va_W)) (va_runV (As := [.int (nI fk), .int (nI 0)]) (rest := []) ⟨hx, hb, hml, hown, hts⟩ (c_X2_tryShare l G ad L n t hI (nI fk) (nI 0) _) (cwV 2 hts gX2_tryOtherSharing_X2_tryShare rfl rfl rfl (by decide +kernel) ⟨Nat.le_of_ble_eq_true rfl, Nat.le_of_ble_eq_true rfl⟩) (zk_preV hE hA0 hS (zk_Papp hP0).1 (zk_Dapp hD0).1 (va_recv hK hP (ci := 1) (q0 := 0) rfl rfl)) rfl rfl hl.1 rfl (lv_room (Nat.le_of_ble_eq_true rfl)) dX2_tryOtherSharing_23 ⟨Nat.le_of_ble_eq_true rfl, Nat.le_of_ble_eq_true rfl⟩) hP0 hD0 hS hA (fun r6 u7 H locs q8 hP hD hS => ?_)
      obtain ⟨er6, eL9⟩ := q8
      subst er6
      rw [List.append_nil] at hP hD
      have hP : va_P G.1 vwCl (zb_L G ad u7 ++ zb_M G ad u7) H := hP
      have hD : va_D A (zb_L G ad u7 ++ zb_M G ad u7) := hD
      refine lv_if_eq (tgt := 33) hx hb dX2_tryOtherSharing_26 (by decide) (fun h26_9 => ?_) (fun h26_9 => ?_)
      · have h26_9 := zk_b0 h26_9
        refine lv_iconst (v := nI 0) hx hb dX2_tryOtherSharing_33 (by decide) ?_
        exact zk_retz u7 hQ hx hb hr hlocks hS hP hD (Nat.le_of_ble_eq_true rfl) (Nat.le_of_ble_eq_true rfl) dX2_tryOtherSharing_34 (rfl) (by exact absurd (show sfShare (nI fk) = 0 by unfold sfShare; exact if_neg (fun z => z h4_3)) h26_9)
      · have h26_9 := zk_b1 h26_9
        refine lv_iconst (v := nI 1) hx hb dX2_tryOtherSharing_29 (by decide) ?_
        refine lv_goto (tgt := 34) hx hb dX2_tryOtherSharing_30 (by decide) ?_
        exact zk_retz u7 hQ hx hb hr hlocks hS hP hD (Nat.le_of_ble_eq_true rfl) (Nat.le_of_ble_eq_true rfl) dX2_tryOtherSharing_34 (rfl) (by rw [if_pos h4_3, if_pos h4_3]; rw [eL9, if_pos h26_9]; simp +decide [nfk, h15_4])
    · refine lv_iconst (v := nI 1) hx hb dX2_tryOtherSharing_18 (by decide) ?_
      refine lv_goto (tgt := 23) hx hb dX2_tryOtherSharing_19 (by decide) ?_
      have hP0 : va_P G.1 vwCl ((zb_L G ad L ++ zb_M G ad L) ++ ([] : va_W)) H := by rw [List.append_nil]; exact hP
      have hD0 : va_D A ((zb_L G ad L ++ zb_M G ad L) ++ ([] : va_W)) := by rw [List.append_nil]; exact hD
      refine zk_callI (wr := ([] : va_W)) (va_runV (As := [.int (nI fk), .int (nI 1)]) (rest := []) ⟨hx, hb, hml, hown, hts⟩ (c_X2_tryShare l G ad L n t hI (nI fk) (nI 1) _) (cwV 2 hts gX2_tryOtherSharing_X2_tryShare rfl rfl rfl (by decide +kernel) ⟨Nat.le_of_ble_eq_true rfl, Nat.le_of_ble_eq_true rfl⟩) (zk_preV hE hA0 hS (zk_Papp hP0).1 (zk_Dapp hD0).1 (va_recv hK hP (ci := 1) (q0 := 0) rfl rfl)) rfl rfl hl.1 rfl (lv_room (Nat.le_of_ble_eq_true rfl)) dX2_tryOtherSharing_23 ⟨Nat.le_of_ble_eq_true rfl, Nat.le_of_ble_eq_true rfl⟩) hP0 hD0 hS hA (fun r11 u12 H locs q13 hP hD hS => ?_)
      obtain ⟨er11, eL14⟩ := q13
      subst er11
      rw [List.append_nil] at hP hD
      have hP : va_P G.1 vwCl (zb_L G ad u12 ++ zb_M G ad u12) H := hP
      have hD : va_D A (zb_L G ad u12 ++ zb_M G ad u12) := hD
      refine lv_if_eq (tgt := 33) hx hb dX2_tryOtherSharing_26 (by decide) (fun h26_14 => ?_) (fun h26_14 => ?_)
      · have h26_14 := zk_b0 h26_14
        refine lv_iconst (v := nI 0) hx hb dX2_tryOtherSharing_33 (by decide) ?_
        exact zk_retz u12 hQ hx hb hr hlocks hS hP hD (Nat.le_of_ble_eq_true rfl) (Nat.le_of_ble_eq_true rfl) dX2_tryOtherSharing_34 (rfl) (by exact absurd (show sfShare (nI fk) = 0 by unfold sfShare; exact if_neg (fun z => z h4_3)) h26_14)
      · have h26_14 := zk_b1 h26_14
        refine lv_iconst (v := nI 1) hx hb dX2_tryOtherSharing_29 (by decide) ?_
        refine lv_goto (tgt := 34) hx hb dX2_tryOtherSharing_30 (by decide) ?_
        exact zk_retz u12 hQ hx hb hr hlocks hS hP hD (Nat.le_of_ble_eq_true rfl) (Nat.le_of_ble_eq_true rfl) dX2_tryOtherSharing_34 (rfl) (by rw [if_pos h4_3, if_pos h4_3]; rw [eL14, if_pos h26_14]; simp +decide [nfk, h15_4])
