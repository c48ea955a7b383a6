abbrev rmX5_isFamily : Room := { frames := 0, cells := 0, slots := 0, locals := 0 }
set_option maxHeartbeats 4000000 in
set_option maxRecDepth 100000 in
/-- is there such a family -/
theorem c_X5_isFamily (l : Launch) (G : zk_G) (f : Int32) : zk_I (S := Unit) l yX5_isFamily wsX5_isFamily rmX5_isFamily G [.int f] ([]) (fun r _ => r = if sFam f then nI 1 else nI 0) (fun _ => []) := by
  refine zk_bodyI (cc := cX5_isFamily) (maxL := 1) (ret := (some .boolean)) (by decide) rfl (Nat.le_of_ble_eq_true rfl) ?_
  intro p E0 s m args below meth cd A ls Q hF hQ
  obtain ⟨hx, hb, hml, hr, hts, hown, hlocks, -, hE, hP, hD, hS, hA, hA0, hl⟩ := hF
  have hK := hE.1
  have hl : lv_has ls 1 [(0, .int f)] := hl
  refine lv_iload_n hx hb dX5_isFamily_0 rfl (lv_at hl 0 rfl) ?_
  refine lv_if_lt (tgt := 13) hx hb dX5_isFamily_1 (by decide) (fun h1_0 => ?_) (fun h1_0 => ?_)
  · refine lv_iconst (v := nI 0) hx hb dX5_isFamily_13 (by decide) ?_
    exact zk_retz () hQ hx hb hr hlocks hS hP hD (Nat.le_of_ble_eq_true rfl) (Nat.le_of_ble_eq_true rfl) dX5_isFamily_14 (rfl) (by simp +decide [zk_a0, h1_0])
  · refine lv_iload_n hx hb dX5_isFamily_4 rfl (lv_at hl 0 rfl) ?_
    refine lv_iconst (v := nI 5) hx hb dX5_isFamily_5 (by decide) ?_
    refine lv_icmp_ge (tgt := 13) hx hb dX5_isFamily_6 (by decide) (fun h6_1 => ?_) (fun h6_1 => ?_)
    · have h6_1 := zk_l1 h6_1
      refine lv_iconst (v := nI 0) hx hb dX5_isFamily_13 (by decide) ?_
      exact zk_retz () hQ hx hb hr hlocks hS hP hD (Nat.le_of_ble_eq_true rfl) (Nat.le_of_ble_eq_true rfl) dX5_isFamily_14 (rfl) (by simp +decide [zk_a0, h1_0, h6_1])
    · have h6_1 := zk_l2 h6_1
      refine lv_iconst (v := nI 1) hx hb dX5_isFamily_9 (by decide) ?_
      refine lv_goto (tgt := 14) hx hb dX5_isFamily_10 (by decide) ?_
      exact zk_retz () hQ hx hb hr hlocks hS hP hD (Nat.le_of_ble_eq_true rfl) (Nat.le_of_ble_eq_true rfl) dX5_isFamily_14 (rfl) (by simp +decide [zk_a0, h1_0, h6_1])

abbrev rmX5_isDay : Room := { frames := 0, cells := 0, slots := 0, locals := 0 }
set_option maxHeartbeats 4000000 in
set_option maxRecDepth 100000 in
/-- is there such a day -/
theorem c_X5_isDay (l : Launch) (G : zk_G) (d : Int32) : zk_I (S := Unit) l yX5_isDay wsX5_isDay rmX5_isDay G [.int d] ([]) (fun r _ => r = if sDay d then nI 1 else nI 0) (fun _ => []) := by
  refine zk_bodyI (cc := cX5_isDay) (maxL := 1) (ret := (some .boolean)) (by decide) rfl (Nat.le_of_ble_eq_true rfl) ?_
  intro p E0 s m args below meth cd A ls Q hF hQ
  obtain ⟨hx, hb, hml, hr, hts, hown, hlocks, -, hE, hP, hD, hS, hA, hA0, hl⟩ := hF
  have hK := hE.1
  have hl : lv_has ls 1 [(0, .int d)] := hl
  refine lv_iload_n hx hb dX5_isDay_0 rfl (lv_at hl 0 rfl) ?_
  refine lv_if_lt (tgt := 14) hx hb dX5_isDay_1 (by decide) (fun h1_0 => ?_) (fun h1_0 => ?_)
  · refine lv_iconst (v := nI 0) hx hb dX5_isDay_14 (by decide) ?_
    exact zk_retz () hQ hx hb hr hlocks hS hP hD (Nat.le_of_ble_eq_true rfl) (Nat.le_of_ble_eq_true rfl) dX5_isDay_15 (rfl) (by simp +decide [zk_a0, h1_0])
  · refine lv_iload_n hx hb dX5_isDay_4 rfl (lv_at hl 0 rfl) ?_
    refine lv_bipush (v := nI 40) hx hb dX5_isDay_5 (by decide) ?_
    refine lv_icmp_ge (tgt := 14) hx hb dX5_isDay_7 (by decide) (fun h7_1 => ?_) (fun h7_1 => ?_)
    · have h7_1 := zk_l1 h7_1
      refine lv_iconst (v := nI 0) hx hb dX5_isDay_14 (by decide) ?_
      exact zk_retz () hQ hx hb hr hlocks hS hP hD (Nat.le_of_ble_eq_true rfl) (Nat.le_of_ble_eq_true rfl) dX5_isDay_15 (rfl) (by simp +decide [zk_a0, h1_0, h7_1])
    · have h7_1 := zk_l2 h7_1
      refine lv_iconst (v := nI 1) hx hb dX5_isDay_10 (by decide) ?_
      refine lv_goto (tgt := 15) hx hb dX5_isDay_11 (by decide) ?_
      exact zk_retz () hQ hx hb hr hlocks hS hP hD (Nat.le_of_ble_eq_true rfl) (Nat.le_of_ble_eq_true rfl) dX5_isDay_15 (rfl) (by simp +decide [zk_a0, h1_0, h7_1])

abbrev rmX2_hasChild : Room := { frames := 0, cells := 0, slots := 0, locals := 0 }
set_option maxHeartbeats 4000000 in
set_option maxRecDepth 100000 in
/-- is there such a child -/
theorem c_X2_hasChild (l : Launch) (G : zk_G) (ad : Nat → Nat) (L : zL) (n t : Nat) (hI : sInv L n t) (c : Int32) : zk_I (S := Unit) l yX2_hasChild wsX2_hasChild rmX2_hasChild G [.ref (ad 0), .int c] (zb_L G ad L ++ zb_M G ad L) (fun r _ => r = if sHas L c then nI 1 else nI 0) (fun _ => zb_L G ad L ++ zb_M G ad L) := by
  refine zk_bodyI (cc := cX2_hasChild) (maxL := 2) (ret := (some .boolean)) (by decide) rfl (Nat.le_of_ble_eq_true rfl) ?_
  intro p E0 s m args below meth cd A ls Q hF hQ
  obtain ⟨hx, hb, hml, hr, hts, hown, hlocks, -, hE, hP, hD, hS, hA, hA0, hl⟩ := hF
  have hK := hE.1
  have hl : lv_has ls 2 [(0, .ref (ad 0)), (1, .int c)] := hl
  obtain ⟨hn, hn12, ht, ht40, hfam, hpay⟩ := id hI
  have w1 := hts _ (List.mem_of_getElem? (l := wsX2_hasChild) (i := 1) (a := Cond.fieldLink RX2 53 "MealAccounts$Ledger" "children" "I") rfl)
  refine lv_iload_n hx hb dX2_hasChild_0 rfl (lv_at hl 1 rfl) ?_
  refine lv_if_lt (tgt := 16) hx hb dX2_hasChild_1 (by decide) (fun h1_0 => ?_) (fun h1_0 => ?_)
  · refine lv_iconst (v := nI 0) hx hb dX2_hasChild_16 (by decide) ?_
    exact zk_retz () hQ hx hb hr hlocks hS hP hD (Nat.le_of_ble_eq_true rfl) (Nat.le_of_ble_eq_true rfl) dX2_hasChild_17 (rfl) (by simp +decide [zk_a0, h1_0])
  · refine lv_iload_n hx hb dX2_hasChild_4 rfl (lv_at hl 1 rfl) ?_
    refine lv_aload_n hx hb dX2_hasChild_5 rfl (lv_at hl 0 rfl) ?_
    refine va_get (D := G.1) (ci := 1) (v := .int (L 0 1)) (C := RX2) (T := TX2) (N := 14) hx hb hts (fun _ h => List.mem_cons_of_mem _ (List.mem_append_right _ h)) hown hK hP 0 rfl rfl 1 (by decide) w1 (fun _ h9 => h9) rfl dX2_hasChild_6 ?_
    refine lv_icmp_ge (tgt := 16) hx hb dX2_hasChild_9 (by decide) (fun h9_1 => ?_) (fun h9_1 => ?_)
    · have h9_1 := zk_l1 h9_1
      refine lv_iconst (v := nI 0) hx hb dX2_hasChild_16 (by decide) ?_
      exact zk_retz () hQ hx hb hr hlocks hS hP hD (Nat.le_of_ble_eq_true rfl) (Nat.le_of_ble_eq_true rfl) dX2_hasChild_17 (rfl) (by simp +decide [zk_a0, h1_0, h9_1])
    · have h9_1 := zk_l2 h9_1
      refine lv_iconst (v := nI 1) hx hb dX2_hasChild_12 (by decide) ?_
      refine lv_goto (tgt := 17) hx hb dX2_hasChild_13 (by decide) ?_
      exact zk_retz () hQ hx hb hr hlocks hS hP hD (Nat.le_of_ble_eq_true rfl) (Nat.le_of_ble_eq_true rfl) dX2_hasChild_17 (rfl) (by simp +decide [zk_a0, h1_0, h9_1])

abbrev rmX2_daysLeft : Room := { frames := 0, cells := 0, slots := 0, locals := 0 }
set_option maxHeartbeats 4000000 in
set_option maxRecDepth 100000 in
/-- the days that are left -/
theorem c_X2_daysLeft (l : Launch) (G : zk_G) (ad : Nat → Nat) (L : zL) (n t : Nat) (hI : sInv L n t)  : zk_I (S := Unit) l yX2_daysLeft wsX2_daysLeft rmX2_daysLeft G [.ref (ad 0)] (zb_L G ad L ++ zb_M G ad L) (fun r _ => r = nI (40 - t)) (fun _ => zb_L G ad L ++ zb_M G ad L) := by
  refine zk_bodyI (cc := cX2_daysLeft) (maxL := 1) (ret := (some .int)) (by decide) rfl (Nat.le_of_ble_eq_true rfl) ?_
  intro p E0 s m args below meth cd A ls Q hF hQ
  obtain ⟨hx, hb, hml, hr, hts, hown, hlocks, -, hE, hP, hD, hS, hA, hA0, hl⟩ := hF
  have hK := hE.1
  have hl : lv_has ls 1 [(0, .ref (ad 0))] := hl
  obtain ⟨hn, hn12, ht, ht40, hfam, hpay⟩ := id hI
  have w1 := hts _ (List.mem_of_getElem? (l := wsX2_daysLeft) (i := 1) (a := Cond.fieldLink RX2 50 "MealAccounts$Ledger" "today" "I") rfl)
  refine lv_bipush (v := nI 40) hx hb dX2_daysLeft_0 (by decide) ?_
  refine lv_aload_n hx hb dX2_daysLeft_2 rfl (lv_at hl 0 rfl) ?_
  refine va_get (D := G.1) (ci := 1) (v := .int (L 0 0)) (C := RX2) (T := TX2) (N := 14) hx hb hts (fun _ h => List.mem_cons_of_mem _ (List.mem_append_right _ h)) hown hK hP 0 rfl rfl 0 (by decide) w1 (fun _ h9 => h9) rfl dX2_daysLeft_3 ?_
  refine zk_top hI.2.2.1 ?_
  refine zk_isubN hx hb dX2_daysLeft_6 (by omega) ?_
  exact zk_reti () hQ hx hb hr hlocks hS hP hD (Nat.le_of_ble_eq_true rfl) (Nat.le_of_ble_eq_true rfl) dX2_daysLeft_7 (rfl)

abbrev rmX2_childrenOf : Room := { frames := 0, cells := 0, slots := 0, locals := 0 }
set_option maxHeartbeats 4000000 in
set_option maxRecDepth 100000 in
/-- the children of a family -/
theorem c_X2_childrenOf (l : Launch) (G : zk_G) (ad : Nat → Nat) (L : zL) (n t : Nat) (hI : sInv L n t) (f : Int32) : zk_I (S := Unit) l yX2_childrenOf wsX2_childrenOf rmX2_childrenOf G [.ref (ad 0), .int f] (zb_L G ad L ++ zb_M G ad L) (fun r _ => r = zs (fun i => if L 1 i = f then nI 1 else nI 0) n) (fun _ => zb_L G ad L ++ zb_M G ad L) := by
  refine zk_bodyI (cc := cX2_childrenOf) (maxL := 4) (ret := (some .int)) (by decide) rfl (Nat.le_of_ble_eq_true rfl) ?_
  intro p E0 s m args below meth cd A ls Q hF hQ
  obtain ⟨hx, hb, hml, hr, hts, hown, hlocks, -, hE, hP, hD, hS, hA, hA0, hl⟩ := hF
  have hK := hE.1
  have hl : lv_has ls 4 [(0, .ref (ad 0)), (1, .int f)] := hl
  obtain ⟨hn, hn12, ht, ht40, hfam, hpay⟩ := id hI
  have w1 := hts _ (List.mem_of_getElem? (l := wsX2_childrenOf) (i := 1) (a := Cond.fieldLink RX2 53 "MealAccounts$Ledger" "children" "I") rfl)
  have w2 := hts _ (List.mem_of_getElem? (l := wsX2_childrenOf) (i := 2) (a := Cond.fieldLink RX2 9 "MealAccounts$Ledger" "familyOf" "[I") rfl)
  refine lv_iconst (v := nI 0) hx hb dX2_childrenOf_0 (by decide) ?_
  refine lv_istore_n (lv' := [(2, .int (nI 0)), (0, .ref (ad 0)), (1, .int f)]) hx hb dX2_childrenOf_1 rfl hl (by decide) rfl (fun ls hl => ?_)
  refine lv_iconst (v := nI 0) hx hb dX2_childrenOf_2 (by decide) ?_
  refine lv_istore_n (lv' := [(3, .int (nI 0)), (2, .int (nI 0)), (0, .ref (ad 0)), (1, .int f)]) hx hb dX2_childrenOf_3 rfl hl (by decide) rfl (fun ls hl => ?_)
  have lp1 : ∀ (n3 : Nat) (i : Nat) (x : Int32), n - i < n3 → (i ≤ n) → (x = zs (fun i => if L 1 i = f then nI 1 else nI 0) i) → ∀ (ls : Array Slot), lv_has ls 4 [(3, .int (nI i)), (2, .int x), (0, .ref (ad 0)), (1, .int f)] → W p l E0 rmX2_childrenOf s m args below meth cd s.heap [] 0 0 Q (F0 m 4 ls []) := by
    intro n3
    induction n3 with
    | zero => intro i x hz; exact absurd hz (Nat.not_lt_zero _)
    | succ n3 ih2 =>
      intro i x hm hi hq ls hl
      refine lv_iload_n hx hb dX2_childrenOf_4 rfl (lv_at hl 0 rfl) ?_
      refine lv_aload_n hx hb dX2_childrenOf_5 rfl (lv_at hl 2 rfl) ?_
      refine va_get (D := G.1) (ci := 1) (v := .int (L 0 1)) (C := RX2) (T := TX2) (N := 14) hx hb hts (fun _ h => List.mem_cons_of_mem _ (List.mem_append_right _ h)) hown hK hP 0 rfl rfl 1 (by decide) w1 (fun _ h9 => h9) rfl dX2_childrenOf_6 ?_
      refine zk_top hI.1 ?_
      refine lv_icmp_ge (tgt := 31) hx hb dX2_childrenOf_9 (by decide) (fun h9_3 => ?_) (fun h9_3 => ?_)
      · have h9_3 := zk_le (by omega) (by omega) h9_3
        refine lv_iload_n hx hb dX2_childrenOf_31 rfl (lv_at hl 1 rfl) ?_
        exact zk_reti () hQ hx hb hr hlocks hS hP hD (Nat.le_of_ble_eq_true rfl) (Nat.le_of_ble_eq_true rfl) dX2_childrenOf_32 (by rw [hq, show i = n by omega])
      · have h9_3 := zk_nle (by omega) (by omega) h9_3
        refine lv_aload_n hx hb dX2_childrenOf_12 rfl (lv_at hl 2 rfl) ?_
        refine va_get (D := G.1) (ci := 1) (v := .ref (ad 1)) (C := RX2) (T := TX2) (N := 14) hx hb hts (fun _ h => List.mem_cons_of_mem _ (List.mem_append_right _ h)) hown hK hP 0 rfl rfl 5 (by decide) w2 (fun _ h9 => h9) rfl dX2_childrenOf_13 ?_
        refine lv_iload_n hx hb dX2_childrenOf_16 rfl (lv_at hl 0 rfl) ?_
        refine zk_ialdN hx hb hK hP 1 0 rfl rfl (k := i) (n := 12) (by omega) (by omega) dX2_childrenOf_17 ?_
        refine lv_iload_n hx hb dX2_childrenOf_18 rfl (lv_at hl 3 rfl) ?_
        refine lv_icmp_ne (tgt := 25) hx hb dX2_childrenOf_19 (by decide) (fun h19_4 => ?_) (fun h19_4 => ?_)
        · refine lv_iinc (v := nI (i + 1)) (lv' := [(3, .int (nI (i + 1))), (2, .int x), (0, .ref (ad 0)), (1, .int f)]) hx hb dX2_childrenOf_25 hl (k := 0) rfl (zk_inc i 1) (by decide) rfl (fun ls hl => ?_)
          refine lv_goto (tgt := 4) hx hb dX2_childrenOf_28 (by decide) ?_
          exact ih2 (i + 1) x (by omega) (by omega) (by refine zs_i hq ?_; simp +decide [zk_a0, h9_3, h19_4]) ls (lv_sub hl [0, 1, 2, 3] rfl)
        · obtain ⟨x6, ex6⟩ : ∃ z : Int32, z = x + nI 1 := ⟨_, rfl⟩
          refine lv_iinc (v := x6) (lv' := [(2, .int x6), (3, .int (nI i)), (0, .ref (ad 0)), (1, .int f)]) hx hb dX2_childrenOf_22 hl (k := 1) rfl (by rw [ex6]; rfl) (by decide) rfl (fun ls hl => ?_)
          refine lv_iinc (v := nI (i + 1)) (lv' := [(3, .int (nI (i + 1))), (2, .int x6), (0, .ref (ad 0)), (1, .int f)]) hx hb dX2_childrenOf_25 hl (k := 1) rfl (zk_inc i 1) (by decide) rfl (fun ls hl => ?_)
          refine lv_goto (tgt := 4) hx hb dX2_childrenOf_28 (by decide) ?_
          exact ih2 (i + 1) x6 (by omega) (by omega) (by refine zs_i hq ?_; simp +decide [zk_a0, h9_3, h19_4, ex6]) ls (lv_sub hl [0, 1, 2, 3] rfl)
  exact lp1 _ 0 (nI 0) (Nat.lt_succ_self _) (by omega) (rfl) ls (lv_sub hl [0, 1, 2, 3] rfl)

abbrev rmX2_sumOfBalances : Room := { frames := 0, cells := 0, slots := 0, locals := 0 }
set_option maxHeartbeats 4000000 in
set_option maxRecDepth 100000 in
/-- the sum of the balances -/
theorem c_X2_sumOfBalances (l : Launch) (G : zk_G) (ad : Nat → Nat) (L : zL) (n t : Nat) (hI : sInv L n t)  : zk_I (S := Unit) l yX2_sumOfBalances wsX2_sumOfBalances rmX2_sumOfBalances G [.ref (ad 0)] (zb_L G ad L ++ zb_M G ad L) (fun r _ => r = zs (L 3) n) (fun _ => zb_L G ad L ++ zb_M G ad L) := by
  refine zk_bodyI (cc := cX2_sumOfBalances) (maxL := 3) (ret := (some .int)) (by decide) rfl (Nat.le_of_ble_eq_true rfl) ?_
  intro p E0 s m args below meth cd A ls Q hF hQ
  obtain ⟨hx, hb, hml, hr, hts, hown, hlocks, -, hE, hP, hD, hS, hA, hA0, hl⟩ := hF
  have hK := hE.1
  have hl : lv_has ls 3 [(0, .ref (ad 0))] := hl
  obtain ⟨hn, hn12, ht, ht40, hfam, hpay⟩ := id hI
  have w1 := hts _ (List.mem_of_getElem? (l := wsX2_sumOfBalances) (i := 1) (a := Cond.fieldLink RX2 53 "MealAccounts$Ledger" "children" "I") rfl)
  have w2 := hts _ (List.mem_of_getElem? (l := wsX2_sumOfBalances) (i := 2) (a := Cond.fieldLink RX2 18 "MealAccounts$Ledger" "balanceOf" "[I") rfl)
  refine lv_iconst (v := nI 0) hx hb dX2_sumOfBalances_0 (by decide) ?_
  refine lv_istore_n (lv' := [(1, .int (nI 0)), (0, .ref (ad 0))]) hx hb dX2_sumOfBalances_1 rfl hl (by decide) rfl (fun ls hl => ?_)
  refine lv_iconst (v := nI 0) hx hb dX2_sumOfBalances_2 (by decide) ?_
  refine lv_istore_n (lv' := [(2, .int (nI 0)), (1, .int (nI 0)), (0, .ref (ad 0))]) hx hb dX2_sumOfBalances_3 rfl hl (by decide) rfl (fun ls hl => ?_)
  have lp1 : ∀ (n3 : Nat) (i : Nat) (x : Int32), n - i < n3 → (i ≤ n) → (x = zs (L 3) i) → ∀ (ls : Array Slot), lv_has ls 3 [(2, .int (nI i)), (1, .int x), (0, .ref (ad 0))] → W p l E0 rmX2_sumOfBalances s m args below meth cd s.heap [] 0 0 Q (F0 m 4 ls []) := by
    intro n3
    induction n3 with
    | zero => intro i x hz; exact absurd hz (Nat.not_lt_zero _)
    | succ n3 ih2 =>
      intro i x hm hi hq ls hl
      refine lv_iload_n hx hb dX2_sumOfBalances_4 rfl (lv_at hl 0 rfl) ?_
      refine lv_aload_n hx hb dX2_sumOfBalances_5 rfl (lv_at hl 2 rfl) ?_
      refine va_get (D := G.1) (ci := 1) (v := .int (L 0 1)) (C := RX2) (T := TX2) (N := 14) hx hb hts (fun _ h => List.mem_cons_of_mem _ (List.mem_append_right _ h)) hown hK hP 0 rfl rfl 1 (by decide) w1 (fun _ h9 => h9) rfl dX2_sumOfBalances_6 ?_
      refine zk_top hI.1 ?_
      refine lv_icmp_ge (tgt := 27) hx hb dX2_sumOfBalances_9 (by decide) (fun h9_3 => ?_) (fun h9_3 => ?_)
      · have h9_3 := zk_le (by omega) (by omega) h9_3
        refine lv_iload_n hx hb dX2_sumOfBalances_27 rfl (lv_at hl 1 rfl) ?_
        exact zk_reti () hQ hx hb hr hlocks hS hP hD (Nat.le_of_ble_eq_true rfl) (Nat.le_of_ble_eq_true rfl) dX2_sumOfBalances_28 (by rw [hq, show i = n by omega])
      · have h9_3 := zk_nle (by omega) (by omega) h9_3
        refine lv_iload_n hx hb dX2_sumOfBalances_12 rfl (lv_at hl 1 rfl) ?_
        refine lv_aload_n hx hb dX2_sumOfBalances_13 rfl (lv_at hl 2 rfl) ?_
        refine va_get (D := G.1) (ci := 1) (v := .ref (ad 3)) (C := RX2) (T := TX2) (N := 14) hx hb hts (fun _ h => List.mem_cons_of_mem _ (List.mem_append_right _ h)) hown hK hP 0 rfl rfl 7 (by decide) w2 (fun _ h9 => h9) rfl dX2_sumOfBalances_14 ?_
        refine lv_iload_n hx hb dX2_sumOfBalances_17 rfl (lv_at hl 0 rfl) ?_
        refine zk_ialdN hx hb hK hP 3 0 rfl rfl (k := i) (n := 12) (by omega) (by omega) dX2_sumOfBalances_18 ?_
        refine lv_iadd hx hb dX2_sumOfBalances_19 ?_
        refine lv_topi (fun x5 ex5 => ?_)
        refine lv_istore_n (lv' := [(1, .int x5), (2, .int (nI i)), (0, .ref (ad 0))]) hx hb dX2_sumOfBalances_20 rfl hl (by decide) rfl (fun ls hl => ?_)
        refine lv_iinc (v := nI (i + 1)) (lv' := [(2, .int (nI (i + 1))), (1, .int x5), (0, .ref (ad 0))]) hx hb dX2_sumOfBalances_21 hl (k := 1) rfl (zk_inc i 1) (by decide) rfl (fun ls hl => ?_)
        refine lv_goto (tgt := 4) hx hb dX2_sumOfBalances_24 (by decide) ?_
        exact ih2 (i + 1) x5 (by omega) (by omega) (by refine zs_i hq ?_; simp +decide [zk_a0, h9_3, ex5]) ls (lv_sub hl [0, 1, 2] rfl)
  exact lp1 _ 0 (nI 0) (Nat.lt_succ_self _) (by omega) (rfl) ls (lv_sub hl [0, 1, 2] rfl)

abbrev rmX2_sumOfBalancesOf : Room := { frames := 0, cells := 0, slots := 0, locals := 0 }
set_option maxHeartbeats 4000000 in
set_option maxRecDepth 100000 in
/-- the sum of a family's balances -/
theorem c_X2_sumOfBalancesOf (l : Launch) (G : zk_G) (ad : Nat → Nat) (L : zL) (n t : Nat) (hI : sInv L n t) (f : Int32) : zk_I (S := Unit) l yX2_sumOfBalancesOf wsX2_sumOfBalancesOf rmX2_sumOfBalancesOf G [.ref (ad 0), .int f] (zb_L G ad L ++ zb_M G ad L) (fun r _ => r = zs (fun i => if L 1 i = f then L 3 i else nI 0) n) (fun _ => zb_L G ad L ++ zb_M G ad L) := by
  refine zk_bodyI (cc := cX2_sumOfBalancesOf) (maxL := 4) (ret := (some .int)) (by decide) rfl (Nat.le_of_ble_eq_true rfl) ?_
  intro p E0 s m args below meth cd A ls Q hF hQ
  obtain ⟨hx, hb, hml, hr, hts, hown, hlocks, -, hE, hP, hD, hS, hA, hA0, hl⟩ := hF
  have hK := hE.1
  have hl : lv_has ls 4 [(0, .ref (ad 0)), (1, .int f)] := hl
  obtain ⟨hn, hn12, ht, ht40, hfam, hpay⟩ := id hI
  have w1 := hts _ (List.mem_of_getElem? (l := wsX2_sumOfBalancesOf) (i := 1) (a := Cond.fieldLink RX2 53 "MealAccounts$Ledger" "children" "I") rfl)
  have w2 := hts _ (List.mem_of_getElem? (l := wsX2_sumOfBalancesOf) (i := 2) (a := Cond.fieldLink RX2 9 "MealAccounts$Ledger" "familyOf" "[I") rfl)
  have w3 := hts _ (List.mem_of_getElem? (l := wsX2_sumOfBalancesOf) (i := 3) (a := Cond.fieldLink RX2 18 "MealAccounts$Ledger" "balanceOf" "[I") rfl)
  refine lv_iconst (v := nI 0) hx hb dX2_sumOfBalancesOf_0 (by decide) ?_
  refine lv_istore_n (lv' := [(2, .int (nI 0)), (0, .ref (ad 0)), (1, .int f)]) hx hb dX2_sumOfBalancesOf_1 rfl hl (by decide) rfl (fun ls hl => ?_)
  refine lv_iconst (v := nI 0) hx hb dX2_sumOfBalancesOf_2 (by decide) ?_
  refine lv_istore_n (lv' := [(3, .int (nI 0)), (2, .int (nI 0)), (0, .ref (ad 0)), (1, .int f)]) hx hb dX2_sumOfBalancesOf_3 rfl hl (by decide) rfl (fun ls hl => ?_)
  have lp1 : ∀ (n3 : Nat) (i : Nat) (x : Int32), n - i < n3 → (i ≤ n) → (x = zs (fun i => if L 1 i = f then L 3 i else nI 0) i) → ∀ (ls : Array Slot), lv_has ls 4 [(3, .int (nI i)), (2, .int x), (0, .ref (ad 0)), (1, .int f)] → W p l E0 rmX2_sumOfBalancesOf s m args below meth cd s.heap [] 0 0 Q (F0 m 4 ls []) := by
    intro n3
    induction n3 with
    | zero => intro i x hz; exact absurd hz (Nat.not_lt_zero _)
    | succ n3 ih2 =>
      intro i x hm hi hq ls hl
      refine lv_iload_n hx hb dX2_sumOfBalancesOf_4 rfl (lv_at hl 0 rfl) ?_
      refine lv_aload_n hx hb dX2_sumOfBalancesOf_5 rfl (lv_at hl 2 rfl) ?_
      refine va_get (D := G.1) (ci := 1) (v := .int (L 0 1)) (C := RX2) (T := TX2) (N := 14) hx hb hts (fun _ h => List.mem_cons_of_mem _ (List.mem_append_right _ h)) hown hK hP 0 rfl rfl 1 (by decide) w1 (fun _ h9 => h9) rfl dX2_sumOfBalancesOf_6 ?_
      refine zk_top hI.1 ?_
      refine lv_icmp_ge (tgt := 37) hx hb dX2_sumOfBalancesOf_9 (by decide) (fun h9_3 => ?_) (fun h9_3 => ?_)
      · have h9_3 := zk_le (by omega) (by omega) h9_3
        refine lv_iload_n hx hb dX2_sumOfBalancesOf_37 rfl (lv_at hl 1 rfl) ?_
        exact zk_reti () hQ hx hb hr hlocks hS hP hD (Nat.le_of_ble_eq_true rfl) (Nat.le_of_ble_eq_true rfl) dX2_sumOfBalancesOf_38 (by rw [hq, show i = n by omega])
      · have h9_3 := zk_nle (by omega) (by omega) h9_3
        refine lv_aload_n hx hb dX2_sumOfBalancesOf_12 rfl (lv_at hl 2 rfl) ?_
        refine va_get (D := G.1) (ci := 1) (v := .ref (ad 1)) (C := RX2) (T := TX2) (N := 14) hx hb hts (fun _ h => List.mem_cons_of_mem _ (List.mem_append_right _ h)) hown hK hP 0 rfl rfl 5 (by decide) w2 (fun _ h9 => h9) rfl dX2_sumOfBalancesOf_13 ?_
        refine lv_iload_n hx hb dX2_sumOfBalancesOf_16 rfl (lv_at hl 0 rfl) ?_
        refine zk_ialdN hx hb hK hP 1 0 rfl rfl (k := i) (n := 12) (by omega) (by omega) dX2_sumOfBalancesOf_17 ?_
        refine lv_iload_n hx hb dX2_sumOfBalancesOf_18 rfl (lv_at hl 3 rfl) ?_
        refine lv_icmp_ne (tgt := 31) hx hb dX2_sumOfBalancesOf_19 (by decide) (fun h19_4 => ?_) (fun h19_4 => ?_)
        · refine lv_iinc (v := nI (i + 1)) (lv' := [(3, .int (nI (i + 1))), (2, .int x), (0, .ref (ad 0)), (1, .int f)]) hx hb dX2_sumOfBalancesOf_31 hl (k := 0) rfl (zk_inc i 1) (by decide) rfl (fun ls hl => ?_)
          refine lv_goto (tgt := 4) hx hb dX2_sumOfBalancesOf_34 (by decide) ?_
          exact ih2 (i + 1) x (by omega) (by omega) (by refine zs_i hq ?_; simp +decide [zk_a0, h9_3, h19_4]) ls (lv_sub hl [0, 1, 2, 3] rfl)
        · refine lv_iload_n hx hb dX2_sumOfBalancesOf_22 rfl (lv_at hl 1 rfl) ?_
          refine lv_aload_n hx hb dX2_sumOfBalancesOf_23 rfl (lv_at hl 2 rfl) ?_
          refine va_get (D := G.1) (ci := 1) (v := .ref (ad 3)) (C := RX2) (T := TX2) (N := 14) hx hb hts (fun _ h => List.mem_cons_of_mem _ (List.mem_append_right _ h)) hown hK hP 0 rfl rfl 7 (by decide) w3 (fun _ h9 => h9) rfl dX2_sumOfBalancesOf_24 ?_
          refine lv_iload_n hx hb dX2_sumOfBalancesOf_27 rfl (lv_at hl 0 rfl) ?_
          refine zk_ialdN hx hb hK hP 3 0 rfl rfl (k := i) (n := 12) (by omega) (by omega) dX2_sumOfBalancesOf_28 ?_
          refine lv_iadd hx hb dX2_sumOfBalancesOf_29 ?_
          refine lv_topi (fun x6 ex6 => ?_)
          refine lv_istore_n (lv' := [(2, .int x6), (3, .int (nI i)), (0, .ref (ad 0)), (1, .int f)]) hx hb dX2_sumOfBalancesOf_30 rfl hl (by decide) rfl (fun ls hl => ?_)
          refine lv_iinc (v := nI (i + 1)) (lv' := [(3, .int (nI (i + 1))), (2, .int x6), (0, .ref (ad 0)), (1, .int f)]) hx hb dX2_sumOfBalancesOf_31 hl (k := 1) rfl (zk_inc i 1) (by decide) rfl (fun ls hl => ?_)
          refine lv_goto (tgt := 4) hx hb dX2_sumOfBalancesOf_34 (by decide) ?_
          exact ih2 (i + 1) x6 (by omega) (by omega) (by refine zs_i hq ?_; simp +decide [zk_a0, h9_3, h19_4, ex6]) ls (lv_sub hl [0, 1, 2, 3] rfl)
  exact lp1 _ 0 (nI 0) (Nat.lt_succ_self _) (by omega) (rfl) ls (lv_sub hl [0, 1, 2, 3] rfl)

abbrev rmX2_debtOf : Room := { frames := 0, cells := 0, slots := 0, locals := 0 }
set_option maxHeartbeats 4000000 in
set_option maxRecDepth 100000 in
/-- a family's debt -/
theorem c_X2_debtOf (l : Launch) (G : zk_G) (ad : Nat → Nat) (L : zL) (n t : Nat) (hI : sInv L n t) (f : Int32) : zk_I (S := Unit) l yX2_debtOf wsX2_debtOf rmX2_debtOf G [.ref (ad 0), .int f] (zb_L G ad L ++ zb_M G ad L) (fun r _ => r = zs (fun i => if L 1 i = f ∧ L 3 i < 0 then -(L 3 i) else nI 0) n) (fun _ => zb_L G ad L ++ zb_M G ad L) := by
  refine zk_bodyI (cc := cX2_debtOf) (maxL := 4) (ret := (some .int)) (by decide) rfl (Nat.le_of_ble_eq_true rfl) ?_
  intro p E0 s m args below meth cd A ls Q hF hQ
  obtain ⟨hx, hb, hml, hr, hts, hown, hlocks, -, hE, hP, hD, hS, hA, hA0, hl⟩ := hF
  have hK := hE.1
  have hl : lv_has ls 4 [(0, .ref (ad 0)), (1, .int f)] := hl
  obtain ⟨hn, hn12, ht, ht40, hfam, hpay⟩ := id hI
  have w1 := hts _ (List.mem_of_getElem? (l := wsX2_debtOf) (i := 1) (a := Cond.fieldLink RX2 53 "MealAccounts$Ledger" "children" "I") rfl)
  have w2 := hts _ (List.mem_of_getElem? (l := wsX2_debtOf) (i := 2) (a := Cond.fieldLink RX2 9 "MealAccounts$Ledger" "familyOf" "[I") rfl)
  have w3 := hts _ (List.mem_of_getElem? (l := wsX2_debtOf) (i := 3) (a := Cond.fieldLink RX2 18 "MealAccounts$Ledger" "balanceOf" "[I") rfl)
  refine lv_iconst (v := nI 0) hx hb dX2_debtOf_0 (by decide) ?_
  refine lv_istore_n (lv' := [(2, .int (nI 0)), (0, .ref (ad 0)), (1, .int f)]) hx hb dX2_debtOf_1 rfl hl (by decide) rfl (fun ls hl => ?_)
  refine lv_iconst (v := nI 0) hx hb dX2_debtOf_2 (by decide) ?_
  refine lv_istore_n (lv' := [(3, .int (nI 0)), (2, .int (nI 0)), (0, .ref (ad 0)), (1, .int f)]) hx hb dX2_debtOf_3 rfl hl (by decide) rfl (fun ls hl => ?_)
  have lp1 : ∀ (n3 : Nat) (i : Nat) (x : Int32), n - i < n3 → (i ≤ n) → (x = zs (fun i => if L 1 i = f ∧ L 3 i < 0 then -(L 3 i) else nI 0) i) → ∀ (ls : Array Slot), lv_has ls 4 [(3, .int (nI i)), (2, .int x), (0, .ref (ad 0)), (1, .int f)] → W p l E0 rmX2_debtOf s m args below meth cd s.heap [] 0 0 Q (F0 m 4 ls []) := by
    intro n3
    induction n3 with
    | zero => intro i x hz; exact absurd hz (Nat.not_lt_zero _)
    | succ n3 ih2 =>
      intro i x hm hi hq ls hl
      refine lv_iload_n hx hb dX2_debtOf_4 rfl (lv_at hl 0 rfl) ?_
      refine lv_aload_n hx hb dX2_debtOf_5 rfl (lv_at hl 2 rfl) ?_
      refine va_get (D := G.1) (ci := 1) (v := .int (L 0 1)) (C := RX2) (T := TX2) (N := 14) hx hb hts (fun _ h => List.mem_cons_of_mem _ (List.mem_append_right _ h)) hown hK hP 0 rfl rfl 1 (by decide) w1 (fun _ h9 => h9) rfl dX2_debtOf_6 ?_
      refine zk_top hI.1 ?_
      refine lv_icmp_ge (tgt := 46) hx hb dX2_debtOf_9 (by decide) (fun h9_3 => ?_) (fun h9_3 => ?_)
      · have h9_3 := zk_le (by omega) (by omega) h9_3
        refine lv_iload_n hx hb dX2_debtOf_46 rfl (lv_at hl 1 rfl) ?_
        exact zk_reti () hQ hx hb hr hlocks hS hP hD (Nat.le_of_ble_eq_true rfl) (Nat.le_of_ble_eq_true rfl) dX2_debtOf_47 (by rw [hq, show i = n by omega])
      · have h9_3 := zk_nle (by omega) (by omega) h9_3
        refine lv_aload_n hx hb dX2_debtOf_12 rfl (lv_at hl 2 rfl) ?_
        refine va_get (D := G.1) (ci := 1) (v := .ref (ad 1)) (C := RX2) (T := TX2) (N := 14) hx hb hts (fun _ h => List.mem_cons_of_mem _ (List.mem_append_right _ h)) hown hK hP 0 rfl rfl 5 (by decide) w2 (fun _ h9 => h9) rfl dX2_debtOf_13 ?_
        refine lv_iload_n hx hb dX2_debtOf_16 rfl (lv_at hl 0 rfl) ?_
        refine zk_ialdN hx hb hK hP 1 0 rfl rfl (k := i) (n := 12) (by omega) (by omega) dX2_debtOf_17 ?_
        refine lv_iload_n hx hb dX2_debtOf_18 rfl (lv_at hl 3 rfl) ?_
        refine lv_icmp_ne (tgt := 40) hx hb dX2_debtOf_19 (by decide) (fun h19_4 => ?_) (fun h19_4 => ?_)
        · refine lv_iinc (v := nI (i + 1)) (lv' := [(3, .int (nI (i + 1))), (2, .int x), (0, .ref (ad 0)), (1, .int f)]) hx hb dX2_debtOf_40 hl (k := 0) rfl (zk_inc i 1) (by decide) rfl (fun ls hl => ?_)
          refine lv_goto (tgt := 4) hx hb dX2_debtOf_43 (by decide) ?_
          exact ih2 (i + 1) x (by omega) (by omega) (by refine zs_i hq ?_; simp +decide [Int32.sub_eq_add_neg, zk_a0, h9_3, h19_4]) ls (lv_sub hl [0, 1, 2, 3] rfl)
        · refine lv_aload_n hx hb dX2_debtOf_22 rfl (lv_at hl 2 rfl) ?_
          refine va_get (D := G.1) (ci := 1) (v := .ref (ad 3)) (C := RX2) (T := TX2) (N := 14) hx hb hts (fun _ h => List.mem_cons_of_mem _ (List.mem_append_right _ h)) hown hK hP 0 rfl rfl 7 (by decide) w3 (fun _ h9 => h9) rfl dX2_debtOf_23 ?_
          refine lv_iload_n hx hb dX2_debtOf_26 rfl (lv_at hl 0 rfl) ?_
          refine zk_ialdN hx hb hK hP 3 0 rfl rfl (k := i) (n := 12) (by omega) (by omega) dX2_debtOf_27 ?_
          refine lv_if_ge (tgt := 40) hx hb dX2_debtOf_28 (by decide) (fun h28_5 => ?_) (fun h28_5 => ?_)
          · have h28_5 := zk_l1 h28_5
            refine lv_iinc (v := nI (i + 1)) (lv' := [(3, .int (nI (i + 1))), (2, .int x), (0, .ref (ad 0)), (1, .int f)]) hx hb dX2_debtOf_40 hl (k := 0) rfl (zk_inc i 1) (by decide) rfl (fun ls hl => ?_)
            refine lv_goto (tgt := 4) hx hb dX2_debtOf_43 (by decide) ?_
            exact ih2 (i + 1) x (by omega) (by omega) (by refine zs_i hq ?_; simp +decide [Int32.sub_eq_add_neg, zk_a0, h9_3, h19_4, h28_5]) ls (lv_sub hl [0, 1, 2, 3] rfl)
          · have h28_5 := zk_l2 h28_5
            refine lv_iload_n hx hb dX2_debtOf_31 rfl (lv_at hl 1 rfl) ?_
            refine lv_aload_n hx hb dX2_debtOf_32 rfl (lv_at hl 2 rfl) ?_
            refine va_get (D := G.1) (ci := 1) (v := .ref (ad 3)) (C := RX2) (T := TX2) (N := 14) hx hb hts (fun _ h => List.mem_cons_of_mem _ (List.mem_append_right _ h)) hown hK hP 0 rfl rfl 7 (by decide) w3 (fun _ h9 => h9) rfl dX2_debtOf_33 ?_
            refine lv_iload_n hx hb dX2_debtOf_36 rfl (lv_at hl 0 rfl) ?_
            refine zk_ialdN hx hb hK hP 3 0 rfl rfl (k := i) (n := 12) (by omega) (by omega) dX2_debtOf_37 ?_
            refine lv_isub hx hb dX2_debtOf_38 ?_
            refine lv_topi (fun x7 ex7 => ?_)
            refine lv_istore_n (lv' := [(2, .int x7), (3, .int (nI i)), (0, .ref (ad 0)), (1, .int f)]) hx hb dX2_debtOf_39 rfl hl (by decide) rfl (fun ls hl => ?_)
            refine lv_iinc (v := nI (i + 1)) (lv' := [(3, .int (nI (i + 1))), (2, .int x7), (0, .ref (ad 0)), (1, .int f)]) hx hb dX2_debtOf_40 hl (k := 1) rfl (zk_inc i 1) (by decide) rfl (fun ls hl => ?_)
            refine lv_goto (tgt := 4) hx hb dX2_debtOf_43 (by decide) ?_
            exact ih2 (i + 1) x7 (by omega) (by omega) (by refine zs_i hq ?_; simp +decide [Int32.sub_eq_add_neg, zk_a0, h9_3, h19_4, h28_5, ex7]) ls (lv_sub hl [0, 1, 2, 3] rfl)
  exact lp1 _ 0 (nI 0) (Nat.lt_succ_self _) (by omega) (rfl) ls (lv_sub hl [0, 1, 2, 3] rfl)

abbrev rmX2_writtenOffInAll : Room := { frames := 0, cells := 0, slots := 0, locals := 0 }
set_option maxHeartbeats 4000000 in
set_option maxRecDepth 100000 in
/-- what was written off in all -/
theorem c_X2_writtenOffInAll (l : Launch) (G : zk_G) (ad : Nat → Nat) (L : zL) (n t : Nat) (hI : sInv L n t)  : zk_I (S := Unit) l yX2_writtenOffInAll wsX2_writtenOffInAll rmX2_writtenOffInAll G [.ref (ad 0)] (zb_L G ad L ++ zb_M G ad L) (fun r _ => r = zs (L 8) 5) (fun _ => zb_L G ad L ++ zb_M G ad L) := by
  refine zk_bodyI (cc := cX2_writtenOffInAll) (maxL := 3) (ret := (some .int)) (by decide) rfl (Nat.le_of_ble_eq_true rfl) ?_
  intro p E0 s m args below meth cd A ls Q hF hQ
  obtain ⟨hx, hb, hml, hr, hts, hown, hlocks, -, hE, hP, hD, hS, hA, hA0, hl⟩ := hF
  have hK := hE.1
  have hl : lv_has ls 3 [(0, .ref (ad 0))] := hl
  obtain ⟨hn, hn12, ht, ht40, hfam, hpay⟩ := id hI
  have w1 := hts _ (List.mem_of_getElem? (l := wsX2_writtenOffInAll) (i := 1) (a := Cond.fieldLink RX2 33 "MealAccounts$Ledger" "writtenOffFor" "[I") rfl)
  refine lv_iconst (v := nI 0) hx hb dX2_writtenOffInAll_0 (by decide) ?_
  refine lv_istore_n (lv' := [(1, .int (nI 0)), (0, .ref (ad 0))]) hx hb dX2_writtenOffInAll_1 rfl hl (by decide) rfl (fun ls hl => ?_)
  refine lv_iconst (v := nI 0) hx hb dX2_writtenOffInAll_2 (by decide) ?_
  refine lv_istore_n (lv' := [(2, .int (nI 0)), (1, .int (nI 0)), (0, .ref (ad 0))]) hx hb dX2_writtenOffInAll_3 rfl hl (by decide) rfl (fun ls hl => ?_)
  have lp1 : ∀ (n3 : Nat) (i : Nat) (x : Int32), 5 - i < n3 → (i ≤ 5) → (x = zs (L 8) i) → ∀ (ls : Array Slot), lv_has ls 3 [(2, .int (nI i)), (1, .int x), (0, .ref (ad 0))] → W p l E0 rmX2_writtenOffInAll s m args below meth cd s.heap [] 0 0 Q (F0 m 4 ls []) := by
    intro n3
    induction n3 with
    | zero => intro i x hz; exact absurd hz (Nat.not_lt_zero _)
    | succ n3 ih2 =>
      intro i x hm hi hq ls hl
      refine lv_iload_n hx hb dX2_writtenOffInAll_4 rfl (lv_at hl 0 rfl) ?_
      refine lv_iconst (v := nI 5) hx hb dX2_writtenOffInAll_5 (by decide) ?_
      refine lv_icmp_ge (tgt := 24) hx hb dX2_writtenOffInAll_6 (by decide) (fun h6_3 => ?_) (fun h6_3 => ?_)
      · have h6_3 := zk_le (by omega) (by omega) h6_3
        refine lv_iload_n hx hb dX2_writtenOffInAll_24 rfl (lv_at hl 1 rfl) ?_
        exact zk_reti () hQ hx hb hr hlocks hS hP hD (Nat.le_of_ble_eq_true rfl) (Nat.le_of_ble_eq_true rfl) dX2_writtenOffInAll_25 (by rw [hq, show i = 5 by omega])
      · have h6_3 := zk_nle (by omega) (by omega) h6_3
        refine lv_iload_n hx hb dX2_writtenOffInAll_9 rfl (lv_at hl 1 rfl) ?_
        refine lv_aload_n hx hb dX2_writtenOffInAll_10 rfl (lv_at hl 2 rfl) ?_
        refine va_get (D := G.1) (ci := 1) (v := .ref (ad 8)) (C := RX2) (T := TX2) (N := 14) hx hb hts (fun _ h => List.mem_cons_of_mem _ (List.mem_append_right _ h)) hown hK hP 0 rfl rfl 12 (by decide) w1 (fun _ h9 => h9) rfl dX2_writtenOffInAll_11 ?_
        refine lv_iload_n hx hb dX2_writtenOffInAll_14 rfl (lv_at hl 0 rfl) ?_
        refine zk_ialdN hx hb hK hP 8 0 rfl rfl (k := i) (n := 5) (by omega) (by omega) dX2_writtenOffInAll_15 ?_
        refine lv_iadd hx hb dX2_writtenOffInAll_16 ?_
        refine lv_topi (fun x5 ex5 => ?_)
        refine lv_istore_n (lv' := [(1, .int x5), (2, .int (nI i)), (0, .ref (ad 0))]) hx hb dX2_writtenOffInAll_17 rfl hl (by decide) rfl (fun ls hl => ?_)
        refine lv_iinc (v := nI (i + 1)) (lv' := [(2, .int (nI (i + 1))), (1, .int x5), (0, .ref (ad 0))]) hx hb dX2_writtenOffInAll_18 hl (k := 1) rfl (zk_inc i 1) (by decide) rfl (fun ls hl => ?_)
        refine lv_goto (tgt := 4) hx hb dX2_writtenOffInAll_21 (by decide) ?_
        exact ih2 (i + 1) x5 (by omega) (by omega) (by refine zs_i hq ?_; simp +decide [zk_a0, h6_3, ex5]) ls (lv_sub hl [0, 1, 2] rfl)
  exact lp1 _ 0 (nI 0) (Nat.lt_succ_self _) (by omega) (rfl) ls (lv_sub hl [0, 1, 2] rfl)

abbrev rmX2_lowestChildOf : Room := { frames := 0, cells := 0, slots := 0, locals := 0 }
set_option maxHeartbeats 4000000 in
set_option maxRecDepth 100000 in
/-- the lowest child of a family -/
theorem c_X2_lowestChildOf (l : Launch) (G : zk_G) (ad : Nat → Nat) (L : zL) (n t : Nat) (hI : sInv L n t) (f : Int32) : zk_I (S := Unit) l yX2_lowestChildOf wsX2_lowestChildOf rmX2_lowestChildOf G [.ref (ad 0), .int f] (zb_L G ad L ++ zb_M G ad L) (fun r _ => (∃ k, k < n ∧ r = nI k ∧ L 1 k = f ∧ ∀ j, j < k → ¬ L 1 j = f) ∨ (r = -1 ∧ ∀ j, j < n → ¬ L 1 j = f)) (fun _ => zb_L G ad L ++ zb_M G ad L) := by
  refine zk_bodyI (cc := cX2_lowestChildOf) (maxL := 3) (ret := (some .int)) (by decide) rfl (Nat.le_of_ble_eq_true rfl) ?_
  intro p E0 s m args below meth cd A ls Q hF hQ
  obtain ⟨hx, hb, hml, hr, hts, hown, hlocks, -, hE, hP, hD, hS, hA, hA0, hl⟩ := hF
  have hK := hE.1
  have hl : lv_has ls 3 [(0, .ref (ad 0)), (1, .int f)] := hl
  obtain ⟨hn, hn12, ht, ht40, hfam, hpay⟩ := id hI
  have w1 := hts _ (List.mem_of_getElem? (l := wsX2_lowestChildOf) (i := 1) (a := Cond.fieldLink RX2 53 "MealAccounts$Ledger" "children" "I") rfl)
  have w2 := hts _ (List.mem_of_getElem? (l := wsX2_lowestChildOf) (i := 2) (a := Cond.fieldLink RX2 9 "MealAccounts$Ledger" "familyOf" "[I") rfl)
  refine lv_iconst (v := nI 0) hx hb dX2_lowestChildOf_0 (by decide) ?_
  refine lv_istore_n (lv' := [(2, .int (nI 0)), (0, .ref (ad 0)), (1, .int f)]) hx hb dX2_lowestChildOf_1 rfl hl (by decide) rfl (fun ls hl => ?_)
  have lp1 : ∀ (n3 : Nat) (i : Nat), n - i < n3 → (i ≤ n) → (∀ j, j < i → ¬ L 1 j = f) → ∀ (ls : Array Slot), lv_has ls 3 [(2, .int (nI i)), (0, .ref (ad 0)), (1, .int f)] → W p l E0 rmX2_lowestChildOf s m args below meth cd s.heap [] 0 0 Q (F0 m 2 ls []) := by
    intro n3
    induction n3 with
    | zero => intro i hz; exact absurd hz (Nat.not_lt_zero _)
    | succ n3 ih2 =>
      intro i hm hi hq ls hl
      refine lv_iload_n hx hb dX2_lowestChildOf_2 rfl (lv_at hl 0 rfl) ?_
      refine lv_aload_n hx hb dX2_lowestChildOf_3 rfl (lv_at hl 1 rfl) ?_
      refine va_get (D := G.1) (ci := 1) (v := .int (L 0 1)) (C := RX2) (T := TX2) (N := 14) hx hb hts (fun _ h => List.mem_cons_of_mem _ (List.mem_append_right _ h)) hown hK hP 0 rfl rfl 1 (by decide) w1 (fun _ h9 => h9) rfl dX2_lowestChildOf_4 ?_
      refine zk_top hI.1 ?_
      refine lv_icmp_ge (tgt := 28) hx hb dX2_lowestChildOf_7 (by decide) (fun h7_3 => ?_) (fun h7_3 => ?_)
      · have h7_3 := zk_le (by omega) (by omega) h7_3
        refine lv_iconst (v := -1) hx hb dX2_lowestChildOf_28 (by decide) ?_
        exact zk_reti () hQ hx hb hr hlocks hS hP hD (Nat.le_of_ble_eq_true rfl) (Nat.le_of_ble_eq_true rfl) dX2_lowestChildOf_29 (Or.inr ⟨rfl, fun j hj => hq j (by omega)⟩)
      · have h7_3 := zk_nle (by omega) (by omega) h7_3
        refine lv_aload_n hx hb dX2_lowestChildOf_10 rfl (lv_at hl 1 rfl) ?_
        refine va_get (D := G.1) (ci := 1) (v := .ref (ad 1)) (C := RX2) (T := TX2) (N := 14) hx hb hts (fun _ h => List.mem_cons_of_mem _ (List.mem_append_right _ h)) hown hK hP 0 rfl rfl 5 (by decide) w2 (fun _ h9 => h9) rfl dX2_lowestChildOf_11 ?_
        refine lv_iload_n hx hb dX2_lowestChildOf_14 rfl (lv_at hl 0 rfl) ?_
        refine zk_ialdN hx hb hK hP 1 0 rfl rfl (k := i) (n := 12) (by omega) (by omega) dX2_lowestChildOf_15 ?_
        refine lv_iload_n hx hb dX2_lowestChildOf_16 rfl (lv_at hl 2 rfl) ?_
        refine lv_icmp_ne (tgt := 22) hx hb dX2_lowestChildOf_17 (by decide) (fun h17_4 => ?_) (fun h17_4 => ?_)
        · refine lv_iinc (v := nI (i + 1)) (lv' := [(2, .int (nI (i + 1))), (0, .ref (ad 0)), (1, .int f)]) hx hb dX2_lowestChildOf_22 hl (k := 0) rfl (zk_inc i 1) (by decide) rfl (fun ls hl => ?_)
          refine lv_goto (tgt := 2) hx hb dX2_lowestChildOf_25 (by decide) ?_
          exact ih2 (i + 1) (by omega) (by omega) (lt_s hq h17_4) ls (lv_sub hl [0, 1, 2] rfl)
        · refine lv_iload_n hx hb dX2_lowestChildOf_20 rfl (lv_at hl 0 rfl) ?_
          exact zk_reti () hQ hx hb hr hlocks hS hP hD (Nat.le_of_ble_eq_true rfl) (Nat.le_of_ble_eq_true rfl) dX2_lowestChildOf_21 (Or.inl ⟨i, by omega, rfl, h17_4, hq⟩)
  exact lp1 _ 0 (Nat.lt_succ_self _) (by omega) (lt_0) ls (lv_sub hl [0, 1, 2] rfl)

abbrev rmX2_isEntitled : Room := { frames := 0, cells := 0, slots := 0, locals := 0 }
set_option maxHeartbeats 4000000 in
set_option maxRecDepth 100000 in
/-- is a child entitled on a day -/
theorem c_X2_isEntitled (l : Launch) (G : zk_G) (ad : Nat → Nat) (L : zL) (n t : Nat) (hI : sInv L n t) (c d : Nat) (hc : c < n) (hd : d < 40) : zk_I (S := Unit) l yX2_isEntitled wsX2_isEntitled rmX2_isEntitled G [.ref (ad 0), .int (nI c), .int (nI d)] (zb_L G ad L ++ zb_M G ad L) (fun r _ => r = if sEnt L c d then nI 1 else nI 0) (fun _ => zb_L G ad L ++ zb_M G ad L) := by
  refine zk_bodyI (cc := cX2_isEntitled) (maxL := 3) (ret := (some .boolean)) (by decide) rfl (Nat.le_of_ble_eq_true rfl) ?_
  intro p E0 s m args below meth cd A ls Q hF hQ
  obtain ⟨hx, hb, hml, hr, hts, hown, hlocks, -, hE, hP, hD, hS, hA, hA0, hl⟩ := hF
  have hK := hE.1
  have hl : lv_has ls 3 [(0, .ref (ad 0)), (1, .int (nI c)), (2, .int (nI d))] := hl
  obtain ⟨hn, hn12, ht, ht40, hfam, hpay⟩ := id hI
  have w1 := hts _ (List.mem_of_getElem? (l := wsX2_isEntitled) (i := 1) (a := Cond.fieldLink RX2 21 "MealAccounts$Ledger" "firstDayOf" "[I") rfl)
  have w2 := hts _ (List.mem_of_getElem? (l := wsX2_isEntitled) (i := 2) (a := Cond.fieldLink RX2 24 "MealAccounts$Ledger" "lastDayOf" "[I") rfl)
  refine lv_aload_n hx hb dX2_isEntitled_0 rfl (lv_at hl 0 rfl) ?_
  refine va_get (D := G.1) (ci := 1) (v := .ref (ad 4)) (C := RX2) (T := TX2) (N := 14) hx hb hts (fun _ h => List.mem_cons_of_mem _ (List.mem_append_right _ h)) hown hK hP 0 rfl rfl 8 (by decide) w1 (fun _ h9 => h9) rfl dX2_isEntitled_1 ?_
  refine lv_iload_n hx hb dX2_isEntitled_4 rfl (lv_at hl 1 rfl) ?_
  refine zk_ialdN hx hb hK hP 4 0 rfl rfl (k := c) (n := 12) (by omega) (by omega) dX2_isEntitled_5 ?_
  refine lv_iconst (v := -1) hx hb dX2_isEntitled_6 (by decide) ?_
  refine lv_icmp_eq (tgt := 34) hx hb dX2_isEntitled_7 (by decide) (fun h7_0 => ?_) (fun h7_0 => ?_)
  · refine lv_iconst (v := nI 0) hx hb dX2_isEntitled_34 (by decide) ?_
    exact zk_retz () hQ hx hb hr hlocks hS hP hD (Nat.le_of_ble_eq_true rfl) (Nat.le_of_ble_eq_true rfl) dX2_isEntitled_35 (rfl) (by simp +decide [zk_a0, h7_0])
  · refine lv_iload_n hx hb dX2_isEntitled_10 rfl (lv_at hl 2 rfl) ?_
    refine lv_aload_n hx hb dX2_isEntitled_11 rfl (lv_at hl 0 rfl) ?_
    refine va_get (D := G.1) (ci := 1) (v := .ref (ad 4)) (C := RX2) (T := TX2) (N := 14) hx hb hts (fun _ h => List.mem_cons_of_mem _ (List.mem_append_right _ h)) hown hK hP 0 rfl rfl 8 (by decide) w1 (fun _ h9 => h9) rfl dX2_isEntitled_12 ?_
    refine lv_iload_n hx hb dX2_isEntitled_15 rfl (lv_at hl 1 rfl) ?_
    refine zk_ialdN hx hb hK hP 4 0 rfl rfl (k := c) (n := 12) (by omega) (by omega) dX2_isEntitled_16 ?_
    refine lv_icmp_lt (tgt := 34) hx hb dX2_isEntitled_17 (by decide) (fun h17_1 => ?_) (fun h17_1 => ?_)
    · have h17_1 := h17_1
      refine lv_iconst (v := nI 0) hx hb dX2_isEntitled_34 (by decide) ?_
      exact zk_retz () hQ hx hb hr hlocks hS hP hD (Nat.le_of_ble_eq_true rfl) (Nat.le_of_ble_eq_true rfl) dX2_isEntitled_35 (rfl) (by simp +decide [zk_a0, h7_0, h17_1])
    · have h17_1 := h17_1
      refine lv_iload_n hx hb dX2_isEntitled_20 rfl (lv_at hl 2 rfl) ?_
      refine lv_aload_n hx hb dX2_isEntitled_21 rfl (lv_at hl 0 rfl) ?_
      refine va_get (D := G.1) (ci := 1) (v := .ref (ad 5)) (C := RX2) (T := TX2) (N := 14) hx hb hts (fun _ h => List.mem_cons_of_mem _ (List.mem_append_right _ h)) hown hK hP 0 rfl rfl 9 (by decide) w2 (fun _ h9 => h9) rfl dX2_isEntitled_22 ?_
      refine lv_iload_n hx hb dX2_isEntitled_25 rfl (lv_at hl 1 rfl) ?_
      refine zk_ialdN hx hb hK hP 5 0 rfl rfl (k := c) (n := 12) (by omega) (by omega) dX2_isEntitled_26 ?_
      refine lv_icmp_gt (tgt := 34) hx hb dX2_isEntitled_27 (by decide) (fun h27_2 => ?_) (fun h27_2 => ?_)
      · have h27_2 := h27_2
        refine lv_iconst (v := nI 0) hx hb dX2_isEntitled_34 (by decide) ?_
        exact zk_retz () hQ hx hb hr hlocks hS hP hD (Nat.le_of_ble_eq_true rfl) (Nat.le_of_ble_eq_true rfl) dX2_isEntitled_35 (rfl) (by simp +decide [zk_a0, h7_0, h17_1, h27_2])
      · have h27_2 := h27_2
        refine lv_iconst (v := nI 1) hx hb dX2_isEntitled_30 (by decide) ?_
        refine lv_goto (tgt := 35) hx hb dX2_isEntitled_31 (by decide) ?_
        exact zk_retz () hQ hx hb hr hlocks hS hP hD (Nat.le_of_ble_eq_true rfl) (Nat.le_of_ble_eq_true rfl) dX2_isEntitled_35 (rfl) (by simp +decide [zk_a0, h7_0, h17_1, h27_2])

abbrev rmX2_faultOfCome : Room := { frames := 1, cells := 0, slots := 0, locals := 20 }
set_option maxHeartbeats 4000000 in
set_option maxRecDepth 100000 in
/-- what speaks against a child's coming -/
theorem c_X2_faultOfCome (l : Launch) (G : zk_G) (ad : Nat → Nat) (L : zL) (n t : Nat) (hI : sInv L n t) (f di : Int32) : zk_I (S := Unit) l yX2_faultOfCome wsX2_faultOfCome rmX2_faultOfCome G [.ref (ad 0), .int f, .int di] (zb_L G ad L ++ zb_M G ad L) (fun r _ => r = (if ¬ sFam f then nI 1 else if di < 0 ∨ nI 3 < di then nI 2 else if ¬ n < 12 then nI 3 else nI 0)) (fun _ => zb_L G ad L ++ zb_M G ad L) := by
  refine zk_bodyI (cc := cX2_faultOfCome) (maxL := 3) (ret := (some .int)) (by decide) rfl (Nat.le_of_ble_eq_true rfl) ?_
  intro p E0 s m args below meth cd A ls Q hF hQ
  obtain ⟨hx, hb, hml, hr, hts, hown, hlocks, -, hE, hP, hD, hS, hA, hA0, hl⟩ := hF
  have hK := hE.1
  have hl : lv_has ls 3 [(0, .ref (ad 0)), (1, .int f), (2, .int di)] := hl
  obtain ⟨hn, hn12, ht, ht40, hfam, hpay⟩ := id hI
  have w2 := hts _ (List.mem_of_getElem? (l := wsX2_faultOfCome) (i := 2) (a := Cond.static yX5_isFamily) rfl)
  have w3 := hts _ (List.mem_of_getElem? (l := wsX2_faultOfCome) (i := 3) (a := Cond.initialized RX5) rfl)
  have w1 := hts _ (List.mem_of_getElem? (l := wsX2_faultOfCome) (i := 1) (a := Cond.fieldLink RX2 53 "MealAccounts$Ledger" "children" "I") rfl)
  refine lv_iload_n hx hb dX2_faultOfCome_0 rfl (lv_at hl 1 rfl) ?_
  have hP0 : va_P G.1 vwCl (([] : va_W) ++ (zb_L G ad L ++ zb_M G ad L)) s.heap := hP
  have hD0 : va_D A (([] : va_W) ++ (zb_L G ad L ++ zb_M G ad L)) := hD
  refine zk_callI (wr := zb_L G ad L ++ zb_M G ad L) (va_runSN (As := [.int f]) (rest := []) ⟨hx, hb, hml, hown, hts⟩ (c_X5_isFamily l G f _) ⟨va_cnB 1 hts (ggX2_faultOfCome_X5_isFamily) rfl rfl rfl hE.2.1.2.2.1 w3 (by decide +kernel) ⟨Nat.le_of_ble_eq_true rfl, Nat.le_of_ble_eq_true rfl⟩, w2, trivial⟩ (zk_preS hE hA0 hS (zk_Papp hP0).1 (zk_Dapp hD0).1) rfl rfl hl.1 rfl (lv_room (Nat.le_of_ble_eq_true rfl)) dX2_faultOfCome_1 ⟨Nat.le_of_ble_eq_true rfl, Nat.le_of_ble_eq_true rfl⟩) hP0 hD0 hS hA (fun r1 u2 H locs q3 hP hD hS => ?_)
  subst q3
  have hP : va_P G.1 vwCl (zb_L G ad L ++ zb_M G ad L) H := hP
  have hD : va_D A (zb_L G ad L ++ zb_M G ad L) := hD
  refine lv_if_ne (tgt := 9) hx hb dX2_faultOfCome_4 (by decide) (fun h4_3 => ?_) (fun h4_3 => ?_)
  · have h4_3 := zk_b1 h4_3
    refine lv_iload_n hx hb dX2_faultOfCome_9 rfl (lv_at hl 2 rfl) ?_
    refine lv_if_lt (tgt := 18) hx hb dX2_faultOfCome_10 (by decide) (fun h10_4 => ?_) (fun h10_4 => ?_)
    · refine lv_iconst (v := nI 2) hx hb dX2_faultOfCome_18 (by decide) ?_
      exact zk_reti () hQ hx hb hr hlocks hS hP hD (Nat.le_of_ble_eq_true rfl) (Nat.le_of_ble_eq_true rfl) dX2_faultOfCome_19 (by simp +decide [zk_a0, h4_3, h10_4])
    · refine lv_iload_n hx hb dX2_faultOfCome_13 rfl (lv_at hl 2 rfl) ?_
      refine lv_iconst (v := nI 3) hx hb dX2_faultOfCome_14 (by decide) ?_
      refine lv_icmp_le (tgt := 20) hx hb dX2_faultOfCome_15 (by decide) (fun h15_5 => ?_) (fun h15_5 => ?_)
      · have h15_5 := zk_l1 h15_5
        refine lv_aload_n hx hb dX2_faultOfCome_20 rfl (lv_at hl 0 rfl) ?_
        refine va_get (D := G.1) (ci := 1) (v := .int (L 0 1)) (C := RX2) (T := TX2) (N := 14) hx hb hts (fun _ h => List.mem_cons_of_mem _ (List.mem_append_right _ h)) hown hK hP 0 rfl rfl 1 (by decide) w1 (fun _ h9 => h9) rfl dX2_faultOfCome_21 ?_
        refine zk_top hI.1 ?_
        refine lv_bipush (v := nI 12) hx hb dX2_faultOfCome_24 (by decide) ?_
        refine lv_icmp_lt (tgt := 33) hx hb dX2_faultOfCome_26 (by decide) (fun h26_6 => ?_) (fun h26_6 => ?_)
        · have h26_6 := zk_lt (by omega) (by omega) h26_6
          refine lv_iconst (v := nI 0) hx hb dX2_faultOfCome_33 (by decide) ?_
          exact zk_reti () hQ hx hb hr hlocks hS hP hD (Nat.le_of_ble_eq_true rfl) (Nat.le_of_ble_eq_true rfl) dX2_faultOfCome_34 (by simp +decide [zk_a0, h4_3, h10_4, h15_5, h26_6])
        · have h26_6 := zk_nlt (by omega) (by omega) h26_6
          refine lv_iconst (v := nI 3) hx hb dX2_faultOfCome_29 (by decide) ?_
          refine lv_goto (tgt := 34) hx hb dX2_faultOfCome_30 (by decide) ?_
          exact zk_reti () hQ hx hb hr hlocks hS hP hD (Nat.le_of_ble_eq_true rfl) (Nat.le_of_ble_eq_true rfl) dX2_faultOfCome_34 (by simp +decide [zk_a0, h4_3, h10_4, h15_5, h26_6])
      · have h15_5 := zk_l2 h15_5
        refine lv_iconst (v := nI 2) hx hb dX2_faultOfCome_18 (by decide) ?_
        exact zk_reti () hQ hx hb hr hlocks hS hP hD (Nat.le_of_ble_eq_true rfl) (Nat.le_of_ble_eq_true rfl) dX2_faultOfCome_19 (by simp +decide [zk_a0, h4_3, h10_4, h15_5])
  · have h4_3 := zk_b0 h4_3
    refine lv_iconst (v := nI 1) hx hb dX2_faultOfCome_7 (by decide) ?_
    exact zk_reti () hQ hx hb hr hlocks hS hP hD (Nat.le_of_ble_eq_true rfl) (Nat.le_of_ble_eq_true rfl) dX2_faultOfCome_8 (by simp +decide [zk_a0, h4_3])

abbrev rmX2_faultOfMenu : Room := { frames := 1, cells := 0, slots := 0, locals := 20 }
set_option maxHeartbeats 4000000 in
set_option maxRecDepth 100000 in
/-- what speaks against a menu -/
theorem c_X2_faultOfMenu (l : Launch) (G : zk_G) (ad : Nat → Nat) (L : zL) (n t : Nat) (hI : sInv L n t) (d mn : Int32) : zk_I (S := Unit) l yX2_faultOfMenu wsX2_faultOfMenu rmX2_faultOfMenu G [.ref (ad 0), .int d, .int mn] (zb_L G ad L ++ zb_M G ad L) (fun r _ => r = (if ¬ sDay d then nI 1 else if mn < 0 ∨ nI 3 < mn then nI 2 else if d < nI t then nI 3 else nI 0)) (fun _ => zb_L G ad L ++ zb_M G ad L) := by
  refine zk_bodyI (cc := cX2_faultOfMenu) (maxL := 3) (ret := (some .int)) (by decide) rfl (Nat.le_of_ble_eq_true rfl) ?_
  intro p E0 s m args below meth cd A ls Q hF hQ
  obtain ⟨hx, hb, hml, hr, hts, hown, hlocks, -, hE, hP, hD, hS, hA, hA0, hl⟩ := hF
  have hK := hE.1
  have hl : lv_has ls 3 [(0, .ref (ad 0)), (1, .int d), (2, .int mn)] := hl
  obtain ⟨hn, hn12, ht, ht40, hfam, hpay⟩ := id hI
  have w2 := hts _ (List.mem_of_getElem? (l := wsX2_faultOfMenu) (i := 2) (a := Cond.static yX5_isDay) rfl)
  have w3 := hts _ (List.mem_of_getElem? (l := wsX2_faultOfMenu) (i := 3) (a := Cond.initialized RX5) rfl)
  have w1 := hts _ (List.mem_of_getElem? (l := wsX2_faultOfMenu) (i := 1) (a := Cond.fieldLink RX2 50 "MealAccounts$Ledger" "today" "I") rfl)
  refine lv_iload_n hx hb dX2_faultOfMenu_0 rfl (lv_at hl 1 rfl) ?_
  have hP0 : va_P G.1 vwCl (([] : va_W) ++ (zb_L G ad L ++ zb_M G ad L)) s.heap := hP
  have hD0 : va_D A (([] : va_W) ++ (zb_L G ad L ++ zb_M G ad L)) := hD
  refine zk_callI (wr := zb_L G ad L ++ zb_M G ad L) (va_runSN (As := [.int d]) (rest := []) ⟨hx, hb, hml, hown, hts⟩ (c_X5_isDay l G d _) ⟨va_cnB 1 hts (ggX2_faultOfMenu_X5_isDay) rfl rfl rfl hE.2.1.2.2.2.1 w3 (by decide +kernel) ⟨Nat.le_of_ble_eq_true rfl, Nat.le_of_ble_eq_true rfl⟩, w2, trivial⟩ (zk_preS hE hA0 hS (zk_Papp hP0).1 (zk_Dapp hD0).1) rfl rfl hl.1 rfl (lv_room (Nat.le_of_ble_eq_true rfl)) dX2_faultOfMenu_1 ⟨Nat.le_of_ble_eq_true rfl, Nat.le_of_ble_eq_true rfl⟩) hP0 hD0 hS hA (fun r1 u2 H locs q3 hP hD hS => ?_)
  subst q3
  have hP : va_P G.1 vwCl (zb_L G ad L ++ zb_M G ad L) H := hP
  have hD : va_D A (zb_L G ad L ++ zb_M G ad L) := hD
  refine lv_if_ne (tgt := 9) hx hb dX2_faultOfMenu_4 (by decide) (fun h4_3 => ?_) (fun h4_3 => ?_)
  · have h4_3 := zk_b1 h4_3
    refine lv_iload_n hx hb dX2_faultOfMenu_9 rfl (lv_at hl 2 rfl) ?_
    refine lv_if_lt (tgt := 18) hx hb dX2_faultOfMenu_10 (by decide) (fun h10_4 => ?_) (fun h10_4 => ?_)
    · refine lv_iconst (v := nI 2) hx hb dX2_faultOfMenu_18 (by decide) ?_
      exact zk_reti () hQ hx hb hr hlocks hS hP hD (Nat.le_of_ble_eq_true rfl) (Nat.le_of_ble_eq_true rfl) dX2_faultOfMenu_19 (by simp +decide [zk_a0, h4_3, h10_4])
    · refine lv_iload_n hx hb dX2_faultOfMenu_13 rfl (lv_at hl 2 rfl) ?_
      refine lv_iconst (v := nI 3) hx hb dX2_faultOfMenu_14 (by decide) ?_
      refine lv_icmp_le (tgt := 20) hx hb dX2_faultOfMenu_15 (by decide) (fun h15_5 => ?_) (fun h15_5 => ?_)
      · have h15_5 := zk_l1 h15_5
        refine lv_iload_n hx hb dX2_faultOfMenu_20 rfl (lv_at hl 1 rfl) ?_
        refine lv_aload_n hx hb dX2_faultOfMenu_21 rfl (lv_at hl 0 rfl) ?_
        refine va_get (D := G.1) (ci := 1) (v := .int (L 0 0)) (C := RX2) (T := TX2) (N := 14) hx hb hts (fun _ h => List.mem_cons_of_mem _ (List.mem_append_right _ h)) hown hK hP 0 rfl rfl 0 (by decide) w1 (fun _ h9 => h9) rfl dX2_faultOfMenu_22 ?_
        refine zk_top hI.2.2.1 ?_
        refine lv_icmp_ge (tgt := 32) hx hb dX2_faultOfMenu_25 (by decide) (fun h25_6 => ?_) (fun h25_6 => ?_)
        · have h25_6 := zk_l1 h25_6
          refine lv_iconst (v := nI 0) hx hb dX2_faultOfMenu_32 (by decide) ?_
          exact zk_reti () hQ hx hb hr hlocks hS hP hD (Nat.le_of_ble_eq_true rfl) (Nat.le_of_ble_eq_true rfl) dX2_faultOfMenu_33 (by simp +decide [zk_a0, h4_3, h10_4, h15_5, h25_6])
        · have h25_6 := zk_l2 h25_6
          refine lv_iconst (v := nI 3) hx hb dX2_faultOfMenu_28 (by decide) ?_
          refine lv_goto (tgt := 33) hx hb dX2_faultOfMenu_29 (by decide) ?_
          exact zk_reti () hQ hx hb hr hlocks hS hP hD (Nat.le_of_ble_eq_true rfl) (Nat.le_of_ble_eq_true rfl) dX2_faultOfMenu_33 (by simp +decide [zk_a0, h4_3, h10_4, h15_5, h25_6])
      · have h15_5 := zk_l2 h15_5
        refine lv_iconst (v := nI 2) hx hb dX2_faultOfMenu_18 (by decide) ?_
        exact zk_reti () hQ hx hb hr hlocks hS hP hD (Nat.le_of_ble_eq_true rfl) (Nat.le_of_ble_eq_true rfl) dX2_faultOfMenu_19 (by simp +decide [zk_a0, h4_3, h10_4, h15_5])
  · have h4_3 := zk_b0 h4_3
    refine lv_iconst (v := nI 1) hx hb dX2_faultOfMenu_7 (by decide) ?_
    exact zk_reti () hQ hx hb hr hlocks hS hP hD (Nat.le_of_ble_eq_true rfl) (Nat.le_of_ble_eq_true rfl) dX2_faultOfMenu_8 (by simp +decide [zk_a0, h4_3])

abbrev rmX2_faultOfOrder : Room := { frames := 1, cells := 0, slots := 0, locals := 21 }
set_option maxHeartbeats 4000000 in
set_option maxRecDepth 100000 in
/-- what speaks against an order -/
theorem c_X2_faultOfOrder (l : Launch) (G : zk_G) (ad : Nat → Nat) (L : zL) (n t : Nat) (hI : sInv L n t) (c d : Int32) : zk_I (S := Unit) l yX2_faultOfOrder wsX2_faultOfOrder rmX2_faultOfOrder G [.ref (ad 0), .int c, .int d] (zb_L G ad L ++ zb_M G ad L) (fun r _ => r = (if ¬ sHas L c ∨ ¬ sDay d then nI 1 else if d < nI t then nI 3 else nI 0)) (fun _ => zb_L G ad L ++ zb_M G ad L) := by
  refine zk_bodyI (cc := cX2_faultOfOrder) (maxL := 3) (ret := (some .int)) (by decide) rfl (Nat.le_of_ble_eq_true rfl) ?_
  intro p E0 s m args below meth cd A ls Q hF hQ
  obtain ⟨hx, hb, hml, hr, hts, hown, hlocks, -, hE, hP, hD, hS, hA, hA0, hl⟩ := hF
  have hK := hE.1
  have hl : lv_has ls 3 [(0, .ref (ad 0)), (1, .int c), (2, .int d)] := hl
  obtain ⟨hn, hn12, ht, ht40, hfam, hpay⟩ := id hI
  have w8 := hts _ (List.mem_of_getElem? (l := wsX2_faultOfOrder) (i := 8) (a := Cond.static yX5_isDay) rfl)
  have w9 := hts _ (List.mem_of_getElem? (l := wsX2_faultOfOrder) (i := 9) (a := Cond.initialized RX5) rfl)
  have w1 := hts _ (List.mem_of_getElem? (l := wsX2_faultOfOrder) (i := 1) (a := Cond.fieldLink RX2 50 "MealAccounts$Ledger" "today" "I") rfl)
  refine lv_aload_n hx hb dX2_faultOfOrder_0 rfl (lv_at hl 0 rfl) ?_
  refine lv_iload_n hx hb dX2_faultOfOrder_1 rfl (lv_at hl 1 rfl) ?_
  have hP0 : va_P G.1 vwCl ((zb_L G ad L ++ zb_M G ad L) ++ ([] : va_W)) s.heap := by rw [List.append_nil]; exact hP
  have hD0 : va_D A ((zb_L G ad L ++ zb_M G ad L) ++ ([] : va_W)) := by rw [List.append_nil]; exact hD
  refine zk_callI (wr := ([] : va_W)) (va_runV (As := [.int c]) (rest := []) ⟨hx, hb, hml, hown, hts⟩ (c_X2_hasChild l G ad L n t hI c _) (cwV 1 hts gX2_faultOfOrder_X2_hasChild rfl rfl rfl (by decide +kernel) ⟨Nat.le_of_ble_eq_true rfl, Nat.le_of_ble_eq_true rfl⟩) (zk_preV hE hA0 hS (zk_Papp hP0).1 (zk_Dapp hD0).1 (va_recv hK hP (ci := 1) (q0 := 0) rfl rfl)) rfl rfl hl.1 rfl (lv_room (Nat.le_of_ble_eq_true rfl)) dX2_faultOfOrder_2 ⟨Nat.le_of_ble_eq_true rfl, Nat.le_of_ble_eq_true rfl⟩) hP0 hD0 hS hA (fun r1 u2 H locs q3 hP hD hS => ?_)
  subst q3
  rw [List.append_nil] at hP hD
  have hP : va_P G.1 vwCl (zb_L G ad L ++ zb_M G ad L) H := hP
  have hD : va_D A (zb_L G ad L ++ zb_M G ad L) := hD
  refine lv_if_eq (tgt := 15) hx hb dX2_faultOfOrder_5 (by decide) (fun h5_3 => ?_) (fun h5_3 => ?_)
  · have h5_3 := zk_b0 h5_3
    refine lv_iconst (v := nI 1) hx hb dX2_faultOfOrder_15 (by decide) ?_
    exact zk_reti () hQ hx hb hr hlocks hS hP hD (Nat.le_of_ble_eq_true rfl) (Nat.le_of_ble_eq_true rfl) dX2_faultOfOrder_16 (by simp +decide [zk_a0, h5_3])
  · have h5_3 := zk_b1 h5_3
    refine lv_iload_n hx hb dX2_faultOfOrder_8 rfl (lv_at hl 2 rfl) ?_
    have hP0 : va_P G.1 vwCl (([] : va_W) ++ (zb_L G ad L ++ zb_M G ad L)) H := hP
    have hD0 : va_D A (([] : va_W) ++ (zb_L G ad L ++ zb_M G ad L)) := hD
    refine zk_callI (wr := zb_L G ad L ++ zb_M G ad L) (va_runSN (As := [.int d]) (rest := []) ⟨hx, hb, hml, hown, hts⟩ (c_X5_isDay l G d _) ⟨va_cnB 1 hts (ggX2_faultOfOrder_X5_isDay) rfl rfl rfl hE.2.1.2.2.2.1 w9 (by decide +kernel) ⟨Nat.le_of_ble_eq_true rfl, Nat.le_of_ble_eq_true rfl⟩, w8, trivial⟩ (zk_preS hE hA0 hS (zk_Papp hP0).1 (zk_Dapp hD0).1) rfl rfl hl.1 rfl (lv_room (Nat.le_of_ble_eq_true rfl)) dX2_faultOfOrder_9 ⟨Nat.le_of_ble_eq_true rfl, Nat.le_of_ble_eq_true rfl⟩) hP0 hD0 hS hA (fun r5 u6 H locs q7 hP hD hS => ?_)
    subst q7
    have hP : va_P G.1 vwCl (zb_L G ad L ++ zb_M G ad L) H := hP
    have hD : va_D A (zb_L G ad L ++ zb_M G ad L) := hD
    refine lv_if_ne (tgt := 17) hx hb dX2_faultOfOrder_12 (by decide) (fun h12_7 => ?_) (fun h12_7 => ?_)
    · have h12_7 := zk_b1 h12_7
      refine lv_iload_n hx hb dX2_faultOfOrder_17 rfl (lv_at hl 2 rfl) ?_
      refine lv_aload_n hx hb dX2_faultOfOrder_18 rfl (lv_at hl 0 rfl) ?_
      refine va_get (D := G.1) (ci := 1) (v := .int (L 0 0)) (C := RX2) (T := TX2) (N := 14) hx hb hts (fun _ h => List.mem_cons_of_mem _ (List.mem_append_right _ h)) hown hK hP 0 rfl rfl 0 (by decide) w1 (fun _ h9 => h9) rfl dX2_faultOfOrder_19 ?_
      refine zk_top hI.2.2.1 ?_
      refine lv_icmp_ge (tgt := 29) hx hb dX2_faultOfOrder_22 (by decide) (fun h22_8 => ?_) (fun h22_8 => ?_)
      · have h22_8 := zk_l1 h22_8
        refine lv_iconst (v := nI 0) hx hb dX2_faultOfOrder_29 (by decide) ?_
        exact zk_reti () hQ hx hb hr hlocks hS hP hD (Nat.le_of_ble_eq_true rfl) (Nat.le_of_ble_eq_true rfl) dX2_faultOfOrder_30 (by simp +decide [zk_a0, h5_3, h12_7, h22_8])
      · have h22_8 := zk_l2 h22_8
        refine lv_iconst (v := nI 3) hx hb dX2_faultOfOrder_25 (by decide) ?_
        refine lv_goto (tgt := 30) hx hb dX2_faultOfOrder_26 (by decide) ?_
        exact zk_reti () hQ hx hb hr hlocks hS hP hD (Nat.le_of_ble_eq_true rfl) (Nat.le_of_ble_eq_true rfl) dX2_faultOfOrder_30 (by simp +decide [zk_a0, h5_3, h12_7, h22_8])
    · have h12_7 := zk_b0 h12_7
      refine lv_iconst (v := nI 1) hx hb dX2_faultOfOrder_15 (by decide) ?_
      exact zk_reti () hQ hx hb hr hlocks hS hP hD (Nat.le_of_ble_eq_true rfl) (Nat.le_of_ble_eq_true rfl) dX2_faultOfOrder_16 (by simp +decide [zk_a0, h5_3, h12_7])

abbrev rmX2_faultOfPay : Room := { frames := 1, cells := 0, slots := 0, locals := 21 }
set_option maxHeartbeats 4000000 in
set_option maxRecDepth 100000 in
/-- what speaks against a payment -/
theorem c_X2_faultOfPay (l : Launch) (G : zk_G) (ad : Nat → Nat) (L : zL) (n t : Nat) (hI : sInv L n t) (c am : Int32) : zk_I (S := Unit) l yX2_faultOfPay wsX2_faultOfPay rmX2_faultOfPay G [.ref (ad 0), .int c, .int am] (zb_L G ad L ++ zb_M G ad L) (fun r _ => r = (if ¬ sHas L c then nI 1 else if am = 0 ∨ am < -9999 ∨ nI 9999 < am then nI 2 else if am < 0 ∧ L 3 (c).toNatClampNeg + am < 0 then nI 3 else nI 0)) (fun _ => zb_L G ad L ++ zb_M G ad L) := by
  refine zk_bodyI (cc := cX2_faultOfPay) (maxL := 3) (ret := (some .int)) (by decide) rfl (Nat.le_of_ble_eq_true rfl) ?_
  intro p E0 s m args below meth cd A ls Q hF hQ
  obtain ⟨hx, hb, hml, hr, hts, hown, hlocks, -, hE, hP, hD, hS, hA, hA0, hl⟩ := hF
  have hK := hE.1
  have hl : lv_has ls 3 [(0, .ref (ad 0)), (1, .int c), (2, .int am)] := hl
  obtain ⟨hn, hn12, ht, ht40, hfam, hpay⟩ := id hI
  have w1 := hts _ (List.mem_of_getElem? (l := wsX2_faultOfPay) (i := 1) (a := Cond.fieldLink RX2 18 "MealAccounts$Ledger" "balanceOf" "[I") rfl)
  refine lv_aload_n hx hb dX2_faultOfPay_0 rfl (lv_at hl 0 rfl) ?_
  refine lv_iload_n hx hb dX2_faultOfPay_1 rfl (lv_at hl 1 rfl) ?_
  have hP0 : va_P G.1 vwCl ((zb_L G ad L ++ zb_M G ad L) ++ ([] : va_W)) s.heap := by rw [List.append_nil]; exact hP
  have hD0 : va_D A ((zb_L G ad L ++ zb_M G ad L) ++ ([] : va_W)) := by rw [List.append_nil]; exact hD
  refine zk_callI (wr := ([] : va_W)) (va_runV (As := [.int c]) (rest := []) ⟨hx, hb, hml, hown, hts⟩ (c_X2_hasChild l G ad L n t hI c _) (cwV 1 hts gX2_faultOfPay_X2_hasChild rfl rfl rfl (by decide +kernel) ⟨Nat.le_of_ble_eq_true rfl, Nat.le_of_ble_eq_true rfl⟩) (zk_preV hE hA0 hS (zk_Papp hP0).1 (zk_Dapp hD0).1 (va_recv hK hP (ci := 1) (q0 := 0) rfl rfl)) rfl rfl hl.1 rfl (lv_room (Nat.le_of_ble_eq_true rfl)) dX2_faultOfPay_2 ⟨Nat.le_of_ble_eq_true rfl, Nat.le_of_ble_eq_true rfl⟩) hP0 hD0 hS hA (fun r1 u2 H locs q3 hP hD hS => ?_)
  subst q3
  rw [List.append_nil] at hP hD
  have hP : va_P G.1 vwCl (zb_L G ad L ++ zb_M G ad L) H := hP
  have hD : va_D A (zb_L G ad L ++ zb_M G ad L) := hD
  refine lv_if_ne (tgt := 10) hx hb dX2_faultOfPay_5 (by decide) (fun h5_3 => ?_) (fun h5_3 => ?_)
  · have h5_3 := zk_b1 h5_3
    obtain ⟨ck, hck, rfl⟩ := sHas_nat hI h5_3
    have nck := nI_clamp (show ck < 2 ^ 31 by omega)
    refine lv_iload_n hx hb dX2_faultOfPay_10 rfl (lv_at hl 2 rfl) ?_
    refine lv_if_eq (tgt := 28) hx hb dX2_faultOfPay_11 (by decide) (fun h11_4 => ?_) (fun h11_4 => ?_)
    · refine lv_iconst (v := nI 2) hx hb dX2_faultOfPay_28 (by decide) ?_
      exact zk_reti () hQ hx hb hr hlocks hS hP hD (Nat.le_of_ble_eq_true rfl) (Nat.le_of_ble_eq_true rfl) dX2_faultOfPay_29 (by simp +decide [zk_a0, h5_3, nck, h11_4])
    · refine lv_iload_n hx hb dX2_faultOfPay_14 rfl (lv_at hl 2 rfl) ?_
      refine lv_sipush (v := (-9999)) hx hb dX2_faultOfPay_15 (by decide) ?_
      refine lv_icmp_lt (tgt := 28) hx hb dX2_faultOfPay_18 (by decide) (fun h18_5 => ?_) (fun h18_5 => ?_)
      · have h18_5 := h18_5
        refine lv_iconst (v := nI 2) hx hb dX2_faultOfPay_28 (by decide) ?_
        exact zk_reti () hQ hx hb hr hlocks hS hP hD (Nat.le_of_ble_eq_true rfl) (Nat.le_of_ble_eq_true rfl) dX2_faultOfPay_29 (by simp +decide [zk_a0, h5_3, nck, h11_4, h18_5])
      · have h18_5 := h18_5
        refine lv_iload_n hx hb dX2_faultOfPay_21 rfl (lv_at hl 2 rfl) ?_
        refine lv_sipush (v := nI 9999) hx hb dX2_faultOfPay_22 (by decide) ?_
        refine lv_icmp_le (tgt := 30) hx hb dX2_faultOfPay_25 (by decide) (fun h25_6 => ?_) (fun h25_6 => ?_)
        · have h25_6 := zk_l1 h25_6
          refine lv_iload_n hx hb dX2_faultOfPay_30 rfl (lv_at hl 2 rfl) ?_
          refine lv_if_ge (tgt := 49) hx hb dX2_faultOfPay_31 (by decide) (fun h31_7 => ?_) (fun h31_7 => ?_)
          · have h31_7 := zk_l1 h31_7
            refine lv_iconst (v := nI 0) hx hb dX2_faultOfPay_49 (by decide) ?_
            exact zk_reti () hQ hx hb hr hlocks hS hP hD (Nat.le_of_ble_eq_true rfl) (Nat.le_of_ble_eq_true rfl) dX2_faultOfPay_50 (by simp +decide [zk_a0, h5_3, nck, h11_4, h18_5, h25_6, h31_7])
          · have h31_7 := zk_l2 h31_7
            refine lv_aload_n hx hb dX2_faultOfPay_34 rfl (lv_at hl 0 rfl) ?_
            refine va_get (D := G.1) (ci := 1) (v := .ref (ad 3)) (C := RX2) (T := TX2) (N := 14) hx hb hts (fun _ h => List.mem_cons_of_mem _ (List.mem_append_right _ h)) hown hK hP 0 rfl rfl 7 (by decide) w1 (fun _ h9 => h9) rfl dX2_faultOfPay_35 ?_
            refine lv_iload_n hx hb dX2_faultOfPay_38 rfl (lv_at hl 1 rfl) ?_
            refine zk_ialdN hx hb hK hP 3 0 rfl rfl (k := ck) (n := 12) (by omega) (by omega) dX2_faultOfPay_39 ?_
            refine lv_iload_n hx hb dX2_faultOfPay_40 rfl (lv_at hl 2 rfl) ?_
            refine lv_iadd hx hb dX2_faultOfPay_41 ?_
            refine lv_if_ge (tgt := 49) hx hb dX2_faultOfPay_42 (by decide) (fun h42_8 => ?_) (fun h42_8 => ?_)
            · have h42_8 := zk_l1 h42_8
              refine lv_iconst (v := nI 0) hx hb dX2_faultOfPay_49 (by decide) ?_
              exact zk_reti () hQ hx hb hr hlocks hS hP hD (Nat.le_of_ble_eq_true rfl) (Nat.le_of_ble_eq_true rfl) dX2_faultOfPay_50 (by simp +decide [zk_a0, h5_3, nck, h11_4, h18_5, h25_6, h31_7, h42_8])
            · have h42_8 := zk_l2 h42_8
              refine lv_iconst (v := nI 3) hx hb dX2_faultOfPay_45 (by decide) ?_
              refine lv_goto (tgt := 50) hx hb dX2_faultOfPay_46 (by decide) ?_
              exact zk_reti () hQ hx hb hr hlocks hS hP hD (Nat.le_of_ble_eq_true rfl) (Nat.le_of_ble_eq_true rfl) dX2_faultOfPay_50 (by simp +decide [zk_a0, h5_3, nck, h11_4, h18_5, h25_6, h31_7, h42_8])
        · have h25_6 := zk_l2 h25_6
          refine lv_iconst (v := nI 2) hx hb dX2_faultOfPay_28 (by decide) ?_
          exact zk_reti () hQ hx hb hr hlocks hS hP hD (Nat.le_of_ble_eq_true rfl) (Nat.le_of_ble_eq_true rfl) dX2_faultOfPay_29 (by simp +decide [zk_a0, h5_3, nck, h11_4, h18_5, h25_6])
  · have h5_3 := zk_b0 h5_3
    refine lv_iconst (v := nI 1) hx hb dX2_faultOfPay_8 (by decide) ?_
    exact zk_reti () hQ hx hb hr hlocks hS hP hD (Nat.le_of_ble_eq_true rfl) (Nat.le_of_ble_eq_true rfl) dX2_faultOfPay_9 (by simp +decide [zk_a0, h5_3])

abbrev rmX2_faultOfMove : Room := { frames := 1, cells := 0, slots := 0, locals := 21 }
set_option maxHeartbeats 4000000 in
set_option maxRecDepth 100000 in
/-- what speaks against a move -/
theorem c_X2_faultOfMove (l : Launch) (G : zk_G) (ad : Nat → Nat) (L : zL) (n t : Nat) (hI : sInv L n t) (c ot am : Int32) : zk_I (S := Unit) l yX2_faultOfMove wsX2_faultOfMove rmX2_faultOfMove G [.ref (ad 0), .int c, .int ot, .int am] (zb_L G ad L ++ zb_M G ad L) (fun r _ => r = (if ¬ sHas L c ∨ ¬ sHas L ot then nI 1 else if am < nI 1 ∨ nI 9999 < am then nI 2 else if c = ot ∨ ¬ L 1 (c).toNatClampNeg = L 1 (ot).toNatClampNeg ∨ L 3 (c).toNatClampNeg < am then nI 3 else nI 0)) (fun _ => zb_L G ad L ++ zb_M G ad L) := by
  refine zk_bodyI (cc := cX2_faultOfMove) (maxL := 5) (ret := (some .int)) (by decide) rfl (Nat.le_of_ble_eq_true rfl) ?_
  intro p E0 s m args below meth cd A ls Q hF hQ
  obtain ⟨hx, hb, hml, hr, hts, hown, hlocks, -, hE, hP, hD, hS, hA, hA0, hl⟩ := hF
  have hK := hE.1
  have hl : lv_has ls 5 [(0, .ref (ad 0)), (1, .int c), (2, .int ot), (3, .int am)] := hl
  obtain ⟨hn, hn12, ht, ht40, hfam, hpay⟩ := id hI
  have w1 := hts _ (List.mem_of_getElem? (l := wsX2_faultOfMove) (i := 1) (a := Cond.fieldLink RX2 9 "MealAccounts$Ledger" "familyOf" "[I") rfl)
  have w2 := hts _ (List.mem_of_getElem? (l := wsX2_faultOfMove) (i := 2) (a := Cond.fieldLink RX2 18 "MealAccounts$Ledger" "balanceOf" "[I") rfl)
  refine lv_aload_n hx hb dX2_faultOfMove_0 rfl (lv_at hl 0 rfl) ?_
  refine lv_iload_n hx hb dX2_faultOfMove_1 rfl (lv_at hl 1 rfl) ?_
  have hP0 : va_P G.1 vwCl ((zb_L G ad L ++ zb_M G ad L) ++ ([] : va_W)) s.heap := by rw [List.append_nil]; exact hP
  have hD0 : va_D A ((zb_L G ad L ++ zb_M G ad L) ++ ([] : va_W)) := by rw [List.append_nil]; exact hD
  refine zk_callI (wr := ([] : va_W)) (va_runV (As := [.int c]) (rest := []) ⟨hx, hb, hml, hown, hts⟩ (c_X2_hasChild l G ad L n t hI c _) (cwV 1 hts gX2_faultOfMove_X2_hasChild rfl rfl rfl (by decide +kernel) ⟨Nat.le_of_ble_eq_true rfl, Nat.le_of_ble_eq_true rfl⟩) (zk_preV hE hA0 hS (zk_Papp hP0).1 (zk_Dapp hD0).1 (va_recv hK hP (ci := 1) (q0 := 0) rfl rfl)) rfl rfl hl.1 rfl (lv_room (Nat.le_of_ble_eq_true rfl)) dX2_faultOfMove_2 ⟨Nat.le_of_ble_eq_true rfl, Nat.le_of_ble_eq_true rfl⟩) hP0 hD0 hS hA (fun r1 u2 H locs q3 hP hD hS => ?_)
  subst q3
  rw [List.append_nil] at hP hD
  have hP : va_P G.1 vwCl (zb_L G ad L ++ zb_M G ad L) H := hP
  have hD : va_D A (zb_L G ad L ++ zb_M G ad L) := hD
  refine lv_if_eq (tgt := 16) hx hb dX2_faultOfMove_5 (by decide) (fun h5_3 => ?_) (fun h5_3 => ?_)
  · have h5_3 := zk_b0 h5_3
    refine lv_iconst (v := nI 1) hx hb dX2_faultOfMove_16 (by decide) ?_
    exact zk_reti () hQ hx hb hr hlocks hS hP hD (Nat.le_of_ble_eq_true rfl) (Nat.le_of_ble_eq_true rfl) dX2_faultOfMove_17 (by simp +decide [zk_a0, h5_3])
  · have h5_3 := zk_b1 h5_3
    obtain ⟨ck, hck, rfl⟩ := sHas_nat hI h5_3
    have nck := nI_clamp (show ck < 2 ^ 31 by omega)
    refine lv_aload_n hx hb dX2_faultOfMove_8 rfl (lv_at hl 0 rfl) ?_
    refine lv_iload_n hx hb dX2_faultOfMove_9 rfl (lv_at hl 2 rfl) ?_
    have hP0 : va_P G.1 vwCl ((zb_L G ad L ++ zb_M G ad L) ++ ([] : va_W)) H := by rw [List.append_nil]; exact hP
    have hD0 : va_D A ((zb_L G ad L ++ zb_M G ad L) ++ ([] : va_W)) := by rw [List.append_nil]; exact hD
    refine zk_callI (wr := ([] : va_W)) (va_runV (As := [.int ot]) (rest := []) ⟨hx, hb, hml, hown, hts⟩ (c_X2_hasChild l G ad L n t hI ot _) (cwV 1 hts gX2_faultOfMove_X2_hasChild rfl rfl rfl (by decide +kernel) ⟨Nat.le_of_ble_eq_true rfl, Nat.le_of_ble_eq_true rfl⟩) (zk_preV hE hA0 hS (zk_Papp hP0).1 (zk_Dapp hD0).1 (va_recv hK hP (ci := 1) (q0 := 0) rfl rfl)) rfl rfl hl.1 rfl (lv_room (Nat.le_of_ble_eq_true rfl)) dX2_faultOfMove_10 ⟨Nat.le_of_ble_eq_true rfl, Nat.le_of_ble_eq_true rfl⟩) hP0 hD0 hS hA (fun r5 u6 H locs q7 hP hD hS => ?_)
    subst q7
    rw [List.append_nil] at hP hD
    have hP : va_P G.1 vwCl (zb_L G ad L ++ zb_M G ad L) H := hP
    have hD : va_D A (zb_L G ad L ++ zb_M G ad L) := hD
    refine lv_if_ne (tgt := 18) hx hb dX2_faultOfMove_13 (by decide) (fun h13_7 => ?_) (fun h13_7 => ?_)
    · have h13_7 := zk_b1 h13_7
      obtain ⟨otk, hotk, rfl⟩ := sHas_nat hI h13_7
      have notk := nI_clamp (show otk < 2 ^ 31 by omega)
      refine lv_iload_n hx hb dX2_faultOfMove_18 rfl (lv_at hl 3 rfl) ?_
      refine lv_iconst (v := nI 1) hx hb dX2_faultOfMove_19 (by decide) ?_
      refine lv_icmp_lt (tgt := 30) hx hb dX2_faultOfMove_20 (by decide) (fun h20_8 => ?_) (fun h20_8 => ?_)
      · have h20_8 := h20_8
        refine lv_iconst (v := nI 2) hx hb dX2_faultOfMove_30 (by decide) ?_
        exact zk_reti () hQ hx hb hr hlocks hS hP hD (Nat.le_of_ble_eq_true rfl) (Nat.le_of_ble_eq_true rfl) dX2_faultOfMove_31 (by simp +decide [zk_a0, h5_3, nck, h13_7, notk, h20_8])
      · have h20_8 := h20_8
        refine lv_iload_n hx hb dX2_faultOfMove_23 rfl (lv_at hl 3 rfl) ?_
        refine lv_sipush (v := nI 9999) hx hb dX2_faultOfMove_24 (by decide) ?_
        refine lv_icmp_le (tgt := 32) hx hb dX2_faultOfMove_27 (by decide) (fun h27_9 => ?_) (fun h27_9 => ?_)
        · have h27_9 := zk_l1 h27_9
          refine lv_iload_n hx hb dX2_faultOfMove_32 rfl (lv_at hl 1 rfl) ?_
          refine lv_iload_n hx hb dX2_faultOfMove_33 rfl (lv_at hl 2 rfl) ?_
          refine lv_icmp_eq (tgt := 56) hx hb dX2_faultOfMove_34 (by decide) (fun h34_10 => ?_) (fun h34_10 => ?_)
          · have h34_10 := zk_eq (by omega) (by omega) h34_10
            refine lv_iconst (v := nI 0) hx hb dX2_faultOfMove_56 (by decide) ?_
            refine lv_istore (lv' := [(4, .int (nI 0)), (0, .ref (ad 0)), (1, .int (nI ck)), (2, .int (nI otk)), (3, .int am)]) hx hb dX2_faultOfMove_57 hl (by decide) rfl (fun ls hl => ?_)
            refine lv_iload hx hb dX2_faultOfMove_59 (lv_at hl 0 rfl) ?_
            refine lv_if_eq (tgt := 78) hx hb dX2_faultOfMove_61 (by decide) (fun _ => ?_) (fun z => absurd (by decide) z)
            refine lv_iconst (v := nI 3) hx hb dX2_faultOfMove_78 (by decide) ?_
            exact zk_reti () hQ hx hb hr hlocks hS hP hD (Nat.le_of_ble_eq_true rfl) (Nat.le_of_ble_eq_true rfl) dX2_faultOfMove_79 (by simp +decide [zk_a0, h5_3, nck, h13_7, notk, h20_8, h27_9, h34_10])
          · have h34_10 := zk_ne (by omega) (by omega) h34_10
            refine lv_aload_n hx hb dX2_faultOfMove_37 rfl (lv_at hl 0 rfl) ?_
            refine va_get (D := G.1) (ci := 1) (v := .ref (ad 1)) (C := RX2) (T := TX2) (N := 14) hx hb hts (fun _ h => List.mem_cons_of_mem _ (List.mem_append_right _ h)) hown hK hP 0 rfl rfl 5 (by decide) w1 (fun _ h9 => h9) rfl dX2_faultOfMove_38 ?_
            refine lv_iload_n hx hb dX2_faultOfMove_41 rfl (lv_at hl 1 rfl) ?_
            refine zk_ialdN hx hb hK hP 1 0 rfl rfl (k := ck) (n := 12) (by omega) (by omega) dX2_faultOfMove_42 ?_
            refine lv_aload_n hx hb dX2_faultOfMove_43 rfl (lv_at hl 0 rfl) ?_
            refine va_get (D := G.1) (ci := 1) (v := .ref (ad 1)) (C := RX2) (T := TX2) (N := 14) hx hb hts (fun _ h => List.mem_cons_of_mem _ (List.mem_append_right _ h)) hown hK hP 0 rfl rfl 5 (by decide) w1 (fun _ h9 => h9) rfl dX2_faultOfMove_44 ?_
            refine lv_iload_n hx hb dX2_faultOfMove_47 rfl (lv_at hl 2 rfl) ?_
            refine zk_ialdN hx hb hK hP 1 0 rfl rfl (k := otk) (n := 12) (by omega) (by omega) dX2_faultOfMove_48 ?_
            refine lv_icmp_ne (tgt := 56) hx hb dX2_faultOfMove_49 (by decide) (fun h49_11 => ?_) (fun h49_11 => ?_)
            · refine lv_iconst (v := nI 0) hx hb dX2_faultOfMove_56 (by decide) ?_
              refine lv_istore (lv' := [(4, .int (nI 0)), (0, .ref (ad 0)), (1, .int (nI ck)), (2, .int (nI otk)), (3, .int am)]) hx hb dX2_faultOfMove_57 hl (by decide) rfl (fun ls hl => ?_)
              refine lv_iload hx hb dX2_faultOfMove_59 (lv_at hl 0 rfl) ?_
              refine lv_if_eq (tgt := 78) hx hb dX2_faultOfMove_61 (by decide) (fun _ => ?_) (fun z => absurd (by decide) z)
              refine lv_iconst (v := nI 3) hx hb dX2_faultOfMove_78 (by decide) ?_
              exact zk_reti () hQ hx hb hr hlocks hS hP hD (Nat.le_of_ble_eq_true rfl) (Nat.le_of_ble_eq_true rfl) dX2_faultOfMove_79 (by simp +decide [zk_a0, h5_3, nck, h13_7, notk, h20_8, h27_9, h34_10, h49_11])
            · refine lv_iconst (v := nI 1) hx hb dX2_faultOfMove_52 (by decide) ?_
              refine lv_goto (tgt := 57) hx hb dX2_faultOfMove_53 (by decide) ?_
              refine lv_istore (lv' := [(4, .int (nI 1)), (0, .ref (ad 0)), (1, .int (nI ck)), (2, .int (nI otk)), (3, .int am)]) hx hb dX2_faultOfMove_57 hl (by decide) rfl (fun ls hl => ?_)
              refine lv_iload hx hb dX2_faultOfMove_59 (lv_at hl 0 rfl) ?_
              refine lv_if_eq (tgt := 78) hx hb dX2_faultOfMove_61 (by decide) (fun z => absurd z (by decide)) (fun _ => ?_)
              refine lv_aload_n hx hb dX2_faultOfMove_64 rfl (lv_at hl 1 rfl) ?_
              refine va_get (D := G.1) (ci := 1) (v := .ref (ad 3)) (C := RX2) (T := TX2) (N := 14) hx hb hts (fun _ h => List.mem_cons_of_mem _ (List.mem_append_right _ h)) hown hK hP 0 rfl rfl 7 (by decide) w2 (fun _ h9 => h9) rfl dX2_faultOfMove_65 ?_
              refine lv_iload_n hx hb dX2_faultOfMove_68 rfl (lv_at hl 2 rfl) ?_
              refine zk_ialdN hx hb hK hP 3 0 rfl rfl (k := ck) (n := 12) (by omega) (by omega) dX2_faultOfMove_69 ?_
              refine lv_iload_n hx hb dX2_faultOfMove_70 rfl (lv_at hl 4 rfl) ?_
              refine lv_icmp_lt (tgt := 78) hx hb dX2_faultOfMove_71 (by decide) (fun h71_12 => ?_) (fun h71_12 => ?_)
              · have h71_12 := h71_12
                refine lv_iconst (v := nI 3) hx hb dX2_faultOfMove_78 (by decide) ?_
                exact zk_reti () hQ hx hb hr hlocks hS hP hD (Nat.le_of_ble_eq_true rfl) (Nat.le_of_ble_eq_true rfl) dX2_faultOfMove_79 (by simp +decide [zk_a0, h5_3, nck, h13_7, notk, h20_8, h27_9, h34_10, h49_11, h71_12])
              · have h71_12 := h71_12
                refine lv_iconst (v := nI 0) hx hb dX2_faultOfMove_74 (by decide) ?_
                refine lv_goto (tgt := 79) hx hb dX2_faultOfMove_75 (by decide) ?_
                exact zk_reti () hQ hx hb hr hlocks hS hP hD (Nat.le_of_ble_eq_true rfl) (Nat.le_of_ble_eq_true rfl) dX2_faultOfMove_79 (by simp +decide [zk_a0, h5_3, nck, h13_7, notk, h20_8, h27_9, h34_10, h49_11, h71_12])
        · have h27_9 := zk_l2 h27_9
          refine lv_iconst (v := nI 2) hx hb dX2_faultOfMove_30 (by decide) ?_
          exact zk_reti () hQ hx hb hr hlocks hS hP hD (Nat.le_of_ble_eq_true rfl) (Nat.le_of_ble_eq_true rfl) dX2_faultOfMove_31 (by simp +decide [zk_a0, h5_3, nck, h13_7, notk, h20_8, h27_9])
    · have h13_7 := zk_b0 h13_7
      refine lv_iconst (v := nI 1) hx hb dX2_faultOfMove_16 (by decide) ?_
      exact zk_reti () hQ hx hb hr hlocks hS hP hD (Nat.le_of_ble_eq_true rfl) (Nat.le_of_ble_eq_true rfl) dX2_faultOfMove_17 (by simp +decide [zk_a0, h5_3, nck, h13_7])

abbrev rmX2_faultOfShare : Room := { frames := 1, cells := 0, slots := 0, locals := 20 }
set_option maxHeartbeats 4000000 in
set_option maxRecDepth 100000 in
/-- what speaks against sharing -/
theorem c_X2_faultOfShare (l : Launch) (G : zk_G) (ad : Nat → Nat) (L : zL) (n t : Nat) (hI : sInv L n t) (f : Int32) : zk_I (S := Unit) l yX2_faultOfShare wsX2_faultOfShare rmX2_faultOfShare G [.ref (ad 0), .int f] (zb_L G ad L ++ zb_M G ad L) (fun r _ => r = if ¬ sFam f then nI 1 else nI 0) (fun _ => zb_L G ad L ++ zb_M G ad L) := by
  refine zk_bodyI (cc := cX2_faultOfShare) (maxL := 2) (ret := (some .int)) (by decide) rfl (Nat.le_of_ble_eq_true rfl) ?_
  intro p E0 s m args below meth cd A ls Q hF hQ
  obtain ⟨hx, hb, hml, hr, hts, hown, hlocks, -, hE, hP, hD, hS, hA, hA0, hl⟩ := hF
  have hK := hE.1
  have hl : lv_has ls 2 [(0, .ref (ad 0)), (1, .int f)] := hl
  obtain ⟨hn, hn12, ht, ht40, hfam, hpay⟩ := id hI
  have w1 := hts _ (List.mem_of_getElem? (l := wsX2_faultOfShare) (i := 1) (a := Cond.static yX5_isFamily) rfl)
  have w2 := hts _ (List.mem_of_getElem? (l := wsX2_faultOfShare) (i := 2) (a := Cond.initialized RX5) rfl)
  refine lv_iload_n hx hb dX2_faultOfShare_0 rfl (lv_at hl 1 rfl) ?_
  have hP0 : va_P G.1 vwCl (([] : va_W) ++ (zb_L G ad L ++ zb_M G ad L)) s.heap := hP
  have hD0 : va_D A (([] : va_W) ++ (zb_L G ad L ++ zb_M G ad L)) := hD
  refine zk_callI (wr := zb_L G ad L ++ zb_M G ad L) (va_runSN (As := [.int f]) (rest := []) ⟨hx, hb, hml, hown, hts⟩ (c_X5_isFamily l G f _) ⟨va_cnB 1 hts (ggX2_faultOfShare_X5_isFamily) rfl rfl rfl hE.2.1.2.2.1 w2 (by decide +kernel) ⟨Nat.le_of_ble_eq_true rfl, Nat.le_of_ble_eq_true rfl⟩, w1, trivial⟩ (zk_preS hE hA0 hS (zk_Papp hP0).1 (zk_Dapp hD0).1) rfl rfl hl.1 rfl (lv_room (Nat.le_of_ble_eq_true rfl)) dX2_faultOfShare_1 ⟨Nat.le_of_ble_eq_true rfl, Nat.le_of_ble_eq_true rfl⟩) hP0 hD0 hS hA (fun r1 u2 H locs q3 hP hD hS => ?_)
  subst q3
  have hP : va_P G.1 vwCl (zb_L G ad L ++ zb_M G ad L) H := hP
  have hD : va_D A (zb_L G ad L ++ zb_M G ad L) := hD
  refine lv_if_eq (tgt := 11) hx hb dX2_faultOfShare_4 (by decide) (fun h4_3 => ?_) (fun h4_3 => ?_)
  · have h4_3 := zk_b0 h4_3
    refine lv_iconst (v := nI 1) hx hb dX2_faultOfShare_11 (by decide) ?_
    exact zk_reti () hQ hx hb hr hlocks hS hP hD (Nat.le_of_ble_eq_true rfl) (Nat.le_of_ble_eq_true rfl) dX2_faultOfShare_12 (by simp +decide [zk_a0, h4_3])
  · have h4_3 := zk_b1 h4_3
    refine lv_iconst (v := nI 0) hx hb dX2_faultOfShare_7 (by decide) ?_
    refine lv_goto (tgt := 12) hx hb dX2_faultOfShare_8 (by decide) ?_
    exact zk_reti () hQ hx hb hr hlocks hS hP hD (Nat.le_of_ble_eq_true rfl) (Nat.le_of_ble_eq_true rfl) dX2_faultOfShare_12 (by simp +decide [zk_a0, h4_3])

abbrev rmX2_faultOfEntitle : Room := { frames := 1, cells := 0, slots := 0, locals := 21 }
set_option maxHeartbeats 4000000 in
set_option maxRecDepth 100000 in
/-- what speaks against an entitlement -/
theorem c_X2_faultOfEntitle (l : Launch) (G : zk_G) (ad : Nat → Nat) (L : zL) (n t : Nat) (hI : sInv L n t) (c fr to : Int32) : zk_I (S := Unit) l yX2_faultOfEntitle wsX2_faultOfEntitle rmX2_faultOfEntitle G [.ref (ad 0), .int c, .int fr, .int to] (zb_L G ad L ++ zb_M G ad L) (fun r _ => r = (if ¬ sHas L c ∨ ¬ sDay fr then nI 1 else if to = -1 ∨ (¬ to < fr ∧ sDay to) then nI 0 else nI 2)) (fun _ => zb_L G ad L ++ zb_M G ad L) := by
  refine zk_bodyI (cc := cX2_faultOfEntitle) (maxL := 4) (ret := (some .int)) (by decide) rfl (Nat.le_of_ble_eq_true rfl) ?_
  intro p E0 s m args below meth cd A ls Q hF hQ
  obtain ⟨hx, hb, hml, hr, hts, hown, hlocks, -, hE, hP, hD, hS, hA, hA0, hl⟩ := hF
  have hK := hE.1
  have hl : lv_has ls 4 [(0, .ref (ad 0)), (1, .int c), (2, .int fr), (3, .int to)] := hl
  obtain ⟨hn, hn12, ht, ht40, hfam, hpay⟩ := id hI
  have w7 := hts _ (List.mem_of_getElem? (l := wsX2_faultOfEntitle) (i := 7) (a := Cond.static yX5_isDay) rfl)
  have w8 := hts _ (List.mem_of_getElem? (l := wsX2_faultOfEntitle) (i := 8) (a := Cond.initialized RX5) rfl)
  refine lv_aload_n hx hb dX2_faultOfEntitle_0 rfl (lv_at hl 0 rfl) ?_
  refine lv_iload_n hx hb dX2_faultOfEntitle_1 rfl (lv_at hl 1 rfl) ?_
  have hP0 : va_P G.1 vwCl ((zb_L G ad L ++ zb_M G ad L) ++ ([] : va_W)) s.heap := by rw [List.append_nil]; exact hP
  have hD0 : va_D A ((zb_L G ad L ++ zb_M G ad L) ++ ([] : va_W)) := by rw [List.append_nil]; exact hD
  refine zk_callI (wr := ([] : va_W)) (va_runV (As := [.int c]) (rest := []) ⟨hx, hb, hml, hown, hts⟩ (c_X2_hasChild l G ad L n t hI c _) (cwV 1 hts gX2_faultOfEntitle_X2_hasChild rfl rfl rfl (by decide +kernel) ⟨Nat.le_of_ble_eq_true rfl, Nat.le_of_ble_eq_true rfl⟩) (zk_preV hE hA0 hS (zk_Papp hP0).1 (zk_Dapp hD0).1 (va_recv hK hP (ci := 1) (q0 := 0) rfl rfl)) rfl rfl hl.1 rfl (lv_room (Nat.le_of_ble_eq_true rfl)) dX2_faultOfEntitle_2 ⟨Nat.le_of_ble_eq_true rfl, Nat.le_of_ble_eq_true rfl⟩) hP0 hD0 hS hA (fun r1 u2 H locs q3 hP hD hS => ?_)
  subst q3
  rw [List.append_nil] at hP hD
  have hP : va_P G.1 vwCl (zb_L G ad L ++ zb_M G ad L) H := hP
  have hD : va_D A (zb_L G ad L ++ zb_M G ad L) := hD
  refine lv_if_eq (tgt := 15) hx hb dX2_faultOfEntitle_5 (by decide) (fun h5_3 => ?_) (fun h5_3 => ?_)
  · have h5_3 := zk_b0 h5_3
    refine lv_iconst (v := nI 1) hx hb dX2_faultOfEntitle_15 (by decide) ?_
    exact zk_reti () hQ hx hb hr hlocks hS hP hD (Nat.le_of_ble_eq_true rfl) (Nat.le_of_ble_eq_true rfl) dX2_faultOfEntitle_16 (by simp +decide [zk_a0, h5_3])
  · have h5_3 := zk_b1 h5_3
    refine lv_iload_n hx hb dX2_faultOfEntitle_8 rfl (lv_at hl 2 rfl) ?_
    have hP0 : va_P G.1 vwCl (([] : va_W) ++ (zb_L G ad L ++ zb_M G ad L)) H := hP
    have hD0 : va_D A (([] : va_W) ++ (zb_L G ad L ++ zb_M G ad L)) := hD
    refine zk_callI (wr := zb_L G ad L ++ zb_M G ad L) (va_runSN (As := [.int fr]) (rest := []) ⟨hx, hb, hml, hown, hts⟩ (c_X5_isDay l G fr _) ⟨va_cnB 1 hts (ggX2_faultOfEntitle_X5_isDay) rfl rfl rfl hE.2.1.2.2.2.1 w8 (by decide +kernel) ⟨Nat.le_of_ble_eq_true rfl, Nat.le_of_ble_eq_true rfl⟩, w7, trivial⟩ (zk_preS hE hA0 hS (zk_Papp hP0).1 (zk_Dapp hD0).1) rfl rfl hl.1 rfl (lv_room (Nat.le_of_ble_eq_true rfl)) dX2_faultOfEntitle_9 ⟨Nat.le_of_ble_eq_true rfl, Nat.le_of_ble_eq_true rfl⟩) hP0 hD0 hS hA (fun r5 u6 H locs q7 hP hD hS => ?_)
    subst q7
    have hP : va_P G.1 vwCl (zb_L G ad L ++ zb_M G ad L) H := hP
    have hD : va_D A (zb_L G ad L ++ zb_M G ad L) := hD
    refine lv_if_ne (tgt := 17) hx hb dX2_faultOfEntitle_12 (by decide) (fun h12_7 => ?_) (fun h12_7 => ?_)
    · have h12_7 := zk_b1 h12_7
      refine lv_iload_n hx hb dX2_faultOfEntitle_17 rfl (lv_at hl 3 rfl) ?_
      refine lv_iconst (v := -1) hx hb dX2_faultOfEntitle_18 (by decide) ?_
      refine lv_icmp_eq (tgt := 34) hx hb dX2_faultOfEntitle_19 (by decide) (fun h19_8 => ?_) (fun h19_8 => ?_)
      · refine lv_iconst (v := nI 0) hx hb dX2_faultOfEntitle_34 (by decide) ?_
        refine lv_goto (tgt := 39) hx hb dX2_faultOfEntitle_35 (by decide) ?_
        exact zk_reti () hQ hx hb hr hlocks hS hP hD (Nat.le_of_ble_eq_true rfl) (Nat.le_of_ble_eq_true rfl) dX2_faultOfEntitle_39 (by simp +decide [zk_a0, h5_3, h12_7, h19_8])
      · refine lv_iload_n hx hb dX2_faultOfEntitle_22 rfl (lv_at hl 3 rfl) ?_
        refine lv_iload_n hx hb dX2_faultOfEntitle_23 rfl (lv_at hl 2 rfl) ?_
        refine lv_icmp_lt (tgt := 38) hx hb dX2_faultOfEntitle_24 (by decide) (fun h24_9 => ?_) (fun h24_9 => ?_)
        · have h24_9 := h24_9
          refine lv_iconst (v := nI 2) hx hb dX2_faultOfEntitle_38 (by decide) ?_
          exact zk_reti () hQ hx hb hr hlocks hS hP hD (Nat.le_of_ble_eq_true rfl) (Nat.le_of_ble_eq_true rfl) dX2_faultOfEntitle_39 (by simp +decide [zk_a0, h5_3, h12_7, h19_8, h24_9])
        · have h24_9 := h24_9
          refine lv_iload_n hx hb dX2_faultOfEntitle_27 rfl (lv_at hl 3 rfl) ?_
          have hP0 : va_P G.1 vwCl (([] : va_W) ++ (zb_L G ad L ++ zb_M G ad L)) H := hP
          have hD0 : va_D A (([] : va_W) ++ (zb_L G ad L ++ zb_M G ad L)) := hD
          refine zk_callI (wr := zb_L G ad L ++ zb_M G ad L) (va_runSN (As := [.int to]) (rest := []) ⟨hx, hb, hml, hown, hts⟩ (c_X5_isDay l G to _) ⟨va_cnB 1 hts (ggX2_faultOfEntitle_X5_isDay) rfl rfl rfl hE.2.1.2.2.2.1 w8 (by decide +kernel) ⟨Nat.le_of_ble_eq_true rfl, Nat.le_of_ble_eq_true rfl⟩, w7, trivial⟩ (zk_preS hE hA0 hS (zk_Papp hP0).1 (zk_Dapp hD0).1) rfl rfl hl.1 rfl (lv_room (Nat.le_of_ble_eq_true rfl)) dX2_faultOfEntitle_28 ⟨Nat.le_of_ble_eq_true rfl, Nat.le_of_ble_eq_true rfl⟩) hP0 hD0 hS hA (fun r11 u12 H locs q13 hP hD hS => ?_)
          subst q13
          have hP : va_P G.1 vwCl (zb_L G ad L ++ zb_M G ad L) H := hP
          have hD : va_D A (zb_L G ad L ++ zb_M G ad L) := hD
          refine lv_if_eq (tgt := 38) hx hb dX2_faultOfEntitle_31 (by decide) (fun h31_13 => ?_) (fun h31_13 => ?_)
          · have h31_13 := zk_b0 h31_13
            refine lv_iconst (v := nI 2) hx hb dX2_faultOfEntitle_38 (by decide) ?_
            exact zk_reti () hQ hx hb hr hlocks hS hP hD (Nat.le_of_ble_eq_true rfl) (Nat.le_of_ble_eq_true rfl) dX2_faultOfEntitle_39 (by simp +decide [zk_a0, h5_3, h12_7, h19_8, h24_9, h31_13])
          · have h31_13 := zk_b1 h31_13
            refine lv_iconst (v := nI 0) hx hb dX2_faultOfEntitle_34 (by decide) ?_
            refine lv_goto (tgt := 39) hx hb dX2_faultOfEntitle_35 (by decide) ?_
            exact zk_reti () hQ hx hb hr hlocks hS hP hD (Nat.le_of_ble_eq_true rfl) (Nat.le_of_ble_eq_true rfl) dX2_faultOfEntitle_39 (by simp +decide [zk_a0, h5_3, h12_7, h19_8, h24_9, h31_13])
    · have h12_7 := zk_b0 h12_7
      refine lv_iconst (v := nI 1) hx hb dX2_faultOfEntitle_15 (by decide) ?_
      exact zk_reti () hQ hx hb hr hlocks hS hP hD (Nat.le_of_ble_eq_true rfl) (Nat.le_of_ble_eq_true rfl) dX2_faultOfEntitle_16 (by simp +decide [zk_a0, h5_3, h12_7])

abbrev rmX2_faultOfWriteOff : Room := { frames := 1, cells := 0, slots := 0, locals := 23 }
set_option maxHeartbeats 4000000 in
set_option maxRecDepth 100000 in
/-- what speaks against writing off -/
theorem c_X2_faultOfWriteOff (l : Launch) (G : zk_G) (ad : Nat → Nat) (L : zL) (n t : Nat) (hI : sInv L n t) (f : Int32) : zk_I (S := Unit) l yX2_faultOfWriteOff wsX2_faultOfWriteOff rmX2_faultOfWriteOff G [.ref (ad 0), .int f] (zb_L G ad L ++ zb_M G ad L) (fun r _ => r = (if ¬ sFam f then nI 1 else if sDebt L n f = 0 then nI 3 else nI 0)) (fun _ => zb_L G ad L ++ zb_M G ad L) := by
  refine zk_bodyI (cc := cX2_faultOfWriteOff) (maxL := 2) (ret := (some .int)) (by decide) rfl (Nat.le_of_ble_eq_true rfl) ?_
  intro p E0 s m args below meth cd A ls Q hF hQ
  obtain ⟨hx, hb, hml, hr, hts, hown, hlocks, -, hE, hP, hD, hS, hA, hA0, hl⟩ := hF
  have hK := hE.1
  have hl : lv_has ls 2 [(0, .ref (ad 0)), (1, .int f)] := hl
  obtain ⟨hn, hn12, ht, ht40, hfam, hpay⟩ := id hI
  have w1 := hts _ (List.mem_of_getElem? (l := wsX2_faultOfWriteOff) (i := 1) (a := Cond.static yX5_isFamily) rfl)
  have w2 := hts _ (List.mem_of_getElem? (l := wsX2_faultOfWriteOff) (i := 2) (a := Cond.initialized RX5) rfl)
  refine lv_iload_n hx hb dX2_faultOfWriteOff_0 rfl (lv_at hl 1 rfl) ?_
  have hP0 : va_P G.1 vwCl (([] : va_W) ++ (zb_L G ad L ++ zb_M G ad L)) s.heap := hP
  have hD0 : va_D A (([] : va_W) ++ (zb_L G ad L ++ zb_M G ad L)) := hD
  refine zk_callI (wr := zb_L G ad L ++ zb_M G ad L) (va_runSN (As := [.int f]) (rest := []) ⟨hx, hb, hml, hown, hts⟩ (c_X5_isFamily l G f _) ⟨va_cnB 1 hts (ggX2_faultOfWriteOff_X5_isFamily) rfl rfl rfl hE.2.1.2.2.1 w2 (by decide +kernel) ⟨Nat.le_of_ble_eq_true rfl, Nat.le_of_ble_eq_true rfl⟩, w1, trivial⟩ (zk_preS hE hA0 hS (zk_Papp hP0).1 (zk_Dapp hD0).1) rfl rfl hl.1 rfl (lv_room (Nat.le_of_ble_eq_true rfl)) dX2_faultOfWriteOff_1 ⟨Nat.le_of_ble_eq_true rfl, Nat.le_of_ble_eq_true rfl⟩) hP0 hD0 hS hA (fun r1 u2 H locs q3 hP hD hS => ?_)
  subst q3
  have hP : va_P G.1 vwCl (zb_L G ad L ++ zb_M G ad L) H := hP
  have hD : va_D A (zb_L G ad L ++ zb_M G ad L) := hD
  refine lv_if_ne (tgt := 9) hx hb dX2_faultOfWriteOff_4 (by decide) (fun h4_3 => ?_) (fun h4_3 => ?_)
  · have h4_3 := zk_b1 h4_3
    refine lv_aload_n hx hb dX2_faultOfWriteOff_9 rfl (lv_at hl 0 rfl) ?_
    refine lv_iload_n hx hb dX2_faultOfWriteOff_10 rfl (lv_at hl 1 rfl) ?_
    have hP0 : va_P G.1 vwCl ((zb_L G ad L ++ zb_M G ad L) ++ ([] : va_W)) H := by rw [List.append_nil]; exact hP
    have hD0 : va_D A ((zb_L G ad L ++ zb_M G ad L) ++ ([] : va_W)) := by rw [List.append_nil]; exact hD
    refine zk_callI (wr := ([] : va_W)) (va_runV (As := [.int f]) (rest := []) ⟨hx, hb, hml, hown, hts⟩ (c_X2_debtOf l G ad L n t hI f _) (cwV 1 hts gX2_faultOfWriteOff_X2_debtOf rfl rfl rfl (by decide +kernel) ⟨Nat.le_of_ble_eq_true rfl, Nat.le_of_ble_eq_true rfl⟩) (zk_preV hE hA0 hS (zk_Papp hP0).1 (zk_Dapp hD0).1 (va_recv hK hP (ci := 1) (q0 := 0) rfl rfl)) rfl rfl hl.1 rfl (lv_room (Nat.le_of_ble_eq_true rfl)) dX2_faultOfWriteOff_11 ⟨Nat.le_of_ble_eq_true rfl, Nat.le_of_ble_eq_true rfl⟩) hP0 hD0 hS hA (fun r5 u6 H locs q7 hP hD hS => ?_)
    subst q7
    rw [List.append_nil] at hP hD
    have hP : va_P G.1 vwCl (zb_L G ad L ++ zb_M G ad L) H := hP
    have hD : va_D A (zb_L G ad L ++ zb_M G ad L) := hD
    refine lv_if_ne (tgt := 21) hx hb dX2_faultOfWriteOff_14 (by decide) (fun h14_7 => ?_) (fun h14_7 => ?_)
    · refine lv_iconst (v := nI 0) hx hb dX2_faultOfWriteOff_21 (by decide) ?_
      exact zk_reti () hQ hx hb hr hlocks hS hP hD (Nat.le_of_ble_eq_true rfl) (Nat.le_of_ble_eq_true rfl) dX2_faultOfWriteOff_22 (by simp +decide [zk_a0, h4_3, h14_7])
    · refine lv_iconst (v := nI 3) hx hb dX2_faultOfWriteOff_17 (by decide) ?_
      refine lv_goto (tgt := 22) hx hb dX2_faultOfWriteOff_18 (by decide) ?_
      exact zk_reti () hQ hx hb hr hlocks hS hP hD (Nat.le_of_ble_eq_true rfl) (Nat.le_of_ble_eq_true rfl) dX2_faultOfWriteOff_22 (by simp +decide [zk_a0, h4_3, h14_7])
  · have h4_3 := zk_b0 h4_3
    refine lv_iconst (v := nI 1) hx hb dX2_faultOfWriteOff_7 (by decide) ?_
    exact zk_reti () hQ hx hb hr hlocks hS hP hD (Nat.le_of_ble_eq_true rfl) (Nat.le_of_ble_eq_true rfl) dX2_faultOfWriteOff_8 (by simp +decide [zk_a0, h4_3])

abbrev rmX2_faultOfDays : Room := { frames := 1, cells := 0, slots := 0, locals := 20 }
set_option maxHeartbeats 4000000 in
set_option maxRecDepth 100000 in
/-- what speaks against days -/
theorem c_X2_faultOfDays (l : Launch) (G : zk_G) (ad : Nat → Nat) (L : zL) (n t : Nat) (hI : sInv L n t) (k : Int32) : zk_I (S := Unit) l yX2_faultOfDays wsX2_faultOfDays rmX2_faultOfDays G [.ref (ad 0), .int k] (zb_L G ad L ++ zb_M G ad L) (fun r _ => r = (if k < nI 1 ∨ nI 40 < k then nI 2 else if nI (40 - t) < k then nI 3 else nI 0)) (fun _ => zb_L G ad L ++ zb_M G ad L) := by
  refine zk_bodyI (cc := cX2_faultOfDays) (maxL := 2) (ret := (some .int)) (by decide) rfl (Nat.le_of_ble_eq_true rfl) ?_
  intro p E0 s m args below meth cd A ls Q hF hQ
  obtain ⟨hx, hb, hml, hr, hts, hown, hlocks, -, hE, hP, hD, hS, hA, hA0, hl⟩ := hF
  have hK := hE.1
  have hl : lv_has ls 2 [(0, .ref (ad 0)), (1, .int k)] := hl
  obtain ⟨hn, hn12, ht, ht40, hfam, hpay⟩ := id hI
  refine lv_iload_n hx hb dX2_faultOfDays_0 rfl (lv_at hl 1 rfl) ?_
  refine lv_iconst (v := nI 1) hx hb dX2_faultOfDays_1 (by decide) ?_
  refine lv_icmp_lt (tgt := 11) hx hb dX2_faultOfDays_2 (by decide) (fun h2_0 => ?_) (fun h2_0 => ?_)
  · have h2_0 := h2_0
    refine lv_iconst (v := nI 2) hx hb dX2_faultOfDays_11 (by decide) ?_
    exact zk_reti () hQ hx hb hr hlocks hS hP hD (Nat.le_of_ble_eq_true rfl) (Nat.le_of_ble_eq_true rfl) dX2_faultOfDays_12 (by simp +decide [zk_a0, h2_0])
  · have h2_0 := h2_0
    refine lv_iload_n hx hb dX2_faultOfDays_5 rfl (lv_at hl 1 rfl) ?_
    refine lv_bipush (v := nI 40) hx hb dX2_faultOfDays_6 (by decide) ?_
    refine lv_icmp_le (tgt := 13) hx hb dX2_faultOfDays_8 (by decide) (fun h8_1 => ?_) (fun h8_1 => ?_)
    · have h8_1 := zk_l1 h8_1
      refine lv_iload_n hx hb dX2_faultOfDays_13 rfl (lv_at hl 1 rfl) ?_
      refine lv_aload_n hx hb dX2_faultOfDays_14 rfl (lv_at hl 0 rfl) ?_
      have hP0 : va_P G.1 vwCl ((zb_L G ad L ++ zb_M G ad L) ++ ([] : va_W)) s.heap := by rw [List.append_nil]; exact hP
      have hD0 : va_D A ((zb_L G ad L ++ zb_M G ad L) ++ ([] : va_W)) := by rw [List.append_nil]; exact hD
      refine zk_callI (wr := ([] : va_W)) (va_runV (As := []) (rest := [.int k]) ⟨hx, hb, hml, hown, hts⟩ (c_X2_daysLeft l G ad L n t hI _) (cwV 0 hts gX2_faultOfDays_X2_daysLeft rfl rfl rfl (by decide +kernel) ⟨Nat.le_of_ble_eq_true rfl, Nat.le_of_ble_eq_true rfl⟩) (zk_preV hE hA0 hS (zk_Papp hP0).1 (zk_Dapp hD0).1 (va_recv hK hP (ci := 1) (q0 := 0) rfl rfl)) rfl rfl hl.1 rfl (lv_room (Nat.le_of_ble_eq_true rfl)) dX2_faultOfDays_15 ⟨Nat.le_of_ble_eq_true rfl, Nat.le_of_ble_eq_true rfl⟩) hP0 hD0 hS hA (fun r3 u4 H locs q5 hP hD hS => ?_)
      subst q5
      rw [List.append_nil] at hP hD
      have hP : va_P G.1 vwCl (zb_L G ad L ++ zb_M G ad L) H := hP
      have hD : va_D A (zb_L G ad L ++ zb_M G ad L) := hD
      refine lv_icmp_le (tgt := 25) hx hb dX2_faultOfDays_18 (by decide) (fun h18_5 => ?_) (fun h18_5 => ?_)
      · have h18_5 := zk_l1 h18_5
        refine lv_iconst (v := nI 0) hx hb dX2_faultOfDays_25 (by decide) ?_
        exact zk_reti () hQ hx hb hr hlocks hS hP hD (Nat.le_of_ble_eq_true rfl) (Nat.le_of_ble_eq_true rfl) dX2_faultOfDays_26 (by simp +decide [zk_a0, h2_0, h8_1, h18_5])
      · have h18_5 := zk_l2 h18_5
        refine lv_iconst (v := nI 3) hx hb dX2_faultOfDays_21 (by decide) ?_
        refine lv_goto (tgt := 26) hx hb dX2_faultOfDays_22 (by decide) ?_
        exact zk_reti () hQ hx hb hr hlocks hS hP hD (Nat.le_of_ble_eq_true rfl) (Nat.le_of_ble_eq_true rfl) dX2_faultOfDays_26 (by simp +decide [zk_a0, h2_0, h8_1, h18_5])
    · have h8_1 := zk_l2 h8_1
      refine lv_iconst (v := nI 2) hx hb dX2_faultOfDays_11 (by decide) ?_
      exact zk_reti () hQ hx hb hr hlocks hS hP hD (Nat.le_of_ble_eq_true rfl) (Nat.le_of_ble_eq_true rfl) dX2_faultOfDays_12 (by simp +decide [zk_a0, h2_0, h8_1])

abbrev rmX2_isSuited : Room := { frames := 0, cells := 0, slots := 0, locals := 0 }
set_option maxHeartbeats 4000000 in
set_option maxRecDepth 100000 in
/-- does the menu suit -/
theorem c_X2_isSuited (l : Launch) (G : zk_G) (ad : Nat → Nat) (L : zL) (n t : Nat) (hI : sInv L n t) (c d : Nat) (hc : c < n) (hd : d < 40) : zk_I (S := Unit) l yX2_isSuited wsX2_isSuited rmX2_isSuited G [.ref (ad 0), .int (nI c), .int (nI d)] (zb_L G ad L ++ zb_M G ad L) (fun r _ => r = if sSuit L c d then nI 1 else nI 0) (fun _ => zb_L G ad L ++ zb_M G ad L) := by
  refine zk_bodyI (cc := cX2_isSuited) (maxL := 3) (ret := (some .boolean)) (by decide) rfl (Nat.le_of_ble_eq_true rfl) ?_
  intro p E0 s m args below meth cd A ls Q hF hQ
  obtain ⟨hx, hb, hml, hr, hts, hown, hlocks, -, hE, hP, hD, hS, hA, hA0, hl⟩ := hF
  have hK := hE.1
  have hl : lv_has ls 3 [(0, .ref (ad 0)), (1, .int (nI c)), (2, .int (nI d))] := hl
  obtain ⟨hn, hn12, ht, ht40, hfam, hpay⟩ := id hI
  have w1 := hts _ (List.mem_of_getElem? (l := wsX2_isSuited) (i := 1) (a := Cond.fieldLink RX2 27 "MealAccounts$Ledger" "menuOn" "[I") rfl)
  have w2 := hts _ (List.mem_of_getElem? (l := wsX2_isSuited) (i := 2) (a := Cond.fieldLink RX2 15 "MealAccounts$Ledger" "dietOf" "[I") rfl)
  refine lv_aload_n hx hb dX2_isSuited_0 rfl (lv_at hl 0 rfl) ?_
  refine va_get (D := G.1) (ci := 1) (v := .ref (ad 6)) (C := RX2) (T := TX2) (N := 14) hx hb hts (fun _ h => List.mem_cons_of_mem _ (List.mem_append_right _ h)) hown hK hP 0 rfl rfl 10 (by decide) w1 (fun _ h9 => h9) rfl dX2_isSuited_1 ?_
  refine lv_iload_n hx hb dX2_isSuited_4 rfl (lv_at hl 2 rfl) ?_
  refine zk_ialdN hx hb hK hP 6 0 rfl rfl (k := d) (n := 40) (by omega) (by omega) dX2_isSuited_5 ?_
  refine lv_aload_n hx hb dX2_isSuited_6 rfl (lv_at hl 0 rfl) ?_
  refine va_get (D := G.1) (ci := 1) (v := .ref (ad 2)) (C := RX2) (T := TX2) (N := 14) hx hb hts (fun _ h => List.mem_cons_of_mem _ (List.mem_append_right _ h)) hown hK hP 0 rfl rfl 6 (by decide) w2 (fun _ h9 => h9) rfl dX2_isSuited_7 ?_
  refine lv_iload_n hx hb dX2_isSuited_10 rfl (lv_at hl 1 rfl) ?_
  refine zk_ialdN hx hb hK hP 2 0 rfl rfl (k := c) (n := 12) (by omega) (by omega) dX2_isSuited_11 ?_
  refine lv_iand hx hb dX2_isSuited_12 ?_
  refine lv_if_ne (tgt := 20) hx hb dX2_isSuited_13 (by decide) (fun h13_0 => ?_) (fun h13_0 => ?_)
  · refine lv_iconst (v := nI 0) hx hb dX2_isSuited_20 (by decide) ?_
    exact zk_retz () hQ hx hb hr hlocks hS hP hD (Nat.le_of_ble_eq_true rfl) (Nat.le_of_ble_eq_true rfl) dX2_isSuited_21 (rfl) (by simp +decide [zk_a0, h13_0])
  · refine lv_iconst (v := nI 1) hx hb dX2_isSuited_16 (by decide) ?_
    refine lv_goto (tgt := 21) hx hb dX2_isSuited_17 (by decide) ?_
    exact zk_retz () hQ hx hb hr hlocks hS hP hD (Nat.le_of_ble_eq_true rfl) (Nat.le_of_ble_eq_true rfl) dX2_isSuited_21 (rfl) (by simp +decide [zk_a0, h13_0])

abbrev rmX2_kindWithoutPayer : Room := { frames := 1, cells := 0, slots := 0, locals := 22 }
set_option maxHeartbeats 4000000 in
set_option maxRecDepth 100000 in
/-- what becomes of a meal that nobody pays -/
theorem c_X2_kindWithoutPayer (l : Launch) (G : zk_G) (ad : Nat → Nat) (L : zL) (n t : Nat) (hI : sInv L n t) (c d : Nat) (hc : c < n) (hd : d < 40) : zk_I (S := Unit) l yX2_kindWithoutPayer wsX2_kindWithoutPayer rmX2_kindWithoutPayer G [.ref (ad 0), .int (nI c), .int (nI d)] (zb_L G ad L ++ zb_M G ad L) (fun r _ => r = sKind L c d) (fun _ => zb_L G ad L ++ zb_M G ad L) := by
  refine zk_bodyI (cc := cX2_kindWithoutPayer) (maxL := 3) (ret := (some .int)) (by decide) rfl (Nat.le_of_ble_eq_true rfl) ?_
  intro p E0 s m args below meth cd A ls Q hF hQ
  obtain ⟨hx, hb, hml, hr, hts, hown, hlocks, -, hE, hP, hD, hS, hA, hA0, hl⟩ := hF
  have hK := hE.1
  have hl : lv_has ls 3 [(0, .ref (ad 0)), (1, .int (nI c)), (2, .int (nI d))] := hl
  obtain ⟨hn, hn12, ht, ht40, hfam, hpay⟩ := id hI
  refine lv_aload_n hx hb dX2_kindWithoutPayer_0 rfl (lv_at hl 0 rfl) ?_
  refine lv_iload_n hx hb dX2_kindWithoutPayer_1 rfl (lv_at hl 1 rfl) ?_
  refine lv_iload_n hx hb dX2_kindWithoutPayer_2 rfl (lv_at hl 2 rfl) ?_
  have hP0 : va_P G.1 vwCl ((zb_L G ad L ++ zb_M G ad L) ++ ([] : va_W)) s.heap := by rw [List.append_nil]; exact hP
  have hD0 : va_D A ((zb_L G ad L ++ zb_M G ad L) ++ ([] : va_W)) := by rw [List.append_nil]; exact hD
  refine zk_callI (wr := ([] : va_W)) (va_runV (As := [.int (nI c), .int (nI d)]) (rest := []) ⟨hx, hb, hml, hown, hts⟩ (c_X2_isSuited l G ad L n t hI c d (by omega) (by omega) _) (cwV 2 hts gX2_kindWithoutPayer_X2_isSuited rfl rfl rfl (by decide +kernel) ⟨Nat.le_of_ble_eq_true rfl, Nat.le_of_ble_eq_true rfl⟩) (zk_preV hE hA0 hS (zk_Papp hP0).1 (zk_Dapp hD0).1 (va_recv hK hP (ci := 1) (q0 := 0) rfl rfl)) rfl rfl hl.1 rfl (lv_room (Nat.le_of_ble_eq_true rfl)) dX2_kindWithoutPayer_3 ⟨Nat.le_of_ble_eq_true rfl, Nat.le_of_ble_eq_true rfl⟩) hP0 hD0 hS hA (fun r1 u2 H locs q3 hP hD hS => ?_)
  subst q3
  rw [List.append_nil] at hP hD
  have hP : va_P G.1 vwCl (zb_L G ad L ++ zb_M G ad L) H := hP
  have hD : va_D A (zb_L G ad L ++ zb_M G ad L) := hD
  refine lv_if_ne (tgt := 11) hx hb dX2_kindWithoutPayer_6 (by decide) (fun h6_3 => ?_) (fun h6_3 => ?_)
  · have h6_3 := zk_b1 h6_3
    refine lv_aload_n hx hb dX2_kindWithoutPayer_11 rfl (lv_at hl 0 rfl) ?_
    refine lv_iload_n hx hb dX2_kindWithoutPayer_12 rfl (lv_at hl 1 rfl) ?_
    refine lv_iload_n hx hb dX2_kindWithoutPayer_13 rfl (lv_at hl 2 rfl) ?_
    have hP0 : va_P G.1 vwCl ((zb_L G ad L ++ zb_M G ad L) ++ ([] : va_W)) H := by rw [List.append_nil]; exact hP
    have hD0 : va_D A ((zb_L G ad L ++ zb_M G ad L) ++ ([] : va_W)) := by rw [List.append_nil]; exact hD
    refine zk_callI (wr := ([] : va_W)) (va_runV (As := [.int (nI c), .int (nI d)]) (rest := []) ⟨hx, hb, hml, hown, hts⟩ (c_X2_isEntitled l G ad L n t hI c d (by omega) (by omega) _) (cwV 2 hts gX2_kindWithoutPayer_X2_isEntitled rfl rfl rfl (by decide +kernel) ⟨Nat.le_of_ble_eq_true rfl, Nat.le_of_ble_eq_true rfl⟩) (zk_preV hE hA0 hS (zk_Papp hP0).1 (zk_Dapp hD0).1 (va_recv hK hP (ci := 1) (q0 := 0) rfl rfl)) rfl rfl hl.1 rfl (lv_room (Nat.le_of_ble_eq_true rfl)) dX2_kindWithoutPayer_14 ⟨Nat.le_of_ble_eq_true rfl, Nat.le_of_ble_eq_true rfl⟩) hP0 hD0 hS hA (fun r5 u6 H locs q7 hP hD hS => ?_)
    subst q7
    rw [List.append_nil] at hP hD
    have hP : va_P G.1 vwCl (zb_L G ad L ++ zb_M G ad L) H := hP
    have hD : va_D A (zb_L G ad L ++ zb_M G ad L) := hD
    refine lv_if_eq (tgt := 24) hx hb dX2_kindWithoutPayer_17 (by decide) (fun h17_7 => ?_) (fun h17_7 => ?_)
    · have h17_7 := zk_b0 h17_7
      refine lv_iconst (v := nI 4) hx hb dX2_kindWithoutPayer_24 (by decide) ?_
      exact zk_reti () hQ hx hb hr hlocks hS hP hD (Nat.le_of_ble_eq_true rfl) (Nat.le_of_ble_eq_true rfl) dX2_kindWithoutPayer_25 (by unfold sKind; simp +decide [zk_a0, h6_3, h17_7])
    · have h17_7 := zk_b1 h17_7
      refine lv_iconst (v := nI 3) hx hb dX2_kindWithoutPayer_20 (by decide) ?_
      refine lv_goto (tgt := 25) hx hb dX2_kindWithoutPayer_21 (by decide) ?_
      exact zk_reti () hQ hx hb hr hlocks hS hP hD (Nat.le_of_ble_eq_true rfl) (Nat.le_of_ble_eq_true rfl) dX2_kindWithoutPayer_25 (by unfold sKind; simp +decide [zk_a0, h6_3, h17_7])
  · have h6_3 := zk_b0 h6_3
    refine lv_iconst (v := nI 5) hx hb dX2_kindWithoutPayer_9 (by decide) ?_
    exact zk_reti () hQ hx hb hr hlocks hS hP hD (Nat.le_of_ble_eq_true rfl) (Nat.le_of_ble_eq_true rfl) dX2_kindWithoutPayer_10 (by unfold sKind; simp +decide [zk_a0, h6_3])

abbrev rmX2_richestSibling : Room := { frames := 0, cells := 0, slots := 0, locals := 0 }
set_option maxHeartbeats 4000000 in
set_option maxRecDepth 100000 in
/-- who can pay for a child -/
theorem c_X2_richestSibling (l : Launch) (G : zk_G) (ad : Nat → Nat) (L : zL) (n t : Nat) (hI : sInv L n t) (c : Nat) (hc : c < n) : zk_I (S := Unit) l yX2_richestSibling wsX2_richestSibling rmX2_richestSibling G [.ref (ad 0), .int (nI c)] (zb_L G ad L ++ zb_M G ad L) (fun r _ => r = (sRich L c n).1) (fun _ => zb_L G ad L ++ zb_M G ad L) := by
  refine zk_bodyI (cc := cX2_richestSibling) (maxL := 5) (ret := (some .int)) (by decide) rfl (Nat.le_of_ble_eq_true rfl) ?_
  intro p E0 s m args below meth cd A ls Q hF hQ
  obtain ⟨hx, hb, hml, hr, hts, hown, hlocks, -, hE, hP, hD, hS, hA, hA0, hl⟩ := hF
  have hK := hE.1
  have hl : lv_has ls 5 [(0, .ref (ad 0)), (1, .int (nI c))] := hl
  obtain ⟨hn, hn12, ht, ht40, hfam, hpay⟩ := id hI
  have w1 := hts _ (List.mem_of_getElem? (l := wsX2_richestSibling) (i := 1) (a := Cond.fieldLink RX2 43 "MealAccounts$Ledger" "price" "I") rfl)
  have w2 := hts _ (List.mem_of_getElem? (l := wsX2_richestSibling) (i := 2) (a := Cond.fieldLink RX2 53 "MealAccounts$Ledger" "children" "I") rfl)
  have w3 := hts _ (List.mem_of_getElem? (l := wsX2_richestSibling) (i := 3) (a := Cond.fieldLink RX2 9 "MealAccounts$Ledger" "familyOf" "[I") rfl)
  have w4 := hts _ (List.mem_of_getElem? (l := wsX2_richestSibling) (i := 4) (a := Cond.fieldLink RX2 18 "MealAccounts$Ledger" "balanceOf" "[I") rfl)
  refine lv_iconst (v := -1) hx hb dX2_richestSibling_0 (by decide) ?_
  refine lv_topi (fun x1 ex1 => ?_)
  refine lv_istore_n (lv' := [(2, .int x1), (0, .ref (ad 0)), (1, .int (nI c))]) hx hb dX2_richestSibling_1 rfl hl (by decide) rfl (fun ls hl => ?_)
  refine lv_aload_n hx hb dX2_richestSibling_2 rfl (lv_at hl 1 rfl) ?_
  refine va_get (D := G.1) (ci := 1) (v := .int (L 0 2)) (C := RX2) (T := TX2) (N := 14) hx hb hts (fun _ h => List.mem_cons_of_mem _ (List.mem_append_right _ h)) hown hK hP 0 rfl rfl 2 (by decide) w1 (fun _ h9 => h9) rfl dX2_richestSibling_3 ?_
  refine lv_iconst (v := nI 1) hx hb dX2_richestSibling_6 (by decide) ?_
  refine lv_isub hx hb dX2_richestSibling_7 ?_
  refine lv_topi (fun x2 ex2 => ?_)
  refine lv_istore_n (lv' := [(3, .int x2), (2, .int x1), (0, .ref (ad 0)), (1, .int (nI c))]) hx hb dX2_richestSibling_8 rfl hl (by decide) rfl (fun ls hl => ?_)
  refine lv_iconst (v := nI 0) hx hb dX2_richestSibling_9 (by decide) ?_
  refine lv_istore (lv' := [(4, .int (nI 0)), (3, .int x2), (2, .int x1), (0, .ref (ad 0)), (1, .int (nI c))]) hx hb dX2_richestSibling_10 hl (by decide) rfl (fun ls hl => ?_)
  have lp3 : ∀ (n5 : Nat) (i : Nat) (x : Int32) (y : Int32), n - i < n5 → (i ≤ n) → ((x, y) = sRich L c i) → ∀ (ls : Array Slot), lv_has ls 5 [(4, .int (nI i)), (3, .int y), (2, .int x), (0, .ref (ad 0)), (1, .int (nI c))] → W p l E0 rmX2_richestSibling s m args below meth cd s.heap [] 0 0 Q (F0 m 12 ls []) := by
    intro n5
    induction n5 with
    | zero => intro i x y hz; exact absurd hz (Nat.not_lt_zero _)
    | succ n5 ih4 =>
      intro i x y hm hi hq ls hl
      refine lv_iload hx hb dX2_richestSibling_12 (lv_at hl 0 rfl) ?_
      refine lv_aload_n hx hb dX2_richestSibling_14 rfl (lv_at hl 3 rfl) ?_
      refine va_get (D := G.1) (ci := 1) (v := .int (L 0 1)) (C := RX2) (T := TX2) (N := 14) hx hb hts (fun _ h => List.mem_cons_of_mem _ (List.mem_append_right _ h)) hown hK hP 0 rfl rfl 1 (by decide) w2 (fun _ h9 => h9) rfl dX2_richestSibling_15 ?_
      refine zk_top hI.1 ?_
      refine lv_icmp_ge (tgt := 71) hx hb dX2_richestSibling_18 (by decide) (fun h18_5 => ?_) (fun h18_5 => ?_)
      · have h18_5 := zk_le (by omega) (by omega) h18_5
        refine lv_iload_n hx hb dX2_richestSibling_71 rfl (lv_at hl 2 rfl) ?_
        exact zk_reti () hQ hx hb hr hlocks hS hP hD (Nat.le_of_ble_eq_true rfl) (Nat.le_of_ble_eq_true rfl) dX2_richestSibling_72 (by rw [show i = n by omega] at hq; exact congrArg Prod.fst hq)
      · have h18_5 := zk_nle (by omega) (by omega) h18_5
        refine lv_iload hx hb dX2_richestSibling_21 (lv_at hl 0 rfl) ?_
        refine lv_iload_n hx hb dX2_richestSibling_23 rfl (lv_at hl 4 rfl) ?_
        refine lv_icmp_eq (tgt := 65) hx hb dX2_richestSibling_24 (by decide) (fun h24_6 => ?_) (fun h24_6 => ?_)
        · have h24_6 := zk_eq (by omega) (by omega) h24_6
          refine lv_iinc (v := nI (i + 1)) (lv' := [(4, .int (nI (i + 1))), (3, .int y), (2, .int x), (0, .ref (ad 0)), (1, .int (nI c))]) hx hb dX2_richestSibling_65 hl (k := 0) rfl (zk_inc i 1) (by decide) rfl (fun ls hl => ?_)
          refine lv_goto (tgt := 12) hx hb dX2_richestSibling_68 (by decide) ?_
          exact ih4 (i + 1) x y (by omega) (by omega) (by refine zfold_i hq ?_; simp +decide [zk_a0, ex1, ex2, h18_5, h24_6]) ls (lv_sub hl [0, 1, 2, 3, 4] rfl)
        · have h24_6 := zk_ne (by omega) (by omega) h24_6
          refine lv_aload_n hx hb dX2_richestSibling_27 rfl (lv_at hl 3 rfl) ?_
          refine va_get (D := G.1) (ci := 1) (v := .ref (ad 1)) (C := RX2) (T := TX2) (N := 14) hx hb hts (fun _ h => List.mem_cons_of_mem _ (List.mem_append_right _ h)) hown hK hP 0 rfl rfl 5 (by decide) w3 (fun _ h9 => h9) rfl dX2_richestSibling_28 ?_
          refine lv_iload hx hb dX2_richestSibling_31 (lv_at hl 0 rfl) ?_
          refine zk_ialdN hx hb hK hP 1 0 rfl rfl (k := i) (n := 12) (by omega) (by omega) dX2_richestSibling_33 ?_
          refine lv_aload_n hx hb dX2_richestSibling_34 rfl (lv_at hl 3 rfl) ?_
          refine va_get (D := G.1) (ci := 1) (v := .ref (ad 1)) (C := RX2) (T := TX2) (N := 14) hx hb hts (fun _ h => List.mem_cons_of_mem _ (List.mem_append_right _ h)) hown hK hP 0 rfl rfl 5 (by decide) w3 (fun _ h9 => h9) rfl dX2_richestSibling_35 ?_
          refine lv_iload_n hx hb dX2_richestSibling_38 rfl (lv_at hl 4 rfl) ?_
          refine zk_ialdN hx hb hK hP 1 0 rfl rfl (k := c) (n := 12) (by omega) (by omega) dX2_richestSibling_39 ?_
          refine lv_icmp_ne (tgt := 65) hx hb dX2_richestSibling_40 (by decide) (fun h40_7 => ?_) (fun h40_7 => ?_)
          · refine lv_iinc (v := nI (i + 1)) (lv' := [(4, .int (nI (i + 1))), (3, .int y), (2, .int x), (0, .ref (ad 0)), (1, .int (nI c))]) hx hb dX2_richestSibling_65 hl (k := 0) rfl (zk_inc i 1) (by decide) rfl (fun ls hl => ?_)
            refine lv_goto (tgt := 12) hx hb dX2_richestSibling_68 (by decide) ?_
            exact ih4 (i + 1) x y (by omega) (by omega) (by refine zfold_i hq ?_; simp +decide [zk_a0, ex1, ex2, h18_5, h24_6, h40_7]) ls (lv_sub hl [0, 1, 2, 3, 4] rfl)
          · refine lv_aload_n hx hb dX2_richestSibling_43 rfl (lv_at hl 3 rfl) ?_
            refine va_get (D := G.1) (ci := 1) (v := .ref (ad 3)) (C := RX2) (T := TX2) (N := 14) hx hb hts (fun _ h => List.mem_cons_of_mem _ (List.mem_append_right _ h)) hown hK hP 0 rfl rfl 7 (by decide) w4 (fun _ h9 => h9) rfl dX2_richestSibling_44 ?_
            refine lv_iload hx hb dX2_richestSibling_47 (lv_at hl 0 rfl) ?_
            refine zk_ialdN hx hb hK hP 3 0 rfl rfl (k := i) (n := 12) (by omega) (by omega) dX2_richestSibling_49 ?_
            refine lv_iload_n hx hb dX2_richestSibling_50 rfl (lv_at hl 1 rfl) ?_
            refine lv_icmp_le (tgt := 65) hx hb dX2_richestSibling_51 (by decide) (fun h51_8 => ?_) (fun h51_8 => ?_)
            · have h51_8 := zk_l1 h51_8
              refine lv_iinc (v := nI (i + 1)) (lv' := [(4, .int (nI (i + 1))), (3, .int y), (2, .int x), (0, .ref (ad 0)), (1, .int (nI c))]) hx hb dX2_richestSibling_65 hl (k := 0) rfl (zk_inc i 1) (by decide) rfl (fun ls hl => ?_)
              refine lv_goto (tgt := 12) hx hb dX2_richestSibling_68 (by decide) ?_
              exact ih4 (i + 1) x y (by omega) (by omega) (by refine zfold_i hq ?_; simp +decide [zk_a0, ex1, ex2, h18_5, h24_6, h40_7, h51_8]) ls (lv_sub hl [0, 1, 2, 3, 4] rfl)
            · have h51_8 := zk_l2 h51_8
              refine lv_iload hx hb dX2_richestSibling_54 (lv_at hl 0 rfl) ?_
              refine lv_istore_n (lv' := [(2, .int (nI i)), (4, .int (nI i)), (3, .int y), (0, .ref (ad 0)), (1, .int (nI c))]) hx hb dX2_richestSibling_56 rfl hl (by decide) rfl (fun ls hl => ?_)
              refine lv_aload_n hx hb dX2_richestSibling_57 rfl (lv_at hl 3 rfl) ?_
              refine va_get (D := G.1) (ci := 1) (v := .ref (ad 3)) (C := RX2) (T := TX2) (N := 14) hx hb hts (fun _ h => List.mem_cons_of_mem _ (List.mem_append_right _ h)) hown hK hP 0 rfl rfl 7 (by decide) w4 (fun _ h9 => h9) rfl dX2_richestSibling_58 ?_
              refine lv_iload hx hb dX2_richestSibling_61 (lv_at hl 1 rfl) ?_
              refine zk_ialdN hx hb hK hP 3 0 rfl rfl (k := i) (n := 12) (by omega) (by omega) dX2_richestSibling_63 ?_
              refine lv_topi (fun x10 ex10 => ?_)
              refine lv_istore_n (lv' := [(3, .int x10), (2, .int (nI i)), (4, .int (nI i)), (0, .ref (ad 0)), (1, .int (nI c))]) hx hb dX2_richestSibling_64 rfl hl (by decide) rfl (fun ls hl => ?_)
              refine lv_iinc (v := nI (i + 1)) (lv' := [(4, .int (nI (i + 1))), (3, .int x10), (2, .int (nI i)), (0, .ref (ad 0)), (1, .int (nI c))]) hx hb dX2_richestSibling_65 hl (k := 2) rfl (zk_inc i 1) (by decide) rfl (fun ls hl => ?_)
              refine lv_goto (tgt := 12) hx hb dX2_richestSibling_68 (by decide) ?_
              exact ih4 (i + 1) (nI i) x10 (by omega) (by omega) (by refine zfold_i hq ?_; simp +decide [zk_a0, ex1, ex2, h18_5, h24_6, h40_7, h51_8, ex10]) ls (lv_sub hl [0, 1, 2, 3, 4] rfl)
  exact lp3 _ 0 x1 x2 (Nat.lt_succ_self _) (by omega) (by simp [sRich, zfold, zk_a0, ex1, ex2]) ls (lv_sub hl [0, 1, 2, 3, 4] rfl)

abbrev rmX2_payerOn : Room := { frames := 1, cells := 0, slots := 0, locals := 24 }
set_option maxHeartbeats 4000000 in
set_option maxRecDepth 100000 in
/-- who is to be charged -/
theorem c_X2_payerOn (l : Launch) (G : zk_G) (ad : Nat → Nat) (L : zL) (n t : Nat) (hI : sInv L n t) (c d : Nat) (hc : c < n) (hd : d < 40) : zk_I (S := Unit) l yX2_payerOn wsX2_payerOn rmX2_payerOn G [.ref (ad 0), .int (nI c), .int (nI d)] (zb_L G ad L ++ zb_M G ad L) (fun r _ => r = sPayer L n c d) (fun _ => zb_L G ad L ++ zb_M G ad L) := by
  refine zk_bodyI (cc := cX2_payerOn) (maxL := 3) (ret := (some .int)) (by decide) rfl (Nat.le_of_ble_eq_true rfl) ?_
  intro p E0 s m args below meth cd A ls Q hF hQ
  obtain ⟨hx, hb, hml, hr, hts, hown, hlocks, -, hE, hP, hD, hS, hA, hA0, hl⟩ := hF
  have hK := hE.1
  have hl : lv_has ls 3 [(0, .ref (ad 0)), (1, .int (nI c)), (2, .int (nI d))] := hl
  obtain ⟨hn, hn12, ht, ht40, hfam, hpay⟩ := id hI
  have w1 := hts _ (List.mem_of_getElem? (l := wsX2_payerOn) (i := 1) (a := Cond.fieldLink RX2 18 "MealAccounts$Ledger" "balanceOf" "[I") rfl)
  have w2 := hts _ (List.mem_of_getElem? (l := wsX2_payerOn) (i := 2) (a := Cond.fieldLink RX2 43 "MealAccounts$Ledger" "price" "I") rfl)
  have w3 := hts _ (List.mem_of_getElem? (l := wsX2_payerOn) (i := 3) (a := Cond.fieldLink RX2 47 "MealAccounts$Ledger" "limit" "I") rfl)
  have w4 := hts _ (List.mem_of_getElem? (l := wsX2_payerOn) (i := 4) (a := Cond.fieldLink RX2 30 "MealAccounts$Ledger" "sharing" "[I") rfl)
  have w5 := hts _ (List.mem_of_getElem? (l := wsX2_payerOn) (i := 5) (a := Cond.fieldLink RX2 9 "MealAccounts$Ledger" "familyOf" "[I") rfl)
  refine lv_aload_n hx hb dX2_payerOn_0 rfl (lv_at hl 0 rfl) ?_
  refine lv_iload_n hx hb dX2_payerOn_1 rfl (lv_at hl 1 rfl) ?_
  refine lv_iload_n hx hb dX2_payerOn_2 rfl (lv_at hl 2 rfl) ?_
  have hP0 : va_P G.1 vwCl ((zb_L G ad L ++ zb_M G ad L) ++ ([] : va_W)) s.heap := by rw [List.append_nil]; exact hP
  have hD0 : va_D A ((zb_L G ad L ++ zb_M G ad L) ++ ([] : va_W)) := by rw [List.append_nil]; exact hD
  refine zk_callI (wr := ([] : va_W)) (va_runV (As := [.int (nI c), .int (nI d)]) (rest := []) ⟨hx, hb, hml, hown, hts⟩ (c_X2_isSuited l G ad L n t hI c d (by omega) (by omega) _) (cwV 2 hts gX2_payerOn_X2_isSuited rfl rfl rfl (by decide +kernel) ⟨Nat.le_of_ble_eq_true rfl, Nat.le_of_ble_eq_true rfl⟩) (zk_preV hE hA0 hS (zk_Papp hP0).1 (zk_Dapp hD0).1 (va_recv hK hP (ci := 1) (q0 := 0) rfl rfl)) rfl rfl hl.1 rfl (lv_room (Nat.le_of_ble_eq_true rfl)) dX2_payerOn_3 ⟨Nat.le_of_ble_eq_true rfl, Nat.le_of_ble_eq_true rfl⟩) hP0 hD0 hS hA (fun r1 u2 H locs q3 hP hD hS => ?_)
  subst q3
  rw [List.append_nil] at hP hD
  have hP : va_P G.1 vwCl (zb_L G ad L ++ zb_M G ad L) H := hP
  have hD : va_D A (zb_L G ad L ++ zb_M G ad L) := hD
  refine lv_if_eq (tgt := 18) hx hb dX2_payerOn_6 (by decide) (fun h6_3 => ?_) (fun h6_3 => ?_)
  · have h6_3 := zk_b0 h6_3
    refine lv_iconst (v := -1) hx hb dX2_payerOn_18 (by decide) ?_
    exact zk_reti () hQ hx hb hr hlocks hS hP hD (Nat.le_of_ble_eq_true rfl) (Nat.le_of_ble_eq_true rfl) dX2_payerOn_19 (by unfold sPayer; simp +decide [zk_a0, h6_3])
  · have h6_3 := zk_b1 h6_3
    refine lv_aload_n hx hb dX2_payerOn_9 rfl (lv_at hl 0 rfl) ?_
    refine lv_iload_n hx hb dX2_payerOn_10 rfl (lv_at hl 1 rfl) ?_
    refine lv_iload_n hx hb dX2_payerOn_11 rfl (lv_at hl 2 rfl) ?_
    have hP0 : va_P G.1 vwCl ((zb_L G ad L ++ zb_M G ad L) ++ ([] : va_W)) H := by rw [List.append_nil]; exact hP
    have hD0 : va_D A ((zb_L G ad L ++ zb_M G ad L) ++ ([] : va_W)) := by rw [List.append_nil]; exact hD
    refine zk_callI (wr := ([] : va_W)) (va_runV (As := [.int (nI c), .int (nI d)]) (rest := []) ⟨hx, hb, hml, hown, hts⟩ (c_X2_isEntitled l G ad L n t hI c d (by omega) (by omega) _) (cwV 2 hts gX2_payerOn_X2_isEntitled rfl rfl rfl (by decide +kernel) ⟨Nat.le_of_ble_eq_true rfl, Nat.le_of_ble_eq_true rfl⟩) (zk_preV hE hA0 hS (zk_Papp hP0).1 (zk_Dapp hD0).1 (va_recv hK hP (ci := 1) (q0 := 0) rfl rfl)) rfl rfl hl.1 rfl (lv_room (Nat.le_of_ble_eq_true rfl)) dX2_payerOn_12 ⟨Nat.le_of_ble_eq_true rfl, Nat.le_of_ble_eq_true rfl⟩) hP0 hD0 hS hA (fun r5 u6 H locs q7 hP hD hS => ?_)
    subst q7
    rw [List.append_nil] at hP hD
    have hP : va_P G.1 vwCl (zb_L G ad L ++ zb_M G ad L) H := hP
    have hD : va_D A (zb_L G ad L ++ zb_M G ad L) := hD
    refine lv_if_eq (tgt := 20) hx hb dX2_payerOn_15 (by decide) (fun h15_7 => ?_) (fun h15_7 => ?_)
    · have h15_7 := zk_b0 h15_7
      refine lv_aload_n hx hb dX2_payerOn_20 rfl (lv_at hl 0 rfl) ?_
      refine va_get (D := G.1) (ci := 1) (v := .ref (ad 3)) (C := RX2) (T := TX2) (N := 14) hx hb hts (fun _ h => List.mem_cons_of_mem _ (List.mem_append_right _ h)) hown hK hP 0 rfl rfl 7 (by decide) w1 (fun _ h9 => h9) rfl dX2_payerOn_21 ?_
      refine lv_iload_n hx hb dX2_payerOn_24 rfl (lv_at hl 1 rfl) ?_
      refine zk_ialdN hx hb hK hP 3 0 rfl rfl (k := c) (n := 12) (by omega) (by omega) dX2_payerOn_25 ?_
      refine lv_aload_n hx hb dX2_payerOn_26 rfl (lv_at hl 0 rfl) ?_
      refine va_get (D := G.1) (ci := 1) (v := .int (L 0 2)) (C := RX2) (T := TX2) (N := 14) hx hb hts (fun _ h => List.mem_cons_of_mem _ (List.mem_append_right _ h)) hown hK hP 0 rfl rfl 2 (by decide) w2 (fun _ h9 => h9) rfl dX2_payerOn_27 ?_
      refine lv_isub hx hb dX2_payerOn_30 ?_
      refine lv_aload_n hx hb dX2_payerOn_31 rfl (lv_at hl 0 rfl) ?_
      refine va_get (D := G.1) (ci := 1) (v := .int (L 0 3)) (C := RX2) (T := TX2) (N := 14) hx hb hts (fun _ h => List.mem_cons_of_mem _ (List.mem_append_right _ h)) hown hK hP 0 rfl rfl 3 (by decide) w3 (fun _ h9 => h9) rfl dX2_payerOn_32 ?_
      refine lv_ineg hx hb dX2_payerOn_35 ?_
      refine lv_icmp_lt (tgt := 41) hx hb dX2_payerOn_36 (by decide) (fun h36_8 => ?_) (fun h36_8 => ?_)
      · have h36_8 := h36_8
        refine lv_aload_n hx hb dX2_payerOn_41 rfl (lv_at hl 0 rfl) ?_
        refine va_get (D := G.1) (ci := 1) (v := .ref (ad 7)) (C := RX2) (T := TX2) (N := 14) hx hb hts (fun _ h => List.mem_cons_of_mem _ (List.mem_append_right _ h)) hown hK hP 0 rfl rfl 11 (by decide) w4 (fun _ h9 => h9) rfl dX2_payerOn_42 ?_
        refine lv_aload_n hx hb dX2_payerOn_45 rfl (lv_at hl 0 rfl) ?_
        refine va_get (D := G.1) (ci := 1) (v := .ref (ad 1)) (C := RX2) (T := TX2) (N := 14) hx hb hts (fun _ h => List.mem_cons_of_mem _ (List.mem_append_right _ h)) hown hK hP 0 rfl rfl 5 (by decide) w5 (fun _ h9 => h9) rfl dX2_payerOn_46 ?_
        refine lv_iload_n hx hb dX2_payerOn_49 rfl (lv_at hl 1 rfl) ?_
        refine zk_ialdN hx hb hK hP 1 0 rfl rfl (k := c) (n := 12) (by omega) (by omega) dX2_payerOn_50 ?_
        obtain ⟨fm, hfm, efm⟩ := hI.2.2.2.2.1 c hc
        refine zk_top efm ?_
        have nfm := nI_clamp (show fm < 2 ^ 31 by omega)
        refine zk_ialdN hx hb hK hP 7 0 rfl rfl (k := fm) (n := 5) (by omega) (by omega) dX2_payerOn_51 ?_
        refine lv_iconst (v := nI 1) hx hb dX2_payerOn_52 (by decide) ?_
        refine lv_icmp_ne (tgt := 64) hx hb dX2_payerOn_53 (by decide) (fun h53_9 => ?_) (fun h53_9 => ?_)
        · refine lv_iconst (v := -1) hx hb dX2_payerOn_64 (by decide) ?_
          exact zk_reti () hQ hx hb hr hlocks hS hP hD (Nat.le_of_ble_eq_true rfl) (Nat.le_of_ble_eq_true rfl) dX2_payerOn_65 (by unfold sPayer; simp +decide [zk_a0, h6_3, h15_7, h36_8, efm, nfm, h53_9])
        · refine lv_aload_n hx hb dX2_payerOn_56 rfl (lv_at hl 0 rfl) ?_
          refine lv_iload_n hx hb dX2_payerOn_57 rfl (lv_at hl 1 rfl) ?_
          have hP0 : va_P G.1 vwCl ((zb_L G ad L ++ zb_M G ad L) ++ ([] : va_W)) H := by rw [List.append_nil]; exact hP
          have hD0 : va_D A ((zb_L G ad L ++ zb_M G ad L) ++ ([] : va_W)) := by rw [List.append_nil]; exact hD
          refine zk_callI (wr := ([] : va_W)) (va_runV (As := [.int (nI c)]) (rest := []) ⟨hx, hb, hml, hown, hts⟩ (c_X2_richestSibling l G ad L n t hI c (by omega) _) (cwV 1 hts gX2_payerOn_X2_richestSibling rfl rfl rfl (by decide +kernel) ⟨Nat.le_of_ble_eq_true rfl, Nat.le_of_ble_eq_true rfl⟩) (zk_preV hE hA0 hS (zk_Papp hP0).1 (zk_Dapp hD0).1 (va_recv hK hP (ci := 1) (q0 := 0) rfl rfl)) rfl rfl hl.1 rfl (lv_room (Nat.le_of_ble_eq_true rfl)) dX2_payerOn_58 ⟨Nat.le_of_ble_eq_true rfl, Nat.le_of_ble_eq_true rfl⟩) hP0 hD0 hS hA (fun r11 u12 H locs q13 hP hD hS => ?_)
          subst q13
          rw [List.append_nil] at hP hD
          have hP : va_P G.1 vwCl (zb_L G ad L ++ zb_M G ad L) H := hP
          have hD : va_D A (zb_L G ad L ++ zb_M G ad L) := hD
          refine lv_goto (tgt := 65) hx hb dX2_payerOn_61 (by decide) ?_
          exact zk_reti () hQ hx hb hr hlocks hS hP hD (Nat.le_of_ble_eq_true rfl) (Nat.le_of_ble_eq_true rfl) dX2_payerOn_65 (by unfold sPayer; simp +decide [zk_a0, h6_3, h15_7, h36_8, efm, nfm, h53_9])
      · have h36_8 := h36_8
        refine lv_iload_n hx hb dX2_payerOn_39 rfl (lv_at hl 1 rfl) ?_
        exact zk_reti () hQ hx hb hr hlocks hS hP hD (Nat.le_of_ble_eq_true rfl) (Nat.le_of_ble_eq_true rfl) dX2_payerOn_40 (by unfold sPayer; simp +decide [zk_a0, h6_3, h15_7, h36_8])
    · have h15_7 := zk_b1 h15_7
      refine lv_iconst (v := -1) hx hb dX2_payerOn_18 (by decide) ?_
      exact zk_reti () hQ hx hb hr hlocks hS hP hD (Nat.le_of_ble_eq_true rfl) (Nat.le_of_ble_eq_true rfl) dX2_payerOn_19 (by unfold sPayer; simp +decide [zk_a0, h6_3, h15_7])
