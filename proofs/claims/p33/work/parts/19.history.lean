abbrev rmX1_remember : Room := { frames := 3, cells := 0, slots := 0, locals := 82 }
set_option maxHeartbeats 4000000 in
set_option maxRecDepth 100000 in
/-- a state is remembered -/
theorem c_X1_remember (l : Launch) (G : zk_G) (h arr : Nat) (ad : Nat → Nat → Nat) (S : Nat → zL) (o c : Nat) (ho : o < 14) (hc : c ≤ 14) (e : Nat → Nat) (L : zL) : zk_V (S := Nat × Nat × (Nat → zL)) l yX1_remember wsX1_remember rmX1_remember G [.ref h, .ref (e 0)] (zb_H G h arr ad S (nI o) (nI c) ++ (zb_L G e L ++ zb_M G e L)) (fun u => u = hRem o c S L) (fun u => zb_H G h arr ad u.2.2 (nI u.1) (nI u.2.1) ++ (zb_L G e L ++ zb_M G e L)) := by
  refine zk_bodyV (cc := cX1_remember) (maxL := 2) (ret := none) (by decide) rfl (Nat.le_of_ble_eq_true rfl) ?_
  intro p E0 s m args below meth cd A ls Q hF hQ
  obtain ⟨hx, hb, hml, hr, hts, hown, hlocks, hin, hE, hP, hD, hS, hA, hA0, hl⟩ := hF
  have hK := hE.1
  have hl : lv_has ls 2 [(0, .ref h), (1, .ref (e 0))] := hl
  have w1 := hts _ (List.mem_of_getElem? (l := wsX1_remember) (i := 1) (a := Cond.fieldLink RX1 18 "MealAccounts$History" "count" "I") rfl)
  have w3 := hts _ (List.mem_of_getElem? (l := wsX1_remember) (i := 3) (a := Cond.fieldLink RX1 11 "MealAccounts$History" "states" "[LMealAccounts$Ledger;") rfl)
  have w2 := hts _ (List.mem_of_getElem? (l := wsX1_remember) (i := 2) (a := Cond.fieldLink RX1 22 "MealAccounts$History" "oldest" "I") rfl)
  have hP : va_P G.1 vwCl ((([(h, .inr (0, [.ref arr, .int (nI o), .int (nI c)])), (arr, .inl (G.2.1 4, 14, .inr (.inr (.inr (.inr (fun k => some (ad k 0)))))))]) ++ (zb_L G e L ++ zb_M G e L)) ++ (zb_P G ad S 14)) s.heap := zk_Pperm hP (zk_pm1 _ _ _)
  have hD : va_D A ((([(h, .inr (0, [.ref arr, .int (nI o), .int (nI c)])), (arr, .inl (G.2.1 4, 14, .inr (.inr (.inr (.inr (fun k => some (ad k 0)))))))]) ++ (zb_L G e L ++ zb_M G e L)) ++ (zb_P G ad S 14)) := zk_Dperm hD (zk_pm1 _ _ _)
  refine lv_aload_n hx hb dX1_remember_0 rfl (lv_at hl 0 rfl) ?_
  refine va_get (D := G.1) (ci := 0) (v := .int (nI c)) (C := RX1) (T := TX1) (N := 3) hx hb hts (fun _ h => List.mem_cons_of_mem _ (List.mem_append_left _ (List.mem_append_left _ (List.mem_append_right _ h)))) hown hK hP 0 rfl rfl 2 (by decide) w1 (fun _ h9 => h9) rfl dX1_remember_1 ?_
  refine lv_bipush (v := nI 14) hx hb dX1_remember_4 (by decide) ?_
  refine lv_icmp_ne (tgt := 32) hx hb dX1_remember_6 (by decide) (fun h6_0 => ?_) (fun h6_0 => ?_)
  · have h6_0 := zk_ne (by omega) (by omega) h6_0
    refine lv_aload_n hx hb dX1_remember_32 rfl (lv_at hl 0 rfl) ?_
    refine va_get (D := G.1) (ci := 0) (v := .ref arr) (C := RX1) (T := TX1) (N := 3) hx hb hts (fun _ h => List.mem_cons_of_mem _ (List.mem_append_left _ (List.mem_append_left _ (List.mem_append_right _ h)))) hown hK hP 0 rfl rfl 0 (by decide) w3 (fun _ h9 => h9) rfl dX1_remember_33 ?_
    refine lv_aload_n hx hb dX1_remember_36 rfl (lv_at hl 0 rfl) ?_
    refine va_get (D := G.1) (ci := 0) (v := .int (nI o)) (C := RX1) (T := TX1) (N := 3) hx hb hts (fun _ h => List.mem_cons_of_mem _ (List.mem_append_left _ (List.mem_append_left _ (List.mem_append_right _ h)))) hown hK hP 0 rfl rfl 1 (by decide) w2 (fun _ h9 => h9) rfl dX1_remember_37 ?_
    refine lv_aload_n hx hb dX1_remember_40 rfl (lv_at hl 0 rfl) ?_
    refine va_get (D := G.1) (ci := 0) (v := .int (nI c)) (C := RX1) (T := TX1) (N := 3) hx hb hts (fun _ h => List.mem_cons_of_mem _ (List.mem_append_left _ (List.mem_append_left _ (List.mem_append_right _ h)))) hown hK hP 0 rfl rfl 2 (by decide) w1 (fun _ h9 => h9) rfl dX1_remember_41 ?_
    refine zk_iaddN hx hb dX1_remember_44 ?_
    refine lv_bipush (v := nI 14) hx hb dX1_remember_45 (by decide) ?_
    refine zk_iremN hx hb dX1_remember_47 (by omega) (by omega) (by omega) ?_
    refine va_aldq hx hb hK hP 1 4 rfl rfl (vp_in_nI (show (o + c) % 14 < 14 by omega) (by omega)) dX1_remember_48 ?_
    refine zk_topv (show _ = Value.ref (ad ((o + c) % 14) 0) by rw [nI_clamp (show (o + c) % 14 < 2 ^ 31 by omega)]; rfl) ?_
    refine lv_aload_n hx hb dX1_remember_49 rfl (lv_at hl 1 rfl) ?_
    have hk14 : (o + c) % 14 < 14 := by omega
    have hP0 : va_P G.1 vwCl (((zb_L G (ad ((o + c) % 14)) (S ((o + c) % 14)) ++ zb_M G (ad ((o + c) % 14)) (S ((o + c) % 14))) ++ (zb_L G e L ++ zb_M G e L)) ++ (([(h, .inr (0, [.ref arr, .int (nI o), .int (nI c)])), (arr, .inl (G.2.1 4, 14, .inr (.inr (.inr (.inr (fun k => some (ad k 0)))))))]) ++ (zb_O G ad S ((o + c) % 14) 14))) s.heap := zk_Pperm hP (zk_pm5 (zb_O_perm G ad S ((o + c) % 14) 14 hk14))
    have hD0 : va_D A (((zb_L G (ad ((o + c) % 14)) (S ((o + c) % 14)) ++ zb_M G (ad ((o + c) % 14)) (S ((o + c) % 14))) ++ (zb_L G e L ++ zb_M G e L)) ++ (([(h, .inr (0, [.ref arr, .int (nI o), .int (nI c)])), (arr, .inl (G.2.1 4, 14, .inr (.inr (.inr (.inr (fun k => some (ad k 0)))))))]) ++ (zb_O G ad S ((o + c) % 14) 14))) := zk_Dperm hD (zk_pm5 (zb_O_perm G ad S ((o + c) % 14) 14 hk14))
    refine zk_callV (wr := ([(h, .inr (0, [.ref arr, .int (nI o), .int (nI c)])), (arr, .inl (G.2.1 4, 14, .inr (.inr (.inr (.inr (fun k => some (ad k 0)))))))]) ++ (zb_O G ad S ((o + c) % 14) 14)) (va_runV (As := [.ref (e 0)]) (rest := []) ⟨hx, hb, hml, hown, hts⟩ (c_X2_copyFrom l G (ad ((o + c) % 14)) e (S ((o + c) % 14)) L _) (cwV 1 hts gX1_remember_X2_copyFrom rfl rfl rfl (by decide +kernel) ⟨Nat.le_of_ble_eq_true rfl, Nat.le_of_ble_eq_true rfl⟩) (zk_preV hE hA0 hS (zk_Papp hP0).1 (zk_Dapp hD0).1 (va_recv hK hP0 (ci := 1) (q0 := 0) rfl rfl)) rfl rfl hl.1 rfl (lv_room (Nat.le_of_ble_eq_true rfl)) dX1_remember_50 ⟨Nat.le_of_ble_eq_true rfl, Nat.le_of_ble_eq_true rfl⟩) hP0 hD0 hS hA (fun _ H locs _ hP hD hS => ?_)
    have hP : va_P G.1 vwCl ((([(h, .inr (0, [.ref arr, .int (nI o), .int (nI c)])), (arr, .inl (G.2.1 4, 14, .inr (.inr (.inr (.inr (fun k => some (ad k 0)))))))]) ++ (zb_L G e L ++ zb_M G e L)) ++ (zb_P G ad (va_up S ((o + c) % 14) L) 14)) H := zk_Pperm hP (zk_pm5 (zb_O_set G ad S hk14 L).symm).symm
    have hD : va_D A ((([(h, .inr (0, [.ref arr, .int (nI o), .int (nI c)])), (arr, .inl (G.2.1 4, 14, .inr (.inr (.inr (.inr (fun k => some (ad k 0)))))))]) ++ (zb_L G e L ++ zb_M G e L)) ++ (zb_P G ad (va_up S ((o + c) % 14) L) 14)) := zk_Dperm hD (zk_pm5 (zb_O_set G ad S hk14 L).symm).symm
    refine lv_aload_n hx hb dX1_remember_53 rfl (lv_at hl 0 rfl) ?_
    refine lv_dup hx hb dX1_remember_54 rfl ?_
    refine va_get (D := G.1) (ci := 0) (v := .int (nI c)) (C := RX1) (T := TX1) (N := 3) hx hb hts (fun _ h => List.mem_cons_of_mem _ (List.mem_append_left _ (List.mem_append_left _ (List.mem_append_right _ h)))) hown hK hP 0 rfl rfl 2 (by decide) w1 (fun _ h9 => h9) rfl dX1_remember_55 ?_
    refine lv_iconst (v := nI 1) hx hb dX1_remember_58 (by decide) ?_
    refine zk_iaddN hx hb dX1_remember_59 ?_
    refine va_put (D := G.1) (ci := 0) (v := .int (nI (c + 1))) (ty := .int) (C := RX1) (T := TX1) (N := 3) hx hb hts (fun _ h => List.mem_cons_of_mem _ (List.mem_append_left _ (List.mem_append_left _ (List.mem_append_right _ h)))) tyX1 tyX1_ok nmX1 hown hK hP hD hS 0 rfl rfl 2 (by decide) w1 (fun _ h9 => h9) rfl (by decide +kernel) rfl rfl (Nat.le_of_ble_eq_true rfl) dX1_remember_60 (fun H locs hP hD hS => ?_)
    have hP : va_P G.1 vwCl ((([(h, .inr (0, [.ref arr, .int (nI o), .int (nI (c + 1))])), (arr, .inl (G.2.1 4, 14, .inr (.inr (.inr (.inr (fun k => some (ad k 0)))))))]) ++ (zb_L G e L ++ zb_M G e L)) ++ (zb_P G ad (va_up S ((o + c) % 14) L) 14)) H := hP
    have hD : va_D A ((([(h, .inr (0, [.ref arr, .int (nI o), .int (nI (c + 1))])), (arr, .inl (G.2.1 4, 14, .inr (.inr (.inr (.inr (fun k => some (ad k 0)))))))]) ++ (zb_L G e L ++ zb_M G e L)) ++ (zb_P G ad (va_up S ((o + c) % 14) L) 14)) := hD
    have hP : va_P G.1 vwCl (zb_H G h arr ad (va_up S ((o + c) % 14) L) (nI o) (nI (c + 1)) ++ (zb_L G e L ++ zb_M G e L)) H := zk_Pperm hP (zk_pm1 _ _ _)
    have hD : va_D A (zb_H G h arr ad (va_up S ((o + c) % 14) L) (nI o) (nI (c + 1)) ++ (zb_L G e L ++ zb_M G e L)) := zk_Dperm hD (zk_pm1 _ _ _)
    have hu : hRem o c S L = (o, c + 1, (va_up S ((o + c) % 14) L)) := by unfold hRem; exact if_neg (show ¬ c = 14 by omega)
    exact zk_retv (o, c + 1, (va_up S ((o + c) % 14) L)) hQ hx hb hr hlocks hS hP hD (Nat.le_of_ble_eq_true rfl) (Nat.le_of_ble_eq_true rfl) dX1_remember_63 (hu.symm)
  · have h6_0 := zk_eq (by omega) (by omega) h6_0
    have hc14 : c = 14 := by omega
    rw [hc14] at hP hD
    refine lv_aload_n hx hb dX1_remember_9 rfl (lv_at hl 0 rfl) ?_
    refine lv_aload_n hx hb dX1_remember_10 rfl (lv_at hl 0 rfl) ?_
    refine va_get (D := G.1) (ci := 0) (v := .int (nI o)) (C := RX1) (T := TX1) (N := 3) hx hb hts (fun _ h => List.mem_cons_of_mem _ (List.mem_append_left _ (List.mem_append_left _ (List.mem_append_right _ h)))) hown hK hP 0 rfl rfl 1 (by decide) w2 (fun _ h9 => h9) rfl dX1_remember_11 ?_
    refine lv_iconst (v := nI 1) hx hb dX1_remember_14 (by decide) ?_
    refine zk_iaddN hx hb dX1_remember_15 ?_
    refine lv_bipush (v := nI 14) hx hb dX1_remember_16 (by decide) ?_
    refine zk_iremN hx hb dX1_remember_18 (by omega) (by omega) (by omega) ?_
    refine va_put (D := G.1) (ci := 0) (v := .int (nI ((o + 1) % 14))) (ty := .int) (C := RX1) (T := TX1) (N := 3) hx hb hts (fun _ h => List.mem_cons_of_mem _ (List.mem_append_left _ (List.mem_append_left _ (List.mem_append_right _ h)))) tyX1 tyX1_ok nmX1 hown hK hP hD hS 0 rfl rfl 1 (by decide) w2 (fun _ h9 => h9) rfl (by decide +kernel) rfl rfl (Nat.le_of_ble_eq_true rfl) dX1_remember_19 (fun H locs hP hD hS => ?_)
    have hP : va_P G.1 vwCl ((([(h, .inr (0, [.ref arr, .int (nI ((o + 1) % 14)), .int (nI 14)])), (arr, .inl (G.2.1 4, 14, .inr (.inr (.inr (.inr (fun k => some (ad k 0)))))))]) ++ (zb_L G e L ++ zb_M G e L)) ++ (zb_P G ad S 14)) H := hP
    have hD : va_D A ((([(h, .inr (0, [.ref arr, .int (nI ((o + 1) % 14)), .int (nI 14)])), (arr, .inl (G.2.1 4, 14, .inr (.inr (.inr (.inr (fun k => some (ad k 0)))))))]) ++ (zb_L G e L ++ zb_M G e L)) ++ (zb_P G ad S 14)) := hD
    refine lv_aload_n hx hb dX1_remember_22 rfl (lv_at hl 0 rfl) ?_
    refine lv_dup hx hb dX1_remember_23 rfl ?_
    refine va_get (D := G.1) (ci := 0) (v := .int (nI 14)) (C := RX1) (T := TX1) (N := 3) hx hb hts (fun _ h => List.mem_cons_of_mem _ (List.mem_append_left _ (List.mem_append_left _ (List.mem_append_right _ h)))) hown hK hP 0 rfl rfl 2 (by decide) w1 (fun _ h9 => h9) rfl dX1_remember_24 ?_
    refine lv_iconst (v := nI 1) hx hb dX1_remember_27 (by decide) ?_
    refine zk_isubN hx hb dX1_remember_28 (by omega) ?_
    refine va_put (D := G.1) (ci := 0) (v := .int (nI (14 - 1))) (ty := .int) (C := RX1) (T := TX1) (N := 3) hx hb hts (fun _ h => List.mem_cons_of_mem _ (List.mem_append_left _ (List.mem_append_left _ (List.mem_append_right _ h)))) tyX1 tyX1_ok nmX1 hown hK hP hD hS 0 rfl rfl 2 (by decide) w1 (fun _ h9 => h9) rfl (by decide +kernel) rfl rfl (Nat.le_of_ble_eq_true rfl) dX1_remember_29 (fun H locs hP hD hS => ?_)
    have hP : va_P G.1 vwCl ((([(h, .inr (0, [.ref arr, .int (nI ((o + 1) % 14)), .int (nI (14 - 1))])), (arr, .inl (G.2.1 4, 14, .inr (.inr (.inr (.inr (fun k => some (ad k 0)))))))]) ++ (zb_L G e L ++ zb_M G e L)) ++ (zb_P G ad S 14)) H := hP
    have hD : va_D A ((([(h, .inr (0, [.ref arr, .int (nI ((o + 1) % 14)), .int (nI (14 - 1))])), (arr, .inl (G.2.1 4, 14, .inr (.inr (.inr (.inr (fun k => some (ad k 0)))))))]) ++ (zb_L G e L ++ zb_M G e L)) ++ (zb_P G ad S 14)) := hD
    refine lv_aload_n hx hb dX1_remember_32 rfl (lv_at hl 0 rfl) ?_
    refine va_get (D := G.1) (ci := 0) (v := .ref arr) (C := RX1) (T := TX1) (N := 3) hx hb hts (fun _ h => List.mem_cons_of_mem _ (List.mem_append_left _ (List.mem_append_left _ (List.mem_append_right _ h)))) hown hK hP 0 rfl rfl 0 (by decide) w3 (fun _ h9 => h9) rfl dX1_remember_33 ?_
    refine lv_aload_n hx hb dX1_remember_36 rfl (lv_at hl 0 rfl) ?_
    refine va_get (D := G.1) (ci := 0) (v := .int (nI ((o + 1) % 14))) (C := RX1) (T := TX1) (N := 3) hx hb hts (fun _ h => List.mem_cons_of_mem _ (List.mem_append_left _ (List.mem_append_left _ (List.mem_append_right _ h)))) hown hK hP 0 rfl rfl 1 (by decide) w2 (fun _ h9 => h9) rfl dX1_remember_37 ?_
    refine lv_aload_n hx hb dX1_remember_40 rfl (lv_at hl 0 rfl) ?_
    refine va_get (D := G.1) (ci := 0) (v := .int (nI (14 - 1))) (C := RX1) (T := TX1) (N := 3) hx hb hts (fun _ h => List.mem_cons_of_mem _ (List.mem_append_left _ (List.mem_append_left _ (List.mem_append_right _ h)))) hown hK hP 0 rfl rfl 2 (by decide) w1 (fun _ h9 => h9) rfl dX1_remember_41 ?_
    refine zk_iaddN hx hb dX1_remember_44 ?_
    refine lv_bipush (v := nI 14) hx hb dX1_remember_45 (by decide) ?_
    refine zk_iremN hx hb dX1_remember_47 (by omega) (by omega) (by omega) ?_
    refine va_aldq hx hb hK hP 1 4 rfl rfl (vp_in_nI (show (((o + 1) % 14) + (14 - 1)) % 14 < 14 by omega) (by omega)) dX1_remember_48 ?_
    refine zk_topv (show _ = Value.ref (ad ((((o + 1) % 14) + (14 - 1)) % 14) 0) by rw [nI_clamp (show (((o + 1) % 14) + (14 - 1)) % 14 < 2 ^ 31 by omega)]; rfl) ?_
    refine lv_aload_n hx hb dX1_remember_49 rfl (lv_at hl 1 rfl) ?_
    have hk14 : (((o + 1) % 14) + (14 - 1)) % 14 < 14 := by omega
    have hP0 : va_P G.1 vwCl (((zb_L G (ad ((((o + 1) % 14) + (14 - 1)) % 14)) (S ((((o + 1) % 14) + (14 - 1)) % 14)) ++ zb_M G (ad ((((o + 1) % 14) + (14 - 1)) % 14)) (S ((((o + 1) % 14) + (14 - 1)) % 14))) ++ (zb_L G e L ++ zb_M G e L)) ++ (([(h, .inr (0, [.ref arr, .int (nI ((o + 1) % 14)), .int (nI (14 - 1))])), (arr, .inl (G.2.1 4, 14, .inr (.inr (.inr (.inr (fun k => some (ad k 0)))))))]) ++ (zb_O G ad S ((((o + 1) % 14) + (14 - 1)) % 14) 14))) H := zk_Pperm hP (zk_pm5 (zb_O_perm G ad S ((((o + 1) % 14) + (14 - 1)) % 14) 14 hk14))
    have hD0 : va_D A (((zb_L G (ad ((((o + 1) % 14) + (14 - 1)) % 14)) (S ((((o + 1) % 14) + (14 - 1)) % 14)) ++ zb_M G (ad ((((o + 1) % 14) + (14 - 1)) % 14)) (S ((((o + 1) % 14) + (14 - 1)) % 14))) ++ (zb_L G e L ++ zb_M G e L)) ++ (([(h, .inr (0, [.ref arr, .int (nI ((o + 1) % 14)), .int (nI (14 - 1))])), (arr, .inl (G.2.1 4, 14, .inr (.inr (.inr (.inr (fun k => some (ad k 0)))))))]) ++ (zb_O G ad S ((((o + 1) % 14) + (14 - 1)) % 14) 14))) := zk_Dperm hD (zk_pm5 (zb_O_perm G ad S ((((o + 1) % 14) + (14 - 1)) % 14) 14 hk14))
    refine zk_callV (wr := ([(h, .inr (0, [.ref arr, .int (nI ((o + 1) % 14)), .int (nI (14 - 1))])), (arr, .inl (G.2.1 4, 14, .inr (.inr (.inr (.inr (fun k => some (ad k 0)))))))]) ++ (zb_O G ad S ((((o + 1) % 14) + (14 - 1)) % 14) 14)) (va_runV (As := [.ref (e 0)]) (rest := []) ⟨hx, hb, hml, hown, hts⟩ (c_X2_copyFrom l G (ad ((((o + 1) % 14) + (14 - 1)) % 14)) e (S ((((o + 1) % 14) + (14 - 1)) % 14)) L _) (cwV 1 hts gX1_remember_X2_copyFrom rfl rfl rfl (by decide +kernel) ⟨Nat.le_of_ble_eq_true rfl, Nat.le_of_ble_eq_true rfl⟩) (zk_preV hE hA0 hS (zk_Papp hP0).1 (zk_Dapp hD0).1 (va_recv hK hP0 (ci := 1) (q0 := 0) rfl rfl)) rfl rfl hl.1 rfl (lv_room (Nat.le_of_ble_eq_true rfl)) dX1_remember_50 ⟨Nat.le_of_ble_eq_true rfl, Nat.le_of_ble_eq_true rfl⟩) hP0 hD0 hS hA (fun _ H locs _ hP hD hS => ?_)
    have hP : va_P G.1 vwCl ((([(h, .inr (0, [.ref arr, .int (nI ((o + 1) % 14)), .int (nI (14 - 1))])), (arr, .inl (G.2.1 4, 14, .inr (.inr (.inr (.inr (fun k => some (ad k 0)))))))]) ++ (zb_L G e L ++ zb_M G e L)) ++ (zb_P G ad (va_up S ((((o + 1) % 14) + (14 - 1)) % 14) L) 14)) H := zk_Pperm hP (zk_pm5 (zb_O_set G ad S hk14 L).symm).symm
    have hD : va_D A ((([(h, .inr (0, [.ref arr, .int (nI ((o + 1) % 14)), .int (nI (14 - 1))])), (arr, .inl (G.2.1 4, 14, .inr (.inr (.inr (.inr (fun k => some (ad k 0)))))))]) ++ (zb_L G e L ++ zb_M G e L)) ++ (zb_P G ad (va_up S ((((o + 1) % 14) + (14 - 1)) % 14) L) 14)) := zk_Dperm hD (zk_pm5 (zb_O_set G ad S hk14 L).symm).symm
    refine lv_aload_n hx hb dX1_remember_53 rfl (lv_at hl 0 rfl) ?_
    refine lv_dup hx hb dX1_remember_54 rfl ?_
    refine va_get (D := G.1) (ci := 0) (v := .int (nI (14 - 1))) (C := RX1) (T := TX1) (N := 3) hx hb hts (fun _ h => List.mem_cons_of_mem _ (List.mem_append_left _ (List.mem_append_left _ (List.mem_append_right _ h)))) hown hK hP 0 rfl rfl 2 (by decide) w1 (fun _ h9 => h9) rfl dX1_remember_55 ?_
    refine lv_iconst (v := nI 1) hx hb dX1_remember_58 (by decide) ?_
    refine zk_iaddN hx hb dX1_remember_59 ?_
    refine va_put (D := G.1) (ci := 0) (v := .int (nI ((14 - 1) + 1))) (ty := .int) (C := RX1) (T := TX1) (N := 3) hx hb hts (fun _ h => List.mem_cons_of_mem _ (List.mem_append_left _ (List.mem_append_left _ (List.mem_append_right _ h)))) tyX1 tyX1_ok nmX1 hown hK hP hD hS 0 rfl rfl 2 (by decide) w1 (fun _ h9 => h9) rfl (by decide +kernel) rfl rfl (Nat.le_of_ble_eq_true rfl) dX1_remember_60 (fun H locs hP hD hS => ?_)
    have hP : va_P G.1 vwCl ((([(h, .inr (0, [.ref arr, .int (nI ((o + 1) % 14)), .int (nI ((14 - 1) + 1))])), (arr, .inl (G.2.1 4, 14, .inr (.inr (.inr (.inr (fun k => some (ad k 0)))))))]) ++ (zb_L G e L ++ zb_M G e L)) ++ (zb_P G ad (va_up S ((((o + 1) % 14) + (14 - 1)) % 14) L) 14)) H := hP
    have hD : va_D A ((([(h, .inr (0, [.ref arr, .int (nI ((o + 1) % 14)), .int (nI ((14 - 1) + 1))])), (arr, .inl (G.2.1 4, 14, .inr (.inr (.inr (.inr (fun k => some (ad k 0)))))))]) ++ (zb_L G e L ++ zb_M G e L)) ++ (zb_P G ad (va_up S ((((o + 1) % 14) + (14 - 1)) % 14) L) 14)) := hD
    have hP : va_P G.1 vwCl (zb_H G h arr ad (va_up S ((((o + 1) % 14) + (14 - 1)) % 14) L) (nI ((o + 1) % 14)) (nI ((14 - 1) + 1)) ++ (zb_L G e L ++ zb_M G e L)) H := zk_Pperm hP (zk_pm1 _ _ _)
    have hD : va_D A (zb_H G h arr ad (va_up S ((((o + 1) % 14) + (14 - 1)) % 14) L) (nI ((o + 1) % 14)) (nI ((14 - 1) + 1)) ++ (zb_L G e L ++ zb_M G e L)) := zk_Dperm hD (zk_pm1 _ _ _)
    have hu : hRem o c S L = ((o + 1) % 14, (14 - 1) + 1, (va_up S ((((o + 1) % 14) + (14 - 1)) % 14) L)) := by unfold hRem; exact if_pos (show c = 14 by omega)
    exact zk_retv ((o + 1) % 14, (14 - 1) + 1, (va_up S ((((o + 1) % 14) + (14 - 1)) % 14) L)) hQ hx hb hr hlocks hS hP hD (Nat.le_of_ble_eq_true rfl) (Nat.le_of_ble_eq_true rfl) dX1_remember_63 (hu.symm)

abbrev rmX1_takeBack : Room := { frames := 3, cells := 0, slots := 0, locals := 82 }
set_option maxHeartbeats 4000000 in
set_option maxRecDepth 100000 in
/-- the state remembered last comes back -/
theorem c_X1_takeBack (l : Launch) (G : zk_G) (h arr : Nat) (ad : Nat → Nat → Nat) (S : Nat → zL) (o c : Nat) (ho : o < 14) (hc : c ≤ 14) (e : Nat → Nat) (L : zL) (hc1 : 1 ≤ c) : zk_I (S := Unit) l yX1_takeBack wsX1_takeBack rmX1_takeBack G [.ref h, .ref (e 0)] (zb_H G h arr ad S (nI o) (nI c) ++ (zb_L G e L ++ zb_M G e L)) (fun r _ => r = nI (c - 1)) (fun _ => zb_H G h arr ad S (nI o) (nI (c - 1)) ++ (zb_L G e (S ((o + (c - 1)) % 14)) ++ zb_M G e (S ((o + (c - 1)) % 14)))) := by
  refine zk_bodyI (cc := cX1_takeBack) (maxL := 2) (ret := (some .int)) (by decide) rfl (Nat.le_of_ble_eq_true rfl) ?_
  intro p E0 s m args below meth cd A ls Q hF hQ
  obtain ⟨hx, hb, hml, hr, hts, hown, hlocks, hin, hE, hP, hD, hS, hA, hA0, hl⟩ := hF
  have hK := hE.1
  have hl : lv_has ls 2 [(0, .ref h), (1, .ref (e 0))] := hl
  have w1 := hts _ (List.mem_of_getElem? (l := wsX1_takeBack) (i := 1) (a := Cond.fieldLink RX1 18 "MealAccounts$History" "count" "I") rfl)
  have w2 := hts _ (List.mem_of_getElem? (l := wsX1_takeBack) (i := 2) (a := Cond.fieldLink RX1 11 "MealAccounts$History" "states" "[LMealAccounts$Ledger;") rfl)
  have w3 := hts _ (List.mem_of_getElem? (l := wsX1_takeBack) (i := 3) (a := Cond.fieldLink RX1 22 "MealAccounts$History" "oldest" "I") rfl)
  have hP : va_P G.1 vwCl ((([(h, .inr (0, [.ref arr, .int (nI o), .int (nI c)])), (arr, .inl (G.2.1 4, 14, .inr (.inr (.inr (.inr (fun k => some (ad k 0)))))))]) ++ (zb_L G e L ++ zb_M G e L)) ++ (zb_P G ad S 14)) s.heap := zk_Pperm hP (zk_pm1 _ _ _)
  have hD : va_D A ((([(h, .inr (0, [.ref arr, .int (nI o), .int (nI c)])), (arr, .inl (G.2.1 4, 14, .inr (.inr (.inr (.inr (fun k => some (ad k 0)))))))]) ++ (zb_L G e L ++ zb_M G e L)) ++ (zb_P G ad S 14)) := zk_Dperm hD (zk_pm1 _ _ _)
  refine lv_aload_n hx hb dX1_takeBack_0 rfl (lv_at hl 0 rfl) ?_
  refine lv_dup hx hb dX1_takeBack_1 rfl ?_
  refine va_get (D := G.1) (ci := 0) (v := .int (nI c)) (C := RX1) (T := TX1) (N := 3) hx hb hts (fun _ h => List.mem_cons_of_mem _ (List.mem_append_left _ (List.mem_append_left _ (List.mem_append_right _ h)))) hown hK hP 0 rfl rfl 2 (by decide) w1 (fun _ h9 => h9) rfl dX1_takeBack_2 ?_
  refine lv_iconst (v := nI 1) hx hb dX1_takeBack_5 (by decide) ?_
  refine zk_isubN hx hb dX1_takeBack_6 (by omega) ?_
  refine va_put (D := G.1) (ci := 0) (v := .int (nI (c - 1))) (ty := .int) (C := RX1) (T := TX1) (N := 3) hx hb hts (fun _ h => List.mem_cons_of_mem _ (List.mem_append_left _ (List.mem_append_left _ (List.mem_append_right _ h)))) tyX1 tyX1_ok nmX1 hown hK hP hD hS 0 rfl rfl 2 (by decide) w1 (fun _ h9 => h9) rfl (by decide +kernel) rfl rfl (Nat.le_of_ble_eq_true rfl) dX1_takeBack_7 (fun H locs hP hD hS => ?_)
  have hP : va_P G.1 vwCl ((([(h, .inr (0, [.ref arr, .int (nI o), .int (nI (c - 1))])), (arr, .inl (G.2.1 4, 14, .inr (.inr (.inr (.inr (fun k => some (ad k 0)))))))]) ++ (zb_L G e L ++ zb_M G e L)) ++ (zb_P G ad S 14)) H := hP
  have hD : va_D A ((([(h, .inr (0, [.ref arr, .int (nI o), .int (nI (c - 1))])), (arr, .inl (G.2.1 4, 14, .inr (.inr (.inr (.inr (fun k => some (ad k 0)))))))]) ++ (zb_L G e L ++ zb_M G e L)) ++ (zb_P G ad S 14)) := hD
  refine lv_aload_n hx hb dX1_takeBack_10 rfl (lv_at hl 1 rfl) ?_
  refine lv_aload_n hx hb dX1_takeBack_11 rfl (lv_at hl 0 rfl) ?_
  refine va_get (D := G.1) (ci := 0) (v := .ref arr) (C := RX1) (T := TX1) (N := 3) hx hb hts (fun _ h => List.mem_cons_of_mem _ (List.mem_append_left _ (List.mem_append_left _ (List.mem_append_right _ h)))) hown hK hP 0 rfl rfl 0 (by decide) w2 (fun _ h9 => h9) rfl dX1_takeBack_12 ?_
  refine lv_aload_n hx hb dX1_takeBack_15 rfl (lv_at hl 0 rfl) ?_
  refine va_get (D := G.1) (ci := 0) (v := .int (nI o)) (C := RX1) (T := TX1) (N := 3) hx hb hts (fun _ h => List.mem_cons_of_mem _ (List.mem_append_left _ (List.mem_append_left _ (List.mem_append_right _ h)))) hown hK hP 0 rfl rfl 1 (by decide) w3 (fun _ h9 => h9) rfl dX1_takeBack_16 ?_
  refine lv_aload_n hx hb dX1_takeBack_19 rfl (lv_at hl 0 rfl) ?_
  refine va_get (D := G.1) (ci := 0) (v := .int (nI (c - 1))) (C := RX1) (T := TX1) (N := 3) hx hb hts (fun _ h => List.mem_cons_of_mem _ (List.mem_append_left _ (List.mem_append_left _ (List.mem_append_right _ h)))) hown hK hP 0 rfl rfl 2 (by decide) w1 (fun _ h9 => h9) rfl dX1_takeBack_20 ?_
  refine zk_iaddN hx hb dX1_takeBack_23 ?_
  refine lv_bipush (v := nI 14) hx hb dX1_takeBack_24 (by decide) ?_
  refine zk_iremN hx hb dX1_takeBack_26 (by omega) (by omega) (by omega) ?_
  refine va_aldq hx hb hK hP 1 4 rfl rfl (vp_in_nI (show (o + (c - 1)) % 14 < 14 by omega) (by omega)) dX1_takeBack_27 ?_
  refine zk_topv (show _ = Value.ref (ad ((o + (c - 1)) % 14) 0) by rw [nI_clamp (show (o + (c - 1)) % 14 < 2 ^ 31 by omega)]; rfl) ?_
  have hk14 : (o + (c - 1)) % 14 < 14 := by omega
  have hP0 : va_P G.1 vwCl (((zb_L G e L ++ zb_M G e L) ++ (zb_L G (ad ((o + (c - 1)) % 14)) (S ((o + (c - 1)) % 14)) ++ zb_M G (ad ((o + (c - 1)) % 14)) (S ((o + (c - 1)) % 14)))) ++ (([(h, .inr (0, [.ref arr, .int (nI o), .int (nI (c - 1))])), (arr, .inl (G.2.1 4, 14, .inr (.inr (.inr (.inr (fun k => some (ad k 0)))))))]) ++ (zb_O G ad S ((o + (c - 1)) % 14) 14))) H := zk_Pperm hP (zk_pm6 (zb_O_perm G ad S ((o + (c - 1)) % 14) 14 hk14))
  have hD0 : va_D A (((zb_L G e L ++ zb_M G e L) ++ (zb_L G (ad ((o + (c - 1)) % 14)) (S ((o + (c - 1)) % 14)) ++ zb_M G (ad ((o + (c - 1)) % 14)) (S ((o + (c - 1)) % 14)))) ++ (([(h, .inr (0, [.ref arr, .int (nI o), .int (nI (c - 1))])), (arr, .inl (G.2.1 4, 14, .inr (.inr (.inr (.inr (fun k => some (ad k 0)))))))]) ++ (zb_O G ad S ((o + (c - 1)) % 14) 14))) := zk_Dperm hD (zk_pm6 (zb_O_perm G ad S ((o + (c - 1)) % 14) 14 hk14))
  refine zk_callV (wr := ([(h, .inr (0, [.ref arr, .int (nI o), .int (nI (c - 1))])), (arr, .inl (G.2.1 4, 14, .inr (.inr (.inr (.inr (fun k => some (ad k 0)))))))]) ++ (zb_O G ad S ((o + (c - 1)) % 14) 14)) (va_runV (As := [.ref (ad ((o + (c - 1)) % 14) 0)]) (rest := []) ⟨hx, hb, hml, hown, hts⟩ (c_X2_copyFrom l G e (ad ((o + (c - 1)) % 14)) L (S ((o + (c - 1)) % 14)) _) (cwV 1 hts gX1_takeBack_X2_copyFrom rfl rfl rfl (by decide +kernel) ⟨Nat.le_of_ble_eq_true rfl, Nat.le_of_ble_eq_true rfl⟩) (zk_preV hE hA0 hS (zk_Papp hP0).1 (zk_Dapp hD0).1 (va_recv hK hP0 (ci := 1) (q0 := 0) rfl rfl)) rfl rfl hl.1 rfl (lv_room (Nat.le_of_ble_eq_true rfl)) dX1_takeBack_28 ⟨Nat.le_of_ble_eq_true rfl, Nat.le_of_ble_eq_true rfl⟩) hP0 hD0 hS hA (fun _ H locs _ hP hD hS => ?_)
  have hP : va_P G.1 vwCl ((([(h, .inr (0, [.ref arr, .int (nI o), .int (nI (c - 1))])), (arr, .inl (G.2.1 4, 14, .inr (.inr (.inr (.inr (fun k => some (ad k 0)))))))]) ++ (zb_L G e (S ((o + (c - 1)) % 14)) ++ zb_M G e (S ((o + (c - 1)) % 14)))) ++ (zb_P G ad S 14)) H := zk_Pperm hP (zk_pm6 (zb_O_perm G ad S ((o + (c - 1)) % 14) 14 hk14)).symm
  have hD : va_D A ((([(h, .inr (0, [.ref arr, .int (nI o), .int (nI (c - 1))])), (arr, .inl (G.2.1 4, 14, .inr (.inr (.inr (.inr (fun k => some (ad k 0)))))))]) ++ (zb_L G e (S ((o + (c - 1)) % 14)) ++ zb_M G e (S ((o + (c - 1)) % 14)))) ++ (zb_P G ad S 14)) := zk_Dperm hD (zk_pm6 (zb_O_perm G ad S ((o + (c - 1)) % 14) 14 hk14)).symm
  refine lv_aload_n hx hb dX1_takeBack_31 rfl (lv_at hl 0 rfl) ?_
  refine va_get (D := G.1) (ci := 0) (v := .int (nI (c - 1))) (C := RX1) (T := TX1) (N := 3) hx hb hts (fun _ h => List.mem_cons_of_mem _ (List.mem_append_left _ (List.mem_append_left _ (List.mem_append_right _ h)))) hown hK hP 0 rfl rfl 2 (by decide) w1 (fun _ h9 => h9) rfl dX1_takeBack_32 ?_
  have hP : va_P G.1 vwCl (zb_H G h arr ad S (nI o) (nI (c - 1)) ++ (zb_L G e (S ((o + (c - 1)) % 14)) ++ zb_M G e (S ((o + (c - 1)) % 14)))) H := zk_Pperm hP (zk_pm1 _ _ _)
  have hD : va_D A (zb_H G h arr ad S (nI o) (nI (c - 1)) ++ (zb_L G e (S ((o + (c - 1)) % 14)) ++ zb_M G e (S ((o + (c - 1)) % 14)))) := zk_Dperm hD (zk_pm1 _ _ _)
  exact zk_reti () hQ hx hb hr hlocks hS hP hD (Nat.le_of_ble_eq_true rfl) (Nat.le_of_ble_eq_true rfl) dX1_takeBack_35 (rfl)

abbrev rmX1_clear : Room := { frames := 0, cells := 0, slots := 0, locals := 0 }
set_option maxHeartbeats 4000000 in
set_option maxRecDepth 100000 in
/-- nothing is remembered -/
theorem c_X1_clear (l : Launch) (G : zk_G) (h arr : Nat) (ad : Nat → Nat → Nat) (S : Nat → zL) (o c : Nat) (ho : o < 14) (hc : c ≤ 14) : zk_V (S := Unit) l yX1_clear wsX1_clear rmX1_clear G [.ref h] (zb_H G h arr ad S (nI o) (nI c)) (fun _ => True) (fun _ => zb_H G h arr ad S (nI o) (nI 0)) := by
  refine zk_bodyV (cc := cX1_clear) (maxL := 1) (ret := none) (by decide) rfl (Nat.le_of_ble_eq_true rfl) ?_
  intro p E0 s m args below meth cd A ls Q hF hQ
  obtain ⟨hx, hb, hml, hr, hts, hown, hlocks, hin, hE, hP, hD, hS, hA, hA0, hl⟩ := hF
  have hK := hE.1
  have hl : lv_has ls 1 [(0, .ref h)] := hl
  have w1 := hts _ (List.mem_of_getElem? (l := wsX1_clear) (i := 1) (a := Cond.fieldLink RX1 18 "MealAccounts$History" "count" "I") rfl)
  have hP : va_P G.1 vwCl (([(h, .inr (0, [.ref arr, .int (nI o), .int (nI c)])), (arr, .inl (G.2.1 4, 14, .inr (.inr (.inr (.inr (fun k => some (ad k 0)))))))]) ++ (zb_P G ad S 14)) s.heap := hP
  have hD : va_D A (([(h, .inr (0, [.ref arr, .int (nI o), .int (nI c)])), (arr, .inl (G.2.1 4, 14, .inr (.inr (.inr (.inr (fun k => some (ad k 0)))))))]) ++ (zb_P G ad S 14)) := hD
  refine lv_aload_n hx hb dX1_clear_0 rfl (lv_at hl 0 rfl) ?_
  refine lv_iconst (v := nI 0) hx hb dX1_clear_1 (by decide) ?_
  refine va_put (D := G.1) (ci := 0) (v := .int (nI 0)) (ty := .int) (C := RX1) (T := TX1) (N := 3) hx hb hts (fun _ h => List.mem_cons_of_mem _ (List.mem_append_right _ h)) tyX1 tyX1_ok nmX1 hown hK hP hD hS 0 rfl rfl 2 (by decide) w1 (fun _ h9 => h9) rfl (by decide +kernel) rfl rfl (Nat.le_of_ble_eq_true rfl) dX1_clear_2 (fun H locs hP hD hS => ?_)
  have hP : va_P G.1 vwCl (([(h, .inr (0, [.ref arr, .int (nI o), .int (nI 0)])), (arr, .inl (G.2.1 4, 14, .inr (.inr (.inr (.inr (fun k => some (ad k 0)))))))]) ++ (zb_P G ad S 14)) H := hP
  have hD : va_D A (([(h, .inr (0, [.ref arr, .int (nI o), .int (nI 0)])), (arr, .inl (G.2.1 4, 14, .inr (.inr (.inr (.inr (fun k => some (ad k 0)))))))]) ++ (zb_P G ad S 14)) := hD
  have hP : va_P G.1 vwCl (zb_H G h arr ad S (nI o) (nI 0)) H := hP
  have hD : va_D A (zb_H G h arr ad S (nI o) (nI 0)) := hD
  exact zk_retv () hQ hx hb hr hlocks hS hP hD (Nat.le_of_ble_eq_true rfl) (Nat.le_of_ble_eq_true rfl) dX1_clear_5 (trivial)
