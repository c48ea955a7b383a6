abbrev rmX0_performText : Room := { frames := 7, cells := 0, slots := 0, locals := 156 }
set_option maxHeartbeats 4000000 in
set_option maxRecDepth 100000 in
/-- a command of the text -/
theorem c_X0_performText (l : Launch) (G : zk_G) (ad : Nat → Nat) (L : zL) (n t : Nat) (hI : sInv L n t) (x : Nat → Nat) (T : zL) : zk_I (S := zL) l yX0_performText wsX0_performText rmX0_performText G [.ref (ad 0), .ref (x 1)] ((zb_L G ad L ++ zb_M G ad L) ++ zb_T G x T) (fun r u => r = (cText L n t (T 0 2) (T 2 0) (T 2 1) (T 2 2)).1 ∧ u = (cText L n t (T 0 2) (T 2 0) (T 2 1) (T 2 2)).2) (fun u => (zb_L G ad u ++ zb_M G ad u) ++ zb_T G x T) := by
  refine zk_bodyI (cc := cX0_performText) (maxL := 4) (ret := (some .boolean)) (by decide) rfl (Nat.le_of_ble_eq_true rfl) ?_
  intro p E0 s m args below meth cd A ls Q hF hQ
  obtain ⟨hx, hb, hml, hr, hts, hown, hlocks, -, hE, hP, hD, hS, hA, hA0, hl⟩ := hF
  have hK := hE.1
  have hl : lv_has ls 4 [(0, .ref (ad 0)), (1, .ref (x 1))] := hl
  obtain ⟨hn, hn12, ht, ht40, hfam, hpay⟩ := id hI
  have w1 := hts _ (List.mem_of_getElem? (l := wsX0_performText) (i := 1) (a := Cond.fieldLink RX0 9 "MealAccounts$Text" "numbers" "[I") rfl)
  have w2 := hts _ (List.mem_of_getElem? (l := wsX0_performText) (i := 2) (a := Cond.fieldLink RX0 15 "MealAccounts$Text" "letter" "C") rfl)
  refine lv_aload_n hx hb dX0_performText_0 rfl (lv_at hl 1 rfl) ?_
  refine va_get (D := G.1) (ci := 3) (v := .ref (x 3)) (C := RX4) (T := TX4) (N := 5) hx hb hts (fun _ h => List.mem_cons_of_mem _ (List.mem_append_left _ (List.mem_append_left _ (List.mem_append_right _ h)))) hown hK hP 13 rfl rfl 4 (by decide) w1 (fun _ h9 => h9) rfl dX0_performText_1 ?_
  refine lv_iconst (v := nI 0) hx hb dX0_performText_4 (by decide) ?_
  refine zk_ialdN hx hb hK hP 15 0 rfl rfl (k := 0) (n := 3) (by omega) (by omega) dX0_performText_5 ?_
  refine lv_istore_n (lv' := [(2, .int ((T 2) 0)), (0, .ref (ad 0)), (1, .ref (x 1))]) hx hb dX0_performText_6 rfl hl (by decide) rfl (fun ls hl => ?_)
  refine lv_aload_n hx hb dX0_performText_7 rfl (lv_at hl 2 rfl) ?_
  refine va_get (D := G.1) (ci := 3) (v := .ref (x 3)) (C := RX4) (T := TX4) (N := 5) hx hb hts (fun _ h => List.mem_cons_of_mem _ (List.mem_append_left _ (List.mem_append_left _ (List.mem_append_right _ h)))) hown hK hP 13 rfl rfl 4 (by decide) w1 (fun _ h9 => h9) rfl dX0_performText_8 ?_
  refine lv_iconst (v := nI 1) hx hb dX0_performText_11 (by decide) ?_
  refine zk_ialdN hx hb hK hP 15 0 rfl rfl (k := 1) (n := 3) (by omega) (by omega) dX0_performText_12 ?_
  refine lv_istore_n (lv' := [(3, .int ((T 2) 1)), (2, .int ((T 2) 0)), (0, .ref (ad 0)), (1, .ref (x 1))]) hx hb dX0_performText_13 rfl hl (by decide) rfl (fun ls hl => ?_)
  refine lv_aload_n hx hb dX0_performText_14 rfl (lv_at hl 3 rfl) ?_
  refine va_get (D := G.1) (ci := 3) (v := .int (T 0 2)) (C := RX4) (T := TX4) (N := 5) hx hb hts (fun _ h => List.mem_cons_of_mem _ (List.mem_append_left _ (List.mem_append_left _ (List.mem_append_right _ h)))) hown hK hP 13 rfl rfl 3 (by decide) w2 (fun _ h9 => h9) rfl dX0_performText_15 ?_
  rcases Decidable.em (T 0 2 = nI 99) with h1_99 | h1_n99
  · refine lv_tableIn (tgt := 88) hx hb dX0_performText_18 (by rw [h1_99]; decide) (by rw [h1_99]; decide) (by rw [h1_99]; rfl) (by decide) ?_
    refine lv_aload_n hx hb dX0_performText_88 rfl (lv_at hl 2 rfl) ?_
    refine lv_iload_n hx hb dX0_performText_89 rfl (lv_at hl 1 rfl) ?_
    refine lv_iload_n hx hb dX0_performText_90 rfl (lv_at hl 0 rfl) ?_
    have hP0 : va_P G.1 vwCl ((zb_L G ad L ++ zb_M G ad L) ++ (zb_T G x T)) s.heap := hP.sub (ws' := (zb_L G ad L ++ zb_M G ad L) ++ (zb_T G x T)) [0, 1, 2, 3, 4, 5, 6, 7, 8, 9, 10, 11, 12, 13, 14, 15] rfl
    have hD0 : va_D A ((zb_L G ad L ++ zb_M G ad L) ++ (zb_T G x T)) := hD.sub (ws' := (zb_L G ad L ++ zb_M G ad L) ++ (zb_T G x T)) [0, 1, 2, 3, 4, 5, 6, 7, 8, 9, 10, 11, 12, 13, 14, 15] (by decide) rfl
    refine zk_callI (wr := zb_T G x T) (va_runV (As := [.int ((T 2) 0), .int ((T 2) 1)]) (rest := []) ⟨hx, hb, hml, hown, hts⟩ (c_X2_tryCome l G ad L n t hI ((T 2) 0) ((T 2) 1) _) (cwV 2 hts gX0_performText_X2_tryCome rfl rfl rfl (by decide +kernel) ⟨Nat.le_of_ble_eq_true rfl, Nat.le_of_ble_eq_true rfl⟩) (zk_preV hE hA0 hS (zk_Papp hP0).1 (zk_Dapp hD0).1 (va_recv hK hP (ci := 1) (q0 := 0) rfl rfl)) rfl rfl hl.1 rfl (lv_room (Nat.le_of_ble_eq_true rfl)) dX0_performText_91 ⟨Nat.le_of_ble_eq_true rfl, Nat.le_of_ble_eq_true rfl⟩) hP0 hD0 hS hA (fun r2 u3 H locs q4 hP hD hS => ?_)
    obtain ⟨er2, eL5⟩ := q4
    subst er2
    have hP : va_P G.1 vwCl (zb_L G ad u3 ++ zb_M G ad u3 ++ zb_T G x T) H := hP.sub (ws' := zb_L G ad u3 ++ zb_M G ad u3 ++ zb_T G x T) [0, 1, 2, 3, 4, 5, 6, 7, 8, 9, 10, 11, 12, 13, 14, 15] rfl
    have hD : va_D A (zb_L G ad u3 ++ zb_M G ad u3 ++ zb_T G x T) := hD.sub (ws' := zb_L G ad u3 ++ zb_M G ad u3 ++ zb_T G x T) [0, 1, 2, 3, 4, 5, 6, 7, 8, 9, 10, 11, 12, 13, 14, 15] (by decide) rfl
    have hP : va_P G.1 vwCl (zb_L G ad u3 ++ zb_M G ad u3 ++ zb_T G x T) H := hP
    have hD : va_D A (zb_L G ad u3 ++ zb_M G ad u3 ++ zb_T G x T) := hD
    exact zk_retz u3 hQ hx hb hr hlocks hS hP hD (Nat.le_of_ble_eq_true rfl) (Nat.le_of_ble_eq_true rfl) dX0_performText_94 (zk_nb) (by rw [cText_99 h1_99]; exact ⟨rfl, eL5⟩)
  rcases Decidable.em (T 0 2 = nI 100) with h1_100 | h1_n100
  · refine lv_tableIn (tgt := 135) hx hb dX0_performText_18 (by rw [h1_100]; decide) (by rw [h1_100]; decide) (by rw [h1_100]; rfl) (by decide) ?_
    refine lv_aload_n hx hb dX0_performText_135 rfl (lv_at hl 2 rfl) ?_
    refine lv_iload_n hx hb dX0_performText_136 rfl (lv_at hl 1 rfl) ?_
    have hP0 : va_P G.1 vwCl ((zb_L G ad L ++ zb_M G ad L) ++ (zb_T G x T)) s.heap := hP.sub (ws' := (zb_L G ad L ++ zb_M G ad L) ++ (zb_T G x T)) [0, 1, 2, 3, 4, 5, 6, 7, 8, 9, 10, 11, 12, 13, 14, 15] rfl
    have hD0 : va_D A ((zb_L G ad L ++ zb_M G ad L) ++ (zb_T G x T)) := hD.sub (ws' := (zb_L G ad L ++ zb_M G ad L) ++ (zb_T G x T)) [0, 1, 2, 3, 4, 5, 6, 7, 8, 9, 10, 11, 12, 13, 14, 15] (by decide) rfl
    refine zk_callI (wr := zb_T G x T) (va_runV (As := [.int ((T 2) 0)]) (rest := []) ⟨hx, hb, hml, hown, hts⟩ (c_X2_tryDays l G ad L n t hI ((T 2) 0) _) (cwV 1 hts gX0_performText_X2_tryDays rfl rfl rfl (by decide +kernel) ⟨Nat.le_of_ble_eq_true rfl, Nat.le_of_ble_eq_true rfl⟩) (zk_preV hE hA0 hS (zk_Papp hP0).1 (zk_Dapp hD0).1 (va_recv hK hP (ci := 1) (q0 := 0) rfl rfl)) rfl rfl hl.1 rfl (lv_room (Nat.le_of_ble_eq_true rfl)) dX0_performText_137 ⟨Nat.le_of_ble_eq_true rfl, Nat.le_of_ble_eq_true rfl⟩) hP0 hD0 hS hA (fun r6 u7 H locs q8 hP hD hS => ?_)
    obtain ⟨er6, eL9⟩ := q8
    subst er6
    have hP : va_P G.1 vwCl (zb_L G ad u7 ++ zb_M G ad u7 ++ zb_T G x T) H := hP.sub (ws' := zb_L G ad u7 ++ zb_M G ad u7 ++ zb_T G x T) [0, 1, 2, 3, 4, 5, 6, 7, 8, 9, 10, 11, 12, 13, 14, 15] rfl
    have hD : va_D A (zb_L G ad u7 ++ zb_M G ad u7 ++ zb_T G x T) := hD.sub (ws' := zb_L G ad u7 ++ zb_M G ad u7 ++ zb_T G x T) [0, 1, 2, 3, 4, 5, 6, 7, 8, 9, 10, 11, 12, 13, 14, 15] (by decide) rfl
    have hP : va_P G.1 vwCl (zb_L G ad u7 ++ zb_M G ad u7 ++ zb_T G x T) H := hP
    have hD : va_D A (zb_L G ad u7 ++ zb_M G ad u7 ++ zb_T G x T) := hD
    exact zk_retz u7 hQ hx hb hr hlocks hS hP hD (Nat.le_of_ble_eq_true rfl) (Nat.le_of_ble_eq_true rfl) dX0_performText_140 (zk_nb) (by rw [cText_100 h1_100]; exact ⟨rfl, eL9⟩)
  rcases Decidable.em (T 0 2 = nI 101) with h1_101 | h1_n101
  · refine lv_tableIn (tgt := 116) hx hb dX0_performText_18 (by rw [h1_101]; decide) (by rw [h1_101]; decide) (by rw [h1_101]; rfl) (by decide) ?_
    refine lv_aload_n hx hb dX0_performText_116 rfl (lv_at hl 2 rfl) ?_
    refine lv_iload_n hx hb dX0_performText_117 rfl (lv_at hl 1 rfl) ?_
    refine lv_iload_n hx hb dX0_performText_118 rfl (lv_at hl 0 rfl) ?_
    refine lv_aload_n hx hb dX0_performText_119 rfl (lv_at hl 3 rfl) ?_
    refine va_get (D := G.1) (ci := 3) (v := .ref (x 3)) (C := RX4) (T := TX4) (N := 5) hx hb hts (fun _ h => List.mem_cons_of_mem _ (List.mem_append_left _ (List.mem_append_left _ (List.mem_append_right _ h)))) hown hK hP 13 rfl rfl 4 (by decide) w1 (fun _ h9 => h9) rfl dX0_performText_120 ?_
    refine lv_iconst (v := nI 2) hx hb dX0_performText_123 (by decide) ?_
    refine zk_ialdN hx hb hK hP 15 0 rfl rfl (k := 2) (n := 3) (by omega) (by omega) dX0_performText_124 ?_
    have hP0 : va_P G.1 vwCl ((zb_L G ad L ++ zb_M G ad L) ++ (zb_T G x T)) s.heap := hP.sub (ws' := (zb_L G ad L ++ zb_M G ad L) ++ (zb_T G x T)) [0, 1, 2, 3, 4, 5, 6, 7, 8, 9, 10, 11, 12, 13, 14, 15] rfl
    have hD0 : va_D A ((zb_L G ad L ++ zb_M G ad L) ++ (zb_T G x T)) := hD.sub (ws' := (zb_L G ad L ++ zb_M G ad L) ++ (zb_T G x T)) [0, 1, 2, 3, 4, 5, 6, 7, 8, 9, 10, 11, 12, 13, 14, 15] (by decide) rfl
    refine zk_callI (wr := zb_T G x T) (va_runV (As := [.int ((T 2) 0), .int ((T 2) 1), .int ((T 2) 2)]) (rest := []) ⟨hx, hb, hml, hown, hts⟩ (c_X2_tryEntitle l G ad L n t hI ((T 2) 0) ((T 2) 1) ((T 2) 2) _) (cwV 3 hts gX0_performText_X2_tryEntitle rfl rfl rfl (by decide +kernel) ⟨Nat.le_of_ble_eq_true rfl, Nat.le_of_ble_eq_true rfl⟩) (zk_preV hE hA0 hS (zk_Papp hP0).1 (zk_Dapp hD0).1 (va_recv hK hP (ci := 1) (q0 := 0) rfl rfl)) rfl rfl hl.1 rfl (lv_room (Nat.le_of_ble_eq_true rfl)) dX0_performText_125 ⟨Nat.le_of_ble_eq_true rfl, Nat.le_of_ble_eq_true rfl⟩) hP0 hD0 hS hA (fun r10 u11 H locs q12 hP hD hS => ?_)
    obtain ⟨er10, eL13⟩ := q12
    subst er10
    have hP : va_P G.1 vwCl (zb_L G ad u11 ++ zb_M G ad u11 ++ zb_T G x T) H := hP.sub (ws' := zb_L G ad u11 ++ zb_M G ad u11 ++ zb_T G x T) [0, 1, 2, 3, 4, 5, 6, 7, 8, 9, 10, 11, 12, 13, 14, 15] rfl
    have hD : va_D A (zb_L G ad u11 ++ zb_M G ad u11 ++ zb_T G x T) := hD.sub (ws' := zb_L G ad u11 ++ zb_M G ad u11 ++ zb_T G x T) [0, 1, 2, 3, 4, 5, 6, 7, 8, 9, 10, 11, 12, 13, 14, 15] (by decide) rfl
    have hP : va_P G.1 vwCl (zb_L G ad u11 ++ zb_M G ad u11 ++ zb_T G x T) H := hP
    have hD : va_D A (zb_L G ad u11 ++ zb_M G ad u11 ++ zb_T G x T) := hD
    exact zk_retz u11 hQ hx hb hr hlocks hS hP hD (Nat.le_of_ble_eq_true rfl) (Nat.le_of_ble_eq_true rfl) dX0_performText_128 (zk_nb) (by rw [cText_101 h1_101]; exact ⟨rfl, eL13⟩)
  rcases Decidable.em (T 0 2 = nI 102) with h1_102 | h1_n102
  · refine lv_tableIn (tgt := 141) hx hb dX0_performText_18 (by rw [h1_102]; decide) (by rw [h1_102]; decide) (by rw [h1_102]; rfl) (by decide) ?_
    refine lv_iconst (v := nI 0) hx hb dX0_performText_141 (by decide) ?_
    exact zk_retz L hQ hx hb hr hlocks hS hP hD (Nat.le_of_ble_eq_true rfl) (Nat.le_of_ble_eq_true rfl) dX0_performText_142 (rfl) (by rw [cText_no (by rw [h1_102]; decide) (by rw [h1_102]; decide) (by rw [h1_102]; decide) (by rw [h1_102]; decide) (by rw [h1_102]; decide) (by rw [h1_102]; decide) (by rw [h1_102]; decide)]; exact ⟨rfl, rfl⟩)
  rcases Decidable.em (T 0 2 = nI 103) with h1_103 | h1_n103
  · refine lv_tableIn (tgt := 141) hx hb dX0_performText_18 (by rw [h1_103]; decide) (by rw [h1_103]; decide) (by rw [h1_103]; rfl) (by decide) ?_
    refine lv_iconst (v := nI 0) hx hb dX0_performText_141 (by decide) ?_
    exact zk_retz L hQ hx hb hr hlocks hS hP hD (Nat.le_of_ble_eq_true rfl) (Nat.le_of_ble_eq_true rfl) dX0_performText_142 (rfl) (by rw [cText_no (by rw [h1_103]; decide) (by rw [h1_103]; decide) (by rw [h1_103]; decide) (by rw [h1_103]; decide) (by rw [h1_103]; decide) (by rw [h1_103]; decide) (by rw [h1_103]; decide)]; exact ⟨rfl, rfl⟩)
  rcases Decidable.em (T 0 2 = nI 104) with h1_104 | h1_n104
  · refine lv_tableIn (tgt := 129) hx hb dX0_performText_18 (by rw [h1_104]; decide) (by rw [h1_104]; decide) (by rw [h1_104]; rfl) (by decide) ?_
    refine lv_aload_n hx hb dX0_performText_129 rfl (lv_at hl 2 rfl) ?_
    refine lv_iload_n hx hb dX0_performText_130 rfl (lv_at hl 1 rfl) ?_
    have hP0 : va_P G.1 vwCl ((zb_L G ad L ++ zb_M G ad L) ++ (zb_T G x T)) s.heap := hP.sub (ws' := (zb_L G ad L ++ zb_M G ad L) ++ (zb_T G x T)) [0, 1, 2, 3, 4, 5, 6, 7, 8, 9, 10, 11, 12, 13, 14, 15] rfl
    have hD0 : va_D A ((zb_L G ad L ++ zb_M G ad L) ++ (zb_T G x T)) := hD.sub (ws' := (zb_L G ad L ++ zb_M G ad L) ++ (zb_T G x T)) [0, 1, 2, 3, 4, 5, 6, 7, 8, 9, 10, 11, 12, 13, 14, 15] (by decide) rfl
    refine zk_callI (wr := zb_T G x T) (va_runV (As := [.int ((T 2) 0)]) (rest := []) ⟨hx, hb, hml, hown, hts⟩ (c_X2_tryOtherSharing l G ad L n t hI ((T 2) 0) _) (cwV 1 hts gX0_performText_X2_tryOtherSharing rfl rfl rfl (by decide +kernel) ⟨Nat.le_of_ble_eq_true rfl, Nat.le_of_ble_eq_true rfl⟩) (zk_preV hE hA0 hS (zk_Papp hP0).1 (zk_Dapp hD0).1 (va_recv hK hP (ci := 1) (q0 := 0) rfl rfl)) rfl rfl hl.1 rfl (lv_room (Nat.le_of_ble_eq_true rfl)) dX0_performText_131 ⟨Nat.le_of_ble_eq_true rfl, Nat.le_of_ble_eq_true rfl⟩) hP0 hD0 hS hA (fun r14 u15 H locs q16 hP hD hS => ?_)
    obtain ⟨er14, eL17⟩ := q16
    subst er14
    have hP : va_P G.1 vwCl (zb_L G ad u15 ++ zb_M G ad u15 ++ zb_T G x T) H := hP.sub (ws' := zb_L G ad u15 ++ zb_M G ad u15 ++ zb_T G x T) [0, 1, 2, 3, 4, 5, 6, 7, 8, 9, 10, 11, 12, 13, 14, 15] rfl
    have hD : va_D A (zb_L G ad u15 ++ zb_M G ad u15 ++ zb_T G x T) := hD.sub (ws' := zb_L G ad u15 ++ zb_M G ad u15 ++ zb_T G x T) [0, 1, 2, 3, 4, 5, 6, 7, 8, 9, 10, 11, 12, 13, 14, 15] (by decide) rfl
    have hP : va_P G.1 vwCl (zb_L G ad u15 ++ zb_M G ad u15 ++ zb_T G x T) H := hP
    have hD : va_D A (zb_L G ad u15 ++ zb_M G ad u15 ++ zb_T G x T) := hD
    exact zk_retz u15 hQ hx hb hr hlocks hS hP hD (Nat.le_of_ble_eq_true rfl) (Nat.le_of_ble_eq_true rfl) dX0_performText_134 (zk_nb) (by rw [cText_104 h1_104]; exact ⟨rfl, eL17⟩)
  rcases Decidable.em (T 0 2 = nI 105) with h1_105 | h1_n105
  · refine lv_tableIn (tgt := 141) hx hb dX0_performText_18 (by rw [h1_105]; decide) (by rw [h1_105]; decide) (by rw [h1_105]; rfl) (by decide) ?_
    refine lv_iconst (v := nI 0) hx hb dX0_performText_141 (by decide) ?_
    exact zk_retz L hQ hx hb hr hlocks hS hP hD (Nat.le_of_ble_eq_true rfl) (Nat.le_of_ble_eq_true rfl) dX0_performText_142 (rfl) (by rw [cText_no (by rw [h1_105]; decide) (by rw [h1_105]; decide) (by rw [h1_105]; decide) (by rw [h1_105]; decide) (by rw [h1_105]; decide) (by rw [h1_105]; decide) (by rw [h1_105]; decide)]; exact ⟨rfl, rfl⟩)
  rcases Decidable.em (T 0 2 = nI 106) with h1_106 | h1_n106
  · refine lv_tableIn (tgt := 141) hx hb dX0_performText_18 (by rw [h1_106]; decide) (by rw [h1_106]; decide) (by rw [h1_106]; rfl) (by decide) ?_
    refine lv_iconst (v := nI 0) hx hb dX0_performText_141 (by decide) ?_
    exact zk_retz L hQ hx hb hr hlocks hS hP hD (Nat.le_of_ble_eq_true rfl) (Nat.le_of_ble_eq_true rfl) dX0_performText_142 (rfl) (by rw [cText_no (by rw [h1_106]; decide) (by rw [h1_106]; decide) (by rw [h1_106]; decide) (by rw [h1_106]; decide) (by rw [h1_106]; decide) (by rw [h1_106]; decide) (by rw [h1_106]; decide)]; exact ⟨rfl, rfl⟩)
  rcases Decidable.em (T 0 2 = nI 107) with h1_107 | h1_n107
  · refine lv_tableIn (tgt := 141) hx hb dX0_performText_18 (by rw [h1_107]; decide) (by rw [h1_107]; decide) (by rw [h1_107]; rfl) (by decide) ?_
    refine lv_iconst (v := nI 0) hx hb dX0_performText_141 (by decide) ?_
    exact zk_retz L hQ hx hb hr hlocks hS hP hD (Nat.le_of_ble_eq_true rfl) (Nat.le_of_ble_eq_true rfl) dX0_performText_142 (rfl) (by rw [cText_no (by rw [h1_107]; decide) (by rw [h1_107]; decide) (by rw [h1_107]; decide) (by rw [h1_107]; decide) (by rw [h1_107]; decide) (by rw [h1_107]; decide) (by rw [h1_107]; decide)]; exact ⟨rfl, rfl⟩)
  rcases Decidable.em (T 0 2 = nI 108) with h1_108 | h1_n108
  · refine lv_tableIn (tgt := 141) hx hb dX0_performText_18 (by rw [h1_108]; decide) (by rw [h1_108]; decide) (by rw [h1_108]; rfl) (by decide) ?_
    refine lv_iconst (v := nI 0) hx hb dX0_performText_141 (by decide) ?_
    exact zk_retz L hQ hx hb hr hlocks hS hP hD (Nat.le_of_ble_eq_true rfl) (Nat.le_of_ble_eq_true rfl) dX0_performText_142 (rfl) (by rw [cText_no (by rw [h1_108]; decide) (by rw [h1_108]; decide) (by rw [h1_108]; decide) (by rw [h1_108]; decide) (by rw [h1_108]; decide) (by rw [h1_108]; decide) (by rw [h1_108]; decide)]; exact ⟨rfl, rfl⟩)
  rcases Decidable.em (T 0 2 = nI 109) with h1_109 | h1_n109
  · refine lv_tableIn (tgt := 95) hx hb dX0_performText_18 (by rw [h1_109]; decide) (by rw [h1_109]; decide) (by rw [h1_109]; rfl) (by decide) ?_
    refine lv_aload_n hx hb dX0_performText_95 rfl (lv_at hl 2 rfl) ?_
    refine lv_iload_n hx hb dX0_performText_96 rfl (lv_at hl 1 rfl) ?_
    refine lv_iload_n hx hb dX0_performText_97 rfl (lv_at hl 0 rfl) ?_
    have hP0 : va_P G.1 vwCl ((zb_L G ad L ++ zb_M G ad L) ++ (zb_T G x T)) s.heap := hP.sub (ws' := (zb_L G ad L ++ zb_M G ad L) ++ (zb_T G x T)) [0, 1, 2, 3, 4, 5, 6, 7, 8, 9, 10, 11, 12, 13, 14, 15] rfl
    have hD0 : va_D A ((zb_L G ad L ++ zb_M G ad L) ++ (zb_T G x T)) := hD.sub (ws' := (zb_L G ad L ++ zb_M G ad L) ++ (zb_T G x T)) [0, 1, 2, 3, 4, 5, 6, 7, 8, 9, 10, 11, 12, 13, 14, 15] (by decide) rfl
    refine zk_callI (wr := zb_T G x T) (va_runV (As := [.int ((T 2) 0), .int ((T 2) 1)]) (rest := []) ⟨hx, hb, hml, hown, hts⟩ (c_X2_tryMenu l G ad L n t hI ((T 2) 0) ((T 2) 1) _) (cwV 2 hts gX0_performText_X2_tryMenu rfl rfl rfl (by decide +kernel) ⟨Nat.le_of_ble_eq_true rfl, Nat.le_of_ble_eq_true rfl⟩) (zk_preV hE hA0 hS (zk_Papp hP0).1 (zk_Dapp hD0).1 (va_recv hK hP (ci := 1) (q0 := 0) rfl rfl)) rfl rfl hl.1 rfl (lv_room (Nat.le_of_ble_eq_true rfl)) dX0_performText_98 ⟨Nat.le_of_ble_eq_true rfl, Nat.le_of_ble_eq_true rfl⟩) hP0 hD0 hS hA (fun r18 u19 H locs q20 hP hD hS => ?_)
    obtain ⟨er18, eL21⟩ := q20
    subst er18
    have hP : va_P G.1 vwCl (zb_L G ad u19 ++ zb_M G ad u19 ++ zb_T G x T) H := hP.sub (ws' := zb_L G ad u19 ++ zb_M G ad u19 ++ zb_T G x T) [0, 1, 2, 3, 4, 5, 6, 7, 8, 9, 10, 11, 12, 13, 14, 15] rfl
    have hD : va_D A (zb_L G ad u19 ++ zb_M G ad u19 ++ zb_T G x T) := hD.sub (ws' := zb_L G ad u19 ++ zb_M G ad u19 ++ zb_T G x T) [0, 1, 2, 3, 4, 5, 6, 7, 8, 9, 10, 11, 12, 13, 14, 15] (by decide) rfl
    have hP : va_P G.1 vwCl (zb_L G ad u19 ++ zb_M G ad u19 ++ zb_T G x T) H := hP
    have hD : va_D A (zb_L G ad u19 ++ zb_M G ad u19 ++ zb_T G x T) := hD
    exact zk_retz u19 hQ hx hb hr hlocks hS hP hD (Nat.le_of_ble_eq_true rfl) (Nat.le_of_ble_eq_true rfl) dX0_performText_101 (zk_nb) (by rw [cText_109 h1_109]; exact ⟨rfl, eL21⟩)
  rcases Decidable.em (T 0 2 = nI 110) with h1_110 | h1_n110
  · refine lv_tableIn (tgt := 141) hx hb dX0_performText_18 (by rw [h1_110]; decide) (by rw [h1_110]; decide) (by rw [h1_110]; rfl) (by decide) ?_
    refine lv_iconst (v := nI 0) hx hb dX0_performText_141 (by decide) ?_
    exact zk_retz L hQ hx hb hr hlocks hS hP hD (Nat.le_of_ble_eq_true rfl) (Nat.le_of_ble_eq_true rfl) dX0_performText_142 (rfl) (by rw [cText_no (by rw [h1_110]; decide) (by rw [h1_110]; decide) (by rw [h1_110]; decide) (by rw [h1_110]; decide) (by rw [h1_110]; decide) (by rw [h1_110]; decide) (by rw [h1_110]; decide)]; exact ⟨rfl, rfl⟩)
  rcases Decidable.em (T 0 2 = nI 111) with h1_111 | h1_n111
  · refine lv_tableIn (tgt := 102) hx hb dX0_performText_18 (by rw [h1_111]; decide) (by rw [h1_111]; decide) (by rw [h1_111]; rfl) (by decide) ?_
    refine lv_aload_n hx hb dX0_performText_102 rfl (lv_at hl 2 rfl) ?_
    refine lv_iload_n hx hb dX0_performText_103 rfl (lv_at hl 1 rfl) ?_
    refine lv_iload_n hx hb dX0_performText_104 rfl (lv_at hl 0 rfl) ?_
    have hP0 : va_P G.1 vwCl ((zb_L G ad L ++ zb_M G ad L) ++ (zb_T G x T)) s.heap := hP.sub (ws' := (zb_L G ad L ++ zb_M G ad L) ++ (zb_T G x T)) [0, 1, 2, 3, 4, 5, 6, 7, 8, 9, 10, 11, 12, 13, 14, 15] rfl
    have hD0 : va_D A ((zb_L G ad L ++ zb_M G ad L) ++ (zb_T G x T)) := hD.sub (ws' := (zb_L G ad L ++ zb_M G ad L) ++ (zb_T G x T)) [0, 1, 2, 3, 4, 5, 6, 7, 8, 9, 10, 11, 12, 13, 14, 15] (by decide) rfl
    refine zk_callI (wr := zb_T G x T) (va_runV (As := [.int ((T 2) 0), .int ((T 2) 1)]) (rest := []) ⟨hx, hb, hml, hown, hts⟩ (c_X2_tryOtherOrder l G ad L n t hI ((T 2) 0) ((T 2) 1) _) (cwV 2 hts gX0_performText_X2_tryOtherOrder rfl rfl rfl (by decide +kernel) ⟨Nat.le_of_ble_eq_true rfl, Nat.le_of_ble_eq_true rfl⟩) (zk_preV hE hA0 hS (zk_Papp hP0).1 (zk_Dapp hD0).1 (va_recv hK hP (ci := 1) (q0 := 0) rfl rfl)) rfl rfl hl.1 rfl (lv_room (Nat.le_of_ble_eq_true rfl)) dX0_performText_105 ⟨Nat.le_of_ble_eq_true rfl, Nat.le_of_ble_eq_true rfl⟩) hP0 hD0 hS hA (fun r22 u23 H locs q24 hP hD hS => ?_)
    obtain ⟨er22, eL25⟩ := q24
    subst er22
    have hP : va_P G.1 vwCl (zb_L G ad u23 ++ zb_M G ad u23 ++ zb_T G x T) H := hP.sub (ws' := zb_L G ad u23 ++ zb_M G ad u23 ++ zb_T G x T) [0, 1, 2, 3, 4, 5, 6, 7, 8, 9, 10, 11, 12, 13, 14, 15] rfl
    have hD : va_D A (zb_L G ad u23 ++ zb_M G ad u23 ++ zb_T G x T) := hD.sub (ws' := zb_L G ad u23 ++ zb_M G ad u23 ++ zb_T G x T) [0, 1, 2, 3, 4, 5, 6, 7, 8, 9, 10, 11, 12, 13, 14, 15] (by decide) rfl
    have hP : va_P G.1 vwCl (zb_L G ad u23 ++ zb_M G ad u23 ++ zb_T G x T) H := hP
    have hD : va_D A (zb_L G ad u23 ++ zb_M G ad u23 ++ zb_T G x T) := hD
    exact zk_retz u23 hQ hx hb hr hlocks hS hP hD (Nat.le_of_ble_eq_true rfl) (Nat.le_of_ble_eq_true rfl) dX0_performText_108 (zk_nb) (by rw [cText_111 h1_111]; exact ⟨rfl, eL25⟩)
  rcases Decidable.em (T 0 2 = nI 112) with h1_112 | h1_n112
  · refine lv_tableIn (tgt := 109) hx hb dX0_performText_18 (by rw [h1_112]; decide) (by rw [h1_112]; decide) (by rw [h1_112]; rfl) (by decide) ?_
    refine lv_aload_n hx hb dX0_performText_109 rfl (lv_at hl 2 rfl) ?_
    refine lv_iload_n hx hb dX0_performText_110 rfl (lv_at hl 1 rfl) ?_
    refine lv_iload_n hx hb dX0_performText_111 rfl (lv_at hl 0 rfl) ?_
    have hP0 : va_P G.1 vwCl ((zb_L G ad L ++ zb_M G ad L) ++ (zb_T G x T)) s.heap := hP.sub (ws' := (zb_L G ad L ++ zb_M G ad L) ++ (zb_T G x T)) [0, 1, 2, 3, 4, 5, 6, 7, 8, 9, 10, 11, 12, 13, 14, 15] rfl
    have hD0 : va_D A ((zb_L G ad L ++ zb_M G ad L) ++ (zb_T G x T)) := hD.sub (ws' := (zb_L G ad L ++ zb_M G ad L) ++ (zb_T G x T)) [0, 1, 2, 3, 4, 5, 6, 7, 8, 9, 10, 11, 12, 13, 14, 15] (by decide) rfl
    refine zk_callI (wr := zb_T G x T) (va_runV (As := [.int ((T 2) 0), .int ((T 2) 1)]) (rest := []) ⟨hx, hb, hml, hown, hts⟩ (c_X2_tryPay l G ad L n t hI ((T 2) 0) ((T 2) 1) _) (cwV 2 hts gX0_performText_X2_tryPay rfl rfl rfl (by decide +kernel) ⟨Nat.le_of_ble_eq_true rfl, Nat.le_of_ble_eq_true rfl⟩) (zk_preV hE hA0 hS (zk_Papp hP0).1 (zk_Dapp hD0).1 (va_recv hK hP (ci := 1) (q0 := 0) rfl rfl)) rfl rfl hl.1 rfl (lv_room (Nat.le_of_ble_eq_true rfl)) dX0_performText_112 ⟨Nat.le_of_ble_eq_true rfl, Nat.le_of_ble_eq_true rfl⟩) hP0 hD0 hS hA (fun r26 u27 H locs q28 hP hD hS => ?_)
    obtain ⟨er26, eL29⟩ := q28
    subst er26
    have hP : va_P G.1 vwCl (zb_L G ad u27 ++ zb_M G ad u27 ++ zb_T G x T) H := hP.sub (ws' := zb_L G ad u27 ++ zb_M G ad u27 ++ zb_T G x T) [0, 1, 2, 3, 4, 5, 6, 7, 8, 9, 10, 11, 12, 13, 14, 15] rfl
    have hD : va_D A (zb_L G ad u27 ++ zb_M G ad u27 ++ zb_T G x T) := hD.sub (ws' := zb_L G ad u27 ++ zb_M G ad u27 ++ zb_T G x T) [0, 1, 2, 3, 4, 5, 6, 7, 8, 9, 10, 11, 12, 13, 14, 15] (by decide) rfl
    have hP : va_P G.1 vwCl (zb_L G ad u27 ++ zb_M G ad u27 ++ zb_T G x T) H := hP
    have hD : va_D A (zb_L G ad u27 ++ zb_M G ad u27 ++ zb_T G x T) := hD
    exact zk_retz u27 hQ hx hb hr hlocks hS hP hD (Nat.le_of_ble_eq_true rfl) (Nat.le_of_ble_eq_true rfl) dX0_performText_115 (zk_nb) (by rw [cText_112 h1_112]; exact ⟨rfl, eL29⟩)
  refine lv_tableOut (tgt := 141) hx hb dX0_performText_18 (zk_out (99) 14 (fun k hk z => by
        rcases (show k = 0 ∨ k = 1 ∨ k = 2 ∨ k = 3 ∨ k = 4 ∨ k = 5 ∨ k = 6 ∨ k = 7 ∨ k = 8 ∨ k = 9 ∨ k = 10 ∨ k = 11 ∨ k = 12 ∨ k = 13 by omega) with rfl | rfl | rfl | rfl | rfl | rfl | rfl | rfl | rfl | rfl | rfl | rfl | rfl | rfl
        · exact h1_n99 (zk_toI z (by decide))
        · exact h1_n100 (zk_toI z (by decide))
        · exact h1_n101 (zk_toI z (by decide))
        · exact h1_n102 (zk_toI z (by decide))
        · exact h1_n103 (zk_toI z (by decide))
        · exact h1_n104 (zk_toI z (by decide))
        · exact h1_n105 (zk_toI z (by decide))
        · exact h1_n106 (zk_toI z (by decide))
        · exact h1_n107 (zk_toI z (by decide))
        · exact h1_n108 (zk_toI z (by decide))
        · exact h1_n109 (zk_toI z (by decide))
        · exact h1_n110 (zk_toI z (by decide))
        · exact h1_n111 (zk_toI z (by decide))
        · exact h1_n112 (zk_toI z (by decide)))) (by decide) ?_
  refine lv_iconst (v := nI 0) hx hb dX0_performText_141 (by decide) ?_
  exact zk_retz L hQ hx hb hr hlocks hS hP hD (Nat.le_of_ble_eq_true rfl) (Nat.le_of_ble_eq_true rfl) dX0_performText_142 (rfl) (by rw [cText_no h1_n99 h1_n109 h1_n111 h1_n112 h1_n101 h1_n104 h1_n100]; exact ⟨rfl, rfl⟩)

abbrev rmX0_withoutLastGroups : Room := { frames := 0, cells := 0, slots := 0, locals := 0 }
set_option maxHeartbeats 4000000 in
set_option maxRecDepth 100000 in
/-- a number without its last groups -/
theorem c_X0_withoutLastGroups (l : Launch) (G : zk_G) (sc : Int64) (k : Nat) (hk : k < 2 ^ 31) : zk_L (S := Unit) l yX0_withoutLastGroups wsX0_withoutLastGroups rmX0_withoutLastGroups G [.long sc, .int (nI k)] ([]) (fun r _ => r = wLg sc k) (fun _ => []) := by
  refine zk_bodyL (cc := cX0_withoutLastGroups) (maxL := 6) (ret := (some .long)) (by decide) rfl (Nat.le_of_ble_eq_true rfl) ?_
  intro p E0 s m args below meth cd A ls Q hF hQ
  obtain ⟨hx, hb, hml, hr, hts, hown, hlocks, -, hE, hP, hD, hS, hA, hA0, hl⟩ := hF
  have hK := hE.1
  have hl : lv_has ls 6 [(0, .long sc), (2, .int (nI k))] := hl
  have w1 := hts _ (List.mem_of_getElem? (l := wsX0_withoutLastGroups) (i := 1) (a := Cond.constantLong RX0 47 (1000000)) rfl)
  refine lv_lload_n hx hb dX0_withoutLastGroups_0 rfl (lv_at hl 0 rfl) ?_
  refine lv_lstore_n (lv' := [(3, .long sc), (0, .long sc), (2, .int (nI k))]) hx hb dX0_withoutLastGroups_1 rfl hl (by decide) rfl (fun ls hl => ?_)
  refine lv_iconst (v := nI 0) hx hb dX0_withoutLastGroups_2 (by decide) ?_
  refine lv_istore (lv' := [(5, .int (nI 0)), (3, .long sc), (0, .long sc), (2, .int (nI k))]) hx hb dX0_withoutLastGroups_3 hl (by decide) rfl (fun ls hl => ?_)
  have lp1 : ∀ (n3 : Nat) (i : Nat) (y : Int64), k - i < n3 → (i ≤ k) → (y = wLg sc i) → ∀ (ls : Array Slot), lv_has ls 6 [(5, .int (nI i)), (3, .long y), (0, .long sc), (2, .int (nI k))] → W p l E0 rmX0_withoutLastGroups s m args below meth cd s.heap [] 0 0 Q (F0 m 5 ls []) := by
    intro n3
    induction n3 with
    | zero => intro i y hz; exact absurd hz (Nat.not_lt_zero _)
    | succ n3 ih2 =>
      intro i y hm hi hq ls hl
      refine lv_iload hx hb dX0_withoutLastGroups_5 (lv_at hl 0 rfl) ?_
      refine lv_iload_n hx hb dX0_withoutLastGroups_7 rfl (lv_at hl 3 rfl) ?_
      refine lv_icmp_ge (tgt := 23) hx hb dX0_withoutLastGroups_8 (by decide) (fun h8_3 => ?_) (fun h8_3 => ?_)
      · have h8_3 := zk_le (by omega) (by omega) h8_3
        refine lv_lload_n hx hb dX0_withoutLastGroups_23 rfl (lv_at hl 1 rfl) ?_
        exact zk_retl () hQ hx hb hr hlocks hS hP hD (Nat.le_of_ble_eq_true rfl) (Nat.le_of_ble_eq_true rfl) dX0_withoutLastGroups_24 (by rw [hq, show i = k by omega])
      · have h8_3 := zk_nle (by omega) (by omega) h8_3
        refine lv_lload_n hx hb dX0_withoutLastGroups_11 rfl (lv_at hl 1 rfl) ?_
        refine lv_ldc2 hx hb (v := lN 1000000) hown w1 dX0_withoutLastGroups_12 ?_
        refine lv_ldiv hx hb dX0_withoutLastGroups_15 (by decide) ?_
        refine lv_topl (fun y5 ey5 => ?_)
        refine lv_lstore_n (lv' := [(3, .long y5), (5, .int (nI i)), (0, .long sc), (2, .int (nI k))]) hx hb dX0_withoutLastGroups_16 rfl hl (by decide) rfl (fun ls hl => ?_)
        refine lv_iinc (v := nI (i + 1)) (lv' := [(5, .int (nI (i + 1))), (3, .long y5), (0, .long sc), (2, .int (nI k))]) hx hb dX0_withoutLastGroups_17 hl (k := 1) rfl (zk_inc i 1) (by decide) rfl (fun ls hl => ?_)
        refine lv_goto (tgt := 5) hx hb dX0_withoutLastGroups_20 (by decide) ?_
        exact ih2 (i + 1) y5 (by omega) (by omega) (by rw [ey5, hq]; rfl) ls (lv_sub hl [0, 1, 2, 3] rfl)
  exact lp1 _ 0 sc (Nat.lt_succ_self _) (by omega) (rfl) ls (lv_sub hl [0, 1, 2, 3] rfl)

abbrev rmX0_performGroup : Room := { frames := 7, cells := 0, slots := 0, locals := 156 }
set_option maxHeartbeats 4000000 in
set_option maxRecDepth 100000 in
/-- a group of six digits -/
theorem c_X0_performGroup (l : Launch) (G : zk_G) (ad : Nat → Nat) (L : zL) (n t : Nat) (hI : sInv L n t) (g : Nat) (hg : g < 1000000) : zk_I (S := zL) l yX0_performGroup wsX0_performGroup rmX0_performGroup G [.ref (ad 0), .int (nI g)] (zb_L G ad L ++ zb_M G ad L) (fun r u => r = (cGroup L n t g).1 ∧ u = (cGroup L n t g).2) (fun u => zb_L G ad u ++ zb_M G ad u) := by
  refine zk_bodyI (cc := cX0_performGroup) (maxL := 6) (ret := (some .boolean)) (by decide) rfl (Nat.le_of_ble_eq_true rfl) ?_
  intro p E0 s m args below meth cd A ls Q hF hQ
  obtain ⟨hx, hb, hml, hr, hts, hown, hlocks, -, hE, hP, hD, hS, hA, hA0, hl⟩ := hF
  have hK := hE.1
  have hl : lv_has ls 6 [(0, .ref (ad 0)), (1, .int (nI g))] := hl
  obtain ⟨hn, hn12, ht, ht40, hfam, hpay⟩ := id hI
  have w1 := hts _ (List.mem_of_getElem? (l := wsX0_performGroup) (i := 1) (a := Cond.constant RX0 49 (100000)) rfl)
  have w18 := hts _ (List.mem_of_getElem? (l := wsX0_performGroup) (i := 18) (a := Cond.static yX5_isDay) rfl)
  have w19 := hts _ (List.mem_of_getElem? (l := wsX0_performGroup) (i := 19) (a := Cond.initialized RX5) rfl)
  have w2 := hts _ (List.mem_of_getElem? (l := wsX0_performGroup) (i := 2) (a := Cond.fieldLink RX0 67 "MealAccounts$Ledger" "meals" "LMealAccounts$Meals;") rfl)
  have w111 := hts _ (List.mem_of_getElem? (l := wsX0_performGroup) (i := 111) (a := Cond.static yX5_isFamily) rfl)
  refine lv_iload_n hx hb dX0_performGroup_0 rfl (lv_at hl 1 rfl) ?_
  refine lv_sipush (v := nI 1000) hx hb dX0_performGroup_1 (by decide) ?_
  refine zk_idivN hx hb dX0_performGroup_4 (by omega) (by omega) (by omega) ?_
  refine lv_bipush (v := nI 100) hx hb dX0_performGroup_5 (by decide) ?_
  refine zk_iremN hx hb dX0_performGroup_7 (by omega) (by omega) (by omega) ?_
  refine lv_istore_n (lv' := [(2, .int (nI ((g / 1000) % 100))), (0, .ref (ad 0)), (1, .int (nI g))]) hx hb dX0_performGroup_8 rfl hl (by decide) rfl (fun ls hl => ?_)
  refine lv_iload_n hx hb dX0_performGroup_9 rfl (lv_at hl 2 rfl) ?_
  refine lv_bipush (v := nI 10) hx hb dX0_performGroup_10 (by decide) ?_
  refine zk_idivN hx hb dX0_performGroup_12 (by omega) (by omega) (by omega) ?_
  refine lv_bipush (v := nI 100) hx hb dX0_performGroup_13 (by decide) ?_
  refine zk_iremN hx hb dX0_performGroup_15 (by omega) (by omega) (by omega) ?_
  refine lv_istore_n (lv' := [(3, .int (nI ((g / 10) % 100))), (2, .int (nI ((g / 1000) % 100))), (0, .ref (ad 0)), (1, .int (nI g))]) hx hb dX0_performGroup_16 rfl hl (by decide) rfl (fun ls hl => ?_)
  refine lv_iload_n hx hb dX0_performGroup_17 rfl (lv_at hl 3 rfl) ?_
  refine lv_sipush (v := nI 10000) hx hb dX0_performGroup_18 (by decide) ?_
  refine zk_idivN hx hb dX0_performGroup_21 (by omega) (by omega) (by omega) ?_
  refine lv_bipush (v := nI 10) hx hb dX0_performGroup_22 (by decide) ?_
  refine zk_iremN hx hb dX0_performGroup_24 (by omega) (by omega) (by omega) ?_
  refine lv_istore (lv' := [(4, .int (nI ((g / 10000) % 10))), (3, .int (nI ((g / 10) % 100))), (2, .int (nI ((g / 1000) % 100))), (0, .ref (ad 0)), (1, .int (nI g))]) hx hb dX0_performGroup_25 hl (by decide) rfl (fun ls hl => ?_)
  refine lv_iload_n hx hb dX0_performGroup_27 rfl (lv_at hl 4 rfl) ?_
  refine lv_bipush (v := nI 10) hx hb dX0_performGroup_28 (by decide) ?_
  refine zk_iremN hx hb dX0_performGroup_30 (by omega) (by omega) (by omega) ?_
  refine lv_istore (lv' := [(5, .int (nI (g % 10))), (4, .int (nI ((g / 10000) % 10))), (3, .int (nI ((g / 10) % 100))), (2, .int (nI ((g / 1000) % 100))), (0, .ref (ad 0)), (1, .int (nI g))]) hx hb dX0_performGroup_31 hl (by decide) rfl (fun ls hl => ?_)
  refine lv_iload_n hx hb dX0_performGroup_33 rfl (lv_at hl 5 rfl) ?_
  refine lv_ldc hx hb (v := nI 100000) hown w1 dX0_performGroup_34 ?_
  refine zk_idivN hx hb dX0_performGroup_36 (by omega) (by omega) (by omega) ?_
  rcases Decidable.em (nI (g / 100000) = nI 1) with h1_1 | h1_n1
  · refine lv_tableIn (tgt := 88) hx hb dX0_performGroup_37 (by rw [h1_1]; decide) (by rw [h1_1]; decide) (by rw [h1_1]; rfl) (by decide) ?_
    refine lv_iload hx hb dX0_performGroup_88 (lv_at hl 0 rfl) ?_
    refine lv_iconst (v := nI 1) hx hb dX0_performGroup_90 (by decide) ?_
    refine lv_icmp_gt (tgt := 118) hx hb dX0_performGroup_91 (by decide) (fun h91_1 => ?_) (fun h91_1 => ?_)
    · have h91_1 := zk_lt (by omega) (by omega) h91_1
      refine lv_iconst (v := nI 0) hx hb dX0_performGroup_118 (by decide) ?_
      exact zk_retz L hQ hx hb hr hlocks hS hP hD (Nat.le_of_ble_eq_true rfl) (Nat.le_of_ble_eq_true rfl) dX0_performGroup_119 (rfl) (by rw [cGroup_1 (zk_eq (by omega) (by omega) h1_1), if_neg (show ¬ g % 10 ≤ 1 by omega)]; exact ⟨rfl, rfl⟩)
    · have h91_1 := zk_nlt (by omega) (by omega) h91_1
      refine lv_aload_n hx hb dX0_performGroup_94 rfl (lv_at hl 4 rfl) ?_
      refine lv_iload_n hx hb dX0_performGroup_95 rfl (lv_at hl 3 rfl) ?_
      refine lv_iload_n hx hb dX0_performGroup_96 rfl (lv_at hl 2 rfl) ?_
      refine lv_iload hx hb dX0_performGroup_97 (lv_at hl 0 rfl) ?_
      refine lv_iconst (v := nI 1) hx hb dX0_performGroup_99 (by decide) ?_
      refine lv_icmp_ne (tgt := 107) hx hb dX0_performGroup_100 (by decide) (fun h100_2 => ?_) (fun h100_2 => ?_)
      · have h100_2 := zk_ne (by omega) (by omega) h100_2
        refine lv_iconst (v := nI 0) hx hb dX0_performGroup_107 (by decide) ?_
        have hP0 : va_P G.1 vwCl ((zb_L G ad L ++ zb_M G ad L) ++ ([] : va_W)) s.heap := by rw [List.append_nil]; exact hP
        have hD0 : va_D A ((zb_L G ad L ++ zb_M G ad L) ++ ([] : va_W)) := by rw [List.append_nil]; exact hD
        refine zk_callI (wr := ([] : va_W)) (va_runV (As := [.int (nI ((g / 1000) % 100)), .int (nI ((g / 10) % 100)), .int (nI 0)]) (rest := []) ⟨hx, hb, hml, hown, hts⟩ (c_X2_tryOrder l G ad L n t hI (nI ((g / 1000) % 100)) (nI ((g / 10) % 100)) (nI 0) _) (cwV 3 hts gX0_performGroup_X2_tryOrder rfl rfl rfl (by decide +kernel) ⟨Nat.le_of_ble_eq_true rfl, Nat.le_of_ble_eq_true rfl⟩) (zk_preV hE hA0 hS (zk_Papp hP0).1 (zk_Dapp hD0).1 (va_recv hK hP (ci := 1) (q0 := 0) rfl rfl)) rfl rfl hl.1 rfl (lv_room (Nat.le_of_ble_eq_true rfl)) dX0_performGroup_108 ⟨Nat.le_of_ble_eq_true rfl, Nat.le_of_ble_eq_true rfl⟩) hP0 hD0 hS hA (fun r4 u5 H locs q6 hP hD hS => ?_)
        obtain ⟨er4, eL7⟩ := q6
        subst er4
        rw [List.append_nil] at hP hD
        have hP : va_P G.1 vwCl (zb_L G ad u5 ++ zb_M G ad u5) H := hP
        have hD : va_D A (zb_L G ad u5 ++ zb_M G ad u5) := hD
        refine lv_if_eq (tgt := 118) hx hb dX0_performGroup_111 (by decide) (fun h111_7 => ?_) (fun h111_7 => ?_)
        · have h111_7 := zk_b0 h111_7
          refine lv_iconst (v := nI 0) hx hb dX0_performGroup_118 (by decide) ?_
          exact zk_retz u5 hQ hx hb hr hlocks hS hP hD (Nat.le_of_ble_eq_true rfl) (Nat.le_of_ble_eq_true rfl) dX0_performGroup_119 (rfl) (by rw [cGroup_1 (zk_eq (by omega) (by omega) h1_1), if_pos (show g % 10 ≤ 1 by omega), if_neg (show ¬ g % 10 = 1 by omega)]; exact ⟨(if_neg h111_7).symm, eL7⟩)
        · have h111_7 := zk_b1 h111_7
          refine lv_iconst (v := nI 1) hx hb dX0_performGroup_114 (by decide) ?_
          refine lv_goto (tgt := 119) hx hb dX0_performGroup_115 (by decide) ?_
          exact zk_retz u5 hQ hx hb hr hlocks hS hP hD (Nat.le_of_ble_eq_true rfl) (Nat.le_of_ble_eq_true rfl) dX0_performGroup_119 (rfl) (by rw [cGroup_1 (zk_eq (by omega) (by omega) h1_1), if_pos (show g % 10 ≤ 1 by omega), if_neg (show ¬ g % 10 = 1 by omega)]; exact ⟨(if_pos h111_7).symm, eL7⟩)
      · have h100_2 := zk_eq (by omega) (by omega) h100_2
        refine lv_iconst (v := nI 1) hx hb dX0_performGroup_103 (by decide) ?_
        refine lv_goto (tgt := 108) hx hb dX0_performGroup_104 (by decide) ?_
        have hP0 : va_P G.1 vwCl ((zb_L G ad L ++ zb_M G ad L) ++ ([] : va_W)) s.heap := by rw [List.append_nil]; exact hP
        have hD0 : va_D A ((zb_L G ad L ++ zb_M G ad L) ++ ([] : va_W)) := by rw [List.append_nil]; exact hD
        refine zk_callI (wr := ([] : va_W)) (va_runV (As := [.int (nI ((g / 1000) % 100)), .int (nI ((g / 10) % 100)), .int (nI 1)]) (rest := []) ⟨hx, hb, hml, hown, hts⟩ (c_X2_tryOrder l G ad L n t hI (nI ((g / 1000) % 100)) (nI ((g / 10) % 100)) (nI 1) _) (cwV 3 hts gX0_performGroup_X2_tryOrder rfl rfl rfl (by decide +kernel) ⟨Nat.le_of_ble_eq_true rfl, Nat.le_of_ble_eq_true rfl⟩) (zk_preV hE hA0 hS (zk_Papp hP0).1 (zk_Dapp hD0).1 (va_recv hK hP (ci := 1) (q0 := 0) rfl rfl)) rfl rfl hl.1 rfl (lv_room (Nat.le_of_ble_eq_true rfl)) dX0_performGroup_108 ⟨Nat.le_of_ble_eq_true rfl, Nat.le_of_ble_eq_true rfl⟩) hP0 hD0 hS hA (fun r9 u10 H locs q11 hP hD hS => ?_)
        obtain ⟨er9, eL12⟩ := q11
        subst er9
        rw [List.append_nil] at hP hD
        have hP : va_P G.1 vwCl (zb_L G ad u10 ++ zb_M G ad u10) H := hP
        have hD : va_D A (zb_L G ad u10 ++ zb_M G ad u10) := hD
        refine lv_if_eq (tgt := 118) hx hb dX0_performGroup_111 (by decide) (fun h111_12 => ?_) (fun h111_12 => ?_)
        · have h111_12 := zk_b0 h111_12
          refine lv_iconst (v := nI 0) hx hb dX0_performGroup_118 (by decide) ?_
          exact zk_retz u10 hQ hx hb hr hlocks hS hP hD (Nat.le_of_ble_eq_true rfl) (Nat.le_of_ble_eq_true rfl) dX0_performGroup_119 (rfl) (by rw [cGroup_1 (zk_eq (by omega) (by omega) h1_1), if_pos (show g % 10 ≤ 1 by omega), if_pos (show g % 10 = 1 by omega)]; exact ⟨(if_neg h111_12).symm, eL12⟩)
        · have h111_12 := zk_b1 h111_12
          refine lv_iconst (v := nI 1) hx hb dX0_performGroup_114 (by decide) ?_
          refine lv_goto (tgt := 119) hx hb dX0_performGroup_115 (by decide) ?_
          exact zk_retz u10 hQ hx hb hr hlocks hS hP hD (Nat.le_of_ble_eq_true rfl) (Nat.le_of_ble_eq_true rfl) dX0_performGroup_119 (rfl) (by rw [cGroup_1 (zk_eq (by omega) (by omega) h1_1), if_pos (show g % 10 ≤ 1 by omega), if_pos (show g % 10 = 1 by omega)]; exact ⟨(if_pos h111_12).symm, eL12⟩)
  rcases Decidable.em (nI (g / 100000) = nI 2) with h1_2 | h1_n2
  · refine lv_tableIn (tgt := 120) hx hb dX0_performGroup_37 (by rw [h1_2]; decide) (by rw [h1_2]; decide) (by rw [h1_2]; rfl) (by decide) ?_
    refine lv_aload_n hx hb dX0_performGroup_120 rfl (lv_at hl 4 rfl) ?_
    refine lv_iload_n hx hb dX0_performGroup_121 rfl (lv_at hl 3 rfl) ?_
    refine lv_iload_n hx hb dX0_performGroup_122 rfl (lv_at hl 5 rfl) ?_
    refine lv_sipush (v := nI 1000) hx hb dX0_performGroup_123 (by decide) ?_
    refine zk_iremN hx hb dX0_performGroup_126 (by omega) (by omega) (by omega) ?_
    have hP0 : va_P G.1 vwCl ((zb_L G ad L ++ zb_M G ad L) ++ ([] : va_W)) s.heap := by rw [List.append_nil]; exact hP
    have hD0 : va_D A ((zb_L G ad L ++ zb_M G ad L) ++ ([] : va_W)) := by rw [List.append_nil]; exact hD
    refine zk_callI (wr := ([] : va_W)) (va_runV (As := [.int (nI ((g / 1000) % 100)), .int (nI (g % 1000))]) (rest := []) ⟨hx, hb, hml, hown, hts⟩ (c_X2_tryPay l G ad L n t hI (nI ((g / 1000) % 100)) (nI (g % 1000)) _) (cwV 2 hts gX0_performGroup_X2_tryPay rfl rfl rfl (by decide +kernel) ⟨Nat.le_of_ble_eq_true rfl, Nat.le_of_ble_eq_true rfl⟩) (zk_preV hE hA0 hS (zk_Papp hP0).1 (zk_Dapp hD0).1 (va_recv hK hP (ci := 1) (q0 := 0) rfl rfl)) rfl rfl hl.1 rfl (lv_room (Nat.le_of_ble_eq_true rfl)) dX0_performGroup_127 ⟨Nat.le_of_ble_eq_true rfl, Nat.le_of_ble_eq_true rfl⟩) hP0 hD0 hS hA (fun r14 u15 H locs q16 hP hD hS => ?_)
    obtain ⟨er14, eL17⟩ := q16
    subst er14
    rw [List.append_nil] at hP hD
    have hP : va_P G.1 vwCl (zb_L G ad u15 ++ zb_M G ad u15) H := hP
    have hD : va_D A (zb_L G ad u15 ++ zb_M G ad u15) := hD
    exact zk_retz u15 hQ hx hb hr hlocks hS hP hD (Nat.le_of_ble_eq_true rfl) (Nat.le_of_ble_eq_true rfl) dX0_performGroup_130 (zk_nb) (by rw [cGroup_2 (zk_eq (by omega) (by omega) h1_2)]; exact ⟨rfl, eL17⟩)
  rcases Decidable.em (nI (g / 100000) = nI 3) with h1_3 | h1_n3
  · refine lv_tableIn (tgt := 131) hx hb dX0_performGroup_37 (by rw [h1_3]; decide) (by rw [h1_3]; decide) (by rw [h1_3]; rfl) (by decide) ?_
    refine lv_iload hx hb dX0_performGroup_131 (lv_at hl 0 rfl) ?_
    refine lv_if_ne (tgt := 150) hx hb dX0_performGroup_133 (by decide) (fun h133_17 => ?_) (fun h133_17 => ?_)
    · have h133_17 := zk_ne0 (by omega) h133_17
      refine lv_iconst (v := nI 0) hx hb dX0_performGroup_150 (by decide) ?_
      exact zk_retz L hQ hx hb hr hlocks hS hP hD (Nat.le_of_ble_eq_true rfl) (Nat.le_of_ble_eq_true rfl) dX0_performGroup_151 (rfl) (by rw [cGroup_3 (zk_eq (by omega) (by omega) h1_3), if_neg (show ¬ g % 10 = 0 by omega)]; exact ⟨rfl, rfl⟩)
    · have h133_17 := zk_eq0 (by omega) h133_17
      refine lv_aload_n hx hb dX0_performGroup_136 rfl (lv_at hl 4 rfl) ?_
      refine lv_iload_n hx hb dX0_performGroup_137 rfl (lv_at hl 3 rfl) ?_
      refine lv_iconst (v := nI 0) hx hb dX0_performGroup_138 (by decide) ?_
      refine lv_iload_n hx hb dX0_performGroup_139 rfl (lv_at hl 2 rfl) ?_
      have hP0 : va_P G.1 vwCl ((zb_L G ad L ++ zb_M G ad L) ++ ([] : va_W)) s.heap := by rw [List.append_nil]; exact hP
      have hD0 : va_D A ((zb_L G ad L ++ zb_M G ad L) ++ ([] : va_W)) := by rw [List.append_nil]; exact hD
      refine zk_callI (wr := ([] : va_W)) (va_runV (As := [.int (nI ((g / 1000) % 100)), .int (nI 0), .int (nI ((g / 10) % 100))]) (rest := []) ⟨hx, hb, hml, hown, hts⟩ (c_X2_tryEntitle l G ad L n t hI (nI ((g / 1000) % 100)) (nI 0) (nI ((g / 10) % 100)) _) (cwV 3 hts gX0_performGroup_X2_tryEntitle rfl rfl rfl (by decide +kernel) ⟨Nat.le_of_ble_eq_true rfl, Nat.le_of_ble_eq_true rfl⟩) (zk_preV hE hA0 hS (zk_Papp hP0).1 (zk_Dapp hD0).1 (va_recv hK hP (ci := 1) (q0 := 0) rfl rfl)) rfl rfl hl.1 rfl (lv_room (Nat.le_of_ble_eq_true rfl)) dX0_performGroup_140 ⟨Nat.le_of_ble_eq_true rfl, Nat.le_of_ble_eq_true rfl⟩) hP0 hD0 hS hA (fun r19 u20 H locs q21 hP hD hS => ?_)
      obtain ⟨er19, eL22⟩ := q21
      subst er19
      rw [List.append_nil] at hP hD
      have hP : va_P G.1 vwCl (zb_L G ad u20 ++ zb_M G ad u20) H := hP
      have hD : va_D A (zb_L G ad u20 ++ zb_M G ad u20) := hD
      refine lv_if_eq (tgt := 150) hx hb dX0_performGroup_143 (by decide) (fun h143_22 => ?_) (fun h143_22 => ?_)
      · have h143_22 := zk_b0 h143_22
        refine lv_iconst (v := nI 0) hx hb dX0_performGroup_150 (by decide) ?_
        exact zk_retz u20 hQ hx hb hr hlocks hS hP hD (Nat.le_of_ble_eq_true rfl) (Nat.le_of_ble_eq_true rfl) dX0_performGroup_151 (rfl) (by rw [cGroup_3 (zk_eq (by omega) (by omega) h1_3), if_pos (show g % 10 = 0 by omega)]; exact ⟨(if_neg h143_22).symm, eL22⟩)
      · have h143_22 := zk_b1 h143_22
        refine lv_iconst (v := nI 1) hx hb dX0_performGroup_146 (by decide) ?_
        refine lv_goto (tgt := 151) hx hb dX0_performGroup_147 (by decide) ?_
        exact zk_retz u20 hQ hx hb hr hlocks hS hP hD (Nat.le_of_ble_eq_true rfl) (Nat.le_of_ble_eq_true rfl) dX0_performGroup_151 (rfl) (by rw [cGroup_3 (zk_eq (by omega) (by omega) h1_3), if_pos (show g % 10 = 0 by omega)]; exact ⟨(if_pos h143_22).symm, eL22⟩)
  rcases Decidable.em (nI (g / 100000) = nI 4) with h1_4 | h1_n4
  · refine lv_tableIn (tgt := 152) hx hb dX0_performGroup_37 (by rw [h1_4]; decide) (by rw [h1_4]; decide) (by rw [h1_4]; rfl) (by decide) ?_
    refine lv_iload_n hx hb dX0_performGroup_152 rfl (lv_at hl 5 rfl) ?_
    refine lv_bipush (v := nI 10) hx hb dX0_performGroup_153 (by decide) ?_
    refine zk_idivN hx hb dX0_performGroup_155 (by omega) (by omega) (by omega) ?_
    refine lv_sipush (v := nI 1000) hx hb dX0_performGroup_156 (by decide) ?_
    refine zk_iremN hx hb dX0_performGroup_159 (by omega) (by omega) (by omega) ?_
    refine lv_if_ne (tgt := 193) hx hb dX0_performGroup_160 (by decide) (fun h160_23 => ?_) (fun h160_23 => ?_)
    · have h160_23 := zk_ne0 (by omega) h160_23
      refine lv_iconst (v := nI 0) hx hb dX0_performGroup_193 (by decide) ?_
      exact zk_retz L hQ hx hb hr hlocks hS hP hD (Nat.le_of_ble_eq_true rfl) (Nat.le_of_ble_eq_true rfl) dX0_performGroup_194 (rfl) (by rw [cGroup_4 (zk_eq (by omega) (by omega) h1_4), if_neg (show ¬ (g / 10 % 1000 = 0 ∧ g % 10 ≤ 1) by omega)]; exact ⟨rfl, rfl⟩)
    · have h160_23 := zk_eq0 (by omega) h160_23
      refine lv_iload hx hb dX0_performGroup_163 (lv_at hl 0 rfl) ?_
      refine lv_iconst (v := nI 1) hx hb dX0_performGroup_165 (by decide) ?_
      refine lv_icmp_gt (tgt := 193) hx hb dX0_performGroup_166 (by decide) (fun h166_24 => ?_) (fun h166_24 => ?_)
      · have h166_24 := zk_lt (by omega) (by omega) h166_24
        refine lv_iconst (v := nI 0) hx hb dX0_performGroup_193 (by decide) ?_
        exact zk_retz L hQ hx hb hr hlocks hS hP hD (Nat.le_of_ble_eq_true rfl) (Nat.le_of_ble_eq_true rfl) dX0_performGroup_194 (rfl) (by rw [cGroup_4 (zk_eq (by omega) (by omega) h1_4), if_neg (show ¬ (g / 10 % 1000 = 0 ∧ g % 10 ≤ 1) by omega)]; exact ⟨rfl, rfl⟩)
      · have h166_24 := zk_nlt (by omega) (by omega) h166_24
        refine lv_aload_n hx hb dX0_performGroup_169 rfl (lv_at hl 4 rfl) ?_
        refine lv_iload hx hb dX0_performGroup_170 (lv_at hl 1 rfl) ?_
        refine lv_iload hx hb dX0_performGroup_172 (lv_at hl 0 rfl) ?_
        refine lv_iconst (v := nI 1) hx hb dX0_performGroup_174 (by decide) ?_
        refine lv_icmp_ne (tgt := 182) hx hb dX0_performGroup_175 (by decide) (fun h175_25 => ?_) (fun h175_25 => ?_)
        · have h175_25 := zk_ne (by omega) (by omega) h175_25
          refine lv_iconst (v := nI 0) hx hb dX0_performGroup_182 (by decide) ?_
          have hP0 : va_P G.1 vwCl ((zb_L G ad L ++ zb_M G ad L) ++ ([] : va_W)) s.heap := by rw [List.append_nil]; exact hP
          have hD0 : va_D A ((zb_L G ad L ++ zb_M G ad L) ++ ([] : va_W)) := by rw [List.append_nil]; exact hD
          refine zk_callI (wr := ([] : va_W)) (va_runV (As := [.int (nI ((g / 10000) % 10)), .int (nI 0)]) (rest := []) ⟨hx, hb, hml, hown, hts⟩ (c_X2_tryShare l G ad L n t hI (nI ((g / 10000) % 10)) (nI 0) _) (cwV 2 hts gX0_performGroup_X2_tryShare rfl rfl rfl (by decide +kernel) ⟨Nat.le_of_ble_eq_true rfl, Nat.le_of_ble_eq_true rfl⟩) (zk_preV hE hA0 hS (zk_Papp hP0).1 (zk_Dapp hD0).1 (va_recv hK hP (ci := 1) (q0 := 0) rfl rfl)) rfl rfl hl.1 rfl (lv_room (Nat.le_of_ble_eq_true rfl)) dX0_performGroup_183 ⟨Nat.le_of_ble_eq_true rfl, Nat.le_of_ble_eq_true rfl⟩) hP0 hD0 hS hA (fun r27 u28 H locs q29 hP hD hS => ?_)
          obtain ⟨er27, eL30⟩ := q29
          subst er27
          rw [List.append_nil] at hP hD
          have hP : va_P G.1 vwCl (zb_L G ad u28 ++ zb_M G ad u28) H := hP
          have hD : va_D A (zb_L G ad u28 ++ zb_M G ad u28) := hD
          refine lv_if_eq (tgt := 193) hx hb dX0_performGroup_186 (by decide) (fun h186_30 => ?_) (fun h186_30 => ?_)
          · have h186_30 := zk_b0 h186_30
            refine lv_iconst (v := nI 0) hx hb dX0_performGroup_193 (by decide) ?_
            exact zk_retz u28 hQ hx hb hr hlocks hS hP hD (Nat.le_of_ble_eq_true rfl) (Nat.le_of_ble_eq_true rfl) dX0_performGroup_194 (rfl) (by rw [cGroup_4 (zk_eq (by omega) (by omega) h1_4), if_pos (show g / 10 % 1000 = 0 ∧ g % 10 ≤ 1 by omega), if_neg (show ¬ g % 10 = 1 by omega)]; exact ⟨(if_neg h186_30).symm, eL30⟩)
          · have h186_30 := zk_b1 h186_30
            refine lv_iconst (v := nI 1) hx hb dX0_performGroup_189 (by decide) ?_
            refine lv_goto (tgt := 194) hx hb dX0_performGroup_190 (by decide) ?_
            exact zk_retz u28 hQ hx hb hr hlocks hS hP hD (Nat.le_of_ble_eq_true rfl) (Nat.le_of_ble_eq_true rfl) dX0_performGroup_194 (rfl) (by rw [cGroup_4 (zk_eq (by omega) (by omega) h1_4), if_pos (show g / 10 % 1000 = 0 ∧ g % 10 ≤ 1 by omega), if_neg (show ¬ g % 10 = 1 by omega)]; exact ⟨(if_pos h186_30).symm, eL30⟩)
        · have h175_25 := zk_eq (by omega) (by omega) h175_25
          refine lv_iconst (v := nI 1) hx hb dX0_performGroup_178 (by decide) ?_
          refine lv_goto (tgt := 183) hx hb dX0_performGroup_179 (by decide) ?_
          have hP0 : va_P G.1 vwCl ((zb_L G ad L ++ zb_M G ad L) ++ ([] : va_W)) s.heap := by rw [List.append_nil]; exact hP
          have hD0 : va_D A ((zb_L G ad L ++ zb_M G ad L) ++ ([] : va_W)) := by rw [List.append_nil]; exact hD
          refine zk_callI (wr := ([] : va_W)) (va_runV (As := [.int (nI ((g / 10000) % 10)), .int (nI 1)]) (rest := []) ⟨hx, hb, hml, hown, hts⟩ (c_X2_tryShare l G ad L n t hI (nI ((g / 10000) % 10)) (nI 1) _) (cwV 2 hts gX0_performGroup_X2_tryShare rfl rfl rfl (by decide +kernel) ⟨Nat.le_of_ble_eq_true rfl, Nat.le_of_ble_eq_true rfl⟩) (zk_preV hE hA0 hS (zk_Papp hP0).1 (zk_Dapp hD0).1 (va_recv hK hP (ci := 1) (q0 := 0) rfl rfl)) rfl rfl hl.1 rfl (lv_room (Nat.le_of_ble_eq_true rfl)) dX0_performGroup_183 ⟨Nat.le_of_ble_eq_true rfl, Nat.le_of_ble_eq_true rfl⟩) hP0 hD0 hS hA (fun r32 u33 H locs q34 hP hD hS => ?_)
          obtain ⟨er32, eL35⟩ := q34
          subst er32
          rw [List.append_nil] at hP hD
          have hP : va_P G.1 vwCl (zb_L G ad u33 ++ zb_M G ad u33) H := hP
          have hD : va_D A (zb_L G ad u33 ++ zb_M G ad u33) := hD
          refine lv_if_eq (tgt := 193) hx hb dX0_performGroup_186 (by decide) (fun h186_35 => ?_) (fun h186_35 => ?_)
          · have h186_35 := zk_b0 h186_35
            refine lv_iconst (v := nI 0) hx hb dX0_performGroup_193 (by decide) ?_
            exact zk_retz u33 hQ hx hb hr hlocks hS hP hD (Nat.le_of_ble_eq_true rfl) (Nat.le_of_ble_eq_true rfl) dX0_performGroup_194 (rfl) (by rw [cGroup_4 (zk_eq (by omega) (by omega) h1_4), if_pos (show g / 10 % 1000 = 0 ∧ g % 10 ≤ 1 by omega), if_pos (show g % 10 = 1 by omega)]; exact ⟨(if_neg h186_35).symm, eL35⟩)
          · have h186_35 := zk_b1 h186_35
            refine lv_iconst (v := nI 1) hx hb dX0_performGroup_189 (by decide) ?_
            refine lv_goto (tgt := 194) hx hb dX0_performGroup_190 (by decide) ?_
            exact zk_retz u33 hQ hx hb hr hlocks hS hP hD (Nat.le_of_ble_eq_true rfl) (Nat.le_of_ble_eq_true rfl) dX0_performGroup_194 (rfl) (by rw [cGroup_4 (zk_eq (by omega) (by omega) h1_4), if_pos (show g / 10 % 1000 = 0 ∧ g % 10 ≤ 1 by omega), if_pos (show g % 10 = 1 by omega)]; exact ⟨(if_pos h186_35).symm, eL35⟩)
  rcases Decidable.em (nI (g / 100000) = nI 5) with h1_5 | h1_n5
  · refine lv_tableIn (tgt := 195) hx hb dX0_performGroup_37 (by rw [h1_5]; decide) (by rw [h1_5]; decide) (by rw [h1_5]; rfl) (by decide) ?_
    refine lv_iload_n hx hb dX0_performGroup_195 rfl (lv_at hl 5 rfl) ?_
    refine lv_sipush (v := nI 10000) hx hb dX0_performGroup_196 (by decide) ?_
    refine zk_iremN hx hb dX0_performGroup_199 (by omega) (by omega) (by omega) ?_
    refine lv_if_ne (tgt := 216) hx hb dX0_performGroup_200 (by decide) (fun h200_36 => ?_) (fun h200_36 => ?_)
    · have h200_36 := zk_ne0 (by omega) h200_36
      refine lv_iconst (v := nI 0) hx hb dX0_performGroup_216 (by decide) ?_
      exact zk_retz L hQ hx hb hr hlocks hS hP hD (Nat.le_of_ble_eq_true rfl) (Nat.le_of_ble_eq_true rfl) dX0_performGroup_217 (rfl) (by rw [cGroup_5 (zk_eq (by omega) (by omega) h1_5), if_neg (show ¬ g % 10000 = 0 by omega)]; exact ⟨rfl, rfl⟩)
    · have h200_36 := zk_eq0 (by omega) h200_36
      refine lv_aload_n hx hb dX0_performGroup_203 rfl (lv_at hl 4 rfl) ?_
      refine lv_iload hx hb dX0_performGroup_204 (lv_at hl 1 rfl) ?_
      have hP0 : va_P G.1 vwCl ((zb_L G ad L ++ zb_M G ad L) ++ ([] : va_W)) s.heap := by rw [List.append_nil]; exact hP
      have hD0 : va_D A ((zb_L G ad L ++ zb_M G ad L) ++ ([] : va_W)) := by rw [List.append_nil]; exact hD
      refine zk_callI (wr := ([] : va_W)) (va_runV (As := [.int (nI ((g / 10000) % 10))]) (rest := []) ⟨hx, hb, hml, hown, hts⟩ (c_X2_tryWriteOff l G ad L n t hI (nI ((g / 10000) % 10)) _) (cwV 1 hts gX0_performGroup_X2_tryWriteOff rfl rfl rfl (by decide +kernel) ⟨Nat.le_of_ble_eq_true rfl, Nat.le_of_ble_eq_true rfl⟩) (zk_preV hE hA0 hS (zk_Papp hP0).1 (zk_Dapp hD0).1 (va_recv hK hP (ci := 1) (q0 := 0) rfl rfl)) rfl rfl hl.1 rfl (lv_room (Nat.le_of_ble_eq_true rfl)) dX0_performGroup_206 ⟨Nat.le_of_ble_eq_true rfl, Nat.le_of_ble_eq_true rfl⟩) hP0 hD0 hS hA (fun r38 u39 H locs q40 hP hD hS => ?_)
      obtain ⟨er38, eL41⟩ := q40
      subst er38
      rw [List.append_nil] at hP hD
      have hP : va_P G.1 vwCl (zb_L G ad u39 ++ zb_M G ad u39) H := hP
      have hD : va_D A (zb_L G ad u39 ++ zb_M G ad u39) := hD
      refine lv_if_eq (tgt := 216) hx hb dX0_performGroup_209 (by decide) (fun h209_41 => ?_) (fun h209_41 => ?_)
      · have h209_41 := zk_b0 h209_41
        refine lv_iconst (v := nI 0) hx hb dX0_performGroup_216 (by decide) ?_
        exact zk_retz u39 hQ hx hb hr hlocks hS hP hD (Nat.le_of_ble_eq_true rfl) (Nat.le_of_ble_eq_true rfl) dX0_performGroup_217 (rfl) (by rw [cGroup_5 (zk_eq (by omega) (by omega) h1_5), if_pos (show g % 10000 = 0 by omega)]; exact ⟨(if_neg h209_41).symm, eL41⟩)
      · have h209_41 := zk_b1 h209_41
        refine lv_iconst (v := nI 1) hx hb dX0_performGroup_212 (by decide) ?_
        refine lv_goto (tgt := 217) hx hb dX0_performGroup_213 (by decide) ?_
        exact zk_retz u39 hQ hx hb hr hlocks hS hP hD (Nat.le_of_ble_eq_true rfl) (Nat.le_of_ble_eq_true rfl) dX0_performGroup_217 (rfl) (by rw [cGroup_5 (zk_eq (by omega) (by omega) h1_5), if_pos (show g % 10000 = 0 by omega)]; exact ⟨(if_pos h209_41).symm, eL41⟩)
  rcases Decidable.em (nI (g / 100000) = nI 6) with h1_6 | h1_n6
  · refine lv_tableIn (tgt := 218) hx hb dX0_performGroup_37 (by rw [h1_6]; decide) (by rw [h1_6]; decide) (by rw [h1_6]; rfl) (by decide) ?_
    refine lv_iload_n hx hb dX0_performGroup_218 rfl (lv_at hl 5 rfl) ?_
    refine lv_bipush (v := nI 100) hx hb dX0_performGroup_219 (by decide) ?_
    refine zk_idivN hx hb dX0_performGroup_221 (by omega) (by omega) (by omega) ?_
    refine lv_sipush (v := nI 1000) hx hb dX0_performGroup_222 (by decide) ?_
    refine zk_iremN hx hb dX0_performGroup_225 (by omega) (by omega) (by omega) ?_
    refine lv_if_ne (tgt := 244) hx hb dX0_performGroup_226 (by decide) (fun h226_42 => ?_) (fun h226_42 => ?_)
    · have h226_42 := zk_ne0 (by omega) h226_42
      refine lv_iconst (v := nI 0) hx hb dX0_performGroup_244 (by decide) ?_
      exact zk_retz L hQ hx hb hr hlocks hS hP hD (Nat.le_of_ble_eq_true rfl) (Nat.le_of_ble_eq_true rfl) dX0_performGroup_245 (rfl) (by rw [cGroup_6 (zk_eq (by omega) (by omega) h1_6), if_neg (show ¬ g / 100 % 1000 = 0 by omega)]; exact ⟨rfl, rfl⟩)
    · have h226_42 := zk_eq0 (by omega) h226_42
      refine lv_aload_n hx hb dX0_performGroup_229 rfl (lv_at hl 4 rfl) ?_
      refine lv_iload_n hx hb dX0_performGroup_230 rfl (lv_at hl 5 rfl) ?_
      refine lv_bipush (v := nI 100) hx hb dX0_performGroup_231 (by decide) ?_
      refine zk_iremN hx hb dX0_performGroup_233 (by omega) (by omega) (by omega) ?_
      have hP0 : va_P G.1 vwCl ((zb_L G ad L ++ zb_M G ad L) ++ ([] : va_W)) s.heap := by rw [List.append_nil]; exact hP
      have hD0 : va_D A ((zb_L G ad L ++ zb_M G ad L) ++ ([] : va_W)) := by rw [List.append_nil]; exact hD
      refine zk_callI (wr := ([] : va_W)) (va_runV (As := [.int (nI (g % 100))]) (rest := []) ⟨hx, hb, hml, hown, hts⟩ (c_X2_tryDays l G ad L n t hI (nI (g % 100)) _) (cwV 1 hts gX0_performGroup_X2_tryDays rfl rfl rfl (by decide +kernel) ⟨Nat.le_of_ble_eq_true rfl, Nat.le_of_ble_eq_true rfl⟩) (zk_preV hE hA0 hS (zk_Papp hP0).1 (zk_Dapp hD0).1 (va_recv hK hP (ci := 1) (q0 := 0) rfl rfl)) rfl rfl hl.1 rfl (lv_room (Nat.le_of_ble_eq_true rfl)) dX0_performGroup_234 ⟨Nat.le_of_ble_eq_true rfl, Nat.le_of_ble_eq_true rfl⟩) hP0 hD0 hS hA (fun r44 u45 H locs q46 hP hD hS => ?_)
      obtain ⟨er44, eL47⟩ := q46
      subst er44
      rw [List.append_nil] at hP hD
      have hP : va_P G.1 vwCl (zb_L G ad u45 ++ zb_M G ad u45) H := hP
      have hD : va_D A (zb_L G ad u45 ++ zb_M G ad u45) := hD
      refine lv_if_eq (tgt := 244) hx hb dX0_performGroup_237 (by decide) (fun h237_47 => ?_) (fun h237_47 => ?_)
      · have h237_47 := zk_b0 h237_47
        refine lv_iconst (v := nI 0) hx hb dX0_performGroup_244 (by decide) ?_
        exact zk_retz u45 hQ hx hb hr hlocks hS hP hD (Nat.le_of_ble_eq_true rfl) (Nat.le_of_ble_eq_true rfl) dX0_performGroup_245 (rfl) (by rw [cGroup_6 (zk_eq (by omega) (by omega) h1_6), if_pos (show g / 100 % 1000 = 0 by omega)]; exact ⟨(if_neg h237_47).symm, eL47⟩)
      · have h237_47 := zk_b1 h237_47
        refine lv_iconst (v := nI 1) hx hb dX0_performGroup_240 (by decide) ?_
        refine lv_goto (tgt := 245) hx hb dX0_performGroup_241 (by decide) ?_
        exact zk_retz u45 hQ hx hb hr hlocks hS hP hD (Nat.le_of_ble_eq_true rfl) (Nat.le_of_ble_eq_true rfl) dX0_performGroup_245 (rfl) (by rw [cGroup_6 (zk_eq (by omega) (by omega) h1_6), if_pos (show g / 100 % 1000 = 0 by omega)]; exact ⟨(if_pos h237_47).symm, eL47⟩)
  rcases Decidable.em (nI (g / 100000) = nI 7) with h1_7 | h1_n7
  · refine lv_tableIn (tgt := 246) hx hb dX0_performGroup_37 (by rw [h1_7]; decide) (by rw [h1_7]; decide) (by rw [h1_7]; rfl) (by decide) ?_
    refine lv_aload_n hx hb dX0_performGroup_246 rfl (lv_at hl 4 rfl) ?_
    refine lv_iload_n hx hb dX0_performGroup_247 rfl (lv_at hl 3 rfl) ?_
    have hP0 : va_P G.1 vwCl ((zb_L G ad L ++ zb_M G ad L) ++ ([] : va_W)) s.heap := by rw [List.append_nil]; exact hP
    have hD0 : va_D A ((zb_L G ad L ++ zb_M G ad L) ++ ([] : va_W)) := by rw [List.append_nil]; exact hD
    refine zk_callI (wr := ([] : va_W)) (va_runV (As := [.int (nI ((g / 1000) % 100))]) (rest := []) ⟨hx, hb, hml, hown, hts⟩ (c_X2_hasChild l G ad L n t hI (nI ((g / 1000) % 100)) _) (cwV 1 hts gX0_performGroup_X2_hasChild rfl rfl rfl (by decide +kernel) ⟨Nat.le_of_ble_eq_true rfl, Nat.le_of_ble_eq_true rfl⟩) (zk_preV hE hA0 hS (zk_Papp hP0).1 (zk_Dapp hD0).1 (va_recv hK hP (ci := 1) (q0 := 0) rfl rfl)) rfl rfl hl.1 rfl (lv_room (Nat.le_of_ble_eq_true rfl)) dX0_performGroup_248 ⟨Nat.le_of_ble_eq_true rfl, Nat.le_of_ble_eq_true rfl⟩) hP0 hD0 hS hA (fun r49 u50 H locs q51 hP hD hS => ?_)
    subst q51
    rw [List.append_nil] at hP hD
    have hP : va_P G.1 vwCl (zb_L G ad L ++ zb_M G ad L) H := hP
    have hD : va_D A (zb_L G ad L ++ zb_M G ad L) := hD
    refine lv_if_eq (tgt := 279) hx hb dX0_performGroup_251 (by decide) (fun h251_51 => ?_) (fun h251_51 => ?_)
    · have h251_51 := zk_b0 h251_51
      refine lv_iconst (v := nI 0) hx hb dX0_performGroup_279 (by decide) ?_
      exact zk_retz L hQ hx hb hr hlocks hS hP hD (Nat.le_of_ble_eq_true rfl) (Nat.le_of_ble_eq_true rfl) dX0_performGroup_280 (rfl) (by rw [cGroup_7 (zk_eq (by omega) (by omega) h1_7)]; exact ⟨(if_neg (fun z => h251_51 z.1)).symm, rfl⟩)
    · have h251_51 := zk_b1 h251_51
      refine lv_iload_n hx hb dX0_performGroup_254 rfl (lv_at hl 2 rfl) ?_
      have hP0 : va_P G.1 vwCl (([] : va_W) ++ (zb_L G ad L ++ zb_M G ad L)) H := hP
      have hD0 : va_D A (([] : va_W) ++ (zb_L G ad L ++ zb_M G ad L)) := hD
      refine zk_callI (wr := zb_L G ad L ++ zb_M G ad L) (va_runSN (As := [.int (nI ((g / 10) % 100))]) (rest := []) ⟨hx, hb, hml, hown, hts⟩ (c_X5_isDay l G (nI ((g / 10) % 100)) _) ⟨va_cnB 1 hts (ggX0_performGroup_X5_isDay) rfl rfl rfl hE.2.1.2.2.2.2.1 w19 (by decide +kernel) ⟨Nat.le_of_ble_eq_true rfl, Nat.le_of_ble_eq_true rfl⟩, w18, trivial⟩ (zk_preS hE hA0 hS (zk_Papp hP0).1 (zk_Dapp hD0).1) rfl rfl hl.1 rfl (lv_room (Nat.le_of_ble_eq_true rfl)) dX0_performGroup_255 ⟨Nat.le_of_ble_eq_true rfl, Nat.le_of_ble_eq_true rfl⟩) hP0 hD0 hS hA (fun r53 u54 H locs q55 hP hD hS => ?_)
      subst q55
      have hP : va_P G.1 vwCl (zb_L G ad L ++ zb_M G ad L) H := hP
      have hD : va_D A (zb_L G ad L ++ zb_M G ad L) := hD
      refine lv_if_eq (tgt := 279) hx hb dX0_performGroup_258 (by decide) (fun h258_55 => ?_) (fun h258_55 => ?_)
      · have h258_55 := zk_b0 h258_55
        refine lv_iconst (v := nI 0) hx hb dX0_performGroup_279 (by decide) ?_
        exact zk_retz L hQ hx hb hr hlocks hS hP hD (Nat.le_of_ble_eq_true rfl) (Nat.le_of_ble_eq_true rfl) dX0_performGroup_280 (rfl) (by rw [cGroup_7 (zk_eq (by omega) (by omega) h1_7)]; exact ⟨(if_neg (fun z => h258_55 z.2.1)).symm, rfl⟩)
      · have h258_55 := zk_b1 h258_55
        refine lv_aload_n hx hb dX0_performGroup_261 rfl (lv_at hl 4 rfl) ?_
        have hc7 := sHas_lt hI (by omega) h251_51
        have hd7 := sDay_lt (by omega) h258_55
        refine va_get (D := G.1) (ci := 1) (v := .ref (ad 9)) (C := RX2) (T := TX2) (N := 14) hx hb hts (fun _ h => List.mem_cons_of_mem _ (List.mem_append_left _ (List.mem_append_right _ h))) hown hK hP 0 rfl rfl 13 (by decide) w2 (fun _ h9 => h9) rfl dX0_performGroup_262 ?_
        refine lv_iload_n hx hb dX0_performGroup_265 rfl (lv_at hl 3 rfl) ?_
        refine lv_iload_n hx hb dX0_performGroup_266 rfl (lv_at hl 2 rfl) ?_
        have hP0 : va_P G.1 vwCl (zb_M G ad L ++ zb_L G ad L) H := zk_Pperm hP List.perm_append_comm
        have hD0 : va_D A (zb_M G ad L ++ zb_L G ad L) := zk_Dperm hD List.perm_append_comm
        refine zk_callI (wr := zb_L G ad L) (va_runV (As := [.int (nI ((g / 1000) % 100)), .int (nI ((g / 10) % 100))]) (rest := []) ⟨hx, hb, hml, hown, hts⟩ (c_X3_kindOf l G ad L ((g / 1000) % 100) ((g / 10) % 100) (by omega) (by omega) _) (cwV 2 hts gX0_performGroup_X3_kindOf rfl rfl rfl (by decide +kernel) ⟨Nat.le_of_ble_eq_true rfl, Nat.le_of_ble_eq_true rfl⟩) (zk_preV hE hA0 hS (zk_Papp hP0).1 (zk_Dapp hD0).1 (va_recv hK hP (ci := 2) (q0 := 9) rfl rfl)) rfl rfl hl.1 rfl (lv_room (Nat.le_of_ble_eq_true rfl)) dX0_performGroup_267 ⟨Nat.le_of_ble_eq_true rfl, Nat.le_of_ble_eq_true rfl⟩) hP0 hD0 hS hA (fun r57 u58 H locs q59 hP hD hS => ?_)
        subst q59
        have hP := zk_Pperm hP List.perm_append_comm
        have hD := zk_Dperm hD List.perm_append_comm
        have hP : va_P G.1 vwCl (zb_L G ad L ++ zb_M G ad L) H := hP
        have hD : va_D A (zb_L G ad L ++ zb_M G ad L) := hD
        refine lv_iload hx hb dX0_performGroup_270 (lv_at hl 0 rfl) ?_
        refine lv_icmp_ne (tgt := 279) hx hb dX0_performGroup_272 (by decide) (fun h272_59 => ?_) (fun h272_59 => ?_)
        · refine lv_iconst (v := nI 0) hx hb dX0_performGroup_279 (by decide) ?_
          exact zk_retz L hQ hx hb hr hlocks hS hP hD (Nat.le_of_ble_eq_true rfl) (Nat.le_of_ble_eq_true rfl) dX0_performGroup_280 (rfl) (by rw [cGroup_7 (zk_eq (by omega) (by omega) h1_7)]; exact ⟨(if_neg (fun z => h272_59 z.2.2)).symm, rfl⟩)
        · refine lv_iconst (v := nI 1) hx hb dX0_performGroup_275 (by decide) ?_
          refine lv_goto (tgt := 280) hx hb dX0_performGroup_276 (by decide) ?_
          exact zk_retz L hQ hx hb hr hlocks hS hP hD (Nat.le_of_ble_eq_true rfl) (Nat.le_of_ble_eq_true rfl) dX0_performGroup_280 (rfl) (by rw [cGroup_7 (zk_eq (by omega) (by omega) h1_7)]; exact ⟨(if_pos ⟨h251_51, h258_55, h272_59⟩).symm, rfl⟩)
  rcases Decidable.em (nI (g / 100000) = nI 8) with h1_8 | h1_n8
  · refine lv_tableIn (tgt := 281) hx hb dX0_performGroup_37 (by rw [h1_8]; decide) (by rw [h1_8]; decide) (by rw [h1_8]; rfl) (by decide) ?_
    refine lv_iload hx hb dX0_performGroup_281 (lv_at hl 0 rfl) ?_
    refine lv_if_ne (tgt := 318) hx hb dX0_performGroup_283 (by decide) (fun h283_60 => ?_) (fun h283_60 => ?_)
    · have h283_60 := zk_ne0 (by omega) h283_60
      refine lv_iconst (v := nI 0) hx hb dX0_performGroup_318 (by decide) ?_
      exact zk_retz L hQ hx hb hr hlocks hS hP hD (Nat.le_of_ble_eq_true rfl) (Nat.le_of_ble_eq_true rfl) dX0_performGroup_319 (rfl) (by rw [cGroup_8 (zk_eq (by omega) (by omega) h1_8)]; exact ⟨(if_neg (fun z => by omega)).symm, rfl⟩)
    · have h283_60 := zk_eq0 (by omega) h283_60
      refine lv_iload hx hb dX0_performGroup_286 (lv_at hl 1 rfl) ?_
      have hP0 : va_P G.1 vwCl (([] : va_W) ++ (zb_L G ad L ++ zb_M G ad L)) s.heap := hP
      have hD0 : va_D A (([] : va_W) ++ (zb_L G ad L ++ zb_M G ad L)) := hD
      refine zk_callI (wr := zb_L G ad L ++ zb_M G ad L) (va_runSN (As := [.int (nI ((g / 10000) % 10))]) (rest := []) ⟨hx, hb, hml, hown, hts⟩ (c_X5_isFamily l G (nI ((g / 10000) % 10)) _) ⟨va_cnB 1 hts (ggX0_performGroup_X5_isFamily) rfl rfl rfl hE.2.1.2.2.2.2.2.1 w19 (by decide +kernel) ⟨Nat.le_of_ble_eq_true rfl, Nat.le_of_ble_eq_true rfl⟩, w111, trivial⟩ (zk_preS hE hA0 hS (zk_Papp hP0).1 (zk_Dapp hD0).1) rfl rfl hl.1 rfl (lv_room (Nat.le_of_ble_eq_true rfl)) dX0_performGroup_288 ⟨Nat.le_of_ble_eq_true rfl, Nat.le_of_ble_eq_true rfl⟩) hP0 hD0 hS hA (fun r62 u63 H locs q64 hP hD hS => ?_)
      subst q64
      have hP : va_P G.1 vwCl (zb_L G ad L ++ zb_M G ad L) H := hP
      have hD : va_D A (zb_L G ad L ++ zb_M G ad L) := hD
      refine lv_if_eq (tgt := 318) hx hb dX0_performGroup_291 (by decide) (fun h291_64 => ?_) (fun h291_64 => ?_)
      · have h291_64 := zk_b0 h291_64
        refine lv_iconst (v := nI 0) hx hb dX0_performGroup_318 (by decide) ?_
        exact zk_retz L hQ hx hb hr hlocks hS hP hD (Nat.le_of_ble_eq_true rfl) (Nat.le_of_ble_eq_true rfl) dX0_performGroup_319 (rfl) (by rw [cGroup_8 (zk_eq (by omega) (by omega) h1_8)]; exact ⟨(if_neg (fun z => h291_64 z.2.1)).symm, rfl⟩)
      · have h291_64 := zk_b1 h291_64
        refine lv_aload_n hx hb dX0_performGroup_294 rfl (lv_at hl 4 rfl) ?_
        refine lv_iload hx hb dX0_performGroup_295 (lv_at hl 1 rfl) ?_
        have hP0 : va_P G.1 vwCl ((zb_L G ad L ++ zb_M G ad L) ++ ([] : va_W)) H := by rw [List.append_nil]; exact hP
        have hD0 : va_D A ((zb_L G ad L ++ zb_M G ad L) ++ ([] : va_W)) := by rw [List.append_nil]; exact hD
        refine zk_callI (wr := ([] : va_W)) (va_runV (As := [.int (nI ((g / 10000) % 10))]) (rest := []) ⟨hx, hb, hml, hown, hts⟩ (c_X2_debtOf l G ad L n t hI (nI ((g / 10000) % 10)) _) (cwV 1 hts gX0_performGroup_X2_debtOf rfl rfl rfl (by decide +kernel) ⟨Nat.le_of_ble_eq_true rfl, Nat.le_of_ble_eq_true rfl⟩) (zk_preV hE hA0 hS (zk_Papp hP0).1 (zk_Dapp hD0).1 (va_recv hK hP (ci := 1) (q0 := 0) rfl rfl)) rfl rfl hl.1 rfl (lv_room (Nat.le_of_ble_eq_true rfl)) dX0_performGroup_297 ⟨Nat.le_of_ble_eq_true rfl, Nat.le_of_ble_eq_true rfl⟩) hP0 hD0 hS hA (fun r66 u67 H locs q68 hP hD hS => ?_)
        subst q68
        rw [List.append_nil] at hP hD
        have hP : va_P G.1 vwCl (zb_L G ad L ++ zb_M G ad L) H := hP
        have hD : va_D A (zb_L G ad L ++ zb_M G ad L) := hD
        refine lv_iload_n hx hb dX0_performGroup_300 rfl (lv_at hl 5 rfl) ?_
        refine lv_bipush (v := nI 10) hx hb dX0_performGroup_301 (by decide) ?_
        refine zk_idivN hx hb dX0_performGroup_303 (by omega) (by omega) (by omega) ?_
        refine lv_sipush (v := nI 1000) hx hb dX0_performGroup_304 (by decide) ?_
        refine zk_iremN hx hb dX0_performGroup_307 (by omega) (by omega) (by omega) ?_
        refine lv_bipush (v := nI 10) hx hb dX0_performGroup_308 (by decide) ?_
        refine zk_imulN hx hb dX0_performGroup_310 ?_
        refine lv_icmp_gt (tgt := 318) hx hb dX0_performGroup_311 (by decide) (fun h311_68 => ?_) (fun h311_68 => ?_)
        · have h311_68 := h311_68
          refine lv_iconst (v := nI 0) hx hb dX0_performGroup_318 (by decide) ?_
          exact zk_retz L hQ hx hb hr hlocks hS hP hD (Nat.le_of_ble_eq_true rfl) (Nat.le_of_ble_eq_true rfl) dX0_performGroup_319 (rfl) (by rw [cGroup_8 (zk_eq (by omega) (by omega) h1_8)]; exact ⟨(if_neg (fun z => z.2.2 h311_68)).symm, rfl⟩)
        · have h311_68 := h311_68
          refine lv_iconst (v := nI 1) hx hb dX0_performGroup_314 (by decide) ?_
          refine lv_goto (tgt := 319) hx hb dX0_performGroup_315 (by decide) ?_
          exact zk_retz L hQ hx hb hr hlocks hS hP hD (Nat.le_of_ble_eq_true rfl) (Nat.le_of_ble_eq_true rfl) dX0_performGroup_319 (rfl) (by rw [cGroup_8 (zk_eq (by omega) (by omega) h1_8)]; exact ⟨(if_pos ⟨by omega, h291_64, h311_68⟩).symm, rfl⟩)
  rcases Decidable.em (nI (g / 100000) = nI 9) with h1_9 | h1_n9
  · refine lv_tableIn (tgt := 320) hx hb dX0_performGroup_37 (by rw [h1_9]; decide) (by rw [h1_9]; decide) (by rw [h1_9]; rfl) (by decide) ?_
    refine lv_iload_n hx hb dX0_performGroup_320 rfl (lv_at hl 5 rfl) ?_
    refine lv_bipush (v := nI 100) hx hb dX0_performGroup_321 (by decide) ?_
    refine zk_idivN hx hb dX0_performGroup_323 (by omega) (by omega) (by omega) ?_
    refine lv_sipush (v := nI 1000) hx hb dX0_performGroup_324 (by decide) ?_
    refine zk_iremN hx hb dX0_performGroup_327 (by omega) (by omega) (by omega) ?_
    refine lv_if_ne (tgt := 349) hx hb dX0_performGroup_328 (by decide) (fun h328_69 => ?_) (fun h328_69 => ?_)
    · have h328_69 := zk_ne0 (by omega) h328_69
      refine lv_iconst (v := nI 0) hx hb dX0_performGroup_349 (by decide) ?_
      exact zk_retz L hQ hx hb hr hlocks hS hP hD (Nat.le_of_ble_eq_true rfl) (Nat.le_of_ble_eq_true rfl) dX0_performGroup_350 (rfl) (by rw [cGroup_9 (zk_eq (by omega) (by omega) h1_9)]; exact ⟨(if_neg (fun z => by omega)).symm, rfl⟩)
    · have h328_69 := zk_eq0 (by omega) h328_69
      refine lv_aload_n hx hb dX0_performGroup_331 rfl (lv_at hl 4 rfl) ?_
      refine va_get (D := G.1) (ci := 1) (v := .ref (ad 9)) (C := RX2) (T := TX2) (N := 14) hx hb hts (fun _ h => List.mem_cons_of_mem _ (List.mem_append_left _ (List.mem_append_right _ h))) hown hK hP 0 rfl rfl 13 (by decide) w2 (fun _ h9 => h9) rfl dX0_performGroup_332 ?_
      have hP0 : va_P G.1 vwCl (zb_M G ad L ++ zb_L G ad L) s.heap := zk_Pperm hP List.perm_append_comm
      have hD0 : va_D A (zb_M G ad L ++ zb_L G ad L) := zk_Dperm hD List.perm_append_comm
      refine zk_callI (wr := zb_L G ad L) (va_runV (As := []) (rest := []) ⟨hx, hb, hml, hown, hts⟩ (c_X3_countServed l G ad L _) (cwV 0 hts gX0_performGroup_X3_countServed rfl rfl rfl (by decide +kernel) ⟨Nat.le_of_ble_eq_true rfl, Nat.le_of_ble_eq_true rfl⟩) (zk_preV hE hA0 hS (zk_Papp hP0).1 (zk_Dapp hD0).1 (va_recv hK hP (ci := 2) (q0 := 9) rfl rfl)) rfl rfl hl.1 rfl (lv_room (Nat.le_of_ble_eq_true rfl)) dX0_performGroup_335 ⟨Nat.le_of_ble_eq_true rfl, Nat.le_of_ble_eq_true rfl⟩) hP0 hD0 hS hA (fun r71 u72 H locs q73 hP hD hS => ?_)
      subst q73
      have hP := zk_Pperm hP List.perm_append_comm
      have hD := zk_Dperm hD List.perm_append_comm
      have hP : va_P G.1 vwCl (zb_L G ad L ++ zb_M G ad L) H := hP
      have hD : va_D A (zb_L G ad L ++ zb_M G ad L) := hD
      refine lv_iload_n hx hb dX0_performGroup_338 rfl (lv_at hl 5 rfl) ?_
      refine lv_bipush (v := nI 100) hx hb dX0_performGroup_339 (by decide) ?_
      refine zk_iremN hx hb dX0_performGroup_341 (by omega) (by omega) (by omega) ?_
      refine lv_icmp_lt (tgt := 349) hx hb dX0_performGroup_342 (by decide) (fun h342_73 => ?_) (fun h342_73 => ?_)
      · have h342_73 := h342_73
        refine lv_iconst (v := nI 0) hx hb dX0_performGroup_349 (by decide) ?_
        exact zk_retz L hQ hx hb hr hlocks hS hP hD (Nat.le_of_ble_eq_true rfl) (Nat.le_of_ble_eq_true rfl) dX0_performGroup_350 (rfl) (by rw [cGroup_9 (zk_eq (by omega) (by omega) h1_9)]; exact ⟨(if_neg (fun z => z.2 h342_73)).symm, rfl⟩)
      · have h342_73 := h342_73
        refine lv_iconst (v := nI 1) hx hb dX0_performGroup_345 (by decide) ?_
        refine lv_goto (tgt := 350) hx hb dX0_performGroup_346 (by decide) ?_
        exact zk_retz L hQ hx hb hr hlocks hS hP hD (Nat.le_of_ble_eq_true rfl) (Nat.le_of_ble_eq_true rfl) dX0_performGroup_350 (rfl) (by rw [cGroup_9 (zk_eq (by omega) (by omega) h1_9)]; exact ⟨(if_pos ⟨by omega, h342_73⟩).symm, rfl⟩)
  refine lv_tableOut (tgt := 351) hx hb dX0_performGroup_37 (zk_out (1) 9 (fun k hk z => by
        rcases (show k = 0 ∨ k = 1 ∨ k = 2 ∨ k = 3 ∨ k = 4 ∨ k = 5 ∨ k = 6 ∨ k = 7 ∨ k = 8 by omega) with rfl | rfl | rfl | rfl | rfl | rfl | rfl | rfl | rfl
        · exact h1_n1 (zk_toI z (by decide))
        · exact h1_n2 (zk_toI z (by decide))
        · exact h1_n3 (zk_toI z (by decide))
        · exact h1_n4 (zk_toI z (by decide))
        · exact h1_n5 (zk_toI z (by decide))
        · exact h1_n6 (zk_toI z (by decide))
        · exact h1_n7 (zk_toI z (by decide))
        · exact h1_n8 (zk_toI z (by decide))
        · exact h1_n9 (zk_toI z (by decide)))) (by decide) ?_
  refine lv_iconst (v := nI 0) hx hb dX0_performGroup_351 (by decide) ?_
  exact zk_retz L hQ hx hb hr hlocks hS hP hD (Nat.le_of_ble_eq_true rfl) (Nat.le_of_ble_eq_true rfl) dX0_performGroup_352 (rfl) (by rw [cGroup_no (fun z => h1_n1 (by rw [z])) (fun z => h1_n2 (by rw [z])) (fun z => h1_n3 (by rw [z])) (fun z => h1_n4 (by rw [z])) (fun z => h1_n5 (by rw [z])) (fun z => h1_n6 (by rw [z])) (fun z => h1_n7 (by rw [z])) (fun z => h1_n8 (by rw [z])) (fun z => h1_n9 (by rw [z]))]; exact ⟨rfl, rfl⟩)

theorem zk_sw16 (g : Nat) (h0 : ¬ nI (g % 16) = nI 0) (h1 : ¬ nI (g % 16) = nI 1) (h2 : ¬ nI (g % 16) = nI 2) (h3 : ¬ nI (g % 16) = nI 3) (h4 : ¬ nI (g % 16) = nI 4) (h5 : ¬ nI (g % 16) = nI 5) (h6 : ¬ nI (g % 16) = nI 6) (h7 : ¬ nI (g % 16) = nI 7) (h8 : ¬ nI (g % 16) = nI 8) (h9 : ¬ nI (g % 16) = nI 9) (h10 : ¬ nI (g % 16) = nI 10) (h11 : ¬ nI (g % 16) = nI 11) (h12 : ¬ nI (g % 16) = nI 12) (h13 : ¬ nI (g % 16) = nI 13) (h14 : ¬ nI (g % 16) = nI 14) (h15 : ¬ nI (g % 16) = nI 15) : False := by
  have h : g % 16 < 16 := Nat.mod_lt _ (by decide)
  rcases (show g % 16 = 0 ∨ g % 16 = 1 ∨ g % 16 = 2 ∨ g % 16 = 3 ∨ g % 16 = 4 ∨ g % 16 = 5 ∨ g % 16 = 6 ∨ g % 16 = 7 ∨ g % 16 = 8 ∨ g % 16 = 9 ∨ g % 16 = 10 ∨ g % 16 = 11 ∨ g % 16 = 12 ∨ g % 16 = 13 ∨ g % 16 = 14 ∨ g % 16 = 15 by omega) with z | z | z | z | z | z | z | z | z | z | z | z | z | z | z | z
  · exact h0 (by rw [z])
  · exact h1 (by rw [z])
  · exact h2 (by rw [z])
  · exact h3 (by rw [z])
  · exact h4 (by rw [z])
  · exact h5 (by rw [z])
  · exact h6 (by rw [z])
  · exact h7 (by rw [z])
  · exact h8 (by rw [z])
  · exact h9 (by rw [z])
  · exact h10 (by rw [z])
  · exact h11 (by rw [z])
  · exact h12 (by rw [z])
  · exact h13 (by rw [z])
  · exact h14 (by rw [z])
  · exact h15 (by rw [z])
abbrev rmX0_performTurn : Room := { frames := 7, cells := 0, slots := 0, locals := 156 }
set_option maxHeartbeats 4000000 in
set_option maxRecDepth 100000 in
/-- a turn of a simulation -/
theorem c_X0_performTurn (l : Launch) (G : zk_G) (ad : Nat → Nat) (L : zL) (n t : Nat) (hI : sInv L n t) (g : Nat) (hg : g < 2 ^ 31) : zk_I (S := zL) l yX0_performTurn wsX0_performTurn rmX0_performTurn G [.ref (ad 0), .int (nI g)] (zb_L G ad L ++ zb_M G ad L) (fun r u => r = (cTurn L n t g).1 ∧ u = (cTurn L n t g).2) (fun u => zb_L G ad u ++ zb_M G ad u) := by
  refine zk_bodyI (cc := cX0_performTurn) (maxL := 5) (ret := (some .boolean)) (by decide) rfl (Nat.le_of_ble_eq_true rfl) ?_
  intro p E0 s m args below meth cd A ls Q hF hQ
  obtain ⟨hx, hb, hml, hr, hts, hown, hlocks, -, hE, hP, hD, hS, hA, hA0, hl⟩ := hF
  have hK := hE.1
  have hl : lv_has ls 5 [(0, .ref (ad 0)), (1, .int (nI g))] := hl
  obtain ⟨hn, hn12, ht, ht40, hfam, hpay⟩ := id hI
  have w1 := hts _ (List.mem_of_getElem? (l := wsX0_performTurn) (i := 1) (a := Cond.fieldLink RX0 88 "MealAccounts$Ledger" "children" "I") rfl)
  have w2 := hts _ (List.mem_of_getElem? (l := wsX0_performTurn) (i := 2) (a := Cond.methodLink RX0 92 Lib.Math.max.name) rfl)
  have w3 := hts _ (List.mem_of_getElem? (l := wsX0_performTurn) (i := 3) (a := Cond.static Lib.Math.max.name) rfl)
  have w4 := hts _ (List.mem_of_getElem? (l := wsX0_performTurn) (i := 4) (a := Cond.initialized "java/lang/Math") rfl)
  have w5 := hts _ (List.mem_of_getElem? (l := wsX0_performTurn) (i := 5) (a := Cond.code Lib.Math.max.name Lib.Math.max.code 2 (some .int)) rfl)
  refine lv_iload_n hx hb dX0_performTurn_0 rfl (lv_at hl 1 rfl) ?_
  refine lv_bipush (v := nI 16) hx hb dX0_performTurn_1 (by decide) ?_
  refine zk_idivN hx hb dX0_performTurn_3 (by omega) (by omega) (by omega) ?_
  refine lv_aload_n hx hb dX0_performTurn_4 rfl (lv_at hl 0 rfl) ?_
  refine va_get (D := G.1) (ci := 1) (v := .int (L 0 1)) (C := RX2) (T := TX2) (N := 14) hx hb hts (fun _ h => List.mem_cons_of_mem _ (List.mem_append_left _ (List.mem_append_right _ h))) hown hK hP 0 rfl rfl 1 (by decide) w1 (fun _ h9 => h9) rfl dX0_performTurn_5 ?_
  refine zk_top hI.1 ?_
  refine lv_iconst (v := nI 1) hx hb dX0_performTurn_8 (by decide) ?_
  refine va_mmax hx hb (hml.trans hl.1.symm) hown w2 w3 w4 w5 (Nat.le_of_ble_eq_true rfl) (Nat.le_of_ble_eq_true rfl) (Nat.le_of_ble_eq_true rfl) (Nat.le_of_ble_eq_true rfl) dX0_performTurn_9 ?_
  refine zk_top (zk_max (by omega) (by omega)) ?_
  refine zk_iremN hx hb dX0_performTurn_12 (by omega) (by omega) (by omega) ?_
  refine lv_istore_n (lv' := [(2, .int (nI ((g / 16) % (max n 1)))), (0, .ref (ad 0)), (1, .int (nI g))]) hx hb dX0_performTurn_13 rfl hl (by decide) rfl (fun ls hl => ?_)
  refine lv_iload_n hx hb dX0_performTurn_14 rfl (lv_at hl 2 rfl) ?_
  refine lv_sipush (v := nI 256) hx hb dX0_performTurn_15 (by decide) ?_
  refine zk_idivN hx hb dX0_performTurn_18 (by omega) (by omega) (by omega) ?_
  refine lv_bipush (v := nI 40) hx hb dX0_performTurn_19 (by decide) ?_
  refine zk_iremN hx hb dX0_performTurn_21 (by omega) (by omega) (by omega) ?_
  refine lv_istore_n (lv' := [(3, .int (nI ((g / 256) % 40))), (2, .int (nI ((g / 16) % (max n 1)))), (0, .ref (ad 0)), (1, .int (nI g))]) hx hb dX0_performTurn_22 rfl hl (by decide) rfl (fun ls hl => ?_)
  refine lv_iload_n hx hb dX0_performTurn_23 rfl (lv_at hl 3 rfl) ?_
  refine lv_bipush (v := nI 16) hx hb dX0_performTurn_24 (by decide) ?_
  refine zk_idivN hx hb dX0_performTurn_26 (by omega) (by omega) (by omega) ?_
  refine lv_iconst (v := nI 5) hx hb dX0_performTurn_27 (by decide) ?_
  refine zk_iremN hx hb dX0_performTurn_28 (by omega) (by omega) (by omega) ?_
  refine lv_istore (lv' := [(4, .int (nI ((g / 16) % 5))), (3, .int (nI ((g / 256) % 40))), (2, .int (nI ((g / 16) % (max n 1)))), (0, .ref (ad 0)), (1, .int (nI g))]) hx hb dX0_performTurn_29 hl (by decide) rfl (fun ls hl => ?_)
  refine lv_iload_n hx hb dX0_performTurn_31 rfl (lv_at hl 4 rfl) ?_
  refine lv_bipush (v := nI 16) hx hb dX0_performTurn_32 (by decide) ?_
  refine zk_iremN hx hb dX0_performTurn_34 (by omega) (by omega) (by omega) ?_
  rcases Decidable.em (nI (g % 16) = nI 0) with h1_0 | h1_n0
  · refine lv_tableIn (tgt := 112) hx hb dX0_performTurn_35 (by rw [h1_0]; decide) (by rw [h1_0]; decide) (by rw [h1_0]; rfl) (by decide) ?_
    refine lv_aload_n hx hb dX0_performTurn_112 rfl (lv_at hl 3 rfl) ?_
    refine lv_iload hx hb dX0_performTurn_113 (lv_at hl 0 rfl) ?_
    refine lv_iload_n hx hb dX0_performTurn_115 rfl (lv_at hl 4 rfl) ?_
    refine lv_sipush (v := nI 128) hx hb dX0_performTurn_116 (by decide) ?_
    refine zk_idivN hx hb dX0_performTurn_119 (by omega) (by omega) (by omega) ?_
    refine lv_iconst (v := nI 4) hx hb dX0_performTurn_120 (by decide) ?_
    refine zk_iremN hx hb dX0_performTurn_121 (by omega) (by omega) (by omega) ?_
    have hP0 : va_P G.1 vwCl ((zb_L G ad L ++ zb_M G ad L) ++ ([] : va_W)) s.heap := by rw [List.append_nil]; exact hP
    have hD0 : va_D A ((zb_L G ad L ++ zb_M G ad L) ++ ([] : va_W)) := by rw [List.append_nil]; exact hD
    refine zk_callI (wr := ([] : va_W)) (va_runV (As := [.int (nI ((g / 16) % 5)), .int (nI ((g / 128) % 4))]) (rest := []) ⟨hx, hb, hml, hown, hts⟩ (c_X2_tryCome l G ad L n t hI (nI ((g / 16) % 5)) (nI ((g / 128) % 4)) _) (cwV 2 hts gX0_performTurn_X2_tryCome rfl rfl rfl (by decide +kernel) ⟨Nat.le_of_ble_eq_true rfl, Nat.le_of_ble_eq_true rfl⟩) (zk_preV hE hA0 hS (zk_Papp hP0).1 (zk_Dapp hD0).1 (va_recv hK hP (ci := 1) (q0 := 0) rfl rfl)) rfl rfl hl.1 rfl (lv_room (Nat.le_of_ble_eq_true rfl)) dX0_performTurn_122 ⟨Nat.le_of_ble_eq_true rfl, Nat.le_of_ble_eq_true rfl⟩) hP0 hD0 hS hA (fun r2 u3 H locs q4 hP hD hS => ?_)
    obtain ⟨er2, eL5⟩ := q4
    subst er2
    rw [List.append_nil] at hP hD
    have hP : va_P G.1 vwCl (zb_L G ad u3 ++ zb_M G ad u3) H := hP
    have hD : va_D A (zb_L G ad u3 ++ zb_M G ad u3) := hD
    exact zk_retz u3 hQ hx hb hr hlocks hS hP hD (Nat.le_of_ble_eq_true rfl) (Nat.le_of_ble_eq_true rfl) dX0_performTurn_125 (zk_nb) (by rw [cTurn_0 (zk_eq (by omega) (by omega) h1_0)]; exact ⟨rfl, eL5⟩)
  rcases Decidable.em (nI (g % 16) = nI 1) with h1_1 | h1_n1
  · refine lv_tableIn (tgt := 186) hx hb dX0_performTurn_35 (by rw [h1_1]; decide) (by rw [h1_1]; decide) (by rw [h1_1]; rfl) (by decide) ?_
    refine lv_aload_n hx hb dX0_performTurn_186 rfl (lv_at hl 3 rfl) ?_
    refine lv_iload_n hx hb dX0_performTurn_187 rfl (lv_at hl 2 rfl) ?_
    refine lv_iload_n hx hb dX0_performTurn_188 rfl (lv_at hl 1 rfl) ?_
    refine lv_iconst (v := nI 1) hx hb dX0_performTurn_189 (by decide) ?_
    have hP0 : va_P G.1 vwCl ((zb_L G ad L ++ zb_M G ad L) ++ ([] : va_W)) s.heap := by rw [List.append_nil]; exact hP
    have hD0 : va_D A ((zb_L G ad L ++ zb_M G ad L) ++ ([] : va_W)) := by rw [List.append_nil]; exact hD
    refine zk_callI (wr := ([] : va_W)) (va_runV (As := [.int (nI ((g / 16) % (max n 1))), .int (nI ((g / 256) % 40)), .int (nI 1)]) (rest := []) ⟨hx, hb, hml, hown, hts⟩ (c_X2_tryOrder l G ad L n t hI (nI ((g / 16) % (max n 1))) (nI ((g / 256) % 40)) (nI 1) _) (cwV 3 hts gX0_performTurn_X2_tryOrder rfl rfl rfl (by decide +kernel) ⟨Nat.le_of_ble_eq_true rfl, Nat.le_of_ble_eq_true rfl⟩) (zk_preV hE hA0 hS (zk_Papp hP0).1 (zk_Dapp hD0).1 (va_recv hK hP (ci := 1) (q0 := 0) rfl rfl)) rfl rfl hl.1 rfl (lv_room (Nat.le_of_ble_eq_true rfl)) dX0_performTurn_190 ⟨Nat.le_of_ble_eq_true rfl, Nat.le_of_ble_eq_true rfl⟩) hP0 hD0 hS hA (fun r6 u7 H locs q8 hP hD hS => ?_)
    obtain ⟨er6, eL9⟩ := q8
    subst er6
    rw [List.append_nil] at hP hD
    have hP : va_P G.1 vwCl (zb_L G ad u7 ++ zb_M G ad u7) H := hP
    have hD : va_D A (zb_L G ad u7 ++ zb_M G ad u7) := hD
    exact zk_retz u7 hQ hx hb hr hlocks hS hP hD (Nat.le_of_ble_eq_true rfl) (Nat.le_of_ble_eq_true rfl) dX0_performTurn_193 (zk_nb) (by rw [cTurn_no (by have := (zk_eq (a := g % 16) (b := 1) (by omega) (by omega) h1_1); omega)]; exact ⟨rfl, eL9⟩)
  rcases Decidable.em (nI (g % 16) = nI 2) with h1_2 | h1_n2
  · refine lv_tableIn (tgt := 186) hx hb dX0_performTurn_35 (by rw [h1_2]; decide) (by rw [h1_2]; decide) (by rw [h1_2]; rfl) (by decide) ?_
    refine lv_aload_n hx hb dX0_performTurn_186 rfl (lv_at hl 3 rfl) ?_
    refine lv_iload_n hx hb dX0_performTurn_187 rfl (lv_at hl 2 rfl) ?_
    refine lv_iload_n hx hb dX0_performTurn_188 rfl (lv_at hl 1 rfl) ?_
    refine lv_iconst (v := nI 1) hx hb dX0_performTurn_189 (by decide) ?_
    have hP0 : va_P G.1 vwCl ((zb_L G ad L ++ zb_M G ad L) ++ ([] : va_W)) s.heap := by rw [List.append_nil]; exact hP
    have hD0 : va_D A ((zb_L G ad L ++ zb_M G ad L) ++ ([] : va_W)) := by rw [List.append_nil]; exact hD
    refine zk_callI (wr := ([] : va_W)) (va_runV (As := [.int (nI ((g / 16) % (max n 1))), .int (nI ((g / 256) % 40)), .int (nI 1)]) (rest := []) ⟨hx, hb, hml, hown, hts⟩ (c_X2_tryOrder l G ad L n t hI (nI ((g / 16) % (max n 1))) (nI ((g / 256) % 40)) (nI 1) _) (cwV 3 hts gX0_performTurn_X2_tryOrder rfl rfl rfl (by decide +kernel) ⟨Nat.le_of_ble_eq_true rfl, Nat.le_of_ble_eq_true rfl⟩) (zk_preV hE hA0 hS (zk_Papp hP0).1 (zk_Dapp hD0).1 (va_recv hK hP (ci := 1) (q0 := 0) rfl rfl)) rfl rfl hl.1 rfl (lv_room (Nat.le_of_ble_eq_true rfl)) dX0_performTurn_190 ⟨Nat.le_of_ble_eq_true rfl, Nat.le_of_ble_eq_true rfl⟩) hP0 hD0 hS hA (fun r10 u11 H locs q12 hP hD hS => ?_)
    obtain ⟨er10, eL13⟩ := q12
    subst er10
    rw [List.append_nil] at hP hD
    have hP : va_P G.1 vwCl (zb_L G ad u11 ++ zb_M G ad u11) H := hP
    have hD : va_D A (zb_L G ad u11 ++ zb_M G ad u11) := hD
    exact zk_retz u11 hQ hx hb hr hlocks hS hP hD (Nat.le_of_ble_eq_true rfl) (Nat.le_of_ble_eq_true rfl) dX0_performTurn_193 (zk_nb) (by rw [cTurn_no (by have := (zk_eq (a := g % 16) (b := 2) (by omega) (by omega) h1_2); omega)]; exact ⟨rfl, eL13⟩)
  rcases Decidable.em (nI (g % 16) = nI 3) with h1_3 | h1_n3
  · refine lv_tableIn (tgt := 186) hx hb dX0_performTurn_35 (by rw [h1_3]; decide) (by rw [h1_3]; decide) (by rw [h1_3]; rfl) (by decide) ?_
    refine lv_aload_n hx hb dX0_performTurn_186 rfl (lv_at hl 3 rfl) ?_
    refine lv_iload_n hx hb dX0_performTurn_187 rfl (lv_at hl 2 rfl) ?_
    refine lv_iload_n hx hb dX0_performTurn_188 rfl (lv_at hl 1 rfl) ?_
    refine lv_iconst (v := nI 1) hx hb dX0_performTurn_189 (by decide) ?_
    have hP0 : va_P G.1 vwCl ((zb_L G ad L ++ zb_M G ad L) ++ ([] : va_W)) s.heap := by rw [List.append_nil]; exact hP
    have hD0 : va_D A ((zb_L G ad L ++ zb_M G ad L) ++ ([] : va_W)) := by rw [List.append_nil]; exact hD
    refine zk_callI (wr := ([] : va_W)) (va_runV (As := [.int (nI ((g / 16) % (max n 1))), .int (nI ((g / 256) % 40)), .int (nI 1)]) (rest := []) ⟨hx, hb, hml, hown, hts⟩ (c_X2_tryOrder l G ad L n t hI (nI ((g / 16) % (max n 1))) (nI ((g / 256) % 40)) (nI 1) _) (cwV 3 hts gX0_performTurn_X2_tryOrder rfl rfl rfl (by decide +kernel) ⟨Nat.le_of_ble_eq_true rfl, Nat.le_of_ble_eq_true rfl⟩) (zk_preV hE hA0 hS (zk_Papp hP0).1 (zk_Dapp hD0).1 (va_recv hK hP (ci := 1) (q0 := 0) rfl rfl)) rfl rfl hl.1 rfl (lv_room (Nat.le_of_ble_eq_true rfl)) dX0_performTurn_190 ⟨Nat.le_of_ble_eq_true rfl, Nat.le_of_ble_eq_true rfl⟩) hP0 hD0 hS hA (fun r14 u15 H locs q16 hP hD hS => ?_)
    obtain ⟨er14, eL17⟩ := q16
    subst er14
    rw [List.append_nil] at hP hD
    have hP : va_P G.1 vwCl (zb_L G ad u15 ++ zb_M G ad u15) H := hP
    have hD : va_D A (zb_L G ad u15 ++ zb_M G ad u15) := hD
    exact zk_retz u15 hQ hx hb hr hlocks hS hP hD (Nat.le_of_ble_eq_true rfl) (Nat.le_of_ble_eq_true rfl) dX0_performTurn_193 (zk_nb) (by rw [cTurn_no (by have := (zk_eq (a := g % 16) (b := 3) (by omega) (by omega) h1_3); omega)]; exact ⟨rfl, eL17⟩)
  rcases Decidable.em (nI (g % 16) = nI 4) with h1_4 | h1_n4
  · refine lv_tableIn (tgt := 186) hx hb dX0_performTurn_35 (by rw [h1_4]; decide) (by rw [h1_4]; decide) (by rw [h1_4]; rfl) (by decide) ?_
    refine lv_aload_n hx hb dX0_performTurn_186 rfl (lv_at hl 3 rfl) ?_
    refine lv_iload_n hx hb dX0_performTurn_187 rfl (lv_at hl 2 rfl) ?_
    refine lv_iload_n hx hb dX0_performTurn_188 rfl (lv_at hl 1 rfl) ?_
    refine lv_iconst (v := nI 1) hx hb dX0_performTurn_189 (by decide) ?_
    have hP0 : va_P G.1 vwCl ((zb_L G ad L ++ zb_M G ad L) ++ ([] : va_W)) s.heap := by rw [List.append_nil]; exact hP
    have hD0 : va_D A ((zb_L G ad L ++ zb_M G ad L) ++ ([] : va_W)) := by rw [List.append_nil]; exact hD
    refine zk_callI (wr := ([] : va_W)) (va_runV (As := [.int (nI ((g / 16) % (max n 1))), .int (nI ((g / 256) % 40)), .int (nI 1)]) (rest := []) ⟨hx, hb, hml, hown, hts⟩ (c_X2_tryOrder l G ad L n t hI (nI ((g / 16) % (max n 1))) (nI ((g / 256) % 40)) (nI 1) _) (cwV 3 hts gX0_performTurn_X2_tryOrder rfl rfl rfl (by decide +kernel) ⟨Nat.le_of_ble_eq_true rfl, Nat.le_of_ble_eq_true rfl⟩) (zk_preV hE hA0 hS (zk_Papp hP0).1 (zk_Dapp hD0).1 (va_recv hK hP (ci := 1) (q0 := 0) rfl rfl)) rfl rfl hl.1 rfl (lv_room (Nat.le_of_ble_eq_true rfl)) dX0_performTurn_190 ⟨Nat.le_of_ble_eq_true rfl, Nat.le_of_ble_eq_true rfl⟩) hP0 hD0 hS hA (fun r18 u19 H locs q20 hP hD hS => ?_)
    obtain ⟨er18, eL21⟩ := q20
    subst er18
    rw [List.append_nil] at hP hD
    have hP : va_P G.1 vwCl (zb_L G ad u19 ++ zb_M G ad u19) H := hP
    have hD : va_D A (zb_L G ad u19 ++ zb_M G ad u19) := hD
    exact zk_retz u19 hQ hx hb hr hlocks hS hP hD (Nat.le_of_ble_eq_true rfl) (Nat.le_of_ble_eq_true rfl) dX0_performTurn_193 (zk_nb) (by rw [cTurn_no (by have := (zk_eq (a := g % 16) (b := 4) (by omega) (by omega) h1_4); omega)]; exact ⟨rfl, eL21⟩)
  rcases Decidable.em (nI (g % 16) = nI 5) with h1_5 | h1_n5
  · refine lv_tableIn (tgt := 186) hx hb dX0_performTurn_35 (by rw [h1_5]; decide) (by rw [h1_5]; decide) (by rw [h1_5]; rfl) (by decide) ?_
    refine lv_aload_n hx hb dX0_performTurn_186 rfl (lv_at hl 3 rfl) ?_
    refine lv_iload_n hx hb dX0_performTurn_187 rfl (lv_at hl 2 rfl) ?_
    refine lv_iload_n hx hb dX0_performTurn_188 rfl (lv_at hl 1 rfl) ?_
    refine lv_iconst (v := nI 1) hx hb dX0_performTurn_189 (by decide) ?_
    have hP0 : va_P G.1 vwCl ((zb_L G ad L ++ zb_M G ad L) ++ ([] : va_W)) s.heap := by rw [List.append_nil]; exact hP
    have hD0 : va_D A ((zb_L G ad L ++ zb_M G ad L) ++ ([] : va_W)) := by rw [List.append_nil]; exact hD
    refine zk_callI (wr := ([] : va_W)) (va_runV (As := [.int (nI ((g / 16) % (max n 1))), .int (nI ((g / 256) % 40)), .int (nI 1)]) (rest := []) ⟨hx, hb, hml, hown, hts⟩ (c_X2_tryOrder l G ad L n t hI (nI ((g / 16) % (max n 1))) (nI ((g / 256) % 40)) (nI 1) _) (cwV 3 hts gX0_performTurn_X2_tryOrder rfl rfl rfl (by decide +kernel) ⟨Nat.le_of_ble_eq_true rfl, Nat.le_of_ble_eq_true rfl⟩) (zk_preV hE hA0 hS (zk_Papp hP0).1 (zk_Dapp hD0).1 (va_recv hK hP (ci := 1) (q0 := 0) rfl rfl)) rfl rfl hl.1 rfl (lv_room (Nat.le_of_ble_eq_true rfl)) dX0_performTurn_190 ⟨Nat.le_of_ble_eq_true rfl, Nat.le_of_ble_eq_true rfl⟩) hP0 hD0 hS hA (fun r22 u23 H locs q24 hP hD hS => ?_)
    obtain ⟨er22, eL25⟩ := q24
    subst er22
    rw [List.append_nil] at hP hD
    have hP : va_P G.1 vwCl (zb_L G ad u23 ++ zb_M G ad u23) H := hP
    have hD : va_D A (zb_L G ad u23 ++ zb_M G ad u23) := hD
    exact zk_retz u23 hQ hx hb hr hlocks hS hP hD (Nat.le_of_ble_eq_true rfl) (Nat.le_of_ble_eq_true rfl) dX0_performTurn_193 (zk_nb) (by rw [cTurn_no (by have := (zk_eq (a := g % 16) (b := 5) (by omega) (by omega) h1_5); omega)]; exact ⟨rfl, eL25⟩)
  rcases Decidable.em (nI (g % 16) = nI 6) with h1_6 | h1_n6
  · refine lv_tableIn (tgt := 186) hx hb dX0_performTurn_35 (by rw [h1_6]; decide) (by rw [h1_6]; decide) (by rw [h1_6]; rfl) (by decide) ?_
    refine lv_aload_n hx hb dX0_performTurn_186 rfl (lv_at hl 3 rfl) ?_
    refine lv_iload_n hx hb dX0_performTurn_187 rfl (lv_at hl 2 rfl) ?_
    refine lv_iload_n hx hb dX0_performTurn_188 rfl (lv_at hl 1 rfl) ?_
    refine lv_iconst (v := nI 1) hx hb dX0_performTurn_189 (by decide) ?_
    have hP0 : va_P G.1 vwCl ((zb_L G ad L ++ zb_M G ad L) ++ ([] : va_W)) s.heap := by rw [List.append_nil]; exact hP
    have hD0 : va_D A ((zb_L G ad L ++ zb_M G ad L) ++ ([] : va_W)) := by rw [List.append_nil]; exact hD
    refine zk_callI (wr := ([] : va_W)) (va_runV (As := [.int (nI ((g / 16) % (max n 1))), .int (nI ((g / 256) % 40)), .int (nI 1)]) (rest := []) ⟨hx, hb, hml, hown, hts⟩ (c_X2_tryOrder l G ad L n t hI (nI ((g / 16) % (max n 1))) (nI ((g / 256) % 40)) (nI 1) _) (cwV 3 hts gX0_performTurn_X2_tryOrder rfl rfl rfl (by decide +kernel) ⟨Nat.le_of_ble_eq_true rfl, Nat.le_of_ble_eq_true rfl⟩) (zk_preV hE hA0 hS (zk_Papp hP0).1 (zk_Dapp hD0).1 (va_recv hK hP (ci := 1) (q0 := 0) rfl rfl)) rfl rfl hl.1 rfl (lv_room (Nat.le_of_ble_eq_true rfl)) dX0_performTurn_190 ⟨Nat.le_of_ble_eq_true rfl, Nat.le_of_ble_eq_true rfl⟩) hP0 hD0 hS hA (fun r26 u27 H locs q28 hP hD hS => ?_)
    obtain ⟨er26, eL29⟩ := q28
    subst er26
    rw [List.append_nil] at hP hD
    have hP : va_P G.1 vwCl (zb_L G ad u27 ++ zb_M G ad u27) H := hP
    have hD : va_D A (zb_L G ad u27 ++ zb_M G ad u27) := hD
    exact zk_retz u27 hQ hx hb hr hlocks hS hP hD (Nat.le_of_ble_eq_true rfl) (Nat.le_of_ble_eq_true rfl) dX0_performTurn_193 (zk_nb) (by rw [cTurn_no (by have := (zk_eq (a := g % 16) (b := 6) (by omega) (by omega) h1_6); omega)]; exact ⟨rfl, eL29⟩)
  rcases Decidable.em (nI (g % 16) = nI 7) with h1_7 | h1_n7
  · refine lv_tableIn (tgt := 126) hx hb dX0_performTurn_35 (by rw [h1_7]; decide) (by rw [h1_7]; decide) (by rw [h1_7]; rfl) (by decide) ?_
    refine lv_aload_n hx hb dX0_performTurn_126 rfl (lv_at hl 3 rfl) ?_
    refine lv_iload_n hx hb dX0_performTurn_127 rfl (lv_at hl 2 rfl) ?_
    refine lv_iconst (v := nI 1) hx hb dX0_performTurn_128 (by decide) ?_
    refine lv_iload_n hx hb dX0_performTurn_129 rfl (lv_at hl 4 rfl) ?_
    refine lv_sipush (v := nI 16384) hx hb dX0_performTurn_130 (by decide) ?_
    refine zk_idivN hx hb dX0_performTurn_133 (by omega) (by omega) (by omega) ?_
    refine lv_sipush (v := nI 999) hx hb dX0_performTurn_134 (by decide) ?_
    refine zk_iremN hx hb dX0_performTurn_137 (by omega) (by omega) (by omega) ?_
    refine zk_iaddN hx hb dX0_performTurn_138 ?_
    have hP0 : va_P G.1 vwCl ((zb_L G ad L ++ zb_M G ad L) ++ ([] : va_W)) s.heap := by rw [List.append_nil]; exact hP
    have hD0 : va_D A ((zb_L G ad L ++ zb_M G ad L) ++ ([] : va_W)) := by rw [List.append_nil]; exact hD
    refine zk_callI (wr := ([] : va_W)) (va_runV (As := [.int (nI ((g / 16) % (max n 1))), .int (nI (1 + ((g / 16384) % 999)))]) (rest := []) ⟨hx, hb, hml, hown, hts⟩ (c_X2_tryPay l G ad L n t hI (nI ((g / 16) % (max n 1))) (nI (1 + ((g / 16384) % 999))) _) (cwV 2 hts gX0_performTurn_X2_tryPay rfl rfl rfl (by decide +kernel) ⟨Nat.le_of_ble_eq_true rfl, Nat.le_of_ble_eq_true rfl⟩) (zk_preV hE hA0 hS (zk_Papp hP0).1 (zk_Dapp hD0).1 (va_recv hK hP (ci := 1) (q0 := 0) rfl rfl)) rfl rfl hl.1 rfl (lv_room (Nat.le_of_ble_eq_true rfl)) dX0_performTurn_139 ⟨Nat.le_of_ble_eq_true rfl, Nat.le_of_ble_eq_true rfl⟩) hP0 hD0 hS hA (fun r30 u31 H locs q32 hP hD hS => ?_)
    obtain ⟨er30, eL33⟩ := q32
    subst er30
    rw [List.append_nil] at hP hD
    have hP : va_P G.1 vwCl (zb_L G ad u31 ++ zb_M G ad u31) H := hP
    have hD : va_D A (zb_L G ad u31 ++ zb_M G ad u31) := hD
    exact zk_retz u31 hQ hx hb hr hlocks hS hP hD (Nat.le_of_ble_eq_true rfl) (Nat.le_of_ble_eq_true rfl) dX0_performTurn_142 (zk_nb) (by rw [cTurn_7 (Or.inl (zk_eq (by omega) (by omega) h1_7))]; exact ⟨rfl, eL33⟩)
  rcases Decidable.em (nI (g % 16) = nI 8) with h1_8 | h1_n8
  · refine lv_tableIn (tgt := 126) hx hb dX0_performTurn_35 (by rw [h1_8]; decide) (by rw [h1_8]; decide) (by rw [h1_8]; rfl) (by decide) ?_
    refine lv_aload_n hx hb dX0_performTurn_126 rfl (lv_at hl 3 rfl) ?_
    refine lv_iload_n hx hb dX0_performTurn_127 rfl (lv_at hl 2 rfl) ?_
    refine lv_iconst (v := nI 1) hx hb dX0_performTurn_128 (by decide) ?_
    refine lv_iload_n hx hb dX0_performTurn_129 rfl (lv_at hl 4 rfl) ?_
    refine lv_sipush (v := nI 16384) hx hb dX0_performTurn_130 (by decide) ?_
    refine zk_idivN hx hb dX0_performTurn_133 (by omega) (by omega) (by omega) ?_
    refine lv_sipush (v := nI 999) hx hb dX0_performTurn_134 (by decide) ?_
    refine zk_iremN hx hb dX0_performTurn_137 (by omega) (by omega) (by omega) ?_
    refine zk_iaddN hx hb dX0_performTurn_138 ?_
    have hP0 : va_P G.1 vwCl ((zb_L G ad L ++ zb_M G ad L) ++ ([] : va_W)) s.heap := by rw [List.append_nil]; exact hP
    have hD0 : va_D A ((zb_L G ad L ++ zb_M G ad L) ++ ([] : va_W)) := by rw [List.append_nil]; exact hD
    refine zk_callI (wr := ([] : va_W)) (va_runV (As := [.int (nI ((g / 16) % (max n 1))), .int (nI (1 + ((g / 16384) % 999)))]) (rest := []) ⟨hx, hb, hml, hown, hts⟩ (c_X2_tryPay l G ad L n t hI (nI ((g / 16) % (max n 1))) (nI (1 + ((g / 16384) % 999))) _) (cwV 2 hts gX0_performTurn_X2_tryPay rfl rfl rfl (by decide +kernel) ⟨Nat.le_of_ble_eq_true rfl, Nat.le_of_ble_eq_true rfl⟩) (zk_preV hE hA0 hS (zk_Papp hP0).1 (zk_Dapp hD0).1 (va_recv hK hP (ci := 1) (q0 := 0) rfl rfl)) rfl rfl hl.1 rfl (lv_room (Nat.le_of_ble_eq_true rfl)) dX0_performTurn_139 ⟨Nat.le_of_ble_eq_true rfl, Nat.le_of_ble_eq_true rfl⟩) hP0 hD0 hS hA (fun r34 u35 H locs q36 hP hD hS => ?_)
    obtain ⟨er34, eL37⟩ := q36
    subst er34
    rw [List.append_nil] at hP hD
    have hP : va_P G.1 vwCl (zb_L G ad u35 ++ zb_M G ad u35) H := hP
    have hD : va_D A (zb_L G ad u35 ++ zb_M G ad u35) := hD
    exact zk_retz u35 hQ hx hb hr hlocks hS hP hD (Nat.le_of_ble_eq_true rfl) (Nat.le_of_ble_eq_true rfl) dX0_performTurn_142 (zk_nb) (by rw [cTurn_7 (Or.inr (zk_eq (by omega) (by omega) h1_8))]; exact ⟨rfl, eL37⟩)
  rcases Decidable.em (nI (g % 16) = nI 9) with h1_9 | h1_n9
  · refine lv_tableIn (tgt := 143) hx hb dX0_performTurn_35 (by rw [h1_9]; decide) (by rw [h1_9]; decide) (by rw [h1_9]; rfl) (by decide) ?_
    refine lv_aload_n hx hb dX0_performTurn_143 rfl (lv_at hl 3 rfl) ?_
    refine lv_iload_n hx hb dX0_performTurn_144 rfl (lv_at hl 2 rfl) ?_
    refine lv_iload_n hx hb dX0_performTurn_145 rfl (lv_at hl 1 rfl) ?_
    refine lv_bipush (v := nI 39) hx hb dX0_performTurn_146 (by decide) ?_
    have hP0 : va_P G.1 vwCl ((zb_L G ad L ++ zb_M G ad L) ++ ([] : va_W)) s.heap := by rw [List.append_nil]; exact hP
    have hD0 : va_D A ((zb_L G ad L ++ zb_M G ad L) ++ ([] : va_W)) := by rw [List.append_nil]; exact hD
    refine zk_callI (wr := ([] : va_W)) (va_runV (As := [.int (nI ((g / 16) % (max n 1))), .int (nI ((g / 256) % 40)), .int (nI 39)]) (rest := []) ⟨hx, hb, hml, hown, hts⟩ (c_X2_tryEntitle l G ad L n t hI (nI ((g / 16) % (max n 1))) (nI ((g / 256) % 40)) (nI 39) _) (cwV 3 hts gX0_performTurn_X2_tryEntitle rfl rfl rfl (by decide +kernel) ⟨Nat.le_of_ble_eq_true rfl, Nat.le_of_ble_eq_true rfl⟩) (zk_preV hE hA0 hS (zk_Papp hP0).1 (zk_Dapp hD0).1 (va_recv hK hP (ci := 1) (q0 := 0) rfl rfl)) rfl rfl hl.1 rfl (lv_room (Nat.le_of_ble_eq_true rfl)) dX0_performTurn_148 ⟨Nat.le_of_ble_eq_true rfl, Nat.le_of_ble_eq_true rfl⟩) hP0 hD0 hS hA (fun r38 u39 H locs q40 hP hD hS => ?_)
    obtain ⟨er38, eL41⟩ := q40
    subst er38
    rw [List.append_nil] at hP hD
    have hP : va_P G.1 vwCl (zb_L G ad u39 ++ zb_M G ad u39) H := hP
    have hD : va_D A (zb_L G ad u39 ++ zb_M G ad u39) := hD
    exact zk_retz u39 hQ hx hb hr hlocks hS hP hD (Nat.le_of_ble_eq_true rfl) (Nat.le_of_ble_eq_true rfl) dX0_performTurn_151 (zk_nb) (by rw [cTurn_9 (zk_eq (by omega) (by omega) h1_9)]; exact ⟨rfl, eL41⟩)
  rcases Decidable.em (nI (g % 16) = nI 10) with h1_10 | h1_n10
  · refine lv_tableIn (tgt := 152) hx hb dX0_performTurn_35 (by rw [h1_10]; decide) (by rw [h1_10]; decide) (by rw [h1_10]; rfl) (by decide) ?_
    refine lv_aload_n hx hb dX0_performTurn_152 rfl (lv_at hl 3 rfl) ?_
    refine lv_iload hx hb dX0_performTurn_153 (lv_at hl 0 rfl) ?_
    refine lv_iconst (v := nI 1) hx hb dX0_performTurn_155 (by decide) ?_
    have hP0 : va_P G.1 vwCl ((zb_L G ad L ++ zb_M G ad L) ++ ([] : va_W)) s.heap := by rw [List.append_nil]; exact hP
    have hD0 : va_D A ((zb_L G ad L ++ zb_M G ad L) ++ ([] : va_W)) := by rw [List.append_nil]; exact hD
    refine zk_callI (wr := ([] : va_W)) (va_runV (As := [.int (nI ((g / 16) % 5)), .int (nI 1)]) (rest := []) ⟨hx, hb, hml, hown, hts⟩ (c_X2_tryShare l G ad L n t hI (nI ((g / 16) % 5)) (nI 1) _) (cwV 2 hts gX0_performTurn_X2_tryShare rfl rfl rfl (by decide +kernel) ⟨Nat.le_of_ble_eq_true rfl, Nat.le_of_ble_eq_true rfl⟩) (zk_preV hE hA0 hS (zk_Papp hP0).1 (zk_Dapp hD0).1 (va_recv hK hP (ci := 1) (q0 := 0) rfl rfl)) rfl rfl hl.1 rfl (lv_room (Nat.le_of_ble_eq_true rfl)) dX0_performTurn_156 ⟨Nat.le_of_ble_eq_true rfl, Nat.le_of_ble_eq_true rfl⟩) hP0 hD0 hS hA (fun r42 u43 H locs q44 hP hD hS => ?_)
    obtain ⟨er42, eL45⟩ := q44
    subst er42
    rw [List.append_nil] at hP hD
    have hP : va_P G.1 vwCl (zb_L G ad u43 ++ zb_M G ad u43) H := hP
    have hD : va_D A (zb_L G ad u43 ++ zb_M G ad u43) := hD
    exact zk_retz u43 hQ hx hb hr hlocks hS hP hD (Nat.le_of_ble_eq_true rfl) (Nat.le_of_ble_eq_true rfl) dX0_performTurn_159 (zk_nb) (by rw [cTurn_10 (zk_eq (by omega) (by omega) h1_10)]; exact ⟨rfl, eL45⟩)
  rcases Decidable.em (nI (g % 16) = nI 11) with h1_11 | h1_n11
  · refine lv_tableIn (tgt := 160) hx hb dX0_performTurn_35 (by rw [h1_11]; decide) (by rw [h1_11]; decide) (by rw [h1_11]; rfl) (by decide) ?_
    refine lv_aload_n hx hb dX0_performTurn_160 rfl (lv_at hl 3 rfl) ?_
    refine lv_iload_n hx hb dX0_performTurn_161 rfl (lv_at hl 1 rfl) ?_
    refine lv_iload_n hx hb dX0_performTurn_162 rfl (lv_at hl 4 rfl) ?_
    refine lv_sipush (v := nI 16384) hx hb dX0_performTurn_163 (by decide) ?_
    refine zk_idivN hx hb dX0_performTurn_166 (by omega) (by omega) (by omega) ?_
    refine lv_iconst (v := nI 4) hx hb dX0_performTurn_167 (by decide) ?_
    refine zk_iremN hx hb dX0_performTurn_168 (by omega) (by omega) (by omega) ?_
    have hP0 : va_P G.1 vwCl ((zb_L G ad L ++ zb_M G ad L) ++ ([] : va_W)) s.heap := by rw [List.append_nil]; exact hP
    have hD0 : va_D A ((zb_L G ad L ++ zb_M G ad L) ++ ([] : va_W)) := by rw [List.append_nil]; exact hD
    refine zk_callI (wr := ([] : va_W)) (va_runV (As := [.int (nI ((g / 256) % 40)), .int (nI ((g / 16384) % 4))]) (rest := []) ⟨hx, hb, hml, hown, hts⟩ (c_X2_tryMenu l G ad L n t hI (nI ((g / 256) % 40)) (nI ((g / 16384) % 4)) _) (cwV 2 hts gX0_performTurn_X2_tryMenu rfl rfl rfl (by decide +kernel) ⟨Nat.le_of_ble_eq_true rfl, Nat.le_of_ble_eq_true rfl⟩) (zk_preV hE hA0 hS (zk_Papp hP0).1 (zk_Dapp hD0).1 (va_recv hK hP (ci := 1) (q0 := 0) rfl rfl)) rfl rfl hl.1 rfl (lv_room (Nat.le_of_ble_eq_true rfl)) dX0_performTurn_169 ⟨Nat.le_of_ble_eq_true rfl, Nat.le_of_ble_eq_true rfl⟩) hP0 hD0 hS hA (fun r46 u47 H locs q48 hP hD hS => ?_)
    obtain ⟨er46, eL49⟩ := q48
    subst er46
    rw [List.append_nil] at hP hD
    have hP : va_P G.1 vwCl (zb_L G ad u47 ++ zb_M G ad u47) H := hP
    have hD : va_D A (zb_L G ad u47 ++ zb_M G ad u47) := hD
    exact zk_retz u47 hQ hx hb hr hlocks hS hP hD (Nat.le_of_ble_eq_true rfl) (Nat.le_of_ble_eq_true rfl) dX0_performTurn_172 (zk_nb) (by rw [cTurn_11 (zk_eq (by omega) (by omega) h1_11)]; exact ⟨rfl, eL49⟩)
  rcases Decidable.em (nI (g % 16) = nI 12) with h1_12 | h1_n12
  · refine lv_tableIn (tgt := 173) hx hb dX0_performTurn_35 (by rw [h1_12]; decide) (by rw [h1_12]; decide) (by rw [h1_12]; rfl) (by decide) ?_
    refine lv_aload_n hx hb dX0_performTurn_173 rfl (lv_at hl 3 rfl) ?_
    refine lv_iconst (v := nI 1) hx hb dX0_performTurn_174 (by decide) ?_
    have hP0 : va_P G.1 vwCl ((zb_L G ad L ++ zb_M G ad L) ++ ([] : va_W)) s.heap := by rw [List.append_nil]; exact hP
    have hD0 : va_D A ((zb_L G ad L ++ zb_M G ad L) ++ ([] : va_W)) := by rw [List.append_nil]; exact hD
    refine zk_callI (wr := ([] : va_W)) (va_runV (As := [.int (nI 1)]) (rest := []) ⟨hx, hb, hml, hown, hts⟩ (c_X2_tryDays l G ad L n t hI (nI 1) _) (cwV 1 hts gX0_performTurn_X2_tryDays rfl rfl rfl (by decide +kernel) ⟨Nat.le_of_ble_eq_true rfl, Nat.le_of_ble_eq_true rfl⟩) (zk_preV hE hA0 hS (zk_Papp hP0).1 (zk_Dapp hD0).1 (va_recv hK hP (ci := 1) (q0 := 0) rfl rfl)) rfl rfl hl.1 rfl (lv_room (Nat.le_of_ble_eq_true rfl)) dX0_performTurn_175 ⟨Nat.le_of_ble_eq_true rfl, Nat.le_of_ble_eq_true rfl⟩) hP0 hD0 hS hA (fun r50 u51 H locs q52 hP hD hS => ?_)
    obtain ⟨er50, eL53⟩ := q52
    subst er50
    rw [List.append_nil] at hP hD
    have hP : va_P G.1 vwCl (zb_L G ad u51 ++ zb_M G ad u51) H := hP
    have hD : va_D A (zb_L G ad u51 ++ zb_M G ad u51) := hD
    exact zk_retz u51 hQ hx hb hr hlocks hS hP hD (Nat.le_of_ble_eq_true rfl) (Nat.le_of_ble_eq_true rfl) dX0_performTurn_178 (zk_nb) (by rw [cTurn_12 (Or.inl (zk_eq (by omega) (by omega) h1_12))]; exact ⟨rfl, eL53⟩)
  rcases Decidable.em (nI (g % 16) = nI 13) with h1_13 | h1_n13
  · refine lv_tableIn (tgt := 173) hx hb dX0_performTurn_35 (by rw [h1_13]; decide) (by rw [h1_13]; decide) (by rw [h1_13]; rfl) (by decide) ?_
    refine lv_aload_n hx hb dX0_performTurn_173 rfl (lv_at hl 3 rfl) ?_
    refine lv_iconst (v := nI 1) hx hb dX0_performTurn_174 (by decide) ?_
    have hP0 : va_P G.1 vwCl ((zb_L G ad L ++ zb_M G ad L) ++ ([] : va_W)) s.heap := by rw [List.append_nil]; exact hP
    have hD0 : va_D A ((zb_L G ad L ++ zb_M G ad L) ++ ([] : va_W)) := by rw [List.append_nil]; exact hD
    refine zk_callI (wr := ([] : va_W)) (va_runV (As := [.int (nI 1)]) (rest := []) ⟨hx, hb, hml, hown, hts⟩ (c_X2_tryDays l G ad L n t hI (nI 1) _) (cwV 1 hts gX0_performTurn_X2_tryDays rfl rfl rfl (by decide +kernel) ⟨Nat.le_of_ble_eq_true rfl, Nat.le_of_ble_eq_true rfl⟩) (zk_preV hE hA0 hS (zk_Papp hP0).1 (zk_Dapp hD0).1 (va_recv hK hP (ci := 1) (q0 := 0) rfl rfl)) rfl rfl hl.1 rfl (lv_room (Nat.le_of_ble_eq_true rfl)) dX0_performTurn_175 ⟨Nat.le_of_ble_eq_true rfl, Nat.le_of_ble_eq_true rfl⟩) hP0 hD0 hS hA (fun r54 u55 H locs q56 hP hD hS => ?_)
    obtain ⟨er54, eL57⟩ := q56
    subst er54
    rw [List.append_nil] at hP hD
    have hP : va_P G.1 vwCl (zb_L G ad u55 ++ zb_M G ad u55) H := hP
    have hD : va_D A (zb_L G ad u55 ++ zb_M G ad u55) := hD
    exact zk_retz u55 hQ hx hb hr hlocks hS hP hD (Nat.le_of_ble_eq_true rfl) (Nat.le_of_ble_eq_true rfl) dX0_performTurn_178 (zk_nb) (by rw [cTurn_12 (Or.inr (Or.inl (zk_eq (by omega) (by omega) h1_13)))]; exact ⟨rfl, eL57⟩)
  rcases Decidable.em (nI (g % 16) = nI 14) with h1_14 | h1_n14
  · refine lv_tableIn (tgt := 173) hx hb dX0_performTurn_35 (by rw [h1_14]; decide) (by rw [h1_14]; decide) (by rw [h1_14]; rfl) (by decide) ?_
    refine lv_aload_n hx hb dX0_performTurn_173 rfl (lv_at hl 3 rfl) ?_
    refine lv_iconst (v := nI 1) hx hb dX0_performTurn_174 (by decide) ?_
    have hP0 : va_P G.1 vwCl ((zb_L G ad L ++ zb_M G ad L) ++ ([] : va_W)) s.heap := by rw [List.append_nil]; exact hP
    have hD0 : va_D A ((zb_L G ad L ++ zb_M G ad L) ++ ([] : va_W)) := by rw [List.append_nil]; exact hD
    refine zk_callI (wr := ([] : va_W)) (va_runV (As := [.int (nI 1)]) (rest := []) ⟨hx, hb, hml, hown, hts⟩ (c_X2_tryDays l G ad L n t hI (nI 1) _) (cwV 1 hts gX0_performTurn_X2_tryDays rfl rfl rfl (by decide +kernel) ⟨Nat.le_of_ble_eq_true rfl, Nat.le_of_ble_eq_true rfl⟩) (zk_preV hE hA0 hS (zk_Papp hP0).1 (zk_Dapp hD0).1 (va_recv hK hP (ci := 1) (q0 := 0) rfl rfl)) rfl rfl hl.1 rfl (lv_room (Nat.le_of_ble_eq_true rfl)) dX0_performTurn_175 ⟨Nat.le_of_ble_eq_true rfl, Nat.le_of_ble_eq_true rfl⟩) hP0 hD0 hS hA (fun r58 u59 H locs q60 hP hD hS => ?_)
    obtain ⟨er58, eL61⟩ := q60
    subst er58
    rw [List.append_nil] at hP hD
    have hP : va_P G.1 vwCl (zb_L G ad u59 ++ zb_M G ad u59) H := hP
    have hD : va_D A (zb_L G ad u59 ++ zb_M G ad u59) := hD
    exact zk_retz u59 hQ hx hb hr hlocks hS hP hD (Nat.le_of_ble_eq_true rfl) (Nat.le_of_ble_eq_true rfl) dX0_performTurn_178 (zk_nb) (by rw [cTurn_12 (Or.inr (Or.inr (zk_eq (by omega) (by omega) h1_14)))]; exact ⟨rfl, eL61⟩)
  rcases Decidable.em (nI (g % 16) = nI 15) with h1_15 | h1_n15
  · refine lv_tableIn (tgt := 179) hx hb dX0_performTurn_35 (by rw [h1_15]; decide) (by rw [h1_15]; decide) (by rw [h1_15]; rfl) (by decide) ?_
    refine lv_aload_n hx hb dX0_performTurn_179 rfl (lv_at hl 3 rfl) ?_
    refine lv_iload hx hb dX0_performTurn_180 (lv_at hl 0 rfl) ?_
    have hP0 : va_P G.1 vwCl ((zb_L G ad L ++ zb_M G ad L) ++ ([] : va_W)) s.heap := by rw [List.append_nil]; exact hP
    have hD0 : va_D A ((zb_L G ad L ++ zb_M G ad L) ++ ([] : va_W)) := by rw [List.append_nil]; exact hD
    refine zk_callI (wr := ([] : va_W)) (va_runV (As := [.int (nI ((g / 16) % 5))]) (rest := []) ⟨hx, hb, hml, hown, hts⟩ (c_X2_tryWriteOff l G ad L n t hI (nI ((g / 16) % 5)) _) (cwV 1 hts gX0_performTurn_X2_tryWriteOff rfl rfl rfl (by decide +kernel) ⟨Nat.le_of_ble_eq_true rfl, Nat.le_of_ble_eq_true rfl⟩) (zk_preV hE hA0 hS (zk_Papp hP0).1 (zk_Dapp hD0).1 (va_recv hK hP (ci := 1) (q0 := 0) rfl rfl)) rfl rfl hl.1 rfl (lv_room (Nat.le_of_ble_eq_true rfl)) dX0_performTurn_182 ⟨Nat.le_of_ble_eq_true rfl, Nat.le_of_ble_eq_true rfl⟩) hP0 hD0 hS hA (fun r62 u63 H locs q64 hP hD hS => ?_)
    obtain ⟨er62, eL65⟩ := q64
    subst er62
    rw [List.append_nil] at hP hD
    have hP : va_P G.1 vwCl (zb_L G ad u63 ++ zb_M G ad u63) H := hP
    have hD : va_D A (zb_L G ad u63 ++ zb_M G ad u63) := hD
    exact zk_retz u63 hQ hx hb hr hlocks hS hP hD (Nat.le_of_ble_eq_true rfl) (Nat.le_of_ble_eq_true rfl) dX0_performTurn_185 (zk_nb) (by rw [cTurn_15 (zk_eq (by omega) (by omega) h1_15)]; exact ⟨rfl, eL65⟩)
  refine lv_tableOut (tgt := 186) hx hb dX0_performTurn_35 (zk_out (0) 16 (fun k hk z => by
        rcases (show k = 0 ∨ k = 1 ∨ k = 2 ∨ k = 3 ∨ k = 4 ∨ k = 5 ∨ k = 6 ∨ k = 7 ∨ k = 8 ∨ k = 9 ∨ k = 10 ∨ k = 11 ∨ k = 12 ∨ k = 13 ∨ k = 14 ∨ k = 15 by omega) with rfl | rfl | rfl | rfl | rfl | rfl | rfl | rfl | rfl | rfl | rfl | rfl | rfl | rfl | rfl | rfl
        · exact h1_n0 (zk_toI z (by decide))
        · exact h1_n1 (zk_toI z (by decide))
        · exact h1_n2 (zk_toI z (by decide))
        · exact h1_n3 (zk_toI z (by decide))
        · exact h1_n4 (zk_toI z (by decide))
        · exact h1_n5 (zk_toI z (by decide))
        · exact h1_n6 (zk_toI z (by decide))
        · exact h1_n7 (zk_toI z (by decide))
        · exact h1_n8 (zk_toI z (by decide))
        · exact h1_n9 (zk_toI z (by decide))
        · exact h1_n10 (zk_toI z (by decide))
        · exact h1_n11 (zk_toI z (by decide))
        · exact h1_n12 (zk_toI z (by decide))
        · exact h1_n13 (zk_toI z (by decide))
        · exact h1_n14 (zk_toI z (by decide))
        · exact h1_n15 (zk_toI z (by decide)))) (by decide) ?_
  refine lv_aload_n hx hb dX0_performTurn_186 rfl (lv_at hl 3 rfl) ?_
  refine lv_iload_n hx hb dX0_performTurn_187 rfl (lv_at hl 2 rfl) ?_
  refine lv_iload_n hx hb dX0_performTurn_188 rfl (lv_at hl 1 rfl) ?_
  refine lv_iconst (v := nI 1) hx hb dX0_performTurn_189 (by decide) ?_
  have hP0 : va_P G.1 vwCl ((zb_L G ad L ++ zb_M G ad L) ++ ([] : va_W)) s.heap := by rw [List.append_nil]; exact hP
  have hD0 : va_D A ((zb_L G ad L ++ zb_M G ad L) ++ ([] : va_W)) := by rw [List.append_nil]; exact hD
  refine zk_callI (wr := ([] : va_W)) (va_runV (As := [.int (nI ((g / 16) % (max n 1))), .int (nI ((g / 256) % 40)), .int (nI 1)]) (rest := []) ⟨hx, hb, hml, hown, hts⟩ (c_X2_tryOrder l G ad L n t hI (nI ((g / 16) % (max n 1))) (nI ((g / 256) % 40)) (nI 1) _) (cwV 3 hts gX0_performTurn_X2_tryOrder rfl rfl rfl (by decide +kernel) ⟨Nat.le_of_ble_eq_true rfl, Nat.le_of_ble_eq_true rfl⟩) (zk_preV hE hA0 hS (zk_Papp hP0).1 (zk_Dapp hD0).1 (va_recv hK hP (ci := 1) (q0 := 0) rfl rfl)) rfl rfl hl.1 rfl (lv_room (Nat.le_of_ble_eq_true rfl)) dX0_performTurn_190 ⟨Nat.le_of_ble_eq_true rfl, Nat.le_of_ble_eq_true rfl⟩) hP0 hD0 hS hA (fun r66 u67 H locs q68 hP hD hS => ?_)
  obtain ⟨er66, eL69⟩ := q68
  subst er66
  rw [List.append_nil] at hP hD
  have hP : va_P G.1 vwCl (zb_L G ad u67 ++ zb_M G ad u67) H := hP
  have hD : va_D A (zb_L G ad u67 ++ zb_M G ad u67) := hD
  exact zk_retz u67 hQ hx hb hr hlocks hS hP hD (Nat.le_of_ble_eq_true rfl) (Nat.le_of_ble_eq_true rfl) dX0_performTurn_193 (zk_nb) (by rw [cTurn_no (fun z => by have := zk_sw16 g h1_n0 h1_n1 h1_n2 h1_n3 h1_n4 h1_n5 h1_n6 h1_n7 h1_n8 h1_n9 h1_n10 h1_n11 h1_n12 h1_n13 h1_n14 h1_n15; omega)]; exact ⟨rfl, eL69⟩)
