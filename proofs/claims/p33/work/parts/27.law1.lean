abbrev rmL_tryAppend : Room := { frames := 7, cells := 1, slots := 6, locals := 103 }
set_option maxHeartbeats 4000000 in
set_option maxRecDepth 100000 in
theorem c_L_tryAppend (l : Launch) (G : zk_G) (hst : l.stackTraces = false) (a : zA) (T : zL) (tn po : Nat) (hT : tInv T tn po) (c : Int32) : zk_IH (S := Option (zL)) l yL_tryAppend wsL_tryAppend rmL_tryAppend G [.ref a.1, .int c] ((zb_5 G a) ++ zb_T G a.2.1 T) (fun r u => match u with | some v0 => (fun r u => ¬ c < 0 ∧ ¬ nI 255 < c ∧ tn < 120 ∧ r = nI (tn + 1) ∧ u = tAdd T tn c.toNatClampNeg) r v0 | none => ∃ E, (fun E => (E = "java/lang/IllegalArgumentException" ∧ (c < 0 ∨ nI 255 < c)) ∨ (E = "java/lang/IllegalStateException" ∧ ¬ c < 0 ∧ ¬ nI 255 < c ∧ ¬ tn < 120)) E ∧ zcode E (-9999001) (-9999002) (-9999003) r) (fun u => match u with | some v0 => (zb_5 G a) ++ zb_T G a.2.1 v0 | none => (zb_5 G a) ++ zb_T G a.2.1 T) := by
  refine zk_bodyIH (cc := cL_tryAppend) (maxL := 3) (ret := (some .int)) (hh := [(0, 5, 6, 27), (0, 5, 10, 16)]) (by decide) rfl (Nat.le_of_ble_eq_true rfl) ?_
  intro p E0 s m args below meth cd A ls Q hF hNC hTab hQ
  obtain ⟨hx, hb, hml, hr, hts, hown, hlocks, -, hE, hP, hD, hS, hA, hA0, hl⟩ := hF
  have hK := hE.1
  have hl : lv_has ls 3 [(0, .ref a.1), (1, .int c)] := hl
  have w1 := hts _ (List.mem_of_getElem? (l := wsL_tryAppend) (i := 1) (a := Cond.classLink RL 27 "java/lang/IllegalArgumentException") rfl)
  have w3 := hts _ (List.mem_of_getElem? (l := wsL_tryAppend) (i := 3) (a := Cond.constant RL 29 (-9999002)) rfl)
  have w2 := hts _ (List.mem_of_getElem? (l := wsL_tryAppend) (i := 2) (a := Cond.classLink RL 16 "java/lang/IllegalStateException") rfl)
  have w4 := hts _ (List.mem_of_getElem? (l := wsL_tryAppend) (i := 4) (a := Cond.constant RL 18 (-9999003)) rfl)
  refine lv_aload_n hx hb dL_tryAppend_0 rfl (lv_at hl 0 rfl) ?_
  refine lv_iload_n hx hb dL_tryAppend_1 rfl (lv_at hl 1 rfl) ?_
  have hP0 : va_P G.1 vwCl (((zb_5 G a) ++ zb_T G a.2.1 T) ++ ([] : va_W)) s.heap := by rw [List.append_nil]; exact hP
  have hD0 : va_D A (((zb_5 G a) ++ zb_T G a.2.1 T) ++ ([] : va_W)) := by rw [List.append_nil]; exact hD
  refine zk_callXIc (wr := ([] : va_W)) (vx_runV (As := [.int c]) (rest := []) ⟨hx, hb, hml, hown, hts⟩ (c_X5_append l G hst a T tn po hT c _) (cwV 1 hts gL_tryAppend_X5_append rfl rfl rfl (by decide +kernel) ⟨Nat.le_of_ble_eq_true rfl, Nat.le_of_ble_eq_true rfl⟩) (zk_preV hE hA0 hS (zk_Papp hP0).1 (zk_Dapp hD0).1 (va_recv hK hP0 (ci := 4) (q0 := 0) rfl rfl)) rfl rfl hl.1 rfl (lv_room (Nat.le_of_ble_eq_true rfl)) dL_tryAppend_2 ⟨Nat.le_of_ble_eq_true rfl, Nat.le_of_ble_eq_true rfl⟩) hP0 hD0 hS hA (fun E ce q9 H locs hpx hP hD hS hce hcv hcl => ?_) (fun r u H locs hpost hP hD hS => ?_)
  · rw [List.append_nil] at hP hD
    have hpx2 := hpx
    rcases hpx with ⟨rfl, hno⟩ | ⟨rfl, hno⟩
    · refine vx_catch hown [] ⟨0, 5, 6, 27⟩ [⟨0, 5, 10, 16⟩] (by rw [hTab]; rfl) (fun z hz => absurd hz List.not_mem_nil) (by decide) (by decide) w1 (va_Nw.use rfl hE.2.1.2.2.2.2.2.2.2.2.2.2.2.1) hce hcv hcl ?_
      have hP : va_P G.1 vwCl ((zb_5 G a) ++ zb_T G a.2.1 T) H := hP
      have hD : va_D A ((zb_5 G a) ++ zb_T G a.2.1 T) := hD
      refine lv_astore_n (lv' := [(2, .ref q9), (0, .ref a.1), (1, .int c)]) hx hb dL_tryAppend_6 rfl hl (by decide) rfl (fun ls hl => ?_)
      refine lv_ldc hx hb (v := (-9999002)) hown w3 dL_tryAppend_7 ?_
      rw [hQ]
      refine vx_ret ?_
      exact zk_reti none rfl hx hb hr hlocks hS hP hD (Nat.le_of_ble_eq_true rfl) (Nat.le_of_ble_eq_true rfl) dL_tryAppend_9 (⟨"java/lang/IllegalArgumentException", hpx2, zc_2 _ _ _⟩)
    · refine vx_catch hown [⟨0, 5, 6, 27⟩] ⟨0, 5, 10, 16⟩ [] (by rw [hTab]; rfl) (List.forall_mem_cons.mpr ⟨Or.inr ⟨by decide, "java/lang/IllegalArgumentException", w1, hNC.2.1.1⟩, fun z hz => absurd hz List.not_mem_nil⟩) (by decide) (by decide) w2 (va_Nw.use rfl hE.2.1.2.2.2.2.2.2.2.2.2.2.2.2) hce hcv hcl ?_
      have hP : va_P G.1 vwCl ((zb_5 G a) ++ zb_T G a.2.1 T) H := hP
      have hD : va_D A ((zb_5 G a) ++ zb_T G a.2.1 T) := hD
      refine lv_astore_n (lv' := [(2, .ref q9), (0, .ref a.1), (1, .int c)]) hx hb dL_tryAppend_10 rfl hl (by decide) rfl (fun ls hl => ?_)
      refine lv_ldc hx hb (v := (-9999003)) hown w4 dL_tryAppend_11 ?_
      rw [hQ]
      refine vx_ret ?_
      exact zk_reti none rfl hx hb hr hlocks hS hP hD (Nat.le_of_ble_eq_true rfl) (Nat.le_of_ble_eq_true rfl) dL_tryAppend_13 (⟨"java/lang/IllegalStateException", hpx2, zc_3 _ _ _⟩)
  · rw [List.append_nil] at hP hD
    have hP : va_P G.1 vwCl ((zb_5 G a) ++ zb_T G a.2.1 u) H := hP
    have hD : va_D A ((zb_5 G a) ++ zb_T G a.2.1 u) := hD
    rw [hQ]
    refine vx_ret ?_
    exact zk_reti (some u) rfl hx hb hr hlocks hS hP hD (Nat.le_of_ble_eq_true rfl) (Nat.le_of_ble_eq_true rfl) dL_tryAppend_5 (hpost)

abbrev rmL_tryLoad : Room := { frames := 9, cells := 1, slots := 6, locals := 201 }
set_option maxHeartbeats 4000000 in
set_option maxRecDepth 100000 in
theorem c_L_tryLoad (l : Launch) (G : zk_G) (hst : l.stackTraces = false) (a : zA) (L : zL) (n t : Nat) (hI : sInv L n t) (T : zL) (tn po : Nat) (hT : tInv T tn po) (sv : Nat → Int32) (S : Nat → zL) (o cn : Nat) (ho : o < 14) (hcn : cn ≤ 14) : zk_IH (S := Option (zL × zL × (Nat → Int32)) × zL) l yL_tryLoad wsL_tryLoad rmL_tryLoad G [.ref a.1] ((zb_5 G a) ++ ((zb_T G a.2.1 T) ++ ((zb_L G a.2.2.1 L) ++ ((zb_M G a.2.2.1 L) ++ ((zb_S G a sv) ++ zb_H G a.2.2.2.2.1.1 a.2.2.2.2.1.2.1 a.2.2.2.2.1.2.2 S (nI o) (nI cn)))))) (fun r u => match u.1 with | some v0 => (fun r u => (tEr T tn).1 = true ∧ r = (lRun (tEr T tn).2.2 L tn 120).1 ∧ u.1 = (lRun (tEr T tn).2.2 L tn 120).2.1.2.2 ∧ u.2.1 = (lRun (tEr T tn).2.2 L tn 120).2.2 ∧ ∀ j, j < 2 → u.2.2 j = nI 0) r v0 | none => ∃ E, (fun E v => E = "java/lang/IllegalStateException" ∧ ¬ (tEr T tn).1 = true ∧ v = (tEr T tn).2.2) E u.2 ∧ zcode E (-9999001) (-9999002) (-9999003) r) (fun u => match u.1 with | some v0 => (zb_5 G a) ++ ((zb_T G a.2.1 v0.1) ++ ((zb_L G a.2.2.1 v0.2.1) ++ ((zb_M G a.2.2.1 v0.2.1) ++ ((zb_S G a v0.2.2) ++ zb_H G a.2.2.2.2.1.1 a.2.2.2.2.1.2.1 a.2.2.2.2.1.2.2 S (nI o) (nI 0))))) | none => (zb_5 G a) ++ ((zb_T G a.2.1 u.2) ++ ((zb_L G a.2.2.1 L) ++ ((zb_M G a.2.2.1 L) ++ ((zb_S G a sv) ++ zb_H G a.2.2.2.2.1.1 a.2.2.2.2.1.2.1 a.2.2.2.2.1.2.2 S (nI o) (nI cn)))))) := by
  refine zk_bodyIH (cc := cL_tryLoad) (maxL := 2) (ret := (some .int)) (hh := [(0, 4, 5, 16)]) (by decide) rfl (Nat.le_of_ble_eq_true rfl) ?_
  intro p E0 s m args below meth cd A ls Q hF hNC hTab hQ
  obtain ⟨hx, hb, hml, hr, hts, hown, hlocks, -, hE, hP, hD, hS, hA, hA0, hl⟩ := hF
  have hK := hE.1
  have hl : lv_has ls 2 [(0, .ref a.1)] := hl
  have w1 := hts _ (List.mem_of_getElem? (l := wsL_tryLoad) (i := 1) (a := Cond.classLink RL 16 "java/lang/IllegalStateException") rfl)
  have w2 := hts _ (List.mem_of_getElem? (l := wsL_tryLoad) (i := 2) (a := Cond.constant RL 18 (-9999003)) rfl)
  refine lv_aload_n hx hb dL_tryLoad_0 rfl (lv_at hl 0 rfl) ?_
  have hP0 : va_P G.1 vwCl (((zb_5 G a) ++ ((zb_T G a.2.1 T) ++ ((zb_L G a.2.2.1 L) ++ ((zb_M G a.2.2.1 L) ++ ((zb_S G a sv) ++ zb_H G a.2.2.2.2.1.1 a.2.2.2.2.1.2.1 a.2.2.2.2.1.2.2 S (nI o) (nI cn)))))) ++ ([] : va_W)) s.heap := by rw [List.append_nil]; exact hP
  have hD0 : va_D A (((zb_5 G a) ++ ((zb_T G a.2.1 T) ++ ((zb_L G a.2.2.1 L) ++ ((zb_M G a.2.2.1 L) ++ ((zb_S G a sv) ++ zb_H G a.2.2.2.2.1.1 a.2.2.2.2.1.2.1 a.2.2.2.2.1.2.2 S (nI o) (nI cn)))))) ++ ([] : va_W)) := by rw [List.append_nil]; exact hD
  refine zk_callXJc (wr := ([] : va_W)) (vx_runV (As := []) (rest := []) ⟨hx, hb, hml, hown, hts⟩ (c_X5_load l G hst a L n t hI T tn po hT sv S o cn ho hcn _) (cwV 0 hts gL_tryLoad_X5_load rfl rfl rfl (by decide +kernel) ⟨Nat.le_of_ble_eq_true rfl, Nat.le_of_ble_eq_true rfl⟩) (zk_preV hE hA0 hS (zk_Papp hP0).1 (zk_Dapp hD0).1 (va_recv hK hP0 (ci := 4) (q0 := 0) rfl rfl)) rfl rfl hl.1 rfl (lv_room (Nat.le_of_ble_eq_true rfl)) dL_tryLoad_1 ⟨Nat.le_of_ble_eq_true rfl, Nat.le_of_ble_eq_true rfl⟩) hP0 hD0 hS hA (fun E ce q9 v H locs hpx hP hD hS hce hcv hcl => ?_) (fun r u H locs hpost hP hD hS => ?_)
  · rw [List.append_nil] at hP hD
    have hpx2 := hpx
    obtain ⟨rfl, hno⟩ := hpx
    refine vx_catch hown [] ⟨0, 4, 5, 16⟩ [] (by rw [hTab]; rfl) (fun z hz => absurd hz List.not_mem_nil) (by decide) (by decide) w1 (va_Nw.use rfl hE.2.1.2.2.2.2.2.2.2.2.2.2.2.2) hce hcv hcl ?_
    have hP : va_P G.1 vwCl ((zb_5 G a) ++ ((zb_T G a.2.1 v) ++ ((zb_L G a.2.2.1 L) ++ ((zb_M G a.2.2.1 L) ++ ((zb_S G a sv) ++ zb_H G a.2.2.2.2.1.1 a.2.2.2.2.1.2.1 a.2.2.2.2.1.2.2 S (nI o) (nI cn)))))) H := hP
    have hD : va_D A ((zb_5 G a) ++ ((zb_T G a.2.1 v) ++ ((zb_L G a.2.2.1 L) ++ ((zb_M G a.2.2.1 L) ++ ((zb_S G a sv) ++ zb_H G a.2.2.2.2.1.1 a.2.2.2.2.1.2.1 a.2.2.2.2.1.2.2 S (nI o) (nI cn)))))) := hD
    refine lv_astore_n (lv' := [(1, .ref q9), (0, .ref a.1)]) hx hb dL_tryLoad_5 rfl hl (by decide) rfl (fun ls hl => ?_)
    refine lv_ldc hx hb (v := (-9999003)) hown w2 dL_tryLoad_6 ?_
    rw [hQ]
    refine vx_ret ?_
    exact zk_reti (none, v) rfl hx hb hr hlocks hS hP hD (Nat.le_of_ble_eq_true rfl) (Nat.le_of_ble_eq_true rfl) dL_tryLoad_8 (⟨"java/lang/IllegalStateException", hpx2, zc_3 _ _ _⟩)
  · rw [List.append_nil] at hP hD
    have hP : va_P G.1 vwCl ((zb_5 G a) ++ ((zb_T G a.2.1 u.1) ++ ((zb_L G a.2.2.1 u.2.1) ++ ((zb_M G a.2.2.1 u.2.1) ++ ((zb_S G a u.2.2) ++ zb_H G a.2.2.2.2.1.1 a.2.2.2.2.1.2.1 a.2.2.2.2.1.2.2 S (nI o) (nI 0)))))) H := hP
    have hD : va_D A ((zb_5 G a) ++ ((zb_T G a.2.1 u.1) ++ ((zb_L G a.2.2.1 u.2.1) ++ ((zb_M G a.2.2.1 u.2.1) ++ ((zb_S G a u.2.2) ++ zb_H G a.2.2.2.2.1.1 a.2.2.2.2.1.2.1 a.2.2.2.2.1.2.2 S (nI o) (nI 0)))))) := hD
    rw [hQ]
    refine vx_ret ?_
    exact zk_reti (some u, T) rfl hx hb hr hlocks hS hP hD (Nat.le_of_ble_eq_true rfl) (Nat.le_of_ble_eq_true rfl) dL_tryLoad_4 (hpost)

abbrev rmL_tryAbout : Room := { frames := 7, cells := 1, slots := 6, locals := 110 }
set_option maxHeartbeats 4000000 in
set_option maxRecDepth 100000 in
theorem c_L_tryAbout (l : Launch) (G : zk_G) (hst : l.stackTraces = false) (a : zA) (L : zL) (n t : Nat) (hI : sInv L n t) (w : Int32) : zk_IH (S := Option (Unit)) l yL_tryAbout wsL_tryAbout rmL_tryAbout G [.ref a.1, .int w] ((zb_5 G a) ++ ((zb_L G a.2.2.1 L) ++ zb_M G a.2.2.1 L)) (fun r u => match u with | some v0 => (fun r _ => zIn w 12 ∧ r = xAbout L n t w) r v0 | none => ∃ E, (fun E => E = "java/lang/IllegalArgumentException" ∧ ¬ zIn w 12) E ∧ zcode E (-9999001) (-9999002) (-9999003) r) (fun u => match u with | some v0 => (zb_5 G a) ++ ((zb_L G a.2.2.1 L) ++ zb_M G a.2.2.1 L) | none => (zb_5 G a) ++ ((zb_L G a.2.2.1 L) ++ zb_M G a.2.2.1 L)) := by
  refine zk_bodyIH (cc := cL_tryAbout) (maxL := 3) (ret := (some .int)) (hh := [(0, 5, 6, 27)]) (by decide) rfl (Nat.le_of_ble_eq_true rfl) ?_
  intro p E0 s m args below meth cd A ls Q hF hNC hTab hQ
  obtain ⟨hx, hb, hml, hr, hts, hown, hlocks, -, hE, hP, hD, hS, hA, hA0, hl⟩ := hF
  have hK := hE.1
  have hl : lv_has ls 3 [(0, .ref a.1), (1, .int w)] := hl
  have w1 := hts _ (List.mem_of_getElem? (l := wsL_tryAbout) (i := 1) (a := Cond.classLink RL 27 "java/lang/IllegalArgumentException") rfl)
  have w2 := hts _ (List.mem_of_getElem? (l := wsL_tryAbout) (i := 2) (a := Cond.constant RL 29 (-9999002)) rfl)
  refine lv_aload_n hx hb dL_tryAbout_0 rfl (lv_at hl 0 rfl) ?_
  refine lv_iload_n hx hb dL_tryAbout_1 rfl (lv_at hl 1 rfl) ?_
  have hP0 : va_P G.1 vwCl (((zb_5 G a) ++ ((zb_L G a.2.2.1 L) ++ zb_M G a.2.2.1 L)) ++ ([] : va_W)) s.heap := by rw [List.append_nil]; exact hP
  have hD0 : va_D A (((zb_5 G a) ++ ((zb_L G a.2.2.1 L) ++ zb_M G a.2.2.1 L)) ++ ([] : va_W)) := by rw [List.append_nil]; exact hD
  refine zk_callXIc (wr := ([] : va_W)) (vx_runV (As := [.int w]) (rest := []) ⟨hx, hb, hml, hown, hts⟩ (c_X5_about l G hst a L n t hI w _) (cwV 1 hts gL_tryAbout_X5_about rfl rfl rfl (by decide +kernel) ⟨Nat.le_of_ble_eq_true rfl, Nat.le_of_ble_eq_true rfl⟩) (zk_preV hE hA0 hS (zk_Papp hP0).1 (zk_Dapp hD0).1 (va_recv hK hP0 (ci := 4) (q0 := 0) rfl rfl)) rfl rfl hl.1 rfl (lv_room (Nat.le_of_ble_eq_true rfl)) dL_tryAbout_2 ⟨Nat.le_of_ble_eq_true rfl, Nat.le_of_ble_eq_true rfl⟩) hP0 hD0 hS hA (fun E ce q9 H locs hpx hP hD hS hce hcv hcl => ?_) (fun r u H locs hpost hP hD hS => ?_)
  · rw [List.append_nil] at hP hD
    have hpx2 := hpx
    obtain ⟨rfl, hno⟩ := hpx
    refine vx_catch hown [] ⟨0, 5, 6, 27⟩ [] (by rw [hTab]; rfl) (fun z hz => absurd hz List.not_mem_nil) (by decide) (by decide) w1 (va_Nw.use rfl hE.2.1.2.2.2.2.2.2.2.2.2.2.2.1) hce hcv hcl ?_
    have hP : va_P G.1 vwCl ((zb_5 G a) ++ ((zb_L G a.2.2.1 L) ++ zb_M G a.2.2.1 L)) H := hP
    have hD : va_D A ((zb_5 G a) ++ ((zb_L G a.2.2.1 L) ++ zb_M G a.2.2.1 L)) := hD
    refine lv_astore_n (lv' := [(2, .ref q9), (0, .ref a.1), (1, .int w)]) hx hb dL_tryAbout_6 rfl hl (by decide) rfl (fun ls hl => ?_)
    refine lv_ldc hx hb (v := (-9999002)) hown w2 dL_tryAbout_7 ?_
    rw [hQ]
    refine vx_ret ?_
    exact zk_reti none rfl hx hb hr hlocks hS hP hD (Nat.le_of_ble_eq_true rfl) (Nat.le_of_ble_eq_true rfl) dL_tryAbout_9 (⟨"java/lang/IllegalArgumentException", hpx2, zc_2 _ _ _⟩)
  · rw [List.append_nil] at hP hD
    have hP : va_P G.1 vwCl ((zb_5 G a) ++ ((zb_L G a.2.2.1 L) ++ zb_M G a.2.2.1 L)) H := hP
    have hD : va_D A ((zb_5 G a) ++ ((zb_L G a.2.2.1 L) ++ zb_M G a.2.2.1 L)) := hD
    rw [hQ]
    refine vx_ret ?_
    exact zk_reti (some u) rfl hx hb hr hlocks hS hP hD (Nat.le_of_ble_eq_true rfl) (Nat.le_of_ble_eq_true rfl) dL_tryAbout_5 (hpost)

abbrev rmL_tryChild : Room := { frames := 8, cells := 4, slots := 24, locals := 125 }
set_option maxHeartbeats 4000000 in
set_option maxRecDepth 100000 in
theorem c_L_tryChild (l : Launch) (G : zk_G) (hst : l.stackTraces = false) (a : zA) (L : zL) (n t : Nat) (hI : sInv L n t) (c w : Int32) : zk_IH (S := Option (Unit)) l yL_tryChild wsL_tryChild rmL_tryChild G [.ref a.1, .int c, .int w] ((zb_5 G a) ++ ((zb_L G a.2.2.1 L) ++ zb_M G a.2.2.1 L)) (fun r u => match u with | some v0 => (fun r _ => sHas L c ∧ zIn w 9 ∧ r = xChild L n t c.toNatClampNeg w) r v0 | none => ∃ E, (fun E => (E = "java/lang/IndexOutOfBoundsException" ∧ ¬ sHas L c) ∨ (E = "java/lang/IllegalArgumentException" ∧ sHas L c ∧ ¬ zIn w 9)) E ∧ zcode E (-9999001) (-9999002) (-9999003) r) (fun u => match u with | some v0 => (zb_5 G a) ++ ((zb_L G a.2.2.1 L) ++ zb_M G a.2.2.1 L) | none => (zb_5 G a) ++ ((zb_L G a.2.2.1 L) ++ zb_M G a.2.2.1 L)) := by
  refine zk_bodyIH (cc := cL_tryChild) (maxL := 4) (ret := (some .int)) (hh := [(0, 6, 7, 13), (0, 6, 11, 27)]) (by decide) rfl (Nat.le_of_ble_eq_true rfl) ?_
  intro p E0 s m args below meth cd A ls Q hF hNC hTab hQ
  obtain ⟨hx, hb, hml, hr, hts, hown, hlocks, -, hE, hP, hD, hS, hA, hA0, hl⟩ := hF
  have hK := hE.1
  have hl : lv_has ls 4 [(0, .ref a.1), (1, .int c), (2, .int w)] := hl
  have w1 := hts _ (List.mem_of_getElem? (l := wsL_tryChild) (i := 1) (a := Cond.classLink RL 13 "java/lang/IndexOutOfBoundsException") rfl)
  have w3 := hts _ (List.mem_of_getElem? (l := wsL_tryChild) (i := 3) (a := Cond.constant RL 15 (-9999001)) rfl)
  have w2 := hts _ (List.mem_of_getElem? (l := wsL_tryChild) (i := 2) (a := Cond.classLink RL 27 "java/lang/IllegalArgumentException") rfl)
  have w4 := hts _ (List.mem_of_getElem? (l := wsL_tryChild) (i := 4) (a := Cond.constant RL 29 (-9999002)) rfl)
  refine lv_aload_n hx hb dL_tryChild_0 rfl (lv_at hl 0 rfl) ?_
  refine lv_iload_n hx hb dL_tryChild_1 rfl (lv_at hl 1 rfl) ?_
  refine lv_iload_n hx hb dL_tryChild_2 rfl (lv_at hl 2 rfl) ?_
  have hP0 : va_P G.1 vwCl (((zb_5 G a) ++ ((zb_L G a.2.2.1 L) ++ zb_M G a.2.2.1 L)) ++ ([] : va_W)) s.heap := by rw [List.append_nil]; exact hP
  have hD0 : va_D A (((zb_5 G a) ++ ((zb_L G a.2.2.1 L) ++ zb_M G a.2.2.1 L)) ++ ([] : va_W)) := by rw [List.append_nil]; exact hD
  refine zk_callXIc (wr := ([] : va_W)) (vx_runV (As := [.int c, .int w]) (rest := []) ⟨hx, hb, hml, hown, hts⟩ (c_X5_child l G hst a L n t hI c w _) (cwV 2 hts gL_tryChild_X5_child rfl rfl rfl (by decide +kernel) ⟨Nat.le_of_ble_eq_true rfl, Nat.le_of_ble_eq_true rfl⟩) (zk_preV hE hA0 hS (zk_Papp hP0).1 (zk_Dapp hD0).1 (va_recv hK hP0 (ci := 4) (q0 := 0) rfl rfl)) rfl rfl hl.1 rfl (lv_room (Nat.le_of_ble_eq_true rfl)) dL_tryChild_3 ⟨Nat.le_of_ble_eq_true rfl, Nat.le_of_ble_eq_true rfl⟩) hP0 hD0 hS hA (fun E ce q9 H locs hpx hP hD hS hce hcv hcl => ?_) (fun r u H locs hpost hP hD hS => ?_)
  · rw [List.append_nil] at hP hD
    have hpx2 := hpx
    rcases hpx with ⟨rfl, hno⟩ | ⟨rfl, hno⟩
    · refine vx_catch hown [] ⟨0, 6, 7, 13⟩ [⟨0, 6, 11, 27⟩] (by rw [hTab]; rfl) (fun z hz => absurd hz List.not_mem_nil) (by decide) (by decide) w1 (va_Nw.use rfl hE.2.1.2.2.2.2.2.2.2.2.2.2.1) hce hcv hcl ?_
      have hP : va_P G.1 vwCl ((zb_5 G a) ++ ((zb_L G a.2.2.1 L) ++ zb_M G a.2.2.1 L)) H := hP
      have hD : va_D A ((zb_5 G a) ++ ((zb_L G a.2.2.1 L) ++ zb_M G a.2.2.1 L)) := hD
      refine lv_astore_n (lv' := [(3, .ref q9), (0, .ref a.1), (1, .int c), (2, .int w)]) hx hb dL_tryChild_7 rfl hl (by decide) rfl (fun ls hl => ?_)
      refine lv_ldc hx hb (v := (-9999001)) hown w3 dL_tryChild_8 ?_
      rw [hQ]
      refine vx_ret ?_
      exact zk_reti none rfl hx hb hr hlocks hS hP hD (Nat.le_of_ble_eq_true rfl) (Nat.le_of_ble_eq_true rfl) dL_tryChild_10 (⟨"java/lang/IndexOutOfBoundsException", hpx2, zc_1 _ _ _⟩)
    · refine vx_catch hown [⟨0, 6, 7, 13⟩] ⟨0, 6, 11, 27⟩ [] (by rw [hTab]; rfl) (List.forall_mem_cons.mpr ⟨Or.inr ⟨by decide, "java/lang/IndexOutOfBoundsException", w1, hNC.1.2⟩, fun z hz => absurd hz List.not_mem_nil⟩) (by decide) (by decide) w2 (va_Nw.use rfl hE.2.1.2.2.2.2.2.2.2.2.2.2.2.1) hce hcv hcl ?_
      have hP : va_P G.1 vwCl ((zb_5 G a) ++ ((zb_L G a.2.2.1 L) ++ zb_M G a.2.2.1 L)) H := hP
      have hD : va_D A ((zb_5 G a) ++ ((zb_L G a.2.2.1 L) ++ zb_M G a.2.2.1 L)) := hD
      refine lv_astore_n (lv' := [(3, .ref q9), (0, .ref a.1), (1, .int c), (2, .int w)]) hx hb dL_tryChild_11 rfl hl (by decide) rfl (fun ls hl => ?_)
      refine lv_ldc hx hb (v := (-9999002)) hown w4 dL_tryChild_12 ?_
      rw [hQ]
      refine vx_ret ?_
      exact zk_reti none rfl hx hb hr hlocks hS hP hD (Nat.le_of_ble_eq_true rfl) (Nat.le_of_ble_eq_true rfl) dL_tryChild_14 (⟨"java/lang/IllegalArgumentException", hpx2, zc_2 _ _ _⟩)
  · rw [List.append_nil] at hP hD
    have hP : va_P G.1 vwCl ((zb_5 G a) ++ ((zb_L G a.2.2.1 L) ++ zb_M G a.2.2.1 L)) H := hP
    have hD : va_D A ((zb_5 G a) ++ ((zb_L G a.2.2.1 L) ++ zb_M G a.2.2.1 L)) := hD
    rw [hQ]
    refine vx_ret ?_
    exact zk_reti (some u) rfl hx hb hr hlocks hS hP hD (Nat.le_of_ble_eq_true rfl) (Nat.le_of_ble_eq_true rfl) dL_tryChild_6 (hpost)

abbrev rmL_tryFamily : Room := { frames := 8, cells := 4, slots := 24, locals := 124 }
set_option maxHeartbeats 4000000 in
set_option maxRecDepth 100000 in
theorem c_L_tryFamily (l : Launch) (G : zk_G) (hst : l.stackTraces = false) (a : zA) (L : zL) (n t : Nat) (hI : sInv L n t) (f w : Int32) : zk_IH (S := Option (Unit)) l yL_tryFamily wsL_tryFamily rmL_tryFamily G [.ref a.1, .int f, .int w] ((zb_5 G a) ++ ((zb_L G a.2.2.1 L) ++ zb_M G a.2.2.1 L)) (fun r u => match u with | some v0 => (fun r _ => sFam f ∧ zIn w 5 ∧ r = xFamily L n t f.toNatClampNeg w) r v0 | none => ∃ E, (fun E => (E = "java/lang/IndexOutOfBoundsException" ∧ ¬ sFam f) ∨ (E = "java/lang/IllegalArgumentException" ∧ sFam f ∧ ¬ zIn w 5)) E ∧ zcode E (-9999001) (-9999002) (-9999003) r) (fun u => match u with | some v0 => (zb_5 G a) ++ ((zb_L G a.2.2.1 L) ++ zb_M G a.2.2.1 L) | none => (zb_5 G a) ++ ((zb_L G a.2.2.1 L) ++ zb_M G a.2.2.1 L)) := by
  refine zk_bodyIH (cc := cL_tryFamily) (maxL := 4) (ret := (some .int)) (hh := [(0, 6, 7, 13), (0, 6, 11, 27)]) (by decide) rfl (Nat.le_of_ble_eq_true rfl) ?_
  intro p E0 s m args below meth cd A ls Q hF hNC hTab hQ
  obtain ⟨hx, hb, hml, hr, hts, hown, hlocks, -, hE, hP, hD, hS, hA, hA0, hl⟩ := hF
  have hK := hE.1
  have hl : lv_has ls 4 [(0, .ref a.1), (1, .int f), (2, .int w)] := hl
  have w1 := hts _ (List.mem_of_getElem? (l := wsL_tryFamily) (i := 1) (a := Cond.classLink RL 13 "java/lang/IndexOutOfBoundsException") rfl)
  have w3 := hts _ (List.mem_of_getElem? (l := wsL_tryFamily) (i := 3) (a := Cond.constant RL 15 (-9999001)) rfl)
  have w2 := hts _ (List.mem_of_getElem? (l := wsL_tryFamily) (i := 2) (a := Cond.classLink RL 27 "java/lang/IllegalArgumentException") rfl)
  have w4 := hts _ (List.mem_of_getElem? (l := wsL_tryFamily) (i := 4) (a := Cond.constant RL 29 (-9999002)) rfl)
  refine lv_aload_n hx hb dL_tryFamily_0 rfl (lv_at hl 0 rfl) ?_
  refine lv_iload_n hx hb dL_tryFamily_1 rfl (lv_at hl 1 rfl) ?_
  refine lv_iload_n hx hb dL_tryFamily_2 rfl (lv_at hl 2 rfl) ?_
  have hP0 : va_P G.1 vwCl (((zb_5 G a) ++ ((zb_L G a.2.2.1 L) ++ zb_M G a.2.2.1 L)) ++ ([] : va_W)) s.heap := by rw [List.append_nil]; exact hP
  have hD0 : va_D A (((zb_5 G a) ++ ((zb_L G a.2.2.1 L) ++ zb_M G a.2.2.1 L)) ++ ([] : va_W)) := by rw [List.append_nil]; exact hD
  refine zk_callXIc (wr := ([] : va_W)) (vx_runV (As := [.int f, .int w]) (rest := []) ⟨hx, hb, hml, hown, hts⟩ (c_X5_family l G hst a L n t hI f w _) (cwV 2 hts gL_tryFamily_X5_family rfl rfl rfl (by decide +kernel) ⟨Nat.le_of_ble_eq_true rfl, Nat.le_of_ble_eq_true rfl⟩) (zk_preV hE hA0 hS (zk_Papp hP0).1 (zk_Dapp hD0).1 (va_recv hK hP0 (ci := 4) (q0 := 0) rfl rfl)) rfl rfl hl.1 rfl (lv_room (Nat.le_of_ble_eq_true rfl)) dL_tryFamily_3 ⟨Nat.le_of_ble_eq_true rfl, Nat.le_of_ble_eq_true rfl⟩) hP0 hD0 hS hA (fun E ce q9 H locs hpx hP hD hS hce hcv hcl => ?_) (fun r u H locs hpost hP hD hS => ?_)
  · rw [List.append_nil] at hP hD
    have hpx2 := hpx
    rcases hpx with ⟨rfl, hno⟩ | ⟨rfl, hno⟩
    · refine vx_catch hown [] ⟨0, 6, 7, 13⟩ [⟨0, 6, 11, 27⟩] (by rw [hTab]; rfl) (fun z hz => absurd hz List.not_mem_nil) (by decide) (by decide) w1 (va_Nw.use rfl hE.2.1.2.2.2.2.2.2.2.2.2.2.1) hce hcv hcl ?_
      have hP : va_P G.1 vwCl ((zb_5 G a) ++ ((zb_L G a.2.2.1 L) ++ zb_M G a.2.2.1 L)) H := hP
      have hD : va_D A ((zb_5 G a) ++ ((zb_L G a.2.2.1 L) ++ zb_M G a.2.2.1 L)) := hD
      refine lv_astore_n (lv' := [(3, .ref q9), (0, .ref a.1), (1, .int f), (2, .int w)]) hx hb dL_tryFamily_7 rfl hl (by decide) rfl (fun ls hl => ?_)
      refine lv_ldc hx hb (v := (-9999001)) hown w3 dL_tryFamily_8 ?_
      rw [hQ]
      refine vx_ret ?_
      exact zk_reti none rfl hx hb hr hlocks hS hP hD (Nat.le_of_ble_eq_true rfl) (Nat.le_of_ble_eq_true rfl) dL_tryFamily_10 (⟨"java/lang/IndexOutOfBoundsException", hpx2, zc_1 _ _ _⟩)
    · refine vx_catch hown [⟨0, 6, 7, 13⟩] ⟨0, 6, 11, 27⟩ [] (by rw [hTab]; rfl) (List.forall_mem_cons.mpr ⟨Or.inr ⟨by decide, "java/lang/IndexOutOfBoundsException", w1, hNC.1.2⟩, fun z hz => absurd hz List.not_mem_nil⟩) (by decide) (by decide) w2 (va_Nw.use rfl hE.2.1.2.2.2.2.2.2.2.2.2.2.2.1) hce hcv hcl ?_
      have hP : va_P G.1 vwCl ((zb_5 G a) ++ ((zb_L G a.2.2.1 L) ++ zb_M G a.2.2.1 L)) H := hP
      have hD : va_D A ((zb_5 G a) ++ ((zb_L G a.2.2.1 L) ++ zb_M G a.2.2.1 L)) := hD
      refine lv_astore_n (lv' := [(3, .ref q9), (0, .ref a.1), (1, .int f), (2, .int w)]) hx hb dL_tryFamily_11 rfl hl (by decide) rfl (fun ls hl => ?_)
      refine lv_ldc hx hb (v := (-9999002)) hown w4 dL_tryFamily_12 ?_
      rw [hQ]
      refine vx_ret ?_
      exact zk_reti none rfl hx hb hr hlocks hS hP hD (Nat.le_of_ble_eq_true rfl) (Nat.le_of_ble_eq_true rfl) dL_tryFamily_14 (⟨"java/lang/IllegalArgumentException", hpx2, zc_2 _ _ _⟩)
  · rw [List.append_nil] at hP hD
    have hP : va_P G.1 vwCl ((zb_5 G a) ++ ((zb_L G a.2.2.1 L) ++ zb_M G a.2.2.1 L)) H := hP
    have hD : va_D A ((zb_5 G a) ++ ((zb_L G a.2.2.1 L) ++ zb_M G a.2.2.1 L)) := hD
    rw [hQ]
    refine vx_ret ?_
    exact zk_reti (some u) rfl hx hb hr hlocks hS hP hD (Nat.le_of_ble_eq_true rfl) (Nat.le_of_ble_eq_true rfl) dL_tryFamily_6 (hpost)

abbrev rmL_tryDay : Room := { frames := 8, cells := 4, slots := 24, locals := 124 }
set_option maxHeartbeats 4000000 in
set_option maxRecDepth 100000 in
theorem c_L_tryDay (l : Launch) (G : zk_G) (hst : l.stackTraces = false) (a : zA) (L : zL) (n t : Nat) (hI : sInv L n t) (d w : Int32) : zk_IH (S := Option (Unit)) l yL_tryDay wsL_tryDay rmL_tryDay G [.ref a.1, .int d, .int w] ((zb_5 G a) ++ ((zb_L G a.2.2.1 L) ++ zb_M G a.2.2.1 L)) (fun r u => match u with | some v0 => (fun r _ => sDay d ∧ zIn w 4 ∧ r = xDay L n t d.toNatClampNeg w) r v0 | none => ∃ E, (fun E => (E = "java/lang/IndexOutOfBoundsException" ∧ ¬ sDay d) ∨ (E = "java/lang/IllegalArgumentException" ∧ sDay d ∧ ¬ zIn w 4)) E ∧ zcode E (-9999001) (-9999002) (-9999003) r) (fun u => match u with | some v0 => (zb_5 G a) ++ ((zb_L G a.2.2.1 L) ++ zb_M G a.2.2.1 L) | none => (zb_5 G a) ++ ((zb_L G a.2.2.1 L) ++ zb_M G a.2.2.1 L)) := by
  refine zk_bodyIH (cc := cL_tryDay) (maxL := 4) (ret := (some .int)) (hh := [(0, 6, 7, 13), (0, 6, 11, 27)]) (by decide) rfl (Nat.le_of_ble_eq_true rfl) ?_
  intro p E0 s m args below meth cd A ls Q hF hNC hTab hQ
  obtain ⟨hx, hb, hml, hr, hts, hown, hlocks, -, hE, hP, hD, hS, hA, hA0, hl⟩ := hF
  have hK := hE.1
  have hl : lv_has ls 4 [(0, .ref a.1), (1, .int d), (2, .int w)] := hl
  have w1 := hts _ (List.mem_of_getElem? (l := wsL_tryDay) (i := 1) (a := Cond.classLink RL 13 "java/lang/IndexOutOfBoundsException") rfl)
  have w3 := hts _ (List.mem_of_getElem? (l := wsL_tryDay) (i := 3) (a := Cond.constant RL 15 (-9999001)) rfl)
  have w2 := hts _ (List.mem_of_getElem? (l := wsL_tryDay) (i := 2) (a := Cond.classLink RL 27 "java/lang/IllegalArgumentException") rfl)
  have w4 := hts _ (List.mem_of_getElem? (l := wsL_tryDay) (i := 4) (a := Cond.constant RL 29 (-9999002)) rfl)
  refine lv_aload_n hx hb dL_tryDay_0 rfl (lv_at hl 0 rfl) ?_
  refine lv_iload_n hx hb dL_tryDay_1 rfl (lv_at hl 1 rfl) ?_
  refine lv_iload_n hx hb dL_tryDay_2 rfl (lv_at hl 2 rfl) ?_
  have hP0 : va_P G.1 vwCl (((zb_5 G a) ++ ((zb_L G a.2.2.1 L) ++ zb_M G a.2.2.1 L)) ++ ([] : va_W)) s.heap := by rw [List.append_nil]; exact hP
  have hD0 : va_D A (((zb_5 G a) ++ ((zb_L G a.2.2.1 L) ++ zb_M G a.2.2.1 L)) ++ ([] : va_W)) := by rw [List.append_nil]; exact hD
  refine zk_callXIc (wr := ([] : va_W)) (vx_runV (As := [.int d, .int w]) (rest := []) ⟨hx, hb, hml, hown, hts⟩ (c_X5_day l G hst a L n t hI d w _) (cwV 2 hts gL_tryDay_X5_day rfl rfl rfl (by decide +kernel) ⟨Nat.le_of_ble_eq_true rfl, Nat.le_of_ble_eq_true rfl⟩) (zk_preV hE hA0 hS (zk_Papp hP0).1 (zk_Dapp hD0).1 (va_recv hK hP0 (ci := 4) (q0 := 0) rfl rfl)) rfl rfl hl.1 rfl (lv_room (Nat.le_of_ble_eq_true rfl)) dL_tryDay_3 ⟨Nat.le_of_ble_eq_true rfl, Nat.le_of_ble_eq_true rfl⟩) hP0 hD0 hS hA (fun E ce q9 H locs hpx hP hD hS hce hcv hcl => ?_) (fun r u H locs hpost hP hD hS => ?_)
  · rw [List.append_nil] at hP hD
    have hpx2 := hpx
    rcases hpx with ⟨rfl, hno⟩ | ⟨rfl, hno⟩
    · refine vx_catch hown [] ⟨0, 6, 7, 13⟩ [⟨0, 6, 11, 27⟩] (by rw [hTab]; rfl) (fun z hz => absurd hz List.not_mem_nil) (by decide) (by decide) w1 (va_Nw.use rfl hE.2.1.2.2.2.2.2.2.2.2.2.2.1) hce hcv hcl ?_
      have hP : va_P G.1 vwCl ((zb_5 G a) ++ ((zb_L G a.2.2.1 L) ++ zb_M G a.2.2.1 L)) H := hP
      have hD : va_D A ((zb_5 G a) ++ ((zb_L G a.2.2.1 L) ++ zb_M G a.2.2.1 L)) := hD
      refine lv_astore_n (lv' := [(3, .ref q9), (0, .ref a.1), (1, .int d), (2, .int w)]) hx hb dL_tryDay_7 rfl hl (by decide) rfl (fun ls hl => ?_)
      refine lv_ldc hx hb (v := (-9999001)) hown w3 dL_tryDay_8 ?_
      rw [hQ]
      refine vx_ret ?_
      exact zk_reti none rfl hx hb hr hlocks hS hP hD (Nat.le_of_ble_eq_true rfl) (Nat.le_of_ble_eq_true rfl) dL_tryDay_10 (⟨"java/lang/IndexOutOfBoundsException", hpx2, zc_1 _ _ _⟩)
    · refine vx_catch hown [⟨0, 6, 7, 13⟩] ⟨0, 6, 11, 27⟩ [] (by rw [hTab]; rfl) (List.forall_mem_cons.mpr ⟨Or.inr ⟨by decide, "java/lang/IndexOutOfBoundsException", w1, hNC.1.2⟩, fun z hz => absurd hz List.not_mem_nil⟩) (by decide) (by decide) w2 (va_Nw.use rfl hE.2.1.2.2.2.2.2.2.2.2.2.2.2.1) hce hcv hcl ?_
      have hP : va_P G.1 vwCl ((zb_5 G a) ++ ((zb_L G a.2.2.1 L) ++ zb_M G a.2.2.1 L)) H := hP
      have hD : va_D A ((zb_5 G a) ++ ((zb_L G a.2.2.1 L) ++ zb_M G a.2.2.1 L)) := hD
      refine lv_astore_n (lv' := [(3, .ref q9), (0, .ref a.1), (1, .int d), (2, .int w)]) hx hb dL_tryDay_11 rfl hl (by decide) rfl (fun ls hl => ?_)
      refine lv_ldc hx hb (v := (-9999002)) hown w4 dL_tryDay_12 ?_
      rw [hQ]
      refine vx_ret ?_
      exact zk_reti none rfl hx hb hr hlocks hS hP hD (Nat.le_of_ble_eq_true rfl) (Nat.le_of_ble_eq_true rfl) dL_tryDay_14 (⟨"java/lang/IllegalArgumentException", hpx2, zc_2 _ _ _⟩)
  · rw [List.append_nil] at hP hD
    have hP : va_P G.1 vwCl ((zb_5 G a) ++ ((zb_L G a.2.2.1 L) ++ zb_M G a.2.2.1 L)) H := hP
    have hD : va_D A ((zb_5 G a) ++ ((zb_L G a.2.2.1 L) ++ zb_M G a.2.2.1 L)) := hD
    rw [hQ]
    refine vx_ret ?_
    exact zk_reti (some u) rfl hx hb hr hlocks hS hP hD (Nat.le_of_ble_eq_true rfl) (Nat.le_of_ble_eq_true rfl) dL_tryDay_6 (hpost)

abbrev rmL_tryMeal : Room := { frames := 8, cells := 4, slots := 24, locals := 126 }
set_option maxHeartbeats 4000000 in
set_option maxRecDepth 100000 in
theorem c_L_tryMeal (l : Launch) (G : zk_G) (hst : l.stackTraces = false) (a : zA) (L : zL) (n t : Nat) (hI : sInv L n t) (c d w : Int32) : zk_IH (S := Option (Unit)) l yL_tryMeal wsL_tryMeal rmL_tryMeal G [.ref a.1, .int c, .int d, .int w] ((zb_5 G a) ++ ((zb_L G a.2.2.1 L) ++ zb_M G a.2.2.1 L)) (fun r u => match u with | some v0 => (fun r _ => sHas L c ∧ sDay d ∧ zIn w 3 ∧ r = xMeal L n t c.toNatClampNeg d.toNatClampNeg w) r v0 | none => ∃ E, (fun E => (E = "java/lang/IndexOutOfBoundsException" ∧ ¬ (sHas L c ∧ sDay d)) ∨ (E = "java/lang/IllegalArgumentException" ∧ sHas L c ∧ sDay d ∧ ¬ zIn w 3)) E ∧ zcode E (-9999001) (-9999002) (-9999003) r) (fun u => match u with | some v0 => (zb_5 G a) ++ ((zb_L G a.2.2.1 L) ++ zb_M G a.2.2.1 L) | none => (zb_5 G a) ++ ((zb_L G a.2.2.1 L) ++ zb_M G a.2.2.1 L)) := by
  refine zk_bodyIH (cc := cL_tryMeal) (maxL := 5) (ret := (some .int)) (hh := [(0, 7, 8, 13), (0, 7, 13, 27)]) (by decide) rfl (Nat.le_of_ble_eq_true rfl) ?_
  intro p E0 s m args below meth cd A ls Q hF hNC hTab hQ
  obtain ⟨hx, hb, hml, hr, hts, hown, hlocks, -, hE, hP, hD, hS, hA, hA0, hl⟩ := hF
  have hK := hE.1
  have hl : lv_has ls 5 [(0, .ref a.1), (1, .int c), (2, .int d), (3, .int w)] := hl
  have w1 := hts _ (List.mem_of_getElem? (l := wsL_tryMeal) (i := 1) (a := Cond.classLink RL 13 "java/lang/IndexOutOfBoundsException") rfl)
  have w3 := hts _ (List.mem_of_getElem? (l := wsL_tryMeal) (i := 3) (a := Cond.constant RL 15 (-9999001)) rfl)
  have w2 := hts _ (List.mem_of_getElem? (l := wsL_tryMeal) (i := 2) (a := Cond.classLink RL 27 "java/lang/IllegalArgumentException") rfl)
  have w4 := hts _ (List.mem_of_getElem? (l := wsL_tryMeal) (i := 4) (a := Cond.constant RL 29 (-9999002)) rfl)
  refine lv_aload_n hx hb dL_tryMeal_0 rfl (lv_at hl 0 rfl) ?_
  refine lv_iload_n hx hb dL_tryMeal_1 rfl (lv_at hl 1 rfl) ?_
  refine lv_iload_n hx hb dL_tryMeal_2 rfl (lv_at hl 2 rfl) ?_
  refine lv_iload_n hx hb dL_tryMeal_3 rfl (lv_at hl 3 rfl) ?_
  have hP0 : va_P G.1 vwCl (((zb_5 G a) ++ ((zb_L G a.2.2.1 L) ++ zb_M G a.2.2.1 L)) ++ ([] : va_W)) s.heap := by rw [List.append_nil]; exact hP
  have hD0 : va_D A (((zb_5 G a) ++ ((zb_L G a.2.2.1 L) ++ zb_M G a.2.2.1 L)) ++ ([] : va_W)) := by rw [List.append_nil]; exact hD
  refine zk_callXIc (wr := ([] : va_W)) (vx_runV (As := [.int c, .int d, .int w]) (rest := []) ⟨hx, hb, hml, hown, hts⟩ (c_X5_meal l G hst a L n t hI c d w _) (cwV 3 hts gL_tryMeal_X5_meal rfl rfl rfl (by decide +kernel) ⟨Nat.le_of_ble_eq_true rfl, Nat.le_of_ble_eq_true rfl⟩) (zk_preV hE hA0 hS (zk_Papp hP0).1 (zk_Dapp hD0).1 (va_recv hK hP0 (ci := 4) (q0 := 0) rfl rfl)) rfl rfl hl.1 rfl (lv_room (Nat.le_of_ble_eq_true rfl)) dL_tryMeal_4 ⟨Nat.le_of_ble_eq_true rfl, Nat.le_of_ble_eq_true rfl⟩) hP0 hD0 hS hA (fun E ce q9 H locs hpx hP hD hS hce hcv hcl => ?_) (fun r u H locs hpost hP hD hS => ?_)
  · rw [List.append_nil] at hP hD
    have hpx2 := hpx
    rcases hpx with ⟨rfl, hno⟩ | ⟨rfl, hno⟩
    · refine vx_catch hown [] ⟨0, 7, 8, 13⟩ [⟨0, 7, 13, 27⟩] (by rw [hTab]; rfl) (fun z hz => absurd hz List.not_mem_nil) (by decide) (by decide) w1 (va_Nw.use rfl hE.2.1.2.2.2.2.2.2.2.2.2.2.1) hce hcv hcl ?_
      have hP : va_P G.1 vwCl ((zb_5 G a) ++ ((zb_L G a.2.2.1 L) ++ zb_M G a.2.2.1 L)) H := hP
      have hD : va_D A ((zb_5 G a) ++ ((zb_L G a.2.2.1 L) ++ zb_M G a.2.2.1 L)) := hD
      refine lv_astore (lv' := [(4, .ref q9), (0, .ref a.1), (1, .int c), (2, .int d), (3, .int w)]) hx hb dL_tryMeal_8 hl (by decide) rfl (fun ls hl => ?_)
      refine lv_ldc hx hb (v := (-9999001)) hown w3 dL_tryMeal_10 ?_
      rw [hQ]
      refine vx_ret ?_
      exact zk_reti none rfl hx hb hr hlocks hS hP hD (Nat.le_of_ble_eq_true rfl) (Nat.le_of_ble_eq_true rfl) dL_tryMeal_12 (⟨"java/lang/IndexOutOfBoundsException", hpx2, zc_1 _ _ _⟩)
    · refine vx_catch hown [⟨0, 7, 8, 13⟩] ⟨0, 7, 13, 27⟩ [] (by rw [hTab]; rfl) (List.forall_mem_cons.mpr ⟨Or.inr ⟨by decide, "java/lang/IndexOutOfBoundsException", w1, hNC.1.2⟩, fun z hz => absurd hz List.not_mem_nil⟩) (by decide) (by decide) w2 (va_Nw.use rfl hE.2.1.2.2.2.2.2.2.2.2.2.2.2.1) hce hcv hcl ?_
      have hP : va_P G.1 vwCl ((zb_5 G a) ++ ((zb_L G a.2.2.1 L) ++ zb_M G a.2.2.1 L)) H := hP
      have hD : va_D A ((zb_5 G a) ++ ((zb_L G a.2.2.1 L) ++ zb_M G a.2.2.1 L)) := hD
      refine lv_astore (lv' := [(4, .ref q9), (0, .ref a.1), (1, .int c), (2, .int d), (3, .int w)]) hx hb dL_tryMeal_13 hl (by decide) rfl (fun ls hl => ?_)
      refine lv_ldc hx hb (v := (-9999002)) hown w4 dL_tryMeal_15 ?_
      rw [hQ]
      refine vx_ret ?_
      exact zk_reti none rfl hx hb hr hlocks hS hP hD (Nat.le_of_ble_eq_true rfl) (Nat.le_of_ble_eq_true rfl) dL_tryMeal_17 (⟨"java/lang/IllegalArgumentException", hpx2, zc_2 _ _ _⟩)
  · rw [List.append_nil] at hP hD
    have hP : va_P G.1 vwCl ((zb_5 G a) ++ ((zb_L G a.2.2.1 L) ++ zb_M G a.2.2.1 L)) H := hP
    have hD : va_D A ((zb_5 G a) ++ ((zb_L G a.2.2.1 L) ++ zb_M G a.2.2.1 L)) := hD
    rw [hQ]
    refine vx_ret ?_
    exact zk_reti (some u) rfl hx hb hr hlocks hS hP hD (Nat.le_of_ble_eq_true rfl) (Nat.le_of_ble_eq_true rfl) dL_tryMeal_7 (hpost)

abbrev rmL_trySetting : Room := { frames := 7, cells := 1, slots := 6, locals := 103 }
set_option maxHeartbeats 4000000 in
set_option maxRecDepth 100000 in
theorem c_L_trySetting (l : Launch) (G : zk_G) (hst : l.stackTraces = false) (a : zA) (L : zL) (n t : Nat) (hI : sInv L n t) (w : Int32) : zk_IH (S := Option (Unit)) l yL_trySetting wsL_trySetting rmL_trySetting G [.ref a.1, .int w] ((zb_5 G a) ++ ((zb_L G a.2.2.1 L) ++ zb_M G a.2.2.1 L)) (fun r u => match u with | some v0 => (fun r _ => zIn w 2 ∧ r = xSetting L n t w) r v0 | none => ∃ E, (fun E => E = "java/lang/IllegalArgumentException" ∧ ¬ zIn w 2) E ∧ zcode E (-9999001) (-9999002) (-9999003) r) (fun u => match u with | some v0 => (zb_5 G a) ++ ((zb_L G a.2.2.1 L) ++ zb_M G a.2.2.1 L) | none => (zb_5 G a) ++ ((zb_L G a.2.2.1 L) ++ zb_M G a.2.2.1 L)) := by
  refine zk_bodyIH (cc := cL_trySetting) (maxL := 3) (ret := (some .int)) (hh := [(0, 5, 6, 27)]) (by decide) rfl (Nat.le_of_ble_eq_true rfl) ?_
  intro p E0 s m args below meth cd A ls Q hF hNC hTab hQ
  obtain ⟨hx, hb, hml, hr, hts, hown, hlocks, -, hE, hP, hD, hS, hA, hA0, hl⟩ := hF
  have hK := hE.1
  have hl : lv_has ls 3 [(0, .ref a.1), (1, .int w)] := hl
  have w1 := hts _ (List.mem_of_getElem? (l := wsL_trySetting) (i := 1) (a := Cond.classLink RL 27 "java/lang/IllegalArgumentException") rfl)
  have w2 := hts _ (List.mem_of_getElem? (l := wsL_trySetting) (i := 2) (a := Cond.constant RL 29 (-9999002)) rfl)
  refine lv_aload_n hx hb dL_trySetting_0 rfl (lv_at hl 0 rfl) ?_
  refine lv_iload_n hx hb dL_trySetting_1 rfl (lv_at hl 1 rfl) ?_
  have hP0 : va_P G.1 vwCl (((zb_5 G a) ++ ((zb_L G a.2.2.1 L) ++ zb_M G a.2.2.1 L)) ++ ([] : va_W)) s.heap := by rw [List.append_nil]; exact hP
  have hD0 : va_D A (((zb_5 G a) ++ ((zb_L G a.2.2.1 L) ++ zb_M G a.2.2.1 L)) ++ ([] : va_W)) := by rw [List.append_nil]; exact hD
  refine zk_callXIc (wr := ([] : va_W)) (vx_runV (As := [.int w]) (rest := []) ⟨hx, hb, hml, hown, hts⟩ (c_X5_setting l G hst a L n t hI w _) (cwV 1 hts gL_trySetting_X5_setting rfl rfl rfl (by decide +kernel) ⟨Nat.le_of_ble_eq_true rfl, Nat.le_of_ble_eq_true rfl⟩) (zk_preV hE hA0 hS (zk_Papp hP0).1 (zk_Dapp hD0).1 (va_recv hK hP0 (ci := 4) (q0 := 0) rfl rfl)) rfl rfl hl.1 rfl (lv_room (Nat.le_of_ble_eq_true rfl)) dL_trySetting_2 ⟨Nat.le_of_ble_eq_true rfl, Nat.le_of_ble_eq_true rfl⟩) hP0 hD0 hS hA (fun E ce q9 H locs hpx hP hD hS hce hcv hcl => ?_) (fun r u H locs hpost hP hD hS => ?_)
  · rw [List.append_nil] at hP hD
    have hpx2 := hpx
    obtain ⟨rfl, hno⟩ := hpx
    refine vx_catch hown [] ⟨0, 5, 6, 27⟩ [] (by rw [hTab]; rfl) (fun z hz => absurd hz List.not_mem_nil) (by decide) (by decide) w1 (va_Nw.use rfl hE.2.1.2.2.2.2.2.2.2.2.2.2.2.1) hce hcv hcl ?_
    have hP : va_P G.1 vwCl ((zb_5 G a) ++ ((zb_L G a.2.2.1 L) ++ zb_M G a.2.2.1 L)) H := hP
    have hD : va_D A ((zb_5 G a) ++ ((zb_L G a.2.2.1 L) ++ zb_M G a.2.2.1 L)) := hD
    refine lv_astore_n (lv' := [(2, .ref q9), (0, .ref a.1), (1, .int w)]) hx hb dL_trySetting_6 rfl hl (by decide) rfl (fun ls hl => ?_)
    refine lv_ldc hx hb (v := (-9999002)) hown w2 dL_trySetting_7 ?_
    rw [hQ]
    refine vx_ret ?_
    exact zk_reti none rfl hx hb hr hlocks hS hP hD (Nat.le_of_ble_eq_true rfl) (Nat.le_of_ble_eq_true rfl) dL_trySetting_9 (⟨"java/lang/IllegalArgumentException", hpx2, zc_2 _ _ _⟩)
  · rw [List.append_nil] at hP hD
    have hP : va_P G.1 vwCl ((zb_5 G a) ++ ((zb_L G a.2.2.1 L) ++ zb_M G a.2.2.1 L)) H := hP
    have hD : va_D A ((zb_5 G a) ++ ((zb_L G a.2.2.1 L) ++ zb_M G a.2.2.1 L)) := hD
    rw [hQ]
    refine vx_ret ?_
    exact zk_reti (some u) rfl hx hb hr hlocks hS hP hD (Nat.le_of_ble_eq_true rfl) (Nat.le_of_ble_eq_true rfl) dL_trySetting_5 (hpost)

abbrev rmL_tryCome : Room := { frames := 9, cells := 2, slots := 12, locals := 146 }
set_option maxHeartbeats 4000000 in
set_option maxRecDepth 100000 in
theorem c_L_tryCome (l : Launch) (G : zk_G) (hst : l.stackTraces = false) (a : zA) (L : zL) (n t : Nat) (hI : sInv L n t) (f di : Int32) (S : Nat → zL) (o cn : Nat) (ho : o < 14) (hcn : cn ≤ 14) : zk_IH (S := Option ((Nat × Nat × (Nat → zL)) × zL)) l yL_tryCome wsL_tryCome rmL_tryCome G [.ref a.1, .int f, .int di] ((zb_5 G a) ++ ((zb_L G a.2.2.1 L) ++ ((zb_M G a.2.2.1 L) ++ zb_H G a.2.2.2.2.1.1 a.2.2.2.2.1.2.1 a.2.2.2.2.1.2.2 S (nI o) (nI cn)))) (fun r u => match u with | some v0 => (fun r u => sfCome n f di = 0 ∧ r = nI n ∧ u.1 = hRem o cn S L ∧ u.2 = sCome L n f di) r v0 | none => ∃ E, (fun E => (E = "java/lang/IndexOutOfBoundsException" ∧ sfCome n f di = nI 1) ∨ (E = "java/lang/IllegalArgumentException" ∧ sfCome n f di = nI 2) ∨ (E = "java/lang/IllegalStateException" ∧ sfCome n f di = nI 3)) E ∧ zcode E (-9999001) (-9999002) (-9999003) r) (fun u => match u with | some v0 => zb_5 G a ++ ((zb_L G a.2.2.1 v0.2) ++ ((zb_M G a.2.2.1 v0.2) ++ zb_H G a.2.2.2.2.1.1 a.2.2.2.2.1.2.1 a.2.2.2.2.1.2.2 v0.1.2.2 (nI v0.1.1) (nI v0.1.2.1))) | none => (zb_5 G a) ++ ((zb_L G a.2.2.1 L) ++ ((zb_M G a.2.2.1 L) ++ zb_H G a.2.2.2.2.1.1 a.2.2.2.2.1.2.1 a.2.2.2.2.1.2.2 S (nI o) (nI cn)))) := by
  refine zk_bodyIH (cc := cL_tryCome) (maxL := 4) (ret := (some .int)) (hh := [(0, 6, 7, 13), (0, 6, 11, 27), (0, 6, 15, 16)]) (by decide) rfl (Nat.le_of_ble_eq_true rfl) ?_
  intro p E0 s m args below meth cd A ls Q hF hNC hTab hQ
  obtain ⟨hx, hb, hml, hr, hts, hown, hlocks, -, hE, hP, hD, hS, hA, hA0, hl⟩ := hF
  have hK := hE.1
  have hl : lv_has ls 4 [(0, .ref a.1), (1, .int f), (2, .int di)] := hl
  have w1 := hts _ (List.mem_of_getElem? (l := wsL_tryCome) (i := 1) (a := Cond.classLink RL 13 "java/lang/IndexOutOfBoundsException") rfl)
  have w4 := hts _ (List.mem_of_getElem? (l := wsL_tryCome) (i := 4) (a := Cond.constant RL 15 (-9999001)) rfl)
  have w2 := hts _ (List.mem_of_getElem? (l := wsL_tryCome) (i := 2) (a := Cond.classLink RL 27 "java/lang/IllegalArgumentException") rfl)
  have w5 := hts _ (List.mem_of_getElem? (l := wsL_tryCome) (i := 5) (a := Cond.constant RL 29 (-9999002)) rfl)
  have w3 := hts _ (List.mem_of_getElem? (l := wsL_tryCome) (i := 3) (a := Cond.classLink RL 16 "java/lang/IllegalStateException") rfl)
  have w6 := hts _ (List.mem_of_getElem? (l := wsL_tryCome) (i := 6) (a := Cond.constant RL 18 (-9999003)) rfl)
  refine lv_aload_n hx hb dL_tryCome_0 rfl (lv_at hl 0 rfl) ?_
  refine lv_iload_n hx hb dL_tryCome_1 rfl (lv_at hl 1 rfl) ?_
  refine lv_iload_n hx hb dL_tryCome_2 rfl (lv_at hl 2 rfl) ?_
  have hP0 : va_P G.1 vwCl (((zb_5 G a) ++ ((zb_L G a.2.2.1 L) ++ ((zb_M G a.2.2.1 L) ++ zb_H G a.2.2.2.2.1.1 a.2.2.2.2.1.2.1 a.2.2.2.2.1.2.2 S (nI o) (nI cn)))) ++ ([] : va_W)) s.heap := by rw [List.append_nil]; exact hP
  have hD0 : va_D A (((zb_5 G a) ++ ((zb_L G a.2.2.1 L) ++ ((zb_M G a.2.2.1 L) ++ zb_H G a.2.2.2.2.1.1 a.2.2.2.2.1.2.1 a.2.2.2.2.1.2.2 S (nI o) (nI cn)))) ++ ([] : va_W)) := by rw [List.append_nil]; exact hD
  refine zk_callXIc (wr := ([] : va_W)) (vx_runV (As := [.int f, .int di]) (rest := []) ⟨hx, hb, hml, hown, hts⟩ (c_X5_come l G hst a L n t hI f di S o cn ho hcn _) (cwV 2 hts gL_tryCome_X5_come rfl rfl rfl (by decide +kernel) ⟨Nat.le_of_ble_eq_true rfl, Nat.le_of_ble_eq_true rfl⟩) (zk_preV hE hA0 hS (zk_Papp hP0).1 (zk_Dapp hD0).1 (va_recv hK hP0 (ci := 4) (q0 := 0) rfl rfl)) rfl rfl hl.1 rfl (lv_room (Nat.le_of_ble_eq_true rfl)) dL_tryCome_3 ⟨Nat.le_of_ble_eq_true rfl, Nat.le_of_ble_eq_true rfl⟩) hP0 hD0 hS hA (fun E ce q9 H locs hpx hP hD hS hce hcv hcl => ?_) (fun r u H locs hpost hP hD hS => ?_)
  · rw [List.append_nil] at hP hD
    have hpx2 := hpx
    rcases hpx with ⟨rfl, hno⟩ | ⟨rfl, hno⟩ | ⟨rfl, hno⟩
    · refine vx_catch hown [] ⟨0, 6, 7, 13⟩ [⟨0, 6, 11, 27⟩, ⟨0, 6, 15, 16⟩] (by rw [hTab]; rfl) (fun z hz => absurd hz List.not_mem_nil) (by decide) (by decide) w1 (va_Nw.use rfl hE.2.1.2.2.2.2.2.2.2.2.2.2.1) hce hcv hcl ?_
      have hP : va_P G.1 vwCl ((zb_5 G a) ++ ((zb_L G a.2.2.1 L) ++ ((zb_M G a.2.2.1 L) ++ zb_H G a.2.2.2.2.1.1 a.2.2.2.2.1.2.1 a.2.2.2.2.1.2.2 S (nI o) (nI cn)))) H := hP
      have hD : va_D A ((zb_5 G a) ++ ((zb_L G a.2.2.1 L) ++ ((zb_M G a.2.2.1 L) ++ zb_H G a.2.2.2.2.1.1 a.2.2.2.2.1.2.1 a.2.2.2.2.1.2.2 S (nI o) (nI cn)))) := hD
      refine lv_astore_n (lv' := [(3, .ref q9), (0, .ref a.1), (1, .int f), (2, .int di)]) hx hb dL_tryCome_7 rfl hl (by decide) rfl (fun ls hl => ?_)
      refine lv_ldc hx hb (v := (-9999001)) hown w4 dL_tryCome_8 ?_
      rw [hQ]
      refine vx_ret ?_
      exact zk_reti none rfl hx hb hr hlocks hS hP hD (Nat.le_of_ble_eq_true rfl) (Nat.le_of_ble_eq_true rfl) dL_tryCome_10 (⟨"java/lang/IndexOutOfBoundsException", hpx2, zc_1 _ _ _⟩)
    · refine vx_catch hown [⟨0, 6, 7, 13⟩] ⟨0, 6, 11, 27⟩ [⟨0, 6, 15, 16⟩] (by rw [hTab]; rfl) (List.forall_mem_cons.mpr ⟨Or.inr ⟨by decide, "java/lang/IndexOutOfBoundsException", w1, hNC.1.2⟩, fun z hz => absurd hz List.not_mem_nil⟩) (by decide) (by decide) w2 (va_Nw.use rfl hE.2.1.2.2.2.2.2.2.2.2.2.2.2.1) hce hcv hcl ?_
      have hP : va_P G.1 vwCl ((zb_5 G a) ++ ((zb_L G a.2.2.1 L) ++ ((zb_M G a.2.2.1 L) ++ zb_H G a.2.2.2.2.1.1 a.2.2.2.2.1.2.1 a.2.2.2.2.1.2.2 S (nI o) (nI cn)))) H := hP
      have hD : va_D A ((zb_5 G a) ++ ((zb_L G a.2.2.1 L) ++ ((zb_M G a.2.2.1 L) ++ zb_H G a.2.2.2.2.1.1 a.2.2.2.2.1.2.1 a.2.2.2.2.1.2.2 S (nI o) (nI cn)))) := hD
      refine lv_astore_n (lv' := [(3, .ref q9), (0, .ref a.1), (1, .int f), (2, .int di)]) hx hb dL_tryCome_11 rfl hl (by decide) rfl (fun ls hl => ?_)
      refine lv_ldc hx hb (v := (-9999002)) hown w5 dL_tryCome_12 ?_
      rw [hQ]
      refine vx_ret ?_
      exact zk_reti none rfl hx hb hr hlocks hS hP hD (Nat.le_of_ble_eq_true rfl) (Nat.le_of_ble_eq_true rfl) dL_tryCome_14 (⟨"java/lang/IllegalArgumentException", hpx2, zc_2 _ _ _⟩)
    · refine vx_catch hown [⟨0, 6, 7, 13⟩, ⟨0, 6, 11, 27⟩] ⟨0, 6, 15, 16⟩ [] (by rw [hTab]; rfl) (List.forall_mem_cons.mpr ⟨Or.inr ⟨by decide, "java/lang/IndexOutOfBoundsException", w1, hNC.2.1.2⟩, List.forall_mem_cons.mpr ⟨Or.inr ⟨by decide, "java/lang/IllegalArgumentException", w2, hNC.2.1.1⟩, fun z hz => absurd hz List.not_mem_nil⟩⟩) (by decide) (by decide) w3 (va_Nw.use rfl hE.2.1.2.2.2.2.2.2.2.2.2.2.2.2) hce hcv hcl ?_
      have hP : va_P G.1 vwCl ((zb_5 G a) ++ ((zb_L G a.2.2.1 L) ++ ((zb_M G a.2.2.1 L) ++ zb_H G a.2.2.2.2.1.1 a.2.2.2.2.1.2.1 a.2.2.2.2.1.2.2 S (nI o) (nI cn)))) H := hP
      have hD : va_D A ((zb_5 G a) ++ ((zb_L G a.2.2.1 L) ++ ((zb_M G a.2.2.1 L) ++ zb_H G a.2.2.2.2.1.1 a.2.2.2.2.1.2.1 a.2.2.2.2.1.2.2 S (nI o) (nI cn)))) := hD
      refine lv_astore_n (lv' := [(3, .ref q9), (0, .ref a.1), (1, .int f), (2, .int di)]) hx hb dL_tryCome_15 rfl hl (by decide) rfl (fun ls hl => ?_)
      refine lv_ldc hx hb (v := (-9999003)) hown w6 dL_tryCome_16 ?_
      rw [hQ]
      refine vx_ret ?_
      exact zk_reti none rfl hx hb hr hlocks hS hP hD (Nat.le_of_ble_eq_true rfl) (Nat.le_of_ble_eq_true rfl) dL_tryCome_18 (⟨"java/lang/IllegalStateException", hpx2, zc_3 _ _ _⟩)
  · rw [List.append_nil] at hP hD
    have hP : va_P G.1 vwCl (zb_5 G a ++ ((zb_L G a.2.2.1 u.2) ++ ((zb_M G a.2.2.1 u.2) ++ zb_H G a.2.2.2.2.1.1 a.2.2.2.2.1.2.1 a.2.2.2.2.1.2.2 u.1.2.2 (nI u.1.1) (nI u.1.2.1)))) H := hP
    have hD : va_D A (zb_5 G a ++ ((zb_L G a.2.2.1 u.2) ++ ((zb_M G a.2.2.1 u.2) ++ zb_H G a.2.2.2.2.1.1 a.2.2.2.2.1.2.1 a.2.2.2.2.1.2.2 u.1.2.2 (nI u.1.1) (nI u.1.2.1)))) := hD
    rw [hQ]
    refine vx_ret ?_
    exact zk_reti (some u) rfl hx hb hr hlocks hS hP hD (Nat.le_of_ble_eq_true rfl) (Nat.le_of_ble_eq_true rfl) dL_tryCome_6 (hpost)

abbrev rmL_tryMenu : Room := { frames := 9, cells := 2, slots := 12, locals := 146 }
set_option maxHeartbeats 4000000 in
set_option maxRecDepth 100000 in
theorem c_L_tryMenu (l : Launch) (G : zk_G) (hst : l.stackTraces = false) (a : zA) (L : zL) (n t : Nat) (hI : sInv L n t) (d mn : Int32) (S : Nat → zL) (o cn : Nat) (ho : o < 14) (hcn : cn ≤ 14) : zk_IH (S := Option ((Nat × Nat × (Nat → zL)) × zL)) l yL_tryMenu wsL_tryMenu rmL_tryMenu G [.ref a.1, .int d, .int mn] ((zb_5 G a) ++ ((zb_L G a.2.2.1 L) ++ ((zb_M G a.2.2.1 L) ++ zb_H G a.2.2.2.2.1.1 a.2.2.2.2.1.2.1 a.2.2.2.2.1.2.2 S (nI o) (nI cn)))) (fun r u => match u with | some v0 => (fun r u => sfMenu t d mn = 0 ∧ r = L 6 d.toNatClampNeg ∧ u.1 = hRem o cn S L ∧ u.2 = up2 L 6 d.toNatClampNeg mn) r v0 | none => ∃ E, (fun E => (E = "java/lang/IndexOutOfBoundsException" ∧ sfMenu t d mn = nI 1) ∨ (E = "java/lang/IllegalArgumentException" ∧ sfMenu t d mn = nI 2) ∨ (E = "java/lang/IllegalStateException" ∧ sfMenu t d mn = nI 3)) E ∧ zcode E (-9999001) (-9999002) (-9999003) r) (fun u => match u with | some v0 => zb_5 G a ++ ((zb_L G a.2.2.1 v0.2) ++ ((zb_M G a.2.2.1 v0.2) ++ zb_H G a.2.2.2.2.1.1 a.2.2.2.2.1.2.1 a.2.2.2.2.1.2.2 v0.1.2.2 (nI v0.1.1) (nI v0.1.2.1))) | none => (zb_5 G a) ++ ((zb_L G a.2.2.1 L) ++ ((zb_M G a.2.2.1 L) ++ zb_H G a.2.2.2.2.1.1 a.2.2.2.2.1.2.1 a.2.2.2.2.1.2.2 S (nI o) (nI cn)))) := by
  refine zk_bodyIH (cc := cL_tryMenu) (maxL := 4) (ret := (some .int)) (hh := [(0, 6, 7, 13), (0, 6, 11, 27), (0, 6, 15, 16)]) (by decide) rfl (Nat.le_of_ble_eq_true rfl) ?_
  intro p E0 s m args below meth cd A ls Q hF hNC hTab hQ
  obtain ⟨hx, hb, hml, hr, hts, hown, hlocks, -, hE, hP, hD, hS, hA, hA0, hl⟩ := hF
  have hK := hE.1
  have hl : lv_has ls 4 [(0, .ref a.1), (1, .int d), (2, .int mn)] := hl
  have w1 := hts _ (List.mem_of_getElem? (l := wsL_tryMenu) (i := 1) (a := Cond.classLink RL 13 "java/lang/IndexOutOfBoundsException") rfl)
  have w4 := hts _ (List.mem_of_getElem? (l := wsL_tryMenu) (i := 4) (a := Cond.constant RL 15 (-9999001)) rfl)
  have w2 := hts _ (List.mem_of_getElem? (l := wsL_tryMenu) (i := 2) (a := Cond.classLink RL 27 "java/lang/IllegalArgumentException") rfl)
  have w5 := hts _ (List.mem_of_getElem? (l := wsL_tryMenu) (i := 5) (a := Cond.constant RL 29 (-9999002)) rfl)
  have w3 := hts _ (List.mem_of_getElem? (l := wsL_tryMenu) (i := 3) (a := Cond.classLink RL 16 "java/lang/IllegalStateException") rfl)
  have w6 := hts _ (List.mem_of_getElem? (l := wsL_tryMenu) (i := 6) (a := Cond.constant RL 18 (-9999003)) rfl)
  refine lv_aload_n hx hb dL_tryMenu_0 rfl (lv_at hl 0 rfl) ?_
  refine lv_iload_n hx hb dL_tryMenu_1 rfl (lv_at hl 1 rfl) ?_
  refine lv_iload_n hx hb dL_tryMenu_2 rfl (lv_at hl 2 rfl) ?_
  have hP0 : va_P G.1 vwCl (((zb_5 G a) ++ ((zb_L G a.2.2.1 L) ++ ((zb_M G a.2.2.1 L) ++ zb_H G a.2.2.2.2.1.1 a.2.2.2.2.1.2.1 a.2.2.2.2.1.2.2 S (nI o) (nI cn)))) ++ ([] : va_W)) s.heap := by rw [List.append_nil]; exact hP
  have hD0 : va_D A (((zb_5 G a) ++ ((zb_L G a.2.2.1 L) ++ ((zb_M G a.2.2.1 L) ++ zb_H G a.2.2.2.2.1.1 a.2.2.2.2.1.2.1 a.2.2.2.2.1.2.2 S (nI o) (nI cn)))) ++ ([] : va_W)) := by rw [List.append_nil]; exact hD
  refine zk_callXIc (wr := ([] : va_W)) (vx_runV (As := [.int d, .int mn]) (rest := []) ⟨hx, hb, hml, hown, hts⟩ (c_X5_menu l G hst a L n t hI d mn S o cn ho hcn _) (cwV 2 hts gL_tryMenu_X5_menu rfl rfl rfl (by decide +kernel) ⟨Nat.le_of_ble_eq_true rfl, Nat.le_of_ble_eq_true rfl⟩) (zk_preV hE hA0 hS (zk_Papp hP0).1 (zk_Dapp hD0).1 (va_recv hK hP0 (ci := 4) (q0 := 0) rfl rfl)) rfl rfl hl.1 rfl (lv_room (Nat.le_of_ble_eq_true rfl)) dL_tryMenu_3 ⟨Nat.le_of_ble_eq_true rfl, Nat.le_of_ble_eq_true rfl⟩) hP0 hD0 hS hA (fun E ce q9 H locs hpx hP hD hS hce hcv hcl => ?_) (fun r u H locs hpost hP hD hS => ?_)
  · rw [List.append_nil] at hP hD
    have hpx2 := hpx
    rcases hpx with ⟨rfl, hno⟩ | ⟨rfl, hno⟩ | ⟨rfl, hno⟩
    · refine vx_catch hown [] ⟨0, 6, 7, 13⟩ [⟨0, 6, 11, 27⟩, ⟨0, 6, 15, 16⟩] (by rw [hTab]; rfl) (fun z hz => absurd hz List.not_mem_nil) (by decide) (by decide) w1 (va_Nw.use rfl hE.2.1.2.2.2.2.2.2.2.2.2.2.1) hce hcv hcl ?_
      have hP : va_P G.1 vwCl ((zb_5 G a) ++ ((zb_L G a.2.2.1 L) ++ ((zb_M G a.2.2.1 L) ++ zb_H G a.2.2.2.2.1.1 a.2.2.2.2.1.2.1 a.2.2.2.2.1.2.2 S (nI o) (nI cn)))) H := hP
      have hD : va_D A ((zb_5 G a) ++ ((zb_L G a.2.2.1 L) ++ ((zb_M G a.2.2.1 L) ++ zb_H G a.2.2.2.2.1.1 a.2.2.2.2.1.2.1 a.2.2.2.2.1.2.2 S (nI o) (nI cn)))) := hD
      refine lv_astore_n (lv' := [(3, .ref q9), (0, .ref a.1), (1, .int d), (2, .int mn)]) hx hb dL_tryMenu_7 rfl hl (by decide) rfl (fun ls hl => ?_)
      refine lv_ldc hx hb (v := (-9999001)) hown w4 dL_tryMenu_8 ?_
      rw [hQ]
      refine vx_ret ?_
      exact zk_reti none rfl hx hb hr hlocks hS hP hD (Nat.le_of_ble_eq_true rfl) (Nat.le_of_ble_eq_true rfl) dL_tryMenu_10 (⟨"java/lang/IndexOutOfBoundsException", hpx2, zc_1 _ _ _⟩)
    · refine vx_catch hown [⟨0, 6, 7, 13⟩] ⟨0, 6, 11, 27⟩ [⟨0, 6, 15, 16⟩] (by rw [hTab]; rfl) (List.forall_mem_cons.mpr ⟨Or.inr ⟨by decide, "java/lang/IndexOutOfBoundsException", w1, hNC.1.2⟩, fun z hz => absurd hz List.not_mem_nil⟩) (by decide) (by decide) w2 (va_Nw.use rfl hE.2.1.2.2.2.2.2.2.2.2.2.2.2.1) hce hcv hcl ?_
      have hP : va_P G.1 vwCl ((zb_5 G a) ++ ((zb_L G a.2.2.1 L) ++ ((zb_M G a.2.2.1 L) ++ zb_H G a.2.2.2.2.1.1 a.2.2.2.2.1.2.1 a.2.2.2.2.1.2.2 S (nI o) (nI cn)))) H := hP
      have hD : va_D A ((zb_5 G a) ++ ((zb_L G a.2.2.1 L) ++ ((zb_M G a.2.2.1 L) ++ zb_H G a.2.2.2.2.1.1 a.2.2.2.2.1.2.1 a.2.2.2.2.1.2.2 S (nI o) (nI cn)))) := hD
      refine lv_astore_n (lv' := [(3, .ref q9), (0, .ref a.1), (1, .int d), (2, .int mn)]) hx hb dL_tryMenu_11 rfl hl (by decide) rfl (fun ls hl => ?_)
      refine lv_ldc hx hb (v := (-9999002)) hown w5 dL_tryMenu_12 ?_
      rw [hQ]
      refine vx_ret ?_
      exact zk_reti none rfl hx hb hr hlocks hS hP hD (Nat.le_of_ble_eq_true rfl) (Nat.le_of_ble_eq_true rfl) dL_tryMenu_14 (⟨"java/lang/IllegalArgumentException", hpx2, zc_2 _ _ _⟩)
    · refine vx_catch hown [⟨0, 6, 7, 13⟩, ⟨0, 6, 11, 27⟩] ⟨0, 6, 15, 16⟩ [] (by rw [hTab]; rfl) (List.forall_mem_cons.mpr ⟨Or.inr ⟨by decide, "java/lang/IndexOutOfBoundsException", w1, hNC.2.1.2⟩, List.forall_mem_cons.mpr ⟨Or.inr ⟨by decide, "java/lang/IllegalArgumentException", w2, hNC.2.1.1⟩, fun z hz => absurd hz List.not_mem_nil⟩⟩) (by decide) (by decide) w3 (va_Nw.use rfl hE.2.1.2.2.2.2.2.2.2.2.2.2.2.2) hce hcv hcl ?_
      have hP : va_P G.1 vwCl ((zb_5 G a) ++ ((zb_L G a.2.2.1 L) ++ ((zb_M G a.2.2.1 L) ++ zb_H G a.2.2.2.2.1.1 a.2.2.2.2.1.2.1 a.2.2.2.2.1.2.2 S (nI o) (nI cn)))) H := hP
      have hD : va_D A ((zb_5 G a) ++ ((zb_L G a.2.2.1 L) ++ ((zb_M G a.2.2.1 L) ++ zb_H G a.2.2.2.2.1.1 a.2.2.2.2.1.2.1 a.2.2.2.2.1.2.2 S (nI o) (nI cn)))) := hD
      refine lv_astore_n (lv' := [(3, .ref q9), (0, .ref a.1), (1, .int d), (2, .int mn)]) hx hb dL_tryMenu_15 rfl hl (by decide) rfl (fun ls hl => ?_)
      refine lv_ldc hx hb (v := (-9999003)) hown w6 dL_tryMenu_16 ?_
      rw [hQ]
      refine vx_ret ?_
      exact zk_reti none rfl hx hb hr hlocks hS hP hD (Nat.le_of_ble_eq_true rfl) (Nat.le_of_ble_eq_true rfl) dL_tryMenu_18 (⟨"java/lang/IllegalStateException", hpx2, zc_3 _ _ _⟩)
  · rw [List.append_nil] at hP hD
    have hP : va_P G.1 vwCl (zb_5 G a ++ ((zb_L G a.2.2.1 u.2) ++ ((zb_M G a.2.2.1 u.2) ++ zb_H G a.2.2.2.2.1.1 a.2.2.2.2.1.2.1 a.2.2.2.2.1.2.2 u.1.2.2 (nI u.1.1) (nI u.1.2.1)))) H := hP
    have hD : va_D A (zb_5 G a ++ ((zb_L G a.2.2.1 u.2) ++ ((zb_M G a.2.2.1 u.2) ++ zb_H G a.2.2.2.2.1.1 a.2.2.2.2.1.2.1 a.2.2.2.2.1.2.2 u.1.2.2 (nI u.1.1) (nI u.1.2.1)))) := hD
    rw [hQ]
    refine vx_ret ?_
    exact zk_reti (some u) rfl hx hb hr hlocks hS hP hD (Nat.le_of_ble_eq_true rfl) (Nat.le_of_ble_eq_true rfl) dL_tryMenu_6 (hpost)

abbrev rmL_tryOrder : Room := { frames := 9, cells := 2, slots := 12, locals := 147 }
set_option maxHeartbeats 4000000 in
set_option maxRecDepth 100000 in
theorem c_L_tryOrder (l : Launch) (G : zk_G) (hst : l.stackTraces = false) (a : zA) (L : zL) (n t : Nat) (hI : sInv L n t) (c d b : Int32) (S : Nat → zL) (o cn : Nat) (ho : o < 14) (hcn : cn ≤ 14) : zk_IH (S := Option ((Nat × Nat × (Nat → zL)) × zL)) l yL_tryOrder wsL_tryOrder rmL_tryOrder G [.ref a.1, .int c, .int d, .int b] ((zb_5 G a) ++ ((zb_L G a.2.2.1 L) ++ ((zb_M G a.2.2.1 L) ++ zb_H G a.2.2.2.2.1.1 a.2.2.2.2.1.2.1 a.2.2.2.2.1.2.2 S (nI o) (nI cn)))) (fun r u => match u with | some v0 => (fun r u => sfOrder L t c d = 0 ∧ r = sOrdN u.2 d.toNatClampNeg ∧ u.1 = hRem o cn S L ∧ u.2 = sOrd L (c.toNatClampNeg * 40 + d.toNatClampNeg) b) r v0 | none => ∃ E, (fun E => (E = "java/lang/IndexOutOfBoundsException" ∧ sfOrder L t c d = nI 1) ∨ (E = "java/lang/IllegalArgumentException" ∧ sfOrder L t c d = nI 2) ∨ (E = "java/lang/IllegalStateException" ∧ sfOrder L t c d = nI 3)) E ∧ zcode E (-9999001) (-9999002) (-9999003) r) (fun u => match u with | some v0 => zb_5 G a ++ ((zb_L G a.2.2.1 v0.2) ++ ((zb_M G a.2.2.1 v0.2) ++ zb_H G a.2.2.2.2.1.1 a.2.2.2.2.1.2.1 a.2.2.2.2.1.2.2 v0.1.2.2 (nI v0.1.1) (nI v0.1.2.1))) | none => (zb_5 G a) ++ ((zb_L G a.2.2.1 L) ++ ((zb_M G a.2.2.1 L) ++ zb_H G a.2.2.2.2.1.1 a.2.2.2.2.1.2.1 a.2.2.2.2.1.2.2 S (nI o) (nI cn)))) := by
  refine zk_bodyIH (cc := cL_tryOrder) (maxL := 5) (ret := (some .int)) (hh := [(0, 7, 8, 13), (0, 7, 13, 16)]) (by decide) rfl (Nat.le_of_ble_eq_true rfl) ?_
  intro p E0 s m args below meth cd A ls Q hF hNC hTab hQ
  obtain ⟨hx, hb, hml, hr, hts, hown, hlocks, -, hE, hP, hD, hS, hA, hA0, hl⟩ := hF
  have hK := hE.1
  have hl : lv_has ls 5 [(0, .ref a.1), (1, .int c), (2, .int d), (3, .int b)] := hl
  have w1 := hts _ (List.mem_of_getElem? (l := wsL_tryOrder) (i := 1) (a := Cond.classLink RL 13 "java/lang/IndexOutOfBoundsException") rfl)
  have w3 := hts _ (List.mem_of_getElem? (l := wsL_tryOrder) (i := 3) (a := Cond.constant RL 15 (-9999001)) rfl)
  have w2 := hts _ (List.mem_of_getElem? (l := wsL_tryOrder) (i := 2) (a := Cond.classLink RL 16 "java/lang/IllegalStateException") rfl)
  have w4 := hts _ (List.mem_of_getElem? (l := wsL_tryOrder) (i := 4) (a := Cond.constant RL 18 (-9999003)) rfl)
  refine lv_aload_n hx hb dL_tryOrder_0 rfl (lv_at hl 0 rfl) ?_
  refine lv_iload_n hx hb dL_tryOrder_1 rfl (lv_at hl 1 rfl) ?_
  refine lv_iload_n hx hb dL_tryOrder_2 rfl (lv_at hl 2 rfl) ?_
  refine lv_iload_n hx hb dL_tryOrder_3 rfl (lv_at hl 3 rfl) ?_
  have hP0 : va_P G.1 vwCl (((zb_5 G a) ++ ((zb_L G a.2.2.1 L) ++ ((zb_M G a.2.2.1 L) ++ zb_H G a.2.2.2.2.1.1 a.2.2.2.2.1.2.1 a.2.2.2.2.1.2.2 S (nI o) (nI cn)))) ++ ([] : va_W)) s.heap := by rw [List.append_nil]; exact hP
  have hD0 : va_D A (((zb_5 G a) ++ ((zb_L G a.2.2.1 L) ++ ((zb_M G a.2.2.1 L) ++ zb_H G a.2.2.2.2.1.1 a.2.2.2.2.1.2.1 a.2.2.2.2.1.2.2 S (nI o) (nI cn)))) ++ ([] : va_W)) := by rw [List.append_nil]; exact hD
  refine zk_callXIc (wr := ([] : va_W)) (vx_runV (As := [.int c, .int d, .int b]) (rest := []) ⟨hx, hb, hml, hown, hts⟩ (c_X5_order l G hst a L n t hI c d b S o cn ho hcn _) (cwV 3 hts gL_tryOrder_X5_order rfl rfl rfl (by decide +kernel) ⟨Nat.le_of_ble_eq_true rfl, Nat.le_of_ble_eq_true rfl⟩) (zk_preV hE hA0 hS (zk_Papp hP0).1 (zk_Dapp hD0).1 (va_recv hK hP0 (ci := 4) (q0 := 0) rfl rfl)) rfl rfl hl.1 rfl (lv_room (Nat.le_of_ble_eq_true rfl)) dL_tryOrder_4 ⟨Nat.le_of_ble_eq_true rfl, Nat.le_of_ble_eq_true rfl⟩) hP0 hD0 hS hA (fun E ce q9 H locs hpx hP hD hS hce hcv hcl => ?_) (fun r u H locs hpost hP hD hS => ?_)
  · rw [List.append_nil] at hP hD
    have hpx2 := hpx
    rcases hpx with ⟨rfl, hno⟩ | ⟨rfl, hno⟩ | ⟨rfl, hno⟩
    · refine vx_catch hown [] ⟨0, 7, 8, 13⟩ [⟨0, 7, 13, 16⟩] (by rw [hTab]; rfl) (fun z hz => absurd hz List.not_mem_nil) (by decide) (by decide) w1 (va_Nw.use rfl hE.2.1.2.2.2.2.2.2.2.2.2.2.1) hce hcv hcl ?_
      have hP : va_P G.1 vwCl ((zb_5 G a) ++ ((zb_L G a.2.2.1 L) ++ ((zb_M G a.2.2.1 L) ++ zb_H G a.2.2.2.2.1.1 a.2.2.2.2.1.2.1 a.2.2.2.2.1.2.2 S (nI o) (nI cn)))) H := hP
      have hD : va_D A ((zb_5 G a) ++ ((zb_L G a.2.2.1 L) ++ ((zb_M G a.2.2.1 L) ++ zb_H G a.2.2.2.2.1.1 a.2.2.2.2.1.2.1 a.2.2.2.2.1.2.2 S (nI o) (nI cn)))) := hD
      refine lv_astore (lv' := [(4, .ref q9), (0, .ref a.1), (1, .int c), (2, .int d), (3, .int b)]) hx hb dL_tryOrder_8 hl (by decide) rfl (fun ls hl => ?_)
      refine lv_ldc hx hb (v := (-9999001)) hown w3 dL_tryOrder_10 ?_
      rw [hQ]
      refine vx_ret ?_
      exact zk_reti none rfl hx hb hr hlocks hS hP hD (Nat.le_of_ble_eq_true rfl) (Nat.le_of_ble_eq_true rfl) dL_tryOrder_12 (⟨"java/lang/IndexOutOfBoundsException", hpx2, zc_1 _ _ _⟩)
    · exact absurd hno (by unfold sfOrder; (repeat' split) <;> decide)
    · refine vx_catch hown [⟨0, 7, 8, 13⟩] ⟨0, 7, 13, 16⟩ [] (by rw [hTab]; rfl) (List.forall_mem_cons.mpr ⟨Or.inr ⟨by decide, "java/lang/IndexOutOfBoundsException", w1, hNC.2.1.2⟩, fun z hz => absurd hz List.not_mem_nil⟩) (by decide) (by decide) w2 (va_Nw.use rfl hE.2.1.2.2.2.2.2.2.2.2.2.2.2.2) hce hcv hcl ?_
      have hP : va_P G.1 vwCl ((zb_5 G a) ++ ((zb_L G a.2.2.1 L) ++ ((zb_M G a.2.2.1 L) ++ zb_H G a.2.2.2.2.1.1 a.2.2.2.2.1.2.1 a.2.2.2.2.1.2.2 S (nI o) (nI cn)))) H := hP
      have hD : va_D A ((zb_5 G a) ++ ((zb_L G a.2.2.1 L) ++ ((zb_M G a.2.2.1 L) ++ zb_H G a.2.2.2.2.1.1 a.2.2.2.2.1.2.1 a.2.2.2.2.1.2.2 S (nI o) (nI cn)))) := hD
      refine lv_astore (lv' := [(4, .ref q9), (0, .ref a.1), (1, .int c), (2, .int d), (3, .int b)]) hx hb dL_tryOrder_13 hl (by decide) rfl (fun ls hl => ?_)
      refine lv_ldc hx hb (v := (-9999003)) hown w4 dL_tryOrder_15 ?_
      rw [hQ]
      refine vx_ret ?_
      exact zk_reti none rfl hx hb hr hlocks hS hP hD (Nat.le_of_ble_eq_true rfl) (Nat.le_of_ble_eq_true rfl) dL_tryOrder_17 (⟨"java/lang/IllegalStateException", hpx2, zc_3 _ _ _⟩)
  · rw [List.append_nil] at hP hD
    have hP : va_P G.1 vwCl (zb_5 G a ++ ((zb_L G a.2.2.1 u.2) ++ ((zb_M G a.2.2.1 u.2) ++ zb_H G a.2.2.2.2.1.1 a.2.2.2.2.1.2.1 a.2.2.2.2.1.2.2 u.1.2.2 (nI u.1.1) (nI u.1.2.1)))) H := hP
    have hD : va_D A (zb_5 G a ++ ((zb_L G a.2.2.1 u.2) ++ ((zb_M G a.2.2.1 u.2) ++ zb_H G a.2.2.2.2.1.1 a.2.2.2.2.1.2.1 a.2.2.2.2.1.2.2 u.1.2.2 (nI u.1.1) (nI u.1.2.1)))) := hD
    rw [hQ]
    refine vx_ret ?_
    exact zk_reti (some u) rfl hx hb hr hlocks hS hP hD (Nat.le_of_ble_eq_true rfl) (Nat.le_of_ble_eq_true rfl) dL_tryOrder_7 (hpost)

abbrev rmL_tryPay : Room := { frames := 9, cells := 2, slots := 12, locals := 146 }
set_option maxHeartbeats 4000000 in
set_option maxRecDepth 100000 in
theorem c_L_tryPay (l : Launch) (G : zk_G) (hst : l.stackTraces = false) (a : zA) (L : zL) (n t : Nat) (hI : sInv L n t) (c am : Int32) (S : Nat → zL) (o cn : Nat) (ho : o < 14) (hcn : cn ≤ 14) : zk_IH (S := Option ((Nat × Nat × (Nat → zL)) × zL)) l yL_tryPay wsL_tryPay rmL_tryPay G [.ref a.1, .int c, .int am] ((zb_5 G a) ++ ((zb_L G a.2.2.1 L) ++ ((zb_M G a.2.2.1 L) ++ zb_H G a.2.2.2.2.1.1 a.2.2.2.2.1.2.1 a.2.2.2.2.1.2.2 S (nI o) (nI cn)))) (fun r u => match u with | some v0 => (fun r u => sfPay L c am = 0 ∧ r = u.2 3 c.toNatClampNeg ∧ u.1 = hRem o cn S L ∧ u.2 = sPay L c.toNatClampNeg am) r v0 | none => ∃ E, (fun E => (E = "java/lang/IndexOutOfBoundsException" ∧ sfPay L c am = nI 1) ∨ (E = "java/lang/IllegalArgumentException" ∧ sfPay L c am = nI 2) ∨ (E = "java/lang/IllegalStateException" ∧ sfPay L c am = nI 3)) E ∧ zcode E (-9999001) (-9999002) (-9999003) r) (fun u => match u with | some v0 => zb_5 G a ++ ((zb_L G a.2.2.1 v0.2) ++ ((zb_M G a.2.2.1 v0.2) ++ zb_H G a.2.2.2.2.1.1 a.2.2.2.2.1.2.1 a.2.2.2.2.1.2.2 v0.1.2.2 (nI v0.1.1) (nI v0.1.2.1))) | none => (zb_5 G a) ++ ((zb_L G a.2.2.1 L) ++ ((zb_M G a.2.2.1 L) ++ zb_H G a.2.2.2.2.1.1 a.2.2.2.2.1.2.1 a.2.2.2.2.1.2.2 S (nI o) (nI cn)))) := by
  refine zk_bodyIH (cc := cL_tryPay) (maxL := 4) (ret := (some .int)) (hh := [(0, 6, 7, 13), (0, 6, 11, 27), (0, 6, 15, 16)]) (by decide) rfl (Nat.le_of_ble_eq_true rfl) ?_
  intro p E0 s m args below meth cd A ls Q hF hNC hTab hQ
  obtain ⟨hx, hb, hml, hr, hts, hown, hlocks, -, hE, hP, hD, hS, hA, hA0, hl⟩ := hF
  have hK := hE.1
  have hl : lv_has ls 4 [(0, .ref a.1), (1, .int c), (2, .int am)] := hl
  have w1 := hts _ (List.mem_of_getElem? (l := wsL_tryPay) (i := 1) (a := Cond.classLink RL 13 "java/lang/IndexOutOfBoundsException") rfl)
  have w4 := hts _ (List.mem_of_getElem? (l := wsL_tryPay) (i := 4) (a := Cond.constant RL 15 (-9999001)) rfl)
  have w2 := hts _ (List.mem_of_getElem? (l := wsL_tryPay) (i := 2) (a := Cond.classLink RL 27 "java/lang/IllegalArgumentException") rfl)
  have w5 := hts _ (List.mem_of_getElem? (l := wsL_tryPay) (i := 5) (a := Cond.constant RL 29 (-9999002)) rfl)
  have w3 := hts _ (List.mem_of_getElem? (l := wsL_tryPay) (i := 3) (a := Cond.classLink RL 16 "java/lang/IllegalStateException") rfl)
  have w6 := hts _ (List.mem_of_getElem? (l := wsL_tryPay) (i := 6) (a := Cond.constant RL 18 (-9999003)) rfl)
  refine lv_aload_n hx hb dL_tryPay_0 rfl (lv_at hl 0 rfl) ?_
  refine lv_iload_n hx hb dL_tryPay_1 rfl (lv_at hl 1 rfl) ?_
  refine lv_iload_n hx hb dL_tryPay_2 rfl (lv_at hl 2 rfl) ?_
  have hP0 : va_P G.1 vwCl (((zb_5 G a) ++ ((zb_L G a.2.2.1 L) ++ ((zb_M G a.2.2.1 L) ++ zb_H G a.2.2.2.2.1.1 a.2.2.2.2.1.2.1 a.2.2.2.2.1.2.2 S (nI o) (nI cn)))) ++ ([] : va_W)) s.heap := by rw [List.append_nil]; exact hP
  have hD0 : va_D A (((zb_5 G a) ++ ((zb_L G a.2.2.1 L) ++ ((zb_M G a.2.2.1 L) ++ zb_H G a.2.2.2.2.1.1 a.2.2.2.2.1.2.1 a.2.2.2.2.1.2.2 S (nI o) (nI cn)))) ++ ([] : va_W)) := by rw [List.append_nil]; exact hD
  refine zk_callXIc (wr := ([] : va_W)) (vx_runV (As := [.int c, .int am]) (rest := []) ⟨hx, hb, hml, hown, hts⟩ (c_X5_pay l G hst a L n t hI c am S o cn ho hcn _) (cwV 2 hts gL_tryPay_X5_pay rfl rfl rfl (by decide +kernel) ⟨Nat.le_of_ble_eq_true rfl, Nat.le_of_ble_eq_true rfl⟩) (zk_preV hE hA0 hS (zk_Papp hP0).1 (zk_Dapp hD0).1 (va_recv hK hP0 (ci := 4) (q0 := 0) rfl rfl)) rfl rfl hl.1 rfl (lv_room (Nat.le_of_ble_eq_true rfl)) dL_tryPay_3 ⟨Nat.le_of_ble_eq_true rfl, Nat.le_of_ble_eq_true rfl⟩) hP0 hD0 hS hA (fun E ce q9 H locs hpx hP hD hS hce hcv hcl => ?_) (fun r u H locs hpost hP hD hS => ?_)
  · rw [List.append_nil] at hP hD
    have hpx2 := hpx
    rcases hpx with ⟨rfl, hno⟩ | ⟨rfl, hno⟩ | ⟨rfl, hno⟩
    · refine vx_catch hown [] ⟨0, 6, 7, 13⟩ [⟨0, 6, 11, 27⟩, ⟨0, 6, 15, 16⟩] (by rw [hTab]; rfl) (fun z hz => absurd hz List.not_mem_nil) (by decide) (by decide) w1 (va_Nw.use rfl hE.2.1.2.2.2.2.2.2.2.2.2.2.1) hce hcv hcl ?_
      have hP : va_P G.1 vwCl ((zb_5 G a) ++ ((zb_L G a.2.2.1 L) ++ ((zb_M G a.2.2.1 L) ++ zb_H G a.2.2.2.2.1.1 a.2.2.2.2.1.2.1 a.2.2.2.2.1.2.2 S (nI o) (nI cn)))) H := hP
      have hD : va_D A ((zb_5 G a) ++ ((zb_L G a.2.2.1 L) ++ ((zb_M G a.2.2.1 L) ++ zb_H G a.2.2.2.2.1.1 a.2.2.2.2.1.2.1 a.2.2.2.2.1.2.2 S (nI o) (nI cn)))) := hD
      refine lv_astore_n (lv' := [(3, .ref q9), (0, .ref a.1), (1, .int c), (2, .int am)]) hx hb dL_tryPay_7 rfl hl (by decide) rfl (fun ls hl => ?_)
      refine lv_ldc hx hb (v := (-9999001)) hown w4 dL_tryPay_8 ?_
      rw [hQ]
      refine vx_ret ?_
      exact zk_reti none rfl hx hb hr hlocks hS hP hD (Nat.le_of_ble_eq_true rfl) (Nat.le_of_ble_eq_true rfl) dL_tryPay_10 (⟨"java/lang/IndexOutOfBoundsException", hpx2, zc_1 _ _ _⟩)
    · refine vx_catch hown [⟨0, 6, 7, 13⟩] ⟨0, 6, 11, 27⟩ [⟨0, 6, 15, 16⟩] (by rw [hTab]; rfl) (List.forall_mem_cons.mpr ⟨Or.inr ⟨by decide, "java/lang/IndexOutOfBoundsException", w1, hNC.1.2⟩, fun z hz => absurd hz List.not_mem_nil⟩) (by decide) (by decide) w2 (va_Nw.use rfl hE.2.1.2.2.2.2.2.2.2.2.2.2.2.1) hce hcv hcl ?_
      have hP : va_P G.1 vwCl ((zb_5 G a) ++ ((zb_L G a.2.2.1 L) ++ ((zb_M G a.2.2.1 L) ++ zb_H G a.2.2.2.2.1.1 a.2.2.2.2.1.2.1 a.2.2.2.2.1.2.2 S (nI o) (nI cn)))) H := hP
      have hD : va_D A ((zb_5 G a) ++ ((zb_L G a.2.2.1 L) ++ ((zb_M G a.2.2.1 L) ++ zb_H G a.2.2.2.2.1.1 a.2.2.2.2.1.2.1 a.2.2.2.2.1.2.2 S (nI o) (nI cn)))) := hD
      refine lv_astore_n (lv' := [(3, .ref q9), (0, .ref a.1), (1, .int c), (2, .int am)]) hx hb dL_tryPay_11 rfl hl (by decide) rfl (fun ls hl => ?_)
      refine lv_ldc hx hb (v := (-9999002)) hown w5 dL_tryPay_12 ?_
      rw [hQ]
      refine vx_ret ?_
      exact zk_reti none rfl hx hb hr hlocks hS hP hD (Nat.le_of_ble_eq_true rfl) (Nat.le_of_ble_eq_true rfl) dL_tryPay_14 (⟨"java/lang/IllegalArgumentException", hpx2, zc_2 _ _ _⟩)
    · refine vx_catch hown [⟨0, 6, 7, 13⟩, ⟨0, 6, 11, 27⟩] ⟨0, 6, 15, 16⟩ [] (by rw [hTab]; rfl) (List.forall_mem_cons.mpr ⟨Or.inr ⟨by decide, "java/lang/IndexOutOfBoundsException", w1, hNC.2.1.2⟩, List.forall_mem_cons.mpr ⟨Or.inr ⟨by decide, "java/lang/IllegalArgumentException", w2, hNC.2.1.1⟩, fun z hz => absurd hz List.not_mem_nil⟩⟩) (by decide) (by decide) w3 (va_Nw.use rfl hE.2.1.2.2.2.2.2.2.2.2.2.2.2.2) hce hcv hcl ?_
      have hP : va_P G.1 vwCl ((zb_5 G a) ++ ((zb_L G a.2.2.1 L) ++ ((zb_M G a.2.2.1 L) ++ zb_H G a.2.2.2.2.1.1 a.2.2.2.2.1.2.1 a.2.2.2.2.1.2.2 S (nI o) (nI cn)))) H := hP
      have hD : va_D A ((zb_5 G a) ++ ((zb_L G a.2.2.1 L) ++ ((zb_M G a.2.2.1 L) ++ zb_H G a.2.2.2.2.1.1 a.2.2.2.2.1.2.1 a.2.2.2.2.1.2.2 S (nI o) (nI cn)))) := hD
      refine lv_astore_n (lv' := [(3, .ref q9), (0, .ref a.1), (1, .int c), (2, .int am)]) hx hb dL_tryPay_15 rfl hl (by decide) rfl (fun ls hl => ?_)
      refine lv_ldc hx hb (v := (-9999003)) hown w6 dL_tryPay_16 ?_
      rw [hQ]
      refine vx_ret ?_
      exact zk_reti none rfl hx hb hr hlocks hS hP hD (Nat.le_of_ble_eq_true rfl) (Nat.le_of_ble_eq_true rfl) dL_tryPay_18 (⟨"java/lang/IllegalStateException", hpx2, zc_3 _ _ _⟩)
  · rw [List.append_nil] at hP hD
    have hP : va_P G.1 vwCl (zb_5 G a ++ ((zb_L G a.2.2.1 u.2) ++ ((zb_M G a.2.2.1 u.2) ++ zb_H G a.2.2.2.2.1.1 a.2.2.2.2.1.2.1 a.2.2.2.2.1.2.2 u.1.2.2 (nI u.1.1) (nI u.1.2.1)))) H := hP
    have hD : va_D A (zb_5 G a ++ ((zb_L G a.2.2.1 u.2) ++ ((zb_M G a.2.2.1 u.2) ++ zb_H G a.2.2.2.2.1.1 a.2.2.2.2.1.2.1 a.2.2.2.2.1.2.2 u.1.2.2 (nI u.1.1) (nI u.1.2.1)))) := hD
    rw [hQ]
    refine vx_ret ?_
    exact zk_reti (some u) rfl hx hb hr hlocks hS hP hD (Nat.le_of_ble_eq_true rfl) (Nat.le_of_ble_eq_true rfl) dL_tryPay_6 (hpost)

abbrev rmL_tryMove : Room := { frames := 9, cells := 2, slots := 12, locals := 147 }
set_option maxHeartbeats 4000000 in
set_option maxRecDepth 100000 in
theorem c_L_tryMove (l : Launch) (G : zk_G) (hst : l.stackTraces = false) (a : zA) (L : zL) (n t : Nat) (hI : sInv L n t) (c ot am : Int32) (S : Nat → zL) (o cn : Nat) (ho : o < 14) (hcn : cn ≤ 14) : zk_IH (S := Option ((Nat × Nat × (Nat → zL)) × zL)) l yL_tryMove wsL_tryMove rmL_tryMove G [.ref a.1, .int c, .int ot, .int am] ((zb_5 G a) ++ ((zb_L G a.2.2.1 L) ++ ((zb_M G a.2.2.1 L) ++ zb_H G a.2.2.2.2.1.1 a.2.2.2.2.1.2.1 a.2.2.2.2.1.2.2 S (nI o) (nI cn)))) (fun r u => match u with | some v0 => (fun r u => sfMove L c ot am = 0 ∧ r = u.2 3 c.toNatClampNeg ∧ u.1 = hRem o cn S L ∧ u.2 = sMove L c.toNatClampNeg ot.toNatClampNeg am) r v0 | none => ∃ E, (fun E => (E = "java/lang/IndexOutOfBoundsException" ∧ sfMove L c ot am = nI 1) ∨ (E = "java/lang/IllegalArgumentException" ∧ sfMove L c ot am = nI 2) ∨ (E = "java/lang/IllegalStateException" ∧ sfMove L c ot am = nI 3)) E ∧ zcode E (-9999001) (-9999002) (-9999003) r) (fun u => match u with | some v0 => zb_5 G a ++ ((zb_L G a.2.2.1 v0.2) ++ ((zb_M G a.2.2.1 v0.2) ++ zb_H G a.2.2.2.2.1.1 a.2.2.2.2.1.2.1 a.2.2.2.2.1.2.2 v0.1.2.2 (nI v0.1.1) (nI v0.1.2.1))) | none => (zb_5 G a) ++ ((zb_L G a.2.2.1 L) ++ ((zb_M G a.2.2.1 L) ++ zb_H G a.2.2.2.2.1.1 a.2.2.2.2.1.2.1 a.2.2.2.2.1.2.2 S (nI o) (nI cn)))) := by
  refine zk_bodyIH (cc := cL_tryMove) (maxL := 5) (ret := (some .int)) (hh := [(0, 7, 8, 13), (0, 7, 13, 27), (0, 7, 18, 16)]) (by decide) rfl (Nat.le_of_ble_eq_true rfl) ?_
  intro p E0 s m args below meth cd A ls Q hF hNC hTab hQ
  obtain ⟨hx, hb, hml, hr, hts, hown, hlocks, -, hE, hP, hD, hS, hA, hA0, hl⟩ := hF
  have hK := hE.1
  have hl : lv_has ls 5 [(0, .ref a.1), (1, .int c), (2, .int ot), (3, .int am)] := hl
  have w1 := hts _ (List.mem_of_getElem? (l := wsL_tryMove) (i := 1) (a := Cond.classLink RL 13 "java/lang/IndexOutOfBoundsException") rfl)
  have w4 := hts _ (List.mem_of_getElem? (l := wsL_tryMove) (i := 4) (a := Cond.constant RL 15 (-9999001)) rfl)
  have w2 := hts _ (List.mem_of_getElem? (l := wsL_tryMove) (i := 2) (a := Cond.classLink RL 27 "java/lang/IllegalArgumentException") rfl)
  have w5 := hts _ (List.mem_of_getElem? (l := wsL_tryMove) (i := 5) (a := Cond.constant RL 29 (-9999002)) rfl)
  have w3 := hts _ (List.mem_of_getElem? (l := wsL_tryMove) (i := 3) (a := Cond.classLink RL 16 "java/lang/IllegalStateException") rfl)
  have w6 := hts _ (List.mem_of_getElem? (l := wsL_tryMove) (i := 6) (a := Cond.constant RL 18 (-9999003)) rfl)
  refine lv_aload_n hx hb dL_tryMove_0 rfl (lv_at hl 0 rfl) ?_
  refine lv_iload_n hx hb dL_tryMove_1 rfl (lv_at hl 1 rfl) ?_
  refine lv_iload_n hx hb dL_tryMove_2 rfl (lv_at hl 2 rfl) ?_
  refine lv_iload_n hx hb dL_tryMove_3 rfl (lv_at hl 3 rfl) ?_
  have hP0 : va_P G.1 vwCl (((zb_5 G a) ++ ((zb_L G a.2.2.1 L) ++ ((zb_M G a.2.2.1 L) ++ zb_H G a.2.2.2.2.1.1 a.2.2.2.2.1.2.1 a.2.2.2.2.1.2.2 S (nI o) (nI cn)))) ++ ([] : va_W)) s.heap := by rw [List.append_nil]; exact hP
  have hD0 : va_D A (((zb_5 G a) ++ ((zb_L G a.2.2.1 L) ++ ((zb_M G a.2.2.1 L) ++ zb_H G a.2.2.2.2.1.1 a.2.2.2.2.1.2.1 a.2.2.2.2.1.2.2 S (nI o) (nI cn)))) ++ ([] : va_W)) := by rw [List.append_nil]; exact hD
  refine zk_callXIc (wr := ([] : va_W)) (vx_runV (As := [.int c, .int ot, .int am]) (rest := []) ⟨hx, hb, hml, hown, hts⟩ (c_X5_move l G hst a L n t hI c ot am S o cn ho hcn _) (cwV 3 hts gL_tryMove_X5_move rfl rfl rfl (by decide +kernel) ⟨Nat.le_of_ble_eq_true rfl, Nat.le_of_ble_eq_true rfl⟩) (zk_preV hE hA0 hS (zk_Papp hP0).1 (zk_Dapp hD0).1 (va_recv hK hP0 (ci := 4) (q0 := 0) rfl rfl)) rfl rfl hl.1 rfl (lv_room (Nat.le_of_ble_eq_true rfl)) dL_tryMove_4 ⟨Nat.le_of_ble_eq_true rfl, Nat.le_of_ble_eq_true rfl⟩) hP0 hD0 hS hA (fun E ce q9 H locs hpx hP hD hS hce hcv hcl => ?_) (fun r u H locs hpost hP hD hS => ?_)
  · rw [List.append_nil] at hP hD
    have hpx2 := hpx
    rcases hpx with ⟨rfl, hno⟩ | ⟨rfl, hno⟩ | ⟨rfl, hno⟩
    · refine vx_catch hown [] ⟨0, 7, 8, 13⟩ [⟨0, 7, 13, 27⟩, ⟨0, 7, 18, 16⟩] (by rw [hTab]; rfl) (fun z hz => absurd hz List.not_mem_nil) (by decide) (by decide) w1 (va_Nw.use rfl hE.2.1.2.2.2.2.2.2.2.2.2.2.1) hce hcv hcl ?_
      have hP : va_P G.1 vwCl ((zb_5 G a) ++ ((zb_L G a.2.2.1 L) ++ ((zb_M G a.2.2.1 L) ++ zb_H G a.2.2.2.2.1.1 a.2.2.2.2.1.2.1 a.2.2.2.2.1.2.2 S (nI o) (nI cn)))) H := hP
      have hD : va_D A ((zb_5 G a) ++ ((zb_L G a.2.2.1 L) ++ ((zb_M G a.2.2.1 L) ++ zb_H G a.2.2.2.2.1.1 a.2.2.2.2.1.2.1 a.2.2.2.2.1.2.2 S (nI o) (nI cn)))) := hD
      refine lv_astore (lv' := [(4, .ref q9), (0, .ref a.1), (1, .int c), (2, .int ot), (3, .int am)]) hx hb dL_tryMove_8 hl (by decide) rfl (fun ls hl => ?_)
      refine lv_ldc hx hb (v := (-9999001)) hown w4 dL_tryMove_10 ?_
      rw [hQ]
      refine vx_ret ?_
      exact zk_reti none rfl hx hb hr hlocks hS hP hD (Nat.le_of_ble_eq_true rfl) (Nat.le_of_ble_eq_true rfl) dL_tryMove_12 (⟨"java/lang/IndexOutOfBoundsException", hpx2, zc_1 _ _ _⟩)
    · refine vx_catch hown [⟨0, 7, 8, 13⟩] ⟨0, 7, 13, 27⟩ [⟨0, 7, 18, 16⟩] (by rw [hTab]; rfl) (List.forall_mem_cons.mpr ⟨Or.inr ⟨by decide, "java/lang/IndexOutOfBoundsException", w1, hNC.1.2⟩, fun z hz => absurd hz List.not_mem_nil⟩) (by decide) (by decide) w2 (va_Nw.use rfl hE.2.1.2.2.2.2.2.2.2.2.2.2.2.1) hce hcv hcl ?_
      have hP : va_P G.1 vwCl ((zb_5 G a) ++ ((zb_L G a.2.2.1 L) ++ ((zb_M G a.2.2.1 L) ++ zb_H G a.2.2.2.2.1.1 a.2.2.2.2.1.2.1 a.2.2.2.2.1.2.2 S (nI o) (nI cn)))) H := hP
      have hD : va_D A ((zb_5 G a) ++ ((zb_L G a.2.2.1 L) ++ ((zb_M G a.2.2.1 L) ++ zb_H G a.2.2.2.2.1.1 a.2.2.2.2.1.2.1 a.2.2.2.2.1.2.2 S (nI o) (nI cn)))) := hD
      refine lv_astore (lv' := [(4, .ref q9), (0, .ref a.1), (1, .int c), (2, .int ot), (3, .int am)]) hx hb dL_tryMove_13 hl (by decide) rfl (fun ls hl => ?_)
      refine lv_ldc hx hb (v := (-9999002)) hown w5 dL_tryMove_15 ?_
      rw [hQ]
      refine vx_ret ?_
      exact zk_reti none rfl hx hb hr hlocks hS hP hD (Nat.le_of_ble_eq_true rfl) (Nat.le_of_ble_eq_true rfl) dL_tryMove_17 (⟨"java/lang/IllegalArgumentException", hpx2, zc_2 _ _ _⟩)
    · refine vx_catch hown [⟨0, 7, 8, 13⟩, ⟨0, 7, 13, 27⟩] ⟨0, 7, 18, 16⟩ [] (by rw [hTab]; rfl) (List.forall_mem_cons.mpr ⟨Or.inr ⟨by decide, "java/lang/IndexOutOfBoundsException", w1, hNC.2.1.2⟩, List.forall_mem_cons.mpr ⟨Or.inr ⟨by decide, "java/lang/IllegalArgumentException", w2, hNC.2.1.1⟩, fun z hz => absurd hz List.not_mem_nil⟩⟩) (by decide) (by decide) w3 (va_Nw.use rfl hE.2.1.2.2.2.2.2.2.2.2.2.2.2.2) hce hcv hcl ?_
      have hP : va_P G.1 vwCl ((zb_5 G a) ++ ((zb_L G a.2.2.1 L) ++ ((zb_M G a.2.2.1 L) ++ zb_H G a.2.2.2.2.1.1 a.2.2.2.2.1.2.1 a.2.2.2.2.1.2.2 S (nI o) (nI cn)))) H := hP
      have hD : va_D A ((zb_5 G a) ++ ((zb_L G a.2.2.1 L) ++ ((zb_M G a.2.2.1 L) ++ zb_H G a.2.2.2.2.1.1 a.2.2.2.2.1.2.1 a.2.2.2.2.1.2.2 S (nI o) (nI cn)))) := hD
      refine lv_astore (lv' := [(4, .ref q9), (0, .ref a.1), (1, .int c), (2, .int ot), (3, .int am)]) hx hb dL_tryMove_18 hl (by decide) rfl (fun ls hl => ?_)
      refine lv_ldc hx hb (v := (-9999003)) hown w6 dL_tryMove_20 ?_
      rw [hQ]
      refine vx_ret ?_
      exact zk_reti none rfl hx hb hr hlocks hS hP hD (Nat.le_of_ble_eq_true rfl) (Nat.le_of_ble_eq_true rfl) dL_tryMove_22 (⟨"java/lang/IllegalStateException", hpx2, zc_3 _ _ _⟩)
  · rw [List.append_nil] at hP hD
    have hP : va_P G.1 vwCl (zb_5 G a ++ ((zb_L G a.2.2.1 u.2) ++ ((zb_M G a.2.2.1 u.2) ++ zb_H G a.2.2.2.2.1.1 a.2.2.2.2.1.2.1 a.2.2.2.2.1.2.2 u.1.2.2 (nI u.1.1) (nI u.1.2.1)))) H := hP
    have hD : va_D A (zb_5 G a ++ ((zb_L G a.2.2.1 u.2) ++ ((zb_M G a.2.2.1 u.2) ++ zb_H G a.2.2.2.2.1.1 a.2.2.2.2.1.2.1 a.2.2.2.2.1.2.2 u.1.2.2 (nI u.1.1) (nI u.1.2.1)))) := hD
    rw [hQ]
    refine vx_ret ?_
    exact zk_reti (some u) rfl hx hb hr hlocks hS hP hD (Nat.le_of_ble_eq_true rfl) (Nat.le_of_ble_eq_true rfl) dL_tryMove_7 (hpost)

abbrev rmL_tryShare : Room := { frames := 9, cells := 2, slots := 12, locals := 146 }
set_option maxHeartbeats 4000000 in
set_option maxRecDepth 100000 in
theorem c_L_tryShare (l : Launch) (G : zk_G) (hst : l.stackTraces = false) (a : zA) (L : zL) (n t : Nat) (hI : sInv L n t) (f b : Int32) (S : Nat → zL) (o cn : Nat) (ho : o < 14) (hcn : cn ≤ 14) : zk_IH (S := Option ((Nat × Nat × (Nat → zL)) × zL)) l yL_tryShare wsL_tryShare rmL_tryShare G [.ref a.1, .int f, .int b] ((zb_5 G a) ++ ((zb_L G a.2.2.1 L) ++ ((zb_M G a.2.2.1 L) ++ zb_H G a.2.2.2.2.1.1 a.2.2.2.2.1.2.1 a.2.2.2.2.1.2.2 S (nI o) (nI cn)))) (fun r u => match u with | some v0 => (fun r u => sfShare f = 0 ∧ r = sSumOf u.2 n f ∧ u.1 = hRem o cn S L ∧ u.2 = sShare L f.toNatClampNeg b) r v0 | none => ∃ E, (fun E => (E = "java/lang/IndexOutOfBoundsException" ∧ sfShare f = nI 1) ∨ (E = "java/lang/IllegalArgumentException" ∧ sfShare f = nI 2) ∨ (E = "java/lang/IllegalStateException" ∧ sfShare f = nI 3)) E ∧ zcode E (-9999001) (-9999002) (-9999003) r) (fun u => match u with | some v0 => zb_5 G a ++ ((zb_L G a.2.2.1 v0.2) ++ ((zb_M G a.2.2.1 v0.2) ++ zb_H G a.2.2.2.2.1.1 a.2.2.2.2.1.2.1 a.2.2.2.2.1.2.2 v0.1.2.2 (nI v0.1.1) (nI v0.1.2.1))) | none => (zb_5 G a) ++ ((zb_L G a.2.2.1 L) ++ ((zb_M G a.2.2.1 L) ++ zb_H G a.2.2.2.2.1.1 a.2.2.2.2.1.2.1 a.2.2.2.2.1.2.2 S (nI o) (nI cn)))) := by
  refine zk_bodyIH (cc := cL_tryShare) (maxL := 4) (ret := (some .int)) (hh := [(0, 6, 7, 13)]) (by decide) rfl (Nat.le_of_ble_eq_true rfl) ?_
  intro p E0 s m args below meth cd A ls Q hF hNC hTab hQ
  obtain ⟨hx, hb, hml, hr, hts, hown, hlocks, -, hE, hP, hD, hS, hA, hA0, hl⟩ := hF
  have hK := hE.1
  have hl : lv_has ls 4 [(0, .ref a.1), (1, .int f), (2, .int b)] := hl
  have w1 := hts _ (List.mem_of_getElem? (l := wsL_tryShare) (i := 1) (a := Cond.classLink RL 13 "java/lang/IndexOutOfBoundsException") rfl)
  have w2 := hts _ (List.mem_of_getElem? (l := wsL_tryShare) (i := 2) (a := Cond.constant RL 15 (-9999001)) rfl)
  refine lv_aload_n hx hb dL_tryShare_0 rfl (lv_at hl 0 rfl) ?_
  refine lv_iload_n hx hb dL_tryShare_1 rfl (lv_at hl 1 rfl) ?_
  refine lv_iload_n hx hb dL_tryShare_2 rfl (lv_at hl 2 rfl) ?_
  have hP0 : va_P G.1 vwCl (((zb_5 G a) ++ ((zb_L G a.2.2.1 L) ++ ((zb_M G a.2.2.1 L) ++ zb_H G a.2.2.2.2.1.1 a.2.2.2.2.1.2.1 a.2.2.2.2.1.2.2 S (nI o) (nI cn)))) ++ ([] : va_W)) s.heap := by rw [List.append_nil]; exact hP
  have hD0 : va_D A (((zb_5 G a) ++ ((zb_L G a.2.2.1 L) ++ ((zb_M G a.2.2.1 L) ++ zb_H G a.2.2.2.2.1.1 a.2.2.2.2.1.2.1 a.2.2.2.2.1.2.2 S (nI o) (nI cn)))) ++ ([] : va_W)) := by rw [List.append_nil]; exact hD
  refine zk_callXIc (wr := ([] : va_W)) (vx_runV (As := [.int f, .int b]) (rest := []) ⟨hx, hb, hml, hown, hts⟩ (c_X5_share l G hst a L n t hI f b S o cn ho hcn _) (cwV 2 hts gL_tryShare_X5_share rfl rfl rfl (by decide +kernel) ⟨Nat.le_of_ble_eq_true rfl, Nat.le_of_ble_eq_true rfl⟩) (zk_preV hE hA0 hS (zk_Papp hP0).1 (zk_Dapp hD0).1 (va_recv hK hP0 (ci := 4) (q0 := 0) rfl rfl)) rfl rfl hl.1 rfl (lv_room (Nat.le_of_ble_eq_true rfl)) dL_tryShare_3 ⟨Nat.le_of_ble_eq_true rfl, Nat.le_of_ble_eq_true rfl⟩) hP0 hD0 hS hA (fun E ce q9 H locs hpx hP hD hS hce hcv hcl => ?_) (fun r u H locs hpost hP hD hS => ?_)
  · rw [List.append_nil] at hP hD
    have hpx2 := hpx
    rcases hpx with ⟨rfl, hno⟩ | ⟨rfl, hno⟩ | ⟨rfl, hno⟩
    · refine vx_catch hown [] ⟨0, 6, 7, 13⟩ [] (by rw [hTab]; rfl) (fun z hz => absurd hz List.not_mem_nil) (by decide) (by decide) w1 (va_Nw.use rfl hE.2.1.2.2.2.2.2.2.2.2.2.2.1) hce hcv hcl ?_
      have hP : va_P G.1 vwCl ((zb_5 G a) ++ ((zb_L G a.2.2.1 L) ++ ((zb_M G a.2.2.1 L) ++ zb_H G a.2.2.2.2.1.1 a.2.2.2.2.1.2.1 a.2.2.2.2.1.2.2 S (nI o) (nI cn)))) H := hP
      have hD : va_D A ((zb_5 G a) ++ ((zb_L G a.2.2.1 L) ++ ((zb_M G a.2.2.1 L) ++ zb_H G a.2.2.2.2.1.1 a.2.2.2.2.1.2.1 a.2.2.2.2.1.2.2 S (nI o) (nI cn)))) := hD
      refine lv_astore_n (lv' := [(3, .ref q9), (0, .ref a.1), (1, .int f), (2, .int b)]) hx hb dL_tryShare_7 rfl hl (by decide) rfl (fun ls hl => ?_)
      refine lv_ldc hx hb (v := (-9999001)) hown w2 dL_tryShare_8 ?_
      rw [hQ]
      refine vx_ret ?_
      exact zk_reti none rfl hx hb hr hlocks hS hP hD (Nat.le_of_ble_eq_true rfl) (Nat.le_of_ble_eq_true rfl) dL_tryShare_10 (⟨"java/lang/IndexOutOfBoundsException", hpx2, zc_1 _ _ _⟩)
    · exact absurd hno (by unfold sfShare; (repeat' split) <;> decide)
    · exact absurd hno (by unfold sfShare; (repeat' split) <;> decide)
  · rw [List.append_nil] at hP hD
    have hP : va_P G.1 vwCl (zb_5 G a ++ ((zb_L G a.2.2.1 u.2) ++ ((zb_M G a.2.2.1 u.2) ++ zb_H G a.2.2.2.2.1.1 a.2.2.2.2.1.2.1 a.2.2.2.2.1.2.2 u.1.2.2 (nI u.1.1) (nI u.1.2.1)))) H := hP
    have hD : va_D A (zb_5 G a ++ ((zb_L G a.2.2.1 u.2) ++ ((zb_M G a.2.2.1 u.2) ++ zb_H G a.2.2.2.2.1.1 a.2.2.2.2.1.2.1 a.2.2.2.2.1.2.2 u.1.2.2 (nI u.1.1) (nI u.1.2.1)))) := hD
    rw [hQ]
    refine vx_ret ?_
    exact zk_reti (some u) rfl hx hb hr hlocks hS hP hD (Nat.le_of_ble_eq_true rfl) (Nat.le_of_ble_eq_true rfl) dL_tryShare_6 (hpost)

abbrev rmL_tryEntitle : Room := { frames := 9, cells := 2, slots := 12, locals := 147 }
set_option maxHeartbeats 4000000 in
set_option maxRecDepth 100000 in
theorem c_L_tryEntitle (l : Launch) (G : zk_G) (hst : l.stackTraces = false) (a : zA) (L : zL) (n t : Nat) (hI : sInv L n t) (c fr to : Int32) (S : Nat → zL) (o cn : Nat) (ho : o < 14) (hcn : cn ≤ 14) : zk_IH (S := Option ((Nat × Nat × (Nat → zL)) × zL)) l yL_tryEntitle wsL_tryEntitle rmL_tryEntitle G [.ref a.1, .int c, .int fr, .int to] ((zb_5 G a) ++ ((zb_L G a.2.2.1 L) ++ ((zb_M G a.2.2.1 L) ++ zb_H G a.2.2.2.2.1.1 a.2.2.2.2.1.2.1 a.2.2.2.2.1.2.2 S (nI o) (nI cn)))) (fun r u => match u with | some v0 => (fun r u => sfEnt L c fr to = 0 ∧ r = zs (u.2 3) n - zs (L 3) n ∧ u.1 = hRem o cn S L ∧ u.2 = sEntitle L t c.toNatClampNeg fr to) r v0 | none => ∃ E, (fun E => (E = "java/lang/IndexOutOfBoundsException" ∧ sfEnt L c fr to = nI 1) ∨ (E = "java/lang/IllegalArgumentException" ∧ sfEnt L c fr to = nI 2) ∨ (E = "java/lang/IllegalStateException" ∧ sfEnt L c fr to = nI 3)) E ∧ zcode E (-9999001) (-9999002) (-9999003) r) (fun u => match u with | some v0 => zb_5 G a ++ ((zb_L G a.2.2.1 v0.2) ++ ((zb_M G a.2.2.1 v0.2) ++ zb_H G a.2.2.2.2.1.1 a.2.2.2.2.1.2.1 a.2.2.2.2.1.2.2 v0.1.2.2 (nI v0.1.1) (nI v0.1.2.1))) | none => (zb_5 G a) ++ ((zb_L G a.2.2.1 L) ++ ((zb_M G a.2.2.1 L) ++ zb_H G a.2.2.2.2.1.1 a.2.2.2.2.1.2.1 a.2.2.2.2.1.2.2 S (nI o) (nI cn)))) := by
  refine zk_bodyIH (cc := cL_tryEntitle) (maxL := 5) (ret := (some .int)) (hh := [(0, 7, 8, 13), (0, 7, 13, 27)]) (by decide) rfl (Nat.le_of_ble_eq_true rfl) ?_
  intro p E0 s m args below meth cd A ls Q hF hNC hTab hQ
  obtain ⟨hx, hb, hml, hr, hts, hown, hlocks, -, hE, hP, hD, hS, hA, hA0, hl⟩ := hF
  have hK := hE.1
  have hl : lv_has ls 5 [(0, .ref a.1), (1, .int c), (2, .int fr), (3, .int to)] := hl
  have w1 := hts _ (List.mem_of_getElem? (l := wsL_tryEntitle) (i := 1) (a := Cond.classLink RL 13 "java/lang/IndexOutOfBoundsException") rfl)
  have w3 := hts _ (List.mem_of_getElem? (l := wsL_tryEntitle) (i := 3) (a := Cond.constant RL 15 (-9999001)) rfl)
  have w2 := hts _ (List.mem_of_getElem? (l := wsL_tryEntitle) (i := 2) (a := Cond.classLink RL 27 "java/lang/IllegalArgumentException") rfl)
  have w4 := hts _ (List.mem_of_getElem? (l := wsL_tryEntitle) (i := 4) (a := Cond.constant RL 29 (-9999002)) rfl)
  refine lv_aload_n hx hb dL_tryEntitle_0 rfl (lv_at hl 0 rfl) ?_
  refine lv_iload_n hx hb dL_tryEntitle_1 rfl (lv_at hl 1 rfl) ?_
  refine lv_iload_n hx hb dL_tryEntitle_2 rfl (lv_at hl 2 rfl) ?_
  refine lv_iload_n hx hb dL_tryEntitle_3 rfl (lv_at hl 3 rfl) ?_
  have hP0 : va_P G.1 vwCl (((zb_5 G a) ++ ((zb_L G a.2.2.1 L) ++ ((zb_M G a.2.2.1 L) ++ zb_H G a.2.2.2.2.1.1 a.2.2.2.2.1.2.1 a.2.2.2.2.1.2.2 S (nI o) (nI cn)))) ++ ([] : va_W)) s.heap := by rw [List.append_nil]; exact hP
  have hD0 : va_D A (((zb_5 G a) ++ ((zb_L G a.2.2.1 L) ++ ((zb_M G a.2.2.1 L) ++ zb_H G a.2.2.2.2.1.1 a.2.2.2.2.1.2.1 a.2.2.2.2.1.2.2 S (nI o) (nI cn)))) ++ ([] : va_W)) := by rw [List.append_nil]; exact hD
  refine zk_callXIc (wr := ([] : va_W)) (vx_runV (As := [.int c, .int fr, .int to]) (rest := []) ⟨hx, hb, hml, hown, hts⟩ (c_X5_entitle l G hst a L n t hI c fr to S o cn ho hcn _) (cwV 3 hts gL_tryEntitle_X5_entitle rfl rfl rfl (by decide +kernel) ⟨Nat.le_of_ble_eq_true rfl, Nat.le_of_ble_eq_true rfl⟩) (zk_preV hE hA0 hS (zk_Papp hP0).1 (zk_Dapp hD0).1 (va_recv hK hP0 (ci := 4) (q0 := 0) rfl rfl)) rfl rfl hl.1 rfl (lv_room (Nat.le_of_ble_eq_true rfl)) dL_tryEntitle_4 ⟨Nat.le_of_ble_eq_true rfl, Nat.le_of_ble_eq_true rfl⟩) hP0 hD0 hS hA (fun E ce q9 H locs hpx hP hD hS hce hcv hcl => ?_) (fun r u H locs hpost hP hD hS => ?_)
  · rw [List.append_nil] at hP hD
    have hpx2 := hpx
    rcases hpx with ⟨rfl, hno⟩ | ⟨rfl, hno⟩ | ⟨rfl, hno⟩
    · refine vx_catch hown [] ⟨0, 7, 8, 13⟩ [⟨0, 7, 13, 27⟩] (by rw [hTab]; rfl) (fun z hz => absurd hz List.not_mem_nil) (by decide) (by decide) w1 (va_Nw.use rfl hE.2.1.2.2.2.2.2.2.2.2.2.2.1) hce hcv hcl ?_
      have hP : va_P G.1 vwCl ((zb_5 G a) ++ ((zb_L G a.2.2.1 L) ++ ((zb_M G a.2.2.1 L) ++ zb_H G a.2.2.2.2.1.1 a.2.2.2.2.1.2.1 a.2.2.2.2.1.2.2 S (nI o) (nI cn)))) H := hP
      have hD : va_D A ((zb_5 G a) ++ ((zb_L G a.2.2.1 L) ++ ((zb_M G a.2.2.1 L) ++ zb_H G a.2.2.2.2.1.1 a.2.2.2.2.1.2.1 a.2.2.2.2.1.2.2 S (nI o) (nI cn)))) := hD
      refine lv_astore (lv' := [(4, .ref q9), (0, .ref a.1), (1, .int c), (2, .int fr), (3, .int to)]) hx hb dL_tryEntitle_8 hl (by decide) rfl (fun ls hl => ?_)
      refine lv_ldc hx hb (v := (-9999001)) hown w3 dL_tryEntitle_10 ?_
      rw [hQ]
      refine vx_ret ?_
      exact zk_reti none rfl hx hb hr hlocks hS hP hD (Nat.le_of_ble_eq_true rfl) (Nat.le_of_ble_eq_true rfl) dL_tryEntitle_12 (⟨"java/lang/IndexOutOfBoundsException", hpx2, zc_1 _ _ _⟩)
    · refine vx_catch hown [⟨0, 7, 8, 13⟩] ⟨0, 7, 13, 27⟩ [] (by rw [hTab]; rfl) (List.forall_mem_cons.mpr ⟨Or.inr ⟨by decide, "java/lang/IndexOutOfBoundsException", w1, hNC.1.2⟩, fun z hz => absurd hz List.not_mem_nil⟩) (by decide) (by decide) w2 (va_Nw.use rfl hE.2.1.2.2.2.2.2.2.2.2.2.2.2.1) hce hcv hcl ?_
      have hP : va_P G.1 vwCl ((zb_5 G a) ++ ((zb_L G a.2.2.1 L) ++ ((zb_M G a.2.2.1 L) ++ zb_H G a.2.2.2.2.1.1 a.2.2.2.2.1.2.1 a.2.2.2.2.1.2.2 S (nI o) (nI cn)))) H := hP
      have hD : va_D A ((zb_5 G a) ++ ((zb_L G a.2.2.1 L) ++ ((zb_M G a.2.2.1 L) ++ zb_H G a.2.2.2.2.1.1 a.2.2.2.2.1.2.1 a.2.2.2.2.1.2.2 S (nI o) (nI cn)))) := hD
      refine lv_astore (lv' := [(4, .ref q9), (0, .ref a.1), (1, .int c), (2, .int fr), (3, .int to)]) hx hb dL_tryEntitle_13 hl (by decide) rfl (fun ls hl => ?_)
      refine lv_ldc hx hb (v := (-9999002)) hown w4 dL_tryEntitle_15 ?_
      rw [hQ]
      refine vx_ret ?_
      exact zk_reti none rfl hx hb hr hlocks hS hP hD (Nat.le_of_ble_eq_true rfl) (Nat.le_of_ble_eq_true rfl) dL_tryEntitle_17 (⟨"java/lang/IllegalArgumentException", hpx2, zc_2 _ _ _⟩)
    · exact absurd hno (by unfold sfEnt; (repeat' split) <;> decide)
  · rw [List.append_nil] at hP hD
    have hP : va_P G.1 vwCl (zb_5 G a ++ ((zb_L G a.2.2.1 u.2) ++ ((zb_M G a.2.2.1 u.2) ++ zb_H G a.2.2.2.2.1.1 a.2.2.2.2.1.2.1 a.2.2.2.2.1.2.2 u.1.2.2 (nI u.1.1) (nI u.1.2.1)))) H := hP
    have hD : va_D A (zb_5 G a ++ ((zb_L G a.2.2.1 u.2) ++ ((zb_M G a.2.2.1 u.2) ++ zb_H G a.2.2.2.2.1.1 a.2.2.2.2.1.2.1 a.2.2.2.2.1.2.2 u.1.2.2 (nI u.1.1) (nI u.1.2.1)))) := hD
    rw [hQ]
    refine vx_ret ?_
    exact zk_reti (some u) rfl hx hb hr hlocks hS hP hD (Nat.le_of_ble_eq_true rfl) (Nat.le_of_ble_eq_true rfl) dL_tryEntitle_7 (hpost)

abbrev rmL_tryWriteOff : Room := { frames := 9, cells := 2, slots := 12, locals := 145 }
set_option maxHeartbeats 4000000 in
set_option maxRecDepth 100000 in
theorem c_L_tryWriteOff (l : Launch) (G : zk_G) (hst : l.stackTraces = false) (a : zA) (L : zL) (n t : Nat) (hI : sInv L n t) (f : Int32) (S : Nat → zL) (o cn : Nat) (ho : o < 14) (hcn : cn ≤ 14) : zk_IH (S := Option ((Nat × Nat × (Nat → zL)) × zL)) l yL_tryWriteOff wsL_tryWriteOff rmL_tryWriteOff G [.ref a.1, .int f] ((zb_5 G a) ++ ((zb_L G a.2.2.1 L) ++ ((zb_M G a.2.2.1 L) ++ zb_H G a.2.2.2.2.1.1 a.2.2.2.2.1.2.1 a.2.2.2.2.1.2.2 S (nI o) (nI cn)))) (fun r u => match u with | some v0 => (fun r u => sfOff L n f = 0 ∧ r = sDebt L n f ∧ u.1 = hRem o cn S L ∧ u.2 = sWrite L n f.toNatClampNeg) r v0 | none => ∃ E, (fun E => (E = "java/lang/IndexOutOfBoundsException" ∧ sfOff L n f = nI 1) ∨ (E = "java/lang/IllegalArgumentException" ∧ sfOff L n f = nI 2) ∨ (E = "java/lang/IllegalStateException" ∧ sfOff L n f = nI 3)) E ∧ zcode E (-9999001) (-9999002) (-9999003) r) (fun u => match u with | some v0 => zb_5 G a ++ ((zb_L G a.2.2.1 v0.2) ++ ((zb_M G a.2.2.1 v0.2) ++ zb_H G a.2.2.2.2.1.1 a.2.2.2.2.1.2.1 a.2.2.2.2.1.2.2 v0.1.2.2 (nI v0.1.1) (nI v0.1.2.1))) | none => (zb_5 G a) ++ ((zb_L G a.2.2.1 L) ++ ((zb_M G a.2.2.1 L) ++ zb_H G a.2.2.2.2.1.1 a.2.2.2.2.1.2.1 a.2.2.2.2.1.2.2 S (nI o) (nI cn)))) := by
  refine zk_bodyIH (cc := cL_tryWriteOff) (maxL := 3) (ret := (some .int)) (hh := [(0, 5, 6, 13), (0, 5, 10, 16)]) (by decide) rfl (Nat.le_of_ble_eq_true rfl) ?_
  intro p E0 s m args below meth cd A ls Q hF hNC hTab hQ
  obtain ⟨hx, hb, hml, hr, hts, hown, hlocks, -, hE, hP, hD, hS, hA, hA0, hl⟩ := hF
  have hK := hE.1
  have hl : lv_has ls 3 [(0, .ref a.1), (1, .int f)] := hl
  have w1 := hts _ (List.mem_of_getElem? (l := wsL_tryWriteOff) (i := 1) (a := Cond.classLink RL 13 "java/lang/IndexOutOfBoundsException") rfl)
  have w3 := hts _ (List.mem_of_getElem? (l := wsL_tryWriteOff) (i := 3) (a := Cond.constant RL 15 (-9999001)) rfl)
  have w2 := hts _ (List.mem_of_getElem? (l := wsL_tryWriteOff) (i := 2) (a := Cond.classLink RL 16 "java/lang/IllegalStateException") rfl)
  have w4 := hts _ (List.mem_of_getElem? (l := wsL_tryWriteOff) (i := 4) (a := Cond.constant RL 18 (-9999003)) rfl)
  refine lv_aload_n hx hb dL_tryWriteOff_0 rfl (lv_at hl 0 rfl) ?_
  refine lv_iload_n hx hb dL_tryWriteOff_1 rfl (lv_at hl 1 rfl) ?_
  have hP0 : va_P G.1 vwCl (((zb_5 G a) ++ ((zb_L G a.2.2.1 L) ++ ((zb_M G a.2.2.1 L) ++ zb_H G a.2.2.2.2.1.1 a.2.2.2.2.1.2.1 a.2.2.2.2.1.2.2 S (nI o) (nI cn)))) ++ ([] : va_W)) s.heap := by rw [List.append_nil]; exact hP
  have hD0 : va_D A (((zb_5 G a) ++ ((zb_L G a.2.2.1 L) ++ ((zb_M G a.2.2.1 L) ++ zb_H G a.2.2.2.2.1.1 a.2.2.2.2.1.2.1 a.2.2.2.2.1.2.2 S (nI o) (nI cn)))) ++ ([] : va_W)) := by rw [List.append_nil]; exact hD
  refine zk_callXIc (wr := ([] : va_W)) (vx_runV (As := [.int f]) (rest := []) ⟨hx, hb, hml, hown, hts⟩ (c_X5_writeOff l G hst a L n t hI f S o cn ho hcn _) (cwV 1 hts gL_tryWriteOff_X5_writeOff rfl rfl rfl (by decide +kernel) ⟨Nat.le_of_ble_eq_true rfl, Nat.le_of_ble_eq_true rfl⟩) (zk_preV hE hA0 hS (zk_Papp hP0).1 (zk_Dapp hD0).1 (va_recv hK hP0 (ci := 4) (q0 := 0) rfl rfl)) rfl rfl hl.1 rfl (lv_room (Nat.le_of_ble_eq_true rfl)) dL_tryWriteOff_2 ⟨Nat.le_of_ble_eq_true rfl, Nat.le_of_ble_eq_true rfl⟩) hP0 hD0 hS hA (fun E ce q9 H locs hpx hP hD hS hce hcv hcl => ?_) (fun r u H locs hpost hP hD hS => ?_)
  · rw [List.append_nil] at hP hD
    have hpx2 := hpx
    rcases hpx with ⟨rfl, hno⟩ | ⟨rfl, hno⟩ | ⟨rfl, hno⟩
    · refine vx_catch hown [] ⟨0, 5, 6, 13⟩ [⟨0, 5, 10, 16⟩] (by rw [hTab]; rfl) (fun z hz => absurd hz List.not_mem_nil) (by decide) (by decide) w1 (va_Nw.use rfl hE.2.1.2.2.2.2.2.2.2.2.2.2.1) hce hcv hcl ?_
      have hP : va_P G.1 vwCl ((zb_5 G a) ++ ((zb_L G a.2.2.1 L) ++ ((zb_M G a.2.2.1 L) ++ zb_H G a.2.2.2.2.1.1 a.2.2.2.2.1.2.1 a.2.2.2.2.1.2.2 S (nI o) (nI cn)))) H := hP
      have hD : va_D A ((zb_5 G a) ++ ((zb_L G a.2.2.1 L) ++ ((zb_M G a.2.2.1 L) ++ zb_H G a.2.2.2.2.1.1 a.2.2.2.2.1.2.1 a.2.2.2.2.1.2.2 S (nI o) (nI cn)))) := hD
      refine lv_astore_n (lv' := [(2, .ref q9), (0, .ref a.1), (1, .int f)]) hx hb dL_tryWriteOff_6 rfl hl (by decide) rfl (fun ls hl => ?_)
      refine lv_ldc hx hb (v := (-9999001)) hown w3 dL_tryWriteOff_7 ?_
      rw [hQ]
      refine vx_ret ?_
      exact zk_reti none rfl hx hb hr hlocks hS hP hD (Nat.le_of_ble_eq_true rfl) (Nat.le_of_ble_eq_true rfl) dL_tryWriteOff_9 (⟨"java/lang/IndexOutOfBoundsException", hpx2, zc_1 _ _ _⟩)
    · exact absurd hno (by unfold sfOff; (repeat' split) <;> decide)
    · refine vx_catch hown [⟨0, 5, 6, 13⟩] ⟨0, 5, 10, 16⟩ [] (by rw [hTab]; rfl) (List.forall_mem_cons.mpr ⟨Or.inr ⟨by decide, "java/lang/IndexOutOfBoundsException", w1, hNC.2.1.2⟩, fun z hz => absurd hz List.not_mem_nil⟩) (by decide) (by decide) w2 (va_Nw.use rfl hE.2.1.2.2.2.2.2.2.2.2.2.2.2.2) hce hcv hcl ?_
      have hP : va_P G.1 vwCl ((zb_5 G a) ++ ((zb_L G a.2.2.1 L) ++ ((zb_M G a.2.2.1 L) ++ zb_H G a.2.2.2.2.1.1 a.2.2.2.2.1.2.1 a.2.2.2.2.1.2.2 S (nI o) (nI cn)))) H := hP
      have hD : va_D A ((zb_5 G a) ++ ((zb_L G a.2.2.1 L) ++ ((zb_M G a.2.2.1 L) ++ zb_H G a.2.2.2.2.1.1 a.2.2.2.2.1.2.1 a.2.2.2.2.1.2.2 S (nI o) (nI cn)))) := hD
      refine lv_astore_n (lv' := [(2, .ref q9), (0, .ref a.1), (1, .int f)]) hx hb dL_tryWriteOff_10 rfl hl (by decide) rfl (fun ls hl => ?_)
      refine lv_ldc hx hb (v := (-9999003)) hown w4 dL_tryWriteOff_11 ?_
      rw [hQ]
      refine vx_ret ?_
      exact zk_reti none rfl hx hb hr hlocks hS hP hD (Nat.le_of_ble_eq_true rfl) (Nat.le_of_ble_eq_true rfl) dL_tryWriteOff_13 (⟨"java/lang/IllegalStateException", hpx2, zc_3 _ _ _⟩)
  · rw [List.append_nil] at hP hD
    have hP : va_P G.1 vwCl (zb_5 G a ++ ((zb_L G a.2.2.1 u.2) ++ ((zb_M G a.2.2.1 u.2) ++ zb_H G a.2.2.2.2.1.1 a.2.2.2.2.1.2.1 a.2.2.2.2.1.2.2 u.1.2.2 (nI u.1.1) (nI u.1.2.1)))) H := hP
    have hD : va_D A (zb_5 G a ++ ((zb_L G a.2.2.1 u.2) ++ ((zb_M G a.2.2.1 u.2) ++ zb_H G a.2.2.2.2.1.1 a.2.2.2.2.1.2.1 a.2.2.2.2.1.2.2 u.1.2.2 (nI u.1.1) (nI u.1.2.1)))) := hD
    rw [hQ]
    refine vx_ret ?_
    exact zk_reti (some u) rfl hx hb hr hlocks hS hP hD (Nat.le_of_ble_eq_true rfl) (Nat.le_of_ble_eq_true rfl) dL_tryWriteOff_5 (hpost)

abbrev rmL_tryDays : Room := { frames := 9, cells := 2, slots := 12, locals := 145 }
set_option maxHeartbeats 4000000 in
set_option maxRecDepth 100000 in
theorem c_L_tryDays (l : Launch) (G : zk_G) (hst : l.stackTraces = false) (a : zA) (L : zL) (n t : Nat) (hI : sInv L n t) (k : Int32) (S : Nat → zL) (o cn : Nat) (ho : o < 14) (hcn : cn ≤ 14) : zk_IH (S := Option ((Nat × Nat × (Nat → zL)) × zL)) l yL_tryDays wsL_tryDays rmL_tryDays G [.ref a.1, .int k] ((zb_5 G a) ++ ((zb_L G a.2.2.1 L) ++ ((zb_M G a.2.2.1 L) ++ zb_H G a.2.2.2.2.1.1 a.2.2.2.2.1.2.1 a.2.2.2.2.1.2.2 S (nI o) (nI cn)))) (fun r u => match u with | some v0 => (fun r u => sfDays t k = 0 ∧ r = (sDays n t k.toNatClampNeg L).1 ∧ u.1 = hRem o cn S L ∧ u.2 = (sDays n t k.toNatClampNeg L).2) r v0 | none => ∃ E, (fun E => (E = "java/lang/IndexOutOfBoundsException" ∧ sfDays t k = nI 1) ∨ (E = "java/lang/IllegalArgumentException" ∧ sfDays t k = nI 2) ∨ (E = "java/lang/IllegalStateException" ∧ sfDays t k = nI 3)) E ∧ zcode E (-9999001) (-9999002) (-9999003) r) (fun u => match u with | some v0 => zb_5 G a ++ ((zb_L G a.2.2.1 v0.2) ++ ((zb_M G a.2.2.1 v0.2) ++ zb_H G a.2.2.2.2.1.1 a.2.2.2.2.1.2.1 a.2.2.2.2.1.2.2 v0.1.2.2 (nI v0.1.1) (nI v0.1.2.1))) | none => (zb_5 G a) ++ ((zb_L G a.2.2.1 L) ++ ((zb_M G a.2.2.1 L) ++ zb_H G a.2.2.2.2.1.1 a.2.2.2.2.1.2.1 a.2.2.2.2.1.2.2 S (nI o) (nI cn)))) := by
  refine zk_bodyIH (cc := cL_tryDays) (maxL := 3) (ret := (some .int)) (hh := [(0, 5, 6, 27), (0, 5, 10, 16)]) (by decide) rfl (Nat.le_of_ble_eq_true rfl) ?_
  intro p E0 s m args below meth cd A ls Q hF hNC hTab hQ
  obtain ⟨hx, hb, hml, hr, hts, hown, hlocks, -, hE, hP, hD, hS, hA, hA0, hl⟩ := hF
  have hK := hE.1
  have hl : lv_has ls 3 [(0, .ref a.1), (1, .int k)] := hl
  have w1 := hts _ (List.mem_of_getElem? (l := wsL_tryDays) (i := 1) (a := Cond.classLink RL 27 "java/lang/IllegalArgumentException") rfl)
  have w3 := hts _ (List.mem_of_getElem? (l := wsL_tryDays) (i := 3) (a := Cond.constant RL 29 (-9999002)) rfl)
  have w2 := hts _ (List.mem_of_getElem? (l := wsL_tryDays) (i := 2) (a := Cond.classLink RL 16 "java/lang/IllegalStateException") rfl)
  have w4 := hts _ (List.mem_of_getElem? (l := wsL_tryDays) (i := 4) (a := Cond.constant RL 18 (-9999003)) rfl)
  refine lv_aload_n hx hb dL_tryDays_0 rfl (lv_at hl 0 rfl) ?_
  refine lv_iload_n hx hb dL_tryDays_1 rfl (lv_at hl 1 rfl) ?_
  have hP0 : va_P G.1 vwCl (((zb_5 G a) ++ ((zb_L G a.2.2.1 L) ++ ((zb_M G a.2.2.1 L) ++ zb_H G a.2.2.2.2.1.1 a.2.2.2.2.1.2.1 a.2.2.2.2.1.2.2 S (nI o) (nI cn)))) ++ ([] : va_W)) s.heap := by rw [List.append_nil]; exact hP
  have hD0 : va_D A (((zb_5 G a) ++ ((zb_L G a.2.2.1 L) ++ ((zb_M G a.2.2.1 L) ++ zb_H G a.2.2.2.2.1.1 a.2.2.2.2.1.2.1 a.2.2.2.2.1.2.2 S (nI o) (nI cn)))) ++ ([] : va_W)) := by rw [List.append_nil]; exact hD
  refine zk_callXIc (wr := ([] : va_W)) (vx_runV (As := [.int k]) (rest := []) ⟨hx, hb, hml, hown, hts⟩ (c_X5_days l G hst a L n t hI k S o cn ho hcn _) (cwV 1 hts gL_tryDays_X5_days rfl rfl rfl (by decide +kernel) ⟨Nat.le_of_ble_eq_true rfl, Nat.le_of_ble_eq_true rfl⟩) (zk_preV hE hA0 hS (zk_Papp hP0).1 (zk_Dapp hD0).1 (va_recv hK hP0 (ci := 4) (q0 := 0) rfl rfl)) rfl rfl hl.1 rfl (lv_room (Nat.le_of_ble_eq_true rfl)) dL_tryDays_2 ⟨Nat.le_of_ble_eq_true rfl, Nat.le_of_ble_eq_true rfl⟩) hP0 hD0 hS hA (fun E ce q9 H locs hpx hP hD hS hce hcv hcl => ?_) (fun r u H locs hpost hP hD hS => ?_)
  · rw [List.append_nil] at hP hD
    have hpx2 := hpx
    rcases hpx with ⟨rfl, hno⟩ | ⟨rfl, hno⟩ | ⟨rfl, hno⟩
    · exact absurd hno (by unfold sfDays; (repeat' split) <;> decide)
    · refine vx_catch hown [] ⟨0, 5, 6, 27⟩ [⟨0, 5, 10, 16⟩] (by rw [hTab]; rfl) (fun z hz => absurd hz List.not_mem_nil) (by decide) (by decide) w1 (va_Nw.use rfl hE.2.1.2.2.2.2.2.2.2.2.2.2.2.1) hce hcv hcl ?_
      have hP : va_P G.1 vwCl ((zb_5 G a) ++ ((zb_L G a.2.2.1 L) ++ ((zb_M G a.2.2.1 L) ++ zb_H G a.2.2.2.2.1.1 a.2.2.2.2.1.2.1 a.2.2.2.2.1.2.2 S (nI o) (nI cn)))) H := hP
      have hD : va_D A ((zb_5 G a) ++ ((zb_L G a.2.2.1 L) ++ ((zb_M G a.2.2.1 L) ++ zb_H G a.2.2.2.2.1.1 a.2.2.2.2.1.2.1 a.2.2.2.2.1.2.2 S (nI o) (nI cn)))) := hD
      refine lv_astore_n (lv' := [(2, .ref q9), (0, .ref a.1), (1, .int k)]) hx hb dL_tryDays_6 rfl hl (by decide) rfl (fun ls hl => ?_)
      refine lv_ldc hx hb (v := (-9999002)) hown w3 dL_tryDays_7 ?_
      rw [hQ]
      refine vx_ret ?_
      exact zk_reti none rfl hx hb hr hlocks hS hP hD (Nat.le_of_ble_eq_true rfl) (Nat.le_of_ble_eq_true rfl) dL_tryDays_9 (⟨"java/lang/IllegalArgumentException", hpx2, zc_2 _ _ _⟩)
    · refine vx_catch hown [⟨0, 5, 6, 27⟩] ⟨0, 5, 10, 16⟩ [] (by rw [hTab]; rfl) (List.forall_mem_cons.mpr ⟨Or.inr ⟨by decide, "java/lang/IllegalArgumentException", w1, hNC.2.1.1⟩, fun z hz => absurd hz List.not_mem_nil⟩) (by decide) (by decide) w2 (va_Nw.use rfl hE.2.1.2.2.2.2.2.2.2.2.2.2.2.2) hce hcv hcl ?_
      have hP : va_P G.1 vwCl ((zb_5 G a) ++ ((zb_L G a.2.2.1 L) ++ ((zb_M G a.2.2.1 L) ++ zb_H G a.2.2.2.2.1.1 a.2.2.2.2.1.2.1 a.2.2.2.2.1.2.2 S (nI o) (nI cn)))) H := hP
      have hD : va_D A ((zb_5 G a) ++ ((zb_L G a.2.2.1 L) ++ ((zb_M G a.2.2.1 L) ++ zb_H G a.2.2.2.2.1.1 a.2.2.2.2.1.2.1 a.2.2.2.2.1.2.2 S (nI o) (nI cn)))) := hD
      refine lv_astore_n (lv' := [(2, .ref q9), (0, .ref a.1), (1, .int k)]) hx hb dL_tryDays_10 rfl hl (by decide) rfl (fun ls hl => ?_)
      refine lv_ldc hx hb (v := (-9999003)) hown w4 dL_tryDays_11 ?_
      rw [hQ]
      refine vx_ret ?_
      exact zk_reti none rfl hx hb hr hlocks hS hP hD (Nat.le_of_ble_eq_true rfl) (Nat.le_of_ble_eq_true rfl) dL_tryDays_13 (⟨"java/lang/IllegalStateException", hpx2, zc_3 _ _ _⟩)
  · rw [List.append_nil] at hP hD
    have hP : va_P G.1 vwCl (zb_5 G a ++ ((zb_L G a.2.2.1 u.2) ++ ((zb_M G a.2.2.1 u.2) ++ zb_H G a.2.2.2.2.1.1 a.2.2.2.2.1.2.1 a.2.2.2.2.1.2.2 u.1.2.2 (nI u.1.1) (nI u.1.2.1)))) H := hP
    have hD : va_D A (zb_5 G a ++ ((zb_L G a.2.2.1 u.2) ++ ((zb_M G a.2.2.1 u.2) ++ zb_H G a.2.2.2.2.1.1 a.2.2.2.2.1.2.1 a.2.2.2.2.1.2.2 u.1.2.2 (nI u.1.1) (nI u.1.2.1)))) := hD
    rw [hQ]
    refine vx_ret ?_
    exact zk_reti (some u) rfl hx hb hr hlocks hS hP hD (Nat.le_of_ble_eq_true rfl) (Nat.le_of_ble_eq_true rfl) dL_tryDays_5 (hpost)

abbrev rmL_trySet : Room := { frames := 9, cells := 2, slots := 12, locals := 146 }
set_option maxHeartbeats 4000000 in
set_option maxRecDepth 100000 in
theorem c_L_trySet (l : Launch) (G : zk_G) (hst : l.stackTraces = false) (a : zA) (L : zL) (n t : Nat) (hI : sInv L n t) (w v : Int32) (S : Nat → zL) (o cn : Nat) (ho : o < 14) (hcn : cn ≤ 14) : zk_IH (S := Option ((Nat × Nat × (Nat → zL)) × zL)) l yL_trySet wsL_trySet rmL_trySet G [.ref a.1, .int w, .int v] ((zb_5 G a) ++ ((zb_L G a.2.2.1 L) ++ ((zb_M G a.2.2.1 L) ++ zb_H G a.2.2.2.2.1.1 a.2.2.2.2.1.2.1 a.2.2.2.2.1.2.2 S (nI o) (nI cn)))) (fun r u => match u with | some v0 => (fun r u => sfSet w v = 0 ∧ r = (if w = 0 then L 0 2 else L 0 3) ∧ u.1 = hRem o cn S L ∧ u.2 = sSet L w v) r v0 | none => ∃ E, (fun E => (E = "java/lang/IndexOutOfBoundsException" ∧ sfSet w v = nI 1) ∨ (E = "java/lang/IllegalArgumentException" ∧ sfSet w v = nI 2) ∨ (E = "java/lang/IllegalStateException" ∧ sfSet w v = nI 3)) E ∧ zcode E (-9999001) (-9999002) (-9999003) r) (fun u => match u with | some v0 => zb_5 G a ++ ((zb_L G a.2.2.1 v0.2) ++ ((zb_M G a.2.2.1 v0.2) ++ zb_H G a.2.2.2.2.1.1 a.2.2.2.2.1.2.1 a.2.2.2.2.1.2.2 v0.1.2.2 (nI v0.1.1) (nI v0.1.2.1))) | none => (zb_5 G a) ++ ((zb_L G a.2.2.1 L) ++ ((zb_M G a.2.2.1 L) ++ zb_H G a.2.2.2.2.1.1 a.2.2.2.2.1.2.1 a.2.2.2.2.1.2.2 S (nI o) (nI cn)))) := by
  refine zk_bodyIH (cc := cL_trySet) (maxL := 4) (ret := (some .int)) (hh := [(0, 6, 7, 27)]) (by decide) rfl (Nat.le_of_ble_eq_true rfl) ?_
  intro p E0 s m args below meth cd A ls Q hF hNC hTab hQ
  obtain ⟨hx, hb, hml, hr, hts, hown, hlocks, -, hE, hP, hD, hS, hA, hA0, hl⟩ := hF
  have hK := hE.1
  have hl : lv_has ls 4 [(0, .ref a.1), (1, .int w), (2, .int v)] := hl
  have w1 := hts _ (List.mem_of_getElem? (l := wsL_trySet) (i := 1) (a := Cond.classLink RL 27 "java/lang/IllegalArgumentException") rfl)
  have w2 := hts _ (List.mem_of_getElem? (l := wsL_trySet) (i := 2) (a := Cond.constant RL 29 (-9999002)) rfl)
  refine lv_aload_n hx hb dL_trySet_0 rfl (lv_at hl 0 rfl) ?_
  refine lv_iload_n hx hb dL_trySet_1 rfl (lv_at hl 1 rfl) ?_
  refine lv_iload_n hx hb dL_trySet_2 rfl (lv_at hl 2 rfl) ?_
  have hP0 : va_P G.1 vwCl (((zb_5 G a) ++ ((zb_L G a.2.2.1 L) ++ ((zb_M G a.2.2.1 L) ++ zb_H G a.2.2.2.2.1.1 a.2.2.2.2.1.2.1 a.2.2.2.2.1.2.2 S (nI o) (nI cn)))) ++ ([] : va_W)) s.heap := by rw [List.append_nil]; exact hP
  have hD0 : va_D A (((zb_5 G a) ++ ((zb_L G a.2.2.1 L) ++ ((zb_M G a.2.2.1 L) ++ zb_H G a.2.2.2.2.1.1 a.2.2.2.2.1.2.1 a.2.2.2.2.1.2.2 S (nI o) (nI cn)))) ++ ([] : va_W)) := by rw [List.append_nil]; exact hD
  refine zk_callXIc (wr := ([] : va_W)) (vx_runV (As := [.int w, .int v]) (rest := []) ⟨hx, hb, hml, hown, hts⟩ (c_X5_set l G hst a L n t hI w v S o cn ho hcn _) (cwV 2 hts gL_trySet_X5_set rfl rfl rfl (by decide +kernel) ⟨Nat.le_of_ble_eq_true rfl, Nat.le_of_ble_eq_true rfl⟩) (zk_preV hE hA0 hS (zk_Papp hP0).1 (zk_Dapp hD0).1 (va_recv hK hP0 (ci := 4) (q0 := 0) rfl rfl)) rfl rfl hl.1 rfl (lv_room (Nat.le_of_ble_eq_true rfl)) dL_trySet_3 ⟨Nat.le_of_ble_eq_true rfl, Nat.le_of_ble_eq_true rfl⟩) hP0 hD0 hS hA (fun E ce q9 H locs hpx hP hD hS hce hcv hcl => ?_) (fun r u H locs hpost hP hD hS => ?_)
  · rw [List.append_nil] at hP hD
    have hpx2 := hpx
    rcases hpx with ⟨rfl, hno⟩ | ⟨rfl, hno⟩ | ⟨rfl, hno⟩
    · exact absurd hno (by unfold sfSet; (repeat' split) <;> decide)
    · refine vx_catch hown [] ⟨0, 6, 7, 27⟩ [] (by rw [hTab]; rfl) (fun z hz => absurd hz List.not_mem_nil) (by decide) (by decide) w1 (va_Nw.use rfl hE.2.1.2.2.2.2.2.2.2.2.2.2.2.1) hce hcv hcl ?_
      have hP : va_P G.1 vwCl ((zb_5 G a) ++ ((zb_L G a.2.2.1 L) ++ ((zb_M G a.2.2.1 L) ++ zb_H G a.2.2.2.2.1.1 a.2.2.2.2.1.2.1 a.2.2.2.2.1.2.2 S (nI o) (nI cn)))) H := hP
      have hD : va_D A ((zb_5 G a) ++ ((zb_L G a.2.2.1 L) ++ ((zb_M G a.2.2.1 L) ++ zb_H G a.2.2.2.2.1.1 a.2.2.2.2.1.2.1 a.2.2.2.2.1.2.2 S (nI o) (nI cn)))) := hD
      refine lv_astore_n (lv' := [(3, .ref q9), (0, .ref a.1), (1, .int w), (2, .int v)]) hx hb dL_trySet_7 rfl hl (by decide) rfl (fun ls hl => ?_)
      refine lv_ldc hx hb (v := (-9999002)) hown w2 dL_trySet_8 ?_
      rw [hQ]
      refine vx_ret ?_
      exact zk_reti none rfl hx hb hr hlocks hS hP hD (Nat.le_of_ble_eq_true rfl) (Nat.le_of_ble_eq_true rfl) dL_trySet_10 (⟨"java/lang/IllegalArgumentException", hpx2, zc_2 _ _ _⟩)
    · exact absurd hno (by unfold sfSet; (repeat' split) <;> decide)
  · rw [List.append_nil] at hP hD
    have hP : va_P G.1 vwCl (zb_5 G a ++ ((zb_L G a.2.2.1 u.2) ++ ((zb_M G a.2.2.1 u.2) ++ zb_H G a.2.2.2.2.1.1 a.2.2.2.2.1.2.1 a.2.2.2.2.1.2.2 u.1.2.2 (nI u.1.1) (nI u.1.2.1)))) H := hP
    have hD : va_D A (zb_5 G a ++ ((zb_L G a.2.2.1 u.2) ++ ((zb_M G a.2.2.1 u.2) ++ zb_H G a.2.2.2.2.1.1 a.2.2.2.2.1.2.1 a.2.2.2.2.1.2.2 u.1.2.2 (nI u.1.1) (nI u.1.2.1)))) := hD
    rw [hQ]
    refine vx_ret ?_
    exact zk_reti (some u) rfl hx hb hr hlocks hS hP hD (Nat.le_of_ble_eq_true rfl) (Nat.le_of_ble_eq_true rfl) dL_trySet_6 (hpost)

abbrev rmL_tryUndo : Room := { frames := 7, cells := 1, slots := 6, locals := 123 }
set_option maxHeartbeats 4000000 in
set_option maxRecDepth 100000 in
theorem c_L_tryUndo (l : Launch) (G : zk_G) (hst : l.stackTraces = false) (a : zA) (L : zL) (n t : Nat) (hI : sInv L n t) (S : Nat → zL) (o cn : Nat) (ho : o < 14) (hcn : cn ≤ 14) : zk_IH (S := Option (Unit)) l yL_tryUndo wsL_tryUndo rmL_tryUndo G [.ref a.1] ((zb_5 G a) ++ ((zb_L G a.2.2.1 L) ++ ((zb_M G a.2.2.1 L) ++ zb_H G a.2.2.2.2.1.1 a.2.2.2.2.1.2.1 a.2.2.2.2.1.2.2 S (nI o) (nI cn)))) (fun r u => match u with | some v0 => (fun r _ => ¬ cn = 0 ∧ r = nI (cn - 1)) r v0 | none => ∃ E, (fun E => E = "java/lang/IllegalStateException" ∧ cn = 0) E ∧ zcode E (-9999001) (-9999002) (-9999003) r) (fun u => match u with | some v0 => (zb_5 G a) ++ ((zb_L G a.2.2.1 (S ((o + (cn - 1)) % 14))) ++ ((zb_M G a.2.2.1 (S ((o + (cn - 1)) % 14))) ++ zb_H G a.2.2.2.2.1.1 a.2.2.2.2.1.2.1 a.2.2.2.2.1.2.2 S (nI o) (nI (cn - 1)))) | none => (zb_5 G a) ++ ((zb_L G a.2.2.1 L) ++ ((zb_M G a.2.2.1 L) ++ zb_H G a.2.2.2.2.1.1 a.2.2.2.2.1.2.1 a.2.2.2.2.1.2.2 S (nI o) (nI cn)))) := by
  refine zk_bodyIH (cc := cL_tryUndo) (maxL := 2) (ret := (some .int)) (hh := [(0, 4, 5, 16)]) (by decide) rfl (Nat.le_of_ble_eq_true rfl) ?_
  intro p E0 s m args below meth cd A ls Q hF hNC hTab hQ
  obtain ⟨hx, hb, hml, hr, hts, hown, hlocks, -, hE, hP, hD, hS, hA, hA0, hl⟩ := hF
  have hK := hE.1
  have hl : lv_has ls 2 [(0, .ref a.1)] := hl
  have w1 := hts _ (List.mem_of_getElem? (l := wsL_tryUndo) (i := 1) (a := Cond.classLink RL 16 "java/lang/IllegalStateException") rfl)
  have w2 := hts _ (List.mem_of_getElem? (l := wsL_tryUndo) (i := 2) (a := Cond.constant RL 18 (-9999003)) rfl)
  refine lv_aload_n hx hb dL_tryUndo_0 rfl (lv_at hl 0 rfl) ?_
  have hP0 : va_P G.1 vwCl (((zb_5 G a) ++ ((zb_L G a.2.2.1 L) ++ ((zb_M G a.2.2.1 L) ++ zb_H G a.2.2.2.2.1.1 a.2.2.2.2.1.2.1 a.2.2.2.2.1.2.2 S (nI o) (nI cn)))) ++ ([] : va_W)) s.heap := by rw [List.append_nil]; exact hP
  have hD0 : va_D A (((zb_5 G a) ++ ((zb_L G a.2.2.1 L) ++ ((zb_M G a.2.2.1 L) ++ zb_H G a.2.2.2.2.1.1 a.2.2.2.2.1.2.1 a.2.2.2.2.1.2.2 S (nI o) (nI cn)))) ++ ([] : va_W)) := by rw [List.append_nil]; exact hD
  refine zk_callXIc (wr := ([] : va_W)) (vx_runV (As := []) (rest := []) ⟨hx, hb, hml, hown, hts⟩ (c_X5_undo l G hst a L n t hI S o cn ho hcn _) (cwV 0 hts gL_tryUndo_X5_undo rfl rfl rfl (by decide +kernel) ⟨Nat.le_of_ble_eq_true rfl, Nat.le_of_ble_eq_true rfl⟩) (zk_preV hE hA0 hS (zk_Papp hP0).1 (zk_Dapp hD0).1 (va_recv hK hP0 (ci := 4) (q0 := 0) rfl rfl)) rfl rfl hl.1 rfl (lv_room (Nat.le_of_ble_eq_true rfl)) dL_tryUndo_1 ⟨Nat.le_of_ble_eq_true rfl, Nat.le_of_ble_eq_true rfl⟩) hP0 hD0 hS hA (fun E ce q9 H locs hpx hP hD hS hce hcv hcl => ?_) (fun r u H locs hpost hP hD hS => ?_)
  · rw [List.append_nil] at hP hD
    have hpx2 := hpx
    obtain ⟨rfl, hno⟩ := hpx
    refine vx_catch hown [] ⟨0, 4, 5, 16⟩ [] (by rw [hTab]; rfl) (fun z hz => absurd hz List.not_mem_nil) (by decide) (by decide) w1 (va_Nw.use rfl hE.2.1.2.2.2.2.2.2.2.2.2.2.2.2) hce hcv hcl ?_
    have hP : va_P G.1 vwCl ((zb_5 G a) ++ ((zb_L G a.2.2.1 L) ++ ((zb_M G a.2.2.1 L) ++ zb_H G a.2.2.2.2.1.1 a.2.2.2.2.1.2.1 a.2.2.2.2.1.2.2 S (nI o) (nI cn)))) H := hP
    have hD : va_D A ((zb_5 G a) ++ ((zb_L G a.2.2.1 L) ++ ((zb_M G a.2.2.1 L) ++ zb_H G a.2.2.2.2.1.1 a.2.2.2.2.1.2.1 a.2.2.2.2.1.2.2 S (nI o) (nI cn)))) := hD
    refine lv_astore_n (lv' := [(1, .ref q9), (0, .ref a.1)]) hx hb dL_tryUndo_5 rfl hl (by decide) rfl (fun ls hl => ?_)
    refine lv_ldc hx hb (v := (-9999003)) hown w2 dL_tryUndo_6 ?_
    rw [hQ]
    refine vx_ret ?_
    exact zk_reti none rfl hx hb hr hlocks hS hP hD (Nat.le_of_ble_eq_true rfl) (Nat.le_of_ble_eq_true rfl) dL_tryUndo_8 (⟨"java/lang/IllegalStateException", hpx2, zc_3 _ _ _⟩)
  · rw [List.append_nil] at hP hD
    have hP : va_P G.1 vwCl ((zb_5 G a) ++ ((zb_L G a.2.2.1 (S ((o + (cn - 1)) % 14))) ++ ((zb_M G a.2.2.1 (S ((o + (cn - 1)) % 14))) ++ zb_H G a.2.2.2.2.1.1 a.2.2.2.2.1.2.1 a.2.2.2.2.1.2.2 S (nI o) (nI (cn - 1))))) H := hP
    have hD : va_D A ((zb_5 G a) ++ ((zb_L G a.2.2.1 (S ((o + (cn - 1)) % 14))) ++ ((zb_M G a.2.2.1 (S ((o + (cn - 1)) % 14))) ++ zb_H G a.2.2.2.2.1.1 a.2.2.2.2.1.2.1 a.2.2.2.2.1.2.2 S (nI o) (nI (cn - 1))))) := hD
    rw [hQ]
    refine vx_ret ?_
    exact zk_reti (some u) rfl hx hb hr hlocks hS hP hD (Nat.le_of_ble_eq_true rfl) (Nat.le_of_ble_eq_true rfl) dL_tryUndo_4 (hpost)

abbrev rmL_tryRefusedOn : Room := { frames := 8, cells := 2, slots := 12, locals := 124 }
set_option maxHeartbeats 4000000 in
set_option maxRecDepth 100000 in
theorem c_L_tryRefusedOn (l : Launch) (G : zk_G) (hst : l.stackTraces = false) (a : zA) (L : zL) (n t : Nat) (hI : sInv L n t) (c : Int32) (Z : zL) : zk_IH (S := Option (zL)) l yL_tryRefusedOn wsL_tryRefusedOn rmL_tryRefusedOn G [.ref a.1, .int c] ((zb_5 G a) ++ ((zb_L G a.2.2.1 L) ++ ((zb_M G a.2.2.1 L) ++ ((zb_L G a.2.2.2.1 Z) ++ zb_M G a.2.2.2.1 Z)))) (fun r u => match u with | some v0 => (fun r _ => sHas L c ∧ r = sOpt (sSp L n t (L 1 c.toNatClampNeg) c 40).1) r v0 | none => ∃ E, (fun E => E = "java/lang/IndexOutOfBoundsException" ∧ ¬ sHas L c) E ∧ zcode E (-9999001) (-9999002) (-9999003) r) (fun u => match u with | some v0 => (zb_5 G a) ++ ((zb_L G a.2.2.1 L) ++ ((zb_M G a.2.2.1 L) ++ ((zb_L G a.2.2.2.1 v0) ++ zb_M G a.2.2.2.1 v0))) | none => (zb_5 G a) ++ ((zb_L G a.2.2.1 L) ++ ((zb_M G a.2.2.1 L) ++ ((zb_L G a.2.2.2.1 Z) ++ zb_M G a.2.2.2.1 Z)))) := by
  refine zk_bodyIH (cc := cL_tryRefusedOn) (maxL := 3) (ret := (some .int)) (hh := [(0, 5, 6, 13)]) (by decide) rfl (Nat.le_of_ble_eq_true rfl) ?_
  intro p E0 s m args below meth cd A ls Q hF hNC hTab hQ
  obtain ⟨hx, hb, hml, hr, hts, hown, hlocks, -, hE, hP, hD, hS, hA, hA0, hl⟩ := hF
  have hK := hE.1
  have hl : lv_has ls 3 [(0, .ref a.1), (1, .int c)] := hl
  have w1 := hts _ (List.mem_of_getElem? (l := wsL_tryRefusedOn) (i := 1) (a := Cond.classLink RL 13 "java/lang/IndexOutOfBoundsException") rfl)
  have w2 := hts _ (List.mem_of_getElem? (l := wsL_tryRefusedOn) (i := 2) (a := Cond.constant RL 15 (-9999001)) rfl)
  refine lv_aload_n hx hb dL_tryRefusedOn_0 rfl (lv_at hl 0 rfl) ?_
  refine lv_iload_n hx hb dL_tryRefusedOn_1 rfl (lv_at hl 1 rfl) ?_
  have hP0 : va_P G.1 vwCl (((zb_5 G a) ++ ((zb_L G a.2.2.1 L) ++ ((zb_M G a.2.2.1 L) ++ ((zb_L G a.2.2.2.1 Z) ++ zb_M G a.2.2.2.1 Z)))) ++ ([] : va_W)) s.heap := by rw [List.append_nil]; exact hP
  have hD0 : va_D A (((zb_5 G a) ++ ((zb_L G a.2.2.1 L) ++ ((zb_M G a.2.2.1 L) ++ ((zb_L G a.2.2.2.1 Z) ++ zb_M G a.2.2.2.1 Z)))) ++ ([] : va_W)) := by rw [List.append_nil]; exact hD
  refine zk_callXIc (wr := ([] : va_W)) (vx_runV (As := [.int c]) (rest := []) ⟨hx, hb, hml, hown, hts⟩ (c_X5_refusedOn l G hst a L n t hI c Z _) (cwV 1 hts gL_tryRefusedOn_X5_refusedOn rfl rfl rfl (by decide +kernel) ⟨Nat.le_of_ble_eq_true rfl, Nat.le_of_ble_eq_true rfl⟩) (zk_preV hE hA0 hS (zk_Papp hP0).1 (zk_Dapp hD0).1 (va_recv hK hP0 (ci := 4) (q0 := 0) rfl rfl)) rfl rfl hl.1 rfl (lv_room (Nat.le_of_ble_eq_true rfl)) dL_tryRefusedOn_2 ⟨Nat.le_of_ble_eq_true rfl, Nat.le_of_ble_eq_true rfl⟩) hP0 hD0 hS hA (fun E ce q9 H locs hpx hP hD hS hce hcv hcl => ?_) (fun r u H locs hpost hP hD hS => ?_)
  · rw [List.append_nil] at hP hD
    have hpx2 := hpx
    obtain ⟨rfl, hno⟩ := hpx
    refine vx_catch hown [] ⟨0, 5, 6, 13⟩ [] (by rw [hTab]; rfl) (fun z hz => absurd hz List.not_mem_nil) (by decide) (by decide) w1 (va_Nw.use rfl hE.2.1.2.2.2.2.2.2.2.2.2.2.1) hce hcv hcl ?_
    have hP : va_P G.1 vwCl ((zb_5 G a) ++ ((zb_L G a.2.2.1 L) ++ ((zb_M G a.2.2.1 L) ++ ((zb_L G a.2.2.2.1 Z) ++ zb_M G a.2.2.2.1 Z)))) H := hP
    have hD : va_D A ((zb_5 G a) ++ ((zb_L G a.2.2.1 L) ++ ((zb_M G a.2.2.1 L) ++ ((zb_L G a.2.2.2.1 Z) ++ zb_M G a.2.2.2.1 Z)))) := hD
    refine lv_astore_n (lv' := [(2, .ref q9), (0, .ref a.1), (1, .int c)]) hx hb dL_tryRefusedOn_6 rfl hl (by decide) rfl (fun ls hl => ?_)
    refine lv_ldc hx hb (v := (-9999001)) hown w2 dL_tryRefusedOn_7 ?_
    rw [hQ]
    refine vx_ret ?_
    exact zk_reti none rfl hx hb hr hlocks hS hP hD (Nat.le_of_ble_eq_true rfl) (Nat.le_of_ble_eq_true rfl) dL_tryRefusedOn_9 (⟨"java/lang/IndexOutOfBoundsException", hpx2, zc_1 _ _ _⟩)
  · rw [List.append_nil] at hP hD
    have hP : va_P G.1 vwCl ((zb_5 G a) ++ ((zb_L G a.2.2.1 L) ++ ((zb_M G a.2.2.1 L) ++ ((zb_L G a.2.2.2.1 u) ++ zb_M G a.2.2.2.1 u)))) H := hP
    have hD : va_D A ((zb_5 G a) ++ ((zb_L G a.2.2.1 L) ++ ((zb_M G a.2.2.1 L) ++ ((zb_L G a.2.2.2.1 u) ++ zb_M G a.2.2.2.1 u)))) := hD
    rw [hQ]
    refine vx_ret ?_
    exact zk_reti (some u) rfl hx hb hr hlocks hS hP hD (Nat.le_of_ble_eq_true rfl) (Nat.le_of_ble_eq_true rfl) dL_tryRefusedOn_5 (hpost)

abbrev rmL_tryNeeds : Room := { frames := 8, cells := 2, slots := 12, locals := 125 }
set_option maxHeartbeats 4000000 in
set_option maxRecDepth 100000 in
theorem c_L_tryNeeds (l : Launch) (G : zk_G) (hst : l.stackTraces = false) (a : zA) (L : zL) (n t : Nat) (hI : sInv L n t) (f : Int32) (Z : zL) : zk_IH (S := Option (zL)) l yL_tryNeeds wsL_tryNeeds rmL_tryNeeds G [.ref a.1, .int f] ((zb_5 G a) ++ ((zb_L G a.2.2.1 L) ++ ((zb_M G a.2.2.1 L) ++ ((zb_L G a.2.2.2.1 Z) ++ zb_M G a.2.2.2.1 Z)))) (fun r u => match u with | some v0 => (fun r _ => sFam f ∧ ((∃ lo, lo < n ∧ L 1 lo = f ∧ (∀ j, j < lo → ¬ L 1 j = f) ∧ ((∃ k, k ≤ 200 ∧ r = nI (100 * k) ∧ nTry L n t f lo k ∧ ∀ j, j < k → ¬ nTry L n t f lo j) ∨ (r = -1 ∧ ∀ j, j < 201 → ¬ nTry L n t f lo j))) ∨ (r = -1 ∧ ∀ j, j < n → ¬ L 1 j = f))) r v0 | none => ∃ E, (fun E => E = "java/lang/IndexOutOfBoundsException" ∧ ¬ sFam f) E ∧ zcode E (-9999001) (-9999002) (-9999003) r) (fun u => match u with | some v0 => (zb_5 G a) ++ ((zb_L G a.2.2.1 L) ++ ((zb_M G a.2.2.1 L) ++ ((zb_L G a.2.2.2.1 v0) ++ zb_M G a.2.2.2.1 v0))) | none => (zb_5 G a) ++ ((zb_L G a.2.2.1 L) ++ ((zb_M G a.2.2.1 L) ++ ((zb_L G a.2.2.2.1 Z) ++ zb_M G a.2.2.2.1 Z)))) := by
  refine zk_bodyIH (cc := cL_tryNeeds) (maxL := 3) (ret := (some .int)) (hh := [(0, 5, 6, 13)]) (by decide) rfl (Nat.le_of_ble_eq_true rfl) ?_
  intro p E0 s m args below meth cd A ls Q hF hNC hTab hQ
  obtain ⟨hx, hb, hml, hr, hts, hown, hlocks, -, hE, hP, hD, hS, hA, hA0, hl⟩ := hF
  have hK := hE.1
  have hl : lv_has ls 3 [(0, .ref a.1), (1, .int f)] := hl
  have w1 := hts _ (List.mem_of_getElem? (l := wsL_tryNeeds) (i := 1) (a := Cond.classLink RL 13 "java/lang/IndexOutOfBoundsException") rfl)
  have w2 := hts _ (List.mem_of_getElem? (l := wsL_tryNeeds) (i := 2) (a := Cond.constant RL 15 (-9999001)) rfl)
  refine lv_aload_n hx hb dL_tryNeeds_0 rfl (lv_at hl 0 rfl) ?_
  refine lv_iload_n hx hb dL_tryNeeds_1 rfl (lv_at hl 1 rfl) ?_
  have hP0 : va_P G.1 vwCl (((zb_5 G a) ++ ((zb_L G a.2.2.1 L) ++ ((zb_M G a.2.2.1 L) ++ ((zb_L G a.2.2.2.1 Z) ++ zb_M G a.2.2.2.1 Z)))) ++ ([] : va_W)) s.heap := by rw [List.append_nil]; exact hP
  have hD0 : va_D A (((zb_5 G a) ++ ((zb_L G a.2.2.1 L) ++ ((zb_M G a.2.2.1 L) ++ ((zb_L G a.2.2.2.1 Z) ++ zb_M G a.2.2.2.1 Z)))) ++ ([] : va_W)) := by rw [List.append_nil]; exact hD
  refine zk_callXIc (wr := ([] : va_W)) (vx_runV (As := [.int f]) (rest := []) ⟨hx, hb, hml, hown, hts⟩ (c_X5_needs l G hst a L n t hI f Z _) (cwV 1 hts gL_tryNeeds_X5_needs rfl rfl rfl (by decide +kernel) ⟨Nat.le_of_ble_eq_true rfl, Nat.le_of_ble_eq_true rfl⟩) (zk_preV hE hA0 hS (zk_Papp hP0).1 (zk_Dapp hD0).1 (va_recv hK hP0 (ci := 4) (q0 := 0) rfl rfl)) rfl rfl hl.1 rfl (lv_room (Nat.le_of_ble_eq_true rfl)) dL_tryNeeds_2 ⟨Nat.le_of_ble_eq_true rfl, Nat.le_of_ble_eq_true rfl⟩) hP0 hD0 hS hA (fun E ce q9 H locs hpx hP hD hS hce hcv hcl => ?_) (fun r u H locs hpost hP hD hS => ?_)
  · rw [List.append_nil] at hP hD
    have hpx2 := hpx
    obtain ⟨rfl, hno⟩ := hpx
    refine vx_catch hown [] ⟨0, 5, 6, 13⟩ [] (by rw [hTab]; rfl) (fun z hz => absurd hz List.not_mem_nil) (by decide) (by decide) w1 (va_Nw.use rfl hE.2.1.2.2.2.2.2.2.2.2.2.2.1) hce hcv hcl ?_
    have hP : va_P G.1 vwCl ((zb_5 G a) ++ ((zb_L G a.2.2.1 L) ++ ((zb_M G a.2.2.1 L) ++ ((zb_L G a.2.2.2.1 Z) ++ zb_M G a.2.2.2.1 Z)))) H := hP
    have hD : va_D A ((zb_5 G a) ++ ((zb_L G a.2.2.1 L) ++ ((zb_M G a.2.2.1 L) ++ ((zb_L G a.2.2.2.1 Z) ++ zb_M G a.2.2.2.1 Z)))) := hD
    refine lv_astore_n (lv' := [(2, .ref q9), (0, .ref a.1), (1, .int f)]) hx hb dL_tryNeeds_6 rfl hl (by decide) rfl (fun ls hl => ?_)
    refine lv_ldc hx hb (v := (-9999001)) hown w2 dL_tryNeeds_7 ?_
    rw [hQ]
    refine vx_ret ?_
    exact zk_reti none rfl hx hb hr hlocks hS hP hD (Nat.le_of_ble_eq_true rfl) (Nat.le_of_ble_eq_true rfl) dL_tryNeeds_9 (⟨"java/lang/IndexOutOfBoundsException", hpx2, zc_1 _ _ _⟩)
  · rw [List.append_nil] at hP hD
    have hP : va_P G.1 vwCl ((zb_5 G a) ++ ((zb_L G a.2.2.1 L) ++ ((zb_M G a.2.2.1 L) ++ ((zb_L G a.2.2.2.1 u) ++ zb_M G a.2.2.2.1 u)))) H := hP
    have hD : va_D A ((zb_5 G a) ++ ((zb_L G a.2.2.1 L) ++ ((zb_M G a.2.2.1 L) ++ ((zb_L G a.2.2.2.1 u) ++ zb_M G a.2.2.2.1 u)))) := hD
    rw [hQ]
    refine vx_ret ?_
    exact zk_reti (some u) rfl hx hb hr hlocks hS hP hD (Nat.le_of_ble_eq_true rfl) (Nat.le_of_ble_eq_true rfl) dL_tryNeeds_5 (hpost)

abbrev rmL_tryIfEntitled : Room := { frames := 8, cells := 2, slots := 12, locals := 125 }
set_option maxHeartbeats 4000000 in
set_option maxRecDepth 100000 in
theorem c_L_tryIfEntitled (l : Launch) (G : zk_G) (hst : l.stackTraces = false) (a : zA) (L : zL) (n t : Nat) (hI : sInv L n t) (c fr to : Int32) (Z : zL) : zk_IH (S := Option (zL)) l yL_tryIfEntitled wsL_tryIfEntitled rmL_tryIfEntitled G [.ref a.1, .int c, .int fr, .int to] ((zb_5 G a) ++ ((zb_L G a.2.2.1 L) ++ ((zb_M G a.2.2.1 L) ++ ((zb_L G a.2.2.2.1 Z) ++ zb_M G a.2.2.2.1 Z)))) (fun r u => match u with | some v0 => (fun r _ => sfEnt L c fr to = 0 ∧ r = zs (sEntitle L t c.toNatClampNeg fr to 3) n - zs (L 3) n) r v0 | none => ∃ E, (fun E => (E = "java/lang/IndexOutOfBoundsException" ∧ sfEnt L c fr to = nI 1) ∨ (E = "java/lang/IllegalArgumentException" ∧ sfEnt L c fr to = nI 2) ∨ (E = "java/lang/IllegalStateException" ∧ sfEnt L c fr to = nI 3)) E ∧ zcode E (-9999001) (-9999002) (-9999003) r) (fun u => match u with | some v0 => (zb_5 G a) ++ ((zb_L G a.2.2.1 L) ++ ((zb_M G a.2.2.1 L) ++ ((zb_L G a.2.2.2.1 v0) ++ zb_M G a.2.2.2.1 v0))) | none => (zb_5 G a) ++ ((zb_L G a.2.2.1 L) ++ ((zb_M G a.2.2.1 L) ++ ((zb_L G a.2.2.2.1 Z) ++ zb_M G a.2.2.2.1 Z)))) := by
  refine zk_bodyIH (cc := cL_tryIfEntitled) (maxL := 5) (ret := (some .int)) (hh := [(0, 7, 8, 13), (0, 7, 13, 27)]) (by decide) rfl (Nat.le_of_ble_eq_true rfl) ?_
  intro p E0 s m args below meth cd A ls Q hF hNC hTab hQ
  obtain ⟨hx, hb, hml, hr, hts, hown, hlocks, -, hE, hP, hD, hS, hA, hA0, hl⟩ := hF
  have hK := hE.1
  have hl : lv_has ls 5 [(0, .ref a.1), (1, .int c), (2, .int fr), (3, .int to)] := hl
  have w1 := hts _ (List.mem_of_getElem? (l := wsL_tryIfEntitled) (i := 1) (a := Cond.classLink RL 13 "java/lang/IndexOutOfBoundsException") rfl)
  have w3 := hts _ (List.mem_of_getElem? (l := wsL_tryIfEntitled) (i := 3) (a := Cond.constant RL 15 (-9999001)) rfl)
  have w2 := hts _ (List.mem_of_getElem? (l := wsL_tryIfEntitled) (i := 2) (a := Cond.classLink RL 27 "java/lang/IllegalArgumentException") rfl)
  have w4 := hts _ (List.mem_of_getElem? (l := wsL_tryIfEntitled) (i := 4) (a := Cond.constant RL 29 (-9999002)) rfl)
  refine lv_aload_n hx hb dL_tryIfEntitled_0 rfl (lv_at hl 0 rfl) ?_
  refine lv_iload_n hx hb dL_tryIfEntitled_1 rfl (lv_at hl 1 rfl) ?_
  refine lv_iload_n hx hb dL_tryIfEntitled_2 rfl (lv_at hl 2 rfl) ?_
  refine lv_iload_n hx hb dL_tryIfEntitled_3 rfl (lv_at hl 3 rfl) ?_
  have hP0 : va_P G.1 vwCl (((zb_5 G a) ++ ((zb_L G a.2.2.1 L) ++ ((zb_M G a.2.2.1 L) ++ ((zb_L G a.2.2.2.1 Z) ++ zb_M G a.2.2.2.1 Z)))) ++ ([] : va_W)) s.heap := by rw [List.append_nil]; exact hP
  have hD0 : va_D A (((zb_5 G a) ++ ((zb_L G a.2.2.1 L) ++ ((zb_M G a.2.2.1 L) ++ ((zb_L G a.2.2.2.1 Z) ++ zb_M G a.2.2.2.1 Z)))) ++ ([] : va_W)) := by rw [List.append_nil]; exact hD
  refine zk_callXIc (wr := ([] : va_W)) (vx_runV (As := [.int c, .int fr, .int to]) (rest := []) ⟨hx, hb, hml, hown, hts⟩ (c_X5_ifEntitled l G hst a L n t hI c fr to Z _) (cwV 3 hts gL_tryIfEntitled_X5_ifEntitled rfl rfl rfl (by decide +kernel) ⟨Nat.le_of_ble_eq_true rfl, Nat.le_of_ble_eq_true rfl⟩) (zk_preV hE hA0 hS (zk_Papp hP0).1 (zk_Dapp hD0).1 (va_recv hK hP0 (ci := 4) (q0 := 0) rfl rfl)) rfl rfl hl.1 rfl (lv_room (Nat.le_of_ble_eq_true rfl)) dL_tryIfEntitled_4 ⟨Nat.le_of_ble_eq_true rfl, Nat.le_of_ble_eq_true rfl⟩) hP0 hD0 hS hA (fun E ce q9 H locs hpx hP hD hS hce hcv hcl => ?_) (fun r u H locs hpost hP hD hS => ?_)
  · rw [List.append_nil] at hP hD
    have hpx2 := hpx
    rcases hpx with ⟨rfl, hno⟩ | ⟨rfl, hno⟩ | ⟨rfl, hno⟩
    · refine vx_catch hown [] ⟨0, 7, 8, 13⟩ [⟨0, 7, 13, 27⟩] (by rw [hTab]; rfl) (fun z hz => absurd hz List.not_mem_nil) (by decide) (by decide) w1 (va_Nw.use rfl hE.2.1.2.2.2.2.2.2.2.2.2.2.1) hce hcv hcl ?_
      have hP : va_P G.1 vwCl ((zb_5 G a) ++ ((zb_L G a.2.2.1 L) ++ ((zb_M G a.2.2.1 L) ++ ((zb_L G a.2.2.2.1 Z) ++ zb_M G a.2.2.2.1 Z)))) H := hP
      have hD : va_D A ((zb_5 G a) ++ ((zb_L G a.2.2.1 L) ++ ((zb_M G a.2.2.1 L) ++ ((zb_L G a.2.2.2.1 Z) ++ zb_M G a.2.2.2.1 Z)))) := hD
      refine lv_astore (lv' := [(4, .ref q9), (0, .ref a.1), (1, .int c), (2, .int fr), (3, .int to)]) hx hb dL_tryIfEntitled_8 hl (by decide) rfl (fun ls hl => ?_)
      refine lv_ldc hx hb (v := (-9999001)) hown w3 dL_tryIfEntitled_10 ?_
      rw [hQ]
      refine vx_ret ?_
      exact zk_reti none rfl hx hb hr hlocks hS hP hD (Nat.le_of_ble_eq_true rfl) (Nat.le_of_ble_eq_true rfl) dL_tryIfEntitled_12 (⟨"java/lang/IndexOutOfBoundsException", hpx2, zc_1 _ _ _⟩)
    · refine vx_catch hown [⟨0, 7, 8, 13⟩] ⟨0, 7, 13, 27⟩ [] (by rw [hTab]; rfl) (List.forall_mem_cons.mpr ⟨Or.inr ⟨by decide, "java/lang/IndexOutOfBoundsException", w1, hNC.1.2⟩, fun z hz => absurd hz List.not_mem_nil⟩) (by decide) (by decide) w2 (va_Nw.use rfl hE.2.1.2.2.2.2.2.2.2.2.2.2.2.1) hce hcv hcl ?_
      have hP : va_P G.1 vwCl ((zb_5 G a) ++ ((zb_L G a.2.2.1 L) ++ ((zb_M G a.2.2.1 L) ++ ((zb_L G a.2.2.2.1 Z) ++ zb_M G a.2.2.2.1 Z)))) H := hP
      have hD : va_D A ((zb_5 G a) ++ ((zb_L G a.2.2.1 L) ++ ((zb_M G a.2.2.1 L) ++ ((zb_L G a.2.2.2.1 Z) ++ zb_M G a.2.2.2.1 Z)))) := hD
      refine lv_astore (lv' := [(4, .ref q9), (0, .ref a.1), (1, .int c), (2, .int fr), (3, .int to)]) hx hb dL_tryIfEntitled_13 hl (by decide) rfl (fun ls hl => ?_)
      refine lv_ldc hx hb (v := (-9999002)) hown w4 dL_tryIfEntitled_15 ?_
      rw [hQ]
      refine vx_ret ?_
      exact zk_reti none rfl hx hb hr hlocks hS hP hD (Nat.le_of_ble_eq_true rfl) (Nat.le_of_ble_eq_true rfl) dL_tryIfEntitled_17 (⟨"java/lang/IllegalArgumentException", hpx2, zc_2 _ _ _⟩)
    · exact absurd hno (by unfold sfEnt; (repeat' split) <;> decide)
  · rw [List.append_nil] at hP hD
    have hP : va_P G.1 vwCl ((zb_5 G a) ++ ((zb_L G a.2.2.1 L) ++ ((zb_M G a.2.2.1 L) ++ ((zb_L G a.2.2.2.1 u) ++ zb_M G a.2.2.2.1 u)))) H := hP
    have hD : va_D A ((zb_5 G a) ++ ((zb_L G a.2.2.1 L) ++ ((zb_M G a.2.2.1 L) ++ ((zb_L G a.2.2.2.1 u) ++ zb_M G a.2.2.2.1 u)))) := hD
    rw [hQ]
    refine vx_ret ?_
    exact zk_reti (some u) rfl hx hb hr hlocks hS hP hD (Nat.le_of_ble_eq_true rfl) (Nat.le_of_ble_eq_true rfl) dL_tryIfEntitled_7 (hpost)

abbrev rmL_tryIfPrice : Room := { frames := 7, cells := 1, slots := 6, locals := 114 }
set_option maxHeartbeats 4000000 in
set_option maxRecDepth 100000 in
theorem c_L_tryIfPrice (l : Launch) (G : zk_G) (hst : l.stackTraces = false) (a : zA) (L : zL) (n t : Nat) (hI : sInv L n t) (pr : Int32) (Z : zL) : zk_IH (S := Option (zL)) l yL_tryIfPrice wsL_tryIfPrice rmL_tryIfPrice G [.ref a.1, .int pr] ((zb_5 G a) ++ ((zb_L G a.2.2.1 L) ++ ((zb_M G a.2.2.1 L) ++ ((zb_L G a.2.2.2.1 Z) ++ zb_M G a.2.2.2.1 Z)))) (fun r u => match u with | some v0 => (fun r _ => ¬ pr < nI 1 ∧ ¬ nI 999 < pr ∧ r = (sDays n t (40 - t) (up2 L 0 2 pr)).1) r v0 | none => ∃ E, (fun E => E = "java/lang/IllegalArgumentException" ∧ (pr < nI 1 ∨ nI 999 < pr)) E ∧ zcode E (-9999001) (-9999002) (-9999003) r) (fun u => match u with | some v0 => (zb_5 G a) ++ ((zb_L G a.2.2.1 L) ++ ((zb_M G a.2.2.1 L) ++ ((zb_L G a.2.2.2.1 v0) ++ zb_M G a.2.2.2.1 v0))) | none => (zb_5 G a) ++ ((zb_L G a.2.2.1 L) ++ ((zb_M G a.2.2.1 L) ++ ((zb_L G a.2.2.2.1 Z) ++ zb_M G a.2.2.2.1 Z)))) := by
  refine zk_bodyIH (cc := cL_tryIfPrice) (maxL := 3) (ret := (some .int)) (hh := [(0, 5, 6, 27)]) (by decide) rfl (Nat.le_of_ble_eq_true rfl) ?_
  intro p E0 s m args below meth cd A ls Q hF hNC hTab hQ
  obtain ⟨hx, hb, hml, hr, hts, hown, hlocks, -, hE, hP, hD, hS, hA, hA0, hl⟩ := hF
  have hK := hE.1
  have hl : lv_has ls 3 [(0, .ref a.1), (1, .int pr)] := hl
  have w1 := hts _ (List.mem_of_getElem? (l := wsL_tryIfPrice) (i := 1) (a := Cond.classLink RL 27 "java/lang/IllegalArgumentException") rfl)
  have w2 := hts _ (List.mem_of_getElem? (l := wsL_tryIfPrice) (i := 2) (a := Cond.constant RL 29 (-9999002)) rfl)
  refine lv_aload_n hx hb dL_tryIfPrice_0 rfl (lv_at hl 0 rfl) ?_
  refine lv_iload_n hx hb dL_tryIfPrice_1 rfl (lv_at hl 1 rfl) ?_
  have hP0 : va_P G.1 vwCl (((zb_5 G a) ++ ((zb_L G a.2.2.1 L) ++ ((zb_M G a.2.2.1 L) ++ ((zb_L G a.2.2.2.1 Z) ++ zb_M G a.2.2.2.1 Z)))) ++ ([] : va_W)) s.heap := by rw [List.append_nil]; exact hP
  have hD0 : va_D A (((zb_5 G a) ++ ((zb_L G a.2.2.1 L) ++ ((zb_M G a.2.2.1 L) ++ ((zb_L G a.2.2.2.1 Z) ++ zb_M G a.2.2.2.1 Z)))) ++ ([] : va_W)) := by rw [List.append_nil]; exact hD
  refine zk_callXIc (wr := ([] : va_W)) (vx_runV (As := [.int pr]) (rest := []) ⟨hx, hb, hml, hown, hts⟩ (c_X5_ifPrice l G hst a L n t hI pr Z _) (cwV 1 hts gL_tryIfPrice_X5_ifPrice rfl rfl rfl (by decide +kernel) ⟨Nat.le_of_ble_eq_true rfl, Nat.le_of_ble_eq_true rfl⟩) (zk_preV hE hA0 hS (zk_Papp hP0).1 (zk_Dapp hD0).1 (va_recv hK hP0 (ci := 4) (q0 := 0) rfl rfl)) rfl rfl hl.1 rfl (lv_room (Nat.le_of_ble_eq_true rfl)) dL_tryIfPrice_2 ⟨Nat.le_of_ble_eq_true rfl, Nat.le_of_ble_eq_true rfl⟩) hP0 hD0 hS hA (fun E ce q9 H locs hpx hP hD hS hce hcv hcl => ?_) (fun r u H locs hpost hP hD hS => ?_)
  · rw [List.append_nil] at hP hD
    have hpx2 := hpx
    obtain ⟨rfl, hno⟩ := hpx
    refine vx_catch hown [] ⟨0, 5, 6, 27⟩ [] (by rw [hTab]; rfl) (fun z hz => absurd hz List.not_mem_nil) (by decide) (by decide) w1 (va_Nw.use rfl hE.2.1.2.2.2.2.2.2.2.2.2.2.2.1) hce hcv hcl ?_
    have hP : va_P G.1 vwCl ((zb_5 G a) ++ ((zb_L G a.2.2.1 L) ++ ((zb_M G a.2.2.1 L) ++ ((zb_L G a.2.2.2.1 Z) ++ zb_M G a.2.2.2.1 Z)))) H := hP
    have hD : va_D A ((zb_5 G a) ++ ((zb_L G a.2.2.1 L) ++ ((zb_M G a.2.2.1 L) ++ ((zb_L G a.2.2.2.1 Z) ++ zb_M G a.2.2.2.1 Z)))) := hD
    refine lv_astore_n (lv' := [(2, .ref q9), (0, .ref a.1), (1, .int pr)]) hx hb dL_tryIfPrice_6 rfl hl (by decide) rfl (fun ls hl => ?_)
    refine lv_ldc hx hb (v := (-9999002)) hown w2 dL_tryIfPrice_7 ?_
    rw [hQ]
    refine vx_ret ?_
    exact zk_reti none rfl hx hb hr hlocks hS hP hD (Nat.le_of_ble_eq_true rfl) (Nat.le_of_ble_eq_true rfl) dL_tryIfPrice_9 (⟨"java/lang/IllegalArgumentException", hpx2, zc_2 _ _ _⟩)
  · rw [List.append_nil] at hP hD
    have hP : va_P G.1 vwCl ((zb_5 G a) ++ ((zb_L G a.2.2.1 L) ++ ((zb_M G a.2.2.1 L) ++ ((zb_L G a.2.2.2.1 u) ++ zb_M G a.2.2.2.1 u)))) H := hP
    have hD : va_D A ((zb_5 G a) ++ ((zb_L G a.2.2.1 L) ++ ((zb_M G a.2.2.1 L) ++ ((zb_L G a.2.2.2.1 u) ++ zb_M G a.2.2.2.1 u)))) := hD
    rw [hQ]
    refine vx_ret ?_
    exact zk_reti (some u) rfl hx hb hr hlocks hS hP hD (Nat.le_of_ble_eq_true rfl) (Nat.le_of_ble_eq_true rfl) dL_tryIfPrice_5 (hpost)

abbrev rmL_tryScript : Room := { frames := 9, cells := 1, slots := 6, locals := 207 }
set_option maxHeartbeats 4000000 in
set_option maxRecDepth 100000 in
theorem c_L_tryScript (l : Launch) (G : zk_G) (hst : l.stackTraces = false) (a : zA) (L : zL) (n t : Nat) (hI : sInv L n t) (nn : Int32) (sc : Int64) (Z : zL) : zk_IH (S := Option (zL)) l yL_tryScript wsL_tryScript rmL_tryScript G [.ref a.1, .int nn, .long sc] ((zb_5 G a) ++ ((zb_L G a.2.2.1 L) ++ ((zb_M G a.2.2.1 L) ++ ((zb_L G a.2.2.2.1 Z) ++ zb_M G a.2.2.2.1 Z)))) (fun r u => match u with | some v0 => (fun r _ => ¬ nn < nI 1 ∧ ¬ nI 3 < nn ∧ ¬ sc < lN 0 ∧ ¬ lN 0 < wLg sc nn.toNatClampNeg ∧ r = sOpt (rRun L sc nn.toNatClampNeg nn.toNatClampNeg).1) r v0 | none => ∃ E, (fun E => E = "java/lang/IllegalArgumentException" ∧ (nn < nI 1 ∨ nI 3 < nn ∨ sc < lN 0 ∨ lN 0 < wLg sc nn.toNatClampNeg)) E ∧ zcode E (-9999001) (-9999002) (-9999003) r) (fun u => match u with | some v0 => (zb_5 G a) ++ ((zb_L G a.2.2.1 L) ++ ((zb_M G a.2.2.1 L) ++ ((zb_L G a.2.2.2.1 v0) ++ zb_M G a.2.2.2.1 v0))) | none => (zb_5 G a) ++ ((zb_L G a.2.2.1 L) ++ ((zb_M G a.2.2.1 L) ++ ((zb_L G a.2.2.2.1 Z) ++ zb_M G a.2.2.2.1 Z)))) := by
  refine zk_bodyIH (cc := cL_tryScript) (maxL := 5) (ret := (some .int)) (hh := [(0, 6, 7, 27)]) (by decide) rfl (Nat.le_of_ble_eq_true rfl) ?_
  intro p E0 s m args below meth cd A ls Q hF hNC hTab hQ
  obtain ⟨hx, hb, hml, hr, hts, hown, hlocks, -, hE, hP, hD, hS, hA, hA0, hl⟩ := hF
  have hK := hE.1
  have hl : lv_has ls 5 [(0, .ref a.1), (1, .int nn), (2, .long sc)] := hl
  have w1 := hts _ (List.mem_of_getElem? (l := wsL_tryScript) (i := 1) (a := Cond.classLink RL 27 "java/lang/IllegalArgumentException") rfl)
  have w2 := hts _ (List.mem_of_getElem? (l := wsL_tryScript) (i := 2) (a := Cond.constant RL 29 (-9999002)) rfl)
  refine lv_aload_n hx hb dL_tryScript_0 rfl (lv_at hl 0 rfl) ?_
  refine lv_iload_n hx hb dL_tryScript_1 rfl (lv_at hl 1 rfl) ?_
  refine lv_lload_n hx hb dL_tryScript_2 rfl (lv_at hl 2 rfl) ?_
  have hP0 : va_P G.1 vwCl (((zb_5 G a) ++ ((zb_L G a.2.2.1 L) ++ ((zb_M G a.2.2.1 L) ++ ((zb_L G a.2.2.2.1 Z) ++ zb_M G a.2.2.2.1 Z)))) ++ ([] : va_W)) s.heap := by rw [List.append_nil]; exact hP
  have hD0 : va_D A (((zb_5 G a) ++ ((zb_L G a.2.2.1 L) ++ ((zb_M G a.2.2.1 L) ++ ((zb_L G a.2.2.2.1 Z) ++ zb_M G a.2.2.2.1 Z)))) ++ ([] : va_W)) := by rw [List.append_nil]; exact hD
  refine zk_callXIc (wr := ([] : va_W)) (vx_runV (As := [.int nn, .long sc]) (rest := []) ⟨hx, hb, hml, hown, hts⟩ (c_X5_runScript l G hst a L n t hI nn sc Z _) (cwV 2 hts gL_tryScript_X5_runScript rfl rfl rfl (by decide +kernel) ⟨Nat.le_of_ble_eq_true rfl, Nat.le_of_ble_eq_true rfl⟩) (zk_preV hE hA0 hS (zk_Papp hP0).1 (zk_Dapp hD0).1 (va_recv hK hP0 (ci := 4) (q0 := 0) rfl rfl)) rfl rfl hl.1 rfl (lv_room (Nat.le_of_ble_eq_true rfl)) dL_tryScript_3 ⟨Nat.le_of_ble_eq_true rfl, Nat.le_of_ble_eq_true rfl⟩) hP0 hD0 hS hA (fun E ce q9 H locs hpx hP hD hS hce hcv hcl => ?_) (fun r u H locs hpost hP hD hS => ?_)
  · rw [List.append_nil] at hP hD
    have hpx2 := hpx
    obtain ⟨rfl, hno⟩ := hpx
    refine vx_catch hown [] ⟨0, 6, 7, 27⟩ [] (by rw [hTab]; rfl) (fun z hz => absurd hz List.not_mem_nil) (by decide) (by decide) w1 (va_Nw.use rfl hE.2.1.2.2.2.2.2.2.2.2.2.2.2.1) hce hcv hcl ?_
    have hP : va_P G.1 vwCl ((zb_5 G a) ++ ((zb_L G a.2.2.1 L) ++ ((zb_M G a.2.2.1 L) ++ ((zb_L G a.2.2.2.1 Z) ++ zb_M G a.2.2.2.1 Z)))) H := hP
    have hD : va_D A ((zb_5 G a) ++ ((zb_L G a.2.2.1 L) ++ ((zb_M G a.2.2.1 L) ++ ((zb_L G a.2.2.2.1 Z) ++ zb_M G a.2.2.2.1 Z)))) := hD
    refine lv_astore (lv' := [(4, .ref q9), (0, .ref a.1), (1, .int nn), (2, .long sc)]) hx hb dL_tryScript_7 hl (by decide) rfl (fun ls hl => ?_)
    refine lv_ldc hx hb (v := (-9999002)) hown w2 dL_tryScript_9 ?_
    rw [hQ]
    refine vx_ret ?_
    exact zk_reti none rfl hx hb hr hlocks hS hP hD (Nat.le_of_ble_eq_true rfl) (Nat.le_of_ble_eq_true rfl) dL_tryScript_11 (⟨"java/lang/IllegalArgumentException", hpx2, zc_2 _ _ _⟩)
  · rw [List.append_nil] at hP hD
    have hP : va_P G.1 vwCl ((zb_5 G a) ++ ((zb_L G a.2.2.1 L) ++ ((zb_M G a.2.2.1 L) ++ ((zb_L G a.2.2.2.1 u) ++ zb_M G a.2.2.2.1 u)))) H := hP
    have hD : va_D A ((zb_5 G a) ++ ((zb_L G a.2.2.1 L) ++ ((zb_M G a.2.2.1 L) ++ ((zb_L G a.2.2.2.1 u) ++ zb_M G a.2.2.2.1 u)))) := hD
    rw [hQ]
    refine vx_ret ?_
    exact zk_reti (some u) rfl hx hb hr hlocks hS hP hD (Nat.le_of_ble_eq_true rfl) (Nat.le_of_ble_eq_true rfl) dL_tryScript_6 (hpost)

abbrev rmL_trySimulate : Room := { frames := 9, cells := 1, slots := 6, locals := 207 }
set_option maxHeartbeats 4000000 in
set_option maxRecDepth 100000 in
theorem c_L_trySimulate (l : Launch) (G : zk_G) (hst : l.stackTraces = false) (a : zA) (L : zL) (n t : Nat) (hI : sInv L n t) (seed : Int64) (mm : Int32) (Z : zL) : zk_IH (S := Option (zL)) l yL_trySimulate wsL_trySimulate rmL_trySimulate G [.ref a.1, .long seed, .int mm] ((zb_5 G a) ++ ((zb_L G a.2.2.1 L) ++ ((zb_M G a.2.2.1 L) ++ ((zb_L G a.2.2.2.1 Z) ++ zb_M G a.2.2.2.1 Z)))) (fun r u => match u with | some v0 => (fun r _ => ¬ mm < nI 1 ∧ ¬ nI 99 < mm ∧ r = nI 1000 * (mSrv (mRun L seed mm.toNatClampNeg).2 - mSrv L) + (mRef (mRun L seed mm.toNatClampNeg).2 - mRef L)) r v0 | none => ∃ E, (fun E => E = "java/lang/IllegalArgumentException" ∧ (mm < nI 1 ∨ nI 99 < mm)) E ∧ zcode E (-9999001) (-9999002) (-9999003) r) (fun u => match u with | some v0 => (zb_5 G a) ++ ((zb_L G a.2.2.1 L) ++ ((zb_M G a.2.2.1 L) ++ ((zb_L G a.2.2.2.1 v0) ++ zb_M G a.2.2.2.1 v0))) | none => (zb_5 G a) ++ ((zb_L G a.2.2.1 L) ++ ((zb_M G a.2.2.1 L) ++ ((zb_L G a.2.2.2.1 Z) ++ zb_M G a.2.2.2.1 Z)))) := by
  refine zk_bodyIH (cc := cL_trySimulate) (maxL := 5) (ret := (some .int)) (hh := [(0, 6, 7, 27)]) (by decide) rfl (Nat.le_of_ble_eq_true rfl) ?_
  intro p E0 s m args below meth cd A ls Q hF hNC hTab hQ
  obtain ⟨hx, hb, hml, hr, hts, hown, hlocks, -, hE, hP, hD, hS, hA, hA0, hl⟩ := hF
  have hK := hE.1
  have hl : lv_has ls 5 [(0, .ref a.1), (1, .long seed), (3, .int mm)] := hl
  have w1 := hts _ (List.mem_of_getElem? (l := wsL_trySimulate) (i := 1) (a := Cond.classLink RL 27 "java/lang/IllegalArgumentException") rfl)
  have w2 := hts _ (List.mem_of_getElem? (l := wsL_trySimulate) (i := 2) (a := Cond.constant RL 29 (-9999002)) rfl)
  refine lv_aload_n hx hb dL_trySimulate_0 rfl (lv_at hl 0 rfl) ?_
  refine lv_lload_n hx hb dL_trySimulate_1 rfl (lv_at hl 1 rfl) ?_
  refine lv_iload_n hx hb dL_trySimulate_2 rfl (lv_at hl 2 rfl) ?_
  have hP0 : va_P G.1 vwCl (((zb_5 G a) ++ ((zb_L G a.2.2.1 L) ++ ((zb_M G a.2.2.1 L) ++ ((zb_L G a.2.2.2.1 Z) ++ zb_M G a.2.2.2.1 Z)))) ++ ([] : va_W)) s.heap := by rw [List.append_nil]; exact hP
  have hD0 : va_D A (((zb_5 G a) ++ ((zb_L G a.2.2.1 L) ++ ((zb_M G a.2.2.1 L) ++ ((zb_L G a.2.2.2.1 Z) ++ zb_M G a.2.2.2.1 Z)))) ++ ([] : va_W)) := by rw [List.append_nil]; exact hD
  refine zk_callXIc (wr := ([] : va_W)) (vx_runV (As := [.long seed, .int mm]) (rest := []) ⟨hx, hb, hml, hown, hts⟩ (c_X5_simulate l G hst a L n t hI seed mm Z _) (cwV 2 hts gL_trySimulate_X5_simulate rfl rfl rfl (by decide +kernel) ⟨Nat.le_of_ble_eq_true rfl, Nat.le_of_ble_eq_true rfl⟩) (zk_preV hE hA0 hS (zk_Papp hP0).1 (zk_Dapp hD0).1 (va_recv hK hP0 (ci := 4) (q0 := 0) rfl rfl)) rfl rfl hl.1 rfl (lv_room (Nat.le_of_ble_eq_true rfl)) dL_trySimulate_3 ⟨Nat.le_of_ble_eq_true rfl, Nat.le_of_ble_eq_true rfl⟩) hP0 hD0 hS hA (fun E ce q9 H locs hpx hP hD hS hce hcv hcl => ?_) (fun r u H locs hpost hP hD hS => ?_)
  · rw [List.append_nil] at hP hD
    have hpx2 := hpx
    obtain ⟨rfl, hno⟩ := hpx
    refine vx_catch hown [] ⟨0, 6, 7, 27⟩ [] (by rw [hTab]; rfl) (fun z hz => absurd hz List.not_mem_nil) (by decide) (by decide) w1 (va_Nw.use rfl hE.2.1.2.2.2.2.2.2.2.2.2.2.2.1) hce hcv hcl ?_
    have hP : va_P G.1 vwCl ((zb_5 G a) ++ ((zb_L G a.2.2.1 L) ++ ((zb_M G a.2.2.1 L) ++ ((zb_L G a.2.2.2.1 Z) ++ zb_M G a.2.2.2.1 Z)))) H := hP
    have hD : va_D A ((zb_5 G a) ++ ((zb_L G a.2.2.1 L) ++ ((zb_M G a.2.2.1 L) ++ ((zb_L G a.2.2.2.1 Z) ++ zb_M G a.2.2.2.1 Z)))) := hD
    refine lv_astore (lv' := [(4, .ref q9), (0, .ref a.1), (1, .long seed), (3, .int mm)]) hx hb dL_trySimulate_7 hl (by decide) rfl (fun ls hl => ?_)
    refine lv_ldc hx hb (v := (-9999002)) hown w2 dL_trySimulate_9 ?_
    rw [hQ]
    refine vx_ret ?_
    exact zk_reti none rfl hx hb hr hlocks hS hP hD (Nat.le_of_ble_eq_true rfl) (Nat.le_of_ble_eq_true rfl) dL_trySimulate_11 (⟨"java/lang/IllegalArgumentException", hpx2, zc_2 _ _ _⟩)
  · rw [List.append_nil] at hP hD
    have hP : va_P G.1 vwCl ((zb_5 G a) ++ ((zb_L G a.2.2.1 L) ++ ((zb_M G a.2.2.1 L) ++ ((zb_L G a.2.2.2.1 u) ++ zb_M G a.2.2.2.1 u)))) H := hP
    have hD : va_D A ((zb_5 G a) ++ ((zb_L G a.2.2.1 L) ++ ((zb_M G a.2.2.1 L) ++ ((zb_L G a.2.2.2.1 u) ++ zb_M G a.2.2.2.1 u)))) := hD
    rw [hQ]
    refine vx_ret ?_
    exact zk_reti (some u) rfl hx hb hr hlocks hS hP hD (Nat.le_of_ble_eq_true rfl) (Nat.le_of_ble_eq_true rfl) dL_trySimulate_6 (hpost)

abbrev rmL_tryKeep : Room := { frames := 7, cells := 1, slots := 6, locals := 103 }
set_option maxHeartbeats 4000000 in
set_option maxRecDepth 100000 in
theorem c_L_tryKeep (l : Launch) (G : zk_G) (hst : l.stackTraces = false) (a : zA) (L : zL) (n t : Nat) (hI : sInv L n t) (sl : Int32) (sv : Nat → Int32) (SL : Nat → zL) : zk_IH (S := Option ((Nat → Int32) × (Nat → zL))) l yL_tryKeep wsL_tryKeep rmL_tryKeep G [.ref a.1, .int sl] ((zb_5 G a) ++ ((zb_L G a.2.2.1 L) ++ ((zb_M G a.2.2.1 L) ++ ((zb_S G a sv) ++ zb_P G a.2.2.2.2.2.2.2 SL 2)))) (fun r u => match u with | some v0 => (fun r u => ¬ sl < 0 ∧ sl < nI 2 ∧ r = nI t ∧ u.1 = upd sv sl.toNatClampNeg (nI 1) ∧ u.2 = va_up SL sl.toNatClampNeg L) r v0 | none => ∃ E, (fun E => E = "java/lang/IndexOutOfBoundsException" ∧ (sl < 0 ∨ ¬ sl < nI 2)) E ∧ zcode E (-9999001) (-9999002) (-9999003) r) (fun u => match u with | some v0 => (zb_5 G a) ++ ((zb_L G a.2.2.1 L) ++ ((zb_M G a.2.2.1 L) ++ ((zb_S G a v0.1) ++ zb_P G a.2.2.2.2.2.2.2 v0.2 2))) | none => (zb_5 G a) ++ ((zb_L G a.2.2.1 L) ++ ((zb_M G a.2.2.1 L) ++ ((zb_S G a sv) ++ zb_P G a.2.2.2.2.2.2.2 SL 2)))) := by
  refine zk_bodyIH (cc := cL_tryKeep) (maxL := 3) (ret := (some .int)) (hh := [(0, 5, 6, 13)]) (by decide) rfl (Nat.le_of_ble_eq_true rfl) ?_
  intro p E0 s m args below meth cd A ls Q hF hNC hTab hQ
  obtain ⟨hx, hb, hml, hr, hts, hown, hlocks, -, hE, hP, hD, hS, hA, hA0, hl⟩ := hF
  have hK := hE.1
  have hl : lv_has ls 3 [(0, .ref a.1), (1, .int sl)] := hl
  have w1 := hts _ (List.mem_of_getElem? (l := wsL_tryKeep) (i := 1) (a := Cond.classLink RL 13 "java/lang/IndexOutOfBoundsException") rfl)
  have w2 := hts _ (List.mem_of_getElem? (l := wsL_tryKeep) (i := 2) (a := Cond.constant RL 15 (-9999001)) rfl)
  refine lv_aload_n hx hb dL_tryKeep_0 rfl (lv_at hl 0 rfl) ?_
  refine lv_iload_n hx hb dL_tryKeep_1 rfl (lv_at hl 1 rfl) ?_
  have hP0 : va_P G.1 vwCl (((zb_5 G a) ++ ((zb_L G a.2.2.1 L) ++ ((zb_M G a.2.2.1 L) ++ ((zb_S G a sv) ++ zb_P G a.2.2.2.2.2.2.2 SL 2)))) ++ ([] : va_W)) s.heap := by rw [List.append_nil]; exact hP
  have hD0 : va_D A (((zb_5 G a) ++ ((zb_L G a.2.2.1 L) ++ ((zb_M G a.2.2.1 L) ++ ((zb_S G a sv) ++ zb_P G a.2.2.2.2.2.2.2 SL 2)))) ++ ([] : va_W)) := by rw [List.append_nil]; exact hD
  refine zk_callXIc (wr := ([] : va_W)) (vx_runV (As := [.int sl]) (rest := []) ⟨hx, hb, hml, hown, hts⟩ (c_X5_save l G hst a L n t hI sl sv SL _) (cwV 1 hts gL_tryKeep_X5_save rfl rfl rfl (by decide +kernel) ⟨Nat.le_of_ble_eq_true rfl, Nat.le_of_ble_eq_true rfl⟩) (zk_preV hE hA0 hS (zk_Papp hP0).1 (zk_Dapp hD0).1 (va_recv hK hP0 (ci := 4) (q0 := 0) rfl rfl)) rfl rfl hl.1 rfl (lv_room (Nat.le_of_ble_eq_true rfl)) dL_tryKeep_2 ⟨Nat.le_of_ble_eq_true rfl, Nat.le_of_ble_eq_true rfl⟩) hP0 hD0 hS hA (fun E ce q9 H locs hpx hP hD hS hce hcv hcl => ?_) (fun r u H locs hpost hP hD hS => ?_)
  · rw [List.append_nil] at hP hD
    have hpx2 := hpx
    obtain ⟨rfl, hno⟩ := hpx
    refine vx_catch hown [] ⟨0, 5, 6, 13⟩ [] (by rw [hTab]; rfl) (fun z hz => absurd hz List.not_mem_nil) (by decide) (by decide) w1 (va_Nw.use rfl hE.2.1.2.2.2.2.2.2.2.2.2.2.1) hce hcv hcl ?_
    have hP : va_P G.1 vwCl ((zb_5 G a) ++ ((zb_L G a.2.2.1 L) ++ ((zb_M G a.2.2.1 L) ++ ((zb_S G a sv) ++ zb_P G a.2.2.2.2.2.2.2 SL 2)))) H := hP
    have hD : va_D A ((zb_5 G a) ++ ((zb_L G a.2.2.1 L) ++ ((zb_M G a.2.2.1 L) ++ ((zb_S G a sv) ++ zb_P G a.2.2.2.2.2.2.2 SL 2)))) := hD
    refine lv_astore_n (lv' := [(2, .ref q9), (0, .ref a.1), (1, .int sl)]) hx hb dL_tryKeep_6 rfl hl (by decide) rfl (fun ls hl => ?_)
    refine lv_ldc hx hb (v := (-9999001)) hown w2 dL_tryKeep_7 ?_
    rw [hQ]
    refine vx_ret ?_
    exact zk_reti none rfl hx hb hr hlocks hS hP hD (Nat.le_of_ble_eq_true rfl) (Nat.le_of_ble_eq_true rfl) dL_tryKeep_9 (⟨"java/lang/IndexOutOfBoundsException", hpx2, zc_1 _ _ _⟩)
  · rw [List.append_nil] at hP hD
    have hP : va_P G.1 vwCl ((zb_5 G a) ++ ((zb_L G a.2.2.1 L) ++ ((zb_M G a.2.2.1 L) ++ ((zb_S G a u.1) ++ zb_P G a.2.2.2.2.2.2.2 u.2 2)))) H := hP
    have hD : va_D A ((zb_5 G a) ++ ((zb_L G a.2.2.1 L) ++ ((zb_M G a.2.2.1 L) ++ ((zb_S G a u.1) ++ zb_P G a.2.2.2.2.2.2.2 u.2 2)))) := hD
    rw [hQ]
    refine vx_ret ?_
    exact zk_reti (some u) rfl hx hb hr hlocks hS hP hD (Nat.le_of_ble_eq_true rfl) (Nat.le_of_ble_eq_true rfl) dL_tryKeep_5 (hpost)

abbrev rmL_tryBack : Room := { frames := 7, cells := 1, slots := 6, locals := 103 }
set_option maxHeartbeats 4000000 in
set_option maxRecDepth 100000 in
theorem c_L_tryBack (l : Launch) (G : zk_G) (hst : l.stackTraces = false) (a : zA) (L : zL) (n t : Nat) (hI : sInv L n t) (sl : Int32) (sv : Nat → Int32) (SL : Nat → zL) (S : Nat → zL) (o cn : Nat) (ho : o < 14) (hcn : cn ≤ 14) : zk_IH (S := Option (zL)) l yL_tryBack wsL_tryBack rmL_tryBack G [.ref a.1, .int sl] ((zb_5 G a) ++ ((zb_L G a.2.2.1 L) ++ ((zb_M G a.2.2.1 L) ++ ((zb_S G a sv) ++ ((zb_P G a.2.2.2.2.2.2.2 SL 2) ++ zb_H G a.2.2.2.2.1.1 a.2.2.2.2.1.2.1 a.2.2.2.2.1.2.2 S (nI o) (nI cn)))))) (fun r u => match u with | some v0 => (fun r u => ¬ sl < 0 ∧ sl < nI 2 ∧ ¬ sv sl.toNatClampNeg = 0 ∧ r = u 0 0 ∧ u = SL sl.toNatClampNeg) r v0 | none => ∃ E, (fun E => (E = "java/lang/IndexOutOfBoundsException" ∧ (sl < 0 ∨ ¬ sl < nI 2)) ∨ (E = "java/lang/IllegalStateException" ∧ ¬ sl < 0 ∧ sl < nI 2 ∧ sv sl.toNatClampNeg = 0)) E ∧ zcode E (-9999001) (-9999002) (-9999003) r) (fun u => match u with | some v0 => (zb_5 G a) ++ ((zb_L G a.2.2.1 v0) ++ ((zb_M G a.2.2.1 v0) ++ ((zb_S G a sv) ++ ((zb_P G a.2.2.2.2.2.2.2 SL 2) ++ zb_H G a.2.2.2.2.1.1 a.2.2.2.2.1.2.1 a.2.2.2.2.1.2.2 S (nI o) (nI 0))))) | none => (zb_5 G a) ++ ((zb_L G a.2.2.1 L) ++ ((zb_M G a.2.2.1 L) ++ ((zb_S G a sv) ++ ((zb_P G a.2.2.2.2.2.2.2 SL 2) ++ zb_H G a.2.2.2.2.1.1 a.2.2.2.2.1.2.1 a.2.2.2.2.1.2.2 S (nI o) (nI cn)))))) := by
  refine zk_bodyIH (cc := cL_tryBack) (maxL := 3) (ret := (some .int)) (hh := [(0, 5, 6, 13), (0, 5, 10, 16)]) (by decide) rfl (Nat.le_of_ble_eq_true rfl) ?_
  intro p E0 s m args below meth cd A ls Q hF hNC hTab hQ
  obtain ⟨hx, hb, hml, hr, hts, hown, hlocks, -, hE, hP, hD, hS, hA, hA0, hl⟩ := hF
  have hK := hE.1
  have hl : lv_has ls 3 [(0, .ref a.1), (1, .int sl)] := hl
  have w1 := hts _ (List.mem_of_getElem? (l := wsL_tryBack) (i := 1) (a := Cond.classLink RL 13 "java/lang/IndexOutOfBoundsException") rfl)
  have w3 := hts _ (List.mem_of_getElem? (l := wsL_tryBack) (i := 3) (a := Cond.constant RL 15 (-9999001)) rfl)
  have w2 := hts _ (List.mem_of_getElem? (l := wsL_tryBack) (i := 2) (a := Cond.classLink RL 16 "java/lang/IllegalStateException") rfl)
  have w4 := hts _ (List.mem_of_getElem? (l := wsL_tryBack) (i := 4) (a := Cond.constant RL 18 (-9999003)) rfl)
  refine lv_aload_n hx hb dL_tryBack_0 rfl (lv_at hl 0 rfl) ?_
  refine lv_iload_n hx hb dL_tryBack_1 rfl (lv_at hl 1 rfl) ?_
  have hP0 : va_P G.1 vwCl (((zb_5 G a) ++ ((zb_L G a.2.2.1 L) ++ ((zb_M G a.2.2.1 L) ++ ((zb_S G a sv) ++ ((zb_P G a.2.2.2.2.2.2.2 SL 2) ++ zb_H G a.2.2.2.2.1.1 a.2.2.2.2.1.2.1 a.2.2.2.2.1.2.2 S (nI o) (nI cn)))))) ++ ([] : va_W)) s.heap := by rw [List.append_nil]; exact hP
  have hD0 : va_D A (((zb_5 G a) ++ ((zb_L G a.2.2.1 L) ++ ((zb_M G a.2.2.1 L) ++ ((zb_S G a sv) ++ ((zb_P G a.2.2.2.2.2.2.2 SL 2) ++ zb_H G a.2.2.2.2.1.1 a.2.2.2.2.1.2.1 a.2.2.2.2.1.2.2 S (nI o) (nI cn)))))) ++ ([] : va_W)) := by rw [List.append_nil]; exact hD
  refine zk_callXIc (wr := ([] : va_W)) (vx_runV (As := [.int sl]) (rest := []) ⟨hx, hb, hml, hown, hts⟩ (c_X5_restore l G hst a L n t hI sl sv SL S o cn ho hcn _) (cwV 1 hts gL_tryBack_X5_restore rfl rfl rfl (by decide +kernel) ⟨Nat.le_of_ble_eq_true rfl, Nat.le_of_ble_eq_true rfl⟩) (zk_preV hE hA0 hS (zk_Papp hP0).1 (zk_Dapp hD0).1 (va_recv hK hP0 (ci := 4) (q0 := 0) rfl rfl)) rfl rfl hl.1 rfl (lv_room (Nat.le_of_ble_eq_true rfl)) dL_tryBack_2 ⟨Nat.le_of_ble_eq_true rfl, Nat.le_of_ble_eq_true rfl⟩) hP0 hD0 hS hA (fun E ce q9 H locs hpx hP hD hS hce hcv hcl => ?_) (fun r u H locs hpost hP hD hS => ?_)
  · rw [List.append_nil] at hP hD
    have hpx2 := hpx
    rcases hpx with ⟨rfl, hno⟩ | ⟨rfl, hno⟩
    · refine vx_catch hown [] ⟨0, 5, 6, 13⟩ [⟨0, 5, 10, 16⟩] (by rw [hTab]; rfl) (fun z hz => absurd hz List.not_mem_nil) (by decide) (by decide) w1 (va_Nw.use rfl hE.2.1.2.2.2.2.2.2.2.2.2.2.1) hce hcv hcl ?_
      have hP : va_P G.1 vwCl ((zb_5 G a) ++ ((zb_L G a.2.2.1 L) ++ ((zb_M G a.2.2.1 L) ++ ((zb_S G a sv) ++ ((zb_P G a.2.2.2.2.2.2.2 SL 2) ++ zb_H G a.2.2.2.2.1.1 a.2.2.2.2.1.2.1 a.2.2.2.2.1.2.2 S (nI o) (nI cn)))))) H := hP
      have hD : va_D A ((zb_5 G a) ++ ((zb_L G a.2.2.1 L) ++ ((zb_M G a.2.2.1 L) ++ ((zb_S G a sv) ++ ((zb_P G a.2.2.2.2.2.2.2 SL 2) ++ zb_H G a.2.2.2.2.1.1 a.2.2.2.2.1.2.1 a.2.2.2.2.1.2.2 S (nI o) (nI cn)))))) := hD
      refine lv_astore_n (lv' := [(2, .ref q9), (0, .ref a.1), (1, .int sl)]) hx hb dL_tryBack_6 rfl hl (by decide) rfl (fun ls hl => ?_)
      refine lv_ldc hx hb (v := (-9999001)) hown w3 dL_tryBack_7 ?_
      rw [hQ]
      refine vx_ret ?_
      exact zk_reti none rfl hx hb hr hlocks hS hP hD (Nat.le_of_ble_eq_true rfl) (Nat.le_of_ble_eq_true rfl) dL_tryBack_9 (⟨"java/lang/IndexOutOfBoundsException", hpx2, zc_1 _ _ _⟩)
    · refine vx_catch hown [⟨0, 5, 6, 13⟩] ⟨0, 5, 10, 16⟩ [] (by rw [hTab]; rfl) (List.forall_mem_cons.mpr ⟨Or.inr ⟨by decide, "java/lang/IndexOutOfBoundsException", w1, hNC.2.1.2⟩, fun z hz => absurd hz List.not_mem_nil⟩) (by decide) (by decide) w2 (va_Nw.use rfl hE.2.1.2.2.2.2.2.2.2.2.2.2.2.2) hce hcv hcl ?_
      have hP : va_P G.1 vwCl ((zb_5 G a) ++ ((zb_L G a.2.2.1 L) ++ ((zb_M G a.2.2.1 L) ++ ((zb_S G a sv) ++ ((zb_P G a.2.2.2.2.2.2.2 SL 2) ++ zb_H G a.2.2.2.2.1.1 a.2.2.2.2.1.2.1 a.2.2.2.2.1.2.2 S (nI o) (nI cn)))))) H := hP
      have hD : va_D A ((zb_5 G a) ++ ((zb_L G a.2.2.1 L) ++ ((zb_M G a.2.2.1 L) ++ ((zb_S G a sv) ++ ((zb_P G a.2.2.2.2.2.2.2 SL 2) ++ zb_H G a.2.2.2.2.1.1 a.2.2.2.2.1.2.1 a.2.2.2.2.1.2.2 S (nI o) (nI cn)))))) := hD
      refine lv_astore_n (lv' := [(2, .ref q9), (0, .ref a.1), (1, .int sl)]) hx hb dL_tryBack_10 rfl hl (by decide) rfl (fun ls hl => ?_)
      refine lv_ldc hx hb (v := (-9999003)) hown w4 dL_tryBack_11 ?_
      rw [hQ]
      refine vx_ret ?_
      exact zk_reti none rfl hx hb hr hlocks hS hP hD (Nat.le_of_ble_eq_true rfl) (Nat.le_of_ble_eq_true rfl) dL_tryBack_13 (⟨"java/lang/IllegalStateException", hpx2, zc_3 _ _ _⟩)
  · rw [List.append_nil] at hP hD
    have hP : va_P G.1 vwCl ((zb_5 G a) ++ ((zb_L G a.2.2.1 u) ++ ((zb_M G a.2.2.1 u) ++ ((zb_S G a sv) ++ ((zb_P G a.2.2.2.2.2.2.2 SL 2) ++ zb_H G a.2.2.2.2.1.1 a.2.2.2.2.1.2.1 a.2.2.2.2.1.2.2 S (nI o) (nI 0)))))) H := hP
    have hD : va_D A ((zb_5 G a) ++ ((zb_L G a.2.2.1 u) ++ ((zb_M G a.2.2.1 u) ++ ((zb_S G a sv) ++ ((zb_P G a.2.2.2.2.2.2.2 SL 2) ++ zb_H G a.2.2.2.2.1.1 a.2.2.2.2.1.2.1 a.2.2.2.2.1.2.2 S (nI o) (nI 0)))))) := hD
    rw [hQ]
    refine vx_ret ?_
    exact zk_reti (some u) rfl hx hb hr hlocks hS hP hD (Nat.le_of_ble_eq_true rfl) (Nat.le_of_ble_eq_true rfl) dL_tryBack_5 (hpost)
