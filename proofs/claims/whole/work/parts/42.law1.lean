abbrev rmL_append : Room := { frames := 7, cells := 1, slots := 6, locals := 103 }
set_option maxHeartbeats 4000000 in
set_option maxRecDepth 100000 in
theorem c_L_append (l : Launch) (G : zk_G) (hst : l.stackTraces = false) (a : zA) (T : zL) (tn po : Nat) (hT : tInv T tn po) (c : Int32) (q : Nat) (fo : Nat → Int64) : zk_IH (S := Option (zL) × (Nat → Int64)) l yL_append wsL_append rmL_append G [.ref a.1, .int c, .ref q] (zb_o G q fo ++ ((zb_5 G a) ++ zb_T G a.2.1 T)) (fun r u => match u.1 with | some v0 => r = nI 0 ∧ ∃ an, (fun r u => ¬ c < 0 ∧ ¬ nI 255 < c ∧ tn < 120 ∧ r = nI (tn + 1) ∧ u = tAdd T tn c.toNatClampNeg) an v0 ∧ u.2 = vp_updL fo 0 an.toInt64 | none => u.2 = fo ∧ ∃ E, (fun E => (E = "java/lang/IllegalArgumentException" ∧ (c < 0 ∨ nI 255 < c)) ∨ (E = "java/lang/IllegalStateException" ∧ ¬ c < 0 ∧ ¬ nI 255 < c ∧ ¬ tn < 120)) E ∧ zcode E (nI 0) (nI 1) (nI 2) r) (fun u => zb_o G q u.2 ++ (match u.1 with | some v0 => (zb_5 G a) ++ zb_T G a.2.1 v0 | none => (zb_5 G a) ++ zb_T G a.2.1 T)) := by
  refine zk_bodyIH (cc := cL_append) (maxL := 4) (ret := (some .int)) (hh := [(0, 9, 12, 13), (0, 9, 15, 15)]) (by decide) rfl (Nat.le_of_ble_eq_true rfl) ?_
  intro p E0 s m args below meth cd A ls Q hF hNC hTab hQ
  obtain ⟨hx, hb, hml, hr, hts, hown, hlocks, -, hE, hP, hD, hS, hA, hA0, hl⟩ := hF
  have hK := hE.1
  have hl : lv_has ls 4 [(0, .ref a.1), (1, .int c), (2, .ref q)] := hl
  have w1 := hts _ (List.mem_of_getElem? (l := wsL_append) (i := 1) (a := Cond.classLink RL 13 "java/lang/IllegalArgumentException") rfl)
  have w2 := hts _ (List.mem_of_getElem? (l := wsL_append) (i := 2) (a := Cond.classLink RL 15 "java/lang/IllegalStateException") rfl)
  refine lv_aload_n hx hb dL_append_0 rfl (lv_at hl 2 rfl) ?_
  refine lv_iconst (v := nI 0) hx hb dL_append_1 (by decide) ?_
  refine lv_aload_n hx hb dL_append_2 rfl (lv_at hl 0 rfl) ?_
  refine lv_iload_n hx hb dL_append_3 rfl (lv_at hl 1 rfl) ?_
  have hP0 : va_P G.1 vwCl (((zb_5 G a) ++ zb_T G a.2.1 T) ++ zb_o G q fo) s.heap := zk_Pperm hP List.perm_append_comm
  have hD0 : va_D A (((zb_5 G a) ++ zb_T G a.2.1 T) ++ zb_o G q fo) := zk_Dperm hD List.perm_append_comm
  refine zk_callXIc (wr := zb_o G q fo) (vx_runV (As := [.int c]) (rest := [.int (nI 0), .ref q]) ⟨hx, hb, hml, hown, hts⟩ (c_X5_append l G hst a T tn po hT c _) (cwV 1 hts gL_append_X5_append rfl rfl rfl (by decide +kernel) ⟨Nat.le_of_ble_eq_true rfl, Nat.le_of_ble_eq_true rfl⟩) (zk_preV hE hA0 hS (zk_Papp hP0).1 (zk_Dapp hD0).1 (va_recv hK hP0 (ci := 4) (q0 := 0) rfl rfl)) rfl rfl hl.1 rfl (lv_room (Nat.le_of_ble_eq_true rfl)) dL_append_4 ⟨Nat.le_of_ble_eq_true rfl, Nat.le_of_ble_eq_true rfl⟩) hP0 hD0 hS hA (fun E ce q9 H locs hpx hP hD hS hce hcv hcl => ?_) (fun r u H locs hpost hP hD hS => ?_)
  · have hpx2 := hpx
    rcases hpx with ⟨rfl, hno⟩ | ⟨rfl, hno⟩
    · refine vx_catch hown [] ⟨0, 9, 12, 13⟩ [⟨0, 9, 15, 15⟩] (by rw [hTab]; rfl) (fun z hz => absurd hz List.not_mem_nil) (by decide) (by decide) w1 (va_Nw.use rfl hE.2.1.2.2.2.2.2.2.2.2.2.2.2.1) hce hcv hcl ?_
      have hP : va_P G.1 vwCl (zb_o G q fo ++ ((zb_5 G a) ++ zb_T G a.2.1 T)) H := zk_Pperm hP List.perm_append_comm
      have hD : va_D A (zb_o G q fo ++ ((zb_5 G a) ++ zb_T G a.2.1 T)) := zk_Dperm hD List.perm_append_comm
      refine lv_astore_n (lv' := [(3, .ref q9), (0, .ref a.1), (1, .int c), (2, .ref q)]) hx hb dL_append_12 rfl hl (by decide) rfl (fun ls hl => ?_)
      refine lv_iconst (v := nI 1) hx hb dL_append_13 (by decide) ?_
      rw [hQ]
      refine vx_ret ?_
      exact zk_reti (none, fo) rfl hx hb hr hlocks hS hP hD (Nat.le_of_ble_eq_true rfl) (Nat.le_of_ble_eq_true rfl) dL_append_14 (⟨rfl, "java/lang/IllegalArgumentException", hpx2, zc_2 _ _ _⟩)
    · refine vx_catch hown [⟨0, 9, 12, 13⟩] ⟨0, 9, 15, 15⟩ [] (by rw [hTab]; rfl) (List.forall_mem_cons.mpr ⟨Or.inr ⟨by decide, "java/lang/IllegalArgumentException", w1, hNC.2.1.1⟩, fun z hz => absurd hz List.not_mem_nil⟩) (by decide) (by decide) w2 (va_Nw.use rfl hE.2.1.2.2.2.2.2.2.2.2.2.2.2.2) hce hcv hcl ?_
      have hP : va_P G.1 vwCl (zb_o G q fo ++ ((zb_5 G a) ++ zb_T G a.2.1 T)) H := zk_Pperm hP List.perm_append_comm
      have hD : va_D A (zb_o G q fo ++ ((zb_5 G a) ++ zb_T G a.2.1 T)) := zk_Dperm hD List.perm_append_comm
      refine lv_astore_n (lv' := [(3, .ref q9), (0, .ref a.1), (1, .int c), (2, .ref q)]) hx hb dL_append_15 rfl hl (by decide) rfl (fun ls hl => ?_)
      refine lv_iconst (v := nI 2) hx hb dL_append_16 (by decide) ?_
      rw [hQ]
      refine vx_ret ?_
      exact zk_reti (none, fo) rfl hx hb hr hlocks hS hP hD (Nat.le_of_ble_eq_true rfl) (Nat.le_of_ble_eq_true rfl) dL_append_17 (⟨rfl, "java/lang/IllegalStateException", hpx2, zc_3 _ _ _⟩)
  · have hP : va_P G.1 vwCl (zb_o G q fo ++ ((zb_5 G a) ++ zb_T G a.2.1 u)) H := zk_Pperm hP List.perm_append_comm
    have hD : va_D A (zb_o G q fo ++ ((zb_5 G a) ++ zb_T G a.2.1 u)) := zk_Dperm hD List.perm_append_comm
    refine lv_i2l (v := r.toInt64) hx hb dL_append_7 rfl ?_
    refine va_last hx hb hK hP hD hS 0 3 rfl rfl (vp_in_nI (by decide) (by decide)) dL_append_8 (fun H locs hP hD hS => ?_)
    rw [nI_clamp (by decide)] at hP hD
    have hP : va_P G.1 vwCl (zb_o G q (vp_updL fo 0 r.toInt64) ++ ((zb_5 G a) ++ zb_T G a.2.1 u)) H := hP
    have hD : va_D A (zb_o G q (vp_updL fo 0 r.toInt64) ++ ((zb_5 G a) ++ zb_T G a.2.1 u)) := hD
    refine lv_goto (tgt := 18) hx hb dL_append_9 (by decide) ?_
    refine lv_iconst (v := nI 0) hx hb dL_append_18 (by decide) ?_
    rw [hQ]
    refine vx_ret ?_
    exact zk_reti (some u, vp_updL fo 0 r.toInt64) rfl hx hb hr hlocks hS hP hD (Nat.le_of_ble_eq_true rfl) (Nat.le_of_ble_eq_true rfl) dL_append_19 (⟨rfl, r, hpost, rfl⟩)

abbrev rmL_load : Room := { frames := 9, cells := 1, slots := 6, locals := 201 }
set_option maxHeartbeats 4000000 in
set_option maxRecDepth 100000 in
theorem c_L_load (l : Launch) (G : zk_G) (hst : l.stackTraces = false) (a : zA) (L : zL) (n t : Nat) (hI : sInv L n t) (T : zL) (tn po : Nat) (hT : tInv T tn po) (sv : Nat → Int32) (S : Nat → zL) (o cn : Nat) (ho : o < 14) (hcn : cn ≤ 14) (q : Nat) (fo : Nat → Int64) : zk_IH (S := Option (zL × zL × (Nat → Int32)) × (Nat → Int64) × zL) l yL_load wsL_load rmL_load G [.ref a.1, .ref q] (zb_o G q fo ++ ((zb_5 G a) ++ ((zb_T G a.2.1 T) ++ ((zb_L G a.2.2.1 L) ++ ((zb_M G a.2.2.1 L) ++ ((zb_S G a sv) ++ zb_H G a.2.2.2.2.1.1 a.2.2.2.2.1.2.1 a.2.2.2.2.1.2.2 S (nI o) (nI cn))))))) (fun r u => match u.1 with | some v0 => r = nI 0 ∧ ∃ an, (fun r u => (tEr T tn).1 = true ∧ r = (lRun (tEr T tn).2.2 L tn 120).1 ∧ u.1 = (lRun (tEr T tn).2.2 L tn 120).2.1.2.2 ∧ u.2.1 = (lRun (tEr T tn).2.2 L tn 120).2.2 ∧ ∀ j, j < 2 → u.2.2 j = nI 0) an v0 ∧ u.2.1 = vp_updL fo 0 an.toInt64 | none => u.2.1 = fo ∧ ∃ E, (fun E v => E = "java/lang/IllegalStateException" ∧ ¬ (tEr T tn).1 = true ∧ v = (tEr T tn).2.2) E u.2.2 ∧ zcode E (nI 0) (nI 0) (nI 1) r) (fun u => zb_o G q u.2.1 ++ (match u.1 with | some v0 => (zb_5 G a) ++ ((zb_T G a.2.1 v0.1) ++ ((zb_L G a.2.2.1 v0.2.1) ++ ((zb_M G a.2.2.1 v0.2.1) ++ ((zb_S G a v0.2.2) ++ zb_H G a.2.2.2.2.1.1 a.2.2.2.2.1.2.1 a.2.2.2.2.1.2.2 S (nI o) (nI 0))))) | none => (zb_5 G a) ++ ((zb_T G a.2.1 u.2.2) ++ ((zb_L G a.2.2.1 L) ++ ((zb_M G a.2.2.1 L) ++ ((zb_S G a sv) ++ zb_H G a.2.2.2.2.1.1 a.2.2.2.2.1.2.1 a.2.2.2.2.1.2.2 S (nI o) (nI cn))))))) := by
  refine zk_bodyIH (cc := cL_load) (maxL := 3) (ret := (some .int)) (hh := [(0, 8, 11, 15)]) (by decide) rfl (Nat.le_of_ble_eq_true rfl) ?_
  intro p E0 s m args below meth cd A ls Q hF hNC hTab hQ
  obtain ⟨hx, hb, hml, hr, hts, hown, hlocks, -, hE, hP, hD, hS, hA, hA0, hl⟩ := hF
  have hK := hE.1
  have hl : lv_has ls 3 [(0, .ref a.1), (1, .ref q)] := hl
  have w1 := hts _ (List.mem_of_getElem? (l := wsL_load) (i := 1) (a := Cond.classLink RL 15 "java/lang/IllegalStateException") rfl)
  refine lv_aload_n hx hb dL_load_0 rfl (lv_at hl 1 rfl) ?_
  refine lv_iconst (v := nI 0) hx hb dL_load_1 (by decide) ?_
  refine lv_aload_n hx hb dL_load_2 rfl (lv_at hl 0 rfl) ?_
  have hP0 : va_P G.1 vwCl (((zb_5 G a) ++ ((zb_T G a.2.1 T) ++ ((zb_L G a.2.2.1 L) ++ ((zb_M G a.2.2.1 L) ++ ((zb_S G a sv) ++ zb_H G a.2.2.2.2.1.1 a.2.2.2.2.1.2.1 a.2.2.2.2.1.2.2 S (nI o) (nI cn)))))) ++ zb_o G q fo) s.heap := zk_Pperm hP List.perm_append_comm
  have hD0 : va_D A (((zb_5 G a) ++ ((zb_T G a.2.1 T) ++ ((zb_L G a.2.2.1 L) ++ ((zb_M G a.2.2.1 L) ++ ((zb_S G a sv) ++ zb_H G a.2.2.2.2.1.1 a.2.2.2.2.1.2.1 a.2.2.2.2.1.2.2 S (nI o) (nI cn)))))) ++ zb_o G q fo) := zk_Dperm hD List.perm_append_comm
  refine zk_callXJc (wr := zb_o G q fo) (vx_runV (As := []) (rest := [.int (nI 0), .ref q]) ⟨hx, hb, hml, hown, hts⟩ (c_X5_load l G hst a L n t hI T tn po hT sv S o cn ho hcn _) (cwV 0 hts gL_load_X5_load rfl rfl rfl (by decide +kernel) ⟨Nat.le_of_ble_eq_true rfl, Nat.le_of_ble_eq_true rfl⟩) (zk_preV hE hA0 hS (zk_Papp hP0).1 (zk_Dapp hD0).1 (va_recv hK hP0 (ci := 4) (q0 := 0) rfl rfl)) rfl rfl hl.1 rfl (lv_room (Nat.le_of_ble_eq_true rfl)) dL_load_3 ⟨Nat.le_of_ble_eq_true rfl, Nat.le_of_ble_eq_true rfl⟩) hP0 hD0 hS hA (fun E ce q9 v H locs hpx hP hD hS hce hcv hcl => ?_) (fun r u H locs hpost hP hD hS => ?_)
  · have hpx2 := hpx
    obtain ⟨rfl, hno⟩ := hpx
    refine vx_catch hown [] ⟨0, 8, 11, 15⟩ [] (by rw [hTab]; rfl) (fun z hz => absurd hz List.not_mem_nil) (by decide) (by decide) w1 (va_Nw.use rfl hE.2.1.2.2.2.2.2.2.2.2.2.2.2.2) hce hcv hcl ?_
    have hP : va_P G.1 vwCl (zb_o G q fo ++ ((zb_5 G a) ++ ((zb_T G a.2.1 v) ++ ((zb_L G a.2.2.1 L) ++ ((zb_M G a.2.2.1 L) ++ ((zb_S G a sv) ++ zb_H G a.2.2.2.2.1.1 a.2.2.2.2.1.2.1 a.2.2.2.2.1.2.2 S (nI o) (nI cn))))))) H := zk_Pperm hP List.perm_append_comm
    have hD : va_D A (zb_o G q fo ++ ((zb_5 G a) ++ ((zb_T G a.2.1 v) ++ ((zb_L G a.2.2.1 L) ++ ((zb_M G a.2.2.1 L) ++ ((zb_S G a sv) ++ zb_H G a.2.2.2.2.1.1 a.2.2.2.2.1.2.1 a.2.2.2.2.1.2.2 S (nI o) (nI cn))))))) := zk_Dperm hD List.perm_append_comm
    refine lv_astore_n (lv' := [(2, .ref q9), (0, .ref a.1), (1, .ref q)]) hx hb dL_load_11 rfl hl (by decide) rfl (fun ls hl => ?_)
    refine lv_iconst (v := nI 1) hx hb dL_load_12 (by decide) ?_
    rw [hQ]
    refine vx_ret ?_
    exact zk_reti (none, fo, v) rfl hx hb hr hlocks hS hP hD (Nat.le_of_ble_eq_true rfl) (Nat.le_of_ble_eq_true rfl) dL_load_13 (⟨rfl, "java/lang/IllegalStateException", hpx2, zc_3 _ _ _⟩)
  · have hP : va_P G.1 vwCl (zb_o G q fo ++ ((zb_5 G a) ++ ((zb_T G a.2.1 u.1) ++ ((zb_L G a.2.2.1 u.2.1) ++ ((zb_M G a.2.2.1 u.2.1) ++ ((zb_S G a u.2.2) ++ zb_H G a.2.2.2.2.1.1 a.2.2.2.2.1.2.1 a.2.2.2.2.1.2.2 S (nI o) (nI 0))))))) H := zk_Pperm hP List.perm_append_comm
    have hD : va_D A (zb_o G q fo ++ ((zb_5 G a) ++ ((zb_T G a.2.1 u.1) ++ ((zb_L G a.2.2.1 u.2.1) ++ ((zb_M G a.2.2.1 u.2.1) ++ ((zb_S G a u.2.2) ++ zb_H G a.2.2.2.2.1.1 a.2.2.2.2.1.2.1 a.2.2.2.2.1.2.2 S (nI o) (nI 0))))))) := zk_Dperm hD List.perm_append_comm
    refine lv_i2l (v := r.toInt64) hx hb dL_load_6 rfl ?_
    refine va_last hx hb hK hP hD hS 0 3 rfl rfl (vp_in_nI (by decide) (by decide)) dL_load_7 (fun H locs hP hD hS => ?_)
    rw [nI_clamp (by decide)] at hP hD
    have hP : va_P G.1 vwCl (zb_o G q (vp_updL fo 0 r.toInt64) ++ ((zb_5 G a) ++ ((zb_T G a.2.1 u.1) ++ ((zb_L G a.2.2.1 u.2.1) ++ ((zb_M G a.2.2.1 u.2.1) ++ ((zb_S G a u.2.2) ++ zb_H G a.2.2.2.2.1.1 a.2.2.2.2.1.2.1 a.2.2.2.2.1.2.2 S (nI o) (nI 0))))))) H := hP
    have hD : va_D A (zb_o G q (vp_updL fo 0 r.toInt64) ++ ((zb_5 G a) ++ ((zb_T G a.2.1 u.1) ++ ((zb_L G a.2.2.1 u.2.1) ++ ((zb_M G a.2.2.1 u.2.1) ++ ((zb_S G a u.2.2) ++ zb_H G a.2.2.2.2.1.1 a.2.2.2.2.1.2.1 a.2.2.2.2.1.2.2 S (nI o) (nI 0))))))) := hD
    refine lv_goto (tgt := 14) hx hb dL_load_8 (by decide) ?_
    refine lv_iconst (v := nI 0) hx hb dL_load_14 (by decide) ?_
    rw [hQ]
    refine vx_ret ?_
    exact zk_reti (some u, vp_updL fo 0 r.toInt64, T) rfl hx hb hr hlocks hS hP hD (Nat.le_of_ble_eq_true rfl) (Nat.le_of_ble_eq_true rfl) dL_load_15 (⟨rfl, r, hpost, rfl⟩)

abbrev rmL_about : Room := { frames := 7, cells := 1, slots := 6, locals := 110 }
set_option maxHeartbeats 4000000 in
set_option maxRecDepth 100000 in
theorem c_L_about (l : Launch) (G : zk_G) (hst : l.stackTraces = false) (a : zA) (L : zL) (n t : Nat) (hI : sInv L n t) (w : Int32) (q : Nat) (fo : Nat → Int64) : zk_IH (S := Option (Unit) × (Nat → Int64)) l yL_about wsL_about rmL_about G [.ref a.1, .int w, .ref q] (zb_o G q fo ++ ((zb_5 G a) ++ ((zb_L G a.2.2.1 L) ++ zb_M G a.2.2.1 L))) (fun r u => match u.1 with | some v0 => r = nI 0 ∧ ∃ an, (fun r _ => zIn w 12 ∧ r = xAbout L n t w) an v0 ∧ u.2 = vp_updL fo 0 an.toInt64 | none => u.2 = fo ∧ ∃ E, (fun E => E = "java/lang/IllegalArgumentException" ∧ ¬ zIn w 12) E ∧ zcode E (nI 0) (nI 1) (nI 0) r) (fun u => zb_o G q u.2 ++ (match u.1 with | some v0 => (zb_5 G a) ++ ((zb_L G a.2.2.1 L) ++ zb_M G a.2.2.1 L) | none => (zb_5 G a) ++ ((zb_L G a.2.2.1 L) ++ zb_M G a.2.2.1 L))) := by
  refine zk_bodyIH (cc := cL_about) (maxL := 4) (ret := (some .int)) (hh := [(0, 9, 12, 13)]) (by decide) rfl (Nat.le_of_ble_eq_true rfl) ?_
  intro p E0 s m args below meth cd A ls Q hF hNC hTab hQ
  obtain ⟨hx, hb, hml, hr, hts, hown, hlocks, -, hE, hP, hD, hS, hA, hA0, hl⟩ := hF
  have hK := hE.1
  have hl : lv_has ls 4 [(0, .ref a.1), (1, .int w), (2, .ref q)] := hl
  have w1 := hts _ (List.mem_of_getElem? (l := wsL_about) (i := 1) (a := Cond.classLink RL 13 "java/lang/IllegalArgumentException") rfl)
  refine lv_aload_n hx hb dL_about_0 rfl (lv_at hl 2 rfl) ?_
  refine lv_iconst (v := nI 0) hx hb dL_about_1 (by decide) ?_
  refine lv_aload_n hx hb dL_about_2 rfl (lv_at hl 0 rfl) ?_
  refine lv_iload_n hx hb dL_about_3 rfl (lv_at hl 1 rfl) ?_
  have hP0 : va_P G.1 vwCl (((zb_5 G a) ++ ((zb_L G a.2.2.1 L) ++ zb_M G a.2.2.1 L)) ++ zb_o G q fo) s.heap := zk_Pperm hP List.perm_append_comm
  have hD0 : va_D A (((zb_5 G a) ++ ((zb_L G a.2.2.1 L) ++ zb_M G a.2.2.1 L)) ++ zb_o G q fo) := zk_Dperm hD List.perm_append_comm
  refine zk_callXIc (wr := zb_o G q fo) (vx_runV (As := [.int w]) (rest := [.int (nI 0), .ref q]) ⟨hx, hb, hml, hown, hts⟩ (c_X5_about l G hst a L n t hI w _) (cwV 1 hts gL_about_X5_about rfl rfl rfl (by decide +kernel) ⟨Nat.le_of_ble_eq_true rfl, Nat.le_of_ble_eq_true rfl⟩) (zk_preV hE hA0 hS (zk_Papp hP0).1 (zk_Dapp hD0).1 (va_recv hK hP0 (ci := 4) (q0 := 0) rfl rfl)) rfl rfl hl.1 rfl (lv_room (Nat.le_of_ble_eq_true rfl)) dL_about_4 ⟨Nat.le_of_ble_eq_true rfl, Nat.le_of_ble_eq_true rfl⟩) hP0 hD0 hS hA (fun E ce q9 H locs hpx hP hD hS hce hcv hcl => ?_) (fun r u H locs hpost hP hD hS => ?_)
  · have hpx2 := hpx
    obtain ⟨rfl, hno⟩ := hpx
    refine vx_catch hown [] ⟨0, 9, 12, 13⟩ [] (by rw [hTab]; rfl) (fun z hz => absurd hz List.not_mem_nil) (by decide) (by decide) w1 (va_Nw.use rfl hE.2.1.2.2.2.2.2.2.2.2.2.2.2.1) hce hcv hcl ?_
    have hP : va_P G.1 vwCl (zb_o G q fo ++ ((zb_5 G a) ++ ((zb_L G a.2.2.1 L) ++ zb_M G a.2.2.1 L))) H := zk_Pperm hP List.perm_append_comm
    have hD : va_D A (zb_o G q fo ++ ((zb_5 G a) ++ ((zb_L G a.2.2.1 L) ++ zb_M G a.2.2.1 L))) := zk_Dperm hD List.perm_append_comm
    refine lv_astore_n (lv' := [(3, .ref q9), (0, .ref a.1), (1, .int w), (2, .ref q)]) hx hb dL_about_12 rfl hl (by decide) rfl (fun ls hl => ?_)
    refine lv_iconst (v := nI 1) hx hb dL_about_13 (by decide) ?_
    rw [hQ]
    refine vx_ret ?_
    exact zk_reti (none, fo) rfl hx hb hr hlocks hS hP hD (Nat.le_of_ble_eq_true rfl) (Nat.le_of_ble_eq_true rfl) dL_about_14 (⟨rfl, "java/lang/IllegalArgumentException", hpx2, zc_2 _ _ _⟩)
  · have hP : va_P G.1 vwCl (zb_o G q fo ++ ((zb_5 G a) ++ ((zb_L G a.2.2.1 L) ++ zb_M G a.2.2.1 L))) H := zk_Pperm hP List.perm_append_comm
    have hD : va_D A (zb_o G q fo ++ ((zb_5 G a) ++ ((zb_L G a.2.2.1 L) ++ zb_M G a.2.2.1 L))) := zk_Dperm hD List.perm_append_comm
    refine lv_i2l (v := r.toInt64) hx hb dL_about_7 rfl ?_
    refine va_last hx hb hK hP hD hS 0 3 rfl rfl (vp_in_nI (by decide) (by decide)) dL_about_8 (fun H locs hP hD hS => ?_)
    rw [nI_clamp (by decide)] at hP hD
    have hP : va_P G.1 vwCl (zb_o G q (vp_updL fo 0 r.toInt64) ++ ((zb_5 G a) ++ ((zb_L G a.2.2.1 L) ++ zb_M G a.2.2.1 L))) H := hP
    have hD : va_D A (zb_o G q (vp_updL fo 0 r.toInt64) ++ ((zb_5 G a) ++ ((zb_L G a.2.2.1 L) ++ zb_M G a.2.2.1 L))) := hD
    refine lv_goto (tgt := 15) hx hb dL_about_9 (by decide) ?_
    refine lv_iconst (v := nI 0) hx hb dL_about_15 (by decide) ?_
    rw [hQ]
    refine vx_ret ?_
    exact zk_reti (some u, vp_updL fo 0 r.toInt64) rfl hx hb hr hlocks hS hP hD (Nat.le_of_ble_eq_true rfl) (Nat.le_of_ble_eq_true rfl) dL_about_16 (⟨rfl, r, hpost, rfl⟩)

abbrev rmL_child : Room := { frames := 8, cells := 4, slots := 24, locals := 125 }
set_option maxHeartbeats 4000000 in
set_option maxRecDepth 100000 in
theorem c_L_child (l : Launch) (G : zk_G) (hst : l.stackTraces = false) (a : zA) (L : zL) (n t : Nat) (hI : sInv L n t) (c w : Int32) (q : Nat) (fo : Nat → Int64) : zk_IH (S := Option (Unit) × (Nat → Int64)) l yL_child wsL_child rmL_child G [.ref a.1, .int c, .int w, .ref q] (zb_o G q fo ++ ((zb_5 G a) ++ ((zb_L G a.2.2.1 L) ++ zb_M G a.2.2.1 L))) (fun r u => match u.1 with | some v0 => r = nI 0 ∧ ∃ an, (fun r _ => sHas L c ∧ zIn w 9 ∧ r = xChild L n t c.toNatClampNeg w) an v0 ∧ u.2 = vp_updL fo 0 an.toInt64 | none => u.2 = fo ∧ ∃ E, (fun E => (E = "java/lang/IndexOutOfBoundsException" ∧ ¬ sHas L c) ∨ (E = "java/lang/IllegalArgumentException" ∧ sHas L c ∧ ¬ zIn w 9)) E ∧ zcode E (nI 1) (nI 2) (nI 0) r) (fun u => zb_o G q u.2 ++ (match u.1 with | some v0 => (zb_5 G a) ++ ((zb_L G a.2.2.1 L) ++ zb_M G a.2.2.1 L) | none => (zb_5 G a) ++ ((zb_L G a.2.2.1 L) ++ zb_M G a.2.2.1 L))) := by
  refine zk_bodyIH (cc := cL_child) (maxL := 5) (ret := (some .int)) (hh := [(0, 10, 13, 28), (0, 10, 17, 13)]) (by decide) rfl (Nat.le_of_ble_eq_true rfl) ?_
  intro p E0 s m args below meth cd A ls Q hF hNC hTab hQ
  obtain ⟨hx, hb, hml, hr, hts, hown, hlocks, -, hE, hP, hD, hS, hA, hA0, hl⟩ := hF
  have hK := hE.1
  have hl : lv_has ls 5 [(0, .ref a.1), (1, .int c), (2, .int w), (3, .ref q)] := hl
  have w1 := hts _ (List.mem_of_getElem? (l := wsL_child) (i := 1) (a := Cond.classLink RL 28 "java/lang/IndexOutOfBoundsException") rfl)
  have w2 := hts _ (List.mem_of_getElem? (l := wsL_child) (i := 2) (a := Cond.classLink RL 13 "java/lang/IllegalArgumentException") rfl)
  refine lv_aload_n hx hb dL_child_0 rfl (lv_at hl 3 rfl) ?_
  refine lv_iconst (v := nI 0) hx hb dL_child_1 (by decide) ?_
  refine lv_aload_n hx hb dL_child_2 rfl (lv_at hl 0 rfl) ?_
  refine lv_iload_n hx hb dL_child_3 rfl (lv_at hl 1 rfl) ?_
  refine lv_iload_n hx hb dL_child_4 rfl (lv_at hl 2 rfl) ?_
  have hP0 : va_P G.1 vwCl (((zb_5 G a) ++ ((zb_L G a.2.2.1 L) ++ zb_M G a.2.2.1 L)) ++ zb_o G q fo) s.heap := zk_Pperm hP List.perm_append_comm
  have hD0 : va_D A (((zb_5 G a) ++ ((zb_L G a.2.2.1 L) ++ zb_M G a.2.2.1 L)) ++ zb_o G q fo) := zk_Dperm hD List.perm_append_comm
  refine zk_callXIc (wr := zb_o G q fo) (vx_runV (As := [.int c, .int w]) (rest := [.int (nI 0), .ref q]) ⟨hx, hb, hml, hown, hts⟩ (c_X5_child l G hst a L n t hI c w _) (cwV 2 hts gL_child_X5_child rfl rfl rfl (by decide +kernel) ⟨Nat.le_of_ble_eq_true rfl, Nat.le_of_ble_eq_true rfl⟩) (zk_preV hE hA0 hS (zk_Papp hP0).1 (zk_Dapp hD0).1 (va_recv hK hP0 (ci := 4) (q0 := 0) rfl rfl)) rfl rfl hl.1 rfl (lv_room (Nat.le_of_ble_eq_true rfl)) dL_child_5 ⟨Nat.le_of_ble_eq_true rfl, Nat.le_of_ble_eq_true rfl⟩) hP0 hD0 hS hA (fun E ce q9 H locs hpx hP hD hS hce hcv hcl => ?_) (fun r u H locs hpost hP hD hS => ?_)
  · have hpx2 := hpx
    rcases hpx with ⟨rfl, hno⟩ | ⟨rfl, hno⟩
    · refine vx_catch hown [] ⟨0, 10, 13, 28⟩ [⟨0, 10, 17, 13⟩] (by rw [hTab]; rfl) (fun z hz => absurd hz List.not_mem_nil) (by decide) (by decide) w1 (va_Nw.use rfl hE.2.1.2.2.2.2.2.2.2.2.2.2.1) hce hcv hcl ?_
      have hP : va_P G.1 vwCl (zb_o G q fo ++ ((zb_5 G a) ++ ((zb_L G a.2.2.1 L) ++ zb_M G a.2.2.1 L))) H := zk_Pperm hP List.perm_append_comm
      have hD : va_D A (zb_o G q fo ++ ((zb_5 G a) ++ ((zb_L G a.2.2.1 L) ++ zb_M G a.2.2.1 L))) := zk_Dperm hD List.perm_append_comm
      refine lv_astore (lv' := [(4, .ref q9), (0, .ref a.1), (1, .int c), (2, .int w), (3, .ref q)]) hx hb dL_child_13 hl (by decide) rfl (fun ls hl => ?_)
      refine lv_iconst (v := nI 1) hx hb dL_child_15 (by decide) ?_
      rw [hQ]
      refine vx_ret ?_
      exact zk_reti (none, fo) rfl hx hb hr hlocks hS hP hD (Nat.le_of_ble_eq_true rfl) (Nat.le_of_ble_eq_true rfl) dL_child_16 (⟨rfl, "java/lang/IndexOutOfBoundsException", hpx2, zc_1 _ _ _⟩)
    · refine vx_catch hown [⟨0, 10, 13, 28⟩] ⟨0, 10, 17, 13⟩ [] (by rw [hTab]; rfl) (List.forall_mem_cons.mpr ⟨Or.inr ⟨by decide, "java/lang/IndexOutOfBoundsException", w1, hNC.1.2⟩, fun z hz => absurd hz List.not_mem_nil⟩) (by decide) (by decide) w2 (va_Nw.use rfl hE.2.1.2.2.2.2.2.2.2.2.2.2.2.1) hce hcv hcl ?_
      have hP : va_P G.1 vwCl (zb_o G q fo ++ ((zb_5 G a) ++ ((zb_L G a.2.2.1 L) ++ zb_M G a.2.2.1 L))) H := zk_Pperm hP List.perm_append_comm
      have hD : va_D A (zb_o G q fo ++ ((zb_5 G a) ++ ((zb_L G a.2.2.1 L) ++ zb_M G a.2.2.1 L))) := zk_Dperm hD List.perm_append_comm
      refine lv_astore (lv' := [(4, .ref q9), (0, .ref a.1), (1, .int c), (2, .int w), (3, .ref q)]) hx hb dL_child_17 hl (by decide) rfl (fun ls hl => ?_)
      refine lv_iconst (v := nI 2) hx hb dL_child_19 (by decide) ?_
      rw [hQ]
      refine vx_ret ?_
      exact zk_reti (none, fo) rfl hx hb hr hlocks hS hP hD (Nat.le_of_ble_eq_true rfl) (Nat.le_of_ble_eq_true rfl) dL_child_20 (⟨rfl, "java/lang/IllegalArgumentException", hpx2, zc_2 _ _ _⟩)
  · have hP : va_P G.1 vwCl (zb_o G q fo ++ ((zb_5 G a) ++ ((zb_L G a.2.2.1 L) ++ zb_M G a.2.2.1 L))) H := zk_Pperm hP List.perm_append_comm
    have hD : va_D A (zb_o G q fo ++ ((zb_5 G a) ++ ((zb_L G a.2.2.1 L) ++ zb_M G a.2.2.1 L))) := zk_Dperm hD List.perm_append_comm
    refine lv_i2l (v := r.toInt64) hx hb dL_child_8 rfl ?_
    refine va_last hx hb hK hP hD hS 0 3 rfl rfl (vp_in_nI (by decide) (by decide)) dL_child_9 (fun H locs hP hD hS => ?_)
    rw [nI_clamp (by decide)] at hP hD
    have hP : va_P G.1 vwCl (zb_o G q (vp_updL fo 0 r.toInt64) ++ ((zb_5 G a) ++ ((zb_L G a.2.2.1 L) ++ zb_M G a.2.2.1 L))) H := hP
    have hD : va_D A (zb_o G q (vp_updL fo 0 r.toInt64) ++ ((zb_5 G a) ++ ((zb_L G a.2.2.1 L) ++ zb_M G a.2.2.1 L))) := hD
    refine lv_goto (tgt := 21) hx hb dL_child_10 (by decide) ?_
    refine lv_iconst (v := nI 0) hx hb dL_child_21 (by decide) ?_
    rw [hQ]
    refine vx_ret ?_
    exact zk_reti (some u, vp_updL fo 0 r.toInt64) rfl hx hb hr hlocks hS hP hD (Nat.le_of_ble_eq_true rfl) (Nat.le_of_ble_eq_true rfl) dL_child_22 (⟨rfl, r, hpost, rfl⟩)

abbrev rmL_family : Room := { frames := 8, cells := 4, slots := 24, locals := 124 }
set_option maxHeartbeats 4000000 in
set_option maxRecDepth 100000 in
theorem c_L_family (l : Launch) (G : zk_G) (hst : l.stackTraces = false) (a : zA) (L : zL) (n t : Nat) (hI : sInv L n t) (f w : Int32) (q : Nat) (fo : Nat → Int64) : zk_IH (S := Option (Unit) × (Nat → Int64)) l yL_family wsL_family rmL_family G [.ref a.1, .int f, .int w, .ref q] (zb_o G q fo ++ ((zb_5 G a) ++ ((zb_L G a.2.2.1 L) ++ zb_M G a.2.2.1 L))) (fun r u => match u.1 with | some v0 => r = nI 0 ∧ ∃ an, (fun r _ => sFam f ∧ zIn w 5 ∧ r = xFamily L n t f.toNatClampNeg w) an v0 ∧ u.2 = vp_updL fo 0 an.toInt64 | none => u.2 = fo ∧ ∃ E, (fun E => (E = "java/lang/IndexOutOfBoundsException" ∧ ¬ sFam f) ∨ (E = "java/lang/IllegalArgumentException" ∧ sFam f ∧ ¬ zIn w 5)) E ∧ zcode E (nI 1) (nI 2) (nI 0) r) (fun u => zb_o G q u.2 ++ (match u.1 with | some v0 => (zb_5 G a) ++ ((zb_L G a.2.2.1 L) ++ zb_M G a.2.2.1 L) | none => (zb_5 G a) ++ ((zb_L G a.2.2.1 L) ++ zb_M G a.2.2.1 L))) := by
  refine zk_bodyIH (cc := cL_family) (maxL := 5) (ret := (some .int)) (hh := [(0, 10, 13, 28), (0, 10, 17, 13)]) (by decide) rfl (Nat.le_of_ble_eq_true rfl) ?_
  intro p E0 s m args below meth cd A ls Q hF hNC hTab hQ
  obtain ⟨hx, hb, hml, hr, hts, hown, hlocks, -, hE, hP, hD, hS, hA, hA0, hl⟩ := hF
  have hK := hE.1
  have hl : lv_has ls 5 [(0, .ref a.1), (1, .int f), (2, .int w), (3, .ref q)] := hl
  have w1 := hts _ (List.mem_of_getElem? (l := wsL_family) (i := 1) (a := Cond.classLink RL 28 "java/lang/IndexOutOfBoundsException") rfl)
  have w2 := hts _ (List.mem_of_getElem? (l := wsL_family) (i := 2) (a := Cond.classLink RL 13 "java/lang/IllegalArgumentException") rfl)
  refine lv_aload_n hx hb dL_family_0 rfl (lv_at hl 3 rfl) ?_
  refine lv_iconst (v := nI 0) hx hb dL_family_1 (by decide) ?_
  refine lv_aload_n hx hb dL_family_2 rfl (lv_at hl 0 rfl) ?_
  refine lv_iload_n hx hb dL_family_3 rfl (lv_at hl 1 rfl) ?_
  refine lv_iload_n hx hb dL_family_4 rfl (lv_at hl 2 rfl) ?_
  have hP0 : va_P G.1 vwCl (((zb_5 G a) ++ ((zb_L G a.2.2.1 L) ++ zb_M G a.2.2.1 L)) ++ zb_o G q fo) s.heap := zk_Pperm hP List.perm_append_comm
  have hD0 : va_D A (((zb_5 G a) ++ ((zb_L G a.2.2.1 L) ++ zb_M G a.2.2.1 L)) ++ zb_o G q fo) := zk_Dperm hD List.perm_append_comm
  refine zk_callXIc (wr := zb_o G q fo) (vx_runV (As := [.int f, .int w]) (rest := [.int (nI 0), .ref q]) ⟨hx, hb, hml, hown, hts⟩ (c_X5_family l G hst a L n t hI f w _) (cwV 2 hts gL_family_X5_family rfl rfl rfl (by decide +kernel) ⟨Nat.le_of_ble_eq_true rfl, Nat.le_of_ble_eq_true rfl⟩) (zk_preV hE hA0 hS (zk_Papp hP0).1 (zk_Dapp hD0).1 (va_recv hK hP0 (ci := 4) (q0 := 0) rfl rfl)) rfl rfl hl.1 rfl (lv_room (Nat.le_of_ble_eq_true rfl)) dL_family_5 ⟨Nat.le_of_ble_eq_true rfl, Nat.le_of_ble_eq_true rfl⟩) hP0 hD0 hS hA (fun E ce q9 H locs hpx hP hD hS hce hcv hcl => ?_) (fun r u H locs hpost hP hD hS => ?_)
  · have hpx2 := hpx
    rcases hpx with ⟨rfl, hno⟩ | ⟨rfl, hno⟩
    · refine vx_catch hown [] ⟨0, 10, 13, 28⟩ [⟨0, 10, 17, 13⟩] (by rw [hTab]; rfl) (fun z hz => absurd hz List.not_mem_nil) (by decide) (by decide) w1 (va_Nw.use rfl hE.2.1.2.2.2.2.2.2.2.2.2.2.1) hce hcv hcl ?_
      have hP : va_P G.1 vwCl (zb_o G q fo ++ ((zb_5 G a) ++ ((zb_L G a.2.2.1 L) ++ zb_M G a.2.2.1 L))) H := zk_Pperm hP List.perm_append_comm
      have hD : va_D A (zb_o G q fo ++ ((zb_5 G a) ++ ((zb_L G a.2.2.1 L) ++ zb_M G a.2.2.1 L))) := zk_Dperm hD List.perm_append_comm
      refine lv_astore (lv' := [(4, .ref q9), (0, .ref a.1), (1, .int f), (2, .int w), (3, .ref q)]) hx hb dL_family_13 hl (by decide) rfl (fun ls hl => ?_)
      refine lv_iconst (v := nI 1) hx hb dL_family_15 (by decide) ?_
      rw [hQ]
      refine vx_ret ?_
      exact zk_reti (none, fo) rfl hx hb hr hlocks hS hP hD (Nat.le_of_ble_eq_true rfl) (Nat.le_of_ble_eq_true rfl) dL_family_16 (⟨rfl, "java/lang/IndexOutOfBoundsException", hpx2, zc_1 _ _ _⟩)
    · refine vx_catch hown [⟨0, 10, 13, 28⟩] ⟨0, 10, 17, 13⟩ [] (by rw [hTab]; rfl) (List.forall_mem_cons.mpr ⟨Or.inr ⟨by decide, "java/lang/IndexOutOfBoundsException", w1, hNC.1.2⟩, fun z hz => absurd hz List.not_mem_nil⟩) (by decide) (by decide) w2 (va_Nw.use rfl hE.2.1.2.2.2.2.2.2.2.2.2.2.2.1) hce hcv hcl ?_
      have hP : va_P G.1 vwCl (zb_o G q fo ++ ((zb_5 G a) ++ ((zb_L G a.2.2.1 L) ++ zb_M G a.2.2.1 L))) H := zk_Pperm hP List.perm_append_comm
      have hD : va_D A (zb_o G q fo ++ ((zb_5 G a) ++ ((zb_L G a.2.2.1 L) ++ zb_M G a.2.2.1 L))) := zk_Dperm hD List.perm_append_comm
      refine lv_astore (lv' := [(4, .ref q9), (0, .ref a.1), (1, .int f), (2, .int w), (3, .ref q)]) hx hb dL_family_17 hl (by decide) rfl (fun ls hl => ?_)
      refine lv_iconst (v := nI 2) hx hb dL_family_19 (by decide) ?_
      rw [hQ]
      refine vx_ret ?_
      exact zk_reti (none, fo) rfl hx hb hr hlocks hS hP hD (Nat.le_of_ble_eq_true rfl) (Nat.le_of_ble_eq_true rfl) dL_family_20 (⟨rfl, "java/lang/IllegalArgumentException", hpx2, zc_2 _ _ _⟩)
  · have hP : va_P G.1 vwCl (zb_o G q fo ++ ((zb_5 G a) ++ ((zb_L G a.2.2.1 L) ++ zb_M G a.2.2.1 L))) H := zk_Pperm hP List.perm_append_comm
    have hD : va_D A (zb_o G q fo ++ ((zb_5 G a) ++ ((zb_L G a.2.2.1 L) ++ zb_M G a.2.2.1 L))) := zk_Dperm hD List.perm_append_comm
    refine lv_i2l (v := r.toInt64) hx hb dL_family_8 rfl ?_
    refine va_last hx hb hK hP hD hS 0 3 rfl rfl (vp_in_nI (by decide) (by decide)) dL_family_9 (fun H locs hP hD hS => ?_)
    rw [nI_clamp (by decide)] at hP hD
    have hP : va_P G.1 vwCl (zb_o G q (vp_updL fo 0 r.toInt64) ++ ((zb_5 G a) ++ ((zb_L G a.2.2.1 L) ++ zb_M G a.2.2.1 L))) H := hP
    have hD : va_D A (zb_o G q (vp_updL fo 0 r.toInt64) ++ ((zb_5 G a) ++ ((zb_L G a.2.2.1 L) ++ zb_M G a.2.2.1 L))) := hD
    refine lv_goto (tgt := 21) hx hb dL_family_10 (by decide) ?_
    refine lv_iconst (v := nI 0) hx hb dL_family_21 (by decide) ?_
    rw [hQ]
    refine vx_ret ?_
    exact zk_reti (some u, vp_updL fo 0 r.toInt64) rfl hx hb hr hlocks hS hP hD (Nat.le_of_ble_eq_true rfl) (Nat.le_of_ble_eq_true rfl) dL_family_22 (⟨rfl, r, hpost, rfl⟩)

abbrev rmL_day : Room := { frames := 8, cells := 4, slots := 24, locals := 124 }
set_option maxHeartbeats 4000000 in
set_option maxRecDepth 100000 in
theorem c_L_day (l : Launch) (G : zk_G) (hst : l.stackTraces = false) (a : zA) (L : zL) (n t : Nat) (hI : sInv L n t) (d w : Int32) (q : Nat) (fo : Nat → Int64) : zk_IH (S := Option (Unit) × (Nat → Int64)) l yL_day wsL_day rmL_day G [.ref a.1, .int d, .int w, .ref q] (zb_o G q fo ++ ((zb_5 G a) ++ ((zb_L G a.2.2.1 L) ++ zb_M G a.2.2.1 L))) (fun r u => match u.1 with | some v0 => r = nI 0 ∧ ∃ an, (fun r _ => sDay d ∧ zIn w 4 ∧ r = xDay L n t d.toNatClampNeg w) an v0 ∧ u.2 = vp_updL fo 0 an.toInt64 | none => u.2 = fo ∧ ∃ E, (fun E => (E = "java/lang/IndexOutOfBoundsException" ∧ ¬ sDay d) ∨ (E = "java/lang/IllegalArgumentException" ∧ sDay d ∧ ¬ zIn w 4)) E ∧ zcode E (nI 1) (nI 2) (nI 0) r) (fun u => zb_o G q u.2 ++ (match u.1 with | some v0 => (zb_5 G a) ++ ((zb_L G a.2.2.1 L) ++ zb_M G a.2.2.1 L) | none => (zb_5 G a) ++ ((zb_L G a.2.2.1 L) ++ zb_M G a.2.2.1 L))) := by
  refine zk_bodyIH (cc := cL_day) (maxL := 5) (ret := (some .int)) (hh := [(0, 10, 13, 28), (0, 10, 17, 13)]) (by decide) rfl (Nat.le_of_ble_eq_true rfl) ?_
  intro p E0 s m args below meth cd A ls Q hF hNC hTab hQ
  obtain ⟨hx, hb, hml, hr, hts, hown, hlocks, -, hE, hP, hD, hS, hA, hA0, hl⟩ := hF
  have hK := hE.1
  have hl : lv_has ls 5 [(0, .ref a.1), (1, .int d), (2, .int w), (3, .ref q)] := hl
  have w1 := hts _ (List.mem_of_getElem? (l := wsL_day) (i := 1) (a := Cond.classLink RL 28 "java/lang/IndexOutOfBoundsException") rfl)
  have w2 := hts _ (List.mem_of_getElem? (l := wsL_day) (i := 2) (a := Cond.classLink RL 13 "java/lang/IllegalArgumentException") rfl)
  refine lv_aload_n hx hb dL_day_0 rfl (lv_at hl 3 rfl) ?_
  refine lv_iconst (v := nI 0) hx hb dL_day_1 (by decide) ?_
  refine lv_aload_n hx hb dL_day_2 rfl (lv_at hl 0 rfl) ?_
  refine lv_iload_n hx hb dL_day_3 rfl (lv_at hl 1 rfl) ?_
  refine lv_iload_n hx hb dL_day_4 rfl (lv_at hl 2 rfl) ?_
  have hP0 : va_P G.1 vwCl (((zb_5 G a) ++ ((zb_L G a.2.2.1 L) ++ zb_M G a.2.2.1 L)) ++ zb_o G q fo) s.heap := zk_Pperm hP List.perm_append_comm
  have hD0 : va_D A (((zb_5 G a) ++ ((zb_L G a.2.2.1 L) ++ zb_M G a.2.2.1 L)) ++ zb_o G q fo) := zk_Dperm hD List.perm_append_comm
  refine zk_callXIc (wr := zb_o G q fo) (vx_runV (As := [.int d, .int w]) (rest := [.int (nI 0), .ref q]) ⟨hx, hb, hml, hown, hts⟩ (c_X5_day l G hst a L n t hI d w _) (cwV 2 hts gL_day_X5_day rfl rfl rfl (by decide +kernel) ⟨Nat.le_of_ble_eq_true rfl, Nat.le_of_ble_eq_true rfl⟩) (zk_preV hE hA0 hS (zk_Papp hP0).1 (zk_Dapp hD0).1 (va_recv hK hP0 (ci := 4) (q0 := 0) rfl rfl)) rfl rfl hl.1 rfl (lv_room (Nat.le_of_ble_eq_true rfl)) dL_day_5 ⟨Nat.le_of_ble_eq_true rfl, Nat.le_of_ble_eq_true rfl⟩) hP0 hD0 hS hA (fun E ce q9 H locs hpx hP hD hS hce hcv hcl => ?_) (fun r u H locs hpost hP hD hS => ?_)
  · have hpx2 := hpx
    rcases hpx with ⟨rfl, hno⟩ | ⟨rfl, hno⟩
    · refine vx_catch hown [] ⟨0, 10, 13, 28⟩ [⟨0, 10, 17, 13⟩] (by rw [hTab]; rfl) (fun z hz => absurd hz List.not_mem_nil) (by decide) (by decide) w1 (va_Nw.use rfl hE.2.1.2.2.2.2.2.2.2.2.2.2.1) hce hcv hcl ?_
      have hP : va_P G.1 vwCl (zb_o G q fo ++ ((zb_5 G a) ++ ((zb_L G a.2.2.1 L) ++ zb_M G a.2.2.1 L))) H := zk_Pperm hP List.perm_append_comm
      have hD : va_D A (zb_o G q fo ++ ((zb_5 G a) ++ ((zb_L G a.2.2.1 L) ++ zb_M G a.2.2.1 L))) := zk_Dperm hD List.perm_append_comm
      refine lv_astore (lv' := [(4, .ref q9), (0, .ref a.1), (1, .int d), (2, .int w), (3, .ref q)]) hx hb dL_day_13 hl (by decide) rfl (fun ls hl => ?_)
      refine lv_iconst (v := nI 1) hx hb dL_day_15 (by decide) ?_
      rw [hQ]
      refine vx_ret ?_
      exact zk_reti (none, fo) rfl hx hb hr hlocks hS hP hD (Nat.le_of_ble_eq_true rfl) (Nat.le_of_ble_eq_true rfl) dL_day_16 (⟨rfl, "java/lang/IndexOutOfBoundsException", hpx2, zc_1 _ _ _⟩)
    · refine vx_catch hown [⟨0, 10, 13, 28⟩] ⟨0, 10, 17, 13⟩ [] (by rw [hTab]; rfl) (List.forall_mem_cons.mpr ⟨Or.inr ⟨by decide, "java/lang/IndexOutOfBoundsException", w1, hNC.1.2⟩, fun z hz => absurd hz List.not_mem_nil⟩) (by decide) (by decide) w2 (va_Nw.use rfl hE.2.1.2.2.2.2.2.2.2.2.2.2.2.1) hce hcv hcl ?_
      have hP : va_P G.1 vwCl (zb_o G q fo ++ ((zb_5 G a) ++ ((zb_L G a.2.2.1 L) ++ zb_M G a.2.2.1 L))) H := zk_Pperm hP List.perm_append_comm
      have hD : va_D A (zb_o G q fo ++ ((zb_5 G a) ++ ((zb_L G a.2.2.1 L) ++ zb_M G a.2.2.1 L))) := zk_Dperm hD List.perm_append_comm
      refine lv_astore (lv' := [(4, .ref q9), (0, .ref a.1), (1, .int d), (2, .int w), (3, .ref q)]) hx hb dL_day_17 hl (by decide) rfl (fun ls hl => ?_)
      refine lv_iconst (v := nI 2) hx hb dL_day_19 (by decide) ?_
      rw [hQ]
      refine vx_ret ?_
      exact zk_reti (none, fo) rfl hx hb hr hlocks hS hP hD (Nat.le_of_ble_eq_true rfl) (Nat.le_of_ble_eq_true rfl) dL_day_20 (⟨rfl, "java/lang/IllegalArgumentException", hpx2, zc_2 _ _ _⟩)
  · have hP : va_P G.1 vwCl (zb_o G q fo ++ ((zb_5 G a) ++ ((zb_L G a.2.2.1 L) ++ zb_M G a.2.2.1 L))) H := zk_Pperm hP List.perm_append_comm
    have hD : va_D A (zb_o G q fo ++ ((zb_5 G a) ++ ((zb_L G a.2.2.1 L) ++ zb_M G a.2.2.1 L))) := zk_Dperm hD List.perm_append_comm
    refine lv_i2l (v := r.toInt64) hx hb dL_day_8 rfl ?_
    refine va_last hx hb hK hP hD hS 0 3 rfl rfl (vp_in_nI (by decide) (by decide)) dL_day_9 (fun H locs hP hD hS => ?_)
    rw [nI_clamp (by decide)] at hP hD
    have hP : va_P G.1 vwCl (zb_o G q (vp_updL fo 0 r.toInt64) ++ ((zb_5 G a) ++ ((zb_L G a.2.2.1 L) ++ zb_M G a.2.2.1 L))) H := hP
    have hD : va_D A (zb_o G q (vp_updL fo 0 r.toInt64) ++ ((zb_5 G a) ++ ((zb_L G a.2.2.1 L) ++ zb_M G a.2.2.1 L))) := hD
    refine lv_goto (tgt := 21) hx hb dL_day_10 (by decide) ?_
    refine lv_iconst (v := nI 0) hx hb dL_day_21 (by decide) ?_
    rw [hQ]
    refine vx_ret ?_
    exact zk_reti (some u, vp_updL fo 0 r.toInt64) rfl hx hb hr hlocks hS hP hD (Nat.le_of_ble_eq_true rfl) (Nat.le_of_ble_eq_true rfl) dL_day_22 (⟨rfl, r, hpost, rfl⟩)

abbrev rmL_meal : Room := { frames := 8, cells := 4, slots := 24, locals := 126 }
set_option maxHeartbeats 4000000 in
set_option maxRecDepth 100000 in
theorem c_L_meal (l : Launch) (G : zk_G) (hst : l.stackTraces = false) (a : zA) (L : zL) (n t : Nat) (hI : sInv L n t) (c d w : Int32) (q : Nat) (fo : Nat → Int64) : zk_IH (S := Option (Unit) × (Nat → Int64)) l yL_meal wsL_meal rmL_meal G [.ref a.1, .int c, .int d, .int w, .ref q] (zb_o G q fo ++ ((zb_5 G a) ++ ((zb_L G a.2.2.1 L) ++ zb_M G a.2.2.1 L))) (fun r u => match u.1 with | some v0 => r = nI 0 ∧ ∃ an, (fun r _ => sHas L c ∧ sDay d ∧ zIn w 3 ∧ r = xMeal L n t c.toNatClampNeg d.toNatClampNeg w) an v0 ∧ u.2 = vp_updL fo 0 an.toInt64 | none => u.2 = fo ∧ ∃ E, (fun E => (E = "java/lang/IndexOutOfBoundsException" ∧ ¬ (sHas L c ∧ sDay d)) ∨ (E = "java/lang/IllegalArgumentException" ∧ sHas L c ∧ sDay d ∧ ¬ zIn w 3)) E ∧ zcode E (nI 1) (nI 2) (nI 0) r) (fun u => zb_o G q u.2 ++ (match u.1 with | some v0 => (zb_5 G a) ++ ((zb_L G a.2.2.1 L) ++ zb_M G a.2.2.1 L) | none => (zb_5 G a) ++ ((zb_L G a.2.2.1 L) ++ zb_M G a.2.2.1 L))) := by
  refine zk_bodyIH (cc := cL_meal) (maxL := 6) (ret := (some .int)) (hh := [(0, 12, 15, 28), (0, 12, 19, 13)]) (by decide) rfl (Nat.le_of_ble_eq_true rfl) ?_
  intro p E0 s m args below meth cd A ls Q hF hNC hTab hQ
  obtain ⟨hx, hb, hml, hr, hts, hown, hlocks, -, hE, hP, hD, hS, hA, hA0, hl⟩ := hF
  have hK := hE.1
  have hl : lv_has ls 6 [(0, .ref a.1), (1, .int c), (2, .int d), (3, .int w), (4, .ref q)] := hl
  have w1 := hts _ (List.mem_of_getElem? (l := wsL_meal) (i := 1) (a := Cond.classLink RL 28 "java/lang/IndexOutOfBoundsException") rfl)
  have w2 := hts _ (List.mem_of_getElem? (l := wsL_meal) (i := 2) (a := Cond.classLink RL 13 "java/lang/IllegalArgumentException") rfl)
  refine lv_aload hx hb dL_meal_0 (lv_at hl 4 rfl) ?_
  refine lv_iconst (v := nI 0) hx hb dL_meal_2 (by decide) ?_
  refine lv_aload_n hx hb dL_meal_3 rfl (lv_at hl 0 rfl) ?_
  refine lv_iload_n hx hb dL_meal_4 rfl (lv_at hl 1 rfl) ?_
  refine lv_iload_n hx hb dL_meal_5 rfl (lv_at hl 2 rfl) ?_
  refine lv_iload_n hx hb dL_meal_6 rfl (lv_at hl 3 rfl) ?_
  have hP0 : va_P G.1 vwCl (((zb_5 G a) ++ ((zb_L G a.2.2.1 L) ++ zb_M G a.2.2.1 L)) ++ zb_o G q fo) s.heap := zk_Pperm hP List.perm_append_comm
  have hD0 : va_D A (((zb_5 G a) ++ ((zb_L G a.2.2.1 L) ++ zb_M G a.2.2.1 L)) ++ zb_o G q fo) := zk_Dperm hD List.perm_append_comm
  refine zk_callXIc (wr := zb_o G q fo) (vx_runV (As := [.int c, .int d, .int w]) (rest := [.int (nI 0), .ref q]) ⟨hx, hb, hml, hown, hts⟩ (c_X5_meal l G hst a L n t hI c d w _) (cwV 3 hts gL_meal_X5_meal rfl rfl rfl (by decide +kernel) ⟨Nat.le_of_ble_eq_true rfl, Nat.le_of_ble_eq_true rfl⟩) (zk_preV hE hA0 hS (zk_Papp hP0).1 (zk_Dapp hD0).1 (va_recv hK hP0 (ci := 4) (q0 := 0) rfl rfl)) rfl rfl hl.1 rfl (lv_room (Nat.le_of_ble_eq_true rfl)) dL_meal_7 ⟨Nat.le_of_ble_eq_true rfl, Nat.le_of_ble_eq_true rfl⟩) hP0 hD0 hS hA (fun E ce q9 H locs hpx hP hD hS hce hcv hcl => ?_) (fun r u H locs hpost hP hD hS => ?_)
  · have hpx2 := hpx
    rcases hpx with ⟨rfl, hno⟩ | ⟨rfl, hno⟩
    · refine vx_catch hown [] ⟨0, 12, 15, 28⟩ [⟨0, 12, 19, 13⟩] (by rw [hTab]; rfl) (fun z hz => absurd hz List.not_mem_nil) (by decide) (by decide) w1 (va_Nw.use rfl hE.2.1.2.2.2.2.2.2.2.2.2.2.1) hce hcv hcl ?_
      have hP : va_P G.1 vwCl (zb_o G q fo ++ ((zb_5 G a) ++ ((zb_L G a.2.2.1 L) ++ zb_M G a.2.2.1 L))) H := zk_Pperm hP List.perm_append_comm
      have hD : va_D A (zb_o G q fo ++ ((zb_5 G a) ++ ((zb_L G a.2.2.1 L) ++ zb_M G a.2.2.1 L))) := zk_Dperm hD List.perm_append_comm
      refine lv_astore (lv' := [(5, .ref q9), (0, .ref a.1), (1, .int c), (2, .int d), (3, .int w), (4, .ref q)]) hx hb dL_meal_15 hl (by decide) rfl (fun ls hl => ?_)
      refine lv_iconst (v := nI 1) hx hb dL_meal_17 (by decide) ?_
      rw [hQ]
      refine vx_ret ?_
      exact zk_reti (none, fo) rfl hx hb hr hlocks hS hP hD (Nat.le_of_ble_eq_true rfl) (Nat.le_of_ble_eq_true rfl) dL_meal_18 (⟨rfl, "java/lang/IndexOutOfBoundsException", hpx2, zc_1 _ _ _⟩)
    · refine vx_catch hown [⟨0, 12, 15, 28⟩] ⟨0, 12, 19, 13⟩ [] (by rw [hTab]; rfl) (List.forall_mem_cons.mpr ⟨Or.inr ⟨by decide, "java/lang/IndexOutOfBoundsException", w1, hNC.1.2⟩, fun z hz => absurd hz List.not_mem_nil⟩) (by decide) (by decide) w2 (va_Nw.use rfl hE.2.1.2.2.2.2.2.2.2.2.2.2.2.1) hce hcv hcl ?_
      have hP : va_P G.1 vwCl (zb_o G q fo ++ ((zb_5 G a) ++ ((zb_L G a.2.2.1 L) ++ zb_M G a.2.2.1 L))) H := zk_Pperm hP List.perm_append_comm
      have hD : va_D A (zb_o G q fo ++ ((zb_5 G a) ++ ((zb_L G a.2.2.1 L) ++ zb_M G a.2.2.1 L))) := zk_Dperm hD List.perm_append_comm
      refine lv_astore (lv' := [(5, .ref q9), (0, .ref a.1), (1, .int c), (2, .int d), (3, .int w), (4, .ref q)]) hx hb dL_meal_19 hl (by decide) rfl (fun ls hl => ?_)
      refine lv_iconst (v := nI 2) hx hb dL_meal_21 (by decide) ?_
      rw [hQ]
      refine vx_ret ?_
      exact zk_reti (none, fo) rfl hx hb hr hlocks hS hP hD (Nat.le_of_ble_eq_true rfl) (Nat.le_of_ble_eq_true rfl) dL_meal_22 (⟨rfl, "java/lang/IllegalArgumentException", hpx2, zc_2 _ _ _⟩)
  · have hP : va_P G.1 vwCl (zb_o G q fo ++ ((zb_5 G a) ++ ((zb_L G a.2.2.1 L) ++ zb_M G a.2.2.1 L))) H := zk_Pperm hP List.perm_append_comm
    have hD : va_D A (zb_o G q fo ++ ((zb_5 G a) ++ ((zb_L G a.2.2.1 L) ++ zb_M G a.2.2.1 L))) := zk_Dperm hD List.perm_append_comm
    refine lv_i2l (v := r.toInt64) hx hb dL_meal_10 rfl ?_
    refine va_last hx hb hK hP hD hS 0 3 rfl rfl (vp_in_nI (by decide) (by decide)) dL_meal_11 (fun H locs hP hD hS => ?_)
    rw [nI_clamp (by decide)] at hP hD
    have hP : va_P G.1 vwCl (zb_o G q (vp_updL fo 0 r.toInt64) ++ ((zb_5 G a) ++ ((zb_L G a.2.2.1 L) ++ zb_M G a.2.2.1 L))) H := hP
    have hD : va_D A (zb_o G q (vp_updL fo 0 r.toInt64) ++ ((zb_5 G a) ++ ((zb_L G a.2.2.1 L) ++ zb_M G a.2.2.1 L))) := hD
    refine lv_goto (tgt := 23) hx hb dL_meal_12 (by decide) ?_
    refine lv_iconst (v := nI 0) hx hb dL_meal_23 (by decide) ?_
    rw [hQ]
    refine vx_ret ?_
    exact zk_reti (some u, vp_updL fo 0 r.toInt64) rfl hx hb hr hlocks hS hP hD (Nat.le_of_ble_eq_true rfl) (Nat.le_of_ble_eq_true rfl) dL_meal_24 (⟨rfl, r, hpost, rfl⟩)

abbrev rmL_setting : Room := { frames := 7, cells := 1, slots := 6, locals := 103 }
set_option maxHeartbeats 4000000 in
set_option maxRecDepth 100000 in
theorem c_L_setting (l : Launch) (G : zk_G) (hst : l.stackTraces = false) (a : zA) (L : zL) (n t : Nat) (hI : sInv L n t) (w : Int32) (q : Nat) (fo : Nat → Int64) : zk_IH (S := Option (Unit) × (Nat → Int64)) l yL_setting wsL_setting rmL_setting G [.ref a.1, .int w, .ref q] (zb_o G q fo ++ ((zb_5 G a) ++ ((zb_L G a.2.2.1 L) ++ zb_M G a.2.2.1 L))) (fun r u => match u.1 with | some v0 => r = nI 0 ∧ ∃ an, (fun r _ => zIn w 2 ∧ r = xSetting L n t w) an v0 ∧ u.2 = vp_updL fo 0 an.toInt64 | none => u.2 = fo ∧ ∃ E, (fun E => E = "java/lang/IllegalArgumentException" ∧ ¬ zIn w 2) E ∧ zcode E (nI 0) (nI 1) (nI 0) r) (fun u => zb_o G q u.2 ++ (match u.1 with | some v0 => (zb_5 G a) ++ ((zb_L G a.2.2.1 L) ++ zb_M G a.2.2.1 L) | none => (zb_5 G a) ++ ((zb_L G a.2.2.1 L) ++ zb_M G a.2.2.1 L))) := by
  refine zk_bodyIH (cc := cL_setting) (maxL := 4) (ret := (some .int)) (hh := [(0, 9, 12, 13)]) (by decide) rfl (Nat.le_of_ble_eq_true rfl) ?_
  intro p E0 s m args below meth cd A ls Q hF hNC hTab hQ
  obtain ⟨hx, hb, hml, hr, hts, hown, hlocks, -, hE, hP, hD, hS, hA, hA0, hl⟩ := hF
  have hK := hE.1
  have hl : lv_has ls 4 [(0, .ref a.1), (1, .int w), (2, .ref q)] := hl
  have w1 := hts _ (List.mem_of_getElem? (l := wsL_setting) (i := 1) (a := Cond.classLink RL 13 "java/lang/IllegalArgumentException") rfl)
  refine lv_aload_n hx hb dL_setting_0 rfl (lv_at hl 2 rfl) ?_
  refine lv_iconst (v := nI 0) hx hb dL_setting_1 (by decide) ?_
  refine lv_aload_n hx hb dL_setting_2 rfl (lv_at hl 0 rfl) ?_
  refine lv_iload_n hx hb dL_setting_3 rfl (lv_at hl 1 rfl) ?_
  have hP0 : va_P G.1 vwCl (((zb_5 G a) ++ ((zb_L G a.2.2.1 L) ++ zb_M G a.2.2.1 L)) ++ zb_o G q fo) s.heap := zk_Pperm hP List.perm_append_comm
  have hD0 : va_D A (((zb_5 G a) ++ ((zb_L G a.2.2.1 L) ++ zb_M G a.2.2.1 L)) ++ zb_o G q fo) := zk_Dperm hD List.perm_append_comm
  refine zk_callXIc (wr := zb_o G q fo) (vx_runV (As := [.int w]) (rest := [.int (nI 0), .ref q]) ⟨hx, hb, hml, hown, hts⟩ (c_X5_setting l G hst a L n t hI w _) (cwV 1 hts gL_setting_X5_setting rfl rfl rfl (by decide +kernel) ⟨Nat.le_of_ble_eq_true rfl, Nat.le_of_ble_eq_true rfl⟩) (zk_preV hE hA0 hS (zk_Papp hP0).1 (zk_Dapp hD0).1 (va_recv hK hP0 (ci := 4) (q0 := 0) rfl rfl)) rfl rfl hl.1 rfl (lv_room (Nat.le_of_ble_eq_true rfl)) dL_setting_4 ⟨Nat.le_of_ble_eq_true rfl, Nat.le_of_ble_eq_true rfl⟩) hP0 hD0 hS hA (fun E ce q9 H locs hpx hP hD hS hce hcv hcl => ?_) (fun r u H locs hpost hP hD hS => ?_)
  · have hpx2 := hpx
    obtain ⟨rfl, hno⟩ := hpx
    refine vx_catch hown [] ⟨0, 9, 12, 13⟩ [] (by rw [hTab]; rfl) (fun z hz => absurd hz List.not_mem_nil) (by decide) (by decide) w1 (va_Nw.use rfl hE.2.1.2.2.2.2.2.2.2.2.2.2.2.1) hce hcv hcl ?_
    have hP : va_P G.1 vwCl (zb_o G q fo ++ ((zb_5 G a) ++ ((zb_L G a.2.2.1 L) ++ zb_M G a.2.2.1 L))) H := zk_Pperm hP List.perm_append_comm
    have hD : va_D A (zb_o G q fo ++ ((zb_5 G a) ++ ((zb_L G a.2.2.1 L) ++ zb_M G a.2.2.1 L))) := zk_Dperm hD List.perm_append_comm
    refine lv_astore_n (lv' := [(3, .ref q9), (0, .ref a.1), (1, .int w), (2, .ref q)]) hx hb dL_setting_12 rfl hl (by decide) rfl (fun ls hl => ?_)
    refine lv_iconst (v := nI 1) hx hb dL_setting_13 (by decide) ?_
    rw [hQ]
    refine vx_ret ?_
    exact zk_reti (none, fo) rfl hx hb hr hlocks hS hP hD (Nat.le_of_ble_eq_true rfl) (Nat.le_of_ble_eq_true rfl) dL_setting_14 (⟨rfl, "java/lang/IllegalArgumentException", hpx2, zc_2 _ _ _⟩)
  · have hP : va_P G.1 vwCl (zb_o G q fo ++ ((zb_5 G a) ++ ((zb_L G a.2.2.1 L) ++ zb_M G a.2.2.1 L))) H := zk_Pperm hP List.perm_append_comm
    have hD : va_D A (zb_o G q fo ++ ((zb_5 G a) ++ ((zb_L G a.2.2.1 L) ++ zb_M G a.2.2.1 L))) := zk_Dperm hD List.perm_append_comm
    refine lv_i2l (v := r.toInt64) hx hb dL_setting_7 rfl ?_
    refine va_last hx hb hK hP hD hS 0 3 rfl rfl (vp_in_nI (by decide) (by decide)) dL_setting_8 (fun H locs hP hD hS => ?_)
    rw [nI_clamp (by decide)] at hP hD
    have hP : va_P G.1 vwCl (zb_o G q (vp_updL fo 0 r.toInt64) ++ ((zb_5 G a) ++ ((zb_L G a.2.2.1 L) ++ zb_M G a.2.2.1 L))) H := hP
    have hD : va_D A (zb_o G q (vp_updL fo 0 r.toInt64) ++ ((zb_5 G a) ++ ((zb_L G a.2.2.1 L) ++ zb_M G a.2.2.1 L))) := hD
    refine lv_goto (tgt := 15) hx hb dL_setting_9 (by decide) ?_
    refine lv_iconst (v := nI 0) hx hb dL_setting_15 (by decide) ?_
    rw [hQ]
    refine vx_ret ?_
    exact zk_reti (some u, vp_updL fo 0 r.toInt64) rfl hx hb hr hlocks hS hP hD (Nat.le_of_ble_eq_true rfl) (Nat.le_of_ble_eq_true rfl) dL_setting_16 (⟨rfl, r, hpost, rfl⟩)

abbrev rmL_come : Room := { frames := 9, cells := 2, slots := 12, locals := 146 }
set_option maxHeartbeats 4000000 in
set_option maxRecDepth 100000 in
theorem c_L_come (l : Launch) (G : zk_G) (hst : l.stackTraces = false) (a : zA) (L : zL) (n t : Nat) (hI : sInv L n t) (f di : Int32) (S : Nat → zL) (o cn : Nat) (ho : o < 14) (hcn : cn ≤ 14) (q : Nat) (fo : Nat → Int64) : zk_IH (S := Option ((Nat × Nat × (Nat → zL)) × zL) × (Nat → Int64)) l yL_come wsL_come rmL_come G [.ref a.1, .int f, .int di, .ref q] (zb_o G q fo ++ ((zb_5 G a) ++ ((zb_L G a.2.2.1 L) ++ ((zb_M G a.2.2.1 L) ++ zb_H G a.2.2.2.2.1.1 a.2.2.2.2.1.2.1 a.2.2.2.2.1.2.2 S (nI o) (nI cn))))) (fun r u => match u.1 with | some v0 => r = nI 0 ∧ ∃ an, (fun r u => sfCome n f di = 0 ∧ r = nI n ∧ u.1 = hRem o cn S L ∧ u.2 = sCome L n f di) an v0 ∧ u.2 = vp_updL fo 0 an.toInt64 | none => u.2 = fo ∧ ∃ E, (fun E => (E = "java/lang/IndexOutOfBoundsException" ∧ sfCome n f di = nI 1) ∨ (E = "java/lang/IllegalArgumentException" ∧ sfCome n f di = nI 2) ∨ (E = "java/lang/IllegalStateException" ∧ sfCome n f di = nI 3)) E ∧ zcode E (nI 1) (nI 2) (nI 3) r) (fun u => zb_o G q u.2 ++ (match u.1 with | some v0 => zb_5 G a ++ ((zb_L G a.2.2.1 v0.2) ++ ((zb_M G a.2.2.1 v0.2) ++ zb_H G a.2.2.2.2.1.1 a.2.2.2.2.1.2.1 a.2.2.2.2.1.2.2 v0.1.2.2 (nI v0.1.1) (nI v0.1.2.1))) | none => (zb_5 G a) ++ ((zb_L G a.2.2.1 L) ++ ((zb_M G a.2.2.1 L) ++ zb_H G a.2.2.2.2.1.1 a.2.2.2.2.1.2.1 a.2.2.2.2.1.2.2 S (nI o) (nI cn))))) := by
  refine zk_bodyIH (cc := cL_come) (maxL := 5) (ret := (some .int)) (hh := [(0, 10, 13, 28), (0, 10, 17, 13), (0, 10, 21, 15)]) (by decide) rfl (Nat.le_of_ble_eq_true rfl) ?_
  intro p E0 s m args below meth cd A ls Q hF hNC hTab hQ
  obtain ⟨hx, hb, hml, hr, hts, hown, hlocks, -, hE, hP, hD, hS, hA, hA0, hl⟩ := hF
  have hK := hE.1
  have hl : lv_has ls 5 [(0, .ref a.1), (1, .int f), (2, .int di), (3, .ref q)] := hl
  have w1 := hts _ (List.mem_of_getElem? (l := wsL_come) (i := 1) (a := Cond.classLink RL 28 "java/lang/IndexOutOfBoundsException") rfl)
  have w2 := hts _ (List.mem_of_getElem? (l := wsL_come) (i := 2) (a := Cond.classLink RL 13 "java/lang/IllegalArgumentException") rfl)
  have w3 := hts _ (List.mem_of_getElem? (l := wsL_come) (i := 3) (a := Cond.classLink RL 15 "java/lang/IllegalStateException") rfl)
  refine lv_aload_n hx hb dL_come_0 rfl (lv_at hl 3 rfl) ?_
  refine lv_iconst (v := nI 0) hx hb dL_come_1 (by decide) ?_
  refine lv_aload_n hx hb dL_come_2 rfl (lv_at hl 0 rfl) ?_
  refine lv_iload_n hx hb dL_come_3 rfl (lv_at hl 1 rfl) ?_
  refine lv_iload_n hx hb dL_come_4 rfl (lv_at hl 2 rfl) ?_
  have hP0 : va_P G.1 vwCl (((zb_5 G a) ++ ((zb_L G a.2.2.1 L) ++ ((zb_M G a.2.2.1 L) ++ zb_H G a.2.2.2.2.1.1 a.2.2.2.2.1.2.1 a.2.2.2.2.1.2.2 S (nI o) (nI cn)))) ++ zb_o G q fo) s.heap := zk_Pperm hP List.perm_append_comm
  have hD0 : va_D A (((zb_5 G a) ++ ((zb_L G a.2.2.1 L) ++ ((zb_M G a.2.2.1 L) ++ zb_H G a.2.2.2.2.1.1 a.2.2.2.2.1.2.1 a.2.2.2.2.1.2.2 S (nI o) (nI cn)))) ++ zb_o G q fo) := zk_Dperm hD List.perm_append_comm
  refine zk_callXIc (wr := zb_o G q fo) (vx_runV (As := [.int f, .int di]) (rest := [.int (nI 0), .ref q]) ⟨hx, hb, hml, hown, hts⟩ (c_X5_come l G hst a L n t hI f di S o cn ho hcn _) (cwV 2 hts gL_come_X5_come rfl rfl rfl (by decide +kernel) ⟨Nat.le_of_ble_eq_true rfl, Nat.le_of_ble_eq_true rfl⟩) (zk_preV hE hA0 hS (zk_Papp hP0).1 (zk_Dapp hD0).1 (va_recv hK hP0 (ci := 4) (q0 := 0) rfl rfl)) rfl rfl hl.1 rfl (lv_room (Nat.le_of_ble_eq_true rfl)) dL_come_5 ⟨Nat.le_of_ble_eq_true rfl, Nat.le_of_ble_eq_true rfl⟩) hP0 hD0 hS hA (fun E ce q9 H locs hpx hP hD hS hce hcv hcl => ?_) (fun r u H locs hpost hP hD hS => ?_)
  · have hpx2 := hpx
    rcases hpx with ⟨rfl, hno⟩ | ⟨rfl, hno⟩ | ⟨rfl, hno⟩
    · refine vx_catch hown [] ⟨0, 10, 13, 28⟩ [⟨0, 10, 17, 13⟩, ⟨0, 10, 21, 15⟩] (by rw [hTab]; rfl) (fun z hz => absurd hz List.not_mem_nil) (by decide) (by decide) w1 (va_Nw.use rfl hE.2.1.2.2.2.2.2.2.2.2.2.2.1) hce hcv hcl ?_
      have hP : va_P G.1 vwCl (zb_o G q fo ++ ((zb_5 G a) ++ ((zb_L G a.2.2.1 L) ++ ((zb_M G a.2.2.1 L) ++ zb_H G a.2.2.2.2.1.1 a.2.2.2.2.1.2.1 a.2.2.2.2.1.2.2 S (nI o) (nI cn))))) H := zk_Pperm hP List.perm_append_comm
      have hD : va_D A (zb_o G q fo ++ ((zb_5 G a) ++ ((zb_L G a.2.2.1 L) ++ ((zb_M G a.2.2.1 L) ++ zb_H G a.2.2.2.2.1.1 a.2.2.2.2.1.2.1 a.2.2.2.2.1.2.2 S (nI o) (nI cn))))) := zk_Dperm hD List.perm_append_comm
      refine lv_astore (lv' := [(4, .ref q9), (0, .ref a.1), (1, .int f), (2, .int di), (3, .ref q)]) hx hb dL_come_13 hl (by decide) rfl (fun ls hl => ?_)
      refine lv_iconst (v := nI 1) hx hb dL_come_15 (by decide) ?_
      rw [hQ]
      refine vx_ret ?_
      exact zk_reti (none, fo) rfl hx hb hr hlocks hS hP hD (Nat.le_of_ble_eq_true rfl) (Nat.le_of_ble_eq_true rfl) dL_come_16 (⟨rfl, "java/lang/IndexOutOfBoundsException", hpx2, zc_1 _ _ _⟩)
    · refine vx_catch hown [⟨0, 10, 13, 28⟩] ⟨0, 10, 17, 13⟩ [⟨0, 10, 21, 15⟩] (by rw [hTab]; rfl) (List.forall_mem_cons.mpr ⟨Or.inr ⟨by decide, "java/lang/IndexOutOfBoundsException", w1, hNC.1.2⟩, fun z hz => absurd hz List.not_mem_nil⟩) (by decide) (by decide) w2 (va_Nw.use rfl hE.2.1.2.2.2.2.2.2.2.2.2.2.2.1) hce hcv hcl ?_
      have hP : va_P G.1 vwCl (zb_o G q fo ++ ((zb_5 G a) ++ ((zb_L G a.2.2.1 L) ++ ((zb_M G a.2.2.1 L) ++ zb_H G a.2.2.2.2.1.1 a.2.2.2.2.1.2.1 a.2.2.2.2.1.2.2 S (nI o) (nI cn))))) H := zk_Pperm hP List.perm_append_comm
      have hD : va_D A (zb_o G q fo ++ ((zb_5 G a) ++ ((zb_L G a.2.2.1 L) ++ ((zb_M G a.2.2.1 L) ++ zb_H G a.2.2.2.2.1.1 a.2.2.2.2.1.2.1 a.2.2.2.2.1.2.2 S (nI o) (nI cn))))) := zk_Dperm hD List.perm_append_comm
      refine lv_astore (lv' := [(4, .ref q9), (0, .ref a.1), (1, .int f), (2, .int di), (3, .ref q)]) hx hb dL_come_17 hl (by decide) rfl (fun ls hl => ?_)
      refine lv_iconst (v := nI 2) hx hb dL_come_19 (by decide) ?_
      rw [hQ]
      refine vx_ret ?_
      exact zk_reti (none, fo) rfl hx hb hr hlocks hS hP hD (Nat.le_of_ble_eq_true rfl) (Nat.le_of_ble_eq_true rfl) dL_come_20 (⟨rfl, "java/lang/IllegalArgumentException", hpx2, zc_2 _ _ _⟩)
    · refine vx_catch hown [⟨0, 10, 13, 28⟩, ⟨0, 10, 17, 13⟩] ⟨0, 10, 21, 15⟩ [] (by rw [hTab]; rfl) (List.forall_mem_cons.mpr ⟨Or.inr ⟨by decide, "java/lang/IndexOutOfBoundsException", w1, hNC.2.1.2⟩, List.forall_mem_cons.mpr ⟨Or.inr ⟨by decide, "java/lang/IllegalArgumentException", w2, hNC.2.1.1⟩, fun z hz => absurd hz List.not_mem_nil⟩⟩) (by decide) (by decide) w3 (va_Nw.use rfl hE.2.1.2.2.2.2.2.2.2.2.2.2.2.2) hce hcv hcl ?_
      have hP : va_P G.1 vwCl (zb_o G q fo ++ ((zb_5 G a) ++ ((zb_L G a.2.2.1 L) ++ ((zb_M G a.2.2.1 L) ++ zb_H G a.2.2.2.2.1.1 a.2.2.2.2.1.2.1 a.2.2.2.2.1.2.2 S (nI o) (nI cn))))) H := zk_Pperm hP List.perm_append_comm
      have hD : va_D A (zb_o G q fo ++ ((zb_5 G a) ++ ((zb_L G a.2.2.1 L) ++ ((zb_M G a.2.2.1 L) ++ zb_H G a.2.2.2.2.1.1 a.2.2.2.2.1.2.1 a.2.2.2.2.1.2.2 S (nI o) (nI cn))))) := zk_Dperm hD List.perm_append_comm
      refine lv_astore (lv' := [(4, .ref q9), (0, .ref a.1), (1, .int f), (2, .int di), (3, .ref q)]) hx hb dL_come_21 hl (by decide) rfl (fun ls hl => ?_)
      refine lv_iconst (v := nI 3) hx hb dL_come_23 (by decide) ?_
      rw [hQ]
      refine vx_ret ?_
      exact zk_reti (none, fo) rfl hx hb hr hlocks hS hP hD (Nat.le_of_ble_eq_true rfl) (Nat.le_of_ble_eq_true rfl) dL_come_24 (⟨rfl, "java/lang/IllegalStateException", hpx2, zc_3 _ _ _⟩)
  · have hP : va_P G.1 vwCl (zb_o G q fo ++ (zb_5 G a ++ ((zb_L G a.2.2.1 u.2) ++ ((zb_M G a.2.2.1 u.2) ++ zb_H G a.2.2.2.2.1.1 a.2.2.2.2.1.2.1 a.2.2.2.2.1.2.2 u.1.2.2 (nI u.1.1) (nI u.1.2.1))))) H := zk_Pperm hP List.perm_append_comm
    have hD : va_D A (zb_o G q fo ++ (zb_5 G a ++ ((zb_L G a.2.2.1 u.2) ++ ((zb_M G a.2.2.1 u.2) ++ zb_H G a.2.2.2.2.1.1 a.2.2.2.2.1.2.1 a.2.2.2.2.1.2.2 u.1.2.2 (nI u.1.1) (nI u.1.2.1))))) := zk_Dperm hD List.perm_append_comm
    refine lv_i2l (v := r.toInt64) hx hb dL_come_8 rfl ?_
    refine va_last hx hb hK hP hD hS 0 3 rfl rfl (vp_in_nI (by decide) (by decide)) dL_come_9 (fun H locs hP hD hS => ?_)
    rw [nI_clamp (by decide)] at hP hD
    have hP : va_P G.1 vwCl (zb_o G q (vp_updL fo 0 r.toInt64) ++ (zb_5 G a ++ ((zb_L G a.2.2.1 u.2) ++ ((zb_M G a.2.2.1 u.2) ++ zb_H G a.2.2.2.2.1.1 a.2.2.2.2.1.2.1 a.2.2.2.2.1.2.2 u.1.2.2 (nI u.1.1) (nI u.1.2.1))))) H := hP
    have hD : va_D A (zb_o G q (vp_updL fo 0 r.toInt64) ++ (zb_5 G a ++ ((zb_L G a.2.2.1 u.2) ++ ((zb_M G a.2.2.1 u.2) ++ zb_H G a.2.2.2.2.1.1 a.2.2.2.2.1.2.1 a.2.2.2.2.1.2.2 u.1.2.2 (nI u.1.1) (nI u.1.2.1))))) := hD
    refine lv_goto (tgt := 25) hx hb dL_come_10 (by decide) ?_
    refine lv_iconst (v := nI 0) hx hb dL_come_25 (by decide) ?_
    rw [hQ]
    refine vx_ret ?_
    exact zk_reti (some u, vp_updL fo 0 r.toInt64) rfl hx hb hr hlocks hS hP hD (Nat.le_of_ble_eq_true rfl) (Nat.le_of_ble_eq_true rfl) dL_come_26 (⟨rfl, r, hpost, rfl⟩)

abbrev rmL_menu : Room := { frames := 9, cells := 2, slots := 12, locals := 146 }
set_option maxHeartbeats 4000000 in
set_option maxRecDepth 100000 in
theorem c_L_menu (l : Launch) (G : zk_G) (hst : l.stackTraces = false) (a : zA) (L : zL) (n t : Nat) (hI : sInv L n t) (d mn : Int32) (S : Nat → zL) (o cn : Nat) (ho : o < 14) (hcn : cn ≤ 14) (q : Nat) (fo : Nat → Int64) : zk_IH (S := Option ((Nat × Nat × (Nat → zL)) × zL) × (Nat → Int64)) l yL_menu wsL_menu rmL_menu G [.ref a.1, .int d, .int mn, .ref q] (zb_o G q fo ++ ((zb_5 G a) ++ ((zb_L G a.2.2.1 L) ++ ((zb_M G a.2.2.1 L) ++ zb_H G a.2.2.2.2.1.1 a.2.2.2.2.1.2.1 a.2.2.2.2.1.2.2 S (nI o) (nI cn))))) (fun r u => match u.1 with | some v0 => r = nI 0 ∧ ∃ an, (fun r u => sfMenu t d mn = 0 ∧ r = L 6 d.toNatClampNeg ∧ u.1 = hRem o cn S L ∧ u.2 = up2 L 6 d.toNatClampNeg mn) an v0 ∧ u.2 = vp_updL fo 0 an.toInt64 | none => u.2 = fo ∧ ∃ E, (fun E => (E = "java/lang/IndexOutOfBoundsException" ∧ sfMenu t d mn = nI 1) ∨ (E = "java/lang/IllegalArgumentException" ∧ sfMenu t d mn = nI 2) ∨ (E = "java/lang/IllegalStateException" ∧ sfMenu t d mn = nI 3)) E ∧ zcode E (nI 1) (nI 2) (nI 3) r) (fun u => zb_o G q u.2 ++ (match u.1 with | some v0 => zb_5 G a ++ ((zb_L G a.2.2.1 v0.2) ++ ((zb_M G a.2.2.1 v0.2) ++ zb_H G a.2.2.2.2.1.1 a.2.2.2.2.1.2.1 a.2.2.2.2.1.2.2 v0.1.2.2 (nI v0.1.1) (nI v0.1.2.1))) | none => (zb_5 G a) ++ ((zb_L G a.2.2.1 L) ++ ((zb_M G a.2.2.1 L) ++ zb_H G a.2.2.2.2.1.1 a.2.2.2.2.1.2.1 a.2.2.2.2.1.2.2 S (nI o) (nI cn))))) := by
  refine zk_bodyIH (cc := cL_menu) (maxL := 5) (ret := (some .int)) (hh := [(0, 10, 13, 28), (0, 10, 17, 13), (0, 10, 21, 15)]) (by decide) rfl (Nat.le_of_ble_eq_true rfl) ?_
  intro p E0 s m args below meth cd A ls Q hF hNC hTab hQ
  obtain ⟨hx, hb, hml, hr, hts, hown, hlocks, -, hE, hP, hD, hS, hA, hA0, hl⟩ := hF
  have hK := hE.1
  have hl : lv_has ls 5 [(0, .ref a.1), (1, .int d), (2, .int mn), (3, .ref q)] := hl
  have w1 := hts _ (List.mem_of_getElem? (l := wsL_menu) (i := 1) (a := Cond.classLink RL 28 "java/lang/IndexOutOfBoundsException") rfl)
  have w2 := hts _ (List.mem_of_getElem? (l := wsL_menu) (i := 2) (a := Cond.classLink RL 13 "java/lang/IllegalArgumentException") rfl)
  have w3 := hts _ (List.mem_of_getElem? (l := wsL_menu) (i := 3) (a := Cond.classLink RL 15 "java/lang/IllegalStateException") rfl)
  refine lv_aload_n hx hb dL_menu_0 rfl (lv_at hl 3 rfl) ?_
  refine lv_iconst (v := nI 0) hx hb dL_menu_1 (by decide) ?_
  refine lv_aload_n hx hb dL_menu_2 rfl (lv_at hl 0 rfl) ?_
  refine lv_iload_n hx hb dL_menu_3 rfl (lv_at hl 1 rfl) ?_
  refine lv_iload_n hx hb dL_menu_4 rfl (lv_at hl 2 rfl) ?_
  have hP0 : va_P G.1 vwCl (((zb_5 G a) ++ ((zb_L G a.2.2.1 L) ++ ((zb_M G a.2.2.1 L) ++ zb_H G a.2.2.2.2.1.1 a.2.2.2.2.1.2.1 a.2.2.2.2.1.2.2 S (nI o) (nI cn)))) ++ zb_o G q fo) s.heap := zk_Pperm hP List.perm_append_comm
  have hD0 : va_D A (((zb_5 G a) ++ ((zb_L G a.2.2.1 L) ++ ((zb_M G a.2.2.1 L) ++ zb_H G a.2.2.2.2.1.1 a.2.2.2.2.1.2.1 a.2.2.2.2.1.2.2 S (nI o) (nI cn)))) ++ zb_o G q fo) := zk_Dperm hD List.perm_append_comm
  refine zk_callXIc (wr := zb_o G q fo) (vx_runV (As := [.int d, .int mn]) (rest := [.int (nI 0), .ref q]) ⟨hx, hb, hml, hown, hts⟩ (c_X5_menu l G hst a L n t hI d mn S o cn ho hcn _) (cwV 2 hts gL_menu_X5_menu rfl rfl rfl (by decide +kernel) ⟨Nat.le_of_ble_eq_true rfl, Nat.le_of_ble_eq_true rfl⟩) (zk_preV hE hA0 hS (zk_Papp hP0).1 (zk_Dapp hD0).1 (va_recv hK hP0 (ci := 4) (q0 := 0) rfl rfl)) rfl rfl hl.1 rfl (lv_room (Nat.le_of_ble_eq_true rfl)) dL_menu_5 ⟨Nat.le_of_ble_eq_true rfl, Nat.le_of_ble_eq_true rfl⟩) hP0 hD0 hS hA (fun E ce q9 H locs hpx hP hD hS hce hcv hcl => ?_) (fun r u H locs hpost hP hD hS => ?_)
  · have hpx2 := hpx
    rcases hpx with ⟨rfl, hno⟩ | ⟨rfl, hno⟩ | ⟨rfl, hno⟩
    · refine vx_catch hown [] ⟨0, 10, 13, 28⟩ [⟨0, 10, 17, 13⟩, ⟨0, 10, 21, 15⟩] (by rw [hTab]; rfl) (fun z hz => absurd hz List.not_mem_nil) (by decide) (by decide) w1 (va_Nw.use rfl hE.2.1.2.2.2.2.2.2.2.2.2.2.1) hce hcv hcl ?_
      have hP : va_P G.1 vwCl (zb_o G q fo ++ ((zb_5 G a) ++ ((zb_L G a.2.2.1 L) ++ ((zb_M G a.2.2.1 L) ++ zb_H G a.2.2.2.2.1.1 a.2.2.2.2.1.2.1 a.2.2.2.2.1.2.2 S (nI o) (nI cn))))) H := zk_Pperm hP List.perm_append_comm
      have hD : va_D A (zb_o G q fo ++ ((zb_5 G a) ++ ((zb_L G a.2.2.1 L) ++ ((zb_M G a.2.2.1 L) ++ zb_H G a.2.2.2.2.1.1 a.2.2.2.2.1.2.1 a.2.2.2.2.1.2.2 S (nI o) (nI cn))))) := zk_Dperm hD List.perm_append_comm
      refine lv_astore (lv' := [(4, .ref q9), (0, .ref a.1), (1, .int d), (2, .int mn), (3, .ref q)]) hx hb dL_menu_13 hl (by decide) rfl (fun ls hl => ?_)
      refine lv_iconst (v := nI 1) hx hb dL_menu_15 (by decide) ?_
      rw [hQ]
      refine vx_ret ?_
      exact zk_reti (none, fo) rfl hx hb hr hlocks hS hP hD (Nat.le_of_ble_eq_true rfl) (Nat.le_of_ble_eq_true rfl) dL_menu_16 (⟨rfl, "java/lang/IndexOutOfBoundsException", hpx2, zc_1 _ _ _⟩)
    · refine vx_catch hown [⟨0, 10, 13, 28⟩] ⟨0, 10, 17, 13⟩ [⟨0, 10, 21, 15⟩] (by rw [hTab]; rfl) (List.forall_mem_cons.mpr ⟨Or.inr ⟨by decide, "java/lang/IndexOutOfBoundsException", w1, hNC.1.2⟩, fun z hz => absurd hz List.not_mem_nil⟩) (by decide) (by decide) w2 (va_Nw.use rfl hE.2.1.2.2.2.2.2.2.2.2.2.2.2.1) hce hcv hcl ?_
      have hP : va_P G.1 vwCl (zb_o G q fo ++ ((zb_5 G a) ++ ((zb_L G a.2.2.1 L) ++ ((zb_M G a.2.2.1 L) ++ zb_H G a.2.2.2.2.1.1 a.2.2.2.2.1.2.1 a.2.2.2.2.1.2.2 S (nI o) (nI cn))))) H := zk_Pperm hP List.perm_append_comm
      have hD : va_D A (zb_o G q fo ++ ((zb_5 G a) ++ ((zb_L G a.2.2.1 L) ++ ((zb_M G a.2.2.1 L) ++ zb_H G a.2.2.2.2.1.1 a.2.2.2.2.1.2.1 a.2.2.2.2.1.2.2 S (nI o) (nI cn))))) := zk_Dperm hD List.perm_append_comm
      refine lv_astore (lv' := [(4, .ref q9), (0, .ref a.1), (1, .int d), (2, .int mn), (3, .ref q)]) hx hb dL_menu_17 hl (by decide) rfl (fun ls hl => ?_)
      refine lv_iconst (v := nI 2) hx hb dL_menu_19 (by decide) ?_
      rw [hQ]
      refine vx_ret ?_
      exact zk_reti (none, fo) rfl hx hb hr hlocks hS hP hD (Nat.le_of_ble_eq_true rfl) (Nat.le_of_ble_eq_true rfl) dL_menu_20 (⟨rfl, "java/lang/IllegalArgumentException", hpx2, zc_2 _ _ _⟩)
    · refine vx_catch hown [⟨0, 10, 13, 28⟩, ⟨0, 10, 17, 13⟩] ⟨0, 10, 21, 15⟩ [] (by rw [hTab]; rfl) (List.forall_mem_cons.mpr ⟨Or.inr ⟨by decide, "java/lang/IndexOutOfBoundsException", w1, hNC.2.1.2⟩, List.forall_mem_cons.mpr ⟨Or.inr ⟨by decide, "java/lang/IllegalArgumentException", w2, hNC.2.1.1⟩, fun z hz => absurd hz List.not_mem_nil⟩⟩) (by decide) (by decide) w3 (va_Nw.use rfl hE.2.1.2.2.2.2.2.2.2.2.2.2.2.2) hce hcv hcl ?_
      have hP : va_P G.1 vwCl (zb_o G q fo ++ ((zb_5 G a) ++ ((zb_L G a.2.2.1 L) ++ ((zb_M G a.2.2.1 L) ++ zb_H G a.2.2.2.2.1.1 a.2.2.2.2.1.2.1 a.2.2.2.2.1.2.2 S (nI o) (nI cn))))) H := zk_Pperm hP List.perm_append_comm
      have hD : va_D A (zb_o G q fo ++ ((zb_5 G a) ++ ((zb_L G a.2.2.1 L) ++ ((zb_M G a.2.2.1 L) ++ zb_H G a.2.2.2.2.1.1 a.2.2.2.2.1.2.1 a.2.2.2.2.1.2.2 S (nI o) (nI cn))))) := zk_Dperm hD List.perm_append_comm
      refine lv_astore (lv' := [(4, .ref q9), (0, .ref a.1), (1, .int d), (2, .int mn), (3, .ref q)]) hx hb dL_menu_21 hl (by decide) rfl (fun ls hl => ?_)
      refine lv_iconst (v := nI 3) hx hb dL_menu_23 (by decide) ?_
      rw [hQ]
      refine vx_ret ?_
      exact zk_reti (none, fo) rfl hx hb hr hlocks hS hP hD (Nat.le_of_ble_eq_true rfl) (Nat.le_of_ble_eq_true rfl) dL_menu_24 (⟨rfl, "java/lang/IllegalStateException", hpx2, zc_3 _ _ _⟩)
  · have hP : va_P G.1 vwCl (zb_o G q fo ++ (zb_5 G a ++ ((zb_L G a.2.2.1 u.2) ++ ((zb_M G a.2.2.1 u.2) ++ zb_H G a.2.2.2.2.1.1 a.2.2.2.2.1.2.1 a.2.2.2.2.1.2.2 u.1.2.2 (nI u.1.1) (nI u.1.2.1))))) H := zk_Pperm hP List.perm_append_comm
    have hD : va_D A (zb_o G q fo ++ (zb_5 G a ++ ((zb_L G a.2.2.1 u.2) ++ ((zb_M G a.2.2.1 u.2) ++ zb_H G a.2.2.2.2.1.1 a.2.2.2.2.1.2.1 a.2.2.2.2.1.2.2 u.1.2.2 (nI u.1.1) (nI u.1.2.1))))) := zk_Dperm hD List.perm_append_comm
    refine lv_i2l (v := r.toInt64) hx hb dL_menu_8 rfl ?_
    refine va_last hx hb hK hP hD hS 0 3 rfl rfl (vp_in_nI (by decide) (by decide)) dL_menu_9 (fun H locs hP hD hS => ?_)
    rw [nI_clamp (by decide)] at hP hD
    have hP : va_P G.1 vwCl (zb_o G q (vp_updL fo 0 r.toInt64) ++ (zb_5 G a ++ ((zb_L G a.2.2.1 u.2) ++ ((zb_M G a.2.2.1 u.2) ++ zb_H G a.2.2.2.2.1.1 a.2.2.2.2.1.2.1 a.2.2.2.2.1.2.2 u.1.2.2 (nI u.1.1) (nI u.1.2.1))))) H := hP
    have hD : va_D A (zb_o G q (vp_updL fo 0 r.toInt64) ++ (zb_5 G a ++ ((zb_L G a.2.2.1 u.2) ++ ((zb_M G a.2.2.1 u.2) ++ zb_H G a.2.2.2.2.1.1 a.2.2.2.2.1.2.1 a.2.2.2.2.1.2.2 u.1.2.2 (nI u.1.1) (nI u.1.2.1))))) := hD
    refine lv_goto (tgt := 25) hx hb dL_menu_10 (by decide) ?_
    refine lv_iconst (v := nI 0) hx hb dL_menu_25 (by decide) ?_
    rw [hQ]
    refine vx_ret ?_
    exact zk_reti (some u, vp_updL fo 0 r.toInt64) rfl hx hb hr hlocks hS hP hD (Nat.le_of_ble_eq_true rfl) (Nat.le_of_ble_eq_true rfl) dL_menu_26 (⟨rfl, r, hpost, rfl⟩)

abbrev rmL_order : Room := { frames := 9, cells := 2, slots := 12, locals := 147 }
set_option maxHeartbeats 4000000 in
set_option maxRecDepth 100000 in
theorem c_L_order (l : Launch) (G : zk_G) (hst : l.stackTraces = false) (a : zA) (L : zL) (n t : Nat) (hI : sInv L n t) (c d b : Int32) (S : Nat → zL) (o cn : Nat) (ho : o < 14) (hcn : cn ≤ 14) (q : Nat) (fo : Nat → Int64) : zk_IH (S := Option ((Nat × Nat × (Nat → zL)) × zL) × (Nat → Int64)) l yL_order wsL_order rmL_order G [.ref a.1, .int c, .int d, .int b, .ref q] (zb_o G q fo ++ ((zb_5 G a) ++ ((zb_L G a.2.2.1 L) ++ ((zb_M G a.2.2.1 L) ++ zb_H G a.2.2.2.2.1.1 a.2.2.2.2.1.2.1 a.2.2.2.2.1.2.2 S (nI o) (nI cn))))) (fun r u => match u.1 with | some v0 => r = nI 0 ∧ ∃ an, (fun r u => sfOrder L t c d = 0 ∧ r = sOrdN u.2 d.toNatClampNeg ∧ u.1 = hRem o cn S L ∧ u.2 = sOrd L (c.toNatClampNeg * 40 + d.toNatClampNeg) b) an v0 ∧ u.2 = vp_updL fo 0 an.toInt64 | none => u.2 = fo ∧ ∃ E, (fun E => (E = "java/lang/IndexOutOfBoundsException" ∧ sfOrder L t c d = nI 1) ∨ (E = "java/lang/IllegalArgumentException" ∧ sfOrder L t c d = nI 2) ∨ (E = "java/lang/IllegalStateException" ∧ sfOrder L t c d = nI 3)) E ∧ zcode E (nI 1) (nI 0) (nI 2) r) (fun u => zb_o G q u.2 ++ (match u.1 with | some v0 => zb_5 G a ++ ((zb_L G a.2.2.1 v0.2) ++ ((zb_M G a.2.2.1 v0.2) ++ zb_H G a.2.2.2.2.1.1 a.2.2.2.2.1.2.1 a.2.2.2.2.1.2.2 v0.1.2.2 (nI v0.1.1) (nI v0.1.2.1))) | none => (zb_5 G a) ++ ((zb_L G a.2.2.1 L) ++ ((zb_M G a.2.2.1 L) ++ zb_H G a.2.2.2.2.1.1 a.2.2.2.2.1.2.1 a.2.2.2.2.1.2.2 S (nI o) (nI cn))))) := by
  refine zk_bodyIH (cc := cL_order) (maxL := 6) (ret := (some .int)) (hh := [(0, 12, 15, 28), (0, 12, 19, 15)]) (by decide) rfl (Nat.le_of_ble_eq_true rfl) ?_
  intro p E0 s m args below meth cd A ls Q hF hNC hTab hQ
  obtain ⟨hx, hb, hml, hr, hts, hown, hlocks, -, hE, hP, hD, hS, hA, hA0, hl⟩ := hF
  have hK := hE.1
  have hl : lv_has ls 6 [(0, .ref a.1), (1, .int c), (2, .int d), (3, .int b), (4, .ref q)] := hl
  have w1 := hts _ (List.mem_of_getElem? (l := wsL_order) (i := 1) (a := Cond.classLink RL 28 "java/lang/IndexOutOfBoundsException") rfl)
  have w2 := hts _ (List.mem_of_getElem? (l := wsL_order) (i := 2) (a := Cond.classLink RL 15 "java/lang/IllegalStateException") rfl)
  refine lv_aload hx hb dL_order_0 (lv_at hl 4 rfl) ?_
  refine lv_iconst (v := nI 0) hx hb dL_order_2 (by decide) ?_
  refine lv_aload_n hx hb dL_order_3 rfl (lv_at hl 0 rfl) ?_
  refine lv_iload_n hx hb dL_order_4 rfl (lv_at hl 1 rfl) ?_
  refine lv_iload_n hx hb dL_order_5 rfl (lv_at hl 2 rfl) ?_
  refine lv_iload_n hx hb dL_order_6 rfl (lv_at hl 3 rfl) ?_
  have hP0 : va_P G.1 vwCl (((zb_5 G a) ++ ((zb_L G a.2.2.1 L) ++ ((zb_M G a.2.2.1 L) ++ zb_H G a.2.2.2.2.1.1 a.2.2.2.2.1.2.1 a.2.2.2.2.1.2.2 S (nI o) (nI cn)))) ++ zb_o G q fo) s.heap := zk_Pperm hP List.perm_append_comm
  have hD0 : va_D A (((zb_5 G a) ++ ((zb_L G a.2.2.1 L) ++ ((zb_M G a.2.2.1 L) ++ zb_H G a.2.2.2.2.1.1 a.2.2.2.2.1.2.1 a.2.2.2.2.1.2.2 S (nI o) (nI cn)))) ++ zb_o G q fo) := zk_Dperm hD List.perm_append_comm
  refine zk_callXIc (wr := zb_o G q fo) (vx_runV (As := [.int c, .int d, .int b]) (rest := [.int (nI 0), .ref q]) ⟨hx, hb, hml, hown, hts⟩ (c_X5_order l G hst a L n t hI c d b S o cn ho hcn _) (cwV 3 hts gL_order_X5_order rfl rfl rfl (by decide +kernel) ⟨Nat.le_of_ble_eq_true rfl, Nat.le_of_ble_eq_true rfl⟩) (zk_preV hE hA0 hS (zk_Papp hP0).1 (zk_Dapp hD0).1 (va_recv hK hP0 (ci := 4) (q0 := 0) rfl rfl)) rfl rfl hl.1 rfl (lv_room (Nat.le_of_ble_eq_true rfl)) dL_order_7 ⟨Nat.le_of_ble_eq_true rfl, Nat.le_of_ble_eq_true rfl⟩) hP0 hD0 hS hA (fun E ce q9 H locs hpx hP hD hS hce hcv hcl => ?_) (fun r u H locs hpost hP hD hS => ?_)
  · have hpx2 := hpx
    rcases hpx with ⟨rfl, hno⟩ | ⟨rfl, hno⟩ | ⟨rfl, hno⟩
    · refine vx_catch hown [] ⟨0, 12, 15, 28⟩ [⟨0, 12, 19, 15⟩] (by rw [hTab]; rfl) (fun z hz => absurd hz List.not_mem_nil) (by decide) (by decide) w1 (va_Nw.use rfl hE.2.1.2.2.2.2.2.2.2.2.2.2.1) hce hcv hcl ?_
      have hP : va_P G.1 vwCl (zb_o G q fo ++ ((zb_5 G a) ++ ((zb_L G a.2.2.1 L) ++ ((zb_M G a.2.2.1 L) ++ zb_H G a.2.2.2.2.1.1 a.2.2.2.2.1.2.1 a.2.2.2.2.1.2.2 S (nI o) (nI cn))))) H := zk_Pperm hP List.perm_append_comm
      have hD : va_D A (zb_o G q fo ++ ((zb_5 G a) ++ ((zb_L G a.2.2.1 L) ++ ((zb_M G a.2.2.1 L) ++ zb_H G a.2.2.2.2.1.1 a.2.2.2.2.1.2.1 a.2.2.2.2.1.2.2 S (nI o) (nI cn))))) := zk_Dperm hD List.perm_append_comm
      refine lv_astore (lv' := [(5, .ref q9), (0, .ref a.1), (1, .int c), (2, .int d), (3, .int b), (4, .ref q)]) hx hb dL_order_15 hl (by decide) rfl (fun ls hl => ?_)
      refine lv_iconst (v := nI 1) hx hb dL_order_17 (by decide) ?_
      rw [hQ]
      refine vx_ret ?_
      exact zk_reti (none, fo) rfl hx hb hr hlocks hS hP hD (Nat.le_of_ble_eq_true rfl) (Nat.le_of_ble_eq_true rfl) dL_order_18 (⟨rfl, "java/lang/IndexOutOfBoundsException", hpx2, zc_1 _ _ _⟩)
    · exact absurd hno (by unfold sfOrder; (repeat' split) <;> decide)
    · refine vx_catch hown [⟨0, 12, 15, 28⟩] ⟨0, 12, 19, 15⟩ [] (by rw [hTab]; rfl) (List.forall_mem_cons.mpr ⟨Or.inr ⟨by decide, "java/lang/IndexOutOfBoundsException", w1, hNC.2.1.2⟩, fun z hz => absurd hz List.not_mem_nil⟩) (by decide) (by decide) w2 (va_Nw.use rfl hE.2.1.2.2.2.2.2.2.2.2.2.2.2.2) hce hcv hcl ?_
      have hP : va_P G.1 vwCl (zb_o G q fo ++ ((zb_5 G a) ++ ((zb_L G a.2.2.1 L) ++ ((zb_M G a.2.2.1 L) ++ zb_H G a.2.2.2.2.1.1 a.2.2.2.2.1.2.1 a.2.2.2.2.1.2.2 S (nI o) (nI cn))))) H := zk_Pperm hP List.perm_append_comm
      have hD : va_D A (zb_o G q fo ++ ((zb_5 G a) ++ ((zb_L G a.2.2.1 L) ++ ((zb_M G a.2.2.1 L) ++ zb_H G a.2.2.2.2.1.1 a.2.2.2.2.1.2.1 a.2.2.2.2.1.2.2 S (nI o) (nI cn))))) := zk_Dperm hD List.perm_append_comm
      refine lv_astore (lv' := [(5, .ref q9), (0, .ref a.1), (1, .int c), (2, .int d), (3, .int b), (4, .ref q)]) hx hb dL_order_19 hl (by decide) rfl (fun ls hl => ?_)
      refine lv_iconst (v := nI 2) hx hb dL_order_21 (by decide) ?_
      rw [hQ]
      refine vx_ret ?_
      exact zk_reti (none, fo) rfl hx hb hr hlocks hS hP hD (Nat.le_of_ble_eq_true rfl) (Nat.le_of_ble_eq_true rfl) dL_order_22 (⟨rfl, "java/lang/IllegalStateException", hpx2, zc_3 _ _ _⟩)
  · have hP : va_P G.1 vwCl (zb_o G q fo ++ (zb_5 G a ++ ((zb_L G a.2.2.1 u.2) ++ ((zb_M G a.2.2.1 u.2) ++ zb_H G a.2.2.2.2.1.1 a.2.2.2.2.1.2.1 a.2.2.2.2.1.2.2 u.1.2.2 (nI u.1.1) (nI u.1.2.1))))) H := zk_Pperm hP List.perm_append_comm
    have hD : va_D A (zb_o G q fo ++ (zb_5 G a ++ ((zb_L G a.2.2.1 u.2) ++ ((zb_M G a.2.2.1 u.2) ++ zb_H G a.2.2.2.2.1.1 a.2.2.2.2.1.2.1 a.2.2.2.2.1.2.2 u.1.2.2 (nI u.1.1) (nI u.1.2.1))))) := zk_Dperm hD List.perm_append_comm
    refine lv_i2l (v := r.toInt64) hx hb dL_order_10 rfl ?_
    refine va_last hx hb hK hP hD hS 0 3 rfl rfl (vp_in_nI (by decide) (by decide)) dL_order_11 (fun H locs hP hD hS => ?_)
    rw [nI_clamp (by decide)] at hP hD
    have hP : va_P G.1 vwCl (zb_o G q (vp_updL fo 0 r.toInt64) ++ (zb_5 G a ++ ((zb_L G a.2.2.1 u.2) ++ ((zb_M G a.2.2.1 u.2) ++ zb_H G a.2.2.2.2.1.1 a.2.2.2.2.1.2.1 a.2.2.2.2.1.2.2 u.1.2.2 (nI u.1.1) (nI u.1.2.1))))) H := hP
    have hD : va_D A (zb_o G q (vp_updL fo 0 r.toInt64) ++ (zb_5 G a ++ ((zb_L G a.2.2.1 u.2) ++ ((zb_M G a.2.2.1 u.2) ++ zb_H G a.2.2.2.2.1.1 a.2.2.2.2.1.2.1 a.2.2.2.2.1.2.2 u.1.2.2 (nI u.1.1) (nI u.1.2.1))))) := hD
    refine lv_goto (tgt := 23) hx hb dL_order_12 (by decide) ?_
    refine lv_iconst (v := nI 0) hx hb dL_order_23 (by decide) ?_
    rw [hQ]
    refine vx_ret ?_
    exact zk_reti (some u, vp_updL fo 0 r.toInt64) rfl hx hb hr hlocks hS hP hD (Nat.le_of_ble_eq_true rfl) (Nat.le_of_ble_eq_true rfl) dL_order_24 (⟨rfl, r, hpost, rfl⟩)

abbrev rmL_pay : Room := { frames := 9, cells := 2, slots := 12, locals := 146 }
set_option maxHeartbeats 4000000 in
set_option maxRecDepth 100000 in
theorem c_L_pay (l : Launch) (G : zk_G) (hst : l.stackTraces = false) (a : zA) (L : zL) (n t : Nat) (hI : sInv L n t) (c am : Int32) (S : Nat → zL) (o cn : Nat) (ho : o < 14) (hcn : cn ≤ 14) (q : Nat) (fo : Nat → Int64) : zk_IH (S := Option ((Nat × Nat × (Nat → zL)) × zL) × (Nat → Int64)) l yL_pay wsL_pay rmL_pay G [.ref a.1, .int c, .int am, .ref q] (zb_o G q fo ++ ((zb_5 G a) ++ ((zb_L G a.2.2.1 L) ++ ((zb_M G a.2.2.1 L) ++ zb_H G a.2.2.2.2.1.1 a.2.2.2.2.1.2.1 a.2.2.2.2.1.2.2 S (nI o) (nI cn))))) (fun r u => match u.1 with | some v0 => r = nI 0 ∧ ∃ an, (fun r u => sfPay L c am = 0 ∧ r = u.2 3 c.toNatClampNeg ∧ u.1 = hRem o cn S L ∧ u.2 = sPay L c.toNatClampNeg am) an v0 ∧ u.2 = vp_updL fo 0 an.toInt64 | none => u.2 = fo ∧ ∃ E, (fun E => (E = "java/lang/IndexOutOfBoundsException" ∧ sfPay L c am = nI 1) ∨ (E = "java/lang/IllegalArgumentException" ∧ sfPay L c am = nI 2) ∨ (E = "java/lang/IllegalStateException" ∧ sfPay L c am = nI 3)) E ∧ zcode E (nI 1) (nI 2) (nI 3) r) (fun u => zb_o G q u.2 ++ (match u.1 with | some v0 => zb_5 G a ++ ((zb_L G a.2.2.1 v0.2) ++ ((zb_M G a.2.2.1 v0.2) ++ zb_H G a.2.2.2.2.1.1 a.2.2.2.2.1.2.1 a.2.2.2.2.1.2.2 v0.1.2.2 (nI v0.1.1) (nI v0.1.2.1))) | none => (zb_5 G a) ++ ((zb_L G a.2.2.1 L) ++ ((zb_M G a.2.2.1 L) ++ zb_H G a.2.2.2.2.1.1 a.2.2.2.2.1.2.1 a.2.2.2.2.1.2.2 S (nI o) (nI cn))))) := by
  refine zk_bodyIH (cc := cL_pay) (maxL := 5) (ret := (some .int)) (hh := [(0, 10, 13, 28), (0, 10, 17, 13), (0, 10, 21, 15)]) (by decide) rfl (Nat.le_of_ble_eq_true rfl) ?_
  intro p E0 s m args below meth cd A ls Q hF hNC hTab hQ
  obtain ⟨hx, hb, hml, hr, hts, hown, hlocks, -, hE, hP, hD, hS, hA, hA0, hl⟩ := hF
  have hK := hE.1
  have hl : lv_has ls 5 [(0, .ref a.1), (1, .int c), (2, .int am), (3, .ref q)] := hl
  have w1 := hts _ (List.mem_of_getElem? (l := wsL_pay) (i := 1) (a := Cond.classLink RL 28 "java/lang/IndexOutOfBoundsException") rfl)
  have w2 := hts _ (List.mem_of_getElem? (l := wsL_pay) (i := 2) (a := Cond.classLink RL 13 "java/lang/IllegalArgumentException") rfl)
  have w3 := hts _ (List.mem_of_getElem? (l := wsL_pay) (i := 3) (a := Cond.classLink RL 15 "java/lang/IllegalStateException") rfl)
  refine lv_aload_n hx hb dL_pay_0 rfl (lv_at hl 3 rfl) ?_
  refine lv_iconst (v := nI 0) hx hb dL_pay_1 (by decide) ?_
  refine lv_aload_n hx hb dL_pay_2 rfl (lv_at hl 0 rfl) ?_
  refine lv_iload_n hx hb dL_pay_3 rfl (lv_at hl 1 rfl) ?_
  refine lv_iload_n hx hb dL_pay_4 rfl (lv_at hl 2 rfl) ?_
  have hP0 : va_P G.1 vwCl (((zb_5 G a) ++ ((zb_L G a.2.2.1 L) ++ ((zb_M G a.2.2.1 L) ++ zb_H G a.2.2.2.2.1.1 a.2.2.2.2.1.2.1 a.2.2.2.2.1.2.2 S (nI o) (nI cn)))) ++ zb_o G q fo) s.heap := zk_Pperm hP List.perm_append_comm
  have hD0 : va_D A (((zb_5 G a) ++ ((zb_L G a.2.2.1 L) ++ ((zb_M G a.2.2.1 L) ++ zb_H G a.2.2.2.2.1.1 a.2.2.2.2.1.2.1 a.2.2.2.2.1.2.2 S (nI o) (nI cn)))) ++ zb_o G q fo) := zk_Dperm hD List.perm_append_comm
  refine zk_callXIc (wr := zb_o G q fo) (vx_runV (As := [.int c, .int am]) (rest := [.int (nI 0), .ref q]) ⟨hx, hb, hml, hown, hts⟩ (c_X5_pay l G hst a L n t hI c am S o cn ho hcn _) (cwV 2 hts gL_pay_X5_pay rfl rfl rfl (by decide +kernel) ⟨Nat.le_of_ble_eq_true rfl, Nat.le_of_ble_eq_true rfl⟩) (zk_preV hE hA0 hS (zk_Papp hP0).1 (zk_Dapp hD0).1 (va_recv hK hP0 (ci := 4) (q0 := 0) rfl rfl)) rfl rfl hl.1 rfl (lv_room (Nat.le_of_ble_eq_true rfl)) dL_pay_5 ⟨Nat.le_of_ble_eq_true rfl, Nat.le_of_ble_eq_true rfl⟩) hP0 hD0 hS hA (fun E ce q9 H locs hpx hP hD hS hce hcv hcl => ?_) (fun r u H locs hpost hP hD hS => ?_)
  · have hpx2 := hpx
    rcases hpx with ⟨rfl, hno⟩ | ⟨rfl, hno⟩ | ⟨rfl, hno⟩
    · refine vx_catch hown [] ⟨0, 10, 13, 28⟩ [⟨0, 10, 17, 13⟩, ⟨0, 10, 21, 15⟩] (by rw [hTab]; rfl) (fun z hz => absurd hz List.not_mem_nil) (by decide) (by decide) w1 (va_Nw.use rfl hE.2.1.2.2.2.2.2.2.2.2.2.2.1) hce hcv hcl ?_
      have hP : va_P G.1 vwCl (zb_o G q fo ++ ((zb_5 G a) ++ ((zb_L G a.2.2.1 L) ++ ((zb_M G a.2.2.1 L) ++ zb_H G a.2.2.2.2.1.1 a.2.2.2.2.1.2.1 a.2.2.2.2.1.2.2 S (nI o) (nI cn))))) H := zk_Pperm hP List.perm_append_comm
      have hD : va_D A (zb_o G q fo ++ ((zb_5 G a) ++ ((zb_L G a.2.2.1 L) ++ ((zb_M G a.2.2.1 L) ++ zb_H G a.2.2.2.2.1.1 a.2.2.2.2.1.2.1 a.2.2.2.2.1.2.2 S (nI o) (nI cn))))) := zk_Dperm hD List.perm_append_comm
      refine lv_astore (lv' := [(4, .ref q9), (0, .ref a.1), (1, .int c), (2, .int am), (3, .ref q)]) hx hb dL_pay_13 hl (by decide) rfl (fun ls hl => ?_)
      refine lv_iconst (v := nI 1) hx hb dL_pay_15 (by decide) ?_
      rw [hQ]
      refine vx_ret ?_
      exact zk_reti (none, fo) rfl hx hb hr hlocks hS hP hD (Nat.le_of_ble_eq_true rfl) (Nat.le_of_ble_eq_true rfl) dL_pay_16 (⟨rfl, "java/lang/IndexOutOfBoundsException", hpx2, zc_1 _ _ _⟩)
    · refine vx_catch hown [⟨0, 10, 13, 28⟩] ⟨0, 10, 17, 13⟩ [⟨0, 10, 21, 15⟩] (by rw [hTab]; rfl) (List.forall_mem_cons.mpr ⟨Or.inr ⟨by decide, "java/lang/IndexOutOfBoundsException", w1, hNC.1.2⟩, fun z hz => absurd hz List.not_mem_nil⟩) (by decide) (by decide) w2 (va_Nw.use rfl hE.2.1.2.2.2.2.2.2.2.2.2.2.2.1) hce hcv hcl ?_
      have hP : va_P G.1 vwCl (zb_o G q fo ++ ((zb_5 G a) ++ ((zb_L G a.2.2.1 L) ++ ((zb_M G a.2.2.1 L) ++ zb_H G a.2.2.2.2.1.1 a.2.2.2.2.1.2.1 a.2.2.2.2.1.2.2 S (nI o) (nI cn))))) H := zk_Pperm hP List.perm_append_comm
      have hD : va_D A (zb_o G q fo ++ ((zb_5 G a) ++ ((zb_L G a.2.2.1 L) ++ ((zb_M G a.2.2.1 L) ++ zb_H G a.2.2.2.2.1.1 a.2.2.2.2.1.2.1 a.2.2.2.2.1.2.2 S (nI o) (nI cn))))) := zk_Dperm hD List.perm_append_comm
      refine lv_astore (lv' := [(4, .ref q9), (0, .ref a.1), (1, .int c), (2, .int am), (3, .ref q)]) hx hb dL_pay_17 hl (by decide) rfl (fun ls hl => ?_)
      refine lv_iconst (v := nI 2) hx hb dL_pay_19 (by decide) ?_
      rw [hQ]
      refine vx_ret ?_
      exact zk_reti (none, fo) rfl hx hb hr hlocks hS hP hD (Nat.le_of_ble_eq_true rfl) (Nat.le_of_ble_eq_true rfl) dL_pay_20 (⟨rfl, "java/lang/IllegalArgumentException", hpx2, zc_2 _ _ _⟩)
    · refine vx_catch hown [⟨0, 10, 13, 28⟩, ⟨0, 10, 17, 13⟩] ⟨0, 10, 21, 15⟩ [] (by rw [hTab]; rfl) (List.forall_mem_cons.mpr ⟨Or.inr ⟨by decide, "java/lang/IndexOutOfBoundsException", w1, hNC.2.1.2⟩, List.forall_mem_cons.mpr ⟨Or.inr ⟨by decide, "java/lang/IllegalArgumentException", w2, hNC.2.1.1⟩, fun z hz => absurd hz List.not_mem_nil⟩⟩) (by decide) (by decide) w3 (va_Nw.use rfl hE.2.1.2.2.2.2.2.2.2.2.2.2.2.2) hce hcv hcl ?_
      have hP : va_P G.1 vwCl (zb_o G q fo ++ ((zb_5 G a) ++ ((zb_L G a.2.2.1 L) ++ ((zb_M G a.2.2.1 L) ++ zb_H G a.2.2.2.2.1.1 a.2.2.2.2.1.2.1 a.2.2.2.2.1.2.2 S (nI o) (nI cn))))) H := zk_Pperm hP List.perm_append_comm
      have hD : va_D A (zb_o G q fo ++ ((zb_5 G a) ++ ((zb_L G a.2.2.1 L) ++ ((zb_M G a.2.2.1 L) ++ zb_H G a.2.2.2.2.1.1 a.2.2.2.2.1.2.1 a.2.2.2.2.1.2.2 S (nI o) (nI cn))))) := zk_Dperm hD List.perm_append_comm
      refine lv_astore (lv' := [(4, .ref q9), (0, .ref a.1), (1, .int c), (2, .int am), (3, .ref q)]) hx hb dL_pay_21 hl (by decide) rfl (fun ls hl => ?_)
      refine lv_iconst (v := nI 3) hx hb dL_pay_23 (by decide) ?_
      rw [hQ]
      refine vx_ret ?_
      exact zk_reti (none, fo) rfl hx hb hr hlocks hS hP hD (Nat.le_of_ble_eq_true rfl) (Nat.le_of_ble_eq_true rfl) dL_pay_24 (⟨rfl, "java/lang/IllegalStateException", hpx2, zc_3 _ _ _⟩)
  · have hP : va_P G.1 vwCl (zb_o G q fo ++ (zb_5 G a ++ ((zb_L G a.2.2.1 u.2) ++ ((zb_M G a.2.2.1 u.2) ++ zb_H G a.2.2.2.2.1.1 a.2.2.2.2.1.2.1 a.2.2.2.2.1.2.2 u.1.2.2 (nI u.1.1) (nI u.1.2.1))))) H := zk_Pperm hP List.perm_append_comm
    have hD : va_D A (zb_o G q fo ++ (zb_5 G a ++ ((zb_L G a.2.2.1 u.2) ++ ((zb_M G a.2.2.1 u.2) ++ zb_H G a.2.2.2.2.1.1 a.2.2.2.2.1.2.1 a.2.2.2.2.1.2.2 u.1.2.2 (nI u.1.1) (nI u.1.2.1))))) := zk_Dperm hD List.perm_append_comm
    refine lv_i2l (v := r.toInt64) hx hb dL_pay_8 rfl ?_
    refine va_last hx hb hK hP hD hS 0 3 rfl rfl (vp_in_nI (by decide) (by decide)) dL_pay_9 (fun H locs hP hD hS => ?_)
    rw [nI_clamp (by decide)] at hP hD
    have hP : va_P G.1 vwCl (zb_o G q (vp_updL fo 0 r.toInt64) ++ (zb_5 G a ++ ((zb_L G a.2.2.1 u.2) ++ ((zb_M G a.2.2.1 u.2) ++ zb_H G a.2.2.2.2.1.1 a.2.2.2.2.1.2.1 a.2.2.2.2.1.2.2 u.1.2.2 (nI u.1.1) (nI u.1.2.1))))) H := hP
    have hD : va_D A (zb_o G q (vp_updL fo 0 r.toInt64) ++ (zb_5 G a ++ ((zb_L G a.2.2.1 u.2) ++ ((zb_M G a.2.2.1 u.2) ++ zb_H G a.2.2.2.2.1.1 a.2.2.2.2.1.2.1 a.2.2.2.2.1.2.2 u.1.2.2 (nI u.1.1) (nI u.1.2.1))))) := hD
    refine lv_goto (tgt := 25) hx hb dL_pay_10 (by decide) ?_
    refine lv_iconst (v := nI 0) hx hb dL_pay_25 (by decide) ?_
    rw [hQ]
    refine vx_ret ?_
    exact zk_reti (some u, vp_updL fo 0 r.toInt64) rfl hx hb hr hlocks hS hP hD (Nat.le_of_ble_eq_true rfl) (Nat.le_of_ble_eq_true rfl) dL_pay_26 (⟨rfl, r, hpost, rfl⟩)

abbrev rmL_move : Room := { frames := 9, cells := 2, slots := 12, locals := 147 }
set_option maxHeartbeats 4000000 in
set_option maxRecDepth 100000 in
theorem c_L_move (l : Launch) (G : zk_G) (hst : l.stackTraces = false) (a : zA) (L : zL) (n t : Nat) (hI : sInv L n t) (c ot am : Int32) (S : Nat → zL) (o cn : Nat) (ho : o < 14) (hcn : cn ≤ 14) (q : Nat) (fo : Nat → Int64) : zk_IH (S := Option ((Nat × Nat × (Nat → zL)) × zL) × (Nat → Int64)) l yL_move wsL_move rmL_move G [.ref a.1, .int c, .int ot, .int am, .ref q] (zb_o G q fo ++ ((zb_5 G a) ++ ((zb_L G a.2.2.1 L) ++ ((zb_M G a.2.2.1 L) ++ zb_H G a.2.2.2.2.1.1 a.2.2.2.2.1.2.1 a.2.2.2.2.1.2.2 S (nI o) (nI cn))))) (fun r u => match u.1 with | some v0 => r = nI 0 ∧ ∃ an, (fun r u => sfMove L c ot am = 0 ∧ r = u.2 3 c.toNatClampNeg ∧ u.1 = hRem o cn S L ∧ u.2 = sMove L c.toNatClampNeg ot.toNatClampNeg am) an v0 ∧ u.2 = vp_updL fo 0 an.toInt64 | none => u.2 = fo ∧ ∃ E, (fun E => (E = "java/lang/IndexOutOfBoundsException" ∧ sfMove L c ot am = nI 1) ∨ (E = "java/lang/IllegalArgumentException" ∧ sfMove L c ot am = nI 2) ∨ (E = "java/lang/IllegalStateException" ∧ sfMove L c ot am = nI 3)) E ∧ zcode E (nI 1) (nI 2) (nI 3) r) (fun u => zb_o G q u.2 ++ (match u.1 with | some v0 => zb_5 G a ++ ((zb_L G a.2.2.1 v0.2) ++ ((zb_M G a.2.2.1 v0.2) ++ zb_H G a.2.2.2.2.1.1 a.2.2.2.2.1.2.1 a.2.2.2.2.1.2.2 v0.1.2.2 (nI v0.1.1) (nI v0.1.2.1))) | none => (zb_5 G a) ++ ((zb_L G a.2.2.1 L) ++ ((zb_M G a.2.2.1 L) ++ zb_H G a.2.2.2.2.1.1 a.2.2.2.2.1.2.1 a.2.2.2.2.1.2.2 S (nI o) (nI cn))))) := by
  refine zk_bodyIH (cc := cL_move) (maxL := 6) (ret := (some .int)) (hh := [(0, 12, 15, 28), (0, 12, 19, 13), (0, 12, 23, 15)]) (by decide) rfl (Nat.le_of_ble_eq_true rfl) ?_
  intro p E0 s m args below meth cd A ls Q hF hNC hTab hQ
  obtain ⟨hx, hb, hml, hr, hts, hown, hlocks, -, hE, hP, hD, hS, hA, hA0, hl⟩ := hF
  have hK := hE.1
  have hl : lv_has ls 6 [(0, .ref a.1), (1, .int c), (2, .int ot), (3, .int am), (4, .ref q)] := hl
  have w1 := hts _ (List.mem_of_getElem? (l := wsL_move) (i := 1) (a := Cond.classLink RL 28 "java/lang/IndexOutOfBoundsException") rfl)
  have w2 := hts _ (List.mem_of_getElem? (l := wsL_move) (i := 2) (a := Cond.classLink RL 13 "java/lang/IllegalArgumentException") rfl)
  have w3 := hts _ (List.mem_of_getElem? (l := wsL_move) (i := 3) (a := Cond.classLink RL 15 "java/lang/IllegalStateException") rfl)
  refine lv_aload hx hb dL_move_0 (lv_at hl 4 rfl) ?_
  refine lv_iconst (v := nI 0) hx hb dL_move_2 (by decide) ?_
  refine lv_aload_n hx hb dL_move_3 rfl (lv_at hl 0 rfl) ?_
  refine lv_iload_n hx hb dL_move_4 rfl (lv_at hl 1 rfl) ?_
  refine lv_iload_n hx hb dL_move_5 rfl (lv_at hl 2 rfl) ?_
  refine lv_iload_n hx hb dL_move_6 rfl (lv_at hl 3 rfl) ?_
  have hP0 : va_P G.1 vwCl (((zb_5 G a) ++ ((zb_L G a.2.2.1 L) ++ ((zb_M G a.2.2.1 L) ++ zb_H G a.2.2.2.2.1.1 a.2.2.2.2.1.2.1 a.2.2.2.2.1.2.2 S (nI o) (nI cn)))) ++ zb_o G q fo) s.heap := zk_Pperm hP List.perm_append_comm
  have hD0 : va_D A (((zb_5 G a) ++ ((zb_L G a.2.2.1 L) ++ ((zb_M G a.2.2.1 L) ++ zb_H G a.2.2.2.2.1.1 a.2.2.2.2.1.2.1 a.2.2.2.2.1.2.2 S (nI o) (nI cn)))) ++ zb_o G q fo) := zk_Dperm hD List.perm_append_comm
  refine zk_callXIc (wr := zb_o G q fo) (vx_runV (As := [.int c, .int ot, .int am]) (rest := [.int (nI 0), .ref q]) ⟨hx, hb, hml, hown, hts⟩ (c_X5_move l G hst a L n t hI c ot am S o cn ho hcn _) (cwV 3 hts gL_move_X5_move rfl rfl rfl (by decide +kernel) ⟨Nat.le_of_ble_eq_true rfl, Nat.le_of_ble_eq_true rfl⟩) (zk_preV hE hA0 hS (zk_Papp hP0).1 (zk_Dapp hD0).1 (va_recv hK hP0 (ci := 4) (q0 := 0) rfl rfl)) rfl rfl hl.1 rfl (lv_room (Nat.le_of_ble_eq_true rfl)) dL_move_7 ⟨Nat.le_of_ble_eq_true rfl, Nat.le_of_ble_eq_true rfl⟩) hP0 hD0 hS hA (fun E ce q9 H locs hpx hP hD hS hce hcv hcl => ?_) (fun r u H locs hpost hP hD hS => ?_)
  · have hpx2 := hpx
    rcases hpx with ⟨rfl, hno⟩ | ⟨rfl, hno⟩ | ⟨rfl, hno⟩
    · refine vx_catch hown [] ⟨0, 12, 15, 28⟩ [⟨0, 12, 19, 13⟩, ⟨0, 12, 23, 15⟩] (by rw [hTab]; rfl) (fun z hz => absurd hz List.not_mem_nil) (by decide) (by decide) w1 (va_Nw.use rfl hE.2.1.2.2.2.2.2.2.2.2.2.2.1) hce hcv hcl ?_
      have hP : va_P G.1 vwCl (zb_o G q fo ++ ((zb_5 G a) ++ ((zb_L G a.2.2.1 L) ++ ((zb_M G a.2.2.1 L) ++ zb_H G a.2.2.2.2.1.1 a.2.2.2.2.1.2.1 a.2.2.2.2.1.2.2 S (nI o) (nI cn))))) H := zk_Pperm hP List.perm_append_comm
      have hD : va_D A (zb_o G q fo ++ ((zb_5 G a) ++ ((zb_L G a.2.2.1 L) ++ ((zb_M G a.2.2.1 L) ++ zb_H G a.2.2.2.2.1.1 a.2.2.2.2.1.2.1 a.2.2.2.2.1.2.2 S (nI o) (nI cn))))) := zk_Dperm hD List.perm_append_comm
      refine lv_astore (lv' := [(5, .ref q9), (0, .ref a.1), (1, .int c), (2, .int ot), (3, .int am), (4, .ref q)]) hx hb dL_move_15 hl (by decide) rfl (fun ls hl => ?_)
      refine lv_iconst (v := nI 1) hx hb dL_move_17 (by decide) ?_
      rw [hQ]
      refine vx_ret ?_
      exact zk_reti (none, fo) rfl hx hb hr hlocks hS hP hD (Nat.le_of_ble_eq_true rfl) (Nat.le_of_ble_eq_true rfl) dL_move_18 (⟨rfl, "java/lang/IndexOutOfBoundsException", hpx2, zc_1 _ _ _⟩)
    · refine vx_catch hown [⟨0, 12, 15, 28⟩] ⟨0, 12, 19, 13⟩ [⟨0, 12, 23, 15⟩] (by rw [hTab]; rfl) (List.forall_mem_cons.mpr ⟨Or.inr ⟨by decide, "java/lang/IndexOutOfBoundsException", w1, hNC.1.2⟩, fun z hz => absurd hz List.not_mem_nil⟩) (by decide) (by decide) w2 (va_Nw.use rfl hE.2.1.2.2.2.2.2.2.2.2.2.2.2.1) hce hcv hcl ?_
      have hP : va_P G.1 vwCl (zb_o G q fo ++ ((zb_5 G a) ++ ((zb_L G a.2.2.1 L) ++ ((zb_M G a.2.2.1 L) ++ zb_H G a.2.2.2.2.1.1 a.2.2.2.2.1.2.1 a.2.2.2.2.1.2.2 S (nI o) (nI cn))))) H := zk_Pperm hP List.perm_append_comm
      have hD : va_D A (zb_o G q fo ++ ((zb_5 G a) ++ ((zb_L G a.2.2.1 L) ++ ((zb_M G a.2.2.1 L) ++ zb_H G a.2.2.2.2.1.1 a.2.2.2.2.1.2.1 a.2.2.2.2.1.2.2 S (nI o) (nI cn))))) := zk_Dperm hD List.perm_append_comm
      refine lv_astore (lv' := [(5, .ref q9), (0, .ref a.1), (1, .int c), (2, .int ot), (3, .int am), (4, .ref q)]) hx hb dL_move_19 hl (by decide) rfl (fun ls hl => ?_)
      refine lv_iconst (v := nI 2) hx hb dL_move_21 (by decide) ?_
      rw [hQ]
      refine vx_ret ?_
      exact zk_reti (none, fo) rfl hx hb hr hlocks hS hP hD (Nat.le_of_ble_eq_true rfl) (Nat.le_of_ble_eq_true rfl) dL_move_22 (⟨rfl, "java/lang/IllegalArgumentException", hpx2, zc_2 _ _ _⟩)
    · refine vx_catch hown [⟨0, 12, 15, 28⟩, ⟨0, 12, 19, 13⟩] ⟨0, 12, 23, 15⟩ [] (by rw [hTab]; rfl) (List.forall_mem_cons.mpr ⟨Or.inr ⟨by decide, "java/lang/IndexOutOfBoundsException", w1, hNC.2.1.2⟩, List.forall_mem_cons.mpr ⟨Or.inr ⟨by decide, "java/lang/IllegalArgumentException", w2, hNC.2.1.1⟩, fun z hz => absurd hz List.not_mem_nil⟩⟩) (by decide) (by decide) w3 (va_Nw.use rfl hE.2.1.2.2.2.2.2.2.2.2.2.2.2.2) hce hcv hcl ?_
      have hP : va_P G.1 vwCl (zb_o G q fo ++ ((zb_5 G a) ++ ((zb_L G a.2.2.1 L) ++ ((zb_M G a.2.2.1 L) ++ zb_H G a.2.2.2.2.1.1 a.2.2.2.2.1.2.1 a.2.2.2.2.1.2.2 S (nI o) (nI cn))))) H := zk_Pperm hP List.perm_append_comm
      have hD : va_D A (zb_o G q fo ++ ((zb_5 G a) ++ ((zb_L G a.2.2.1 L) ++ ((zb_M G a.2.2.1 L) ++ zb_H G a.2.2.2.2.1.1 a.2.2.2.2.1.2.1 a.2.2.2.2.1.2.2 S (nI o) (nI cn))))) := zk_Dperm hD List.perm_append_comm
      refine lv_astore (lv' := [(5, .ref q9), (0, .ref a.1), (1, .int c), (2, .int ot), (3, .int am), (4, .ref q)]) hx hb dL_move_23 hl (by decide) rfl (fun ls hl => ?_)
      refine lv_iconst (v := nI 3) hx hb dL_move_25 (by decide) ?_
      rw [hQ]
      refine vx_ret ?_
      exact zk_reti (none, fo) rfl hx hb hr hlocks hS hP hD (Nat.le_of_ble_eq_true rfl) (Nat.le_of_ble_eq_true rfl) dL_move_26 (⟨rfl, "java/lang/IllegalStateException", hpx2, zc_3 _ _ _⟩)
  · have hP : va_P G.1 vwCl (zb_o G q fo ++ (zb_5 G a ++ ((zb_L G a.2.2.1 u.2) ++ ((zb_M G a.2.2.1 u.2) ++ zb_H G a.2.2.2.2.1.1 a.2.2.2.2.1.2.1 a.2.2.2.2.1.2.2 u.1.2.2 (nI u.1.1) (nI u.1.2.1))))) H := zk_Pperm hP List.perm_append_comm
    have hD : va_D A (zb_o G q fo ++ (zb_5 G a ++ ((zb_L G a.2.2.1 u.2) ++ ((zb_M G a.2.2.1 u.2) ++ zb_H G a.2.2.2.2.1.1 a.2.2.2.2.1.2.1 a.2.2.2.2.1.2.2 u.1.2.2 (nI u.1.1) (nI u.1.2.1))))) := zk_Dperm hD List.perm_append_comm
    refine lv_i2l (v := r.toInt64) hx hb dL_move_10 rfl ?_
    refine va_last hx hb hK hP hD hS 0 3 rfl rfl (vp_in_nI (by decide) (by decide)) dL_move_11 (fun H locs hP hD hS => ?_)
    rw [nI_clamp (by decide)] at hP hD
    have hP : va_P G.1 vwCl (zb_o G q (vp_updL fo 0 r.toInt64) ++ (zb_5 G a ++ ((zb_L G a.2.2.1 u.2) ++ ((zb_M G a.2.2.1 u.2) ++ zb_H G a.2.2.2.2.1.1 a.2.2.2.2.1.2.1 a.2.2.2.2.1.2.2 u.1.2.2 (nI u.1.1) (nI u.1.2.1))))) H := hP
    have hD : va_D A (zb_o G q (vp_updL fo 0 r.toInt64) ++ (zb_5 G a ++ ((zb_L G a.2.2.1 u.2) ++ ((zb_M G a.2.2.1 u.2) ++ zb_H G a.2.2.2.2.1.1 a.2.2.2.2.1.2.1 a.2.2.2.2.1.2.2 u.1.2.2 (nI u.1.1) (nI u.1.2.1))))) := hD
    refine lv_goto (tgt := 27) hx hb dL_move_12 (by decide) ?_
    refine lv_iconst (v := nI 0) hx hb dL_move_27 (by decide) ?_
    rw [hQ]
    refine vx_ret ?_
    exact zk_reti (some u, vp_updL fo 0 r.toInt64) rfl hx hb hr hlocks hS hP hD (Nat.le_of_ble_eq_true rfl) (Nat.le_of_ble_eq_true rfl) dL_move_28 (⟨rfl, r, hpost, rfl⟩)

abbrev rmL_share : Room := { frames := 9, cells := 2, slots := 12, locals := 146 }
set_option maxHeartbeats 4000000 in
set_option maxRecDepth 100000 in
theorem c_L_share (l : Launch) (G : zk_G) (hst : l.stackTraces = false) (a : zA) (L : zL) (n t : Nat) (hI : sInv L n t) (f b : Int32) (S : Nat → zL) (o cn : Nat) (ho : o < 14) (hcn : cn ≤ 14) (q : Nat) (fo : Nat → Int64) : zk_IH (S := Option ((Nat × Nat × (Nat → zL)) × zL) × (Nat → Int64)) l yL_share wsL_share rmL_share G [.ref a.1, .int f, .int b, .ref q] (zb_o G q fo ++ ((zb_5 G a) ++ ((zb_L G a.2.2.1 L) ++ ((zb_M G a.2.2.1 L) ++ zb_H G a.2.2.2.2.1.1 a.2.2.2.2.1.2.1 a.2.2.2.2.1.2.2 S (nI o) (nI cn))))) (fun r u => match u.1 with | some v0 => r = nI 0 ∧ ∃ an, (fun r u => sfShare f = 0 ∧ r = sSumOf u.2 n f ∧ u.1 = hRem o cn S L ∧ u.2 = sShare L f.toNatClampNeg b) an v0 ∧ u.2 = vp_updL fo 0 an.toInt64 | none => u.2 = fo ∧ ∃ E, (fun E => (E = "java/lang/IndexOutOfBoundsException" ∧ sfShare f = nI 1) ∨ (E = "java/lang/IllegalArgumentException" ∧ sfShare f = nI 2) ∨ (E = "java/lang/IllegalStateException" ∧ sfShare f = nI 3)) E ∧ zcode E (nI 1) (nI 0) (nI 0) r) (fun u => zb_o G q u.2 ++ (match u.1 with | some v0 => zb_5 G a ++ ((zb_L G a.2.2.1 v0.2) ++ ((zb_M G a.2.2.1 v0.2) ++ zb_H G a.2.2.2.2.1.1 a.2.2.2.2.1.2.1 a.2.2.2.2.1.2.2 v0.1.2.2 (nI v0.1.1) (nI v0.1.2.1))) | none => (zb_5 G a) ++ ((zb_L G a.2.2.1 L) ++ ((zb_M G a.2.2.1 L) ++ zb_H G a.2.2.2.2.1.1 a.2.2.2.2.1.2.1 a.2.2.2.2.1.2.2 S (nI o) (nI cn))))) := by
  refine zk_bodyIH (cc := cL_share) (maxL := 5) (ret := (some .int)) (hh := [(0, 10, 13, 28)]) (by decide) rfl (Nat.le_of_ble_eq_true rfl) ?_
  intro p E0 s m args below meth cd A ls Q hF hNC hTab hQ
  obtain ⟨hx, hb, hml, hr, hts, hown, hlocks, -, hE, hP, hD, hS, hA, hA0, hl⟩ := hF
  have hK := hE.1
  have hl : lv_has ls 5 [(0, .ref a.1), (1, .int f), (2, .int b), (3, .ref q)] := hl
  have w1 := hts _ (List.mem_of_getElem? (l := wsL_share) (i := 1) (a := Cond.classLink RL 28 "java/lang/IndexOutOfBoundsException") rfl)
  refine lv_aload_n hx hb dL_share_0 rfl (lv_at hl 3 rfl) ?_
  refine lv_iconst (v := nI 0) hx hb dL_share_1 (by decide) ?_
  refine lv_aload_n hx hb dL_share_2 rfl (lv_at hl 0 rfl) ?_
  refine lv_iload_n hx hb dL_share_3 rfl (lv_at hl 1 rfl) ?_
  refine lv_iload_n hx hb dL_share_4 rfl (lv_at hl 2 rfl) ?_
  have hP0 : va_P G.1 vwCl (((zb_5 G a) ++ ((zb_L G a.2.2.1 L) ++ ((zb_M G a.2.2.1 L) ++ zb_H G a.2.2.2.2.1.1 a.2.2.2.2.1.2.1 a.2.2.2.2.1.2.2 S (nI o) (nI cn)))) ++ zb_o G q fo) s.heap := zk_Pperm hP List.perm_append_comm
  have hD0 : va_D A (((zb_5 G a) ++ ((zb_L G a.2.2.1 L) ++ ((zb_M G a.2.2.1 L) ++ zb_H G a.2.2.2.2.1.1 a.2.2.2.2.1.2.1 a.2.2.2.2.1.2.2 S (nI o) (nI cn)))) ++ zb_o G q fo) := zk_Dperm hD List.perm_append_comm
  refine zk_callXIc (wr := zb_o G q fo) (vx_runV (As := [.int f, .int b]) (rest := [.int (nI 0), .ref q]) ⟨hx, hb, hml, hown, hts⟩ (c_X5_share l G hst a L n t hI f b S o cn ho hcn _) (cwV 2 hts gL_share_X5_share rfl rfl rfl (by decide +kernel) ⟨Nat.le_of_ble_eq_true rfl, Nat.le_of_ble_eq_true rfl⟩) (zk_preV hE hA0 hS (zk_Papp hP0).1 (zk_Dapp hD0).1 (va_recv hK hP0 (ci := 4) (q0 := 0) rfl rfl)) rfl rfl hl.1 rfl (lv_room (Nat.le_of_ble_eq_true rfl)) dL_share_5 ⟨Nat.le_of_ble_eq_true rfl, Nat.le_of_ble_eq_true rfl⟩) hP0 hD0 hS hA (fun E ce q9 H locs hpx hP hD hS hce hcv hcl => ?_) (fun r u H locs hpost hP hD hS => ?_)
  · have hpx2 := hpx
    rcases hpx with ⟨rfl, hno⟩ | ⟨rfl, hno⟩ | ⟨rfl, hno⟩
    · refine vx_catch hown [] ⟨0, 10, 13, 28⟩ [] (by rw [hTab]; rfl) (fun z hz => absurd hz List.not_mem_nil) (by decide) (by decide) w1 (va_Nw.use rfl hE.2.1.2.2.2.2.2.2.2.2.2.2.1) hce hcv hcl ?_
      have hP : va_P G.1 vwCl (zb_o G q fo ++ ((zb_5 G a) ++ ((zb_L G a.2.2.1 L) ++ ((zb_M G a.2.2.1 L) ++ zb_H G a.2.2.2.2.1.1 a.2.2.2.2.1.2.1 a.2.2.2.2.1.2.2 S (nI o) (nI cn))))) H := zk_Pperm hP List.perm_append_comm
      have hD : va_D A (zb_o G q fo ++ ((zb_5 G a) ++ ((zb_L G a.2.2.1 L) ++ ((zb_M G a.2.2.1 L) ++ zb_H G a.2.2.2.2.1.1 a.2.2.2.2.1.2.1 a.2.2.2.2.1.2.2 S (nI o) (nI cn))))) := zk_Dperm hD List.perm_append_comm
      refine lv_astore (lv' := [(4, .ref q9), (0, .ref a.1), (1, .int f), (2, .int b), (3, .ref q)]) hx hb dL_share_13 hl (by decide) rfl (fun ls hl => ?_)
      refine lv_iconst (v := nI 1) hx hb dL_share_15 (by decide) ?_
      rw [hQ]
      refine vx_ret ?_
      exact zk_reti (none, fo) rfl hx hb hr hlocks hS hP hD (Nat.le_of_ble_eq_true rfl) (Nat.le_of_ble_eq_true rfl) dL_share_16 (⟨rfl, "java/lang/IndexOutOfBoundsException", hpx2, zc_1 _ _ _⟩)
    · exact absurd hno (by unfold sfShare; (repeat' split) <;> decide)
    · exact absurd hno (by unfold sfShare; (repeat' split) <;> decide)
  · have hP : va_P G.1 vwCl (zb_o G q fo ++ (zb_5 G a ++ ((zb_L G a.2.2.1 u.2) ++ ((zb_M G a.2.2.1 u.2) ++ zb_H G a.2.2.2.2.1.1 a.2.2.2.2.1.2.1 a.2.2.2.2.1.2.2 u.1.2.2 (nI u.1.1) (nI u.1.2.1))))) H := zk_Pperm hP List.perm_append_comm
    have hD : va_D A (zb_o G q fo ++ (zb_5 G a ++ ((zb_L G a.2.2.1 u.2) ++ ((zb_M G a.2.2.1 u.2) ++ zb_H G a.2.2.2.2.1.1 a.2.2.2.2.1.2.1 a.2.2.2.2.1.2.2 u.1.2.2 (nI u.1.1) (nI u.1.2.1))))) := zk_Dperm hD List.perm_append_comm
    refine lv_i2l (v := r.toInt64) hx hb dL_share_8 rfl ?_
    refine va_last hx hb hK hP hD hS 0 3 rfl rfl (vp_in_nI (by decide) (by decide)) dL_share_9 (fun H locs hP hD hS => ?_)
    rw [nI_clamp (by decide)] at hP hD
    have hP : va_P G.1 vwCl (zb_o G q (vp_updL fo 0 r.toInt64) ++ (zb_5 G a ++ ((zb_L G a.2.2.1 u.2) ++ ((zb_M G a.2.2.1 u.2) ++ zb_H G a.2.2.2.2.1.1 a.2.2.2.2.1.2.1 a.2.2.2.2.1.2.2 u.1.2.2 (nI u.1.1) (nI u.1.2.1))))) H := hP
    have hD : va_D A (zb_o G q (vp_updL fo 0 r.toInt64) ++ (zb_5 G a ++ ((zb_L G a.2.2.1 u.2) ++ ((zb_M G a.2.2.1 u.2) ++ zb_H G a.2.2.2.2.1.1 a.2.2.2.2.1.2.1 a.2.2.2.2.1.2.2 u.1.2.2 (nI u.1.1) (nI u.1.2.1))))) := hD
    refine lv_goto (tgt := 17) hx hb dL_share_10 (by decide) ?_
    refine lv_iconst (v := nI 0) hx hb dL_share_17 (by decide) ?_
    rw [hQ]
    refine vx_ret ?_
    exact zk_reti (some u, vp_updL fo 0 r.toInt64) rfl hx hb hr hlocks hS hP hD (Nat.le_of_ble_eq_true rfl) (Nat.le_of_ble_eq_true rfl) dL_share_18 (⟨rfl, r, hpost, rfl⟩)

abbrev rmL_entitle : Room := { frames := 9, cells := 2, slots := 12, locals := 147 }
set_option maxHeartbeats 4000000 in
set_option maxRecDepth 100000 in
theorem c_L_entitle (l : Launch) (G : zk_G) (hst : l.stackTraces = false) (a : zA) (L : zL) (n t : Nat) (hI : sInv L n t) (c fr to : Int32) (S : Nat → zL) (o cn : Nat) (ho : o < 14) (hcn : cn ≤ 14) (q : Nat) (fo : Nat → Int64) : zk_IH (S := Option ((Nat × Nat × (Nat → zL)) × zL) × (Nat → Int64)) l yL_entitle wsL_entitle rmL_entitle G [.ref a.1, .int c, .int fr, .int to, .ref q] (zb_o G q fo ++ ((zb_5 G a) ++ ((zb_L G a.2.2.1 L) ++ ((zb_M G a.2.2.1 L) ++ zb_H G a.2.2.2.2.1.1 a.2.2.2.2.1.2.1 a.2.2.2.2.1.2.2 S (nI o) (nI cn))))) (fun r u => match u.1 with | some v0 => r = nI 0 ∧ ∃ an, (fun r u => sfEnt L c fr to = 0 ∧ r = zs (u.2 3) n - zs (L 3) n ∧ u.1 = hRem o cn S L ∧ u.2 = sEntitle L t c.toNatClampNeg fr to) an v0 ∧ u.2 = vp_updL fo 0 an.toInt64 | none => u.2 = fo ∧ ∃ E, (fun E => (E = "java/lang/IndexOutOfBoundsException" ∧ sfEnt L c fr to = nI 1) ∨ (E = "java/lang/IllegalArgumentException" ∧ sfEnt L c fr to = nI 2) ∨ (E = "java/lang/IllegalStateException" ∧ sfEnt L c fr to = nI 3)) E ∧ zcode E (nI 1) (nI 2) (nI 0) r) (fun u => zb_o G q u.2 ++ (match u.1 with | some v0 => zb_5 G a ++ ((zb_L G a.2.2.1 v0.2) ++ ((zb_M G a.2.2.1 v0.2) ++ zb_H G a.2.2.2.2.1.1 a.2.2.2.2.1.2.1 a.2.2.2.2.1.2.2 v0.1.2.2 (nI v0.1.1) (nI v0.1.2.1))) | none => (zb_5 G a) ++ ((zb_L G a.2.2.1 L) ++ ((zb_M G a.2.2.1 L) ++ zb_H G a.2.2.2.2.1.1 a.2.2.2.2.1.2.1 a.2.2.2.2.1.2.2 S (nI o) (nI cn))))) := by
  refine zk_bodyIH (cc := cL_entitle) (maxL := 6) (ret := (some .int)) (hh := [(0, 12, 15, 28), (0, 12, 19, 13)]) (by decide) rfl (Nat.le_of_ble_eq_true rfl) ?_
  intro p E0 s m args below meth cd A ls Q hF hNC hTab hQ
  obtain ⟨hx, hb, hml, hr, hts, hown, hlocks, -, hE, hP, hD, hS, hA, hA0, hl⟩ := hF
  have hK := hE.1
  have hl : lv_has ls 6 [(0, .ref a.1), (1, .int c), (2, .int fr), (3, .int to), (4, .ref q)] := hl
  have w1 := hts _ (List.mem_of_getElem? (l := wsL_entitle) (i := 1) (a := Cond.classLink RL 28 "java/lang/IndexOutOfBoundsException") rfl)
  have w2 := hts _ (List.mem_of_getElem? (l := wsL_entitle) (i := 2) (a := Cond.classLink RL 13 "java/lang/IllegalArgumentException") rfl)
  refine lv_aload hx hb dL_entitle_0 (lv_at hl 4 rfl) ?_
  refine lv_iconst (v := nI 0) hx hb dL_entitle_2 (by decide) ?_
  refine lv_aload_n hx hb dL_entitle_3 rfl (lv_at hl 0 rfl) ?_
  refine lv_iload_n hx hb dL_entitle_4 rfl (lv_at hl 1 rfl) ?_
  refine lv_iload_n hx hb dL_entitle_5 rfl (lv_at hl 2 rfl) ?_
  refine lv_iload_n hx hb dL_entitle_6 rfl (lv_at hl 3 rfl) ?_
  have hP0 : va_P G.1 vwCl (((zb_5 G a) ++ ((zb_L G a.2.2.1 L) ++ ((zb_M G a.2.2.1 L) ++ zb_H G a.2.2.2.2.1.1 a.2.2.2.2.1.2.1 a.2.2.2.2.1.2.2 S (nI o) (nI cn)))) ++ zb_o G q fo) s.heap := zk_Pperm hP List.perm_append_comm
  have hD0 : va_D A (((zb_5 G a) ++ ((zb_L G a.2.2.1 L) ++ ((zb_M G a.2.2.1 L) ++ zb_H G a.2.2.2.2.1.1 a.2.2.2.2.1.2.1 a.2.2.2.2.1.2.2 S (nI o) (nI cn)))) ++ zb_o G q fo) := zk_Dperm hD List.perm_append_comm
  refine zk_callXIc (wr := zb_o G q fo) (vx_runV (As := [.int c, .int fr, .int to]) (rest := [.int (nI 0), .ref q]) ⟨hx, hb, hml, hown, hts⟩ (c_X5_entitle l G hst a L n t hI c fr to S o cn ho hcn _) (cwV 3 hts gL_entitle_X5_entitle rfl rfl rfl (by decide +kernel) ⟨Nat.le_of_ble_eq_true rfl, Nat.le_of_ble_eq_true rfl⟩) (zk_preV hE hA0 hS (zk_Papp hP0).1 (zk_Dapp hD0).1 (va_recv hK hP0 (ci := 4) (q0 := 0) rfl rfl)) rfl rfl hl.1 rfl (lv_room (Nat.le_of_ble_eq_true rfl)) dL_entitle_7 ⟨Nat.le_of_ble_eq_true rfl, Nat.le_of_ble_eq_true rfl⟩) hP0 hD0 hS hA (fun E ce q9 H locs hpx hP hD hS hce hcv hcl => ?_) (fun r u H locs hpost hP hD hS => ?_)
  · have hpx2 := hpx
    rcases hpx with ⟨rfl, hno⟩ | ⟨rfl, hno⟩ | ⟨rfl, hno⟩
    · refine vx_catch hown [] ⟨0, 12, 15, 28⟩ [⟨0, 12, 19, 13⟩] (by rw [hTab]; rfl) (fun z hz => absurd hz List.not_mem_nil) (by decide) (by decide) w1 (va_Nw.use rfl hE.2.1.2.2.2.2.2.2.2.2.2.2.1) hce hcv hcl ?_
      have hP : va_P G.1 vwCl (zb_o G q fo ++ ((zb_5 G a) ++ ((zb_L G a.2.2.1 L) ++ ((zb_M G a.2.2.1 L) ++ zb_H G a.2.2.2.2.1.1 a.2.2.2.2.1.2.1 a.2.2.2.2.1.2.2 S (nI o) (nI cn))))) H := zk_Pperm hP List.perm_append_comm
      have hD : va_D A (zb_o G q fo ++ ((zb_5 G a) ++ ((zb_L G a.2.2.1 L) ++ ((zb_M G a.2.2.1 L) ++ zb_H G a.2.2.2.2.1.1 a.2.2.2.2.1.2.1 a.2.2.2.2.1.2.2 S (nI o) (nI cn))))) := zk_Dperm hD List.perm_append_comm
      refine lv_astore (lv' := [(5, .ref q9), (0, .ref a.1), (1, .int c), (2, .int fr), (3, .int to), (4, .ref q)]) hx hb dL_entitle_15 hl (by decide) rfl (fun ls hl => ?_)
      refine lv_iconst (v := nI 1) hx hb dL_entitle_17 (by decide) ?_
      rw [hQ]
      refine vx_ret ?_
      exact zk_reti (none, fo) rfl hx hb hr hlocks hS hP hD (Nat.le_of_ble_eq_true rfl) (Nat.le_of_ble_eq_true rfl) dL_entitle_18 (⟨rfl, "java/lang/IndexOutOfBoundsException", hpx2, zc_1 _ _ _⟩)
    · refine vx_catch hown [⟨0, 12, 15, 28⟩] ⟨0, 12, 19, 13⟩ [] (by rw [hTab]; rfl) (List.forall_mem_cons.mpr ⟨Or.inr ⟨by decide, "java/lang/IndexOutOfBoundsException", w1, hNC.1.2⟩, fun z hz => absurd hz List.not_mem_nil⟩) (by decide) (by decide) w2 (va_Nw.use rfl hE.2.1.2.2.2.2.2.2.2.2.2.2.2.1) hce hcv hcl ?_
      have hP : va_P G.1 vwCl (zb_o G q fo ++ ((zb_5 G a) ++ ((zb_L G a.2.2.1 L) ++ ((zb_M G a.2.2.1 L) ++ zb_H G a.2.2.2.2.1.1 a.2.2.2.2.1.2.1 a.2.2.2.2.1.2.2 S (nI o) (nI cn))))) H := zk_Pperm hP List.perm_append_comm
      have hD : va_D A (zb_o G q fo ++ ((zb_5 G a) ++ ((zb_L G a.2.2.1 L) ++ ((zb_M G a.2.2.1 L) ++ zb_H G a.2.2.2.2.1.1 a.2.2.2.2.1.2.1 a.2.2.2.2.1.2.2 S (nI o) (nI cn))))) := zk_Dperm hD List.perm_append_comm
      refine lv_astore (lv' := [(5, .ref q9), (0, .ref a.1), (1, .int c), (2, .int fr), (3, .int to), (4, .ref q)]) hx hb dL_entitle_19 hl (by decide) rfl (fun ls hl => ?_)
      refine lv_iconst (v := nI 2) hx hb dL_entitle_21 (by decide) ?_
      rw [hQ]
      refine vx_ret ?_
      exact zk_reti (none, fo) rfl hx hb hr hlocks hS hP hD (Nat.le_of_ble_eq_true rfl) (Nat.le_of_ble_eq_true rfl) dL_entitle_22 (⟨rfl, "java/lang/IllegalArgumentException", hpx2, zc_2 _ _ _⟩)
    · exact absurd hno (by unfold sfEnt; (repeat' split) <;> decide)
  · have hP : va_P G.1 vwCl (zb_o G q fo ++ (zb_5 G a ++ ((zb_L G a.2.2.1 u.2) ++ ((zb_M G a.2.2.1 u.2) ++ zb_H G a.2.2.2.2.1.1 a.2.2.2.2.1.2.1 a.2.2.2.2.1.2.2 u.1.2.2 (nI u.1.1) (nI u.1.2.1))))) H := zk_Pperm hP List.perm_append_comm
    have hD : va_D A (zb_o G q fo ++ (zb_5 G a ++ ((zb_L G a.2.2.1 u.2) ++ ((zb_M G a.2.2.1 u.2) ++ zb_H G a.2.2.2.2.1.1 a.2.2.2.2.1.2.1 a.2.2.2.2.1.2.2 u.1.2.2 (nI u.1.1) (nI u.1.2.1))))) := zk_Dperm hD List.perm_append_comm
    refine lv_i2l (v := r.toInt64) hx hb dL_entitle_10 rfl ?_
    refine va_last hx hb hK hP hD hS 0 3 rfl rfl (vp_in_nI (by decide) (by decide)) dL_entitle_11 (fun H locs hP hD hS => ?_)
    rw [nI_clamp (by decide)] at hP hD
    have hP : va_P G.1 vwCl (zb_o G q (vp_updL fo 0 r.toInt64) ++ (zb_5 G a ++ ((zb_L G a.2.2.1 u.2) ++ ((zb_M G a.2.2.1 u.2) ++ zb_H G a.2.2.2.2.1.1 a.2.2.2.2.1.2.1 a.2.2.2.2.1.2.2 u.1.2.2 (nI u.1.1) (nI u.1.2.1))))) H := hP
    have hD : va_D A (zb_o G q (vp_updL fo 0 r.toInt64) ++ (zb_5 G a ++ ((zb_L G a.2.2.1 u.2) ++ ((zb_M G a.2.2.1 u.2) ++ zb_H G a.2.2.2.2.1.1 a.2.2.2.2.1.2.1 a.2.2.2.2.1.2.2 u.1.2.2 (nI u.1.1) (nI u.1.2.1))))) := hD
    refine lv_goto (tgt := 23) hx hb dL_entitle_12 (by decide) ?_
    refine lv_iconst (v := nI 0) hx hb dL_entitle_23 (by decide) ?_
    rw [hQ]
    refine vx_ret ?_
    exact zk_reti (some u, vp_updL fo 0 r.toInt64) rfl hx hb hr hlocks hS hP hD (Nat.le_of_ble_eq_true rfl) (Nat.le_of_ble_eq_true rfl) dL_entitle_24 (⟨rfl, r, hpost, rfl⟩)

abbrev rmL_writeOff : Room := { frames := 9, cells := 2, slots := 12, locals := 145 }
set_option maxHeartbeats 4000000 in
set_option maxRecDepth 100000 in
theorem c_L_writeOff (l : Launch) (G : zk_G) (hst : l.stackTraces = false) (a : zA) (L : zL) (n t : Nat) (hI : sInv L n t) (f : Int32) (S : Nat → zL) (o cn : Nat) (ho : o < 14) (hcn : cn ≤ 14) (q : Nat) (fo : Nat → Int64) : zk_IH (S := Option ((Nat × Nat × (Nat → zL)) × zL) × (Nat → Int64)) l yL_writeOff wsL_writeOff rmL_writeOff G [.ref a.1, .int f, .ref q] (zb_o G q fo ++ ((zb_5 G a) ++ ((zb_L G a.2.2.1 L) ++ ((zb_M G a.2.2.1 L) ++ zb_H G a.2.2.2.2.1.1 a.2.2.2.2.1.2.1 a.2.2.2.2.1.2.2 S (nI o) (nI cn))))) (fun r u => match u.1 with | some v0 => r = nI 0 ∧ ∃ an, (fun r u => sfOff L n f = 0 ∧ r = sDebt L n f ∧ u.1 = hRem o cn S L ∧ u.2 = sWrite L n f.toNatClampNeg) an v0 ∧ u.2 = vp_updL fo 0 an.toInt64 | none => u.2 = fo ∧ ∃ E, (fun E => (E = "java/lang/IndexOutOfBoundsException" ∧ sfOff L n f = nI 1) ∨ (E = "java/lang/IllegalArgumentException" ∧ sfOff L n f = nI 2) ∨ (E = "java/lang/IllegalStateException" ∧ sfOff L n f = nI 3)) E ∧ zcode E (nI 1) (nI 0) (nI 2) r) (fun u => zb_o G q u.2 ++ (match u.1 with | some v0 => zb_5 G a ++ ((zb_L G a.2.2.1 v0.2) ++ ((zb_M G a.2.2.1 v0.2) ++ zb_H G a.2.2.2.2.1.1 a.2.2.2.2.1.2.1 a.2.2.2.2.1.2.2 v0.1.2.2 (nI v0.1.1) (nI v0.1.2.1))) | none => (zb_5 G a) ++ ((zb_L G a.2.2.1 L) ++ ((zb_M G a.2.2.1 L) ++ zb_H G a.2.2.2.2.1.1 a.2.2.2.2.1.2.1 a.2.2.2.2.1.2.2 S (nI o) (nI cn))))) := by
  refine zk_bodyIH (cc := cL_writeOff) (maxL := 4) (ret := (some .int)) (hh := [(0, 9, 12, 28), (0, 9, 15, 15)]) (by decide) rfl (Nat.le_of_ble_eq_true rfl) ?_
  intro p E0 s m args below meth cd A ls Q hF hNC hTab hQ
  obtain ⟨hx, hb, hml, hr, hts, hown, hlocks, -, hE, hP, hD, hS, hA, hA0, hl⟩ := hF
  have hK := hE.1
  have hl : lv_has ls 4 [(0, .ref a.1), (1, .int f), (2, .ref q)] := hl
  have w1 := hts _ (List.mem_of_getElem? (l := wsL_writeOff) (i := 1) (a := Cond.classLink RL 28 "java/lang/IndexOutOfBoundsException") rfl)
  have w2 := hts _ (List.mem_of_getElem? (l := wsL_writeOff) (i := 2) (a := Cond.classLink RL 15 "java/lang/IllegalStateException") rfl)
  refine lv_aload_n hx hb dL_writeOff_0 rfl (lv_at hl 2 rfl) ?_
  refine lv_iconst (v := nI 0) hx hb dL_writeOff_1 (by decide) ?_
  refine lv_aload_n hx hb dL_writeOff_2 rfl (lv_at hl 0 rfl) ?_
  refine lv_iload_n hx hb dL_writeOff_3 rfl (lv_at hl 1 rfl) ?_
  have hP0 : va_P G.1 vwCl (((zb_5 G a) ++ ((zb_L G a.2.2.1 L) ++ ((zb_M G a.2.2.1 L) ++ zb_H G a.2.2.2.2.1.1 a.2.2.2.2.1.2.1 a.2.2.2.2.1.2.2 S (nI o) (nI cn)))) ++ zb_o G q fo) s.heap := zk_Pperm hP List.perm_append_comm
  have hD0 : va_D A (((zb_5 G a) ++ ((zb_L G a.2.2.1 L) ++ ((zb_M G a.2.2.1 L) ++ zb_H G a.2.2.2.2.1.1 a.2.2.2.2.1.2.1 a.2.2.2.2.1.2.2 S (nI o) (nI cn)))) ++ zb_o G q fo) := zk_Dperm hD List.perm_append_comm
  refine zk_callXIc (wr := zb_o G q fo) (vx_runV (As := [.int f]) (rest := [.int (nI 0), .ref q]) ⟨hx, hb, hml, hown, hts⟩ (c_X5_writeOff l G hst a L n t hI f S o cn ho hcn _) (cwV 1 hts gL_writeOff_X5_writeOff rfl rfl rfl (by decide +kernel) ⟨Nat.le_of_ble_eq_true rfl, Nat.le_of_ble_eq_true rfl⟩) (zk_preV hE hA0 hS (zk_Papp hP0).1 (zk_Dapp hD0).1 (va_recv hK hP0 (ci := 4) (q0 := 0) rfl rfl)) rfl rfl hl.1 rfl (lv_room (Nat.le_of_ble_eq_true rfl)) dL_writeOff_4 ⟨Nat.le_of_ble_eq_true rfl, Nat.le_of_ble_eq_true rfl⟩) hP0 hD0 hS hA (fun E ce q9 H locs hpx hP hD hS hce hcv hcl => ?_) (fun r u H locs hpost hP hD hS => ?_)
  · have hpx2 := hpx
    rcases hpx with ⟨rfl, hno⟩ | ⟨rfl, hno⟩ | ⟨rfl, hno⟩
    · refine vx_catch hown [] ⟨0, 9, 12, 28⟩ [⟨0, 9, 15, 15⟩] (by rw [hTab]; rfl) (fun z hz => absurd hz List.not_mem_nil) (by decide) (by decide) w1 (va_Nw.use rfl hE.2.1.2.2.2.2.2.2.2.2.2.2.1) hce hcv hcl ?_
      have hP : va_P G.1 vwCl (zb_o G q fo ++ ((zb_5 G a) ++ ((zb_L G a.2.2.1 L) ++ ((zb_M G a.2.2.1 L) ++ zb_H G a.2.2.2.2.1.1 a.2.2.2.2.1.2.1 a.2.2.2.2.1.2.2 S (nI o) (nI cn))))) H := zk_Pperm hP List.perm_append_comm
      have hD : va_D A (zb_o G q fo ++ ((zb_5 G a) ++ ((zb_L G a.2.2.1 L) ++ ((zb_M G a.2.2.1 L) ++ zb_H G a.2.2.2.2.1.1 a.2.2.2.2.1.2.1 a.2.2.2.2.1.2.2 S (nI o) (nI cn))))) := zk_Dperm hD List.perm_append_comm
      refine lv_astore_n (lv' := [(3, .ref q9), (0, .ref a.1), (1, .int f), (2, .ref q)]) hx hb dL_writeOff_12 rfl hl (by decide) rfl (fun ls hl => ?_)
      refine lv_iconst (v := nI 1) hx hb dL_writeOff_13 (by decide) ?_
      rw [hQ]
      refine vx_ret ?_
      exact zk_reti (none, fo) rfl hx hb hr hlocks hS hP hD (Nat.le_of_ble_eq_true rfl) (Nat.le_of_ble_eq_true rfl) dL_writeOff_14 (⟨rfl, "java/lang/IndexOutOfBoundsException", hpx2, zc_1 _ _ _⟩)
    · exact absurd hno (by unfold sfOff; (repeat' split) <;> decide)
    · refine vx_catch hown [⟨0, 9, 12, 28⟩] ⟨0, 9, 15, 15⟩ [] (by rw [hTab]; rfl) (List.forall_mem_cons.mpr ⟨Or.inr ⟨by decide, "java/lang/IndexOutOfBoundsException", w1, hNC.2.1.2⟩, fun z hz => absurd hz List.not_mem_nil⟩) (by decide) (by decide) w2 (va_Nw.use rfl hE.2.1.2.2.2.2.2.2.2.2.2.2.2.2) hce hcv hcl ?_
      have hP : va_P G.1 vwCl (zb_o G q fo ++ ((zb_5 G a) ++ ((zb_L G a.2.2.1 L) ++ ((zb_M G a.2.2.1 L) ++ zb_H G a.2.2.2.2.1.1 a.2.2.2.2.1.2.1 a.2.2.2.2.1.2.2 S (nI o) (nI cn))))) H := zk_Pperm hP List.perm_append_comm
      have hD : va_D A (zb_o G q fo ++ ((zb_5 G a) ++ ((zb_L G a.2.2.1 L) ++ ((zb_M G a.2.2.1 L) ++ zb_H G a.2.2.2.2.1.1 a.2.2.2.2.1.2.1 a.2.2.2.2.1.2.2 S (nI o) (nI cn))))) := zk_Dperm hD List.perm_append_comm
      refine lv_astore_n (lv' := [(3, .ref q9), (0, .ref a.1), (1, .int f), (2, .ref q)]) hx hb dL_writeOff_15 rfl hl (by decide) rfl (fun ls hl => ?_)
      refine lv_iconst (v := nI 2) hx hb dL_writeOff_16 (by decide) ?_
      rw [hQ]
      refine vx_ret ?_
      exact zk_reti (none, fo) rfl hx hb hr hlocks hS hP hD (Nat.le_of_ble_eq_true rfl) (Nat.le_of_ble_eq_true rfl) dL_writeOff_17 (⟨rfl, "java/lang/IllegalStateException", hpx2, zc_3 _ _ _⟩)
  · have hP : va_P G.1 vwCl (zb_o G q fo ++ (zb_5 G a ++ ((zb_L G a.2.2.1 u.2) ++ ((zb_M G a.2.2.1 u.2) ++ zb_H G a.2.2.2.2.1.1 a.2.2.2.2.1.2.1 a.2.2.2.2.1.2.2 u.1.2.2 (nI u.1.1) (nI u.1.2.1))))) H := zk_Pperm hP List.perm_append_comm
    have hD : va_D A (zb_o G q fo ++ (zb_5 G a ++ ((zb_L G a.2.2.1 u.2) ++ ((zb_M G a.2.2.1 u.2) ++ zb_H G a.2.2.2.2.1.1 a.2.2.2.2.1.2.1 a.2.2.2.2.1.2.2 u.1.2.2 (nI u.1.1) (nI u.1.2.1))))) := zk_Dperm hD List.perm_append_comm
    refine lv_i2l (v := r.toInt64) hx hb dL_writeOff_7 rfl ?_
    refine va_last hx hb hK hP hD hS 0 3 rfl rfl (vp_in_nI (by decide) (by decide)) dL_writeOff_8 (fun H locs hP hD hS => ?_)
    rw [nI_clamp (by decide)] at hP hD
    have hP : va_P G.1 vwCl (zb_o G q (vp_updL fo 0 r.toInt64) ++ (zb_5 G a ++ ((zb_L G a.2.2.1 u.2) ++ ((zb_M G a.2.2.1 u.2) ++ zb_H G a.2.2.2.2.1.1 a.2.2.2.2.1.2.1 a.2.2.2.2.1.2.2 u.1.2.2 (nI u.1.1) (nI u.1.2.1))))) H := hP
    have hD : va_D A (zb_o G q (vp_updL fo 0 r.toInt64) ++ (zb_5 G a ++ ((zb_L G a.2.2.1 u.2) ++ ((zb_M G a.2.2.1 u.2) ++ zb_H G a.2.2.2.2.1.1 a.2.2.2.2.1.2.1 a.2.2.2.2.1.2.2 u.1.2.2 (nI u.1.1) (nI u.1.2.1))))) := hD
    refine lv_goto (tgt := 18) hx hb dL_writeOff_9 (by decide) ?_
    refine lv_iconst (v := nI 0) hx hb dL_writeOff_18 (by decide) ?_
    rw [hQ]
    refine vx_ret ?_
    exact zk_reti (some u, vp_updL fo 0 r.toInt64) rfl hx hb hr hlocks hS hP hD (Nat.le_of_ble_eq_true rfl) (Nat.le_of_ble_eq_true rfl) dL_writeOff_19 (⟨rfl, r, hpost, rfl⟩)

abbrev rmL_days : Room := { frames := 9, cells := 2, slots := 12, locals := 145 }
set_option maxHeartbeats 4000000 in
set_option maxRecDepth 100000 in
theorem c_L_days (l : Launch) (G : zk_G) (hst : l.stackTraces = false) (a : zA) (L : zL) (n t : Nat) (hI : sInv L n t) (k : Int32) (S : Nat → zL) (o cn : Nat) (ho : o < 14) (hcn : cn ≤ 14) (q : Nat) (fo : Nat → Int64) : zk_IH (S := Option ((Nat × Nat × (Nat → zL)) × zL) × (Nat → Int64)) l yL_days wsL_days rmL_days G [.ref a.1, .int k, .ref q] (zb_o G q fo ++ ((zb_5 G a) ++ ((zb_L G a.2.2.1 L) ++ ((zb_M G a.2.2.1 L) ++ zb_H G a.2.2.2.2.1.1 a.2.2.2.2.1.2.1 a.2.2.2.2.1.2.2 S (nI o) (nI cn))))) (fun r u => match u.1 with | some v0 => r = nI 0 ∧ ∃ an, (fun r u => sfDays t k = 0 ∧ r = (sDays n t k.toNatClampNeg L).1 ∧ u.1 = hRem o cn S L ∧ u.2 = (sDays n t k.toNatClampNeg L).2) an v0 ∧ u.2 = vp_updL fo 0 an.toInt64 | none => u.2 = fo ∧ ∃ E, (fun E => (E = "java/lang/IndexOutOfBoundsException" ∧ sfDays t k = nI 1) ∨ (E = "java/lang/IllegalArgumentException" ∧ sfDays t k = nI 2) ∨ (E = "java/lang/IllegalStateException" ∧ sfDays t k = nI 3)) E ∧ zcode E (nI 0) (nI 1) (nI 2) r) (fun u => zb_o G q u.2 ++ (match u.1 with | some v0 => zb_5 G a ++ ((zb_L G a.2.2.1 v0.2) ++ ((zb_M G a.2.2.1 v0.2) ++ zb_H G a.2.2.2.2.1.1 a.2.2.2.2.1.2.1 a.2.2.2.2.1.2.2 v0.1.2.2 (nI v0.1.1) (nI v0.1.2.1))) | none => (zb_5 G a) ++ ((zb_L G a.2.2.1 L) ++ ((zb_M G a.2.2.1 L) ++ zb_H G a.2.2.2.2.1.1 a.2.2.2.2.1.2.1 a.2.2.2.2.1.2.2 S (nI o) (nI cn))))) := by
  refine zk_bodyIH (cc := cL_days) (maxL := 4) (ret := (some .int)) (hh := [(0, 9, 12, 13), (0, 9, 15, 15)]) (by decide) rfl (Nat.le_of_ble_eq_true rfl) ?_
  intro p E0 s m args below meth cd A ls Q hF hNC hTab hQ
  obtain ⟨hx, hb, hml, hr, hts, hown, hlocks, -, hE, hP, hD, hS, hA, hA0, hl⟩ := hF
  have hK := hE.1
  have hl : lv_has ls 4 [(0, .ref a.1), (1, .int k), (2, .ref q)] := hl
  have w1 := hts _ (List.mem_of_getElem? (l := wsL_days) (i := 1) (a := Cond.classLink RL 13 "java/lang/IllegalArgumentException") rfl)
  have w2 := hts _ (List.mem_of_getElem? (l := wsL_days) (i := 2) (a := Cond.classLink RL 15 "java/lang/IllegalStateException") rfl)
  refine lv_aload_n hx hb dL_days_0 rfl (lv_at hl 2 rfl) ?_
  refine lv_iconst (v := nI 0) hx hb dL_days_1 (by decide) ?_
  refine lv_aload_n hx hb dL_days_2 rfl (lv_at hl 0 rfl) ?_
  refine lv_iload_n hx hb dL_days_3 rfl (lv_at hl 1 rfl) ?_
  have hP0 : va_P G.1 vwCl (((zb_5 G a) ++ ((zb_L G a.2.2.1 L) ++ ((zb_M G a.2.2.1 L) ++ zb_H G a.2.2.2.2.1.1 a.2.2.2.2.1.2.1 a.2.2.2.2.1.2.2 S (nI o) (nI cn)))) ++ zb_o G q fo) s.heap := zk_Pperm hP List.perm_append_comm
  have hD0 : va_D A (((zb_5 G a) ++ ((zb_L G a.2.2.1 L) ++ ((zb_M G a.2.2.1 L) ++ zb_H G a.2.2.2.2.1.1 a.2.2.2.2.1.2.1 a.2.2.2.2.1.2.2 S (nI o) (nI cn)))) ++ zb_o G q fo) := zk_Dperm hD List.perm_append_comm
  refine zk_callXIc (wr := zb_o G q fo) (vx_runV (As := [.int k]) (rest := [.int (nI 0), .ref q]) ⟨hx, hb, hml, hown, hts⟩ (c_X5_days l G hst a L n t hI k S o cn ho hcn _) (cwV 1 hts gL_days_X5_days rfl rfl rfl (by decide +kernel) ⟨Nat.le_of_ble_eq_true rfl, Nat.le_of_ble_eq_true rfl⟩) (zk_preV hE hA0 hS (zk_Papp hP0).1 (zk_Dapp hD0).1 (va_recv hK hP0 (ci := 4) (q0 := 0) rfl rfl)) rfl rfl hl.1 rfl (lv_room (Nat.le_of_ble_eq_true rfl)) dL_days_4 ⟨Nat.le_of_ble_eq_true rfl, Nat.le_of_ble_eq_true rfl⟩) hP0 hD0 hS hA (fun E ce q9 H locs hpx hP hD hS hce hcv hcl => ?_) (fun r u H locs hpost hP hD hS => ?_)
  · have hpx2 := hpx
    rcases hpx with ⟨rfl, hno⟩ | ⟨rfl, hno⟩ | ⟨rfl, hno⟩
    · exact absurd hno (by unfold sfDays; (repeat' split) <;> decide)
    · refine vx_catch hown [] ⟨0, 9, 12, 13⟩ [⟨0, 9, 15, 15⟩] (by rw [hTab]; rfl) (fun z hz => absurd hz List.not_mem_nil) (by decide) (by decide) w1 (va_Nw.use rfl hE.2.1.2.2.2.2.2.2.2.2.2.2.2.1) hce hcv hcl ?_
      have hP : va_P G.1 vwCl (zb_o G q fo ++ ((zb_5 G a) ++ ((zb_L G a.2.2.1 L) ++ ((zb_M G a.2.2.1 L) ++ zb_H G a.2.2.2.2.1.1 a.2.2.2.2.1.2.1 a.2.2.2.2.1.2.2 S (nI o) (nI cn))))) H := zk_Pperm hP List.perm_append_comm
      have hD : va_D A (zb_o G q fo ++ ((zb_5 G a) ++ ((zb_L G a.2.2.1 L) ++ ((zb_M G a.2.2.1 L) ++ zb_H G a.2.2.2.2.1.1 a.2.2.2.2.1.2.1 a.2.2.2.2.1.2.2 S (nI o) (nI cn))))) := zk_Dperm hD List.perm_append_comm
      refine lv_astore_n (lv' := [(3, .ref q9), (0, .ref a.1), (1, .int k), (2, .ref q)]) hx hb dL_days_12 rfl hl (by decide) rfl (fun ls hl => ?_)
      refine lv_iconst (v := nI 1) hx hb dL_days_13 (by decide) ?_
      rw [hQ]
      refine vx_ret ?_
      exact zk_reti (none, fo) rfl hx hb hr hlocks hS hP hD (Nat.le_of_ble_eq_true rfl) (Nat.le_of_ble_eq_true rfl) dL_days_14 (⟨rfl, "java/lang/IllegalArgumentException", hpx2, zc_2 _ _ _⟩)
    · refine vx_catch hown [⟨0, 9, 12, 13⟩] ⟨0, 9, 15, 15⟩ [] (by rw [hTab]; rfl) (List.forall_mem_cons.mpr ⟨Or.inr ⟨by decide, "java/lang/IllegalArgumentException", w1, hNC.2.1.1⟩, fun z hz => absurd hz List.not_mem_nil⟩) (by decide) (by decide) w2 (va_Nw.use rfl hE.2.1.2.2.2.2.2.2.2.2.2.2.2.2) hce hcv hcl ?_
      have hP : va_P G.1 vwCl (zb_o G q fo ++ ((zb_5 G a) ++ ((zb_L G a.2.2.1 L) ++ ((zb_M G a.2.2.1 L) ++ zb_H G a.2.2.2.2.1.1 a.2.2.2.2.1.2.1 a.2.2.2.2.1.2.2 S (nI o) (nI cn))))) H := zk_Pperm hP List.perm_append_comm
      have hD : va_D A (zb_o G q fo ++ ((zb_5 G a) ++ ((zb_L G a.2.2.1 L) ++ ((zb_M G a.2.2.1 L) ++ zb_H G a.2.2.2.2.1.1 a.2.2.2.2.1.2.1 a.2.2.2.2.1.2.2 S (nI o) (nI cn))))) := zk_Dperm hD List.perm_append_comm
      refine lv_astore_n (lv' := [(3, .ref q9), (0, .ref a.1), (1, .int k), (2, .ref q)]) hx hb dL_days_15 rfl hl (by decide) rfl (fun ls hl => ?_)
      refine lv_iconst (v := nI 2) hx hb dL_days_16 (by decide) ?_
      rw [hQ]
      refine vx_ret ?_
      exact zk_reti (none, fo) rfl hx hb hr hlocks hS hP hD (Nat.le_of_ble_eq_true rfl) (Nat.le_of_ble_eq_true rfl) dL_days_17 (⟨rfl, "java/lang/IllegalStateException", hpx2, zc_3 _ _ _⟩)
  · have hP : va_P G.1 vwCl (zb_o G q fo ++ (zb_5 G a ++ ((zb_L G a.2.2.1 u.2) ++ ((zb_M G a.2.2.1 u.2) ++ zb_H G a.2.2.2.2.1.1 a.2.2.2.2.1.2.1 a.2.2.2.2.1.2.2 u.1.2.2 (nI u.1.1) (nI u.1.2.1))))) H := zk_Pperm hP List.perm_append_comm
    have hD : va_D A (zb_o G q fo ++ (zb_5 G a ++ ((zb_L G a.2.2.1 u.2) ++ ((zb_M G a.2.2.1 u.2) ++ zb_H G a.2.2.2.2.1.1 a.2.2.2.2.1.2.1 a.2.2.2.2.1.2.2 u.1.2.2 (nI u.1.1) (nI u.1.2.1))))) := zk_Dperm hD List.perm_append_comm
    refine lv_i2l (v := r.toInt64) hx hb dL_days_7 rfl ?_
    refine va_last hx hb hK hP hD hS 0 3 rfl rfl (vp_in_nI (by decide) (by decide)) dL_days_8 (fun H locs hP hD hS => ?_)
    rw [nI_clamp (by decide)] at hP hD
    have hP : va_P G.1 vwCl (zb_o G q (vp_updL fo 0 r.toInt64) ++ (zb_5 G a ++ ((zb_L G a.2.2.1 u.2) ++ ((zb_M G a.2.2.1 u.2) ++ zb_H G a.2.2.2.2.1.1 a.2.2.2.2.1.2.1 a.2.2.2.2.1.2.2 u.1.2.2 (nI u.1.1) (nI u.1.2.1))))) H := hP
    have hD : va_D A (zb_o G q (vp_updL fo 0 r.toInt64) ++ (zb_5 G a ++ ((zb_L G a.2.2.1 u.2) ++ ((zb_M G a.2.2.1 u.2) ++ zb_H G a.2.2.2.2.1.1 a.2.2.2.2.1.2.1 a.2.2.2.2.1.2.2 u.1.2.2 (nI u.1.1) (nI u.1.2.1))))) := hD
    refine lv_goto (tgt := 18) hx hb dL_days_9 (by decide) ?_
    refine lv_iconst (v := nI 0) hx hb dL_days_18 (by decide) ?_
    rw [hQ]
    refine vx_ret ?_
    exact zk_reti (some u, vp_updL fo 0 r.toInt64) rfl hx hb hr hlocks hS hP hD (Nat.le_of_ble_eq_true rfl) (Nat.le_of_ble_eq_true rfl) dL_days_19 (⟨rfl, r, hpost, rfl⟩)

abbrev rmL_set : Room := { frames := 9, cells := 2, slots := 12, locals := 146 }
set_option maxHeartbeats 4000000 in
set_option maxRecDepth 100000 in
theorem c_L_set (l : Launch) (G : zk_G) (hst : l.stackTraces = false) (a : zA) (L : zL) (n t : Nat) (hI : sInv L n t) (w v : Int32) (S : Nat → zL) (o cn : Nat) (ho : o < 14) (hcn : cn ≤ 14) (q : Nat) (fo : Nat → Int64) : zk_IH (S := Option ((Nat × Nat × (Nat → zL)) × zL) × (Nat → Int64)) l yL_set wsL_set rmL_set G [.ref a.1, .int w, .int v, .ref q] (zb_o G q fo ++ ((zb_5 G a) ++ ((zb_L G a.2.2.1 L) ++ ((zb_M G a.2.2.1 L) ++ zb_H G a.2.2.2.2.1.1 a.2.2.2.2.1.2.1 a.2.2.2.2.1.2.2 S (nI o) (nI cn))))) (fun r u => match u.1 with | some v0 => r = nI 0 ∧ ∃ an, (fun r u => sfSet w v = 0 ∧ r = (if w = 0 then L 0 2 else L 0 3) ∧ u.1 = hRem o cn S L ∧ u.2 = sSet L w v) an v0 ∧ u.2 = vp_updL fo 0 an.toInt64 | none => u.2 = fo ∧ ∃ E, (fun E => (E = "java/lang/IndexOutOfBoundsException" ∧ sfSet w v = nI 1) ∨ (E = "java/lang/IllegalArgumentException" ∧ sfSet w v = nI 2) ∨ (E = "java/lang/IllegalStateException" ∧ sfSet w v = nI 3)) E ∧ zcode E (nI 0) (nI 1) (nI 0) r) (fun u => zb_o G q u.2 ++ (match u.1 with | some v0 => zb_5 G a ++ ((zb_L G a.2.2.1 v0.2) ++ ((zb_M G a.2.2.1 v0.2) ++ zb_H G a.2.2.2.2.1.1 a.2.2.2.2.1.2.1 a.2.2.2.2.1.2.2 v0.1.2.2 (nI v0.1.1) (nI v0.1.2.1))) | none => (zb_5 G a) ++ ((zb_L G a.2.2.1 L) ++ ((zb_M G a.2.2.1 L) ++ zb_H G a.2.2.2.2.1.1 a.2.2.2.2.1.2.1 a.2.2.2.2.1.2.2 S (nI o) (nI cn))))) := by
  refine zk_bodyIH (cc := cL_set) (maxL := 5) (ret := (some .int)) (hh := [(0, 10, 13, 13)]) (by decide) rfl (Nat.le_of_ble_eq_true rfl) ?_
  intro p E0 s m args below meth cd A ls Q hF hNC hTab hQ
  obtain ⟨hx, hb, hml, hr, hts, hown, hlocks, -, hE, hP, hD, hS, hA, hA0, hl⟩ := hF
  have hK := hE.1
  have hl : lv_has ls 5 [(0, .ref a.1), (1, .int w), (2, .int v), (3, .ref q)] := hl
  have w1 := hts _ (List.mem_of_getElem? (l := wsL_set) (i := 1) (a := Cond.classLink RL 13 "java/lang/IllegalArgumentException") rfl)
  refine lv_aload_n hx hb dL_set_0 rfl (lv_at hl 3 rfl) ?_
  refine lv_iconst (v := nI 0) hx hb dL_set_1 (by decide) ?_
  refine lv_aload_n hx hb dL_set_2 rfl (lv_at hl 0 rfl) ?_
  refine lv_iload_n hx hb dL_set_3 rfl (lv_at hl 1 rfl) ?_
  refine lv_iload_n hx hb dL_set_4 rfl (lv_at hl 2 rfl) ?_
  have hP0 : va_P G.1 vwCl (((zb_5 G a) ++ ((zb_L G a.2.2.1 L) ++ ((zb_M G a.2.2.1 L) ++ zb_H G a.2.2.2.2.1.1 a.2.2.2.2.1.2.1 a.2.2.2.2.1.2.2 S (nI o) (nI cn)))) ++ zb_o G q fo) s.heap := zk_Pperm hP List.perm_append_comm
  have hD0 : va_D A (((zb_5 G a) ++ ((zb_L G a.2.2.1 L) ++ ((zb_M G a.2.2.1 L) ++ zb_H G a.2.2.2.2.1.1 a.2.2.2.2.1.2.1 a.2.2.2.2.1.2.2 S (nI o) (nI cn)))) ++ zb_o G q fo) := zk_Dperm hD List.perm_append_comm
  refine zk_callXIc (wr := zb_o G q fo) (vx_runV (As := [.int w, .int v]) (rest := [.int (nI 0), .ref q]) ⟨hx, hb, hml, hown, hts⟩ (c_X5_set l G hst a L n t hI w v S o cn ho hcn _) (cwV 2 hts gL_set_X5_set rfl rfl rfl (by decide +kernel) ⟨Nat.le_of_ble_eq_true rfl, Nat.le_of_ble_eq_true rfl⟩) (zk_preV hE hA0 hS (zk_Papp hP0).1 (zk_Dapp hD0).1 (va_recv hK hP0 (ci := 4) (q0 := 0) rfl rfl)) rfl rfl hl.1 rfl (lv_room (Nat.le_of_ble_eq_true rfl)) dL_set_5 ⟨Nat.le_of_ble_eq_true rfl, Nat.le_of_ble_eq_true rfl⟩) hP0 hD0 hS hA (fun E ce q9 H locs hpx hP hD hS hce hcv hcl => ?_) (fun r u H locs hpost hP hD hS => ?_)
  · have hpx2 := hpx
    rcases hpx with ⟨rfl, hno⟩ | ⟨rfl, hno⟩ | ⟨rfl, hno⟩
    · exact absurd hno (by unfold sfSet; (repeat' split) <;> decide)
    · refine vx_catch hown [] ⟨0, 10, 13, 13⟩ [] (by rw [hTab]; rfl) (fun z hz => absurd hz List.not_mem_nil) (by decide) (by decide) w1 (va_Nw.use rfl hE.2.1.2.2.2.2.2.2.2.2.2.2.2.1) hce hcv hcl ?_
      have hP : va_P G.1 vwCl (zb_o G q fo ++ ((zb_5 G a) ++ ((zb_L G a.2.2.1 L) ++ ((zb_M G a.2.2.1 L) ++ zb_H G a.2.2.2.2.1.1 a.2.2.2.2.1.2.1 a.2.2.2.2.1.2.2 S (nI o) (nI cn))))) H := zk_Pperm hP List.perm_append_comm
      have hD : va_D A (zb_o G q fo ++ ((zb_5 G a) ++ ((zb_L G a.2.2.1 L) ++ ((zb_M G a.2.2.1 L) ++ zb_H G a.2.2.2.2.1.1 a.2.2.2.2.1.2.1 a.2.2.2.2.1.2.2 S (nI o) (nI cn))))) := zk_Dperm hD List.perm_append_comm
      refine lv_astore (lv' := [(4, .ref q9), (0, .ref a.1), (1, .int w), (2, .int v), (3, .ref q)]) hx hb dL_set_13 hl (by decide) rfl (fun ls hl => ?_)
      refine lv_iconst (v := nI 1) hx hb dL_set_15 (by decide) ?_
      rw [hQ]
      refine vx_ret ?_
      exact zk_reti (none, fo) rfl hx hb hr hlocks hS hP hD (Nat.le_of_ble_eq_true rfl) (Nat.le_of_ble_eq_true rfl) dL_set_16 (⟨rfl, "java/lang/IllegalArgumentException", hpx2, zc_2 _ _ _⟩)
    · exact absurd hno (by unfold sfSet; (repeat' split) <;> decide)
  · have hP : va_P G.1 vwCl (zb_o G q fo ++ (zb_5 G a ++ ((zb_L G a.2.2.1 u.2) ++ ((zb_M G a.2.2.1 u.2) ++ zb_H G a.2.2.2.2.1.1 a.2.2.2.2.1.2.1 a.2.2.2.2.1.2.2 u.1.2.2 (nI u.1.1) (nI u.1.2.1))))) H := zk_Pperm hP List.perm_append_comm
    have hD : va_D A (zb_o G q fo ++ (zb_5 G a ++ ((zb_L G a.2.2.1 u.2) ++ ((zb_M G a.2.2.1 u.2) ++ zb_H G a.2.2.2.2.1.1 a.2.2.2.2.1.2.1 a.2.2.2.2.1.2.2 u.1.2.2 (nI u.1.1) (nI u.1.2.1))))) := zk_Dperm hD List.perm_append_comm
    refine lv_i2l (v := r.toInt64) hx hb dL_set_8 rfl ?_
    refine va_last hx hb hK hP hD hS 0 3 rfl rfl (vp_in_nI (by decide) (by decide)) dL_set_9 (fun H locs hP hD hS => ?_)
    rw [nI_clamp (by decide)] at hP hD
    have hP : va_P G.1 vwCl (zb_o G q (vp_updL fo 0 r.toInt64) ++ (zb_5 G a ++ ((zb_L G a.2.2.1 u.2) ++ ((zb_M G a.2.2.1 u.2) ++ zb_H G a.2.2.2.2.1.1 a.2.2.2.2.1.2.1 a.2.2.2.2.1.2.2 u.1.2.2 (nI u.1.1) (nI u.1.2.1))))) H := hP
    have hD : va_D A (zb_o G q (vp_updL fo 0 r.toInt64) ++ (zb_5 G a ++ ((zb_L G a.2.2.1 u.2) ++ ((zb_M G a.2.2.1 u.2) ++ zb_H G a.2.2.2.2.1.1 a.2.2.2.2.1.2.1 a.2.2.2.2.1.2.2 u.1.2.2 (nI u.1.1) (nI u.1.2.1))))) := hD
    refine lv_goto (tgt := 17) hx hb dL_set_10 (by decide) ?_
    refine lv_iconst (v := nI 0) hx hb dL_set_17 (by decide) ?_
    rw [hQ]
    refine vx_ret ?_
    exact zk_reti (some u, vp_updL fo 0 r.toInt64) rfl hx hb hr hlocks hS hP hD (Nat.le_of_ble_eq_true rfl) (Nat.le_of_ble_eq_true rfl) dL_set_18 (⟨rfl, r, hpost, rfl⟩)

abbrev rmL_undo : Room := { frames := 7, cells := 1, slots := 6, locals := 123 }
set_option maxHeartbeats 4000000 in
set_option maxRecDepth 100000 in
theorem c_L_undo (l : Launch) (G : zk_G) (hst : l.stackTraces = false) (a : zA) (L : zL) (n t : Nat) (hI : sInv L n t) (S : Nat → zL) (o cn : Nat) (ho : o < 14) (hcn : cn ≤ 14) (q : Nat) (fo : Nat → Int64) : zk_IH (S := Option (Unit) × (Nat → Int64)) l yL_undo wsL_undo rmL_undo G [.ref a.1, .ref q] (zb_o G q fo ++ ((zb_5 G a) ++ ((zb_L G a.2.2.1 L) ++ ((zb_M G a.2.2.1 L) ++ zb_H G a.2.2.2.2.1.1 a.2.2.2.2.1.2.1 a.2.2.2.2.1.2.2 S (nI o) (nI cn))))) (fun r u => match u.1 with | some v0 => r = nI 0 ∧ ∃ an, (fun r _ => ¬ cn = 0 ∧ r = nI (cn - 1)) an v0 ∧ u.2 = vp_updL fo 0 an.toInt64 | none => u.2 = fo ∧ ∃ E, (fun E => E = "java/lang/IllegalStateException" ∧ cn = 0) E ∧ zcode E (nI 0) (nI 0) (nI 1) r) (fun u => zb_o G q u.2 ++ (match u.1 with | some v0 => (zb_5 G a) ++ ((zb_L G a.2.2.1 (S ((o + (cn - 1)) % 14))) ++ ((zb_M G a.2.2.1 (S ((o + (cn - 1)) % 14))) ++ zb_H G a.2.2.2.2.1.1 a.2.2.2.2.1.2.1 a.2.2.2.2.1.2.2 S (nI o) (nI (cn - 1)))) | none => (zb_5 G a) ++ ((zb_L G a.2.2.1 L) ++ ((zb_M G a.2.2.1 L) ++ zb_H G a.2.2.2.2.1.1 a.2.2.2.2.1.2.1 a.2.2.2.2.1.2.2 S (nI o) (nI cn))))) := by
  refine zk_bodyIH (cc := cL_undo) (maxL := 3) (ret := (some .int)) (hh := [(0, 8, 11, 15)]) (by decide) rfl (Nat.le_of_ble_eq_true rfl) ?_
  intro p E0 s m args below meth cd A ls Q hF hNC hTab hQ
  obtain ⟨hx, hb, hml, hr, hts, hown, hlocks, -, hE, hP, hD, hS, hA, hA0, hl⟩ := hF
  have hK := hE.1
  have hl : lv_has ls 3 [(0, .ref a.1), (1, .ref q)] := hl
  have w1 := hts _ (List.mem_of_getElem? (l := wsL_undo) (i := 1) (a := Cond.classLink RL 15 "java/lang/IllegalStateException") rfl)
  refine lv_aload_n hx hb dL_undo_0 rfl (lv_at hl 1 rfl) ?_
  refine lv_iconst (v := nI 0) hx hb dL_undo_1 (by decide) ?_
  refine lv_aload_n hx hb dL_undo_2 rfl (lv_at hl 0 rfl) ?_
  have hP0 : va_P G.1 vwCl (((zb_5 G a) ++ ((zb_L G a.2.2.1 L) ++ ((zb_M G a.2.2.1 L) ++ zb_H G a.2.2.2.2.1.1 a.2.2.2.2.1.2.1 a.2.2.2.2.1.2.2 S (nI o) (nI cn)))) ++ zb_o G q fo) s.heap := zk_Pperm hP List.perm_append_comm
  have hD0 : va_D A (((zb_5 G a) ++ ((zb_L G a.2.2.1 L) ++ ((zb_M G a.2.2.1 L) ++ zb_H G a.2.2.2.2.1.1 a.2.2.2.2.1.2.1 a.2.2.2.2.1.2.2 S (nI o) (nI cn)))) ++ zb_o G q fo) := zk_Dperm hD List.perm_append_comm
  refine zk_callXIc (wr := zb_o G q fo) (vx_runV (As := []) (rest := [.int (nI 0), .ref q]) ⟨hx, hb, hml, hown, hts⟩ (c_X5_undo l G hst a L n t hI S o cn ho hcn _) (cwV 0 hts gL_undo_X5_undo rfl rfl rfl (by decide +kernel) ⟨Nat.le_of_ble_eq_true rfl, Nat.le_of_ble_eq_true rfl⟩) (zk_preV hE hA0 hS (zk_Papp hP0).1 (zk_Dapp hD0).1 (va_recv hK hP0 (ci := 4) (q0 := 0) rfl rfl)) rfl rfl hl.1 rfl (lv_room (Nat.le_of_ble_eq_true rfl)) dL_undo_3 ⟨Nat.le_of_ble_eq_true rfl, Nat.le_of_ble_eq_true rfl⟩) hP0 hD0 hS hA (fun E ce q9 H locs hpx hP hD hS hce hcv hcl => ?_) (fun r u H locs hpost hP hD hS => ?_)
  · have hpx2 := hpx
    obtain ⟨rfl, hno⟩ := hpx
    refine vx_catch hown [] ⟨0, 8, 11, 15⟩ [] (by rw [hTab]; rfl) (fun z hz => absurd hz List.not_mem_nil) (by decide) (by decide) w1 (va_Nw.use rfl hE.2.1.2.2.2.2.2.2.2.2.2.2.2.2) hce hcv hcl ?_
    have hP : va_P G.1 vwCl (zb_o G q fo ++ ((zb_5 G a) ++ ((zb_L G a.2.2.1 L) ++ ((zb_M G a.2.2.1 L) ++ zb_H G a.2.2.2.2.1.1 a.2.2.2.2.1.2.1 a.2.2.2.2.1.2.2 S (nI o) (nI cn))))) H := zk_Pperm hP List.perm_append_comm
    have hD : va_D A (zb_o G q fo ++ ((zb_5 G a) ++ ((zb_L G a.2.2.1 L) ++ ((zb_M G a.2.2.1 L) ++ zb_H G a.2.2.2.2.1.1 a.2.2.2.2.1.2.1 a.2.2.2.2.1.2.2 S (nI o) (nI cn))))) := zk_Dperm hD List.perm_append_comm
    refine lv_astore_n (lv' := [(2, .ref q9), (0, .ref a.1), (1, .ref q)]) hx hb dL_undo_11 rfl hl (by decide) rfl (fun ls hl => ?_)
    refine lv_iconst (v := nI 1) hx hb dL_undo_12 (by decide) ?_
    rw [hQ]
    refine vx_ret ?_
    exact zk_reti (none, fo) rfl hx hb hr hlocks hS hP hD (Nat.le_of_ble_eq_true rfl) (Nat.le_of_ble_eq_true rfl) dL_undo_13 (⟨rfl, "java/lang/IllegalStateException", hpx2, zc_3 _ _ _⟩)
  · have hP : va_P G.1 vwCl (zb_o G q fo ++ ((zb_5 G a) ++ ((zb_L G a.2.2.1 (S ((o + (cn - 1)) % 14))) ++ ((zb_M G a.2.2.1 (S ((o + (cn - 1)) % 14))) ++ zb_H G a.2.2.2.2.1.1 a.2.2.2.2.1.2.1 a.2.2.2.2.1.2.2 S (nI o) (nI (cn - 1)))))) H := zk_Pperm hP List.perm_append_comm
    have hD : va_D A (zb_o G q fo ++ ((zb_5 G a) ++ ((zb_L G a.2.2.1 (S ((o + (cn - 1)) % 14))) ++ ((zb_M G a.2.2.1 (S ((o + (cn - 1)) % 14))) ++ zb_H G a.2.2.2.2.1.1 a.2.2.2.2.1.2.1 a.2.2.2.2.1.2.2 S (nI o) (nI (cn - 1)))))) := zk_Dperm hD List.perm_append_comm
    refine lv_i2l (v := r.toInt64) hx hb dL_undo_6 rfl ?_
    refine va_last hx hb hK hP hD hS 0 3 rfl rfl (vp_in_nI (by decide) (by decide)) dL_undo_7 (fun H locs hP hD hS => ?_)
    rw [nI_clamp (by decide)] at hP hD
    have hP : va_P G.1 vwCl (zb_o G q (vp_updL fo 0 r.toInt64) ++ ((zb_5 G a) ++ ((zb_L G a.2.2.1 (S ((o + (cn - 1)) % 14))) ++ ((zb_M G a.2.2.1 (S ((o + (cn - 1)) % 14))) ++ zb_H G a.2.2.2.2.1.1 a.2.2.2.2.1.2.1 a.2.2.2.2.1.2.2 S (nI o) (nI (cn - 1)))))) H := hP
    have hD : va_D A (zb_o G q (vp_updL fo 0 r.toInt64) ++ ((zb_5 G a) ++ ((zb_L G a.2.2.1 (S ((o + (cn - 1)) % 14))) ++ ((zb_M G a.2.2.1 (S ((o + (cn - 1)) % 14))) ++ zb_H G a.2.2.2.2.1.1 a.2.2.2.2.1.2.1 a.2.2.2.2.1.2.2 S (nI o) (nI (cn - 1)))))) := hD
    refine lv_goto (tgt := 14) hx hb dL_undo_8 (by decide) ?_
    refine lv_iconst (v := nI 0) hx hb dL_undo_14 (by decide) ?_
    rw [hQ]
    refine vx_ret ?_
    exact zk_reti (some u, vp_updL fo 0 r.toInt64) rfl hx hb hr hlocks hS hP hD (Nat.le_of_ble_eq_true rfl) (Nat.le_of_ble_eq_true rfl) dL_undo_15 (⟨rfl, r, hpost, rfl⟩)

abbrev rmL_refusedOn : Room := { frames := 8, cells := 2, slots := 12, locals := 124 }
set_option maxHeartbeats 4000000 in
set_option maxRecDepth 100000 in
theorem c_L_refusedOn (l : Launch) (G : zk_G) (hst : l.stackTraces = false) (a : zA) (L : zL) (n t : Nat) (hI : sInv L n t) (c : Int32) (Z : zL) (q : Nat) (fo : Nat → Int64) : zk_IH (S := Option (zL) × (Nat → Int64)) l yL_refusedOn wsL_refusedOn rmL_refusedOn G [.ref a.1, .int c, .ref q] (zb_o G q fo ++ ((zb_5 G a) ++ ((zb_L G a.2.2.1 L) ++ ((zb_M G a.2.2.1 L) ++ ((zb_L G a.2.2.2.1 Z) ++ zb_M G a.2.2.2.1 Z))))) (fun r u => match u.1 with | some v0 => r = nI 0 ∧ ∃ an, (fun r _ => sHas L c ∧ r = sOpt (sSp L n t (L 1 c.toNatClampNeg) c 40).1) an v0 ∧ u.2 = vp_updL fo 0 an.toInt64 | none => u.2 = fo ∧ ∃ E, (fun E => E = "java/lang/IndexOutOfBoundsException" ∧ ¬ sHas L c) E ∧ zcode E (nI 1) (nI 0) (nI 0) r) (fun u => zb_o G q u.2 ++ (match u.1 with | some v0 => (zb_5 G a) ++ ((zb_L G a.2.2.1 L) ++ ((zb_M G a.2.2.1 L) ++ ((zb_L G a.2.2.2.1 v0) ++ zb_M G a.2.2.2.1 v0))) | none => (zb_5 G a) ++ ((zb_L G a.2.2.1 L) ++ ((zb_M G a.2.2.1 L) ++ ((zb_L G a.2.2.2.1 Z) ++ zb_M G a.2.2.2.1 Z))))) := by
  refine zk_bodyIH (cc := cL_refusedOn) (maxL := 4) (ret := (some .int)) (hh := [(0, 9, 12, 28)]) (by decide) rfl (Nat.le_of_ble_eq_true rfl) ?_
  intro p E0 s m args below meth cd A ls Q hF hNC hTab hQ
  obtain ⟨hx, hb, hml, hr, hts, hown, hlocks, -, hE, hP, hD, hS, hA, hA0, hl⟩ := hF
  have hK := hE.1
  have hl : lv_has ls 4 [(0, .ref a.1), (1, .int c), (2, .ref q)] := hl
  have w1 := hts _ (List.mem_of_getElem? (l := wsL_refusedOn) (i := 1) (a := Cond.classLink RL 28 "java/lang/IndexOutOfBoundsException") rfl)
  refine lv_aload_n hx hb dL_refusedOn_0 rfl (lv_at hl 2 rfl) ?_
  refine lv_iconst (v := nI 0) hx hb dL_refusedOn_1 (by decide) ?_
  refine lv_aload_n hx hb dL_refusedOn_2 rfl (lv_at hl 0 rfl) ?_
  refine lv_iload_n hx hb dL_refusedOn_3 rfl (lv_at hl 1 rfl) ?_
  have hP0 : va_P G.1 vwCl (((zb_5 G a) ++ ((zb_L G a.2.2.1 L) ++ ((zb_M G a.2.2.1 L) ++ ((zb_L G a.2.2.2.1 Z) ++ zb_M G a.2.2.2.1 Z)))) ++ zb_o G q fo) s.heap := zk_Pperm hP List.perm_append_comm
  have hD0 : va_D A (((zb_5 G a) ++ ((zb_L G a.2.2.1 L) ++ ((zb_M G a.2.2.1 L) ++ ((zb_L G a.2.2.2.1 Z) ++ zb_M G a.2.2.2.1 Z)))) ++ zb_o G q fo) := zk_Dperm hD List.perm_append_comm
  refine zk_callXIc (wr := zb_o G q fo) (vx_runV (As := [.int c]) (rest := [.int (nI 0), .ref q]) ⟨hx, hb, hml, hown, hts⟩ (c_X5_refusedOn l G hst a L n t hI c Z _) (cwV 1 hts gL_refusedOn_X5_refusedOn rfl rfl rfl (by decide +kernel) ⟨Nat.le_of_ble_eq_true rfl, Nat.le_of_ble_eq_true rfl⟩) (zk_preV hE hA0 hS (zk_Papp hP0).1 (zk_Dapp hD0).1 (va_recv hK hP0 (ci := 4) (q0 := 0) rfl rfl)) rfl rfl hl.1 rfl (lv_room (Nat.le_of_ble_eq_true rfl)) dL_refusedOn_4 ⟨Nat.le_of_ble_eq_true rfl, Nat.le_of_ble_eq_true rfl⟩) hP0 hD0 hS hA (fun E ce q9 H locs hpx hP hD hS hce hcv hcl => ?_) (fun r u H locs hpost hP hD hS => ?_)
  · have hpx2 := hpx
    obtain ⟨rfl, hno⟩ := hpx
    refine vx_catch hown [] ⟨0, 9, 12, 28⟩ [] (by rw [hTab]; rfl) (fun z hz => absurd hz List.not_mem_nil) (by decide) (by decide) w1 (va_Nw.use rfl hE.2.1.2.2.2.2.2.2.2.2.2.2.1) hce hcv hcl ?_
    have hP : va_P G.1 vwCl (zb_o G q fo ++ ((zb_5 G a) ++ ((zb_L G a.2.2.1 L) ++ ((zb_M G a.2.2.1 L) ++ ((zb_L G a.2.2.2.1 Z) ++ zb_M G a.2.2.2.1 Z))))) H := zk_Pperm hP List.perm_append_comm
    have hD : va_D A (zb_o G q fo ++ ((zb_5 G a) ++ ((zb_L G a.2.2.1 L) ++ ((zb_M G a.2.2.1 L) ++ ((zb_L G a.2.2.2.1 Z) ++ zb_M G a.2.2.2.1 Z))))) := zk_Dperm hD List.perm_append_comm
    refine lv_astore_n (lv' := [(3, .ref q9), (0, .ref a.1), (1, .int c), (2, .ref q)]) hx hb dL_refusedOn_12 rfl hl (by decide) rfl (fun ls hl => ?_)
    refine lv_iconst (v := nI 1) hx hb dL_refusedOn_13 (by decide) ?_
    rw [hQ]
    refine vx_ret ?_
    exact zk_reti (none, fo) rfl hx hb hr hlocks hS hP hD (Nat.le_of_ble_eq_true rfl) (Nat.le_of_ble_eq_true rfl) dL_refusedOn_14 (⟨rfl, "java/lang/IndexOutOfBoundsException", hpx2, zc_1 _ _ _⟩)
  · have hP : va_P G.1 vwCl (zb_o G q fo ++ ((zb_5 G a) ++ ((zb_L G a.2.2.1 L) ++ ((zb_M G a.2.2.1 L) ++ ((zb_L G a.2.2.2.1 u) ++ zb_M G a.2.2.2.1 u))))) H := zk_Pperm hP List.perm_append_comm
    have hD : va_D A (zb_o G q fo ++ ((zb_5 G a) ++ ((zb_L G a.2.2.1 L) ++ ((zb_M G a.2.2.1 L) ++ ((zb_L G a.2.2.2.1 u) ++ zb_M G a.2.2.2.1 u))))) := zk_Dperm hD List.perm_append_comm
    refine lv_i2l (v := r.toInt64) hx hb dL_refusedOn_7 rfl ?_
    refine va_last hx hb hK hP hD hS 0 3 rfl rfl (vp_in_nI (by decide) (by decide)) dL_refusedOn_8 (fun H locs hP hD hS => ?_)
    rw [nI_clamp (by decide)] at hP hD
    have hP : va_P G.1 vwCl (zb_o G q (vp_updL fo 0 r.toInt64) ++ ((zb_5 G a) ++ ((zb_L G a.2.2.1 L) ++ ((zb_M G a.2.2.1 L) ++ ((zb_L G a.2.2.2.1 u) ++ zb_M G a.2.2.2.1 u))))) H := hP
    have hD : va_D A (zb_o G q (vp_updL fo 0 r.toInt64) ++ ((zb_5 G a) ++ ((zb_L G a.2.2.1 L) ++ ((zb_M G a.2.2.1 L) ++ ((zb_L G a.2.2.2.1 u) ++ zb_M G a.2.2.2.1 u))))) := hD
    refine lv_goto (tgt := 15) hx hb dL_refusedOn_9 (by decide) ?_
    refine lv_iconst (v := nI 0) hx hb dL_refusedOn_15 (by decide) ?_
    rw [hQ]
    refine vx_ret ?_
    exact zk_reti (some u, vp_updL fo 0 r.toInt64) rfl hx hb hr hlocks hS hP hD (Nat.le_of_ble_eq_true rfl) (Nat.le_of_ble_eq_true rfl) dL_refusedOn_16 (⟨rfl, r, hpost, rfl⟩)

abbrev rmL_needs : Room := { frames := 8, cells := 2, slots := 12, locals := 125 }
set_option maxHeartbeats 4000000 in
set_option maxRecDepth 100000 in
theorem c_L_needs (l : Launch) (G : zk_G) (hst : l.stackTraces = false) (a : zA) (L : zL) (n t : Nat) (hI : sInv L n t) (f : Int32) (Z : zL) (q : Nat) (fo : Nat → Int64) : zk_IH (S := Option (zL) × (Nat → Int64)) l yL_needs wsL_needs rmL_needs G [.ref a.1, .int f, .ref q] (zb_o G q fo ++ ((zb_5 G a) ++ ((zb_L G a.2.2.1 L) ++ ((zb_M G a.2.2.1 L) ++ ((zb_L G a.2.2.2.1 Z) ++ zb_M G a.2.2.2.1 Z))))) (fun r u => match u.1 with | some v0 => r = nI 0 ∧ ∃ an, (fun r _ => sFam f ∧ ((∃ lo, lo < n ∧ L 1 lo = f ∧ (∀ j, j < lo → ¬ L 1 j = f) ∧ ((∃ k, k ≤ 200 ∧ r = nI (100 * k) ∧ nTry L n t f lo k ∧ ∀ j, j < k → ¬ nTry L n t f lo j) ∨ (r = -1 ∧ ∀ j, j < 201 → ¬ nTry L n t f lo j))) ∨ (r = -1 ∧ ∀ j, j < n → ¬ L 1 j = f))) an v0 ∧ u.2 = vp_updL fo 0 an.toInt64 | none => u.2 = fo ∧ ∃ E, (fun E => E = "java/lang/IndexOutOfBoundsException" ∧ ¬ sFam f) E ∧ zcode E (nI 1) (nI 0) (nI 0) r) (fun u => zb_o G q u.2 ++ (match u.1 with | some v0 => (zb_5 G a) ++ ((zb_L G a.2.2.1 L) ++ ((zb_M G a.2.2.1 L) ++ ((zb_L G a.2.2.2.1 v0) ++ zb_M G a.2.2.2.1 v0))) | none => (zb_5 G a) ++ ((zb_L G a.2.2.1 L) ++ ((zb_M G a.2.2.1 L) ++ ((zb_L G a.2.2.2.1 Z) ++ zb_M G a.2.2.2.1 Z))))) := by
  refine zk_bodyIH (cc := cL_needs) (maxL := 4) (ret := (some .int)) (hh := [(0, 9, 12, 28)]) (by decide) rfl (Nat.le_of_ble_eq_true rfl) ?_
  intro p E0 s m args below meth cd A ls Q hF hNC hTab hQ
  obtain ⟨hx, hb, hml, hr, hts, hown, hlocks, -, hE, hP, hD, hS, hA, hA0, hl⟩ := hF
  have hK := hE.1
  have hl : lv_has ls 4 [(0, .ref a.1), (1, .int f), (2, .ref q)] := hl
  have w1 := hts _ (List.mem_of_getElem? (l := wsL_needs) (i := 1) (a := Cond.classLink RL 28 "java/lang/IndexOutOfBoundsException") rfl)
  refine lv_aload_n hx hb dL_needs_0 rfl (lv_at hl 2 rfl) ?_
  refine lv_iconst (v := nI 0) hx hb dL_needs_1 (by decide) ?_
  refine lv_aload_n hx hb dL_needs_2 rfl (lv_at hl 0 rfl) ?_
  refine lv_iload_n hx hb dL_needs_3 rfl (lv_at hl 1 rfl) ?_
  have hP0 : va_P G.1 vwCl (((zb_5 G a) ++ ((zb_L G a.2.2.1 L) ++ ((zb_M G a.2.2.1 L) ++ ((zb_L G a.2.2.2.1 Z) ++ zb_M G a.2.2.2.1 Z)))) ++ zb_o G q fo) s.heap := zk_Pperm hP List.perm_append_comm
  have hD0 : va_D A (((zb_5 G a) ++ ((zb_L G a.2.2.1 L) ++ ((zb_M G a.2.2.1 L) ++ ((zb_L G a.2.2.2.1 Z) ++ zb_M G a.2.2.2.1 Z)))) ++ zb_o G q fo) := zk_Dperm hD List.perm_append_comm
  refine zk_callXIc (wr := zb_o G q fo) (vx_runV (As := [.int f]) (rest := [.int (nI 0), .ref q]) ⟨hx, hb, hml, hown, hts⟩ (c_X5_needs l G hst a L n t hI f Z _) (cwV 1 hts gL_needs_X5_needs rfl rfl rfl (by decide +kernel) ⟨Nat.le_of_ble_eq_true rfl, Nat.le_of_ble_eq_true rfl⟩) (zk_preV hE hA0 hS (zk_Papp hP0).1 (zk_Dapp hD0).1 (va_recv hK hP0 (ci := 4) (q0 := 0) rfl rfl)) rfl rfl hl.1 rfl (lv_room (Nat.le_of_ble_eq_true rfl)) dL_needs_4 ⟨Nat.le_of_ble_eq_true rfl, Nat.le_of_ble_eq_true rfl⟩) hP0 hD0 hS hA (fun E ce q9 H locs hpx hP hD hS hce hcv hcl => ?_) (fun r u H locs hpost hP hD hS => ?_)
  · have hpx2 := hpx
    obtain ⟨rfl, hno⟩ := hpx
    refine vx_catch hown [] ⟨0, 9, 12, 28⟩ [] (by rw [hTab]; rfl) (fun z hz => absurd hz List.not_mem_nil) (by decide) (by decide) w1 (va_Nw.use rfl hE.2.1.2.2.2.2.2.2.2.2.2.2.1) hce hcv hcl ?_
    have hP : va_P G.1 vwCl (zb_o G q fo ++ ((zb_5 G a) ++ ((zb_L G a.2.2.1 L) ++ ((zb_M G a.2.2.1 L) ++ ((zb_L G a.2.2.2.1 Z) ++ zb_M G a.2.2.2.1 Z))))) H := zk_Pperm hP List.perm_append_comm
    have hD : va_D A (zb_o G q fo ++ ((zb_5 G a) ++ ((zb_L G a.2.2.1 L) ++ ((zb_M G a.2.2.1 L) ++ ((zb_L G a.2.2.2.1 Z) ++ zb_M G a.2.2.2.1 Z))))) := zk_Dperm hD List.perm_append_comm
    refine lv_astore_n (lv' := [(3, .ref q9), (0, .ref a.1), (1, .int f), (2, .ref q)]) hx hb dL_needs_12 rfl hl (by decide) rfl (fun ls hl => ?_)
    refine lv_iconst (v := nI 1) hx hb dL_needs_13 (by decide) ?_
    rw [hQ]
    refine vx_ret ?_
    exact zk_reti (none, fo) rfl hx hb hr hlocks hS hP hD (Nat.le_of_ble_eq_true rfl) (Nat.le_of_ble_eq_true rfl) dL_needs_14 (⟨rfl, "java/lang/IndexOutOfBoundsException", hpx2, zc_1 _ _ _⟩)
  · have hP : va_P G.1 vwCl (zb_o G q fo ++ ((zb_5 G a) ++ ((zb_L G a.2.2.1 L) ++ ((zb_M G a.2.2.1 L) ++ ((zb_L G a.2.2.2.1 u) ++ zb_M G a.2.2.2.1 u))))) H := zk_Pperm hP List.perm_append_comm
    have hD : va_D A (zb_o G q fo ++ ((zb_5 G a) ++ ((zb_L G a.2.2.1 L) ++ ((zb_M G a.2.2.1 L) ++ ((zb_L G a.2.2.2.1 u) ++ zb_M G a.2.2.2.1 u))))) := zk_Dperm hD List.perm_append_comm
    refine lv_i2l (v := r.toInt64) hx hb dL_needs_7 rfl ?_
    refine va_last hx hb hK hP hD hS 0 3 rfl rfl (vp_in_nI (by decide) (by decide)) dL_needs_8 (fun H locs hP hD hS => ?_)
    rw [nI_clamp (by decide)] at hP hD
    have hP : va_P G.1 vwCl (zb_o G q (vp_updL fo 0 r.toInt64) ++ ((zb_5 G a) ++ ((zb_L G a.2.2.1 L) ++ ((zb_M G a.2.2.1 L) ++ ((zb_L G a.2.2.2.1 u) ++ zb_M G a.2.2.2.1 u))))) H := hP
    have hD : va_D A (zb_o G q (vp_updL fo 0 r.toInt64) ++ ((zb_5 G a) ++ ((zb_L G a.2.2.1 L) ++ ((zb_M G a.2.2.1 L) ++ ((zb_L G a.2.2.2.1 u) ++ zb_M G a.2.2.2.1 u))))) := hD
    refine lv_goto (tgt := 15) hx hb dL_needs_9 (by decide) ?_
    refine lv_iconst (v := nI 0) hx hb dL_needs_15 (by decide) ?_
    rw [hQ]
    refine vx_ret ?_
    exact zk_reti (some u, vp_updL fo 0 r.toInt64) rfl hx hb hr hlocks hS hP hD (Nat.le_of_ble_eq_true rfl) (Nat.le_of_ble_eq_true rfl) dL_needs_16 (⟨rfl, r, hpost, rfl⟩)

abbrev rmL_ifEntitled : Room := { frames := 8, cells := 2, slots := 12, locals := 125 }
set_option maxHeartbeats 4000000 in
set_option maxRecDepth 100000 in
theorem c_L_ifEntitled (l : Launch) (G : zk_G) (hst : l.stackTraces = false) (a : zA) (L : zL) (n t : Nat) (hI : sInv L n t) (c fr to : Int32) (Z : zL) (q : Nat) (fo : Nat → Int64) : zk_IH (S := Option (zL) × (Nat → Int64)) l yL_ifEntitled wsL_ifEntitled rmL_ifEntitled G [.ref a.1, .int c, .int fr, .int to, .ref q] (zb_o G q fo ++ ((zb_5 G a) ++ ((zb_L G a.2.2.1 L) ++ ((zb_M G a.2.2.1 L) ++ ((zb_L G a.2.2.2.1 Z) ++ zb_M G a.2.2.2.1 Z))))) (fun r u => match u.1 with | some v0 => r = nI 0 ∧ ∃ an, (fun r _ => sfEnt L c fr to = 0 ∧ r = zs (sEntitle L t c.toNatClampNeg fr to 3) n - zs (L 3) n) an v0 ∧ u.2 = vp_updL fo 0 an.toInt64 | none => u.2 = fo ∧ ∃ E, (fun E => (E = "java/lang/IndexOutOfBoundsException" ∧ sfEnt L c fr to = nI 1) ∨ (E = "java/lang/IllegalArgumentException" ∧ sfEnt L c fr to = nI 2) ∨ (E = "java/lang/IllegalStateException" ∧ sfEnt L c fr to = nI 3)) E ∧ zcode E (nI 1) (nI 2) (nI 0) r) (fun u => zb_o G q u.2 ++ (match u.1 with | some v0 => (zb_5 G a) ++ ((zb_L G a.2.2.1 L) ++ ((zb_M G a.2.2.1 L) ++ ((zb_L G a.2.2.2.1 v0) ++ zb_M G a.2.2.2.1 v0))) | none => (zb_5 G a) ++ ((zb_L G a.2.2.1 L) ++ ((zb_M G a.2.2.1 L) ++ ((zb_L G a.2.2.2.1 Z) ++ zb_M G a.2.2.2.1 Z))))) := by
  refine zk_bodyIH (cc := cL_ifEntitled) (maxL := 6) (ret := (some .int)) (hh := [(0, 12, 15, 28), (0, 12, 19, 13)]) (by decide) rfl (Nat.le_of_ble_eq_true rfl) ?_
  intro p E0 s m args below meth cd A ls Q hF hNC hTab hQ
  obtain ⟨hx, hb, hml, hr, hts, hown, hlocks, -, hE, hP, hD, hS, hA, hA0, hl⟩ := hF
  have hK := hE.1
  have hl : lv_has ls 6 [(0, .ref a.1), (1, .int c), (2, .int fr), (3, .int to), (4, .ref q)] := hl
  have w1 := hts _ (List.mem_of_getElem? (l := wsL_ifEntitled) (i := 1) (a := Cond.classLink RL 28 "java/lang/IndexOutOfBoundsException") rfl)
  have w2 := hts _ (List.mem_of_getElem? (l := wsL_ifEntitled) (i := 2) (a := Cond.classLink RL 13 "java/lang/IllegalArgumentException") rfl)
  refine lv_aload hx hb dL_ifEntitled_0 (lv_at hl 4 rfl) ?_
  refine lv_iconst (v := nI 0) hx hb dL_ifEntitled_2 (by decide) ?_
  refine lv_aload_n hx hb dL_ifEntitled_3 rfl (lv_at hl 0 rfl) ?_
  refine lv_iload_n hx hb dL_ifEntitled_4 rfl (lv_at hl 1 rfl) ?_
  refine lv_iload_n hx hb dL_ifEntitled_5 rfl (lv_at hl 2 rfl) ?_
  refine lv_iload_n hx hb dL_ifEntitled_6 rfl (lv_at hl 3 rfl) ?_
  have hP0 : va_P G.1 vwCl (((zb_5 G a) ++ ((zb_L G a.2.2.1 L) ++ ((zb_M G a.2.2.1 L) ++ ((zb_L G a.2.2.2.1 Z) ++ zb_M G a.2.2.2.1 Z)))) ++ zb_o G q fo) s.heap := zk_Pperm hP List.perm_append_comm
  have hD0 : va_D A (((zb_5 G a) ++ ((zb_L G a.2.2.1 L) ++ ((zb_M G a.2.2.1 L) ++ ((zb_L G a.2.2.2.1 Z) ++ zb_M G a.2.2.2.1 Z)))) ++ zb_o G q fo) := zk_Dperm hD List.perm_append_comm
  refine zk_callXIc (wr := zb_o G q fo) (vx_runV (As := [.int c, .int fr, .int to]) (rest := [.int (nI 0), .ref q]) ⟨hx, hb, hml, hown, hts⟩ (c_X5_ifEntitled l G hst a L n t hI c fr to Z _) (cwV 3 hts gL_ifEntitled_X5_ifEntitled rfl rfl rfl (by decide +kernel) ⟨Nat.le_of_ble_eq_true rfl, Nat.le_of_ble_eq_true rfl⟩) (zk_preV hE hA0 hS (zk_Papp hP0).1 (zk_Dapp hD0).1 (va_recv hK hP0 (ci := 4) (q0 := 0) rfl rfl)) rfl rfl hl.1 rfl (lv_room (Nat.le_of_ble_eq_true rfl)) dL_ifEntitled_7 ⟨Nat.le_of_ble_eq_true rfl, Nat.le_of_ble_eq_true rfl⟩) hP0 hD0 hS hA (fun E ce q9 H locs hpx hP hD hS hce hcv hcl => ?_) (fun r u H locs hpost hP hD hS => ?_)
  · have hpx2 := hpx
    rcases hpx with ⟨rfl, hno⟩ | ⟨rfl, hno⟩ | ⟨rfl, hno⟩
    · refine vx_catch hown [] ⟨0, 12, 15, 28⟩ [⟨0, 12, 19, 13⟩] (by rw [hTab]; rfl) (fun z hz => absurd hz List.not_mem_nil) (by decide) (by decide) w1 (va_Nw.use rfl hE.2.1.2.2.2.2.2.2.2.2.2.2.1) hce hcv hcl ?_
      have hP : va_P G.1 vwCl (zb_o G q fo ++ ((zb_5 G a) ++ ((zb_L G a.2.2.1 L) ++ ((zb_M G a.2.2.1 L) ++ ((zb_L G a.2.2.2.1 Z) ++ zb_M G a.2.2.2.1 Z))))) H := zk_Pperm hP List.perm_append_comm
      have hD : va_D A (zb_o G q fo ++ ((zb_5 G a) ++ ((zb_L G a.2.2.1 L) ++ ((zb_M G a.2.2.1 L) ++ ((zb_L G a.2.2.2.1 Z) ++ zb_M G a.2.2.2.1 Z))))) := zk_Dperm hD List.perm_append_comm
      refine lv_astore (lv' := [(5, .ref q9), (0, .ref a.1), (1, .int c), (2, .int fr), (3, .int to), (4, .ref q)]) hx hb dL_ifEntitled_15 hl (by decide) rfl (fun ls hl => ?_)
      refine lv_iconst (v := nI 1) hx hb dL_ifEntitled_17 (by decide) ?_
      rw [hQ]
      refine vx_ret ?_
      exact zk_reti (none, fo) rfl hx hb hr hlocks hS hP hD (Nat.le_of_ble_eq_true rfl) (Nat.le_of_ble_eq_true rfl) dL_ifEntitled_18 (⟨rfl, "java/lang/IndexOutOfBoundsException", hpx2, zc_1 _ _ _⟩)
    · refine vx_catch hown [⟨0, 12, 15, 28⟩] ⟨0, 12, 19, 13⟩ [] (by rw [hTab]; rfl) (List.forall_mem_cons.mpr ⟨Or.inr ⟨by decide, "java/lang/IndexOutOfBoundsException", w1, hNC.1.2⟩, fun z hz => absurd hz List.not_mem_nil⟩) (by decide) (by decide) w2 (va_Nw.use rfl hE.2.1.2.2.2.2.2.2.2.2.2.2.2.1) hce hcv hcl ?_
      have hP : va_P G.1 vwCl (zb_o G q fo ++ ((zb_5 G a) ++ ((zb_L G a.2.2.1 L) ++ ((zb_M G a.2.2.1 L) ++ ((zb_L G a.2.2.2.1 Z) ++ zb_M G a.2.2.2.1 Z))))) H := zk_Pperm hP List.perm_append_comm
      have hD : va_D A (zb_o G q fo ++ ((zb_5 G a) ++ ((zb_L G a.2.2.1 L) ++ ((zb_M G a.2.2.1 L) ++ ((zb_L G a.2.2.2.1 Z) ++ zb_M G a.2.2.2.1 Z))))) := zk_Dperm hD List.perm_append_comm
      refine lv_astore (lv' := [(5, .ref q9), (0, .ref a.1), (1, .int c), (2, .int fr), (3, .int to), (4, .ref q)]) hx hb dL_ifEntitled_19 hl (by decide) rfl (fun ls hl => ?_)
      refine lv_iconst (v := nI 2) hx hb dL_ifEntitled_21 (by decide) ?_
      rw [hQ]
      refine vx_ret ?_
      exact zk_reti (none, fo) rfl hx hb hr hlocks hS hP hD (Nat.le_of_ble_eq_true rfl) (Nat.le_of_ble_eq_true rfl) dL_ifEntitled_22 (⟨rfl, "java/lang/IllegalArgumentException", hpx2, zc_2 _ _ _⟩)
    · exact absurd hno (by unfold sfEnt; (repeat' split) <;> decide)
  · have hP : va_P G.1 vwCl (zb_o G q fo ++ ((zb_5 G a) ++ ((zb_L G a.2.2.1 L) ++ ((zb_M G a.2.2.1 L) ++ ((zb_L G a.2.2.2.1 u) ++ zb_M G a.2.2.2.1 u))))) H := zk_Pperm hP List.perm_append_comm
    have hD : va_D A (zb_o G q fo ++ ((zb_5 G a) ++ ((zb_L G a.2.2.1 L) ++ ((zb_M G a.2.2.1 L) ++ ((zb_L G a.2.2.2.1 u) ++ zb_M G a.2.2.2.1 u))))) := zk_Dperm hD List.perm_append_comm
    refine lv_i2l (v := r.toInt64) hx hb dL_ifEntitled_10 rfl ?_
    refine va_last hx hb hK hP hD hS 0 3 rfl rfl (vp_in_nI (by decide) (by decide)) dL_ifEntitled_11 (fun H locs hP hD hS => ?_)
    rw [nI_clamp (by decide)] at hP hD
    have hP : va_P G.1 vwCl (zb_o G q (vp_updL fo 0 r.toInt64) ++ ((zb_5 G a) ++ ((zb_L G a.2.2.1 L) ++ ((zb_M G a.2.2.1 L) ++ ((zb_L G a.2.2.2.1 u) ++ zb_M G a.2.2.2.1 u))))) H := hP
    have hD : va_D A (zb_o G q (vp_updL fo 0 r.toInt64) ++ ((zb_5 G a) ++ ((zb_L G a.2.2.1 L) ++ ((zb_M G a.2.2.1 L) ++ ((zb_L G a.2.2.2.1 u) ++ zb_M G a.2.2.2.1 u))))) := hD
    refine lv_goto (tgt := 23) hx hb dL_ifEntitled_12 (by decide) ?_
    refine lv_iconst (v := nI 0) hx hb dL_ifEntitled_23 (by decide) ?_
    rw [hQ]
    refine vx_ret ?_
    exact zk_reti (some u, vp_updL fo 0 r.toInt64) rfl hx hb hr hlocks hS hP hD (Nat.le_of_ble_eq_true rfl) (Nat.le_of_ble_eq_true rfl) dL_ifEntitled_24 (⟨rfl, r, hpost, rfl⟩)

abbrev rmL_ifPrice : Room := { frames := 7, cells := 1, slots := 6, locals := 114 }
set_option maxHeartbeats 4000000 in
set_option maxRecDepth 100000 in
theorem c_L_ifPrice (l : Launch) (G : zk_G) (hst : l.stackTraces = false) (a : zA) (L : zL) (n t : Nat) (hI : sInv L n t) (pr : Int32) (Z : zL) (q : Nat) (fo : Nat → Int64) : zk_IH (S := Option (zL) × (Nat → Int64)) l yL_ifPrice wsL_ifPrice rmL_ifPrice G [.ref a.1, .int pr, .ref q] (zb_o G q fo ++ ((zb_5 G a) ++ ((zb_L G a.2.2.1 L) ++ ((zb_M G a.2.2.1 L) ++ ((zb_L G a.2.2.2.1 Z) ++ zb_M G a.2.2.2.1 Z))))) (fun r u => match u.1 with | some v0 => r = nI 0 ∧ ∃ an, (fun r _ => ¬ pr < nI 1 ∧ ¬ nI 999 < pr ∧ r = (sDays n t (40 - t) (up2 L 0 2 pr)).1) an v0 ∧ u.2 = vp_updL fo 0 an.toInt64 | none => u.2 = fo ∧ ∃ E, (fun E => E = "java/lang/IllegalArgumentException" ∧ (pr < nI 1 ∨ nI 999 < pr)) E ∧ zcode E (nI 0) (nI 1) (nI 0) r) (fun u => zb_o G q u.2 ++ (match u.1 with | some v0 => (zb_5 G a) ++ ((zb_L G a.2.2.1 L) ++ ((zb_M G a.2.2.1 L) ++ ((zb_L G a.2.2.2.1 v0) ++ zb_M G a.2.2.2.1 v0))) | none => (zb_5 G a) ++ ((zb_L G a.2.2.1 L) ++ ((zb_M G a.2.2.1 L) ++ ((zb_L G a.2.2.2.1 Z) ++ zb_M G a.2.2.2.1 Z))))) := by
  refine zk_bodyIH (cc := cL_ifPrice) (maxL := 4) (ret := (some .int)) (hh := [(0, 9, 12, 13)]) (by decide) rfl (Nat.le_of_ble_eq_true rfl) ?_
  intro p E0 s m args below meth cd A ls Q hF hNC hTab hQ
  obtain ⟨hx, hb, hml, hr, hts, hown, hlocks, -, hE, hP, hD, hS, hA, hA0, hl⟩ := hF
  have hK := hE.1
  have hl : lv_has ls 4 [(0, .ref a.1), (1, .int pr), (2, .ref q)] := hl
  have w1 := hts _ (List.mem_of_getElem? (l := wsL_ifPrice) (i := 1) (a := Cond.classLink RL 13 "java/lang/IllegalArgumentException") rfl)
  refine lv_aload_n hx hb dL_ifPrice_0 rfl (lv_at hl 2 rfl) ?_
  refine lv_iconst (v := nI 0) hx hb dL_ifPrice_1 (by decide) ?_
  refine lv_aload_n hx hb dL_ifPrice_2 rfl (lv_at hl 0 rfl) ?_
  refine lv_iload_n hx hb dL_ifPrice_3 rfl (lv_at hl 1 rfl) ?_
  have hP0 : va_P G.1 vwCl (((zb_5 G a) ++ ((zb_L G a.2.2.1 L) ++ ((zb_M G a.2.2.1 L) ++ ((zb_L G a.2.2.2.1 Z) ++ zb_M G a.2.2.2.1 Z)))) ++ zb_o G q fo) s.heap := zk_Pperm hP List.perm_append_comm
  have hD0 : va_D A (((zb_5 G a) ++ ((zb_L G a.2.2.1 L) ++ ((zb_M G a.2.2.1 L) ++ ((zb_L G a.2.2.2.1 Z) ++ zb_M G a.2.2.2.1 Z)))) ++ zb_o G q fo) := zk_Dperm hD List.perm_append_comm
  refine zk_callXIc (wr := zb_o G q fo) (vx_runV (As := [.int pr]) (rest := [.int (nI 0), .ref q]) ⟨hx, hb, hml, hown, hts⟩ (c_X5_ifPrice l G hst a L n t hI pr Z _) (cwV 1 hts gL_ifPrice_X5_ifPrice rfl rfl rfl (by decide +kernel) ⟨Nat.le_of_ble_eq_true rfl, Nat.le_of_ble_eq_true rfl⟩) (zk_preV hE hA0 hS (zk_Papp hP0).1 (zk_Dapp hD0).1 (va_recv hK hP0 (ci := 4) (q0 := 0) rfl rfl)) rfl rfl hl.1 rfl (lv_room (Nat.le_of_ble_eq_true rfl)) dL_ifPrice_4 ⟨Nat.le_of_ble_eq_true rfl, Nat.le_of_ble_eq_true rfl⟩) hP0 hD0 hS hA (fun E ce q9 H locs hpx hP hD hS hce hcv hcl => ?_) (fun r u H locs hpost hP hD hS => ?_)
  · have hpx2 := hpx
    obtain ⟨rfl, hno⟩ := hpx
    refine vx_catch hown [] ⟨0, 9, 12, 13⟩ [] (by rw [hTab]; rfl) (fun z hz => absurd hz List.not_mem_nil) (by decide) (by decide) w1 (va_Nw.use rfl hE.2.1.2.2.2.2.2.2.2.2.2.2.2.1) hce hcv hcl ?_
    have hP : va_P G.1 vwCl (zb_o G q fo ++ ((zb_5 G a) ++ ((zb_L G a.2.2.1 L) ++ ((zb_M G a.2.2.1 L) ++ ((zb_L G a.2.2.2.1 Z) ++ zb_M G a.2.2.2.1 Z))))) H := zk_Pperm hP List.perm_append_comm
    have hD : va_D A (zb_o G q fo ++ ((zb_5 G a) ++ ((zb_L G a.2.2.1 L) ++ ((zb_M G a.2.2.1 L) ++ ((zb_L G a.2.2.2.1 Z) ++ zb_M G a.2.2.2.1 Z))))) := zk_Dperm hD List.perm_append_comm
    refine lv_astore_n (lv' := [(3, .ref q9), (0, .ref a.1), (1, .int pr), (2, .ref q)]) hx hb dL_ifPrice_12 rfl hl (by decide) rfl (fun ls hl => ?_)
    refine lv_iconst (v := nI 1) hx hb dL_ifPrice_13 (by decide) ?_
    rw [hQ]
    refine vx_ret ?_
    exact zk_reti (none, fo) rfl hx hb hr hlocks hS hP hD (Nat.le_of_ble_eq_true rfl) (Nat.le_of_ble_eq_true rfl) dL_ifPrice_14 (⟨rfl, "java/lang/IllegalArgumentException", hpx2, zc_2 _ _ _⟩)
  · have hP : va_P G.1 vwCl (zb_o G q fo ++ ((zb_5 G a) ++ ((zb_L G a.2.2.1 L) ++ ((zb_M G a.2.2.1 L) ++ ((zb_L G a.2.2.2.1 u) ++ zb_M G a.2.2.2.1 u))))) H := zk_Pperm hP List.perm_append_comm
    have hD : va_D A (zb_o G q fo ++ ((zb_5 G a) ++ ((zb_L G a.2.2.1 L) ++ ((zb_M G a.2.2.1 L) ++ ((zb_L G a.2.2.2.1 u) ++ zb_M G a.2.2.2.1 u))))) := zk_Dperm hD List.perm_append_comm
    refine lv_i2l (v := r.toInt64) hx hb dL_ifPrice_7 rfl ?_
    refine va_last hx hb hK hP hD hS 0 3 rfl rfl (vp_in_nI (by decide) (by decide)) dL_ifPrice_8 (fun H locs hP hD hS => ?_)
    rw [nI_clamp (by decide)] at hP hD
    have hP : va_P G.1 vwCl (zb_o G q (vp_updL fo 0 r.toInt64) ++ ((zb_5 G a) ++ ((zb_L G a.2.2.1 L) ++ ((zb_M G a.2.2.1 L) ++ ((zb_L G a.2.2.2.1 u) ++ zb_M G a.2.2.2.1 u))))) H := hP
    have hD : va_D A (zb_o G q (vp_updL fo 0 r.toInt64) ++ ((zb_5 G a) ++ ((zb_L G a.2.2.1 L) ++ ((zb_M G a.2.2.1 L) ++ ((zb_L G a.2.2.2.1 u) ++ zb_M G a.2.2.2.1 u))))) := hD
    refine lv_goto (tgt := 15) hx hb dL_ifPrice_9 (by decide) ?_
    refine lv_iconst (v := nI 0) hx hb dL_ifPrice_15 (by decide) ?_
    rw [hQ]
    refine vx_ret ?_
    exact zk_reti (some u, vp_updL fo 0 r.toInt64) rfl hx hb hr hlocks hS hP hD (Nat.le_of_ble_eq_true rfl) (Nat.le_of_ble_eq_true rfl) dL_ifPrice_16 (⟨rfl, r, hpost, rfl⟩)

abbrev rmL_runScript : Room := { frames := 9, cells := 1, slots := 6, locals := 207 }
set_option maxHeartbeats 4000000 in
set_option maxRecDepth 100000 in
theorem c_L_runScript (l : Launch) (G : zk_G) (hst : l.stackTraces = false) (a : zA) (L : zL) (n t : Nat) (hI : sInv L n t) (nn : Int32) (sc : Int64) (Z : zL) (q : Nat) (fo : Nat → Int64) : zk_IH (S := Option (zL) × (Nat → Int64)) l yL_runScript wsL_runScript rmL_runScript G [.ref a.1, .int nn, .long sc, .ref q] (zb_o G q fo ++ ((zb_5 G a) ++ ((zb_L G a.2.2.1 L) ++ ((zb_M G a.2.2.1 L) ++ ((zb_L G a.2.2.2.1 Z) ++ zb_M G a.2.2.2.1 Z))))) (fun r u => match u.1 with | some v0 => r = nI 0 ∧ ∃ an, (fun r _ => ¬ nn < nI 1 ∧ ¬ nI 3 < nn ∧ ¬ sc < lN 0 ∧ ¬ lN 0 < wLg sc nn.toNatClampNeg ∧ r = sOpt (rRun L sc nn.toNatClampNeg nn.toNatClampNeg).1) an v0 ∧ u.2 = vp_updL fo 0 an.toInt64 | none => u.2 = fo ∧ ∃ E, (fun E => E = "java/lang/IllegalArgumentException" ∧ (nn < nI 1 ∨ nI 3 < nn ∨ sc < lN 0 ∨ lN 0 < wLg sc nn.toNatClampNeg)) E ∧ zcode E (nI 0) (nI 1) (nI 0) r) (fun u => zb_o G q u.2 ++ (match u.1 with | some v0 => (zb_5 G a) ++ ((zb_L G a.2.2.1 L) ++ ((zb_M G a.2.2.1 L) ++ ((zb_L G a.2.2.2.1 v0) ++ zb_M G a.2.2.2.1 v0))) | none => (zb_5 G a) ++ ((zb_L G a.2.2.1 L) ++ ((zb_M G a.2.2.1 L) ++ ((zb_L G a.2.2.2.1 Z) ++ zb_M G a.2.2.2.1 Z))))) := by
  refine zk_bodyIH (cc := cL_runScript) (maxL := 6) (ret := (some .int)) (hh := [(0, 11, 14, 13)]) (by decide) rfl (Nat.le_of_ble_eq_true rfl) ?_
  intro p E0 s m args below meth cd A ls Q hF hNC hTab hQ
  obtain ⟨hx, hb, hml, hr, hts, hown, hlocks, -, hE, hP, hD, hS, hA, hA0, hl⟩ := hF
  have hK := hE.1
  have hl : lv_has ls 6 [(0, .ref a.1), (1, .int nn), (2, .long sc), (4, .ref q)] := hl
  have w1 := hts _ (List.mem_of_getElem? (l := wsL_runScript) (i := 1) (a := Cond.classLink RL 13 "java/lang/IllegalArgumentException") rfl)
  refine lv_aload hx hb dL_runScript_0 (lv_at hl 3 rfl) ?_
  refine lv_iconst (v := nI 0) hx hb dL_runScript_2 (by decide) ?_
  refine lv_aload_n hx hb dL_runScript_3 rfl (lv_at hl 0 rfl) ?_
  refine lv_iload_n hx hb dL_runScript_4 rfl (lv_at hl 1 rfl) ?_
  refine lv_lload_n hx hb dL_runScript_5 rfl (lv_at hl 2 rfl) ?_
  have hP0 : va_P G.1 vwCl (((zb_5 G a) ++ ((zb_L G a.2.2.1 L) ++ ((zb_M G a.2.2.1 L) ++ ((zb_L G a.2.2.2.1 Z) ++ zb_M G a.2.2.2.1 Z)))) ++ zb_o G q fo) s.heap := zk_Pperm hP List.perm_append_comm
  have hD0 : va_D A (((zb_5 G a) ++ ((zb_L G a.2.2.1 L) ++ ((zb_M G a.2.2.1 L) ++ ((zb_L G a.2.2.2.1 Z) ++ zb_M G a.2.2.2.1 Z)))) ++ zb_o G q fo) := zk_Dperm hD List.perm_append_comm
  refine zk_callXIc (wr := zb_o G q fo) (vx_runV (As := [.int nn, .long sc]) (rest := [.int (nI 0), .ref q]) ⟨hx, hb, hml, hown, hts⟩ (c_X5_runScript l G hst a L n t hI nn sc Z _) (cwV 2 hts gL_runScript_X5_runScript rfl rfl rfl (by decide +kernel) ⟨Nat.le_of_ble_eq_true rfl, Nat.le_of_ble_eq_true rfl⟩) (zk_preV hE hA0 hS (zk_Papp hP0).1 (zk_Dapp hD0).1 (va_recv hK hP0 (ci := 4) (q0 := 0) rfl rfl)) rfl rfl hl.1 rfl (lv_room (Nat.le_of_ble_eq_true rfl)) dL_runScript_6 ⟨Nat.le_of_ble_eq_true rfl, Nat.le_of_ble_eq_true rfl⟩) hP0 hD0 hS hA (fun E ce q9 H locs hpx hP hD hS hce hcv hcl => ?_) (fun r u H locs hpost hP hD hS => ?_)
  · have hpx2 := hpx
    obtain ⟨rfl, hno⟩ := hpx
    refine vx_catch hown [] ⟨0, 11, 14, 13⟩ [] (by rw [hTab]; rfl) (fun z hz => absurd hz List.not_mem_nil) (by decide) (by decide) w1 (va_Nw.use rfl hE.2.1.2.2.2.2.2.2.2.2.2.2.2.1) hce hcv hcl ?_
    have hP : va_P G.1 vwCl (zb_o G q fo ++ ((zb_5 G a) ++ ((zb_L G a.2.2.1 L) ++ ((zb_M G a.2.2.1 L) ++ ((zb_L G a.2.2.2.1 Z) ++ zb_M G a.2.2.2.1 Z))))) H := zk_Pperm hP List.perm_append_comm
    have hD : va_D A (zb_o G q fo ++ ((zb_5 G a) ++ ((zb_L G a.2.2.1 L) ++ ((zb_M G a.2.2.1 L) ++ ((zb_L G a.2.2.2.1 Z) ++ zb_M G a.2.2.2.1 Z))))) := zk_Dperm hD List.perm_append_comm
    refine lv_astore (lv' := [(5, .ref q9), (0, .ref a.1), (1, .int nn), (2, .long sc), (4, .ref q)]) hx hb dL_runScript_14 hl (by decide) rfl (fun ls hl => ?_)
    refine lv_iconst (v := nI 1) hx hb dL_runScript_16 (by decide) ?_
    rw [hQ]
    refine vx_ret ?_
    exact zk_reti (none, fo) rfl hx hb hr hlocks hS hP hD (Nat.le_of_ble_eq_true rfl) (Nat.le_of_ble_eq_true rfl) dL_runScript_17 (⟨rfl, "java/lang/IllegalArgumentException", hpx2, zc_2 _ _ _⟩)
  · have hP : va_P G.1 vwCl (zb_o G q fo ++ ((zb_5 G a) ++ ((zb_L G a.2.2.1 L) ++ ((zb_M G a.2.2.1 L) ++ ((zb_L G a.2.2.2.1 u) ++ zb_M G a.2.2.2.1 u))))) H := zk_Pperm hP List.perm_append_comm
    have hD : va_D A (zb_o G q fo ++ ((zb_5 G a) ++ ((zb_L G a.2.2.1 L) ++ ((zb_M G a.2.2.1 L) ++ ((zb_L G a.2.2.2.1 u) ++ zb_M G a.2.2.2.1 u))))) := zk_Dperm hD List.perm_append_comm
    refine lv_i2l (v := r.toInt64) hx hb dL_runScript_9 rfl ?_
    refine va_last hx hb hK hP hD hS 0 3 rfl rfl (vp_in_nI (by decide) (by decide)) dL_runScript_10 (fun H locs hP hD hS => ?_)
    rw [nI_clamp (by decide)] at hP hD
    have hP : va_P G.1 vwCl (zb_o G q (vp_updL fo 0 r.toInt64) ++ ((zb_5 G a) ++ ((zb_L G a.2.2.1 L) ++ ((zb_M G a.2.2.1 L) ++ ((zb_L G a.2.2.2.1 u) ++ zb_M G a.2.2.2.1 u))))) H := hP
    have hD : va_D A (zb_o G q (vp_updL fo 0 r.toInt64) ++ ((zb_5 G a) ++ ((zb_L G a.2.2.1 L) ++ ((zb_M G a.2.2.1 L) ++ ((zb_L G a.2.2.2.1 u) ++ zb_M G a.2.2.2.1 u))))) := hD
    refine lv_goto (tgt := 18) hx hb dL_runScript_11 (by decide) ?_
    refine lv_iconst (v := nI 0) hx hb dL_runScript_18 (by decide) ?_
    rw [hQ]
    refine vx_ret ?_
    exact zk_reti (some u, vp_updL fo 0 r.toInt64) rfl hx hb hr hlocks hS hP hD (Nat.le_of_ble_eq_true rfl) (Nat.le_of_ble_eq_true rfl) dL_runScript_19 (⟨rfl, r, hpost, rfl⟩)

abbrev rmL_simulate : Room := { frames := 9, cells := 1, slots := 6, locals := 207 }
set_option maxHeartbeats 4000000 in
set_option maxRecDepth 100000 in
theorem c_L_simulate (l : Launch) (G : zk_G) (hst : l.stackTraces = false) (a : zA) (L : zL) (n t : Nat) (hI : sInv L n t) (seed : Int64) (mm : Int32) (Z : zL) (q : Nat) (fo : Nat → Int64) : zk_IH (S := Option (zL) × (Nat → Int64)) l yL_simulate wsL_simulate rmL_simulate G [.ref a.1, .long seed, .int mm, .ref q] (zb_o G q fo ++ ((zb_5 G a) ++ ((zb_L G a.2.2.1 L) ++ ((zb_M G a.2.2.1 L) ++ ((zb_L G a.2.2.2.1 Z) ++ zb_M G a.2.2.2.1 Z))))) (fun r u => match u.1 with | some v0 => r = nI 0 ∧ ∃ an, (fun r _ => ¬ mm < nI 1 ∧ ¬ nI 99 < mm ∧ r = nI 1000 * (mSrv (mRun L seed mm.toNatClampNeg).2 - mSrv L) + (mRef (mRun L seed mm.toNatClampNeg).2 - mRef L)) an v0 ∧ u.2 = vp_updL fo 0 an.toInt64 | none => u.2 = fo ∧ ∃ E, (fun E => E = "java/lang/IllegalArgumentException" ∧ (mm < nI 1 ∨ nI 99 < mm)) E ∧ zcode E (nI 0) (nI 1) (nI 0) r) (fun u => zb_o G q u.2 ++ (match u.1 with | some v0 => (zb_5 G a) ++ ((zb_L G a.2.2.1 L) ++ ((zb_M G a.2.2.1 L) ++ ((zb_L G a.2.2.2.1 v0) ++ zb_M G a.2.2.2.1 v0))) | none => (zb_5 G a) ++ ((zb_L G a.2.2.1 L) ++ ((zb_M G a.2.2.1 L) ++ ((zb_L G a.2.2.2.1 Z) ++ zb_M G a.2.2.2.1 Z))))) := by
  refine zk_bodyIH (cc := cL_simulate) (maxL := 6) (ret := (some .int)) (hh := [(0, 11, 14, 13)]) (by decide) rfl (Nat.le_of_ble_eq_true rfl) ?_
  intro p E0 s m args below meth cd A ls Q hF hNC hTab hQ
  obtain ⟨hx, hb, hml, hr, hts, hown, hlocks, -, hE, hP, hD, hS, hA, hA0, hl⟩ := hF
  have hK := hE.1
  have hl : lv_has ls 6 [(0, .ref a.1), (1, .long seed), (3, .int mm), (4, .ref q)] := hl
  have w1 := hts _ (List.mem_of_getElem? (l := wsL_simulate) (i := 1) (a := Cond.classLink RL 13 "java/lang/IllegalArgumentException") rfl)
  refine lv_aload hx hb dL_simulate_0 (lv_at hl 3 rfl) ?_
  refine lv_iconst (v := nI 0) hx hb dL_simulate_2 (by decide) ?_
  refine lv_aload_n hx hb dL_simulate_3 rfl (lv_at hl 0 rfl) ?_
  refine lv_lload_n hx hb dL_simulate_4 rfl (lv_at hl 1 rfl) ?_
  refine lv_iload_n hx hb dL_simulate_5 rfl (lv_at hl 2 rfl) ?_
  have hP0 : va_P G.1 vwCl (((zb_5 G a) ++ ((zb_L G a.2.2.1 L) ++ ((zb_M G a.2.2.1 L) ++ ((zb_L G a.2.2.2.1 Z) ++ zb_M G a.2.2.2.1 Z)))) ++ zb_o G q fo) s.heap := zk_Pperm hP List.perm_append_comm
  have hD0 : va_D A (((zb_5 G a) ++ ((zb_L G a.2.2.1 L) ++ ((zb_M G a.2.2.1 L) ++ ((zb_L G a.2.2.2.1 Z) ++ zb_M G a.2.2.2.1 Z)))) ++ zb_o G q fo) := zk_Dperm hD List.perm_append_comm
  refine zk_callXIc (wr := zb_o G q fo) (vx_runV (As := [.long seed, .int mm]) (rest := [.int (nI 0), .ref q]) ⟨hx, hb, hml, hown, hts⟩ (c_X5_simulate l G hst a L n t hI seed mm Z _) (cwV 2 hts gL_simulate_X5_simulate rfl rfl rfl (by decide +kernel) ⟨Nat.le_of_ble_eq_true rfl, Nat.le_of_ble_eq_true rfl⟩) (zk_preV hE hA0 hS (zk_Papp hP0).1 (zk_Dapp hD0).1 (va_recv hK hP0 (ci := 4) (q0 := 0) rfl rfl)) rfl rfl hl.1 rfl (lv_room (Nat.le_of_ble_eq_true rfl)) dL_simulate_6 ⟨Nat.le_of_ble_eq_true rfl, Nat.le_of_ble_eq_true rfl⟩) hP0 hD0 hS hA (fun E ce q9 H locs hpx hP hD hS hce hcv hcl => ?_) (fun r u H locs hpost hP hD hS => ?_)
  · have hpx2 := hpx
    obtain ⟨rfl, hno⟩ := hpx
    refine vx_catch hown [] ⟨0, 11, 14, 13⟩ [] (by rw [hTab]; rfl) (fun z hz => absurd hz List.not_mem_nil) (by decide) (by decide) w1 (va_Nw.use rfl hE.2.1.2.2.2.2.2.2.2.2.2.2.2.1) hce hcv hcl ?_
    have hP : va_P G.1 vwCl (zb_o G q fo ++ ((zb_5 G a) ++ ((zb_L G a.2.2.1 L) ++ ((zb_M G a.2.2.1 L) ++ ((zb_L G a.2.2.2.1 Z) ++ zb_M G a.2.2.2.1 Z))))) H := zk_Pperm hP List.perm_append_comm
    have hD : va_D A (zb_o G q fo ++ ((zb_5 G a) ++ ((zb_L G a.2.2.1 L) ++ ((zb_M G a.2.2.1 L) ++ ((zb_L G a.2.2.2.1 Z) ++ zb_M G a.2.2.2.1 Z))))) := zk_Dperm hD List.perm_append_comm
    refine lv_astore (lv' := [(5, .ref q9), (0, .ref a.1), (1, .long seed), (3, .int mm), (4, .ref q)]) hx hb dL_simulate_14 hl (by decide) rfl (fun ls hl => ?_)
    refine lv_iconst (v := nI 1) hx hb dL_simulate_16 (by decide) ?_
    rw [hQ]
    refine vx_ret ?_
    exact zk_reti (none, fo) rfl hx hb hr hlocks hS hP hD (Nat.le_of_ble_eq_true rfl) (Nat.le_of_ble_eq_true rfl) dL_simulate_17 (⟨rfl, "java/lang/IllegalArgumentException", hpx2, zc_2 _ _ _⟩)
  · have hP : va_P G.1 vwCl (zb_o G q fo ++ ((zb_5 G a) ++ ((zb_L G a.2.2.1 L) ++ ((zb_M G a.2.2.1 L) ++ ((zb_L G a.2.2.2.1 u) ++ zb_M G a.2.2.2.1 u))))) H := zk_Pperm hP List.perm_append_comm
    have hD : va_D A (zb_o G q fo ++ ((zb_5 G a) ++ ((zb_L G a.2.2.1 L) ++ ((zb_M G a.2.2.1 L) ++ ((zb_L G a.2.2.2.1 u) ++ zb_M G a.2.2.2.1 u))))) := zk_Dperm hD List.perm_append_comm
    refine lv_i2l (v := r.toInt64) hx hb dL_simulate_9 rfl ?_
    refine va_last hx hb hK hP hD hS 0 3 rfl rfl (vp_in_nI (by decide) (by decide)) dL_simulate_10 (fun H locs hP hD hS => ?_)
    rw [nI_clamp (by decide)] at hP hD
    have hP : va_P G.1 vwCl (zb_o G q (vp_updL fo 0 r.toInt64) ++ ((zb_5 G a) ++ ((zb_L G a.2.2.1 L) ++ ((zb_M G a.2.2.1 L) ++ ((zb_L G a.2.2.2.1 u) ++ zb_M G a.2.2.2.1 u))))) H := hP
    have hD : va_D A (zb_o G q (vp_updL fo 0 r.toInt64) ++ ((zb_5 G a) ++ ((zb_L G a.2.2.1 L) ++ ((zb_M G a.2.2.1 L) ++ ((zb_L G a.2.2.2.1 u) ++ zb_M G a.2.2.2.1 u))))) := hD
    refine lv_goto (tgt := 18) hx hb dL_simulate_11 (by decide) ?_
    refine lv_iconst (v := nI 0) hx hb dL_simulate_18 (by decide) ?_
    rw [hQ]
    refine vx_ret ?_
    exact zk_reti (some u, vp_updL fo 0 r.toInt64) rfl hx hb hr hlocks hS hP hD (Nat.le_of_ble_eq_true rfl) (Nat.le_of_ble_eq_true rfl) dL_simulate_19 (⟨rfl, r, hpost, rfl⟩)

abbrev rmL_save : Room := { frames := 7, cells := 1, slots := 6, locals := 103 }
set_option maxHeartbeats 4000000 in
set_option maxRecDepth 100000 in
theorem c_L_save (l : Launch) (G : zk_G) (hst : l.stackTraces = false) (a : zA) (L : zL) (n t : Nat) (hI : sInv L n t) (sl : Int32) (sv : Nat → Int32) (SL : Nat → zL) (q : Nat) (fo : Nat → Int64) : zk_IH (S := Option ((Nat → Int32) × (Nat → zL)) × (Nat → Int64)) l yL_save wsL_save rmL_save G [.ref a.1, .int sl, .ref q] (zb_o G q fo ++ ((zb_5 G a) ++ ((zb_L G a.2.2.1 L) ++ ((zb_M G a.2.2.1 L) ++ ((zb_S G a sv) ++ zb_P G a.2.2.2.2.2.2.2 SL 2))))) (fun r u => match u.1 with | some v0 => r = nI 0 ∧ ∃ an, (fun r u => ¬ sl < 0 ∧ sl < nI 2 ∧ r = nI t ∧ u.1 = upd sv sl.toNatClampNeg (nI 1) ∧ u.2 = va_up SL sl.toNatClampNeg L) an v0 ∧ u.2 = vp_updL fo 0 an.toInt64 | none => u.2 = fo ∧ ∃ E, (fun E => E = "java/lang/IndexOutOfBoundsException" ∧ (sl < 0 ∨ ¬ sl < nI 2)) E ∧ zcode E (nI 1) (nI 0) (nI 0) r) (fun u => zb_o G q u.2 ++ (match u.1 with | some v0 => (zb_5 G a) ++ ((zb_L G a.2.2.1 L) ++ ((zb_M G a.2.2.1 L) ++ ((zb_S G a v0.1) ++ zb_P G a.2.2.2.2.2.2.2 v0.2 2))) | none => (zb_5 G a) ++ ((zb_L G a.2.2.1 L) ++ ((zb_M G a.2.2.1 L) ++ ((zb_S G a sv) ++ zb_P G a.2.2.2.2.2.2.2 SL 2))))) := by
  refine zk_bodyIH (cc := cL_save) (maxL := 4) (ret := (some .int)) (hh := [(0, 9, 12, 28)]) (by decide) rfl (Nat.le_of_ble_eq_true rfl) ?_
  intro p E0 s m args below meth cd A ls Q hF hNC hTab hQ
  obtain ⟨hx, hb, hml, hr, hts, hown, hlocks, -, hE, hP, hD, hS, hA, hA0, hl⟩ := hF
  have hK := hE.1
  have hl : lv_has ls 4 [(0, .ref a.1), (1, .int sl), (2, .ref q)] := hl
  have w1 := hts _ (List.mem_of_getElem? (l := wsL_save) (i := 1) (a := Cond.classLink RL 28 "java/lang/IndexOutOfBoundsException") rfl)
  refine lv_aload_n hx hb dL_save_0 rfl (lv_at hl 2 rfl) ?_
  refine lv_iconst (v := nI 0) hx hb dL_save_1 (by decide) ?_
  refine lv_aload_n hx hb dL_save_2 rfl (lv_at hl 0 rfl) ?_
  refine lv_iload_n hx hb dL_save_3 rfl (lv_at hl 1 rfl) ?_
  have hP0 : va_P G.1 vwCl (((zb_5 G a) ++ ((zb_L G a.2.2.1 L) ++ ((zb_M G a.2.2.1 L) ++ ((zb_S G a sv) ++ zb_P G a.2.2.2.2.2.2.2 SL 2)))) ++ zb_o G q fo) s.heap := zk_Pperm hP List.perm_append_comm
  have hD0 : va_D A (((zb_5 G a) ++ ((zb_L G a.2.2.1 L) ++ ((zb_M G a.2.2.1 L) ++ ((zb_S G a sv) ++ zb_P G a.2.2.2.2.2.2.2 SL 2)))) ++ zb_o G q fo) := zk_Dperm hD List.perm_append_comm
  refine zk_callXIc (wr := zb_o G q fo) (vx_runV (As := [.int sl]) (rest := [.int (nI 0), .ref q]) ⟨hx, hb, hml, hown, hts⟩ (c_X5_save l G hst a L n t hI sl sv SL _) (cwV 1 hts gL_save_X5_save rfl rfl rfl (by decide +kernel) ⟨Nat.le_of_ble_eq_true rfl, Nat.le_of_ble_eq_true rfl⟩) (zk_preV hE hA0 hS (zk_Papp hP0).1 (zk_Dapp hD0).1 (va_recv hK hP0 (ci := 4) (q0 := 0) rfl rfl)) rfl rfl hl.1 rfl (lv_room (Nat.le_of_ble_eq_true rfl)) dL_save_4 ⟨Nat.le_of_ble_eq_true rfl, Nat.le_of_ble_eq_true rfl⟩) hP0 hD0 hS hA (fun E ce q9 H locs hpx hP hD hS hce hcv hcl => ?_) (fun r u H locs hpost hP hD hS => ?_)
  · have hpx2 := hpx
    obtain ⟨rfl, hno⟩ := hpx
    refine vx_catch hown [] ⟨0, 9, 12, 28⟩ [] (by rw [hTab]; rfl) (fun z hz => absurd hz List.not_mem_nil) (by decide) (by decide) w1 (va_Nw.use rfl hE.2.1.2.2.2.2.2.2.2.2.2.2.1) hce hcv hcl ?_
    have hP : va_P G.1 vwCl (zb_o G q fo ++ ((zb_5 G a) ++ ((zb_L G a.2.2.1 L) ++ ((zb_M G a.2.2.1 L) ++ ((zb_S G a sv) ++ zb_P G a.2.2.2.2.2.2.2 SL 2))))) H := zk_Pperm hP List.perm_append_comm
    have hD : va_D A (zb_o G q fo ++ ((zb_5 G a) ++ ((zb_L G a.2.2.1 L) ++ ((zb_M G a.2.2.1 L) ++ ((zb_S G a sv) ++ zb_P G a.2.2.2.2.2.2.2 SL 2))))) := zk_Dperm hD List.perm_append_comm
    refine lv_astore_n (lv' := [(3, .ref q9), (0, .ref a.1), (1, .int sl), (2, .ref q)]) hx hb dL_save_12 rfl hl (by decide) rfl (fun ls hl => ?_)
    refine lv_iconst (v := nI 1) hx hb dL_save_13 (by decide) ?_
    rw [hQ]
    refine vx_ret ?_
    exact zk_reti (none, fo) rfl hx hb hr hlocks hS hP hD (Nat.le_of_ble_eq_true rfl) (Nat.le_of_ble_eq_true rfl) dL_save_14 (⟨rfl, "java/lang/IndexOutOfBoundsException", hpx2, zc_1 _ _ _⟩)
  · have hP : va_P G.1 vwCl (zb_o G q fo ++ ((zb_5 G a) ++ ((zb_L G a.2.2.1 L) ++ ((zb_M G a.2.2.1 L) ++ ((zb_S G a u.1) ++ zb_P G a.2.2.2.2.2.2.2 u.2 2))))) H := zk_Pperm hP List.perm_append_comm
    have hD : va_D A (zb_o G q fo ++ ((zb_5 G a) ++ ((zb_L G a.2.2.1 L) ++ ((zb_M G a.2.2.1 L) ++ ((zb_S G a u.1) ++ zb_P G a.2.2.2.2.2.2.2 u.2 2))))) := zk_Dperm hD List.perm_append_comm
    refine lv_i2l (v := r.toInt64) hx hb dL_save_7 rfl ?_
    refine va_last hx hb hK hP hD hS 0 3 rfl rfl (vp_in_nI (by decide) (by decide)) dL_save_8 (fun H locs hP hD hS => ?_)
    rw [nI_clamp (by decide)] at hP hD
    have hP : va_P G.1 vwCl (zb_o G q (vp_updL fo 0 r.toInt64) ++ ((zb_5 G a) ++ ((zb_L G a.2.2.1 L) ++ ((zb_M G a.2.2.1 L) ++ ((zb_S G a u.1) ++ zb_P G a.2.2.2.2.2.2.2 u.2 2))))) H := hP
    have hD : va_D A (zb_o G q (vp_updL fo 0 r.toInt64) ++ ((zb_5 G a) ++ ((zb_L G a.2.2.1 L) ++ ((zb_M G a.2.2.1 L) ++ ((zb_S G a u.1) ++ zb_P G a.2.2.2.2.2.2.2 u.2 2))))) := hD
    refine lv_goto (tgt := 15) hx hb dL_save_9 (by decide) ?_
    refine lv_iconst (v := nI 0) hx hb dL_save_15 (by decide) ?_
    rw [hQ]
    refine vx_ret ?_
    exact zk_reti (some u, vp_updL fo 0 r.toInt64) rfl hx hb hr hlocks hS hP hD (Nat.le_of_ble_eq_true rfl) (Nat.le_of_ble_eq_true rfl) dL_save_16 (⟨rfl, r, hpost, rfl⟩)

abbrev rmL_restore : Room := { frames := 7, cells := 1, slots := 6, locals := 103 }
set_option maxHeartbeats 4000000 in
set_option maxRecDepth 100000 in
theorem c_L_restore (l : Launch) (G : zk_G) (hst : l.stackTraces = false) (a : zA) (L : zL) (n t : Nat) (hI : sInv L n t) (sl : Int32) (sv : Nat → Int32) (SL : Nat → zL) (S : Nat → zL) (o cn : Nat) (ho : o < 14) (hcn : cn ≤ 14) (q : Nat) (fo : Nat → Int64) : zk_IH (S := Option (zL) × (Nat → Int64)) l yL_restore wsL_restore rmL_restore G [.ref a.1, .int sl, .ref q] (zb_o G q fo ++ ((zb_5 G a) ++ ((zb_L G a.2.2.1 L) ++ ((zb_M G a.2.2.1 L) ++ ((zb_S G a sv) ++ ((zb_P G a.2.2.2.2.2.2.2 SL 2) ++ zb_H G a.2.2.2.2.1.1 a.2.2.2.2.1.2.1 a.2.2.2.2.1.2.2 S (nI o) (nI cn))))))) (fun r u => match u.1 with | some v0 => r = nI 0 ∧ ∃ an, (fun r u => ¬ sl < 0 ∧ sl < nI 2 ∧ ¬ sv sl.toNatClampNeg = 0 ∧ r = u 0 0 ∧ u = SL sl.toNatClampNeg) an v0 ∧ u.2 = vp_updL fo 0 an.toInt64 | none => u.2 = fo ∧ ∃ E, (fun E => (E = "java/lang/IndexOutOfBoundsException" ∧ (sl < 0 ∨ ¬ sl < nI 2)) ∨ (E = "java/lang/IllegalStateException" ∧ ¬ sl < 0 ∧ sl < nI 2 ∧ sv sl.toNatClampNeg = 0)) E ∧ zcode E (nI 1) (nI 0) (nI 2) r) (fun u => zb_o G q u.2 ++ (match u.1 with | some v0 => (zb_5 G a) ++ ((zb_L G a.2.2.1 v0) ++ ((zb_M G a.2.2.1 v0) ++ ((zb_S G a sv) ++ ((zb_P G a.2.2.2.2.2.2.2 SL 2) ++ zb_H G a.2.2.2.2.1.1 a.2.2.2.2.1.2.1 a.2.2.2.2.1.2.2 S (nI o) (nI 0))))) | none => (zb_5 G a) ++ ((zb_L G a.2.2.1 L) ++ ((zb_M G a.2.2.1 L) ++ ((zb_S G a sv) ++ ((zb_P G a.2.2.2.2.2.2.2 SL 2) ++ zb_H G a.2.2.2.2.1.1 a.2.2.2.2.1.2.1 a.2.2.2.2.1.2.2 S (nI o) (nI cn))))))) := by
  refine zk_bodyIH (cc := cL_restore) (maxL := 4) (ret := (some .int)) (hh := [(0, 9, 12, 28), (0, 9, 15, 15)]) (by decide) rfl (Nat.le_of_ble_eq_true rfl) ?_
  intro p E0 s m args below meth cd A ls Q hF hNC hTab hQ
  obtain ⟨hx, hb, hml, hr, hts, hown, hlocks, -, hE, hP, hD, hS, hA, hA0, hl⟩ := hF
  have hK := hE.1
  have hl : lv_has ls 4 [(0, .ref a.1), (1, .int sl), (2, .ref q)] := hl
  have w1 := hts _ (List.mem_of_getElem? (l := wsL_restore) (i := 1) (a := Cond.classLink RL 28 "java/lang/IndexOutOfBoundsException") rfl)
  have w2 := hts _ (List.mem_of_getElem? (l := wsL_restore) (i := 2) (a := Cond.classLink RL 15 "java/lang/IllegalStateException") rfl)
  refine lv_aload_n hx hb dL_restore_0 rfl (lv_at hl 2 rfl) ?_
  refine lv_iconst (v := nI 0) hx hb dL_restore_1 (by decide) ?_
  refine lv_aload_n hx hb dL_restore_2 rfl (lv_at hl 0 rfl) ?_
  refine lv_iload_n hx hb dL_restore_3 rfl (lv_at hl 1 rfl) ?_
  have hP0 : va_P G.1 vwCl (((zb_5 G a) ++ ((zb_L G a.2.2.1 L) ++ ((zb_M G a.2.2.1 L) ++ ((zb_S G a sv) ++ ((zb_P G a.2.2.2.2.2.2.2 SL 2) ++ zb_H G a.2.2.2.2.1.1 a.2.2.2.2.1.2.1 a.2.2.2.2.1.2.2 S (nI o) (nI cn)))))) ++ zb_o G q fo) s.heap := zk_Pperm hP List.perm_append_comm
  have hD0 : va_D A (((zb_5 G a) ++ ((zb_L G a.2.2.1 L) ++ ((zb_M G a.2.2.1 L) ++ ((zb_S G a sv) ++ ((zb_P G a.2.2.2.2.2.2.2 SL 2) ++ zb_H G a.2.2.2.2.1.1 a.2.2.2.2.1.2.1 a.2.2.2.2.1.2.2 S (nI o) (nI cn)))))) ++ zb_o G q fo) := zk_Dperm hD List.perm_append_comm
  refine zk_callXIc (wr := zb_o G q fo) (vx_runV (As := [.int sl]) (rest := [.int (nI 0), .ref q]) ⟨hx, hb, hml, hown, hts⟩ (c_X5_restore l G hst a L n t hI sl sv SL S o cn ho hcn _) (cwV 1 hts gL_restore_X5_restore rfl rfl rfl (by decide +kernel) ⟨Nat.le_of_ble_eq_true rfl, Nat.le_of_ble_eq_true rfl⟩) (zk_preV hE hA0 hS (zk_Papp hP0).1 (zk_Dapp hD0).1 (va_recv hK hP0 (ci := 4) (q0 := 0) rfl rfl)) rfl rfl hl.1 rfl (lv_room (Nat.le_of_ble_eq_true rfl)) dL_restore_4 ⟨Nat.le_of_ble_eq_true rfl, Nat.le_of_ble_eq_true rfl⟩) hP0 hD0 hS hA (fun E ce q9 H locs hpx hP hD hS hce hcv hcl => ?_) (fun r u H locs hpost hP hD hS => ?_)
  · have hpx2 := hpx
    rcases hpx with ⟨rfl, hno⟩ | ⟨rfl, hno⟩
    · refine vx_catch hown [] ⟨0, 9, 12, 28⟩ [⟨0, 9, 15, 15⟩] (by rw [hTab]; rfl) (fun z hz => absurd hz List.not_mem_nil) (by decide) (by decide) w1 (va_Nw.use rfl hE.2.1.2.2.2.2.2.2.2.2.2.2.1) hce hcv hcl ?_
      have hP : va_P G.1 vwCl (zb_o G q fo ++ ((zb_5 G a) ++ ((zb_L G a.2.2.1 L) ++ ((zb_M G a.2.2.1 L) ++ ((zb_S G a sv) ++ ((zb_P G a.2.2.2.2.2.2.2 SL 2) ++ zb_H G a.2.2.2.2.1.1 a.2.2.2.2.1.2.1 a.2.2.2.2.1.2.2 S (nI o) (nI cn))))))) H := zk_Pperm hP List.perm_append_comm
      have hD : va_D A (zb_o G q fo ++ ((zb_5 G a) ++ ((zb_L G a.2.2.1 L) ++ ((zb_M G a.2.2.1 L) ++ ((zb_S G a sv) ++ ((zb_P G a.2.2.2.2.2.2.2 SL 2) ++ zb_H G a.2.2.2.2.1.1 a.2.2.2.2.1.2.1 a.2.2.2.2.1.2.2 S (nI o) (nI cn))))))) := zk_Dperm hD List.perm_append_comm
      refine lv_astore_n (lv' := [(3, .ref q9), (0, .ref a.1), (1, .int sl), (2, .ref q)]) hx hb dL_restore_12 rfl hl (by decide) rfl (fun ls hl => ?_)
      refine lv_iconst (v := nI 1) hx hb dL_restore_13 (by decide) ?_
      rw [hQ]
      refine vx_ret ?_
      exact zk_reti (none, fo) rfl hx hb hr hlocks hS hP hD (Nat.le_of_ble_eq_true rfl) (Nat.le_of_ble_eq_true rfl) dL_restore_14 (⟨rfl, "java/lang/IndexOutOfBoundsException", hpx2, zc_1 _ _ _⟩)
    · refine vx_catch hown [⟨0, 9, 12, 28⟩] ⟨0, 9, 15, 15⟩ [] (by rw [hTab]; rfl) (List.forall_mem_cons.mpr ⟨Or.inr ⟨by decide, "java/lang/IndexOutOfBoundsException", w1, hNC.2.1.2⟩, fun z hz => absurd hz List.not_mem_nil⟩) (by decide) (by decide) w2 (va_Nw.use rfl hE.2.1.2.2.2.2.2.2.2.2.2.2.2.2) hce hcv hcl ?_
      have hP : va_P G.1 vwCl (zb_o G q fo ++ ((zb_5 G a) ++ ((zb_L G a.2.2.1 L) ++ ((zb_M G a.2.2.1 L) ++ ((zb_S G a sv) ++ ((zb_P G a.2.2.2.2.2.2.2 SL 2) ++ zb_H G a.2.2.2.2.1.1 a.2.2.2.2.1.2.1 a.2.2.2.2.1.2.2 S (nI o) (nI cn))))))) H := zk_Pperm hP List.perm_append_comm
      have hD : va_D A (zb_o G q fo ++ ((zb_5 G a) ++ ((zb_L G a.2.2.1 L) ++ ((zb_M G a.2.2.1 L) ++ ((zb_S G a sv) ++ ((zb_P G a.2.2.2.2.2.2.2 SL 2) ++ zb_H G a.2.2.2.2.1.1 a.2.2.2.2.1.2.1 a.2.2.2.2.1.2.2 S (nI o) (nI cn))))))) := zk_Dperm hD List.perm_append_comm
      refine lv_astore_n (lv' := [(3, .ref q9), (0, .ref a.1), (1, .int sl), (2, .ref q)]) hx hb dL_restore_15 rfl hl (by decide) rfl (fun ls hl => ?_)
      refine lv_iconst (v := nI 2) hx hb dL_restore_16 (by decide) ?_
      rw [hQ]
      refine vx_ret ?_
      exact zk_reti (none, fo) rfl hx hb hr hlocks hS hP hD (Nat.le_of_ble_eq_true rfl) (Nat.le_of_ble_eq_true rfl) dL_restore_17 (⟨rfl, "java/lang/IllegalStateException", hpx2, zc_3 _ _ _⟩)
  · have hP : va_P G.1 vwCl (zb_o G q fo ++ ((zb_5 G a) ++ ((zb_L G a.2.2.1 u) ++ ((zb_M G a.2.2.1 u) ++ ((zb_S G a sv) ++ ((zb_P G a.2.2.2.2.2.2.2 SL 2) ++ zb_H G a.2.2.2.2.1.1 a.2.2.2.2.1.2.1 a.2.2.2.2.1.2.2 S (nI o) (nI 0))))))) H := zk_Pperm hP List.perm_append_comm
    have hD : va_D A (zb_o G q fo ++ ((zb_5 G a) ++ ((zb_L G a.2.2.1 u) ++ ((zb_M G a.2.2.1 u) ++ ((zb_S G a sv) ++ ((zb_P G a.2.2.2.2.2.2.2 SL 2) ++ zb_H G a.2.2.2.2.1.1 a.2.2.2.2.1.2.1 a.2.2.2.2.1.2.2 S (nI o) (nI 0))))))) := zk_Dperm hD List.perm_append_comm
    refine lv_i2l (v := r.toInt64) hx hb dL_restore_7 rfl ?_
    refine va_last hx hb hK hP hD hS 0 3 rfl rfl (vp_in_nI (by decide) (by decide)) dL_restore_8 (fun H locs hP hD hS => ?_)
    rw [nI_clamp (by decide)] at hP hD
    have hP : va_P G.1 vwCl (zb_o G q (vp_updL fo 0 r.toInt64) ++ ((zb_5 G a) ++ ((zb_L G a.2.2.1 u) ++ ((zb_M G a.2.2.1 u) ++ ((zb_S G a sv) ++ ((zb_P G a.2.2.2.2.2.2.2 SL 2) ++ zb_H G a.2.2.2.2.1.1 a.2.2.2.2.1.2.1 a.2.2.2.2.1.2.2 S (nI o) (nI 0))))))) H := hP
    have hD : va_D A (zb_o G q (vp_updL fo 0 r.toInt64) ++ ((zb_5 G a) ++ ((zb_L G a.2.2.1 u) ++ ((zb_M G a.2.2.1 u) ++ ((zb_S G a sv) ++ ((zb_P G a.2.2.2.2.2.2.2 SL 2) ++ zb_H G a.2.2.2.2.1.1 a.2.2.2.2.1.2.1 a.2.2.2.2.1.2.2 S (nI o) (nI 0))))))) := hD
    refine lv_goto (tgt := 18) hx hb dL_restore_9 (by decide) ?_
    refine lv_iconst (v := nI 0) hx hb dL_restore_18 (by decide) ?_
    rw [hQ]
    refine vx_ret ?_
    exact zk_reti (some u, vp_updL fo 0 r.toInt64) rfl hx hb hr hlocks hS hP hD (Nat.le_of_ble_eq_true rfl) (Nat.le_of_ble_eq_true rfl) dL_restore_19 (⟨rfl, r, hpost, rfl⟩)
