/-! Cores through the law's acts; the script's ints; a new object. -/
section LP
variable {κ : zCo} {B : Int} {L : zL}
theorem kI_app (c : Int32) (h : kI B κ) : kI B (fAppend c κ).2 := by
  unfold fAppend
  by_cases w : c < 0 ∨ nI 255 < c
  · rw [zIf_t w]; exact h
  · rw [zIf_f w]
    by_cases w2 : kTn κ < 120
    · rw [zIf_t w2]; exact h
    · rw [zIf_f w2]; exact h
theorem kI_clr (h : kI B κ) : kI B (fClear κ).2 := h
theorem kI_load (h : kI B κ) (hB : 4809999 ≤ B) : kI B (fLoad κ).2 := by
  by_cases w : (tEr (zTc (kH κ) (kTn κ)) (kTn κ)).1 = true
  · have e := fLoad_yes (ch := kH κ) (n := kTn κ) (L := kL κ) (sv := kV κ) (SL := kB κ) (S := kS κ) (o := kO κ) (cn := kC κ) (T := zTc (kH κ) (kTn κ)) (zTc_1 _ _) w
    have e2 : (fLoad κ).2 = (kH κ, kTn κ, (lRun (tEr (zTc (kH κ) (kTn κ)) (kTn κ)).2.2 (kL κ) (kTn κ) 120).2.2, fun _ => nI 0, kB κ, kS κ, kO κ, 0) := congrArg Prod.snd e
    rw [e2]
    exact ⟨gE_mono (e_load _ (kL κ) (kTn κ) 120 (Nat.le_refl _)) (by omega), h.2.1, Nat.zero_le _, fun j hj => absurd hj (Nat.not_lt_zero j), fun j _ => Or.inl rfl⟩
  · have e := fLoad_no (ch := kH κ) (n := kTn κ) (L := kL κ) (sv := kV κ) (SL := kB κ) (S := kS κ) (o := kO κ) (cn := kC κ) (T := zTc (kH κ) (kTn κ)) (zTc_1 _ _) w
    have e2 : (fLoad κ).2 = κ := congrArg Prod.snd e
    rw [e2]
    exact h
theorem kI_undo (h : kI B κ) : kI B (fUndo κ).2 := by
  unfold fUndo
  by_cases w : kC κ = 0
  · rw [if_pos w]; exact h
  · rw [if_neg w]
    exact ⟨h.2.2.2.1 (kC κ - 1) (by omega), h.2.1, by show kC κ - 1 ≤ 14; have := h.2.2.1; omega, fun j hj => h.2.2.2.1 j (by have hj : j < kC κ - 1 := hj; omega), h.2.2.2.2⟩
theorem kI_keep (sl : Int32) (h : kI B κ) : kI B (fKeep sl κ).2 := by
  unfold fKeep
  by_cases w : sl < 0 ∨ ¬ sl < nI 2
  · rw [zIf_t w]; exact h
  · rw [zIf_f w]
    refine ⟨h.1, h.2.1, h.2.2.1, h.2.2.2.1, fun j hj => ?_⟩
    show upd (kV κ) sl.toNatClampNeg (nI 1) j = nI 0 ∨ gE B (va_up (kB κ) sl.toNatClampNeg (kL κ) j)
    by_cases e : j = sl.toNatClampNeg
    · subst e
      rw [yup_same]
      exact Or.inr h.1
    · rw [upd_ne _ _ e, yup_ne _ _ e]
      exact h.2.2.2.2 j hj
theorem kI_back (sl : Int32) (h : kI B κ) : kI B (fBack sl κ).2 := by
  unfold fBack
  by_cases w : sl < 0 ∨ ¬ sl < nI 2
  · rw [zIf_t w]; exact h
  · rw [zIf_f w]
    by_cases w2 : kV κ sl.toNatClampNeg = 0
    · rw [if_pos w2]; exact h
    · rw [if_neg w2]
      obtain ⟨q, hq, rfl⟩ := nI_of (x := sl) (fun z => w (Or.inl z))
      have hq2 : q < 2 := zk_lt hq (by decide) (Decidable.by_contra fun z => w (Or.inr z))
      rw [nI_clamp hq] at w2 ⊢
      exact ⟨(h.2.2.2.2 q hq2).resolve_left w2, h.2.1, Nat.zero_le _, fun j hj => absurd hj (Nat.not_lt_zero j), h.2.2.2.2⟩
theorem kI_come (h : kI B κ) (hB : 0 ≤ B) (f di : Int32) : kI (B + 40000) (fCome f di κ).2 := kI_act h (by omega) (fun z => gE_mono (e_come (gE_at h.1) hB z) (by omega)) (sfCome_v _ _ _)
theorem kI_menu (h : kI B κ) (hB : 0 ≤ B) (d mn : Int32) : kI (B + 40000) (fMenu d mn κ).2 := kI_act h (by omega) (fun z => gE_mono (e_menu (gE_at h.1) z) (by omega)) (sfMenu_v _ _ _)
theorem kI_order (h : kI B κ) (hB : 0 ≤ B) (c d b : Int32) : kI (B + 40000) (fOrder c d b κ).2 := kI_act h (by omega) (fun z => gE_mono (e_order (gE_at h.1) b z) (by omega)) (sfOrder_v _ _ _ _)
theorem kI_pay (h : kI B κ) (hB2 : B ≤ 900000000) (c am : Int32) : kI (B + 40000) (fPay c am κ).2 := kI_act h (by omega) (fun z => e_pay (gE_at h.1) hB2 z) (sfPay_v _ _ _)
theorem kI_move (h : kI B κ) (hB2 : B ≤ 900000000) (c o am : Int32) : kI (B + 40000) (fMove c o am κ).2 := kI_act h (by omega) (fun z => e_move (gE_at h.1) hB2 z) (sfMove_v _ _ _ _)
theorem kI_share (h : kI B κ) (hB : 0 ≤ B) (f b : Int32) : kI (B + 40000) (fShare f b κ).2 := kI_act h (by omega) (fun _ => gE_mono (e_share (gE_at h.1) _ _) (by omega)) (sfShare_v _)
theorem kI_ent (h : kI B κ) (hB : 0 ≤ B) (hB2 : B ≤ 900000000) (c fr to : Int32) : kI (B + 40000) (fEntitle c fr to κ).2 := kI_act h (by omega) (fun z => e_ent (gE_at h.1) hB hB2 z) (sfEnt_v _ _ _ _)
theorem kI_off (h : kI B κ) (hB : 0 ≤ B) (f : Int32) : kI (B + 40000) (fWriteOff f κ).2 := kI_act h (by omega) (fun z => gE_mono (e_off (gE_at h.1) hB z) (by omega)) (sfOff_v _ _ _)
theorem kI_days (h : kI B κ) (hB : 9999 ≤ B) (hB2 : B ≤ 900000000) (k : Int32) : kI (B + 40000) (fDays k κ).2 := kI_act h (by omega) (fun z => gE_mono (e_days (gE_at h.1) hB (by omega) z) (by omega)) (sfDays_v _ _)
theorem kI_set (h : kI B κ) (hB : 0 ≤ B) (w v : Int32) : kI (B + 40000) (fSet w v κ).2 := kI_act h (by omega) (fun z => gE_mono (e_set (gE_at h.1) z) (by omega)) (sfSet_v _ _)
theorem kI_kAct (h : kI B κ) (hB : 4809999 ≤ B) (hB2 : B ≤ 90000000) (k y : Nat) (hk : k < 24) : kI (B + 40000) (kAct k y κ).2 := by
  have mono : ∀ {κ' : zCo}, kI B κ' → kI (B + 40000) κ' := fun z => kI_mono z (by omega)
  have h01 : kI (B + 40000) (ka_01 (zN (kL κ)) y κ).2 := by
    unfold ka_01
    split
    · exact kI_days h (by omega) (by omega) _
    · exact kI_come h (by omega) _ _
  have h5 : kI (B + 40000) (ka_5 (zN (kL κ)) y κ).2 := by
    unfold ka_5
    split
    · exact mono h
    · exact kI_move h (by omega) _ _ _
  have h17 : kI (B + 40000) (ka_17 y κ).2 := by
    have a1 : kI B (ka_17d y κ).2 := kI_app _ (kI_app _ (kI_app _ (kI_app _ (kI_clr h))))
    show kI (B + 40000) (ka_17e y κ).2
    unfold ka_17e
    split
    · exact mono (kI_load a1 hB)
    · exact mono a1
  have h34 : kI (B + 40000) (ka_34 (zN (kL κ)) y κ).2 := kI_pay h (by omega) _ _
  have h6 : kI (B + 40000) (ka_6 y κ).2 := kI_share h (by omega) _ _
  have h78 : kI (B + 40000) (ka_78 (zN (kL κ)) y κ).2 := kI_ent h (by omega) (by omega) _ _ _
  have h146 : kI (B + 40000) (ka_146 y κ).2 := kI_days h (by omega) (by omega) _
  have h18 : kI (B + 40000) (ka_18 (zN (kL κ)) (zT (kL κ)) y κ).2 := kI_order h (by omega) _ _ _
  have h2 : kI (B + 40000) (ka_2 y κ).2 := kI_menu h (by omega) _ _
  have h9 : kI (B + 40000) (ka_9 y κ).2 := kI_off h (by omega) _
  have h10 : kI (B + 40000) (ka_10 y κ).2 := kI_set h (by omega) _ _
  have h11 : kI (B + 40000) (ka_11 κ).2 := mono (kI_undo h)
  have h12 : kI (B + 40000) (ka_12 y κ).2 := mono (kI_keep _ h)
  have h13 : kI (B + 40000) (ka_13 y κ).2 := mono (kI_back _ h)
  rcases (show k = 0 ∨ k = 1 ∨ k = 2 ∨ k = 3 ∨ k = 4 ∨ k = 5 ∨ k = 6 ∨ k = 7 ∨ k = 8 ∨ k = 9 ∨ k = 10 ∨ k = 11 ∨ k = 12 ∨ k = 13 ∨ k = 14 ∨ k = 15 ∨ k = 16 ∨ k = 17 ∨ k = 18 ∨ k = 19 ∨ k = 20 ∨ k = 21 ∨ k = 22 ∨ k = 23 by omega) with rfl | rfl | rfl | rfl | rfl | rfl | rfl | rfl | rfl | rfl | rfl | rfl | rfl | rfl | rfl | rfl | rfl | rfl | rfl | rfl | rfl | rfl | rfl | rfl
  · exact h01
  · exact h01
  · exact h2
  · exact h34
  · exact h34
  · exact h5
  · exact h6
  · exact h78
  · exact h78
  · exact h9
  · exact h10
  · exact h11
  · exact h12
  · exact h13
  · exact h146
  · exact h146
  · exact h146
  · exact h17
  · exact h18
  · exact h18
  · exact h18
  · exact h18
  · exact h18
  · exact h18
theorem kI_hold (h : kI B κ) : kI B (kHold κ) := by
  unfold kHold
  split
  · exact h
  · split
    · exact kI_U (kI_U h)
    · exact kI_U h
theorem kI_bal (h : kI B κ) (hB : B ≤ 1000000000) : ∀ c, c < zN (kL κ) → bB 1000000000 (kL κ 3 c) := fun c hc => by
  have := (gE_at h.1).2.1.2.1 c hc
  unfold bB at *
  omega
/-- a new object -/
def zSt0 : zSt := (zT0, zL0, zL0, fun _ => nI 0, fun _ => zL0, fun _ => zL0, 0, 0, 0)
theorem kI_0 : kI 4809999 (core zSt0) := ⟨⟨0, 0, i_mono i_zL0 (by omega)⟩, by decide, by decide, fun j hj => absurd hj (Nat.not_lt_zero j), fun j _ => Or.inl rfl⟩
theorem zTx_0 : zTx zSt0 := ⟨0, tInv_0⟩
end LP
theorem zq_0 {α : Type} (f1 f2 f3 f4 f5 f6 f7 x : List α) : ((((((f1 ++ f2) ++ (f3 ++ f4)) ++ (f5 ++ f6)) ++ f7) ++ x)).Perm (f1 ++ (f2 ++ (f3 ++ (f4 ++ (f5 ++ (f6 ++ (f7 ++ x))))))) := by
  classical
  rw [List.perm_iff_count]; intro y; simp only [List.count_append]; omega
theorem zw_0 (G : zk_G) (a : zA) : (zb_X0 G a).Perm (zw G a zSt0) := zq_0 _ _ _ _ _ _ _ _
/-- one of the script's numbers, or one made up -/
def cellV (xs : Nat → Int32) (L k : Nat) : Int32 := (if k < L then xs k else nI 15518471 * (nI k + nI 3) + nI 10723) &&& nI 2147483647
def cellN (xs : Nat → Int32) (L k : Nat) : Nat := (if k < L then xs k else nI 15518471 * (nI k + nI 3) + nI 10723).toBitVec.toNat % 2147483648
theorem cell_lt (xs : Nat → Int32) (L k : Nat) : cellN xs L k < 2 ^ 31 := Nat.mod_lt _ (by decide)
theorem cell_eq (xs : Nat → Int32) (L k : Nat) : cellV xs L k = nI (cellN xs L k) := by
  unfold cellV cellN
  generalize (if k < L then xs k else nI 15518471 * (nI k + nI 3) + nI 10723) = x
  apply Int32.toBitVec_inj.mp
  apply BitVec.eq_of_toNat_eq
  have h1 : (x &&& nI 2147483647).toBitVec.toNat = x.toBitVec.toNat % 2147483648 := by
    rw [Int32.toBitVec_and, BitVec.toNat_and]
    exact Nat.and_two_pow_sub_one_eq_mod _ 31
  rw [h1]
  have h2 : x.toBitVec.toNat % 2147483648 < 2147483648 := Nat.mod_lt _ (by decide)
  show _ = (BitVec.ofNat 32 (x.toBitVec.toNat % 2147483648)).toNat
  rw [BitVec.toNat_ofNat]
  exact (Nat.mod_eq_of_lt (Nat.lt_of_lt_of_le h2 (by decide))).symm
/-- methods that are given the script -/
def zk_BC (G : zk_G) (b L : Nat) (xs : Nat → Int32) (sz : Nat) : State → Prop := fun U => zk_B G [] sz U ∧ va_X b L xs U U.heap ∧ b < U.heap.size
theorem zk_blindC (G : zk_G) (av : List Value) (b L : Nat) (xs : Nat → Int32) (sz : Nat) : FrameBlind (va_Pc av (zk_BC G b L xs sz)) := by
  intro a U g mk h
  obtain ⟨h0, h1, h2, h3⟩ := h
  have hb := zk_blind G av [] sz a U g mk ⟨h0, h1⟩
  exact ⟨h0, hb.2, va_X.moved (u := U) (U := U.calling g mk a) (Vm.Alike.refl U.vm) h2, h3⟩
theorem zk_preSC {s : State} {G : zk_G} {A : Nat → Prop} {H : Heap} {locs : List Loc} {As : List Value} {b L : Nat} {xs : Nat → Int32} (hE : zk_E G s) (hA0 : ∀ q : Nat, A q → G.2.2.1 ≤ q) (hS : va_S A s.heap H locs) (hX : va_X b L xs s s.heap) (hbl : b < s.heap.size) (hbA : ¬ A b) : PreS s H (va_Pc As (zk_BC G b L xs H.size)) As :=
  ⟨zk_blindC _ _ _ _ _ _, fun U hU hW => ⟨rfl, ⟨by rw [hU], hE.at hS hA0 hU hW, fun k q h => by simp at h, ⟨fun i j p q h => by simp at h, fun k q h => by simp at h⟩⟩, va_X.moved hW.alike (by rw [hU]; exact hX.kept (hS.2.1 b hbl hbA)), by rw [hU]; exact Nat.lt_of_lt_of_le hbl hS.1⟩⟩
abbrev rmL_cell : Room := { frames := 0, cells := 0, slots := 0, locals := 0 }
set_option maxHeartbeats 2000000 in
set_option maxRecDepth 100000 in
theorem c_L_cell (l : Launch) (G : zk_G) (b L : Nat) (xs : Nat → Int32) (hL : L ≤ 260) (k : Nat) (hk : k < 1000) : ∀ sz : Nat, Met l yL_cell wsL_cell rmL_cell (va_Pc [.ref b, .int (nI k)] (zk_BC G b L xs sz)) (va_Qi (fun r (_ : Unit) => r = nI (cellN xs L k)) (zk_Q G (va_A [] sz) (fun _ => [])) (va_A [] sz)) rmL_cell.cells rmL_cell.slots (va_A [] sz) := by
  intro sz
  refine Met.ofW (cc := cL_cell) (maxL := 2) (ret := (some .int)) (by decide) rfl ?_
  intro p e s m args below meth c s₁ B hml hv
  obtain ⟨rfl, ⟨rfl, hE, hP, hD⟩, hX, hbl⟩ := hv
  rw [lg_entry_eq]
  have hF := zk_F.of B hml hE hP hD (Nat.le_of_ble_eq_true rfl)
  revert hF
  generalize (lg_sl ([.ref b, .int (nI k)]) ++ List.replicate (2 - (lg_sl ([.ref b, .int (nI k)])).length) Slot.unset).toArray = ls
  intro hF
  obtain ⟨hx, hb, -, hr, hts, hown, hlocks, -, -, hP, hD, hS, hA, hA0, hl⟩ := hF
  have hown : s.vm.findClass RL = some m.cls := hown
  have hl : lv_has ls 2 [(0, .ref b), (1, .int (nI k))] := hl
  have hbA : ¬ va_A [] s.heap.size b := fun z => by
    rcases z with ⟨j, e, h⟩ | h
    · simp at h
    · omega
  have w1 := hts _ (List.mem_of_getElem? (l := wsL_cell) (i := 1) (a := Cond.constant RL 182 15518471) rfl)
  have w2 := hts _ (List.mem_of_getElem? (l := wsL_cell) (i := 2) (a := Cond.constant RL 183 2147483647) rfl)
  have fin : ∀ v : Int32, v = (if k < L then xs k else nI 15518471 * (nI k + nI 3) + nI 10723) → W p l e rmL_cell s m [.ref b, .int (nI k)].toArray below meth c s.heap [] 0 0 (MQ below (va_Qi (fun r (_ : Unit) => r = nI (cellN xs L k)) (zk_Q G (va_A [] s.heap.size) (fun _ => [])) (va_A [] s.heap.size)) [.ref b, .int (nI k)].toArray s rmL_cell.cells rmL_cell.slots (va_A [] s.heap.size)) (F0 m 22 ls [.int v]) := by
    intro v hv
    refine lv_ldc hx hb (v := nI 2147483647) hown w2 dL_cell_22 ?_
    refine lv_iand hx hb dL_cell_24 ?_
    exact zk_reti () rfl hx hb hr hlocks hS hP hD (Nat.le_refl _) (Nat.le_refl _) dL_cell_25 (by rw [hv]; exact cell_eq xs L k)
  refine lv_iload_n hx hb dL_cell_0 rfl (lv_at hl 1 rfl) ?_
  refine lv_aload_n hx hb dL_cell_1 rfl (lv_at hl 0 rfl) ?_
  refine va_slen hx hb hX hbl hbA hS dL_cell_2 ?_
  refine lv_icmp_ge (tgt := 12) hx hb dL_cell_3 (by decide) (fun h => ?_) (fun h => ?_)
  · have h : L ≤ k := zk_le (by omega) (by omega) (show nI L ≤ nI k from h)
    refine lv_ldc hx hb (v := nI 15518471) hown w1 dL_cell_12 ?_
    refine lv_iload_n hx hb dL_cell_14 rfl (lv_at hl 1 rfl) ?_
    refine lv_iconst (v := nI 3) hx hb dL_cell_15 (by decide) ?_
    refine lv_iadd hx hb dL_cell_16 ?_
    refine lv_imul hx hb dL_cell_17 ?_
    refine lv_sipush (v := nI 10723) hx hb dL_cell_18 (by decide) ?_
    refine lv_iadd hx hb dL_cell_21 ?_
    exact fin _ (if_neg (by omega)).symm
  · have h : k < L := zk_nle (by omega) (by omega) (show ¬ nI L ≤ nI k from h)
    refine lv_aload_n hx hb dL_cell_6 rfl (lv_at hl 0 rfl) ?_
    refine lv_iload_n hx hb dL_cell_7 rfl (lv_at hl 1 rfl) ?_
    refine va_sld hx hb hX hbl hbA hS (vp_in_nI h (by omega)) dL_cell_8 ?_
    rw [nI_clamp (show k < 2 ^ 31 by omega)]
    refine lv_goto (tgt := 22) hx hb dL_cell_9 (by decide) ?_
    exact fin _ (if_pos h).symm
