/-! What holds of a ledger, as the law asks it. -/
theorem zp_m1 {k : Nat} (h : k < 2 ^ 31) : ¬ nI k = -1 := fun z => zk_m1n h z
section HP
variable {L : zL} {n t : Nat} {B : Int} {κ : zCo}
-- the answers, number by number
theorem hb_2 (hI : sInv L n t) : fAbout L (nI 2) = zs (fun i => if L 9 i = nI 1 then nI 1 else nI 0) 480 := (zIf_t (nIn_yes (by decide))).trans (xAbout_2 rfl)
theorem hb_3 (hI : sInv L n t) : fAbout L (nI 3) = mSrv L := (zIf_t (nIn_yes (by decide))).trans (xAbout_3 rfl)
theorem hb_4 (hI : sInv L n t) : fAbout L (nI 4) = zs (fun i => if L 9 i = nI 2 then nI 1 else nI 0) 480 := (zIf_t (nIn_yes (by decide))).trans (xAbout_4 rfl)
theorem hb_5 (hI : sInv L n t) : fAbout L (nI 5) = zs (fun i => if L 9 i = nI 3 then nI 1 else nI 0) 480 := (zIf_t (nIn_yes (by decide))).trans (xAbout_5 rfl)
theorem hb_6 (hI : sInv L n t) : fAbout L (nI 6) = zs (fun i => if L 9 i = nI 4 then nI 1 else nI 0) 480 := (zIf_t (nIn_yes (by decide))).trans (xAbout_6 rfl)
theorem hb_7 (hI : sInv L n t) : fAbout L (nI 7) = zs (fun i => if L 9 i = nI 5 then nI 1 else nI 0) 480 := (zIf_t (nIn_yes (by decide))).trans (xAbout_7 rfl)
theorem hb_8 (hI : sInv L n t) : fAbout L (nI 8) = L 0 4 := (zIf_t (nIn_yes (by decide))).trans (xAbout_8 rfl)
theorem hb_9 (hI : sInv L n t) : fAbout L (nI 9) = zs (fun j => zs (fun i => if L 9 (i * 40 + j) = nI 2 then L 10 (i * 40 + j) else nI 0) 12) 40 := (zIf_t (nIn_yes (by decide))).trans (xAbout_9 rfl)
theorem hb_10 (hI : sInv L n t) : fAbout L (nI 10) = zs (L 8) 5 := (zIf_t (nIn_yes (by decide))).trans (xAbout_10 rfl)
theorem hb_11 (hI : sInv L n t) : fAbout L (nI 11) = zs (L 3) n := by
  refine (zIf_t (nIn_yes (by decide))).trans ((xAbout_11 rfl).trans ?_)
  rw [sInv_N hI]
theorem hc_w (hI : sInv L n t) {a w : Nat} (h : a < n) (hw : w < 9) : fChild L (nI a) (nI w) = xChild L (zN L) (zT L) a (nI w) := by
  have hn := hI.2.1
  refine (zIf_t (nH_yes hI h)).trans ((zIf_t (nIn_yes hw)).trans ?_)
  rw [nI_clamp (show a < 2 ^ 31 by omega)]
theorem hc_0 (hI : sInv L n t) {a : Nat} (h : a < n) : fChild L (nI a) (nI 0) = L 1 a := (hc_w hI h (by decide)).trans (xChild_0 rfl)
theorem hc_1 (hI : sInv L n t) {a : Nat} (h : a < n) : fChild L (nI a) (nI 1) = L 2 a := (hc_w hI h (by decide)).trans (xChild_1 rfl)
theorem hc_2 (hI : sInv L n t) {a : Nat} (h : a < n) : fChild L (nI a) (nI 2) = L 3 a := (hc_w hI h (by decide)).trans (xChild_2 rfl)
theorem hc_3 (hI : sInv L n t) {a : Nat} (h : a < n) : fChild L (nI a) (nI 3) = L 4 a := (hc_w hI h (by decide)).trans (xChild_3 rfl)
theorem hc_4 (hI : sInv L n t) {a : Nat} (h : a < n) : fChild L (nI a) (nI 4) = L 5 a := (hc_w hI h (by decide)).trans (xChild_4 rfl)
theorem hc_7 (hI : sInv L n t) {a : Nat} (h : a < n) : fChild L (nI a) (nI 7) = zs (fun i => if L 9 i = nI 2 ∧ L 11 i = nI a then L 10 i else nI 0) 480 := (hc_w hI h (by decide)).trans (xChild_7 rfl)
theorem hc_8 (hI : sInv L n t) {a : Nat} (h : a < n) : fChild L (nI a) (nI 8) = zs (fun i => if L 9 (a * 40 + i) = nI 4 then nI 1 else nI 0) 40 := (hc_w hI h (by decide)).trans (xChild_8 rfl)
theorem hd_w {d w : Nat} (h : d < 40) (hw : w < 4) : fDay L (nI d) (nI w) = xDay L (zN L) (zT L) d (nI w) := by
  refine (zIf_t (nD_yes h)).trans ((zIf_t (nIn_yes hw)).trans ?_)
  rw [nI_clamp (show d < 2 ^ 31 by omega)]
theorem hd_0 {d : Nat} (h : d < 40) : fDay L (nI d) (nI 0) = L 6 d := (hd_w h (by decide)).trans (xDay_0 rfl)
theorem hd_1 {d : Nat} (h : d < 40) : fDay L (nI d) (nI 1) = nI 12 - zs (fun i => if L 9 (i * 40 + d) = nI 0 then nI 1 else nI 0) 12 := (hd_w h (by decide)).trans (xDay_1 rfl)
theorem hd_2 {d : Nat} (h : d < 40) : fDay L (nI d) (nI 2) = zs (fun i => if L 9 (i * 40 + d) = nI 2 then nI 1 else nI 0) 12 + zs (fun i => if L 9 (i * 40 + d) = nI 3 then nI 1 else nI 0) 12 := (hd_w h (by decide)).trans (xDay_2 rfl)
theorem hd_3 {d : Nat} (h : d < 40) : fDay L (nI d) (nI 3) = zs (fun i => if L 9 (i * 40 + d) = nI 2 then L 10 (i * 40 + d) else nI 0) 12 := (hd_w h (by decide)).trans (xDay_3 rfl)
theorem hm_w (hI : sInv L n t) {a d w : Nat} (h : a < n) (hd : d < 40) (hw : w < 3) : fMeal L (nI a) (nI d) (nI w) = xMeal L (zN L) (zT L) a d (nI w) := by
  have hn := hI.2.1
  refine (zIf_t ⟨nH_yes hI h, nD_yes hd⟩).trans ((zIf_t (nIn_yes hw)).trans ?_)
  rw [nI_clamp (show a < 2 ^ 31 by omega), nI_clamp (show d < 2 ^ 31 by omega)]
theorem hm_0 (hI : sInv L n t) {a d : Nat} (h : a < n) (hd : d < 40) : fMeal L (nI a) (nI d) (nI 0) = L 9 (a * 40 + d) := (hm_w hI h hd (by decide)).trans (xMeal_0 rfl)
theorem hm_1 (hI : sInv L n t) {a d : Nat} (h : a < n) (hd : d < 40) : fMeal L (nI a) (nI d) (nI 1) = (if L 9 (a * 40 + d) = nI 2 then L 10 (a * 40 + d) else if L 9 (a * 40 + d) = nI 3 then nI 0 else -1) := (hm_w hI h hd (by decide)).trans (xMeal_1 rfl)
theorem hm_2 (hI : sInv L n t) {a d : Nat} (h : a < n) (hd : d < 40) : fMeal L (nI a) (nI d) (nI 2) = (if L 9 (a * 40 + d) = nI 2 then L 11 (a * 40 + d) else -1) := (hm_w hI h hd (by decide)).trans (xMeal_2 rfl)
theorem hf_w {f w : Nat} (h : f < 5) (hw : w < 5) : fFamily L (nI f) (nI w) = xFamily L (zN L) (zT L) f (nI w) := by
  refine (zIf_t (nF_yes h)).trans ((zIf_t (nIn_yes hw)).trans ?_)
  rw [nI_clamp (show f < 2 ^ 31 by omega)]
theorem hf_0 (hI : sInv L n t) {f : Nat} (h : f < 5) : fFamily L (nI f) (nI 0) = zs (fun i => if L 1 i = nI f then nI 1 else nI 0) n := by
  refine (hf_w h (by decide)).trans ((xFamily_0 rfl).trans ?_)
  rw [sInv_N hI]
theorem hf_2 (hI : sInv L n t) {f : Nat} (h : f < 5) : fFamily L (nI f) (nI 2) = zs (fun i => if L 1 i = nI f then L 3 i else nI 0) n := by
  refine (hf_w h (by decide)).trans ((xFamily_2 rfl).trans ?_)
  rw [sInv_N hI]
theorem hf_3 (hI : sInv L n t) {f : Nat} (h : f < 5) : fFamily L (nI f) (nI 3) = sDebt L n (nI f) := by
  refine (hf_w h (by decide)).trans ((xFamily_3 rfl).trans ?_)
  rw [sInv_N hI]
-- sums over all meals, by day and by child
theorem zs_2d (f : Nat → Int32) : zs (fun j => zs (fun i => f (i * 40 + j)) 12) 40 = zs f 480 := by
  have e := zs_flat f 12
  rw [zs_swap] at e
  exact e.symm
theorem hp_cg (hI : sInv L n t) : fAbout L (nI 9) = zCg L := (hb_9 hI).trans (zs_2d (fun p => if L 9 p = nI 2 then L 10 p else nI 0))
theorem hp_money (h : zI B L n t) : fAbout L (nI 11) = fAbout L (nI 8) + fAbout L (nI 10) - fAbout L (nI 9) := by
  rw [hb_11 h.1, hb_8 h.1, hb_10 h.1, hp_cg h.1]
  exact h.2.2.2.2
theorem hp_srv (hI : sInv L n t) : fAbout L (nI 3) = fAbout L (nI 4) + fAbout L (nI 5) := by
  rw [hb_3 hI, hb_4 hI, hb_5 hI]
  rfl
theorem hp_chg (hI : sInv L n t) : zs (fun d => fDay L (nI d) (nI 3)) 40 = fAbout L (nI 9) := by
  rw [hb_9 hI]
  exact zs_cong fun d hd => hd_3 hd
theorem hp_day1 (hk : zKi L) {d : Nat} (hd : d < 40) : fDay L (nI d) (nI 1) = ((((zs (fun i => if L 9 (i * 40 + d) = nI 2 then nI 1 else nI 0) 12 + zs (fun i => if L 9 (i * 40 + d) = nI 3 then nI 1 else nI 0) 12) + zs (fun i => if L 9 (i * 40 + d) = nI 1 then nI 1 else nI 0) 12) + zs (fun i => if L 9 (i * 40 + d) = nI 4 then nI 1 else nI 0) 12) + zs (fun i => if L 9 (i * 40 + d) = nI 5 then nI 1 else nI 0) 12) := by
  rw [hd_1 hd]
  have e : zs (fun i => (if L 9 (i * 40 + d) = nI 0 then nI 1 else nI 0) + (((((if L 9 (i * 40 + d) = nI 2 then nI 1 else nI 0) + (if L 9 (i * 40 + d) = nI 3 then nI 1 else nI 0)) + (if L 9 (i * 40 + d) = nI 1 then nI 1 else nI 0)) + (if L 9 (i * 40 + d) = nI 4 then nI 1 else nI 0)) + (if L 9 (i * 40 + d) = nI 5 then nI 1 else nI 0))) 12 = nI (1 * 12) := by
    rw [← zs_const 1 12]
    exact zs_cong fun i hi => ki_1 (hk _ (by omega))
  rw [zs_add, zs_add, zs_add, zs_add, zs_add, show nI (1 * 12) = nI 12 from rfl] at e
  rw [← e]
  grind
theorem cnt_2d (w : Int32) : zs (fun j => zs (fun i => if L 9 (i * 40 + j) = w then nI 1 else nI 0) 12) 40 = zs (fun p => if L 9 p = w then nI 1 else nI 0) 480 := zs_2d (fun p => if L 9 p = w then nI 1 else nI 0)
theorem hp_meals (h : zI B L n t) : zs (fun d => fDay L (nI d) (nI 1)) 40 = fAbout L (nI 2) + fAbout L (nI 3) + fAbout L (nI 6) + fAbout L (nI 7) := by
  have hk := h.2.1.2.2.1
  rw [zs_cong (fun d hd => hp_day1 hk hd), zs_add, zs_add, zs_add, zs_add, cnt_2d, cnt_2d, cnt_2d, cnt_2d, cnt_2d, hb_2 h.1, hb_3 h.1, hb_6 h.1, hb_7 h.1]
  unfold mSrv
  grind
theorem ns_3 {f g k : Nat → Nat} (h : ∀ i, f i + g i + k i ≤ 1) : ∀ m, ns f m + ns g m + ns k m ≤ m
  | 0 => Nat.le_refl _
  | m + 1 => by
    have := ns_3 h m
    have := h m
    show ns f m + f m + (ns g m + g m) + (ns k m + k m) ≤ m + 1
    omega
theorem zs_b (c : Nat → Prop) [∀ k, Decidable (c k)] (m : Nat) : zs (fun i => if c i then nI 1 else nI 0) m = nI (ns (fun i => if c i then 1 else 0) m) := zs_ns fun k _ => by
  by_cases h : c k
  · rw [if_pos h, if_pos h]
  · rw [if_neg h, if_neg h]
theorem hp_le {d : Nat} (hd : d < 40) : ¬ fDay L (nI d) (nI 1) < fDay L (nI d) (nI 2) := by
  rw [hd_1 hd, hd_2 hd, zs_b (fun i => L 9 (i * 40 + d) = nI 0), zs_b (fun i => L 9 (i * 40 + d) = nI 2), zs_b (fun i => L 9 (i * 40 + d) = nI 3)]
  have h3 := ns_3 (f := fun i => if L 9 (i * 40 + d) = nI 0 then 1 else 0) (g := fun i => if L 9 (i * 40 + d) = nI 2 then 1 else 0) (k := fun i => if L 9 (i * 40 + d) = nI 3 then 1 else 0) (fun i => by
    by_cases a : L 9 (i * 40 + d) = nI 0
    · rw [if_pos a, if_neg (by rw [a]; decide), if_neg (by rw [a]; decide)]; decide
    · by_cases b : L 9 (i * 40 + d) = nI 2
      · rw [if_neg a, if_pos b, if_neg (by rw [b]; decide)]; decide
      · rw [if_neg a, if_neg b]
        split <;> decide) 12
  rw [pk_sub (by omega), nI_add]
  exact nnlt (by omega) (by omega)
theorem hp_d0 (h : zI B L n t) {d : Nat} (hd : d < 40) (ht : t ≤ d) : fDay L (nI d) (nI 2) = 0 := by
  have hn := h.1.2.1
  have k01 : ∀ i, i < 12 → L 9 (i * 40 + d) = nI 0 ∨ L 9 (i * 40 + d) = nI 1 := fun i hi => by
    by_cases w : i < n
    · exact h.2.2.1 i d w ht hd
    · exact Or.inl (h.2.2.2.1.1 i d (by omega) hi hd)
  have z : ∀ w : Int32, ¬ nI 0 = w → ¬ nI 1 = w → zs (fun i => if L 9 (i * 40 + d) = w then nI 1 else nI 0) 12 = nI 0 := fun w w0 w1 => zs_zero fun i hi => if_neg (fun e => by
    rcases k01 i hi with y | y
    · exact w0 (y.symm.trans e)
    · exact w1 (y.symm.trans e))
  rw [hd_2 hd, z (nI 2) (by decide) (by decide), z (nI 3) (by decide) (by decide)]
  rfl
-- by child
theorem hp_sum (h : zI B L n t) : zs (fun c => fChild L (nI c) (nI 2)) n = fAbout L (nI 11) := by
  rw [hb_11 h.1]
  exact zs_cong fun c hc => hc_2 h.1 hc
theorem hp_pays (h : zI B L n t) : zs (fun c => fChild L (nI c) (nI 7)) n = fAbout L (nI 9) := by
  have hn := h.1.2.1
  rw [hp_cg h.1, zs_cong (fun c hc => hc_7 h.1 hc), zs_swap]
  refine zs_cong fun p hp => ?_
  by_cases w : L 9 p = nI 2
  · obtain ⟨j, hj, e⟩ := h.1.2.2.2.2.2 p hp w
    rw [zs_one (j := j) hj (fun k hk hkj => if_neg (fun z => hkj ((zk_eq (by omega) (by omega) (e.symm.trans z.2)).symm))), if_pos ⟨w, e⟩, if_pos w]
  · rw [if_neg w]
    exact zs_zero fun k _ => if_neg (fun z => w z.1)
-- by family
theorem hp_all (h : zI B L n t) : zs (fun f => fFamily L (nI f) (nI 2)) 5 = fAbout L (nI 11) := by
  rw [hb_11 h.1, zs_cong (fun f hf => hf_2 h.1 hf), zs_swap]
  refine zs_cong fun c hc => ?_
  obtain ⟨f, hf, e⟩ := h.1.2.2.2.2.1 c hc
  rw [zs_one (j := f) hf (fun k hk hkf => if_neg (fun z => hkf ((zk_eq (by omega) (by omega) (e.symm.trans z)).symm))), if_pos e]
theorem hp_debt (h : zI B L n t) (hB0 : 0 ≤ B) (hB : B ≤ 30000000) : ¬ zs (fun f => fFamily L (nI f) (nI 3)) 5 < 0 := by
  have hn := h.1.2.1
  rw [zs_cong (fun f hf => hf_3 h.1 hf)]
  have b : ∀ f : Nat, 0 ≤ (sDebt L n (nI f)).toInt ∧ (sDebt L n (nI f)).toInt ≤ 360000000 := fun f => by
    obtain ⟨a1, a2⟩ := debt_nn h.2.1 (by omega) (nI f) n (Nat.le_refl n) hn
    refine ⟨a1, Int.le_trans a2 ?_⟩
    have : B * (n : Int) ≤ 30000000 * 12 := Int.mul_le_mul hB (by omega) (by omega) (by omega)
    omega
  have key : ∀ k : Nat, k ≤ 5 → 0 ≤ (zs (fun f => sDebt L n (nI f)) k).toInt ∧ (zs (fun f => sDebt L n (nI f)) k).toInt ≤ 360000000 * (k : Int) := by
    intro k
    induction k with
    | zero => exact fun _ => ⟨Int.le_refl 0, Int.le_refl 0⟩
    | succ k ih =>
      intro hk
      obtain ⟨a1, a2⟩ := ih (by omega)
      obtain ⟨b1, b2⟩ := b k
      rw [zs_s, bi_add (by omega) (by omega)]
      omega
  rw [Int32.lt_iff_toInt_lt, show (0 : Int32).toInt = 0 from rfl]
  have := (key 5 (by decide)).1
  omega
end HP
