/-! Spending for one family against days that go by: the first refusal. -/
/-- X: only family f's meals were paid; Y: all were served; on day d, before child c -/
def zFm (f : Int32) (X Y : zL) (n d c : Nat) : Prop :=
  (X 0 2 = Y 0 2 ∧ X 0 3 = Y 0 3 ∧ X 1 = Y 1 ∧ X 2 = Y 2 ∧ X 4 = Y 4 ∧ X 5 = Y 5 ∧ X 6 = Y 6 ∧ X 7 = Y 7) ∧ (∀ k, k < n → Y 1 k = f → X 3 k = Y 3 k) ∧ (∀ k, k < n → c ≤ k → d < 40 → X 9 (k * 40 + d) = Y 9 (k * 40 + d)) ∧ (∀ k e, k < n → d < e → e < 40 → X 9 (k * 40 + e) = Y 9 (k * 40 + e))
theorem opt_if {c : Prop} [Decidable c] {d : Nat} : (if c then some d else none) = none ∨ (if c then some d else none) = some d := by
  by_cases w : c
  · rw [if_pos w]; exact Or.inr rfl
  · rw [if_neg w]; exact Or.inl rfl
section ZS
variable {L X Y : zL} {n t d c : Nat} {f ch : Int32}
theorem fm_ent (h : zFm f X Y n d c) (k e : Nat) : sEnt X k e ↔ sEnt Y k e := by
  obtain ⟨⟨_, _, _, _, h4, h5, _⟩, _⟩ := h
  unfold sEnt
  rw [h4, h5]
theorem fm_suit (h : zFm f X Y n d c) (k e : Nat) : sSuit X k e ↔ sSuit Y k e := by
  obtain ⟨⟨_, _, _, h2, _, _, h6, _⟩, _⟩ := h
  unfold sSuit
  rw [h2, h6]
theorem fm_kind (h : zFm f X Y n d c) (k e : Nat) : sKind X k e = sKind Y k e := by
  unfold sKind
  by_cases w : sSuit Y k e
  · rw [if_neg (fun z => z ((fm_suit h k e).mpr w)), if_neg (show ¬ ¬ sSuit Y k e from fun z => z w)]
    exact zk_ifc (fm_ent h k e)
  · rw [if_pos (show ¬ sSuit X k e from fun z => w ((fm_suit h k e).mp z)), if_pos w]
theorem fm_rich (h : zFm f X Y n d c) {k : Nat} (hk : k < n) (hf : Y 1 k = f) : sRich X k n = sRich Y k n := by
  obtain ⟨⟨h02, _, h1, _⟩, h3, _⟩ := h
  unfold sRich
  rw [h02, h1]
  refine zfold_cong fun j x hj => ?_
  by_cases w : Y 1 j = Y 1 k
  · rw [h3 j hj (w.trans hf)]
  · rw [if_neg (fun z => w z.2.1), if_neg (fun z => w z.2.1)]
theorem fm_payer (h : zFm f X Y n d c) {k : Nat} (hk : k < n) (hf : Y 1 k = f) (e : Nat) : sPayer X n k e = sPayer Y n k e := by
  have hr := fm_rich h hk hf
  have hs := fm_suit h k e
  have he := fm_ent h k e
  obtain ⟨⟨h02, h03, h1, _, _, _, _, h7⟩, h3, _⟩ := h
  unfold sPayer
  rw [hr, h3 k hk hf, h02, h03, h1, h7]
  exact zk_ifc (or_congr (not_congr hs) he)
theorem rich_fam (Y : zL) (k : Nat) : ∀ m, (sRich Y k m).1 = -1 ∨ ∃ j, j < m ∧ (sRich Y k m).1 = nI j ∧ Y 1 j = Y 1 k
  | 0 => Or.inl rfl
  | m + 1 => by
    have ih := rich_fam Y k m
    unfold sRich at *
    rw [zfold_s]
    by_cases w : ¬ m = k ∧ Y 1 m = Y 1 k ∧ (zfold (fun j x => if ¬ j = k ∧ Y 1 j = Y 1 k ∧ x.2 < Y 3 j then (nI j, Y 3 j) else x) m (-1, Y 0 2 - nI 1)).2 < Y 3 m
    · rw [if_pos w]
      exact Or.inr ⟨m, Nat.lt_succ_self m, rfl, w.2.1⟩
    · rw [if_neg w]
      exact ih.imp id (fun ⟨j, hj, z⟩ => ⟨j, Nat.lt_succ_of_lt hj, z⟩)
theorem payer_fam (Y : zL) {k : Nat} (e : Nat) (hk : k < n) : sPayer Y n k e = -1 ∨ ∃ j, j < n ∧ sPayer Y n k e = nI j ∧ Y 1 j = Y 1 k := by
  unfold sPayer
  by_cases w1 : ¬ sSuit Y k e ∨ sEnt Y k e
  · rw [if_pos w1]; exact Or.inl rfl
  · rw [if_neg w1]
    by_cases w2 : ¬ Y 3 k - Y 0 2 < -Y 0 3
    · rw [if_pos w2]; exact Or.inr ⟨k, hk, rfl, rfl⟩
    · rw [if_neg w2]
      by_cases w3 : Y 7 (Y 1 k).toNatClampNeg = nI 1
      · rw [if_pos w3]; exact rich_fam Y k n
      · rw [if_neg w3]; exact Or.inl rfl
/-- a kind set on day d of child c keeps the rest -/
theorem fm_kset (h : zFm f X Y n d c) {v : Int32} (hd : d < 40) : zFm f X (up2 Y 9 (c * 40 + d) v) n d (c + 1) :=
  ⟨h.1, h.2.1, fun k hk hc h40 => (h.2.2.1 k hk (by omega) h40).trans (up2_j (L := Y) (show k * 40 + d ≠ c * 40 + d by omega)).symm, fun k e hk he he2 => (h.2.2.2 k e hk he he2).trans (up2_j (L := Y) (show k * 40 + e ≠ c * 40 + d by omega)).symm⟩
theorem fm_next (h : zFm f X Y n d c) : zFm f X Y n d (c + 1) := ⟨h.1, h.2.1, fun k hk hc h40 => h.2.2.1 k hk (by omega) h40, h.2.2.2⟩
/-- a charge of another family -/
theorem fm_other (h : zFm f X Y n d c) (hd : d < 40) {j : Nat} (hj : ¬ Y 1 j = f) : zFm f X (sCharge Y (c * 40 + d) j) n d (c + 1) := by
  refine ⟨h.1, fun k hk hf => ?_, fun k hk hc h40 => (h.2.2.1 k hk (by omega) h40).trans (up2_j (L := Y) (show k * 40 + d ≠ c * 40 + d by omega)).symm, fun k e hk he he2 => (h.2.2.2 k e hk he he2).trans (up2_j (L := Y) (show k * 40 + e ≠ c * 40 + d by omega)).symm⟩
  have hf : Y 1 k = f := hf
  have e : k ≠ j := fun z => hj (z ▸ hf)
  exact (h.2.1 k hk hf).trans (up2_j (L := Y) e).symm
/-- a charge of the family, on both sides -/
theorem fm_both (h : zFm f X Y n d c) (hd : d < 40) {j : Nat} (hj : j < n) (hf : Y 1 j = f) : zFm f (up2 X 3 j (X 3 j - X 0 2)) (sCharge Y (c * 40 + d) j) n d (c + 1) := by
  have e3 := h.2.1 j hj hf
  have e2 := h.1.1
  refine ⟨h.1, fun k hk hfk => ?_, fun k hk hc h40 => (h.2.2.1 k hk (by omega) h40).trans (up2_j (L := Y) (show k * 40 + d ≠ c * 40 + d by omega)).symm, fun k e hk he he2 => (h.2.2.2 k e hk he he2).trans (up2_j (L := Y) (show k * 40 + e ≠ c * 40 + d by omega)).symm⟩
  show up2 X 3 j (X 3 j - X 0 2) 3 k = up2 Y 3 j (Y 3 j - Y 0 2) 3 k
  rw [e3, e2]
  exact up2_eq (h.2.1 k hk hfk)
/-- one child on a day -/
theorem fm_step (h : zFm f X Y n d c) (hc : c < n) (hn : n ≤ 12) (hd : d < 40) (x : Int32) (h01 : Y 9 (c * 40 + d) = nI 0 ∨ Y 9 (c * 40 + d) = nI 1) :
    ((sSpC n f ch d c (none, X)).1 = none ∨ (sSpC n f ch d c (none, X)).1 = some d) ∧ zFm f (sSpC n f ch d c (none, X)).2 (sDayC n d c (x, Y)).2 n d (c + 1) ∧ ((sSpC n f ch d c (none, X)).1 = some d ↔ (ch = -1 ∨ ch = nI c) ∧ Y 1 c = f ∧ (sDayC n d c (x, Y)).2 9 (c * 40 + d) = nI 4) := by
  have hk := h.2.2.1 c hc (Nat.le_refl c) hd
  have h1 : X 1 c = Y 1 c := congrFun h.1.2.2.1 c
  by_cases w : Y 9 (c * 40 + d) = nI 1
  · have eV : (sDayC n d c (x, Y)).2 = (sServe Y n c d).2 := by
      unfold sDayC
      rw [if_pos w]
    rw [eV]
    by_cases wf : Y 1 c = f
    · have eU : sSpC n f ch d c (none, X) = (if (sSpend X n c d).1 = 0 ∧ (ch = -1 ∨ ch = nI c) then some d else none, (sSpend X n c d).2) := by
        unfold sSpC
        rw [if_pos ⟨rfl, h1.trans wf, hk.trans w⟩]
      rw [eU]
      unfold sSpend sServe
      rw [fm_payer h hc wf d, fm_kind h c d]
      rcases payer_fam Y d hc with e | ⟨j, hj, e, ef⟩
      · rw [if_pos e, if_pos e]
        have e4 : up2 Y 9 (c * 40 + d) (sKind Y c d) 9 (c * 40 + d) = sKind Y c d := up2_v
        show ((if (if sKind Y c d = nI 4 then nI 0 else nI 1) = 0 ∧ (ch = -1 ∨ ch = nI c) then some d else none) = none ∨ (if (if sKind Y c d = nI 4 then nI 0 else nI 1) = 0 ∧ (ch = -1 ∨ ch = nI c) then some d else none) = some d) ∧ zFm f X (up2 Y 9 (c * 40 + d) (sKind Y c d)) n d (c + 1) ∧ ((if (if sKind Y c d = nI 4 then nI 0 else nI 1) = 0 ∧ (ch = -1 ∨ ch = nI c) then some d else none) = some d ↔ (ch = -1 ∨ ch = nI c) ∧ Y 1 c = f ∧ up2 Y 9 (c * 40 + d) (sKind Y c d) 9 (c * 40 + d) = nI 4)
        rw [e4]
        refine ⟨?_, fm_kset h hd, ?_⟩
        · exact opt_if
        · by_cases w4 : sKind Y c d = nI 4
          · rw [if_pos w4]
            by_cases wc : ch = -1 ∨ ch = nI c
            · rw [if_pos ⟨rfl, wc⟩]
              exact ⟨fun _ => ⟨wc, wf, w4⟩, fun _ => rfl⟩
            · rw [if_neg (fun z => wc z.2)]
              exact ⟨fun z => (by cases z), fun z => absurd z.1 wc⟩
          · rw [if_neg w4, if_neg (fun z => absurd z.1 (by decide))]
            exact ⟨fun z => (by cases z), fun z => absurd z.2.2 w4⟩
      · have hne : ¬ sPayer Y n c d = -1 := by rw [e]; exact zk_m1n (by omega)
        rw [if_neg hne, if_neg hne, e, nI_clamp (by omega)]
        have e4 : sCharge Y (c * 40 + d) j 9 (c * 40 + d) = nI 2 := (show up2 Y 9 (c * 40 + d) (nI 2) 9 (c * 40 + d) = nI 2 from up2_v)
        show ((if nI 1 = 0 ∧ (ch = -1 ∨ ch = nI c) then some d else none) = none ∨ (if nI 1 = 0 ∧ (ch = -1 ∨ ch = nI c) then some d else none) = some d) ∧ zFm f (up2 X 3 j (X 3 j - X 0 2)) (sCharge Y (c * 40 + d) j) n d (c + 1) ∧ ((if nI 1 = 0 ∧ (ch = -1 ∨ ch = nI c) then some d else none) = some d ↔ (ch = -1 ∨ ch = nI c) ∧ Y 1 c = f ∧ sCharge Y (c * 40 + d) j 9 (c * 40 + d) = nI 4)
        rw [e4, if_neg (fun z => absurd z.1 (by decide))]
        exact ⟨Or.inl rfl, fm_both h hd hj (ef.trans wf), fun z => (by cases z), fun z => absurd z.2.2 (by decide)⟩
    · have eU : sSpC n f ch d c (none, X) = (none, X) := by
        unfold sSpC
        rw [if_neg (fun z => wf (h1.symm.trans z.2.1))]
      rw [eU]
      refine ⟨Or.inl rfl, ?_, fun z => (by cases z), fun z => absurd z.2.1 wf⟩
      unfold sServe
      rcases payer_fam Y d hc with e | ⟨j, hj, e, ef⟩
      · rw [if_pos e]
        exact fm_kset h hd
      · have hne : ¬ sPayer Y n c d = -1 := by rw [e]; exact zk_m1n (by omega)
        rw [if_neg hne, e, nI_clamp (by omega)]
        exact fm_other h hd (by rw [ef]; exact wf)
  · have eU : sSpC n f ch d c (none, X) = (none, X) := by
      unfold sSpC
      rw [if_neg (fun z => w (hk.symm.trans z.2.2))]
    have eV : sDayC n d c (x, Y) = (x, Y) := by
      unfold sDayC
      rw [if_neg w]
    rw [eU, eV]
    have h0 : Y 9 (c * 40 + d) = nI 0 := h01.resolve_right w
    exact ⟨Or.inl rfl, fm_next h, fun z => (by cases z), fun z => absurd (h0.symm.trans z.2.2) (by decide)⟩
theorem serve_1 (L : zL) (n c d : Nat) : (sServe L n c d).2 1 = L 1 := by
  unfold sServe
  split <;> rfl
theorem dayC_9 (x : Int32 × zL) {p : Nat} (h : p ≠ c * 40 + d) : (sDayC n d c x).2 9 p = x.2 9 p := by
  unfold sDayC
  split
  · obtain ⟨v, e⟩ := serve_9 x.2 n c d
    show (sServe x.2 n c d).2 9 p = _
    rw [e, upd_ne _ _ h]
  · rfl
theorem dayC_1 (x : Int32 × zL) : (sDayC n d c x).2 1 = x.2 1 := by
  unfold sDayC
  split
  · exact serve_1 x.2 n c d
  · rfl
/-- which children count -/
def zRc (f ch : Int32) (Y : zL) (k : Nat) : Prop := (ch = -1 ∨ ch = nI k) ∧ Y 1 k = f
theorem fm_dayF (h : zFm f X Y n d 0) (hn : n ≤ 12) (hd : d < 40) (x : Int32) (h01 : ∀ k, k < n → Y 9 (k * 40 + d) = nI 0 ∨ Y 9 (k * 40 + d) = nI 1) (c : Nat) (hc : c ≤ n) :
    (((zfold (sSpC n f ch d) c (none, X)).1 = none ∧ zFm f (zfold (sSpC n f ch d) c (none, X)).2 (zfold (sDayC n d) c (x, Y)).2 n d c ∧ ∀ k, k < c → zRc f ch Y k → ¬ (zfold (sDayC n d) c (x, Y)).2 9 (k * 40 + d) = nI 4) ∨ ((zfold (sSpC n f ch d) c (none, X)).1 = some d ∧ ∃ k, k < c ∧ zRc f ch Y k ∧ (zfold (sDayC n d) c (x, Y)).2 9 (k * 40 + d) = nI 4)) ∧ (zfold (sDayC n d) c (x, Y)).2 1 = Y 1 ∧ ∀ k e, k < n → e < 40 → (e ≠ d ∨ c ≤ k) → (zfold (sDayC n d) c (x, Y)).2 9 (k * 40 + e) = Y 9 (k * 40 + e) := by
  induction c with
  | zero => exact ⟨Or.inl ⟨rfl, h, fun k hk => absurd hk (Nat.not_lt_zero k)⟩, rfl, fun k e _ _ _ => rfl⟩
  | succ c ih =>
    obtain ⟨a, b, g⟩ := ih (by omega)
    rw [zfold_s, zfold_s]
    revert a b g
    generalize zfold (sSpC n f ch d) c (none, X) = U
    generalize zfold (sDayC n d) c (x, Y) = V
    intro a b g
    obtain ⟨u, X2⟩ := U
    obtain ⟨v, Y2⟩ := V
    have b2 : Y2 1 = Y 1 := b
    have g2 : ∀ k e, k < n → e < 40 → (e ≠ d ∨ c ≤ k) → Y2 9 (k * 40 + e) = Y 9 (k * 40 + e) := g
    refine ⟨?_, (dayC_1 (v, Y2)).trans b2, fun k e hk he hke => (dayC_9 (v, Y2) (show k * 40 + e ≠ c * 40 + d by omega)).trans (g2 k e hk he (by omega))⟩
    have keep : ∀ k, k < c → (sDayC n d c (v, Y2)).2 9 (k * 40 + d) = Y2 9 (k * 40 + d) := fun k hk => dayC_9 (v, Y2) (by omega)
    rcases a with ⟨a1, a2, a3⟩ | ⟨a1, k, hk, a2, a3⟩
    · have a1 : u = none := a1
      subst a1
      have h9 := h01 c (by omega)
      rw [← g2 c d (by omega) hd (Or.inr (Nat.le_refl c))] at h9
      obtain ⟨s1, s2, s3⟩ := fm_step (ch := ch) a2 (show c < n by omega) hn hd v h9
      rcases s1 with s1 | s1
      · refine Or.inl ⟨s1, s2, fun k hk hr z => ?_⟩
        by_cases e : k = c
        · subst e
          have := s3.mpr ⟨hr.1, (congrFun b2 k).trans hr.2, z⟩
          rw [s1] at this
          cases this
        · rw [keep k (by omega)] at z
          exact a3 k (by omega) hr z
      · obtain ⟨z1, z2, z3⟩ := s3.mp s1
        exact Or.inr ⟨s1, c, Nat.lt_succ_self c, ⟨z1, (congrFun b2 c).symm.trans z2⟩, z3⟩
    · have a1 : u = some d := a1
      subst a1
      refine Or.inr ⟨congrArg Prod.fst (sSpC_some (x := (some d, X2)) (y := d) rfl), k, by omega, a2, ?_⟩
      rw [keep k hk]
      exact a3
/-- the days from today on -/
theorem fm_days (hL : zK0 L n t) (hn : n ≤ 12) (j : Nat) (hj : t + j ≤ 40) :
    (((sSp L n t f ch (t + j)).1 = none ∧ zFm f (sSp L n t f ch (t + j)).2 (sDays n t j L).2 n (t + j) 0 ∧ ∀ k e, k < n → t ≤ e → e < t + j → zRc f ch L k → ¬ (sDays n t j L).2 9 (k * 40 + e) = nI 4) ∨ (∃ d, (sSp L n t f ch (t + j)).1 = some d ∧ t ≤ d ∧ d < t + j ∧ (∃ k, k < n ∧ zRc f ch L k ∧ (sDays n t j L).2 9 (k * 40 + d) = nI 4) ∧ ∀ k e, k < n → t ≤ e → e < d → zRc f ch L k → ¬ (sDays n t j L).2 9 (k * 40 + e) = nI 4)) ∧ (sDays n t j L).2 1 = L 1 ∧ ∀ k e, k < n → t + j ≤ e → e < 40 → (sDays n t j L).2 9 (k * 40 + e) = L 9 (k * 40 + e) := by
  induction j with
  | zero =>
    have e : sSp L n t f ch (t + 0) = (none, L) := zfr_0 _ _ (Nat.le_refl t)
    rw [e]
    exact ⟨Or.inl ⟨rfl, ⟨⟨rfl, rfl, rfl, rfl, rfl, rfl, rfl, rfl⟩, fun _ _ _ => rfl, fun _ _ _ _ => rfl, fun _ _ _ _ _ => rfl⟩, fun k e _ h1 h2 => by omega⟩, rfl, fun _ _ _ _ _ => rfl⟩
  | succ j ih =>
    obtain ⟨a, b, g⟩ := ih (by omega)
    have es : sSp L n t f ch (t + (j + 1)) = zfold (sSpC n f ch (t + j)) n (sSp L n t f ch (t + j)) := zfr_s _ _ (Nat.le_add_right t j)
    have ed : sDays n t (j + 1) L = sOneDay n (t + j) (sDays n t j L) := rfl
    rw [es, ed]
    revert a b g
    generalize sSp L n t f ch (t + j) = U
    generalize sDays n t j L = V
    intro a b g
    obtain ⟨u, X2⟩ := U
    obtain ⟨v, Y2⟩ := V
    have b2 : Y2 1 = L 1 := b
    have g2 : ∀ k e, k < n → t + j ≤ e → e < 40 → Y2 9 (k * 40 + e) = L 9 (k * 40 + e) := g
    have o1 : (sOneDay n (t + j) (v, Y2)).2 1 = (zfold (sDayC n (t + j)) n (v, Y2)).2 1 := rfl
    have o9 : (sOneDay n (t + j) (v, Y2)).2 9 = (zfold (sDayC n (t + j)) n (v, Y2)).2 9 := rfl
    rw [o1, o9]
    have f9 : ∀ k e, k < n → e < 40 → e ≠ t + j → (zfold (sDayC n (t + j)) n (v, Y2)).2 9 (k * 40 + e) = Y2 9 (k * 40 + e) := fun k e hk he hne =>
      zfold_invB (P := fun x : Int32 × zL => x.2 9 (k * 40 + e) = Y2 9 (k * 40 + e)) rfl n (fun i x _ hx => (dayC_9 x (show k * 40 + e ≠ i * 40 + (t + j) by omega)).trans hx) n (Nat.le_refl n)
    have f1 : (zfold (sDayC n (t + j)) n (v, Y2)).2 1 = Y2 1 := zfold_inv (P := fun x : Int32 × zL => x.2 1 = Y2 1) rfl (fun i x hx => (dayC_1 x).trans hx) n
    refine ⟨?_, f1.trans b2, fun k e hk h1 h2 => (f9 k e hk h2 (by omega)).trans (g2 k e hk (by omega) h2)⟩
    rcases a with ⟨a1, a2, a3⟩ | ⟨d, a1, a2, a3, ⟨k, hk, a4, a5⟩, a6⟩
    · have a1 : u = none := a1
      subst a1
      have h01 : ∀ k, k < n → Y2 9 (k * 40 + (t + j)) = nI 0 ∨ Y2 9 (k * 40 + (t + j)) = nI 1 := fun k hk => by
        rw [g2 k (t + j) hk (Nat.le_refl _) (by omega)]
        exact hL k (t + j) hk (by omega) (by omega)
      obtain ⟨q, _, _⟩ := fm_dayF (ch := ch) a2 hn (show t + j < 40 by omega) v h01 n (Nat.le_refl n)
      have rr : ∀ k, zRc f ch L k → zRc f ch Y2 k := fun k hk => ⟨hk.1, (congrFun b2 k).trans hk.2⟩
      have rb : ∀ k, zRc f ch Y2 k → zRc f ch L k := fun k hk => ⟨hk.1, (congrFun b2 k).symm.trans hk.2⟩
      rcases q with ⟨q1, q2, q3⟩ | ⟨q1, k, hk, q2, q3⟩
      · refine Or.inl ⟨q1, ⟨q2.1, q2.2.1, fun k hk _ h40 => q2.2.2.2 k _ hk (by omega) h40, fun k e hk h1 h2 => q2.2.2.2 k e hk (by omega) h2⟩, fun k e hk h1 h2 hr z => ?_⟩
        by_cases w : e = t + j
        · subst w
          exact q3 k hk (rr k hr) z
        · rw [f9 k e hk (by omega) w] at z
          exact a3 k e hk h1 (by omega) hr z
      · refine Or.inr ⟨t + j, q1, by omega, by omega, ⟨k, hk, rb k q2, q3⟩, fun k e hk h1 h2 hr z => ?_⟩
        rw [f9 k e hk (by omega) (by omega)] at z
        exact a3 k e hk h1 h2 hr z
    · have a1 : u = some d := a1
      subst a1
      have e1 : zfold (sSpC n f ch (t + j)) n (some d, X2) = (some d, X2) := sSpD_some (x := (some d, X2)) (y := d) rfl
      rw [e1]
      refine Or.inr ⟨d, rfl, a2, by omega, ⟨k, hk, a4, ?_⟩, fun k e hk h1 h2 hr z => ?_⟩
      · rw [f9 k d hk (by omega) (by omega)]
        exact a5
      · rw [f9 k e hk (by omega) (by omega)] at z
        exact a6 k e hk h1 h2 hr z
end ZS
/-- days gone by don't change -/
theorem days_old (L : zL) (n t : Nat) {k e : Nat} (he : e < t) (ht : t ≤ 40) : ∀ j, t + j ≤ 40 → (sDays n t j L).2 9 (k * 40 + e) = L 9 (k * 40 + e)
  | 0, _ => rfl
  | j + 1, hj => by
    show (zfold (sDayC n (t + j)) n (sDays n t j L)).2 9 (k * 40 + e) = _
    exact zfold_inv (f := sDayC n (t + j)) (P := fun x : Int32 × zL => x.2 9 (k * 40 + e) = L 9 (k * 40 + e)) (days_old L n t he ht j (by omega)) (fun i x hx => (dayC_9 x (show k * 40 + e ≠ i * 40 + (t + j) by omega)).trans hx) n
