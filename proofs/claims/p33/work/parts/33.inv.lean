/-! What holds of a ledger, action by action: the cells of the meals, and the money. -/
/-- a meal's cell: who paid, how much; what did not suit -/
def zCw (L : zL) (n c d : Nat) : Prop :=
  (L 9 (c * 40 + d) = nI 2 → (∃ j, j < n ∧ L 11 (c * 40 + d) = nI j ∧ L 1 j = L 1 c) ∧ ∃ q, 1 ≤ q ∧ q ≤ 999 ∧ L 10 (c * 40 + d) = nI q) ∧ (L 9 (c * 40 + d) = nI 5 → ¬ L 6 d &&& L 2 c = 0)
/-- free is entitled, charged is not -/
def zCn (L : zL) (c d : Nat) : Prop := (L 9 (c * 40 + d) = nI 2 → ¬ sEnt L c d) ∧ (L 9 (c * 40 + d) = nI 3 → sEnt L c d)
def zX (L : zL) (n t : Nat) : Prop := (∀ c d, n ≤ c → c < 12 → d < 40 → L 9 (c * 40 + d) = nI 0) ∧ (∀ c d, c < n → d < t → d < 40 → ¬ L 9 (c * 40 + d) = nI 1) ∧ (∀ c d, c < n → d < 40 → zCw L n c d) ∧ ∀ c d, c < n → d < 40 → zCn L c d
/-- all that is charged -/
def zCg (L : zL) : Int32 := zs (fun p => if L 9 p = nI 2 then L 10 p else nI 0) 480
def zMo (L : zL) (n : Nat) : Prop := zs (L 3) n = L 0 4 + zs (L 8) 5 - zCg L
def zI (B : Int) (L : zL) (n t : Nat) : Prop := sInv L n t ∧ zG B L n ∧ zK0 L n t ∧ zX L n t ∧ zMo L n
theorem zs_chg {f g : Nat → Int32} {p : Nat} : ∀ {n : Nat}, p < n → (∀ q, q < n → q ≠ p → g q = f q) → zs g n = zs f n + (g p - f p)
  | 0, h, _ => absurd h (Nat.not_lt_zero p)
  | n + 1, h, hq => by
    rw [zs_s, zs_s]
    by_cases e : p = n
    · subst e
      rw [zs_cong (f := g) (g := f) (fun k hk => hq k (by omega) (by omega))]
      grind
    · rw [zs_chg (n := n) (by omega) (fun q h1 h2 => hq q (by omega) h2), hq n (by omega) (fun z => e z.symm)]
      grind
theorem zs_upd {f : Nat → Int32} {p n : Nat} {v : Int32} (h : p < n) : zs (upd f p v) n = zs f n + (v - f p) := by
  rw [zs_chg (f := f) h (fun q _ hq => upd_ne f v hq), upd_same]
theorem cg_put {L L' : zL} {p : Nat} (hp : p < 480) (h9 : ∀ q, q ≠ p → L' 9 q = L 9 q) (h10 : ∀ q, q ≠ p → L' 10 q = L 10 q) : zCg L' = zCg L + ((if L' 9 p = nI 2 then L' 10 p else nI 0) - (if L 9 p = nI 2 then L 10 p else nI 0)) :=
  zs_chg (f := fun p => if L 9 p = nI 2 then L 10 p else nI 0) (g := fun p => if L' 9 p = nI 2 then L' 10 p else nI 0) hp (fun q _ hq => by show (if L' 9 q = nI 2 then L' 10 q else nI 0) = if L 9 q = nI 2 then L 10 q else nI 0; rw [h9 q hq, h10 q hq])
theorem cg_row {L L' : zL} (h9 : L' 9 = L 9) (h10 : L' 10 = L 10) : zCg L' = zCg L := by
  unfold zCg
  rw [h9, h10]
theorem mo_same {L L' : zL} {n : Nat} (h : zMo L n) (h0 : L' 0 4 = L 0 4) (h3 : L' 3 = L 3) (h8 : L' 8 = L 8) (hc : zCg L' = zCg L) : zMo L' n := by
  unfold zMo at *
  rw [h0, h3, h8, hc]
  exact h
section ZI
variable {L L' : zL} {n n' t c d : Nat} {B : Int}
/-- a cell stays -/
theorem cw_fr (h : zCw L n c d) (hc : c < n) (hn : n ≤ n') (h1 : ∀ j, j < n → L' 1 j = L 1 j) (h2 : L' 2 c = L 2 c) (h6 : L 9 (c * 40 + d) = nI 5 → L' 6 d = L 6 d) (h9 : L' 9 (c * 40 + d) = L 9 (c * 40 + d)) (h10 : L' 10 (c * 40 + d) = L 10 (c * 40 + d)) (h11 : L' 11 (c * 40 + d) = L 11 (c * 40 + d)) : zCw L' n' c d := by
  refine ⟨fun e => ?_, fun e => ?_⟩
  · rw [h9] at e
    obtain ⟨⟨j, j1, j2, j3⟩, q, q1, q2, q3⟩ := h.1 e
    exact ⟨⟨j, by omega, h11.trans j2, by rw [h1 j j1, h1 c hc]; exact j3⟩, q, q1, q2, h10.trans q3⟩
  · rw [h9] at e
    rw [h6 e, h2]
    exact h.2 e
theorem cn_fr (h : zCn L c d) (h4 : L' 4 c = L 4 c) (h5 : L' 5 c = L 5 c) (h9 : L' 9 (c * 40 + d) = L 9 (c * 40 + d)) : zCn L' c d := by
  unfold zCn sEnt at *
  rw [h4, h5, h9]
  exact h
theorem cw_01 (h : L 9 (c * 40 + d) = nI 0 ∨ L 9 (c * 40 + d) = nI 1 ∨ L 9 (c * 40 + d) = nI 3 ∨ L 9 (c * 40 + d) = nI 4) : zCw L n c d := by
  rcases h with h | h | h | h <;> exact ⟨fun e => absurd (h.symm.trans e) (by decide), fun e => absurd (h.symm.trans e) (by decide)⟩
theorem cn_01 (h : L 9 (c * 40 + d) = nI 0 ∨ L 9 (c * 40 + d) = nI 1 ∨ L 9 (c * 40 + d) = nI 4 ∨ L 9 (c * 40 + d) = nI 5) : zCn L c d := by
  rcases h with h | h | h | h <;> exact ⟨fun e => absurd (h.symm.trans e) (by decide), fun e => absurd (h.symm.trans e) (by decide)⟩
/-- rows that the cells do not look at -/
theorem x_row (h : zX L n t) (h1 : L' 1 = L 1) (h2 : L' 2 = L 2) (h4 : L' 4 = L 4) (h5 : L' 5 = L 5) (h6 : L' 6 = L 6) (h9 : L' 9 = L 9) (h10 : L' 10 = L 10) (h11 : L' 11 = L 11) : zX L' n t := by
  unfold zX zCw zCn sEnt at *
  rw [h1, h2, h4, h5, h6, h9, h10, h11]
  exact h
/-- one cell changes -/
theorem x_put (h : zX L n t) (hn : n ≤ 12) (hc : c < n) (hd : d < 40) (h1 : L' 1 = L 1) (h2 : L' 2 = L 2) (h4 : L' 4 = L 4) (h5 : L' 5 = L 5) (h6 : L' 6 = L 6) (h9 : ∀ q, q ≠ c * 40 + d → L' 9 q = L 9 q) (h10 : ∀ q, q ≠ c * 40 + d → L' 10 q = L 10 q) (h11 : ∀ q, q ≠ c * 40 + d → L' 11 q = L 11 q) (hw : zCw L' n c d) (hq : zCn L' c d) (hx : d < t → ¬ L' 9 (c * 40 + d) = nI 1) : zX L' n t := by
  obtain ⟨a1, a2, a3, a4⟩ := h
  refine ⟨fun c' d' k1 k2 k3 => (h9 _ (by omega)).trans (a1 c' d' k1 k2 k3), fun c' d' k1 k2 k3 => ?_, fun c' d' k1 k2 => ?_, fun c' d' k1 k2 => ?_⟩
  · by_cases e : c' = c ∧ d' = d
    · obtain ⟨rfl, rfl⟩ := e
      exact hx k2
    · rw [h9 _ (by omega)]
      exact a2 c' d' k1 k2 k3
  · by_cases e : c' = c ∧ d' = d
    · obtain ⟨rfl, rfl⟩ := e
      exact hw
    · exact cw_fr (a3 c' d' k1 k2) k1 (Nat.le_refl n) (fun j _ => by rw [h1]) (by rw [h2]) (fun _ => by rw [h6]) (h9 _ (by omega)) (h10 _ (by omega)) (h11 _ (by omega))
  · by_cases e : c' = c ∧ d' = d
    · obtain ⟨rfl, rfl⟩ := e
      exact hq
    · exact cn_fr (a4 c' d' k1 k2) (by rw [h4]) (by rw [h5]) (h9 _ (by omega))
theorem ch_9 (p j : Nat) : sCharge L p j 9 p = nI 2 := up2_v (L := up2 L 3 j (L 3 j - L 0 2)) (i := 9) (j := p) (v := nI 2)
theorem ch_10 (p j : Nat) : sCharge L p j 10 p = L 0 2 := up2_v (L := L) (i := 10) (j := p) (v := L 0 2)
theorem ch_11 (p j : Nat) : sCharge L p j 11 p = nI j := up2_v (L := L) (i := 11) (j := p) (v := nI j)
theorem ch_9n {p j q : Nat} (h : q ≠ p) : sCharge L p j 9 q = L 9 q := up2_j (L := L) (i := 9) (v := nI 2) h
theorem ch_10n {p j q : Nat} (h : q ≠ p) : sCharge L p j 10 q = L 10 q := up2_j (L := L) (i := 10) (v := L 0 2) h
theorem ch_11n {p j q : Nat} (h : q ≠ p) : sCharge L p j 11 q = L 11 q := up2_j (L := L) (i := 11) (v := nI j) h
theorem ch_cw {j : Nat} (hg : zG B L n) (hj : j < n) (e1 : L 1 j = L 1 c) : zCw (sCharge L (c * 40 + d) j) n c d := by
  obtain ⟨q, q1, q2, q3⟩ := hg.1.1
  exact ⟨fun _ => ⟨⟨j, hj, ch_11 _ _, e1⟩, q, q1, q2, (ch_10 _ _).trans q3⟩, fun e => absurd ((ch_9 _ _).symm.trans e) (by decide)⟩
theorem ch_cn {j : Nat} (he : ¬ sEnt L c d) : zCn (sCharge L (c * 40 + d) j) c d := ⟨fun _ => he, fun e => absurd ((ch_9 _ _).symm.trans e) (by decide)⟩
theorem ch_mo {p j : Nat} (h : zMo L n) (hp : p < 480) (hj : j < n) (hk : ¬ L 9 p = nI 2) : zMo (sCharge L p j) n := by
  have e3 : sCharge L p j 3 = upd (L 3) j (L 3 j - L 0 2) := rfl
  have e1 := cg_put (L := L) (L' := sCharge L p j) hp (fun q hq => ch_9n hq) (fun q hq => ch_10n hq)
  rw [ch_9, if_pos rfl, ch_10, if_neg hk] at e1
  unfold zMo at *
  rw [e3, zs_upd hj, e1, show sCharge L p j 0 4 = L 0 4 from rfl, show sCharge L p j 8 = L 8 from rfl, h, show nI 0 = 0 from rfl]
  grind
/-- serving one child -/
theorem payer_ne {k : Nat} (hp : ¬ sPayer L n c k = -1) : ¬ sEnt L c k := by
  intro he
  apply hp
  unfold sPayer
  exact if_pos (Or.inr he)
theorem i_serve (hx : zX L n t) (hm : zMo L n) (hg : zG B L n) (hn : n ≤ 12) (hc : c < n) (hd : d < 40) (h1 : L 9 (c * 40 + d) = nI 1) : zX (sServe L n c d).2 n t ∧ zMo (sServe L n c d).2 n ∧ ¬ (sServe L n c d).2 9 (c * 40 + d) = nI 1 := by
  have hk2 : ¬ L 9 (c * 40 + d) = nI 2 := by rw [h1]; decide
  unfold sServe
  by_cases w : sPayer L n c d = -1
  · rw [if_pos w]
    have e9 : up2 L 9 (c * 40 + d) (sKind L c d) 9 (c * 40 + d) = sKind L c d := up2_v
    have k9 : ∀ q, q ≠ c * 40 + d → up2 L 9 (c * 40 + d) (sKind L c d) 9 q = L 9 q := fun q hq => up2_j hq
    have kn : ¬ sKind L c d = nI 2 ∧ ¬ sKind L c d = nI 1 ∧ (sKind L c d = nI 3 → sEnt L c d) ∧ (sKind L c d = nI 5 → ¬ sSuit L c d) := by
      unfold sKind
      by_cases w1 : ¬ sSuit L c d
      · rw [if_pos w1]
        exact ⟨by decide, by decide, fun z => absurd z (by decide), fun _ => w1⟩
      · rw [if_neg w1]
        by_cases w2 : sEnt L c d
        · rw [if_pos w2]
          exact ⟨by decide, by decide, fun _ => w2, fun z => absurd z (by decide)⟩
        · rw [if_neg w2]
          exact ⟨by decide, by decide, fun z => absurd z (by decide), fun z => absurd z (by decide)⟩
    refine ⟨x_put (c := c) (d := d) hx hn hc hd rfl rfl rfl rfl rfl k9 (fun _ _ => rfl) (fun _ _ => rfl) ⟨fun e => absurd (e9.symm.trans e) kn.1, fun e => kn.2.2.2 (e9.symm.trans e)⟩ ⟨fun e => absurd (e9.symm.trans e) kn.1, fun e => kn.2.2.1 (e9.symm.trans e)⟩ (fun _ e => kn.2.1 (e9.symm.trans e)), ?_, fun e => kn.2.1 (e9.symm.trans e)⟩
    have e1 := cg_put (L := L) (L' := up2 L 9 (c * 40 + d) (sKind L c d)) (p := c * 40 + d) (by omega) k9 (fun _ _ => rfl)
    rw [e9, if_neg kn.1, if_neg hk2] at e1
    exact mo_same hm rfl rfl rfl (by show zCg (up2 L 9 (c * 40 + d) (sKind L c d)) = zCg L; rw [e1]; grind)
  · rw [if_neg w]
    rcases payer_fam L d hc with e | ⟨j, hj, e, ef⟩
    · exact absurd e w
    · rw [e, nI_clamp (by omega)]
      exact ⟨x_put (c := c) (d := d) hx hn hc hd rfl rfl rfl rfl rfl (fun q hq => ch_9n hq) (fun q hq => ch_10n hq) (fun q hq => ch_11n hq) (ch_cw hg hj ef) (ch_cn (payer_ne w)) (fun _ z => absurd ((ch_9 _ _).symm.trans z) (by decide)), ch_mo hm (by omega) hj hk2, fun z => absurd ((ch_9 _ _).symm.trans z) (by decide)⟩
theorem i_dayC {x : Int32 × zL} (hx : zX x.2 n t) (hm : zMo x.2 n) (hg : zG B x.2 n) (hn : n ≤ 12) (hc : c < n) (hd : d < 40) : zX (sDayC n d c x).2 n t ∧ zMo (sDayC n d c x).2 n ∧ ¬ (sDayC n d c x).2 9 (c * 40 + d) = nI 1 := by
  unfold sDayC
  by_cases w : x.2 9 (c * 40 + d) = nI 1
  · rw [if_pos w]
    exact i_serve hx hm hg hn hc hd w
  · rw [if_neg w]
    exact ⟨hx, hm, w⟩
theorem i_day {x : Int32 × zL} (hx : zX x.2 n t) (hm : zMo x.2 n) (hg : zG B x.2 n) (hB : 9999 ≤ B) (hB2 : B ≤ 1000000000) (hn : n ≤ 12) (hd : d < 40) : ∀ k, k ≤ n → (zX (zfold (sDayC n d) k x).2 n t ∧ zMo (zfold (sDayC n d) k x).2 n ∧ zG B (zfold (sDayC n d) k x).2 n) ∧ ∀ c, c < k → ¬ (zfold (sDayC n d) k x).2 9 (c * 40 + d) = nI 1
  | 0, _ => ⟨⟨hx, hm, hg⟩, fun c hc => absurd hc (Nat.not_lt_zero c)⟩
  | k + 1, hk => by
    obtain ⟨⟨a1, a2, a3⟩, a4⟩ := i_day hx hm hg hB hB2 hn hd k (by omega)
    rw [zfold_s]
    obtain ⟨b1, b2, b3⟩ := i_dayC (c := k) a1 a2 a3 hn (by omega) hd
    refine ⟨⟨b1, b2, g_dayC a3 hB hB2 (by omega) hn⟩, fun c hc => ?_⟩
    by_cases e : c = k
    · subst e
      exact b3
    · rw [dayC_9 _ (show c * 40 + d ≠ k * 40 + d by omega)]
      exact a4 c (by omega)
theorem i_days (h : zI B L n t) (hB : 9999 ≤ B) (hB2 : B ≤ 1000000000) : ∀ k, t + k ≤ 40 → zI B (sDays n t k L).2 n (t + k)
  | 0, _ => h
  | k + 1, hk => by
    obtain ⟨a1, a2, a3, a4, a5⟩ := i_days h hB hB2 k (by omega)
    have hn := h.1.2.1
    have g1 := sInv_days h.1 (k + 1) (by omega)
    have g2 := g_days (t := t) h.2.1 hB hB2 hn (k + 1)
    have g3 := k0_days h.2.2.1 (k + 1) (by omega)
    obtain ⟨⟨b1, b2, b3⟩, b4⟩ := i_day (d := t + k) a4 a5 a2 hB hB2 hn (by omega) n (Nat.le_refl n)
    refine ⟨g1, g2, g3, ?_, mo_same b2 rfl rfl rfl rfl⟩
    have e : zX (sDays n t (k + 1) L).2 n (t + k) := x_row b1 rfl rfl rfl rfl rfl rfl rfl rfl
    refine ⟨e.1, fun c d hc hd h40 => ?_, e.2.2.1, e.2.2.2⟩
    by_cases w : d = t + k
    · subst w
      exact b4 c hc
    · exact e.2.1 c d hc (by omega) h40
/-- entitlement: what was served is settled again, day by day -/
theorem i_settle (hw : ∀ c d, c < n → d < 40 → zCw L n c d) (h0 : ∀ c d, n ≤ c → c < 12 → d < 40 → L 9 (c * 40 + d) = nI 0) (h1 : ∀ c d, c < n → d < t → d < 40 → ¬ L 9 (c * 40 + d) = nI 1) (hm : zMo L n) (hg : zG B L n) (hn : n ≤ 12) (hc : c < n) (hd : d < 40) :
    (∀ c' d', c' < n → d' < 40 → zCw (sSettle L c d) n c' d') ∧ (∀ c' d', n ≤ c' → c' < 12 → d' < 40 → sSettle L c d 9 (c' * 40 + d') = nI 0) ∧ (∀ c' d', c' < n → d' < t → d' < 40 → ¬ sSettle L c d 9 (c' * 40 + d') = nI 1) ∧ zMo (sSettle L c d) n ∧ zCn (sSettle L c d) c d ∧ ∀ c' d', c' < n → d' < 40 → ¬ (c' = c ∧ d' = d) → zCn L c' d' → zCn (sSettle L c d) c' d' := by
  have hp : c * 40 + d < 480 := by omega
  unfold sSettle
  by_cases w : L 9 (c * 40 + d) = nI 2 ∧ sEnt L c d
  · rw [if_pos w]
    obtain ⟨⟨j, j1, j2, j3⟩, q, q1, q2, q3⟩ := (hw c d hc hd).1 w.1
    rw [j2, nI_clamp (by omega)]
    have e9 : up2 (up2 L 3 j (L 3 j + L 10 (c * 40 + d))) 9 (c * 40 + d) (nI 3) 9 (c * 40 + d) = nI 3 := up2_v
    have k9 : ∀ q, q ≠ c * 40 + d → up2 (up2 L 3 j (L 3 j + L 10 (c * 40 + d))) 9 (c * 40 + d) (nI 3) 9 q = L 9 q := fun q hq => up2_j (L := up2 L 3 j (L 3 j + L 10 (c * 40 + d))) hq
    refine ⟨fun c' d' k1 k2 => ?_, fun c' d' k1 k2 k3 => (k9 _ (by omega)).trans (h0 c' d' k1 k2 k3), fun c' d' k1 k2 k3 => ?_, ?_, ⟨fun e => absurd (e9.symm.trans e) (by decide), fun _ => w.2⟩, fun c' d' k1 k2 k3 k4 => cn_fr k4 rfl rfl (k9 _ (by omega))⟩
    · by_cases e : c' = c ∧ d' = d
      · obtain ⟨rfl, rfl⟩ := e
        exact cw_01 (Or.inr (Or.inr (Or.inl e9)))
      · exact cw_fr (hw c' d' k1 k2) k1 (Nat.le_refl n) (fun _ _ => rfl) rfl (fun _ => rfl) (k9 _ (by omega)) rfl rfl
    · by_cases e : c' = c ∧ d' = d
      · obtain ⟨rfl, rfl⟩ := e
        rw [e9]
        decide
      · rw [k9 _ (by omega)]
        exact h1 c' d' k1 k2 k3
    · have e1 := cg_put (L := L) (L' := up2 (up2 L 3 j (L 3 j + L 10 (c * 40 + d))) 9 (c * 40 + d) (nI 3)) hp k9 (fun _ _ => rfl)
      rw [e9, if_neg (by decide), if_pos w.1] at e1
      have e3 : up2 (up2 L 3 j (L 3 j + L 10 (c * 40 + d))) 9 (c * 40 + d) (nI 3) 3 = upd (L 3) j (L 3 j + L 10 (c * 40 + d)) := rfl
      unfold zMo at *
      rw [e3, zs_upd j1, e1, show up2 (up2 L 3 j (L 3 j + L 10 (c * 40 + d))) 9 (c * 40 + d) (nI 3) 0 4 = L 0 4 from rfl, show up2 (up2 L 3 j (L 3 j + L 10 (c * 40 + d))) 9 (c * 40 + d) (nI 3) 8 = L 8 from rfl, hm, show nI 0 = 0 from rfl]
      grind
  · rw [if_neg w]
    by_cases w3 : L 9 (c * 40 + d) = nI 3 ∧ ¬ sEnt L c d
    · rw [if_pos w3]
      refine ⟨fun c' d' k1 k2 => ?_, fun c' d' k1 k2 k3 => (ch_9n (by omega)).trans (h0 c' d' k1 k2 k3), fun c' d' k1 k2 k3 => ?_, ch_mo hm hp hc (by rw [w3.1]; decide), ch_cn w3.2, fun c' d' k1 k2 k3 k4 => cn_fr k4 rfl rfl (ch_9n (by omega))⟩
      · by_cases e : c' = c ∧ d' = d
        · obtain ⟨rfl, rfl⟩ := e
          exact ch_cw hg hc rfl
        · exact cw_fr (hw c' d' k1 k2) k1 (Nat.le_refl n) (fun _ _ => rfl) rfl (fun _ => rfl) (ch_9n (by omega)) (ch_10n (by omega)) (ch_11n (by omega))
      · by_cases e : c' = c ∧ d' = d
        · obtain ⟨rfl, rfl⟩ := e
          rw [ch_9]
          decide
        · rw [ch_9n (by omega)]
          exact h1 c' d' k1 k2 k3
    · rw [if_neg w3]
      exact ⟨hw, h0, h1, hm, ⟨fun e z => w ⟨e, z⟩, fun e => Decidable.by_contra (fun z => w3 ⟨e, z⟩)⟩, fun _ _ _ _ _ k => k⟩
end ZI
