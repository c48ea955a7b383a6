/-! The class and the model as they stand in the law: what ties them. -/
def zHist (B : Int) (S : Nat → zL) (o cn : Nat) (D : Nat → zL) : Prop := o < 14 ∧ cn ≤ 14 ∧ ∀ j, j < cn → ∃ n t, zW B (S ((o + j) % 14)) (D j) n t
def zSlot (B : Int) (sv : Nat → Int32) (SL : Nat → zL) (sk : Nat → Int32) (SK : Nat → zL) : Prop := ∀ j, j < 2 → sv j = sk j ∧ (sv j = nI 0 ∨ ∃ n t, zW B (SL j) (SK j) n t)
def zText (T : zL) (tn : Nat) (ch : Nat → Int32) : Prop := (∃ po, tInv T tn po) ∧ T 1 = ch
section ZX
variable {L K T : zL} {n t o cn tn : Nat} {B B2 : Int} {S D SL SK : Nat → zL} {sv sk ch : Nat → Int32}
theorem hist_mono (h : zHist B S o cn D) (hb : B ≤ B2) : zHist B2 S o cn D := ⟨h.1, h.2.1, fun j hj => by
  obtain ⟨n, t, w⟩ := h.2.2 j hj
  exact ⟨n, t, w_mono w hb⟩⟩
theorem slot_mono (h : zSlot B sv SL sk SK) (hb : B ≤ B2) : zSlot B2 sv SL sk SK := fun j hj => ⟨(h j hj).1, (h j hj).2.imp id (fun ⟨n, t, w⟩ => ⟨n, t, w_mono w hb⟩)⟩
theorem vup_same (S : Nat → zL) (k : Nat) (x : zL) : va_up S k x k = x := if_pos rfl
theorem vup_ne (S : Nat → zL) {k j : Nat} (x : zL) (h : j ≠ k) : va_up S k x j = S j := if_neg h
/-- both remember -/
theorem hist_rem (h : zHist B S o cn D) (hw : zW B L K n t) : zHist B (hRem o cn S L).2.2 (hRem o cn S L).1 (hRem o cn S L).2.1 (kRem cn D K).2 ∧ (kRem cn D K).1 = (hRem o cn S L).2.1 := by
  obtain ⟨ho, hc, hh⟩ := h
  unfold hRem kRem
  by_cases w : cn = 14
  · rw [if_pos w, if_pos w]
    refine ⟨⟨Nat.mod_lt _ (by decide), Nat.le_refl 14, fun j hj => ?_⟩, rfl⟩
    have hj : j < 14 := hj
    show ∃ n t, zW B (va_up S (((o + 1) % 14 + 13) % 14) L (((o + 1) % 14 + j) % 14)) (va_up (kUp D) 13 K j) n t
    by_cases e : j = 13
    · subst e
      rw [vup_same, vup_same]
      exact ⟨n, t, hw⟩
    · rw [vup_ne _ _ (by omega), vup_ne _ _ e]
      obtain ⟨n', t', z⟩ := hh (j + 1) (by omega)
      refine ⟨n', t', ?_⟩
      rw [show ((o + 1) % 14 + j) % 14 = (o + (j + 1)) % 14 by omega, show kUp D j = D (j + 1) from if_pos (by omega)]
      exact z
  · rw [if_neg w, if_neg w]
    refine ⟨⟨ho, by show cn + 1 ≤ 14; omega, fun j hj => ?_⟩, rfl⟩
    have hj : j < cn + 1 := hj
    show ∃ n t, zW B (va_up S ((o + cn) % 14) L ((o + j) % 14)) (va_up D cn K j) n t
    by_cases e : j = cn
    · subst e
      rw [vup_same, vup_same]
      exact ⟨n, t, hw⟩
    · rw [vup_ne _ _ (by omega), vup_ne _ _ e]
      exact hh j (by omega)
/-- the last action is taken back -/
theorem hist_undo (h : zHist B S o cn D) (hc : ¬ cn = 0) : (∃ n t, zW B (S ((o + (cn - 1)) % 14)) (D (cn - 1)) n t) ∧ zHist B S o (cn - 1) D :=
  ⟨h.2.2 (cn - 1) (by omega), h.1, by have := h.2.1; omega, fun j hj => h.2.2 j (by omega)⟩
theorem hist_0 (h : zHist B S o cn D) : zHist B S o 0 D := ⟨h.1, Nat.zero_le _, fun j hj => absurd hj (Nat.not_lt_zero j)⟩
/-- slots -/
theorem slot_save (h : zSlot B sv SL sk SK) (hw : zW B L K n t) {k : Nat} : zSlot B (upd sv k (nI 1)) (va_up SL k L) (upd sk k (nI 1)) (va_up SK k K) := fun j hj => by
  by_cases e : j = k
  · subst e
    rw [upd_same, upd_same, vup_same, vup_same]
    exact ⟨rfl, Or.inr ⟨n, t, hw⟩⟩
  · rw [upd_ne _ _ e, upd_ne _ _ e, vup_ne _ _ e, vup_ne _ _ e]
    exact h j hj
theorem slot_get (h : zSlot B sv SL sk SK) {k : Nat} (hk : k < 2) (hs : ¬ sv k = 0) : ∃ n t, zW B (SL k) (SK k) n t := (h k hk).2.resolve_left hs
theorem slot_new {sv2 sk2 : Nat → Int32} (h1 : ∀ j, j < 2 → sv2 j = nI 0) (h2 : ∀ j, j < 2 → sk2 j = nI 0) : zSlot B sv2 SL sk2 SK := fun j hj => ⟨(h1 j hj).trans (h2 j hj).symm, Or.inl (h1 j hj)⟩
/-- the text -/
theorem text_add (h : zText T tn ch) {q : Nat} (hq : q < 256) (hn : tn < 120) : zText (tAdd T tn q) (tn + 1) (upd ch tn (nI q)) := by
  obtain ⟨⟨po, hp⟩, e⟩ := h
  refine ⟨⟨po, tInv_add hp hn hq⟩, ?_⟩
  show up2 T 1 tn (nI q) 1 = _
  rw [up2_same, e]
theorem text_clear (h : zText T tn ch) : zText (up2 T 0 0 (nI 0)) 0 ch := by
  obtain ⟨⟨po, hp⟩, e⟩ := h
  exact ⟨⟨po, tInv_len hp (by decide)⟩, e⟩
theorem text_er (h : zText T tn ch) : zText (tEr T tn).2.2 tn ch ∧ (tEr T tn).1 = (kText ch tn).1 ∧ (tEr T tn).2.1 = (kText ch tn).2.1 := by
  obtain ⟨⟨po, hp⟩, e⟩ := h
  obtain ⟨a, b, c⟩ := tEr_kText T tn
  rw [e] at a b c
  exact ⟨⟨⟨_, tEr_inv hp⟩, c⟩, a, b⟩
/-- loading: how many are left out, and the ledgers then -/
theorem text_load (h : zText T tn ch) (L : zL) (hk : (kText ch tn).1 = true) : (lRun (tEr T tn).2.2 L tn 120).1 = (kText ch tn).2.2.2 ∧ (lRun (tEr T tn).2.2 L tn 120).2.1.2.2 1 = ch ∧ ∃ n t, zW 4809999 (lRun (tEr T tn).2.2 L tn 120).2.2 (kText ch tn).2.2.1 n t := by
  obtain ⟨_, _, c⟩ := tEr_kText T tn
  have e : (tEr T tn).2.2 1 = ch := c.trans h.2
  have hk2 : (kText ((tEr T tn).2.2 1) tn).1 = true := by rw [e]; exact hk
  obtain ⟨a, _, c2, d⟩ := l_kText (T := (tEr T tn).2.2) (L := L) hk2 120 (Nat.le_refl 120)
  rw [e] at a c2 d
  have d2 := w_mono (B2 := 4809999) d (by omega)
  have hkT : kText ch tn = zfold (fun _ x => kTStep ch tn x) 120 (kT0 ch tn) := by unfold kText; rfl
  rw [hkT]
  exact ⟨a, c2, _, _, d2⟩
-- the model's faults in the class's words
theorem kwOff_f (h : zRel L K n t) (f : Int32) : (sfOff L n f = 0 ↔ kwOff K n f = 0) ∧ (sfOff L n f = nI 1 → kwOff K n f = nI 1) ∧ (sfOff L n f = nI 3 → kwOff K n f = nI 2) ∧ ¬ sfOff L n f = nI 2 := by
  unfold sfOff kwOff
  rw [r_debt h]
  by_cases w : ¬ sFam f
  · rw [if_pos w, if_pos w]; decide
  · rw [if_neg w, if_neg w]
    by_cases w2 : sDebt K n f = 0
    · rw [if_pos w2, if_pos w2]; decide
    · rw [if_neg w2, if_neg w2]; decide
theorem kwDays_f (t : Nat) (k : Int32) : (sfDays t k = 0 ↔ kwDays t k = 0) ∧ (sfDays t k = nI 2 → kwDays t k = nI 1) ∧ (sfDays t k = nI 3 → kwDays t k = nI 2) ∧ ¬ sfDays t k = nI 1 := by
  unfold sfDays kwDays
  by_cases w : k < nI 1 ∨ nI 40 < k
  · rw [if_pos w, if_pos w]; decide
  · rw [if_neg w, if_neg w]
    by_cases w2 : nI (40 - t) < k
    · rw [if_pos w2, if_pos w2]; decide
    · rw [if_neg w2, if_neg w2]; decide
theorem kwSet_f (w v : Int32) : (sfSet w v = 0 ↔ kwSet w v = 0) ∧ (sfSet w v = nI 2 → kwSet w v = nI 1) ∧ ¬ sfSet w v = nI 1 ∧ ¬ sfSet w v = nI 3 := by
  unfold sfSet kwSet
  by_cases z : (w = 0 ∧ ¬ v < nI 1 ∧ ¬ nI 999 < v) ∨ (w = nI 1 ∧ ¬ v < 0 ∧ ¬ nI 9999 < v)
  · rw [if_pos z, if_pos z]; decide
  · rw [if_neg z, if_neg z]; decide
theorem kwOrd_f (h : zRel L K n t) (c d : Int32) : (sfOrder L t c d = 0 ↔ kwOrd K t c d = 0) ∧ (sfOrder L t c d = nI 1 → kwOrd K t c d = nI 1) ∧ (sfOrder L t c d = nI 3 → kwOrd K t c d = nI 2) ∧ ¬ sfOrder L t c d = nI 2 := by
  refine ⟨f_order h c d, ?_⟩
  unfold sfOrder kwOrd
  by_cases w : ¬ sHas L c ∨ ¬ sDay d
  · rw [if_pos w, if_pos (show ¬ sHas K c ∨ ¬ sDay d from w.imp (fun y z => y ((r_has h c).mpr z)) id)]; decide
  · rw [if_neg w, if_neg (show ¬ (¬ sHas K c ∨ ¬ sDay d) from fun z => w (z.imp (fun y z => y ((r_has h c).mp z)) id))]
    by_cases w2 : d < nI t
    · rw [if_pos w2, if_pos w2]; decide
    · rw [if_neg w2, if_neg w2]; decide
end ZX
