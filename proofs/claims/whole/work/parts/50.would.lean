/-! What would be: the first refusal, what a family needs, whom to entitle. -/
section ZU
variable {L K : zL} {n t : Nat} {B : Int}
theorem end_rel (h : zRel L K n t) : zRel (sDays n t (40 - t) L).2 (kEnd K n t) n 40 := by
  have ht := rt h
  obtain ⟨a, _⟩ := r_days h (40 - t) (by omega)
  rw [show t + (40 - t) = 40 by omega, kDays_eq n t K] at a
  exact a
theorem q_refused (h : zRel L K n t) (hk : zK0 L n t) {ck : Nat} (hc : ck < n) {r2 : Int32} (hr2 : (∃ d, t ≤ d ∧ d < 40 ∧ r2 = nI d ∧ kEnd K n t 9 (ck * 40 + d) = nI 4 ∧ ∀ e, t ≤ e → e < d → ¬ kEnd K n t 9 (ck * 40 + e) = nI 4) ∨ (r2 = -1 ∧ ∀ e, t ≤ e → e < 40 → ¬ kEnd K n t 9 (ck * 40 + e) = nI 4)) : sOpt (sSp L n t (L 1 ck) (nI ck) 40).1 = r2 := by
  have hn := rn h
  have ht := rt h
  have e9 : ∀ e, e < 40 → (sDays n t (40 - t) L).2 9 (ck * 40 + e) = kEnd K n t 9 (ck * 40 + e) := fun e he => r9 (end_rel h) (by omega)
  have hR : zRc (L 1 ck) (nI ck) L ck := ⟨Or.inr rfl, rfl⟩
  have hR2 : ∀ k, k < n → zRc (L 1 ck) (nI ck) L k → k = ck := fun k hkn z => by
    rcases z.1 with z | z
    · exact absurd z (zk_m1n (by omega))
    · exact (zk_eq (by omega) (by omega) z).symm
  obtain ⟨q, _, _⟩ := fm_days (f := L 1 ck) (ch := nI ck) hk hn (40 - t) (by omega)
  rw [show t + (40 - t) = 40 by omega] at q
  rcases q with ⟨q1, _, q3⟩ | ⟨d, q1, q2, q3, ⟨k, hkn, q4, q5⟩, q6⟩
  · rw [q1]
    rcases hr2 with ⟨d, d1, d2, _, d3, _⟩ | ⟨e, _⟩
    · rw [← e9 d d2] at d3
      exact absurd d3 (q3 ck d hc d1 d2 hR)
    · exact e.symm
  · rw [q1]
    have ek := hR2 k hkn q4
    subst ek
    rw [e9 d q3] at q5
    rcases hr2 with ⟨d', d1, d2, d3, d4, d5⟩ | ⟨_, e⟩
    · have : d = d' := by
        rcases Nat.lt_trichotomy d d' with w | w | w
        · exact absurd q5 (d5 d q2 w)
        · exact w
        · rw [← e9 d' d2] at d4
          exact absurd d4 (q6 k d' hkn d1 w hR)
      rw [d3, this]
      rfl
    · exact absurd q5 (e d q2 q3)
/-- sums of numbers -/
def ns (g : Nat → Nat) : Nat → Nat
  | 0 => 0
  | n + 1 => ns g n + g n
theorem zs_ns {f : Nat → Int32} {g : Nat → Nat} : ∀ {m : Nat}, (∀ k, k < m → f k = nI (g k)) → zs f m = nI (ns g m)
  | 0, _ => rfl
  | m + 1, h => by rw [zs_s, zs_ns (fun k hk => h k (by omega)), h m (by omega), nI_add]; rfl
theorem ns_le {g : Nat → Nat} {b : Nat} (h : ∀ k, g k ≤ b) : ∀ m, ns g m ≤ b * m
  | 0 => Nat.zero_le _
  | m + 1 => by have := ns_le h m; have := h m; rw [Nat.mul_succ]; show ns g m + g m ≤ _; omega
theorem ns_mono {g g2 : Nat → Nat} : ∀ {m : Nat}, (∀ k, k < m → g k ≤ g2 k) → ns g m ≤ ns g2 m
  | 0, _ => Nat.le_refl _
  | m + 1, h => by
    have := ns_mono (m := m) (fun k hk => h k (by omega))
    have := h m (by omega)
    show ns g m + g m ≤ ns g2 m + g2 m
    omega
theorem ns_eq {g g2 : Nat → Nat} : ∀ {m : Nat}, (∀ k, k < m → g k ≤ g2 k) → ns g m = ns g2 m → ∀ k, k < m → g k = g2 k
  | 0, _, _, k, hk => absurd hk (Nat.not_lt_zero k)
  | m + 1, h, e, k, hk => by
    have h1 := ns_mono (m := m) (fun k hk => h k (by omega))
    have h2 := h m (by omega)
    have e : ns g m + g m = ns g2 m + g2 m := e
    by_cases w : k = m
    · subst w
      omega
    · exact ns_eq (m := m) (fun k hk => h k (by omega)) (by omega) k (by omega)
theorem ns_cong {g g2 : Nat → Nat} : ∀ {m : Nat}, (∀ k, k < m → g k = g2 k) → ns g m = ns g2 m
  | 0, _ => rfl
  | m + 1, h => by
    show ns g m + g m = ns g2 m + g2 m
    rw [ns_cong (m := m) (fun k hk => h k (by omega)), h m (by omega)]
/-- how often a child is refused -/
def nR (K : zL) (f : Int32) (c : Nat) : Nat := if K 1 c = f then ns (fun i => if K 9 (c * 40 + i) = nI 4 then 1 else 0) 40 else 0
theorem nR_le (K : zL) (f : Int32) (c : Nat) : nR K f c ≤ 40 := by
  unfold nR
  split
  · exact ns_le (b := 1) (fun k => by split <;> omega) 40
  · omega
theorem kRefOf_n (K : zL) {n : Nat} (hn : n ≤ 12) (f : Int32) : kRefOf K n f = nI (ns (nR K f) n) := by
  unfold kRefOf
  refine zs_ns fun c hc => ?_
  unfold nR
  by_cases w : K 1 c = f
  · rw [if_pos w, if_pos w, kCnt_c hc hn]
    refine zs_ns fun i _ => ?_
    by_cases z : K 9 (c * 40 + i) = nI 4
    · rw [if_pos z, if_pos z]
    · rw [if_neg z, if_neg z]
  · rw [if_neg w, if_neg w]
/-- days gone by don't change -/
theorem days_old (L : zL) (n t : Nat) {k e : Nat} (he : e < t) (ht : t ≤ 40) : ∀ j, t + j ≤ 40 → (sDays n t j L).2 9 (k * 40 + e) = L 9 (k * 40 + e)
  | 0, _ => rfl
  | j + 1, hj => by
    show (zfold (sDayC n (t + j)) n (sDays n t j L)).2 9 (k * 40 + e) = _
    exact zfold_inv (f := sDayC n (t + j)) (P := fun x : Int32 × zL => x.2 9 (k * 40 + e) = L 9 (k * 40 + e)) (days_old L n t he ht j (by omega)) (fun i x hx => (dayC_9 x (show k * 40 + e ≠ i * 40 + (t + j) by omega)).trans hx) n
theorem days_1 (L : zL) (n t : Nat) : ∀ j, (sDays n t j L).2 1 = L 1
  | 0 => rfl
  | j + 1 => by
    show (zfold (sDayC n (t + j)) n (sDays n t j L)).2 1 = L 1
    exact zfold_inv (f := sDayC n (t + j)) (P := fun x : Int32 × zL => x.2 1 = L 1) (days_1 L n t j) (fun i x hx => (dayC_1 x).trans hx) n
/-- nobody of the family is refused: by spending, and by counting -/
theorem q_none (h : zRel L K n t) (hk : zK0 L n t) (f : Int32) : (sSp L n t f (-1) 40).1 = none ↔ kRefOf (kEnd K n t) n f = kRefOf K n f := by
  have hn := rn h
  have ht := rt h
  have hE := end_rel h
  have e1 : ∀ c, c < n → (kEnd K n t) 1 c = K 1 c := fun c hc => by rw [← r1 hE hc, days_1, r1 h hc]
  have e9 : ∀ c e, c < n → e < 40 → (sDays n t (40 - t) L).2 9 (c * 40 + e) = kEnd K n t 9 (c * 40 + e) := fun c e hc he => r9 hE (by omega)
  have old : ∀ c e, c < n → e < t → kEnd K n t 9 (c * 40 + e) = K 9 (c * 40 + e) := fun c e hc he => by
    rw [← e9 c e hc (by omega), days_old L n t he ht (40 - t) (by omega), r9 h (by omega)]
  have new : ∀ c e, c < n → t ≤ e → e < 40 → ¬ K 9 (c * 40 + e) = nI 4 := fun c e hc h1 h2 z => by
    rw [← r9 h (by omega)] at z
    rcases hk c e hc h1 h2 with w | w <;> rw [w] at z <;> exact absurd z (by decide)
  have le1 : ∀ c, c < n → ∀ i, i < 40 → (if K 9 (c * 40 + i) = nI 4 then 1 else 0) ≤ (if kEnd K n t 9 (c * 40 + i) = nI 4 then 1 else 0) := fun c hc i hi => by
    by_cases w : i < t
    · rw [old c i hc w]
      exact Nat.le_refl _
    · rw [if_neg (new c i hc (by omega) hi)]
      exact Nat.zero_le _
  have le2 : ∀ c, c < n → nR K f c ≤ nR (kEnd K n t) f c := fun c hc => by
    unfold nR
    rw [e1 c hc]
    by_cases w : K 1 c = f
    · rw [if_pos w, if_pos w]
      exact ns_mono (le1 c hc)
    · rw [if_neg w, if_neg w]
      exact Nat.le_refl _
  have key : (∀ c e, c < n → t ≤ e → e < 40 → K 1 c = f → ¬ kEnd K n t 9 (c * 40 + e) = nI 4) ↔ kRefOf (kEnd K n t) n f = kRefOf K n f := by
    rw [kRefOf_n _ hn, kRefOf_n _ hn]
    constructor
    · intro z
      congr 1
      refine ns_cong fun c hc => ?_
      unfold nR
      rw [e1 c hc]
      by_cases w : K 1 c = f
      · rw [if_pos w, if_pos w]
        refine ns_cong fun i hi => ?_
        by_cases w2 : i < t
        · rw [old c i hc w2]
        · rw [if_neg (z c i hc (by omega) hi w), if_neg (new c i hc (by omega) hi)]
      · rw [if_neg w, if_neg w]
    · intro z c e hc h1 h2 hf hz
      have b1 := ns_le (nR_le (kEnd K n t) f) n
      have b2 := ns_le (nR_le K f) n
      have z2 := zk_eq (by omega) (by omega) z
      have z3 := ns_eq le2 z2.symm c hc
      unfold nR at z3
      rw [e1 c hc, if_pos hf, if_pos hf] at z3
      have z4 := ns_eq (le1 c hc) z3 e h2
      rw [if_pos hz, if_neg (new c e hc h1 h2)] at z4
      exact absurd z4 (by decide)
  refine Iff.trans ?_ key
  obtain ⟨q, _, _⟩ := fm_days (f := f) (ch := -1) hk hn (40 - t) (by omega)
  rw [show t + (40 - t) = 40 by omega] at q
  rcases q with ⟨q1, _, q3⟩ | ⟨d, q1, q2, q3, ⟨k, hkn, q4, q5⟩, _⟩
  · refine ⟨fun _ c e hc h1 h2 hf z => ?_, fun _ => q1⟩
    rw [← e9 c e hc h2] at z
    exact q3 c e hc h1 h2 ⟨Or.inl rfl, (r1 h hc).trans hf⟩ z
  · constructor
    · intro z
      rw [q1] at z
      cases z
    · intro z
      rw [e9 k d hkn q3] at q5
      exact absurd q5 (z k d hkn q2 q3 ((r1 h hkn).symm.trans q4.2))
theorem q_try (h : zRel L K n t) (hk : zK0 L n t) (f : Int32) {lo : Nat} (hl : lo < n) (k : Nat) : nTry L n t f lo k ↔ kTry K n t f lo k := by
  have hr : zRel (up2 L 3 lo (L 3 lo + nI (100 * k))) (up2 K 3 lo (K 3 lo + nI (100 * k))) n t := by
    rw [r3 h hl]
    exact rel_3 h hl _
  have := q_none hr (k0_row hk rfl) f
  unfold nTry kTry
  rw [this]
  have e : kRefOf (up2 K 3 lo (K 3 lo + nI (100 * k))) n f = kRefOf K n f := rfl
  rw [e]
theorem q_needs (h : zRel L K n t) (hk : zK0 L n t) {f r r2 : Int32}
    (hr : (∃ lo, lo < n ∧ L 1 lo = f ∧ (∀ j, j < lo → ¬ L 1 j = f) ∧ ((∃ k, k ≤ 200 ∧ r = nI (100 * k) ∧ nTry L n t f lo k ∧ ∀ j, j < k → ¬ nTry L n t f lo j) ∨ (r = -1 ∧ ∀ j, j < 201 → ¬ nTry L n t f lo j))) ∨ (r = -1 ∧ ∀ j, j < n → ¬ L 1 j = f))
    (hr2 : (∃ lo, lo < n ∧ K 1 lo = f ∧ (∀ j, j < lo → ¬ K 1 j = f) ∧ ((∃ k, k ≤ 200 ∧ r2 = nI (100 * k) ∧ kTry K n t f lo k ∧ ∀ j, j < k → ¬ kTry K n t f lo j) ∨ (r2 = -1 ∧ ∀ j, j < 201 → ¬ kTry K n t f lo j))) ∨ (r2 = -1 ∧ ∀ j, j < n → ¬ K 1 j = f)) : r = r2 := by
  rcases hr with ⟨lo, hl, e1, e2, hr⟩ | ⟨hr, e0⟩
  · rcases hr2 with ⟨lo', hl', e1', e2', hr2⟩ | ⟨_, e0'⟩
    · have el : lo = lo' := by
        rcases Nat.lt_trichotomy lo lo' with w | w | w
        · exact absurd ((r1 h hl).symm.trans e1) (e2' lo w)
        · exact w
        · exact absurd ((r1 h hl').trans e1') (e2 lo' w)
      subst el
      have q := q_try h hk f hl
      rcases hr with ⟨k, k1, k2, k3, k4⟩ | ⟨k2, k4⟩
      · rcases hr2 with ⟨k', k1', k2', k3', k4'⟩ | ⟨k2', k4'⟩
        · have : k = k' := by
            rcases Nat.lt_trichotomy k k' with w | w | w
            · exact absurd ((q k).mp k3) (k4' k w)
            · exact w
            · exact absurd ((q k').mpr k3') (k4 k' w)
          rw [k2, k2', this]
        · exact absurd ((q k).mp k3) (k4' k (by omega))
      · rcases hr2 with ⟨k', k1', k2', k3', k4'⟩ | ⟨k2', k4'⟩
        · exact absurd ((q k').mpr k3') (k4 k' (by omega))
        · rw [k2, k2']
    · exact absurd ((r1 h hl).symm.trans e1) (e0' lo hl)
  · rcases hr2 with ⟨lo', hl', e1', _⟩ | ⟨hr2, _⟩
    · exact absurd ((r1 h hl').trans e1') (e0 lo' hl')
    · rw [hr, hr2]
end ZU
