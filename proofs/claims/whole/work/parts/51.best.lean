/-! Whom to entitle: the class counts since today, the model counts all. -/
section ZV
variable {L K : zL} {n t : Nat}
theorem zs_zr (G : Nat → Int32) {t : Nat} : ∀ m, t ≤ m → zs G m = zs G t + zr G t m
  | 0, h => by
    have e : t = 0 := by omega
    subst e
    exact (zk_a0 _).symm
  | m + 1, h => by
    by_cases w : t = m + 1
    · subst w
      rw [zr_0 (Nat.le_refl _)]
      exact (zk_a0 _).symm
    · have ih := zs_zr G (t := t) m (by omega)
      rw [zs_s, ih, zr, if_pos (show t ≤ m by omega), Int32.add_assoc]
theorem zr_leN {f : Nat → Int32} {a t : Nat} (h : ∀ k, ∃ m, m ≤ a ∧ f k = nI m) : ∀ n, ∃ m, m ≤ a * n ∧ zr f t n = nI m
  | 0 => ⟨0, by omega, rfl⟩
  | n + 1 => by
    obtain ⟨m, hm, e⟩ := zr_leN (t := t) h n
    obtain ⟨m2, hm2, e2⟩ := h n
    rw [zr, Nat.mul_succ]
    by_cases w : t ≤ n
    · rw [if_pos w]
      exact ⟨m + m2, by omega, by rw [e, e2, nI_add]⟩
    · rw [if_neg w]
      exact ⟨0, by omega, rfl⟩
theorem settle_4 (X : zL) (c d p : Nat) : (sSettle X c d) 9 p = nI 4 ↔ X 9 p = nI 4 := by
  unfold sSettle
  by_cases w : X 9 (c * 40 + d) = nI 2 ∧ sEnt X c d
  · rw [if_pos w]
    show up2 X 9 (c * 40 + d) (nI 3) 9 p = nI 4 ↔ _
    by_cases e : p = c * 40 + d
    · rw [e, up2_v, w.1]
      exact ⟨fun z => absurd z (by decide), fun z => absurd z (by decide)⟩
    · rw [up2_j e]
  · rw [if_neg w]
    by_cases w3 : X 9 (c * 40 + d) = nI 3 ∧ ¬ sEnt X c d
    · rw [if_pos w3]
      show up2 X 9 (c * 40 + d) (nI 2) 9 p = nI 4 ↔ _
      by_cases e : p = c * 40 + d
      · rw [e, up2_v, w3.1]
        exact ⟨fun z => absurd z (by decide), fun z => absurd z (by decide)⟩
      · rw [up2_j e]
    · rw [if_neg w3]
theorem entitle_4 (L : zL) (c : Nat) (fr to : Int32) (p : Nat) : ∀ k, (sEntitle L k c fr to) 9 p = nI 4 ↔ L 9 p = nI 4
  | 0 => Iff.rfl
  | k + 1 => (settle_4 (sEntitle L k c fr to) c k p).trans (entitle_4 L c fr to p k)
/-- refused before today -/
def c0 (L : zL) (n t : Nat) : Int32 := zs (fun d => zs (fun i => if L 9 (i * 40 + d) = nI 4 then nI 1 else nI 0) n) t
theorem best_c (h : zRel L K n t) {c : Nat} (hc : c < n) : kBC K n t c = c0 L n t + bCnt L n t c := by
  have hn := rn h
  have ht := rt h
  have hX := r_entitle h hc (nI 0) (nI 39) t ht
  have hE := end_rel hX
  have e1 : kBC K n t c = zs (fun d => zs (fun i => if (kEnd (sEntitle K t c (nI 0) (nI 39)) n t) 9 (i * 40 + d) = nI 4 then nI 1 else nI 0) n) 40 := by
    unfold kBC
    rw [kCnt_all]
    unfold kAll
    exact zs_swap (fun i d => if (kEnd (sEntitle K t c (nI 0) (nI 39)) n t) 9 (i * 40 + d) = nI 4 then nI 1 else nI 0) 40 n
  have e2 : zs (fun d => zs (fun i => if (kEnd (sEntitle K t c (nI 0) (nI 39)) n t) 9 (i * 40 + d) = nI 4 then nI 1 else nI 0) n) 40 = zs (fun d => zs (fun i => if (sDays n t (40 - t) (sEntitle L t c (nI 0) (nI 39))).2 9 (i * 40 + d) = nI 4 then nI 1 else nI 0) 12) 40 := by
    refine zs_cong fun d hd => ?_
    show zs (fun i => if (kEnd (sEntitle K t c (nI 0) (nI 39)) n t) 9 (i * 40 + d) = nI 4 then nI 1 else nI 0) n = zs (fun i => if (sDays n t (40 - t) (sEntitle L t c (nI 0) (nI 39))).2 9 (i * 40 + d) = nI 4 then nI 1 else nI 0) 12
    rw [cnt12 hE hd (show ¬ nI 0 = nI 4 by decide), kCnt_d hd]
  have e3 : zs (fun d => zs (fun i => if (sDays n t (40 - t) (sEntitle L t c (nI 0) (nI 39))).2 9 (i * 40 + d) = nI 4 then nI 1 else nI 0) 12) t = c0 L n t := by
    unfold c0
    refine zs_cong fun d hd => ?_
    show zs (fun i => if (sDays n t (40 - t) (sEntitle L t c (nI 0) (nI 39))).2 9 (i * 40 + d) = nI 4 then nI 1 else nI 0) 12 = zs (fun i => if L 9 (i * 40 + d) = nI 4 then nI 1 else nI 0) n
    refine (r_cut hE _ (fun k a b => ?_)).trans (zs_cong fun i _ => ?_)
    · show (if (sDays n t (40 - t) (sEntitle L t c (nI 0) (nI 39))).2 9 (k * 40 + d) = nI 4 then nI 1 else nI 0) = nI 0
      rw [rZ hE a b (by omega), if_neg (by decide)]
    · show (if (sDays n t (40 - t) (sEntitle L t c (nI 0) (nI 39))).2 9 (i * 40 + d) = nI 4 then nI 1 else nI 0) = _
      rw [days_old _ n t hd ht (40 - t) (by omega)]
      exact zk_ifc (entitle_4 L c (nI 0) (nI 39) (i * 40 + d) t)
  rw [e1, e2, zs_zr _ 40 ht, e3]
  rfl
theorem bCnt_n (L : zL) (n t c : Nat) : ∃ m, m ≤ 480 ∧ bCnt L n t c = nI m := by
  unfold bCnt
  obtain ⟨m, hm, e⟩ := zr_leN (a := 12) (t := t) (f := fun j => zs (fun i => if (sDays n t (40 - t) (sEntitle L t c (nI 0) (nI 39))).2 9 (i * 40 + j) = nI 4 then nI 1 else nI 0) 12) (fun j => zs_le (a := 1) (f := fun i => if (sDays n t (40 - t) (sEntitle L t c (nI 0) (nI 39))).2 9 (i * 40 + j) = nI 4 then nI 1 else nI 0) zs_01 12) 40
  exact ⟨m, hm, e⟩
theorem c0_n (L : zL) (n t : Nat) : ∃ m, m ≤ 1 * n * t ∧ c0 L n t = nI m := zs_le (f := fun d => zs (fun i => if L 9 (i * 40 + d) = nI 4 then nI 1 else nI 0) n) (fun d => zs_le (a := 1) (f := fun i => if L 9 (i * 40 + d) = nI 4 then nI 1 else nI 0) zs_01 n) t
theorem best_k (h : zRel L K n t) {q : Nat} (hq : q ≤ 480) (e0 : c0 L n t = nI q) (k : Nat) (hk : k ≤ n) : (sBest L n t k).1 = (kBest K n t k).1 ∧ ((sBest L n t k).1 = -1 ∨ ∃ b, b ≤ 480 ∧ (sBest L n t k).2 = nI b ∧ (kBest K n t k).2 = nI (q + b)) := by
  induction k with
  | zero =>
    have e1 : (sBest L n t 0).1 = -1 := rfl
    have e2 : (kBest K n t 0).1 = -1 := rfl
    exact ⟨e1.trans e2.symm, Or.inl e1⟩
  | succ k ih =>
    obtain ⟨a, b⟩ := ih (by omega)
    have es : sBest L n t (k + 1) = bStep L n t k (sBest L n t k) := rfl
    have ek : kBest K n t (k + 1) = kBStep K n t k (kBest K n t k) := rfl
    rw [es, ek]
    revert a b
    generalize sBest L n t k = x
    generalize kBest K n t k = y
    intro a b
    obtain ⟨m, hm, em⟩ := bCnt_n L n t k
    have eK : kBC K n t k = nI (q + m) := by rw [best_c h (by omega), e0, em, nI_add]
    unfold bStep kBStep
    rw [em, eK]
    have hc : (x.1 = -1 ∨ nI m < x.2) ↔ (y.1 = -1 ∨ nI (q + m) < y.2) := by
      rw [← a]
      rcases b with b | ⟨b, hb, e1, e2⟩
      · exact ⟨fun _ => Or.inl b, fun _ => Or.inl b⟩
      · rw [e1, e2]
        refine or_congr Iff.rfl ?_
        rw [nI_ltI (by omega) (by omega), nI_ltI (by omega) (by omega)]
        omega
    by_cases w : x.1 = -1 ∨ nI m < x.2
    · rw [if_pos w, if_pos (hc.mp w)]
      show nI k = nI k ∧ (nI k = -1 ∨ ∃ b, b ≤ 480 ∧ nI m = nI b ∧ nI (q + m) = nI (q + b))
      exact ⟨rfl, Or.inr ⟨m, hm, rfl, rfl⟩⟩
    · rw [if_neg w, if_neg (fun z => w (hc.mpr z))]
      exact ⟨a, b⟩
theorem q_best (h : zRel L K n t) : (sBest L n t n).1 = (kBest K n t n).1 := by
  obtain ⟨q, hq, e⟩ := c0_n L n t
  have hn := rn h
  have ht := rt h
  have : 1 * n * t ≤ 12 * 40 := Nat.mul_le_mul (by omega) ht
  exact (best_k h (by omega) e n (Nat.le_refl n)).1
end ZV
