/-! The text, side by side. -/
theorem tNums_snoc (ch : Nat → Int32) (n : Nat) (k : Int32) : ∀ (xs : List Int32) (p : Nat), tNums ch n (xs ++ [k]) p = (match tNums ch n xs p with | (none, q) => (none, q) | (some bs, q) => (match tNum ch n k q with | (none, r) => (none, r) | (some b, r) => (some (bs ++ [b]), r)))
  | [], p => by
    show (match tNum ch n k p with | (none, q) => (none, q) | (some b, q) => (match tNums ch n [] q with | (none, r) => (none, r) | (some bs, r) => (some (b :: bs), r))) = (match tNum ch n k p with | (none, r) => (none, r) | (some b, r) => (some ([] ++ [b]), r))
    rcases tNum ch n k p with ⟨_ | b, r⟩ <;> rfl
  | x :: xs, p => by
    show (match tNum ch n x p with | (none, q) => (none, q) | (some b, q) => (match tNums ch n (xs ++ [k]) q with | (none, r) => (none, r) | (some bs, r) => (some (b :: bs), r))) = (match (match tNum ch n x p with | (none, q) => (none, q) | (some b, q) => (match tNums ch n xs q with | (none, r) => (none, r) | (some bs, r) => (some (b :: bs), r))) with | (none, q) => (none, q) | (some bs, q) => (match tNum ch n k q with | (none, r) => (none, r) | (some b, r) => (some (bs ++ [b]), r)))
    rcases tNum ch n x p with ⟨_ | b, q⟩
    · rfl
    · show (match tNums ch n (xs ++ [k]) q with | (none, r) => (none, r) | (some bs, r) => (some (b :: bs), r)) = (match (match tNums ch n xs q with | (none, r) => (none, r) | (some bs, r) => (some (b :: bs), r)) with | (none, q) => (none, q) | (some bs, q) => (match tNum ch n k q with | (none, r) => (none, r) | (some b, r) => (some (bs ++ [b]), r)))
      rw [tNums_snoc ch n k xs q]
      rcases tNums ch n xs q with ⟨_ | bs, r⟩
      · rfl
      · show (match (match tNum ch n k r with | (none, r) => (none, r) | (some b, r) => (some (bs ++ [b]), r)) with | (none, r) => (none, r) | (some bs, r) => (some (b :: bs), r)) = (match tNum ch n k r with | (none, r) => (none, r) | (some c, r) => (some ((b :: bs) ++ [c]), r))
        rcases tNum ch n k r with ⟨_ | c, s⟩ <;> rfl
theorem tNums_sn {ch : Nat → Int32} {n p q : Nat} {k : Int32} {xs : List Int32} (h : tNums ch n xs p = (none, q)) : tNums ch n (xs ++ [k]) p = (none, q) := by rw [tNums_snoc, h]
theorem tNums_ss {ch : Nat → Int32} {n p q : Nat} {k : Int32} {xs : List Int32} {bs : List Nat} (h : tNums ch n xs p = (some bs, q)) : tNums ch n (xs ++ [k]) p = ((tNum ch n k q).1.map (fun b => bs ++ [b]), (tNum ch n k q).2) := by
  rw [tNums_snoc, h]
  show (match tNum ch n k q with | (none, r) => (none, r) | (some c, r) => (some (bs ++ [c]), r)) = _
  rcases tNum ch n k q with ⟨_ | c, s⟩ <;> rfl
theorem tSet_02 (X : zL) (i : Nat) (R : Option Nat × Nat) : tSet X i R 0 2 = X 0 2 := by
  unfold tSet
  rcases R with ⟨_ | b, q⟩ <;> rfl
theorem tSet_v {X : zL} {i b q : Nat} : tSet X i (some b, q) 2 i = nI b := up2_v (L := tPos X q)
theorem tSet_o {X : zL} {i j : Nat} {R : Option Nat × Nat} (h : j ≠ i) : tSet X i R 2 j = X 2 j := by
  unfold tSet
  rcases R with ⟨_ | b, q⟩
  · rfl
  · exact up2_j (L := tPos X q) h
theorem getD_sl {bs : List Nat} {b j : Nat} (h : j < bs.length) : (bs ++ [b]).getD j 0 = bs.getD j 0 := by rw [List.getD_eq_getElem?_getD, List.getD_eq_getElem?_getD, List.getElem?_append_left h]
theorem getD_se (bs : List Nat) (b : Nat) : (bs ++ [b]).getD bs.length 0 = b := by
  rw [List.getD_eq_getElem?_getD, List.getElem?_append_right (Nat.le_refl _), Nat.sub_self]
  rfl
/-- the class's reader of numbers is the list's -/
theorem tGo_nums (ch ks : Nat → Int32) (n p : Nat) (X : zL) : ∀ i, (tGo ch n ks p X i).1 = (tNums ch n ((List.range i).map ks) p).1.isSome ∧ (tGo ch n ks p X i).2.1 = (tNums ch n ((List.range i).map ks) p).2 ∧ (tGo ch n ks p X i).2.2 0 2 = X 0 2 ∧ ∀ bs, (tNums ch n ((List.range i).map ks) p).1 = some bs → bs.length = i ∧ ∀ j, j < i → (tGo ch n ks p X i).2.2 2 j = nI (bs.getD j 0)
  | 0 => ⟨rfl, rfl, rfl, fun bs h => by cases h; exact ⟨rfl, fun j hj => absurd hj (Nat.not_lt_zero j)⟩⟩
  | i + 1 => by
    obtain ⟨h1, h2, h3, h4⟩ := tGo_nums ch ks n p X i
    rw [List.range_succ, List.map_append, List.map_cons, List.map_nil]
    revert h1 h2 h3 h4
    rcases hR : tNums ch n ((List.range i).map ks) p with ⟨_ | bs, q⟩
    · intro h1 h2 h3 h4
      rw [tNums_sn hR]
      have e := tGo_no (ch := ch) (ks := ks) (n := n) (p := p) (X := X) (i := i) h1 1
      rw [show tGo ch n ks p X (i + 1) = tGo ch n ks p X i from e]
      exact ⟨h1, h2, h3, fun bs h => by cases h⟩
    · intro h1 h2 h3 h4
      rw [tNums_ss hR]
      have e : (true, q, (tGo ch n ks p X i).2.2) = tGo ch n ks p X i := Prod.ext h1.symm (Prod.ext h2.symm rfl)
      rw [tGo_s e]
      obtain ⟨h5, h6⟩ := h4 bs rfl
      refine ⟨?_, rfl, (tSet_02 _ _ _).trans h3, fun cs hc => ?_⟩
      · show (tNum ch n (ks i) q).1.isSome = ((tNum ch n (ks i) q).1.map (fun b => bs ++ [b])).isSome
        rcases (tNum ch n (ks i) q).1 with _ | b <;> rfl
      · revert hc
        rcases hq : tNum ch n (ks i) q with ⟨_ | b, r⟩
        · intro hc; cases hc
        · intro hc
          cases hc
          refine ⟨by rw [List.length_append, h5]; rfl, fun j hj => ?_⟩
          show tSet (tGo ch n ks p X i).2.2 i (some b, r) 2 j = nI ((bs ++ [b]).getD j 0)
          by_cases w : j = i
          · have e9 := getD_se bs b
            rw [h5] at e9
            rw [w, tSet_v, e9]
          · rw [tSet_o w, h6 j (by omega), getD_sl (by omega)]
theorem zk_map : ∀ i, i < 8 → (List.range (zk_sl.getD i 0)).map (zk_ch i) = zk_sb.getD i [] := by decide +kernel
/-- a command is read by both -/
theorem tRd_cmd {T : zL} {n p : Nat} (hp : p < n) : (tRd T n p).1 = (tCmd (T 1) n p).1.isSome ∧ (tRd T n p).2.1 = (tCmd (T 1) n p).2 ∧ (tRd T n p).2.2 0 2 = T 1 p ∧ ∀ bs, (tCmd (T 1) n p).1 = some bs → ∀ j, j < bs.length → (tRd T n p).2.2 2 j = nI (bs.getD j 0) := by
  by_cases h : zk_sl.getD (tStr (T 1 p)) 0 = 0
  · rw [show tRd T n p = (false, p, up2 T 0 2 (T 1 p)) from (if_neg (fun z => z hp)).trans (if_pos h), show tCmd (T 1) n p = (none, p) from (if_neg (fun z => z hp)).trans (if_pos h)]
    exact ⟨rfl, rfl, (show up2 T 0 2 (T 1 p) 0 2 = T 1 p from up2_v), fun bs h => by cases h⟩
  · rw [show tRd T n p = tGo (T 1) n (zk_ch (tStr (T 1 p))) (p + 1) (tPos (up2 T 0 2 (T 1 p)) (p + 1)) (zk_sl.getD (tStr (T 1 p)) 0) from (if_neg (fun z => z hp)).trans (if_neg h), show tCmd (T 1) n p = tNums (T 1) n (zk_sb.getD (tStr (T 1 p)) []) (p + 1) from (if_neg (fun z => z hp)).trans (if_neg h), ← zk_map _ (tStr_lt (T 1 p))]
    obtain ⟨h1, h2, h3, h4⟩ := tGo_nums (T 1) (zk_ch (tStr (T 1 p))) n (p + 1) (tPos (up2 T 0 2 (T 1 p)) (p + 1)) (zk_sl.getD (tStr (T 1 p)) 0)
    refine ⟨h1, h2, h3.trans ?_, fun bs hb j hj => ?_⟩
    · show up2 (up2 T 0 2 (T 1 p)) 0 1 (nI (p + 1)) 0 2 = T 1 p
      rw [up2_j (by decide), up2_v]
    · obtain ⟨h5, h6⟩ := h4 bs hb
      exact h6 j (by omega)
/-- what reading gives isn't less than the least -/
theorem tRange_lo {ch : Nat → Int32} {n lo hi : Nat} : ∀ {k b p v : Nat}, 1 ≤ k → (tRange ch n lo hi k b p).1 = some v → lo ≤ v
  | 0, _, _, _, h, _ => absurd h (by decide)
  | k + 1, b, p, v, _, h => by
    unfold tRange at h
    by_cases h1 : ¬ p < n
    · rw [if_pos h1] at h
      cases h
    · rw [if_neg h1] at h
      by_cases h2 : ch p - nI 48 < 0 ∨ nI 9 < ch p - nI 48
      · rw [if_pos h2] at h
        cases h
      · rw [if_neg h2] at h
        by_cases h3 : hi < (10 * b + tDig (ch p)) * 10 ^ k ∨ (10 * b + tDig (ch p) + 1) * 10 ^ k - 1 < lo
        · rw [if_pos h3] at h
          cases h
        · rw [if_neg h3] at h
          cases k with
          | zero =>
            have e : 10 * b + tDig (ch p) = v := Option.some.inj h
            have := fun z => h3 (Or.inr z)
            rw [Nat.pow_zero, Nat.mul_one] at this
            omega
          | succ j => exact tRange_lo (by omega) h
theorem t1_inv {A : Nat → Option Nat × Nat} {p q : Nat} {bs : List Nat} (h : t1 A p = (some bs, q)) : ∃ a, (A p).1 = some a ∧ bs = [a] := by
  unfold t1 at h
  revert h
  rcases A p with ⟨_ | a, r⟩ <;> intro h
  · cases h
  · cases h; exact ⟨a, rfl, rfl⟩
theorem t2_inv {A B : Nat → Option Nat × Nat} {p q : Nat} {bs : List Nat} (h : t2 A B p = (some bs, q)) : ∃ a b, (A p).1 = some a ∧ (B (A p).2).1 = some b ∧ bs = [a, b] := by
  rcases hA : (A p).1 with _ | a
  · rw [t2_n hA] at h; cases h
  · rcases hB : (B (A p).2).1 with _ | b
    · rw [t2_sn hA hB] at h; cases h
    · rw [t2_ss hA hB] at h; cases h; exact ⟨a, b, rfl, rfl, rfl⟩
/-- a command that was read can be done alike -/
theorem tCmd_dk {ch : Nat → Int32} {n p q : Nat} {bs : List Nat} (hp : p < n) (h : tCmd ch n p = (some bs, q)) : kDk2 (ch p) (nI (bs.getD 0 0)) (nI (bs.getD 1 0)) ∧ (ch p = nI 104 ∨ ch p = nI 100 → bs.length = 1) ∧ (¬ (ch p = nI 104 ∨ ch p = nI 100) → 2 ≤ bs.length) ∧ (ch p = nI 101 → bs.length = 3) := by
  have r : ∀ {lo hi k p v : Nat}, 1 ≤ k → (rF ch n lo hi k p).1 = some v → lo ≤ v ∧ v ≤ hi := fun hk hv => ⟨tRange_lo hk hv, tRange_in hk hv⟩
  have n3 : ∀ {k : Nat}, k ≤ 3 → ¬ nI k < 0 ∧ ¬ nI 3 < nI k := fun hk => ⟨nI_pos (by omega), fun z => by have := zk_lt (by omega) (by omega) z; omega⟩
  by_cases h1 : ch p = nI 99
  · rw [tCmd_99 hp h1] at h
    obtain ⟨a, b, ha, hb, e⟩ := t2_inv h
    have ra := r (by decide) ha
    have rb := r (by decide) hb
    subst e
    rw [h1]
    exact ⟨⟨kDok_c (show a < 5 by omega), fun _ => n3 rb.2, fun z => absurd z (by decide), Or.inl rfl⟩, fun z => absurd z (by decide), fun _ => (Nat.le_refl 2), fun z => absurd z (by decide)⟩
  · by_cases h2 : ch p = nI 109
    · rw [tCmd_109 hp h2] at h
      obtain ⟨a, b, ha, hb, e⟩ := t2_inv h
      have ra := r (by decide) ha
      have rb := r (by decide) hb
      subst e
      rw [h2]
      exact ⟨⟨kDok_m (show a < 40 by omega), fun _ => n3 rb.2, fun z => absurd z (by decide), Or.inr (Or.inl rfl)⟩, fun z => absurd z (by decide), fun _ => (Nat.le_refl 2), fun z => absurd z (by decide)⟩
    · by_cases h3 : ch p = nI 111
      · rw [tCmd_111 hp h3] at h
        obtain ⟨a, b, ha, hb, e⟩ := t2_inv h
        subst e
        rw [h3]
        exact ⟨⟨kDok_o _, fun z => absurd z (by decide), fun z => absurd z (by decide), Or.inr (Or.inr (Or.inl rfl))⟩, fun z => absurd z (by decide), fun _ => (Nat.le_refl 2), fun z => absurd z (by decide)⟩
      · by_cases h4 : ch p = nI 112
        · rw [tCmd_112 hp h4] at h
          obtain ⟨a, b, ha, hb, e⟩ := t2_inv h
          have rb := r (by decide) hb
          subst e
          rw [h4]
          exact ⟨⟨kDok_p _, fun z => absurd z (by decide), fun _ => ⟨fun z => by have := zk_lt (show b < 2 ^ 31 by omega) (by omega) z; omega, fun z => by have := zk_lt (by omega) (show b < 2 ^ 31 by omega) z; omega⟩, Or.inr (Or.inr (Or.inr (Or.inl rfl)))⟩, fun z => absurd z (by decide), fun _ => (Nat.le_refl 2), fun z => absurd z (by decide)⟩
        · by_cases h5 : ch p = nI 101
          · rw [tCmd_101 hp h5] at h
            rcases hA : (rF ch n 0 11 2 (p + 1)).1 with _ | a
            · rw [t3_n hA] at h; cases h
            · rw [t3_s hA] at h
              rcases hB : t2 (rF ch n 0 39 2) (rF ch n 0 39 2) (rF ch n 0 11 2 (p + 1)).2 with ⟨_ | cs, s⟩
              · rw [hB] at h; cases h
              · obtain ⟨b, c, hb, hc, e⟩ := t2_inv hB
                rw [hB] at h
                cases h
                subst e
                rw [h5]
                exact ⟨⟨kDok_e _, fun z => absurd z (by decide), fun z => absurd z (by decide), Or.inr (Or.inr (Or.inr (Or.inr (Or.inl rfl))))⟩, fun z => absurd z (by decide), fun _ => (by decide : 2 ≤ 3), fun _ => rfl⟩
          · by_cases h6 : ch p = nI 104
            · rw [tCmd_104 hp h6] at h
              obtain ⟨a, ha, e⟩ := t1_inv h
              have ra := r (by decide) ha
              subst e
              rw [h6]
              exact ⟨⟨kDok_h (show a < 5 by omega), fun z => absurd z (by decide), fun z => absurd z (by decide), Or.inr (Or.inr (Or.inr (Or.inr (Or.inr (Or.inl rfl)))))⟩, fun _ => rfl, fun z => absurd (Or.inl rfl) z, fun z => absurd z (by decide)⟩
            · by_cases h7 : ch p = nI 100
              · rw [tCmd_100 hp h7] at h
                obtain ⟨a, ha, e⟩ := t1_inv h
                subst e
                rw [h7]
                exact ⟨⟨kDok_d _, fun z => absurd z (by decide), fun z => absurd z (by decide), Or.inr (Or.inr (Or.inr (Or.inr (Or.inr (Or.inr rfl)))))⟩, fun _ => rfl, fun z => absurd (Or.inr rfl) z, fun z => absurd z (by decide)⟩
              · rw [tCmd_no hp h1 h2 h3 h4 h5 h6 h7] at h
                cases h
theorem cT_104 (L : zL) (n t : Nat) (a b c : Int32) : cText L n t (nI 104) a b c = tyFlip L a := rfl
theorem cT_100 (L : zL) (n t : Nat) (a b c : Int32) : cText L n t (nI 100) a b c = tyDays L n t a := rfl
theorem cT_no (L : zL) (n t : Nat) {k : Int32} (a b c c2 : Int32) (h : ¬ k = nI 101) : cText L n t k a b c = cText L n t k a b c2 := by
  unfold cText
  rw [if_neg h, if_neg h]
/-- a command done by both -/
theorem j_cmdT {L K : zL} {n t N p q : Nat} {B : Int} {T : zL} {bs : List Nat} (h : zW B L K n t) (hB : 9999 ≤ B) (hB2 : B ≤ 100000000) (hp : p < N) (hc : tCmd (T 1) N p = (some bs, q)) : zJ (B + 40000) (cText L n t ((tRd T N p).2.2 0 2) ((tRd T N p).2.2 2 0) ((tRd T N p).2.2 2 1) ((tRd T N p).2.2 2 2)) (kDoes K n t (T 1 p) (nI (bs.getD 0 0)) (nI (bs.getD 1 0)) (nI (bs.getD 2 0))) := by
  obtain ⟨_, _, h3, h4⟩ := tRd_cmd (T := T) hp
  obtain ⟨d1, d2, d3, d4⟩ := tCmd_dk hp hc
  have h4 := h4 bs (by rw [hc])
  have e : cText L n t ((tRd T N p).2.2 0 2) ((tRd T N p).2.2 2 0) ((tRd T N p).2.2 2 1) ((tRd T N p).2.2 2 2) = cText L n t (T 1 p) (nI (bs.getD 0 0)) (nI (bs.getD 1 0)) (nI (bs.getD 2 0)) := by
    rw [h3]
    by_cases w : T 1 p = nI 104 ∨ T 1 p = nI 100
    · have l1 := d2 w
      rw [h4 0 (by omega)]
      rcases w with w | w
      · rw [w, cT_104, cT_104]
      · rw [w, cT_100, cT_100]
    · have l2 := d3 w
      rw [h4 0 (by omega), h4 1 (by omega)]
      by_cases w5 : T 1 p = nI 101
      · have l3 := d4 w5
        rw [h4 2 (by omega)]
      · exact cT_no L n t _ _ _ _ w5
  rw [e]
  exact j_text h hB hB2 d1
-- the first pass
theorem tEr_k {T : zL} {n : Nat} (k : Nat) : (zfold (fun _ x => tStep n x) k (tSt T n)).1 = (zfold (fun _ x => kTStep (T 1) n x) k (kT0 (T 1) n)).1 ∧ (zfold (fun _ x => tStep n x) k (tSt T n)).2.1 = (zfold (fun _ x => kTStep (T 1) n x) k (kT0 (T 1) n)).2.1 ∧ (zfold (fun _ x => tStep n x) k (tSt T n)).2.2 1 = T 1 := by
  induction k with
  | zero =>
    show (tSt T n).1 = (kT0 (T 1) n).1 ∧ (tSt T n).2.1 = (kT0 (T 1) n).2.1 ∧ (tSt T n).2.2 1 = T 1
    unfold tSt kT0
    by_cases w : n = 0 ∨ ¬ T 1 0 = nI 83
    · rw [if_pos w, if_pos w]; exact ⟨rfl, rfl, rfl⟩
    · rw [if_neg w, if_neg w]; exact ⟨rfl, rfl, rfl⟩
  | succ k ih =>
    obtain ⟨a, b, c⟩ := ih
    rw [zfold_s, zfold_s]
    revert a b c
    generalize zfold (fun _ x => tStep n x) k (tSt T n) = x
    generalize zfold (fun _ x => kTStep (T 1) n x) k (kT0 (T 1) n) = y
    intro a b c
    obtain ⟨x1, x2, X⟩ := x
    obtain ⟨y1, y2, K, o⟩ := y
    have a : x1 = y1 := a
    have b : x2 = y2 := b
    have c2 : X 1 = T 1 := c
    subst a
    subst b
    by_cases w : x1 = true ∧ x2 < n
    · obtain ⟨w1, w2⟩ := w
      subst w1
      rw [show tStep n (true, x2, X) = tRd X n x2 from if_pos ⟨rfl, w2⟩]
      obtain ⟨h1, h2, _, _⟩ := tRd_cmd (T := X) w2
      rw [c2] at h1 h2
      have h5 : (tRd X n x2).2.2 1 = T 1 := tRd_1.trans c2
      rcases hC : tCmd (T 1) n x2 with ⟨_ | bs, q⟩
      · rw [kTS_none w2 hC]
        rw [hC] at h1 h2
        exact ⟨h1, h2, h5⟩
      · rw [kTS_some w2 hC]
        rw [hC] at h1 h2
        exact ⟨h1, h2, h5⟩
    · rw [show tStep n (x1, x2, X) = (x1, x2, X) from if_neg w, show kTStep (T 1) n (x1, x2, K, o) = (x1, x2, K, o) from if_neg w]
      exact ⟨rfl, rfl, c2⟩
theorem tEr_kText (T : zL) (n : Nat) : (tEr T n).1 = (kText (T 1) n).1 ∧ (tEr T n).2.1 = (kText (T 1) n).2.1 ∧ (tEr T n).2.2 1 = T 1 := by
  unfold tEr kText
  exact tEr_k 120
-- the second pass
theorem kTS_back {ch : Nat → Int32} {n : Nat} {y : Bool × Nat × zL × Int32} (h : (kTStep ch n y).1 = true) : y.1 = true := by
  unfold kTStep at h
  by_cases w : y.1 = true ∧ y.2.1 < n
  · exact w.1
  · rw [if_neg w] at h
    exact h
theorem kT_back {ch : Nat → Int32} {n a : Nat} : ∀ k, (zfold (fun _ x => kTStep ch n x) (a + k) (kT0 ch n)).1 = true → (zfold (fun _ x => kTStep ch n x) a (kT0 ch n)).1 = true
  | 0, h => h
  | k + 1, h => kT_back k (kTS_back h)
theorem w_new (L : zL) : zW 9999 (sClear L) zL0 0 0 := by
  refine ⟨⟨⟨sInv_clear L, ⟨rfl, by decide, rfl, by decide, fun c hc => absurd hc (Nat.not_lt_zero c), fun p _ h => absurd (show nI 0 = nI 2 from h) (by decide)⟩⟩, fun j hj => ?_, fun c hc => absurd hc (Nat.not_lt_zero c), fun d _ => rfl, fun f _ => ⟨rfl, rfl⟩, fun p _ => rfl, fun p _ e => absurd (show nI 0 = nI 2 from e) (by decide), fun c d _ _ _ => rfl, fun c _ _ => rfl, (by decide : ¬ nI 250 < nI 1)⟩, g_mono (g_clear L) (by decide), fun c d hc => absurd hc (Nat.not_lt_zero c), fun f _ => Or.inl rfl⟩
  rcases (show j = 0 ∨ j = 1 ∨ j = 2 ∨ j = 3 ∨ j = 4 by omega) with e | e | e | e | e <;> subst e <;> rfl
theorem l_kText {T L : zL} {n : Nat} (h : (kText (T 1) n).1 = true) (k : Nat) (hk : k ≤ 120) : (lRun T L n k).1 = (zfold (fun _ x => kTStep (T 1) n x) k (kT0 (T 1) n)).2.2.2 ∧ (lRun T L n k).2.1.2.1 = (zfold (fun _ x => kTStep (T 1) n x) k (kT0 (T 1) n)).2.1 ∧ (lRun T L n k).2.1.2.2 1 = T 1 ∧ zW (9999 + 40000 * (k : Int)) (lRun T L n k).2.2 (zfold (fun _ x => kTStep (T 1) n x) k (kT0 (T 1) n)).2.2.1 (zN (lRun T L n k).2.2) (zT (lRun T L n k).2.2) := by
  induction k with
  | zero =>
    have h0 : (kT0 (T 1) n).1 = true := kT_back (a := 0) 120 (by rw [Nat.zero_add]; exact h)
    show nI 0 = (kT0 (T 1) n).2.2.2 ∧ (tSt T n).2.1 = (kT0 (T 1) n).2.1 ∧ (tSt T n).2.2 1 = T 1 ∧ zW _ (sClear L) (kT0 (T 1) n).2.2.1 _ _
    by_cases w : n = 0 ∨ ¬ T 1 0 = nI 83
    · rw [show kT0 (T 1) n = (false, 0, zL0, nI 0) from if_pos w] at h0
      cases h0
    · rw [show kT0 (T 1) n = (true, 1, zL0, nI 0) from if_neg w, tSt_1 w]
      exact ⟨rfl, rfl, rfl, w_at (w_new L)⟩
  | succ k ih =>
    obtain ⟨a, b, c, d⟩ := ih (by omega)
    have h1 : (zfold (fun _ x => kTStep (T 1) n x) (k + 1) (kT0 (T 1) n)).1 = true := kT_back (120 - (k + 1)) (by rw [show k + 1 + (120 - (k + 1)) = 120 by omega]; exact h)
    have es : lRun T L n (k + 1) = lStep n (lRun T L n k) := rfl
    rw [zfold_s] at h1
    rw [es, zfold_s]
    revert a b c d h1
    generalize lRun T L n k = x
    generalize zfold (fun _ x => kTStep (T 1) n x) k (kT0 (T 1) n) = y
    intro a b c d h1
    obtain ⟨x1, ⟨xb, x2, X⟩, U⟩ := x
    obtain ⟨y1, y2, K, o⟩ := y
    have hy : y1 = true := kTS_back h1
    have a : x1 = o := a
    have b : x2 = y2 := b
    have c : X 1 = T 1 := c
    subst a
    subst b
    subst hy
    by_cases w : x2 < n
    · rcases hC : tCmd (T 1) n x2 with ⟨_ | bs, q⟩
      · rw [kTS_none w hC] at h1
        cases h1
      · rw [kTS_some w hC]
        have hC2 : tCmd (X 1) n x2 = (some bs, q) := by rw [c]; exact hC
        obtain ⟨r1, r2, _, _⟩ := tRd_cmd (T := X) w
        rw [hC2] at r1 r2
        obtain ⟨e1, e2⟩ := w_NT d
        have hj := j_cmdT (T := X) d (by omega) (by omega) w hC2
        rw [c] at hj
        have e1 : zN U = zN K := e1
        have e2 : zT U = zT K := e2
        have hj2 : zJ (9999 + 40000 * (k : Int) + 40000) (cText U (zN U) (zT U) ((tRd X n x2).2.2 0 2) ((tRd X n x2).2.2 2 0) ((tRd X n x2).2.2 2 1) ((tRd X n x2).2.2 2 2)) (kTDo K (T 1 x2) bs) := by
          unfold kTDo
          rw [← e1, ← e2]
          exact hj
        have e3 : lStep n (x1, (xb, x2, X), U) = ((if (cText U (zN U) (zT U) ((tRd X n x2).2.2 0 2) ((tRd X n x2).2.2 2 0) ((tRd X n x2).2.2 2 1) ((tRd X n x2).2.2 2 2)).1 = nI 0 then x1 + nI 1 else x1), tRd X n x2, (cText U (zN U) (zT U) ((tRd X n x2).2.2 0 2) ((tRd X n x2).2.2 2 0) ((tRd X n x2).2.2 2 1) ((tRd X n x2).2.2 2 2)).2) := (if_pos w).trans (if_pos r1)
        rw [e3]
        revert hj2
        generalize cText U (zN U) (zT U) ((tRd X n x2).2.2 0 2) ((tRd X n x2).2.2 2 0) ((tRd X n x2).2.2 2 1) ((tRd X n x2).2.2 2 2) = V
        generalize kTDo K (T 1 x2) bs = W
        intro hj2
        obtain ⟨f1, f2⟩ := hj2
        refine ⟨?_, r2, tRd_1.trans c, w_mono f2 (by omega)⟩
        show (if V.1 = nI 0 then x1 + nI 1 else x1) = x1 + (if W.1 = 0 then nI 1 else nI 0)
        rw [f1]
        by_cases z : W.1 = 0
        · rw [if_pos z, if_pos (show W.1 = nI 0 from z)]
        · rw [if_neg z, if_neg (show ¬ W.1 = nI 0 from z)]
          exact (zk_a0 x1).symm
    · rw [show lStep n (x1, (xb, x2, X), U) = (x1, (xb, x2, X), U) from if_neg w, show kTStep (T 1) n (true, x2, K, x1) = (true, x2, K, x1) from if_neg (fun z => w z.2)]
      exact ⟨rfl, rfl, c, w_mono d (by omega)⟩
