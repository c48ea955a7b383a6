/-! Reading a text: what depends on its characters alone. -/
theorem tNums_snoc (ch : Nat → Int32) (n : Nat) (k : Int32) : ∀ (xs : List Int32) (p : Nat), tNums ch n (xs ++ [k]) p = (match tNums ch n xs p with | (none, q) => (none, q) | (some bs, q) => (match tNum ch n k q with | (none, r) => (none, r) | (some b, r) => (some (bs ++ [b]), r)))
  | [], p => by
    show (match tNum ch n k p with | (none, q) => (none, q) | (some b, q) => (match tNums ch n [] q with | (none, r) => (none, r) | (some bs, r) => (some (b :: bs), r))) = (match tNum ch n k p with | (none, r) => (none, r) | (some b, r) => (some ([] ++ [b]), r))
    rcases tNum ch n k p with ⟨_ | b, r⟩ <;> rfl
  | x :: xs, p => by
    show (match tNum ch n x p with | (none, q) => (none, q) | (some b, q) => (match tNums ch n (xs ++ [k]) q with | (none, r) => (none, r) | (some bs, r) => (some (b :: bs), r))) = (match (match tNum ch n x p with | (none, q) => (none, q) | (some b, q) => (match tNums ch n xs q with | (none, r) => (none, r) | (some bs, r) => (some (b :: bs), r))) with | (none, q) => (none, q) | (some bs, q) => (match tNum ch n k q with | (none, r) => (none, r) | (some b, r) => (some (bs ++ [b]), r)))
    rcases tNum ch n x p with ⟨_ | b, q⟩
    · rfl
    · show (match tNums ch n (xs ++ [k]) q with | (none, r) => (none, r) | (some bs, r) => (some (b :: bs), r)) = (match (match tNums ch n xs q with | (none, r) => (none, r) | (some bs, r) => (some (b :: bs), r)) with | (none, q) => (none, q) | (some bs, q) => (match tNum ch n k q with | (none, r) => (none, r) | (some b, r) => (some (bs ++ [b]), r)))
      rw [tNums_snoc ch n k xs q]
      rcases tNums ch n xs q with ⟨_ | bs, r⟩
      · rfl
      · show (match (match tNum ch n k r with | (none, r) => (none, r) | (some b, r) => (some (bs ++ [b]), r)) with | (none, r) => (none, r) | (some bs, r) => (some (b :: bs), r)) = (match tNum ch n k r with | (none, r) => (none, r) | (some c, r) => (some ((b :: bs) ++ [c]), r))
        rcases tNum ch n k r with ⟨_ | c, s⟩ <;> rfl
theorem tNums_sn {ch : Nat → Int32} {n p q : Nat} {k : Int32} {xs : List Int32} (h : tNums ch n xs p = (none, q)) : tNums ch n (xs ++ [k]) p = (none, q) := by rw [tNums_snoc, h]
theorem tNums_ss {ch : Nat → Int32} {n p q : Nat} {k : Int32} {xs : List Int32} {bs : List Nat} (h : tNums ch n xs p = (some bs, q)) : tNums ch n (xs ++ [k]) p = ((tNum ch n k q).1.map (fun b => bs ++ [b]), (tNum ch n k q).2) := by
  rw [tNums_snoc, h]
  show (match tNum ch n k q with | (none, r) => (none, r) | (some c, r) => (some (bs ++ [c]), r)) = _
  rcases tNum ch n k q with ⟨_ | c, s⟩ <;> rfl
theorem tSet_02 (X : zL) (i : Nat) (R : Option Nat × Nat) : tSet X i R 0 2 = X 0 2 := by
  unfold tSet
  rcases R with ⟨_ | b, q⟩ <;> rfl
theorem tSet_v {X : zL} {i b q : Nat} : tSet X i (some b, q) 2 i = nI b := up2_v (L := tPos X q)
theorem tSet_o {X : zL} {i j : Nat} {R : Option Nat × Nat} (h : j ≠ i) : tSet X i R 2 j = X 2 j := by
  unfold tSet
  rcases R with ⟨_ | b, q⟩
  · rfl
  · exact up2_j (L := tPos X q) h
theorem getD_sl {bs : List Nat} {b j : Nat} (h : j < bs.length) : (bs ++ [b]).getD j 0 = bs.getD j 0 := by rw [List.getD_eq_getElem?_getD, List.getD_eq_getElem?_getD, List.getElem?_append_left h]
theorem getD_se (bs : List Nat) (b : Nat) : (bs ++ [b]).getD bs.length 0 = b := by
  rw [List.getD_eq_getElem?_getD, List.getElem?_append_right (Nat.le_refl _), Nat.sub_self]
  rfl
/-- the class's reader of numbers is the list's -/
theorem tGo_nums (ch ks : Nat → Int32) (n p : Nat) (X : zL) : ∀ i, (tGo ch n ks p X i).1 = (tNums ch n ((List.range i).map ks) p).1.isSome ∧ (tGo ch n ks p X i).2.1 = (tNums ch n ((List.range i).map ks) p).2 ∧ (tGo ch n ks p X i).2.2 0 2 = X 0 2 ∧ ∀ bs, (tNums ch n ((List.range i).map ks) p).1 = some bs → bs.length = i ∧ ∀ j, j < i → (tGo ch n ks p X i).2.2 2 j = nI (bs.getD j 0)
  | 0 => ⟨rfl, rfl, rfl, fun bs h => by cases h; exact ⟨rfl, fun j hj => absurd hj (Nat.not_lt_zero j)⟩⟩
  | i + 1 => by
    obtain ⟨h1, h2, h3, h4⟩ := tGo_nums ch ks n p X i
    rw [List.range_succ, List.map_append, List.map_cons, List.map_nil]
    revert h1 h2 h3 h4
    rcases hR : tNums ch n ((List.range i).map ks) p with ⟨_ | bs, q⟩
    · intro h1 h2 h3 h4
      rw [tNums_sn hR]
      have e := tGo_no (ch := ch) (ks := ks) (n := n) (p := p) (X := X) (i := i) h1 1
      rw [show tGo ch n ks p X (i + 1) = tGo ch n ks p X i from e]
      exact ⟨h1, h2, h3, fun bs h => by cases h⟩
    · intro h1 h2 h3 h4
      rw [tNums_ss hR]
      have e : (true, q, (tGo ch n ks p X i).2.2) = tGo ch n ks p X i := Prod.ext h1.symm (Prod.ext h2.symm rfl)
      rw [tGo_s e]
      obtain ⟨h5, h6⟩ := h4 bs rfl
      refine ⟨?_, rfl, (tSet_02 _ _ _).trans h3, fun cs hc => ?_⟩
      · show (tNum ch n (ks i) q).1.isSome = ((tNum ch n (ks i) q).1.map (fun b => bs ++ [b])).isSome
        rcases (tNum ch n (ks i) q).1 with _ | b <;> rfl
      · revert hc
        rcases hq : tNum ch n (ks i) q with ⟨_ | b, r⟩
        · intro hc; cases hc
        · intro hc
          cases hc
          refine ⟨by rw [List.length_append, h5]; rfl, fun j hj => ?_⟩
          show tSet (tGo ch n ks p X i).2.2 i (some b, r) 2 j = nI ((bs ++ [b]).getD j 0)
          by_cases w : j = i
          · have e9 := getD_se bs b
            rw [h5] at e9
            rw [w, tSet_v, e9]
          · rw [tSet_o w, h6 j (by omega), getD_sl (by omega)]
theorem zk_map : ∀ i, i < 8 → (List.range (zk_sl.getD i 0)).map (zk_ch i) = zk_sb.getD i [] := by decide +kernel
/-- a command is read by both -/
theorem tRd_cmd {T : zL} {n p : Nat} (hp : p < n) : (tRd T n p).1 = (tCmd (T 1) n p).1.isSome ∧ (tRd T n p).2.1 = (tCmd (T 1) n p).2 ∧ (tRd T n p).2.2 0 2 = T 1 p ∧ ∀ bs, (tCmd (T 1) n p).1 = some bs → ∀ j, j < bs.length → (tRd T n p).2.2 2 j = nI (bs.getD j 0) := by
  by_cases h : zk_sl.getD (tStr (T 1 p)) 0 = 0
  · rw [show tRd T n p = (false, p, up2 T 0 2 (T 1 p)) from (if_neg (fun z => z hp)).trans (if_pos h), show tCmd (T 1) n p = (none, p) from (if_neg (fun z => z hp)).trans (if_pos h)]
    exact ⟨rfl, rfl, (show up2 T 0 2 (T 1 p) 0 2 = T 1 p from up2_v), fun bs h => by cases h⟩
  · rw [show tRd T n p = tGo (T 1) n (zk_ch (tStr (T 1 p))) (p + 1) (tPos (up2 T 0 2 (T 1 p)) (p + 1)) (zk_sl.getD (tStr (T 1 p)) 0) from (if_neg (fun z => z hp)).trans (if_neg h), show tCmd (T 1) n p = tNums (T 1) n (zk_sb.getD (tStr (T 1 p)) []) (p + 1) from (if_neg (fun z => z hp)).trans (if_neg h), ← zk_map _ (tStr_lt (T 1 p))]
    obtain ⟨h1, h2, h3, h4⟩ := tGo_nums (T 1) (zk_ch (tStr (T 1 p))) n (p + 1) (tPos (up2 T 0 2 (T 1 p)) (p + 1)) (zk_sl.getD (tStr (T 1 p)) 0)
    refine ⟨h1, h2, h3.trans ?_, fun bs hb j hj => ?_⟩
    · show up2 (up2 T 0 2 (T 1 p)) 0 1 (nI (p + 1)) 0 2 = T 1 p
      rw [up2_j (by decide), up2_v]
    · obtain ⟨h5, h6⟩ := h4 bs hb
      exact h6 j (by omega)
theorem cT_104 (L : zL) (n t : Nat) (a b c : Int32) : cText L n t (nI 104) a b c = tyFlip L a := rfl
theorem cT_100 (L : zL) (n t : Nat) (a b c : Int32) : cText L n t (nI 100) a b c = tyDays L n t a := rfl
theorem cT_no (L : zL) (n t : Nat) {k : Int32} (a b c c2 : Int32) (h : ¬ k = nI 101) : cText L n t k a b c = cText L n t k a b c2 := by
  unfold cText
  rw [if_neg h, if_neg h]
theorem tNums_len {ch : Nat → Int32} {n : Nat} : ∀ {ks : List Int32} {p q : Nat} {bs : List Nat}, tNums ch n ks p = (some bs, q) → bs.length = ks.length
  | [], p, q, bs, h => by
    cases h
    rfl
  | k :: ks, p, q, bs, h => by
    unfold tNums at h
    rcases hA : tNum ch n k p with ⟨_ | b, r⟩
    · rw [hA] at h; cases h
    · rw [hA] at h
      rcases hB : tNums ch n ks r with ⟨_ | cs, r2⟩
      · simp only [hB] at h; cases h
      · simp only [hB] at h
        cases h
        rw [List.length_cons, List.length_cons, tNums_len hB]
theorem tStr_8 (c : Int32) : tStr c < 8 := by
  unfold tStr
  repeat' split
  all_goals decide
theorem zk_sbl : ∀ i, i < 8 → (zk_sb.getD i []).length = zk_sl.getD i 0 := by decide +kernel
theorem tCmd_len {ch : Nat → Int32} {n p q : Nat} {bs : List Nat} (hp : p < n) (h : tCmd ch n p = (some bs, q)) : bs.length = zk_sl.getD (tStr (ch p)) 0 ∧ ¬ zk_sl.getD (tStr (ch p)) 0 = 0 := by
  unfold tCmd at h
  rw [if_neg (fun z => z hp)] at h
  by_cases w : zk_sl.getD (tStr (ch p)) 0 = 0
  · rw [if_pos w] at h; cases h
  · rw [if_neg w] at h
    exact ⟨(tNums_len h).trans (zk_sbl _ (tStr_8 _)), w⟩
theorem tStr_2 (c : Int32) (h1 : ¬ c = nI 104) (h2 : ¬ c = nI 100) (h3 : ¬ zk_sl.getD (tStr c) 0 = 0) : 2 ≤ zk_sl.getD (tStr c) 0 := by
  unfold tStr at *
  by_cases a1 : c = nI 99
  · rw [if_pos a1]; decide
  rw [if_neg a1] at *
  by_cases a2 : c = nI 109
  · rw [if_pos a2]; decide
  rw [if_neg a2] at *
  by_cases a3 : c = nI 111
  · rw [if_pos a3]; decide
  rw [if_neg a3] at *
  by_cases a4 : c = nI 112
  · rw [if_pos a4]; decide
  rw [if_neg a4] at *
  by_cases a5 : c = nI 101
  · rw [if_pos a5]; decide
  rw [if_neg a5, if_neg h1, if_neg h2] at *
  exact absurd (by decide) h3
theorem te_cmd {T T2 : zL} {n p : Nat} (h : T 1 = T2 1) : (tRd T n p).1 = (tRd T2 n p).1 ∧ (tRd T n p).2.1 = (tRd T2 n p).2.1 := by
  by_cases hp : p < n
  · obtain ⟨a1, a2, _, _⟩ := tRd_cmd (T := T) hp
    obtain ⟨b1, b2, _, _⟩ := tRd_cmd (T := T2) hp
    rw [a1, a2, b1, b2, h]
    exact ⟨rfl, rfl⟩
  · unfold tRd
    rw [if_pos hp, if_pos hp]
    exact ⟨rfl, rfl⟩
theorem te_step {n : Nat} {x x2 : Bool × Nat × zL} (h1 : x.1 = x2.1) (h2 : x.2.1 = x2.2.1) (h3 : x.2.2 1 = x2.2.2 1) : (tStep n x).1 = (tStep n x2).1 ∧ (tStep n x).2.1 = (tStep n x2).2.1 ∧ (tStep n x).2.2 1 = (tStep n x2).2.2 1 := by
  obtain ⟨a, p, X⟩ := x
  obtain ⟨a2, p2, X2⟩ := x2
  have h1 : a = a2 := h1
  have h2 : p = p2 := h2
  have h3 : X 1 = X2 1 := h3
  subst h1
  subst h2
  unfold tStep
  by_cases w : a = true ∧ p < n
  · rw [if_pos (show (a, p, X).1 = true ∧ (a, p, X).2.1 < n from w), if_pos (show (a, p, X2).1 = true ∧ (a, p, X2).2.1 < n from w)]
    obtain ⟨c1, c2⟩ := te_cmd (n := n) (p := p) h3
    exact ⟨c1, c2, tRd_1.trans (h3.trans tRd_1.symm)⟩
  · rw [if_neg (show ¬ ((a, p, X).1 = true ∧ (a, p, X).2.1 < n) from w), if_neg (show ¬ ((a, p, X2).1 = true ∧ (a, p, X2).2.1 < n) from w)]
    exact ⟨rfl, rfl, h3⟩
theorem te_st {T T2 : zL} (n : Nat) (h : T 1 = T2 1) : (tSt T n).1 = (tSt T2 n).1 ∧ (tSt T n).2.1 = (tSt T2 n).2.1 ∧ (tSt T n).2.2 1 = (tSt T2 n).2.2 1 ∧ (tSt T n).2.2 1 = T 1 := by
  unfold tSt
  rw [← h]
  by_cases w : n = 0 ∨ ¬ T 1 0 = nI 83
  · rw [if_pos w, if_pos w]
    exact ⟨rfl, rfl, h, rfl⟩
  · rw [if_neg w, if_neg w]
    exact ⟨rfl, rfl, h, rfl⟩
theorem te_er {T T2 : zL} (n : Nat) (h : T 1 = T2 1) : (tEr T n).1 = (tEr T2 n).1 ∧ (tEr T n).2.1 = (tEr T2 n).2.1 ∧ (tEr T n).2.2 1 = T 1 := by
  obtain ⟨s1, s2, s3, s4⟩ := te_st n h
  have key : ∀ k, (zfold (fun _ x => tStep n x) k (tSt T n)).1 = (zfold (fun _ x => tStep n x) k (tSt T2 n)).1 ∧ (zfold (fun _ x => tStep n x) k (tSt T n)).2.1 = (zfold (fun _ x => tStep n x) k (tSt T2 n)).2.1 ∧ (zfold (fun _ x => tStep n x) k (tSt T n)).2.2 1 = (zfold (fun _ x => tStep n x) k (tSt T2 n)).2.2 1 := by
    intro k
    induction k with
    | zero => exact ⟨s1, s2, s3⟩
    | succ k ih => exact te_step ih.1 ih.2.1 ih.2.2
  have one : ∀ k, (zfold (fun _ x => tStep n x) k (tSt T n)).2.2 1 = T 1 := by
    intro k
    refine zfold_inv (f := fun _ x => tStep n x) (P := fun x : Bool × Nat × zL => x.2.2 1 = T 1) s4 (fun i x hx => ?_) k
    unfold tStep
    split
    · exact tRd_1.trans hx
    · exact hx
  unfold tEr
  exact ⟨(key 120).1, (key 120).2.1, one 120⟩
/-- a command that was read does what its characters say -/
theorem te_cText {X X2 : zL} {N p : Nat} (hp : p < N) (h : X 1 = X2 1) (hk : (tRd X N p).1 = true) (L : zL) (n t : Nat) : cText L n t ((tRd X N p).2.2 0 2) ((tRd X N p).2.2 2 0) ((tRd X N p).2.2 2 1) ((tRd X N p).2.2 2 2) = cText L n t ((tRd X2 N p).2.2 0 2) ((tRd X2 N p).2.2 2 0) ((tRd X2 N p).2.2 2 1) ((tRd X2 N p).2.2 2 2) := by
  obtain ⟨a1, _, a3, a4⟩ := tRd_cmd (T := X) hp
  obtain ⟨_, _, b3, b4⟩ := tRd_cmd (T := X2) hp
  rw [a1] at hk
  rcases hC : tCmd (X 1) N p with ⟨_ | bs, q⟩
  · rw [hC] at hk; cases hk
  · have hC2 : tCmd (X2 1) N p = (some bs, q) := by rw [← h]; exact hC
    obtain ⟨l1, l2⟩ := tCmd_len hp hC
    have a4 := a4 bs (by rw [hC])
    have b4 := b4 bs (by rw [hC2])
    rw [a3, b3, ← h]
    have l0 : 1 ≤ bs.length := by omega
    rw [a4 0 (by omega), b4 0 (by omega)]
    by_cases w1 : X 1 p = nI 104
    · rw [w1, cT_104, cT_104]
    · by_cases w2 : X 1 p = nI 100
      · rw [w2, cT_100, cT_100]
      · have l3 := tStr_2 _ w1 w2 l2
        rw [a4 1 (by omega), b4 1 (by omega)]
        by_cases w5 : X 1 p = nI 101
        · have l4 : zk_sl.getD (tStr (X 1 p)) 0 = 3 := by rw [w5]; decide
          rw [a4 2 (by omega), b4 2 (by omega)]
        · exact cT_no L n t _ _ _ _ w5
def te_R (x x2 : Int32 × (Bool × Nat × zL) × zL) : Prop := x.1 = x2.1 ∧ x.2.1.2.1 = x2.2.1.2.1 ∧ x.2.1.2.2 1 = x2.2.1.2.2 1 ∧ x.2.2 = x2.2.2
theorem te_lstep {n : Nat} {x x2 : Int32 × (Bool × Nat × zL) × zL} (h : te_R x x2) : te_R (lStep n x) (lStep n x2) := by
  obtain ⟨i, ⟨a, p, X⟩, L⟩ := x
  obtain ⟨i2, ⟨a2, p2, X2⟩, L2⟩ := x2
  obtain ⟨h1, h2, h3, h4⟩ := h
  have h1 : i = i2 := h1
  have h2 : p = p2 := h2
  have h3 : X 1 = X2 1 := h3
  have h4 : L = L2 := h4
  subst h1
  subst h2
  subst h4
  by_cases w : p < n
  · obtain ⟨c1, c2⟩ := te_cmd (n := n) (p := p) h3
    have c3 : (tRd X n p).2.2 1 = (tRd X2 n p).2.2 1 := tRd_1.trans (h3.trans tRd_1.symm)
    by_cases ok : (tRd X n p).1 = true
    · have ok2 : (tRd X2 n p).1 = true := c1.symm.trans ok
      have e := te_cText w h3 ok L (zN L) (zT L)
      have e1 : lStep n (i, (a, p, X), L) = (if (cText L (zN L) (zT L) ((tRd X n p).2.2 0 2) ((tRd X n p).2.2 2 0) ((tRd X n p).2.2 2 1) ((tRd X n p).2.2 2 2)).1 = nI 0 then i + nI 1 else i, tRd X n p, (cText L (zN L) (zT L) ((tRd X n p).2.2 0 2) ((tRd X n p).2.2 2 0) ((tRd X n p).2.2 2 1) ((tRd X n p).2.2 2 2)).2) := (if_pos w).trans (if_pos ok)
      have e2 : lStep n (i, (a2, p, X2), L) = (if (cText L (zN L) (zT L) ((tRd X2 n p).2.2 0 2) ((tRd X2 n p).2.2 2 0) ((tRd X2 n p).2.2 2 1) ((tRd X2 n p).2.2 2 2)).1 = nI 0 then i + nI 1 else i, tRd X2 n p, (cText L (zN L) (zT L) ((tRd X2 n p).2.2 0 2) ((tRd X2 n p).2.2 2 0) ((tRd X2 n p).2.2 2 1) ((tRd X2 n p).2.2 2 2)).2) := (if_pos w).trans (if_pos ok2)
      rw [e1, e2, e]
      exact ⟨rfl, c2, c3, rfl⟩
    · have ok2 : ¬ (tRd X2 n p).1 = true := fun z => ok (c1.trans z)
      have e1 : lStep n (i, (a, p, X), L) = (i, tRd X n p, L) := (if_pos w).trans (if_neg ok)
      have e2 : lStep n (i, (a2, p, X2), L) = (i, tRd X2 n p, L) := (if_pos w).trans (if_neg ok2)
      rw [e1, e2]
      exact ⟨rfl, c2, c3, rfl⟩
  · have e1 : lStep n (i, (a, p, X), L) = (i, (a, p, X), L) := if_neg w
    have e2 : lStep n (i, (a2, p, X2), L) = (i, (a2, p, X2), L) := if_neg w
    rw [e1, e2]
    exact ⟨rfl, rfl, h3, rfl⟩
theorem te_lrun {T T2 : zL} (L : zL) (n : Nat) (h : T 1 = T2 1) : ∀ k, te_R (lRun T L n k) (lRun T2 L n k)
  | 0 => ⟨rfl, (te_st n h).2.1, (te_st n h).2.2.1, rfl⟩
  | k + 1 => te_lstep (te_lrun L n h k)
theorem te_lrun1 (T L : zL) (n : Nat) : ∀ k, (lRun T L n k).2.1.2.2 1 = T 1
  | 0 => (te_st (T2 := T) n rfl).2.2.2
  | k + 1 => by
    have ih := te_lrun1 T L n k
    show (lStep n (lRun T L n k)).2.1.2.2 1 = T 1
    unfold lStep
    split
    · split
      · exact tRd_1.trans ih
      · exact tRd_1.trans ih
    · exact ih
/-- the text's characters, and nothing else -/
def zTc (ch : Nat → Int32) (tn : Nat) : zL := fun i j => if i = 0 then (if j = 0 then nI tn else nI 0) else if i = 1 then ch j else nI 0
theorem zTc_1 (ch : Nat → Int32) (tn : Nat) : zTc ch tn 1 = ch := by
  funext j
  exact (if_neg (by decide)).trans (if_pos rfl)
