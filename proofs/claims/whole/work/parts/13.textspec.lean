/-! The text: rows 0 (0 length, 1 position, 2 letter), 1 characters, 2 numbers. -/
def zb_T (G : zk_G) (x : Nat → Nat) (T : zL) : va_W :=
  [(x 1, .inr (3, [.ref (x 2), .int (T 0 0), .int (T 0 1), .int (T 0 2), .ref (x 3)])), (x 2, .inl (G.2.1 2, 120, .inl (T 1))), zk_a (x 3) (G.2.1 0) 3 (T 2)]
def tInv (T : zL) (n p : Nat) : Prop := T 0 0 = nI n ∧ n ≤ 120 ∧ T 0 1 = nI p ∧ p ≤ 120 ∧ ∀ k, k < 120 → ∃ q, q < 256 ∧ T 1 k = nI q
theorem tInv_pos {T : zL} {n p q : Nat} (h : tInv T n p) (hq : q ≤ 120) : tInv (up2 T 0 1 (nI q)) n q := ⟨(upd_ne (T 0) (nI q) (by decide : (0 : Nat) ≠ 1)).trans h.1, h.2.1, upd_same (T 0) 1 (nI q), hq, h.2.2.2.2⟩
theorem tInv_let {T : zL} {n p : Nat} {v : Int32} (h : tInv T n p) : tInv (up2 T 0 2 v) n p := ⟨(upd_ne (T 0) v (by decide : (0 : Nat) ≠ 2)).trans h.1, h.2.1, (upd_ne (T 0) v (by decide : (1 : Nat) ≠ 2)).trans h.2.2.1, h.2.2.2.1, h.2.2.2.2⟩
theorem tInv_num {T : zL} {n p k : Nat} {v : Int32} (h : tInv T n p) : tInv (up2 T 2 k v) n p := h
/-- a digit's number -/
def tDig (c : Int32) : Nat := (c - nI 48).toNatClampNeg
/-- reading k more digits behind b, at p: the number, if it is one of lo to hi; and where it stands then -/
def tRange (ch : Nat → Int32) (n lo hi : Nat) : Nat → Nat → Nat → Option Nat × Nat
  | 0, b, p => (some b, p)
  | k + 1, b, p => if ¬ p < n then (none, p) else if ch p - nI 48 < 0 ∨ nI 9 < ch p - nI 48 then (none, p) else if hi < (10 * b + tDig (ch p)) * 10 ^ k ∨ (10 * b + tDig (ch p) + 1) * 10 ^ k - 1 < lo then (none, p) else tRange ch n lo hi k (10 * b + tDig (ch p)) (p + 1)
/-- the kinds of numbers: digits, least, greatest -/
def tKind (k : Int32) : Nat × Nat × Nat := if k = nI 102 then (1, 0, 4) else if k = nI 116 then (1, 0, 3) else if k = nI 110 then (1, 1, 9) else if k = nI 100 then (2, 0, 39) else if k = nI 99 then (2, 0, 11) else if k = nI 97 then (4, 1, 9999) else (0, 0, 0)
def tNum (ch : Nat → Int32) (n : Nat) (k : Int32) (p : Nat) : Option Nat × Nat := if (tKind k).1 = 0 then (none, p) else tRange ch n (tKind k).2.1 (tKind k).2.2 (tKind k).1 0 p
/-- the String of a letter's numbers, by its place -/
def tStr (c : Int32) : Nat := if c = nI 99 then 0 else if c = nI 109 then 1 else if c = nI 111 then 2 else if c = nI 112 then 3 else if c = nI 101 then 4 else if c = nI 104 then 5 else if c = nI 100 then 6 else 7
/-- a list of numbers -/
def tNums (ch : Nat → Int32) (n : Nat) : List Int32 → Nat → Option (List Nat) × Nat
  | [], p => (some [], p)
  | k :: ks, p => match tNum ch n k p with
    | (none, q) => (none, q)
    | (some b, q) => match tNums ch n ks q with
      | (none, r) => (none, r)
      | (some bs, r) => (some (b :: bs), r)
/-- a command at p: its letter and numbers -/
def tCmd (ch : Nat → Int32) (n p : Nat) : Option (List Nat) × Nat := if ¬ p < n then (none, p) else if zk_sl.getD (tStr (ch p)) 0 = 0 then (none, p) else tNums ch n (zk_sb.getD (tStr (ch p)) []) (p + 1)
/-- commands from p on: where the first wrong one is wrong -/
def tAll (ch : Nat → Int32) (n : Nat) : Nat → Nat → Option Nat
  | 0, _ => none
  | f + 1, p => if ¬ p < n then none else match tCmd ch n p with
    | (none, q) => some q
    | (some _, q) => tAll ch n f q
def tErr (ch : Nat → Int32) (n : Nat) : Option Nat := if n = 0 ∨ ¬ ch 0 = nI 83 then some 0 else tAll ch n 120 1
theorem zk_dn0 {k : Nat} (hk : k < 2 ^ 31) (h : nI k - nI 1 < 0) : k = 0 := by
  rcases Nat.eq_zero_or_pos k with z | z
  · exact z
  · rw [pk_sub (show 1 ≤ k by omega)] at h
    exact absurd h (nI_pos (by omega))
theorem zk_dn1 {k : Nat} (hk : k < 2 ^ 31) (h : ¬ nI k - nI 1 < 0) : ∃ j, k = j + 1 ∧ nI k - nI 1 = nI j := by
  rcases Nat.eq_zero_or_pos k with z | z
  · subst z
    exact absurd (by decide) h
  · exact ⟨k - 1, by omega, pk_sub (show 1 ≤ k by omega)⟩
theorem tDig_9 {c : Int32} (h1 : ¬ c - nI 48 < 0) (h2 : ¬ nI 9 < c - nI 48) : c - nI 48 = nI (tDig c) ∧ tDig c ≤ 9 := by
  obtain ⟨j, hj, e⟩ := nI_of h1
  unfold tDig
  rw [e, nI_clamp hj]
  rw [e] at h2
  exact ⟨rfl, zk_nlt (by omega) hj h2⟩
