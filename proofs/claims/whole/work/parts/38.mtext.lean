/-! The model reads the text. -/
def uN (k : Nat) : Nat := match k with
  | 0 => 0
  | j + 1 => 10 ^ j
theorem uN_s (j : Nat) : 10 ^ j / 10 = uN j := by
  cases j with
  | zero => rfl
  | succ i =>
    show 10 ^ (i + 1) / 10 = 10 ^ i
    rw [Nat.pow_succ]
    exact Nat.mul_div_cancel _ (by decide)
theorem uN_0 {k : Nat} (h : uN k = 0) : k = 0 := by
  cases k with
  | zero => rfl
  | succ j => exact absurd h (Nat.pos_iff_ne_zero.mp (Nat.pow_pos (by decide)))
theorem uN_1 {k : Nat} (h : 0 < uN k) : ∃ j, k = j + 1 ∧ uN k = 10 ^ j := by
  cases k with
  | zero => exact absurd h (by decide)
  | succ j => exact ⟨j, rfl, rfl⟩
/-- what reading gives lies in the range -/
theorem tRange_in {ch : Nat → Int32} {n lo hi : Nat} : ∀ {k b p v : Nat}, 1 ≤ k → (tRange ch n lo hi k b p).1 = some v → v ≤ hi
  | 0, _, _, _, h, _ => absurd h (by decide)
  | k + 1, b, p, v, _, h => by
    unfold tRange at h
    by_cases h1 : ¬ p < n
    · rw [if_pos h1] at h
      cases h
    · rw [if_neg h1] at h
      by_cases h2 : ch p - nI 48 < 0 ∨ nI 9 < ch p - nI 48
      · rw [if_pos h2] at h
        cases h
      · rw [if_neg h2] at h
        by_cases h3 : hi < (10 * b + tDig (ch p)) * 10 ^ k ∨ (10 * b + tDig (ch p) + 1) * 10 ^ k - 1 < lo
        · rw [if_pos h3] at h
          cases h
        · rw [if_neg h3] at h
          cases k with
          | zero =>
            have e : 10 * b + tDig (ch p) = v := Option.some.inj h
            have := fun z => h3 (Or.inl z)
            rw [Nat.pow_zero, Nat.mul_one] at this
            omega
          | succ j => exact tRange_in (by omega) h
theorem sOpt_1 {x : Option Nat} {N : Nat} (hN : N < 2 ^ 31) (hx : ∀ v, x = some v → v ≤ N) (h : ¬ sOpt x = -1) : ∃ v, x = some v ∧ v ≤ N ∧ sOpt x = nI v := by
  cases x with
  | none => exact absurd rfl h
  | some v => exact ⟨v, rfl, hx v rfl, rfl⟩
theorem sOpt_2 {x : Option Nat} {N : Nat} (hN : N < 2 ^ 31) (hx : ∀ v, x = some v → v ≤ N) (h : sOpt x = -1) : x = none := by
  cases x with
  | none => rfl
  | some v => exact absurd h (zk_m1n (by have := hx v rfl; omega))
/-- one, two, three numbers -/
def t1 (A : Nat → Option Nat × Nat) (p : Nat) : Option (List Nat) × Nat := match A p with
  | (none, q) => (none, q)
  | (some a, q) => (some [a], q)
def t2 (A B : Nat → Option Nat × Nat) (p : Nat) : Option (List Nat) × Nat := match A p with
  | (none, q) => (none, q)
  | (some a, q) => match B q with
    | (none, r) => (none, r)
    | (some b, r) => (some [a, b], r)
def t3 (A B C : Nat → Option Nat × Nat) (p : Nat) : Option (List Nat) × Nat := match A p with
  | (none, q) => (none, q)
  | (some a, q) => match B q with
    | (none, r) => (none, r)
    | (some b, r) => match C r with
      | (none, s) => (none, s)
      | (some c, s) => (some [a, b, c], s)
theorem tNums_1 (ch : Nat → Int32) (n p : Nat) (k : Int32) : tNums ch n [k] p = t1 (tNum ch n k) p := by
  unfold t1 tNums
  rcases tNum ch n k p with ⟨_ | a, q⟩ <;> rfl
theorem tNums_2 (ch : Nat → Int32) (n p : Nat) (k k2 : Int32) : tNums ch n [k, k2] p = t2 (tNum ch n k) (tNum ch n k2) p := by
  unfold t2 tNums
  rcases tNum ch n k p with ⟨_ | a, q⟩
  · rfl
  · show (match tNums ch n [k2] q with | (none, r) => (none, r) | (some bs, r) => (some (a :: bs), r)) = _
    rw [tNums_1]
    unfold t1
    show _ = (match tNum ch n k2 q with | (none, r) => (none, r) | (some b, r) => (some [a, b], r))
    rcases tNum ch n k2 q with ⟨_ | b, r⟩ <;> rfl
theorem tNums_3 (ch : Nat → Int32) (n p : Nat) (k k2 k3 : Int32) : tNums ch n [k, k2, k3] p = t3 (tNum ch n k) (tNum ch n k2) (tNum ch n k3) p := by
  unfold t3 tNums
  rcases tNum ch n k p with ⟨_ | a, q⟩
  · rfl
  · show (match tNums ch n [k2, k3] q with | (none, r) => (none, r) | (some bs, r) => (some (a :: bs), r)) = _
    rw [tNums_2]
    unfold t2
    show _ = (match tNum ch n k2 q with | (none, r) => (none, r) | (some b, r) => match tNum ch n k3 r with | (none, s) => (none, s) | (some c, s) => (some [a, b, c], s))
    rcases tNum ch n k2 q with ⟨_ | b, r⟩
    · rfl
    · show (match (match tNum ch n k3 r with | (none, r) => (none, r) | (some b_1, r) => (some [b, b_1], r)) with | (none, r) => (none, r) | (some bs, r) => (some (a :: bs), r)) = (match tNum ch n k3 r with | (none, s) => (none, s) | (some c, s) => (some [a, b, c], s))
      rcases tNum ch n k3 r with ⟨_ | c, s⟩ <;> rfl
theorem t1_n {A : Nat → Option Nat × Nat} {p : Nat} (h : (A p).1 = none) : t1 A p = (none, (A p).2) := by
  unfold t1; revert h; rcases A p with ⟨_ | a, q⟩ <;> intro h; rfl; cases h
theorem t1_s {A : Nat → Option Nat × Nat} {p a : Nat} (h : (A p).1 = some a) : t1 A p = (some [a], (A p).2) := by
  unfold t1; revert h; rcases A p with ⟨_ | a, q⟩ <;> intro h; cases h; cases h; rfl
theorem t2_n {A B : Nat → Option Nat × Nat} {p : Nat} (h : (A p).1 = none) : t2 A B p = (none, (A p).2) := by
  unfold t2; revert h; rcases A p with ⟨_ | a, q⟩ <;> intro h; rfl; cases h
theorem t2_sn {A B : Nat → Option Nat × Nat} {p a : Nat} (h : (A p).1 = some a) (h2 : (B (A p).2).1 = none) : t2 A B p = (none, (B (A p).2).2) := by
  unfold t2; revert h h2; rcases A p with ⟨_ | a, q⟩ <;> intro h h2
  · cases h
  · show (match B q with | (none, r) => (none, r) | (some b, r) => (some [a, b], r)) = _
    revert h2; show (B q).1 = none → _; rcases B q with ⟨_ | b, r⟩ <;> intro h2; rfl; cases h2
theorem t2_ss {A B : Nat → Option Nat × Nat} {p a b : Nat} (h : (A p).1 = some a) (h2 : (B (A p).2).1 = some b) : t2 A B p = (some [a, b], (B (A p).2).2) := by
  unfold t2; revert h h2; rcases A p with ⟨_ | a, q⟩ <;> intro h h2
  · cases h
  · cases h
    show (match B q with | (none, r) => (none, r) | (some b, r) => (some [_, b], r)) = _
    revert h2; show (B q).1 = some _ → _; rcases B q with ⟨_ | b, r⟩ <;> intro h2; cases h2; cases h2; rfl
theorem t3_n {A B C : Nat → Option Nat × Nat} {p : Nat} (h : (A p).1 = none) : t3 A B C p = (none, (A p).2) := by
  unfold t3; revert h; rcases A p with ⟨_ | a, q⟩ <;> intro h; rfl; cases h
theorem t3_s {A B C : Nat → Option Nat × Nat} {p a : Nat} (h : (A p).1 = some a) : t3 A B C p = (match t2 B C (A p).2 with | (none, r) => (none, r) | (some bs, r) => (some (a :: bs), r)) := by
  unfold t3 t2; revert h; rcases A p with ⟨_ | a, q⟩ <;> intro h
  · cases h
  · cases h
    show (match B q with | (none, r) => (none, r) | (some b, r) => match C r with | (none, s) => (none, s) | (some c, s) => (some [_, b, c], s)) = (match (match B q with | (none, r) => (none, r) | (some b, r) => match C r with | (none, s) => (none, s) | (some c, s) => (some [b, c], s)) with | (none, r) => (none, r) | (some bs, r) => (some (_ :: bs), r))
    rcases B q with ⟨_ | b, r⟩
    · rfl
    · show (match C r with | (none, s) => (none, s) | (some c, s) => (some [_, b, c], s)) = (match (match C r with | (none, s) => (none, s) | (some c, s) => (some [b, c], s)) with | (none, r) => (none, r) | (some bs, r) => (some (_ :: bs), r))
      rcases C r with ⟨_ | c, s⟩ <;> rfl
def rF (ch : Nat → Int32) (n lo hi d : Nat) : Nat → Option Nat × Nat := fun p => tRange ch n lo hi d 0 p
theorem tCmd_99 {ch : Nat → Int32} {n p : Nat} (hp : p < n) (h : ch p = nI 99) : tCmd ch n p = t2 (rF ch n 0 4 1) (rF ch n 0 3 1) (p + 1) := by
  unfold tCmd
  rw [if_neg (fun z => z hp), h]
  exact (if_neg (by decide)).trans (tNums_2 ch n (p + 1) _ _)
theorem tCmd_109 {ch : Nat → Int32} {n p : Nat} (hp : p < n) (h : ch p = nI 109) : tCmd ch n p = t2 (rF ch n 0 39 2) (rF ch n 0 3 1) (p + 1) := by
  unfold tCmd
  rw [if_neg (fun z => z hp), h]
  exact (if_neg (by decide)).trans (tNums_2 ch n (p + 1) _ _)
theorem tCmd_111 {ch : Nat → Int32} {n p : Nat} (hp : p < n) (h : ch p = nI 111) : tCmd ch n p = t2 (rF ch n 0 11 2) (rF ch n 0 39 2) (p + 1) := by
  unfold tCmd
  rw [if_neg (fun z => z hp), h]
  exact (if_neg (by decide)).trans (tNums_2 ch n (p + 1) _ _)
theorem tCmd_112 {ch : Nat → Int32} {n p : Nat} (hp : p < n) (h : ch p = nI 112) : tCmd ch n p = t2 (rF ch n 0 11 2) (rF ch n 1 9999 4) (p + 1) := by
  unfold tCmd
  rw [if_neg (fun z => z hp), h]
  exact (if_neg (by decide)).trans (tNums_2 ch n (p + 1) _ _)
theorem tCmd_101 {ch : Nat → Int32} {n p : Nat} (hp : p < n) (h : ch p = nI 101) : tCmd ch n p = t3 (rF ch n 0 11 2) (rF ch n 0 39 2) (rF ch n 0 39 2) (p + 1) := by
  unfold tCmd
  rw [if_neg (fun z => z hp), h]
  exact (if_neg (by decide)).trans (tNums_3 ch n (p + 1) _ _ _)
theorem tCmd_104 {ch : Nat → Int32} {n p : Nat} (hp : p < n) (h : ch p = nI 104) : tCmd ch n p = t1 (rF ch n 0 4 1) (p + 1) := by
  unfold tCmd
  rw [if_neg (fun z => z hp), h]
  exact (if_neg (by decide)).trans (tNums_1 ch n (p + 1) _)
theorem tCmd_100 {ch : Nat → Int32} {n p : Nat} (hp : p < n) (h : ch p = nI 100) : tCmd ch n p = t1 (rF ch n 1 9 1) (p + 1) := by
  unfold tCmd
  rw [if_neg (fun z => z hp), h]
  exact (if_neg (by decide)).trans (tNums_1 ch n (p + 1) _)
theorem tCmd_no {ch : Nat → Int32} {n p : Nat} (hp : p < n) (h1 : ¬ ch p = nI 99) (h2 : ¬ ch p = nI 109) (h3 : ¬ ch p = nI 111) (h4 : ¬ ch p = nI 112) (h5 : ¬ ch p = nI 101) (h6 : ¬ ch p = nI 104) (h7 : ¬ ch p = nI 100) : tCmd ch n p = (none, p) := by
  unfold tCmd
  rw [if_neg (fun z => z hp), show tStr (ch p) = 7 by unfold tStr; rw [if_neg h1, if_neg h2, if_neg h3, if_neg h4, if_neg h5, if_neg h6, if_neg h7]]
  exact if_pos rfl
/-- a command is read and done: the reader, the row, how many are left out -/
def kTDo (K : zL) (sg : Int32) (bs : List Nat) : Int32 × zL := kDoes K (zN K) (zT K) sg (nI (bs.getD 0 0)) (nI (bs.getD 1 0)) (nI (bs.getD 2 0))
def kTStep (ch : Nat → Int32) (n : Nat) (x : Bool × Nat × zL × Int32) : Bool × Nat × zL × Int32 :=
  if x.1 = true ∧ x.2.1 < n then
    (match tCmd ch n x.2.1 with
    | (none, q) => (false, q, x.2.2.1, x.2.2.2)
    | (some bs, q) => (true, q, (kTDo x.2.2.1 (ch x.2.1) bs).2, x.2.2.2 + (if (kTDo x.2.2.1 (ch x.2.1) bs).1 = 0 then nI 1 else nI 0)))
  else x
def kT0 (ch : Nat → Int32) (n : Nat) : Bool × Nat × zL × Int32 := if n = 0 ∨ ¬ ch 0 = nI 83 then (false, 0, zL0, nI 0) else (true, 1, zL0, nI 0)
def kText (ch : Nat → Int32) (n : Nat) : Bool × Nat × zL × Int32 := zfold (fun _ x => kTStep ch n x) 120 (kT0 ch n)
theorem kText_stay {ch : Nat → Int32} {n i : Nat} {y : Bool × Nat × zL × Int32} (h : y = zfold (fun _ x => kTStep ch n x) i (kT0 ch n)) (hs : ¬ (y.1 = true ∧ y.2.1 < n)) (hi : i ≤ 120) : kText ch n = y := by
  have := zfold_stay (f := fun _ x => kTStep ch n x) (P := fun x => ¬ (x.1 = true ∧ x.2.1 < n)) (fun _ _ hx => if_neg hx) (s := kT0 ch n) i (by rw [← h]; exact hs) (120 - i)
  rw [show i + (120 - i) = 120 by omega] at this
  exact this.trans h.symm
theorem kT_step {ch : Nat → Int32} {n i : Nat} {y z : Bool × Nat × zL × Int32} (h : y = zfold (fun _ x => kTStep ch n x) i (kT0 ch n)) (hz : z = kTStep ch n y) : z = zfold (fun _ x => kTStep ch n x) (i + 1) (kT0 ch n) := zfold_i (f := fun _ x => kTStep ch n x) h hz
theorem tNums_ge {ch : Nat → Int32} {n : Nat} : ∀ {ks : List Int32} {p : Nat}, p ≤ (tNums ch n ks p).2
  | [], p => Nat.le_refl p
  | k :: ks, p => by
    have h1 : p ≤ (tNum ch n k p).2 := by
      unfold tNum
      split
      · exact Nat.le_refl p
      · exact tRange_ge
    unfold tNums
    revert h1
    rcases tNum ch n k p with ⟨_ | a, q⟩ <;> intro h1
    · exact h1
    · have h2 := tNums_ge (ch := ch) (n := n) (ks := ks) (p := q)
      show p ≤ (match tNums ch n ks q with | (none, r) => (none, r) | (some bs, r) => (some (a :: bs), r)).2
      revert h2
      rcases tNums ch n ks q with ⟨_ | bs, r⟩ <;> intro h2 <;> exact Nat.le_trans h1 h2
theorem tCmd_gt {ch : Nat → Int32} {n p : Nat} (h : (tCmd ch n p).1.isSome = true) : p + 1 ≤ (tCmd ch n p).2 := by
  unfold tCmd at *
  by_cases h1 : ¬ p < n
  · rw [if_pos h1] at h; cases h
  · rw [if_neg h1] at *
    by_cases h2 : zk_sl.getD (tStr (ch p)) 0 = 0
    · rw [if_pos h2] at h; cases h
    · rw [if_neg h2] at *
      exact tNums_ge
theorem tNums_le {ch : Nat → Int32} {n : Nat} (hn : n ≤ 120) : ∀ {ks : List Int32} {p : Nat}, p ≤ 120 → (tNums ch n ks p).2 ≤ 120
  | [], p, hp => hp
  | k :: ks, p, hp => by
    have h1 : (tNum ch n k p).2 ≤ 120 := tNum_le hn hp
    unfold tNums
    revert h1
    rcases tNum ch n k p with ⟨_ | a, q⟩ <;> intro h1
    · exact h1
    · have h2 := tNums_le (ch := ch) hn (ks := ks) h1
      show (match tNums ch n ks q with | (none, r) => (none, r) | (some bs, r) => (some (a :: bs), r)).2 ≤ 120
      revert h2
      rcases tNums ch n ks q with ⟨_ | bs, r⟩ <;> intro h2 <;> exact h2
theorem tCmd_le {ch : Nat → Int32} {n p : Nat} (hn : n ≤ 120) (hp : p ≤ 120) : (tCmd ch n p).2 ≤ 120 := by
  unfold tCmd
  split
  · exact hp
  · split
    · exact hp
    · exact tNums_le hn (by omega)
theorem kDok_o (a : Int32) : kDok (nI 111) a := ⟨fun z => absurd z (by decide), fun z => absurd z (by decide), fun z => absurd z (by decide)⟩
theorem kDok_h {k : Nat} (h : k < 5) : kDok (nI 104) (nI k) := ⟨fun z => absurd z (by decide), fun z => absurd z (by decide), fun _ => sFam_n h⟩
theorem kTS_some {ch : Nat → Int32} {n po q : Nat} {K : zL} {o : Int32} {bs : List Nat} (hlt : po < n) (hC : tCmd ch n po = (some bs, q)) : kTStep ch n (true, po, K, o) = (true, q, (kTDo K (ch po) bs).2, o + (if (kTDo K (ch po) bs).1 = 0 then nI 1 else nI 0)) := by
  unfold kTStep
  show (if true = true ∧ po < n then (match tCmd ch n po with | (none, q) => (false, q, K, o) | (some bs, q) => (true, q, (kTDo K (ch po) bs).2, o + (if (kTDo K (ch po) bs).1 = 0 then nI 1 else nI 0))) else (true, po, K, o)) = _
  rw [if_pos ⟨rfl, hlt⟩, hC]
theorem kTS_none {ch : Nat → Int32} {n po q : Nat} {K : zL} {o : Int32} (hlt : po < n) (hC : tCmd ch n po = (none, q)) : kTStep ch n (true, po, K, o) = (false, q, K, o) := by
  unfold kTStep
  show (if true = true ∧ po < n then (match tCmd ch n po with | (none, q) => (false, q, K, o) | (some bs, q) => (true, q, (kTDo K (ch po) bs).2, o + (if (kTDo K (ch po) bs).1 = 0 then nI 1 else nI 0))) else (true, po, K, o)) = _
  rw [if_pos ⟨rfl, hlt⟩, hC]
theorem kTS_gt {ch : Nat → Int32} {n po : Nat} {K : zL} {o : Int32} (hlt : po < n) (h : (kTStep ch n (true, po, K, o)).1 = true) : po + 1 ≤ (kTStep ch n (true, po, K, o)).2.1 := by
  rcases hC : tCmd ch n po with ⟨_ | bs, q⟩
  · rw [kTS_none hlt hC] at h
    cases h
  · rw [kTS_some hlt hC]
    have := tCmd_gt (ch := ch) (n := n) (p := po) (by rw [hC]; rfl)
    rw [hC] at this
    exact this
theorem kTS_le {ch : Nat → Int32} {n po : Nat} {K : zL} {o : Int32} (hn : n ≤ 120) (hlt : po < n) : (kTStep ch n (true, po, K, o)).2.1 ≤ 120 := by
  have := tCmd_le (ch := ch) hn (show po ≤ 120 by omega)
  rcases hC : tCmd ch n po with ⟨_ | bs, q⟩
  · rw [kTS_none hlt hC]
    rw [hC] at this
    exact this
  · rw [kTS_some hlt hC]
    rw [hC] at this
    exact this
theorem kTS_le2 {ch : Nat → Int32} {n : Nat} (hn : n ≤ 120) {x : Bool × Nat × zL × Int32} (h : x.2.1 ≤ 120) : (kTStep ch n x).2.1 ≤ 120 := by
  obtain ⟨ok, p, K, o⟩ := x
  by_cases w : ok = true ∧ p < n
  · obtain ⟨w1, w2⟩ := w
    subst w1
    exact kTS_le hn w2
  · rw [show kTStep ch n (ok, p, K, o) = (ok, p, K, o) from if_neg w]
    exact h
theorem kText_le {ch : Nat → Int32} {n : Nat} (hn : n ≤ 120) : (kText ch n).2.1 ≤ 120 := by
  unfold kText
  exact zfold_inv (f := fun _ x => kTStep ch n x) (P := fun x : Bool × Nat × zL × Int32 => x.2.1 ≤ 120) (by unfold kT0; split <;> decide) (fun _ _ hx => kTS_le2 hn hx) 120
theorem kT_ok {ch : Nat → Int32} {n : Nat} (hn : n ≤ 120) {r : Int32} (e : r = if (kText ch n).1 = true then -1 else nI (kText ch n).2.1) (h2 : r = -1) : (kText ch n).1 = true := by
  by_cases z : (kText ch n).1 = true
  · exact z
  · rw [if_neg z] at e
    exact absurd (e.symm.trans h2) (zk_m1n (by have := kText_le (ch := ch) hn; omega))
/-- a new model -/
def zb_X6 (G : zk_G) (b : Nat → Nat) : va_W :=
  [(b 0, .inr (5, [.int (nI 0), .ref (b 1), .int (nI 0), .ref (b 2), .ref (b 3), .ref (b 4), .int (nI 0), .ref (b 5), .ref (b 6), .int (nI 0), .int (nI 0)])), zk_a (b 1) (G.2.1 0) 120 (fun _ => nI 0), zk_a (b 2) (G.2.1 0) 1555 (zrow zL0), zk_a (b 3) (G.2.1 0) 1555 (fun _ => nI 0), zk_a (b 4) (G.2.1 0) 21770 (fun _ => nI 0), zk_a (b 5) (G.2.1 0) 3110 (fun _ => nI 0), zk_a (b 6) (G.2.1 1) 2 (fun _ => nI 0)]
