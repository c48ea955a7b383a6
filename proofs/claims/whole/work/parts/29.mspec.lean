/-! The model's object: arrays, the diary, the kept rows. -/
theorem zk_cgt {x y : Int64} (h : 0 < lg_cmp x y) : y < x := Int64.not_le.mp fun z => Int32.not_le.mpr h ((lg_cmp_le x y).mpr z)
theorem zk_cngt {x y : Int64} (h : ¬ 0 < lg_cmp x y) : ¬ y < x := Int64.not_lt.mpr ((lg_cmp_le x y).mp (Int32.not_lt.mp h))
def zb_a (G : zk_G) (q n : Nat) (f : Nat → Int32) : va_W := [zk_a q (G.2.1 0) n f]
def zb_f (G : zk_G) (q : Nat) (f : Nat → Int32) : va_W := [zk_a q (G.2.1 1) 2 f]
/-- rows one behind another -/
def zdia (S : Nat → zL) : Nat → Int32 := fun k => zrow (S (k / 1555)) (k % 1555)
def zb_d (G : zk_G) (q : Nat) (S : Nat → zL) : va_W := [zk_a q (G.2.1 0) 21770 (zdia S)]
def zb_k (G : zk_G) (q : Nat) (S : Nat → zL) : va_W := [zk_a q (G.2.1 0) 3110 (zdia S)]
/-- the model's object; addresses: itself, text, now, trial, diary, kept, isKept -/
def zb_6 (G : zk_G) (b : Nat → Nat) (rf sz ac sp ou : Int32) : va_W := [(b 0, .inr (5, [.int rf, .ref (b 1), .int sz, .ref (b 2), .ref (b 3), .ref (b 4), .int ac, .ref (b 5), .ref (b 6), .int sp, .int ou]))]
/-- 1555 (or m) places of f from fa on, put into g from ta on -/
def kCpy (f : Nat → Int32) (fa : Nat) (g : Nat → Int32) (ta m : Nat) : Nat → Int32 := fun j => if ta ≤ j ∧ j < ta + m then f (fa + (j - ta)) else g j
theorem kCpy_0 (f : Nat → Int32) (fa : Nat) (g : Nat → Int32) (ta : Nat) : kCpy f fa g ta 0 = g := funext fun j => if_neg (by omega)
theorem kCpy_s {f : Nat → Int32} {fa : Nat} {g : Nat → Int32} {ta i : Nat} {F F2 : Nat → Int32} (h : F = kCpy f fa g ta i) (h2 : F2 = upd F (ta + i) (f (fa + i))) : F2 = kCpy f fa g ta (i + 1) := by
  subst h2
  subst h
  funext j
  by_cases e : j = ta + i
  · subst e
    rw [upd_same, kCpy, if_pos (by omega)]
    congr 1
    omega
  · rw [upd_ne _ _ e, kCpy, kCpy]
    by_cases w : ta ≤ j ∧ j < ta + i
    · rw [if_pos w, if_pos (by omega)]
    · rw [if_neg w, if_neg (by omega)]
theorem kcp_rr (K : zL) (g : Nat → Int32) : ∀ j, j < 1555 → kCpy (zrow K) 0 g 0 1555 j = zrow K j := fun j hj => by
  rw [kCpy, if_pos (by omega)]
  congr 1
  omega
theorem kcp_rd (K : zL) (S : Nat → zL) (k N : Nat) : ∀ j, j < N → kCpy (zrow K) 0 (zdia S) (1555 * k) 1555 j = zdia (va_up S k K) j := fun j _ => by
  unfold zdia
  by_cases h : j / 1555 = k
  · rw [kCpy, if_pos (by omega), h, va_up_self]
    congr 1
    omega
  · rw [kCpy, if_neg (by omega), va_up_ne _ _ h]
theorem kcp_dr (S : Nat → zL) (k : Nat) (g : Nat → Int32) : ∀ j, j < 1555 → kCpy (zdia S) (1555 * k) g 0 1555 j = zrow (S k) j := fun j hj => by
  rw [kCpy, if_pos (by omega)]
  unfold zdia
  rw [show (1555 * k + (j - 0)) / 1555 = k by omega, show (1555 * k + (j - 0)) % 1555 = j by omega]
/-- the diary moved up by one row -/
def kUp (S : Nat → zL) : Nat → zL := fun j => if j < 13 then S (j + 1) else S j
theorem kUp_d (S : Nat → zL) {F : Nat → Int32} (h : F = fun j => if j < 20215 then zdia S (j + 1555) else zdia S j) : ∀ j, j < 21770 → F j = zdia (kUp S) j := fun j _ => by
  subst h
  unfold zdia kUp
  by_cases w : j < 20215
  · rw [if_pos w, if_pos (show j / 1555 < 13 by omega), show (j + 1555) / 1555 = j / 1555 + 1 by omega, show (j + 1555) % 1555 = j % 1555 by omega]
  · rw [if_neg w, if_neg (show ¬ j / 1555 < 13 by omega)]
theorem kUp_s {S : Nat → zL} {i : Nat} {F F2 : Nat → Int32} (hi : i < 20215) (h : F = fun j => if j < i then zdia S (j + 1555) else zdia S j) (h2 : F2 = upd F i (F (i + 1555))) : F2 = fun j => if j < i + 1 then zdia S (j + 1555) else zdia S j := by
  subst h2
  subst h
  funext j
  by_cases e : j = i
  · subst e
    rw [upd_same, if_pos (by omega), if_neg (by omega)]
  · rw [upd_ne _ _ e]
    by_cases w : j < i
    · rw [if_pos w, if_pos (by omega)]
    · rw [if_neg w, if_neg (by omega)]
def kRem (ac : Nat) (S : Nat → zL) (K : zL) : Nat × (Nat → zL) := if ac = 14 then (14, va_up (kUp S) 13 K) else (ac + 1, va_up S ac K)
/-- a new row -/
theorem zrow_0s (k : Nat) (hk : k < 1555) {F F1 F2 : Nat → Int32} (h : ∀ j, j < 1555 → F j = nI 0) (h1 : F1 = upd F 2 (nI 250)) (h2 : F2 = upd F1 3 (nI 500)) : F2 k = zrow zL0 k := by
  subst h2
  subst h1
  by_cases e3 : k = 3
  · subst e3
    rfl
  · rw [upd_ne _ _ e3]
    by_cases e2 : k = 2
    · subst e2
      rfl
    · rw [upd_ne _ _ e2, h k hk]
      show nI 0 = zL0 (zrR k) (zrC k)
      unfold zL0
      by_cases w : zrR k = 0
      · have := zr_inv k
        rw [w, show zrB 0 = 0 from rfl] at this
        rw [if_pos w, if_neg (by omega), if_neg (by omega)]
      · rw [if_neg w]
theorem zIn_of {w : Int32} {N : Nat} (h : ¬ w < nI 0 ∧ ¬ nI N < w) (hN : N < 2 ^ 31) : zIn w (N + 1) := by
  obtain ⟨j, hj, rfl⟩ := nI_of (show ¬ w < 0 from h.1)
  exact ⟨j, by have := zk_nlt hN hj h.2; omega, rfl⟩
theorem zIn_no {w : Int32} {N : Nat} (h : ¬ (¬ w < nI 0 ∧ ¬ nI N < w)) (hN : N + 1 < 2 ^ 31) : ¬ zIn w (N + 1) := by
  rintro ⟨j, hj, rfl⟩
  exact h ⟨nI_pos (by omega), fun z => by have := zk_lt (by omega) (by omega) z; omega⟩
def mSib (K : zL) (c : Nat) : Int32 := zs (fun i => if K 9 (c * 40 + i) = nI 2 ∧ ¬ K 11 (c * 40 + i) = nI c then nI 1 else nI 0) 40
