/-! The model's object: arrays, the diary, the kept rows. -/
def zb_a (G : zk_G) (q n : Nat) (f : Nat → Int32) : va_W := [zk_a q (G.2.1 0) n f]
def zb_f (G : zk_G) (q : Nat) (f : Nat → Int32) : va_W := [zk_a q (G.2.1 1) 2 f]
/-- rows one behind another -/
def zdia (S : Nat → zL) : Nat → Int32 := fun k => zrow (S (k / 1555)) (k % 1555)
def zb_d (G : zk_G) (q : Nat) (S : Nat → zL) : va_W := [zk_a q (G.2.1 0) 21770 (zdia S)]
def zb_k (G : zk_G) (q : Nat) (S : Nat → zL) : va_W := [zk_a q (G.2.1 0) 3110 (zdia S)]
/-- the model's object; addresses: itself, text, now, trial, diary, kept, isKept -/
def zb_6 (G : zk_G) (b : Nat → Nat) (rf sz ac sp ou : Int32) : va_W := [(b 0, .inr (5, [.int rf, .ref (b 1), .int sz, .ref (b 2), .ref (b 3), .ref (b 4), .int ac, .ref (b 5), .ref (b 6), .int sp, .int ou]))]
/-- 1555 (or m) places of f from fa on, put into g from ta on -/
def kCpy (f : Nat → Int32) (fa : Nat) (g : Nat → Int32) (ta m : Nat) : Nat → Int32 := fun j => if ta ≤ j ∧ j < ta + m then f (fa + (j - ta)) else g j
theorem kCpy_0 (f : Nat → Int32) (fa : Nat) (g : Nat → Int32) (ta : Nat) : kCpy f fa g ta 0 = g := funext fun j => if_neg (by omega)
theorem kCpy_s {f : Nat → Int32} {fa : Nat} {g : Nat → Int32} {ta i : Nat} {F F2 : Nat → Int32} (h : F = kCpy f fa g ta i) (h2 : F2 = upd F (ta + i) (f (fa + i))) : F2 = kCpy f fa g ta (i + 1) := by
  subst h2
  subst h
  funext j
  by_cases e : j = ta + i
  · subst e
    rw [upd_same, kCpy, if_pos (by omega)]
    congr 1
    omega
  · rw [upd_ne _ _ e, kCpy, kCpy]
    by_cases w : ta ≤ j ∧ j < ta + i
    · rw [if_pos w, if_pos (by omega)]
    · rw [if_neg w, if_neg (by omega)]
theorem kcp_rr (K : zL) (g : Nat → Int32) : ∀ j, j < 1555 → kCpy (zrow K) 0 g 0 1555 j = zrow K j := fun j hj => by
  rw [kCpy, if_pos (by omega)]
  congr 1
  omega
theorem kcp_rd (K : zL) (S : Nat → zL) (k N : Nat) : ∀ j, j < N → kCpy (zrow K) 0 (zdia S) (1555 * k) 1555 j = zdia (va_up S k K) j := fun j _ => by
  unfold zdia
  by_cases h : j / 1555 = k
  · rw [kCpy, if_pos (by omega), h, va_up_self]
    congr 1
    omega
  · rw [kCpy, if_neg (by omega), va_up_ne _ _ h]
theorem kcp_dr (S : Nat → zL) (k : Nat) (g : Nat → Int32) : ∀ j, j < 1555 → kCpy (zdia S) (1555 * k) g 0 1555 j = zrow (S k) j := fun j hj => by
  rw [kCpy, if_pos (by omega)]
  unfold zdia
  rw [show (1555 * k + (j - 0)) / 1555 = k by omega, show (1555 * k + (j - 0)) % 1555 = j by omega]
/-- the diary moved up by one row -/
def kUp (S : Nat → zL) : Nat → zL := fun j => if j < 13 then S (j + 1) else S j
theorem kUp_d (S : Nat → zL) {F : Nat → Int32} (h : F = fun j => if j < 20215 then zdia S (j + 1555) else zdia S j) : ∀ j, j < 21770 → F j = zdia (kUp S) j := fun j _ => by
  subst h
  unfold zdia kUp
  dsimp only
  by_cases w : j < 20215
  · rw [if_pos w, if_pos (show j / 1555 < 13 by omega), show (j + 1555) / 1555 = j / 1555 + 1 by omega, show (j + 1555) % 1555 = j % 1555 by omega]
  · rw [if_neg w, if_neg (show ¬ j / 1555 < 13 by omega)]
theorem kUp_s {S : Nat → zL} {i : Nat} {F F2 : Nat → Int32} (hi : i < 20215) (h : F = fun j => if j < i then zdia S (j + 1555) else zdia S j) (h2 : F2 = upd F i (F (i + 1555))) : F2 = fun j => if j < i + 1 then zdia S (j + 1555) else zdia S j := by
  subst h2
  subst h
  funext j
  by_cases e : j = i
  · subst e
    rw [upd_same]
    dsimp only
    rw [if_neg (show ¬ j + 1555 < j by omega), if_pos (show j < j + 1 by omega)]
  · rw [upd_ne _ _ e]
    by_cases w : j < i
    · rw [if_pos w, if_pos (show j < i + 1 by omega)]
    · rw [if_neg w, if_neg (show ¬ j < i + 1 by omega)]
def kRem (ac : Nat) (S : Nat → zL) (K : zL) : Nat × (Nat → zL) := if ac = 14 then (14, va_up (kUp S) 13 K) else (ac + 1, va_up S ac K)
/-- a new row -/
theorem zrow_0s (k : Nat) (hk : k < 1555) {F F1 F2 : Nat → Int32} (h : ∀ j, j < 1555 → F j = nI 0) (h1 : F1 = upd F 2 (nI 250)) (h2 : F2 = upd F1 3 (nI 500)) : F2 k = zrow zL0 k := by
  subst h2
  subst h1
  by_cases e3 : k = 3
  · subst e3
    rfl
  · rw [upd_ne _ _ e3]
    by_cases e2 : k = 2
    · subst e2
      rfl
    · rw [upd_ne _ _ e2, h k hk]
      show nI 0 = zL0 (zrR k) (zrC k)
      unfold zL0
      by_cases w : zrR k = 0
      · have := zr_inv k
        rw [w, show zrB 0 = 0 from rfl] at this
        rw [if_pos w, if_neg (by omega), if_neg (by omega)]
      · rw [if_neg w]
theorem zIn_of {w : Int32} {N : Nat} (h : ¬ w < nI 0 ∧ ¬ nI N < w) (hN : N < 2 ^ 31) : zIn w (N + 1) := by
  obtain ⟨j, hj, rfl⟩ := nI_of (show ¬ w < 0 from h.1)
  exact ⟨j, by have := zk_nlt hN hj h.2; omega, rfl⟩
theorem zIn_no {w : Int32} {N : Nat} (h : ¬ (¬ w < nI 0 ∧ ¬ nI N < w)) (hN : N + 1 < 2 ^ 31) : ¬ zIn w (N + 1) := by
  rintro ⟨j, hj, rfl⟩
  exact h ⟨nI_pos (by omega), fun z => by have := zk_lt (by omega) (by omega) z; omega⟩
def mSib (K : zL) (c : Nat) : Int32 := zs (fun i => if K 9 (c * 40 + i) = nI 2 ∧ ¬ K 11 (c * 40 + i) = nI c then nI 1 else nI 0) 40
theorem zin_or {x lo hi : Int32} (h : ¬ (¬ x < lo ∧ ¬ hi < x)) : x < lo ∨ hi < x := by
  by_cases z : x < lo
  · exact Or.inl z
  · by_cases w : hi < x
    · exact Or.inr w
    · exact absurd ⟨z, w⟩ h
theorem zFl_p {f : Int32} (h : zFl f) (h2 : ¬ 0 < f) : f = 0 := by
  rcases h with e | e | e | e
  · exact e
  · subst e; exact absurd (by decide) h2
  · subst e; exact absurd (by decide) h2
  · subst e; exact absurd (by decide) h2
theorem zFl_n {f : Int32} (h2 : 0 < f) : ¬ f = 0 := fun e => by subst e; exact absurd h2 (by decide)
theorem kwOrd_v (K : zL) (t : Nat) (c d : Int32) : zFl (kwOrd K t c d) := by unfold kwOrd; exact zFl_if zFl_1 (zFl_if zFl_2 zFl_00)
theorem kwOrd_0 {K : zL} {t : Nat} {c d : Int32} (h : kwOrd K t c d = 0) : sHas K c ∧ sDay d ∧ ¬ d < nI t := by
  unfold kwOrd at h
  by_cases h1 : sHas K c ∧ sDay d
  · rw [if_neg (fun z => z.elim (fun z => z h1.1) (fun z => z h1.2))] at h
    by_cases h3 : d < nI t
    · rw [if_pos h3] at h; exact absurd h (by decide)
    · exact ⟨h1.1, h1.2, h3⟩
  · rw [if_pos (by by_cases z : sHas K c; exact Or.inr (fun y => h1 ⟨z, y⟩); exact Or.inl z)] at h; exact absurd h (by decide)
def kwOff (K : zL) (n : Nat) (f : Int32) : Int32 := if ¬ sFam f then nI 1 else if sDebt K n f = 0 then nI 2 else nI 0
def kwDays (t : Nat) (k : Int32) : Int32 := if k < nI 1 ∨ nI 40 < k then nI 1 else if nI (40 - t) < k then nI 2 else nI 0
def kwSet (w v : Int32) : Int32 := if (w = 0 ∧ ¬ v < nI 1 ∧ ¬ nI 999 < v) ∨ (w = nI 1 ∧ ¬ v < 0 ∧ ¬ nI 9999 < v) then nI 0 else nI 1
theorem zi_40 {t : Nat} (h : t ≤ 40) : nI 40 - nI t = nI (40 - t) := pk_sub h
theorem kwDays_0 {t : Nat} {k : Int32} (ht : t ≤ 40) (h : ¬ k < nI 1 ∧ ¬ nI 40 - nI t < k) : ∃ j, k = nI j ∧ 1 ≤ j ∧ t + j ≤ 40 := by
  obtain ⟨j, hj, rfl⟩ := nI_of (show ¬ k < 0 from fun z => h.1 (Int32.lt_trans z (by decide)))
  rw [zi_40 ht] at h
  exact ⟨j, rfl, zk_nlt hj (by omega) h.1, by have := zk_nlt (by omega) hj h.2; omega⟩
/-- the model moves an amount: first from the one, then to the other -/
theorem kMove {K : zL} {c o : Nat} (am : Int32) (h : c ≠ o) : up2 (up2 K 3 c (K 3 c - am)) 3 o (up2 K 3 c (K 3 c - am) 3 o + am) = sMove K c o am := by
  unfold sMove
  rw [up2_same, up2_same, upd_ne _ _ (Ne.symm h), upd_ne _ _ h]
  funext a
  by_cases h1 : a = 3
  · subst h1
    rw [up2_same, up2_same, up2_same, up2_same]
    funext x
    by_cases x1 : x = c
    · subst x1
      rw [upd_ne _ _ h, upd_same, upd_same]
    · by_cases x2 : x = o
      · subst x2
        rw [upd_same, upd_ne _ _ x1, upd_same]
      · rw [upd_ne _ _ x2, upd_ne _ _ x1, upd_ne _ _ x1, upd_ne _ _ x2]
  · rw [up2_ne _ _ _ h1, up2_ne _ _ _ h1, up2_ne _ _ _ h1, up2_ne _ _ _ h1]
