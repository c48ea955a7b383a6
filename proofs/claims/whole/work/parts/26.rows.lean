/-! The model: a term as one row of 1555 numbers, read as a ledger's rows. -/
theorem zk_cgt {x y : Int64} (h : 0 < lg_cmp x y) : y < x := Int64.not_le.mp fun z => Int32.not_le.mpr h ((lg_cmp_le x y).mpr z)
theorem zk_cngt {x y : Int64} (h : ¬ 0 < lg_cmp x y) : ¬ y < x := Int64.not_lt.mpr ((lg_cmp_le x y).mp (Int32.not_lt.mp h))
theorem zk_ifc {c d : Prop} [Decidable c] [Decidable d] (h : c ↔ d) {x y : Int32} : (if c then x else y) = if d then x else y := by
  by_cases hc : c
  · rw [if_pos hc, if_pos (h.mp hc)]
  · rw [if_neg hc, if_neg (fun z => hc (h.mpr z))]
def zrR (k : Nat) : Nat := if k < 5 then 0 else if k < 45 then 6 else if k < 57 then 1 else if k < 69 then 2 else if k < 81 then 3 else if k < 93 then 4 else if k < 105 then 5 else if k < 110 then 7 else if k < 115 then 8 else if k < 595 then 9 else if k < 1075 then 10 else if k < 1555 then 11 else 12
def zrB (r : Nat) : Nat := if r = 0 then 0 else if r = 6 then 5 else if r = 1 then 45 else if r = 2 then 57 else if r = 3 then 69 else if r = 4 then 81 else if r = 5 then 93 else if r = 7 then 105 else if r = 8 then 110 else if r = 9 then 115 else if r = 10 then 595 else if r = 11 then 1075 else 1555
def zrC (k : Nat) : Nat := k - zrB (zrR k)
def zrow (K : zL) : Nat → Int32 := fun k => K (zrR k) (zrC k)
theorem zrR_0 {c : Nat} (h : c < 5) : zrR (0 + c) = 0 := by unfold zrR; rw [if_pos (show 0 + c < 5 by omega)]
theorem zrC_0 {c : Nat} (h : c < 5) : zrC (0 + c) = c := by unfold zrC; rw [zrR_0 h, show zrB 0 = 0 from rfl]; omega
theorem zrow_0 (K : zL) {c : Nat} (h : c < 5) : zrow K (0 + c) = K 0 c := by show K (zrR (0 + c)) (zrC (0 + c)) = K 0 c; rw [zrR_0 h, zrC_0 h]
theorem zrR_6 {c : Nat} (h : c < 40) : zrR (5 + c) = 6 := by unfold zrR; rw [if_neg (show ¬ 5 + c < 5 by omega), if_pos (show 5 + c < 45 by omega)]
theorem zrC_6 {c : Nat} (h : c < 40) : zrC (5 + c) = c := by unfold zrC; rw [zrR_6 h, show zrB 6 = 5 from rfl]; omega
theorem zrow_6 (K : zL) {c : Nat} (h : c < 40) : zrow K (5 + c) = K 6 c := by show K (zrR (5 + c)) (zrC (5 + c)) = K 6 c; rw [zrR_6 h, zrC_6 h]
theorem zrR_1 {c : Nat} (h : c < 12) : zrR (45 + c) = 1 := by unfold zrR; rw [if_neg (show ¬ 45 + c < 5 by omega), if_neg (show ¬ 45 + c < 45 by omega), if_pos (show 45 + c < 57 by omega)]
theorem zrC_1 {c : Nat} (h : c < 12) : zrC (45 + c) = c := by unfold zrC; rw [zrR_1 h, show zrB 1 = 45 from rfl]; omega
theorem zrow_1 (K : zL) {c : Nat} (h : c < 12) : zrow K (45 + c) = K 1 c := by show K (zrR (45 + c)) (zrC (45 + c)) = K 1 c; rw [zrR_1 h, zrC_1 h]
theorem zrR_2 {c : Nat} (h : c < 12) : zrR (57 + c) = 2 := by unfold zrR; rw [if_neg (show ¬ 57 + c < 5 by omega), if_neg (show ¬ 57 + c < 45 by omega), if_neg (show ¬ 57 + c < 57 by omega), if_pos (show 57 + c < 69 by omega)]
theorem zrC_2 {c : Nat} (h : c < 12) : zrC (57 + c) = c := by unfold zrC; rw [zrR_2 h, show zrB 2 = 57 from rfl]; omega
theorem zrow_2 (K : zL) {c : Nat} (h : c < 12) : zrow K (57 + c) = K 2 c := by show K (zrR (57 + c)) (zrC (57 + c)) = K 2 c; rw [zrR_2 h, zrC_2 h]
theorem zrR_3 {c : Nat} (h : c < 12) : zrR (69 + c) = 3 := by unfold zrR; rw [if_neg (show ¬ 69 + c < 5 by omega), if_neg (show ¬ 69 + c < 45 by omega), if_neg (show ¬ 69 + c < 57 by omega), if_neg (show ¬ 69 + c < 69 by omega), if_pos (show 69 + c < 81 by omega)]
theorem zrC_3 {c : Nat} (h : c < 12) : zrC (69 + c) = c := by unfold zrC; rw [zrR_3 h, show zrB 3 = 69 from rfl]; omega
theorem zrow_3 (K : zL) {c : Nat} (h : c < 12) : zrow K (69 + c) = K 3 c := by show K (zrR (69 + c)) (zrC (69 + c)) = K 3 c; rw [zrR_3 h, zrC_3 h]
theorem zrR_4 {c : Nat} (h : c < 12) : zrR (81 + c) = 4 := by unfold zrR; rw [if_neg (show ¬ 81 + c < 5 by omega), if_neg (show ¬ 81 + c < 45 by omega), if_neg (show ¬ 81 + c < 57 by omega), if_neg (show ¬ 81 + c < 69 by omega), if_neg (show ¬ 81 + c < 81 by omega), if_pos (show 81 + c < 93 by omega)]
theorem zrC_4 {c : Nat} (h : c < 12) : zrC (81 + c) = c := by unfold zrC; rw [zrR_4 h, show zrB 4 = 81 from rfl]; omega
theorem zrow_4 (K : zL) {c : Nat} (h : c < 12) : zrow K (81 + c) = K 4 c := by show K (zrR (81 + c)) (zrC (81 + c)) = K 4 c; rw [zrR_4 h, zrC_4 h]
theorem zrR_5 {c : Nat} (h : c < 12) : zrR (93 + c) = 5 := by unfold zrR; rw [if_neg (show ¬ 93 + c < 5 by omega), if_neg (show ¬ 93 + c < 45 by omega), if_neg (show ¬ 93 + c < 57 by omega), if_neg (show ¬ 93 + c < 69 by omega), if_neg (show ¬ 93 + c < 81 by omega), if_neg (show ¬ 93 + c < 93 by omega), if_pos (show 93 + c < 105 by omega)]
theorem zrC_5 {c : Nat} (h : c < 12) : zrC (93 + c) = c := by unfold zrC; rw [zrR_5 h, show zrB 5 = 93 from rfl]; omega
theorem zrow_5 (K : zL) {c : Nat} (h : c < 12) : zrow K (93 + c) = K 5 c := by show K (zrR (93 + c)) (zrC (93 + c)) = K 5 c; rw [zrR_5 h, zrC_5 h]
theorem zrR_7 {c : Nat} (h : c < 5) : zrR (105 + c) = 7 := by unfold zrR; rw [if_neg (show ¬ 105 + c < 5 by omega), if_neg (show ¬ 105 + c < 45 by omega), if_neg (show ¬ 105 + c < 57 by omega), if_neg (show ¬ 105 + c < 69 by omega), if_neg (show ¬ 105 + c < 81 by omega), if_neg (show ¬ 105 + c < 93 by omega), if_neg (show ¬ 105 + c < 105 by omega), if_pos (show 105 + c < 110 by omega)]
theorem zrC_7 {c : Nat} (h : c < 5) : zrC (105 + c) = c := by unfold zrC; rw [zrR_7 h, show zrB 7 = 105 from rfl]; omega
theorem zrow_7 (K : zL) {c : Nat} (h : c < 5) : zrow K (105 + c) = K 7 c := by show K (zrR (105 + c)) (zrC (105 + c)) = K 7 c; rw [zrR_7 h, zrC_7 h]
theorem zrR_8 {c : Nat} (h : c < 5) : zrR (110 + c) = 8 := by unfold zrR; rw [if_neg (show ¬ 110 + c < 5 by omega), if_neg (show ¬ 110 + c < 45 by omega), if_neg (show ¬ 110 + c < 57 by omega), if_neg (show ¬ 110 + c < 69 by omega), if_neg (show ¬ 110 + c < 81 by omega), if_neg (show ¬ 110 + c < 93 by omega), if_neg (show ¬ 110 + c < 105 by omega), if_neg (show ¬ 110 + c < 110 by omega), if_pos (show 110 + c < 115 by omega)]
theorem zrC_8 {c : Nat} (h : c < 5) : zrC (110 + c) = c := by unfold zrC; rw [zrR_8 h, show zrB 8 = 110 from rfl]; omega
theorem zrow_8 (K : zL) {c : Nat} (h : c < 5) : zrow K (110 + c) = K 8 c := by show K (zrR (110 + c)) (zrC (110 + c)) = K 8 c; rw [zrR_8 h, zrC_8 h]
theorem zrR_9 {c : Nat} (h : c < 480) : zrR (115 + c) = 9 := by unfold zrR; rw [if_neg (show ¬ 115 + c < 5 by omega), if_neg (show ¬ 115 + c < 45 by omega), if_neg (show ¬ 115 + c < 57 by omega), if_neg (show ¬ 115 + c < 69 by omega), if_neg (show ¬ 115 + c < 81 by omega), if_neg (show ¬ 115 + c < 93 by omega), if_neg (show ¬ 115 + c < 105 by omega), if_neg (show ¬ 115 + c < 110 by omega), if_neg (show ¬ 115 + c < 115 by omega), if_pos (show 115 + c < 595 by omega)]
theorem zrC_9 {c : Nat} (h : c < 480) : zrC (115 + c) = c := by unfold zrC; rw [zrR_9 h, show zrB 9 = 115 from rfl]; omega
theorem zrow_9 (K : zL) {c : Nat} (h : c < 480) : zrow K (115 + c) = K 9 c := by show K (zrR (115 + c)) (zrC (115 + c)) = K 9 c; rw [zrR_9 h, zrC_9 h]
theorem zrR_10 {c : Nat} (h : c < 480) : zrR (595 + c) = 10 := by unfold zrR; rw [if_neg (show ¬ 595 + c < 5 by omega), if_neg (show ¬ 595 + c < 45 by omega), if_neg (show ¬ 595 + c < 57 by omega), if_neg (show ¬ 595 + c < 69 by omega), if_neg (show ¬ 595 + c < 81 by omega), if_neg (show ¬ 595 + c < 93 by omega), if_neg (show ¬ 595 + c < 105 by omega), if_neg (show ¬ 595 + c < 110 by omega), if_neg (show ¬ 595 + c < 115 by omega), if_neg (show ¬ 595 + c < 595 by omega), if_pos (show 595 + c < 1075 by omega)]
theorem zrC_10 {c : Nat} (h : c < 480) : zrC (595 + c) = c := by unfold zrC; rw [zrR_10 h, show zrB 10 = 595 from rfl]; omega
theorem zrow_10 (K : zL) {c : Nat} (h : c < 480) : zrow K (595 + c) = K 10 c := by show K (zrR (595 + c)) (zrC (595 + c)) = K 10 c; rw [zrR_10 h, zrC_10 h]
theorem zrR_11 {c : Nat} (h : c < 480) : zrR (1075 + c) = 11 := by unfold zrR; rw [if_neg (show ¬ 1075 + c < 5 by omega), if_neg (show ¬ 1075 + c < 45 by omega), if_neg (show ¬ 1075 + c < 57 by omega), if_neg (show ¬ 1075 + c < 69 by omega), if_neg (show ¬ 1075 + c < 81 by omega), if_neg (show ¬ 1075 + c < 93 by omega), if_neg (show ¬ 1075 + c < 105 by omega), if_neg (show ¬ 1075 + c < 110 by omega), if_neg (show ¬ 1075 + c < 115 by omega), if_neg (show ¬ 1075 + c < 595 by omega), if_neg (show ¬ 1075 + c < 1075 by omega), if_pos (show 1075 + c < 1555 by omega)]
theorem zrC_11 {c : Nat} (h : c < 480) : zrC (1075 + c) = c := by unfold zrC; rw [zrR_11 h, show zrB 11 = 1075 from rfl]; omega
theorem zrow_11 (K : zL) {c : Nat} (h : c < 480) : zrow K (1075 + c) = K 11 c := by show K (zrR (1075 + c)) (zrC (1075 + c)) = K 11 c; rw [zrR_11 h, zrC_11 h]
theorem zr_le (k : Nat) : zrB (zrR k) ≤ k := by
  unfold zrR
  by_cases h0 : k < 5
  · rw [if_pos h0]; exact Nat.zero_le k
  rw [if_neg h0]
  by_cases h1 : k < 45
  · rw [if_pos h1]; exact Nat.not_lt.mp h0
  rw [if_neg h1]
  by_cases h2 : k < 57
  · rw [if_pos h2]; exact Nat.not_lt.mp h1
  rw [if_neg h2]
  by_cases h3 : k < 69
  · rw [if_pos h3]; exact Nat.not_lt.mp h2
  rw [if_neg h3]
  by_cases h4 : k < 81
  · rw [if_pos h4]; exact Nat.not_lt.mp h3
  rw [if_neg h4]
  by_cases h5 : k < 93
  · rw [if_pos h5]; exact Nat.not_lt.mp h4
  rw [if_neg h5]
  by_cases h6 : k < 105
  · rw [if_pos h6]; exact Nat.not_lt.mp h5
  rw [if_neg h6]
  by_cases h7 : k < 110
  · rw [if_pos h7]; exact Nat.not_lt.mp h6
  rw [if_neg h7]
  by_cases h8 : k < 115
  · rw [if_pos h8]; exact Nat.not_lt.mp h7
  rw [if_neg h8]
  by_cases h9 : k < 595
  · rw [if_pos h9]; exact Nat.not_lt.mp h8
  rw [if_neg h9]
  by_cases h10 : k < 1075
  · rw [if_pos h10]; exact Nat.not_lt.mp h9
  rw [if_neg h10]
  by_cases h11 : k < 1555
  · rw [if_pos h11]; exact Nat.not_lt.mp h10
  rw [if_neg h11]
  exact Nat.not_lt.mp h11
theorem zr_inv (k : Nat) : k = zrB (zrR k) + zrC k := by
  have h := zr_le k
  unfold zrC
  omega
theorem zup_g (K : zL) (k0 : Nat) (v : Int32) : upd (zrow K) k0 v = zrow (up2 K (zrR k0) (zrC k0) v) := by
  funext k
  by_cases e : k = k0
  · subst e
    rw [upd_same]
    show v = up2 K (zrR k) (zrC k) v (zrR k) (zrC k)
    rw [up2_same, upd_same]
  · rw [upd_ne _ _ e]
    show K (zrR k) (zrC k) = up2 K (zrR k0) (zrC k0) v (zrR k) (zrC k)
    by_cases h : zrR k = zrR k0
    · rw [h, up2_same, upd_ne _ _ (fun z => e (by rw [zr_inv k, zr_inv k0, h, z])), ← h]
    · rw [up2_ne _ _ _ h]
theorem zup_0 (K : zL) {c : Nat} (v : Int32) (h : c < 5) : upd (zrow K) (0 + c) v = zrow (up2 K 0 c v) := by rw [zup_g, zrR_0 h, zrC_0 h]
theorem zup_6 (K : zL) {c : Nat} (v : Int32) (h : c < 40) : upd (zrow K) (5 + c) v = zrow (up2 K 6 c v) := by rw [zup_g, zrR_6 h, zrC_6 h]
theorem zup_1 (K : zL) {c : Nat} (v : Int32) (h : c < 12) : upd (zrow K) (45 + c) v = zrow (up2 K 1 c v) := by rw [zup_g, zrR_1 h, zrC_1 h]
theorem zup_2 (K : zL) {c : Nat} (v : Int32) (h : c < 12) : upd (zrow K) (57 + c) v = zrow (up2 K 2 c v) := by rw [zup_g, zrR_2 h, zrC_2 h]
theorem zup_3 (K : zL) {c : Nat} (v : Int32) (h : c < 12) : upd (zrow K) (69 + c) v = zrow (up2 K 3 c v) := by rw [zup_g, zrR_3 h, zrC_3 h]
theorem zup_4 (K : zL) {c : Nat} (v : Int32) (h : c < 12) : upd (zrow K) (81 + c) v = zrow (up2 K 4 c v) := by rw [zup_g, zrR_4 h, zrC_4 h]
theorem zup_5 (K : zL) {c : Nat} (v : Int32) (h : c < 12) : upd (zrow K) (93 + c) v = zrow (up2 K 5 c v) := by rw [zup_g, zrR_5 h, zrC_5 h]
theorem zup_7 (K : zL) {c : Nat} (v : Int32) (h : c < 5) : upd (zrow K) (105 + c) v = zrow (up2 K 7 c v) := by rw [zup_g, zrR_7 h, zrC_7 h]
theorem zup_8 (K : zL) {c : Nat} (v : Int32) (h : c < 5) : upd (zrow K) (110 + c) v = zrow (up2 K 8 c v) := by rw [zup_g, zrR_8 h, zrC_8 h]
theorem zup_9 (K : zL) {c : Nat} (v : Int32) (h : c < 480) : upd (zrow K) (115 + c) v = zrow (up2 K 9 c v) := by rw [zup_g, zrR_9 h, zrC_9 h]
theorem zup_10 (K : zL) {c : Nat} (v : Int32) (h : c < 480) : upd (zrow K) (595 + c) v = zrow (up2 K 10 c v) := by rw [zup_g, zrR_10 h, zrC_10 h]
theorem zup_11 (K : zL) {c : Nat} (v : Int32) (h : c < 480) : upd (zrow K) (1075 + c) v = zrow (up2 K 11 c v) := by rw [zup_g, zrR_11 h, zrC_11 h]
theorem zup_l (K : zL) {c : Nat} (v : Int32) (h : c < 5) : upd (zrow K) c v = zrow (up2 K 0 c v) := by have := zup_0 K v h; rwa [Nat.zero_add] at this
theorem zrow_l (K : zL) {c : Nat} (h : c < 5) : zrow K c = K 0 c := by have := zrow_0 K h; rwa [Nat.zero_add] at this
def zb_r (G : zk_G) (q : Nat) (K : zL) : va_W := [zk_a q (G.2.1 0) 1555 (zrow K)]
-- comparisons of longs made of ints
theorem zi_lt (a b : Int32) : a.toInt64 < b.toInt64 ↔ a < b := by
  rw [Int64.lt_iff_toInt_lt, Int32.lt_iff_toInt_lt, Int32.toInt_toInt64, Int32.toInt_toInt64]
theorem zi_in (a b c : Int32) : (if ¬ a.toInt64 < b.toInt64 ∧ ¬ c.toInt64 < a.toInt64 then nI 1 else nI 0) = (if ¬ a < b ∧ ¬ c < a then nI 1 else nI 0) := by
  simp only [zi_lt]
theorem zi_fam (f : Int32) : (¬ f < nI 0 ∧ ¬ nI 4 < f) ↔ sFam f := by
  unfold sFam
  rw [Int32.lt_iff_toInt_lt, Int32.lt_iff_toInt_lt, Int32.lt_iff_toInt_lt, Int32.lt_iff_toInt_lt, show (nI 0).toInt = 0 from rfl, show (nI 4).toInt = 4 from rfl, show (0 : Int32).toInt = 0 from rfl, show (nI 5).toInt = 5 from rfl]
  omega
theorem zi_day (f : Int32) : (¬ f < nI 0 ∧ ¬ nI 39 < f) ↔ sDay f := by
  unfold sDay
  rw [Int32.lt_iff_toInt_lt, Int32.lt_iff_toInt_lt, Int32.lt_iff_toInt_lt, Int32.lt_iff_toInt_lt, show (nI 0).toInt = 0 from rfl, show (nI 39).toInt = 39 from rfl, show (0 : Int32).toInt = 0 from rfl, show (nI 40).toInt = 40 from rfl]
  omega
theorem zi_sub1 {n : Nat} (h : n < 2 ^ 31) : (nI n - nI 1).toInt = (n : Int) - 1 := by
  rcases Nat.eq_zero_or_pos n with z | z
  · subst z
    decide
  · rw [pk_sub (show 1 ≤ n by omega), nI_toInt (by omega)]
    omega
theorem zi_has {K : zL} {n t : Nat} (hI : sInv K n t) (c : Int32) : (¬ c < nI 0 ∧ ¬ nI n - nI 1 < c) ↔ sHas K c := by
  unfold sHas
  rw [hI.1, Int32.lt_iff_toInt_lt, Int32.lt_iff_toInt_lt, Int32.lt_iff_toInt_lt, Int32.lt_iff_toInt_lt, zi_sub1 (by have := hI.2.1; omega), nI_toInt (show n < 2 ^ 31 by have := hI.2.1; omega), show (nI 0).toInt = 0 from rfl, show (0 : Int32).toInt = 0 from rfl]
  omega
theorem zi_ent (fr to : Int32) (h : ¬ fr < 0) : (¬ to < fr ∧ ¬ nI 39 < to) ↔ (¬ to < fr ∧ sDay to) := by
  unfold sDay
  rw [Int32.lt_iff_toInt_lt, Int32.lt_iff_toInt_lt, Int32.lt_iff_toInt_lt, Int32.lt_iff_toInt_lt, show (nI 39).toInt = 39 from rfl, show (0 : Int32).toInt = 0 from rfl, show (nI 40).toInt = 40 from rfl]
  rw [Int32.lt_iff_toInt_lt, show (0 : Int32).toInt = 0 from rfl] at h
  omega
theorem zi_m9 : (-9999 : Int64) = (-9999 : Int32).toInt64 := by decide
-- what the model's methods answer and do
theorem zs2_i {f : Nat → Int32} {x y z : Int32} {j : Nat} (h : y = x + zs f j) (hy : z = y + f j) : z = x + zs f (j + 1) := by rw [hy, h, zs_s, Int32.add_assoc]
theorem zs2_0 (f : Nat → Int32) (x : Int32) : x = x + zs f 0 := (zk_a0 x).symm
def kCnt (K : zL) (n : Nat) (ch dy w : Int32) : Int32 := zs (fun c => zs (fun d => if (ch = -1 ∨ nI c = ch) ∧ (dy = -1 ∨ nI d = dy) ∧ K 9 (c * 40 + d) = w then nI 1 else nI 0) 40) n
def kSrv (K : zL) (n : Nat) (ch dy : Int32) : Int32 := kCnt K n ch dy (nI 2) + kCnt K n ch dy (nI 3)
def kChg (K : zL) (n : Nat) (dy py : Int32) : Int32 := zs (fun c => zs (fun d => if K 9 (c * 40 + d) = nI 2 ∧ (dy = -1 ∨ nI d = dy) ∧ (py = -1 ∨ K 11 (c * 40 + d) = py) then K 10 (c * 40 + d) else nI 0) 40) n
theorem zs_cong {f g : Nat → Int32} : ∀ {n : Nat}, (∀ k, k < n → f k = g k) → zs f n = zs g n
  | 0, _ => rfl
  | n + 1, h => by rw [zs_s, zs_s, zs_cong (fun k hk => h k (by omega)), h n (by omega)]
theorem zsum_3 (K : zL) {n : Nat} (h : n ≤ 12) : zs (fun k => zrow K (69 + k)) n = zs (K 3) n := zs_cong fun k hk => zrow_3 K (by omega)
theorem zsum_8 (K : zL) {n : Nat} (h : n ≤ 5) : zs (fun k => zrow K (110 + k)) n = zs (K 8) n := zs_cong fun k hk => zrow_8 K (by omega)
/-- who of the siblings pays -/
def kSibS (K : zL) (c : Nat) (s : Nat) (x : Int32) : Int32 := if (¬ s = c ∧ K 1 s = K 1 c ∧ ¬ K 3 s < K 0 2) ∧ (x = -1 ∨ K 3 x.toNatClampNeg < K 3 s) then nI s else x
def kSib (K : zL) (c n : Nat) : Int32 := zfold (kSibS K c) n (-1)
theorem kSib_in (K : zL) (c : Nat) : ∀ n, kSib K c n = -1 ∨ ∃ j, j < n ∧ kSib K c n = nI j := by
  intro n
  induction n with
  | zero => exact Or.inl rfl
  | succ n ih =>
    unfold kSib at *
    rw [zfold_s]
    unfold kSibS
    split
    · exact Or.inr ⟨n, Nat.lt_succ_self n, rfl⟩
    · rcases ih with h | ⟨j, hj, h⟩
      · exact Or.inl h
      · exact Or.inr ⟨j, Nat.lt_succ_of_lt hj, h⟩
def kPay (K : zL) (n c : Nat) : Int32 := if K 7 (K 1 c).toNatClampNeg = nI 1 then kSib K c n else -1
theorem zi_price {p b : Int32} (hp : ¬ p < nI 1) : p - nI 1 < b ↔ ¬ b < p := by
  rw [Int32.lt_iff_toInt_lt, Int32.lt_iff_toInt_lt, Int32.toInt_sub]
  rw [Int32.lt_iff_toInt_lt, show (nI 1).toInt = 1 from rfl] at hp
  have h1 := p.toInt_lt
  rw [show (nI 1).toInt = 1 from rfl, Int.bmod_eq_of_le (by omega) (by omega)]
  omega
theorem kSib_bal {K : zL} (hp : ¬ K 0 2 < nI 1) (c : Nat) : ∀ n, n < 2 ^ 31 → ¬ kSib K c n = -1 → ¬ K 3 (kSib K c n).toNatClampNeg < K 0 2
  | 0, _, h => absurd rfl h
  | n + 1, hn, h => by
    have e1 : kSib K c (n + 1) = kSibS K c n (kSib K c n) := rfl
    rw [e1] at h ⊢
    unfold kSibS at *
    by_cases w : (¬ n = c ∧ K 1 n = K 1 c ∧ ¬ K 3 n < K 0 2) ∧ (kSib K c n = -1 ∨ K 3 (kSib K c n).toNatClampNeg < K 3 n)
    · rw [if_pos w, nI_clamp (by omega)]
      exact w.1.2.2
    · rw [if_neg w] at h ⊢
      exact kSib_bal hp c n (by omega) h
/-- the richest sibling, found as the model finds it -/
theorem kSib_rich {K : zL} (hp : ¬ K 0 2 < nI 1) (c : Nat) : ∀ n, n < 2 ^ 31 → kSib K c n = (sRich K c n).1 ∧ (sRich K c n).2 = (if kSib K c n = -1 then K 0 2 - nI 1 else K 3 (kSib K c n).toNatClampNeg)
  | 0, _ => ⟨rfl, (if_pos rfl).symm⟩
  | n + 1, hn => by
    obtain ⟨h1, h2⟩ := kSib_rich hp c n (by omega)
    have e1 : kSib K c (n + 1) = kSibS K c n (kSib K c n) := rfl
    have e2 : sRich K c (n + 1) = if ¬ n = c ∧ K 1 n = K 1 c ∧ (sRich K c n).2 < K 3 n then (nI n, K 3 n) else sRich K c n := rfl
    have key : ((¬ n = c ∧ K 1 n = K 1 c ∧ ¬ K 3 n < K 0 2) ∧ (kSib K c n = -1 ∨ K 3 (kSib K c n).toNatClampNeg < K 3 n)) ↔ (¬ n = c ∧ K 1 n = K 1 c ∧ (sRich K c n).2 < K 3 n) := by
      rw [h2]
      by_cases z : kSib K c n = -1
      · rw [if_pos z, zi_price hp]
        exact ⟨fun h => h.1, fun h => ⟨h, Or.inl z⟩⟩
      · rw [if_neg z]
        have hb : ¬ K 3 (kSib K c n).toNatClampNeg < K 0 2 := kSib_bal hp c n (by omega) z
        constructor
        · rintro ⟨⟨a, b, _⟩, d⟩
          exact ⟨a, b, d.resolve_left z⟩
        · rintro ⟨a, b, d⟩
          refine ⟨⟨a, b, fun w => hb ?_⟩, Or.inr d⟩
          exact Int32.lt_trans d w
    rw [e1, e2, kSibS]
    by_cases w : (¬ n = c ∧ K 1 n = K 1 c ∧ (sRich K c n).2 < K 3 n)
    · rw [if_pos (key.mpr w), if_pos w]
      refine ⟨rfl, ?_⟩
      rw [if_neg (zk_m1n (by omega)), nI_clamp (by omega)]
    · rw [if_neg (fun z => w (key.mp z)), if_neg w]
      exact ⟨h1, h2⟩
theorem up2_comm (L : zL) {i i' : Nat} (j j' : Nat) (v w : Int32) (h : i ≠ i') : up2 (up2 L i j v) i' j' w = up2 (up2 L i' j' w) i j v := by
  funext a
  by_cases h1 : a = i
  · subst h1
    rw [up2_ne _ _ _ h, up2_same, up2_same, up2_ne _ _ _ h]
  · by_cases h2 : a = i'
    · subst h2
      rw [up2_same, up2_ne _ _ _ (Ne.symm h), up2_ne _ _ _ h1, up2_same]
    · rw [up2_ne _ _ _ h2, up2_ne _ _ _ h1, up2_ne _ _ _ h1, up2_ne _ _ _ h2]
theorem kPay_rich {K : zL} (hp : ¬ K 0 2 < nI 1) {n c : Nat} (hn : n < 2 ^ 31) : kPay K n c = if K 7 (K 1 c).toNatClampNeg = nI 1 then (sRich K c n).1 else -1 := by
  unfold kPay
  rw [(kSib_rich hp c n hn).1]
theorem kPay_in {K : zL} {n c : Nat} : kPay K n c = -1 ∨ ∃ j, j < n ∧ kPay K n c = nI j := by
  unfold kPay
  split
  · exact kSib_in K c n
  · exact Or.inl rfl
theorem sPayer_no {K : zL} {n c d : Nat} (h : ¬ sSuit K c d ∨ sEnt K c d) : sPayer K n c d = -1 := by unfold sPayer; exact if_pos h
theorem sPayer_own {K : zL} {n c d : Nat} (h : sSuit K c d) (h2 : ¬ sEnt K c d) (h3 : ¬ K 3 c - K 0 2 < -K 0 3) : sPayer K n c d = nI c := by
  unfold sPayer
  exact (if_neg (show ¬ (¬ sSuit K c d ∨ sEnt K c d) from fun z => z.elim (fun z => z h) h2)).trans (if_pos h3)
theorem sPayer_sib {K : zL} {n c d : Nat} (hp : ¬ K 0 2 < nI 1) (hn : n < 2 ^ 31) (h : sSuit K c d) (h2 : ¬ sEnt K c d) (h3 : K 3 c - K 0 2 < -K 0 3) : sPayer K n c d = kPay K n c := by
  rw [kPay_rich hp hn]
  unfold sPayer
  exact (if_neg (show ¬ (¬ sSuit K c d ∨ sEnt K c d) from fun z => z.elim (fun z => z h) h2)).trans (if_neg (fun z => z h3))
theorem sServe_no {K : zL} {n c d : Nat} (e : sPayer K n c d = -1) : (sServe K n c d).2 = up2 K 9 (c * 40 + d) (sKind K c d) := by unfold sServe; rw [if_pos e]
theorem sServe_py {K : zL} {n c d j : Nat} (hj : j < 2 ^ 31) (e : sPayer K n c d = nI j) : (sServe K n c d).2 = sCharge K (c * 40 + d) j := by
  unfold sServe
  rw [if_neg (show ¬ sPayer K n c d = -1 by rw [e]; exact zk_m1n hj), e, nI_clamp hj]
theorem sServe_1 {K : zL} {n c d : Nat} (h : ¬ sSuit K c d) : (sServe K n c d).2 = up2 K 9 (c * 40 + d) (nI 5) := by
  rw [sServe_no (sPayer_no (Or.inl h)), show sKind K c d = nI 5 by unfold sKind; exact if_pos h]
theorem sServe_2 {K : zL} {n c d : Nat} (h : sSuit K c d) (h2 : sEnt K c d) : (sServe K n c d).2 = up2 K 9 (c * 40 + d) (nI 3) := by
  rw [sServe_no (sPayer_no (Or.inr h2)), show sKind K c d = nI 3 by unfold sKind; exact (if_neg (fun z => z h)).trans (if_pos h2)]
theorem sServe_3 {K : zL} {n c d : Nat} (hc : c < 2 ^ 31) (h : sSuit K c d) (h2 : ¬ sEnt K c d) (h3 : ¬ K 3 c - K 0 2 < -K 0 3) : (sServe K n c d).2 = sCharge K (c * 40 + d) c := sServe_py hc (sPayer_own h h2 h3)
theorem sServe_4 {K : zL} {n c d : Nat} (hp : ¬ K 0 2 < nI 1) (hn : n < 2 ^ 31) (h : sSuit K c d) (h2 : ¬ sEnt K c d) (h3 : K 3 c - K 0 2 < -K 0 3) (e : kPay K n c = -1) : (sServe K n c d).2 = up2 K 9 (c * 40 + d) (nI 4) := by
  rw [sServe_no ((sPayer_sib hp hn h h2 h3).trans e), show sKind K c d = nI 4 by unfold sKind; exact (if_neg (fun z => z h)).trans (if_neg h2)]
theorem sServe_5 {K : zL} {n c d j : Nat} (hp : ¬ K 0 2 < nI 1) (hn : n < 2 ^ 31) (hj : j < 2 ^ 31) (h : sSuit K c d) (h2 : ¬ sEnt K c d) (h3 : K 3 c - K 0 2 < -K 0 3) (e : kPay K n c = nI j) : (sServe K n c d).2 = sCharge K (c * 40 + d) j := sServe_py hj ((sPayer_sib hp hn h h2 h3).trans e)
theorem sServe_r0 (K : zL) (n c d : Nat) : (sServe K n c d).2 0 = K 0 := by
  unfold sServe
  split <;> rfl
/-- charging with the kind put down first -/
theorem kCharge (K : zL) (p j : Nat) : up2 (up2 (up2 (up2 K 9 p (nI 2)) 3 j (K 3 j - K 0 2)) 10 p (K 0 2)) 11 p (nI j) = sCharge K p j := by
  unfold sCharge
  rw [up2_comm K p j (nI 2) (K 3 j - K 0 2) (show (9 : Nat) ≠ 3 by decide)]
/-- a day, child by child; days -/
def kDayC (n d c : Nat) (X : zL) : zL := if X 9 (c * 40 + d) = nI 1 then (sServe X n c d).2 else X
def kDay (n d : Nat) (X : zL) : zL := up2 (zfold (kDayC n d) n X) 0 0 (nI (d + 1))
def kDays (n t k : Nat) (K : zL) : zL := zfold (fun i X => kDay n (t + i) X) k K
theorem kDayC_eq (n d : Nat) (x : Int32 × zL) : ∀ j, (zfold (sDayC n d) j x).2 = zfold (kDayC n d) j x.2
  | 0 => rfl
  | j + 1 => by
    rw [zfold_s, zfold_s, ← kDayC_eq n d x j]
    unfold sDayC kDayC
    split <;> rfl
theorem kDays_eq (n t : Nat) (K : zL) : ∀ k, (sDays n t k K).2 = kDays n t k K
  | 0 => rfl
  | k + 1 => by
    show up2 (zfold (sDayC n (t + k)) n (sDays n t k K)).2 0 0 (nI (t + k + 1)) = kDay n (t + k) (kDays n t k K)
    rw [kDayC_eq, kDays_eq n t K k]
    rfl
theorem kDayC_r0 {n d c : Nat} {X : zL} : (kDayC n d c X) 0 2 = X 0 2 := by
  unfold kDayC
  split
  · rw [sServe_r0]
  · rfl
theorem kDays_r0 {n t : Nat} {K : zL} : ∀ k, (kDays n t k K) 0 2 = K 0 2
  | 0 => rfl
  | k + 1 => by
    show (up2 (zfold (kDayC n (t + k)) n (kDays n t k K)) 0 0 (nI (t + k + 1))) 0 2 = K 0 2
    rw [up2_same, upd_ne _ _ (by decide)]
    exact zfold_inv (P := fun X : zL => X 0 2 = K 0 2) (kDays_r0 k) (fun i X hX => kDayC_r0.trans hX) n
theorem sInv_kDayC {X : zL} {n t c d : Nat} (h : sInv X n t) (hc : c < n) (hd : d < 40) : sInv (kDayC n d c X) n t := by
  unfold kDayC
  split
  · exact sInv_serve h hc h.2.1 hd
  · exact h
theorem sInv_kDays {K : zL} {n t : Nat} (h : sInv K n t) (k : Nat) (hk : t + k ≤ 40) : sInv (kDays n t k K) n (t + k) := by
  rw [← kDays_eq]
  exact sInv_days h k hk
theorem sSettle_r0 (K : zL) (c d : Nat) : sSettle K c d 0 = K 0 := by
  unfold sSettle
  split
  · rfl
  · split <;> rfl
theorem sEntitle_r0 (K : zL) (t c : Nat) (fr to : Int32) : sEntitle K t c fr to 0 = K 0 := by
  unfold sEntitle
  exact zfold_inv (P := fun X : zL => X 0 = K 0) (s := up2 (up2 K 4 c (if to = -1 then -1 else fr)) 5 c to) rfl (fun i X hX => (sSettle_r0 X c i).trans hX) t
/-- a child comes: the model leaves its balance alone -/
def kCome (K : zL) (n : Nat) (f di : Int32) : zL := up2 (up2 (up2 (up2 (up2 K 1 n f) 2 n di) 4 n (-1)) 5 n (-1)) 0 1 (nI (n + 1))
theorem sInv_kCome {K : zL} {n t : Nat} {f di : Int32} (h : sInv K n t) (hn : n < 12) (hf : sFam f) : sInv (kCome K n f di) (n + 1) t := by
  have h2 := sInv_come (di := di) h hn hf
  refine ⟨h2.1, h2.2.1, h2.2.2.1, h2.2.2.2.1, fun c hc => h2.2.2.2.2.1 c hc, fun p hp e => h2.2.2.2.2.2 p hp e⟩
theorem kPay_c (K : zL) (c : Nat) (am : Int32) : up2 (up2 K 3 c (K 3 c + am)) 0 4 (K 0 4 + am) = sPay K c am := by
  unfold sPay
  rw [up2_comm K c 4 (K 3 c + am) (K 0 4 + am) (show (3 : Nat) ≠ 0 by decide)]
def kwOrd (K : zL) (t : Nat) (c d : Int32) : Int32 := if ¬ sHas K c ∨ ¬ sDay d then nI 1 else if d < nI t then nI 2 else nI 0
def kCan (t : Nat) (k : Int32) : Prop := ¬ k < nI 1 ∧ ¬ nI 40 - nI t < k
theorem kWrite_r0 (K : zL) (n f : Nat) : sWrite K n f 0 2 = K 0 2 := by
  have h : (sOff K (nI f) n) 0 = K 0 := zfold_inv (P := fun X : zL => X 0 = K 0) rfl (fun i X hX => by split; exact hX; exact hX) n
  show (up2 (sOff K (nI f) n) 8 f _) 0 2 = K 0 2
  rw [up2_ne _ _ _ (by decide : (0 : Nat) ≠ 8), h]
