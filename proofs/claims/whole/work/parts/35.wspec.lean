/-! What would be, in the model's words. -/
def kRefOf (K : zL) (n : Nat) (f : Int32) : Int32 := zs (fun c => if K 1 c = f then kCnt K n (nI c) (-1) (nI 4) else nI 0) n
def kEnd (K : zL) (n t : Nat) : zL := kDays n t (40 - t) K
def kTry (K : zL) (n t : Nat) (f : Int32) (lo k : Nat) : Prop := kRefOf (kEnd (up2 K 3 lo (K 3 lo + nI (100 * k))) n t) n f = kRefOf K n f
def kBC (K : zL) (n t c : Nat) : Int32 := kCnt (kEnd (sEntitle K t c (nI 0) (nI 39)) n t) n (-1) (-1) (nI 4)
def kBStep (K : zL) (n t : Nat) (c : Nat) (x : Int32 × Int32) : Int32 × Int32 := if x.1 = -1 ∨ kBC K n t c < x.2 then (nI c, kBC K n t c) else x
def kBest (K : zL) (n t k : Nat) : Int32 × Int32 := zfold (kBStep K n t) k (-1, nI 0)
/-- a group of a script: what it is, and its five digits -/
def kCmd (K : zL) (n t how fv : Nat) : Int32 × zL :=
  if how = 1 then (if fv % 10 < 2 ∧ kwOrd K t (nI (fv / 1000)) (nI (fv / 10 % 100)) = 0 then (nI 1, sOrd K (fv / 1000 * 40 + fv / 10 % 100) (if fv % 10 = 1 then nI 1 else nI 0)) else (nI 0, K))
  else if how = 2 then (if sfPay K (nI (fv / 1000)) (nI (fv % 1000)) = 0 then (nI 1, sPay K (fv / 1000) (nI (fv % 1000))) else (nI 0, K))
  else if how = 3 then (if fv % 10 = 0 ∧ sfEnt K (nI (fv / 1000)) (nI 0) (nI (fv / 10 % 100)) = 0 then (nI 1, sEntitle K t (fv / 1000) (nI 0) (nI (fv / 10 % 100))) else (nI 0, K))
  else if how = 4 then (if fv % 10 ≤ 1 ∧ fv % 10000 ≤ 1 ∧ sFam (nI (fv / 10000)) then (nI 1, up2 K 7 (fv / 10000) (nI (fv % 10))) else (nI 0, K))
  else if how = 5 then (if fv % 10000 = 0 ∧ sFam (nI (fv / 10000)) ∧ 0 < sDebt K n (nI (fv / 10000)) then (nI 1, sWrite K n (fv / 10000)) else (nI 0, K))
  else if how = 6 then (if fv < 100 ∧ (¬ nI fv < nI 1 ∧ ¬ nI 40 - nI t < nI fv) then (nI 1, kDays n t fv K) else (nI 0, K))
  else if how = 7 then (if sHas K (nI (fv / 1000)) ∧ sDay (nI (fv / 10 % 100)) ∧ K 9 (fv / 1000 * 40 + fv / 10 % 100) = nI (fv % 10) then nI 1 else nI 0, K)
  else if how = 8 then (if fv % 10 = 0 ∧ sFam (nI (fv / 10000)) ∧ ¬ nI (10 * (fv / 10 % 1000)) < sDebt K n (nI (fv / 10000)) then nI 1 else nI 0, K)
  else if how = 9 then (if fv < 100 ∧ ¬ kSrv K n (-1) (-1) < nI fv then nI 1 else nI 0, K)
  else (nI 0, K)
theorem kCmd_1 {K : zL} {n t how fv : Nat} (h : how = 1) : kCmd K n t how fv = (if fv % 10 < 2 ∧ kwOrd K t (nI (fv / 1000)) (nI (fv / 10 % 100)) = 0 then (nI 1, sOrd K (fv / 1000 * 40 + fv / 10 % 100) (if fv % 10 = 1 then nI 1 else nI 0)) else (nI 0, K)) := by subst h; rfl
theorem kCmd_2 {K : zL} {n t how fv : Nat} (h : how = 2) : kCmd K n t how fv = (if sfPay K (nI (fv / 1000)) (nI (fv % 1000)) = 0 then (nI 1, sPay K (fv / 1000) (nI (fv % 1000))) else (nI 0, K)) := by subst h; rfl
theorem kCmd_3 {K : zL} {n t how fv : Nat} (h : how = 3) : kCmd K n t how fv = (if fv % 10 = 0 ∧ sfEnt K (nI (fv / 1000)) (nI 0) (nI (fv / 10 % 100)) = 0 then (nI 1, sEntitle K t (fv / 1000) (nI 0) (nI (fv / 10 % 100))) else (nI 0, K)) := by subst h; rfl
theorem kCmd_4 {K : zL} {n t how fv : Nat} (h : how = 4) : kCmd K n t how fv = (if fv % 10 ≤ 1 ∧ fv % 10000 ≤ 1 ∧ sFam (nI (fv / 10000)) then (nI 1, up2 K 7 (fv / 10000) (nI (fv % 10))) else (nI 0, K)) := by subst h; rfl
theorem kCmd_5 {K : zL} {n t how fv : Nat} (h : how = 5) : kCmd K n t how fv = (if fv % 10000 = 0 ∧ sFam (nI (fv / 10000)) ∧ 0 < sDebt K n (nI (fv / 10000)) then (nI 1, sWrite K n (fv / 10000)) else (nI 0, K)) := by subst h; rfl
theorem kCmd_6 {K : zL} {n t how fv : Nat} (h : how = 6) : kCmd K n t how fv = (if fv < 100 ∧ (¬ nI fv < nI 1 ∧ ¬ nI 40 - nI t < nI fv) then (nI 1, kDays n t fv K) else (nI 0, K)) := by subst h; rfl
theorem kCmd_7 {K : zL} {n t how fv : Nat} (h : how = 7) : kCmd K n t how fv = (if sHas K (nI (fv / 1000)) ∧ sDay (nI (fv / 10 % 100)) ∧ K 9 (fv / 1000 * 40 + fv / 10 % 100) = nI (fv % 10) then nI 1 else nI 0, K) := by subst h; rfl
theorem kCmd_8 {K : zL} {n t how fv : Nat} (h : how = 8) : kCmd K n t how fv = (if fv % 10 = 0 ∧ sFam (nI (fv / 10000)) ∧ ¬ nI (10 * (fv / 10 % 1000)) < sDebt K n (nI (fv / 10000)) then nI 1 else nI 0, K) := by subst h; rfl
theorem kCmd_9 {K : zL} {n t how fv : Nat} (h : how = 9) : kCmd K n t how fv = (if fv < 100 ∧ ¬ kSrv K n (-1) (-1) < nI fv then nI 1 else nI 0, K) := by subst h; rfl
theorem kCmd_no {K : zL} {n t how fv : Nat} (h1 : ¬ how = 1) (h2 : ¬ how = 2) (h3 : ¬ how = 3) (h4 : ¬ how = 4) (h5 : ¬ how = 5) (h6 : ¬ how = 6) (h7 : ¬ how = 7) (h8 : ¬ how = 8) (h9 : ¬ how = 9) : kCmd K n t how fv = (nI 0, K) := by
  unfold kCmd
  rw [if_neg h1, if_neg h2, if_neg h3, if_neg h4, if_neg h5, if_neg h6, if_neg h7, if_neg h8, if_neg h9]
theorem kCan_nat {t fv : Nat} (ht : t ≤ 40) (hf : fv < 2 ^ 31) (h : ¬ nI fv < nI 1 ∧ ¬ nI 40 - nI t < nI fv) : 1 ≤ fv ∧ t + fv ≤ 40 := by
  obtain ⟨j, e, h1, h2⟩ := kwDays_0 ht h
  have e2 := zk_eq hf (by omega) e
  omega
theorem kCmd_inv {K : zL} {n t how fv : Nat} (h : sInv K n t) (hf : fv < 100000) : zOk (kCmd K n t how fv) := by
  have hn := h.2.1
  by_cases h1 : how = 1
  · rw [kCmd_1 h1]
    exact zOk_if (sInv_at (sInv_ord _ h)) (sInv_at h)
  · by_cases h2 : how = 2
    · rw [kCmd_2 h2]
      exact zOk_if (sInv_at (sInv_pay _ h)) (sInv_at h)
    · by_cases h3 : how = 3
      · rw [kCmd_3 h3]
        by_cases w : fv % 10 = 0 ∧ sfEnt K (nI (fv / 1000)) (nI 0) (nI (fv / 10 % 100)) = 0
        · rw [if_pos w]
          exact sInv_at (sInv_entitle _ _ h (sHas_lt h (by omega) (sfEnt_0 w.2).1) hn t h.2.2.2.1)
        · rw [if_neg w]
          exact sInv_at h
      · by_cases h4 : how = 4
        · rw [kCmd_4 h4]
          exact zOk_if (sInv_at (sInv_row h rfl rfl rfl rfl)) (sInv_at h)
        · by_cases h5 : how = 5
          · rw [kCmd_5 h5]
            exact zOk_if (sInv_at (sInv_write h)) (sInv_at h)
          · by_cases h6 : how = 6
            · rw [kCmd_6 h6]
              by_cases w : fv < 100 ∧ (¬ nI fv < nI 1 ∧ ¬ nI 40 - nI t < nI fv)
              · rw [if_pos w]
                exact sInv_at (sInv_kDays h fv (kCan_nat h.2.2.2.1 (by omega) w.2).2)
              · rw [if_neg w]
                exact sInv_at h
            · by_cases h7 : how = 7
              · rw [kCmd_7 h7]
                exact sInv_at h
              · by_cases h8 : how = 8
                · rw [kCmd_8 h8]
                  exact sInv_at h
                · by_cases h9 : how = 9
                  · rw [kCmd_9 h9]
                    exact sInv_at h
                  · rw [kCmd_no h1 h2 h3 h4 h5 h6 h7 h8 h9]
                    exact sInv_at h
theorem kCmd_r0 {K : zL} {n t how fv : Nat} : (kCmd K n t how fv).2 0 2 = K 0 2 := by
  have key : ∀ (c : Prop) [Decidable c] (X : zL), X 0 2 = K 0 2 → (if c then (nI 1, X) else (nI 0, K)).2 0 2 = K 0 2 := fun c _ X hX => by
    by_cases w : c
    · rw [if_pos w]; exact hX
    · rw [if_neg w]
  by_cases h1 : how = 1
  · rw [kCmd_1 h1]; exact key _ _ rfl
  · by_cases h2 : how = 2
    · rw [kCmd_2 h2]; exact key _ _ rfl
    · by_cases h3 : how = 3
      · rw [kCmd_3 h3]; exact key _ _ (congrFun (sEntitle_r0 K t (fv / 1000) (nI 0) (nI (fv / 10 % 100))) 2)
      · by_cases h4 : how = 4
        · rw [kCmd_4 h4]; exact key _ _ rfl
        · by_cases h5 : how = 5
          · rw [kCmd_5 h5]; exact key _ _ (kWrite_r0 K n (fv / 10000))
          · by_cases h6 : how = 6
            · rw [kCmd_6 h6]; exact key _ _ (kDays_r0 fv)
            · by_cases h7 : how = 7
              · rw [kCmd_7 h7]
              · by_cases h8 : how = 8
                · rw [kCmd_8 h8]
                · by_cases h9 : how = 9
                  · rw [kCmd_9 h9]
                  · rw [kCmd_no h1 h2 h3 h4 h5 h6 h7 h8 h9]
/-- a turn -/
def kTurn (K : zL) (n t g : Nat) : zL :=
  if g % 16 = 0 then (kDoes K n t (nI 99) (nI (g / 16 % 5)) (nI (g / 128 % 4)) (nI 0)).2
  else if g % 16 < 7 then (if kwOrd K t (nI (g / 16 % max n 1)) (nI (g / 256 % 40)) = 0 then sOrd K (g / 16 % max n 1 * 40 + g / 256 % 40) (nI 1) else K)
  else if g % 16 < 9 then (kDoes K n t (nI 112) (nI (g / 16 % max n 1)) (nI (1 + g / 16384 % 999)) (nI 0)).2
  else if g % 16 = 9 then (kDoes K n t (nI 101) (nI (g / 16 % max n 1)) (nI (g / 256 % 40)) (nI 39)).2
  else if g % 16 = 10 then up2 K 7 (g / 16 % 5) (nI 1)
  else if g % 16 = 11 then (kDoes K n t (nI 109) (nI (g / 256 % 40)) (nI (g / 16384 % 4)) (nI 0)).2
  else if g % 16 < 15 then (kDoes K n t (nI 100) (nI 1) (nI 0) (nI 0)).2
  else if 0 < sDebt K n (nI (g / 16 % 5)) then sWrite K n (g / 16 % 5) else K
theorem sFam_n {k : Nat} (h : k < 5) : sFam (nI k) := ⟨nI_pos (by omega), (nI_ltI (by omega) (by omega)).mpr h⟩
theorem sDay_n {k : Nat} (h : k < 40) : sDay (nI k) := ⟨nI_pos (by omega), (nI_ltI (by omega) (by omega)).mpr h⟩
theorem kDok_c {k : Nat} (h : k < 5) : kDok (nI 99) (nI k) := ⟨fun _ => sFam_n h, fun z => absurd z (by decide), fun z => absurd z (by decide)⟩
theorem kDok_m {k : Nat} (h : k < 40) : kDok (nI 109) (nI k) := ⟨fun z => absurd z (by decide), fun _ => sDay_n h, fun z => absurd z (by decide)⟩
theorem kDok_p (a : Int32) : kDok (nI 112) a := ⟨fun z => absurd z (by decide), fun z => absurd z (by decide), fun z => absurd z (by decide)⟩
theorem kDok_e (a : Int32) : kDok (nI 101) a := ⟨fun z => absurd z (by decide), fun z => absurd z (by decide), fun z => absurd z (by decide)⟩
theorem kDok_d (a : Int32) : kDok (nI 100) a := ⟨fun z => absurd z (by decide), fun z => absurd z (by decide), fun z => absurd z (by decide)⟩
theorem kTurn_inv {K : zL} {n t g : Nat} (h : sInv K n t) : sInv (kTurn K n t g) (zN (kTurn K n t g)) (zT (kTurn K n t g)) := by
  have key : ∀ (c : Prop) [Decidable c] (X Y : zL), sInv X (zN X) (zT X) → sInv Y (zN Y) (zT Y) → sInv (if c then X else Y) (zN (if c then X else Y)) (zT (if c then X else Y)) := fun c _ X Y hX hY => by
    by_cases w : c
    · rw [if_pos w]; exact hX
    · rw [if_neg w]; exact hY
  unfold kTurn
  exact key _ _ _ (kDoes_inv h (kDok_c (by omega))) (key _ _ _ (key _ _ _ (sInv_at (sInv_ord _ h)) (sInv_at h)) (key _ _ _ (kDoes_inv h (kDok_p _)) (key _ _ _ (kDoes_inv h (kDok_e _)) (key _ _ _ (sInv_at (sInv_row h rfl rfl rfl rfl)) (key _ _ _ (kDoes_inv h (kDok_m (by omega))) (key _ _ _ (kDoes_inv h (kDok_d _)) (key _ _ _ (sInv_at (sInv_write h)) (sInv_at h))))))))
theorem kTurn_r0 {K : zL} {n t g : Nat} : kTurn K n t g 0 2 = K 0 2 := by
  have key : ∀ (c : Prop) [Decidable c] (X Y : zL), X 0 2 = K 0 2 → Y 0 2 = K 0 2 → (if c then X else Y) 0 2 = K 0 2 := fun c _ X Y hX hY => by
    by_cases w : c
    · rw [if_pos w]; exact hX
    · rw [if_neg w]; exact hY
  unfold kTurn
  exact key _ _ _ kDoes_r0 (key _ _ _ (key _ _ _ rfl rfl) (key _ _ _ kDoes_r0 (key _ _ _ kDoes_r0 (key _ _ _ rfl (key _ _ _ kDoes_r0 (key _ _ _ kDoes_r0 (key _ _ _ (kWrite_r0 K n (g / 16 % 5)) rfl)))))))
/-- a script, a simulation -/
def kStep (sc : Int64) (n : Nat) (i : Nat) (x : Option Nat × zL) : Option Nat × zL :=
  if x.1 = none then ((if (kCmd x.2 (zN x.2) (zT x.2) ((rGrp sc n i).toNatClampNeg / 100000) ((rGrp sc n i).toNatClampNeg % 100000)).1 = nI 0 then some i else none), (kCmd x.2 (zN x.2) (zT x.2) ((rGrp sc n i).toNatClampNeg / 100000) ((rGrp sc n i).toNatClampNeg % 100000)).2) else x
def kRun (K : zL) (sc : Int64) (n k : Nat) : Option Nat × zL := zfold (kStep sc n) k (none, K)
theorem kRun_hit {K X U : zL} {sc : Int64} {n i : Nat} (h : (none, X) = kRun K sc n i) (hi : i < n) (h2 : kStep sc n i (none, X) = (some i, U)) : kRun K sc n n = (some i, U) := by
  have e : kRun K sc n (i + 1) = (some i, U) := by
    show kStep sc n i (kRun K sc n i) = _
    rw [← h]
    exact h2
  have := zfold_stay (f := kStep sc n) (P := fun x : Option Nat × zL => ¬ x.1 = none) (fun _ _ hx => if_neg hx) (s := (none, K)) (i + 1) (by show ¬ (kRun K sc n (i + 1)).1 = none; rw [e]; exact fun z => by cases z) (n - (i + 1))
  rw [show i + 1 + (n - (i + 1)) = n by omega] at this
  exact this.trans e
def kMStep (x : Int64 × zL) : Int64 × zL := (mNext x.1, kTurn x.2 (zN x.2) (zT x.2) (mR (mNext x.1)))
def kMRun (K : zL) (seed : Int64) (k : Nat) : Int64 × zL := zfold (fun _ x => kMStep x) k (seed, K)
/-- 1000000 to the k -/
def pw6 (k : Nat) : Nat := 1000000 ^ k
theorem pw6_s (k : Nat) : lN (pw6 k) * lN 1000000 = lN (pw6 (k + 1)) := by rw [lN_mul]; rfl
theorem pw6_le {k : Nat} (h : k ≤ 3) : pw6 k ≤ 1000000000000000000 := by
  rcases (show k = 0 ∨ k = 1 ∨ k = 2 ∨ k = 3 by omega) with rfl | rfl | rfl | rfl <;> decide
theorem pw6_1 (k : Nat) : 1 ≤ pw6 k := Nat.one_le_iff_ne_zero.mpr (Nat.pos_iff_ne_zero.mp (Nat.pow_pos (by decide)))
theorem pw6_d {k : Nat} (h : k ≤ 2) : lN (pw6 (k + 1)) / lN 1000000 = lN (pw6 k) := by
  rw [pk_lDiv (by have := pw6_le (show k + 1 ≤ 3 by omega); omega) (by decide) (by decide)]
  congr 1
  unfold pw6
  rw [Nat.pow_succ]
  exact Nat.mul_div_cancel _ (by decide)
/-- the group that the model cuts out -/
theorem kGrp {s k n i : Nat} (hs : s < 2 ^ 63) (hi : i < n) (hn : n ≤ 3) (hk : k = n - 1 - i) : (lN s / lN (pw6 k) - lN s / lN (pw6 k) / lN 1000000 * lN 1000000).toInt32 = rGrp (lN s) n i := by
  rw [rGrp_lN hs, pk_lDiv hs (pw6_1 k) (by have := pw6_le (show k ≤ 3 by omega); omega), pk_lRem (Nat.lt_of_le_of_lt (Nat.div_le_self _ _) hs) (by decide) (by decide), lN_i, hk]
  rfl
theorem pw6_ne {k : Nat} (h : k ≤ 3) : ¬ lN (pw6 k) = 0 := fun z => by
  have h1 := pw6_1 k
  have h2 := pw6_le h
  have := (pk_lEQ (show pw6 k < 2 ^ 63 by omega) (show 0 < 2 ^ 63 by decide)).mp z
  omega
theorem zl_or {x lo hi : Int64} (h : ¬ (¬ x < lo ∧ ¬ hi < x)) : x < lo ∨ hi < x := by
  by_cases z : x < lo
  · exact Or.inl z
  · by_cases w : hi < x
    · exact Or.inr w
    · exact absurd ⟨z, w⟩ h
