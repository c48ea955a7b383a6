/-! What the ledger's methods do, as functions of its rows. -/
/-- a fold that counts up -/
def zfold {σ : Type} (f : Nat → σ → σ) : Nat → σ → σ
  | 0, s => s
  | n + 1, s => f n (zfold f n s)
theorem zfold_s {σ : Type} (f : Nat → σ → σ) (n : Nat) (s : σ) : zfold f (n + 1) s = f n (zfold f n s) := rfl
theorem zfold_i {σ : Type} {f : Nat → σ → σ} {n : Nat} {s x y : σ} (h : x = zfold f n s) (hy : y = f n x) : y = zfold f (n + 1) s := by rw [hy, h, zfold_s]
abbrev zL : Type := Nat → Nat → Int32
abbrev sFam (f : Int32) : Prop := ¬ f < 0 ∧ f < nI 5
abbrev sDay (d : Int32) : Prop := ¬ d < 0 ∧ d < nI 40
abbrev sHas (L : zL) (c : Int32) : Prop := ¬ c < 0 ∧ c < L 0 1
abbrev sEnt (L : zL) (c d : Nat) : Prop := ¬ L 4 c = -1 ∧ ¬ nI d < L 4 c ∧ ¬ L 5 c < nI d
abbrev sSuit (L : zL) (c d : Nat) : Prop := L 6 d &&& L 2 c = 0
/-- the numbers that stand: children n, today t, the families and payers in their ranges -/
def sInv (L : zL) (n t : Nat) : Prop := L 0 1 = nI n ∧ n ≤ 12 ∧ L 0 0 = nI t ∧ t ≤ 40 ∧ (∀ c, c < n → ∃ f, f < 5 ∧ L 1 c = nI f) ∧ (∀ p, p < 480 → L 9 p = nI 2 → ∃ j, j < n ∧ L 11 p = nI j)
theorem up2_same (L : zL) (i j : Nat) (v : Int32) : up2 L i j v i = upd (L i) j v := if_pos rfl
theorem up2_ne (L : zL) {i i' : Nat} (j : Nat) (v : Int32) (h : i' ≠ i) : up2 L i j v i' = L i' := if_neg h
theorem upd_same (f : Nat → Int32) (k : Nat) (v : Int32) : upd f k v k = v := pk_us
theorem upd_ne (f : Nat → Int32) {k j : Nat} (v : Int32) (h : j ≠ k) : upd f k v j = f j := pk_un h
/-- writes that touch neither the numbers nor families nor meals -/
theorem sInv_row {L L' : zL} {n t : Nat} (h : sInv L n t) (h0 : L' 0 = L 0) (h1 : L' 1 = L 1) (h9 : L' 9 = L 9) (h11 : L' 11 = L 11) : sInv L' n t := by
  unfold sInv at *
  rw [h0, h1, h9, h11]
  exact h
/-- a charge to child j -/
def sCharge (L : zL) (p : Nat) (j : Nat) : zL := up2 (up2 (up2 (up2 L 3 j (L 3 j - L 0 2)) 9 p (nI 2)) 10 p (L 0 2)) 11 p (nI j)
/-- served meals by the entitlement of now -/
def sSettle (L : zL) (c d : Nat) : zL :=
  if L 9 (c * 40 + d) = nI 2 ∧ sEnt L c d then up2 (up2 L 3 (L 11 (c * 40 + d)).toNatClampNeg (L 3 (L 11 (c * 40 + d)).toNatClampNeg + L 10 (c * 40 + d))) 9 (c * 40 + d) (nI 3)
  else if L 9 (c * 40 + d) = nI 3 ∧ ¬ sEnt L c d then sCharge L (c * 40 + d) c
  else L
def sEntitle (L : zL) (t c : Nat) (fr to : Int32) : zL := zfold (fun d X => sSettle X c d) t (up2 (up2 L 4 c (if to = -1 then -1 else fr)) 5 c to)
/-- the richest sibling so far, and its balance (at first the price less 1) -/
def sRich (L : zL) (c : Nat) : Nat → Int32 × Int32 := fun n => zfold (fun k x => if ¬ k = c ∧ L 1 k = L 1 c ∧ x.2 < L 3 k then (nI k, L 3 k) else x) n (-1, L 0 2 - nI 1)
def sPayer (L : zL) (n c d : Nat) : Int32 := if ¬ sSuit L c d ∨ sEnt L c d then -1 else if ¬ L 3 c - L 0 2 < -L 0 3 then nI c else if L 7 (L 1 c).toNatClampNeg = nI 1 then (sRich L c n).1 else -1
def sKind (L : zL) (c d : Nat) : Int32 := if ¬ sSuit L c d then nI 5 else if sEnt L c d then nI 3 else nI 4
/-- serving child c on day d: whether, and then -/
def sServe (L : zL) (n c d : Nat) : Int32 × zL :=
  if sPayer L n c d = -1 then (if sKind L c d = nI 3 then nI 1 else nI 0, up2 L 9 (c * 40 + d) (sKind L c d)) else (nI 1, sCharge L (c * 40 + d) (sPayer L n c d).toNatClampNeg)
/-- a day, child by child: how many were served, and then -/
def sDayC (n d : Nat) (c : Nat) (x : Int32 × zL) : Int32 × zL := if x.2 9 (c * 40 + d) = nI 1 then (x.1 + (sServe x.2 n c d).1, (sServe x.2 n c d).2) else x
def sOneDay (n d : Nat) (x : Int32 × zL) : Int32 × zL := ((zfold (sDayC n d) n x).1, up2 (zfold (sDayC n d) n x).2 0 0 (nI (d + 1)))
def sDays (n t : Nat) (k : Nat) (L : zL) : Int32 × zL := zfold (fun i x => sOneDay n (t + i) x) k (nI 0, L)
/-- writing debts off -/
def sDebt (L : zL) (n : Nat) (f : Int32) : Int32 := zs (fun i => if L 1 i = f ∧ L 3 i < 0 then -(L 3 i) else nI 0) n
def sOff (L : zL) (f : Int32) (n : Nat) : zL := zfold (fun i X => if X 1 i = f ∧ X 3 i < 0 then up2 X 3 i (nI 0) else X) n L
theorem zfold_inv {σ : Type} {f : Nat → σ → σ} {P : σ → Prop} {s : σ} (h0 : P s) (hs : ∀ i x, P x → P (f i x)) : ∀ n, P (zfold f n s)
  | 0 => h0
  | n + 1 => hs n _ (zfold_inv h0 hs n)
theorem zfold_invB {σ : Type} {f : Nat → σ → σ} {P : σ → Prop} {s : σ} (h0 : P s) (N : Nat) (hs : ∀ i x, i < N → P x → P (f i x)) : ∀ n, n ≤ N → P (zfold f n s)
  | 0, _ => h0
  | n + 1, h => hs n _ h (zfold_invB h0 N hs n (Nat.le_of_succ_le h))
/-- the richest sibling is a child, or none -/
theorem sRich_in (L : zL) (c : Nat) : ∀ n, (sRich L c n).1 = -1 ∨ ∃ j, j < n ∧ (sRich L c n).1 = nI j := by
  intro n
  induction n with
  | zero => exact Or.inl rfl
  | succ n ih =>
    unfold sRich at *
    rw [zfold_s]
    split
    · exact Or.inr ⟨n, Nat.lt_succ_self n, rfl⟩
    · rcases ih with h | ⟨j, hj, h⟩
      · exact Or.inl h
      · exact Or.inr ⟨j, Nat.lt_succ_of_lt hj, h⟩
theorem sPayer_in (L : zL) {n c : Nat} (d : Nat) (hc : c < n) : sPayer L n c d = -1 ∨ ∃ j, j < n ∧ sPayer L n c d = nI j := by
  unfold sPayer
  split
  · exact Or.inl rfl
  · split
    · exact Or.inr ⟨c, hc, rfl⟩
    · split
      · exact sRich_in L c n
      · exact Or.inl rfl
theorem zk_m1n {j : Nat} (h : j < 2 ^ 31) : ¬ nI j = -1 := by
  intro e
  have h1 := congrArg Int32.toInt e
  rw [nI_toInt h] at h1
  have h2 : (-1 : Int32).toInt = -1 := by decide
  omega
theorem sInv_charge {L : zL} {n t p j : Nat} (h : sInv L n t) (hp : p < 480) (hj : j < n) : sInv (sCharge L p j) n t := by
  obtain ⟨h1, h2, h3, h4, h5, h6⟩ := h
  refine ⟨h1, h2, h3, h4, h5, fun q hq e => ?_⟩
  by_cases hqp : q = p
  · subst hqp
    exact ⟨j, hj, upd_same (L 11) q (nI j)⟩
  · have e2 : L 9 q = nI 2 := (upd_ne (L 9) (nI 2) hqp).symm.trans e
    obtain ⟨i, hi, e3⟩ := h6 q hq e2
    exact ⟨i, hi, (upd_ne (L 11) (nI j) hqp).trans e3⟩
theorem sInv_kind {L : zL} {n t p : Nat} {k : Int32} (h : sInv L n t) (hk : ¬ k = nI 2) : sInv (up2 L 9 p k) n t := by
  obtain ⟨h1, h2, h3, h4, h5, h6⟩ := h
  refine ⟨h1, h2, h3, h4, h5, fun q hq e => ?_⟩
  by_cases hqp : q = p
  · subst hqp
    exact absurd ((upd_same (L 9) q k).symm.trans e) hk
  · exact h6 q hq ((upd_ne (L 9) k hqp).symm.trans e)
theorem sInv_bal {L : zL} {n t j : Nat} {v : Int32} (h : sInv L n t) : sInv (up2 L 3 j v) n t := sInv_row h rfl rfl rfl rfl
theorem sInv_settle {L : zL} {n t c d : Nat} (h : sInv L n t) (hc : c < n) (hn : n ≤ 12) (hd : d < 40) : sInv (sSettle L c d) n t := by
  unfold sSettle
  split
  · exact sInv_kind (sInv_bal h) (by decide)
  · split
    · exact sInv_charge h (by omega) hc
    · exact h
theorem sInv_entitle {L : zL} {n t c : Nat} (fr to : Int32) (h : sInv L n t) (hc : c < n) (hn : n ≤ 12) : ∀ k, k ≤ 40 → sInv (sEntitle L k c fr to) n t := by
  intro k hk
  exact zfold_invB (P := fun X => sInv X n t) (s := up2 (up2 L 4 c (if to = -1 then -1 else fr)) 5 c to) (sInv_row h rfl rfl rfl rfl) 40 (fun i x hi hx => sInv_settle hx hc hn hi) k hk
theorem sKind_ne (L : zL) (c d : Nat) : ¬ sKind L c d = nI 2 := by
  unfold sKind
  split
  · decide
  · split <;> decide
theorem sInv_serve {L : zL} {n t c d : Nat} (h : sInv L n t) (hc : c < n) (hn : n ≤ 12) (hd : d < 40) : sInv (sServe L n c d).2 n t := by
  unfold sServe
  split
  · exact sInv_kind h (sKind_ne L c d)
  · rename_i hp
    rcases sPayer_in L d hc with e | ⟨j, hj, e⟩
    · exact absurd e hp
    · rw [e, nI_clamp (by omega)]
      exact sInv_charge h (by omega) hj
theorem sInv_dayC {x : Int32 × zL} {n t c d : Nat} (h : sInv x.2 n t) (hc : c < n) (hn : n ≤ 12) (hd : d < 40) : sInv (sDayC n d c x).2 n t := by
  unfold sDayC
  split
  · exact sInv_serve h hc hn hd
  · exact h
theorem sInv_today {L : zL} {n t d : Nat} (h : sInv L n t) (hd : d ≤ 40) : sInv (up2 L 0 0 (nI d)) n d := by
  obtain ⟨h1, h2, h3, h4, h5, h6⟩ := h
  exact ⟨(upd_ne (L 0) (nI d) (by decide : (1 : Nat) ≠ 0)).trans h1, h2, upd_same (L 0) 0 (nI d), hd, h5, h6⟩
theorem sInv_days {L : zL} {n t : Nat} (h : sInv L n t) : ∀ k, t + k ≤ 40 → sInv (sDays n t k L).2 n (t + k)
  | 0, _ => h
  | k + 1, hk => by
    have ih := sInv_days h k (by omega)
    show sInv (up2 (zfold (sDayC n (t + k)) n (sDays n t k L)).2 0 0 (nI (t + k + 1))) n (t + k + 1)
    exact sInv_today (zfold_invB (P := fun x : Int32 × zL => sInv x.2 n (t + k)) ih n (fun i x hi hx => sInv_dayC hx hi h.2.1 (by omega)) n (Nat.le_refl n)) (by omega)
theorem sInv_off {L : zL} {n t : Nat} (f : Int32) (h : sInv L n t) : ∀ k, sInv (sOff L f k) n t := by
  intro k
  refine zfold_inv (P := fun X => sInv X n t) h (fun i X hX => ?_) k
  split
  · exact sInv_bal hX
  · exact hX
theorem sInv_num {L : zL} {n t k : Nat} {v : Int32} (h : sInv L n t) (h0 : k ≠ 0) (h1 : k ≠ 1) : sInv (up2 L 0 k v) n t := by
  obtain ⟨a1, a2, a3, a4, a5, a6⟩ := h
  exact ⟨(upd_ne (L 0) v (Ne.symm h1)).trans a1, a2, (upd_ne (L 0) v (Ne.symm h0)).trans a3, a4, a5, a6⟩
theorem sHas_nat {L : zL} {n t : Nat} {c : Int32} (h : sInv L n t) (hc : sHas L c) : ∃ k, k < n ∧ c = nI k := by
  obtain ⟨h1, h2⟩ := hc
  obtain ⟨j, hj, rfl⟩ := nI_of h1
  rw [h.1] at h2
  exact ⟨j, zk_lt hj (by have := h.2.1; omega) h2, rfl⟩
-- what speaks against an action: 0 nothing, 1 no such child, family or day, 2 another argument, 3 the state
def sfCome (n : Nat) (f di : Int32) : Int32 := if ¬ sFam f then nI 1 else if di < 0 ∨ nI 3 < di then nI 2 else if ¬ n < 12 then nI 3 else nI 0
def sfMenu (t : Nat) (d mn : Int32) : Int32 := if ¬ sDay d then nI 1 else if mn < 0 ∨ nI 3 < mn then nI 2 else if d < nI t then nI 3 else nI 0
def sfOrder (L : zL) (t : Nat) (c d : Int32) : Int32 := if ¬ sHas L c ∨ ¬ sDay d then nI 1 else if d < nI t then nI 3 else nI 0
def sfPay (L : zL) (c am : Int32) : Int32 := if ¬ sHas L c then nI 1 else if am = 0 ∨ am < -9999 ∨ nI 9999 < am then nI 2 else if am < 0 ∧ L 3 c.toNatClampNeg + am < 0 then nI 3 else nI 0
def sfMove (L : zL) (c ot am : Int32) : Int32 := if ¬ sHas L c ∨ ¬ sHas L ot then nI 1 else if am < nI 1 ∨ nI 9999 < am then nI 2 else if c = ot ∨ ¬ L 1 c.toNatClampNeg = L 1 ot.toNatClampNeg ∨ L 3 c.toNatClampNeg < am then nI 3 else nI 0
def sfShare (f : Int32) : Int32 := if ¬ sFam f then nI 1 else nI 0
def sfEnt (L : zL) (c fr to : Int32) : Int32 := if ¬ sHas L c ∨ ¬ sDay fr then nI 1 else if to = -1 ∨ (¬ to < fr ∧ sDay to) then nI 0 else nI 2
def sfOff (L : zL) (n : Nat) (f : Int32) : Int32 := if ¬ sFam f then nI 1 else if sDebt L n f = 0 then nI 3 else nI 0
def sfDays (t : Nat) (k : Int32) : Int32 := if k < nI 1 ∨ nI 40 < k then nI 2 else if nI (40 - t) < k then nI 3 else nI 0
theorem sFam_nat {f : Int32} (h : sFam f) : ∃ k, k < 5 ∧ f = nI k := by
  obtain ⟨j, hj, rfl⟩ := nI_of h.1
  exact ⟨j, zk_lt hj (by omega) h.2, rfl⟩
theorem sDay_nat {d : Int32} (h : sDay d) : ∃ k, k < 40 ∧ d = nI k := by
  obtain ⟨j, hj, rfl⟩ := nI_of h.1
  exact ⟨j, zk_lt hj (by omega) h.2, rfl⟩
theorem sfCome_0 {n : Nat} {f di : Int32} (h : sfCome n f di = 0) : n < 12 ∧ sFam f ∧ ¬ di < 0 ∧ ¬ nI 3 < di := by
  unfold sfCome at h
  by_cases h1 : sFam f
  · rw [if_neg (fun z => z h1)] at h
    by_cases h2 : di < 0 ∨ nI 3 < di
    · rw [if_pos h2] at h; exact absurd h (by decide)
    · rw [if_neg h2] at h
      by_cases h3 : n < 12
      · exact ⟨h3, h1, fun z => h2 (Or.inl z), fun z => h2 (Or.inr z)⟩
      · rw [if_pos h3] at h; exact absurd h (by decide)
  · rw [if_pos h1] at h; exact absurd h (by decide)
theorem sfMenu_0 {t : Nat} {d mn : Int32} (h : sfMenu t d mn = 0) : sDay d ∧ ¬ mn < 0 ∧ ¬ nI 3 < mn ∧ ¬ d < nI t := by
  unfold sfMenu at h
  by_cases h1 : sDay d
  · rw [if_neg (fun z => z h1)] at h
    by_cases h2 : mn < 0 ∨ nI 3 < mn
    · rw [if_pos h2] at h; exact absurd h (by decide)
    · rw [if_neg h2] at h
      by_cases h3 : d < nI t
      · rw [if_pos h3] at h; exact absurd h (by decide)
      · exact ⟨h1, fun z => h2 (Or.inl z), fun z => h2 (Or.inr z), h3⟩
  · rw [if_pos h1] at h; exact absurd h (by decide)
theorem sfOrder_0 {L : zL} {t : Nat} {c d : Int32} (h : sfOrder L t c d = 0) : sHas L c ∧ sDay d ∧ ¬ d < nI t := by
  unfold sfOrder at h
  by_cases h1 : sHas L c ∧ sDay d
  · rw [if_neg (fun z => z.elim (fun z => z h1.1) (fun z => z h1.2))] at h
    by_cases h3 : d < nI t
    · rw [if_pos h3] at h; exact absurd h (by decide)
    · exact ⟨h1.1, h1.2, h3⟩
  · rw [if_pos (by by_cases z : sHas L c; exact Or.inr (fun y => h1 ⟨z, y⟩); exact Or.inl z)] at h; exact absurd h (by decide)
theorem sfPay_0 {L : zL} {c am : Int32} (h : sfPay L c am = 0) : sHas L c := by
  unfold sfPay at h
  by_cases h1 : sHas L c
  · exact h1
  · rw [if_pos h1] at h; exact absurd h (by decide)
theorem sfMove_0 {L : zL} {c ot am : Int32} (h : sfMove L c ot am = 0) : sHas L c ∧ sHas L ot := by
  unfold sfMove at h
  by_cases h1 : sHas L c ∧ sHas L ot
  · exact h1
  · rw [if_pos (by by_cases z : sHas L c; exact Or.inr (fun y => h1 ⟨z, y⟩); exact Or.inl z)] at h; exact absurd h (by decide)
theorem sfShare_0 {f : Int32} (h : sfShare f = 0) : sFam f := by
  unfold sfShare at h
  by_cases h1 : sFam f
  · exact h1
  · rw [if_pos h1] at h; exact absurd h (by decide)
theorem sfEnt_0 {L : zL} {c fr to : Int32} (h : sfEnt L c fr to = 0) : sHas L c ∧ sDay fr ∧ (to = -1 ∨ (¬ to < fr ∧ sDay to)) := by
  unfold sfEnt at h
  by_cases h1 : sHas L c ∧ sDay fr
  · rw [if_neg (fun z => z.elim (fun z => z h1.1) (fun z => z h1.2))] at h
    by_cases h3 : to = -1 ∨ (¬ to < fr ∧ sDay to)
    · exact ⟨h1.1, h1.2, h3⟩
    · rw [if_neg h3] at h; exact absurd h (by decide)
  · rw [if_pos (by by_cases z : sHas L c; exact Or.inr (fun y => h1 ⟨z, y⟩); exact Or.inl z)] at h; exact absurd h (by decide)
theorem sfOff_0 {L : zL} {n : Nat} {f : Int32} (h : sfOff L n f = 0) : sFam f ∧ ¬ sDebt L n f = 0 := by
  unfold sfOff at h
  by_cases h1 : sFam f
  · rw [if_neg (fun z => z h1)] at h
    by_cases h2 : sDebt L n f = 0
    · rw [if_pos h2] at h; exact absurd h (by decide)
    · exact ⟨h1, h2⟩
  · rw [if_pos h1] at h; exact absurd h (by decide)
theorem sfDays_0 {t : Nat} {k : Int32} (ht : t ≤ 40) (h : sfDays t k = 0) : ∃ j, k = nI j ∧ 1 ≤ j ∧ t + j ≤ 40 := by
  unfold sfDays at h
  by_cases h2 : k < nI 1 ∨ nI 40 < k
  · rw [if_pos h2] at h; exact absurd h (by decide)
  · rw [if_neg h2] at h
    by_cases h3 : nI (40 - t) < k
    · rw [if_pos h3] at h; exact absurd h (by decide)
    · have h0 : ¬ k < 0 := fun z => h2 (Or.inl (Int32.lt_trans z (by decide)))
      obtain ⟨j, hj, rfl⟩ := nI_of h0
      exact ⟨j, rfl, zk_nlt hj (by omega) (fun z => h2 (Or.inl z)), by have := zk_nlt (by omega) hj h3; omega⟩
-- the actions
def sCome (L : zL) (n : Nat) (f di : Int32) : zL := up2 (up2 (up2 (up2 (up2 (up2 L 1 n f) 2 n di) 3 n (nI 0)) 4 n (-1)) 5 n (-1)) 0 1 (nI (n + 1))
def sOrd (L : zL) (p : Nat) (b : Int32) : zL := up2 L 9 p (if b = 0 then nI 0 else nI 1)
def sOrdN (L : zL) (d : Nat) : Int32 := nI 12 - zs (fun i => if L 9 (i * 40 + d) = nI 0 then nI 1 else nI 0) 12
def sPay (L : zL) (c : Nat) (am : Int32) : zL := up2 (up2 L 0 4 (L 0 4 + am)) 3 c (L 3 c + am)
def sMove (L : zL) (c o : Nat) (am : Int32) : zL := up2 (up2 L 3 o (L 3 o + am)) 3 c (up2 L 3 o (L 3 o + am) 3 c - am)
def sShare (L : zL) (f : Nat) (b : Int32) : zL := up2 L 7 f (if b = 0 then nI 0 else nI 1)
def sWrite (L : zL) (n f : Nat) : zL := up2 (sOff L (nI f) n) 8 f (sOff L (nI f) n 8 f + sDebt L n (nI f))
def sSet (L : zL) (w v : Int32) : zL := if w = 0 then up2 L 0 2 v else up2 L 0 3 v
def sSumOf (L : zL) (n : Nat) (f : Int32) : Int32 := zs (fun i => if L 1 i = f then L 3 i else nI 0) n
theorem sInv_come {L : zL} {n t : Nat} {f di : Int32} (h : sInv L n t) (hn : n < 12) (hf : sFam f) : sInv (sCome L n f di) (n + 1) t := by
  obtain ⟨h1, h2, h3, h4, h5, h6⟩ := h
  obtain ⟨k, hk, rfl⟩ := sFam_nat hf
  refine ⟨upd_same (L 0) 1 (nI (n + 1)), hn, (upd_ne (L 0) (nI (n + 1)) (by decide : (0 : Nat) ≠ 1)).trans h3, h4, fun c hc => ?_, fun q hq e => ?_⟩
  · by_cases hcn : c = n
    · subst hcn
      exact ⟨k, hk, upd_same (L 1) c (nI k)⟩
    · obtain ⟨j, hj, e⟩ := h5 c (by omega)
      exact ⟨j, hj, (upd_ne (L 1) (nI k) hcn).trans e⟩
  · obtain ⟨j, hj, e2⟩ := h6 q hq e
    exact ⟨j, by omega, e2⟩
/-- spending on a day for a family, child by child: the day on which (that child, or any) is refused, and then -/
def sSpend (L : zL) (n c d : Nat) : Int32 × zL := if sPayer L n c d = -1 then (if sKind L c d = nI 4 then nI 0 else nI 1, L) else (nI 1, up2 L 3 (sPayer L n c d).toNatClampNeg (L 3 (sPayer L n c d).toNatClampNeg - L 0 2))
def sSpC (n : Nat) (f ch : Int32) (d c : Nat) (x : Option Nat × zL) : Option Nat × zL :=
  if x.1 = none ∧ x.2 1 c = f ∧ x.2 9 (c * 40 + d) = nI 1 then (if (sSpend x.2 n c d).1 = 0 ∧ (ch = -1 ∨ ch = nI c) then some d else none, (sSpend x.2 n c d).2) else x
def sSpD (n : Nat) (f ch : Int32) (d : Nat) (x : Option Nat × zL) : Option Nat × zL := zfold (sSpC n f ch d) n x
/-- a fold from a place on -/
def zfr {σ : Type} (f : Nat → σ → σ) (a : Nat) : Nat → σ → σ
  | 0, s => s
  | n + 1, s => if a ≤ n then f n (zfr f a n s) else s
theorem zfr_0 {σ : Type} (f : Nat → σ → σ) {a : Nat} (s : σ) : ∀ {n : Nat}, n ≤ a → zfr f a n s = s
  | 0, _ => rfl
  | n + 1, h => by rw [zfr, if_neg (by omega)]
theorem zfr_s {σ : Type} (f : Nat → σ → σ) {a n : Nat} (s : σ) (h : a ≤ n) : zfr f a (n + 1) s = f n (zfr f a n s) := by rw [zfr, if_pos h]
def sSp (L : zL) (n t : Nat) (f ch : Int32) (k : Nat) : Option Nat × zL := zfr (sSpD n f ch) t k (none, L)
def sOpt (x : Option Nat) : Int32 := match x with
  | none => -1
  | some d => nI d
theorem sSpC_some {n d c : Nat} {f ch : Int32} {x : Option Nat × zL} {y : Nat} (h : x.1 = some y) : sSpC n f ch d c x = x := by
  unfold sSpC
  rw [if_neg (fun z => by rw [h] at z; cases z.1)]
theorem zfold_stay {σ : Type} {f : Nat → σ → σ} {P : σ → Prop} (hs : ∀ i x, P x → f i x = x) {s : σ} (a : Nat) (h : P (zfold f a s)) : ∀ k, zfold f (a + k) s = zfold f a s
  | 0 => rfl
  | k + 1 => by
    have ih := zfold_stay hs a h k
    show f (a + k) (zfold f (a + k) s) = _
    rw [ih]
    exact hs _ _ h
theorem sSpD_some {n d : Nat} {f ch : Int32} {x : Option Nat × zL} {y : Nat} (h : x.1 = some y) : sSpD n f ch d x = x := by
  have := zfold_stay (f := sSpC n f ch d) (P := fun x => x.1 = some y) (fun i x h => sSpC_some h) (s := x) 0 h n
  rw [Nat.zero_add] at this
  exact this
theorem sServe_01 (L : zL) (n c d : Nat) : (sServe L n c d).1 = nI 0 ∨ (sServe L n c d).1 = nI 1 := by
  unfold sServe
  split
  · show (if sKind L c d = nI 3 then nI 1 else nI 0) = nI 0 ∨ (if sKind L c d = nI 3 then nI 1 else nI 0) = nI 1
    split
    · exact Or.inr rfl
    · exact Or.inl rfl
  · exact Or.inr rfl
theorem sInv_spend {L : zL} {n t c d : Nat} (h : sInv L n t) (hc : c < n) (hn : n ≤ 12) : sInv (sSpend L n c d).2 n t := by
  unfold sSpend
  split
  · exact h
  · exact sInv_bal h
theorem sSpend_01 (L : zL) (n c d : Nat) : (sSpend L n c d).1 = nI 0 ∨ (sSpend L n c d).1 = nI 1 := by
  unfold sSpend
  split
  · show (if sKind L c d = nI 4 then nI 0 else nI 1) = nI 0 ∨ (if sKind L c d = nI 4 then nI 0 else nI 1) = nI 1
    split
    · exact Or.inl rfl
    · exact Or.inr rfl
  · exact Or.inr rfl
theorem zfr_stay {σ : Type} {f : Nat → σ → σ} {P : σ → Prop} (hs : ∀ i x, P x → f i x = x) {s : σ} {b : Nat} (a : Nat) (hb : b ≤ a) (h : P (zfr f b a s)) : ∀ k, zfr f b (a + k) s = zfr f b a s
  | 0 => rfl
  | k + 1 => by
    have ih := zfr_stay hs a hb h k
    show zfr f b (a + k + 1) s = _
    rw [zfr_s f s (by omega), ih]
    exact hs _ _ h
theorem sSp_hit {L X Z U : zL} {n t d j : Nat} {f ch : Int32} (h1 : (none, X) = sSp L n t f ch d) (htd : t ≤ d) (hd : d < 40) (h2 : (none, Z) = zfold (sSpC n f ch d) j (none, X)) (hj : j < n) (h3 : sSpC n f ch d j (none, Z) = (some d, U)) : sSp L n t f ch 40 = (some d, U) := by
  have e1 : zfold (sSpC n f ch d) (j + 1) (none, X) = (some d, U) := by rw [zfold_s, ← h2]; exact h3
  have e2 : sSpD n f ch d (none, X) = (some d, U) := by
    have := zfold_stay (f := sSpC n f ch d) (P := fun x => x.1 = some d) (fun i x h => sSpC_some h) (s := (none, X)) (j + 1) (by rw [e1]) (n - (j + 1))
    rw [show j + 1 + (n - (j + 1)) = n by omega, e1] at this
    exact this
  have e3 : sSp L n t f ch (d + 1) = (some d, U) := by
    unfold sSp at *
    rw [zfr_s _ _ htd, ← h1]
    exact e2
  have := zfr_stay (f := sSpD n f ch) (P := fun x => x.1 = some d) (fun i x h => sSpD_some h) (s := (none, L)) (d + 1) (by omega) (show (sSp L n t f ch (d + 1)).1 = some d by rw [e3]) (40 - (d + 1))
  rw [show d + 1 + (40 - (d + 1)) = 40 by omega] at this
  exact this.trans e3
theorem sSp_day {L X Z : zL} {n t d : Nat} {f ch : Int32} (h1 : (none, X) = sSp L n t f ch d) (htd : t ≤ d) (h2 : (none, Z) = zfold (sSpC n f ch d) n (none, X)) : (none, Z) = sSp L n t f ch (d + 1) := by
  unfold sSp at *
  rw [zfr_s _ _ htd, ← h1]
  exact h2
/-- a ledger made as new: its meals' charges and payers, and what stood of children, stay where they are -/
def sClear (L : zL) : zL := upr (upr (upr (upr (up2 (up2 (up2 (up2 (up2 L 0 0 (nI 0)) 0 1 (nI 0)) 0 2 (nI 250)) 0 3 (nI 500)) 0 4 (nI 0)) 6 (fun _ => nI 0)) 7 (fun _ => nI 0)) 8 (fun _ => nI 0)) 9 (fun _ => nI 0)
