/-! Balances stay small; kinds; from today on a meal is ordered or not. -/
/-- serving changes one kind -/
theorem sServe_k (K : zL) (n c d : Nat) : ∃ x, (sServe K n c d).2 9 = upd (K 9) (c * 40 + d) x ∧ (((x = nI 2 ∨ x = nI 3) ∧ (sServe K n c d).1 = nI 1) ∨ ((x = nI 4 ∨ x = nI 5) ∧ (sServe K n c d).1 = nI 0)) := by
  unfold sServe
  by_cases h : sPayer K n c d = -1
  · rw [if_pos h]
    refine ⟨sKind K c d, show up2 K 9 (c * 40 + d) (sKind K c d) 9 = _ from up2_same .., ?_⟩
    unfold sKind
    by_cases h1 : sSuit K c d
    · rw [if_neg (fun z => z h1)]
      by_cases h2 : sEnt K c d
      · rw [if_pos h2]
        exact Or.inl ⟨Or.inr rfl, show (if nI 3 = nI 3 then nI 1 else nI 0) = nI 1 by decide⟩
      · rw [if_neg h2]
        exact Or.inr ⟨Or.inl rfl, show (if nI 4 = nI 3 then nI 1 else nI 0) = nI 0 by decide⟩
    · rw [if_pos h1]
      exact Or.inr ⟨Or.inr rfl, show (if nI 5 = nI 3 then nI 1 else nI 0) = nI 0 by decide⟩
  · rw [if_neg h]
    refine ⟨nI 2, ?_, Or.inl ⟨Or.inl rfl, rfl⟩⟩
    unfold sCharge
    show up2 (up2 (up2 (up2 K 3 (sPayer K n c d).toNatClampNeg (K 3 (sPayer K n c d).toNatClampNeg - K 0 2)) 9 (c * 40 + d) (nI 2)) 10 (c * 40 + d) (K 0 2)) 11 (c * 40 + d) (nI (sPayer K n c d).toNatClampNeg) 9 = _
    rw [up2_ne (h := (by decide : (9:Nat) ≠ 11)), up2_ne (h := (by decide : (9:Nat) ≠ 10)), up2_same, up2_ne (h := (by decide : (9:Nat) ≠ 3))]
theorem bi_sub {x y : Int32} (h1 : -2147483648 ≤ x.toInt - y.toInt) (h2 : x.toInt - y.toInt < 2147483648) : (x - y).toInt = x.toInt - y.toInt := by
  rw [Int32.toInt_sub]
  exact Int.bmod_eq_of_le (by omega) (by omega)
theorem bi_add {x y : Int32} (h1 : -2147483648 ≤ x.toInt + y.toInt) (h2 : x.toInt + y.toInt < 2147483648) : (x + y).toInt = x.toInt + y.toInt := by
  rw [Int32.toInt_add]
  exact Int.bmod_eq_of_le (by omega) (by omega)
theorem bi_neg {x : Int32} (h1 : -2147483648 ≤ -x.toInt) (h2 : -x.toInt < 2147483648) : (-x).toInt = -x.toInt := by
  rw [Int32.toInt_neg]
  exact Int.bmod_eq_of_le (by omega) (by omega)
def bB (B : Int) (x : Int32) : Prop := -B ≤ x.toInt ∧ x.toInt ≤ B
def zG (B : Int) (L : zL) (n : Nat) : Prop :=
  ((∃ p, 1 ≤ p ∧ p ≤ 999 ∧ L 0 2 = nI p) ∧ (∃ m, m ≤ 9999 ∧ L 0 3 = nI m)) ∧ (∀ c, c < n → bB B (L 3 c)) ∧ zKi L ∧ (∀ p, p < 480 → L 9 p = nI 2 → ∃ k, k ≤ 999 ∧ L 10 p = nI k)
def zK0 (L : zL) (n t : Nat) : Prop := ∀ c d, c < n → t ≤ d → d < 40 → L 9 (c * 40 + d) = nI 0 ∨ L 9 (c * 40 + d) = nI 1
section ZB
variable {L K : zL} {n t : Nat} {B : Int}
theorem g_mono {B2 : Int} (h : zG B L n) (hb : B ≤ B2) : zG B2 L n := ⟨h.1, fun c hc => ⟨by have := (h.2.1 c hc).1; omega, by have := (h.2.1 c hc).2; omega⟩, h.2.2⟩
theorem g_3 (h : zG B L n) {c : Nat} {v : Int32} (hv : bB B v) : zG B (up2 L 3 c v) n := by
  refine ⟨h.1, fun k hk => ?_, h.2.2.1, h.2.2.2⟩
  by_cases e : k = c
  · subst e
    rw [up2_v]
    exact hv
  · rw [up2_j e]
    exact h.2.1 k hk
theorem g_9 (h : zG B L n) {p k : Nat} (hk : k ≤ 5) (h2 : k ≠ 2) : zG B (up2 L 9 p (nI k)) n := by
  refine ⟨h.1, h.2.1, fun q hq => ?_, fun q hq e => ?_⟩
  · by_cases e : q = p
    · subst e
      exact ⟨k, hk, up2_v⟩
    · rw [up2_j e]
      exact h.2.2.1 q hq
  · by_cases w : q = p
    · subst w
      rw [up2_v] at e
      exact absurd (zk_eq (by omega) (by decide) e) h2
    · rw [up2_j w] at e
      exact h.2.2.2 q hq e
theorem g_ch (h : zG B L n) {p j : Nat} (hv : bB B (L 3 j - L 0 2)) : zG B (sCharge L p j) n := by
  refine ⟨h.1, fun k hk => ?_, fun q hq => ?_, fun q hq e => ?_⟩
  · show bB B (up2 L 3 j (L 3 j - L 0 2) 3 k)
    by_cases e : k = j
    · subst e
      rw [up2_v]
      exact hv
    · rw [up2_j e]
      exact h.2.1 k hk
  · show ∃ k, k ≤ 5 ∧ up2 L 9 p (nI 2) 9 q = nI k
    by_cases e : q = p
    · subst e
      exact ⟨2, by decide, up2_v⟩
    · rw [up2_j e]
      exact h.2.2.1 q hq
  · show ∃ k, k ≤ 999 ∧ up2 L 10 p (L 0 2) 10 q = nI k
    by_cases w : q = p
    · subst w
      obtain ⟨m, _, hm, e2⟩ := h.1.1
      exact ⟨m, hm, up2_v.trans e2⟩
    · rw [up2_j w]
      exact h.2.2.2 q hq ((up2_j (L := L) w).symm.trans e)
theorem g_p (h : zG B L n) : 1 ≤ (L 0 2).toInt ∧ (L 0 2).toInt ≤ 999 := by
  obtain ⟨m, h1, h2, e⟩ := h.1.1
  rw [e, nI_toInt (by omega)]
  omega
theorem g_m (h : zG B L n) : 0 ≤ (L 0 3).toInt ∧ (L 0 3).toInt ≤ 9999 := by
  obtain ⟨m, h2, e⟩ := h.1.2
  rw [e, nI_toInt (by omega)]
  omega
/-- the richest sibling has the price -/
theorem rich_ge (h : zG B L n) (c : Nat) : ∀ k, (L 0 2 - nI 1) ≤ (sRich L c k).2 ∧ ((sRich L c k).1 = -1 ∨ ∃ j, j < k ∧ (sRich L c k).1 = nI j ∧ (L 0 2 - nI 1) < L 3 j)
  | 0 => ⟨Int32.le_refl _, Or.inl rfl⟩
  | k + 1 => by
    obtain ⟨h1, h2⟩ := rich_ge h c k
    unfold sRich at *
    rw [zfold_s]
    by_cases w : ¬ k = c ∧ L 1 k = L 1 c ∧ (zfold (fun k x => if ¬ k = c ∧ L 1 k = L 1 c ∧ x.2 < L 3 k then (nI k, L 3 k) else x) k (-1, L 0 2 - nI 1)).2 < L 3 k
    · rw [if_pos w]
      have := Int32.lt_of_le_of_lt h1 w.2.2
      exact ⟨Int32.le_of_lt this, Or.inr ⟨k, Nat.lt_succ_self k, rfl, this⟩⟩
    · rw [if_neg w]
      exact ⟨h1, h2.imp id (fun ⟨j, hj, e⟩ => ⟨j, Nat.lt_succ_of_lt hj, e⟩)⟩
theorem payer_b (h : zG B L n) (hB : 9999 ≤ B) (hB2 : B ≤ 1000000000) {c d : Nat} (hc : c < n) (hn : n ≤ 12) (hp : ¬ sPayer L n c d = -1) : ∃ j, j < n ∧ sPayer L n c d = nI j ∧ bB B (L 3 j - L 0 2) := by
  have hpr := g_p h
  have hm := g_m h
  unfold sPayer at *
  by_cases w1 : ¬ sSuit L c d ∨ sEnt L c d
  · rw [if_pos w1] at hp
    exact absurd rfl hp
  · rw [if_neg w1] at hp ⊢
    by_cases w2 : ¬ L 3 c - L 0 2 < -L 0 3
    · rw [if_pos w2]
      refine ⟨c, hc, rfl, ?_⟩
      have hb := h.2.1 c hc
      unfold bB at hb ⊢
      have e1 : (L 3 c - L 0 2).toInt = (L 3 c).toInt - (L 0 2).toInt := bi_sub (by omega) (by omega)
      have e2 : (-L 0 3).toInt = -(L 0 3).toInt := bi_neg (by omega) (by omega)
      rw [Int32.lt_iff_toInt_lt, e2] at w2
      rw [e1] at w2 ⊢
      omega
    · rw [if_neg w2] at hp ⊢
      by_cases w3 : L 7 (L 1 c).toNatClampNeg = nI 1
      · rw [if_pos w3] at hp ⊢
        rcases (rich_ge h c n).2 with e | ⟨j, hj, e, hl⟩
        · exact absurd e hp
        · refine ⟨j, hj, e, ?_⟩
          have hb := h.2.1 j hj
          unfold bB at hb ⊢
          have e1 : (L 3 j - L 0 2).toInt = (L 3 j).toInt - (L 0 2).toInt := bi_sub (by omega) (by omega)
          have e2 : (L 0 2 - nI 1).toInt = (L 0 2).toInt - (nI 1).toInt := bi_sub (by rw [show (nI 1).toInt = 1 from rfl]; omega) (by rw [show (nI 1).toInt = 1 from rfl]; omega)
          rw [Int32.lt_iff_toInt_lt, e2, show (nI 1).toInt = 1 from rfl] at hl
          rw [e1]
          omega
      · rw [if_neg w3] at hp
        exact absurd rfl hp
theorem kind_k (L : zL) (c d : Nat) : ∃ k, k ≤ 5 ∧ k ≠ 2 ∧ sKind L c d = nI k := by
  unfold sKind
  split
  · exact ⟨5, by decide, by decide, rfl⟩
  · split
    · exact ⟨3, by decide, by decide, rfl⟩
    · exact ⟨4, by decide, by decide, rfl⟩
theorem g_serve (h : zG B L n) (hB : 9999 ≤ B) (hB2 : B ≤ 1000000000) {c d : Nat} (hc : c < n) (hn : n ≤ 12) : zG B (sServe L n c d).2 n := by
  unfold sServe
  by_cases w : sPayer L n c d = -1
  · rw [if_pos w]
    obtain ⟨k, h1, h2, e⟩ := kind_k L c d
    rw [e]
    exact g_9 h h1 h2
  · rw [if_neg w]
    obtain ⟨j, hj, e, hb⟩ := payer_b h hB hB2 hc hn w
    rw [e, nI_clamp (by omega)]
    exact g_ch h hb
theorem g_dayC {x : Int32 × zL} (h : zG B x.2 n) (hB : 9999 ≤ B) (hB2 : B ≤ 1000000000) {c d : Nat} (hc : c < n) (hn : n ≤ 12) : zG B (sDayC n d c x).2 n := by
  unfold sDayC
  split
  · exact g_serve h hB hB2 hc hn
  · exact h
theorem g_00 (h : zG B L n) (v : Int32) : zG B (up2 L 0 0 v) n := ⟨⟨h.1.1, h.1.2⟩, h.2.1, h.2.2.1, h.2.2.2⟩
theorem g_days (h : zG B L n) (hB : 9999 ≤ B) (hB2 : B ≤ 1000000000) (hn : n ≤ 12) : ∀ k, zG B (sDays n t k L).2 n
  | 0 => h
  | k + 1 => g_00 (zfold_invB (P := fun x : Int32 × zL => zG B x.2 n) (g_days h hB hB2 hn k) n (fun i x hi hx => g_dayC hx hB hB2 hi hn) n (Nat.le_refl n)) _
/-- what was charged comes back, or is charged now: by at most 999 more -/
theorem g_settle (h : zG B L n) (hB : 0 ≤ B) (hB2 : B ≤ 1000000000) {c d : Nat} (hc : c < n) (hn : n ≤ 12) (hd : d < 40) (hpay : ∀ p, p < 480 → L 9 p = nI 2 → ∃ j, j < n ∧ L 11 p = nI j) : zG (B + 999) (sSettle L c d) n := by
  have hp : c * 40 + d < 480 := by omega
  have hpr := g_p h
  have h' := g_mono h (show B ≤ B + 999 by omega)
  unfold sSettle
  by_cases w : L 9 (c * 40 + d) = nI 2 ∧ sEnt L c d
  · rw [if_pos w]
    obtain ⟨j, hj, e⟩ := hpay _ hp w.1
    obtain ⟨k, hk, e2⟩ := h.2.2.2 _ hp w.1
    have hb := h.2.1 j hj
    unfold bB at hb
    refine g_9 (k := 3) (g_3 h' ?_) (by decide) (by decide)
    rw [e, nI_clamp (by omega), e2]
    unfold bB
    rw [bi_add (by rw [nI_toInt (by omega)]; omega) (by rw [nI_toInt (by omega)]; omega), nI_toInt (by omega)]
    omega
  · rw [if_neg w]
    by_cases w3 : L 9 (c * 40 + d) = nI 3 ∧ ¬ sEnt L c d
    · rw [if_pos w3]
      have hb := h.2.1 c hc
      unfold bB at hb
      refine g_ch h' ?_
      unfold bB
      rw [bi_sub (by omega) (by omega)]
      omega
    · rw [if_neg w3]
      exact h'
theorem g_entitle (h : zG B L n) (hI : sInv L n t) (hB : 0 ≤ B) (hB2 : B ≤ 900000000) {c : Nat} (hc : c < n) (fr to : Int32) : ∀ k : Nat, k ≤ 40 → zG (B + 999 * (k : Int)) (sEntitle L k c fr to) n
  | 0, _ => by
    have h2 : zG B (sEntitle L 0 c fr to) n := ⟨⟨h.1.1, h.1.2⟩, h.2.1, h.2.2.1, h.2.2.2⟩
    exact g_mono h2 (by omega)
  | k + 1, hk => by
    have ih := g_entitle h hI hB hB2 hc fr to k (by omega)
    have hi : sInv (sEntitle L k c fr to) n t := sInv_entitle fr to hI hc hI.2.1 k (by omega)
    exact g_mono (g_settle ih (by omega) (by omega) hc hI.2.1 (by omega) hi.2.2.2.2.2) (by omega)
theorem am_b {am : Int32} (h1 : ¬ am < -9999) (h2 : ¬ nI 9999 < am) : -9999 ≤ am.toInt ∧ am.toInt ≤ 9999 := by
  rw [Int32.lt_iff_toInt_lt, show (-9999 : Int32).toInt = -9999 by decide] at h1
  rw [Int32.lt_iff_toInt_lt, show (nI 9999).toInt = 9999 from rfl] at h2
  omega
theorem g_pay (h : zG B L n) (hB2 : B ≤ 1000000000) {c : Nat} (hc : c < n) {am : Int32} (ha : -9999 ≤ am.toInt ∧ am.toInt ≤ 9999) : zG (B + 9999) (sPay L c am) n := by
  have h' := g_mono h (show B ≤ B + 9999 by omega)
  have hb := h.2.1 c hc
  unfold bB at hb
  have h0 : zG (B + 9999) (up2 L 0 4 (L 0 4 + am)) n := ⟨⟨h'.1.1, h'.1.2⟩, h'.2.1, h'.2.2.1, h'.2.2.2⟩
  refine g_3 h0 ?_
  unfold bB
  rw [bi_add (by omega) (by omega)]
  omega
theorem g_move (h : zG B L n) (hB2 : B ≤ 1000000000) {c o : Nat} (hc : c < n) (ho : o < n) {am : Int32} (ha : -9999 ≤ am.toInt ∧ am.toInt ≤ 9999) : zG (B + 9999 + 9999) (sMove L c o am) n := by
  have hb := h.2.1 o ho
  unfold bB at hb
  have h1 : zG (B + 9999) (up2 L 3 o (L 3 o + am)) n := by
    refine g_3 (g_mono h (by omega)) ?_
    unfold bB
    rw [bi_add (by omega) (by omega)]
    omega
  have hb2 := h1.2.1 c hc
  unfold bB at hb2
  refine g_3 (g_mono h1 (by omega)) ?_
  unfold bB
  rw [bi_sub (by omega) (by omega)]
  omega
theorem g_off (h : zG B L n) (hB : 0 ≤ B) (f : Int32) : ∀ k, zG B (sOff L f k) n
  | 0 => h
  | k + 1 => by
    have ih := g_off h hB f k
    show zG B (if (sOff L f k) 1 k = f ∧ (sOff L f k) 3 k < 0 then up2 (sOff L f k) 3 k (nI 0) else sOff L f k) n
    split
    · exact g_3 ih ⟨by rw [show (nI 0).toInt = 0 from rfl]; omega, by rw [show (nI 0).toInt = 0 from rfl]; omega⟩
    · exact ih
theorem g_write (h : zG B L n) (hB : 0 ≤ B) (f : Nat) : zG B (sWrite L n f) n := by
  have h1 := g_off h hB (nI f) n
  exact ⟨⟨h1.1.1, h1.1.2⟩, h1.2.1, h1.2.2.1, h1.2.2.2⟩
theorem g_come (h : zG B L n) (hB : 0 ≤ B) {f di : Int32} : zG B (sCome L n f di) (n + 1) := by
  refine ⟨⟨h.1.1, h.1.2⟩, fun c hc => ?_, h.2.2.1, h.2.2.2⟩
  show bB B (up2 L 3 n (nI 0) 3 c)
  by_cases e : c = n
  · subst e
    rw [up2_v]
    exact ⟨by rw [show (nI 0).toInt = 0 from rfl]; omega, by rw [show (nI 0).toInt = 0 from rfl]; omega⟩
  · rw [up2_j e]
    exact h.2.1 c (by omega)
theorem g_ord (h : zG B L n) (p : Nat) (b : Int32) : zG B (sOrd L p b) n := by
  unfold sOrd
  split
  · exact g_9 h (by decide) (by decide)
  · exact g_9 h (by decide) (by decide)
theorem g_menu (h : zG B L n) (d : Nat) (v : Int32) : zG B (up2 L 6 d v) n := ⟨⟨h.1.1, h.1.2⟩, h.2.1, h.2.2.1, h.2.2.2⟩
theorem g_share (h : zG B L n) (f : Nat) (b : Int32) : zG B (sShare L f b) n := ⟨⟨h.1.1, h.1.2⟩, h.2.1, h.2.2.1, h.2.2.2⟩
theorem nI_rng {v : Int32} {a b : Nat} (hb : b < 2 ^ 31) (ha : a < 2 ^ 31) (h1 : ¬ v < nI a) (h2 : ¬ nI b < v) : ∃ k, a ≤ k ∧ k ≤ b ∧ v = nI k := by
  have h0 : ¬ v < 0 := fun z => by
    rw [Int32.lt_iff_toInt_lt, show (0 : Int32).toInt = 0 from rfl] at z
    rw [Int32.lt_iff_toInt_lt, nI_toInt ha] at h1
    omega
  obtain ⟨k, hk, rfl⟩ := nI_of h0
  exact ⟨k, zk_nlt hk ha h1, zk_nlt hb hk h2, rfl⟩
theorem g_set (h : zG B L n) {w v : Int32} (hv : sfSet w v = 0) : zG B (sSet L w v) n := by
  unfold sfSet at hv
  by_cases z : (w = 0 ∧ ¬ v < nI 1 ∧ ¬ nI 999 < v) ∨ (w = nI 1 ∧ ¬ v < 0 ∧ ¬ nI 9999 < v)
  · unfold sSet
    rcases z with ⟨e, h1, h2⟩ | ⟨e, h1, h2⟩
    · rw [if_pos e]
      obtain ⟨k, k1, k2, ek⟩ := nI_rng (by decide) (by decide) h1 h2
      exact ⟨⟨⟨k, k1, k2, up2_v.trans ek⟩, h.1.2⟩, h.2.1, h.2.2.1, h.2.2.2⟩
    · rw [if_neg (by rw [e]; decide)]
      obtain ⟨k, _, k2, ek⟩ := nI_rng (a := 0) (by decide) (by decide) h1 h2
      exact ⟨⟨h.1.1, ⟨k, k2, up2_v.trans ek⟩⟩, h.2.1, h.2.2.1, h.2.2.2⟩
  · rw [if_neg z] at hv
    exact absurd hv (by decide)
theorem g_price (h : zG B L n) {v : Int32} (h1 : ¬ v < nI 1) (h2 : ¬ nI 999 < v) : zG B (up2 L 0 2 v) n := by
  obtain ⟨k, k1, k2, ek⟩ := nI_rng (by decide) (by decide) h1 h2
  exact ⟨⟨⟨k, k1, k2, up2_v.trans ek⟩, h.1.2⟩, h.2.1, h.2.2.1, h.2.2.2⟩
theorem g_clear (L : zL) : zG 0 (sClear L) 0 := ⟨⟨⟨250, by decide, by decide, rfl⟩, ⟨500, by decide, rfl⟩⟩, fun c hc => absurd hc (Nat.not_lt_zero c), fun p _ => ⟨0, by decide, rfl⟩, fun p _ e => absurd (show nI 0 = nI 2 from e) (by decide)⟩
/-- a debt isn't negative -/
theorem debt_nn (h : zG B L n) (hB : B ≤ 170000000) (f : Int32) : ∀ k, k ≤ n → k ≤ 12 → 0 ≤ (sDebt L k f).toInt ∧ (sDebt L k f).toInt ≤ B * (k : Int)
  | 0, _, _ => ⟨Int.le_refl 0, by rw [show (sDebt L 0 f).toInt = 0 from rfl]; omega⟩
  | k + 1, hk, hk2 => by
    obtain ⟨h1, h2⟩ := debt_nn h hB f k (by omega) (by omega)
    have hb := h.2.1 k (by omega)
    unfold bB at hb
    show 0 ≤ (sDebt L k f + (if L 1 k = f ∧ L 3 k < 0 then -(L 3 k) else nI 0)).toInt ∧ (sDebt L k f + (if L 1 k = f ∧ L 3 k < 0 then -(L 3 k) else nI 0)).toInt ≤ B * ((k + 1 : Nat) : Int)
    have hm : B * ((k + 1 : Nat) : Int) = B * (k : Int) + B := by rw [Int.natCast_add, Int.mul_add]; omega
    have hm2 : B * (k : Int) ≤ 170000000 * 11 := Int.mul_le_mul hB (by omega) (by omega) (by omega)
    have hx : 0 ≤ (if L 1 k = f ∧ L 3 k < 0 then -(L 3 k) else nI 0).toInt ∧ (if L 1 k = f ∧ L 3 k < 0 then -(L 3 k) else nI 0).toInt ≤ B := by
      by_cases w : L 1 k = f ∧ L 3 k < 0
      · rw [if_pos w, bi_neg (by omega) (by omega)]
        have := w.2
        rw [Int32.lt_iff_toInt_lt, show (0 : Int32).toInt = 0 from rfl] at this
        omega
      · rw [if_neg w, show (nI 0).toInt = 0 from rfl]
        omega
    rw [bi_add (by omega) (by omega), hm]
    omega
theorem debt_pos (h : zG B L n) (hB : B ≤ 170000000) (hn : n ≤ 12) (f : Int32) : 0 < sDebt L n f ↔ ¬ sDebt L n f = 0 := by
  have := (debt_nn h hB f n (Nat.le_refl n) hn).1
  constructor
  · intro h1 h2
    rw [h2] at h1
    exact absurd h1 (by decide)
  · intro h1
    rw [Int32.lt_iff_toInt_lt, show (0 : Int32).toInt = 0 from rfl]
    by_cases e : (sDebt L n f).toInt = 0
    · exact absurd (Int32.toInt_inj.mp (e.trans (show (0 : Int) = (0 : Int32).toInt from rfl))) h1
    · omega
end ZB
section ZW
variable {L K : zL} {n t : Nat} {B : Int}
theorem k0_row {X : zL} (h : zK0 L n t) (e : X 9 = L 9) : zK0 X n t := fun c d hc ht hd => by rw [e]; exact h c d hc ht hd
theorem k0_set (h : zK0 L n t) {c d : Nat} {v : Int32} (hd : d < t) (ht : t ≤ 40) : zK0 (up2 L 9 (c * 40 + d) v) n t := fun c' d' hc h' hd' => by
  rw [up2_j (show c' * 40 + d' ≠ c * 40 + d by omega)]
  exact h c' d' hc h' hd'
theorem k0_ord (h : zK0 L n t) (p : Nat) (b : Int32) : zK0 (sOrd L p b) n t := fun c d hc h' hd => by
  unfold sOrd
  by_cases e : c * 40 + d = p
  · rw [e, up2_v]
    split
    · exact Or.inl rfl
    · exact Or.inr rfl
  · rw [up2_j e]
    exact h c d hc h' hd
theorem serve_9 (L : zL) (n c d : Nat) : ∃ v, (sServe L n c d).2 9 = upd (L 9) (c * 40 + d) v := by
  obtain ⟨x, hx, _⟩ := sServe_k L n c d
  exact ⟨x, hx⟩
theorem serve_7 (L : zL) (n c d : Nat) : (sServe L n c d).2 7 = L 7 := by
  unfold sServe
  split <;> rfl
theorem k0_serve (h : zK0 L n t) {c d : Nat} (hd : d < t) (ht : t ≤ 40) : zK0 (sServe L n c d).2 n t := by
  obtain ⟨v, e⟩ := serve_9 L n c d
  exact k0_row (k0_set h (v := v) hd ht) (e.trans (up2_same L 9 _ v).symm)
theorem k0_day {x : Int32 × zL} {d : Nat} (h : zK0 x.2 n (d + 1)) (hd : d + 1 ≤ 40) (k : Nat) : zK0 (zfold (sDayC n d) k x).2 n (d + 1) :=
  zfold_inv (f := sDayC n d) (P := fun x : Int32 × zL => zK0 x.2 n (d + 1)) h (fun c x hx => by
    unfold sDayC
    split
    · exact k0_serve hx (by omega) hd
    · exact hx) k
theorem k0_mono {t2 : Nat} (h : zK0 L n t) (ht : t ≤ t2) : zK0 L n t2 := fun c d hc h' hd => h c d hc (by omega) hd
theorem k0_days (h : zK0 L n t) : ∀ k, t + k ≤ 40 → zK0 (sDays n t k L).2 n (t + k)
  | 0, _ => h
  | k + 1, hk => k0_row (k0_day (d := t + k) (k0_mono (t2 := t + k + 1) (k0_days h k (by omega)) (by omega)) hk n) rfl
theorem days_7 (L : zL) (n t : Nat) : ∀ k, (sDays n t k L).2 7 = L 7
  | 0 => rfl
  | k + 1 => by
    show (zfold (sDayC n (t + k)) n (sDays n t k L)).2 7 = L 7
    exact zfold_inv (f := sDayC n (t + k)) (P := fun x : Int32 × zL => x.2 7 = L 7) (days_7 L n t k) (fun c x hx => by
      unfold sDayC
      split
      · exact (serve_7 x.2 n c (t + k)).trans hx
      · exact hx) n
theorem settle_7 (L : zL) (c d : Nat) : (sSettle L c d) 7 = L 7 := by
  unfold sSettle
  split
  · rfl
  · split <;> rfl
theorem entitle_7 (L : zL) (c : Nat) (fr to : Int32) : ∀ k, (sEntitle L k c fr to) 7 = L 7
  | 0 => rfl
  | k + 1 => (settle_7 (sEntitle L k c fr to) c k).trans (entitle_7 L c fr to k)
theorem k0_settle (h : zK0 L n t) {c d : Nat} (hd : d < t) (ht : t ≤ 40) : zK0 (sSettle L c d) n t := by
  unfold sSettle
  split
  · exact k0_set (k0_row h rfl) hd ht
  · split
    · exact k0_row (k0_set h (v := nI 2) hd ht) rfl
    · exact h
theorem k0_entitle (h : zK0 L n t) (ht : t ≤ 40) (c : Nat) (fr to : Int32) : ∀ k, k ≤ t → zK0 (sEntitle L k c fr to) n t
  | 0, _ => k0_row h rfl
  | k + 1, hk => k0_settle (k0_entitle h ht c fr to k (by omega)) (by omega) ht
theorem off_r (L : zL) (f : Int32) (j : Nat) (hj : j ≠ 3) (k : Nat) : (sOff L f k) j = L j :=
  zfold_inv (P := fun X : zL => X j = L j) rfl (fun i X hX => by
    show (if X 1 i = f ∧ X 3 i < 0 then up2 X 3 i (nI 0) else X) j = L j
    split
    · exact (up2_ne X i (nI 0) hj).trans hX
    · exact hX) k
end ZW
