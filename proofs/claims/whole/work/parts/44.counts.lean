/-! Counts of the class and of the model: the same. -/
theorem zs_pl (f : Nat → Int32) (m : Nat) : ∀ k, zs f (m + k) = zs f m + zs (fun i => f (m + i)) k
  | 0 => (zk_a0 _).symm
  | k + 1 => by
    show zs f (m + k) + f (m + k) = zs f m + (zs (fun i => f (m + i)) k + f (m + k))
    rw [zs_pl f m k, Int32.add_assoc]
theorem zs_flat (f : Nat → Int32) : ∀ a, zs f (a * 40) = zs (fun c => zs (fun d => f (c * 40 + d)) 40) a
  | 0 => rfl
  | a + 1 => by
    rw [Nat.succ_mul, zs_pl, zs_flat f a]
    rfl
theorem zs_cut {f : Nat → Int32} {n : Nat} : ∀ k, (∀ c, n ≤ c → c < n + k → f c = nI 0) → zs f (n + k) = zs f n
  | 0, _ => rfl
  | k + 1, h => by
    show zs f (n + k) + f (n + k) = _
    rw [h (n + k) (by omega) (by omega), zs_cut k (fun c a b => h c a (by omega))]
    exact zk_a0 _
theorem zs_zero {f : Nat → Int32} : ∀ {n : Nat}, (∀ k, k < n → f k = nI 0) → zs f n = nI 0
  | 0, _ => rfl
  | n + 1, h => by
    rw [zs_s, h n (by omega), zs_zero (fun k hk => h k (by omega))]
    rfl
theorem zs_one {f : Nat → Int32} {j : Nat} : ∀ {n : Nat}, j < n → (∀ k, k < n → k ≠ j → f k = nI 0) → zs f n = f j
  | 0, h, _ => absurd h (Nat.not_lt_zero j)
  | n + 1, hj, h => by
    rw [zs_s]
    by_cases e : j = n
    · subst e
      rw [zs_zero (fun k hk => h k (by omega) (by omega))]
      exact (show (0 : Int32) + f j = f j from Int32.zero_add _)
    · rw [h n (by omega) (Ne.symm e), zs_one (by omega) (fun k hk => h k (by omega))]
      exact zk_a0 _
theorem zs_add (f g : Nat → Int32) : ∀ n, zs (fun i => f i + g i) n = zs f n + zs g n
  | 0 => rfl
  | n + 1 => by
    rw [zs_s, zs_s, zs_s, zs_add f g n]
    grind
theorem zs_swap (f : Nat → Nat → Int32) (b : Nat) : ∀ a, zs (fun i => zs (fun j => f i j) b) a = zs (fun j => zs (fun i => f i j) a) b
  | 0 => (zs_zero (fun _ _ => rfl)).symm
  | a + 1 => by
    rw [zs_s, zs_swap f b a, ← zs_add]
    rfl
theorem zs_const (b : Nat) : ∀ n, zs (fun _ => nI b) n = nI (b * n)
  | 0 => rfl
  | n + 1 => by rw [zs_s, zs_const b n, nI_add, Nat.mul_succ]
section ZC
variable {L K : zL} {n t : Nat}
/-- of all children: those that don't stand count nothing -/
theorem r_cut (h : zRel L K n t) (f : Nat → Int32) (hf : ∀ c, n ≤ c → c < 12 → f c = nI 0) : zs f 12 = zs f n := by
  have hn := rn h
  have := zs_cut (f := f) (n := n) (12 - n) (fun c a b => hf c a (by omega))
  rw [show n + (12 - n) = 12 by omega] at this
  exact this
theorem cnt480 (h : zRel L K n t) {w : Int32} (hw : ¬ nI 0 = w) : zs (fun i => if L 9 i = w then nI 1 else nI 0) 480 = kAll K n w := by
  have hn := rn h
  have e := zs_flat (fun i => if L 9 i = w then nI 1 else nI 0) 12
  refine e.trans ((r_cut h _ (fun c a b => zs_zero (fun d hd => ?_))).trans ?_)
  · show (if L 9 (c * 40 + d) = w then nI 1 else nI 0) = nI 0
    rw [rZ h a b hd, if_neg hw]
  · unfold kAll
    refine zs_cong fun c hc => zs_cong fun d hd => ?_
    show (if L 9 (c * 40 + d) = w then nI 1 else nI 0) = _
    rw [r9 h (show c * 40 + d < 480 by omega)]
theorem kCnt_c {ck : Nat} (hc : ck < n) (hn : n ≤ 12) (w : Int32) : kCnt K n (nI ck) (-1) w = zs (fun i => if K 9 (ck * 40 + i) = w then nI 1 else nI 0) 40 := by
  unfold kCnt
  refine (zs_one hc (fun k hk e => zs_zero (fun d _ => if_neg (fun z => ?_)))).trans (zs_cong fun d _ => zk_ifc ⟨fun z => z.2.2, fun z => ⟨Or.inr rfl, Or.inl rfl, z⟩⟩)
  rcases z.1 with z | z
  · exact zk_m1n (show ck < 2 ^ 31 by omega) z
  · exact e (zk_eq (by omega) (by omega) z)
theorem cnt40 (h : zRel L K n t) {ck : Nat} (hc : ck < n) (w : Int32) : zs (fun i => if L 9 (ck * 40 + i) = w then nI 1 else nI 0) 40 = kCnt K n (nI ck) (-1) w := by
  have hn := rn h
  rw [kCnt_c hc hn]
  exact zs_cong fun d hd => by rw [r9 h (show ck * 40 + d < 480 by omega)]
theorem kCnt_d {dk : Nat} (hd : dk < 40) (w : Int32) : kCnt K n (-1) (nI dk) w = zs (fun i => if K 9 (i * 40 + dk) = w then nI 1 else nI 0) n := by
  unfold kCnt
  refine zs_cong fun c _ => (zs_one hd (fun k hk e => if_neg (fun z => ?_))).trans (zk_ifc ⟨fun z => z.2.2, fun z => ⟨Or.inl rfl, Or.inr rfl, z⟩⟩)
  rcases z.2.1 with z | z
  · exact zk_m1n (show dk < 2 ^ 31 by omega) z
  · exact e (zk_eq (by omega) (by omega) z)
theorem cnt12 (h : zRel L K n t) {dk : Nat} (hd : dk < 40) {w : Int32} (hw : ¬ nI 0 = w) : zs (fun i => if L 9 (i * 40 + dk) = w then nI 1 else nI 0) 12 = kCnt K n (-1) (nI dk) w := by
  have hn := rn h
  rw [kCnt_d hd]
  refine (r_cut h _ (fun c a b => ?_)).trans (zs_cong fun c hc => ?_)
  · rw [rZ h a b hd, if_neg hw]
  · rw [r9 h (show c * 40 + dk < 480 by omega)]
/-- a charge of a place -/
theorem r_chg (h : zRel L K n t) {p : Nat} (hp : p < 480) : (if L 9 p = nI 2 then L 10 p else nI 0) = if K 9 p = nI 2 then K 10 p else nI 0 := by
  by_cases w : L 9 p = nI 2
  · rw [if_pos w, if_pos ((r9 h hp).symm.trans w), r10 h hp w]
  · rw [if_neg w, if_neg (fun z => w ((r9 h hp).trans z))]
theorem chgAll (h : zRel L K n t) : zs (fun j => zs (fun i => if L 9 (i * 40 + j) = nI 2 then L 10 (i * 40 + j) else nI 0) 12) 40 = kChg K n (-1) (-1) := by
  have hn := rn h
  refine (zs_swap (fun j i => if L 9 (i * 40 + j) = nI 2 then L 10 (i * 40 + j) else nI 0) 12 40).trans ?_
  refine (r_cut h _ (fun c a b => zs_zero (fun d hd => ?_))).trans ?_
  · show (if L 9 (c * 40 + d) = nI 2 then L 10 (c * 40 + d) else nI 0) = nI 0
    rw [rZ h a b hd, if_neg (by decide)]
  · unfold kChg
    refine zs_cong fun c hc => zs_cong fun d hd => ?_
    refine (r_chg h (show c * 40 + d < 480 by omega)).trans ?_
    by_cases w : K 9 (c * 40 + d) = nI 2
    · rw [if_pos w, if_pos ⟨w, Or.inl rfl, Or.inl rfl⟩]
    · rw [if_neg w, if_neg (fun z => w z.1)]
theorem chgDay (h : zRel L K n t) {dk : Nat} (hd : dk < 40) : zs (fun i => if L 9 (i * 40 + dk) = nI 2 then L 10 (i * 40 + dk) else nI 0) 12 = kChg K n (nI dk) (-1) := by
  have hn := rn h
  refine (r_cut h _ (fun c a b => ?_)).trans ?_
  · rw [rZ h a b hd, if_neg (by decide)]
  · unfold kChg
    refine zs_cong fun c hc => ?_
    refine (r_chg h (show c * 40 + dk < 480 by omega)).trans (Eq.symm ((zs_one hd (fun k hk e => if_neg (fun z => ?_))).trans ?_))
    · rcases z.2.1 with z | z
      · exact zk_m1n (show dk < 2 ^ 31 by omega) z
      · exact e (zk_eq (by omega) (by omega) z)
    · by_cases w : K 9 (c * 40 + dk) = nI 2
      · rw [if_pos w, if_pos ⟨w, Or.inr rfl, Or.inl rfl⟩]
      · rw [if_neg w, if_neg (fun z => w z.1)]
theorem chgPay (h : zRel L K n t) {ck : Nat} (hc : ck < n) : zs (fun i => if L 9 i = nI 2 ∧ L 11 i = nI ck then L 10 i else nI 0) 480 = kChg K n (-1) (nI ck) := by
  have hn := rn h
  refine (zs_flat (fun i => if L 9 i = nI 2 ∧ L 11 i = nI ck then L 10 i else nI 0) 12).trans ((r_cut h _ (fun c a b => zs_zero (fun d hd => ?_))).trans ?_)
  · show (if L 9 (c * 40 + d) = nI 2 ∧ L 11 (c * 40 + d) = nI ck then L 10 (c * 40 + d) else nI 0) = nI 0
    rw [rZ h a b hd, if_neg (fun z => absurd z.1 (by decide))]
  · unfold kChg
    refine zs_cong fun c hc2 => zs_cong fun d hd => ?_
    have hp : c * 40 + d < 480 := by omega
    show (if L 9 (c * 40 + d) = nI 2 ∧ L 11 (c * 40 + d) = nI ck then L 10 (c * 40 + d) else nI 0) = _
    by_cases w : L 9 (c * 40 + d) = nI 2
    · rw [r10 h hp w, r11 h hp w, r9 h hp]
      refine zk_ifc ⟨fun z => ⟨z.1, Or.inl rfl, Or.inr z.2⟩, fun z => ⟨z.1, ?_⟩⟩
      rcases z.2.2 with z | z
      · exact absurd z (zk_m1n (show ck < 2 ^ 31 by omega))
      · exact z
    · rw [if_neg (fun z => w z.1), if_neg (fun z => w ((r9 h hp).trans z.1))]
theorem r_sib (h : zRel L K n t) {ck : Nat} (hc : ck < n) : zs (fun i => if L 9 (ck * 40 + i) = nI 2 ∧ ¬ L 11 (ck * 40 + i) = nI ck then nI 1 else nI 0) 40 = mSib K ck := by
  have hn := rn h
  unfold mSib
  refine zs_cong fun d hd => ?_
  have hp : ck * 40 + d < 480 := by omega
  by_cases w : L 9 (ck * 40 + d) = nI 2
  · rw [r11 h hp w, r9 h hp]
  · rw [if_neg (fun z => w z.1), if_neg (fun z => w ((r9 h hp).trans z.1))]
-- the questions
theorem q_about (h : zRel L K n t) (w : Int32) : xAbout L n t w = mAbout K n t w := by
  unfold xAbout mAbout
  rw [cnt480 h (show ¬ nI 0 = nI 1 by decide), cnt480 h (show ¬ nI 0 = nI 2 by decide), cnt480 h (show ¬ nI 0 = nI 3 by decide), cnt480 h (show ¬ nI 0 = nI 4 by decide), cnt480 h (show ¬ nI 0 = nI 5 by decide), chgAll h, r_sum3 h, r0 h (show 4 < 5 by decide), zs_cong (f := L 8) (g := K 8) (fun k hk => r8 h hk), ← kCnt_all, ← kCnt_all, ← kCnt_all, ← kCnt_all, ← kCnt_all]
  rfl
theorem q_child (h : zRel L K n t) {ck : Nat} (hc : ck < n) (w : Int32) : xChild L n t ck w = mChild K n t ck w := by
  unfold xChild mChild
  rw [cnt40 h hc, cnt40 h hc, cnt40 h hc, chgPay h hc, r_sib h hc, r1 h hc, r2 h hc, r3 h hc, r4 h hc, r5 h hc]
  rfl
theorem q_family (h : zRel L K n t) {fk : Nat} (hf : fk < 5) (w : Int32) : xFamily L n t fk w = mFamily K n t fk w := by
  unfold xFamily mFamily
  rw [r7 h hf, r8 h hf, r_debt h, zs_cong (f := fun i => if L 1 i = nI fk then nI 1 else nI 0) (g := fun i => if K 1 i = nI fk then nI 1 else nI 0) (fun k hk => by rw [r1 h hk]), zs_cong (f := fun i => if L 1 i = nI fk then L 3 i else nI 0) (g := fun i => if K 1 i = nI fk then K 3 i else nI 0) (fun k hk => by rw [r1 h hk, r3 h hk])]
/-- kinds are 0 to 5 -/
def zKi (L : zL) : Prop := ∀ p, p < 480 → ∃ k, k ≤ 5 ∧ L 9 p = nI k
theorem ki_1 {x : Int32} (h : ∃ k, k ≤ 5 ∧ x = nI k) : (if x = nI 0 then nI 1 else nI 0) + (((((if x = nI 2 then nI 1 else nI 0) + (if x = nI 3 then nI 1 else nI 0)) + (if x = nI 1 then nI 1 else nI 0)) + (if x = nI 4 then nI 1 else nI 0)) + (if x = nI 5 then nI 1 else nI 0)) = nI 1 := by
  obtain ⟨k, hk, e⟩ := h
  subst e
  rcases (show k = 0 ∨ k = 1 ∨ k = 2 ∨ k = 3 ∨ k = 4 ∨ k = 5 by omega) with e | e | e | e | e | e <;> subst e <;> decide
theorem q_day (h : zRel L K n t) (hk : zKi L) {dk : Nat} (hd : dk < 40) (w : Int32) : xDay L n t dk w = mDay K n t dk w := by
  have hn := rn h
  have e : nI 12 - zs (fun i => if L 9 (i * 40 + dk) = nI 0 then nI 1 else nI 0) 12 = (((kSrv K n (-1) (nI dk)) + (kCnt K n (-1) (nI dk) (nI 1))) + (kCnt K n (-1) (nI dk) (nI 4))) + (kCnt K n (-1) (nI dk) (nI 5)) := by
    have e1 : zs (fun i => (if L 9 (i * 40 + dk) = nI 0 then nI 1 else nI 0) + (((((if L 9 (i * 40 + dk) = nI 2 then nI 1 else nI 0) + (if L 9 (i * 40 + dk) = nI 3 then nI 1 else nI 0)) + (if L 9 (i * 40 + dk) = nI 1 then nI 1 else nI 0)) + (if L 9 (i * 40 + dk) = nI 4 then nI 1 else nI 0)) + (if L 9 (i * 40 + dk) = nI 5 then nI 1 else nI 0))) 12 = nI (1 * 12) :=
      (zs_cong (fun c hc => ki_1 (hk (c * 40 + dk) (by omega)))).trans (zs_const 1 12)
    rw [zs_add, zs_add, zs_add, zs_add, zs_add, cnt12 h hd (show ¬ nI 0 = nI 2 by decide), cnt12 h hd (show ¬ nI 0 = nI 3 by decide), cnt12 h hd (show ¬ nI 0 = nI 1 by decide), cnt12 h hd (show ¬ nI 0 = nI 4 by decide), cnt12 h hd (show ¬ nI 0 = nI 5 by decide)] at e1
    unfold kSrv
    rw [show nI 12 = nI (1 * 12) from rfl, ← e1]
    grind
  unfold xDay mDay
  rw [e, cnt12 h hd (show ¬ nI 0 = nI 2 by decide), cnt12 h hd (show ¬ nI 0 = nI 3 by decide), chgDay h hd, r6 h hd]
  rfl
theorem q_meal (h : zRel L K n t) {ck dk : Nat} (hc : ck < n) (hd : dk < 40) {w : Int32} (hw : zIn w 3) : xMeal L n t ck dk w = mMeal K ck dk w := by
  have hn := rn h
  have hp : ck * 40 + dk < 480 := by omega
  obtain ⟨j, hj, e⟩ := hw
  subst e
  unfold xMeal mMeal
  by_cases w2 : L 9 (ck * 40 + dk) = nI 2
  · rw [r10 h hp w2, r11 h hp w2, r9 h hp]
    rw [r9 h hp] at w2
    rcases (show j = 0 ∨ j = 1 ∨ j = 2 by omega) with e | e | e <;> subst e
    · rw [if_pos rfl]; exact (if_pos rfl).symm
    · rw [if_neg (by decide), if_pos rfl, if_pos w2, if_neg (show ¬ nI 1 = 0 by decide), if_pos w2]; exact (if_pos rfl).symm
    · rw [if_neg (by decide), if_neg (by decide), if_pos rfl, if_pos w2, if_neg (show ¬ nI 2 = 0 by decide), if_pos w2]; exact (if_neg (by decide)).symm
  · have w3 : ¬ K 9 (ck * 40 + dk) = nI 2 := fun z => w2 ((r9 h hp).trans z)
    rw [if_neg w2, if_neg w2, r9 h hp]
    rcases (show j = 0 ∨ j = 1 ∨ j = 2 by omega) with e | e | e <;> subst e
    · rw [if_pos rfl]; exact (if_pos rfl).symm
    · rw [if_neg (by decide), if_pos rfl, if_neg (show ¬ nI 1 = 0 by decide), if_neg w3]
      exact zk_ifc ⟨fun z => ⟨rfl, z⟩, fun z => z.2⟩
    · rw [if_neg (by decide), if_neg (by decide), if_pos rfl, if_neg (show ¬ nI 2 = 0 by decide), if_neg w3]
      exact (if_neg (fun z => absurd z.1 (by decide))).symm
theorem q_setting (h : zRel L K n t) {w : Int32} (hw : zIn w 2) : xSetting L n t w = K 0 (2 + w.toNatClampNeg) := by
  obtain ⟨j, hj, e⟩ := hw
  subst e
  unfold xSetting
  rw [nI_clamp (by omega)]
  rcases (show j = 0 ∨ j = 1 by omega) with e | e <;> subst e
  · rw [if_pos rfl]; exact r0 h (by decide)
  · rw [if_neg (by decide), if_pos rfl]; exact r0 h (by decide)
/-- orders of a day from today on -/
theorem q_order (h : zRel L K n t) {dk : Nat} (hd : dk < 40) (hk : ∀ c, c < n → L 9 (c * 40 + dk) = nI 0 ∨ L 9 (c * 40 + dk) = nI 1) : sOrdN L dk = kCnt K n (-1) (nI dk) (nI 1) := by
  have hn := rn h
  have e1 : zs (fun i => (if L 9 (i * 40 + dk) = nI 0 then nI 1 else nI 0) + (if L 9 (i * 40 + dk) = nI 1 then nI 1 else nI 0)) 12 = nI (1 * 12) := by
    refine (zs_cong (fun c hc => ?_)).trans (zs_const 1 12)
    by_cases w : c < n
    · rcases hk c w with e | e <;> rw [e] <;> decide
    · rw [rZ h (by omega) hc hd]; decide
  rw [zs_add, cnt12 h hd (show ¬ nI 0 = nI 1 by decide)] at e1
  unfold sOrdN
  rw [show nI 12 = nI (1 * 12) from rfl, ← e1]
  grind
end ZC
