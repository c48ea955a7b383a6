/-! Answers of the actions, side by side; codes of what is thrown. -/
/-- what the law's method answers for what was thrown is the model's refusal -/
theorem thr_code {E : String} {F Fk a b d r : Int32} (h : (E = "java/lang/IndexOutOfBoundsException" ∧ F = nI 1) ∨ (E = "java/lang/IllegalArgumentException" ∧ F = nI 2) ∨ (E = "java/lang/IllegalStateException" ∧ F = nI 3)) (hc : zcode E a b d r) (h1 : F = nI 1 → Fk = a) (h2 : F = nI 2 → Fk = b) (h3 : F = nI 3 → Fk = d) : Fk = r ∧ ¬ F = 0 := by
  rcases h with ⟨e, f⟩ | ⟨e, f⟩ | ⟨e, f⟩
  · exact ⟨(h1 f).trans (hc.1 e).symm, by rw [f]; decide⟩
  · exact ⟨(h2 f).trans (hc.2.1 e).symm, by rw [f]; decide⟩
  · exact ⟨(h3 f).trans (hc.2.2 e).symm, by rw [f]; decide⟩
section ZY
variable {L K : zL} {n t : Nat} {B : Int}
theorem a_order (h : zW B L K n t) {c d : Int32} (hz : kwOrd K t c d = 0) (b : Int32) : sOrdN (sOrd L (c.toNatClampNeg * 40 + d.toNatClampNeg) b) d.toNatClampNeg = kCnt (sOrd K (c.toNatClampNeg * 40 + d.toNatClampNeg) b) n (-1) d (nI 1) ∧ zW B (sOrd L (c.toNatClampNeg * 40 + d.toNatClampNeg) b) (sOrd K (c.toNatClampNeg * 40 + d.toNatClampNeg) b) n t := by
  obtain ⟨hc, hd, ht⟩ := kwOrd_0 hz
  obtain ⟨ck, hck, e⟩ := sHas_nat (rK (wR h)) hc
  obtain ⟨dk, hdk, e2⟩ := sDay_nat hd
  subst e2
  have hn := rn (wR h)
  have htt := rt (wR h)
  have ht2 : t ≤ dk := zk_nlt (by omega) (by omega) ht
  rw [e, nI_clamp (by omega), nI_clamp (by omega)]
  have hw := w_ord h hck hdk b
  exact ⟨q_order (wR hw) hdk (fun k hk => wK hw k dk hk ht2 hdk), hw⟩
theorem a_pay (h : zW B L K n t) (hB2 : B ≤ 900000000) {c am : Int32} (hz : sfPay K c am = 0) : sPay L c.toNatClampNeg am 3 c.toNatClampNeg = sPay K c.toNatClampNeg am 3 c.toNatClampNeg ∧ zW (B + 40000) (sPay L c.toNatClampNeg am) (sPay K c.toNatClampNeg am) n t := by
  obtain ⟨ck, hck, e⟩ := sHas_nat (rK (wR h)) (sfPay_0 hz)
  have hn := rn (wR h)
  have ha : ¬ (am = 0 ∨ am < -9999 ∨ nI 9999 < am) := fun y => by
    have z := hz
    unfold sfPay at z
    rw [if_neg (fun w => w (sfPay_0 hz)), if_pos y] at z
    exact absurd z (by decide)
  have hab := am_b (fun y => ha (Or.inr (Or.inl y))) (fun y => ha (Or.inr (Or.inr y)))
  rw [e, nI_clamp (by omega)]
  have hw := w_pay h (by omega) hck hab
  exact ⟨r3 (wR hw) hck, w_mono hw (by omega)⟩
theorem a_move (h : zW B L K n t) (hB2 : B ≤ 900000000) {c o am : Int32} (hz : sfMove K c o am = 0) : sMove L c.toNatClampNeg o.toNatClampNeg am 3 c.toNatClampNeg = sMove K c.toNatClampNeg o.toNatClampNeg am 3 c.toNatClampNeg ∧ zW (B + 40000) (sMove L c.toNatClampNeg o.toNatClampNeg am) (sMove K c.toNatClampNeg o.toNatClampNeg am) n t := by
  obtain ⟨ck, hck, e⟩ := sHas_nat (rK (wR h)) (sfMove_0 hz).1
  obtain ⟨ok, hok, e2⟩ := sHas_nat (rK (wR h)) (sfMove_0 hz).2
  have hn := rn (wR h)
  have ha : ¬ (am < nI 1 ∨ nI 9999 < am) := fun y => by
    have z := hz
    unfold sfMove at z
    rw [if_neg (fun w => w.elim (fun w => w (sfMove_0 hz).1) (fun w => w (sfMove_0 hz).2)), if_pos y] at z
    exact absurd z (by decide)
  have hab := am_b (am := am) (fun y => ha (Or.inl (Int32.lt_trans y (by decide)))) (fun y => ha (Or.inr y))
  rw [e, e2, nI_clamp (by omega), nI_clamp (by omega)]
  have hw := w_move h (by omega) hck hok hab
  exact ⟨r3 (wR hw) hck, w_mono hw (by omega)⟩
theorem a_share (h : zW B L K n t) (f : Nat) (b fi : Int32) : sSumOf (sShare L f b) n fi = sSumOf (sShare K f b) n fi ∧ zW B (sShare L f b) (sShare K f b) n t :=
  ⟨r_sumof (wR (w_share h f b)) fi, w_share h f b⟩
theorem a_ent (h : zW B L K n t) (hB : 0 ≤ B) (hB2 : B ≤ 900000000) {c fr to : Int32} (hz : sfEnt K c fr to = 0) : zs (sEntitle L t c.toNatClampNeg fr to 3) n - zs (L 3) n = zs (sEntitle K t c.toNatClampNeg fr to 3) n - zs (K 3) n ∧ zW (B + 40000) (sEntitle L t c.toNatClampNeg fr to) (sEntitle K t c.toNatClampNeg fr to) n t := by
  obtain ⟨ck, hck, e⟩ := sHas_nat (rK (wR h)) (sfEnt_0 hz).1
  have hn := rn (wR h)
  rw [e, nI_clamp (by omega)]
  have hw := w_entitle h hB hB2 hck fr to
  exact ⟨by rw [r_sum3 (wR hw), r_sum3 (wR h)], hw⟩
theorem a_off (h : zW B L K n t) (hB : 0 ≤ B) {f : Int32} (hf : sFam f) : sDebt L n f = sDebt K n f ∧ zW B (sWrite L n f.toNatClampNeg) (sWrite K n f.toNatClampNeg) n t := by
  obtain ⟨k, hk, e⟩ := sFam_nat hf
  refine ⟨r_debt (wR h) f, ?_⟩
  rw [e, nI_clamp (by omega)]
  exact w_write h hB hk
theorem a_days (h : zW B L K n t) (hB : 9999 ≤ B) (hB2 : B ≤ 1000000000) {k : Int32} (hz : sfDays t k = 0) : (sDays n t k.toNatClampNeg L).1 = kSrv (kDays n t k.toNatClampNeg K) n (-1) (-1) - kSrv K n (-1) (-1) ∧ ∃ t2, zW B (sDays n t k.toNatClampNeg L).2 (kDays n t k.toNatClampNeg K) n t2 := by
  obtain ⟨j, e, h1, h2⟩ := sfDays_0 (rt (wR h)) hz
  have ht := rt (wR h)
  rw [e, nI_clamp (by omega)]
  obtain ⟨a, b⟩ := w_days h hB hB2 j h2
  exact ⟨by rw [kSrv_days K j h2, b], _, a⟩
theorem a_menu (h : zW B L K n t) {d : Int32} (hd : sDay d) (v : Int32) : L 6 d.toNatClampNeg = K 6 d.toNatClampNeg ∧ zW B (up2 L 6 d.toNatClampNeg v) (up2 K 6 d.toNatClampNeg v) n t := by
  obtain ⟨k, hk, e⟩ := sDay_nat hd
  refine ⟨?_, w_menu h _ v⟩
  rw [e, nI_clamp (by omega)]
  exact r6 (wR h) hk
theorem a_set (h : zW B L K n t) {w v : Int32} (hv : kwSet w v = 0) : (if w = 0 then L 0 2 else L 0 3) = (if w = 0 then K 0 2 else K 0 3) ∧ zW B (sSet L w v) (sSet K w v) n t := by
  refine ⟨?_, w_set h hv⟩
  rw [r0 (wR h) (show 2 < 5 by decide), r0 (wR h) (show 3 < 5 by decide)]
theorem a_price (h : zW B L K n t) (hB : 9999 ≤ B) (hB2 : B ≤ 1000000000) {pr : Int32} (h1 : ¬ pr < nI 1) (h2 : ¬ nI 999 < pr) : (sDays n t (40 - t) (up2 L 0 2 pr)).1 = kSrv (kEnd (up2 K 0 2 pr) n t) n (-1) (-1) - kSrv (up2 K 0 2 pr) n (-1) (-1) := by
  have ht := rt (wR h)
  obtain ⟨_, b⟩ := w_days (w_price h h1 h2) hB hB2 (40 - t) (by omega)
  unfold kEnd
  rw [kSrv_days (up2 K 0 2 pr) (40 - t) (by omega), b]
theorem a_sim (h : zW B L K n t) (hB : 9999 ≤ B) (hB2 : B ≤ 90000000) (seed : Int64) {k : Nat} (hk : k ≤ 99) : nI 1000 * (mSrv (mRun L seed k).2 - mSrv L) + (mRef (mRun L seed k).2 - mRef L) = nI 1000 * (kSrv (kMRun K seed k).2 (zN (kMRun K seed k).2) (-1) (-1) - kSrv K n (-1) (-1)) + kCnt (kMRun K seed k).2 (zN (kMRun K seed k).2) (-1) (-1) (nI 4) - kCnt K n (-1) (-1) (nI 4) := by
  obtain ⟨_, b⟩ := j_mrun h hB hB2 seed k hk
  have e := (w_NT b).1
  rw [r_srv (wR h), r_ref (wR h), r_srv (wR b), r_ref (wR b), e]
  grind
end ZY
/-! A script's digits; which questions are refused. -/
theorem a_scr_c {sc : Int64} (h : ¬ sc < lN 0) {k : Nat} (hk : k ≤ 3) : lN 0 < wLg sc k ↔ lN (pw6 k) - lN 1 < sc := by
  obtain ⟨s, hs, e⟩ := pk_lOf h
  have h1 := pw6_1 k
  have h2 := pw6_le hk
  rw [e, wLg_nat hs, lN_sub h1, pk_lLT (by decide) (Nat.lt_of_le_of_lt (Nat.div_le_self _ _) hs), pk_lLT (by omega) hs]
  have e2 : 1000000 ^ k = pw6 k := rfl
  rw [e2, Nat.div_pos_iff]
  omega
theorem a_scr {L K : zL} {n t : Nat} {B : Int} (h : zW B L K n t) (hB : 9999 ≤ B) (hB2 : B ≤ 90000000) {sc : Int64} (hsc : ¬ sc < lN 0) {k : Nat} (hk : k ≤ 3) : sOpt (rRun L sc k k).1 = sOpt (kRun K sc k k).1 := by rw [(j_run h hB hB2 hsc k k hk).1]
theorem nn_13 {nn : Int32} (h1 : ¬ nn < nI 1) (h2 : ¬ nI 3 < nn) : ∃ k, 1 ≤ k ∧ k ≤ 3 ∧ nn = nI k := nI_rng (by decide) (by decide) h1 h2
theorem zIn_c {c : Int32} : zIn c 256 ↔ ¬ c < 0 ∧ ¬ nI 255 < c := by
  constructor
  · intro ⟨j, hj, e⟩
    subst e
    exact ⟨nI_pos (by omega), fun z => by have := zk_lt (by omega) (by omega) z; omega⟩
  · intro ⟨h1, h2⟩
    obtain ⟨k, _, hk, e⟩ := nI_rng (a := 0) (by decide) (by decide) h1 h2
    exact ⟨k, by omega, e⟩
theorem zIn_2 {c : Int32} : zIn c 2 ↔ ¬ c < 0 ∧ c < nI 2 := by
  constructor
  · intro ⟨j, hj, e⟩
    subst e
    exact ⟨nI_pos (by omega), (nI_ltI (by omega) (by omega)).mpr (by omega)⟩
  · intro ⟨h1, h2⟩
    obtain ⟨k, hk, e⟩ := nI_of h1
    subst e
    exact ⟨k, zk_lt hk (by omega) h2, rfl⟩
