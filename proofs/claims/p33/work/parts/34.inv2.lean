/-! What holds of a ledger: the other actions, texts. -/
section ZI2
variable {L L' : zL} {n t c d : Nat} {B : Int}
theorem i_mono {B2 : Int} (h : zI B L n t) (hb : B ≤ B2) : zI B2 L n t := ⟨h.1, g_mono h.2.1 hb, h.2.2⟩
theorem i_ent (h : zI B L n t) (hB : 0 ≤ B) (hB2 : B ≤ 900000000) (hc : c < n) (fr to : Int32) : ∀ k, k ≤ t → (∀ c' d', c' < n → d' < 40 → zCw (sEntitle L k c fr to) n c' d') ∧ (∀ c' d', n ≤ c' → c' < 12 → d' < 40 → sEntitle L k c fr to 9 (c' * 40 + d') = nI 0) ∧ (∀ c' d', c' < n → d' < t → d' < 40 → ¬ sEntitle L k c fr to 9 (c' * 40 + d') = nI 1) ∧ zMo (sEntitle L k c fr to) n ∧ ∀ c' d', c' < n → d' < 40 → (c' ≠ c ∨ d' < k ∨ t ≤ d') → zCn (sEntitle L k c fr to) c' d'
  | 0, _ => by
    obtain ⟨hI, hg, hk0, ⟨x1, x2, x3, x4⟩, hm⟩ := h
    refine ⟨fun c' d' k1 k2 => cw_fr (L' := sEntitle L 0 c fr to) (x3 c' d' k1 k2) k1 (Nat.le_refl n) (fun _ _ => rfl) rfl (fun _ => rfl) rfl rfl rfl, x1, x2, mo_same hm rfl rfl rfl rfl, fun c' d' k1 k2 k3 => ?_⟩
    by_cases e : c' = c
    · subst e
      have : t ≤ d' := by omega
      refine cn_01 (L := sEntitle L 0 c' fr to) ?_
      rcases hk0 c' d' k1 this k2 with z | z
      · exact Or.inl z
      · exact Or.inr (Or.inl z)
    · exact cn_fr (L' := sEntitle L 0 c fr to) (x4 c' d' k1 k2) (up2_j (L := L) (i := 4) (v := if to = -1 then -1 else fr) e) (up2_j (L := up2 L 4 c (if to = -1 then -1 else fr)) (i := 5) (v := to) e) rfl
  | k + 1, hk => by
    obtain ⟨a1, a2, a3, a4, a5⟩ := i_ent h hB hB2 hc fr to k (by omega)
    have ht := h.1.2.2.2.1
    have hg := g_entitle h.2.1 h.1 hB hB2 hc fr to k (by omega)
    obtain ⟨b1, b2, b3, b4, b5, b6⟩ := i_settle (t := t) (c := c) (d := k) a1 a2 a3 a4 hg h.1.2.1 hc (by omega)
    refine ⟨b1, b2, b3, b4, fun c' d' k1 k2 k3 => ?_⟩
    by_cases e : c' = c ∧ d' = k
    · obtain ⟨rfl, rfl⟩ := e
      exact b5
    · exact b6 c' d' k1 k2 e (a5 c' d' k1 k2 (by omega))
theorem i_entitle (h : zI B L n t) (hB : 0 ≤ B) (hB2 : B ≤ 900000000) (hc : c < n) (fr to : Int32) : zI (B + 40000) (sEntitle L t c fr to) n t := by
  have ht := h.1.2.2.2.1
  obtain ⟨a1, a2, a3, a4, a5⟩ := i_ent h hB hB2 hc fr to t (Nat.le_refl t)
  exact ⟨sInv_entitle fr to h.1 hc h.1.2.1 t ht, g_mono (g_entitle h.2.1 h.1 hB hB2 hc fr to t ht) (by omega), k0_entitle h.2.2.1 ht c fr to t (Nat.le_refl t), ⟨a2, a3, a1, fun c' d' k1 k2 => a5 c' d' k1 k2 (by omega)⟩, a4⟩
theorem i_come (h : zI B L n t) (hB : 0 ≤ B) (hn : n < 12) {f di : Int32} (hf : sFam f) : zI B (sCome L n f di) (n + 1) t := by
  obtain ⟨hI, hg, hk0, ⟨x1, x2, x3, x4⟩, hm⟩ := h
  refine ⟨sInv_come hI hn hf, g_come hg hB, fun c' d' k1 k2 k3 => ?_, ⟨fun c' d' k1 k2 k3 => x1 c' d' (by omega) k2 k3, fun c' d' k1 k2 k3 => ?_, fun c' d' k1 k2 => ?_, fun c' d' k1 k2 => ?_⟩, ?_⟩
  · by_cases e : c' = n
    · subst e
      exact Or.inl (x1 c' d' (Nat.le_refl _) hn k3)
    · exact hk0 c' d' (by omega) k2 k3
  · by_cases e : c' = n
    · subst e
      show ¬ L 9 (c' * 40 + d') = nI 1
      rw [x1 c' d' (Nat.le_refl _) hn k3]
      decide
    · exact x2 c' d' (by omega) k2 k3
  · by_cases e : c' = n
    · subst e
      exact cw_01 (L := sCome L c' f di) (Or.inl (x1 c' d' (Nat.le_refl _) hn k2))
    · exact cw_fr (L' := sCome L n f di) (x3 c' d' (by omega) k2) (by omega) (Nat.le_succ n) (fun j hj => up2_j (L := L) (i := 1) (show j ≠ n by omega)) (up2_j (L := up2 L 1 n f) (i := 2) e) (fun _ => rfl) rfl rfl rfl
  · by_cases e : c' = n
    · subst e
      exact cn_01 (L := sCome L c' f di) (Or.inl (x1 c' d' (Nat.le_refl _) hn k2))
    · exact cn_fr (L' := sCome L n f di) (x4 c' d' (by omega) k2) (up2_j (L := L) (i := 4) e) (up2_j (L := L) (i := 5) e) rfl
  · have e3 : sCome L n f di 3 = upd (L 3) n (nI 0) := rfl
    have e4 : zs (upd (L 3) n (nI 0)) n = zs (L 3) n := zs_cong fun k hk => upd_ne _ _ (by omega)
    unfold zMo at *
    rw [e3, zs_s, e4, upd_same, show sCome L n f di 0 4 = L 0 4 from rfl, show sCome L n f di 8 = L 8 from rfl, cg_row (L := L) (L' := sCome L n f di) rfl rfl, hm, show nI 0 = 0 from rfl]
    grind
theorem i_menu (h : zI B L n t) (hd : t ≤ d) (v : Int32) : zI B (up2 L 6 d v) n t := by
  obtain ⟨hI, hg, hk0, ⟨x1, x2, x3, x4⟩, hm⟩ := h
  refine ⟨sInv_row hI rfl rfl rfl rfl, g_menu hg d v, k0_row hk0 rfl, ⟨x1, x2, fun c' d' k1 k2 => ?_, x4⟩, mo_same hm rfl rfl rfl rfl⟩
  refine cw_fr (L' := up2 L 6 d v) (x3 c' d' k1 k2) k1 (Nat.le_refl n) (fun _ _ => rfl) rfl (fun z => ?_) rfl rfl rfl
  by_cases e : d' = d
  · subst e
    rcases hk0 c' d' k1 hd k2 with y | y
    · exact absurd (y.symm.trans z) (by decide)
    · exact absurd (y.symm.trans z) (by decide)
  · exact up2_j e
theorem i_ord (h : zI B L n t) (hc : c < n) (ht : t ≤ d) (hd : d < 40) (b : Int32) : zI B (sOrd L (c * 40 + d) b) n t := by
  obtain ⟨hI, hg, hk0, hx, hm⟩ := h
  have hn := hI.2.1
  have e9 : sOrd L (c * 40 + d) b 9 (c * 40 + d) = (if b = 0 then nI 0 else nI 1) := up2_v
  have k9 : ∀ q, q ≠ c * 40 + d → sOrd L (c * 40 + d) b 9 q = L 9 q := fun q hq => up2_j hq
  have e01 : sOrd L (c * 40 + d) b 9 (c * 40 + d) = nI 0 ∨ sOrd L (c * 40 + d) b 9 (c * 40 + d) = nI 1 := by
    rw [e9]
    split
    · exact Or.inl rfl
    · exact Or.inr rfl
  have n2 : ¬ sOrd L (c * 40 + d) b 9 (c * 40 + d) = nI 2 := fun z => by
    rcases e01 with y | y
    · exact absurd (y.symm.trans z) (by decide)
    · exact absurd (y.symm.trans z) (by decide)
  have m2 : ¬ L 9 (c * 40 + d) = nI 2 := fun z => by
    rcases hk0 c d hc ht hd with y | y
    · exact absurd (y.symm.trans z) (by decide)
    · exact absurd (y.symm.trans z) (by decide)
  have e1 := cg_put (L := L) (L' := sOrd L (c * 40 + d) b) (p := c * 40 + d) (by omega) k9 (fun _ _ => rfl)
  rw [if_neg n2, if_neg m2] at e1
  refine ⟨?_, g_ord hg _ b, k0_ord hk0 _ b, x_put (c := c) (d := d) hx hn hc hd rfl rfl rfl rfl rfl k9 (fun _ _ => rfl) (fun _ _ => rfl) (cw_01 (e01.imp id Or.inl)) (cn_01 (e01.imp id Or.inl)) (fun z => absurd z (by omega)), mo_same hm rfl rfl rfl (by rw [e1]; grind)⟩
  unfold sOrd
  split
  · exact sInv_kind hI (by decide)
  · exact sInv_kind hI (by decide)
theorem i_pay (h : zI B L n t) (hB2 : B ≤ 900000000) (hc : c < n) {am : Int32} (ha : -9999 ≤ am.toInt ∧ am.toInt ≤ 9999) : zI (B + 40000) (sPay L c am) n t := by
  obtain ⟨hI, hg, hk0, hx, hm⟩ := h
  have h0 : sInv (up2 L 0 4 (L 0 4 + am)) n t := sInv_num hI (by decide) (by decide)
  refine ⟨sInv_bal h0, g_mono (g_pay hg (by omega) hc ha) (by omega), k0_row hk0 rfl, x_row hx rfl rfl rfl rfl rfl rfl rfl rfl, ?_⟩
  have e3 : sPay L c am 3 = upd (L 3) c (L 3 c + am) := rfl
  unfold zMo at *
  rw [e3, zs_upd hc, show sPay L c am 0 4 = L 0 4 + am from rfl, show sPay L c am 8 = L 8 from rfl, cg_row (L := L) (L' := sPay L c am) rfl rfl, hm]
  grind
theorem i_move (h : zI B L n t) (hB2 : B ≤ 900000000) (hc : c < n) {o : Nat} (ho : o < n) {am : Int32} (ha : -9999 ≤ am.toInt ∧ am.toInt ≤ 9999) : zI (B + 40000) (sMove L c o am) n t := by
  obtain ⟨hI, hg, hk0, hx, hm⟩ := h
  refine ⟨sInv_bal (sInv_bal hI), g_mono (g_move hg (by omega) hc ho ha) (by omega), k0_row hk0 rfl, x_row hx rfl rfl rfl rfl rfl rfl rfl rfl, ?_⟩
  have e3 : sMove L c o am 3 = upd (upd (L 3) o (L 3 o + am)) c (upd (L 3) o (L 3 o + am) c - am) := rfl
  unfold zMo at *
  rw [e3, zs_upd hc, zs_upd ho, show sMove L c o am 0 4 = L 0 4 from rfl, show sMove L c o am 8 = L 8 from rfl, cg_row (L := L) (L' := sMove L c o am) rfl rfl, hm]
  grind
theorem i_share (h : zI B L n t) (f : Nat) (b : Int32) : zI B (sShare L f b) n t := by
  obtain ⟨hI, hg, hk0, hx, hm⟩ := h
  exact ⟨sInv_row hI rfl rfl rfl rfl, g_share hg f b, k0_row hk0 rfl, x_row hx rfl rfl rfl rfl rfl rfl rfl rfl, mo_same hm rfl rfl rfl rfl⟩
theorem off_sum (L : zL) (f : Int32) {n : Nat} : ∀ k, k ≤ n → zs ((sOff L f k) 3) n = zs (L 3) n + sDebt L k f ∧ ∀ i, k ≤ i → (sOff L f k) 3 i = L 3 i
  | 0, _ => ⟨by show zs (L 3) n = zs (L 3) n + nI 0; rw [show nI 0 = 0 from rfl]; grind, fun _ _ => rfl⟩
  | k + 1, hk => by
    obtain ⟨a1, a2⟩ := off_sum L f (n := n) k (by omega)
    have e1 : (sOff L f k) 1 = L 1 := off_r L f 1 (by decide) k
    have es : sOff L f (k + 1) = if (sOff L f k) 1 k = f ∧ (sOff L f k) 3 k < 0 then up2 (sOff L f k) 3 k (nI 0) else sOff L f k := rfl
    have ed : sDebt L (k + 1) f = sDebt L k f + (if L 1 k = f ∧ L 3 k < 0 then -(L 3 k) else nI 0) := rfl
    rw [e1, a2 k (Nat.le_refl k)] at es
    rw [es, ed]
    by_cases w : L 1 k = f ∧ L 3 k < 0
    · rw [if_pos w, if_pos w]
      refine ⟨?_, fun i hi => (up2_j (show i ≠ k by omega)).trans (a2 i (by omega))⟩
      have e3 : up2 (sOff L f k) 3 k (nI 0) 3 = upd ((sOff L f k) 3) k (nI 0) := rfl
      rw [e3, zs_upd (by omega), a1, a2 k (Nat.le_refl k), show nI 0 = 0 from rfl]
      grind
    · rw [if_neg w, if_neg w]
      refine ⟨?_, fun i hi => a2 i (by omega)⟩
      rw [a1, show nI 0 = 0 from rfl]
      grind
theorem i_write (h : zI B L n t) (hB : 0 ≤ B) {f : Nat} (hf : f < 5) : zI B (sWrite L n f) n t := by
  obtain ⟨hI, hg, hk0, hx, hm⟩ := h
  have r : ∀ j, j ≠ 3 → j ≠ 8 → sWrite L n f j = L j := fun j h3 h8 => (up2_ne _ _ _ h8).trans (off_r L (nI f) j h3 n)
  have hI2 : sInv (sWrite L n f) n t := sInv_row (sInv_off (nI f) hI n) rfl rfl rfl rfl
  refine ⟨hI2, g_write hg hB f, k0_row hk0 (r 9 (by decide) (by decide)), x_row hx (r 1 (by decide) (by decide)) (r 2 (by decide) (by decide)) (r 4 (by decide) (by decide)) (r 5 (by decide) (by decide)) (r 6 (by decide) (by decide)) (r 9 (by decide) (by decide)) (r 10 (by decide) (by decide)) (r 11 (by decide) (by decide)), ?_⟩
  have e3 : sWrite L n f 3 = (sOff L (nI f) n) 3 := rfl
  have e8 : sWrite L n f 8 = upd (L 8) f (L 8 f + sDebt L n (nI f)) := by
    show upd ((sOff L (nI f) n) 8) f ((sOff L (nI f) n) 8 f + sDebt L n (nI f)) = _
    rw [off_r L (nI f) 8 (by decide) n]
  unfold zMo at *
  rw [e3, e8, (off_sum L (nI f) n (Nat.le_refl n)).1, zs_upd hf, r 0 (by decide) (by decide), cg_row (L := L) (L' := sWrite L n f) (r 9 (by decide) (by decide)) (r 10 (by decide) (by decide)), hm]
  grind
theorem i_set (h : zI B L n t) {w v : Int32} (hv : sfSet w v = 0) : zI B (sSet L w v) n t := by
  obtain ⟨hI, hg, hk0, hx, hm⟩ := h
  refine ⟨?_, g_set hg hv, ?_, ?_, ?_⟩
  · unfold sSet
    split
    · exact sInv_num hI (by decide) (by decide)
    · exact sInv_num hI (by decide) (by decide)
  · unfold sSet
    split
    · exact k0_row hk0 rfl
    · exact k0_row hk0 rfl
  · unfold sSet
    split
    · exact x_row hx rfl rfl rfl rfl rfl rfl rfl rfl
    · exact x_row hx rfl rfl rfl rfl rfl rfl rfl rfl
  · unfold sSet
    split
    · exact mo_same hm rfl rfl rfl rfl
    · exact mo_same hm rfl rfl rfl rfl
theorem i_new (L : zL) (h0 : ∀ j, j < 5 → L 0 j = if j = 2 then nI 250 else if j = 3 then nI 500 else nI 0) (h8 : ∀ j, L 8 j = nI 0) (h9 : ∀ p, L 9 p = nI 0) : zI 9999 L 0 0 := by
  refine ⟨⟨h0 1 (by decide), by decide, h0 0 (by decide), by decide, fun c hc => absurd hc (Nat.not_lt_zero c), fun p _ z => absurd ((h9 p).symm.trans z) (by decide)⟩, ⟨⟨⟨250, by decide, by decide, h0 2 (by decide)⟩, ⟨500, by decide, h0 3 (by decide)⟩⟩, fun c hc => absurd hc (Nat.not_lt_zero c), fun p _ => ⟨0, by decide, h9 p⟩, fun p _ z => absurd ((h9 p).symm.trans z) (by decide)⟩, fun c d hc => absurd hc (Nat.not_lt_zero c), ⟨fun c d _ _ _ => h9 _, fun c d hc => absurd hc (Nat.not_lt_zero c), fun c d hc => absurd hc (Nat.not_lt_zero c), fun c d hc => absurd hc (Nat.not_lt_zero c)⟩, ?_⟩
  have e8 : zs (L 8) 5 = nI 0 := zs_zero fun k _ => h8 k
  have ec : zCg L = nI 0 := zs_zero fun k _ => if_neg (by rw [h9 k]; decide)
  unfold zMo
  rw [e8, ec, h0 4 (by decide)]
  rfl
theorem i_clear (L : zL) : zI 9999 (sClear L) 0 0 := i_new (sClear L) (fun j hj => by rcases (show j = 0 ∨ j = 1 ∨ j = 2 ∨ j = 3 ∨ j = 4 by omega) with rfl | rfl | rfl | rfl | rfl <;> rfl) (fun _ => rfl) (fun _ => rfl)
theorem i_zL0 : zI 9999 zL0 0 0 := i_new zL0 (fun j hj => by rcases (show j = 0 ∨ j = 1 ∨ j = 2 ∨ j = 3 ∨ j = 4 by omega) with rfl | rfl | rfl | rfl | rfl <;> rfl) (fun _ => rfl) (fun _ => rfl)
/-- some numbers of children and days go with it -/
def gE (B : Int) (L : zL) : Prop := ∃ n t, zI B L n t
theorem gE_mono {B2 : Int} (h : gE B L) (hb : B ≤ B2) : gE B2 L := h.imp fun _ h => h.imp fun _ h => i_mono h hb
theorem gE_at (h : gE B L) : zI B L (zN L) (zT L) := by
  obtain ⟨n, t, h⟩ := h
  rw [sInv_N h.1, sInv_T h.1]
  exact h
theorem e_come (h : zI B L n t) (hB : 0 ≤ B) {f di : Int32} (hz : sfCome n f di = 0) : gE B (sCome L n f di) := by
  obtain ⟨h1, h2, _⟩ := sfCome_0 hz
  exact ⟨n + 1, t, i_come h hB h1 h2⟩
theorem e_menu (h : zI B L n t) {d mn : Int32} (hz : sfMenu t d mn = 0) : gE B (up2 L 6 d.toNatClampNeg mn) := by
  obtain ⟨h1, _, _, h4⟩ := sfMenu_0 hz
  obtain ⟨k, hk, rfl⟩ := sDay_nat h1
  rw [nI_clamp (by omega)]
  exact ⟨n, t, i_menu h (zk_nlt (by omega) (by have := h.1.2.2.2.1; omega) h4) mn⟩
theorem e_order (h : zI B L n t) {c d : Int32} (b : Int32) (hz : sfOrder L t c d = 0) : gE B (sOrd L (c.toNatClampNeg * 40 + d.toNatClampNeg) b) := by
  obtain ⟨h1, h2, h4⟩ := sfOrder_0 hz
  obtain ⟨k, hk, rfl⟩ := sDay_nat h2
  obtain ⟨j, hj, rfl⟩ := sHas_nat h.1 h1
  have hn := h.1.2.1
  rw [nI_clamp (show k < 2 ^ 31 by omega), nI_clamp (show j < 2 ^ 31 by omega)]
  exact ⟨n, t, i_ord h hj (zk_nlt (by omega) (by have := h.1.2.2.2.1; omega) h4) hk b⟩
theorem sfPay_b {c am : Int32} (hz : sfPay L c am = 0) : sHas L c ∧ -9999 ≤ am.toInt ∧ am.toInt ≤ 9999 := by
  have h1 := sfPay_0 hz
  unfold sfPay at hz
  rw [if_neg (fun z => z h1)] at hz
  by_cases w : am = 0 ∨ am < -9999 ∨ nI 9999 < am
  · rw [if_pos w] at hz
    exact absurd hz (by decide)
  · exact ⟨h1, am_b (fun z => w (Or.inr (Or.inl z))) (fun z => w (Or.inr (Or.inr z)))⟩
theorem sfMove_b {c o am : Int32} (hz : sfMove L c o am = 0) : sHas L c ∧ sHas L o ∧ -9999 ≤ am.toInt ∧ am.toInt ≤ 9999 := by
  obtain ⟨h1, h2⟩ := sfMove_0 hz
  unfold sfMove at hz
  rw [if_neg (fun z => z.elim (fun z => z h1) (fun z => z h2))] at hz
  by_cases w : am < nI 1 ∨ nI 9999 < am
  · rw [if_pos w] at hz
    exact absurd hz (by decide)
  · refine ⟨h1, h2, am_b (fun z => w (Or.inl (Int32.lt_trans z (by decide)))) (fun z => w (Or.inr z))⟩
theorem e_pay (h : zI B L n t) (hB2 : B ≤ 900000000) {c am : Int32} (hz : sfPay L c am = 0) : gE (B + 40000) (sPay L c.toNatClampNeg am) := by
  obtain ⟨h1, ha⟩ := sfPay_b hz
  obtain ⟨j, hj, rfl⟩ := sHas_nat h.1 h1
  have hn := h.1.2.1
  rw [nI_clamp (show j < 2 ^ 31 by omega)]
  exact ⟨n, t, i_pay h hB2 hj ha⟩
theorem e_move (h : zI B L n t) (hB2 : B ≤ 900000000) {c o am : Int32} (hz : sfMove L c o am = 0) : gE (B + 40000) (sMove L c.toNatClampNeg o.toNatClampNeg am) := by
  obtain ⟨h1, h2, ha⟩ := sfMove_b hz
  obtain ⟨j, hj, rfl⟩ := sHas_nat h.1 h1
  obtain ⟨k, hk, rfl⟩ := sHas_nat h.1 h2
  have hn := h.1.2.1
  rw [nI_clamp (show j < 2 ^ 31 by omega), nI_clamp (show k < 2 ^ 31 by omega)]
  exact ⟨n, t, i_move h hB2 hj hk ha⟩
theorem e_share (h : zI B L n t) (f : Nat) (b : Int32) : gE B (sShare L f b) := ⟨n, t, i_share h f b⟩
theorem e_ent (h : zI B L n t) (hB : 0 ≤ B) (hB2 : B ≤ 900000000) {c fr to : Int32} (hz : sfEnt L c fr to = 0) : gE (B + 40000) (sEntitle L t c.toNatClampNeg fr to) := by
  obtain ⟨h1, _⟩ := sfEnt_0 hz
  obtain ⟨j, hj, rfl⟩ := sHas_nat h.1 h1
  have hn := h.1.2.1
  rw [nI_clamp (show j < 2 ^ 31 by omega)]
  exact ⟨n, t, i_entitle h hB hB2 hj fr to⟩
theorem e_off (h : zI B L n t) (hB : 0 ≤ B) {f : Int32} (hz : sfOff L n f = 0) : gE B (sWrite L n f.toNatClampNeg) := by
  obtain ⟨h1, _⟩ := sfOff_0 hz
  obtain ⟨j, hj, rfl⟩ := sFam_nat h1
  rw [nI_clamp (show j < 2 ^ 31 by omega)]
  exact ⟨n, t, i_write h hB hj⟩
theorem e_days (h : zI B L n t) (hB : 9999 ≤ B) (hB2 : B ≤ 1000000000) {k : Int32} (hz : sfDays t k = 0) : gE B (sDays n t k.toNatClampNeg L).2 := by
  obtain ⟨j, rfl, _, hj⟩ := sfDays_0 h.1.2.2.2.1 hz
  rw [nI_clamp (show j < 2 ^ 31 by omega)]
  exact ⟨n, t + j, i_days h hB hB2 j hj⟩
theorem e_set (h : zI B L n t) {w v : Int32} (hz : sfSet w v = 0) : gE B (sSet L w v) := ⟨n, t, i_set h hz⟩
theorem e_if {F : Int32} {B2 : Int} (h : zI B L n t) (hb : B ≤ B2) (h2 : F = 0 → gE B2 L') : gE B2 (tyIf F L L').2 := by
  show gE B2 (if F = 0 then L' else L)
  by_cases w : F = 0
  · rw [if_pos w]
    exact h2 w
  · rw [if_neg w]
    exact gE_mono ⟨n, t, h⟩ hb
theorem e_text (h : zI B L n t) (hB : 9999 ≤ B) (hB2 : B ≤ 100000000) (k a b c : Int32) : gE (B + 40000) (cText L n t k a b c).2 := by
  have hb : B ≤ B + 40000 := by omega
  have m : gE B L → gE (B + 40000) L := fun z => gE_mono z hb
  unfold cText
  by_cases w1 : k = nI 99
  · rw [if_pos w1]
    exact e_if h hb (fun z => gE_mono (e_come h (by omega) z) hb)
  rw [if_neg w1]
  by_cases w2 : k = nI 109
  · rw [if_pos w2]
    exact e_if h hb (fun z => gE_mono (e_menu h z) hb)
  rw [if_neg w2]
  by_cases w3 : k = nI 111
  · rw [if_pos w3]
    exact e_if h hb (fun z => gE_mono (e_order h _ z) hb)
  rw [if_neg w3]
  by_cases w4 : k = nI 112
  · rw [if_pos w4]
    exact e_if h hb (fun z => e_pay h (by omega) z)
  rw [if_neg w4]
  by_cases w5 : k = nI 101
  · rw [if_pos w5]
    exact e_if h hb (fun z => e_ent h (by omega) (by omega) z)
  rw [if_neg w5]
  by_cases w6 : k = nI 104
  · rw [if_pos w6]
    show gE (B + 40000) (if sFam a then sShare L a.toNatClampNeg (if L 7 a.toNatClampNeg = 0 then nI 1 else nI 0) else L)
    by_cases w : sFam a
    · rw [if_pos w]
      exact gE_mono (e_share h _ _) hb
    · rw [if_neg w]
      exact m ⟨n, t, h⟩
  rw [if_neg w6]
  by_cases w7 : k = nI 100
  · rw [if_pos w7]
    exact e_if h hb (fun z => gE_mono (e_days h hB (by omega) z) hb)
  rw [if_neg w7]
  exact m ⟨n, t, h⟩
theorem e_load (T L : zL) (n : Nat) : ∀ k : Nat, k ≤ 120 → gE (9999 + 40000 * (k : Int)) (lRun T L n k).2.2
  | 0, _ => ⟨0, 0, i_clear L⟩
  | k + 1, hk => by
    have ih := e_load T L n k (by omega)
    have hb : 9999 + 40000 * (k : Int) + 40000 = 9999 + 40000 * ((k + 1 : Nat) : Int) := by omega
    have h2 := e_text (gE_at ih) (by omega) (by omega)
    rw [← hb]
    show gE (9999 + 40000 * (k : Int) + 40000) (lStep n (lRun T L n k)).2.2
    revert ih h2
    generalize lRun T L n k = x
    intro ih h2
    unfold lStep
    by_cases w : x.2.1.2.1 < n
    · rw [if_pos w]
      by_cases w2 : (tRd x.2.1.2.2 n x.2.1.2.1).1 = true
      · rw [if_pos w2]
        exact h2 _ _ _ _
      · rw [if_neg w2]
        exact gE_mono ih (by omega)
    · rw [if_neg w]
      exact gE_mono ih (by omega)
end ZI2
