/-! Entitlement, days that go by, and undone: what the law asks of them; the cores that calls leave. -/
theorem yup_same (S : Nat → zL) (k : Nat) (x : zL) : va_up S k x k = x := if_pos rfl
theorem yup_ne (S : Nat → zL) {k j : Nat} (x : zL) (h : j ≠ k) : va_up S k x j = S j := if_neg h
/-- an action and its undoing -/
def kU (κ : zCo) : zCo := (kH κ, kTn κ, kL κ, kV κ, kB κ, (hRem (kO κ) (kC κ) (kS κ) (kL κ)).2.2, (hRem (kO κ) (kC κ) (kS κ) (kL κ)).1, (hRem (kO κ) (kC κ) (kS κ) (kL κ)).2.1 - 1)
theorem hRem_14 {o c : Nat} {S : Nat → zL} {L : zL} (h : c = 14) : hRem o c S L = ((o + 1) % 14, 14, va_up S (((o + 1) % 14 + 13) % 14) L) := if_pos h
theorem hRem_n {o c : Nat} {S : Nat → zL} {L : zL} (h : ¬ c = 14) : hRem o c S L = (o, c + 1, va_up S ((o + c) % 14) L) := if_neg h
theorem hRem_ok {o c : Nat} {S : Nat → zL} {L : zL} (ho : o < 14) (hc : c ≤ 14) : (hRem o c S L).1 < 14 ∧ (hRem o c S L).2.1 ≤ 14 ∧ 1 ≤ (hRem o c S L).2.1 ∧ (hRem o c S L).2.2 (((hRem o c S L).1 + ((hRem o c S L).2.1 - 1)) % 14) = L := by
  by_cases w : c = 14
  · rw [hRem_14 w]
    exact ⟨Nat.mod_lt _ (by decide), Nat.le_refl _, by show 1 ≤ 14; decide, yup_same _ _ _⟩
  · rw [hRem_n w]
    exact ⟨ho, by show c + 1 ≤ 14; omega, Nat.le_add_left _ _, by show va_up S ((o + c) % 14) L ((o + (c + 1 - 1)) % 14) = L; rw [show c + 1 - 1 = c by omega]; exact yup_same _ _ _⟩
section HP2
variable {L : zL} {n t : Nat} {B : Int} {κ : zCo}
theorem undo_rm (hk : kOk κ) (L' : zL) : ∃ m, m < 14 ∧ fUndo (kRm κ L') = (nI m, kU κ) := by
  obtain ⟨h1, h2, h3, h4⟩ := hRem_ok (S := kS κ) (L := kL κ) hk.2.1 hk.2.2
  refine ⟨(hRem (kO κ) (kC κ) (kS κ) (kL κ)).2.1 - 1, by omega, ?_⟩
  unfold fUndo
  rw [if_neg (show ¬ kC (kRm κ L') = 0 from fun z => by have z : (hRem (kO κ) (kC κ) (kS κ) (kL κ)).2.1 = 0 := z; omega)]
  show (nI ((hRem (kO κ) (kC κ) (kS κ) (kL κ)).2.1 - 1), (kH κ, kTn κ, (hRem (kO κ) (kC κ) (kS κ) (kL κ)).2.2 (((hRem (kO κ) (kC κ) (kS κ) (kL κ)).1 + ((hRem (kO κ) (kC κ) (kS κ) (kL κ)).2.1 - 1)) % 14), kV κ, kB κ, (hRem (kO κ) (kC κ) (kS κ) (kL κ)).2.2, (hRem (kO κ) (kC κ) (kS κ) (kL κ)).1, (hRem (kO κ) (kC κ) (kS κ) (kL κ)).2.1 - 1)) = _
  rw [h4]
  rfl
theorem kOk_U (hk : kOk κ) : kOk (kU κ) := by
  obtain ⟨h1, h2, h3, h4⟩ := hRem_ok (S := kS κ) (L := kL κ) hk.2.1 hk.2.2
  exact ⟨hk.1, h1, by show (hRem (kO κ) (kC κ) (kS κ) (kL κ)).2.1 - 1 ≤ 14; omega⟩
theorem kOk_rm (hk : kOk κ) {L' : zL} (h : zI B L' n t) : kOk (kRm κ L') := by
  obtain ⟨h1, h2, h3, h4⟩ := hRem_ok (S := kS κ) (L := kL κ) hk.2.1 hk.2.2
  exact ⟨sInv_at h.1, h1, h2⟩
/-- what calls leave is fit for more -/
def kI (B : Int) (κ : zCo) : Prop := gE B (kL κ) ∧ kO κ < 14 ∧ kC κ ≤ 14 ∧ (∀ j, j < kC κ → gE B (kS κ ((kO κ + j) % 14))) ∧ ∀ j, j < 2 → kV κ j = nI 0 ∨ gE B (kB κ j)
theorem kI_ok (h : kI B κ) : kOk κ := ⟨(gE_at h.1).1, h.2.1, h.2.2.1⟩
theorem kI_mono {B2 : Int} (h : kI B κ) (hb : B ≤ B2) : kI B2 κ := ⟨gE_mono h.1 hb, h.2.1, h.2.2.1, fun j hj => gE_mono (h.2.2.2.1 j hj) hb, fun j hj => (h.2.2.2.2 j hj).imp id (fun z => gE_mono z hb)⟩
theorem hist_in {o c : Nat} {S : Nat → zL} (hL : gE B L) (ho : o < 14) (hc : c ≤ 14) (h : ∀ j, j < c → gE B (S ((o + j) % 14))) : ∀ j, j < (hRem o c S L).2.1 → gE B ((hRem o c S L).2.2 (((hRem o c S L).1 + j) % 14)) := by
  intro j hj
  by_cases w : c = 14
  · rw [hRem_14 w] at hj ⊢
    have hj : j < 14 := hj
    show gE B (va_up S (((o + 1) % 14 + 13) % 14) L (((o + 1) % 14 + j) % 14))
    by_cases e : ((o + 1) % 14 + j) % 14 = ((o + 1) % 14 + 13) % 14
    · rw [e, yup_same]
      exact hL
    · rw [yup_ne _ _ e, show ((o + 1) % 14 + j) % 14 = (o + (j + 1)) % 14 by omega]
      exact h (j + 1) (by omega)
  · rw [hRem_n w] at hj ⊢
    have hj : j < c + 1 := hj
    show gE B (va_up S ((o + c) % 14) L ((o + j) % 14))
    by_cases e : (o + j) % 14 = (o + c) % 14
    · rw [e, yup_same]
      exact hL
    · rw [yup_ne _ _ e]
      refine h j ?_
      have : j ≠ c := fun z => e (by rw [z])
      omega
theorem kI_rm (h : kI B κ) {L' : zL} {B2 : Int} (hb : B ≤ B2) (h2 : gE B2 L') : kI B2 (kRm κ L') := by
  obtain ⟨a1, a2, a3, a4⟩ := hRem_ok (S := kS κ) (L := kL κ) h.2.1 h.2.2.1
  exact ⟨h2, a1, a2, hist_in (gE_mono h.1 hb) h.2.1 h.2.2.1 (fun j hj => gE_mono (h.2.2.2.1 j hj) hb), fun j hj => (h.2.2.2.2 j hj).imp id (fun z => gE_mono z hb)⟩
theorem kI_U (h : kI B κ) : kI B (kU κ) := by
  obtain ⟨a1, a2, a3, a4⟩ := hRem_ok (S := kS κ) (L := kL κ) h.2.1 h.2.2.1
  refine ⟨h.1, a1, by show (hRem (kO κ) (kC κ) (kS κ) (kL κ)).2.1 - 1 ≤ 14; omega, fun j hj => ?_, h.2.2.2.2⟩
  have hj : j < (hRem (kO κ) (kC κ) (kS κ) (kL κ)).2.1 - 1 := hj
  exact hist_in h.1 h.2.1 h.2.2.1 h.2.2.2.1 j (by omega)
theorem kI_act (h : kI B κ) {F r : Int32} {L' : zL} {B2 : Int} (hb : B ≤ B2) (h2 : F = 0 → gE B2 L') (hF : zFl F) : kI B2 (fAct F r L' κ).2 := by
  rcases hF with e | e | e | e
  · rw [fAct_0 e]
    exact kI_rm h hb (h2 e)
  · rw [fAct_1 e]
    exact kI_mono h hb
  · rw [fAct_2 e]
    exact kI_mono h hb
  · rw [fAct_3 e]
    exact kI_mono h hb
-- entitlement, told and done
theorem hp_ent {c fr to : Int32} (hz : sfEnt (kL κ) c fr to = 0) : fEntitle c fr to κ = (fIfEnt (kL κ) c fr to, kRm κ (sEntitle (kL κ) (zT (kL κ)) c.toNatClampNeg fr to)) := by
  have e : fIfEnt (kL κ) c fr to = zs (sEntitle (kL κ) (zT (kL κ)) c.toNatClampNeg fr to 3) (zN (kL κ)) - zs (kL κ 3) (zN (kL κ)) := by
    unfold fIfEnt
    rw [hz]
    rfl
  rw [e]
  exact fAct_0 hz
theorem hp_ent11 (h : zI B L n t) (hB : 0 ≤ B) (hB2 : B ≤ 900000000) {c : Nat} (hc : c < n) (fr to : Int32) (hz : sfEnt L (nI c) fr to = 0) : fAbout (sEntitle L (zT L) (nI c).toNatClampNeg fr to) (nI 11) = fAbout L (nI 11) + fIfEnt L (nI c) fr to := by
  have hn := h.1.2.1
  have e : fIfEnt L (nI c) fr to = zs (sEntitle L (zT L) (nI c).toNatClampNeg fr to 3) (zN L) - zs (L 3) (zN L) := by
    unfold fIfEnt
    rw [hz]
    rfl
  have h2 := i_entitle h hB hB2 hc fr to
  rw [e, nI_clamp (show c < 2 ^ 31 by omega), sInv_T h.1, hb_11 h2.1, hb_11 h.1, sInv_N h.1]
  grind
def srvp (L : zL) (p : Nat) : Int32 := (if L 9 p = nI 2 then nI 1 else nI 0) + (if L 9 p = nI 3 then nI 1 else nI 0)
theorem mSrv_p (L : zL) : mSrv L = zs (srvp L) 480 := (zs_add _ _ 480).symm
theorem settle_p (c d q : Nat) : srvp (sSettle L c d) q = srvp L q := by
  by_cases e : q = c * 40 + d
  · subst e
    unfold sSettle
    by_cases w : L 9 (c * 40 + d) = nI 2 ∧ sEnt L c d
    · rw [if_pos w]
      have e9 : up2 (up2 L 3 (L 11 (c * 40 + d)).toNatClampNeg (L 3 (L 11 (c * 40 + d)).toNatClampNeg + L 10 (c * 40 + d))) 9 (c * 40 + d) (nI 3) 9 (c * 40 + d) = nI 3 := up2_v
      unfold srvp
      rw [e9, w.1]
      rfl
    · rw [if_neg w]
      by_cases w3 : L 9 (c * 40 + d) = nI 3 ∧ ¬ sEnt L c d
      · rw [if_pos w3]
        unfold srvp
        rw [ch_9, w3.1]
        rfl
      · rw [if_neg w3]
  · unfold sSettle
    by_cases w : L 9 (c * 40 + d) = nI 2 ∧ sEnt L c d
    · rw [if_pos w]
      unfold srvp
      rw [show up2 (up2 L 3 (L 11 (c * 40 + d)).toNatClampNeg (L 3 (L 11 (c * 40 + d)).toNatClampNeg + L 10 (c * 40 + d))) 9 (c * 40 + d) (nI 3) 9 q = L 9 q from up2_j (L := up2 L 3 (L 11 (c * 40 + d)).toNatClampNeg (L 3 (L 11 (c * 40 + d)).toNatClampNeg + L 10 (c * 40 + d))) (i := 9) (v := nI 3) e]
    · rw [if_neg w]
      by_cases w3 : L 9 (c * 40 + d) = nI 3 ∧ ¬ sEnt L c d
      · rw [if_pos w3]
        unfold srvp
        rw [ch_9n e]
      · rw [if_neg w3]
theorem ent_p (c : Nat) (fr to : Int32) (q : Nat) : ∀ k, srvp (sEntitle L k c fr to) q = srvp L q
  | 0 => rfl
  | k + 1 => (settle_p (L := sEntitle L k c fr to) c k q).trans (ent_p c fr to q k)
theorem hp_ent3 (h : zI B L n t) (hB : 0 ≤ B) (hB2 : B ≤ 900000000) {c : Nat} (hc : c < n) (fr to : Int32) : fAbout (sEntitle L (zT L) (nI c).toNatClampNeg fr to) (nI 3) = fAbout L (nI 3) := by
  have hn := h.1.2.1
  have h2 := i_entitle h hB hB2 hc fr to
  rw [nI_clamp (show c < 2 ^ 31 by omega), sInv_T h.1, hb_3 h2.1, hb_3 h.1, mSrv_p, mSrv_p]
  exact zs_cong fun q _ => ent_p c fr to q t
-- days that go by
theorem serve_srv {c d : Nat} (hc : c < 12) (hd : d < 40) (h1 : L 9 (c * 40 + d) = nI 1) : mSrv (sServe L n c d).2 = mSrv L + (sServe L n c d).1 := by
  obtain ⟨x, hx, hk⟩ := sServe_k L n c d
  rw [mSrv_p, mSrv_p, zs_chg (f := srvp L) (g := srvp (sServe L n c d).2) (p := c * 40 + d) (by omega) (fun q _ hq => by unfold srvp; rw [hx, upd_ne _ _ hq])]
  have e1 : srvp (sServe L n c d).2 (c * 40 + d) = (sServe L n c d).1 := by
    unfold srvp
    rw [hx, upd_same]
    rcases hk with ⟨rfl | rfl, e⟩ | ⟨rfl | rfl, e⟩ <;> rw [e] <;> rfl
  have e2 : srvp L (c * 40 + d) = nI 0 := by
    unfold srvp
    rw [h1]
    rfl
  rw [e1, e2, show nI 0 = 0 from rfl]
  grind
theorem dayC_srv {x : Int32 × zL} {c d : Nat} (hc : c < 12) (hd : d < 40) : mSrv (sDayC n d c x).2 = mSrv x.2 + ((sDayC n d c x).1 - x.1) := by
  unfold sDayC
  by_cases w : x.2 9 (c * 40 + d) = nI 1
  · rw [if_pos w, serve_srv hc hd w]
    grind
  · rw [if_neg w]
    grind
theorem day_srv {x : Int32 × zL} {d : Nat} (hd : d < 40) : ∀ k, k ≤ 12 → mSrv (zfold (sDayC n d) k x).2 = mSrv x.2 + ((zfold (sDayC n d) k x).1 - x.1)
  | 0, _ => by
    show mSrv x.2 = mSrv x.2 + (x.1 - x.1)
    grind
  | k + 1, hk => by
    rw [zfold_s, dayC_srv (by omega) hd, day_srv hd k (by omega)]
    grind
theorem days_srv (hn : n ≤ 12) : ∀ k, t + k ≤ 40 → mSrv (sDays n t k L).2 = mSrv L + (sDays n t k L).1
  | 0, _ => by
    show mSrv L = mSrv L + nI 0
    rw [show nI 0 = 0 from rfl]
    grind
  | k + 1, hk => by
    have ih := days_srv hn k (by omega)
    have e : mSrv (sDays n t (k + 1) L).2 = mSrv (zfold (sDayC n (t + k)) n (sDays n t k L)).2 := rfl
    have e2 : (sDays n t (k + 1) L).1 = (zfold (sDayC n (t + k)) n (sDays n t k L)).1 := rfl
    rw [e, e2, day_srv (by omega) n hn, ih]
    grind
theorem sfDays_all (ht : t < 40) : sfDays t (nI (40 - t)) = 0 := (if_neg (fun z => z.elim (nnlt (by omega) (by omega)) (nnlt (by omega) (by decide)))).trans (if_neg (nnlt (Nat.le_refl _) (by omega)))
theorem hp_days (hI : sInv (kL κ) n t) (ht : t < 40) : fDays (nI (40 - t)) κ = ((sDays n t (40 - t) (kL κ)).1, kRm κ (sDays n t (40 - t) (kL κ)).2) := by
  have e : fDays (nI (40 - t)) κ = fAct (sfDays (zT (kL κ)) (nI (40 - t))) (sDays (zN (kL κ)) (zT (kL κ)) (nI (40 - t)).toNatClampNeg (kL κ)).1 (sDays (zN (kL κ)) (zT (kL κ)) (nI (40 - t)).toNatClampNeg (kL κ)).2 κ := rfl
  rw [e, sInv_N hI, sInv_T hI, nI_clamp (show 40 - t < 2 ^ 31 by omega)]
  exact fAct_0 (sfDays_all ht)
theorem hp_price (h : zI B L n t) : fIfPrice L (fSetting L (nI 0)) = (sDays n t (40 - t) L).1 := by
  obtain ⟨p, p1, p2, ep⟩ := h.2.1.1.1
  have e : fSetting L (nI 0) = L 0 2 := (zIf_t (nIn_yes (by decide))).trans (xSetting_0 rfl)
  rw [e]
  unfold fIfPrice
  rw [zIf_t ⟨by rw [ep]; exact nnlt (by omega) (by omega), by rw [ep]; exact nnlt (by omega) (by decide)⟩, up2_self rfl, sInv_N h.1, sInv_T h.1]
theorem hp_days3 (h : zI B L n t) (hB : 9999 ≤ B) (hB2 : B ≤ 1000000000) : fAbout (sDays n t (40 - t) L).2 (nI 3) = fAbout L (nI 3) + (sDays n t (40 - t) L).1 := by
  have ht := h.1.2.2.2.1
  have h2 := i_days h hB hB2 (40 - t) (by omega)
  rw [hb_3 h2.1, hb_3 h.1, days_srv h.1.2.1 (40 - t) (by omega)]
theorem hp_days2 (h : zI B L n t) (hB : 9999 ≤ B) (hB2 : B ≤ 1000000000) : fAbout (sDays n t (40 - t) L).2 (nI 2) = 0 := by
  have ht := h.1.2.2.2.1
  have h2 := i_days h hB hB2 (40 - t) (by omega)
  rw [show t + (40 - t) = 40 by omega] at h2
  rw [hb_2 h2.1]
  refine zs_zero fun i hi => if_neg (fun e => ?_)
  have hei : i = i / 40 * 40 + i % 40 := by omega
  by_cases w : i / 40 < n
  · refine h2.2.2.2.1.2.1 (i / 40) (i % 40) w (Nat.mod_lt _ (by decide)) (Nat.mod_lt _ (by decide)) ?_
    rw [← hei]
    exact e
  · have := h2.2.2.2.1.1 (i / 40) (i % 40) (by omega) (by omega) (Nat.mod_lt _ (by decide))
    rw [← hei] at this
    exact absurd (this.symm.trans e) (by decide)
theorem ns_lt {f g : Nat → Nat} {j : Nat} : ∀ {m : Nat}, (∀ k, k < m → f k ≤ g k) → j < m → f j < g j → ns f m < ns g m
  | 0, _, h, _ => absurd h (Nat.not_lt_zero j)
  | m + 1, h, hj, hl => by
    show ns f m + f m < ns g m + g m
    by_cases e : j = m
    · subst e
      have := ns_mono (m := j) (fun k hk => h k (by omega))
      omega
    · have := ns_lt (m := m) (fun k hk => h k (by omega)) (by omega) hl
      have := h m (by omega)
      omega
theorem ns_ge {f : Nat → Nat} {j : Nat} : ∀ {m : Nat}, j < m → f j ≤ ns f m
  | 0, h => absurd h (Nat.not_lt_zero j)
  | m + 1, hj => by
    show f j ≤ ns f m + f m
    by_cases e : j = m
    · subst e
      omega
    · have := ns_ge (f := f) (m := m) (show j < m by omega)
      omega
/-- the first refusal that is told comes -/
theorem hp_refused (h : zI B L n t) (hB : 9999 ≤ B) (hB2 : B ≤ 1000000000) {c : Nat} (hc : c < n) :
    (fRefused L (nI c) = -1 ∧ fChild (sDays n t (40 - t) L).2 (nI c) (nI 8) = fChild L (nI c) (nI 8)) ∨
    (∃ d, d < 40 ∧ fRefused L (nI c) = nI d ∧ fMeal (sDays n t (40 - t) L).2 (nI c) (nI d) (nI 0) = nI 4 ∧ fChild L (nI c) (nI 8) < fChild (sDays n t (40 - t) L).2 (nI c) (nI 8)) := by
  have ht := h.1.2.2.2.1
  have hn := h.1.2.1
  have h2 := i_days h hB hB2 (40 - t) (by omega)
  have er : fRefused L (nI c) = sOpt (sSp L n t (L 1 c) (nI c) 40).1 := by
    unfold fRefused
    rw [zIf_t (nH_yes h.1 hc), sInv_N h.1, sInv_T h.1, nI_clamp (show c < 2 ^ 31 by omega)]
  rw [er, hc_8 h2.1 hc, hc_8 h.1 hc]
  have old : ∀ e, e < t → (sDays n t (40 - t) L).2 9 (c * 40 + e) = L 9 (c * 40 + e) := fun e he => days_old L n t he ht (40 - t) (by omega)
  have new : ∀ e, t ≤ e → e < 40 → ¬ L 9 (c * 40 + e) = nI 4 := fun e h1 h40 z => by
    rcases h.2.2.1 c e hc h1 h40 with y | y
    · exact absurd (y.symm.trans z) (by decide)
    · exact absurd (y.symm.trans z) (by decide)
  obtain ⟨q, _, _⟩ := fm_days (f := L 1 c) (ch := nI c) h.2.2.1 hn (40 - t) (by omega)
  rw [show t + (40 - t) = 40 by omega] at q
  rcases q with ⟨q1, _, q3⟩ | ⟨d, q1, q2, q3, ⟨k, hkn, q4, q5⟩, q6⟩
  · left
    rw [q1]
    refine ⟨rfl, zs_cong fun i hi => ?_⟩
    by_cases w : i < t
    · rw [old i w]
    · rw [if_neg (q3 c i hc (by omega) hi ⟨Or.inr rfl, rfl⟩), if_neg (new i (by omega) hi)]
  · right
    have ek : k = c := by
      rcases q4.1 with z | z
      · exact absurd z (zk_m1n (by omega))
      · exact (zk_eq (by omega) (by omega) z).symm
    subst ek
    refine ⟨d, q3, by rw [q1]; rfl, by rw [hm_0 h2.1 hc q3]; exact q5, ?_⟩
    rw [zs_b (fun i => L 9 (k * 40 + i) = nI 4), zs_b (fun i => (sDays n t (40 - t) L).2 9 (k * 40 + i) = nI 4)]
    have hle : ∀ f : Nat → Prop, ∀ [∀ i, Decidable (f i)], ns (fun i => if f i then 1 else 0) 40 ≤ 40 := fun f _ => by
      have := ns_le (g := fun i => if f i then 1 else 0) (b := 1) (fun i => by by_cases w : f i; rw [if_pos w]; exact Nat.le_refl 1; rw [if_neg w]; exact Nat.zero_le 1) 40
      omega
    have a2 := hle (fun i => (sDays n t (40 - t) L).2 9 (k * 40 + i) = nI 4)
    refine nlt (ns_lt (j := d) (fun i hi => ?_) q3 ?_) (by omega)
    · by_cases w : i < t
      · rw [old i w]
        exact Nat.le_refl _
      · rw [if_neg (new i (by omega) hi)]
        exact Nat.zero_le _
    · rw [if_neg (new d q2 q3), if_pos q5]
      exact Nat.one_pos
theorem hp_best : ∀ k, 1 ≤ k → ∃ j, j < k ∧ (sBest L n t k).1 = nI j
  | 0, h => absurd h (by decide)
  | k + 1, _ => by
    show ∃ j, j < k + 1 ∧ (bStep L n t k (sBest L n t k)).1 = nI j
    unfold bStep
    by_cases w : (sBest L n t k).1 = -1 ∨ bCnt L n t k < (sBest L n t k).2
    · rw [if_pos w]
      exact ⟨k, Nat.lt_succ_self k, rfl⟩
    · rw [if_neg w]
      rcases Nat.eq_zero_or_pos k with z | z
      · subst z
        exact absurd (Or.inl rfl) w
      · obtain ⟨j, hj, e⟩ := hp_best k z
        exact ⟨j, by omega, e⟩
theorem hp_needs (hI : sInv L n t) {f : Nat} (hf : f < 5) {r : Int32} (h : qNeeds L (nI f) r) : r = -1 ∨ ∃ k, k ≤ 200 ∧ r = nI (100 * k) ∧ ¬ fFamily L (nI f) (nI 0) ≤ 0 := by
  rcases h.1 (nF_yes hf) with ⟨lo, h1, h2, _, h3 | h3⟩ | h3
  · obtain ⟨k, k1, k2, _⟩ := h3
    refine Or.inr ⟨k, k1, k2, ?_⟩
    have hn := hI.2.1
    rw [sInv_N hI] at h1
    rw [hf_0 hI hf, zs_b (fun i => L 1 i = nI f)]
    have a1 := ns_ge (f := fun i => if L 1 i = nI f then 1 else 0) h1
    have a2 := ns_le (g := fun i => if L 1 i = nI f then 1 else 0) (b := 1) (fun i => by by_cases w : L 1 i = nI f; rw [if_pos w]; exact Nat.le_refl 1; rw [if_neg w]; exact Nat.zero_le 1) n
    rw [if_pos h2] at a1
    intro z
    have := zk_le0 (by omega) z
    omega
  · exact Or.inl h3.1
  · exact Or.inl h3.1
end HP2
