/-! The class and the model side by side: the actions, the commands, the turns. -/
def zS7 (L : zL) : Prop := ∀ f, f < 5 → L 7 f = nI 0 ∨ L 7 f = nI 1
def zW (B : Int) (L K : zL) (n t : Nat) : Prop := zRel L K n t ∧ zG B L n ∧ zK0 L n t ∧ zS7 L
section ZJ
variable {L K : zL} {n t : Nat} {B : Int}
theorem s7_row {X : zL} (h : zS7 L) (e : X 7 = L 7) : zS7 X := fun f hf => by rw [e]; exact h f hf
theorem k0_row {X : zL} (h : zK0 L n t) (e : X 9 = L 9) : zK0 X n t := fun c d hc ht hd => by rw [e]; exact h c d hc ht hd
theorem k0_set (h : zK0 L n t) {c d : Nat} {v : Int32} (hd : d < t) (ht : t ≤ 40) : zK0 (up2 L 9 (c * 40 + d) v) n t := fun c' d' hc h' hd' => by
  rw [up2_j (show c' * 40 + d' ≠ c * 40 + d by omega)]
  exact h c' d' hc h' hd'
theorem k0_ord (h : zK0 L n t) (p : Nat) (b : Int32) : zK0 (sOrd L p b) n t := fun c d hc h' hd => by
  unfold sOrd
  by_cases e : c * 40 + d = p
  · rw [e, up2_v]
    split
    · exact Or.inl rfl
    · exact Or.inr rfl
  · rw [up2_j e]
    exact h c d hc h' hd
theorem serve_9 (L : zL) (n c d : Nat) : ∃ v, (sServe L n c d).2 9 = upd (L 9) (c * 40 + d) v := by
  obtain ⟨x, hx, _⟩ := sServe_k L n c d
  exact ⟨x, hx⟩
theorem serve_7 (L : zL) (n c d : Nat) : (sServe L n c d).2 7 = L 7 := by
  unfold sServe
  split <;> rfl
theorem k0_serve (h : zK0 L n t) {c d : Nat} (hd : d < t) (ht : t ≤ 40) : zK0 (sServe L n c d).2 n t := by
  obtain ⟨v, e⟩ := serve_9 L n c d
  exact k0_row (k0_set h (v := v) hd ht) (e.trans (up2_same L 9 _ v).symm)
theorem k0_day {x : Int32 × zL} {d : Nat} (h : zK0 x.2 n (d + 1)) (hd : d + 1 ≤ 40) (k : Nat) : zK0 (zfold (sDayC n d) k x).2 n (d + 1) :=
  zfold_inv (f := sDayC n d) (P := fun x : Int32 × zL => zK0 x.2 n (d + 1)) h (fun c x hx => by
    unfold sDayC
    split
    · exact k0_serve hx (by omega) hd
    · exact hx) k
theorem k0_mono {t2 : Nat} (h : zK0 L n t) (ht : t ≤ t2) : zK0 L n t2 := fun c d hc h' hd => h c d hc (by omega) hd
theorem k0_days (h : zK0 L n t) : ∀ k, t + k ≤ 40 → zK0 (sDays n t k L).2 n (t + k)
  | 0, _ => h
  | k + 1, hk => k0_row (k0_day (d := t + k) (k0_mono (t2 := t + k + 1) (k0_days h k (by omega)) (by omega)) hk n) rfl
theorem days_7 (L : zL) (n t : Nat) : ∀ k, (sDays n t k L).2 7 = L 7
  | 0 => rfl
  | k + 1 => by
    show (zfold (sDayC n (t + k)) n (sDays n t k L)).2 7 = L 7
    exact zfold_inv (f := sDayC n (t + k)) (P := fun x : Int32 × zL => x.2 7 = L 7) (days_7 L n t k) (fun c x hx => by
      unfold sDayC
      split
      · exact (serve_7 x.2 n c (t + k)).trans hx
      · exact hx) n
theorem settle_7 (L : zL) (c d : Nat) : (sSettle L c d) 7 = L 7 := by
  unfold sSettle
  split
  · rfl
  · split <;> rfl
theorem entitle_7 (L : zL) (c : Nat) (fr to : Int32) : ∀ k, (sEntitle L k c fr to) 7 = L 7
  | 0 => rfl
  | k + 1 => (settle_7 (sEntitle L k c fr to) c k).trans (entitle_7 L c fr to k)
theorem k0_settle (h : zK0 L n t) {c d : Nat} (hd : d < t) (ht : t ≤ 40) : zK0 (sSettle L c d) n t := by
  unfold sSettle
  split
  · exact k0_set (k0_row h rfl) hd ht
  · split
    · exact k0_row (k0_set h (v := nI 2) hd ht) rfl
    · exact h
theorem k0_entitle (h : zK0 L n t) (ht : t ≤ 40) (c : Nat) (fr to : Int32) : ∀ k, k ≤ t → zK0 (sEntitle L k c fr to) n t
  | 0, _ => k0_row h rfl
  | k + 1, hk => k0_settle (k0_entitle h ht c fr to k (by omega)) (by omega) ht
theorem off_r (L : zL) (f : Int32) (j : Nat) (hj : j ≠ 3) (k : Nat) : (sOff L f k) j = L j :=
  zfold_inv (P := fun X : zL => X j = L j) rfl (fun i X hX => by
    show (if X 1 i = f ∧ X 3 i < 0 then up2 X 3 i (nI 0) else X) j = L j
    split
    · exact (up2_ne X i (nI 0) hj).trans hX
    · exact hX) k
theorem wR (h : zW B L K n t) : zRel L K n t := h.1
theorem wG (h : zW B L K n t) : zG B L n := h.2.1
theorem wK (h : zW B L K n t) : zK0 L n t := h.2.2.1
theorem wS (h : zW B L K n t) : zS7 L := h.2.2.2
theorem w_mono {B2 : Int} (h : zW B L K n t) (hb : B ≤ B2) : zW B2 L K n t := ⟨h.1, g_mono h.2.1 hb, h.2.2⟩
theorem w_at (h : zW B L K n t) : zW B L K (zN L) (zT L) := by rw [sInv_N (rL h.1), sInv_T (rL h.1)]; exact h
theorem w_NT (h : zW B L K n t) : zN L = zN K ∧ zT L = zT K := ⟨(sInv_N (rL h.1)).trans (sInv_N (rK h.1)).symm, (sInv_T (rL h.1)).trans (sInv_T (rK h.1)).symm⟩
theorem w_come (h : zW B L K n t) (hB : 0 ≤ B) (hn : n < 12) {f di : Int32} (hf : sFam f) : zW B (sCome L n f di) (kCome K n f di) (n + 1) t := by
  refine ⟨r_come (wR h) hn hf, g_come (wG h) hB, fun c d hc ht hd => ?_, s7_row (wS h) rfl⟩
  show L 9 (c * 40 + d) = nI 0 ∨ L 9 (c * 40 + d) = nI 1
  by_cases e : c < n
  · exact wK h c d e ht hd
  · exact Or.inl (rZ (wR h) (by omega) (by omega) hd)
theorem w_menu (h : zW B L K n t) (d : Nat) (v : Int32) : zW B (up2 L 6 d v) (up2 K 6 d v) n t := ⟨rel_6 (wR h) d v, g_menu (wG h) d v, k0_row (wK h) rfl, s7_row (wS h) rfl⟩
theorem w_ord (h : zW B L K n t) {c d : Nat} (hc : c < n) (hd : d < 40) (b : Int32) : zW B (sOrd L (c * 40 + d) b) (sOrd K (c * 40 + d) b) n t := ⟨r_ord (wR h) hc hd b, g_ord (wG h) _ b, k0_ord (wK h) _ b, s7_row (wS h) rfl⟩
theorem w_pay (h : zW B L K n t) (hB2 : B ≤ 1000000000) {c : Nat} (hc : c < n) {am : Int32} (ha : -9999 ≤ am.toInt ∧ am.toInt ≤ 9999) : zW (B + 9999) (sPay L c am) (sPay K c am) n t := ⟨r_pay (wR h) hc am, g_pay (wG h) hB2 hc ha, k0_row (wK h) rfl, s7_row (wS h) rfl⟩
theorem w_move (h : zW B L K n t) (hB2 : B ≤ 1000000000) {c o : Nat} (hc : c < n) (ho : o < n) {am : Int32} (ha : -9999 ≤ am.toInt ∧ am.toInt ≤ 9999) : zW (B + 9999 + 9999) (sMove L c o am) (sMove K c o am) n t := ⟨r_move (wR h) hc ho am, g_move (wG h) hB2 hc ho ha, k0_row (wK h) rfl, s7_row (wS h) rfl⟩
theorem s7_share (h : zS7 L) (f : Nat) (b : Int32) : zS7 (sShare L f b) := fun k hk => by
  unfold sShare
  by_cases e : k = f
  · rw [e, up2_v]
    split
    · exact Or.inl rfl
    · exact Or.inr rfl
  · rw [up2_j e]
    exact h k hk
theorem w_share (h : zW B L K n t) (f : Nat) (b : Int32) : zW B (sShare L f b) (sShare K f b) n t := ⟨r_share (wR h) f b, g_share (wG h) f b, k0_row (wK h) rfl, s7_share (wS h) f b⟩
theorem w_entitle (h : zW B L K n t) (hB : 0 ≤ B) (hB2 : B ≤ 900000000) {c : Nat} (hc : c < n) (fr to : Int32) : zW (B + 40000) (sEntitle L t c fr to) (sEntitle K t c fr to) n t := by
  have ht := rt (wR h)
  exact ⟨r_entitle (wR h) hc fr to t ht, g_mono (g_entitle (wG h) (rL (wR h)) hB hB2 hc fr to t ht) (by omega), k0_entitle (wK h) ht c fr to t (Nat.le_refl t), s7_row (wS h) (entitle_7 L c fr to t)⟩
theorem w_write (h : zW B L K n t) (hB : 0 ≤ B) {f : Nat} (hf : f < 5) : zW B (sWrite L n f) (sWrite K n f) n t :=
  ⟨r_write (wR h) hf, g_write (wG h) hB f, k0_row (wK h) (off_r L (nI f) 9 (by decide) n), s7_row (wS h) (off_r L (nI f) 7 (by decide) n)⟩
theorem w_days (h : zW B L K n t) (hB : 9999 ≤ B) (hB2 : B ≤ 1000000000) (k : Nat) (hk : t + k ≤ 40) : zW B (sDays n t k L).2 (kDays n t k K) n (t + k) ∧ (sDays n t k L).1 = (sDays n t k K).1 := by
  obtain ⟨a, b⟩ := r_days (wR h) k hk
  rw [kDays_eq n t K] at a
  exact ⟨⟨a, g_days (wG h) hB hB2 (rn (wR h)) k, k0_days (wK h) k hk, s7_row (wS h) (days_7 L n t k)⟩, b⟩
theorem w_set (h : zW B L K n t) {w v : Int32} (hv : kwSet w v = 0) : zW B (sSet L w v) (sSet K w v) n t := by
  refine ⟨r_set (wR h) hv, g_set (wG h) hv, ?_, ?_⟩
  · unfold sSet
    split
    · exact k0_row (wK h) rfl
    · exact k0_row (wK h) rfl
  · unfold sSet
    split
    · exact s7_row (wS h) rfl
    · exact s7_row (wS h) rfl
theorem w_price (h : zW B L K n t) {v : Int32} (h1 : ¬ v < nI 1) (h2 : ¬ nI 999 < v) : zW B (up2 L 0 2 v) (up2 K 0 2 v) n t :=
  ⟨rel_02 (wR h) v h1, g_price (wG h) h1 h2, k0_row (wK h) rfl, s7_row (wS h) rfl⟩
-- what speaks against an action: the same
theorem f_pay (h : zRel L K n t) (c am : Int32) : sfPay L c am = sfPay K c am := by
  unfold sfPay
  by_cases w : sHas L c
  · obtain ⟨k, hk, e⟩ := sHas_nat (rL h) w
    have w2 := (r_has h c).mp w
    have hn := rn h
    refine (if_neg (fun z => z w)).trans (Eq.trans ?_ (if_neg (fun z => z w2)).symm)
    rw [e, nI_clamp (by omega), r3 h hk]
  · exact (if_pos w).trans (if_pos (fun z => w ((r_has h c).mpr z))).symm
theorem f_ent (h : zRel L K n t) (c fr to : Int32) : sfEnt L c fr to = sfEnt K c fr to := by
  unfold sfEnt
  exact zk_ifc (or_congr (not_congr (r_has h c)) Iff.rfl)
theorem f_move (h : zRel L K n t) (c o am : Int32) : sfMove L c o am = sfMove K c o am := by
  unfold sfMove
  by_cases w : sHas L c ∧ sHas L o
  · obtain ⟨k, hk, e⟩ := sHas_nat (rL h) w.1
    obtain ⟨j, hj, e2⟩ := sHas_nat (rL h) w.2
    have hn := rn h
    refine (if_neg (fun z => z.elim (fun y => y w.1) (fun y => y w.2))).trans (Eq.trans ?_ (if_neg (fun z => z.elim (fun y => y ((r_has h c).mp w.1)) (fun y => y ((r_has h o).mp w.2)))).symm)
    rw [e, e2, nI_clamp (by omega), nI_clamp (by omega), r3 h hk, r1 h hk, r1 h hj]
  · have w1 : ¬ sHas L c ∨ ¬ sHas L o := by
      by_cases z : sHas L c
      · exact Or.inr (fun y => w ⟨z, y⟩)
      · exact Or.inl z
    exact (if_pos w1).trans (if_pos (w1.imp (fun y z => y ((r_has h c).mpr z)) (fun y z => y ((r_has h o).mpr z)))).symm
theorem f_order (h : zRel L K n t) (c d : Int32) : sfOrder L t c d = 0 ↔ kwOrd K t c d = 0 := by
  unfold sfOrder kwOrd
  by_cases w : ¬ sHas L c ∨ ¬ sDay d
  · rw [if_pos w, if_pos (show ¬ sHas K c ∨ ¬ sDay d from w.imp (fun y z => y ((r_has h c).mpr z)) id)]
  · rw [if_neg w, if_neg (show ¬ (¬ sHas K c ∨ ¬ sDay d) from fun z => w (z.imp (fun y z => y ((r_has h c).mp z)) id))]
    by_cases w2 : d < nI t
    · rw [if_pos w2, if_pos w2]
      exact ⟨fun z => absurd z (by decide), fun z => absurd z (by decide)⟩
    · rw [if_neg w2, if_neg w2]
theorem f_off (h : zRel L K n t) (f : Int32) : sfOff L n f = 0 ↔ sFam f ∧ ¬ sDebt L n f = 0 := by
  constructor
  · exact sfOff_0
  · intro z
    unfold sfOff
    rw [if_neg (fun y => y z.1), if_neg z.2]
    rfl
theorem f_days {t : Nat} (ht : t ≤ 40) (k : Int32) : sfDays t k = 0 ↔ (¬ k < nI 1 ∧ ¬ nI 40 - nI t < k) := by
  rw [zi_40 ht]
  constructor
  · intro z
    obtain ⟨j, e, h1, h2⟩ := sfDays_0 ht z
    subst e
    exact ⟨fun y => by have := zk_lt (by omega) (by omega) y; omega, fun y => by have := zk_lt (by omega) (by omega) y; omega⟩
  · intro z
    have z2 : ¬ (k < nI 1 ∨ nI 40 < k) := fun y => y.elim z.1 (fun y => z.2 (Int32.lt_of_le_of_lt ((nI_leI (by omega) (by omega)).mpr (show 40 - t ≤ 40 by omega)) y))
    unfold sfDays
    rw [if_neg z2, if_neg z.2]
    rfl
def zJ (B : Int) (x y : Int32 × zL) : Prop := x.1 = y.1 ∧ zW B x.2 y.2 (zN x.2) (zT x.2)
theorem j_if {F : Int32} {P : Prop} [Decidable P] {L' K' : zL} {n' t' : Nat} (hF : F = 0 ↔ P) (h0 : zW B L K n t) (hP : P → zW B L' K' n' t') : zJ B (tyIf F L L') (if P then (nI 1, K') else (nI 0, K)) := by
  unfold tyIf zJ
  by_cases w : P
  · rw [if_pos w, if_pos (hF.mpr w), if_pos (hF.mpr w)]
    exact ⟨rfl, w_at (hP w)⟩
  · rw [if_neg w, if_neg (fun z => w (hF.mp z)), if_neg (fun z => w (hF.mp z))]
    exact ⟨rfl, w_at h0⟩
theorem j_no (h0 : zW B L K n t) : zJ B (nI 0, L) (nI 0, K) := ⟨rfl, w_at h0⟩
theorem j_ask {c d : Prop} [Decidable c] [Decidable d] (hc : c ↔ d) (h0 : zW B L K n t) : zJ B (cAsk c L) (if d then nI 1 else nI 0, K) := ⟨zk_ifc hc, w_at h0⟩
theorem j_come (h : zW B L K n t) (hB : 0 ≤ B) {f di : Int32} (hf : sFam f) (hd : ¬ di < 0 ∧ ¬ nI 3 < di) : zJ B (tyCome L n f di) (if n < 12 then (nI 1, kCome K n f di) else (nI 0, K)) := by
  refine j_if (F := sfCome n f di) (P := n < 12) ⟨fun z => (sfCome_0 z).1, fun z => ?_⟩ h (fun z => w_come h hB z hf)
  unfold sfCome
  rw [if_neg (fun y => y hf), if_neg (fun y => y.elim hd.1 hd.2), if_neg (fun y => y z)]
  rfl
theorem j_menu (h : zW B L K n t) {d mn : Int32} (hd : sDay d) (hm : ¬ mn < 0 ∧ ¬ nI 3 < mn) : zJ B (tyMenu L t d mn) (if d < nI t then (nI 0, K) else (nI 1, up2 K 6 d.toNatClampNeg mn)) := by
  have e : (if d < nI t then (nI 0, K) else (nI 1, up2 K 6 d.toNatClampNeg mn)) = (if ¬ d < nI t then (nI 1, up2 K 6 d.toNatClampNeg mn) else (nI 0, K)) := by
    by_cases w : d < nI t
    · rw [if_pos w, if_neg (fun z => z w)]
    · rw [if_neg w, if_pos w]
  rw [e]
  refine j_if (F := sfMenu t d mn) ⟨fun z => (sfMenu_0 z).2.2.2, fun z => ?_⟩ h (fun _ => w_menu h _ _)
  unfold sfMenu
  rw [if_neg (fun y => y hd), if_neg (fun y => y.elim hm.1 hm.2), if_neg z]
  rfl
theorem j_order (h : zW B L K n t) (c d : Int32) {b w : Int32} (hb : ∀ ck dk : Nat, c = nI ck → d = nI dk → ck < n → dk < 40 → b = w) : zJ B (tyOrder L t c d b) (if kwOrd K t c d = 0 then (nI 1, sOrd K (c.toNatClampNeg * 40 + d.toNatClampNeg) w) else (nI 0, K)) := by
  refine j_if (F := sfOrder L t c d) (n' := n) (t' := t) (f_order (wR h) c d) h (fun z => ?_)
  obtain ⟨hc, hd, _⟩ := kwOrd_0 z
  obtain ⟨ck, hck, e⟩ := sHas_nat (rK (wR h)) hc
  obtain ⟨dk, hdk, e2⟩ := sDay_nat hd
  have hn := rn (wR h)
  rw [hb ck dk e e2 hck hdk, e, e2, nI_clamp (by omega), nI_clamp (by omega)]
  exact w_ord h hck hdk w
theorem j_pay (h : zW B L K n t) (hB2 : B ≤ 900000000) (c am : Int32) : zJ (B + 40000) (tyPay L c am) (if sfPay K c am = 0 then (nI 1, sPay K c.toNatClampNeg am) else (nI 0, K)) := by
  refine j_if (F := sfPay L c am) (n' := n) (t' := t) (by rw [f_pay (wR h)]) (w_mono h (by omega)) (fun z => ?_)
  obtain ⟨ck, hck, e⟩ := sHas_nat (rK (wR h)) (sfPay_0 z)
  have hn := rn (wR h)
  have ha : ¬ (am = 0 ∨ am < -9999 ∨ nI 9999 < am) := fun y => by
    unfold sfPay at z
    rw [if_neg (fun w => w (sfPay_0 (by unfold sfPay; exact z))), if_pos y] at z
    exact absurd z (by decide)
  have hab := am_b (fun y => ha (Or.inr (Or.inl y))) (fun y => ha (Or.inr (Or.inr y)))
  rw [e, nI_clamp (by omega)]
  exact w_mono (w_pay h (by omega) hck hab) (by omega)
theorem j_ent (h : zW B L K n t) (hB : 0 ≤ B) (hB2 : B ≤ 900000000) (c fr to : Int32) : zJ (B + 40000) (tyEnt L t c fr to) (if sfEnt K c fr to = 0 then (nI 1, sEntitle K t c.toNatClampNeg fr to) else (nI 0, K)) := by
  refine j_if (F := sfEnt L c fr to) (n' := n) (t' := t) (by rw [f_ent (wR h)]) (w_mono h (by omega)) (fun z => ?_)
  obtain ⟨ck, hck, e⟩ := sHas_nat (rK (wR h)) (sfEnt_0 z).1
  have hn := rn (wR h)
  rw [e, nI_clamp (by omega)]
  exact w_entitle h hB hB2 hck fr to
theorem j_days (h : zW B L K n t) (hB : 9999 ≤ B) (hB2 : B ≤ 1000000000) (k : Int32) : zJ B (tyDays L n t k) (if ¬ k < nI 1 ∧ ¬ nI 40 - nI t < k then (nI 1, kDays n t k.toNatClampNeg K) else (nI 0, K)) := by
  have ht := rt (wR h)
  refine j_if (F := sfDays t k) (n' := n) (t' := t + k.toNatClampNeg) (f_days ht k) h (fun z => ?_)
  obtain ⟨j, e, h1, h2⟩ := kwDays_0 ht z
  rw [e, nI_clamp (by omega)]
  exact (w_days h hB hB2 j h2).1
theorem j_off (h : zW B L K n t) (hB : 0 ≤ B) (hB2 : B ≤ 170000000) {f : Nat} (hf : f < 2 ^ 31) : zJ B (tyOff L n (nI f)) (if sFam (nI f) ∧ 0 < sDebt K n (nI f) then (nI 1, sWrite K n f) else (nI 0, K)) := by
  refine j_if (F := sfOff L n (nI f)) (n' := n) (t' := t) ((f_off (wR h) (nI f)).trans (and_congr Iff.rfl ?_)) h (fun z => ?_)
  · rw [← r_debt (wR h)]
    exact (debt_pos (wG h) hB2 (rn (wR h)) (nI f)).symm
  · have h5 := sFam_lt hf z.1
    rw [nI_clamp hf]
    exact w_write h hB h5
/-- a command of the text -/
def kDk2 (sg a b : Int32) : Prop := kDok sg a ∧ (sg = nI 99 ∨ sg = nI 109 → ¬ b < 0 ∧ ¬ nI 3 < b) ∧ (sg = nI 112 → ¬ b < nI 1 ∧ ¬ nI 9999 < b) ∧ (sg = nI 99 ∨ sg = nI 109 ∨ sg = nI 111 ∨ sg = nI 112 ∨ sg = nI 101 ∨ sg = nI 104 ∨ sg = nI 100)
theorem pay_has {c am : Int32} (h1 : ¬ am < nI 1) (h2 : ¬ nI 9999 < am) : sfPay K c am = 0 ↔ sHas K c := by
  constructor
  · exact sfPay_0
  · intro w
    obtain ⟨k, k1, k2, e⟩ := nI_rng (by decide) (by decide) h1 h2
    subst e
    unfold sfPay
    have a1 : ¬ nI k < 0 := nI_pos (by omega)
    rw [if_neg (fun z => z w), if_neg (fun z => ?_), if_neg (fun z => a1 z.1)]
    · rfl
    · rcases z with z | z | z
      · exact absurd (zk_eq (show k < 2 ^ 31 by omega) (show 0 < 2 ^ 31 by decide) z) (by omega)
      · exact a1 (Int32.lt_trans z (by decide))
      · exact h2 z
theorem j_text (h : zW B L K n t) (hB : 9999 ≤ B) (hB2 : B ≤ 100000000) {sg a b c : Int32} (hk : kDk2 sg a b) : zJ (B + 40000) (cText L n t sg a b c) (kDoes K n t sg a b c) := by
  obtain ⟨hd, h3, hp, hs⟩ := hk
  have h' := w_mono h (show B ≤ B + 40000 by omega)
  rcases hs with e | e | e | e | e | e | e
  · have q3 := h3 (Or.inl e)
    have q1 := hd.1 e
    rw [kDoes_99 e]
    subst e
    exact j_come h' (by omega) q1 q3
  · have q3 := h3 (Or.inr e)
    have q1 := hd.2.1 e
    rw [kDoes_109 e]
    subst e
    exact j_menu h' q1 q3
  · rw [kDoes_111 e]
    subst e
    refine j_order h' a b (fun ck dk e1 e2 hc hdd => ?_)
    have hn := rn (wR h)
    rw [e1, e2, nI_clamp (by omega), nI_clamp (by omega), r9 (wR h) (show ck * 40 + dk < 480 by omega)]
  · have hp := hp e
    have hp1 := hp.1
    have hp2 := hp.2
    rw [kDoes_112 e]
    subst e
    have := j_pay h (by omega) a b
    have e2 : (if sfPay K a b = 0 then (nI 1, sPay K a.toNatClampNeg b) else (nI 0, K)) = (if sHas K a then (nI 1, sPay K a.toNatClampNeg b) else (nI 0, K)) := by
      by_cases w : sHas K a
      · rw [if_pos w, if_pos ((pay_has hp1 hp2).mpr w)]
      · rw [if_neg w, if_neg (fun z => w ((pay_has hp1 hp2).mp z))]
    rw [e2] at this
    exact this
  · rw [kDoes_101 e]
    subst e
    exact j_ent h (by omega) (by omega) a b c
  · have hf := hd.2.2 e
    rw [kDoes_104 e]
    subst e
    obtain ⟨k, hk5, e2⟩ := sFam_nat hf
    subst e2
    show zJ (B + 40000) (tyFlip L (nI k)) _
    unfold tyFlip
    rw [if_pos hf, if_pos hf, nI_clamp (by omega)]
    refine ⟨rfl, ?_⟩
    have e3 : up2 K 7 k (nI 1 - K 7 k) = sShare K k (if L 7 k = 0 then nI 1 else nI 0) := by
      unfold sShare
      rw [← r7 (wR h) hk5]
      rcases wS h k hk5 with z | z <;> rw [z] <;> rfl
    show zW (B + 40000) (sShare L k (if L 7 k = 0 then nI 1 else nI 0)) (up2 K 7 k (nI 1 - K 7 k)) _ _
    rw [e3]
    exact w_at (w_share h' k _)
  · rw [kDoes_no (by rw [e]; decide) (by rw [e]; decide) (by rw [e]; decide) (by rw [e]; decide) (by rw [e]; decide) (by rw [e]; decide)]
    subst e
    exact j_days h' (by omega) (by omega) a
end ZJ
