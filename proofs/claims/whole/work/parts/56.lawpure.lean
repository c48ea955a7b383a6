/-! The answers side by side, call by call. -/
theorem zp_s {r r2 v an : Int32} {f1 fo : Nat → Int64} (hr : r = nI 0) (hf : f1 = vp_updL fo 0 an.toInt64) (hv : v = nI 0) (he : an = r2) : v = r ∧ (r = nI 0 → f1 0 = r2.toInt64) := ⟨hv.trans hr.symm, fun _ => by rw [hf, ← he]; rfl⟩
theorem zp_n {r r2 v : Int32} {f1 : Nat → Int64} (hv : v = r) (h : ¬ r = nI 0) : v = r ∧ (r = nI 0 → f1 0 = r2.toInt64) := ⟨hv, fun z => absurd z h⟩
/-- refused by both: the class's throw, caught, is the model's refusal -/
theorem zp_e {E : String} {a b d r r2 v : Int32} {f1 : Nat → Int64} (hz : zcode E a b d r) (h : (E = nIOOB ∧ v = a ∧ ¬ a = nI 0) ∨ (E = nIAE ∧ v = b ∧ ¬ b = nI 0) ∨ (E = nISE ∧ v = d ∧ ¬ d = nI 0)) : v = r ∧ (r = nI 0 → f1 0 = r2.toInt64) := by
  rcases h with ⟨e, h1, h2⟩ | ⟨e, h1, h2⟩ | ⟨e, h1, h2⟩
  · exact zp_n (h1.trans (hz.1 e).symm) (by rw [hz.1 e]; exact h2)
  · exact zp_n (h1.trans (hz.2.1 e).symm) (by rw [hz.2.1 e]; exact h2)
  · exact zp_n (h1.trans (hz.2.2 e).symm) (by rw [hz.2.2 e]; exact h2)
theorem zp_rem {L K : zL} {n t o cn : Nat} {B B2 : Int} {S D : Nat → zL} (hw : zW B L K n t) (hh : zHist B S o cn D) (hB : B ≤ B2) {x : Nat × Nat × (Nat → zL)} {y : Nat × (Nat → zL)} (e1 : x = hRem o cn S L) (e2 : y = kRem cn D K) : zHist B2 x.2.2 x.1 x.2.1 y.2 ∧ y.1 = x.2.1 := by
  subst e1
  subst e2
  exact ⟨hist_mono (hist_rem hh hw).1 hB, (hist_rem hh hw).2⟩
theorem zp_keep {o cn : Nat} {B B2 : Int} {S D : Nat → zL} (hh : zHist B S o cn D) (hB : B ≤ B2) {y : Nat × (Nat → zL)} (e : y = (cn, D)) : zHist B2 S o cn y.2 ∧ y.1 = cn := by
  subst e
  exact ⟨hist_mono hh hB, rfl⟩
/-- what stands after an action -/
def zpF (B : Int) (L : zL) (S : Nat → zL) (o cn : Nat) (u : Option ((Nat × Nat × (Nat → zL)) × zL)) (v : (Nat × (Nat → zL)) × zL) : Prop := match u with
  | some v0 => (zHist B v0.1.2.2 v0.1.1 v0.1.2.1 v.1.2 ∧ v.1.1 = v0.1.2.1) ∧ ∃ n t, zW B v0.2 v.2 n t
  | none => (zHist B S o cn v.1.2 ∧ v.1.1 = cn) ∧ ∃ n t, zW B L v.2 n t
theorem zn_share2 (f : Int32) : ¬ sfShare f = nI 2 := by
  unfold sfShare
  by_cases w : ¬ sFam f
  · rw [if_pos w]; decide
  · rw [if_neg w]; decide
theorem zn_share3 (f : Int32) : ¬ sfShare f = nI 3 := by
  unfold sfShare
  by_cases w : ¬ sFam f
  · rw [if_pos w]; decide
  · rw [if_neg w]; decide
theorem zn_ent3 (K : zL) (c fr to : Int32) : ¬ sfEnt K c fr to = nI 3 := by
  unfold sfEnt
  by_cases w : ¬ sHas K c ∨ ¬ sDay fr
  · rw [if_pos w]; decide
  · rw [if_neg w]
    by_cases w2 : to = -1 ∨ (¬ to < fr ∧ sDay to)
    · rw [if_pos w2]; decide
    · rw [if_neg w2]; decide
theorem zn_off0 {K : zL} {n : Nat} {f : Int32} (h : kwOff K n f = 0) : sFam f := by
  by_cases w : sFam f
  · exact w
  · unfold kwOff at h
    rw [if_pos w] at h
    exact absurd h (by decide)
theorem lStep_inv {n : Nat} {x : Int32 × (Bool × Nat × zL) × zL} (h : tInv x.2.1.2.2 n x.2.1.2.1) : tInv (lStep n x).2.1.2.2 n (lStep n x).2.1.2.1 := by
  unfold lStep
  split
  · split
    · exact tRd_inv h
    · exact tRd_inv h
  · exact h
theorem lRun_inv {T : zL} {n p : Nat} (h : tInv T n p) (L : zL) (k : Nat) : tInv (lRun T L n k).2.1.2.2 n (lRun T L n k).2.1.2.1 := by
  unfold lRun
  exact zfold_inv (f := fun _ x => lStep n x) (P := fun x : Int32 × (Bool × Nat × zL) × zL => tInv x.2.1.2.2 n x.2.1.2.1) (tSt_inv h) (fun _ _ hx => lStep_inv hx) k
theorem zp_come {L : zL} {K : zL} {n : Nat} {t : Nat} {o : Nat} {cn : Nat} {B : Int} {S : Nat → zL} {D : Nat → zL} {fo : Nat → Int64} {r : Int32} {r2 : Int32} {f : Int32} {di : Int32} {u : Option ((Nat × Nat × (Nat → zL)) × zL) × (Nat → Int64)} {vm : Int32 × (Nat × (Nat → zL)) × zL} (hw : zW B L K n t) (hh : zHist B S o cn D) (hb : 4809999 ≤ B ∧ B ≤ 80000000) (hL : (fun r u => match u.1 with | some v0 => r = nI 0 ∧ ∃ an, (fun r u => sfCome n f di = 0 ∧ r = nI n ∧ u.1 = hRem o cn S L ∧ u.2 = sCome L n f di) an v0 ∧ u.2 = vp_updL fo 0 an.toInt64 | none => u.2 = fo ∧ ∃ E, (fun E => (E = "java/lang/IndexOutOfBoundsException" ∧ sfCome n f di = nI 1) ∨ (E = "java/lang/IllegalArgumentException" ∧ sfCome n f di = nI 2) ∨ (E = "java/lang/IllegalStateException" ∧ sfCome n f di = nI 3)) E ∧ zcode E (nI 1) (nI 2) (nI 3) r) r u) (hM : (fun r u => u.1 = sfCome n f di ∧ (sfCome n f di = 0 → r = nI n ∧ u.2.1 = kRem cn D K ∧ u.2.2 = kCome K n f di) ∧ (¬ sfCome n f di = 0 → u.2.1 = (cn, D) ∧ u.2.2 = K)) r2 vm) : (vm.1 = r ∧ (r = nI 0 → u.2 0 = r2.toInt64)) ∧ zpF (B + 40000) L S o cn u.1 vm.2 := by
  obtain ⟨hv, hM1, hM2⟩ := hM
  have hB2 : B ≤ B + 40000 := by omega
  obtain ⟨h0, h1, h2, h3⟩ : (sfCome n f di = 0 ↔ sfCome n f di = 0) ∧ (sfCome n f di = nI 1 → sfCome n f di = nI 1) ∧ (sfCome n f di = nI 2 → sfCome n f di = nI 2) ∧ (sfCome n f di = nI 3 → sfCome n f di = nI 3) := ⟨Iff.rfl, id, id, id⟩
  rcases u with ⟨_ | v0, f1⟩
  · obtain ⟨hf, E, hn, hz⟩ := hL
    obtain ⟨e1, e2⟩ := thr_code hn hz h1 h2 h3
    have hk : ¬ sfCome n f di = 0 := fun y => e2 (h0.mpr y)
    obtain ⟨m1, m2⟩ := hM2 hk
    exact ⟨zp_n (hv.trans e1) (fun y => hk (e1.trans y)), zp_keep hh hB2 m1, by rw [m2]; exact ⟨n, t, w_mono hw hB2⟩⟩
  · obtain ⟨hr, an, ⟨hF, ea, g1, g2⟩, hf⟩ := hL
    have hk : sfCome n f di = 0 := h0.mp hF
    obtain ⟨m0, m1, m2⟩ := hM1 hk
    obtain ⟨z1, z2, -, -⟩ := sfCome_0 hk
    have q2 := w_come hw (by omega) z1 z2 (di := di)
    have q1 : nI n = nI n := rfl
    exact ⟨zp_s hr hf (hv.trans hk) (by rw [ea, m0]), zp_rem hw hh hB2 g1 m1, by rw [g2, m2]; exact ⟨_, _, w_mono q2 hB2⟩⟩
theorem zp_menu {L : zL} {K : zL} {n : Nat} {t : Nat} {o : Nat} {cn : Nat} {B : Int} {S : Nat → zL} {D : Nat → zL} {fo : Nat → Int64} {r : Int32} {r2 : Int32} {d : Int32} {mn : Int32} {u : Option ((Nat × Nat × (Nat → zL)) × zL) × (Nat → Int64)} {vm : Int32 × (Nat × (Nat → zL)) × zL} (hw : zW B L K n t) (hh : zHist B S o cn D) (hb : 4809999 ≤ B ∧ B ≤ 80000000) (hL : (fun r u => match u.1 with | some v0 => r = nI 0 ∧ ∃ an, (fun r u => sfMenu t d mn = 0 ∧ r = L 6 d.toNatClampNeg ∧ u.1 = hRem o cn S L ∧ u.2 = up2 L 6 d.toNatClampNeg mn) an v0 ∧ u.2 = vp_updL fo 0 an.toInt64 | none => u.2 = fo ∧ ∃ E, (fun E => (E = "java/lang/IndexOutOfBoundsException" ∧ sfMenu t d mn = nI 1) ∨ (E = "java/lang/IllegalArgumentException" ∧ sfMenu t d mn = nI 2) ∨ (E = "java/lang/IllegalStateException" ∧ sfMenu t d mn = nI 3)) E ∧ zcode E (nI 1) (nI 2) (nI 3) r) r u) (hM : (fun r u => u.1 = sfMenu t d mn ∧ (sfMenu t d mn = 0 → r = K 6 d.toNatClampNeg ∧ u.2.1 = kRem cn D K ∧ u.2.2 = up2 K 6 d.toNatClampNeg mn) ∧ (¬ sfMenu t d mn = 0 → u.2.1 = (cn, D) ∧ u.2.2 = K)) r2 vm) : (vm.1 = r ∧ (r = nI 0 → u.2 0 = r2.toInt64)) ∧ zpF (B + 40000) L S o cn u.1 vm.2 := by
  obtain ⟨hv, hM1, hM2⟩ := hM
  have hB2 : B ≤ B + 40000 := by omega
  obtain ⟨h0, h1, h2, h3⟩ : (sfMenu t d mn = 0 ↔ sfMenu t d mn = 0) ∧ (sfMenu t d mn = nI 1 → sfMenu t d mn = nI 1) ∧ (sfMenu t d mn = nI 2 → sfMenu t d mn = nI 2) ∧ (sfMenu t d mn = nI 3 → sfMenu t d mn = nI 3) := ⟨Iff.rfl, id, id, id⟩
  rcases u with ⟨_ | v0, f1⟩
  · obtain ⟨hf, E, hn, hz⟩ := hL
    obtain ⟨e1, e2⟩ := thr_code hn hz h1 h2 h3
    have hk : ¬ sfMenu t d mn = 0 := fun y => e2 (h0.mpr y)
    obtain ⟨m1, m2⟩ := hM2 hk
    exact ⟨zp_n (hv.trans e1) (fun y => hk (e1.trans y)), zp_keep hh hB2 m1, by rw [m2]; exact ⟨n, t, w_mono hw hB2⟩⟩
  · obtain ⟨hr, an, ⟨hF, ea, g1, g2⟩, hf⟩ := hL
    have hk : sfMenu t d mn = 0 := h0.mp hF
    obtain ⟨m0, m1, m2⟩ := hM1 hk
    obtain ⟨q1, q2⟩ := a_menu hw (sfMenu_0 hk).1 mn
    exact ⟨zp_s hr hf (hv.trans hk) (by rw [ea, m0]; exact q1), zp_rem hw hh hB2 g1 m1, by rw [g2, m2]; exact ⟨_, _, w_mono q2 hB2⟩⟩
theorem zp_order {L : zL} {K : zL} {n : Nat} {t : Nat} {o : Nat} {cn : Nat} {B : Int} {S : Nat → zL} {D : Nat → zL} {fo : Nat → Int64} {r : Int32} {r2 : Int32} {c : Int32} {d : Int32} {b : Int32} {u : Option ((Nat × Nat × (Nat → zL)) × zL) × (Nat → Int64)} {vm : Int32 × (Nat × (Nat → zL)) × zL} (hw : zW B L K n t) (hh : zHist B S o cn D) (hb : 4809999 ≤ B ∧ B ≤ 80000000) (hL : (fun r u => match u.1 with | some v0 => r = nI 0 ∧ ∃ an, (fun r u => sfOrder L t c d = 0 ∧ r = sOrdN u.2 d.toNatClampNeg ∧ u.1 = hRem o cn S L ∧ u.2 = sOrd L (c.toNatClampNeg * 40 + d.toNatClampNeg) b) an v0 ∧ u.2 = vp_updL fo 0 an.toInt64 | none => u.2 = fo ∧ ∃ E, (fun E => (E = "java/lang/IndexOutOfBoundsException" ∧ sfOrder L t c d = nI 1) ∨ (E = "java/lang/IllegalArgumentException" ∧ sfOrder L t c d = nI 2) ∨ (E = "java/lang/IllegalStateException" ∧ sfOrder L t c d = nI 3)) E ∧ zcode E (nI 1) (nI 0) (nI 2) r) r u) (hM : (fun r u => u.1 = kwOrd K t c d ∧ (kwOrd K t c d = 0 → r = kCnt u.2.2 n (-1) d (nI 1) ∧ u.2.1 = kRem cn D K ∧ u.2.2 = sOrd K (c.toNatClampNeg * 40 + d.toNatClampNeg) b) ∧ (¬ kwOrd K t c d = 0 → u.2.1 = (cn, D) ∧ u.2.2 = K)) r2 vm) : (vm.1 = r ∧ (r = nI 0 → u.2 0 = r2.toInt64)) ∧ zpF (B + 40000) L S o cn u.1 vm.2 := by
  obtain ⟨hv, hM1, hM2⟩ := hM
  have hB2 : B ≤ B + 40000 := by omega
  obtain ⟨h0, h1, h2, h3⟩ : (sfOrder L t c d = 0 ↔ kwOrd K t c d = 0) ∧ (sfOrder L t c d = nI 1 → kwOrd K t c d = nI 1) ∧ (sfOrder L t c d = nI 2 → kwOrd K t c d = nI 0) ∧ (sfOrder L t c d = nI 3 → kwOrd K t c d = nI 2) := ⟨(kwOrd_f (wR hw) c d).1, (kwOrd_f (wR hw) c d).2.1, fun y => absurd y (kwOrd_f (wR hw) c d).2.2.2, (kwOrd_f (wR hw) c d).2.2.1⟩
  rcases u with ⟨_ | v0, f1⟩
  · obtain ⟨hf, E, hn, hz⟩ := hL
    obtain ⟨e1, e2⟩ := thr_code hn hz h1 h2 h3
    have hk : ¬ kwOrd K t c d = 0 := fun y => e2 (h0.mpr y)
    obtain ⟨m1, m2⟩ := hM2 hk
    exact ⟨zp_n (hv.trans e1) (fun y => hk (e1.trans y)), zp_keep hh hB2 m1, by rw [m2]; exact ⟨n, t, w_mono hw hB2⟩⟩
  · obtain ⟨hr, an, ⟨hF, ea, g1, g2⟩, hf⟩ := hL
    have hk : kwOrd K t c d = 0 := h0.mp hF
    obtain ⟨m0, m1, m2⟩ := hM1 hk
    obtain ⟨q1, q2⟩ := a_order hw hk b
    exact ⟨zp_s hr hf (hv.trans hk) (by rw [ea, m0, g2, m2]; exact q1), zp_rem hw hh hB2 g1 m1, by rw [g2, m2]; exact ⟨_, _, w_mono q2 hB2⟩⟩
theorem zp_pay {L : zL} {K : zL} {n : Nat} {t : Nat} {o : Nat} {cn : Nat} {B : Int} {S : Nat → zL} {D : Nat → zL} {fo : Nat → Int64} {r : Int32} {r2 : Int32} {c : Int32} {am : Int32} {u : Option ((Nat × Nat × (Nat → zL)) × zL) × (Nat → Int64)} {vm : Int32 × (Nat × (Nat → zL)) × zL} (hw : zW B L K n t) (hh : zHist B S o cn D) (hb : 4809999 ≤ B ∧ B ≤ 80000000) (hL : (fun r u => match u.1 with | some v0 => r = nI 0 ∧ ∃ an, (fun r u => sfPay L c am = 0 ∧ r = u.2 3 c.toNatClampNeg ∧ u.1 = hRem o cn S L ∧ u.2 = sPay L c.toNatClampNeg am) an v0 ∧ u.2 = vp_updL fo 0 an.toInt64 | none => u.2 = fo ∧ ∃ E, (fun E => (E = "java/lang/IndexOutOfBoundsException" ∧ sfPay L c am = nI 1) ∨ (E = "java/lang/IllegalArgumentException" ∧ sfPay L c am = nI 2) ∨ (E = "java/lang/IllegalStateException" ∧ sfPay L c am = nI 3)) E ∧ zcode E (nI 1) (nI 2) (nI 3) r) r u) (hM : (fun r u => u.1 = sfPay K c am ∧ (sfPay K c am = 0 → r = u.2.2 3 c.toNatClampNeg ∧ u.2.1 = kRem cn D K ∧ u.2.2 = sPay K c.toNatClampNeg am) ∧ (¬ sfPay K c am = 0 → u.2.1 = (cn, D) ∧ u.2.2 = K)) r2 vm) : (vm.1 = r ∧ (r = nI 0 → u.2 0 = r2.toInt64)) ∧ zpF (B + 40000) L S o cn u.1 vm.2 := by
  obtain ⟨hv, hM1, hM2⟩ := hM
  have hB2 : B ≤ B + 40000 := by omega
  obtain ⟨h0, h1, h2, h3⟩ : (sfPay L c am = 0 ↔ sfPay K c am = 0) ∧ (sfPay L c am = nI 1 → sfPay K c am = nI 1) ∧ (sfPay L c am = nI 2 → sfPay K c am = nI 2) ∧ (sfPay L c am = nI 3 → sfPay K c am = nI 3) := by rw [f_pay (wR hw)]; exact ⟨Iff.rfl, id, id, id⟩
  rcases u with ⟨_ | v0, f1⟩
  · obtain ⟨hf, E, hn, hz⟩ := hL
    obtain ⟨e1, e2⟩ := thr_code hn hz h1 h2 h3
    have hk : ¬ sfPay K c am = 0 := fun y => e2 (h0.mpr y)
    obtain ⟨m1, m2⟩ := hM2 hk
    exact ⟨zp_n (hv.trans e1) (fun y => hk (e1.trans y)), zp_keep hh hB2 m1, by rw [m2]; exact ⟨n, t, w_mono hw hB2⟩⟩
  · obtain ⟨hr, an, ⟨hF, ea, g1, g2⟩, hf⟩ := hL
    have hk : sfPay K c am = 0 := h0.mp hF
    obtain ⟨m0, m1, m2⟩ := hM1 hk
    obtain ⟨q1, q2⟩ := a_pay hw (by omega) hk
    exact ⟨zp_s hr hf (hv.trans hk) (by rw [ea, m0, g2, m2]; exact q1), zp_rem hw hh hB2 g1 m1, by rw [g2, m2]; exact ⟨_, _, q2⟩⟩
theorem zp_move {L : zL} {K : zL} {n : Nat} {t : Nat} {o : Nat} {cn : Nat} {B : Int} {S : Nat → zL} {D : Nat → zL} {fo : Nat → Int64} {r : Int32} {r2 : Int32} {c : Int32} {ot : Int32} {am : Int32} {u : Option ((Nat × Nat × (Nat → zL)) × zL) × (Nat → Int64)} {vm : Int32 × (Nat × (Nat → zL)) × zL} (hw : zW B L K n t) (hh : zHist B S o cn D) (hb : 4809999 ≤ B ∧ B ≤ 80000000) (hL : (fun r u => match u.1 with | some v0 => r = nI 0 ∧ ∃ an, (fun r u => sfMove L c ot am = 0 ∧ r = u.2 3 c.toNatClampNeg ∧ u.1 = hRem o cn S L ∧ u.2 = sMove L c.toNatClampNeg ot.toNatClampNeg am) an v0 ∧ u.2 = vp_updL fo 0 an.toInt64 | none => u.2 = fo ∧ ∃ E, (fun E => (E = "java/lang/IndexOutOfBoundsException" ∧ sfMove L c ot am = nI 1) ∨ (E = "java/lang/IllegalArgumentException" ∧ sfMove L c ot am = nI 2) ∨ (E = "java/lang/IllegalStateException" ∧ sfMove L c ot am = nI 3)) E ∧ zcode E (nI 1) (nI 2) (nI 3) r) r u) (hM : (fun r u => u.1 = sfMove K c ot am ∧ (sfMove K c ot am = 0 → r = u.2.2 3 c.toNatClampNeg ∧ u.2.1 = kRem cn D K ∧ u.2.2 = sMove K c.toNatClampNeg ot.toNatClampNeg am) ∧ (¬ sfMove K c ot am = 0 → u.2.1 = (cn, D) ∧ u.2.2 = K)) r2 vm) : (vm.1 = r ∧ (r = nI 0 → u.2 0 = r2.toInt64)) ∧ zpF (B + 40000) L S o cn u.1 vm.2 := by
  obtain ⟨hv, hM1, hM2⟩ := hM
  have hB2 : B ≤ B + 40000 := by omega
  obtain ⟨h0, h1, h2, h3⟩ : (sfMove L c ot am = 0 ↔ sfMove K c ot am = 0) ∧ (sfMove L c ot am = nI 1 → sfMove K c ot am = nI 1) ∧ (sfMove L c ot am = nI 2 → sfMove K c ot am = nI 2) ∧ (sfMove L c ot am = nI 3 → sfMove K c ot am = nI 3) := by rw [f_move (wR hw)]; exact ⟨Iff.rfl, id, id, id⟩
  rcases u with ⟨_ | v0, f1⟩
  · obtain ⟨hf, E, hn, hz⟩ := hL
    obtain ⟨e1, e2⟩ := thr_code hn hz h1 h2 h3
    have hk : ¬ sfMove K c ot am = 0 := fun y => e2 (h0.mpr y)
    obtain ⟨m1, m2⟩ := hM2 hk
    exact ⟨zp_n (hv.trans e1) (fun y => hk (e1.trans y)), zp_keep hh hB2 m1, by rw [m2]; exact ⟨n, t, w_mono hw hB2⟩⟩
  · obtain ⟨hr, an, ⟨hF, ea, g1, g2⟩, hf⟩ := hL
    have hk : sfMove K c ot am = 0 := h0.mp hF
    obtain ⟨m0, m1, m2⟩ := hM1 hk
    obtain ⟨q1, q2⟩ := a_move hw (by omega) hk
    exact ⟨zp_s hr hf (hv.trans hk) (by rw [ea, m0, g2, m2]; exact q1), zp_rem hw hh hB2 g1 m1, by rw [g2, m2]; exact ⟨_, _, q2⟩⟩
theorem zp_share {L : zL} {K : zL} {n : Nat} {t : Nat} {o : Nat} {cn : Nat} {B : Int} {S : Nat → zL} {D : Nat → zL} {fo : Nat → Int64} {r : Int32} {r2 : Int32} {f : Int32} {b : Int32} {u : Option ((Nat × Nat × (Nat → zL)) × zL) × (Nat → Int64)} {vm : Int32 × (Nat × (Nat → zL)) × zL} (hw : zW B L K n t) (hh : zHist B S o cn D) (hb : 4809999 ≤ B ∧ B ≤ 80000000) (hL : (fun r u => match u.1 with | some v0 => r = nI 0 ∧ ∃ an, (fun r u => sfShare f = 0 ∧ r = sSumOf u.2 n f ∧ u.1 = hRem o cn S L ∧ u.2 = sShare L f.toNatClampNeg b) an v0 ∧ u.2 = vp_updL fo 0 an.toInt64 | none => u.2 = fo ∧ ∃ E, (fun E => (E = "java/lang/IndexOutOfBoundsException" ∧ sfShare f = nI 1) ∨ (E = "java/lang/IllegalArgumentException" ∧ sfShare f = nI 2) ∨ (E = "java/lang/IllegalStateException" ∧ sfShare f = nI 3)) E ∧ zcode E (nI 1) (nI 0) (nI 0) r) r u) (hM : (fun r u => u.1 = sfShare f ∧ (sfShare f = 0 → r = sSumOf u.2.2 n f ∧ u.2.1 = kRem cn D K ∧ u.2.2 = sShare K f.toNatClampNeg b) ∧ (¬ sfShare f = 0 → u.2.1 = (cn, D) ∧ u.2.2 = K)) r2 vm) : (vm.1 = r ∧ (r = nI 0 → u.2 0 = r2.toInt64)) ∧ zpF (B + 40000) L S o cn u.1 vm.2 := by
  obtain ⟨hv, hM1, hM2⟩ := hM
  have hB2 : B ≤ B + 40000 := by omega
  obtain ⟨h0, h1, h2, h3⟩ : (sfShare f = 0 ↔ sfShare f = 0) ∧ (sfShare f = nI 1 → sfShare f = nI 1) ∧ (sfShare f = nI 2 → sfShare f = nI 0) ∧ (sfShare f = nI 3 → sfShare f = nI 0) := ⟨Iff.rfl, id, fun y => absurd y (zn_share2 f), fun y => absurd y (zn_share3 f)⟩
  rcases u with ⟨_ | v0, f1⟩
  · obtain ⟨hf, E, hn, hz⟩ := hL
    obtain ⟨e1, e2⟩ := thr_code hn hz h1 h2 h3
    have hk : ¬ sfShare f = 0 := fun y => e2 (h0.mpr y)
    obtain ⟨m1, m2⟩ := hM2 hk
    exact ⟨zp_n (hv.trans e1) (fun y => hk (e1.trans y)), zp_keep hh hB2 m1, by rw [m2]; exact ⟨n, t, w_mono hw hB2⟩⟩
  · obtain ⟨hr, an, ⟨hF, ea, g1, g2⟩, hf⟩ := hL
    have hk : sfShare f = 0 := h0.mp hF
    obtain ⟨m0, m1, m2⟩ := hM1 hk
    obtain ⟨q1, q2⟩ := a_share hw f.toNatClampNeg b f
    exact ⟨zp_s hr hf (hv.trans hk) (by rw [ea, m0, g2, m2]; exact q1), zp_rem hw hh hB2 g1 m1, by rw [g2, m2]; exact ⟨_, _, w_mono q2 hB2⟩⟩
theorem zp_entitle {L : zL} {K : zL} {n : Nat} {t : Nat} {o : Nat} {cn : Nat} {B : Int} {S : Nat → zL} {D : Nat → zL} {fo : Nat → Int64} {r : Int32} {r2 : Int32} {c : Int32} {fr : Int32} {to : Int32} {u : Option ((Nat × Nat × (Nat → zL)) × zL) × (Nat → Int64)} {vm : Int32 × (Nat × (Nat → zL)) × zL} (hw : zW B L K n t) (hh : zHist B S o cn D) (hb : 4809999 ≤ B ∧ B ≤ 80000000) (hL : (fun r u => match u.1 with | some v0 => r = nI 0 ∧ ∃ an, (fun r u => sfEnt L c fr to = 0 ∧ r = zs (u.2 3) n - zs (L 3) n ∧ u.1 = hRem o cn S L ∧ u.2 = sEntitle L t c.toNatClampNeg fr to) an v0 ∧ u.2 = vp_updL fo 0 an.toInt64 | none => u.2 = fo ∧ ∃ E, (fun E => (E = "java/lang/IndexOutOfBoundsException" ∧ sfEnt L c fr to = nI 1) ∨ (E = "java/lang/IllegalArgumentException" ∧ sfEnt L c fr to = nI 2) ∨ (E = "java/lang/IllegalStateException" ∧ sfEnt L c fr to = nI 3)) E ∧ zcode E (nI 1) (nI 2) (nI 0) r) r u) (hM : (fun r u => u.1 = sfEnt K c fr to ∧ (sfEnt K c fr to = 0 → r = zs (u.2.2 3) n - zs (K 3) n ∧ u.2.1 = kRem cn D K ∧ u.2.2 = sEntitle K t c.toNatClampNeg fr to) ∧ (¬ sfEnt K c fr to = 0 → u.2.1 = (cn, D) ∧ u.2.2 = K)) r2 vm) : (vm.1 = r ∧ (r = nI 0 → u.2 0 = r2.toInt64)) ∧ zpF (B + 40000) L S o cn u.1 vm.2 := by
  obtain ⟨hv, hM1, hM2⟩ := hM
  have hB2 : B ≤ B + 40000 := by omega
  obtain ⟨h0, h1, h2, h3⟩ : (sfEnt L c fr to = 0 ↔ sfEnt K c fr to = 0) ∧ (sfEnt L c fr to = nI 1 → sfEnt K c fr to = nI 1) ∧ (sfEnt L c fr to = nI 2 → sfEnt K c fr to = nI 2) ∧ (sfEnt L c fr to = nI 3 → sfEnt K c fr to = nI 0) := by rw [f_ent (wR hw)]; exact ⟨Iff.rfl, id, id, fun y => absurd y (zn_ent3 K c fr to)⟩
  rcases u with ⟨_ | v0, f1⟩
  · obtain ⟨hf, E, hn, hz⟩ := hL
    obtain ⟨e1, e2⟩ := thr_code hn hz h1 h2 h3
    have hk : ¬ sfEnt K c fr to = 0 := fun y => e2 (h0.mpr y)
    obtain ⟨m1, m2⟩ := hM2 hk
    exact ⟨zp_n (hv.trans e1) (fun y => hk (e1.trans y)), zp_keep hh hB2 m1, by rw [m2]; exact ⟨n, t, w_mono hw hB2⟩⟩
  · obtain ⟨hr, an, ⟨hF, ea, g1, g2⟩, hf⟩ := hL
    have hk : sfEnt K c fr to = 0 := h0.mp hF
    obtain ⟨m0, m1, m2⟩ := hM1 hk
    obtain ⟨q1, q2⟩ := a_ent hw (by omega) (by omega) hk
    exact ⟨zp_s hr hf (hv.trans hk) (by rw [ea, m0, g2, m2]; exact q1), zp_rem hw hh hB2 g1 m1, by rw [g2, m2]; exact ⟨_, _, q2⟩⟩
theorem zp_writeOff {L : zL} {K : zL} {n : Nat} {t : Nat} {o : Nat} {cn : Nat} {B : Int} {S : Nat → zL} {D : Nat → zL} {fo : Nat → Int64} {r : Int32} {r2 : Int32} {f : Int32} {u : Option ((Nat × Nat × (Nat → zL)) × zL) × (Nat → Int64)} {vm : Int32 × (Nat × (Nat → zL)) × zL} (hw : zW B L K n t) (hh : zHist B S o cn D) (hb : 4809999 ≤ B ∧ B ≤ 80000000) (hL : (fun r u => match u.1 with | some v0 => r = nI 0 ∧ ∃ an, (fun r u => sfOff L n f = 0 ∧ r = sDebt L n f ∧ u.1 = hRem o cn S L ∧ u.2 = sWrite L n f.toNatClampNeg) an v0 ∧ u.2 = vp_updL fo 0 an.toInt64 | none => u.2 = fo ∧ ∃ E, (fun E => (E = "java/lang/IndexOutOfBoundsException" ∧ sfOff L n f = nI 1) ∨ (E = "java/lang/IllegalArgumentException" ∧ sfOff L n f = nI 2) ∨ (E = "java/lang/IllegalStateException" ∧ sfOff L n f = nI 3)) E ∧ zcode E (nI 1) (nI 0) (nI 2) r) r u) (hM : (fun r u => u.1 = kwOff K n f ∧ (kwOff K n f = 0 → r = sDebt K n f ∧ u.2.1 = kRem cn D K ∧ u.2.2 = sWrite K n f.toNatClampNeg) ∧ (¬ kwOff K n f = 0 → u.2.1 = (cn, D) ∧ u.2.2 = K)) r2 vm) : (vm.1 = r ∧ (r = nI 0 → u.2 0 = r2.toInt64)) ∧ zpF (B + 40000) L S o cn u.1 vm.2 := by
  obtain ⟨hv, hM1, hM2⟩ := hM
  have hB2 : B ≤ B + 40000 := by omega
  obtain ⟨h0, h1, h2, h3⟩ : (sfOff L n f = 0 ↔ kwOff K n f = 0) ∧ (sfOff L n f = nI 1 → kwOff K n f = nI 1) ∧ (sfOff L n f = nI 2 → kwOff K n f = nI 0) ∧ (sfOff L n f = nI 3 → kwOff K n f = nI 2) := ⟨(kwOff_f (wR hw) f).1, (kwOff_f (wR hw) f).2.1, fun y => absurd y (kwOff_f (wR hw) f).2.2.2, (kwOff_f (wR hw) f).2.2.1⟩
  rcases u with ⟨_ | v0, f1⟩
  · obtain ⟨hf, E, hn, hz⟩ := hL
    obtain ⟨e1, e2⟩ := thr_code hn hz h1 h2 h3
    have hk : ¬ kwOff K n f = 0 := fun y => e2 (h0.mpr y)
    obtain ⟨m1, m2⟩ := hM2 hk
    exact ⟨zp_n (hv.trans e1) (fun y => hk (e1.trans y)), zp_keep hh hB2 m1, by rw [m2]; exact ⟨n, t, w_mono hw hB2⟩⟩
  · obtain ⟨hr, an, ⟨hF, ea, g1, g2⟩, hf⟩ := hL
    have hk : kwOff K n f = 0 := h0.mp hF
    obtain ⟨m0, m1, m2⟩ := hM1 hk
    obtain ⟨q1, q2⟩ := a_off hw (by omega) (zn_off0 hk)
    exact ⟨zp_s hr hf (hv.trans hk) (by rw [ea, m0]; exact q1), zp_rem hw hh hB2 g1 m1, by rw [g2, m2]; exact ⟨_, _, w_mono q2 hB2⟩⟩
theorem zp_days {L : zL} {K : zL} {n : Nat} {t : Nat} {o : Nat} {cn : Nat} {B : Int} {S : Nat → zL} {D : Nat → zL} {fo : Nat → Int64} {r : Int32} {r2 : Int32} {k : Int32} {u : Option ((Nat × Nat × (Nat → zL)) × zL) × (Nat → Int64)} {vm : Int32 × (Nat × (Nat → zL)) × zL} (hw : zW B L K n t) (hh : zHist B S o cn D) (hb : 4809999 ≤ B ∧ B ≤ 80000000) (hL : (fun r u => match u.1 with | some v0 => r = nI 0 ∧ ∃ an, (fun r u => sfDays t k = 0 ∧ r = (sDays n t k.toNatClampNeg L).1 ∧ u.1 = hRem o cn S L ∧ u.2 = (sDays n t k.toNatClampNeg L).2) an v0 ∧ u.2 = vp_updL fo 0 an.toInt64 | none => u.2 = fo ∧ ∃ E, (fun E => (E = "java/lang/IndexOutOfBoundsException" ∧ sfDays t k = nI 1) ∨ (E = "java/lang/IllegalArgumentException" ∧ sfDays t k = nI 2) ∨ (E = "java/lang/IllegalStateException" ∧ sfDays t k = nI 3)) E ∧ zcode E (nI 0) (nI 1) (nI 2) r) r u) (hM : (fun r u => u.1 = kwDays t k ∧ (kwDays t k = 0 → r = kSrv u.2.2 n (-1) (-1) - kSrv K n (-1) (-1) ∧ u.2.1 = kRem cn D K ∧ u.2.2 = kDays n t k.toNatClampNeg K) ∧ (¬ kwDays t k = 0 → u.2.1 = (cn, D) ∧ u.2.2 = K)) r2 vm) : (vm.1 = r ∧ (r = nI 0 → u.2 0 = r2.toInt64)) ∧ zpF (B + 40000) L S o cn u.1 vm.2 := by
  obtain ⟨hv, hM1, hM2⟩ := hM
  have hB2 : B ≤ B + 40000 := by omega
  obtain ⟨h0, h1, h2, h3⟩ : (sfDays t k = 0 ↔ kwDays t k = 0) ∧ (sfDays t k = nI 1 → kwDays t k = nI 0) ∧ (sfDays t k = nI 2 → kwDays t k = nI 1) ∧ (sfDays t k = nI 3 → kwDays t k = nI 2) := ⟨(kwDays_f t k).1, fun y => absurd y (kwDays_f t k).2.2.2, (kwDays_f t k).2.1, (kwDays_f t k).2.2.1⟩
  rcases u with ⟨_ | v0, f1⟩
  · obtain ⟨hf, E, hn, hz⟩ := hL
    obtain ⟨e1, e2⟩ := thr_code hn hz h1 h2 h3
    have hk : ¬ kwDays t k = 0 := fun y => e2 (h0.mpr y)
    obtain ⟨m1, m2⟩ := hM2 hk
    exact ⟨zp_n (hv.trans e1) (fun y => hk (e1.trans y)), zp_keep hh hB2 m1, by rw [m2]; exact ⟨n, t, w_mono hw hB2⟩⟩
  · obtain ⟨hr, an, ⟨hF, ea, g1, g2⟩, hf⟩ := hL
    have hk : kwDays t k = 0 := h0.mp hF
    obtain ⟨m0, m1, m2⟩ := hM1 hk
    obtain ⟨q1, t2, q2⟩ := a_days hw (by omega) (by omega) hF
    exact ⟨zp_s hr hf (hv.trans hk) (by rw [ea, m0, m2]; exact q1), zp_rem hw hh hB2 g1 m1, by rw [g2, m2]; exact ⟨_, _, w_mono q2 hB2⟩⟩
theorem zp_set {L : zL} {K : zL} {n : Nat} {t : Nat} {o : Nat} {cn : Nat} {B : Int} {S : Nat → zL} {D : Nat → zL} {fo : Nat → Int64} {r : Int32} {r2 : Int32} {w : Int32} {v : Int32} {u : Option ((Nat × Nat × (Nat → zL)) × zL) × (Nat → Int64)} {vm : Int32 × (Nat × (Nat → zL)) × zL} (hw : zW B L K n t) (hh : zHist B S o cn D) (hb : 4809999 ≤ B ∧ B ≤ 80000000) (hL : (fun r u => match u.1 with | some v0 => r = nI 0 ∧ ∃ an, (fun r u => sfSet w v = 0 ∧ r = (if w = 0 then L 0 2 else L 0 3) ∧ u.1 = hRem o cn S L ∧ u.2 = sSet L w v) an v0 ∧ u.2 = vp_updL fo 0 an.toInt64 | none => u.2 = fo ∧ ∃ E, (fun E => (E = "java/lang/IndexOutOfBoundsException" ∧ sfSet w v = nI 1) ∨ (E = "java/lang/IllegalArgumentException" ∧ sfSet w v = nI 2) ∨ (E = "java/lang/IllegalStateException" ∧ sfSet w v = nI 3)) E ∧ zcode E (nI 0) (nI 1) (nI 0) r) r u) (hM : (fun r u => u.1 = kwSet w v ∧ (kwSet w v = 0 → r = (if w = 0 then K 0 2 else K 0 3) ∧ u.2.1 = kRem cn D K ∧ u.2.2 = sSet K w v) ∧ (¬ kwSet w v = 0 → u.2.1 = (cn, D) ∧ u.2.2 = K)) r2 vm) : (vm.1 = r ∧ (r = nI 0 → u.2 0 = r2.toInt64)) ∧ zpF (B + 40000) L S o cn u.1 vm.2 := by
  obtain ⟨hv, hM1, hM2⟩ := hM
  have hB2 : B ≤ B + 40000 := by omega
  obtain ⟨h0, h1, h2, h3⟩ : (sfSet w v = 0 ↔ kwSet w v = 0) ∧ (sfSet w v = nI 1 → kwSet w v = nI 0) ∧ (sfSet w v = nI 2 → kwSet w v = nI 1) ∧ (sfSet w v = nI 3 → kwSet w v = nI 0) := ⟨(kwSet_f w v).1, fun y => absurd y (kwSet_f w v).2.2.1, (kwSet_f w v).2.1, fun y => absurd y (kwSet_f w v).2.2.2⟩
  rcases u with ⟨_ | v0, f1⟩
  · obtain ⟨hf, E, hn, hz⟩ := hL
    obtain ⟨e1, e2⟩ := thr_code hn hz h1 h2 h3
    have hk : ¬ kwSet w v = 0 := fun y => e2 (h0.mpr y)
    obtain ⟨m1, m2⟩ := hM2 hk
    exact ⟨zp_n (hv.trans e1) (fun y => hk (e1.trans y)), zp_keep hh hB2 m1, by rw [m2]; exact ⟨n, t, w_mono hw hB2⟩⟩
  · obtain ⟨hr, an, ⟨hF, ea, g1, g2⟩, hf⟩ := hL
    have hk : kwSet w v = 0 := h0.mp hF
    obtain ⟨m0, m1, m2⟩ := hM1 hk
    obtain ⟨q1, q2⟩ := a_set hw hk
    exact ⟨zp_s hr hf (hv.trans hk) (by rw [ea, m0]; exact q1), zp_rem hw hh hB2 g1 m1, by rw [g2, m2]; exact ⟨_, _, w_mono q2 hB2⟩⟩
theorem zp_append {T : zL} {tn : Nat} {ch : Nat → Int32} {fo : Nat → Int64} {r : Int32} {r2 : Int32} {c : Int32} {u : Option (zL) × (Nat → Int64)} {vm : Int32 × Nat × (Nat → Int32)} (hx : zText T tn ch) (hL : (fun r u => match u.1 with | some v0 => r = nI 0 ∧ ∃ an, (fun r u => ¬ c < 0 ∧ ¬ nI 255 < c ∧ tn < 120 ∧ r = nI (tn + 1) ∧ u = tAdd T tn c.toNatClampNeg) an v0 ∧ u.2 = vp_updL fo 0 an.toInt64 | none => u.2 = fo ∧ ∃ E, (fun E => (E = "java/lang/IllegalArgumentException" ∧ (c < 0 ∨ nI 255 < c)) ∨ (E = "java/lang/IllegalStateException" ∧ ¬ c < 0 ∧ ¬ nI 255 < c ∧ ¬ tn < 120)) E ∧ zcode E (nI 0) (nI 1) (nI 2) r) r u) (hM : (fun r u => (zIn c 256 ∧ tn < 120 ∧ u.1 = 0 ∧ r = nI u.2.1 ∧ u.2.1 = tn + 1 ∧ u.2.2 = upd ch tn c) ∨ (¬ zIn c 256 ∧ u.1 = nI 1 ∧ u.2.1 = tn ∧ u.2.2 = ch) ∨ (zIn c 256 ∧ ¬ tn < 120 ∧ u.1 = nI 2 ∧ u.2.1 = tn ∧ u.2.2 = ch)) r2 vm) : (vm.1 = r ∧ (r = nI 0 → u.2 0 = r2.toInt64)) ∧ (match u.1 with | some v0 => zText v0 vm.2.1 vm.2.2 | none => zText T vm.2.1 vm.2.2) := by
  rcases u with ⟨_ | v0, f1⟩
  · obtain ⟨hf, E, hn, hz⟩ := hL
    rcases hn with ⟨rfl, hc⟩ | ⟨rfl, c1, c2, ht⟩
    · rcases hM with ⟨z, -⟩ | ⟨-, hv, e1, e2⟩ | ⟨z, -⟩
      · exact absurd (zIn_c.mp z) (fun y => hc.elim y.1 y.2)
      · exact ⟨zp_e hz (Or.inr (Or.inl ⟨rfl, hv, by decide⟩)), by show zText T vm.2.1 vm.2.2; rw [e1, e2]; exact hx⟩
      · exact absurd (zIn_c.mp z) (fun y => hc.elim y.1 y.2)
    · rcases hM with ⟨-, z, -⟩ | ⟨z, -⟩ | ⟨-, -, hv, e1, e2⟩
      · exact absurd z ht
      · exact absurd (zIn_c.mpr ⟨c1, c2⟩) z
      · exact ⟨zp_e hz (Or.inr (Or.inr ⟨rfl, hv, by decide⟩)), by show zText T vm.2.1 vm.2.2; rw [e1, e2]; exact hx⟩
  · obtain ⟨hr, an, ⟨c1, c2, ht, ea, ev⟩, hf⟩ := hL
    rcases hM with ⟨-, -, hv, e0, e1, e2⟩ | ⟨z, -⟩ | ⟨-, z, -⟩
    · refine ⟨zp_s hr hf hv (by rw [ea, e0, e1]), ?_⟩
      obtain ⟨j, hj, ec⟩ := zIn_c.mpr ⟨c1, c2⟩
      show zText v0 vm.2.1 vm.2.2
      rw [ev, e1, e2, ec, nI_clamp (by omega)]
      exact text_add hx hj ht
    · exact absurd (zIn_c.mpr ⟨c1, c2⟩) z
    · exact absurd ht z
theorem zp_load {L : zL} {K : zL} {T : zL} {tn : Nat} {B : Int} {sk : Nat → Int32} {ch : Nat → Int32} {fo : Nat → Int64} {r : Int32} {r2 : Int32}  {u : Option (zL × zL × (Nat → Int32)) × (Nat → Int64) × zL} {vm : Int32 × Int32 × zL × (Nat → Int32) × (Nat × zL × Int32)} {ac : Int32} (hx : zText T tn ch) (hb : 4809999 ≤ B) (hL : (fun r u => match u.1 with | some v0 => r = nI 0 ∧ ∃ an, (fun r u => (tEr T tn).1 = true ∧ r = (lRun (tEr T tn).2.2 L tn 120).1 ∧ u.1 = (lRun (tEr T tn).2.2 L tn 120).2.1.2.2 ∧ u.2.1 = (lRun (tEr T tn).2.2 L tn 120).2.2 ∧ ∀ j, j < 2 → u.2.2 j = nI 0) an v0 ∧ u.2.1 = vp_updL fo 0 an.toInt64 | none => u.2.1 = fo ∧ ∃ E, (fun E v => E = "java/lang/IllegalStateException" ∧ ¬ (tEr T tn).1 = true ∧ v = (tEr T tn).2.2) E u.2.2 ∧ zcode E (nI 0) (nI 0) (nI 1) r) r u) (hM : (fun r u => ((kText ch tn).1 = true ∧ u.1 = 0 ∧ u.2.1 = 0 ∧ r = u.2.2.2.2.2.2 ∧ u.2.2.1 = (kText ch tn).2.2.1 ∧ r = (kText ch tn).2.2.2 ∧ ∀ j, j < 2 → u.2.2.2.1 j = nI 0) ∨ (¬ (kText ch tn).1 = true ∧ u.1 = nI 1 ∧ u.2.1 = ac ∧ u.2.2.1 = K ∧ u.2.2.2.1 = sk ∧ True ∧ True)) r2 vm) : (vm.1 = r ∧ (r = nI 0 → u.2.1 0 = r2.toInt64)) ∧ (match u.1 with | some v0 => zText v0.1 tn ch ∧ (∃ n9 t9, zW B v0.2.1 vm.2.2.1 n9 t9) ∧ (∀ j, j < 2 → v0.2.2 j = nI 0) ∧ (∀ j, j < 2 → vm.2.2.2.1 j = nI 0) ∧ vm.2.1 = nI 0 | none => zText u.2.2 tn ch ∧ vm.2.2.1 = K ∧ vm.2.2.2.1 = sk ∧ vm.2.1 = ac) := by
  rcases u with ⟨_ | v0, f1, x9⟩
  · obtain ⟨hf, E, ⟨rfl, hn, ev⟩, hz⟩ := hL
    have ev : x9 = (tEr T tn).2.2 := ev
    rcases hM with ⟨z, -⟩ | ⟨-, hv, e1, e2, e3, -, -⟩
    · exact absurd ((text_er hx).2.1.trans z) hn
    · refine ⟨zp_e hz (Or.inr (Or.inr ⟨rfl, hv, by decide⟩)), ?_, e2, e3, e1⟩
      show zText x9 tn ch
      rw [ev]
      exact (text_er hx).1
  · obtain ⟨hr, an, ⟨hk, ea, g1, g2, g3⟩, hf⟩ := hL
    have hk2 : (kText ch tn).1 = true := (text_er hx).2.1.symm.trans hk
    obtain ⟨q1, q2, n', t', q3⟩ := text_load hx L hk2
    obtain ⟨⟨po, hp⟩, -⟩ := hx
    rcases hM with ⟨-, hv, e1, -, e2, e3, e4⟩ | ⟨z, -⟩
    · exact ⟨zp_s hr hf hv (by rw [ea, e3]; exact q1), ⟨⟨_, by rw [g1]; exact lRun_inv (tEr_inv hp) L 120⟩, by rw [g1]; exact q2⟩, ⟨n', t', by rw [g2, e2]; exact w_mono q3 hb⟩, g3, e4, e1⟩
    · exact absurd hk2 z
theorem zp_about {L : zL} {K : zL} {n : Nat} {t : Nat} {B : Int} {fo : Nat → Int64} {r : Int32} {r2 : Int32} {w : Int32} {u : Option (Unit) × (Nat → Int64)} {vm : Int32} (hw : zW B L K n t) (hL : (fun r u => match u.1 with | some v0 => r = nI 0 ∧ ∃ an, (fun r _ => zIn w 12 ∧ r = xAbout L n t w) an v0 ∧ u.2 = vp_updL fo 0 an.toInt64 | none => u.2 = fo ∧ ∃ E, (fun E => E = "java/lang/IllegalArgumentException" ∧ ¬ zIn w 12) E ∧ zcode E (nI 0) (nI 1) (nI 0) r) r u) (hM : (fun r u => (zIn w 12 ∧ u = nI 0 ∧ r = mAbout K n t w) ∨ (¬ zIn w 12 ∧ u = nI 1)) r2 vm) : (vm = r ∧ (r = nI 0 → u.2 0 = r2.toInt64)) := by
  rcases u with ⟨_ | v0, f1⟩
  · obtain ⟨hf, E, ⟨rfl, hn⟩, hz⟩ := hL
    rcases hM with ⟨z, -⟩ | ⟨-, hv⟩
    · exact absurd z hn
    · exact zp_e hz (Or.inr (Or.inl ⟨rfl, hv, by decide⟩))
  · obtain ⟨hr, an, ⟨hi, ea⟩, hf⟩ := hL
    rcases hM with ⟨-, hv, e0⟩ | ⟨z, -⟩
    · exact zp_s hr hf hv (by rw [ea, e0]; exact q_about (wR hw) w)
    · exact absurd hi z
theorem zp_setting {L : zL} {K : zL} {n : Nat} {t : Nat} {B : Int} {fo : Nat → Int64} {r : Int32} {r2 : Int32} {w : Int32} {u : Option (Unit) × (Nat → Int64)} {vm : Int32} (hw : zW B L K n t) (hL : (fun r u => match u.1 with | some v0 => r = nI 0 ∧ ∃ an, (fun r _ => zIn w 2 ∧ r = xSetting L n t w) an v0 ∧ u.2 = vp_updL fo 0 an.toInt64 | none => u.2 = fo ∧ ∃ E, (fun E => E = "java/lang/IllegalArgumentException" ∧ ¬ zIn w 2) E ∧ zcode E (nI 0) (nI 1) (nI 0) r) r u) (hM : (fun r u => (zIn w 2 ∧ u = nI 0 ∧ r = K 0 (2 + w.toNatClampNeg)) ∨ (¬ zIn w 2 ∧ u = nI 1)) r2 vm) : (vm = r ∧ (r = nI 0 → u.2 0 = r2.toInt64)) := by
  rcases u with ⟨_ | v0, f1⟩
  · obtain ⟨hf, E, ⟨rfl, hn⟩, hz⟩ := hL
    rcases hM with ⟨z, -⟩ | ⟨-, hv⟩
    · exact absurd z hn
    · exact zp_e hz (Or.inr (Or.inl ⟨rfl, hv, by decide⟩))
  · obtain ⟨hr, an, ⟨hi, ea⟩, hf⟩ := hL
    rcases hM with ⟨-, hv, e0⟩ | ⟨z, -⟩
    · exact zp_s hr hf hv (by rw [ea, e0]; exact q_setting (wR hw) hi)
    · exact absurd hi z
theorem zp_child {L : zL} {K : zL} {n : Nat} {t : Nat} {B : Int} {fo : Nat → Int64} {r : Int32} {r2 : Int32} {c : Int32} {w : Int32} {u : Option (Unit) × (Nat → Int64)} {vm : Int32} (hw : zW B L K n t) (hL : (fun r u => match u.1 with | some v0 => r = nI 0 ∧ ∃ an, (fun r _ => sHas L c ∧ zIn w 9 ∧ r = xChild L n t c.toNatClampNeg w) an v0 ∧ u.2 = vp_updL fo 0 an.toInt64 | none => u.2 = fo ∧ ∃ E, (fun E => (E = "java/lang/IndexOutOfBoundsException" ∧ ¬ sHas L c) ∨ (E = "java/lang/IllegalArgumentException" ∧ sHas L c ∧ ¬ zIn w 9)) E ∧ zcode E (nI 1) (nI 2) (nI 0) r) r u) (hM : (fun r u => (sHas K c ∧ zIn w 9 ∧ u = nI 0 ∧ r = mChild K n t c.toNatClampNeg w) ∨ (¬ sHas K c ∧ u = nI 1) ∨ (sHas K c ∧ ¬ zIn w 9 ∧ u = nI 2)) r2 vm) : (vm = r ∧ (r = nI 0 → u.2 0 = r2.toInt64)) := by
  rcases u with ⟨_ | v0, f1⟩
  · obtain ⟨hf, E, hn, hz⟩ := hL
    rcases hn with ⟨rfl, hn⟩ | ⟨rfl, h1, hn⟩
    · rcases hM with ⟨z, -⟩ | ⟨-, hv⟩ | ⟨z, -⟩
      · exact absurd ((r_has (wR hw) c).mpr z) hn
      · exact zp_e hz (Or.inl ⟨rfl, hv, by decide⟩)
      · exact absurd ((r_has (wR hw) c).mpr z) hn
    · rcases hM with ⟨-, z, -⟩ | ⟨z, -⟩ | ⟨-, -, hv⟩
      · exact absurd z hn
      · exact absurd ((r_has (wR hw) c).mp h1) z
      · exact zp_e hz (Or.inr (Or.inl ⟨rfl, hv, by decide⟩))
  · obtain ⟨hr, an, ⟨h1, hi, ea⟩, hf⟩ := hL
    rcases hM with ⟨-, -, hv, e0⟩ | ⟨z, -⟩ | ⟨-, z, -⟩
    · obtain ⟨k, hk, rfl⟩ := sHas_nat (rL (wR hw)) h1
      have hn := rn (wR hw)
      rw [nI_clamp (by omega)] at ea e0
      exact zp_s hr hf hv (by rw [ea, e0]; exact q_child (wR hw) hk w)
    · exact absurd ((r_has (wR hw) c).mp h1) z
    · exact absurd hi z
theorem zp_family {L : zL} {K : zL} {n : Nat} {t : Nat} {B : Int} {fo : Nat → Int64} {r : Int32} {r2 : Int32} {f : Int32} {w : Int32} {u : Option (Unit) × (Nat → Int64)} {vm : Int32} (hw : zW B L K n t) (hL : (fun r u => match u.1 with | some v0 => r = nI 0 ∧ ∃ an, (fun r _ => sFam f ∧ zIn w 5 ∧ r = xFamily L n t f.toNatClampNeg w) an v0 ∧ u.2 = vp_updL fo 0 an.toInt64 | none => u.2 = fo ∧ ∃ E, (fun E => (E = "java/lang/IndexOutOfBoundsException" ∧ ¬ sFam f) ∨ (E = "java/lang/IllegalArgumentException" ∧ sFam f ∧ ¬ zIn w 5)) E ∧ zcode E (nI 1) (nI 2) (nI 0) r) r u) (hM : (fun r u => (sFam f ∧ zIn w 5 ∧ u = nI 0 ∧ r = mFamily K n t f.toNatClampNeg w) ∨ (¬ sFam f ∧ u = nI 1) ∨ (sFam f ∧ ¬ zIn w 5 ∧ u = nI 2)) r2 vm) : (vm = r ∧ (r = nI 0 → u.2 0 = r2.toInt64)) := by
  rcases u with ⟨_ | v0, f1⟩
  · obtain ⟨hf, E, hn, hz⟩ := hL
    rcases hn with ⟨rfl, hn⟩ | ⟨rfl, h1, hn⟩
    · rcases hM with ⟨z, -⟩ | ⟨-, hv⟩ | ⟨z, -⟩
      · exact absurd (z) hn
      · exact zp_e hz (Or.inl ⟨rfl, hv, by decide⟩)
      · exact absurd (z) hn
    · rcases hM with ⟨-, z, -⟩ | ⟨z, -⟩ | ⟨-, -, hv⟩
      · exact absurd z hn
      · exact absurd (h1) z
      · exact zp_e hz (Or.inr (Or.inl ⟨rfl, hv, by decide⟩))
  · obtain ⟨hr, an, ⟨h1, hi, ea⟩, hf⟩ := hL
    rcases hM with ⟨-, -, hv, e0⟩ | ⟨z, -⟩ | ⟨-, z, -⟩
    · obtain ⟨k, hk, rfl⟩ := sFam_nat h1
      have hn := rn (wR hw)
      rw [nI_clamp (by omega)] at ea e0
      exact zp_s hr hf hv (by rw [ea, e0]; exact q_family (wR hw) hk w)
    · exact absurd (h1) z
    · exact absurd hi z
theorem zp_day {L : zL} {K : zL} {n : Nat} {t : Nat} {B : Int} {fo : Nat → Int64} {r : Int32} {r2 : Int32} {d : Int32} {w : Int32} {u : Option (Unit) × (Nat → Int64)} {vm : Int32} (hw : zW B L K n t) (hL : (fun r u => match u.1 with | some v0 => r = nI 0 ∧ ∃ an, (fun r _ => sDay d ∧ zIn w 4 ∧ r = xDay L n t d.toNatClampNeg w) an v0 ∧ u.2 = vp_updL fo 0 an.toInt64 | none => u.2 = fo ∧ ∃ E, (fun E => (E = "java/lang/IndexOutOfBoundsException" ∧ ¬ sDay d) ∨ (E = "java/lang/IllegalArgumentException" ∧ sDay d ∧ ¬ zIn w 4)) E ∧ zcode E (nI 1) (nI 2) (nI 0) r) r u) (hM : (fun r u => (sDay d ∧ zIn w 4 ∧ u = nI 0 ∧ r = mDay K n t d.toNatClampNeg w) ∨ (¬ sDay d ∧ u = nI 1) ∨ (sDay d ∧ ¬ zIn w 4 ∧ u = nI 2)) r2 vm) : (vm = r ∧ (r = nI 0 → u.2 0 = r2.toInt64)) := by
  rcases u with ⟨_ | v0, f1⟩
  · obtain ⟨hf, E, hn, hz⟩ := hL
    rcases hn with ⟨rfl, hn⟩ | ⟨rfl, h1, hn⟩
    · rcases hM with ⟨z, -⟩ | ⟨-, hv⟩ | ⟨z, -⟩
      · exact absurd (z) hn
      · exact zp_e hz (Or.inl ⟨rfl, hv, by decide⟩)
      · exact absurd (z) hn
    · rcases hM with ⟨-, z, -⟩ | ⟨z, -⟩ | ⟨-, -, hv⟩
      · exact absurd z hn
      · exact absurd (h1) z
      · exact zp_e hz (Or.inr (Or.inl ⟨rfl, hv, by decide⟩))
  · obtain ⟨hr, an, ⟨h1, hi, ea⟩, hf⟩ := hL
    rcases hM with ⟨-, -, hv, e0⟩ | ⟨z, -⟩ | ⟨-, z, -⟩
    · obtain ⟨k, hk, rfl⟩ := sDay_nat h1
      have hn := rn (wR hw)
      rw [nI_clamp (by omega)] at ea e0
      exact zp_s hr hf hv (by rw [ea, e0]; exact q_day (wR hw) (wG hw).2.2.1 hk w)
    · exact absurd (h1) z
    · exact absurd hi z
theorem zp_meal {L : zL} {K : zL} {n : Nat} {t : Nat} {B : Int} {fo : Nat → Int64} {r : Int32} {r2 : Int32} {c : Int32} {d : Int32} {w : Int32} {u : Option (Unit) × (Nat → Int64)} {vm : Int32} (hw : zW B L K n t) (hL : (fun r u => match u.1 with | some v0 => r = nI 0 ∧ ∃ an, (fun r _ => sHas L c ∧ sDay d ∧ zIn w 3 ∧ r = xMeal L n t c.toNatClampNeg d.toNatClampNeg w) an v0 ∧ u.2 = vp_updL fo 0 an.toInt64 | none => u.2 = fo ∧ ∃ E, (fun E => (E = "java/lang/IndexOutOfBoundsException" ∧ ¬ (sHas L c ∧ sDay d)) ∨ (E = "java/lang/IllegalArgumentException" ∧ sHas L c ∧ sDay d ∧ ¬ zIn w 3)) E ∧ zcode E (nI 1) (nI 2) (nI 0) r) r u) (hM : (fun r u => (sHas K c ∧ sDay d ∧ zIn w 3 ∧ u = nI 0 ∧ r = mMeal K c.toNatClampNeg d.toNatClampNeg w) ∨ (¬ sHas K c ∧ u = nI 1) ∨ (sHas K c ∧ ¬ sDay d ∧ u = nI 1) ∨ (sHas K c ∧ sDay d ∧ ¬ zIn w 3 ∧ u = nI 2)) r2 vm) : (vm = r ∧ (r = nI 0 → u.2 0 = r2.toInt64)) := by
  have hh := r_has (wR hw) c
  rcases u with ⟨_ | v0, f1⟩
  · obtain ⟨hf, E, hn, hz⟩ := hL
    rcases hn with ⟨rfl, hn⟩ | ⟨rfl, h1, h2, hn⟩
    · rcases hM with ⟨z, z2, -⟩ | ⟨-, hv⟩ | ⟨-, -, hv⟩ | ⟨z, z2, -⟩
      · exact absurd ⟨hh.mpr z, z2⟩ hn
      · exact zp_e hz (Or.inl ⟨rfl, hv, by decide⟩)
      · exact zp_e hz (Or.inl ⟨rfl, hv, by decide⟩)
      · exact absurd ⟨hh.mpr z, z2⟩ hn
    · rcases hM with ⟨-, -, z, -⟩ | ⟨z, -⟩ | ⟨-, z, -⟩ | ⟨-, -, -, hv⟩
      · exact absurd z hn
      · exact absurd (hh.mp h1) z
      · exact absurd h2 z
      · exact zp_e hz (Or.inr (Or.inl ⟨rfl, hv, by decide⟩))
  · obtain ⟨hr, an, ⟨h1, h2, hi, ea⟩, hf⟩ := hL
    rcases hM with ⟨-, -, -, hv, e0⟩ | ⟨z, -⟩ | ⟨-, z, -⟩ | ⟨-, -, z, -⟩
    · obtain ⟨k, hk, rfl⟩ := sHas_nat (rL (wR hw)) h1
      obtain ⟨k2, hk2, rfl⟩ := sDay_nat h2
      have hn := rn (wR hw)
      rw [nI_clamp (by omega), nI_clamp (by omega)] at ea e0
      exact zp_s hr hf hv (by rw [ea, e0]; exact q_meal (wR hw) hk hk2 hi)
    · exact absurd (hh.mp h1) z
    · exact absurd h2 z
    · exact absurd hi z
theorem zp_undo {L : zL} {K : zL} {n : Nat} {t : Nat} {o : Nat} {cn : Nat} {B : Int} {S : Nat → zL} {D : Nat → zL} {fo : Nat → Int64} {r : Int32} {r2 : Int32}  {u : Option (Unit) × (Nat → Int64)} {vm : Int32 × Nat × zL} (hw : zW B L K n t) (hh : zHist B S o cn D) (hL : (fun r u => match u.1 with | some v0 => r = nI 0 ∧ ∃ an, (fun r _ => ¬ cn = 0 ∧ r = nI (cn - 1)) an v0 ∧ u.2 = vp_updL fo 0 an.toInt64 | none => u.2 = fo ∧ ∃ E, (fun E => E = "java/lang/IllegalStateException" ∧ cn = 0) E ∧ zcode E (nI 0) (nI 0) (nI 1) r) r u) (hM : (fun r u => (¬ cn = 0 ∧ u.1 = 0 ∧ r = nI (cn - 1) ∧ u.2.1 = cn - 1 ∧ u.2.2 = D (cn - 1)) ∨ (cn = 0 ∧ u.1 = nI 1 ∧ u.2.1 = cn ∧ u.2.2 = K)) r2 vm) : (vm.1 = r ∧ (r = nI 0 → u.2 0 = r2.toInt64)) ∧ (match u.1 with | some _ => (∃ n t, zW B (S ((o + (cn - 1)) % 14)) vm.2.2 n t) ∧ zHist B S o (cn - 1) D ∧ vm.2.1 = cn - 1 | none => vm.2.1 = cn ∧ vm.2.2 = K) := by
  rcases u with ⟨_ | v0, f1⟩
  · obtain ⟨hf, E, ⟨rfl, hn⟩, hz⟩ := hL
    rcases hM with ⟨z, -⟩ | ⟨-, hv, e1, e2⟩
    · exact absurd hn z
    · exact ⟨zp_e hz (Or.inr (Or.inr ⟨rfl, hv, by decide⟩)), e1, e2⟩
  · obtain ⟨hr, an, ⟨h1, ea⟩, hf⟩ := hL
    rcases hM with ⟨-, hv, e0, e1, e2⟩ | ⟨z, -⟩
    · obtain ⟨⟨n', t', q1⟩, q2⟩ := hist_undo hh h1
      exact ⟨zp_s hr hf hv (by rw [ea, e0]), ⟨n', t', by rw [e2]; exact q1⟩, q2, e1⟩
    · exact absurd z h1
theorem zp_refusedOn {L : zL} {K : zL} {n : Nat} {t : Nat} {B : Int} {fo : Nat → Int64} {r : Int32} {r2 : Int32} {c : Int32} {u : Option (zL) × (Nat → Int64)} {vm : Int32 × zL} (hw : zW B L K n t) (hL : (fun r u => match u.1 with | some v0 => r = nI 0 ∧ ∃ an, (fun r _ => sHas L c ∧ r = sOpt (sSp L n t (L 1 c.toNatClampNeg) c 40).1) an v0 ∧ u.2 = vp_updL fo 0 an.toInt64 | none => u.2 = fo ∧ ∃ E, (fun E => E = "java/lang/IndexOutOfBoundsException" ∧ ¬ sHas L c) E ∧ zcode E (nI 1) (nI 0) (nI 0) r) r u) (hM : (fun r u => (sHas K c ∧ u.1 = 0 ∧ ((∃ d, t ≤ d ∧ d < 40 ∧ r = nI d ∧ kEnd K n t 9 (c.toNatClampNeg * 40 + d) = nI 4 ∧ ∀ e, t ≤ e → e < d → ¬ kEnd K n t 9 (c.toNatClampNeg * 40 + e) = nI 4) ∨ (r = -1 ∧ ∀ e, t ≤ e → e < 40 → ¬ kEnd K n t 9 (c.toNatClampNeg * 40 + e) = nI 4))) ∨ (¬ sHas K c ∧ u.1 = nI 1)) r2 vm) : (vm.1 = r ∧ (r = nI 0 → u.2 0 = r2.toInt64)) := by
  have hh := r_has (wR hw) c
  rcases u with ⟨_ | v0, f1⟩
  · obtain ⟨hf, E, ⟨rfl, hn⟩, hz⟩ := hL
    rcases hM with ⟨z, -⟩ | ⟨-, hv⟩
    · exact absurd (hh.mpr z) hn
    · exact zp_e hz (Or.inl ⟨rfl, hv, by decide⟩)
  · obtain ⟨hr, an, ⟨h1, ea⟩, hf⟩ := hL
    rcases hM with ⟨-, hv, e0⟩ | ⟨z, -⟩
    · obtain ⟨k, hk, rfl⟩ := sHas_nat (rL (wR hw)) h1
      have hn := rn (wR hw)
      rw [nI_clamp (by omega)] at ea e0
      exact zp_s hr hf hv (by rw [ea]; exact q_refused (wR hw) (wK hw) hk e0)
    · exact absurd (hh.mp h1) z
theorem zp_needs {L : zL} {K : zL} {n : Nat} {t : Nat} {B : Int} {fo : Nat → Int64} {r : Int32} {r2 : Int32} {f : Int32} {u : Option (zL) × (Nat → Int64)} {vm : Int32 × zL} (hw : zW B L K n t) (hL : (fun r u => match u.1 with | some v0 => r = nI 0 ∧ ∃ an, (fun r _ => sFam f ∧ ((∃ lo, lo < n ∧ L 1 lo = f ∧ (∀ j, j < lo → ¬ L 1 j = f) ∧ ((∃ k, k ≤ 200 ∧ r = nI (100 * k) ∧ nTry L n t f lo k ∧ ∀ j, j < k → ¬ nTry L n t f lo j) ∨ (r = -1 ∧ ∀ j, j < 201 → ¬ nTry L n t f lo j))) ∨ (r = -1 ∧ ∀ j, j < n → ¬ L 1 j = f))) an v0 ∧ u.2 = vp_updL fo 0 an.toInt64 | none => u.2 = fo ∧ ∃ E, (fun E => E = "java/lang/IndexOutOfBoundsException" ∧ ¬ sFam f) E ∧ zcode E (nI 1) (nI 0) (nI 0) r) r u) (hM : (fun r u => (sFam f ∧ u.1 = 0 ∧ ((∃ lo, lo < n ∧ K 1 lo = f ∧ (∀ j, j < lo → ¬ K 1 j = f) ∧ ((∃ k, k ≤ 200 ∧ r = nI (100 * k) ∧ kTry K n t f lo k ∧ ∀ j, j < k → ¬ kTry K n t f lo j) ∨ (r = -1 ∧ ∀ j, j < 201 → ¬ kTry K n t f lo j))) ∨ (r = -1 ∧ ∀ j, j < n → ¬ K 1 j = f))) ∨ (¬ sFam f ∧ u.1 = nI 1)) r2 vm) : (vm.1 = r ∧ (r = nI 0 → u.2 0 = r2.toInt64)) := by
  rcases u with ⟨_ | v0, f1⟩
  · obtain ⟨hf, E, ⟨rfl, hn⟩, hz⟩ := hL
    rcases hM with ⟨z, -⟩ | ⟨-, hv⟩
    · exact absurd z hn
    · exact zp_e hz (Or.inl ⟨rfl, hv, by decide⟩)
  · obtain ⟨hr, an, ⟨h1, ea⟩, hf⟩ := hL
    rcases hM with ⟨-, hv, e0⟩ | ⟨z, -⟩
    · exact zp_s hr hf hv (q_needs (wR hw) (wK hw) ea e0)
    · exact absurd h1 z
theorem zp_ifEntitled {L : zL} {K : zL} {n : Nat} {t : Nat} {B : Int} {fo : Nat → Int64} {r : Int32} {r2 : Int32} {c : Int32} {fr : Int32} {to : Int32} {u : Option (zL) × (Nat → Int64)} {vm : Int32 × zL} (hw : zW B L K n t) (hb : 4809999 ≤ B ∧ B ≤ 80000000) (hL : (fun r u => match u.1 with | some v0 => r = nI 0 ∧ ∃ an, (fun r _ => sfEnt L c fr to = 0 ∧ r = zs (sEntitle L t c.toNatClampNeg fr to 3) n - zs (L 3) n) an v0 ∧ u.2 = vp_updL fo 0 an.toInt64 | none => u.2 = fo ∧ ∃ E, (fun E => (E = "java/lang/IndexOutOfBoundsException" ∧ sfEnt L c fr to = nI 1) ∨ (E = "java/lang/IllegalArgumentException" ∧ sfEnt L c fr to = nI 2) ∨ (E = "java/lang/IllegalStateException" ∧ sfEnt L c fr to = nI 3)) E ∧ zcode E (nI 1) (nI 2) (nI 0) r) r u) (hM : (fun r u => u.1 = sfEnt K c fr to ∧ (sfEnt K c fr to = 0 → r = zs (sEntitle K t c.toNatClampNeg fr to 3) n - zs (K 3) n)) r2 vm) : (vm.1 = r ∧ (r = nI 0 → u.2 0 = r2.toInt64)) := by
  obtain ⟨hv, hM1⟩ := hM
  rcases u with ⟨_ | v0, f1⟩
  · obtain ⟨hf, E, hn, hz⟩ := hL
    obtain ⟨e1, e2⟩ := thr_code (Fk := sfEnt K c fr to) hn hz (fun y => (f_ent (wR hw) c fr to).symm.trans y) (fun y => (f_ent (wR hw) c fr to).symm.trans y) (fun y => absurd ((f_ent (wR hw) c fr to).symm.trans y) (zn_ent3 K c fr to))
    exact zp_n (hv.trans e1) (fun y => e2 ((f_ent (wR hw) c fr to).trans (e1.trans y)))
  · obtain ⟨hr, an, ⟨hF, ea⟩, hf⟩ := hL
    have hk : sfEnt K c fr to = 0 := (f_ent (wR hw) c fr to).symm.trans hF
    exact zp_s hr hf (hv.trans hk) (by rw [ea, hM1 hk]; exact (a_ent hw (by omega) (by omega) hk).1)
theorem zp_ifPrice {L : zL} {K : zL} {n : Nat} {t : Nat} {B : Int} {fo : Nat → Int64} {r : Int32} {r2 : Int32} {pr : Int32} {u : Option (zL) × (Nat → Int64)} {vm : Int32 × zL} (hw : zW B L K n t) (hb : 4809999 ≤ B ∧ B ≤ 80000000) (hL : (fun r u => match u.1 with | some v0 => r = nI 0 ∧ ∃ an, (fun r _ => ¬ pr < nI 1 ∧ ¬ nI 999 < pr ∧ r = (sDays n t (40 - t) (up2 L 0 2 pr)).1) an v0 ∧ u.2 = vp_updL fo 0 an.toInt64 | none => u.2 = fo ∧ ∃ E, (fun E => E = "java/lang/IllegalArgumentException" ∧ (pr < nI 1 ∨ nI 999 < pr)) E ∧ zcode E (nI 0) (nI 1) (nI 0) r) r u) (hM : (fun r u => (¬ pr < nI 1 ∧ ¬ nI 999 < pr ∧ u.1 = 0 ∧ r = kSrv (kEnd (up2 K 0 2 pr) n t) n (-1) (-1) - kSrv (up2 K 0 2 pr) n (-1) (-1)) ∨ ((pr < nI 1 ∨ nI 999 < pr) ∧ u.1 = nI 1)) r2 vm) : (vm.1 = r ∧ (r = nI 0 → u.2 0 = r2.toInt64)) := by
  rcases u with ⟨_ | v0, f1⟩
  · obtain ⟨hf, E, ⟨rfl, hn⟩, hz⟩ := hL
    rcases hM with ⟨z1, z2, -⟩ | ⟨-, hv⟩
    · exact absurd hn (fun y => y.elim z1 z2)
    · exact zp_e hz (Or.inr (Or.inl ⟨rfl, hv, by decide⟩))
  · obtain ⟨hr, an, ⟨h1, h2, ea⟩, hf⟩ := hL
    rcases hM with ⟨-, -, hv, e0⟩ | ⟨z, -⟩
    · exact zp_s hr hf hv (by rw [ea, e0]; exact a_price hw (by omega) (by omega) h1 h2)
    · exact absurd z (fun y => y.elim h1 h2)
theorem zp_runScript {L : zL} {K : zL} {n : Nat} {t : Nat} {B : Int} {fo : Nat → Int64} {r : Int32} {r2 : Int32} {nn : Int32} {sc : Int64} {u : Option (zL) × (Nat → Int64)} {vm : Int32 × zL} (hw : zW B L K n t) (hb : 4809999 ≤ B ∧ B ≤ 80000000) (hL : (fun r u => match u.1 with | some v0 => r = nI 0 ∧ ∃ an, (fun r _ => ¬ nn < nI 1 ∧ ¬ nI 3 < nn ∧ ¬ sc < lN 0 ∧ ¬ lN 0 < wLg sc nn.toNatClampNeg ∧ r = sOpt (rRun L sc nn.toNatClampNeg nn.toNatClampNeg).1) an v0 ∧ u.2 = vp_updL fo 0 an.toInt64 | none => u.2 = fo ∧ ∃ E, (fun E => E = "java/lang/IllegalArgumentException" ∧ (nn < nI 1 ∨ nI 3 < nn ∨ sc < lN 0 ∨ lN 0 < wLg sc nn.toNatClampNeg)) E ∧ zcode E (nI 0) (nI 1) (nI 0) r) r u) (hM : (fun r u => (¬ nn < nI 1 ∧ ¬ nI 3 < nn ∧ ¬ sc < lN 0 ∧ ¬ lN (pw6 nn.toNatClampNeg) - lN 1 < sc ∧ u.1 = 0 ∧ r = sOpt (kRun K sc nn.toNatClampNeg nn.toNatClampNeg).1) ∨ (((nn < nI 1 ∨ nI 3 < nn) ∨ (¬ nn < nI 1 ∧ ¬ nI 3 < nn ∧ (sc < lN 0 ∨ lN (pw6 nn.toNatClampNeg) - lN 1 < sc))) ∧ u.1 = nI 1)) r2 vm) : (vm.1 = r ∧ (r = nI 0 → u.2 0 = r2.toInt64)) := by
  rcases u with ⟨_ | v0, f1⟩
  · obtain ⟨hf, E, ⟨rfl, hn⟩, hz⟩ := hL
    rcases hM with ⟨z1, z2, z3, z4, -⟩ | ⟨-, hv⟩
    · obtain ⟨k, -, hk, rfl⟩ := nn_13 z1 z2
      rw [nI_clamp (by omega)] at hn z4
      exact absurd hn (fun y => y.elim z1 (fun y => y.elim z2 (fun y => y.elim z3 (fun y => z4 ((a_scr_c z3 hk).mp y)))))
    · exact zp_e hz (Or.inr (Or.inl ⟨rfl, hv, by decide⟩))
  · obtain ⟨hr, an, ⟨h1, h2, h3, h4, ea⟩, hf⟩ := hL
    obtain ⟨k, -, hk, rfl⟩ := nn_13 h1 h2
    rw [nI_clamp (by omega)] at h4 ea
    rcases hM with ⟨-, -, -, -, hv, e0⟩ | ⟨z, -⟩
    · rw [nI_clamp (by omega)] at e0
      exact zp_s hr hf hv (by rw [ea, e0]; exact a_scr hw (by omega) (by omega) h3 hk)
    · rw [nI_clamp (by omega)] at z
      exact absurd z (fun y => y.elim (fun y => y.elim h1 h2) (fun y => y.2.2.elim h3 (fun y => h4 ((a_scr_c h3 hk).mpr y))))
theorem zp_simulate {L : zL} {K : zL} {n : Nat} {t : Nat} {B : Int} {fo : Nat → Int64} {r : Int32} {r2 : Int32} {seed : Int64} {mm : Int32} {u : Option (zL) × (Nat → Int64)} {vm : Int32 × zL} (hw : zW B L K n t) (hb : 4809999 ≤ B ∧ B ≤ 80000000) (hL : (fun r u => match u.1 with | some v0 => r = nI 0 ∧ ∃ an, (fun r _ => ¬ mm < nI 1 ∧ ¬ nI 99 < mm ∧ r = nI 1000 * (mSrv (mRun L seed mm.toNatClampNeg).2 - mSrv L) + (mRef (mRun L seed mm.toNatClampNeg).2 - mRef L)) an v0 ∧ u.2 = vp_updL fo 0 an.toInt64 | none => u.2 = fo ∧ ∃ E, (fun E => E = "java/lang/IllegalArgumentException" ∧ (mm < nI 1 ∨ nI 99 < mm)) E ∧ zcode E (nI 0) (nI 1) (nI 0) r) r u) (hM : (fun r u => (¬ mm < nI 1 ∧ ¬ nI 99 < mm ∧ u.1 = 0 ∧ r = nI 1000 * (kSrv (kMRun K seed mm.toNatClampNeg).2 (zN (kMRun K seed mm.toNatClampNeg).2) (-1) (-1) - kSrv K n (-1) (-1)) + kCnt (kMRun K seed mm.toNatClampNeg).2 (zN (kMRun K seed mm.toNatClampNeg).2) (-1) (-1) (nI 4) - kCnt K n (-1) (-1) (nI 4)) ∨ ((mm < nI 1 ∨ nI 99 < mm) ∧ u.1 = nI 1)) r2 vm) : (vm.1 = r ∧ (r = nI 0 → u.2 0 = r2.toInt64)) := by
  rcases u with ⟨_ | v0, f1⟩
  · obtain ⟨hf, E, ⟨rfl, hn⟩, hz⟩ := hL
    rcases hM with ⟨z1, z2, -⟩ | ⟨-, hv⟩
    · exact absurd hn (fun y => y.elim z1 z2)
    · exact zp_e hz (Or.inr (Or.inl ⟨rfl, hv, by decide⟩))
  · obtain ⟨hr, an, ⟨h1, h2, ea⟩, hf⟩ := hL
    obtain ⟨k, -, hk, rfl⟩ := nI_rng (by decide) (by decide) h1 h2
    rcases hM with ⟨-, -, hv, e0⟩ | ⟨z, -⟩
    · rw [nI_clamp (by omega)] at ea e0
      exact zp_s hr hf hv (by rw [ea, e0]; exact a_sim hw (by omega) (by omega) seed hk)
    · exact absurd z (fun y => y.elim h1 h2)
theorem zp_save {L : zL} {K : zL} {n : Nat} {t : Nat} {B : Int} {SL : Nat → zL} {SK : Nat → zL} {sv : Nat → Int32} {sk : Nat → Int32} {fo : Nat → Int64} {r : Int32} {r2 : Int32} {sl : Int32} {u : Option ((Nat → Int32) × (Nat → zL)) × (Nat → Int64)} {vm : Int32 × (Nat → Int32) × (Nat → zL)} (hw : zW B L K n t) (hs : zSlot B sv SL sk SK) (hL : (fun r u => match u.1 with | some v0 => r = nI 0 ∧ ∃ an, (fun r u => ¬ sl < 0 ∧ sl < nI 2 ∧ r = nI t ∧ u.1 = upd sv sl.toNatClampNeg (nI 1) ∧ u.2 = va_up SL sl.toNatClampNeg L) an v0 ∧ u.2 = vp_updL fo 0 an.toInt64 | none => u.2 = fo ∧ ∃ E, (fun E => E = "java/lang/IndexOutOfBoundsException" ∧ (sl < 0 ∨ ¬ sl < nI 2)) E ∧ zcode E (nI 1) (nI 0) (nI 0) r) r u) (hM : (fun r u => (zIn sl 2 ∧ u.1 = 0 ∧ r = nI t ∧ u.2.1 = upd sk sl.toNatClampNeg (nI 1) ∧ u.2.2 = va_up SK sl.toNatClampNeg K) ∨ (¬ zIn sl 2 ∧ u.1 = nI 1 ∧ u.2.1 = sk ∧ u.2.2 = SK)) r2 vm) : (vm.1 = r ∧ (r = nI 0 → u.2 0 = r2.toInt64)) ∧ (match u.1 with | some v0 => zSlot B v0.1 v0.2 vm.2.1 vm.2.2 | none => zSlot B sv SL vm.2.1 vm.2.2) := by
  rcases u with ⟨_ | v0, f1⟩
  · obtain ⟨hf, E, ⟨rfl, hn⟩, hz⟩ := hL
    rcases hM with ⟨z, -⟩ | ⟨-, hv, e1, e2⟩
    · exact absurd hn (fun y => y.elim (zIn_2.mp z).1 (fun y => y (zIn_2.mp z).2))
    · exact ⟨zp_e hz (Or.inl ⟨rfl, hv, by decide⟩), by show zSlot B sv SL vm.2.1 vm.2.2; rw [e1, e2]; exact hs⟩
  · obtain ⟨hr, an, ⟨h1, h2, ea, g1, g2⟩, hf⟩ := hL
    rcases hM with ⟨-, hv, e0, e1, e2⟩ | ⟨z, -⟩
    · exact ⟨zp_s hr hf hv (by rw [ea, e0]), by show zSlot B v0.1 v0.2 vm.2.1 vm.2.2; rw [g1, g2, e1, e2]; exact slot_save hs hw⟩
    · exact absurd (zIn_2.mpr ⟨h1, h2⟩) z
theorem zp_restore {K : zL} {B : Int} {SL : Nat → zL} {SK : Nat → zL} {sv : Nat → Int32} {sk : Nat → Int32} {fo : Nat → Int64} {r : Int32} {r2 : Int32} {sl : Int32} {u : Option (zL) × (Nat → Int64)} {vm : Int32 × Int32 × zL} {ac : Int32} (hs : zSlot B sv SL sk SK) (hL : (fun r u => match u.1 with | some v0 => r = nI 0 ∧ ∃ an, (fun r u => ¬ sl < 0 ∧ sl < nI 2 ∧ ¬ sv sl.toNatClampNeg = 0 ∧ r = u 0 0 ∧ u = SL sl.toNatClampNeg) an v0 ∧ u.2 = vp_updL fo 0 an.toInt64 | none => u.2 = fo ∧ ∃ E, (fun E => (E = "java/lang/IndexOutOfBoundsException" ∧ (sl < 0 ∨ ¬ sl < nI 2)) ∨ (E = "java/lang/IllegalStateException" ∧ ¬ sl < 0 ∧ sl < nI 2 ∧ sv sl.toNatClampNeg = 0)) E ∧ zcode E (nI 1) (nI 0) (nI 2) r) r u) (hM : (fun r u => (zIn sl 2 ∧ ¬ sk sl.toNatClampNeg = 0 ∧ u.1 = 0 ∧ u.2.1 = 0 ∧ r = u.2.2 0 0 ∧ u.2.2 = SK sl.toNatClampNeg) ∨ (¬ zIn sl 2 ∧ u.1 = nI 1 ∧ u.2.1 = ac ∧ u.2.2 = K) ∨ (zIn sl 2 ∧ sk sl.toNatClampNeg = 0 ∧ u.1 = nI 2 ∧ u.2.1 = ac ∧ u.2.2 = K)) r2 vm) : (vm.1 = r ∧ (r = nI 0 → u.2 0 = r2.toInt64)) ∧ (match u.1 with | some v0 => (∃ n9 t9, zW B v0 vm.2.2 n9 t9) ∧ vm.2.1 = nI 0 | none => vm.2.1 = ac ∧ vm.2.2 = K) := by
  have hi : ∀ j, j < 2 → (sv j = 0 ↔ sk j = 0) := fun j hj => by rw [(hs j hj).1]
  rcases u with ⟨_ | v0, f1⟩
  · obtain ⟨hf, E, hn, hz⟩ := hL
    rcases hn with ⟨rfl, hn⟩ | ⟨rfl, h1, h2, h3⟩
    · rcases hM with ⟨z, -⟩ | ⟨-, hv, e1, e2⟩ | ⟨z, -⟩
      · exact absurd hn (fun y => y.elim (zIn_2.mp z).1 (fun y => y (zIn_2.mp z).2))
      · exact ⟨zp_e hz (Or.inl ⟨rfl, hv, by decide⟩), e1, e2⟩
      · exact absurd hn (fun y => y.elim (zIn_2.mp z).1 (fun y => y (zIn_2.mp z).2))
    · obtain ⟨j, hj, rfl⟩ := zIn_2.mpr ⟨h1, h2⟩
      rw [nI_clamp (by omega)] at h3 hM
      rcases hM with ⟨-, z, -⟩ | ⟨z, -⟩ | ⟨-, -, hv, e1, e2⟩
      · exact absurd ((hi j hj).mp h3) z
      · exact absurd ⟨j, hj, rfl⟩ z
      · exact ⟨zp_e hz (Or.inr (Or.inr ⟨rfl, hv, by decide⟩)), e1, e2⟩
  · obtain ⟨hr, an, ⟨h1, h2, h3, ea, g⟩, hf⟩ := hL
    obtain ⟨j, hj, rfl⟩ := zIn_2.mpr ⟨h1, h2⟩
    rw [nI_clamp (by omega)] at h3 hM g
    rcases hM with ⟨-, -, hv, e1, e0, e2⟩ | ⟨z, -⟩ | ⟨-, z, -⟩
    · obtain ⟨n', t', q⟩ := slot_get hs hj h3
      rw [← e2, ← g] at q
      exact ⟨zp_s hr hf hv (by rw [ea, e0]; exact r0 (wR q) (by decide)), ⟨n', t', q⟩, e1⟩
    · exact absurd ⟨j, hj, rfl⟩ z
    · exact absurd ((hi j hj).mpr z) h3
