/-! The class and the model side by side: groups of a script, turns of a simulation, and their runs. -/
section ZK
variable {L K : zL} {n t : Nat} {B : Int}
theorem r_srv (h : zRel L K n t) : mSrv L = kSrv K n (-1) (-1) := by
  unfold mSrv
  rw [kSrv_all, cnt480 h (show ¬ nI 0 = nI 2 by decide), cnt480 h (show ¬ nI 0 = nI 3 by decide)]
  rfl
theorem r_ref (h : zRel L K n t) : mRef L = kCnt K n (-1) (-1) (nI 4) := by
  unfold mRef
  rw [kCnt_all, cnt480 h (show ¬ nI 0 = nI 4 by decide)]
theorem j_un {x : Int32 × zL} {c : Prop} [Decidable c] {y z : Int32 × zL} (hc : c) (e : zJ B x y) : zJ B x (if c then y else z) := by rw [if_pos hc]; exact e
theorem j_and {x : Int32 × zL} {a b : Prop} [Decidable a] [Decidable b] {X : zL} {u : Int32 × zL} {Y : zL} (h0 : zW B L K n t) (e : zJ B x (if b then (nI 1, Y) else (nI 0, K))) : zJ B (if a then x else (nI 0, L)) (if a ∧ b then (nI 1, Y) else (nI 0, K)) := by
  by_cases w : a
  · rw [if_pos w]
    by_cases w2 : b
    · rw [if_pos w2] at e
      rw [if_pos ⟨w, w2⟩]
      exact e
    · rw [if_neg w2] at e
      rw [if_neg (fun z => w2 z.2)]
      exact e
  · rw [if_neg w, if_neg (fun z => w z.1)]
    exact j_no h0
theorem j_iff {x : Int32 × zL} {a b : Prop} [Decidable a] [Decidable b] {y z : Int32 × zL} (hab : a ↔ b) (e : zJ B x (if a then y else z)) : zJ B x (if b then y else z) := by
  by_cases w : a
  · rw [if_pos w] at e
    rw [if_pos (hab.mp w)]
    exact e
  · rw [if_neg w] at e
    rw [if_neg (fun z => w (hab.mpr z))]
    exact e
theorem share_b {L : zL} {f b : Nat} (hb : b ≤ 1) : sShare L f (if b = 1 then nI 1 else nI 0) = up2 L 7 f (nI b) := by
  unfold sShare
  rcases (show b = 0 ∨ b = 1 by omega) with e | e <;> subst e <;> rfl
theorem j_shareN (h : zW B L K n t) {f b : Nat} (hf : f < 2 ^ 31) (hb : b ≤ 1) : zJ B (tyShare L (nI f) (if b = 1 then nI 1 else nI 0)) (if sFam (nI f) then (nI 1, up2 K 7 f (nI b)) else (nI 0, K)) := by
  refine j_if (F := sfShare (nI f)) (n' := n) (t' := t) ⟨fun z => ?_, fun z => ?_⟩ h (fun z => ?_)
  · unfold sfShare at z
    by_cases w : sFam (nI f)
    · exact w
    · rw [if_pos w] at z
      exact absurd z (by decide)
  · unfold sfShare
    rw [if_neg (fun y => y z)]
    rfl
  · rw [nI_clamp hf, ← share_b hb]
    exact w_share h f _
theorem j_cmd (h : zW B L K n t) (hB : 9999 ≤ B) (hB2 : B ≤ 100000000) {g : Nat} (hg : g < 1000000) : zJ (B + 40000) (cGroup L n t g) (kCmd K n t (g / 100000) (g % 100000)) := by
  have h' := w_mono h (show B ≤ B + 40000 by omega)
  have hn := rn (wR h)
  have e1 : g / 1000 % 100 = g % 100000 / 1000 := by omega
  have e2 : g / 10 % 100 = g % 100000 / 10 % 100 := by omega
  have e3 : g % 10 = g % 100000 % 10 := by omega
  have e4 : g % 1000 = g % 100000 % 1000 := by omega
  have e5 : g / 10000 % 10 = g % 100000 / 10000 := by omega
  have e6 : g % 10000 = g % 100000 % 10000 := by omega
  have e7 : g / 10 % 1000 = g % 100000 / 10 % 1000 := by omega
  have e8 : g / 100 % 1000 = 0 ↔ g % 100000 < 100 := by omega
  have e9 : g % 100 = g % 100000 % 100 := by omega
  have hfv : g % 100000 < 100000 := by omega
  unfold cGroup
  rw [e1, e2, e3, e4, e5, e6, e7, e9]
  revert hfv e8
  generalize g % 100000 = fv
  generalize hq : g / 100 % 1000 = hu
  generalize g / 100000 = how
  intro e8 hfv
  by_cases h1 : how = 1
  · rw [if_pos h1, kCmd_1 h1]
    have := j_order h' (nI (fv / 1000)) (nI (fv / 10 % 100)) (b := if fv % 10 = 1 then nI 1 else nI 0) (w := if fv % 10 = 1 then nI 1 else nI 0) (fun _ _ _ _ _ _ => rfl)
    rw [nI_clamp (by omega), nI_clamp (by omega)] at this
    exact j_iff (and_congr (show fv % 10 ≤ 1 ↔ fv % 10 < 2 by omega) Iff.rfl) (j_and (X := L) (u := (nI 0, L)) h' this)
  · rw [if_neg h1]
    by_cases h2 : how = 2
    · rw [if_pos h2, kCmd_2 h2]
      have := j_pay h (by omega) (nI (fv / 1000)) (nI (fv % 1000))
      rw [nI_clamp (by omega)] at this
      exact this
    · rw [if_neg h2]
      by_cases h3 : how = 3
      · rw [if_pos h3, kCmd_3 h3]
        have := j_ent h (by omega) (by omega) (nI (fv / 1000)) (nI 0) (nI (fv / 10 % 100))
        rw [nI_clamp (by omega)] at this
        exact j_and (X := L) (u := (nI 0, L)) h' this
      · rw [if_neg h3]
        by_cases h4 : how = 4
        · rw [if_pos h4, kCmd_4 h4]
          by_cases w : fv % 10 ≤ 1
          · exact j_iff (and_congr (show fv / 10 % 1000 = 0 ∧ fv % 10 ≤ 1 ↔ fv % 10 ≤ 1 ∧ fv % 10000 ≤ 1 by omega) Iff.rfl |>.trans and_assoc) (j_and (X := L) (u := (nI 0, L)) h' (j_shareN h' (by omega) w))
          · rw [if_neg (fun z => w z.2), if_neg (fun z => w z.1)]
            exact j_no h'
        · rw [if_neg h4]
          by_cases h5 : how = 5
          · rw [if_pos h5, kCmd_5 h5]
            exact j_and (X := L) (u := (nI 0, L)) h' (j_off h' (by omega) (by omega) (by omega))
          · rw [if_neg h5]
            by_cases h6 : how = 6
            · rw [if_pos h6, kCmd_6 h6]
              by_cases w : fv < 100
              · have := j_days h' (by omega) (by omega) (nI (fv % 100))
                rw [show fv % 100 = fv by omega, nI_clamp (by omega)] at this
                rw [show fv % 100 = fv by omega]
                exact j_iff (and_congr e8 Iff.rfl) (j_and (X := L) (u := (nI 0, L)) h' this)
              · rw [if_neg (fun z => w (e8.mp z)), if_neg (fun z => w z.1)]
                exact j_no h'
            · rw [if_neg h6]
              by_cases h7 : how = 7
              · rw [if_pos h7, kCmd_7 h7]
                refine j_ask ?_ h'
                constructor
                · intro z
                  have hc := sHas_lt (rL (wR h)) (by omega) z.1
                  have hd := sDay_lt (by omega) z.2.1
                  exact ⟨(r_has (wR h) _).mp z.1, z.2.1, (r9 (wR h) (by omega)).symm.trans z.2.2⟩
                · intro z
                  have hc := sHas_lt (rK (wR h)) (by omega) z.1
                  have hd := sDay_lt (by omega) z.2.1
                  exact ⟨(r_has (wR h) _).mpr z.1, z.2.1, (r9 (wR h) (by omega)).trans z.2.2⟩
              · rw [if_neg h7]
                by_cases h8 : how = 8
                · rw [if_pos h8, kCmd_8 h8, r_debt (wR h), Nat.mul_comm (fv / 10 % 1000) 10]
                  exact j_ask Iff.rfl h'
                · rw [if_neg h8]
                  by_cases h9 : how = 9
                  · rw [if_pos h9, kCmd_9 h9]
                    refine j_ask ⟨fun z => ?_, fun z => ?_⟩ h'
                    · have w := e8.mp z.1
                      refine ⟨w, ?_⟩
                      have z2 := z.2
                      rw [show fv % 100 = fv by omega] at z2
                      rw [← r_srv (wR h)]
                      exact z2
                    · have w := z.1
                      refine ⟨e8.mpr w, ?_⟩
                      have z2 := z.2
                      rw [← r_srv (wR h)] at z2
                      rw [show fv % 100 = fv by omega]
                      exact z2
                  · rw [if_neg h9, kCmd_no h1 h2 h3 h4 h5 h6 h7 h8 h9]
                    exact j_no h'
theorem snd_if {c : Prop} [Decidable c] {X Y : zL} {a b : Int32} : (if c then (a, X) else (b, Y)).2 = if c then X else Y := by
  by_cases w : c
  · rw [if_pos w, if_pos w]
  · rw [if_neg w, if_neg w]
theorem j_turn (h : zW B L K n t) (hB : 9999 ≤ B) (hB2 : B ≤ 100000000) {g : Nat} (hg : g < 2 ^ 31) : zW (B + 40000) (cTurn L n t g).2 (kTurn K n t g) (zN (cTurn L n t g).2) (zT (cTurn L n t g).2) := by
  have h' := w_mono h (show B ≤ B + 40000 by omega)
  have hm : g / 16 % max n 1 < 2 ^ 31 := by
    have := Nat.mod_le (g / 16) (max n 1)
    omega
  have key : ∀ {x : Int32 × zL} {y : zL} {a : Int32}, zJ (B + 40000) x (a, y) → zW (B + 40000) x.2 y (zN x.2) (zT x.2) := fun e => e.2
  have r3 : ∀ {k : Nat}, k < 4 → ¬ nI k < 0 ∧ ¬ nI 3 < nI k := fun hk => ⟨nI_pos (by omega), fun z => by have := zk_lt (by omega) (by omega) z; omega⟩
  unfold cTurn kTurn
  by_cases h0 : g % 16 = 0
  · rw [if_pos h0, if_pos h0]
    exact (j_text h hB hB2 (sg := nI 99) (c := nI 0) ⟨kDok_c (by omega), fun _ => r3 (by omega), fun z => absurd z (by decide), Or.inl rfl⟩).2
  · rw [if_neg h0, if_neg h0]
    by_cases h7 : g % 16 < 7
    · rw [if_pos h7, if_neg (show ¬ (g % 16 = 7 ∨ g % 16 = 8) by omega), if_neg (show ¬ g % 16 = 9 by omega), if_neg (show ¬ g % 16 = 10 by omega), if_neg (show ¬ g % 16 = 11 by omega), if_neg (show ¬ (g % 16 = 12 ∨ g % 16 = 13 ∨ g % 16 = 14) by omega), if_neg (show ¬ g % 16 = 15 by omega)]
      have := (j_order h' (nI (g / 16 % max n 1)) (nI (g / 256 % 40)) (b := nI 1) (w := nI 1) (fun _ _ _ _ _ _ => rfl)).2
      rw [snd_if, nI_clamp hm, nI_clamp (by omega)] at this
      exact this
    · rw [if_neg h7]
      by_cases h9 : g % 16 < 9
      · rw [if_pos h9, if_pos (show g % 16 = 7 ∨ g % 16 = 8 by omega)]
        exact (j_text h hB hB2 (sg := nI 112) (a := nI (g / 16 % max n 1)) (b := nI (1 + g / 16384 % 999)) (c := nI 0) ⟨kDok_p _, fun z => absurd z (by decide), fun _ => ⟨fun z => by have := zk_lt (by omega) (by omega) z; omega, fun z => by have := zk_lt (by omega) (by omega) z; omega⟩, Or.inr (Or.inr (Or.inr (Or.inl rfl)))⟩).2
      · rw [if_neg h9, if_neg (show ¬ (g % 16 = 7 ∨ g % 16 = 8) by omega)]
        by_cases e9 : g % 16 = 9
        · rw [if_pos e9, if_pos e9]
          exact (j_text h hB hB2 (sg := nI 101) (a := nI (g / 16 % max n 1)) (b := nI (g / 256 % 40)) (c := nI 39) ⟨kDok_e _, fun z => absurd z (by decide), fun z => absurd z (by decide), Or.inr (Or.inr (Or.inr (Or.inr (Or.inl rfl))))⟩).2
        · rw [if_neg e9, if_neg e9]
          by_cases e10 : g % 16 = 10
          · rw [if_pos e10, if_pos e10]
            have := (j_shareN h' (f := g / 16 % 5) (b := 1) (by omega) (by omega)).2
            rw [snd_if, if_pos (sFam_n (show g / 16 % 5 < 5 by omega))] at this
            exact this
          · rw [if_neg e10, if_neg e10]
            by_cases e11 : g % 16 = 11
            · rw [if_pos e11, if_pos e11]
              exact (j_text h hB hB2 (sg := nI 109) (c := nI 0) ⟨kDok_m (by omega), fun _ => r3 (by omega), fun z => absurd z (by decide), Or.inr (Or.inl rfl)⟩).2
            · rw [if_neg e11, if_neg e11]
              by_cases e15 : g % 16 < 15
              · rw [if_pos e15, if_pos (show g % 16 = 12 ∨ g % 16 = 13 ∨ g % 16 = 14 by omega)]
                exact (j_text h hB hB2 (sg := nI 100) (a := nI 1) (b := nI 0) (c := nI 0) ⟨kDok_d _, fun z => absurd z (by decide), fun z => absurd z (by decide), Or.inr (Or.inr (Or.inr (Or.inr (Or.inr (Or.inr rfl)))))⟩).2
              · rw [if_neg e15, if_neg (show ¬ (g % 16 = 12 ∨ g % 16 = 13 ∨ g % 16 = 14) by omega), if_pos (show g % 16 = 15 by omega)]
                have := (j_off h' (by omega) (by omega) (f := g / 16 % 5) (by omega)).2
                rw [snd_if] at this
                have e : (if 0 < sDebt K n (nI (g / 16 % 5)) then sWrite K n (g / 16 % 5) else K) = (if sFam (nI (g / 16 % 5)) ∧ 0 < sDebt K n (nI (g / 16 % 5)) then sWrite K n (g / 16 % 5) else K) := by
                  by_cases w : 0 < sDebt K n (nI (g / 16 % 5))
                  · rw [if_pos w, if_pos ⟨sFam_n (by omega), w⟩]
                  · rw [if_neg w, if_neg (fun z => w z.2)]
                rw [e]
                exact this
-- runs
theorem j_run (h : zW B L K n t) (hB : 9999 ≤ B) (hB2 : B ≤ 90000000) {sc : Int64} (hsc : ¬ sc < lN 0) (N : Nat) : ∀ k : Nat, k ≤ 3 → (rRun L sc N k).1 = (kRun K sc N k).1 ∧ zW (B + 40000 * (k : Int)) (rRun L sc N k).2 (kRun K sc N k).2 (zN (rRun L sc N k).2) (zT (rRun L sc N k).2)
  | 0, _ => ⟨rfl, w_mono (w_at h) (by omega)⟩
  | k + 1, hk => by
    obtain ⟨a, b⟩ := j_run h hB hB2 hsc N k (by omega)
    show (rStep sc N k (rRun L sc N k)).1 = (kStep sc N k (kRun K sc N k)).1 ∧ zW (B + 40000 * ((k + 1 : Nat) : Int)) (rStep sc N k (rRun L sc N k)).2 (kStep sc N k (kRun K sc N k)).2 (zN (rStep sc N k (rRun L sc N k)).2) (zT (rStep sc N k (rRun L sc N k)).2)
    revert a b
    generalize rRun L sc N k = x
    generalize kRun K sc N k = y
    intro a b
    unfold rStep kStep
    by_cases w : x.1 = none
    · rw [if_pos w, if_pos (a.symm.trans w)]
      obtain ⟨gg, hgg, e⟩ := rGrp_nat hsc N k
      rw [e, nI_clamp (by omega)]
      have hj := j_cmd b (by omega) (by omega) hgg
      obtain ⟨e1, e2⟩ := w_NT b
      rw [← e1, ← e2]
      refine ⟨?_, w_mono hj.2 (by omega)⟩
      show (if _ then some k else none) = (if _ then some k else none)
      rw [hj.1]
    · rw [if_neg w, if_neg (fun z => w (a.trans z))]
      exact ⟨a, w_mono b (by omega)⟩
theorem mRun_s (L : zL) (seed : Int64) (k : Nat) : mRun L seed (k + 1) = mStep (mRun L seed k) := rfl
theorem kMRun_s (K : zL) (seed : Int64) (k : Nat) : kMRun K seed (k + 1) = kMStep (kMRun K seed k) := rfl
theorem mStep_e (x : Int64 × zL) : mStep x = (mNext x.1, (cTurn x.2 (zN x.2) (zT x.2) (mR (mNext x.1))).2) := rfl
theorem kMStep_e (x : Int64 × zL) : kMStep x = (mNext x.1, kTurn x.2 (zN x.2) (zT x.2) (mR (mNext x.1))) := rfl
theorem j_m1 {X Y : zL} {g : Nat} (hg : g < 2 ^ 31) (h : zW B X Y (zN X) (zT X)) (hB : 9999 ≤ B) (hB2 : B ≤ 100000000) : zW (B + 40000) (cTurn X (zN X) (zT X) g).2 (kTurn Y (zN Y) (zT Y) g) (zN (cTurn X (zN X) (zT X) g).2) (zT (cTurn X (zN X) (zT X) g).2) := by
  have hj := j_turn h hB hB2 hg
  obtain ⟨e1, e2⟩ := w_NT h
  rw [← e1, ← e2]
  exact hj
theorem j_pair {z : Int64} {W V : zL} {p q : Int64 × zL} (e1 : p = (z, W)) (e2 : q = (z, V)) (h : zW B W V (zN W) (zT W)) : p.1 = q.1 ∧ zW B p.2 q.2 (zN p.2) (zT p.2) := by
  subst e1
  subst e2
  exact ⟨rfl, h⟩
theorem kMStep_a {y : Int64 × zL} {x : Int64} (a : x = y.1) : kMStep y = (mNext x, kTurn y.2 (zN y.2) (zT y.2) (mR (mNext x))) := by rw [a]; exact kMStep_e y
theorem j_mstep {x y : Int64 × zL} (a : x.1 = y.1) (h : zW B x.2 y.2 (zN x.2) (zT x.2)) (hB : 9999 ≤ B) (hB2 : B ≤ 100000000) : (mStep x).1 = (kMStep y).1 ∧ zW (B + 40000) (mStep x).2 (kMStep y).2 (zN (mStep x).2) (zT (mStep x).2) :=
  j_pair (mStep_e x) (kMStep_a a) (j_m1 (mR_lt (mNext x.1)) h hB hB2)
theorem j_mrun (h : zW B L K n t) (hB : 9999 ≤ B) (hB2 : B ≤ 90000000) (seed : Int64) (k : Nat) (hk : k ≤ 99) : (mRun L seed k).1 = (kMRun K seed k).1 ∧ zW (B + 40000 * (k : Int)) (mRun L seed k).2 (kMRun K seed k).2 (zN (mRun L seed k).2) (zT (mRun L seed k).2) := by
  induction k with
  | zero => exact ⟨rfl, w_mono (w_at h) (by omega)⟩
  | succ k ih =>
    obtain ⟨a, b⟩ := ih (by omega)
    rw [mRun_s, kMRun_s]
    obtain ⟨c, d⟩ := j_mstep a b (by omega) (by omega)
    exact ⟨c, w_mono d (by omega)⟩
end ZK
