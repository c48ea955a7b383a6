/-! The class's ledger and the model's row tell the same. -/
def zRel (L K : zL) (n t : Nat) : Prop :=
  (sInv L n t ∧ sInv K n t) ∧ (∀ j, j < 5 → L 0 j = K 0 j) ∧ (∀ c, c < n → L 1 c = K 1 c ∧ L 2 c = K 2 c ∧ L 3 c = K 3 c ∧ L 4 c = K 4 c ∧ L 5 c = K 5 c) ∧ (∀ d, d < 40 → L 6 d = K 6 d) ∧ (∀ f, f < 5 → L 7 f = K 7 f ∧ L 8 f = K 8 f) ∧ (∀ p, p < 480 → L 9 p = K 9 p) ∧ (∀ p, p < 480 → L 9 p = nI 2 → L 10 p = K 10 p ∧ L 11 p = K 11 p) ∧ (∀ c d, n ≤ c → c < 12 → d < 40 → L 9 (c * 40 + d) = nI 0) ∧ (∀ c, n ≤ c → c < 12 → K 3 c = nI 0) ∧ ¬ K 0 2 < nI 1
section ZQ
variable {L K : zL} {n t : Nat}
theorem rL (h : zRel L K n t) : sInv L n t := h.1.1
theorem rK (h : zRel L K n t) : sInv K n t := h.1.2
theorem r0 (h : zRel L K n t) {j : Nat} (hj : j < 5) : L 0 j = K 0 j := h.2.1 j hj
theorem r1 (h : zRel L K n t) {c : Nat} (hc : c < n) : L 1 c = K 1 c := (h.2.2.1 c hc).1
theorem r2 (h : zRel L K n t) {c : Nat} (hc : c < n) : L 2 c = K 2 c := (h.2.2.1 c hc).2.1
theorem r3 (h : zRel L K n t) {c : Nat} (hc : c < n) : L 3 c = K 3 c := (h.2.2.1 c hc).2.2.1
theorem r4 (h : zRel L K n t) {c : Nat} (hc : c < n) : L 4 c = K 4 c := (h.2.2.1 c hc).2.2.2.1
theorem r5 (h : zRel L K n t) {c : Nat} (hc : c < n) : L 5 c = K 5 c := (h.2.2.1 c hc).2.2.2.2
theorem r6 (h : zRel L K n t) {d : Nat} (hd : d < 40) : L 6 d = K 6 d := h.2.2.2.1 d hd
theorem r7 (h : zRel L K n t) {f : Nat} (hf : f < 5) : L 7 f = K 7 f := (h.2.2.2.2.1 f hf).1
theorem r8 (h : zRel L K n t) {f : Nat} (hf : f < 5) : L 8 f = K 8 f := (h.2.2.2.2.1 f hf).2
theorem r9 (h : zRel L K n t) {p : Nat} (hp : p < 480) : L 9 p = K 9 p := h.2.2.2.2.2.1 p hp
theorem r10 (h : zRel L K n t) {p : Nat} (hp : p < 480) (e : L 9 p = nI 2) : L 10 p = K 10 p := (h.2.2.2.2.2.2.1 p hp e).1
theorem r11 (h : zRel L K n t) {p : Nat} (hp : p < 480) (e : L 9 p = nI 2) : L 11 p = K 11 p := (h.2.2.2.2.2.2.1 p hp e).2
theorem rZ (h : zRel L K n t) {c d : Nat} (hc : n ≤ c) (hc2 : c < 12) (hd : d < 40) : L 9 (c * 40 + d) = nI 0 := h.2.2.2.2.2.2.2.1 c d hc hc2 hd
theorem rB (h : zRel L K n t) {c : Nat} (hc : n ≤ c) (hc2 : c < 12) : K 3 c = nI 0 := h.2.2.2.2.2.2.2.2.1 c hc hc2
theorem rP (h : zRel L K n t) : ¬ K 0 2 < nI 1 := h.2.2.2.2.2.2.2.2.2
theorem rn (h : zRel L K n t) : n ≤ 12 := (rL h).2.1
theorem rt (h : zRel L K n t) : t ≤ 40 := (rL h).2.2.2.1
theorem r_has (h : zRel L K n t) (c : Int32) : sHas L c ↔ sHas K c := by
  unfold sHas
  rw [r0 h (by decide : 1 < 5)]
theorem up2_r {L : zL} {i i' j : Nat} {v : Int32} (h : i' ≠ i) (k : Nat) : up2 L i j v i' k = L i' k := by rw [up2_ne L j v h]
theorem up2_j {L : zL} {i j k : Nat} {v : Int32} (h : k ≠ j) : up2 L i j v i k = L i k := by rw [up2_same, upd_ne _ _ h]
theorem up2_v {L : zL} {i j : Nat} {v : Int32} : up2 L i j v i j = v := by rw [up2_same, upd_same]
theorem up2_eq {L K : zL} {i j : Nat} {v : Int32} {k : Nat} (h : L i k = K i k) : up2 L i j v i k = up2 K i j v i k := by
  by_cases e : k = j
  · subst e
    rw [up2_v, up2_v]
  · rw [up2_j e, up2_j e]
    exact h
/-- the same change on both sides, of rows 2, 4, 5 -/
theorem rel_2 (h : zRel L K n t) (c : Nat) (v : Int32) : zRel (up2 L 2 c v) (up2 K 2 c v) n t :=
  ⟨⟨sInv_row (rL h) rfl rfl rfl rfl, sInv_row (rK h) rfl rfl rfl rfl⟩, fun j hj => r0 h hj, fun c hc => ⟨r1 h hc, up2_eq (r2 h hc), r3 h hc, r4 h hc, r5 h hc⟩, fun d hd => r6 h hd, fun f hf => ⟨r7 h hf, r8 h hf⟩, fun p hp => r9 h hp, fun p hp e => ⟨r10 h hp e, r11 h hp e⟩, fun c d a b e => rZ h a b e, fun c a b => rB h a b, fun z => rP h z⟩
theorem rel_4 (h : zRel L K n t) (c : Nat) (v : Int32) : zRel (up2 L 4 c v) (up2 K 4 c v) n t :=
  ⟨⟨sInv_row (rL h) rfl rfl rfl rfl, sInv_row (rK h) rfl rfl rfl rfl⟩, fun j hj => r0 h hj, fun c hc => ⟨r1 h hc, r2 h hc, r3 h hc, up2_eq (r4 h hc), r5 h hc⟩, fun d hd => r6 h hd, fun f hf => ⟨r7 h hf, r8 h hf⟩, fun p hp => r9 h hp, fun p hp e => ⟨r10 h hp e, r11 h hp e⟩, fun c d a b e => rZ h a b e, fun c a b => rB h a b, fun z => rP h z⟩
theorem rel_5 (h : zRel L K n t) (c : Nat) (v : Int32) : zRel (up2 L 5 c v) (up2 K 5 c v) n t :=
  ⟨⟨sInv_row (rL h) rfl rfl rfl rfl, sInv_row (rK h) rfl rfl rfl rfl⟩, fun j hj => r0 h hj, fun c hc => ⟨r1 h hc, r2 h hc, r3 h hc, r4 h hc, up2_eq (r5 h hc)⟩, fun d hd => r6 h hd, fun f hf => ⟨r7 h hf, r8 h hf⟩, fun p hp => r9 h hp, fun p hp e => ⟨r10 h hp e, r11 h hp e⟩, fun c d a b e => rZ h a b e, fun c a b => rB h a b, fun z => rP h z⟩
theorem rel_3 (h : zRel L K n t) {c : Nat} (hc : c < n) (v : Int32) : zRel (up2 L 3 c v) (up2 K 3 c v) n t :=
  ⟨⟨sInv_bal (rL h), sInv_bal (rK h)⟩, fun j hj => r0 h hj, fun c hc => ⟨r1 h hc, r2 h hc, up2_eq (r3 h hc), r4 h hc, r5 h hc⟩, fun d hd => r6 h hd, fun f hf => ⟨r7 h hf, r8 h hf⟩, fun p hp => r9 h hp, fun p hp e => ⟨r10 h hp e, r11 h hp e⟩, fun c d a b e => rZ h a b e, fun k a b => by rw [up2_j (show k ≠ c by omega)]; exact rB h a b, fun z => rP h z⟩
theorem rel_6 (h : zRel L K n t) (d : Nat) (v : Int32) : zRel (up2 L 6 d v) (up2 K 6 d v) n t :=
  ⟨⟨sInv_row (rL h) rfl rfl rfl rfl, sInv_row (rK h) rfl rfl rfl rfl⟩, fun j hj => r0 h hj, fun c hc => ⟨r1 h hc, r2 h hc, r3 h hc, r4 h hc, r5 h hc⟩, fun d hd => up2_eq (r6 h hd), fun f hf => ⟨r7 h hf, r8 h hf⟩, fun p hp => r9 h hp, fun p hp e => ⟨r10 h hp e, r11 h hp e⟩, fun c d a b e => rZ h a b e, fun c a b => rB h a b, fun z => rP h z⟩
theorem rel_7 (h : zRel L K n t) (f : Nat) (v : Int32) : zRel (up2 L 7 f v) (up2 K 7 f v) n t :=
  ⟨⟨sInv_row (rL h) rfl rfl rfl rfl, sInv_row (rK h) rfl rfl rfl rfl⟩, fun j hj => r0 h hj, fun c hc => ⟨r1 h hc, r2 h hc, r3 h hc, r4 h hc, r5 h hc⟩, fun d hd => r6 h hd, fun f hf => ⟨up2_eq (r7 h hf), r8 h hf⟩, fun p hp => r9 h hp, fun p hp e => ⟨r10 h hp e, r11 h hp e⟩, fun c d a b e => rZ h a b e, fun c a b => rB h a b, fun z => rP h z⟩
theorem rel_8 (h : zRel L K n t) (f : Nat) (v : Int32) : zRel (up2 L 8 f v) (up2 K 8 f v) n t :=
  ⟨⟨sInv_row (rL h) rfl rfl rfl rfl, sInv_row (rK h) rfl rfl rfl rfl⟩, fun j hj => r0 h hj, fun c hc => ⟨r1 h hc, r2 h hc, r3 h hc, r4 h hc, r5 h hc⟩, fun d hd => r6 h hd, fun f hf => ⟨r7 h hf, up2_eq (r8 h hf)⟩, fun p hp => r9 h hp, fun p hp e => ⟨r10 h hp e, r11 h hp e⟩, fun c d a b e => rZ h a b e, fun c a b => rB h a b, fun z => rP h z⟩
/-- the limit, what was paid in -/
theorem rel_0 (h : zRel L K n t) {j : Nat} (v : Int32) (h0 : j ≠ 0) (h1 : j ≠ 1) (h2 : j ≠ 2) : zRel (up2 L 0 j v) (up2 K 0 j v) n t :=
  ⟨⟨sInv_num (rL h) h0 h1, sInv_num (rK h) h0 h1⟩, fun j hj => up2_eq (r0 h hj), fun c hc => ⟨r1 h hc, r2 h hc, r3 h hc, r4 h hc, r5 h hc⟩, fun d hd => r6 h hd, fun f hf => ⟨r7 h hf, r8 h hf⟩, fun p hp => r9 h hp, fun p hp e => ⟨r10 h hp e, r11 h hp e⟩, fun c d a b e => rZ h a b e, fun c a b => rB h a b, by rw [up2_j (Ne.symm h2)]; exact rP h⟩
/-- the price -/
theorem rel_02 (h : zRel L K n t) (v : Int32) (hv : ¬ v < nI 1) : zRel (up2 L 0 2 v) (up2 K 0 2 v) n t :=
  ⟨⟨sInv_num (rL h) (by decide) (by decide), sInv_num (rK h) (by decide) (by decide)⟩, fun j hj => up2_eq (r0 h hj), fun c hc => ⟨r1 h hc, r2 h hc, r3 h hc, r4 h hc, r5 h hc⟩, fun d hd => r6 h hd, fun f hf => ⟨r7 h hf, r8 h hf⟩, fun p hp => r9 h hp, fun p hp e => ⟨r10 h hp e, r11 h hp e⟩, fun c d a b e => rZ h a b e, fun c a b => rB h a b, by rw [up2_v]; exact hv⟩
/-- today -/
theorem rel_00 (h : zRel L K n t) {d : Nat} (hd : d ≤ 40) : zRel (up2 L 0 0 (nI d)) (up2 K 0 0 (nI d)) n d :=
  ⟨⟨sInv_today (rL h) hd, sInv_today (rK h) hd⟩, fun j hj => up2_eq (r0 h hj), fun c hc => ⟨r1 h hc, r2 h hc, r3 h hc, r4 h hc, r5 h hc⟩, fun d hd => r6 h hd, fun f hf => ⟨r7 h hf, r8 h hf⟩, fun p hp => r9 h hp, fun p hp e => ⟨r10 h hp e, r11 h hp e⟩, fun c d a b e => rZ h a b e, fun c a b => rB h a b, by rw [up2_j (by decide : (2 : Nat) ≠ 0)]; exact rP h⟩
/-- a kind that isn't 'charged' -/
theorem rel_9 (h : zRel L K n t) {c d : Nat} {k : Int32} (hc : c < n) (hd : d < 40) (hk : ¬ k = nI 2) : zRel (up2 L 9 (c * 40 + d) k) (up2 K 9 (c * 40 + d) k) n t :=
  ⟨⟨sInv_kind (rL h) hk, sInv_kind (rK h) hk⟩, fun j hj => r0 h hj, fun c hc => ⟨r1 h hc, r2 h hc, r3 h hc, r4 h hc, r5 h hc⟩, fun d hd => r6 h hd, fun f hf => ⟨r7 h hf, r8 h hf⟩, fun p hp => up2_eq (r9 h hp), fun p hp e => by
    by_cases w : p = c * 40 + d
    · subst w
      rw [up2_v] at e
      exact absurd e hk
    · rw [up2_j w] at e
      exact ⟨r10 h hp e, r11 h hp e⟩, fun c' d' a b e => by rw [up2_j (show c' * 40 + d' ≠ c * 40 + d by omega)]; exact rZ h a b e, fun c a b => rB h a b, fun z => rP h z⟩
/-- a charge -/
theorem rel_ch (h : zRel L K n t) {c d j : Nat} (hc : c < n) (hd : d < 40) (hj : j < n) : zRel (sCharge L (c * 40 + d) j) (sCharge K (c * 40 + d) j) n t := by
  have hn := rn h
  have e0 : L 0 2 = K 0 2 := r0 h (by decide)
  refine ⟨⟨sInv_charge (rL h) (by omega) hj, sInv_charge (rK h) (by omega) hj⟩, fun j hj => r0 h hj, fun c' hc' => ⟨r1 h hc', r2 h hc', ?_, r4 h hc', r5 h hc'⟩, fun d hd => r6 h hd, fun f hf => ⟨r7 h hf, r8 h hf⟩, fun p hp => ?_, fun p hp e => ?_, fun c' d' a b e => ?_, fun c' a b => ?_, fun z => rP h z⟩
  · show up2 L 3 j (L 3 j - L 0 2) 3 c' = up2 K 3 j (K 3 j - K 0 2) 3 c'
    rw [r3 h hj, e0]
    exact up2_eq (r3 h hc')
  · exact up2_eq (L := L) (K := K) (r9 h hp)
  · show up2 L 10 (c * 40 + d) (L 0 2) 10 p = up2 K 10 (c * 40 + d) (K 0 2) 10 p ∧ up2 L 11 (c * 40 + d) (nI j) 11 p = up2 K 11 (c * 40 + d) (nI j) 11 p
    by_cases w : p = c * 40 + d
    · subst w
      rw [up2_v, up2_v, up2_v, up2_v]
      exact ⟨e0, rfl⟩
    · have e2 : L 9 p = nI 2 := (up2_j (L := L) w).symm.trans e
      rw [up2_j w, up2_j w, up2_j w, up2_j w]
      exact ⟨r10 h hp e2, r11 h hp e2⟩
  · exact (up2_j (L := L) (show c' * 40 + d' ≠ c * 40 + d by omega)).trans (rZ h a b e)
  · exact (up2_j (L := K) (show c' ≠ j by omega)).trans (rB h a b)
-- what depends on related things only
theorem r_ent (h : zRel L K n t) {c : Nat} (hc : c < n) (d : Nat) : sEnt L c d ↔ sEnt K c d := by
  unfold sEnt
  rw [r4 h hc, r5 h hc]
theorem r_suit (h : zRel L K n t) {c d : Nat} (hc : c < n) (hd : d < 40) : sSuit L c d ↔ sSuit K c d := by
  unfold sSuit
  rw [r2 h hc, r6 h hd]
theorem zfold_cong {σ : Type} {f g : Nat → σ → σ} {s : σ} : ∀ {n : Nat}, (∀ k x, k < n → f k x = g k x) → zfold f n s = zfold g n s
  | 0, _ => rfl
  | n + 1, h => by rw [zfold_s, zfold_s, zfold_cong (fun k x hk => h k x (by omega)), h n _ (by omega)]
theorem r_rich (h : zRel L K n t) {c : Nat} (hc : c < n) : sRich L c n = sRich K c n := by
  unfold sRich
  rw [r0 h (by decide : 2 < 5)]
  refine zfold_cong fun k x hk => ?_
  rw [r1 h hk, r1 h hc, r3 h hk]
theorem r_payer (h : zRel L K n t) {c d : Nat} (hc : c < n) (hd : d < 40) : sPayer L n c d = sPayer K n c d := by
  obtain ⟨f, hf, e⟩ := (rK h).2.2.2.2.1 c hc
  have e7 : L 7 (L 1 c).toNatClampNeg = K 7 (K 1 c).toNatClampNeg := by rw [r1 h hc, e, nI_clamp (by omega)]; exact r7 h hf
  unfold sPayer
  rw [r_rich h hc, e7, r3 h hc, r0 h (by decide : 2 < 5), r0 h (by decide : 3 < 5)]
  exact zk_ifc (or_congr (not_congr (r_suit h hc hd)) (r_ent h hc d))
theorem r_kind (h : zRel L K n t) {c d : Nat} (hc : c < n) (hd : d < 40) : sKind L c d = sKind K c d := by
  unfold sKind
  by_cases w : ¬ sSuit L c d
  · exact (if_pos w).trans (if_pos (fun z => w ((r_suit h hc hd).mpr z))).symm
  · exact (if_neg w).trans ((zk_ifc (r_ent h hc d)).trans (if_neg (fun z => w (fun y => z ((r_suit h hc hd).mp y)))).symm)
theorem r_serve (h : zRel L K n t) {c d : Nat} (hc : c < n) (hd : d < 40) : (sServe L n c d).1 = (sServe K n c d).1 ∧ zRel (sServe L n c d).2 (sServe K n c d).2 n t := by
  unfold sServe
  rw [r_payer h hc hd, r_kind h hc hd]
  by_cases w : sPayer K n c d = -1
  · rw [if_pos w, if_pos w]
    exact ⟨rfl, rel_9 h hc hd (sKind_ne K c d)⟩
  · rw [if_neg w, if_neg w]
    obtain ⟨j, hj, e⟩ := (sPayer_in K d hc).resolve_left w
    rw [e, nI_clamp (by have := rn h; omega)]
    exact ⟨rfl, rel_ch h hc hd hj⟩
theorem r_dayC {x y : Int32 × zL} (h : zRel x.2 y.2 n t) (e : x.1 = y.1) {c d : Nat} (hc : c < n) (hd : d < 40) : zRel (sDayC n d c x).2 (sDayC n d c y).2 n t ∧ (sDayC n d c x).1 = (sDayC n d c y).1 := by
  have hn := rn h
  unfold sDayC
  rw [r9 h (show c * 40 + d < 480 by omega)]
  by_cases w : y.2 9 (c * 40 + d) = nI 1
  · rw [if_pos w, if_pos w]
    obtain ⟨a, b⟩ := r_serve h hc hd
    exact ⟨b, by show x.1 + _ = y.1 + _; rw [e, a]⟩
  · rw [if_neg w, if_neg w]
    exact ⟨h, e⟩
theorem r_day {x y : Int32 × zL} (h : zRel x.2 y.2 n t) (e : x.1 = y.1) {d : Nat} (hd : d < 40) : ∀ k, k ≤ n → zRel (zfold (sDayC n d) k x).2 (zfold (sDayC n d) k y).2 n t ∧ (zfold (sDayC n d) k x).1 = (zfold (sDayC n d) k y).1
  | 0, _ => ⟨h, e⟩
  | k + 1, hk => by
    obtain ⟨a, b⟩ := r_day h e hd k (by omega)
    exact r_dayC a b (by omega) hd
theorem r_days (h : zRel L K n t) : ∀ k, t + k ≤ 40 → zRel (sDays n t k L).2 (sDays n t k K).2 n (t + k) ∧ (sDays n t k L).1 = (sDays n t k K).1
  | 0, _ => ⟨h, rfl⟩
  | k + 1, hk => by
    obtain ⟨a, b⟩ := r_days h k (by omega)
    obtain ⟨c, d⟩ := r_day a b (d := t + k) (by omega) n (Nat.le_refl n)
    exact ⟨rel_00 c (by omega), d⟩
theorem r_settle (h : zRel L K n t) {c d : Nat} (hc : c < n) (hd : d < 40) : zRel (sSettle L c d) (sSettle K c d) n t := by
  have hn := rn h
  have hp : c * 40 + d < 480 := by omega
  unfold sSettle
  by_cases w : L 9 (c * 40 + d) = nI 2 ∧ sEnt L c d
  · have w2 : K 9 (c * 40 + d) = nI 2 ∧ sEnt K c d := ⟨(r9 h hp).symm.trans w.1, (r_ent h hc d).mp w.2⟩
    rw [if_pos w, if_pos w2, r10 h hp w.1, r11 h hp w.1]
    obtain ⟨j, hj, e⟩ := (rK h).2.2.2.2.2 (c * 40 + d) hp w2.1
    rw [e, nI_clamp (by omega), r3 h hj]
    exact rel_9 (rel_3 h hj _) hc hd (by decide)
  · rw [if_neg w, if_neg (show ¬ (K 9 (c * 40 + d) = nI 2 ∧ sEnt K c d) from fun z => w ⟨(r9 h hp).trans z.1, (r_ent h hc d).mpr z.2⟩)]
    by_cases w3 : L 9 (c * 40 + d) = nI 3 ∧ ¬ sEnt L c d
    · rw [if_pos w3, if_pos (show K 9 (c * 40 + d) = nI 3 ∧ ¬ sEnt K c d from ⟨(r9 h hp).symm.trans w3.1, fun z => w3.2 ((r_ent h hc d).mpr z)⟩)]
      exact rel_ch h hc hd hc
    · rw [if_neg w3, if_neg (show ¬ (K 9 (c * 40 + d) = nI 3 ∧ ¬ sEnt K c d) from fun z => w3 ⟨(r9 h hp).trans z.1, fun y => z.2 ((r_ent h hc d).mp y)⟩)]
      exact h
theorem r_entitle (h : zRel L K n t) {c : Nat} (hc : c < n) (fr to : Int32) : ∀ k, k ≤ 40 → zRel (sEntitle L k c fr to) (sEntitle K k c fr to) n t
  | 0, _ => rel_5 (rel_4 h c _) c to
  | k + 1, hk => r_settle (r_entitle h hc fr to k (by omega)) hc (by omega)
theorem r_sum3 (h : zRel L K n t) : zs (L 3) n = zs (K 3) n := zs_cong fun k hk => r3 h hk
theorem r_debt (h : zRel L K n t) (f : Int32) : sDebt L n f = sDebt K n f := by
  unfold sDebt
  exact zs_cong fun k hk => by rw [r1 h hk, r3 h hk]
theorem r_sumof (h : zRel L K n t) (f : Int32) : sSumOf L n f = sSumOf K n f := by
  unfold sSumOf
  exact zs_cong fun k hk => by rw [r1 h hk, r3 h hk]
theorem r_off (h : zRel L K n t) (f : Int32) : ∀ k, k ≤ n → zRel (sOff L f k) (sOff K f k) n t
  | 0, _ => h
  | k + 1, hk => by
    have ih := r_off h f k (by omega)
    show zRel (if (sOff L f k) 1 k = f ∧ (sOff L f k) 3 k < 0 then up2 (sOff L f k) 3 k (nI 0) else sOff L f k) (if (sOff K f k) 1 k = f ∧ (sOff K f k) 3 k < 0 then up2 (sOff K f k) 3 k (nI 0) else sOff K f k) n t
    rw [r1 ih (show k < n by omega), r3 ih (show k < n by omega)]
    by_cases w : (sOff K f k) 1 k = f ∧ (sOff K f k) 3 k < 0
    · rw [if_pos w, if_pos w]
      exact rel_3 ih (by omega) _
    · rw [if_neg w, if_neg w]
      exact ih
theorem r_write (h : zRel L K n t) {f : Nat} (hf : f < 5) : zRel (sWrite L n f) (sWrite K n f) n t := by
  have ho := r_off h (nI f) n (Nat.le_refl n)
  unfold sWrite
  rw [r8 ho hf, r_debt h]
  exact rel_8 ho f _
theorem r_pay (h : zRel L K n t) {c : Nat} (hc : c < n) (am : Int32) : zRel (sPay L c am) (sPay K c am) n t := by
  unfold sPay
  rw [r0 h (by decide : 4 < 5), r3 h hc]
  exact rel_3 (rel_0 h _ (by decide) (by decide) (by decide)) hc _
theorem r_move (h : zRel L K n t) {c o : Nat} (hc : c < n) (ho : o < n) (am : Int32) : zRel (sMove L c o am) (sMove K c o am) n t := by
  have h1 : zRel (up2 L 3 o (L 3 o + am)) (up2 K 3 o (K 3 o + am)) n t := by
    rw [r3 h ho]
    exact rel_3 h ho _
  unfold sMove
  rw [r3 h1 hc]
  exact rel_3 h1 hc _
theorem r_ord (h : zRel L K n t) {c d : Nat} (hc : c < n) (hd : d < 40) (b : Int32) : zRel (sOrd L (c * 40 + d) b) (sOrd K (c * 40 + d) b) n t := by
  unfold sOrd
  exact rel_9 h hc hd (by split <;> decide)
theorem r_share (h : zRel L K n t) (f : Nat) (b : Int32) : zRel (sShare L f b) (sShare K f b) n t := rel_7 h f _
theorem r_set (h : zRel L K n t) {w v : Int32} (hv : kwSet w v = 0) : zRel (sSet L w v) (sSet K w v) n t := by
  unfold sSet
  by_cases e : w = 0
  · rw [if_pos e, if_pos e]
    refine rel_02 h v ?_
    unfold kwSet at hv
    by_cases z : (w = 0 ∧ ¬ v < nI 1 ∧ ¬ nI 999 < v) ∨ (w = nI 1 ∧ ¬ v < 0 ∧ ¬ nI 9999 < v)
    · rcases z with z | z
      · exact z.2.1
      · exact absurd (e.symm.trans z.1) (by decide)
    · rw [if_neg z] at hv
      exact absurd hv (by decide)
  · rw [if_neg e, if_neg e]
    exact rel_0 h v (by decide) (by decide) (by decide)
/-- a child comes -/
theorem r_come (h : zRel L K n t) (hn : n < 12) {f di : Int32} (hf : sFam f) : zRel (sCome L n f di) (kCome K n f di) (n + 1) t := by
  refine ⟨⟨sInv_come (rL h) hn hf, sInv_kCome (rK h) hn hf⟩, fun j hj => up2_eq (L := L) (K := K) (r0 h hj), fun c hc => ⟨?_, ?_, ?_, ?_, ?_⟩, fun d hd => r6 h hd, fun f hf => ⟨r7 h hf, r8 h hf⟩, fun p hp => r9 h hp, fun p hp e => ⟨r10 h hp e, r11 h hp e⟩, fun c d a b e => rZ h (by omega) b e, fun c a b => rB h (by omega) b, fun z => rP h z⟩
  · by_cases w : c = n
    · subst w
      show up2 L 1 c f 1 c = up2 K 1 c f 1 c
      exact (up2_v (L := L)).trans (up2_v (L := K)).symm
    · exact up2_eq (L := L) (K := K) (r1 h (by omega))
  · by_cases w : c = n
    · subst w
      show up2 L 2 c di 2 c = up2 K 2 c di 2 c
      exact (up2_v (L := L)).trans (up2_v (L := K)).symm
    · exact up2_eq (L := L) (K := K) (r2 h (by omega))
  · by_cases w : c = n
    · subst w
      show up2 L 3 c (nI 0) 3 c = K 3 c
      exact (up2_v (L := L)).trans (rB h (Nat.le_refl c) hn).symm
    · exact (up2_j (L := L) w).trans (r3 h (by omega))
  · by_cases w : c = n
    · subst w
      show up2 L 4 c (-1) 4 c = up2 K 4 c (-1) 4 c
      exact (up2_v (L := L)).trans (up2_v (L := K)).symm
    · exact up2_eq (L := L) (K := K) (r4 h (by omega))
  · by_cases w : c = n
    · subst w
      show up2 L 5 c (-1) 5 c = up2 K 5 c (-1) 5 c
      exact (up2_v (L := L)).trans (up2_v (L := K)).symm
    · exact up2_eq (L := L) (K := K) (r5 h (by omega))
end ZQ
