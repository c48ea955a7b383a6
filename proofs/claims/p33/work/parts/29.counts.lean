/-! Rows of a ledger; sums. -/
theorem zk_ifc {c d : Prop} [Decidable c] [Decidable d] (h : c ↔ d) {x y : Int32} : (if c then x else y) = if d then x else y := by
  by_cases hc : c
  · rw [if_pos hc, if_pos (h.mp hc)]
  · rw [if_neg hc, if_neg (fun z => hc (h.mpr z))]
theorem zs_cong {f g : Nat → Int32} : ∀ {n : Nat}, (∀ k, k < n → f k = g k) → zs f n = zs g n
  | 0, _ => rfl
  | n + 1, h => by rw [zs_s, zs_s, zs_cong (fun k hk => h k (by omega)), h n (by omega)]
theorem up2_r {L : zL} {i i' j : Nat} {v : Int32} (h : i' ≠ i) (k : Nat) : up2 L i j v i' k = L i' k := by rw [up2_ne L j v h]
theorem up2_j {L : zL} {i j k : Nat} {v : Int32} (h : k ≠ j) : up2 L i j v i k = L i k := by rw [up2_same, upd_ne _ _ h]
theorem up2_v {L : zL} {i j : Nat} {v : Int32} : up2 L i j v i j = v := by rw [up2_same, upd_same]
theorem up2_eq {L K : zL} {i j : Nat} {v : Int32} {k : Nat} (h : L i k = K i k) : up2 L i j v i k = up2 K i j v i k := by
  by_cases e : k = j
  · subst e
    rw [up2_v, up2_v]
  · rw [up2_j e, up2_j e]
    exact h
theorem zfold_cong {σ : Type} {f g : Nat → σ → σ} {s : σ} : ∀ {n : Nat}, (∀ k x, k < n → f k x = g k x) → zfold f n s = zfold g n s
  | 0, _ => rfl
  | n + 1, h => by rw [zfold_s, zfold_s, zfold_cong (fun k x hk => h k x (by omega)), h n _ (by omega)]
theorem zs_pl (f : Nat → Int32) (m : Nat) : ∀ k, zs f (m + k) = zs f m + zs (fun i => f (m + i)) k
  | 0 => (zk_a0 _).symm
  | k + 1 => by
    show zs f (m + k) + f (m + k) = zs f m + (zs (fun i => f (m + i)) k + f (m + k))
    rw [zs_pl f m k, Int32.add_assoc]
theorem zs_flat (f : Nat → Int32) : ∀ a, zs f (a * 40) = zs (fun c => zs (fun d => f (c * 40 + d)) 40) a
  | 0 => rfl
  | a + 1 => by
    rw [Nat.succ_mul, zs_pl, zs_flat f a]
    rfl
theorem zs_cut {f : Nat → Int32} {n : Nat} : ∀ k, (∀ c, n ≤ c → c < n + k → f c = nI 0) → zs f (n + k) = zs f n
  | 0, _ => rfl
  | k + 1, h => by
    show zs f (n + k) + f (n + k) = _
    rw [h (n + k) (by omega) (by omega), zs_cut k (fun c a b => h c a (by omega))]
    exact zk_a0 _
theorem zs_zero {f : Nat → Int32} : ∀ {n : Nat}, (∀ k, k < n → f k = nI 0) → zs f n = nI 0
  | 0, _ => rfl
  | n + 1, h => by
    rw [zs_s, h n (by omega), zs_zero (fun k hk => h k (by omega))]
    rfl
theorem zs_one {f : Nat → Int32} {j : Nat} : ∀ {n : Nat}, j < n → (∀ k, k < n → k ≠ j → f k = nI 0) → zs f n = f j
  | 0, h, _ => absurd h (Nat.not_lt_zero j)
  | n + 1, hj, h => by
    rw [zs_s]
    by_cases e : j = n
    · subst e
      rw [zs_zero (fun k hk => h k (by omega) (by omega))]
      exact (show (0 : Int32) + f j = f j from Int32.zero_add _)
    · rw [h n (by omega) (Ne.symm e), zs_one (by omega) (fun k hk => h k (by omega))]
      exact zk_a0 _
theorem zs_add (f g : Nat → Int32) : ∀ n, zs (fun i => f i + g i) n = zs f n + zs g n
  | 0 => rfl
  | n + 1 => by
    rw [zs_s, zs_s, zs_s, zs_add f g n]
    grind
theorem zs_swap (f : Nat → Nat → Int32) (b : Nat) : ∀ a, zs (fun i => zs (fun j => f i j) b) a = zs (fun j => zs (fun i => f i j) a) b
  | 0 => (zs_zero (fun _ _ => rfl)).symm
  | a + 1 => by
    rw [zs_s, zs_swap f b a, ← zs_add]
    rfl
theorem zs_const (b : Nat) : ∀ n, zs (fun _ => nI b) n = nI (b * n)
  | 0 => rfl
  | n + 1 => by rw [zs_s, zs_const b n, nI_add, Nat.mul_succ]
/-- kinds are 0 to 5 -/
def zKi (L : zL) : Prop := ∀ p, p < 480 → ∃ k, k ≤ 5 ∧ L 9 p = nI k
theorem ki_1 {x : Int32} (h : ∃ k, k ≤ 5 ∧ x = nI k) : (if x = nI 0 then nI 1 else nI 0) + (((((if x = nI 2 then nI 1 else nI 0) + (if x = nI 3 then nI 1 else nI 0)) + (if x = nI 1 then nI 1 else nI 0)) + (if x = nI 4 then nI 1 else nI 0)) + (if x = nI 5 then nI 1 else nI 0)) = nI 1 := by
  obtain ⟨k, hk, e⟩ := h
  subst e
  rcases (show k = 0 ∨ k = 1 ∨ k = 2 ∨ k = 3 ∨ k = 4 ∨ k = 5 by omega) with e | e | e | e | e | e <;> subst e <;> decide
/-- sums of numbers -/
def ns (g : Nat → Nat) : Nat → Nat
  | 0 => 0
  | n + 1 => ns g n + g n
theorem zs_ns {f : Nat → Int32} {g : Nat → Nat} : ∀ {m : Nat}, (∀ k, k < m → f k = nI (g k)) → zs f m = nI (ns g m)
  | 0, _ => rfl
  | m + 1, h => by rw [zs_s, zs_ns (fun k hk => h k (by omega)), h m (by omega), nI_add]; rfl
theorem ns_le {g : Nat → Nat} {b : Nat} (h : ∀ k, g k ≤ b) : ∀ m, ns g m ≤ b * m
  | 0 => Nat.zero_le _
  | m + 1 => by have := ns_le h m; have := h m; rw [Nat.mul_succ]; show ns g m + g m ≤ _; omega
theorem ns_mono {g g2 : Nat → Nat} : ∀ {m : Nat}, (∀ k, k < m → g k ≤ g2 k) → ns g m ≤ ns g2 m
  | 0, _ => Nat.le_refl _
  | m + 1, h => by
    have := ns_mono (m := m) (fun k hk => h k (by omega))
    have := h m (by omega)
    show ns g m + g m ≤ ns g2 m + g2 m
    omega
theorem ns_cong {g g2 : Nat → Nat} : ∀ {m : Nat}, (∀ k, k < m → g k = g2 k) → ns g m = ns g2 m
  | 0, _ => rfl
  | m + 1, h => by
    show ns g m + g m = ns g2 m + g2 m
    rw [ns_cong (m := m) (fun k hk => h k (by omega)), h m (by omega)]
/-- counts are numbers -/
theorem zs_le {f : Nat → Int32} {a : Nat} (h : ∀ k, ∃ m, m ≤ a ∧ f k = nI m) : ∀ n, ∃ m, m ≤ a * n ∧ zs f n = nI m
  | 0 => ⟨0, by omega, rfl⟩
  | n + 1 => by
    obtain ⟨m, hm, e⟩ := zs_le h n
    obtain ⟨m2, hm2, e2⟩ := h n
    exact ⟨m + m2, by rw [Nat.mul_succ]; omega, by rw [zs_s, e, e2, nI_add]⟩
theorem zs_01 {c : Nat → Prop} [∀ k, Decidable (c k)] : ∀ k, ∃ m, m ≤ 1 ∧ (if c k then nI 1 else nI 0) = nI m := fun k => by
  by_cases h : c k
  · exact ⟨1, by omega, if_pos h⟩
  · exact ⟨0, by omega, if_neg h⟩
