/-! Counting meals: what a change of one kind does; what is served in days. -/
theorem i32_a (a b c : Int32) : a + b = a + c + (b - c) := by grind
theorem i32_b (a b c d : Int32) : a + b + (c - d) = a + (c - d) + b := by grind
theorem zs_up {f g : Nat → Int32} {k0 : Nat} (h : ∀ k, k ≠ k0 → f k = g k) : ∀ {n : Nat}, k0 < n → zs f n = zs g n + (f k0 - g k0)
  | 0, hk => absurd hk (Nat.not_lt_zero _)
  | n + 1, hk => by
    rw [zs_s, zs_s]
    by_cases e : k0 = n
    · subst e
      rw [zs_cong (fun k hk => h k (by omega))]
      exact i32_a _ _ _
    · rw [zs_up h (n := n) (by omega), h n (Ne.symm e)]
      exact (i32_b _ _ _ _).symm
/-- all meals of a kind -/
def kAll (K : zL) (n : Nat) (w : Int32) : Int32 := zs (fun c => zs (fun d => if K 9 (c * 40 + d) = w then nI 1 else nI 0) 40) n
theorem kCnt_all (K : zL) (n : Nat) (w : Int32) : kCnt K n (-1) (-1) w = kAll K n w := by
  unfold kCnt kAll
  refine zs_cong fun c _ => zs_cong fun d _ => ?_
  exact zk_ifc ⟨fun h => h.2.2, fun h => ⟨Or.inl rfl, Or.inl rfl, h⟩⟩
theorem kAll_up {K K' : zL} {n c d : Nat} {x : Int32} (h : K' 9 = upd (K 9) (c * 40 + d) x) (hc : c < n) (hd : d < 40) (w : Int32) : kAll K' n w = kAll K n w + ((if x = w then nI 1 else nI 0) - (if K 9 (c * 40 + d) = w then nI 1 else nI 0)) := by
  unfold kAll
  rw [zs_up (f := fun c => zs (fun d => if K' 9 (c * 40 + d) = w then nI 1 else nI 0) 40) (g := fun c => zs (fun d => if K 9 (c * 40 + d) = w then nI 1 else nI 0) 40) (k0 := c) (fun k hk => zs_cong fun e he => by rw [h, upd_ne _ _ (by omega)]) hc]
  congr 1
  have e2 := zs_up (f := fun d => if K' 9 (c * 40 + d) = w then nI 1 else nI 0) (g := fun d => if K 9 (c * 40 + d) = w then nI 1 else nI 0) (k0 := d) (n := 40) (fun k hk => by rw [h, upd_ne _ _ (by omega)]) hd
  show zs (fun d => if K' 9 (c * 40 + d) = w then nI 1 else nI 0) 40 - zs (fun d => if K 9 (c * 40 + d) = w then nI 1 else nI 0) 40 = _
  rw [e2, h, upd_same]
  grind
/-- serving changes one kind -/
theorem sServe_k (K : zL) (n c d : Nat) : ∃ x, (sServe K n c d).2 9 = upd (K 9) (c * 40 + d) x ∧ (((x = nI 2 ∨ x = nI 3) ∧ (sServe K n c d).1 = nI 1) ∨ ((x = nI 4 ∨ x = nI 5) ∧ (sServe K n c d).1 = nI 0)) := by
  unfold sServe
  by_cases h : sPayer K n c d = -1
  · rw [if_pos h]
    refine ⟨sKind K c d, show up2 K 9 (c * 40 + d) (sKind K c d) 9 = _ from up2_same .., ?_⟩
    unfold sKind
    by_cases h1 : sSuit K c d
    · rw [if_neg (fun z => z h1)]
      by_cases h2 : sEnt K c d
      · rw [if_pos h2]
        exact Or.inl ⟨Or.inr rfl, show (if nI 3 = nI 3 then nI 1 else nI 0) = nI 1 by decide⟩
      · rw [if_neg h2]
        exact Or.inr ⟨Or.inl rfl, show (if nI 4 = nI 3 then nI 1 else nI 0) = nI 0 by decide⟩
    · rw [if_pos h1]
      exact Or.inr ⟨Or.inr rfl, show (if nI 5 = nI 3 then nI 1 else nI 0) = nI 0 by decide⟩
  · rw [if_neg h]
    refine ⟨nI 2, ?_, Or.inl ⟨Or.inl rfl, rfl⟩⟩
    unfold sCharge
    show up2 (up2 (up2 (up2 K 3 (sPayer K n c d).toNatClampNeg (K 3 (sPayer K n c d).toNatClampNeg - K 0 2)) 9 (c * 40 + d) (nI 2)) 10 (c * 40 + d) (K 0 2)) 11 (c * 40 + d) (nI (sPayer K n c d).toNatClampNeg) 9 = _
    rw [up2_ne (h := (by decide : (9:Nat) ≠ 11)), up2_ne (h := (by decide : (9:Nat) ≠ 10)), up2_same, up2_ne (h := (by decide : (9:Nat) ≠ 3))]
def kS (K : zL) (n : Nat) : Int32 := kAll K n (nI 2) + kAll K n (nI 3)
theorem kSrv_all (K : zL) (n : Nat) : kSrv K n (-1) (-1) = kS K n := by
  unfold kSrv kS
  rw [kCnt_all, kCnt_all]
theorem kS_cong {K K' : zL} (h : K' 9 = K 9) (n : Nat) : kS K' n = kS K n := by
  unfold kS kAll
  rw [h]
theorem kS_serve {K : zL} {n c d : Nat} (hc : c < n) (hd : d < 40) (h1 : K 9 (c * 40 + d) = nI 1) : kS (sServe K n c d).2 n = kS K n + (sServe K n c d).1 := by
  obtain ⟨x, hx, hc2⟩ := sServe_k K n c d
  unfold kS
  rw [kAll_up hx hc hd, kAll_up hx hc hd, h1, if_neg (show ¬ nI 1 = nI 2 by decide), if_neg (show ¬ nI 1 = nI 3 by decide)]
  rcases hc2 with ⟨h, e⟩ | ⟨h, e⟩ <;> rw [e] <;> rcases h with h | h <;> subst h
  · rw [if_pos rfl, if_neg (show ¬ nI 2 = nI 3 by decide), show (nI 0 : Int32) = 0 from rfl]
    grind
  · rw [if_pos rfl, if_neg (show ¬ nI 3 = nI 2 by decide), show (nI 0 : Int32) = 0 from rfl]
    grind
  · rw [if_neg (show ¬ nI 4 = nI 2 by decide), if_neg (show ¬ nI 4 = nI 3 by decide), show (nI 0 : Int32) = 0 from rfl]
    grind
  · rw [if_neg (show ¬ nI 5 = nI 2 by decide), if_neg (show ¬ nI 5 = nI 3 by decide), show (nI 0 : Int32) = 0 from rfl]
    grind
theorem kS_days (K : zL) {n t : Nat} : ∀ k, t + k ≤ 40 → kS (sDays n t k K).2 n = kS K n + (sDays n t k K).1
  | 0, _ => (zk_a0 _).symm
  | k + 1, hk => by
    have ih := kS_days K (n := n) (t := t) k (by omega)
    show kS (up2 (zfold (sDayC n (t + k)) n (sDays n t k K)).2 0 0 (nI (t + k + 1))) n = kS K n + (zfold (sDayC n (t + k)) n (sDays n t k K)).1
    rw [kS_cong (up2_ne _ _ _ (by decide))]
    refine zfold_invB (P := fun x : Int32 × zL => kS x.2 n = kS K n + x.1) ih n (fun i x hi hx => ?_) n (Nat.le_refl n)
    unfold sDayC
    by_cases h : x.2 9 (i * 40 + (t + k)) = nI 1
    · rw [if_pos h]
      show kS (sServe x.2 n i (t + k)).2 n = kS K n + (x.1 + (sServe x.2 n i (t + k)).1)
      rw [kS_serve hi (by omega) h, hx, Int32.add_assoc]
    · rw [if_neg h]
      exact hx
/-- the model's number of meals served in some days -/
theorem kSrv_days (K : zL) {n t : Nat} (k : Nat) (hk : t + k ≤ 40) : kSrv (kDays n t k K) n (-1) (-1) - kSrv K n (-1) (-1) = (sDays n t k K).1 := by
  rw [kSrv_all, kSrv_all, ← kDays_eq, kS_days K k hk]
  grind
theorem zfold_le {σ : Type} {f : Nat → σ → σ} {g : σ → Int32} (hs : ∀ i x, g (f i x) = g x ∨ g (f i x) = g x + nI 1) {s : σ} {a : Nat} (h : ∃ m, m ≤ a ∧ g s = nI m) : ∀ n, ∃ m, m ≤ a + n ∧ g (zfold f n s) = nI m
  | 0 => h
  | n + 1 => by
    obtain ⟨m, hm, e⟩ := zfold_le hs h n
    rcases hs n (zfold f n s) with z | z
    · exact ⟨m, by omega, by rw [zfold_s, z, e]⟩
    · exact ⟨m + 1, by omega, by rw [zfold_s, z, e, nI_add]⟩
theorem sDays_le (K : zL) (n t : Nat) : ∀ k, ∃ m, m ≤ n * k ∧ (sDays n t k K).1 = nI m
  | 0 => ⟨0, by omega, rfl⟩
  | k + 1 => by
    obtain ⟨m, hm, e⟩ := zfold_le (f := sDayC n (t + k)) (g := Prod.fst) (s := sDays n t k K) (a := n * k) (fun i x => by
      unfold sDayC
      by_cases h : x.2 9 (i * 40 + (t + k)) = nI 1
      · rw [if_pos h]
        rcases sServe_01 x.2 n i (t + k) with z | z
        · exact Or.inl (by show x.1 + _ = x.1; rw [z]; exact zk_a0 _)
        · exact Or.inr (by show x.1 + _ = x.1 + _; rw [z])
      · rw [if_neg h]
        exact Or.inl rfl) (sDays_le K n t k) n
    exact ⟨m, by rw [Nat.mul_succ]; exact hm, e⟩
theorem kDays_nn (K : zL) {n t : Nat} (k : Nat) (hn : n ≤ 12) (hk : t + k ≤ 40) : ¬ kSrv (kDays n t k K) n (-1) (-1) - kSrv K n (-1) (-1) < 0 := by
  rw [kSrv_days K k hk]
  obtain ⟨m, hm, e⟩ := sDays_le K n t k
  rw [e]
  have : n * k ≤ 12 * 40 := Nat.mul_le_mul hn (by omega)
  exact nI_pos (by omega)
/-- counts are numbers -/
theorem zs_le {f : Nat → Int32} {a : Nat} (h : ∀ k, ∃ m, m ≤ a ∧ f k = nI m) : ∀ n, ∃ m, m ≤ a * n ∧ zs f n = nI m
  | 0 => ⟨0, by omega, rfl⟩
  | n + 1 => by
    obtain ⟨m, hm, e⟩ := zs_le h n
    obtain ⟨m2, hm2, e2⟩ := h n
    exact ⟨m + m2, by rw [Nat.mul_succ]; omega, by rw [zs_s, e, e2, nI_add]⟩
theorem zs_01 {c : Nat → Prop} [∀ k, Decidable (c k)] : ∀ k, ∃ m, m ≤ 1 ∧ (if c k then nI 1 else nI 0) = nI m := fun k => by
  by_cases h : c k
  · exact ⟨1, by omega, if_pos h⟩
  · exact ⟨0, by omega, if_neg h⟩
theorem kCnt_le (K : zL) (n : Nat) (ch dy w : Int32) : ∃ m, m ≤ 40 * n ∧ kCnt K n ch dy w = nI m := by
  obtain ⟨m, hm, e⟩ := zs_le (a := 40) (f := fun c => zs (fun d => if (ch = -1 ∨ nI c = ch) ∧ (dy = -1 ∨ nI d = dy) ∧ K 9 (c * 40 + d) = w then nI 1 else nI 0) 40) (fun c => by
    obtain ⟨m, hm, e⟩ := zs_le (a := 1) (f := fun d => if (ch = -1 ∨ nI c = ch) ∧ (dy = -1 ∨ nI d = dy) ∧ K 9 (c * 40 + d) = w then nI 1 else nI 0) zs_01 40
    exact ⟨m, by omega, e⟩) n
  exact ⟨m, hm, e⟩
theorem kCnt_nn (K : zL) {n : Nat} (hn : n ≤ 12) (ch dy w : Int32) : ¬ kCnt K n ch dy w < 0 := by
  obtain ⟨m, hm, e⟩ := kCnt_le K n ch dy w
  rw [e]
  exact nI_pos (by omega)
/-- a command on a row -/
def kDoes (K : zL) (n t : Nat) (sg a b th : Int32) : Int32 × zL :=
  if sg = nI 99 then (if n < 12 then (nI 1, kCome K n a b) else (nI 0, K))
  else if sg = nI 109 then (if a < nI t then (nI 0, K) else (nI 1, up2 K 6 a.toNatClampNeg b))
  else if sg = nI 111 then (if kwOrd K t a b = 0 then (nI 1, sOrd K (a.toNatClampNeg * 40 + b.toNatClampNeg) (if K 9 (a.toNatClampNeg * 40 + b.toNatClampNeg) = 0 then nI 1 else nI 0)) else (nI 0, K))
  else if sg = nI 112 then (if sHas K a then (nI 1, sPay K a.toNatClampNeg b) else (nI 0, K))
  else if sg = nI 101 then (if sfEnt K a b th = 0 then (nI 1, sEntitle K t a.toNatClampNeg b th) else (nI 0, K))
  else if sg = nI 104 then (nI 1, up2 K 7 a.toNatClampNeg (nI 1 - K 7 a.toNatClampNeg))
  else (if ¬ a < nI 1 ∧ ¬ nI 40 - nI t < a then (nI 1, kDays n t a.toNatClampNeg K) else (nI 0, K))
def kDok (sg a : Int32) : Prop := (sg = nI 99 → sFam a) ∧ (sg = nI 109 → sDay a) ∧ (sg = nI 104 → sFam a)
theorem kDoes_99 {K : zL} {n t : Nat} {sg a b th : Int32} (h : sg = nI 99) : kDoes K n t sg a b th = (if n < 12 then (nI 1, kCome K n a b) else (nI 0, K)) := by subst h; rfl
theorem kDoes_109 {K : zL} {n t : Nat} {sg a b th : Int32} (h : sg = nI 109) : kDoes K n t sg a b th = (if a < nI t then (nI 0, K) else (nI 1, up2 K 6 a.toNatClampNeg b)) := by subst h; rfl
theorem kDoes_111 {K : zL} {n t : Nat} {sg a b th : Int32} (h : sg = nI 111) : kDoes K n t sg a b th = (if kwOrd K t a b = 0 then (nI 1, sOrd K (a.toNatClampNeg * 40 + b.toNatClampNeg) (if K 9 (a.toNatClampNeg * 40 + b.toNatClampNeg) = 0 then nI 1 else nI 0)) else (nI 0, K)) := by subst h; rfl
theorem kDoes_112 {K : zL} {n t : Nat} {sg a b th : Int32} (h : sg = nI 112) : kDoes K n t sg a b th = (if sHas K a then (nI 1, sPay K a.toNatClampNeg b) else (nI 0, K)) := by subst h; rfl
theorem kDoes_101 {K : zL} {n t : Nat} {sg a b th : Int32} (h : sg = nI 101) : kDoes K n t sg a b th = (if sfEnt K a b th = 0 then (nI 1, sEntitle K t a.toNatClampNeg b th) else (nI 0, K)) := by subst h; rfl
theorem kDoes_104 {K : zL} {n t : Nat} {sg a b th : Int32} (h : sg = nI 104) : kDoes K n t sg a b th = (nI 1, up2 K 7 a.toNatClampNeg (nI 1 - K 7 a.toNatClampNeg)) := by subst h; rfl
theorem kDoes_no {K : zL} {n t : Nat} {sg a b th : Int32} (h1 : ¬ sg = nI 99) (h2 : ¬ sg = nI 109) (h3 : ¬ sg = nI 111) (h4 : ¬ sg = nI 112) (h5 : ¬ sg = nI 101) (h6 : ¬ sg = nI 104) : kDoes K n t sg a b th = (if ¬ a < nI 1 ∧ ¬ nI 40 - nI t < a then (nI 1, kDays n t a.toNatClampNeg K) else (nI 0, K)) := by
  unfold kDoes
  rw [if_neg h1, if_neg h2, if_neg h3, if_neg h4, if_neg h5, if_neg h6]
theorem kDoes_inv {K : zL} {n t : Nat} {sg a b th : Int32} (h : sInv K n t) (hd : kDok sg a) : zOk (kDoes K n t sg a b th) := by
  by_cases h1 : sg = nI 99
  · rw [kDoes_99 h1]
    by_cases w : n < 12
    · rw [if_pos w]
      exact sInv_at (sInv_kCome h w (hd.1 h1))
    · rw [if_neg w]
      exact sInv_at h
  · by_cases h2 : sg = nI 109
    · rw [kDoes_109 h2]
      exact zOk_if (sInv_at h) (sInv_at (sInv_row h rfl rfl rfl rfl))
    · by_cases h3 : sg = nI 111
      · rw [kDoes_111 h3]
        exact zOk_if (sInv_at (sInv_ord _ h)) (sInv_at h)
      · by_cases h4 : sg = nI 112
        · rw [kDoes_112 h4]
          exact zOk_if (sInv_at (sInv_pay _ h)) (sInv_at h)
        · by_cases h5 : sg = nI 101
          · rw [kDoes_101 h5]
            by_cases w : sfEnt K a b th = 0
            · rw [if_pos w]
              obtain ⟨k, hk, e⟩ := sHas_nat h (sfEnt_0 w).1
              rw [e, nI_clamp (by have := h.2.1; omega)]
              exact sInv_at (sInv_entitle b th h hk h.2.1 t h.2.2.2.1)
            · rw [if_neg w]
              exact sInv_at h
          · by_cases h6 : sg = nI 104
            · rw [kDoes_104 h6]
              exact sInv_at (sInv_row h rfl rfl rfl rfl)
            · rw [kDoes_no h1 h2 h3 h4 h5 h6]
              by_cases w : ¬ a < nI 1 ∧ ¬ nI 40 - nI t < a
              · rw [if_pos w]
                obtain ⟨j, e, j1, j2⟩ := kwDays_0 h.2.2.2.1 w
                rw [e, nI_clamp (by omega)]
                exact sInv_at (sInv_kDays h j j2)
              · rw [if_neg w]
                exact sInv_at h
theorem kDoes_r0 {K : zL} {n t : Nat} {sg a b th : Int32} : (kDoes K n t sg a b th).2 0 2 = K 0 2 := by
  by_cases h1 : sg = nI 99
  · rw [kDoes_99 h1]
    by_cases w : n < 12
    · rw [if_pos w]; rfl
    · rw [if_neg w]
  · by_cases h2 : sg = nI 109
    · rw [kDoes_109 h2]
      by_cases w : a < nI t
      · rw [if_pos w]
      · rw [if_neg w]; rfl
    · by_cases h3 : sg = nI 111
      · rw [kDoes_111 h3]
        by_cases w : kwOrd K t a b = 0
        · rw [if_pos w]; rfl
        · rw [if_neg w]
      · by_cases h4 : sg = nI 112
        · rw [kDoes_112 h4]
          by_cases w : sHas K a
          · rw [if_pos w]; rfl
          · rw [if_neg w]
        · by_cases h5 : sg = nI 101
          · rw [kDoes_101 h5]
            by_cases w : sfEnt K a b th = 0
            · rw [if_pos w]
              exact congrFun (sEntitle_r0 K t a.toNatClampNeg b th) 2
            · rw [if_neg w]
          · by_cases h6 : sg = nI 104
            · rw [kDoes_104 h6]; rfl
            · rw [kDoes_no h1 h2 h3 h4 h5 h6]
              by_cases w : ¬ a < nI 1 ∧ ¬ nI 40 - nI t < a
              · rw [if_pos w]
                exact kDays_r0 _
              · rw [if_neg w]
