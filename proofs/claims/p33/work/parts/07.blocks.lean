section ZR
variable {p : Program} {l : Launch} {e : Env} {R : Room} {s : State} {m : MethodId} {args : Array Value} {below : List Frame} {meth : Method} {c : Code} {H : Heap} {locs : List Loc} {cells slots : Nat} {Q : State → Prop}
variable {cc : ByteArray} {pc : Nat} {ls : Array Slot} {rest : List Value} {D : va_G} {cl : List vw_C} {A : Nat → Prop} {a : Nat} {tys : List (ClassId × FieldType)} {ws : va_W} {H0 : Heap}
theorem zk_iaddN (hx : p.tables.exec = Jvm.exec) (hb : c.code = cc) (hdg : decode cc pc = .ok (.iadd, 1)) {x y : Nat} (k : W p l e R s m args below meth c H locs cells slots Q (F0 m (pc + 1) ls (.int (nI (x + y)) :: rest))) : W p l e R s m args below meth c H locs cells slots Q (F0 m pc ls (.int (nI y) :: .int (nI x) :: rest)) := lv_iadd hx hb hdg (by rw [nI_add]; exact k)
theorem zk_imulN (hx : p.tables.exec = Jvm.exec) (hb : c.code = cc) (hdg : decode cc pc = .ok (.imul, 1)) {x y : Nat} (k : W p l e R s m args below meth c H locs cells slots Q (F0 m (pc + 1) ls (.int (nI (x * y)) :: rest))) : W p l e R s m args below meth c H locs cells slots Q (F0 m pc ls (.int (nI y) :: .int (nI x) :: rest)) := lv_imul hx hb hdg (by rw [pk_mul]; exact k)
theorem zk_isubN (hx : p.tables.exec = Jvm.exec) (hb : c.code = cc) (hdg : decode cc pc = .ok (.isub, 1)) {x y : Nat} (h : y ≤ x) (k : W p l e R s m args below meth c H locs cells slots Q (F0 m (pc + 1) ls (.int (nI (x - y)) :: rest))) : W p l e R s m args below meth c H locs cells slots Q (F0 m pc ls (.int (nI y) :: .int (nI x) :: rest)) := lv_isub hx hb hdg (by rw [pk_sub h]; exact k)
theorem zk_idivN (hx : p.tables.exec = Jvm.exec) (hb : c.code = cc) (hdg : decode cc pc = .ok (.idiv, 1)) {x y : Nat} (h1 : x < 2 ^ 31) (h2 : 0 < y) (h3 : y < 2 ^ 31) (k : W p l e R s m args below meth c H locs cells slots Q (F0 m (pc + 1) ls (.int (nI (x / y)) :: rest))) : W p l e R s m args below meth c H locs cells slots Q (F0 m pc ls (.int (nI y) :: .int (nI x) :: rest)) := lv_idiv hx hb hdg (nI_ne0 h2 h3) (by rw [pk_div h1 h2 h3]; exact k)
theorem zk_iremN (hx : p.tables.exec = Jvm.exec) (hb : c.code = cc) (hdg : decode cc pc = .ok (.irem, 1)) {x y : Nat} (h1 : x < 2 ^ 31) (h2 : 0 < y) (h3 : y < 2 ^ 31) (k : W p l e R s m args below meth c H locs cells slots Q (F0 m (pc + 1) ls (.int (nI (x % y)) :: rest))) : W p l e R s m args below meth c H locs cells slots Q (F0 m pc ls (.int (nI y) :: .int (nI x) :: rest)) := lv_irem hx hb hdg (nI_ne0 h2 h3) (by rw [pk_rem h1 h2 h3]; exact k)
theorem zk_top {x y : Int32} (h : x = y) (k : W p l e R s m args below meth c H locs cells slots Q (F0 m pc ls (.int y :: rest))) : W p l e R s m args below meth c H locs cells slots Q (F0 m pc ls (.int x :: rest)) := by rw [h]; exact k
theorem zk_topL {x y : Int64} (h : x = y) (k : W p l e R s m args below meth c H locs cells slots Q (F0 m pc ls (.long y :: rest))) : W p l e R s m args below meth c H locs cells slots Q (F0 m pc ls (.long x :: rest)) := by rw [h]; exact k
theorem zk_ialdN (hx : p.tables.exec = Jvm.exec) (hb : c.code = cc) (hK : va_K D cl tys s) (hP : va_P D cl ws H) (q0 t0 : Nat) {cA : ClassId} {k n : Nat} {f : Nat → Int32} (ha : ws[q0]? = some (a, .inl (cA, n, .inl f))) (ht : tys[t0]? = some (cA, .int)) (hk : k < n) (hn : n < 2 ^ 31) (hdg : decode cc pc = .ok (.iaload, 1))
    (kk : W p l e R s m args below meth c H locs cells slots Q (F0 m (pc + 1) ls (.int (f k) :: rest))) : W p l e R s m args below meth c H locs cells slots Q (F0 m pc ls (.int (nI k) :: .ref a :: rest)) :=
  va_iald hx hb hK hP q0 t0 ha ht (vp_in_nI hk hn) hdg (by rw [nI_clamp (by omega)]; exact kk)
theorem zk_zaldN (hx : p.tables.exec = Jvm.exec) (hb : c.code = cc) (hK : va_K D cl tys s) (hP : va_P D cl ws H) (q0 t0 : Nat) {cA : ClassId} {k n : Nat} {f : Nat → Int32} (ha : ws[q0]? = some (a, .inl (cA, n, .inl f))) (ht : tys[t0]? = some (cA, .boolean)) (hk : k < n) (hn : n < 2 ^ 31) (hdg : decode cc pc = .ok (.baload, 1))
    (kk : W p l e R s m args below meth c H locs cells slots Q (F0 m (pc + 1) ls (.int (f k) :: rest))) : W p l e R s m args below meth c H locs cells slots Q (F0 m pc ls (.int (nI k) :: .ref a :: rest)) :=
  va_zald hx hb hK hP q0 t0 ha ht (vp_in_nI hk hn) hdg (by rw [nI_clamp (by omega)]; exact kk)
theorem zk_caldN (hx : p.tables.exec = Jvm.exec) (hb : c.code = cc) (hK : va_K D cl tys s) (hP : va_P D cl ws H) (q0 t0 : Nat) {cA : ClassId} {k n : Nat} {f : Nat → Int32} (ha : ws[q0]? = some (a, .inl (cA, n, .inl f))) (ht : tys[t0]? = some (cA, .char)) (hk : k < n) (hn : n < 2 ^ 31) (hdg : decode cc pc = .ok (.caload, 1))
    (kk : W p l e R s m args below meth c H locs cells slots Q (F0 m (pc + 1) ls (.int (f k) :: rest))) : W p l e R s m args below meth c H locs cells slots Q (F0 m pc ls (.int (nI k) :: .ref a :: rest)) :=
  va_cald hx hb hK hP q0 t0 ha ht (vp_in_nI hk hn) hdg (by rw [nI_clamp (by omega)]; exact kk)
theorem zk_iastN (hx : p.tables.exec = Jvm.exec) (hb : c.code = cc) (hK : va_K D cl tys s) (hP : va_P D cl ws H) (hD : va_D A ws) (hS : va_S A H0 H locs) (q0 t0 : Nat) {cA : ClassId} {k n : Nat} {f : Nat → Int32} (ha : ws[q0]? = some (a, .inl (cA, n, .inl f))) (ht : tys[t0]? = some (cA, .int)) {x : Int32} (hk : k < n) (hn : n < 2 ^ 31) (hdg : decode cc pc = .ok (.iastore, 1))
    (kk : ∀ (H1 : Heap) (locs1 : List Loc), va_P D cl (ws.set q0 (a, .inl (cA, n, .inl (upd f k x)))) H1 → va_D A (ws.set q0 (a, .inl (cA, n, .inl (upd f k x)))) → va_S A H0 H1 locs1 → W p l e R s m args below meth c H1 locs1 cells slots Q (F0 m (pc + 1) ls rest)) : W p l e R s m args below meth c H locs cells slots Q (F0 m pc ls (.int x :: .int (nI k) :: .ref a :: rest)) :=
  va_iast hx hb hK hP hD hS q0 t0 ha ht (vp_in_nI hk hn) hdg (by rw [nI_clamp (by omega)]; exact kk)
theorem zk_zastN (hx : p.tables.exec = Jvm.exec) (hb : c.code = cc) (hK : va_K D cl tys s) (hP : va_P D cl ws H) (hD : va_D A ws) (hS : va_S A H0 H locs) (q0 t0 : Nat) {cA : ClassId} {k n : Nat} {f : Nat → Int32} (ha : ws[q0]? = some (a, .inl (cA, n, .inl f))) (ht : tys[t0]? = some (cA, .boolean)) {b : Nat} (hb2 : b < 2) (hk : k < n) (hn : n < 2 ^ 31) (hdg : decode cc pc = .ok (.bastore, 1))
    (kk : ∀ (H1 : Heap) (locs1 : List Loc), va_P D cl (ws.set q0 (a, .inl (cA, n, .inl (upd f k (nI b))))) H1 → va_D A (ws.set q0 (a, .inl (cA, n, .inl (upd f k (nI b))))) → va_S A H0 H1 locs1 → W p l e R s m args below meth c H1 locs1 cells slots Q (F0 m (pc + 1) ls rest)) : W p l e R s m args below meth c H locs cells slots Q (F0 m pc ls (.int (nI b) :: .int (nI k) :: .ref a :: rest)) := by
  have e : vp_nar .boolean (nI b) = nI b := by rcases (show b = 0 ∨ b = 1 by omega) with rfl | rfl <;> rfl
  refine va_zast hx hb hK hP hD hS q0 t0 ha ht (vp_in_nI hk hn) hdg ?_
  rw [nI_clamp (by omega), e]
  exact kk
end ZR
-- branches over counters
theorem zk_eq {a b : Nat} (ha : a < 2 ^ 31) (hb : b < 2 ^ 31) (h : nI a = nI b) : a = b := (nI_eq ha hb).mp h
theorem zk_ne {a b : Nat} (ha : a < 2 ^ 31) (hb : b < 2 ^ 31) (h : ¬ nI a = nI b) : ¬ a = b := fun z => h (by rw [z])
theorem zk_le {a b : Nat} (ha : a < 2 ^ 31) (hb : b < 2 ^ 31) (h : nI a ≤ nI b) : a ≤ b := (nI_leI ha hb).mp h
theorem zk_nle {a b : Nat} (ha : a < 2 ^ 31) (hb : b < 2 ^ 31) (h : ¬ nI a ≤ nI b) : b < a := Nat.lt_of_not_le fun z => h ((nI_leI ha hb).mpr z)
theorem zk_lt {a b : Nat} (ha : a < 2 ^ 31) (hb : b < 2 ^ 31) (h : nI a < nI b) : a < b := (nI_ltI ha hb).mp h
theorem zk_nlt {a b : Nat} (ha : a < 2 ^ 31) (hb : b < 2 ^ 31) (h : ¬ nI a < nI b) : b ≤ a := Nat.le_of_not_lt fun z => h ((nI_ltI ha hb).mpr z)
theorem zk_eq0 {a : Nat} (ha : a < 2 ^ 31) (h : nI a = 0) : a = 0 := zk_eq ha (by omega) h
theorem zk_ne0 {a : Nat} (ha : a < 2 ^ 31) (h : ¬ nI a = 0) : ¬ a = 0 := zk_ne ha (by omega) h
theorem zk_lt0 {a : Nat} (ha : a < 2 ^ 31) (h : nI a < 0) : False := nI_pos ha h
theorem zk_nlt0 {a : Nat} (ha : a < 2 ^ 31) (h : ¬ nI a < 0) : True := trivial
theorem zk_ge0 {a : Nat} (ha : a < 2 ^ 31) (h : 0 ≤ nI a) : True := trivial
theorem zk_nge0 {a : Nat} (ha : a < 2 ^ 31) (h : ¬ 0 ≤ nI a) : False := h (nI_pos' ha)
theorem zk_gt0 {a : Nat} (ha : a < 2 ^ 31) (h : 0 < nI a) : 0 < a := zk_lt (a := 0) (by omega) ha h
theorem zk_ngt0 {a : Nat} (ha : a < 2 ^ 31) (h : ¬ 0 < nI a) : a = 0 := Nat.le_zero.mp (zk_nlt (a := 0) (by omega) ha h)
theorem zk_le0 {a : Nat} (ha : a < 2 ^ 31) (h : nI a ≤ 0) : a = 0 := Nat.le_zero.mp (zk_le (b := 0) ha (by omega) h)
theorem zk_nle0 {a : Nat} (ha : a < 2 ^ 31) (h : ¬ nI a ≤ 0) : 0 < a := zk_nle (b := 0) ha (by omega) h
theorem zk_l1 {a b : Int32} (h : a ≤ b) : ¬ b < a := Int32.not_lt.mpr h
theorem zk_l2 {a b : Int32} (h : ¬ a ≤ b) : b < a := Int32.not_le.mp h
theorem zk_b0 {c : Prop} {i : Decidable c} (h : (if c then nI 1 else nI 0) = 0) : ¬ c := by
  intro hc
  rw [if_pos hc] at h
  exact absurd h (by decide)
theorem zk_b1 {c : Prop} {i : Decidable c} (h : ¬ (if c then nI 1 else nI 0) = 0) : c := by
  by_cases hc : c
  · exact hc
  · rw [if_neg hc] at h
    exact absurd rfl h
theorem zk_nb {c : Prop} {i : Decidable c} : narrow .boolean (.int (if c then nI 1 else nI 0)) = .int (if c then nI 1 else nI 0) := by
  by_cases hc : c
  · rw [if_pos hc]; rfl
  · rw [if_neg hc]; rfl
theorem zk_a0 (x : Int32) : x + nI 0 = x := by rw [show nI 0 = 0 from rfl]; exact Int32.add_zero x
/-- sums, as loops make them -/
def zs (f : Nat → Int32) : Nat → Int32
  | 0 => nI 0
  | n + 1 => zs f n + f n
theorem zs_0 (f : Nat → Int32) : zs f 0 = nI 0 := rfl
theorem zs_s (f : Nat → Int32) (n : Nat) : zs f (n + 1) = zs f n + f n := rfl
theorem zs_i {f : Nat → Int32} {n : Nat} {x y : Int32} (h : x = zs f n) (hy : y = x + f n) : y = zs f (n + 1) := by rw [hy, h, zs_s]
/-- .. from a place on -/
def zr (f : Nat → Int32) (a : Nat) : Nat → Int32
  | 0 => nI 0
  | n + 1 => if a ≤ n then zr f a n + f n else nI 0
theorem zr_0 {f : Nat → Int32} {a : Nat} : ∀ {n : Nat}, n ≤ a → zr f a n = nI 0
  | 0, _ => rfl
  | n + 1, h => by rw [zr, if_neg (by omega)]
theorem zr_i {f : Nat → Int32} {a n : Nat} {x y : Int32} (ha : a ≤ n) (h : x = zr f a n) (hy : y = x + f n) : y = zr f a (n + 1) := by rw [hy, h, zr, if_pos ha]
/-- one place of a row of rows; a whole row -/
def up2 (L : Nat → Nat → Int32) (i j : Nat) (v : Int32) : Nat → Nat → Int32 := fun i' => if i' = i then upd (L i) j v else L i'
def upr (L : Nat → Nat → Int32) (i : Nat) (f : Nat → Int32) : Nat → Nat → Int32 := fun i' => if i' = i then f else L i'
abbrev zk_a (q : Nat) (k : ClassId) (n : Nat) (f : Nat → Int32) : Nat × va_E := (q, .inl (k, n, .inl f))
/-- a ledger: rows 0 the numbers, 1 familyOf, 2 dietOf, 3 balanceOf, 4 firstDayOf, 5 lastDayOf, 6 menuOn, 7 sharing, 8 writtenOffFor; its meals: 9 kinds, 10 charges, 11 payers; addresses e -/
def zb_L (G : zk_G) (e : Nat → Nat) (L : Nat → Nat → Int32) : va_W :=
  [(e 0, .inr (1, [.int (L 0 0), .int (L 0 1), .int (L 0 2), .int (L 0 3), .int (L 0 4), .ref (e 1), .ref (e 2), .ref (e 3), .ref (e 4), .ref (e 5), .ref (e 6), .ref (e 7), .ref (e 8), .ref (e 9)])), zk_a (e 1) (G.2.1 0) 12 (L 1), zk_a (e 2) (G.2.1 0) 12 (L 2), zk_a (e 3) (G.2.1 0) 12 (L 3), zk_a (e 4) (G.2.1 0) 12 (L 4), zk_a (e 5) (G.2.1 0) 12 (L 5), zk_a (e 6) (G.2.1 0) 40 (L 6), zk_a (e 7) (G.2.1 0) 5 (L 7), zk_a (e 8) (G.2.1 0) 5 (L 8)]
def zb_M (G : zk_G) (e : Nat → Nat) (L : Nat → Nat → Int32) : va_W :=
  [(e 9, .inr (2, [.ref (e 10), .ref (e 11), .ref (e 12)])), zk_a (e 10) (G.2.1 0) 480 (L 9), zk_a (e 11) (G.2.1 0) 480 (L 10), zk_a (e 12) (G.2.1 0) 480 (L 11)]
