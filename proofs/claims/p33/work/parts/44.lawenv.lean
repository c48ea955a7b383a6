/-! What stands at the law's entry. -/
theorem zn_at {args : Array Value} {s : State} {w : Cond} {i : Nat} (h : (Jvm.Cond.and given_1 narrow_1).before args s = true) (hi : (flatC (Jvm.Cond.and given_1 narrow_1))[i]? = some w) : w.before args s = true := flat_of_before _ h _ (List.mem_of_getElem? hi)
theorem zt_at {args : Array Value} {s : State} {w : Cond} {i : Nat} (h : ∀ w ∈ lw_tbl, w.before args s = true) (hi : lw_tbl[i]? = some w) : w.before args s = true := h _ (List.mem_of_getElem? hi)
/-- a String constant's contents -/
theorem zv_str {args : Array Value} {s : State} {tm : Term} {n : Nat} {bs : List Int32} {A : Nat → Prop} (hn : n < 2 ^ 31) (h1 : (Cond.exactly tm "java/lang/String").before args s = true) (h2 : (Cond.eq (.field tm "java/lang/String" "coder" "B") (.int 0)).before args s = true) (h3 : (Cond.arrayOf (.field tm "java/lang/String" "value" "[B") .byte).before args s = true)
    (h4 : (Cond.eq (.length (.field tm "java/lang/String" "value" "[B")) (.int (Int32.ofNat n))).before args s = true) (h5 : ∀ j : Nat, j < n → (Cond.eq (.elem (.field tm "java/lang/String" "value" "[B") (.int (Int32.ofNat j))) (.int (bs.getD j 0))).before args s = true) (hA : ∀ a : Nat, a < s.heap.size → ¬ A a) :
    ∃ k v : Nat, tm.eval args s none [] s = some (.ref k) ∧ va_O "java/lang/String" k A s s.heap ∧ va_OF "java/lang/String" "coder" "B" (.int 0) k A s s.heap ∧ va_OF "java/lang/String" "value" "[B" (.ref v) k A s s.heap ∧ va_T .byte v n (fun j => .int (bs.getD j 0)) A s s.heap := by
  obtain ⟨adK, adV, h, he⟩ := vk_Sof (args := args) (s := s) (N := 1) (tm := fun _ => tm) (len := [n]) (byt := [bs]) (A := A) (fun i hi => by obtain rfl : i = 0 := Nat.lt_one_iff.mp hi; exact hn) (fun _ _ => h1) (fun _ _ => h2) (fun _ _ => h3) (fun i hi => by obtain rfl : i = 0 := Nat.lt_one_iff.mp hi; exact h4) (fun i hi j hj => by obtain rfl : i = 0 := Nat.lt_one_iff.mp hi; exact h5 j hj) (fun i j hi hj hij => absurd (show i = j by omega) hij) hA
  exact ⟨adK 0, adV 0, he 0 (by decide), h.1 0 (by decide)⟩
/-- different texts lie at different addresses -/
theorem zv_ne {a1 a2 v1 v2 n1 n2 : Nat} {b1 b2 : List Int32} {A : Nat → Prop} {U : State} {H : Heap} (h1 : va_OF "java/lang/String" "value" "[B" (.ref v1) a1 A U H) (h2 : va_OF "java/lang/String" "value" "[B" (.ref v2) a2 A U H) (t1 : va_T .byte v1 n1 (fun j => .int (b1.getD j 0)) A U H) (t2 : va_T .byte v2 n2 (fun j => .int (b2.getD j 0)) A U H) (hn1 : n1 < 2 ^ 31) (hn2 : n2 < 2 ^ 31)
    (hd : n1 ≠ n2 ∨ ∃ k, k < n1 ∧ b1.getD k 0 ≠ b2.getD k 0) (e : a1 = a2) : False := by
  subst e
  obtain ⟨cf, k, i, f, cell, e1, -, e2, -, e3, -⟩ := h1
  obtain ⟨cf', k', i', f', cell', e1', -, e2', -, e3', -⟩ := h2
  cases (Option.some.inj (e1.symm.trans e1'))
  cases (Option.some.inj (e2.symm.trans e2'))
  cases (Option.some.inj (e3.symm.trans e3'))
  obtain ⟨c, q1, -, -, q2, q3, q4, -⟩ := t1
  obtain ⟨c', q1', -, -, q2', q3', q4', -⟩ := t2
  cases (Option.some.inj (q1.symm.trans q1'))
  have en : n1 = n2 := (nI_eq hn1 hn2).mp (show nI n1 = nI n2 from q3.symm.trans q3')
  rcases hd with hd | ⟨k, hk, hd⟩
  · exact hd en
  · have h := (q4 k hk).symm.trans (q4' k (by omega))
    exact hd (Value.int.inj (Option.some.inj h))
set_option maxRecDepth 20000 in
set_option maxHeartbeats 4000000 in
theorem zv_all {args : Array Value} {s : State} (hts : ∀ w ∈ lw_tbl, w.before args s = true) (hgv : (Jvm.Cond.and given_1 narrow_1).before args s = true) {A : Nat → Prop} (hA : ∀ a : Nat, a < s.heap.size → ¬ A a) :
    ∃ adR adV : Nat → Nat, (∀ (i : Nat) (x : String × Nat × String), zk_sn[i]? = some x → vk_R x.1 x.2.1 x.2.2 (adR i) s) ∧ vk_S 8 zk_sl zk_sb adR adV A s s.heap := by
  obtain ⟨k0, v0, e0, p0, q0, r0, t0⟩ := zv_str (tm := (Term.string "MealAccounts$Text" 60)) (n := zk_sl.getD 0 0) (bs := zk_sb.getD 0 []) (A := A) (by decide) (zn_at hgv (i := 179) (by decide +kernel)) (zn_at hgv (i := 180) (by decide +kernel)) (zn_at hgv (i := 181) (by decide +kernel)) (zn_at hgv (i := 182) (by decide +kernel)) (fun j hj => by
    have hj : j < 2 := hj
    rcases (show j = 0 ∨ j = 1 by omega) with rfl | rfl
    · exact zn_at hgv (i := 183) (by decide +kernel)
    · exact zn_at hgv (i := 184) (by decide +kernel)) hA
  obtain ⟨k1, v1, e1, p1, q1, r1, t1⟩ := zv_str (tm := (Term.string "MealAccounts$Text" 62)) (n := zk_sl.getD 1 0) (bs := zk_sb.getD 1 []) (A := A) (by decide) (zn_at hgv (i := 185) (by decide +kernel)) (zn_at hgv (i := 186) (by decide +kernel)) (zn_at hgv (i := 187) (by decide +kernel)) (zn_at hgv (i := 188) (by decide +kernel)) (fun j hj => by
    have hj : j < 2 := hj
    rcases (show j = 0 ∨ j = 1 by omega) with rfl | rfl
    · exact zn_at hgv (i := 189) (by decide +kernel)
    · exact zn_at hgv (i := 190) (by decide +kernel)) hA
  obtain ⟨k2, v2, e2, p2, q2, r2, t2⟩ := zv_str (tm := (Term.string "MealAccounts$Text" 64)) (n := zk_sl.getD 2 0) (bs := zk_sb.getD 2 []) (A := A) (by decide) (zn_at hgv (i := 191) (by decide +kernel)) (zn_at hgv (i := 192) (by decide +kernel)) (zn_at hgv (i := 193) (by decide +kernel)) (zn_at hgv (i := 194) (by decide +kernel)) (fun j hj => by
    have hj : j < 2 := hj
    rcases (show j = 0 ∨ j = 1 by omega) with rfl | rfl
    · exact zn_at hgv (i := 195) (by decide +kernel)
    · exact zn_at hgv (i := 196) (by decide +kernel)) hA
  obtain ⟨k3, v3, e3, p3, q3, r3, t3⟩ := zv_str (tm := (Term.string "MealAccounts$Text" 66)) (n := zk_sl.getD 3 0) (bs := zk_sb.getD 3 []) (A := A) (by decide) (zn_at hgv (i := 197) (by decide +kernel)) (zn_at hgv (i := 198) (by decide +kernel)) (zn_at hgv (i := 199) (by decide +kernel)) (zn_at hgv (i := 200) (by decide +kernel)) (fun j hj => by
    have hj : j < 2 := hj
    rcases (show j = 0 ∨ j = 1 by omega) with rfl | rfl
    · exact zn_at hgv (i := 201) (by decide +kernel)
    · exact zn_at hgv (i := 202) (by decide +kernel)) hA
  obtain ⟨k4, v4, e4, p4, q4, r4, t4⟩ := zv_str (tm := (Term.string "MealAccounts$Text" 68)) (n := zk_sl.getD 4 0) (bs := zk_sb.getD 4 []) (A := A) (by decide) (zn_at hgv (i := 203) (by decide +kernel)) (zn_at hgv (i := 204) (by decide +kernel)) (zn_at hgv (i := 205) (by decide +kernel)) (zn_at hgv (i := 206) (by decide +kernel)) (fun j hj => by
    have hj : j < 3 := hj
    rcases (show j = 0 ∨ j = 1 ∨ j = 2 by omega) with rfl | rfl | rfl
    · exact zn_at hgv (i := 207) (by decide +kernel)
    · exact zn_at hgv (i := 208) (by decide +kernel)
    · exact zn_at hgv (i := 209) (by decide +kernel)) hA
  obtain ⟨k5, v5, e5, p5, q5, r5, t5⟩ := zv_str (tm := (Term.string "MealAccounts$Text" 70)) (n := zk_sl.getD 5 0) (bs := zk_sb.getD 5 []) (A := A) (by decide) (zn_at hgv (i := 210) (by decide +kernel)) (zn_at hgv (i := 211) (by decide +kernel)) (zn_at hgv (i := 212) (by decide +kernel)) (zn_at hgv (i := 213) (by decide +kernel)) (fun j hj => by
    have hj : j < 1 := hj
    obtain rfl : j = 0 := by omega
    exact zn_at hgv (i := 214) (by decide +kernel)) hA
  obtain ⟨k6, v6, e6, p6, q6, r6, t6⟩ := zv_str (tm := (Term.string "MealAccounts$Text" 72)) (n := zk_sl.getD 6 0) (bs := zk_sb.getD 6 []) (A := A) (by decide) (zn_at hgv (i := 215) (by decide +kernel)) (zn_at hgv (i := 216) (by decide +kernel)) (zn_at hgv (i := 217) (by decide +kernel)) (zn_at hgv (i := 218) (by decide +kernel)) (fun j hj => by
    have hj : j < 1 := hj
    obtain rfl : j = 0 := by omega
    exact zn_at hgv (i := 219) (by decide +kernel)) hA
  obtain ⟨k7, v7, e7, p7, q7, r7, t7⟩ := zv_str (tm := (Term.string "MealAccounts$Text" 74)) (n := zk_sl.getD 7 0) (bs := zk_sb.getD 7 []) (A := A) (by decide) (zn_at hgv (i := 220) (by decide +kernel)) (zn_at hgv (i := 221) (by decide +kernel)) (zn_at hgv (i := 222) (by decide +kernel)) (zn_at hgv (i := 223) (by decide +kernel)) (fun j hj => absurd hj (Nat.not_lt_zero j)) hA
  obtain ⟨k8, _, _, _, e8, -⟩ := Cond.exactly_spec (args := args) (first := s) (o := none) (s := s) (idx := []) (t := (Term.string "MealAccounts" 43)) (cls := "java/lang/String") (zn_at hgv (i := 132) (by decide +kernel))
  obtain ⟨k9, _, _, _, e9, -⟩ := Cond.exactly_spec (args := args) (first := s) (o := none) (s := s) (idx := []) (t := (Term.string "MealAccounts" 54)) (cls := "java/lang/String") (zn_at hgv (i := 159) (by decide +kernel))
  obtain ⟨k10, _, _, _, e10, -⟩ := Cond.exactly_spec (args := args) (first := s) (o := none) (s := s) (idx := []) (t := (Term.string "MealAccounts" 65)) (cls := "java/lang/String") (zn_at hgv (i := 224) (by decide +kernel))
  obtain ⟨k11, _, _, _, e11, -⟩ := Cond.exactly_spec (args := args) (first := s) (o := none) (s := s) (idx := []) (t := (Term.string "MealAccounts" 118)) (cls := "java/lang/String") (zn_at hgv (i := 250) (by decide +kernel))
  obtain ⟨k12, _, _, _, e12, -⟩ := Cond.exactly_spec (args := args) (first := s) (o := none) (s := s) (idx := []) (t := (Term.string "MealAccounts" 344)) (cls := "java/lang/String") (zn_at hgv (i := 269) (by decide +kernel))
  obtain ⟨k13, _, _, _, e13, -⟩ := Cond.exactly_spec (args := args) (first := s) (o := none) (s := s) (idx := []) (t := (Term.string "MealAccounts" 150)) (cls := "java/lang/String") (zn_at hgv (i := 286) (by decide +kernel))
  obtain ⟨k14, _, _, _, e14, -⟩ := Cond.exactly_spec (args := args) (first := s) (o := none) (s := s) (idx := []) (t := (Term.string "MealAccounts" 349)) (cls := "java/lang/String") (zn_at hgv (i := 304) (by decide +kernel))
  obtain ⟨k15, _, _, _, e15, -⟩ := Cond.exactly_spec (args := args) (first := s) (o := none) (s := s) (idx := []) (t := (Term.string "MealAccounts" 170)) (cls := "java/lang/String") (zn_at hgv (i := 322) (by decide +kernel))
  obtain ⟨k16, _, _, _, e16, -⟩ := Cond.exactly_spec (args := args) (first := s) (o := none) (s := s) (idx := []) (t := (Term.string "MealAccounts" 354)) (cls := "java/lang/String") (zn_at hgv (i := 340) (by decide +kernel))
  obtain ⟨k17, _, _, _, e17, -⟩ := Cond.exactly_spec (args := args) (first := s) (o := none) (s := s) (idx := []) (t := (Term.string "MealAccounts" 187)) (cls := "java/lang/String") (zn_at hgv (i := 355) (by decide +kernel))
  obtain ⟨k18, _, _, _, e18, -⟩ := Cond.exactly_spec (args := args) (first := s) (o := none) (s := s) (idx := []) (t := (Term.string "MealAccounts" 198)) (cls := "java/lang/String") (zn_at hgv (i := 373) (by decide +kernel))
  obtain ⟨k19, _, _, _, e19, -⟩ := Cond.exactly_spec (args := args) (first := s) (o := none) (s := s) (idx := []) (t := (Term.string "MealAccounts" 206)) (cls := "java/lang/String") (zn_at hgv (i := 391) (by decide +kernel))
  obtain ⟨k20, _, _, _, e20, -⟩ := Cond.exactly_spec (args := args) (first := s) (o := none) (s := s) (idx := []) (t := (Term.string "MealAccounts" 356)) (cls := "java/lang/String") (zn_at hgv (i := 409) (by decide +kernel))
  obtain ⟨k21, _, _, _, e21, -⟩ := Cond.exactly_spec (args := args) (first := s) (o := none) (s := s) (idx := []) (t := (Term.string "MealAccounts" 358)) (cls := "java/lang/String") (zn_at hgv (i := 441) (by decide +kernel))
  obtain ⟨k22, _, _, _, e22, -⟩ := Cond.exactly_spec (args := args) (first := s) (o := none) (s := s) (idx := []) (t := (Term.string "MealAccounts" 360)) (cls := "java/lang/String") (zn_at hgv (i := 476) (by decide +kernel))
  obtain ⟨k23, _, _, _, e23, -⟩ := Cond.exactly_spec (args := args) (first := s) (o := none) (s := s) (idx := []) (t := (Term.string "MealAccounts" 277)) (cls := "java/lang/String") (zn_at hgv (i := 503) (by decide +kernel))
  obtain ⟨k24, _, _, _, e24, -⟩ := Cond.exactly_spec (args := args) (first := s) (o := none) (s := s) (idx := []) (t := (Term.string "MealAccounts" 299)) (cls := "java/lang/String") (zn_at hgv (i := 529) (by decide +kernel))
  obtain ⟨k25, _, _, _, e25, -⟩ := Cond.exactly_spec (args := args) (first := s) (o := none) (s := s) (idx := []) (t := (Term.string "MealAccounts" 307)) (cls := "java/lang/String") (zn_at hgv (i := 32) (by decide +kernel))
  obtain ⟨k26, _, _, _, e26, -⟩ := Cond.exactly_spec (args := args) (first := s) (o := none) (s := s) (idx := []) (t := (Term.string "MealAccounts" 313)) (cls := "java/lang/String") (zn_at hgv (i := 64) (by decide +kernel))
  obtain ⟨k27, _, _, _, e27, -⟩ := Cond.exactly_spec (args := args) (first := s) (o := none) (s := s) (idx := []) (t := (Term.string "MealAccounts" 321)) (cls := "java/lang/String") (zn_at hgv (i := 107) (by decide +kernel))
  obtain ⟨k28, _, _, _, e28, -⟩ := Cond.exactly_spec (args := args) (first := s) (o := none) (s := s) (idx := []) (t := (Term.string "MealAccounts" 332)) (cls := "java/lang/String") (zn_at hgv (i := 552) (by decide +kernel))
  obtain ⟨k29, _, _, _, e29, -⟩ := Cond.exactly_spec (args := args) (first := s) (o := none) (s := s) (idx := []) (t := (Term.string "MealAccounts" 335)) (cls := "java/lang/String") (zn_at hgv (i := 572) (by decide +kernel))
  refine ⟨fun i => [k0, k1, k2, k3, k4, k5, k6, k7, k8, k9, k10, k11, k12, k13, k14, k15, k16, k17, k18, k19, k20, k21, k22, k23, k24, k25, k26, k27, k28, k29].getD i 0, fun i => [v0, v1, v2, v3, v4, v5, v6, v7].getD i 0, fun i x hx => ?_, fun i hi => ?_, fun i j hi hj e => ?_⟩
  · match i, hx with
    | 0, hx => cases hx; exact vk_R.of (zt_at hts (i := 571) (by decide +kernel)) e0
    | 1, hx => cases hx; exact vk_R.of (zt_at hts (i := 572) (by decide +kernel)) e1
    | 2, hx => cases hx; exact vk_R.of (zt_at hts (i := 573) (by decide +kernel)) e2
    | 3, hx => cases hx; exact vk_R.of (zt_at hts (i := 574) (by decide +kernel)) e3
    | 4, hx => cases hx; exact vk_R.of (zt_at hts (i := 575) (by decide +kernel)) e4
    | 5, hx => cases hx; exact vk_R.of (zt_at hts (i := 576) (by decide +kernel)) e5
    | 6, hx => cases hx; exact vk_R.of (zt_at hts (i := 577) (by decide +kernel)) e6
    | 7, hx => cases hx; exact vk_R.of (zt_at hts (i := 578) (by decide +kernel)) e7
    | 8, hx => cases hx; exact vk_R.of (zt_at hts (i := 523) (by decide +kernel)) e8
    | 9, hx => cases hx; exact vk_R.of (zt_at hts (i := 533) (by decide +kernel)) e9
    | 10, hx => cases hx; exact vk_R.of (zt_at hts (i := 645) (by decide +kernel)) e10
    | 11, hx => cases hx; exact vk_R.of (zt_at hts (i := 699) (by decide +kernel)) e11
    | 12, hx => cases hx; exact vk_R.of (zt_at hts (i := 722) (by decide +kernel)) e12
    | 13, hx => cases hx; exact vk_R.of (zt_at hts (i := 742) (by decide +kernel)) e13
    | 14, hx => cases hx; exact vk_R.of (zt_at hts (i := 755) (by decide +kernel)) e14
    | 15, hx => cases hx; exact vk_R.of (zt_at hts (i := 762) (by decide +kernel)) e15
    | 16, hx => cases hx; exact vk_R.of (zt_at hts (i := 774) (by decide +kernel)) e16
    | 17, hx => cases hx; exact vk_R.of (zt_at hts (i := 778) (by decide +kernel)) e17
    | 18, hx => cases hx; exact vk_R.of (zt_at hts (i := 789) (by decide +kernel)) e18
    | 19, hx => cases hx; exact vk_R.of (zt_at hts (i := 797) (by decide +kernel)) e19
    | 20, hx => cases hx; exact vk_R.of (zt_at hts (i := 813) (by decide +kernel)) e20
    | 21, hx => cases hx; exact vk_R.of (zt_at hts (i := 814) (by decide +kernel)) e21
    | 22, hx => cases hx; exact vk_R.of (zt_at hts (i := 815) (by decide +kernel)) e22
    | 23, hx => cases hx; exact vk_R.of (zt_at hts (i := 903) (by decide +kernel)) e23
    | 24, hx => cases hx; exact vk_R.of (zt_at hts (i := 949) (by decide +kernel)) e24
    | 25, hx => cases hx; exact vk_R.of (zt_at hts (i := 237) (by decide +kernel)) e25
    | 26, hx => cases hx; exact vk_R.of (zt_at hts (i := 268) (by decide +kernel)) e26
    | 27, hx => cases hx; exact vk_R.of (zt_at hts (i := 469) (by decide +kernel)) e27
    | 28, hx => cases hx; exact vk_R.of (zt_at hts (i := 958) (by decide +kernel)) e28
    | 29, hx => cases hx; exact vk_R.of (zt_at hts (i := 966) (by decide +kernel)) e29
    | i + 30, hx => cases hx
  · rcases (show i = 0 ∨ i = 1 ∨ i = 2 ∨ i = 3 ∨ i = 4 ∨ i = 5 ∨ i = 6 ∨ i = 7 by omega) with rfl | rfl | rfl | rfl | rfl | rfl | rfl | rfl
    · exact ⟨p0, q0, r0, t0⟩
    · exact ⟨p1, q1, r1, t1⟩
    · exact ⟨p2, q2, r2, t2⟩
    · exact ⟨p3, q3, r3, t3⟩
    · exact ⟨p4, q4, r4, t4⟩
    · exact ⟨p5, q5, r5, t5⟩
    · exact ⟨p6, q6, r6, t6⟩
    · exact ⟨p7, q7, r7, t7⟩
  · have all : ∀ i : Nat, i < 8 → va_OF "java/lang/String" "value" "[B" (.ref ([v0, v1, v2, v3, v4, v5, v6, v7].getD i 0)) ([k0, k1, k2, k3, k4, k5, k6, k7, k8, k9, k10, k11, k12, k13, k14, k15, k16, k17, k18, k19, k20, k21, k22, k23, k24, k25, k26, k27, k28, k29].getD i 0) A s s.heap ∧ va_T .byte ([v0, v1, v2, v3, v4, v5, v6, v7].getD i 0) (zk_sl.getD i 0) (fun j => .int ((zk_sb.getD i []).getD j 0)) A s s.heap := by
      intro i hi
      rcases (show i = 0 ∨ i = 1 ∨ i = 2 ∨ i = 3 ∨ i = 4 ∨ i = 5 ∨ i = 6 ∨ i = 7 by omega) with rfl | rfl | rfl | rfl | rfl | rfl | rfl | rfl
      · exact ⟨r0, t0⟩
      · exact ⟨r1, t1⟩
      · exact ⟨r2, t2⟩
      · exact ⟨r3, t3⟩
      · exact ⟨r4, t4⟩
      · exact ⟨r5, t5⟩
      · exact ⟨r6, t6⟩
      · exact ⟨r7, t7⟩
    by_cases hij : i = j
    · exact hij
    · have hd : ∀ i, i < 8 → ∀ j, j < 8 → ¬ i = j → (zk_sl.getD i 0 ≠ zk_sl.getD j 0 ∨ ∃ k, k < zk_sl.getD i 0 ∧ (zk_sb.getD i []).getD k 0 ≠ (zk_sb.getD j []).getD k 0) := by decide +kernel
      have hl : ∀ i, i < 8 → zk_sl.getD i 0 < 2 ^ 31 := by decide +kernel
      exact (zv_ne (all i hi).1 (all j hj).1 (all i hi).2 (all j hj).2 (hl i hi) (hl j hj) (hd i hi j hj hij) e).elim
set_option maxRecDepth 20000 in
set_option maxHeartbeats 4000000 in
theorem zl_env {args : Array Value} {s : State} (hts : ∀ w ∈ lw_tbl, w.before args s = true) (hgv : (Jvm.Cond.and given_1 narrow_1).before args s = true) : ∃ G : zk_G, zk_E G s ∧ zk_NC s := by
  obtain ⟨c0, i0, h0⟩ := u_known (C := RX1) (T := TX1) (N := 3) (n := 3) hts inX1 (zt_at hts (i := 149) (by decide +kernel))
  obtain ⟨c1, i1, h1⟩ := u_known (C := RX2) (T := TX2) (N := 14) (n := 14) hts inX2 (zt_at hts (i := 68) (by decide +kernel))
  obtain ⟨c2, i2, h2⟩ := u_known (C := RX3) (T := TX3) (N := 3) (n := 3) hts inX3 (zt_at hts (i := 74) (by decide +kernel))
  obtain ⟨c3, i3, h3⟩ := u_known (C := RX4) (T := TX4) (N := 5) (n := 5) hts inX4 (zt_at hts (i := 41) (by decide +kernel))
  obtain ⟨c4, i4, h4⟩ := u_known (C := RX5) (T := TX5) (N := 6) (n := 6) hts inX5 (zt_at hts (i := 33) (by decide +kernel))
  obtain ⟨a0, b0, p0, x0, y0, z0⟩ := Cond.arrayClass_spec (args := args) (first := s) (o := none) (s := s) (idx := []) (type := .int) (zt_at hts (i := 66) (by decide +kernel))
  obtain ⟨a1, b1, p1, x1, y1, z1⟩ := Cond.arrayClass_spec (args := args) (first := s) (o := none) (s := s) (idx := []) (type := .boolean) (zt_at hts (i := 187) (by decide +kernel))
  obtain ⟨a2, b2, p2, x2, y2, z2⟩ := Cond.arrayClass_spec (args := args) (first := s) (o := none) (s := s) (idx := []) (type := .char) (zt_at hts (i := 65) (by decide +kernel))
  obtain ⟨a3, b3, p3, x3, y3, z3⟩ := Cond.arrayClass_spec (args := args) (first := s) (o := none) (s := s) (idx := []) (type := .int) (zt_at hts (i := 66) (by decide +kernel))
  have hao : (Cond.arrayOver (.object "MealAccounts$Ledger")).before args s = true := (zt_at hts (i := 155) (by decide +kernel))
  obtain ⟨p4, a4, b4, f1, -, f2, f3, f4⟩ := Cond.arrayOver_spec (args := args) (first := s) (o := none) (s := s) (idx := []) (n := "MealAccounts$Ledger") hao
  have hA : ∀ a : Nat, a < s.heap.size → ¬ (fun q : Nat => s.heap.size ≤ q) a := fun a h => Nat.not_le.mpr h
  obtain ⟨adR, adV, hR, hV⟩ := zv_all hts hgv hA
  refine ⟨((fun k => match k with | 0 => c0 | 1 => c1 | 2 => c2 | 3 => c3 | _ => c4, fun k => match k with | 0 => i0 | 1 => i1 | 2 => i2 | 3 => i3 | _ => i4), (fun k => match k with | 0 => a0 | 1 => a1 | 2 => a2 | 3 => a3 | _ => a4), s.heap.size, adR, adV), ⟨⟨fun c q hq => ?_, fun k q hq => ?_⟩, ?_, hR, ?_, Nat.le_refl _⟩, ?_⟩
  · match c, hq with
    | 0, hq => cases hq; exact h0
    | 1, hq => cases hq; exact h1
    | 2, hq => cases hq; exact h2
    | 3, hq => cases hq; exact h3
    | 4, hq => cases hq; exact h4
    | c + 5, hq => cases hq
  · match k, hq with
    | 0, hq => cases hq; exact ⟨fun n z => ⟨fun k h => (by cases h), b0, y0, p0, z0⟩, x0⟩
    | 1, hq => cases hq; exact ⟨fun n z => ⟨fun k h => (by cases h), b1, y1, p1, z1⟩, x1⟩
    | 2, hq => cases hq; exact ⟨fun n z => ⟨fun k h => (by cases h), b2, y2, p2, z2⟩, x2⟩
    | 3, hq => cases hq; exact ⟨fun n z => ⟨fun k h => (by cases h), b3, y3, p3, z3⟩, x3⟩
    | 4, hq => cases hq; exact ⟨fun n z => ⟨fun k h => (by cases h), b4, f2, p4, f3⟩, b4, p4, f2, f3, f1, f4⟩
    | k + 5, hq => cases hq
  · exact ⟨va_Nw.of rfl (zt_at hts (i := 42) (by decide +kernel)), va_Nw.of rfl (zt_at hts (i := 75) (by decide +kernel)), va_Nw.of rfl (zt_at hts (i := 385) (by decide +kernel)), va_Nw.of rfl (zt_at hts (i := 302) (by decide +kernel)), va_Nw.of rfl (zt_at hts (i := 449) (by decide +kernel)), va_Nw.of rfl (zt_at hts (i := 451) (by decide +kernel)), va_AO.of hao, va_Nw.of rfl (zt_at hts (i := 200) (by decide +kernel)), va_Nw.of rfl (zt_at hts (i := 202) (by decide +kernel)), va_Nw.of rfl (zt_at hts (i := 204) (by decide +kernel)), va_Nw.of rfl (zt_at hts (i := 715) (by decide +kernel)), va_Nw.of rfl (zt_at hts (i := 198) (by decide +kernel)), va_Nw.of rfl (zt_at hts (i := 526) (by decide +kernel))⟩
  · exact ⟨vx_Zqof (zt_at hts (i := 223) (by decide +kernel)) (zt_at hts (i := 18) (by decide +kernel)) (zn_at hgv (i := 4) (by decide +kernel)) hA, vx_Zqof (zt_at hts (i := 225) (by decide +kernel)) (zt_at hts (i := 18) (by decide +kernel)) (zn_at hgv (i := 5) (by decide +kernel)) hA, hV, va_Zof (zt_at hts (i := 592) (by decide +kernel)) (zt_at hts (i := 23) (by decide +kernel)) (va_eqt (zn_at hgv (i := 6) (by decide +kernel))) hA, va_Zqof (zt_at hts (i := 608) (by decide +kernel)) (zt_at hts (i := 25) (by decide +kernel)) (zn_at hgv (i := 7) (by decide +kernel)) hA⟩
  · exact ⟨⟨va_Nc.of (zn_at hgv (i := 23) (by decide +kernel)), va_Nc.of (zn_at hgv (i := 30) (by decide +kernel))⟩, ⟨va_Nc.of (zn_at hgv (i := 16) (by decide +kernel)), va_Nc.of (zn_at hgv (i := 31) (by decide +kernel))⟩, va_Nc.of (zn_at hgv (i := 17) (by decide +kernel)), va_Nc.of (zn_at hgv (i := 24) (by decide +kernel))⟩
