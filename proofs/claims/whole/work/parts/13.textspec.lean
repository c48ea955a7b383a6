/-! The text: rows 0 (0 length, 1 position, 2 letter), 1 characters, 2 numbers. -/
def zb_T (G : zk_G) (x : Nat → Nat) (T : zL) : va_W :=
  [(x 1, .inr (3, [.ref (x 2), .int (T 0 0), .int (T 0 1), .int (T 0 2), .ref (x 3)])), (x 2, .inl (G.2.1 2, 120, .inl (T 1))), zk_a (x 3) (G.2.1 0) 3 (T 2)]
def tInv (T : zL) (n p : Nat) : Prop := T 0 0 = nI n ∧ n ≤ 120 ∧ T 0 1 = nI p ∧ p ≤ 120 ∧ ∀ k, k < 120 → ∃ q, q < 256 ∧ T 1 k = nI q
theorem tInv_pos {T : zL} {n p q : Nat} (h : tInv T n p) (hq : q ≤ 120) : tInv (up2 T 0 1 (nI q)) n q := ⟨(upd_ne (T 0) (nI q) (by decide : (0 : Nat) ≠ 1)).trans h.1, h.2.1, upd_same (T 0) 1 (nI q), hq, h.2.2.2.2⟩
theorem tInv_let {T : zL} {n p : Nat} {v : Int32} (h : tInv T n p) : tInv (up2 T 0 2 v) n p := ⟨(upd_ne (T 0) v (by decide : (0 : Nat) ≠ 2)).trans h.1, h.2.1, (upd_ne (T 0) v (by decide : (1 : Nat) ≠ 2)).trans h.2.2.1, h.2.2.2.1, h.2.2.2.2⟩
theorem tInv_num {T : zL} {n p k : Nat} {v : Int32} (h : tInv T n p) : tInv (up2 T 2 k v) n p := h
/-- a digit's number -/
def tDig (c : Int32) : Nat := (c - nI 48).toNatClampNeg
/-- reading k more digits behind b, at p: the number, if it is one of lo to hi; and where it stands then -/
def tRange (ch : Nat → Int32) (n lo hi : Nat) : Nat → Nat → Nat → Option Nat × Nat
  | 0, b, p => (some b, p)
  | k + 1, b, p => if ¬ p < n then (none, p) else if ch p - nI 48 < 0 ∨ nI 9 < ch p - nI 48 then (none, p) else if hi < (10 * b + tDig (ch p)) * 10 ^ k ∨ (10 * b + tDig (ch p) + 1) * 10 ^ k - 1 < lo then (none, p) else tRange ch n lo hi k (10 * b + tDig (ch p)) (p + 1)
/-- the kinds of numbers: digits, least, greatest -/
def tKind (k : Int32) : Nat × Nat × Nat := if k = nI 102 then (1, 0, 4) else if k = nI 116 then (1, 0, 3) else if k = nI 110 then (1, 1, 9) else if k = nI 100 then (2, 0, 39) else if k = nI 99 then (2, 0, 11) else if k = nI 97 then (4, 1, 9999) else (0, 0, 0)
def tNum (ch : Nat → Int32) (n : Nat) (k : Int32) (p : Nat) : Option Nat × Nat := if (tKind k).1 = 0 then (none, p) else tRange ch n (tKind k).2.1 (tKind k).2.2 (tKind k).1 0 p
/-- the String of a letter's numbers, by its place -/
def tStr (c : Int32) : Nat := if c = nI 99 then 0 else if c = nI 109 then 1 else if c = nI 111 then 2 else if c = nI 112 then 3 else if c = nI 101 then 4 else if c = nI 104 then 5 else if c = nI 100 then 6 else 7
/-- a list of numbers -/
def tNums (ch : Nat → Int32) (n : Nat) : List Int32 → Nat → Option (List Nat) × Nat
  | [], p => (some [], p)
  | k :: ks, p => match tNum ch n k p with
    | (none, q) => (none, q)
    | (some b, q) => match tNums ch n ks q with
      | (none, r) => (none, r)
      | (some bs, r) => (some (b :: bs), r)
/-- a command at p: its letter and numbers -/
def tCmd (ch : Nat → Int32) (n p : Nat) : Option (List Nat) × Nat := if ¬ p < n then (none, p) else if zk_sl.getD (tStr (ch p)) 0 = 0 then (none, p) else tNums ch n (zk_sb.getD (tStr (ch p)) []) (p + 1)
/-- commands from p on: where the first wrong one is wrong -/
def tAll (ch : Nat → Int32) (n : Nat) : Nat → Nat → Option Nat
  | 0, _ => none
  | f + 1, p => if ¬ p < n then none else match tCmd ch n p with
    | (none, q) => some q
    | (some _, q) => tAll ch n f q
def tErr (ch : Nat → Int32) (n : Nat) : Option Nat := if n = 0 ∨ ¬ ch 0 = nI 83 then some 0 else tAll ch n 120 1
theorem zk_dn0 {k : Nat} (hk : k < 2 ^ 31) (h : nI k - nI 1 < 0) : k = 0 := by
  rcases Nat.eq_zero_or_pos k with z | z
  · exact z
  · rw [pk_sub (show 1 ≤ k by omega)] at h
    exact absurd h (nI_pos (by omega))
theorem zk_dn1 {k : Nat} (hk : k < 2 ^ 31) (h : ¬ nI k - nI 1 < 0) : ∃ j, k = j + 1 ∧ nI k - nI 1 = nI j := by
  rcases Nat.eq_zero_or_pos k with z | z
  · subst z
    exact absurd (by decide) h
  · exact ⟨k - 1, by omega, pk_sub (show 1 ≤ k by omega)⟩
theorem tDig_9 {c : Int32} (h1 : ¬ c - nI 48 < 0) (h2 : ¬ nI 9 < c - nI 48) : c - nI 48 = nI (tDig c) ∧ tDig c ≤ 9 := by
  obtain ⟨j, hj, e⟩ := nI_of h1
  unfold tDig
  rw [e, nI_clamp hj]
  rw [e] at h2
  exact ⟨rfl, zk_nlt (by omega) hj h2⟩
theorem tInv_ch {T : zL} {n p k q : Nat} (h : tInv T n p) (hq : q < 256) : tInv (up2 T 1 k (nI q)) n p := by
  refine ⟨h.1, h.2.1, h.2.2.1, h.2.2.2.1, fun j hj => ?_⟩
  by_cases hjk : j = k
  · subst hjk
    exact ⟨q, hq, upd_same (T 1) j (nI q)⟩
  · obtain ⟨i, hi, e⟩ := h.2.2.2.2 j hj
    exact ⟨i, hi, (upd_ne (T 1) (nI q) hjk).trans e⟩
theorem tInv_len {T : zL} {n p m : Nat} (h : tInv T n p) (hm : m ≤ 120) : tInv (up2 T 0 0 (nI m)) m p := ⟨upd_same (T 0) 0 (nI m), hm, (upd_ne (T 0) (nI m) (by decide : (1 : Nat) ≠ 0)).trans h.2.2.1, h.2.2.2.1, h.2.2.2.2⟩
def tPos (T : zL) (q : Nat) : zL := up2 T 0 1 (nI q)
theorem up2_up2 (L : zL) (i j : Nat) (v w : Int32) : up2 (up2 L i j v) i j w = up2 L i j w := by
  funext i' j'
  unfold up2
  by_cases h : i' = i
  · rw [if_pos h, if_pos h, if_pos rfl]
    unfold upd
    by_cases h2 : j' = j
    · rw [if_pos h2, if_pos h2]
    · rw [if_neg h2, if_neg h2, if_neg h2]
  · rw [if_neg h, if_neg h, if_neg h]
theorem up2_self {L : zL} {i j : Nat} {v : Int32} (h : L i j = v) : up2 L i j v = L := by
  funext i' j'
  unfold up2
  by_cases h1 : i' = i
  · rw [if_pos h1]
    unfold upd
    by_cases h2 : j' = j
    · rw [if_pos h2, h1, h2, h]
    · rw [if_neg h2, h1]
  · rw [if_neg h1]
theorem tPos_pos (T : zL) (p q : Nat) : up2 (tPos T p) 0 1 (nI q) = tPos T q := up2_up2 T 0 1 _ _
theorem tPos_self {T : zL} {n p : Nat} (h : tInv T n p) : tPos T p = T := up2_self h.2.2.1
def tAdd (T : zL) (n q : Nat) : zL := up2 (up2 T 1 n (nI q)) 0 0 (nI (n + 1))
theorem tInv_add {T : zL} {n p q : Nat} (h : tInv T n p) (hn : n < 120) (hq : q < 256) : tInv (tAdd T n q) (n + 1) p := tInv_len (tInv_ch h hq) (by omega)
/-- what stands in the text's cells behind the reading of a number -/
def tSet (T : zL) (i : Nat) (R : Option Nat × Nat) : zL := match R.1 with
  | none => tPos T R.2
  | some b => up2 (tPos T R.2) 2 i (nI b)
theorem zk_dec (a : Nat) : nI a + Int32.ofInt (-1) = nI a - nI 1 := by
  rw [zk_m1, Int32.sub_eq_add_neg]
  rfl
section ZT
variable {p : Program} {l : Launch} {e : Env} {R : Room} {s : State} {m : MethodId} {args : Array Value} {below : List Frame} {meth : Method} {c : Code} {H : Heap} {locs : List Loc} {cells slots : Nat} {Q : State → Prop}
variable {cc : ByteArray} {pc : Nat} {ls : Array Slot} {rest st : List Value} {D : va_G} {cl : List vw_C} {A : Nat → Prop} {a : Nat} {tys : List (ClassId × FieldType)} {ws wc wr : va_W} {H0 : Heap} {G : zk_G}
theorem zk_castN (hx : p.tables.exec = Jvm.exec) (hb : c.code = cc) (hK : va_K D cl tys s) (hP : va_P D cl ws H) (hD : va_D A ws) (hS : va_S A H0 H locs) (q0 t0 : Nat) {cA : ClassId} {k n : Nat} {f : Nat → Int32} (ha : ws[q0]? = some (a, .inl (cA, n, .inl f))) (ht : tys[t0]? = some (cA, .char)) {x : Nat} (hx2 : x < 65536) (hk : k < n) (hn : n < 2 ^ 31) (hdg : decode cc pc = .ok (.castore, 1))
    (kk : ∀ (H1 : Heap) (locs1 : List Loc), va_P D cl (ws.set q0 (a, .inl (cA, n, .inl (upd f k (nI x))))) H1 → va_D A (ws.set q0 (a, .inl (cA, n, .inl (upd f k (nI x))))) → va_S A H0 H1 locs1 → W p l e R s m args below meth c H1 locs1 cells slots Q (F0 m (pc + 1) ls rest)) : W p l e R s m args below meth c H locs cells slots Q (F0 m pc ls (.int (nI x) :: .int (nI k) :: .ref a :: rest)) := by
  have e : vp_nar .char (nI x) = nI x := by
    have h := (pk_charN hx2).1
    unfold vp_nar
    rw [h]
  refine va_cast hx hb hK hP hD hS q0 t0 ha ht (vp_in_nI hk hn) hdg ?_
  rw [nI_clamp (by omega), e]
  exact kk
/-- contracts with a reference as the answer: the cell's address out of what is known -/
def zk_S (l : Launch) (y : MethodName) (ws : List Cond) (rm : Room) (G : zk_G) (av : List Value) (wc : va_W) {S : Type} (post : S → Prop) (ad : S → Nat) (w1 : S → va_W) : Prop :=
  ∀ sz : Nat, Met l y ws rm (va_Pc av (zk_B G wc sz)) (va_Qr post (fun u a t => a = ad u ∧ zk_Q G (va_A wc sz) w1 u t) (va_A wc sz)) rm.cells rm.slots (va_A wc sz)
theorem zk_bodyS {l : Launch} {y : MethodName} {ws ws' : List Cond} {rm : Room} {G : zk_G} {av : List Value} {wc : va_W} {S : Type} {post : S → Prop} {ad : S → Nat} {w1 : S → va_W} {cc : ByteArray} {maxL : Nat} {ret : Option FieldType} (hy : plainName y.cls = true) (hw : ws = Cond.code y cc maxL ret :: ws') (hsl : (lg_sl av).length ≤ maxL)
    (body : ∀ (p : Program) (e : Env) (s : State) (m : MethodId) (args : Array Value) (below : List Frame) (meth : Method) (c : Code) (A : Nat → Prop) (ls : Array Slot) (Q : State → Prop), zk_F p s m meth c y ret cc maxL av args ws y.cls G wc A ls → Q = MQ below (va_Qr post (fun u a t => a = ad u ∧ zk_Q G A w1 u t) A) args s rm.cells rm.slots A → W p l e rm s m args below meth c s.heap [] 0 0 Q (F0 m 0 ls [])) : zk_S l y ws rm G av wc post ad w1 := by
  intro sz
  refine Met.ofW (cc := cc) (maxL := maxL) (ret := ret) hy hw ?_
  intro p e s m args below meth c s₁ B hml hv
  obtain ⟨rfl, rfl, hE, hP, hD⟩ := hv
  rw [lg_entry_eq]
  exact body p e s m _ below meth c _ _ _ (zk_F.of B hml hE hP hD hsl) rfl
theorem zk_rets {S : Type} {post : S → Prop} {ad : S → Nat} {w1 : S → va_W} {mc ms : Nat} {nm : String} (u : S) (hQ : Q = MQ below (va_Qr post (fun u a t => a = ad u ∧ zk_Q G A w1 u t) A) args s mc ms A) (hx : p.tables.exec = Jvm.exec) (hb : c.code = cc) (hr : meth.sig.returnType = some (.object nm)) (hlocks : meth.locks = false) (hS : va_S A s.heap H locs) (hP : va_P G.1 vwCl (w1 u) H) (hD : va_D A (w1 u)) (hc : cells ≤ mc) (hs : slots ≤ ms) (hdg : decode cc pc = .ok (.areturn, 1)) (hp : post u) (ha : a = ad u) :
    W p l e R s m args below meth c H locs cells slots Q (F0 m pc ls [.ref a]) := by
  rw [hQ]
  refine W.widen hc hs ?_
  exact W.aret hx hb hr (Or.inl ⟨nm, rfl⟩) (Or.inr ⟨a, rfl⟩) (fun t ht _ => ⟨⟨u, a, rfl, hp, ha, by rw [ht]; exact hP, hD⟩, hS.F ht⟩) hS.2.2 hdg hlocks
theorem zk_callS {S : Type} {post : S → Prop} {ad : S → Nat} {w1 : S → va_W} {mc ms : Nat} {a : Array Value} (hr : va_Run p l e R s m args below meth c H locs cells slots mc ms (F0 m pc ls st) rest (va_Qr post (fun u a t => a = ad u ∧ zk_Q G (va_A wc H.size) w1 u t) (va_A wc H.size) a) (va_A wc H.size))
    (hP : va_P G.1 vwCl (wc ++ wr) H) (hD : va_D A (wc ++ wr)) (hS : va_S A s.heap H locs) (hA : ∀ q : Nat, s.heap.size ≤ q → A q)
    (kk : ∀ (u : S) (H1 : Heap) (locs1 : List Loc), post u → va_P G.1 vwCl (w1 u ++ wr) H1 → va_D A (w1 u ++ wr) → va_S A s.heap H1 locs1 → W p l e R s m args below meth c H1 locs1 (cells + mc) (slots + ms) Q (F0 m (pc + 3) ls (.ref (ad u) :: rest))) : W p l e R s m args below meth c H locs cells slots Q (F0 m pc ls st) := by
  have hF := zk_free hS hA (zk_Dapp hD).1
  refine va_callr hr hS (fun q _ h => hF q h) hF (fun u ra t H1 locs1 ht hvm hw hB hz1 hk1 hS1 => ?_)
  obtain ⟨e, hP1, hD1⟩ := hB
  subst e
  rw [ht] at hP1
  obtain ⟨j1, j2⟩ := zk_join hP hD hk1 hF hP1 hD1
  exact kk u H1 locs1 hw j1 j2 hS1
end ZT
