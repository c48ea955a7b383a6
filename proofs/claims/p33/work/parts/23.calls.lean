/-! Long comparisons, slots, and what the questions about what would be answer. -/
theorem wb_tb (n : Nat) : (lN n).toBitVec = BitVec.ofNat 64 n := rfl
theorem wb_inj {a b : Int64} (h : a.toBitVec = b.toBitVec) : a = b := Int64.toBitVec_inj.mp h
theorem wb_tn {n : Nat} (h : n < 2 ^ 64) : (lN n).toBitVec.toNat = n := by rw [wb_tb, BitVec.toNat_ofNat, Nat.mod_eq_of_lt h]
theorem wb_of (x : Int64) : ∃ n, n < 2 ^ 64 ∧ x = lN n := ⟨x.toBitVec.toNat, x.toBitVec.isLt, wb_inj (by rw [wb_tb]; simp)⟩
theorem wb_of32 (x : Int32) : ∃ n, n < 2 ^ 32 ∧ x = nI n := ⟨x.toBitVec.toNat, x.toBitVec.isLt, Int32.toBitVec_inj.mp (by show _ = BitVec.ofNat 32 _; simp)⟩
theorem wb_c : ∀ k, k < 64 → ((nI k).toInt64 &&& 63) = lN k := by decide +kernel
theorem wb_cu : ∀ k, k < 64 → ((nI k).toInt64.toUInt64 &&& Int64.toUInt64 63) = UInt64.ofNat k := by decide +kernel
theorem wb_sm : ∀ k, k < 64 → (BitVec.ofNat 64 k).smod 64 = BitVec.ofNat 64 k := by decide +kernel
theorem wb_pw {a b : Nat} (h : a ≤ b) : 2 ^ b = 2 ^ a * 2 ^ (b - a) := by rw [← Nat.pow_add]; congr 1; omega
theorem wb_lt2 {a b : Nat} (h : a < b) : 2 ^ a < 2 ^ b := Nat.pow_lt_pow_right (by decide) h
theorem wb_mod (n : Nat) : lN n = lN (n % 2 ^ 64) := wb_inj (by rw [wb_tb, wb_tb]; apply BitVec.eq_of_toNat_eq; rw [BitVec.toNat_ofNat, BitVec.toNat_ofNat, Nat.mod_mod])
theorem wb_shr {n k : Nat} (hn : n < 2 ^ 64) (hk : k < 64) : ((lN n).toUInt64 >>> ((nI k).toInt64.toUInt64 &&& Int64.toUInt64 63)).toInt64 = lN (n / 2 ^ k) := by
  rw [wb_cu k hk]
  apply wb_inj
  apply BitVec.eq_of_toNat_eq
  show ((lN n).toUInt64 >>> UInt64.ofNat k).toNat = (BitVec.ofNat 64 _).toNat
  have h1 : (UInt64.ofNat k).toNat = k := by
    show (BitVec.ofNat 64 k).toNat = k
    rw [BitVec.toNat_ofNat, Nat.mod_eq_of_lt (by omega)]
  have h2 : (lN n).toUInt64.toNat = n := wb_tn hn
  rw [UInt64.toNat_shiftRight, h1, h2, Nat.mod_eq_of_lt hk, Nat.shiftRight_eq_div_pow, BitVec.toNat_ofNat, Nat.mod_eq_of_lt (Nat.lt_of_le_of_lt (Nat.div_le_self _ _) hn)]
theorem zk_clt {x y : Int64} (h : lg_cmp x y < 0) : x < y := Int64.not_le.mp fun z => Int32.not_le.mpr h ((lg_cmp_ge x y).mpr z)
theorem zk_cnlt {x y : Int64} (h : ¬ lg_cmp x y < 0) : ¬ x < y := Int64.not_lt.mpr ((lg_cmp_ge x y).mp (Int32.not_lt.mp h))
theorem zk_cle {x y : Int64} (h : lg_cmp x y ≤ 0) : ¬ y < x := Int64.not_lt.mpr ((lg_cmp_le x y).mp h)
theorem zk_cnle {x y : Int64} (h : ¬ lg_cmp x y ≤ 0) : y < x := Int64.not_le.mp fun z => h ((lg_cmp_le x y).mpr z)
theorem zk_slotI {p y r x o : va_W} (hp : p.Perm (x ++ o)) : (p ++ (y ++ r)).Perm ((x ++ y) ++ (o ++ r)) := by
  refine (List.Perm.append_right (y ++ r) hp).trans ?_
  rw [List.append_assoc, List.append_assoc]
  exact List.Perm.append_left x (List.perm_append_comm_assoc o y r)
theorem zk_slotO {p y r x o : va_W} (hp : p.Perm (x ++ o)) : (p ++ (y ++ r)).Perm ((y ++ x) ++ (o ++ r)) := (zk_slotI hp).trans (List.Perm.append_right (o ++ r) List.perm_append_comm)
theorem zk_i2c : ∀ q, q < 256 → ((nI q).toUInt32 % 65536).toInt32 = nI q := by decide +kernel
/-- rows but the balances are as they were -/
theorem sSpend_rows (L : zL) (n c d j : Nat) (hj : j ≠ 3) : (sSpend L n c d).2 j = L j := by
  unfold sSpend
  split
  · rfl
  · exact up2_ne L _ _ hj
theorem sSpC_rows (n : Nat) (f ch : Int32) (d c j : Nat) (x : Option Nat × zL) (hj : j ≠ 3) : (sSpC n f ch d c x).2 j = x.2 j := by
  unfold sSpC
  split
  · split
    · exact sSpend_rows _ _ _ _ _ hj
    · exact sSpend_rows _ _ _ _ _ hj
  · rfl
theorem sSp_rows (L : zL) (n t : Nat) (f ch : Int32) (j : Nat) (hj : j ≠ 3) : ∀ k, (sSp L n t f ch k).2 j = L j
  | 0 => rfl
  | k + 1 => by
    have ih := sSp_rows L n t f ch j hj k
    unfold sSp at *
    by_cases h : t ≤ k
    · rw [zfr_s _ _ h]
      exact zfold_inv (P := fun x => x.2 j = L j) ih (fun i x hx => (sSpC_rows n f ch k i j x hj).trans hx) n
    · rw [zfr_0 _ _ (by omega)]
theorem upr_row (L K : zL) (h : ∀ j, j ≠ 3 → K j = L j) : upr K 3 (L 3) = L := by
  funext j
  by_cases e : j = 3
  · subst e
    exact if_pos rfl
  · exact (if_neg e).trans (h j e)
/-- with this much more nobody of the family is refused -/
def nTry (L : zL) (n t : Nat) (f : Int32) (lo k : Nat) : Prop := (sSp (up2 L 3 lo (L 3 lo + nI (100 * k))) n t f (-1) 40).1 = none
theorem sOpt_none {x : Option Nat} (hx : ∀ d, x = some d → d < 40) : sOpt x = -1 ↔ x = none := by
  cases x with
  | none => exact ⟨fun _ => rfl, fun _ => rfl⟩
  | some d => exact ⟨fun h => absurd h (zk_m1n (by have := hx d rfl; omega)), fun h => by cases h⟩
theorem sSpC_lt (n : Nat) (f ch : Int32) (d c N : Nat) (hd : d < N) (x : Option Nat × zL) (hx : ∀ y, x.1 = some y → y < N) : ∀ y, (sSpC n f ch d c x).1 = some y → y < N := by
  intro y
  unfold sSpC
  split
  · rename_i h
    split
    · intro e
      cases e
      exact hd
    · intro e
      cases e
  · exact hx y
theorem sSp_lt (L : zL) (n t : Nat) (f ch : Int32) : ∀ k, ∀ y, (sSp L n t f ch k).1 = some y → y < k
  | 0 => fun y h => by cases h
  | k + 1 => by
    have ih := sSp_lt L n t f ch k
    unfold sSp at *
    by_cases h : t ≤ k
    · rw [zfr_s _ _ h]
      exact zfold_inv (P := fun x : Option Nat × zL => ∀ y, x.1 = some y → y < k + 1) (fun y hy => Nat.lt_succ_of_lt (ih y hy)) (fun i x hx => sSpC_lt n f ch k i (k + 1) (Nat.lt_succ_self k) x hx) n
    · rw [zfr_0 _ _ (by omega)]
      intro y hy
      cases hy
/-- what is refused from today on if child c were entitled on all days -/
def bCnt (L : zL) (n t c : Nat) : Int32 := zr (fun j => zs (fun i => if (sDays n t (40 - t) (sEntitle L t c (nI 0) (nI 39))).2 9 (i * 40 + j) = nI 4 then nI 1 else nI 0) 12) t 40
def bStep (L : zL) (n t : Nat) (c : Nat) (x : Int32 × Int32) : Int32 × Int32 := if x.1 = -1 ∨ bCnt L n t c < x.2 then (nI c, bCnt L n t c) else x
def sBest (L : zL) (n t k : Nat) : Int32 × Int32 := zfold (bStep L n t) k (-1, nI 0)
/-- a script's group i of n -/
def rGrp (sc : Int64) (n i : Nat) : Int32 := (wLg sc (n - 1 - i) - wLg sc (n - 1 - i) / lN 1000000 * lN 1000000).toInt32
def rStep (sc : Int64) (n : Nat) (i : Nat) (x : Option Nat × zL) : Option Nat × zL :=
  if x.1 = none then ((if (cGroup x.2 (zN x.2) (zT x.2) (rGrp sc n i).toNatClampNeg).1 = nI 0 then some i else none), (cGroup x.2 (zN x.2) (zT x.2) (rGrp sc n i).toNatClampNeg).2) else x
def rRun (L : zL) (sc : Int64) (n k : Nat) : Option Nat × zL := zfold (rStep sc n) k (none, L)
/-- a simulation -/
def mNext (x : Int64) : Int64 := x * lN 6364136223846793005 + lN 1442695040888963407
def mR (x : Int64) : Nat := x.toBitVec.toNat / 2 ^ 33
def mStep (x : Int64 × zL) : Int64 × zL := (mNext x.1, (cTurn x.2 (zN x.2) (zT x.2) (mR (mNext x.1))).2)
def mRun (L : zL) (seed : Int64) (k : Nat) : Int64 × zL := zfold (fun _ x => mStep x) k (seed, L)
def mSrv (L : zL) : Int32 := zs (fun i => if L 9 i = nI 2 then nI 1 else nI 0) 480 + zs (fun i => if L 9 i = nI 3 then nI 1 else nI 0) 480
def mRef (L : zL) : Int32 := zs (fun i => if L 9 i = nI 4 then nI 1 else nI 0) 480
/-- loading: how many are left out, the reader, the ledger -/
def lStep (n : Nat) (x : Int32 × (Bool × Nat × zL) × zL) : Int32 × (Bool × Nat × zL) × zL :=
  if x.2.1.2.1 < n then
    (if (tRd x.2.1.2.2 n x.2.1.2.1).1 = true then
      (if (cText x.2.2 (zN x.2.2) (zT x.2.2) ((tRd x.2.1.2.2 n x.2.1.2.1).2.2 0 2) ((tRd x.2.1.2.2 n x.2.1.2.1).2.2 2 0) ((tRd x.2.1.2.2 n x.2.1.2.1).2.2 2 1) ((tRd x.2.1.2.2 n x.2.1.2.1).2.2 2 2)).1 = nI 0 then x.1 + nI 1 else x.1, tRd x.2.1.2.2 n x.2.1.2.1,
        (cText x.2.2 (zN x.2.2) (zT x.2.2) ((tRd x.2.1.2.2 n x.2.1.2.1).2.2 0 2) ((tRd x.2.1.2.2 n x.2.1.2.1).2.2 2 0) ((tRd x.2.1.2.2 n x.2.1.2.1).2.2 2 1) ((tRd x.2.1.2.2 n x.2.1.2.1).2.2 2 2)).2)
     else (x.1, tRd x.2.1.2.2 n x.2.1.2.1, x.2.2))
  else x
def lRun (T L : zL) (n : Nat) (k : Nat) : Int32 × (Bool × Nat × zL) × zL := zfold (fun _ x => lStep n x) k (nI 0, tSt T n, sClear L)
theorem sInv_clear (L : zL) : sInv (sClear L) 0 0 := ⟨rfl, by decide, rfl, by decide, fun c hc => absurd hc (Nat.not_lt_zero c), fun p _ h => absurd (show nI 0 = nI 2 from h) (by decide)⟩
theorem mR_shr (x : Int64) : (x.toUInt64 >>> ((nI 33).toInt64.toUInt64 &&& Int64.toUInt64 63)).toInt64 = lN (mR x) := by
  obtain ⟨n, hn, rfl⟩ := wb_of x
  rw [wb_shr hn (by decide), mR, wb_tn hn]
theorem mR_lt (x : Int64) : mR x < 2 ^ 31 := by
  have := x.toBitVec.isLt
  unfold mR
  omega
theorem wLg_nat {s : Nat} (hs : s < 2 ^ 63) : ∀ k, wLg (lN s) k = lN (s / 1000000 ^ k)
  | 0 => by rw [Nat.pow_zero, Nat.div_one]; rfl
  | k + 1 => by
    show wLg (lN s) k / lN 1000000 = _
    rw [wLg_nat hs k, pk_lDiv (Nat.lt_of_le_of_lt (Nat.div_le_self _ _) hs) (by decide) (by decide), Nat.div_div_eq_div_mul, ← Nat.pow_succ]
theorem rGrp_lN {s : Nat} (hs : s < 2 ^ 63) (n i : Nat) : rGrp (lN s) n i = nI (s / 1000000 ^ (n - 1 - i) % 1000000) := by
  unfold rGrp
  rw [wLg_nat hs, pk_lRem (Nat.lt_of_le_of_lt (Nat.div_le_self _ _) hs) (by decide) (by decide), lN_i]
theorem rGrp_nat {sc : Int64} (h : ¬ sc < lN 0) (n i : Nat) : ∃ g, g < 1000000 ∧ rGrp sc n i = nI g := by
  obtain ⟨s, hs, rfl⟩ := pk_lOf h
  exact ⟨_, Nat.mod_lt _ (by decide), rGrp_lN hs n i⟩
theorem rRun_stay (L : zL) (sc : Int64) (n i : Nat) (h : ¬ (rRun L sc n i).1 = none) (k : Nat) : rRun L sc n (i + k) = rRun L sc n i :=
  zfold_stay (f := rStep sc n) (P := fun x => ¬ x.1 = none) (fun _ _ hx => if_neg hx) i h k
theorem rRun_hit {L X U : zL} {sc : Int64} {n i : Nat} (h : (none, X) = rRun L sc n i) (hi : i < n) (h2 : rStep sc n i (none, X) = (some i, U)) : rRun L sc n n = (some i, U) := by
  have e : rRun L sc n (i + 1) = (some i, U) := by
    show rStep sc n i (rRun L sc n i) = _
    rw [← h]
    exact h2
  have := rRun_stay L sc n (i + 1) (by rw [e]; exact fun z => by cases z) (n - (i + 1))
  rw [show i + 1 + (n - (i + 1)) = n by omega] at this
  exact this.trans e
theorem tStep_inv {n : Nat} {x : Bool × Nat × zL} (h : tInv x.2.2 n x.2.1) : tInv (tStep n x).2.2 n (tStep n x).2.1 := by
  unfold tStep
  split
  · exact tRd_inv h
  · exact h
theorem tEr_invk {T : zL} {n p : Nat} (h : tInv T n p) (k : Nat) : tInv (zfold (fun _ x => tStep n x) k (tSt T n)).2.2 n (zfold (fun _ x => tStep n x) k (tSt T n)).2.1 :=
  zfold_inv (f := fun _ x => tStep n x) (P := fun x : Bool × Nat × zL => tInv x.2.2 n x.2.1) (tSt_inv h) (fun _ _ hx => tStep_inv hx) k
theorem tEr_inv {T : zL} {n p : Nat} (h : tInv T n p) : tInv (tEr T n).2.2 n (tEr T n).2.1 := by
  unfold tEr
  exact tEr_invk h 120
theorem tEr_true {T : zL} {n p : Nat} (h : tInv T n p) {r : Int32} (e : r = if (tEr T n).1 = true then -1 else nI (tEr T n).2.1) (h2 : r = -1) : (tEr T n).1 = true := by
  by_cases z : (tEr T n).1 = true
  · exact z
  · rw [if_neg z] at e
    exact absurd (e.symm.trans h2) (zk_m1n (by have := (tEr_inv h).2.2.2.1; omega))
theorem lRun_stay {T L : zL} {n i : Nat} {y : Int32 × (Bool × Nat × zL) × zL} (h : y = lRun T L n i) (hq : ¬ y.2.1.2.1 < n) (hi : i ≤ 120) : lRun T L n 120 = y := by
  have := zfold_stay (f := fun _ x => lStep n x) (P := fun x => ¬ x.2.1.2.1 < n) (fun _ _ hx => if_neg hx) (s := (nI 0, tSt T n, sClear L)) i (by unfold lRun at h; rw [← h]; exact hq) (120 - i)
  rw [show i + (120 - i) = 120 by omega] at this
  exact this.trans h.symm
theorem zk_ld1 {T L : zL} {n i : Nat} {y z : Int32 × (Bool × Nat × zL) × zL} (h : y = lRun T L n i) (hz : z = lStep n y) : z = lRun T L n (i + 1) := zfold_i (f := fun _ x => lStep n x) h hz
/-- contracts of methods that may throw: the world then is one of some -/
def zk_XF (G : zk_G) {V : Type} (wx : V → va_W) (px : String → V → Prop) (A : Nat → Prop) : String → State → State → Prop := vx_X (fun _ : Unit => True) (fun E _ t => ∃ v, px E v ∧ va_P G.1 vwCl (wx v) t.heap ∧ va_D A (wx v)) A
def zk_XJ (l : Launch) (y : MethodName) (ws : List Cond) (rm : Room) (G : zk_G) (av : List Value) (wc : va_W) {S : Type} (post : Int32 → S → Prop) (w1 : S → va_W) {V : Type} (wx : V → va_W) (px : String → V → Prop) : Prop :=
  ∀ sz : Nat, vx_Met l y ws rm (va_Pc av (zk_B G wc sz)) (va_Qi post (zk_Q G (va_A wc sz) w1) (va_A wc sz)) (zk_XF G wx px (va_A wc sz)) rm.cells rm.slots (va_A wc sz)
theorem zk_bodyXJ {l : Launch} {y : MethodName} {ws ws' : List Cond} {rm : Room} {G : zk_G} {av : List Value} {wc : va_W} {S : Type} {post : Int32 → S → Prop} {w1 : S → va_W} {V : Type} {wx : V → va_W} {px : String → V → Prop} {cc : ByteArray} {maxL : Nat} {ret : Option FieldType} (hy : plainName y.cls = true) (hw : ws = Cond.code y cc maxL ret :: ws') (hsl : (lg_sl av).length ≤ maxL)
    (body : ∀ (p : Program) (e : Env) (s : State) (m : MethodId) (args : Array Value) (below : List Frame) (meth : Method) (c : Code) (A : Nat → Prop) (ls : Array Slot) (Q : State → Prop), zk_F p s m meth c y ret cc maxL av args ws y.cls G wc A ls → (∀ x ∈ c.exceptionTable.toList, False) → Q = vx_MQ below (va_Qi post (zk_Q G A w1) A) (zk_XF G wx px A) args s rm.cells rm.slots A → W p l e rm s m args below meth c s.heap [] 0 0 Q (F0 m 0 ls [])) : zk_XJ l y ws rm G av wc post w1 wx px := by
  intro sz
  refine vx_ofW (cc := cc) (maxL := maxL) (ret := ret) hy hw ?_
  intro p e s m args below meth c s₁ B hml hnx hv
  obtain ⟨rfl, rfl, hE, hP, hD⟩ := hv
  rw [lg_entry_eq]
  exact body p e s m _ below meth c _ _ _ (zk_F.of B hml hE hP hD hsl) hnx rfl
theorem zk_thj {s : State} {H : Heap} {locs : List Loc} {A : Nat → Prop} {G : zk_G} {V : Type} {wx : V → va_W} {px : String → V → Prop} {X : String} {t : State} (v : V) (hP : va_P G.1 vwCl (wx v) H) (hD : va_D A (wx v)) (hS : va_S A s.heap H locs) (hp : px X v) (hz : H.size ≤ t.heap.size) (hk : ∀ q : Nat, q < H.size → t.heap[q]? = H[q]?) : zk_XF G wx px A X s t :=
  ⟨(), trivial, ⟨v, hp, zk_Pkeep hP hk, hD⟩, ⟨Nat.le_trans hS.1 hz, fun q h1 h2 => (hk q (Nat.lt_of_lt_of_le h1 hS.1)).trans (hS.2.1 q h1 h2)⟩⟩
