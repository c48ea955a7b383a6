/-! Contracts of methods that may throw: the world is then as it was. -/
theorem zk_Pkeep {D : va_G} {cl : List vw_C} {ws : va_W} {H H1 : Heap} (h : va_P D cl ws H) (hq : ∀ q : Nat, q < H.size → H1[q]? = H[q]?) : va_P D cl ws H1 :=
  fun k q hk => (h k q hk).kept (hq q.1 (h k q hk).lt)
/-- a throw: of what class, why, and the world as it was -/
def zk_XC (G : zk_G) (wc : va_W) (px : String → Prop) (A : Nat → Prop) : String → State → State → Prop := vx_X (fun _ : Unit => True) (fun E _ t => px E ∧ va_P G.1 vwCl wc t.heap ∧ va_D A wc) A
def zk_XI (l : Launch) (y : MethodName) (ws : List Cond) (rm : Room) (G : zk_G) (av : List Value) (wc : va_W) {S : Type} (post : Int32 → S → Prop) (w1 : S → va_W) (px : String → Prop) : Prop :=
  ∀ sz : Nat, vx_Met l y ws rm (va_Pc av (zk_B G wc sz)) (va_Qi post (zk_Q G (va_A wc sz) w1) (va_A wc sz)) (zk_XC G wc px (va_A wc sz)) rm.cells rm.slots (va_A wc sz)
def zk_XV (l : Launch) (y : MethodName) (ws : List Cond) (rm : Room) (G : zk_G) (av : List Value) (wc : va_W) {S : Type} (post : S → Prop) (w1 : S → va_W) (px : String → Prop) : Prop :=
  ∀ sz : Nat, vx_Met l y ws rm (va_Pc av (zk_B G wc sz)) (va_Qv post (zk_Q G (va_A wc sz) w1) (va_A wc sz)) (zk_XC G wc px (va_A wc sz)) rm.cells rm.slots (va_A wc sz)
theorem zk_bodyXI {l : Launch} {y : MethodName} {ws ws' : List Cond} {rm : Room} {G : zk_G} {av : List Value} {wc : va_W} {S : Type} {post : Int32 → S → Prop} {w1 : S → va_W} {px : String → Prop} {cc : ByteArray} {maxL : Nat} {ret : Option FieldType} (hy : plainName y.cls = true) (hw : ws = Cond.code y cc maxL ret :: ws') (hsl : (lg_sl av).length ≤ maxL)
    (body : ∀ (p : Program) (e : Env) (s : State) (m : MethodId) (args : Array Value) (below : List Frame) (meth : Method) (c : Code) (A : Nat → Prop) (ls : Array Slot) (Q : State → Prop), zk_F p s m meth c y ret cc maxL av args ws y.cls G wc A ls → (∀ x ∈ c.exceptionTable.toList, False) → Q = vx_MQ below (va_Qi post (zk_Q G A w1) A) (zk_XC G wc px A) args s rm.cells rm.slots A → W p l e rm s m args below meth c s.heap [] 0 0 Q (F0 m 0 ls [])) : zk_XI l y ws rm G av wc post w1 px := by
  intro sz
  refine vx_ofW (cc := cc) (maxL := maxL) (ret := ret) hy hw ?_
  intro p e s m args below meth c s₁ B hml hnx hv
  obtain ⟨rfl, rfl, hE, hP, hD⟩ := hv
  rw [lg_entry_eq]
  exact body p e s m _ below meth c _ _ _ (zk_F.of B hml hE hP hD hsl) hnx rfl
theorem zk_bodyXV {l : Launch} {y : MethodName} {ws ws' : List Cond} {rm : Room} {G : zk_G} {av : List Value} {wc : va_W} {S : Type} {post : S → Prop} {w1 : S → va_W} {px : String → Prop} {cc : ByteArray} {maxL : Nat} {ret : Option FieldType} (hy : plainName y.cls = true) (hw : ws = Cond.code y cc maxL ret :: ws') (hsl : (lg_sl av).length ≤ maxL)
    (body : ∀ (p : Program) (e : Env) (s : State) (m : MethodId) (args : Array Value) (below : List Frame) (meth : Method) (c : Code) (A : Nat → Prop) (ls : Array Slot) (Q : State → Prop), zk_F p s m meth c y ret cc maxL av args ws y.cls G wc A ls → (∀ x ∈ c.exceptionTable.toList, False) → Q = vx_MQ below (va_Qv post (zk_Q G A w1) A) (zk_XC G wc px A) args s rm.cells rm.slots A → W p l e rm s m args below meth c s.heap [] 0 0 Q (F0 m 0 ls [])) : zk_XV l y ws rm G av wc post w1 px := by
  intro sz
  refine vx_ofW (cc := cc) (maxL := maxL) (ret := ret) hy hw ?_
  intro p e s m args below meth c s₁ B hml hnx hv
  obtain ⟨rfl, rfl, hE, hP, hD⟩ := hv
  rw [lg_entry_eq]
  exact body p e s m _ below meth c _ _ _ (zk_F.of B hml hE hP hD hsl) hnx rfl
abbrev zk_up : List String := ["java/lang/RuntimeException", "java/lang/Exception"]
/-- the words of a throw -/
theorem zk_hat {own X : String} {ic : Nat} {args : Array Value} {s : State} (h1 : ∀ w ∈ (vx_atS own ic X zk_up).filter goodWord, w.before args s = true) (hd : zk_W s) (hc : va_Nw (.castable X X) s)
    (h2 : ∀ w ∈ (vx_atS own ic X zk_up).filter (fun w => !goodWord w), w ∈ ([.declares (Bundle.initS "java/lang/RuntimeException"), .declares (Bundle.initS "java/lang/Exception"), .declares (Bundle.initS Bundle.tN), .castable X X] : List Cond)) : ∀ w ∈ vx_atS own ic X zk_up, w.before args s = true :=
  vx_hat h1 h2 (vx_c (va_Nw.use rfl hd.1) (vx_c (va_Nw.use rfl hd.2.1) (vx_c (va_Nw.use rfl hd.2.2.1) (vx_c (va_Nw.use rfl hc) vx_n))))
section ZX
variable {p : Program} {l : Launch} {e : Env} {R : Room} {s : State} {m : MethodId} {args : Array Value} {below : List Frame} {meth : Method} {c : Code} {H : Heap} {locs : List Loc} {cells slots : Nat} {Q : State → Prop}
variable {cc : ByteArray} {pc : Nat} {ls : Array Slot} {rest st : List Value} {A : Nat → Prop} {wc wr : va_W} {G : zk_G}
/-- what a throw owes -/
theorem zk_thx {ws wc0 : va_W} {px : String → Prop} {X : String} {t : State} (hP : va_P G.1 vwCl ws H) (hD : va_D A ws) (hS : va_S A s.heap H locs) (hw : ws.Perm wc0) (hp : px X) (hz : H.size ≤ t.heap.size) (hk : ∀ q : Nat, q < H.size → t.heap[q]? = H[q]?) : zk_XC G wc0 px A X s t :=
  ⟨(), trivial, ⟨hp, zk_Pkeep (zk_Pperm hP hw) hk, zk_Dperm hD hw⟩, ⟨Nat.le_trans hS.1 hz, fun q h1 h2 => (hk q (Nat.lt_of_lt_of_le h1 hS.1)).trans (hS.2.1 q h1 h2)⟩⟩
/-- a call of a method without an answer that may throw; a throw goes on, the world as it was -/
theorem zk_callXV {S : Type} {post : S → Prop} {w1 : S → va_W} {px qx : String → Prop} {wc0 : va_W} {Qc : Array Value → State → Outcome → State → Prop} {mc ms kc ks : Nat} {a : Array Value} (hr : vx_Run p l e R s m args below meth c H locs cells slots mc ms (F0 m pc ls st) rest (va_Qv post (zk_Q G (va_A wc H.size) w1) (va_A wc H.size) a) (zk_XC G wc px (va_A wc H.size)) (va_A wc H.size))
    (hQ : Q = vx_MQ below Qc (zk_XC G wc0 qx A) args s kc ks A) (hnx : ∀ x ∈ c.exceptionTable.toList, False) (hlocks : meth.locks = false) (hc : cells + mc ≤ kc) (hs : slots + ms ≤ ks) (hw : (wc ++ wr).Perm wc0) (hpx : ∀ E, px E → qx E)
    (hP : va_P G.1 vwCl (wc ++ wr) H) (hD : va_D A (wc ++ wr)) (hS : va_S A s.heap H locs) (hA : ∀ q : Nat, s.heap.size ≤ q → A q)
    (kk : ∀ (u : S) (H1 : Heap) (locs1 : List Loc), post u → va_P G.1 vwCl (w1 u ++ wr) H1 → va_D A (w1 u ++ wr) → va_S A s.heap H1 locs1 → W p l e R s m args below meth c H1 locs1 (cells + mc) (slots + ms) Q (F0 m (pc + 3) ls rest)) : W p l e R s m args below meth c H locs cells slots Q (F0 m pc ls st) := by
  have hF := zk_free hS hA (zk_Dapp hD).1
  refine vx_callv hr hS (fun q _ h => hF q h) hF (fun q _ h => hF q h) (fun E ce q9 u t H1 locs1 ht hvm _ hB hz1 hk1 hS1 hce hv hcl => ?_) (fun u t H1 locs1 ht hvm hw2 hB hz1 hk1 hS1 => ?_)
  · obtain ⟨hp, hP1, hD1⟩ := hB
    rw [ht] at hP1
    obtain ⟨j1, j2⟩ := zk_join hP hD hk1 hF hP1 hD1
    rw [hQ]
    exact vx_out (fun x h => (hnx x h).elim) hlocks hce hv hcl (fun t2 ht2 _ => zk_thx j1 j2 hS1 hw (hpx E hp) (by rw [ht2]; exact Nat.le_refl _) (fun q _ => by rw [ht2])) hS1.2.2 hc hs
  · obtain ⟨hP1, hD1⟩ := hB
    rw [ht] at hP1
    obtain ⟨j1, j2⟩ := zk_join hP hD hk1 hF hP1 hD1
    exact kk u H1 locs1 hw2 j1 j2 hS1
end ZX
/-- what speaks against an action is one of four -/
def zFl (f : Int32) : Prop := f = 0 ∨ f = nI 1 ∨ f = nI 2 ∨ f = nI 3
theorem zFl_0 {f : Int32} (h : zFl f) (h2 : ¬ f = nI 1 ∧ ¬ f = nI 2 ∧ ¬ f = nI 3) : f = 0 := by
  rcases h with e | e | e | e
  · exact e
  · exact absurd e h2.1
  · exact absurd e h2.2.1
  · exact absurd e h2.2.2
theorem zFl_if {c : Prop} [Decidable c] {x y : Int32} (hx : zFl x) (hy : zFl y) : zFl (if c then x else y) := by
  by_cases h : c
  · rw [if_pos h]; exact hx
  · rw [if_neg h]; exact hy
theorem zFl_00 : zFl (nI 0) := Or.inl rfl
theorem zFl_1 : zFl (nI 1) := Or.inr (Or.inl rfl)
theorem zFl_2 : zFl (nI 2) := Or.inr (Or.inr (Or.inl rfl))
theorem zFl_3 : zFl (nI 3) := Or.inr (Or.inr (Or.inr rfl))
theorem sfCome_v (n : Nat) (f di : Int32) : zFl (sfCome n f di) := by unfold sfCome; exact zFl_if zFl_1 (zFl_if zFl_2 (zFl_if zFl_3 zFl_00))
theorem sfMenu_v (t : Nat) (d mn : Int32) : zFl (sfMenu t d mn) := by unfold sfMenu; exact zFl_if zFl_1 (zFl_if zFl_2 (zFl_if zFl_3 zFl_00))
theorem sfOrder_v (L : zL) (t : Nat) (c d : Int32) : zFl (sfOrder L t c d) := by unfold sfOrder; exact zFl_if zFl_1 (zFl_if zFl_3 zFl_00)
theorem sfPay_v (L : zL) (c am : Int32) : zFl (sfPay L c am) := by unfold sfPay; exact zFl_if zFl_1 (zFl_if zFl_2 (zFl_if zFl_3 zFl_00))
theorem sfMove_v (L : zL) (c ot am : Int32) : zFl (sfMove L c ot am) := by unfold sfMove; exact zFl_if zFl_1 (zFl_if zFl_2 (zFl_if zFl_3 zFl_00))
theorem sfShare_v (f : Int32) : zFl (sfShare f) := by unfold sfShare; exact zFl_if zFl_1 zFl_00
theorem sfEnt_v (L : zL) (c fr to : Int32) : zFl (sfEnt L c fr to) := by unfold sfEnt; exact zFl_if zFl_1 (zFl_if zFl_00 zFl_2)
theorem sfOff_v (L : zL) (n : Nat) (f : Int32) : zFl (sfOff L n f) := by unfold sfOff; exact zFl_if zFl_1 (zFl_if zFl_3 zFl_00)
theorem sfDays_v (t : Nat) (k : Int32) : zFl (sfDays t k) := by unfold sfDays; exact zFl_if zFl_2 (zFl_if zFl_3 zFl_00)
