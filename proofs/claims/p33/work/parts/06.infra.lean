/-! Own rows: the shape of every contract of this claim, calls by it, worlds up to order. -/
-- worlds up to the order of their cells
theorem zk_at {ws : va_W} {q : Nat × va_E} (h : q ∈ ws) : ∃ k : Nat, ws[k]? = some q := List.getElem?_of_mem h
theorem zk_Pmem {D : va_G} {cl : List vw_C} {ws : va_W} {H : Heap} : va_P D cl ws H ↔ ∀ q ∈ ws, va_at D cl q H :=
  ⟨fun h q hq => by obtain ⟨k, hk⟩ := zk_at hq; exact h k q hk, fun h k q hk => h q (List.mem_of_getElem? hk)⟩
theorem zk_Pperm {D : va_G} {cl : List vw_C} {ws ws' : va_W} {H : Heap} (h : va_P D cl ws H) (p : ws.Perm ws') : va_P D cl ws' H :=
  zk_Pmem.mpr fun q hq => zk_Pmem.mp h q (p.mem_iff.mpr hq)
theorem zk_nd {l : List Nat} : l.Nodup ↔ ∀ i j a : Nat, l[i]? = some a → l[j]? = some a → i = j := by
  constructor
  · intro h i j a hi hj
    have hil : i < l.length := (List.getElem?_eq_some_iff.mp hi).1
    exact (List.getElem?_inj hil h).mp (hi.trans hj.symm)
  · intro h
    rw [List.nodup_iff_pairwise_ne, List.pairwise_iff_getElem]
    intro i j hi hj hij e
    have := h i j l[i] (List.getElem?_eq_getElem hi) (by rw [e]; exact List.getElem?_eq_getElem hj)
    omega
theorem zk_Dnd {A : Nat → Prop} {ws : va_W} : va_D A ws ↔ (ws.map (fun q => q.1)).Nodup ∧ ∀ q ∈ ws, A q.1 := by
  constructor
  · intro h
    refine ⟨zk_nd.mpr fun i j a hi hj => ?_, fun q hq => by obtain ⟨k, hk⟩ := zk_at hq; exact h.2 k q hk⟩
    rw [List.getElem?_map] at hi hj
    cases h1 : ws[i]? with
    | none => rw [h1] at hi; cases hi
    | some x =>
      cases h2 : ws[j]? with
      | none => rw [h2] at hj; cases hj
      | some y =>
        rw [h1] at hi
        rw [h2] at hj
        exact h.1 i j x y h1 h2 ((Option.some.inj hi).trans (Option.some.inj hj).symm)
  · intro h
    refine ⟨fun i j x y hi hj e => ?_, fun k q hk => h.2 q (List.mem_of_getElem? hk)⟩
    exact zk_nd.mp h.1 i j x.1 (by rw [List.getElem?_map, hi]; rfl) (by rw [List.getElem?_map, hj, e]; rfl)
theorem zk_Dperm {A : Nat → Prop} {ws ws' : va_W} (h : va_D A ws) (p : ws.Perm ws') : va_D A ws' := by
  rw [zk_Dnd] at h ⊢
  exact ⟨(p.map _).nodup_iff.mp h.1, fun q hq => h.2 q (p.mem_iff.mpr hq)⟩
theorem zk_Dapp {A : Nat → Prop} {w1 w2 : va_W} (h : va_D A (w1 ++ w2)) : va_D A w1 ∧ va_D A w2 := by
  rw [zk_Dnd] at h
  rw [List.map_append, List.nodup_append] at h
  exact ⟨zk_Dnd.mpr ⟨h.1.1, fun q hq => h.2 q (List.mem_append_left _ hq)⟩, zk_Dnd.mpr ⟨h.1.2.1, fun q hq => h.2 q (List.mem_append_right _ hq)⟩⟩
theorem zk_Papp {D : va_G} {cl : List vw_C} {w1 w2 : va_W} {H : Heap} (h : va_P D cl (w1 ++ w2) H) : va_P D cl w1 H ∧ va_P D cl w2 H :=
  ⟨zk_Pmem.mpr fun q hq => zk_Pmem.mp h q (List.mem_append_left _ hq), zk_Pmem.mpr fun q hq => zk_Pmem.mp h q (List.mem_append_right _ hq)⟩
/-- the cells of the rest stay, and lie apart from what comes back -/
theorem zk_join {A0 : Nat → Prop} {D : va_G} {cl : List vw_C} {wc wr w1 : va_W} {H H1 : Heap} (hP : va_P D cl (wc ++ wr) H) (hD : va_D A0 (wc ++ wr))
    (hk : ∀ q : Nat, q < H.size → ¬ va_A wc H.size q → H1[q]? = H[q]?) (hF : ∀ q, va_A wc H.size q → A0 q) (hP1 : va_P D cl w1 H1) (hD1 : va_D (va_A wc H.size) w1) :
    va_P D cl (w1 ++ wr) H1 ∧ va_D A0 (w1 ++ wr) := by
  have hPr := (zk_Papp hP).2
  have hDr := (zk_Dapp hD).2
  have apart : ∀ q ∈ wr, q.1 < H.size ∧ ¬ va_A wc H.size q.1 := by
    intro q hq
    obtain ⟨k, hkq⟩ := zk_at hq
    have hl := (hPr k q hkq).lt
    refine ⟨hl, fun h => ?_⟩
    rcases h with ⟨k2, e, h⟩ | h
    · rw [zk_Dnd, List.map_append, List.nodup_append] at hD
      exact hD.1.2.2 q.1 (List.mem_map.mpr ⟨(q.1, e), List.mem_of_getElem? h, rfl⟩) q.1 (List.mem_map.mpr ⟨q, hq, rfl⟩) rfl
    · omega
  refine ⟨va_P.app hP1 (zk_Pmem.mpr fun q hq => ?_), va_D.app (hD1.weaken (fun k q _ h => hF q.1 h)) hDr (fun i j x y hx hy hxy => ?_)⟩
  · obtain ⟨g1, g2⟩ := apart q hq
    exact (zk_Pmem.mp hPr q hq).kept (hk q.1 g1 g2)
  · exact (apart y (List.mem_of_getElem? hy)).2 (by rw [← hxy]; exact hD1.2 i x hx)
-- the classes of the arrays: int, boolean, char, long, Ledger
abbrev zk_TY (T : Nat → ClassId) : List (ClassId × FieldType) := [(T 0, .int), (T 1, .boolean), (T 2, .char), (T 3, .int), (T 4, .object "MealAccounts$Ledger")]
/-- what a throw wants of the tables beside the method's own words -/
def zk_W (U : State) : Prop := va_Nw (.declares (Bundle.initS "java/lang/RuntimeException")) U ∧ va_Nw (.declares (Bundle.initS "java/lang/Exception")) U ∧ va_Nw (.declares (Bundle.initS Bundle.tN)) U ∧ va_Nw (.castable "java/lang/IndexOutOfBoundsException" "java/lang/IndexOutOfBoundsException") U ∧ va_Nw (.castable "java/lang/IllegalArgumentException" "java/lang/IllegalArgumentException") U ∧ va_Nw (.castable "java/lang/IllegalStateException" "java/lang/IllegalStateException") U
theorem zk_W.warm {s U : State} (hW : s.WarmedH U.vm) (h : zk_W s) : zk_W U :=
  ⟨va_Nw.warmD hW h.1, va_Nw.warmD hW h.2.1, va_Nw.warmD hW h.2.2.1, va_Nw.warmC hW h.2.2.2.1, va_Nw.warmC hW h.2.2.2.2.1, va_Nw.warmC hW h.2.2.2.2.2⟩
theorem zk_W.same {s U : State} (hv : s.vm = U.vm) (h : zk_W s) : zk_W U :=
  ⟨va_Nw.same rfl hv h.1, va_Nw.same rfl hv h.2.1, va_Nw.same rfl hv h.2.2.1, va_Nw.same rfl hv h.2.2.2.1, va_Nw.same rfl hv h.2.2.2.2.1, va_Nw.same rfl hv h.2.2.2.2.2⟩
/-- the links of nest mates -/
def zk_N (U : State) : Prop := va_Nw (.methodLinkNest RX5 9 yX4_init RX5) U ∧ va_Nw (.methodLinkNest RX2 38 yX3_init RX5) U ∧ va_Nw (.methodLinkNest RX2 82 yX5_isFamily RX5) U ∧ va_Nw (.methodLinkNest RX2 86 yX5_isDay RX5) U ∧ va_Nw (.methodLinkNest RX0 64 yX5_isDay RX5) U ∧ va_Nw (.methodLinkNest RX0 77 yX5_isFamily RX5) U ∧ va_AO "MealAccounts$Ledger" U ∧ zk_W U
theorem zk_N.warm {s U : State} (hW : s.WarmedH U.vm) (h : zk_N s) : zk_N U :=
  ⟨va_Nw.warmM hW h.1, va_Nw.warmM hW h.2.1, va_Nw.warmM hW h.2.2.1, va_Nw.warmM hW h.2.2.2.1, va_Nw.warmM hW h.2.2.2.2.1, va_Nw.warmM hW h.2.2.2.2.2.1, va_AO.moved hW.alike h.2.2.2.2.2.2.1, zk_W.warm hW h.2.2.2.2.2.2.2⟩
theorem zk_N.same {s U : State} (hv : s.vm = U.vm) (h : zk_N s) : zk_N U :=
  ⟨va_Nw.same rfl hv h.1, va_Nw.same rfl hv h.2.1, va_Nw.same rfl hv h.2.2.1, va_Nw.same rfl hv h.2.2.2.1, va_Nw.same rfl hv h.2.2.2.2.1, va_Nw.same rfl hv h.2.2.2.2.2.1, va_AO.moved (by rw [hv]; exact Vm.Alike.refl _) h.2.2.2.2.2.2.1, zk_W.same hv h.2.2.2.2.2.2.2⟩
/-- the claim's fixed things: classes and slots; the arrays' classes; where the launch's own heap ends; the String constants' addresses, and their bytes' -/
abbrev zk_G : Type := va_G × (Nat → ClassId) × Nat × (Nat → Nat) × (Nat → Nat)
/-- the String constants: whose, which entry, which text -/
def zk_sn : List (String × Nat × String) := [("MealAccounts$Text", 60, "ft"), ("MealAccounts$Text", 62, "dt"), ("MealAccounts$Text", 64, "cd"), ("MealAccounts$Text", 66, "ca"), ("MealAccounts$Text", 68, "cdd"), ("MealAccounts$Text", 70, "f"), ("MealAccounts$Text", 72, "n"), ("MealAccounts$Text", 74, ""),
  ("MealAccounts", 43, "a character is 0 to 255"), ("MealAccounts", 54, "the text is full"), ("MealAccounts", 65, "the text is not a term"), ("MealAccounts", 118, "what is 0 to 11"), ("MealAccounts", 344, "no such child"), ("MealAccounts", 150, "what is 0 to 8"), ("MealAccounts", 349, "no such family"), ("MealAccounts", 170, "what is 0 to 4"), ("MealAccounts", 354, "no such day"), ("MealAccounts", 187, "what is 0 to 3"), ("MealAccounts", 198, "what is 0 to 2"), ("MealAccounts", 206, "what is 0 or 1"),
  ("MealAccounts", 356, "no such child, family or day"), ("MealAccounts", 358, "an argument is out of its range"), ("MealAccounts", 360, "this cannot be done now"), ("MealAccounts", 277, "no state is remembered"), ("MealAccounts", 299, "a price is 1 to 999"), ("MealAccounts", 307, "a script has 1 to 3 commands"), ("MealAccounts", 313, "a script has at most 6 digits a command"), ("MealAccounts", 321, "the turns are 1 to 99"), ("MealAccounts", 332, "a slot is 0 or 1"), ("MealAccounts", 335, "nothing is saved in this slot")]
def zk_sl : List Nat := [2, 2, 2, 2, 3, 1, 1, 0]
def zk_sb : List (List Int32) := [[102, 116], [100, 116], [99, 100], [99, 97], [99, 100, 100], [102], [110], []]
def zk_R (G : zk_G) (U : State) : Prop := ∀ (i : Nat) (x : String × Nat × String), zk_sn[i]? = some x → vk_R x.1 x.2.1 x.2.2 (G.2.2.2.1 i) U
def zk_X (G : zk_G) (U : State) (H : Heap) : Prop :=
  vx_Zq Bundle.tN "UNASSIGNED_STACK" Bundle.steD (fun q => G.2.2.1 ≤ q) U H ∧ vx_Zq Bundle.tN "SUPPRESSED_SENTINEL" Bundle.listD (fun q => G.2.2.1 ≤ q) U H ∧ vk_S 8 zk_sl zk_sb G.2.2.2.1 G.2.2.2.2 (fun q => G.2.2.1 ≤ q) U H ∧ va_Z "java/lang/String" "COMPACT_STRINGS" "Z" (.int 1) (fun q => G.2.2.1 ≤ q) U H ∧ va_Zq "jdk/internal/util/Preconditions" "SIOOBE_FORMATTER" "Ljava/util/function/BiFunction;" (fun q => G.2.2.1 ≤ q) U H
theorem zk_X.moved {G : zk_G} {u U : State} {H : Heap} (hv : u.vm.Alike U.vm) (h : zk_X G u H) : zk_X G U H := ⟨vx_Zq.moved hv h.1, vx_Zq.moved hv h.2.1, vk_S.moved hv h.2.2.1, va_Z.moved hv h.2.2.2.1, va_Zq.moved hv h.2.2.2.2⟩
theorem zk_X.kept {G : zk_G} {U : State} {H H1 : Heap} (h : zk_X G U H) (hq : ∀ a : Nat, a < H.size → ¬ G.2.2.1 ≤ a → H1[a]? = H[a]?) : zk_X G U H1 := ⟨h.1.kept hq, h.2.1.kept hq, h.2.2.1.kept hq, h.2.2.2.1.kept hq, va_Zq.kept h.2.2.2.2 hq⟩
/-- what every method is given beside its world -/
def zk_E (G : zk_G) (U : State) : Prop := va_K G.1 vwCl (zk_TY G.2.1) U ∧ zk_N U ∧ zk_R G U ∧ zk_X G U U.heap ∧ G.2.2.1 ≤ U.heap.size
theorem zk_E.at {G : zk_G} {s U : State} {H : Heap} {A : Nat → Prop} {locs : List Loc} (hE : zk_E G s) (hS : va_S A s.heap H locs) (hA0 : ∀ q, A q → G.2.2.1 ≤ q) (hU : U.heap = H) (hW : s.WarmedH U.vm) : zk_E G U := by
  obtain ⟨h1, h2, h3, h4, h5⟩ := hE
  refine ⟨va_K.moved hW.alike h1, zk_N.warm hW h2, fun i x hx => vk_R.warm hW (h3 i x hx), ?_, ?_⟩
  · rw [hU]
    exact zk_X.moved hW.alike (h4.kept fun a ha hn => hS.2.1 a ha (fun z => hn (hA0 a z)))
  · rw [hU]
    exact Nat.le_trans h5 hS.1
def zk_B (G : zk_G) (wc : va_W) (sz : Nat) : State → Prop := fun U => U.heap.size = sz ∧ zk_E G U ∧ va_P G.1 vwCl wc U.heap ∧ va_D (fun q => G.2.2.1 ≤ q) wc
theorem zk_blind (G : zk_G) (av : List Value) (wc : va_W) (sz : Nat) : FrameBlind (va_Pc av (zk_B G wc sz)) := by
  intro a U g mk h
  obtain ⟨h0, h1, ⟨k1, k2, k3, k4, k5⟩, h3, h4⟩ := h
  exact ⟨h0, h1, ⟨va_K.moved (u := U) (U := U.calling g mk a) (Vm.Alike.refl U.vm) k1, zk_N.same (s := U) (U := U.calling g mk a) rfl k2, fun i x hx => vk_R.same (u := U) (U := U.calling g mk a) rfl (k3 i x hx), zk_X.moved (u := U) (U := U.calling g mk a) (Vm.Alike.refl U.vm) k4, k5⟩, h3, h4⟩
def zk_Q {S : Type} (G : zk_G) (A : Nat → Prop) (w1 : S → va_W) : S → State → Prop := fun u t => va_P G.1 vwCl (w1 u) t.heap ∧ va_D A (w1 u)
/-- the contracts: of int answers (boolean, char), without an answer, of long answers -/
def zk_I (l : Launch) (y : MethodName) (ws : List Cond) (rm : Room) (G : zk_G) (av : List Value) (wc : va_W) {S : Type} (post : Int32 → S → Prop) (w1 : S → va_W) : Prop :=
  ∀ sz : Nat, Met l y ws rm (va_Pc av (zk_B G wc sz)) (va_Qi post (zk_Q G (va_A wc sz) w1) (va_A wc sz)) rm.cells rm.slots (va_A wc sz)
def zk_V (l : Launch) (y : MethodName) (ws : List Cond) (rm : Room) (G : zk_G) (av : List Value) (wc : va_W) {S : Type} (post : S → Prop) (w1 : S → va_W) : Prop :=
  ∀ sz : Nat, Met l y ws rm (va_Pc av (zk_B G wc sz)) (va_Qv post (zk_Q G (va_A wc sz) w1) (va_A wc sz)) rm.cells rm.slots (va_A wc sz)
def zk_L (l : Launch) (y : MethodName) (ws : List Cond) (rm : Room) (G : zk_G) (av : List Value) (wc : va_W) {S : Type} (post : Int64 → S → Prop) (w1 : S → va_W) : Prop :=
  ∀ sz : Nat, Met l y ws rm (va_Pc av (zk_B G wc sz)) (va_Ql post (zk_Q G (va_A wc sz) w1) (va_A wc sz)) rm.cells rm.slots (va_A wc sz)
/-- what a body is given -/
def zk_F (p : Program) (s : State) (m : MethodId) (meth : Method) (c : Code) (y : MethodName) (ret : Option FieldType) (cc : ByteArray) (maxL : Nat) (av : List Value) (args : Array Value) (ws : List Cond) (R : String) (G : zk_G) (wc : va_W) (A : Nat → Prop) (ls : Array Slot) : Prop :=
  p.tables.exec = Jvm.exec ∧ c.code = cc ∧ c.maxLocals = maxL ∧ meth.sig.returnType = ret ∧ (∀ w ∈ ws, w.before args s = true) ∧ s.vm.findClass R = some m.cls ∧ meth.locks = false ∧ meth.name = y.name ∧ zk_E G s ∧ va_P G.1 vwCl wc s.heap ∧ va_D A wc ∧ va_S A s.heap s.heap [] ∧ (∀ q : Nat, s.heap.size ≤ q → A q) ∧ (∀ q : Nat, A q → G.2.2.1 ≤ q) ∧ lv_has ls maxL (lv_args 0 av)
theorem zk_F.of {p : Program} {l : Launch} {e : Env} {s : State} {m : MethodId} {below : List Frame} {meth : Method} {c : Code} {s₁ : State} {y : MethodName} {ret : Option FieldType} {cc : ByteArray} {maxL : Nat} {av : List Value} {ws : List Cond} {rm : Room} {G : zk_G} {wc : va_W}
    (B : BodyLoose p l y (headSpec ws rm) cc maxL ret e s m av.toArray below meth c s₁) (hml : c.maxLocals = maxL) (hE : zk_E G s) (hP : va_P G.1 vwCl wc s.heap) (hD : va_D (fun q => G.2.2.1 ≤ q) wc) (hsl : (lg_sl av).length ≤ maxL) :
    zk_F p s m meth c y ret cc maxL av av.toArray ws y.cls G wc (va_A wc s.heap.size) ((lg_sl av ++ List.replicate (maxL - (lg_sl av).length) Slot.unset).toArray) := by
  refine ⟨B.exec, B.bytes, hml, B.returns, atoms_spec (ws := ws) B.pre, findClass_of_methodNamed B.named, B.notSynchronized, (name_of_methodNamed B.named B.method).1, hE, hP, hD.self, va_S.rf, fun q h => Or.inr h, ?_, lv_entry av hsl⟩
  intro q h
  rcases h with ⟨k, e, hk⟩ | h
  · exact hD.2 k (q, e) hk
  · exact Nat.le_trans hE.2.2.2.2 h
theorem zk_bodyI {l : Launch} {y : MethodName} {ws ws' : List Cond} {rm : Room} {G : zk_G} {av : List Value} {wc : va_W} {S : Type} {post : Int32 → S → Prop} {w1 : S → va_W} {cc : ByteArray} {maxL : Nat} {ret : Option FieldType} (hy : plainName y.cls = true) (hw : ws = Cond.code y cc maxL ret :: ws') (hsl : (lg_sl av).length ≤ maxL)
    (body : ∀ (p : Program) (e : Env) (s : State) (m : MethodId) (args : Array Value) (below : List Frame) (meth : Method) (c : Code) (A : Nat → Prop) (ls : Array Slot) (Q : State → Prop), zk_F p s m meth c y ret cc maxL av args ws y.cls G wc A ls → Q = MQ below (va_Qi post (zk_Q G A w1) A) args s rm.cells rm.slots A → W p l e rm s m args below meth c s.heap [] 0 0 Q (F0 m 0 ls [])) : zk_I l y ws rm G av wc post w1 := by
  intro sz
  refine Met.ofW (cc := cc) (maxL := maxL) (ret := ret) hy hw ?_
  intro p e s m args below meth c s₁ B hml hv
  obtain ⟨rfl, rfl, hE, hP, hD⟩ := hv
  rw [lg_entry_eq]
  exact body p e s m _ below meth c _ _ _ (zk_F.of B hml hE hP hD hsl) rfl
theorem zk_bodyV {l : Launch} {y : MethodName} {ws ws' : List Cond} {rm : Room} {G : zk_G} {av : List Value} {wc : va_W} {S : Type} {post : S → Prop} {w1 : S → va_W} {cc : ByteArray} {maxL : Nat} {ret : Option FieldType} (hy : plainName y.cls = true) (hw : ws = Cond.code y cc maxL ret :: ws') (hsl : (lg_sl av).length ≤ maxL)
    (body : ∀ (p : Program) (e : Env) (s : State) (m : MethodId) (args : Array Value) (below : List Frame) (meth : Method) (c : Code) (A : Nat → Prop) (ls : Array Slot) (Q : State → Prop), zk_F p s m meth c y ret cc maxL av args ws y.cls G wc A ls → Q = MQ below (va_Qv post (zk_Q G A w1) A) args s rm.cells rm.slots A → W p l e rm s m args below meth c s.heap [] 0 0 Q (F0 m 0 ls [])) : zk_V l y ws rm G av wc post w1 := by
  intro sz
  refine Met.ofW (cc := cc) (maxL := maxL) (ret := ret) hy hw ?_
  intro p e s m args below meth c s₁ B hml hv
  obtain ⟨rfl, rfl, hE, hP, hD⟩ := hv
  rw [lg_entry_eq]
  exact body p e s m _ below meth c _ _ _ (zk_F.of B hml hE hP hD hsl) rfl
theorem zk_bodyL {l : Launch} {y : MethodName} {ws ws' : List Cond} {rm : Room} {G : zk_G} {av : List Value} {wc : va_W} {S : Type} {post : Int64 → S → Prop} {w1 : S → va_W} {cc : ByteArray} {maxL : Nat} {ret : Option FieldType} (hy : plainName y.cls = true) (hw : ws = Cond.code y cc maxL ret :: ws') (hsl : (lg_sl av).length ≤ maxL)
    (body : ∀ (p : Program) (e : Env) (s : State) (m : MethodId) (args : Array Value) (below : List Frame) (meth : Method) (c : Code) (A : Nat → Prop) (ls : Array Slot) (Q : State → Prop), zk_F p s m meth c y ret cc maxL av args ws y.cls G wc A ls → Q = MQ below (va_Ql post (zk_Q G A w1) A) args s rm.cells rm.slots A → W p l e rm s m args below meth c s.heap [] 0 0 Q (F0 m 0 ls [])) : zk_L l y ws rm G av wc post w1 := by
  intro sz
  refine Met.ofW (cc := cc) (maxL := maxL) (ret := ret) hy hw ?_
  intro p e s m args below meth c s₁ B hml hv
  obtain ⟨rfl, rfl, hE, hP, hD⟩ := hv
  rw [lg_entry_eq]
  exact body p e s m _ below meth c _ _ _ (zk_F.of B hml hE hP hD hsl) rfl
section ZK
variable {p : Program} {l : Launch} {e : Env} {R : Room} {s : State} {m : MethodId} {args : Array Value} {below : List Frame} {meth : Method} {c : Code} {H : Heap} {locs : List Loc} {cells slots : Nat} {Q : State → Prop}
variable {cc : ByteArray} {pc : Nat} {ls : Array Slot} {rest st : List Value} {G : zk_G} {A : Nat → Prop} {ws wc wr : va_W}
/-- the ends -/
theorem zk_reti {S : Type} {post : Int32 → S → Prop} {w1 : S → va_W} {mc ms : Nat} {r : Int32} (u : S) (hQ : Q = MQ below (va_Qi post (zk_Q G A w1) A) args s mc ms A) (hx : p.tables.exec = Jvm.exec) (hb : c.code = cc) (hr : meth.sig.returnType = some .int) (hlocks : meth.locks = false) (hS : va_S A s.heap H locs) (hP : va_P G.1 vwCl (w1 u) H) (hD : va_D A (w1 u)) (hc : cells ≤ mc) (hs : slots ≤ ms) (hdg : decode cc pc = .ok (.ireturn, 1)) (hp : post r u) :
    W p l e R s m args below meth c H locs cells slots Q (F0 m pc ls [.int r]) := by
  rw [hQ]
  refine W.widen hc hs ?_
  exact W.iret hx hb hr (fun t ht _ => ⟨⟨r, u, rfl, hp, by rw [ht]; exact hP, hD⟩, hS.F ht⟩) hS.2.2 hdg hlocks
theorem zk_retz {S : Type} {post : Int32 → S → Prop} {w1 : S → va_W} {mc ms : Nat} {r : Int32} {ty : FieldType} (u : S) (hQ : Q = MQ below (va_Qi post (zk_Q G A w1) A) args s mc ms A) (hx : p.tables.exec = Jvm.exec) (hb : c.code = cc) (hr : meth.sig.returnType = some ty) (hlocks : meth.locks = false) (hS : va_S A s.heap H locs) (hP : va_P G.1 vwCl (w1 u) H) (hD : va_D A (w1 u)) (hc : cells ≤ mc) (hs : slots ≤ ms) (hdg : decode cc pc = .ok (.ireturn, 1)) (hn : narrow ty (.int r) = .int r) (hp : post r u) :
    W p l e R s m args below meth c H locs cells slots Q (F0 m pc ls [.int r]) := by
  rw [hQ]
  refine W.widen hc hs ?_
  exact W.zret hx hb hr hn (fun t ht _ => ⟨⟨r, u, rfl, hp, by rw [ht]; exact hP, hD⟩, hS.F ht⟩) hS.2.2 hdg hlocks
theorem zk_retv {S : Type} {post : S → Prop} {w1 : S → va_W} {mc ms : Nat} (u : S) (hQ : Q = MQ below (va_Qv post (zk_Q G A w1) A) args s mc ms A) (hx : p.tables.exec = Jvm.exec) (hb : c.code = cc) (hr : meth.sig.returnType = none) (hlocks : meth.locks = false) (hS : va_S A s.heap H locs) (hP : va_P G.1 vwCl (w1 u) H) (hD : va_D A (w1 u)) (hc : cells ≤ mc) (hs : slots ≤ ms) (hdg : decode cc pc = .ok (.return_, 1)) (hp : post u) :
    W p l e R s m args below meth c H locs cells slots Q (F0 m pc ls []) := by
  rw [hQ]
  refine W.widen hc hs ?_
  exact W.vret hx hb hr (fun t ht _ => ⟨⟨u, rfl, hp, by rw [ht]; exact hP, hD⟩, hS.F ht⟩) hS.2.2 hdg hlocks
theorem zk_retl {S : Type} {post : Int64 → S → Prop} {w1 : S → va_W} {mc ms : Nat} {r : Int64} (u : S) (hQ : Q = MQ below (va_Ql post (zk_Q G A w1) A) args s mc ms A) (hx : p.tables.exec = Jvm.exec) (hb : c.code = cc) (hr : meth.sig.returnType = some .long) (hlocks : meth.locks = false) (hS : va_S A s.heap H locs) (hP : va_P G.1 vwCl (w1 u) H) (hD : va_D A (w1 u)) (hc : cells ≤ mc) (hs : slots ≤ ms) (hdg : decode cc pc = .ok (.lreturn, 1)) (hp : post r u) :
    W p l e R s m args below meth c H locs cells slots Q (F0 m pc ls [.long r]) := by
  rw [hQ]
  refine W.widen hc hs ?_
  exact W.lret hx hb hr (fun t ht _ => ⟨⟨r, u, rfl, hp, by rw [ht]; exact hP, hD⟩, hS.F ht⟩) hS.2.2 hdg hlocks
/-- the starts of calls -/
theorem zk_preV {C : String} {b : Nat} {As : List Value} (hE : zk_E G s) (hA0 : ∀ q : Nat, A q → G.2.2.1 ≤ q) (hS : va_S A s.heap H locs) (hP : va_P G.1 vwCl wc H) (hD : va_D A wc) (hrec : ∃ cell : Cell, H[b]? = some cell ∧ cell.vm.isStatics = false ∧ s.vm.findClass C = some cell.cls) : PreV s H C b (va_Pc (.ref b :: As) (zk_B G wc H.size)) As :=
  ⟨zk_blind _ _ _ _, hrec, fun U hU hW => ⟨rfl, by rw [hU], hE.at hS hA0 hU hW, by rw [hU]; exact hP, hD.weaken fun _ q _ h => hA0 q.1 h⟩⟩
theorem zk_preS {As : List Value} (hE : zk_E G s) (hA0 : ∀ q : Nat, A q → G.2.2.1 ≤ q) (hS : va_S A s.heap H locs) (hP : va_P G.1 vwCl wc H) (hD : va_D A wc) : PreS s H (va_Pc As (zk_B G wc H.size)) As :=
  ⟨zk_blind _ _ _ _, fun U hU hW => ⟨rfl, by rw [hU], hE.at hS hA0 hU hW, by rw [hU]; exact hP, hD.weaken fun _ q _ h => hA0 q.1 h⟩⟩
theorem zk_free (hS : va_S A s.heap H locs) (hA : ∀ q : Nat, s.heap.size ≤ q → A q) (hD : va_D A wc) : ∀ q, va_A wc H.size q → A q := by
  intro q h
  rcases h with ⟨k, e, h⟩ | h
  · exact hD.2 k (q, e) h
  · exact hA q (Nat.le_trans hS.1 h)
/-- the calls: the callee's cells ahead, the rest behind -/
theorem zk_callI {S : Type} {post : Int32 → S → Prop} {w1 : S → va_W} {mc ms : Nat} {a : Array Value} (hr : va_Run p l e R s m args below meth c H locs cells slots mc ms (F0 m pc ls st) rest (va_Qi post (zk_Q G (va_A wc H.size) w1) (va_A wc H.size) a) (va_A wc H.size))
    (hP : va_P G.1 vwCl (wc ++ wr) H) (hD : va_D A (wc ++ wr)) (hS : va_S A s.heap H locs) (hA : ∀ q : Nat, s.heap.size ≤ q → A q)
    (kk : ∀ (r : Int32) (u : S) (H1 : Heap) (locs1 : List Loc), post r u → va_P G.1 vwCl (w1 u ++ wr) H1 → va_D A (w1 u ++ wr) → va_S A s.heap H1 locs1 → W p l e R s m args below meth c H1 locs1 (cells + mc) (slots + ms) Q (F0 m (pc + 3) ls (.int r :: rest))) : W p l e R s m args below meth c H locs cells slots Q (F0 m pc ls st) := by
  have hF := zk_free hS hA (zk_Dapp hD).1
  refine va_calli hr hS (fun q _ h => hF q h) hF (fun r u t H1 locs1 ht hvm hw hB hz1 hk1 hS1 => ?_)
  obtain ⟨hP1, hD1⟩ := hB
  rw [ht] at hP1
  obtain ⟨j1, j2⟩ := zk_join hP hD hk1 hF hP1 hD1
  exact kk r u H1 locs1 hw j1 j2 hS1
theorem zk_callV {S : Type} {post : S → Prop} {w1 : S → va_W} {mc ms : Nat} {a : Array Value} (hr : va_Run p l e R s m args below meth c H locs cells slots mc ms (F0 m pc ls st) rest (va_Qv post (zk_Q G (va_A wc H.size) w1) (va_A wc H.size) a) (va_A wc H.size))
    (hP : va_P G.1 vwCl (wc ++ wr) H) (hD : va_D A (wc ++ wr)) (hS : va_S A s.heap H locs) (hA : ∀ q : Nat, s.heap.size ≤ q → A q)
    (kk : ∀ (u : S) (H1 : Heap) (locs1 : List Loc), post u → va_P G.1 vwCl (w1 u ++ wr) H1 → va_D A (w1 u ++ wr) → va_S A s.heap H1 locs1 → W p l e R s m args below meth c H1 locs1 (cells + mc) (slots + ms) Q (F0 m (pc + 3) ls rest)) : W p l e R s m args below meth c H locs cells slots Q (F0 m pc ls st) := by
  have hF := zk_free hS hA (zk_Dapp hD).1
  refine va_callv hr hS (fun q _ h => hF q h) hF (fun u t H1 locs1 ht hvm hw hB hz1 hk1 hS1 => ?_)
  obtain ⟨hP1, hD1⟩ := hB
  rw [ht] at hP1
  obtain ⟨j1, j2⟩ := zk_join hP hD hk1 hF hP1 hD1
  exact kk u H1 locs1 hw j1 j2 hS1
theorem zk_callL {S : Type} {post : Int64 → S → Prop} {w1 : S → va_W} {mc ms : Nat} {a : Array Value} (hr : va_Run p l e R s m args below meth c H locs cells slots mc ms (F0 m pc ls st) rest (va_Ql post (zk_Q G (va_A wc H.size) w1) (va_A wc H.size) a) (va_A wc H.size))
    (hP : va_P G.1 vwCl (wc ++ wr) H) (hD : va_D A (wc ++ wr)) (hS : va_S A s.heap H locs) (hA : ∀ q : Nat, s.heap.size ≤ q → A q)
    (kk : ∀ (r : Int64) (u : S) (H1 : Heap) (locs1 : List Loc), post r u → va_P G.1 vwCl (w1 u ++ wr) H1 → va_D A (w1 u ++ wr) → va_S A s.heap H1 locs1 → W p l e R s m args below meth c H1 locs1 (cells + mc) (slots + ms) Q (F0 m (pc + 3) ls (.long r :: rest))) : W p l e R s m args below meth c H locs cells slots Q (F0 m pc ls st) := by
  have hF := zk_free hS hA (zk_Dapp hD).1
  refine va_calll hr hS (fun q _ h => hF q h) hF (fun r u t H1 locs1 ht hvm hw hB hz1 hk1 hS1 => ?_)
  obtain ⟨hP1, hD1⟩ := hB
  rw [ht] at hP1
  obtain ⟨j1, j2⟩ := zk_join hP hD hk1 hF hP1 hD1
  exact kk r u H1 locs1 hw j1 j2 hS1
end ZK
-- the numbers: literals and counters as nI
theorem zk_ofInt (k : Nat) : Int32.ofInt (k : Int) = nI k := by
  apply Int32.toBitVec_inj.mp
  simp [nI, Int32.ofInt, Int32.ofNat]
theorem zk_inc (a k : Nat) : nI a + Int32.ofInt (k : Int) = nI (a + k) := by rw [zk_ofInt, nI_add]
theorem zk_inc1 (a : Nat) : nI a + Int32.ofInt 1 = nI (a + 1) := zk_inc a 1
theorem zk_m1 : Int32.ofInt (-1) = -1 := by decide
theorem zk_0 : (0 : Int32) = nI 0 := rfl
