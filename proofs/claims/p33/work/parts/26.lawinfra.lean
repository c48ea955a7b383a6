/-! The law's methods that catch what the class throws. -/
abbrev nIOOB : String := "java/lang/IndexOutOfBoundsException"
abbrev nIAE : String := "java/lang/IllegalArgumentException"
abbrev nISE : String := "java/lang/IllegalStateException"
/-- what isn't castable to what; what is -/
def zk_NC (U : State) : Prop := (va_Nc nIAE nISE U ∧ va_Nc nIAE nIOOB U) ∧ (va_Nc nISE nIAE U ∧ va_Nc nISE nIOOB U) ∧ (va_Nc nIOOB nIAE U ∧ va_Nc nIOOB nISE U)
theorem zk_NC.moved {u U : State} (hv : u.vm.Alike U.vm) (h : zk_NC u) : zk_NC U :=
  ⟨⟨h.1.1.moved hv, h.1.2.moved hv⟩, ⟨h.2.1.1.moved hv, h.2.1.2.moved hv⟩, ⟨h.2.2.1.moved hv, h.2.2.2.moved hv⟩⟩
def zk_BH (G : zk_G) (wc : va_W) (sz : Nat) : State → Prop := fun U => zk_B G wc sz U ∧ zk_NC U
theorem zk_blindH (G : zk_G) (av : List Value) (wc : va_W) (sz : Nat) : FrameBlind (va_Pc av (zk_BH G wc sz)) := by
  intro a U g mk h
  obtain ⟨h0, h1, h2⟩ := h
  have hb := zk_blind G av wc sz a U g mk ⟨h0, h1⟩
  exact ⟨h0, hb.2, zk_NC.moved (u := U) (U := U.calling g mk a) (Vm.Alike.refl U.vm) h2⟩
def zk_IH (l : Launch) (y : MethodName) (ws : List Cond) (rm : Room) (G : zk_G) (av : List Value) (wc : va_W) {S : Type} (post : Int32 → S → Prop) (w1 : S → va_W) : Prop :=
  ∀ sz : Nat, Met l y ws rm (va_Pc av (zk_BH G wc sz)) (va_Qi post (zk_Q G (va_A wc sz) w1) (va_A wc sz)) rm.cells rm.slots (va_A wc sz)
theorem zk_metH {l : Launch} {y : MethodName} {ws : List Cond} {rm : Room} {Pc : Array Value → State → Prop} {Qc : Array Value → State → Outcome → State → Prop} {mc ms : Nat} {free : Addr → Prop} (h : vx_Met l y ws rm Pc Qc (fun _ _ _ => False) mc ms free) : Met l y ws rm Pc Qc mc ms free := by
  intro p e ha hc hk s m args below hf happ hP hK
  obtain ⟨n, o, h1, h2, h3, h4⟩ := h p e ha hc hk s m args below hf happ hP hK
  refine ⟨n, o, h1, h2, h3, ?_⟩
  rcases h4 with h | ⟨q, _, E, ce, L, hx, _⟩
  · exact h
  · exact hx.elim
theorem zk_bodyIH {l : Launch} {y : MethodName} {ws ws' : List Cond} {rm : Room} {G : zk_G} {av : List Value} {wc : va_W} {S : Type} {post : Int32 → S → Prop} {w1 : S → va_W} {cc : ByteArray} {maxL : Nat} {ret : Option FieldType} {hh : List (Nat × Nat × Nat × Nat)} (hy : plainName y.cls = true) (hw : ws = Cond.codeWith y cc maxL ret hh :: ws') (hsl : (lg_sl av).length ≤ maxL)
    (body : ∀ (p : Program) (e : Env) (s : State) (m : MethodId) (args : Array Value) (below : List Frame) (meth : Method) (c : Code) (A : Nat → Prop) (ls : Array Slot) (Q : State → Prop), zk_F p s m meth c y ret cc maxL av args ws y.cls G wc A ls → zk_NC s → c.exceptionTable.toList = tableOf hh → Q = vx_MQ below (va_Qi post (zk_Q G A w1) A) (fun _ _ _ => False) args s rm.cells rm.slots A → W p l e rm s m args below meth c s.heap [] 0 0 Q (F0 m 0 ls [])) : zk_IH l y ws rm G av wc post w1 := by
  intro sz
  refine zk_metH (vx_ofWH (cc := cc) (maxL := maxL) (ret := ret) (hh := hh) hy hw ?_)
  intro p e s m args below meth c s₁ B hml hv
  obtain ⟨rfl, ⟨rfl, hE, hP, hD⟩, hN⟩ := hv
  rw [lg_entry_eq]
  have hts := atoms_spec (ws := ws) B.pre
  exact body p e s m _ below meth c _ _ _ (zk_F.of B hml hE hP hD hsl) hN (vx_table (x := y) B (hts _ (by rw [hw]; exact List.mem_cons_self))) rfl
section ZL
variable {p : Program} {l : Launch} {e : Env} {R : Room} {s : State} {m : MethodId} {args : Array Value} {below : List Frame} {meth : Method} {c : Code} {H : Heap} {locs : List Loc} {cells slots : Nat} {Q : State → Prop}
variable {cc : ByteArray} {pc : Nat} {ls : Array Slot} {rest st : List Value} {A : Nat → Prop} {wc wr : va_W} {G : zk_G}
/-- a call of a method with an int that may throw -/
theorem zk_callXIc {S : Type} {post : Int32 → S → Prop} {w1 : S → va_W} {px : String → Prop} {mc ms : Nat} {a : Array Value} (hr : vx_Run p l e R s m args below meth c H locs cells slots mc ms (F0 m pc ls st) rest (va_Qi post (zk_Q G (va_A wc H.size) w1) (va_A wc H.size) a) (zk_XC G wc px (va_A wc H.size)) (va_A wc H.size))
    (hP : va_P G.1 vwCl (wc ++ wr) H) (hD : va_D A (wc ++ wr)) (hS : va_S A s.heap H locs) (hA : ∀ q : Nat, s.heap.size ≤ q → A q)
    (kx : ∀ (E : String) (ce : Cell) (q9 : Addr) (H1 : Heap) (locs1 : List Loc), px E → va_P G.1 vwCl (wc ++ wr) H1 → va_D A (wc ++ wr) → va_S A s.heap H1 locs1 → H1[q9]? = some ce → ce.vm = .none → s.vm.findClass E = some ce.cls → vx_W p l e R s m args below meth c H1 locs1 (cells + mc) (slots + ms) Q (F0 m pc ls rest) q9)
    (kk : ∀ (r : Int32) (u : S) (H1 : Heap) (locs1 : List Loc), post r u → va_P G.1 vwCl (w1 u ++ wr) H1 → va_D A (w1 u ++ wr) → va_S A s.heap H1 locs1 → W p l e R s m args below meth c H1 locs1 (cells + mc) (slots + ms) Q (F0 m (pc + 3) ls (.int r :: rest))) : W p l e R s m args below meth c H locs cells slots Q (F0 m pc ls st) := by
  have hF := zk_free hS hA (zk_Dapp hD).1
  refine vx_calli hr hS (fun q _ h => hF q h) hF (fun q _ h => hF q h) (fun E ce q9 u t H1 locs1 ht hvm _ hB hz1 hk1 hS1 hce hv hcl => ?_) (fun r u t H1 locs1 ht hvm hw2 hB hz1 hk1 hS1 => ?_)
  · obtain ⟨hp, hP1, hD1⟩ := hB
    rw [ht] at hP1
    obtain ⟨j1, j2⟩ := zk_join hP hD hk1 hF hP1 hD1
    exact kx E ce q9 H1 locs1 hp j1 j2 hS1 hce hv hcl
  · obtain ⟨hP1, hD1⟩ := hB
    rw [ht] at hP1
    obtain ⟨j1, j2⟩ := zk_join hP hD hk1 hF hP1 hD1
    exact kk r u H1 locs1 hw2 j1 j2 hS1
theorem zk_callXJc {S V : Type} {post : Int32 → S → Prop} {w1 : S → va_W} {wx : V → va_W} {px : String → V → Prop} {mc ms : Nat} {a : Array Value} (hr : vx_Run p l e R s m args below meth c H locs cells slots mc ms (F0 m pc ls st) rest (va_Qi post (zk_Q G (va_A wc H.size) w1) (va_A wc H.size) a) (zk_XF G wx px (va_A wc H.size)) (va_A wc H.size))
    (hP : va_P G.1 vwCl (wc ++ wr) H) (hD : va_D A (wc ++ wr)) (hS : va_S A s.heap H locs) (hA : ∀ q : Nat, s.heap.size ≤ q → A q)
    (kx : ∀ (E : String) (ce : Cell) (q9 : Addr) (v : V) (H1 : Heap) (locs1 : List Loc), px E v → va_P G.1 vwCl (wx v ++ wr) H1 → va_D A (wx v ++ wr) → va_S A s.heap H1 locs1 → H1[q9]? = some ce → ce.vm = .none → s.vm.findClass E = some ce.cls → vx_W p l e R s m args below meth c H1 locs1 (cells + mc) (slots + ms) Q (F0 m pc ls rest) q9)
    (kk : ∀ (r : Int32) (u : S) (H1 : Heap) (locs1 : List Loc), post r u → va_P G.1 vwCl (w1 u ++ wr) H1 → va_D A (w1 u ++ wr) → va_S A s.heap H1 locs1 → W p l e R s m args below meth c H1 locs1 (cells + mc) (slots + ms) Q (F0 m (pc + 3) ls (.int r :: rest))) : W p l e R s m args below meth c H locs cells slots Q (F0 m pc ls st) := by
  have hF := zk_free hS hA (zk_Dapp hD).1
  refine vx_calli hr hS (fun q _ h => hF q h) hF (fun q _ h => hF q h) (fun E ce q9 u t H1 locs1 ht hvm _ hB hz1 hk1 hS1 hce hv hcl => ?_) (fun r u t H1 locs1 ht hvm hw2 hB hz1 hk1 hS1 => ?_)
  · obtain ⟨v, hp, hP1, hD1⟩ := hB
    rw [ht] at hP1
    obtain ⟨j1, j2⟩ := zk_join hP hD hk1 hF hP1 hD1
    exact kx E ce q9 v H1 locs1 hp j1 j2 hS1 hce hv hcl
  · obtain ⟨hP1, hD1⟩ := hB
    rw [ht] at hP1
    obtain ⟨j1, j2⟩ := zk_join hP hD hk1 hF hP1 hD1
    exact kk r u H1 locs1 hw2 j1 j2 hS1
end ZL
/-- a caught throw's code -/
def zcode (E : String) (a b d r : Int32) : Prop := (E = nIOOB → r = a) ∧ (E = nIAE → r = b) ∧ (E = nISE → r = d)
theorem zc_1 (a b d : Int32) : zcode nIOOB a b d a := ⟨fun _ => rfl, fun h => absurd h (by decide), fun h => absurd h (by decide)⟩
theorem zc_2 (a b d : Int32) : zcode nIAE a b d b := ⟨fun h => absurd h (by decide), fun _ => rfl, fun h => absurd h (by decide)⟩
theorem zc_3 (a b d : Int32) : zcode nISE a b d d := ⟨fun h => absurd h (by decide), fun h => absurd h (by decide), fun _ => rfl⟩
