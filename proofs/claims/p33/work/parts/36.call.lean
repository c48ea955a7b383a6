/-! The law's calls by their numbers. -/
theorem zk_bodyIN {l : Launch} {y : MethodName} {ws ws' : List Cond} {rm : Room} {G : zk_G} {av : List Value} {wc : va_W} {S : Type} {post : Int32 → S → Prop} {w1 : S → va_W} {cc : ByteArray} {maxL : Nat} {ret : Option FieldType} (hy : plainName y.cls = true) (hw : ws = Cond.code y cc maxL ret :: ws') (hsl : (lg_sl av).length ≤ maxL)
    (body : ∀ (p : Program) (e : Env) (s : State) (m : MethodId) (args : Array Value) (below : List Frame) (meth : Method) (c : Code) (A : Nat → Prop) (ls : Array Slot) (Q : State → Prop), zk_F p s m meth c y ret cc maxL av args ws y.cls G wc A ls → zk_NC s → Q = MQ below (va_Qi post (zk_Q G A w1) A) args s rm.cells rm.slots A → W p l e rm s m args below meth c s.heap [] 0 0 Q (F0 m 0 ls [])) : zk_IH l y ws rm G av wc post w1 := by
  intro sz
  refine Met.ofW (cc := cc) (maxL := maxL) (ret := ret) hy hw ?_
  intro p e s m args below meth c s₁ B hml hv
  obtain ⟨rfl, ⟨rfl, hE, hP, hD⟩, hN⟩ := hv
  rw [lg_entry_eq]
  exact body p e s m _ below meth c _ _ _ (zk_F.of B hml hE hP hD hsl) hN rfl
theorem zk_preSH {s : State} {G : zk_G} {A : Nat → Prop} {wc : va_W} {H : Heap} {locs : List Loc} {As : List Value} (hN : zk_NC s) (hE : zk_E G s) (hA0 : ∀ q : Nat, A q → G.2.2.1 ≤ q) (hS : va_S A s.heap H locs) (hP : va_P G.1 vwCl wc H) (hD : va_D A wc) : PreS s H (va_Pc As (zk_BH G wc H.size)) As :=
  ⟨zk_blindH _ _ _ _, fun U hU hW => ⟨rfl, ⟨by rw [hU], hE.at hS hA0 hU hW, by rw [hU]; exact hP, hD.weaken fun _ q _ h => hA0 q.1 h⟩, zk_NC.moved hW.alike hN⟩⟩
theorem zk_preVH {s : State} {G : zk_G} {A : Nat → Prop} {wc : va_W} {H : Heap} {locs : List Loc} {C : String} {b : Nat} {As : List Value} (hN : zk_NC s) (hE : zk_E G s) (hA0 : ∀ q : Nat, A q → G.2.2.1 ≤ q) (hS : va_S A s.heap H locs) (hP : va_P G.1 vwCl wc H) (hD : va_D A wc) (hrec : ∃ cell : Cell, H[b]? = some cell ∧ cell.vm.isStatics = false ∧ s.vm.findClass C = some cell.cls) : PreV s H C b (va_Pc (.ref b :: As) (zk_BH G wc H.size)) As :=
  ⟨zk_blindH _ _ _ _, hrec, fun U hU hW => ⟨rfl, ⟨by rw [hU], hE.at hS hA0 hU hW, by rw [hU]; exact hP, hD.weaken fun _ q _ h => hA0 q.1 h⟩, zk_NC.moved hW.alike hN⟩⟩
section ZC
variable {p : Program} {l : Launch} {e : Env} {R : Room} {s : State} {m : MethodId} {args : Array Value} {below : List Frame} {meth : Method} {c : Code} {H : Heap} {locs : List Loc} {cells slots : Nat} {Q : State → Prop}
variable {pc : Nat} {ls : Array Slot} {rest st : List Value} {A : Nat → Prop} {wc wr : va_W} {G : zk_G}
/-- a call whose world is all there is; the first of two; the second of two -/
theorem zk_call1 {S : Type} {post : Int32 → S → Prop} {w1 : S → va_W} {mc ms : Nat} {a : Array Value} (hr : va_Run p l e R s m args below meth c H locs cells slots mc ms (F0 m pc ls st) rest (va_Qi post (zk_Q G (va_A wc H.size) w1) (va_A wc H.size) a) (va_A wc H.size))
    (hP : va_P G.1 vwCl wc H) (hD : va_D A wc) (hS : va_S A s.heap H locs) (hA : ∀ q : Nat, s.heap.size ≤ q → A q)
    (kk : ∀ (r : Int32) (u : S) (H1 : Heap) (locs1 : List Loc), post r u → va_P G.1 vwCl (w1 u) H1 → va_D A (w1 u) → va_S A s.heap H1 locs1 → W p l e R s m args below meth c H1 locs1 (cells + mc) (slots + ms) Q (F0 m (pc + 3) ls (.int r :: rest))) : W p l e R s m args below meth c H locs cells slots Q (F0 m pc ls st) := by
  refine zk_callI (wr := []) hr (by rw [List.append_nil]; exact hP) (by rw [List.append_nil]; exact hD) hS hA (fun r u H1 locs1 h1 hP1 hD1 hS1 => ?_)
  rw [List.append_nil] at hP1 hD1
  exact kk r u H1 locs1 h1 hP1 hD1 hS1
theorem zk_callB {S : Type} {post : Int32 → S → Prop} {w1 : S → va_W} {mc ms : Nat} {a : Array Value} (hr : va_Run p l e R s m args below meth c H locs cells slots mc ms (F0 m pc ls st) rest (va_Qi post (zk_Q G (va_A wc H.size) w1) (va_A wc H.size) a) (va_A wc H.size))
    (hP : va_P G.1 vwCl (wr ++ wc) H) (hD : va_D A (wr ++ wc)) (hS : va_S A s.heap H locs) (hA : ∀ q : Nat, s.heap.size ≤ q → A q)
    (kk : ∀ (r : Int32) (u : S) (H1 : Heap) (locs1 : List Loc), post r u → va_P G.1 vwCl (wr ++ w1 u) H1 → va_D A (wr ++ w1 u) → va_S A s.heap H1 locs1 → W p l e R s m args below meth c H1 locs1 (cells + mc) (slots + ms) Q (F0 m (pc + 3) ls (.int r :: rest))) : W p l e R s m args below meth c H locs cells slots Q (F0 m pc ls st) :=
  zk_callI (wr := wr) hr (zk_Pperm hP List.perm_append_comm) (zk_Dperm hD List.perm_append_comm) hS hA (fun r u H1 locs1 h1 hP1 hD1 hS1 => kk r u H1 locs1 h1 (zk_Pperm hP1 List.perm_append_comm) (zk_Dperm hD1 List.perm_append_comm) hS1)
end ZC
abbrev rmL_call : Room := { frames := 10, cells := 4, slots := 24, locals := 222 }
set_option maxHeartbeats 2000000 in
set_option maxRecDepth 100000 in
theorem c_C_0 (l : Launch) (G : zk_G) (hst : l.stackTraces = false) (a : zA) (σ : zSt) (hok : yOk σ) (x y z : Int32) : zk_IH (S := zSt) l yL_call vL_call rmL_call G [.ref a.1, .int (nI 0), .int x, .int y, .int z] (zw G a σ) (fun r σ' => (r = (fAppend x (core σ)).1 ∧ core σ' = (fAppend x (core σ)).2) ∧ zTx σ') (zw G a) := by
  refine zk_bodyIN (cc := cL_call) (maxL := 5) (ret := (some .int)) (by decide) rfl (Nat.le_of_ble_eq_true rfl) ?_
  intro p E0 s m args below meth cd A ls Q hF hN hQ
  obtain ⟨hx, hb, hml, hr, hts, hown, hlocks, -, hE, hP, hD, hS, hA, hA0, hl⟩ := hF
  have hl : lv_has ls 5 [(0, .ref a.1), (1, .int (nI 0)), (2, .int x), (3, .int y), (4, .int z)] := hl
  refine lv_iload_n hx hb dL_call_0 rfl (lv_at hl 1 rfl) ?_
  refine lv_tableIn (off := 103) (tgt := 104) hx hb dL_call_1 (by decide) (by decide) (by decide) (by decide) ?_
  refine lv_aload_n hx hb dL_call_104 rfl (lv_at hl 0 rfl) ?_
  refine lv_iload_n hx hb dL_call_105 rfl (lv_at hl 2 rfl) ?_
  refine zk_call1 (vx_runSW (As := [.ref a.1, .int x]) (rest := []) ⟨hx, hb, hml, hown, hts⟩ (c_F_tryAppend l G hst a σ hok x _) (vx_cwSW 2 hts gL_call_L_tryAppend rfl rfl rfl (by decide +kernel) ⟨Nat.le_of_ble_eq_true rfl, Nat.le_of_ble_eq_true rfl⟩) (zk_preSH hN hE hA0 hS hP hD) rfl rfl hl.1 rfl (lv_room (Nat.le_of_ble_eq_true rfl)) dL_call_106 ⟨Nat.le_of_ble_eq_true rfl, Nat.le_of_ble_eq_true rfl⟩) hP hD hS hA (fun r u H locs hpost hP hD hS => ?_)
  exact zk_reti u hQ hx hb hr hlocks hS hP hD (Nat.le_of_ble_eq_true rfl) (Nat.le_of_ble_eq_true rfl) dL_call_109 hpost
set_option maxHeartbeats 2000000 in
set_option maxRecDepth 100000 in
theorem c_C_1 (l : Launch) (G : zk_G) (hst : l.stackTraces = false) (a : zA) (σ : zSt) (hok : yOk σ) (x y z : Int32) : zk_IH (S := zSt) l yL_call vL_call rmL_call G [.ref a.1, .int (nI 1), .int x, .int y, .int z] (zw G a σ) (fun r σ' => (r = (fLoad (core σ)).1 ∧ core σ' = (fLoad (core σ)).2) ∧ zTx σ') (zw G a) := by
  refine zk_bodyIN (cc := cL_call) (maxL := 5) (ret := (some .int)) (by decide) rfl (Nat.le_of_ble_eq_true rfl) ?_
  intro p E0 s m args below meth cd A ls Q hF hN hQ
  obtain ⟨hx, hb, hml, hr, hts, hown, hlocks, -, hE, hP, hD, hS, hA, hA0, hl⟩ := hF
  have hl : lv_has ls 5 [(0, .ref a.1), (1, .int (nI 1)), (2, .int x), (3, .int y), (4, .int z)] := hl
  refine lv_iload_n hx hb dL_call_0 rfl (lv_at hl 1 rfl) ?_
  refine lv_tableIn (off := 109) (tgt := 110) hx hb dL_call_1 (by decide) (by decide) (by decide) (by decide) ?_
  refine lv_aload_n hx hb dL_call_110 rfl (lv_at hl 0 rfl) ?_
  refine zk_call1 (vx_runSW (As := [.ref a.1]) (rest := []) ⟨hx, hb, hml, hown, hts⟩ (c_F_tryLoad l G hst a σ hok  _) (vx_cwSW 1 hts gL_call_L_tryLoad rfl rfl rfl (by decide +kernel) ⟨Nat.le_of_ble_eq_true rfl, Nat.le_of_ble_eq_true rfl⟩) (zk_preSH hN hE hA0 hS hP hD) rfl rfl hl.1 rfl (lv_room (Nat.le_of_ble_eq_true rfl)) dL_call_111 ⟨Nat.le_of_ble_eq_true rfl, Nat.le_of_ble_eq_true rfl⟩) hP hD hS hA (fun r u H locs hpost hP hD hS => ?_)
  exact zk_reti u hQ hx hb hr hlocks hS hP hD (Nat.le_of_ble_eq_true rfl) (Nat.le_of_ble_eq_true rfl) dL_call_114 hpost
set_option maxHeartbeats 2000000 in
set_option maxRecDepth 100000 in
theorem c_C_2 (l : Launch) (G : zk_G) (hst : l.stackTraces = false) (a : zA) (σ : zSt) (hok : yOk σ) (x y z : Int32) : zk_IH (S := zSt) l yL_call vL_call rmL_call G [.ref a.1, .int (nI 2), .int x, .int y, .int z] (zw G a σ) (fun r σ' => (r = fAbout (kL (core σ)) x ∧ core σ' = core σ) ∧ zTx σ') (zw G a) := by
  refine zk_bodyIN (cc := cL_call) (maxL := 5) (ret := (some .int)) (by decide) rfl (Nat.le_of_ble_eq_true rfl) ?_
  intro p E0 s m args below meth cd A ls Q hF hN hQ
  obtain ⟨hx, hb, hml, hr, hts, hown, hlocks, -, hE, hP, hD, hS, hA, hA0, hl⟩ := hF
  have hl : lv_has ls 5 [(0, .ref a.1), (1, .int (nI 2)), (2, .int x), (3, .int y), (4, .int z)] := hl
  refine lv_iload_n hx hb dL_call_0 rfl (lv_at hl 1 rfl) ?_
  refine lv_tableIn (off := 114) (tgt := 115) hx hb dL_call_1 (by decide) (by decide) (by decide) (by decide) ?_
  refine lv_aload_n hx hb dL_call_115 rfl (lv_at hl 0 rfl) ?_
  refine lv_iload_n hx hb dL_call_116 rfl (lv_at hl 2 rfl) ?_
  refine zk_call1 (vx_runSW (As := [.ref a.1, .int x]) (rest := []) ⟨hx, hb, hml, hown, hts⟩ (c_F_tryAbout l G hst a σ hok x _) (vx_cwSW 2 hts gL_call_L_tryAbout rfl rfl rfl (by decide +kernel) ⟨Nat.le_of_ble_eq_true rfl, Nat.le_of_ble_eq_true rfl⟩) (zk_preSH hN hE hA0 hS hP hD) rfl rfl hl.1 rfl (lv_room (Nat.le_of_ble_eq_true rfl)) dL_call_117 ⟨Nat.le_of_ble_eq_true rfl, Nat.le_of_ble_eq_true rfl⟩) hP hD hS hA (fun r u H locs hpost hP hD hS => ?_)
  exact zk_reti u hQ hx hb hr hlocks hS hP hD (Nat.le_of_ble_eq_true rfl) (Nat.le_of_ble_eq_true rfl) dL_call_120 hpost
set_option maxHeartbeats 2000000 in
set_option maxRecDepth 100000 in
theorem c_C_3 (l : Launch) (G : zk_G) (hst : l.stackTraces = false) (a : zA) (σ : zSt) (hok : yOk σ) (x y z : Int32) : zk_IH (S := zSt) l yL_call vL_call rmL_call G [.ref a.1, .int (nI 3), .int x, .int y, .int z] (zw G a σ) (fun r σ' => (r = fChild (kL (core σ)) x y ∧ core σ' = core σ) ∧ zTx σ') (zw G a) := by
  refine zk_bodyIN (cc := cL_call) (maxL := 5) (ret := (some .int)) (by decide) rfl (Nat.le_of_ble_eq_true rfl) ?_
  intro p E0 s m args below meth cd A ls Q hF hN hQ
  obtain ⟨hx, hb, hml, hr, hts, hown, hlocks, -, hE, hP, hD, hS, hA, hA0, hl⟩ := hF
  have hl : lv_has ls 5 [(0, .ref a.1), (1, .int (nI 3)), (2, .int x), (3, .int y), (4, .int z)] := hl
  refine lv_iload_n hx hb dL_call_0 rfl (lv_at hl 1 rfl) ?_
  refine lv_tableIn (off := 120) (tgt := 121) hx hb dL_call_1 (by decide) (by decide) (by decide) (by decide) ?_
  refine lv_aload_n hx hb dL_call_121 rfl (lv_at hl 0 rfl) ?_
  refine lv_iload_n hx hb dL_call_122 rfl (lv_at hl 2 rfl) ?_
  refine lv_iload_n hx hb dL_call_123 rfl (lv_at hl 3 rfl) ?_
  refine zk_call1 (vx_runSW (As := [.ref a.1, .int x, .int y]) (rest := []) ⟨hx, hb, hml, hown, hts⟩ (c_F_tryChild l G hst a σ hok x y _) (vx_cwSW 3 hts gL_call_L_tryChild rfl rfl rfl (by decide +kernel) ⟨Nat.le_of_ble_eq_true rfl, Nat.le_of_ble_eq_true rfl⟩) (zk_preSH hN hE hA0 hS hP hD) rfl rfl hl.1 rfl (lv_room (Nat.le_of_ble_eq_true rfl)) dL_call_124 ⟨Nat.le_of_ble_eq_true rfl, Nat.le_of_ble_eq_true rfl⟩) hP hD hS hA (fun r u H locs hpost hP hD hS => ?_)
  exact zk_reti u hQ hx hb hr hlocks hS hP hD (Nat.le_of_ble_eq_true rfl) (Nat.le_of_ble_eq_true rfl) dL_call_127 hpost
set_option maxHeartbeats 2000000 in
set_option maxRecDepth 100000 in
theorem c_C_4 (l : Launch) (G : zk_G) (hst : l.stackTraces = false) (a : zA) (σ : zSt) (hok : yOk σ) (x y z : Int32) : zk_IH (S := zSt) l yL_call vL_call rmL_call G [.ref a.1, .int (nI 4), .int x, .int y, .int z] (zw G a σ) (fun r σ' => (r = fFamily (kL (core σ)) x y ∧ core σ' = core σ) ∧ zTx σ') (zw G a) := by
  refine zk_bodyIN (cc := cL_call) (maxL := 5) (ret := (some .int)) (by decide) rfl (Nat.le_of_ble_eq_true rfl) ?_
  intro p E0 s m args below meth cd A ls Q hF hN hQ
  obtain ⟨hx, hb, hml, hr, hts, hown, hlocks, -, hE, hP, hD, hS, hA, hA0, hl⟩ := hF
  have hl : lv_has ls 5 [(0, .ref a.1), (1, .int (nI 4)), (2, .int x), (3, .int y), (4, .int z)] := hl
  refine lv_iload_n hx hb dL_call_0 rfl (lv_at hl 1 rfl) ?_
  refine lv_tableIn (off := 127) (tgt := 128) hx hb dL_call_1 (by decide) (by decide) (by decide) (by decide) ?_
  refine lv_aload_n hx hb dL_call_128 rfl (lv_at hl 0 rfl) ?_
  refine lv_iload_n hx hb dL_call_129 rfl (lv_at hl 2 rfl) ?_
  refine lv_iload_n hx hb dL_call_130 rfl (lv_at hl 3 rfl) ?_
  refine zk_call1 (vx_runSW (As := [.ref a.1, .int x, .int y]) (rest := []) ⟨hx, hb, hml, hown, hts⟩ (c_F_tryFamily l G hst a σ hok x y _) (vx_cwSW 3 hts gL_call_L_tryFamily rfl rfl rfl (by decide +kernel) ⟨Nat.le_of_ble_eq_true rfl, Nat.le_of_ble_eq_true rfl⟩) (zk_preSH hN hE hA0 hS hP hD) rfl rfl hl.1 rfl (lv_room (Nat.le_of_ble_eq_true rfl)) dL_call_131 ⟨Nat.le_of_ble_eq_true rfl, Nat.le_of_ble_eq_true rfl⟩) hP hD hS hA (fun r u H locs hpost hP hD hS => ?_)
  exact zk_reti u hQ hx hb hr hlocks hS hP hD (Nat.le_of_ble_eq_true rfl) (Nat.le_of_ble_eq_true rfl) dL_call_134 hpost
set_option maxHeartbeats 2000000 in
set_option maxRecDepth 100000 in
theorem c_C_5 (l : Launch) (G : zk_G) (hst : l.stackTraces = false) (a : zA) (σ : zSt) (hok : yOk σ) (x y z : Int32) : zk_IH (S := zSt) l yL_call vL_call rmL_call G [.ref a.1, .int (nI 5), .int x, .int y, .int z] (zw G a σ) (fun r σ' => (r = fDay (kL (core σ)) x y ∧ core σ' = core σ) ∧ zTx σ') (zw G a) := by
  refine zk_bodyIN (cc := cL_call) (maxL := 5) (ret := (some .int)) (by decide) rfl (Nat.le_of_ble_eq_true rfl) ?_
  intro p E0 s m args below meth cd A ls Q hF hN hQ
  obtain ⟨hx, hb, hml, hr, hts, hown, hlocks, -, hE, hP, hD, hS, hA, hA0, hl⟩ := hF
  have hl : lv_has ls 5 [(0, .ref a.1), (1, .int (nI 5)), (2, .int x), (3, .int y), (4, .int z)] := hl
  refine lv_iload_n hx hb dL_call_0 rfl (lv_at hl 1 rfl) ?_
  refine lv_tableIn (off := 134) (tgt := 135) hx hb dL_call_1 (by decide) (by decide) (by decide) (by decide) ?_
  refine lv_aload_n hx hb dL_call_135 rfl (lv_at hl 0 rfl) ?_
  refine lv_iload_n hx hb dL_call_136 rfl (lv_at hl 2 rfl) ?_
  refine lv_iload_n hx hb dL_call_137 rfl (lv_at hl 3 rfl) ?_
  refine zk_call1 (vx_runSW (As := [.ref a.1, .int x, .int y]) (rest := []) ⟨hx, hb, hml, hown, hts⟩ (c_F_tryDay l G hst a σ hok x y _) (vx_cwSW 3 hts gL_call_L_tryDay rfl rfl rfl (by decide +kernel) ⟨Nat.le_of_ble_eq_true rfl, Nat.le_of_ble_eq_true rfl⟩) (zk_preSH hN hE hA0 hS hP hD) rfl rfl hl.1 rfl (lv_room (Nat.le_of_ble_eq_true rfl)) dL_call_138 ⟨Nat.le_of_ble_eq_true rfl, Nat.le_of_ble_eq_true rfl⟩) hP hD hS hA (fun r u H locs hpost hP hD hS => ?_)
  exact zk_reti u hQ hx hb hr hlocks hS hP hD (Nat.le_of_ble_eq_true rfl) (Nat.le_of_ble_eq_true rfl) dL_call_141 hpost
set_option maxHeartbeats 2000000 in
set_option maxRecDepth 100000 in
theorem c_C_6 (l : Launch) (G : zk_G) (hst : l.stackTraces = false) (a : zA) (σ : zSt) (hok : yOk σ) (x y z : Int32) : zk_IH (S := zSt) l yL_call vL_call rmL_call G [.ref a.1, .int (nI 6), .int x, .int y, .int z] (zw G a σ) (fun r σ' => (r = fMeal (kL (core σ)) x y z ∧ core σ' = core σ) ∧ zTx σ') (zw G a) := by
  refine zk_bodyIN (cc := cL_call) (maxL := 5) (ret := (some .int)) (by decide) rfl (Nat.le_of_ble_eq_true rfl) ?_
  intro p E0 s m args below meth cd A ls Q hF hN hQ
  obtain ⟨hx, hb, hml, hr, hts, hown, hlocks, -, hE, hP, hD, hS, hA, hA0, hl⟩ := hF
  have hl : lv_has ls 5 [(0, .ref a.1), (1, .int (nI 6)), (2, .int x), (3, .int y), (4, .int z)] := hl
  refine lv_iload_n hx hb dL_call_0 rfl (lv_at hl 1 rfl) ?_
  refine lv_tableIn (off := 141) (tgt := 142) hx hb dL_call_1 (by decide) (by decide) (by decide) (by decide) ?_
  refine lv_aload_n hx hb dL_call_142 rfl (lv_at hl 0 rfl) ?_
  refine lv_iload_n hx hb dL_call_143 rfl (lv_at hl 2 rfl) ?_
  refine lv_iload_n hx hb dL_call_144 rfl (lv_at hl 3 rfl) ?_
  refine lv_iload hx hb dL_call_145 (lv_at hl 4 rfl) ?_
  refine zk_call1 (vx_runSW (As := [.ref a.1, .int x, .int y, .int z]) (rest := []) ⟨hx, hb, hml, hown, hts⟩ (c_F_tryMeal l G hst a σ hok x y z _) (vx_cwSW 4 hts gL_call_L_tryMeal rfl rfl rfl (by decide +kernel) ⟨Nat.le_of_ble_eq_true rfl, Nat.le_of_ble_eq_true rfl⟩) (zk_preSH hN hE hA0 hS hP hD) rfl rfl hl.1 rfl (lv_room (Nat.le_of_ble_eq_true rfl)) dL_call_147 ⟨Nat.le_of_ble_eq_true rfl, Nat.le_of_ble_eq_true rfl⟩) hP hD hS hA (fun r u H locs hpost hP hD hS => ?_)
  exact zk_reti u hQ hx hb hr hlocks hS hP hD (Nat.le_of_ble_eq_true rfl) (Nat.le_of_ble_eq_true rfl) dL_call_150 hpost
set_option maxHeartbeats 2000000 in
set_option maxRecDepth 100000 in
theorem c_C_7 (l : Launch) (G : zk_G) (hst : l.stackTraces = false) (a : zA) (σ : zSt) (hok : yOk σ) (x y z : Int32) : zk_IH (S := zSt) l yL_call vL_call rmL_call G [.ref a.1, .int (nI 7), .int x, .int y, .int z] (zw G a σ) (fun r σ' => (r = fSetting (kL (core σ)) x ∧ core σ' = core σ) ∧ zTx σ') (zw G a) := by
  refine zk_bodyIN (cc := cL_call) (maxL := 5) (ret := (some .int)) (by decide) rfl (Nat.le_of_ble_eq_true rfl) ?_
  intro p E0 s m args below meth cd A ls Q hF hN hQ
  obtain ⟨hx, hb, hml, hr, hts, hown, hlocks, -, hE, hP, hD, hS, hA, hA0, hl⟩ := hF
  have hl : lv_has ls 5 [(0, .ref a.1), (1, .int (nI 7)), (2, .int x), (3, .int y), (4, .int z)] := hl
  refine lv_iload_n hx hb dL_call_0 rfl (lv_at hl 1 rfl) ?_
  refine lv_tableIn (off := 150) (tgt := 151) hx hb dL_call_1 (by decide) (by decide) (by decide) (by decide) ?_
  refine lv_aload_n hx hb dL_call_151 rfl (lv_at hl 0 rfl) ?_
  refine lv_iload_n hx hb dL_call_152 rfl (lv_at hl 2 rfl) ?_
  refine zk_call1 (vx_runSW (As := [.ref a.1, .int x]) (rest := []) ⟨hx, hb, hml, hown, hts⟩ (c_F_trySetting l G hst a σ hok x _) (vx_cwSW 2 hts gL_call_L_trySetting rfl rfl rfl (by decide +kernel) ⟨Nat.le_of_ble_eq_true rfl, Nat.le_of_ble_eq_true rfl⟩) (zk_preSH hN hE hA0 hS hP hD) rfl rfl hl.1 rfl (lv_room (Nat.le_of_ble_eq_true rfl)) dL_call_153 ⟨Nat.le_of_ble_eq_true rfl, Nat.le_of_ble_eq_true rfl⟩) hP hD hS hA (fun r u H locs hpost hP hD hS => ?_)
  exact zk_reti u hQ hx hb hr hlocks hS hP hD (Nat.le_of_ble_eq_true rfl) (Nat.le_of_ble_eq_true rfl) dL_call_156 hpost
set_option maxHeartbeats 2000000 in
set_option maxRecDepth 100000 in
theorem c_C_8 (l : Launch) (G : zk_G) (hst : l.stackTraces = false) (a : zA) (σ : zSt) (hok : yOk σ) (x y z : Int32) : zk_IH (S := zSt) l yL_call vL_call rmL_call G [.ref a.1, .int (nI 8), .int x, .int y, .int z] (zw G a σ) (fun r σ' => (r = (fCome x y (core σ)).1 ∧ core σ' = (fCome x y (core σ)).2) ∧ zTx σ') (zw G a) := by
  refine zk_bodyIN (cc := cL_call) (maxL := 5) (ret := (some .int)) (by decide) rfl (Nat.le_of_ble_eq_true rfl) ?_
  intro p E0 s m args below meth cd A ls Q hF hN hQ
  obtain ⟨hx, hb, hml, hr, hts, hown, hlocks, -, hE, hP, hD, hS, hA, hA0, hl⟩ := hF
  have hl : lv_has ls 5 [(0, .ref a.1), (1, .int (nI 8)), (2, .int x), (3, .int y), (4, .int z)] := hl
  refine lv_iload_n hx hb dL_call_0 rfl (lv_at hl 1 rfl) ?_
  refine lv_tableIn (off := 156) (tgt := 157) hx hb dL_call_1 (by decide) (by decide) (by decide) (by decide) ?_
  refine lv_aload_n hx hb dL_call_157 rfl (lv_at hl 0 rfl) ?_
  refine lv_iload_n hx hb dL_call_158 rfl (lv_at hl 2 rfl) ?_
  refine lv_iload_n hx hb dL_call_159 rfl (lv_at hl 3 rfl) ?_
  refine zk_call1 (vx_runSW (As := [.ref a.1, .int x, .int y]) (rest := []) ⟨hx, hb, hml, hown, hts⟩ (c_F_tryCome l G hst a σ hok x y _) (vx_cwSW 3 hts gL_call_L_tryCome rfl rfl rfl (by decide +kernel) ⟨Nat.le_of_ble_eq_true rfl, Nat.le_of_ble_eq_true rfl⟩) (zk_preSH hN hE hA0 hS hP hD) rfl rfl hl.1 rfl (lv_room (Nat.le_of_ble_eq_true rfl)) dL_call_160 ⟨Nat.le_of_ble_eq_true rfl, Nat.le_of_ble_eq_true rfl⟩) hP hD hS hA (fun r u H locs hpost hP hD hS => ?_)
  exact zk_reti u hQ hx hb hr hlocks hS hP hD (Nat.le_of_ble_eq_true rfl) (Nat.le_of_ble_eq_true rfl) dL_call_163 hpost
set_option maxHeartbeats 2000000 in
set_option maxRecDepth 100000 in
theorem c_C_9 (l : Launch) (G : zk_G) (hst : l.stackTraces = false) (a : zA) (σ : zSt) (hok : yOk σ) (x y z : Int32) : zk_IH (S := zSt) l yL_call vL_call rmL_call G [.ref a.1, .int (nI 9), .int x, .int y, .int z] (zw G a σ) (fun r σ' => (r = (fMenu x y (core σ)).1 ∧ core σ' = (fMenu x y (core σ)).2) ∧ zTx σ') (zw G a) := by
  refine zk_bodyIN (cc := cL_call) (maxL := 5) (ret := (some .int)) (by decide) rfl (Nat.le_of_ble_eq_true rfl) ?_
  intro p E0 s m args below meth cd A ls Q hF hN hQ
  obtain ⟨hx, hb, hml, hr, hts, hown, hlocks, -, hE, hP, hD, hS, hA, hA0, hl⟩ := hF
  have hl : lv_has ls 5 [(0, .ref a.1), (1, .int (nI 9)), (2, .int x), (3, .int y), (4, .int z)] := hl
  refine lv_iload_n hx hb dL_call_0 rfl (lv_at hl 1 rfl) ?_
  refine lv_tableIn (off := 163) (tgt := 164) hx hb dL_call_1 (by decide) (by decide) (by decide) (by decide) ?_
  refine lv_aload_n hx hb dL_call_164 rfl (lv_at hl 0 rfl) ?_
  refine lv_iload_n hx hb dL_call_165 rfl (lv_at hl 2 rfl) ?_
  refine lv_iload_n hx hb dL_call_166 rfl (lv_at hl 3 rfl) ?_
  refine zk_call1 (vx_runSW (As := [.ref a.1, .int x, .int y]) (rest := []) ⟨hx, hb, hml, hown, hts⟩ (c_F_tryMenu l G hst a σ hok x y _) (vx_cwSW 3 hts gL_call_L_tryMenu rfl rfl rfl (by decide +kernel) ⟨Nat.le_of_ble_eq_true rfl, Nat.le_of_ble_eq_true rfl⟩) (zk_preSH hN hE hA0 hS hP hD) rfl rfl hl.1 rfl (lv_room (Nat.le_of_ble_eq_true rfl)) dL_call_167 ⟨Nat.le_of_ble_eq_true rfl, Nat.le_of_ble_eq_true rfl⟩) hP hD hS hA (fun r u H locs hpost hP hD hS => ?_)
  exact zk_reti u hQ hx hb hr hlocks hS hP hD (Nat.le_of_ble_eq_true rfl) (Nat.le_of_ble_eq_true rfl) dL_call_170 hpost
set_option maxHeartbeats 2000000 in
set_option maxRecDepth 100000 in
theorem c_C_10 (l : Launch) (G : zk_G) (hst : l.stackTraces = false) (a : zA) (σ : zSt) (hok : yOk σ) (x y z : Int32) : zk_IH (S := zSt) l yL_call vL_call rmL_call G [.ref a.1, .int (nI 10), .int x, .int y, .int z] (zw G a σ) (fun r σ' => (r = (fPay x y (core σ)).1 ∧ core σ' = (fPay x y (core σ)).2) ∧ zTx σ') (zw G a) := by
  refine zk_bodyIN (cc := cL_call) (maxL := 5) (ret := (some .int)) (by decide) rfl (Nat.le_of_ble_eq_true rfl) ?_
  intro p E0 s m args below meth cd A ls Q hF hN hQ
  obtain ⟨hx, hb, hml, hr, hts, hown, hlocks, -, hE, hP, hD, hS, hA, hA0, hl⟩ := hF
  have hl : lv_has ls 5 [(0, .ref a.1), (1, .int (nI 10)), (2, .int x), (3, .int y), (4, .int z)] := hl
  refine lv_iload_n hx hb dL_call_0 rfl (lv_at hl 1 rfl) ?_
  refine lv_tableIn (off := 170) (tgt := 171) hx hb dL_call_1 (by decide) (by decide) (by decide) (by decide) ?_
  refine lv_aload_n hx hb dL_call_171 rfl (lv_at hl 0 rfl) ?_
  refine lv_iload_n hx hb dL_call_172 rfl (lv_at hl 2 rfl) ?_
  refine lv_iload_n hx hb dL_call_173 rfl (lv_at hl 3 rfl) ?_
  refine zk_call1 (vx_runSW (As := [.ref a.1, .int x, .int y]) (rest := []) ⟨hx, hb, hml, hown, hts⟩ (c_F_tryPay l G hst a σ hok x y _) (vx_cwSW 3 hts gL_call_L_tryPay rfl rfl rfl (by decide +kernel) ⟨Nat.le_of_ble_eq_true rfl, Nat.le_of_ble_eq_true rfl⟩) (zk_preSH hN hE hA0 hS hP hD) rfl rfl hl.1 rfl (lv_room (Nat.le_of_ble_eq_true rfl)) dL_call_174 ⟨Nat.le_of_ble_eq_true rfl, Nat.le_of_ble_eq_true rfl⟩) hP hD hS hA (fun r u H locs hpost hP hD hS => ?_)
  exact zk_reti u hQ hx hb hr hlocks hS hP hD (Nat.le_of_ble_eq_true rfl) (Nat.le_of_ble_eq_true rfl) dL_call_177 hpost
set_option maxHeartbeats 2000000 in
set_option maxRecDepth 100000 in
theorem c_C_11 (l : Launch) (G : zk_G) (hst : l.stackTraces = false) (a : zA) (σ : zSt) (hok : yOk σ) (x y z : Int32) : zk_IH (S := zSt) l yL_call vL_call rmL_call G [.ref a.1, .int (nI 11), .int x, .int y, .int z] (zw G a σ) (fun r σ' => (r = (fMove x y z (core σ)).1 ∧ core σ' = (fMove x y z (core σ)).2) ∧ zTx σ') (zw G a) := by
  refine zk_bodyIN (cc := cL_call) (maxL := 5) (ret := (some .int)) (by decide) rfl (Nat.le_of_ble_eq_true rfl) ?_
  intro p E0 s m args below meth cd A ls Q hF hN hQ
  obtain ⟨hx, hb, hml, hr, hts, hown, hlocks, -, hE, hP, hD, hS, hA, hA0, hl⟩ := hF
  have hl : lv_has ls 5 [(0, .ref a.1), (1, .int (nI 11)), (2, .int x), (3, .int y), (4, .int z)] := hl
  refine lv_iload_n hx hb dL_call_0 rfl (lv_at hl 1 rfl) ?_
  refine lv_tableIn (off := 177) (tgt := 178) hx hb dL_call_1 (by decide) (by decide) (by decide) (by decide) ?_
  refine lv_aload_n hx hb dL_call_178 rfl (lv_at hl 0 rfl) ?_
  refine lv_iload_n hx hb dL_call_179 rfl (lv_at hl 2 rfl) ?_
  refine lv_iload_n hx hb dL_call_180 rfl (lv_at hl 3 rfl) ?_
  refine lv_iload hx hb dL_call_181 (lv_at hl 4 rfl) ?_
  refine zk_call1 (vx_runSW (As := [.ref a.1, .int x, .int y, .int z]) (rest := []) ⟨hx, hb, hml, hown, hts⟩ (c_F_tryMove l G hst a σ hok x y z _) (vx_cwSW 4 hts gL_call_L_tryMove rfl rfl rfl (by decide +kernel) ⟨Nat.le_of_ble_eq_true rfl, Nat.le_of_ble_eq_true rfl⟩) (zk_preSH hN hE hA0 hS hP hD) rfl rfl hl.1 rfl (lv_room (Nat.le_of_ble_eq_true rfl)) dL_call_183 ⟨Nat.le_of_ble_eq_true rfl, Nat.le_of_ble_eq_true rfl⟩) hP hD hS hA (fun r u H locs hpost hP hD hS => ?_)
  exact zk_reti u hQ hx hb hr hlocks hS hP hD (Nat.le_of_ble_eq_true rfl) (Nat.le_of_ble_eq_true rfl) dL_call_186 hpost
set_option maxHeartbeats 2000000 in
set_option maxRecDepth 100000 in
theorem c_C_12 (l : Launch) (G : zk_G) (hst : l.stackTraces = false) (a : zA) (σ : zSt) (hok : yOk σ) (x y z : Int32) : zk_IH (S := zSt) l yL_call vL_call rmL_call G [.ref a.1, .int (nI 12), .int x, .int y, .int z] (zw G a σ) (fun r σ' => (r = (fEntitle x y z (core σ)).1 ∧ core σ' = (fEntitle x y z (core σ)).2) ∧ zTx σ') (zw G a) := by
  refine zk_bodyIN (cc := cL_call) (maxL := 5) (ret := (some .int)) (by decide) rfl (Nat.le_of_ble_eq_true rfl) ?_
  intro p E0 s m args below meth cd A ls Q hF hN hQ
  obtain ⟨hx, hb, hml, hr, hts, hown, hlocks, -, hE, hP, hD, hS, hA, hA0, hl⟩ := hF
  have hl : lv_has ls 5 [(0, .ref a.1), (1, .int (nI 12)), (2, .int x), (3, .int y), (4, .int z)] := hl
  refine lv_iload_n hx hb dL_call_0 rfl (lv_at hl 1 rfl) ?_
  refine lv_tableIn (off := 186) (tgt := 187) hx hb dL_call_1 (by decide) (by decide) (by decide) (by decide) ?_
  refine lv_aload_n hx hb dL_call_187 rfl (lv_at hl 0 rfl) ?_
  refine lv_iload_n hx hb dL_call_188 rfl (lv_at hl 2 rfl) ?_
  refine lv_iload_n hx hb dL_call_189 rfl (lv_at hl 3 rfl) ?_
  refine lv_iload hx hb dL_call_190 (lv_at hl 4 rfl) ?_
  refine zk_call1 (vx_runSW (As := [.ref a.1, .int x, .int y, .int z]) (rest := []) ⟨hx, hb, hml, hown, hts⟩ (c_F_tryEntitle l G hst a σ hok x y z _) (vx_cwSW 4 hts gL_call_L_tryEntitle rfl rfl rfl (by decide +kernel) ⟨Nat.le_of_ble_eq_true rfl, Nat.le_of_ble_eq_true rfl⟩) (zk_preSH hN hE hA0 hS hP hD) rfl rfl hl.1 rfl (lv_room (Nat.le_of_ble_eq_true rfl)) dL_call_192 ⟨Nat.le_of_ble_eq_true rfl, Nat.le_of_ble_eq_true rfl⟩) hP hD hS hA (fun r u H locs hpost hP hD hS => ?_)
  exact zk_reti u hQ hx hb hr hlocks hS hP hD (Nat.le_of_ble_eq_true rfl) (Nat.le_of_ble_eq_true rfl) dL_call_195 hpost
set_option maxHeartbeats 2000000 in
set_option maxRecDepth 100000 in
theorem c_C_13 (l : Launch) (G : zk_G) (hst : l.stackTraces = false) (a : zA) (σ : zSt) (hok : yOk σ) (x y z : Int32) : zk_IH (S := zSt) l yL_call vL_call rmL_call G [.ref a.1, .int (nI 13), .int x, .int y, .int z] (zw G a σ) (fun r σ' => (r = (fWriteOff x (core σ)).1 ∧ core σ' = (fWriteOff x (core σ)).2) ∧ zTx σ') (zw G a) := by
  refine zk_bodyIN (cc := cL_call) (maxL := 5) (ret := (some .int)) (by decide) rfl (Nat.le_of_ble_eq_true rfl) ?_
  intro p E0 s m args below meth cd A ls Q hF hN hQ
  obtain ⟨hx, hb, hml, hr, hts, hown, hlocks, -, hE, hP, hD, hS, hA, hA0, hl⟩ := hF
  have hl : lv_has ls 5 [(0, .ref a.1), (1, .int (nI 13)), (2, .int x), (3, .int y), (4, .int z)] := hl
  refine lv_iload_n hx hb dL_call_0 rfl (lv_at hl 1 rfl) ?_
  refine lv_tableIn (off := 195) (tgt := 196) hx hb dL_call_1 (by decide) (by decide) (by decide) (by decide) ?_
  refine lv_aload_n hx hb dL_call_196 rfl (lv_at hl 0 rfl) ?_
  refine lv_iload_n hx hb dL_call_197 rfl (lv_at hl 2 rfl) ?_
  refine zk_call1 (vx_runSW (As := [.ref a.1, .int x]) (rest := []) ⟨hx, hb, hml, hown, hts⟩ (c_F_tryWriteOff l G hst a σ hok x _) (vx_cwSW 2 hts gL_call_L_tryWriteOff rfl rfl rfl (by decide +kernel) ⟨Nat.le_of_ble_eq_true rfl, Nat.le_of_ble_eq_true rfl⟩) (zk_preSH hN hE hA0 hS hP hD) rfl rfl hl.1 rfl (lv_room (Nat.le_of_ble_eq_true rfl)) dL_call_198 ⟨Nat.le_of_ble_eq_true rfl, Nat.le_of_ble_eq_true rfl⟩) hP hD hS hA (fun r u H locs hpost hP hD hS => ?_)
  exact zk_reti u hQ hx hb hr hlocks hS hP hD (Nat.le_of_ble_eq_true rfl) (Nat.le_of_ble_eq_true rfl) dL_call_201 hpost
set_option maxHeartbeats 2000000 in
set_option maxRecDepth 100000 in
theorem c_C_14 (l : Launch) (G : zk_G) (hst : l.stackTraces = false) (a : zA) (σ : zSt) (hok : yOk σ) (x y z : Int32) : zk_IH (S := zSt) l yL_call vL_call rmL_call G [.ref a.1, .int (nI 14), .int x, .int y, .int z] (zw G a σ) (fun r σ' => (r = (fDays x (core σ)).1 ∧ core σ' = (fDays x (core σ)).2) ∧ zTx σ') (zw G a) := by
  refine zk_bodyIN (cc := cL_call) (maxL := 5) (ret := (some .int)) (by decide) rfl (Nat.le_of_ble_eq_true rfl) ?_
  intro p E0 s m args below meth cd A ls Q hF hN hQ
  obtain ⟨hx, hb, hml, hr, hts, hown, hlocks, -, hE, hP, hD, hS, hA, hA0, hl⟩ := hF
  have hl : lv_has ls 5 [(0, .ref a.1), (1, .int (nI 14)), (2, .int x), (3, .int y), (4, .int z)] := hl
  refine lv_iload_n hx hb dL_call_0 rfl (lv_at hl 1 rfl) ?_
  refine lv_tableIn (off := 201) (tgt := 202) hx hb dL_call_1 (by decide) (by decide) (by decide) (by decide) ?_
  refine lv_aload_n hx hb dL_call_202 rfl (lv_at hl 0 rfl) ?_
  refine lv_iload_n hx hb dL_call_203 rfl (lv_at hl 2 rfl) ?_
  refine zk_call1 (vx_runSW (As := [.ref a.1, .int x]) (rest := []) ⟨hx, hb, hml, hown, hts⟩ (c_F_tryDays l G hst a σ hok x _) (vx_cwSW 2 hts gL_call_L_tryDays rfl rfl rfl (by decide +kernel) ⟨Nat.le_of_ble_eq_true rfl, Nat.le_of_ble_eq_true rfl⟩) (zk_preSH hN hE hA0 hS hP hD) rfl rfl hl.1 rfl (lv_room (Nat.le_of_ble_eq_true rfl)) dL_call_204 ⟨Nat.le_of_ble_eq_true rfl, Nat.le_of_ble_eq_true rfl⟩) hP hD hS hA (fun r u H locs hpost hP hD hS => ?_)
  exact zk_reti u hQ hx hb hr hlocks hS hP hD (Nat.le_of_ble_eq_true rfl) (Nat.le_of_ble_eq_true rfl) dL_call_207 hpost
set_option maxHeartbeats 2000000 in
set_option maxRecDepth 100000 in
theorem c_C_15 (l : Launch) (G : zk_G) (hst : l.stackTraces = false) (a : zA) (σ : zSt) (hok : yOk σ) (x y z : Int32) : zk_IH (S := zSt) l yL_call vL_call rmL_call G [.ref a.1, .int (nI 15), .int x, .int y, .int z] (zw G a σ) (fun r σ' => (r = (fSet x y (core σ)).1 ∧ core σ' = (fSet x y (core σ)).2) ∧ zTx σ') (zw G a) := by
  refine zk_bodyIN (cc := cL_call) (maxL := 5) (ret := (some .int)) (by decide) rfl (Nat.le_of_ble_eq_true rfl) ?_
  intro p E0 s m args below meth cd A ls Q hF hN hQ
  obtain ⟨hx, hb, hml, hr, hts, hown, hlocks, -, hE, hP, hD, hS, hA, hA0, hl⟩ := hF
  have hl : lv_has ls 5 [(0, .ref a.1), (1, .int (nI 15)), (2, .int x), (3, .int y), (4, .int z)] := hl
  refine lv_iload_n hx hb dL_call_0 rfl (lv_at hl 1 rfl) ?_
  refine lv_tableIn (off := 207) (tgt := 208) hx hb dL_call_1 (by decide) (by decide) (by decide) (by decide) ?_
  refine lv_aload_n hx hb dL_call_208 rfl (lv_at hl 0 rfl) ?_
  refine lv_iload_n hx hb dL_call_209 rfl (lv_at hl 2 rfl) ?_
  refine lv_iload_n hx hb dL_call_210 rfl (lv_at hl 3 rfl) ?_
  refine zk_call1 (vx_runSW (As := [.ref a.1, .int x, .int y]) (rest := []) ⟨hx, hb, hml, hown, hts⟩ (c_F_trySet l G hst a σ hok x y _) (vx_cwSW 3 hts gL_call_L_trySet rfl rfl rfl (by decide +kernel) ⟨Nat.le_of_ble_eq_true rfl, Nat.le_of_ble_eq_true rfl⟩) (zk_preSH hN hE hA0 hS hP hD) rfl rfl hl.1 rfl (lv_room (Nat.le_of_ble_eq_true rfl)) dL_call_211 ⟨Nat.le_of_ble_eq_true rfl, Nat.le_of_ble_eq_true rfl⟩) hP hD hS hA (fun r u H locs hpost hP hD hS => ?_)
  exact zk_reti u hQ hx hb hr hlocks hS hP hD (Nat.le_of_ble_eq_true rfl) (Nat.le_of_ble_eq_true rfl) dL_call_214 hpost
set_option maxHeartbeats 2000000 in
set_option maxRecDepth 100000 in
theorem c_C_16 (l : Launch) (G : zk_G) (hst : l.stackTraces = false) (a : zA) (σ : zSt) (hok : yOk σ) (x y z : Int32) : zk_IH (S := zSt) l yL_call vL_call rmL_call G [.ref a.1, .int (nI 16), .int x, .int y, .int z] (zw G a σ) (fun r σ' => (r = (fUndo (core σ)).1 ∧ core σ' = (fUndo (core σ)).2) ∧ zTx σ') (zw G a) := by
  refine zk_bodyIN (cc := cL_call) (maxL := 5) (ret := (some .int)) (by decide) rfl (Nat.le_of_ble_eq_true rfl) ?_
  intro p E0 s m args below meth cd A ls Q hF hN hQ
  obtain ⟨hx, hb, hml, hr, hts, hown, hlocks, -, hE, hP, hD, hS, hA, hA0, hl⟩ := hF
  have hl : lv_has ls 5 [(0, .ref a.1), (1, .int (nI 16)), (2, .int x), (3, .int y), (4, .int z)] := hl
  refine lv_iload_n hx hb dL_call_0 rfl (lv_at hl 1 rfl) ?_
  refine lv_tableIn (off := 214) (tgt := 215) hx hb dL_call_1 (by decide) (by decide) (by decide) (by decide) ?_
  refine lv_aload_n hx hb dL_call_215 rfl (lv_at hl 0 rfl) ?_
  refine zk_call1 (vx_runSW (As := [.ref a.1]) (rest := []) ⟨hx, hb, hml, hown, hts⟩ (c_F_tryUndo l G hst a σ hok  _) (vx_cwSW 1 hts gL_call_L_tryUndo rfl rfl rfl (by decide +kernel) ⟨Nat.le_of_ble_eq_true rfl, Nat.le_of_ble_eq_true rfl⟩) (zk_preSH hN hE hA0 hS hP hD) rfl rfl hl.1 rfl (lv_room (Nat.le_of_ble_eq_true rfl)) dL_call_216 ⟨Nat.le_of_ble_eq_true rfl, Nat.le_of_ble_eq_true rfl⟩) hP hD hS hA (fun r u H locs hpost hP hD hS => ?_)
  exact zk_reti u hQ hx hb hr hlocks hS hP hD (Nat.le_of_ble_eq_true rfl) (Nat.le_of_ble_eq_true rfl) dL_call_219 hpost
set_option maxHeartbeats 2000000 in
set_option maxRecDepth 100000 in
theorem c_C_17 (l : Launch) (G : zk_G) (hst : l.stackTraces = false) (a : zA) (σ : zSt) (hok : yOk σ) (x y z : Int32) : zk_IH (S := zSt) l yL_call vL_call rmL_call G [.ref a.1, .int (nI 17), .int x, .int y, .int z] (zw G a σ) (fun r σ' => (r = fRefused (kL (core σ)) x ∧ core σ' = core σ) ∧ zTx σ') (zw G a) := by
  refine zk_bodyIN (cc := cL_call) (maxL := 5) (ret := (some .int)) (by decide) rfl (Nat.le_of_ble_eq_true rfl) ?_
  intro p E0 s m args below meth cd A ls Q hF hN hQ
  obtain ⟨hx, hb, hml, hr, hts, hown, hlocks, -, hE, hP, hD, hS, hA, hA0, hl⟩ := hF
  have hl : lv_has ls 5 [(0, .ref a.1), (1, .int (nI 17)), (2, .int x), (3, .int y), (4, .int z)] := hl
  refine lv_iload_n hx hb dL_call_0 rfl (lv_at hl 1 rfl) ?_
  refine lv_tableIn (off := 219) (tgt := 220) hx hb dL_call_1 (by decide) (by decide) (by decide) (by decide) ?_
  refine lv_aload_n hx hb dL_call_220 rfl (lv_at hl 0 rfl) ?_
  refine lv_iload_n hx hb dL_call_221 rfl (lv_at hl 2 rfl) ?_
  refine zk_call1 (vx_runSW (As := [.ref a.1, .int x]) (rest := []) ⟨hx, hb, hml, hown, hts⟩ (c_F_tryRefusedOn l G hst a σ hok x _) (vx_cwSW 2 hts gL_call_L_tryRefusedOn rfl rfl rfl (by decide +kernel) ⟨Nat.le_of_ble_eq_true rfl, Nat.le_of_ble_eq_true rfl⟩) (zk_preSH hN hE hA0 hS hP hD) rfl rfl hl.1 rfl (lv_room (Nat.le_of_ble_eq_true rfl)) dL_call_222 ⟨Nat.le_of_ble_eq_true rfl, Nat.le_of_ble_eq_true rfl⟩) hP hD hS hA (fun r u H locs hpost hP hD hS => ?_)
  exact zk_reti u hQ hx hb hr hlocks hS hP hD (Nat.le_of_ble_eq_true rfl) (Nat.le_of_ble_eq_true rfl) dL_call_225 hpost
set_option maxHeartbeats 2000000 in
set_option maxRecDepth 100000 in
theorem c_C_18 (l : Launch) (G : zk_G) (hst : l.stackTraces = false) (a : zA) (σ : zSt) (hok : yOk σ) (x y z : Int32) : zk_IH (S := zSt) l yL_call vL_call rmL_call G [.ref a.1, .int (nI 18), .int x, .int y, .int z] (zw G a σ) (fun r σ' => (qNeeds (kL (core σ)) x r ∧ core σ' = core σ) ∧ zTx σ') (zw G a) := by
  refine zk_bodyIN (cc := cL_call) (maxL := 5) (ret := (some .int)) (by decide) rfl (Nat.le_of_ble_eq_true rfl) ?_
  intro p E0 s m args below meth cd A ls Q hF hN hQ
  obtain ⟨hx, hb, hml, hr, hts, hown, hlocks, -, hE, hP, hD, hS, hA, hA0, hl⟩ := hF
  have hl : lv_has ls 5 [(0, .ref a.1), (1, .int (nI 18)), (2, .int x), (3, .int y), (4, .int z)] := hl
  refine lv_iload_n hx hb dL_call_0 rfl (lv_at hl 1 rfl) ?_
  refine lv_tableIn (off := 225) (tgt := 226) hx hb dL_call_1 (by decide) (by decide) (by decide) (by decide) ?_
  refine lv_aload_n hx hb dL_call_226 rfl (lv_at hl 0 rfl) ?_
  refine lv_iload_n hx hb dL_call_227 rfl (lv_at hl 2 rfl) ?_
  refine zk_call1 (vx_runSW (As := [.ref a.1, .int x]) (rest := []) ⟨hx, hb, hml, hown, hts⟩ (c_F_tryNeeds l G hst a σ hok x _) (vx_cwSW 2 hts gL_call_L_tryNeeds rfl rfl rfl (by decide +kernel) ⟨Nat.le_of_ble_eq_true rfl, Nat.le_of_ble_eq_true rfl⟩) (zk_preSH hN hE hA0 hS hP hD) rfl rfl hl.1 rfl (lv_room (Nat.le_of_ble_eq_true rfl)) dL_call_228 ⟨Nat.le_of_ble_eq_true rfl, Nat.le_of_ble_eq_true rfl⟩) hP hD hS hA (fun r u H locs hpost hP hD hS => ?_)
  exact zk_reti u hQ hx hb hr hlocks hS hP hD (Nat.le_of_ble_eq_true rfl) (Nat.le_of_ble_eq_true rfl) dL_call_231 hpost
set_option maxHeartbeats 2000000 in
set_option maxRecDepth 100000 in
theorem c_C_19 (l : Launch) (G : zk_G) (hst : l.stackTraces = false) (a : zA) (σ : zSt) (hok : yOk σ) (x y z : Int32) : zk_IH (S := zSt) l yL_call vL_call rmL_call G [.ref a.1, .int (nI 19), .int x, .int y, .int z] (zw G a σ) (fun r σ' => (r = fIfEnt (kL (core σ)) x y z ∧ core σ' = core σ) ∧ zTx σ') (zw G a) := by
  refine zk_bodyIN (cc := cL_call) (maxL := 5) (ret := (some .int)) (by decide) rfl (Nat.le_of_ble_eq_true rfl) ?_
  intro p E0 s m args below meth cd A ls Q hF hN hQ
  obtain ⟨hx, hb, hml, hr, hts, hown, hlocks, -, hE, hP, hD, hS, hA, hA0, hl⟩ := hF
  have hl : lv_has ls 5 [(0, .ref a.1), (1, .int (nI 19)), (2, .int x), (3, .int y), (4, .int z)] := hl
  refine lv_iload_n hx hb dL_call_0 rfl (lv_at hl 1 rfl) ?_
  refine lv_tableIn (off := 231) (tgt := 232) hx hb dL_call_1 (by decide) (by decide) (by decide) (by decide) ?_
  refine lv_aload_n hx hb dL_call_232 rfl (lv_at hl 0 rfl) ?_
  refine lv_iload_n hx hb dL_call_233 rfl (lv_at hl 2 rfl) ?_
  refine lv_iload_n hx hb dL_call_234 rfl (lv_at hl 3 rfl) ?_
  refine lv_iload hx hb dL_call_235 (lv_at hl 4 rfl) ?_
  refine zk_call1 (vx_runSW (As := [.ref a.1, .int x, .int y, .int z]) (rest := []) ⟨hx, hb, hml, hown, hts⟩ (c_F_tryIfEntitled l G hst a σ hok x y z _) (vx_cwSW 4 hts gL_call_L_tryIfEntitled rfl rfl rfl (by decide +kernel) ⟨Nat.le_of_ble_eq_true rfl, Nat.le_of_ble_eq_true rfl⟩) (zk_preSH hN hE hA0 hS hP hD) rfl rfl hl.1 rfl (lv_room (Nat.le_of_ble_eq_true rfl)) dL_call_237 ⟨Nat.le_of_ble_eq_true rfl, Nat.le_of_ble_eq_true rfl⟩) hP hD hS hA (fun r u H locs hpost hP hD hS => ?_)
  exact zk_reti u hQ hx hb hr hlocks hS hP hD (Nat.le_of_ble_eq_true rfl) (Nat.le_of_ble_eq_true rfl) dL_call_240 hpost
set_option maxHeartbeats 2000000 in
set_option maxRecDepth 100000 in
theorem c_C_20 (l : Launch) (G : zk_G) (hst : l.stackTraces = false) (a : zA) (σ : zSt) (hok : yOk σ) (x y z : Int32) : zk_IH (S := zSt) l yL_call vL_call rmL_call G [.ref a.1, .int (nI 20), .int x, .int y, .int z] (zw G a σ) (fun r σ' => (r = fIfPrice (kL (core σ)) x ∧ core σ' = core σ) ∧ zTx σ') (zw G a) := by
  refine zk_bodyIN (cc := cL_call) (maxL := 5) (ret := (some .int)) (by decide) rfl (Nat.le_of_ble_eq_true rfl) ?_
  intro p E0 s m args below meth cd A ls Q hF hN hQ
  obtain ⟨hx, hb, hml, hr, hts, hown, hlocks, -, hE, hP, hD, hS, hA, hA0, hl⟩ := hF
  have hl : lv_has ls 5 [(0, .ref a.1), (1, .int (nI 20)), (2, .int x), (3, .int y), (4, .int z)] := hl
  refine lv_iload_n hx hb dL_call_0 rfl (lv_at hl 1 rfl) ?_
  refine lv_tableIn (off := 240) (tgt := 241) hx hb dL_call_1 (by decide) (by decide) (by decide) (by decide) ?_
  refine lv_aload_n hx hb dL_call_241 rfl (lv_at hl 0 rfl) ?_
  refine lv_iload_n hx hb dL_call_242 rfl (lv_at hl 2 rfl) ?_
  refine zk_call1 (vx_runSW (As := [.ref a.1, .int x]) (rest := []) ⟨hx, hb, hml, hown, hts⟩ (c_F_tryIfPrice l G hst a σ hok x _) (vx_cwSW 2 hts gL_call_L_tryIfPrice rfl rfl rfl (by decide +kernel) ⟨Nat.le_of_ble_eq_true rfl, Nat.le_of_ble_eq_true rfl⟩) (zk_preSH hN hE hA0 hS hP hD) rfl rfl hl.1 rfl (lv_room (Nat.le_of_ble_eq_true rfl)) dL_call_243 ⟨Nat.le_of_ble_eq_true rfl, Nat.le_of_ble_eq_true rfl⟩) hP hD hS hA (fun r u H locs hpost hP hD hS => ?_)
  exact zk_reti u hQ hx hb hr hlocks hS hP hD (Nat.le_of_ble_eq_true rfl) (Nat.le_of_ble_eq_true rfl) dL_call_246 hpost
set_option maxHeartbeats 2000000 in
set_option maxRecDepth 100000 in
theorem c_C_21 (l : Launch) (G : zk_G) (hst : l.stackTraces = false) (a : zA) (σ : zSt) (hok : yOk σ) (x y z : Int32) : zk_IH (S := zSt) l yL_call vL_call rmL_call G [.ref a.1, .int (nI 21), .int x, .int y, .int z] (zw G a σ) (fun r σ' => (r = (fKeep x (core σ)).1 ∧ core σ' = (fKeep x (core σ)).2) ∧ zTx σ') (zw G a) := by
  refine zk_bodyIN (cc := cL_call) (maxL := 5) (ret := (some .int)) (by decide) rfl (Nat.le_of_ble_eq_true rfl) ?_
  intro p E0 s m args below meth cd A ls Q hF hN hQ
  obtain ⟨hx, hb, hml, hr, hts, hown, hlocks, -, hE, hP, hD, hS, hA, hA0, hl⟩ := hF
  have hl : lv_has ls 5 [(0, .ref a.1), (1, .int (nI 21)), (2, .int x), (3, .int y), (4, .int z)] := hl
  refine lv_iload_n hx hb dL_call_0 rfl (lv_at hl 1 rfl) ?_
  refine lv_tableIn (off := 246) (tgt := 247) hx hb dL_call_1 (by decide) (by decide) (by decide) (by decide) ?_
  refine lv_aload_n hx hb dL_call_247 rfl (lv_at hl 0 rfl) ?_
  refine lv_iload_n hx hb dL_call_248 rfl (lv_at hl 2 rfl) ?_
  refine zk_call1 (vx_runSW (As := [.ref a.1, .int x]) (rest := []) ⟨hx, hb, hml, hown, hts⟩ (c_F_tryKeep l G hst a σ hok x _) (vx_cwSW 2 hts gL_call_L_tryKeep rfl rfl rfl (by decide +kernel) ⟨Nat.le_of_ble_eq_true rfl, Nat.le_of_ble_eq_true rfl⟩) (zk_preSH hN hE hA0 hS hP hD) rfl rfl hl.1 rfl (lv_room (Nat.le_of_ble_eq_true rfl)) dL_call_249 ⟨Nat.le_of_ble_eq_true rfl, Nat.le_of_ble_eq_true rfl⟩) hP hD hS hA (fun r u H locs hpost hP hD hS => ?_)
  exact zk_reti u hQ hx hb hr hlocks hS hP hD (Nat.le_of_ble_eq_true rfl) (Nat.le_of_ble_eq_true rfl) dL_call_252 hpost
set_option maxHeartbeats 2000000 in
set_option maxRecDepth 100000 in
theorem c_C_22 (l : Launch) (G : zk_G) (hst : l.stackTraces = false) (a : zA) (σ : zSt) (hok : yOk σ) (x y z : Int32) : zk_IH (S := zSt) l yL_call vL_call rmL_call G [.ref a.1, .int (nI 22), .int x, .int y, .int z] (zw G a σ) (fun r σ' => (r = (fBack x (core σ)).1 ∧ core σ' = (fBack x (core σ)).2) ∧ zTx σ') (zw G a) := by
  refine zk_bodyIN (cc := cL_call) (maxL := 5) (ret := (some .int)) (by decide) rfl (Nat.le_of_ble_eq_true rfl) ?_
  intro p E0 s m args below meth cd A ls Q hF hN hQ
  obtain ⟨hx, hb, hml, hr, hts, hown, hlocks, -, hE, hP, hD, hS, hA, hA0, hl⟩ := hF
  have hl : lv_has ls 5 [(0, .ref a.1), (1, .int (nI 22)), (2, .int x), (3, .int y), (4, .int z)] := hl
  refine lv_iload_n hx hb dL_call_0 rfl (lv_at hl 1 rfl) ?_
  refine lv_tableOut (tgt := 253) hx hb dL_call_1 (Or.inr (by decide)) (by decide) ?_
  refine lv_aload_n hx hb dL_call_253 rfl (lv_at hl 0 rfl) ?_
  refine lv_iload_n hx hb dL_call_254 rfl (lv_at hl 2 rfl) ?_
  refine zk_call1 (vx_runSW (As := [.ref a.1, .int x]) (rest := []) ⟨hx, hb, hml, hown, hts⟩ (c_F_tryBack l G hst a σ hok x _) (vx_cwSW 2 hts gL_call_L_tryBack rfl rfl rfl (by decide +kernel) ⟨Nat.le_of_ble_eq_true rfl, Nat.le_of_ble_eq_true rfl⟩) (zk_preSH hN hE hA0 hS hP hD) rfl rfl hl.1 rfl (lv_room (Nat.le_of_ble_eq_true rfl)) dL_call_255 ⟨Nat.le_of_ble_eq_true rfl, Nat.le_of_ble_eq_true rfl⟩) hP hD hS hA (fun r u H locs hpost hP hD hS => ?_)
  exact zk_reti u hQ hx hb hr hlocks hS hP hD (Nat.le_of_ble_eq_true rfl) (Nat.le_of_ble_eq_true rfl) dL_call_258 hpost
