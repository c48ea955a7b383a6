/-! THE CLAIM OUT OF ONE WALK OF THE LAW'S BODY. Your part is whole_start (and what it stands on); all else here is the same for every law, but numbers. -/
def R_law : String := "MealAccountsLaw"
def lw_P (b : Addr) (xs : List Int32) (args : Array Value) (s : State) : Prop := args = #[.ref b] ∧ s.IntsAt b xs ∧ xs.length ≤ 260 ∧ (Jvm.Cond.and given_1 narrow_1).before args s = true
def lw_Q (_ : Array Value) (s : State) (o : Outcome) (t : State) : Prop := o = .returned (some (.int 1)) ∧ Framed s o t [] 600130 7301080
def lw_Z (below : List Frame) (a : Array Value) (s : State) : State → Prop := fun t => ∃ o, t.status = .running ∧ Ended t below o ∧ lw_Q a s o t
/-- the law's own end, with 1 on the stack, nothing written that was there before, its room as the claim has it -/
theorem lw_ret {p : Program} {l : Launch} {e : Env} {s : State} {m : MethodId} {below : List Frame} {meth : Method} {c : Code} {b : Nat} (hx : p.tables.exec = Jvm.exec) (hb : c.code = code) (hr : meth.sig.returnType = ret) (hlocks : meth.locks = false) {pc : Nat} {H : Heap} {ls : Array Slot} (hdg : decode code pc = .ok (.ireturn, 1)) : W p l e room_1 s m #[Value.ref b] below meth c H [] 600130 7301080 (lw_Z below #[Value.ref b] s) (F0 m pc ls [.int 1]) := by
  intro T hT X
  obtain ⟨fs, hret, hrun, hended, hW, hframe⟩ := X.leave (v := some (.int 1)) (hlocks := hlocks) (fun h => by rw [hr] at h; cases h)
  have hmeth' : T.vm.method? m = some meth := X.method'
  refine ⟨T.setFrames fs, ?_, .returned (some (.int 1)), hrun, hended, rfl, ⟨_, rfl⟩, hW, hframe⟩
  jvm_step X.here [X.here.top, hx, hb, hdg, hmeth', hr, ret, narrow_b1]
  (try refine ⟨rfl, ?_⟩); (try refine ⟨rfl, ?_⟩)
  first | (intro acts; rw [hret _ acts rfl rfl rfl]) | rw [hret _ _ rfl rfl rfl]
  exact Steps.refl _
/-- what holds at the law's entry: the machine, the code, the tables' words (any of lw_tbl by 'hts w (by decide +kernel)'), the script of L ints xs at the cell b, what the Statement gives of the start (any of its parts by flat_of_before) -/
def lw_At (p : Program) (s : State) (m : MethodId) (meth : Method) (c : Code) (b L : Nat) (xs : Nat → Int32) : Prop :=
  p.tables.exec = Jvm.exec ∧ c.code = code ∧ meth.sig.returnType = ret ∧ c.maxLocals = 10 ∧ s.vm.findClass R_law = some m.cls ∧ (∀ w ∈ lw_tbl, w.before #[Value.ref b] s = true) ∧ va_X b L xs s s.heap ∧ b < s.heap.size ∧ meth.locks = false ∧ (Jvm.Cond.and given_1 narrow_1).before #[Value.ref b] s = true
/-! The law: the loop, the start. -/
/-- the bound of the balances after i steps -/
def zlB (i : Nat) : Int := 4809999 + 40000 * (i : Int)
theorem zlB_s (i : Nat) : zlB i + 40000 = zlB (i + 1) := by unfold zlB; omega
theorem zlB_lo (i : Nat) : 4809999 ≤ zlB i := by unfold zlB; omega
theorem zlB_hi {i : Nat} (h : i ≤ 30) : zlB i ≤ 6009999 := by unfold zlB; omega
/-- what lies in the law's own cells -/
abbrev zlA (s : State) : Nat → Prop := fun q => s.heap.size ≤ q
set_option maxHeartbeats 8000000 in
set_option maxRecDepth 100000 in
theorem zl_loop {p : Program} {l : Launch} {e : Env} {s : State} {m : MethodId} {below : List Frame} {meth : Method} {c : Code} {bs Ls : Nat} {xs : Nat → Int32} {G : zk_G} {a b : zA} (hst : l.stackTraces = false) (C0 : lw_At p s m meth c bs Ls xs) (hLs : Ls ≤ 260) (hE : zk_E G s) (hN : zk_NC s) : (fun i => ∀ (κ : zCo) (σ τ : zSt) (H : Heap) (locs : List Loc) (ls : Array Slot) (cells slots : Nat), (cells + 5464 * (30 - i) ≤ 600130 ∧ slots + 32784 * (30 - i) ≤ 7301080) → kI (zlB i) κ → zTx σ → core σ = κ → zTx τ → core τ = κ → va_P G.1 vwCl (zw G a σ ++ zw G b τ) H → va_D (zlA s) (zw G a σ ++ zw G b τ) → va_S (zlA s) s.heap H locs → lv_has ls 10 [(0, .ref bs), (1, .ref a.1), (2, .ref b.1), (3, .int (nI 1)), (4, .int (nI i))] → W p l e room_1 s m #[.ref bs] below meth c H locs cells slots (lw_Z below #[.ref bs] s) (F0 m 21 ls [])) 0 := by
  obtain ⟨hx, hb, hr, hml, hown, hts, hX, hbl, hlocks, hgv⟩ := id C0
  have hown : s.vm.findClass RL = some m.cls := hown
  have hA : ∀ q : Nat, s.heap.size ≤ q → zlA s q := fun _ h => h
  have hA0 : ∀ q : Nat, zlA s q → G.2.2.1 ≤ q := fun q h => Nat.le_trans hE.2.2.2.2 h
  have F : zFx p s m meth c #[.ref bs] cL_law 10 (some .boolean) lw_tbl (zlA s) G := ⟨hx, hb, hml, hr, hts, hown, hlocks, hE, hA, hA0, hN⟩
  have hbA : ¬ zlA s bs := Nat.not_le.mpr hbl
  refine zk_loop0 (V := fun i => ∀ (κ : zCo) (σ τ : zSt) (H : Heap) (locs : List Loc) (ls : Array Slot) (cells slots : Nat), (cells + 5464 * (30 - i) ≤ 600130 ∧ slots + 32784 * (30 - i) ≤ 7301080) → kI (zlB i) κ → zTx σ → core σ = κ → zTx τ → core τ = κ → va_P G.1 vwCl (zw G a σ ++ zw G b τ) H → va_D (zlA s) (zw G a σ ++ zw G b τ) → va_S (zlA s) s.heap H locs → lv_has ls 10 [(0, .ref bs), (1, .ref a.1), (2, .ref b.1), (3, .int (nI 1)), (4, .int (nI i))] → W p l e room_1 s m #[.ref bs] below meth c H locs cells slots (lw_Z below #[.ref bs] s) (F0 m 21 ls [])) (n := 30) ?_ ?_
  · intro κ σ τ H locs ls cells slots hcs hz ht0 hg0 ht1 hg1 hP hD hS hl
    refine lv_iload hx hb dL_law_21 (lv_at hl 4 rfl) ?_
    refine lv_bipush (v := nI 30) hx hb dL_law_23 (by decide) ?_
    refine lv_icmp_ge (tgt := 242) hx hb dL_law_25 (by decide) (fun _ => ?_) (fun h => absurd (by decide) h)
    refine lv_iload_n hx hb dL_law_242 rfl (lv_at hl 3 rfl) ?_
    refine zk_top (show nI 1 = 1 from rfl) ?_
    refine va_forget (fun q hq => hS.2.2 q hq) ?_
    refine W.widen (k := 600130) (n := 7301080) (by omega) (by omega) ?_
    exact lw_ret hx hb hr hlocks dL_law_243
  · intro i hi ih κ σ τ H locs ls cells slots hcs hz ht0 hg0 ht1 hg1 hP hD hS hl
    have hi1 : i + 1 ≤ 30 := hi
    have tail : ∀ (κ : zCo) (σ τ : zSt) (H : Heap) (locs : List Loc) (ls : Array Slot) (cells slots : Nat), (cells + 5464 * (30 - (i + 1)) ≤ 600130 ∧ slots + 32784 * (30 - (i + 1)) ≤ 7301080) → kI (zlB (i + 1)) κ → zTx σ → core σ = κ → zTx τ → core τ = κ → va_P G.1 vwCl (zw G a σ ++ zw G b τ) H → va_D (zlA s) (zw G a σ ++ zw G b τ) → va_S (zlA s) s.heap H locs → lv_has ls 10 [(0, .ref bs), (1, .ref a.1), (2, .ref b.1), (3, .int (nI 1)), (4, .int (nI i))] → W p l e room_1 s m #[.ref bs] below meth c H locs cells slots (lw_Z below #[.ref bs] s) (F0 m 236 ls []) := by
      intro κ σ τ H locs ls cells slots hcs hz ht0 hg0 ht1 hg1 hP hD hS hl
      refine lv_iinc (v := nI (i + 1)) (lv' := [(4, .int (nI (i + 1))), (0, .ref bs), (1, .ref a.1), (2, .ref b.1), (3, .int (nI 1))]) hx hb dL_law_236 hl (k := 4) rfl (zk_inc i 1) (by decide) rfl (fun ls hl => ?_)
      refine lv_goto (tgt := 21) hx hb dL_law_239 (by decide) ?_
      exact ih κ σ τ H locs ls _ _ hcs hz ht0 hg0 ht1 hg1 hP hD hS (lv_sub hl [1, 2, 3, 4, 0] rfl)
    obtain ⟨x, hcx⟩ : ∃ x, cellN xs Ls (2 * i) = x := ⟨_, rfl⟩
    obtain ⟨y, hcy⟩ : ∃ y, cellN xs Ls (2 * i + 1) = y := ⟨_, rfl⟩
    have hx31 : x < 2 ^ 31 := by rw [← hcx]; exact cell_lt _ _ _
    have hy31 : y < 2 ^ 31 := by rw [← hcy]; exact cell_lt _ _ _
    obtain ⟨rv, κ1, hq1⟩ : ∃ rv κ1, kAct (x % 24) y κ = (rv, κ1) := ⟨_, _, rfl⟩
    have hlo := zlB_lo i
    have hhi := zlB_hi (show i ≤ 30 by omega)
    have hz1 : kI (zlB (i + 1)) κ1 := by
      have h := kI_kAct hz hlo (by omega) (x % 24) y (Nat.mod_lt _ (by decide))
      rw [hq1, zlB_s] at h
      exact h
    have hlo1 := zlB_lo (i + 1)
    have hhi1 := zlB_hi hi1
    refine lv_iload hx hb dL_law_21 (lv_at hl 4 rfl) ?_
    refine lv_bipush (v := nI 30) hx hb dL_law_23 (by decide) ?_
    refine lv_icmp_ge (tgt := 242) hx hb dL_law_25 (by decide) (fun h => absurd (zk_le (by omega) (by omega) h) (by omega)) (fun _ => ?_)
    refine zs_1 hst F ht0 hg0 ht1 hg1 (kI_ok hz) hi hLs hX hbl hbA hcx hcy hx31 hy31 (kI_ok hz1) hq1 (kI_bal hz (by omega)) (kI_bal hz1 (by omega)) hP hD hS hl ⟨by omega, by omega⟩ (fun σ τ H locs ls ht0 hg0 ht1 hg1 hP hD hS hl => ?_)
    refine lv_iload hx hb dL_law_107 (lv_at hl 4 rfl) ?_
    refine lv_iconst (v := nI 5) hx hb dL_law_109 (by decide) ?_
    refine zk_iremN hx hb dL_law_110 (by omega) (by omega) (by omega) ?_
    refine lv_iconst (v := nI 4) hx hb dL_law_111 (by decide) ?_
    refine lv_icmp_ne (tgt := 236) hx hb dL_law_112 (by decide) (fun _ => ?_) (fun _ => ?_)
    · exact tail κ1 σ τ H locs ls _ _ (by omega) hz1 ht0 hg0 ht1 hg1 hP hD hS (lv_sub hl [0, 1, 2, 3, 4] rfl)
    · refine zs_2 hst F ht0 hg0 ht1 hg1 (kI_ok hz1) hx31 hy31 (kI_ok (kI_hold hz1)) hz1 (by omega) (by omega) hP hD hS hl ⟨by omega, by omega⟩ (fun σ τ H locs ls ht0 hg0 ht1 hg1 hP hD hS hl => ?_)
      exact tail (kHold κ1) σ τ H locs ls _ _ (by omega) (kI_hold hz1) ht0 hg0 ht1 hg1 hP hD hS hl
set_option maxHeartbeats 4000000 in
set_option maxRecDepth 100000 in
theorem whole_start {p : Program} {e : Env} {s : State} {m : MethodId} {below : List Frame} {meth : Method} {c : Code} (l : Launch) (hflags : l.flags = flags0) {b L : Nat} {xs : Nat → Int32} (hL : L ≤ 260) (C0 : lw_At p s m meth c b L xs) : W p l e room_1 s m #[Value.ref b] below meth c s.heap [] 0 0 (lw_Z below #[Value.ref b] s) (entryFrame m ([Value.ref b] : List Value).toArray 10) := by
  obtain ⟨hx, hb, hr, hml, hown, hts, hX, hbl, hlocks, hgv⟩ := id C0
  have hst : l.stackTraces = false := by
    unfold Launch.stackTraces
    rw [hflags]
    decide +kernel
  obtain ⟨G, hE, hN⟩ := zl_env hts hgv
  have hown : s.vm.findClass RL = some m.cls := hown
  have hA : ∀ q : Nat, s.heap.size ≤ q → zlA s q := fun _ h => h
  have hA0 : ∀ q : Nat, zlA s q → G.2.2.1 ≤ q := fun q h => Nat.le_trans hE.2.2.2.2 h
  have hS : va_S (zlA s) s.heap s.heap [] := va_S.rf
  have hK := hE.1
  have hP : va_P G.1 vwCl [] s.heap := fun k q h => by simp at h
  have hD : va_D (zlA s) [] := ⟨fun i j p q h => by simp at h, fun k q h => by simp at h⟩
  have hl := lv_entry ([.ref b]) (n := 10) (Nat.le_of_ble_eq_true rfl)
  rw [lg_entry_eq]
  generalize (lg_sl ([.ref b]) ++ List.replicate (10 - (lg_sl ([.ref b])).length) Slot.unset).toArray = ls at hl ⊢
  have hl : lv_has ls 10 [(0, .ref b)] := hl
  have wr1 : ∀ (w : Cond) (i : Nat), wsL_law0_r1[i]? = some w → w.before #[Value.ref b] s = true := fun w i h => hts w (in0_wsL_law0_r1 w (List.mem_of_getElem? h))
  refine va_new (ci := 4) (fs := [.null, .null, .null, .null, .null, .null]) (C := RX5) (T := TX5) (N := 6) hx hb hts inX5 tyX5 tyX5_ok hown (wr1 (.classLink RL 8 RX5) 0 rfl) (wr1 (.instantiable RX5 6) 1 rfl) (wr1 (.initialized RX5) 2 rfl) hK hP hD hS hA rfl (fun j hj => by rcases (show j = 0 ∨ j = 1 ∨ j = 2 ∨ j = 3 ∨ j = 4 ∨ j = 5 by omega) with rfl | rfl | rfl | rfl | rfl | rfl <;> rfl) (Nat.le_of_ble_eq_true rfl) (Nat.le_of_ble_eq_true rfl) dL_law_0 (fun qx H hP hD hS => ?_)
  refine lv_dup hx hb dL_law_3 rfl ?_
  have hP : va_P G.1 vwCl ([(qx, .inr (4, [.null, .null, .null, .null, .null, .null]))] ++ []) H := hP
  have hD : va_D (zlA s) ([(qx, .inr (4, [.null, .null, .null, .null, .null, .null]))] ++ []) := hD
  refine zk_callV (wr := []) (va_runI (As := []) (rest := [.ref qx]) ⟨hx, hb, hml, hown, hts⟩ (c_X5_init l G qx _) (cwI 0 hts gL_law_X5_init rfl rfl rfl (wr1 (.initialized RX5) 2 rfl) (wr1 (.methodLink RL 217 yX5_init) 6 rfl) (wr1 (.instanceMethod yX5_init) 7 rfl) rfl (by decide +kernel) ⟨Nat.le_of_ble_eq_true rfl, Nat.le_of_ble_eq_true rfl⟩) (zk_preS hE hA0 hS (zk_Papp hP).1 (zk_Dapp hD).1) rfl rfl hl.1 rfl (lv_room (Nat.le_of_ble_eq_true rfl)) dL_law_4 ⟨Nat.le_of_ble_eq_true rfl, Nat.le_of_ble_eq_true rfl⟩) hP hD hS hA (fun a H locs ea hP hD hS => ?_)
  have hP2 : va_P G.1 vwCl (zb_X0 G a) H := by rw [← List.append_nil (zb_X0 G a)]; exact hP
  have hD2 : va_D (zlA s) (zb_X0 G a) := by rw [← List.append_nil (zb_X0 G a)]; exact hD
  have ea : a.1 = qx := ea
  subst ea
  have hP := hP2
  have hD := hD2
  refine lv_astore_n (lv' := [(1, .ref a.1), (0, .ref b)]) hx hb dL_law_7 rfl hl (by decide) rfl (fun ls hl => ?_)
  refine W.widen (k := 242) (n := 28361) (Nat.le_of_ble_eq_true rfl) (Nat.le_of_ble_eq_true rfl) ?_
  refine va_new (ci := 4) (fs := [.null, .null, .null, .null, .null, .null]) (C := RX5) (T := TX5) (N := 6) hx hb hts inX5 tyX5 tyX5_ok hown (wr1 (.classLink RL 8 RX5) 0 rfl) (wr1 (.instantiable RX5 6) 1 rfl) (wr1 (.initialized RX5) 2 rfl) hK hP hD hS hA rfl (fun j hj => by rcases (show j = 0 ∨ j = 1 ∨ j = 2 ∨ j = 3 ∨ j = 4 ∨ j = 5 by omega) with rfl | rfl | rfl | rfl | rfl | rfl <;> rfl) (Nat.le_of_ble_eq_true rfl) (Nat.le_of_ble_eq_true rfl) dL_law_8 (fun qm H hP hD hS => ?_)
  refine lv_dup hx hb dL_law_11 rfl ?_
  have hP := zk_Pperm hP List.perm_append_comm
  have hD := zk_Dperm hD List.perm_append_comm
  refine zk_callV (wr := zb_X0 G a) (va_runI (As := []) (rest := [.ref qm]) ⟨hx, hb, hml, hown, hts⟩ (c_X5_init l G qm _) (cwI 0 hts gL_law_X5_init rfl rfl rfl (wr1 (.initialized RX5) 2 rfl) (wr1 (.methodLink RL 217 yX5_init) 6 rfl) (wr1 (.instanceMethod yX5_init) 7 rfl) rfl (by decide +kernel) ⟨Nat.le_of_ble_eq_true rfl, Nat.le_of_ble_eq_true rfl⟩) (zk_preS hE hA0 hS (zk_Papp hP).1 (zk_Dapp hD).1) rfl rfl hl.1 rfl (lv_room (Nat.le_of_ble_eq_true rfl)) dL_law_12 ⟨Nat.le_of_ble_eq_true rfl, Nat.le_of_ble_eq_true rfl⟩) hP hD hS hA (fun bb H locs eb hP hD hS => ?_)
  have hP2 : va_P G.1 vwCl (zb_X0 G a ++ zb_X0 G bb) H := zk_Pperm hP List.perm_append_comm
  have hD2 : va_D (zlA s) (zb_X0 G a ++ zb_X0 G bb) := zk_Dperm hD List.perm_append_comm
  have eb : bb.1 = qm := eb
  subst eb
  refine lv_astore_n (lv' := [(2, .ref bb.1), (1, .ref a.1), (0, .ref b)]) hx hb dL_law_15 rfl hl (by decide) rfl (fun ls hl => ?_)
  refine W.widen (k := 500) (n := 60000) (Nat.le_of_ble_eq_true rfl) (Nat.le_of_ble_eq_true rfl) ?_
  refine lv_iconst (v := nI 1) hx hb dL_law_16 (by decide) ?_
  refine lv_istore_n (lv' := [(3, .int (nI 1)), (2, .ref bb.1), (1, .ref a.1), (0, .ref b)]) hx hb dL_law_17 rfl hl (by decide) rfl (fun ls hl => ?_)
  refine lv_iconst (v := nI 0) hx hb dL_law_18 (by decide) ?_
  refine lv_istore (lv' := [(4, .int (nI 0)), (3, .int (nI 1)), (2, .ref bb.1), (1, .ref a.1), (0, .ref b)]) hx hb dL_law_19 hl (by decide) rfl (fun ls hl => ?_)
  exact zl_loop hst C0 hL hE hN (core zSt0) zSt0 zSt0 H locs ls 500 60000 ⟨by decide, by decide⟩ kI_0 zTx_0 rfl zTx_0 rfl (zk_Pperm hP2 ((zw_0 G a).append (zw_0 G bb))) (zk_Dperm hD2 ((zw_0 G a).append (zw_0 G bb))) hS (lv_sub hl [4, 3, 2, 1, 0] rfl)
