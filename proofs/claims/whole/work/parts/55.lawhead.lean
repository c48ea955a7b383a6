/-! THE CLAIM OUT OF ONE WALK OF THE LAW'S BODY. Your part is whole_start (and what it stands on); all else here is the same for every law, but numbers. -/
def R_law : String := "MealAccountsLaw"
def lw_P (b : Addr) (xs : List Int32) (args : Array Value) (s : State) : Prop := args = #[.ref b] ∧ s.IntsAt b xs ∧ xs.length ≤ 2048 ∧ (Jvm.Cond.and given_1 narrow_1).before args s = true
def lw_Q (_ : Array Value) (s : State) (o : Outcome) (t : State) : Prop := o = .returned (some (.int 1)) ∧ Framed s o t [] 601024 7293034
def lw_Z (below : List Frame) (a : Array Value) (s : State) : State → Prop := fun t => ∃ o, t.status = .running ∧ Ended t below o ∧ lw_Q a s o t
/-- the law's own end, with 1 on the stack, nothing written that was there before, its room as the claim has it -/
theorem lw_ret {p : Program} {l : Launch} {e : Env} {s : State} {m : MethodId} {below : List Frame} {meth : Method} {c : Code} {b : Nat} (hx : p.tables.exec = Jvm.exec) (hb : c.code = code) (hr : meth.sig.returnType = ret) (hlocks : meth.locks = false) {pc : Nat} {H : Heap} {ls : Array Slot} (hdg : decode code pc = .ok (.ireturn, 1)) : W p l e room_1 s m #[Value.ref b] below meth c H [] 601024 7293034 (lw_Z below #[Value.ref b] s) (F0 m pc ls [.int 1]) := by
  intro T hT X
  obtain ⟨fs, hret, hrun, hended, hW, hframe⟩ := X.leave (v := some (.int 1)) (hlocks := hlocks) (fun h => by rw [hr] at h; cases h)
  have hmeth' : T.vm.method? m = some meth := X.method'
  refine ⟨T.setFrames fs, ?_, .returned (some (.int 1)), hrun, hended, rfl, ⟨_, rfl⟩, hW, hframe⟩
  jvm_step X.here [X.here.top, hx, hb, hdg, hmeth', hr, ret, narrow_b1]
  (try refine ⟨rfl, ?_⟩); (try refine ⟨rfl, ?_⟩)
  first | (intro acts; rw [hret _ acts rfl rfl rfl]) | rw [hret _ _ rfl rfl rfl]
  exact Steps.refl _
/-- what holds at the law's entry: the machine, the code, the tables' words (any of lw_tbl by 'hts w (by decide +kernel)'), the script of L ints xs at the cell b, what the Statement gives of the start (any of its parts by flat_of_before) -/
def lw_At (p : Program) (s : State) (m : MethodId) (meth : Method) (c : Code) (b L : Nat) (xs : Nat → Int32) : Prop :=
  p.tables.exec = Jvm.exec ∧ c.code = code ∧ meth.sig.returnType = ret ∧ c.maxLocals = 7 ∧ s.vm.findClass R_law = some m.cls ∧ (∀ w ∈ lw_tbl, w.before #[Value.ref b] s = true) ∧ va_X b L xs s s.heap ∧ b < s.heap.size ∧ meth.locks = false ∧ (Jvm.Cond.and given_1 narrow_1).before #[Value.ref b] s = true
/-! The law's body: what stands through it; loads of the script; the end of a case. -/
/-- the bound of the balances after j calls -/
def zlB (j : Nat) : Int := 4809999 + 40000 * (j : Int)
theorem zlB_s (j : Nat) : zlB j + 40000 = zlB (j + 1) := by unfold zlB; omega
theorem zlB_1 (j : Nat) : zlB j ≤ zlB (j + 1) := by unfold zlB; omega
theorem zlB_lo (j : Nat) : 4809999 ≤ zlB j := by unfold zlB; omega
theorem zlB_hi {j : Nat} (h : j < 512) : zlB j ≤ 25289999 := by unfold zlB; omega
/-- the long, the class's object, the model's object -/
def zlW (G : zk_G) (a : zA) (b : Nat → Nat) (q : Nat) (fo : Nat → Int64) (T L Z : zL) (sv : Nat → Int32) (SL S : Nat → zL) (o cn : Nat) (rf : Int32) (tn : Nat) (sp ou : Int32) (ch : Nat → Int32) (K Y : zL) (D SK : Nat → zL) (sk : Nat → Int32) : va_W :=
  zb_o G q fo ++ (zb_5 G a ++ (zb_T G a.2.1 T ++ (zb_L G a.2.2.1 L ++ (zb_M G a.2.2.1 L ++ (zb_L G a.2.2.2.1 Z ++ (zb_M G a.2.2.2.1 Z ++ (zb_S G a sv ++ (zb_P G a.2.2.2.2.2.2.2 SL 2 ++ (zb_H G a.2.2.2.2.1.1 a.2.2.2.2.1.2.1 a.2.2.2.2.1.2.2 S (nI o) (nI cn) ++ (zb_6 G b rf (nI tn) (nI cn) sp ou ++ (zb_a G (b 1) 120 ch ++ (zb_r G (b 2) K ++ (zb_r G (b 3) Y ++ (zb_d G (b 4) D ++ (zb_k G (b 5) SK ++ zb_f G (b 6) sk)))))))))))))))
/-- what lies in the law's own cells -/
abbrev zlA (s : State) : Nat → Prop := fun q => s.heap.size ≤ q
/-- after j calls -/
def zlS (G : zk_G) (s : State) (a : zA) (b : Nat → Nat) (q j : Nat) (H : Heap) (locs : List Loc) : Prop :=
  ∃ (fo : Nat → Int64) (T L Z : zL) (sv : Nat → Int32) (SL S : Nat → zL) (o cn : Nat) (rf : Int32) (tn : Nat) (sp ou : Int32) (ch : Nat → Int32) (K Y : zL) (D SK : Nat → zL) (sk : Nat → Int32) (n t : Nat),
    (zW (zlB j) L K n t ∧ zHist (zlB j) S o cn D ∧ zSlot (zlB j) sv SL sk SK ∧ zText T tn ch) ∧ va_P G.1 vwCl (zlW G a b q fo T L Z sv SL S o cn rf tn sp ou ch K Y D SK sk) H ∧ va_D (zlA s) (zlW G a b q fo T L Z sv SL S o cn rf tn sp ou ch K Y D SK sk) ∧ va_S (zlA s) s.heap H locs
/-- what stands through the law -/
def zlC (p : Program) (l : Launch) (s : State) (m : MethodId) (meth : Method) (c : Code) (bs Ls : Nat) (xs : Nat → Int32) (G : zk_G) : Prop :=
  l.stackTraces = false ∧ lw_At p s m meth c bs Ls xs ∧ Ls ≤ 2048 ∧ zk_E G s ∧ zk_NC s
theorem zk_preSH {s : State} {G : zk_G} {A : Nat → Prop} {wc : va_W} {H : Heap} {locs : List Loc} {As : List Value} (hN : zk_NC s) (hE : zk_E G s) (hA0 : ∀ q : Nat, A q → G.2.2.1 ≤ q) (hS : va_S A s.heap H locs) (hP : va_P G.1 vwCl wc H) (hD : va_D A wc) : PreS s H (va_Pc As (zk_BH G wc H.size)) As :=
  ⟨zk_blindH _ _ _ _, fun U hU hW => ⟨rfl, ⟨by rw [hU], hE.at hS hA0 hU hW, by rw [hU]; exact hP, hD.weaken fun _ q _ h => hA0 q.1 h⟩, zk_NC.moved hW.alike hN⟩⟩
/-- two script's ints as a long -/
def zlg (x y : Int32) : Int64 := (x.toInt64 <<< ((nI 32).toInt64 &&& 63)) ||| (y.toInt64 &&& 4294967295)
section ZLW
variable {p : Program} {l : Launch} {e : Env} {s : State} {m : MethodId} {below : List Frame} {meth : Method} {c : Code} {H : Heap} {locs : List Loc} {cells slots : Nat} {Q : State → Prop}
variable {bs Ls : Nat} {xs : Nat → Int32} {pc i k k2 : Nat} {ls : Array Slot} {st : List Value} {G : zk_G}
theorem zl_ld {v : Int} (C : zlC p l s m meth c bs Ls xs G) (hS : va_S (zlA s) s.heap H locs) (h0 : ls[0]? = some (.val (.ref bs))) (h4 : ls[4]? = some (.val (.int (nI i)))) (hi : i + k < Ls) (hv : Int32.ofInt v = nI k)
    (d0 : decode code pc = .ok (.aload_n 0, 1)) (d1 : decode code (pc + 1) = .ok (.iload 4, 2)) (d2 : decode code (pc + 3) = .ok (.iconst v, 1)) (d3 : decode code (pc + 4) = .ok (.iadd, 1)) (d4 : decode code (pc + 5) = .ok (.iaload, 1))
    (kk : W p l e room_1 s m #[.ref bs] below meth c H locs cells slots Q (F0 m (pc + 6) ls (.int (xs (i + k)) :: st))) : W p l e room_1 s m #[.ref bs] below meth c H locs cells slots Q (F0 m pc ls st) := by
  obtain ⟨hst, ⟨hx, hb, hr, hml, hown, hts, hX, hbl, hlocks, hgv⟩, hLs, hE, hN⟩ := C
  refine lv_aload_n hx hb d0 rfl h0 ?_
  refine lv_iload hx hb d1 h4 ?_
  refine lv_iconst (v := nI k) hx hb d2 hv ?_
  refine zk_iaddN hx hb d3 ?_
  refine va_sld hx hb hX hbl (Nat.not_le.mpr hbl) hS (vp_in_nI hi (by omega)) d4 ?_
  rw [nI_clamp (by omega)]
  exact kk
theorem zl_ldb {v : Int} (C : zlC p l s m meth c bs Ls xs G) (hS : va_S (zlA s) s.heap H locs) (h0 : ls[0]? = some (.val (.ref bs))) (h4 : ls[4]? = some (.val (.int (nI i)))) (hi : i + k < Ls) (hv : Int32.ofInt v = nI k)
    (d0 : decode code pc = .ok (.aload_n 0, 1)) (d1 : decode code (pc + 1) = .ok (.iload 4, 2)) (d2 : decode code (pc + 3) = .ok (.iconst v, 1)) (d3 : decode code (pc + 4) = .ok (.iadd, 1)) (d4 : decode code (pc + 5) = .ok (.iaload, 1))
    (d5 : decode code (pc + 6) = .ok (.ifCond .eq 7, 3)) (d6 : decode code (pc + 9) = .ok (.iconst 1, 1)) (d7 : decode code (pc + 10) = .ok (.goto 4, 3)) (d8 : decode code (pc + 13) = .ok (.iconst 0, 1))
    (kk : W p l e room_1 s m #[.ref bs] below meth c H locs cells slots Q (F0 m (pc + 14) ls (.int (if xs (i + k) = 0 then nI 0 else nI 1) :: st))) : W p l e room_1 s m #[.ref bs] below meth c H locs cells slots Q (F0 m pc ls st) := by
  refine zl_ld C hS h0 h4 hi hv d0 d1 d2 d3 d4 ?_
  obtain ⟨hst, ⟨hx, hb, hr, hml, hown, hts, hX, hbl, hlocks, hgv⟩, hLs, hE, hN⟩ := C
  refine lv_if_eq (tgt := pc + 13) hx hb d5 (by omega) (fun h => ?_) (fun h => ?_)
  · rw [if_pos h] at kk
    exact lv_iconst (v := nI 0) hx hb d8 (by decide) kk
  · rw [if_neg h] at kk
    refine lv_iconst (v := nI 1) hx hb d6 (by decide) ?_
    exact lv_goto (tgt := pc + 14) hx hb d7 (by omega) kk
theorem zl_ldl {v v2 : Int} (C : zlC p l s m meth c bs Ls xs G) (hS : va_S (zlA s) s.heap H locs) (h0 : ls[0]? = some (.val (.ref bs))) (h4 : ls[4]? = some (.val (.int (nI i)))) (hi : i + k < Ls) (hi2 : i + k2 < Ls) (hv : Int32.ofInt v = nI k) (hv2 : Int32.ofInt v2 = nI k2)
    (d0 : decode code pc = .ok (.aload_n 0, 1)) (d1 : decode code (pc + 1) = .ok (.iload 4, 2)) (d2 : decode code (pc + 3) = .ok (.iconst v, 1)) (d3 : decode code (pc + 4) = .ok (.iadd, 1)) (d4 : decode code (pc + 5) = .ok (.iaload, 1))
    (d5 : decode code (pc + 6) = .ok (.i2l, 1)) (d6 : decode code (pc + 7) = .ok (.bipush 32, 2)) (d7 : decode code (pc + 9) = .ok (.lshl, 1))
    (e0 : decode code (pc + 10) = .ok (.aload_n 0, 1)) (e1 : decode code (pc + 11) = .ok (.iload 4, 2)) (e2 : decode code (pc + 13) = .ok (.iconst v2, 1)) (e3 : decode code (pc + 14) = .ok (.iadd, 1)) (e4 : decode code (pc + 15) = .ok (.iaload, 1))
    (e5 : decode code (pc + 16) = .ok (.i2l, 1)) (e6 : decode code (pc + 17) = .ok (.ldc2_w 200, 3)) (e7 : decode code (pc + 20) = .ok (.land, 1)) (e8 : decode code (pc + 21) = .ok (.lor, 1))
    (kk : W p l e room_1 s m #[.ref bs] below meth c H locs cells slots Q (F0 m (pc + 22) ls (.long (zlg (xs (i + k)) (xs (i + k2))) :: st))) : W p l e room_1 s m #[.ref bs] below meth c H locs cells slots Q (F0 m pc ls st) := by
  refine zl_ld C hS h0 h4 hi hv d0 d1 d2 d3 d4 ?_
  obtain ⟨hx, hb, hr, hml, hown, hts, hX, hbl, hlocks, hgv⟩ := id C.2.1
  refine lv_i2l hx hb d5 rfl ?_
  refine lv_bipush (v := nI 32) hx hb d6 (by decide) ?_
  refine lv_lshl hx hb d7 rfl ?_
  refine zl_ld (pc := pc + 10) C hS h0 h4 hi2 hv2 e0 e1 e2 e3 e4 ?_
  refine lv_i2l hx hb e5 rfl ?_
  have hown : s.vm.findClass RL = some m.cls := hown
  refine lv_ldc2 (own := RL) (v := 4294967295) hx hb hown (hts _ (in0_wsL_law0_r1 _ (List.mem_of_getElem? (i := 7) (a := Cond.constantLong RL 200 4294967295) rfl))) e6 ?_
  refine lv_land hx hb e7 ?_
  exact lv_lor hx hb e8 kk
/-- the end of a case: what the model refused, what both answered -/
theorem zl_tail {t : Nat} {off : Int} {a1 q : Nat} {b : Nat → Nat} {x r kk rf sz ac sp ou : Int32} {fo : Nat → Int64} {wr : va_W} (C : zlC p l s m meth c bs Ls xs G)
    (d0 : decode code t = .ok (.istore 6, 2)) (d1 : decode code (t + 2) = .ok (.aload_n 2, 1)) (d2 : decode code (t + 3) = .ok (.invokevirtual 114, 3)) (d3 : decode code (t + 6) = .ok (.iload 5, 2)) (d4 : decode code (t + 8) = .ok (.if_icmp .eq 5, 3))
    (d5 : decode code (t + 13) = .ok (.iload 5, 2)) (d6 : decode code (t + 15) = .ok (.ifCond .ne 15, 3)) (d7 : decode code (t + 18) = .ok (.aload_n 3, 1)) (d8 : decode code (t + 19) = .ok (.iconst 0, 1)) (d9 : decode code (t + 20) = .ok (.laload, 1))
    (d10 : decode code (t + 21) = .ok (.iload 6, 2)) (d11 : decode code (t + 23) = .ok (.i2l, 1)) (d12 : decode code (t + 24) = .ok (.lcmp, 1)) (d13 : decode code (t + 25) = .ok (.ifCond .eq 5, 3)) (d14 : decode code (t + 30) = .ok (.goto off, 3)) (hoff : ((t + 30 : Nat) : Int) + off = ((2035 : Nat) : Int))
    (hc : cells ≤ 601024 ∧ slots ≤ 7293034) (hl : lv_has ls 7 [(5, .int kk), (0, .ref bs), (1, .ref a1), (2, .ref (b 0)), (3, .ref q), (4, .int x)])
    (hP : va_P G.1 vwCl (zb_6 G b rf sz ac sp ou ++ (zb_o G q fo ++ wr)) H) (hD : va_D (zlA s) (zb_6 G b rf sz ac sp ou ++ (zb_o G q fo ++ wr))) (hS : va_S (zlA s) s.heap H locs) (hk : rf = kk) (ho : kk = nI 0 → fo 0 = r.toInt64)
    (done : ∀ (H1 : Heap) (locs1 : List Loc) (ls1 : Array Slot), va_P G.1 vwCl (zb_6 G b rf sz ac sp ou ++ (zb_o G q fo ++ wr)) H1 → va_D (zlA s) (zb_6 G b rf sz ac sp ou ++ (zb_o G q fo ++ wr)) → va_S (zlA s) s.heap H1 locs1 → lv_has ls1 7 [(0, .ref bs), (1, .ref a1), (2, .ref (b 0)), (3, .ref q), (4, .int x)] → W p l e room_1 s m #[.ref bs] below meth c H1 locs1 cells slots Q (F0 m 2035 ls1 [])) :
    W p l e room_1 s m #[.ref bs] below meth c H locs cells slots Q (F0 m t ls [.int r]) := by
  obtain ⟨hst, ⟨hx, hb, hr, hml, hown, hts, hX, hbl, hlocks, hgv⟩, hLs, hE, hN⟩ := C
  have hown : s.vm.findClass RL = some m.cls := hown
  have hK := hE.1
  have hA : ∀ q : Nat, s.heap.size ≤ q → zlA s q := fun _ h => h
  have hA0 : ∀ q : Nat, zlA s q → G.2.2.1 ≤ q := fun q h => Nat.le_trans hE.2.2.2.2 h
  refine lv_istore (lv' := [(6, .int r), (5, .int kk), (0, .ref bs), (1, .ref a1), (2, .ref (b 0)), (3, .ref q), (4, .int x)]) hx hb d0 hl (by decide) rfl (fun ls hl => ?_)
  refine lv_aload_n hx hb d1 rfl (lv_at hl 4 rfl) ?_
  refine zk_callI (wr := zb_o G q fo ++ wr) (va_runV (As := []) (rest := []) ⟨hx, hb, hml, hown, hts⟩ (c_X6_thrown l G b rf sz ac sp ou _) (cwV 0 hts gL_law_X6_thrown rfl rfl rfl (by decide +kernel) ⟨Nat.le_of_ble_eq_true rfl, Nat.le_of_ble_eq_true rfl⟩) (zk_preV hE hA0 hS (zk_Papp hP).1 (zk_Dapp hD).1 (va_recv hK hP (ci := 5) (q0 := 0) rfl rfl)) rfl rfl hl.1 rfl (lv_room (Nat.le_of_ble_eq_true rfl)) d2 hc) hP hD hS hA (fun r1 u1 H locs hr1 hP hD hS => ?_)
  have hP : va_P G.1 vwCl (zb_6 G b rf sz ac sp ou ++ (zb_o G q fo ++ wr)) H := hP
  have hD : va_D (zlA s) (zb_6 G b rf sz ac sp ou ++ (zb_o G q fo ++ wr)) := hD
  refine zk_cs cells slots rfl rfl ?_
  refine lv_iload hx hb d3 (lv_at hl 1 rfl) ?_
  refine lv_icmp_eq (tgt := t + 13) hx hb d4 (by omega) (fun _ => ?_) (fun h => absurd (hr1.trans hk) h)
  refine lv_iload hx hb d5 (lv_at hl 1 rfl) ?_
  have hl2 := lv_sub (l' := [(0, .ref bs), (1, .ref a1), (2, .ref (b 0)), (3, .ref q), (4, .int x)]) hl [2, 3, 4, 5, 6] rfl
  refine lv_if_ne (tgt := t + 30) hx hb d6 (by omega) (fun _ => ?_) (fun h0 => ?_)
  · exact lv_goto (tgt := 2035) hx hb d14 hoff (done H locs ls hP hD hS hl2)
  · have h0 : kk = nI 0 := h0
    refine lv_aload_n hx hb d7 rfl (lv_at hl 5 rfl) ?_
    refine lv_iconst (v := nI 0) hx hb d8 (by decide) ?_
    refine va_lald hx hb hK (zk_Pperm hP (List.perm_append_comm_assoc _ _ _)) 0 3 rfl rfl (vp_in_nI (by decide) (by decide)) d9 ?_
    refine lv_iload hx hb d10 (lv_at hl 0 rfl) ?_
    refine lv_i2l hx hb d11 rfl ?_
    refine W.lcmp hx hb d12 ?_
    refine lv_if_eq (tgt := t + 30) hx hb d13 (by omega) (fun _ => ?_) (fun h => absurd ((lg_cmp_eq _ _).mpr (by rw [nI_clamp (by decide)]; exact ho h0)) h)
    exact lv_goto (tgt := 2035) hx hb d14 hoff (done H locs ls hP hD hS hl2)
end ZLW
