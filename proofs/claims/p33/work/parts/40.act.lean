/-! One act of the law's. -/
def zc (n y : Nat) : Nat := if n = 0 then 0 else y % n
theorem zcn_0 {n y : Nat} (h : n = 0) : nI 0 = nI (zc n y) := by unfold zc; rw [if_pos h]
theorem zcn_1 {n y : Nat} (h : ¬ n = 0) : nI (y % n) = nI (zc n y) := by unfold zc; rw [if_neg h]

noncomputable def ka_01 (n y : Nat) (κ : zCo) : Int32 × zCo := if 7 < n then fDays (nI 1) κ else fCome (nI (y % 3)) (nI (y / 4 % 4)) κ
noncomputable def ka_2 (y : Nat) (κ : zCo) : Int32 × zCo := fMenu (nI (y / 16 % 40)) (nI (y / 1024 % 4)) κ
noncomputable def ka_34 (n y : Nat) (κ : zCo) : Int32 × zCo := fPay (nI (zc n y)) (if y / 16 % 4 = 0 then -1 - nI (y / 64 % 300) else nI (1 + y / 64 % 900)) κ
noncomputable def ka_5 (n y : Nat) (κ : zCo) : Int32 × zCo := if n = 0 then (nI 0, κ) else fMove (nI (zc n y)) (nI (y / 16 % n)) (nI (1 + y / 256 % 200)) κ
noncomputable def ka_6 (y : Nat) (κ : zCo) : Int32 × zCo := fShare (nI (y % 5)) (if 0 < y / 8 % 3 then nI 1 else nI 0) κ
noncomputable def ka_78 (n y : Nat) (κ : zCo) : Int32 × zCo := fEntitle (nI (zc n y)) (nI (y / 16 % 40)) (if y / 1024 % 3 = 0 then -1 else nI (y / 16 % 40 + y / 4096 % 10)) κ
noncomputable def ka_9 (y : Nat) (κ : zCo) : Int32 × zCo := fWriteOff (nI (y % 3)) κ
noncomputable def ka_10 (y : Nat) (κ : zCo) : Int32 × zCo := fSet (nI (y % 2)) (nI (1 + y / 2 % 500)) κ
noncomputable def ka_11  (κ : zCo) : Int32 × zCo := fUndo κ
noncomputable def ka_12 (y : Nat) (κ : zCo) : Int32 × zCo := fKeep (nI (y % 2)) κ
noncomputable def ka_13 (y : Nat) (κ : zCo) : Int32 × zCo := fBack (nI (y % 2)) κ
noncomputable def ka_146 (y : Nat) (κ : zCo) : Int32 × zCo := fDays (nI (1 + y % 4)) κ
noncomputable def ka_18 (n t y : Nat) (κ : zCo) : Int32 × zCo := fOrder (nI (zc n y)) (nI ((t + y / 16 % 8) % 40)) (if 0 < y / 128 % 8 then nI 1 else nI 0) κ
noncomputable def ka_17a (κ : zCo) : Int32 × zCo := fAppend (nI 83) (fClear κ).2
noncomputable def ka_17b (y : Nat) (κ : zCo) : Int32 × zCo := fAppend (if y % 3 = 0 then nI 99 else nI 109) (ka_17a κ).2
noncomputable def ka_17c (y : Nat) (κ : zCo) : Int32 × zCo := fAppend (nI (48 + y / 4 % 5)) (ka_17b y κ).2
noncomputable def ka_17d (y : Nat) (κ : zCo) : Int32 × zCo := fAppend (nI (48 + y / 32 % 4)) (ka_17c y κ).2
noncomputable def ka_17e (y : Nat) (κ : zCo) : Int32 × zCo := if y % 64 = 0 then fLoad (ka_17d y κ).2 else (nI 0, (ka_17d y κ).2)
noncomputable def ka_17 (y : Nat) (κ : zCo) : Int32 × zCo := ((ka_17a κ).1 + (ka_17b y κ).1 + (ka_17c y κ).1 + (ka_17d y κ).1 + (ka_17e y κ).1, (ka_17e y κ).2)
/-- an act, by its number -/
noncomputable def kAct (k y : Nat) (κ : zCo) : Int32 × zCo := match k with
  | 0 | 1 => ka_01 (zN (kL κ)) y κ
  | 2 => ka_2 y κ
  | 3 | 4 => ka_34 (zN (kL κ)) y κ
  | 5 => ka_5 (zN (kL κ)) y κ
  | 6 => ka_6 y κ
  | 7 | 8 => ka_78 (zN (kL κ)) y κ
  | 9 => ka_9 y κ
  | 10 => ka_10 y κ
  | 11 => ka_11 κ
  | 12 => ka_12 y κ
  | 13 => ka_13 y κ
  | 14 | 15 | 16 => ka_146 y κ
  | 17 => ka_17 y κ
  | _ => ka_18 (zN (kL κ)) (zT (kL κ)) y κ
/-- a core is fit for calls, if its ledger is -/
theorem kOk_app (c : Int32) {κ : zCo} (h : kOk κ) : kOk (fAppend c κ).2 := by
  unfold fAppend
  by_cases w : c < 0 ∨ nI 255 < c
  · rw [zIf_t w]; exact h
  · rw [zIf_f w]
    by_cases w2 : kTn κ < 120
    · rw [zIf_t w2]; exact h
    · rw [zIf_f w2]; exact h
theorem kOk_clr {κ : zCo} (h : kOk κ) : kOk (fClear κ).2 := h

abbrev rmL_act : Room := { frames := 11, cells := 30, slots := 180, locals := 246 }

set_option maxHeartbeats 4000000 in
set_option maxRecDepth 100000 in
theorem za_0 {p : Program} {l : Launch} {e : Env} {s : State} {m : MethodId} {args : Array Value} {below : List Frame} {meth : Method} {c : Code} {Q : State → Prop} {A : Nat → Prop} {G : zk_G} {H : Heap} {locs : List Loc} {cells slots : Nat} {ls : Array Slot} (hst : l.stackTraces = false) (F : zFx p s m meth c args cL_act 6 (some .int) vL_act A G) {a : zA} {σ : zSt} {κ : zCo}  (ht0 : zTx σ) (hg0 : core σ = κ) (hk0 : kOk κ) {x y n t : Nat} (hy31 : y < 2 ^ 31) (hI : sInv (kL κ) n t) (hP : va_P G.1 vwCl (zw G a σ) H) (hD : va_D A (zw G a σ)) (hS : va_S A s.heap H locs) (hl : lv_has ls 6 [(0, .ref a.1), (1, .int (nI x)), (2, .int (nI y))]) (hcs : cells + 4 ≤ 30 ∧ slots + 24 ≤ 180)
    (kk : ∀ (σ₁ : zSt) (H₁ : Heap) (locs₁ : List Loc) (ls₁ : Array Slot), zTx σ₁ → core σ₁ = κ →  va_P G.1 vwCl (zw G a σ₁) H₁ → va_D A (zw G a σ₁) → va_S A s.heap H₁ locs₁ → lv_has ls₁ 6 [(0, .ref a.1), (1, .int (nI x)), (2, .int (nI y)), (3, .int (nI n)), (4, .int (nI (zc n y))), (5, .int (nI (y / 16 % 40)))] → W p l e rmL_act s m args below meth c H₁ locs₁ (cells + 4) (slots + 24) Q (F0 m 31 ls₁ [])) :
    W p l e rmL_act s m args below meth c H locs cells slots Q (F0 m 0 ls []) := by
  obtain ⟨hx, hb, hml, hr, hts, hown, hlocks, hE, hA, hA0, hN⟩ := id F
  have hok0 := yOk_of hk0 hg0 ht0
  have hn12 := hI.2.1
  have ht40 := hI.2.2.2.1
  refine lv_aload_n hx hb dL_act_0 rfl (lv_at hl 0 rfl) ?_
  refine lv_iconst (v := nI 2) hx hb dL_act_1 (by decide) ?_
  refine lv_iconst (v := nI 1) hx hb dL_act_2 (by decide) ?_
  refine lv_iconst (v := nI 0) hx hb dL_act_3 (by decide) ?_
  refine lv_iconst (v := nI 0) hx hb dL_act_4 (by decide) ?_
  refine zk_call1 (va_runS (As := [.ref a.1, .int (nI 2), .int (nI 1), .int (nI 0), .int (nI 0)]) (rest := []) ⟨hx, hb, hml, hown, hts⟩ (c_C_2 l G hst a σ hok0 (nI 1) (nI 0) (nI 0) _) (va_cwS 5 hts gL_act_L_call rfl rfl rfl (by decide +kernel) ⟨Nat.le_of_ble_eq_true rfl, Nat.le_of_ble_eq_true rfl⟩) (zk_preSH hN hE hA0 hS hP hD) rfl rfl hl.1 rfl (lv_room (Nat.le_of_ble_eq_true rfl)) dL_act_5 ⟨by show cells + 4 ≤ 30; omega, by show slots + 24 ≤ 180; omega⟩) hP hD hS hA (fun r2 σ1 H locs hpost hP hD hS => ?_)
  refine zk_cs (cells + 4) (slots + 24) rfl rfl ?_
  have hP : va_P G.1 vwCl (zw G a σ1) H := hP
  have hD : va_D A (zw G a σ1) := hD
  obtain ⟨⟨er, ec⟩, ht0⟩ := hpost
  rw [hg0] at er ec
  have hg0 : core σ1 = κ := ec
  have hok0 := yOk_of hk0 hg0 ht0
  refine zk_top (er.trans (ra_about1 hI)) ?_
  refine lv_istore_n (lv' := [(3, .int (nI n)), (0, .ref a.1), (1, .int (nI x)), (2, .int (nI y))]) hx hb dL_act_8 rfl hl (by decide) rfl (fun ls hl => ?_)
  refine lv_iload_n hx hb dL_act_9 rfl (lv_at hl 0 rfl) ?_
  refine lv_if_ne (tgt := 17) hx hb dL_act_10 (by decide) (fun h10_2 => ?_) (fun h10_2 => ?_)
  · have h10_2 := zk_ne0 (by omega) h10_2
    refine lv_iload_n hx hb dL_act_17 rfl (lv_at hl 3 rfl) ?_
    refine lv_iload_n hx hb dL_act_18 rfl (lv_at hl 0 rfl) ?_
    refine zk_iremN hx hb dL_act_19 (by omega) (by omega) (by omega) ?_
    refine zk_top (zcn_1 (by omega)) ?_
    refine lv_istore (lv' := [(4, .int (nI (zc n y))), (3, .int (nI n)), (0, .ref a.1), (1, .int (nI x)), (2, .int (nI y))]) hx hb dL_act_20 hl (by decide) rfl (fun ls hl => ?_)
    refine lv_iload_n hx hb dL_act_22 rfl (lv_at hl 4 rfl) ?_
    refine lv_bipush (v := nI 16) hx hb dL_act_23 (by decide) ?_
    refine zk_idivN hx hb dL_act_25 (by omega) (by omega) (by omega) ?_
    refine lv_bipush (v := nI 40) hx hb dL_act_26 (by decide) ?_
    refine zk_iremN hx hb dL_act_28 (by omega) (by omega) (by omega) ?_
    refine lv_istore (lv' := [(5, .int (nI ((y / 16) % 40))), (4, .int (nI (zc n y))), (3, .int (nI n)), (0, .ref a.1), (1, .int (nI x)), (2, .int (nI y))]) hx hb dL_act_29 hl (by decide) rfl (fun ls hl => ?_)
    refine W.widen (k := cells + 4) (n := slots + 24) (by omega) (by omega) ?_
    exact kk σ1 _ _ _ ht0 hg0 hP hD hS (lv_sub hl [3, 4, 5, 2, 1, 0] rfl)
  · have h10_2 := zk_eq0 (by omega) h10_2
    refine lv_iconst (v := nI 0) hx hb dL_act_13 (by decide) ?_
    refine lv_goto (tgt := 20) hx hb dL_act_14 (by decide) ?_
    refine zk_top (zcn_0 (y := y) (by omega)) ?_
    refine lv_istore (lv' := [(4, .int (nI (zc n y))), (3, .int (nI n)), (0, .ref a.1), (1, .int (nI x)), (2, .int (nI y))]) hx hb dL_act_20 hl (by decide) rfl (fun ls hl => ?_)
    refine lv_iload_n hx hb dL_act_22 rfl (lv_at hl 4 rfl) ?_
    refine lv_bipush (v := nI 16) hx hb dL_act_23 (by decide) ?_
    refine zk_idivN hx hb dL_act_25 (by omega) (by omega) (by omega) ?_
    refine lv_bipush (v := nI 40) hx hb dL_act_26 (by decide) ?_
    refine zk_iremN hx hb dL_act_28 (by omega) (by omega) (by omega) ?_
    refine lv_istore (lv' := [(5, .int (nI ((y / 16) % 40))), (4, .int (nI (zc n y))), (3, .int (nI n)), (0, .ref a.1), (1, .int (nI x)), (2, .int (nI y))]) hx hb dL_act_29 hl (by decide) rfl (fun ls hl => ?_)
    refine W.widen (k := cells + 4) (n := slots + 24) (by omega) (by omega) ?_
    exact kk σ1 _ _ _ ht0 hg0 hP hD hS (lv_sub hl [3, 4, 5, 2, 1, 0] rfl)

set_option maxHeartbeats 4000000 in
set_option maxRecDepth 100000 in
theorem za_01 {p : Program} {l : Launch} {e : Env} {s : State} {m : MethodId} {args : Array Value} {below : List Frame} {meth : Method} {c : Code} {Q : State → Prop} {A : Nat → Prop} {G : zk_G} {H : Heap} {locs : List Loc} {cells slots : Nat} {ls : Array Slot} (hst : l.stackTraces = false) (F : zFx p s m meth c args cL_act 6 (some .int) vL_act A G) {a : zA} {σ : zSt} {κ : zCo}  (ht0 : zTx σ) (hg0 : core σ = κ) (hk0 : kOk κ) {x y n t : Nat} (hy31 : y < 2 ^ 31) (hI : sInv (kL κ) n t) (hP : va_P G.1 vwCl (zw G a σ) H) (hD : va_D A (zw G a σ)) (hS : va_S A s.heap H locs) (hl : lv_has ls 6 [(0, .ref a.1), (1, .int (nI x)), (2, .int (nI y)), (3, .int (nI n)), (4, .int (nI (zc n y))), (5, .int (nI (y / 16 % 40)))]) (hcs : cells + 4 ≤ 30 ∧ slots + 24 ≤ 180)
    (kk : ∀ (σ₁ : zSt) (H₁ : Heap) (locs₁ : List Loc) (ls₁ : Array Slot), zTx σ₁ → core σ₁ = (ka_01 n y κ).2 →  va_P G.1 vwCl (zw G a σ₁) H₁ → va_D A (zw G a σ₁) → va_S A s.heap H₁ locs₁ → lv_has ls₁ 6 [(0, .ref a.1), (1, .int (nI x)), (2, .int (nI y)), (3, .int (nI n)), (4, .int (nI (zc n y))), (5, .int (nI (y / 16 % 40)))] → W p l e rmL_act s m args below meth c H₁ locs₁ (cells + 4) (slots + 24) Q (F0 m 153 ls₁ [.int (ka_01 n y κ).1])) :
    W p l e rmL_act s m args below meth c H locs cells slots Q (F0 m 120 ls []) := by
  obtain ⟨hx, hb, hml, hr, hts, hown, hlocks, hE, hA, hA0, hN⟩ := id F
  have hok0 := yOk_of hk0 hg0 ht0
  have hn12 := hI.2.1
  have ht40 := hI.2.2.2.1
  refine lv_iload_n hx hb dL_act_120 rfl (lv_at hl 3 rfl) ?_
  refine lv_bipush (v := nI 7) hx hb dL_act_121 (by decide) ?_
  refine lv_icmp_le (tgt := 138) hx hb dL_act_123 (by decide) (fun h123_0 => ?_) (fun h123_0 => ?_)
  · have h123_0 := zk_le (by omega) (by omega) h123_0
    refine lv_aload_n hx hb dL_act_138 rfl (lv_at hl 0 rfl) ?_
    refine lv_bipush (v := nI 8) hx hb dL_act_139 (by decide) ?_
    refine lv_iload_n hx hb dL_act_141 rfl (lv_at hl 2 rfl) ?_
    refine lv_iconst (v := nI 3) hx hb dL_act_142 (by decide) ?_
    refine zk_iremN hx hb dL_act_143 (by omega) (by omega) (by omega) ?_
    refine lv_iload_n hx hb dL_act_144 rfl (lv_at hl 2 rfl) ?_
    refine lv_iconst (v := nI 4) hx hb dL_act_145 (by decide) ?_
    refine zk_idivN hx hb dL_act_146 (by omega) (by omega) (by omega) ?_
    refine lv_iconst (v := nI 4) hx hb dL_act_147 (by decide) ?_
    refine zk_iremN hx hb dL_act_148 (by omega) (by omega) (by omega) ?_
    refine lv_iconst (v := nI 0) hx hb dL_act_149 (by decide) ?_
    refine zk_call1 (va_runS (As := [.ref a.1, .int (nI 8), .int (nI (y % 3)), .int (nI ((y / 4) % 4)), .int (nI 0)]) (rest := []) ⟨hx, hb, hml, hown, hts⟩ (c_C_8 l G hst a σ hok0 (nI (y % 3)) (nI ((y / 4) % 4)) (nI 0) _) (va_cwS 5 hts gL_act_L_call rfl rfl rfl (by decide +kernel) ⟨Nat.le_of_ble_eq_true rfl, Nat.le_of_ble_eq_true rfl⟩) (zk_preSH hN hE hA0 hS hP hD) rfl rfl hl.1 rfl (lv_room (Nat.le_of_ble_eq_true rfl)) dL_act_150 ⟨by show cells + 4 ≤ 30; omega, by show slots + 24 ≤ 180; omega⟩) hP hD hS hA (fun r3 σ2 H locs hpost hP hD hS => ?_)
    refine zk_cs (cells + 4) (slots + 24) rfl rfl ?_
    have hP : va_P G.1 vwCl (zw G a σ2) H := hP
    have hD : va_D A (zw G a σ2) := hD
    obtain ⟨⟨er, ec⟩, ht0⟩ := hpost
    rw [hg0] at er ec
    have hg0 : core σ2 = (fCome (nI (y % 3)) (nI ((y / 4) % 4)) κ).2 := ec
    refine zk_top (er) ?_
    have eX : fCome (nI (y % 3)) (nI ((y / 4) % 4)) κ = ka_01 n y κ := by
      unfold ka_01
      first | (split <;> first | (exfalso; omega) | rfl) | rfl
    refine zk_top (congrArg Prod.fst eX) ?_
    have hg0 := hg0.trans (congrArg Prod.snd eX)
    refine W.widen (k := cells + 4) (n := slots + 24) (by omega) (by omega) ?_
    exact kk σ2 _ _ _ ht0 hg0 hP hD hS (lv_sub hl [0, 1, 2, 3, 4, 5] rfl)
  · have h123_0 := zk_nle (by omega) (by omega) h123_0
    refine lv_aload_n hx hb dL_act_126 rfl (lv_at hl 0 rfl) ?_
    refine lv_bipush (v := nI 14) hx hb dL_act_127 (by decide) ?_
    refine lv_iconst (v := nI 1) hx hb dL_act_129 (by decide) ?_
    refine lv_iconst (v := nI 0) hx hb dL_act_130 (by decide) ?_
    refine lv_iconst (v := nI 0) hx hb dL_act_131 (by decide) ?_
    refine zk_call1 (va_runS (As := [.ref a.1, .int (nI 14), .int (nI 1), .int (nI 0), .int (nI 0)]) (rest := []) ⟨hx, hb, hml, hown, hts⟩ (c_C_14 l G hst a σ hok0 (nI 1) (nI 0) (nI 0) _) (va_cwS 5 hts gL_act_L_call rfl rfl rfl (by decide +kernel) ⟨Nat.le_of_ble_eq_true rfl, Nat.le_of_ble_eq_true rfl⟩) (zk_preSH hN hE hA0 hS hP hD) rfl rfl hl.1 rfl (lv_room (Nat.le_of_ble_eq_true rfl)) dL_act_132 ⟨by show cells + 4 ≤ 30; omega, by show slots + 24 ≤ 180; omega⟩) hP hD hS hA (fun r5 σ4 H locs hpost hP hD hS => ?_)
    refine zk_cs (cells + 4) (slots + 24) rfl rfl ?_
    have hP : va_P G.1 vwCl (zw G a σ4) H := hP
    have hD : va_D A (zw G a σ4) := hD
    obtain ⟨⟨er, ec⟩, ht0⟩ := hpost
    rw [hg0] at er ec
    have hg0 : core σ4 = (fDays (nI 1) κ).2 := ec
    refine zk_top (er) ?_
    refine lv_goto (tgt := 153) hx hb dL_act_135 (by decide) ?_
    have eX : fDays (nI 1) κ = ka_01 n y κ := by
      unfold ka_01
      first | (split <;> first | (exfalso; omega) | rfl) | rfl
    refine zk_top (congrArg Prod.fst eX) ?_
    have hg0 := hg0.trans (congrArg Prod.snd eX)
    refine W.widen (k := cells + 4) (n := slots + 24) (by omega) (by omega) ?_
    exact kk σ4 _ _ _ ht0 hg0 hP hD hS (lv_sub hl [0, 1, 2, 3, 4, 5] rfl)

set_option maxHeartbeats 4000000 in
set_option maxRecDepth 100000 in
theorem za_2 {p : Program} {l : Launch} {e : Env} {s : State} {m : MethodId} {args : Array Value} {below : List Frame} {meth : Method} {c : Code} {Q : State → Prop} {A : Nat → Prop} {G : zk_G} {H : Heap} {locs : List Loc} {cells slots : Nat} {ls : Array Slot} (hst : l.stackTraces = false) (F : zFx p s m meth c args cL_act 6 (some .int) vL_act A G) {a : zA} {σ : zSt} {κ : zCo}  (ht0 : zTx σ) (hg0 : core σ = κ) (hk0 : kOk κ) {x y n t : Nat} (hy31 : y < 2 ^ 31) (hI : sInv (kL κ) n t) (hP : va_P G.1 vwCl (zw G a σ) H) (hD : va_D A (zw G a σ)) (hS : va_S A s.heap H locs) (hl : lv_has ls 6 [(0, .ref a.1), (1, .int (nI x)), (2, .int (nI y)), (3, .int (nI n)), (4, .int (nI (zc n y))), (5, .int (nI (y / 16 % 40)))]) (hcs : cells + 4 ≤ 30 ∧ slots + 24 ≤ 180)
    (kk : ∀ (σ₁ : zSt) (H₁ : Heap) (locs₁ : List Loc) (ls₁ : Array Slot), zTx σ₁ → core σ₁ = (ka_2 y κ).2 →  va_P G.1 vwCl (zw G a σ₁) H₁ → va_D A (zw G a σ₁) → va_S A s.heap H₁ locs₁ → lv_has ls₁ 6 [(0, .ref a.1), (1, .int (nI x)), (2, .int (nI y)), (3, .int (nI n)), (4, .int (nI (zc n y))), (5, .int (nI (y / 16 % 40)))] → W p l e rmL_act s m args below meth c H₁ locs₁ (cells + 4) (slots + 24) Q (F0 m 170 ls₁ [.int (ka_2 y κ).1])) :
    W p l e rmL_act s m args below meth c H locs cells slots Q (F0 m 154 ls []) := by
  obtain ⟨hx, hb, hml, hr, hts, hown, hlocks, hE, hA, hA0, hN⟩ := id F
  have hok0 := yOk_of hk0 hg0 ht0
  have hn12 := hI.2.1
  have ht40 := hI.2.2.2.1
  refine lv_aload_n hx hb dL_act_154 rfl (lv_at hl 0 rfl) ?_
  refine lv_bipush (v := nI 9) hx hb dL_act_155 (by decide) ?_
  refine lv_iload hx hb dL_act_157 (lv_at hl 5 rfl) ?_
  refine lv_iload_n hx hb dL_act_159 rfl (lv_at hl 2 rfl) ?_
  refine lv_sipush (v := nI 1024) hx hb dL_act_160 (by decide) ?_
  refine zk_idivN hx hb dL_act_163 (by omega) (by omega) (by omega) ?_
  refine lv_iconst (v := nI 4) hx hb dL_act_164 (by decide) ?_
  refine zk_iremN hx hb dL_act_165 (by omega) (by omega) (by omega) ?_
  refine lv_iconst (v := nI 0) hx hb dL_act_166 (by decide) ?_
  refine zk_call1 (va_runS (As := [.ref a.1, .int (nI 9), .int (nI (y / 16 % 40)), .int (nI ((y / 1024) % 4)), .int (nI 0)]) (rest := []) ⟨hx, hb, hml, hown, hts⟩ (c_C_9 l G hst a σ hok0 (nI (y / 16 % 40)) (nI ((y / 1024) % 4)) (nI 0) _) (va_cwS 5 hts gL_act_L_call rfl rfl rfl (by decide +kernel) ⟨Nat.le_of_ble_eq_true rfl, Nat.le_of_ble_eq_true rfl⟩) (zk_preSH hN hE hA0 hS hP hD) rfl rfl hl.1 rfl (lv_room (Nat.le_of_ble_eq_true rfl)) dL_act_167 ⟨by show cells + 4 ≤ 30; omega, by show slots + 24 ≤ 180; omega⟩) hP hD hS hA (fun r2 σ1 H locs hpost hP hD hS => ?_)
  refine zk_cs (cells + 4) (slots + 24) rfl rfl ?_
  have hP : va_P G.1 vwCl (zw G a σ1) H := hP
  have hD : va_D A (zw G a σ1) := hD
  obtain ⟨⟨er, ec⟩, ht0⟩ := hpost
  rw [hg0] at er ec
  have hg0 : core σ1 = (fMenu (nI (y / 16 % 40)) (nI ((y / 1024) % 4)) κ).2 := ec
  refine zk_top (er) ?_
  have eX : fMenu (nI (y / 16 % 40)) (nI ((y / 1024) % 4)) κ = ka_2 y κ := by
    unfold ka_2
    first | (split <;> first | (exfalso; omega) | rfl) | rfl
  refine zk_top (congrArg Prod.fst eX) ?_
  have hg0 := hg0.trans (congrArg Prod.snd eX)
  refine W.widen (k := cells + 4) (n := slots + 24) (by omega) (by omega) ?_
  exact kk σ1 _ _ _ ht0 hg0 hP hD hS (lv_sub hl [0, 1, 2, 3, 4, 5] rfl)

set_option maxHeartbeats 4000000 in
set_option maxRecDepth 100000 in
theorem za_34 {p : Program} {l : Launch} {e : Env} {s : State} {m : MethodId} {args : Array Value} {below : List Frame} {meth : Method} {c : Code} {Q : State → Prop} {A : Nat → Prop} {G : zk_G} {H : Heap} {locs : List Loc} {cells slots : Nat} {ls : Array Slot} (hst : l.stackTraces = false) (F : zFx p s m meth c args cL_act 6 (some .int) vL_act A G) {a : zA} {σ : zSt} {κ : zCo}  (ht0 : zTx σ) (hg0 : core σ = κ) (hk0 : kOk κ) {x y n t : Nat} (hy31 : y < 2 ^ 31) (hI : sInv (kL κ) n t) (hP : va_P G.1 vwCl (zw G a σ) H) (hD : va_D A (zw G a σ)) (hS : va_S A s.heap H locs) (hl : lv_has ls 6 [(0, .ref a.1), (1, .int (nI x)), (2, .int (nI y)), (3, .int (nI n)), (4, .int (nI (zc n y))), (5, .int (nI (y / 16 % 40)))]) (hcs : cells + 4 ≤ 30 ∧ slots + 24 ≤ 180)
    (kk : ∀ (σ₁ : zSt) (H₁ : Heap) (locs₁ : List Loc) (ls₁ : Array Slot), zTx σ₁ → core σ₁ = (ka_34 n y κ).2 →  va_P G.1 vwCl (zw G a σ₁) H₁ → va_D A (zw G a σ₁) → va_S A s.heap H₁ locs₁ → lv_has ls₁ 6 [(0, .ref a.1), (1, .int (nI x)), (2, .int (nI y)), (3, .int (nI n)), (4, .int (nI (zc n y))), (5, .int (nI (y / 16 % 40)))] → W p l e rmL_act s m args below meth c H₁ locs₁ (cells + 4) (slots + 24) Q (F0 m 212 ls₁ [.int (ka_34 n y κ).1])) :
    W p l e rmL_act s m args below meth c H locs cells slots Q (F0 m 171 ls []) := by
  obtain ⟨hx, hb, hml, hr, hts, hown, hlocks, hE, hA, hA0, hN⟩ := id F
  have hok0 := yOk_of hk0 hg0 ht0
  have hn12 := hI.2.1
  have ht40 := hI.2.2.2.1
  refine lv_aload_n hx hb dL_act_171 rfl (lv_at hl 0 rfl) ?_
  refine lv_bipush (v := nI 10) hx hb dL_act_172 (by decide) ?_
  refine lv_iload hx hb dL_act_174 (lv_at hl 4 rfl) ?_
  refine lv_iload_n hx hb dL_act_176 rfl (lv_at hl 2 rfl) ?_
  refine lv_bipush (v := nI 16) hx hb dL_act_177 (by decide) ?_
  refine zk_idivN hx hb dL_act_179 (by omega) (by omega) (by omega) ?_
  refine lv_iconst (v := nI 4) hx hb dL_act_180 (by decide) ?_
  refine zk_iremN hx hb dL_act_181 (by omega) (by omega) (by omega) ?_
  refine lv_if_ne (tgt := 198) hx hb dL_act_182 (by decide) (fun h182_0 => ?_) (fun h182_0 => ?_)
  · have h182_0 := zk_ne0 (by omega) h182_0
    refine lv_iconst (v := nI 1) hx hb dL_act_198 (by decide) ?_
    refine lv_iload_n hx hb dL_act_199 rfl (lv_at hl 2 rfl) ?_
    refine lv_bipush (v := nI 64) hx hb dL_act_200 (by decide) ?_
    refine zk_idivN hx hb dL_act_202 (by omega) (by omega) (by omega) ?_
    refine lv_sipush (v := nI 900) hx hb dL_act_203 (by decide) ?_
    refine zk_iremN hx hb dL_act_206 (by omega) (by omega) (by omega) ?_
    refine zk_iaddN hx hb dL_act_207 ?_
    refine lv_iconst (v := nI 0) hx hb dL_act_208 (by decide) ?_
    refine zk_call1 (va_runS (As := [.ref a.1, .int (nI 10), .int (nI (zc n y)), .int (nI (1 + ((y / 64) % 900))), .int (nI 0)]) (rest := []) ⟨hx, hb, hml, hown, hts⟩ (c_C_10 l G hst a σ hok0 (nI (zc n y)) (nI (1 + ((y / 64) % 900))) (nI 0) _) (va_cwS 5 hts gL_act_L_call rfl rfl rfl (by decide +kernel) ⟨Nat.le_of_ble_eq_true rfl, Nat.le_of_ble_eq_true rfl⟩) (zk_preSH hN hE hA0 hS hP hD) rfl rfl hl.1 rfl (lv_room (Nat.le_of_ble_eq_true rfl)) dL_act_209 ⟨by show cells + 4 ≤ 30; omega, by show slots + 24 ≤ 180; omega⟩) hP hD hS hA (fun r3 σ2 H locs hpost hP hD hS => ?_)
    refine zk_cs (cells + 4) (slots + 24) rfl rfl ?_
    have hP : va_P G.1 vwCl (zw G a σ2) H := hP
    have hD : va_D A (zw G a σ2) := hD
    obtain ⟨⟨er, ec⟩, ht0⟩ := hpost
    rw [hg0] at er ec
    have hg0 : core σ2 = (fPay (nI (zc n y)) (nI (1 + ((y / 64) % 900))) κ).2 := ec
    refine zk_top (er) ?_
    have eX : fPay (nI (zc n y)) (nI (1 + ((y / 64) % 900))) κ = ka_34 n y κ := by
      unfold ka_34
      first | (split <;> first | (exfalso; omega) | rfl) | rfl
    refine zk_top (congrArg Prod.fst eX) ?_
    have hg0 := hg0.trans (congrArg Prod.snd eX)
    refine W.widen (k := cells + 4) (n := slots + 24) (by omega) (by omega) ?_
    exact kk σ2 _ _ _ ht0 hg0 hP hD hS (lv_sub hl [0, 1, 2, 3, 4, 5] rfl)
  · have h182_0 := zk_eq0 (by omega) h182_0
    refine lv_iconst (v := -1) hx hb dL_act_185 (by decide) ?_
    refine lv_iload_n hx hb dL_act_186 rfl (lv_at hl 2 rfl) ?_
    refine lv_bipush (v := nI 64) hx hb dL_act_187 (by decide) ?_
    refine zk_idivN hx hb dL_act_189 (by omega) (by omega) (by omega) ?_
    refine lv_sipush (v := nI 300) hx hb dL_act_190 (by decide) ?_
    refine zk_iremN hx hb dL_act_193 (by omega) (by omega) (by omega) ?_
    refine lv_isub hx hb dL_act_194 ?_
    refine lv_goto (tgt := 208) hx hb dL_act_195 (by decide) ?_
    refine lv_iconst (v := nI 0) hx hb dL_act_208 (by decide) ?_
    refine zk_call1 (va_runS (As := [.ref a.1, .int (nI 10), .int (nI (zc n y)), .int ((-1) - (nI ((y / 64) % 300))), .int (nI 0)]) (rest := []) ⟨hx, hb, hml, hown, hts⟩ (c_C_10 l G hst a σ hok0 (nI (zc n y)) ((-1) - (nI ((y / 64) % 300))) (nI 0) _) (va_cwS 5 hts gL_act_L_call rfl rfl rfl (by decide +kernel) ⟨Nat.le_of_ble_eq_true rfl, Nat.le_of_ble_eq_true rfl⟩) (zk_preSH hN hE hA0 hS hP hD) rfl rfl hl.1 rfl (lv_room (Nat.le_of_ble_eq_true rfl)) dL_act_209 ⟨by show cells + 4 ≤ 30; omega, by show slots + 24 ≤ 180; omega⟩) hP hD hS hA (fun r5 σ4 H locs hpost hP hD hS => ?_)
    refine zk_cs (cells + 4) (slots + 24) rfl rfl ?_
    have hP : va_P G.1 vwCl (zw G a σ4) H := hP
    have hD : va_D A (zw G a σ4) := hD
    obtain ⟨⟨er, ec⟩, ht0⟩ := hpost
    rw [hg0] at er ec
    have hg0 : core σ4 = (fPay (nI (zc n y)) ((-1) - (nI ((y / 64) % 300))) κ).2 := ec
    refine zk_top (er) ?_
    have eX : fPay (nI (zc n y)) ((-1) - (nI ((y / 64) % 300))) κ = ka_34 n y κ := by
      unfold ka_34
      first | (split <;> first | (exfalso; omega) | rfl) | rfl
    refine zk_top (congrArg Prod.fst eX) ?_
    have hg0 := hg0.trans (congrArg Prod.snd eX)
    refine W.widen (k := cells + 4) (n := slots + 24) (by omega) (by omega) ?_
    exact kk σ4 _ _ _ ht0 hg0 hP hD hS (lv_sub hl [0, 1, 2, 3, 4, 5] rfl)

set_option maxHeartbeats 4000000 in
set_option maxRecDepth 100000 in
theorem za_5 {p : Program} {l : Launch} {e : Env} {s : State} {m : MethodId} {args : Array Value} {below : List Frame} {meth : Method} {c : Code} {Q : State → Prop} {A : Nat → Prop} {G : zk_G} {H : Heap} {locs : List Loc} {cells slots : Nat} {ls : Array Slot} (hst : l.stackTraces = false) (F : zFx p s m meth c args cL_act 6 (some .int) vL_act A G) {a : zA} {σ : zSt} {κ : zCo}  (ht0 : zTx σ) (hg0 : core σ = κ) (hk0 : kOk κ) {x y n t : Nat} (hy31 : y < 2 ^ 31) (hI : sInv (kL κ) n t) (hP : va_P G.1 vwCl (zw G a σ) H) (hD : va_D A (zw G a σ)) (hS : va_S A s.heap H locs) (hl : lv_has ls 6 [(0, .ref a.1), (1, .int (nI x)), (2, .int (nI y)), (3, .int (nI n)), (4, .int (nI (zc n y))), (5, .int (nI (y / 16 % 40)))]) (hcs : cells + 4 ≤ 30 ∧ slots + 24 ≤ 180)
    (kk : ∀ (σ₁ : zSt) (H₁ : Heap) (locs₁ : List Loc) (ls₁ : Array Slot), zTx σ₁ → core σ₁ = (ka_5 n y κ).2 →  va_P G.1 vwCl (zw G a σ₁) H₁ → va_D A (zw G a σ₁) → va_S A s.heap H₁ locs₁ → lv_has ls₁ 6 [(0, .ref a.1), (1, .int (nI x)), (2, .int (nI y)), (3, .int (nI n)), (4, .int (nI (zc n y))), (5, .int (nI (y / 16 % 40)))] → W p l e rmL_act s m args below meth c H₁ locs₁ (cells + 4) (slots + 24) Q (F0 m 246 ls₁ [.int (ka_5 n y κ).1])) :
    W p l e rmL_act s m args below meth c H locs cells slots Q (F0 m 213 ls []) := by
  obtain ⟨hx, hb, hml, hr, hts, hown, hlocks, hE, hA, hA0, hN⟩ := id F
  have hok0 := yOk_of hk0 hg0 ht0
  have hn12 := hI.2.1
  have ht40 := hI.2.2.2.1
  refine lv_iload_n hx hb dL_act_213 rfl (lv_at hl 3 rfl) ?_
  refine lv_if_ne (tgt := 221) hx hb dL_act_214 (by decide) (fun h214_0 => ?_) (fun h214_0 => ?_)
  · have h214_0 := zk_ne0 (by omega) h214_0
    refine lv_aload_n hx hb dL_act_221 rfl (lv_at hl 0 rfl) ?_
    refine lv_bipush (v := nI 11) hx hb dL_act_222 (by decide) ?_
    refine lv_iload hx hb dL_act_224 (lv_at hl 4 rfl) ?_
    refine lv_iload_n hx hb dL_act_226 rfl (lv_at hl 2 rfl) ?_
    refine lv_bipush (v := nI 16) hx hb dL_act_227 (by decide) ?_
    refine zk_idivN hx hb dL_act_229 (by omega) (by omega) (by omega) ?_
    refine lv_iload_n hx hb dL_act_230 rfl (lv_at hl 3 rfl) ?_
    refine zk_iremN hx hb dL_act_231 (by omega) (by omega) (by omega) ?_
    refine lv_iconst (v := nI 1) hx hb dL_act_232 (by decide) ?_
    refine lv_iload_n hx hb dL_act_233 rfl (lv_at hl 2 rfl) ?_
    refine lv_sipush (v := nI 256) hx hb dL_act_234 (by decide) ?_
    refine zk_idivN hx hb dL_act_237 (by omega) (by omega) (by omega) ?_
    refine lv_sipush (v := nI 200) hx hb dL_act_238 (by decide) ?_
    refine zk_iremN hx hb dL_act_241 (by omega) (by omega) (by omega) ?_
    refine zk_iaddN hx hb dL_act_242 ?_
    refine zk_call1 (va_runS (As := [.ref a.1, .int (nI 11), .int (nI (zc n y)), .int (nI ((y / 16) % n)), .int (nI (1 + ((y / 256) % 200)))]) (rest := []) ⟨hx, hb, hml, hown, hts⟩ (c_C_11 l G hst a σ hok0 (nI (zc n y)) (nI ((y / 16) % n)) (nI (1 + ((y / 256) % 200))) _) (va_cwS 5 hts gL_act_L_call rfl rfl rfl (by decide +kernel) ⟨Nat.le_of_ble_eq_true rfl, Nat.le_of_ble_eq_true rfl⟩) (zk_preSH hN hE hA0 hS hP hD) rfl rfl hl.1 rfl (lv_room (Nat.le_of_ble_eq_true rfl)) dL_act_243 ⟨by show cells + 4 ≤ 30; omega, by show slots + 24 ≤ 180; omega⟩) hP hD hS hA (fun r3 σ2 H locs hpost hP hD hS => ?_)
    refine zk_cs (cells + 4) (slots + 24) rfl rfl ?_
    have hP : va_P G.1 vwCl (zw G a σ2) H := hP
    have hD : va_D A (zw G a σ2) := hD
    obtain ⟨⟨er, ec⟩, ht0⟩ := hpost
    rw [hg0] at er ec
    have hg0 : core σ2 = (fMove (nI (zc n y)) (nI ((y / 16) % n)) (nI (1 + ((y / 256) % 200))) κ).2 := ec
    refine zk_top (er) ?_
    have eX : fMove (nI (zc n y)) (nI ((y / 16) % n)) (nI (1 + ((y / 256) % 200))) κ = ka_5 n y κ := by
      unfold ka_5
      first | (split <;> first | (exfalso; omega) | rfl) | rfl
    refine zk_top (congrArg Prod.fst eX) ?_
    have hg0 := hg0.trans (congrArg Prod.snd eX)
    refine W.widen (k := cells + 4) (n := slots + 24) (by omega) (by omega) ?_
    exact kk σ2 _ _ _ ht0 hg0 hP hD hS (lv_sub hl [0, 1, 2, 3, 4, 5] rfl)
  · have h214_0 := zk_eq0 (by omega) h214_0
    refine lv_iconst (v := nI 0) hx hb dL_act_217 (by decide) ?_
    refine lv_goto (tgt := 246) hx hb dL_act_218 (by decide) ?_
    have eX : (nI 0, κ) = ka_5 n y κ := by
      unfold ka_5
      first | (split <;> first | (exfalso; omega) | rfl) | rfl
    refine zk_top (congrArg Prod.fst eX) ?_
    have hg0 := hg0.trans (congrArg Prod.snd eX)
    refine W.widen (k := cells + 4) (n := slots + 24) (by omega) (by omega) ?_
    exact kk σ _ _ _ ht0 hg0 hP hD hS (lv_sub hl [0, 1, 2, 3, 4, 5] rfl)

set_option maxHeartbeats 4000000 in
set_option maxRecDepth 100000 in
theorem za_6 {p : Program} {l : Launch} {e : Env} {s : State} {m : MethodId} {args : Array Value} {below : List Frame} {meth : Method} {c : Code} {Q : State → Prop} {A : Nat → Prop} {G : zk_G} {H : Heap} {locs : List Loc} {cells slots : Nat} {ls : Array Slot} (hst : l.stackTraces = false) (F : zFx p s m meth c args cL_act 6 (some .int) vL_act A G) {a : zA} {σ : zSt} {κ : zCo}  (ht0 : zTx σ) (hg0 : core σ = κ) (hk0 : kOk κ) {x y n t : Nat} (hy31 : y < 2 ^ 31) (hI : sInv (kL κ) n t) (hP : va_P G.1 vwCl (zw G a σ) H) (hD : va_D A (zw G a σ)) (hS : va_S A s.heap H locs) (hl : lv_has ls 6 [(0, .ref a.1), (1, .int (nI x)), (2, .int (nI y)), (3, .int (nI n)), (4, .int (nI (zc n y))), (5, .int (nI (y / 16 % 40)))]) (hcs : cells + 4 ≤ 30 ∧ slots + 24 ≤ 180)
    (kk : ∀ (σ₁ : zSt) (H₁ : Heap) (locs₁ : List Loc) (ls₁ : Array Slot), zTx σ₁ → core σ₁ = (ka_6 y κ).2 →  va_P G.1 vwCl (zw G a σ₁) H₁ → va_D A (zw G a σ₁) → va_S A s.heap H₁ locs₁ → lv_has ls₁ 6 [(0, .ref a.1), (1, .int (nI x)), (2, .int (nI y)), (3, .int (nI n)), (4, .int (nI (zc n y))), (5, .int (nI (y / 16 % 40)))] → W p l e rmL_act s m args below meth c H₁ locs₁ (cells + 4) (slots + 24) Q (F0 m 268 ls₁ [.int (ka_6 y κ).1])) :
    W p l e rmL_act s m args below meth c H locs cells slots Q (F0 m 247 ls []) := by
  obtain ⟨hx, hb, hml, hr, hts, hown, hlocks, hE, hA, hA0, hN⟩ := id F
  have hok0 := yOk_of hk0 hg0 ht0
  have hn12 := hI.2.1
  have ht40 := hI.2.2.2.1
  refine lv_aload_n hx hb dL_act_247 rfl (lv_at hl 0 rfl) ?_
  refine lv_iload_n hx hb dL_act_248 rfl (lv_at hl 2 rfl) ?_
  refine lv_iconst (v := nI 5) hx hb dL_act_249 (by decide) ?_
  refine zk_iremN hx hb dL_act_250 (by omega) (by omega) (by omega) ?_
  refine lv_iload_n hx hb dL_act_251 rfl (lv_at hl 2 rfl) ?_
  refine lv_bipush (v := nI 8) hx hb dL_act_252 (by decide) ?_
  refine zk_idivN hx hb dL_act_254 (by omega) (by omega) (by omega) ?_
  refine lv_iconst (v := nI 3) hx hb dL_act_255 (by decide) ?_
  refine zk_iremN hx hb dL_act_256 (by omega) (by omega) (by omega) ?_
  refine lv_if_le (tgt := 264) hx hb dL_act_257 (by decide) (fun h257_0 => ?_) (fun h257_0 => ?_)
  · have h257_0 := zk_le0 (by omega) h257_0
    refine lv_iconst (v := nI 0) hx hb dL_act_264 (by decide) ?_
    refine zk_call1 (vx_runSW (As := [.ref a.1, .int (nI (y % 5)), .int (nI 0)]) (rest := []) ⟨hx, hb, hml, hown, hts⟩ (c_F_tryShare l G hst a σ hok0 (nI (y % 5)) (nI 0) _) (vx_cwSW 3 hts gL_act_L_tryShare rfl rfl rfl (by decide +kernel) ⟨Nat.le_of_ble_eq_true rfl, Nat.le_of_ble_eq_true rfl⟩) (zk_preSH hN hE hA0 hS hP hD) rfl rfl hl.1 rfl (lv_room (Nat.le_of_ble_eq_true rfl)) dL_act_265 ⟨by show cells + 2 ≤ 30; omega, by show slots + 12 ≤ 180; omega⟩) hP hD hS hA (fun r3 σ2 H locs hpost hP hD hS => ?_)
    refine zk_cs (cells + 2) (slots + 12) rfl rfl ?_
    have hP : va_P G.1 vwCl (zw G a σ2) H := hP
    have hD : va_D A (zw G a σ2) := hD
    obtain ⟨⟨er, ec⟩, ht0⟩ := hpost
    rw [hg0] at er ec
    have hg0 : core σ2 = (fShare (nI (y % 5)) (nI 0) κ).2 := ec
    refine zk_top (er) ?_
    have eX : fShare (nI (y % 5)) (nI 0) κ = ka_6 y κ := by
      unfold ka_6
      first | (split <;> first | (exfalso; omega) | rfl) | rfl
    refine zk_top (congrArg Prod.fst eX) ?_
    have hg0 := hg0.trans (congrArg Prod.snd eX)
    refine W.widen (k := cells + 4) (n := slots + 24) (by omega) (by omega) ?_
    exact kk σ2 _ _ _ ht0 hg0 hP hD hS (lv_sub hl [0, 1, 2, 3, 4, 5] rfl)
  · have h257_0 := zk_nle0 (by omega) h257_0
    refine lv_iconst (v := nI 1) hx hb dL_act_260 (by decide) ?_
    refine lv_goto (tgt := 265) hx hb dL_act_261 (by decide) ?_
    refine zk_call1 (vx_runSW (As := [.ref a.1, .int (nI (y % 5)), .int (nI 1)]) (rest := []) ⟨hx, hb, hml, hown, hts⟩ (c_F_tryShare l G hst a σ hok0 (nI (y % 5)) (nI 1) _) (vx_cwSW 3 hts gL_act_L_tryShare rfl rfl rfl (by decide +kernel) ⟨Nat.le_of_ble_eq_true rfl, Nat.le_of_ble_eq_true rfl⟩) (zk_preSH hN hE hA0 hS hP hD) rfl rfl hl.1 rfl (lv_room (Nat.le_of_ble_eq_true rfl)) dL_act_265 ⟨by show cells + 2 ≤ 30; omega, by show slots + 12 ≤ 180; omega⟩) hP hD hS hA (fun r5 σ4 H locs hpost hP hD hS => ?_)
    refine zk_cs (cells + 2) (slots + 12) rfl rfl ?_
    have hP : va_P G.1 vwCl (zw G a σ4) H := hP
    have hD : va_D A (zw G a σ4) := hD
    obtain ⟨⟨er, ec⟩, ht0⟩ := hpost
    rw [hg0] at er ec
    have hg0 : core σ4 = (fShare (nI (y % 5)) (nI 1) κ).2 := ec
    refine zk_top (er) ?_
    have eX : fShare (nI (y % 5)) (nI 1) κ = ka_6 y κ := by
      unfold ka_6
      first | (split <;> first | (exfalso; omega) | rfl) | rfl
    refine zk_top (congrArg Prod.fst eX) ?_
    have hg0 := hg0.trans (congrArg Prod.snd eX)
    refine W.widen (k := cells + 4) (n := slots + 24) (by omega) (by omega) ?_
    exact kk σ4 _ _ _ ht0 hg0 hP hD hS (lv_sub hl [0, 1, 2, 3, 4, 5] rfl)

set_option maxHeartbeats 4000000 in
set_option maxRecDepth 100000 in
theorem za_78 {p : Program} {l : Launch} {e : Env} {s : State} {m : MethodId} {args : Array Value} {below : List Frame} {meth : Method} {c : Code} {Q : State → Prop} {A : Nat → Prop} {G : zk_G} {H : Heap} {locs : List Loc} {cells slots : Nat} {ls : Array Slot} (hst : l.stackTraces = false) (F : zFx p s m meth c args cL_act 6 (some .int) vL_act A G) {a : zA} {σ : zSt} {κ : zCo}  (ht0 : zTx σ) (hg0 : core σ = κ) (hk0 : kOk κ) {x y n t : Nat} (hy31 : y < 2 ^ 31) (hI : sInv (kL κ) n t) (hP : va_P G.1 vwCl (zw G a σ) H) (hD : va_D A (zw G a σ)) (hS : va_S A s.heap H locs) (hl : lv_has ls 6 [(0, .ref a.1), (1, .int (nI x)), (2, .int (nI y)), (3, .int (nI n)), (4, .int (nI (zc n y))), (5, .int (nI (y / 16 % 40)))]) (hcs : cells + 4 ≤ 30 ∧ slots + 24 ≤ 180)
    (kk : ∀ (σ₁ : zSt) (H₁ : Heap) (locs₁ : List Loc) (ls₁ : Array Slot), zTx σ₁ → core σ₁ = (ka_78 n y κ).2 →  va_P G.1 vwCl (zw G a σ₁) H₁ → va_D A (zw G a σ₁) → va_S A s.heap H₁ locs₁ → lv_has ls₁ 6 [(0, .ref a.1), (1, .int (nI x)), (2, .int (nI y)), (3, .int (nI n)), (4, .int (nI (zc n y))), (5, .int (nI (y / 16 % 40)))] → W p l e rmL_act s m args below meth c H₁ locs₁ (cells + 4) (slots + 24) Q (F0 m 304 ls₁ [.int (ka_78 n y κ).1])) :
    W p l e rmL_act s m args below meth c H locs cells slots Q (F0 m 269 ls []) := by
  obtain ⟨hx, hb, hml, hr, hts, hown, hlocks, hE, hA, hA0, hN⟩ := id F
  have hok0 := yOk_of hk0 hg0 ht0
  have hn12 := hI.2.1
  have ht40 := hI.2.2.2.1
  refine lv_aload_n hx hb dL_act_269 rfl (lv_at hl 0 rfl) ?_
  refine lv_bipush (v := nI 12) hx hb dL_act_270 (by decide) ?_
  refine lv_iload hx hb dL_act_272 (lv_at hl 4 rfl) ?_
  refine lv_iload hx hb dL_act_274 (lv_at hl 5 rfl) ?_
  refine lv_iload_n hx hb dL_act_276 rfl (lv_at hl 2 rfl) ?_
  refine lv_sipush (v := nI 1024) hx hb dL_act_277 (by decide) ?_
  refine zk_idivN hx hb dL_act_280 (by omega) (by omega) (by omega) ?_
  refine lv_iconst (v := nI 3) hx hb dL_act_281 (by decide) ?_
  refine zk_iremN hx hb dL_act_282 (by omega) (by omega) (by omega) ?_
  refine lv_if_ne (tgt := 290) hx hb dL_act_283 (by decide) (fun h283_0 => ?_) (fun h283_0 => ?_)
  · have h283_0 := zk_ne0 (by omega) h283_0
    refine lv_iload hx hb dL_act_290 (lv_at hl 5 rfl) ?_
    refine lv_iload_n hx hb dL_act_292 rfl (lv_at hl 2 rfl) ?_
    refine lv_sipush (v := nI 4096) hx hb dL_act_293 (by decide) ?_
    refine zk_idivN hx hb dL_act_296 (by omega) (by omega) (by omega) ?_
    refine lv_bipush (v := nI 10) hx hb dL_act_297 (by decide) ?_
    refine zk_iremN hx hb dL_act_299 (by omega) (by omega) (by omega) ?_
    refine zk_iaddN hx hb dL_act_300 ?_
    refine zk_call1 (va_runS (As := [.ref a.1, .int (nI 12), .int (nI (zc n y)), .int (nI (y / 16 % 40)), .int (nI ((y / 16 % 40) + ((y / 4096) % 10)))]) (rest := []) ⟨hx, hb, hml, hown, hts⟩ (c_C_12 l G hst a σ hok0 (nI (zc n y)) (nI (y / 16 % 40)) (nI ((y / 16 % 40) + ((y / 4096) % 10))) _) (va_cwS 5 hts gL_act_L_call rfl rfl rfl (by decide +kernel) ⟨Nat.le_of_ble_eq_true rfl, Nat.le_of_ble_eq_true rfl⟩) (zk_preSH hN hE hA0 hS hP hD) rfl rfl hl.1 rfl (lv_room (Nat.le_of_ble_eq_true rfl)) dL_act_301 ⟨by show cells + 4 ≤ 30; omega, by show slots + 24 ≤ 180; omega⟩) hP hD hS hA (fun r3 σ2 H locs hpost hP hD hS => ?_)
    refine zk_cs (cells + 4) (slots + 24) rfl rfl ?_
    have hP : va_P G.1 vwCl (zw G a σ2) H := hP
    have hD : va_D A (zw G a σ2) := hD
    obtain ⟨⟨er, ec⟩, ht0⟩ := hpost
    rw [hg0] at er ec
    have hg0 : core σ2 = (fEntitle (nI (zc n y)) (nI (y / 16 % 40)) (nI ((y / 16 % 40) + ((y / 4096) % 10))) κ).2 := ec
    refine zk_top (er) ?_
    have eX : fEntitle (nI (zc n y)) (nI (y / 16 % 40)) (nI ((y / 16 % 40) + ((y / 4096) % 10))) κ = ka_78 n y κ := by
      unfold ka_78
      first | (split <;> first | (exfalso; omega) | rfl) | rfl
    refine zk_top (congrArg Prod.fst eX) ?_
    have hg0 := hg0.trans (congrArg Prod.snd eX)
    refine W.widen (k := cells + 4) (n := slots + 24) (by omega) (by omega) ?_
    exact kk σ2 _ _ _ ht0 hg0 hP hD hS (lv_sub hl [0, 1, 2, 3, 4, 5] rfl)
  · have h283_0 := zk_eq0 (by omega) h283_0
    refine lv_iconst (v := -1) hx hb dL_act_286 (by decide) ?_
    refine lv_goto (tgt := 301) hx hb dL_act_287 (by decide) ?_
    refine zk_call1 (va_runS (As := [.ref a.1, .int (nI 12), .int (nI (zc n y)), .int (nI (y / 16 % 40)), .int (-1)]) (rest := []) ⟨hx, hb, hml, hown, hts⟩ (c_C_12 l G hst a σ hok0 (nI (zc n y)) (nI (y / 16 % 40)) (-1) _) (va_cwS 5 hts gL_act_L_call rfl rfl rfl (by decide +kernel) ⟨Nat.le_of_ble_eq_true rfl, Nat.le_of_ble_eq_true rfl⟩) (zk_preSH hN hE hA0 hS hP hD) rfl rfl hl.1 rfl (lv_room (Nat.le_of_ble_eq_true rfl)) dL_act_301 ⟨by show cells + 4 ≤ 30; omega, by show slots + 24 ≤ 180; omega⟩) hP hD hS hA (fun r5 σ4 H locs hpost hP hD hS => ?_)
    refine zk_cs (cells + 4) (slots + 24) rfl rfl ?_
    have hP : va_P G.1 vwCl (zw G a σ4) H := hP
    have hD : va_D A (zw G a σ4) := hD
    obtain ⟨⟨er, ec⟩, ht0⟩ := hpost
    rw [hg0] at er ec
    have hg0 : core σ4 = (fEntitle (nI (zc n y)) (nI (y / 16 % 40)) (-1) κ).2 := ec
    refine zk_top (er) ?_
    have eX : fEntitle (nI (zc n y)) (nI (y / 16 % 40)) (-1) κ = ka_78 n y κ := by
      unfold ka_78
      first | (split <;> first | (exfalso; omega) | rfl) | rfl
    refine zk_top (congrArg Prod.fst eX) ?_
    have hg0 := hg0.trans (congrArg Prod.snd eX)
    refine W.widen (k := cells + 4) (n := slots + 24) (by omega) (by omega) ?_
    exact kk σ4 _ _ _ ht0 hg0 hP hD hS (lv_sub hl [0, 1, 2, 3, 4, 5] rfl)

set_option maxHeartbeats 4000000 in
set_option maxRecDepth 100000 in
theorem za_9 {p : Program} {l : Launch} {e : Env} {s : State} {m : MethodId} {args : Array Value} {below : List Frame} {meth : Method} {c : Code} {Q : State → Prop} {A : Nat → Prop} {G : zk_G} {H : Heap} {locs : List Loc} {cells slots : Nat} {ls : Array Slot} (hst : l.stackTraces = false) (F : zFx p s m meth c args cL_act 6 (some .int) vL_act A G) {a : zA} {σ : zSt} {κ : zCo}  (ht0 : zTx σ) (hg0 : core σ = κ) (hk0 : kOk κ) {x y n t : Nat} (hy31 : y < 2 ^ 31) (hI : sInv (kL κ) n t) (hP : va_P G.1 vwCl (zw G a σ) H) (hD : va_D A (zw G a σ)) (hS : va_S A s.heap H locs) (hl : lv_has ls 6 [(0, .ref a.1), (1, .int (nI x)), (2, .int (nI y)), (3, .int (nI n)), (4, .int (nI (zc n y))), (5, .int (nI (y / 16 % 40)))]) (hcs : cells + 4 ≤ 30 ∧ slots + 24 ≤ 180)
    (kk : ∀ (σ₁ : zSt) (H₁ : Heap) (locs₁ : List Loc) (ls₁ : Array Slot), zTx σ₁ → core σ₁ = (ka_9 y κ).2 →  va_P G.1 vwCl (zw G a σ₁) H₁ → va_D A (zw G a σ₁) → va_S A s.heap H₁ locs₁ → lv_has ls₁ 6 [(0, .ref a.1), (1, .int (nI x)), (2, .int (nI y)), (3, .int (nI n)), (4, .int (nI (zc n y))), (5, .int (nI (y / 16 % 40)))] → W p l e rmL_act s m args below meth c H₁ locs₁ (cells + 4) (slots + 24) Q (F0 m 316 ls₁ [.int (ka_9 y κ).1])) :
    W p l e rmL_act s m args below meth c H locs cells slots Q (F0 m 305 ls []) := by
  obtain ⟨hx, hb, hml, hr, hts, hown, hlocks, hE, hA, hA0, hN⟩ := id F
  have hok0 := yOk_of hk0 hg0 ht0
  have hn12 := hI.2.1
  have ht40 := hI.2.2.2.1
  refine lv_aload_n hx hb dL_act_305 rfl (lv_at hl 0 rfl) ?_
  refine lv_bipush (v := nI 13) hx hb dL_act_306 (by decide) ?_
  refine lv_iload_n hx hb dL_act_308 rfl (lv_at hl 2 rfl) ?_
  refine lv_iconst (v := nI 3) hx hb dL_act_309 (by decide) ?_
  refine zk_iremN hx hb dL_act_310 (by omega) (by omega) (by omega) ?_
  refine lv_iconst (v := nI 0) hx hb dL_act_311 (by decide) ?_
  refine lv_iconst (v := nI 0) hx hb dL_act_312 (by decide) ?_
  refine zk_call1 (va_runS (As := [.ref a.1, .int (nI 13), .int (nI (y % 3)), .int (nI 0), .int (nI 0)]) (rest := []) ⟨hx, hb, hml, hown, hts⟩ (c_C_13 l G hst a σ hok0 (nI (y % 3)) (nI 0) (nI 0) _) (va_cwS 5 hts gL_act_L_call rfl rfl rfl (by decide +kernel) ⟨Nat.le_of_ble_eq_true rfl, Nat.le_of_ble_eq_true rfl⟩) (zk_preSH hN hE hA0 hS hP hD) rfl rfl hl.1 rfl (lv_room (Nat.le_of_ble_eq_true rfl)) dL_act_313 ⟨by show cells + 4 ≤ 30; omega, by show slots + 24 ≤ 180; omega⟩) hP hD hS hA (fun r2 σ1 H locs hpost hP hD hS => ?_)
  refine zk_cs (cells + 4) (slots + 24) rfl rfl ?_
  have hP : va_P G.1 vwCl (zw G a σ1) H := hP
  have hD : va_D A (zw G a σ1) := hD
  obtain ⟨⟨er, ec⟩, ht0⟩ := hpost
  rw [hg0] at er ec
  have hg0 : core σ1 = (fWriteOff (nI (y % 3)) κ).2 := ec
  refine zk_top (er) ?_
  have eX : fWriteOff (nI (y % 3)) κ = ka_9 y κ := by
    unfold ka_9
    first | (split <;> first | (exfalso; omega) | rfl) | rfl
  refine zk_top (congrArg Prod.fst eX) ?_
  have hg0 := hg0.trans (congrArg Prod.snd eX)
  refine W.widen (k := cells + 4) (n := slots + 24) (by omega) (by omega) ?_
  exact kk σ1 _ _ _ ht0 hg0 hP hD hS (lv_sub hl [0, 1, 2, 3, 4, 5] rfl)

set_option maxHeartbeats 4000000 in
set_option maxRecDepth 100000 in
theorem za_10 {p : Program} {l : Launch} {e : Env} {s : State} {m : MethodId} {args : Array Value} {below : List Frame} {meth : Method} {c : Code} {Q : State → Prop} {A : Nat → Prop} {G : zk_G} {H : Heap} {locs : List Loc} {cells slots : Nat} {ls : Array Slot} (hst : l.stackTraces = false) (F : zFx p s m meth c args cL_act 6 (some .int) vL_act A G) {a : zA} {σ : zSt} {κ : zCo}  (ht0 : zTx σ) (hg0 : core σ = κ) (hk0 : kOk κ) {x y n t : Nat} (hy31 : y < 2 ^ 31) (hI : sInv (kL κ) n t) (hP : va_P G.1 vwCl (zw G a σ) H) (hD : va_D A (zw G a σ)) (hS : va_S A s.heap H locs) (hl : lv_has ls 6 [(0, .ref a.1), (1, .int (nI x)), (2, .int (nI y)), (3, .int (nI n)), (4, .int (nI (zc n y))), (5, .int (nI (y / 16 % 40)))]) (hcs : cells + 4 ≤ 30 ∧ slots + 24 ≤ 180)
    (kk : ∀ (σ₁ : zSt) (H₁ : Heap) (locs₁ : List Loc) (ls₁ : Array Slot), zTx σ₁ → core σ₁ = (ka_10 y κ).2 →  va_P G.1 vwCl (zw G a σ₁) H₁ → va_D A (zw G a σ₁) → va_S A s.heap H₁ locs₁ → lv_has ls₁ 6 [(0, .ref a.1), (1, .int (nI x)), (2, .int (nI y)), (3, .int (nI n)), (4, .int (nI (zc n y))), (5, .int (nI (y / 16 % 40)))] → W p l e rmL_act s m args below meth c H₁ locs₁ (cells + 4) (slots + 24) Q (F0 m 336 ls₁ [.int (ka_10 y κ).1])) :
    W p l e rmL_act s m args below meth c H locs cells slots Q (F0 m 317 ls []) := by
  obtain ⟨hx, hb, hml, hr, hts, hown, hlocks, hE, hA, hA0, hN⟩ := id F
  have hok0 := yOk_of hk0 hg0 ht0
  have hn12 := hI.2.1
  have ht40 := hI.2.2.2.1
  refine lv_aload_n hx hb dL_act_317 rfl (lv_at hl 0 rfl) ?_
  refine lv_bipush (v := nI 15) hx hb dL_act_318 (by decide) ?_
  refine lv_iload_n hx hb dL_act_320 rfl (lv_at hl 2 rfl) ?_
  refine lv_iconst (v := nI 2) hx hb dL_act_321 (by decide) ?_
  refine zk_iremN hx hb dL_act_322 (by omega) (by omega) (by omega) ?_
  refine lv_iconst (v := nI 1) hx hb dL_act_323 (by decide) ?_
  refine lv_iload_n hx hb dL_act_324 rfl (lv_at hl 2 rfl) ?_
  refine lv_iconst (v := nI 2) hx hb dL_act_325 (by decide) ?_
  refine zk_idivN hx hb dL_act_326 (by omega) (by omega) (by omega) ?_
  refine lv_sipush (v := nI 500) hx hb dL_act_327 (by decide) ?_
  refine zk_iremN hx hb dL_act_330 (by omega) (by omega) (by omega) ?_
  refine zk_iaddN hx hb dL_act_331 ?_
  refine lv_iconst (v := nI 0) hx hb dL_act_332 (by decide) ?_
  refine zk_call1 (va_runS (As := [.ref a.1, .int (nI 15), .int (nI (y % 2)), .int (nI (1 + ((y / 2) % 500))), .int (nI 0)]) (rest := []) ⟨hx, hb, hml, hown, hts⟩ (c_C_15 l G hst a σ hok0 (nI (y % 2)) (nI (1 + ((y / 2) % 500))) (nI 0) _) (va_cwS 5 hts gL_act_L_call rfl rfl rfl (by decide +kernel) ⟨Nat.le_of_ble_eq_true rfl, Nat.le_of_ble_eq_true rfl⟩) (zk_preSH hN hE hA0 hS hP hD) rfl rfl hl.1 rfl (lv_room (Nat.le_of_ble_eq_true rfl)) dL_act_333 ⟨by show cells + 4 ≤ 30; omega, by show slots + 24 ≤ 180; omega⟩) hP hD hS hA (fun r2 σ1 H locs hpost hP hD hS => ?_)
  refine zk_cs (cells + 4) (slots + 24) rfl rfl ?_
  have hP : va_P G.1 vwCl (zw G a σ1) H := hP
  have hD : va_D A (zw G a σ1) := hD
  obtain ⟨⟨er, ec⟩, ht0⟩ := hpost
  rw [hg0] at er ec
  have hg0 : core σ1 = (fSet (nI (y % 2)) (nI (1 + ((y / 2) % 500))) κ).2 := ec
  refine zk_top (er) ?_
  have eX : fSet (nI (y % 2)) (nI (1 + ((y / 2) % 500))) κ = ka_10 y κ := by
    unfold ka_10
    first | (split <;> first | (exfalso; omega) | rfl) | rfl
  refine zk_top (congrArg Prod.fst eX) ?_
  have hg0 := hg0.trans (congrArg Prod.snd eX)
  refine W.widen (k := cells + 4) (n := slots + 24) (by omega) (by omega) ?_
  exact kk σ1 _ _ _ ht0 hg0 hP hD hS (lv_sub hl [0, 1, 2, 3, 4, 5] rfl)

set_option maxHeartbeats 4000000 in
set_option maxRecDepth 100000 in
theorem za_11 {p : Program} {l : Launch} {e : Env} {s : State} {m : MethodId} {args : Array Value} {below : List Frame} {meth : Method} {c : Code} {Q : State → Prop} {A : Nat → Prop} {G : zk_G} {H : Heap} {locs : List Loc} {cells slots : Nat} {ls : Array Slot} (hst : l.stackTraces = false) (F : zFx p s m meth c args cL_act 6 (some .int) vL_act A G) {a : zA} {σ : zSt} {κ : zCo}  (ht0 : zTx σ) (hg0 : core σ = κ) (hk0 : kOk κ) {x y n t : Nat} (hy31 : y < 2 ^ 31) (hI : sInv (kL κ) n t) (hP : va_P G.1 vwCl (zw G a σ) H) (hD : va_D A (zw G a σ)) (hS : va_S A s.heap H locs) (hl : lv_has ls 6 [(0, .ref a.1), (1, .int (nI x)), (2, .int (nI y)), (3, .int (nI n)), (4, .int (nI (zc n y))), (5, .int (nI (y / 16 % 40)))]) (hcs : cells + 4 ≤ 30 ∧ slots + 24 ≤ 180)
    (kk : ∀ (σ₁ : zSt) (H₁ : Heap) (locs₁ : List Loc) (ls₁ : Array Slot), zTx σ₁ → core σ₁ = (ka_11 κ).2 →  va_P G.1 vwCl (zw G a σ₁) H₁ → va_D A (zw G a σ₁) → va_S A s.heap H₁ locs₁ → lv_has ls₁ 6 [(0, .ref a.1), (1, .int (nI x)), (2, .int (nI y)), (3, .int (nI n)), (4, .int (nI (zc n y))), (5, .int (nI (y / 16 % 40)))] → W p l e rmL_act s m args below meth c H₁ locs₁ (cells + 4) (slots + 24) Q (F0 m 346 ls₁ [.int (ka_11 κ).1])) :
    W p l e rmL_act s m args below meth c H locs cells slots Q (F0 m 337 ls []) := by
  obtain ⟨hx, hb, hml, hr, hts, hown, hlocks, hE, hA, hA0, hN⟩ := id F
  have hok0 := yOk_of hk0 hg0 ht0
  have hn12 := hI.2.1
  have ht40 := hI.2.2.2.1
  refine lv_aload_n hx hb dL_act_337 rfl (lv_at hl 0 rfl) ?_
  refine lv_bipush (v := nI 16) hx hb dL_act_338 (by decide) ?_
  refine lv_iconst (v := nI 0) hx hb dL_act_340 (by decide) ?_
  refine lv_iconst (v := nI 0) hx hb dL_act_341 (by decide) ?_
  refine lv_iconst (v := nI 0) hx hb dL_act_342 (by decide) ?_
  refine zk_call1 (va_runS (As := [.ref a.1, .int (nI 16), .int (nI 0), .int (nI 0), .int (nI 0)]) (rest := []) ⟨hx, hb, hml, hown, hts⟩ (c_C_16 l G hst a σ hok0 (nI 0) (nI 0) (nI 0) _) (va_cwS 5 hts gL_act_L_call rfl rfl rfl (by decide +kernel) ⟨Nat.le_of_ble_eq_true rfl, Nat.le_of_ble_eq_true rfl⟩) (zk_preSH hN hE hA0 hS hP hD) rfl rfl hl.1 rfl (lv_room (Nat.le_of_ble_eq_true rfl)) dL_act_343 ⟨by show cells + 4 ≤ 30; omega, by show slots + 24 ≤ 180; omega⟩) hP hD hS hA (fun r2 σ1 H locs hpost hP hD hS => ?_)
  refine zk_cs (cells + 4) (slots + 24) rfl rfl ?_
  have hP : va_P G.1 vwCl (zw G a σ1) H := hP
  have hD : va_D A (zw G a σ1) := hD
  obtain ⟨⟨er, ec⟩, ht0⟩ := hpost
  rw [hg0] at er ec
  have hg0 : core σ1 = (fUndo κ).2 := ec
  refine zk_top (er) ?_
  have eX : fUndo κ = ka_11 κ := by
    unfold ka_11
    first | (split <;> first | (exfalso; omega) | rfl) | rfl
  refine zk_top (congrArg Prod.fst eX) ?_
  have hg0 := hg0.trans (congrArg Prod.snd eX)
  refine W.widen (k := cells + 4) (n := slots + 24) (by omega) (by omega) ?_
  exact kk σ1 _ _ _ ht0 hg0 hP hD hS (lv_sub hl [0, 1, 2, 3, 4, 5] rfl)

set_option maxHeartbeats 4000000 in
set_option maxRecDepth 100000 in
theorem za_12 {p : Program} {l : Launch} {e : Env} {s : State} {m : MethodId} {args : Array Value} {below : List Frame} {meth : Method} {c : Code} {Q : State → Prop} {A : Nat → Prop} {G : zk_G} {H : Heap} {locs : List Loc} {cells slots : Nat} {ls : Array Slot} (hst : l.stackTraces = false) (F : zFx p s m meth c args cL_act 6 (some .int) vL_act A G) {a : zA} {σ : zSt} {κ : zCo}  (ht0 : zTx σ) (hg0 : core σ = κ) (hk0 : kOk κ) {x y n t : Nat} (hy31 : y < 2 ^ 31) (hI : sInv (kL κ) n t) (hP : va_P G.1 vwCl (zw G a σ) H) (hD : va_D A (zw G a σ)) (hS : va_S A s.heap H locs) (hl : lv_has ls 6 [(0, .ref a.1), (1, .int (nI x)), (2, .int (nI y)), (3, .int (nI n)), (4, .int (nI (zc n y))), (5, .int (nI (y / 16 % 40)))]) (hcs : cells + 4 ≤ 30 ∧ slots + 24 ≤ 180)
    (kk : ∀ (σ₁ : zSt) (H₁ : Heap) (locs₁ : List Loc) (ls₁ : Array Slot), zTx σ₁ → core σ₁ = (ka_12 y κ).2 →  va_P G.1 vwCl (zw G a σ₁) H₁ → va_D A (zw G a σ₁) → va_S A s.heap H₁ locs₁ → lv_has ls₁ 6 [(0, .ref a.1), (1, .int (nI x)), (2, .int (nI y)), (3, .int (nI n)), (4, .int (nI (zc n y))), (5, .int (nI (y / 16 % 40)))] → W p l e rmL_act s m args below meth c H₁ locs₁ (cells + 4) (slots + 24) Q (F0 m 358 ls₁ [.int (ka_12 y κ).1])) :
    W p l e rmL_act s m args below meth c H locs cells slots Q (F0 m 347 ls []) := by
  obtain ⟨hx, hb, hml, hr, hts, hown, hlocks, hE, hA, hA0, hN⟩ := id F
  have hok0 := yOk_of hk0 hg0 ht0
  have hn12 := hI.2.1
  have ht40 := hI.2.2.2.1
  refine lv_aload_n hx hb dL_act_347 rfl (lv_at hl 0 rfl) ?_
  refine lv_bipush (v := nI 21) hx hb dL_act_348 (by decide) ?_
  refine lv_iload_n hx hb dL_act_350 rfl (lv_at hl 2 rfl) ?_
  refine lv_iconst (v := nI 2) hx hb dL_act_351 (by decide) ?_
  refine zk_iremN hx hb dL_act_352 (by omega) (by omega) (by omega) ?_
  refine lv_iconst (v := nI 0) hx hb dL_act_353 (by decide) ?_
  refine lv_iconst (v := nI 0) hx hb dL_act_354 (by decide) ?_
  refine zk_call1 (va_runS (As := [.ref a.1, .int (nI 21), .int (nI (y % 2)), .int (nI 0), .int (nI 0)]) (rest := []) ⟨hx, hb, hml, hown, hts⟩ (c_C_21 l G hst a σ hok0 (nI (y % 2)) (nI 0) (nI 0) _) (va_cwS 5 hts gL_act_L_call rfl rfl rfl (by decide +kernel) ⟨Nat.le_of_ble_eq_true rfl, Nat.le_of_ble_eq_true rfl⟩) (zk_preSH hN hE hA0 hS hP hD) rfl rfl hl.1 rfl (lv_room (Nat.le_of_ble_eq_true rfl)) dL_act_355 ⟨by show cells + 4 ≤ 30; omega, by show slots + 24 ≤ 180; omega⟩) hP hD hS hA (fun r2 σ1 H locs hpost hP hD hS => ?_)
  refine zk_cs (cells + 4) (slots + 24) rfl rfl ?_
  have hP : va_P G.1 vwCl (zw G a σ1) H := hP
  have hD : va_D A (zw G a σ1) := hD
  obtain ⟨⟨er, ec⟩, ht0⟩ := hpost
  rw [hg0] at er ec
  have hg0 : core σ1 = (fKeep (nI (y % 2)) κ).2 := ec
  refine zk_top (er) ?_
  have eX : fKeep (nI (y % 2)) κ = ka_12 y κ := by
    unfold ka_12
    first | (split <;> first | (exfalso; omega) | rfl) | rfl
  refine zk_top (congrArg Prod.fst eX) ?_
  have hg0 := hg0.trans (congrArg Prod.snd eX)
  refine W.widen (k := cells + 4) (n := slots + 24) (by omega) (by omega) ?_
  exact kk σ1 _ _ _ ht0 hg0 hP hD hS (lv_sub hl [0, 1, 2, 3, 4, 5] rfl)

set_option maxHeartbeats 4000000 in
set_option maxRecDepth 100000 in
theorem za_13 {p : Program} {l : Launch} {e : Env} {s : State} {m : MethodId} {args : Array Value} {below : List Frame} {meth : Method} {c : Code} {Q : State → Prop} {A : Nat → Prop} {G : zk_G} {H : Heap} {locs : List Loc} {cells slots : Nat} {ls : Array Slot} (hst : l.stackTraces = false) (F : zFx p s m meth c args cL_act 6 (some .int) vL_act A G) {a : zA} {σ : zSt} {κ : zCo}  (ht0 : zTx σ) (hg0 : core σ = κ) (hk0 : kOk κ) {x y n t : Nat} (hy31 : y < 2 ^ 31) (hI : sInv (kL κ) n t) (hP : va_P G.1 vwCl (zw G a σ) H) (hD : va_D A (zw G a σ)) (hS : va_S A s.heap H locs) (hl : lv_has ls 6 [(0, .ref a.1), (1, .int (nI x)), (2, .int (nI y)), (3, .int (nI n)), (4, .int (nI (zc n y))), (5, .int (nI (y / 16 % 40)))]) (hcs : cells + 4 ≤ 30 ∧ slots + 24 ≤ 180)
    (kk : ∀ (σ₁ : zSt) (H₁ : Heap) (locs₁ : List Loc) (ls₁ : Array Slot), zTx σ₁ → core σ₁ = (ka_13 y κ).2 →  va_P G.1 vwCl (zw G a σ₁) H₁ → va_D A (zw G a σ₁) → va_S A s.heap H₁ locs₁ → lv_has ls₁ 6 [(0, .ref a.1), (1, .int (nI x)), (2, .int (nI y)), (3, .int (nI n)), (4, .int (nI (zc n y))), (5, .int (nI (y / 16 % 40)))] → W p l e rmL_act s m args below meth c H₁ locs₁ (cells + 4) (slots + 24) Q (F0 m 370 ls₁ [.int (ka_13 y κ).1])) :
    W p l e rmL_act s m args below meth c H locs cells slots Q (F0 m 359 ls []) := by
  obtain ⟨hx, hb, hml, hr, hts, hown, hlocks, hE, hA, hA0, hN⟩ := id F
  have hok0 := yOk_of hk0 hg0 ht0
  have hn12 := hI.2.1
  have ht40 := hI.2.2.2.1
  refine lv_aload_n hx hb dL_act_359 rfl (lv_at hl 0 rfl) ?_
  refine lv_bipush (v := nI 22) hx hb dL_act_360 (by decide) ?_
  refine lv_iload_n hx hb dL_act_362 rfl (lv_at hl 2 rfl) ?_
  refine lv_iconst (v := nI 2) hx hb dL_act_363 (by decide) ?_
  refine zk_iremN hx hb dL_act_364 (by omega) (by omega) (by omega) ?_
  refine lv_iconst (v := nI 0) hx hb dL_act_365 (by decide) ?_
  refine lv_iconst (v := nI 0) hx hb dL_act_366 (by decide) ?_
  refine zk_call1 (va_runS (As := [.ref a.1, .int (nI 22), .int (nI (y % 2)), .int (nI 0), .int (nI 0)]) (rest := []) ⟨hx, hb, hml, hown, hts⟩ (c_C_22 l G hst a σ hok0 (nI (y % 2)) (nI 0) (nI 0) _) (va_cwS 5 hts gL_act_L_call rfl rfl rfl (by decide +kernel) ⟨Nat.le_of_ble_eq_true rfl, Nat.le_of_ble_eq_true rfl⟩) (zk_preSH hN hE hA0 hS hP hD) rfl rfl hl.1 rfl (lv_room (Nat.le_of_ble_eq_true rfl)) dL_act_367 ⟨by show cells + 4 ≤ 30; omega, by show slots + 24 ≤ 180; omega⟩) hP hD hS hA (fun r2 σ1 H locs hpost hP hD hS => ?_)
  refine zk_cs (cells + 4) (slots + 24) rfl rfl ?_
  have hP : va_P G.1 vwCl (zw G a σ1) H := hP
  have hD : va_D A (zw G a σ1) := hD
  obtain ⟨⟨er, ec⟩, ht0⟩ := hpost
  rw [hg0] at er ec
  have hg0 : core σ1 = (fBack (nI (y % 2)) κ).2 := ec
  refine zk_top (er) ?_
  have eX : fBack (nI (y % 2)) κ = ka_13 y κ := by
    unfold ka_13
    first | (split <;> first | (exfalso; omega) | rfl) | rfl
  refine zk_top (congrArg Prod.fst eX) ?_
  have hg0 := hg0.trans (congrArg Prod.snd eX)
  refine W.widen (k := cells + 4) (n := slots + 24) (by omega) (by omega) ?_
  exact kk σ1 _ _ _ ht0 hg0 hP hD hS (lv_sub hl [0, 1, 2, 3, 4, 5] rfl)

set_option maxHeartbeats 4000000 in
set_option maxRecDepth 100000 in
theorem za_146 {p : Program} {l : Launch} {e : Env} {s : State} {m : MethodId} {args : Array Value} {below : List Frame} {meth : Method} {c : Code} {Q : State → Prop} {A : Nat → Prop} {G : zk_G} {H : Heap} {locs : List Loc} {cells slots : Nat} {ls : Array Slot} (hst : l.stackTraces = false) (F : zFx p s m meth c args cL_act 6 (some .int) vL_act A G) {a : zA} {σ : zSt} {κ : zCo}  (ht0 : zTx σ) (hg0 : core σ = κ) (hk0 : kOk κ) {x y n t : Nat} (hy31 : y < 2 ^ 31) (hI : sInv (kL κ) n t) (hP : va_P G.1 vwCl (zw G a σ) H) (hD : va_D A (zw G a σ)) (hS : va_S A s.heap H locs) (hl : lv_has ls 6 [(0, .ref a.1), (1, .int (nI x)), (2, .int (nI y)), (3, .int (nI n)), (4, .int (nI (zc n y))), (5, .int (nI (y / 16 % 40)))]) (hcs : cells + 4 ≤ 30 ∧ slots + 24 ≤ 180)
    (kk : ∀ (σ₁ : zSt) (H₁ : Heap) (locs₁ : List Loc) (ls₁ : Array Slot), zTx σ₁ → core σ₁ = (ka_146 y κ).2 →  va_P G.1 vwCl (zw G a σ₁) H₁ → va_D A (zw G a σ₁) → va_S A s.heap H₁ locs₁ → lv_has ls₁ 6 [(0, .ref a.1), (1, .int (nI x)), (2, .int (nI y)), (3, .int (nI n)), (4, .int (nI (zc n y))), (5, .int (nI (y / 16 % 40)))] → W p l e rmL_act s m args below meth c H₁ locs₁ (cells + 4) (slots + 24) Q (F0 m 384 ls₁ [.int (ka_146 y κ).1])) :
    W p l e rmL_act s m args below meth c H locs cells slots Q (F0 m 371 ls []) := by
  obtain ⟨hx, hb, hml, hr, hts, hown, hlocks, hE, hA, hA0, hN⟩ := id F
  have hok0 := yOk_of hk0 hg0 ht0
  have hn12 := hI.2.1
  have ht40 := hI.2.2.2.1
  refine lv_aload_n hx hb dL_act_371 rfl (lv_at hl 0 rfl) ?_
  refine lv_bipush (v := nI 14) hx hb dL_act_372 (by decide) ?_
  refine lv_iconst (v := nI 1) hx hb dL_act_374 (by decide) ?_
  refine lv_iload_n hx hb dL_act_375 rfl (lv_at hl 2 rfl) ?_
  refine lv_iconst (v := nI 4) hx hb dL_act_376 (by decide) ?_
  refine zk_iremN hx hb dL_act_377 (by omega) (by omega) (by omega) ?_
  refine zk_iaddN hx hb dL_act_378 ?_
  refine lv_iconst (v := nI 0) hx hb dL_act_379 (by decide) ?_
  refine lv_iconst (v := nI 0) hx hb dL_act_380 (by decide) ?_
  refine zk_call1 (va_runS (As := [.ref a.1, .int (nI 14), .int (nI (1 + (y % 4))), .int (nI 0), .int (nI 0)]) (rest := []) ⟨hx, hb, hml, hown, hts⟩ (c_C_14 l G hst a σ hok0 (nI (1 + (y % 4))) (nI 0) (nI 0) _) (va_cwS 5 hts gL_act_L_call rfl rfl rfl (by decide +kernel) ⟨Nat.le_of_ble_eq_true rfl, Nat.le_of_ble_eq_true rfl⟩) (zk_preSH hN hE hA0 hS hP hD) rfl rfl hl.1 rfl (lv_room (Nat.le_of_ble_eq_true rfl)) dL_act_381 ⟨by show cells + 4 ≤ 30; omega, by show slots + 24 ≤ 180; omega⟩) hP hD hS hA (fun r2 σ1 H locs hpost hP hD hS => ?_)
  refine zk_cs (cells + 4) (slots + 24) rfl rfl ?_
  have hP : va_P G.1 vwCl (zw G a σ1) H := hP
  have hD : va_D A (zw G a σ1) := hD
  obtain ⟨⟨er, ec⟩, ht0⟩ := hpost
  rw [hg0] at er ec
  have hg0 : core σ1 = (fDays (nI (1 + (y % 4))) κ).2 := ec
  refine zk_top (er) ?_
  have eX : fDays (nI (1 + (y % 4))) κ = ka_146 y κ := by
    unfold ka_146
    first | (split <;> first | (exfalso; omega) | rfl) | rfl
  refine zk_top (congrArg Prod.fst eX) ?_
  have hg0 := hg0.trans (congrArg Prod.snd eX)
  refine W.widen (k := cells + 4) (n := slots + 24) (by omega) (by omega) ?_
  exact kk σ1 _ _ _ ht0 hg0 hP hD hS (lv_sub hl [0, 1, 2, 3, 4, 5] rfl)

set_option maxHeartbeats 4000000 in
set_option maxRecDepth 100000 in
theorem za_18 {p : Program} {l : Launch} {e : Env} {s : State} {m : MethodId} {args : Array Value} {below : List Frame} {meth : Method} {c : Code} {Q : State → Prop} {A : Nat → Prop} {G : zk_G} {H : Heap} {locs : List Loc} {cells slots : Nat} {ls : Array Slot} (hst : l.stackTraces = false) (F : zFx p s m meth c args cL_act 6 (some .int) vL_act A G) {a : zA} {σ : zSt} {κ : zCo}  (ht0 : zTx σ) (hg0 : core σ = κ) (hk0 : kOk κ) {x y n t : Nat} (hy31 : y < 2 ^ 31) (hI : sInv (kL κ) n t) (hP : va_P G.1 vwCl (zw G a σ) H) (hD : va_D A (zw G a σ)) (hS : va_S A s.heap H locs) (hl : lv_has ls 6 [(0, .ref a.1), (1, .int (nI x)), (2, .int (nI y)), (3, .int (nI n)), (4, .int (nI (zc n y))), (5, .int (nI (y / 16 % 40)))]) (hcs : cells + 6 ≤ 30 ∧ slots + 36 ≤ 180)
    (kk : ∀ (σ₁ : zSt) (H₁ : Heap) (locs₁ : List Loc) (ls₁ : Array Slot), zTx σ₁ → core σ₁ = (ka_18 n t y κ).2 →  va_P G.1 vwCl (zw G a σ₁) H₁ → va_D A (zw G a σ₁) → va_S A s.heap H₁ locs₁ → lv_has ls₁ 6 [(0, .ref a.1), (1, .int (nI x)), (2, .int (nI y)), (3, .int (nI n)), (4, .int (nI (zc n y))), (5, .int (nI (y / 16 % 40)))] → W p l e rmL_act s m args below meth c H₁ locs₁ (cells + 6) (slots + 36) Q (F0 m 515 ls₁ [.int (ka_18 n t y κ).1])) :
    W p l e rmL_act s m args below meth c H locs cells slots Q (F0 m 474 ls []) := by
  obtain ⟨hx, hb, hml, hr, hts, hown, hlocks, hE, hA, hA0, hN⟩ := id F
  have hok0 := yOk_of hk0 hg0 ht0
  have hn12 := hI.2.1
  have ht40 := hI.2.2.2.1
  refine lv_aload_n hx hb dL_act_474 rfl (lv_at hl 0 rfl) ?_
  refine lv_iload hx hb dL_act_475 (lv_at hl 4 rfl) ?_
  refine lv_aload_n hx hb dL_act_477 rfl (lv_at hl 0 rfl) ?_
  refine lv_iconst (v := nI 2) hx hb dL_act_478 (by decide) ?_
  refine lv_iconst (v := nI 0) hx hb dL_act_479 (by decide) ?_
  refine lv_iconst (v := nI 0) hx hb dL_act_480 (by decide) ?_
  refine lv_iconst (v := nI 0) hx hb dL_act_481 (by decide) ?_
  refine zk_call1 (va_runS (As := [.ref a.1, .int (nI 2), .int (nI 0), .int (nI 0), .int (nI 0)]) (rest := [.int (nI (zc n y)), .ref a.1]) ⟨hx, hb, hml, hown, hts⟩ (c_C_2 l G hst a σ hok0 (nI 0) (nI 0) (nI 0) _) (va_cwS 5 hts gL_act_L_call rfl rfl rfl (by decide +kernel) ⟨Nat.le_of_ble_eq_true rfl, Nat.le_of_ble_eq_true rfl⟩) (zk_preSH hN hE hA0 hS hP hD) rfl rfl hl.1 rfl (lv_room (Nat.le_of_ble_eq_true rfl)) dL_act_482 ⟨by show cells + 4 ≤ 30; omega, by show slots + 24 ≤ 180; omega⟩) hP hD hS hA (fun r2 σ1 H locs hpost hP hD hS => ?_)
  refine zk_cs (cells + 4) (slots + 24) rfl rfl ?_
  have hP : va_P G.1 vwCl (zw G a σ1) H := hP
  have hD : va_D A (zw G a σ1) := hD
  obtain ⟨⟨er, ec⟩, ht0⟩ := hpost
  rw [hg0] at er ec
  have hg0 : core σ1 = κ := ec
  have hok0 := yOk_of hk0 hg0 ht0
  refine zk_top (er.trans (ra_about0 hI)) ?_
  refine lv_iload_n hx hb dL_act_485 rfl (lv_at hl 2 rfl) ?_
  refine lv_bipush (v := nI 16) hx hb dL_act_486 (by decide) ?_
  refine zk_idivN hx hb dL_act_488 (by omega) (by omega) (by omega) ?_
  refine lv_bipush (v := nI 8) hx hb dL_act_489 (by decide) ?_
  refine zk_iremN hx hb dL_act_491 (by omega) (by omega) (by omega) ?_
  refine zk_iaddN hx hb dL_act_492 ?_
  refine lv_bipush (v := nI 40) hx hb dL_act_493 (by decide) ?_
  refine zk_iremN hx hb dL_act_495 (by omega) (by omega) (by omega) ?_
  refine lv_iload_n hx hb dL_act_496 rfl (lv_at hl 2 rfl) ?_
  refine lv_sipush (v := nI 128) hx hb dL_act_497 (by decide) ?_
  refine zk_idivN hx hb dL_act_500 (by omega) (by omega) (by omega) ?_
  refine lv_bipush (v := nI 8) hx hb dL_act_501 (by decide) ?_
  refine zk_iremN hx hb dL_act_503 (by omega) (by omega) (by omega) ?_
  refine lv_if_le (tgt := 511) hx hb dL_act_504 (by decide) (fun h504_2 => ?_) (fun h504_2 => ?_)
  · have h504_2 := zk_le0 (by omega) h504_2
    refine lv_iconst (v := nI 0) hx hb dL_act_511 (by decide) ?_
    refine zk_call1 (vx_runSW (As := [.ref a.1, .int (nI (zc n y)), .int (nI ((t + ((y / 16) % 8)) % 40)), .int (nI 0)]) (rest := []) ⟨hx, hb, hml, hown, hts⟩ (c_F_tryOrder l G hst a σ1 hok0 (nI (zc n y)) (nI ((t + ((y / 16) % 8)) % 40)) (nI 0) _) (vx_cwSW 4 hts gL_act_L_tryOrder rfl rfl rfl (by decide +kernel) ⟨Nat.le_of_ble_eq_true rfl, Nat.le_of_ble_eq_true rfl⟩) (zk_preSH hN hE hA0 hS hP hD) rfl rfl hl.1 rfl (lv_room (Nat.le_of_ble_eq_true rfl)) dL_act_512 ⟨by show cells + 4 + 2 ≤ 30; omega, by show slots + 24 + 12 ≤ 180; omega⟩) hP hD hS hA (fun r5 σ4 H locs hpost hP hD hS => ?_)
    refine zk_cs (cells + 4 + 2) (slots + 24 + 12) rfl rfl ?_
    have hP : va_P G.1 vwCl (zw G a σ4) H := hP
    have hD : va_D A (zw G a σ4) := hD
    obtain ⟨⟨er, ec⟩, ht0⟩ := hpost
    rw [hg0] at er ec
    have hg0 : core σ4 = (fOrder (nI (zc n y)) (nI ((t + ((y / 16) % 8)) % 40)) (nI 0) κ).2 := ec
    refine zk_top (er) ?_
    have eX : fOrder (nI (zc n y)) (nI ((t + ((y / 16) % 8)) % 40)) (nI 0) κ = ka_18 n t y κ := by
      unfold ka_18
      first | (split <;> first | (exfalso; omega) | rfl) | rfl
    refine zk_top (congrArg Prod.fst eX) ?_
    have hg0 := hg0.trans (congrArg Prod.snd eX)
    refine W.widen (k := cells + 6) (n := slots + 36) (by omega) (by omega) ?_
    exact kk σ4 _ _ _ ht0 hg0 hP hD hS (lv_sub hl [0, 1, 2, 3, 4, 5] rfl)
  · have h504_2 := zk_nle0 (by omega) h504_2
    refine lv_iconst (v := nI 1) hx hb dL_act_507 (by decide) ?_
    refine lv_goto (tgt := 512) hx hb dL_act_508 (by decide) ?_
    refine zk_call1 (vx_runSW (As := [.ref a.1, .int (nI (zc n y)), .int (nI ((t + ((y / 16) % 8)) % 40)), .int (nI 1)]) (rest := []) ⟨hx, hb, hml, hown, hts⟩ (c_F_tryOrder l G hst a σ1 hok0 (nI (zc n y)) (nI ((t + ((y / 16) % 8)) % 40)) (nI 1) _) (vx_cwSW 4 hts gL_act_L_tryOrder rfl rfl rfl (by decide +kernel) ⟨Nat.le_of_ble_eq_true rfl, Nat.le_of_ble_eq_true rfl⟩) (zk_preSH hN hE hA0 hS hP hD) rfl rfl hl.1 rfl (lv_room (Nat.le_of_ble_eq_true rfl)) dL_act_512 ⟨by show cells + 4 + 2 ≤ 30; omega, by show slots + 24 + 12 ≤ 180; omega⟩) hP hD hS hA (fun r7 σ6 H locs hpost hP hD hS => ?_)
    refine zk_cs (cells + 4 + 2) (slots + 24 + 12) rfl rfl ?_
    have hP : va_P G.1 vwCl (zw G a σ6) H := hP
    have hD : va_D A (zw G a σ6) := hD
    obtain ⟨⟨er, ec⟩, ht0⟩ := hpost
    rw [hg0] at er ec
    have hg0 : core σ6 = (fOrder (nI (zc n y)) (nI ((t + ((y / 16) % 8)) % 40)) (nI 1) κ).2 := ec
    refine zk_top (er) ?_
    have eX : fOrder (nI (zc n y)) (nI ((t + ((y / 16) % 8)) % 40)) (nI 1) κ = ka_18 n t y κ := by
      unfold ka_18
      first | (split <;> first | (exfalso; omega) | rfl) | rfl
    refine zk_top (congrArg Prod.fst eX) ?_
    have hg0 := hg0.trans (congrArg Prod.snd eX)
    refine W.widen (k := cells + 6) (n := slots + 36) (by omega) (by omega) ?_
    exact kk σ6 _ _ _ ht0 hg0 hP hD hS (lv_sub hl [0, 1, 2, 3, 4, 5] rfl)

set_option maxHeartbeats 4000000 in
set_option maxRecDepth 100000 in
theorem za_17 {p : Program} {l : Launch} {e : Env} {s : State} {m : MethodId} {args : Array Value} {below : List Frame} {meth : Method} {c : Code} {Q : State → Prop} {A : Nat → Prop} {G : zk_G} {H : Heap} {locs : List Loc} {cells slots : Nat} {ls : Array Slot} (hst : l.stackTraces = false) (F : zFx p s m meth c args cL_act 6 (some .int) vL_act A G) {a : zA} {σ : zSt} {κ : zCo}  (ht0 : zTx σ) (hg0 : core σ = κ) (hk0 : kOk κ) {x y n t : Nat} (hy31 : y < 2 ^ 31) (hI : sInv (kL κ) n t) (hP : va_P G.1 vwCl (zw G a σ) H) (hD : va_D A (zw G a σ)) (hS : va_S A s.heap H locs) (hl : lv_has ls 6 [(0, .ref a.1), (1, .int (nI x)), (2, .int (nI y)), (3, .int (nI n)), (4, .int (nI (zc n y))), (5, .int (nI (y / 16 % 40)))]) (hcs : cells + 24 ≤ 30 ∧ slots + 144 ≤ 180)
    (kk : ∀ (σ₁ : zSt) (H₁ : Heap) (locs₁ : List Loc) (ls₁ : Array Slot), zTx σ₁ → core σ₁ = (ka_17 y κ).2 →  va_P G.1 vwCl (zw G a σ₁) H₁ → va_D A (zw G a σ₁) → va_S A s.heap H₁ locs₁ → lv_has ls₁ 6 [(0, .ref a.1), (1, .int (nI x)), (2, .int (nI y)), (3, .int (nI n)), (4, .int (nI (zc n y))), (5, .int (nI (y / 16 % 40)))] → W p l e rmL_act s m args below meth c H₁ locs₁ (cells + 24) (slots + 144) Q (F0 m 473 ls₁ [.int (ka_17 y κ).1])) :
    W p l e rmL_act s m args below meth c H locs cells slots Q (F0 m 385 ls []) := by
  obtain ⟨hx, hb, hml, hr, hts, hown, hlocks, hE, hA, hA0, hN⟩ := id F
  have hok0 := yOk_of hk0 hg0 ht0
  have hn12 := hI.2.1
  have ht40 := hI.2.2.2.1
  refine lv_aload_n hx hb dL_act_385 rfl (lv_at hl 0 rfl) ?_
  refine zk_call1 (va_runV (As := []) (rest := []) ⟨hx, hb, hml, hown, hts⟩ (c_F_clearText l G a σ hok0 _) (cwV 0 hts gL_act_X5_clearText rfl rfl rfl (by decide +kernel) ⟨Nat.le_of_ble_eq_true rfl, Nat.le_of_ble_eq_true rfl⟩) (zk_preVH hN hE hA0 hS hP hD (va_recv hE.1 hP (ci := 4) (q0 := 0) rfl rfl)) rfl rfl hl.1 rfl (lv_room (Nat.le_of_ble_eq_true rfl)) dL_act_386 ⟨by show cells + 0 ≤ 30; omega, by show slots + 0 ≤ 180; omega⟩) hP hD hS hA (fun r2 σ1 H locs hpost hP hD hS => ?_)
  refine zk_cs (cells + 0) (slots + 0) rfl rfl ?_
  have hP : va_P G.1 vwCl (zw G a σ1) H := hP
  have hD : va_D A (zw G a σ1) := hD
  obtain ⟨⟨er, ec⟩, ht0⟩ := hpost
  rw [hg0] at er ec
  have hg0 : core σ1 = (fClear κ).2 := ec
  have hk0 : kOk (fClear κ).2 := kOk_clr hk0
  have hok0 := yOk_of hk0 hg0 ht0
  have er : r2 = (fClear κ).1 := er
  refine zk_top er ?_
  refine lv_pop hx hb dL_act_389 rfl ?_
  refine lv_aload_n hx hb dL_act_390 rfl (lv_at hl 0 rfl) ?_
  refine lv_iconst (v := nI 0) hx hb dL_act_391 (by decide) ?_
  refine lv_bipush (v := nI 83) hx hb dL_act_392 (by decide) ?_
  refine lv_iconst (v := nI 0) hx hb dL_act_394 (by decide) ?_
  refine lv_iconst (v := nI 0) hx hb dL_act_395 (by decide) ?_
  refine zk_call1 (va_runS (As := [.ref a.1, .int (nI 0), .int (nI 83), .int (nI 0), .int (nI 0)]) (rest := []) ⟨hx, hb, hml, hown, hts⟩ (c_C_0 l G hst a σ1 hok0 (nI 83) (nI 0) (nI 0) _) (va_cwS 5 hts gL_act_L_call rfl rfl rfl (by decide +kernel) ⟨Nat.le_of_ble_eq_true rfl, Nat.le_of_ble_eq_true rfl⟩) (zk_preSH hN hE hA0 hS hP hD) rfl rfl hl.1 rfl (lv_room (Nat.le_of_ble_eq_true rfl)) dL_act_396 ⟨by show cells + 0 + 4 ≤ 30; omega, by show slots + 0 + 24 ≤ 180; omega⟩) hP hD hS hA (fun r4 σ3 H locs hpost hP hD hS => ?_)
  refine zk_cs (cells + 0 + 4) (slots + 0 + 24) rfl rfl ?_
  have hP : va_P G.1 vwCl (zw G a σ3) H := hP
  have hD : va_D A (zw G a σ3) := hD
  obtain ⟨⟨er, ec⟩, ht0⟩ := hpost
  rw [hg0] at er ec
  have hg0 : core σ3 = (ka_17a κ).2 := ec
  have hk0 : kOk (ka_17a κ).2 := kOk_app _ hk0
  have hok0 := yOk_of hk0 hg0 ht0
  have er : r4 = (ka_17a κ).1 := er
  refine zk_top er ?_
  refine lv_aload_n hx hb dL_act_399 rfl (lv_at hl 0 rfl) ?_
  refine lv_iconst (v := nI 0) hx hb dL_act_400 (by decide) ?_
  refine lv_iload_n hx hb dL_act_401 rfl (lv_at hl 2 rfl) ?_
  refine lv_iconst (v := nI 3) hx hb dL_act_402 (by decide) ?_
  refine zk_iremN hx hb dL_act_403 (by omega) (by omega) (by omega) ?_
  refine lv_if_ne (tgt := 412) hx hb dL_act_404 (by decide) (fun h404_4 => ?_) (fun h404_4 => ?_)
  · have h404_4 := zk_ne0 (by omega) h404_4
    refine lv_bipush (v := nI 109) hx hb dL_act_412 (by decide) ?_
    refine lv_iconst (v := nI 0) hx hb dL_act_414 (by decide) ?_
    refine lv_iconst (v := nI 0) hx hb dL_act_415 (by decide) ?_
    refine zk_call1 (va_runS (As := [.ref a.1, .int (nI 0), .int (nI 109), .int (nI 0), .int (nI 0)]) (rest := [.int ((ka_17a κ).1)]) ⟨hx, hb, hml, hown, hts⟩ (c_C_0 l G hst a σ3 hok0 (nI 109) (nI 0) (nI 0) _) (va_cwS 5 hts gL_act_L_call rfl rfl rfl (by decide +kernel) ⟨Nat.le_of_ble_eq_true rfl, Nat.le_of_ble_eq_true rfl⟩) (zk_preSH hN hE hA0 hS hP hD) rfl rfl hl.1 rfl (lv_room (Nat.le_of_ble_eq_true rfl)) dL_act_416 ⟨by show cells + 0 + 4 + 4 ≤ 30; omega, by show slots + 0 + 24 + 24 ≤ 180; omega⟩) hP hD hS hA (fun r7 σ6 H locs hpost hP hD hS => ?_)
    refine zk_cs (cells + 0 + 4 + 4) (slots + 0 + 24 + 24) rfl rfl ?_
    have hP : va_P G.1 vwCl (zw G a σ6) H := hP
    have hD : va_D A (zw G a σ6) := hD
    obtain ⟨⟨er, ec⟩, ht0⟩ := hpost
    rw [hg0] at er ec
    have eX : fAppend (nI 109) (ka_17a κ).2 = ka_17b y κ := by
      unfold ka_17b
      split <;> first | (exfalso; omega) | rfl
    rw [eX] at er ec
    have hg0 : core σ6 = (ka_17b y κ).2 := ec
    have hk0 : kOk (ka_17b y κ).2 := kOk_app _ hk0
    have hok0 := yOk_of hk0 hg0 ht0
    have er : r7 = (ka_17b y κ).1 := er
    refine zk_top er ?_
    refine lv_iadd hx hb dL_act_419 ?_
    refine lv_aload_n hx hb dL_act_420 rfl (lv_at hl 0 rfl) ?_
    refine lv_iconst (v := nI 0) hx hb dL_act_421 (by decide) ?_
    refine lv_bipush (v := nI 48) hx hb dL_act_422 (by decide) ?_
    refine lv_iload_n hx hb dL_act_424 rfl (lv_at hl 2 rfl) ?_
    refine lv_iconst (v := nI 4) hx hb dL_act_425 (by decide) ?_
    refine zk_idivN hx hb dL_act_426 (by omega) (by omega) (by omega) ?_
    refine lv_iconst (v := nI 5) hx hb dL_act_427 (by decide) ?_
    refine zk_iremN hx hb dL_act_428 (by omega) (by omega) (by omega) ?_
    refine zk_iaddN hx hb dL_act_429 ?_
    refine lv_iconst (v := nI 0) hx hb dL_act_430 (by decide) ?_
    refine lv_iconst (v := nI 0) hx hb dL_act_431 (by decide) ?_
    refine zk_call1 (va_runS (As := [.ref a.1, .int (nI 0), .int (nI (48 + ((y / 4) % 5))), .int (nI 0), .int (nI 0)]) (rest := [.int (((ka_17a κ).1) + ((ka_17b y κ).1))]) ⟨hx, hb, hml, hown, hts⟩ (c_C_0 l G hst a σ6 hok0 (nI (48 + ((y / 4) % 5))) (nI 0) (nI 0) _) (va_cwS 5 hts gL_act_L_call rfl rfl rfl (by decide +kernel) ⟨Nat.le_of_ble_eq_true rfl, Nat.le_of_ble_eq_true rfl⟩) (zk_preSH hN hE hA0 hS hP hD) rfl rfl hl.1 rfl (lv_room (Nat.le_of_ble_eq_true rfl)) dL_act_432 ⟨by show cells + 0 + 4 + 4 + 4 ≤ 30; omega, by show slots + 0 + 24 + 24 + 24 ≤ 180; omega⟩) hP hD hS hA (fun r9 σ8 H locs hpost hP hD hS => ?_)
    refine zk_cs (cells + 0 + 4 + 4 + 4) (slots + 0 + 24 + 24 + 24) rfl rfl ?_
    have hP : va_P G.1 vwCl (zw G a σ8) H := hP
    have hD : va_D A (zw G a σ8) := hD
    obtain ⟨⟨er, ec⟩, ht0⟩ := hpost
    rw [hg0] at er ec
    have hg0 : core σ8 = (ka_17c y κ).2 := ec
    have hk0 : kOk (ka_17c y κ).2 := kOk_app _ hk0
    have hok0 := yOk_of hk0 hg0 ht0
    have er : r9 = (ka_17c y κ).1 := er
    refine zk_top er ?_
    refine lv_iadd hx hb dL_act_435 ?_
    refine lv_aload_n hx hb dL_act_436 rfl (lv_at hl 0 rfl) ?_
    refine lv_iconst (v := nI 0) hx hb dL_act_437 (by decide) ?_
    refine lv_bipush (v := nI 48) hx hb dL_act_438 (by decide) ?_
    refine lv_iload_n hx hb dL_act_440 rfl (lv_at hl 2 rfl) ?_
    refine lv_bipush (v := nI 32) hx hb dL_act_441 (by decide) ?_
    refine zk_idivN hx hb dL_act_443 (by omega) (by omega) (by omega) ?_
    refine lv_iconst (v := nI 4) hx hb dL_act_444 (by decide) ?_
    refine zk_iremN hx hb dL_act_445 (by omega) (by omega) (by omega) ?_
    refine zk_iaddN hx hb dL_act_446 ?_
    refine lv_iconst (v := nI 0) hx hb dL_act_447 (by decide) ?_
    refine lv_iconst (v := nI 0) hx hb dL_act_448 (by decide) ?_
    refine zk_call1 (va_runS (As := [.ref a.1, .int (nI 0), .int (nI (48 + ((y / 32) % 4))), .int (nI 0), .int (nI 0)]) (rest := [.int ((((ka_17a κ).1) + ((ka_17b y κ).1)) + ((ka_17c y κ).1))]) ⟨hx, hb, hml, hown, hts⟩ (c_C_0 l G hst a σ8 hok0 (nI (48 + ((y / 32) % 4))) (nI 0) (nI 0) _) (va_cwS 5 hts gL_act_L_call rfl rfl rfl (by decide +kernel) ⟨Nat.le_of_ble_eq_true rfl, Nat.le_of_ble_eq_true rfl⟩) (zk_preSH hN hE hA0 hS hP hD) rfl rfl hl.1 rfl (lv_room (Nat.le_of_ble_eq_true rfl)) dL_act_449 ⟨by show cells + 0 + 4 + 4 + 4 + 4 ≤ 30; omega, by show slots + 0 + 24 + 24 + 24 + 24 ≤ 180; omega⟩) hP hD hS hA (fun r11 σ10 H locs hpost hP hD hS => ?_)
    refine zk_cs (cells + 0 + 4 + 4 + 4 + 4) (slots + 0 + 24 + 24 + 24 + 24) rfl rfl ?_
    have hP : va_P G.1 vwCl (zw G a σ10) H := hP
    have hD : va_D A (zw G a σ10) := hD
    obtain ⟨⟨er, ec⟩, ht0⟩ := hpost
    rw [hg0] at er ec
    have hg0 : core σ10 = (ka_17d y κ).2 := ec
    have hk0 : kOk (ka_17d y κ).2 := kOk_app _ hk0
    have hok0 := yOk_of hk0 hg0 ht0
    have er : r11 = (ka_17d y κ).1 := er
    refine zk_top er ?_
    refine lv_iadd hx hb dL_act_452 ?_
    refine lv_iload_n hx hb dL_act_453 rfl (lv_at hl 2 rfl) ?_
    refine lv_bipush (v := nI 64) hx hb dL_act_454 (by decide) ?_
    refine zk_iremN hx hb dL_act_456 (by omega) (by omega) (by omega) ?_
    refine lv_if_ne (tgt := 471) hx hb dL_act_457 (by decide) (fun h457_11 => ?_) (fun h457_11 => ?_)
    · have h457_11 := zk_ne0 (by omega) h457_11
      refine lv_iconst (v := nI 0) hx hb dL_act_471 (by decide) ?_
      have eX : ka_17e y κ = (nI 0, (ka_17d y κ).2) := by
        unfold ka_17e
        split <;> first | (exfalso; omega) | rfl
      refine zk_top (show nI 0 = (ka_17e y κ).1 by rw [eX]) ?_
      have hg0 := hg0.trans (show (ka_17d y κ).2 = (ka_17e y κ).2 by rw [eX])
      refine lv_iadd hx hb dL_act_472 ?_
      refine W.widen (k := cells + 24) (n := slots + 144) (by omega) (by omega) ?_
      exact kk σ10 _ _ _ ht0 hg0 hP hD hS (lv_sub hl [0, 1, 2, 3, 4, 5] rfl)
    · have h457_11 := zk_eq0 (by omega) h457_11
      refine lv_aload_n hx hb dL_act_460 rfl (lv_at hl 0 rfl) ?_
      refine lv_iconst (v := nI 1) hx hb dL_act_461 (by decide) ?_
      refine lv_iconst (v := nI 0) hx hb dL_act_462 (by decide) ?_
      refine lv_iconst (v := nI 0) hx hb dL_act_463 (by decide) ?_
      refine lv_iconst (v := nI 0) hx hb dL_act_464 (by decide) ?_
      refine zk_call1 (va_runS (As := [.ref a.1, .int (nI 1), .int (nI 0), .int (nI 0), .int (nI 0)]) (rest := [.int (((((ka_17a κ).1) + ((ka_17b y κ).1)) + ((ka_17c y κ).1)) + ((ka_17d y κ).1))]) ⟨hx, hb, hml, hown, hts⟩ (c_C_1 l G hst a σ10 hok0 (nI 0) (nI 0) (nI 0) _) (va_cwS 5 hts gL_act_L_call rfl rfl rfl (by decide +kernel) ⟨Nat.le_of_ble_eq_true rfl, Nat.le_of_ble_eq_true rfl⟩) (zk_preSH hN hE hA0 hS hP hD) rfl rfl hl.1 rfl (lv_room (Nat.le_of_ble_eq_true rfl)) dL_act_465 ⟨by show cells + 0 + 4 + 4 + 4 + 4 + 4 ≤ 30; omega, by show slots + 0 + 24 + 24 + 24 + 24 + 24 ≤ 180; omega⟩) hP hD hS hA (fun r14 σ13 H locs hpost hP hD hS => ?_)
      refine zk_cs (cells + 0 + 4 + 4 + 4 + 4 + 4) (slots + 0 + 24 + 24 + 24 + 24 + 24) rfl rfl ?_
      have hP : va_P G.1 vwCl (zw G a σ13) H := hP
      have hD : va_D A (zw G a σ13) := hD
      obtain ⟨⟨er, ec⟩, ht0⟩ := hpost
      rw [hg0] at er ec
      have eX : fLoad (ka_17d y κ).2 = ka_17e y κ := by
        unfold ka_17e
        split <;> first | (exfalso; omega) | rfl
      rw [eX] at er ec
      have hg0 : core σ13 = (ka_17e y κ).2 := ec
      have er : r14 = (ka_17e y κ).1 := er
      refine zk_top er ?_
      refine lv_goto (tgt := 472) hx hb dL_act_468 (by decide) ?_
      refine lv_iadd hx hb dL_act_472 ?_
      refine W.widen (k := cells + 24) (n := slots + 144) (by omega) (by omega) ?_
      exact kk σ13 _ _ _ ht0 hg0 hP hD hS (lv_sub hl [0, 1, 2, 3, 4, 5] rfl)
  · have h404_4 := zk_eq0 (by omega) h404_4
    refine lv_bipush (v := nI 99) hx hb dL_act_407 (by decide) ?_
    refine lv_goto (tgt := 414) hx hb dL_act_409 (by decide) ?_
    refine lv_iconst (v := nI 0) hx hb dL_act_414 (by decide) ?_
    refine lv_iconst (v := nI 0) hx hb dL_act_415 (by decide) ?_
    refine zk_call1 (va_runS (As := [.ref a.1, .int (nI 0), .int (nI 99), .int (nI 0), .int (nI 0)]) (rest := [.int ((ka_17a κ).1)]) ⟨hx, hb, hml, hown, hts⟩ (c_C_0 l G hst a σ3 hok0 (nI 99) (nI 0) (nI 0) _) (va_cwS 5 hts gL_act_L_call rfl rfl rfl (by decide +kernel) ⟨Nat.le_of_ble_eq_true rfl, Nat.le_of_ble_eq_true rfl⟩) (zk_preSH hN hE hA0 hS hP hD) rfl rfl hl.1 rfl (lv_room (Nat.le_of_ble_eq_true rfl)) dL_act_416 ⟨by show cells + 0 + 4 + 4 ≤ 30; omega, by show slots + 0 + 24 + 24 ≤ 180; omega⟩) hP hD hS hA (fun r16 σ15 H locs hpost hP hD hS => ?_)
    refine zk_cs (cells + 0 + 4 + 4) (slots + 0 + 24 + 24) rfl rfl ?_
    have hP : va_P G.1 vwCl (zw G a σ15) H := hP
    have hD : va_D A (zw G a σ15) := hD
    obtain ⟨⟨er, ec⟩, ht0⟩ := hpost
    rw [hg0] at er ec
    have eX : fAppend (nI 99) (ka_17a κ).2 = ka_17b y κ := by
      unfold ka_17b
      split <;> first | (exfalso; omega) | rfl
    rw [eX] at er ec
    have hg0 : core σ15 = (ka_17b y κ).2 := ec
    have hk0 : kOk (ka_17b y κ).2 := kOk_app _ hk0
    have hok0 := yOk_of hk0 hg0 ht0
    have er : r16 = (ka_17b y κ).1 := er
    refine zk_top er ?_
    refine lv_iadd hx hb dL_act_419 ?_
    refine lv_aload_n hx hb dL_act_420 rfl (lv_at hl 0 rfl) ?_
    refine lv_iconst (v := nI 0) hx hb dL_act_421 (by decide) ?_
    refine lv_bipush (v := nI 48) hx hb dL_act_422 (by decide) ?_
    refine lv_iload_n hx hb dL_act_424 rfl (lv_at hl 2 rfl) ?_
    refine lv_iconst (v := nI 4) hx hb dL_act_425 (by decide) ?_
    refine zk_idivN hx hb dL_act_426 (by omega) (by omega) (by omega) ?_
    refine lv_iconst (v := nI 5) hx hb dL_act_427 (by decide) ?_
    refine zk_iremN hx hb dL_act_428 (by omega) (by omega) (by omega) ?_
    refine zk_iaddN hx hb dL_act_429 ?_
    refine lv_iconst (v := nI 0) hx hb dL_act_430 (by decide) ?_
    refine lv_iconst (v := nI 0) hx hb dL_act_431 (by decide) ?_
    refine zk_call1 (va_runS (As := [.ref a.1, .int (nI 0), .int (nI (48 + ((y / 4) % 5))), .int (nI 0), .int (nI 0)]) (rest := [.int (((ka_17a κ).1) + ((ka_17b y κ).1))]) ⟨hx, hb, hml, hown, hts⟩ (c_C_0 l G hst a σ15 hok0 (nI (48 + ((y / 4) % 5))) (nI 0) (nI 0) _) (va_cwS 5 hts gL_act_L_call rfl rfl rfl (by decide +kernel) ⟨Nat.le_of_ble_eq_true rfl, Nat.le_of_ble_eq_true rfl⟩) (zk_preSH hN hE hA0 hS hP hD) rfl rfl hl.1 rfl (lv_room (Nat.le_of_ble_eq_true rfl)) dL_act_432 ⟨by show cells + 0 + 4 + 4 + 4 ≤ 30; omega, by show slots + 0 + 24 + 24 + 24 ≤ 180; omega⟩) hP hD hS hA (fun r18 σ17 H locs hpost hP hD hS => ?_)
    refine zk_cs (cells + 0 + 4 + 4 + 4) (slots + 0 + 24 + 24 + 24) rfl rfl ?_
    have hP : va_P G.1 vwCl (zw G a σ17) H := hP
    have hD : va_D A (zw G a σ17) := hD
    obtain ⟨⟨er, ec⟩, ht0⟩ := hpost
    rw [hg0] at er ec
    have hg0 : core σ17 = (ka_17c y κ).2 := ec
    have hk0 : kOk (ka_17c y κ).2 := kOk_app _ hk0
    have hok0 := yOk_of hk0 hg0 ht0
    have er : r18 = (ka_17c y κ).1 := er
    refine zk_top er ?_
    refine lv_iadd hx hb dL_act_435 ?_
    refine lv_aload_n hx hb dL_act_436 rfl (lv_at hl 0 rfl) ?_
    refine lv_iconst (v := nI 0) hx hb dL_act_437 (by decide) ?_
    refine lv_bipush (v := nI 48) hx hb dL_act_438 (by decide) ?_
    refine lv_iload_n hx hb dL_act_440 rfl (lv_at hl 2 rfl) ?_
    refine lv_bipush (v := nI 32) hx hb dL_act_441 (by decide) ?_
    refine zk_idivN hx hb dL_act_443 (by omega) (by omega) (by omega) ?_
    refine lv_iconst (v := nI 4) hx hb dL_act_444 (by decide) ?_
    refine zk_iremN hx hb dL_act_445 (by omega) (by omega) (by omega) ?_
    refine zk_iaddN hx hb dL_act_446 ?_
    refine lv_iconst (v := nI 0) hx hb dL_act_447 (by decide) ?_
    refine lv_iconst (v := nI 0) hx hb dL_act_448 (by decide) ?_
    refine zk_call1 (va_runS (As := [.ref a.1, .int (nI 0), .int (nI (48 + ((y / 32) % 4))), .int (nI 0), .int (nI 0)]) (rest := [.int ((((ka_17a κ).1) + ((ka_17b y κ).1)) + ((ka_17c y κ).1))]) ⟨hx, hb, hml, hown, hts⟩ (c_C_0 l G hst a σ17 hok0 (nI (48 + ((y / 32) % 4))) (nI 0) (nI 0) _) (va_cwS 5 hts gL_act_L_call rfl rfl rfl (by decide +kernel) ⟨Nat.le_of_ble_eq_true rfl, Nat.le_of_ble_eq_true rfl⟩) (zk_preSH hN hE hA0 hS hP hD) rfl rfl hl.1 rfl (lv_room (Nat.le_of_ble_eq_true rfl)) dL_act_449 ⟨by show cells + 0 + 4 + 4 + 4 + 4 ≤ 30; omega, by show slots + 0 + 24 + 24 + 24 + 24 ≤ 180; omega⟩) hP hD hS hA (fun r20 σ19 H locs hpost hP hD hS => ?_)
    refine zk_cs (cells + 0 + 4 + 4 + 4 + 4) (slots + 0 + 24 + 24 + 24 + 24) rfl rfl ?_
    have hP : va_P G.1 vwCl (zw G a σ19) H := hP
    have hD : va_D A (zw G a σ19) := hD
    obtain ⟨⟨er, ec⟩, ht0⟩ := hpost
    rw [hg0] at er ec
    have hg0 : core σ19 = (ka_17d y κ).2 := ec
    have hk0 : kOk (ka_17d y κ).2 := kOk_app _ hk0
    have hok0 := yOk_of hk0 hg0 ht0
    have er : r20 = (ka_17d y κ).1 := er
    refine zk_top er ?_
    refine lv_iadd hx hb dL_act_452 ?_
    refine lv_iload_n hx hb dL_act_453 rfl (lv_at hl 2 rfl) ?_
    refine lv_bipush (v := nI 64) hx hb dL_act_454 (by decide) ?_
    refine zk_iremN hx hb dL_act_456 (by omega) (by omega) (by omega) ?_
    refine lv_if_ne (tgt := 471) hx hb dL_act_457 (by decide) (fun h457_20 => ?_) (fun h457_20 => ?_)
    · have h457_20 := zk_ne0 (by omega) h457_20
      refine lv_iconst (v := nI 0) hx hb dL_act_471 (by decide) ?_
      have eX : ka_17e y κ = (nI 0, (ka_17d y κ).2) := by
        unfold ka_17e
        split <;> first | (exfalso; omega) | rfl
      refine zk_top (show nI 0 = (ka_17e y κ).1 by rw [eX]) ?_
      have hg0 := hg0.trans (show (ka_17d y κ).2 = (ka_17e y κ).2 by rw [eX])
      refine lv_iadd hx hb dL_act_472 ?_
      refine W.widen (k := cells + 24) (n := slots + 144) (by omega) (by omega) ?_
      exact kk σ19 _ _ _ ht0 hg0 hP hD hS (lv_sub hl [0, 1, 2, 3, 4, 5] rfl)
    · have h457_20 := zk_eq0 (by omega) h457_20
      refine lv_aload_n hx hb dL_act_460 rfl (lv_at hl 0 rfl) ?_
      refine lv_iconst (v := nI 1) hx hb dL_act_461 (by decide) ?_
      refine lv_iconst (v := nI 0) hx hb dL_act_462 (by decide) ?_
      refine lv_iconst (v := nI 0) hx hb dL_act_463 (by decide) ?_
      refine lv_iconst (v := nI 0) hx hb dL_act_464 (by decide) ?_
      refine zk_call1 (va_runS (As := [.ref a.1, .int (nI 1), .int (nI 0), .int (nI 0), .int (nI 0)]) (rest := [.int (((((ka_17a κ).1) + ((ka_17b y κ).1)) + ((ka_17c y κ).1)) + ((ka_17d y κ).1))]) ⟨hx, hb, hml, hown, hts⟩ (c_C_1 l G hst a σ19 hok0 (nI 0) (nI 0) (nI 0) _) (va_cwS 5 hts gL_act_L_call rfl rfl rfl (by decide +kernel) ⟨Nat.le_of_ble_eq_true rfl, Nat.le_of_ble_eq_true rfl⟩) (zk_preSH hN hE hA0 hS hP hD) rfl rfl hl.1 rfl (lv_room (Nat.le_of_ble_eq_true rfl)) dL_act_465 ⟨by show cells + 0 + 4 + 4 + 4 + 4 + 4 ≤ 30; omega, by show slots + 0 + 24 + 24 + 24 + 24 + 24 ≤ 180; omega⟩) hP hD hS hA (fun r23 σ22 H locs hpost hP hD hS => ?_)
      refine zk_cs (cells + 0 + 4 + 4 + 4 + 4 + 4) (slots + 0 + 24 + 24 + 24 + 24 + 24) rfl rfl ?_
      have hP : va_P G.1 vwCl (zw G a σ22) H := hP
      have hD : va_D A (zw G a σ22) := hD
      obtain ⟨⟨er, ec⟩, ht0⟩ := hpost
      rw [hg0] at er ec
      have eX : fLoad (ka_17d y κ).2 = ka_17e y κ := by
        unfold ka_17e
        split <;> first | (exfalso; omega) | rfl
      rw [eX] at er ec
      have hg0 : core σ22 = (ka_17e y κ).2 := ec
      have er : r23 = (ka_17e y κ).1 := er
      refine zk_top er ?_
      refine lv_goto (tgt := 472) hx hb dL_act_468 (by decide) ?_
      refine lv_iadd hx hb dL_act_472 ?_
      refine W.widen (k := cells + 24) (n := slots + 144) (by omega) (by omega) ?_
      exact kk σ22 _ _ _ ht0 hg0 hP hD hS (lv_sub hl [0, 1, 2, 3, 4, 5] rfl)

set_option maxHeartbeats 4000000 in
set_option maxRecDepth 100000 in
theorem c_L_act (l : Launch) (G : zk_G) (hst : l.stackTraces = false) (a : zA) (σ : zSt) (hok : yOk σ) (x y : Nat) (hx31 : x < 2 ^ 31) (hy31 : y < 2 ^ 31) : zk_IH (S := zSt) l yL_act vL_act rmL_act G [.ref a.1, .int (nI x), .int (nI y)] (zw G a σ) (fun r σ' => (r = (kAct (x % 24) y (core σ)).1 ∧ core σ' = (kAct (x % 24) y (core σ)).2) ∧ zTx σ') (zw G a) := by
  refine zk_bodyIN (cc := cL_act) (maxL := 6) (ret := (some .int)) (by decide) rfl (Nat.le_of_ble_eq_true rfl) ?_
  intro p E0 s m args below meth cd A ls Q hF hN hQ
  obtain ⟨hx, hb0, hml, hr, hts, hown, hlocks, -, hE, hP, hD, hS, hA, hA0, hl⟩ := hF
  have F : zFx p s m meth cd args cL_act 6 (some .int) vL_act A G := ⟨hx, hb0, hml, hr, hts, hown, hlocks, hE, hA, hA0, hN⟩
  have hl : lv_has ls 6 [(0, .ref a.1), (1, .int (nI x)), (2, .int (nI y))] := hl
  obtain ⟨ht0, hk⟩ := hok
  obtain ⟨κ, hg0⟩ : ∃ κ, core σ = κ := ⟨_, rfl⟩
  have hk0 : kOk κ := by rw [← hg0]; exact hk
  rw [hg0] at hQ
  have hI := hk0.1
  refine za_0 hst F ht0 hg0 hk0 hy31 hI hP hD hS hl ⟨by decide, by decide⟩ (fun σ H locs ls ht0 hg0 hP hD hS hl => ?_)
  refine lv_iload_n hx hb0 dL_act_31 rfl (lv_at hl 1 rfl) ?_
  refine lv_bipush (v := nI 24) hx hb0 dL_act_32 (by decide) ?_
  refine zk_iremN hx hb0 dL_act_34 hx31 (by decide) (by decide) ?_
  have hk24 : x % 24 < 24 := Nat.mod_lt _ (by decide)
  revert hk24 hQ
  generalize x % 24 = k
  intro hQ hk24
  rcases (show k = 0 ∨ k = 1 ∨ k = 2 ∨ k = 3 ∨ k = 4 ∨ k = 5 ∨ k = 6 ∨ k = 7 ∨ k = 8 ∨ k = 9 ∨ k = 10 ∨ k = 11 ∨ k = 12 ∨ k = 13 ∨ k = 14 ∨ k = 15 ∨ k = 16 ∨ k = 17 ∨ k = 18 ∨ k = 19 ∨ k = 20 ∨ k = 21 ∨ k = 22 ∨ k = 23 by omega) with rfl | rfl | rfl | rfl | rfl | rfl | rfl | rfl | rfl | rfl | rfl | rfl | rfl | rfl | rfl | rfl | rfl | rfl | rfl | rfl | rfl | rfl | rfl | rfl
  · refine lv_tableIn (off := 85) (tgt := 120) hx hb0 dL_act_35 (by decide) (by decide) (by decide) (by decide) ?_
    refine za_01 hst F ht0 hg0 hk0 hy31 hI hP hD hS hl ⟨by decide, by decide⟩ (fun σ H locs ls ht0 hg0 hP hD hS hl => ?_)
    exact zk_reti σ hQ hx hb0 hr hlocks hS hP hD (Nat.le_of_ble_eq_true rfl) (Nat.le_of_ble_eq_true rfl) dL_act_153 ⟨⟨rfl, hg0⟩, ht0⟩
  · refine lv_tableIn (off := 85) (tgt := 120) hx hb0 dL_act_35 (by decide) (by decide) (by decide) (by decide) ?_
    refine za_01 hst F ht0 hg0 hk0 hy31 hI hP hD hS hl ⟨by decide, by decide⟩ (fun σ H locs ls ht0 hg0 hP hD hS hl => ?_)
    exact zk_reti σ hQ hx hb0 hr hlocks hS hP hD (Nat.le_of_ble_eq_true rfl) (Nat.le_of_ble_eq_true rfl) dL_act_153 ⟨⟨rfl, hg0⟩, ht0⟩
  · refine lv_tableIn (off := 119) (tgt := 154) hx hb0 dL_act_35 (by decide) (by decide) (by decide) (by decide) ?_
    refine za_2 hst F ht0 hg0 hk0 hy31 hI hP hD hS hl ⟨by decide, by decide⟩ (fun σ H locs ls ht0 hg0 hP hD hS hl => ?_)
    exact zk_reti σ hQ hx hb0 hr hlocks hS hP hD (Nat.le_of_ble_eq_true rfl) (Nat.le_of_ble_eq_true rfl) dL_act_170 ⟨⟨rfl, hg0⟩, ht0⟩
  · refine lv_tableIn (off := 136) (tgt := 171) hx hb0 dL_act_35 (by decide) (by decide) (by decide) (by decide) ?_
    refine za_34 hst F ht0 hg0 hk0 hy31 hI hP hD hS hl ⟨by decide, by decide⟩ (fun σ H locs ls ht0 hg0 hP hD hS hl => ?_)
    exact zk_reti σ hQ hx hb0 hr hlocks hS hP hD (Nat.le_of_ble_eq_true rfl) (Nat.le_of_ble_eq_true rfl) dL_act_212 ⟨⟨rfl, hg0⟩, ht0⟩
  · refine lv_tableIn (off := 136) (tgt := 171) hx hb0 dL_act_35 (by decide) (by decide) (by decide) (by decide) ?_
    refine za_34 hst F ht0 hg0 hk0 hy31 hI hP hD hS hl ⟨by decide, by decide⟩ (fun σ H locs ls ht0 hg0 hP hD hS hl => ?_)
    exact zk_reti σ hQ hx hb0 hr hlocks hS hP hD (Nat.le_of_ble_eq_true rfl) (Nat.le_of_ble_eq_true rfl) dL_act_212 ⟨⟨rfl, hg0⟩, ht0⟩
  · refine lv_tableIn (off := 178) (tgt := 213) hx hb0 dL_act_35 (by decide) (by decide) (by decide) (by decide) ?_
    refine za_5 hst F ht0 hg0 hk0 hy31 hI hP hD hS hl ⟨by decide, by decide⟩ (fun σ H locs ls ht0 hg0 hP hD hS hl => ?_)
    exact zk_reti σ hQ hx hb0 hr hlocks hS hP hD (Nat.le_of_ble_eq_true rfl) (Nat.le_of_ble_eq_true rfl) dL_act_246 ⟨⟨rfl, hg0⟩, ht0⟩
  · refine lv_tableIn (off := 212) (tgt := 247) hx hb0 dL_act_35 (by decide) (by decide) (by decide) (by decide) ?_
    refine za_6 hst F ht0 hg0 hk0 hy31 hI hP hD hS hl ⟨by decide, by decide⟩ (fun σ H locs ls ht0 hg0 hP hD hS hl => ?_)
    exact zk_reti σ hQ hx hb0 hr hlocks hS hP hD (Nat.le_of_ble_eq_true rfl) (Nat.le_of_ble_eq_true rfl) dL_act_268 ⟨⟨rfl, hg0⟩, ht0⟩
  · refine lv_tableIn (off := 234) (tgt := 269) hx hb0 dL_act_35 (by decide) (by decide) (by decide) (by decide) ?_
    refine za_78 hst F ht0 hg0 hk0 hy31 hI hP hD hS hl ⟨by decide, by decide⟩ (fun σ H locs ls ht0 hg0 hP hD hS hl => ?_)
    exact zk_reti σ hQ hx hb0 hr hlocks hS hP hD (Nat.le_of_ble_eq_true rfl) (Nat.le_of_ble_eq_true rfl) dL_act_304 ⟨⟨rfl, hg0⟩, ht0⟩
  · refine lv_tableIn (off := 234) (tgt := 269) hx hb0 dL_act_35 (by decide) (by decide) (by decide) (by decide) ?_
    refine za_78 hst F ht0 hg0 hk0 hy31 hI hP hD hS hl ⟨by decide, by decide⟩ (fun σ H locs ls ht0 hg0 hP hD hS hl => ?_)
    exact zk_reti σ hQ hx hb0 hr hlocks hS hP hD (Nat.le_of_ble_eq_true rfl) (Nat.le_of_ble_eq_true rfl) dL_act_304 ⟨⟨rfl, hg0⟩, ht0⟩
  · refine lv_tableIn (off := 270) (tgt := 305) hx hb0 dL_act_35 (by decide) (by decide) (by decide) (by decide) ?_
    refine za_9 hst F ht0 hg0 hk0 hy31 hI hP hD hS hl ⟨by decide, by decide⟩ (fun σ H locs ls ht0 hg0 hP hD hS hl => ?_)
    exact zk_reti σ hQ hx hb0 hr hlocks hS hP hD (Nat.le_of_ble_eq_true rfl) (Nat.le_of_ble_eq_true rfl) dL_act_316 ⟨⟨rfl, hg0⟩, ht0⟩
  · refine lv_tableIn (off := 282) (tgt := 317) hx hb0 dL_act_35 (by decide) (by decide) (by decide) (by decide) ?_
    refine za_10 hst F ht0 hg0 hk0 hy31 hI hP hD hS hl ⟨by decide, by decide⟩ (fun σ H locs ls ht0 hg0 hP hD hS hl => ?_)
    exact zk_reti σ hQ hx hb0 hr hlocks hS hP hD (Nat.le_of_ble_eq_true rfl) (Nat.le_of_ble_eq_true rfl) dL_act_336 ⟨⟨rfl, hg0⟩, ht0⟩
  · refine lv_tableIn (off := 302) (tgt := 337) hx hb0 dL_act_35 (by decide) (by decide) (by decide) (by decide) ?_
    refine za_11 hst F ht0 hg0 hk0 hy31 hI hP hD hS hl ⟨by decide, by decide⟩ (fun σ H locs ls ht0 hg0 hP hD hS hl => ?_)
    exact zk_reti σ hQ hx hb0 hr hlocks hS hP hD (Nat.le_of_ble_eq_true rfl) (Nat.le_of_ble_eq_true rfl) dL_act_346 ⟨⟨rfl, hg0⟩, ht0⟩
  · refine lv_tableIn (off := 312) (tgt := 347) hx hb0 dL_act_35 (by decide) (by decide) (by decide) (by decide) ?_
    refine za_12 hst F ht0 hg0 hk0 hy31 hI hP hD hS hl ⟨by decide, by decide⟩ (fun σ H locs ls ht0 hg0 hP hD hS hl => ?_)
    exact zk_reti σ hQ hx hb0 hr hlocks hS hP hD (Nat.le_of_ble_eq_true rfl) (Nat.le_of_ble_eq_true rfl) dL_act_358 ⟨⟨rfl, hg0⟩, ht0⟩
  · refine lv_tableIn (off := 324) (tgt := 359) hx hb0 dL_act_35 (by decide) (by decide) (by decide) (by decide) ?_
    refine za_13 hst F ht0 hg0 hk0 hy31 hI hP hD hS hl ⟨by decide, by decide⟩ (fun σ H locs ls ht0 hg0 hP hD hS hl => ?_)
    exact zk_reti σ hQ hx hb0 hr hlocks hS hP hD (Nat.le_of_ble_eq_true rfl) (Nat.le_of_ble_eq_true rfl) dL_act_370 ⟨⟨rfl, hg0⟩, ht0⟩
  · refine lv_tableIn (off := 336) (tgt := 371) hx hb0 dL_act_35 (by decide) (by decide) (by decide) (by decide) ?_
    refine za_146 hst F ht0 hg0 hk0 hy31 hI hP hD hS hl ⟨by decide, by decide⟩ (fun σ H locs ls ht0 hg0 hP hD hS hl => ?_)
    exact zk_reti σ hQ hx hb0 hr hlocks hS hP hD (Nat.le_of_ble_eq_true rfl) (Nat.le_of_ble_eq_true rfl) dL_act_384 ⟨⟨rfl, hg0⟩, ht0⟩
  · refine lv_tableIn (off := 336) (tgt := 371) hx hb0 dL_act_35 (by decide) (by decide) (by decide) (by decide) ?_
    refine za_146 hst F ht0 hg0 hk0 hy31 hI hP hD hS hl ⟨by decide, by decide⟩ (fun σ H locs ls ht0 hg0 hP hD hS hl => ?_)
    exact zk_reti σ hQ hx hb0 hr hlocks hS hP hD (Nat.le_of_ble_eq_true rfl) (Nat.le_of_ble_eq_true rfl) dL_act_384 ⟨⟨rfl, hg0⟩, ht0⟩
  · refine lv_tableIn (off := 336) (tgt := 371) hx hb0 dL_act_35 (by decide) (by decide) (by decide) (by decide) ?_
    refine za_146 hst F ht0 hg0 hk0 hy31 hI hP hD hS hl ⟨by decide, by decide⟩ (fun σ H locs ls ht0 hg0 hP hD hS hl => ?_)
    exact zk_reti σ hQ hx hb0 hr hlocks hS hP hD (Nat.le_of_ble_eq_true rfl) (Nat.le_of_ble_eq_true rfl) dL_act_384 ⟨⟨rfl, hg0⟩, ht0⟩
  · refine lv_tableIn (off := 350) (tgt := 385) hx hb0 dL_act_35 (by decide) (by decide) (by decide) (by decide) ?_
    refine za_17 hst F ht0 hg0 hk0 hy31 hI hP hD hS hl ⟨by decide, by decide⟩ (fun σ H locs ls ht0 hg0 hP hD hS hl => ?_)
    exact zk_reti σ hQ hx hb0 hr hlocks hS hP hD (Nat.le_of_ble_eq_true rfl) (Nat.le_of_ble_eq_true rfl) dL_act_473 ⟨⟨rfl, hg0⟩, ht0⟩
  · refine lv_tableOut (tgt := 474) hx hb0 dL_act_35 (Or.inr (by decide)) (by decide) ?_
    refine za_18 hst F ht0 hg0 hk0 hy31 hI hP hD hS hl ⟨by decide, by decide⟩ (fun σ H locs ls ht0 hg0 hP hD hS hl => ?_)
    exact zk_reti σ hQ hx hb0 hr hlocks hS hP hD (Nat.le_of_ble_eq_true rfl) (Nat.le_of_ble_eq_true rfl) dL_act_515 ⟨⟨rfl, hg0⟩, ht0⟩
  · refine lv_tableOut (tgt := 474) hx hb0 dL_act_35 (Or.inr (by decide)) (by decide) ?_
    refine za_18 hst F ht0 hg0 hk0 hy31 hI hP hD hS hl ⟨by decide, by decide⟩ (fun σ H locs ls ht0 hg0 hP hD hS hl => ?_)
    exact zk_reti σ hQ hx hb0 hr hlocks hS hP hD (Nat.le_of_ble_eq_true rfl) (Nat.le_of_ble_eq_true rfl) dL_act_515 ⟨⟨rfl, hg0⟩, ht0⟩
  · refine lv_tableOut (tgt := 474) hx hb0 dL_act_35 (Or.inr (by decide)) (by decide) ?_
    refine za_18 hst F ht0 hg0 hk0 hy31 hI hP hD hS hl ⟨by decide, by decide⟩ (fun σ H locs ls ht0 hg0 hP hD hS hl => ?_)
    exact zk_reti σ hQ hx hb0 hr hlocks hS hP hD (Nat.le_of_ble_eq_true rfl) (Nat.le_of_ble_eq_true rfl) dL_act_515 ⟨⟨rfl, hg0⟩, ht0⟩
  · refine lv_tableOut (tgt := 474) hx hb0 dL_act_35 (Or.inr (by decide)) (by decide) ?_
    refine za_18 hst F ht0 hg0 hk0 hy31 hI hP hD hS hl ⟨by decide, by decide⟩ (fun σ H locs ls ht0 hg0 hP hD hS hl => ?_)
    exact zk_reti σ hQ hx hb0 hr hlocks hS hP hD (Nat.le_of_ble_eq_true rfl) (Nat.le_of_ble_eq_true rfl) dL_act_515 ⟨⟨rfl, hg0⟩, ht0⟩
  · refine lv_tableOut (tgt := 474) hx hb0 dL_act_35 (Or.inr (by decide)) (by decide) ?_
    refine za_18 hst F ht0 hg0 hk0 hy31 hI hP hD hS hl ⟨by decide, by decide⟩ (fun σ H locs ls ht0 hg0 hP hD hS hl => ?_)
    exact zk_reti σ hQ hx hb0 hr hlocks hS hP hD (Nat.le_of_ble_eq_true rfl) (Nat.le_of_ble_eq_true rfl) dL_act_515 ⟨⟨rfl, hg0⟩, ht0⟩
  · refine lv_tableOut (tgt := 474) hx hb0 dL_act_35 (Or.inr (by decide)) (by decide) ?_
    refine za_18 hst F ht0 hg0 hk0 hy31 hI hP hD hS hl ⟨by decide, by decide⟩ (fun σ H locs ls ht0 hg0 hP hD hS hl => ?_)
    exact zk_reti σ hQ hx hb0 hr hlocks hS hP hD (Nat.le_of_ble_eq_true rfl) (Nat.le_of_ble_eq_true rfl) dL_act_515 ⟨⟨rfl, hg0⟩, ht0⟩
