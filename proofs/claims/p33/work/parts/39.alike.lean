/-! Two objects with one core answer alike. -/
theorem zk_loopN {V : Nat → Prop} {n : Nat} (he : V n) (hb : ∀ i, i < n → V (i + 1) → V i) : ∀ k, k ≤ n → V (n - k)
  | 0, _ => he
  | k + 1, h => hb (n - (k + 1)) (by omega) (by rw [show n - (k + 1) + 1 = n - k by omega]; exact zk_loopN he hb k (by omega))
theorem zk_loop0 {V : Nat → Prop} {n : Nat} (he : V n) (hb : ∀ i, i < n → V (i + 1) → V i) : V 0 := by
  have := zk_loopN he hb n (Nat.le_refl n)
  rwa [Nat.sub_self] at this

abbrev rmL_alike : Room := { frames := 11, cells := 800, slots := 4800, locals := 246 }

set_option maxHeartbeats 4000000 in
set_option maxRecDepth 100000 in
theorem zl_1 {p : Program} {l : Launch} {e : Env} {s : State} {m : MethodId} {args : Array Value} {below : List Frame} {meth : Method} {c : Code} {Q : State → Prop} {A : Nat → Prop} {G : zk_G} {H : Heap} {locs : List Loc} {cells slots : Nat} {ls : Array Slot} (hst : l.stackTraces = false) (F : zFx p s m meth c args cL_alike 6 (some .boolean) vL_alike A G) {a : zA} {b : zA} {σ : zSt} {τ : zSt} {κ : zCo}  (ht0 : zTx σ) (hg0 : core σ = κ) (ht1 : zTx τ) (hg1 : core τ = κ) (hk0 : kOk κ) {x n t : Nat} (hx31 : x < 2 ^ 31) (hI : sInv (kL κ) n t) (hP : va_P G.1 vwCl (zw G a σ ++ zw G b τ) H) (hD : va_D A (zw G a σ ++ zw G b τ)) (hS : va_S A s.heap H locs) (hl : lv_has ls 6 [(0, .ref a.1), (1, .ref b.1), (2, .int (nI x))]) (hcs : cells + 4 ≤ 800 ∧ slots + 24 ≤ 4800)
    (kk : ∀ (σ₁ : zSt) (τ₁ : zSt) (H₁ : Heap) (locs₁ : List Loc) (ls₁ : Array Slot), zTx σ₁ → core σ₁ = κ → zTx τ₁ → core τ₁ = κ →  va_P G.1 vwCl (zw G a σ₁ ++ zw G b τ₁) H₁ → va_D A (zw G a σ₁ ++ zw G b τ₁) → va_S A s.heap H₁ locs₁ → lv_has ls₁ 6 [(0, .ref a.1), (1, .ref b.1), (2, .int (nI x)), (3, .int (nI 1))] → W p l e rmL_alike s m args below meth c H₁ locs₁ (cells + 4) (slots + 24) Q (F0 m 17 ls₁ [])) :
    W p l e rmL_alike s m args below meth c H locs cells slots Q (F0 m 0 ls []) := by
  obtain ⟨hx, hb, hml, hr, hts, hown, hlocks, hE, hA, hA0, hN⟩ := id F
  have hok0 := yOk_of hk0 hg0 ht0
  have hok1 := yOk_of hk0 hg1 ht1
  have hn12 := hI.2.1
  have ht40 := hI.2.2.2.1
  refine lv_aload_n hx hb dL_alike_0 rfl (lv_at hl 0 rfl) ?_
  refine zk_callI (wr := zw G b τ) (va_runV (As := []) (rest := []) ⟨hx, hb, hml, hown, hts⟩ (c_F_errorPosition l G a σ hok0 _) (cwV 0 hts gL_alike_X5_errorPosition rfl rfl rfl (by decide +kernel) ⟨Nat.le_of_ble_eq_true rfl, Nat.le_of_ble_eq_true rfl⟩) (zk_preVH hN hE hA0 hS (zk_Papp hP).1 (zk_Dapp hD).1 (va_recv hE.1 hP (ci := 4) (q0 := 0) rfl rfl)) rfl rfl hl.1 rfl (lv_room (Nat.le_of_ble_eq_true rfl)) dL_alike_1 ⟨by show cells + 0 ≤ 800; omega, by show slots + 0 ≤ 4800; omega⟩) hP hD hS hA (fun r2 σ1 H locs hpost hP hD hS => ?_)
  refine zk_cs (cells + 0) (slots + 0) rfl rfl ?_
  have hP : va_P G.1 vwCl (zw G a σ1 ++ zw G b τ) H := hP
  have hD : va_D A (zw G a σ1 ++ zw G b τ) := hD
  obtain ⟨⟨er, ec⟩, ht0⟩ := hpost
  rw [hg0] at er ec
  have hg0 : core σ1 = κ := ec
  have hok0 := yOk_of hk0 hg0 ht0
  refine zk_top (er) ?_
  refine lv_aload_n hx hb dL_alike_4 rfl (lv_at hl 1 rfl) ?_
  have hPv := zk_Pperm hP List.perm_append_comm
  have hDv := zk_Dperm hD List.perm_append_comm
  refine zk_callB (wr := zw G a σ1) (va_runV (As := []) (rest := [.int (fErr κ)]) ⟨hx, hb, hml, hown, hts⟩ (c_F_errorPosition l G b τ hok1 _) (cwV 0 hts gL_alike_X5_errorPosition rfl rfl rfl (by decide +kernel) ⟨Nat.le_of_ble_eq_true rfl, Nat.le_of_ble_eq_true rfl⟩) (zk_preVH hN hE hA0 hS (zk_Papp hPv).1 (zk_Dapp hDv).1 (va_recv hE.1 hPv (ci := 4) (q0 := 0) rfl rfl)) rfl rfl hl.1 rfl (lv_room (Nat.le_of_ble_eq_true rfl)) dL_alike_5 ⟨by show cells + 0 + 0 ≤ 800; omega, by show slots + 0 + 0 ≤ 4800; omega⟩) hP hD hS hA (fun r4 τ3 H locs hpost hP hD hS => ?_)
  refine zk_cs (cells + 0 + 0) (slots + 0 + 0) rfl rfl ?_
  have hP : va_P G.1 vwCl (zw G a σ1 ++ zw G b τ3) H := hP
  have hD : va_D A (zw G a σ1 ++ zw G b τ3) := hD
  obtain ⟨⟨er, ec⟩, ht1⟩ := hpost
  rw [hg1] at er ec
  have hg1 : core τ3 = κ := ec
  have hok1 := yOk_of hk0 hg1 ht1
  refine zk_top (er) ?_
  refine lv_icmp_ne (tgt := 15) hx hb dL_alike_8 (by decide) (fun h => absurd rfl h) (fun _ => ?_)
  refine lv_iconst (v := nI 1) hx hb dL_alike_11 (by decide) ?_
  refine lv_goto (tgt := 16) hx hb dL_alike_12 (by decide) ?_
  refine lv_istore_n (lv' := [(3, .int (nI 1)), (0, .ref a.1), (1, .ref b.1), (2, .int (nI x))]) hx hb dL_alike_16 rfl hl (by decide) rfl (fun ls hl => ?_)
  refine W.widen (k := cells + 4) (n := slots + 24) (by omega) (by omega) ?_
  exact kk σ1 τ3 _ _ _ ht0 hg0 ht1 hg1 hP hD hS (lv_sub hl [1, 2, 3, 0] rfl)

set_option maxHeartbeats 4000000 in
set_option maxRecDepth 100000 in
theorem zl_2 {p : Program} {l : Launch} {e : Env} {s : State} {m : MethodId} {args : Array Value} {below : List Frame} {meth : Method} {c : Code} {Q : State → Prop} {A : Nat → Prop} {G : zk_G} {H : Heap} {locs : List Loc} {cells slots : Nat} {ls : Array Slot} (hst : l.stackTraces = false) (F : zFx p s m meth c args cL_alike 6 (some .boolean) vL_alike A G) {a : zA} {b : zA} {σ : zSt} {τ : zSt} {κ : zCo}  (ht0 : zTx σ) (hg0 : core σ = κ) (ht1 : zTx τ) (hg1 : core τ = κ) (hk0 : kOk κ) {x n t i : Nat} (hx31 : x < 2 ^ 31) (hI : sInv (kL κ) n t) (hi : i < 12) (hP : va_P G.1 vwCl (zw G a σ ++ zw G b τ) H) (hD : va_D A (zw G a σ ++ zw G b τ)) (hS : va_S A s.heap H locs) (hl : lv_has ls 6 [(0, .ref a.1), (1, .ref b.1), (2, .int (nI x)), (3, .int (nI 1)), (4, .int (nI i))]) (hcs : cells + 16 ≤ 800 ∧ slots + 96 ≤ 4800)
    (kk : ∀ (σ₁ : zSt) (τ₁ : zSt) (H₁ : Heap) (locs₁ : List Loc) (ls₁ : Array Slot), zTx σ₁ → core σ₁ = κ → zTx τ₁ → core τ₁ = κ →  va_P G.1 vwCl (zw G a σ₁ ++ zw G b τ₁) H₁ → va_D A (zw G a σ₁ ++ zw G b τ₁) → va_S A s.heap H₁ locs₁ → lv_has ls₁ 6 [(0, .ref a.1), (1, .ref b.1), (2, .int (nI x)), (3, .int (nI 1)), (4, .int (nI (i + 1)))] → W p l e rmL_alike s m args below meth c H₁ locs₁ (cells + 16) (slots + 96) Q (F0 m 20 ls₁ [])) :
    W p l e rmL_alike s m args below meth c H locs cells slots Q (F0 m 20 ls []) := by
  obtain ⟨hx, hb, hml, hr, hts, hown, hlocks, hE, hA, hA0, hN⟩ := id F
  have hok0 := yOk_of hk0 hg0 ht0
  have hok1 := yOk_of hk0 hg1 ht1
  have hn12 := hI.2.1
  have ht40 := hI.2.2.2.1
  refine lv_iload hx hb dL_alike_20 (lv_at hl 4 rfl) ?_
  refine lv_bipush (v := nI 12) hx hb dL_alike_22 (by decide) ?_
  refine lv_icmp_ge (tgt := 87) hx hb dL_alike_24 (by decide) (fun h => absurd (zk_le (by omega) (by omega) h) (by omega)) (fun _ => ?_)
  refine lv_iload_n hx hb dL_alike_27 rfl (lv_at hl 3 rfl) ?_
  refine lv_if_eq (tgt := 87) hx hb dL_alike_28 (by decide) (fun z => absurd z (by decide)) (fun _ => ?_)
  refine lv_aload_n hx hb dL_alike_31 rfl (lv_at hl 0 rfl) ?_
  refine lv_iconst (v := nI 2) hx hb dL_alike_32 (by decide) ?_
  refine lv_iload hx hb dL_alike_33 (lv_at hl 4 rfl) ?_
  refine lv_iconst (v := nI 0) hx hb dL_alike_35 (by decide) ?_
  refine lv_iconst (v := nI 0) hx hb dL_alike_36 (by decide) ?_
  refine zk_callI (wr := zw G b τ) (va_runS (As := [.ref a.1, .int (nI 2), .int (nI i), .int (nI 0), .int (nI 0)]) (rest := []) ⟨hx, hb, hml, hown, hts⟩ (c_C_2 l G hst a σ hok0 (nI i) (nI 0) (nI 0) _) (va_cwS 5 hts gL_alike_L_call rfl rfl rfl (by decide +kernel) ⟨Nat.le_of_ble_eq_true rfl, Nat.le_of_ble_eq_true rfl⟩) (zk_preSH hN hE hA0 hS (zk_Papp hP).1 (zk_Dapp hD).1) rfl rfl hl.1 rfl (lv_room (Nat.le_of_ble_eq_true rfl)) dL_alike_37 ⟨by show cells + 4 ≤ 800; omega, by show slots + 24 ≤ 4800; omega⟩) hP hD hS hA (fun r2 σ1 H locs hpost hP hD hS => ?_)
  refine zk_cs (cells + 4) (slots + 24) rfl rfl ?_
  have hP : va_P G.1 vwCl (zw G a σ1 ++ zw G b τ) H := hP
  have hD : va_D A (zw G a σ1 ++ zw G b τ) := hD
  obtain ⟨⟨er, ec⟩, ht0⟩ := hpost
  rw [hg0] at er ec
  have hg0 : core σ1 = κ := ec
  have hok0 := yOk_of hk0 hg0 ht0
  refine zk_top (er) ?_
  refine lv_aload_n hx hb dL_alike_40 rfl (lv_at hl 1 rfl) ?_
  refine lv_iconst (v := nI 2) hx hb dL_alike_41 (by decide) ?_
  refine lv_iload hx hb dL_alike_42 (lv_at hl 4 rfl) ?_
  refine lv_iconst (v := nI 0) hx hb dL_alike_44 (by decide) ?_
  refine lv_iconst (v := nI 0) hx hb dL_alike_45 (by decide) ?_
  refine zk_callB (wr := zw G a σ1) (va_runS (As := [.ref b.1, .int (nI 2), .int (nI i), .int (nI 0), .int (nI 0)]) (rest := [.int (fAbout (kL κ) (nI i))]) ⟨hx, hb, hml, hown, hts⟩ (c_C_2 l G hst b τ hok1 (nI i) (nI 0) (nI 0) _) (va_cwS 5 hts gL_alike_L_call rfl rfl rfl (by decide +kernel) ⟨Nat.le_of_ble_eq_true rfl, Nat.le_of_ble_eq_true rfl⟩) (zk_preSH hN hE hA0 hS (zk_Papp hP).2 (zk_Dapp hD).2) rfl rfl hl.1 rfl (lv_room (Nat.le_of_ble_eq_true rfl)) dL_alike_46 ⟨by show cells + 4 + 4 ≤ 800; omega, by show slots + 24 + 24 ≤ 4800; omega⟩) hP hD hS hA (fun r4 τ3 H locs hpost hP hD hS => ?_)
  refine zk_cs (cells + 4 + 4) (slots + 24 + 24) rfl rfl ?_
  have hP : va_P G.1 vwCl (zw G a σ1 ++ zw G b τ3) H := hP
  have hD : va_D A (zw G a σ1 ++ zw G b τ3) := hD
  obtain ⟨⟨er, ec⟩, ht1⟩ := hpost
  rw [hg1] at er ec
  have hg1 : core τ3 = κ := ec
  have hok1 := yOk_of hk0 hg1 ht1
  refine zk_top (er) ?_
  refine lv_icmp_ne (tgt := 79) hx hb dL_alike_49 (by decide) (fun h => absurd rfl h) (fun _ => ?_)
  refine lv_aload_n hx hb dL_alike_52 rfl (lv_at hl 0 rfl) ?_
  refine lv_bipush (v := nI 7) hx hb dL_alike_53 (by decide) ?_
  refine lv_iload hx hb dL_alike_55 (lv_at hl 4 rfl) ?_
  refine lv_iconst (v := nI 0) hx hb dL_alike_57 (by decide) ?_
  refine lv_iconst (v := nI 0) hx hb dL_alike_58 (by decide) ?_
  refine zk_callI (wr := zw G b τ3) (va_runS (As := [.ref a.1, .int (nI 7), .int (nI i), .int (nI 0), .int (nI 0)]) (rest := []) ⟨hx, hb, hml, hown, hts⟩ (c_C_7 l G hst a σ1 hok0 (nI i) (nI 0) (nI 0) _) (va_cwS 5 hts gL_alike_L_call rfl rfl rfl (by decide +kernel) ⟨Nat.le_of_ble_eq_true rfl, Nat.le_of_ble_eq_true rfl⟩) (zk_preSH hN hE hA0 hS (zk_Papp hP).1 (zk_Dapp hD).1) rfl rfl hl.1 rfl (lv_room (Nat.le_of_ble_eq_true rfl)) dL_alike_59 ⟨by show cells + 4 + 4 + 4 ≤ 800; omega, by show slots + 24 + 24 + 24 ≤ 4800; omega⟩) hP hD hS hA (fun r6 σ5 H locs hpost hP hD hS => ?_)
  refine zk_cs (cells + 4 + 4 + 4) (slots + 24 + 24 + 24) rfl rfl ?_
  have hP : va_P G.1 vwCl (zw G a σ5 ++ zw G b τ3) H := hP
  have hD : va_D A (zw G a σ5 ++ zw G b τ3) := hD
  obtain ⟨⟨er, ec⟩, ht0⟩ := hpost
  rw [hg0] at er ec
  have hg0 : core σ5 = κ := ec
  have hok0 := yOk_of hk0 hg0 ht0
  refine zk_top (er) ?_
  refine lv_aload_n hx hb dL_alike_62 rfl (lv_at hl 1 rfl) ?_
  refine lv_bipush (v := nI 7) hx hb dL_alike_63 (by decide) ?_
  refine lv_iload hx hb dL_alike_65 (lv_at hl 4 rfl) ?_
  refine lv_iconst (v := nI 0) hx hb dL_alike_67 (by decide) ?_
  refine lv_iconst (v := nI 0) hx hb dL_alike_68 (by decide) ?_
  refine zk_callB (wr := zw G a σ5) (va_runS (As := [.ref b.1, .int (nI 7), .int (nI i), .int (nI 0), .int (nI 0)]) (rest := [.int (fSetting (kL κ) (nI i))]) ⟨hx, hb, hml, hown, hts⟩ (c_C_7 l G hst b τ3 hok1 (nI i) (nI 0) (nI 0) _) (va_cwS 5 hts gL_alike_L_call rfl rfl rfl (by decide +kernel) ⟨Nat.le_of_ble_eq_true rfl, Nat.le_of_ble_eq_true rfl⟩) (zk_preSH hN hE hA0 hS (zk_Papp hP).2 (zk_Dapp hD).2) rfl rfl hl.1 rfl (lv_room (Nat.le_of_ble_eq_true rfl)) dL_alike_69 ⟨by show cells + 4 + 4 + 4 + 4 ≤ 800; omega, by show slots + 24 + 24 + 24 + 24 ≤ 4800; omega⟩) hP hD hS hA (fun r8 τ7 H locs hpost hP hD hS => ?_)
  refine zk_cs (cells + 4 + 4 + 4 + 4) (slots + 24 + 24 + 24 + 24) rfl rfl ?_
  have hP : va_P G.1 vwCl (zw G a σ5 ++ zw G b τ7) H := hP
  have hD : va_D A (zw G a σ5 ++ zw G b τ7) := hD
  obtain ⟨⟨er, ec⟩, ht1⟩ := hpost
  rw [hg1] at er ec
  have hg1 : core τ7 = κ := ec
  have hok1 := yOk_of hk0 hg1 ht1
  refine zk_top (er) ?_
  refine lv_icmp_ne (tgt := 79) hx hb dL_alike_72 (by decide) (fun h => absurd rfl h) (fun _ => ?_)
  refine lv_iconst (v := nI 1) hx hb dL_alike_75 (by decide) ?_
  refine lv_goto (tgt := 80) hx hb dL_alike_76 (by decide) ?_
  refine lv_istore_n (lv' := [(3, .int (nI 1)), (0, .ref a.1), (1, .ref b.1), (2, .int (nI x)), (4, .int (nI i))]) hx hb dL_alike_80 rfl hl (by decide) rfl (fun ls hl => ?_)
  refine lv_iinc (v := nI (i + 1)) (lv' := [(4, .int (nI (i + 1))), (3, .int (nI 1)), (0, .ref a.1), (1, .ref b.1), (2, .int (nI x))]) hx hb dL_alike_81 hl (k := 4) rfl (zk_inc i 1) (by decide) rfl (fun ls hl => ?_)
  refine lv_goto (tgt := 20) hx hb dL_alike_84 (by decide) ?_
  refine W.widen (k := cells + 16) (n := slots + 96) (by omega) (by omega) ?_
  exact kk σ5 τ7 _ _ _ ht0 hg0 ht1 hg1 hP hD hS (lv_sub hl [2, 3, 4, 1, 0] rfl)

set_option maxHeartbeats 4000000 in
set_option maxRecDepth 100000 in
theorem zl_3 {p : Program} {l : Launch} {e : Env} {s : State} {m : MethodId} {args : Array Value} {below : List Frame} {meth : Method} {c : Code} {Q : State → Prop} {A : Nat → Prop} {G : zk_G} {H : Heap} {locs : List Loc} {cells slots : Nat} {ls : Array Slot} (hst : l.stackTraces = false) (F : zFx p s m meth c args cL_alike 6 (some .boolean) vL_alike A G) {a : zA} {b : zA} {σ : zSt} {τ : zSt} {κ : zCo}  (ht0 : zTx σ) (hg0 : core σ = κ) (ht1 : zTx τ) (hg1 : core τ = κ) (hk0 : kOk κ) {x n t : Nat} (hx31 : x < 2 ^ 31) (hI : sInv (kL κ) n t) (hP : va_P G.1 vwCl (zw G a σ ++ zw G b τ) H) (hD : va_D A (zw G a σ ++ zw G b τ)) (hS : va_S A s.heap H locs) (hl : lv_has ls 6 [(0, .ref a.1), (1, .ref b.1), (2, .int (nI x)), (3, .int (nI 1)), (4, .int (nI 12))]) (hcs : cells + 4 ≤ 800 ∧ slots + 24 ≤ 4800)
    (kk : ∀ (σ₁ : zSt) (τ₁ : zSt) (H₁ : Heap) (locs₁ : List Loc) (ls₁ : Array Slot), zTx σ₁ → core σ₁ = κ → zTx τ₁ → core τ₁ = κ →  va_P G.1 vwCl (zw G a σ₁ ++ zw G b τ₁) H₁ → va_D A (zw G a σ₁ ++ zw G b τ₁) → va_S A s.heap H₁ locs₁ → lv_has ls₁ 6 [(0, .ref a.1), (1, .ref b.1), (2, .int (nI x)), (3, .int (nI 1)), (4, .int (nI n))] → W p l e rmL_alike s m args below meth c H₁ locs₁ (cells + 4) (slots + 24) Q (F0 m 97 ls₁ [])) :
    W p l e rmL_alike s m args below meth c H locs cells slots Q (F0 m 87 ls []) := by
  obtain ⟨hx, hb, hml, hr, hts, hown, hlocks, hE, hA, hA0, hN⟩ := id F
  have hok0 := yOk_of hk0 hg0 ht0
  have hok1 := yOk_of hk0 hg1 ht1
  have hn12 := hI.2.1
  have ht40 := hI.2.2.2.1
  refine lv_aload_n hx hb dL_alike_87 rfl (lv_at hl 0 rfl) ?_
  refine lv_iconst (v := nI 2) hx hb dL_alike_88 (by decide) ?_
  refine lv_iconst (v := nI 1) hx hb dL_alike_89 (by decide) ?_
  refine lv_iconst (v := nI 0) hx hb dL_alike_90 (by decide) ?_
  refine lv_iconst (v := nI 0) hx hb dL_alike_91 (by decide) ?_
  refine zk_callI (wr := zw G b τ) (va_runS (As := [.ref a.1, .int (nI 2), .int (nI 1), .int (nI 0), .int (nI 0)]) (rest := []) ⟨hx, hb, hml, hown, hts⟩ (c_C_2 l G hst a σ hok0 (nI 1) (nI 0) (nI 0) _) (va_cwS 5 hts gL_alike_L_call rfl rfl rfl (by decide +kernel) ⟨Nat.le_of_ble_eq_true rfl, Nat.le_of_ble_eq_true rfl⟩) (zk_preSH hN hE hA0 hS (zk_Papp hP).1 (zk_Dapp hD).1) rfl rfl hl.1 rfl (lv_room (Nat.le_of_ble_eq_true rfl)) dL_alike_92 ⟨by show cells + 4 ≤ 800; omega, by show slots + 24 ≤ 4800; omega⟩) hP hD hS hA (fun r2 σ1 H locs hpost hP hD hS => ?_)
  refine zk_cs (cells + 4) (slots + 24) rfl rfl ?_
  have hP : va_P G.1 vwCl (zw G a σ1 ++ zw G b τ) H := hP
  have hD : va_D A (zw G a σ1 ++ zw G b τ) := hD
  obtain ⟨⟨er, ec⟩, ht0⟩ := hpost
  rw [hg0] at er ec
  have hg0 : core σ1 = κ := ec
  have hok0 := yOk_of hk0 hg0 ht0
  refine zk_top (er.trans (ra_about1 hI)) ?_
  refine lv_istore (lv' := [(4, .int (nI n)), (0, .ref a.1), (1, .ref b.1), (2, .int (nI x)), (3, .int (nI 1))]) hx hb dL_alike_95 hl (by decide) rfl (fun ls hl => ?_)
  refine W.widen (k := cells + 4) (n := slots + 24) (by omega) (by omega) ?_
  exact kk σ1 τ _ _ _ ht0 hg0 ht1 hg1 hP hD hS (lv_sub hl [1, 2, 3, 4, 0] rfl)

set_option maxHeartbeats 4000000 in
set_option maxRecDepth 100000 in
theorem zl_4 {p : Program} {l : Launch} {e : Env} {s : State} {m : MethodId} {args : Array Value} {below : List Frame} {meth : Method} {c : Code} {Q : State → Prop} {A : Nat → Prop} {G : zk_G} {H : Heap} {locs : List Loc} {cells slots : Nat} {ls : Array Slot} (hst : l.stackTraces = false) (F : zFx p s m meth c args cL_alike 6 (some .boolean) vL_alike A G) {a : zA} {b : zA} {σ : zSt} {τ : zSt} {κ : zCo}  (ht0 : zTx σ) (hg0 : core σ = κ) (ht1 : zTx τ) (hg1 : core τ = κ) (hk0 : kOk κ) {x n t i : Nat} (hx31 : x < 2 ^ 31) (hI : sInv (kL κ) n t) (hi : i < n) (hP : va_P G.1 vwCl (zw G a σ ++ zw G b τ) H) (hD : va_D A (zw G a σ ++ zw G b τ)) (hS : va_S A s.heap H locs) (hl : lv_has ls 6 [(0, .ref a.1), (1, .ref b.1), (2, .int (nI x)), (3, .int (nI 1)), (4, .int (nI n)), (5, .int (nI i))]) (hcs : cells + 32 ≤ 800 ∧ slots + 192 ≤ 4800)
    (kk : ∀ (σ₁ : zSt) (τ₁ : zSt) (H₁ : Heap) (locs₁ : List Loc) (ls₁ : Array Slot), zTx σ₁ → core σ₁ = κ → zTx τ₁ → core τ₁ = κ →  va_P G.1 vwCl (zw G a σ₁ ++ zw G b τ₁) H₁ → va_D A (zw G a σ₁ ++ zw G b τ₁) → va_S A s.heap H₁ locs₁ → lv_has ls₁ 6 [(0, .ref a.1), (1, .ref b.1), (2, .int (nI x)), (3, .int (nI 1)), (4, .int (nI n)), (5, .int (nI (i + 1)))] → W p l e rmL_alike s m args below meth c H₁ locs₁ (cells + 32) (slots + 192) Q (F0 m 100 ls₁ [])) :
    W p l e rmL_alike s m args below meth c H locs cells slots Q (F0 m 100 ls []) := by
  obtain ⟨hx, hb, hml, hr, hts, hown, hlocks, hE, hA, hA0, hN⟩ := id F
  have hok0 := yOk_of hk0 hg0 ht0
  have hok1 := yOk_of hk0 hg1 ht1
  have hn12 := hI.2.1
  have ht40 := hI.2.2.2.1
  refine lv_iload hx hb dL_alike_100 (lv_at hl 5 rfl) ?_
  refine lv_iload hx hb dL_alike_102 (lv_at hl 4 rfl) ?_
  refine lv_icmp_ge (tgt := 239) hx hb dL_alike_104 (by decide) (fun h => absurd (zk_le (by omega) (by omega) h) (by omega)) (fun _ => ?_)
  refine lv_iload_n hx hb dL_alike_107 rfl (lv_at hl 3 rfl) ?_
  refine lv_if_eq (tgt := 239) hx hb dL_alike_108 (by decide) (fun z => absurd z (by decide)) (fun _ => ?_)
  refine lv_aload_n hx hb dL_alike_111 rfl (lv_at hl 0 rfl) ?_
  refine lv_iconst (v := nI 3) hx hb dL_alike_112 (by decide) ?_
  refine lv_iload hx hb dL_alike_113 (lv_at hl 5 rfl) ?_
  refine lv_iload_n hx hb dL_alike_115 rfl (lv_at hl 2 rfl) ?_
  refine lv_bipush (v := nI 9) hx hb dL_alike_116 (by decide) ?_
  refine zk_iremN hx hb dL_alike_118 (by omega) (by omega) (by omega) ?_
  refine lv_iconst (v := nI 0) hx hb dL_alike_119 (by decide) ?_
  refine zk_callI (wr := zw G b τ) (va_runS (As := [.ref a.1, .int (nI 3), .int (nI i), .int (nI (x % 9)), .int (nI 0)]) (rest := []) ⟨hx, hb, hml, hown, hts⟩ (c_C_3 l G hst a σ hok0 (nI i) (nI (x % 9)) (nI 0) _) (va_cwS 5 hts gL_alike_L_call rfl rfl rfl (by decide +kernel) ⟨Nat.le_of_ble_eq_true rfl, Nat.le_of_ble_eq_true rfl⟩) (zk_preSH hN hE hA0 hS (zk_Papp hP).1 (zk_Dapp hD).1) rfl rfl hl.1 rfl (lv_room (Nat.le_of_ble_eq_true rfl)) dL_alike_120 ⟨by show cells + 4 ≤ 800; omega, by show slots + 24 ≤ 4800; omega⟩) hP hD hS hA (fun r2 σ1 H locs hpost hP hD hS => ?_)
  refine zk_cs (cells + 4) (slots + 24) rfl rfl ?_
  have hP : va_P G.1 vwCl (zw G a σ1 ++ zw G b τ) H := hP
  have hD : va_D A (zw G a σ1 ++ zw G b τ) := hD
  obtain ⟨⟨er, ec⟩, ht0⟩ := hpost
  rw [hg0] at er ec
  have hg0 : core σ1 = κ := ec
  have hok0 := yOk_of hk0 hg0 ht0
  refine zk_top (er) ?_
  refine lv_aload_n hx hb dL_alike_123 rfl (lv_at hl 1 rfl) ?_
  refine lv_iconst (v := nI 3) hx hb dL_alike_124 (by decide) ?_
  refine lv_iload hx hb dL_alike_125 (lv_at hl 5 rfl) ?_
  refine lv_iload_n hx hb dL_alike_127 rfl (lv_at hl 2 rfl) ?_
  refine lv_bipush (v := nI 9) hx hb dL_alike_128 (by decide) ?_
  refine zk_iremN hx hb dL_alike_130 (by omega) (by omega) (by omega) ?_
  refine lv_iconst (v := nI 0) hx hb dL_alike_131 (by decide) ?_
  refine zk_callB (wr := zw G a σ1) (va_runS (As := [.ref b.1, .int (nI 3), .int (nI i), .int (nI (x % 9)), .int (nI 0)]) (rest := [.int (fChild (kL κ) (nI i) (nI (x % 9)))]) ⟨hx, hb, hml, hown, hts⟩ (c_C_3 l G hst b τ hok1 (nI i) (nI (x % 9)) (nI 0) _) (va_cwS 5 hts gL_alike_L_call rfl rfl rfl (by decide +kernel) ⟨Nat.le_of_ble_eq_true rfl, Nat.le_of_ble_eq_true rfl⟩) (zk_preSH hN hE hA0 hS (zk_Papp hP).2 (zk_Dapp hD).2) rfl rfl hl.1 rfl (lv_room (Nat.le_of_ble_eq_true rfl)) dL_alike_132 ⟨by show cells + 4 + 4 ≤ 800; omega, by show slots + 24 + 24 ≤ 4800; omega⟩) hP hD hS hA (fun r4 τ3 H locs hpost hP hD hS => ?_)
  refine zk_cs (cells + 4 + 4) (slots + 24 + 24) rfl rfl ?_
  have hP : va_P G.1 vwCl (zw G a σ1 ++ zw G b τ3) H := hP
  have hD : va_D A (zw G a σ1 ++ zw G b τ3) := hD
  obtain ⟨⟨er, ec⟩, ht1⟩ := hpost
  rw [hg1] at er ec
  have hg1 : core τ3 = κ := ec
  have hok1 := yOk_of hk0 hg1 ht1
  refine zk_top (er) ?_
  refine lv_icmp_ne (tgt := 231) hx hb dL_alike_135 (by decide) (fun h => absurd rfl h) (fun _ => ?_)
  refine lv_aload_n hx hb dL_alike_138 rfl (lv_at hl 0 rfl) ?_
  refine lv_iconst (v := nI 3) hx hb dL_alike_139 (by decide) ?_
  refine lv_iload hx hb dL_alike_140 (lv_at hl 5 rfl) ?_
  refine lv_iconst (v := nI 2) hx hb dL_alike_142 (by decide) ?_
  refine lv_iconst (v := nI 0) hx hb dL_alike_143 (by decide) ?_
  refine zk_callI (wr := zw G b τ3) (va_runS (As := [.ref a.1, .int (nI 3), .int (nI i), .int (nI 2), .int (nI 0)]) (rest := []) ⟨hx, hb, hml, hown, hts⟩ (c_C_3 l G hst a σ1 hok0 (nI i) (nI 2) (nI 0) _) (va_cwS 5 hts gL_alike_L_call rfl rfl rfl (by decide +kernel) ⟨Nat.le_of_ble_eq_true rfl, Nat.le_of_ble_eq_true rfl⟩) (zk_preSH hN hE hA0 hS (zk_Papp hP).1 (zk_Dapp hD).1) rfl rfl hl.1 rfl (lv_room (Nat.le_of_ble_eq_true rfl)) dL_alike_144 ⟨by show cells + 4 + 4 + 4 ≤ 800; omega, by show slots + 24 + 24 + 24 ≤ 4800; omega⟩) hP hD hS hA (fun r6 σ5 H locs hpost hP hD hS => ?_)
  refine zk_cs (cells + 4 + 4 + 4) (slots + 24 + 24 + 24) rfl rfl ?_
  have hP : va_P G.1 vwCl (zw G a σ5 ++ zw G b τ3) H := hP
  have hD : va_D A (zw G a σ5 ++ zw G b τ3) := hD
  obtain ⟨⟨er, ec⟩, ht0⟩ := hpost
  rw [hg0] at er ec
  have hg0 : core σ5 = κ := ec
  have hok0 := yOk_of hk0 hg0 ht0
  refine zk_top (er) ?_
  refine lv_aload_n hx hb dL_alike_147 rfl (lv_at hl 1 rfl) ?_
  refine lv_iconst (v := nI 3) hx hb dL_alike_148 (by decide) ?_
  refine lv_iload hx hb dL_alike_149 (lv_at hl 5 rfl) ?_
  refine lv_iconst (v := nI 2) hx hb dL_alike_151 (by decide) ?_
  refine lv_iconst (v := nI 0) hx hb dL_alike_152 (by decide) ?_
  refine zk_callB (wr := zw G a σ5) (va_runS (As := [.ref b.1, .int (nI 3), .int (nI i), .int (nI 2), .int (nI 0)]) (rest := [.int (fChild (kL κ) (nI i) (nI 2))]) ⟨hx, hb, hml, hown, hts⟩ (c_C_3 l G hst b τ3 hok1 (nI i) (nI 2) (nI 0) _) (va_cwS 5 hts gL_alike_L_call rfl rfl rfl (by decide +kernel) ⟨Nat.le_of_ble_eq_true rfl, Nat.le_of_ble_eq_true rfl⟩) (zk_preSH hN hE hA0 hS (zk_Papp hP).2 (zk_Dapp hD).2) rfl rfl hl.1 rfl (lv_room (Nat.le_of_ble_eq_true rfl)) dL_alike_153 ⟨by show cells + 4 + 4 + 4 + 4 ≤ 800; omega, by show slots + 24 + 24 + 24 + 24 ≤ 4800; omega⟩) hP hD hS hA (fun r8 τ7 H locs hpost hP hD hS => ?_)
  refine zk_cs (cells + 4 + 4 + 4 + 4) (slots + 24 + 24 + 24 + 24) rfl rfl ?_
  have hP : va_P G.1 vwCl (zw G a σ5 ++ zw G b τ7) H := hP
  have hD : va_D A (zw G a σ5 ++ zw G b τ7) := hD
  obtain ⟨⟨er, ec⟩, ht1⟩ := hpost
  rw [hg1] at er ec
  have hg1 : core τ7 = κ := ec
  have hok1 := yOk_of hk0 hg1 ht1
  refine zk_top (er) ?_
  refine lv_icmp_ne (tgt := 231) hx hb dL_alike_156 (by decide) (fun h => absurd rfl h) (fun _ => ?_)
  refine lv_aload_n hx hb dL_alike_159 rfl (lv_at hl 0 rfl) ?_
  refine lv_bipush (v := nI 6) hx hb dL_alike_160 (by decide) ?_
  refine lv_iload hx hb dL_alike_162 (lv_at hl 5 rfl) ?_
  refine lv_iload_n hx hb dL_alike_164 rfl (lv_at hl 2 rfl) ?_
  refine lv_bipush (v := nI 40) hx hb dL_alike_165 (by decide) ?_
  refine zk_iremN hx hb dL_alike_167 (by omega) (by omega) (by omega) ?_
  refine lv_iload_n hx hb dL_alike_168 rfl (lv_at hl 2 rfl) ?_
  refine lv_bipush (v := nI 64) hx hb dL_alike_169 (by decide) ?_
  refine zk_idivN hx hb dL_alike_171 (by omega) (by omega) (by omega) ?_
  refine lv_iconst (v := nI 3) hx hb dL_alike_172 (by decide) ?_
  refine zk_iremN hx hb dL_alike_173 (by omega) (by omega) (by omega) ?_
  refine zk_callI (wr := zw G b τ7) (va_runS (As := [.ref a.1, .int (nI 6), .int (nI i), .int (nI (x % 40)), .int (nI ((x / 64) % 3))]) (rest := []) ⟨hx, hb, hml, hown, hts⟩ (c_C_6 l G hst a σ5 hok0 (nI i) (nI (x % 40)) (nI ((x / 64) % 3)) _) (va_cwS 5 hts gL_alike_L_call rfl rfl rfl (by decide +kernel) ⟨Nat.le_of_ble_eq_true rfl, Nat.le_of_ble_eq_true rfl⟩) (zk_preSH hN hE hA0 hS (zk_Papp hP).1 (zk_Dapp hD).1) rfl rfl hl.1 rfl (lv_room (Nat.le_of_ble_eq_true rfl)) dL_alike_174 ⟨by show cells + 4 + 4 + 4 + 4 + 4 ≤ 800; omega, by show slots + 24 + 24 + 24 + 24 + 24 ≤ 4800; omega⟩) hP hD hS hA (fun r10 σ9 H locs hpost hP hD hS => ?_)
  refine zk_cs (cells + 4 + 4 + 4 + 4 + 4) (slots + 24 + 24 + 24 + 24 + 24) rfl rfl ?_
  have hP : va_P G.1 vwCl (zw G a σ9 ++ zw G b τ7) H := hP
  have hD : va_D A (zw G a σ9 ++ zw G b τ7) := hD
  obtain ⟨⟨er, ec⟩, ht0⟩ := hpost
  rw [hg0] at er ec
  have hg0 : core σ9 = κ := ec
  have hok0 := yOk_of hk0 hg0 ht0
  refine zk_top (er) ?_
  refine lv_aload_n hx hb dL_alike_177 rfl (lv_at hl 1 rfl) ?_
  refine lv_bipush (v := nI 6) hx hb dL_alike_178 (by decide) ?_
  refine lv_iload hx hb dL_alike_180 (lv_at hl 5 rfl) ?_
  refine lv_iload_n hx hb dL_alike_182 rfl (lv_at hl 2 rfl) ?_
  refine lv_bipush (v := nI 40) hx hb dL_alike_183 (by decide) ?_
  refine zk_iremN hx hb dL_alike_185 (by omega) (by omega) (by omega) ?_
  refine lv_iload_n hx hb dL_alike_186 rfl (lv_at hl 2 rfl) ?_
  refine lv_bipush (v := nI 64) hx hb dL_alike_187 (by decide) ?_
  refine zk_idivN hx hb dL_alike_189 (by omega) (by omega) (by omega) ?_
  refine lv_iconst (v := nI 3) hx hb dL_alike_190 (by decide) ?_
  refine zk_iremN hx hb dL_alike_191 (by omega) (by omega) (by omega) ?_
  refine zk_callB (wr := zw G a σ9) (va_runS (As := [.ref b.1, .int (nI 6), .int (nI i), .int (nI (x % 40)), .int (nI ((x / 64) % 3))]) (rest := [.int (fMeal (kL κ) (nI i) (nI (x % 40)) (nI ((x / 64) % 3)))]) ⟨hx, hb, hml, hown, hts⟩ (c_C_6 l G hst b τ7 hok1 (nI i) (nI (x % 40)) (nI ((x / 64) % 3)) _) (va_cwS 5 hts gL_alike_L_call rfl rfl rfl (by decide +kernel) ⟨Nat.le_of_ble_eq_true rfl, Nat.le_of_ble_eq_true rfl⟩) (zk_preSH hN hE hA0 hS (zk_Papp hP).2 (zk_Dapp hD).2) rfl rfl hl.1 rfl (lv_room (Nat.le_of_ble_eq_true rfl)) dL_alike_192 ⟨by show cells + 4 + 4 + 4 + 4 + 4 + 4 ≤ 800; omega, by show slots + 24 + 24 + 24 + 24 + 24 + 24 ≤ 4800; omega⟩) hP hD hS hA (fun r12 τ11 H locs hpost hP hD hS => ?_)
  refine zk_cs (cells + 4 + 4 + 4 + 4 + 4 + 4) (slots + 24 + 24 + 24 + 24 + 24 + 24) rfl rfl ?_
  have hP : va_P G.1 vwCl (zw G a σ9 ++ zw G b τ11) H := hP
  have hD : va_D A (zw G a σ9 ++ zw G b τ11) := hD
  obtain ⟨⟨er, ec⟩, ht1⟩ := hpost
  rw [hg1] at er ec
  have hg1 : core τ11 = κ := ec
  have hok1 := yOk_of hk0 hg1 ht1
  refine zk_top (er) ?_
  refine lv_icmp_ne (tgt := 231) hx hb dL_alike_195 (by decide) (fun h => absurd rfl h) (fun _ => ?_)
  refine lv_aload_n hx hb dL_alike_198 rfl (lv_at hl 0 rfl) ?_
  refine lv_bipush (v := nI 6) hx hb dL_alike_199 (by decide) ?_
  refine lv_iload hx hb dL_alike_201 (lv_at hl 5 rfl) ?_
  refine lv_iload_n hx hb dL_alike_203 rfl (lv_at hl 2 rfl) ?_
  refine lv_bipush (v := nI 12) hx hb dL_alike_204 (by decide) ?_
  refine zk_iremN hx hb dL_alike_206 (by omega) (by omega) (by omega) ?_
  refine lv_iconst (v := nI 0) hx hb dL_alike_207 (by decide) ?_
  refine zk_callI (wr := zw G b τ11) (va_runS (As := [.ref a.1, .int (nI 6), .int (nI i), .int (nI (x % 12)), .int (nI 0)]) (rest := []) ⟨hx, hb, hml, hown, hts⟩ (c_C_6 l G hst a σ9 hok0 (nI i) (nI (x % 12)) (nI 0) _) (va_cwS 5 hts gL_alike_L_call rfl rfl rfl (by decide +kernel) ⟨Nat.le_of_ble_eq_true rfl, Nat.le_of_ble_eq_true rfl⟩) (zk_preSH hN hE hA0 hS (zk_Papp hP).1 (zk_Dapp hD).1) rfl rfl hl.1 rfl (lv_room (Nat.le_of_ble_eq_true rfl)) dL_alike_208 ⟨by show cells + 4 + 4 + 4 + 4 + 4 + 4 + 4 ≤ 800; omega, by show slots + 24 + 24 + 24 + 24 + 24 + 24 + 24 ≤ 4800; omega⟩) hP hD hS hA (fun r14 σ13 H locs hpost hP hD hS => ?_)
  refine zk_cs (cells + 4 + 4 + 4 + 4 + 4 + 4 + 4) (slots + 24 + 24 + 24 + 24 + 24 + 24 + 24) rfl rfl ?_
  have hP : va_P G.1 vwCl (zw G a σ13 ++ zw G b τ11) H := hP
  have hD : va_D A (zw G a σ13 ++ zw G b τ11) := hD
  obtain ⟨⟨er, ec⟩, ht0⟩ := hpost
  rw [hg0] at er ec
  have hg0 : core σ13 = κ := ec
  have hok0 := yOk_of hk0 hg0 ht0
  refine zk_top (er) ?_
  refine lv_aload_n hx hb dL_alike_211 rfl (lv_at hl 1 rfl) ?_
  refine lv_bipush (v := nI 6) hx hb dL_alike_212 (by decide) ?_
  refine lv_iload hx hb dL_alike_214 (lv_at hl 5 rfl) ?_
  refine lv_iload_n hx hb dL_alike_216 rfl (lv_at hl 2 rfl) ?_
  refine lv_bipush (v := nI 12) hx hb dL_alike_217 (by decide) ?_
  refine zk_iremN hx hb dL_alike_219 (by omega) (by omega) (by omega) ?_
  refine lv_iconst (v := nI 0) hx hb dL_alike_220 (by decide) ?_
  refine zk_callB (wr := zw G a σ13) (va_runS (As := [.ref b.1, .int (nI 6), .int (nI i), .int (nI (x % 12)), .int (nI 0)]) (rest := [.int (fMeal (kL κ) (nI i) (nI (x % 12)) (nI 0))]) ⟨hx, hb, hml, hown, hts⟩ (c_C_6 l G hst b τ11 hok1 (nI i) (nI (x % 12)) (nI 0) _) (va_cwS 5 hts gL_alike_L_call rfl rfl rfl (by decide +kernel) ⟨Nat.le_of_ble_eq_true rfl, Nat.le_of_ble_eq_true rfl⟩) (zk_preSH hN hE hA0 hS (zk_Papp hP).2 (zk_Dapp hD).2) rfl rfl hl.1 rfl (lv_room (Nat.le_of_ble_eq_true rfl)) dL_alike_221 ⟨by show cells + 4 + 4 + 4 + 4 + 4 + 4 + 4 + 4 ≤ 800; omega, by show slots + 24 + 24 + 24 + 24 + 24 + 24 + 24 + 24 ≤ 4800; omega⟩) hP hD hS hA (fun r16 τ15 H locs hpost hP hD hS => ?_)
  refine zk_cs (cells + 4 + 4 + 4 + 4 + 4 + 4 + 4 + 4) (slots + 24 + 24 + 24 + 24 + 24 + 24 + 24 + 24) rfl rfl ?_
  have hP : va_P G.1 vwCl (zw G a σ13 ++ zw G b τ15) H := hP
  have hD : va_D A (zw G a σ13 ++ zw G b τ15) := hD
  obtain ⟨⟨er, ec⟩, ht1⟩ := hpost
  rw [hg1] at er ec
  have hg1 : core τ15 = κ := ec
  have hok1 := yOk_of hk0 hg1 ht1
  refine zk_top (er) ?_
  refine lv_icmp_ne (tgt := 231) hx hb dL_alike_224 (by decide) (fun h => absurd rfl h) (fun _ => ?_)
  refine lv_iconst (v := nI 1) hx hb dL_alike_227 (by decide) ?_
  refine lv_goto (tgt := 232) hx hb dL_alike_228 (by decide) ?_
  refine lv_istore_n (lv' := [(3, .int (nI 1)), (0, .ref a.1), (1, .ref b.1), (2, .int (nI x)), (4, .int (nI n)), (5, .int (nI i))]) hx hb dL_alike_232 rfl hl (by decide) rfl (fun ls hl => ?_)
  refine lv_iinc (v := nI (i + 1)) (lv' := [(5, .int (nI (i + 1))), (3, .int (nI 1)), (0, .ref a.1), (1, .ref b.1), (2, .int (nI x)), (4, .int (nI n))]) hx hb dL_alike_233 hl (k := 5) rfl (zk_inc i 1) (by decide) rfl (fun ls hl => ?_)
  refine lv_goto (tgt := 100) hx hb dL_alike_236 (by decide) ?_
  refine W.widen (k := cells + 32) (n := slots + 192) (by omega) (by omega) ?_
  exact kk σ13 τ15 _ _ _ ht0 hg0 ht1 hg1 hP hD hS (lv_sub hl [2, 3, 4, 1, 5, 0] rfl)

set_option maxHeartbeats 4000000 in
set_option maxRecDepth 100000 in
theorem zl_5 {p : Program} {l : Launch} {e : Env} {s : State} {m : MethodId} {args : Array Value} {below : List Frame} {meth : Method} {c : Code} {Q : State → Prop} {A : Nat → Prop} {G : zk_G} {H : Heap} {locs : List Loc} {cells slots : Nat} {ls : Array Slot} (hst : l.stackTraces = false) (F : zFx p s m meth c args cL_alike 6 (some .boolean) vL_alike A G) {a : zA} {b : zA} {σ : zSt} {τ : zSt} {κ : zCo}  (ht0 : zTx σ) (hg0 : core σ = κ) (ht1 : zTx τ) (hg1 : core τ = κ) (hk0 : kOk κ) {x n t i : Nat} (hx31 : x < 2 ^ 31) (hI : sInv (kL κ) n t) (hi : i < 5) (hP : va_P G.1 vwCl (zw G a σ ++ zw G b τ) H) (hD : va_D A (zw G a σ ++ zw G b τ)) (hS : va_S A s.heap H locs) (hl : lv_has ls 6 [(0, .ref a.1), (1, .ref b.1), (2, .int (nI x)), (3, .int (nI 1)), (4, .int (nI n)), (5, .int (nI i))]) (hcs : cells + 8 ≤ 800 ∧ slots + 48 ≤ 4800)
    (kk : ∀ (σ₁ : zSt) (τ₁ : zSt) (H₁ : Heap) (locs₁ : List Loc) (ls₁ : Array Slot), zTx σ₁ → core σ₁ = κ → zTx τ₁ → core τ₁ = κ →  va_P G.1 vwCl (zw G a σ₁ ++ zw G b τ₁) H₁ → va_D A (zw G a σ₁ ++ zw G b τ₁) → va_S A s.heap H₁ locs₁ → lv_has ls₁ 6 [(0, .ref a.1), (1, .ref b.1), (2, .int (nI x)), (3, .int (nI 1)), (4, .int (nI n)), (5, .int (nI (i + 1)))] → W p l e rmL_alike s m args below meth c H₁ locs₁ (cells + 8) (slots + 48) Q (F0 m 242 ls₁ [])) :
    W p l e rmL_alike s m args below meth c H locs cells slots Q (F0 m 242 ls []) := by
  obtain ⟨hx, hb, hml, hr, hts, hown, hlocks, hE, hA, hA0, hN⟩ := id F
  have hok0 := yOk_of hk0 hg0 ht0
  have hok1 := yOk_of hk0 hg1 ht1
  have hn12 := hI.2.1
  have ht40 := hI.2.2.2.1
  refine lv_iload hx hb dL_alike_242 (lv_at hl 5 rfl) ?_
  refine lv_iconst (v := nI 5) hx hb dL_alike_244 (by decide) ?_
  refine lv_icmp_ge (tgt := 289) hx hb dL_alike_245 (by decide) (fun h => absurd (zk_le (by omega) (by omega) h) (by omega)) (fun _ => ?_)
  refine lv_iload_n hx hb dL_alike_248 rfl (lv_at hl 3 rfl) ?_
  refine lv_if_eq (tgt := 289) hx hb dL_alike_249 (by decide) (fun z => absurd z (by decide)) (fun _ => ?_)
  refine lv_aload_n hx hb dL_alike_252 rfl (lv_at hl 0 rfl) ?_
  refine lv_iconst (v := nI 4) hx hb dL_alike_253 (by decide) ?_
  refine lv_iload hx hb dL_alike_254 (lv_at hl 5 rfl) ?_
  refine lv_iload_n hx hb dL_alike_256 rfl (lv_at hl 2 rfl) ?_
  refine lv_iconst (v := nI 5) hx hb dL_alike_257 (by decide) ?_
  refine zk_iremN hx hb dL_alike_258 (by omega) (by omega) (by omega) ?_
  refine lv_iconst (v := nI 0) hx hb dL_alike_259 (by decide) ?_
  refine zk_callI (wr := zw G b τ) (va_runS (As := [.ref a.1, .int (nI 4), .int (nI i), .int (nI (x % 5)), .int (nI 0)]) (rest := []) ⟨hx, hb, hml, hown, hts⟩ (c_C_4 l G hst a σ hok0 (nI i) (nI (x % 5)) (nI 0) _) (va_cwS 5 hts gL_alike_L_call rfl rfl rfl (by decide +kernel) ⟨Nat.le_of_ble_eq_true rfl, Nat.le_of_ble_eq_true rfl⟩) (zk_preSH hN hE hA0 hS (zk_Papp hP).1 (zk_Dapp hD).1) rfl rfl hl.1 rfl (lv_room (Nat.le_of_ble_eq_true rfl)) dL_alike_260 ⟨by show cells + 4 ≤ 800; omega, by show slots + 24 ≤ 4800; omega⟩) hP hD hS hA (fun r2 σ1 H locs hpost hP hD hS => ?_)
  refine zk_cs (cells + 4) (slots + 24) rfl rfl ?_
  have hP : va_P G.1 vwCl (zw G a σ1 ++ zw G b τ) H := hP
  have hD : va_D A (zw G a σ1 ++ zw G b τ) := hD
  obtain ⟨⟨er, ec⟩, ht0⟩ := hpost
  rw [hg0] at er ec
  have hg0 : core σ1 = κ := ec
  have hok0 := yOk_of hk0 hg0 ht0
  refine zk_top (er) ?_
  refine lv_aload_n hx hb dL_alike_263 rfl (lv_at hl 1 rfl) ?_
  refine lv_iconst (v := nI 4) hx hb dL_alike_264 (by decide) ?_
  refine lv_iload hx hb dL_alike_265 (lv_at hl 5 rfl) ?_
  refine lv_iload_n hx hb dL_alike_267 rfl (lv_at hl 2 rfl) ?_
  refine lv_iconst (v := nI 5) hx hb dL_alike_268 (by decide) ?_
  refine zk_iremN hx hb dL_alike_269 (by omega) (by omega) (by omega) ?_
  refine lv_iconst (v := nI 0) hx hb dL_alike_270 (by decide) ?_
  refine zk_callB (wr := zw G a σ1) (va_runS (As := [.ref b.1, .int (nI 4), .int (nI i), .int (nI (x % 5)), .int (nI 0)]) (rest := [.int (fFamily (kL κ) (nI i) (nI (x % 5)))]) ⟨hx, hb, hml, hown, hts⟩ (c_C_4 l G hst b τ hok1 (nI i) (nI (x % 5)) (nI 0) _) (va_cwS 5 hts gL_alike_L_call rfl rfl rfl (by decide +kernel) ⟨Nat.le_of_ble_eq_true rfl, Nat.le_of_ble_eq_true rfl⟩) (zk_preSH hN hE hA0 hS (zk_Papp hP).2 (zk_Dapp hD).2) rfl rfl hl.1 rfl (lv_room (Nat.le_of_ble_eq_true rfl)) dL_alike_271 ⟨by show cells + 4 + 4 ≤ 800; omega, by show slots + 24 + 24 ≤ 4800; omega⟩) hP hD hS hA (fun r4 τ3 H locs hpost hP hD hS => ?_)
  refine zk_cs (cells + 4 + 4) (slots + 24 + 24) rfl rfl ?_
  have hP : va_P G.1 vwCl (zw G a σ1 ++ zw G b τ3) H := hP
  have hD : va_D A (zw G a σ1 ++ zw G b τ3) := hD
  obtain ⟨⟨er, ec⟩, ht1⟩ := hpost
  rw [hg1] at er ec
  have hg1 : core τ3 = κ := ec
  have hok1 := yOk_of hk0 hg1 ht1
  refine zk_top (er) ?_
  refine lv_icmp_ne (tgt := 281) hx hb dL_alike_274 (by decide) (fun h => absurd rfl h) (fun _ => ?_)
  refine lv_iconst (v := nI 1) hx hb dL_alike_277 (by decide) ?_
  refine lv_goto (tgt := 282) hx hb dL_alike_278 (by decide) ?_
  refine lv_istore_n (lv' := [(3, .int (nI 1)), (0, .ref a.1), (1, .ref b.1), (2, .int (nI x)), (4, .int (nI n)), (5, .int (nI i))]) hx hb dL_alike_282 rfl hl (by decide) rfl (fun ls hl => ?_)
  refine lv_iinc (v := nI (i + 1)) (lv' := [(5, .int (nI (i + 1))), (3, .int (nI 1)), (0, .ref a.1), (1, .ref b.1), (2, .int (nI x)), (4, .int (nI n))]) hx hb dL_alike_283 hl (k := 5) rfl (zk_inc i 1) (by decide) rfl (fun ls hl => ?_)
  refine lv_goto (tgt := 242) hx hb dL_alike_286 (by decide) ?_
  refine W.widen (k := cells + 8) (n := slots + 48) (by omega) (by omega) ?_
  exact kk σ1 τ3 _ _ _ ht0 hg0 ht1 hg1 hP hD hS (lv_sub hl [2, 3, 4, 1, 5, 0] rfl)

set_option maxHeartbeats 4000000 in
set_option maxRecDepth 100000 in
theorem zl_6 {p : Program} {l : Launch} {e : Env} {s : State} {m : MethodId} {args : Array Value} {below : List Frame} {meth : Method} {c : Code} {Q : State → Prop} {A : Nat → Prop} {G : zk_G} {H : Heap} {locs : List Loc} {cells slots : Nat} {ls : Array Slot} (hst : l.stackTraces = false) (F : zFx p s m meth c args cL_alike 6 (some .boolean) vL_alike A G) {a : zA} {b : zA} {σ : zSt} {τ : zSt} {κ : zCo}  (ht0 : zTx σ) (hg0 : core σ = κ) (ht1 : zTx τ) (hg1 : core τ = κ) (hk0 : kOk κ) {x n t i : Nat} (hx31 : x < 2 ^ 31) (hI : sInv (kL κ) n t) (hi : i < 40) (hP : va_P G.1 vwCl (zw G a σ ++ zw G b τ) H) (hD : va_D A (zw G a σ ++ zw G b τ)) (hS : va_S A s.heap H locs) (hl : lv_has ls 6 [(0, .ref a.1), (1, .ref b.1), (2, .int (nI x)), (3, .int (nI 1)), (4, .int (nI n)), (5, .int (nI i))]) (hcs : cells + 8 ≤ 800 ∧ slots + 48 ≤ 4800)
    (kk : ∀ (σ₁ : zSt) (τ₁ : zSt) (H₁ : Heap) (locs₁ : List Loc) (ls₁ : Array Slot), zTx σ₁ → core σ₁ = κ → zTx τ₁ → core τ₁ = κ →  va_P G.1 vwCl (zw G a σ₁ ++ zw G b τ₁) H₁ → va_D A (zw G a σ₁ ++ zw G b τ₁) → va_S A s.heap H₁ locs₁ → lv_has ls₁ 6 [(0, .ref a.1), (1, .ref b.1), (2, .int (nI x)), (3, .int (nI 1)), (4, .int (nI n)), (5, .int (nI (i + 3)))] → W p l e rmL_alike s m args below meth c H₁ locs₁ (cells + 8) (slots + 48) Q (F0 m 292 ls₁ [])) :
    W p l e rmL_alike s m args below meth c H locs cells slots Q (F0 m 292 ls []) := by
  obtain ⟨hx, hb, hml, hr, hts, hown, hlocks, hE, hA, hA0, hN⟩ := id F
  have hok0 := yOk_of hk0 hg0 ht0
  have hok1 := yOk_of hk0 hg1 ht1
  have hn12 := hI.2.1
  have ht40 := hI.2.2.2.1
  refine lv_iload hx hb dL_alike_292 (lv_at hl 5 rfl) ?_
  refine lv_bipush (v := nI 40) hx hb dL_alike_294 (by decide) ?_
  refine lv_icmp_ge (tgt := 340) hx hb dL_alike_296 (by decide) (fun h => absurd (zk_le (by omega) (by omega) h) (by omega)) (fun _ => ?_)
  refine lv_iload_n hx hb dL_alike_299 rfl (lv_at hl 3 rfl) ?_
  refine lv_if_eq (tgt := 340) hx hb dL_alike_300 (by decide) (fun z => absurd z (by decide)) (fun _ => ?_)
  refine lv_aload_n hx hb dL_alike_303 rfl (lv_at hl 0 rfl) ?_
  refine lv_iconst (v := nI 5) hx hb dL_alike_304 (by decide) ?_
  refine lv_iload hx hb dL_alike_305 (lv_at hl 5 rfl) ?_
  refine lv_iload_n hx hb dL_alike_307 rfl (lv_at hl 2 rfl) ?_
  refine lv_iconst (v := nI 4) hx hb dL_alike_308 (by decide) ?_
  refine zk_iremN hx hb dL_alike_309 (by omega) (by omega) (by omega) ?_
  refine lv_iconst (v := nI 0) hx hb dL_alike_310 (by decide) ?_
  refine zk_callI (wr := zw G b τ) (va_runS (As := [.ref a.1, .int (nI 5), .int (nI i), .int (nI (x % 4)), .int (nI 0)]) (rest := []) ⟨hx, hb, hml, hown, hts⟩ (c_C_5 l G hst a σ hok0 (nI i) (nI (x % 4)) (nI 0) _) (va_cwS 5 hts gL_alike_L_call rfl rfl rfl (by decide +kernel) ⟨Nat.le_of_ble_eq_true rfl, Nat.le_of_ble_eq_true rfl⟩) (zk_preSH hN hE hA0 hS (zk_Papp hP).1 (zk_Dapp hD).1) rfl rfl hl.1 rfl (lv_room (Nat.le_of_ble_eq_true rfl)) dL_alike_311 ⟨by show cells + 4 ≤ 800; omega, by show slots + 24 ≤ 4800; omega⟩) hP hD hS hA (fun r2 σ1 H locs hpost hP hD hS => ?_)
  refine zk_cs (cells + 4) (slots + 24) rfl rfl ?_
  have hP : va_P G.1 vwCl (zw G a σ1 ++ zw G b τ) H := hP
  have hD : va_D A (zw G a σ1 ++ zw G b τ) := hD
  obtain ⟨⟨er, ec⟩, ht0⟩ := hpost
  rw [hg0] at er ec
  have hg0 : core σ1 = κ := ec
  have hok0 := yOk_of hk0 hg0 ht0
  refine zk_top (er) ?_
  refine lv_aload_n hx hb dL_alike_314 rfl (lv_at hl 1 rfl) ?_
  refine lv_iconst (v := nI 5) hx hb dL_alike_315 (by decide) ?_
  refine lv_iload hx hb dL_alike_316 (lv_at hl 5 rfl) ?_
  refine lv_iload_n hx hb dL_alike_318 rfl (lv_at hl 2 rfl) ?_
  refine lv_iconst (v := nI 4) hx hb dL_alike_319 (by decide) ?_
  refine zk_iremN hx hb dL_alike_320 (by omega) (by omega) (by omega) ?_
  refine lv_iconst (v := nI 0) hx hb dL_alike_321 (by decide) ?_
  refine zk_callB (wr := zw G a σ1) (va_runS (As := [.ref b.1, .int (nI 5), .int (nI i), .int (nI (x % 4)), .int (nI 0)]) (rest := [.int (fDay (kL κ) (nI i) (nI (x % 4)))]) ⟨hx, hb, hml, hown, hts⟩ (c_C_5 l G hst b τ hok1 (nI i) (nI (x % 4)) (nI 0) _) (va_cwS 5 hts gL_alike_L_call rfl rfl rfl (by decide +kernel) ⟨Nat.le_of_ble_eq_true rfl, Nat.le_of_ble_eq_true rfl⟩) (zk_preSH hN hE hA0 hS (zk_Papp hP).2 (zk_Dapp hD).2) rfl rfl hl.1 rfl (lv_room (Nat.le_of_ble_eq_true rfl)) dL_alike_322 ⟨by show cells + 4 + 4 ≤ 800; omega, by show slots + 24 + 24 ≤ 4800; omega⟩) hP hD hS hA (fun r4 τ3 H locs hpost hP hD hS => ?_)
  refine zk_cs (cells + 4 + 4) (slots + 24 + 24) rfl rfl ?_
  have hP : va_P G.1 vwCl (zw G a σ1 ++ zw G b τ3) H := hP
  have hD : va_D A (zw G a σ1 ++ zw G b τ3) := hD
  obtain ⟨⟨er, ec⟩, ht1⟩ := hpost
  rw [hg1] at er ec
  have hg1 : core τ3 = κ := ec
  have hok1 := yOk_of hk0 hg1 ht1
  refine zk_top (er) ?_
  refine lv_icmp_ne (tgt := 332) hx hb dL_alike_325 (by decide) (fun h => absurd rfl h) (fun _ => ?_)
  refine lv_iconst (v := nI 1) hx hb dL_alike_328 (by decide) ?_
  refine lv_goto (tgt := 333) hx hb dL_alike_329 (by decide) ?_
  refine lv_istore_n (lv' := [(3, .int (nI 1)), (0, .ref a.1), (1, .ref b.1), (2, .int (nI x)), (4, .int (nI n)), (5, .int (nI i))]) hx hb dL_alike_333 rfl hl (by decide) rfl (fun ls hl => ?_)
  refine lv_iinc (v := nI (i + 3)) (lv' := [(5, .int (nI (i + 3))), (3, .int (nI 1)), (0, .ref a.1), (1, .ref b.1), (2, .int (nI x)), (4, .int (nI n))]) hx hb dL_alike_334 hl (k := 5) rfl (zk_inc i 3) (by decide) rfl (fun ls hl => ?_)
  refine lv_goto (tgt := 292) hx hb dL_alike_337 (by decide) ?_
  refine W.widen (k := cells + 8) (n := slots + 48) (by omega) (by omega) ?_
  exact kk σ1 τ3 _ _ _ ht0 hg0 ht1 hg1 hP hD hS (lv_sub hl [2, 3, 4, 1, 5, 0] rfl)

set_option maxHeartbeats 4000000 in
set_option maxRecDepth 100000 in
theorem zl_7 {p : Program} {l : Launch} {e : Env} {s : State} {m : MethodId} {args : Array Value} {below : List Frame} {meth : Method} {c : Code} {Q : State → Prop} {A : Nat → Prop} {G : zk_G} {H : Heap} {locs : List Loc} {cells slots : Nat} {ls : Array Slot} (hst : l.stackTraces = false) (F : zFx p s m meth c args cL_alike 6 (some .boolean) vL_alike A G) {a : zA} {b : zA} {σ : zSt} {τ : zSt} {κ : zCo}  (ht0 : zTx σ) (hg0 : core σ = κ) (ht1 : zTx τ) (hg1 : core τ = κ) (hk0 : kOk κ) {x n t : Nat} (hx31 : x < 2 ^ 31) (hI : sInv (kL κ) n t) (hP : va_P G.1 vwCl (zw G a σ ++ zw G b τ) H) (hD : va_D A (zw G a σ ++ zw G b τ)) (hS : va_S A s.heap H locs) (hl : lv_has ls 6 [(0, .ref a.1), (1, .ref b.1), (2, .int (nI x)), (3, .int (nI 1)), (4, .int (nI n)), (5, .int (nI 42))]) (hcs : cells + 8 ≤ 800 ∧ slots + 48 ≤ 4800)
    (kk : ∀ (σ₁ : zSt) (τ₁ : zSt) (H₁ : Heap) (locs₁ : List Loc) (ls₁ : Array Slot), zTx σ₁ → core σ₁ = κ → zTx τ₁ → core τ₁ = κ →  va_P G.1 vwCl (zw G a σ₁ ++ zw G b τ₁) H₁ → va_D A (zw G a σ₁ ++ zw G b τ₁) → va_S A s.heap H₁ locs₁ → lv_has ls₁ 6 [(0, .ref a.1), (1, .ref b.1), (2, .int (nI x)), (3, .int (nI 1)), (4, .int (nI n))] → W p l e rmL_alike s m args below meth c H₁ locs₁ (cells + 8) (slots + 48) Q (F0 m 381 ls₁ [.int (nI 1)])) :
    W p l e rmL_alike s m args below meth c H locs cells slots Q (F0 m 340 ls []) := by
  obtain ⟨hx, hb, hml, hr, hts, hown, hlocks, hE, hA, hA0, hN⟩ := id F
  have hok0 := yOk_of hk0 hg0 ht0
  have hok1 := yOk_of hk0 hg1 ht1
  have hn12 := hI.2.1
  have ht40 := hI.2.2.2.1
  refine lv_iload_n hx hb dL_alike_340 rfl (lv_at hl 3 rfl) ?_
  refine lv_if_eq (tgt := 380) hx hb dL_alike_341 (by decide) (fun z => absurd z (by decide)) (fun _ => ?_)
  refine lv_iload hx hb dL_alike_344 (lv_at hl 4 rfl) ?_
  refine lv_if_eq (tgt := 376) hx hb dL_alike_346 (by decide) (fun h346_0 => ?_) (fun h346_0 => ?_)
  · have h346_0 := zk_eq0 (by omega) h346_0
    refine lv_iconst (v := nI 1) hx hb dL_alike_376 (by decide) ?_
    refine lv_goto (tgt := 381) hx hb dL_alike_377 (by decide) ?_
    refine W.widen (k := cells + 8) (n := slots + 48) (by omega) (by omega) ?_
    exact kk σ τ _ _ _ ht0 hg0 ht1 hg1 hP hD hS (lv_sub hl [0, 1, 2, 3, 4] rfl)
  · have h346_0 := zk_ne0 (by omega) h346_0
    refine lv_aload_n hx hb dL_alike_349 rfl (lv_at hl 0 rfl) ?_
    refine lv_bipush (v := nI 17) hx hb dL_alike_350 (by decide) ?_
    refine lv_iload_n hx hb dL_alike_352 rfl (lv_at hl 2 rfl) ?_
    refine lv_iload hx hb dL_alike_353 (lv_at hl 4 rfl) ?_
    refine zk_iremN hx hb dL_alike_355 (by omega) (by omega) (by omega) ?_
    refine lv_iconst (v := nI 0) hx hb dL_alike_356 (by decide) ?_
    refine lv_iconst (v := nI 0) hx hb dL_alike_357 (by decide) ?_
    refine zk_callI (wr := zw G b τ) (va_runS (As := [.ref a.1, .int (nI 17), .int (nI (x % n)), .int (nI 0), .int (nI 0)]) (rest := []) ⟨hx, hb, hml, hown, hts⟩ (c_C_17 l G hst a σ hok0 (nI (x % n)) (nI 0) (nI 0) _) (va_cwS 5 hts gL_alike_L_call rfl rfl rfl (by decide +kernel) ⟨Nat.le_of_ble_eq_true rfl, Nat.le_of_ble_eq_true rfl⟩) (zk_preSH hN hE hA0 hS (zk_Papp hP).1 (zk_Dapp hD).1) rfl rfl hl.1 rfl (lv_room (Nat.le_of_ble_eq_true rfl)) dL_alike_358 ⟨by show cells + 4 ≤ 800; omega, by show slots + 24 ≤ 4800; omega⟩) hP hD hS hA (fun r3 σ2 H locs hpost hP hD hS => ?_)
    refine zk_cs (cells + 4) (slots + 24) rfl rfl ?_
    have hP : va_P G.1 vwCl (zw G a σ2 ++ zw G b τ) H := hP
    have hD : va_D A (zw G a σ2 ++ zw G b τ) := hD
    obtain ⟨⟨er, ec⟩, ht0⟩ := hpost
    rw [hg0] at er ec
    have hg0 : core σ2 = κ := ec
    have hok0 := yOk_of hk0 hg0 ht0
    refine zk_top (er) ?_
    refine lv_aload_n hx hb dL_alike_361 rfl (lv_at hl 1 rfl) ?_
    refine lv_bipush (v := nI 17) hx hb dL_alike_362 (by decide) ?_
    refine lv_iload_n hx hb dL_alike_364 rfl (lv_at hl 2 rfl) ?_
    refine lv_iload hx hb dL_alike_365 (lv_at hl 4 rfl) ?_
    refine zk_iremN hx hb dL_alike_367 (by omega) (by omega) (by omega) ?_
    refine lv_iconst (v := nI 0) hx hb dL_alike_368 (by decide) ?_
    refine lv_iconst (v := nI 0) hx hb dL_alike_369 (by decide) ?_
    refine zk_callB (wr := zw G a σ2) (va_runS (As := [.ref b.1, .int (nI 17), .int (nI (x % n)), .int (nI 0), .int (nI 0)]) (rest := [.int (fRefused (kL κ) (nI (x % n)))]) ⟨hx, hb, hml, hown, hts⟩ (c_C_17 l G hst b τ hok1 (nI (x % n)) (nI 0) (nI 0) _) (va_cwS 5 hts gL_alike_L_call rfl rfl rfl (by decide +kernel) ⟨Nat.le_of_ble_eq_true rfl, Nat.le_of_ble_eq_true rfl⟩) (zk_preSH hN hE hA0 hS (zk_Papp hP).2 (zk_Dapp hD).2) rfl rfl hl.1 rfl (lv_room (Nat.le_of_ble_eq_true rfl)) dL_alike_370 ⟨by show cells + 4 + 4 ≤ 800; omega, by show slots + 24 + 24 ≤ 4800; omega⟩) hP hD hS hA (fun r5 τ4 H locs hpost hP hD hS => ?_)
    refine zk_cs (cells + 4 + 4) (slots + 24 + 24) rfl rfl ?_
    have hP : va_P G.1 vwCl (zw G a σ2 ++ zw G b τ4) H := hP
    have hD : va_D A (zw G a σ2 ++ zw G b τ4) := hD
    obtain ⟨⟨er, ec⟩, ht1⟩ := hpost
    rw [hg1] at er ec
    have hg1 : core τ4 = κ := ec
    have hok1 := yOk_of hk0 hg1 ht1
    refine zk_top (er) ?_
    refine lv_icmp_ne (tgt := 380) hx hb dL_alike_373 (by decide) (fun h => absurd rfl h) (fun _ => ?_)
    refine lv_iconst (v := nI 1) hx hb dL_alike_376 (by decide) ?_
    refine lv_goto (tgt := 381) hx hb dL_alike_377 (by decide) ?_
    refine W.widen (k := cells + 8) (n := slots + 48) (by omega) (by omega) ?_
    exact kk σ2 τ4 _ _ _ ht0 hg0 ht1 hg1 hP hD hS (lv_sub hl [0, 1, 2, 3, 4] rfl)

set_option maxHeartbeats 4000000 in
set_option maxRecDepth 100000 in
/-- two objects whose cores are the same: alike, and they stay so -/
theorem c_L_alike (l : Launch) (G : zk_G) (hst : l.stackTraces = false) (a b : zA) (σ τ : zSt) (hok : yOk σ) (hok2 : yOk τ) (hστ : core τ = core σ) (x : Nat) (hx31 : x < 2 ^ 31) : zk_IH (S := zSt × zSt) l yL_alike vL_alike rmL_alike G [.ref a.1, .ref b.1, .int (nI x)] (zw G a σ ++ zw G b τ) (fun r u => (r = nI 1 ∧ core u.1 = core σ ∧ core u.2 = core σ) ∧ zTx u.1 ∧ zTx u.2) (fun u => zw G a u.1 ++ zw G b u.2) := by
  refine zk_bodyIN (cc := cL_alike) (maxL := 6) (ret := (some .boolean)) (by decide) rfl (Nat.le_of_ble_eq_true rfl) ?_
  intro p E0 s m args below meth cd A ls Q hF hN hQ
  obtain ⟨hx, hb0, hml, hr, hts, hown, hlocks, -, hE, hP, hD, hS, hA, hA0, hl⟩ := hF
  have F : zFx p s m meth cd args cL_alike 6 (some .boolean) vL_alike A G := ⟨hx, hb0, hml, hr, hts, hown, hlocks, hE, hA, hA0, hN⟩
  have hl : lv_has ls 6 [(0, .ref a.1), (1, .ref b.1), (2, .int (nI x))] := hl
  obtain ⟨ht0, hk⟩ := hok
  obtain ⟨ht1, -⟩ := hok2
  obtain ⟨κ, hg0⟩ : ∃ κ, core σ = κ := ⟨_, rfl⟩
  have hk0 : kOk κ := by rw [← hg0]; exact hk
  have hg1 : core τ = κ := hστ.trans hg0
  rw [hg0] at hQ
  have hI := hk0.1
  revert hI
  generalize zN (kL κ) = n
  generalize zT (kL κ) = t
  intro hI
  have hn12 := hI.2.1
  have fin : ∀ (σ τ : zSt) (H : Heap) (locs : List Loc) (ls : Array Slot) (cells slots : Nat), cells + 8 ≤ 800 ∧ slots + 48 ≤ 4800 → zTx σ → core σ = κ → zTx τ → core τ = κ → va_P G.1 vwCl (zw G a σ ++ zw G b τ) H → va_D A (zw G a σ ++ zw G b τ) → va_S A s.heap H locs → lv_has ls 6 [(0, .ref a.1), (1, .ref b.1), (2, .int (nI x)), (3, .int (nI 1)), (4, .int (nI n)), (5, .int (nI (3 * 14)))] → W p l E0 rmL_alike s m args below meth cd H locs cells slots Q (F0 m 340 ls []) := by
    intro σ τ H locs ls cells slots hcs ht0 hg0 ht1 hg1 hP hD hS hl
    refine zl_7 hst F ht0 hg0 ht1 hg1 hk0 hx31 hI hP hD hS hl hcs (fun σ τ H locs ls ht0 hg0 ht1 hg1 hP hD hS hl => ?_)
    exact zk_retz (σ, τ) hQ hx hb0 hr hlocks hS hP hD hcs.1 hcs.2 dL_alike_381 rfl ⟨⟨rfl, hg0, hg1⟩, ht0, ht1⟩
  have l6 : (fun i => ∀ (σ τ : zSt) (H : Heap) (locs : List Loc) (ls : Array Slot) (cells slots : Nat), cells + (8 + 8 * (14 - i)) ≤ 800 ∧ slots + (48 + 48 * (14 - i)) ≤ 4800 → zTx σ → core σ = κ → zTx τ → core τ = κ → va_P G.1 vwCl (zw G a σ ++ zw G b τ) H → va_D A (zw G a σ ++ zw G b τ) → va_S A s.heap H locs → lv_has ls 6 [(0, .ref a.1), (1, .ref b.1), (2, .int (nI x)), (3, .int (nI 1)), (4, .int (nI n)), (5, .int (nI (3 * i)))] → W p l E0 rmL_alike s m args below meth cd H locs cells slots Q (F0 m 292 ls [])) 0 := by
    refine zk_loop0 (V := fun i => ∀ (σ τ : zSt) (H : Heap) (locs : List Loc) (ls : Array Slot) (cells slots : Nat), cells + (8 + 8 * (14 - i)) ≤ 800 ∧ slots + (48 + 48 * (14 - i)) ≤ 4800 → zTx σ → core σ = κ → zTx τ → core τ = κ → va_P G.1 vwCl (zw G a σ ++ zw G b τ) H → va_D A (zw G a σ ++ zw G b τ) → va_S A s.heap H locs → lv_has ls 6 [(0, .ref a.1), (1, .ref b.1), (2, .int (nI x)), (3, .int (nI 1)), (4, .int (nI n)), (5, .int (nI (3 * i)))] → W p l E0 rmL_alike s m args below meth cd H locs cells slots Q (F0 m 292 ls [])) (n := 14) ?_ ?_
    · intro σ τ H locs ls cells slots hcs ht0 hg0 ht1 hg1 hP hD hS hl
      refine lv_iload hx hb0 dL_alike_292 (lv_at hl 5 rfl) ?_
      refine lv_bipush (v := nI 40) hx hb0 dL_alike_294 (by decide) ?_
      refine lv_icmp_ge (tgt := 340) hx hb0 dL_alike_296 (by decide) (fun _ => ?_) (fun h => absurd (by decide) h)
      exact fin σ τ H locs ls cells slots (by omega) ht0 hg0 ht1 hg1 hP hD hS hl
    · intro i hi ih σ τ H locs ls cells slots hcs ht0 hg0 ht1 hg1 hP hD hS hl
      refine zl_6 hst F ht0 hg0 ht1 hg1 hk0 hx31 hI (show 3 * i < 40 by omega) hP hD hS hl ⟨by omega, by omega⟩ (fun σ τ H locs ls ht0 hg0 ht1 hg1 hP hD hS hl => ?_)
      exact ih σ τ H locs ls _ _ (by omega) ht0 hg0 ht1 hg1 hP hD hS (by rw [show 3 * (i + 1) = 3 * i + 3 by omega]; exact hl)
  have l5 : (fun i => ∀ (σ τ : zSt) (H : Heap) (locs : List Loc) (ls : Array Slot) (cells slots : Nat), cells + (120 + 8 * (5 - i)) ≤ 800 ∧ slots + (720 + 48 * (5 - i)) ≤ 4800 → zTx σ → core σ = κ → zTx τ → core τ = κ → va_P G.1 vwCl (zw G a σ ++ zw G b τ) H → va_D A (zw G a σ ++ zw G b τ) → va_S A s.heap H locs → lv_has ls 6 [(0, .ref a.1), (1, .ref b.1), (2, .int (nI x)), (3, .int (nI 1)), (4, .int (nI n)), (5, .int (nI i))] → W p l E0 rmL_alike s m args below meth cd H locs cells slots Q (F0 m 242 ls [])) 0 := by
    refine zk_loop0 (V := fun i => ∀ (σ τ : zSt) (H : Heap) (locs : List Loc) (ls : Array Slot) (cells slots : Nat), cells + (120 + 8 * (5 - i)) ≤ 800 ∧ slots + (720 + 48 * (5 - i)) ≤ 4800 → zTx σ → core σ = κ → zTx τ → core τ = κ → va_P G.1 vwCl (zw G a σ ++ zw G b τ) H → va_D A (zw G a σ ++ zw G b τ) → va_S A s.heap H locs → lv_has ls 6 [(0, .ref a.1), (1, .ref b.1), (2, .int (nI x)), (3, .int (nI 1)), (4, .int (nI n)), (5, .int (nI i))] → W p l E0 rmL_alike s m args below meth cd H locs cells slots Q (F0 m 242 ls [])) (n := 5) ?_ ?_
    · intro σ τ H locs ls cells slots hcs ht0 hg0 ht1 hg1 hP hD hS hl
      refine lv_iload hx hb0 dL_alike_242 (lv_at hl 5 rfl) ?_
      refine lv_iconst (v := nI 5) hx hb0 dL_alike_244 (by decide) ?_
      refine lv_icmp_ge (tgt := 289) hx hb0 dL_alike_245 (by decide) (fun _ => ?_) (fun h => absurd (by decide) h)
      refine lv_iconst (v := nI 0) hx hb0 dL_alike_289 (by decide) ?_
      refine lv_istore (lv' := [(5, .int (nI (3 * 0))), (0, .ref a.1), (1, .ref b.1), (2, .int (nI x)), (3, .int (nI 1)), (4, .int (nI n))]) hx hb0 dL_alike_290 hl (by decide) rfl (fun ls hl => ?_)
      exact l6 σ τ H locs ls cells slots (by omega) ht0 hg0 ht1 hg1 hP hD hS (lv_sub hl [1, 2, 3, 4, 5, 0] rfl)
    · intro i hi ih σ τ H locs ls cells slots hcs ht0 hg0 ht1 hg1 hP hD hS hl
      refine zl_5 hst F ht0 hg0 ht1 hg1 hk0 hx31 hI hi hP hD hS hl ⟨by omega, by omega⟩ (fun σ τ H locs ls ht0 hg0 ht1 hg1 hP hD hS hl => ?_)
      exact ih σ τ H locs ls _ _ (by omega) ht0 hg0 ht1 hg1 hP hD hS hl
  have l4 : (fun i => ∀ (σ τ : zSt) (H : Heap) (locs : List Loc) (ls : Array Slot) (cells slots : Nat), cells + (160 + 32 * (n - i)) ≤ 800 ∧ slots + (960 + 192 * (n - i)) ≤ 4800 → zTx σ → core σ = κ → zTx τ → core τ = κ → va_P G.1 vwCl (zw G a σ ++ zw G b τ) H → va_D A (zw G a σ ++ zw G b τ) → va_S A s.heap H locs → lv_has ls 6 [(0, .ref a.1), (1, .ref b.1), (2, .int (nI x)), (3, .int (nI 1)), (4, .int (nI n)), (5, .int (nI i))] → W p l E0 rmL_alike s m args below meth cd H locs cells slots Q (F0 m 100 ls [])) 0 := by
    refine zk_loop0 (V := fun i => ∀ (σ τ : zSt) (H : Heap) (locs : List Loc) (ls : Array Slot) (cells slots : Nat), cells + (160 + 32 * (n - i)) ≤ 800 ∧ slots + (960 + 192 * (n - i)) ≤ 4800 → zTx σ → core σ = κ → zTx τ → core τ = κ → va_P G.1 vwCl (zw G a σ ++ zw G b τ) H → va_D A (zw G a σ ++ zw G b τ) → va_S A s.heap H locs → lv_has ls 6 [(0, .ref a.1), (1, .ref b.1), (2, .int (nI x)), (3, .int (nI 1)), (4, .int (nI n)), (5, .int (nI i))] → W p l E0 rmL_alike s m args below meth cd H locs cells slots Q (F0 m 100 ls [])) (n := n) ?_ ?_
    · intro σ τ H locs ls cells slots hcs ht0 hg0 ht1 hg1 hP hD hS hl
      refine lv_iload hx hb0 dL_alike_100 (lv_at hl 5 rfl) ?_
      refine lv_iload hx hb0 dL_alike_102 (lv_at hl 4 rfl) ?_
      refine lv_icmp_ge (tgt := 239) hx hb0 dL_alike_104 (by decide) (fun _ => ?_) (fun h => absurd (Int32.le_refl _) h)
      refine lv_iconst (v := nI 0) hx hb0 dL_alike_239 (by decide) ?_
      refine lv_istore (lv' := [(5, .int (nI 0)), (0, .ref a.1), (1, .ref b.1), (2, .int (nI x)), (3, .int (nI 1)), (4, .int (nI n))]) hx hb0 dL_alike_240 hl (by decide) rfl (fun ls hl => ?_)
      exact l5 σ τ H locs ls cells slots (by omega) ht0 hg0 ht1 hg1 hP hD hS (lv_sub hl [1, 2, 3, 4, 5, 0] rfl)
    · intro i hi ih σ τ H locs ls cells slots hcs ht0 hg0 ht1 hg1 hP hD hS hl
      refine zl_4 hst F ht0 hg0 ht1 hg1 hk0 hx31 hI hi hP hD hS hl ⟨by omega, by omega⟩ (fun σ τ H locs ls ht0 hg0 ht1 hg1 hP hD hS hl => ?_)
      exact ih σ τ H locs ls _ _ (by omega) ht0 hg0 ht1 hg1 hP hD hS hl
  have l2 : (fun i => ∀ (σ τ : zSt) (H : Heap) (locs : List Loc) (ls : Array Slot) (cells slots : Nat), cells + (548 + 16 * (12 - i)) ≤ 800 ∧ slots + (3288 + 96 * (12 - i)) ≤ 4800 → zTx σ → core σ = κ → zTx τ → core τ = κ → va_P G.1 vwCl (zw G a σ ++ zw G b τ) H → va_D A (zw G a σ ++ zw G b τ) → va_S A s.heap H locs → lv_has ls 6 [(0, .ref a.1), (1, .ref b.1), (2, .int (nI x)), (3, .int (nI 1)), (4, .int (nI i))] → W p l E0 rmL_alike s m args below meth cd H locs cells slots Q (F0 m 20 ls [])) 0 := by
    refine zk_loop0 (V := fun i => ∀ (σ τ : zSt) (H : Heap) (locs : List Loc) (ls : Array Slot) (cells slots : Nat), cells + (548 + 16 * (12 - i)) ≤ 800 ∧ slots + (3288 + 96 * (12 - i)) ≤ 4800 → zTx σ → core σ = κ → zTx τ → core τ = κ → va_P G.1 vwCl (zw G a σ ++ zw G b τ) H → va_D A (zw G a σ ++ zw G b τ) → va_S A s.heap H locs → lv_has ls 6 [(0, .ref a.1), (1, .ref b.1), (2, .int (nI x)), (3, .int (nI 1)), (4, .int (nI i))] → W p l E0 rmL_alike s m args below meth cd H locs cells slots Q (F0 m 20 ls [])) (n := 12) ?_ ?_
    · intro σ τ H locs ls cells slots hcs ht0 hg0 ht1 hg1 hP hD hS hl
      refine lv_iload hx hb0 dL_alike_20 (lv_at hl 4 rfl) ?_
      refine lv_bipush (v := nI 12) hx hb0 dL_alike_22 (by decide) ?_
      refine lv_icmp_ge (tgt := 87) hx hb0 dL_alike_24 (by decide) (fun _ => ?_) (fun h => absurd (by decide) h)
      refine zl_3 hst F ht0 hg0 ht1 hg1 hk0 hx31 hI hP hD hS hl ⟨by omega, by omega⟩ (fun σ τ H locs ls ht0 hg0 ht1 hg1 hP hD hS hl => ?_)
      refine lv_iconst (v := nI 0) hx hb0 dL_alike_97 (by decide) ?_
      refine lv_istore (lv' := [(5, .int (nI 0)), (0, .ref a.1), (1, .ref b.1), (2, .int (nI x)), (3, .int (nI 1)), (4, .int (nI n))]) hx hb0 dL_alike_98 hl (by decide) rfl (fun ls hl => ?_)
      exact l4 σ τ H locs ls _ _ (by omega) ht0 hg0 ht1 hg1 hP hD hS (lv_sub hl [1, 2, 3, 4, 5, 0] rfl)
    · intro i hi ih σ τ H locs ls cells slots hcs ht0 hg0 ht1 hg1 hP hD hS hl
      refine zl_2 hst F ht0 hg0 ht1 hg1 hk0 hx31 hI hi hP hD hS hl ⟨by omega, by omega⟩ (fun σ τ H locs ls ht0 hg0 ht1 hg1 hP hD hS hl => ?_)
      exact ih σ τ H locs ls _ _ (by omega) ht0 hg0 ht1 hg1 hP hD hS hl
  refine zl_1 hst F ht0 hg0 ht1 hg1 hk0 hx31 hI hP hD hS hl ⟨by decide, by decide⟩ (fun σ τ H locs ls ht0 hg0 ht1 hg1 hP hD hS hl => ?_)
  refine lv_iconst (v := nI 0) hx hb0 dL_alike_17 (by decide) ?_
  refine lv_istore (lv' := [(4, .int (nI 0)), (0, .ref a.1), (1, .ref b.1), (2, .int (nI x)), (3, .int (nI 1))]) hx hb0 dL_alike_18 hl (by decide) rfl (fun ls hl => ?_)
  exact l2 σ τ H locs ls _ _ (by omega) ht0 hg0 ht1 hg1 hP hD hS (lv_sub hl [1, 2, 3, 4, 0] rfl)
