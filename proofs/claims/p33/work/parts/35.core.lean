/-! A whole object: its state, what counts of it, what each call answers and makes of it. -/
/-- text, now, trial, flags, slots, the ring, its oldest, how many, the text's length -/
abbrev zSt : Type := zL × zL × zL × (Nat → Int32) × (Nat → zL) × (Nat → zL) × Nat × Nat × Nat
abbrev gT (σ : zSt) : zL := σ.1
abbrev gL (σ : zSt) : zL := σ.2.1
abbrev gZ (σ : zSt) : zL := σ.2.2.1
abbrev gV (σ : zSt) : Nat → Int32 := σ.2.2.2.1
abbrev gB (σ : zSt) : Nat → zL := σ.2.2.2.2.1
abbrev gS (σ : zSt) : Nat → zL := σ.2.2.2.2.2.1
abbrev gO (σ : zSt) : Nat := σ.2.2.2.2.2.2.1
abbrev gC (σ : zSt) : Nat := σ.2.2.2.2.2.2.2.1
abbrev gN (σ : zSt) : Nat := σ.2.2.2.2.2.2.2.2
def zw (G : zk_G) (a : zA) (σ : zSt) : va_W := zb_5 G a ++ (zb_T G a.2.1 (gT σ) ++ (zb_L G a.2.2.1 (gL σ) ++ (zb_M G a.2.2.1 (gL σ) ++ (zb_L G a.2.2.2.1 (gZ σ) ++ (zb_M G a.2.2.2.1 (gZ σ) ++ (zb_S G a (gV σ) ++ (zb_P G a.2.2.2.2.2.2.2 (gB σ) 2 ++ zb_H G a.2.2.2.2.1.1 a.2.2.2.2.1.2.1 a.2.2.2.2.1.2.2 (gS σ) (nI (gO σ)) (nI (gC σ)))))))))
/-- characters, length, now, flags, slots, the ring, its oldest, how many -/
abbrev zCo : Type := (Nat → Int32) × Nat × zL × (Nat → Int32) × (Nat → zL) × (Nat → zL) × Nat × Nat
abbrev kH (κ : zCo) : Nat → Int32 := κ.1
abbrev kTn (κ : zCo) : Nat := κ.2.1
abbrev kL (κ : zCo) : zL := κ.2.2.1
abbrev kV (κ : zCo) : Nat → Int32 := κ.2.2.2.1
abbrev kB (κ : zCo) : Nat → zL := κ.2.2.2.2.1
abbrev kS (κ : zCo) : Nat → zL := κ.2.2.2.2.2.1
abbrev kO (κ : zCo) : Nat := κ.2.2.2.2.2.2.1
abbrev kC (κ : zCo) : Nat := κ.2.2.2.2.2.2.2
def core (σ : zSt) : zCo := (gT σ 1, gN σ, gL σ, gV σ, gB σ, gS σ, gO σ, gC σ)
def zTx (σ : zSt) : Prop := ∃ po, tInv (gT σ) (gN σ) po
/-- what each call wants -/
def yOk (σ : zSt) : Prop := zTx σ ∧ sInv (gL σ) (zN (gL σ)) (zT (gL σ)) ∧ gO σ < 14 ∧ gC σ ≤ 14
def kOk (κ : zCo) : Prop := sInv (kL κ) (zN (kL κ)) (zT (kL κ)) ∧ kO κ < 14 ∧ kC κ ≤ 14
theorem yOk_of {σ : zSt} {κ : zCo} (h : kOk κ) (hg : core σ = κ) (ht : zTx σ) : yOk σ := by
  subst hg
  exact ⟨ht, h⟩
noncomputable def zIf {α : Type} (p : Prop) (a b : α) : α := @ite α p (Classical.propDecidable p) a b
theorem zIf_t {α : Type} {p : Prop} {a b : α} (h : p) : zIf p a b = a := @if_pos p (Classical.propDecidable p) h α a b
theorem zIf_f {α : Type} {p : Prop} {a b : α} (h : ¬ p) : zIf p a b = b := @if_neg p (Classical.propDecidable p) h α a b
/-- the state is remembered, and is another then -/
def kRm (κ : zCo) (L : zL) : zCo := (kH κ, kTn κ, L, kV κ, kB κ, (hRem (kO κ) (kC κ) (kS κ) (kL κ)).2.2, (hRem (kO κ) (kC κ) (kS κ) (kL κ)).1, (hRem (kO κ) (kC κ) (kS κ) (kL κ)).2.1)
def fAct (F r : Int32) (L : zL) (κ : zCo) : Int32 × zCo := if F = nI 1 then (-9999001, κ) else if F = nI 2 then (-9999002, κ) else if F = nI 3 then (-9999003, κ) else (r, kRm κ L)
theorem fAct_1 {F r : Int32} {L : zL} {κ : zCo} (h : F = nI 1) : fAct F r L κ = (-9999001, κ) := if_pos h
theorem fAct_2 {F r : Int32} {L : zL} {κ : zCo} (h : F = nI 2) : fAct F r L κ = (-9999002, κ) := (if_neg (by rw [h]; decide)).trans (if_pos h)
theorem fAct_3 {F r : Int32} {L : zL} {κ : zCo} (h : F = nI 3) : fAct F r L κ = (-9999003, κ) := (if_neg (by rw [h]; decide)).trans ((if_neg (by rw [h]; decide)).trans (if_pos h))
theorem fAct_0 {F r : Int32} {L : zL} {κ : zCo} (h : F = 0) : fAct F r L κ = (r, kRm κ L) := (if_neg (by rw [h]; decide)).trans ((if_neg (by rw [h]; decide)).trans (if_neg (by rw [h]; decide)))
theorem q_none {E : String} {F r : Int32} (h : (E = "java/lang/IndexOutOfBoundsException" ∧ F = nI 1) ∨ (E = "java/lang/IllegalArgumentException" ∧ F = nI 2) ∨ (E = "java/lang/IllegalStateException" ∧ F = nI 3)) (hc : zcode E (-9999001) (-9999002) (-9999003) r) (R : Int32) (L : zL) (κ : zCo) : r = (fAct F R L κ).1 ∧ κ = (fAct F R L κ).2 := by
  rcases h with ⟨rfl, h⟩ | ⟨rfl, h⟩ | ⟨rfl, h⟩
  · rw [fAct_1 h]; exact ⟨hc.1 rfl, rfl⟩
  · rw [fAct_2 h]; exact ⟨hc.2.1 rfl, rfl⟩
  · rw [fAct_3 h]; exact ⟨hc.2.2 rfl, rfl⟩
-- the pieces, as each kind of call takes them
theorem zq_1 {α : Type} (f1 f2 f3 f4 f5 f6 f7 f8 f9 : List α) : (f1 ++ (f2 ++ (f3 ++ (f4 ++ (f5 ++ (f6 ++ (f7 ++ (f8 ++ f9)))))))).Perm ((f1 ++ (f3 ++ (f4 ++ f9))) ++ (f2 ++ (f5 ++ (f6 ++ (f7 ++ f8))))) := by
  classical
  rw [List.perm_iff_count]; intro y; simp only [List.count_append]; omega
theorem zq_2 {α : Type} (f1 f2 f3 f4 f5 f6 f7 f8 f9 : List α) : (f1 ++ (f2 ++ (f3 ++ (f4 ++ (f5 ++ (f6 ++ (f7 ++ (f8 ++ f9)))))))).Perm ((f1 ++ (f3 ++ f4)) ++ (f2 ++ (f5 ++ (f6 ++ (f7 ++ (f8 ++ f9)))))) := by
  classical
  rw [List.perm_iff_count]; intro y; simp only [List.count_append]; omega
theorem zq_3 {α : Type} (f1 f2 f3 f4 f5 f6 f7 f8 f9 : List α) : (f1 ++ (f2 ++ (f3 ++ (f4 ++ (f5 ++ (f6 ++ (f7 ++ (f8 ++ f9)))))))).Perm ((f1 ++ (f3 ++ (f4 ++ (f5 ++ f6)))) ++ (f2 ++ (f7 ++ (f8 ++ f9)))) := by
  classical
  rw [List.perm_iff_count]; intro y; simp only [List.count_append]; omega
theorem zq_4 {α : Type} (f1 f2 f3 f4 f5 f6 f7 f8 f9 : List α) : (f1 ++ (f2 ++ (f3 ++ (f4 ++ (f5 ++ (f6 ++ (f7 ++ (f8 ++ f9)))))))).Perm ((f1 ++ f2) ++ (f3 ++ (f4 ++ (f5 ++ (f6 ++ (f7 ++ (f8 ++ f9))))))) := by
  classical
  rw [List.perm_iff_count]; intro y; simp only [List.count_append]; omega
theorem zq_5 {α : Type} (f1 f2 f3 f4 f5 f6 f7 f8 f9 : List α) : (f1 ++ (f2 ++ (f3 ++ (f4 ++ (f5 ++ (f6 ++ (f7 ++ (f8 ++ f9)))))))).Perm ((f1 ++ (f2 ++ (f3 ++ (f4 ++ (f7 ++ f9))))) ++ (f5 ++ (f6 ++ f8))) := by
  classical
  rw [List.perm_iff_count]; intro y; simp only [List.count_append]; omega
theorem zq_6 {α : Type} (f1 f2 f3 f4 f5 f6 f7 f8 f9 : List α) : (f1 ++ (f2 ++ (f3 ++ (f4 ++ (f5 ++ (f6 ++ (f7 ++ (f8 ++ f9)))))))).Perm ((f1 ++ (f3 ++ (f4 ++ (f7 ++ f8)))) ++ (f2 ++ (f5 ++ (f6 ++ f9)))) := by
  classical
  rw [List.perm_iff_count]; intro y; simp only [List.count_append]; omega
theorem zq_7 {α : Type} (f1 f2 f3 f4 f5 f6 f7 f8 f9 : List α) : (f1 ++ (f2 ++ (f3 ++ (f4 ++ (f5 ++ (f6 ++ (f7 ++ (f8 ++ f9)))))))).Perm ((f1 ++ (f3 ++ (f4 ++ (f7 ++ (f8 ++ f9))))) ++ (f2 ++ (f5 ++ f6))) := by
  classical
  rw [List.perm_iff_count]; intro y; simp only [List.count_append]; omega

theorem zw_1 (G : zk_G) (a : zA) (σ : zSt) : (zw G a σ).Perm ((zb_5 G a ++ (zb_L G a.2.2.1 (gL σ) ++ (zb_M G a.2.2.1 (gL σ) ++ zb_H G a.2.2.2.2.1.1 a.2.2.2.2.1.2.1 a.2.2.2.2.1.2.2 (gS σ) (nI (gO σ)) (nI (gC σ))))) ++ (zb_T G a.2.1 (gT σ) ++ (zb_L G a.2.2.2.1 (gZ σ) ++ (zb_M G a.2.2.2.1 (gZ σ) ++ (zb_S G a (gV σ) ++ zb_P G a.2.2.2.2.2.2.2 (gB σ) 2))))) := zq_1 _ _ _ _ _ _ _ _ _
theorem zw_2 (G : zk_G) (a : zA) (σ : zSt) : (zw G a σ).Perm ((zb_5 G a ++ (zb_L G a.2.2.1 (gL σ) ++ zb_M G a.2.2.1 (gL σ))) ++ (zb_T G a.2.1 (gT σ) ++ (zb_L G a.2.2.2.1 (gZ σ) ++ (zb_M G a.2.2.2.1 (gZ σ) ++ (zb_S G a (gV σ) ++ (zb_P G a.2.2.2.2.2.2.2 (gB σ) 2 ++ zb_H G a.2.2.2.2.1.1 a.2.2.2.2.1.2.1 a.2.2.2.2.1.2.2 (gS σ) (nI (gO σ)) (nI (gC σ)))))))) := zq_2 _ _ _ _ _ _ _ _ _
theorem zw_3 (G : zk_G) (a : zA) (σ : zSt) : (zw G a σ).Perm ((zb_5 G a ++ (zb_L G a.2.2.1 (gL σ) ++ (zb_M G a.2.2.1 (gL σ) ++ (zb_L G a.2.2.2.1 (gZ σ) ++ zb_M G a.2.2.2.1 (gZ σ))))) ++ (zb_T G a.2.1 (gT σ) ++ (zb_S G a (gV σ) ++ (zb_P G a.2.2.2.2.2.2.2 (gB σ) 2 ++ zb_H G a.2.2.2.2.1.1 a.2.2.2.2.1.2.1 a.2.2.2.2.1.2.2 (gS σ) (nI (gO σ)) (nI (gC σ)))))) := zq_3 _ _ _ _ _ _ _ _ _
theorem zw_4 (G : zk_G) (a : zA) (σ : zSt) : (zw G a σ).Perm ((zb_5 G a ++ zb_T G a.2.1 (gT σ)) ++ (zb_L G a.2.2.1 (gL σ) ++ (zb_M G a.2.2.1 (gL σ) ++ (zb_L G a.2.2.2.1 (gZ σ) ++ (zb_M G a.2.2.2.1 (gZ σ) ++ (zb_S G a (gV σ) ++ (zb_P G a.2.2.2.2.2.2.2 (gB σ) 2 ++ zb_H G a.2.2.2.2.1.1 a.2.2.2.2.1.2.1 a.2.2.2.2.1.2.2 (gS σ) (nI (gO σ)) (nI (gC σ))))))))) := zq_4 _ _ _ _ _ _ _ _ _
theorem zw_5 (G : zk_G) (a : zA) (σ : zSt) : (zw G a σ).Perm ((zb_5 G a ++ (zb_T G a.2.1 (gT σ) ++ (zb_L G a.2.2.1 (gL σ) ++ (zb_M G a.2.2.1 (gL σ) ++ (zb_S G a (gV σ) ++ zb_H G a.2.2.2.2.1.1 a.2.2.2.2.1.2.1 a.2.2.2.2.1.2.2 (gS σ) (nI (gO σ)) (nI (gC σ))))))) ++ (zb_L G a.2.2.2.1 (gZ σ) ++ (zb_M G a.2.2.2.1 (gZ σ) ++ zb_P G a.2.2.2.2.2.2.2 (gB σ) 2))) := zq_5 _ _ _ _ _ _ _ _ _
theorem zw_6 (G : zk_G) (a : zA) (σ : zSt) : (zw G a σ).Perm ((zb_5 G a ++ (zb_L G a.2.2.1 (gL σ) ++ (zb_M G a.2.2.1 (gL σ) ++ (zb_S G a (gV σ) ++ zb_P G a.2.2.2.2.2.2.2 (gB σ) 2)))) ++ (zb_T G a.2.1 (gT σ) ++ (zb_L G a.2.2.2.1 (gZ σ) ++ (zb_M G a.2.2.2.1 (gZ σ) ++ zb_H G a.2.2.2.2.1.1 a.2.2.2.2.1.2.1 a.2.2.2.2.1.2.2 (gS σ) (nI (gO σ)) (nI (gC σ)))))) := zq_6 _ _ _ _ _ _ _ _ _
theorem zw_7 (G : zk_G) (a : zA) (σ : zSt) : (zw G a σ).Perm ((zb_5 G a ++ (zb_L G a.2.2.1 (gL σ) ++ (zb_M G a.2.2.1 (gL σ) ++ (zb_S G a (gV σ) ++ (zb_P G a.2.2.2.2.2.2.2 (gB σ) 2 ++ zb_H G a.2.2.2.2.1.1 a.2.2.2.2.1.2.1 a.2.2.2.2.1.2.2 (gS σ) (nI (gO σ)) (nI (gC σ))))))) ++ (zb_T G a.2.1 (gT σ) ++ (zb_L G a.2.2.2.1 (gZ σ) ++ zb_M G a.2.2.2.1 (gZ σ)))) := zq_7 _ _ _ _ _ _ _ _ _
/-- the object behind an action -/
abbrev zAft (σ : zSt) (v : (Nat × Nat × (Nat → zL)) × zL) : zSt := (gT σ, v.2, gZ σ, gV σ, gB σ, v.1.2.2, v.1.1, v.1.2.1, gN σ)
theorem q_some {σ : zSt} {F r R : Int32} {L : zL} {v : (Nat × Nat × (Nat → zL)) × zL} (hF : F = 0) (hr : r = R) (h1 : v.1 = hRem (gO σ) (gC σ) (gS σ) (gL σ)) (h2 : v.2 = L) : r = (fAct F R L (core σ)).1 ∧ core (zAft σ v) = (fAct F R L (core σ)).2 := by
  obtain ⟨v1, v2⟩ := v
  have h1 : v1 = hRem (gO σ) (gC σ) (gS σ) (gL σ) := h1
  have h2 : v2 = L := h2
  subst h1
  subst h2
  rw [fAct_0 hF]
  exact ⟨hr, rfl⟩
def fCome (f di : Int32) (κ : zCo) : Int32 × zCo := fAct (sfCome (zN (kL κ)) f di) (nI (zN (kL κ))) (sCome (kL κ) (zN (kL κ)) f di) κ
set_option maxHeartbeats 2000000 in
theorem c_F_tryCome (l : Launch) (G : zk_G) (hst : l.stackTraces = false) (a : zA) (σ : zSt) (hok : yOk σ) (f di : Int32) : zk_IH (S := zSt) l yL_tryCome wsL_tryCome rmL_tryCome G [.ref a.1, .int f, .int di] (zw G a σ) (fun r σ' => (r = (fCome f di (core σ)).1 ∧ core σ' = (fCome f di (core σ)).2) ∧ zTx σ') (zw G a) := by
  obtain ⟨hT, hI, ho, hcn⟩ := hok
  refine zk_conseq (c_L_tryCome l G hst a (gL σ) (zN (gL σ)) (zT (gL σ)) hI f di (gS σ) (gO σ) (gC σ) ho hcn) (zw_1 G a σ) (fun r u hu => ?_)
  cases u with
  | none =>
    obtain ⟨E, hE, hc⟩ := hu
    exact ⟨σ, ⟨q_none hE hc _ _ _, hT⟩, fun H A hP hD => ⟨zk_Pperm hP (zw_1 G a σ).symm, zk_Dperm hD (zw_1 G a σ).symm⟩⟩
  | some v =>
    obtain ⟨hF, hr, h1, h2⟩ := hu
    exact ⟨zAft σ v, ⟨q_some hF hr h1 h2, hT⟩, fun H A hP hD => ⟨zk_Pperm hP (zw_1 G a (zAft σ v)).symm, zk_Dperm hD (zw_1 G a (zAft σ v)).symm⟩⟩
def fMenu (d mn : Int32) (κ : zCo) : Int32 × zCo := fAct (sfMenu (zT (kL κ)) d mn) ((kL κ) 6 d.toNatClampNeg) (up2 (kL κ) 6 d.toNatClampNeg mn) κ
set_option maxHeartbeats 2000000 in
theorem c_F_tryMenu (l : Launch) (G : zk_G) (hst : l.stackTraces = false) (a : zA) (σ : zSt) (hok : yOk σ) (d mn : Int32) : zk_IH (S := zSt) l yL_tryMenu wsL_tryMenu rmL_tryMenu G [.ref a.1, .int d, .int mn] (zw G a σ) (fun r σ' => (r = (fMenu d mn (core σ)).1 ∧ core σ' = (fMenu d mn (core σ)).2) ∧ zTx σ') (zw G a) := by
  obtain ⟨hT, hI, ho, hcn⟩ := hok
  refine zk_conseq (c_L_tryMenu l G hst a (gL σ) (zN (gL σ)) (zT (gL σ)) hI d mn (gS σ) (gO σ) (gC σ) ho hcn) (zw_1 G a σ) (fun r u hu => ?_)
  cases u with
  | none =>
    obtain ⟨E, hE, hc⟩ := hu
    exact ⟨σ, ⟨q_none hE hc _ _ _, hT⟩, fun H A hP hD => ⟨zk_Pperm hP (zw_1 G a σ).symm, zk_Dperm hD (zw_1 G a σ).symm⟩⟩
  | some v =>
    obtain ⟨hF, hr, h1, h2⟩ := hu
    exact ⟨zAft σ v, ⟨q_some hF hr h1 h2, hT⟩, fun H A hP hD => ⟨zk_Pperm hP (zw_1 G a (zAft σ v)).symm, zk_Dperm hD (zw_1 G a (zAft σ v)).symm⟩⟩
def fOrder (c d b : Int32) (κ : zCo) : Int32 × zCo := fAct (sfOrder (kL κ) (zT (kL κ)) c d) (sOrdN (sOrd (kL κ) (c.toNatClampNeg * 40 + d.toNatClampNeg) b) d.toNatClampNeg) (sOrd (kL κ) (c.toNatClampNeg * 40 + d.toNatClampNeg) b) κ
set_option maxHeartbeats 2000000 in
theorem c_F_tryOrder (l : Launch) (G : zk_G) (hst : l.stackTraces = false) (a : zA) (σ : zSt) (hok : yOk σ) (c d b : Int32) : zk_IH (S := zSt) l yL_tryOrder wsL_tryOrder rmL_tryOrder G [.ref a.1, .int c, .int d, .int b] (zw G a σ) (fun r σ' => (r = (fOrder c d b (core σ)).1 ∧ core σ' = (fOrder c d b (core σ)).2) ∧ zTx σ') (zw G a) := by
  obtain ⟨hT, hI, ho, hcn⟩ := hok
  refine zk_conseq (c_L_tryOrder l G hst a (gL σ) (zN (gL σ)) (zT (gL σ)) hI c d b (gS σ) (gO σ) (gC σ) ho hcn) (zw_1 G a σ) (fun r u hu => ?_)
  cases u with
  | none =>
    obtain ⟨E, hE, hc⟩ := hu
    exact ⟨σ, ⟨q_none hE hc _ _ _, hT⟩, fun H A hP hD => ⟨zk_Pperm hP (zw_1 G a σ).symm, zk_Dperm hD (zw_1 G a σ).symm⟩⟩
  | some v =>
    obtain ⟨hF, hr, h1, h2⟩ := hu
    exact ⟨zAft σ v, ⟨q_some hF (hr.trans (by rw [h2]; try rfl)) h1 h2, hT⟩, fun H A hP hD => ⟨zk_Pperm hP (zw_1 G a (zAft σ v)).symm, zk_Dperm hD (zw_1 G a (zAft σ v)).symm⟩⟩
def fPay (c am : Int32) (κ : zCo) : Int32 × zCo := fAct (sfPay (kL κ) c am) ((sPay (kL κ) c.toNatClampNeg am) 3 c.toNatClampNeg) (sPay (kL κ) c.toNatClampNeg am) κ
set_option maxHeartbeats 2000000 in
theorem c_F_tryPay (l : Launch) (G : zk_G) (hst : l.stackTraces = false) (a : zA) (σ : zSt) (hok : yOk σ) (c am : Int32) : zk_IH (S := zSt) l yL_tryPay wsL_tryPay rmL_tryPay G [.ref a.1, .int c, .int am] (zw G a σ) (fun r σ' => (r = (fPay c am (core σ)).1 ∧ core σ' = (fPay c am (core σ)).2) ∧ zTx σ') (zw G a) := by
  obtain ⟨hT, hI, ho, hcn⟩ := hok
  refine zk_conseq (c_L_tryPay l G hst a (gL σ) (zN (gL σ)) (zT (gL σ)) hI c am (gS σ) (gO σ) (gC σ) ho hcn) (zw_1 G a σ) (fun r u hu => ?_)
  cases u with
  | none =>
    obtain ⟨E, hE, hc⟩ := hu
    exact ⟨σ, ⟨q_none hE hc _ _ _, hT⟩, fun H A hP hD => ⟨zk_Pperm hP (zw_1 G a σ).symm, zk_Dperm hD (zw_1 G a σ).symm⟩⟩
  | some v =>
    obtain ⟨hF, hr, h1, h2⟩ := hu
    exact ⟨zAft σ v, ⟨q_some hF (hr.trans (by rw [h2]; try rfl)) h1 h2, hT⟩, fun H A hP hD => ⟨zk_Pperm hP (zw_1 G a (zAft σ v)).symm, zk_Dperm hD (zw_1 G a (zAft σ v)).symm⟩⟩
def fMove (c ot am : Int32) (κ : zCo) : Int32 × zCo := fAct (sfMove (kL κ) c ot am) ((sMove (kL κ) c.toNatClampNeg ot.toNatClampNeg am) 3 c.toNatClampNeg) (sMove (kL κ) c.toNatClampNeg ot.toNatClampNeg am) κ
set_option maxHeartbeats 2000000 in
theorem c_F_tryMove (l : Launch) (G : zk_G) (hst : l.stackTraces = false) (a : zA) (σ : zSt) (hok : yOk σ) (c ot am : Int32) : zk_IH (S := zSt) l yL_tryMove wsL_tryMove rmL_tryMove G [.ref a.1, .int c, .int ot, .int am] (zw G a σ) (fun r σ' => (r = (fMove c ot am (core σ)).1 ∧ core σ' = (fMove c ot am (core σ)).2) ∧ zTx σ') (zw G a) := by
  obtain ⟨hT, hI, ho, hcn⟩ := hok
  refine zk_conseq (c_L_tryMove l G hst a (gL σ) (zN (gL σ)) (zT (gL σ)) hI c ot am (gS σ) (gO σ) (gC σ) ho hcn) (zw_1 G a σ) (fun r u hu => ?_)
  cases u with
  | none =>
    obtain ⟨E, hE, hc⟩ := hu
    exact ⟨σ, ⟨q_none hE hc _ _ _, hT⟩, fun H A hP hD => ⟨zk_Pperm hP (zw_1 G a σ).symm, zk_Dperm hD (zw_1 G a σ).symm⟩⟩
  | some v =>
    obtain ⟨hF, hr, h1, h2⟩ := hu
    exact ⟨zAft σ v, ⟨q_some hF (hr.trans (by rw [h2]; try rfl)) h1 h2, hT⟩, fun H A hP hD => ⟨zk_Pperm hP (zw_1 G a (zAft σ v)).symm, zk_Dperm hD (zw_1 G a (zAft σ v)).symm⟩⟩
def fShare (f b : Int32) (κ : zCo) : Int32 × zCo := fAct (sfShare f) (sSumOf (sShare (kL κ) f.toNatClampNeg b) (zN (kL κ)) f) (sShare (kL κ) f.toNatClampNeg b) κ
set_option maxHeartbeats 2000000 in
theorem c_F_tryShare (l : Launch) (G : zk_G) (hst : l.stackTraces = false) (a : zA) (σ : zSt) (hok : yOk σ) (f b : Int32) : zk_IH (S := zSt) l yL_tryShare wsL_tryShare rmL_tryShare G [.ref a.1, .int f, .int b] (zw G a σ) (fun r σ' => (r = (fShare f b (core σ)).1 ∧ core σ' = (fShare f b (core σ)).2) ∧ zTx σ') (zw G a) := by
  obtain ⟨hT, hI, ho, hcn⟩ := hok
  refine zk_conseq (c_L_tryShare l G hst a (gL σ) (zN (gL σ)) (zT (gL σ)) hI f b (gS σ) (gO σ) (gC σ) ho hcn) (zw_1 G a σ) (fun r u hu => ?_)
  cases u with
  | none =>
    obtain ⟨E, hE, hc⟩ := hu
    exact ⟨σ, ⟨q_none hE hc _ _ _, hT⟩, fun H A hP hD => ⟨zk_Pperm hP (zw_1 G a σ).symm, zk_Dperm hD (zw_1 G a σ).symm⟩⟩
  | some v =>
    obtain ⟨hF, hr, h1, h2⟩ := hu
    exact ⟨zAft σ v, ⟨q_some hF (hr.trans (by rw [h2]; try rfl)) h1 h2, hT⟩, fun H A hP hD => ⟨zk_Pperm hP (zw_1 G a (zAft σ v)).symm, zk_Dperm hD (zw_1 G a (zAft σ v)).symm⟩⟩
def fEntitle (c fr to : Int32) (κ : zCo) : Int32 × zCo := fAct (sfEnt (kL κ) c fr to) (zs ((sEntitle (kL κ) (zT (kL κ)) c.toNatClampNeg fr to) 3) (zN (kL κ)) - zs ((kL κ) 3) (zN (kL κ))) (sEntitle (kL κ) (zT (kL κ)) c.toNatClampNeg fr to) κ
set_option maxHeartbeats 2000000 in
theorem c_F_tryEntitle (l : Launch) (G : zk_G) (hst : l.stackTraces = false) (a : zA) (σ : zSt) (hok : yOk σ) (c fr to : Int32) : zk_IH (S := zSt) l yL_tryEntitle wsL_tryEntitle rmL_tryEntitle G [.ref a.1, .int c, .int fr, .int to] (zw G a σ) (fun r σ' => (r = (fEntitle c fr to (core σ)).1 ∧ core σ' = (fEntitle c fr to (core σ)).2) ∧ zTx σ') (zw G a) := by
  obtain ⟨hT, hI, ho, hcn⟩ := hok
  refine zk_conseq (c_L_tryEntitle l G hst a (gL σ) (zN (gL σ)) (zT (gL σ)) hI c fr to (gS σ) (gO σ) (gC σ) ho hcn) (zw_1 G a σ) (fun r u hu => ?_)
  cases u with
  | none =>
    obtain ⟨E, hE, hc⟩ := hu
    exact ⟨σ, ⟨q_none hE hc _ _ _, hT⟩, fun H A hP hD => ⟨zk_Pperm hP (zw_1 G a σ).symm, zk_Dperm hD (zw_1 G a σ).symm⟩⟩
  | some v =>
    obtain ⟨hF, hr, h1, h2⟩ := hu
    exact ⟨zAft σ v, ⟨q_some hF (hr.trans (by rw [h2]; try rfl)) h1 h2, hT⟩, fun H A hP hD => ⟨zk_Pperm hP (zw_1 G a (zAft σ v)).symm, zk_Dperm hD (zw_1 G a (zAft σ v)).symm⟩⟩
def fWriteOff (f : Int32) (κ : zCo) : Int32 × zCo := fAct (sfOff (kL κ) (zN (kL κ)) f) (sDebt (kL κ) (zN (kL κ)) f) (sWrite (kL κ) (zN (kL κ)) f.toNatClampNeg) κ
set_option maxHeartbeats 2000000 in
theorem c_F_tryWriteOff (l : Launch) (G : zk_G) (hst : l.stackTraces = false) (a : zA) (σ : zSt) (hok : yOk σ) (f : Int32) : zk_IH (S := zSt) l yL_tryWriteOff wsL_tryWriteOff rmL_tryWriteOff G [.ref a.1, .int f] (zw G a σ) (fun r σ' => (r = (fWriteOff f (core σ)).1 ∧ core σ' = (fWriteOff f (core σ)).2) ∧ zTx σ') (zw G a) := by
  obtain ⟨hT, hI, ho, hcn⟩ := hok
  refine zk_conseq (c_L_tryWriteOff l G hst a (gL σ) (zN (gL σ)) (zT (gL σ)) hI f (gS σ) (gO σ) (gC σ) ho hcn) (zw_1 G a σ) (fun r u hu => ?_)
  cases u with
  | none =>
    obtain ⟨E, hE, hc⟩ := hu
    exact ⟨σ, ⟨q_none hE hc _ _ _, hT⟩, fun H A hP hD => ⟨zk_Pperm hP (zw_1 G a σ).symm, zk_Dperm hD (zw_1 G a σ).symm⟩⟩
  | some v =>
    obtain ⟨hF, hr, h1, h2⟩ := hu
    exact ⟨zAft σ v, ⟨q_some hF hr h1 h2, hT⟩, fun H A hP hD => ⟨zk_Pperm hP (zw_1 G a (zAft σ v)).symm, zk_Dperm hD (zw_1 G a (zAft σ v)).symm⟩⟩
def fDays (k : Int32) (κ : zCo) : Int32 × zCo := fAct (sfDays (zT (kL κ)) k) ((sDays (zN (kL κ)) (zT (kL κ)) k.toNatClampNeg (kL κ)).1) ((sDays (zN (kL κ)) (zT (kL κ)) k.toNatClampNeg (kL κ)).2) κ
set_option maxHeartbeats 2000000 in
theorem c_F_tryDays (l : Launch) (G : zk_G) (hst : l.stackTraces = false) (a : zA) (σ : zSt) (hok : yOk σ) (k : Int32) : zk_IH (S := zSt) l yL_tryDays wsL_tryDays rmL_tryDays G [.ref a.1, .int k] (zw G a σ) (fun r σ' => (r = (fDays k (core σ)).1 ∧ core σ' = (fDays k (core σ)).2) ∧ zTx σ') (zw G a) := by
  obtain ⟨hT, hI, ho, hcn⟩ := hok
  refine zk_conseq (c_L_tryDays l G hst a (gL σ) (zN (gL σ)) (zT (gL σ)) hI k (gS σ) (gO σ) (gC σ) ho hcn) (zw_1 G a σ) (fun r u hu => ?_)
  cases u with
  | none =>
    obtain ⟨E, hE, hc⟩ := hu
    exact ⟨σ, ⟨q_none hE hc _ _ _, hT⟩, fun H A hP hD => ⟨zk_Pperm hP (zw_1 G a σ).symm, zk_Dperm hD (zw_1 G a σ).symm⟩⟩
  | some v =>
    obtain ⟨hF, hr, h1, h2⟩ := hu
    exact ⟨zAft σ v, ⟨q_some hF hr h1 h2, hT⟩, fun H A hP hD => ⟨zk_Pperm hP (zw_1 G a (zAft σ v)).symm, zk_Dperm hD (zw_1 G a (zAft σ v)).symm⟩⟩
def fSet (w v : Int32) (κ : zCo) : Int32 × zCo := fAct (sfSet w v) ((if w = 0 then (kL κ) 0 2 else (kL κ) 0 3)) (sSet (kL κ) w v) κ
set_option maxHeartbeats 2000000 in
theorem c_F_trySet (l : Launch) (G : zk_G) (hst : l.stackTraces = false) (a : zA) (σ : zSt) (hok : yOk σ) (w v : Int32) : zk_IH (S := zSt) l yL_trySet wsL_trySet rmL_trySet G [.ref a.1, .int w, .int v] (zw G a σ) (fun r σ' => (r = (fSet w v (core σ)).1 ∧ core σ' = (fSet w v (core σ)).2) ∧ zTx σ') (zw G a) := by
  obtain ⟨hT, hI, ho, hcn⟩ := hok
  refine zk_conseq (c_L_trySet l G hst a (gL σ) (zN (gL σ)) (zT (gL σ)) hI w v (gS σ) (gO σ) (gC σ) ho hcn) (zw_1 G a σ) (fun r u hu => ?_)
  cases u with
  | none =>
    obtain ⟨E, hE, hc⟩ := hu
    exact ⟨σ, ⟨q_none hE hc _ _ _, hT⟩, fun H A hP hD => ⟨zk_Pperm hP (zw_1 G a σ).symm, zk_Dperm hD (zw_1 G a σ).symm⟩⟩
  | some v =>
    obtain ⟨hF, hr, h1, h2⟩ := hu
    exact ⟨zAft σ v, ⟨q_some hF hr h1 h2, hT⟩, fun H A hP hD => ⟨zk_Pperm hP (zw_1 G a (zAft σ v)).symm, zk_Dperm hD (zw_1 G a (zAft σ v)).symm⟩⟩
noncomputable def fAbout (L : zL) (w : Int32) : Int32 := zIf (zIn w 12) (xAbout L (zN L) (zT L) w) (-9999002)
set_option maxHeartbeats 2000000 in
theorem c_F_tryAbout (l : Launch) (G : zk_G) (hst : l.stackTraces = false) (a : zA) (σ : zSt) (hok : yOk σ) (w : Int32) : zk_IH (S := zSt) l yL_tryAbout wsL_tryAbout rmL_tryAbout G [.ref a.1, .int w] (zw G a σ) (fun r σ' => (r = fAbout (kL (core σ)) w ∧ core σ' = core σ) ∧ zTx σ') (zw G a) := by
  obtain ⟨hT, hI, ho, hcn⟩ := hok
  refine zk_conseq (c_L_tryAbout l G hst a (gL σ) (zN (gL σ)) (zT (gL σ)) hI w) (zw_2 G a σ) (fun r u hu => ?_)
  cases u with
  | none =>
    obtain ⟨E, ⟨rfl, hno⟩, hc⟩ := hu
    exact ⟨σ, ⟨⟨(hc.2.1 rfl).trans (zIf_f hno).symm, rfl⟩, hT⟩, fun H A hP hD => ⟨zk_Pperm hP (zw_2 G a σ).symm, zk_Dperm hD (zw_2 G a σ).symm⟩⟩
  | some v =>
    obtain ⟨h1, h2⟩ := hu
    exact ⟨σ, ⟨⟨h2.trans (zIf_t h1).symm, rfl⟩, hT⟩, fun H A hP hD => ⟨zk_Pperm hP (zw_2 G a σ).symm, zk_Dperm hD (zw_2 G a σ).symm⟩⟩
noncomputable def fChild (L : zL) (c w : Int32) : Int32 := zIf (sHas L c) (zIf (zIn w 9) (xChild L (zN L) (zT L) c.toNatClampNeg w) (-9999002)) (-9999001)
set_option maxHeartbeats 2000000 in
theorem c_F_tryChild (l : Launch) (G : zk_G) (hst : l.stackTraces = false) (a : zA) (σ : zSt) (hok : yOk σ) (c w : Int32) : zk_IH (S := zSt) l yL_tryChild wsL_tryChild rmL_tryChild G [.ref a.1, .int c, .int w] (zw G a σ) (fun r σ' => (r = fChild (kL (core σ)) c w ∧ core σ' = core σ) ∧ zTx σ') (zw G a) := by
  obtain ⟨hT, hI, ho, hcn⟩ := hok
  refine zk_conseq (c_L_tryChild l G hst a (gL σ) (zN (gL σ)) (zT (gL σ)) hI c w) (zw_2 G a σ) (fun r u hu => ?_)
  cases u with
  | none =>
    obtain ⟨E, ⟨rfl, hno⟩ | ⟨rfl, h1, hno⟩, hc⟩ := hu
    · exact ⟨σ, ⟨⟨(hc.1 rfl).trans (zIf_f hno).symm, rfl⟩, hT⟩, fun H A hP hD => ⟨zk_Pperm hP (zw_2 G a σ).symm, zk_Dperm hD (zw_2 G a σ).symm⟩⟩
    · exact ⟨σ, ⟨⟨(hc.2.1 rfl).trans ((zIf_t h1).trans (zIf_f hno)).symm, rfl⟩, hT⟩, fun H A hP hD => ⟨zk_Pperm hP (zw_2 G a σ).symm, zk_Dperm hD (zw_2 G a σ).symm⟩⟩
  | some v =>
    obtain ⟨h1, h3, h4⟩ := hu
    exact ⟨σ, ⟨⟨h4.trans ((zIf_t h1).trans (zIf_t h3)).symm, rfl⟩, hT⟩, fun H A hP hD => ⟨zk_Pperm hP (zw_2 G a σ).symm, zk_Dperm hD (zw_2 G a σ).symm⟩⟩
noncomputable def fFamily (L : zL) (f w : Int32) : Int32 := zIf (sFam f) (zIf (zIn w 5) (xFamily L (zN L) (zT L) f.toNatClampNeg w) (-9999002)) (-9999001)
set_option maxHeartbeats 2000000 in
theorem c_F_tryFamily (l : Launch) (G : zk_G) (hst : l.stackTraces = false) (a : zA) (σ : zSt) (hok : yOk σ) (f w : Int32) : zk_IH (S := zSt) l yL_tryFamily wsL_tryFamily rmL_tryFamily G [.ref a.1, .int f, .int w] (zw G a σ) (fun r σ' => (r = fFamily (kL (core σ)) f w ∧ core σ' = core σ) ∧ zTx σ') (zw G a) := by
  obtain ⟨hT, hI, ho, hcn⟩ := hok
  refine zk_conseq (c_L_tryFamily l G hst a (gL σ) (zN (gL σ)) (zT (gL σ)) hI f w) (zw_2 G a σ) (fun r u hu => ?_)
  cases u with
  | none =>
    obtain ⟨E, ⟨rfl, hno⟩ | ⟨rfl, h1, hno⟩, hc⟩ := hu
    · exact ⟨σ, ⟨⟨(hc.1 rfl).trans (zIf_f hno).symm, rfl⟩, hT⟩, fun H A hP hD => ⟨zk_Pperm hP (zw_2 G a σ).symm, zk_Dperm hD (zw_2 G a σ).symm⟩⟩
    · exact ⟨σ, ⟨⟨(hc.2.1 rfl).trans ((zIf_t h1).trans (zIf_f hno)).symm, rfl⟩, hT⟩, fun H A hP hD => ⟨zk_Pperm hP (zw_2 G a σ).symm, zk_Dperm hD (zw_2 G a σ).symm⟩⟩
  | some v =>
    obtain ⟨h1, h3, h4⟩ := hu
    exact ⟨σ, ⟨⟨h4.trans ((zIf_t h1).trans (zIf_t h3)).symm, rfl⟩, hT⟩, fun H A hP hD => ⟨zk_Pperm hP (zw_2 G a σ).symm, zk_Dperm hD (zw_2 G a σ).symm⟩⟩
noncomputable def fDay (L : zL) (d w : Int32) : Int32 := zIf (sDay d) (zIf (zIn w 4) (xDay L (zN L) (zT L) d.toNatClampNeg w) (-9999002)) (-9999001)
set_option maxHeartbeats 2000000 in
theorem c_F_tryDay (l : Launch) (G : zk_G) (hst : l.stackTraces = false) (a : zA) (σ : zSt) (hok : yOk σ) (d w : Int32) : zk_IH (S := zSt) l yL_tryDay wsL_tryDay rmL_tryDay G [.ref a.1, .int d, .int w] (zw G a σ) (fun r σ' => (r = fDay (kL (core σ)) d w ∧ core σ' = core σ) ∧ zTx σ') (zw G a) := by
  obtain ⟨hT, hI, ho, hcn⟩ := hok
  refine zk_conseq (c_L_tryDay l G hst a (gL σ) (zN (gL σ)) (zT (gL σ)) hI d w) (zw_2 G a σ) (fun r u hu => ?_)
  cases u with
  | none =>
    obtain ⟨E, ⟨rfl, hno⟩ | ⟨rfl, h1, hno⟩, hc⟩ := hu
    · exact ⟨σ, ⟨⟨(hc.1 rfl).trans (zIf_f hno).symm, rfl⟩, hT⟩, fun H A hP hD => ⟨zk_Pperm hP (zw_2 G a σ).symm, zk_Dperm hD (zw_2 G a σ).symm⟩⟩
    · exact ⟨σ, ⟨⟨(hc.2.1 rfl).trans ((zIf_t h1).trans (zIf_f hno)).symm, rfl⟩, hT⟩, fun H A hP hD => ⟨zk_Pperm hP (zw_2 G a σ).symm, zk_Dperm hD (zw_2 G a σ).symm⟩⟩
  | some v =>
    obtain ⟨h1, h3, h4⟩ := hu
    exact ⟨σ, ⟨⟨h4.trans ((zIf_t h1).trans (zIf_t h3)).symm, rfl⟩, hT⟩, fun H A hP hD => ⟨zk_Pperm hP (zw_2 G a σ).symm, zk_Dperm hD (zw_2 G a σ).symm⟩⟩
noncomputable def fMeal (L : zL) (c d w : Int32) : Int32 := zIf (sHas L c ∧ sDay d) (zIf (zIn w 3) (xMeal L (zN L) (zT L) c.toNatClampNeg d.toNatClampNeg w) (-9999002)) (-9999001)
set_option maxHeartbeats 2000000 in
theorem c_F_tryMeal (l : Launch) (G : zk_G) (hst : l.stackTraces = false) (a : zA) (σ : zSt) (hok : yOk σ) (c d w : Int32) : zk_IH (S := zSt) l yL_tryMeal wsL_tryMeal rmL_tryMeal G [.ref a.1, .int c, .int d, .int w] (zw G a σ) (fun r σ' => (r = fMeal (kL (core σ)) c d w ∧ core σ' = core σ) ∧ zTx σ') (zw G a) := by
  obtain ⟨hT, hI, ho, hcn⟩ := hok
  refine zk_conseq (c_L_tryMeal l G hst a (gL σ) (zN (gL σ)) (zT (gL σ)) hI c d w) (zw_2 G a σ) (fun r u hu => ?_)
  cases u with
  | none =>
    obtain ⟨E, ⟨rfl, hno⟩ | ⟨rfl, h1, h2, hno⟩, hc⟩ := hu
    · exact ⟨σ, ⟨⟨(hc.1 rfl).trans (zIf_f hno).symm, rfl⟩, hT⟩, fun H A hP hD => ⟨zk_Pperm hP (zw_2 G a σ).symm, zk_Dperm hD (zw_2 G a σ).symm⟩⟩
    · exact ⟨σ, ⟨⟨(hc.2.1 rfl).trans ((zIf_t ⟨h1, h2⟩).trans (zIf_f hno)).symm, rfl⟩, hT⟩, fun H A hP hD => ⟨zk_Pperm hP (zw_2 G a σ).symm, zk_Dperm hD (zw_2 G a σ).symm⟩⟩
  | some v =>
    obtain ⟨h1, h2, h3, h4⟩ := hu
    exact ⟨σ, ⟨⟨h4.trans ((zIf_t ⟨h1, h2⟩).trans (zIf_t h3)).symm, rfl⟩, hT⟩, fun H A hP hD => ⟨zk_Pperm hP (zw_2 G a σ).symm, zk_Dperm hD (zw_2 G a σ).symm⟩⟩
noncomputable def fSetting (L : zL) (w : Int32) : Int32 := zIf (zIn w 2) (xSetting L (zN L) (zT L) w) (-9999002)
set_option maxHeartbeats 2000000 in
theorem c_F_trySetting (l : Launch) (G : zk_G) (hst : l.stackTraces = false) (a : zA) (σ : zSt) (hok : yOk σ) (w : Int32) : zk_IH (S := zSt) l yL_trySetting wsL_trySetting rmL_trySetting G [.ref a.1, .int w] (zw G a σ) (fun r σ' => (r = fSetting (kL (core σ)) w ∧ core σ' = core σ) ∧ zTx σ') (zw G a) := by
  obtain ⟨hT, hI, ho, hcn⟩ := hok
  refine zk_conseq (c_L_trySetting l G hst a (gL σ) (zN (gL σ)) (zT (gL σ)) hI w) (zw_2 G a σ) (fun r u hu => ?_)
  cases u with
  | none =>
    obtain ⟨E, ⟨rfl, hno⟩, hc⟩ := hu
    exact ⟨σ, ⟨⟨(hc.2.1 rfl).trans (zIf_f hno).symm, rfl⟩, hT⟩, fun H A hP hD => ⟨zk_Pperm hP (zw_2 G a σ).symm, zk_Dperm hD (zw_2 G a σ).symm⟩⟩
  | some v =>
    obtain ⟨h1, h2⟩ := hu
    exact ⟨σ, ⟨⟨h2.trans (zIf_t h1).symm, rfl⟩, hT⟩, fun H A hP hD => ⟨zk_Pperm hP (zw_2 G a σ).symm, zk_Dperm hD (zw_2 G a σ).symm⟩⟩
abbrev zTr (σ : zSt) (Z : zL) : zSt := (gT σ, gL σ, Z, gV σ, gB σ, gS σ, gO σ, gC σ, gN σ)
noncomputable def fRefused (L : zL) (c : Int32) : Int32 := zIf (sHas L c) (sOpt (sSp L (zN L) (zT L) (L 1 c.toNatClampNeg) c 40).1) (-9999001)
def qNeeds (L : zL) (f r : Int32) : Prop := (sFam f → ((∃ lo, lo < zN L ∧ L 1 lo = f ∧ (∀ j, j < lo → ¬ L 1 j = f) ∧ ((∃ k, k ≤ 200 ∧ r = nI (100 * k) ∧ nTry L (zN L) (zT L) f lo k ∧ ∀ j, j < k → ¬ nTry L (zN L) (zT L) f lo j) ∨ (r = -1 ∧ ∀ j, j < 201 → ¬ nTry L (zN L) (zT L) f lo j))) ∨ (r = -1 ∧ ∀ j, j < zN L → ¬ L 1 j = f))) ∧ (¬ sFam f → r = -9999001)
def fIfEnt (L : zL) (c fr to : Int32) : Int32 := if sfEnt L c fr to = nI 1 then -9999001 else if sfEnt L c fr to = nI 2 then -9999002 else if sfEnt L c fr to = nI 3 then -9999003 else zs (sEntitle L (zT L) c.toNatClampNeg fr to 3) (zN L) - zs (L 3) (zN L)
noncomputable def fIfPrice (L : zL) (pr : Int32) : Int32 := zIf (¬ pr < nI 1 ∧ ¬ nI 999 < pr) (sDays (zN L) (zT L) (40 - zT L) (up2 L 0 2 pr)).1 (-9999002)
noncomputable def fScript (L : zL) (nn : Int32) (sc : Int64) : Int32 := zIf (¬ nn < nI 1 ∧ ¬ nI 3 < nn ∧ ¬ sc < lN 0 ∧ ¬ lN 0 < wLg sc nn.toNatClampNeg) (sOpt (rRun L sc nn.toNatClampNeg nn.toNatClampNeg).1) (-9999002)
noncomputable def fSim (L : zL) (seed : Int64) (mm : Int32) : Int32 := zIf (¬ mm < nI 1 ∧ ¬ nI 99 < mm) (nI 1000 * (mSrv (mRun L seed mm.toNatClampNeg).2 - mSrv L) + (mRef (mRun L seed mm.toNatClampNeg).2 - mRef L)) (-9999002)
set_option maxHeartbeats 2000000 in
theorem c_F_tryRefusedOn (l : Launch) (G : zk_G) (hst : l.stackTraces = false) (a : zA) (σ : zSt) (hok : yOk σ) (c : Int32) : zk_IH (S := zSt) l yL_tryRefusedOn wsL_tryRefusedOn rmL_tryRefusedOn G [.ref a.1, .int c] (zw G a σ) (fun r σ' => (r = fRefused (kL (core σ)) c ∧ core σ' = core σ) ∧ zTx σ') (zw G a) := by
  obtain ⟨hT, hI, ho, hcn⟩ := hok
  refine zk_conseq (c_L_tryRefusedOn l G hst a (gL σ) (zN (gL σ)) (zT (gL σ)) hI c (gZ σ)) (zw_3 G a σ) (fun r u hu => ?_)
  cases u with
  | none =>
    obtain ⟨E, ⟨rfl, hno⟩, hc⟩ := hu
    exact ⟨σ, ⟨⟨(hc.1 rfl).trans (zIf_f hno).symm, rfl⟩, hT⟩, fun H A hP hD => ⟨zk_Pperm hP (zw_3 G a σ).symm, zk_Dperm hD (zw_3 G a σ).symm⟩⟩
  | some v =>
    obtain ⟨h1, h2⟩ := hu
    exact ⟨zTr σ v, ⟨⟨h2.trans (zIf_t h1).symm, rfl⟩, hT⟩, fun H A hP hD => ⟨zk_Pperm hP (zw_3 G a (zTr σ v)).symm, zk_Dperm hD (zw_3 G a (zTr σ v)).symm⟩⟩
set_option maxHeartbeats 2000000 in
theorem c_F_tryNeeds (l : Launch) (G : zk_G) (hst : l.stackTraces = false) (a : zA) (σ : zSt) (hok : yOk σ) (f : Int32) : zk_IH (S := zSt) l yL_tryNeeds wsL_tryNeeds rmL_tryNeeds G [.ref a.1, .int f] (zw G a σ) (fun r σ' => (qNeeds (kL (core σ)) f r ∧ core σ' = core σ) ∧ zTx σ') (zw G a) := by
  obtain ⟨hT, hI, ho, hcn⟩ := hok
  refine zk_conseq (c_L_tryNeeds l G hst a (gL σ) (zN (gL σ)) (zT (gL σ)) hI f (gZ σ)) (zw_3 G a σ) (fun r u hu => ?_)
  cases u with
  | none =>
    obtain ⟨E, ⟨rfl, hno⟩, hc⟩ := hu
    exact ⟨σ, ⟨⟨⟨fun z => absurd z hno, fun _ => hc.1 rfl⟩, rfl⟩, hT⟩, fun H A hP hD => ⟨zk_Pperm hP (zw_3 G a σ).symm, zk_Dperm hD (zw_3 G a σ).symm⟩⟩
  | some v =>
    obtain ⟨h1, h2⟩ := hu
    exact ⟨zTr σ v, ⟨⟨⟨fun _ => h2, fun z => absurd h1 z⟩, rfl⟩, hT⟩, fun H A hP hD => ⟨zk_Pperm hP (zw_3 G a (zTr σ v)).symm, zk_Dperm hD (zw_3 G a (zTr σ v)).symm⟩⟩
set_option maxHeartbeats 2000000 in
theorem c_F_tryIfEntitled (l : Launch) (G : zk_G) (hst : l.stackTraces = false) (a : zA) (σ : zSt) (hok : yOk σ) (c fr to : Int32) : zk_IH (S := zSt) l yL_tryIfEntitled wsL_tryIfEntitled rmL_tryIfEntitled G [.ref a.1, .int c, .int fr, .int to] (zw G a σ) (fun r σ' => (r = fIfEnt (kL (core σ)) c fr to ∧ core σ' = core σ) ∧ zTx σ') (zw G a) := by
  obtain ⟨hT, hI, ho, hcn⟩ := hok
  refine zk_conseq (c_L_tryIfEntitled l G hst a (gL σ) (zN (gL σ)) (zT (gL σ)) hI c fr to (gZ σ)) (zw_3 G a σ) (fun r u hu => ?_)
  cases u with
  | none =>
    obtain ⟨E, hE, hc⟩ := hu
    refine ⟨σ, ⟨⟨?_, rfl⟩, hT⟩, fun H A hP hD => ⟨zk_Pperm hP (zw_3 G a σ).symm, zk_Dperm hD (zw_3 G a σ).symm⟩⟩
    unfold fIfEnt
    rcases hE with ⟨rfl, h⟩ | ⟨rfl, h⟩ | ⟨rfl, h⟩
    · have h : sfEnt (kL (core σ)) c fr to = nI 1 := h
      rw [if_pos h]; exact hc.1 rfl
    · have h : sfEnt (kL (core σ)) c fr to = nI 2 := h
      rw [if_neg (by rw [h]; decide), if_pos h]; exact hc.2.1 rfl
    · have h : sfEnt (kL (core σ)) c fr to = nI 3 := h
      rw [if_neg (by rw [h]; decide), if_neg (by rw [h]; decide), if_pos h]; exact hc.2.2 rfl
  | some v =>
    obtain ⟨h1, h2⟩ := hu
    refine ⟨zTr σ v, ⟨⟨?_, rfl⟩, hT⟩, fun H A hP hD => ⟨zk_Pperm hP (zw_3 G a (zTr σ v)).symm, zk_Dperm hD (zw_3 G a (zTr σ v)).symm⟩⟩
    have h1 : sfEnt (kL (core σ)) c fr to = 0 := h1
    unfold fIfEnt
    rw [if_neg (by rw [h1]; decide), if_neg (by rw [h1]; decide), if_neg (by rw [h1]; decide)]
    exact h2
set_option maxHeartbeats 2000000 in
theorem c_F_tryIfPrice (l : Launch) (G : zk_G) (hst : l.stackTraces = false) (a : zA) (σ : zSt) (hok : yOk σ) (pr : Int32) : zk_IH (S := zSt) l yL_tryIfPrice wsL_tryIfPrice rmL_tryIfPrice G [.ref a.1, .int pr] (zw G a σ) (fun r σ' => (r = fIfPrice (kL (core σ)) pr ∧ core σ' = core σ) ∧ zTx σ') (zw G a) := by
  obtain ⟨hT, hI, ho, hcn⟩ := hok
  refine zk_conseq (c_L_tryIfPrice l G hst a (gL σ) (zN (gL σ)) (zT (gL σ)) hI pr (gZ σ)) (zw_3 G a σ) (fun r u hu => ?_)
  cases u with
  | none =>
    obtain ⟨E, ⟨rfl, hno⟩, hc⟩ := hu
    exact ⟨σ, ⟨⟨(hc.2.1 rfl).trans (zIf_f (fun z => hno.elim (fun y => z.1 y) (fun y => z.2 y))).symm, rfl⟩, hT⟩, fun H A hP hD => ⟨zk_Pperm hP (zw_3 G a σ).symm, zk_Dperm hD (zw_3 G a σ).symm⟩⟩
  | some v =>
    obtain ⟨h1, h2, h3⟩ := hu
    exact ⟨zTr σ v, ⟨⟨h3.trans (zIf_t ⟨h1, h2⟩).symm, rfl⟩, hT⟩, fun H A hP hD => ⟨zk_Pperm hP (zw_3 G a (zTr σ v)).symm, zk_Dperm hD (zw_3 G a (zTr σ v)).symm⟩⟩
set_option maxHeartbeats 2000000 in
theorem c_F_tryScript (l : Launch) (G : zk_G) (hst : l.stackTraces = false) (a : zA) (σ : zSt) (hok : yOk σ) (nn : Int32) (sc : Int64) : zk_IH (S := zSt) l yL_tryScript wsL_tryScript rmL_tryScript G [.ref a.1, .int nn, .long sc] (zw G a σ) (fun r σ' => (r = fScript (kL (core σ)) nn sc ∧ core σ' = core σ) ∧ zTx σ') (zw G a) := by
  obtain ⟨hT, hI, ho, hcn⟩ := hok
  refine zk_conseq (c_L_tryScript l G hst a (gL σ) (zN (gL σ)) (zT (gL σ)) hI nn sc (gZ σ)) (zw_3 G a σ) (fun r u hu => ?_)
  cases u with
  | none =>
    obtain ⟨E, ⟨rfl, hno⟩, hc⟩ := hu
    exact ⟨σ, ⟨⟨(hc.2.1 rfl).trans (zIf_f (fun z => by rcases hno with y | y | y | y; exact z.1 y; exact z.2.1 y; exact z.2.2.1 y; exact z.2.2.2 y)).symm, rfl⟩, hT⟩, fun H A hP hD => ⟨zk_Pperm hP (zw_3 G a σ).symm, zk_Dperm hD (zw_3 G a σ).symm⟩⟩
  | some v =>
    obtain ⟨h1, h2, h3, h4, h5⟩ := hu
    exact ⟨zTr σ v, ⟨⟨h5.trans (zIf_t ⟨h1, h2, h3, h4⟩).symm, rfl⟩, hT⟩, fun H A hP hD => ⟨zk_Pperm hP (zw_3 G a (zTr σ v)).symm, zk_Dperm hD (zw_3 G a (zTr σ v)).symm⟩⟩
set_option maxHeartbeats 2000000 in
theorem c_F_trySimulate (l : Launch) (G : zk_G) (hst : l.stackTraces = false) (a : zA) (σ : zSt) (hok : yOk σ) (seed : Int64) (mm : Int32) : zk_IH (S := zSt) l yL_trySimulate wsL_trySimulate rmL_trySimulate G [.ref a.1, .long seed, .int mm] (zw G a σ) (fun r σ' => (r = fSim (kL (core σ)) seed mm ∧ core σ' = core σ) ∧ zTx σ') (zw G a) := by
  obtain ⟨hT, hI, ho, hcn⟩ := hok
  refine zk_conseq (c_L_trySimulate l G hst a (gL σ) (zN (gL σ)) (zT (gL σ)) hI seed mm (gZ σ)) (zw_3 G a σ) (fun r u hu => ?_)
  cases u with
  | none =>
    obtain ⟨E, ⟨rfl, hno⟩, hc⟩ := hu
    exact ⟨σ, ⟨⟨(hc.2.1 rfl).trans (zIf_f (fun z => hno.elim (fun y => z.1 y) (fun y => z.2 y))).symm, rfl⟩, hT⟩, fun H A hP hD => ⟨zk_Pperm hP (zw_3 G a σ).symm, zk_Dperm hD (zw_3 G a σ).symm⟩⟩
  | some v =>
    obtain ⟨h1, h2, h3⟩ := hu
    exact ⟨zTr σ v, ⟨⟨h3.trans (zIf_t ⟨h1, h2⟩).symm, rfl⟩, hT⟩, fun H A hP hD => ⟨zk_Pperm hP (zw_3 G a (zTr σ v)).symm, zk_Dperm hD (zw_3 G a (zTr σ v)).symm⟩⟩
noncomputable def fAppend (c : Int32) (κ : zCo) : Int32 × zCo := zIf (c < 0 ∨ nI 255 < c) (-9999002, κ) (zIf (kTn κ < 120) (nI (kTn κ + 1), (upd (kH κ) (kTn κ) c, kTn κ + 1, kL κ, kV κ, kB κ, kS κ, kO κ, kC κ)) (-9999003, κ))
def fClear (κ : zCo) : Int32 × zCo := (nI (kTn κ), (kH κ, 0, kL κ, kV κ, kB κ, kS κ, kO κ, kC κ))
def fErr (κ : zCo) : Int32 := if (tEr (zTc (kH κ) (kTn κ)) (kTn κ)).1 = true then -1 else nI (tEr (zTc (kH κ) (kTn κ)) (kTn κ)).2.1
def fLoad (κ : zCo) : Int32 × zCo := if (tEr (zTc (kH κ) (kTn κ)) (kTn κ)).1 = true then ((lRun (tEr (zTc (kH κ) (kTn κ)) (kTn κ)).2.2 (kL κ) (kTn κ) 120).1, (kH κ, kTn κ, (lRun (tEr (zTc (kH κ) (kTn κ)) (kTn κ)).2.2 (kL κ) (kTn κ) 120).2.2, fun _ => nI 0, kB κ, kS κ, kO κ, 0)) else (-9999003, κ)
def fUndo (κ : zCo) : Int32 × zCo := if kC κ = 0 then (-9999003, κ) else (nI (kC κ - 1), (kH κ, kTn κ, kS κ ((kO κ + (kC κ - 1)) % 14), kV κ, kB κ, kS κ, kO κ, kC κ - 1))
noncomputable def fKeep (sl : Int32) (κ : zCo) : Int32 × zCo := zIf (sl < 0 ∨ ¬ sl < nI 2) (-9999001, κ) (nI (zT (kL κ)), (kH κ, kTn κ, kL κ, upd (kV κ) sl.toNatClampNeg (nI 1), va_up (kB κ) sl.toNatClampNeg (kL κ), kS κ, kO κ, kC κ))
noncomputable def fBack (sl : Int32) (κ : zCo) : Int32 × zCo := zIf (sl < 0 ∨ ¬ sl < nI 2) (-9999001, κ) (if kV κ sl.toNatClampNeg = 0 then (-9999003, κ) else (kB κ sl.toNatClampNeg 0 0, (kH κ, kTn κ, kB κ sl.toNatClampNeg, kV κ, kB κ, kS κ, kO κ, 0)))
theorem te_linv {T L : zL} {n p : Nat} (h : tInv T n p) : ∀ k, tInv (lRun T L n k).2.1.2.2 n (lRun T L n k).2.1.2.1
  | 0 => tSt_inv h
  | k + 1 => by
    have ih := te_linv (L := L) h k
    show tInv (lStep n (lRun T L n k)).2.1.2.2 n (lStep n (lRun T L n k)).2.1.2.1
    unfold lStep
    split
    · split
      · exact tRd_inv ih
      · exact tRd_inv ih
    · exact ih
theorem fErr_eq {ch : Nat → Int32} {n : Nat} {L : zL} {sv : Nat → Int32} {SL S : Nat → zL} {o cn : Nat} {T : zL} (h1 : T 1 = ch) : (if (tEr T n).1 = true then -1 else nI (tEr T n).2.1) = fErr (ch, n, L, sv, SL, S, o, cn) := by
  obtain ⟨t1, t2, _⟩ := te_er (T := T) (T2 := zTc ch n) n (h1.trans (zTc_1 _ _).symm)
  unfold fErr
  dsimp only [kH, kTn]
  rw [t1, t2]
theorem fLoad_no {ch : Nat → Int32} {n : Nat} {L : zL} {sv : Nat → Int32} {SL S : Nat → zL} {o cn : Nat} {T : zL} (h1 : T 1 = ch) (h : ¬ (tEr T n).1 = true) : fLoad (ch, n, L, sv, SL, S, o, cn) = (-9999003, (ch, n, L, sv, SL, S, o, cn)) := by
  obtain ⟨t1, t2, _⟩ := te_er (T := T) (T2 := zTc ch n) n (h1.trans (zTc_1 _ _).symm)
  unfold fLoad
  dsimp only [kH, kTn, kL, kV, kB, kS, kO, kC]
  rw [if_neg (fun z => h (t1.trans z))]
theorem fLoad_yes {ch : Nat → Int32} {n : Nat} {L : zL} {sv : Nat → Int32} {SL S : Nat → zL} {o cn : Nat} {T : zL} (h1 : T 1 = ch) (h : (tEr T n).1 = true) : fLoad (ch, n, L, sv, SL, S, o, cn) = ((lRun (tEr T n).2.2 L n 120).1, (ch, n, (lRun (tEr T n).2.2 L n 120).2.2, fun _ => nI 0, SL, S, o, 0)) := by
  obtain ⟨t1, t2, t3⟩ := te_er (T := T) (T2 := zTc ch n) n (h1.trans (zTc_1 _ _).symm)
  have t4 := (te_er (T := zTc ch n) (T2 := T) n ((zTc_1 _ _).trans h1.symm)).2.2
  obtain ⟨r1, _, _, r4⟩ := te_lrun (T := (tEr T n).2.2) (T2 := (tEr (zTc ch n) n).2.2) L n (t3.trans (h1.trans ((zTc_1 _ _).symm.trans t4.symm))) 120
  unfold fLoad
  dsimp only [kH, kTn, kL, kV, kB, kS, kO, kC]
  rw [if_pos (t1.symm.trans h), r1, r4]
set_option maxHeartbeats 2000000 in
theorem c_F_tryAppend (l : Launch) (G : zk_G) (hst : l.stackTraces = false) (a : zA) (σ : zSt) (hok : yOk σ) (c : Int32) : zk_IH (S := zSt) l yL_tryAppend wsL_tryAppend rmL_tryAppend G [.ref a.1, .int c] (zw G a σ) (fun r σ' => (r = (fAppend c (core σ)).1 ∧ core σ' = (fAppend c (core σ)).2) ∧ zTx σ') (zw G a) := by
  obtain ⟨⟨po, hT⟩, hI, ho, hcn⟩ := hok
  refine zk_conseq (c_L_tryAppend l G hst a (gT σ) (gN σ) po hT c) (zw_4 G a σ) (fun r u hu => ?_)
  cases u with
  | none =>
    obtain ⟨E, ⟨rfl, hno⟩ | ⟨rfl, h1, h2, h3⟩, hc⟩ := hu
    · refine ⟨σ, ⟨?_, ⟨po, hT⟩⟩, fun H A hP hD => ⟨zk_Pperm hP (zw_4 G a σ).symm, zk_Dperm hD (zw_4 G a σ).symm⟩⟩
      unfold fAppend
      rw [zIf_t hno]
      exact ⟨hc.2.1 rfl, rfl⟩
    · refine ⟨σ, ⟨?_, ⟨po, hT⟩⟩, fun H A hP hD => ⟨zk_Pperm hP (zw_4 G a σ).symm, zk_Dperm hD (zw_4 G a σ).symm⟩⟩
      unfold fAppend
      rw [zIf_f (fun z => z.elim h1 h2), zIf_f (show ¬ kTn (core σ) < 120 from h3)]
      exact ⟨hc.2.2 rfl, rfl⟩
  | some v =>
    obtain ⟨h1, h2, h3, h4, h5⟩ := hu
    obtain ⟨q, hq, rfl⟩ := nI_of h1
    have hq2 : q ≤ 255 := zk_nlt (by omega) hq h2
    have h5 : v = tAdd (gT σ) (gN σ) (nI q).toNatClampNeg := h5
    rw [nI_clamp hq] at h5
    refine ⟨((v, gL σ, gZ σ, gV σ, gB σ, gS σ, gO σ, gC σ, gN σ + 1) : zSt), ⟨?_, ⟨po, by rw [h5]; exact tInv_add hT h3 (by omega)⟩⟩, fun H A hP hD => ⟨zk_Pperm hP (zw_4 G a (v, gL σ, gZ σ, gV σ, gB σ, gS σ, gO σ, gC σ, gN σ + 1)).symm, zk_Dperm hD (zw_4 G a (v, gL σ, gZ σ, gV σ, gB σ, gS σ, gO σ, gC σ, gN σ + 1)).symm⟩⟩
    unfold fAppend
    rw [zIf_f (fun z => z.elim h1 h2), zIf_t (show kTn (core σ) < 120 from h3)]
    refine ⟨h4, ?_⟩
    rw [h5]
    rfl
set_option maxHeartbeats 2000000 in
theorem c_F_tryUndo (l : Launch) (G : zk_G) (hst : l.stackTraces = false) (a : zA) (σ : zSt) (hok : yOk σ)  : zk_IH (S := zSt) l yL_tryUndo wsL_tryUndo rmL_tryUndo G [.ref a.1] (zw G a σ) (fun r σ' => (r = (fUndo (core σ)).1 ∧ core σ' = (fUndo (core σ)).2) ∧ zTx σ') (zw G a) := by
  obtain ⟨hT, hI, ho, hcn⟩ := hok
  refine zk_conseq (c_L_tryUndo l G hst a (gL σ) (zN (gL σ)) (zT (gL σ)) hI (gS σ) (gO σ) (gC σ) ho hcn) (zw_1 G a σ) (fun r u hu => ?_)
  cases u with
  | none =>
    obtain ⟨E, ⟨rfl, h0⟩, hc⟩ := hu
    refine ⟨σ, ⟨?_, hT⟩, fun H A hP hD => ⟨zk_Pperm hP (zw_1 G a σ).symm, zk_Dperm hD (zw_1 G a σ).symm⟩⟩
    unfold fUndo
    rw [if_pos (show kC (core σ) = 0 from h0)]
    exact ⟨hc.2.2 rfl, rfl⟩
  | some v =>
    obtain ⟨h0, h1⟩ := hu
    refine ⟨((gT σ, gS σ ((gO σ + (gC σ - 1)) % 14), gZ σ, gV σ, gB σ, gS σ, gO σ, gC σ - 1, gN σ) : zSt), ⟨?_, hT⟩, fun H A hP hD => ⟨zk_Pperm hP (zw_1 G a (gT σ, gS σ ((gO σ + (gC σ - 1)) % 14), gZ σ, gV σ, gB σ, gS σ, gO σ, gC σ - 1, gN σ)).symm, zk_Dperm hD (zw_1 G a (gT σ, gS σ ((gO σ + (gC σ - 1)) % 14), gZ σ, gV σ, gB σ, gS σ, gO σ, gC σ - 1, gN σ)).symm⟩⟩
    unfold fUndo
    rw [if_neg (show ¬ kC (core σ) = 0 from h0)]
    exact ⟨h1, rfl⟩
set_option maxHeartbeats 2000000 in
theorem c_F_tryKeep (l : Launch) (G : zk_G) (hst : l.stackTraces = false) (a : zA) (σ : zSt) (hok : yOk σ) (sl : Int32) : zk_IH (S := zSt) l yL_tryKeep wsL_tryKeep rmL_tryKeep G [.ref a.1, .int sl] (zw G a σ) (fun r σ' => (r = (fKeep sl (core σ)).1 ∧ core σ' = (fKeep sl (core σ)).2) ∧ zTx σ') (zw G a) := by
  obtain ⟨hT, hI, ho, hcn⟩ := hok
  refine zk_conseq (c_L_tryKeep l G hst a (gL σ) (zN (gL σ)) (zT (gL σ)) hI sl (gV σ) (gB σ)) (zw_6 G a σ) (fun r u hu => ?_)
  cases u with
  | none =>
    obtain ⟨E, ⟨rfl, h0⟩, hc⟩ := hu
    refine ⟨σ, ⟨?_, hT⟩, fun H A hP hD => ⟨zk_Pperm hP (zw_6 G a σ).symm, zk_Dperm hD (zw_6 G a σ).symm⟩⟩
    unfold fKeep
    rw [zIf_t h0]
    exact ⟨hc.1 rfl, rfl⟩
  | some v =>
    obtain ⟨h0, h1, h2, h3, h4⟩ := hu
    refine ⟨((gT σ, gL σ, gZ σ, v.1, v.2, gS σ, gO σ, gC σ, gN σ) : zSt), ⟨?_, hT⟩, fun H A hP hD => ⟨zk_Pperm hP (zw_6 G a (gT σ, gL σ, gZ σ, v.1, v.2, gS σ, gO σ, gC σ, gN σ)).symm, zk_Dperm hD (zw_6 G a (gT σ, gL σ, gZ σ, v.1, v.2, gS σ, gO σ, gC σ, gN σ)).symm⟩⟩
    unfold fKeep
    rw [zIf_f (fun z => z.elim h0 (fun y => y h1))]
    refine ⟨h2, ?_⟩
    have h3 : v.1 = upd (gV σ) sl.toNatClampNeg (nI 1) := h3
    have h4 : v.2 = va_up (gB σ) sl.toNatClampNeg (gL σ) := h4
    show (gT σ 1, gN σ, gL σ, v.1, v.2, gS σ, gO σ, gC σ) = _
    rw [h3, h4]
    rfl
set_option maxHeartbeats 2000000 in
theorem c_F_tryBack (l : Launch) (G : zk_G) (hst : l.stackTraces = false) (a : zA) (σ : zSt) (hok : yOk σ) (sl : Int32) : zk_IH (S := zSt) l yL_tryBack wsL_tryBack rmL_tryBack G [.ref a.1, .int sl] (zw G a σ) (fun r σ' => (r = (fBack sl (core σ)).1 ∧ core σ' = (fBack sl (core σ)).2) ∧ zTx σ') (zw G a) := by
  obtain ⟨hT, hI, ho, hcn⟩ := hok
  refine zk_conseq (c_L_tryBack l G hst a (gL σ) (zN (gL σ)) (zT (gL σ)) hI sl (gV σ) (gB σ) (gS σ) (gO σ) (gC σ) ho hcn) (zw_7 G a σ) (fun r u hu => ?_)
  cases u with
  | none =>
    obtain ⟨E, ⟨rfl, h0⟩ | ⟨rfl, h0, h1, h2⟩, hc⟩ := hu
    · refine ⟨σ, ⟨?_, hT⟩, fun H A hP hD => ⟨zk_Pperm hP (zw_7 G a σ).symm, zk_Dperm hD (zw_7 G a σ).symm⟩⟩
      unfold fBack
      rw [zIf_t h0]
      exact ⟨hc.1 rfl, rfl⟩
    · refine ⟨σ, ⟨?_, hT⟩, fun H A hP hD => ⟨zk_Pperm hP (zw_7 G a σ).symm, zk_Dperm hD (zw_7 G a σ).symm⟩⟩
      unfold fBack
      rw [zIf_f (fun z => z.elim h0 (fun y => y h1)), if_pos (show kV (core σ) sl.toNatClampNeg = 0 from h2)]
      exact ⟨hc.2.2 rfl, rfl⟩
  | some v =>
    obtain ⟨h0, h1, h2, h3, h4⟩ := hu
    refine ⟨((gT σ, v, gZ σ, gV σ, gB σ, gS σ, gO σ, 0, gN σ) : zSt), ⟨?_, hT⟩, fun H A hP hD => ⟨zk_Pperm hP (zw_7 G a (gT σ, v, gZ σ, gV σ, gB σ, gS σ, gO σ, 0, gN σ)).symm, zk_Dperm hD (zw_7 G a (gT σ, v, gZ σ, gV σ, gB σ, gS σ, gO σ, 0, gN σ)).symm⟩⟩
    unfold fBack
    rw [zIf_f (fun z => z.elim h0 (fun y => y h1)), if_neg (show ¬ kV (core σ) sl.toNatClampNeg = 0 from h2)]
    have h4 : v = gB σ sl.toNatClampNeg := h4
    subst h4
    exact ⟨h3, rfl⟩
set_option maxHeartbeats 2000000 in
theorem c_F_tryLoad (l : Launch) (G : zk_G) (hst : l.stackTraces = false) (a : zA) (σ : zSt) (hok : yOk σ)  : zk_IH (S := zSt) l yL_tryLoad wsL_tryLoad rmL_tryLoad G [.ref a.1] (zw G a σ) (fun r σ' => (r = (fLoad (core σ)).1 ∧ core σ' = (fLoad (core σ)).2) ∧ zTx σ') (zw G a) := by
  obtain ⟨⟨po, hT⟩, hI, ho, hcn⟩ := hok
  refine zk_conseq (c_L_tryLoad l G hst a (gL σ) (zN (gL σ)) (zT (gL σ)) hI (gT σ) (gN σ) po hT (gV σ) (gS σ) (gO σ) (gC σ) ho hcn) (zw_5 G a σ) (fun r u hu => ?_)
  have t3 := (te_er (T := gT σ) (T2 := gT σ) (gN σ) rfl).2.2
  have hE0 := tEr_inv hT
  have fn : ¬ (tEr (gT σ) (gN σ)).1 = true → fLoad (core σ) = (-9999003, core σ) := fun h => fLoad_no (T := gT σ) rfl h
  have fy : (tEr (gT σ) (gN σ)).1 = true → fLoad (core σ) = ((lRun (tEr (gT σ) (gN σ)).2.2 (gL σ) (gN σ) 120).1, (gT σ 1, gN σ, (lRun (tEr (gT σ) (gN σ)).2.2 (gL σ) (gN σ) 120).2.2, fun _ => nI 0, gB σ, gS σ, gO σ, 0)) := fun h => fLoad_yes (T := gT σ) rfl h
  have l1 := (te_lrun1 (tEr (gT σ) (gN σ)).2.2 (gL σ) (gN σ) 120).trans t3
  have l2 := te_linv (L := gL σ) hE0 120
  obtain ⟨u1, u2⟩ := u
  cases u1 with
  | none =>
    obtain ⟨E, ⟨rfl, h1, h2⟩, hc⟩ := hu
    have e2 : u2 = (tEr (gT σ) (gN σ)).2.2 := h2
    have fn := fn h1
    clear fy l1 l2 h1 h2
    revert e2 hE0 t3
    generalize tEr (gT σ) (gN σ) = E
    intro t3 hE0 e2
    subst e2
    refine ⟨((E.2.2, gL σ, gZ σ, gV σ, gB σ, gS σ, gO σ, gC σ, gN σ) : zSt), ⟨?_, ⟨_, hE0⟩⟩, fun H A hP hD => ⟨zk_Pperm hP (zw_5 G a (E.2.2, gL σ, gZ σ, gV σ, gB σ, gS σ, gO σ, gC σ, gN σ)).symm, zk_Dperm hD (zw_5 G a (E.2.2, gL σ, gZ σ, gV σ, gB σ, gS σ, gO σ, gC σ, gN σ)).symm⟩⟩
    rw [fn]
    refine ⟨hc.2.2 rfl, ?_⟩
    show (E.2.2 1, gN σ, gL σ, gV σ, gB σ, gS σ, gO σ, gC σ) = _
    rw [t3]
    rfl
  | some v =>
    obtain ⟨h1, h2, h3, h4, h5⟩ := hu
    obtain ⟨v1, v2, v3⟩ := v
    have e3 : v1 = (lRun (tEr (gT σ) (gN σ)).2.2 (gL σ) (gN σ) 120).2.1.2.2 := h3
    have e4 : v2 = (lRun (tEr (gT σ) (gN σ)).2.2 (gL σ) (gN σ) 120).2.2 := h4
    have fy := fy h1
    clear fn h1 t3 hE0 h3 h4
    revert h2 e3 e4 fy l1 l2
    generalize lRun (tEr (gT σ) (gN σ)).2.2 (gL σ) (gN σ) 120 = R
    intro l1 l2 h2 e3 e4 fy
    obtain ⟨R1, ⟨R2, R3, R4⟩, R5⟩ := R
    have e3b : v1 = R4 := e3
    have e4b : v2 = R5 := e4
    have l1b : R4 1 = gT σ 1 := l1
    have l2b : tInv R4 (gN σ) R3 := l2
    have h2b : r = R1 := h2
    have fyb : fLoad (core σ) = (R1, (gT σ 1, gN σ, R5, fun _ => nI 0, gB σ, gS σ, gO σ, 0)) := fy
    clear e3 e4 l1 l2 h2 fy
    subst e3b
    subst e4b
    refine ⟨((v1, v2, gZ σ, fun _ => nI 0, gB σ, gS σ, gO σ, 0, gN σ) : zSt), ⟨?_, ⟨_, l2b⟩⟩, fun H A hP hD => ?_⟩
    · rw [fyb]
      refine ⟨h2b, ?_⟩
      show (v1 1, gN σ, v2, (fun _ => nI 0 : Nat → Int32), gB σ, gS σ, gO σ, 0) = _
      rw [l1b]
    · have hP : va_P G.1 vwCl (((zb_5 G a) ++ ((zb_T G a.2.1 v1) ++ ((zb_L G a.2.2.1 v2) ++ ((zb_M G a.2.2.1 v2) ++ ((zb_S G a v3) ++ zb_H G a.2.2.2.2.1.1 a.2.2.2.2.1.2.1 a.2.2.2.2.1.2.2 (gS σ) (nI (gO σ)) (nI 0)))))) ++ (zb_L G a.2.2.2.1 (gZ σ) ++ (zb_M G a.2.2.2.1 (gZ σ) ++ zb_P G a.2.2.2.2.2.2.2 (gB σ) 2))) H := hP
      have hD : va_D A (((zb_5 G a) ++ ((zb_T G a.2.1 v1) ++ ((zb_L G a.2.2.1 v2) ++ ((zb_M G a.2.2.1 v2) ++ ((zb_S G a v3) ++ zb_H G a.2.2.2.2.1.1 a.2.2.2.2.1.2.1 a.2.2.2.2.1.2.2 (gS σ) (nI (gO σ)) (nI 0)))))) ++ (zb_L G a.2.2.2.1 (gZ σ) ++ (zb_M G a.2.2.2.1 (gZ σ) ++ zb_P G a.2.2.2.2.2.2.2 (gB σ) 2))) := hD
      obtain ⟨hP2, hD2⟩ := zk_cong (q0 := 18) (g := fun _ => nI 0) hP hD rfl h5
      exact ⟨zk_Pperm hP2 (zw_5 G a (v1, v2, gZ σ, fun _ => nI 0, gB σ, gS σ, gO σ, 0, gN σ)).symm, zk_Dperm hD2 (zw_5 G a (v1, v2, gZ σ, fun _ => nI 0, gB σ, gS σ, gO σ, 0, gN σ)).symm⟩
set_option maxHeartbeats 2000000 in
theorem c_F_errorPosition (l : Launch) (G : zk_G) (a : zA) (σ : zSt) (hok : yOk σ)  : zk_IH (S := zSt) l yX5_errorPosition wsX5_errorPosition rmX5_errorPosition G [.ref a.1] (zw G a σ) (fun r σ' => (r = fErr (core σ) ∧ core σ' = core σ) ∧ zTx σ') (zw G a) := by
  obtain ⟨⟨po, hT⟩, hI, ho, hcn⟩ := hok
  refine zk_conseq (zk_IH.of (c_X5_errorPosition l G a (gT σ) (gN σ) po hT)) (zw_4 G a σ) (fun r u hu => ?_)
  have t3 := (te_er (T := gT σ) (T2 := gT σ) (gN σ) rfl).2.2
  have hE0 := tEr_inv hT
  have fe : (if (tEr (gT σ) (gN σ)).1 = true then -1 else nI (tEr (gT σ) (gN σ)).2.1) = fErr (core σ) := fErr_eq (T := gT σ) rfl
  obtain ⟨h1, h2⟩ := hu
  have h1 := h1.trans fe
  clear fe
  revert h2 hE0 t3
  generalize tEr (gT σ) (gN σ) = E
  intro t3 hE0 h2
  have h2b : u = E.2.2 := h2
  clear h2
  subst h2b
  refine ⟨((E.2.2, gL σ, gZ σ, gV σ, gB σ, gS σ, gO σ, gC σ, gN σ) : zSt), ⟨⟨h1, ?_⟩, ⟨_, hE0⟩⟩, fun H A hP hD => ⟨zk_Pperm hP (zw_4 G a (E.2.2, gL σ, gZ σ, gV σ, gB σ, gS σ, gO σ, gC σ, gN σ)).symm, zk_Dperm hD (zw_4 G a (E.2.2, gL σ, gZ σ, gV σ, gB σ, gS σ, gO σ, gC σ, gN σ)).symm⟩⟩
  show (E.2.2 1, gN σ, gL σ, gV σ, gB σ, gS σ, gO σ, gC σ) = _
  rw [t3]
  rfl
set_option maxHeartbeats 2000000 in
theorem c_F_clearText (l : Launch) (G : zk_G) (a : zA) (σ : zSt) (hok : yOk σ)  : zk_IH (S := zSt) l yX5_clearText wsX5_clearText rmX5_clearText G [.ref a.1] (zw G a σ) (fun r σ' => (r = (fClear (core σ)).1 ∧ core σ' = (fClear (core σ)).2) ∧ zTx σ') (zw G a) := by
  obtain ⟨⟨po, hT⟩, hI, ho, hcn⟩ := hok
  refine zk_conseq (zk_IH.of (c_X5_clearText l G a (gT σ) (gN σ) po hT)) (zw_4 G a σ) (fun r u hu => ?_)
  obtain ⟨h1, h2⟩ := hu
  refine ⟨((u, gL σ, gZ σ, gV σ, gB σ, gS σ, gO σ, gC σ, 0) : zSt), ⟨⟨h1, ?_⟩, ⟨po, by rw [h2]; exact tInv_len hT (by decide)⟩⟩, fun H A hP hD => ⟨zk_Pperm hP (zw_4 G a (u, gL σ, gZ σ, gV σ, gB σ, gS σ, gO σ, gC σ, 0)).symm, zk_Dperm hD (zw_4 G a (u, gL σ, gZ σ, gV σ, gB σ, gS σ, gO σ, gC σ, 0)).symm⟩⟩
  show (u 1, 0, gL σ, gV σ, gB σ, gS σ, gO σ, gC σ) = _
  rw [h2]
  rfl
set_option maxHeartbeats 2000000 in
theorem c_F_bestEntitled (l : Launch) (G : zk_G) (a : zA) (σ : zSt) (hok : yOk σ)  : zk_IH (S := zSt) l yX5_bestEntitled wsX5_bestEntitled rmX5_bestEntitled G [.ref a.1] (zw G a σ) (fun r σ' => (r = (sBest (kL (core σ)) (zN (kL (core σ))) (zT (kL (core σ))) (zN (kL (core σ)))).1 ∧ core σ' = core σ) ∧ zTx σ') (zw G a) := by
  obtain ⟨hT, hI, ho, hcn⟩ := hok
  exact zk_conseq (zk_IH.of (c_X5_bestEntitled l G a (gL σ) (zN (gL σ)) (zT (gL σ)) hI (gZ σ))) (zw_3 G a σ) (fun r u hu => ⟨zTr σ u, ⟨⟨hu, rfl⟩, hT⟩, fun H A hP hD => ⟨zk_Pperm hP (zw_3 G a (zTr σ u)).symm, zk_Dperm hD (zw_3 G a (zTr σ u)).symm⟩⟩)
