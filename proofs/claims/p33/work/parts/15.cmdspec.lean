/-! Commands: what each way to write an action down does to a ledger. -/
def zN (L : zL) : Nat := (L 0 1).toNatClampNeg
def zT (L : zL) : Nat := (L 0 0).toNatClampNeg
theorem sInv_at {L : zL} {n t : Nat} (h : sInv L n t) : sInv L (zN L) (zT L) := by
  have h1 : zN L = n := by unfold zN; rw [h.1]; exact nI_clamp (by have := h.2.1; omega)
  have h2 : zT L = t := by unfold zT; rw [h.2.2.1]; exact nI_clamp (by have := h.2.2.2.1; omega)
  rw [h1, h2]
  exact h
theorem sInv_N {L : zL} {n t : Nat} (h : sInv L n t) : zN L = n := by unfold zN; rw [h.1]; exact nI_clamp (by have := h.2.1; omega)
theorem sInv_T {L : zL} {n t : Nat} (h : sInv L n t) : zT L = t := by unfold zT; rw [h.2.2.1]; exact nI_clamp (by have := h.2.2.2.1; omega)
/-- an action that is left out if something speaks against it: was it done (1 or 0), and the ledger then -/
def tyIf (f : Int32) (L K : zL) : Int32 × zL := (if f = 0 then nI 1 else nI 0, if f = 0 then K else L)
def tyCome (L : zL) (n : Nat) (f di : Int32) : Int32 × zL := tyIf (sfCome n f di) L (sCome L n f di)
def tyMenu (L : zL) (t : Nat) (d mn : Int32) : Int32 × zL := tyIf (sfMenu t d mn) L (up2 L 6 d.toNatClampNeg mn)
def tyOrder (L : zL) (t : Nat) (c d b : Int32) : Int32 × zL := tyIf (sfOrder L t c d) L (sOrd L (c.toNatClampNeg * 40 + d.toNatClampNeg) b)
def tyPay (L : zL) (c am : Int32) : Int32 × zL := tyIf (sfPay L c am) L (sPay L c.toNatClampNeg am)
def tyShare (L : zL) (f b : Int32) : Int32 × zL := tyIf (sfShare f) L (sShare L f.toNatClampNeg b)
def tyEnt (L : zL) (t : Nat) (c fr to : Int32) : Int32 × zL := tyIf (sfEnt L c fr to) L (sEntitle L t c.toNatClampNeg fr to)
def tyOff (L : zL) (n : Nat) (f : Int32) : Int32 × zL := tyIf (sfOff L n f) L (sWrite L n f.toNatClampNeg)
def tyDays (L : zL) (n t : Nat) (k : Int32) : Int32 × zL := tyIf (sfDays t k) L (sDays n t k.toNatClampNeg L).2
def tyOther (L : zL) (t : Nat) (c d : Int32) : Int32 × zL := tyIf (sfOrder L t c d) L (sOrd L (c.toNatClampNeg * 40 + d.toNatClampNeg) (if L 9 (c.toNatClampNeg * 40 + d.toNatClampNeg) = 0 then nI 1 else nI 0))
def tyFlip (L : zL) (f : Int32) : Int32 × zL := (if sFam f then nI 1 else nI 0, if sFam f then sShare L f.toNatClampNeg (if L 7 f.toNatClampNeg = 0 then nI 1 else nI 0) else L)
/-- a command of the text -/
def cText (L : zL) (n t : Nat) (k a b c : Int32) : Int32 × zL :=
  if k = nI 99 then tyCome L n a b else if k = nI 109 then tyMenu L t a b else if k = nI 111 then tyOther L t a b else if k = nI 112 then tyPay L a b else if k = nI 101 then tyEnt L t a b c else if k = nI 104 then tyFlip L a else if k = nI 100 then tyDays L n t a else (nI 0, L)
/-- a question inside a script: is it answered yes -/
def cAsk (c : Prop) [Decidable c] (L : zL) : Int32 × zL := (if c then nI 1 else nI 0, L)
/-- a group of six digits -/
def cGroup (L : zL) (n t g : Nat) : Int32 × zL :=
  if g / 100000 = 1 then (if g % 10 ≤ 1 then tyOrder L t (nI (g / 1000 % 100)) (nI (g / 10 % 100)) (if g % 10 = 1 then nI 1 else nI 0) else (nI 0, L))
  else if g / 100000 = 2 then tyPay L (nI (g / 1000 % 100)) (nI (g % 1000))
  else if g / 100000 = 3 then (if g % 10 = 0 then tyEnt L t (nI (g / 1000 % 100)) (nI 0) (nI (g / 10 % 100)) else (nI 0, L))
  else if g / 100000 = 4 then (if g / 10 % 1000 = 0 ∧ g % 10 ≤ 1 then tyShare L (nI (g / 10000 % 10)) (if g % 10 = 1 then nI 1 else nI 0) else (nI 0, L))
  else if g / 100000 = 5 then (if g % 10000 = 0 then tyOff L n (nI (g / 10000 % 10)) else (nI 0, L))
  else if g / 100000 = 6 then (if g / 100 % 1000 = 0 then tyDays L n t (nI (g % 100)) else (nI 0, L))
  else if g / 100000 = 7 then cAsk (sHas L (nI (g / 1000 % 100)) ∧ sDay (nI (g / 10 % 100)) ∧ L 9 (g / 1000 % 100 * 40 + g / 10 % 100) = nI (g % 10)) L
  else if g / 100000 = 8 then cAsk (g % 10 = 0 ∧ sFam (nI (g / 10000 % 10)) ∧ ¬ nI (g / 10 % 1000 * 10) < sDebt L n (nI (g / 10000 % 10))) L
  else if g / 100000 = 9 then cAsk (g / 100 % 1000 = 0 ∧ ¬ zs (fun i => if L 9 i = nI 2 then nI 1 else nI 0) 480 + zs (fun i => if L 9 i = nI 3 then nI 1 else nI 0) 480 < nI (g % 100)) L
  else (nI 0, L)
/-- a turn of a simulation -/
def cTurn (L : zL) (n t g : Nat) : Int32 × zL :=
  if g % 16 = 0 then tyCome L n (nI (g / 16 % 5)) (nI (g / 128 % 4))
  else if g % 16 = 7 ∨ g % 16 = 8 then tyPay L (nI (g / 16 % max n 1)) (nI (1 + g / 16384 % 999))
  else if g % 16 = 9 then tyEnt L t (nI (g / 16 % max n 1)) (nI (g / 256 % 40)) (nI 39)
  else if g % 16 = 10 then tyShare L (nI (g / 16 % 5)) (nI 1)
  else if g % 16 = 11 then tyMenu L t (nI (g / 256 % 40)) (nI (g / 16384 % 4))
  else if g % 16 = 12 ∨ g % 16 = 13 ∨ g % 16 = 14 then tyDays L n t (nI 1)
  else if g % 16 = 15 then tyOff L n (nI (g / 16 % 5))
  else tyOrder L t (nI (g / 16 % max n 1)) (nI (g / 256 % 40)) (nI 1)
def zOk (x : Int32 × zL) : Prop := sInv x.2 (zN x.2) (zT x.2)
theorem zOk_if {c : Prop} [Decidable c] {x y : Int32 × zL} (hx : zOk x) (hy : zOk y) : zOk (if c then x else y) := by
  by_cases h : c
  · rw [if_pos h]; exact hx
  · rw [if_neg h]; exact hy
theorem tyIf_inv {f : Int32} {L K : zL} {n t n' t' : Nat} (h : sInv L n t) (hK : f = 0 → sInv K n' t') : zOk (tyIf f L K) := by
  unfold zOk
  by_cases z : f = 0
  · rw [show (tyIf f L K).2 = K from if_pos z]
    exact sInv_at (hK z)
  · rw [show (tyIf f L K).2 = L from if_neg z]
    exact sInv_at h
theorem tyCome_inv {L : zL} {n t : Nat} (f di : Int32) (h : sInv L n t) : zOk (tyCome L n f di) := tyIf_inv h (fun z => sInv_come h (sfCome_0 z).1 (sfCome_0 z).2.1)
theorem tyMenu_inv {L : zL} {n t : Nat} (d mn : Int32) (h : sInv L n t) : zOk (tyMenu L t d mn) := tyIf_inv h (fun _ => sInv_row h rfl rfl rfl rfl)
theorem sInv_ord {L : zL} {n t p : Nat} (b : Int32) (h : sInv L n t) : sInv (sOrd L p b) n t := by
  unfold sOrd
  refine sInv_kind h ?_
  split <;> decide
theorem tyOrder_inv {L : zL} {n t : Nat} (c d b : Int32) (h : sInv L n t) : zOk (tyOrder L t c d b) := tyIf_inv h (fun _ => sInv_ord b h)
theorem tyOther_inv {L : zL} {n t : Nat} (c d : Int32) (h : sInv L n t) : zOk (tyOther L t c d) := tyIf_inv h (fun _ => sInv_ord _ h)
theorem sInv_pay {L : zL} {n t c : Nat} (am : Int32) (h : sInv L n t) : sInv (sPay L c am) n t := sInv_bal (sInv_num h (by decide) (by decide))
theorem tyPay_inv {L : zL} {n t : Nat} (c am : Int32) (h : sInv L n t) : zOk (tyPay L c am) := tyIf_inv h (fun _ => sInv_pay am h)
theorem sInv_share {L : zL} {n t f : Nat} (b : Int32) (h : sInv L n t) : sInv (sShare L f b) n t := sInv_row h rfl rfl rfl rfl
theorem tyShare_inv {L : zL} {n t : Nat} (f b : Int32) (h : sInv L n t) : zOk (tyShare L f b) := tyIf_inv h (fun _ => sInv_share b h)
theorem tyFlip_inv {L : zL} {n t : Nat} (f : Int32) (h : sInv L n t) : zOk (tyFlip L f) := by
  unfold zOk
  by_cases z : sFam f
  · rw [show (tyFlip L f).2 = _ from if_pos z]
    exact sInv_at (sInv_share _ h)
  · rw [show (tyFlip L f).2 = _ from if_neg z]
    exact sInv_at h
theorem tyEnt_inv {L : zL} {n t : Nat} (c fr to : Int32) (h : sInv L n t) : zOk (tyEnt L t c fr to) :=
  tyIf_inv h (fun z => by
    obtain ⟨k, hk, e⟩ := sHas_nat h (sfEnt_0 z).1
    rw [e, nI_clamp (by have := h.2.1; omega)]
    exact sInv_entitle fr to h hk h.2.1 t h.2.2.2.1)
theorem sInv_write {L : zL} {n t f : Nat} (h : sInv L n t) : sInv (sWrite L n f) n t := sInv_row (sInv_off _ h n) rfl rfl rfl rfl
theorem tyOff_inv {L : zL} {n t : Nat} (f : Int32) (h : sInv L n t) : zOk (tyOff L n f) := tyIf_inv h (fun _ => sInv_write h)
theorem tyDays_inv {L : zL} {n t : Nat} (k : Int32) (h : sInv L n t) : zOk (tyDays L n t k) :=
  tyIf_inv (n' := n) (t' := t + k.toNatClampNeg) h (fun z => by
    obtain ⟨j, e, h1, h2⟩ := sfDays_0 h.2.2.2.1 z
    rw [e, nI_clamp (by omega)]
    exact sInv_days h j h2)
theorem cText_inv {L : zL} {n t : Nat} (k a b c : Int32) (h : sInv L n t) : zOk (cText L n t k a b c) := by
  unfold cText
  exact zOk_if (tyCome_inv _ _ h) (zOk_if (tyMenu_inv _ _ h) (zOk_if (tyOther_inv _ _ h) (zOk_if (tyPay_inv _ _ h) (zOk_if (tyEnt_inv _ _ _ h) (zOk_if (tyFlip_inv _ h) (zOk_if (tyDays_inv _ h) (sInv_at h)))))))
theorem cTurn_inv {L : zL} {n t g : Nat} (h : sInv L n t) : zOk (cTurn L n t g) := by
  unfold cTurn
  exact zOk_if (tyCome_inv _ _ h) (zOk_if (tyPay_inv _ _ h) (zOk_if (tyEnt_inv _ _ _ h) (zOk_if (tyShare_inv _ _ h) (zOk_if (tyMenu_inv _ _ h) (zOk_if (tyDays_inv _ h) (zOk_if (tyOff_inv _ h) (tyOrder_inv _ _ _ h)))))))
theorem cGroup_inv {L : zL} {n t g : Nat} (h : sInv L n t) : zOk (cGroup L n t g) := by
  unfold cGroup
  exact zOk_if (zOk_if (tyOrder_inv _ _ _ h) (sInv_at h)) (zOk_if (tyPay_inv _ _ h) (zOk_if (zOk_if (tyEnt_inv _ _ _ h) (sInv_at h)) (zOk_if (zOk_if (tyShare_inv _ _ h) (sInv_at h)) (zOk_if (zOk_if (tyOff_inv _ h) (sInv_at h)) (zOk_if (zOk_if (tyDays_inv _ h) (sInv_at h)) (zOk_if (sInv_at h) (zOk_if (sInv_at h) (zOk_if (sInv_at h) (sInv_at h)))))))))
theorem cText_99 {L : zL} {n t : Nat} {k a b c : Int32} (h : k = nI 99) : cText L n t k a b c = tyCome L n a b := by subst h; rfl
theorem cText_109 {L : zL} {n t : Nat} {k a b c : Int32} (h : k = nI 109) : cText L n t k a b c = tyMenu L t a b := by subst h; rfl
theorem cText_111 {L : zL} {n t : Nat} {k a b c : Int32} (h : k = nI 111) : cText L n t k a b c = tyOther L t a b := by subst h; rfl
theorem cText_112 {L : zL} {n t : Nat} {k a b c : Int32} (h : k = nI 112) : cText L n t k a b c = tyPay L a b := by subst h; rfl
theorem cText_101 {L : zL} {n t : Nat} {k a b c : Int32} (h : k = nI 101) : cText L n t k a b c = tyEnt L t a b c := by subst h; rfl
theorem cText_104 {L : zL} {n t : Nat} {k a b c : Int32} (h : k = nI 104) : cText L n t k a b c = tyFlip L a := by subst h; rfl
theorem cText_100 {L : zL} {n t : Nat} {k a b c : Int32} (h : k = nI 100) : cText L n t k a b c = tyDays L n t a := by subst h; rfl
theorem cText_no {L : zL} {n t : Nat} {k a b c : Int32} (h99 : ¬ k = nI 99) (h109 : ¬ k = nI 109) (h111 : ¬ k = nI 111) (h112 : ¬ k = nI 112) (h101 : ¬ k = nI 101) (h104 : ¬ k = nI 104) (h100 : ¬ k = nI 100) : cText L n t k a b c = (nI 0, L) := by rw [cText, if_neg h99, if_neg h109, if_neg h111, if_neg h112, if_neg h101, if_neg h104, if_neg h100]
theorem cGroup_1 {L : zL} {n t g : Nat} (h : g / 100000 = 1) : cGroup L n t g = (if g % 10 ≤ 1 then tyOrder L t (nI (g / 1000 % 100)) (nI (g / 10 % 100)) (if g % 10 = 1 then nI 1 else nI 0) else (nI 0, L)) := by rw [cGroup, if_pos h]
theorem cGroup_2 {L : zL} {n t g : Nat} (h : g / 100000 = 2) : cGroup L n t g = tyPay L (nI (g / 1000 % 100)) (nI (g % 1000)) := by rw [cGroup, if_neg (show ¬ g / 100000 = 1 by omega), if_pos h]
theorem cGroup_3 {L : zL} {n t g : Nat} (h : g / 100000 = 3) : cGroup L n t g = (if g % 10 = 0 then tyEnt L t (nI (g / 1000 % 100)) (nI 0) (nI (g / 10 % 100)) else (nI 0, L)) := by rw [cGroup, if_neg (show ¬ g / 100000 = 1 by omega), if_neg (show ¬ g / 100000 = 2 by omega), if_pos h]
theorem cGroup_4 {L : zL} {n t g : Nat} (h : g / 100000 = 4) : cGroup L n t g = (if g / 10 % 1000 = 0 ∧ g % 10 ≤ 1 then tyShare L (nI (g / 10000 % 10)) (if g % 10 = 1 then nI 1 else nI 0) else (nI 0, L)) := by rw [cGroup, if_neg (show ¬ g / 100000 = 1 by omega), if_neg (show ¬ g / 100000 = 2 by omega), if_neg (show ¬ g / 100000 = 3 by omega), if_pos h]
theorem cGroup_5 {L : zL} {n t g : Nat} (h : g / 100000 = 5) : cGroup L n t g = (if g % 10000 = 0 then tyOff L n (nI (g / 10000 % 10)) else (nI 0, L)) := by rw [cGroup, if_neg (show ¬ g / 100000 = 1 by omega), if_neg (show ¬ g / 100000 = 2 by omega), if_neg (show ¬ g / 100000 = 3 by omega), if_neg (show ¬ g / 100000 = 4 by omega), if_pos h]
theorem cGroup_6 {L : zL} {n t g : Nat} (h : g / 100000 = 6) : cGroup L n t g = (if g / 100 % 1000 = 0 then tyDays L n t (nI (g % 100)) else (nI 0, L)) := by rw [cGroup, if_neg (show ¬ g / 100000 = 1 by omega), if_neg (show ¬ g / 100000 = 2 by omega), if_neg (show ¬ g / 100000 = 3 by omega), if_neg (show ¬ g / 100000 = 4 by omega), if_neg (show ¬ g / 100000 = 5 by omega), if_pos h]
theorem cGroup_7 {L : zL} {n t g : Nat} (h : g / 100000 = 7) : cGroup L n t g = cAsk (sHas L (nI (g / 1000 % 100)) ∧ sDay (nI (g / 10 % 100)) ∧ L 9 (g / 1000 % 100 * 40 + g / 10 % 100) = nI (g % 10)) L := by rw [cGroup, if_neg (show ¬ g / 100000 = 1 by omega), if_neg (show ¬ g / 100000 = 2 by omega), if_neg (show ¬ g / 100000 = 3 by omega), if_neg (show ¬ g / 100000 = 4 by omega), if_neg (show ¬ g / 100000 = 5 by omega), if_neg (show ¬ g / 100000 = 6 by omega), if_pos h]
theorem cGroup_8 {L : zL} {n t g : Nat} (h : g / 100000 = 8) : cGroup L n t g = cAsk (g % 10 = 0 ∧ sFam (nI (g / 10000 % 10)) ∧ ¬ nI (g / 10 % 1000 * 10) < sDebt L n (nI (g / 10000 % 10))) L := by rw [cGroup, if_neg (show ¬ g / 100000 = 1 by omega), if_neg (show ¬ g / 100000 = 2 by omega), if_neg (show ¬ g / 100000 = 3 by omega), if_neg (show ¬ g / 100000 = 4 by omega), if_neg (show ¬ g / 100000 = 5 by omega), if_neg (show ¬ g / 100000 = 6 by omega), if_neg (show ¬ g / 100000 = 7 by omega), if_pos h]
theorem cGroup_9 {L : zL} {n t g : Nat} (h : g / 100000 = 9) : cGroup L n t g = cAsk (g / 100 % 1000 = 0 ∧ ¬ zs (fun i => if L 9 i = nI 2 then nI 1 else nI 0) 480 + zs (fun i => if L 9 i = nI 3 then nI 1 else nI 0) 480 < nI (g % 100)) L := by rw [cGroup, if_neg (show ¬ g / 100000 = 1 by omega), if_neg (show ¬ g / 100000 = 2 by omega), if_neg (show ¬ g / 100000 = 3 by omega), if_neg (show ¬ g / 100000 = 4 by omega), if_neg (show ¬ g / 100000 = 5 by omega), if_neg (show ¬ g / 100000 = 6 by omega), if_neg (show ¬ g / 100000 = 7 by omega), if_neg (show ¬ g / 100000 = 8 by omega), if_pos h]
theorem cGroup_no {L : zL} {n t g : Nat} (h1 : ¬ g / 100000 = 1) (h2 : ¬ g / 100000 = 2) (h3 : ¬ g / 100000 = 3) (h4 : ¬ g / 100000 = 4) (h5 : ¬ g / 100000 = 5) (h6 : ¬ g / 100000 = 6) (h7 : ¬ g / 100000 = 7) (h8 : ¬ g / 100000 = 8) (h9 : ¬ g / 100000 = 9) : cGroup L n t g = (nI 0, L) := by rw [cGroup, if_neg h1, if_neg h2, if_neg h3, if_neg h4, if_neg h5, if_neg h6, if_neg h7, if_neg h8, if_neg h9]
theorem cTurn_0 {L : zL} {n t g : Nat} (h : g % 16 = 0) : cTurn L n t g = tyCome L n (nI (g / 16 % 5)) (nI (g / 128 % 4)) := by rw [cTurn, if_pos h]
theorem cTurn_7 {L : zL} {n t g : Nat} (h : g % 16 = 7 ∨ g % 16 = 8) : cTurn L n t g = tyPay L (nI (g / 16 % max n 1)) (nI (1 + g / 16384 % 999)) := by rw [cTurn, if_neg (show ¬ (g % 16 = 0) by omega), if_pos h]
theorem cTurn_9 {L : zL} {n t g : Nat} (h : g % 16 = 9) : cTurn L n t g = tyEnt L t (nI (g / 16 % max n 1)) (nI (g / 256 % 40)) (nI 39) := by rw [cTurn, if_neg (show ¬ (g % 16 = 0) by omega), if_neg (show ¬ (g % 16 = 7 ∨ g % 16 = 8) by omega), if_pos h]
theorem cTurn_10 {L : zL} {n t g : Nat} (h : g % 16 = 10) : cTurn L n t g = tyShare L (nI (g / 16 % 5)) (nI 1) := by rw [cTurn, if_neg (show ¬ (g % 16 = 0) by omega), if_neg (show ¬ (g % 16 = 7 ∨ g % 16 = 8) by omega), if_neg (show ¬ (g % 16 = 9) by omega), if_pos h]
theorem cTurn_11 {L : zL} {n t g : Nat} (h : g % 16 = 11) : cTurn L n t g = tyMenu L t (nI (g / 256 % 40)) (nI (g / 16384 % 4)) := by rw [cTurn, if_neg (show ¬ (g % 16 = 0) by omega), if_neg (show ¬ (g % 16 = 7 ∨ g % 16 = 8) by omega), if_neg (show ¬ (g % 16 = 9) by omega), if_neg (show ¬ (g % 16 = 10) by omega), if_pos h]
theorem cTurn_12 {L : zL} {n t g : Nat} (h : g % 16 = 12 ∨ g % 16 = 13 ∨ g % 16 = 14) : cTurn L n t g = tyDays L n t (nI 1) := by rw [cTurn, if_neg (show ¬ (g % 16 = 0) by omega), if_neg (show ¬ (g % 16 = 7 ∨ g % 16 = 8) by omega), if_neg (show ¬ (g % 16 = 9) by omega), if_neg (show ¬ (g % 16 = 10) by omega), if_neg (show ¬ (g % 16 = 11) by omega), if_pos h]
theorem cTurn_15 {L : zL} {n t g : Nat} (h : g % 16 = 15) : cTurn L n t g = tyOff L n (nI (g / 16 % 5)) := by rw [cTurn, if_neg (show ¬ (g % 16 = 0) by omega), if_neg (show ¬ (g % 16 = 7 ∨ g % 16 = 8) by omega), if_neg (show ¬ (g % 16 = 9) by omega), if_neg (show ¬ (g % 16 = 10) by omega), if_neg (show ¬ (g % 16 = 11) by omega), if_neg (show ¬ (g % 16 = 12 ∨ g % 16 = 13 ∨ g % 16 = 14) by omega), if_pos h]
theorem cTurn_no {L : zL} {n t g : Nat} (h : ¬ (g % 16 = 0 ∨ (6 < g % 16 ∧ g % 16 < 16))) : cTurn L n t g = tyOrder L t (nI (g / 16 % max n 1)) (nI (g / 256 % 40)) (nI 1) := by rw [cTurn, if_neg (show ¬ (g % 16 = 0) by omega), if_neg (show ¬ (g % 16 = 7 ∨ g % 16 = 8) by omega), if_neg (show ¬ (g % 16 = 9) by omega), if_neg (show ¬ (g % 16 = 10) by omega), if_neg (show ¬ (g % 16 = 11) by omega), if_neg (show ¬ (g % 16 = 12 ∨ g % 16 = 13 ∨ g % 16 = 14) by omega), if_neg (show ¬ (g % 16 = 15) by omega)]
theorem sHas_lt {L : zL} {n t k : Nat} (h : sInv L n t) (hk : k < 2 ^ 31) (hc : sHas L (nI k)) : k < n := by
  have h2 := hc.2
  rw [h.1] at h2
  exact zk_lt hk (by have := h.2.1; omega) h2
theorem sDay_lt {k : Nat} (hk : k < 2 ^ 31) (hd : sDay (nI k)) : k < 40 := zk_lt hk (by omega) hd.2
theorem sFam_lt {k : Nat} (hk : k < 2 ^ 31) (hd : sFam (nI k)) : k < 5 := zk_lt hk (by omega) hd.2
/-- a script's number without its last groups -/
def wLg (x : Int64) : Nat → Int64
  | 0 => x
  | k + 1 => wLg x k / lN 1000000
theorem zk_max {a b : Nat} (ha : a < 2 ^ 31) (hb : b < 2 ^ 31) : (if nI a < nI b then nI b else nI a) = nI (max a b) := by
  by_cases h : nI a < nI b
  · rw [if_pos h, show max a b = b by have := zk_lt ha hb h; omega]
  · rw [if_neg h, show max a b = a by have := zk_nlt ha hb h; omega]
