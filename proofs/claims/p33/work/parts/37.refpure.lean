/-! Calls that throw, whatever the term is like: what each answers. -/
theorem nH_no {L : zL} {n t a : Nat} (hI : sInv L n t) (h : n ≤ a) (ha : a < 2 ^ 31) : ¬ sHas L (nI a) := fun z => by
  have h2 := z.2
  rw [hI.1] at h2
  have := zk_lt ha (by have := hI.2.1; omega) h2
  omega
theorem nH_yes {L : zL} {n t a : Nat} (hI : sInv L n t) (h : a < n) : sHas L (nI a) := by
  have hn := hI.2.1
  refine ⟨nI_pos (by omega), ?_⟩
  rw [hI.1]
  exact (nI_ltI (by omega) (by omega)).mpr h
theorem nD_no {a : Nat} (h : 40 ≤ a) (ha : a < 2 ^ 31) : ¬ sDay (nI a) := fun z => by
  have := zk_lt ha (by omega) z.2
  omega
theorem nD_yes {a : Nat} (h : a < 40) : sDay (nI a) := ⟨nI_pos (by omega), (nI_ltI (by omega) (by omega)).mpr h⟩
theorem nF_no {a : Nat} (h : 5 ≤ a) (ha : a < 2 ^ 31) : ¬ sFam (nI a) := fun z => by
  have := zk_lt ha (by omega) z.2
  omega
theorem nF_yes {a : Nat} (h : a < 5) : sFam (nI a) := ⟨nI_pos (by omega), (nI_ltI (by omega) (by omega)).mpr h⟩
theorem nIn_no {a N : Nat} (h : N ≤ a) (ha : a < 2 ^ 31) : ¬ zIn (nI a) N := fun ⟨j, hj, e⟩ => by
  have := zk_eq ha (by omega) e
  omega
theorem nIn_yes {a N : Nat} (h : a < N) : zIn (nI a) N := ⟨a, h, rfl⟩
theorem nlt {a b : Nat} (h : a < b) (hb : b < 2 ^ 31) : nI a < nI b := (nI_ltI (by omega) hb).mpr h
theorem nnlt {a b : Nat} (h : b ≤ a) (ha : a < 2 ^ 31) : ¬ nI a < nI b := fun z => by
  have := zk_lt ha (by omega) z
  omega
theorem nneg {a : Nat} (ha : a < 2 ^ 31) : ¬ nI a < 0 := nI_pos ha
theorem m1_neg : (-1 : Int32) < 0 := by decide
section RP
variable {L : zL} {n t : Nat} {κ : zCo}
theorem ra_about {a : Nat} (h : 12 ≤ a) (ha : a < 2 ^ 31) : fAbout L (nI a) = -9999002 := zIf_f (nIn_no h ha)
theorem ra_about0 (hI : sInv L n t) : fAbout L (nI 0) = nI t := by
  refine (zIf_t (nIn_yes (by decide))).trans ?_
  rw [sInv_T hI]
  exact xAbout_0 rfl
theorem ra_about1 (hI : sInv L n t) : fAbout L (nI 1) = nI n := by
  refine (zIf_t (nIn_yes (by decide))).trans ?_
  rw [sInv_N hI]
  exact xAbout_1 rfl
theorem ra_child1 (hI : sInv L n t) {a : Nat} (h : n ≤ a) (ha : a < 2 ^ 31) (w : Int32) : fChild L (nI a) w = -9999001 := zIf_f (nH_no hI h ha)
theorem ra_child2 (hI : sInv L n t) {a k : Nat} (h : a < n) (hk : 9 ≤ k) (hk2 : k < 2 ^ 31) : fChild L (nI a) (nI k) = -9999002 := (zIf_t (nH_yes hI h)).trans (zIf_f (nIn_no hk hk2))
theorem ra_family1 {a : Nat} (h : 5 ≤ a) (ha : a < 2 ^ 31) (w : Int32) : fFamily L (nI a) w = -9999001 := zIf_f (nF_no h ha)
theorem ra_family2 {a k : Nat} (h : a < 5) (hk : 5 ≤ k) (hk2 : k < 2 ^ 31) : fFamily L (nI a) (nI k) = -9999002 := (zIf_t (nF_yes h)).trans (zIf_f (nIn_no hk hk2))
theorem ra_day1 {a : Nat} (h : 40 ≤ a) (ha : a < 2 ^ 31) (w : Int32) : fDay L (nI a) w = -9999001 := zIf_f (nD_no h ha)
theorem ra_day2 {a k : Nat} (h : a < 40) (hk : 4 ≤ k) (hk2 : k < 2 ^ 31) : fDay L (nI a) (nI k) = -9999002 := (zIf_t (nD_yes h)).trans (zIf_f (nIn_no hk hk2))
theorem ra_meal1 (hI : sInv L n t) {a : Nat} (h : n ≤ a) (ha : a < 2 ^ 31) (d w : Int32) : fMeal L (nI a) d w = -9999001 := zIf_f (fun z => nH_no hI h ha z.1)
theorem ra_meal2 {d : Nat} (h : 40 ≤ d) (ha : d < 2 ^ 31) (c w : Int32) : fMeal L c (nI d) w = -9999001 := zIf_f (fun z => nD_no h ha z.2)
theorem ra_meal3 (hI : sInv L n t) {a d k : Nat} (h : a < n) (hd : d < 40) (hk : 3 ≤ k) (hk2 : k < 2 ^ 31) : fMeal L (nI a) (nI d) (nI k) = -9999002 := (zIf_t ⟨nH_yes hI h, nD_yes hd⟩).trans (zIf_f (nIn_no hk hk2))
theorem ra_setting {a : Nat} (h : 2 ≤ a) (ha : a < 2 ^ 31) : fSetting L (nI a) = -9999002 := zIf_f (nIn_no h ha)
theorem ra_come1 (di : Int32) : fCome (-1) di κ = (-9999001, κ) := fAct_1 (if_pos (fun z => z.1 (by decide)))
theorem ra_come2 {f k : Nat} (hf : f < 5) (hk : 4 ≤ k) (hk2 : k < 2 ^ 31) : fCome (nI f) (nI k) κ = (-9999002, κ) := fAct_2 ((if_neg (fun z => z (nF_yes hf))).trans (if_pos (Or.inr (nlt (by omega) hk2))))
theorem ra_come3 (hI : sInv (kL κ) n t) (hn : 12 ≤ n) : fCome (nI 0) (nI 0) κ = (-9999003, κ) := fAct_3 ((if_neg (fun z => z (nF_yes (by decide)))).trans ((if_neg (by decide)).trans (if_pos (by rw [sInv_N hI]; omega))))
theorem ra_menu1 {a : Nat} (h : 40 ≤ a) (ha : a < 2 ^ 31) (mn : Int32) : fMenu (nI a) mn κ = (-9999001, κ) := fAct_1 (if_pos (nD_no h ha))
theorem ra_menu2 {a k : Nat} (h : a < 40) (hk : 4 ≤ k) (hk2 : k < 2 ^ 31) : fMenu (nI a) (nI k) κ = (-9999002, κ) := fAct_2 ((if_neg (fun z => z (nD_yes h))).trans (if_pos (Or.inr (nlt (by omega) hk2))))
theorem ra_menu3 (hI : sInv (kL κ) n t) {a k : Nat} (h : a < t) (hk : k < 4) : fMenu (nI a) (nI k) κ = (-9999003, κ) := by
  have ht := hI.2.2.2.1
  refine fAct_3 ((if_neg (fun z => z (nD_yes (by omega)))).trans ((if_neg (fun z => z.elim (nneg (by omega)) (nnlt (by omega) (by omega)))).trans (if_pos ?_)))
  rw [sInv_T hI]
  exact nlt h (by omega)
theorem ra_order1 (hI : sInv (kL κ) n t) {a : Nat} (h : n ≤ a) (ha : a < 2 ^ 31) (d b : Int32) : fOrder (nI a) d b κ = (-9999001, κ) := fAct_1 (if_pos (Or.inl (nH_no hI h ha)))
theorem ra_order2 {d : Nat} (h : 40 ≤ d) (ha : d < 2 ^ 31) (c b : Int32) : fOrder c (nI d) b κ = (-9999001, κ) := fAct_1 (if_pos (Or.inr (nD_no h ha)))
theorem ra_order3 (hI : sInv (kL κ) n t) {a d : Nat} (h : a < n) (hd : d < t) (b : Int32) : fOrder (nI a) (nI d) b κ = (-9999003, κ) := by
  have ht := hI.2.2.2.1
  refine fAct_3 ((if_neg (fun z => z.elim (fun y => y (nH_yes hI h)) (fun y => y (nD_yes (by omega))))).trans (if_pos ?_))
  rw [sInv_T hI]
  exact nlt hd (by omega)
theorem ra_pay1 (hI : sInv (kL κ) n t) {a : Nat} (h : n ≤ a) (ha : a < 2 ^ 31) (am : Int32) : fPay (nI a) am κ = (-9999001, κ) := fAct_1 (if_pos (nH_no hI h ha))
theorem ra_pay2 (hI : sInv (kL κ) n t) {a : Nat} (h : a < n) : fPay (nI a) (nI 0) κ = (-9999002, κ) := fAct_2 ((if_neg (fun z => z (nH_yes hI h))).trans (if_pos (Or.inl rfl)))
theorem ra_pay3 (hI : sInv (kL κ) n t) {a k : Nat} (h : a < n) (hk : 10000 ≤ k) (hk2 : k < 2 ^ 31) : fPay (nI a) (nI k) κ = (-9999002, κ) := fAct_2 ((if_neg (fun z => z (nH_yes hI h))).trans (if_pos (Or.inr (Or.inr (nlt (by omega) hk2)))))
/-- what was had, and a little more than that is taken: refused -/
theorem ra_pay4 (hI : sInv (kL κ) n t) {a : Nat} (h : a < n) (hb : bB 1000000000 (kL κ 3 a)) (hh : kL κ 3 a < nI 9999) : fPay (nI a) (if kL κ 3 a < 0 then -1 else -1 - kL κ 3 a) κ = (-9999003, κ) := by
  have hn := hI.2.1
  have hb2 := hb
  unfold bB at hb2
  rw [Int32.lt_iff_toInt_lt, show (nI 9999).toInt = 9999 from rfl] at hh
  have em : (-1 : Int32).toInt = -1 := by decide
  refine fAct_3 ((if_neg (fun z => z (nH_yes hI h))).trans ?_)
  rw [nI_clamp (show a < 2 ^ 31 by omega)]
  by_cases w : kL κ 3 a < 0
  · rw [if_pos w, if_neg (by decide)]
    rw [Int32.lt_iff_toInt_lt, show (0 : Int32).toInt = 0 from rfl] at w
    refine if_pos ⟨m1_neg, ?_⟩
    rw [Int32.lt_iff_toInt_lt, bi_add (by rw [em]; omega) (by rw [em]; omega), em, show (0 : Int32).toInt = 0 from rfl]
    omega
  · rw [if_neg w]
    rw [Int32.lt_iff_toInt_lt, show (0 : Int32).toInt = 0 from rfl] at w
    have e1 : (-1 - kL κ 3 a).toInt = -1 - (kL κ 3 a).toInt := by rw [bi_sub (by rw [em]; omega) (by rw [em]; omega), em]
    have n0 : ¬ (-1 - kL κ 3 a = 0 ∨ -1 - kL κ 3 a < -9999 ∨ nI 9999 < -1 - kL κ 3 a) := by
      rintro (z | z | z)
      · rw [z, show (0 : Int32).toInt = 0 from rfl] at e1
        omega
      · rw [Int32.lt_iff_toInt_lt, e1, show (-9999 : Int32).toInt = -9999 by decide] at z
        omega
      · rw [Int32.lt_iff_toInt_lt, e1, show (nI 9999).toInt = 9999 from rfl] at z
        omega
    rw [if_neg n0]
    refine if_pos ⟨?_, ?_⟩
    · rw [Int32.lt_iff_toInt_lt, e1, show (0 : Int32).toInt = 0 from rfl]
      omega
    · rw [Int32.lt_iff_toInt_lt, bi_add (by rw [e1]; omega) (by rw [e1]; omega), e1, show (0 : Int32).toInt = 0 from rfl]
      omega
theorem ra_move1 (hI : sInv (kL κ) n t) {a : Nat} (h : n ≤ a) (ha : a < 2 ^ 31) (c am : Int32) : fMove c (nI a) am κ = (-9999001, κ) := fAct_1 (if_pos (Or.inr (nH_no hI h ha)))
theorem ra_move2 (hI : sInv (kL κ) n t) {a : Nat} (h : a < n) : fMove (nI a) (nI a) (nI 0) κ = (-9999002, κ) := fAct_2 ((if_neg (fun z => z.elim (fun y => y (nH_yes hI h)) (fun y => y (nH_yes hI h)))).trans (if_pos (Or.inl (by decide))))
theorem ra_move3 (hI : sInv (kL κ) n t) {a : Nat} (h : a < n) : fMove (nI a) (nI a) (nI 1) κ = (-9999003, κ) := fAct_3 ((if_neg (fun z => z.elim (fun y => y (nH_yes hI h)) (fun y => y (nH_yes hI h)))).trans ((if_neg (by decide)).trans (if_pos (Or.inl rfl))))
theorem ra_share {k : Nat} (hk : k < 9) (b : Int32) : fShare (-1 - nI k) b κ = (-9999001, κ) := by
  refine fAct_1 (if_pos (fun z => z.1 ?_))
  rcases (show k = 0 ∨ k = 1 ∨ k = 2 ∨ k = 3 ∨ k = 4 ∨ k = 5 ∨ k = 6 ∨ k = 7 ∨ k = 8 by omega) with rfl | rfl | rfl | rfl | rfl | rfl | rfl | rfl | rfl <;> decide
theorem ra_ent1 (hI : sInv (kL κ) n t) {a : Nat} (h : n ≤ a) (ha : a < 2 ^ 31) (fr to : Int32) : fEntitle (nI a) fr to κ = (-9999001, κ) := fAct_1 (if_pos (Or.inl (nH_no hI h ha)))
theorem ra_ent2 {d : Nat} (h : 40 ≤ d) (ha : d < 2 ^ 31) (c to : Int32) : fEntitle c (nI d) to κ = (-9999001, κ) := fAct_1 (if_pos (Or.inr (nD_no h ha)))
theorem ra_ent3 (hI : sInv (kL κ) n t) {a d k : Nat} (h : a < n) (hd : d < 40) (hk : k < d) : fEntitle (nI a) (nI d) (nI k) κ = (-9999002, κ) := fAct_2 ((if_neg (fun z => z.elim (fun y => y (nH_yes hI h)) (fun y => y (nD_yes hd)))).trans (if_neg (fun z => z.elim (fun y => zk_m1n (show k < 2 ^ 31 by omega) y) (fun y => y.1 (nlt hk (by omega))))))
theorem ra_off : fWriteOff (nI 5) κ = (-9999001, κ) := fAct_1 (if_pos (nF_no (by decide) (by decide)))
theorem ra_days0 : fDays (nI 0) κ = (-9999002, κ) := fAct_2 (if_pos (Or.inl (by decide)))
theorem ra_days1 {k : Nat} (hk : 41 ≤ k) (hk2 : k < 2 ^ 31) : fDays (nI k) κ = (-9999002, κ) := fAct_2 (if_pos (Or.inr (nlt (by omega) hk2)))
theorem ra_days2 (hI : sInv (kL κ) n t) (h : ¬ t = 0) : fDays (nI 40) κ = (-9999003, κ) := by
  refine fAct_3 ((if_neg (by decide)).trans (if_pos ?_))
  rw [sInv_T hI]
  exact nlt (by omega) (by decide)
theorem ra_set1 {k : Nat} (hk : 1000 ≤ k) (hk2 : k < 2 ^ 31) : fSet (nI 0) (nI k) κ = (-9999002, κ) := fAct_2 (if_neg (fun z => z.elim (fun y => y.2.2 (nlt (by omega) hk2)) (fun y => absurd y.1 (by decide))))
theorem ra_set0 : fSet (nI 0) (nI 0) κ = (-9999002, κ) := fAct_2 (if_neg (fun z => z.elim (fun y => y.2.1 (by decide)) (fun y => absurd y.1 (by decide))))
theorem ra_set2 {k : Nat} (hk : 10000 ≤ k) (hk2 : k < 2 ^ 31) : fSet (nI 1) (nI k) κ = (-9999002, κ) := fAct_2 (if_neg (fun z => z.elim (fun y => absurd y.1 (by decide)) (fun y => y.2.2 (nlt (by omega) hk2))))
theorem ra_ref (hI : sInv L n t) {a : Nat} (h : n ≤ a) (ha : a < 2 ^ 31) : fRefused L (nI a) = -9999001 := zIf_f (nH_no hI h ha)
theorem ra_needs {a : Nat} (h : 5 ≤ a) (ha : a < 2 ^ 31) {r : Int32} (hq : qNeeds L (nI a) r) : r = -9999001 := hq.2 (nF_no h ha)
theorem ra_ife1 (fr to : Int32) : fIfEnt L (-1) fr to = -9999001 := if_pos (if_pos (Or.inl (fun z => z.1 m1_neg)))
theorem ra_ife2 (hI : sInv L n t) {a k : Nat} (h : a < n) (hk : 40 ≤ k) (hk2 : k < 2 ^ 31) : fIfEnt L (nI a) (nI 0) (nI k) = -9999002 := by
  have e : sfEnt L (nI a) (nI 0) (nI k) = nI 2 := (if_neg (fun z => z.elim (fun y => y (nH_yes hI h)) (fun y => y (nD_yes (by decide))))).trans (if_neg (fun z => z.elim (fun y => zk_m1n hk2 y) (fun y => nD_no hk hk2 y.2)))
  unfold fIfEnt
  rw [e]
  exact (if_neg (by decide)).trans (if_pos rfl)
theorem ra_ifp {k : Nat} (hk : 1000 ≤ k) (hk2 : k < 2 ^ 31) : fIfPrice L (nI k) = -9999002 := zIf_f (fun z => z.2 (nlt (by omega) hk2))
theorem ra_keep : fKeep (nI 2) κ = (-9999001, κ) := zIf_t (Or.inr (by decide))
theorem ra_back : fBack (-1) κ = (-9999001, κ) := zIf_t (Or.inl m1_neg)
theorem ra_app {k : Nat} (hk : 256 ≤ k) (hk2 : k < 2 ^ 31) : fAppend (nI k) κ = (-9999002, κ) := zIf_t (Or.inr (nlt (by omega) hk2))
theorem ra_scr1 (sc : Int64) : fScript L (nI 4) sc = -9999002 := zIf_f (fun z => z.2.1 (by decide))
theorem ra_scr2 {k : Nat} (hk : k < 2 ^ 31) : fScript L (nI 1) (lN (1000000 + k)) = -9999002 := by
  refine zIf_f (fun z => z.2.2.2 ?_)
  rw [nI_clamp (show 1 < 2 ^ 31 by decide), wLg_nat (show 1000000 + k < 2 ^ 63 by omega)]
  have h1 : 1 ≤ (1000000 + k) / 1000000 ^ 1 := by omega
  exact (pk_lLT (by decide) (Nat.lt_of_le_of_lt (Nat.div_le_self _ _) (by omega))).mpr (by omega)
theorem ra_scr3 {k : Nat} (hk : k < 2 ^ 31) : fScript L (nI 2) (-1 - lN k) = -9999002 := by
  refine zIf_f (fun z => z.2.2.1 ?_)
  rw [Int64.lt_iff_toInt_lt]
  have e1 : (lN k).toInt = (k : Int) := pk_lT (by omega)
  have e2 : (-1 : Int64).toInt = -1 := by decide
  rw [Int64.toInt_sub, e1, e2, show (lN 0).toInt = 0 from rfl, Int.bmod_eq_of_le (by omega) (by omega)]
  omega
theorem ra_sim (seed : Int64) : fSim L seed (nI 100) = -9999002 := zIf_f (fun z => z.2 (by decide))
/-- the text is a term, or it is refused -/
theorem ra_load (h : ¬ fErr κ = -1) : fLoad κ = (-9999003, κ) := by
  refine if_neg (fun z => h ?_)
  exact if_pos z
end RP
