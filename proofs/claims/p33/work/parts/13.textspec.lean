/-! The text: rows 0 (0 length, 1 position, 2 letter), 1 characters, 2 numbers. -/
def zb_T (G : zk_G) (x : Nat → Nat) (T : zL) : va_W :=
  [(x 1, .inr (3, [.ref (x 2), .int (T 0 0), .int (T 0 1), .int (T 0 2), .ref (x 3)])), (x 2, .inl (G.2.1 2, 120, .inl (T 1))), zk_a (x 3) (G.2.1 0) 3 (T 2)]
def tInv (T : zL) (n p : Nat) : Prop := T 0 0 = nI n ∧ n ≤ 120 ∧ T 0 1 = nI p ∧ p ≤ 120 ∧ ∀ k, k < 120 → ∃ q, q < 256 ∧ T 1 k = nI q
theorem tInv_pos {T : zL} {n p q : Nat} (h : tInv T n p) (hq : q ≤ 120) : tInv (up2 T 0 1 (nI q)) n q := ⟨(upd_ne (T 0) (nI q) (by decide : (0 : Nat) ≠ 1)).trans h.1, h.2.1, upd_same (T 0) 1 (nI q), hq, h.2.2.2.2⟩
theorem tInv_let {T : zL} {n p : Nat} {v : Int32} (h : tInv T n p) : tInv (up2 T 0 2 v) n p := ⟨(upd_ne (T 0) v (by decide : (0 : Nat) ≠ 2)).trans h.1, h.2.1, (upd_ne (T 0) v (by decide : (1 : Nat) ≠ 2)).trans h.2.2.1, h.2.2.2.1, h.2.2.2.2⟩
theorem tInv_num {T : zL} {n p k : Nat} {v : Int32} (h : tInv T n p) : tInv (up2 T 2 k v) n p := h
/-- a digit's number -/
def tDig (c : Int32) : Nat := (c - nI 48).toNatClampNeg
/-- reading k more digits behind b, at p: the number, if it is one of lo to hi; and where it stands then -/
def tRange (ch : Nat → Int32) (n lo hi : Nat) : Nat → Nat → Nat → Option Nat × Nat
  | 0, b, p => (some b, p)
  | k + 1, b, p => if ¬ p < n then (none, p) else if ch p - nI 48 < 0 ∨ nI 9 < ch p - nI 48 then (none, p) else if hi < (10 * b + tDig (ch p)) * 10 ^ k ∨ (10 * b + tDig (ch p) + 1) * 10 ^ k - 1 < lo then (none, p) else tRange ch n lo hi k (10 * b + tDig (ch p)) (p + 1)
/-- the kinds of numbers: digits, least, greatest -/
def tKind (k : Int32) : Nat × Nat × Nat := if k = nI 102 then (1, 0, 4) else if k = nI 116 then (1, 0, 3) else if k = nI 110 then (1, 1, 9) else if k = nI 100 then (2, 0, 39) else if k = nI 99 then (2, 0, 11) else if k = nI 97 then (4, 1, 9999) else (0, 0, 0)
def tNum (ch : Nat → Int32) (n : Nat) (k : Int32) (p : Nat) : Option Nat × Nat := if (tKind k).1 = 0 then (none, p) else tRange ch n (tKind k).2.1 (tKind k).2.2 (tKind k).1 0 p
/-- the String of a letter's numbers, by its place -/
def tStr (c : Int32) : Nat := if c = nI 99 then 0 else if c = nI 109 then 1 else if c = nI 111 then 2 else if c = nI 112 then 3 else if c = nI 101 then 4 else if c = nI 104 then 5 else if c = nI 100 then 6 else 7
/-- a list of numbers -/
def tNums (ch : Nat → Int32) (n : Nat) : List Int32 → Nat → Option (List Nat) × Nat
  | [], p => (some [], p)
  | k :: ks, p => match tNum ch n k p with
    | (none, q) => (none, q)
    | (some b, q) => match tNums ch n ks q with
      | (none, r) => (none, r)
      | (some bs, r) => (some (b :: bs), r)
/-- a command at p: its letter and numbers -/
def tCmd (ch : Nat → Int32) (n p : Nat) : Option (List Nat) × Nat := if ¬ p < n then (none, p) else if zk_sl.getD (tStr (ch p)) 0 = 0 then (none, p) else tNums ch n (zk_sb.getD (tStr (ch p)) []) (p + 1)
/-- commands from p on: where the first wrong one is wrong -/
def tAll (ch : Nat → Int32) (n : Nat) : Nat → Nat → Option Nat
  | 0, _ => none
  | f + 1, p => if ¬ p < n then none else match tCmd ch n p with
    | (none, q) => some q
    | (some _, q) => tAll ch n f q
def tErr (ch : Nat → Int32) (n : Nat) : Option Nat := if n = 0 ∨ ¬ ch 0 = nI 83 then some 0 else tAll ch n 120 1
theorem zk_dn0 {k : Nat} (hk : k < 2 ^ 31) (h : nI k - nI 1 < 0) : k = 0 := by
  rcases Nat.eq_zero_or_pos k with z | z
  · exact z
  · rw [pk_sub (show 1 ≤ k by omega)] at h
    exact absurd h (nI_pos (by omega))
theorem zk_dn1 {k : Nat} (hk : k < 2 ^ 31) (h : ¬ nI k - nI 1 < 0) : ∃ j, k = j + 1 ∧ nI k - nI 1 = nI j := by
  rcases Nat.eq_zero_or_pos k with z | z
  · subst z
    exact absurd (by decide) h
  · exact ⟨k - 1, by omega, pk_sub (show 1 ≤ k by omega)⟩
theorem tDig_9 {c : Int32} (h1 : ¬ c - nI 48 < 0) (h2 : ¬ nI 9 < c - nI 48) : c - nI 48 = nI (tDig c) ∧ tDig c ≤ 9 := by
  obtain ⟨j, hj, e⟩ := nI_of h1
  unfold tDig
  rw [e, nI_clamp hj]
  rw [e] at h2
  exact ⟨rfl, zk_nlt (by omega) hj h2⟩
theorem tInv_ch {T : zL} {n p k q : Nat} (h : tInv T n p) (hq : q < 256) : tInv (up2 T 1 k (nI q)) n p := by
  refine ⟨h.1, h.2.1, h.2.2.1, h.2.2.2.1, fun j hj => ?_⟩
  by_cases hjk : j = k
  · subst hjk
    exact ⟨q, hq, upd_same (T 1) j (nI q)⟩
  · obtain ⟨i, hi, e⟩ := h.2.2.2.2 j hj
    exact ⟨i, hi, (upd_ne (T 1) (nI q) hjk).trans e⟩
theorem tInv_len {T : zL} {n p m : Nat} (h : tInv T n p) (hm : m ≤ 120) : tInv (up2 T 0 0 (nI m)) m p := ⟨upd_same (T 0) 0 (nI m), hm, (upd_ne (T 0) (nI m) (by decide : (1 : Nat) ≠ 0)).trans h.2.2.1, h.2.2.2.1, h.2.2.2.2⟩
def tPos (T : zL) (q : Nat) : zL := up2 T 0 1 (nI q)
theorem up2_up2 (L : zL) (i j : Nat) (v w : Int32) : up2 (up2 L i j v) i j w = up2 L i j w := by
  funext i' j'
  unfold up2
  by_cases h : i' = i
  · rw [if_pos h, if_pos h, if_pos rfl]
    unfold upd
    by_cases h2 : j' = j
    · rw [if_pos h2, if_pos h2]
    · rw [if_neg h2, if_neg h2, if_neg h2]
  · rw [if_neg h, if_neg h, if_neg h]
theorem up2_self {L : zL} {i j : Nat} {v : Int32} (h : L i j = v) : up2 L i j v = L := by
  funext i' j'
  unfold up2
  by_cases h1 : i' = i
  · rw [if_pos h1]
    unfold upd
    by_cases h2 : j' = j
    · rw [if_pos h2, h1, h2, h]
    · rw [if_neg h2, h1]
  · rw [if_neg h1]
theorem tPos_pos (T : zL) (p q : Nat) : up2 (tPos T p) 0 1 (nI q) = tPos T q := up2_up2 T 0 1 _ _
theorem tPos_self {T : zL} {n p : Nat} (h : tInv T n p) : tPos T p = T := up2_self h.2.2.1
def tAdd (T : zL) (n q : Nat) : zL := up2 (up2 T 1 n (nI q)) 0 0 (nI (n + 1))
theorem tInv_add {T : zL} {n p q : Nat} (h : tInv T n p) (hn : n < 120) (hq : q < 256) : tInv (tAdd T n q) (n + 1) p := tInv_len (tInv_ch h hq) (by omega)
/-- what stands in the text's cells behind the reading of a number -/
def tSet (T : zL) (i : Nat) (R : Option Nat × Nat) : zL := match R.1 with
  | none => tPos T R.2
  | some b => up2 (tPos T R.2) 2 i (nI b)
theorem zk_dec (a : Nat) : nI a + Int32.ofInt (-1) = nI a - nI 1 := by
  rw [zk_m1, Int32.sub_eq_add_neg]
  rfl
theorem tInv_nar {T : zL} {n p k : Nat} (h : tInv T n p) (hk : k < 120) : narrow .char (.int (T 1 k)) = .int (T 1 k) ∧ fits .char (.int (T 1 k)) = true := by
  obtain ⟨q, hq, e⟩ := h.2.2.2.2 k hk
  rw [e]
  exact pk_charN (by omega)
theorem zk_R0 {G : zk_G} {U : State} (h : zk_R G U) : vk_R RX4 60 "ft" (G.2.2.2.1 0) U := h 0 (RX4, 60, "ft") rfl
theorem zk_R1 {G : zk_G} {U : State} (h : zk_R G U) : vk_R RX4 62 "dt" (G.2.2.2.1 1) U := h 1 (RX4, 62, "dt") rfl
theorem zk_R2 {G : zk_G} {U : State} (h : zk_R G U) : vk_R RX4 64 "cd" (G.2.2.2.1 2) U := h 2 (RX4, 64, "cd") rfl
theorem zk_R3 {G : zk_G} {U : State} (h : zk_R G U) : vk_R RX4 66 "ca" (G.2.2.2.1 3) U := h 3 (RX4, 66, "ca") rfl
theorem zk_R4 {G : zk_G} {U : State} (h : zk_R G U) : vk_R RX4 68 "cdd" (G.2.2.2.1 4) U := h 4 (RX4, 68, "cdd") rfl
theorem zk_R5 {G : zk_G} {U : State} (h : zk_R G U) : vk_R RX4 70 "f" (G.2.2.2.1 5) U := h 5 (RX4, 70, "f") rfl
theorem zk_R6 {G : zk_G} {U : State} (h : zk_R G U) : vk_R RX4 72 "n" (G.2.2.2.1 6) U := h 6 (RX4, 72, "n") rfl
theorem zk_R7 {G : zk_G} {U : State} (h : zk_R G U) : vk_R RX4 74 "" (G.2.2.2.1 7) U := h 7 (RX4, 74, "") rfl
theorem zk_R8 {G : zk_G} {U : State} (h : zk_R G U) : vk_R RX5 43 "a character is 0 to 255" (G.2.2.2.1 8) U := h 8 (RX5, 43, "a character is 0 to 255") rfl
theorem zk_R9 {G : zk_G} {U : State} (h : zk_R G U) : vk_R RX5 54 "the text is full" (G.2.2.2.1 9) U := h 9 (RX5, 54, "the text is full") rfl
theorem zk_R10 {G : zk_G} {U : State} (h : zk_R G U) : vk_R RX5 65 "the text is not a term" (G.2.2.2.1 10) U := h 10 (RX5, 65, "the text is not a term") rfl
theorem zk_R11 {G : zk_G} {U : State} (h : zk_R G U) : vk_R RX5 118 "what is 0 to 11" (G.2.2.2.1 11) U := h 11 (RX5, 118, "what is 0 to 11") rfl
theorem zk_R12 {G : zk_G} {U : State} (h : zk_R G U) : vk_R RX5 344 "no such child" (G.2.2.2.1 12) U := h 12 (RX5, 344, "no such child") rfl
theorem zk_R13 {G : zk_G} {U : State} (h : zk_R G U) : vk_R RX5 150 "what is 0 to 8" (G.2.2.2.1 13) U := h 13 (RX5, 150, "what is 0 to 8") rfl
theorem zk_R14 {G : zk_G} {U : State} (h : zk_R G U) : vk_R RX5 349 "no such family" (G.2.2.2.1 14) U := h 14 (RX5, 349, "no such family") rfl
theorem zk_R15 {G : zk_G} {U : State} (h : zk_R G U) : vk_R RX5 170 "what is 0 to 4" (G.2.2.2.1 15) U := h 15 (RX5, 170, "what is 0 to 4") rfl
theorem zk_R16 {G : zk_G} {U : State} (h : zk_R G U) : vk_R RX5 354 "no such day" (G.2.2.2.1 16) U := h 16 (RX5, 354, "no such day") rfl
theorem zk_R17 {G : zk_G} {U : State} (h : zk_R G U) : vk_R RX5 187 "what is 0 to 3" (G.2.2.2.1 17) U := h 17 (RX5, 187, "what is 0 to 3") rfl
theorem zk_R18 {G : zk_G} {U : State} (h : zk_R G U) : vk_R RX5 198 "what is 0 to 2" (G.2.2.2.1 18) U := h 18 (RX5, 198, "what is 0 to 2") rfl
theorem zk_R19 {G : zk_G} {U : State} (h : zk_R G U) : vk_R RX5 206 "what is 0 or 1" (G.2.2.2.1 19) U := h 19 (RX5, 206, "what is 0 or 1") rfl
theorem zk_R20 {G : zk_G} {U : State} (h : zk_R G U) : vk_R RX5 356 "no such child, family or day" (G.2.2.2.1 20) U := h 20 (RX5, 356, "no such child, family or day") rfl
theorem zk_R21 {G : zk_G} {U : State} (h : zk_R G U) : vk_R RX5 358 "an argument is out of its range" (G.2.2.2.1 21) U := h 21 (RX5, 358, "an argument is out of its range") rfl
theorem zk_R22 {G : zk_G} {U : State} (h : zk_R G U) : vk_R RX5 360 "this cannot be done now" (G.2.2.2.1 22) U := h 22 (RX5, 360, "this cannot be done now") rfl
theorem zk_R23 {G : zk_G} {U : State} (h : zk_R G U) : vk_R RX5 277 "no state is remembered" (G.2.2.2.1 23) U := h 23 (RX5, 277, "no state is remembered") rfl
theorem zk_R24 {G : zk_G} {U : State} (h : zk_R G U) : vk_R RX5 299 "a price is 1 to 999" (G.2.2.2.1 24) U := h 24 (RX5, 299, "a price is 1 to 999") rfl
theorem zk_R25 {G : zk_G} {U : State} (h : zk_R G U) : vk_R RX5 307 "a script has 1 to 3 commands" (G.2.2.2.1 25) U := h 25 (RX5, 307, "a script has 1 to 3 commands") rfl
theorem zk_R26 {G : zk_G} {U : State} (h : zk_R G U) : vk_R RX5 313 "a script has at most 6 digits a command" (G.2.2.2.1 26) U := h 26 (RX5, 313, "a script has at most 6 digits a command") rfl
theorem zk_R27 {G : zk_G} {U : State} (h : zk_R G U) : vk_R RX5 321 "the turns are 1 to 99" (G.2.2.2.1 27) U := h 27 (RX5, 321, "the turns are 1 to 99") rfl
theorem zk_R28 {G : zk_G} {U : State} (h : zk_R G U) : vk_R RX5 332 "a slot is 0 or 1" (G.2.2.2.1 28) U := h 28 (RX5, 332, "a slot is 0 or 1") rfl
theorem zk_R29 {G : zk_G} {U : State} (h : zk_R G U) : vk_R RX5 335 "nothing is saved in this slot" (G.2.2.2.1 29) U := h 29 (RX5, 335, "nothing is saved in this slot") rfl
theorem zk_out {x : Int32} (lo : Int) (n : Nat) {hi : Int} (h : ∀ k : Nat, k < n → ¬ x.toInt = lo + (k : Int)) (e : hi = lo + (n : Int) - 1 := by decide) : x.toInt < lo ∨ hi < x.toInt := by
  by_cases h1 : x.toInt < lo
  · exact Or.inl h1
  · refine Or.inr (Int.not_le.mp fun h2 => ?_)
    exact h (x.toInt - lo).toNat (by omega) (by omega)
theorem zk_toI {x y : Int32} {i : Int} (h : x.toInt = i) (hy : y.toInt = i) : x = y := Int32.toInt_inj.mp (h.trans hy.symm)
/-- the byte of a String constant -/
def zk_ch (i k : Nat) : Int32 := (zk_sb.getD i []).getD k 0
theorem zk_shr0 (x : Int32) : x >>> (nI 0 &&& 31) = x := by
  have e : nI 0 &&& 31 = (0 : Int32) := by decide
  rw [e]
  exact Int32.shiftRight_zero
theorem zk_ch_all : ∀ i, i < 8 → zk_sl.getD i 0 ≤ 3 ∧ ∀ k, k < zk_sl.getD i 0 → ((zk_ch i k &&& nI 255).toUInt32 % 65536).toInt32 = zk_ch i k ∧ narrow .char (.int (zk_ch i k)) = .int (zk_ch i k) := by decide +kernel
theorem zk_len31 {i : Nat} (hi : i < 8) : zk_sl.getD i 0 ≤ 3 := (zk_ch_all i hi).1
theorem tRange_le {ch : Nat → Int32} {n lo hi : Nat} (hn : n ≤ 120) : ∀ {k b p : Nat}, p ≤ 120 → (tRange ch n lo hi k b p).2 ≤ 120
  | 0, b, p, hp => hp
  | k + 1, b, p, hp => by
    unfold tRange
    split
    · exact hp
    · split
      · exact hp
      · split
        · exact hp
        · exact tRange_le hn (by omega)
theorem tRange_ge {ch : Nat → Int32} {n lo hi : Nat} : ∀ {k b p : Nat}, p ≤ (tRange ch n lo hi k b p).2
  | 0, b, p => Nat.le_refl p
  | k + 1, b, p => by
    unfold tRange
    split
    · exact Nat.le_refl p
    · split
      · exact Nat.le_refl p
      · split
        · exact Nat.le_refl p
        · exact Nat.le_trans (Nat.le_succ p) tRange_ge
theorem tNum_le {ch : Nat → Int32} {n p : Nat} {k : Int32} (hn : n ≤ 120) (hp : p ≤ 120) : (tNum ch n k p).2 ≤ 120 := by
  unfold tNum
  split
  · exact hp
  · exact tRange_le hn hp
theorem tInv_set {T : zL} {n p i : Nat} {R : Option Nat × Nat} (h : tInv T n p) (hR : R.2 ≤ 120) : tInv (tSet T i R) n R.2 := by
  unfold tSet
  split
  · exact tInv_pos h hR
  · exact tInv_num (tInv_pos h hR)
theorem tSet_1 (T : zL) (i : Nat) (R : Option Nat × Nat) : tSet T i R 1 = T 1 := by
  obtain ⟨a, b⟩ := R
  cases a with
  | none => rfl
  | some a => rfl
theorem tNum_102 {ch : Nat → Int32} {n p : Nat} {k : Int32} (h : k = nI 102) : tNum ch n k p = tRange ch n 0 4 1 0 p := by subst h; rfl
theorem tNum_116 {ch : Nat → Int32} {n p : Nat} {k : Int32} (h : k = nI 116) : tNum ch n k p = tRange ch n 0 3 1 0 p := by subst h; rfl
theorem tNum_110 {ch : Nat → Int32} {n p : Nat} {k : Int32} (h : k = nI 110) : tNum ch n k p = tRange ch n 1 9 1 0 p := by subst h; rfl
theorem tNum_100 {ch : Nat → Int32} {n p : Nat} {k : Int32} (h : k = nI 100) : tNum ch n k p = tRange ch n 0 39 2 0 p := by subst h; rfl
theorem tNum_99 {ch : Nat → Int32} {n p : Nat} {k : Int32} (h : k = nI 99) : tNum ch n k p = tRange ch n 0 11 2 0 p := by subst h; rfl
theorem tNum_97 {ch : Nat → Int32} {n p : Nat} {k : Int32} (h : k = nI 97) : tNum ch n k p = tRange ch n 1 9999 4 0 p := by subst h; rfl
theorem tNum_no {ch : Nat → Int32} {n p : Nat} {k : Int32} (h : (tKind k).1 = 0) : tNum ch n k p = (none, p) := if_pos h
theorem tStr_lt (c : Int32) : tStr c < 8 := by
  unfold tStr
  repeat' split
  all_goals decide
/-- the reader begins: is it well, where it stands, the text's cells -/
def tSt (T : zL) (n : Nat) : Bool × Nat × zL := if n = 0 ∨ ¬ T 1 0 = nI 83 then (false, 0, tPos T 0) else (true, 1, tPos T 1)
/-- i numbers of the kinds ks are read -/
def tGo (ch : Nat → Int32) (n : Nat) (ks : Nat → Int32) (p : Nat) (X : zL) : Nat → Bool × Nat × zL
  | 0 => (true, p, X)
  | i + 1 => let a := tGo ch n ks p X i; if a.1 = true then ((tNum ch n (ks i) a.2.1).1.isSome, (tNum ch n (ks i) a.2.1).2, tSet a.2.2 i (tNum ch n (ks i) a.2.1)) else a
/-- a command is read -/
def tRd (T : zL) (n p : Nat) : Bool × Nat × zL := if ¬ p < n then (false, p, T) else if zk_sl.getD (tStr (T 1 p)) 0 = 0 then (false, p, up2 T 0 2 (T 1 p)) else tGo (T 1) n (zk_ch (tStr (T 1 p))) (p + 1) (tPos (up2 T 0 2 (T 1 p)) (p + 1)) (zk_sl.getD (tStr (T 1 p)) 0)
def tStep (n : Nat) (x : Bool × Nat × zL) : Bool × Nat × zL := if x.1 = true ∧ x.2.1 < n then tRd x.2.2 n x.2.1 else x
/-- all commands are read -/
def tEr (T : zL) (n : Nat) : Bool × Nat × zL := zfold (fun _ x => tStep n x) 120 (tSt T n)
theorem tSt_0 {T : zL} {n : Nat} (h : n = 0 ∨ ¬ T 1 0 = nI 83) : tSt T n = (false, 0, tPos T 0) := if_pos h
theorem tSt_1 {T : zL} {n : Nat} (h : ¬ (n = 0 ∨ ¬ T 1 0 = nI 83)) : tSt T n = (true, 1, tPos T 1) := if_neg h
theorem tSt_inv {T : zL} {n p : Nat} (h : tInv T n p) : tInv (tSt T n).2.2 n (tSt T n).2.1 := by
  unfold tSt
  split
  · exact tInv_pos h (by decide)
  · exact tInv_pos h (by decide)
theorem tGo_inv {ch ks : Nat → Int32} {n p : Nat} {X : zL} (h : tInv X n p) : ∀ i, tInv (tGo ch n ks p X i).2.2 n (tGo ch n ks p X i).2.1
  | 0 => h
  | i + 1 => by
    have ih := tGo_inv (ch := ch) (ks := ks) h i
    rw [tGo]
    split
    · exact tInv_set ih (tNum_le h.2.1 ih.2.2.2.1)
    · exact ih
theorem tGo_1 {ch ks : Nat → Int32} {n p : Nat} {X : zL} : ∀ i, (tGo ch n ks p X i).2.2 1 = X 1
  | 0 => rfl
  | i + 1 => by
    rw [tGo]
    split
    · exact (tSet_1 _ _ _).trans (tGo_1 i)
    · exact tGo_1 i
theorem tRd_inv {T : zL} {n p : Nat} (h : tInv T n p) : tInv (tRd T n p).2.2 n (tRd T n p).2.1 := by
  unfold tRd
  split
  · exact h
  · rename_i hpn
    split
    · exact tInv_let h
    · exact tGo_inv (tInv_pos (tInv_let h) (by have := h.2.1; omega)) _
theorem tRd_1 {T : zL} {n p : Nat} : (tRd T n p).2.2 1 = T 1 := by
  unfold tRd
  split
  · rfl
  · split
    · rfl
    · exact tGo_1 _
theorem tGo_s {ch ks : Nat → Int32} {n p i q : Nat} {X Z : zL} (h : (true, q, Z) = tGo ch n ks p X i) : tGo ch n ks p X (i + 1) = ((tNum ch n (ks i) q).1.isSome, (tNum ch n (ks i) q).2, tSet Z i (tNum ch n (ks i) q)) := by
  rw [tGo, ← h]
  rfl
theorem tGo_no {ch ks : Nat → Int32} {n p i : Nat} {X : zL} (h : (tGo ch n ks p X i).1 = false) : ∀ k, tGo ch n ks p X (i + k) = tGo ch n ks p X i
  | 0 => rfl
  | k + 1 => by
    have ih := tGo_no h k
    show tGo ch n ks p X (i + k + 1) = _
    rw [tGo, ih, if_neg (by rw [h]; decide)]
theorem tGo_end {ch ks : Nat → Int32} {n p i m b : Nat} {X c : zL} {a : Bool} (him : i + 1 ≤ m) (h : tGo ch n ks p X (i + 1) = (a, b, c)) (ha : a = false) : tGo ch n ks p X m = (false, b, c) := by
  have := tGo_no (by rw [h]; exact ha) (m - (i + 1)) (ch := ch) (n := n) (ks := ks) (p := p) (X := X) (i := i + 1)
  rw [show i + 1 + (m - (i + 1)) = m by omega, h, ha] at this
  exact this
theorem zk_some {α : Type} {x : Option α} (h : ¬ x = none) : x.isSome = true := by cases x with | none => exact absurd rfl h | some y => rfl
theorem zk_none {α : Type} {x : Option α} (h : ¬ ¬ x = none) : x.isSome = false := by cases x with | none => rfl | some y => exact absurd (fun z => by cases z) h
/-- a step that stays -/
theorem tEr_stay {n i : Nat} {x y : Bool × Nat × zL} (h : y = zfold (fun _ x => tStep n x) i x) (hs : ¬ (y.1 = true ∧ y.2.1 < n)) (hi : i ≤ 120) : zfold (fun _ x => tStep n x) 120 x = y := by
  have := zfold_stay (f := fun _ x => tStep n x) (P := fun x => ¬ (x.1 = true ∧ x.2.1 < n)) (fun i x h => if_neg h) (s := x) i (by rw [← h]; exact hs) (120 - i)
  rw [show i + (120 - i) = 120 by omega] at this
  exact this.trans h.symm
theorem tEr_s {n i : Nat} {x y : Bool × Nat × zL} (h : y = zfold (fun _ x => tStep n x) i x) (h1 : y.1 = true) (h2 : y.2.1 < n) : tRd y.2.2 n y.2.1 = zfold (fun _ x => tStep n x) (i + 1) x := by
  show _ = tStep n (zfold (fun _ x => tStep n x) i x)
  rw [← h]
  exact (if_pos ⟨h1, h2⟩).symm
section ZT
variable {p : Program} {l : Launch} {e : Env} {R : Room} {s : State} {m : MethodId} {args : Array Value} {below : List Frame} {meth : Method} {c : Code} {H : Heap} {locs : List Loc} {cells slots : Nat} {Q : State → Prop}
variable {cc : ByteArray} {pc : Nat} {ls : Array Slot} {rest st : List Value} {D : va_G} {cl : List vw_C} {A : Nat → Prop} {a : Nat} {tys : List (ClassId × FieldType)} {ws wc wr : va_W} {H0 : Heap} {G : zk_G}
theorem zk_castN (hx : p.tables.exec = Jvm.exec) (hb : c.code = cc) (hK : va_K D cl tys s) (hP : va_P D cl ws H) (hD : va_D A ws) (hS : va_S A H0 H locs) (q0 t0 : Nat) {cA : ClassId} {k n : Nat} {f : Nat → Int32} (ha : ws[q0]? = some (a, .inl (cA, n, .inl f))) (ht : tys[t0]? = some (cA, .char)) {x : Nat} (hx2 : x < 65536) (hk : k < n) (hn : n < 2 ^ 31) (hdg : decode cc pc = .ok (.castore, 1))
    (kk : ∀ (H1 : Heap) (locs1 : List Loc), va_P D cl (ws.set q0 (a, .inl (cA, n, .inl (upd f k (nI x))))) H1 → va_D A (ws.set q0 (a, .inl (cA, n, .inl (upd f k (nI x))))) → va_S A H0 H1 locs1 → W p l e R s m args below meth c H1 locs1 cells slots Q (F0 m (pc + 1) ls rest)) : W p l e R s m args below meth c H locs cells slots Q (F0 m pc ls (.int (nI x) :: .int (nI k) :: .ref a :: rest)) := by
  have e : vp_nar .char (nI x) = nI x := by
    have h := (pk_charN hx2).1
    unfold vp_nar
    rw [h]
  refine va_cast hx hb hK hP hD hS q0 t0 ha ht (vp_in_nI hk hn) hdg ?_
  rw [nI_clamp (by omega), e]
  exact kk
/-- contracts with a reference as the answer: the cell's address out of what is known -/
def zk_S (l : Launch) (y : MethodName) (ws : List Cond) (rm : Room) (G : zk_G) (av : List Value) (wc : va_W) {S : Type} (post : S → Prop) (ad : S → Nat) (w1 : S → va_W) : Prop :=
  ∀ sz : Nat, Met l y ws rm (va_Pc av (zk_B G wc sz)) (va_Qr post (fun u a t => a = ad u ∧ zk_Q G (va_A wc sz) w1 u t) (va_A wc sz)) rm.cells rm.slots (va_A wc sz)
theorem zk_bodyS {l : Launch} {y : MethodName} {ws ws' : List Cond} {rm : Room} {G : zk_G} {av : List Value} {wc : va_W} {S : Type} {post : S → Prop} {ad : S → Nat} {w1 : S → va_W} {cc : ByteArray} {maxL : Nat} {ret : Option FieldType} (hy : plainName y.cls = true) (hw : ws = Cond.code y cc maxL ret :: ws') (hsl : (lg_sl av).length ≤ maxL)
    (body : ∀ (p : Program) (e : Env) (s : State) (m : MethodId) (args : Array Value) (below : List Frame) (meth : Method) (c : Code) (A : Nat → Prop) (ls : Array Slot) (Q : State → Prop), zk_F p s m meth c y ret cc maxL av args ws y.cls G wc A ls → Q = MQ below (va_Qr post (fun u a t => a = ad u ∧ zk_Q G A w1 u t) A) args s rm.cells rm.slots A → W p l e rm s m args below meth c s.heap [] 0 0 Q (F0 m 0 ls [])) : zk_S l y ws rm G av wc post ad w1 := by
  intro sz
  refine Met.ofW (cc := cc) (maxL := maxL) (ret := ret) hy hw ?_
  intro p e s m args below meth c s₁ B hml hv
  obtain ⟨rfl, rfl, hE, hP, hD⟩ := hv
  rw [lg_entry_eq]
  exact body p e s m _ below meth c _ _ _ (zk_F.of B hml hE hP hD hsl) rfl
theorem zk_rets {S : Type} {post : S → Prop} {ad : S → Nat} {w1 : S → va_W} {mc ms : Nat} {nm : String} (u : S) (hQ : Q = MQ below (va_Qr post (fun u a t => a = ad u ∧ zk_Q G A w1 u t) A) args s mc ms A) (hx : p.tables.exec = Jvm.exec) (hb : c.code = cc) (hr : meth.sig.returnType = some (.object nm)) (hlocks : meth.locks = false) (hS : va_S A s.heap H locs) (hP : va_P G.1 vwCl (w1 u) H) (hD : va_D A (w1 u)) (hc : cells ≤ mc) (hs : slots ≤ ms) (hdg : decode cc pc = .ok (.areturn, 1)) (hp : post u) (ha : a = ad u) :
    W p l e R s m args below meth c H locs cells slots Q (F0 m pc ls [.ref a]) := by
  rw [hQ]
  refine W.widen hc hs ?_
  exact W.aret hx hb hr (Or.inl ⟨nm, rfl⟩) (Or.inr ⟨a, rfl⟩) (fun t ht _ => ⟨⟨u, a, rfl, hp, ha, by rw [ht]; exact hP, hD⟩, hS.F ht⟩) hS.2.2 hdg hlocks
theorem zk_callS {S : Type} {post : S → Prop} {ad : S → Nat} {w1 : S → va_W} {mc ms : Nat} {a : Array Value} (hr : va_Run p l e R s m args below meth c H locs cells slots mc ms (F0 m pc ls st) rest (va_Qr post (fun u a t => a = ad u ∧ zk_Q G (va_A wc H.size) w1 u t) (va_A wc H.size) a) (va_A wc H.size))
    (hP : va_P G.1 vwCl (wc ++ wr) H) (hD : va_D A (wc ++ wr)) (hS : va_S A s.heap H locs) (hA : ∀ q : Nat, s.heap.size ≤ q → A q)
    (kk : ∀ (u : S) (H1 : Heap) (locs1 : List Loc), post u → va_P G.1 vwCl (w1 u ++ wr) H1 → va_D A (w1 u ++ wr) → va_S A s.heap H1 locs1 → W p l e R s m args below meth c H1 locs1 (cells + mc) (slots + ms) Q (F0 m (pc + 3) ls (.ref (ad u) :: rest))) : W p l e R s m args below meth c H locs cells slots Q (F0 m pc ls st) := by
  have hF := zk_free hS hA (zk_Dapp hD).1
  refine va_callr hr hS (fun q _ h => hF q h) hF (fun u ra t H1 locs1 ht hvm hw hB hz1 hk1 hS1 => ?_)
  obtain ⟨e, hP1, hD1⟩ := hB
  subst e
  rw [ht] at hP1
  obtain ⟨j1, j2⟩ := zk_join hP hD hk1 hF hP1 hD1
  exact kk u H1 locs1 hw j1 j2 hS1
end ZT
