/-! New objects, and pools of ledgers. -/
theorem zk_pm1 (a t x : va_W) : ((a ++ t) ++ x).Perm ((a ++ x) ++ t) := by
  rw [List.append_assoc, List.append_assoc]
  exact List.Perm.append_left a List.perm_append_comm
theorem zk_pm2 (a x t : va_W) : ((a ++ x) ++ t).Perm (x ++ (a ++ t)) := by
  rw [← List.append_assoc x a t]
  exact List.Perm.append_right t List.perm_append_comm
theorem zk_pm4 (a c b h : va_W) : ((a ++ c) ++ (b ++ h)).Perm (a ++ ((b ++ c) ++ h)) := by
  rw [List.append_assoc, ← List.append_assoc c b h]
  exact List.Perm.append_left a (List.Perm.append_right h List.perm_append_comm)
/-- a pool of n ledgers -/
def zb_P (G : zk_G) (ad : Nat → Nat → Nat) (S : Nat → zL) : Nat → va_W
  | 0 => []
  | n + 1 => zb_P G ad S n ++ (zb_L G (ad n) (S n) ++ zb_M G (ad n) (S n))
theorem zb_P_eq {G : zk_G} {ad bd : Nat → Nat → Nat} {S K : Nat → zL} : ∀ {n : Nat}, (∀ k, k < n → ad k = bd k ∧ S k = K k) → zb_P G ad S n = zb_P G bd K n
  | 0, _ => rfl
  | n + 1, h => by
    rw [zb_P, zb_P, zb_P_eq (fun k hk => h k (by omega)), (h n (by omega)).1, (h n (by omega)).2]
theorem zb_P_s (G : zk_G) (ad : Nat → Nat → Nat) (S : Nat → zL) (u : Nat → Nat) (i : Nat) : zb_P G (va_up ad i u) S (i + 1) = zb_P G ad S i ++ (zb_L G u (S i) ++ zb_M G u (S i)) := by
  rw [zb_P, va_up_self, zb_P_eq (bd := ad) (K := S) (fun k hk => ⟨va_up_ne ad u (by omega), rfl⟩)]
/-- one of a pool, and the rest -/
def zb_O (G : zk_G) (ad : Nat → Nat → Nat) (S : Nat → zL) (k : Nat) : Nat → va_W
  | 0 => []
  | n + 1 => if n = k then zb_P G ad S n else zb_O G ad S k n ++ (zb_L G (ad n) (S n) ++ zb_M G (ad n) (S n))
theorem zb_O_perm (G : zk_G) (ad : Nat → Nat → Nat) (S : Nat → zL) (k : Nat) : ∀ n, k < n → (zb_P G ad S n).Perm ((zb_L G (ad k) (S k) ++ zb_M G (ad k) (S k)) ++ zb_O G ad S k n)
  | 0, h => absurd h (Nat.not_lt_zero k)
  | n + 1, h => by
    by_cases e : n = k
    · subst e
      rw [zb_P, zb_O, if_pos rfl]
      exact List.perm_append_comm
    · have h2 := List.Perm.append_right (zb_L G (ad n) (S n) ++ zb_M G (ad n) (S n)) (zb_O_perm G ad S k n (by omega))
      rw [List.append_assoc (zb_L G (ad k) (S k) ++ zb_M G (ad k) (S k))] at h2
      rw [zb_P, zb_O, if_neg e]
      exact h2
theorem zb_O_eq {G : zk_G} {ad : Nat → Nat → Nat} {S K : Nat → zL} {k : Nat} : ∀ {n : Nat}, (∀ j, j < n → j ≠ k → S j = K j) → zb_O G ad S k n = zb_O G ad K k n
  | 0, _ => rfl
  | n + 1, h => by
    rw [zb_O, zb_O]
    by_cases e : n = k
    · rw [if_pos e, if_pos e]
      exact zb_P_eq (fun j hj => ⟨rfl, h j (by omega) (by omega)⟩)
    · rw [if_neg e, if_neg e, zb_O_eq (fun j hj hk => h j (by omega) hk), h n (by omega) e]
/-- one of a pool changes -/
theorem zb_O_set (G : zk_G) (ad : Nat → Nat → Nat) (S : Nat → zL) {k n : Nat} (hk : k < n) (L : zL) : ((zb_L G (ad k) L ++ zb_M G (ad k) L) ++ zb_O G ad S k n).Perm (zb_P G ad (va_up S k L) n) := by
  refine (List.Perm.symm ?_)
  have := zb_O_perm G ad (va_up S k L) k n hk
  rw [va_up_self, zb_O_eq (K := S) (fun j _ hj => va_up_ne S L hj)] at this
  exact this
def zL0 : zL := fun i j => if i = 0 then (if j = 2 then nI 250 else if j = 3 then nI 500 else nI 0) else nI 0
def zT0 : zL := fun _ _ => nI 0
def zR0 : zL := fun _ _ => nI 0
/-- addresses out of a list, from a place on -/
def zk_ad (b : Nat) (l : List Nat) : Nat → Nat := fun k => l.getD (k - b) 0
def zk_ads (l : List Nat) (u : Nat → Nat) : Nat → Nat := fun k => if k < 9 then l.getD k 0 else u k
theorem sInv_0 : sInv zL0 0 0 := ⟨rfl, by decide, rfl, by decide, fun c hc => absurd hc (Nat.not_lt_zero c), fun p _ h => absurd (show nI 0 = nI 2 from h) (by decide)⟩
theorem tInv_0 : tInv zT0 0 0 := ⟨rfl, by decide, rfl, by decide, fun k _ => ⟨0, by decide, rfl⟩⟩
theorem zk_cellq {k : ClassId} {n : Nat} {f g : Nat → Option Nat} (h : ∀ j, j < n → f j = g j) : vp_cell k (n, .inr (.inr (.inr (.inr f)))) = vp_cell k (n, .inr (.inr (.inr (.inr g)))) := by
  rw [vp_cell_q, vp_cell_q]
  have e : (fun j : Fin n => va_rf (f j.val)) = fun j : Fin n => va_rf (g j.val) := funext fun j => by rw [h j.1 j.2]
  unfold arrV
  rw [e]
theorem zk_congq {D : va_G} {cl : List vw_C} {ws : va_W} {H : Heap} {A : Nat → Prop} {q0 a : Nat} {k : ClassId} {n : Nat} {f g : Nat → Option Nat} (hP : va_P D cl ws H) (hD : va_D A ws) (ha : ws[q0]? = some (a, .inl (k, n, .inr (.inr (.inr (.inr f)))))) (h : ∀ j, j < n → f j = g j) :
    va_P D cl (ws.set q0 (a, .inl (k, n, .inr (.inr (.inr (.inr g)))))) H ∧ va_D A (ws.set q0 (a, .inl (k, n, .inr (.inr (.inr (.inr g)))))) := by
  refine ⟨va_P.set hP hD ha ?_ (fun _ _ => rfl), hD.set ha⟩
  have h1 := hP q0 _ ha
  show H[a]? = some (vp_cell k (n, .inr (.inr (.inr (.inr g)))))
  rw [← zk_cellq h]
  exact h1
theorem zk_cAq {G : zk_G} {s : State} {cA : ClassId} (hK : va_K G.1 vwCl (zk_TY G.2.1) s) (hK2 : va_K G.1 vwCl (zk_TY G.2.1 ++ [(cA, .object "MealAccounts$Ledger")]) s) : cA = G.2.1 4 := by
  obtain ⟨_, _, _, _, _, h1⟩ := (hK2.2 5 (cA, .object "MealAccounts$Ledger") rfl).2
  obtain ⟨_, _, _, _, _, h2⟩ := (hK.2 4 (G.2.1 4, .object "MealAccounts$Ledger") rfl).2
  exact Option.some.inj (h1.symm.trans h2)
/-- the history: the ring's ledgers, the oldest, how many -/
def zb_H (G : zk_G) (h arr : Nat) (ad : Nat → Nat → Nat) (S : Nat → zL) (old cnt : Int32) : va_W :=
  [(h, .inr (0, [.ref arr, .int old, .int cnt])), (arr, .inl (G.2.1 4, 14, .inr (.inr (.inr (.inr fun k => some (ad k 0))))))] ++ zb_P G ad S 14
theorem zk_a0int (n : Nat) : ∀ cA : ClassId, vp_cell cA (n, .inl (fun _ => nI 0)) = arrV cA n (fun _ => defaultValue .int) := fun _ => rfl
theorem zk_a0char (n : Nat) : ∀ cA : ClassId, vp_cell cA (n, .inl (fun _ => nI 0)) = arrV cA n (fun _ => defaultValue .char) := fun _ => rfl
theorem zk_a0boolean (n : Nat) : ∀ cA : ClassId, vp_cell cA (n, .inl (fun _ => nI 0)) = arrV cA n (fun _ => defaultValue .boolean) := fun _ => rfl
theorem zk_bytes {ty : FieldType} {n : Nat} (hn : n ≤ 100000) (ht : componentBytes ty ≤ 8) : n * componentBytes ty ≤ 536870912 := Nat.le_trans (Nat.mul_le_mul hn ht) (by decide)
theorem zk_cs {p : Program} {l : Launch} {e : Env} {R : Room} {s : State} {m : MethodId} {args : Array Value} {below : List Frame} {meth : Method} {c : Code} {H : Heap} {locs : List Loc} {Q : State → Prop} {g : JFrame} {c1 s1 : Nat} (c2 s2 : Nat) (hc : c1 = c2) (hs : s1 = s2) (k : W p l e R s m args below meth c H locs c2 s2 Q g) : W p l e R s m args below meth c H locs c1 s1 Q g := by
  subst hc
  subst hs
  exact k
/-- the addresses of a MealAccounts: itself; text; now; trial; history (itself, its array, the ring); the slots' array, the flags', the slots -/
abbrev zA : Type := Nat × (Nat → Nat) × (Nat → Nat) × (Nat → Nat) × (Nat × Nat × (Nat → Nat → Nat)) × Nat × Nat × (Nat → Nat → Nat)
def zb_5 (G : zk_G) (a : zA) : va_W := [(a.1, .inr (4, [.ref (a.2.1 1), .ref (a.2.2.1 0), .ref (a.2.2.2.1 0), .ref a.2.2.2.2.1.1, .ref a.2.2.2.2.2.1, .ref a.2.2.2.2.2.2.1]))]
def zb_S (G : zk_G) (a : zA) (sv : Nat → Int32) : va_W := [(a.2.2.2.2.2.1, .inl (G.2.1 4, 2, .inr (.inr (.inr (.inr fun k => some (a.2.2.2.2.2.2.2 k 0)))))), zk_a a.2.2.2.2.2.2.1 (G.2.1 1) 2 sv]
/-- a new MealAccounts -/
def zb_X0 (G : zk_G) (a : zA) : va_W :=
  (((((zb_5 G a) ++ (zb_T G a.2.1 zT0)) ++ (zb_L G a.2.2.1 zL0 ++ zb_M G a.2.2.1 zL0)) ++ (zb_L G a.2.2.2.1 zL0 ++ zb_M G a.2.2.2.1 zL0)) ++ (zb_S G a (fun _ => nI 0))) ++ (zb_P G a.2.2.2.2.2.2.2 (fun _ => zL0) 2 ++ zb_H G a.2.2.2.2.1.1 a.2.2.2.2.1.2.1 a.2.2.2.2.1.2.2 (fun _ => zL0) (nI 0) (nI 0))
theorem zk_topv {p : Program} {l : Launch} {e : Env} {R : Room} {s : State} {m : MethodId} {args : Array Value} {below : List Frame} {meth : Method} {c : Code} {H : Heap} {locs : List Loc} {cells slots : Nat} {Q : State → Prop} {pc : Nat} {ls : Array Slot} {rest : List Value} {v w : Value} (h : v = w) (k : W p l e R s m args below meth c H locs cells slots Q (F0 m pc ls (w :: rest))) : W p l e R s m args below meth c H locs cells slots Q (F0 m pc ls (v :: rest)) := by rw [h]; exact k
theorem zk_pm5 {cb lm p x o : va_W} (hp : p.Perm (x ++ o)) : ((cb ++ lm) ++ p).Perm ((x ++ lm) ++ (cb ++ o)) := by
  refine (List.Perm.append_left (cb ++ lm) hp).trans ?_
  rw [← List.append_assoc (cb ++ lm) x o, ← List.append_assoc (x ++ lm) cb o]
  refine List.Perm.append_right o (List.perm_append_comm.trans ?_)
  rw [List.append_assoc]
  exact List.Perm.append_left x List.perm_append_comm
theorem zk_pm6 {cb lm p x o : va_W} (hp : p.Perm (x ++ o)) : ((cb ++ lm) ++ p).Perm ((lm ++ x) ++ (cb ++ o)) := by
  refine (zk_pm5 hp).trans ?_
  exact List.Perm.append_right (cb ++ o) List.perm_append_comm
def hRem (o c : Nat) (S : Nat → zL) (L : zL) : Nat × Nat × (Nat → zL) := if c = 14 then ((o + 1) % 14, 14, va_up S (((o + 1) % 14 + 13) % 14) L) else (o, c + 1, va_up S ((o + c) % 14) L)
