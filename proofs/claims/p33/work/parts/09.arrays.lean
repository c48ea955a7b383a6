-- arrays: what lies within counts
theorem zk_cell {k : ClassId} {n : Nat} {f g : Nat → Int32} (h : ∀ j, j < n → f j = g j) : vp_cell k (n, .inl f) = vp_cell k (n, .inl g) := by
  rw [vp_cell_i, vp_cell_i]
  have e : (fun j : Fin n => Value.int (f j.val)) = fun j : Fin n => Value.int (g j.val) := funext fun j => by rw [h j.1 j.2]
  unfold arrV
  rw [e]
theorem zk_cong {D : va_G} {cl : List vw_C} {ws : va_W} {H : Heap} {A : Nat → Prop} {q0 a : Nat} {k : ClassId} {n : Nat} {f g : Nat → Int32} (hP : va_P D cl ws H) (hD : va_D A ws) (ha : ws[q0]? = some (a, .inl (k, n, .inl f))) (h : ∀ j, j < n → f j = g j) :
    va_P D cl (ws.set q0 (a, .inl (k, n, .inl g))) H ∧ va_D A (ws.set q0 (a, .inl (k, n, .inl g))) := by
  refine ⟨va_P.set hP hD ha ?_ (fun _ _ => rfl), hD.set ha⟩
  have h1 := hP q0 _ ha
  show H[a]? = some (vp_cell k (n, .inl g))
  rw [← zk_cell h]
  exact h1
theorem zk_cA {G : zk_G} {s : State} {cA : ClassId} {ty : FieldType} {k : Nat} (hK : va_K G.1 vwCl (zk_TY G.2.1) s) (hK2 : va_K G.1 vwCl (zk_TY G.2.1 ++ [(cA, ty)]) s) (hk : (zk_TY G.2.1)[k]? = some (G.2.1 k, ty)) (hp : ∀ C, ty ≠ .object C) : cA = G.2.1 k := by
  have h1 := (hK2.2 5 (cA, ty) rfl).2
  have h2 := (hK.2 k _ hk).2
  cases ty with
  | object C => exact absurd rfl (hp C)
  | _ => exact Option.some.inj ((show s.vm.findClass _ = some cA from h1).symm.trans (show s.vm.findClass _ = some (G.2.1 k) from h2))
section ZC
variable {p : Program} {l : Launch} {e : Env} {R : Room} {s : State} {m : MethodId} {args : Array Value} {below : List Frame} {meth : Method} {c : Code} {H : Heap} {locs : List Loc} {cells slots : Nat} {Q : State → Prop}
variable {cc : ByteArray} {pc : Nat} {ls : Array Slot} {rest : List Value} {D : va_G} {cl : List vw_C} {A : Nat → Prop} {a : Nat} {tys : List (ClassId × FieldType)} {ws : va_W} {H0 : Heap}
theorem zk_copyN (hx : p.tables.exec = Jvm.exec) (hb : c.code = cc) (hml : c.maxLocals = ls.size) {own : String} {index : Nat} (hown : s.vm.findClass own = some m.cls) (hlink : (Cond.methodLink own index arraycopyName).before args s = true) (hnat : (Cond.native arraycopyName).before args s = true) (hstat : (Cond.static arraycopyName).before args s = true) (hini : (Cond.initialized "java/lang/System").before args s = true)
    (hK : va_K D cl tys s) (hP : va_P D cl ws H) (hD : va_D A ws) (hS : va_S A H0 H locs) (q0 q1 t0 : Nat) {a0 : Nat} {c0 : ClassId} {n : Nat} {f g : Nat → Int32} (ha0 : ws[q0]? = some (a0, .inl (c0, n, .inl f))) (ha1 : ws[q1]? = some (a, .inl (c0, n, .inl g))) (ht0 : tys[t0]? = some (c0, .int)) (hn : n < 2 ^ 31)
    (hframes : 1 ≤ R.frames) (hlocals : (rest.map fun v => v.category).sum + (nativeFrameWords "java/lang/System" "arraycopy" 5 + 11) ≤ R.locals) (hdg : decode cc pc = .ok (.invokestatic index, 3))
    (kk : ∀ (H1 : Heap) (locs1 : List Loc), va_P D cl (ws.set q1 (a, .inl (c0, n, .inl f))) H1 → va_D A (ws.set q1 (a, .inl (c0, n, .inl f))) → va_S A H0 H1 locs1 → W p l e R s m args below meth c H1 locs1 cells slots Q (F0 m (pc + 3) ls rest)) : W p l e R s m args below meth c H locs cells slots Q (F0 m pc ls (.int (nI n) :: .int (nI 0) :: .ref a :: .int (nI 0) :: .ref a0 :: rest)) := by
  have n0 : (nI 0).toNatClampNeg = 0 := by decide
  have nn : (nI n).toNatClampNeg = n := nI_clamp hn
  refine va_copyi hx hb hml hown hlink hnat hstat hini hK hP hD hS q0 q1 t0 t0 ha0 ha1 ht0 ht0 rfl (by decide) (by decide) (nI_pos hn) (by rw [n0, nn]; omega) (by rw [n0, nn]; omega) (fun _ _ => rfl) hframes hlocals hdg (fun H1 locs1 hP1 hD1 hS1 => ?_)
  rw [n0, nn] at hP1 hD1
  have ha2 : (ws.set q1 (a, (.inl (c0, n, .inl (va_cpy f g 0 0 n)) : va_E)))[q1]? = some (a, .inl (c0, n, .inl (va_cpy f g 0 0 n))) := by
    rw [List.getElem?_set_self (List.getElem?_eq_some_iff.mp ha1).1]
  obtain ⟨h1, h2⟩ := zk_cong (g := f) hP1 hD1 ha2 (fun j hj => by rw [pk_cpy_in (Nat.zero_le j) (by omega)]; congr 1; omega)
  rw [List.set_set] at h1 h2
  exact kk H1 locs1 h1 h2 hS1
end ZC
theorem zb_eq {G : zk_G} {ad : Nat → Nat} {L K : Nat → Nat → Int32} (n0 : L 0 0 = K 0 0) (n1 : L 0 1 = K 0 1) (n2 : L 0 2 = K 0 2) (n3 : L 0 3 = K 0 3) (n4 : L 0 4 = K 0 4) (r1 : L 1 = K 1) (r2 : L 2 = K 2) (r3 : L 3 = K 3) (r4 : L 4 = K 4) (r5 : L 5 = K 5) (r6 : L 6 = K 6) (r7 : L 7 = K 7) (r8 : L 8 = K 8) (r9 : L 9 = K 9) (r10 : L 10 = K 10) (r11 : L 11 = K 11) : zb_L G ad L ++ zb_M G ad L = zb_L G ad K ++ zb_M G ad K := by
  unfold zb_L zb_M
  rw [n0, n1, n2, n3, n4, r1, r2, r3, r4, r5, r6, r7, r8, r9, r10, r11]
