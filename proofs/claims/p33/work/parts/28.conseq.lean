/-! Contracts over a larger world; a whole object's world. -/
theorem zk_IH.of {l : Launch} {y : MethodName} {ws : List Cond} {rm : Room} {G : zk_G} {av : List Value} {wc : va_W} {S : Type} {post : Int32 → S → Prop} {w1 : S → va_W} (h : zk_I l y ws rm G av wc post w1) : zk_IH l y ws rm G av wc post w1 := by
  intro sz p e ha hc hk s m args below hf happ hP hK
  exact h sz p e ha hc hk s m args below hf happ ⟨hP.1, hP.2.1⟩ hK
theorem zk_conseq {l : Launch} {y : MethodName} {ws : List Cond} {rm : Room} {G : zk_G} {av : List Value} {wc wr wc' : va_W} {S S' : Type} {post : Int32 → S → Prop} {w1 : S → va_W} {post' : Int32 → S' → Prop} {w1' : S' → va_W}
    (h : zk_IH l y ws rm G av wc post w1) (hp : wc'.Perm (wc ++ wr))
    (hq : ∀ r u, post r u → ∃ u', post' r u' ∧ ∀ (H : Heap) (A : Nat → Prop), va_P G.1 vwCl (w1 u ++ wr) H → va_D A (w1 u ++ wr) → va_P G.1 vwCl (w1' u') H ∧ va_D A (w1' u')) : zk_IH l y ws rm G av wc' post' w1' := by
  intro sz p e ha hc hk s m args below hf happ hP hK
  obtain ⟨hav, ⟨hsz, hE, hPw, hDw⟩, hN⟩ := hP
  subst hsz
  have hP2 := zk_Pperm hPw hp
  have hD2 := zk_Dperm hDw hp
  have hD3 : va_D (va_A wc' s.heap.size) (wc ++ wr) := zk_Dperm hDw.self hp
  obtain ⟨n, o, h1, h2, h3, ⟨⟨r, u, ho, hpost, hB⟩, hFr⟩, L, hL1, hL2⟩ := h s.heap.size p e ha hc hk s m args below hf happ ⟨hav, ⟨rfl, hE, (zk_Papp hP2).1, (zk_Dapp hD2).1⟩, hN⟩ hK
  have hFA : ∀ q, va_A wc s.heap.size q → va_A wc' s.heap.size q := by
    intro q hq
    rcases hq with ⟨k, e, hk⟩ | hq
    · obtain ⟨j, hj⟩ := zk_at (hp.mem_iff.mpr (List.mem_append_left _ (List.mem_of_getElem? hk)))
      exact Or.inl ⟨j, e, hj⟩
    · exact Or.inr hq
  obtain ⟨u', hp', himp⟩ := hq r u hpost
  obtain ⟨j1, j2⟩ := zk_join hP2 hD3 hFr.2 hFA hB.1 hB.2
  exact ⟨n, o, h1, h2, h3, ⟨⟨r, u', ho, hp', himp _ _ j1 j2⟩, hFr.1, fun q hq1 hq2 => hFr.2 q hq1 (fun z => hq2 (hFA q z))⟩, L, hL1, fun q hq => hFA _ (hL2 q hq)⟩
