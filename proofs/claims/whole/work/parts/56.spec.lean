theorem pvN_push {E : Nat → Prop} {x pa rs lo hi n p0 o0 : Nat} {po oc : Nat → Nat} {tb : Nat → Option Nat} {tc : Nat → Nat × Nat × Nat} (h : pvN E x pa rs lo hi n po oc tb tc) (hp : ¬ E p0) (ho : ¬ E o0) : pvN E x pa rs lo hi (n + 1) (fun i => if i = n then p0 else po i) (fun i => if i = n then o0 else oc i) (fun i => if i = n then none else tb i) tc := by
  obtain ⟨h1, h2, h3, h4, h5, h6⟩ := h
  refine ⟨h1, h2, h3, h4, h5, fun i hi => ?_⟩
  by_cases e : i = n
  · subst e
    simp only [if_true]
    exact ⟨hp, ho, fun t ht => by cases ht⟩
  · simp only [e, if_false]
    exact h6 i (by omega)
theorem W.forgetN {p : Program} {l : Launch} {e : Env} {R : Room} {s : State} {m : MethodId} {args : Array Value} {below : List Frame} {meth : Method} {c : Code} {H : Heap} {locs : List Loc} {cells slots : Nat} {Q : State → Prop} {g : JFrame} {x : Nat} (hL : ∀ z ∈ locs, z.base = x ∨ s.heap.size ≤ z.base) (kk : ∀ lc : List Loc, (∀ z ∈ lc, (fun q => q = x) z.base) → W p l e R s m args below meth c H lc cells slots Q g) : W p l e R s m args below meth c H locs cells slots Q g := by
  intro T hT X
  have X2 : Stand p l e R s m args below meth c T (locs.filter (fun z => decide (z.base = x))) cells slots :=
    { X with same := X.same.weaken (fun y hy hlt => (hL y hy).elim (fun h => List.mem_filter.mpr ⟨hy, by simpa using h⟩) (fun h => absurd hlt (Nat.not_lt.mpr h))) (Nat.le_refl _) (Nat.le_refl _) }
  exact kk _ (fun z hz => by have := (List.mem_filter.mp hz).2; simpa using this) T hT X2
