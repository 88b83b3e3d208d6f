theorem pvN_w {E E' : Nat → Prop} {x pa rs lo hi n : Nat} {po oc : Nat → Nat} {tb : Nat → Option Nat} {tc : Nat → Nat × Nat × Nat} (h : pvN E x pa rs lo hi n po oc tb tc) (hE : ∀ q, E' q → E q) : pvN E' x pa rs lo hi n po oc tb tc := by
  obtain ⟨h1, h2, h3, h4, h5, h6⟩ := h
  refine ⟨fun q => h1 (hE _ q), fun q => h2 (hE _ q), fun q => h3 (hE _ q), fun q => h4 (hE _ q), fun q => h5 (hE _ q), fun i hi => ?_⟩
  obtain ⟨a, b, c⟩ := h6 i hi
  refine ⟨fun q => a (hE _ q), fun q => b (hE _ q), fun t ht => ?_⟩
  obtain ⟨d, e, f, g⟩ := c t ht
  exact ⟨fun q => d (hE _ q), fun q => e (hE _ q), fun q => f (hE _ q), fun q => g (hE _ q)⟩
theorem pvS_lt {G : va_G} {cA : Nat → ClassId} {x pa rs lo hi n : Nat} {F : Nat → Bool} {O : Nat → Nat → Int64} {po oc : Nat → Nat} {tb : Nat → Option Nat} {tc : Nat → Nat × Nat × Nat} {H : Heap} (h : pvS G cA x pa rs lo hi n F O po oc tb tc H) : pvN (fun q => H.size ≤ q) x pa rs lo hi n po oc tb tc := by
  obtain ⟨h1, h2, h3, ⟨f, h4⟩, ⟨g, h5⟩, h6, h7, h8, h9, h10, h11, h12⟩ := h
  refine ⟨Nat.not_le.mpr (ob_lt h1), Nat.not_le.mpr (aq_lt h2), Nat.not_le.mpr (ob_lt h3), Nat.not_le.mpr (al_lt h4), Nat.not_le.mpr (al_lt h5), fun i hi => ⟨Nat.not_le.mpr (ob_lt (h6 i hi)), Nat.not_le.mpr (al_lt (h7 i hi)), fun t ht => ?_⟩⟩
  obtain ⟨a, b, c, d⟩ := tabAt_lt (h8 i hi t ht)
  exact ⟨Nat.not_le.mpr a, Nat.not_le.mpr b, Nat.not_le.mpr c, Nat.not_le.mpr d⟩
theorem pvS_push {G : va_G} {cA : Nat → ClassId} {x pa rs lo hi n : Nat} {F : Nat → Bool} {O : Nat → Nat → Int64} {po oc : Nat → Nat} {tb : Nat → Option Nat} {tc : Nat → Nat × Nat × Nat} {H H1 : Heap} {p0 o0 : Nat} {b : Bool} {g : Nat → Int64} (hd : dis G cA) (h : pvS G cA x pa rs lo hi n F O po oc tb tc H) (hn : n < 50) (hp0 : ob G 0 p0 [.int (bI b), .ref o0, .null] H) (ho0 : al (cA 0) o0 64 g H) (hf1 : ∀ i, i < n → po i ≠ p0) (hf2 : o0 ≠ lo) (hf3 : o0 ≠ hi)
    (hx : ob G 3 x [.ref pa, .ref rs, .int (nI (n + 1)), .int (nI (dct (fun i => if i = n then g else O i) (n + 1)))] H1) (hpa : aq (cA 2) pa 50 (va_up (pvP n po) n (some p0)) H1) (hk : ∀ q, q ≠ x → q ≠ pa → H1[q]? = H[q]?) :
    pvS G cA x pa rs lo hi (n + 1) (fun i => if i = n then b else F i) (fun i => if i = n then g else O i) (fun i => if i = n then p0 else po i) (fun i => if i = n then o0 else oc i) (fun i => if i = n then none else tb i) tc H1 := by
  obtain ⟨h1, h2, h3, ⟨f4, h4⟩, ⟨f5, h5⟩, h6, h7, h8, h9, h10, h11, h12⟩ := h
  have kx := kd_o (cA := cA) (by decide) h1
  have kp := kd_q (G := G) h2
  have keepO : ∀ {ci a : Nat} {fs : List Value}, ci < 3 → ob G ci a fs H → ob G ci a fs H1 := fun {ci a fs} hc ho => ob_k ho (hk a (kd_ne hd (kd_o (cA := cA) (by omega) ho) kx ⟨by omega, by omega, by omega⟩) (kd_ne hd (kd_o (cA := cA) (by omega) ho) kp ⟨by omega, by omega, by omega⟩))
  have keepL : ∀ {a : Nat} {f : Nat → Int64}, al (cA 0) a 64 f H → al (cA 0) a 64 f H1 := fun {a f} ho => al_k ho (hk a (kd_ne hd (kd_l (G := G) ho) kx (by decide)) (kd_ne hd (kd_l (G := G) ho) kp (by decide)))
  have keepI : ∀ {a : Nat} {f : Nat → Int32}, ai (cA 1) a 64 f H → ai (cA 1) a 64 f H1 := fun {a f} ho => ai_k ho (hk a (kd_ne hd (kd_i (G := G) ho) kx (by decide)) (kd_ne hd (kd_i (G := G) ho) kp (by decide)))
  refine ⟨hx, aq_c hpa (fun j hj => ?_), keepO (by decide) h3, ⟨f4, keepL h4⟩, ⟨f5, keepL h5⟩, fun i hi => ?_, fun i hi => ?_, fun i hi t ht => ?_, by omega, h10, fun i hi => ?_, fun i j hi hj => ?_⟩
  · unfold va_up pvP
    by_cases e : j = n
    · subst e
      simp
    · by_cases e2 : j < n
      · simp [e, e2, Nat.lt_succ_of_lt e2]
      · have e3 : ¬ j < n + 1 := by omega
        simp [e, e2, e3]
  · by_cases e : i = n
    · subst e
      simp only [if_true]
      exact keepO (by decide) hp0
    · simp only [e, if_false]
      exact keepO (by decide) (h6 i (by omega))
  · by_cases e : i = n
    · subst e
      simp only [if_true]
      exact keepL ho0
    · simp only [e, if_false]
      exact keepL (h7 i (by omega))
  · by_cases e : i = n
    · subst e
      simp only [if_true] at ht
      cases ht
    · simp only [e, if_false] at ht ⊢
      obtain ⟨fp, ff, pl, a, b1, c, d, o⟩ := h8 i (by omega) t ht
      exact ⟨fp, ff, pl, keepO (by decide) a, keepI b1, keepI c, keepI d, o⟩
  · by_cases e : i = n
    · subst e
      simp only [if_true]
      exact ⟨hf2, hf3⟩
    · simp only [e, if_false]
      exact h11 i (by omega)
  · by_cases e : i = n <;> by_cases e2 : j = n
    · intro _
      omega
    · subst e
      simp only [if_true, e2, if_false]
      intro q
      exact absurd q.symm (hf1 j (by omega))
    · subst e2
      simp only [if_true, e, if_false]
      intro q
      exact absurd q (hf1 i (by omega))
    · simp only [e, e2, if_false]
      intro q
      exact h12 i j (by omega) (by omega) q
theorem dct_push {O : Nat → Nat → Int64} {g : Nat → Int64} {n : Nat} : (∀ j, j < n → eqO (O j) g = false) → dct O n + 1 = dct (fun i => if i = n then g else O i) (n + 1) := by
  intro h
  have e : dct O n = dct (fun i => if i = n then g else O i) n := dct_ext n (fun i hi => by simp [Nat.ne_of_lt hi])
  rw [e]
  apply dct_t
  apply isN_t
  intro j hj
  simp only [Nat.ne_of_lt hj, if_false, if_true]
  exact h j hj
theorem dct_same {O : Nat → Nat → Int64} {g : Nat → Int64} {n : Nat} : (∃ j, j < n ∧ eqO (O j) g = true) → dct O n = dct (fun i => if i = n then g else O i) (n + 1) := by
  rintro ⟨j, hj, h⟩
  have e : dct O n = dct (fun i => if i = n then g else O i) n := dct_ext n (fun i hi => by simp [Nat.ne_of_lt hi])
  rw [e]
  apply dct_f
  apply isN_f hj
  simp only [Nat.ne_of_lt hj, if_false, if_true]
  exact h
