theorem pvN_tab {E : Nat → Prop} {x pa rs lo hi n i t0 a1 a2 a3 : Nat} {po oc : Nat → Nat} {tb : Nat → Option Nat} {tc : Nat → Nat × Nat × Nat} (h : pvN E x pa rs lo hi n po oc tb tc) (h0 : ¬ E t0) (e1 : ¬ E a1) (e2 : ¬ E a2) (e3 : ¬ E a3) : pvN E x pa rs lo hi n po oc (fun j => if j = i then some t0 else tb j) (fun j => if j = i then (a1, a2, a3) else tc j) := by
  obtain ⟨h1, h2, h3, h4, h5, h6⟩ := h
  refine ⟨h1, h2, h3, h4, h5, fun j hj => ?_⟩
  obtain ⟨q1, q2, q3⟩ := h6 j hj
  refine ⟨q1, q2, fun t ht => ?_⟩
  by_cases e : j = i
  · subst e
    simp only [if_true] at ht ⊢
    cases ht
    exact ⟨h0, e1, e2, e3⟩
  · simp only [e, if_false] at ht ⊢
    exact q3 t ht
theorem pvS_tab {G : va_G} {cA : Nat → ClassId} {x pa rs lo hi n : Nat} {F : Nat → Bool} {O : Nat → Nat → Int64} {po oc : Nat → Nat} {tb : Nat → Option Nat} {tc : Nat → Nat × Nat × Nat} {H H1 : Heap} {i t0 a1 a2 a3 : Nat} {fl gl : Nat → Int64} (hd : dis G cA) (h : pvS G cA x pa rs lo hi n F O po oc tb tc H) (hi9 : i < n)
    (hlo : al (cA 0) lo 64 fl H1) (hhi : al (cA 0) hi 64 gl H1) (hpo : ob G 0 (po i) [.int (bI (F i)), .ref (oc i), .ref t0] H1) (hnew : tabAt G cA t0 (a1, a2, a3) (O i) H1) (hk : ∀ q, q < H.size → q ≠ lo → q ≠ hi → q ≠ po i → H1[q]? = H[q]?) :
    pvS G cA x pa rs lo hi n F O po oc (fun j => if j = i then some t0 else tb j) (fun j => if j = i then (a1, a2, a3) else tc j) H1 := by
  obtain ⟨h1, h2, h3, ⟨f4, h4⟩, ⟨f5, h5⟩, h6, h7, h8, h9, h10, h11, h12⟩ := h
  have kl := kd_l (G := G) h4
  have kh := kd_l (G := G) h5
  have kp := kd_o (cA := cA) (by decide) (h6 i hi9)
  have keepO : ∀ {ci a : Nat} {fs : List Value}, 1 ≤ ci ∧ ci < 4 → ob G ci a fs H → ob G ci a fs H1 := fun {ci a fs} hc ho => ob_k ho (hk a (ob_lt ho) (kd_ne hd (kd_o (cA := cA) (by omega) ho) kl ⟨by omega, by omega, by omega⟩) (kd_ne hd (kd_o (cA := cA) (by omega) ho) kh ⟨by omega, by omega, by omega⟩) (kd_ne hd (kd_o (cA := cA) (by omega) ho) kp ⟨by omega, by omega, by omega⟩))
  have keepI : ∀ {a : Nat} {f : Nat → Int32}, ai (cA 1) a 64 f H → ai (cA 1) a 64 f H1 := fun {a f} ho => ai_k ho (hk a (ai_lt ho) (kd_ne hd (kd_i (G := G) ho) kl (by decide)) (kd_ne hd (kd_i (G := G) ho) kh (by decide)) (kd_ne hd (kd_i (G := G) ho) kp (by decide)))
  refine ⟨keepO (by decide) h1, aq_k h2 (hk _ (aq_lt h2) (kd_ne hd (kd_q (G := G) h2) kl (by decide)) (kd_ne hd (kd_q (G := G) h2) kh (by decide)) (kd_ne hd (kd_q (G := G) h2) kp (by decide))), keepO (by decide) h3, ⟨fl, hlo⟩, ⟨gl, hhi⟩, fun j hj => ?_, fun j hj => ?_, fun j hj t ht => ?_, h9, h10, h11, h12⟩
  · by_cases e : j = i
    · subst e
      simp only [if_true]
      exact hpo
    · simp only [e, if_false]
      have ko := kd_o (cA := cA) (by decide) (h6 j hj)
      exact ob_k (h6 j hj) (hk _ (ob_lt (h6 j hj)) (kd_ne hd ko kl (by decide)) (kd_ne hd ko kh (by decide)) (fun q => e (h12 j i hj hi9 q)))
  · have ko := kd_l (G := G) (h7 j hj)
    exact al_k (h7 j hj) (hk _ (al_lt (h7 j hj)) (h11 j hj).1 (h11 j hj).2 (kd_ne hd ko kp (by decide)))
  · by_cases e : j = i
    · subst e
      simp only [if_true] at ht ⊢
      cases ht
      exact hnew
    · simp only [e, if_false] at ht ⊢
      obtain ⟨fp, ff, pl, a, b1, c, d, o⟩ := h8 j hj t ht
      exact ⟨fp, ff, pl, keepO (by decide) a, keepI b1, keepI c, keepI d, o⟩
def xQ (G : va_G) (cA : Nat → ClassId) (E : Nat → Prop) (x n : Nat) (F : Nat → Bool) (O : Nat → Nat → Int64) (cond : String → Prop) : String → State → State → Prop := fun X st t => cond X ∧ PVE G cA E x n F O t.heap ∧ va_F (fun q => ¬ E q) st t
theorem xR_Q {G : va_G} {cA : Nat → ClassId} {E : Nat → Prop} {x pa rs lo hi n : Nat} {F : Nat → Bool} {O : Nat → Nat → Int64} {po oc : Nat → Nat} {tb : Nat → Option Nat} {tc : Nat → Nat × Nat × Nat} {H : Heap} {cond cond' : String → Prop} {X : String} {st9 t9 s t : State} (hS : pvS G cA x pa rs lo hi n F O po oc tb tc H) (hN : pvN E x pa rs lo hi n po oc tb tc) (hz : s.heap.size ≤ H.size) (hk : ∀ q, q < s.heap.size → E q → H[q]? = s.heap[q]?) (h : xR cond X st9 t9) (h0 : st9.heap = H) (hc : cond X → cond' X) (ht : t.heap = t9.heap) : xQ G cA E x n F O cond' X s t := by
  obtain ⟨h1, h2, h3⟩ := h
  rw [h0] at h2 h3
  refine ⟨hc h1, ⟨pa, rs, lo, hi, po, oc, tb, tc, pvS_up hS (by rw [ht]; exact h3), hN⟩, by rw [ht]; omega, fun q h4 h5 => ?_⟩
  rw [ht, h3 q (by omega)]
  exact hk q h4 (Classical.not_not.mp h5)
theorem i3_4 {v : Int32} (h : nI 3 < v) : nI 4 ≤ v := by
  rw [Int32.lt_iff_toInt_lt, nI_toInt (by decide)] at h
  rw [Int32.le_iff_toInt_le, nI_toInt (by decide)]
  omega
