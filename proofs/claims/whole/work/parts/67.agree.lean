theorem ibx {n : Nat} {v : Int32} {a : Nat} (h : inb n v = false) (ha : a < n) (e : v = nI a) (hn : n ≤ 100) : False := by
  subst e
  rw [inb_nI ha (by omega)] at h
  cases h
theorem ibt {n : Nat} {v : Int32} (h1 : inb n v = false) (h2 : inb n v = true) : False := by
  rw [h1] at h2
  cases h2
theorem ieq {n a b : Nat} {v : Int32} (ha : a < n) (hb : b < n) (h1 : v = nI a) (h2 : v = nI b) (hn : n ≤ 100) : a = b := (nI_eq (by omega) (by omega)).mp (h1.symm.trans h2)
theorem n1z : ¬ nI 1 = 0 := by decide
theorem n2z : ¬ nI 2 = 0 := by decide
theorem n3z : ¬ nI 3 = 0 := by decide
section AG
variable {n k : Nat} {O : Nat → Nat → Int64} {F : Nat → Bool} {fb : Nat → Int32} {v v2 v3 th : Int32} {w z : Int64}
theorem ag_outcome {r : Int64} (hn : n ≤ 50) (h1 : (k = 1 ∧ inb n v = false) ∨ (k = 2 ∧ inb n v = true ∧ inb 64 v2 = false) ∨ (k = 0 ∧ ∃ a j, a < n ∧ j < 64 ∧ v = nI a ∧ v2 = nI j ∧ w = O a j))
    (h2 : (inb n v = false ∧ th = nI 1) ∨ (inb n v = true ∧ inb 64 v2 = false ∧ th = nI 2) ∨ (∃ a k, a < n ∧ k < 64 ∧ v = nI a ∧ v2 = nI k ∧ th = nI 0 ∧ r = O a k)) : th = nI k ∧ (nI k = 0 → w = r) := by
  rcases h1 with ⟨rfl, a1⟩ | ⟨rfl, a1, a2⟩ | ⟨rfl, a, j, a1, a2, a3, a4, a5⟩ <;> rcases h2 with ⟨b1, b2⟩ | ⟨b1, b2, b3⟩ | ⟨b, i, b1, b2, b3, b4, b5, b6⟩
  · exact ⟨b2, fun q => absurd q n1z⟩
  · exact (ibt a1 b1).elim
  · exact (ibx a1 b1 b3 (by omega)).elim
  · exact (ibt b1 a1).elim
  · exact ⟨b3, fun q => absurd q n2z⟩
  · exact (ibx a2 b2 b4 (by omega)).elim
  · exact (ibx b1 a1 a3 (by omega)).elim
  · exact (ibx b2 a2 a4 (by omega)).elim
  · have e1 := ieq a1 b1 a3 b3 (by omega)
    have e2 := ieq a2 b2 a4 b4 (by omega)
    subst e1
    subst e2
    exact ⟨b5, fun _ => by rw [a5, b6]⟩
theorem ag_one {P : Nat → Int64 → Prop} {r : Int64} (hn : n ≤ 50) (hP : ∀ a x y, a < n → P a x → P a y → x = y) (h1 : (k = 1 ∧ inb n v = false) ∨ (k = 0 ∧ ∃ a, a < n ∧ v = nI a ∧ P a w))
    (h2 : (inb n v = false ∧ th = nI 1) ∨ (∃ a, a < n ∧ v = nI a ∧ th = nI 0 ∧ P a r)) : th = nI k ∧ (nI k = 0 → w = r) := by
  rcases h1 with ⟨rfl, a1⟩ | ⟨rfl, a, a1, a2, a3⟩ <;> rcases h2 with ⟨b1, b2⟩ | ⟨b, b1, b2, b3, b4⟩
  · exact ⟨b2, fun q => absurd q n1z⟩
  · exact (ibx a1 b1 b2 (by omega)).elim
  · exact (ibx b1 a1 a2 (by omega)).elim
  · have e1 := ieq a1 b1 a2 b2 (by omega)
    subst e1
    exact ⟨b3, fun _ => hP a _ _ a1 a3 b4⟩
theorem ag_oneI {P P2 : Nat → Int32 → Prop} {r : Int32} (hn : n ≤ 50) (hP : ∀ a x y, a < n → P a x → P2 a y → x = y) (h1 : (k = 1 ∧ inb n v = false) ∨ (k = 0 ∧ ∃ r : Int32, w = r.toInt64 ∧ ∃ a, a < n ∧ v = nI a ∧ P a r))
    (h2 : (inb n v = false ∧ th = nI 1) ∨ (∃ a, a < n ∧ v = nI a ∧ th = nI 0 ∧ P2 a r)) : th = nI k ∧ (nI k = 0 → w = r.toInt64) := by
  rcases h1 with ⟨rfl, a1⟩ | ⟨rfl, r1, a0, a, a1, a2, a3⟩ <;> rcases h2 with ⟨b1, b2⟩ | ⟨b, b1, b2, b3, b4⟩
  · exact ⟨b2, fun q => absurd q n1z⟩
  · exact (ibx a1 b1 b2 (by omega)).elim
  · exact (ibx b1 a1 a2 (by omega)).elim
  · have e1 := ieq a1 b1 a2 b2 (by omega)
    subst e1
    exact ⟨b3, fun _ => by rw [a0, hP a _ _ a1 a3 b4]⟩
theorem ag_twoI {P P2 : Nat → Nat → Int32 → Prop} {r : Int32} (hn : n ≤ 50) (hP : ∀ a b x y, P a b x → P2 a b y → x = y) (h1 : (k = 1 ∧ (inb n v = false ∨ inb n v2 = false)) ∨ (k = 0 ∧ ∃ r : Int32, w = r.toInt64 ∧ ∃ a b, a < n ∧ b < n ∧ v = nI a ∧ v2 = nI b ∧ P a b r))
    (h2 : ((inb n v = false ∨ inb n v2 = false) ∧ th = nI 1) ∨ (∃ a b, a < n ∧ b < n ∧ v = nI a ∧ v2 = nI b ∧ th = nI 0 ∧ P2 a b r)) : th = nI k ∧ (nI k = 0 → w = r.toInt64) := by
  rcases h1 with ⟨rfl, a1⟩ | ⟨rfl, r1, a0, a, b, a1, a2, a3, a4, a5⟩ <;> rcases h2 with ⟨b1, b2⟩ | ⟨a', b', b1, b2, b3, b4, b5, b6⟩
  · exact ⟨b2, fun q => absurd q n1z⟩
  · rcases a1 with a1 | a1
    · exact (ibx a1 b1 b3 (by omega)).elim
    · exact (ibx a1 b2 b4 (by omega)).elim
  · rcases b1 with b1 | b1
    · exact (ibx b1 a1 a3 (by omega)).elim
    · exact (ibx b1 a2 a4 (by omega)).elim
  · have e1 := ieq a1 b1 a3 b3 (by omega)
    have e2 := ieq a2 b2 a4 b4 (by omega)
    subst e1
    subst e2
    exact ⟨b5, fun _ => by rw [a0, hP a b _ _ a5 b6]⟩
theorem ag_same {r : Int32} (hn : n ≤ 50) (h1 : (k = 1 ∧ (inb n v = false ∨ inb n v2 = false)) ∨ (k = 0 ∧ ∃ r : Int32, w = r.toInt64 ∧ ∃ a b, a < n ∧ b < n ∧ v = nI a ∧ v2 = nI b ∧ ∃ k, apR (O a) (O b) k ∧ ((k = 64 ∧ r = 1) ∨ (¬ k = 64 ∧ r = 0))))
    (h2 : ((inb n v = false ∨ inb n v2 = false) ∧ th = nI 1) ∨ (∃ a b, a < n ∧ b < n ∧ v = nI a ∧ v2 = nI b ∧ th = nI 0 ∧ ∃ k, apR (O a) (O b) k ∧ ((k = 64 ∧ r = 1) ∨ (¬ k = 64 ∧ r = 0)))) : th = nI k ∧ (nI k = 0 → w = r.toInt64) := by
  refine ag_twoI (P := fun a b r => ∃ k, apR (O a) (O b) k ∧ ((k = 64 ∧ r = 1) ∨ (¬ k = 64 ∧ r = 0))) (P2 := fun a b r => ∃ k, apR (O a) (O b) k ∧ ((k = 64 ∧ r = 1) ∨ (¬ k = 64 ∧ r = 0))) hn (fun a b x y q1 q2 => ?_) h1 h2
  obtain ⟨i, c1, c2⟩ := q1
  obtain ⟨j, d1, d2⟩ := q2
  have e := apR_one c1 d1
  subst e
  rcases c2 with ⟨c2, c3⟩ | ⟨c2, c3⟩ <;> rcases d2 with ⟨d2, d3⟩ | ⟨d2, d3⟩
  · rw [c3, d3]
  · exact absurd c2 d2
  · exact absurd d2 c2
  · rw [c3, d3]
theorem ag_covers {r : Int32} (hn : n ≤ 50) (h1 : (k = 1 ∧ (inb n v = false ∨ inb n v2 = false)) ∨ (k = 0 ∧ ∃ r : Int32, w = r.toInt64 ∧ ∃ a b, a < n ∧ b < n ∧ v = nI a ∧ v2 = nI b ∧ (((∀ k, k < 64 → (O b k &&& (O a k ^^^ (-1))) = 0) ∧ r = 1) ∨ ((∃ k, k < 64 ∧ ¬ (O b k &&& (O a k ^^^ (-1))) = 0) ∧ r = 0))))
    (h2 : ((inb n v = false ∨ inb n v2 = false) ∧ th = nI 1) ∨ (∃ a b, a < n ∧ b < n ∧ v = nI a ∧ v2 = nI b ∧ th = nI 0 ∧ (((∀ k, k < 64 → (O b k &&& (O a k ^^^ (-1))) = 0) ∧ r = 1) ∨ ((∃ k, k < 64 ∧ ¬ (O b k &&& (O a k ^^^ (-1))) = 0) ∧ r = 0)))) : th = nI k ∧ (nI k = 0 → w = r.toInt64) := by
  refine ag_twoI (P := fun a b r => (((∀ k, k < 64 → (O b k &&& (O a k ^^^ (-1))) = 0) ∧ r = 1) ∨ ((∃ k, k < 64 ∧ ¬ (O b k &&& (O a k ^^^ (-1))) = 0) ∧ r = 0))) (P2 := fun a b r => (((∀ k, k < 64 → (O b k &&& (O a k ^^^ (-1))) = 0) ∧ r = 1) ∨ ((∃ k, k < 64 ∧ ¬ (O b k &&& (O a k ^^^ (-1))) = 0) ∧ r = 0))) hn (fun a b x y q1 q2 => ?_) h1 h2
  rcases q1 with ⟨c2, c3⟩ | ⟨⟨i, c1, c2⟩, c3⟩ <;> rcases q2 with ⟨d2, d3⟩ | ⟨⟨j, d1, d2⟩, d3⟩
  · rw [c3, d3]
  · exact absurd (c2 j d1) d2
  · exact absurd (d2 i c1) c2
  · rw [c3, d3]
theorem ag_differ {r : Int32} (hn : n ≤ 50) (h1 : (k = 1 ∧ (inb n v = false ∨ inb n v2 = false)) ∨ (k = 2 ∧ ∃ a b, a < n ∧ b < n ∧ v = nI a ∧ v2 = nI b ∧ apR (O a) (O b) 64) ∨ (k = 0 ∧ ∃ r : Int32, w = r.toInt64 ∧ ∃ a b, a < n ∧ b < n ∧ v = nI a ∧ v2 = nI b ∧ ∃ k, k < 64 ∧ apR (O a) (O b) k ∧ r = nI k))
    (h2 : ((inb n v = false ∨ inb n v2 = false) ∧ th = nI 1) ∨ (∃ a b, a < n ∧ b < n ∧ v = nI a ∧ v2 = nI b ∧ ∃ k, apR (O a) (O b) k ∧ ((k = 64 ∧ th = nI 2) ∨ (¬ k = 64 ∧ th = nI 0 ∧ r = nI k)))) : th = nI k ∧ (nI k = 0 → w = r.toInt64) := by
  rcases h1 with ⟨rfl, a1⟩ | ⟨rfl, a, b, a1, a2, a3, a4, a5⟩ | ⟨rfl, r1, a0, a, b, a1, a2, a3, a4, i, a5, a6, a7⟩ <;> rcases h2 with ⟨b1, b2⟩ | ⟨a', b', b1, b2, b3, b4, j, b5, b6⟩
  · exact ⟨b2, fun q => absurd q n1z⟩
  · rcases a1 with a1 | a1
    · exact (ibx a1 b1 b3 (by omega)).elim
    · exact (ibx a1 b2 b4 (by omega)).elim
  · rcases b1 with b1 | b1
    · exact (ibx b1 a1 a3 (by omega)).elim
    · exact (ibx b1 a2 a4 (by omega)).elim
  · have e1 := ieq a1 b1 a3 b3 (by omega)
    have e2 := ieq a2 b2 a4 b4 (by omega)
    subst e1
    subst e2
    have e := apR_one a5 b5
    rcases b6 with ⟨b6, b7⟩ | ⟨b6, b7, b8⟩
    · exact ⟨b7, fun q => absurd q n2z⟩
    · exact absurd e.symm b6
  · rcases b1 with b1 | b1
    · exact (ibx b1 a1 a3 (by omega)).elim
    · exact (ibx b1 a2 a4 (by omega)).elim
  · have e1 := ieq a1 b1 a3 b3 (by omega)
    have e2 := ieq a2 b2 a4 b4 (by omega)
    subst e1
    subst e2
    have e := apR_one a6 b5
    subst e
    rcases b6 with ⟨b6, b7⟩ | ⟨b6, b7, b8⟩
    · omega
    · exact ⟨b7, fun _ => by rw [a0, a7, b8]⟩
theorem ag_filter {r : Int32} (hn : n ≤ 50) (hfb : ∀ i, i < n → fb i = bI (F i)) (h1 : (k = 1 ∧ inb n v = false) ∨ (k = 0 ∧ ∃ r : Int32, w = r.toInt64 ∧ ∃ a, a < n ∧ v = nI a ∧ r = bI (F a)))
    (h2 : (inb n v = false ∧ th = nI 1) ∨ (∃ a, a < n ∧ v = nI a ∧ th = nI 0 ∧ ((fb a = 0 ∧ r = 0) ∨ (¬ fb a = 0 ∧ r = 1)))) : th = nI k ∧ (nI k = 0 → w = r.toInt64) := by
  refine ag_oneI (P := fun a r => r = bI (F a)) (P2 := fun a r => (fb a = 0 ∧ r = 0) ∨ (¬ fb a = 0 ∧ r = 1)) hn (fun a x y ha q1 q2 => ?_) h1 h2
  rw [hfb a ha] at q2
  rw [q1]
  rcases q2 with ⟨c1, c2⟩ | ⟨c1, c2⟩
  · rw [c2, c1]
  · rw [bI_ne.mp c1, c2]
    rfl
theorem ag_threeI {P P2 : Nat → Nat → Int32 → Prop} {r : Int32} (hn : n ≤ 50) (hP : ∀ a b x y, P a b x → P2 a b y → x = y) (h1 : (k = 1 ∧ inb n v = false) ∨ (k = 2 ∧ inb n v = true ∧ inb 64 v2 = false) ∨ (k = 0 ∧ ∃ r : Int32, w = r.toInt64 ∧ ∃ a j, a < n ∧ j < 64 ∧ v = nI a ∧ v2 = nI j ∧ P a j r))
    (h2 : (inb n v = false ∧ th = nI 1) ∨ (inb n v = true ∧ inb 64 v2 = false ∧ th = nI 2) ∨ (∃ a k, a < n ∧ k < 64 ∧ v = nI a ∧ v2 = nI k ∧ th = nI 0 ∧ P2 a k r)) : th = nI k ∧ (nI k = 0 → w = r.toInt64) := by
  rcases h1 with ⟨rfl, a1⟩ | ⟨rfl, a1, a2⟩ | ⟨rfl, r1, a0, a, j, a1, a2, a3, a4, a5⟩ <;> rcases h2 with ⟨b1, b2⟩ | ⟨b1, b2, b3⟩ | ⟨b, i, b1, b2, b3, b4, b5, b6⟩
  · exact ⟨b2, fun q => absurd q n1z⟩
  · exact (ibt a1 b1).elim
  · exact (ibx a1 b1 b3 (by omega)).elim
  · exact (ibt b1 a1).elim
  · exact ⟨b3, fun q => absurd q n2z⟩
  · exact (ibx a2 b2 b4 (by omega)).elim
  · exact (ibx b1 a1 a3 (by omega)).elim
  · exact (ibx b2 a2 a4 (by omega)).elim
  · have e1 := ieq a1 b1 a3 b3 (by omega)
    have e2 := ieq a2 b2 a4 b4 (by omega)
    subst e1
    subst e2
    exact ⟨b5, fun _ => by rw [a0, hP a j _ _ a5 b6]⟩
theorem ag_hops {r : Int32} (hn : n ≤ 50) (h1 : (k = 1 ∧ inb n v = false) ∨ (k = 2 ∧ inb n v = true ∧ inb 64 v2 = false) ∨ (k = 0 ∧ ∃ r : Int32, w = r.toInt64 ∧ ∃ a k, a < n ∧ k < 64 ∧ v = nI a ∧ v2 = nI k ∧ hopR (O a) k z r))
    (h2 : (inb n v = false ∧ th = nI 1) ∨ (inb n v = true ∧ inb 64 v2 = false ∧ th = nI 2) ∨ (∃ a x, a < n ∧ x < 64 ∧ v = nI a ∧ v2 = nI x ∧ th = nI 0 ∧ hopR (O a) x z r)) : th = nI k ∧ (nI k = 0 → w = r.toInt64) :=
  ag_threeI (P := fun a k r => hopR (O a) k z r) (P2 := fun a k r => hopR (O a) k z r) hn (fun a b x y q1 q2 => hopR_one q1 q2) h1 h2
theorem ag_match {r : Int32} (hn : n ≤ 50) (h1 : (k = 1 ∧ inb n v = false) ∨ (k = 2 ∧ inb n v = true ∧ inb 64 v2 = false) ∨ (k = 0 ∧ ∃ r : Int32, w = r.toInt64 ∧ ∃ a y j, a < n ∧ v = nI a ∧ y < 64 ∧ v2 = nI y ∧ plR (tbl (O a)) y j ∧ r = nI j))
    (h2 : (inb n v = false ∧ th = nI 1) ∨ (inb n v = true ∧ inb 64 v2 = false ∧ th = nI 2) ∨ (∃ a x, a < n ∧ x < 64 ∧ v = nI a ∧ v2 = nI x ∧ th = nI 0 ∧ ((∃ j, plR (tbl (O a)) x j ∧ r = nI j) ∨ (∀ j, j < (tbl (O a)).length → ¬ x < ((tbl (O a)).getD j (0, 0)).1 + 4 ^ ((tbl (O a)).getD j (0, 0)).2)))) : th = nI k ∧ (nI k = 0 → w = r.toInt64) := by
  refine ag_threeI (P := fun a y r => ∃ j, plR (tbl (O a)) y j ∧ r = nI j) (P2 := fun a x r => ((∃ j, plR (tbl (O a)) x j ∧ r = nI j) ∨ (∀ j, j < (tbl (O a)).length → ¬ x < ((tbl (O a)).getD j (0, 0)).1 + 4 ^ ((tbl (O a)).getD j (0, 0)).2))) hn (fun a b x y q1 q2 => ?_) ?_ h2
  · obtain ⟨i, c1, c2⟩ := q1
    rcases q2 with ⟨j, d1, d2⟩ | d
    · rw [c2, d2, plR_one c1 d1]
    · exact absurd c1.2.1 (d i c1.1)
  · rcases h1 with h | h | ⟨h, r1, a0, a, y, j, a1, a2, a3, a4, a5, a6⟩
    · exact Or.inl h
    · exact Or.inr (Or.inl h)
    · exact Or.inr (Or.inr ⟨h, r1, a0, a, y, a1, a3, a2, a4, j, a5, a6⟩)
theorem ag_count {r : Int32} (h1 : (k = 1 ∧ ¬ v = 0 ∧ ¬ v = 1) ∨ (k = 0 ∧ ∃ r : Int32, w = r.toInt64 ∧ ((v = 0 ∧ r = nI n) ∨ (v = 1 ∧ r = nI (dct O n)))))
    (h2 : (v = 0 ∧ th = nI 0 ∧ r = nI n) ∨ (¬ v = 0 ∧ ¬ v = 1 ∧ th = nI 1) ∨ (v = 1 ∧ th = nI 0 ∧ r = nI (dct O n))) : th = nI k ∧ (nI k = 0 → w = r.toInt64) := by
  rcases h1 with ⟨rfl, a1, a2⟩ | ⟨rfl, r1, a0, ⟨a1, a2⟩ | ⟨a1, a2⟩⟩ <;> rcases h2 with ⟨b1, b2, b3⟩ | ⟨b1, b2, b3⟩ | ⟨b1, b2, b3⟩
  · exact absurd b1 a1
  · exact ⟨b3, fun q => absurd q n1z⟩
  · exact absurd b1 a2
  · exact ⟨b2, fun _ => by rw [a0, a2, b3]⟩
  · exact absurd a1 b1
  · rw [a1] at b1
    exact absurd b1 (by decide)
  · rw [a1] at b1
    exact absurd b1 (by decide)
  · exact absurd a1 b2
  · exact ⟨b2, fun _ => by rw [a0, a2, b3]⟩
theorem ag_rule {r : Int32} (hn : n ≤ 50) (h1 : (k = 1 ∧ (inb n v = false ∨ ∃ a, a < n ∧ v = nI a ∧ inb (tbl (O a)).length v2 = false)) ∨ (k = 2 ∧ ∃ a, a < n ∧ v = nI a ∧ inb (tbl (O a)).length v2 = true ∧ inb 4 v3 = false) ∨ (k = 0 ∧ ∃ r : Int32, w = r.toInt64 ∧ ∃ a j u, a < n ∧ v = nI a ∧ j < (tbl (O a)).length ∧ v2 = nI j ∧ u < 4 ∧ v3 = nI u ∧ ruR (O a) ((tbl (O a)).getD j (0, 0)) u r))
    (h2 : (inb n v = false ∧ th = nI 1) ∨ (∃ a, a < n ∧ v = nI a ∧ ((inb (tbl (O a)).length v2 = false ∧ th = nI 1) ∨ (∃ j, j < (tbl (O a)).length ∧ v2 = nI j ∧ ((inb 4 v3 = false ∧ th = nI 2) ∨ (∃ u, u < 4 ∧ v3 = nI u ∧ th = nI 0 ∧ ruR (O a) ((tbl (O a)).getD j (0, 0)) u r)))))) : th = nI k ∧ (nI k = 0 → w = r.toInt64) := by
  rcases h2 with ⟨b1, b2⟩ | ⟨b, b1, b2, b3⟩
  · rcases h1 with ⟨rfl, a1⟩ | ⟨rfl, a, a1, a2, a3⟩ | ⟨rfl, r1, a0, a, j, u, a1, a2, a3⟩
    · exact ⟨b2, fun q => absurd q n1z⟩
    · exact (ibx b1 a1 a2 (by omega)).elim
    · exact (ibx b1 a1 a2 (by omega)).elim
  · have hlen := tbl_len (O b)
    rcases h1 with ⟨rfl, a1⟩ | ⟨rfl, a, a1, a2, a3, a4⟩ | ⟨rfl, r1, a0, a, j, u, a1, a2, a3, a4, a5, a6, a7⟩
    · rcases a1 with a1 | ⟨a, a1, a2, a3⟩
      · exact (ibx a1 b1 b2 (by omega)).elim
      · have e1 := ieq a1 b1 a2 b2 (by omega)
        subst e1
        rcases b3 with ⟨b3, b4⟩ | ⟨i, b3, b4, b5⟩
        · exact ⟨b4, fun q => absurd q n1z⟩
        · exact (ibx a3 b3 b4 (by omega)).elim
    · have e1 := ieq a1 b1 a2 b2 (by omega)
      subst e1
      rcases b3 with ⟨b3, b4⟩ | ⟨i, b3, b4, ⟨b5, b6⟩ | ⟨t, b5, b6, b7⟩⟩
      · exact (ibt b3 a3).elim
      · exact ⟨b6, fun q => absurd q n2z⟩
      · exact (ibx a4 b5 b6 (by omega)).elim
    · have e1 := ieq a1 b1 a2 b2 (by omega)
      subst e1
      rcases b3 with ⟨b3, b4⟩ | ⟨i, b3, b4, ⟨b5, b6⟩ | ⟨t, b5, b6, b7, b8⟩⟩
      · exact (ibx b3 a3 a4 (by omega)).elim
      · exact (ibx b5 a5 a6 (by omega)).elim
      · have e2 := ieq a3 b3 a4 b4 (by omega)
        have e3 := ieq a5 b5 a6 b6 (by omega)
        subst e2
        subst e3
        exact ⟨b7, fun _ => by rw [a0, ruR_one a7 b8]⟩
end AG
theorem uni_ext {f g : Nat → Int64} (h : ∀ i, i < 64 → f i = g i) {x m : Nat} (hx : x + m ≤ 64) : uni 64 f x m = uni 64 g x m := by
  apply bool_iff
  unfold uni
  rw [decide_eq_true_eq, decide_eq_true_eq]
  constructor
  · intro q i hi
    have := q i hi
    rw [h (x + i) (by omega), h x (by omega)] at this
    exact this
  · intro q i hi
    have := q i hi
    rw [← h (x + i) (by omega), ← h x (by omega)] at this
    exact this
theorem reg_ext {ok ok' : Nat → Nat → Bool} (h : ∀ x m, x + m ≤ 64 → ok x m = ok' x m) : ∀ d x, x + 4 ^ d ≤ 64 → reg ok d x = reg ok' d x := by
  intro d
  induction d with
  | zero => intro x _; rfl
  | succ d ih =>
    intro x hx
    rw [reg_s, reg_s, h x _ hx]
    rw [Nat.pow_succ] at hx
    generalize 4 ^ d = m at *
    rw [ih x (by omega), ih (x + m) (by omega), ih (x + 2 * m) (by omega), ih (x + 3 * m) (by omega)]
theorem tbl_ext {f g : Nat → Int64} (h : ∀ i, i < 64 → f i = g i) : tbl f = tbl g := reg_ext (fun x m hx => uni_ext h hx) 3 0 (by decide)
theorem eqO_ext {f g f' g' : Nat → Int64} (h1 : ∀ i, i < 64 → f i = f' i) (h2 : ∀ i, i < 64 → g i = g' i) : eqO f g = eqO f' g' := by
  apply bool_iff
  unfold eqO
  rw [eqN_iff, eqN_iff]
  constructor
  · intro q i hi
    rw [← h1 i hi, ← h2 i hi]
    exact q i hi
  · intro q i hi
    rw [h1 i hi, h2 i hi]
    exact q i hi
theorem dct_ext2 {O P : Nat → Nat → Int64} : ∀ n, (∀ i, i < n → ∀ k, k < 64 → O i k = P i k) → dct O n = dct P n := by
  intro n
  induction n with
  | zero => intro _; rfl
  | succ n ih =>
    intro h
    have e : isN O n = isN P n := by
      apply bool_iff
      unfold isN
      rw [decide_eq_true_eq, decide_eq_true_eq]
      constructor
      · intro q j hj
        rw [← eqO_ext (h j (by omega)) (h n (by omega))]
        exact q j hj
      · intro q j hj
        rw [eqO_ext (h j (by omega)) (h n (by omega))]
        exact q j hj
    show dct O n + (if isN O n = true then 1 else 0) = dct P n + (if isN P n = true then 1 else 0)
    rw [ih (fun i hi => h i (by omega)), e]
theorem pvS_ext {G : va_G} {cA : Nat → ClassId} {x pa rs lo hi n : Nat} {F F' : Nat → Bool} {O O' : Nat → Nat → Int64} {po oc : Nat → Nat} {tb : Nat → Option Nat} {tc : Nat → Nat × Nat × Nat} {H : Heap} (h : pvS G cA x pa rs lo hi n F O po oc tb tc H) (hF : ∀ i, i < n → F i = F' i) (hO : ∀ i, i < n → ∀ k, k < 64 → O i k = O' i k) : pvS G cA x pa rs lo hi n F' O' po oc tb tc H := by
  obtain ⟨h1, h2, h3, h4, h5, h6, h7, h8, h9, h10, h11, h12⟩ := h
  refine ⟨by rw [← dct_ext2 n hO]; exact h1, h2, h3, h4, h5, fun i hi => by rw [← hF i hi]; exact h6 i hi, fun i hi => al_c (h7 i hi) (hO i hi), fun i hi t ht => ?_, h9, h10, h11, h12⟩
  obtain ⟨fp, ff, pl, a, b, c, d, o⟩ := h8 i hi t ht
  have e := tbl_ext (hO i hi)
  exact ⟨fp, ff, pl, by rw [← e]; exact a, b, c, d, by rw [← e]; exact o⟩
theorem PVE_ext {G : va_G} {cA : Nat → ClassId} {E : Nat → Prop} {x n : Nat} {F F' : Nat → Bool} {O O' : Nat → Nat → Int64} {H : Heap} (h : PVE G cA E x n F O H) (hF : ∀ i, i < n → F i = F' i) (hO : ∀ i, i < n → ∀ k, k < 64 → O i k = O' i k) : PVE G cA E x n F' O' H := by
  obtain ⟨pa, rs, lo, hi, po, oc, tb, tc, hS, hN⟩ := h
  exact ⟨pa, rs, lo, hi, po, oc, tb, tc, pvS_ext hS hF hO, hN⟩
