def cid (G : va_G) (cA : Nat → ClassId) : Nat → ClassId := fun k => match k with
  | 0 => G.1 0
  | 1 => G.1 1
  | 2 => G.1 2
  | 3 => G.1 3
  | 4 => G.1 4
  | 5 => cA 0
  | 6 => cA 1
  | 7 => cA 2
  | _ => cA 3
def cnm : Nat → String := fun k => match k with
  | 0 => RP
  | 1 => RQ
  | 2 => RT
  | 3 => RV
  | 4 => RM
  | 5 => "[J"
  | 6 => "[I"
  | 7 => "[LPolicyVerifier$Policy;"
  | _ => "[Z"
theorem cnm_inj : ∀ i, i < 9 → ∀ j, j < 9 → cnm i = cnm j → i = j := by decide +kernel
theorem KN.cn {G : va_G} {cA : Nat → ClassId} {s : State} (h : KN G cA s) : ∀ k, k < 9 → s.vm.findClass (cnm k) = some (cid G cA k) := by
  intro k hk
  match k, hk with
  | 0, _ => exact (h.1.1 0 _ rfl).2.1
  | 1, _ => exact (h.1.1 1 _ rfl).2.1
  | 2, _ => exact (h.1.1 2 _ rfl).2.1
  | 3, _ => exact (h.1.1 3 _ rfl).2.1
  | 4, _ => exact (h.1.1 4 _ rfl).2.1
  | 5, _ => exact (h.1.2 0 _ rfl).2
  | 6, _ => exact (h.1.2 1 _ rfl).2
  | 7, _ =>
    obtain ⟨_, _, _, _, _, g⟩ := (h.1.2 2 _ rfl).2
    exact g
  | 8, _ => exact (h.1.2 3 _ rfl).2
  | k + 9, hk => omega
def dis (G : va_G) (cA : Nat → ClassId) : Prop := ∀ i j, i < 9 → j < 9 → i ≠ j → cid G cA i ≠ cid G cA j
theorem KN.dis {G : va_G} {cA : Nat → ClassId} {s : State} (h : KN G cA s) : dis G cA := by
  intro i j hi hj hne he
  obtain ⟨k1, a1, b1⟩ := Vm.findClass_spec (h.cn i hi)
  obtain ⟨k2, a2, b2⟩ := Vm.findClass_spec (h.cn j hj)
  rw [he] at a1
  have : k1 = k2 := Option.some.inj (a1.symm.trans a2)
  subst this
  exact hne (cnm_inj i hi j hj (b1.symm.trans b2))
def kd (G : va_G) (cA : Nat → ClassId) (k a : Nat) (H : Heap) : Prop := ∃ c, H[a]? = some c ∧ c.cls = cid G cA k
theorem kd_ne {G : va_G} {cA : Nat → ClassId} {i j a b : Nat} {H : Heap} (hd : dis G cA) (h1 : kd G cA i a H) (h2 : kd G cA j b H) (h : i < 9 ∧ j < 9 ∧ i ≠ j) : a ≠ b := by
  obtain ⟨c1, a1, b1⟩ := h1
  obtain ⟨c2, a2, b2⟩ := h2
  intro e
  subst e
  have : c1 = c2 := Option.some.inj (a1.symm.trans a2)
  subst this
  exact hd i j h.1 h.2.1 h.2.2 (b1.symm.trans b2)
theorem kd_o {G : va_G} {cA : Nat → ClassId} {ci a : Nat} {fs : List Value} {H : Heap} (hc : ci < 5) (h : ob G ci a fs H) : kd G cA ci a H := by
  obtain ⟨r, h1, cell, q1, q2, q3, q4⟩ := h
  refine ⟨cell, q1, ?_⟩
  rw [q2]
  match ci, hc with
  | 0, _ => rfl
  | 1, _ => rfl
  | 2, _ => rfl
  | 3, _ => rfl
  | 4, _ => rfl
theorem kd_l {G : va_G} {cA : Nat → ClassId} {a n : Nat} {f : Nat → Int64} {H : Heap} (h : al (cA 0) a n f H) : kd G cA 5 a H := ⟨_, h, rfl⟩
theorem kd_i {G : va_G} {cA : Nat → ClassId} {a n : Nat} {f : Nat → Int32} {H : Heap} (h : ai (cA 1) a n f H) : kd G cA 6 a H := ⟨_, h, rfl⟩
theorem kd_q {G : va_G} {cA : Nat → ClassId} {a n : Nat} {f : Nat → Option Nat} {H : Heap} (h : aq (cA 2) a n f H) : kd G cA 7 a H := ⟨_, h, rfl⟩
theorem dct_ext {O P : Nat → Nat → Int64} : ∀ n, (∀ i, i < n → O i = P i) → dct O n = dct P n := by
  intro n
  induction n with
  | zero => intro _; rfl
  | succ n ih =>
    intro h
    have e : isN O n = isN P n := by
      apply bool_iff
      unfold isN
      rw [decide_eq_true_eq, decide_eq_true_eq, h n (by omega)]
      constructor
      · intro q j hj
        rw [← h j (by omega)]
        exact q j hj
      · intro q j hj
        rw [h j (by omega)]
        exact q j hj
    show dct O n + (if isN O n = true then 1 else 0) = dct P n + (if isN P n = true then 1 else 0)
    rw [ih (fun i hi => h i (by omega)), e]
theorem wc_mm {f : Nat → Int64} {m j : Nat} : wc f (m + 1) m j = wc f m m j := by
  show (wc f m m j || (wc f m m m && wc f m m j)) = wc f m m j
  cases wc f m m j <;> cases wc f m m m <;> rfl
theorem star_eq {f : Nat → Int64} {g : Int64} {p : Nat} (hp : p < 64) (h : ∀ j, j < 64 → hbit g j = wc f 64 p j) : g = st f p 64 := by
  apply hb_ext
  intro j hj
  apply bool_iff
  rw [h j hj, wc_iff hp hj, st_rch hp hj]
