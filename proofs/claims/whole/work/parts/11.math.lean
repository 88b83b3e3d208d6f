/-! how many packets a set has; steps one by one -/
def cd (x : Int64) : Nat → Nat
  | 0 => 0
  | n + 1 => cd x n + (if hbit x n = true then 1 else 0)
theorem cd_le (x : Int64) : ∀ n, cd x n ≤ n := by
  intro n
  induction n with
  | zero => exact Nat.le_refl _
  | succ n ih =>
    show cd x n + (if hbit x n = true then 1 else 0) ≤ n + 1
    split <;> omega
theorem cd_mono {x y : Int64} (h : ∀ k, hbit x k = true → hbit y k = true) : ∀ n, cd x n ≤ cd y n := by
  intro n
  induction n with
  | zero => exact Nat.le_refl _
  | succ n ih =>
    show cd x n + (if hbit x n = true then 1 else 0) ≤ cd y n + (if hbit y n = true then 1 else 0)
    by_cases hx : hbit x n = true
    · rw [if_pos hx, if_pos (h n hx)]
      omega
    · rw [if_neg hx]
      omega
theorem cd_lt {x y : Int64} (h : ∀ k, hbit x k = true → hbit y k = true) {k : Nat} (h1 : hbit x k = false) (h2 : hbit y k = true) : ∀ n, k < n → cd x n < cd y n := by
  intro n
  induction n with
  | zero => intro h; omega
  | succ n ih =>
    intro hk
    show cd x n + (if hbit x n = true then 1 else 0) < cd y n + (if hbit y n = true then 1 else 0)
    by_cases hn : k = n
    · subst hn
      rw [if_neg (by rw [h1]; decide), if_pos h2]
      have := cd_mono h k
      omega
    · have := ih (by omega)
      by_cases hx : hbit x n = true
      · rw [if_pos hx, if_pos (h n hx)]
        omega
      · rw [if_neg hx]
        omega
theorem cd_grow {x y : Int64} (h : ∀ k, hbit x k = true → hbit y k = true) (hne : ¬ x = y) : cd x 64 < cd y 64 := by
  apply Classical.byContradiction
  intro hc
  apply hne
  apply hb_ext
  intro k hk
  apply bool_iff
  constructor
  · exact h k
  · intro hy
    cases hx : hbit x k with
    | true => rfl
    | false => exact absurd (cd_lt h hx hy 64 hk) hc
/-- what has been reached after n steps; what the n-th step gives -/
def st (f : Nat → Int64) (p : Nat) : Nat → Int64
  | 0 => one p
  | n + 1 => st f p n ||| gf f (st f p n) 64
def nw (f : Nat → Int64) (p : Nat) : Nat → Int64
  | 0 => one p
  | n + 1 => gf f (nw f p n) 64
theorem st_s (f : Nat → Int64) (p n : Nat) : st f p (n + 1) = st f p n ||| gf f (st f p n) 64 := rfl
theorem st_up {f : Nat → Int64} {p n k : Nat} (h : hbit (st f p n) k = true) : hbit (st f p (n + 1)) k = true := by
  rw [st_s, hb_or, h]
  rfl
theorem st_stop {f : Nat → Int64} {p n : Nat} (h : st f p (n + 1) = st f p n) : ∀ k, st f p (n + k) = st f p n := by
  intro k
  induction k with
  | zero => rfl
  | succ k ih =>
    show st f p (n + k + 1) = _
    rw [st_s, ih]
    rw [st_s] at h
    exact h
theorem one_cd {p : Nat} (hp : p < 64) : 1 ≤ cd (one p) 64 := by
  have h : cd (0 : Int64) 64 < cd (one p) 64 := by
    refine cd_lt (k := p) (fun k h => ?_) (hb_0 p) (by rw [hb_one hp]; simp) 64 hp
    rw [hb_0] at h
    cases h
  omega
theorem st_card {f : Nat → Int64} {p : Nat} (hp : p < 64) : ∀ n, (∀ i, i < n → ¬ st f p (i + 1) = st f p i) → n + 1 ≤ cd (st f p n) 64 := by
  intro n
  induction n with
  | zero => intro _; exact one_cd hp
  | succ n ih =>
    intro h
    have h1 := ih (fun i hi => h i (by omega))
    have h2 := cd_grow (x := st f p n) (y := st f p (n + 1)) (fun k hk => st_up hk) (fun q => h n (by omega) q.symm)
    omega
/-- it has stopped growing before the 64th step -/
theorem st_63 {f : Nat → Int64} {p : Nat} (hp : p < 64) : ∃ i, i < 64 ∧ st f p (i + 1) = st f p i := by
  apply Classical.byContradiction
  intro h
  have h1 := st_card hp 64 (fun i hi q => h ⟨i, hi, q⟩)
  have h2 := cd_le (st f p 64) 64
  omega
theorem st_64 {f : Nat → Int64} {p : Nat} (hp : p < 64) (k : Nat) : st f p (64 + k) = st f p 64 := by
  obtain ⟨i, hi, h⟩ := st_63 (f := f) hp
  have h1 := st_stop h (64 - i)
  have h2 := st_stop h (64 - i + k)
  rw [show i + (64 - i) = 64 by omega] at h1
  rw [show i + (64 - i + k) = 64 + k by omega] at h2
  rw [h1, h2]
theorem st_rch {f : Nat → Int64} {p j : Nat} (hp : p < 64) (hj : j < 64) : hbit (st f p 64) j = true ↔ Rch f p j := by
  constructor
  · have key : ∀ n j, j < 64 → hbit (st f p n) j = true → Rch f p j := by
      intro n
      induction n with
      | zero =>
        intro j hj h
        have h : hbit (one p) j = true := h
        rw [hb_one hp, decide_eq_true_eq] at h
        subst h
        exact Rch.rf
      | succ n ih =>
        intro j hj h
        rw [st_s, hb_or, Bool.or_eq_true, gf_bit] at h
        rcases h with h | ⟨i, h1, h2, h3⟩
        · exact ih j hj h
        · exact (ih i h1 h2).tr (Rch.st h1 hj h3)
    exact key 64 j hj
  · intro h
    refine h (fun x => hbit (st f p 64) x = true) ?_ ?_
    · have : ∀ n, hbit (st f p n) p = true := by
        intro n
        induction n with
        | zero => show hbit (one p) p = true; rw [hb_one hp]; simp
        | succ n ih => exact st_up ih
      exact this 64
    · intro q r hq hr h1 h2
      rw [← st_64 (f := f) hp 1]
      show hbit (st f p (64 + 1)) r = true
      rw [st_s, hb_or, Bool.or_eq_true, gf_bit]
      exact Or.inr ⟨q, hq, h1, h2⟩
theorem st_nw {f : Nat → Int64} {p : Nat} (j : Nat) : ∀ n, hbit (st f p n) j = true ↔ ∃ i, i ≤ n ∧ hbit (nw f p i) j = true := by
  intro n
  induction n generalizing j with
  | zero =>
    constructor
    · intro h
      exact ⟨0, Nat.le_refl _, h⟩
    · rintro ⟨i, h1, h2⟩
      have : i = 0 := by omega
      subst this
      exact h2
  | succ n ih =>
    rw [st_s, hb_or, Bool.or_eq_true, ih, gf_bit]
    constructor
    · rintro (⟨i, h1, h2⟩ | ⟨q, h1, h2, h3⟩)
      · exact ⟨i, by omega, h2⟩
      · obtain ⟨i, h4, h5⟩ := (ih q).mp h2
        refine ⟨i + 1, by omega, ?_⟩
        show hbit (gf f (nw f p i) 64) j = true
        rw [gf_bit]
        exact ⟨q, h1, h5, h3⟩
    · rintro ⟨i, h1, h2⟩
      by_cases hi : i ≤ n
      · exact Or.inl ⟨i, hi, h2⟩
      · have : i = n + 1 := by omega
        subst this
        have h2 : hbit (gf f (nw f p n) 64) j = true := h2
        rw [gf_bit] at h2
        obtain ⟨q, h3, h4, h5⟩ := h2
        exact Or.inr ⟨q, h3, (ih q).mpr ⟨n, Nat.le_refl _, h4⟩, h5⟩
/-- the answer of hops -/
def hopR (f : Nat → Int64) (p : Nat) (z : Int64) (r : Int32) : Prop := (∃ n, n < 65 ∧ r = nI n ∧ ¬ nw f p n &&& z = 0 ∧ ∀ i, i < n → nw f p i &&& z = 0) ∨ (r = -1 ∧ ∀ n, nw f p n &&& z = 0)
theorem hopR_one {f : Nat → Int64} {p : Nat} {z : Int64} {r t : Int32} (h1 : hopR f p z r) (h2 : hopR f p z t) : r = t := by
  rcases h1 with ⟨n, a1, a2, a3, a4⟩ | ⟨a1, a2⟩ <;> rcases h2 with ⟨k, b1, b2, b3, b4⟩ | ⟨b1, b2⟩
  · have : n = k := by
      rcases Nat.lt_trichotomy n k with q | q | q
      · exact absurd (b4 n q) a3
      · exact q
      · exact absurd (a4 k q) b3
    rw [a2, b2, this]
  · exact absurd (b2 n) a3
  · exact absurd (a2 k) b3
  · rw [a1, b1]
theorem cap0 {x y z : Int64} (h : ∀ k, hbit x k = true → hbit y k = true) (h0 : y &&& z = 0) : x &&& z = 0 := by
  apply Classical.byContradiction
  intro hc
  obtain ⟨k, hk, h1⟩ := hb_ne0.mp hc
  rw [hb_and, Bool.and_eq_true] at h1
  have : hbit (y &&& z) k = true := by rw [hb_and, Bool.and_eq_true]; exact ⟨h k h1.1, h1.2⟩
  rw [h0, hb_0] at this
  cases this
/-- by what has been reached: at the step t for the first time -/
theorem hop_at {f : Nat → Int64} {p t : Nat} {z : Int64} (ht : t < 65) (h1 : ¬ st f p t &&& z = 0) (h2 : ∀ i, i < t → st f p i &&& z = 0) : hopR f p z (nI t) := by
  refine Or.inl ⟨t, ht, rfl, ?_, fun i hi => cap0 (fun k hk => (st_nw k i).mpr ⟨i, Nat.le_refl _, hk⟩) (h2 i hi)⟩
  intro h0
  obtain ⟨k, hk, h3⟩ := hb_ne0.mp h1
  rw [hb_and, Bool.and_eq_true] at h3
  obtain ⟨i, h4, h5⟩ := (st_nw k t).mp h3.1
  by_cases hi : i = t
  · subst hi
    have : hbit (nw f p i &&& z) k = true := by rw [hb_and, Bool.and_eq_true]; exact ⟨h5, h3.2⟩
    rw [h0, hb_0] at this
    cases this
  · have h6 := h2 i (by omega)
    have : hbit (st f p i &&& z) k = true := by rw [hb_and, Bool.and_eq_true]; exact ⟨(st_nw k i).mpr ⟨i, Nat.le_refl _, h5⟩, h3.2⟩
    rw [h6, hb_0] at this
    cases this
theorem hop_no {f : Nat → Int64} {p t : Nat} {z : Int64} (h0 : st f p (t + 1) = st f p t) (h1 : st f p t &&& z = 0) : hopR f p z (-1) := by
  refine Or.inr ⟨rfl, fun n => ?_⟩
  refine cap0 (y := st f p t) (fun k hk => ?_) h1
  have h2 : hbit (st f p (t + n)) k = true := (st_nw k (t + n)).mpr ⟨n, by omega, hk⟩
  rw [st_stop h0] at h2
  exact h2
theorem hop_all {f : Nat → Int64} {p : Nat} (hp : p < 64) {z : Int64} (h : ∀ n, n < 65 → nw f p n &&& z = 0) : hopR f p z (-1) := by
  refine Or.inr ⟨rfl, fun n => ?_⟩
  apply Classical.byContradiction
  intro hc
  obtain ⟨k, hk, h1⟩ := hb_ne0.mp hc
  rw [hb_and, Bool.and_eq_true] at h1
  have h2 : hbit (st f p (64 + n)) k = true := (st_nw k (64 + n)).mpr ⟨n, by omega, h1.1⟩
  rw [st_64 hp] at h2
  obtain ⟨i, h3, h4⟩ := (st_nw k 64).mp h2
  have h5 := h i (by omega)
  have : hbit (nw f p i &&& z) k = true := by rw [hb_and, Bool.and_eq_true]; exact ⟨h4, h1.2⟩
  rw [h5, hb_0] at this
  cases this
