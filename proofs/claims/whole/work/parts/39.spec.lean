theorem rl_n {th x n : Nat} {o : Int64} (h : hbit o n = false) : rl th x o n = rl th x o (n + 1) := by
  show _ = (if hbit o n = true then _ else _)
  rw [if_neg (by rw [h]; decide)]
theorem rh_n {th x n : Nat} {o : Int64} (h : hbit o n = false) : rh th x o n = rh th x o (n + 1) := by
  show _ = (if hbit o n = true then _ else _)
  rw [if_neg (by rw [h]; decide)]
theorem rl_y {th x n : Nat} {o : Int64} (h : hbit o n = true) (h2 : act x n < th) : rl th x o n ||| one (act x n) = rl th x o (n + 1) := by
  show _ = (if hbit o n = true then (if act x n < th then _ else _) else _)
  rw [if_pos h, if_pos h2]
theorem rh_y {th x n : Nat} {o : Int64} (h : hbit o n = true) (h2 : act x n < th) : rh th x o n = rh th x o (n + 1) := by
  show _ = (if hbit o n = true then (if act x n < th then _ else _) else _)
  rw [if_pos h, if_pos h2]
theorem rl_z {th x n : Nat} {o : Int64} (h : hbit o n = true) (h2 : ¬ act x n < th) : rl th x o n = rl th x o (n + 1) := by
  show _ = (if hbit o n = true then (if act x n < th then _ else _) else _)
  rw [if_pos h, if_neg h2]
theorem rh_z {th x n : Nat} {o : Int64} (h : hbit o n = true) (h2 : ¬ act x n < th) : rh th x o n ||| one (act x n - th) = rh th x o (n + 1) := by
  show _ = (if hbit o n = true then (if act x n < th then _ else _) else _)
  rw [if_pos h, if_neg h2]
theorem uni_t {th : Nat} {f : Nat → Int64} {x n : Nat} (h : ∀ q, q < n → rl th (x + q) (f (x + q)) 64 = rl th x (f x) 64 ∧ rh th (x + q) (f (x + q)) 64 = rh th x (f x) 64) : uni th f x n = true := by
  unfold uni
  rw [decide_eq_true_eq]
  exact h
theorem uni_f {th : Nat} {f : Nat → Int64} {x n q : Nat} (hq : q < n) (h : ¬ (rl th (x + q) (f (x + q)) 64 = rl th x (f x) 64 ∧ rh th (x + q) (f (x + q)) 64 = rh th x (f x) 64)) : uni th f x n = false := by
  unfold uni
  rw [decide_eq_false_iff_not]
  exact fun z => h (z q hq)
def tbl (f : Nat → Int64) : List (Nat × Nat) := reg (uni 64 f) 3 0
def rowsOf (D : List (Nat × Nat)) (fS fE : Nat → Int32) : Prop := ∀ k, k < D.length → fS k = nI (D.getD k (0, 0)).1 ∧ fE k = nI (4 ^ (D.getD k (0, 0)).2)
theorem rowsOf_0 {fS fE : Nat → Int32} : rowsOf [] fS fE := fun k h => absurd h (Nat.not_lt_zero k)
theorem rowsOf_s {D : List (Nat × Nat)} {fS fE : Nat → Int32} (h : rowsOf D fS fE) (x d : Nat) : rowsOf (D ++ [(x, d)]) (upd fS D.length (nI x)) (upd fE D.length (nI (4 ^ d))) := by
  intro k hk
  rw [List.length_append, List.length_singleton] at hk
  by_cases e : k = D.length
  · subst e
    rw [pk_us, pk_us]
    simp
  · have hl : k < D.length := by omega
    rw [pk_un e, pk_un e]
    obtain ⟨h1, h2⟩ := h k hl
    rw [h1, h2]
    have e3 : (D ++ [(x, d)]).getD k (0, 0) = D.getD k (0, 0) := by rw [List.getD_eq_getElem?_getD, List.getElem?_append_left hl, List.getD_eq_getElem?_getD]
    rw [e3]
    exact ⟨rfl, rfl⟩
theorem grd_end {ok : Nat → Nat → Bool} {n : Nat} : grd ok n 64 = [] := by
  cases n with
  | zero => rfl
  | succ k => show (if 64 ≤ 64 then [] else _) = []; rw [if_pos (Nat.le_refl _)]
def plR (T : List (Nat × Nat)) (x k : Nat) : Prop := k < T.length ∧ x < (T.getD k (0, 0)).1 + 4 ^ (T.getD k (0, 0)).2 ∧ ∀ j, j < k → ¬ x < (T.getD j (0, 0)).1 + 4 ^ (T.getD j (0, 0)).2
theorem plR_one {T : List (Nat × Nat)} {x k j : Nat} (h1 : plR T x k) (h2 : plR T x j) : k = j := by
  rcases Nat.lt_trichotomy k j with q | q | q
  · exact absurd h1.2.1 (h2.2.2 k q)
  · exact q
  · exact absurd h2.2.1 (h1.2.2 j q)
def okRow (r : Nat × Nat) : Prop := r.2 ≤ 3 ∧ r.1 + 4 ^ r.2 ≤ 64
theorem reg_ok (ok : Nat → Nat → Bool) : (∀ x, x + 1 ≤ 64 → ∀ r ∈ reg ok 0 x, okRow r) ∧ (∀ x, x + 4 ≤ 64 → ∀ r ∈ reg ok 1 x, okRow r) ∧ (∀ x, x + 16 ≤ 64 → ∀ r ∈ reg ok 2 x, okRow r) ∧ (∀ x, x + 64 ≤ 64 → ∀ r ∈ reg ok 3 x, okRow r) := by
  have h0 : ∀ x, x + 1 ≤ 64 → ∀ r ∈ reg ok 0 x, okRow r := by
    intro x hx r hr
    have hr : r ∈ [(x, 0)] := hr
    rw [List.mem_singleton] at hr
    subst hr
    exact ⟨Nat.zero_le 3, hx⟩
  have step : ∀ (d m : Nat), d ≤ 2 → 4 ^ d = m → (∀ x, x + m ≤ 64 → ∀ r ∈ reg ok d x, okRow r) → ∀ x, x + 4 * m ≤ 64 → ∀ r ∈ reg ok (d + 1) x, okRow r := by
    intro d m hd hm h x hx r hr
    have hr : r ∈ (if ok x (4 ^ (d + 1)) = true then [(x, d + 1)] else reg ok d x ++ (reg ok d (x + 4 ^ d) ++ (reg ok d (x + 2 * 4 ^ d) ++ reg ok d (x + 3 * 4 ^ d)))) := hr
    by_cases c : ok x (4 ^ (d + 1)) = true
    · rw [if_pos c, List.mem_singleton] at hr
      subst hr
      refine ⟨by show d + 1 ≤ 3; omega, ?_⟩
      show x + 4 ^ (d + 1) ≤ 64
      rw [Nat.pow_succ, hm]
      omega
    · rw [if_neg c, hm] at hr
      rcases List.mem_append.mp hr with hr | hr
      · exact h x (by omega) r hr
      · rcases List.mem_append.mp hr with hr | hr
        · exact h _ (by omega) r hr
        · rcases List.mem_append.mp hr with hr | hr
          · exact h _ (by omega) r hr
          · exact h _ (by omega) r hr
  have h1 := step 0 1 (by decide) rfl h0
  have h2 := step 1 4 (by decide) rfl h1
  have h3 := step 2 16 (by decide) rfl h2
  exact ⟨h0, h1, h2, h3⟩
theorem tbl_ok (f : Nat → Int64) : ∀ k, k < (tbl f).length → okRow ((tbl f).getD k (0, 0)) := by
  intro k hk
  have h := (reg_ok (uni 64 f)).2.2.2 0 (by decide)
  refine h _ ?_
  rw [List.getD_eq_getElem?_getD, List.getElem?_eq_getElem hk]
  exact List.getElem_mem hk
