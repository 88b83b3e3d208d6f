def ruR (f : Nat → Int64) (row : Nat × Nat) (u : Nat) (r : Int32) : Prop := (u < 3 ∧ ((row.2 < 3 - u ∧ r = nI (vl row.1 u)) ∨ (3 - u ≤ row.2 ∧ r = -1))) ∨ (u = 3 ∧ r = nI (cd (f row.1) 64))
theorem ruR_one {f : Nat → Int64} {row : Nat × Nat} {u : Nat} {r t : Int32} (h1 : ruR f row u r) (h2 : ruR f row u t) : r = t := by
  rcases h1 with ⟨a1, a2⟩ | ⟨a1, a2⟩ <;> rcases h2 with ⟨b1, b2⟩ | ⟨b1, b2⟩
  · rcases a2 with ⟨a2, a3⟩ | ⟨a2, a3⟩ <;> rcases b2 with ⟨b2, b3⟩ | ⟨b2, b3⟩
    · rw [a3, b3]
    · omega
    · omega
    · rw [a3, b3]
  · omega
  · omega
  · rw [a2, b2]
theorem p64 : ∀ d, d ≤ 3 → (64 ≤ 4 ^ d ↔ 3 ≤ d) := by decide +kernel
theorem p16 : ∀ d, d ≤ 3 → (16 ≤ 4 ^ d ↔ 2 ≤ d) := by decide +kernel
theorem p4 : ∀ d, d ≤ 3 → (4 ≤ 4 ^ d ↔ 1 ≤ d) := by decide +kernel
theorem pmax : ∀ d, d ≤ 3 → 4 ^ d ≤ 64 := by decide +kernel
theorem reg_len (ok : Nat → Nat → Bool) : ∀ d x, (reg ok d x).length ≤ 4 ^ d ∧ 0 < (reg ok d x).length := by
  intro d
  induction d with
  | zero => intro x; exact ⟨Nat.le_refl _, Nat.succ_pos _⟩
  | succ d ih =>
    intro x
    show (if ok x (4 ^ (d + 1)) = true then [(x, d + 1)] else reg ok d x ++ (reg ok d (x + 4 ^ d) ++ (reg ok d (x + 2 * 4 ^ d) ++ reg ok d (x + 3 * 4 ^ d)))).length ≤ 4 ^ (d + 1) ∧ 0 < (if ok x (4 ^ (d + 1)) = true then [(x, d + 1)] else reg ok d x ++ (reg ok d (x + 4 ^ d) ++ (reg ok d (x + 2 * 4 ^ d) ++ reg ok d (x + 3 * 4 ^ d)))).length
    have hp : 0 < 4 ^ d := Nat.pow_pos (by decide)
    rw [Nat.pow_succ]
    by_cases c : ok x (4 ^ d * 4) = true
    · rw [if_pos c, List.length_singleton]
      omega
    · rw [if_neg c, List.length_append, List.length_append, List.length_append]
      have h1 := ih x
      have h2 := ih (x + 4 ^ d)
      have h3 := ih (x + 2 * 4 ^ d)
      have h4 := ih (x + 3 * 4 ^ d)
      omega
theorem tbl_len (f : Nat → Int64) : (tbl f).length ≤ 64 := (reg_len (uni 64 f) 3 0).1
