def wfN (n : Nat) (j : Nat) (a b c : Int32) : Bool := match j with
  | 0 => true
  | 1 => true
  | 2 => inb 3 a && inb 4 b
  | 3 => inb 3 a && inb 4 b
  | 4 => inb n a && inb n b
  | 5 => inb n a && inb n b
  | 6 => inb n a
  | 7 => inb n a
  | 8 => inb n a && (inb n b && inb n c)
  | _ => false
def wf (n : Nat) (k a b c : Int32) : Bool := inb 9 k && wfN n k.toNatClampNeg a b c
def cl (x : Int32) : Nat := x.toNatClampNeg
theorem cl_nI {j : Nat} (h : j < 2147483648) : cl (nI j) = j := nI_clamp h
theorem tb_lo {x : Int32} (h : x < 0) : x.toInt < 0 := by
  rw [Int32.lt_iff_toInt_lt, Int32.toInt_zero] at h
  exact h
theorem tb_hi {x : Int32} {j : Nat} (hj : j < 2147483648) (h : nI j ≤ x) : (j : Int) ≤ x.toInt := by
  rw [Int32.le_iff_toInt_le, nI_toInt hj] at h
  exact h
theorem wf_neg {n : Nat} {k a b c : Int32} (h : k < 0) : wf n k a b c = false := by rw [wf, inb_neg h]; rfl
theorem wf_big {n : Nat} {k a b c : Int32} (h : nI 9 ≤ k) : wf n k a b c = false := by rw [wf, inb_big (by decide) h]; rfl
theorem wf_t {n : Nat} {k a b c : Int32} (h : wf n k a b c = true) : ∃ j, j < 9 ∧ k = nI j ∧ wfN n j a b c = true := by
  unfold wf at h
  rw [Bool.and_eq_true] at h
  obtain ⟨j, hj, rfl⟩ := inb_t (by decide) h.1
  exact ⟨j, hj, rfl, by rw [← nI_clamp (n := j) (by omega)]; exact h.2⟩
theorem and_t {x y : Bool} (h : (x && y) = true) : x = true ∧ y = true := by rw [Bool.and_eq_true] at h; exact h
