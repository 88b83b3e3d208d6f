/-! what a policy gives, and which are filters -/
def setv (x a b : Nat) : Nat := x - vl x a * 4 ^ (2 - a) + b * 4 ^ (2 - a)
theorem setv_lt : ∀ x, x < 64 → ∀ a, a < 3 → ∀ b, b < 4 → setv x a b < 64 := by decide +kernel
theorem i_val : ∀ x, x < 64 → ∀ a, a < 3 → (nI x >>> (nI (2 * (2 - a)) &&& 31)) &&& nI 3 = nI (vl x a) := by decide +kernel
theorem i_shift : ∀ a, a < 3 → nI 2 * (nI 2 - nI a) = nI (2 * (2 - a)) := by decide +kernel
theorem i_weight : ∀ a, a < 3 → nI 1 <<< (nI (2 * (2 - a)) &&& 31) = nI (4 ^ (2 - a)) := by decide +kernel
theorem i_packets : ∀ a, a < 4 → nI 64 >>> ((nI 2 * nI a) &&& 31) = nI (4 ^ (3 - a)) := by decide +kernel
theorem i_setC : ∀ x, x < 64 → ∀ a, a < 3 → ∀ b, b < 4 → nI x + (nI b - nI (vl x a)) * nI (4 ^ (2 - a)) = nI (setv x a b) := by decide +kernel
theorem i_valM : ∀ x, x < 64 → ∀ a, a < 3 → (nI x >>> ((nI 4 - nI 2 * nI a) &&& 31)) &&& nI 3 = nI (vl x a) := by decide +kernel
theorem i_setM : ∀ x, x < 64 → ∀ a, a < 3 → ∀ b, b < 4 → nI x + ((nI b - nI (vl x a)) <<< ((nI 4 - nI 2 * nI a) &&& 31)) = nI (setv x a b) := by decide +kernel
def polF (k a b c : Nat) (O : Nat → Nat → Int64) (x : Nat) : Int64 :=
  if k = 0 then 0 else if k = 1 then one x else if k = 2 then (if vl x a = b then one x else 0) else if k = 3 then one (setv x a b)
  else if k = 4 then O a x ||| O b x else if k = 5 then gf (O b) (O a x) 64 else if k = 6 then st (O a) x 64
  else if k = 7 then (if O a x = 0 then one x else 0) else (if O a x = 0 then O c x else O b x)
def polB (k a b c : Nat) (F : Nat → Bool) : Bool :=
  if k = 3 then false else if k = 4 ∨ k = 5 then F a && F b else if k = 6 then F a else if k = 8 then F a && (F b && F c) else true
/-- equal outcomes; how many differ -/
def eqN (f g : Nat → Int64) : Nat → Bool
  | 0 => true
  | n + 1 => eqN f g n && decide (f n = g n)
theorem eqN_iff {f g : Nat → Int64} : ∀ n, eqN f g n = true ↔ ∀ k, k < n → f k = g k := by
  intro n
  induction n with
  | zero => exact ⟨fun _ k h => absurd h (Nat.not_lt_zero k), fun _ => rfl⟩
  | succ n ih =>
    show (eqN f g n && decide (f n = g n)) = true ↔ _
    rw [Bool.and_eq_true, ih, decide_eq_true_eq]
    constructor
    · rintro ⟨h1, h2⟩ k hk
      by_cases h : k = n
      · subst h
        exact h2
      · exact h1 k (by omega)
    · intro h
      exact ⟨fun k hk => h k (by omega), h n (by omega)⟩
def eqO (f g : Nat → Int64) : Bool := eqN f g 64
def isN (O : Nat → Nat → Int64) (n : Nat) : Bool := decide (∀ j, j < n → eqO (O j) (O n) = false)
def dct (O : Nat → Nat → Int64) : Nat → Nat
  | 0 => 0
  | n + 1 => dct O n + (if isN O n = true then 1 else 0)
theorem dct_le (O : Nat → Nat → Int64) : ∀ n, dct O n ≤ n := by
  intro n
  induction n with
  | zero => exact Nat.le_refl _
  | succ n ih =>
    show dct O n + (if isN O n = true then 1 else 0) ≤ n + 1
    split <;> omega
/-- the first packet at which two differ, or 64 -/
def apR (f g : Nat → Int64) (k : Nat) : Prop := k ≤ 64 ∧ (∀ j, j < k → f j = g j) ∧ (k < 64 → ¬ f k = g k)
theorem apR_one {f g : Nat → Int64} {k j : Nat} (h1 : apR f g k) (h2 : apR f g j) : k = j := by
  obtain ⟨a1, a2, a3⟩ := h1
  obtain ⟨b1, b2, b3⟩ := h2
  rcases Nat.lt_trichotomy k j with q | q | q
  · exact absurd (b2 k q) (a3 (by omega))
  · exact q
  · exact absurd (a2 j q) (b3 (by omega))
theorem apR_eq {f g : Nat → Int64} {k : Nat} (h : apR f g k) : k = 64 ↔ eqO f g = true := by
  obtain ⟨a1, a2, a3⟩ := h
  unfold eqO
  rw [eqN_iff]
  constructor
  · intro h
    subst h
    exact a2
  · intro h
    apply Classical.byContradiction
    intro hc
    exact a3 (by omega) (h k (by omega))
/-- is the int a number below n -/
def inb (n : Nat) (x : Int32) : Bool := decide (0 ≤ x.toInt ∧ x.toInt < n)
theorem inb_t {n : Nat} {x : Int32} (hn : n < 2147483648) (h : inb n x = true) : ∃ j : Nat, j < n ∧ x = nI j := by
  unfold inb at h
  rw [decide_eq_true_eq] at h
  exact vp_in_of (vp_in_iff.mpr h) hn
theorem inb_nI {n j : Nat} (hj : j < n) (hn : n < 2147483648) : inb n (nI j) = true := by
  unfold inb
  rw [decide_eq_true_eq]
  exact vp_in_iff.mp (vp_in_nI hj hn)
theorem inb_neg {n : Nat} {x : Int32} (h : x < 0) : inb n x = false := by
  unfold inb
  rw [decide_eq_false_iff_not]
  rw [Int32.lt_iff_toInt_lt, Int32.toInt_zero] at h
  omega
theorem inb_big {n : Nat} {x : Int32} (hn : n < 2147483648) (h : nI n ≤ x) : inb n x = false := by
  unfold inb
  rw [decide_eq_false_iff_not]
  rw [Int32.le_iff_toInt_le, nI_toInt hn] at h
  omega
theorem inb_ok {n : Nat} {x : Int32} (hn : n < 2147483648) (h1 : ¬ x < 0) (h2 : ¬ nI n ≤ x) : inb n x = true := by
  unfold inb
  rw [decide_eq_true_eq]
  rw [Int32.lt_iff_toInt_lt, Int32.toInt_zero] at h1
  rw [Int32.le_iff_toInt_le, nI_toInt hn] at h2
  omega
theorem ts_nf {x : Bool} (h : ¬ x = false) : x = true := by cases x <;> simp_all
theorem ts_nt {x : Bool} (h : ¬ x = true) : x = false := by cases x <;> simp_all
theorem sh_s : ∀ k, k < 64 → (((nI k).toInt64 &&& 63).toBitVec.smod 64).toNat = k := by decide +kernel
theorem hb_sshr (x : Int64) {k : Nat} (hk : k < 64) : ((x >>> ((nI k).toInt64 &&& 63)) &&& 1) = 0 ↔ hbit x k = false := by
  have e : (x >>> ((nI k).toInt64 &&& 63)).toBitVec = x.toBitVec.sshiftRight k := by
    rw [Int64.toBitVec_shiftRight, BitVec.sshiftRight_eq', sh_s k hk]
  rw [← Int64.toBitVec_inj, Int64.toBitVec_and, e]
  show x.toBitVec.sshiftRight k &&& 1#64 = 0#64 ↔ x.toBitVec.getLsbD k = false
  have e0 : (x.toBitVec.sshiftRight k).getLsbD 0 = x.toBitVec.getLsbD k := by
    rw [BitVec.getLsbD_sshiftRight]
    simp [hk]
  constructor
  · intro h
    have t := congrArg (fun z => z.getLsbD 0) h
    rw [← e0]
    simpa using t
  · intro h
    apply BitVec.eq_of_getLsbD_eq
    intro i hi
    by_cases h0 : i = 0
    · subst h0
      rw [BitVec.getLsbD_and, e0, h]
      rfl
    · rw [BitVec.getLsbD_and, BitVec.getLsbD_one]
      simp [h0]
theorem in_63 (v : Int32) (k n : Nat) (hk : k + 1 = n) (hn : n < 1073741824) : (decide (nI 0 ≤ v) && decide (v ≤ nI k)) = inb n v := by
  apply bool_iff
  unfold inb
  rw [Bool.and_eq_true, decide_eq_true_eq, decide_eq_true_eq, decide_eq_true_eq, Int32.le_iff_toInt_le, Int32.le_iff_toInt_le, nI_toInt (by omega), nI_toInt (by omega)]
  omega
theorem in_made (v : Int32) (n : Nat) (hn : n < 1073741824) : (decide (nI 0 ≤ v) && decide (v ≤ nI n - nI 1)) = inb n v := by
  apply bool_iff
  unfold inb
  rw [Bool.and_eq_true, decide_eq_true_eq, decide_eq_true_eq, decide_eq_true_eq, Int32.le_iff_toInt_le, Int32.le_iff_toInt_le, pk_sub_toInt hn (by decide), nI_toInt (by decide)]
  omega
def src (f : Nat → Int64) (z : Int64) : Nat → Int64
  | 0 => 0
  | n + 1 => if f n &&& z = 0 then src f z n else src f z n ||| one n
theorem src_ext {f g : Nat → Int64} {z : Int64} : ∀ {n : Nat}, (∀ i, i < n → f i = g i) → src f z n = src g z n := by
  intro n
  induction n with
  | zero => intro _; rfl
  | succ n ih =>
    intro h
    unfold src
    rw [ih (fun i hi => h i (by omega)), h n (by omega)]
