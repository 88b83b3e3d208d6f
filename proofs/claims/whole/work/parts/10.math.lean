/-! bits of longs; unions; steps -/
def hbit (x : Int64) (k : Nat) : Bool := x.toBitVec.getLsbD k
def bI (b : Bool) : Int32 := if b then 1 else 0
theorem bI_t : bI true = 1 := rfl
theorem bI_f : bI false = 0 := rfl
theorem bI_ne {b : Bool} : ¬ bI b = 0 ↔ b = true := by cases b <;> decide
theorem bI_eq {b : Bool} : bI b = 0 ↔ b = false := by cases b <;> decide
theorem bI_cases (b : Bool) : bI b = 0 ∨ bI b = 1 := by cases b <;> decide
theorem bI_nar (b : Bool) : narrow .boolean (.int (bI b)) = .int (bI b) := by cases b <;> rfl
theorem bI_fit (b : Bool) : fits .boolean (.int (bI b)) = true := by cases b <;> rfl
theorem hb_ext {x y : Int64} (h : ∀ k, k < 64 → hbit x k = hbit y k) : x = y := by
  rw [← Int64.toBitVec_inj]
  exact BitVec.eq_of_getLsbD_eq (fun i hi => h i hi)
theorem hb_big (x : Int64) {k : Nat} (h : 64 ≤ k) : hbit x k = false := BitVec.getLsbD_of_ge _ _ h
theorem hb_or (x y : Int64) (k : Nat) : hbit (x ||| y) k = (hbit x k || hbit y k) := by
  unfold hbit
  rw [Int64.toBitVec_or, BitVec.getLsbD_or]
theorem hb_and (x y : Int64) (k : Nat) : hbit (x &&& y) k = (hbit x k && hbit y k) := by
  unfold hbit
  rw [Int64.toBitVec_and, BitVec.getLsbD_and]
theorem hb_0 (k : Nat) : hbit 0 k = false := by
  unfold hbit
  show (0#64).getLsbD k = false
  simp
theorem hb_ne0 {x : Int64} : ¬ x = 0 ↔ ∃ k, k < 64 ∧ hbit x k = true := by
  constructor
  · intro h
    apply Classical.byContradiction
    intro h2
    apply h
    apply hb_ext
    intro k hk
    rw [hb_0]
    cases hx : hbit x k with
    | false => rfl
    | true => exact absurd ⟨k, hk, hx⟩ h2
  · rintro ⟨k, hk, h⟩ e
    rw [e, hb_0] at h
    cases h
theorem hb_not (x : Int64) {k : Nat} (hk : k < 64) : hbit (x ^^^ (-1)) k = !hbit x k := by
  unfold hbit
  rw [Int64.toBitVec_xor, BitVec.getLsbD_xor]
  have : (-1 : Int64).toBitVec = BitVec.allOnes 64 := by decide +kernel
  rw [this, BitVec.getLsbD_allOnes]
  simp [hk]
theorem cmp0 (x y : Int64) : lg_cmp x y = 0 ↔ x = y := by
  unfold lg_cmp
  by_cases h1 : x > y
  · rw [if_pos h1]
    constructor
    · intro h
      exact absurd h (by decide)
    · intro h
      subst h
      exact absurd h1 (Int64.lt_irrefl)
  · rw [if_neg h1]
    by_cases h2 : x = y
    · rw [if_pos h2]
      exact ⟨fun _ => h2, fun _ => rfl⟩
    · rw [if_neg h2]
      exact ⟨fun h => absurd h (by decide), fun h => absurd h h2⟩
theorem sh_u : ∀ k, k < 64 → ((nI k).toInt64.toUInt64 &&& Int64.toUInt64 63).toNat = k := by decide +kernel
theorem hb_shr (x : Int64) {k : Nat} (hk : k < 64) : ((x.toUInt64 >>> ((nI k).toInt64.toUInt64 &&& Int64.toUInt64 63)).toInt64 &&& 1) = 0 ↔ hbit x k = false := by
  generalize hs : ((nI k).toInt64.toUInt64 &&& Int64.toUInt64 63) = sh
  have hs' : sh.toNat = k := by rw [← hs]; exact sh_u k hk
  have e : (x.toUInt64 >>> sh).toInt64.toBitVec = x.toBitVec >>> k := by
    apply BitVec.eq_of_toNat_eq
    show (x.toUInt64 >>> sh).toNat = _
    rw [UInt64.toNat_shiftRight, hs', Nat.mod_eq_of_lt hk, BitVec.toNat_ushiftRight]
    rfl
  rw [← Int64.toBitVec_inj, Int64.toBitVec_and, e]
  show x.toBitVec >>> k &&& 1#64 = 0#64 ↔ x.toBitVec.getLsbD k = false
  constructor
  · intro h
    have t := congrArg (fun z => z.getLsbD 0) h
    simpa using t
  · intro h
    apply BitVec.eq_of_getLsbD_eq
    intro i hi
    by_cases h0 : i = 0
    · subst h0
      simpa using h
    · rw [BitVec.getLsbD_and, BitVec.getLsbD_one]
      simp [h0]
/-- the set of one packet -/
def one (k : Nat) : Int64 := (1 : Int64) <<< ((nI k).toInt64 &&& 63)
theorem one_bv : ∀ k, k < 64 → (one k).toBitVec = BitVec.twoPow 64 k := by decide +kernel
theorem hb_one {k : Nat} (hk : k < 64) (j : Nat) : hbit (one k) j = decide (j = k) := by
  unfold hbit
  rw [one_bv k hk, BitVec.getLsbD_twoPow]
  by_cases h : j = k
  · subst h
    simp [hk]
  · simp [h, hk, Ne.symm h]
/-- what is given for the packets below n of a set -/
def gf (f : Nat → Int64) (z : Int64) : Nat → Int64
  | 0 => 0
  | n + 1 => if hbit z n = true then gf f z n ||| f n else gf f z n
theorem gf_bit (f : Nat → Int64) (z : Int64) (j : Nat) : ∀ n, hbit (gf f z n) j = true ↔ ∃ i, i < n ∧ hbit z i = true ∧ hbit (f i) j = true := by
  intro n
  induction n with
  | zero =>
    simp [gf, hb_0]
  | succ n ih =>
    unfold gf
    by_cases h : hbit z n = true
    · rw [if_pos h, hb_or, Bool.or_eq_true, ih]
      constructor
      · rintro (⟨i, h1, h2, h3⟩ | h3)
        · exact ⟨i, by omega, h2, h3⟩
        · exact ⟨n, by omega, h, h3⟩
      · rintro ⟨i, h1, h2, h3⟩
        by_cases hi : i = n
        · subst hi
          exact Or.inr h3
        · exact Or.inl ⟨i, by omega, h2, h3⟩
    · rw [if_neg h, ih]
      constructor
      · rintro ⟨i, h1, h2, h3⟩
        exact ⟨i, by omega, h2, h3⟩
      · rintro ⟨i, h1, h2, h3⟩
        by_cases hi : i = n
        · subst hi
          exact absurd h2 h
        · exact ⟨i, by omega, h2, h3⟩
theorem gf_ext {f g : Nat → Int64} {z : Int64} : ∀ {n : Nat}, (∀ i, i < n → f i = g i) → gf f z n = gf g z n := by
  intro n
  induction n with
  | zero => intro _; rfl
  | succ n ih =>
    intro h
    unfold gf
    rw [ih (fun i hi => h i (by omega)), h n (by omega)]
/-- steps of any number: in every set that has p and is closed -/
def Rch (f : Nat → Int64) (p j : Nat) : Prop := ∀ S : Nat → Prop, S p → (∀ q r, q < 64 → r < 64 → S q → hbit (f q) r = true → S r) → S j
theorem Rch.rf {f : Nat → Int64} {p : Nat} : Rch f p p := fun _ h _ => h
theorem Rch.tr {f : Nat → Int64} {p q j : Nat} (h1 : Rch f p q) (h2 : Rch f q j) : Rch f p j := fun S hp hc => h2 S (h1 S hp hc) hc
theorem Rch.st {f : Nat → Int64} {p j : Nat} (hp : p < 64) (hj : j < 64) (h : hbit (f p) j = true) : Rch f p j := fun S h1 hc => hc p j hp hj h1 h
/-- midway stops below m -/
def wc (f : Nat → Int64) : Nat → Nat → Nat → Bool
  | 0 => fun p j => decide (p = j) || hbit (f p) j
  | m + 1 => fun p j => wc f m p j || (wc f m p m && wc f m m j)
theorem wc_s {f : Nat → Int64} {m p j : Nat} : wc f (m + 1) p j = true ↔ wc f m p j = true ∨ (wc f m p m = true ∧ wc f m m j = true) := by
  show (wc f m p j || (wc f m p m && wc f m m j)) = true ↔ _
  rw [Bool.or_eq_true, Bool.and_eq_true]
theorem wc_up {f : Nat → Int64} {p j : Nat} (h : wc f 0 p j = true) : ∀ m, wc f m p j = true := by
  intro m
  induction m with
  | zero => exact h
  | succ m ih => exact wc_s.mpr (Or.inl ih)
theorem wc_tr {f : Nat → Int64} : ∀ m p q j, q < m → wc f m p q = true → wc f m q j = true → wc f m p j = true := by
  intro m
  induction m with
  | zero => intro p q j h; omega
  | succ m ih =>
    intro p q j hq h1 h2
    rw [wc_s] at h1 h2 ⊢
    by_cases hm : q = m
    · subst hm
      refine Or.inr ⟨?_, ?_⟩
      · rcases h1 with h | h
        · exact h
        · exact h.1
      · rcases h2 with h | h
        · exact h
        · exact h.2
    · have hlt : q < m := by omega
      rcases h1 with h1 | ⟨h1, h1'⟩ <;> rcases h2 with h2 | ⟨h2, h2'⟩
      · exact Or.inl (ih p q j hlt h1 h2)
      · exact Or.inr ⟨ih p q m hlt h1 h2, h2'⟩
      · exact Or.inr ⟨h1, ih m q j hlt h1' h2⟩
      · exact Or.inr ⟨h1, h2'⟩
theorem wc_snd {f : Nat → Int64} : ∀ m p j, m ≤ 64 → p < 64 → j < 64 → wc f m p j = true → Rch f p j := by
  intro m
  induction m with
  | zero =>
    intro p j _ hp hj h
    have h : (decide (p = j) || hbit (f p) j) = true := h
    rw [Bool.or_eq_true, decide_eq_true_eq] at h
    rcases h with h | h
    · subst h
      exact Rch.rf
    · exact Rch.st hp hj h
  | succ m ih =>
    intro p j hm hp hj h
    rw [wc_s] at h
    rcases h with h | ⟨h1, h2⟩
    · exact ih p j (by omega) hp hj h
    · exact (ih p m (by omega) hp (by omega) h1).tr (ih m j (by omega) (by omega) hj h2)
theorem wc_iff {f : Nat → Int64} {p j : Nat} (hp : p < 64) (hj : j < 64) : wc f 64 p j = true ↔ Rch f p j := by
  constructor
  · exact wc_snd 64 p j (Nat.le_refl _) hp hj
  · intro h
    refine h (fun x => wc f 64 p x = true) ?_ ?_
    · apply wc_up
      show (decide (p = p) || hbit (f p) p) = true
      simp
    · intro q r hq hr h1 h2
      refine wc_tr 64 p q r hq h1 (wc_up ?_ 64)
      show (decide (q = r) || hbit (f q) r) = true
      rw [h2]
      simp
/-! values, actions, responses -/
def vl (x f : Nat) : Nat := x / 4 ^ (2 - f) % 4
def dg (x r f : Nat) : Nat := if vl r f = vl x f then 4 else vl r f
def ac (x r : Nat) : Nat → Nat
  | 0 => 0
  | n + 1 => ac x r n * 5 + dg x r n
def act (x r : Nat) : Nat := ac x r 3
theorem vl_lt (x f : Nat) : vl x f < 4 := Nat.mod_lt _ (by decide)
theorem dg_lt (x r f : Nat) : dg x r f < 5 := by
  unfold dg
  have := vl_lt r f
  split <;> omega
theorem ac_1 (x r : Nat) : ac x r 1 < 5 := by
  have := dg_lt x r 0
  show ac x r 0 * 5 + dg x r 0 < 5
  show 0 * 5 + dg x r 0 < 5
  omega
theorem ac_2 (x r : Nat) : ac x r 2 < 25 := by
  have := ac_1 x r
  have := dg_lt x r 1
  show ac x r 1 * 5 + dg x r 1 < 25
  omega
theorem act_lt (x r : Nat) : act x r < 125 := by
  have := ac_2 x r
  have := dg_lt x r 2
  show ac x r 2 * 5 + dg x r 2 < 125
  omega
/-- for one packet no two outcomes have one action -/
theorem act_inj : ∀ x, x < 64 → ∀ r, r < 64 → ∀ t, t < 64 → act x r = act x t → r = t := by
  intro x hx r hr t ht h
  have e0 : ac x r 1 = dg x r 0 := by show 0 * 5 + dg x r 0 = dg x r 0; omega
  have e0' : ac x t 1 = dg x t 0 := by show 0 * 5 + dg x t 0 = dg x t 0; omega
  have h3 : ac x r 2 * 5 + dg x r 2 = ac x t 2 * 5 + dg x t 2 := h
  have a2 := dg_lt x r 2
  have a2' := dg_lt x t 2
  have h2 : ac x r 2 = ac x t 2 := by omega
  have d2 : dg x r 2 = dg x t 2 := by omega
  have h2' : ac x r 1 * 5 + dg x r 1 = ac x t 1 * 5 + dg x t 1 := h2
  have a1 := dg_lt x r 1
  have a1' := dg_lt x t 1
  have h1 : ac x r 1 = ac x t 1 := by omega
  have d1 : dg x r 1 = dg x t 1 := by omega
  have d0 : dg x r 0 = dg x t 0 := by rw [← e0, ← e0']; exact h1
  have key : ∀ f, dg x r f = dg x t f → vl r f = vl t f := by
    intro f hf
    unfold dg at hf
    have := vl_lt r f
    have := vl_lt t f
    split at hf <;> split at hf <;> omega
  have k0 := key 0 d0
  have k1 := key 1 d1
  have k2 := key 2 d2
  unfold vl at k0 k1 k2
  simp only [Nat.sub_zero, Nat.reduceSub, Nat.reducePow, Nat.pow_zero, Nat.div_one] at k0 k1 k2
  omega
/-- the response as two longs, cut at th -/
def rl (th x : Nat) (o : Int64) : Nat → Int64
  | 0 => 0
  | n + 1 => if hbit o n = true then (if act x n < th then rl th x o n ||| one (act x n) else rl th x o n) else rl th x o n
def rh (th x : Nat) (o : Int64) : Nat → Int64
  | 0 => 0
  | n + 1 => if hbit o n = true then (if act x n < th then rh th x o n else rh th x o n ||| one (act x n - th)) else rh th x o n
def rsp (x : Nat) (o : Int64) (a : Nat) : Prop := ∃ r, r < 64 ∧ hbit o r = true ∧ act x r = a
theorem rl_bit {th : Nat} (hth : th ≤ 64) (x : Nat) (o : Int64) (a : Nat) : ∀ n, hbit (rl th x o n) a = true ↔ a < th ∧ ∃ r, r < n ∧ hbit o r = true ∧ act x r = a := by
  intro n
  induction n with
  | zero => simp [rl, hb_0]
  | succ n ih =>
    unfold rl
    by_cases h : hbit o n = true
    · rw [if_pos h]
      by_cases h2 : act x n < th
      · rw [if_pos h2, hb_or, Bool.or_eq_true, ih, hb_one (by omega), decide_eq_true_eq]
        constructor
        · rintro (⟨h0, r, h1, h3, h4⟩ | h3)
          · exact ⟨h0, r, by omega, h3, h4⟩
          · exact ⟨by omega, n, by omega, h, h3.symm⟩
        · rintro ⟨h0, r, h1, h3, h4⟩
          by_cases hr : r = n
          · subst hr
            exact Or.inr h4.symm
          · exact Or.inl ⟨h0, r, by omega, h3, h4⟩
      · rw [if_neg h2, ih]
        constructor
        · rintro ⟨h0, r, h1, h3, h4⟩
          exact ⟨h0, r, by omega, h3, h4⟩
        · rintro ⟨h0, r, h1, h3, h4⟩
          by_cases hr : r = n
          · subst hr
            omega
          · exact ⟨h0, r, by omega, h3, h4⟩
    · rw [if_neg h, ih]
      constructor
      · rintro ⟨h0, r, h1, h3, h4⟩
        exact ⟨h0, r, by omega, h3, h4⟩
      · rintro ⟨h0, r, h1, h3, h4⟩
        by_cases hr : r = n
        · subst hr
          exact absurd h3 h
        · exact ⟨h0, r, by omega, h3, h4⟩
theorem rh_bit {th : Nat} (hth : 61 ≤ th) (x : Nat) (o : Int64) (a : Nat) : ∀ n, hbit (rh th x o n) a = true ↔ ∃ r, r < n ∧ hbit o r = true ∧ act x r = a + th := by
  intro n
  induction n with
  | zero => simp [rh, hb_0]
  | succ n ih =>
    have hlt := act_lt x n
    unfold rh
    by_cases h : hbit o n = true
    · rw [if_pos h]
      by_cases h2 : act x n < th
      · rw [if_pos h2, ih]
        constructor
        · rintro ⟨r, h1, h3, h4⟩
          exact ⟨r, by omega, h3, h4⟩
        · rintro ⟨r, h1, h3, h4⟩
          by_cases hr : r = n
          · subst hr
            omega
          · exact ⟨r, by omega, h3, h4⟩
      · rw [if_neg h2, hb_or, Bool.or_eq_true, ih, hb_one (by omega), decide_eq_true_eq]
        constructor
        · rintro (⟨r, h1, h3, h4⟩ | h3)
          · exact ⟨r, by omega, h3, h4⟩
          · exact ⟨n, by omega, h, by omega⟩
        · rintro ⟨r, h1, h3, h4⟩
          by_cases hr : r = n
          · subst hr
            exact Or.inr (by omega)
          · exact Or.inl ⟨r, by omega, h3, h4⟩
    · rw [if_neg h, ih]
      constructor
      · rintro ⟨r, h1, h3, h4⟩
        exact ⟨r, by omega, h3, h4⟩
      · rintro ⟨r, h1, h3, h4⟩
        by_cases hr : r = n
        · subst hr
          exact absurd h3 h
        · exact ⟨r, by omega, h3, h4⟩
theorem bool_iff {x y : Bool} (h : x = true ↔ y = true) : x = y := by
  cases x <;> cases y <;> simp_all
theorem rsp_iff {th x y : Nat} {o o' : Int64} (h1 : 61 ≤ th) (h2 : th ≤ 64) : (rl th x o 64 = rl th y o' 64 ∧ rh th x o 64 = rh th y o' 64) ↔ ∀ a, rsp x o a ↔ rsp y o' a := by
  constructor
  · rintro ⟨e1, e2⟩ a
    by_cases ha : a < th
    · have b1 := rl_bit h2 x o a 64
      have b2 := rl_bit h2 y o' a 64
      rw [e1] at b1
      have b3 := b1.symm.trans b2
      constructor
      · intro h
        exact (b3.mp ⟨ha, h⟩).2
      · intro h
        exact (b3.mpr ⟨ha, h⟩).2
    · have b1 := rh_bit h1 x o (a - th) 64
      have b2 := rh_bit h1 y o' (a - th) 64
      rw [e2] at b1
      have b3 := b1.symm.trans b2
      rw [show a - th + th = a by omega] at b3
      exact b3
  · intro h
    refine ⟨hb_ext (fun k hk => bool_iff ?_), hb_ext (fun k hk => bool_iff ?_)⟩
    · rw [rl_bit h2, rl_bit h2]
      constructor
      · rintro ⟨h0, h3⟩
        exact ⟨h0, (h k).mp h3⟩
      · rintro ⟨h0, h3⟩
        exact ⟨h0, (h k).mpr h3⟩
    · rw [rh_bit h1, rh_bit h1]
      exact h (k + th)
/-- all packets of a region have one response -/
def uni (th : Nat) (f : Nat → Int64) (x n : Nat) : Bool := decide (∀ q, q < n → rl th (x + q) (f (x + q)) 64 = rl th x (f x) 64 ∧ rh th (x + q) (f (x + q)) 64 = rh th x (f x) 64)
theorem uni_63 (f : Nat → Int64) (x n : Nat) : uni 63 f x n = uni 64 f x n := by
  apply bool_iff
  unfold uni
  rw [decide_eq_true_eq, decide_eq_true_eq]
  constructor
  · intro h q hq
    exact (rsp_iff (by decide) (by decide)).mpr ((rsp_iff (by decide) (by decide)).mp (h q hq))
  · intro h q hq
    exact (rsp_iff (by decide) (by decide)).mpr ((rsp_iff (by decide) (by decide)).mp (h q hq))
theorem uni_1 (th : Nat) (f : Nat → Int64) (x : Nat) : uni th f x 1 = true := by
  unfold uni
  rw [decide_eq_true_eq]
  intro q hq
  have : q = 0 := by omega
  subst this
  exact ⟨rfl, rfl⟩
/-- the table: first packet and depth (a rule has 4 ^ depth packets) -/
def reg (ok : Nat → Nat → Bool) : Nat → Nat → List (Nat × Nat)
  | 0, x => [(x, 0)]
  | d + 1, x => if ok x (4 ^ (d + 1)) = true then [(x, d + 1)] else reg ok d x ++ (reg ok d (x + 4 ^ d) ++ (reg ok d (x + 2 * 4 ^ d) ++ reg ok d (x + 3 * 4 ^ d)))
/-- the depth that is taken at x -/
def gz (ok : Nat → Nat → Bool) (x : Nat) : Nat := if x % 64 = 0 ∧ ok x 64 = true then 3 else if x % 16 = 0 ∧ ok x 16 = true then 2 else if x % 4 = 0 ∧ ok x 4 = true then 1 else 0
def grd (ok : Nat → Nat → Bool) : Nat → Nat → List (Nat × Nat)
  | 0, _ => []
  | n + 1, x => if 64 ≤ x then [] else (x, gz ok x) :: grd ok n (x + 4 ^ gz ok x)
theorem grd_s {ok : Nat → Nat → Bool} {n x : Nat} (h : x < 64) : grd ok (n + 1) x = (x, gz ok x) :: grd ok n (x + 4 ^ gz ok x) := by
  show (if 64 ≤ x then [] else (x, gz ok x) :: grd ok n (x + 4 ^ gz ok x)) = _
  rw [if_neg (by omega)]
theorem gr0 {ok : Nat → Nat → Bool} {n x : Nat} (hx : x < 64) (h1 : ¬ (x % 4 = 0 ∧ ok x 4 = true)) (h2 : ¬ (x % 16 = 0 ∧ ok x 16 = true)) (h3 : ¬ (x % 64 = 0 ∧ ok x 64 = true)) : grd ok (n + 1) x = reg ok 0 x ++ grd ok n (x + 1) := by
  have e : gz ok x = 0 := by unfold gz; rw [if_neg h3, if_neg h2, if_neg h1]
  rw [grd_s hx, e]
  rfl
theorem gr1 {ok : Nat → Nat → Bool} {n x : Nat} (hx : x + 4 ≤ 64) (ha : x % 4 = 0) (h2 : ¬ (x % 16 = 0 ∧ ok x 16 = true)) (h3 : ¬ (x % 64 = 0 ∧ ok x 64 = true)) : grd ok (n + (reg ok 1 x).length) x = reg ok 1 x ++ grd ok n (x + 4) := by
  show grd ok (n + (if ok x (4 ^ (0 + 1)) = true then [(x, 0 + 1)] else _).length) x = (if ok x (4 ^ (0 + 1)) = true then [(x, 0 + 1)] else _) ++ _
  by_cases h : ok x 4 = true
  · rw [if_pos h]
    have e : gz ok x = 1 := by unfold gz; rw [if_neg h3, if_neg h2, if_pos ⟨ha, h⟩]
    show grd ok (n + 1) x = _
    rw [grd_s (by omega), e]
    rfl
  · rw [if_neg h]
    show grd ok (n + 4) x = (reg ok 0 x ++ (reg ok 0 (x + 1) ++ (reg ok 0 (x + 2 * 1) ++ reg ok 0 (x + 3 * 1)))) ++ grd ok n (x + 4)
    rw [show n + 4 = (n + 3) + 1 from rfl, gr0 (by omega) (fun q => h q.2) h2 h3]
    rw [show n + 3 = (n + 2) + 1 from rfl, gr0 (by omega) (by omega) (by omega) (by omega)]
    rw [show n + 2 = (n + 1) + 1 from rfl, gr0 (by omega) (by omega) (by omega) (by omega)]
    rw [gr0 (by omega) (by omega) (by omega) (by omega)]
    rfl
theorem gr2 {ok : Nat → Nat → Bool} {n x : Nat} (hx : x + 16 ≤ 64) (ha : x % 16 = 0) (h3 : ¬ (x % 64 = 0 ∧ ok x 64 = true)) : grd ok (n + (reg ok 2 x).length) x = reg ok 2 x ++ grd ok n (x + 16) := by
  show grd ok (n + (if ok x (4 ^ (1 + 1)) = true then [(x, 1 + 1)] else _).length) x = (if ok x (4 ^ (1 + 1)) = true then [(x, 1 + 1)] else _) ++ _
  by_cases h : ok x 16 = true
  · rw [if_pos h]
    have e : gz ok x = 2 := by unfold gz; rw [if_neg h3, if_pos ⟨ha, h⟩]
    show grd ok (n + 1) x = _
    rw [grd_s (by omega), e]
    rfl
  · rw [if_neg h]
    show grd ok (n + (reg ok 1 x ++ (reg ok 1 (x + 4) ++ (reg ok 1 (x + 8) ++ reg ok 1 (x + 12)))).length) x = (reg ok 1 x ++ (reg ok 1 (x + 4) ++ (reg ok 1 (x + 8) ++ reg ok 1 (x + 12)))) ++ grd ok n (x + 16)
    generalize e1 : (reg ok 1 x).length = a1
    generalize e2 : (reg ok 1 (x + 4)).length = a2
    generalize e3 : (reg ok 1 (x + 8)).length = a3
    generalize e4 : (reg ok 1 (x + 12)).length = a4
    rw [List.length_append, List.length_append, List.length_append, e1, e2, e3, e4]
    rw [show n + (a1 + (a2 + (a3 + a4))) = (n + a4 + a3 + a2) + a1 by omega, ← e1, gr1 (by omega) (by omega) (fun q => h q.2) h3]
    rw [← e2, gr1 (by omega) (by omega) (by omega) (by omega)]
    rw [← e3, gr1 (by omega) (by omega) (by omega) (by omega)]
    rw [← e4, gr1 (by omega) (by omega) (by omega) (by omega)]
    simp only [List.append_assoc]
theorem gr3 {ok : Nat → Nat → Bool} {n : Nat} : grd ok (n + (reg ok 3 0).length) 0 = reg ok 3 0 := by
  show grd ok (n + (if ok 0 (4 ^ (2 + 1)) = true then [(0, 2 + 1)] else _).length) 0 = (if ok 0 (4 ^ (2 + 1)) = true then [(0, 2 + 1)] else _)
  have hend : ∀ k, grd ok k 64 = [] := by
    intro k
    cases k with
    | zero => rfl
    | succ k => show (if 64 ≤ 64 then [] else _) = []; rw [if_pos (Nat.le_refl _)]
  by_cases h : ok 0 64 = true
  · rw [if_pos h]
    have e : gz ok 0 = 3 := by unfold gz; rw [if_pos ⟨rfl, h⟩]
    show grd ok (n + 1) 0 = _
    rw [grd_s (by decide), e]
    show (0, 3) :: grd ok n 64 = _
    rw [hend]
  · rw [if_neg h]
    show grd ok (n + (reg ok 2 0 ++ (reg ok 2 16 ++ (reg ok 2 32 ++ reg ok 2 48))).length) 0 = reg ok 2 0 ++ (reg ok 2 16 ++ (reg ok 2 32 ++ reg ok 2 48))
    generalize e1 : (reg ok 2 0).length = a1
    generalize e2 : (reg ok 2 16).length = a2
    generalize e3 : (reg ok 2 32).length = a3
    generalize e4 : (reg ok 2 48).length = a4
    rw [List.length_append, List.length_append, List.length_append, e1, e2, e3, e4]
    rw [show n + (a1 + (a2 + (a3 + a4))) = (n + a4 + a3 + a2) + a1 by omega, ← e1, gr2 (by decide) (by decide) (fun q => h q.2)]
    rw [← e2, gr2 (by decide) (by decide) (by omega)]
    rw [← e3, gr2 (by decide) (by decide) (by omega)]
    rw [← e4, gr2 (by decide) (by decide) (by omega)]
    rw [hend, List.append_nil]
