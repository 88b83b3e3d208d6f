/-! the count of bits by bytes -/
def by8 (b : Nat → Nat) : Nat → Nat
  | 0 => 0
  | k + 1 => b 0 + 256 * by8 (fun i => b (i + 1)) k
theorem by8_s (b : Nat → Nat) (k : Nat) : by8 b (k + 1) = b 0 + 256 * by8 (fun i => b (i + 1)) k := rfl
theorem and256 {a b c d : Nat} (ha : a < 256) (hc : c < 256) : (a + 256 * b) &&& (c + 256 * d) = (a &&& c) + 256 * (b &&& d) := by
  have h1 : ((a + 256 * b) &&& (c + 256 * d)) % 2 ^ 8 = a &&& c := by
    rw [Nat.and_mod_two_pow, show (a + 256 * b) % 2 ^ 8 = a by omega, show (c + 256 * d) % 2 ^ 8 = c by omega]
  have h2 : ((a + 256 * b) &&& (c + 256 * d)) / 2 ^ 8 = b &&& d := by
    rw [Nat.and_div_two_pow, show (a + 256 * b) / 2 ^ 8 = b by omega, show (c + 256 * d) / 2 ^ 8 = d by omega]
  generalize (a + 256 * b) &&& (c + 256 * d) = z at h1 h2
  omega
theorem by8_and : ∀ (k : Nat) (a c : Nat → Nat), (∀ i, a i < 256) → (∀ i, c i < 256) → by8 a k &&& by8 c k = by8 (fun i => a i &&& c i) k := by
  intro k
  induction k with
  | zero => intro a c _ _; show 0 &&& 0 = 0; decide
  | succ k ih =>
    intro a c ha hc
    rw [by8_s, by8_s, by8_s, and256 (ha 0) (hc 0), ih _ _ (fun i => ha (i + 1)) (fun i => hc (i + 1))]
theorem by8_add : ∀ (k : Nat) (a c : Nat → Nat), by8 a k + by8 c k = by8 (fun i => a i + c i) k := by
  intro k
  induction k with
  | zero => intro a c; rfl
  | succ k ih =>
    intro a c
    have := ih (fun i => a (i + 1)) (fun i => c (i + 1))
    rw [by8_s, by8_s, by8_s]
    omega
theorem by8_sub : ∀ (k : Nat) (a c : Nat → Nat), (∀ i, c i ≤ a i) → by8 a k - by8 c k = by8 (fun i => a i - c i) k ∧ by8 c k ≤ by8 a k := by
  intro k
  induction k with
  | zero => intro a c _; exact ⟨rfl, Nat.le_refl _⟩
  | succ k ih =>
    intro a c h
    obtain ⟨h1, h2⟩ := ih (fun i => a (i + 1)) (fun i => c (i + 1)) (fun i => h (i + 1))
    have h0 := h 0
    rw [by8_s, by8_s, by8_s]
    omega
theorem by8_mod {m m' : Nat} (hm : (m = 2 ∧ m' = 128) ∨ (m = 4 ∧ m' = 64) ∨ (m = 16 ∧ m' = 16)) : ∀ (k : Nat) (b : Nat → Nat), (∀ i, k ≤ i → b i = 0) → by8 b k % m = b 0 % m := by
  intro k b h
  cases k with
  | zero =>
    rw [h 0 (Nat.le_refl _)]
    rfl
  | succ k =>
    rw [by8_s]
    rcases hm with ⟨rfl, rfl⟩ | ⟨rfl, rfl⟩ | ⟨rfl, rfl⟩ <;> omega
theorem by8_div {m m' : Nat} (hm : (m = 2 ∧ m' = 128) ∨ (m = 4 ∧ m' = 64) ∨ (m = 16 ∧ m' = 16)) : ∀ (k : Nat) (b : Nat → Nat), (∀ i, k ≤ i → b i = 0) → by8 b k / m = by8 (fun i => b i / m + m' * (b (i + 1) % m)) k := by
  intro k
  induction k with
  | zero =>
    intro b _
    show 0 / m = 0
    exact Nat.zero_div m
  | succ k ih =>
    intro b h
    have h1 := ih (fun i => b (i + 1)) (fun i hi => h (i + 1) (by omega))
    have h2 := by8_mod hm k (fun i => b (i + 1)) (fun i hi => h (i + 1) (by omega))
    rw [by8_s, by8_s]
    rw [← h1]
    generalize by8 (fun i => b (i + 1)) k = X at h2 ⊢
    show (b 0 + 256 * X) / m = b 0 / m + m' * (b (0 + 1) % m) + 256 * (X / m)
    have h2 : X % m = b (0 + 1) % m := h2
    rcases hm with ⟨rfl, rfl⟩ | ⟨rfl, rfl⟩ | ⟨rfl, rfl⟩ <;> omega
theorem by8_c {a c : Nat → Nat} (h : ∀ i, a i = c i) (k : Nat) : by8 a k = by8 c k := by
  rw [show a = c from funext h]
theorem by8_of : ∀ (k N : Nat), N < 256 ^ k → N = by8 (fun i => if i < k then N / 256 ^ i % 256 else 0) k := by
  intro k
  induction k with
  | zero =>
    intro N h
    have : N = 0 := by simpa using h
    rw [this]
    rfl
  | succ k ih =>
    intro N h
    have h1 : N / 256 < 256 ^ k := by
      rw [Nat.div_lt_iff_lt_mul (by decide)]
      rw [Nat.pow_succ] at h
      exact h
    have h2 := ih (N / 256) h1
    rw [by8_s]
    have e : by8 (fun i => if i + 1 < k + 1 then N / 256 ^ (i + 1) % 256 else 0) k = N / 256 := by
      refine Eq.trans (by8_c (fun i => ?_) k) h2.symm
      by_cases hi : i < k
      · rw [if_pos hi, if_pos (by omega), Nat.div_div_eq_div_mul, Nat.pow_succ, Nat.mul_comm (256 ^ i) 256]
      · rw [if_neg hi, if_neg (by omega)]
    rw [e]
    show N = (if 0 < k + 1 then N / 256 ^ 0 % 256 else 0) + 256 * (N / 256)
    rw [if_pos (Nat.succ_pos k), Nat.pow_zero, Nat.div_one]
    omega
/-- bits from the low end -/
def cl2 : Nat → Nat → Nat
  | _, 0 => 0
  | N, n + 1 => N % 2 + cl2 (N / 2) n
theorem cl2_s (N n : Nat) : cl2 N (n + 1) = N % 2 + cl2 (N / 2) n := rfl
theorem cl2_top : ∀ (n N : Nat), cl2 N (n + 1) = cl2 N n + N / 2 ^ n % 2 := by
  intro n
  induction n with
  | zero =>
    intro N
    show N % 2 + 0 = 0 + N / 2 ^ 0 % 2
    rw [Nat.pow_zero, Nat.div_one]
    omega
  | succ n ih =>
    intro N
    rw [cl2_s, ih (N / 2), cl2_s, Nat.div_div_eq_div_mul, Nat.pow_succ, Nat.mul_comm (2 ^ n) 2]
    omega
theorem cl2_8 (b X n : Nat) (hb : b < 256) : cl2 (b + 256 * X) (n + 8) = cl2 b 8 + cl2 X n := by
  rw [show n + 8 = n + 1 + 1 + 1 + 1 + 1 + 1 + 1 + 1 from rfl]
  simp only [cl2_s]
  rw [show (b + 256 * X) / 2 / 2 / 2 / 2 / 2 / 2 / 2 / 2 = X by omega]
  rw [show cl2 (b / 2 / 2 / 2 / 2 / 2 / 2 / 2 / 2) 0 = 0 from rfl]
  have q1 : (b + 256 * X) % 2 = b % 2 := by omega
  have q2 : (b + 256 * X) / 2 % 2 = b / 2 % 2 := by omega
  have q3 : (b + 256 * X) / 2 / 2 % 2 = b / 2 / 2 % 2 := by omega
  have q4 : (b + 256 * X) / 2 / 2 / 2 % 2 = b / 2 / 2 / 2 % 2 := by omega
  have q5 : (b + 256 * X) / 2 / 2 / 2 / 2 % 2 = b / 2 / 2 / 2 / 2 % 2 := by omega
  have q6 : (b + 256 * X) / 2 / 2 / 2 / 2 / 2 % 2 = b / 2 / 2 / 2 / 2 / 2 % 2 := by omega
  have q7 : (b + 256 * X) / 2 / 2 / 2 / 2 / 2 / 2 % 2 = b / 2 / 2 / 2 / 2 / 2 / 2 % 2 := by omega
  have q8 : (b + 256 * X) / 2 / 2 / 2 / 2 / 2 / 2 / 2 % 2 = b / 2 / 2 / 2 / 2 / 2 / 2 / 2 % 2 := by omega
  rw [q1, q2, q3, q4, q5, q6, q7, q8]
  simp only [Nat.add_assoc, Nat.add_zero]
theorem cl2_le : ∀ n N, cl2 N n ≤ n := by
  intro n
  induction n with
  | zero => intro N; exact Nat.le_refl _
  | succ n ih =>
    intro N
    have := ih (N / 2)
    rw [cl2_s]
    omega
theorem cd_cl2 (x : Int64) : ∀ n, cd x n = cl2 x.toBitVec.toNat n := by
  intro n
  induction n with
  | zero => rfl
  | succ n ih =>
    rw [cl2_top, ← ih]
    show cd x n + (if hbit x n = true then 1 else 0) = _
    congr 1
    unfold hbit
    rw [BitVec.getLsbD, Nat.testBit_eq_decide_div_mod_eq]
    simp only [decide_eq_true_eq]
    split <;> omega
theorem pc1 : ∀ b, b < 256 → ∀ g, g < 2 → (b / 2 + 128 * g) &&& 85 = b / 2 &&& 85 := by decide +kernel
theorem pc2 : ∀ b, b < 256 → (b / 2 &&& 85) ≤ b := by decide +kernel
theorem pc3 : ∀ b, b < 256 → ∀ g, g < 4 → (b / 4 + 64 * g) &&& 51 = b / 4 &&& 51 := by decide +kernel
theorem pc4 : ∀ b, b < 256 → ∀ g, g < 16 → ((((b - (b / 2 &&& 85)) &&& 51) + ((b - (b / 2 &&& 85)) / 4 &&& 51)) + ((((b - (b / 2 &&& 85)) &&& 51) + ((b - (b / 2 &&& 85)) / 4 &&& 51)) / 16 + 16 * g)) &&& 15 = cl2 b 8 := by decide +kernel
theorem pc5 : ∀ b, b < 256 → ((b - (b / 2 &&& 85)) &&& 51) + ((b - (b / 2 &&& 85)) / 4 &&& 51) ≤ 68 := by decide +kernel
theorem pc6 : ∀ b, b < 256 → (((b - (b / 2 &&& 85)) &&& 51) + ((b - (b / 2 &&& 85)) / 4 &&& 51)) % 16 ≤ 4 := by decide +kernel
/-- the steps of the library's count, on numbers -/
def bc3 (N : Nat) : Nat :=
  let a := N - (N / 2 &&& 6148914691236517205)
  let b := (a &&& 3689348814741910323) + (a / 4 &&& 3689348814741910323)
  (b + b / 16) &&& 1085102592571150095
theorem m85 : by8 (fun _ => 85) 8 = 6148914691236517205 := by decide +kernel
theorem m51 : by8 (fun _ => 51) 8 = 3689348814741910323 := by decide +kernel
theorem m15 : by8 (fun _ => 15) 8 = 1085102592571150095 := by decide +kernel
theorem bc3_by (b : Nat → Nat) (hb : ∀ i, b i < 256) (h0 : ∀ i, 8 ≤ i → b i = 0) : bc3 (by8 b 8) = by8 (fun i => cl2 (b i) 8) 8 := by
  unfold bc3
  have e1 : by8 b 8 - (by8 b 8 / 2 &&& 6148914691236517205) = by8 (fun i => b i - (b i / 2 &&& 85)) 8 := by
    rw [by8_div (Or.inl ⟨rfl, rfl⟩) 8 b h0, ← m85, by8_and 8 _ _ (fun i => by have := hb i; have := hb (i + 1); omega) (fun _ => by decide)]
    rw [by8_c (fun i => pc1 (b i) (hb i) (b (i + 1) % 2) (Nat.mod_lt _ (by decide)))]
    exact (by8_sub 8 b _ (fun i => pc2 (b i) (hb i))).1
  rw [e1]
  have hc : ∀ i, b i - (b i / 2 &&& 85) < 256 := fun i => by have := hb i; omega
  have hz : ∀ i, 8 ≤ i → b i - (b i / 2 &&& 85) = 0 := fun i hi => by rw [h0 i hi]; rfl
  have e2 : (by8 (fun i => b i - (b i / 2 &&& 85)) 8 &&& 3689348814741910323) + (by8 (fun i => b i - (b i / 2 &&& 85)) 8 / 4 &&& 3689348814741910323) = by8 (fun i => ((b i - (b i / 2 &&& 85)) &&& 51) + ((b i - (b i / 2 &&& 85)) / 4 &&& 51)) 8 := by
    rw [by8_div (Or.inr (Or.inl ⟨rfl, rfl⟩)) 8 _ hz, ← m51, by8_and 8 _ _ hc (fun _ => by decide), by8_and 8 _ _ (fun i => by have := hc i; have := hc (i + 1); omega) (fun _ => by decide)]
    rw [by8_c (fun i => pc3 (b i - (b i / 2 &&& 85)) (hc i) ((b (i + 1) - (b (i + 1) / 2 &&& 85)) % 4) (Nat.mod_lt _ (by decide)))]
    exact by8_add 8 _ _
  show (_ + _ / 16) &&& 1085102592571150095 = _
  simp only [e2]
  have hd : ∀ i, ((b i - (b i / 2 &&& 85)) &&& 51) + ((b i - (b i / 2 &&& 85)) / 4 &&& 51) ≤ 68 := fun i => pc5 (b i) (hb i)
  have hd6 : ∀ i, (((b i - (b i / 2 &&& 85)) &&& 51) + ((b i - (b i / 2 &&& 85)) / 4 &&& 51)) % 16 ≤ 4 := fun i => pc6 (b i) (hb i)
  have hy : ∀ i, 8 ≤ i → ((b i - (b i / 2 &&& 85)) &&& 51) + ((b i - (b i / 2 &&& 85)) / 4 &&& 51) = 0 := fun i hi => by rw [h0 i hi]; rfl
  rw [by8_div (Or.inr (Or.inr ⟨rfl, rfl⟩)) 8 _ hy, by8_add, ← m15, by8_and 8 _ _ (fun i => by have := hd i; have := hd6 (i + 1); omega) (fun _ => by decide)]
  exact by8_c (fun i => pc4 (b i) (hb i) _ (Nat.mod_lt _ (by decide))) 8
theorem dvk {a b k : Nat} (h : a < k) : (a + k * b) / k = b := by
  rw [Nat.add_mul_div_left _ _ (by omega), Nat.div_eq_of_lt h, Nat.zero_add]
def bc (N : Nat) : Nat :=
  let a := bc3 N + bc3 N / 256
  let b := a + a / 65536
  (b + b / 4294967296) % 128
theorem cl2_all : ∀ (b : Nat → Nat), (∀ i, b i < 256) → cl2 (by8 b 8) 64 = cl2 (b 0) 8 + (cl2 (b 1) 8 + (cl2 (b 2) 8 + (cl2 (b 3) 8 + (cl2 (b 4) 8 + (cl2 (b 5) 8 + (cl2 (b 6) 8 + cl2 (b 7) 8)))))) := by
  intro b hb
  rw [by8_s, show (64 : Nat) = 56 + 8 from rfl, cl2_8 _ _ _ (hb 0)]
  rw [by8_s, show (56 : Nat) = 48 + 8 from rfl, cl2_8 _ _ _ (hb 1)]
  rw [by8_s, show (48 : Nat) = 40 + 8 from rfl, cl2_8 _ _ _ (hb 2)]
  rw [by8_s, show (40 : Nat) = 32 + 8 from rfl, cl2_8 _ _ _ (hb 3)]
  rw [by8_s, show (32 : Nat) = 24 + 8 from rfl, cl2_8 _ _ _ (hb 4)]
  rw [by8_s, show (24 : Nat) = 16 + 8 from rfl, cl2_8 _ _ _ (hb 5)]
  rw [by8_s, show (16 : Nat) = 8 + 8 from rfl, cl2_8 _ _ _ (hb 6)]
  rw [by8_s]
  show _ + (_ + (_ + (_ + (_ + (_ + (_ + cl2 (b 7 + 256 * 0) 8)))))) = _
  rfl
theorem bc_cl2 {N : Nat} (hN : N < 2 ^ 64) : bc N = cl2 N 64 := by
  have h := by8_of 8 N (by simpa using hN)
  generalize hb : (fun i => if i < 8 then N / 256 ^ i % 256 else 0) = b at h
  have hb1 : ∀ i, b i < 256 := fun i => by
    rw [← hb]
    show (if i < 8 then N / 256 ^ i % 256 else 0) < 256
    split
    · exact Nat.mod_lt _ (by decide)
    · decide
  have hb2 : ∀ i, 8 ≤ i → b i = 0 := fun i hi => by
    rw [← hb]
    show (if i < 8 then N / 256 ^ i % 256 else 0) = 0
    rw [if_neg (by omega)]
  rw [h]
  unfold bc
  rw [bc3_by b hb1 hb2, cl2_all b hb1]
  have g0 := cl2_le 8 (b 0)
  have g1 := cl2_le 8 (b 1)
  have g2 := cl2_le 8 (b 2)
  have g3 := cl2_le 8 (b 3)
  have g4 := cl2_le 8 (b 4)
  have g5 := cl2_le 8 (b 5)
  have g6 := cl2_le 8 (b 6)
  have g7 := cl2_le 8 (b 7)
  have e : by8 (fun i => cl2 (b i) 8) 8 = cl2 (b 0) 8 + 256 * (cl2 (b 1) 8 + 256 * (cl2 (b 2) 8 + 256 * (cl2 (b 3) 8 + 256 * (cl2 (b 4) 8 + 256 * (cl2 (b 5) 8 + 256 * (cl2 (b 6) 8 + 256 * (cl2 (b 7) 8 + 256 * 0))))))) := rfl
  rw [e]
  generalize cl2 (b 0) 8 = c0 at *
  generalize cl2 (b 1) 8 = c1 at *
  generalize cl2 (b 2) 8 = c2 at *
  generalize cl2 (b 3) 8 = c3 at *
  generalize cl2 (b 4) 8 = c4 at *
  generalize cl2 (b 5) 8 = c5 at *
  generalize cl2 (b 6) 8 = c6 at *
  generalize cl2 (b 7) 8 = c7 at *
  clear e h hb hb1 hb2 hN
  have d1 : (c0 + 256 * (c1 + 256 * (c2 + 256 * (c3 + 256 * (c4 + 256 * (c5 + 256 * (c6 + 256 * (c7 + 256 * 0)))))))) / 256 = c1 + 256 * (c2 + 256 * (c3 + 256 * (c4 + 256 * (c5 + 256 * (c6 + 256 * (c7 + 256 * 0)))))) := dvk (by omega)
  simp only [d1]
  have hA2 : c0 + 256 * (c1 + 256 * (c2 + 256 * (c3 + 256 * (c4 + 256 * (c5 + 256 * (c6 + 256 * (c7 + 256 * 0))))))) + (c1 + 256 * (c2 + 256 * (c3 + 256 * (c4 + 256 * (c5 + 256 * (c6 + 256 * (c7 + 256 * 0))))))) = ((c0 + c1) + 256 * (c1 + c2)) + 65536 * ((c2 + c3) + 256 * (c3 + c4) + 65536 * ((c4 + c5) + 256 * (c5 + c6) + 65536 * ((c6 + c7) + 256 * c7))) := by
    simp only [Nat.mul_add]
    simp only [← Nat.mul_assoc, Nat.reduceMul, Nat.mul_zero, Nat.add_zero]
    ac_rfl
  simp only [hA2]
  clear hA2 d1
  have d2 : (((c0 + c1) + 256 * (c1 + c2)) + 65536 * ((c2 + c3) + 256 * (c3 + c4) + 65536 * ((c4 + c5) + 256 * (c5 + c6) + 65536 * ((c6 + c7) + 256 * c7)))) / 65536 = (c2 + c3) + 256 * (c3 + c4) + 65536 * ((c4 + c5) + 256 * (c5 + c6) + 65536 * ((c6 + c7) + 256 * c7)) := dvk (by omega)
  simp only [d2]
  have hB2 : ((c0 + c1) + 256 * (c1 + c2)) + 65536 * ((c2 + c3) + 256 * (c3 + c4) + 65536 * ((c4 + c5) + 256 * (c5 + c6) + 65536 * ((c6 + c7) + 256 * c7))) + ((c2 + c3) + 256 * (c3 + c4) + 65536 * ((c4 + c5) + 256 * (c5 + c6) + 65536 * ((c6 + c7) + 256 * c7))) = ((c0 + c1 + c2 + c3) + 256 * (c1 + c2 + c3 + c4) + 65536 * ((c2 + c3 + c4 + c5) + 256 * (c3 + c4 + c5 + c6))) + 4294967296 * ((c4 + c5 + c6 + c7) + 256 * (c5 + c6 + c7) + 65536 * ((c6 + c7) + 256 * c7)) := by
    simp only [Nat.mul_add]
    simp only [← Nat.mul_assoc, Nat.reduceMul, Nat.mul_zero, Nat.add_zero]
    ac_rfl
  simp only [hB2]
  clear hB2 d2
  have d3 : (((c0 + c1 + c2 + c3) + 256 * (c1 + c2 + c3 + c4) + 65536 * ((c2 + c3 + c4 + c5) + 256 * (c3 + c4 + c5 + c6))) + 4294967296 * ((c4 + c5 + c6 + c7) + 256 * (c5 + c6 + c7) + 65536 * ((c6 + c7) + 256 * c7))) / 4294967296 = ((c4 + c5 + c6 + c7) + 256 * (c5 + c6 + c7) + 65536 * ((c6 + c7) + 256 * c7)) := dvk (by omega)
  rw [d3]
  have hC : ((c0 + c1 + c2 + c3) + 256 * (c1 + c2 + c3 + c4) + 65536 * ((c2 + c3 + c4 + c5) + 256 * (c3 + c4 + c5 + c6))) + 4294967296 * ((c4 + c5 + c6 + c7) + 256 * (c5 + c6 + c7) + 65536 * ((c6 + c7) + 256 * c7)) + ((c4 + c5 + c6 + c7) + 256 * (c5 + c6 + c7) + 65536 * ((c6 + c7) + 256 * c7)) = (c0 + (c1 + (c2 + (c3 + (c4 + (c5 + (c6 + c7))))))) + 128 * (2 * (c1 + c2 + c3 + c4) + 512 * ((c2 + c3 + c4 + c5) + 256 * (c3 + c4 + c5 + c6)) + 33554432 * ((c4 + c5 + c6 + c7) + 256 * (c5 + c6 + c7) + 65536 * ((c6 + c7) + 256 * c7)) + 2 * (c5 + c6 + c7) + 512 * ((c6 + c7) + 256 * c7)) := by
    simp only [Nat.mul_add]
    simp only [← Nat.mul_assoc, Nat.reduceMul, Nat.mul_zero, Nat.add_zero]
    ac_rfl
  rw [hC, Nat.add_mul_mod_self_left]
  clear hC d3
  exact Nat.mod_eq_of_lt (by omega)
