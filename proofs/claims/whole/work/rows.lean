section
-- ===== PART A: goes FIRST, ahead of the names: the tables' words, and 'selects' of the private methods out of them =====
/-- a private method of a class that the tables say can be made, by its rows of tables_1 -/
def lw_okq (q : MethodName × Nat) : Prop := (q.1.cls ≠ "java/lang/invoke/MethodHandle" ∧ q.1.cls ≠ "java/lang/invoke/VarHandle") ∧ Cond.instantiable q.1.cls q.2 ∈ tables_1 ∧ Cond.privateMethod q.1 ∈ tables_1 ∧ Cond.instanceMethod q.1 ∈ tables_1
theorem lw_p0 : lw_okq (⟨"PolicyVerifier", "isWellFormed", "(IIII)Z"⟩, 4) := ⟨⟨by decide +kernel, by decide +kernel⟩, List.mem_of_getElem? (i := 15) (by decide +kernel), List.mem_of_getElem? (i := 62) (by decide +kernel), List.mem_of_getElem? (i := 63) (by decide +kernel)⟩
theorem lw_p1 : lw_okq (⟨"PolicyVerifier", "isMade", "(I)Z"⟩, 4) := ⟨⟨by decide +kernel, by decide +kernel⟩, List.mem_of_getElem? (i := 15) (by decide +kernel), List.mem_of_getElem? (i := 66) (by decide +kernel), List.mem_of_getElem? (i := 67) (by decide +kernel)⟩
theorem lw_p2 : lw_okq (⟨"java/lang/Throwable", "fillInStackTrace", "(I)Ljava/lang/Throwable;"⟩, 6) := ⟨⟨by decide +kernel, by decide +kernel⟩, List.mem_of_getElem? (i := 109) (by decide +kernel), List.mem_of_getElem? (i := 107) (by decide +kernel), List.mem_of_getElem? (i := 108) (by decide +kernel)⟩
theorem lw_p3 : lw_okq (⟨"PolicyVerifier", "isFilter", "(IIII)Z"⟩, 4) := ⟨⟨by decide +kernel, by decide +kernel⟩, List.mem_of_getElem? (i := 15) (by decide +kernel), List.mem_of_getElem? (i := 165) (by decide +kernel), List.mem_of_getElem? (i := 166) (by decide +kernel)⟩
theorem lw_p4 : lw_okq (⟨"PolicyVerifier", "fillOutcomes", "([JIIII)V"⟩, 4) := ⟨⟨by decide +kernel, by decide +kernel⟩, List.mem_of_getElem? (i := 15) (by decide +kernel), List.mem_of_getElem? (i := 186) (by decide +kernel), List.mem_of_getElem? (i := 187) (by decide +kernel)⟩
theorem lw_p5 : lw_okq (⟨"PolicyVerifier", "joinedOutcome", "(IIIII)J"⟩, 4) := ⟨⟨by decide +kernel, by decide +kernel⟩, List.mem_of_getElem? (i := 15) (by decide +kernel), List.mem_of_getElem? (i := 205) (by decide +kernel), List.mem_of_getElem? (i := 206) (by decide +kernel)⟩
theorem lw_p6 : lw_okq (⟨"PolicyVerifier", "given", "(II)J"⟩, 4) := ⟨⟨by decide +kernel, by decide +kernel⟩, List.mem_of_getElem? (i := 15) (by decide +kernel), List.mem_of_getElem? (i := 209) (by decide +kernel), List.mem_of_getElem? (i := 210) (by decide +kernel)⟩
theorem lw_p7 : lw_okq (⟨"PolicyVerifier", "keep", "(LPolicyVerifier$Policy;)I"⟩, 4) := ⟨⟨by decide +kernel, by decide +kernel⟩, List.mem_of_getElem? (i := 15) (by decide +kernel), List.mem_of_getElem? (i := 222) (by decide +kernel), List.mem_of_getElem? (i := 223) (by decide +kernel)⟩
theorem lw_p8 : lw_okq (⟨"PolicyVerifier", "isNew", "([J)Z"⟩, 4) := ⟨⟨by decide +kernel, by decide +kernel⟩, List.mem_of_getElem? (i := 15) (by decide +kernel), List.mem_of_getElem? (i := 226) (by decide +kernel), List.mem_of_getElem? (i := 227) (by decide +kernel)⟩
theorem lw_p9 : lw_okq (⟨"PolicyVerifier", "find", "(I)LPolicyVerifier$Policy;"⟩, 4) := ⟨⟨by decide +kernel, by decide +kernel⟩, List.mem_of_getElem? (i := 15) (by decide +kernel), List.mem_of_getElem? (i := 241) (by decide +kernel), List.mem_of_getElem? (i := 242) (by decide +kernel)⟩
theorem lw_p10 : lw_okq (⟨"PolicyVerifier", "tableOf", "(LPolicyVerifier$Policy;)LPolicyVerifier$Table;"⟩, 4) := ⟨⟨by decide +kernel, by decide +kernel⟩, List.mem_of_getElem? (i := 15) (by decide +kernel), List.mem_of_getElem? (i := 313) (by decide +kernel), List.mem_of_getElem? (i := 314) (by decide +kernel)⟩
theorem lw_p11 : lw_okq (⟨"PolicyVerifier$Responses", "readPacket", "(IJ)V"⟩, 2) := ⟨⟨by decide +kernel, by decide +kernel⟩, List.mem_of_getElem? (i := 25) (by decide +kernel), List.mem_of_getElem? (i := 321) (by decide +kernel), List.mem_of_getElem? (i := 322) (by decide +kernel)⟩
theorem lw_p12 : lw_okq (⟨"PolicyVerifier$Table", "addRegion", "(LPolicyVerifier$Responses;II)V"⟩, 4) := ⟨⟨by decide +kernel, by decide +kernel⟩, List.mem_of_getElem? (i := 330) (by decide +kernel), List.mem_of_getElem? (i := 358) (by decide +kernel), List.mem_of_getElem? (i := 359) (by decide +kernel)⟩
theorem lw_p13 : lw_okq (⟨"PolicyVerifier$Table", "addRule", "(III)V"⟩, 4) := ⟨⟨by decide +kernel, by decide +kernel⟩, List.mem_of_getElem? (i := 330) (by decide +kernel), List.mem_of_getElem? (i := 366) (by decide +kernel), List.mem_of_getElem? (i := 367) (by decide +kernel)⟩
theorem lw_p14 : lw_okq (⟨"PolicyVerifierModel", "can", "(IIII)Z"⟩, 8) := ⟨⟨by decide +kernel, by decide +kernel⟩, List.mem_of_getElem? (i := 405) (by decide +kernel), List.mem_of_getElem? (i := 445) (by decide +kernel), List.mem_of_getElem? (i := 446) (by decide +kernel)⟩
theorem lw_p15 : lw_okq (⟨"PolicyVerifierModel", "made", "(I)Z"⟩, 8) := ⟨⟨by decide +kernel, by decide +kernel⟩, List.mem_of_getElem? (i := 405) (by decide +kernel), List.mem_of_getElem? (i := 452) (by decide +kernel), List.mem_of_getElem? (i := 453) (by decide +kernel)⟩
def lw_privs_1 : List (MethodName × Nat) := [(⟨"PolicyVerifier", "isWellFormed", "(IIII)Z"⟩, 4), (⟨"PolicyVerifier", "isMade", "(I)Z"⟩, 4), (⟨"java/lang/Throwable", "fillInStackTrace", "(I)Ljava/lang/Throwable;"⟩, 6), (⟨"PolicyVerifier", "isFilter", "(IIII)Z"⟩, 4), (⟨"PolicyVerifier", "fillOutcomes", "([JIIII)V"⟩, 4), (⟨"PolicyVerifier", "joinedOutcome", "(IIIII)J"⟩, 4), (⟨"PolicyVerifier", "given", "(II)J"⟩, 4), (⟨"PolicyVerifier", "keep", "(LPolicyVerifier$Policy;)I"⟩, 4), (⟨"PolicyVerifier", "isNew", "([J)Z"⟩, 4), (⟨"PolicyVerifier", "find", "(I)LPolicyVerifier$Policy;"⟩, 4), (⟨"PolicyVerifier", "tableOf", "(LPolicyVerifier$Policy;)LPolicyVerifier$Table;"⟩, 4), (⟨"PolicyVerifier$Responses", "readPacket", "(IJ)V"⟩, 2), (⟨"PolicyVerifier$Table", "addRegion", "(LPolicyVerifier$Responses;II)V"⟩, 4), (⟨"PolicyVerifier$Table", "addRule", "(III)V"⟩, 4), (⟨"PolicyVerifierModel", "can", "(IIII)Z"⟩, 8), (⟨"PolicyVerifierModel", "made", "(I)Z"⟩, 8)]
theorem lw_r1 : ∀ q ∈ lw_privs_1, lw_okq q := List.forall_mem_cons.mpr ⟨lw_p0, List.forall_mem_cons.mpr ⟨lw_p1, List.forall_mem_cons.mpr ⟨lw_p2, List.forall_mem_cons.mpr ⟨lw_p3, List.forall_mem_cons.mpr ⟨lw_p4, List.forall_mem_cons.mpr ⟨lw_p5, List.forall_mem_cons.mpr ⟨lw_p6, List.forall_mem_cons.mpr ⟨lw_p7, List.forall_mem_cons.mpr ⟨lw_p8, List.forall_mem_cons.mpr ⟨lw_p9, List.forall_mem_cons.mpr ⟨lw_p10, List.forall_mem_cons.mpr ⟨lw_p11, List.forall_mem_cons.mpr ⟨lw_p12, List.forall_mem_cons.mpr ⟨lw_p13, List.forall_mem_cons.mpr ⟨lw_p14, List.forall_mem_cons.mpr ⟨lw_p15, fun _ h => absurd h List.not_mem_nil⟩⟩⟩⟩⟩⟩⟩⟩⟩⟩⟩⟩⟩⟩⟩⟩
theorem lw_p16 : lw_okq (⟨"PolicyVerifierModel", "raise", "(I)I"⟩, 8) := ⟨⟨by decide +kernel, by decide +kernel⟩, List.mem_of_getElem? (i := 405) (by decide +kernel), List.mem_of_getElem? (i := 456) (by decide +kernel), List.mem_of_getElem? (i := 457) (by decide +kernel)⟩
theorem lw_p17 : lw_okq (⟨"PolicyVerifierModel", "worked", "(IIIII)J"⟩, 8) := ⟨⟨by decide +kernel, by decide +kernel⟩, List.mem_of_getElem? (i := 405) (by decide +kernel), List.mem_of_getElem? (i := 460) (by decide +kernel), List.mem_of_getElem? (i := 461) (by decide +kernel)⟩
theorem lw_p18 : lw_okq (⟨"PolicyVerifierModel", "all", "(IJ)J"⟩, 8) := ⟨⟨by decide +kernel, by decide +kernel⟩, List.mem_of_getElem? (i := 405) (by decide +kernel), List.mem_of_getElem? (i := 470) (by decide +kernel), List.mem_of_getElem? (i := 471) (by decide +kernel)⟩
theorem lw_p19 : lw_okq (⟨"PolicyVerifierModel", "star", "(II)J"⟩, 8) := ⟨⟨by decide +kernel, by decide +kernel⟩, List.mem_of_getElem? (i := 405) (by decide +kernel), List.mem_of_getElem? (i := 474) (by decide +kernel), List.mem_of_getElem? (i := 475) (by decide +kernel)⟩
theorem lw_p20 : lw_okq (⟨"PolicyVerifierModel", "passes", "(IIII)Z"⟩, 8) := ⟨⟨by decide +kernel, by decide +kernel⟩, List.mem_of_getElem? (i := 405) (by decide +kernel), List.mem_of_getElem? (i := 478) (by decide +kernel), List.mem_of_getElem? (i := 479) (by decide +kernel)⟩
theorem lw_p21 : lw_okq (⟨"PolicyVerifierModel", "apart", "(II)I"⟩, 8) := ⟨⟨by decide +kernel, by decide +kernel⟩, List.mem_of_getElem? (i := 405) (by decide +kernel), List.mem_of_getElem? (i := 502) (by decide +kernel), List.mem_of_getElem? (i := 503) (by decide +kernel)⟩
theorem lw_p22 : lw_okq (⟨"PolicyVerifierModel", "table", "(I)I"⟩, 8) := ⟨⟨by decide +kernel, by decide +kernel⟩, List.mem_of_getElem? (i := 405) (by decide +kernel), List.mem_of_getElem? (i := 519) (by decide +kernel), List.mem_of_getElem? (i := 520) (by decide +kernel)⟩
theorem lw_p23 : lw_okq (⟨"PolicyVerifierModel", "uniform", "(III)Z"⟩, 8) := ⟨⟨by decide +kernel, by decide +kernel⟩, List.mem_of_getElem? (i := 405) (by decide +kernel), List.mem_of_getElem? (i := 523) (by decide +kernel), List.mem_of_getElem? (i := 524) (by decide +kernel)⟩
theorem lw_p24 : lw_okq (⟨"PolicyVerifierModel", "respond", "(II)V"⟩, 8) := ⟨⟨by decide +kernel, by decide +kernel⟩, List.mem_of_getElem? (i := 405) (by decide +kernel), List.mem_of_getElem? (i := 527) (by decide +kernel), List.mem_of_getElem? (i := 528) (by decide +kernel)⟩
def lw_privs_2 : List (MethodName × Nat) := [(⟨"PolicyVerifierModel", "raise", "(I)I"⟩, 8), (⟨"PolicyVerifierModel", "worked", "(IIIII)J"⟩, 8), (⟨"PolicyVerifierModel", "all", "(IJ)J"⟩, 8), (⟨"PolicyVerifierModel", "star", "(II)J"⟩, 8), (⟨"PolicyVerifierModel", "passes", "(IIII)Z"⟩, 8), (⟨"PolicyVerifierModel", "apart", "(II)I"⟩, 8), (⟨"PolicyVerifierModel", "table", "(I)I"⟩, 8), (⟨"PolicyVerifierModel", "uniform", "(III)Z"⟩, 8), (⟨"PolicyVerifierModel", "respond", "(II)V"⟩, 8)]
theorem lw_r2 : ∀ q ∈ lw_privs_2, lw_okq q := List.forall_mem_cons.mpr ⟨lw_p16, List.forall_mem_cons.mpr ⟨lw_p17, List.forall_mem_cons.mpr ⟨lw_p18, List.forall_mem_cons.mpr ⟨lw_p19, List.forall_mem_cons.mpr ⟨lw_p20, List.forall_mem_cons.mpr ⟨lw_p21, List.forall_mem_cons.mpr ⟨lw_p22, List.forall_mem_cons.mpr ⟨lw_p23, List.forall_mem_cons.mpr ⟨lw_p24, fun _ h => absurd h List.not_mem_nil⟩⟩⟩⟩⟩⟩⟩⟩⟩
def lw_privs : List (MethodName × Nat) := lw_privs_1 ++ (lw_privs_2)
def lw_tbl : List Cond := k2_sels lw_privs ++ tables_1
theorem lw_privs_ok : ∀ q ∈ lw_privs, lw_okq q := by
  show ∀ q ∈ lw_privs_1 ++ (lw_privs_2), lw_okq q
  exact List.forall_mem_append.mpr ⟨lw_r1, lw_r2⟩
end
section
/-! bits of longs; unions; steps -/
def hbit (x : Int64) (k : Nat) : Bool := x.toBitVec.getLsbD k
def bI (b : Bool) : Int32 := if b then 1 else 0
theorem bI_t : bI true = 1 := rfl
theorem bI_f : bI false = 0 := rfl
theorem bI_ne {b : Bool} : ¬ bI b = 0 ↔ b = true := by cases b <;> decide
theorem bI_eq {b : Bool} : bI b = 0 ↔ b = false := by cases b <;> decide
theorem bI_cases (b : Bool) : bI b = 0 ∨ bI b = 1 := by cases b <;> decide
theorem bI_nar (b : Bool) : narrow .boolean (.int (bI b)) = .int (bI b) := by cases b <;> rfl
theorem bI_fit (b : Bool) : fits .boolean (.int (bI b)) = true := by cases b <;> rfl
theorem hb_ext {x y : Int64} (h : ∀ k, k < 64 → hbit x k = hbit y k) : x = y := by
  rw [← Int64.toBitVec_inj]
  exact BitVec.eq_of_getLsbD_eq (fun i hi => h i hi)
theorem hb_big (x : Int64) {k : Nat} (h : 64 ≤ k) : hbit x k = false := BitVec.getLsbD_of_ge _ _ h
theorem hb_or (x y : Int64) (k : Nat) : hbit (x ||| y) k = (hbit x k || hbit y k) := by
  unfold hbit
  rw [Int64.toBitVec_or, BitVec.getLsbD_or]
theorem hb_and (x y : Int64) (k : Nat) : hbit (x &&& y) k = (hbit x k && hbit y k) := by
  unfold hbit
  rw [Int64.toBitVec_and, BitVec.getLsbD_and]
theorem hb_0 (k : Nat) : hbit 0 k = false := by
  unfold hbit
  show (0#64).getLsbD k = false
  simp
theorem hb_ne0 {x : Int64} : ¬ x = 0 ↔ ∃ k, k < 64 ∧ hbit x k = true := by
  constructor
  · intro h
    apply Classical.byContradiction
    intro h2
    apply h
    apply hb_ext
    intro k hk
    rw [hb_0]
    cases hx : hbit x k with
    | false => rfl
    | true => exact absurd ⟨k, hk, hx⟩ h2
  · rintro ⟨k, hk, h⟩ e
    rw [e, hb_0] at h
    cases h
theorem hb_not (x : Int64) {k : Nat} (hk : k < 64) : hbit (x ^^^ (-1)) k = !hbit x k := by
  unfold hbit
  rw [Int64.toBitVec_xor, BitVec.getLsbD_xor]
  have : (-1 : Int64).toBitVec = BitVec.allOnes 64 := by decide +kernel
  rw [this, BitVec.getLsbD_allOnes]
  simp [hk]
theorem cmp0 (x y : Int64) : lg_cmp x y = 0 ↔ x = y := by
  unfold lg_cmp
  by_cases h1 : x > y
  · rw [if_pos h1]
    constructor
    · intro h
      exact absurd h (by decide)
    · intro h
      subst h
      exact absurd h1 (Int64.lt_irrefl)
  · rw [if_neg h1]
    by_cases h2 : x = y
    · rw [if_pos h2]
      exact ⟨fun _ => h2, fun _ => rfl⟩
    · rw [if_neg h2]
      exact ⟨fun h => absurd h (by decide), fun h => absurd h h2⟩
theorem sh_u : ∀ k, k < 64 → ((nI k).toInt64.toUInt64 &&& Int64.toUInt64 63).toNat = k := by decide +kernel
theorem hb_shr (x : Int64) {k : Nat} (hk : k < 64) : ((x.toUInt64 >>> ((nI k).toInt64.toUInt64 &&& Int64.toUInt64 63)).toInt64 &&& 1) = 0 ↔ hbit x k = false := by
  generalize hs : ((nI k).toInt64.toUInt64 &&& Int64.toUInt64 63) = sh
  have hs' : sh.toNat = k := by rw [← hs]; exact sh_u k hk
  have e : (x.toUInt64 >>> sh).toInt64.toBitVec = x.toBitVec >>> k := by
    apply BitVec.eq_of_toNat_eq
    show (x.toUInt64 >>> sh).toNat = _
    rw [UInt64.toNat_shiftRight, hs', Nat.mod_eq_of_lt hk, BitVec.toNat_ushiftRight]
    rfl
  rw [← Int64.toBitVec_inj, Int64.toBitVec_and, e]
  show x.toBitVec >>> k &&& 1#64 = 0#64 ↔ x.toBitVec.getLsbD k = false
  constructor
  · intro h
    have t := congrArg (fun z => z.getLsbD 0) h
    simpa using t
  · intro h
    apply BitVec.eq_of_getLsbD_eq
    intro i hi
    by_cases h0 : i = 0
    · subst h0
      simpa using h
    · rw [BitVec.getLsbD_and, BitVec.getLsbD_one]
      simp [h0]
/-- the set of one packet -/
def one (k : Nat) : Int64 := (1 : Int64) <<< ((nI k).toInt64 &&& 63)
theorem one_bv : ∀ k, k < 64 → (one k).toBitVec = BitVec.twoPow 64 k := by decide +kernel
theorem hb_one {k : Nat} (hk : k < 64) (j : Nat) : hbit (one k) j = decide (j = k) := by
  unfold hbit
  rw [one_bv k hk, BitVec.getLsbD_twoPow]
  by_cases h : j = k
  · subst h
    simp [hk]
  · simp [h, hk, Ne.symm h]
/-- what is given for the packets below n of a set -/
def gf (f : Nat → Int64) (z : Int64) : Nat → Int64
  | 0 => 0
  | n + 1 => if hbit z n = true then gf f z n ||| f n else gf f z n
theorem gf_bit (f : Nat → Int64) (z : Int64) (j : Nat) : ∀ n, hbit (gf f z n) j = true ↔ ∃ i, i < n ∧ hbit z i = true ∧ hbit (f i) j = true := by
  intro n
  induction n with
  | zero =>
    simp [gf, hb_0]
  | succ n ih =>
    unfold gf
    by_cases h : hbit z n = true
    · rw [if_pos h, hb_or, Bool.or_eq_true, ih]
      constructor
      · rintro (⟨i, h1, h2, h3⟩ | h3)
        · exact ⟨i, by omega, h2, h3⟩
        · exact ⟨n, by omega, h, h3⟩
      · rintro ⟨i, h1, h2, h3⟩
        by_cases hi : i = n
        · subst hi
          exact Or.inr h3
        · exact Or.inl ⟨i, by omega, h2, h3⟩
    · rw [if_neg h, ih]
      constructor
      · rintro ⟨i, h1, h2, h3⟩
        exact ⟨i, by omega, h2, h3⟩
      · rintro ⟨i, h1, h2, h3⟩
        by_cases hi : i = n
        · subst hi
          exact absurd h2 h
        · exact ⟨i, by omega, h2, h3⟩
theorem gf_ext {f g : Nat → Int64} {z : Int64} : ∀ {n : Nat}, (∀ i, i < n → f i = g i) → gf f z n = gf g z n := by
  intro n
  induction n with
  | zero => intro _; rfl
  | succ n ih =>
    intro h
    unfold gf
    rw [ih (fun i hi => h i (by omega)), h n (by omega)]
/-- steps of any number: in every set that has p and is closed -/
def Rch (f : Nat → Int64) (p j : Nat) : Prop := ∀ S : Nat → Prop, S p → (∀ q r, q < 64 → r < 64 → S q → hbit (f q) r = true → S r) → S j
theorem Rch.rf {f : Nat → Int64} {p : Nat} : Rch f p p := fun _ h _ => h
theorem Rch.tr {f : Nat → Int64} {p q j : Nat} (h1 : Rch f p q) (h2 : Rch f q j) : Rch f p j := fun S hp hc => h2 S (h1 S hp hc) hc
theorem Rch.st {f : Nat → Int64} {p j : Nat} (hp : p < 64) (hj : j < 64) (h : hbit (f p) j = true) : Rch f p j := fun S h1 hc => hc p j hp hj h1 h
/-- midway stops below m -/
def wc (f : Nat → Int64) : Nat → Nat → Nat → Bool
  | 0 => fun p j => decide (p = j) || hbit (f p) j
  | m + 1 => fun p j => wc f m p j || (wc f m p m && wc f m m j)
theorem wc_s {f : Nat → Int64} {m p j : Nat} : wc f (m + 1) p j = true ↔ wc f m p j = true ∨ (wc f m p m = true ∧ wc f m m j = true) := by
  show (wc f m p j || (wc f m p m && wc f m m j)) = true ↔ _
  rw [Bool.or_eq_true, Bool.and_eq_true]
theorem wc_up {f : Nat → Int64} {p j : Nat} (h : wc f 0 p j = true) : ∀ m, wc f m p j = true := by
  intro m
  induction m with
  | zero => exact h
  | succ m ih => exact wc_s.mpr (Or.inl ih)
theorem wc_tr {f : Nat → Int64} : ∀ m p q j, q < m → wc f m p q = true → wc f m q j = true → wc f m p j = true := by
  intro m
  induction m with
  | zero => intro p q j h; omega
  | succ m ih =>
    intro p q j hq h1 h2
    rw [wc_s] at h1 h2 ⊢
    by_cases hm : q = m
    · subst hm
      refine Or.inr ⟨?_, ?_⟩
      · rcases h1 with h | h
        · exact h
        · exact h.1
      · rcases h2 with h | h
        · exact h
        · exact h.2
    · have hlt : q < m := by omega
      rcases h1 with h1 | ⟨h1, h1'⟩ <;> rcases h2 with h2 | ⟨h2, h2'⟩
      · exact Or.inl (ih p q j hlt h1 h2)
      · exact Or.inr ⟨ih p q m hlt h1 h2, h2'⟩
      · exact Or.inr ⟨h1, ih m q j hlt h1' h2⟩
      · exact Or.inr ⟨h1, h2'⟩
theorem wc_snd {f : Nat → Int64} : ∀ m p j, m ≤ 64 → p < 64 → j < 64 → wc f m p j = true → Rch f p j := by
  intro m
  induction m with
  | zero =>
    intro p j _ hp hj h
    have h : (decide (p = j) || hbit (f p) j) = true := h
    rw [Bool.or_eq_true, decide_eq_true_eq] at h
    rcases h with h | h
    · subst h
      exact Rch.rf
    · exact Rch.st hp hj h
  | succ m ih =>
    intro p j hm hp hj h
    rw [wc_s] at h
    rcases h with h | ⟨h1, h2⟩
    · exact ih p j (by omega) hp hj h
    · exact (ih p m (by omega) hp (by omega) h1).tr (ih m j (by omega) (by omega) hj h2)
theorem wc_iff {f : Nat → Int64} {p j : Nat} (hp : p < 64) (hj : j < 64) : wc f 64 p j = true ↔ Rch f p j := by
  constructor
  · exact wc_snd 64 p j (Nat.le_refl _) hp hj
  · intro h
    refine h (fun x => wc f 64 p x = true) ?_ ?_
    · apply wc_up
      show (decide (p = p) || hbit (f p) p) = true
      simp
    · intro q r hq hr h1 h2
      refine wc_tr 64 p q r hq h1 (wc_up ?_ 64)
      show (decide (q = r) || hbit (f q) r) = true
      rw [h2]
      simp
/-! values, actions, responses -/
def vl (x f : Nat) : Nat := x / 4 ^ (2 - f) % 4
def dg (x r f : Nat) : Nat := if vl r f = vl x f then 4 else vl r f
def ac (x r : Nat) : Nat → Nat
  | 0 => 0
  | n + 1 => ac x r n * 5 + dg x r n
def act (x r : Nat) : Nat := ac x r 3
theorem vl_lt (x f : Nat) : vl x f < 4 := Nat.mod_lt _ (by decide)
theorem dg_lt (x r f : Nat) : dg x r f < 5 := by
  unfold dg
  have := vl_lt r f
  split <;> omega
theorem ac_1 (x r : Nat) : ac x r 1 < 5 := by
  have := dg_lt x r 0
  show ac x r 0 * 5 + dg x r 0 < 5
  show 0 * 5 + dg x r 0 < 5
  omega
theorem ac_2 (x r : Nat) : ac x r 2 < 25 := by
  have := ac_1 x r
  have := dg_lt x r 1
  show ac x r 1 * 5 + dg x r 1 < 25
  omega
theorem act_lt (x r : Nat) : act x r < 125 := by
  have := ac_2 x r
  have := dg_lt x r 2
  show ac x r 2 * 5 + dg x r 2 < 125
  omega
/-- for one packet no two outcomes have one action -/
theorem act_inj : ∀ x, x < 64 → ∀ r, r < 64 → ∀ t, t < 64 → act x r = act x t → r = t := by
  intro x hx r hr t ht h
  have e0 : ac x r 1 = dg x r 0 := by show 0 * 5 + dg x r 0 = dg x r 0; omega
  have e0' : ac x t 1 = dg x t 0 := by show 0 * 5 + dg x t 0 = dg x t 0; omega
  have h3 : ac x r 2 * 5 + dg x r 2 = ac x t 2 * 5 + dg x t 2 := h
  have a2 := dg_lt x r 2
  have a2' := dg_lt x t 2
  have h2 : ac x r 2 = ac x t 2 := by omega
  have d2 : dg x r 2 = dg x t 2 := by omega
  have h2' : ac x r 1 * 5 + dg x r 1 = ac x t 1 * 5 + dg x t 1 := h2
  have a1 := dg_lt x r 1
  have a1' := dg_lt x t 1
  have h1 : ac x r 1 = ac x t 1 := by omega
  have d1 : dg x r 1 = dg x t 1 := by omega
  have d0 : dg x r 0 = dg x t 0 := by rw [← e0, ← e0']; exact h1
  have key : ∀ f, dg x r f = dg x t f → vl r f = vl t f := by
    intro f hf
    unfold dg at hf
    have := vl_lt r f
    have := vl_lt t f
    split at hf <;> split at hf <;> omega
  have k0 := key 0 d0
  have k1 := key 1 d1
  have k2 := key 2 d2
  unfold vl at k0 k1 k2
  simp only [Nat.sub_zero, Nat.reduceSub, Nat.reducePow, Nat.pow_zero, Nat.div_one] at k0 k1 k2
  omega
/-- the response as two longs, cut at th -/
def rl (th x : Nat) (o : Int64) : Nat → Int64
  | 0 => 0
  | n + 1 => if hbit o n = true then (if act x n < th then rl th x o n ||| one (act x n) else rl th x o n) else rl th x o n
def rh (th x : Nat) (o : Int64) : Nat → Int64
  | 0 => 0
  | n + 1 => if hbit o n = true then (if act x n < th then rh th x o n else rh th x o n ||| one (act x n - th)) else rh th x o n
def rsp (x : Nat) (o : Int64) (a : Nat) : Prop := ∃ r, r < 64 ∧ hbit o r = true ∧ act x r = a
theorem rl_bit {th : Nat} (hth : th ≤ 64) (x : Nat) (o : Int64) (a : Nat) : ∀ n, hbit (rl th x o n) a = true ↔ a < th ∧ ∃ r, r < n ∧ hbit o r = true ∧ act x r = a := by
  intro n
  induction n with
  | zero => simp [rl, hb_0]
  | succ n ih =>
    unfold rl
    by_cases h : hbit o n = true
    · rw [if_pos h]
      by_cases h2 : act x n < th
      · rw [if_pos h2, hb_or, Bool.or_eq_true, ih, hb_one (by omega), decide_eq_true_eq]
        constructor
        · rintro (⟨h0, r, h1, h3, h4⟩ | h3)
          · exact ⟨h0, r, by omega, h3, h4⟩
          · exact ⟨by omega, n, by omega, h, h3.symm⟩
        · rintro ⟨h0, r, h1, h3, h4⟩
          by_cases hr : r = n
          · subst hr
            exact Or.inr h4.symm
          · exact Or.inl ⟨h0, r, by omega, h3, h4⟩
      · rw [if_neg h2, ih]
        constructor
        · rintro ⟨h0, r, h1, h3, h4⟩
          exact ⟨h0, r, by omega, h3, h4⟩
        · rintro ⟨h0, r, h1, h3, h4⟩
          by_cases hr : r = n
          · subst hr
            omega
          · exact ⟨h0, r, by omega, h3, h4⟩
    · rw [if_neg h, ih]
      constructor
      · rintro ⟨h0, r, h1, h3, h4⟩
        exact ⟨h0, r, by omega, h3, h4⟩
      · rintro ⟨h0, r, h1, h3, h4⟩
        by_cases hr : r = n
        · subst hr
          exact absurd h3 h
        · exact ⟨h0, r, by omega, h3, h4⟩
theorem rh_bit {th : Nat} (hth : 61 ≤ th) (x : Nat) (o : Int64) (a : Nat) : ∀ n, hbit (rh th x o n) a = true ↔ ∃ r, r < n ∧ hbit o r = true ∧ act x r = a + th := by
  intro n
  induction n with
  | zero => simp [rh, hb_0]
  | succ n ih =>
    have hlt := act_lt x n
    unfold rh
    by_cases h : hbit o n = true
    · rw [if_pos h]
      by_cases h2 : act x n < th
      · rw [if_pos h2, ih]
        constructor
        · rintro ⟨r, h1, h3, h4⟩
          exact ⟨r, by omega, h3, h4⟩
        · rintro ⟨r, h1, h3, h4⟩
          by_cases hr : r = n
          · subst hr
            omega
          · exact ⟨r, by omega, h3, h4⟩
      · rw [if_neg h2, hb_or, Bool.or_eq_true, ih, hb_one (by omega), decide_eq_true_eq]
        constructor
        · rintro (⟨r, h1, h3, h4⟩ | h3)
          · exact ⟨r, by omega, h3, h4⟩
          · exact ⟨n, by omega, h, by omega⟩
        · rintro ⟨r, h1, h3, h4⟩
          by_cases hr : r = n
          · subst hr
            exact Or.inr (by omega)
          · exact Or.inl ⟨r, by omega, h3, h4⟩
    · rw [if_neg h, ih]
      constructor
      · rintro ⟨r, h1, h3, h4⟩
        exact ⟨r, by omega, h3, h4⟩
      · rintro ⟨r, h1, h3, h4⟩
        by_cases hr : r = n
        · subst hr
          exact absurd h3 h
        · exact ⟨r, by omega, h3, h4⟩
theorem bool_iff {x y : Bool} (h : x = true ↔ y = true) : x = y := by
  cases x <;> cases y <;> simp_all
theorem rsp_iff {th x y : Nat} {o o' : Int64} (h1 : 61 ≤ th) (h2 : th ≤ 64) : (rl th x o 64 = rl th y o' 64 ∧ rh th x o 64 = rh th y o' 64) ↔ ∀ a, rsp x o a ↔ rsp y o' a := by
  constructor
  · rintro ⟨e1, e2⟩ a
    by_cases ha : a < th
    · have b1 := rl_bit h2 x o a 64
      have b2 := rl_bit h2 y o' a 64
      rw [e1] at b1
      have b3 := b1.symm.trans b2
      constructor
      · intro h
        exact (b3.mp ⟨ha, h⟩).2
      · intro h
        exact (b3.mpr ⟨ha, h⟩).2
    · have b1 := rh_bit h1 x o (a - th) 64
      have b2 := rh_bit h1 y o' (a - th) 64
      rw [e2] at b1
      have b3 := b1.symm.trans b2
      rw [show a - th + th = a by omega] at b3
      exact b3
  · intro h
    refine ⟨hb_ext (fun k hk => bool_iff ?_), hb_ext (fun k hk => bool_iff ?_)⟩
    · rw [rl_bit h2, rl_bit h2]
      constructor
      · rintro ⟨h0, h3⟩
        exact ⟨h0, (h k).mp h3⟩
      · rintro ⟨h0, h3⟩
        exact ⟨h0, (h k).mpr h3⟩
    · rw [rh_bit h1, rh_bit h1]
      exact h (k + th)
/-- all packets of a region have one response -/
def uni (th : Nat) (f : Nat → Int64) (x n : Nat) : Bool := decide (∀ q, q < n → rl th (x + q) (f (x + q)) 64 = rl th x (f x) 64 ∧ rh th (x + q) (f (x + q)) 64 = rh th x (f x) 64)
theorem uni_63 (f : Nat → Int64) (x n : Nat) : uni 63 f x n = uni 64 f x n := by
  apply bool_iff
  unfold uni
  rw [decide_eq_true_eq, decide_eq_true_eq]
  constructor
  · intro h q hq
    exact (rsp_iff (by decide) (by decide)).mpr ((rsp_iff (by decide) (by decide)).mp (h q hq))
  · intro h q hq
    exact (rsp_iff (by decide) (by decide)).mpr ((rsp_iff (by decide) (by decide)).mp (h q hq))
theorem uni_1 (th : Nat) (f : Nat → Int64) (x : Nat) : uni th f x 1 = true := by
  unfold uni
  rw [decide_eq_true_eq]
  intro q hq
  have : q = 0 := by omega
  subst this
  exact ⟨rfl, rfl⟩
/-- the table: first packet and depth (a rule has 4 ^ depth packets) -/
def reg (ok : Nat → Nat → Bool) : Nat → Nat → List (Nat × Nat)
  | 0, x => [(x, 0)]
  | d + 1, x => if ok x (4 ^ (d + 1)) = true then [(x, d + 1)] else reg ok d x ++ (reg ok d (x + 4 ^ d) ++ (reg ok d (x + 2 * 4 ^ d) ++ reg ok d (x + 3 * 4 ^ d)))
/-- the depth that is taken at x -/
def gz (ok : Nat → Nat → Bool) (x : Nat) : Nat := if x % 64 = 0 ∧ ok x 64 = true then 3 else if x % 16 = 0 ∧ ok x 16 = true then 2 else if x % 4 = 0 ∧ ok x 4 = true then 1 else 0
def grd (ok : Nat → Nat → Bool) : Nat → Nat → List (Nat × Nat)
  | 0, _ => []
  | n + 1, x => if 64 ≤ x then [] else (x, gz ok x) :: grd ok n (x + 4 ^ gz ok x)
theorem grd_s {ok : Nat → Nat → Bool} {n x : Nat} (h : x < 64) : grd ok (n + 1) x = (x, gz ok x) :: grd ok n (x + 4 ^ gz ok x) := by
  show (if 64 ≤ x then [] else (x, gz ok x) :: grd ok n (x + 4 ^ gz ok x)) = _
  rw [if_neg (by omega)]
theorem gr0 {ok : Nat → Nat → Bool} {n x : Nat} (hx : x < 64) (h1 : ¬ (x % 4 = 0 ∧ ok x 4 = true)) (h2 : ¬ (x % 16 = 0 ∧ ok x 16 = true)) (h3 : ¬ (x % 64 = 0 ∧ ok x 64 = true)) : grd ok (n + 1) x = reg ok 0 x ++ grd ok n (x + 1) := by
  have e : gz ok x = 0 := by unfold gz; rw [if_neg h3, if_neg h2, if_neg h1]
  rw [grd_s hx, e]
  rfl
theorem gr1 {ok : Nat → Nat → Bool} {n x : Nat} (hx : x + 4 ≤ 64) (ha : x % 4 = 0) (h2 : ¬ (x % 16 = 0 ∧ ok x 16 = true)) (h3 : ¬ (x % 64 = 0 ∧ ok x 64 = true)) : grd ok (n + (reg ok 1 x).length) x = reg ok 1 x ++ grd ok n (x + 4) := by
  show grd ok (n + (if ok x (4 ^ (0 + 1)) = true then [(x, 0 + 1)] else _).length) x = (if ok x (4 ^ (0 + 1)) = true then [(x, 0 + 1)] else _) ++ _
  by_cases h : ok x 4 = true
  · rw [if_pos h]
    have e : gz ok x = 1 := by unfold gz; rw [if_neg h3, if_neg h2, if_pos ⟨ha, h⟩]
    show grd ok (n + 1) x = _
    rw [grd_s (by omega), e]
    rfl
  · rw [if_neg h]
    show grd ok (n + 4) x = (reg ok 0 x ++ (reg ok 0 (x + 1) ++ (reg ok 0 (x + 2 * 1) ++ reg ok 0 (x + 3 * 1)))) ++ grd ok n (x + 4)
    rw [show n + 4 = (n + 3) + 1 from rfl, gr0 (by omega) (fun q => h q.2) h2 h3]
    rw [show n + 3 = (n + 2) + 1 from rfl, gr0 (by omega) (by omega) (by omega) (by omega)]
    rw [show n + 2 = (n + 1) + 1 from rfl, gr0 (by omega) (by omega) (by omega) (by omega)]
    rw [gr0 (by omega) (by omega) (by omega) (by omega)]
    rfl
theorem gr2 {ok : Nat → Nat → Bool} {n x : Nat} (hx : x + 16 ≤ 64) (ha : x % 16 = 0) (h3 : ¬ (x % 64 = 0 ∧ ok x 64 = true)) : grd ok (n + (reg ok 2 x).length) x = reg ok 2 x ++ grd ok n (x + 16) := by
  show grd ok (n + (if ok x (4 ^ (1 + 1)) = true then [(x, 1 + 1)] else _).length) x = (if ok x (4 ^ (1 + 1)) = true then [(x, 1 + 1)] else _) ++ _
  by_cases h : ok x 16 = true
  · rw [if_pos h]
    have e : gz ok x = 2 := by unfold gz; rw [if_neg h3, if_pos ⟨ha, h⟩]
    show grd ok (n + 1) x = _
    rw [grd_s (by omega), e]
    rfl
  · rw [if_neg h]
    show grd ok (n + (reg ok 1 x ++ (reg ok 1 (x + 4) ++ (reg ok 1 (x + 8) ++ reg ok 1 (x + 12)))).length) x = (reg ok 1 x ++ (reg ok 1 (x + 4) ++ (reg ok 1 (x + 8) ++ reg ok 1 (x + 12)))) ++ grd ok n (x + 16)
    generalize e1 : (reg ok 1 x).length = a1
    generalize e2 : (reg ok 1 (x + 4)).length = a2
    generalize e3 : (reg ok 1 (x + 8)).length = a3
    generalize e4 : (reg ok 1 (x + 12)).length = a4
    rw [List.length_append, List.length_append, List.length_append, e1, e2, e3, e4]
    rw [show n + (a1 + (a2 + (a3 + a4))) = (n + a4 + a3 + a2) + a1 by omega, ← e1, gr1 (by omega) (by omega) (fun q => h q.2) h3]
    rw [← e2, gr1 (by omega) (by omega) (by omega) (by omega)]
    rw [← e3, gr1 (by omega) (by omega) (by omega) (by omega)]
    rw [← e4, gr1 (by omega) (by omega) (by omega) (by omega)]
    simp only [List.append_assoc]
theorem gr3 {ok : Nat → Nat → Bool} {n : Nat} : grd ok (n + (reg ok 3 0).length) 0 = reg ok 3 0 := by
  show grd ok (n + (if ok 0 (4 ^ (2 + 1)) = true then [(0, 2 + 1)] else _).length) 0 = (if ok 0 (4 ^ (2 + 1)) = true then [(0, 2 + 1)] else _)
  have hend : ∀ k, grd ok k 64 = [] := by
    intro k
    cases k with
    | zero => rfl
    | succ k => show (if 64 ≤ 64 then [] else _) = []; rw [if_pos (Nat.le_refl _)]
  by_cases h : ok 0 64 = true
  · rw [if_pos h]
    have e : gz ok 0 = 3 := by unfold gz; rw [if_pos ⟨rfl, h⟩]
    show grd ok (n + 1) 0 = _
    rw [grd_s (by decide), e]
    show (0, 3) :: grd ok n 64 = _
    rw [hend]
  · rw [if_neg h]
    show grd ok (n + (reg ok 2 0 ++ (reg ok 2 16 ++ (reg ok 2 32 ++ reg ok 2 48))).length) 0 = reg ok 2 0 ++ (reg ok 2 16 ++ (reg ok 2 32 ++ reg ok 2 48))
    generalize e1 : (reg ok 2 0).length = a1
    generalize e2 : (reg ok 2 16).length = a2
    generalize e3 : (reg ok 2 32).length = a3
    generalize e4 : (reg ok 2 48).length = a4
    rw [List.length_append, List.length_append, List.length_append, e1, e2, e3, e4]
    rw [show n + (a1 + (a2 + (a3 + a4))) = (n + a4 + a3 + a2) + a1 by omega, ← e1, gr2 (by decide) (by decide) (fun q => h q.2)]
    rw [← e2, gr2 (by decide) (by decide) (by omega)]
    rw [← e3, gr2 (by decide) (by decide) (by omega)]
    rw [← e4, gr2 (by decide) (by decide) (by omega)]
    rw [hend, List.append_nil]
end
section
/-! how many packets a set has; steps one by one -/
def cd (x : Int64) : Nat → Nat
  | 0 => 0
  | n + 1 => cd x n + (if hbit x n = true then 1 else 0)
theorem cd_le (x : Int64) : ∀ n, cd x n ≤ n := by
  intro n
  induction n with
  | zero => exact Nat.le_refl _
  | succ n ih =>
    show cd x n + (if hbit x n = true then 1 else 0) ≤ n + 1
    split <;> omega
theorem cd_mono {x y : Int64} (h : ∀ k, hbit x k = true → hbit y k = true) : ∀ n, cd x n ≤ cd y n := by
  intro n
  induction n with
  | zero => exact Nat.le_refl _
  | succ n ih =>
    show cd x n + (if hbit x n = true then 1 else 0) ≤ cd y n + (if hbit y n = true then 1 else 0)
    by_cases hx : hbit x n = true
    · rw [if_pos hx, if_pos (h n hx)]
      omega
    · rw [if_neg hx]
      omega
theorem cd_lt {x y : Int64} (h : ∀ k, hbit x k = true → hbit y k = true) {k : Nat} (h1 : hbit x k = false) (h2 : hbit y k = true) : ∀ n, k < n → cd x n < cd y n := by
  intro n
  induction n with
  | zero => intro h; omega
  | succ n ih =>
    intro hk
    show cd x n + (if hbit x n = true then 1 else 0) < cd y n + (if hbit y n = true then 1 else 0)
    by_cases hn : k = n
    · subst hn
      rw [if_neg (by rw [h1]; decide), if_pos h2]
      have := cd_mono h k
      omega
    · have := ih (by omega)
      by_cases hx : hbit x n = true
      · rw [if_pos hx, if_pos (h n hx)]
        omega
      · rw [if_neg hx]
        omega
theorem cd_grow {x y : Int64} (h : ∀ k, hbit x k = true → hbit y k = true) (hne : ¬ x = y) : cd x 64 < cd y 64 := by
  apply Classical.byContradiction
  intro hc
  apply hne
  apply hb_ext
  intro k hk
  apply bool_iff
  constructor
  · exact h k
  · intro hy
    cases hx : hbit x k with
    | true => rfl
    | false => exact absurd (cd_lt h hx hy 64 hk) hc
/-- what has been reached after n steps; what the n-th step gives -/
def st (f : Nat → Int64) (p : Nat) : Nat → Int64
  | 0 => one p
  | n + 1 => st f p n ||| gf f (st f p n) 64
def nw (f : Nat → Int64) (p : Nat) : Nat → Int64
  | 0 => one p
  | n + 1 => gf f (nw f p n) 64
theorem st_s (f : Nat → Int64) (p n : Nat) : st f p (n + 1) = st f p n ||| gf f (st f p n) 64 := rfl
theorem st_up {f : Nat → Int64} {p n k : Nat} (h : hbit (st f p n) k = true) : hbit (st f p (n + 1)) k = true := by
  rw [st_s, hb_or, h]
  rfl
theorem st_stop {f : Nat → Int64} {p n : Nat} (h : st f p (n + 1) = st f p n) : ∀ k, st f p (n + k) = st f p n := by
  intro k
  induction k with
  | zero => rfl
  | succ k ih =>
    show st f p (n + k + 1) = _
    rw [st_s, ih]
    rw [st_s] at h
    exact h
theorem one_cd {p : Nat} (hp : p < 64) : 1 ≤ cd (one p) 64 := by
  have h : cd (0 : Int64) 64 < cd (one p) 64 := by
    refine cd_lt (k := p) (fun k h => ?_) (hb_0 p) (by rw [hb_one hp]; simp) 64 hp
    rw [hb_0] at h
    cases h
  omega
theorem st_card {f : Nat → Int64} {p : Nat} (hp : p < 64) : ∀ n, (∀ i, i < n → ¬ st f p (i + 1) = st f p i) → n + 1 ≤ cd (st f p n) 64 := by
  intro n
  induction n with
  | zero => intro _; exact one_cd hp
  | succ n ih =>
    intro h
    have h1 := ih (fun i hi => h i (by omega))
    have h2 := cd_grow (x := st f p n) (y := st f p (n + 1)) (fun k hk => st_up hk) (fun q => h n (by omega) q.symm)
    omega
/-- it has stopped growing before the 64th step -/
theorem st_63 {f : Nat → Int64} {p : Nat} (hp : p < 64) : ∃ i, i < 64 ∧ st f p (i + 1) = st f p i := by
  apply Classical.byContradiction
  intro h
  have h1 := st_card hp 64 (fun i hi q => h ⟨i, hi, q⟩)
  have h2 := cd_le (st f p 64) 64
  omega
theorem st_64 {f : Nat → Int64} {p : Nat} (hp : p < 64) (k : Nat) : st f p (64 + k) = st f p 64 := by
  obtain ⟨i, hi, h⟩ := st_63 (f := f) hp
  have h1 := st_stop h (64 - i)
  have h2 := st_stop h (64 - i + k)
  rw [show i + (64 - i) = 64 by omega] at h1
  rw [show i + (64 - i + k) = 64 + k by omega] at h2
  rw [h1, h2]
theorem st_rch {f : Nat → Int64} {p j : Nat} (hp : p < 64) (hj : j < 64) : hbit (st f p 64) j = true ↔ Rch f p j := by
  constructor
  · have key : ∀ n j, j < 64 → hbit (st f p n) j = true → Rch f p j := by
      intro n
      induction n with
      | zero =>
        intro j hj h
        have h : hbit (one p) j = true := h
        rw [hb_one hp, decide_eq_true_eq] at h
        subst h
        exact Rch.rf
      | succ n ih =>
        intro j hj h
        rw [st_s, hb_or, Bool.or_eq_true, gf_bit] at h
        rcases h with h | ⟨i, h1, h2, h3⟩
        · exact ih j hj h
        · exact (ih i h1 h2).tr (Rch.st h1 hj h3)
    exact key 64 j hj
  · intro h
    refine h (fun x => hbit (st f p 64) x = true) ?_ ?_
    · have : ∀ n, hbit (st f p n) p = true := by
        intro n
        induction n with
        | zero => show hbit (one p) p = true; rw [hb_one hp]; simp
        | succ n ih => exact st_up ih
      exact this 64
    · intro q r hq hr h1 h2
      rw [← st_64 (f := f) hp 1]
      show hbit (st f p (64 + 1)) r = true
      rw [st_s, hb_or, Bool.or_eq_true, gf_bit]
      exact Or.inr ⟨q, hq, h1, h2⟩
theorem st_nw {f : Nat → Int64} {p : Nat} (j : Nat) : ∀ n, hbit (st f p n) j = true ↔ ∃ i, i ≤ n ∧ hbit (nw f p i) j = true := by
  intro n
  induction n generalizing j with
  | zero =>
    constructor
    · intro h
      exact ⟨0, Nat.le_refl _, h⟩
    · rintro ⟨i, h1, h2⟩
      have : i = 0 := by omega
      subst this
      exact h2
  | succ n ih =>
    rw [st_s, hb_or, Bool.or_eq_true, ih, gf_bit]
    constructor
    · rintro (⟨i, h1, h2⟩ | ⟨q, h1, h2, h3⟩)
      · exact ⟨i, by omega, h2⟩
      · obtain ⟨i, h4, h5⟩ := (ih q).mp h2
        refine ⟨i + 1, by omega, ?_⟩
        show hbit (gf f (nw f p i) 64) j = true
        rw [gf_bit]
        exact ⟨q, h1, h5, h3⟩
    · rintro ⟨i, h1, h2⟩
      by_cases hi : i ≤ n
      · exact Or.inl ⟨i, hi, h2⟩
      · have : i = n + 1 := by omega
        subst this
        have h2 : hbit (gf f (nw f p n) 64) j = true := h2
        rw [gf_bit] at h2
        obtain ⟨q, h3, h4, h5⟩ := h2
        exact Or.inr ⟨q, h3, (ih q).mpr ⟨n, Nat.le_refl _, h4⟩, h5⟩
/-- the answer of hops -/
def hopR (f : Nat → Int64) (p : Nat) (z : Int64) (r : Int32) : Prop := (∃ n, n < 65 ∧ r = nI n ∧ ¬ nw f p n &&& z = 0 ∧ ∀ i, i < n → nw f p i &&& z = 0) ∨ (r = -1 ∧ ∀ n, nw f p n &&& z = 0)
theorem hopR_one {f : Nat → Int64} {p : Nat} {z : Int64} {r t : Int32} (h1 : hopR f p z r) (h2 : hopR f p z t) : r = t := by
  rcases h1 with ⟨n, a1, a2, a3, a4⟩ | ⟨a1, a2⟩ <;> rcases h2 with ⟨k, b1, b2, b3, b4⟩ | ⟨b1, b2⟩
  · have : n = k := by
      rcases Nat.lt_trichotomy n k with q | q | q
      · exact absurd (b4 n q) a3
      · exact q
      · exact absurd (a4 k q) b3
    rw [a2, b2, this]
  · exact absurd (b2 n) a3
  · exact absurd (a2 k) b3
  · rw [a1, b1]
theorem cap0 {x y z : Int64} (h : ∀ k, hbit x k = true → hbit y k = true) (h0 : y &&& z = 0) : x &&& z = 0 := by
  apply Classical.byContradiction
  intro hc
  obtain ⟨k, hk, h1⟩ := hb_ne0.mp hc
  rw [hb_and, Bool.and_eq_true] at h1
  have : hbit (y &&& z) k = true := by rw [hb_and, Bool.and_eq_true]; exact ⟨h k h1.1, h1.2⟩
  rw [h0, hb_0] at this
  cases this
/-- by what has been reached: at the step t for the first time -/
theorem hop_at {f : Nat → Int64} {p t : Nat} {z : Int64} (ht : t < 65) (h1 : ¬ st f p t &&& z = 0) (h2 : ∀ i, i < t → st f p i &&& z = 0) : hopR f p z (nI t) := by
  refine Or.inl ⟨t, ht, rfl, ?_, fun i hi => cap0 (fun k hk => (st_nw k i).mpr ⟨i, Nat.le_refl _, hk⟩) (h2 i hi)⟩
  intro h0
  obtain ⟨k, hk, h3⟩ := hb_ne0.mp h1
  rw [hb_and, Bool.and_eq_true] at h3
  obtain ⟨i, h4, h5⟩ := (st_nw k t).mp h3.1
  by_cases hi : i = t
  · subst hi
    have : hbit (nw f p i &&& z) k = true := by rw [hb_and, Bool.and_eq_true]; exact ⟨h5, h3.2⟩
    rw [h0, hb_0] at this
    cases this
  · have h6 := h2 i (by omega)
    have : hbit (st f p i &&& z) k = true := by rw [hb_and, Bool.and_eq_true]; exact ⟨(st_nw k i).mpr ⟨i, Nat.le_refl _, h5⟩, h3.2⟩
    rw [h6, hb_0] at this
    cases this
theorem hop_no {f : Nat → Int64} {p t : Nat} {z : Int64} (h0 : st f p (t + 1) = st f p t) (h1 : st f p t &&& z = 0) : hopR f p z (-1) := by
  refine Or.inr ⟨rfl, fun n => ?_⟩
  refine cap0 (y := st f p t) (fun k hk => ?_) h1
  have h2 : hbit (st f p (t + n)) k = true := (st_nw k (t + n)).mpr ⟨n, by omega, hk⟩
  rw [st_stop h0] at h2
  exact h2
theorem hop_all {f : Nat → Int64} {p : Nat} (hp : p < 64) {z : Int64} (h : ∀ n, n < 65 → nw f p n &&& z = 0) : hopR f p z (-1) := by
  refine Or.inr ⟨rfl, fun n => ?_⟩
  apply Classical.byContradiction
  intro hc
  obtain ⟨k, hk, h1⟩ := hb_ne0.mp hc
  rw [hb_and, Bool.and_eq_true] at h1
  have h2 : hbit (st f p (64 + n)) k = true := (st_nw k (64 + n)).mpr ⟨n, by omega, h1.1⟩
  rw [st_64 hp] at h2
  obtain ⟨i, h3, h4⟩ := (st_nw k 64).mp h2
  have h5 := h i (by omega)
  have : hbit (nw f p i &&& z) k = true := by rw [hb_and, Bool.and_eq_true]; exact ⟨h4, h1.2⟩
  rw [h5, hb_0] at this
  cases this
end
section
/-! the count of bits by bytes -/
def by8 (b : Nat → Nat) : Nat → Nat
  | 0 => 0
  | k + 1 => b 0 + 256 * by8 (fun i => b (i + 1)) k
theorem by8_s (b : Nat → Nat) (k : Nat) : by8 b (k + 1) = b 0 + 256 * by8 (fun i => b (i + 1)) k := rfl
theorem and256 {a b c d : Nat} (ha : a < 256) (hc : c < 256) : (a + 256 * b) &&& (c + 256 * d) = (a &&& c) + 256 * (b &&& d) := by
  have h1 : ((a + 256 * b) &&& (c + 256 * d)) % 2 ^ 8 = a &&& c := by
    rw [Nat.and_mod_two_pow, show (a + 256 * b) % 2 ^ 8 = a by omega, show (c + 256 * d) % 2 ^ 8 = c by omega]
  have h2 : ((a + 256 * b) &&& (c + 256 * d)) / 2 ^ 8 = b &&& d := by
    rw [Nat.and_div_two_pow, show (a + 256 * b) / 2 ^ 8 = b by omega, show (c + 256 * d) / 2 ^ 8 = d by omega]
  generalize (a + 256 * b) &&& (c + 256 * d) = z at h1 h2
  omega
theorem by8_and : ∀ (k : Nat) (a c : Nat → Nat), (∀ i, a i < 256) → (∀ i, c i < 256) → by8 a k &&& by8 c k = by8 (fun i => a i &&& c i) k := by
  intro k
  induction k with
  | zero => intro a c _ _; show 0 &&& 0 = 0; decide
  | succ k ih =>
    intro a c ha hc
    rw [by8_s, by8_s, by8_s, and256 (ha 0) (hc 0), ih _ _ (fun i => ha (i + 1)) (fun i => hc (i + 1))]
theorem by8_add : ∀ (k : Nat) (a c : Nat → Nat), by8 a k + by8 c k = by8 (fun i => a i + c i) k := by
  intro k
  induction k with
  | zero => intro a c; rfl
  | succ k ih =>
    intro a c
    have := ih (fun i => a (i + 1)) (fun i => c (i + 1))
    rw [by8_s, by8_s, by8_s]
    omega
theorem by8_sub : ∀ (k : Nat) (a c : Nat → Nat), (∀ i, c i ≤ a i) → by8 a k - by8 c k = by8 (fun i => a i - c i) k ∧ by8 c k ≤ by8 a k := by
  intro k
  induction k with
  | zero => intro a c _; exact ⟨rfl, Nat.le_refl _⟩
  | succ k ih =>
    intro a c h
    obtain ⟨h1, h2⟩ := ih (fun i => a (i + 1)) (fun i => c (i + 1)) (fun i => h (i + 1))
    have h0 := h 0
    rw [by8_s, by8_s, by8_s]
    omega
theorem by8_mod {m m' : Nat} (hm : (m = 2 ∧ m' = 128) ∨ (m = 4 ∧ m' = 64) ∨ (m = 16 ∧ m' = 16)) : ∀ (k : Nat) (b : Nat → Nat), (∀ i, k ≤ i → b i = 0) → by8 b k % m = b 0 % m := by
  intro k b h
  cases k with
  | zero =>
    rw [h 0 (Nat.le_refl _)]
    rfl
  | succ k =>
    rw [by8_s]
    rcases hm with ⟨rfl, rfl⟩ | ⟨rfl, rfl⟩ | ⟨rfl, rfl⟩ <;> omega
theorem by8_div {m m' : Nat} (hm : (m = 2 ∧ m' = 128) ∨ (m = 4 ∧ m' = 64) ∨ (m = 16 ∧ m' = 16)) : ∀ (k : Nat) (b : Nat → Nat), (∀ i, k ≤ i → b i = 0) → by8 b k / m = by8 (fun i => b i / m + m' * (b (i + 1) % m)) k := by
  intro k
  induction k with
  | zero =>
    intro b _
    show 0 / m = 0
    exact Nat.zero_div m
  | succ k ih =>
    intro b h
    have h1 := ih (fun i => b (i + 1)) (fun i hi => h (i + 1) (by omega))
    have h2 := by8_mod hm k (fun i => b (i + 1)) (fun i hi => h (i + 1) (by omega))
    rw [by8_s, by8_s]
    rw [← h1]
    generalize by8 (fun i => b (i + 1)) k = X at h2 ⊢
    show (b 0 + 256 * X) / m = b 0 / m + m' * (b (0 + 1) % m) + 256 * (X / m)
    have h2 : X % m = b (0 + 1) % m := h2
    rcases hm with ⟨rfl, rfl⟩ | ⟨rfl, rfl⟩ | ⟨rfl, rfl⟩ <;> omega
theorem by8_c {a c : Nat → Nat} (h : ∀ i, a i = c i) (k : Nat) : by8 a k = by8 c k := by
  rw [show a = c from funext h]
theorem by8_of : ∀ (k N : Nat), N < 256 ^ k → N = by8 (fun i => if i < k then N / 256 ^ i % 256 else 0) k := by
  intro k
  induction k with
  | zero =>
    intro N h
    have : N = 0 := by simpa using h
    rw [this]
    rfl
  | succ k ih =>
    intro N h
    have h1 : N / 256 < 256 ^ k := by
      rw [Nat.div_lt_iff_lt_mul (by decide)]
      rw [Nat.pow_succ] at h
      exact h
    have h2 := ih (N / 256) h1
    rw [by8_s]
    have e : by8 (fun i => if i + 1 < k + 1 then N / 256 ^ (i + 1) % 256 else 0) k = N / 256 := by
      refine Eq.trans (by8_c (fun i => ?_) k) h2.symm
      by_cases hi : i < k
      · rw [if_pos hi, if_pos (by omega), Nat.div_div_eq_div_mul, Nat.pow_succ, Nat.mul_comm (256 ^ i) 256]
      · rw [if_neg hi, if_neg (by omega)]
    rw [e]
    show N = (if 0 < k + 1 then N / 256 ^ 0 % 256 else 0) + 256 * (N / 256)
    rw [if_pos (Nat.succ_pos k), Nat.pow_zero, Nat.div_one]
    omega
/-- bits from the low end -/
def cl2 : Nat → Nat → Nat
  | _, 0 => 0
  | N, n + 1 => N % 2 + cl2 (N / 2) n
theorem cl2_s (N n : Nat) : cl2 N (n + 1) = N % 2 + cl2 (N / 2) n := rfl
theorem cl2_top : ∀ (n N : Nat), cl2 N (n + 1) = cl2 N n + N / 2 ^ n % 2 := by
  intro n
  induction n with
  | zero =>
    intro N
    show N % 2 + 0 = 0 + N / 2 ^ 0 % 2
    rw [Nat.pow_zero, Nat.div_one]
    omega
  | succ n ih =>
    intro N
    rw [cl2_s, ih (N / 2), cl2_s, Nat.div_div_eq_div_mul, Nat.pow_succ, Nat.mul_comm (2 ^ n) 2]
    omega
theorem cl2_8 (b X n : Nat) (hb : b < 256) : cl2 (b + 256 * X) (n + 8) = cl2 b 8 + cl2 X n := by
  rw [show n + 8 = n + 1 + 1 + 1 + 1 + 1 + 1 + 1 + 1 from rfl]
  simp only [cl2_s]
  rw [show (b + 256 * X) / 2 / 2 / 2 / 2 / 2 / 2 / 2 / 2 = X by omega]
  rw [show cl2 (b / 2 / 2 / 2 / 2 / 2 / 2 / 2 / 2) 0 = 0 from rfl]
  have q1 : (b + 256 * X) % 2 = b % 2 := by omega
  have q2 : (b + 256 * X) / 2 % 2 = b / 2 % 2 := by omega
  have q3 : (b + 256 * X) / 2 / 2 % 2 = b / 2 / 2 % 2 := by omega
  have q4 : (b + 256 * X) / 2 / 2 / 2 % 2 = b / 2 / 2 / 2 % 2 := by omega
  have q5 : (b + 256 * X) / 2 / 2 / 2 / 2 % 2 = b / 2 / 2 / 2 / 2 % 2 := by omega
  have q6 : (b + 256 * X) / 2 / 2 / 2 / 2 / 2 % 2 = b / 2 / 2 / 2 / 2 / 2 % 2 := by omega
  have q7 : (b + 256 * X) / 2 / 2 / 2 / 2 / 2 / 2 % 2 = b / 2 / 2 / 2 / 2 / 2 / 2 % 2 := by omega
  have q8 : (b + 256 * X) / 2 / 2 / 2 / 2 / 2 / 2 / 2 % 2 = b / 2 / 2 / 2 / 2 / 2 / 2 / 2 % 2 := by omega
  rw [q1, q2, q3, q4, q5, q6, q7, q8]
  simp only [Nat.add_assoc, Nat.add_zero]
theorem cl2_le : ∀ n N, cl2 N n ≤ n := by
  intro n
  induction n with
  | zero => intro N; exact Nat.le_refl _
  | succ n ih =>
    intro N
    have := ih (N / 2)
    rw [cl2_s]
    omega
theorem cd_cl2 (x : Int64) : ∀ n, cd x n = cl2 x.toBitVec.toNat n := by
  intro n
  induction n with
  | zero => rfl
  | succ n ih =>
    rw [cl2_top, ← ih]
    show cd x n + (if hbit x n = true then 1 else 0) = _
    congr 1
    unfold hbit
    rw [BitVec.getLsbD, Nat.testBit_eq_decide_div_mod_eq]
    simp only [decide_eq_true_eq]
    split <;> omega
theorem pc1 : ∀ b, b < 256 → ∀ g, g < 2 → (b / 2 + 128 * g) &&& 85 = b / 2 &&& 85 := by decide +kernel
theorem pc2 : ∀ b, b < 256 → (b / 2 &&& 85) ≤ b := by decide +kernel
theorem pc3 : ∀ b, b < 256 → ∀ g, g < 4 → (b / 4 + 64 * g) &&& 51 = b / 4 &&& 51 := by decide +kernel
theorem pc4 : ∀ b, b < 256 → ∀ g, g < 16 → ((((b - (b / 2 &&& 85)) &&& 51) + ((b - (b / 2 &&& 85)) / 4 &&& 51)) + ((((b - (b / 2 &&& 85)) &&& 51) + ((b - (b / 2 &&& 85)) / 4 &&& 51)) / 16 + 16 * g)) &&& 15 = cl2 b 8 := by decide +kernel
theorem pc5 : ∀ b, b < 256 → ((b - (b / 2 &&& 85)) &&& 51) + ((b - (b / 2 &&& 85)) / 4 &&& 51) ≤ 68 := by decide +kernel
theorem pc6 : ∀ b, b < 256 → (((b - (b / 2 &&& 85)) &&& 51) + ((b - (b / 2 &&& 85)) / 4 &&& 51)) % 16 ≤ 4 := by decide +kernel
/-- the steps of the library's count, on numbers -/
def bc3 (N : Nat) : Nat :=
  let a := N - (N / 2 &&& 6148914691236517205)
  let b := (a &&& 3689348814741910323) + (a / 4 &&& 3689348814741910323)
  (b + b / 16) &&& 1085102592571150095
theorem m85 : by8 (fun _ => 85) 8 = 6148914691236517205 := by decide +kernel
theorem m51 : by8 (fun _ => 51) 8 = 3689348814741910323 := by decide +kernel
theorem m15 : by8 (fun _ => 15) 8 = 1085102592571150095 := by decide +kernel
theorem bc3_by (b : Nat → Nat) (hb : ∀ i, b i < 256) (h0 : ∀ i, 8 ≤ i → b i = 0) : bc3 (by8 b 8) = by8 (fun i => cl2 (b i) 8) 8 := by
  unfold bc3
  have e1 : by8 b 8 - (by8 b 8 / 2 &&& 6148914691236517205) = by8 (fun i => b i - (b i / 2 &&& 85)) 8 := by
    rw [by8_div (Or.inl ⟨rfl, rfl⟩) 8 b h0, ← m85, by8_and 8 _ _ (fun i => by have := hb i; have := hb (i + 1); omega) (fun _ => by decide)]
    rw [by8_c (fun i => pc1 (b i) (hb i) (b (i + 1) % 2) (Nat.mod_lt _ (by decide)))]
    exact (by8_sub 8 b _ (fun i => pc2 (b i) (hb i))).1
  rw [e1]
  have hc : ∀ i, b i - (b i / 2 &&& 85) < 256 := fun i => by have := hb i; omega
  have hz : ∀ i, 8 ≤ i → b i - (b i / 2 &&& 85) = 0 := fun i hi => by rw [h0 i hi]; rfl
  have e2 : (by8 (fun i => b i - (b i / 2 &&& 85)) 8 &&& 3689348814741910323) + (by8 (fun i => b i - (b i / 2 &&& 85)) 8 / 4 &&& 3689348814741910323) = by8 (fun i => ((b i - (b i / 2 &&& 85)) &&& 51) + ((b i - (b i / 2 &&& 85)) / 4 &&& 51)) 8 := by
    rw [by8_div (Or.inr (Or.inl ⟨rfl, rfl⟩)) 8 _ hz, ← m51, by8_and 8 _ _ hc (fun _ => by decide), by8_and 8 _ _ (fun i => by have := hc i; have := hc (i + 1); omega) (fun _ => by decide)]
    rw [by8_c (fun i => pc3 (b i - (b i / 2 &&& 85)) (hc i) ((b (i + 1) - (b (i + 1) / 2 &&& 85)) % 4) (Nat.mod_lt _ (by decide)))]
    exact by8_add 8 _ _
  show (_ + _ / 16) &&& 1085102592571150095 = _
  simp only [e2]
  have hd : ∀ i, ((b i - (b i / 2 &&& 85)) &&& 51) + ((b i - (b i / 2 &&& 85)) / 4 &&& 51) ≤ 68 := fun i => pc5 (b i) (hb i)
  have hd6 : ∀ i, (((b i - (b i / 2 &&& 85)) &&& 51) + ((b i - (b i / 2 &&& 85)) / 4 &&& 51)) % 16 ≤ 4 := fun i => pc6 (b i) (hb i)
  have hy : ∀ i, 8 ≤ i → ((b i - (b i / 2 &&& 85)) &&& 51) + ((b i - (b i / 2 &&& 85)) / 4 &&& 51) = 0 := fun i hi => by rw [h0 i hi]; rfl
  rw [by8_div (Or.inr (Or.inr ⟨rfl, rfl⟩)) 8 _ hy, by8_add, ← m15, by8_and 8 _ _ (fun i => by have := hd i; have := hd6 (i + 1); omega) (fun _ => by decide)]
  exact by8_c (fun i => pc4 (b i) (hb i) _ (Nat.mod_lt _ (by decide))) 8
theorem dvk {a b k : Nat} (h : a < k) : (a + k * b) / k = b := by
  rw [Nat.add_mul_div_left _ _ (by omega), Nat.div_eq_of_lt h, Nat.zero_add]
def bc (N : Nat) : Nat :=
  let a := bc3 N + bc3 N / 256
  let b := a + a / 65536
  (b + b / 4294967296) % 128
theorem cl2_all : ∀ (b : Nat → Nat), (∀ i, b i < 256) → cl2 (by8 b 8) 64 = cl2 (b 0) 8 + (cl2 (b 1) 8 + (cl2 (b 2) 8 + (cl2 (b 3) 8 + (cl2 (b 4) 8 + (cl2 (b 5) 8 + (cl2 (b 6) 8 + cl2 (b 7) 8)))))) := by
  intro b hb
  rw [by8_s, show (64 : Nat) = 56 + 8 from rfl, cl2_8 _ _ _ (hb 0)]
  rw [by8_s, show (56 : Nat) = 48 + 8 from rfl, cl2_8 _ _ _ (hb 1)]
  rw [by8_s, show (48 : Nat) = 40 + 8 from rfl, cl2_8 _ _ _ (hb 2)]
  rw [by8_s, show (40 : Nat) = 32 + 8 from rfl, cl2_8 _ _ _ (hb 3)]
  rw [by8_s, show (32 : Nat) = 24 + 8 from rfl, cl2_8 _ _ _ (hb 4)]
  rw [by8_s, show (24 : Nat) = 16 + 8 from rfl, cl2_8 _ _ _ (hb 5)]
  rw [by8_s, show (16 : Nat) = 8 + 8 from rfl, cl2_8 _ _ _ (hb 6)]
  rw [by8_s]
  show _ + (_ + (_ + (_ + (_ + (_ + (_ + cl2 (b 7 + 256 * 0) 8)))))) = _
  rfl
theorem bc_cl2 {N : Nat} (hN : N < 2 ^ 64) : bc N = cl2 N 64 := by
  have h := by8_of 8 N (by simpa using hN)
  generalize hb : (fun i => if i < 8 then N / 256 ^ i % 256 else 0) = b at h
  have hb1 : ∀ i, b i < 256 := fun i => by
    rw [← hb]
    show (if i < 8 then N / 256 ^ i % 256 else 0) < 256
    split
    · exact Nat.mod_lt _ (by decide)
    · decide
  have hb2 : ∀ i, 8 ≤ i → b i = 0 := fun i hi => by
    rw [← hb]
    show (if i < 8 then N / 256 ^ i % 256 else 0) = 0
    rw [if_neg (by omega)]
  rw [h]
  unfold bc
  rw [bc3_by b hb1 hb2, cl2_all b hb1]
  have g0 := cl2_le 8 (b 0)
  have g1 := cl2_le 8 (b 1)
  have g2 := cl2_le 8 (b 2)
  have g3 := cl2_le 8 (b 3)
  have g4 := cl2_le 8 (b 4)
  have g5 := cl2_le 8 (b 5)
  have g6 := cl2_le 8 (b 6)
  have g7 := cl2_le 8 (b 7)
  have e : by8 (fun i => cl2 (b i) 8) 8 = cl2 (b 0) 8 + 256 * (cl2 (b 1) 8 + 256 * (cl2 (b 2) 8 + 256 * (cl2 (b 3) 8 + 256 * (cl2 (b 4) 8 + 256 * (cl2 (b 5) 8 + 256 * (cl2 (b 6) 8 + 256 * (cl2 (b 7) 8 + 256 * 0))))))) := rfl
  rw [e]
  generalize cl2 (b 0) 8 = c0 at *
  generalize cl2 (b 1) 8 = c1 at *
  generalize cl2 (b 2) 8 = c2 at *
  generalize cl2 (b 3) 8 = c3 at *
  generalize cl2 (b 4) 8 = c4 at *
  generalize cl2 (b 5) 8 = c5 at *
  generalize cl2 (b 6) 8 = c6 at *
  generalize cl2 (b 7) 8 = c7 at *
  clear e h hb hb1 hb2 hN
  have d1 : (c0 + 256 * (c1 + 256 * (c2 + 256 * (c3 + 256 * (c4 + 256 * (c5 + 256 * (c6 + 256 * (c7 + 256 * 0)))))))) / 256 = c1 + 256 * (c2 + 256 * (c3 + 256 * (c4 + 256 * (c5 + 256 * (c6 + 256 * (c7 + 256 * 0)))))) := dvk (by omega)
  simp only [d1]
  have hA2 : c0 + 256 * (c1 + 256 * (c2 + 256 * (c3 + 256 * (c4 + 256 * (c5 + 256 * (c6 + 256 * (c7 + 256 * 0))))))) + (c1 + 256 * (c2 + 256 * (c3 + 256 * (c4 + 256 * (c5 + 256 * (c6 + 256 * (c7 + 256 * 0))))))) = ((c0 + c1) + 256 * (c1 + c2)) + 65536 * ((c2 + c3) + 256 * (c3 + c4) + 65536 * ((c4 + c5) + 256 * (c5 + c6) + 65536 * ((c6 + c7) + 256 * c7))) := by
    simp only [Nat.mul_add]
    simp only [← Nat.mul_assoc, Nat.reduceMul, Nat.mul_zero, Nat.add_zero]
    ac_rfl
  simp only [hA2]
  clear hA2 d1
  have d2 : (((c0 + c1) + 256 * (c1 + c2)) + 65536 * ((c2 + c3) + 256 * (c3 + c4) + 65536 * ((c4 + c5) + 256 * (c5 + c6) + 65536 * ((c6 + c7) + 256 * c7)))) / 65536 = (c2 + c3) + 256 * (c3 + c4) + 65536 * ((c4 + c5) + 256 * (c5 + c6) + 65536 * ((c6 + c7) + 256 * c7)) := dvk (by omega)
  simp only [d2]
  have hB2 : ((c0 + c1) + 256 * (c1 + c2)) + 65536 * ((c2 + c3) + 256 * (c3 + c4) + 65536 * ((c4 + c5) + 256 * (c5 + c6) + 65536 * ((c6 + c7) + 256 * c7))) + ((c2 + c3) + 256 * (c3 + c4) + 65536 * ((c4 + c5) + 256 * (c5 + c6) + 65536 * ((c6 + c7) + 256 * c7))) = ((c0 + c1 + c2 + c3) + 256 * (c1 + c2 + c3 + c4) + 65536 * ((c2 + c3 + c4 + c5) + 256 * (c3 + c4 + c5 + c6))) + 4294967296 * ((c4 + c5 + c6 + c7) + 256 * (c5 + c6 + c7) + 65536 * ((c6 + c7) + 256 * c7)) := by
    simp only [Nat.mul_add]
    simp only [← Nat.mul_assoc, Nat.reduceMul, Nat.mul_zero, Nat.add_zero]
    ac_rfl
  simp only [hB2]
  clear hB2 d2
  have d3 : (((c0 + c1 + c2 + c3) + 256 * (c1 + c2 + c3 + c4) + 65536 * ((c2 + c3 + c4 + c5) + 256 * (c3 + c4 + c5 + c6))) + 4294967296 * ((c4 + c5 + c6 + c7) + 256 * (c5 + c6 + c7) + 65536 * ((c6 + c7) + 256 * c7))) / 4294967296 = ((c4 + c5 + c6 + c7) + 256 * (c5 + c6 + c7) + 65536 * ((c6 + c7) + 256 * c7)) := dvk (by omega)
  rw [d3]
  have hC : ((c0 + c1 + c2 + c3) + 256 * (c1 + c2 + c3 + c4) + 65536 * ((c2 + c3 + c4 + c5) + 256 * (c3 + c4 + c5 + c6))) + 4294967296 * ((c4 + c5 + c6 + c7) + 256 * (c5 + c6 + c7) + 65536 * ((c6 + c7) + 256 * c7)) + ((c4 + c5 + c6 + c7) + 256 * (c5 + c6 + c7) + 65536 * ((c6 + c7) + 256 * c7)) = (c0 + (c1 + (c2 + (c3 + (c4 + (c5 + (c6 + c7))))))) + 128 * (2 * (c1 + c2 + c3 + c4) + 512 * ((c2 + c3 + c4 + c5) + 256 * (c3 + c4 + c5 + c6)) + 33554432 * ((c4 + c5 + c6 + c7) + 256 * (c5 + c6 + c7) + 65536 * ((c6 + c7) + 256 * c7)) + 2 * (c5 + c6 + c7) + 512 * ((c6 + c7) + 256 * c7)) := by
    simp only [Nat.mul_add]
    simp only [← Nat.mul_assoc, Nat.reduceMul, Nat.mul_zero, Nat.add_zero]
    ac_rfl
  rw [hC, Nat.add_mul_mod_self_left]
  clear hC d3
  exact Nat.mod_eq_of_lt (by omega)
end
section
/-! what a policy gives, and which are filters -/
def setv (x a b : Nat) : Nat := x - vl x a * 4 ^ (2 - a) + b * 4 ^ (2 - a)
theorem setv_lt : ∀ x, x < 64 → ∀ a, a < 3 → ∀ b, b < 4 → setv x a b < 64 := by decide +kernel
theorem i_val : ∀ x, x < 64 → ∀ a, a < 3 → (nI x >>> (nI (2 * (2 - a)) &&& 31)) &&& nI 3 = nI (vl x a) := by decide +kernel
theorem i_shift : ∀ a, a < 3 → nI 2 * (nI 2 - nI a) = nI (2 * (2 - a)) := by decide +kernel
theorem i_weight : ∀ a, a < 3 → nI 1 <<< (nI (2 * (2 - a)) &&& 31) = nI (4 ^ (2 - a)) := by decide +kernel
theorem i_packets : ∀ a, a < 4 → nI 64 >>> ((nI 2 * nI a) &&& 31) = nI (4 ^ (3 - a)) := by decide +kernel
theorem i_setC : ∀ x, x < 64 → ∀ a, a < 3 → ∀ b, b < 4 → nI x + (nI b - nI (vl x a)) * nI (4 ^ (2 - a)) = nI (setv x a b) := by decide +kernel
theorem i_valM : ∀ x, x < 64 → ∀ a, a < 3 → (nI x >>> ((nI 4 - nI 2 * nI a) &&& 31)) &&& nI 3 = nI (vl x a) := by decide +kernel
theorem i_setM : ∀ x, x < 64 → ∀ a, a < 3 → ∀ b, b < 4 → nI x + ((nI b - nI (vl x a)) <<< ((nI 4 - nI 2 * nI a) &&& 31)) = nI (setv x a b) := by decide +kernel
def polF (k a b c : Nat) (O : Nat → Nat → Int64) (x : Nat) : Int64 :=
  if k = 0 then 0 else if k = 1 then one x else if k = 2 then (if vl x a = b then one x else 0) else if k = 3 then one (setv x a b)
  else if k = 4 then O a x ||| O b x else if k = 5 then gf (O b) (O a x) 64 else if k = 6 then st (O a) x 64
  else if k = 7 then (if O a x = 0 then one x else 0) else (if O a x = 0 then O c x else O b x)
def polB (k a b c : Nat) (F : Nat → Bool) : Bool :=
  if k = 3 then false else if k = 4 ∨ k = 5 then F a && F b else if k = 6 then F a else if k = 8 then F a && (F b && F c) else true
/-- equal outcomes; how many differ -/
def eqN (f g : Nat → Int64) : Nat → Bool
  | 0 => true
  | n + 1 => eqN f g n && decide (f n = g n)
theorem eqN_iff {f g : Nat → Int64} : ∀ n, eqN f g n = true ↔ ∀ k, k < n → f k = g k := by
  intro n
  induction n with
  | zero => exact ⟨fun _ k h => absurd h (Nat.not_lt_zero k), fun _ => rfl⟩
  | succ n ih =>
    show (eqN f g n && decide (f n = g n)) = true ↔ _
    rw [Bool.and_eq_true, ih, decide_eq_true_eq]
    constructor
    · rintro ⟨h1, h2⟩ k hk
      by_cases h : k = n
      · subst h
        exact h2
      · exact h1 k (by omega)
    · intro h
      exact ⟨fun k hk => h k (by omega), h n (by omega)⟩
def eqO (f g : Nat → Int64) : Bool := eqN f g 64
def isN (O : Nat → Nat → Int64) (n : Nat) : Bool := decide (∀ j, j < n → eqO (O j) (O n) = false)
def dct (O : Nat → Nat → Int64) : Nat → Nat
  | 0 => 0
  | n + 1 => dct O n + (if isN O n = true then 1 else 0)
theorem dct_le (O : Nat → Nat → Int64) : ∀ n, dct O n ≤ n := by
  intro n
  induction n with
  | zero => exact Nat.le_refl _
  | succ n ih =>
    show dct O n + (if isN O n = true then 1 else 0) ≤ n + 1
    split <;> omega
/-- the first packet at which two differ, or 64 -/
def apR (f g : Nat → Int64) (k : Nat) : Prop := k ≤ 64 ∧ (∀ j, j < k → f j = g j) ∧ (k < 64 → ¬ f k = g k)
theorem apR_one {f g : Nat → Int64} {k j : Nat} (h1 : apR f g k) (h2 : apR f g j) : k = j := by
  obtain ⟨a1, a2, a3⟩ := h1
  obtain ⟨b1, b2, b3⟩ := h2
  rcases Nat.lt_trichotomy k j with q | q | q
  · exact absurd (b2 k q) (a3 (by omega))
  · exact q
  · exact absurd (a2 j q) (b3 (by omega))
theorem apR_eq {f g : Nat → Int64} {k : Nat} (h : apR f g k) : k = 64 ↔ eqO f g = true := by
  obtain ⟨a1, a2, a3⟩ := h
  unfold eqO
  rw [eqN_iff]
  constructor
  · intro h
    subst h
    exact a2
  · intro h
    apply Classical.byContradiction
    intro hc
    exact a3 (by omega) (h k (by omega))
/-- is the int a number below n -/
def inb (n : Nat) (x : Int32) : Bool := decide (0 ≤ x.toInt ∧ x.toInt < n)
theorem inb_t {n : Nat} {x : Int32} (hn : n < 2147483648) (h : inb n x = true) : ∃ j : Nat, j < n ∧ x = nI j := by
  unfold inb at h
  rw [decide_eq_true_eq] at h
  exact vp_in_of (vp_in_iff.mpr h) hn
theorem inb_nI {n j : Nat} (hj : j < n) (hn : n < 2147483648) : inb n (nI j) = true := by
  unfold inb
  rw [decide_eq_true_eq]
  exact vp_in_iff.mp (vp_in_nI hj hn)
theorem inb_neg {n : Nat} {x : Int32} (h : x < 0) : inb n x = false := by
  unfold inb
  rw [decide_eq_false_iff_not]
  rw [Int32.lt_iff_toInt_lt, Int32.toInt_zero] at h
  omega
theorem inb_big {n : Nat} {x : Int32} (hn : n < 2147483648) (h : nI n ≤ x) : inb n x = false := by
  unfold inb
  rw [decide_eq_false_iff_not]
  rw [Int32.le_iff_toInt_le, nI_toInt hn] at h
  omega
theorem inb_ok {n : Nat} {x : Int32} (hn : n < 2147483648) (h1 : ¬ x < 0) (h2 : ¬ nI n ≤ x) : inb n x = true := by
  unfold inb
  rw [decide_eq_true_eq]
  rw [Int32.lt_iff_toInt_lt, Int32.toInt_zero] at h1
  rw [Int32.le_iff_toInt_le, nI_toInt hn] at h2
  omega
end
