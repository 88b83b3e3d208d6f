def tn (x : Int64) : Nat := x.toBitVec.toNat
theorem tn_lt (x : Int64) : tn x < 18446744073709551616 := x.toBitVec.isLt
theorem tn_shr (x : Int64) {k : Nat} (hk : k < 64) : tn ((x.toUInt64 >>> ((nI k).toInt64.toUInt64 &&& Int64.toUInt64 63)).toInt64) = tn x / 2 ^ k := by
  have e := sh_u k hk
  show (x.toUInt64 >>> ((nI k).toInt64.toUInt64 &&& Int64.toUInt64 63)).toNat = _
  rw [UInt64.toNat_shiftRight, e, Nat.mod_eq_of_lt hk, Nat.shiftRight_eq_div_pow]
  rfl
theorem tn_and (x y : Int64) : tn (x &&& y) = tn x &&& tn y := by
  show (x &&& y).toBitVec.toNat = _
  rw [Int64.toBitVec_and, BitVec.toNat_and]
  rfl
theorem tn_add {x y : Int64} (h : tn x + tn y < 18446744073709551616) : tn (x + y) = tn x + tn y := by
  show (x + y).toBitVec.toNat = _
  rw [Int64.toBitVec_add, BitVec.toNat_add]
  exact Nat.mod_eq_of_lt h
theorem tn_sub {x y : Int64} (h : tn y ≤ tn x) : tn (x - y) = tn x - tn y := by
  show (x - y).toBitVec.toNat = _
  rw [Int64.toBitVec_sub]
  exact BitVec.toNat_sub_of_le (x := x.toBitVec) (y := y.toBitVec) h
theorem tn_i (x : Int64) : x.toInt32 &&& nI 127 = nI (tn x % 128) := by
  apply Int32.toBitVec_inj.mp
  rw [Int32.toBitVec_and]
  apply BitVec.eq_of_toNat_eq
  have h1 : x.toInt32.toBitVec.toNat = tn x % 4294967296 := by
    first | rw [Int64.toBitVec_toInt32, BitVec.signExtend_eq_setWidth_of_le _ (by decide), BitVec.toNat_setWidth] | rw [Int64.toBitVec_toInt32, BitVec.signExtend_eq_setWidth_of_lt _ (by decide), BitVec.toNat_setWidth]
    rfl
  have h2 : (nI 127).toBitVec.toNat = 127 := by decide
  have h3 : ∀ k, k < 128 → (nI k).toBitVec.toNat = k := by decide +kernel
  rw [BitVec.toNat_and, h1, h2, h3 _ (Nat.mod_lt _ (by decide)), show (127 : Nat) = 2 ^ 7 - 1 from rfl, Nat.and_two_pow_sub_one_eq_mod]
  show tn x % 4294967296 % 128 = tn x % 128
  omega
theorem tn_bc {z a b c d e f : Int64} (h1 : a = z - ((z.toUInt64 >>> ((nI 1).toInt64.toUInt64 &&& Int64.toUInt64 63)).toInt64 &&& 6148914691236517205))
    (h2 : b = (a &&& 3689348814741910323) + ((a.toUInt64 >>> ((nI 2).toInt64.toUInt64 &&& Int64.toUInt64 63)).toInt64 &&& 3689348814741910323))
    (h3 : c = (b + (b.toUInt64 >>> ((nI 4).toInt64.toUInt64 &&& Int64.toUInt64 63)).toInt64) &&& 1085102592571150095)
    (h4 : d = c + (c.toUInt64 >>> ((nI 8).toInt64.toUInt64 &&& Int64.toUInt64 63)).toInt64)
    (h5 : e = d + (d.toUInt64 >>> ((nI 16).toInt64.toUInt64 &&& Int64.toUInt64 63)).toInt64)
    (h6 : f = e + (e.toUInt64 >>> ((nI 32).toInt64.toUInt64 &&& Int64.toUInt64 63)).toInt64) : f.toInt32 &&& nI 127 = nI (cd z 64) := by
  have k1 : tn (6148914691236517205 : Int64) = 6148914691236517205 := by decide +kernel
  have k2 : tn (3689348814741910323 : Int64) = 3689348814741910323 := by decide +kernel
  have k3 : tn (1085102592571150095 : Int64) = 1085102592571150095 := by decide +kernel
  have ea : tn a = tn z - (tn z / 2 &&& 6148914691236517205) := by
    have q : tn ((z.toUInt64 >>> ((nI 1).toInt64.toUInt64 &&& Int64.toUInt64 63)).toInt64 &&& 6148914691236517205) = (tn z / 2 &&& 6148914691236517205) := by rw [tn_and, tn_shr z (by decide), k1]
    rw [h1, tn_sub (by rw [q]; exact Nat.le_trans Nat.and_le_left (Nat.div_le_self _ _)), q]
  have eb : tn b = (tn a &&& 3689348814741910323) + (tn a / 4 &&& 3689348814741910323) := by
    have q1 : tn (a &&& 3689348814741910323) = (tn a &&& 3689348814741910323) := by rw [tn_and, k2]
    have q2 : tn ((a.toUInt64 >>> ((nI 2).toInt64.toUInt64 &&& Int64.toUInt64 63)).toInt64 &&& 3689348814741910323) = (tn a / 4 &&& 3689348814741910323) := by rw [tn_and, tn_shr a (by decide), k2]
    have b1 : (tn a &&& 3689348814741910323) ≤ 3689348814741910323 := Nat.and_le_right
    have b2 : (tn a / 4 &&& 3689348814741910323) ≤ 3689348814741910323 := Nat.and_le_right
    rw [h2, tn_add (by rw [q1, q2]; exact Nat.lt_of_le_of_lt (Nat.add_le_add b1 b2) (by decide)), q1, q2]
  have hb : tn b ≤ 7378697629483820646 := by
    have b1 : (tn a &&& 3689348814741910323) ≤ 3689348814741910323 := Nat.and_le_right
    have b2 : (tn a / 4 &&& 3689348814741910323) ≤ 3689348814741910323 := Nat.and_le_right
    rw [eb]
    exact Nat.add_le_add b1 b2
  have ec : tn c = (tn b + tn b / 16) &&& 1085102592571150095 := by
    have q : tn ((b.toUInt64 >>> ((nI 4).toInt64.toUInt64 &&& Int64.toUInt64 63)).toInt64) = tn b / 16 := tn_shr b (by decide)
    rw [h3, tn_and, tn_add (by rw [q]; clear ea eb h1 h2 h3 h4 h5 h6 q; omega), q, k3]
  have hc : tn c ≤ 1085102592571150095 := by rw [ec]; exact Nat.and_le_right
  have ed : tn d = tn c + tn c / 256 := by
    have q : tn ((c.toUInt64 >>> ((nI 8).toInt64.toUInt64 &&& Int64.toUInt64 63)).toInt64) = tn c / 256 := tn_shr c (by decide)
    rw [h4, tn_add (by rw [q]; clear ea eb ec hb h1 h2 h3 h4 h5 h6 q; omega), q]
  have hd : tn d ≤ 2170205185142300190 := by rw [ed]; clear ea eb ec ed hb h1 h2 h3 h4 h5 h6; omega
  have ee : tn e = tn d + tn d / 65536 := by
    have q : tn ((d.toUInt64 >>> ((nI 16).toInt64.toUInt64 &&& Int64.toUInt64 63)).toInt64) = tn d / 65536 := tn_shr d (by decide)
    rw [h5, tn_add (by rw [q]; clear ea eb ec ed hb hc h1 h2 h3 h4 h5 h6 q; omega), q]
  have he : tn e ≤ 4340410370284600380 := by rw [ee]; clear ea eb ec ed ee hb hc h1 h2 h3 h4 h5 h6; omega
  have ef : tn f = tn e + tn e / 4294967296 := by
    have q : tn ((e.toUInt64 >>> ((nI 32).toInt64.toUInt64 &&& Int64.toUInt64 63)).toInt64) = tn e / 4294967296 := tn_shr e (by decide)
    rw [h6, tn_add (by rw [q]; clear ea eb ec ed ee hb hc hd h1 h2 h3 h4 h5 h6 q; omega), q]
  have hbc : tn f % 128 = bc (tn z) := by
    rw [ef, ee, ed, ec, eb, ea]
    rfl
  rw [tn_i, hbc, bc_cl2 (tn_lt z), cd_cl2]
  rfl
theorem uni_tt {f g fo : Nat → Int64} (hf : ∀ k, k < 64 → f k = rl 64 k (fo k) 64) (hg : ∀ k, k < 64 → g k = rh 64 k (fo k) 64) {x m : Nat} (hx : x + m ≤ 64) (h : ∀ q, q < m → f (x + q) = f x ∧ g (x + q) = g x) : uni 64 fo x m = true := by
  refine uni_t (th := 64) (f := fo) (x := x) (n := m) (fun q hq => ?_)
  have h1 := h q hq
  rw [hf _ (by omega), hf x (by omega), hg _ (by omega), hg x (by omega)] at h1
  exact h1
theorem uni_ff {f g fo : Nat → Int64} (hf : ∀ k, k < 64 → f k = rl 64 k (fo k) 64) (hg : ∀ k, k < 64 → g k = rh 64 k (fo k) 64) {x m q : Nat} (hx : x + m ≤ 64) (hq : q < m) (h : ¬ (f (x + q) = f x ∧ g (x + q) = g x)) : uni 64 fo x m = false := by
  refine uni_f (th := 64) (f := fo) (x := x) (n := m) hq (fun z => h ?_)
  rw [hf _ (by omega), hf x (by omega), hg _ (by omega), hg x (by omega)]
  exact z
def tabI (D : List (Nat × Nat)) (b : Nat) (fp ff pl : Nat → Int32) : Prop := D.length ≤ b ∧ (∀ k, k < D.length → (D.getD k (0, 0)).1 + 4 ^ (D.getD k (0, 0)).2 ≤ b) ∧ (∀ k, k < D.length → fp k = nI (D.getD k (0, 0)).1 ∧ ff k = nI (3 - (D.getD k (0, 0)).2)) ∧ ∀ x, x < b → ∃ k, plR D x k ∧ pl x = nI k
theorem tabI_0 {fp ff pl : Nat → Int32} : tabI [] 0 fp ff pl := ⟨Nat.le_refl _, fun k h => absurd h (Nat.not_lt_zero k), fun k h => absurd h (Nat.not_lt_zero k), fun k h => absurd h (Nat.not_lt_zero k)⟩
theorem getD_l {D : List (Nat × Nat)} {r : Nat × Nat} {k : Nat} (h : k < D.length) : (D ++ [r]).getD k (0, 0) = D.getD k (0, 0) := by
  rw [List.getD_eq_getElem?_getD, List.getElem?_append_left h, List.getD_eq_getElem?_getD]
theorem getD_e {D : List (Nat × Nat)} {r : Nat × Nat} : (D ++ [r]).getD D.length (0, 0) = r := by simp
theorem tabI_s {D : List (Nat × Nat)} {x d m : Nat} {fp ff pl pl2 : Nat → Int32} (h : tabI D x fp ff pl) (hm : 4 ^ d = m) (hp : ∀ k, k < 64 → pl2 k = if x ≤ k ∧ k < x + m then nI D.length else pl k) (hx : x + m ≤ 64) : tabI (D ++ [(x, d)]) (x + m) (upd fp D.length (nI x)) (upd ff D.length (nI (3 - d))) pl2 := by
  obtain ⟨h1, h2, h3, h4⟩ := h
  have hm1 : 0 < m := by rw [← hm]; exact Nat.pow_pos (by decide)
  have hlen : (D ++ [(x, d)]).length = D.length + 1 := by rw [List.length_append]; rfl
  refine ⟨by rw [hlen]; omega, fun k hk => ?_, fun k hk => ?_, fun y hy => ?_⟩
  · rw [hlen] at hk
    by_cases e : k = D.length
    · subst e
      rw [getD_e]
      show x + 4 ^ d ≤ x + m
      omega
    · rw [getD_l (by omega)]
      have := h2 k (by omega)
      omega
  · rw [hlen] at hk
    by_cases e : k = D.length
    · subst e
      rw [pk_us, pk_us, getD_e]
      exact ⟨rfl, rfl⟩
    · rw [pk_un e, pk_un e, getD_l (by omega)]
      exact h3 k (by omega)
  · by_cases e : y < x
    · obtain ⟨k, ⟨a1, a2, a3⟩, a4⟩ := h4 y e
      refine ⟨k, ⟨by rw [hlen]; omega, by rw [getD_l a1]; exact a2, fun j hj => by rw [getD_l (by omega)]; exact a3 j hj⟩, ?_⟩
      rw [hp y (by omega), if_neg (by omega)]
      exact a4
    · refine ⟨D.length, ⟨by rw [hlen]; omega, by rw [getD_e]; show y < x + 4 ^ d; omega, fun j hj => ?_⟩, ?_⟩
      · rw [getD_l hj]
        have := h2 j hj
        omega
      · rw [hp y (by omega), if_pos ⟨by omega, hy⟩]
theorem tabI_ok {T : List (Nat × Nat)} {fp ff pl : Nat → Int32} (h : tabI T 64 fp ff pl) : tabOK T fp ff pl := ⟨h.2.2.1, h.2.2.2⟩
theorem reg_s (ok : Nat → Nat → Bool) (d x : Nat) : reg ok (d + 1) x = if ok x (4 ^ (d + 1)) = true then [(x, d + 1)] else reg ok d x ++ (reg ok d (x + 4 ^ d) ++ (reg ok d (x + 2 * 4 ^ d) ++ reg ok d (x + 3 * 4 ^ d))) := rfl
theorem W.forgetP {p : Program} {l : Launch} {e : Env} {R : Room} {s : State} {m : MethodId} {args : Array Value} {below : List Frame} {meth : Method} {c : Code} {H : Heap} {locs : List Loc} {cells slots : Nat} {Q : State → Prop} {g : JFrame} {P : Nat → Prop} (hL : ∀ z ∈ locs, P z.base ∨ s.heap.size ≤ z.base) (kk : ∀ lc : List Loc, (∀ z ∈ lc, P z.base) → W p l e R s m args below meth c H lc cells slots Q g) : W p l e R s m args below meth c H locs cells slots Q g := by
  intro T hT X
  have X2 : Stand p l e R s m args below meth c T (locs.filter (fun z => @decide (P z.base) (Classical.propDecidable _))) cells slots :=
    { X with same := X.same.weaken (fun y hy hlt => (hL y hy).elim (fun h => List.mem_filter.mpr ⟨hy, by simpa using h⟩) (fun h => absurd hlt (Nat.not_lt.mpr h))) (Nat.le_refl _) (Nat.le_refl _) }
  exact kk _ (fun z hz => by have := (List.mem_filter.mp hz).2; simpa using this) T hT X2
