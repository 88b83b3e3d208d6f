theorem gnws_tbl : ∀ w ∈ gnws, w ∈ lw_tbl := by decide +kernel
theorem ao_tbl : Cond.arrayOver (.object RP) ∈ lw_tbl := by decide +kernel
theorem z_tbl : Cond.laysStatic Bundle.tN "UNASSIGNED_STACK" Bundle.steD ∈ lw_tbl ∧ Cond.laysStatic Bundle.tN "SUPPRESSED_SENTINEL" Bundle.listD ∈ lw_tbl ∧ Cond.initialized Bundle.tN ∈ lw_tbl := by decide +kernel
theorem ALL_tbl {w : Cond} (h : w ∈ ALL) : w ∈ lw_tbl := (List.mem_filter.mp h).1
theorem arr_at {args : Array Value} {s : State} {t : FieldType} (h : (Cond.arrayClass t).before args s = true) (ht : ∀ C, t ≠ .object C) : ∃ cA, ArrOfT s cA t ∧ va_RA s cA t := by
  obtain ⟨cA, kA, comp, hfind, hk, hkind⟩ := Cond.arrayClass_spec h
  refine ⟨cA, fun n z => ⟨fun k h => (by cases h), kA, hk, comp, hkind⟩, ?_⟩
  cases t with
  | object C => exact absurd rfl (ht C)
  | _ => exact hfind
theorem arq_at {args : Array Value} {s : State} {C : String} (h : (Cond.arrayOver (.object C)).before args s = true) : ∃ cA, ArrOfT s cA (.object C) ∧ va_RA s cA (.object C) := by
  obtain ⟨comp, cA, kA, hcomp, hidx, hk, hkind, hname⟩ := Cond.arrayOver_spec h
  exact ⟨cA, fun n z => ⟨fun k h => (by cases h), kA, hk, comp, hkind⟩, kA, comp, hk, hkind, hcomp, hname⟩
theorem K_at {args : Array Value} {s : State} (hts : ∀ w ∈ lw_tbl, w.before args s = true) : ∃ (G : va_G) (cA : Nat → ClassId), KN G cA s := by
  have htA : ∀ w ∈ ALL, w.before args s = true := fun w h => hts w (ALL_tbl h)
  obtain ⟨c0, i0, k0⟩ := u_known (C := RP) (T := TP) (N := 3) (n := 3) htA inP (htA _ wd188)
  obtain ⟨c1, i1, k1⟩ := u_known (C := RQ) (T := TQ) (N := 2) (n := 2) htA inQ (htA _ wd50)
  obtain ⟨c2, i2, k2⟩ := u_known (C := RT) (T := TT) (N := 4) (n := 4) htA inT (htA _ wd355)
  obtain ⟨c3, i3, k3⟩ := u_known (C := RV) (T := TV) (N := 4) (n := 4) htA inV (htA _ wd40)
  obtain ⟨c4, i4, k4⟩ := u_known (C := RM) (T := TM) (N := 8) (n := 8) htA inM (htA _ wd430)
  obtain ⟨a0, q0⟩ := arr_at (t := .long) (htA _ wd62) (fun C h => by cases h)
  obtain ⟨a1, q1⟩ := arr_at (t := .int) (htA _ wd377) (fun C h => by cases h)
  obtain ⟨a2, q2⟩ := arq_at (C := RP) (hts _ ao_tbl)
  obtain ⟨a3, q3⟩ := arr_at (t := .boolean) (htA _ wd460) (fun C h => by cases h)
  refine ⟨(fun k => if k = 0 then c0 else if k = 1 then c1 else if k = 2 then c2 else if k = 3 then c3 else c4, fun k => if k = 0 then i0 else if k = 1 then i1 else if k = 2 then i2 else if k = 3 then i3 else i4), (fun k => if k = 0 then a0 else if k = 1 then a1 else if k = 2 then a2 else a3), ⟨fun k q hq => ?_, fun k q hq => ?_⟩, fun w hw => va_Nw.of (gnws_t w hw) (hts w (gnws_tbl w hw)), va_AO.of (hts _ ao_tbl)⟩
  · match k, hq with
    | 0, hq => cases hq; exact k0
    | 1, hq => cases hq; exact k1
    | 2, hq => cases hq; exact k2
    | 3, hq => cases hq; exact k3
    | 4, hq => cases hq; exact k4
    | k + 5, hq => simp [vwCl] at hq
  · match k, hq with
    | 0, hq => cases hq; exact q0
    | 1, hq => cases hq; exact q1
    | 2, hq => cases hq; exact q2
    | 3, hq => cases hq; exact q3
    | k + 4, hq => simp [tyl] at hq
theorem Z_at {args : Array Value} {s : State} (hts : ∀ w ∈ lw_tbl, w.before args s = true) (hgv : (Jvm.Cond.and given_1 narrow_1).before args s = true) : ZZ (fun q => q < s.heap.size) s s.heap := by
  have hs := flat_of_before _ hgv
  have h1 : (Cond.isRef (.static Bundle.tN "UNASSIGNED_STACK" Bundle.steD)).before args s = true := hs _ (by decide +kernel)
  have h2 : (Cond.isRef (.static Bundle.tN "SUPPRESSED_SENTINEL" Bundle.listD)).before args s = true := hs _ (by decide +kernel)
  exact ⟨vx_Zqof (hts _ z_tbl.1) (hts _ z_tbl.2.2) h1 (fun a h q => q h), vx_Zqof (hts _ z_tbl.2.1) (hts _ z_tbl.2.2) h2 (fun a h q => q h)⟩
theorem NC_at {args : Array Value} {s : State} (hgv : (Jvm.Cond.and given_1 narrow_1).before args s = true) : NC s := by
  have hs := flat_of_before _ hgv
  unfold NC ncs
  simp only [List.forall_mem_cons]
  refine ⟨va_Nc.of (hs _ (by decide +kernel)), va_Nc.of (hs _ (by decide +kernel)), va_Nc.of (hs _ (by decide +kernel)), va_Nc.of (hs _ (by decide +kernel)), va_Nc.of (hs _ (by decide +kernel)), va_Nc.of (hs _ (by decide +kernel)), va_Nc.of (hs _ (by decide +kernel)), va_Nc.of (hs _ (by decide +kernel)), va_Nc.of (hs _ (by decide +kernel)), va_Nc.of (hs _ (by decide +kernel)), va_Nc.of (hs _ (by decide +kernel)), va_Nc.of (hs _ (by decide +kernel)), ?_⟩
  intro q hq
  cases hq
theorem ZZ.up {E E' : Nat → Prop} {U : State} {H : Heap} (h : ZZ E U H) (hE : ∀ q, E q → E' q) : ZZ E' U H := ⟨h.1.narrow (fun q h1 h2 => h1 (hE q h2)), h.2.narrow (fun q h1 h2 => h1 (hE q h2))⟩
theorem gw_m {y : MethodName} {c : ByteArray} {ml : Nat} {r : Option FieldType} {hh : List (Nat × Nat × Nat × Nat)} (h4 : Cond.codeWith y c ml r hh ∈ ALL) : GoodIn ALL (.codeWith y c ml r hh :: ALL) := fun w h => (List.mem_cons.mp h).elim (fun e => ⟨by rw [e]; exact h4, by rw [e]; exact good_of_word (ALL_g _ h4)⟩) (fun h => ⟨h, good_of_word (ALL_g _ h)⟩)
theorem gw_S {own : String} {idx : Nat} {y : MethodName} {c : ByteArray} {ml : Nat} {r : Option FieldType} {hh : List (Nat × Nat × Nat × Nat)} (h1 : Cond.methodLink own idx y ∈ ALL) (h2 : Cond.static y ∈ ALL) (h3 : Cond.initialized y.cls ∈ ALL) (h4 : Cond.codeWith y c ml r hh ∈ ALL) : GoodIn ALL (va_wsS own idx y (.codeWith y c ml r hh :: ALL)) := by
  intro w h
  unfold va_wsS at h
  rcases List.mem_append.mp h with h | h
  · simp only [List.mem_cons, List.not_mem_nil, or_false] at h
    rcases h with rfl | rfl | rfl
    · exact ⟨h1, good_of_word (ALL_g _ h1)⟩
    · exact ⟨h2, good_of_word (ALL_g _ h2)⟩
    · exact ⟨h3, good_of_word (ALL_g _ h3)⟩
  · exact gw_m h4 w h
theorem mV_k {G : va_G} {cA : Nat → ClassId} {mo ao af sa ea n : Nat} {fo : Nat → Int64} {fb : Nat → Int32} {th : Int32} {H H1 : Heap} (h : mV G cA mo ao af sa ea n fo fb th H) (h1 : H1[mo]? = H[mo]?) (h2 : H1[ao]? = H[ao]?) (h3 : H1[af]? = H[af]?) (h4 : H1[sa]? = H[sa]?) (h5 : H1[ea]? = H[ea]?) : mV G cA mo ao af sa ea n fo fb th H1 := by
  obtain ⟨lw, hg, fS, fE, a, b, c, d, e⟩ := h
  exact ⟨lw, hg, fS, fE, ob_k a h1, al_k b h2, ai_k c h3, ai_k d h4, ai_k e h5⟩
theorem PVE_k {G : va_G} {cA : Nat → ClassId} {E : Nat → Prop} {x n : Nat} {F : Nat → Bool} {O : Nat → Nat → Int64} {H H1 : Heap} (h : PVE G cA E x n F O H) (hk : ∀ q, q < H.size → ¬ E q → H1[q]? = H[q]?) : PVE G cA E x n F O H1 := by
  obtain ⟨pa, rs, lo, hi, po, oc, tb, tc, hS, hN⟩ := h
  exact ⟨pa, rs, lo, hi, po, oc, tb, tc, pvS_E hS hN hk, hN⟩
def EE (z0 mo ao af sa ea ou : Nat) : Nat → Prop := fun q => q < z0 ∨ q = mo ∨ q = ao ∨ q = af ∨ q = sa ∨ q = ea ∨ q = ou
theorem and15 (x : Int32) : ∃ u, u < 16 ∧ x &&& nI 15 = nI u := by
  refine ⟨x.toBitVec.toNat % 16, Nat.mod_lt _ (by decide), ?_⟩
  apply Int32.toBitVec_inj.mp
  rw [Int32.toBitVec_and]
  apply BitVec.eq_of_toNat_eq
  have h2 : (nI 15).toBitVec.toNat = 15 := by decide
  have h3 : ∀ k, k < 16 → (nI k).toBitVec.toNat = k := by decide +kernel
  rw [BitVec.toNat_and, h2, h3 _ (Nat.mod_lt _ (by decide)), show (15 : Nat) = 2 ^ 4 - 1 from rfl, Nat.and_two_pow_sub_one_eq_mod]
theorem wf_nI {n j : Nat} {k a b c : Int32} (hj : j < 9) (hk : k = nI j) (hw : wfN n j a b c = true) : wf n k a b c = true := by
  subst hk
  unfold wf
  rw [inb_nI hj (by decide), Bool.true_and, nI_clamp (by omega)]
  exact hw
theorem ag_policy {n k n2 n' : Nat} {F F2 : Nat → Bool} {fo fo' : Nat → Int64} {fb fb' : Nat → Int32} {O2 : Nat → Nat → Int64} {k0 a b c0 r th : Int32} {w : Int64} (hn : n ≤ 50) (hfb : ∀ i, i < n → fb i = bI (F i))
    (h1 : (k = 1 ∧ wf n k0 a b c0 = false ∧ n2 = n ∧ F2 = F ∧ O2 = (fun i k => fo (64 * i + k))) ∨ (∃ j, j < 9 ∧ k0 = nI j ∧ wfN n j a b c0 = true ∧ ((k = 2 ∧ 7 ≤ j ∧ F (cl a) = false ∧ n2 = n ∧ F2 = F ∧ O2 = (fun i k => fo (64 * i + k))) ∨ (k = 3 ∧ (7 ≤ j → F (cl a) = true) ∧ n = 50 ∧ n2 = n ∧ F2 = F ∧ O2 = (fun i k => fo (64 * i + k))) ∨ (k = 0 ∧ (7 ≤ j → F (cl a) = true) ∧ n < 50 ∧ w = (nI n).toInt64 ∧ n2 = n + 1 ∧ F2 = (fun i => if i = n then polB j (cl a) (cl b) (cl c0) F else F i) ∧ ∃ g : Nat → Int64, (∀ k, k < 64 → g k = polF j (cl a) (cl b) (cl c0) (fun i k => fo (64 * i + k)) k) ∧ O2 = (fun i => if i = n then g else (fun k => fo (64 * i + k)))))))
    (h2 : (wf n k0 a b c0 = false ∧ th = nI 1 ∧ n' = n ∧ fo' = fo ∧ fb' = fb) ∨ (∃ j, j < 9 ∧ k0 = nI j ∧ wfN n j a b c0 = true ∧ ((7 ≤ j ∧ F (cl a) = false ∧ th = nI 2 ∧ n' = n ∧ fo' = fo ∧ fb' = fb) ∨ ((7 ≤ j → F (cl a) = true) ∧ n = 50 ∧ th = nI 3 ∧ n' = n ∧ fo' = fo ∧ fb' = fb) ∨ ((7 ≤ j → F (cl a) = true) ∧ n < 50 ∧ th = nI 0 ∧ r = nI n ∧ n' = n + 1 ∧ (∀ i, i < 64 * n → fo' i = fo i) ∧ (∀ k, k < 64 → fo' (64 * n + k) = polF j (cl a) (cl b) (cl c0) (fun i k => fo (64 * i + k)) k) ∧ (∀ i, i < n → fb' i = fb i) ∧ fb' n = bI (polB j (cl a) (cl b) (cl c0) F))))) :
    th = nI k ∧ (nI k = 0 → w = r.toInt64) ∧ n2 = n' ∧ n' ≤ 50 ∧ (∀ i, i < n' → fb' i = bI (F2 i)) ∧ ∀ i, i < n' → ∀ k, k < 64 → O2 i k = fo' (64 * i + k) := by
  have hs : ∀ i, i < n → ∀ k, k < 64 → (fun i k => fo (64 * i + k)) i k = fo (64 * i + k) := fun _ _ _ _ => rfl
  rcases h1 with ⟨rfl, a1, rfl, rfl, rfl⟩ | ⟨j, a1, a2, a3, a4⟩ <;> rcases h2 with ⟨b1, b2, rfl, rfl, rfl⟩ | ⟨i, b1, b2, b3, b4⟩
  · exact ⟨b2, fun q => absurd q n1z, rfl, hn, hfb, hs⟩
  · rw [wf_nI b1 b2 b3] at a1
    cases a1
  · rw [wf_nI a1 a2 a3] at b1
    cases b1
  · have e := ieq a1 b1 a2 b2 (by decide)
    subst e
    rcases a4 with ⟨rfl, a4, a5, rfl, rfl, rfl⟩ | ⟨rfl, a4, a5, rfl, rfl, rfl⟩ | ⟨rfl, a4, a5, a6, rfl, rfl, g, a7, rfl⟩ <;> rcases b4 with ⟨b4, b5, b6, rfl, rfl, rfl⟩ | ⟨b4, b5, b6, rfl, rfl, rfl⟩ | ⟨b4, b5, b6, b7, rfl, b8, b9, b10, b11⟩
    · exact ⟨b6, fun q => absurd q n2z, rfl, hn, hfb, hs⟩
    · rw [b4 a4] at a5
      cases a5
    · rw [b4 a4] at a5
      cases a5
    · rw [a4 b4] at b5
      cases b5
    · exact ⟨b6, fun q => absurd q n3z, rfl, hn, hfb, hs⟩
    · omega
    · rw [a4 b4] at b5
      cases b5
    · omega
    · refine ⟨b6, fun _ => by rw [a6, b7], rfl, by omega, fun i hi => ?_, fun i hi k hk => ?_⟩
      · by_cases e : i = n
        · subst e
          simp only [if_true]
          exact b11
        · simp only [e, if_false]
          rw [b10 i (by omega)]
          exact hfb i (by omega)
      · by_cases e : i = n
        · subst e
          simp only [if_true]
          rw [a7 k hk, b9 k hk]
        · simp only [e, if_false]
          exact (b8 _ (by omega)).symm
