set_option maxRecDepth 100000 in
set_option maxHeartbeats 4000000 in
theorem law_walk (l : Launch) (hl9 : l.stackTraces = false) {p : Program} {e : Env} {R : Room} {s : State} {m : MethodId} {args : Array Value} {below : List Frame} {meth : Method} {c : Code} {Q : State → Prop} {G : va_G} {cA : Nat → ClassId} {b L : Nat} {xs : Nat → Int32} (hR : R = { frames := 2048, cells := 601024, slots := 7293034, locals := 84000 }) (hLL : L ≤ 2560) (hav : args = #[Value.ref b]) (hx : p.tables.exec = Jvm.exec) (hb : c.code = cL_law) (hml : c.maxLocals = 8) (hown : s.vm.findClass RL = some m.cls) (htA : ∀ w ∈ ALL, w.before args s = true) (hKN : KN G cA s) (hZ0 : ZZ (fun q => q < s.heap.size) s s.heap) (hNC : NC s) (hX : va_X b L xs s s.heap) (hbl : b < s.heap.size) (hend : ∀ (H : Heap) (ls : Array Slot), W p l e R s m args below meth c H [] 601024 7293034 Q (F0 m 1100 ls [.int 1])) : W p l e R s m args below meth c s.heap [] 0 0 Q (entryFrame m args 8) := by
  have hK := hKN.1
  have hbA : ¬ (fun q => s.heap.size ≤ q) b := Nat.not_le.mpr hbl
  refine pw_entry (vs := [.ref b]) hav (Nat.le_of_ble_eq_true rfl) (fun ls hl => ?_)
  have hl : lv_has ls 8 [(0, .ref b)] := hl
  refine pn_o (ci := 3) (C := RV) (T := TV) (N := 4) (fs := [.null, .null, .int 0, .int 0]) hx hb htA inV tyV tyV_ok hown (htA _ wd39) (htA _ wd40) (htA _ wd26) hK rfl (fun j hj => by rcases (show j = 0 ∨ j = 1 ∨ j = 2 ∨ j = 3 by omega) with rfl | rfl | rfl | rfl <;> rfl) (by rw [hR]; exact Nat.le_of_ble_eq_true rfl) (by rw [hR]; exact Nat.le_of_ble_eq_true rfl) dL_law_0 (fun H1 x ex hvx hz1 hk1 => ?_)
  refine lv_dup hx hb dL_law_3 rfl ?_
  refine pw_call (F := (fun q => s.heap.size ≤ q)) (va_runI (As := []) (rest := [.ref x]) ⟨hx, hb, hml, hown, htA⟩ (c_Vinit l G cA x) (cwI 0 htA (gd_m wd43) rfl rfl rfl (htA _ wd26) (htA _ wd41) (htA _ wd42) rfl (by decide +kernel) (by rw [hR]; exact ⟨Nat.le_of_ble_eq_true rfl, Nat.le_of_ble_eq_true rfl⟩)) (pw_S hKN hvx) rfl rfl hl.1 rfl (lv_room (Nat.le_of_ble_eq_true rfl)) dL_law_4 (by rw [hR]; exact ⟨Nat.le_of_ble_eq_true rfl, Nat.le_of_ble_eq_true rfl⟩)) (fun _ h => by cases h) (fun q h => by subst h; show s.heap.size ≤ _; omega) (fun v9 st9 t9 lc1 h0 ha9 hL hq9 => ?_)
  obtain ⟨hv9, hz2, hk2, pa, rs, lo, hi, g1, g2, g3, g4, hS⟩ := hq9
  cases hv9
  rw [h0] at hz2 hk2 g1 g2 g3 g4
  generalize t9.heap = H2 at hz2 hk2 hS ⊢
  have hS0 := hS (fun _ => false) (fun i k => (fun _ => (0 : Int64)) (64 * i + k)) (fun _ => 0) (fun _ => 0) (fun _ => none) (fun _ => (0, 0, 0))
  clear hS
  have hk20 : ∀ q, q < s.heap.size → H2[q]? = s.heap[q]? := fun q h => (hk2 q (by omega) (by omega)).trans (hk1 q h)
  refine lv_astore_n (lv' := [(1, .ref x), (0, .ref b)]) hx hb dL_law_7 rfl hl (by decide) rfl (fun ls hl => ?_)
  have hz12 := hz1
  refine pn_o (ci := 4) (C := RM) (T := TM) (N := 8) (fs := [.int 0, .null, .null, .int 0, .long 0, .long 0, .null, .null]) hx hb htA inM tyM tyM_ok hown (htA _ wd429) (htA _ wd430) (htA _ wd28) hK rfl (fun j hj => by rcases (show j = 0 ∨ j = 1 ∨ j = 2 ∨ j = 3 ∨ j = 4 ∨ j = 5 ∨ j = 6 ∨ j = 7 by omega) with rfl | rfl | rfl | rfl | rfl | rfl | rfl | rfl <;> rfl) (by rw [hR]; exact Nat.le_of_ble_eq_true rfl) (by rw [hR]; exact Nat.le_of_ble_eq_true rfl) dL_law_8 (fun H3 mo emo hmo hz1 hk1 => ?_)
  have hz3 := hz1
  have hk3 := hk1
  refine lv_dup hx hb dL_law_11 rfl ?_
  refine pw_call (F := (fun q => s.heap.size ≤ q)) (va_runI (As := []) (rest := [.ref mo]) ⟨hx, hb, hml, hown, htA⟩ (m_init l G cA mo) (cwI 0 htA (gd_m wd433) rfl rfl rfl (htA _ wd28) (htA _ wd431) (htA _ wd432) rfl (by decide +kernel) (by rw [hR]; exact ⟨Nat.le_of_ble_eq_true rfl, Nat.le_of_ble_eq_true rfl⟩)) (pw_S hKN hmo) rfl rfl hl.1 rfl (lv_room (Nat.le_of_ble_eq_true rfl)) dL_law_12 (by rw [hR]; exact ⟨Nat.le_of_ble_eq_true rfl, Nat.le_of_ble_eq_true rfl⟩)) hL (fun q h => by subst h; show s.heap.size ≤ _; omega) (fun v9 st9 t9 lc2 h0 ha9 hL hq9 => ?_)
  obtain ⟨hv9, hz4, hk4, ao, af, sa, ea, g5, g6, g7, g8, hA, hm⟩ := hq9
  cases hv9
  rw [h0] at hz4 hk4 g5 g6 g7 g8
  generalize t9.heap = H4 at hz4 hk4 hm ⊢
  refine lv_astore_n (lv' := [(2, .ref mo), (1, .ref x), (0, .ref b)]) hx hb dL_law_15 rfl hl (by decide) rfl (fun ls hl => ?_)
  refine lv_iconst (v := nI 1) hx hb dL_law_16 (by decide) ?_
  refine pn_l hx hb (htA _ wd62) hK 0 rfl (by decide) (by rw [hR]; exact Nat.le_of_ble_eq_true rfl) (by rw [hR]; exact Nat.le_of_ble_eq_true rfl) dL_law_17 (fun H5 ou eou hou hz5 hk5 => ?_)
  refine lv_astore_n (lv' := [(3, .ref ou), (2, .ref mo), (1, .ref x), (0, .ref b)]) hx hb dL_law_19 rfl hl (by decide) rfl (fun ls hl => ?_)
  refine lv_iconst (v := nI 0) hx hb dL_law_20 (by decide) ?_
  refine lv_istore (lv' := [(4, .int (nI 0)), (3, .ref ou), (2, .ref mo), (1, .ref x), (0, .ref b)]) hx hb dL_law_21 hl (by decide) rfl (fun ls hl => ?_)
  obtain ⟨E, hE⟩ : ∃ E, E = EE s.heap.size mo ao af sa ea ou := ⟨_, rfl⟩
  obtain ⟨m1, m2, m3, m4, m5⟩ := hm
  have l1 := ob_lt m1
  have l2 := al_lt m2
  have l3 := ai_lt m3
  have l4 := ai_lt m4
  have l5 := ai_lt m5
  have hmV : mV G cA mo ao af sa ea 0 (fun _ => 0) (fun _ => 0) 0 H5 := ⟨_, _, _, _, ob_k m1 (hk5 _ l1), al_k m2 (hk5 _ l2), ai_k m3 (hk5 _ l3), ai_k m4 (hk5 _ l4), ai_k m5 (hk5 _ l5)⟩
  have hEz : ∀ q, q < s.heap.size → E q := fun q h => by rw [hE]; exact Or.inl h
  have hE_mo : E mo := by rw [hE]; unfold EE; omega
  have hE_ao : E ao := by rw [hE]; unfold EE; omega
  have hE_af : E af := by rw [hE]; unfold EE; omega
  have hE_sa : E sa := by rw [hE]; unfold EE; omega
  have hE_ea : E ea := by rw [hE]; unfold EE; omega
  have hE_ou : E ou := by rw [hE]; unfold EE; omega
  have hEn : ∀ q, ¬ E q → s.heap.size ≤ q ∧ q ≠ mo ∧ q ≠ ao ∧ q ≠ af ∧ q ≠ sa ∧ q ≠ ea ∧ q ≠ ou := fun q h => by rw [hE] at h; unfold EE at h; omega
  have hElt : ∀ q, E q → q < H5.size := fun q h => by rw [hE] at h; unfold EE at h; omega
  obtain ⟨v1, v2, v3, v4, v5, -⟩ := pvS_lt hS0
  have hPV : PVE G cA E x 0 (fun _ => false) (fun i k => (fun _ => (0 : Int64)) (64 * i + k)) H5 := ⟨pa, rs, lo, hi, _, _, _, _, pvS_up hS0 (fun q h => (hk5 q (by omega)).trans ((hk4 q (by omega) (by omega)).trans (hk3 q h))), (fun h => by rw [hE] at h; unfold EE at h; omega), (fun h => by rw [hE] at h; unfold EE at h; omega), (fun h => by rw [hE] at h; unfold EE at h; omega), (fun h => by rw [hE] at h; unfold EE at h; omega), (fun h => by rw [hE] at h; unfold EE at h; omega), fun i h => absurd h (Nat.not_lt_zero i)⟩
  have hk : ∀ q, q < s.heap.size → H5[q]? = s.heap[q]? := fun q h => (hk5 q (by omega)).trans ((hk4 q (by omega) (by omega)).trans ((hk3 q (by omega)).trans (hk20 q h)))
  have hz : s.heap.size ≤ H5.size := by omega
  have n_mo : mo ≠ ou := by omega
  have n_ao : ao ≠ ou := by omega
  have n_af : af ≠ ou := by omega
  have n_sa : sa ≠ ou := by omega
  have n_ea : ea ≠ ou := by omega
  have z_mo : s.heap.size ≤ mo := by omega
  have z_ao : s.heap.size ≤ ao := by omega
  have z_af : s.heap.size ≤ af := by omega
  have z_sa : s.heap.size ≤ sa := by omega
  have z_ea : s.heap.size ≤ ea := by omega
  have z_ou : s.heap.size ≤ ou := by omega
  clear hE m1 m2 m3 m4 m5 l1 l2 l3 l4 l5 v1 v2 v3 v4 v5 hS0 g1 g2 g3 g4 g5 g6 g7 g8 hk1 hk2 hk3 hk4 hk5 hk20 hz1 hz2 hz12 hz3 hz4 hz5 hvx hmo eou ex emo
  have lp : ∀ (k i : Nat) (n : Nat) (F : Nat → Bool) (fo : Nat → Int64) (fb : Nat → Int32) (fu : Nat → Int64) (H8 : Heap) (lc8 : List Loc), i + k = 512 → (n ≤ 50) → (PVE G cA E x n F (fun i k => fo (64 * i + k)) H8) → (∃ th, mV G cA mo ao af sa ea n fo fb th H8) → (al (cA 0) ou 1 fu H8) → (∀ q, q < s.heap.size → H8[q]? = s.heap[q]?) → (s.heap.size ≤ H8.size) → (∀ q, E q → q < H8.size) → (∀ i, i < n → fb i = bI (F i)) → (∀ z ∈ lc8, (fun q => s.heap.size ≤ q) z.base) → ∀ ls : Array Slot, lv_has ls 8 [(0, .ref b), (1, .ref x), (2, .ref mo), (3, .ref ou), (4, .int (nI (5 * i)))] → W p l e R s m args below meth c H8 lc8 (11 + 6 * i) (3571 + 208 * i) Q (F0 m 23 ls []) := by
    intro k
    induction k with
    | zero =>
      intro i n F fo fb fu H8 lc8 hik hn hPV hmV hou hk hz hElt hfb hL ls hl
      have hVS : va_S (fun q => s.heap.size ≤ q) s.heap H8 lc8 := ⟨hz, fun q h1 _ => hk q h1, hL⟩
      refine lv_iload hx hb dL_law_23 (lv_at hl 4 rfl) ?_
      refine lv_aload_n hx hb dL_law_25 rfl (lv_at hl 0 rfl) ?_
      refine va_slen (A := (fun q => s.heap.size ≤ q)) (H0 := s.heap) hx hb hX hbl hbA hVS dL_law_26 ?_
      refine pw_ti (y := nI L) rfl ?_
      refine lv_iconst (v := nI 5) hx hb dL_law_27 (by decide) ?_
      refine lv_isub hx hb dL_law_28 ?_
      refine lv_icmp_gt (tgt := 1099) hx hb dL_law_29 (by decide) (fun _ => ?_) (fun c9 => absurd (Int32.lt_iff_toInt_lt.mpr (by rw [pk_sub_toInt (by omega) (by decide), nI_toInt (by omega)]; omega)) c9)
      refine lv_iconst (v := nI 1) hx hb dL_law_1099 (by decide) ?_
      refine pw_ti (y := 1) (by decide) ?_
      refine va_forget (fun q h => hL q h) ?_
      refine W.widen (k := 601024) (n := 7293034) (by omega) (by omega) ?_
      exact hend H8 ls
    | succ k ih =>
      intro i n F fo fb fu H8 lc8 hik hn hPV hmV hou hk hz hElt hfb hL ls hl
      have hnext : ∀ (n : Nat) (F : Nat → Bool) (fo : Nat → Int64) (fb : Nat → Int32) (fu : Nat → Int64) (H8 : Heap) (lc8 : List Loc) (cc ss : Nat), cc ≤ 11 + 6 * (i + 1) → ss ≤ 3571 + 208 * (i + 1) → (n ≤ 50) → (PVE G cA E x n F (fun i k => fo (64 * i + k)) H8) → (∃ th, mV G cA mo ao af sa ea n fo fb th H8) → (al (cA 0) ou 1 fu H8) → (∀ q, q < s.heap.size → H8[q]? = s.heap[q]?) → (s.heap.size ≤ H8.size) → (∀ q, E q → q < H8.size) → (∀ i, i < n → fb i = bI (F i)) → (∀ z ∈ lc8, (fun q => s.heap.size ≤ q) z.base) → ∀ ls : Array Slot, lv_has ls 8 [(0, .ref b), (1, .ref x), (2, .ref mo), (3, .ref ou), (4, .int (nI (5 * i)))] → W p l e R s m args below meth c H8 lc8 cc ss Q (F0 m 1093 ls []) := by
        intro n F fo fb fu H8 lc8 cc ss hcc hss hn hPV hmV hou hk hz hElt hfb hL ls hl
        refine lv_iinc (v := (nI (5 * i)) + 5) (lv' := [(4, .int ((nI (5 * i)) + 5)), (0, .ref b), (1, .ref x), (2, .ref mo), (3, .ref ou)]) hx hb dL_law_1093 hl (k := 4) rfl rfl (by decide) rfl (fun ls hl => ?_)
        refine lv_goto (tgt := 23) hx hb dL_law_1096 (by decide) ?_
        have e5 : nI (5 * i) + 5 = nI (5 * (i + 1)) := by rw [Nat.mul_add]; exact nI_add (5 * i) 5
        rw [e5] at hl
        refine W.widen (k := 11 + 6 * (i + 1)) (n := 3571 + 208 * (i + 1)) hcc hss ?_
        exact ih (i + 1) n F fo fb fu H8 lc8 (by omega) hn hPV hmV hou hk hz hElt hfb hL ls (lv_sub hl [1, 2, 3, 4, 0] rfl)
      have hVS : va_S (fun q => s.heap.size ≤ q) s.heap H8 lc8 := ⟨hz, fun q h1 _ => hk q h1, hL⟩
      refine lv_iload hx hb dL_law_23 (lv_at hl 4 rfl) ?_
      refine lv_aload_n hx hb dL_law_25 rfl (lv_at hl 0 rfl) ?_
      refine va_slen (A := (fun q => s.heap.size ≤ q)) (H0 := s.heap) hx hb hX hbl hbA hVS dL_law_26 ?_
      refine pw_ti (y := nI L) rfl ?_
      refine lv_iconst (v := nI 5) hx hb dL_law_27 (by decide) ?_
      refine lv_isub hx hb dL_law_28 ?_
      refine lv_icmp_gt (tgt := 1099) hx hb dL_law_29 (by decide) (fun c1 => ?_) (fun c1 => ?_)
      · refine lv_iconst (v := nI 1) hx hb dL_law_1099 (by decide) ?_
        refine pw_ti (y := 1) (by decide) ?_
        refine va_forget (fun q h => hL q h) ?_
        refine W.widen (k := 601024) (n := 7293034) (by omega) (by omega) ?_
        exact hend H8 ls
      · have hin : 5 * i + 5 ≤ L := by apply Classical.byContradiction; intro q; exact c1 (Int32.lt_iff_toInt_lt.mpr (by rw [pk_sub_toInt (by omega) (by decide), nI_toInt (by omega)]; omega))
        obtain ⟨X0, hX0⟩ : ∃ X : Int32, X = xs (nI (5 * i)).toNatClampNeg := ⟨_, rfl⟩
        obtain ⟨X1, hX1⟩ : ∃ X : Int32, X = xs (nI ((5 * i) + 1)).toNatClampNeg := ⟨_, rfl⟩
        obtain ⟨X2, hX2⟩ : ∃ X : Int32, X = xs (nI ((5 * i) + 2)).toNatClampNeg := ⟨_, rfl⟩
        obtain ⟨X3, hX3⟩ : ∃ X : Int32, X = xs (nI ((5 * i) + 3)).toNatClampNeg := ⟨_, rfl⟩
        obtain ⟨X4, hX4⟩ : ∃ X : Int32, X = xs (nI ((5 * i) + 4)).toNatClampNeg := ⟨_, rfl⟩
        refine lv_aload_n hx hb dL_law_32 rfl (lv_at hl 0 rfl) ?_
        refine lv_iload hx hb dL_law_33 (lv_at hl 4 rfl) ?_
        refine va_sld (A := (fun q => s.heap.size ≤ q)) (H0 := s.heap) hx hb hX hbl hbA hVS (vp_in_nI (show (5 * i) < L by omega) (by omega)) dL_law_35 ?_
        refine pw_ti (y := X0) hX0.symm ?_
        refine lv_bipush (v := nI 15) hx hb dL_law_36 (by decide) ?_
        refine lv_iand hx hb dL_law_38 ?_
        obtain ⟨u, hu, hX15⟩ := and15 X0
        refine pw_ti (y := nI u) hX15 ?_
        have hZ : ZZ E s H8 := (ZZ.k hZ0 (fun q h1 h2 => hk q h1)).up hEz
        have hPV0 := hPV
        obtain ⟨pa, rs, lo, hi, po, oc, tb, tc, hS, hN⟩ := hPV0
        have hj9 : u = 0 ∨ u = 1 ∨ u = 2 ∨ u = 3 ∨ u = 4 ∨ u = 5 ∨ u = 6 ∨ u = 7 ∨ u = 8 ∨ u = 9 ∨ u = 10 ∨ u = 11 ∨ u = 12 ∨ u = 13 ∨ u = 14 ∨ u = 15 := by omega
        rcases hj9 with rfl | rfl | rfl | rfl | rfl | rfl | rfl | rfl | rfl | rfl | rfl | rfl | rfl | rfl | rfl | rfl
        · refine lv_tableIn (tgt := 104) (off := 65) hx hb dL_law_39 (by decide +kernel) (by decide +kernel) rfl (by decide) ?_
          refine lv_aload_n hx hb dL_law_104 rfl (lv_at hl 1 rfl) ?_
          refine lv_aload_n hx hb dL_law_105 rfl (lv_at hl 0 rfl) ?_
          refine lv_iload hx hb dL_law_106 (lv_at hl 4 rfl) ?_
          refine lv_iconst (v := nI 1) hx hb dL_law_108 (by decide) ?_
          refine lv_iadd hx hb dL_law_109 ?_
          refine pw_ti (y := nI ((5 * i) + 1)) (nI_add _ _) ?_
          refine va_sld (A := (fun q => s.heap.size ≤ q)) (H0 := s.heap) hx hb hX hbl hbA hVS (vp_in_nI (show ((5 * i) + 1) < L by omega) (by omega)) dL_law_110 ?_
          refine pw_ti (y := X1) hX1.symm ?_
          refine lv_aload_n hx hb dL_law_111 rfl (lv_at hl 0 rfl) ?_
          refine lv_iload hx hb dL_law_112 (lv_at hl 4 rfl) ?_
          refine lv_iconst (v := nI 2) hx hb dL_law_114 (by decide) ?_
          refine lv_iadd hx hb dL_law_115 ?_
          refine pw_ti (y := nI ((5 * i) + 2)) (nI_add _ _) ?_
          refine va_sld (A := (fun q => s.heap.size ≤ q)) (H0 := s.heap) hx hb hX hbl hbA hVS (vp_in_nI (show ((5 * i) + 2) < L by omega) (by omega)) dL_law_116 ?_
          refine pw_ti (y := X2) hX2.symm ?_
          refine lv_aload_n hx hb dL_law_117 rfl (lv_at hl 0 rfl) ?_
          refine lv_iload hx hb dL_law_118 (lv_at hl 4 rfl) ?_
          refine lv_iconst (v := nI 3) hx hb dL_law_120 (by decide) ?_
          refine lv_iadd hx hb dL_law_121 ?_
          refine pw_ti (y := nI ((5 * i) + 3)) (nI_add _ _) ?_
          refine va_sld (A := (fun q => s.heap.size ≤ q)) (H0 := s.heap) hx hb hX hbl hbA hVS (vp_in_nI (show ((5 * i) + 3) < L by omega) (by omega)) dL_law_122 ?_
          refine pw_ti (y := X3) hX3.symm ?_
          refine lv_aload_n hx hb dL_law_123 rfl (lv_at hl 0 rfl) ?_
          refine lv_iload hx hb dL_law_124 (lv_at hl 4 rfl) ?_
          refine lv_iconst (v := nI 4) hx hb dL_law_126 (by decide) ?_
          refine lv_iadd hx hb dL_law_127 ?_
          refine pw_ti (y := nI ((5 * i) + 4)) (nI_add _ _) ?_
          refine va_sld (A := (fun q => s.heap.size ≤ q)) (H0 := s.heap) hx hb hX hbl hbA hVS (vp_in_nI (show ((5 * i) + 4) < L by omega) (by omega)) dL_law_128 ?_
          refine pw_ti (y := X4) hX4.symm ?_
          refine lv_aload_n hx hb dL_law_129 rfl (lv_at hl 3 rfl) ?_
          refine pw_call (F := (fun q => s.heap.size ≤ q)) (vx_runSW (As := [.ref x, .int X1, .int X2, .int X3, .int X4, .ref ou]) (rest := []) ⟨hx, hb, hml, hown, htA⟩ (w_policy l hl9 G cA E x pa rs lo hi n F (fun i k => fo (64 * i + k)) po oc tb tc ou fu X1 X2 X3 X4) (vx_cwSW 6 htA (gw_S wd76 wd77 wd25 wd78) rfl rfl rfl (by decide +kernel) (by rw [hR]; exact ⟨Nat.le_of_ble_eq_true rfl, Nat.le_of_ble_eq_true rfl⟩)) (pn_S hKN hZ hNC ⟨hS, hN, hElt, hE_ou, hou⟩) rfl rfl hl.1 rfl (lv_room (Nat.le_of_ble_eq_true rfl)) dL_law_130 (by rw [hR]; constructor <;> (dsimp only; omega))) hL (fun q h => h.elim (fun h => (hEn q h).1) (fun h => by rw [h]; exact z_ou)) (fun v9 st9 t9 lcA h0 ha9 hL hq9 => ?_)
          obtain ⟨kk, n2, F2, O2, g, hv9, hrel, hPV, hou, hz1, hk1⟩ := hq9
          cases hv9
          rw [h0] at hz1 hk1
          generalize t9.heap = H1 at hPV hou hz1 hk1 ⊢
          have hk : ∀ q, q < s.heap.size → H1[q]? = s.heap[q]? := fun q h => (hk1 q (by omega) (hEz q h) (by omega)).trans (hk q h)
          have hz : s.heap.size ≤ H1.size := by omega
          obtain ⟨th0, hmV⟩ := hmV
          have hmV := mV_k hmV (hk1 mo (hElt _ hE_mo) hE_mo n_mo) (hk1 ao (hElt _ hE_ao) hE_ao n_ao) (hk1 af (hElt _ hE_af) hE_af n_af) (hk1 sa (hElt _ hE_sa) hE_sa n_sa) (hk1 ea (hElt _ hE_ea) hE_ea n_ea)
          have hElt : ∀ q, E q → q < H1.size := fun q h => Nat.lt_of_lt_of_le (hElt q h) hz1
          have hVS : va_S (fun q => s.heap.size ≤ q) s.heap H1 lcA := ⟨hz, fun q h1 _ => hk q h1, hL⟩
          have hmV0 := hmV
          obtain ⟨lw9, hg9, fS9, fE9, hob, -⟩ := hmV0
          refine lv_istore (lv' := [(5, .int (nI kk)), (0, .ref b), (1, .ref x), (2, .ref mo), (3, .ref ou), (4, .int (nI (5 * i)))]) hx hb dL_law_133 hl (by decide) rfl (fun ls hl => ?_)
          refine lv_aload_n hx hb dL_law_135 rfl (lv_at hl 3 rfl) ?_
          refine lv_aload_n hx hb dL_law_136 rfl (lv_at hl 1 rfl) ?_
          refine lv_iload hx hb dL_law_137 (lv_at hl 5 rfl) ?_
          refine lv_iconst (v := nI 1) hx hb dL_law_139 (by decide) ?_
          refine lv_iadd hx hb dL_law_140 ?_
          refine pw_ti (y := nI ((5 * i) + 1)) (nI_add _ _) ?_
          refine va_sld (A := (fun q => s.heap.size ≤ q)) (H0 := s.heap) hx hb hX hbl hbA hVS (vp_in_nI (show ((5 * i) + 1) < L by omega) (by omega)) dL_law_141 ?_
          refine pw_ti (y := X1) hX1.symm ?_
          refine lv_aload_n hx hb dL_law_142 rfl (lv_at hl 1 rfl) ?_
          refine lv_iload hx hb dL_law_143 (lv_at hl 5 rfl) ?_
          refine lv_iconst (v := nI 2) hx hb dL_law_145 (by decide) ?_
          refine lv_iadd hx hb dL_law_146 ?_
          refine pw_ti (y := nI ((5 * i) + 2)) (nI_add _ _) ?_
          refine va_sld (A := (fun q => s.heap.size ≤ q)) (H0 := s.heap) hx hb hX hbl hbA hVS (vp_in_nI (show ((5 * i) + 2) < L by omega) (by omega)) dL_law_147 ?_
          refine pw_ti (y := X2) hX2.symm ?_
          refine lv_aload_n hx hb dL_law_148 rfl (lv_at hl 1 rfl) ?_
          refine lv_iload hx hb dL_law_149 (lv_at hl 5 rfl) ?_
          refine lv_iconst (v := nI 3) hx hb dL_law_151 (by decide) ?_
          refine lv_iadd hx hb dL_law_152 ?_
          refine pw_ti (y := nI ((5 * i) + 3)) (nI_add _ _) ?_
          refine va_sld (A := (fun q => s.heap.size ≤ q)) (H0 := s.heap) hx hb hX hbl hbA hVS (vp_in_nI (show ((5 * i) + 3) < L by omega) (by omega)) dL_law_153 ?_
          refine pw_ti (y := X3) hX3.symm ?_
          refine lv_aload_n hx hb dL_law_154 rfl (lv_at hl 1 rfl) ?_
          refine lv_iload hx hb dL_law_155 (lv_at hl 5 rfl) ?_
          refine lv_iconst (v := nI 4) hx hb dL_law_157 (by decide) ?_
          refine lv_iadd hx hb dL_law_158 ?_
          refine pw_ti (y := nI ((5 * i) + 4)) (nI_add _ _) ?_
          refine va_sld (A := (fun q => s.heap.size ≤ q)) (H0 := s.heap) hx hb hX hbl hbA hVS (vp_in_nI (show ((5 * i) + 4) < L by omega) (by omega)) dL_law_159 ?_
          refine pw_ti (y := X4) hX4.symm ?_
          refine pw_call (F := (fun q => s.heap.size ≤ q)) (va_runV (As := [.int X1, .int X2, .int X3, .int X4]) (rest := []) ⟨hx, hb, hml, hown, htA⟩ (m_policy l G cA mo ao af sa ea n fo fb F X1 X2 X3 X4 hfb) (cwV 4 htA (gd_V wd465 wd466 wd467 wd28 wd468) rfl rfl rfl (by decide +kernel) (by rw [hR]; exact ⟨Nat.le_of_ble_eq_true rfl, Nat.le_of_ble_eq_true rfl⟩)) (pw_V (ci := 4) (q := (RM, TM, 8)) hKN hob rfl ⟨hA, hn, th0, hmV⟩) rfl rfl hl.1 rfl (lv_room (Nat.le_of_ble_eq_true rfl)) dL_law_160 (by rw [hR]; constructor <;> (dsimp only; omega))) hL (fun q h => by rcases h with h | h | h | h | h <;> (rw [h]; assumption)) (fun v9 st9 t9 lcB h0 ha9 hL hq9 => ?_)
          obtain ⟨r, th, n', fo', fb', hv9, hrm, hmV, hz2, hk2⟩ := hq9
          cases hv9
          rw [h0] at hz2 hk2
          generalize t9.heap = H2 at hmV hz2 hk2 ⊢
          have hPV := PVE_k hPV (fun q h1 h2 => hk2 q (hEn q h2).2.1 (hEn q h2).2.2.1 (hEn q h2).2.2.2.1 (hEn q h2).2.2.2.2.1 (hEn q h2).2.2.2.2.2.1)
          have hou := al_k hou (hk2 ou (Ne.symm n_mo) (Ne.symm n_ao) (Ne.symm n_af) (Ne.symm n_sa) (Ne.symm n_ea))
          have hk : ∀ q, q < s.heap.size → H2[q]? = s.heap[q]? := fun q h => (hk2 q (by omega) (by omega) (by omega) (by omega) (by omega)).trans (hk q h)
          have hz : s.heap.size ≤ H2.size := by omega
          have hElt : ∀ q, E q → q < H2.size := fun q h => by rw [hz2]; exact hElt q h
          have hmV0 := hmV
          obtain ⟨lw8, hg8, fS8, fE8, hob, -⟩ := hmV0
          refine lv_istore (lv' := [(6, .int r), (5, .int (nI kk)), (0, .ref b), (1, .ref x), (2, .ref mo), (3, .ref ou), (4, .int (nI (5 * i)))]) hx hb dL_law_163 hl (by decide) rfl (fun ls hl => ?_)
          refine lv_aload_n hx hb dL_law_165 rfl (lv_at hl 4 rfl) ?_
          refine vp_callSi (va_Run.run (va_runV (As := []) (rest := []) ⟨hx, hb, hml, hown, htA⟩ (m_thrown l G cA mo (mF th ao af n' lw8 hg8 sa ea) th rfl) (cwV 0 htA (gd_V wd461 wd462 wd463 wd28 wd464) rfl rfl rfl (by decide +kernel) (by rw [hR]; exact ⟨Nat.le_of_ble_eq_true rfl, Nat.le_of_ble_eq_true rfl⟩)) (pw_V (ci := 4) (q := (RM, TM, 8)) hKN hob rfl hob) rfl rfl hl.1 rfl (lv_room (Nat.le_of_ble_eq_true rfl)) dL_law_166 (by rw [hR]; constructor <;> (dsimp only; omega)))) (fun r9 hr9 => ?_)
          subst hr9
          obtain ⟨hth, hres, hn2, hn', hfb2, hO2⟩ := ag_policy hn hfb hrel hrm
          subst hn2
          have hPV := PVE_ext (F' := F2) (O' := fun i k => fo' (64 * i + k)) hPV (fun _ _ => rfl) hO2
          refine lv_iload hx hb dL_law_169 (lv_at hl 1 rfl) ?_
          refine lv_icmp_eq (tgt := 176) hx hb dL_law_171 (by decide) (fun _ => ?_) (fun c9 => absurd hth c9)
          refine lv_iload hx hb dL_law_176 (lv_at hl 1 rfl) ?_
          refine lv_if_ne (tgt := 193) hx hb dL_law_178 (by decide) (fun c2 => ?_) (fun c2 => ?_)
          · refine lv_goto (tgt := 1093) hx hb dL_law_193 (by decide) ?_
            exact hnext n2 F2 fo' fb' g H2 lcB _ _ (by omega) (by omega) hn' hPV ⟨_, hmV⟩ hou hk hz hElt hfb2 hL ls (lv_sub hl [2, 3, 4, 5, 6] rfl)
          · refine lv_aload_n hx hb dL_law_181 rfl (lv_at hl 5 rfl) ?_
            refine lv_iconst (v := nI 0) hx hb dL_law_182 (by decide) ?_
            refine pw_lald hx hb hK hou 0 rfl (show 0 < 1 by decide) (by decide) dL_law_183 ?_
            refine lv_iload hx hb dL_law_184 (lv_at hl 0 rfl) ?_
            refine lv_i2l hx hb dL_law_186 rfl ?_
            refine W.lcmp hx hb dL_law_187 ?_
            refine lv_if_eq (tgt := 193) hx hb dL_law_188 (by decide) (fun _ => ?_) (fun c9 => absurd ((cmp0 _ _).mpr (hres c2)) c9)
            refine lv_goto (tgt := 1093) hx hb dL_law_193 (by decide) ?_
            exact hnext n2 F2 fo' fb' g H2 lcB _ _ (by omega) (by omega) hn' hPV ⟨_, hmV⟩ hou hk hz hElt hfb2 hL ls (lv_sub hl [2, 3, 4, 5, 6] rfl)
        · refine lv_tableIn (tgt := 196) (off := 157) hx hb dL_law_39 (by decide +kernel) (by decide +kernel) rfl (by decide) ?_
          refine lv_aload_n hx hb dL_law_196 rfl (lv_at hl 1 rfl) ?_
          refine lv_aload_n hx hb dL_law_197 rfl (lv_at hl 0 rfl) ?_
          refine lv_iload hx hb dL_law_198 (lv_at hl 4 rfl) ?_
          refine lv_iconst (v := nI 1) hx hb dL_law_200 (by decide) ?_
          refine lv_iadd hx hb dL_law_201 ?_
          refine pw_ti (y := nI ((5 * i) + 1)) (nI_add _ _) ?_
          refine va_sld (A := (fun q => s.heap.size ≤ q)) (H0 := s.heap) hx hb hX hbl hbA hVS (vp_in_nI (show ((5 * i) + 1) < L by omega) (by omega)) dL_law_202 ?_
          refine pw_ti (y := X1) hX1.symm ?_
          refine lv_aload_n hx hb dL_law_203 rfl (lv_at hl 0 rfl) ?_
          refine lv_iload hx hb dL_law_204 (lv_at hl 4 rfl) ?_
          refine lv_iconst (v := nI 2) hx hb dL_law_206 (by decide) ?_
          refine lv_iadd hx hb dL_law_207 ?_
          refine pw_ti (y := nI ((5 * i) + 2)) (nI_add _ _) ?_
          refine va_sld (A := (fun q => s.heap.size ≤ q)) (H0 := s.heap) hx hb hX hbl hbA hVS (vp_in_nI (show ((5 * i) + 2) < L by omega) (by omega)) dL_law_208 ?_
          refine pw_ti (y := X2) hX2.symm ?_
          refine lv_aload_n hx hb dL_law_209 rfl (lv_at hl 3 rfl) ?_
          refine pw_call (F := (fun q => s.heap.size ≤ q)) (vx_runSW (As := [.ref x, .int X1, .int X2, .ref ou]) (rest := []) ⟨hx, hb, hml, hown, htA⟩ (w_outcome l hl9 G cA E x pa rs lo hi n F (fun i k => fo (64 * i + k)) po oc tb tc ou fu X1 X2) (vx_cwSW 4 htA (gw_S wd257 wd258 wd25 wd259) rfl rfl rfl (by decide +kernel) (by rw [hR]; exact ⟨Nat.le_of_ble_eq_true rfl, Nat.le_of_ble_eq_true rfl⟩)) (pn_S hKN hZ hNC ⟨hS, hN, hElt, hE_ou, hou⟩) rfl rfl hl.1 rfl (lv_room (Nat.le_of_ble_eq_true rfl)) dL_law_210 (by rw [hR]; constructor <;> (dsimp only; omega))) hL (fun q h => h.elim (fun h => (hEn q h).1) (fun h => by rw [h]; exact z_ou)) (fun v9 st9 t9 lcA h0 ha9 hL hq9 => ?_)
          obtain ⟨kk, n2, F2, O2, g, hv9, hrel, hPV, hou, hz1, hk1⟩ := hq9
          cases hv9
          rw [h0] at hz1 hk1
          generalize t9.heap = H1 at hPV hou hz1 hk1 ⊢
          obtain ⟨hrel, e1, e2, e3⟩ := hrel
          rw [e1, e2, e3] at hPV
          have hk : ∀ q, q < s.heap.size → H1[q]? = s.heap[q]? := fun q h => (hk1 q (by omega) (hEz q h) (by omega)).trans (hk q h)
          have hz : s.heap.size ≤ H1.size := by omega
          obtain ⟨th0, hmV⟩ := hmV
          have hmV := mV_k hmV (hk1 mo (hElt _ hE_mo) hE_mo n_mo) (hk1 ao (hElt _ hE_ao) hE_ao n_ao) (hk1 af (hElt _ hE_af) hE_af n_af) (hk1 sa (hElt _ hE_sa) hE_sa n_sa) (hk1 ea (hElt _ hE_ea) hE_ea n_ea)
          have hElt : ∀ q, E q → q < H1.size := fun q h => Nat.lt_of_lt_of_le (hElt q h) hz1
          have hVS : va_S (fun q => s.heap.size ≤ q) s.heap H1 lcA := ⟨hz, fun q h1 _ => hk q h1, hL⟩
          have hmV0 := hmV
          obtain ⟨lw9, hg9, fS9, fE9, hob, -⟩ := hmV0
          refine lv_istore (lv' := [(5, .int (nI kk)), (0, .ref b), (1, .ref x), (2, .ref mo), (3, .ref ou), (4, .int (nI (5 * i)))]) hx hb dL_law_213 hl (by decide) rfl (fun ls hl => ?_)
          refine lv_aload_n hx hb dL_law_215 rfl (lv_at hl 3 rfl) ?_
          refine lv_aload_n hx hb dL_law_216 rfl (lv_at hl 1 rfl) ?_
          refine lv_iload hx hb dL_law_217 (lv_at hl 5 rfl) ?_
          refine lv_iconst (v := nI 1) hx hb dL_law_219 (by decide) ?_
          refine lv_iadd hx hb dL_law_220 ?_
          refine pw_ti (y := nI ((5 * i) + 1)) (nI_add _ _) ?_
          refine va_sld (A := (fun q => s.heap.size ≤ q)) (H0 := s.heap) hx hb hX hbl hbA hVS (vp_in_nI (show ((5 * i) + 1) < L by omega) (by omega)) dL_law_221 ?_
          refine pw_ti (y := X1) hX1.symm ?_
          refine lv_aload_n hx hb dL_law_222 rfl (lv_at hl 1 rfl) ?_
          refine lv_iload hx hb dL_law_223 (lv_at hl 5 rfl) ?_
          refine lv_iconst (v := nI 2) hx hb dL_law_225 (by decide) ?_
          refine lv_iadd hx hb dL_law_226 ?_
          refine pw_ti (y := nI ((5 * i) + 2)) (nI_add _ _) ?_
          refine va_sld (A := (fun q => s.heap.size ≤ q)) (H0 := s.heap) hx hb hX hbl hbA hVS (vp_in_nI (show ((5 * i) + 2) < L by omega) (by omega)) dL_law_227 ?_
          refine pw_ti (y := X2) hX2.symm ?_
          refine pw_call (F := (fun q => s.heap.size ≤ q)) (va_runV (As := [.int X1, .int X2]) (rest := []) ⟨hx, hb, hml, hown, htA⟩ (m_outcome l G cA mo ao af sa ea n fo fb X1 X2) (cwV 2 htA (gd_V wd506 wd507 wd508 wd28 wd509) rfl rfl rfl (by decide +kernel) (by rw [hR]; exact ⟨Nat.le_of_ble_eq_true rfl, Nat.le_of_ble_eq_true rfl⟩)) (pw_V (ci := 4) (q := (RM, TM, 8)) hKN hob rfl ⟨hA, hn, th0, hmV⟩) rfl rfl hl.1 rfl (lv_room (Nat.le_of_ble_eq_true rfl)) dL_law_228 (by rw [hR]; constructor <;> (dsimp only; omega))) hL (fun q h => by rcases h with h | h | h <;> (rw [h]; assumption)) (fun v9 st9 t9 lcB h0 ha9 hL hq9 => ?_)
          obtain ⟨r, th, hv9, hrm, hmV, hz2, hk2⟩ := hq9
          cases hv9
          rw [h0] at hz2 hk2
          generalize t9.heap = H2 at hmV hz2 hk2 ⊢
          have hPV := PVE_k hPV (fun q h1 h2 => hk2 q (hEn q h2).2.1 (hEn q h2).2.2.2.2.1 (hEn q h2).2.2.2.2.2.1)
          have hou := al_k hou (hk2 ou (Ne.symm n_mo) (Ne.symm n_sa) (Ne.symm n_ea))
          have hk : ∀ q, q < s.heap.size → H2[q]? = s.heap[q]? := fun q h => (hk2 q (by omega) (by omega) (by omega)).trans (hk q h)
          have hz : s.heap.size ≤ H2.size := by omega
          have hElt : ∀ q, E q → q < H2.size := fun q h => by rw [hz2]; exact hElt q h
          have hmV0 := hmV
          obtain ⟨lw8, hg8, fS8, fE8, hob, -⟩ := hmV0
          refine lv_lstore (lv' := [(6, .long r), (5, .int (nI kk)), (0, .ref b), (1, .ref x), (2, .ref mo), (3, .ref ou), (4, .int (nI (5 * i)))]) hx hb dL_law_231 hl (by decide) rfl (fun ls hl => ?_)
          refine lv_aload_n hx hb dL_law_233 rfl (lv_at hl 4 rfl) ?_
          refine vp_callSi (va_Run.run (va_runV (As := []) (rest := []) ⟨hx, hb, hml, hown, htA⟩ (m_thrown l G cA mo (mF th ao af n lw8 hg8 sa ea) th rfl) (cwV 0 htA (gd_V wd461 wd462 wd463 wd28 wd464) rfl rfl rfl (by decide +kernel) (by rw [hR]; exact ⟨Nat.le_of_ble_eq_true rfl, Nat.le_of_ble_eq_true rfl⟩)) (pw_V (ci := 4) (q := (RM, TM, 8)) hKN hob rfl hob) rfl rfl hl.1 rfl (lv_room (Nat.le_of_ble_eq_true rfl)) dL_law_234 (by rw [hR]; constructor <;> (dsimp only; omega)))) (fun r9 hr9 => ?_)
          subst hr9
          obtain ⟨hth, hres⟩ := ag_outcome (O := (fun i k => fo (64 * i + k))) hn hrel hrm
          refine lv_iload hx hb dL_law_237 (lv_at hl 1 rfl) ?_
          refine lv_icmp_eq (tgt := 244) hx hb dL_law_239 (by decide) (fun _ => ?_) (fun c9 => absurd hth c9)
          refine lv_iload hx hb dL_law_244 (lv_at hl 1 rfl) ?_
          refine lv_if_ne (tgt := 260) hx hb dL_law_246 (by decide) (fun c2 => ?_) (fun c2 => ?_)
          · refine lv_goto (tgt := 1093) hx hb dL_law_260 (by decide) ?_
            exact hnext n F fo fb g H2 lcB _ _ (by omega) (by omega) hn hPV ⟨_, hmV⟩ hou hk hz hElt hfb hL ls (lv_sub hl [2, 3, 4, 5, 6] rfl)
          · refine lv_aload_n hx hb dL_law_249 rfl (lv_at hl 5 rfl) ?_
            refine lv_iconst (v := nI 0) hx hb dL_law_250 (by decide) ?_
            refine pw_lald hx hb hK hou 0 rfl (show 0 < 1 by decide) (by decide) dL_law_251 ?_
            refine lv_lload hx hb dL_law_252 (lv_at hl 0 rfl) ?_
            refine W.lcmp hx hb dL_law_254 ?_
            refine lv_if_eq (tgt := 260) hx hb dL_law_255 (by decide) (fun _ => ?_) (fun c9 => absurd ((cmp0 _ _).mpr (hres c2)) c9)
            refine lv_goto (tgt := 1093) hx hb dL_law_260 (by decide) ?_
            exact hnext n F fo fb g H2 lcB _ _ (by omega) (by omega) hn hPV ⟨_, hmV⟩ hou hk hz hElt hfb hL ls (lv_sub hl [2, 3, 4, 5, 6] rfl)
        · refine lv_tableIn (tgt := 263) (off := 224) hx hb dL_law_39 (by decide +kernel) (by decide +kernel) rfl (by decide) ?_
          refine lv_aload_n hx hb dL_law_263 rfl (lv_at hl 1 rfl) ?_
          refine lv_aload_n hx hb dL_law_264 rfl (lv_at hl 0 rfl) ?_
          refine lv_iload hx hb dL_law_265 (lv_at hl 4 rfl) ?_
          refine lv_iconst (v := nI 1) hx hb dL_law_267 (by decide) ?_
          refine lv_iadd hx hb dL_law_268 ?_
          refine pw_ti (y := nI ((5 * i) + 1)) (nI_add _ _) ?_
          refine va_sld (A := (fun q => s.heap.size ≤ q)) (H0 := s.heap) hx hb hX hbl hbA hVS (vp_in_nI (show ((5 * i) + 1) < L by omega) (by omega)) dL_law_269 ?_
          refine pw_ti (y := X1) hX1.symm ?_
          refine lv_aload_n hx hb dL_law_270 rfl (lv_at hl 0 rfl) ?_
          refine lv_iload hx hb dL_law_271 (lv_at hl 4 rfl) ?_
          refine lv_iconst (v := nI 2) hx hb dL_law_273 (by decide) ?_
          refine lv_iadd hx hb dL_law_274 ?_
          refine pw_ti (y := nI ((5 * i) + 2)) (nI_add _ _) ?_
          refine va_sld (A := (fun q => s.heap.size ≤ q)) (H0 := s.heap) hx hb hX hbl hbA hVS (vp_in_nI (show ((5 * i) + 2) < L by omega) (by omega)) dL_law_275 ?_
          refine pw_ti (y := X2) hX2.symm ?_
          refine lv_i2l hx hb dL_law_276 rfl ?_
          refine lv_bipush (v := nI 32) hx hb dL_law_277 (by decide) ?_
          refine lv_lshl hx hb dL_law_279 rfl ?_
          refine lv_aload_n hx hb dL_law_280 rfl (lv_at hl 0 rfl) ?_
          refine lv_iload hx hb dL_law_281 (lv_at hl 4 rfl) ?_
          refine lv_iconst (v := nI 3) hx hb dL_law_283 (by decide) ?_
          refine lv_iadd hx hb dL_law_284 ?_
          refine pw_ti (y := nI ((5 * i) + 3)) (nI_add _ _) ?_
          refine va_sld (A := (fun q => s.heap.size ≤ q)) (H0 := s.heap) hx hb hX hbl hbA hVS (vp_in_nI (show ((5 * i) + 3) < L by omega) (by omega)) dL_law_285 ?_
          refine pw_ti (y := X3) hX3.symm ?_
          refine lv_i2l hx hb dL_law_286 rfl ?_
          refine lv_ldc2 hx hb hown (htA _ wd577) dL_law_287 ?_
          refine lv_land hx hb dL_law_290 ?_
          refine lv_lor hx hb dL_law_291 ?_
          obtain ⟨ZL, hZL⟩ : ∃ Z : Int64, Z = (X2.toInt64 <<< ((nI 32).toInt64 &&& 63)) ||| (X3.toInt64 &&& 4294967295) := ⟨_, rfl⟩
          refine pw_tl (y := ZL) hZL.symm ?_
          refine lv_aload_n hx hb dL_law_292 rfl (lv_at hl 3 rfl) ?_
          refine pw_call (F := (fun q => s.heap.size ≤ q)) (vx_runSW (As := [.ref x, .int X1, .long ZL, .ref ou]) (rest := []) ⟨hx, hb, hml, hown, htA⟩ (w_image l hl9 G cA E x pa rs lo hi n F (fun i k => fo (64 * i + k)) po oc tb tc ou fu X1 ZL) (vx_cwSW 4 htA (gw_S wd287 wd288 wd25 wd289) rfl rfl rfl (by decide +kernel) (by rw [hR]; exact ⟨Nat.le_of_ble_eq_true rfl, Nat.le_of_ble_eq_true rfl⟩)) (pn_S hKN hZ hNC ⟨hS, hN, hElt, hE_ou, hou⟩) rfl rfl hl.1 rfl (lv_room (Nat.le_of_ble_eq_true rfl)) dL_law_293 (by rw [hR]; constructor <;> (dsimp only; omega))) hL (fun q h => h.elim (fun h => (hEn q h).1) (fun h => by rw [h]; exact z_ou)) (fun v9 st9 t9 lcA h0 ha9 hL hq9 => ?_)
          obtain ⟨kk, n2, F2, O2, g, hv9, hrel, hPV, hou, hz1, hk1⟩ := hq9
          cases hv9
          rw [h0] at hz1 hk1
          generalize t9.heap = H1 at hPV hou hz1 hk1 ⊢
          obtain ⟨hrel, e1, e2, e3⟩ := hrel
          rw [e1, e2, e3] at hPV
          have hk : ∀ q, q < s.heap.size → H1[q]? = s.heap[q]? := fun q h => (hk1 q (by omega) (hEz q h) (by omega)).trans (hk q h)
          have hz : s.heap.size ≤ H1.size := by omega
          obtain ⟨th0, hmV⟩ := hmV
          have hmV := mV_k hmV (hk1 mo (hElt _ hE_mo) hE_mo n_mo) (hk1 ao (hElt _ hE_ao) hE_ao n_ao) (hk1 af (hElt _ hE_af) hE_af n_af) (hk1 sa (hElt _ hE_sa) hE_sa n_sa) (hk1 ea (hElt _ hE_ea) hE_ea n_ea)
          have hElt : ∀ q, E q → q < H1.size := fun q h => Nat.lt_of_lt_of_le (hElt q h) hz1
          have hVS : va_S (fun q => s.heap.size ≤ q) s.heap H1 lcA := ⟨hz, fun q h1 _ => hk q h1, hL⟩
          have hmV0 := hmV
          obtain ⟨lw9, hg9, fS9, fE9, hob, -⟩ := hmV0
          refine lv_istore (lv' := [(5, .int (nI kk)), (0, .ref b), (1, .ref x), (2, .ref mo), (3, .ref ou), (4, .int (nI (5 * i)))]) hx hb dL_law_296 hl (by decide) rfl (fun ls hl => ?_)
          refine lv_aload_n hx hb dL_law_298 rfl (lv_at hl 3 rfl) ?_
          refine lv_aload_n hx hb dL_law_299 rfl (lv_at hl 1 rfl) ?_
          refine lv_iload hx hb dL_law_300 (lv_at hl 5 rfl) ?_
          refine lv_iconst (v := nI 1) hx hb dL_law_302 (by decide) ?_
          refine lv_iadd hx hb dL_law_303 ?_
          refine pw_ti (y := nI ((5 * i) + 1)) (nI_add _ _) ?_
          refine va_sld (A := (fun q => s.heap.size ≤ q)) (H0 := s.heap) hx hb hX hbl hbA hVS (vp_in_nI (show ((5 * i) + 1) < L by omega) (by omega)) dL_law_304 ?_
          refine pw_ti (y := X1) hX1.symm ?_
          refine lv_aload_n hx hb dL_law_305 rfl (lv_at hl 1 rfl) ?_
          refine lv_iload hx hb dL_law_306 (lv_at hl 5 rfl) ?_
          refine lv_iconst (v := nI 2) hx hb dL_law_308 (by decide) ?_
          refine lv_iadd hx hb dL_law_309 ?_
          refine pw_ti (y := nI ((5 * i) + 2)) (nI_add _ _) ?_
          refine va_sld (A := (fun q => s.heap.size ≤ q)) (H0 := s.heap) hx hb hX hbl hbA hVS (vp_in_nI (show ((5 * i) + 2) < L by omega) (by omega)) dL_law_310 ?_
          refine pw_ti (y := X2) hX2.symm ?_
          refine lv_i2l hx hb dL_law_311 rfl ?_
          refine lv_bipush (v := nI 32) hx hb dL_law_312 (by decide) ?_
          refine lv_lshl hx hb dL_law_314 rfl ?_
          refine lv_aload_n hx hb dL_law_315 rfl (lv_at hl 1 rfl) ?_
          refine lv_iload hx hb dL_law_316 (lv_at hl 5 rfl) ?_
          refine lv_iconst (v := nI 3) hx hb dL_law_318 (by decide) ?_
          refine lv_iadd hx hb dL_law_319 ?_
          refine pw_ti (y := nI ((5 * i) + 3)) (nI_add _ _) ?_
          refine va_sld (A := (fun q => s.heap.size ≤ q)) (H0 := s.heap) hx hb hX hbl hbA hVS (vp_in_nI (show ((5 * i) + 3) < L by omega) (by omega)) dL_law_320 ?_
          refine pw_ti (y := X3) hX3.symm ?_
          refine lv_i2l hx hb dL_law_321 rfl ?_
          refine lv_ldc2 hx hb hown (htA _ wd577) dL_law_322 ?_
          refine lv_land hx hb dL_law_325 ?_
          refine lv_lor hx hb dL_law_326 ?_
          refine pw_tl (y := ZL) hZL.symm ?_
          refine pw_call (F := (fun q => s.heap.size ≤ q)) (va_runV (As := [.int X1, .long ZL]) (rest := []) ⟨hx, hb, hml, hown, htA⟩ (m_image l G cA mo ao af sa ea n fo fb X1 ZL) (cwV 2 htA (gd_V wd510 wd511 wd512 wd28 wd513) rfl rfl rfl (by decide +kernel) (by rw [hR]; exact ⟨Nat.le_of_ble_eq_true rfl, Nat.le_of_ble_eq_true rfl⟩)) (pw_V (ci := 4) (q := (RM, TM, 8)) hKN hob rfl ⟨hA, hn, th0, hmV⟩) rfl rfl hl.1 rfl (lv_room (Nat.le_of_ble_eq_true rfl)) dL_law_327 (by rw [hR]; constructor <;> (dsimp only; omega))) hL (fun q h => by rcases h with h | h | h <;> (rw [h]; assumption)) (fun v9 st9 t9 lcB h0 ha9 hL hq9 => ?_)
          obtain ⟨r, th, hv9, hrm, hmV, hz2, hk2⟩ := hq9
          cases hv9
          rw [h0] at hz2 hk2
          generalize t9.heap = H2 at hmV hz2 hk2 ⊢
          have hPV := PVE_k hPV (fun q h1 h2 => hk2 q (hEn q h2).2.1 (hEn q h2).2.2.2.2.1 (hEn q h2).2.2.2.2.2.1)
          have hou := al_k hou (hk2 ou (Ne.symm n_mo) (Ne.symm n_sa) (Ne.symm n_ea))
          have hk : ∀ q, q < s.heap.size → H2[q]? = s.heap[q]? := fun q h => (hk2 q (by omega) (by omega) (by omega)).trans (hk q h)
          have hz : s.heap.size ≤ H2.size := by omega
          have hElt : ∀ q, E q → q < H2.size := fun q h => by rw [hz2]; exact hElt q h
          have hmV0 := hmV
          obtain ⟨lw8, hg8, fS8, fE8, hob, -⟩ := hmV0
          refine lv_lstore (lv' := [(6, .long r), (5, .int (nI kk)), (0, .ref b), (1, .ref x), (2, .ref mo), (3, .ref ou), (4, .int (nI (5 * i)))]) hx hb dL_law_330 hl (by decide) rfl (fun ls hl => ?_)
          refine lv_aload_n hx hb dL_law_332 rfl (lv_at hl 4 rfl) ?_
          refine vp_callSi (va_Run.run (va_runV (As := []) (rest := []) ⟨hx, hb, hml, hown, htA⟩ (m_thrown l G cA mo (mF th ao af n lw8 hg8 sa ea) th rfl) (cwV 0 htA (gd_V wd461 wd462 wd463 wd28 wd464) rfl rfl rfl (by decide +kernel) (by rw [hR]; exact ⟨Nat.le_of_ble_eq_true rfl, Nat.le_of_ble_eq_true rfl⟩)) (pw_V (ci := 4) (q := (RM, TM, 8)) hKN hob rfl hob) rfl rfl hl.1 rfl (lv_room (Nat.le_of_ble_eq_true rfl)) dL_law_333 (by rw [hR]; constructor <;> (dsimp only; omega)))) (fun r9 hr9 => ?_)
          subst hr9
          obtain ⟨hth, hres⟩ := ag_one (P := fun a w => w = gf (fun k => fo (64 * a + k)) ZL 64) hn (fun a x y _ q1 q2 => q1.trans q2.symm) hrel hrm
          refine lv_iload hx hb dL_law_336 (lv_at hl 1 rfl) ?_
          refine lv_icmp_eq (tgt := 343) hx hb dL_law_338 (by decide) (fun _ => ?_) (fun c9 => absurd hth c9)
          refine lv_iload hx hb dL_law_343 (lv_at hl 1 rfl) ?_
          refine lv_if_ne (tgt := 359) hx hb dL_law_345 (by decide) (fun c2 => ?_) (fun c2 => ?_)
          · refine lv_goto (tgt := 1093) hx hb dL_law_359 (by decide) ?_
            exact hnext n F fo fb g H2 lcB _ _ (by omega) (by omega) hn hPV ⟨_, hmV⟩ hou hk hz hElt hfb hL ls (lv_sub hl [2, 3, 4, 5, 6] rfl)
          · refine lv_aload_n hx hb dL_law_348 rfl (lv_at hl 5 rfl) ?_
            refine lv_iconst (v := nI 0) hx hb dL_law_349 (by decide) ?_
            refine pw_lald hx hb hK hou 0 rfl (show 0 < 1 by decide) (by decide) dL_law_350 ?_
            refine lv_lload hx hb dL_law_351 (lv_at hl 0 rfl) ?_
            refine W.lcmp hx hb dL_law_353 ?_
            refine lv_if_eq (tgt := 359) hx hb dL_law_354 (by decide) (fun _ => ?_) (fun c9 => absurd ((cmp0 _ _).mpr (hres c2)) c9)
            refine lv_goto (tgt := 1093) hx hb dL_law_359 (by decide) ?_
            exact hnext n F fo fb g H2 lcB _ _ (by omega) (by omega) hn hPV ⟨_, hmV⟩ hou hk hz hElt hfb hL ls (lv_sub hl [2, 3, 4, 5, 6] rfl)
        · refine lv_tableIn (tgt := 362) (off := 323) hx hb dL_law_39 (by decide +kernel) (by decide +kernel) rfl (by decide) ?_
          refine lv_aload_n hx hb dL_law_362 rfl (lv_at hl 1 rfl) ?_
          refine lv_aload_n hx hb dL_law_363 rfl (lv_at hl 0 rfl) ?_
          refine lv_iload hx hb dL_law_364 (lv_at hl 4 rfl) ?_
          refine lv_iconst (v := nI 1) hx hb dL_law_366 (by decide) ?_
          refine lv_iadd hx hb dL_law_367 ?_
          refine pw_ti (y := nI ((5 * i) + 1)) (nI_add _ _) ?_
          refine va_sld (A := (fun q => s.heap.size ≤ q)) (H0 := s.heap) hx hb hX hbl hbA hVS (vp_in_nI (show ((5 * i) + 1) < L by omega) (by omega)) dL_law_368 ?_
          refine pw_ti (y := X1) hX1.symm ?_
          refine lv_aload_n hx hb dL_law_369 rfl (lv_at hl 0 rfl) ?_
          refine lv_iload hx hb dL_law_370 (lv_at hl 4 rfl) ?_
          refine lv_iconst (v := nI 2) hx hb dL_law_372 (by decide) ?_
          refine lv_iadd hx hb dL_law_373 ?_
          refine pw_ti (y := nI ((5 * i) + 2)) (nI_add _ _) ?_
          refine va_sld (A := (fun q => s.heap.size ≤ q)) (H0 := s.heap) hx hb hX hbl hbA hVS (vp_in_nI (show ((5 * i) + 2) < L by omega) (by omega)) dL_law_374 ?_
          refine pw_ti (y := X2) hX2.symm ?_
          refine lv_i2l hx hb dL_law_375 rfl ?_
          refine lv_bipush (v := nI 32) hx hb dL_law_376 (by decide) ?_
          refine lv_lshl hx hb dL_law_378 rfl ?_
          refine lv_aload_n hx hb dL_law_379 rfl (lv_at hl 0 rfl) ?_
          refine lv_iload hx hb dL_law_380 (lv_at hl 4 rfl) ?_
          refine lv_iconst (v := nI 3) hx hb dL_law_382 (by decide) ?_
          refine lv_iadd hx hb dL_law_383 ?_
          refine pw_ti (y := nI ((5 * i) + 3)) (nI_add _ _) ?_
          refine va_sld (A := (fun q => s.heap.size ≤ q)) (H0 := s.heap) hx hb hX hbl hbA hVS (vp_in_nI (show ((5 * i) + 3) < L by omega) (by omega)) dL_law_384 ?_
          refine pw_ti (y := X3) hX3.symm ?_
          refine lv_i2l hx hb dL_law_385 rfl ?_
          refine lv_ldc2 hx hb hown (htA _ wd577) dL_law_386 ?_
          refine lv_land hx hb dL_law_389 ?_
          refine lv_lor hx hb dL_law_390 ?_
          obtain ⟨ZL, hZL⟩ : ∃ Z : Int64, Z = (X2.toInt64 <<< ((nI 32).toInt64 &&& 63)) ||| (X3.toInt64 &&& 4294967295) := ⟨_, rfl⟩
          refine pw_tl (y := ZL) hZL.symm ?_
          refine lv_aload_n hx hb dL_law_391 rfl (lv_at hl 3 rfl) ?_
          refine pw_call (F := (fun q => s.heap.size ≤ q)) (vx_runSW (As := [.ref x, .int X1, .long ZL, .ref ou]) (rest := []) ⟨hx, hb, hml, hown, htA⟩ (w_source l hl9 G cA E x pa rs lo hi n F (fun i k => fo (64 * i + k)) po oc tb tc ou fu X1 ZL) (vx_cwSW 4 htA (gw_S wd294 wd295 wd25 wd296) rfl rfl rfl (by decide +kernel) (by rw [hR]; exact ⟨Nat.le_of_ble_eq_true rfl, Nat.le_of_ble_eq_true rfl⟩)) (pn_S hKN hZ hNC ⟨hS, hN, hElt, hE_ou, hou⟩) rfl rfl hl.1 rfl (lv_room (Nat.le_of_ble_eq_true rfl)) dL_law_392 (by rw [hR]; constructor <;> (dsimp only; omega))) hL (fun q h => h.elim (fun h => (hEn q h).1) (fun h => by rw [h]; exact z_ou)) (fun v9 st9 t9 lcA h0 ha9 hL hq9 => ?_)
          obtain ⟨kk, n2, F2, O2, g, hv9, hrel, hPV, hou, hz1, hk1⟩ := hq9
          cases hv9
          rw [h0] at hz1 hk1
          generalize t9.heap = H1 at hPV hou hz1 hk1 ⊢
          obtain ⟨hrel, e1, e2, e3⟩ := hrel
          rw [e1, e2, e3] at hPV
          have hk : ∀ q, q < s.heap.size → H1[q]? = s.heap[q]? := fun q h => (hk1 q (by omega) (hEz q h) (by omega)).trans (hk q h)
          have hz : s.heap.size ≤ H1.size := by omega
          obtain ⟨th0, hmV⟩ := hmV
          have hmV := mV_k hmV (hk1 mo (hElt _ hE_mo) hE_mo n_mo) (hk1 ao (hElt _ hE_ao) hE_ao n_ao) (hk1 af (hElt _ hE_af) hE_af n_af) (hk1 sa (hElt _ hE_sa) hE_sa n_sa) (hk1 ea (hElt _ hE_ea) hE_ea n_ea)
          have hElt : ∀ q, E q → q < H1.size := fun q h => Nat.lt_of_lt_of_le (hElt q h) hz1
          have hVS : va_S (fun q => s.heap.size ≤ q) s.heap H1 lcA := ⟨hz, fun q h1 _ => hk q h1, hL⟩
          have hmV0 := hmV
          obtain ⟨lw9, hg9, fS9, fE9, hob, -⟩ := hmV0
          refine lv_istore (lv' := [(5, .int (nI kk)), (0, .ref b), (1, .ref x), (2, .ref mo), (3, .ref ou), (4, .int (nI (5 * i)))]) hx hb dL_law_395 hl (by decide) rfl (fun ls hl => ?_)
          refine lv_aload_n hx hb dL_law_397 rfl (lv_at hl 3 rfl) ?_
          refine lv_aload_n hx hb dL_law_398 rfl (lv_at hl 1 rfl) ?_
          refine lv_iload hx hb dL_law_399 (lv_at hl 5 rfl) ?_
          refine lv_iconst (v := nI 1) hx hb dL_law_401 (by decide) ?_
          refine lv_iadd hx hb dL_law_402 ?_
          refine pw_ti (y := nI ((5 * i) + 1)) (nI_add _ _) ?_
          refine va_sld (A := (fun q => s.heap.size ≤ q)) (H0 := s.heap) hx hb hX hbl hbA hVS (vp_in_nI (show ((5 * i) + 1) < L by omega) (by omega)) dL_law_403 ?_
          refine pw_ti (y := X1) hX1.symm ?_
          refine lv_aload_n hx hb dL_law_404 rfl (lv_at hl 1 rfl) ?_
          refine lv_iload hx hb dL_law_405 (lv_at hl 5 rfl) ?_
          refine lv_iconst (v := nI 2) hx hb dL_law_407 (by decide) ?_
          refine lv_iadd hx hb dL_law_408 ?_
          refine pw_ti (y := nI ((5 * i) + 2)) (nI_add _ _) ?_
          refine va_sld (A := (fun q => s.heap.size ≤ q)) (H0 := s.heap) hx hb hX hbl hbA hVS (vp_in_nI (show ((5 * i) + 2) < L by omega) (by omega)) dL_law_409 ?_
          refine pw_ti (y := X2) hX2.symm ?_
          refine lv_i2l hx hb dL_law_410 rfl ?_
          refine lv_bipush (v := nI 32) hx hb dL_law_411 (by decide) ?_
          refine lv_lshl hx hb dL_law_413 rfl ?_
          refine lv_aload_n hx hb dL_law_414 rfl (lv_at hl 1 rfl) ?_
          refine lv_iload hx hb dL_law_415 (lv_at hl 5 rfl) ?_
          refine lv_iconst (v := nI 3) hx hb dL_law_417 (by decide) ?_
          refine lv_iadd hx hb dL_law_418 ?_
          refine pw_ti (y := nI ((5 * i) + 3)) (nI_add _ _) ?_
          refine va_sld (A := (fun q => s.heap.size ≤ q)) (H0 := s.heap) hx hb hX hbl hbA hVS (vp_in_nI (show ((5 * i) + 3) < L by omega) (by omega)) dL_law_419 ?_
          refine pw_ti (y := X3) hX3.symm ?_
          refine lv_i2l hx hb dL_law_420 rfl ?_
          refine lv_ldc2 hx hb hown (htA _ wd577) dL_law_421 ?_
          refine lv_land hx hb dL_law_424 ?_
          refine lv_lor hx hb dL_law_425 ?_
          refine pw_tl (y := ZL) hZL.symm ?_
          refine pw_call (F := (fun q => s.heap.size ≤ q)) (va_runV (As := [.int X1, .long ZL]) (rest := []) ⟨hx, hb, hml, hown, htA⟩ (m_source l G cA mo ao af sa ea n fo fb X1 ZL) (cwV 2 htA (gd_V wd514 wd515 wd516 wd28 wd517) rfl rfl rfl (by decide +kernel) (by rw [hR]; exact ⟨Nat.le_of_ble_eq_true rfl, Nat.le_of_ble_eq_true rfl⟩)) (pw_V (ci := 4) (q := (RM, TM, 8)) hKN hob rfl ⟨hA, hn, th0, hmV⟩) rfl rfl hl.1 rfl (lv_room (Nat.le_of_ble_eq_true rfl)) dL_law_426 (by rw [hR]; constructor <;> (dsimp only; omega))) hL (fun q h => by rcases h with h | h | h <;> (rw [h]; assumption)) (fun v9 st9 t9 lcB h0 ha9 hL hq9 => ?_)
          obtain ⟨r, th, hv9, hrm, hmV, hz2, hk2⟩ := hq9
          cases hv9
          rw [h0] at hz2 hk2
          generalize t9.heap = H2 at hmV hz2 hk2 ⊢
          have hPV := PVE_k hPV (fun q h1 h2 => hk2 q (hEn q h2).2.1 (hEn q h2).2.2.2.2.1 (hEn q h2).2.2.2.2.2.1)
          have hou := al_k hou (hk2 ou (Ne.symm n_mo) (Ne.symm n_sa) (Ne.symm n_ea))
          have hk : ∀ q, q < s.heap.size → H2[q]? = s.heap[q]? := fun q h => (hk2 q (by omega) (by omega) (by omega)).trans (hk q h)
          have hz : s.heap.size ≤ H2.size := by omega
          have hElt : ∀ q, E q → q < H2.size := fun q h => by rw [hz2]; exact hElt q h
          have hmV0 := hmV
          obtain ⟨lw8, hg8, fS8, fE8, hob, -⟩ := hmV0
          refine lv_lstore (lv' := [(6, .long r), (5, .int (nI kk)), (0, .ref b), (1, .ref x), (2, .ref mo), (3, .ref ou), (4, .int (nI (5 * i)))]) hx hb dL_law_429 hl (by decide) rfl (fun ls hl => ?_)
          refine lv_aload_n hx hb dL_law_431 rfl (lv_at hl 4 rfl) ?_
          refine vp_callSi (va_Run.run (va_runV (As := []) (rest := []) ⟨hx, hb, hml, hown, htA⟩ (m_thrown l G cA mo (mF th ao af n lw8 hg8 sa ea) th rfl) (cwV 0 htA (gd_V wd461 wd462 wd463 wd28 wd464) rfl rfl rfl (by decide +kernel) (by rw [hR]; exact ⟨Nat.le_of_ble_eq_true rfl, Nat.le_of_ble_eq_true rfl⟩)) (pw_V (ci := 4) (q := (RM, TM, 8)) hKN hob rfl hob) rfl rfl hl.1 rfl (lv_room (Nat.le_of_ble_eq_true rfl)) dL_law_432 (by rw [hR]; constructor <;> (dsimp only; omega)))) (fun r9 hr9 => ?_)
          subst hr9
          obtain ⟨hth, hres⟩ := ag_one (P := fun a w => w = src (fun k => fo (64 * a + k)) ZL 64) hn (fun a x y _ q1 q2 => q1.trans q2.symm) hrel hrm
          refine lv_iload hx hb dL_law_435 (lv_at hl 1 rfl) ?_
          refine lv_icmp_eq (tgt := 442) hx hb dL_law_437 (by decide) (fun _ => ?_) (fun c9 => absurd hth c9)
          refine lv_iload hx hb dL_law_442 (lv_at hl 1 rfl) ?_
          refine lv_if_ne (tgt := 458) hx hb dL_law_444 (by decide) (fun c2 => ?_) (fun c2 => ?_)
          · refine lv_goto (tgt := 1093) hx hb dL_law_458 (by decide) ?_
            exact hnext n F fo fb g H2 lcB _ _ (by omega) (by omega) hn hPV ⟨_, hmV⟩ hou hk hz hElt hfb hL ls (lv_sub hl [2, 3, 4, 5, 6] rfl)
          · refine lv_aload_n hx hb dL_law_447 rfl (lv_at hl 5 rfl) ?_
            refine lv_iconst (v := nI 0) hx hb dL_law_448 (by decide) ?_
            refine pw_lald hx hb hK hou 0 rfl (show 0 < 1 by decide) (by decide) dL_law_449 ?_
            refine lv_lload hx hb dL_law_450 (lv_at hl 0 rfl) ?_
            refine W.lcmp hx hb dL_law_452 ?_
            refine lv_if_eq (tgt := 458) hx hb dL_law_453 (by decide) (fun _ => ?_) (fun c9 => absurd ((cmp0 _ _).mpr (hres c2)) c9)
            refine lv_goto (tgt := 1093) hx hb dL_law_458 (by decide) ?_
            exact hnext n F fo fb g H2 lcB _ _ (by omega) (by omega) hn hPV ⟨_, hmV⟩ hou hk hz hElt hfb hL ls (lv_sub hl [2, 3, 4, 5, 6] rfl)
        · refine lv_tableIn (tgt := 461) (off := 422) hx hb dL_law_39 (by decide +kernel) (by decide +kernel) rfl (by decide) ?_
          refine lv_aload_n hx hb dL_law_461 rfl (lv_at hl 1 rfl) ?_
          refine lv_aload_n hx hb dL_law_462 rfl (lv_at hl 0 rfl) ?_
          refine lv_iload hx hb dL_law_463 (lv_at hl 4 rfl) ?_
          refine lv_iconst (v := nI 1) hx hb dL_law_465 (by decide) ?_
          refine lv_iadd hx hb dL_law_466 ?_
          refine pw_ti (y := nI ((5 * i) + 1)) (nI_add _ _) ?_
          refine va_sld (A := (fun q => s.heap.size ≤ q)) (H0 := s.heap) hx hb hX hbl hbA hVS (vp_in_nI (show ((5 * i) + 1) < L by omega) (by omega)) dL_law_467 ?_
          refine pw_ti (y := X1) hX1.symm ?_
          refine lv_aload_n hx hb dL_law_468 rfl (lv_at hl 3 rfl) ?_
          refine pw_call (F := (fun q => s.heap.size ≤ q)) (vx_runSW (As := [.ref x, .int X1, .ref ou]) (rest := []) ⟨hx, hb, hml, hown, htA⟩ (w_filter l hl9 G cA E x pa rs lo hi n F (fun i k => fo (64 * i + k)) po oc tb tc ou fu X1) (vx_cwSW 3 htA (gw_S wd301 wd302 wd25 wd303) rfl rfl rfl (by decide +kernel) (by rw [hR]; exact ⟨Nat.le_of_ble_eq_true rfl, Nat.le_of_ble_eq_true rfl⟩)) (pn_S hKN hZ hNC ⟨hS, hN, hElt, hE_ou, hou⟩) rfl rfl hl.1 rfl (lv_room (Nat.le_of_ble_eq_true rfl)) dL_law_469 (by rw [hR]; constructor <;> (dsimp only; omega))) hL (fun q h => h.elim (fun h => (hEn q h).1) (fun h => by rw [h]; exact z_ou)) (fun v9 st9 t9 lcA h0 ha9 hL hq9 => ?_)
          obtain ⟨kk, n2, F2, O2, g, hv9, hrel, hPV, hou, hz1, hk1⟩ := hq9
          cases hv9
          rw [h0] at hz1 hk1
          generalize t9.heap = H1 at hPV hou hz1 hk1 ⊢
          obtain ⟨hrel, e1, e2, e3⟩ := hrel
          rw [e1, e2, e3] at hPV
          have hk : ∀ q, q < s.heap.size → H1[q]? = s.heap[q]? := fun q h => (hk1 q (by omega) (hEz q h) (by omega)).trans (hk q h)
          have hz : s.heap.size ≤ H1.size := by omega
          obtain ⟨th0, hmV⟩ := hmV
          have hmV := mV_k hmV (hk1 mo (hElt _ hE_mo) hE_mo n_mo) (hk1 ao (hElt _ hE_ao) hE_ao n_ao) (hk1 af (hElt _ hE_af) hE_af n_af) (hk1 sa (hElt _ hE_sa) hE_sa n_sa) (hk1 ea (hElt _ hE_ea) hE_ea n_ea)
          have hElt : ∀ q, E q → q < H1.size := fun q h => Nat.lt_of_lt_of_le (hElt q h) hz1
          have hVS : va_S (fun q => s.heap.size ≤ q) s.heap H1 lcA := ⟨hz, fun q h1 _ => hk q h1, hL⟩
          have hmV0 := hmV
          obtain ⟨lw9, hg9, fS9, fE9, hob, -⟩ := hmV0
          refine lv_istore (lv' := [(5, .int (nI kk)), (0, .ref b), (1, .ref x), (2, .ref mo), (3, .ref ou), (4, .int (nI (5 * i)))]) hx hb dL_law_472 hl (by decide) rfl (fun ls hl => ?_)
          refine lv_aload_n hx hb dL_law_474 rfl (lv_at hl 3 rfl) ?_
          refine lv_aload_n hx hb dL_law_475 rfl (lv_at hl 1 rfl) ?_
          refine lv_iload hx hb dL_law_476 (lv_at hl 5 rfl) ?_
          refine lv_iconst (v := nI 1) hx hb dL_law_478 (by decide) ?_
          refine lv_iadd hx hb dL_law_479 ?_
          refine pw_ti (y := nI ((5 * i) + 1)) (nI_add _ _) ?_
          refine va_sld (A := (fun q => s.heap.size ≤ q)) (H0 := s.heap) hx hb hX hbl hbA hVS (vp_in_nI (show ((5 * i) + 1) < L by omega) (by omega)) dL_law_480 ?_
          refine pw_ti (y := X1) hX1.symm ?_
          refine pw_call (F := (fun q => s.heap.size ≤ q)) (va_runV (As := [.int X1]) (rest := []) ⟨hx, hb, hml, hown, htA⟩ (m_filter l G cA mo ao af sa ea n fo fb X1) (cwV 1 htA (gd_V wd518 wd519 wd520 wd28 wd521) rfl rfl rfl (by decide +kernel) (by rw [hR]; exact ⟨Nat.le_of_ble_eq_true rfl, Nat.le_of_ble_eq_true rfl⟩)) (pw_V (ci := 4) (q := (RM, TM, 8)) hKN hob rfl ⟨hA, hn, th0, hmV⟩) rfl rfl hl.1 rfl (lv_room (Nat.le_of_ble_eq_true rfl)) dL_law_481 (by rw [hR]; constructor <;> (dsimp only; omega))) hL (fun q h => by rcases h with h | h | h <;> (rw [h]; assumption)) (fun v9 st9 t9 lcB h0 ha9 hL hq9 => ?_)
          obtain ⟨r, th, hv9, hrm, hmV, hz2, hk2⟩ := hq9
          cases hv9
          rw [h0] at hz2 hk2
          generalize t9.heap = H2 at hmV hz2 hk2 ⊢
          have hPV := PVE_k hPV (fun q h1 h2 => hk2 q (hEn q h2).2.1 (hEn q h2).2.2.2.2.1 (hEn q h2).2.2.2.2.2.1)
          have hou := al_k hou (hk2 ou (Ne.symm n_mo) (Ne.symm n_sa) (Ne.symm n_ea))
          have hk : ∀ q, q < s.heap.size → H2[q]? = s.heap[q]? := fun q h => (hk2 q (by omega) (by omega) (by omega)).trans (hk q h)
          have hz : s.heap.size ≤ H2.size := by omega
          have hElt : ∀ q, E q → q < H2.size := fun q h => by rw [hz2]; exact hElt q h
          have hmV0 := hmV
          obtain ⟨lw8, hg8, fS8, fE8, hob, -⟩ := hmV0
          refine lv_istore (lv' := [(6, .int r), (5, .int (nI kk)), (0, .ref b), (1, .ref x), (2, .ref mo), (3, .ref ou), (4, .int (nI (5 * i)))]) hx hb dL_law_484 hl (by decide) rfl (fun ls hl => ?_)
          refine lv_aload_n hx hb dL_law_486 rfl (lv_at hl 4 rfl) ?_
          refine vp_callSi (va_Run.run (va_runV (As := []) (rest := []) ⟨hx, hb, hml, hown, htA⟩ (m_thrown l G cA mo (mF th ao af n lw8 hg8 sa ea) th rfl) (cwV 0 htA (gd_V wd461 wd462 wd463 wd28 wd464) rfl rfl rfl (by decide +kernel) (by rw [hR]; exact ⟨Nat.le_of_ble_eq_true rfl, Nat.le_of_ble_eq_true rfl⟩)) (pw_V (ci := 4) (q := (RM, TM, 8)) hKN hob rfl hob) rfl rfl hl.1 rfl (lv_room (Nat.le_of_ble_eq_true rfl)) dL_law_487 (by rw [hR]; constructor <;> (dsimp only; omega)))) (fun r9 hr9 => ?_)
          subst hr9
          obtain ⟨hth, hres⟩ := ag_filter hn hfb hrel hrm
          refine lv_iload hx hb dL_law_490 (lv_at hl 1 rfl) ?_
          refine lv_icmp_eq (tgt := 497) hx hb dL_law_492 (by decide) (fun _ => ?_) (fun c9 => absurd hth c9)
          refine lv_iload hx hb dL_law_497 (lv_at hl 1 rfl) ?_
          refine lv_if_ne (tgt := 514) hx hb dL_law_499 (by decide) (fun c2 => ?_) (fun c2 => ?_)
          · refine lv_goto (tgt := 1093) hx hb dL_law_514 (by decide) ?_
            exact hnext n F fo fb g H2 lcB _ _ (by omega) (by omega) hn hPV ⟨_, hmV⟩ hou hk hz hElt hfb hL ls (lv_sub hl [2, 3, 4, 5, 6] rfl)
          · refine lv_aload_n hx hb dL_law_502 rfl (lv_at hl 5 rfl) ?_
            refine lv_iconst (v := nI 0) hx hb dL_law_503 (by decide) ?_
            refine pw_lald hx hb hK hou 0 rfl (show 0 < 1 by decide) (by decide) dL_law_504 ?_
            refine lv_iload hx hb dL_law_505 (lv_at hl 0 rfl) ?_
            refine lv_i2l hx hb dL_law_507 rfl ?_
            refine W.lcmp hx hb dL_law_508 ?_
            refine lv_if_eq (tgt := 514) hx hb dL_law_509 (by decide) (fun _ => ?_) (fun c9 => absurd ((cmp0 _ _).mpr (hres c2)) c9)
            refine lv_goto (tgt := 1093) hx hb dL_law_514 (by decide) ?_
            exact hnext n F fo fb g H2 lcB _ _ (by omega) (by omega) hn hPV ⟨_, hmV⟩ hou hk hz hElt hfb hL ls (lv_sub hl [2, 3, 4, 5, 6] rfl)
        · refine lv_tableIn (tgt := 517) (off := 478) hx hb dL_law_39 (by decide +kernel) (by decide +kernel) rfl (by decide) ?_
          refine lv_aload_n hx hb dL_law_517 rfl (lv_at hl 1 rfl) ?_
          refine lv_aload_n hx hb dL_law_518 rfl (lv_at hl 0 rfl) ?_
          refine lv_iload hx hb dL_law_519 (lv_at hl 4 rfl) ?_
          refine lv_iconst (v := nI 1) hx hb dL_law_521 (by decide) ?_
          refine lv_iadd hx hb dL_law_522 ?_
          refine pw_ti (y := nI ((5 * i) + 1)) (nI_add _ _) ?_
          refine va_sld (A := (fun q => s.heap.size ≤ q)) (H0 := s.heap) hx hb hX hbl hbA hVS (vp_in_nI (show ((5 * i) + 1) < L by omega) (by omega)) dL_law_523 ?_
          refine pw_ti (y := X1) hX1.symm ?_
          refine lv_aload_n hx hb dL_law_524 rfl (lv_at hl 0 rfl) ?_
          refine lv_iload hx hb dL_law_525 (lv_at hl 4 rfl) ?_
          refine lv_iconst (v := nI 2) hx hb dL_law_527 (by decide) ?_
          refine lv_iadd hx hb dL_law_528 ?_
          refine pw_ti (y := nI ((5 * i) + 2)) (nI_add _ _) ?_
          refine va_sld (A := (fun q => s.heap.size ≤ q)) (H0 := s.heap) hx hb hX hbl hbA hVS (vp_in_nI (show ((5 * i) + 2) < L by omega) (by omega)) dL_law_529 ?_
          refine pw_ti (y := X2) hX2.symm ?_
          refine lv_aload_n hx hb dL_law_530 rfl (lv_at hl 3 rfl) ?_
          refine pw_call (F := (fun q => s.heap.size ≤ q)) (vx_runSW (As := [.ref x, .int X1, .int X2, .ref ou]) (rest := []) ⟨hx, hb, hml, hown, htA⟩ (w_same l hl9 G cA E x pa rs lo hi n F (fun i k => fo (64 * i + k)) po oc tb tc ou fu X1 X2) (vx_cwSW 4 htA (gw_S wd308 wd309 wd25 wd310) rfl rfl rfl (by decide +kernel) (by rw [hR]; exact ⟨Nat.le_of_ble_eq_true rfl, Nat.le_of_ble_eq_true rfl⟩)) (pn_S hKN hZ hNC ⟨hS, hN, hElt, hE_ou, hou⟩) rfl rfl hl.1 rfl (lv_room (Nat.le_of_ble_eq_true rfl)) dL_law_531 (by rw [hR]; constructor <;> (dsimp only; omega))) hL (fun q h => h.elim (fun h => (hEn q h).1) (fun h => by rw [h]; exact z_ou)) (fun v9 st9 t9 lcA h0 ha9 hL hq9 => ?_)
          obtain ⟨kk, n2, F2, O2, g, hv9, hrel, hPV, hou, hz1, hk1⟩ := hq9
          cases hv9
          rw [h0] at hz1 hk1
          generalize t9.heap = H1 at hPV hou hz1 hk1 ⊢
          obtain ⟨hrel, e1, e2, e3⟩ := hrel
          rw [e1, e2, e3] at hPV
          have hk : ∀ q, q < s.heap.size → H1[q]? = s.heap[q]? := fun q h => (hk1 q (by omega) (hEz q h) (by omega)).trans (hk q h)
          have hz : s.heap.size ≤ H1.size := by omega
          obtain ⟨th0, hmV⟩ := hmV
          have hmV := mV_k hmV (hk1 mo (hElt _ hE_mo) hE_mo n_mo) (hk1 ao (hElt _ hE_ao) hE_ao n_ao) (hk1 af (hElt _ hE_af) hE_af n_af) (hk1 sa (hElt _ hE_sa) hE_sa n_sa) (hk1 ea (hElt _ hE_ea) hE_ea n_ea)
          have hElt : ∀ q, E q → q < H1.size := fun q h => Nat.lt_of_lt_of_le (hElt q h) hz1
          have hVS : va_S (fun q => s.heap.size ≤ q) s.heap H1 lcA := ⟨hz, fun q h1 _ => hk q h1, hL⟩
          have hmV0 := hmV
          obtain ⟨lw9, hg9, fS9, fE9, hob, -⟩ := hmV0
          refine lv_istore (lv' := [(5, .int (nI kk)), (0, .ref b), (1, .ref x), (2, .ref mo), (3, .ref ou), (4, .int (nI (5 * i)))]) hx hb dL_law_534 hl (by decide) rfl (fun ls hl => ?_)
          refine lv_aload_n hx hb dL_law_536 rfl (lv_at hl 3 rfl) ?_
          refine lv_aload_n hx hb dL_law_537 rfl (lv_at hl 1 rfl) ?_
          refine lv_iload hx hb dL_law_538 (lv_at hl 5 rfl) ?_
          refine lv_iconst (v := nI 1) hx hb dL_law_540 (by decide) ?_
          refine lv_iadd hx hb dL_law_541 ?_
          refine pw_ti (y := nI ((5 * i) + 1)) (nI_add _ _) ?_
          refine va_sld (A := (fun q => s.heap.size ≤ q)) (H0 := s.heap) hx hb hX hbl hbA hVS (vp_in_nI (show ((5 * i) + 1) < L by omega) (by omega)) dL_law_542 ?_
          refine pw_ti (y := X1) hX1.symm ?_
          refine lv_aload_n hx hb dL_law_543 rfl (lv_at hl 1 rfl) ?_
          refine lv_iload hx hb dL_law_544 (lv_at hl 5 rfl) ?_
          refine lv_iconst (v := nI 2) hx hb dL_law_546 (by decide) ?_
          refine lv_iadd hx hb dL_law_547 ?_
          refine pw_ti (y := nI ((5 * i) + 2)) (nI_add _ _) ?_
          refine va_sld (A := (fun q => s.heap.size ≤ q)) (H0 := s.heap) hx hb hX hbl hbA hVS (vp_in_nI (show ((5 * i) + 2) < L by omega) (by omega)) dL_law_548 ?_
          refine pw_ti (y := X2) hX2.symm ?_
          refine pw_call (F := (fun q => s.heap.size ≤ q)) (va_runV (As := [.int X1, .int X2]) (rest := []) ⟨hx, hb, hml, hown, htA⟩ (m_same l G cA mo ao af sa ea n fo fb X1 X2) (cwV 2 htA (gd_V wd522 wd523 wd524 wd28 wd525) rfl rfl rfl (by decide +kernel) (by rw [hR]; exact ⟨Nat.le_of_ble_eq_true rfl, Nat.le_of_ble_eq_true rfl⟩)) (pw_V (ci := 4) (q := (RM, TM, 8)) hKN hob rfl ⟨hA, hn, th0, hmV⟩) rfl rfl hl.1 rfl (lv_room (Nat.le_of_ble_eq_true rfl)) dL_law_549 (by rw [hR]; constructor <;> (dsimp only; omega))) hL (fun q h => by rcases h with h | h | h <;> (rw [h]; assumption)) (fun v9 st9 t9 lcB h0 ha9 hL hq9 => ?_)
          obtain ⟨r, th, hv9, hrm, hmV, hz2, hk2⟩ := hq9
          cases hv9
          rw [h0] at hz2 hk2
          generalize t9.heap = H2 at hmV hz2 hk2 ⊢
          have hPV := PVE_k hPV (fun q h1 h2 => hk2 q (hEn q h2).2.1 (hEn q h2).2.2.2.2.1 (hEn q h2).2.2.2.2.2.1)
          have hou := al_k hou (hk2 ou (Ne.symm n_mo) (Ne.symm n_sa) (Ne.symm n_ea))
          have hk : ∀ q, q < s.heap.size → H2[q]? = s.heap[q]? := fun q h => (hk2 q (by omega) (by omega) (by omega)).trans (hk q h)
          have hz : s.heap.size ≤ H2.size := by omega
          have hElt : ∀ q, E q → q < H2.size := fun q h => by rw [hz2]; exact hElt q h
          have hmV0 := hmV
          obtain ⟨lw8, hg8, fS8, fE8, hob, -⟩ := hmV0
          refine lv_istore (lv' := [(6, .int r), (5, .int (nI kk)), (0, .ref b), (1, .ref x), (2, .ref mo), (3, .ref ou), (4, .int (nI (5 * i)))]) hx hb dL_law_552 hl (by decide) rfl (fun ls hl => ?_)
          refine lv_aload_n hx hb dL_law_554 rfl (lv_at hl 4 rfl) ?_
          refine vp_callSi (va_Run.run (va_runV (As := []) (rest := []) ⟨hx, hb, hml, hown, htA⟩ (m_thrown l G cA mo (mF th ao af n lw8 hg8 sa ea) th rfl) (cwV 0 htA (gd_V wd461 wd462 wd463 wd28 wd464) rfl rfl rfl (by decide +kernel) (by rw [hR]; exact ⟨Nat.le_of_ble_eq_true rfl, Nat.le_of_ble_eq_true rfl⟩)) (pw_V (ci := 4) (q := (RM, TM, 8)) hKN hob rfl hob) rfl rfl hl.1 rfl (lv_room (Nat.le_of_ble_eq_true rfl)) dL_law_555 (by rw [hR]; constructor <;> (dsimp only; omega)))) (fun r9 hr9 => ?_)
          subst hr9
          obtain ⟨hth, hres⟩ := ag_same (O := (fun i k => fo (64 * i + k))) hn hrel hrm
          refine lv_iload hx hb dL_law_558 (lv_at hl 1 rfl) ?_
          refine lv_icmp_eq (tgt := 565) hx hb dL_law_560 (by decide) (fun _ => ?_) (fun c9 => absurd hth c9)
          refine lv_iload hx hb dL_law_565 (lv_at hl 1 rfl) ?_
          refine lv_if_ne (tgt := 582) hx hb dL_law_567 (by decide) (fun c2 => ?_) (fun c2 => ?_)
          · refine lv_goto (tgt := 1093) hx hb dL_law_582 (by decide) ?_
            exact hnext n F fo fb g H2 lcB _ _ (by omega) (by omega) hn hPV ⟨_, hmV⟩ hou hk hz hElt hfb hL ls (lv_sub hl [2, 3, 4, 5, 6] rfl)
          · refine lv_aload_n hx hb dL_law_570 rfl (lv_at hl 5 rfl) ?_
            refine lv_iconst (v := nI 0) hx hb dL_law_571 (by decide) ?_
            refine pw_lald hx hb hK hou 0 rfl (show 0 < 1 by decide) (by decide) dL_law_572 ?_
            refine lv_iload hx hb dL_law_573 (lv_at hl 0 rfl) ?_
            refine lv_i2l hx hb dL_law_575 rfl ?_
            refine W.lcmp hx hb dL_law_576 ?_
            refine lv_if_eq (tgt := 582) hx hb dL_law_577 (by decide) (fun _ => ?_) (fun c9 => absurd ((cmp0 _ _).mpr (hres c2)) c9)
            refine lv_goto (tgt := 1093) hx hb dL_law_582 (by decide) ?_
            exact hnext n F fo fb g H2 lcB _ _ (by omega) (by omega) hn hPV ⟨_, hmV⟩ hou hk hz hElt hfb hL ls (lv_sub hl [2, 3, 4, 5, 6] rfl)
        · refine lv_tableIn (tgt := 585) (off := 546) hx hb dL_law_39 (by decide +kernel) (by decide +kernel) rfl (by decide) ?_
          refine lv_aload_n hx hb dL_law_585 rfl (lv_at hl 1 rfl) ?_
          refine lv_aload_n hx hb dL_law_586 rfl (lv_at hl 0 rfl) ?_
          refine lv_iload hx hb dL_law_587 (lv_at hl 4 rfl) ?_
          refine lv_iconst (v := nI 1) hx hb dL_law_589 (by decide) ?_
          refine lv_iadd hx hb dL_law_590 ?_
          refine pw_ti (y := nI ((5 * i) + 1)) (nI_add _ _) ?_
          refine va_sld (A := (fun q => s.heap.size ≤ q)) (H0 := s.heap) hx hb hX hbl hbA hVS (vp_in_nI (show ((5 * i) + 1) < L by omega) (by omega)) dL_law_591 ?_
          refine pw_ti (y := X1) hX1.symm ?_
          refine lv_aload_n hx hb dL_law_592 rfl (lv_at hl 0 rfl) ?_
          refine lv_iload hx hb dL_law_593 (lv_at hl 4 rfl) ?_
          refine lv_iconst (v := nI 2) hx hb dL_law_595 (by decide) ?_
          refine lv_iadd hx hb dL_law_596 ?_
          refine pw_ti (y := nI ((5 * i) + 2)) (nI_add _ _) ?_
          refine va_sld (A := (fun q => s.heap.size ≤ q)) (H0 := s.heap) hx hb hX hbl hbA hVS (vp_in_nI (show ((5 * i) + 2) < L by omega) (by omega)) dL_law_597 ?_
          refine pw_ti (y := X2) hX2.symm ?_
          refine lv_aload_n hx hb dL_law_598 rfl (lv_at hl 3 rfl) ?_
          refine pw_call (F := (fun q => s.heap.size ≤ q)) (vx_runSW (As := [.ref x, .int X1, .int X2, .ref ou]) (rest := []) ⟨hx, hb, hml, hown, htA⟩ (w_covers l hl9 G cA E x pa rs lo hi n F (fun i k => fo (64 * i + k)) po oc tb tc ou fu X1 X2) (vx_cwSW 4 htA (gw_S wd315 wd316 wd25 wd317) rfl rfl rfl (by decide +kernel) (by rw [hR]; exact ⟨Nat.le_of_ble_eq_true rfl, Nat.le_of_ble_eq_true rfl⟩)) (pn_S hKN hZ hNC ⟨hS, hN, hElt, hE_ou, hou⟩) rfl rfl hl.1 rfl (lv_room (Nat.le_of_ble_eq_true rfl)) dL_law_599 (by rw [hR]; constructor <;> (dsimp only; omega))) hL (fun q h => h.elim (fun h => (hEn q h).1) (fun h => by rw [h]; exact z_ou)) (fun v9 st9 t9 lcA h0 ha9 hL hq9 => ?_)
          obtain ⟨kk, n2, F2, O2, g, hv9, hrel, hPV, hou, hz1, hk1⟩ := hq9
          cases hv9
          rw [h0] at hz1 hk1
          generalize t9.heap = H1 at hPV hou hz1 hk1 ⊢
          obtain ⟨hrel, e1, e2, e3⟩ := hrel
          rw [e1, e2, e3] at hPV
          have hk : ∀ q, q < s.heap.size → H1[q]? = s.heap[q]? := fun q h => (hk1 q (by omega) (hEz q h) (by omega)).trans (hk q h)
          have hz : s.heap.size ≤ H1.size := by omega
          obtain ⟨th0, hmV⟩ := hmV
          have hmV := mV_k hmV (hk1 mo (hElt _ hE_mo) hE_mo n_mo) (hk1 ao (hElt _ hE_ao) hE_ao n_ao) (hk1 af (hElt _ hE_af) hE_af n_af) (hk1 sa (hElt _ hE_sa) hE_sa n_sa) (hk1 ea (hElt _ hE_ea) hE_ea n_ea)
          have hElt : ∀ q, E q → q < H1.size := fun q h => Nat.lt_of_lt_of_le (hElt q h) hz1
          have hVS : va_S (fun q => s.heap.size ≤ q) s.heap H1 lcA := ⟨hz, fun q h1 _ => hk q h1, hL⟩
          have hmV0 := hmV
          obtain ⟨lw9, hg9, fS9, fE9, hob, -⟩ := hmV0
          refine lv_istore (lv' := [(5, .int (nI kk)), (0, .ref b), (1, .ref x), (2, .ref mo), (3, .ref ou), (4, .int (nI (5 * i)))]) hx hb dL_law_602 hl (by decide) rfl (fun ls hl => ?_)
          refine lv_aload_n hx hb dL_law_604 rfl (lv_at hl 3 rfl) ?_
          refine lv_aload_n hx hb dL_law_605 rfl (lv_at hl 1 rfl) ?_
          refine lv_iload hx hb dL_law_606 (lv_at hl 5 rfl) ?_
          refine lv_iconst (v := nI 1) hx hb dL_law_608 (by decide) ?_
          refine lv_iadd hx hb dL_law_609 ?_
          refine pw_ti (y := nI ((5 * i) + 1)) (nI_add _ _) ?_
          refine va_sld (A := (fun q => s.heap.size ≤ q)) (H0 := s.heap) hx hb hX hbl hbA hVS (vp_in_nI (show ((5 * i) + 1) < L by omega) (by omega)) dL_law_610 ?_
          refine pw_ti (y := X1) hX1.symm ?_
          refine lv_aload_n hx hb dL_law_611 rfl (lv_at hl 1 rfl) ?_
          refine lv_iload hx hb dL_law_612 (lv_at hl 5 rfl) ?_
          refine lv_iconst (v := nI 2) hx hb dL_law_614 (by decide) ?_
          refine lv_iadd hx hb dL_law_615 ?_
          refine pw_ti (y := nI ((5 * i) + 2)) (nI_add _ _) ?_
          refine va_sld (A := (fun q => s.heap.size ≤ q)) (H0 := s.heap) hx hb hX hbl hbA hVS (vp_in_nI (show ((5 * i) + 2) < L by omega) (by omega)) dL_law_616 ?_
          refine pw_ti (y := X2) hX2.symm ?_
          refine pw_call (F := (fun q => s.heap.size ≤ q)) (va_runV (As := [.int X1, .int X2]) (rest := []) ⟨hx, hb, hml, hown, htA⟩ (m_covers l G cA mo ao af sa ea n fo fb X1 X2) (cwV 2 htA (gd_V wd530 wd531 wd532 wd28 wd533) rfl rfl rfl (by decide +kernel) (by rw [hR]; exact ⟨Nat.le_of_ble_eq_true rfl, Nat.le_of_ble_eq_true rfl⟩)) (pw_V (ci := 4) (q := (RM, TM, 8)) hKN hob rfl ⟨hA, hn, th0, hmV⟩) rfl rfl hl.1 rfl (lv_room (Nat.le_of_ble_eq_true rfl)) dL_law_617 (by rw [hR]; constructor <;> (dsimp only; omega))) hL (fun q h => by rcases h with h | h | h <;> (rw [h]; assumption)) (fun v9 st9 t9 lcB h0 ha9 hL hq9 => ?_)
          obtain ⟨r, th, hv9, hrm, hmV, hz2, hk2⟩ := hq9
          cases hv9
          rw [h0] at hz2 hk2
          generalize t9.heap = H2 at hmV hz2 hk2 ⊢
          have hPV := PVE_k hPV (fun q h1 h2 => hk2 q (hEn q h2).2.1 (hEn q h2).2.2.2.2.1 (hEn q h2).2.2.2.2.2.1)
          have hou := al_k hou (hk2 ou (Ne.symm n_mo) (Ne.symm n_sa) (Ne.symm n_ea))
          have hk : ∀ q, q < s.heap.size → H2[q]? = s.heap[q]? := fun q h => (hk2 q (by omega) (by omega) (by omega)).trans (hk q h)
          have hz : s.heap.size ≤ H2.size := by omega
          have hElt : ∀ q, E q → q < H2.size := fun q h => by rw [hz2]; exact hElt q h
          have hmV0 := hmV
          obtain ⟨lw8, hg8, fS8, fE8, hob, -⟩ := hmV0
          refine lv_istore (lv' := [(6, .int r), (5, .int (nI kk)), (0, .ref b), (1, .ref x), (2, .ref mo), (3, .ref ou), (4, .int (nI (5 * i)))]) hx hb dL_law_620 hl (by decide) rfl (fun ls hl => ?_)
          refine lv_aload_n hx hb dL_law_622 rfl (lv_at hl 4 rfl) ?_
          refine vp_callSi (va_Run.run (va_runV (As := []) (rest := []) ⟨hx, hb, hml, hown, htA⟩ (m_thrown l G cA mo (mF th ao af n lw8 hg8 sa ea) th rfl) (cwV 0 htA (gd_V wd461 wd462 wd463 wd28 wd464) rfl rfl rfl (by decide +kernel) (by rw [hR]; exact ⟨Nat.le_of_ble_eq_true rfl, Nat.le_of_ble_eq_true rfl⟩)) (pw_V (ci := 4) (q := (RM, TM, 8)) hKN hob rfl hob) rfl rfl hl.1 rfl (lv_room (Nat.le_of_ble_eq_true rfl)) dL_law_623 (by rw [hR]; constructor <;> (dsimp only; omega)))) (fun r9 hr9 => ?_)
          subst hr9
          obtain ⟨hth, hres⟩ := ag_covers (O := (fun i k => fo (64 * i + k))) hn hrel hrm
          refine lv_iload hx hb dL_law_626 (lv_at hl 1 rfl) ?_
          refine lv_icmp_eq (tgt := 633) hx hb dL_law_628 (by decide) (fun _ => ?_) (fun c9 => absurd hth c9)
          refine lv_iload hx hb dL_law_633 (lv_at hl 1 rfl) ?_
          refine lv_if_ne (tgt := 650) hx hb dL_law_635 (by decide) (fun c2 => ?_) (fun c2 => ?_)
          · refine lv_goto (tgt := 1093) hx hb dL_law_650 (by decide) ?_
            exact hnext n F fo fb g H2 lcB _ _ (by omega) (by omega) hn hPV ⟨_, hmV⟩ hou hk hz hElt hfb hL ls (lv_sub hl [2, 3, 4, 5, 6] rfl)
          · refine lv_aload_n hx hb dL_law_638 rfl (lv_at hl 5 rfl) ?_
            refine lv_iconst (v := nI 0) hx hb dL_law_639 (by decide) ?_
            refine pw_lald hx hb hK hou 0 rfl (show 0 < 1 by decide) (by decide) dL_law_640 ?_
            refine lv_iload hx hb dL_law_641 (lv_at hl 0 rfl) ?_
            refine lv_i2l hx hb dL_law_643 rfl ?_
            refine W.lcmp hx hb dL_law_644 ?_
            refine lv_if_eq (tgt := 650) hx hb dL_law_645 (by decide) (fun _ => ?_) (fun c9 => absurd ((cmp0 _ _).mpr (hres c2)) c9)
            refine lv_goto (tgt := 1093) hx hb dL_law_650 (by decide) ?_
            exact hnext n F fo fb g H2 lcB _ _ (by omega) (by omega) hn hPV ⟨_, hmV⟩ hou hk hz hElt hfb hL ls (lv_sub hl [2, 3, 4, 5, 6] rfl)
        · refine lv_tableIn (tgt := 653) (off := 614) hx hb dL_law_39 (by decide +kernel) (by decide +kernel) rfl (by decide) ?_
          refine lv_aload_n hx hb dL_law_653 rfl (lv_at hl 1 rfl) ?_
          refine lv_aload_n hx hb dL_law_654 rfl (lv_at hl 0 rfl) ?_
          refine lv_iload hx hb dL_law_655 (lv_at hl 4 rfl) ?_
          refine lv_iconst (v := nI 1) hx hb dL_law_657 (by decide) ?_
          refine lv_iadd hx hb dL_law_658 ?_
          refine pw_ti (y := nI ((5 * i) + 1)) (nI_add _ _) ?_
          refine va_sld (A := (fun q => s.heap.size ≤ q)) (H0 := s.heap) hx hb hX hbl hbA hVS (vp_in_nI (show ((5 * i) + 1) < L by omega) (by omega)) dL_law_659 ?_
          refine pw_ti (y := X1) hX1.symm ?_
          refine lv_aload_n hx hb dL_law_660 rfl (lv_at hl 0 rfl) ?_
          refine lv_iload hx hb dL_law_661 (lv_at hl 4 rfl) ?_
          refine lv_iconst (v := nI 2) hx hb dL_law_663 (by decide) ?_
          refine lv_iadd hx hb dL_law_664 ?_
          refine pw_ti (y := nI ((5 * i) + 2)) (nI_add _ _) ?_
          refine va_sld (A := (fun q => s.heap.size ≤ q)) (H0 := s.heap) hx hb hX hbl hbA hVS (vp_in_nI (show ((5 * i) + 2) < L by omega) (by omega)) dL_law_665 ?_
          refine pw_ti (y := X2) hX2.symm ?_
          refine lv_aload_n hx hb dL_law_666 rfl (lv_at hl 3 rfl) ?_
          refine pw_call (F := (fun q => s.heap.size ≤ q)) (vx_runSW (As := [.ref x, .int X1, .int X2, .ref ou]) (rest := []) ⟨hx, hb, hml, hown, htA⟩ (w_differ l hl9 G cA E x pa rs lo hi n F (fun i k => fo (64 * i + k)) po oc tb tc ou fu X1 X2) (vx_cwSW 4 htA (gw_S wd323 wd324 wd25 wd325) rfl rfl rfl (by decide +kernel) (by rw [hR]; exact ⟨Nat.le_of_ble_eq_true rfl, Nat.le_of_ble_eq_true rfl⟩)) (pn_S hKN hZ hNC ⟨hS, hN, hElt, hE_ou, hou⟩) rfl rfl hl.1 rfl (lv_room (Nat.le_of_ble_eq_true rfl)) dL_law_667 (by rw [hR]; constructor <;> (dsimp only; omega))) hL (fun q h => h.elim (fun h => (hEn q h).1) (fun h => by rw [h]; exact z_ou)) (fun v9 st9 t9 lcA h0 ha9 hL hq9 => ?_)
          obtain ⟨kk, n2, F2, O2, g, hv9, hrel, hPV, hou, hz1, hk1⟩ := hq9
          cases hv9
          rw [h0] at hz1 hk1
          generalize t9.heap = H1 at hPV hou hz1 hk1 ⊢
          obtain ⟨hrel, e1, e2, e3⟩ := hrel
          rw [e1, e2, e3] at hPV
          have hk : ∀ q, q < s.heap.size → H1[q]? = s.heap[q]? := fun q h => (hk1 q (by omega) (hEz q h) (by omega)).trans (hk q h)
          have hz : s.heap.size ≤ H1.size := by omega
          obtain ⟨th0, hmV⟩ := hmV
          have hmV := mV_k hmV (hk1 mo (hElt _ hE_mo) hE_mo n_mo) (hk1 ao (hElt _ hE_ao) hE_ao n_ao) (hk1 af (hElt _ hE_af) hE_af n_af) (hk1 sa (hElt _ hE_sa) hE_sa n_sa) (hk1 ea (hElt _ hE_ea) hE_ea n_ea)
          have hElt : ∀ q, E q → q < H1.size := fun q h => Nat.lt_of_lt_of_le (hElt q h) hz1
          have hVS : va_S (fun q => s.heap.size ≤ q) s.heap H1 lcA := ⟨hz, fun q h1 _ => hk q h1, hL⟩
          have hmV0 := hmV
          obtain ⟨lw9, hg9, fS9, fE9, hob, -⟩ := hmV0
          refine lv_istore (lv' := [(5, .int (nI kk)), (0, .ref b), (1, .ref x), (2, .ref mo), (3, .ref ou), (4, .int (nI (5 * i)))]) hx hb dL_law_670 hl (by decide) rfl (fun ls hl => ?_)
          refine lv_aload_n hx hb dL_law_672 rfl (lv_at hl 3 rfl) ?_
          refine lv_aload_n hx hb dL_law_673 rfl (lv_at hl 1 rfl) ?_
          refine lv_iload hx hb dL_law_674 (lv_at hl 5 rfl) ?_
          refine lv_iconst (v := nI 1) hx hb dL_law_676 (by decide) ?_
          refine lv_iadd hx hb dL_law_677 ?_
          refine pw_ti (y := nI ((5 * i) + 1)) (nI_add _ _) ?_
          refine va_sld (A := (fun q => s.heap.size ≤ q)) (H0 := s.heap) hx hb hX hbl hbA hVS (vp_in_nI (show ((5 * i) + 1) < L by omega) (by omega)) dL_law_678 ?_
          refine pw_ti (y := X1) hX1.symm ?_
          refine lv_aload_n hx hb dL_law_679 rfl (lv_at hl 1 rfl) ?_
          refine lv_iload hx hb dL_law_680 (lv_at hl 5 rfl) ?_
          refine lv_iconst (v := nI 2) hx hb dL_law_682 (by decide) ?_
          refine lv_iadd hx hb dL_law_683 ?_
          refine pw_ti (y := nI ((5 * i) + 2)) (nI_add _ _) ?_
          refine va_sld (A := (fun q => s.heap.size ≤ q)) (H0 := s.heap) hx hb hX hbl hbA hVS (vp_in_nI (show ((5 * i) + 2) < L by omega) (by omega)) dL_law_684 ?_
          refine pw_ti (y := X2) hX2.symm ?_
          refine pw_call (F := (fun q => s.heap.size ≤ q)) (va_runV (As := [.int X1, .int X2]) (rest := []) ⟨hx, hb, hml, hown, htA⟩ (m_differ l G cA mo ao af sa ea n fo fb X1 X2) (cwV 2 htA (gd_V wd535 wd536 wd537 wd28 wd538) rfl rfl rfl (by decide +kernel) (by rw [hR]; exact ⟨Nat.le_of_ble_eq_true rfl, Nat.le_of_ble_eq_true rfl⟩)) (pw_V (ci := 4) (q := (RM, TM, 8)) hKN hob rfl ⟨hA, hn, th0, hmV⟩) rfl rfl hl.1 rfl (lv_room (Nat.le_of_ble_eq_true rfl)) dL_law_685 (by rw [hR]; constructor <;> (dsimp only; omega))) hL (fun q h => by rcases h with h | h | h <;> (rw [h]; assumption)) (fun v9 st9 t9 lcB h0 ha9 hL hq9 => ?_)
          obtain ⟨r, th, hv9, hrm, hmV, hz2, hk2⟩ := hq9
          cases hv9
          rw [h0] at hz2 hk2
          generalize t9.heap = H2 at hmV hz2 hk2 ⊢
          have hPV := PVE_k hPV (fun q h1 h2 => hk2 q (hEn q h2).2.1 (hEn q h2).2.2.2.2.1 (hEn q h2).2.2.2.2.2.1)
          have hou := al_k hou (hk2 ou (Ne.symm n_mo) (Ne.symm n_sa) (Ne.symm n_ea))
          have hk : ∀ q, q < s.heap.size → H2[q]? = s.heap[q]? := fun q h => (hk2 q (by omega) (by omega) (by omega)).trans (hk q h)
          have hz : s.heap.size ≤ H2.size := by omega
          have hElt : ∀ q, E q → q < H2.size := fun q h => by rw [hz2]; exact hElt q h
          have hmV0 := hmV
          obtain ⟨lw8, hg8, fS8, fE8, hob, -⟩ := hmV0
          refine lv_istore (lv' := [(6, .int r), (5, .int (nI kk)), (0, .ref b), (1, .ref x), (2, .ref mo), (3, .ref ou), (4, .int (nI (5 * i)))]) hx hb dL_law_688 hl (by decide) rfl (fun ls hl => ?_)
          refine lv_aload_n hx hb dL_law_690 rfl (lv_at hl 4 rfl) ?_
          refine vp_callSi (va_Run.run (va_runV (As := []) (rest := []) ⟨hx, hb, hml, hown, htA⟩ (m_thrown l G cA mo (mF th ao af n lw8 hg8 sa ea) th rfl) (cwV 0 htA (gd_V wd461 wd462 wd463 wd28 wd464) rfl rfl rfl (by decide +kernel) (by rw [hR]; exact ⟨Nat.le_of_ble_eq_true rfl, Nat.le_of_ble_eq_true rfl⟩)) (pw_V (ci := 4) (q := (RM, TM, 8)) hKN hob rfl hob) rfl rfl hl.1 rfl (lv_room (Nat.le_of_ble_eq_true rfl)) dL_law_691 (by rw [hR]; constructor <;> (dsimp only; omega)))) (fun r9 hr9 => ?_)
          subst hr9
          obtain ⟨hth, hres⟩ := ag_differ (O := (fun i k => fo (64 * i + k))) hn hrel hrm
          refine lv_iload hx hb dL_law_694 (lv_at hl 1 rfl) ?_
          refine lv_icmp_eq (tgt := 701) hx hb dL_law_696 (by decide) (fun _ => ?_) (fun c9 => absurd hth c9)
          refine lv_iload hx hb dL_law_701 (lv_at hl 1 rfl) ?_
          refine lv_if_ne (tgt := 718) hx hb dL_law_703 (by decide) (fun c2 => ?_) (fun c2 => ?_)
          · refine lv_goto (tgt := 1093) hx hb dL_law_718 (by decide) ?_
            exact hnext n F fo fb g H2 lcB _ _ (by omega) (by omega) hn hPV ⟨_, hmV⟩ hou hk hz hElt hfb hL ls (lv_sub hl [2, 3, 4, 5, 6] rfl)
          · refine lv_aload_n hx hb dL_law_706 rfl (lv_at hl 5 rfl) ?_
            refine lv_iconst (v := nI 0) hx hb dL_law_707 (by decide) ?_
            refine pw_lald hx hb hK hou 0 rfl (show 0 < 1 by decide) (by decide) dL_law_708 ?_
            refine lv_iload hx hb dL_law_709 (lv_at hl 0 rfl) ?_
            refine lv_i2l hx hb dL_law_711 rfl ?_
            refine W.lcmp hx hb dL_law_712 ?_
            refine lv_if_eq (tgt := 718) hx hb dL_law_713 (by decide) (fun _ => ?_) (fun c9 => absurd ((cmp0 _ _).mpr (hres c2)) c9)
            refine lv_goto (tgt := 1093) hx hb dL_law_718 (by decide) ?_
            exact hnext n F fo fb g H2 lcB _ _ (by omega) (by omega) hn hPV ⟨_, hmV⟩ hou hk hz hElt hfb hL ls (lv_sub hl [2, 3, 4, 5, 6] rfl)
        · refine lv_tableIn (tgt := 721) (off := 682) hx hb dL_law_39 (by decide +kernel) (by decide +kernel) rfl (by decide) ?_
          refine lv_aload_n hx hb dL_law_721 rfl (lv_at hl 1 rfl) ?_
          refine lv_aload_n hx hb dL_law_722 rfl (lv_at hl 0 rfl) ?_
          refine lv_iload hx hb dL_law_723 (lv_at hl 4 rfl) ?_
          refine lv_iconst (v := nI 1) hx hb dL_law_725 (by decide) ?_
          refine lv_iadd hx hb dL_law_726 ?_
          refine pw_ti (y := nI ((5 * i) + 1)) (nI_add _ _) ?_
          refine va_sld (A := (fun q => s.heap.size ≤ q)) (H0 := s.heap) hx hb hX hbl hbA hVS (vp_in_nI (show ((5 * i) + 1) < L by omega) (by omega)) dL_law_727 ?_
          refine pw_ti (y := X1) hX1.symm ?_
          refine lv_aload_n hx hb dL_law_728 rfl (lv_at hl 3 rfl) ?_
          refine pw_call (F := (fun q => s.heap.size ≤ q)) (vx_runSW (As := [.ref x, .int X1, .ref ou]) (rest := []) ⟨hx, hb, hml, hown, htA⟩ (w_rules l hl9 G cA E x pa rs lo hi n F (fun i k => fo (64 * i + k)) po oc tb tc ou fu X1) (vx_cwSW 3 htA (gw_S wd330 wd331 wd25 wd332) rfl rfl rfl (by decide +kernel) (by rw [hR]; exact ⟨Nat.le_of_ble_eq_true rfl, Nat.le_of_ble_eq_true rfl⟩)) (pn_S hKN hZ hNC ⟨hS, hN, hElt, hE_ou, hou⟩) rfl rfl hl.1 rfl (lv_room (Nat.le_of_ble_eq_true rfl)) dL_law_729 (by rw [hR]; constructor <;> (dsimp only; omega))) hL (fun q h => h.elim (fun h => (hEn q h).1) (fun h => by rw [h]; exact z_ou)) (fun v9 st9 t9 lcA h0 ha9 hL hq9 => ?_)
          obtain ⟨kk, n2, F2, O2, g, hv9, hrel, hPV, hou, hz1, hk1⟩ := hq9
          cases hv9
          rw [h0] at hz1 hk1
          generalize t9.heap = H1 at hPV hou hz1 hk1 ⊢
          obtain ⟨hrel, e1, e2, e3⟩ := hrel
          rw [e1, e2, e3] at hPV
          have hk : ∀ q, q < s.heap.size → H1[q]? = s.heap[q]? := fun q h => (hk1 q (by omega) (hEz q h) (by omega)).trans (hk q h)
          have hz : s.heap.size ≤ H1.size := by omega
          obtain ⟨th0, hmV⟩ := hmV
          have hmV := mV_k hmV (hk1 mo (hElt _ hE_mo) hE_mo n_mo) (hk1 ao (hElt _ hE_ao) hE_ao n_ao) (hk1 af (hElt _ hE_af) hE_af n_af) (hk1 sa (hElt _ hE_sa) hE_sa n_sa) (hk1 ea (hElt _ hE_ea) hE_ea n_ea)
          have hElt : ∀ q, E q → q < H1.size := fun q h => Nat.lt_of_lt_of_le (hElt q h) hz1
          have hVS : va_S (fun q => s.heap.size ≤ q) s.heap H1 lcA := ⟨hz, fun q h1 _ => hk q h1, hL⟩
          have hmV0 := hmV
          obtain ⟨lw9, hg9, fS9, fE9, hob, -⟩ := hmV0
          refine lv_istore (lv' := [(5, .int (nI kk)), (0, .ref b), (1, .ref x), (2, .ref mo), (3, .ref ou), (4, .int (nI (5 * i)))]) hx hb dL_law_732 hl (by decide) rfl (fun ls hl => ?_)
          refine lv_aload_n hx hb dL_law_734 rfl (lv_at hl 3 rfl) ?_
          refine lv_aload_n hx hb dL_law_735 rfl (lv_at hl 1 rfl) ?_
          refine lv_iload hx hb dL_law_736 (lv_at hl 5 rfl) ?_
          refine lv_iconst (v := nI 1) hx hb dL_law_738 (by decide) ?_
          refine lv_iadd hx hb dL_law_739 ?_
          refine pw_ti (y := nI ((5 * i) + 1)) (nI_add _ _) ?_
          refine va_sld (A := (fun q => s.heap.size ≤ q)) (H0 := s.heap) hx hb hX hbl hbA hVS (vp_in_nI (show ((5 * i) + 1) < L by omega) (by omega)) dL_law_740 ?_
          refine pw_ti (y := X1) hX1.symm ?_
          refine pw_call (F := (fun q => s.heap.size ≤ q)) (va_runV (As := [.int X1]) (rest := []) ⟨hx, hb, hml, hown, htA⟩ (m_rules l G cA mo ao af sa ea n fo fb X1) (cwV 1 htA (gd_V wd539 wd540 wd541 wd28 wd542) rfl rfl rfl (by decide +kernel) (by rw [hR]; exact ⟨Nat.le_of_ble_eq_true rfl, Nat.le_of_ble_eq_true rfl⟩)) (pw_V (ci := 4) (q := (RM, TM, 8)) hKN hob rfl ⟨hA, hn, th0, hmV⟩) rfl rfl hl.1 rfl (lv_room (Nat.le_of_ble_eq_true rfl)) dL_law_741 (by rw [hR]; constructor <;> (dsimp only; omega))) hL (fun q h => by rcases h with h | h | h <;> (rw [h]; assumption)) (fun v9 st9 t9 lcB h0 ha9 hL hq9 => ?_)
          obtain ⟨r, th, hv9, hrm, hmV, hz2, hk2⟩ := hq9
          cases hv9
          rw [h0] at hz2 hk2
          generalize t9.heap = H2 at hmV hz2 hk2 ⊢
          have hPV := PVE_k hPV (fun q h1 h2 => hk2 q (hEn q h2).2.1 (hEn q h2).2.2.2.2.1 (hEn q h2).2.2.2.2.2.1)
          have hou := al_k hou (hk2 ou (Ne.symm n_mo) (Ne.symm n_sa) (Ne.symm n_ea))
          have hk : ∀ q, q < s.heap.size → H2[q]? = s.heap[q]? := fun q h => (hk2 q (by omega) (by omega) (by omega)).trans (hk q h)
          have hz : s.heap.size ≤ H2.size := by omega
          have hElt : ∀ q, E q → q < H2.size := fun q h => by rw [hz2]; exact hElt q h
          have hmV0 := hmV
          obtain ⟨lw8, hg8, fS8, fE8, hob, -⟩ := hmV0
          refine lv_istore (lv' := [(6, .int r), (5, .int (nI kk)), (0, .ref b), (1, .ref x), (2, .ref mo), (3, .ref ou), (4, .int (nI (5 * i)))]) hx hb dL_law_744 hl (by decide) rfl (fun ls hl => ?_)
          refine lv_aload_n hx hb dL_law_746 rfl (lv_at hl 4 rfl) ?_
          refine vp_callSi (va_Run.run (va_runV (As := []) (rest := []) ⟨hx, hb, hml, hown, htA⟩ (m_thrown l G cA mo (mF th ao af n lw8 hg8 sa ea) th rfl) (cwV 0 htA (gd_V wd461 wd462 wd463 wd28 wd464) rfl rfl rfl (by decide +kernel) (by rw [hR]; exact ⟨Nat.le_of_ble_eq_true rfl, Nat.le_of_ble_eq_true rfl⟩)) (pw_V (ci := 4) (q := (RM, TM, 8)) hKN hob rfl hob) rfl rfl hl.1 rfl (lv_room (Nat.le_of_ble_eq_true rfl)) dL_law_747 (by rw [hR]; constructor <;> (dsimp only; omega)))) (fun r9 hr9 => ?_)
          subst hr9
          obtain ⟨hth, hres⟩ := ag_oneI (P := fun a r => r = nI (tbl (fun k => fo (64 * a + k))).length) (P2 := fun a r => r = nI (tbl (fun k => fo (64 * a + k))).length) hn (fun a x y _ q1 q2 => q1.trans q2.symm) hrel hrm
          refine lv_iload hx hb dL_law_750 (lv_at hl 1 rfl) ?_
          refine lv_icmp_eq (tgt := 757) hx hb dL_law_752 (by decide) (fun _ => ?_) (fun c9 => absurd hth c9)
          refine lv_iload hx hb dL_law_757 (lv_at hl 1 rfl) ?_
          refine lv_if_ne (tgt := 774) hx hb dL_law_759 (by decide) (fun c2 => ?_) (fun c2 => ?_)
          · refine lv_goto (tgt := 1093) hx hb dL_law_774 (by decide) ?_
            exact hnext n F fo fb g H2 lcB _ _ (by omega) (by omega) hn hPV ⟨_, hmV⟩ hou hk hz hElt hfb hL ls (lv_sub hl [2, 3, 4, 5, 6] rfl)
          · refine lv_aload_n hx hb dL_law_762 rfl (lv_at hl 5 rfl) ?_
            refine lv_iconst (v := nI 0) hx hb dL_law_763 (by decide) ?_
            refine pw_lald hx hb hK hou 0 rfl (show 0 < 1 by decide) (by decide) dL_law_764 ?_
            refine lv_iload hx hb dL_law_765 (lv_at hl 0 rfl) ?_
            refine lv_i2l hx hb dL_law_767 rfl ?_
            refine W.lcmp hx hb dL_law_768 ?_
            refine lv_if_eq (tgt := 774) hx hb dL_law_769 (by decide) (fun _ => ?_) (fun c9 => absurd ((cmp0 _ _).mpr (hres c2)) c9)
            refine lv_goto (tgt := 1093) hx hb dL_law_774 (by decide) ?_
            exact hnext n F fo fb g H2 lcB _ _ (by omega) (by omega) hn hPV ⟨_, hmV⟩ hou hk hz hElt hfb hL ls (lv_sub hl [2, 3, 4, 5, 6] rfl)
        · refine lv_tableIn (tgt := 777) (off := 738) hx hb dL_law_39 (by decide +kernel) (by decide +kernel) rfl (by decide) ?_
          refine lv_aload_n hx hb dL_law_777 rfl (lv_at hl 1 rfl) ?_
          refine lv_aload_n hx hb dL_law_778 rfl (lv_at hl 0 rfl) ?_
          refine lv_iload hx hb dL_law_779 (lv_at hl 4 rfl) ?_
          refine lv_iconst (v := nI 1) hx hb dL_law_781 (by decide) ?_
          refine lv_iadd hx hb dL_law_782 ?_
          refine pw_ti (y := nI ((5 * i) + 1)) (nI_add _ _) ?_
          refine va_sld (A := (fun q => s.heap.size ≤ q)) (H0 := s.heap) hx hb hX hbl hbA hVS (vp_in_nI (show ((5 * i) + 1) < L by omega) (by omega)) dL_law_783 ?_
          refine pw_ti (y := X1) hX1.symm ?_
          refine lv_aload_n hx hb dL_law_784 rfl (lv_at hl 0 rfl) ?_
          refine lv_iload hx hb dL_law_785 (lv_at hl 4 rfl) ?_
          refine lv_iconst (v := nI 2) hx hb dL_law_787 (by decide) ?_
          refine lv_iadd hx hb dL_law_788 ?_
          refine pw_ti (y := nI ((5 * i) + 2)) (nI_add _ _) ?_
          refine va_sld (A := (fun q => s.heap.size ≤ q)) (H0 := s.heap) hx hb hX hbl hbA hVS (vp_in_nI (show ((5 * i) + 2) < L by omega) (by omega)) dL_law_789 ?_
          refine pw_ti (y := X2) hX2.symm ?_
          refine lv_aload_n hx hb dL_law_790 rfl (lv_at hl 0 rfl) ?_
          refine lv_iload hx hb dL_law_791 (lv_at hl 4 rfl) ?_
          refine lv_iconst (v := nI 3) hx hb dL_law_793 (by decide) ?_
          refine lv_iadd hx hb dL_law_794 ?_
          refine pw_ti (y := nI ((5 * i) + 3)) (nI_add _ _) ?_
          refine va_sld (A := (fun q => s.heap.size ≤ q)) (H0 := s.heap) hx hb hX hbl hbA hVS (vp_in_nI (show ((5 * i) + 3) < L by omega) (by omega)) dL_law_795 ?_
          refine pw_ti (y := X3) hX3.symm ?_
          refine lv_aload_n hx hb dL_law_796 rfl (lv_at hl 3 rfl) ?_
          refine pw_call (F := (fun q => s.heap.size ≤ q)) (vx_runSW (As := [.ref x, .int X1, .int X2, .int X3, .ref ou]) (rest := []) ⟨hx, hb, hml, hown, htA⟩ (w_rule l hl9 G cA E x pa rs lo hi n F (fun i k => fo (64 * i + k)) po oc tb tc ou fu X1 X2 X3) (vx_cwSW 5 htA (gw_S wd395 wd396 wd25 wd397) rfl rfl rfl (by decide +kernel) (by rw [hR]; exact ⟨Nat.le_of_ble_eq_true rfl, Nat.le_of_ble_eq_true rfl⟩)) (pn_S hKN hZ hNC ⟨hS, hN, hElt, hE_ou, hou⟩) rfl rfl hl.1 rfl (lv_room (Nat.le_of_ble_eq_true rfl)) dL_law_797 (by rw [hR]; constructor <;> (dsimp only; omega))) hL (fun q h => h.elim (fun h => (hEn q h).1) (fun h => by rw [h]; exact z_ou)) (fun v9 st9 t9 lcA h0 ha9 hL hq9 => ?_)
          obtain ⟨kk, n2, F2, O2, g, hv9, hrel, hPV, hou, hz1, hk1⟩ := hq9
          cases hv9
          rw [h0] at hz1 hk1
          generalize t9.heap = H1 at hPV hou hz1 hk1 ⊢
          obtain ⟨hrel, e1, e2, e3⟩ := hrel
          rw [e1, e2, e3] at hPV
          have hk : ∀ q, q < s.heap.size → H1[q]? = s.heap[q]? := fun q h => (hk1 q (by omega) (hEz q h) (by omega)).trans (hk q h)
          have hz : s.heap.size ≤ H1.size := by omega
          obtain ⟨th0, hmV⟩ := hmV
          have hmV := mV_k hmV (hk1 mo (hElt _ hE_mo) hE_mo n_mo) (hk1 ao (hElt _ hE_ao) hE_ao n_ao) (hk1 af (hElt _ hE_af) hE_af n_af) (hk1 sa (hElt _ hE_sa) hE_sa n_sa) (hk1 ea (hElt _ hE_ea) hE_ea n_ea)
          have hElt : ∀ q, E q → q < H1.size := fun q h => Nat.lt_of_lt_of_le (hElt q h) hz1
          have hVS : va_S (fun q => s.heap.size ≤ q) s.heap H1 lcA := ⟨hz, fun q h1 _ => hk q h1, hL⟩
          have hmV0 := hmV
          obtain ⟨lw9, hg9, fS9, fE9, hob, -⟩ := hmV0
          refine lv_istore (lv' := [(5, .int (nI kk)), (0, .ref b), (1, .ref x), (2, .ref mo), (3, .ref ou), (4, .int (nI (5 * i)))]) hx hb dL_law_800 hl (by decide) rfl (fun ls hl => ?_)
          refine lv_aload_n hx hb dL_law_802 rfl (lv_at hl 3 rfl) ?_
          refine lv_aload_n hx hb dL_law_803 rfl (lv_at hl 1 rfl) ?_
          refine lv_iload hx hb dL_law_804 (lv_at hl 5 rfl) ?_
          refine lv_iconst (v := nI 1) hx hb dL_law_806 (by decide) ?_
          refine lv_iadd hx hb dL_law_807 ?_
          refine pw_ti (y := nI ((5 * i) + 1)) (nI_add _ _) ?_
          refine va_sld (A := (fun q => s.heap.size ≤ q)) (H0 := s.heap) hx hb hX hbl hbA hVS (vp_in_nI (show ((5 * i) + 1) < L by omega) (by omega)) dL_law_808 ?_
          refine pw_ti (y := X1) hX1.symm ?_
          refine lv_aload_n hx hb dL_law_809 rfl (lv_at hl 1 rfl) ?_
          refine lv_iload hx hb dL_law_810 (lv_at hl 5 rfl) ?_
          refine lv_iconst (v := nI 2) hx hb dL_law_812 (by decide) ?_
          refine lv_iadd hx hb dL_law_813 ?_
          refine pw_ti (y := nI ((5 * i) + 2)) (nI_add _ _) ?_
          refine va_sld (A := (fun q => s.heap.size ≤ q)) (H0 := s.heap) hx hb hX hbl hbA hVS (vp_in_nI (show ((5 * i) + 2) < L by omega) (by omega)) dL_law_814 ?_
          refine pw_ti (y := X2) hX2.symm ?_
          refine lv_aload_n hx hb dL_law_815 rfl (lv_at hl 1 rfl) ?_
          refine lv_iload hx hb dL_law_816 (lv_at hl 5 rfl) ?_
          refine lv_iconst (v := nI 3) hx hb dL_law_818 (by decide) ?_
          refine lv_iadd hx hb dL_law_819 ?_
          refine pw_ti (y := nI ((5 * i) + 3)) (nI_add _ _) ?_
          refine va_sld (A := (fun q => s.heap.size ≤ q)) (H0 := s.heap) hx hb hX hbl hbA hVS (vp_in_nI (show ((5 * i) + 3) < L by omega) (by omega)) dL_law_820 ?_
          refine pw_ti (y := X3) hX3.symm ?_
          refine pw_call (F := (fun q => s.heap.size ≤ q)) (va_runV (As := [.int X1, .int X2, .int X3]) (rest := []) ⟨hx, hb, hml, hown, htA⟩ (m_rule l G cA mo ao af sa ea n fo fb X1 X2 X3) (cwV 3 htA (gd_V wd558 wd559 wd560 wd28 wd561) rfl rfl rfl (by decide +kernel) (by rw [hR]; exact ⟨Nat.le_of_ble_eq_true rfl, Nat.le_of_ble_eq_true rfl⟩)) (pw_V (ci := 4) (q := (RM, TM, 8)) hKN hob rfl ⟨hA, hn, th0, hmV⟩) rfl rfl hl.1 rfl (lv_room (Nat.le_of_ble_eq_true rfl)) dL_law_821 (by rw [hR]; constructor <;> (dsimp only; omega))) hL (fun q h => by rcases h with h | h | h <;> (rw [h]; assumption)) (fun v9 st9 t9 lcB h0 ha9 hL hq9 => ?_)
          obtain ⟨r, th, hv9, hrm, hmV, hz2, hk2⟩ := hq9
          cases hv9
          rw [h0] at hz2 hk2
          generalize t9.heap = H2 at hmV hz2 hk2 ⊢
          have hPV := PVE_k hPV (fun q h1 h2 => hk2 q (hEn q h2).2.1 (hEn q h2).2.2.2.2.1 (hEn q h2).2.2.2.2.2.1)
          have hou := al_k hou (hk2 ou (Ne.symm n_mo) (Ne.symm n_sa) (Ne.symm n_ea))
          have hk : ∀ q, q < s.heap.size → H2[q]? = s.heap[q]? := fun q h => (hk2 q (by omega) (by omega) (by omega)).trans (hk q h)
          have hz : s.heap.size ≤ H2.size := by omega
          have hElt : ∀ q, E q → q < H2.size := fun q h => by rw [hz2]; exact hElt q h
          have hmV0 := hmV
          obtain ⟨lw8, hg8, fS8, fE8, hob, -⟩ := hmV0
          refine lv_istore (lv' := [(6, .int r), (5, .int (nI kk)), (0, .ref b), (1, .ref x), (2, .ref mo), (3, .ref ou), (4, .int (nI (5 * i)))]) hx hb dL_law_824 hl (by decide) rfl (fun ls hl => ?_)
          refine lv_aload_n hx hb dL_law_826 rfl (lv_at hl 4 rfl) ?_
          refine vp_callSi (va_Run.run (va_runV (As := []) (rest := []) ⟨hx, hb, hml, hown, htA⟩ (m_thrown l G cA mo (mF th ao af n lw8 hg8 sa ea) th rfl) (cwV 0 htA (gd_V wd461 wd462 wd463 wd28 wd464) rfl rfl rfl (by decide +kernel) (by rw [hR]; exact ⟨Nat.le_of_ble_eq_true rfl, Nat.le_of_ble_eq_true rfl⟩)) (pw_V (ci := 4) (q := (RM, TM, 8)) hKN hob rfl hob) rfl rfl hl.1 rfl (lv_room (Nat.le_of_ble_eq_true rfl)) dL_law_827 (by rw [hR]; constructor <;> (dsimp only; omega)))) (fun r9 hr9 => ?_)
          subst hr9
          obtain ⟨hth, hres⟩ := ag_rule (O := (fun i k => fo (64 * i + k))) hn hrel hrm
          refine lv_iload hx hb dL_law_830 (lv_at hl 1 rfl) ?_
          refine lv_icmp_eq (tgt := 837) hx hb dL_law_832 (by decide) (fun _ => ?_) (fun c9 => absurd hth c9)
          refine lv_iload hx hb dL_law_837 (lv_at hl 1 rfl) ?_
          refine lv_if_ne (tgt := 854) hx hb dL_law_839 (by decide) (fun c2 => ?_) (fun c2 => ?_)
          · refine lv_goto (tgt := 1093) hx hb dL_law_854 (by decide) ?_
            exact hnext n F fo fb g H2 lcB _ _ (by omega) (by omega) hn hPV ⟨_, hmV⟩ hou hk hz hElt hfb hL ls (lv_sub hl [2, 3, 4, 5, 6] rfl)
          · refine lv_aload_n hx hb dL_law_842 rfl (lv_at hl 5 rfl) ?_
            refine lv_iconst (v := nI 0) hx hb dL_law_843 (by decide) ?_
            refine pw_lald hx hb hK hou 0 rfl (show 0 < 1 by decide) (by decide) dL_law_844 ?_
            refine lv_iload hx hb dL_law_845 (lv_at hl 0 rfl) ?_
            refine lv_i2l hx hb dL_law_847 rfl ?_
            refine W.lcmp hx hb dL_law_848 ?_
            refine lv_if_eq (tgt := 854) hx hb dL_law_849 (by decide) (fun _ => ?_) (fun c9 => absurd ((cmp0 _ _).mpr (hres c2)) c9)
            refine lv_goto (tgt := 1093) hx hb dL_law_854 (by decide) ?_
            exact hnext n F fo fb g H2 lcB _ _ (by omega) (by omega) hn hPV ⟨_, hmV⟩ hou hk hz hElt hfb hL ls (lv_sub hl [2, 3, 4, 5, 6] rfl)
        · refine lv_tableIn (tgt := 857) (off := 818) hx hb dL_law_39 (by decide +kernel) (by decide +kernel) rfl (by decide) ?_
          refine lv_aload_n hx hb dL_law_857 rfl (lv_at hl 1 rfl) ?_
          refine lv_aload_n hx hb dL_law_858 rfl (lv_at hl 0 rfl) ?_
          refine lv_iload hx hb dL_law_859 (lv_at hl 4 rfl) ?_
          refine lv_iconst (v := nI 1) hx hb dL_law_861 (by decide) ?_
          refine lv_iadd hx hb dL_law_862 ?_
          refine pw_ti (y := nI ((5 * i) + 1)) (nI_add _ _) ?_
          refine va_sld (A := (fun q => s.heap.size ≤ q)) (H0 := s.heap) hx hb hX hbl hbA hVS (vp_in_nI (show ((5 * i) + 1) < L by omega) (by omega)) dL_law_863 ?_
          refine pw_ti (y := X1) hX1.symm ?_
          refine lv_aload_n hx hb dL_law_864 rfl (lv_at hl 0 rfl) ?_
          refine lv_iload hx hb dL_law_865 (lv_at hl 4 rfl) ?_
          refine lv_iconst (v := nI 2) hx hb dL_law_867 (by decide) ?_
          refine lv_iadd hx hb dL_law_868 ?_
          refine pw_ti (y := nI ((5 * i) + 2)) (nI_add _ _) ?_
          refine va_sld (A := (fun q => s.heap.size ≤ q)) (H0 := s.heap) hx hb hX hbl hbA hVS (vp_in_nI (show ((5 * i) + 2) < L by omega) (by omega)) dL_law_869 ?_
          refine pw_ti (y := X2) hX2.symm ?_
          refine lv_aload_n hx hb dL_law_870 rfl (lv_at hl 3 rfl) ?_
          refine pw_call (F := (fun q => s.heap.size ≤ q)) (vx_runSW (As := [.ref x, .int X1, .int X2, .ref ou]) (rest := []) ⟨hx, hb, hml, hown, htA⟩ (w_match l hl9 G cA E x pa rs lo hi n F (fun i k => fo (64 * i + k)) po oc tb tc ou fu X1 X2) (vx_cwSW 4 htA (gw_S wd408 wd409 wd25 wd410) rfl rfl rfl (by decide +kernel) (by rw [hR]; exact ⟨Nat.le_of_ble_eq_true rfl, Nat.le_of_ble_eq_true rfl⟩)) (pn_S hKN hZ hNC ⟨hS, hN, hElt, hE_ou, hou⟩) rfl rfl hl.1 rfl (lv_room (Nat.le_of_ble_eq_true rfl)) dL_law_871 (by rw [hR]; constructor <;> (dsimp only; omega))) hL (fun q h => h.elim (fun h => (hEn q h).1) (fun h => by rw [h]; exact z_ou)) (fun v9 st9 t9 lcA h0 ha9 hL hq9 => ?_)
          obtain ⟨kk, n2, F2, O2, g, hv9, hrel, hPV, hou, hz1, hk1⟩ := hq9
          cases hv9
          rw [h0] at hz1 hk1
          generalize t9.heap = H1 at hPV hou hz1 hk1 ⊢
          obtain ⟨hrel, e1, e2, e3⟩ := hrel
          rw [e1, e2, e3] at hPV
          have hk : ∀ q, q < s.heap.size → H1[q]? = s.heap[q]? := fun q h => (hk1 q (by omega) (hEz q h) (by omega)).trans (hk q h)
          have hz : s.heap.size ≤ H1.size := by omega
          obtain ⟨th0, hmV⟩ := hmV
          have hmV := mV_k hmV (hk1 mo (hElt _ hE_mo) hE_mo n_mo) (hk1 ao (hElt _ hE_ao) hE_ao n_ao) (hk1 af (hElt _ hE_af) hE_af n_af) (hk1 sa (hElt _ hE_sa) hE_sa n_sa) (hk1 ea (hElt _ hE_ea) hE_ea n_ea)
          have hElt : ∀ q, E q → q < H1.size := fun q h => Nat.lt_of_lt_of_le (hElt q h) hz1
          have hVS : va_S (fun q => s.heap.size ≤ q) s.heap H1 lcA := ⟨hz, fun q h1 _ => hk q h1, hL⟩
          have hmV0 := hmV
          obtain ⟨lw9, hg9, fS9, fE9, hob, -⟩ := hmV0
          refine lv_istore (lv' := [(5, .int (nI kk)), (0, .ref b), (1, .ref x), (2, .ref mo), (3, .ref ou), (4, .int (nI (5 * i)))]) hx hb dL_law_874 hl (by decide) rfl (fun ls hl => ?_)
          refine lv_aload_n hx hb dL_law_876 rfl (lv_at hl 3 rfl) ?_
          refine lv_aload_n hx hb dL_law_877 rfl (lv_at hl 1 rfl) ?_
          refine lv_iload hx hb dL_law_878 (lv_at hl 5 rfl) ?_
          refine lv_iconst (v := nI 1) hx hb dL_law_880 (by decide) ?_
          refine lv_iadd hx hb dL_law_881 ?_
          refine pw_ti (y := nI ((5 * i) + 1)) (nI_add _ _) ?_
          refine va_sld (A := (fun q => s.heap.size ≤ q)) (H0 := s.heap) hx hb hX hbl hbA hVS (vp_in_nI (show ((5 * i) + 1) < L by omega) (by omega)) dL_law_882 ?_
          refine pw_ti (y := X1) hX1.symm ?_
          refine lv_aload_n hx hb dL_law_883 rfl (lv_at hl 1 rfl) ?_
          refine lv_iload hx hb dL_law_884 (lv_at hl 5 rfl) ?_
          refine lv_iconst (v := nI 2) hx hb dL_law_886 (by decide) ?_
          refine lv_iadd hx hb dL_law_887 ?_
          refine pw_ti (y := nI ((5 * i) + 2)) (nI_add _ _) ?_
          refine va_sld (A := (fun q => s.heap.size ≤ q)) (H0 := s.heap) hx hb hX hbl hbA hVS (vp_in_nI (show ((5 * i) + 2) < L by omega) (by omega)) dL_law_888 ?_
          refine pw_ti (y := X2) hX2.symm ?_
          refine pw_call (F := (fun q => s.heap.size ≤ q)) (va_runV (As := [.int X1, .int X2]) (rest := []) ⟨hx, hb, hml, hown, htA⟩ (m_match l G cA mo ao af sa ea n fo fb X1 X2) (cwV 2 htA (gd_V wd565 wd566 wd567 wd28 wd568) rfl rfl rfl (by decide +kernel) (by rw [hR]; exact ⟨Nat.le_of_ble_eq_true rfl, Nat.le_of_ble_eq_true rfl⟩)) (pw_V (ci := 4) (q := (RM, TM, 8)) hKN hob rfl ⟨hA, hn, th0, hmV⟩) rfl rfl hl.1 rfl (lv_room (Nat.le_of_ble_eq_true rfl)) dL_law_889 (by rw [hR]; constructor <;> (dsimp only; omega))) hL (fun q h => by rcases h with h | h | h <;> (rw [h]; assumption)) (fun v9 st9 t9 lcB h0 ha9 hL hq9 => ?_)
          obtain ⟨r, th, hv9, hrm, hmV, hz2, hk2⟩ := hq9
          cases hv9
          rw [h0] at hz2 hk2
          generalize t9.heap = H2 at hmV hz2 hk2 ⊢
          have hPV := PVE_k hPV (fun q h1 h2 => hk2 q (hEn q h2).2.1 (hEn q h2).2.2.2.2.1 (hEn q h2).2.2.2.2.2.1)
          have hou := al_k hou (hk2 ou (Ne.symm n_mo) (Ne.symm n_sa) (Ne.symm n_ea))
          have hk : ∀ q, q < s.heap.size → H2[q]? = s.heap[q]? := fun q h => (hk2 q (by omega) (by omega) (by omega)).trans (hk q h)
          have hz : s.heap.size ≤ H2.size := by omega
          have hElt : ∀ q, E q → q < H2.size := fun q h => by rw [hz2]; exact hElt q h
          have hmV0 := hmV
          obtain ⟨lw8, hg8, fS8, fE8, hob, -⟩ := hmV0
          refine lv_istore (lv' := [(6, .int r), (5, .int (nI kk)), (0, .ref b), (1, .ref x), (2, .ref mo), (3, .ref ou), (4, .int (nI (5 * i)))]) hx hb dL_law_892 hl (by decide) rfl (fun ls hl => ?_)
          refine lv_aload_n hx hb dL_law_894 rfl (lv_at hl 4 rfl) ?_
          refine vp_callSi (va_Run.run (va_runV (As := []) (rest := []) ⟨hx, hb, hml, hown, htA⟩ (m_thrown l G cA mo (mF th ao af n lw8 hg8 sa ea) th rfl) (cwV 0 htA (gd_V wd461 wd462 wd463 wd28 wd464) rfl rfl rfl (by decide +kernel) (by rw [hR]; exact ⟨Nat.le_of_ble_eq_true rfl, Nat.le_of_ble_eq_true rfl⟩)) (pw_V (ci := 4) (q := (RM, TM, 8)) hKN hob rfl hob) rfl rfl hl.1 rfl (lv_room (Nat.le_of_ble_eq_true rfl)) dL_law_895 (by rw [hR]; constructor <;> (dsimp only; omega)))) (fun r9 hr9 => ?_)
          subst hr9
          obtain ⟨hth, hres⟩ := ag_match (O := (fun i k => fo (64 * i + k))) hn hrel hrm
          refine lv_iload hx hb dL_law_898 (lv_at hl 1 rfl) ?_
          refine lv_icmp_eq (tgt := 905) hx hb dL_law_900 (by decide) (fun _ => ?_) (fun c9 => absurd hth c9)
          refine lv_iload hx hb dL_law_905 (lv_at hl 1 rfl) ?_
          refine lv_if_ne (tgt := 922) hx hb dL_law_907 (by decide) (fun c2 => ?_) (fun c2 => ?_)
          · refine lv_goto (tgt := 1093) hx hb dL_law_922 (by decide) ?_
            exact hnext n F fo fb g H2 lcB _ _ (by omega) (by omega) hn hPV ⟨_, hmV⟩ hou hk hz hElt hfb hL ls (lv_sub hl [2, 3, 4, 5, 6] rfl)
          · refine lv_aload_n hx hb dL_law_910 rfl (lv_at hl 5 rfl) ?_
            refine lv_iconst (v := nI 0) hx hb dL_law_911 (by decide) ?_
            refine pw_lald hx hb hK hou 0 rfl (show 0 < 1 by decide) (by decide) dL_law_912 ?_
            refine lv_iload hx hb dL_law_913 (lv_at hl 0 rfl) ?_
            refine lv_i2l hx hb dL_law_915 rfl ?_
            refine W.lcmp hx hb dL_law_916 ?_
            refine lv_if_eq (tgt := 922) hx hb dL_law_917 (by decide) (fun _ => ?_) (fun c9 => absurd ((cmp0 _ _).mpr (hres c2)) c9)
            refine lv_goto (tgt := 1093) hx hb dL_law_922 (by decide) ?_
            exact hnext n F fo fb g H2 lcB _ _ (by omega) (by omega) hn hPV ⟨_, hmV⟩ hou hk hz hElt hfb hL ls (lv_sub hl [2, 3, 4, 5, 6] rfl)
        · refine lv_tableIn (tgt := 925) (off := 886) hx hb dL_law_39 (by decide +kernel) (by decide +kernel) rfl (by decide) ?_
          refine lv_aload_n hx hb dL_law_925 rfl (lv_at hl 1 rfl) ?_
          refine lv_aload_n hx hb dL_law_926 rfl (lv_at hl 0 rfl) ?_
          refine lv_iload hx hb dL_law_927 (lv_at hl 4 rfl) ?_
          refine lv_iconst (v := nI 1) hx hb dL_law_929 (by decide) ?_
          refine lv_iadd hx hb dL_law_930 ?_
          refine pw_ti (y := nI ((5 * i) + 1)) (nI_add _ _) ?_
          refine va_sld (A := (fun q => s.heap.size ≤ q)) (H0 := s.heap) hx hb hX hbl hbA hVS (vp_in_nI (show ((5 * i) + 1) < L by omega) (by omega)) dL_law_931 ?_
          refine pw_ti (y := X1) hX1.symm ?_
          refine lv_aload_n hx hb dL_law_932 rfl (lv_at hl 0 rfl) ?_
          refine lv_iload hx hb dL_law_933 (lv_at hl 4 rfl) ?_
          refine lv_iconst (v := nI 2) hx hb dL_law_935 (by decide) ?_
          refine lv_iadd hx hb dL_law_936 ?_
          refine pw_ti (y := nI ((5 * i) + 2)) (nI_add _ _) ?_
          refine va_sld (A := (fun q => s.heap.size ≤ q)) (H0 := s.heap) hx hb hX hbl hbA hVS (vp_in_nI (show ((5 * i) + 2) < L by omega) (by omega)) dL_law_937 ?_
          refine pw_ti (y := X2) hX2.symm ?_
          refine lv_aload_n hx hb dL_law_938 rfl (lv_at hl 0 rfl) ?_
          refine lv_iload hx hb dL_law_939 (lv_at hl 4 rfl) ?_
          refine lv_iconst (v := nI 3) hx hb dL_law_941 (by decide) ?_
          refine lv_iadd hx hb dL_law_942 ?_
          refine pw_ti (y := nI ((5 * i) + 3)) (nI_add _ _) ?_
          refine va_sld (A := (fun q => s.heap.size ≤ q)) (H0 := s.heap) hx hb hX hbl hbA hVS (vp_in_nI (show ((5 * i) + 3) < L by omega) (by omega)) dL_law_943 ?_
          refine pw_ti (y := X3) hX3.symm ?_
          refine lv_i2l hx hb dL_law_944 rfl ?_
          refine lv_bipush (v := nI 32) hx hb dL_law_945 (by decide) ?_
          refine lv_lshl hx hb dL_law_947 rfl ?_
          refine lv_aload_n hx hb dL_law_948 rfl (lv_at hl 0 rfl) ?_
          refine lv_iload hx hb dL_law_949 (lv_at hl 4 rfl) ?_
          refine lv_iconst (v := nI 4) hx hb dL_law_951 (by decide) ?_
          refine lv_iadd hx hb dL_law_952 ?_
          refine pw_ti (y := nI ((5 * i) + 4)) (nI_add _ _) ?_
          refine va_sld (A := (fun q => s.heap.size ≤ q)) (H0 := s.heap) hx hb hX hbl hbA hVS (vp_in_nI (show ((5 * i) + 4) < L by omega) (by omega)) dL_law_953 ?_
          refine pw_ti (y := X4) hX4.symm ?_
          refine lv_i2l hx hb dL_law_954 rfl ?_
          refine lv_ldc2 hx hb hown (htA _ wd577) dL_law_955 ?_
          refine lv_land hx hb dL_law_958 ?_
          refine lv_lor hx hb dL_law_959 ?_
          obtain ⟨ZL, hZL⟩ : ∃ Z : Int64, Z = (X3.toInt64 <<< ((nI 32).toInt64 &&& 63)) ||| (X4.toInt64 &&& 4294967295) := ⟨_, rfl⟩
          refine pw_tl (y := ZL) hZL.symm ?_
          refine lv_aload_n hx hb dL_law_960 rfl (lv_at hl 3 rfl) ?_
          refine pw_call (F := (fun q => s.heap.size ≤ q)) (vx_runSW (As := [.ref x, .int X1, .int X2, .long ZL, .ref ou]) (rest := []) ⟨hx, hb, hml, hown, htA⟩ (w_hops l hl9 G cA E x pa rs lo hi n F (fun i k => fo (64 * i + k)) po oc tb tc ou fu X1 X2 ZL) (vx_cwSW 5 htA (gw_S wd415 wd416 wd25 wd417) rfl rfl rfl (by decide +kernel) (by rw [hR]; exact ⟨Nat.le_of_ble_eq_true rfl, Nat.le_of_ble_eq_true rfl⟩)) (pn_S hKN hZ hNC ⟨hS, hN, hElt, hE_ou, hou⟩) rfl rfl hl.1 rfl (lv_room (Nat.le_of_ble_eq_true rfl)) dL_law_961 (by rw [hR]; constructor <;> (dsimp only; omega))) hL (fun q h => h.elim (fun h => (hEn q h).1) (fun h => by rw [h]; exact z_ou)) (fun v9 st9 t9 lcA h0 ha9 hL hq9 => ?_)
          obtain ⟨kk, n2, F2, O2, g, hv9, hrel, hPV, hou, hz1, hk1⟩ := hq9
          cases hv9
          rw [h0] at hz1 hk1
          generalize t9.heap = H1 at hPV hou hz1 hk1 ⊢
          obtain ⟨hrel, e1, e2, e3⟩ := hrel
          rw [e1, e2, e3] at hPV
          have hk : ∀ q, q < s.heap.size → H1[q]? = s.heap[q]? := fun q h => (hk1 q (by omega) (hEz q h) (by omega)).trans (hk q h)
          have hz : s.heap.size ≤ H1.size := by omega
          obtain ⟨th0, hmV⟩ := hmV
          have hmV := mV_k hmV (hk1 mo (hElt _ hE_mo) hE_mo n_mo) (hk1 ao (hElt _ hE_ao) hE_ao n_ao) (hk1 af (hElt _ hE_af) hE_af n_af) (hk1 sa (hElt _ hE_sa) hE_sa n_sa) (hk1 ea (hElt _ hE_ea) hE_ea n_ea)
          have hElt : ∀ q, E q → q < H1.size := fun q h => Nat.lt_of_lt_of_le (hElt q h) hz1
          have hVS : va_S (fun q => s.heap.size ≤ q) s.heap H1 lcA := ⟨hz, fun q h1 _ => hk q h1, hL⟩
          have hmV0 := hmV
          obtain ⟨lw9, hg9, fS9, fE9, hob, -⟩ := hmV0
          refine lv_istore (lv' := [(5, .int (nI kk)), (0, .ref b), (1, .ref x), (2, .ref mo), (3, .ref ou), (4, .int (nI (5 * i)))]) hx hb dL_law_964 hl (by decide) rfl (fun ls hl => ?_)
          refine lv_aload_n hx hb dL_law_966 rfl (lv_at hl 3 rfl) ?_
          refine lv_aload_n hx hb dL_law_967 rfl (lv_at hl 1 rfl) ?_
          refine lv_iload hx hb dL_law_968 (lv_at hl 5 rfl) ?_
          refine lv_iconst (v := nI 1) hx hb dL_law_970 (by decide) ?_
          refine lv_iadd hx hb dL_law_971 ?_
          refine pw_ti (y := nI ((5 * i) + 1)) (nI_add _ _) ?_
          refine va_sld (A := (fun q => s.heap.size ≤ q)) (H0 := s.heap) hx hb hX hbl hbA hVS (vp_in_nI (show ((5 * i) + 1) < L by omega) (by omega)) dL_law_972 ?_
          refine pw_ti (y := X1) hX1.symm ?_
          refine lv_aload_n hx hb dL_law_973 rfl (lv_at hl 1 rfl) ?_
          refine lv_iload hx hb dL_law_974 (lv_at hl 5 rfl) ?_
          refine lv_iconst (v := nI 2) hx hb dL_law_976 (by decide) ?_
          refine lv_iadd hx hb dL_law_977 ?_
          refine pw_ti (y := nI ((5 * i) + 2)) (nI_add _ _) ?_
          refine va_sld (A := (fun q => s.heap.size ≤ q)) (H0 := s.heap) hx hb hX hbl hbA hVS (vp_in_nI (show ((5 * i) + 2) < L by omega) (by omega)) dL_law_978 ?_
          refine pw_ti (y := X2) hX2.symm ?_
          refine lv_aload_n hx hb dL_law_979 rfl (lv_at hl 1 rfl) ?_
          refine lv_iload hx hb dL_law_980 (lv_at hl 5 rfl) ?_
          refine lv_iconst (v := nI 3) hx hb dL_law_982 (by decide) ?_
          refine lv_iadd hx hb dL_law_983 ?_
          refine pw_ti (y := nI ((5 * i) + 3)) (nI_add _ _) ?_
          refine va_sld (A := (fun q => s.heap.size ≤ q)) (H0 := s.heap) hx hb hX hbl hbA hVS (vp_in_nI (show ((5 * i) + 3) < L by omega) (by omega)) dL_law_984 ?_
          refine pw_ti (y := X3) hX3.symm ?_
          refine lv_i2l hx hb dL_law_985 rfl ?_
          refine lv_bipush (v := nI 32) hx hb dL_law_986 (by decide) ?_
          refine lv_lshl hx hb dL_law_988 rfl ?_
          refine lv_aload_n hx hb dL_law_989 rfl (lv_at hl 1 rfl) ?_
          refine lv_iload hx hb dL_law_990 (lv_at hl 5 rfl) ?_
          refine lv_iconst (v := nI 4) hx hb dL_law_992 (by decide) ?_
          refine lv_iadd hx hb dL_law_993 ?_
          refine pw_ti (y := nI ((5 * i) + 4)) (nI_add _ _) ?_
          refine va_sld (A := (fun q => s.heap.size ≤ q)) (H0 := s.heap) hx hb hX hbl hbA hVS (vp_in_nI (show ((5 * i) + 4) < L by omega) (by omega)) dL_law_994 ?_
          refine pw_ti (y := X4) hX4.symm ?_
          refine lv_i2l hx hb dL_law_995 rfl ?_
          refine lv_ldc2 hx hb hown (htA _ wd577) dL_law_996 ?_
          refine lv_land hx hb dL_law_999 ?_
          refine lv_lor hx hb dL_law_1000 ?_
          refine pw_tl (y := ZL) hZL.symm ?_
          refine pw_call (F := (fun q => s.heap.size ≤ q)) (va_runV (As := [.int X1, .int X2, .long ZL]) (rest := []) ⟨hx, hb, hml, hown, htA⟩ (m_hops l G cA mo ao af sa ea n fo fb X1 X2 ZL) (cwV 3 htA (gd_V wd569 wd570 wd571 wd28 wd572) rfl rfl rfl (by decide +kernel) (by rw [hR]; exact ⟨Nat.le_of_ble_eq_true rfl, Nat.le_of_ble_eq_true rfl⟩)) (pw_V (ci := 4) (q := (RM, TM, 8)) hKN hob rfl ⟨hA, hn, th0, hmV⟩) rfl rfl hl.1 rfl (lv_room (Nat.le_of_ble_eq_true rfl)) dL_law_1001 (by rw [hR]; constructor <;> (dsimp only; omega))) hL (fun q h => by rcases h with h | h | h <;> (rw [h]; assumption)) (fun v9 st9 t9 lcB h0 ha9 hL hq9 => ?_)
          obtain ⟨r, th, hv9, hrm, hmV, hz2, hk2⟩ := hq9
          cases hv9
          rw [h0] at hz2 hk2
          generalize t9.heap = H2 at hmV hz2 hk2 ⊢
          have hPV := PVE_k hPV (fun q h1 h2 => hk2 q (hEn q h2).2.1 (hEn q h2).2.2.2.2.1 (hEn q h2).2.2.2.2.2.1)
          have hou := al_k hou (hk2 ou (Ne.symm n_mo) (Ne.symm n_sa) (Ne.symm n_ea))
          have hk : ∀ q, q < s.heap.size → H2[q]? = s.heap[q]? := fun q h => (hk2 q (by omega) (by omega) (by omega)).trans (hk q h)
          have hz : s.heap.size ≤ H2.size := by omega
          have hElt : ∀ q, E q → q < H2.size := fun q h => by rw [hz2]; exact hElt q h
          have hmV0 := hmV
          obtain ⟨lw8, hg8, fS8, fE8, hob, -⟩ := hmV0
          refine lv_istore (lv' := [(6, .int r), (5, .int (nI kk)), (0, .ref b), (1, .ref x), (2, .ref mo), (3, .ref ou), (4, .int (nI (5 * i)))]) hx hb dL_law_1004 hl (by decide) rfl (fun ls hl => ?_)
          refine lv_aload_n hx hb dL_law_1006 rfl (lv_at hl 4 rfl) ?_
          refine vp_callSi (va_Run.run (va_runV (As := []) (rest := []) ⟨hx, hb, hml, hown, htA⟩ (m_thrown l G cA mo (mF th ao af n lw8 hg8 sa ea) th rfl) (cwV 0 htA (gd_V wd461 wd462 wd463 wd28 wd464) rfl rfl rfl (by decide +kernel) (by rw [hR]; exact ⟨Nat.le_of_ble_eq_true rfl, Nat.le_of_ble_eq_true rfl⟩)) (pw_V (ci := 4) (q := (RM, TM, 8)) hKN hob rfl hob) rfl rfl hl.1 rfl (lv_room (Nat.le_of_ble_eq_true rfl)) dL_law_1007 (by rw [hR]; constructor <;> (dsimp only; omega)))) (fun r9 hr9 => ?_)
          subst hr9
          obtain ⟨hth, hres⟩ := ag_hops (O := (fun i k => fo (64 * i + k))) hn hrel hrm
          refine lv_iload hx hb dL_law_1010 (lv_at hl 1 rfl) ?_
          refine lv_icmp_eq (tgt := 1017) hx hb dL_law_1012 (by decide) (fun _ => ?_) (fun c9 => absurd hth c9)
          refine lv_iload hx hb dL_law_1017 (lv_at hl 1 rfl) ?_
          refine lv_if_ne (tgt := 1034) hx hb dL_law_1019 (by decide) (fun c2 => ?_) (fun c2 => ?_)
          · refine lv_goto (tgt := 1093) hx hb dL_law_1034 (by decide) ?_
            exact hnext n F fo fb g H2 lcB _ _ (by omega) (by omega) hn hPV ⟨_, hmV⟩ hou hk hz hElt hfb hL ls (lv_sub hl [2, 3, 4, 5, 6] rfl)
          · refine lv_aload_n hx hb dL_law_1022 rfl (lv_at hl 5 rfl) ?_
            refine lv_iconst (v := nI 0) hx hb dL_law_1023 (by decide) ?_
            refine pw_lald hx hb hK hou 0 rfl (show 0 < 1 by decide) (by decide) dL_law_1024 ?_
            refine lv_iload hx hb dL_law_1025 (lv_at hl 0 rfl) ?_
            refine lv_i2l hx hb dL_law_1027 rfl ?_
            refine W.lcmp hx hb dL_law_1028 ?_
            refine lv_if_eq (tgt := 1034) hx hb dL_law_1029 (by decide) (fun _ => ?_) (fun c9 => absurd ((cmp0 _ _).mpr (hres c2)) c9)
            refine lv_goto (tgt := 1093) hx hb dL_law_1034 (by decide) ?_
            exact hnext n F fo fb g H2 lcB _ _ (by omega) (by omega) hn hPV ⟨_, hmV⟩ hou hk hz hElt hfb hL ls (lv_sub hl [2, 3, 4, 5, 6] rfl)
        · refine lv_tableIn (tgt := 1037) (off := 998) hx hb dL_law_39 (by decide +kernel) (by decide +kernel) rfl (by decide) ?_
          refine lv_aload_n hx hb dL_law_1037 rfl (lv_at hl 1 rfl) ?_
          refine lv_aload_n hx hb dL_law_1038 rfl (lv_at hl 0 rfl) ?_
          refine lv_iload hx hb dL_law_1039 (lv_at hl 4 rfl) ?_
          refine lv_iconst (v := nI 1) hx hb dL_law_1041 (by decide) ?_
          refine lv_iadd hx hb dL_law_1042 ?_
          refine pw_ti (y := nI ((5 * i) + 1)) (nI_add _ _) ?_
          refine va_sld (A := (fun q => s.heap.size ≤ q)) (H0 := s.heap) hx hb hX hbl hbA hVS (vp_in_nI (show ((5 * i) + 1) < L by omega) (by omega)) dL_law_1043 ?_
          refine pw_ti (y := X1) hX1.symm ?_
          refine lv_aload_n hx hb dL_law_1044 rfl (lv_at hl 3 rfl) ?_
          refine pw_call (F := (fun q => s.heap.size ≤ q)) (vx_runSW (As := [.ref x, .int X1, .ref ou]) (rest := []) ⟨hx, hb, hml, hown, htA⟩ (w_count l hl9 G cA E x pa rs lo hi n F (fun i k => fo (64 * i + k)) po oc tb tc ou fu X1) (vx_cwSW 3 htA (gw_S wd422 wd423 wd25 wd424) rfl rfl rfl (by decide +kernel) (by rw [hR]; exact ⟨Nat.le_of_ble_eq_true rfl, Nat.le_of_ble_eq_true rfl⟩)) (pn_S hKN hZ hNC ⟨hS, hN, hElt, hE_ou, hou⟩) rfl rfl hl.1 rfl (lv_room (Nat.le_of_ble_eq_true rfl)) dL_law_1045 (by rw [hR]; constructor <;> (dsimp only; omega))) hL (fun q h => h.elim (fun h => (hEn q h).1) (fun h => by rw [h]; exact z_ou)) (fun v9 st9 t9 lcA h0 ha9 hL hq9 => ?_)
          obtain ⟨kk, n2, F2, O2, g, hv9, hrel, hPV, hou, hz1, hk1⟩ := hq9
          cases hv9
          rw [h0] at hz1 hk1
          generalize t9.heap = H1 at hPV hou hz1 hk1 ⊢
          obtain ⟨hrel, e1, e2, e3⟩ := hrel
          rw [e1, e2, e3] at hPV
          have hk : ∀ q, q < s.heap.size → H1[q]? = s.heap[q]? := fun q h => (hk1 q (by omega) (hEz q h) (by omega)).trans (hk q h)
          have hz : s.heap.size ≤ H1.size := by omega
          obtain ⟨th0, hmV⟩ := hmV
          have hmV := mV_k hmV (hk1 mo (hElt _ hE_mo) hE_mo n_mo) (hk1 ao (hElt _ hE_ao) hE_ao n_ao) (hk1 af (hElt _ hE_af) hE_af n_af) (hk1 sa (hElt _ hE_sa) hE_sa n_sa) (hk1 ea (hElt _ hE_ea) hE_ea n_ea)
          have hElt : ∀ q, E q → q < H1.size := fun q h => Nat.lt_of_lt_of_le (hElt q h) hz1
          have hVS : va_S (fun q => s.heap.size ≤ q) s.heap H1 lcA := ⟨hz, fun q h1 _ => hk q h1, hL⟩
          have hmV0 := hmV
          obtain ⟨lw9, hg9, fS9, fE9, hob, -⟩ := hmV0
          refine lv_istore (lv' := [(5, .int (nI kk)), (0, .ref b), (1, .ref x), (2, .ref mo), (3, .ref ou), (4, .int (nI (5 * i)))]) hx hb dL_law_1048 hl (by decide) rfl (fun ls hl => ?_)
          refine lv_aload_n hx hb dL_law_1050 rfl (lv_at hl 3 rfl) ?_
          refine lv_aload_n hx hb dL_law_1051 rfl (lv_at hl 1 rfl) ?_
          refine lv_iload hx hb dL_law_1052 (lv_at hl 5 rfl) ?_
          refine lv_iconst (v := nI 1) hx hb dL_law_1054 (by decide) ?_
          refine lv_iadd hx hb dL_law_1055 ?_
          refine pw_ti (y := nI ((5 * i) + 1)) (nI_add _ _) ?_
          refine va_sld (A := (fun q => s.heap.size ≤ q)) (H0 := s.heap) hx hb hX hbl hbA hVS (vp_in_nI (show ((5 * i) + 1) < L by omega) (by omega)) dL_law_1056 ?_
          refine pw_ti (y := X1) hX1.symm ?_
          refine pw_call (F := (fun q => s.heap.size ≤ q)) (va_runV (As := [.int X1]) (rest := []) ⟨hx, hb, hml, hown, htA⟩ (m_count l G cA mo ao af sa ea n fo fb X1) (cwV 1 htA (gd_V wd573 wd574 wd575 wd28 wd576) rfl rfl rfl (by decide +kernel) (by rw [hR]; exact ⟨Nat.le_of_ble_eq_true rfl, Nat.le_of_ble_eq_true rfl⟩)) (pw_V (ci := 4) (q := (RM, TM, 8)) hKN hob rfl ⟨hA, hn, th0, hmV⟩) rfl rfl hl.1 rfl (lv_room (Nat.le_of_ble_eq_true rfl)) dL_law_1057 (by rw [hR]; constructor <;> (dsimp only; omega))) hL (fun q h => by rcases h with h | h | h <;> (rw [h]; assumption)) (fun v9 st9 t9 lcB h0 ha9 hL hq9 => ?_)
          obtain ⟨r, th, hv9, hrm, hmV, hz2, hk2⟩ := hq9
          cases hv9
          rw [h0] at hz2 hk2
          generalize t9.heap = H2 at hmV hz2 hk2 ⊢
          have hPV := PVE_k hPV (fun q h1 h2 => hk2 q (hEn q h2).2.1 (hEn q h2).2.2.2.2.1 (hEn q h2).2.2.2.2.2.1)
          have hou := al_k hou (hk2 ou (Ne.symm n_mo) (Ne.symm n_sa) (Ne.symm n_ea))
          have hk : ∀ q, q < s.heap.size → H2[q]? = s.heap[q]? := fun q h => (hk2 q (by omega) (by omega) (by omega)).trans (hk q h)
          have hz : s.heap.size ≤ H2.size := by omega
          have hElt : ∀ q, E q → q < H2.size := fun q h => by rw [hz2]; exact hElt q h
          have hmV0 := hmV
          obtain ⟨lw8, hg8, fS8, fE8, hob, -⟩ := hmV0
          refine lv_istore (lv' := [(6, .int r), (5, .int (nI kk)), (0, .ref b), (1, .ref x), (2, .ref mo), (3, .ref ou), (4, .int (nI (5 * i)))]) hx hb dL_law_1060 hl (by decide) rfl (fun ls hl => ?_)
          refine lv_aload_n hx hb dL_law_1062 rfl (lv_at hl 4 rfl) ?_
          refine vp_callSi (va_Run.run (va_runV (As := []) (rest := []) ⟨hx, hb, hml, hown, htA⟩ (m_thrown l G cA mo (mF th ao af n lw8 hg8 sa ea) th rfl) (cwV 0 htA (gd_V wd461 wd462 wd463 wd28 wd464) rfl rfl rfl (by decide +kernel) (by rw [hR]; exact ⟨Nat.le_of_ble_eq_true rfl, Nat.le_of_ble_eq_true rfl⟩)) (pw_V (ci := 4) (q := (RM, TM, 8)) hKN hob rfl hob) rfl rfl hl.1 rfl (lv_room (Nat.le_of_ble_eq_true rfl)) dL_law_1063 (by rw [hR]; constructor <;> (dsimp only; omega)))) (fun r9 hr9 => ?_)
          subst hr9
          obtain ⟨hth, hres⟩ := ag_count (O := (fun i k => fo (64 * i + k))) hrel hrm
          refine lv_iload hx hb dL_law_1066 (lv_at hl 1 rfl) ?_
          refine lv_icmp_eq (tgt := 1073) hx hb dL_law_1068 (by decide) (fun _ => ?_) (fun c9 => absurd hth c9)
          refine lv_iload hx hb dL_law_1073 (lv_at hl 1 rfl) ?_
          refine lv_if_ne (tgt := 1090) hx hb dL_law_1075 (by decide) (fun c2 => ?_) (fun c2 => ?_)
          · refine lv_goto (tgt := 1093) hx hb dL_law_1090 (by decide) ?_
            exact hnext n F fo fb g H2 lcB _ _ (by omega) (by omega) hn hPV ⟨_, hmV⟩ hou hk hz hElt hfb hL ls (lv_sub hl [2, 3, 4, 5, 6] rfl)
          · refine lv_aload_n hx hb dL_law_1078 rfl (lv_at hl 5 rfl) ?_
            refine lv_iconst (v := nI 0) hx hb dL_law_1079 (by decide) ?_
            refine pw_lald hx hb hK hou 0 rfl (show 0 < 1 by decide) (by decide) dL_law_1080 ?_
            refine lv_iload hx hb dL_law_1081 (lv_at hl 0 rfl) ?_
            refine lv_i2l hx hb dL_law_1083 rfl ?_
            refine W.lcmp hx hb dL_law_1084 ?_
            refine lv_if_eq (tgt := 1090) hx hb dL_law_1085 (by decide) (fun _ => ?_) (fun c9 => absurd ((cmp0 _ _).mpr (hres c2)) c9)
            refine lv_goto (tgt := 1093) hx hb dL_law_1090 (by decide) ?_
            exact hnext n F fo fb g H2 lcB _ _ (by omega) (by omega) hn hPV ⟨_, hmV⟩ hou hk hz hElt hfb hL ls (lv_sub hl [2, 3, 4, 5, 6] rfl)
        · refine lv_tableOut (tgt := 1093) hx hb dL_law_39 (by decide +kernel) (by decide) ?_
          exact hnext n F fo fb fu H8 lc8 _ _ (by omega) (by omega) hn hPV hmV hou hk hz hElt hfb hL ls (lv_sub hl [0, 1, 2, 3, 4] rfl)
        · refine lv_tableOut (tgt := 1093) hx hb dL_law_39 (by decide +kernel) (by decide) ?_
          exact hnext n F fo fb fu H8 lc8 _ _ (by omega) (by omega) hn hPV hmV hou hk hz hElt hfb hL ls (lv_sub hl [0, 1, 2, 3, 4] rfl)
        · refine lv_tableOut (tgt := 1093) hx hb dL_law_39 (by decide +kernel) (by decide) ?_
          exact hnext n F fo fb fu H8 lc8 _ _ (by omega) (by omega) hn hPV hmV hou hk hz hElt hfb hL ls (lv_sub hl [0, 1, 2, 3, 4] rfl)
  exact lp 512 0 0 (fun _ => false) (fun _ => 0) (fun _ => 0) (fun _ => 0) H5 lc2 (by omega) (by decide) hPV ⟨_, hmV⟩ hou hk hz hElt (fun i h => absurd h (Nat.not_lt_zero i)) hL ls (lv_sub hl [4, 3, 2, 1, 0] rfl)
