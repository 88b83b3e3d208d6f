set_option maxRecDepth 100000 in
set_option maxHeartbeats 4000000 in
theorem m_respond (l : Launch) (G : va_G) (cA : Nat → ClassId) (mo ao af sa ea n : Nat) (fo : Nat → Int64) (th : Int32) (lw hg : Int64) (a x : Nat) (ha : a < 50) (hx0 : x < 64) : Met l yM_respond wsM_respond ({ frames := 2, cells := 0, slots := 0, locals := 44 }) (PH G cA [.ref mo, .int (nI a), .int (nI x)] (fun H => (ao ≠ mo ∧ ob G 4 mo (mF th ao af n lw hg sa ea) H ∧ al (cA 0) ao 3200 fo H))) (fun _ st o t => o = .returned none ∧ ob G 4 mo (mF th ao af n (rl 63 x (fo (64 * a + x)) 64) (rh 63 x (fo (64 * a + x)) 64) sa ea) t.heap ∧ t.heap.size = st.heap.size ∧ ∀ q, q ≠ mo → t.heap[q]? = st.heap[q]?) 0 0 (fun q => q = mo) := by
  refine Met.ofW (cc := cM_respond) (maxL := 7) (ret := none) (by decide) rfl ?_
  intro p e s m args below meth c s₁ B hml hv
  obtain ⟨hav, hKN, hne, hob, hal⟩ := hv
  have hK := hKN.1
  have hx := B.exec
  have hb := B.bytes
  have hrt := B.returns
  have htA : ∀ w ∈ ALL, w.before args s = true := fun w h => atoms_spec (ws := wsM_respond) B.pre w (List.mem_cons_of_mem _ h)
  have hown : s.vm.findClass RM = some m.cls := findClass_of_methodNamed B.named
  have hlocks := B.notSynchronized
  refine pw_nm (fun R Q hR hQ => ?_)
  refine pw_entry (vs := [.ref mo, .int (nI a), .int (nI x)]) hav (Nat.le_of_ble_eq_true rfl) (fun ls hl => ?_)
  have hl : lv_has ls 7 [(0, .ref mo), (1, .int (nI a)), (2, .int (nI x))] := hl
  have hz : s.heap.size = s.heap.size := rfl
  have hk : ∀ q, q ≠ mo → s.heap[q]? = s.heap[q]? := fun _ _ => rfl
  have hL : ∀ z ∈ ([] : List Loc), (fun q => q = mo) z.base := fun _ h => by cases h
  refine lv_aload_n hx hb dM_respond_0 rfl (lv_at hl 0 rfl) ?_
  refine lv_lconst (v := 0) hx hb dM_respond_1 rfl ?_
  refine pw_put (ci := 4) (C := RM) (T := TM) (N := 8) (ty := .long) (F := fun q => q = mo) hx hb htA inM tyM tyM_ok nmM hown hK hob rfl 4 (by decide) (htA _ wd439) (fun _ h9 => h9) rfl (by decide +kernel) rfl rfl (Nat.le_of_ble_eq_true rfl) hL rfl dM_respond_2 (fun H1 lc2 hob1 hz1 hk1 hL => ?_)
  have hob : ob G 4 mo (mF th ao af n 0 hg sa ea) H1 := hob1
  have hal := al_k hal (hk1 ao hne)
  have hk : ∀ q, q ≠ mo → H1[q]? = s.heap[q]? := fun q h1 => (hk1 q h1).trans (hk q h1)
  have hz := hz1.trans hz
  refine lv_aload_n hx hb dM_respond_5 rfl (lv_at hl 0 rfl) ?_
  refine lv_lconst (v := 0) hx hb dM_respond_6 rfl ?_
  refine pw_put (ci := 4) (C := RM) (T := TM) (N := 8) (ty := .long) (F := fun q => q = mo) hx hb htA inM tyM tyM_ok nmM hown hK hob rfl 5 (by decide) (htA _ wd440) (fun _ h9 => h9) rfl (by decide +kernel) rfl rfl (Nat.le_of_ble_eq_true rfl) hL rfl dM_respond_7 (fun H3 lc4 hob1 hz1 hk1 hL => ?_)
  have hob : ob G 4 mo (mF th ao af n 0 0 sa ea) H3 := hob1
  have hal := al_k hal (hk1 ao hne)
  have hk : ∀ q, q ≠ mo → H3[q]? = s.heap[q]? := fun q h1 => (hk1 q h1).trans (hk q h1)
  have hz := hz1.trans hz
  refine lv_aload_n hx hb dM_respond_10 rfl (lv_at hl 0 rfl) ?_
  refine va_get (D := G) (ci := 4) (v := .ref ao) (C := RM) (T := TM) (N := 8) hx hb htA inM hown hK (ob_P hob) 0 rfl rfl 1 (by decide) (htA _ wd436) (fun _ h9 => h9) rfl dM_respond_11 ?_
  refine lv_bipush (v := nI 64) hx hb dM_respond_14 (by decide) ?_
  refine lv_iload_n hx hb dM_respond_16 rfl (lv_at hl 1 rfl) ?_
  refine lv_imul hx hb dM_respond_17 ?_
  refine pw_ti (y := nI (64 * a)) (pk_mul _ _) ?_
  refine lv_iload_n hx hb dM_respond_18 rfl (lv_at hl 2 rfl) ?_
  refine lv_iadd hx hb dM_respond_19 ?_
  refine pw_ti (y := nI ((64 * a) + x)) (nI_add _ _) ?_
  refine pw_lald hx hb hK hal 0 rfl (by omega) (by decide) dM_respond_20 ?_
  refine lv_lstore_n (lv' := [(3, .long (fo ((64 * a) + x))), (0, .ref mo), (1, .int (nI a)), (2, .int (nI x))]) hx hb dM_respond_21 rfl hl (by decide) rfl (fun ls hl => ?_)
  refine lv_iconst (v := nI 0) hx hb dM_respond_22 (by decide) ?_
  refine lv_istore (lv' := [(5, .int (nI 0)), (3, .long (fo ((64 * a) + x))), (0, .ref mo), (1, .int (nI a)), (2, .int (nI x))]) hx hb dM_respond_23 hl (by decide) rfl (fun ls hl => ?_)
  have lp : ∀ (k i : Nat) (H8 : Heap) (lc8 : List Loc), i + k = 64 → (ob G 4 mo (mF th ao af n (rl 63 x (fo (64 * a + x)) i) (rh 63 x (fo (64 * a + x)) i) sa ea) H8) → (al (cA 0) ao 3200 fo H8) → (H8.size = s.heap.size) → (∀ q, q ≠ mo → H8[q]? = s.heap[q]?) → (∀ z ∈ lc8, (fun q => q = mo) z.base) → ∀ ls : Array Slot, lv_has ls 7 [(0, .ref mo), (1, .int (nI a)), (2, .int (nI x)), (3, .long (fo (64 * a + x))), (5, .int (nI i))] → W p l e R s m args below meth c H8 lc8 0 0 Q (F0 m 25 ls []) := by
    intro k
    induction k with
    | zero =>
      intro i H8 lc8 hik hob hal hz hk hL ls hl
      have hi : i = 64 := by omega
      subst hi
      refine lv_iload hx hb dM_respond_25 (lv_at hl 4 rfl) ?_
      refine lv_bipush (v := nI 64) hx hb dM_respond_27 (by decide) ?_
      refine lv_icmp_ge (tgt := 99) hx hb dM_respond_29 (by decide) (fun _ => ?_) (fun c9 => absurd (Int32.le_refl _) c9)
      rw [hQ]
      exact W.vret hx hb hrt (fun t ht hW => ⟨rfl, by rw [ht]; exact hob, by rw [ht]; exact hz, by rw [ht]; exact hk⟩) hL dM_respond_99
    | succ k ih =>
      intro i H8 lc8 hik hob hal hz hk hL ls hl
      have hi : i < 64 := by omega
      refine lv_iload hx hb dM_respond_25 (lv_at hl 4 rfl) ?_
      refine lv_bipush (v := nI 64) hx hb dM_respond_27 (by decide) ?_
      refine lv_icmp_ge (tgt := 99) hx hb dM_respond_29 (by decide) (fun c9 => absurd c9 (nI_ge hi (by decide))) (fun _ => ?_)
      refine lv_lload_n hx hb dM_respond_32 rfl (lv_at hl 3 rfl) ?_
      refine lv_iload hx hb dM_respond_33 (lv_at hl 4 rfl) ?_
      refine lv_lshr hx hb dM_respond_35 rfl ?_
      refine lv_lconst (v := 1) hx hb dM_respond_36 rfl ?_
      refine lv_land hx hb dM_respond_37 ?_
      refine lv_lconst (v := 0) hx hb dM_respond_38 rfl ?_
      refine W.lcmp hx hb dM_respond_39 ?_
      refine lv_if_ne (tgt := 46) hx hb dM_respond_40 (by decide) (fun c1 => ?_) (fun c1 => ?_)
      · have hq : hbit (fo (64 * a + x)) i = true := ts_nf (fun hz9 => c1 ((cmp0 _ _).mpr ((hb_sshr _ hi).mpr hz9)))
        refine lv_iload_n hx hb dM_respond_46 rfl (lv_at hl 2 rfl) ?_
        refine lv_iload hx hb dM_respond_47 (lv_at hl 4 rfl) ?_
        refine vp_callSi (va_Run.run (va_runS (As := [.int (nI x), .int (nI i)]) (rest := []) ⟨hx, hb, hml, hown, htA⟩ (m_action l G cA x hx0 i hi) (va_cwS 2 htA (gd_S wd555 wd556 wd28 wd557) rfl rfl rfl (by decide +kernel) (by rw [hR]; exact ⟨Nat.le_of_ble_eq_true rfl, Nat.le_of_ble_eq_true rfl⟩)) (pw_S hKN trivial) rfl rfl hl.1 rfl (lv_room (Nat.le_of_ble_eq_true rfl)) dM_respond_49 (by rw [hR]; exact ⟨Nat.le_of_ble_eq_true rfl, Nat.le_of_ble_eq_true rfl⟩))) (fun r5 hr5 => ?_)
        subst hr5
        have hact := act_lt x i
        refine lv_istore (lv' := [(6, .int (nI (act x i))), (0, .ref mo), (1, .int (nI a)), (2, .int (nI x)), (3, .long (fo (64 * a + x))), (5, .int (nI i))]) hx hb dM_respond_52 hl (by decide) rfl (fun ls hl => ?_)
        refine lv_iload hx hb dM_respond_54 (lv_at hl 0 rfl) ?_
        refine lv_bipush (v := nI 63) hx hb dM_respond_56 (by decide) ?_
        refine lv_icmp_ge (tgt := 77) hx hb dM_respond_58 (by decide) (fun c2 => ?_) (fun c2 => ?_)
        · have hq2 : ¬ act x i < 63 := by have := (nI_leI (by decide) (by omega)).mp c2; omega
          refine lv_aload_n hx hb dM_respond_77 rfl (lv_at hl 1 rfl) ?_
          refine lv_dup hx hb dM_respond_78 rfl ?_
          refine va_get (D := G) (ci := 4) (v := .long (rh 63 x (fo (64 * a + x)) i)) (C := RM) (T := TM) (N := 8) hx hb htA inM hown hK (ob_P hob) 0 rfl rfl 5 (by decide) (htA _ wd440) (fun _ h9 => h9) rfl dM_respond_79 ?_
          refine lv_lconst (v := 1) hx hb dM_respond_82 rfl ?_
          refine lv_iload hx hb dM_respond_83 (lv_at hl 0 rfl) ?_
          refine lv_bipush (v := nI 63) hx hb dM_respond_85 (by decide) ?_
          refine lv_isub hx hb dM_respond_87 ?_
          refine pw_ti (y := nI (act x i - 63)) (pk_sub (by omega)) ?_
          refine lv_lshl hx hb dM_respond_88 rfl ?_
          refine lv_lor hx hb dM_respond_89 ?_
          refine pw_tl (y := rh 63 x (fo (64 * a + x)) (i + 1)) (rh_z hq hq2) ?_
          refine pw_put (ci := 4) (C := RM) (T := TM) (N := 8) (ty := .long) (F := fun q => q = mo) hx hb htA inM tyM tyM_ok nmM hown hK hob rfl 5 (by decide) (htA _ wd440) (fun _ h9 => h9) rfl (by decide +kernel) rfl rfl (Nat.le_of_ble_eq_true rfl) hL rfl dM_respond_90 (fun H6 lc7 hob1 hz1 hk1 hL => ?_)
          have hob : ob G 4 mo (mF th ao af n (rl 63 x (fo (64 * a + x)) i) (rh 63 x (fo (64 * a + x)) (i + 1)) sa ea) H6 := hob1
          have hal := al_k hal (hk1 ao hne)
          have hk : ∀ q, q ≠ mo → H6[q]? = s.heap[q]? := fun q h1 => (hk1 q h1).trans (hk q h1)
          have hz := hz1.trans hz
          rw [rl_z hq hq2] at hob
          refine lv_iinc (v := nI (i + 1)) (lv' := [(5, .int (nI (i + 1))), (6, .int (nI (act x i))), (0, .ref mo), (1, .int (nI a)), (2, .int (nI x)), (3, .long (fo (64 * a + x)))]) hx hb dM_respond_93 hl (k := 5) rfl (nI_1 i) (by decide) rfl (fun ls hl => ?_)
          refine lv_goto (tgt := 25) hx hb dM_respond_96 (by decide) ?_
          exact ih (i + 1) H6 lc7 (by omega) hob hal hz hk hL ls (lv_sub hl [2, 3, 4, 5, 0] rfl)
        · have hq2 : act x i < 63 := by have : ¬ 63 ≤ act x i := fun q => c2 ((nI_leI (by decide) (by omega)).mpr q); omega
          refine lv_aload_n hx hb dM_respond_61 rfl (lv_at hl 1 rfl) ?_
          refine lv_dup hx hb dM_respond_62 rfl ?_
          refine va_get (D := G) (ci := 4) (v := .long (rl 63 x (fo (64 * a + x)) i)) (C := RM) (T := TM) (N := 8) hx hb htA inM hown hK (ob_P hob) 0 rfl rfl 4 (by decide) (htA _ wd439) (fun _ h9 => h9) rfl dM_respond_63 ?_
          refine lv_lconst (v := 1) hx hb dM_respond_66 rfl ?_
          refine lv_iload hx hb dM_respond_67 (lv_at hl 0 rfl) ?_
          refine lv_lshl hx hb dM_respond_69 rfl ?_
          refine lv_lor hx hb dM_respond_70 ?_
          refine pw_tl (y := rl 63 x (fo (64 * a + x)) (i + 1)) (rl_y hq hq2) ?_
          refine pw_put (ci := 4) (C := RM) (T := TM) (N := 8) (ty := .long) (F := fun q => q = mo) hx hb htA inM tyM tyM_ok nmM hown hK hob rfl 4 (by decide) (htA _ wd439) (fun _ h9 => h9) rfl (by decide +kernel) rfl rfl (Nat.le_of_ble_eq_true rfl) hL rfl dM_respond_71 (fun H6 lc7 hob1 hz1 hk1 hL => ?_)
          have hob : ob G 4 mo (mF th ao af n (rl 63 x (fo (64 * a + x)) (i + 1)) (rh 63 x (fo (64 * a + x)) i) sa ea) H6 := hob1
          have hal := al_k hal (hk1 ao hne)
          have hk : ∀ q, q ≠ mo → H6[q]? = s.heap[q]? := fun q h1 => (hk1 q h1).trans (hk q h1)
          have hz := hz1.trans hz
          rw [rh_y hq hq2] at hob
          refine lv_goto (tgt := 93) hx hb dM_respond_74 (by decide) ?_
          refine lv_iinc (v := nI (i + 1)) (lv' := [(5, .int (nI (i + 1))), (6, .int (nI (act x i))), (0, .ref mo), (1, .int (nI a)), (2, .int (nI x)), (3, .long (fo (64 * a + x)))]) hx hb dM_respond_93 hl (k := 5) rfl (nI_1 i) (by decide) rfl (fun ls hl => ?_)
          refine lv_goto (tgt := 25) hx hb dM_respond_96 (by decide) ?_
          exact ih (i + 1) H6 lc7 (by omega) hob hal hz hk hL ls (lv_sub hl [2, 3, 4, 5, 0] rfl)
      · have hq : hbit (fo (64 * a + x)) i = false := (hb_sshr _ hi).mp ((cmp0 _ _).mp c1)
        rw [rl_n hq, rh_n hq] at hob
        refine lv_goto (tgt := 93) hx hb dM_respond_43 (by decide) ?_
        refine lv_iinc (v := nI (i + 1)) (lv' := [(5, .int (nI (i + 1))), (0, .ref mo), (1, .int (nI a)), (2, .int (nI x)), (3, .long (fo (64 * a + x)))]) hx hb dM_respond_93 hl (k := 4) rfl (nI_1 i) (by decide) rfl (fun ls hl => ?_)
        refine lv_goto (tgt := 25) hx hb dM_respond_96 (by decide) ?_
        exact ih (i + 1) H8 lc8 (by omega) hob hal hz hk hL ls (lv_sub hl [1, 2, 3, 4, 0] rfl)
  exact lp (64) 0 H3 lc4 (by omega) hob hal hz hk hL ls (lv_sub hl [2, 3, 4, 1, 0] rfl)

set_option maxRecDepth 100000 in
set_option maxHeartbeats 4000000 in
theorem m_uniform (l : Launch) (G : va_G) (cA : Nat → ClassId) (mo ao af sa ea n : Nat) (fo : Nat → Int64) (th : Int32) (lw hg : Int64) (a x m0 : Nat) (ha : a < 50) (hm : 1 ≤ m0) (hx0 : x + m0 ≤ 64) : Met l yM_uniform wsM_uniform ({ frames := 3, cells := 0, slots := 0, locals := 70 }) (PH G cA [.ref mo, .int (nI a), .int (nI x), .int (nI m0)] (fun H => (ao ≠ mo ∧ ob G 4 mo (mF th ao af n lw hg sa ea) H ∧ al (cA 0) ao 3200 fo H))) (fun _ st o t => o = .returned (some (.int (bI (uni 63 (fun k => fo (64 * a + k)) x m0)))) ∧ (∃ lw2 hg2, ob G 4 mo (mF th ao af n lw2 hg2 sa ea) t.heap) ∧ t.heap.size = st.heap.size ∧ ∀ q, q ≠ mo → t.heap[q]? = st.heap[q]?) 0 0 (fun q => q = mo) := by
  refine Met.ofW (cc := cM_uniform) (maxL := 9) (ret := (some .boolean)) (by decide) rfl ?_
  intro p e s m args below meth c s₁ B hml hv
  obtain ⟨hav, hKN, hne, hob, hal⟩ := hv
  have hK := hKN.1
  have hx := B.exec
  have hb := B.bytes
  have hrt := B.returns
  have htA : ∀ w ∈ ALL, w.before args s = true := fun w h => atoms_spec (ws := wsM_uniform) B.pre w (List.mem_cons_of_mem _ h)
  have hown : s.vm.findClass RM = some m.cls := findClass_of_methodNamed B.named
  have hlocks := B.notSynchronized
  refine pw_nm (fun R Q hR hQ => ?_)
  refine pw_entry (vs := [.ref mo, .int (nI a), .int (nI x), .int (nI m0)]) hav (Nat.le_of_ble_eq_true rfl) (fun ls hl => ?_)
  have hl : lv_has ls 9 [(0, .ref mo), (1, .int (nI a)), (2, .int (nI x)), (3, .int (nI m0))] := hl
  have hz : s.heap.size = s.heap.size := rfl
  have hk : ∀ q, q ≠ mo → s.heap[q]? = s.heap[q]? := fun _ _ => rfl
  have hL : ∀ z ∈ ([] : List Loc), (fun q => q = mo) z.base := fun _ h => by cases h
  refine lv_aload_n hx hb dM_uniform_0 rfl (lv_at hl 0 rfl) ?_
  refine lv_iload_n hx hb dM_uniform_1 rfl (lv_at hl 1 rfl) ?_
  refine lv_iload_n hx hb dM_uniform_2 rfl (lv_at hl 2 rfl) ?_
  refine pw_call (F := fun q => q = mo) (va_runV (As := [.int (nI a), .int (nI x)]) (rest := []) ⟨hx, hb, hml, hown, htA⟩ (m_respond l G cA mo ao af sa ea n fo th lw hg a x ha (by omega)) (cwV 2 htA (gd_V wd551 wd553 wd24 wd28 wd554) rfl rfl rfl (by decide +kernel) (by rw [hR]; exact ⟨Nat.le_of_ble_eq_true rfl, Nat.le_of_ble_eq_true rfl⟩)) (pw_V (ci := 4) (q := (RM, TM, 8)) hKN hob rfl ⟨hne, hob, hal⟩) rfl rfl hl.1 rfl (lv_room (Nat.le_of_ble_eq_true rfl)) dM_uniform_3 (by rw [hR]; exact ⟨Nat.le_of_ble_eq_true rfl, Nat.le_of_ble_eq_true rfl⟩)) hL (fun q h => h) (fun v9 st9 t9 lc2 h0 ha9 hL hq9 => ?_)
  obtain ⟨hv9, hob, hz1, hk1⟩ := hq9
  cases hv9
  rw [h0] at hz1 hk1
  generalize t9.heap = H1 at hob hz1 hk1 ⊢
  have hal := al_k hal (hk1 ao hne)
  have hk : ∀ q, q ≠ mo → H1[q]? = s.heap[q]? := fun q h1 => (hk1 q h1).trans (hk q h1)
  have hz := hz1.trans hz
  refine lv_aload_n hx hb dM_uniform_6 rfl (lv_at hl 0 rfl) ?_
  refine va_get (D := G) (ci := 4) (v := .long (rl 63 x (fo (64 * a + x)) 64)) (C := RM) (T := TM) (N := 8) hx hb htA inM hown hK (ob_P hob) 0 rfl rfl 4 (by decide) (htA _ wd439) (fun _ h9 => h9) rfl dM_uniform_7 ?_
  refine lv_lstore (lv' := [(4, .long (rl 63 x (fo (64 * a + x)) 64)), (0, .ref mo), (1, .int (nI a)), (2, .int (nI x)), (3, .int (nI m0))]) hx hb dM_uniform_10 hl (by decide) rfl (fun ls hl => ?_)
  refine lv_aload_n hx hb dM_uniform_12 rfl (lv_at hl 1 rfl) ?_
  refine va_get (D := G) (ci := 4) (v := .long (rh 63 x (fo (64 * a + x)) 64)) (C := RM) (T := TM) (N := 8) hx hb htA inM hown hK (ob_P hob) 0 rfl rfl 5 (by decide) (htA _ wd440) (fun _ h9 => h9) rfl dM_uniform_13 ?_
  refine lv_lstore (lv' := [(6, .long (rh 63 x (fo (64 * a + x)) 64)), (4, .long (rl 63 x (fo (64 * a + x)) 64)), (0, .ref mo), (1, .int (nI a)), (2, .int (nI x)), (3, .int (nI m0))]) hx hb dM_uniform_16 hl (by decide) rfl (fun ls hl => ?_)
  refine lv_iload_n hx hb dM_uniform_18 rfl (lv_at hl 4 rfl) ?_
  refine lv_iconst (v := nI 1) hx hb dM_uniform_19 (by decide) ?_
  refine lv_iadd hx hb dM_uniform_20 ?_
  refine pw_ti (y := nI (x + 1)) (nI_add _ _) ?_
  refine lv_istore (lv' := [(8, .int (nI (x + 1))), (6, .long (rh 63 x (fo (64 * a + x)) 64)), (4, .long (rl 63 x (fo (64 * a + x)) 64)), (0, .ref mo), (1, .int (nI a)), (2, .int (nI x)), (3, .int (nI m0))]) hx hb dM_uniform_21 hl (by decide) rfl (fun ls hl => ?_)
  have lp : ∀ (k i : Nat) (H8 : Heap) (lc8 : List Loc), i + k = m0 → (∃ lw2 hg2, ob G 4 mo (mF th ao af n lw2 hg2 sa ea) H8) → (al (cA 0) ao 3200 fo H8) → (H8.size = s.heap.size) → (∀ q, q ≠ mo → H8[q]? = s.heap[q]?) → (∀ z ∈ lc8, (fun q => q = mo) z.base) → (∀ q, q < i → rl 63 (x + q) (fo (64 * a + (x + q))) 64 = rl 63 x (fo (64 * a + x)) 64 ∧ rh 63 (x + q) (fo (64 * a + (x + q))) 64 = rh 63 x (fo (64 * a + x)) 64) → ∀ ls : Array Slot, lv_has ls 9 [(0, .ref mo), (1, .int (nI a)), (2, .int (nI x)), (3, .int (nI m0)), (4, .long (rl 63 x (fo (64 * a + x)) 64)), (6, .long (rh 63 x (fo (64 * a + x)) 64)), (8, .int (nI (x + i)))] → W p l e R s m args below meth c H8 lc8 0 0 Q (F0 m 23 ls []) := by
    intro k
    induction k with
    | zero =>
      intro i H8 lc8 hik hob hal hz hk hL hinv ls hl
      have hi : i = m0 := by omega
      subst hi
      obtain ⟨lw2, hg2, hob⟩ := hob
      refine lv_iload hx hb dM_uniform_23 (lv_at hl 6 rfl) ?_
      refine lv_iload_n hx hb dM_uniform_25 rfl (lv_at hl 2 rfl) ?_
      refine lv_iload_n hx hb dM_uniform_26 rfl (lv_at hl 3 rfl) ?_
      refine lv_iadd hx hb dM_uniform_27 ?_
      refine pw_ti (y := nI (x + i)) (nI_add _ _) ?_
      refine lv_icmp_ge (tgt := 66) hx hb dM_uniform_28 (by decide) (fun _ => ?_) (fun c9 => absurd (Int32.le_refl _) c9)
      refine lv_iconst (v := nI 1) hx hb dM_uniform_66 (by decide) ?_
      rw [hQ]
      exact W.zret (v := nI 1) (ty := .boolean) hx hb hrt (by rfl) (fun t ht hW => ⟨by rw [uni_t (th := 63) (f := (fun k => fo (64 * a + k))) (x := x) (n := i) hinv]; rfl, ⟨_, _, by rw [ht]; exact hob⟩, by rw [ht]; exact hz, by rw [ht]; exact hk⟩) hL dM_uniform_67
    | succ k ih =>
      intro i H8 lc8 hik hob hal hz hk hL hinv ls hl
      have hi : i < m0 := by omega
      obtain ⟨lw2, hg2, hob⟩ := hob
      refine lv_iload hx hb dM_uniform_23 (lv_at hl 6 rfl) ?_
      refine lv_iload_n hx hb dM_uniform_25 rfl (lv_at hl 2 rfl) ?_
      refine lv_iload_n hx hb dM_uniform_26 rfl (lv_at hl 3 rfl) ?_
      refine lv_iadd hx hb dM_uniform_27 ?_
      refine pw_ti (y := nI (x + m0)) (nI_add _ _) ?_
      refine lv_icmp_ge (tgt := 66) hx hb dM_uniform_28 (by decide) (fun c9 => absurd c9 (nI_ge (by omega) (by omega))) (fun _ => ?_)
      refine lv_aload_n hx hb dM_uniform_31 rfl (lv_at hl 0 rfl) ?_
      refine lv_iload_n hx hb dM_uniform_32 rfl (lv_at hl 1 rfl) ?_
      refine lv_iload hx hb dM_uniform_33 (lv_at hl 6 rfl) ?_
      refine pw_call (F := fun q => q = mo) (va_runV (As := [.int (nI a), .int (nI (x + i))]) (rest := []) ⟨hx, hb, hml, hown, htA⟩ (m_respond l G cA mo ao af sa ea n fo th lw2 hg2 a (x + i) ha (by omega)) (cwV 2 htA (gd_V wd551 wd553 wd24 wd28 wd554) rfl rfl rfl (by decide +kernel) (by rw [hR]; exact ⟨Nat.le_of_ble_eq_true rfl, Nat.le_of_ble_eq_true rfl⟩)) (pw_V (ci := 4) (q := (RM, TM, 8)) hKN hob rfl ⟨hne, hob, hal⟩) rfl rfl hl.1 rfl (lv_room (Nat.le_of_ble_eq_true rfl)) dM_uniform_35 (by rw [hR]; exact ⟨Nat.le_of_ble_eq_true rfl, Nat.le_of_ble_eq_true rfl⟩)) hL (fun q h => h) (fun v9 st9 t9 lc4 h0 ha9 hL hq9 => ?_)
      obtain ⟨hv9, hob, hz1, hk1⟩ := hq9
      cases hv9
      rw [h0] at hz1 hk1
      generalize t9.heap = H3 at hob hz1 hk1 ⊢
      have hal := al_k hal (hk1 ao hne)
      have hk : ∀ q, q ≠ mo → H3[q]? = s.heap[q]? := fun q h1 => (hk1 q h1).trans (hk q h1)
      have hz := hz1.trans hz
      refine lv_aload_n hx hb dM_uniform_38 rfl (lv_at hl 0 rfl) ?_
      refine va_get (D := G) (ci := 4) (v := .long (rl 63 (x + i) (fo (64 * a + (x + i))) 64)) (C := RM) (T := TM) (N := 8) hx hb htA inM hown hK (ob_P hob) 0 rfl rfl 4 (by decide) (htA _ wd439) (fun _ h9 => h9) rfl dM_uniform_39 ?_
      refine lv_lload hx hb dM_uniform_42 (lv_at hl 4 rfl) ?_
      refine W.lcmp hx hb dM_uniform_44 ?_
      refine lv_if_ne (tgt := 58) hx hb dM_uniform_45 (by decide) (fun c1 => ?_) (fun c1 => ?_)
      · refine lv_iconst (v := nI 0) hx hb dM_uniform_58 (by decide) ?_
        rw [hQ]
        exact W.zret (v := nI 0) (ty := .boolean) hx hb hrt (by rfl) (fun t ht hW => ⟨by rw [uni_f (th := 63) (f := (fun k => fo (64 * a + k))) (x := x) (n := m0) (q := i) hi (fun q => c1 ((cmp0 _ _).mpr q.1))]; rfl, ⟨_, _, by rw [ht]; exact hob⟩, by rw [ht]; exact hz, by rw [ht]; exact hk⟩) hL dM_uniform_59
      · have hq := (cmp0 _ _).mp c1
        refine lv_aload_n hx hb dM_uniform_48 rfl (lv_at hl 0 rfl) ?_
        refine va_get (D := G) (ci := 4) (v := .long (rh 63 (x + i) (fo (64 * a + (x + i))) 64)) (C := RM) (T := TM) (N := 8) hx hb htA inM hown hK (ob_P hob) 0 rfl rfl 5 (by decide) (htA _ wd440) (fun _ h9 => h9) rfl dM_uniform_49 ?_
        refine lv_lload hx hb dM_uniform_52 (lv_at hl 5 rfl) ?_
        refine W.lcmp hx hb dM_uniform_54 ?_
        refine lv_if_eq (tgt := 60) hx hb dM_uniform_55 (by decide) (fun c2 => ?_) (fun c2 => ?_)
        · have hq2 := (cmp0 _ _).mp c2
          refine lv_iinc (v := nI ((x + i) + 1)) (lv' := [(8, .int (nI ((x + i) + 1))), (0, .ref mo), (1, .int (nI a)), (2, .int (nI x)), (3, .int (nI m0)), (4, .long (rl 63 x (fo (64 * a + x)) 64)), (6, .long (rh 63 x (fo (64 * a + x)) 64))]) hx hb dM_uniform_60 hl (k := 6) rfl (nI_1 (x + i)) (by decide) rfl (fun ls hl => ?_)
          refine lv_goto (tgt := 23) hx hb dM_uniform_63 (by decide) ?_
          exact ih (i + 1) H3 lc4 (by omega) (⟨_, _, hob⟩) hal hz hk hL (lt_s hinv ⟨hq, hq2⟩) ls (lv_sub hl [1, 2, 3, 4, 5, 6, 0] rfl)
        · refine lv_iconst (v := nI 0) hx hb dM_uniform_58 (by decide) ?_
          rw [hQ]
          exact W.zret (v := nI 0) (ty := .boolean) hx hb hrt (by rfl) (fun t ht hW => ⟨by rw [uni_f (th := 63) (f := (fun k => fo (64 * a + k))) (x := x) (n := m0) (q := i) hi (fun q => c2 ((cmp0 _ _).mpr q.2))]; rfl, ⟨_, _, by rw [ht]; exact hob⟩, by rw [ht]; exact hz, by rw [ht]; exact hk⟩) hL dM_uniform_59
  exact lp (m0 - 1) 1 H1 lc2 (by omega) (⟨_, _, hob⟩) hal hz hk hL (fun q hq => by have e9 : q = 0 := (by omega); subst e9; exact ⟨rfl, rfl⟩) ls (lv_sub hl [3, 4, 5, 6, 2, 1, 0] rfl)
