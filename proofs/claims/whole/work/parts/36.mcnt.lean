set_option maxRecDepth 100000 in
set_option maxHeartbeats 4000000 in
theorem m_hops (l : Launch) (G : va_G) (cA : Nat → ClassId) (mo ao af sa ea n : Nat) (fo : Nat → Int64) (fb : Nat → Int32) (v q : Int32) (z : Int64) : Met l yM_hops wsM_hops ({ frames := 2, cells := 0, slots := 0, locals := 43 }) (PH G cA [.ref mo, .int v, .int q, .long z] (fun H => (mA mo ao af sa ea ∧ n ≤ 50 ∧ ∃ th, mV G cA mo ao af sa ea n fo fb th H))) (mI G cA mo ao af sa ea n fo fb (fun r th => (inb n v = false ∧ th = nI 1) ∨ (inb n v = true ∧ inb 64 q = false ∧ th = nI 2) ∨ (∃ a x, a < n ∧ x < 64 ∧ v = nI a ∧ q = nI x ∧ th = nI 0 ∧ hopR (fun k => fo (64 * a + k)) x z r))) 0 0 (mW mo sa ea) := by
  refine Met.ofW (cc := cM_hops) (maxL := 8) (ret := (some .int)) (by decide) rfl ?_
  intro p e s m args below meth c s₁ B hml hv
  obtain ⟨hav, hKN, hA, hn, th0, lw, hg, fS, fE, hob, hal, hab, hsl, hel⟩ := hv
  have hK := hKN.1
  have hx := B.exec
  have hb := B.bytes
  have hrt := B.returns
  have htA : ∀ w ∈ ALL, w.before args s = true := fun w h => atoms_spec (ws := wsM_hops) B.pre w (List.mem_cons_of_mem _ h)
  have hown : s.vm.findClass RM = some m.cls := findClass_of_methodNamed B.named
  have hlocks := B.notSynchronized
  refine pw_nm (fun R Q hR hQ => ?_)
  refine pw_entry (vs := [.ref mo, .int v, .int q, .long z]) hav (Nat.le_of_ble_eq_true rfl) (fun ls hl => ?_)
  have hl : lv_has ls 8 [(0, .ref mo), (1, .int v), (2, .int q), (3, .long z)] := hl
  have hz : s.heap.size = s.heap.size := rfl
  have hk : ∀ q, q ≠ mo → q ≠ sa → q ≠ ea → s.heap[q]? = s.heap[q]? := fun _ _ _ _ => rfl
  have hL : ∀ z ∈ ([] : List Loc), mW mo sa ea z.base := fun _ h => by cases h
  refine lv_aload_n hx hb dM_hops_0 rfl (lv_at hl 0 rfl) ?_
  refine lv_iconst (v := nI 0) hx hb dM_hops_1 (by decide) ?_
  refine pw_put (ci := 4) (C := RM) (T := TM) (N := 8) (ty := .int) (F := mW mo sa ea) hx hb htA inM tyM tyM_ok nmM hown hK hob rfl 0 (by decide) (htA _ wd435) (fun _ h9 => h9) rfl (by decide +kernel) rfl rfl (Nat.le_of_ble_eq_true rfl) hL (Or.inl rfl) dM_hops_2 (fun H1 lc2 hob1 hz1 hk1 hL => ?_)
  have hob : ob G 4 mo (mF (nI 0) ao af n lw hg sa ea) H1 := hob1
  have hal := al_k hal (hk1 ao hA.1)
  have hab := ai_k hab (hk1 af hA.2.1)
  have hsl := ai_k hsl (hk1 sa hA.2.2.1)
  have hel := ai_k hel (hk1 ea hA.2.2.2.1)
  have hk : ∀ q, q ≠ mo → q ≠ sa → q ≠ ea → H1[q]? = s.heap[q]? := fun q h1 h2 h3 => (hk1 q h1).trans (hk q h1 h2 h3)
  have hz := hz1.trans hz
  refine lv_aload_n hx hb dM_hops_5 rfl (lv_at hl 0 rfl) ?_
  refine lv_iload_n hx hb dM_hops_6 rfl (lv_at hl 1 rfl) ?_
  refine vp_callSi (va_Run.run (va_runV (As := [.int v]) (rest := []) ⟨hx, hb, hml, hown, htA⟩ (m_made l G cA mo n (mF (nI 0) ao af n lw hg sa ea) v rfl (by omega)) (cwV 1 htA (gd_V wd476 wd478 wd15 wd28 wd479) rfl rfl rfl (by decide +kernel) (by rw [hR]; exact ⟨Nat.le_of_ble_eq_true rfl, Nat.le_of_ble_eq_true rfl⟩)) (pw_V (ci := 4) (q := (RM, TM, 8)) hKN hob rfl hob) rfl rfl hl.1 rfl (lv_room (Nat.le_of_ble_eq_true rfl)) dM_hops_7 (by rw [hR]; exact ⟨Nat.le_of_ble_eq_true rfl, Nat.le_of_ble_eq_true rfl⟩))) (fun r3 hr3 => ?_)
  subst hr3
  refine lv_if_ne (tgt := 19) hx hb dM_hops_10 (by decide) (fun c1 => ?_) (fun c1 => ?_)
  · have hq := bI_ne.mp c1
    obtain ⟨a, ha, rfl⟩ := inb_t (by omega) hq
    refine lv_iload_n hx hb dM_hops_19 rfl (lv_at hl 2 rfl) ?_
    refine lv_iconst (v := nI 0) hx hb dM_hops_20 (by decide) ?_
    refine lv_bipush (v := nI 63) hx hb dM_hops_21 (by decide) ?_
    refine vp_callSi (va_Run.run (va_runS (As := [.int q, .int (nI 0), .int (nI 63)]) (rest := []) ⟨hx, hb, hml, hown, htA⟩ (m_in l G cA q (nI 0) (nI 63)) (va_cwS 3 htA (gd_S wd473 wd474 wd28 wd475) rfl rfl rfl (by decide +kernel) (by rw [hR]; exact ⟨Nat.le_of_ble_eq_true rfl, Nat.le_of_ble_eq_true rfl⟩)) (pw_S hKN trivial) rfl rfl hl.1 rfl (lv_room (Nat.le_of_ble_eq_true rfl)) dM_hops_23 (by rw [hR]; exact ⟨Nat.le_of_ble_eq_true rfl, Nat.le_of_ble_eq_true rfl⟩))) (fun r4 hr4 => ?_)
    subst hr4
    refine pw_ti (y := bI (inb 64 q)) (by rw [in_63 q 63 64 rfl (by decide)]) ?_
    refine lv_if_ne (tgt := 35) hx hb dM_hops_26 (by decide) (fun c2 => ?_) (fun c2 => ?_)
    · obtain ⟨x, hx0, rfl⟩ := inb_t (by decide) (bI_ne.mp c2)
      refine lv_lconst (v := 1) hx hb dM_hops_35 rfl ?_
      refine lv_iload_n hx hb dM_hops_36 rfl (lv_at hl 2 rfl) ?_
      refine lv_lshl hx hb dM_hops_37 rfl ?_
      refine pw_tl (y := nw (fun k => fo (64 * a + k)) x 0) rfl ?_
      refine lv_lstore (lv' := [(5, .long (nw (fun k => fo (64 * a + k)) x 0)), (0, .ref mo), (1, .int (nI a)), (2, .int (nI x)), (3, .long z)]) hx hb dM_hops_38 hl (by decide) rfl (fun ls hl => ?_)
      refine lv_iconst (v := nI 0) hx hb dM_hops_40 (by decide) ?_
      refine lv_istore (lv' := [(7, .int (nI 0)), (5, .long (nw (fun k => fo (64 * a + k)) x 0)), (0, .ref mo), (1, .int (nI a)), (2, .int (nI x)), (3, .long z)]) hx hb dM_hops_41 hl (by decide) rfl (fun ls hl => ?_)
      have lp : ∀ (k i : Nat), i + k = 65 → (∀ j, j < i → nw (fun k => fo (64 * a + k)) x j &&& z = 0) → ∀ ls : Array Slot, lv_has ls 8 [(0, .ref mo), (1, .int (nI a)), (3, .long z), (5, .long (nw (fun k => fo (64 * a + k)) x i)), (7, .int (nI i))] → W p l e R s m args below meth c H1 lc2 0 0 Q (F0 m 43 ls []) := by
        intro k
        induction k with
        | zero =>
          intro i hik hinv ls hl
          have hi : i = 65 := by omega
          subst hi
          refine lv_iload hx hb dM_hops_43 (lv_at hl 4 rfl) ?_
          refine lv_bipush (v := nI 65) hx hb dM_hops_45 (by decide) ?_
          refine lv_icmp_ge (tgt := 77) hx hb dM_hops_47 (by decide) (fun _ => ?_) (fun c9 => absurd (Int32.le_refl _) c9)
          refine lv_iconst (v := (-1)) hx hb dM_hops_77 (by decide) ?_
          rw [hQ]
          exact W.iret (v := (-1)) hx hb hrt (fun t ht hW => ⟨_, (nI 0), rfl, (Or.inr (Or.inr ⟨a, x, ha, hx0, rfl, rfl, rfl, hop_all hx0 hinv⟩)), ⟨lw, hg, fS, fE, by rw [ht]; exact ⟨hob, hal, hab, hsl, hel⟩⟩, by rw [ht]; exact hz, by rw [ht]; exact hk⟩) hL dM_hops_78
        | succ k ih =>
          intro i hik hinv ls hl
          have hi : i < 65 := by omega
          refine lv_iload hx hb dM_hops_43 (lv_at hl 4 rfl) ?_
          refine lv_bipush (v := nI 65) hx hb dM_hops_45 (by decide) ?_
          refine lv_icmp_ge (tgt := 77) hx hb dM_hops_47 (by decide) (fun c9 => absurd c9 (nI_ge hi (by decide))) (fun _ => ?_)
          refine lv_lload hx hb dM_hops_50 (lv_at hl 3 rfl) ?_
          refine lv_lload_n hx hb dM_hops_52 rfl (lv_at hl 2 rfl) ?_
          refine lv_land hx hb dM_hops_53 ?_
          refine lv_lconst (v := 0) hx hb dM_hops_54 rfl ?_
          refine W.lcmp hx hb dM_hops_55 ?_
          refine lv_if_eq (tgt := 62) hx hb dM_hops_56 (by decide) (fun c3 => ?_) (fun c3 => ?_)
          · have hq3 := (cmp0 _ _).mp c3
            refine lv_aload_n hx hb dM_hops_62 rfl (lv_at hl 0 rfl) ?_
            refine lv_iload_n hx hb dM_hops_63 rfl (lv_at hl 1 rfl) ?_
            refine lv_lload hx hb dM_hops_64 (lv_at hl 3 rfl) ?_
            refine vp_callSl (va_Run.run (va_runV (As := [.int (nI a), .long (nw (fun k => fo (64 * a + k)) x i)]) (rest := []) ⟨hx, hb, hml, hown, htA⟩ (m_all l G cA mo ao (mF (nI 0) ao af n lw hg sa ea) fo a (nw (fun k => fo (64 * a + k)) x i) rfl (by omega)) (cwV 2 htA (gd_V wd494 wd496 wd18 wd28 wd497) rfl rfl rfl (by decide +kernel) (by rw [hR]; exact ⟨Nat.le_of_ble_eq_true rfl, Nat.le_of_ble_eq_true rfl⟩)) (pw_V (ci := 4) (q := (RM, TM, 8)) hKN hob rfl ⟨hob, hal⟩) rfl rfl hl.1 rfl (lv_room (Nat.le_of_ble_eq_true rfl)) dM_hops_66 (by rw [hR]; exact ⟨Nat.le_of_ble_eq_true rfl, Nat.le_of_ble_eq_true rfl⟩))) (fun r5 hr5 => ?_)
            subst hr5
            refine pw_tl (y := nw (fun k => fo (64 * a + k)) x (i + 1)) rfl ?_
            refine lv_lstore (lv' := [(5, .long (nw (fun k => fo (64 * a + k)) x (i + 1))), (0, .ref mo), (1, .int (nI a)), (3, .long z), (7, .int (nI i))]) hx hb dM_hops_69 hl (by decide) rfl (fun ls hl => ?_)
            refine lv_iinc (v := nI (i + 1)) (lv' := [(7, .int (nI (i + 1))), (5, .long (nw (fun k => fo (64 * a + k)) x (i + 1))), (0, .ref mo), (1, .int (nI a)), (3, .long z)]) hx hb dM_hops_71 hl (k := 4) rfl (nI_1 i) (by decide) rfl (fun ls hl => ?_)
            refine lv_goto (tgt := 43) hx hb dM_hops_74 (by decide) ?_
            exact ih (i + 1) (by omega) (lt_s hinv hq3) ls (lv_sub hl [2, 3, 4, 1, 0] rfl)
          · refine lv_iload hx hb dM_hops_59 (lv_at hl 4 rfl) ?_
            rw [hQ]
            exact W.iret (v := nI i) hx hb hrt (fun t ht hW => ⟨_, (nI 0), rfl, (Or.inr (Or.inr ⟨a, x, ha, hx0, rfl, rfl, rfl, Or.inl ⟨i, hi, rfl, fun q => c3 ((cmp0 _ _).mpr q), hinv⟩⟩)), ⟨lw, hg, fS, fE, by rw [ht]; exact ⟨hob, hal, hab, hsl, hel⟩⟩, by rw [ht]; exact hz, by rw [ht]; exact hk⟩) hL dM_hops_61
      exact lp (65) 0 (by omega) lt_0 ls (lv_sub hl [2, 3, 5, 1, 0] rfl)
    · have hq2 := bI_eq.mp c2
      refine lv_aload_n hx hb dM_hops_29 rfl (lv_at hl 0 rfl) ?_
      refine lv_iconst (v := nI 2) hx hb dM_hops_30 (by decide) ?_
      refine pw_call (F := mW mo sa ea) (va_runV (As := [.int (nI 2)]) (rest := []) ⟨hx, hb, hml, hown, htA⟩ (m_raise l G cA mo (mF (nI 0) ao af n lw hg sa ea) (nI 2)) (cwV 1 htA (gd_V wd480 wd482 wd16 wd28 wd483) rfl rfl rfl (by decide +kernel) (by rw [hR]; exact ⟨Nat.le_of_ble_eq_true rfl, Nat.le_of_ble_eq_true rfl⟩)) (pw_V (ci := 4) (q := (RM, TM, 8)) hKN hob rfl ⟨hob, Nat.zero_lt_succ _⟩) rfl rfl hl.1 rfl (lv_room (Nat.le_of_ble_eq_true rfl)) dM_hops_31 (by rw [hR]; exact ⟨Nat.le_of_ble_eq_true rfl, Nat.le_of_ble_eq_true rfl⟩)) hL (fun q h => Or.inl h) (fun v9 st9 t9 lc6 h0 ha9 hL hq9 => ?_)
      obtain ⟨hv9, hob1, hz1, hk1⟩ := hq9
      cases hv9
      rw [h0] at hz1 hk1
      generalize t9.heap = H5 at hob1 hz1 hk1 ⊢
      have hob : ob G 4 mo (mF (nI 2) ao af n lw hg sa ea) H5 := hob1
      have hal := al_k hal (hk1 ao hA.1)
      have hab := ai_k hab (hk1 af hA.2.1)
      have hsl := ai_k hsl (hk1 sa hA.2.2.1)
      have hel := ai_k hel (hk1 ea hA.2.2.2.1)
      have hk : ∀ q, q ≠ mo → q ≠ sa → q ≠ ea → H5[q]? = s.heap[q]? := fun q h1 h2 h3 => (hk1 q h1).trans (hk q h1 h2 h3)
      have hz := hz1.trans hz
      rw [hQ]
      exact W.iret (v := 0) hx hb hrt (fun t ht hW => ⟨_, (nI 2), rfl, (Or.inr (Or.inl ⟨hq, hq2, rfl⟩)), ⟨lw, hg, fS, fE, by rw [ht]; exact ⟨hob, hal, hab, hsl, hel⟩⟩, by rw [ht]; exact hz, by rw [ht]; exact hk⟩) hL dM_hops_34
  · have hq := bI_eq.mp c1
    refine lv_aload_n hx hb dM_hops_13 rfl (lv_at hl 0 rfl) ?_
    refine lv_iconst (v := nI 1) hx hb dM_hops_14 (by decide) ?_
    refine pw_call (F := mW mo sa ea) (va_runV (As := [.int (nI 1)]) (rest := []) ⟨hx, hb, hml, hown, htA⟩ (m_raise l G cA mo (mF (nI 0) ao af n lw hg sa ea) (nI 1)) (cwV 1 htA (gd_V wd480 wd482 wd16 wd28 wd483) rfl rfl rfl (by decide +kernel) (by rw [hR]; exact ⟨Nat.le_of_ble_eq_true rfl, Nat.le_of_ble_eq_true rfl⟩)) (pw_V (ci := 4) (q := (RM, TM, 8)) hKN hob rfl ⟨hob, Nat.zero_lt_succ _⟩) rfl rfl hl.1 rfl (lv_room (Nat.le_of_ble_eq_true rfl)) dM_hops_15 (by rw [hR]; exact ⟨Nat.le_of_ble_eq_true rfl, Nat.le_of_ble_eq_true rfl⟩)) hL (fun q h => Or.inl h) (fun v9 st9 t9 lc5 h0 ha9 hL hq9 => ?_)
    obtain ⟨hv9, hob1, hz1, hk1⟩ := hq9
    cases hv9
    rw [h0] at hz1 hk1
    generalize t9.heap = H4 at hob1 hz1 hk1 ⊢
    have hob : ob G 4 mo (mF (nI 1) ao af n lw hg sa ea) H4 := hob1
    have hal := al_k hal (hk1 ao hA.1)
    have hab := ai_k hab (hk1 af hA.2.1)
    have hsl := ai_k hsl (hk1 sa hA.2.2.1)
    have hel := ai_k hel (hk1 ea hA.2.2.2.1)
    have hk : ∀ q, q ≠ mo → q ≠ sa → q ≠ ea → H4[q]? = s.heap[q]? := fun q h1 h2 h3 => (hk1 q h1).trans (hk q h1 h2 h3)
    have hz := hz1.trans hz
    rw [hQ]
    exact W.iret (v := 0) hx hb hrt (fun t ht hW => ⟨_, (nI 1), rfl, (Or.inl ⟨hq, rfl⟩), ⟨lw, hg, fS, fE, by rw [ht]; exact ⟨hob, hal, hab, hsl, hel⟩⟩, by rw [ht]; exact hz, by rw [ht]; exact hk⟩) hL dM_hops_18

set_option maxRecDepth 100000 in
set_option maxHeartbeats 4000000 in
theorem m_count (l : Launch) (G : va_G) (cA : Nat → ClassId) (mo ao af sa ea n : Nat) (fo : Nat → Int64) (fb : Nat → Int32) (v : Int32) : Met l yM_count wsM_count ({ frames := 1, cells := 0, slots := 0, locals := 23 }) (PH G cA [.ref mo, .int v] (fun H => (mA mo ao af sa ea ∧ n ≤ 50 ∧ ∃ th, mV G cA mo ao af sa ea n fo fb th H))) (mI G cA mo ao af sa ea n fo fb (fun r th => (v = 0 ∧ th = nI 0 ∧ r = nI n) ∨ (¬ v = 0 ∧ ¬ v = 1 ∧ th = nI 1) ∨ (v = 1 ∧ th = nI 0 ∧ r = nI (dct (fun i k => fo (64 * i + k)) n)))) 0 0 (mW mo sa ea) := by
  refine Met.ofW (cc := cM_count) (maxL := 5) (ret := (some .int)) (by decide) rfl ?_
  intro p e s m args below meth c s₁ B hml hv
  obtain ⟨hav, hKN, hA, hn, th0, lw, hg, fS, fE, hob, hal, hab, hsl, hel⟩ := hv
  have hK := hKN.1
  have hx := B.exec
  have hb := B.bytes
  have hrt := B.returns
  have htA : ∀ w ∈ ALL, w.before args s = true := fun w h => atoms_spec (ws := wsM_count) B.pre w (List.mem_cons_of_mem _ h)
  have hown : s.vm.findClass RM = some m.cls := findClass_of_methodNamed B.named
  have hlocks := B.notSynchronized
  refine pw_nm (fun R Q hR hQ => ?_)
  refine pw_entry (vs := [.ref mo, .int v]) hav (Nat.le_of_ble_eq_true rfl) (fun ls hl => ?_)
  have hl : lv_has ls 5 [(0, .ref mo), (1, .int v)] := hl
  have hz : s.heap.size = s.heap.size := rfl
  have hk : ∀ q, q ≠ mo → q ≠ sa → q ≠ ea → s.heap[q]? = s.heap[q]? := fun _ _ _ _ => rfl
  have hL : ∀ z ∈ ([] : List Loc), mW mo sa ea z.base := fun _ h => by cases h
  refine lv_aload_n hx hb dM_count_0 rfl (lv_at hl 0 rfl) ?_
  refine lv_iconst (v := nI 0) hx hb dM_count_1 (by decide) ?_
  refine pw_put (ci := 4) (C := RM) (T := TM) (N := 8) (ty := .int) (F := mW mo sa ea) hx hb htA inM tyM tyM_ok nmM hown hK hob rfl 0 (by decide) (htA _ wd435) (fun _ h9 => h9) rfl (by decide +kernel) rfl rfl (Nat.le_of_ble_eq_true rfl) hL (Or.inl rfl) dM_count_2 (fun H1 lc2 hob1 hz1 hk1 hL => ?_)
  have hob : ob G 4 mo (mF (nI 0) ao af n lw hg sa ea) H1 := hob1
  have hal := al_k hal (hk1 ao hA.1)
  have hab := ai_k hab (hk1 af hA.2.1)
  have hsl := ai_k hsl (hk1 sa hA.2.2.1)
  have hel := ai_k hel (hk1 ea hA.2.2.2.1)
  have hk : ∀ q, q ≠ mo → q ≠ sa → q ≠ ea → H1[q]? = s.heap[q]? := fun q h1 h2 h3 => (hk1 q h1).trans (hk q h1 h2 h3)
  have hz := hz1.trans hz
  refine lv_iload_n hx hb dM_count_5 rfl (lv_at hl 1 rfl) ?_
  refine lv_if_ne (tgt := 14) hx hb dM_count_6 (by decide) (fun c1 => ?_) (fun c1 => ?_)
  · refine lv_iload_n hx hb dM_count_14 rfl (lv_at hl 1 rfl) ?_
    refine lv_iconst (v := nI 1) hx hb dM_count_15 (by decide) ?_
    refine lv_icmp_eq (tgt := 25) hx hb dM_count_16 (by decide) (fun c2 => ?_) (fun c2 => ?_)
    · refine lv_iconst (v := nI 0) hx hb dM_count_25 (by decide) ?_
      refine lv_istore_n (lv' := [(2, .int (nI 0)), (0, .ref mo), (1, .int v)]) hx hb dM_count_26 rfl hl (by decide) rfl (fun ls hl => ?_)
      refine lv_iconst (v := nI 0) hx hb dM_count_27 (by decide) ?_
      refine lv_istore_n (lv' := [(3, .int (nI 0)), (2, .int (nI 0)), (0, .ref mo), (1, .int v)]) hx hb dM_count_28 rfl hl (by decide) rfl (fun ls hl => ?_)
      have lp : ∀ (k i : Nat), i + k = n → ∀ ls : Array Slot, lv_has ls 5 [(0, .ref mo), (2, .int (nI (dct (fun i k => fo (64 * i + k)) i))), (3, .int (nI i))] → W p l e R s m args below meth c H1 lc2 0 0 Q (F0 m 29 ls []) := by
        intro k
        induction k with
        | zero =>
          intro i hik ls hl
          have hi : i = n := by omega
          subst hi
          refine lv_iload_n hx hb dM_count_29 rfl (lv_at hl 2 rfl) ?_
          refine lv_aload_n hx hb dM_count_30 rfl (lv_at hl 0 rfl) ?_
          refine va_get (D := G) (ci := 4) (v := .int (nI i)) (C := RM) (T := TM) (N := 8) hx hb htA inM hown hK (ob_P hob) 0 rfl rfl 3 (by decide) (htA _ wd438) (fun _ h9 => h9) rfl dM_count_31 ?_
          refine lv_icmp_ge (tgt := 73) hx hb dM_count_34 (by decide) (fun _ => ?_) (fun c9 => absurd (Int32.le_refl _) c9)
          refine lv_iload_n hx hb dM_count_73 rfl (lv_at hl 1 rfl) ?_
          rw [hQ]
          exact W.iret (v := nI (dct (fun i k => fo (64 * i + k)) i)) hx hb hrt (fun t ht hW => ⟨_, (nI 0), rfl, (Or.inr (Or.inr ⟨c2, rfl, rfl⟩)), ⟨lw, hg, fS, fE, by rw [ht]; exact ⟨hob, hal, hab, hsl, hel⟩⟩, by rw [ht]; exact hz, by rw [ht]; exact hk⟩) hL dM_count_74
        | succ k ih =>
          intro i hik ls hl
          have hi : i < n := by omega
          refine lv_iload_n hx hb dM_count_29 rfl (lv_at hl 2 rfl) ?_
          refine lv_aload_n hx hb dM_count_30 rfl (lv_at hl 0 rfl) ?_
          refine va_get (D := G) (ci := 4) (v := .int (nI n)) (C := RM) (T := TM) (N := 8) hx hb htA inM hown hK (ob_P hob) 0 rfl rfl 3 (by decide) (htA _ wd438) (fun _ h9 => h9) rfl dM_count_31 ?_
          refine lv_icmp_ge (tgt := 73) hx hb dM_count_34 (by decide) (fun c9 => absurd c9 (nI_ge hi (by omega))) (fun _ => ?_)
          refine lv_iconst (v := nI 0) hx hb dM_count_37 (by decide) ?_
          refine lv_istore (lv' := [(4, .int (nI 0)), (0, .ref mo), (2, .int (nI (dct (fun i k => fo (64 * i + k)) i))), (3, .int (nI i))]) hx hb dM_count_38 hl (by decide) rfl (fun ls hl => ?_)
          have lq : ∀ (kq q : Nat), q + kq = i → (∀ j, j < q → eqO ((fun i k => fo (64 * i + k)) j) ((fun i k => fo (64 * i + k)) i) = false) → ∀ ls : Array Slot, lv_has ls 5 [(0, .ref mo), (2, .int (nI (dct (fun i k => fo (64 * i + k)) i))), (3, .int (nI i)), (4, .int (nI q))] → W p l e R s m args below meth c H1 lc2 0 0 Q (F0 m 40 ls []) := by
            intro kq
            induction kq with
            | zero =>
              intro q hik2 hinv2 ls hl
              have hqi : q = i := by omega
              refine lv_aload_n hx hb dM_count_40 rfl (lv_at hl 0 rfl) ?_
              refine lv_iload_n hx hb dM_count_41 rfl (lv_at hl 2 rfl) ?_
              refine lv_iload hx hb dM_count_42 (lv_at hl 3 rfl) ?_
              refine vp_callSi (va_Run.run (va_runV (As := [.int (nI i), .int (nI q)]) (rest := []) ⟨hx, hb, hml, hown, htA⟩ (m_apart l G cA mo ao (mF (nI 0) ao af n lw hg sa ea) fo i q rfl (by omega) (by omega)) (cwV 2 htA (gd_V wd526 wd528 wd21 wd28 wd529) rfl rfl rfl (by decide +kernel) (by rw [hR]; exact ⟨Nat.le_of_ble_eq_true rfl, Nat.le_of_ble_eq_true rfl⟩)) (pw_V (ci := 4) (q := (RM, TM, 8)) hKN hob rfl ⟨hob, hal⟩) rfl rfl hl.1 rfl (lv_room (Nat.le_of_ble_eq_true rfl)) dM_count_44 (by rw [hR]; exact ⟨Nat.le_of_ble_eq_true rfl, Nat.le_of_ble_eq_true rfl⟩))) (fun r3 hr3 => ?_)
              obtain ⟨kp, hap, rfl⟩ := hr3
              have hkp := hap.1
              refine lv_bipush (v := nI 64) hx hb dM_count_47 (by decide) ?_
              have hkp2 : kp = 64 := (apR_eq hap).mpr (by rw [hqi]; unfold eqO; rw [eqN_iff]; intro _ _; rfl)
              subst hkp2
              refine lv_icmp_ge (tgt := 58) hx hb dM_count_49 (by decide) (fun _ => ?_) (fun c9 => absurd (Int32.le_refl _) c9)
              refine lv_iload hx hb dM_count_58 (lv_at hl 3 rfl) ?_
              refine lv_iload_n hx hb dM_count_60 rfl (lv_at hl 2 rfl) ?_
              refine lv_icmp_ne (tgt := 67) hx hb dM_count_61 (by decide) (fun c9 => absurd (by rw [hqi]) c9) (fun _ => ?_)
              have hd := dct_t (O := (fun i k => fo (64 * i + k))) (n := i) (isN_t (fun j hj => hinv2 j (by omega)))
              refine lv_iinc (v := nI ((dct (fun i k => fo (64 * i + k)) i) + 1)) (lv' := [(2, .int (nI ((dct (fun i k => fo (64 * i + k)) i) + 1))), (0, .ref mo), (3, .int (nI i)), (4, .int (nI q))]) hx hb dM_count_64 hl (k := 1) rfl (nI_1 (dct (fun i k => fo (64 * i + k)) i)) (by decide) rfl (fun ls hl => ?_)
              rw [hd] at hl
              refine lv_iinc (v := nI (i + 1)) (lv' := [(3, .int (nI (i + 1))), (2, .int (nI (dct (fun i k => fo (64 * i + k)) (i + 1)))), (0, .ref mo), (4, .int (nI q))]) hx hb dM_count_67 hl (k := 2) rfl (nI_1 i) (by decide) rfl (fun ls hl => ?_)
              refine lv_goto (tgt := 29) hx hb dM_count_70 (by decide) ?_
              exact ih (i + 1) (by omega) ls (lv_sub hl [2, 1, 0] rfl)
            | succ kq ih2 =>
              intro q hik2 hinv2 ls hl
              refine lv_aload_n hx hb dM_count_40 rfl (lv_at hl 0 rfl) ?_
              refine lv_iload_n hx hb dM_count_41 rfl (lv_at hl 2 rfl) ?_
              refine lv_iload hx hb dM_count_42 (lv_at hl 3 rfl) ?_
              refine vp_callSi (va_Run.run (va_runV (As := [.int (nI i), .int (nI q)]) (rest := []) ⟨hx, hb, hml, hown, htA⟩ (m_apart l G cA mo ao (mF (nI 0) ao af n lw hg sa ea) fo i q rfl (by omega) (by omega)) (cwV 2 htA (gd_V wd526 wd528 wd21 wd28 wd529) rfl rfl rfl (by decide +kernel) (by rw [hR]; exact ⟨Nat.le_of_ble_eq_true rfl, Nat.le_of_ble_eq_true rfl⟩)) (pw_V (ci := 4) (q := (RM, TM, 8)) hKN hob rfl ⟨hob, hal⟩) rfl rfl hl.1 rfl (lv_room (Nat.le_of_ble_eq_true rfl)) dM_count_44 (by rw [hR]; exact ⟨Nat.le_of_ble_eq_true rfl, Nat.le_of_ble_eq_true rfl⟩))) (fun r3 hr3 => ?_)
              obtain ⟨kp, hap, rfl⟩ := hr3
              have hkp := hap.1
              refine lv_bipush (v := nI 64) hx hb dM_count_47 (by decide) ?_
              refine lv_icmp_ge (tgt := 58) hx hb dM_count_49 (by decide) (fun c4 => ?_) (fun c4 => ?_)
              · have hkp2 : kp = 64 := by have := (nI_leI (by decide) (by omega)).mp c4; omega
                have hd := dct_f (O := (fun i k => fo (64 * i + k))) (n := i) (isN_f (j := q) (by omega) (by rw [eqO_sym]; exact (apR_eq hap).mp hkp2))
                refine lv_iload hx hb dM_count_58 (lv_at hl 3 rfl) ?_
                refine lv_iload_n hx hb dM_count_60 rfl (lv_at hl 2 rfl) ?_
                refine lv_icmp_ne (tgt := 67) hx hb dM_count_61 (by decide) (fun _ => ?_) (fun c9 => absurd c9 (fun e9 => absurd ((nI_eq (by omega) (by omega)).mp e9) (by omega)))
                rw [hd] at hl
                refine lv_iinc (v := nI (i + 1)) (lv' := [(3, .int (nI (i + 1))), (0, .ref mo), (2, .int (nI (dct (fun i k => fo (64 * i + k)) (i + 1)))), (4, .int (nI q))]) hx hb dM_count_67 hl (k := 2) rfl (nI_1 i) (by decide) rfl (fun ls hl => ?_)
                refine lv_goto (tgt := 29) hx hb dM_count_70 (by decide) ?_
                exact ih (i + 1) (by omega) ls (lv_sub hl [1, 2, 0] rfl)
              · have hkp2 : ¬ kp = 64 := fun e9 => c4 (by rw [e9]; exact Int32.le_refl _)
                have hne : eqO ((fun i k => fo (64 * i + k)) q) ((fun i k => fo (64 * i + k)) i) = false := by rw [eqO_sym]; exact ts_nt (fun q9 => hkp2 ((apR_eq hap).mpr q9))
                refine lv_iinc (v := nI (q + 1)) (lv' := [(4, .int (nI (q + 1))), (0, .ref mo), (2, .int (nI (dct (fun i k => fo (64 * i + k)) i))), (3, .int (nI i))]) hx hb dM_count_52 hl (k := 3) rfl (nI_1 q) (by decide) rfl (fun ls hl => ?_)
                refine lv_goto (tgt := 40) hx hb dM_count_55 (by decide) ?_
                exact ih2 (q + 1) (by omega) (lt_s hinv2 hne) ls (lv_sub hl [1, 2, 3, 0] rfl)
          exact lq (i) 0 (by omega) lt_0 ls (lv_sub hl [1, 2, 3, 0] rfl)
      exact lp (n) 0 (by omega) ls (lv_sub hl [2, 1, 0] rfl)
    · refine lv_aload_n hx hb dM_count_19 rfl (lv_at hl 0 rfl) ?_
      refine lv_iconst (v := nI 1) hx hb dM_count_20 (by decide) ?_
      refine pw_call (F := mW mo sa ea) (va_runV (As := [.int (nI 1)]) (rest := []) ⟨hx, hb, hml, hown, htA⟩ (m_raise l G cA mo (mF (nI 0) ao af n lw hg sa ea) (nI 1)) (cwV 1 htA (gd_V wd480 wd482 wd16 wd28 wd483) rfl rfl rfl (by decide +kernel) (by rw [hR]; exact ⟨Nat.le_of_ble_eq_true rfl, Nat.le_of_ble_eq_true rfl⟩)) (pw_V (ci := 4) (q := (RM, TM, 8)) hKN hob rfl ⟨hob, Nat.zero_lt_succ _⟩) rfl rfl hl.1 rfl (lv_room (Nat.le_of_ble_eq_true rfl)) dM_count_21 (by rw [hR]; exact ⟨Nat.le_of_ble_eq_true rfl, Nat.le_of_ble_eq_true rfl⟩)) hL (fun q h => Or.inl h) (fun v9 st9 t9 lc4 h0 ha9 hL hq9 => ?_)
      obtain ⟨hv9, hob1, hz1, hk1⟩ := hq9
      cases hv9
      rw [h0] at hz1 hk1
      generalize t9.heap = H3 at hob1 hz1 hk1 ⊢
      have hob : ob G 4 mo (mF (nI 1) ao af n lw hg sa ea) H3 := hob1
      have hal := al_k hal (hk1 ao hA.1)
      have hab := ai_k hab (hk1 af hA.2.1)
      have hsl := ai_k hsl (hk1 sa hA.2.2.1)
      have hel := ai_k hel (hk1 ea hA.2.2.2.1)
      have hk : ∀ q, q ≠ mo → q ≠ sa → q ≠ ea → H3[q]? = s.heap[q]? := fun q h1 h2 h3 => (hk1 q h1).trans (hk q h1 h2 h3)
      have hz := hz1.trans hz
      rw [hQ]
      exact W.iret (v := 0) hx hb hrt (fun t ht hW => ⟨_, (nI 1), rfl, (Or.inr (Or.inl ⟨c1, c2, rfl⟩)), ⟨lw, hg, fS, fE, by rw [ht]; exact ⟨hob, hal, hab, hsl, hel⟩⟩, by rw [ht]; exact hz, by rw [ht]; exact hk⟩) hL dM_count_24
  · refine lv_aload_n hx hb dM_count_9 rfl (lv_at hl 0 rfl) ?_
    refine va_get (D := G) (ci := 4) (v := .int (nI n)) (C := RM) (T := TM) (N := 8) hx hb htA inM hown hK (ob_P hob) 0 rfl rfl 3 (by decide) (htA _ wd438) (fun _ h9 => h9) rfl dM_count_10 ?_
    rw [hQ]
    exact W.iret (v := nI n) hx hb hrt (fun t ht hW => ⟨_, (nI 0), rfl, (Or.inl ⟨c1, rfl, rfl⟩), ⟨lw, hg, fS, fE, by rw [ht]; exact ⟨hob, hal, hab, hsl, hel⟩⟩, by rw [ht]; exact hz, by rw [ht]; exact hk⟩) hL dM_count_13
