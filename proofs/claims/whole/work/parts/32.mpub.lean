set_option maxRecDepth 100000 in
set_option maxHeartbeats 4000000 in
theorem m_raise (l : Launch) (G : va_G) (cA : Nat → ClassId) (mo : Nat) (fs : List Value) (v : Int32) : Met l yM_raise wsM_raise ({ frames := 0, cells := 0, slots := 0, locals := 0 }) (PH G cA [.ref mo, .int v] (fun H => (ob G 4 mo fs H ∧ 0 < fs.length))) (fun _ st o t => o = .returned (some (.int 0)) ∧ ob G 4 mo (fs.set 0 (.int v)) t.heap ∧ t.heap.size = st.heap.size ∧ ∀ q, q ≠ mo → t.heap[q]? = st.heap[q]?) 0 0 (fun q => q = mo) := by
  refine Met.ofW (cc := cM_raise) (maxL := 2) (ret := (some .int)) (by decide) rfl ?_
  intro p e s m args below meth c s₁ B hml hv
  obtain ⟨hav, hKN, hob, hlen⟩ := hv
  have hK := hKN.1
  have hx := B.exec
  have hb := B.bytes
  have hrt := B.returns
  have htA : ∀ w ∈ ALL, w.before args s = true := fun w h => atoms_spec (ws := wsM_raise) B.pre w (List.mem_cons_of_mem _ h)
  have hown : s.vm.findClass RM = some m.cls := findClass_of_methodNamed B.named
  have hlocks := B.notSynchronized
  refine pw_nm (fun R Q hR hQ => ?_)
  refine pw_entry (vs := [.ref mo, .int v]) hav (Nat.le_of_ble_eq_true rfl) (fun ls hl => ?_)
  have hl : lv_has ls 2 [(0, .ref mo), (1, .int v)] := hl
  refine lv_aload_n hx hb dM_raise_0 rfl (lv_at hl 0 rfl) ?_
  refine lv_iload_n hx hb dM_raise_1 rfl (lv_at hl 1 rfl) ?_
  refine pw_put (ci := 4) (C := RM) (T := TM) (N := 8) (ty := .int) (F := fun q => q = mo) hx hb htA inM tyM tyM_ok nmM hown hK hob rfl 0 (by decide) (htA _ wd435) (fun _ h9 => h9) rfl (by decide +kernel) rfl rfl hlen (fun _ h => by cases h) rfl dM_raise_2 (fun H1 lc1 hob1 hz1 hk1 hL => ?_)
  refine lv_iconst (v := 0) hx hb dM_raise_5 (by decide) ?_
  rw [hQ]
  exact W.iret (v := 0) hx hb hrt (fun t ht hW => ⟨rfl, by rw [ht]; exact hob1, by rw [ht]; exact hz1, by rw [ht]; exact hk1⟩) hL dM_raise_6

set_option maxRecDepth 100000 in
set_option maxHeartbeats 4000000 in
theorem m_thrown (l : Launch) (G : va_G) (cA : Nat → ClassId) (mo : Nat) (fs : List Value) (th : Int32) (hf0 : fs[0]? = some (.int th)) : Met l yM_thrown wsM_thrown ({ frames := 0, cells := 0, slots := 0, locals := 0 }) (PH G cA [.ref mo] (fun H => ob G 4 mo fs H)) (vp_Si (fun r => r = th)) 0 0 (fun _ => False) := by
  refine Met.ofW (cc := cM_thrown) (maxL := 1) (ret := (some .int)) (by decide) rfl ?_
  intro p e s m args below meth c s₁ B hml hv
  obtain ⟨hav, hKN, hob⟩ := hv
  have hK := hKN.1
  have hx := B.exec
  have hb := B.bytes
  have hrt := B.returns
  have htA : ∀ w ∈ ALL, w.before args s = true := fun w h => atoms_spec (ws := wsM_thrown) B.pre w (List.mem_cons_of_mem _ h)
  have hown : s.vm.findClass RM = some m.cls := findClass_of_methodNamed B.named
  have hlocks := B.notSynchronized
  refine pw_nm (fun R Q hR hQ => ?_)
  refine pw_entry (vs := [.ref mo]) hav (Nat.le_of_ble_eq_true rfl) (fun ls hl => ?_)
  have hl : lv_has ls 1 [(0, .ref mo)] := hl
  refine lv_aload_n hx hb dM_thrown_0 rfl (lv_at hl 0 rfl) ?_
  refine va_get (D := G) (ci := 4) (v := .int th) (C := RM) (T := TM) (N := 8) hx hb htA inM hown hK (ob_P hob) 0 rfl rfl 0 (by decide) (htA _ wd435) (fun _ h9 => h9) hf0 dM_thrown_1 ?_
  rw [hQ]
  exact W.iret (v := th) hx hb hrt (fun t ht hW => ⟨_, rfl, rfl, ht⟩) (fun q h => by cases h) dM_thrown_4

set_option maxRecDepth 100000 in
set_option maxHeartbeats 4000000 in
theorem m_outcome (l : Launch) (G : va_G) (cA : Nat → ClassId) (mo ao af sa ea n : Nat) (fo : Nat → Int64) (fb : Nat → Int32) (v q : Int32) : Met l yM_outcome wsM_outcome ({ frames := 2, cells := 0, slots := 0, locals := 43 }) (PH G cA [.ref mo, .int v, .int q] (fun H => (mA mo ao af sa ea ∧ n ≤ 50 ∧ ∃ th, mV G cA mo ao af sa ea n fo fb th H))) (mL G cA mo ao af sa ea n fo fb (fun r th => (inb n v = false ∧ th = nI 1) ∨ (inb n v = true ∧ inb 64 q = false ∧ th = nI 2) ∨ (∃ a k, a < n ∧ k < 64 ∧ v = nI a ∧ q = nI k ∧ th = nI 0 ∧ r = fo (64 * a + k)))) 0 0 (mW mo sa ea) := by
  refine Met.ofW (cc := cM_outcome) (maxL := 3) (ret := (some .long)) (by decide) rfl ?_
  intro p e s m args below meth c s₁ B hml hv
  obtain ⟨hav, hKN, hA, hn, th0, lw, hg, fS, fE, hob, hal, hab, hsl, hel⟩ := hv
  have hK := hKN.1
  have hx := B.exec
  have hb := B.bytes
  have hrt := B.returns
  have htA : ∀ w ∈ ALL, w.before args s = true := fun w h => atoms_spec (ws := wsM_outcome) B.pre w (List.mem_cons_of_mem _ h)
  have hown : s.vm.findClass RM = some m.cls := findClass_of_methodNamed B.named
  have hlocks := B.notSynchronized
  refine pw_nm (fun R Q hR hQ => ?_)
  refine pw_entry (vs := [.ref mo, .int v, .int q]) hav (Nat.le_of_ble_eq_true rfl) (fun ls hl => ?_)
  have hl : lv_has ls 3 [(0, .ref mo), (1, .int v), (2, .int q)] := hl
  have hz : s.heap.size = s.heap.size := rfl
  have hk : ∀ q, q ≠ mo → q ≠ sa → q ≠ ea → s.heap[q]? = s.heap[q]? := fun _ _ _ _ => rfl
  have hL : ∀ z ∈ ([] : List Loc), mW mo sa ea z.base := fun _ h => by cases h
  refine lv_aload_n hx hb dM_outcome_0 rfl (lv_at hl 0 rfl) ?_
  refine lv_iconst (v := nI 0) hx hb dM_outcome_1 (by decide) ?_
  refine pw_put (ci := 4) (C := RM) (T := TM) (N := 8) (ty := .int) (F := mW mo sa ea) hx hb htA inM tyM tyM_ok nmM hown hK hob rfl 0 (by decide) (htA _ wd435) (fun _ h9 => h9) rfl (by decide +kernel) rfl rfl (Nat.le_of_ble_eq_true rfl) hL (Or.inl rfl) dM_outcome_2 (fun H1 lc2 hob1 hz1 hk1 hL => ?_)
  have hob : ob G 4 mo (mF (nI 0) ao af n lw hg sa ea) H1 := hob1
  have hal := al_k hal (hk1 ao hA.1)
  have hab := ai_k hab (hk1 af hA.2.1)
  have hsl := ai_k hsl (hk1 sa hA.2.2.1)
  have hel := ai_k hel (hk1 ea hA.2.2.2.1)
  have hk : ∀ q, q ≠ mo → q ≠ sa → q ≠ ea → H1[q]? = s.heap[q]? := fun q h1 h2 h3 => (hk1 q h1).trans (hk q h1 h2 h3)
  have hz := hz1.trans hz
  refine lv_aload_n hx hb dM_outcome_5 rfl (lv_at hl 0 rfl) ?_
  refine lv_iload_n hx hb dM_outcome_6 rfl (lv_at hl 1 rfl) ?_
  refine vp_callSi (va_Run.run (va_runV (As := [.int v]) (rest := []) ⟨hx, hb, hml, hown, htA⟩ (m_made l G cA mo n (mF (nI 0) ao af n lw hg sa ea) v rfl (by omega)) (cwV 1 htA (gd_V wd476 wd478 wd15 wd28 wd479) rfl rfl rfl (by decide +kernel) (by rw [hR]; exact ⟨Nat.le_of_ble_eq_true rfl, Nat.le_of_ble_eq_true rfl⟩)) (pw_V (ci := 4) (q := (RM, TM, 8)) hKN hob rfl hob) rfl rfl hl.1 rfl (lv_room (Nat.le_of_ble_eq_true rfl)) dM_outcome_7 (by rw [hR]; exact ⟨Nat.le_of_ble_eq_true rfl, Nat.le_of_ble_eq_true rfl⟩))) (fun r3 hr3 => ?_)
  subst hr3
  refine lv_if_ne (tgt := 20) hx hb dM_outcome_10 (by decide) (fun c1 => ?_) (fun c1 => ?_)
  · have hq := bI_ne.mp c1
    obtain ⟨a, ha, rfl⟩ := inb_t (by omega) hq
    refine lv_iload_n hx hb dM_outcome_20 rfl (lv_at hl 2 rfl) ?_
    refine lv_iconst (v := nI 0) hx hb dM_outcome_21 (by decide) ?_
    refine lv_bipush (v := nI 63) hx hb dM_outcome_22 (by decide) ?_
    refine vp_callSi (va_Run.run (va_runS (As := [.int q, .int (nI 0), .int (nI 63)]) (rest := []) ⟨hx, hb, hml, hown, htA⟩ (m_in l G cA q (nI 0) (nI 63)) (va_cwS 3 htA (gd_S wd473 wd474 wd28 wd475) rfl rfl rfl (by decide +kernel) (by rw [hR]; exact ⟨Nat.le_of_ble_eq_true rfl, Nat.le_of_ble_eq_true rfl⟩)) (pw_S hKN trivial) rfl rfl hl.1 rfl (lv_room (Nat.le_of_ble_eq_true rfl)) dM_outcome_24 (by rw [hR]; exact ⟨Nat.le_of_ble_eq_true rfl, Nat.le_of_ble_eq_true rfl⟩))) (fun r4 hr4 => ?_)
    subst hr4
    refine pw_ti (y := bI (inb 64 q)) (by rw [in_63 q 63 64 rfl (by decide)]) ?_
    refine lv_if_eq (tgt := 44) hx hb dM_outcome_27 (by decide) (fun c2 => ?_) (fun c2 => ?_)
    · have hq2 := bI_eq.mp c2
      refine lv_aload_n hx hb dM_outcome_44 rfl (lv_at hl 0 rfl) ?_
      refine lv_iconst (v := nI 2) hx hb dM_outcome_45 (by decide) ?_
      refine pw_call (F := mW mo sa ea) (va_runV (As := [.int (nI 2)]) (rest := []) ⟨hx, hb, hml, hown, htA⟩ (m_raise l G cA mo (mF (nI 0) ao af n lw hg sa ea) (nI 2)) (cwV 1 htA (gd_V wd480 wd482 wd16 wd28 wd483) rfl rfl rfl (by decide +kernel) (by rw [hR]; exact ⟨Nat.le_of_ble_eq_true rfl, Nat.le_of_ble_eq_true rfl⟩)) (pw_V (ci := 4) (q := (RM, TM, 8)) hKN hob rfl ⟨hob, Nat.zero_lt_succ _⟩) rfl rfl hl.1 rfl (lv_room (Nat.le_of_ble_eq_true rfl)) dM_outcome_46 (by rw [hR]; exact ⟨Nat.le_of_ble_eq_true rfl, Nat.le_of_ble_eq_true rfl⟩)) hL (fun q h => Or.inl h) (fun v9 st9 t9 lc6 h0 ha9 hL hq9 => ?_)
      obtain ⟨hv9, hob1, hz1, hk1⟩ := hq9
      cases hv9
      rw [h0] at hz1 hk1
      generalize t9.heap = H5 at hob1 hz1 hk1 ⊢
      have hob : ob G 4 mo (mF (nI 2) ao af n lw hg sa ea) H5 := hob1
      have hal := al_k hal (hk1 ao hA.1)
      have hab := ai_k hab (hk1 af hA.2.1)
      have hsl := ai_k hsl (hk1 sa hA.2.2.1)
      have hel := ai_k hel (hk1 ea hA.2.2.2.1)
      have hk : ∀ q, q ≠ mo → q ≠ sa → q ≠ ea → H5[q]? = s.heap[q]? := fun q h1 h2 h3 => (hk1 q h1).trans (hk q h1 h2 h3)
      have hz := hz1.trans hz
      refine lv_i2l hx hb dM_outcome_49 rfl ?_
      rw [hQ]
      exact W.lret (v := (0 : Int32).toInt64) hx hb hrt (fun t ht hW => ⟨_, (nI 2), rfl, (Or.inr (Or.inl ⟨hq, hq2, rfl⟩)), ⟨lw, hg, fS, fE, by rw [ht]; exact ⟨hob, hal, hab, hsl, hel⟩⟩, by rw [ht]; exact hz, by rw [ht]; exact hk⟩) hL dM_outcome_50
    · obtain ⟨k, hk0, rfl⟩ := inb_t (by decide) (bI_ne.mp c2)
      refine lv_aload_n hx hb dM_outcome_30 rfl (lv_at hl 0 rfl) ?_
      refine va_get (D := G) (ci := 4) (v := .ref ao) (C := RM) (T := TM) (N := 8) hx hb htA inM hown hK (ob_P hob) 0 rfl rfl 1 (by decide) (htA _ wd436) (fun _ h9 => h9) rfl dM_outcome_31 ?_
      refine lv_bipush (v := nI 64) hx hb dM_outcome_34 (by decide) ?_
      refine lv_iload_n hx hb dM_outcome_36 rfl (lv_at hl 1 rfl) ?_
      refine lv_imul hx hb dM_outcome_37 ?_
      refine pw_ti (y := nI (64 * a)) (pk_mul _ _) ?_
      refine lv_iload_n hx hb dM_outcome_38 rfl (lv_at hl 2 rfl) ?_
      refine lv_iadd hx hb dM_outcome_39 ?_
      refine pw_ti (y := nI ((64 * a) + k)) (nI_add _ _) ?_
      refine pw_lald hx hb hK hal 0 rfl (by omega) (by decide) dM_outcome_40 ?_
      refine lv_goto (tgt := 50) hx hb dM_outcome_41 (by decide) ?_
      rw [hQ]
      exact W.lret (v := fo ((64 * a) + k)) hx hb hrt (fun t ht hW => ⟨_, (nI 0), rfl, (Or.inr (Or.inr ⟨a, k, ha, hk0, rfl, rfl, rfl, rfl⟩)), ⟨lw, hg, fS, fE, by rw [ht]; exact ⟨hob, hal, hab, hsl, hel⟩⟩, by rw [ht]; exact hz, by rw [ht]; exact hk⟩) hL dM_outcome_50
  · have hq := bI_eq.mp c1
    refine lv_aload_n hx hb dM_outcome_13 rfl (lv_at hl 0 rfl) ?_
    refine lv_iconst (v := nI 1) hx hb dM_outcome_14 (by decide) ?_
    refine pw_call (F := mW mo sa ea) (va_runV (As := [.int (nI 1)]) (rest := []) ⟨hx, hb, hml, hown, htA⟩ (m_raise l G cA mo (mF (nI 0) ao af n lw hg sa ea) (nI 1)) (cwV 1 htA (gd_V wd480 wd482 wd16 wd28 wd483) rfl rfl rfl (by decide +kernel) (by rw [hR]; exact ⟨Nat.le_of_ble_eq_true rfl, Nat.le_of_ble_eq_true rfl⟩)) (pw_V (ci := 4) (q := (RM, TM, 8)) hKN hob rfl ⟨hob, Nat.zero_lt_succ _⟩) rfl rfl hl.1 rfl (lv_room (Nat.le_of_ble_eq_true rfl)) dM_outcome_15 (by rw [hR]; exact ⟨Nat.le_of_ble_eq_true rfl, Nat.le_of_ble_eq_true rfl⟩)) hL (fun q h => Or.inl h) (fun v9 st9 t9 lc5 h0 ha9 hL hq9 => ?_)
    obtain ⟨hv9, hob1, hz1, hk1⟩ := hq9
    cases hv9
    rw [h0] at hz1 hk1
    generalize t9.heap = H4 at hob1 hz1 hk1 ⊢
    have hob : ob G 4 mo (mF (nI 1) ao af n lw hg sa ea) H4 := hob1
    have hal := al_k hal (hk1 ao hA.1)
    have hab := ai_k hab (hk1 af hA.2.1)
    have hsl := ai_k hsl (hk1 sa hA.2.2.1)
    have hel := ai_k hel (hk1 ea hA.2.2.2.1)
    have hk : ∀ q, q ≠ mo → q ≠ sa → q ≠ ea → H4[q]? = s.heap[q]? := fun q h1 h2 h3 => (hk1 q h1).trans (hk q h1 h2 h3)
    have hz := hz1.trans hz
    refine lv_i2l hx hb dM_outcome_18 rfl ?_
    rw [hQ]
    exact W.lret (v := (0 : Int32).toInt64) hx hb hrt (fun t ht hW => ⟨_, (nI 1), rfl, (Or.inl ⟨hq, rfl⟩), ⟨lw, hg, fS, fE, by rw [ht]; exact ⟨hob, hal, hab, hsl, hel⟩⟩, by rw [ht]; exact hz, by rw [ht]; exact hk⟩) hL dM_outcome_19

set_option maxRecDepth 100000 in
set_option maxHeartbeats 4000000 in
theorem m_image (l : Launch) (G : va_G) (cA : Nat → ClassId) (mo ao af sa ea n : Nat) (fo : Nat → Int64) (fb : Nat → Int32) (v : Int32) (z : Int64) : Met l yM_image wsM_image ({ frames := 2, cells := 0, slots := 0, locals := 43 }) (PH G cA [.ref mo, .int v, .long z] (fun H => (mA mo ao af sa ea ∧ n ≤ 50 ∧ ∃ th, mV G cA mo ao af sa ea n fo fb th H))) (mL G cA mo ao af sa ea n fo fb (fun r th => (inb n v = false ∧ th = nI 1) ∨ (∃ a, a < n ∧ v = nI a ∧ th = nI 0 ∧ r = gf (fun k => fo (64 * a + k)) z 64))) 0 0 (mW mo sa ea) := by
  refine Met.ofW (cc := cM_image) (maxL := 4) (ret := (some .long)) (by decide) rfl ?_
  intro p e s m args below meth c s₁ B hml hv
  obtain ⟨hav, hKN, hA, hn, th0, lw, hg, fS, fE, hob, hal, hab, hsl, hel⟩ := hv
  have hK := hKN.1
  have hx := B.exec
  have hb := B.bytes
  have hrt := B.returns
  have htA : ∀ w ∈ ALL, w.before args s = true := fun w h => atoms_spec (ws := wsM_image) B.pre w (List.mem_cons_of_mem _ h)
  have hown : s.vm.findClass RM = some m.cls := findClass_of_methodNamed B.named
  have hlocks := B.notSynchronized
  refine pw_nm (fun R Q hR hQ => ?_)
  refine pw_entry (vs := [.ref mo, .int v, .long z]) hav (Nat.le_of_ble_eq_true rfl) (fun ls hl => ?_)
  have hl : lv_has ls 4 [(0, .ref mo), (1, .int v), (2, .long z)] := hl
  have hz : s.heap.size = s.heap.size := rfl
  have hk : ∀ q, q ≠ mo → q ≠ sa → q ≠ ea → s.heap[q]? = s.heap[q]? := fun _ _ _ _ => rfl
  have hL : ∀ z ∈ ([] : List Loc), mW mo sa ea z.base := fun _ h => by cases h
  refine lv_aload_n hx hb dM_image_0 rfl (lv_at hl 0 rfl) ?_
  refine lv_iconst (v := nI 0) hx hb dM_image_1 (by decide) ?_
  refine pw_put (ci := 4) (C := RM) (T := TM) (N := 8) (ty := .int) (F := mW mo sa ea) hx hb htA inM tyM tyM_ok nmM hown hK hob rfl 0 (by decide) (htA _ wd435) (fun _ h9 => h9) rfl (by decide +kernel) rfl rfl (Nat.le_of_ble_eq_true rfl) hL (Or.inl rfl) dM_image_2 (fun H1 lc2 hob1 hz1 hk1 hL => ?_)
  have hob : ob G 4 mo (mF (nI 0) ao af n lw hg sa ea) H1 := hob1
  have hal := al_k hal (hk1 ao hA.1)
  have hab := ai_k hab (hk1 af hA.2.1)
  have hsl := ai_k hsl (hk1 sa hA.2.2.1)
  have hel := ai_k hel (hk1 ea hA.2.2.2.1)
  have hk : ∀ q, q ≠ mo → q ≠ sa → q ≠ ea → H1[q]? = s.heap[q]? := fun q h1 h2 h3 => (hk1 q h1).trans (hk q h1 h2 h3)
  have hz := hz1.trans hz
  refine lv_aload_n hx hb dM_image_5 rfl (lv_at hl 0 rfl) ?_
  refine lv_iload_n hx hb dM_image_6 rfl (lv_at hl 1 rfl) ?_
  refine vp_callSi (va_Run.run (va_runV (As := [.int v]) (rest := []) ⟨hx, hb, hml, hown, htA⟩ (m_made l G cA mo n (mF (nI 0) ao af n lw hg sa ea) v rfl (by omega)) (cwV 1 htA (gd_V wd476 wd478 wd15 wd28 wd479) rfl rfl rfl (by decide +kernel) (by rw [hR]; exact ⟨Nat.le_of_ble_eq_true rfl, Nat.le_of_ble_eq_true rfl⟩)) (pw_V (ci := 4) (q := (RM, TM, 8)) hKN hob rfl hob) rfl rfl hl.1 rfl (lv_room (Nat.le_of_ble_eq_true rfl)) dM_image_7 (by rw [hR]; exact ⟨Nat.le_of_ble_eq_true rfl, Nat.le_of_ble_eq_true rfl⟩))) (fun r3 hr3 => ?_)
  subst hr3
  refine lv_if_eq (tgt := 22) hx hb dM_image_10 (by decide) (fun c1 => ?_) (fun c1 => ?_)
  · have hq := bI_eq.mp c1
    refine lv_aload_n hx hb dM_image_22 rfl (lv_at hl 0 rfl) ?_
    refine lv_iconst (v := nI 1) hx hb dM_image_23 (by decide) ?_
    refine pw_call (F := mW mo sa ea) (va_runV (As := [.int (nI 1)]) (rest := []) ⟨hx, hb, hml, hown, htA⟩ (m_raise l G cA mo (mF (nI 0) ao af n lw hg sa ea) (nI 1)) (cwV 1 htA (gd_V wd480 wd482 wd16 wd28 wd483) rfl rfl rfl (by decide +kernel) (by rw [hR]; exact ⟨Nat.le_of_ble_eq_true rfl, Nat.le_of_ble_eq_true rfl⟩)) (pw_V (ci := 4) (q := (RM, TM, 8)) hKN hob rfl ⟨hob, Nat.zero_lt_succ _⟩) rfl rfl hl.1 rfl (lv_room (Nat.le_of_ble_eq_true rfl)) dM_image_24 (by rw [hR]; exact ⟨Nat.le_of_ble_eq_true rfl, Nat.le_of_ble_eq_true rfl⟩)) hL (fun q h => Or.inl h) (fun v9 st9 t9 lc5 h0 ha9 hL hq9 => ?_)
    obtain ⟨hv9, hob1, hz1, hk1⟩ := hq9
    cases hv9
    rw [h0] at hz1 hk1
    generalize t9.heap = H4 at hob1 hz1 hk1 ⊢
    have hob : ob G 4 mo (mF (nI 1) ao af n lw hg sa ea) H4 := hob1
    have hal := al_k hal (hk1 ao hA.1)
    have hab := ai_k hab (hk1 af hA.2.1)
    have hsl := ai_k hsl (hk1 sa hA.2.2.1)
    have hel := ai_k hel (hk1 ea hA.2.2.2.1)
    have hk : ∀ q, q ≠ mo → q ≠ sa → q ≠ ea → H4[q]? = s.heap[q]? := fun q h1 h2 h3 => (hk1 q h1).trans (hk q h1 h2 h3)
    have hz := hz1.trans hz
    refine lv_i2l hx hb dM_image_27 rfl ?_
    rw [hQ]
    exact W.lret (v := (0 : Int32).toInt64) hx hb hrt (fun t ht hW => ⟨_, (nI 1), rfl, (Or.inl ⟨hq, rfl⟩), ⟨lw, hg, fS, fE, by rw [ht]; exact ⟨hob, hal, hab, hsl, hel⟩⟩, by rw [ht]; exact hz, by rw [ht]; exact hk⟩) hL dM_image_28
  · obtain ⟨a, ha, rfl⟩ := inb_t (by omega) (bI_ne.mp c1)
    refine lv_aload_n hx hb dM_image_13 rfl (lv_at hl 0 rfl) ?_
    refine lv_iload_n hx hb dM_image_14 rfl (lv_at hl 1 rfl) ?_
    refine lv_lload_n hx hb dM_image_15 rfl (lv_at hl 2 rfl) ?_
    refine vp_callSl (va_Run.run (va_runV (As := [.int (nI a), .long z]) (rest := []) ⟨hx, hb, hml, hown, htA⟩ (m_all l G cA mo ao (mF (nI 0) ao af n lw hg sa ea) fo a z rfl (by omega)) (cwV 2 htA (gd_V wd494 wd496 wd18 wd28 wd497) rfl rfl rfl (by decide +kernel) (by rw [hR]; exact ⟨Nat.le_of_ble_eq_true rfl, Nat.le_of_ble_eq_true rfl⟩)) (pw_V (ci := 4) (q := (RM, TM, 8)) hKN hob rfl ⟨hob, hal⟩) rfl rfl hl.1 rfl (lv_room (Nat.le_of_ble_eq_true rfl)) dM_image_16 (by rw [hR]; exact ⟨Nat.le_of_ble_eq_true rfl, Nat.le_of_ble_eq_true rfl⟩))) (fun r4 hr4 => ?_)
    subst hr4
    refine lv_goto (tgt := 28) hx hb dM_image_19 (by decide) ?_
    rw [hQ]
    exact W.lret (v := gf (fun k => fo (64 * a + k)) z 64) hx hb hrt (fun t ht hW => ⟨_, (nI 0), rfl, (Or.inr ⟨a, ha, rfl, rfl, rfl⟩), ⟨lw, hg, fS, fE, by rw [ht]; exact ⟨hob, hal, hab, hsl, hel⟩⟩, by rw [ht]; exact hz, by rw [ht]; exact hk⟩) hL dM_image_28

set_option maxRecDepth 100000 in
set_option maxHeartbeats 4000000 in
theorem m_filter (l : Launch) (G : va_G) (cA : Nat → ClassId) (mo ao af sa ea n : Nat) (fo : Nat → Int64) (fb : Nat → Int32) (v : Int32) : Met l yM_filter wsM_filter ({ frames := 2, cells := 0, slots := 0, locals := 43 }) (PH G cA [.ref mo, .int v] (fun H => (mA mo ao af sa ea ∧ n ≤ 50 ∧ ∃ th, mV G cA mo ao af sa ea n fo fb th H))) (mI G cA mo ao af sa ea n fo fb (fun r th => (inb n v = false ∧ th = nI 1) ∨ (∃ a, a < n ∧ v = nI a ∧ th = nI 0 ∧ ((fb a = 0 ∧ r = 0) ∨ (¬ fb a = 0 ∧ r = 1))))) 0 0 (mW mo sa ea) := by
  refine Met.ofW (cc := cM_filter) (maxL := 2) (ret := (some .int)) (by decide) rfl ?_
  intro p e s m args below meth c s₁ B hml hv
  obtain ⟨hav, hKN, hA, hn, th0, lw, hg, fS, fE, hob, hal, hab, hsl, hel⟩ := hv
  have hK := hKN.1
  have hx := B.exec
  have hb := B.bytes
  have hrt := B.returns
  have htA : ∀ w ∈ ALL, w.before args s = true := fun w h => atoms_spec (ws := wsM_filter) B.pre w (List.mem_cons_of_mem _ h)
  have hown : s.vm.findClass RM = some m.cls := findClass_of_methodNamed B.named
  have hlocks := B.notSynchronized
  refine pw_nm (fun R Q hR hQ => ?_)
  refine pw_entry (vs := [.ref mo, .int v]) hav (Nat.le_of_ble_eq_true rfl) (fun ls hl => ?_)
  have hl : lv_has ls 2 [(0, .ref mo), (1, .int v)] := hl
  have hz : s.heap.size = s.heap.size := rfl
  have hk : ∀ q, q ≠ mo → q ≠ sa → q ≠ ea → s.heap[q]? = s.heap[q]? := fun _ _ _ _ => rfl
  have hL : ∀ z ∈ ([] : List Loc), mW mo sa ea z.base := fun _ h => by cases h
  refine lv_aload_n hx hb dM_filter_0 rfl (lv_at hl 0 rfl) ?_
  refine lv_iconst (v := nI 0) hx hb dM_filter_1 (by decide) ?_
  refine pw_put (ci := 4) (C := RM) (T := TM) (N := 8) (ty := .int) (F := mW mo sa ea) hx hb htA inM tyM tyM_ok nmM hown hK hob rfl 0 (by decide) (htA _ wd435) (fun _ h9 => h9) rfl (by decide +kernel) rfl rfl (Nat.le_of_ble_eq_true rfl) hL (Or.inl rfl) dM_filter_2 (fun H1 lc2 hob1 hz1 hk1 hL => ?_)
  have hob : ob G 4 mo (mF (nI 0) ao af n lw hg sa ea) H1 := hob1
  have hal := al_k hal (hk1 ao hA.1)
  have hab := ai_k hab (hk1 af hA.2.1)
  have hsl := ai_k hsl (hk1 sa hA.2.2.1)
  have hel := ai_k hel (hk1 ea hA.2.2.2.1)
  have hk : ∀ q, q ≠ mo → q ≠ sa → q ≠ ea → H1[q]? = s.heap[q]? := fun q h1 h2 h3 => (hk1 q h1).trans (hk q h1 h2 h3)
  have hz := hz1.trans hz
  refine lv_aload_n hx hb dM_filter_5 rfl (lv_at hl 0 rfl) ?_
  refine lv_iload_n hx hb dM_filter_6 rfl (lv_at hl 1 rfl) ?_
  refine vp_callSi (va_Run.run (va_runV (As := [.int v]) (rest := []) ⟨hx, hb, hml, hown, htA⟩ (m_made l G cA mo n (mF (nI 0) ao af n lw hg sa ea) v rfl (by omega)) (cwV 1 htA (gd_V wd476 wd478 wd15 wd28 wd479) rfl rfl rfl (by decide +kernel) (by rw [hR]; exact ⟨Nat.le_of_ble_eq_true rfl, Nat.le_of_ble_eq_true rfl⟩)) (pw_V (ci := 4) (q := (RM, TM, 8)) hKN hob rfl hob) rfl rfl hl.1 rfl (lv_room (Nat.le_of_ble_eq_true rfl)) dM_filter_7 (by rw [hR]; exact ⟨Nat.le_of_ble_eq_true rfl, Nat.le_of_ble_eq_true rfl⟩))) (fun r3 hr3 => ?_)
  subst hr3
  refine lv_if_ne (tgt := 19) hx hb dM_filter_10 (by decide) (fun c1 => ?_) (fun c1 => ?_)
  · obtain ⟨a, ha, rfl⟩ := inb_t (by omega) (bI_ne.mp c1)
    refine lv_aload_n hx hb dM_filter_19 rfl (lv_at hl 0 rfl) ?_
    refine va_get (D := G) (ci := 4) (v := .ref af) (C := RM) (T := TM) (N := 8) hx hb htA inM hown hK (ob_P hob) 0 rfl rfl 2 (by decide) (htA _ wd437) (fun _ h9 => h9) rfl dM_filter_20 ?_
    refine lv_iload_n hx hb dM_filter_23 rfl (lv_at hl 1 rfl) ?_
    refine pw_zald hx hb hK hab 3 rfl (by omega) (by decide) dM_filter_24 ?_
    refine lv_if_eq (tgt := 32) hx hb dM_filter_25 (by decide) (fun c2 => ?_) (fun c2 => ?_)
    · refine lv_iconst (v := nI 0) hx hb dM_filter_32 (by decide) ?_
      rw [hQ]
      exact W.iret (v := nI 0) hx hb hrt (fun t ht hW => ⟨_, (nI 0), rfl, (Or.inr ⟨a, ha, rfl, rfl, Or.inl ⟨c2, rfl⟩⟩), ⟨lw, hg, fS, fE, by rw [ht]; exact ⟨hob, hal, hab, hsl, hel⟩⟩, by rw [ht]; exact hz, by rw [ht]; exact hk⟩) hL dM_filter_33
    · refine lv_iconst (v := nI 1) hx hb dM_filter_28 (by decide) ?_
      refine lv_goto (tgt := 33) hx hb dM_filter_29 (by decide) ?_
      rw [hQ]
      exact W.iret (v := nI 1) hx hb hrt (fun t ht hW => ⟨_, (nI 0), rfl, (Or.inr ⟨a, ha, rfl, rfl, Or.inr ⟨c2, rfl⟩⟩), ⟨lw, hg, fS, fE, by rw [ht]; exact ⟨hob, hal, hab, hsl, hel⟩⟩, by rw [ht]; exact hz, by rw [ht]; exact hk⟩) hL dM_filter_33
  · have hq := bI_eq.mp c1
    refine lv_aload_n hx hb dM_filter_13 rfl (lv_at hl 0 rfl) ?_
    refine lv_iconst (v := nI 1) hx hb dM_filter_14 (by decide) ?_
    refine pw_call (F := mW mo sa ea) (va_runV (As := [.int (nI 1)]) (rest := []) ⟨hx, hb, hml, hown, htA⟩ (m_raise l G cA mo (mF (nI 0) ao af n lw hg sa ea) (nI 1)) (cwV 1 htA (gd_V wd480 wd482 wd16 wd28 wd483) rfl rfl rfl (by decide +kernel) (by rw [hR]; exact ⟨Nat.le_of_ble_eq_true rfl, Nat.le_of_ble_eq_true rfl⟩)) (pw_V (ci := 4) (q := (RM, TM, 8)) hKN hob rfl ⟨hob, Nat.zero_lt_succ _⟩) rfl rfl hl.1 rfl (lv_room (Nat.le_of_ble_eq_true rfl)) dM_filter_15 (by rw [hR]; exact ⟨Nat.le_of_ble_eq_true rfl, Nat.le_of_ble_eq_true rfl⟩)) hL (fun q h => Or.inl h) (fun v9 st9 t9 lc5 h0 ha9 hL hq9 => ?_)
    obtain ⟨hv9, hob1, hz1, hk1⟩ := hq9
    cases hv9
    rw [h0] at hz1 hk1
    generalize t9.heap = H4 at hob1 hz1 hk1 ⊢
    have hob : ob G 4 mo (mF (nI 1) ao af n lw hg sa ea) H4 := hob1
    have hal := al_k hal (hk1 ao hA.1)
    have hab := ai_k hab (hk1 af hA.2.1)
    have hsl := ai_k hsl (hk1 sa hA.2.2.1)
    have hel := ai_k hel (hk1 ea hA.2.2.2.1)
    have hk : ∀ q, q ≠ mo → q ≠ sa → q ≠ ea → H4[q]? = s.heap[q]? := fun q h1 h2 h3 => (hk1 q h1).trans (hk q h1 h2 h3)
    have hz := hz1.trans hz
    rw [hQ]
    exact W.iret (v := 0) hx hb hrt (fun t ht hW => ⟨_, (nI 1), rfl, (Or.inl ⟨hq, rfl⟩), ⟨lw, hg, fS, fE, by rw [ht]; exact ⟨hob, hal, hab, hsl, hel⟩⟩, by rw [ht]; exact hz, by rw [ht]; exact hk⟩) hL dM_filter_18

set_option maxRecDepth 100000 in
set_option maxHeartbeats 4000000 in
theorem m_same (l : Launch) (G : va_G) (cA : Nat → ClassId) (mo ao af sa ea n : Nat) (fo : Nat → Int64) (fb : Nat → Int32) (v v2 : Int32) : Met l yM_same wsM_same ({ frames := 2, cells := 0, slots := 0, locals := 43 }) (PH G cA [.ref mo, .int v, .int v2] (fun H => (mA mo ao af sa ea ∧ n ≤ 50 ∧ ∃ th, mV G cA mo ao af sa ea n fo fb th H))) (mI G cA mo ao af sa ea n fo fb (fun r th => ((inb n v = false ∨ inb n v2 = false) ∧ th = nI 1) ∨ (∃ a b, a < n ∧ b < n ∧ v = nI a ∧ v2 = nI b ∧  th = nI 0 ∧ ∃ k, apR (fun k => fo (64 * a + k)) (fun k => fo (64 * b + k)) k ∧ ((k = 64 ∧ r = 1) ∨ (¬ k = 64 ∧ r = 0))))) 0 0 (mW mo sa ea) := by
  refine Met.ofW (cc := cM_same) (maxL := 3) (ret := (some .int)) (by decide) rfl ?_
  intro p e s m args below meth c s₁ B hml hv
  obtain ⟨hav, hKN, hA, hn, th0, lw, hg, fS, fE, hob, hal, hab, hsl, hel⟩ := hv
  have hK := hKN.1
  have hx := B.exec
  have hb := B.bytes
  have hrt := B.returns
  have htA : ∀ w ∈ ALL, w.before args s = true := fun w h => atoms_spec (ws := wsM_same) B.pre w (List.mem_cons_of_mem _ h)
  have hown : s.vm.findClass RM = some m.cls := findClass_of_methodNamed B.named
  have hlocks := B.notSynchronized
  refine pw_nm (fun R Q hR hQ => ?_)
  refine pw_entry (vs := [.ref mo, .int v, .int v2]) hav (Nat.le_of_ble_eq_true rfl) (fun ls hl => ?_)
  have hl : lv_has ls 3 [(0, .ref mo), (1, .int v), (2, .int v2)] := hl
  have hz : s.heap.size = s.heap.size := rfl
  have hk : ∀ q, q ≠ mo → q ≠ sa → q ≠ ea → s.heap[q]? = s.heap[q]? := fun _ _ _ _ => rfl
  have hL : ∀ z ∈ ([] : List Loc), mW mo sa ea z.base := fun _ h => by cases h
  refine lv_aload_n hx hb dM_same_0 rfl (lv_at hl 0 rfl) ?_
  refine lv_iconst (v := nI 0) hx hb dM_same_1 (by decide) ?_
  refine pw_put (ci := 4) (C := RM) (T := TM) (N := 8) (ty := .int) (F := mW mo sa ea) hx hb htA inM tyM tyM_ok nmM hown hK hob rfl 0 (by decide) (htA _ wd435) (fun _ h9 => h9) rfl (by decide +kernel) rfl rfl (Nat.le_of_ble_eq_true rfl) hL (Or.inl rfl) dM_same_2 (fun H1 lc2 hob1 hz1 hk1 hL => ?_)
  have hob : ob G 4 mo (mF (nI 0) ao af n lw hg sa ea) H1 := hob1
  have hal := al_k hal (hk1 ao hA.1)
  have hab := ai_k hab (hk1 af hA.2.1)
  have hsl := ai_k hsl (hk1 sa hA.2.2.1)
  have hel := ai_k hel (hk1 ea hA.2.2.2.1)
  have hk : ∀ q, q ≠ mo → q ≠ sa → q ≠ ea → H1[q]? = s.heap[q]? := fun q h1 h2 h3 => (hk1 q h1).trans (hk q h1 h2 h3)
  have hz := hz1.trans hz
  refine lv_aload_n hx hb dM_same_5 rfl (lv_at hl 0 rfl) ?_
  refine lv_iload_n hx hb dM_same_6 rfl (lv_at hl 1 rfl) ?_
  refine vp_callSi (va_Run.run (va_runV (As := [.int v]) (rest := []) ⟨hx, hb, hml, hown, htA⟩ (m_made l G cA mo n (mF (nI 0) ao af n lw hg sa ea) v rfl (by omega)) (cwV 1 htA (gd_V wd476 wd478 wd15 wd28 wd479) rfl rfl rfl (by decide +kernel) (by rw [hR]; exact ⟨Nat.le_of_ble_eq_true rfl, Nat.le_of_ble_eq_true rfl⟩)) (pw_V (ci := 4) (q := (RM, TM, 8)) hKN hob rfl hob) rfl rfl hl.1 rfl (lv_room (Nat.le_of_ble_eq_true rfl)) dM_same_7 (by rw [hR]; exact ⟨Nat.le_of_ble_eq_true rfl, Nat.le_of_ble_eq_true rfl⟩))) (fun r3 hr3 => ?_)
  subst hr3
  refine lv_if_eq (tgt := 21) hx hb dM_same_10 (by decide) (fun c1 => ?_) (fun c1 => ?_)
  · have hq1 := bI_eq.mp c1
    refine lv_aload_n hx hb dM_same_21 rfl (lv_at hl 0 rfl) ?_
    refine lv_iconst (v := nI 1) hx hb dM_same_22 (by decide) ?_
    refine pw_call (F := mW mo sa ea) (va_runV (As := [.int (nI 1)]) (rest := []) ⟨hx, hb, hml, hown, htA⟩ (m_raise l G cA mo (mF (nI 0) ao af n lw hg sa ea) (nI 1)) (cwV 1 htA (gd_V wd480 wd482 wd16 wd28 wd483) rfl rfl rfl (by decide +kernel) (by rw [hR]; exact ⟨Nat.le_of_ble_eq_true rfl, Nat.le_of_ble_eq_true rfl⟩)) (pw_V (ci := 4) (q := (RM, TM, 8)) hKN hob rfl ⟨hob, Nat.zero_lt_succ _⟩) rfl rfl hl.1 rfl (lv_room (Nat.le_of_ble_eq_true rfl)) dM_same_23 (by rw [hR]; exact ⟨Nat.le_of_ble_eq_true rfl, Nat.le_of_ble_eq_true rfl⟩)) hL (fun q h => Or.inl h) (fun v9 st9 t9 lc5 h0 ha9 hL hq9 => ?_)
    obtain ⟨hv9, hob1, hz1, hk1⟩ := hq9
    cases hv9
    rw [h0] at hz1 hk1
    generalize t9.heap = H4 at hob1 hz1 hk1 ⊢
    have hob : ob G 4 mo (mF (nI 1) ao af n lw hg sa ea) H4 := hob1
    have hal := al_k hal (hk1 ao hA.1)
    have hab := ai_k hab (hk1 af hA.2.1)
    have hsl := ai_k hsl (hk1 sa hA.2.2.1)
    have hel := ai_k hel (hk1 ea hA.2.2.2.1)
    have hk : ∀ q, q ≠ mo → q ≠ sa → q ≠ ea → H4[q]? = s.heap[q]? := fun q h1 h2 h3 => (hk1 q h1).trans (hk q h1 h2 h3)
    have hz := hz1.trans hz
    rw [hQ]
    exact W.iret (v := 0) hx hb hrt (fun t ht hW => ⟨_, (nI 1), rfl, (Or.inl ⟨Or.inl hq1, rfl⟩), ⟨lw, hg, fS, fE, by rw [ht]; exact ⟨hob, hal, hab, hsl, hel⟩⟩, by rw [ht]; exact hz, by rw [ht]; exact hk⟩) hL dM_same_26
  · have hq1 := bI_ne.mp c1
    refine lv_aload_n hx hb dM_same_13 rfl (lv_at hl 0 rfl) ?_
    refine lv_iload_n hx hb dM_same_14 rfl (lv_at hl 2 rfl) ?_
    refine vp_callSi (va_Run.run (va_runV (As := [.int v2]) (rest := []) ⟨hx, hb, hml, hown, htA⟩ (m_made l G cA mo n (mF (nI 0) ao af n lw hg sa ea) v2 rfl (by omega)) (cwV 1 htA (gd_V wd476 wd478 wd15 wd28 wd479) rfl rfl rfl (by decide +kernel) (by rw [hR]; exact ⟨Nat.le_of_ble_eq_true rfl, Nat.le_of_ble_eq_true rfl⟩)) (pw_V (ci := 4) (q := (RM, TM, 8)) hKN hob rfl hob) rfl rfl hl.1 rfl (lv_room (Nat.le_of_ble_eq_true rfl)) dM_same_15 (by rw [hR]; exact ⟨Nat.le_of_ble_eq_true rfl, Nat.le_of_ble_eq_true rfl⟩))) (fun r4 hr4 => ?_)
    subst hr4
    refine lv_if_ne (tgt := 27) hx hb dM_same_18 (by decide) (fun c2 => ?_) (fun c2 => ?_)
    · obtain ⟨b, hb0, rfl⟩ := inb_t (by omega) (bI_ne.mp c2)
      obtain ⟨a, ha, rfl⟩ := inb_t (by omega) hq1
      refine lv_aload_n hx hb dM_same_27 rfl (lv_at hl 0 rfl) ?_
      refine lv_iload_n hx hb dM_same_28 rfl (lv_at hl 1 rfl) ?_
      refine lv_iload_n hx hb dM_same_29 rfl (lv_at hl 2 rfl) ?_
      refine vp_callSi (va_Run.run (va_runV (As := [.int (nI a), .int (nI b)]) (rest := []) ⟨hx, hb, hml, hown, htA⟩ (m_apart l G cA mo ao (mF (nI 0) ao af n lw hg sa ea) fo a b rfl (by omega) (by omega)) (cwV 2 htA (gd_V wd526 wd528 wd21 wd28 wd529) rfl rfl rfl (by decide +kernel) (by rw [hR]; exact ⟨Nat.le_of_ble_eq_true rfl, Nat.le_of_ble_eq_true rfl⟩)) (pw_V (ci := 4) (q := (RM, TM, 8)) hKN hob rfl ⟨hob, hal⟩) rfl rfl hl.1 rfl (lv_room (Nat.le_of_ble_eq_true rfl)) dM_same_30 (by rw [hR]; exact ⟨Nat.le_of_ble_eq_true rfl, Nat.le_of_ble_eq_true rfl⟩))) (fun r5 hr5 => ?_)
      obtain ⟨k, hap, rfl⟩ := hr5
      have hk64 := hap.1
      refine lv_bipush (v := nI 64) hx hb dM_same_33 (by decide) ?_
      refine lv_icmp_ne (tgt := 42) hx hb dM_same_35 (by decide) (fun c3 => ?_) (fun c3 => ?_)
      · have hne : ¬ k = 64 := fun q => c3 (by rw [q])
        refine lv_iconst (v := nI 0) hx hb dM_same_42 (by decide) ?_
        rw [hQ]
        exact W.iret (v := nI 0) hx hb hrt (fun t ht hW => ⟨_, (nI 0), rfl, (Or.inr ⟨a, b, ha, hb0, rfl, rfl, rfl, k, hap, Or.inr ⟨hne, rfl⟩⟩), ⟨lw, hg, fS, fE, by rw [ht]; exact ⟨hob, hal, hab, hsl, hel⟩⟩, by rw [ht]; exact hz, by rw [ht]; exact hk⟩) hL dM_same_43
      · have he : k = 64 := (nI_eq (by omega) (by decide)).mp c3
        refine lv_iconst (v := nI 1) hx hb dM_same_38 (by decide) ?_
        refine lv_goto (tgt := 43) hx hb dM_same_39 (by decide) ?_
        rw [hQ]
        exact W.iret (v := nI 1) hx hb hrt (fun t ht hW => ⟨_, (nI 0), rfl, (Or.inr ⟨a, b, ha, hb0, rfl, rfl, rfl, k, hap, Or.inl ⟨he, rfl⟩⟩), ⟨lw, hg, fS, fE, by rw [ht]; exact ⟨hob, hal, hab, hsl, hel⟩⟩, by rw [ht]; exact hz, by rw [ht]; exact hk⟩) hL dM_same_43
    · have hq2 := bI_eq.mp c2
      refine lv_aload_n hx hb dM_same_21 rfl (lv_at hl 0 rfl) ?_
      refine lv_iconst (v := nI 1) hx hb dM_same_22 (by decide) ?_
      refine pw_call (F := mW mo sa ea) (va_runV (As := [.int (nI 1)]) (rest := []) ⟨hx, hb, hml, hown, htA⟩ (m_raise l G cA mo (mF (nI 0) ao af n lw hg sa ea) (nI 1)) (cwV 1 htA (gd_V wd480 wd482 wd16 wd28 wd483) rfl rfl rfl (by decide +kernel) (by rw [hR]; exact ⟨Nat.le_of_ble_eq_true rfl, Nat.le_of_ble_eq_true rfl⟩)) (pw_V (ci := 4) (q := (RM, TM, 8)) hKN hob rfl ⟨hob, Nat.zero_lt_succ _⟩) rfl rfl hl.1 rfl (lv_room (Nat.le_of_ble_eq_true rfl)) dM_same_23 (by rw [hR]; exact ⟨Nat.le_of_ble_eq_true rfl, Nat.le_of_ble_eq_true rfl⟩)) hL (fun q h => Or.inl h) (fun v9 st9 t9 lc6 h0 ha9 hL hq9 => ?_)
      obtain ⟨hv9, hob1, hz1, hk1⟩ := hq9
      cases hv9
      rw [h0] at hz1 hk1
      generalize t9.heap = H5 at hob1 hz1 hk1 ⊢
      have hob : ob G 4 mo (mF (nI 1) ao af n lw hg sa ea) H5 := hob1
      have hal := al_k hal (hk1 ao hA.1)
      have hab := ai_k hab (hk1 af hA.2.1)
      have hsl := ai_k hsl (hk1 sa hA.2.2.1)
      have hel := ai_k hel (hk1 ea hA.2.2.2.1)
      have hk : ∀ q, q ≠ mo → q ≠ sa → q ≠ ea → H5[q]? = s.heap[q]? := fun q h1 h2 h3 => (hk1 q h1).trans (hk q h1 h2 h3)
      have hz := hz1.trans hz
      rw [hQ]
      exact W.iret (v := 0) hx hb hrt (fun t ht hW => ⟨_, (nI 1), rfl, (Or.inl ⟨Or.inr hq2, rfl⟩), ⟨lw, hg, fS, fE, by rw [ht]; exact ⟨hob, hal, hab, hsl, hel⟩⟩, by rw [ht]; exact hz, by rw [ht]; exact hk⟩) hL dM_same_26

set_option maxRecDepth 100000 in
set_option maxHeartbeats 4000000 in
theorem m_differ (l : Launch) (G : va_G) (cA : Nat → ClassId) (mo ao af sa ea n : Nat) (fo : Nat → Int64) (fb : Nat → Int32) (v v2 : Int32) : Met l yM_differ wsM_differ ({ frames := 2, cells := 0, slots := 0, locals := 43 }) (PH G cA [.ref mo, .int v, .int v2] (fun H => (mA mo ao af sa ea ∧ n ≤ 50 ∧ ∃ th, mV G cA mo ao af sa ea n fo fb th H))) (mI G cA mo ao af sa ea n fo fb (fun r th => ((inb n v = false ∨ inb n v2 = false) ∧ th = nI 1) ∨ (∃ a b, a < n ∧ b < n ∧ v = nI a ∧ v2 = nI b ∧  ∃ k, apR (fun k => fo (64 * a + k)) (fun k => fo (64 * b + k)) k ∧ ((k = 64 ∧ th = nI 2) ∨ (¬ k = 64 ∧ th = nI 0 ∧ r = nI k))))) 0 0 (mW mo sa ea) := by
  refine Met.ofW (cc := cM_differ) (maxL := 4) (ret := (some .int)) (by decide) rfl ?_
  intro p e s m args below meth c s₁ B hml hv
  obtain ⟨hav, hKN, hA, hn, th0, lw, hg, fS, fE, hob, hal, hab, hsl, hel⟩ := hv
  have hK := hKN.1
  have hx := B.exec
  have hb := B.bytes
  have hrt := B.returns
  have htA : ∀ w ∈ ALL, w.before args s = true := fun w h => atoms_spec (ws := wsM_differ) B.pre w (List.mem_cons_of_mem _ h)
  have hown : s.vm.findClass RM = some m.cls := findClass_of_methodNamed B.named
  have hlocks := B.notSynchronized
  refine pw_nm (fun R Q hR hQ => ?_)
  refine pw_entry (vs := [.ref mo, .int v, .int v2]) hav (Nat.le_of_ble_eq_true rfl) (fun ls hl => ?_)
  have hl : lv_has ls 4 [(0, .ref mo), (1, .int v), (2, .int v2)] := hl
  have hz : s.heap.size = s.heap.size := rfl
  have hk : ∀ q, q ≠ mo → q ≠ sa → q ≠ ea → s.heap[q]? = s.heap[q]? := fun _ _ _ _ => rfl
  have hL : ∀ z ∈ ([] : List Loc), mW mo sa ea z.base := fun _ h => by cases h
  refine lv_aload_n hx hb dM_differ_0 rfl (lv_at hl 0 rfl) ?_
  refine lv_iconst (v := nI 0) hx hb dM_differ_1 (by decide) ?_
  refine pw_put (ci := 4) (C := RM) (T := TM) (N := 8) (ty := .int) (F := mW mo sa ea) hx hb htA inM tyM tyM_ok nmM hown hK hob rfl 0 (by decide) (htA _ wd435) (fun _ h9 => h9) rfl (by decide +kernel) rfl rfl (Nat.le_of_ble_eq_true rfl) hL (Or.inl rfl) dM_differ_2 (fun H1 lc2 hob1 hz1 hk1 hL => ?_)
  have hob : ob G 4 mo (mF (nI 0) ao af n lw hg sa ea) H1 := hob1
  have hal := al_k hal (hk1 ao hA.1)
  have hab := ai_k hab (hk1 af hA.2.1)
  have hsl := ai_k hsl (hk1 sa hA.2.2.1)
  have hel := ai_k hel (hk1 ea hA.2.2.2.1)
  have hk : ∀ q, q ≠ mo → q ≠ sa → q ≠ ea → H1[q]? = s.heap[q]? := fun q h1 h2 h3 => (hk1 q h1).trans (hk q h1 h2 h3)
  have hz := hz1.trans hz
  refine lv_aload_n hx hb dM_differ_5 rfl (lv_at hl 0 rfl) ?_
  refine lv_iload_n hx hb dM_differ_6 rfl (lv_at hl 1 rfl) ?_
  refine vp_callSi (va_Run.run (va_runV (As := [.int v]) (rest := []) ⟨hx, hb, hml, hown, htA⟩ (m_made l G cA mo n (mF (nI 0) ao af n lw hg sa ea) v rfl (by omega)) (cwV 1 htA (gd_V wd476 wd478 wd15 wd28 wd479) rfl rfl rfl (by decide +kernel) (by rw [hR]; exact ⟨Nat.le_of_ble_eq_true rfl, Nat.le_of_ble_eq_true rfl⟩)) (pw_V (ci := 4) (q := (RM, TM, 8)) hKN hob rfl hob) rfl rfl hl.1 rfl (lv_room (Nat.le_of_ble_eq_true rfl)) dM_differ_7 (by rw [hR]; exact ⟨Nat.le_of_ble_eq_true rfl, Nat.le_of_ble_eq_true rfl⟩))) (fun r3 hr3 => ?_)
  subst hr3
  refine lv_if_eq (tgt := 21) hx hb dM_differ_10 (by decide) (fun c1 => ?_) (fun c1 => ?_)
  · have hq1 := bI_eq.mp c1
    refine lv_aload_n hx hb dM_differ_21 rfl (lv_at hl 0 rfl) ?_
    refine lv_iconst (v := nI 1) hx hb dM_differ_22 (by decide) ?_
    refine pw_call (F := mW mo sa ea) (va_runV (As := [.int (nI 1)]) (rest := []) ⟨hx, hb, hml, hown, htA⟩ (m_raise l G cA mo (mF (nI 0) ao af n lw hg sa ea) (nI 1)) (cwV 1 htA (gd_V wd480 wd482 wd16 wd28 wd483) rfl rfl rfl (by decide +kernel) (by rw [hR]; exact ⟨Nat.le_of_ble_eq_true rfl, Nat.le_of_ble_eq_true rfl⟩)) (pw_V (ci := 4) (q := (RM, TM, 8)) hKN hob rfl ⟨hob, Nat.zero_lt_succ _⟩) rfl rfl hl.1 rfl (lv_room (Nat.le_of_ble_eq_true rfl)) dM_differ_23 (by rw [hR]; exact ⟨Nat.le_of_ble_eq_true rfl, Nat.le_of_ble_eq_true rfl⟩)) hL (fun q h => Or.inl h) (fun v9 st9 t9 lc5 h0 ha9 hL hq9 => ?_)
    obtain ⟨hv9, hob1, hz1, hk1⟩ := hq9
    cases hv9
    rw [h0] at hz1 hk1
    generalize t9.heap = H4 at hob1 hz1 hk1 ⊢
    have hob : ob G 4 mo (mF (nI 1) ao af n lw hg sa ea) H4 := hob1
    have hal := al_k hal (hk1 ao hA.1)
    have hab := ai_k hab (hk1 af hA.2.1)
    have hsl := ai_k hsl (hk1 sa hA.2.2.1)
    have hel := ai_k hel (hk1 ea hA.2.2.2.1)
    have hk : ∀ q, q ≠ mo → q ≠ sa → q ≠ ea → H4[q]? = s.heap[q]? := fun q h1 h2 h3 => (hk1 q h1).trans (hk q h1 h2 h3)
    have hz := hz1.trans hz
    rw [hQ]
    exact W.iret (v := 0) hx hb hrt (fun t ht hW => ⟨_, (nI 1), rfl, (Or.inl ⟨Or.inl hq1, rfl⟩), ⟨lw, hg, fS, fE, by rw [ht]; exact ⟨hob, hal, hab, hsl, hel⟩⟩, by rw [ht]; exact hz, by rw [ht]; exact hk⟩) hL dM_differ_26
  · have hq1 := bI_ne.mp c1
    refine lv_aload_n hx hb dM_differ_13 rfl (lv_at hl 0 rfl) ?_
    refine lv_iload_n hx hb dM_differ_14 rfl (lv_at hl 2 rfl) ?_
    refine vp_callSi (va_Run.run (va_runV (As := [.int v2]) (rest := []) ⟨hx, hb, hml, hown, htA⟩ (m_made l G cA mo n (mF (nI 0) ao af n lw hg sa ea) v2 rfl (by omega)) (cwV 1 htA (gd_V wd476 wd478 wd15 wd28 wd479) rfl rfl rfl (by decide +kernel) (by rw [hR]; exact ⟨Nat.le_of_ble_eq_true rfl, Nat.le_of_ble_eq_true rfl⟩)) (pw_V (ci := 4) (q := (RM, TM, 8)) hKN hob rfl hob) rfl rfl hl.1 rfl (lv_room (Nat.le_of_ble_eq_true rfl)) dM_differ_15 (by rw [hR]; exact ⟨Nat.le_of_ble_eq_true rfl, Nat.le_of_ble_eq_true rfl⟩))) (fun r4 hr4 => ?_)
    subst hr4
    refine lv_if_ne (tgt := 27) hx hb dM_differ_18 (by decide) (fun c2 => ?_) (fun c2 => ?_)
    · obtain ⟨b, hb0, rfl⟩ := inb_t (by omega) (bI_ne.mp c2)
      obtain ⟨a, ha, rfl⟩ := inb_t (by omega) hq1
      refine lv_aload_n hx hb dM_differ_27 rfl (lv_at hl 0 rfl) ?_
      refine lv_iload_n hx hb dM_differ_28 rfl (lv_at hl 1 rfl) ?_
      refine lv_iload_n hx hb dM_differ_29 rfl (lv_at hl 2 rfl) ?_
      refine vp_callSi (va_Run.run (va_runV (As := [.int (nI a), .int (nI b)]) (rest := []) ⟨hx, hb, hml, hown, htA⟩ (m_apart l G cA mo ao (mF (nI 0) ao af n lw hg sa ea) fo a b rfl (by omega) (by omega)) (cwV 2 htA (gd_V wd526 wd528 wd21 wd28 wd529) rfl rfl rfl (by decide +kernel) (by rw [hR]; exact ⟨Nat.le_of_ble_eq_true rfl, Nat.le_of_ble_eq_true rfl⟩)) (pw_V (ci := 4) (q := (RM, TM, 8)) hKN hob rfl ⟨hob, hal⟩) rfl rfl hl.1 rfl (lv_room (Nat.le_of_ble_eq_true rfl)) dM_differ_30 (by rw [hR]; exact ⟨Nat.le_of_ble_eq_true rfl, Nat.le_of_ble_eq_true rfl⟩))) (fun r5 hr5 => ?_)
      obtain ⟨k, hap, rfl⟩ := hr5
      have hk64 := hap.1
      refine lv_istore_n (lv' := [(3, .int (nI k)), (0, .ref mo), (1, .int (nI a)), (2, .int (nI b))]) hx hb dM_differ_33 rfl hl (by decide) rfl (fun ls hl => ?_)
      refine lv_iload_n hx hb dM_differ_34 rfl (lv_at hl 0 rfl) ?_
      refine lv_bipush (v := nI 64) hx hb dM_differ_35 (by decide) ?_
      refine lv_icmp_ne (tgt := 48) hx hb dM_differ_37 (by decide) (fun c3 => ?_) (fun c3 => ?_)
      · have hne : ¬ k = 64 := fun q => c3 (by rw [q])
        refine lv_iload_n hx hb dM_differ_48 rfl (lv_at hl 0 rfl) ?_
        rw [hQ]
        exact W.iret (v := nI k) hx hb hrt (fun t ht hW => ⟨_, (nI 0), rfl, (Or.inr ⟨a, b, ha, hb0, rfl, rfl, k, hap, Or.inr ⟨hne, rfl, rfl⟩⟩), ⟨lw, hg, fS, fE, by rw [ht]; exact ⟨hob, hal, hab, hsl, hel⟩⟩, by rw [ht]; exact hz, by rw [ht]; exact hk⟩) hL dM_differ_49
      · have he : k = 64 := (nI_eq (by omega) (by decide)).mp c3
        refine lv_aload_n hx hb dM_differ_40 rfl (lv_at hl 1 rfl) ?_
        refine lv_iconst (v := nI 2) hx hb dM_differ_41 (by decide) ?_
        refine pw_call (F := mW mo sa ea) (va_runV (As := [.int (nI 2)]) (rest := []) ⟨hx, hb, hml, hown, htA⟩ (m_raise l G cA mo (mF (nI 0) ao af n lw hg sa ea) (nI 2)) (cwV 1 htA (gd_V wd480 wd482 wd16 wd28 wd483) rfl rfl rfl (by decide +kernel) (by rw [hR]; exact ⟨Nat.le_of_ble_eq_true rfl, Nat.le_of_ble_eq_true rfl⟩)) (pw_V (ci := 4) (q := (RM, TM, 8)) hKN hob rfl ⟨hob, Nat.zero_lt_succ _⟩) rfl rfl hl.1 rfl (lv_room (Nat.le_of_ble_eq_true rfl)) dM_differ_42 (by rw [hR]; exact ⟨Nat.le_of_ble_eq_true rfl, Nat.le_of_ble_eq_true rfl⟩)) hL (fun q h => Or.inl h) (fun v9 st9 t9 lc7 h0 ha9 hL hq9 => ?_)
        obtain ⟨hv9, hob1, hz1, hk1⟩ := hq9
        cases hv9
        rw [h0] at hz1 hk1
        generalize t9.heap = H6 at hob1 hz1 hk1 ⊢
        have hob : ob G 4 mo (mF (nI 2) ao af n lw hg sa ea) H6 := hob1
        have hal := al_k hal (hk1 ao hA.1)
        have hab := ai_k hab (hk1 af hA.2.1)
        have hsl := ai_k hsl (hk1 sa hA.2.2.1)
        have hel := ai_k hel (hk1 ea hA.2.2.2.1)
        have hk : ∀ q, q ≠ mo → q ≠ sa → q ≠ ea → H6[q]? = s.heap[q]? := fun q h1 h2 h3 => (hk1 q h1).trans (hk q h1 h2 h3)
        have hz := hz1.trans hz
        refine lv_goto (tgt := 49) hx hb dM_differ_45 (by decide) ?_
        rw [hQ]
        exact W.iret (v := 0) hx hb hrt (fun t ht hW => ⟨_, (nI 2), rfl, (Or.inr ⟨a, b, ha, hb0, rfl, rfl, k, hap, Or.inl ⟨he, rfl⟩⟩), ⟨lw, hg, fS, fE, by rw [ht]; exact ⟨hob, hal, hab, hsl, hel⟩⟩, by rw [ht]; exact hz, by rw [ht]; exact hk⟩) hL dM_differ_49
    · have hq2 := bI_eq.mp c2
      refine lv_aload_n hx hb dM_differ_21 rfl (lv_at hl 0 rfl) ?_
      refine lv_iconst (v := nI 1) hx hb dM_differ_22 (by decide) ?_
      refine pw_call (F := mW mo sa ea) (va_runV (As := [.int (nI 1)]) (rest := []) ⟨hx, hb, hml, hown, htA⟩ (m_raise l G cA mo (mF (nI 0) ao af n lw hg sa ea) (nI 1)) (cwV 1 htA (gd_V wd480 wd482 wd16 wd28 wd483) rfl rfl rfl (by decide +kernel) (by rw [hR]; exact ⟨Nat.le_of_ble_eq_true rfl, Nat.le_of_ble_eq_true rfl⟩)) (pw_V (ci := 4) (q := (RM, TM, 8)) hKN hob rfl ⟨hob, Nat.zero_lt_succ _⟩) rfl rfl hl.1 rfl (lv_room (Nat.le_of_ble_eq_true rfl)) dM_differ_23 (by rw [hR]; exact ⟨Nat.le_of_ble_eq_true rfl, Nat.le_of_ble_eq_true rfl⟩)) hL (fun q h => Or.inl h) (fun v9 st9 t9 lc6 h0 ha9 hL hq9 => ?_)
      obtain ⟨hv9, hob1, hz1, hk1⟩ := hq9
      cases hv9
      rw [h0] at hz1 hk1
      generalize t9.heap = H5 at hob1 hz1 hk1 ⊢
      have hob : ob G 4 mo (mF (nI 1) ao af n lw hg sa ea) H5 := hob1
      have hal := al_k hal (hk1 ao hA.1)
      have hab := ai_k hab (hk1 af hA.2.1)
      have hsl := ai_k hsl (hk1 sa hA.2.2.1)
      have hel := ai_k hel (hk1 ea hA.2.2.2.1)
      have hk : ∀ q, q ≠ mo → q ≠ sa → q ≠ ea → H5[q]? = s.heap[q]? := fun q h1 h2 h3 => (hk1 q h1).trans (hk q h1 h2 h3)
      have hz := hz1.trans hz
      rw [hQ]
      exact W.iret (v := 0) hx hb hrt (fun t ht hW => ⟨_, (nI 1), rfl, (Or.inl ⟨Or.inr hq2, rfl⟩), ⟨lw, hg, fS, fE, by rw [ht]; exact ⟨hob, hal, hab, hsl, hel⟩⟩, by rw [ht]; exact hz, by rw [ht]; exact hk⟩) hL dM_differ_26

set_option maxRecDepth 100000 in
set_option maxHeartbeats 4000000 in
theorem m_covers (l : Launch) (G : va_G) (cA : Nat → ClassId) (mo ao af sa ea n : Nat) (fo : Nat → Int64) (fb : Nat → Int32) (v v2 : Int32) : Met l yM_covers wsM_covers ({ frames := 2, cells := 0, slots := 0, locals := 43 }) (PH G cA [.ref mo, .int v, .int v2] (fun H => (mA mo ao af sa ea ∧ n ≤ 50 ∧ ∃ th, mV G cA mo ao af sa ea n fo fb th H))) (mI G cA mo ao af sa ea n fo fb (fun r th => ((inb n v = false ∨ inb n v2 = false) ∧ th = nI 1) ∨ (∃ a b, a < n ∧ b < n ∧ v = nI a ∧ v2 = nI b ∧  th = nI 0 ∧ (((∀ k, k < 64 → (fo (64 * b + k) &&& (fo (64 * a + k) ^^^ (-1))) = 0) ∧ r = 1) ∨ ((∃ k, k < 64 ∧ ¬ (fo (64 * b + k) &&& (fo (64 * a + k) ^^^ (-1))) = 0) ∧ r = 0))))) 0 0 (mW mo sa ea) := by
  refine Met.ofW (cc := cM_covers) (maxL := 4) (ret := (some .int)) (by decide) rfl ?_
  intro p e s m args below meth c s₁ B hml hv
  obtain ⟨hav, hKN, hA, hn, th0, lw, hg, fS, fE, hob, hal, hab, hsl, hel⟩ := hv
  have hK := hKN.1
  have hx := B.exec
  have hb := B.bytes
  have hrt := B.returns
  have htA : ∀ w ∈ ALL, w.before args s = true := fun w h => atoms_spec (ws := wsM_covers) B.pre w (List.mem_cons_of_mem _ h)
  have hown : s.vm.findClass RM = some m.cls := findClass_of_methodNamed B.named
  have hlocks := B.notSynchronized
  refine pw_nm (fun R Q hR hQ => ?_)
  refine pw_entry (vs := [.ref mo, .int v, .int v2]) hav (Nat.le_of_ble_eq_true rfl) (fun ls hl => ?_)
  have hl : lv_has ls 4 [(0, .ref mo), (1, .int v), (2, .int v2)] := hl
  have hz : s.heap.size = s.heap.size := rfl
  have hk : ∀ q, q ≠ mo → q ≠ sa → q ≠ ea → s.heap[q]? = s.heap[q]? := fun _ _ _ _ => rfl
  have hL : ∀ z ∈ ([] : List Loc), mW mo sa ea z.base := fun _ h => by cases h
  refine lv_aload_n hx hb dM_covers_0 rfl (lv_at hl 0 rfl) ?_
  refine lv_iconst (v := nI 0) hx hb dM_covers_1 (by decide) ?_
  refine pw_put (ci := 4) (C := RM) (T := TM) (N := 8) (ty := .int) (F := mW mo sa ea) hx hb htA inM tyM tyM_ok nmM hown hK hob rfl 0 (by decide) (htA _ wd435) (fun _ h9 => h9) rfl (by decide +kernel) rfl rfl (Nat.le_of_ble_eq_true rfl) hL (Or.inl rfl) dM_covers_2 (fun H1 lc2 hob1 hz1 hk1 hL => ?_)
  have hob : ob G 4 mo (mF (nI 0) ao af n lw hg sa ea) H1 := hob1
  have hal := al_k hal (hk1 ao hA.1)
  have hab := ai_k hab (hk1 af hA.2.1)
  have hsl := ai_k hsl (hk1 sa hA.2.2.1)
  have hel := ai_k hel (hk1 ea hA.2.2.2.1)
  have hk : ∀ q, q ≠ mo → q ≠ sa → q ≠ ea → H1[q]? = s.heap[q]? := fun q h1 h2 h3 => (hk1 q h1).trans (hk q h1 h2 h3)
  have hz := hz1.trans hz
  refine lv_aload_n hx hb dM_covers_5 rfl (lv_at hl 0 rfl) ?_
  refine lv_iload_n hx hb dM_covers_6 rfl (lv_at hl 1 rfl) ?_
  refine vp_callSi (va_Run.run (va_runV (As := [.int v]) (rest := []) ⟨hx, hb, hml, hown, htA⟩ (m_made l G cA mo n (mF (nI 0) ao af n lw hg sa ea) v rfl (by omega)) (cwV 1 htA (gd_V wd476 wd478 wd15 wd28 wd479) rfl rfl rfl (by decide +kernel) (by rw [hR]; exact ⟨Nat.le_of_ble_eq_true rfl, Nat.le_of_ble_eq_true rfl⟩)) (pw_V (ci := 4) (q := (RM, TM, 8)) hKN hob rfl hob) rfl rfl hl.1 rfl (lv_room (Nat.le_of_ble_eq_true rfl)) dM_covers_7 (by rw [hR]; exact ⟨Nat.le_of_ble_eq_true rfl, Nat.le_of_ble_eq_true rfl⟩))) (fun r3 hr3 => ?_)
  subst hr3
  refine lv_if_eq (tgt := 21) hx hb dM_covers_10 (by decide) (fun c1 => ?_) (fun c1 => ?_)
  · have hq1 := bI_eq.mp c1
    refine lv_aload_n hx hb dM_covers_21 rfl (lv_at hl 0 rfl) ?_
    refine lv_iconst (v := nI 1) hx hb dM_covers_22 (by decide) ?_
    refine pw_call (F := mW mo sa ea) (va_runV (As := [.int (nI 1)]) (rest := []) ⟨hx, hb, hml, hown, htA⟩ (m_raise l G cA mo (mF (nI 0) ao af n lw hg sa ea) (nI 1)) (cwV 1 htA (gd_V wd480 wd482 wd16 wd28 wd483) rfl rfl rfl (by decide +kernel) (by rw [hR]; exact ⟨Nat.le_of_ble_eq_true rfl, Nat.le_of_ble_eq_true rfl⟩)) (pw_V (ci := 4) (q := (RM, TM, 8)) hKN hob rfl ⟨hob, Nat.zero_lt_succ _⟩) rfl rfl hl.1 rfl (lv_room (Nat.le_of_ble_eq_true rfl)) dM_covers_23 (by rw [hR]; exact ⟨Nat.le_of_ble_eq_true rfl, Nat.le_of_ble_eq_true rfl⟩)) hL (fun q h => Or.inl h) (fun v9 st9 t9 lc5 h0 ha9 hL hq9 => ?_)
    obtain ⟨hv9, hob1, hz1, hk1⟩ := hq9
    cases hv9
    rw [h0] at hz1 hk1
    generalize t9.heap = H4 at hob1 hz1 hk1 ⊢
    have hob : ob G 4 mo (mF (nI 1) ao af n lw hg sa ea) H4 := hob1
    have hal := al_k hal (hk1 ao hA.1)
    have hab := ai_k hab (hk1 af hA.2.1)
    have hsl := ai_k hsl (hk1 sa hA.2.2.1)
    have hel := ai_k hel (hk1 ea hA.2.2.2.1)
    have hk : ∀ q, q ≠ mo → q ≠ sa → q ≠ ea → H4[q]? = s.heap[q]? := fun q h1 h2 h3 => (hk1 q h1).trans (hk q h1 h2 h3)
    have hz := hz1.trans hz
    rw [hQ]
    exact W.iret (v := 0) hx hb hrt (fun t ht hW => ⟨_, (nI 1), rfl, (Or.inl ⟨Or.inl hq1, rfl⟩), ⟨lw, hg, fS, fE, by rw [ht]; exact ⟨hob, hal, hab, hsl, hel⟩⟩, by rw [ht]; exact hz, by rw [ht]; exact hk⟩) hL dM_covers_26
  · have hq1 := bI_ne.mp c1
    refine lv_aload_n hx hb dM_covers_13 rfl (lv_at hl 0 rfl) ?_
    refine lv_iload_n hx hb dM_covers_14 rfl (lv_at hl 2 rfl) ?_
    refine vp_callSi (va_Run.run (va_runV (As := [.int v2]) (rest := []) ⟨hx, hb, hml, hown, htA⟩ (m_made l G cA mo n (mF (nI 0) ao af n lw hg sa ea) v2 rfl (by omega)) (cwV 1 htA (gd_V wd476 wd478 wd15 wd28 wd479) rfl rfl rfl (by decide +kernel) (by rw [hR]; exact ⟨Nat.le_of_ble_eq_true rfl, Nat.le_of_ble_eq_true rfl⟩)) (pw_V (ci := 4) (q := (RM, TM, 8)) hKN hob rfl hob) rfl rfl hl.1 rfl (lv_room (Nat.le_of_ble_eq_true rfl)) dM_covers_15 (by rw [hR]; exact ⟨Nat.le_of_ble_eq_true rfl, Nat.le_of_ble_eq_true rfl⟩))) (fun r4 hr4 => ?_)
    subst hr4
    refine lv_if_ne (tgt := 27) hx hb dM_covers_18 (by decide) (fun c2 => ?_) (fun c2 => ?_)
    · obtain ⟨b, hb0, rfl⟩ := inb_t (by omega) (bI_ne.mp c2)
      obtain ⟨a, ha, rfl⟩ := inb_t (by omega) hq1
      refine lv_iconst (v := nI 0) hx hb dM_covers_27 (by decide) ?_
      refine lv_istore_n (lv' := [(3, .int (nI 0)), (0, .ref mo), (1, .int (nI a)), (2, .int (nI b))]) hx hb dM_covers_28 rfl hl (by decide) rfl (fun ls hl => ?_)
      have lp : ∀ (k i : Nat), i + k = 64 → (∀ k, k < i → (fo (64 * b + k) &&& (fo (64 * a + k) ^^^ (-1))) = 0) → ∀ ls : Array Slot, lv_has ls 4 [(0, .ref mo), (1, .int (nI a)), (2, .int (nI b)), (3, .int (nI i))] → W p l e R s m args below meth c H1 lc2 0 0 Q (F0 m 29 ls []) := by
        intro k
        induction k with
        | zero =>
          intro i hik hinv ls hl
          have hi : i = 64 := by omega
          subst hi
          refine lv_iload_n hx hb dM_covers_29 rfl (lv_at hl 3 rfl) ?_
          refine lv_bipush (v := nI 64) hx hb dM_covers_30 (by decide) ?_
          refine lv_icmp_ge (tgt := 75) hx hb dM_covers_32 (by decide) (fun _ => ?_) (fun c9 => absurd (Int32.le_refl _) c9)
          refine lv_iconst (v := nI 1) hx hb dM_covers_75 (by decide) ?_
          rw [hQ]
          exact W.iret (v := nI 1) hx hb hrt (fun t ht hW => ⟨_, (nI 0), rfl, (Or.inr ⟨a, b, ha, hb0, rfl, rfl, rfl, Or.inl ⟨hinv, rfl⟩⟩), ⟨lw, hg, fS, fE, by rw [ht]; exact ⟨hob, hal, hab, hsl, hel⟩⟩, by rw [ht]; exact hz, by rw [ht]; exact hk⟩) hL dM_covers_76
        | succ k ih =>
          intro i hik hinv ls hl
          have hi : i < 64 := by omega
          refine lv_iload_n hx hb dM_covers_29 rfl (lv_at hl 3 rfl) ?_
          refine lv_bipush (v := nI 64) hx hb dM_covers_30 (by decide) ?_
          refine lv_icmp_ge (tgt := 75) hx hb dM_covers_32 (by decide) (fun c9 => absurd c9 (nI_ge hi (by decide))) (fun _ => ?_)
          refine lv_aload_n hx hb dM_covers_35 rfl (lv_at hl 0 rfl) ?_
          refine va_get (D := G) (ci := 4) (v := .ref ao) (C := RM) (T := TM) (N := 8) hx hb htA inM hown hK (ob_P hob) 0 rfl rfl 1 (by decide) (htA _ wd436) (fun _ h9 => h9) rfl dM_covers_36 ?_
          refine lv_bipush (v := nI 64) hx hb dM_covers_39 (by decide) ?_
          refine lv_iload_n hx hb dM_covers_41 rfl (lv_at hl 2 rfl) ?_
          refine lv_imul hx hb dM_covers_42 ?_
          refine pw_ti (y := nI (64 * b)) (pk_mul _ _) ?_
          refine lv_iload_n hx hb dM_covers_43 rfl (lv_at hl 3 rfl) ?_
          refine lv_iadd hx hb dM_covers_44 ?_
          refine pw_ti (y := nI ((64 * b) + i)) (nI_add _ _) ?_
          refine pw_lald hx hb hK hal 0 rfl (by omega) (by decide) dM_covers_45 ?_
          refine lv_aload_n hx hb dM_covers_46 rfl (lv_at hl 0 rfl) ?_
          refine va_get (D := G) (ci := 4) (v := .ref ao) (C := RM) (T := TM) (N := 8) hx hb htA inM hown hK (ob_P hob) 0 rfl rfl 1 (by decide) (htA _ wd436) (fun _ h9 => h9) rfl dM_covers_47 ?_
          refine lv_bipush (v := nI 64) hx hb dM_covers_50 (by decide) ?_
          refine lv_iload_n hx hb dM_covers_52 rfl (lv_at hl 1 rfl) ?_
          refine lv_imul hx hb dM_covers_53 ?_
          refine pw_ti (y := nI (64 * a)) (pk_mul _ _) ?_
          refine lv_iload_n hx hb dM_covers_54 rfl (lv_at hl 3 rfl) ?_
          refine lv_iadd hx hb dM_covers_55 ?_
          refine pw_ti (y := nI ((64 * a) + i)) (nI_add _ _) ?_
          refine pw_lald hx hb hK hal 0 rfl (by omega) (by decide) dM_covers_56 ?_
          refine lv_ldc2 hx hb hown (htA _ wd534) dM_covers_57 ?_
          refine lv_lxor hx hb dM_covers_60 ?_
          refine lv_land hx hb dM_covers_61 ?_
          refine lv_lconst (v := 0) hx hb dM_covers_62 rfl ?_
          refine W.lcmp hx hb dM_covers_63 ?_
          refine lv_if_eq (tgt := 69) hx hb dM_covers_64 (by decide) (fun c3 => ?_) (fun c3 => ?_)
          · have hq := (cmp0 _ _).mp c3
            refine lv_iinc (v := nI (i + 1)) (lv' := [(3, .int (nI (i + 1))), (0, .ref mo), (1, .int (nI a)), (2, .int (nI b))]) hx hb dM_covers_69 hl (k := 3) rfl (nI_1 i) (by decide) rfl (fun ls hl => ?_)
            refine lv_goto (tgt := 29) hx hb dM_covers_72 (by decide) ?_
            exact ih (i + 1) (by omega) (lt_s hinv hq) ls (lv_sub hl [1, 2, 3, 0] rfl)
          · refine lv_iconst (v := nI 0) hx hb dM_covers_67 (by decide) ?_
            rw [hQ]
            exact W.iret (v := nI 0) hx hb hrt (fun t ht hW => ⟨_, (nI 0), rfl, (Or.inr ⟨a, b, ha, hb0, rfl, rfl, rfl, Or.inr ⟨⟨i, hi, fun q => c3 ((cmp0 _ _).mpr q)⟩, rfl⟩⟩), ⟨lw, hg, fS, fE, by rw [ht]; exact ⟨hob, hal, hab, hsl, hel⟩⟩, by rw [ht]; exact hz, by rw [ht]; exact hk⟩) hL dM_covers_68
      exact lp (64) 0 (by omega) lt_0 ls (lv_sub hl [1, 2, 3, 0] rfl)
    · have hq2 := bI_eq.mp c2
      refine lv_aload_n hx hb dM_covers_21 rfl (lv_at hl 0 rfl) ?_
      refine lv_iconst (v := nI 1) hx hb dM_covers_22 (by decide) ?_
      refine pw_call (F := mW mo sa ea) (va_runV (As := [.int (nI 1)]) (rest := []) ⟨hx, hb, hml, hown, htA⟩ (m_raise l G cA mo (mF (nI 0) ao af n lw hg sa ea) (nI 1)) (cwV 1 htA (gd_V wd480 wd482 wd16 wd28 wd483) rfl rfl rfl (by decide +kernel) (by rw [hR]; exact ⟨Nat.le_of_ble_eq_true rfl, Nat.le_of_ble_eq_true rfl⟩)) (pw_V (ci := 4) (q := (RM, TM, 8)) hKN hob rfl ⟨hob, Nat.zero_lt_succ _⟩) rfl rfl hl.1 rfl (lv_room (Nat.le_of_ble_eq_true rfl)) dM_covers_23 (by rw [hR]; exact ⟨Nat.le_of_ble_eq_true rfl, Nat.le_of_ble_eq_true rfl⟩)) hL (fun q h => Or.inl h) (fun v9 st9 t9 lc6 h0 ha9 hL hq9 => ?_)
      obtain ⟨hv9, hob1, hz1, hk1⟩ := hq9
      cases hv9
      rw [h0] at hz1 hk1
      generalize t9.heap = H5 at hob1 hz1 hk1 ⊢
      have hob : ob G 4 mo (mF (nI 1) ao af n lw hg sa ea) H5 := hob1
      have hal := al_k hal (hk1 ao hA.1)
      have hab := ai_k hab (hk1 af hA.2.1)
      have hsl := ai_k hsl (hk1 sa hA.2.2.1)
      have hel := ai_k hel (hk1 ea hA.2.2.2.1)
      have hk : ∀ q, q ≠ mo → q ≠ sa → q ≠ ea → H5[q]? = s.heap[q]? := fun q h1 h2 h3 => (hk1 q h1).trans (hk q h1 h2 h3)
      have hz := hz1.trans hz
      rw [hQ]
      exact W.iret (v := 0) hx hb hrt (fun t ht hW => ⟨_, (nI 1), rfl, (Or.inl ⟨Or.inr hq2, rfl⟩), ⟨lw, hg, fS, fE, by rw [ht]; exact ⟨hob, hal, hab, hsl, hel⟩⟩, by rw [ht]; exact hz, by rw [ht]; exact hk⟩) hL dM_covers_26

set_option maxRecDepth 100000 in
set_option maxHeartbeats 4000000 in
theorem m_source (l : Launch) (G : va_G) (cA : Nat → ClassId) (mo ao af sa ea n : Nat) (fo : Nat → Int64) (fb : Nat → Int32) (v : Int32) (z : Int64) : Met l yM_source wsM_source ({ frames := 2, cells := 0, slots := 0, locals := 43 }) (PH G cA [.ref mo, .int v, .long z] (fun H => (mA mo ao af sa ea ∧ n ≤ 50 ∧ ∃ th, mV G cA mo ao af sa ea n fo fb th H))) (mL G cA mo ao af sa ea n fo fb (fun r th => (inb n v = false ∧ th = nI 1) ∨ (∃ a, a < n ∧ v = nI a ∧ th = nI 0 ∧ r = src (fun k => fo (64 * a + k)) z 64))) 0 0 (mW mo sa ea) := by
  refine Met.ofW (cc := cM_source) (maxL := 7) (ret := (some .long)) (by decide) rfl ?_
  intro p e s m args below meth c s₁ B hml hv
  obtain ⟨hav, hKN, hA, hn, th0, lw, hg, fS, fE, hob, hal, hab, hsl, hel⟩ := hv
  have hK := hKN.1
  have hx := B.exec
  have hb := B.bytes
  have hrt := B.returns
  have htA : ∀ w ∈ ALL, w.before args s = true := fun w h => atoms_spec (ws := wsM_source) B.pre w (List.mem_cons_of_mem _ h)
  have hown : s.vm.findClass RM = some m.cls := findClass_of_methodNamed B.named
  have hlocks := B.notSynchronized
  refine pw_nm (fun R Q hR hQ => ?_)
  refine pw_entry (vs := [.ref mo, .int v, .long z]) hav (Nat.le_of_ble_eq_true rfl) (fun ls hl => ?_)
  have hl : lv_has ls 7 [(0, .ref mo), (1, .int v), (2, .long z)] := hl
  have hz : s.heap.size = s.heap.size := rfl
  have hk : ∀ q, q ≠ mo → q ≠ sa → q ≠ ea → s.heap[q]? = s.heap[q]? := fun _ _ _ _ => rfl
  have hL : ∀ z ∈ ([] : List Loc), mW mo sa ea z.base := fun _ h => by cases h
  refine lv_aload_n hx hb dM_source_0 rfl (lv_at hl 0 rfl) ?_
  refine lv_iconst (v := nI 0) hx hb dM_source_1 (by decide) ?_
  refine pw_put (ci := 4) (C := RM) (T := TM) (N := 8) (ty := .int) (F := mW mo sa ea) hx hb htA inM tyM tyM_ok nmM hown hK hob rfl 0 (by decide) (htA _ wd435) (fun _ h9 => h9) rfl (by decide +kernel) rfl rfl (Nat.le_of_ble_eq_true rfl) hL (Or.inl rfl) dM_source_2 (fun H1 lc2 hob1 hz1 hk1 hL => ?_)
  have hob : ob G 4 mo (mF (nI 0) ao af n lw hg sa ea) H1 := hob1
  have hal := al_k hal (hk1 ao hA.1)
  have hab := ai_k hab (hk1 af hA.2.1)
  have hsl := ai_k hsl (hk1 sa hA.2.2.1)
  have hel := ai_k hel (hk1 ea hA.2.2.2.1)
  have hk : ∀ q, q ≠ mo → q ≠ sa → q ≠ ea → H1[q]? = s.heap[q]? := fun q h1 h2 h3 => (hk1 q h1).trans (hk q h1 h2 h3)
  have hz := hz1.trans hz
  refine lv_aload_n hx hb dM_source_5 rfl (lv_at hl 0 rfl) ?_
  refine lv_iload_n hx hb dM_source_6 rfl (lv_at hl 1 rfl) ?_
  refine vp_callSi (va_Run.run (va_runV (As := [.int v]) (rest := []) ⟨hx, hb, hml, hown, htA⟩ (m_made l G cA mo n (mF (nI 0) ao af n lw hg sa ea) v rfl (by omega)) (cwV 1 htA (gd_V wd476 wd478 wd15 wd28 wd479) rfl rfl rfl (by decide +kernel) (by rw [hR]; exact ⟨Nat.le_of_ble_eq_true rfl, Nat.le_of_ble_eq_true rfl⟩)) (pw_V (ci := 4) (q := (RM, TM, 8)) hKN hob rfl hob) rfl rfl hl.1 rfl (lv_room (Nat.le_of_ble_eq_true rfl)) dM_source_7 (by rw [hR]; exact ⟨Nat.le_of_ble_eq_true rfl, Nat.le_of_ble_eq_true rfl⟩))) (fun r3 hr3 => ?_)
  subst hr3
  refine lv_if_ne (tgt := 20) hx hb dM_source_10 (by decide) (fun c1 => ?_) (fun c1 => ?_)
  · obtain ⟨a, ha, rfl⟩ := inb_t (by omega) (bI_ne.mp c1)
    refine lv_lconst (v := 0) hx hb dM_source_20 rfl ?_
    refine lv_lstore (lv' := [(4, .long 0), (0, .ref mo), (1, .int (nI a)), (2, .long z)]) hx hb dM_source_21 hl (by decide) rfl (fun ls hl => ?_)
    refine lv_iconst (v := nI 0) hx hb dM_source_23 (by decide) ?_
    refine lv_istore (lv' := [(6, .int (nI 0)), (4, .long 0), (0, .ref mo), (1, .int (nI a)), (2, .long z)]) hx hb dM_source_24 hl (by decide) rfl (fun ls hl => ?_)
    have lp : ∀ (k i : Nat), i + k = 64 → ∀ ls : Array Slot, lv_has ls 7 [(0, .ref mo), (1, .int (nI a)), (2, .long z), (4, .long (src (fun k => fo (64 * a + k)) z i)), (6, .int (nI i))] → W p l e R s m args below meth c H1 lc2 0 0 Q (F0 m 26 ls []) := by
      intro k
      induction k with
      | zero =>
        intro i hik ls hl
        have hi : i = 64 := by omega
        subst hi
        refine lv_iload hx hb dM_source_26 (lv_at hl 4 rfl) ?_
        refine lv_bipush (v := nI 64) hx hb dM_source_28 (by decide) ?_
        refine lv_icmp_ge (tgt := 67) hx hb dM_source_30 (by decide) (fun _ => ?_) (fun c9 => absurd (Int32.le_refl _) c9)
        refine lv_lload hx hb dM_source_67 (lv_at hl 3 rfl) ?_
        rw [hQ]
        exact W.lret (v := src (fun k => fo (64 * a + k)) z 64) hx hb hrt (fun t ht hW => ⟨_, (nI 0), rfl, (Or.inr ⟨a, ha, rfl, rfl, rfl⟩), ⟨lw, hg, fS, fE, by rw [ht]; exact ⟨hob, hal, hab, hsl, hel⟩⟩, by rw [ht]; exact hz, by rw [ht]; exact hk⟩) hL dM_source_69
      | succ k ih =>
        intro i hik ls hl
        have hi : i < 64 := by omega
        refine lv_iload hx hb dM_source_26 (lv_at hl 4 rfl) ?_
        refine lv_bipush (v := nI 64) hx hb dM_source_28 (by decide) ?_
        refine lv_icmp_ge (tgt := 67) hx hb dM_source_30 (by decide) (fun c9 => absurd c9 (nI_ge hi (by decide))) (fun _ => ?_)
        refine lv_aload_n hx hb dM_source_33 rfl (lv_at hl 0 rfl) ?_
        refine va_get (D := G) (ci := 4) (v := .ref ao) (C := RM) (T := TM) (N := 8) hx hb htA inM hown hK (ob_P hob) 0 rfl rfl 1 (by decide) (htA _ wd436) (fun _ h9 => h9) rfl dM_source_34 ?_
        refine lv_bipush (v := nI 64) hx hb dM_source_37 (by decide) ?_
        refine lv_iload_n hx hb dM_source_39 rfl (lv_at hl 1 rfl) ?_
        refine lv_imul hx hb dM_source_40 ?_
        refine pw_ti (y := nI (64 * a)) (pk_mul _ _) ?_
        refine lv_iload hx hb dM_source_41 (lv_at hl 4 rfl) ?_
        refine lv_iadd hx hb dM_source_43 ?_
        refine pw_ti (y := nI ((64 * a) + i)) (nI_add _ _) ?_
        refine pw_lald hx hb hK hal 0 rfl (by omega) (by decide) dM_source_44 ?_
        refine lv_lload_n hx hb dM_source_45 rfl (lv_at hl 2 rfl) ?_
        refine lv_land hx hb dM_source_46 ?_
        refine lv_lconst (v := 0) hx hb dM_source_47 rfl ?_
        refine W.lcmp hx hb dM_source_48 ?_
        refine lv_if_eq (tgt := 61) hx hb dM_source_49 (by decide) (fun c3 => ?_) (fun c3 => ?_)
        · have hq := (cmp0 _ _).mp c3
          have hg : src (fun k => fo (64 * a + k)) z i = src (fun k => fo (64 * a + k)) z (i + 1) := by show _ = (if fo (64 * a + i) &&& z = 0 then _ else _); rw [if_pos hq]
          rw [hg] at hl
          refine lv_iinc (v := nI (i + 1)) (lv' := [(6, .int (nI (i + 1))), (0, .ref mo), (1, .int (nI a)), (2, .long z), (4, .long (src (fun k => fo (64 * a + k)) z (i + 1)))]) hx hb dM_source_61 hl (k := 4) rfl (nI_1 i) (by decide) rfl (fun ls hl => ?_)
          refine lv_goto (tgt := 26) hx hb dM_source_64 (by decide) ?_
          exact ih (i + 1) (by omega) ls (lv_sub hl [1, 2, 3, 4, 0] rfl)
        · have hq : ¬ fo (64 * a + i) &&& z = 0 := fun q => c3 ((cmp0 _ _).mpr q)
          refine lv_lload hx hb dM_source_52 (lv_at hl 3 rfl) ?_
          refine lv_lconst (v := 1) hx hb dM_source_54 rfl ?_
          refine lv_iload hx hb dM_source_55 (lv_at hl 4 rfl) ?_
          refine lv_lshl hx hb dM_source_57 rfl ?_
          refine lv_lor hx hb dM_source_58 ?_
          refine pw_tl (y := src (fun k => fo (64 * a + k)) z (i + 1)) (by show _ = (if fo (64 * a + i) &&& z = 0 then _ else _); rw [if_neg hq]; rfl) ?_
          refine lv_lstore (lv' := [(4, .long (src (fun k => fo (64 * a + k)) z (i + 1))), (0, .ref mo), (1, .int (nI a)), (2, .long z), (6, .int (nI i))]) hx hb dM_source_59 hl (by decide) rfl (fun ls hl => ?_)
          refine lv_iinc (v := nI (i + 1)) (lv' := [(6, .int (nI (i + 1))), (4, .long (src (fun k => fo (64 * a + k)) z (i + 1))), (0, .ref mo), (1, .int (nI a)), (2, .long z)]) hx hb dM_source_61 hl (k := 4) rfl (nI_1 i) (by decide) rfl (fun ls hl => ?_)
          refine lv_goto (tgt := 26) hx hb dM_source_64 (by decide) ?_
          exact ih (i + 1) (by omega) ls (lv_sub hl [2, 3, 4, 1, 0] rfl)
    exact lp (64) 0 (by omega) ls (lv_sub hl [2, 3, 4, 1, 0] rfl)
  · have hq := bI_eq.mp c1
    refine lv_aload_n hx hb dM_source_13 rfl (lv_at hl 0 rfl) ?_
    refine lv_iconst (v := nI 1) hx hb dM_source_14 (by decide) ?_
    refine pw_call (F := mW mo sa ea) (va_runV (As := [.int (nI 1)]) (rest := []) ⟨hx, hb, hml, hown, htA⟩ (m_raise l G cA mo (mF (nI 0) ao af n lw hg sa ea) (nI 1)) (cwV 1 htA (gd_V wd480 wd482 wd16 wd28 wd483) rfl rfl rfl (by decide +kernel) (by rw [hR]; exact ⟨Nat.le_of_ble_eq_true rfl, Nat.le_of_ble_eq_true rfl⟩)) (pw_V (ci := 4) (q := (RM, TM, 8)) hKN hob rfl ⟨hob, Nat.zero_lt_succ _⟩) rfl rfl hl.1 rfl (lv_room (Nat.le_of_ble_eq_true rfl)) dM_source_15 (by rw [hR]; exact ⟨Nat.le_of_ble_eq_true rfl, Nat.le_of_ble_eq_true rfl⟩)) hL (fun q h => Or.inl h) (fun v9 st9 t9 lc5 h0 ha9 hL hq9 => ?_)
    obtain ⟨hv9, hob1, hz1, hk1⟩ := hq9
    cases hv9
    rw [h0] at hz1 hk1
    generalize t9.heap = H4 at hob1 hz1 hk1 ⊢
    have hob : ob G 4 mo (mF (nI 1) ao af n lw hg sa ea) H4 := hob1
    have hal := al_k hal (hk1 ao hA.1)
    have hab := ai_k hab (hk1 af hA.2.1)
    have hsl := ai_k hsl (hk1 sa hA.2.2.1)
    have hel := ai_k hel (hk1 ea hA.2.2.2.1)
    have hk : ∀ q, q ≠ mo → q ≠ sa → q ≠ ea → H4[q]? = s.heap[q]? := fun q h1 h2 h3 => (hk1 q h1).trans (hk q h1 h2 h3)
    have hz := hz1.trans hz
    refine lv_i2l hx hb dM_source_18 rfl ?_
    rw [hQ]
    exact W.lret (v := (0 : Int32).toInt64) hx hb hrt (fun t ht hW => ⟨_, (nI 1), rfl, (Or.inl ⟨hq, rfl⟩), ⟨lw, hg, fS, fE, by rw [ht]; exact ⟨hob, hal, hab, hsl, hel⟩⟩, by rw [ht]; exact hz, by rw [ht]; exact hk⟩) hL dM_source_19
