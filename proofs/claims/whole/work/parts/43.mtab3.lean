set_option maxRecDepth 100000 in
set_option maxHeartbeats 4000000 in
theorem m_rules (l : Launch) (G : va_G) (cA : Nat → ClassId) (mo ao af sa ea n : Nat) (fo : Nat → Int64) (fb : Nat → Int32) (v : Int32) : Met l yM_rules wsM_rules ({ frames := 5, cells := 0, slots := 0, locals := 122 }) (PH G cA [.ref mo, .int v] (fun H => (mA mo ao af sa ea ∧ n ≤ 50 ∧ ∃ th, mV G cA mo ao af sa ea n fo fb th H))) (mI G cA mo ao af sa ea n fo fb (fun r th => (inb n v = false ∧ th = nI 1) ∨ (∃ a, a < n ∧ v = nI a ∧ th = nI 0 ∧ r = nI (tbl (fun k => fo (64 * a + k))).length))) 0 0 (mW mo sa ea) := by
  refine Met.ofW (cc := cM_rules) (maxL := 2) (ret := (some .int)) (by decide) rfl ?_
  intro p e s m args below meth c s₁ B hml hv
  obtain ⟨hav, hKN, hA, hn, th0, lw, hg, fS, fE, hob, hal, hab, hsl, hel⟩ := hv
  have hK := hKN.1
  have hx := B.exec
  have hb := B.bytes
  have hrt := B.returns
  have htA : ∀ w ∈ ALL, w.before args s = true := fun w h => atoms_spec (ws := wsM_rules) B.pre w (List.mem_cons_of_mem _ h)
  have hown : s.vm.findClass RM = some m.cls := findClass_of_methodNamed B.named
  have hlocks := B.notSynchronized
  refine pw_nm (fun R Q hR hQ => ?_)
  refine pw_entry (vs := [.ref mo, .int v]) hav (Nat.le_of_ble_eq_true rfl) (fun ls hl => ?_)
  have hl : lv_has ls 2 [(0, .ref mo), (1, .int v)] := hl
  have hz : s.heap.size = s.heap.size := rfl
  have hk : ∀ q, q ≠ mo → q ≠ sa → q ≠ ea → s.heap[q]? = s.heap[q]? := fun _ _ _ _ => rfl
  have hL : ∀ z ∈ ([] : List Loc), mW mo sa ea z.base := fun _ h => by cases h
  refine lv_aload_n hx hb dM_rules_0 rfl (lv_at hl 0 rfl) ?_
  refine lv_iconst (v := nI 0) hx hb dM_rules_1 (by decide) ?_
  refine pw_put (ci := 4) (C := RM) (T := TM) (N := 8) (ty := .int) (F := mW mo sa ea) hx hb htA inM tyM tyM_ok nmM hown hK hob rfl 0 (by decide) (htA _ wd435) (fun _ h9 => h9) rfl (by decide +kernel) rfl rfl (Nat.le_of_ble_eq_true rfl) hL (Or.inl rfl) dM_rules_2 (fun H1 lc2 hob1 hz1 hk1 hL => ?_)
  have hob : ob G 4 mo (mF (nI 0) ao af n lw hg sa ea) H1 := hob1
  have hal := al_k hal (hk1 ao hA.1)
  have hab := ai_k hab (hk1 af hA.2.1)
  have hsl := ai_k hsl (hk1 sa hA.2.2.1)
  have hel := ai_k hel (hk1 ea hA.2.2.2.1)
  have hk : ∀ q, q ≠ mo → q ≠ sa → q ≠ ea → H1[q]? = s.heap[q]? := fun q h1 h2 h3 => (hk1 q h1).trans (hk q h1 h2 h3)
  have hz := hz1.trans hz
  refine lv_aload_n hx hb dM_rules_5 rfl (lv_at hl 0 rfl) ?_
  refine lv_iload_n hx hb dM_rules_6 rfl (lv_at hl 1 rfl) ?_
  refine vp_callSi (va_Run.run (va_runV (As := [.int v]) (rest := []) ⟨hx, hb, hml, hown, htA⟩ (m_made l G cA mo n (mF (nI 0) ao af n lw hg sa ea) v rfl (by omega)) (cwV 1 htA (gd_V wd476 wd478 wd15 wd28 wd479) rfl rfl rfl (by decide +kernel) (by rw [hR]; exact ⟨Nat.le_of_ble_eq_true rfl, Nat.le_of_ble_eq_true rfl⟩)) (pw_V (ci := 4) (q := (RM, TM, 8)) hKN hob rfl hob) rfl rfl hl.1 rfl (lv_room (Nat.le_of_ble_eq_true rfl)) dM_rules_7 (by rw [hR]; exact ⟨Nat.le_of_ble_eq_true rfl, Nat.le_of_ble_eq_true rfl⟩))) (fun r3 hr3 => ?_)
  subst hr3
  refine lv_if_eq (tgt := 21) hx hb dM_rules_10 (by decide) (fun c1 => ?_) (fun c1 => ?_)
  · have hq := bI_eq.mp c1
    refine lv_aload_n hx hb dM_rules_21 rfl (lv_at hl 0 rfl) ?_
    refine lv_iconst (v := nI 1) hx hb dM_rules_22 (by decide) ?_
    refine pw_call (F := mW mo sa ea) (va_runV (As := [.int (nI 1)]) (rest := []) ⟨hx, hb, hml, hown, htA⟩ (m_raise l G cA mo (mF (nI 0) ao af n lw hg sa ea) (nI 1)) (cwV 1 htA (gd_V wd480 wd482 wd16 wd28 wd483) rfl rfl rfl (by decide +kernel) (by rw [hR]; exact ⟨Nat.le_of_ble_eq_true rfl, Nat.le_of_ble_eq_true rfl⟩)) (pw_V (ci := 4) (q := (RM, TM, 8)) hKN hob rfl ⟨hob, Nat.zero_lt_succ _⟩) rfl rfl hl.1 rfl (lv_room (Nat.le_of_ble_eq_true rfl)) dM_rules_23 (by rw [hR]; exact ⟨Nat.le_of_ble_eq_true rfl, Nat.le_of_ble_eq_true rfl⟩)) hL (fun q h => Or.inl h) (fun v9 st9 t9 lc5 h0 ha9 hL hq9 => ?_)
    obtain ⟨hv9, hob1, hz1, hk1⟩ := hq9
    cases hv9
    rw [h0] at hz1 hk1
    generalize t9.heap = H4 at hob1 hz1 hk1 ⊢
    have hob : ob G 4 mo (mF (nI 1) ao af n lw hg sa ea) H4 := hob1
    have hal := al_k hal (hk1 ao hA.1)
    have hab := ai_k hab (hk1 af hA.2.1)
    have hsl := ai_k hsl (hk1 sa hA.2.2.1)
    have hel := ai_k hel (hk1 ea hA.2.2.2.1)
    have hk : ∀ q, q ≠ mo → q ≠ sa → q ≠ ea → H4[q]? = s.heap[q]? := fun q h1 h2 h3 => (hk1 q h1).trans (hk q h1 h2 h3)
    have hz := hz1.trans hz
    rw [hQ]
    exact W.iret (v := 0) hx hb hrt (fun t ht hW => ⟨_, (nI 1), rfl, (Or.inl ⟨hq, rfl⟩), ⟨lw, hg, fS, fE, by rw [ht]; exact ⟨hob, hal, hab, hsl, hel⟩⟩, by rw [ht]; exact hz, by rw [ht]; exact hk⟩) hL dM_rules_26
  · obtain ⟨a, ha, rfl⟩ := inb_t (by omega) (bI_ne.mp c1)
    refine lv_aload_n hx hb dM_rules_13 rfl (lv_at hl 0 rfl) ?_
    refine lv_iload_n hx hb dM_rules_14 rfl (lv_at hl 1 rfl) ?_
    refine pw_call (F := mW mo sa ea) (va_runV (As := [.int (nI a)]) (rest := []) ⟨hx, hb, hml, hown, htA⟩ (m_table l G cA mo ao af sa ea n fo fb (nI 0) a (by omega)) (cwV 1 htA (gd_V wd543 wd545 wd22 wd28 wd546) rfl rfl rfl (by decide +kernel) (by rw [hR]; exact ⟨Nat.le_of_ble_eq_true rfl, Nat.le_of_ble_eq_true rfl⟩)) (pw_V (ci := 4) (q := (RM, TM, 8)) hKN hob rfl ⟨hA, lw, hg, fS, fE, hob, hal, hab, hsl, hel⟩) rfl rfl hl.1 rfl (lv_room (Nat.le_of_ble_eq_true rfl)) dM_rules_15 (by rw [hR]; exact ⟨Nat.le_of_ble_eq_true rfl, Nat.le_of_ble_eq_true rfl⟩)) hL (fun q h => h) (fun v9 st9 t9 lc5 h0 ha9 hL hq9 => ?_)
    obtain ⟨hv9, ⟨lw2, hg2, fS2, fE2, ⟨hob, hal, hab, hsl, hel⟩, hrows⟩, hz1, hk1⟩ := hq9
    cases hv9
    rw [h0] at hz1 hk1
    generalize t9.heap = H4 at hob hal hab hsl hel hz1 hk1 ⊢
    have hk : ∀ q, q ≠ mo → q ≠ sa → q ≠ ea → H4[q]? = s.heap[q]? := fun q h1 h2 h3 => (hk1 q h1 h2 h3).trans (hk q h1 h2 h3)
    have hz := hz1.trans hz
    have hlen : (tbl (fun k => fo (64 * a + k))).length ≤ 64 := tbl_len (fun k => fo (64 * a + k))
    refine lv_goto (tgt := 26) hx hb dM_rules_18 (by decide) ?_
    rw [hQ]
    exact W.iret (v := nI (tbl (fun k => fo (64 * a + k))).length) hx hb hrt (fun t ht hW => ⟨_, (nI 0), rfl, (Or.inr ⟨a, ha, rfl, rfl, rfl⟩), ⟨lw2, hg2, fS2, fE2, by rw [ht]; exact ⟨hob, hal, hab, hsl, hel⟩⟩, by rw [ht]; exact hz, by rw [ht]; exact hk⟩) hL dM_rules_26

set_option maxRecDepth 100000 in
set_option maxHeartbeats 4000000 in
theorem m_rule (l : Launch) (G : va_G) (cA : Nat → ClassId) (mo ao af sa ea n : Nat) (fo : Nat → Int64) (fb : Nat → Int32) (v v2 v3 : Int32) : Met l yM_rule wsM_rule ({ frames := 5, cells := 0, slots := 0, locals := 122 }) (PH G cA [.ref mo, .int v, .int v2, .int v3] (fun H => (mA mo ao af sa ea ∧ n ≤ 50 ∧ ∃ th, mV G cA mo ao af sa ea n fo fb th H))) (mI G cA mo ao af sa ea n fo fb (fun r th => (inb n v = false ∧ th = nI 1) ∨ (∃ a, a < n ∧ v = nI a ∧ ((inb (tbl (fun k => fo (64 * a + k))).length v2 = false ∧ th = nI 1) ∨ (∃ j, j < (tbl (fun k => fo (64 * a + k))).length ∧ v2 = nI j ∧ ((inb 4 v3 = false ∧ th = nI 2) ∨ (∃ u, u < 4 ∧ v3 = nI u ∧ th = nI 0 ∧ ruR (fun k => fo (64 * a + k)) ((tbl (fun k => fo (64 * a + k))).getD j (0, 0)) u r))))))) 0 0 (mW mo sa ea) := by
  refine Met.ofW (cc := cM_rule) (maxL := 5) (ret := (some .int)) (by decide) rfl ?_
  intro p e s m args below meth c s₁ B hml hv
  obtain ⟨hav, hKN, hA, hn, th0, lw, hg, fS, fE, hob, hal, hab, hsl, hel⟩ := hv
  have hK := hKN.1
  have hx := B.exec
  have hb := B.bytes
  have hrt := B.returns
  have htA : ∀ w ∈ ALL, w.before args s = true := fun w h => atoms_spec (ws := wsM_rule) B.pre w (List.mem_cons_of_mem _ h)
  have hown : s.vm.findClass RM = some m.cls := findClass_of_methodNamed B.named
  have hlocks := B.notSynchronized
  refine pw_nm (fun R Q hR hQ => ?_)
  refine pw_entry (vs := [.ref mo, .int v, .int v2, .int v3]) hav (Nat.le_of_ble_eq_true rfl) (fun ls hl => ?_)
  have hl : lv_has ls 5 [(0, .ref mo), (1, .int v), (2, .int v2), (3, .int v3)] := hl
  have hz : s.heap.size = s.heap.size := rfl
  have hk : ∀ q, q ≠ mo → q ≠ sa → q ≠ ea → s.heap[q]? = s.heap[q]? := fun _ _ _ _ => rfl
  have hL : ∀ z ∈ ([] : List Loc), mW mo sa ea z.base := fun _ h => by cases h
  refine lv_aload_n hx hb dM_rule_0 rfl (lv_at hl 0 rfl) ?_
  refine lv_iconst (v := nI 0) hx hb dM_rule_1 (by decide) ?_
  refine pw_put (ci := 4) (C := RM) (T := TM) (N := 8) (ty := .int) (F := mW mo sa ea) hx hb htA inM tyM tyM_ok nmM hown hK hob rfl 0 (by decide) (htA _ wd435) (fun _ h9 => h9) rfl (by decide +kernel) rfl rfl (Nat.le_of_ble_eq_true rfl) hL (Or.inl rfl) dM_rule_2 (fun H1 lc2 hob1 hz1 hk1 hL => ?_)
  have hob : ob G 4 mo (mF (nI 0) ao af n lw hg sa ea) H1 := hob1
  have hal := al_k hal (hk1 ao hA.1)
  have hab := ai_k hab (hk1 af hA.2.1)
  have hsl := ai_k hsl (hk1 sa hA.2.2.1)
  have hel := ai_k hel (hk1 ea hA.2.2.2.1)
  have hk : ∀ q, q ≠ mo → q ≠ sa → q ≠ ea → H1[q]? = s.heap[q]? := fun q h1 h2 h3 => (hk1 q h1).trans (hk q h1 h2 h3)
  have hz := hz1.trans hz
  refine lv_aload_n hx hb dM_rule_5 rfl (lv_at hl 0 rfl) ?_
  refine lv_iload_n hx hb dM_rule_6 rfl (lv_at hl 1 rfl) ?_
  refine vp_callSi (va_Run.run (va_runV (As := [.int v]) (rest := []) ⟨hx, hb, hml, hown, htA⟩ (m_made l G cA mo n (mF (nI 0) ao af n lw hg sa ea) v rfl (by omega)) (cwV 1 htA (gd_V wd476 wd478 wd15 wd28 wd479) rfl rfl rfl (by decide +kernel) (by rw [hR]; exact ⟨Nat.le_of_ble_eq_true rfl, Nat.le_of_ble_eq_true rfl⟩)) (pw_V (ci := 4) (q := (RM, TM, 8)) hKN hob rfl hob) rfl rfl hl.1 rfl (lv_room (Nat.le_of_ble_eq_true rfl)) dM_rule_7 (by rw [hR]; exact ⟨Nat.le_of_ble_eq_true rfl, Nat.le_of_ble_eq_true rfl⟩))) (fun r3 hr3 => ?_)
  subst hr3
  refine lv_if_eq (tgt := 26) hx hb dM_rule_10 (by decide) (fun c1 => ?_) (fun c1 => ?_)
  · have hq := bI_eq.mp c1
    refine lv_aload_n hx hb dM_rule_26 rfl (lv_at hl 0 rfl) ?_
    refine lv_iconst (v := nI 1) hx hb dM_rule_27 (by decide) ?_
    refine pw_call (F := mW mo sa ea) (va_runV (As := [.int (nI 1)]) (rest := []) ⟨hx, hb, hml, hown, htA⟩ (m_raise l G cA mo (mF (nI 0) ao af n lw hg sa ea) (nI 1)) (cwV 1 htA (gd_V wd480 wd482 wd16 wd28 wd483) rfl rfl rfl (by decide +kernel) (by rw [hR]; exact ⟨Nat.le_of_ble_eq_true rfl, Nat.le_of_ble_eq_true rfl⟩)) (pw_V (ci := 4) (q := (RM, TM, 8)) hKN hob rfl ⟨hob, Nat.zero_lt_succ _⟩) rfl rfl hl.1 rfl (lv_room (Nat.le_of_ble_eq_true rfl)) dM_rule_28 (by rw [hR]; exact ⟨Nat.le_of_ble_eq_true rfl, Nat.le_of_ble_eq_true rfl⟩)) hL (fun q h => Or.inl h) (fun v9 st9 t9 lc5 h0 ha9 hL hq9 => ?_)
    obtain ⟨hv9, hob1, hz1, hk1⟩ := hq9
    cases hv9
    rw [h0] at hz1 hk1
    generalize t9.heap = H4 at hob1 hz1 hk1 ⊢
    have hob : ob G 4 mo (mF (nI 1) ao af n lw hg sa ea) H4 := hob1
    have hal := al_k hal (hk1 ao hA.1)
    have hab := ai_k hab (hk1 af hA.2.1)
    have hsl := ai_k hsl (hk1 sa hA.2.2.1)
    have hel := ai_k hel (hk1 ea hA.2.2.2.1)
    have hk : ∀ q, q ≠ mo → q ≠ sa → q ≠ ea → H4[q]? = s.heap[q]? := fun q h1 h2 h3 => (hk1 q h1).trans (hk q h1 h2 h3)
    have hz := hz1.trans hz
    rw [hQ]
    exact W.iret (v := 0) hx hb hrt (fun t ht hW => ⟨_, (nI 1), rfl, (Or.inl ⟨hq, rfl⟩), ⟨lw, hg, fS, fE, by rw [ht]; exact ⟨hob, hal, hab, hsl, hel⟩⟩, by rw [ht]; exact hz, by rw [ht]; exact hk⟩) hL dM_rule_31
  · obtain ⟨a, ha, rfl⟩ := inb_t (by omega) (bI_ne.mp c1)
    refine lv_iload_n hx hb dM_rule_13 rfl (lv_at hl 2 rfl) ?_
    refine lv_if_lt (tgt := 26) hx hb dM_rule_14 (by decide) (fun c2 => ?_) (fun c2 => ?_)
    · refine lv_aload_n hx hb dM_rule_26 rfl (lv_at hl 0 rfl) ?_
      refine lv_iconst (v := nI 1) hx hb dM_rule_27 (by decide) ?_
      refine pw_call (F := mW mo sa ea) (va_runV (As := [.int (nI 1)]) (rest := []) ⟨hx, hb, hml, hown, htA⟩ (m_raise l G cA mo (mF (nI 0) ao af n lw hg sa ea) (nI 1)) (cwV 1 htA (gd_V wd480 wd482 wd16 wd28 wd483) rfl rfl rfl (by decide +kernel) (by rw [hR]; exact ⟨Nat.le_of_ble_eq_true rfl, Nat.le_of_ble_eq_true rfl⟩)) (pw_V (ci := 4) (q := (RM, TM, 8)) hKN hob rfl ⟨hob, Nat.zero_lt_succ _⟩) rfl rfl hl.1 rfl (lv_room (Nat.le_of_ble_eq_true rfl)) dM_rule_28 (by rw [hR]; exact ⟨Nat.le_of_ble_eq_true rfl, Nat.le_of_ble_eq_true rfl⟩)) hL (fun q h => Or.inl h) (fun v9 st9 t9 lc5 h0 ha9 hL hq9 => ?_)
      obtain ⟨hv9, hob1, hz1, hk1⟩ := hq9
      cases hv9
      rw [h0] at hz1 hk1
      generalize t9.heap = H4 at hob1 hz1 hk1 ⊢
      have hob : ob G 4 mo (mF (nI 1) ao af n lw hg sa ea) H4 := hob1
      have hal := al_k hal (hk1 ao hA.1)
      have hab := ai_k hab (hk1 af hA.2.1)
      have hsl := ai_k hsl (hk1 sa hA.2.2.1)
      have hel := ai_k hel (hk1 ea hA.2.2.2.1)
      have hk : ∀ q, q ≠ mo → q ≠ sa → q ≠ ea → H4[q]? = s.heap[q]? := fun q h1 h2 h3 => (hk1 q h1).trans (hk q h1 h2 h3)
      have hz := hz1.trans hz
      rw [hQ]
      exact W.iret (v := 0) hx hb hrt (fun t ht hW => ⟨_, (nI 1), rfl, (Or.inr ⟨a, ha, rfl, Or.inl ⟨inb_neg c2, rfl⟩⟩), ⟨lw, hg, fS, fE, by rw [ht]; exact ⟨hob, hal, hab, hsl, hel⟩⟩, by rw [ht]; exact hz, by rw [ht]; exact hk⟩) hL dM_rule_31
    · refine lv_iload_n hx hb dM_rule_17 rfl (lv_at hl 2 rfl) ?_
      refine lv_aload_n hx hb dM_rule_18 rfl (lv_at hl 0 rfl) ?_
      refine lv_iload_n hx hb dM_rule_19 rfl (lv_at hl 1 rfl) ?_
      refine pw_call (F := mW mo sa ea) (va_runV (As := [.int (nI a)]) (rest := [.int v2]) ⟨hx, hb, hml, hown, htA⟩ (m_table l G cA mo ao af sa ea n fo fb (nI 0) a (by omega)) (cwV 1 htA (gd_V wd543 wd545 wd22 wd28 wd546) rfl rfl rfl (by decide +kernel) (by rw [hR]; exact ⟨Nat.le_of_ble_eq_true rfl, Nat.le_of_ble_eq_true rfl⟩)) (pw_V (ci := 4) (q := (RM, TM, 8)) hKN hob rfl ⟨hA, lw, hg, fS, fE, hob, hal, hab, hsl, hel⟩) rfl rfl hl.1 rfl (lv_room (Nat.le_of_ble_eq_true rfl)) dM_rule_20 (by rw [hR]; exact ⟨Nat.le_of_ble_eq_true rfl, Nat.le_of_ble_eq_true rfl⟩)) hL (fun q h => h) (fun v9 st9 t9 lc5 h0 ha9 hL hq9 => ?_)
      obtain ⟨hv9, ⟨lw2, hg2, fS2, fE2, ⟨hob, hal, hab, hsl, hel⟩, hrows⟩, hz1, hk1⟩ := hq9
      cases hv9
      rw [h0] at hz1 hk1
      generalize t9.heap = H4 at hob hal hab hsl hel hz1 hk1 ⊢
      have hk : ∀ q, q ≠ mo → q ≠ sa → q ≠ ea → H4[q]? = s.heap[q]? := fun q h1 h2 h3 => (hk1 q h1 h2 h3).trans (hk q h1 h2 h3)
      have hz := hz1.trans hz
      have hlen : (tbl (fun k => fo (64 * a + k))).length ≤ 64 := tbl_len (fun k => fo (64 * a + k))
      refine lv_icmp_lt (tgt := 32) hx hb dM_rule_23 (by decide) (fun c3 => ?_) (fun c3 => ?_)
      · obtain ⟨j, hj, rfl⟩ := inb_t (by omega) (inb_ok (by omega) c2 (fun q9 => absurd c3 (Int32.not_lt.mpr q9)))
        obtain ⟨hr1, hr2⟩ := hrows j hj
        obtain ⟨hd3, hx64⟩ := tbl_ok (fun k => fo (64 * a + k)) j hj
        generalize hrow : (tbl (fun k => fo (64 * a + k))).getD j (0, 0) = row at hr1 hr2 hd3 hx64
        obtain ⟨x, d⟩ := row
        have hr1 : fS2 j = nI x := hr1
        have hr2 : fE2 j = nI (4 ^ d) := hr2
        have hd3 : d ≤ 3 := hd3
        have hx64 : x + 4 ^ d ≤ 64 := hx64
        have hp : 0 < 4 ^ d := Nat.pow_pos (by decide)
        have hpm := pmax d hd3
        refine lv_aload_n hx hb dM_rule_32 rfl (lv_at hl 0 rfl) ?_
        refine va_get (D := G) (ci := 4) (v := .ref sa) (C := RM) (T := TM) (N := 8) hx hb htA inM hown hK (ob_P hob) 0 rfl rfl 6 (by decide) (htA _ wd441) (fun _ h9 => h9) rfl dM_rule_33 ?_
        refine lv_iload_n hx hb dM_rule_36 rfl (lv_at hl 2 rfl) ?_
        refine pw_iald hx hb hK hsl 1 rfl (by omega) (by decide) dM_rule_37 ?_
        refine pw_ti (y := nI x) hr1 ?_
        refine lv_istore (lv' := [(4, .int (nI x)), (0, .ref mo), (1, .int (nI a)), (2, .int (nI j)), (3, .int v3)]) hx hb dM_rule_38 hl (by decide) rfl (fun ls hl => ?_)
        refine lv_iload_n hx hb dM_rule_40 rfl (lv_at hl 4 rfl) ?_
        rcases pk_ix v3 (n := 4) (by decide) with hu | hu | ⟨u, hu, rfl⟩
        · refine lv_tableOut (tgt := 153) hx hb dM_rule_41 (Or.inl (tb_lo hu)) (by decide) ?_
          refine lv_aload_n hx hb dM_rule_153 rfl (lv_at hl 1 rfl) ?_
          refine lv_iconst (v := nI 2) hx hb dM_rule_154 (by decide) ?_
          refine pw_call (F := mW mo sa ea) (va_runV (As := [.int (nI 2)]) (rest := []) ⟨hx, hb, hml, hown, htA⟩ (m_raise l G cA mo (mF (nI 0) ao af n lw2 hg2 sa ea) (nI 2)) (cwV 1 htA (gd_V wd480 wd482 wd16 wd28 wd483) rfl rfl rfl (by decide +kernel) (by rw [hR]; exact ⟨Nat.le_of_ble_eq_true rfl, Nat.le_of_ble_eq_true rfl⟩)) (pw_V (ci := 4) (q := (RM, TM, 8)) hKN hob rfl ⟨hob, Nat.zero_lt_succ _⟩) rfl rfl hl.1 rfl (lv_room (Nat.le_of_ble_eq_true rfl)) dM_rule_155 (by rw [hR]; exact ⟨Nat.le_of_ble_eq_true rfl, Nat.le_of_ble_eq_true rfl⟩)) hL (fun q h => Or.inl h) (fun v9 st9 t9 lc7 h0 ha9 hL hq9 => ?_)
          obtain ⟨hv9, hob1, hz1, hk1⟩ := hq9
          cases hv9
          rw [h0] at hz1 hk1
          generalize t9.heap = H6 at hob1 hz1 hk1 ⊢
          have hob : ob G 4 mo (mF (nI 2) ao af n lw2 hg2 sa ea) H6 := hob1
          have hal := al_k hal (hk1 ao hA.1)
          have hab := ai_k hab (hk1 af hA.2.1)
          have hsl := ai_k hsl (hk1 sa hA.2.2.1)
          have hel := ai_k hel (hk1 ea hA.2.2.2.1)
          have hk : ∀ q, q ≠ mo → q ≠ sa → q ≠ ea → H6[q]? = s.heap[q]? := fun q h1 h2 h3 => (hk1 q h1).trans (hk q h1 h2 h3)
          have hz := hz1.trans hz
          rw [hQ]
          exact W.iret (v := 0) hx hb hrt (fun t ht hW => ⟨_, (nI 2), rfl, (Or.inr ⟨a, ha, rfl, Or.inr ⟨j, hj, rfl, Or.inl ⟨inb_neg hu, rfl⟩⟩⟩), ⟨lw2, hg2, fS2, fE2, by rw [ht]; exact ⟨hob, hal, hab, hsl, hel⟩⟩, by rw [ht]; exact hz, by rw [ht]; exact hk⟩) hL dM_rule_158
        · refine lv_tableOut (tgt := 153) hx hb dM_rule_41 (Or.inr (by have := tb_hi (j := 4) (by decide) hu; omega)) (by decide) ?_
          refine lv_aload_n hx hb dM_rule_153 rfl (lv_at hl 1 rfl) ?_
          refine lv_iconst (v := nI 2) hx hb dM_rule_154 (by decide) ?_
          refine pw_call (F := mW mo sa ea) (va_runV (As := [.int (nI 2)]) (rest := []) ⟨hx, hb, hml, hown, htA⟩ (m_raise l G cA mo (mF (nI 0) ao af n lw2 hg2 sa ea) (nI 2)) (cwV 1 htA (gd_V wd480 wd482 wd16 wd28 wd483) rfl rfl rfl (by decide +kernel) (by rw [hR]; exact ⟨Nat.le_of_ble_eq_true rfl, Nat.le_of_ble_eq_true rfl⟩)) (pw_V (ci := 4) (q := (RM, TM, 8)) hKN hob rfl ⟨hob, Nat.zero_lt_succ _⟩) rfl rfl hl.1 rfl (lv_room (Nat.le_of_ble_eq_true rfl)) dM_rule_155 (by rw [hR]; exact ⟨Nat.le_of_ble_eq_true rfl, Nat.le_of_ble_eq_true rfl⟩)) hL (fun q h => Or.inl h) (fun v9 st9 t9 lc7 h0 ha9 hL hq9 => ?_)
          obtain ⟨hv9, hob1, hz1, hk1⟩ := hq9
          cases hv9
          rw [h0] at hz1 hk1
          generalize t9.heap = H6 at hob1 hz1 hk1 ⊢
          have hob : ob G 4 mo (mF (nI 2) ao af n lw2 hg2 sa ea) H6 := hob1
          have hal := al_k hal (hk1 ao hA.1)
          have hab := ai_k hab (hk1 af hA.2.1)
          have hsl := ai_k hsl (hk1 sa hA.2.2.1)
          have hel := ai_k hel (hk1 ea hA.2.2.2.1)
          have hk : ∀ q, q ≠ mo → q ≠ sa → q ≠ ea → H6[q]? = s.heap[q]? := fun q h1 h2 h3 => (hk1 q h1).trans (hk q h1 h2 h3)
          have hz := hz1.trans hz
          rw [hQ]
          exact W.iret (v := 0) hx hb hrt (fun t ht hW => ⟨_, (nI 2), rfl, (Or.inr ⟨a, ha, rfl, Or.inr ⟨j, hj, rfl, Or.inl ⟨inb_big (by decide) hu, rfl⟩⟩⟩), ⟨lw2, hg2, fS2, fE2, by rw [ht]; exact ⟨hob, hal, hab, hsl, hel⟩⟩, by rw [ht]; exact hz, by rw [ht]; exact hk⟩) hL dM_rule_158
        · have hj9 : u = 0 ∨ u = 1 ∨ u = 2 ∨ u = 3 := by omega
          rcases hj9 with rfl | rfl | rfl | rfl
          · refine lv_tableIn (tgt := 72) (off := 31) hx hb dM_rule_41 (by decide +kernel) (by decide +kernel) rfl (by decide) ?_
            refine lv_aload_n hx hb dM_rule_72 rfl (lv_at hl 1 rfl) ?_
            refine va_get (D := G) (ci := 4) (v := .ref ea) (C := RM) (T := TM) (N := 8) hx hb htA inM hown hK (ob_P hob) 0 rfl rfl 7 (by decide) (htA _ wd442) (fun _ h9 => h9) rfl dM_rule_73 ?_
            refine lv_iload_n hx hb dM_rule_76 rfl (lv_at hl 3 rfl) ?_
            refine pw_iald hx hb hK hel 1 rfl (by omega) (by decide) dM_rule_77 ?_
            refine pw_ti (y := nI (4 ^ d)) hr2 ?_
            refine lv_bipush (v := nI 64) hx hb dM_rule_78 (by decide) ?_
            refine lv_icmp_ge (tgt := 92) hx hb dM_rule_80 (by decide) (fun c5 => ?_) (fun c5 => ?_)
            · have hge := (p64 d hd3).mp ((nI_leI (by decide) (by omega)).mp c5)
              refine lv_iconst (v := (-1)) hx hb dM_rule_92 (by decide) ?_
              rw [hQ]
              exact W.iret (v := (-1)) hx hb hrt (fun t ht hW => ⟨_, (nI 0), rfl, (Or.inr ⟨a, ha, rfl, Or.inr ⟨j, hj, rfl, Or.inr ⟨0, by decide, rfl, rfl, by rw [hrow]; exact Or.inl ⟨by decide, Or.inr ⟨hge, rfl⟩⟩⟩⟩⟩), ⟨lw2, hg2, fS2, fE2, by rw [ht]; exact ⟨hob, hal, hab, hsl, hel⟩⟩, by rw [ht]; exact hz, by rw [ht]; exact hk⟩) hL dM_rule_93
            · have hlt : ¬ 3 ≤ d := fun q9 => c5 ((nI_leI (by decide) (by omega)).mpr ((p64 d hd3).mpr q9))
              refine lv_iload hx hb dM_rule_83 (lv_at hl 0 rfl) ?_
              refine lv_iconst (v := nI 0) hx hb dM_rule_85 (by decide) ?_
              refine vp_callSi (va_Run.run (va_runS (As := [.int (nI x), .int (nI 0)]) (rest := []) ⟨hx, hb, hml, hown, htA⟩ (m_value l G cA x (by omega) 0 (by decide)) (va_cwS 2 htA (gd_S wd488 wd489 wd28 wd490) rfl rfl rfl (by decide +kernel) (by rw [hR]; exact ⟨Nat.le_of_ble_eq_true rfl, Nat.le_of_ble_eq_true rfl⟩)) (pw_S hKN trivial) rfl rfl hl.1 rfl (lv_room (Nat.le_of_ble_eq_true rfl)) dM_rule_86 (by rw [hR]; exact ⟨Nat.le_of_ble_eq_true rfl, Nat.le_of_ble_eq_true rfl⟩))) (fun r6 hr6 => ?_)
              subst hr6
              refine lv_goto (tgt := 93) hx hb dM_rule_89 (by decide) ?_
              rw [hQ]
              exact W.iret (v := nI (vl x 0)) hx hb hrt (fun t ht hW => ⟨_, (nI 0), rfl, (Or.inr ⟨a, ha, rfl, Or.inr ⟨j, hj, rfl, Or.inr ⟨0, by decide, rfl, rfl, by rw [hrow]; exact Or.inl ⟨by decide, Or.inl ⟨show d < 3 by omega, rfl⟩⟩⟩⟩⟩), ⟨lw2, hg2, fS2, fE2, by rw [ht]; exact ⟨hob, hal, hab, hsl, hel⟩⟩, by rw [ht]; exact hz, by rw [ht]; exact hk⟩) hL dM_rule_93
          · refine lv_tableIn (tgt := 94) (off := 53) hx hb dM_rule_41 (by decide +kernel) (by decide +kernel) rfl (by decide) ?_
            refine lv_aload_n hx hb dM_rule_94 rfl (lv_at hl 1 rfl) ?_
            refine va_get (D := G) (ci := 4) (v := .ref ea) (C := RM) (T := TM) (N := 8) hx hb htA inM hown hK (ob_P hob) 0 rfl rfl 7 (by decide) (htA _ wd442) (fun _ h9 => h9) rfl dM_rule_95 ?_
            refine lv_iload_n hx hb dM_rule_98 rfl (lv_at hl 3 rfl) ?_
            refine pw_iald hx hb hK hel 1 rfl (by omega) (by decide) dM_rule_99 ?_
            refine pw_ti (y := nI (4 ^ d)) hr2 ?_
            refine lv_bipush (v := nI 16) hx hb dM_rule_100 (by decide) ?_
            refine lv_icmp_ge (tgt := 114) hx hb dM_rule_102 (by decide) (fun c5 => ?_) (fun c5 => ?_)
            · have hge := (p16 d hd3).mp ((nI_leI (by decide) (by omega)).mp c5)
              refine lv_iconst (v := (-1)) hx hb dM_rule_114 (by decide) ?_
              rw [hQ]
              exact W.iret (v := (-1)) hx hb hrt (fun t ht hW => ⟨_, (nI 0), rfl, (Or.inr ⟨a, ha, rfl, Or.inr ⟨j, hj, rfl, Or.inr ⟨1, by decide, rfl, rfl, by rw [hrow]; exact Or.inl ⟨by decide, Or.inr ⟨hge, rfl⟩⟩⟩⟩⟩), ⟨lw2, hg2, fS2, fE2, by rw [ht]; exact ⟨hob, hal, hab, hsl, hel⟩⟩, by rw [ht]; exact hz, by rw [ht]; exact hk⟩) hL dM_rule_115
            · have hlt : ¬ 2 ≤ d := fun q9 => c5 ((nI_leI (by decide) (by omega)).mpr ((p16 d hd3).mpr q9))
              refine lv_iload hx hb dM_rule_105 (lv_at hl 0 rfl) ?_
              refine lv_iconst (v := nI 1) hx hb dM_rule_107 (by decide) ?_
              refine vp_callSi (va_Run.run (va_runS (As := [.int (nI x), .int (nI 1)]) (rest := []) ⟨hx, hb, hml, hown, htA⟩ (m_value l G cA x (by omega) 1 (by decide)) (va_cwS 2 htA (gd_S wd488 wd489 wd28 wd490) rfl rfl rfl (by decide +kernel) (by rw [hR]; exact ⟨Nat.le_of_ble_eq_true rfl, Nat.le_of_ble_eq_true rfl⟩)) (pw_S hKN trivial) rfl rfl hl.1 rfl (lv_room (Nat.le_of_ble_eq_true rfl)) dM_rule_108 (by rw [hR]; exact ⟨Nat.le_of_ble_eq_true rfl, Nat.le_of_ble_eq_true rfl⟩))) (fun r6 hr6 => ?_)
              subst hr6
              refine lv_goto (tgt := 115) hx hb dM_rule_111 (by decide) ?_
              rw [hQ]
              exact W.iret (v := nI (vl x 1)) hx hb hrt (fun t ht hW => ⟨_, (nI 0), rfl, (Or.inr ⟨a, ha, rfl, Or.inr ⟨j, hj, rfl, Or.inr ⟨1, by decide, rfl, rfl, by rw [hrow]; exact Or.inl ⟨by decide, Or.inl ⟨show d < 2 by omega, rfl⟩⟩⟩⟩⟩), ⟨lw2, hg2, fS2, fE2, by rw [ht]; exact ⟨hob, hal, hab, hsl, hel⟩⟩, by rw [ht]; exact hz, by rw [ht]; exact hk⟩) hL dM_rule_115
          · refine lv_tableIn (tgt := 116) (off := 75) hx hb dM_rule_41 (by decide +kernel) (by decide +kernel) rfl (by decide) ?_
            refine lv_aload_n hx hb dM_rule_116 rfl (lv_at hl 1 rfl) ?_
            refine va_get (D := G) (ci := 4) (v := .ref ea) (C := RM) (T := TM) (N := 8) hx hb htA inM hown hK (ob_P hob) 0 rfl rfl 7 (by decide) (htA _ wd442) (fun _ h9 => h9) rfl dM_rule_117 ?_
            refine lv_iload_n hx hb dM_rule_120 rfl (lv_at hl 3 rfl) ?_
            refine pw_iald hx hb hK hel 1 rfl (by omega) (by decide) dM_rule_121 ?_
            refine pw_ti (y := nI (4 ^ d)) hr2 ?_
            refine lv_iconst (v := nI 4) hx hb dM_rule_122 (by decide) ?_
            refine lv_icmp_ge (tgt := 135) hx hb dM_rule_123 (by decide) (fun c5 => ?_) (fun c5 => ?_)
            · have hge := (p4 d hd3).mp ((nI_leI (by decide) (by omega)).mp c5)
              refine lv_iconst (v := (-1)) hx hb dM_rule_135 (by decide) ?_
              rw [hQ]
              exact W.iret (v := (-1)) hx hb hrt (fun t ht hW => ⟨_, (nI 0), rfl, (Or.inr ⟨a, ha, rfl, Or.inr ⟨j, hj, rfl, Or.inr ⟨2, by decide, rfl, rfl, by rw [hrow]; exact Or.inl ⟨by decide, Or.inr ⟨hge, rfl⟩⟩⟩⟩⟩), ⟨lw2, hg2, fS2, fE2, by rw [ht]; exact ⟨hob, hal, hab, hsl, hel⟩⟩, by rw [ht]; exact hz, by rw [ht]; exact hk⟩) hL dM_rule_136
            · have hlt : ¬ 1 ≤ d := fun q9 => c5 ((nI_leI (by decide) (by omega)).mpr ((p4 d hd3).mpr q9))
              refine lv_iload hx hb dM_rule_126 (lv_at hl 0 rfl) ?_
              refine lv_iconst (v := nI 2) hx hb dM_rule_128 (by decide) ?_
              refine vp_callSi (va_Run.run (va_runS (As := [.int (nI x), .int (nI 2)]) (rest := []) ⟨hx, hb, hml, hown, htA⟩ (m_value l G cA x (by omega) 2 (by decide)) (va_cwS 2 htA (gd_S wd488 wd489 wd28 wd490) rfl rfl rfl (by decide +kernel) (by rw [hR]; exact ⟨Nat.le_of_ble_eq_true rfl, Nat.le_of_ble_eq_true rfl⟩)) (pw_S hKN trivial) rfl rfl hl.1 rfl (lv_room (Nat.le_of_ble_eq_true rfl)) dM_rule_129 (by rw [hR]; exact ⟨Nat.le_of_ble_eq_true rfl, Nat.le_of_ble_eq_true rfl⟩))) (fun r6 hr6 => ?_)
              subst hr6
              refine lv_goto (tgt := 136) hx hb dM_rule_132 (by decide) ?_
              rw [hQ]
              exact W.iret (v := nI (vl x 2)) hx hb hrt (fun t ht hW => ⟨_, (nI 0), rfl, (Or.inr ⟨a, ha, rfl, Or.inr ⟨j, hj, rfl, Or.inr ⟨2, by decide, rfl, rfl, by rw [hrow]; exact Or.inl ⟨by decide, Or.inl ⟨show d < 1 by omega, rfl⟩⟩⟩⟩⟩), ⟨lw2, hg2, fS2, fE2, by rw [ht]; exact ⟨hob, hal, hab, hsl, hel⟩⟩, by rw [ht]; exact hz, by rw [ht]; exact hk⟩) hL dM_rule_136
          · refine lv_tableIn (tgt := 137) (off := 96) hx hb dM_rule_41 (by decide +kernel) (by decide +kernel) rfl (by decide) ?_
            refine lv_aload_n hx hb dM_rule_137 rfl (lv_at hl 1 rfl) ?_
            refine va_get (D := G) (ci := 4) (v := .ref ao) (C := RM) (T := TM) (N := 8) hx hb htA inM hown hK (ob_P hob) 0 rfl rfl 1 (by decide) (htA _ wd436) (fun _ h9 => h9) rfl dM_rule_138 ?_
            refine lv_bipush (v := nI 64) hx hb dM_rule_141 (by decide) ?_
            refine lv_iload_n hx hb dM_rule_143 rfl (lv_at hl 2 rfl) ?_
            refine lv_imul hx hb dM_rule_144 ?_
            refine pw_ti (y := nI (64 * a)) (pk_mul _ _) ?_
            refine lv_iload hx hb dM_rule_145 (lv_at hl 0 rfl) ?_
            refine lv_iadd hx hb dM_rule_147 ?_
            refine pw_ti (y := nI ((64 * a) + x)) (nI_add _ _) ?_
            refine pw_lald hx hb hK hal 0 rfl (by omega) (by decide) dM_rule_148 ?_
            refine vp_callSi (va_Run.run (va_runS (As := [.long (fo ((64 * a) + x))]) (rest := []) ⟨hx, hb, hml, hown, htA⟩ (m_ones l G cA (fo (64 * a + x))) (va_cwS 1 htA (gd_S wd562 wd563 wd28 wd564) rfl rfl rfl (by decide +kernel) (by rw [hR]; exact ⟨Nat.le_of_ble_eq_true rfl, Nat.le_of_ble_eq_true rfl⟩)) (pw_S hKN trivial) rfl rfl hl.1 rfl (lv_room (Nat.le_of_ble_eq_true rfl)) dM_rule_149 (by rw [hR]; exact ⟨Nat.le_of_ble_eq_true rfl, Nat.le_of_ble_eq_true rfl⟩))) (fun r6 hr6 => ?_)
            subst hr6
            rw [hQ]
            exact W.iret (v := nI (cd (fo (64 * a + x)) 64)) hx hb hrt (fun t ht hW => ⟨_, (nI 0), rfl, (Or.inr ⟨a, ha, rfl, Or.inr ⟨j, hj, rfl, Or.inr ⟨3, by decide, rfl, rfl, by rw [hrow]; exact Or.inr ⟨rfl, rfl⟩⟩⟩⟩), ⟨lw2, hg2, fS2, fE2, by rw [ht]; exact ⟨hob, hal, hab, hsl, hel⟩⟩, by rw [ht]; exact hz, by rw [ht]; exact hk⟩) hL dM_rule_152
      · have hge := Int32.not_lt.mp c3
        refine lv_aload_n hx hb dM_rule_26 rfl (lv_at hl 0 rfl) ?_
        refine lv_iconst (v := nI 1) hx hb dM_rule_27 (by decide) ?_
        refine pw_call (F := mW mo sa ea) (va_runV (As := [.int (nI 1)]) (rest := []) ⟨hx, hb, hml, hown, htA⟩ (m_raise l G cA mo (mF (nI 0) ao af n lw2 hg2 sa ea) (nI 1)) (cwV 1 htA (gd_V wd480 wd482 wd16 wd28 wd483) rfl rfl rfl (by decide +kernel) (by rw [hR]; exact ⟨Nat.le_of_ble_eq_true rfl, Nat.le_of_ble_eq_true rfl⟩)) (pw_V (ci := 4) (q := (RM, TM, 8)) hKN hob rfl ⟨hob, Nat.zero_lt_succ _⟩) rfl rfl hl.1 rfl (lv_room (Nat.le_of_ble_eq_true rfl)) dM_rule_28 (by rw [hR]; exact ⟨Nat.le_of_ble_eq_true rfl, Nat.le_of_ble_eq_true rfl⟩)) hL (fun q h => Or.inl h) (fun v9 st9 t9 lc7 h0 ha9 hL hq9 => ?_)
        obtain ⟨hv9, hob1, hz1, hk1⟩ := hq9
        cases hv9
        rw [h0] at hz1 hk1
        generalize t9.heap = H6 at hob1 hz1 hk1 ⊢
        have hob : ob G 4 mo (mF (nI 1) ao af n lw2 hg2 sa ea) H6 := hob1
        have hal := al_k hal (hk1 ao hA.1)
        have hab := ai_k hab (hk1 af hA.2.1)
        have hsl := ai_k hsl (hk1 sa hA.2.2.1)
        have hel := ai_k hel (hk1 ea hA.2.2.2.1)
        have hk : ∀ q, q ≠ mo → q ≠ sa → q ≠ ea → H6[q]? = s.heap[q]? := fun q h1 h2 h3 => (hk1 q h1).trans (hk q h1 h2 h3)
        have hz := hz1.trans hz
        rw [hQ]
        exact W.iret (v := 0) hx hb hrt (fun t ht hW => ⟨_, (nI 1), rfl, (Or.inr ⟨a, ha, rfl, Or.inl ⟨inb_big (by omega) hge, rfl⟩⟩), ⟨lw2, hg2, fS2, fE2, by rw [ht]; exact ⟨hob, hal, hab, hsl, hel⟩⟩, by rw [ht]; exact hz, by rw [ht]; exact hk⟩) hL dM_rule_31

set_option maxRecDepth 100000 in
set_option maxHeartbeats 4000000 in
theorem m_match (l : Launch) (G : va_G) (cA : Nat → ClassId) (mo ao af sa ea n : Nat) (fo : Nat → Int64) (fb : Nat → Int32) (v q : Int32) : Met l yM_match wsM_match ({ frames := 5, cells := 0, slots := 0, locals := 122 }) (PH G cA [.ref mo, .int v, .int q] (fun H => (mA mo ao af sa ea ∧ n ≤ 50 ∧ ∃ th, mV G cA mo ao af sa ea n fo fb th H))) (mI G cA mo ao af sa ea n fo fb (fun r th => (inb n v = false ∧ th = nI 1) ∨ (inb n v = true ∧ inb 64 q = false ∧ th = nI 2) ∨ (∃ a x, a < n ∧ x < 64 ∧ v = nI a ∧ q = nI x ∧ th = nI 0 ∧ ((∃ j, plR (tbl (fun k => fo (64 * a + k))) x j ∧ r = nI j) ∨ (∀ j, j < (tbl (fun k => fo (64 * a + k))).length → ¬ x < ((tbl (fun k => fo (64 * a + k))).getD j (0, 0)).1 + 4 ^ ((tbl (fun k => fo (64 * a + k))).getD j (0, 0)).2))))) 0 0 (mW mo sa ea) := by
  refine Met.ofW (cc := cM_match) (maxL := 5) (ret := (some .int)) (by decide) rfl ?_
  intro p e s m args below meth c s₁ B hml hv
  obtain ⟨hav, hKN, hA, hn, th0, lw, hg, fS, fE, hob, hal, hab, hsl, hel⟩ := hv
  have hK := hKN.1
  have hx := B.exec
  have hb := B.bytes
  have hrt := B.returns
  have htA : ∀ w ∈ ALL, w.before args s = true := fun w h => atoms_spec (ws := wsM_match) B.pre w (List.mem_cons_of_mem _ h)
  have hown : s.vm.findClass RM = some m.cls := findClass_of_methodNamed B.named
  have hlocks := B.notSynchronized
  refine pw_nm (fun R Q hR hQ => ?_)
  refine pw_entry (vs := [.ref mo, .int v, .int q]) hav (Nat.le_of_ble_eq_true rfl) (fun ls hl => ?_)
  have hl : lv_has ls 5 [(0, .ref mo), (1, .int v), (2, .int q)] := hl
  have hz : s.heap.size = s.heap.size := rfl
  have hk : ∀ q, q ≠ mo → q ≠ sa → q ≠ ea → s.heap[q]? = s.heap[q]? := fun _ _ _ _ => rfl
  have hL : ∀ z ∈ ([] : List Loc), mW mo sa ea z.base := fun _ h => by cases h
  refine lv_aload_n hx hb dM_match_0 rfl (lv_at hl 0 rfl) ?_
  refine lv_iconst (v := nI 0) hx hb dM_match_1 (by decide) ?_
  refine pw_put (ci := 4) (C := RM) (T := TM) (N := 8) (ty := .int) (F := mW mo sa ea) hx hb htA inM tyM tyM_ok nmM hown hK hob rfl 0 (by decide) (htA _ wd435) (fun _ h9 => h9) rfl (by decide +kernel) rfl rfl (Nat.le_of_ble_eq_true rfl) hL (Or.inl rfl) dM_match_2 (fun H1 lc2 hob1 hz1 hk1 hL => ?_)
  have hob : ob G 4 mo (mF (nI 0) ao af n lw hg sa ea) H1 := hob1
  have hal := al_k hal (hk1 ao hA.1)
  have hab := ai_k hab (hk1 af hA.2.1)
  have hsl := ai_k hsl (hk1 sa hA.2.2.1)
  have hel := ai_k hel (hk1 ea hA.2.2.2.1)
  have hk : ∀ q, q ≠ mo → q ≠ sa → q ≠ ea → H1[q]? = s.heap[q]? := fun q h1 h2 h3 => (hk1 q h1).trans (hk q h1 h2 h3)
  have hz := hz1.trans hz
  refine lv_aload_n hx hb dM_match_5 rfl (lv_at hl 0 rfl) ?_
  refine lv_iload_n hx hb dM_match_6 rfl (lv_at hl 1 rfl) ?_
  refine vp_callSi (va_Run.run (va_runV (As := [.int v]) (rest := []) ⟨hx, hb, hml, hown, htA⟩ (m_made l G cA mo n (mF (nI 0) ao af n lw hg sa ea) v rfl (by omega)) (cwV 1 htA (gd_V wd476 wd478 wd15 wd28 wd479) rfl rfl rfl (by decide +kernel) (by rw [hR]; exact ⟨Nat.le_of_ble_eq_true rfl, Nat.le_of_ble_eq_true rfl⟩)) (pw_V (ci := 4) (q := (RM, TM, 8)) hKN hob rfl hob) rfl rfl hl.1 rfl (lv_room (Nat.le_of_ble_eq_true rfl)) dM_match_7 (by rw [hR]; exact ⟨Nat.le_of_ble_eq_true rfl, Nat.le_of_ble_eq_true rfl⟩))) (fun r3 hr3 => ?_)
  subst hr3
  refine lv_if_ne (tgt := 19) hx hb dM_match_10 (by decide) (fun c1 => ?_) (fun c1 => ?_)
  · have hq := bI_ne.mp c1
    obtain ⟨a, ha, rfl⟩ := inb_t (by omega) hq
    refine lv_iload_n hx hb dM_match_19 rfl (lv_at hl 2 rfl) ?_
    refine lv_iconst (v := nI 0) hx hb dM_match_20 (by decide) ?_
    refine lv_bipush (v := nI 63) hx hb dM_match_21 (by decide) ?_
    refine vp_callSi (va_Run.run (va_runS (As := [.int q, .int (nI 0), .int (nI 63)]) (rest := []) ⟨hx, hb, hml, hown, htA⟩ (m_in l G cA q (nI 0) (nI 63)) (va_cwS 3 htA (gd_S wd473 wd474 wd28 wd475) rfl rfl rfl (by decide +kernel) (by rw [hR]; exact ⟨Nat.le_of_ble_eq_true rfl, Nat.le_of_ble_eq_true rfl⟩)) (pw_S hKN trivial) rfl rfl hl.1 rfl (lv_room (Nat.le_of_ble_eq_true rfl)) dM_match_23 (by rw [hR]; exact ⟨Nat.le_of_ble_eq_true rfl, Nat.le_of_ble_eq_true rfl⟩))) (fun r4 hr4 => ?_)
    subst hr4
    refine pw_ti (y := bI (inb 64 q)) (by rw [in_63 q 63 64 rfl (by decide)]) ?_
    refine lv_if_ne (tgt := 35) hx hb dM_match_26 (by decide) (fun c2 => ?_) (fun c2 => ?_)
    · obtain ⟨x, hx0, rfl⟩ := inb_t (by decide) (bI_ne.mp c2)
      refine lv_aload_n hx hb dM_match_35 rfl (lv_at hl 0 rfl) ?_
      refine lv_iload_n hx hb dM_match_36 rfl (lv_at hl 1 rfl) ?_
      refine pw_call (F := mW mo sa ea) (va_runV (As := [.int (nI a)]) (rest := []) ⟨hx, hb, hml, hown, htA⟩ (m_table l G cA mo ao af sa ea n fo fb (nI 0) a (by omega)) (cwV 1 htA (gd_V wd543 wd545 wd22 wd28 wd546) rfl rfl rfl (by decide +kernel) (by rw [hR]; exact ⟨Nat.le_of_ble_eq_true rfl, Nat.le_of_ble_eq_true rfl⟩)) (pw_V (ci := 4) (q := (RM, TM, 8)) hKN hob rfl ⟨hA, lw, hg, fS, fE, hob, hal, hab, hsl, hel⟩) rfl rfl hl.1 rfl (lv_room (Nat.le_of_ble_eq_true rfl)) dM_match_37 (by rw [hR]; exact ⟨Nat.le_of_ble_eq_true rfl, Nat.le_of_ble_eq_true rfl⟩)) hL (fun q h => h) (fun v9 st9 t9 lc6 h0 ha9 hL hq9 => ?_)
      obtain ⟨hv9, ⟨lw2, hg2, fS2, fE2, ⟨hob, hal, hab, hsl, hel⟩, hrows⟩, hz1, hk1⟩ := hq9
      cases hv9
      rw [h0] at hz1 hk1
      generalize t9.heap = H5 at hob hal hab hsl hel hz1 hk1 ⊢
      have hk : ∀ q, q ≠ mo → q ≠ sa → q ≠ ea → H5[q]? = s.heap[q]? := fun q h1 h2 h3 => (hk1 q h1 h2 h3).trans (hk q h1 h2 h3)
      have hz := hz1.trans hz
      have hlen : (tbl (fun k => fo (64 * a + k))).length ≤ 64 := tbl_len (fun k => fo (64 * a + k))
      refine lv_istore_n (lv' := [(3, .int (nI (tbl (fun k => fo (64 * a + k))).length)), (0, .ref mo), (1, .int (nI a)), (2, .int (nI x))]) hx hb dM_match_40 rfl hl (by decide) rfl (fun ls hl => ?_)
      refine lv_iconst (v := nI 0) hx hb dM_match_41 (by decide) ?_
      refine lv_istore (lv' := [(4, .int (nI 0)), (3, .int (nI (tbl (fun k => fo (64 * a + k))).length)), (0, .ref mo), (1, .int (nI a)), (2, .int (nI x))]) hx hb dM_match_42 hl (by decide) rfl (fun ls hl => ?_)
      have lp : ∀ (k i : Nat), i + k = (tbl (fun k => fo (64 * a + k))).length → (∀ j, j < i → ¬ x < ((tbl (fun k => fo (64 * a + k))).getD j (0, 0)).1 + 4 ^ ((tbl (fun k => fo (64 * a + k))).getD j (0, 0)).2) → ∀ ls : Array Slot, lv_has ls 5 [(0, .ref mo), (1, .int (nI a)), (2, .int (nI x)), (3, .int (nI (tbl (fun k => fo (64 * a + k))).length)), (4, .int (nI i))] → W p l e R s m args below meth c H5 lc6 0 0 Q (F0 m 44 ls []) := by
        intro k
        induction k with
        | zero =>
          intro i hik hinv ls hl
          have hi : i = (tbl (fun k => fo (64 * a + k))).length := by omega
          rw [hi] at hl
          refine lv_iload hx hb dM_match_44 (lv_at hl 4 rfl) ?_
          refine lv_iload_n hx hb dM_match_46 rfl (lv_at hl 3 rfl) ?_
          refine lv_icmp_ge (tgt := 78) hx hb dM_match_47 (by decide) (fun _ => ?_) (fun c9 => absurd (Int32.le_refl _) c9)
          refine lv_iconst (v := nI 0) hx hb dM_match_78 (by decide) ?_
          rw [hQ]
          exact W.iret (v := nI 0) hx hb hrt (fun t ht hW => ⟨_, (nI 0), rfl, (Or.inr (Or.inr ⟨a, x, ha, hx0, rfl, rfl, rfl, Or.inr (fun j9 hj9 => hinv j9 (by omega))⟩)), ⟨lw2, hg2, fS2, fE2, by rw [ht]; exact ⟨hob, hal, hab, hsl, hel⟩⟩, by rw [ht]; exact hz, by rw [ht]; exact hk⟩) hL dM_match_79
        | succ k ih =>
          intro i hik hinv ls hl
          have hi : i < (tbl (fun k => fo (64 * a + k))).length := by omega
          refine lv_iload hx hb dM_match_44 (lv_at hl 4 rfl) ?_
          refine lv_iload_n hx hb dM_match_46 rfl (lv_at hl 3 rfl) ?_
          refine lv_icmp_ge (tgt := 78) hx hb dM_match_47 (by decide) (fun c9 => absurd c9 (nI_ge hi (by omega))) (fun _ => ?_)
          obtain ⟨hr1, hr2⟩ := hrows i hi
          obtain ⟨hd3, hx64⟩ := tbl_ok (fun k => fo (64 * a + k)) i hi
          refine lv_iload_n hx hb dM_match_50 rfl (lv_at hl 2 rfl) ?_
          refine lv_aload_n hx hb dM_match_51 rfl (lv_at hl 0 rfl) ?_
          refine va_get (D := G) (ci := 4) (v := .ref sa) (C := RM) (T := TM) (N := 8) hx hb htA inM hown hK (ob_P hob) 0 rfl rfl 6 (by decide) (htA _ wd441) (fun _ h9 => h9) rfl dM_match_52 ?_
          refine lv_iload hx hb dM_match_55 (lv_at hl 4 rfl) ?_
          refine pw_iald hx hb hK hsl 1 rfl (by omega) (by decide) dM_match_57 ?_
          refine pw_ti (y := nI ((tbl (fun k => fo (64 * a + k))).getD i (0, 0)).1) hr1 ?_
          refine lv_aload_n hx hb dM_match_58 rfl (lv_at hl 0 rfl) ?_
          refine va_get (D := G) (ci := 4) (v := .ref ea) (C := RM) (T := TM) (N := 8) hx hb htA inM hown hK (ob_P hob) 0 rfl rfl 7 (by decide) (htA _ wd442) (fun _ h9 => h9) rfl dM_match_59 ?_
          refine lv_iload hx hb dM_match_62 (lv_at hl 4 rfl) ?_
          refine pw_iald hx hb hK hel 1 rfl (by omega) (by decide) dM_match_64 ?_
          refine pw_ti (y := nI (4 ^ ((tbl (fun k => fo (64 * a + k))).getD i (0, 0)).2)) hr2 ?_
          refine lv_iadd hx hb dM_match_65 ?_
          refine pw_ti (y := nI (((tbl (fun k => fo (64 * a + k))).getD i (0, 0)).1 + 4 ^ ((tbl (fun k => fo (64 * a + k))).getD i (0, 0)).2)) (nI_add _ _) ?_
          refine lv_icmp_ge (tgt := 72) hx hb dM_match_66 (by decide) (fun c3 => ?_) (fun c3 => ?_)
          · have hge := (nI_leI (by omega) (by omega)).mp c3
            refine lv_iinc (v := nI (i + 1)) (lv' := [(4, .int (nI (i + 1))), (0, .ref mo), (1, .int (nI a)), (2, .int (nI x)), (3, .int (nI (tbl (fun k => fo (64 * a + k))).length))]) hx hb dM_match_72 hl (k := 4) rfl (nI_1 i) (by decide) rfl (fun ls hl => ?_)
            refine lv_goto (tgt := 44) hx hb dM_match_75 (by decide) ?_
            exact ih (i + 1) (by omega) (lt_s hinv (by omega)) ls (lv_sub hl [1, 2, 3, 4, 0] rfl)
          · have hlt : x < ((tbl (fun k => fo (64 * a + k))).getD i (0, 0)).1 + 4 ^ ((tbl (fun k => fo (64 * a + k))).getD i (0, 0)).2 := by have : ¬ _ ≤ x := fun q9 => c3 ((nI_leI (by omega) (by omega)).mpr q9); omega
            refine lv_iload hx hb dM_match_69 (lv_at hl 4 rfl) ?_
            rw [hQ]
            exact W.iret (v := nI i) hx hb hrt (fun t ht hW => ⟨_, (nI 0), rfl, (Or.inr (Or.inr ⟨a, x, ha, hx0, rfl, rfl, rfl, Or.inl ⟨i, ⟨hi, hlt, hinv⟩, rfl⟩⟩)), ⟨lw2, hg2, fS2, fE2, by rw [ht]; exact ⟨hob, hal, hab, hsl, hel⟩⟩, by rw [ht]; exact hz, by rw [ht]; exact hk⟩) hL dM_match_71
      exact lp ((tbl (fun k => fo (64 * a + k))).length) 0 (by omega) lt_0 ls (lv_sub hl [2, 3, 4, 1, 0] rfl)
    · have hq2 := bI_eq.mp c2
      refine lv_aload_n hx hb dM_match_29 rfl (lv_at hl 0 rfl) ?_
      refine lv_iconst (v := nI 2) hx hb dM_match_30 (by decide) ?_
      refine pw_call (F := mW mo sa ea) (va_runV (As := [.int (nI 2)]) (rest := []) ⟨hx, hb, hml, hown, htA⟩ (m_raise l G cA mo (mF (nI 0) ao af n lw hg sa ea) (nI 2)) (cwV 1 htA (gd_V wd480 wd482 wd16 wd28 wd483) rfl rfl rfl (by decide +kernel) (by rw [hR]; exact ⟨Nat.le_of_ble_eq_true rfl, Nat.le_of_ble_eq_true rfl⟩)) (pw_V (ci := 4) (q := (RM, TM, 8)) hKN hob rfl ⟨hob, Nat.zero_lt_succ _⟩) rfl rfl hl.1 rfl (lv_room (Nat.le_of_ble_eq_true rfl)) dM_match_31 (by rw [hR]; exact ⟨Nat.le_of_ble_eq_true rfl, Nat.le_of_ble_eq_true rfl⟩)) hL (fun q h => Or.inl h) (fun v9 st9 t9 lc6 h0 ha9 hL hq9 => ?_)
      obtain ⟨hv9, hob1, hz1, hk1⟩ := hq9
      cases hv9
      rw [h0] at hz1 hk1
      generalize t9.heap = H5 at hob1 hz1 hk1 ⊢
      have hob : ob G 4 mo (mF (nI 2) ao af n lw hg sa ea) H5 := hob1
      have hal := al_k hal (hk1 ao hA.1)
      have hab := ai_k hab (hk1 af hA.2.1)
      have hsl := ai_k hsl (hk1 sa hA.2.2.1)
      have hel := ai_k hel (hk1 ea hA.2.2.2.1)
      have hk : ∀ q, q ≠ mo → q ≠ sa → q ≠ ea → H5[q]? = s.heap[q]? := fun q h1 h2 h3 => (hk1 q h1).trans (hk q h1 h2 h3)
      have hz := hz1.trans hz
      rw [hQ]
      exact W.iret (v := 0) hx hb hrt (fun t ht hW => ⟨_, (nI 2), rfl, (Or.inr (Or.inl ⟨hq, hq2, rfl⟩)), ⟨lw, hg, fS, fE, by rw [ht]; exact ⟨hob, hal, hab, hsl, hel⟩⟩, by rw [ht]; exact hz, by rw [ht]; exact hk⟩) hL dM_match_34
  · have hq := bI_eq.mp c1
    refine lv_aload_n hx hb dM_match_13 rfl (lv_at hl 0 rfl) ?_
    refine lv_iconst (v := nI 1) hx hb dM_match_14 (by decide) ?_
    refine pw_call (F := mW mo sa ea) (va_runV (As := [.int (nI 1)]) (rest := []) ⟨hx, hb, hml, hown, htA⟩ (m_raise l G cA mo (mF (nI 0) ao af n lw hg sa ea) (nI 1)) (cwV 1 htA (gd_V wd480 wd482 wd16 wd28 wd483) rfl rfl rfl (by decide +kernel) (by rw [hR]; exact ⟨Nat.le_of_ble_eq_true rfl, Nat.le_of_ble_eq_true rfl⟩)) (pw_V (ci := 4) (q := (RM, TM, 8)) hKN hob rfl ⟨hob, Nat.zero_lt_succ _⟩) rfl rfl hl.1 rfl (lv_room (Nat.le_of_ble_eq_true rfl)) dM_match_15 (by rw [hR]; exact ⟨Nat.le_of_ble_eq_true rfl, Nat.le_of_ble_eq_true rfl⟩)) hL (fun q h => Or.inl h) (fun v9 st9 t9 lc5 h0 ha9 hL hq9 => ?_)
    obtain ⟨hv9, hob1, hz1, hk1⟩ := hq9
    cases hv9
    rw [h0] at hz1 hk1
    generalize t9.heap = H4 at hob1 hz1 hk1 ⊢
    have hob : ob G 4 mo (mF (nI 1) ao af n lw hg sa ea) H4 := hob1
    have hal := al_k hal (hk1 ao hA.1)
    have hab := ai_k hab (hk1 af hA.2.1)
    have hsl := ai_k hsl (hk1 sa hA.2.2.1)
    have hel := ai_k hel (hk1 ea hA.2.2.2.1)
    have hk : ∀ q, q ≠ mo → q ≠ sa → q ≠ ea → H4[q]? = s.heap[q]? := fun q h1 h2 h3 => (hk1 q h1).trans (hk q h1 h2 h3)
    have hz := hz1.trans hz
    rw [hQ]
    exact W.iret (v := 0) hx hb hrt (fun t ht hW => ⟨_, (nI 1), rfl, (Or.inl ⟨hq, rfl⟩), ⟨lw, hg, fS, fE, by rw [ht]; exact ⟨hob, hal, hab, hsl, hel⟩⟩, by rw [ht]; exact hz, by rw [ht]; exact hk⟩) hL dM_match_18
