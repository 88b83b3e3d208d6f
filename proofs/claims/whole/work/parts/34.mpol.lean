set_option maxRecDepth 100000 in
set_option maxHeartbeats 4000000 in
theorem m_can (l : Launch) (G : va_G) (cA : Nat → ClassId) (mo n : Nat) (fs : List Value) (k a b c0 : Int32) (hf3 : fs[3]? = some (.int (nI n))) (hn : n < 1073741824) : Met l yM_can wsM_can ({ frames := 2, cells := 0, slots := 0, locals := 43 }) (PH G cA [.ref mo, .int k, .int a, .int b, .int c0] (fun H => ob G 4 mo fs H)) (vp_Si (fun r => r = bI (wf n k a b c0))) 0 0 (fun _ => False) := by
  refine Met.ofW (cc := cM_can) (maxL := 5) (ret := (some .boolean)) (by decide) rfl ?_
  intro p e s m args below meth c s₁ B hml hv
  obtain ⟨hav, hKN, hob⟩ := hv
  have hK := hKN.1
  have hx := B.exec
  have hb := B.bytes
  have hrt := B.returns
  have htA : ∀ w ∈ ALL, w.before args s = true := fun w h => atoms_spec (ws := wsM_can) B.pre w (List.mem_cons_of_mem _ h)
  have hown : s.vm.findClass RM = some m.cls := findClass_of_methodNamed B.named
  have hlocks := B.notSynchronized
  refine pw_nm (fun R Q hR hQ => ?_)
  refine pw_entry (vs := [.ref mo, .int k, .int a, .int b, .int c0]) hav (Nat.le_of_ble_eq_true rfl) (fun ls hl => ?_)
  have hl : lv_has ls 5 [(0, .ref mo), (1, .int k), (2, .int a), (3, .int b), (4, .int c0)] := hl
  refine lv_iload_n hx hb dM_can_0 rfl (lv_at hl 1 rfl) ?_
  rcases pk_ix k (n := 9) (by decide) with hk | hk | ⟨j, hj, rfl⟩
  · refine lv_tableOut (tgt := 137) hx hb dM_can_1 (Or.inl (tb_lo hk)) (by decide) ?_
    refine lv_iconst (v := nI 0) hx hb dM_can_137 (by decide) ?_
    rw [hQ]
    exact W.zret (v := nI 0) (ty := .boolean) hx hb hrt (by first | rfl | exact bI_nar _) (fun t ht hW => ⟨_, rfl, (by rw [wf_neg hk]; rfl), ht⟩) (fun q h => by cases h) dM_can_138
  · refine lv_tableOut (tgt := 137) hx hb dM_can_1 (Or.inr (by have := tb_hi (j := 9) (by decide) hk; omega)) (by decide) ?_
    refine lv_iconst (v := nI 0) hx hb dM_can_137 (by decide) ?_
    rw [hQ]
    exact W.zret (v := nI 0) (ty := .boolean) hx hb hrt (by first | rfl | exact bI_nar _) (fun t ht hW => ⟨_, rfl, (by rw [wf_big hk]; rfl), ht⟩) (fun q h => by cases h) dM_can_138
  · have hj9 : j = 0 ∨ j = 1 ∨ j = 2 ∨ j = 3 ∨ j = 4 ∨ j = 5 ∨ j = 6 ∨ j = 7 ∨ j = 8 := by omega
    rcases hj9 with rfl | rfl | rfl | rfl | rfl | rfl | rfl | rfl | rfl
    · refine lv_tableIn (tgt := 52) (off := 51) hx hb dM_can_1 (by decide +kernel) (by decide +kernel) rfl (by decide) ?_
      refine lv_iconst (v := nI 1) hx hb dM_can_52 (by decide) ?_
      rw [hQ]
      exact W.zret (v := nI 1) (ty := .boolean) hx hb hrt (by first | rfl | exact bI_nar _) (fun t ht hW => ⟨_, rfl, rfl, ht⟩) (fun q h => by cases h) dM_can_53
    · refine lv_tableIn (tgt := 52) (off := 51) hx hb dM_can_1 (by decide +kernel) (by decide +kernel) rfl (by decide) ?_
      refine lv_iconst (v := nI 1) hx hb dM_can_52 (by decide) ?_
      rw [hQ]
      exact W.zret (v := nI 1) (ty := .boolean) hx hb hrt (by first | rfl | exact bI_nar _) (fun t ht hW => ⟨_, rfl, rfl, ht⟩) (fun q h => by cases h) dM_can_53
    · refine lv_tableIn (tgt := 54) (off := 53) hx hb dM_can_1 (by decide +kernel) (by decide +kernel) rfl (by decide) ?_
      refine lv_iload_n hx hb dM_can_54 rfl (lv_at hl 2 rfl) ?_
      refine lv_iconst (v := nI 0) hx hb dM_can_55 (by decide) ?_
      refine lv_iconst (v := nI 2) hx hb dM_can_56 (by decide) ?_
      refine vp_callSi (va_Run.run (va_runS (As := [.int a, .int (nI 0), .int (nI 2)]) (rest := []) ⟨hx, hb, hml, hown, htA⟩ (m_in l G cA a (nI 0) (nI 2)) (va_cwS 3 htA (gd_S wd473 wd474 wd28 wd475) rfl rfl rfl (by decide +kernel) (by rw [hR]; exact ⟨Nat.le_of_ble_eq_true rfl, Nat.le_of_ble_eq_true rfl⟩)) (pw_S hKN trivial) rfl rfl hl.1 rfl (lv_room (Nat.le_of_ble_eq_true rfl)) dM_can_57 (by rw [hR]; exact ⟨Nat.le_of_ble_eq_true rfl, Nat.le_of_ble_eq_true rfl⟩))) (fun r1 hr1 => ?_)
      subst hr1
      refine pw_ti (y := bI (inb 3 a)) (by rw [in_63 a 2 3 rfl (by decide)]) ?_
      refine lv_if_eq (tgt := 76) hx hb dM_can_60 (by decide) (fun e0 => ?_) (fun e0 => ?_)
      · have hq0 := bI_eq.mp e0
        refine lv_iconst (v := nI 0) hx hb dM_can_76 (by decide) ?_
        rw [hQ]
        exact W.zret (v := nI 0) (ty := .boolean) hx hb hrt (by first | rfl | exact bI_nar _) (fun t ht hW => ⟨_, rfl, (by show _ = bI (inb 3 a && inb 4 b); rw [hq0]; rfl), ht⟩) (fun q h => by cases h) dM_can_77
      · have hq0 := bI_ne.mp e0
        refine lv_iload_n hx hb dM_can_63 rfl (lv_at hl 3 rfl) ?_
        refine lv_iconst (v := nI 0) hx hb dM_can_64 (by decide) ?_
        refine lv_iconst (v := nI 3) hx hb dM_can_65 (by decide) ?_
        refine vp_callSi (va_Run.run (va_runS (As := [.int b, .int (nI 0), .int (nI 3)]) (rest := []) ⟨hx, hb, hml, hown, htA⟩ (m_in l G cA b (nI 0) (nI 3)) (va_cwS 3 htA (gd_S wd473 wd474 wd28 wd475) rfl rfl rfl (by decide +kernel) (by rw [hR]; exact ⟨Nat.le_of_ble_eq_true rfl, Nat.le_of_ble_eq_true rfl⟩)) (pw_S hKN trivial) rfl rfl hl.1 rfl (lv_room (Nat.le_of_ble_eq_true rfl)) dM_can_66 (by rw [hR]; exact ⟨Nat.le_of_ble_eq_true rfl, Nat.le_of_ble_eq_true rfl⟩))) (fun r2 hr2 => ?_)
        subst hr2
        refine pw_ti (y := bI (inb 4 b)) (by rw [in_63 b 3 4 rfl (by decide)]) ?_
        refine lv_if_eq (tgt := 76) hx hb dM_can_69 (by decide) (fun e1 => ?_) (fun e1 => ?_)
        · have hq1 := bI_eq.mp e1
          refine lv_iconst (v := nI 0) hx hb dM_can_76 (by decide) ?_
          rw [hQ]
          exact W.zret (v := nI 0) (ty := .boolean) hx hb hrt (by first | rfl | exact bI_nar _) (fun t ht hW => ⟨_, rfl, (by show _ = bI (inb 3 a && inb 4 b); rw [hq0, hq1]; rfl), ht⟩) (fun q h => by cases h) dM_can_77
        · have hq1 := bI_ne.mp e1
          refine lv_iconst (v := nI 1) hx hb dM_can_72 (by decide) ?_
          refine lv_goto (tgt := 77) hx hb dM_can_73 (by decide) ?_
          rw [hQ]
          exact W.zret (v := nI 1) (ty := .boolean) hx hb hrt (by first | rfl | exact bI_nar _) (fun t ht hW => ⟨_, rfl, (by show _ = bI (inb 3 a && inb 4 b); rw [hq0, hq1]; rfl), ht⟩) (fun q h => by cases h) dM_can_77
    · refine lv_tableIn (tgt := 54) (off := 53) hx hb dM_can_1 (by decide +kernel) (by decide +kernel) rfl (by decide) ?_
      refine lv_iload_n hx hb dM_can_54 rfl (lv_at hl 2 rfl) ?_
      refine lv_iconst (v := nI 0) hx hb dM_can_55 (by decide) ?_
      refine lv_iconst (v := nI 2) hx hb dM_can_56 (by decide) ?_
      refine vp_callSi (va_Run.run (va_runS (As := [.int a, .int (nI 0), .int (nI 2)]) (rest := []) ⟨hx, hb, hml, hown, htA⟩ (m_in l G cA a (nI 0) (nI 2)) (va_cwS 3 htA (gd_S wd473 wd474 wd28 wd475) rfl rfl rfl (by decide +kernel) (by rw [hR]; exact ⟨Nat.le_of_ble_eq_true rfl, Nat.le_of_ble_eq_true rfl⟩)) (pw_S hKN trivial) rfl rfl hl.1 rfl (lv_room (Nat.le_of_ble_eq_true rfl)) dM_can_57 (by rw [hR]; exact ⟨Nat.le_of_ble_eq_true rfl, Nat.le_of_ble_eq_true rfl⟩))) (fun r1 hr1 => ?_)
      subst hr1
      refine pw_ti (y := bI (inb 3 a)) (by rw [in_63 a 2 3 rfl (by decide)]) ?_
      refine lv_if_eq (tgt := 76) hx hb dM_can_60 (by decide) (fun e0 => ?_) (fun e0 => ?_)
      · have hq0 := bI_eq.mp e0
        refine lv_iconst (v := nI 0) hx hb dM_can_76 (by decide) ?_
        rw [hQ]
        exact W.zret (v := nI 0) (ty := .boolean) hx hb hrt (by first | rfl | exact bI_nar _) (fun t ht hW => ⟨_, rfl, (by show _ = bI (inb 3 a && inb 4 b); rw [hq0]; rfl), ht⟩) (fun q h => by cases h) dM_can_77
      · have hq0 := bI_ne.mp e0
        refine lv_iload_n hx hb dM_can_63 rfl (lv_at hl 3 rfl) ?_
        refine lv_iconst (v := nI 0) hx hb dM_can_64 (by decide) ?_
        refine lv_iconst (v := nI 3) hx hb dM_can_65 (by decide) ?_
        refine vp_callSi (va_Run.run (va_runS (As := [.int b, .int (nI 0), .int (nI 3)]) (rest := []) ⟨hx, hb, hml, hown, htA⟩ (m_in l G cA b (nI 0) (nI 3)) (va_cwS 3 htA (gd_S wd473 wd474 wd28 wd475) rfl rfl rfl (by decide +kernel) (by rw [hR]; exact ⟨Nat.le_of_ble_eq_true rfl, Nat.le_of_ble_eq_true rfl⟩)) (pw_S hKN trivial) rfl rfl hl.1 rfl (lv_room (Nat.le_of_ble_eq_true rfl)) dM_can_66 (by rw [hR]; exact ⟨Nat.le_of_ble_eq_true rfl, Nat.le_of_ble_eq_true rfl⟩))) (fun r2 hr2 => ?_)
        subst hr2
        refine pw_ti (y := bI (inb 4 b)) (by rw [in_63 b 3 4 rfl (by decide)]) ?_
        refine lv_if_eq (tgt := 76) hx hb dM_can_69 (by decide) (fun e1 => ?_) (fun e1 => ?_)
        · have hq1 := bI_eq.mp e1
          refine lv_iconst (v := nI 0) hx hb dM_can_76 (by decide) ?_
          rw [hQ]
          exact W.zret (v := nI 0) (ty := .boolean) hx hb hrt (by first | rfl | exact bI_nar _) (fun t ht hW => ⟨_, rfl, (by show _ = bI (inb 3 a && inb 4 b); rw [hq0, hq1]; rfl), ht⟩) (fun q h => by cases h) dM_can_77
        · have hq1 := bI_ne.mp e1
          refine lv_iconst (v := nI 1) hx hb dM_can_72 (by decide) ?_
          refine lv_goto (tgt := 77) hx hb dM_can_73 (by decide) ?_
          rw [hQ]
          exact W.zret (v := nI 1) (ty := .boolean) hx hb hrt (by first | rfl | exact bI_nar _) (fun t ht hW => ⟨_, rfl, (by show _ = bI (inb 3 a && inb 4 b); rw [hq0, hq1]; rfl), ht⟩) (fun q h => by cases h) dM_can_77
    · refine lv_tableIn (tgt := 78) (off := 77) hx hb dM_can_1 (by decide +kernel) (by decide +kernel) rfl (by decide) ?_
      refine lv_aload_n hx hb dM_can_78 rfl (lv_at hl 0 rfl) ?_
      refine lv_iload_n hx hb dM_can_79 rfl (lv_at hl 2 rfl) ?_
      refine vp_callSi (va_Run.run (va_runV (As := [.int a]) (rest := []) ⟨hx, hb, hml, hown, htA⟩ (m_made l G cA mo n fs a hf3 hn) (cwV 1 htA (gd_V wd476 wd478 wd15 wd28 wd479) rfl rfl rfl (by decide +kernel) (by rw [hR]; exact ⟨Nat.le_of_ble_eq_true rfl, Nat.le_of_ble_eq_true rfl⟩)) (pw_V (ci := 4) (q := (RM, TM, 8)) hKN hob rfl hob) rfl rfl hl.1 rfl (lv_room (Nat.le_of_ble_eq_true rfl)) dM_can_80 (by rw [hR]; exact ⟨Nat.le_of_ble_eq_true rfl, Nat.le_of_ble_eq_true rfl⟩))) (fun r1 hr1 => ?_)
      subst hr1
      refine lv_if_eq (tgt := 98) hx hb dM_can_83 (by decide) (fun e0 => ?_) (fun e0 => ?_)
      · have hq0 := bI_eq.mp e0
        refine lv_iconst (v := nI 0) hx hb dM_can_98 (by decide) ?_
        rw [hQ]
        exact W.zret (v := nI 0) (ty := .boolean) hx hb hrt (by first | rfl | exact bI_nar _) (fun t ht hW => ⟨_, rfl, (by show _ = bI (inb n a && inb n b); rw [hq0]; rfl), ht⟩) (fun q h => by cases h) dM_can_99
      · have hq0 := bI_ne.mp e0
        refine lv_aload_n hx hb dM_can_86 rfl (lv_at hl 0 rfl) ?_
        refine lv_iload_n hx hb dM_can_87 rfl (lv_at hl 3 rfl) ?_
        refine vp_callSi (va_Run.run (va_runV (As := [.int b]) (rest := []) ⟨hx, hb, hml, hown, htA⟩ (m_made l G cA mo n fs b hf3 hn) (cwV 1 htA (gd_V wd476 wd478 wd15 wd28 wd479) rfl rfl rfl (by decide +kernel) (by rw [hR]; exact ⟨Nat.le_of_ble_eq_true rfl, Nat.le_of_ble_eq_true rfl⟩)) (pw_V (ci := 4) (q := (RM, TM, 8)) hKN hob rfl hob) rfl rfl hl.1 rfl (lv_room (Nat.le_of_ble_eq_true rfl)) dM_can_88 (by rw [hR]; exact ⟨Nat.le_of_ble_eq_true rfl, Nat.le_of_ble_eq_true rfl⟩))) (fun r2 hr2 => ?_)
        subst hr2
        refine lv_if_eq (tgt := 98) hx hb dM_can_91 (by decide) (fun e1 => ?_) (fun e1 => ?_)
        · have hq1 := bI_eq.mp e1
          refine lv_iconst (v := nI 0) hx hb dM_can_98 (by decide) ?_
          rw [hQ]
          exact W.zret (v := nI 0) (ty := .boolean) hx hb hrt (by first | rfl | exact bI_nar _) (fun t ht hW => ⟨_, rfl, (by show _ = bI (inb n a && inb n b); rw [hq0, hq1]; rfl), ht⟩) (fun q h => by cases h) dM_can_99
        · have hq1 := bI_ne.mp e1
          refine lv_iconst (v := nI 1) hx hb dM_can_94 (by decide) ?_
          refine lv_goto (tgt := 99) hx hb dM_can_95 (by decide) ?_
          rw [hQ]
          exact W.zret (v := nI 1) (ty := .boolean) hx hb hrt (by first | rfl | exact bI_nar _) (fun t ht hW => ⟨_, rfl, (by show _ = bI (inb n a && inb n b); rw [hq0, hq1]; rfl), ht⟩) (fun q h => by cases h) dM_can_99
    · refine lv_tableIn (tgt := 78) (off := 77) hx hb dM_can_1 (by decide +kernel) (by decide +kernel) rfl (by decide) ?_
      refine lv_aload_n hx hb dM_can_78 rfl (lv_at hl 0 rfl) ?_
      refine lv_iload_n hx hb dM_can_79 rfl (lv_at hl 2 rfl) ?_
      refine vp_callSi (va_Run.run (va_runV (As := [.int a]) (rest := []) ⟨hx, hb, hml, hown, htA⟩ (m_made l G cA mo n fs a hf3 hn) (cwV 1 htA (gd_V wd476 wd478 wd15 wd28 wd479) rfl rfl rfl (by decide +kernel) (by rw [hR]; exact ⟨Nat.le_of_ble_eq_true rfl, Nat.le_of_ble_eq_true rfl⟩)) (pw_V (ci := 4) (q := (RM, TM, 8)) hKN hob rfl hob) rfl rfl hl.1 rfl (lv_room (Nat.le_of_ble_eq_true rfl)) dM_can_80 (by rw [hR]; exact ⟨Nat.le_of_ble_eq_true rfl, Nat.le_of_ble_eq_true rfl⟩))) (fun r1 hr1 => ?_)
      subst hr1
      refine lv_if_eq (tgt := 98) hx hb dM_can_83 (by decide) (fun e0 => ?_) (fun e0 => ?_)
      · have hq0 := bI_eq.mp e0
        refine lv_iconst (v := nI 0) hx hb dM_can_98 (by decide) ?_
        rw [hQ]
        exact W.zret (v := nI 0) (ty := .boolean) hx hb hrt (by first | rfl | exact bI_nar _) (fun t ht hW => ⟨_, rfl, (by show _ = bI (inb n a && inb n b); rw [hq0]; rfl), ht⟩) (fun q h => by cases h) dM_can_99
      · have hq0 := bI_ne.mp e0
        refine lv_aload_n hx hb dM_can_86 rfl (lv_at hl 0 rfl) ?_
        refine lv_iload_n hx hb dM_can_87 rfl (lv_at hl 3 rfl) ?_
        refine vp_callSi (va_Run.run (va_runV (As := [.int b]) (rest := []) ⟨hx, hb, hml, hown, htA⟩ (m_made l G cA mo n fs b hf3 hn) (cwV 1 htA (gd_V wd476 wd478 wd15 wd28 wd479) rfl rfl rfl (by decide +kernel) (by rw [hR]; exact ⟨Nat.le_of_ble_eq_true rfl, Nat.le_of_ble_eq_true rfl⟩)) (pw_V (ci := 4) (q := (RM, TM, 8)) hKN hob rfl hob) rfl rfl hl.1 rfl (lv_room (Nat.le_of_ble_eq_true rfl)) dM_can_88 (by rw [hR]; exact ⟨Nat.le_of_ble_eq_true rfl, Nat.le_of_ble_eq_true rfl⟩))) (fun r2 hr2 => ?_)
        subst hr2
        refine lv_if_eq (tgt := 98) hx hb dM_can_91 (by decide) (fun e1 => ?_) (fun e1 => ?_)
        · have hq1 := bI_eq.mp e1
          refine lv_iconst (v := nI 0) hx hb dM_can_98 (by decide) ?_
          rw [hQ]
          exact W.zret (v := nI 0) (ty := .boolean) hx hb hrt (by first | rfl | exact bI_nar _) (fun t ht hW => ⟨_, rfl, (by show _ = bI (inb n a && inb n b); rw [hq0, hq1]; rfl), ht⟩) (fun q h => by cases h) dM_can_99
        · have hq1 := bI_ne.mp e1
          refine lv_iconst (v := nI 1) hx hb dM_can_94 (by decide) ?_
          refine lv_goto (tgt := 99) hx hb dM_can_95 (by decide) ?_
          rw [hQ]
          exact W.zret (v := nI 1) (ty := .boolean) hx hb hrt (by first | rfl | exact bI_nar _) (fun t ht hW => ⟨_, rfl, (by show _ = bI (inb n a && inb n b); rw [hq0, hq1]; rfl), ht⟩) (fun q h => by cases h) dM_can_99
    · refine lv_tableIn (tgt := 100) (off := 99) hx hb dM_can_1 (by decide +kernel) (by decide +kernel) rfl (by decide) ?_
      refine lv_aload_n hx hb dM_can_100 rfl (lv_at hl 0 rfl) ?_
      refine lv_iload_n hx hb dM_can_101 rfl (lv_at hl 2 rfl) ?_
      refine vp_callSi (va_Run.run (va_runV (As := [.int a]) (rest := []) ⟨hx, hb, hml, hown, htA⟩ (m_made l G cA mo n fs a hf3 hn) (cwV 1 htA (gd_V wd476 wd478 wd15 wd28 wd479) rfl rfl rfl (by decide +kernel) (by rw [hR]; exact ⟨Nat.le_of_ble_eq_true rfl, Nat.le_of_ble_eq_true rfl⟩)) (pw_V (ci := 4) (q := (RM, TM, 8)) hKN hob rfl hob) rfl rfl hl.1 rfl (lv_room (Nat.le_of_ble_eq_true rfl)) dM_can_102 (by rw [hR]; exact ⟨Nat.le_of_ble_eq_true rfl, Nat.le_of_ble_eq_true rfl⟩))) (fun r1 hr1 => ?_)
      subst hr1
      rw [hQ]
      exact W.zret (v := bI (inb n a)) (ty := .boolean) hx hb hrt (by first | rfl | exact bI_nar _) (fun t ht hW => ⟨_, rfl, rfl, ht⟩) (fun q h => by cases h) dM_can_105
    · refine lv_tableIn (tgt := 100) (off := 99) hx hb dM_can_1 (by decide +kernel) (by decide +kernel) rfl (by decide) ?_
      refine lv_aload_n hx hb dM_can_100 rfl (lv_at hl 0 rfl) ?_
      refine lv_iload_n hx hb dM_can_101 rfl (lv_at hl 2 rfl) ?_
      refine vp_callSi (va_Run.run (va_runV (As := [.int a]) (rest := []) ⟨hx, hb, hml, hown, htA⟩ (m_made l G cA mo n fs a hf3 hn) (cwV 1 htA (gd_V wd476 wd478 wd15 wd28 wd479) rfl rfl rfl (by decide +kernel) (by rw [hR]; exact ⟨Nat.le_of_ble_eq_true rfl, Nat.le_of_ble_eq_true rfl⟩)) (pw_V (ci := 4) (q := (RM, TM, 8)) hKN hob rfl hob) rfl rfl hl.1 rfl (lv_room (Nat.le_of_ble_eq_true rfl)) dM_can_102 (by rw [hR]; exact ⟨Nat.le_of_ble_eq_true rfl, Nat.le_of_ble_eq_true rfl⟩))) (fun r1 hr1 => ?_)
      subst hr1
      rw [hQ]
      exact W.zret (v := bI (inb n a)) (ty := .boolean) hx hb hrt (by first | rfl | exact bI_nar _) (fun t ht hW => ⟨_, rfl, rfl, ht⟩) (fun q h => by cases h) dM_can_105
    · refine lv_tableIn (tgt := 106) (off := 105) hx hb dM_can_1 (by decide +kernel) (by decide +kernel) rfl (by decide) ?_
      refine lv_aload_n hx hb dM_can_106 rfl (lv_at hl 0 rfl) ?_
      refine lv_iload_n hx hb dM_can_107 rfl (lv_at hl 2 rfl) ?_
      refine vp_callSi (va_Run.run (va_runV (As := [.int a]) (rest := []) ⟨hx, hb, hml, hown, htA⟩ (m_made l G cA mo n fs a hf3 hn) (cwV 1 htA (gd_V wd476 wd478 wd15 wd28 wd479) rfl rfl rfl (by decide +kernel) (by rw [hR]; exact ⟨Nat.le_of_ble_eq_true rfl, Nat.le_of_ble_eq_true rfl⟩)) (pw_V (ci := 4) (q := (RM, TM, 8)) hKN hob rfl hob) rfl rfl hl.1 rfl (lv_room (Nat.le_of_ble_eq_true rfl)) dM_can_108 (by rw [hR]; exact ⟨Nat.le_of_ble_eq_true rfl, Nat.le_of_ble_eq_true rfl⟩))) (fun r1 hr1 => ?_)
      subst hr1
      refine lv_if_eq (tgt := 135) hx hb dM_can_111 (by decide) (fun e0 => ?_) (fun e0 => ?_)
      · have hq0 := bI_eq.mp e0
        refine lv_iconst (v := nI 0) hx hb dM_can_135 (by decide) ?_
        rw [hQ]
        exact W.zret (v := nI 0) (ty := .boolean) hx hb hrt (by first | rfl | exact bI_nar _) (fun t ht hW => ⟨_, rfl, (by show _ = bI (inb n a && (inb n b && inb n c0)); rw [hq0]; rfl), ht⟩) (fun q h => by cases h) dM_can_136
      · have hq0 := bI_ne.mp e0
        refine lv_aload_n hx hb dM_can_114 rfl (lv_at hl 0 rfl) ?_
        refine lv_iload_n hx hb dM_can_115 rfl (lv_at hl 3 rfl) ?_
        refine vp_callSi (va_Run.run (va_runV (As := [.int b]) (rest := []) ⟨hx, hb, hml, hown, htA⟩ (m_made l G cA mo n fs b hf3 hn) (cwV 1 htA (gd_V wd476 wd478 wd15 wd28 wd479) rfl rfl rfl (by decide +kernel) (by rw [hR]; exact ⟨Nat.le_of_ble_eq_true rfl, Nat.le_of_ble_eq_true rfl⟩)) (pw_V (ci := 4) (q := (RM, TM, 8)) hKN hob rfl hob) rfl rfl hl.1 rfl (lv_room (Nat.le_of_ble_eq_true rfl)) dM_can_116 (by rw [hR]; exact ⟨Nat.le_of_ble_eq_true rfl, Nat.le_of_ble_eq_true rfl⟩))) (fun r2 hr2 => ?_)
        subst hr2
        refine lv_if_eq (tgt := 135) hx hb dM_can_119 (by decide) (fun e1 => ?_) (fun e1 => ?_)
        · have hq1 := bI_eq.mp e1
          refine lv_iconst (v := nI 0) hx hb dM_can_135 (by decide) ?_
          rw [hQ]
          exact W.zret (v := nI 0) (ty := .boolean) hx hb hrt (by first | rfl | exact bI_nar _) (fun t ht hW => ⟨_, rfl, (by show _ = bI (inb n a && (inb n b && inb n c0)); rw [hq0, hq1]; rfl), ht⟩) (fun q h => by cases h) dM_can_136
        · have hq1 := bI_ne.mp e1
          refine lv_aload_n hx hb dM_can_122 rfl (lv_at hl 0 rfl) ?_
          refine lv_iload hx hb dM_can_123 (lv_at hl 4 rfl) ?_
          refine vp_callSi (va_Run.run (va_runV (As := [.int c0]) (rest := []) ⟨hx, hb, hml, hown, htA⟩ (m_made l G cA mo n fs c0 hf3 hn) (cwV 1 htA (gd_V wd476 wd478 wd15 wd28 wd479) rfl rfl rfl (by decide +kernel) (by rw [hR]; exact ⟨Nat.le_of_ble_eq_true rfl, Nat.le_of_ble_eq_true rfl⟩)) (pw_V (ci := 4) (q := (RM, TM, 8)) hKN hob rfl hob) rfl rfl hl.1 rfl (lv_room (Nat.le_of_ble_eq_true rfl)) dM_can_125 (by rw [hR]; exact ⟨Nat.le_of_ble_eq_true rfl, Nat.le_of_ble_eq_true rfl⟩))) (fun r3 hr3 => ?_)
          subst hr3
          refine lv_if_eq (tgt := 135) hx hb dM_can_128 (by decide) (fun e2 => ?_) (fun e2 => ?_)
          · have hq2 := bI_eq.mp e2
            refine lv_iconst (v := nI 0) hx hb dM_can_135 (by decide) ?_
            rw [hQ]
            exact W.zret (v := nI 0) (ty := .boolean) hx hb hrt (by first | rfl | exact bI_nar _) (fun t ht hW => ⟨_, rfl, (by show _ = bI (inb n a && (inb n b && inb n c0)); rw [hq0, hq1, hq2]; rfl), ht⟩) (fun q h => by cases h) dM_can_136
          · have hq2 := bI_ne.mp e2
            refine lv_iconst (v := nI 1) hx hb dM_can_131 (by decide) ?_
            refine lv_goto (tgt := 136) hx hb dM_can_132 (by decide) ?_
            rw [hQ]
            exact W.zret (v := nI 1) (ty := .boolean) hx hb hrt (by first | rfl | exact bI_nar _) (fun t ht hW => ⟨_, rfl, (by show _ = bI (inb n a && (inb n b && inb n c0)); rw [hq0, hq1, hq2]; rfl), ht⟩) (fun q h => by cases h) dM_can_136

set_option maxRecDepth 100000 in
set_option maxHeartbeats 4000000 in
theorem m_passes (l : Launch) (G : va_G) (cA : Nat → ClassId) (mo af n : Nat) (fs : List Value) (fb : Nat → Int32) (F : Nat → Bool) (j : Nat) (hj : j < 9) (a b c0 : Int32) (hf2 : fs[2]? = some (.ref af)) (hn : n ≤ 50) (hw : wfN n j a b c0 = true) (hF : ∀ i, i < n → fb i = bI (F i)) : Met l yM_passes wsM_passes ({ frames := 0, cells := 0, slots := 0, locals := 0 }) (PH G cA [.ref mo, .int (nI j), .int a, .int b, .int c0] (fun H => (ob G 4 mo fs H ∧ ai (cA 3) af 50 fb H))) (vp_Si (fun r => r = bI (polB j (cl a) (cl b) (cl c0) F))) 0 0 (fun _ => False) := by
  refine Met.ofW (cc := cM_passes) (maxL := 5) (ret := (some .boolean)) (by decide) rfl ?_
  intro p e s m args below meth c s₁ B hml hv
  obtain ⟨hav, hKN, hob, hab⟩ := hv
  have hK := hKN.1
  have hx := B.exec
  have hb := B.bytes
  have hrt := B.returns
  have htA : ∀ w ∈ ALL, w.before args s = true := fun w h => atoms_spec (ws := wsM_passes) B.pre w (List.mem_cons_of_mem _ h)
  have hown : s.vm.findClass RM = some m.cls := findClass_of_methodNamed B.named
  have hlocks := B.notSynchronized
  refine pw_nm (fun R Q hR hQ => ?_)
  refine pw_entry (vs := [.ref mo, .int (nI j), .int a, .int b, .int c0]) hav (Nat.le_of_ble_eq_true rfl) (fun ls hl => ?_)
  have hl : lv_has ls 5 [(0, .ref mo), (1, .int (nI j)), (2, .int a), (3, .int b), (4, .int c0)] := hl
  have hj9 : j = 0 ∨ j = 1 ∨ j = 2 ∨ j = 3 ∨ j = 4 ∨ j = 5 ∨ j = 6 ∨ j = 7 ∨ j = 8 := by omega
  rcases hj9 with rfl | rfl | rfl | rfl | rfl | rfl | rfl | rfl | rfl
  · refine lv_iload_n hx hb dM_passes_0 rfl (lv_at hl 1 rfl) ?_
    refine lv_iconst (v := nI 3) hx hb dM_passes_1 (by decide) ?_
    refine lv_icmp_lt (tgt := 11) hx hb dM_passes_2 (by decide) (fun _ => ?_) (fun c9 => absurd (by decide) c9)
    refine lv_iconst (v := nI 1) hx hb dM_passes_11 (by decide) ?_
    rw [hQ]
    exact W.zret (v := nI 1) (ty := .boolean) hx hb hrt (by first | rfl | exact bI_nar _) (fun t ht hW => ⟨_, rfl, rfl, ht⟩) (fun q h => by cases h) dM_passes_12
  · refine lv_iload_n hx hb dM_passes_0 rfl (lv_at hl 1 rfl) ?_
    refine lv_iconst (v := nI 3) hx hb dM_passes_1 (by decide) ?_
    refine lv_icmp_lt (tgt := 11) hx hb dM_passes_2 (by decide) (fun _ => ?_) (fun c9 => absurd (by decide) c9)
    refine lv_iconst (v := nI 1) hx hb dM_passes_11 (by decide) ?_
    rw [hQ]
    exact W.zret (v := nI 1) (ty := .boolean) hx hb hrt (by first | rfl | exact bI_nar _) (fun t ht hW => ⟨_, rfl, rfl, ht⟩) (fun q h => by cases h) dM_passes_12
  · refine lv_iload_n hx hb dM_passes_0 rfl (lv_at hl 1 rfl) ?_
    refine lv_iconst (v := nI 3) hx hb dM_passes_1 (by decide) ?_
    refine lv_icmp_lt (tgt := 11) hx hb dM_passes_2 (by decide) (fun _ => ?_) (fun c9 => absurd (by decide) c9)
    refine lv_iconst (v := nI 1) hx hb dM_passes_11 (by decide) ?_
    rw [hQ]
    exact W.zret (v := nI 1) (ty := .boolean) hx hb hrt (by first | rfl | exact bI_nar _) (fun t ht hW => ⟨_, rfl, rfl, ht⟩) (fun q h => by cases h) dM_passes_12
  · refine lv_iload_n hx hb dM_passes_0 rfl (lv_at hl 1 rfl) ?_
    refine lv_iconst (v := nI 3) hx hb dM_passes_1 (by decide) ?_
    refine lv_icmp_lt (tgt := 11) hx hb dM_passes_2 (by decide) (fun c9 => absurd c9 (by decide)) (fun _ => ?_)
    refine lv_iload_n hx hb dM_passes_5 rfl (lv_at hl 1 rfl) ?_
    refine lv_bipush (v := nI 7) hx hb dM_passes_6 (by decide) ?_
    refine lv_icmp_ne (tgt := 13) hx hb dM_passes_8 (by decide) (fun _ => ?_) (fun c9 => absurd c9 (by decide))
    refine lv_iload_n hx hb dM_passes_13 rfl (lv_at hl 1 rfl) ?_
    refine lv_iconst (v := nI 3) hx hb dM_passes_14 (by decide) ?_
    refine lv_icmp_ne (tgt := 20) hx hb dM_passes_15 (by decide) (fun c9 => absurd (by decide) c9) (fun _ => ?_)
    refine lv_iconst (v := nI 0) hx hb dM_passes_18 (by decide) ?_
    rw [hQ]
    exact W.zret (v := nI 0) (ty := .boolean) hx hb hrt (by first | rfl | exact bI_nar _) (fun t ht hW => ⟨_, rfl, rfl, ht⟩) (fun q h => by cases h) dM_passes_19
  · have hw : (inb n a && inb n b) = true := hw
    obtain ⟨hwa, hwb⟩ := and_t hw
    obtain ⟨na, ha, rfl⟩ := inb_t (by omega) hwa
    obtain ⟨nb, hb1, rfl⟩ := inb_t (by omega) hwb
    have hcl : True := trivial
    refine lv_iload_n hx hb dM_passes_0 rfl (lv_at hl 1 rfl) ?_
    refine lv_iconst (v := nI 3) hx hb dM_passes_1 (by decide) ?_
    refine lv_icmp_lt (tgt := 11) hx hb dM_passes_2 (by decide) (fun c9 => absurd c9 (by decide)) (fun _ => ?_)
    refine lv_iload_n hx hb dM_passes_5 rfl (lv_at hl 1 rfl) ?_
    refine lv_bipush (v := nI 7) hx hb dM_passes_6 (by decide) ?_
    refine lv_icmp_ne (tgt := 13) hx hb dM_passes_8 (by decide) (fun _ => ?_) (fun c9 => absurd c9 (by decide))
    refine lv_iload_n hx hb dM_passes_13 rfl (lv_at hl 1 rfl) ?_
    refine lv_iconst (v := nI 3) hx hb dM_passes_14 (by decide) ?_
    refine lv_icmp_ne (tgt := 20) hx hb dM_passes_15 (by decide) (fun _ => ?_) (fun c9 => absurd c9 (by decide))
    refine lv_iload_n hx hb dM_passes_20 rfl (lv_at hl 1 rfl) ?_
    refine lv_bipush (v := nI 6) hx hb dM_passes_21 (by decide) ?_
    refine lv_icmp_ne (tgt := 33) hx hb dM_passes_23 (by decide) (fun _ => ?_) (fun c9 => absurd c9 (by decide))
    refine lv_aload_n hx hb dM_passes_33 rfl (lv_at hl 0 rfl) ?_
    refine va_get (D := G) (ci := 4) (v := .ref af) (C := RM) (T := TM) (N := 8) hx hb htA inM hown hK (ob_P hob) 0 rfl rfl 2 (by decide) (htA _ wd437) (fun _ h9 => h9) hf2 dM_passes_34 ?_
    refine lv_iload_n hx hb dM_passes_37 rfl (lv_at hl 2 rfl) ?_
    refine pw_zald hx hb hK hab 3 rfl (by omega) (by decide) dM_passes_38 ?_
    refine pw_ti (y := bI (F na)) (hF na ha) ?_
    refine lv_if_eq (tgt := 71) hx hb dM_passes_39 (by decide) (fun cc => ?_) (fun cc => ?_)
    · have hq := bI_eq.mp cc
      refine lv_iconst (v := nI 0) hx hb dM_passes_71 (by decide) ?_
      rw [hQ]
      exact W.zret (v := nI 0) (ty := .boolean) hx hb hrt (by first | rfl | exact bI_nar _) (fun t ht hW => ⟨_, rfl, (by show _ = bI (F (cl (nI na)) && F (cl (nI nb))); rw [cl_nI (j := na) (by omega), cl_nI (j := nb) (by omega), hq]; rfl), ht⟩) (fun q h => by cases h) dM_passes_72
    · have hq1 := bI_ne.mp cc
      refine lv_aload_n hx hb dM_passes_42 rfl (lv_at hl 0 rfl) ?_
      refine va_get (D := G) (ci := 4) (v := .ref af) (C := RM) (T := TM) (N := 8) hx hb htA inM hown hK (ob_P hob) 0 rfl rfl 2 (by decide) (htA _ wd437) (fun _ h9 => h9) hf2 dM_passes_43 ?_
      refine lv_iload_n hx hb dM_passes_46 rfl (lv_at hl 3 rfl) ?_
      refine pw_zald hx hb hK hab 3 rfl (by omega) (by decide) dM_passes_47 ?_
      refine pw_ti (y := bI (F nb)) (hF nb hb1) ?_
      refine lv_if_eq (tgt := 71) hx hb dM_passes_48 (by decide) (fun cc => ?_) (fun cc => ?_)
      · have hq := bI_eq.mp cc
        refine lv_iconst (v := nI 0) hx hb dM_passes_71 (by decide) ?_
        rw [hQ]
        exact W.zret (v := nI 0) (ty := .boolean) hx hb hrt (by first | rfl | exact bI_nar _) (fun t ht hW => ⟨_, rfl, (by show _ = bI (F (cl (nI na)) && F (cl (nI nb))); rw [cl_nI (j := na) (by omega), cl_nI (j := nb) (by omega), hq1, hq]; rfl), ht⟩) (fun q h => by cases h) dM_passes_72
      · have hq2 := bI_ne.mp cc
        refine lv_iload_n hx hb dM_passes_51 rfl (lv_at hl 1 rfl) ?_
        refine lv_bipush (v := nI 8) hx hb dM_passes_52 (by decide) ?_
        refine lv_icmp_lt (tgt := 67) hx hb dM_passes_54 (by decide) (fun _ => ?_) (fun c9 => absurd (by decide) c9)
        refine lv_iconst (v := nI 1) hx hb dM_passes_67 (by decide) ?_
        refine lv_goto (tgt := 72) hx hb dM_passes_68 (by decide) ?_
        rw [hQ]
        exact W.zret (v := nI 1) (ty := .boolean) hx hb hrt (by first | rfl | exact bI_nar _) (fun t ht hW => ⟨_, rfl, (by show _ = bI (F (cl (nI na)) && F (cl (nI nb))); rw [cl_nI (j := na) (by omega), cl_nI (j := nb) (by omega), hq1, hq2]; rfl), ht⟩) (fun q h => by cases h) dM_passes_72
  · have hw : (inb n a && inb n b) = true := hw
    obtain ⟨hwa, hwb⟩ := and_t hw
    obtain ⟨na, ha, rfl⟩ := inb_t (by omega) hwa
    obtain ⟨nb, hb1, rfl⟩ := inb_t (by omega) hwb
    have hcl : True := trivial
    refine lv_iload_n hx hb dM_passes_0 rfl (lv_at hl 1 rfl) ?_
    refine lv_iconst (v := nI 3) hx hb dM_passes_1 (by decide) ?_
    refine lv_icmp_lt (tgt := 11) hx hb dM_passes_2 (by decide) (fun c9 => absurd c9 (by decide)) (fun _ => ?_)
    refine lv_iload_n hx hb dM_passes_5 rfl (lv_at hl 1 rfl) ?_
    refine lv_bipush (v := nI 7) hx hb dM_passes_6 (by decide) ?_
    refine lv_icmp_ne (tgt := 13) hx hb dM_passes_8 (by decide) (fun _ => ?_) (fun c9 => absurd c9 (by decide))
    refine lv_iload_n hx hb dM_passes_13 rfl (lv_at hl 1 rfl) ?_
    refine lv_iconst (v := nI 3) hx hb dM_passes_14 (by decide) ?_
    refine lv_icmp_ne (tgt := 20) hx hb dM_passes_15 (by decide) (fun _ => ?_) (fun c9 => absurd c9 (by decide))
    refine lv_iload_n hx hb dM_passes_20 rfl (lv_at hl 1 rfl) ?_
    refine lv_bipush (v := nI 6) hx hb dM_passes_21 (by decide) ?_
    refine lv_icmp_ne (tgt := 33) hx hb dM_passes_23 (by decide) (fun _ => ?_) (fun c9 => absurd c9 (by decide))
    refine lv_aload_n hx hb dM_passes_33 rfl (lv_at hl 0 rfl) ?_
    refine va_get (D := G) (ci := 4) (v := .ref af) (C := RM) (T := TM) (N := 8) hx hb htA inM hown hK (ob_P hob) 0 rfl rfl 2 (by decide) (htA _ wd437) (fun _ h9 => h9) hf2 dM_passes_34 ?_
    refine lv_iload_n hx hb dM_passes_37 rfl (lv_at hl 2 rfl) ?_
    refine pw_zald hx hb hK hab 3 rfl (by omega) (by decide) dM_passes_38 ?_
    refine pw_ti (y := bI (F na)) (hF na ha) ?_
    refine lv_if_eq (tgt := 71) hx hb dM_passes_39 (by decide) (fun cc => ?_) (fun cc => ?_)
    · have hq := bI_eq.mp cc
      refine lv_iconst (v := nI 0) hx hb dM_passes_71 (by decide) ?_
      rw [hQ]
      exact W.zret (v := nI 0) (ty := .boolean) hx hb hrt (by first | rfl | exact bI_nar _) (fun t ht hW => ⟨_, rfl, (by show _ = bI (F (cl (nI na)) && F (cl (nI nb))); rw [cl_nI (j := na) (by omega), cl_nI (j := nb) (by omega), hq]; rfl), ht⟩) (fun q h => by cases h) dM_passes_72
    · have hq1 := bI_ne.mp cc
      refine lv_aload_n hx hb dM_passes_42 rfl (lv_at hl 0 rfl) ?_
      refine va_get (D := G) (ci := 4) (v := .ref af) (C := RM) (T := TM) (N := 8) hx hb htA inM hown hK (ob_P hob) 0 rfl rfl 2 (by decide) (htA _ wd437) (fun _ h9 => h9) hf2 dM_passes_43 ?_
      refine lv_iload_n hx hb dM_passes_46 rfl (lv_at hl 3 rfl) ?_
      refine pw_zald hx hb hK hab 3 rfl (by omega) (by decide) dM_passes_47 ?_
      refine pw_ti (y := bI (F nb)) (hF nb hb1) ?_
      refine lv_if_eq (tgt := 71) hx hb dM_passes_48 (by decide) (fun cc => ?_) (fun cc => ?_)
      · have hq := bI_eq.mp cc
        refine lv_iconst (v := nI 0) hx hb dM_passes_71 (by decide) ?_
        rw [hQ]
        exact W.zret (v := nI 0) (ty := .boolean) hx hb hrt (by first | rfl | exact bI_nar _) (fun t ht hW => ⟨_, rfl, (by show _ = bI (F (cl (nI na)) && F (cl (nI nb))); rw [cl_nI (j := na) (by omega), cl_nI (j := nb) (by omega), hq1, hq]; rfl), ht⟩) (fun q h => by cases h) dM_passes_72
      · have hq2 := bI_ne.mp cc
        refine lv_iload_n hx hb dM_passes_51 rfl (lv_at hl 1 rfl) ?_
        refine lv_bipush (v := nI 8) hx hb dM_passes_52 (by decide) ?_
        refine lv_icmp_lt (tgt := 67) hx hb dM_passes_54 (by decide) (fun _ => ?_) (fun c9 => absurd (by decide) c9)
        refine lv_iconst (v := nI 1) hx hb dM_passes_67 (by decide) ?_
        refine lv_goto (tgt := 72) hx hb dM_passes_68 (by decide) ?_
        rw [hQ]
        exact W.zret (v := nI 1) (ty := .boolean) hx hb hrt (by first | rfl | exact bI_nar _) (fun t ht hW => ⟨_, rfl, (by show _ = bI (F (cl (nI na)) && F (cl (nI nb))); rw [cl_nI (j := na) (by omega), cl_nI (j := nb) (by omega), hq1, hq2]; rfl), ht⟩) (fun q h => by cases h) dM_passes_72
  · have hw : inb n a = true := hw
    obtain ⟨na, ha, rfl⟩ := inb_t (by omega) hw
    have hcl : True := trivial
    refine lv_iload_n hx hb dM_passes_0 rfl (lv_at hl 1 rfl) ?_
    refine lv_iconst (v := nI 3) hx hb dM_passes_1 (by decide) ?_
    refine lv_icmp_lt (tgt := 11) hx hb dM_passes_2 (by decide) (fun c9 => absurd c9 (by decide)) (fun _ => ?_)
    refine lv_iload_n hx hb dM_passes_5 rfl (lv_at hl 1 rfl) ?_
    refine lv_bipush (v := nI 7) hx hb dM_passes_6 (by decide) ?_
    refine lv_icmp_ne (tgt := 13) hx hb dM_passes_8 (by decide) (fun _ => ?_) (fun c9 => absurd c9 (by decide))
    refine lv_iload_n hx hb dM_passes_13 rfl (lv_at hl 1 rfl) ?_
    refine lv_iconst (v := nI 3) hx hb dM_passes_14 (by decide) ?_
    refine lv_icmp_ne (tgt := 20) hx hb dM_passes_15 (by decide) (fun _ => ?_) (fun c9 => absurd c9 (by decide))
    refine lv_iload_n hx hb dM_passes_20 rfl (lv_at hl 1 rfl) ?_
    refine lv_bipush (v := nI 6) hx hb dM_passes_21 (by decide) ?_
    refine lv_icmp_ne (tgt := 33) hx hb dM_passes_23 (by decide) (fun c9 => absurd (by decide) c9) (fun _ => ?_)
    refine lv_aload_n hx hb dM_passes_26 rfl (lv_at hl 0 rfl) ?_
    refine va_get (D := G) (ci := 4) (v := .ref af) (C := RM) (T := TM) (N := 8) hx hb htA inM hown hK (ob_P hob) 0 rfl rfl 2 (by decide) (htA _ wd437) (fun _ h9 => h9) hf2 dM_passes_27 ?_
    refine lv_iload_n hx hb dM_passes_30 rfl (lv_at hl 2 rfl) ?_
    refine pw_zald hx hb hK hab 3 rfl (by omega) (by decide) dM_passes_31 ?_
    refine pw_ti (y := bI (F na)) (hF na ha) ?_
    rw [hQ]
    exact W.zret (v := bI (F na)) (ty := .boolean) hx hb hrt (by first | rfl | exact bI_nar _) (fun t ht hW => ⟨_, rfl, (by show bI (F na) = bI (F (cl (nI na))); rw [cl_nI (by omega)]), ht⟩) (fun q h => by cases h) dM_passes_32
  · refine lv_iload_n hx hb dM_passes_0 rfl (lv_at hl 1 rfl) ?_
    refine lv_iconst (v := nI 3) hx hb dM_passes_1 (by decide) ?_
    refine lv_icmp_lt (tgt := 11) hx hb dM_passes_2 (by decide) (fun c9 => absurd c9 (by decide)) (fun _ => ?_)
    refine lv_iload_n hx hb dM_passes_5 rfl (lv_at hl 1 rfl) ?_
    refine lv_bipush (v := nI 7) hx hb dM_passes_6 (by decide) ?_
    refine lv_icmp_ne (tgt := 13) hx hb dM_passes_8 (by decide) (fun c9 => absurd (by decide) c9) (fun _ => ?_)
    refine lv_iconst (v := nI 1) hx hb dM_passes_11 (by decide) ?_
    rw [hQ]
    exact W.zret (v := nI 1) (ty := .boolean) hx hb hrt (by first | rfl | exact bI_nar _) (fun t ht hW => ⟨_, rfl, rfl, ht⟩) (fun q h => by cases h) dM_passes_12
  · have hw : (inb n a && (inb n b && inb n c0)) = true := hw
    obtain ⟨hwa, hw2⟩ := and_t hw
    obtain ⟨hwb, hwc⟩ := and_t hw2
    obtain ⟨na, ha, rfl⟩ := inb_t (by omega) hwa
    obtain ⟨nb, hb1, rfl⟩ := inb_t (by omega) hwb
    obtain ⟨nc, hc, rfl⟩ := inb_t (by omega) hwc
    have hcl : True := trivial
    refine lv_iload_n hx hb dM_passes_0 rfl (lv_at hl 1 rfl) ?_
    refine lv_iconst (v := nI 3) hx hb dM_passes_1 (by decide) ?_
    refine lv_icmp_lt (tgt := 11) hx hb dM_passes_2 (by decide) (fun c9 => absurd c9 (by decide)) (fun _ => ?_)
    refine lv_iload_n hx hb dM_passes_5 rfl (lv_at hl 1 rfl) ?_
    refine lv_bipush (v := nI 7) hx hb dM_passes_6 (by decide) ?_
    refine lv_icmp_ne (tgt := 13) hx hb dM_passes_8 (by decide) (fun _ => ?_) (fun c9 => absurd c9 (by decide))
    refine lv_iload_n hx hb dM_passes_13 rfl (lv_at hl 1 rfl) ?_
    refine lv_iconst (v := nI 3) hx hb dM_passes_14 (by decide) ?_
    refine lv_icmp_ne (tgt := 20) hx hb dM_passes_15 (by decide) (fun _ => ?_) (fun c9 => absurd c9 (by decide))
    refine lv_iload_n hx hb dM_passes_20 rfl (lv_at hl 1 rfl) ?_
    refine lv_bipush (v := nI 6) hx hb dM_passes_21 (by decide) ?_
    refine lv_icmp_ne (tgt := 33) hx hb dM_passes_23 (by decide) (fun _ => ?_) (fun c9 => absurd c9 (by decide))
    refine lv_aload_n hx hb dM_passes_33 rfl (lv_at hl 0 rfl) ?_
    refine va_get (D := G) (ci := 4) (v := .ref af) (C := RM) (T := TM) (N := 8) hx hb htA inM hown hK (ob_P hob) 0 rfl rfl 2 (by decide) (htA _ wd437) (fun _ h9 => h9) hf2 dM_passes_34 ?_
    refine lv_iload_n hx hb dM_passes_37 rfl (lv_at hl 2 rfl) ?_
    refine pw_zald hx hb hK hab 3 rfl (by omega) (by decide) dM_passes_38 ?_
    refine pw_ti (y := bI (F na)) (hF na ha) ?_
    refine lv_if_eq (tgt := 71) hx hb dM_passes_39 (by decide) (fun cc => ?_) (fun cc => ?_)
    · have hq := bI_eq.mp cc
      refine lv_iconst (v := nI 0) hx hb dM_passes_71 (by decide) ?_
      rw [hQ]
      exact W.zret (v := nI 0) (ty := .boolean) hx hb hrt (by first | rfl | exact bI_nar _) (fun t ht hW => ⟨_, rfl, (by show _ = bI (F (cl (nI na)) && (F (cl (nI nb)) && F (cl (nI nc)))); rw [cl_nI (j := na) (by omega), cl_nI (j := nb) (by omega), cl_nI (j := nc) (by omega), hq]; rfl), ht⟩) (fun q h => by cases h) dM_passes_72
    · have hq1 := bI_ne.mp cc
      refine lv_aload_n hx hb dM_passes_42 rfl (lv_at hl 0 rfl) ?_
      refine va_get (D := G) (ci := 4) (v := .ref af) (C := RM) (T := TM) (N := 8) hx hb htA inM hown hK (ob_P hob) 0 rfl rfl 2 (by decide) (htA _ wd437) (fun _ h9 => h9) hf2 dM_passes_43 ?_
      refine lv_iload_n hx hb dM_passes_46 rfl (lv_at hl 3 rfl) ?_
      refine pw_zald hx hb hK hab 3 rfl (by omega) (by decide) dM_passes_47 ?_
      refine pw_ti (y := bI (F nb)) (hF nb hb1) ?_
      refine lv_if_eq (tgt := 71) hx hb dM_passes_48 (by decide) (fun cc => ?_) (fun cc => ?_)
      · have hq := bI_eq.mp cc
        refine lv_iconst (v := nI 0) hx hb dM_passes_71 (by decide) ?_
        rw [hQ]
        exact W.zret (v := nI 0) (ty := .boolean) hx hb hrt (by first | rfl | exact bI_nar _) (fun t ht hW => ⟨_, rfl, (by show _ = bI (F (cl (nI na)) && (F (cl (nI nb)) && F (cl (nI nc)))); rw [cl_nI (j := na) (by omega), cl_nI (j := nb) (by omega), cl_nI (j := nc) (by omega), hq1, hq]; rfl), ht⟩) (fun q h => by cases h) dM_passes_72
      · have hq2 := bI_ne.mp cc
        refine lv_iload_n hx hb dM_passes_51 rfl (lv_at hl 1 rfl) ?_
        refine lv_bipush (v := nI 8) hx hb dM_passes_52 (by decide) ?_
        refine lv_icmp_lt (tgt := 67) hx hb dM_passes_54 (by decide) (fun c9 => absurd c9 (by decide)) (fun _ => ?_)
        refine lv_aload_n hx hb dM_passes_57 rfl (lv_at hl 0 rfl) ?_
        refine va_get (D := G) (ci := 4) (v := .ref af) (C := RM) (T := TM) (N := 8) hx hb htA inM hown hK (ob_P hob) 0 rfl rfl 2 (by decide) (htA _ wd437) (fun _ h9 => h9) hf2 dM_passes_58 ?_
        refine lv_iload hx hb dM_passes_61 (lv_at hl 4 rfl) ?_
        refine pw_zald hx hb hK hab 3 rfl (by omega) (by decide) dM_passes_63 ?_
        refine pw_ti (y := bI (F nc)) (hF nc hc) ?_
        refine lv_if_eq (tgt := 71) hx hb dM_passes_64 (by decide) (fun cc => ?_) (fun cc => ?_)
        · have hq := bI_eq.mp cc
          refine lv_iconst (v := nI 0) hx hb dM_passes_71 (by decide) ?_
          rw [hQ]
          exact W.zret (v := nI 0) (ty := .boolean) hx hb hrt (by first | rfl | exact bI_nar _) (fun t ht hW => ⟨_, rfl, (by show _ = bI (F (cl (nI na)) && (F (cl (nI nb)) && F (cl (nI nc)))); rw [cl_nI (j := na) (by omega), cl_nI (j := nb) (by omega), cl_nI (j := nc) (by omega), hq1, hq2, hq]; rfl), ht⟩) (fun q h => by cases h) dM_passes_72
        · have hq3 := bI_ne.mp cc
          refine lv_iconst (v := nI 1) hx hb dM_passes_67 (by decide) ?_
          refine lv_goto (tgt := 72) hx hb dM_passes_68 (by decide) ?_
          rw [hQ]
          exact W.zret (v := nI 1) (ty := .boolean) hx hb hrt (by first | rfl | exact bI_nar _) (fun t ht hW => ⟨_, rfl, (by show _ = bI (F (cl (nI na)) && (F (cl (nI nb)) && F (cl (nI nc)))); rw [cl_nI (j := na) (by omega), cl_nI (j := nb) (by omega), cl_nI (j := nc) (by omega), hq1, hq2, hq3]; rfl), ht⟩) (fun q h => by cases h) dM_passes_72

set_option maxRecDepth 100000 in
set_option maxHeartbeats 4000000 in
theorem m_worked (l : Launch) (G : va_G) (cA : Nat → ClassId) (mo ao n : Nat) (fs : List Value) (fo : Nat → Int64) (j : Nat) (hj : j < 9) (a b c0 : Int32) (x : Nat) (hx0 : x < 64) (hf1 : fs[1]? = some (.ref ao)) (hn : n ≤ 50) (hw : wfN n j a b c0 = true) : Met l yM_worked wsM_worked ({ frames := 2, cells := 0, slots := 0, locals := 51 }) (PH G cA [.ref mo, .int (nI j), .int a, .int b, .int c0, .int (nI x)] (fun H => (ob G 4 mo fs H ∧ al (cA 0) ao 3200 fo H))) (vp_Sl (fun r => r = polF j (cl a) (cl b) (cl c0) (fun i k => fo (64 * i + k)) x)) 0 0 (fun _ => False) := by
  refine Met.ofW (cc := cM_worked) (maxL := 8) (ret := (some .long)) (by decide) rfl ?_
  intro p e s m args below meth c s₁ B hml hv
  obtain ⟨hav, hKN, hob, hal⟩ := hv
  have hK := hKN.1
  have hx := B.exec
  have hb := B.bytes
  have hrt := B.returns
  have htA : ∀ w ∈ ALL, w.before args s = true := fun w h => atoms_spec (ws := wsM_worked) B.pre w (List.mem_cons_of_mem _ h)
  have hown : s.vm.findClass RM = some m.cls := findClass_of_methodNamed B.named
  have hlocks := B.notSynchronized
  refine pw_nm (fun R Q hR hQ => ?_)
  refine pw_entry (vs := [.ref mo, .int (nI j), .int a, .int b, .int c0, .int (nI x)]) hav (Nat.le_of_ble_eq_true rfl) (fun ls hl => ?_)
  have hl : lv_has ls 8 [(0, .ref mo), (1, .int (nI j)), (2, .int a), (3, .int b), (4, .int c0), (5, .int (nI x))] := hl
  refine lv_lconst (v := 1) hx hb dM_worked_0 rfl ?_
  refine lv_iload hx hb dM_worked_1 (lv_at hl 5 rfl) ?_
  refine lv_lshl hx hb dM_worked_3 rfl ?_
  refine pw_tl (y := one x) rfl ?_
  refine lv_lstore (lv' := [(6, .long (one x)), (0, .ref mo), (1, .int (nI j)), (2, .int a), (3, .int b), (4, .int c0), (5, .int (nI x))]) hx hb dM_worked_4 hl (by decide) rfl (fun ls hl => ?_)
  refine lv_iload_n hx hb dM_worked_6 rfl (lv_at hl 2 rfl) ?_
  have hj9 : j = 0 ∨ j = 1 ∨ j = 2 ∨ j = 3 ∨ j = 4 ∨ j = 5 ∨ j = 6 ∨ j = 7 ∨ j = 8 := by omega
  rcases hj9 with rfl | rfl | rfl | rfl | rfl | rfl | rfl | rfl | rfl
  · refine lv_tableIn (tgt := 52) (off := 45) hx hb dM_worked_7 (by decide +kernel) (by decide +kernel) rfl (by decide) ?_
    refine lv_lconst (v := 0) hx hb dM_worked_52 rfl ?_
    rw [hQ]
    exact W.lret (v := 0) hx hb hrt (fun t ht hW => ⟨_, rfl, rfl, ht⟩) (fun q h => by cases h) dM_worked_53
  · refine lv_tableIn (tgt := 54) (off := 47) hx hb dM_worked_7 (by decide +kernel) (by decide +kernel) rfl (by decide) ?_
    refine lv_lload hx hb dM_worked_54 (lv_at hl 0 rfl) ?_
    rw [hQ]
    exact W.lret (v := one x) hx hb hrt (fun t ht hW => ⟨_, rfl, rfl, ht⟩) (fun q h => by cases h) dM_worked_56
  · have hw : (inb 3 a && inb 4 b) = true := hw
    obtain ⟨hwa, hwb⟩ := and_t hw
    obtain ⟨na, ha, rfl⟩ := inb_t (by decide) hwa
    obtain ⟨nb, hb1, rfl⟩ := inb_t (by decide) hwb
    refine lv_tableIn (tgt := 57) (off := 50) hx hb dM_worked_7 (by decide +kernel) (by decide +kernel) rfl (by decide) ?_
    refine lv_iload hx hb dM_worked_57 (lv_at hl 6 rfl) ?_
    refine lv_iload_n hx hb dM_worked_59 rfl (lv_at hl 3 rfl) ?_
    refine vp_callSi (va_Run.run (va_runS (As := [.int (nI x), .int (nI na)]) (rest := []) ⟨hx, hb, hml, hown, htA⟩ (m_value l G cA x hx0 na ha) (va_cwS 2 htA (gd_S wd488 wd489 wd28 wd490) rfl rfl rfl (by decide +kernel) (by rw [hR]; exact ⟨Nat.le_of_ble_eq_true rfl, Nat.le_of_ble_eq_true rfl⟩)) (pw_S hKN trivial) rfl rfl hl.1 rfl (lv_room (Nat.le_of_ble_eq_true rfl)) dM_worked_60 (by rw [hR]; exact ⟨Nat.le_of_ble_eq_true rfl, Nat.le_of_ble_eq_true rfl⟩))) (fun r1 hr1 => ?_)
    subst hr1
    refine lv_iload_n hx hb dM_worked_63 rfl (lv_at hl 4 rfl) ?_
    have hv := vl_lt x na
    refine lv_icmp_ne (tgt := 72) hx hb dM_worked_64 (by decide) (fun cc => ?_) (fun cc => ?_)
    · have hq : ¬ vl x na = nb := fun q => cc (by rw [q])
      refine lv_lconst (v := 0) hx hb dM_worked_72 rfl ?_
      rw [hQ]
      exact W.lret (v := 0) hx hb hrt (fun t ht hW => ⟨_, rfl, (by show _ = (if vl x (cl (nI na)) = cl (nI nb) then one x else 0); rw [cl_nI (j := na) (by omega), cl_nI (j := nb) (by omega), if_neg hq]), ht⟩) (fun q h => by cases h) dM_worked_73
    · have hq : vl x na = nb := (nI_eq (by omega) (by omega)).mp cc
      refine lv_lload hx hb dM_worked_67 (lv_at hl 0 rfl) ?_
      refine lv_goto (tgt := 73) hx hb dM_worked_69 (by decide) ?_
      rw [hQ]
      exact W.lret (v := one x) hx hb hrt (fun t ht hW => ⟨_, rfl, (by show _ = (if vl x (cl (nI na)) = cl (nI nb) then one x else 0); rw [cl_nI (j := na) (by omega), cl_nI (j := nb) (by omega), if_pos hq]), ht⟩) (fun q h => by cases h) dM_worked_73
  · have hw : (inb 3 a && inb 4 b) = true := hw
    obtain ⟨hwa, hwb⟩ := and_t hw
    obtain ⟨na, ha, rfl⟩ := inb_t (by decide) hwa
    obtain ⟨nb, hb1, rfl⟩ := inb_t (by decide) hwb
    refine lv_tableIn (tgt := 74) (off := 67) hx hb dM_worked_7 (by decide +kernel) (by decide +kernel) rfl (by decide) ?_
    refine lv_lconst (v := 1) hx hb dM_worked_74 rfl ?_
    refine lv_iload hx hb dM_worked_75 (lv_at hl 6 rfl) ?_
    refine lv_iload_n hx hb dM_worked_77 rfl (lv_at hl 3 rfl) ?_
    refine lv_iload_n hx hb dM_worked_78 rfl (lv_at hl 4 rfl) ?_
    refine vp_callSi (va_Run.run (va_runS (As := [.int (nI x), .int (nI na), .int (nI nb)]) (rest := [.long 1]) ⟨hx, hb, hml, hown, htA⟩ (m_with l G cA x hx0 na ha nb hb1) (va_cwS 3 htA (gd_S wd491 wd492 wd28 wd493) rfl rfl rfl (by decide +kernel) (by rw [hR]; exact ⟨Nat.le_of_ble_eq_true rfl, Nat.le_of_ble_eq_true rfl⟩)) (pw_S hKN trivial) rfl rfl hl.1 rfl (lv_room (Nat.le_of_ble_eq_true rfl)) dM_worked_79 (by rw [hR]; exact ⟨Nat.le_of_ble_eq_true rfl, Nat.le_of_ble_eq_true rfl⟩))) (fun r1 hr1 => ?_)
    subst hr1
    refine lv_lshl hx hb dM_worked_82 rfl ?_
    rw [hQ]
    exact W.lret (v := 1 <<< ((nI (setv x na nb)).toInt64 &&& 63)) hx hb hrt (fun t ht hW => ⟨_, rfl, (by show one (setv x na nb) = one (setv x (cl (nI na)) (cl (nI nb))); rw [cl_nI (j := na) (by omega), cl_nI (j := nb) (by omega)]), ht⟩) (fun q h => by cases h) dM_worked_83
  · have hw : (inb n a && inb n b) = true := hw
    obtain ⟨hwa, hwb⟩ := and_t hw
    obtain ⟨na, ha, rfl⟩ := inb_t (by omega) hwa
    obtain ⟨nb, hb1, rfl⟩ := inb_t (by omega) hwb
    have hcl : True := trivial
    refine lv_tableIn (tgt := 84) (off := 77) hx hb dM_worked_7 (by decide +kernel) (by decide +kernel) rfl (by decide) ?_
    refine lv_aload_n hx hb dM_worked_84 rfl (lv_at hl 1 rfl) ?_
    refine va_get (D := G) (ci := 4) (v := .ref ao) (C := RM) (T := TM) (N := 8) hx hb htA inM hown hK (ob_P hob) 0 rfl rfl 1 (by decide) (htA _ wd436) (fun _ h9 => h9) hf1 dM_worked_85 ?_
    refine lv_bipush (v := nI 64) hx hb dM_worked_88 (by decide) ?_
    refine lv_iload_n hx hb dM_worked_90 rfl (lv_at hl 3 rfl) ?_
    refine lv_imul hx hb dM_worked_91 ?_
    refine pw_ti (y := nI (64 * na)) (pk_mul _ _) ?_
    refine lv_iload hx hb dM_worked_92 (lv_at hl 6 rfl) ?_
    refine lv_iadd hx hb dM_worked_94 ?_
    refine pw_ti (y := nI ((64 * na) + x)) (nI_add _ _) ?_
    refine pw_lald hx hb hK hal 0 rfl (by omega) (by decide) dM_worked_95 ?_
    refine lv_aload_n hx hb dM_worked_96 rfl (lv_at hl 1 rfl) ?_
    refine va_get (D := G) (ci := 4) (v := .ref ao) (C := RM) (T := TM) (N := 8) hx hb htA inM hown hK (ob_P hob) 0 rfl rfl 1 (by decide) (htA _ wd436) (fun _ h9 => h9) hf1 dM_worked_97 ?_
    refine lv_bipush (v := nI 64) hx hb dM_worked_100 (by decide) ?_
    refine lv_iload_n hx hb dM_worked_102 rfl (lv_at hl 4 rfl) ?_
    refine lv_imul hx hb dM_worked_103 ?_
    refine pw_ti (y := nI (64 * nb)) (pk_mul _ _) ?_
    refine lv_iload hx hb dM_worked_104 (lv_at hl 6 rfl) ?_
    refine lv_iadd hx hb dM_worked_106 ?_
    refine pw_ti (y := nI ((64 * nb) + x)) (nI_add _ _) ?_
    refine pw_lald hx hb hK hal 0 rfl (by omega) (by decide) dM_worked_107 ?_
    refine lv_lor hx hb dM_worked_108 ?_
    rw [hQ]
    exact W.lret (v := (fo ((64 * na) + x)) ||| (fo ((64 * nb) + x))) hx hb hrt (fun t ht hW => ⟨_, rfl, (by show fo (64 * na + x) ||| fo (64 * nb + x) = fo (64 * cl (nI na) + x) ||| fo (64 * cl (nI nb) + x); rw [cl_nI (j := na) (by omega), cl_nI (j := nb) (by omega)]), ht⟩) (fun q h => by cases h) dM_worked_109
  · have hw : (inb n a && inb n b) = true := hw
    obtain ⟨hwa, hwb⟩ := and_t hw
    obtain ⟨na, ha, rfl⟩ := inb_t (by omega) hwa
    obtain ⟨nb, hb1, rfl⟩ := inb_t (by omega) hwb
    have hcl : True := trivial
    refine lv_tableIn (tgt := 110) (off := 103) hx hb dM_worked_7 (by decide +kernel) (by decide +kernel) rfl (by decide) ?_
    refine lv_aload_n hx hb dM_worked_110 rfl (lv_at hl 1 rfl) ?_
    refine lv_iload_n hx hb dM_worked_111 rfl (lv_at hl 4 rfl) ?_
    refine lv_aload_n hx hb dM_worked_112 rfl (lv_at hl 1 rfl) ?_
    refine va_get (D := G) (ci := 4) (v := .ref ao) (C := RM) (T := TM) (N := 8) hx hb htA inM hown hK (ob_P hob) 0 rfl rfl 1 (by decide) (htA _ wd436) (fun _ h9 => h9) hf1 dM_worked_113 ?_
    refine lv_bipush (v := nI 64) hx hb dM_worked_116 (by decide) ?_
    refine lv_iload_n hx hb dM_worked_118 rfl (lv_at hl 3 rfl) ?_
    refine lv_imul hx hb dM_worked_119 ?_
    refine pw_ti (y := nI (64 * na)) (pk_mul _ _) ?_
    refine lv_iload hx hb dM_worked_120 (lv_at hl 6 rfl) ?_
    refine lv_iadd hx hb dM_worked_122 ?_
    refine pw_ti (y := nI ((64 * na) + x)) (nI_add _ _) ?_
    refine pw_lald hx hb hK hal 0 rfl (by omega) (by decide) dM_worked_123 ?_
    refine vp_callSl (va_Run.run (va_runV (As := [.int (nI nb), .long (fo ((64 * na) + x))]) (rest := []) ⟨hx, hb, hml, hown, htA⟩ (m_all l G cA mo ao fs fo nb (fo (64 * na + x)) hf1 (by omega)) (cwV 2 htA (gd_V wd494 wd496 wd18 wd28 wd497) rfl rfl rfl (by decide +kernel) (by rw [hR]; exact ⟨Nat.le_of_ble_eq_true rfl, Nat.le_of_ble_eq_true rfl⟩)) (pw_V (ci := 4) (q := (RM, TM, 8)) hKN hob rfl ⟨hob, hal⟩) rfl rfl hl.1 rfl (lv_room (Nat.le_of_ble_eq_true rfl)) dM_worked_124 (by rw [hR]; exact ⟨Nat.le_of_ble_eq_true rfl, Nat.le_of_ble_eq_true rfl⟩))) (fun r1 hr1 => ?_)
    subst hr1
    rw [hQ]
    exact W.lret (v := gf (fun k => fo (64 * nb + k)) (fo (64 * na + x)) 64) hx hb hrt (fun t ht hW => ⟨_, rfl, (by show _ = gf (fun k => fo (64 * cl (nI nb) + k)) (fo (64 * cl (nI na) + x)) 64; rw [cl_nI (j := na) (by omega), cl_nI (j := nb) (by omega)]), ht⟩) (fun q h => by cases h) dM_worked_127
  · have hw : inb n a = true := hw
    obtain ⟨na, ha, rfl⟩ := inb_t (by omega) hw
    have hcl : True := trivial
    refine lv_tableIn (tgt := 128) (off := 121) hx hb dM_worked_7 (by decide +kernel) (by decide +kernel) rfl (by decide) ?_
    refine lv_aload_n hx hb dM_worked_128 rfl (lv_at hl 1 rfl) ?_
    refine lv_iload_n hx hb dM_worked_129 rfl (lv_at hl 3 rfl) ?_
    refine lv_iload hx hb dM_worked_130 (lv_at hl 6 rfl) ?_
    refine vp_callSl (va_Run.run (va_runV (As := [.int (nI na), .int (nI x)]) (rest := []) ⟨hx, hb, hml, hown, htA⟩ (m_star l G cA mo ao fs fo na x hf1 (by omega)) (cwV 2 htA (gd_V wd498 wd500 wd19 wd28 wd501) rfl rfl rfl (by decide +kernel) (by rw [hR]; exact ⟨Nat.le_of_ble_eq_true rfl, Nat.le_of_ble_eq_true rfl⟩)) (pw_V (ci := 4) (q := (RM, TM, 8)) hKN hob rfl ⟨hob, hal⟩) rfl rfl hl.1 rfl (lv_room (Nat.le_of_ble_eq_true rfl)) dM_worked_132 (by rw [hR]; exact ⟨Nat.le_of_ble_eq_true rfl, Nat.le_of_ble_eq_true rfl⟩))) (fun r1 hr1 => ?_)
    subst hr1
    rw [hQ]
    exact W.lret (v := st (fun k => fo (64 * na + k)) x 64) hx hb hrt (fun t ht hW => ⟨_, rfl, (by show _ = st (fun k => fo (64 * cl (nI na) + k)) x 64; rw [cl_nI (j := na) (by omega)]), ht⟩) (fun q h => by cases h) dM_worked_135
  · have hw : inb n a = true := hw
    obtain ⟨na, ha, rfl⟩ := inb_t (by omega) hw
    have hcl : True := trivial
    refine lv_tableIn (tgt := 136) (off := 129) hx hb dM_worked_7 (by decide +kernel) (by decide +kernel) rfl (by decide) ?_
    refine lv_aload_n hx hb dM_worked_136 rfl (lv_at hl 1 rfl) ?_
    refine va_get (D := G) (ci := 4) (v := .ref ao) (C := RM) (T := TM) (N := 8) hx hb htA inM hown hK (ob_P hob) 0 rfl rfl 1 (by decide) (htA _ wd436) (fun _ h9 => h9) hf1 dM_worked_137 ?_
    refine lv_bipush (v := nI 64) hx hb dM_worked_140 (by decide) ?_
    refine lv_iload_n hx hb dM_worked_142 rfl (lv_at hl 3 rfl) ?_
    refine lv_imul hx hb dM_worked_143 ?_
    refine pw_ti (y := nI (64 * na)) (pk_mul _ _) ?_
    refine lv_iload hx hb dM_worked_144 (lv_at hl 6 rfl) ?_
    refine lv_iadd hx hb dM_worked_146 ?_
    refine pw_ti (y := nI ((64 * na) + x)) (nI_add _ _) ?_
    refine pw_lald hx hb hK hal 0 rfl (by omega) (by decide) dM_worked_147 ?_
    refine lv_lconst (v := 0) hx hb dM_worked_148 rfl ?_
    refine W.lcmp hx hb dM_worked_149 ?_
    refine lv_if_ne (tgt := 158) hx hb dM_worked_150 (by decide) (fun cc => ?_) (fun cc => ?_)
    · have hq : ¬ fo (64 * na + x) = 0 := fun q => cc ((cmp0 _ _).mpr q)
      refine lv_lconst (v := 0) hx hb dM_worked_158 rfl ?_
      rw [hQ]
      exact W.lret (v := 0) hx hb hrt (fun t ht hW => ⟨_, rfl, (by show _ = (if fo (64 * cl (nI na) + x) = 0 then one x else 0); rw [cl_nI (j := na) (by omega), if_neg hq]), ht⟩) (fun q h => by cases h) dM_worked_159
    · have hq := (cmp0 _ _).mp cc
      refine lv_lload hx hb dM_worked_153 (lv_at hl 0 rfl) ?_
      refine lv_goto (tgt := 159) hx hb dM_worked_155 (by decide) ?_
      rw [hQ]
      exact W.lret (v := one x) hx hb hrt (fun t ht hW => ⟨_, rfl, (by show _ = (if fo (64 * cl (nI na) + x) = 0 then one x else 0); rw [cl_nI (j := na) (by omega), if_pos hq]), ht⟩) (fun q h => by cases h) dM_worked_159
  · have hw : (inb n a && (inb n b && inb n c0)) = true := hw
    obtain ⟨hwa, hw2⟩ := and_t hw
    obtain ⟨hwb, hwc⟩ := and_t hw2
    obtain ⟨na, ha, rfl⟩ := inb_t (by omega) hwa
    obtain ⟨nb, hb1, rfl⟩ := inb_t (by omega) hwb
    obtain ⟨nc, hc, rfl⟩ := inb_t (by omega) hwc
    have hcl : True := trivial
    refine lv_tableOut (tgt := 160) hx hb dM_worked_7 (by decide +kernel) (by decide) ?_
    refine lv_aload_n hx hb dM_worked_160 rfl (lv_at hl 1 rfl) ?_
    refine va_get (D := G) (ci := 4) (v := .ref ao) (C := RM) (T := TM) (N := 8) hx hb htA inM hown hK (ob_P hob) 0 rfl rfl 1 (by decide) (htA _ wd436) (fun _ h9 => h9) hf1 dM_worked_161 ?_
    refine lv_bipush (v := nI 64) hx hb dM_worked_164 (by decide) ?_
    refine lv_aload_n hx hb dM_worked_166 rfl (lv_at hl 1 rfl) ?_
    refine va_get (D := G) (ci := 4) (v := .ref ao) (C := RM) (T := TM) (N := 8) hx hb htA inM hown hK (ob_P hob) 0 rfl rfl 1 (by decide) (htA _ wd436) (fun _ h9 => h9) hf1 dM_worked_167 ?_
    refine lv_bipush (v := nI 64) hx hb dM_worked_170 (by decide) ?_
    refine lv_iload_n hx hb dM_worked_172 rfl (lv_at hl 3 rfl) ?_
    refine lv_imul hx hb dM_worked_173 ?_
    refine pw_ti (y := nI (64 * na)) (pk_mul _ _) ?_
    refine lv_iload hx hb dM_worked_174 (lv_at hl 6 rfl) ?_
    refine lv_iadd hx hb dM_worked_176 ?_
    refine pw_ti (y := nI ((64 * na) + x)) (nI_add _ _) ?_
    refine pw_lald hx hb hK hal 0 rfl (by omega) (by decide) dM_worked_177 ?_
    refine lv_lconst (v := 0) hx hb dM_worked_178 rfl ?_
    refine W.lcmp hx hb dM_worked_179 ?_
    refine lv_if_eq (tgt := 187) hx hb dM_worked_180 (by decide) (fun cc => ?_) (fun cc => ?_)
    · have hq := (cmp0 _ _).mp cc
      refine lv_iload hx hb dM_worked_187 (lv_at hl 5 rfl) ?_
      refine lv_imul hx hb dM_worked_189 ?_
      refine pw_ti (y := nI (64 * nc)) (pk_mul _ _) ?_
      refine lv_iload hx hb dM_worked_190 (lv_at hl 6 rfl) ?_
      refine lv_iadd hx hb dM_worked_192 ?_
      refine pw_ti (y := nI ((64 * nc) + x)) (nI_add _ _) ?_
      refine pw_lald hx hb hK hal 0 rfl (by omega) (by decide) dM_worked_193 ?_
      rw [hQ]
      exact W.lret (v := fo ((64 * nc) + x)) hx hb hrt (fun t ht hW => ⟨_, rfl, (by show _ = (if fo (64 * cl (nI na) + x) = 0 then fo (64 * cl (nI nc) + x) else fo (64 * cl (nI nb) + x)); rw [cl_nI (j := na) (by omega), cl_nI (j := nb) (by omega), cl_nI (j := nc) (by omega), if_pos hq]), ht⟩) (fun q h => by cases h) dM_worked_194
    · have hq : ¬ fo (64 * na + x) = 0 := fun q => cc ((cmp0 _ _).mpr q)
      refine lv_iload_n hx hb dM_worked_183 rfl (lv_at hl 4 rfl) ?_
      refine lv_goto (tgt := 189) hx hb dM_worked_184 (by decide) ?_
      refine lv_imul hx hb dM_worked_189 ?_
      refine pw_ti (y := nI (64 * nb)) (pk_mul _ _) ?_
      refine lv_iload hx hb dM_worked_190 (lv_at hl 6 rfl) ?_
      refine lv_iadd hx hb dM_worked_192 ?_
      refine pw_ti (y := nI ((64 * nb) + x)) (nI_add _ _) ?_
      refine pw_lald hx hb hK hal 0 rfl (by omega) (by decide) dM_worked_193 ?_
      rw [hQ]
      exact W.lret (v := fo ((64 * nb) + x)) hx hb hrt (fun t ht hW => ⟨_, rfl, (by show _ = (if fo (64 * cl (nI na) + x) = 0 then fo (64 * cl (nI nc) + x) else fo (64 * cl (nI nb) + x)); rw [cl_nI (j := na) (by omega), cl_nI (j := nb) (by omega), cl_nI (j := nc) (by omega), if_neg hq]), ht⟩) (fun q h => by cases h) dM_worked_194
