set_option maxRecDepth 100000 in
set_option maxHeartbeats 4000000 in
theorem c_isWellFormed (l : Launch) (G : va_G) (cA : Nat → ClassId) (x n : Nat) (fs : List Value) (k a b c0 : Int32) (hfs : fs[2]? = some (.int (nI n))) (hn : n < 2147483648) : Met l yV_isWellFormed wsV_isWellFormed ({ frames := 1, cells := 0, slots := 0, locals := 21 }) (PH G cA [.ref x, .int k, .int a, .int b, .int c0] (fun H => ob G 3 x fs H)) (vp_Si (fun r => r = bI (wf n k a b c0))) 0 0 (fun _ => False) := by
  refine Met.ofW (cc := cV_isWellFormed) (maxL := 5) (ret := (some .boolean)) (by decide) rfl ?_
  intro p e s m args below meth c s₁ B hml hv
  obtain ⟨hav, hKN, hob⟩ := hv
  have hK := hKN.1
  have hx := B.exec
  have hb := B.bytes
  have hrt := B.returns
  have htA : ∀ w ∈ ALL, w.before args s = true := fun w h => atoms_spec (ws := wsV_isWellFormed) B.pre w (List.mem_cons_of_mem _ h)
  have hown : s.vm.findClass RV = some m.cls := findClass_of_methodNamed B.named
  have hlocks := B.notSynchronized
  refine pw_nm (fun R Q hR hQ => ?_)
  refine pw_entry (vs := [.ref x, .int k, .int a, .int b, .int c0]) hav (Nat.le_of_ble_eq_true rfl) (fun ls hl => ?_)
  have hl : lv_has ls 5 [(0, .ref x), (1, .int k), (2, .int a), (3, .int b), (4, .int c0)] := hl
  refine lv_iload_n hx hb dV_isWellFormed_0 rfl (lv_at hl 1 rfl) ?_
  rcases pk_ix k (n := 9) (by decide) with hk | hk | ⟨j, hj, rfl⟩
  · refine lv_tableOut (tgt := 137) hx hb dV_isWellFormed_1 (Or.inl (tb_lo hk)) (by decide) ?_
    refine lv_iconst (v := nI 0) hx hb dV_isWellFormed_137 (by decide) ?_
    rw [hQ]
    exact W.zret (v := nI 0) (ty := .boolean) hx hb hrt (by first | rfl | exact bI_nar _) (fun t ht hW => ⟨_, rfl, (by rw [wf_neg hk]; rfl), ht⟩) (fun q h => by cases h) dV_isWellFormed_138
  · refine lv_tableOut (tgt := 137) hx hb dV_isWellFormed_1 (Or.inr (by have := tb_hi (j := 9) (by decide) hk; omega)) (by decide) ?_
    refine lv_iconst (v := nI 0) hx hb dV_isWellFormed_137 (by decide) ?_
    rw [hQ]
    exact W.zret (v := nI 0) (ty := .boolean) hx hb hrt (by first | rfl | exact bI_nar _) (fun t ht hW => ⟨_, rfl, (by rw [wf_big hk]; rfl), ht⟩) (fun q h => by cases h) dV_isWellFormed_138
  · have hj9 : j = 0 ∨ j = 1 ∨ j = 2 ∨ j = 3 ∨ j = 4 ∨ j = 5 ∨ j = 6 ∨ j = 7 ∨ j = 8 := by omega
    rcases hj9 with rfl | rfl | rfl | rfl | rfl | rfl | rfl | rfl | rfl
    · refine lv_tableIn (tgt := 52) (off := 51) hx hb dV_isWellFormed_1 (by decide +kernel) (by decide +kernel) rfl (by decide) ?_
      refine lv_iconst (v := nI 1) hx hb dV_isWellFormed_52 (by decide) ?_
      rw [hQ]
      exact W.zret (v := nI 1) (ty := .boolean) hx hb hrt (by first | rfl | exact bI_nar _) (fun t ht hW => ⟨_, rfl, rfl, ht⟩) (fun q h => by cases h) dV_isWellFormed_53
    · refine lv_tableIn (tgt := 52) (off := 51) hx hb dV_isWellFormed_1 (by decide +kernel) (by decide +kernel) rfl (by decide) ?_
      refine lv_iconst (v := nI 1) hx hb dV_isWellFormed_52 (by decide) ?_
      rw [hQ]
      exact W.zret (v := nI 1) (ty := .boolean) hx hb hrt (by first | rfl | exact bI_nar _) (fun t ht hW => ⟨_, rfl, rfl, ht⟩) (fun q h => by cases h) dV_isWellFormed_53
    · refine lv_tableIn (tgt := 54) (off := 53) hx hb dV_isWellFormed_1 (by decide +kernel) (by decide +kernel) rfl (by decide) ?_
      refine lv_iload_n hx hb dV_isWellFormed_54 rfl (lv_at hl 2 rfl) ?_
      refine lv_if_lt (tgt := 76) hx hb dV_isWellFormed_55 (by decide) (fun e1 => ?_) (fun e1 => ?_)
      · refine lv_iconst (v := nI 0) hx hb dV_isWellFormed_76 (by decide) ?_
        rw [hQ]
        exact W.zret (v := nI 0) (ty := .boolean) hx hb hrt (by first | rfl | exact bI_nar _) (fun t ht hW => ⟨_, rfl, (by show _ = bI (inb 3 a && inb 4 b); rw [inb_neg e1]; rfl), ht⟩) (fun q h => by cases h) dV_isWellFormed_77
      · refine lv_iload_n hx hb dV_isWellFormed_58 rfl (lv_at hl 2 rfl) ?_
        refine lv_iconst (v := nI 3) hx hb dV_isWellFormed_59 (by decide) ?_
        refine lv_icmp_ge (tgt := 76) hx hb dV_isWellFormed_60 (by decide) (fun e2 => ?_) (fun e2 => ?_)
        · refine lv_iconst (v := nI 0) hx hb dV_isWellFormed_76 (by decide) ?_
          rw [hQ]
          exact W.zret (v := nI 0) (ty := .boolean) hx hb hrt (by first | rfl | exact bI_nar _) (fun t ht hW => ⟨_, rfl, (by show _ = bI (inb 3 a && inb 4 b); rw [inb_big (by decide) e2]; rfl), ht⟩) (fun q h => by cases h) dV_isWellFormed_77
        · have ha := inb_ok (n := 3) (by decide) e1 e2
          refine lv_iload_n hx hb dV_isWellFormed_63 rfl (lv_at hl 3 rfl) ?_
          refine lv_if_lt (tgt := 76) hx hb dV_isWellFormed_64 (by decide) (fun e3 => ?_) (fun e3 => ?_)
          · refine lv_iconst (v := nI 0) hx hb dV_isWellFormed_76 (by decide) ?_
            rw [hQ]
            exact W.zret (v := nI 0) (ty := .boolean) hx hb hrt (by first | rfl | exact bI_nar _) (fun t ht hW => ⟨_, rfl, (by show _ = bI (inb 3 a && inb 4 b); rw [ha, inb_neg e3]; rfl), ht⟩) (fun q h => by cases h) dV_isWellFormed_77
          · refine lv_iload_n hx hb dV_isWellFormed_67 rfl (lv_at hl 3 rfl) ?_
            refine lv_iconst (v := nI 4) hx hb dV_isWellFormed_68 (by decide) ?_
            refine lv_icmp_ge (tgt := 76) hx hb dV_isWellFormed_69 (by decide) (fun e4 => ?_) (fun e4 => ?_)
            · refine lv_iconst (v := nI 0) hx hb dV_isWellFormed_76 (by decide) ?_
              rw [hQ]
              exact W.zret (v := nI 0) (ty := .boolean) hx hb hrt (by first | rfl | exact bI_nar _) (fun t ht hW => ⟨_, rfl, (by show _ = bI (inb 3 a && inb 4 b); rw [ha, inb_big (by decide) e4]; rfl), ht⟩) (fun q h => by cases h) dV_isWellFormed_77
            · have hb9 := inb_ok (n := 4) (by decide) e3 e4
              refine lv_iconst (v := nI 1) hx hb dV_isWellFormed_72 (by decide) ?_
              refine lv_goto (tgt := 77) hx hb dV_isWellFormed_73 (by decide) ?_
              rw [hQ]
              exact W.zret (v := nI 1) (ty := .boolean) hx hb hrt (by first | rfl | exact bI_nar _) (fun t ht hW => ⟨_, rfl, (by show _ = bI (inb 3 a && inb 4 b); rw [ha, hb9]; rfl), ht⟩) (fun q h => by cases h) dV_isWellFormed_77
    · refine lv_tableIn (tgt := 54) (off := 53) hx hb dV_isWellFormed_1 (by decide +kernel) (by decide +kernel) rfl (by decide) ?_
      refine lv_iload_n hx hb dV_isWellFormed_54 rfl (lv_at hl 2 rfl) ?_
      refine lv_if_lt (tgt := 76) hx hb dV_isWellFormed_55 (by decide) (fun e1 => ?_) (fun e1 => ?_)
      · refine lv_iconst (v := nI 0) hx hb dV_isWellFormed_76 (by decide) ?_
        rw [hQ]
        exact W.zret (v := nI 0) (ty := .boolean) hx hb hrt (by first | rfl | exact bI_nar _) (fun t ht hW => ⟨_, rfl, (by show _ = bI (inb 3 a && inb 4 b); rw [inb_neg e1]; rfl), ht⟩) (fun q h => by cases h) dV_isWellFormed_77
      · refine lv_iload_n hx hb dV_isWellFormed_58 rfl (lv_at hl 2 rfl) ?_
        refine lv_iconst (v := nI 3) hx hb dV_isWellFormed_59 (by decide) ?_
        refine lv_icmp_ge (tgt := 76) hx hb dV_isWellFormed_60 (by decide) (fun e2 => ?_) (fun e2 => ?_)
        · refine lv_iconst (v := nI 0) hx hb dV_isWellFormed_76 (by decide) ?_
          rw [hQ]
          exact W.zret (v := nI 0) (ty := .boolean) hx hb hrt (by first | rfl | exact bI_nar _) (fun t ht hW => ⟨_, rfl, (by show _ = bI (inb 3 a && inb 4 b); rw [inb_big (by decide) e2]; rfl), ht⟩) (fun q h => by cases h) dV_isWellFormed_77
        · have ha := inb_ok (n := 3) (by decide) e1 e2
          refine lv_iload_n hx hb dV_isWellFormed_63 rfl (lv_at hl 3 rfl) ?_
          refine lv_if_lt (tgt := 76) hx hb dV_isWellFormed_64 (by decide) (fun e3 => ?_) (fun e3 => ?_)
          · refine lv_iconst (v := nI 0) hx hb dV_isWellFormed_76 (by decide) ?_
            rw [hQ]
            exact W.zret (v := nI 0) (ty := .boolean) hx hb hrt (by first | rfl | exact bI_nar _) (fun t ht hW => ⟨_, rfl, (by show _ = bI (inb 3 a && inb 4 b); rw [ha, inb_neg e3]; rfl), ht⟩) (fun q h => by cases h) dV_isWellFormed_77
          · refine lv_iload_n hx hb dV_isWellFormed_67 rfl (lv_at hl 3 rfl) ?_
            refine lv_iconst (v := nI 4) hx hb dV_isWellFormed_68 (by decide) ?_
            refine lv_icmp_ge (tgt := 76) hx hb dV_isWellFormed_69 (by decide) (fun e4 => ?_) (fun e4 => ?_)
            · refine lv_iconst (v := nI 0) hx hb dV_isWellFormed_76 (by decide) ?_
              rw [hQ]
              exact W.zret (v := nI 0) (ty := .boolean) hx hb hrt (by first | rfl | exact bI_nar _) (fun t ht hW => ⟨_, rfl, (by show _ = bI (inb 3 a && inb 4 b); rw [ha, inb_big (by decide) e4]; rfl), ht⟩) (fun q h => by cases h) dV_isWellFormed_77
            · have hb9 := inb_ok (n := 4) (by decide) e3 e4
              refine lv_iconst (v := nI 1) hx hb dV_isWellFormed_72 (by decide) ?_
              refine lv_goto (tgt := 77) hx hb dV_isWellFormed_73 (by decide) ?_
              rw [hQ]
              exact W.zret (v := nI 1) (ty := .boolean) hx hb hrt (by first | rfl | exact bI_nar _) (fun t ht hW => ⟨_, rfl, (by show _ = bI (inb 3 a && inb 4 b); rw [ha, hb9]; rfl), ht⟩) (fun q h => by cases h) dV_isWellFormed_77
    · refine lv_tableIn (tgt := 78) (off := 77) hx hb dV_isWellFormed_1 (by decide +kernel) (by decide +kernel) rfl (by decide) ?_
      refine lv_aload_n hx hb dV_isWellFormed_78 rfl (lv_at hl 0 rfl) ?_
      refine lv_iload_n hx hb dV_isWellFormed_79 rfl (lv_at hl 2 rfl) ?_
      refine vp_callSi (va_Run.run (va_runV (As := [.int a]) (rest := []) ⟨hx, hb, hml, hown, htA⟩ (c_isMade l G cA x n fs a hfs hn) (cwV 1 htA (gd_V wd90 wd92 wd1 wd26 wd93) rfl rfl rfl (by decide +kernel) (by rw [hR]; exact ⟨Nat.le_of_ble_eq_true rfl, Nat.le_of_ble_eq_true rfl⟩)) (pw_V (ci := 3) (q := (RV, TV, 4)) hKN hob rfl hob) rfl rfl hl.1 rfl (lv_room (Nat.le_of_ble_eq_true rfl)) dV_isWellFormed_80 (by rw [hR]; exact ⟨Nat.le_of_ble_eq_true rfl, Nat.le_of_ble_eq_true rfl⟩))) (fun r1 hr1 => ?_)
      subst hr1
      refine lv_if_eq (tgt := 98) hx hb dV_isWellFormed_83 (by decide) (fun e0 => ?_) (fun e0 => ?_)
      · have hq0 := bI_eq.mp e0
        refine lv_iconst (v := nI 0) hx hb dV_isWellFormed_98 (by decide) ?_
        rw [hQ]
        exact W.zret (v := nI 0) (ty := .boolean) hx hb hrt (by first | rfl | exact bI_nar _) (fun t ht hW => ⟨_, rfl, (by show _ = bI (inb n a && inb n b); rw [hq0]; rfl), ht⟩) (fun q h => by cases h) dV_isWellFormed_99
      · have hq0 := bI_ne.mp e0
        refine lv_aload_n hx hb dV_isWellFormed_86 rfl (lv_at hl 0 rfl) ?_
        refine lv_iload_n hx hb dV_isWellFormed_87 rfl (lv_at hl 3 rfl) ?_
        refine vp_callSi (va_Run.run (va_runV (As := [.int b]) (rest := []) ⟨hx, hb, hml, hown, htA⟩ (c_isMade l G cA x n fs b hfs hn) (cwV 1 htA (gd_V wd90 wd92 wd1 wd26 wd93) rfl rfl rfl (by decide +kernel) (by rw [hR]; exact ⟨Nat.le_of_ble_eq_true rfl, Nat.le_of_ble_eq_true rfl⟩)) (pw_V (ci := 3) (q := (RV, TV, 4)) hKN hob rfl hob) rfl rfl hl.1 rfl (lv_room (Nat.le_of_ble_eq_true rfl)) dV_isWellFormed_88 (by rw [hR]; exact ⟨Nat.le_of_ble_eq_true rfl, Nat.le_of_ble_eq_true rfl⟩))) (fun r2 hr2 => ?_)
        subst hr2
        refine lv_if_eq (tgt := 98) hx hb dV_isWellFormed_91 (by decide) (fun e1 => ?_) (fun e1 => ?_)
        · have hq1 := bI_eq.mp e1
          refine lv_iconst (v := nI 0) hx hb dV_isWellFormed_98 (by decide) ?_
          rw [hQ]
          exact W.zret (v := nI 0) (ty := .boolean) hx hb hrt (by first | rfl | exact bI_nar _) (fun t ht hW => ⟨_, rfl, (by show _ = bI (inb n a && inb n b); rw [hq0, hq1]; rfl), ht⟩) (fun q h => by cases h) dV_isWellFormed_99
        · have hq1 := bI_ne.mp e1
          refine lv_iconst (v := nI 1) hx hb dV_isWellFormed_94 (by decide) ?_
          refine lv_goto (tgt := 99) hx hb dV_isWellFormed_95 (by decide) ?_
          rw [hQ]
          exact W.zret (v := nI 1) (ty := .boolean) hx hb hrt (by first | rfl | exact bI_nar _) (fun t ht hW => ⟨_, rfl, (by show _ = bI (inb n a && inb n b); rw [hq0, hq1]; rfl), ht⟩) (fun q h => by cases h) dV_isWellFormed_99
    · refine lv_tableIn (tgt := 78) (off := 77) hx hb dV_isWellFormed_1 (by decide +kernel) (by decide +kernel) rfl (by decide) ?_
      refine lv_aload_n hx hb dV_isWellFormed_78 rfl (lv_at hl 0 rfl) ?_
      refine lv_iload_n hx hb dV_isWellFormed_79 rfl (lv_at hl 2 rfl) ?_
      refine vp_callSi (va_Run.run (va_runV (As := [.int a]) (rest := []) ⟨hx, hb, hml, hown, htA⟩ (c_isMade l G cA x n fs a hfs hn) (cwV 1 htA (gd_V wd90 wd92 wd1 wd26 wd93) rfl rfl rfl (by decide +kernel) (by rw [hR]; exact ⟨Nat.le_of_ble_eq_true rfl, Nat.le_of_ble_eq_true rfl⟩)) (pw_V (ci := 3) (q := (RV, TV, 4)) hKN hob rfl hob) rfl rfl hl.1 rfl (lv_room (Nat.le_of_ble_eq_true rfl)) dV_isWellFormed_80 (by rw [hR]; exact ⟨Nat.le_of_ble_eq_true rfl, Nat.le_of_ble_eq_true rfl⟩))) (fun r1 hr1 => ?_)
      subst hr1
      refine lv_if_eq (tgt := 98) hx hb dV_isWellFormed_83 (by decide) (fun e0 => ?_) (fun e0 => ?_)
      · have hq0 := bI_eq.mp e0
        refine lv_iconst (v := nI 0) hx hb dV_isWellFormed_98 (by decide) ?_
        rw [hQ]
        exact W.zret (v := nI 0) (ty := .boolean) hx hb hrt (by first | rfl | exact bI_nar _) (fun t ht hW => ⟨_, rfl, (by show _ = bI (inb n a && inb n b); rw [hq0]; rfl), ht⟩) (fun q h => by cases h) dV_isWellFormed_99
      · have hq0 := bI_ne.mp e0
        refine lv_aload_n hx hb dV_isWellFormed_86 rfl (lv_at hl 0 rfl) ?_
        refine lv_iload_n hx hb dV_isWellFormed_87 rfl (lv_at hl 3 rfl) ?_
        refine vp_callSi (va_Run.run (va_runV (As := [.int b]) (rest := []) ⟨hx, hb, hml, hown, htA⟩ (c_isMade l G cA x n fs b hfs hn) (cwV 1 htA (gd_V wd90 wd92 wd1 wd26 wd93) rfl rfl rfl (by decide +kernel) (by rw [hR]; exact ⟨Nat.le_of_ble_eq_true rfl, Nat.le_of_ble_eq_true rfl⟩)) (pw_V (ci := 3) (q := (RV, TV, 4)) hKN hob rfl hob) rfl rfl hl.1 rfl (lv_room (Nat.le_of_ble_eq_true rfl)) dV_isWellFormed_88 (by rw [hR]; exact ⟨Nat.le_of_ble_eq_true rfl, Nat.le_of_ble_eq_true rfl⟩))) (fun r2 hr2 => ?_)
        subst hr2
        refine lv_if_eq (tgt := 98) hx hb dV_isWellFormed_91 (by decide) (fun e1 => ?_) (fun e1 => ?_)
        · have hq1 := bI_eq.mp e1
          refine lv_iconst (v := nI 0) hx hb dV_isWellFormed_98 (by decide) ?_
          rw [hQ]
          exact W.zret (v := nI 0) (ty := .boolean) hx hb hrt (by first | rfl | exact bI_nar _) (fun t ht hW => ⟨_, rfl, (by show _ = bI (inb n a && inb n b); rw [hq0, hq1]; rfl), ht⟩) (fun q h => by cases h) dV_isWellFormed_99
        · have hq1 := bI_ne.mp e1
          refine lv_iconst (v := nI 1) hx hb dV_isWellFormed_94 (by decide) ?_
          refine lv_goto (tgt := 99) hx hb dV_isWellFormed_95 (by decide) ?_
          rw [hQ]
          exact W.zret (v := nI 1) (ty := .boolean) hx hb hrt (by first | rfl | exact bI_nar _) (fun t ht hW => ⟨_, rfl, (by show _ = bI (inb n a && inb n b); rw [hq0, hq1]; rfl), ht⟩) (fun q h => by cases h) dV_isWellFormed_99
    · refine lv_tableIn (tgt := 100) (off := 99) hx hb dV_isWellFormed_1 (by decide +kernel) (by decide +kernel) rfl (by decide) ?_
      refine lv_aload_n hx hb dV_isWellFormed_100 rfl (lv_at hl 0 rfl) ?_
      refine lv_iload_n hx hb dV_isWellFormed_101 rfl (lv_at hl 2 rfl) ?_
      refine vp_callSi (va_Run.run (va_runV (As := [.int a]) (rest := []) ⟨hx, hb, hml, hown, htA⟩ (c_isMade l G cA x n fs a hfs hn) (cwV 1 htA (gd_V wd90 wd92 wd1 wd26 wd93) rfl rfl rfl (by decide +kernel) (by rw [hR]; exact ⟨Nat.le_of_ble_eq_true rfl, Nat.le_of_ble_eq_true rfl⟩)) (pw_V (ci := 3) (q := (RV, TV, 4)) hKN hob rfl hob) rfl rfl hl.1 rfl (lv_room (Nat.le_of_ble_eq_true rfl)) dV_isWellFormed_102 (by rw [hR]; exact ⟨Nat.le_of_ble_eq_true rfl, Nat.le_of_ble_eq_true rfl⟩))) (fun r1 hr1 => ?_)
      subst hr1
      rw [hQ]
      exact W.zret (v := bI (inb n a)) (ty := .boolean) hx hb hrt (by first | rfl | exact bI_nar _) (fun t ht hW => ⟨_, rfl, rfl, ht⟩) (fun q h => by cases h) dV_isWellFormed_105
    · refine lv_tableIn (tgt := 100) (off := 99) hx hb dV_isWellFormed_1 (by decide +kernel) (by decide +kernel) rfl (by decide) ?_
      refine lv_aload_n hx hb dV_isWellFormed_100 rfl (lv_at hl 0 rfl) ?_
      refine lv_iload_n hx hb dV_isWellFormed_101 rfl (lv_at hl 2 rfl) ?_
      refine vp_callSi (va_Run.run (va_runV (As := [.int a]) (rest := []) ⟨hx, hb, hml, hown, htA⟩ (c_isMade l G cA x n fs a hfs hn) (cwV 1 htA (gd_V wd90 wd92 wd1 wd26 wd93) rfl rfl rfl (by decide +kernel) (by rw [hR]; exact ⟨Nat.le_of_ble_eq_true rfl, Nat.le_of_ble_eq_true rfl⟩)) (pw_V (ci := 3) (q := (RV, TV, 4)) hKN hob rfl hob) rfl rfl hl.1 rfl (lv_room (Nat.le_of_ble_eq_true rfl)) dV_isWellFormed_102 (by rw [hR]; exact ⟨Nat.le_of_ble_eq_true rfl, Nat.le_of_ble_eq_true rfl⟩))) (fun r1 hr1 => ?_)
      subst hr1
      rw [hQ]
      exact W.zret (v := bI (inb n a)) (ty := .boolean) hx hb hrt (by first | rfl | exact bI_nar _) (fun t ht hW => ⟨_, rfl, rfl, ht⟩) (fun q h => by cases h) dV_isWellFormed_105
    · refine lv_tableIn (tgt := 106) (off := 105) hx hb dV_isWellFormed_1 (by decide +kernel) (by decide +kernel) rfl (by decide) ?_
      refine lv_aload_n hx hb dV_isWellFormed_106 rfl (lv_at hl 0 rfl) ?_
      refine lv_iload_n hx hb dV_isWellFormed_107 rfl (lv_at hl 2 rfl) ?_
      refine vp_callSi (va_Run.run (va_runV (As := [.int a]) (rest := []) ⟨hx, hb, hml, hown, htA⟩ (c_isMade l G cA x n fs a hfs hn) (cwV 1 htA (gd_V wd90 wd92 wd1 wd26 wd93) rfl rfl rfl (by decide +kernel) (by rw [hR]; exact ⟨Nat.le_of_ble_eq_true rfl, Nat.le_of_ble_eq_true rfl⟩)) (pw_V (ci := 3) (q := (RV, TV, 4)) hKN hob rfl hob) rfl rfl hl.1 rfl (lv_room (Nat.le_of_ble_eq_true rfl)) dV_isWellFormed_108 (by rw [hR]; exact ⟨Nat.le_of_ble_eq_true rfl, Nat.le_of_ble_eq_true rfl⟩))) (fun r1 hr1 => ?_)
      subst hr1
      refine lv_if_eq (tgt := 135) hx hb dV_isWellFormed_111 (by decide) (fun e0 => ?_) (fun e0 => ?_)
      · have hq0 := bI_eq.mp e0
        refine lv_iconst (v := nI 0) hx hb dV_isWellFormed_135 (by decide) ?_
        rw [hQ]
        exact W.zret (v := nI 0) (ty := .boolean) hx hb hrt (by first | rfl | exact bI_nar _) (fun t ht hW => ⟨_, rfl, (by show _ = bI (inb n a && (inb n b && inb n c0)); rw [hq0]; rfl), ht⟩) (fun q h => by cases h) dV_isWellFormed_136
      · have hq0 := bI_ne.mp e0
        refine lv_aload_n hx hb dV_isWellFormed_114 rfl (lv_at hl 0 rfl) ?_
        refine lv_iload_n hx hb dV_isWellFormed_115 rfl (lv_at hl 3 rfl) ?_
        refine vp_callSi (va_Run.run (va_runV (As := [.int b]) (rest := []) ⟨hx, hb, hml, hown, htA⟩ (c_isMade l G cA x n fs b hfs hn) (cwV 1 htA (gd_V wd90 wd92 wd1 wd26 wd93) rfl rfl rfl (by decide +kernel) (by rw [hR]; exact ⟨Nat.le_of_ble_eq_true rfl, Nat.le_of_ble_eq_true rfl⟩)) (pw_V (ci := 3) (q := (RV, TV, 4)) hKN hob rfl hob) rfl rfl hl.1 rfl (lv_room (Nat.le_of_ble_eq_true rfl)) dV_isWellFormed_116 (by rw [hR]; exact ⟨Nat.le_of_ble_eq_true rfl, Nat.le_of_ble_eq_true rfl⟩))) (fun r2 hr2 => ?_)
        subst hr2
        refine lv_if_eq (tgt := 135) hx hb dV_isWellFormed_119 (by decide) (fun e1 => ?_) (fun e1 => ?_)
        · have hq1 := bI_eq.mp e1
          refine lv_iconst (v := nI 0) hx hb dV_isWellFormed_135 (by decide) ?_
          rw [hQ]
          exact W.zret (v := nI 0) (ty := .boolean) hx hb hrt (by first | rfl | exact bI_nar _) (fun t ht hW => ⟨_, rfl, (by show _ = bI (inb n a && (inb n b && inb n c0)); rw [hq0, hq1]; rfl), ht⟩) (fun q h => by cases h) dV_isWellFormed_136
        · have hq1 := bI_ne.mp e1
          refine lv_aload_n hx hb dV_isWellFormed_122 rfl (lv_at hl 0 rfl) ?_
          refine lv_iload hx hb dV_isWellFormed_123 (lv_at hl 4 rfl) ?_
          refine vp_callSi (va_Run.run (va_runV (As := [.int c0]) (rest := []) ⟨hx, hb, hml, hown, htA⟩ (c_isMade l G cA x n fs c0 hfs hn) (cwV 1 htA (gd_V wd90 wd92 wd1 wd26 wd93) rfl rfl rfl (by decide +kernel) (by rw [hR]; exact ⟨Nat.le_of_ble_eq_true rfl, Nat.le_of_ble_eq_true rfl⟩)) (pw_V (ci := 3) (q := (RV, TV, 4)) hKN hob rfl hob) rfl rfl hl.1 rfl (lv_room (Nat.le_of_ble_eq_true rfl)) dV_isWellFormed_125 (by rw [hR]; exact ⟨Nat.le_of_ble_eq_true rfl, Nat.le_of_ble_eq_true rfl⟩))) (fun r3 hr3 => ?_)
          subst hr3
          refine lv_if_eq (tgt := 135) hx hb dV_isWellFormed_128 (by decide) (fun e2 => ?_) (fun e2 => ?_)
          · have hq2 := bI_eq.mp e2
            refine lv_iconst (v := nI 0) hx hb dV_isWellFormed_135 (by decide) ?_
            rw [hQ]
            exact W.zret (v := nI 0) (ty := .boolean) hx hb hrt (by first | rfl | exact bI_nar _) (fun t ht hW => ⟨_, rfl, (by show _ = bI (inb n a && (inb n b && inb n c0)); rw [hq0, hq1, hq2]; rfl), ht⟩) (fun q h => by cases h) dV_isWellFormed_136
          · have hq2 := bI_ne.mp e2
            refine lv_iconst (v := nI 1) hx hb dV_isWellFormed_131 (by decide) ?_
            refine lv_goto (tgt := 136) hx hb dV_isWellFormed_132 (by decide) ?_
            rw [hQ]
            exact W.zret (v := nI 1) (ty := .boolean) hx hb hrt (by first | rfl | exact bI_nar _) (fun t ht hW => ⟨_, rfl, (by show _ = bI (inb n a && (inb n b && inb n c0)); rw [hq0, hq1, hq2]; rfl), ht⟩) (fun q h => by cases h) dV_isWellFormed_136

set_option maxRecDepth 100000 in
set_option maxHeartbeats 4000000 in
theorem c_isFilter (l : Launch) (G : va_G) (cA : Nat → ClassId) (x pa rs lo hi n : Nat) (F : Nat → Bool) (O : Nat → Nat → Int64) (po oc : Nat → Nat) (tb : Nat → Option Nat) (tc : Nat → Nat × Nat × Nat) (j : Nat) (hj : j < 9) (a b c0 : Int32) (hw : wfN n j a b c0 = true) : Met l yV_isFilter wsV_isFilter ({ frames := 0, cells := 0, slots := 0, locals := 0 }) (PH G cA [.ref x, .int (nI j), .int a, .int b, .int c0] (fun H => pvS G cA x pa rs lo hi n F O po oc tb tc H)) (vp_Si (fun r => r = bI (polB j (cl a) (cl b) (cl c0) F))) 0 0 (fun _ => False) := by
  refine Met.ofW (cc := cV_isFilter) (maxL := 5) (ret := (some .boolean)) (by decide) rfl ?_
  intro p e s m args below meth c s₁ B hml hv
  obtain ⟨hav, hKN, hpv⟩ := hv
  have hK := hKN.1
  have hx := B.exec
  have hb := B.bytes
  have hrt := B.returns
  have htA : ∀ w ∈ ALL, w.before args s = true := fun w h => atoms_spec (ws := wsV_isFilter) B.pre w (List.mem_cons_of_mem _ h)
  have hown : s.vm.findClass RV = some m.cls := findClass_of_methodNamed B.named
  have hlocks := B.notSynchronized
  refine pw_nm (fun R Q hR hQ => ?_)
  refine pw_entry (vs := [.ref x, .int (nI j), .int a, .int b, .int c0]) hav (Nat.le_of_ble_eq_true rfl) (fun ls hl => ?_)
  have hl : lv_has ls 5 [(0, .ref x), (1, .int (nI j)), (2, .int a), (3, .int b), (4, .int c0)] := hl
  have hS0 := hpv
  obtain ⟨p1, p2, p3, p4, p5, p6, p7, p8, p9, p10, p11, p12⟩ := hpv
  refine lv_iload_n hx hb dV_isFilter_0 rfl (lv_at hl 1 rfl) ?_
  have hj9 : j = 0 ∨ j = 1 ∨ j = 2 ∨ j = 3 ∨ j = 4 ∨ j = 5 ∨ j = 6 ∨ j = 7 ∨ j = 8 := by omega
  rcases hj9 with rfl | rfl | rfl | rfl | rfl | rfl | rfl | rfl | rfl
  · refine lv_tableIn (tgt := 52) (off := 51) hx hb dV_isFilter_1 (by decide +kernel) (by decide +kernel) rfl (by decide) ?_
    refine lv_iconst (v := nI 1) hx hb dV_isFilter_52 (by decide) ?_
    rw [hQ]
    exact W.zret (v := nI 1) (ty := .boolean) hx hb hrt (by first | rfl | exact bI_nar _) (fun t ht hW => ⟨_, rfl, rfl, ht⟩) (fun q h => by cases h) dV_isFilter_53
  · refine lv_tableIn (tgt := 52) (off := 51) hx hb dV_isFilter_1 (by decide +kernel) (by decide +kernel) rfl (by decide) ?_
    refine lv_iconst (v := nI 1) hx hb dV_isFilter_52 (by decide) ?_
    rw [hQ]
    exact W.zret (v := nI 1) (ty := .boolean) hx hb hrt (by first | rfl | exact bI_nar _) (fun t ht hW => ⟨_, rfl, rfl, ht⟩) (fun q h => by cases h) dV_isFilter_53
  · refine lv_tableIn (tgt := 52) (off := 51) hx hb dV_isFilter_1 (by decide +kernel) (by decide +kernel) rfl (by decide) ?_
    refine lv_iconst (v := nI 1) hx hb dV_isFilter_52 (by decide) ?_
    rw [hQ]
    exact W.zret (v := nI 1) (ty := .boolean) hx hb hrt (by first | rfl | exact bI_nar _) (fun t ht hW => ⟨_, rfl, rfl, ht⟩) (fun q h => by cases h) dV_isFilter_53
  · refine lv_tableIn (tgt := 137) (off := 136) hx hb dV_isFilter_1 (by decide +kernel) (by decide +kernel) rfl (by decide) ?_
    refine lv_iconst (v := nI 0) hx hb dV_isFilter_137 (by decide) ?_
    rw [hQ]
    exact W.zret (v := nI 0) (ty := .boolean) hx hb hrt (by first | rfl | exact bI_nar _) (fun t ht hW => ⟨_, rfl, rfl, ht⟩) (fun q h => by cases h) dV_isFilter_138
  · have hw : (inb n a && inb n b) = true := hw
    obtain ⟨hwa, hwb⟩ := and_t hw
    obtain ⟨na, ha1, rfl⟩ := inb_t (by omega) hwa
    have qa : pvP n po na = some (po na) := by show (if na < n then some (po na) else none) = _; rw [if_pos ha1]
    obtain ⟨nb, hb1, rfl⟩ := inb_t (by omega) hwb
    have qb : pvP n po nb = some (po nb) := by show (if nb < n then some (po nb) else none) = _; rw [if_pos hb1]
    refine lv_tableIn (tgt := 54) (off := 53) hx hb dV_isFilter_1 (by decide +kernel) (by decide +kernel) rfl (by decide) ?_
    refine lv_aload_n hx hb dV_isFilter_54 rfl (lv_at hl 0 rfl) ?_
    refine va_get (D := G) (ci := 3) (v := .ref pa) (C := RV) (T := TV) (N := 4) hx hb htA inV hown hK (ob_P p1) 0 rfl rfl 0 (by decide) (htA _ wd63) (fun _ h9 => h9) rfl dV_isFilter_55 ?_
    refine lv_iload_n hx hb dV_isFilter_58 rfl (lv_at hl 2 rfl) ?_
    refine pw_aald hx hb hK p2 2 rfl (by omega) (by decide) dV_isFilter_59 ?_
    refine pw_tq (a := po na) qa ?_
    refine va_get (D := G) (ci := 0) (v := .int (bI (F na))) (C := RP) (T := TP) (N := 3) hx hb htA inP hown hK (ob_P (p6 na ha1)) 0 rfl rfl 0 (by decide) (htA _ wd198) (fun _ h9 => h9) rfl dV_isFilter_60 ?_
    refine lv_if_eq (tgt := 82) hx hb dV_isFilter_63 (by decide) (fun e0 => ?_) (fun e0 => ?_)
    · have hq0 := bI_eq.mp e0
      refine lv_iconst (v := nI 0) hx hb dV_isFilter_82 (by decide) ?_
      rw [hQ]
      exact W.zret (v := nI 0) (ty := .boolean) hx hb hrt (by first | rfl | exact bI_nar _) (fun t ht hW => ⟨_, rfl, (by show _ = bI (F (cl (nI na)) && F (cl (nI nb))); rw [cl_nI (j := na) (by omega), cl_nI (j := nb) (by omega), hq0]; rfl), ht⟩) (fun q h => by cases h) dV_isFilter_83
    · have hq0 := bI_ne.mp e0
      refine lv_aload_n hx hb dV_isFilter_66 rfl (lv_at hl 0 rfl) ?_
      refine va_get (D := G) (ci := 3) (v := .ref pa) (C := RV) (T := TV) (N := 4) hx hb htA inV hown hK (ob_P p1) 0 rfl rfl 0 (by decide) (htA _ wd63) (fun _ h9 => h9) rfl dV_isFilter_67 ?_
      refine lv_iload_n hx hb dV_isFilter_70 rfl (lv_at hl 3 rfl) ?_
      refine pw_aald hx hb hK p2 2 rfl (by omega) (by decide) dV_isFilter_71 ?_
      refine pw_tq (a := po nb) qb ?_
      refine va_get (D := G) (ci := 0) (v := .int (bI (F nb))) (C := RP) (T := TP) (N := 3) hx hb htA inP hown hK (ob_P (p6 nb hb1)) 0 rfl rfl 0 (by decide) (htA _ wd198) (fun _ h9 => h9) rfl dV_isFilter_72 ?_
      refine lv_if_eq (tgt := 82) hx hb dV_isFilter_75 (by decide) (fun e1 => ?_) (fun e1 => ?_)
      · have hq1 := bI_eq.mp e1
        refine lv_iconst (v := nI 0) hx hb dV_isFilter_82 (by decide) ?_
        rw [hQ]
        exact W.zret (v := nI 0) (ty := .boolean) hx hb hrt (by first | rfl | exact bI_nar _) (fun t ht hW => ⟨_, rfl, (by show _ = bI (F (cl (nI na)) && F (cl (nI nb))); rw [cl_nI (j := na) (by omega), cl_nI (j := nb) (by omega), hq0, hq1]; rfl), ht⟩) (fun q h => by cases h) dV_isFilter_83
      · have hq1 := bI_ne.mp e1
        refine lv_iconst (v := nI 1) hx hb dV_isFilter_78 (by decide) ?_
        refine lv_goto (tgt := 83) hx hb dV_isFilter_79 (by decide) ?_
        rw [hQ]
        exact W.zret (v := nI 1) (ty := .boolean) hx hb hrt (by first | rfl | exact bI_nar _) (fun t ht hW => ⟨_, rfl, (by show _ = bI (F (cl (nI na)) && F (cl (nI nb))); rw [cl_nI (j := na) (by omega), cl_nI (j := nb) (by omega), hq0, hq1]; rfl), ht⟩) (fun q h => by cases h) dV_isFilter_83
  · have hw : (inb n a && inb n b) = true := hw
    obtain ⟨hwa, hwb⟩ := and_t hw
    obtain ⟨na, ha1, rfl⟩ := inb_t (by omega) hwa
    have qa : pvP n po na = some (po na) := by show (if na < n then some (po na) else none) = _; rw [if_pos ha1]
    obtain ⟨nb, hb1, rfl⟩ := inb_t (by omega) hwb
    have qb : pvP n po nb = some (po nb) := by show (if nb < n then some (po nb) else none) = _; rw [if_pos hb1]
    refine lv_tableIn (tgt := 54) (off := 53) hx hb dV_isFilter_1 (by decide +kernel) (by decide +kernel) rfl (by decide) ?_
    refine lv_aload_n hx hb dV_isFilter_54 rfl (lv_at hl 0 rfl) ?_
    refine va_get (D := G) (ci := 3) (v := .ref pa) (C := RV) (T := TV) (N := 4) hx hb htA inV hown hK (ob_P p1) 0 rfl rfl 0 (by decide) (htA _ wd63) (fun _ h9 => h9) rfl dV_isFilter_55 ?_
    refine lv_iload_n hx hb dV_isFilter_58 rfl (lv_at hl 2 rfl) ?_
    refine pw_aald hx hb hK p2 2 rfl (by omega) (by decide) dV_isFilter_59 ?_
    refine pw_tq (a := po na) qa ?_
    refine va_get (D := G) (ci := 0) (v := .int (bI (F na))) (C := RP) (T := TP) (N := 3) hx hb htA inP hown hK (ob_P (p6 na ha1)) 0 rfl rfl 0 (by decide) (htA _ wd198) (fun _ h9 => h9) rfl dV_isFilter_60 ?_
    refine lv_if_eq (tgt := 82) hx hb dV_isFilter_63 (by decide) (fun e0 => ?_) (fun e0 => ?_)
    · have hq0 := bI_eq.mp e0
      refine lv_iconst (v := nI 0) hx hb dV_isFilter_82 (by decide) ?_
      rw [hQ]
      exact W.zret (v := nI 0) (ty := .boolean) hx hb hrt (by first | rfl | exact bI_nar _) (fun t ht hW => ⟨_, rfl, (by show _ = bI (F (cl (nI na)) && F (cl (nI nb))); rw [cl_nI (j := na) (by omega), cl_nI (j := nb) (by omega), hq0]; rfl), ht⟩) (fun q h => by cases h) dV_isFilter_83
    · have hq0 := bI_ne.mp e0
      refine lv_aload_n hx hb dV_isFilter_66 rfl (lv_at hl 0 rfl) ?_
      refine va_get (D := G) (ci := 3) (v := .ref pa) (C := RV) (T := TV) (N := 4) hx hb htA inV hown hK (ob_P p1) 0 rfl rfl 0 (by decide) (htA _ wd63) (fun _ h9 => h9) rfl dV_isFilter_67 ?_
      refine lv_iload_n hx hb dV_isFilter_70 rfl (lv_at hl 3 rfl) ?_
      refine pw_aald hx hb hK p2 2 rfl (by omega) (by decide) dV_isFilter_71 ?_
      refine pw_tq (a := po nb) qb ?_
      refine va_get (D := G) (ci := 0) (v := .int (bI (F nb))) (C := RP) (T := TP) (N := 3) hx hb htA inP hown hK (ob_P (p6 nb hb1)) 0 rfl rfl 0 (by decide) (htA _ wd198) (fun _ h9 => h9) rfl dV_isFilter_72 ?_
      refine lv_if_eq (tgt := 82) hx hb dV_isFilter_75 (by decide) (fun e1 => ?_) (fun e1 => ?_)
      · have hq1 := bI_eq.mp e1
        refine lv_iconst (v := nI 0) hx hb dV_isFilter_82 (by decide) ?_
        rw [hQ]
        exact W.zret (v := nI 0) (ty := .boolean) hx hb hrt (by first | rfl | exact bI_nar _) (fun t ht hW => ⟨_, rfl, (by show _ = bI (F (cl (nI na)) && F (cl (nI nb))); rw [cl_nI (j := na) (by omega), cl_nI (j := nb) (by omega), hq0, hq1]; rfl), ht⟩) (fun q h => by cases h) dV_isFilter_83
      · have hq1 := bI_ne.mp e1
        refine lv_iconst (v := nI 1) hx hb dV_isFilter_78 (by decide) ?_
        refine lv_goto (tgt := 83) hx hb dV_isFilter_79 (by decide) ?_
        rw [hQ]
        exact W.zret (v := nI 1) (ty := .boolean) hx hb hrt (by first | rfl | exact bI_nar _) (fun t ht hW => ⟨_, rfl, (by show _ = bI (F (cl (nI na)) && F (cl (nI nb))); rw [cl_nI (j := na) (by omega), cl_nI (j := nb) (by omega), hq0, hq1]; rfl), ht⟩) (fun q h => by cases h) dV_isFilter_83
  · have hw : inb n a = true := hw
    obtain ⟨na, ha1, rfl⟩ := inb_t (by omega) hw
    have qa : pvP n po na = some (po na) := by show (if na < n then some (po na) else none) = _; rw [if_pos ha1]
    refine lv_tableIn (tgt := 84) (off := 83) hx hb dV_isFilter_1 (by decide +kernel) (by decide +kernel) rfl (by decide) ?_
    refine lv_aload_n hx hb dV_isFilter_84 rfl (lv_at hl 0 rfl) ?_
    refine va_get (D := G) (ci := 3) (v := .ref pa) (C := RV) (T := TV) (N := 4) hx hb htA inV hown hK (ob_P p1) 0 rfl rfl 0 (by decide) (htA _ wd63) (fun _ h9 => h9) rfl dV_isFilter_85 ?_
    refine lv_iload_n hx hb dV_isFilter_88 rfl (lv_at hl 2 rfl) ?_
    refine pw_aald hx hb hK p2 2 rfl (by omega) (by decide) dV_isFilter_89 ?_
    refine pw_tq (a := po na) qa ?_
    refine va_get (D := G) (ci := 0) (v := .int (bI (F na))) (C := RP) (T := TP) (N := 3) hx hb htA inP hown hK (ob_P (p6 na ha1)) 0 rfl rfl 0 (by decide) (htA _ wd198) (fun _ h9 => h9) rfl dV_isFilter_90 ?_
    rw [hQ]
    exact W.zret (v := bI (F na)) (ty := .boolean) hx hb hrt (by first | rfl | exact bI_nar _) (fun t ht hW => ⟨_, rfl, (by show bI (F na) = bI (F (cl (nI na))); rw [cl_nI (j := na) (by omega)]), ht⟩) (fun q h => by cases h) dV_isFilter_93
  · refine lv_tableIn (tgt := 52) (off := 51) hx hb dV_isFilter_1 (by decide +kernel) (by decide +kernel) rfl (by decide) ?_
    refine lv_iconst (v := nI 1) hx hb dV_isFilter_52 (by decide) ?_
    rw [hQ]
    exact W.zret (v := nI 1) (ty := .boolean) hx hb hrt (by first | rfl | exact bI_nar _) (fun t ht hW => ⟨_, rfl, rfl, ht⟩) (fun q h => by cases h) dV_isFilter_53
  · have hw : (inb n a && (inb n b && inb n c0)) = true := hw
    obtain ⟨hwa, hw2⟩ := and_t hw
    obtain ⟨hwb, hwc⟩ := and_t hw2
    obtain ⟨na, ha1, rfl⟩ := inb_t (by omega) hwa
    have qa : pvP n po na = some (po na) := by show (if na < n then some (po na) else none) = _; rw [if_pos ha1]
    obtain ⟨nb, hb1, rfl⟩ := inb_t (by omega) hwb
    have qb : pvP n po nb = some (po nb) := by show (if nb < n then some (po nb) else none) = _; rw [if_pos hb1]
    obtain ⟨nc, hc1, rfl⟩ := inb_t (by omega) hwc
    have qc : pvP n po nc = some (po nc) := by show (if nc < n then some (po nc) else none) = _; rw [if_pos hc1]
    refine lv_tableIn (tgt := 94) (off := 93) hx hb dV_isFilter_1 (by decide +kernel) (by decide +kernel) rfl (by decide) ?_
    refine lv_aload_n hx hb dV_isFilter_94 rfl (lv_at hl 0 rfl) ?_
    refine va_get (D := G) (ci := 3) (v := .ref pa) (C := RV) (T := TV) (N := 4) hx hb htA inV hown hK (ob_P p1) 0 rfl rfl 0 (by decide) (htA _ wd63) (fun _ h9 => h9) rfl dV_isFilter_95 ?_
    refine lv_iload_n hx hb dV_isFilter_98 rfl (lv_at hl 2 rfl) ?_
    refine pw_aald hx hb hK p2 2 rfl (by omega) (by decide) dV_isFilter_99 ?_
    refine pw_tq (a := po na) qa ?_
    refine va_get (D := G) (ci := 0) (v := .int (bI (F na))) (C := RP) (T := TP) (N := 3) hx hb htA inP hown hK (ob_P (p6 na ha1)) 0 rfl rfl 0 (by decide) (htA _ wd198) (fun _ h9 => h9) rfl dV_isFilter_100 ?_
    refine lv_if_eq (tgt := 135) hx hb dV_isFilter_103 (by decide) (fun e0 => ?_) (fun e0 => ?_)
    · have hq0 := bI_eq.mp e0
      refine lv_iconst (v := nI 0) hx hb dV_isFilter_135 (by decide) ?_
      rw [hQ]
      exact W.zret (v := nI 0) (ty := .boolean) hx hb hrt (by first | rfl | exact bI_nar _) (fun t ht hW => ⟨_, rfl, (by show _ = bI (F (cl (nI na)) && (F (cl (nI nb)) && F (cl (nI nc)))); rw [cl_nI (j := na) (by omega), cl_nI (j := nb) (by omega), cl_nI (j := nc) (by omega), hq0]; rfl), ht⟩) (fun q h => by cases h) dV_isFilter_136
    · have hq0 := bI_ne.mp e0
      refine lv_aload_n hx hb dV_isFilter_106 rfl (lv_at hl 0 rfl) ?_
      refine va_get (D := G) (ci := 3) (v := .ref pa) (C := RV) (T := TV) (N := 4) hx hb htA inV hown hK (ob_P p1) 0 rfl rfl 0 (by decide) (htA _ wd63) (fun _ h9 => h9) rfl dV_isFilter_107 ?_
      refine lv_iload_n hx hb dV_isFilter_110 rfl (lv_at hl 3 rfl) ?_
      refine pw_aald hx hb hK p2 2 rfl (by omega) (by decide) dV_isFilter_111 ?_
      refine pw_tq (a := po nb) qb ?_
      refine va_get (D := G) (ci := 0) (v := .int (bI (F nb))) (C := RP) (T := TP) (N := 3) hx hb htA inP hown hK (ob_P (p6 nb hb1)) 0 rfl rfl 0 (by decide) (htA _ wd198) (fun _ h9 => h9) rfl dV_isFilter_112 ?_
      refine lv_if_eq (tgt := 135) hx hb dV_isFilter_115 (by decide) (fun e1 => ?_) (fun e1 => ?_)
      · have hq1 := bI_eq.mp e1
        refine lv_iconst (v := nI 0) hx hb dV_isFilter_135 (by decide) ?_
        rw [hQ]
        exact W.zret (v := nI 0) (ty := .boolean) hx hb hrt (by first | rfl | exact bI_nar _) (fun t ht hW => ⟨_, rfl, (by show _ = bI (F (cl (nI na)) && (F (cl (nI nb)) && F (cl (nI nc)))); rw [cl_nI (j := na) (by omega), cl_nI (j := nb) (by omega), cl_nI (j := nc) (by omega), hq0, hq1]; rfl), ht⟩) (fun q h => by cases h) dV_isFilter_136
      · have hq1 := bI_ne.mp e1
        refine lv_aload_n hx hb dV_isFilter_118 rfl (lv_at hl 0 rfl) ?_
        refine va_get (D := G) (ci := 3) (v := .ref pa) (C := RV) (T := TV) (N := 4) hx hb htA inV hown hK (ob_P p1) 0 rfl rfl 0 (by decide) (htA _ wd63) (fun _ h9 => h9) rfl dV_isFilter_119 ?_
        refine lv_iload hx hb dV_isFilter_122 (lv_at hl 4 rfl) ?_
        refine pw_aald hx hb hK p2 2 rfl (by omega) (by decide) dV_isFilter_124 ?_
        refine pw_tq (a := po nc) qc ?_
        refine va_get (D := G) (ci := 0) (v := .int (bI (F nc))) (C := RP) (T := TP) (N := 3) hx hb htA inP hown hK (ob_P (p6 nc hc1)) 0 rfl rfl 0 (by decide) (htA _ wd198) (fun _ h9 => h9) rfl dV_isFilter_125 ?_
        refine lv_if_eq (tgt := 135) hx hb dV_isFilter_128 (by decide) (fun e2 => ?_) (fun e2 => ?_)
        · have hq2 := bI_eq.mp e2
          refine lv_iconst (v := nI 0) hx hb dV_isFilter_135 (by decide) ?_
          rw [hQ]
          exact W.zret (v := nI 0) (ty := .boolean) hx hb hrt (by first | rfl | exact bI_nar _) (fun t ht hW => ⟨_, rfl, (by show _ = bI (F (cl (nI na)) && (F (cl (nI nb)) && F (cl (nI nc)))); rw [cl_nI (j := na) (by omega), cl_nI (j := nb) (by omega), cl_nI (j := nc) (by omega), hq0, hq1, hq2]; rfl), ht⟩) (fun q h => by cases h) dV_isFilter_136
        · have hq2 := bI_ne.mp e2
          refine lv_iconst (v := nI 1) hx hb dV_isFilter_131 (by decide) ?_
          refine lv_goto (tgt := 136) hx hb dV_isFilter_132 (by decide) ?_
          rw [hQ]
          exact W.zret (v := nI 1) (ty := .boolean) hx hb hrt (by first | rfl | exact bI_nar _) (fun t ht hW => ⟨_, rfl, (by show _ = bI (F (cl (nI na)) && (F (cl (nI nb)) && F (cl (nI nc)))); rw [cl_nI (j := na) (by omega), cl_nI (j := nb) (by omega), cl_nI (j := nc) (by omega), hq0, hq1, hq2]; rfl), ht⟩) (fun q h => by cases h) dV_isFilter_136

set_option maxRecDepth 100000 in
set_option maxHeartbeats 4000000 in
theorem c_fieldOutcome (l : Launch) (G : va_G) (cA : Nat → ClassId) (O : Nat → Nat → Int64) (j : Nat) (hj : j = 2 ∨ j = 3) (n : Nat) (a b c0 : Int32) (hw : wfN n j a b c0 = true) (y : Nat) (hy : y < 64) : Met l yV_fieldOutcome wsV_fieldOutcome ({ frames := 2, cells := 0, slots := 0, locals := 41 }) (PH G cA [.int (nI j), .int a, .int b, .int (nI y)] (fun H => True)) (vp_Sl (fun r => r = polF j (cl a) (cl b) (cl c0) O y)) 0 0 (fun _ => False) := by
  refine Met.ofW (cc := cV_fieldOutcome) (maxL := 5) (ret := (some .long)) (by decide) rfl ?_
  intro p e s m args below meth c s₁ B hml hv
  obtain ⟨hav, hKN, -⟩ := hv
  have hK := hKN.1
  have hx := B.exec
  have hb := B.bytes
  have hrt := B.returns
  have htA : ∀ w ∈ ALL, w.before args s = true := fun w h => atoms_spec (ws := wsV_fieldOutcome) B.pre w (List.mem_cons_of_mem _ h)
  have hown : s.vm.findClass RV = some m.cls := findClass_of_methodNamed B.named
  have hlocks := B.notSynchronized
  refine pw_nm (fun R Q hR hQ => ?_)
  refine pw_entry (vs := [.int (nI j), .int a, .int b, .int (nI y)]) hav (Nat.le_of_ble_eq_true rfl) (fun ls hl => ?_)
  have hl : lv_has ls 5 [(0, .int (nI j)), (1, .int a), (2, .int b), (3, .int (nI y))] := hl
  have hab : (inb 3 a && inb 4 b) = true := by rcases hj with rfl | rfl <;> exact hw
  obtain ⟨hwa, hwb⟩ := and_t hab
  obtain ⟨na, ha1, rfl⟩ := inb_t (by decide) hwa
  obtain ⟨nb, hb1, rfl⟩ := inb_t (by decide) hwb
  refine lv_iload_n hx hb dV_fieldOutcome_0 rfl (lv_at hl 3 rfl) ?_
  refine lv_iload_n hx hb dV_fieldOutcome_1 rfl (lv_at hl 1 rfl) ?_
  refine vp_callSi (va_Run.run (va_runS (As := [.int (nI y), .int (nI na)]) (rest := []) ⟨hx, hb, hml, hown, htA⟩ (c_valueOf l G cA y hy na ha1) (va_cwS 2 htA (gd_S wd217 wd218 wd26 wd219) rfl rfl rfl (by decide +kernel) (by rw [hR]; exact ⟨Nat.le_of_ble_eq_true rfl, Nat.le_of_ble_eq_true rfl⟩)) (pw_S hKN trivial) rfl rfl hl.1 rfl (lv_room (Nat.le_of_ble_eq_true rfl)) dV_fieldOutcome_2 (by rw [hR]; exact ⟨Nat.le_of_ble_eq_true rfl, Nat.le_of_ble_eq_true rfl⟩))) (fun r1 hr1 => ?_)
  subst hr1
  refine lv_istore (lv' := [(4, .int (nI (vl y na))), (0, .int (nI j)), (1, .int (nI na)), (2, .int (nI nb)), (3, .int (nI y))]) hx hb dV_fieldOutcome_5 hl (by decide) rfl (fun ls hl => ?_)
  refine lv_iload_n hx hb dV_fieldOutcome_7 rfl (lv_at hl 1 rfl) ?_
  refine lv_iconst (v := nI 3) hx hb dV_fieldOutcome_8 (by decide) ?_
  have hv := vl_lt y na
  rcases hj with rfl | rfl
  · refine lv_icmp_ne (tgt := 27) hx hb dV_fieldOutcome_9 (by decide) (fun _ => ?_) (fun c9 => absurd c9 (by decide))
    refine lv_iload hx hb dV_fieldOutcome_27 (lv_at hl 0 rfl) ?_
    refine lv_iload_n hx hb dV_fieldOutcome_29 rfl (lv_at hl 3 rfl) ?_
    refine lv_icmp_ne (tgt := 40) hx hb dV_fieldOutcome_30 (by decide) (fun e1 => ?_) (fun e1 => ?_)
    · have hq : ¬ vl y na = nb := fun q => e1 (by rw [q])
      refine lv_lconst (v := 0) hx hb dV_fieldOutcome_40 rfl ?_
      rw [hQ]
      exact W.lret (v := 0) hx hb hrt (fun t ht hW => ⟨_, rfl, (by show _ = (if vl y (cl (nI na)) = cl (nI nb) then one y else 0); rw [cl_nI (j := na) (by omega), cl_nI (j := nb) (by omega), if_neg hq]), ht⟩) (fun q h => by cases h) dV_fieldOutcome_41
    · have hq : vl y na = nb := (nI_eq (by omega) (by omega)).mp e1
      refine lv_iload_n hx hb dV_fieldOutcome_33 rfl (lv_at hl 4 rfl) ?_
      refine vp_callSl (va_Run.run (va_runS (As := [.int (nI y)]) (rest := []) ⟨hx, hb, hml, hown, htA⟩ (c_only l G cA y) (va_cwS 1 htA (gd_S wd226 wd227 wd26 wd228) rfl rfl rfl (by decide +kernel) (by rw [hR]; exact ⟨Nat.le_of_ble_eq_true rfl, Nat.le_of_ble_eq_true rfl⟩)) (pw_S hKN trivial) rfl rfl hl.1 rfl (lv_room (Nat.le_of_ble_eq_true rfl)) dV_fieldOutcome_34 (by rw [hR]; exact ⟨Nat.le_of_ble_eq_true rfl, Nat.le_of_ble_eq_true rfl⟩))) (fun r2 hr2 => ?_)
      subst hr2
      refine lv_goto (tgt := 41) hx hb dV_fieldOutcome_37 (by decide) ?_
      rw [hQ]
      exact W.lret (v := one y) hx hb hrt (fun t ht hW => ⟨_, rfl, (by show _ = (if vl y (cl (nI na)) = cl (nI nb) then one y else 0); rw [cl_nI (j := na) (by omega), cl_nI (j := nb) (by omega), if_pos hq]), ht⟩) (fun q h => by cases h) dV_fieldOutcome_41
  · refine lv_icmp_ne (tgt := 27) hx hb dV_fieldOutcome_9 (by decide) (fun c9 => absurd rfl c9) (fun _ => ?_)
    refine lv_iload_n hx hb dV_fieldOutcome_12 rfl (lv_at hl 4 rfl) ?_
    refine lv_iload_n hx hb dV_fieldOutcome_13 rfl (lv_at hl 3 rfl) ?_
    refine lv_iload hx hb dV_fieldOutcome_14 (lv_at hl 0 rfl) ?_
    refine lv_isub hx hb dV_fieldOutcome_16 ?_
    refine lv_iload_n hx hb dV_fieldOutcome_17 rfl (lv_at hl 2 rfl) ?_
    refine vp_callSi (va_Run.run (va_runS (As := [.int (nI na)]) (rest := [.int ((nI nb) - (nI (vl y na))), .int (nI y)]) ⟨hx, hb, hml, hown, htA⟩ (c_weightOf l G cA na ha1) (va_cwS 1 htA (gd_S wd223 wd224 wd26 wd225) rfl rfl rfl (by decide +kernel) (by rw [hR]; exact ⟨Nat.le_of_ble_eq_true rfl, Nat.le_of_ble_eq_true rfl⟩)) (pw_S hKN trivial) rfl rfl hl.1 rfl (lv_room (Nat.le_of_ble_eq_true rfl)) dV_fieldOutcome_18 (by rw [hR]; exact ⟨Nat.le_of_ble_eq_true rfl, Nat.le_of_ble_eq_true rfl⟩))) (fun r2 hr2 => ?_)
    subst hr2
    refine lv_imul hx hb dV_fieldOutcome_21 ?_
    refine lv_iadd hx hb dV_fieldOutcome_22 ?_
    refine pw_ti (y := nI (setv y na nb)) (i_setC y hy na ha1 nb hb1) ?_
    refine vp_callSl (va_Run.run (va_runS (As := [.int (nI (setv y na nb))]) (rest := []) ⟨hx, hb, hml, hown, htA⟩ (c_only l G cA (setv y na nb)) (va_cwS 1 htA (gd_S wd226 wd227 wd26 wd228) rfl rfl rfl (by decide +kernel) (by rw [hR]; exact ⟨Nat.le_of_ble_eq_true rfl, Nat.le_of_ble_eq_true rfl⟩)) (pw_S hKN trivial) rfl rfl hl.1 rfl (lv_room (Nat.le_of_ble_eq_true rfl)) dV_fieldOutcome_23 (by rw [hR]; exact ⟨Nat.le_of_ble_eq_true rfl, Nat.le_of_ble_eq_true rfl⟩))) (fun r3 hr3 => ?_)
    subst hr3
    rw [hQ]
    exact W.lret (v := one (setv y na nb)) hx hb hrt (fun t ht hW => ⟨_, rfl, (by show _ = one (setv y (cl (nI na)) (cl (nI nb))); rw [cl_nI (j := na) (by omega), cl_nI (j := nb) (by omega)]), ht⟩) (fun q h => by cases h) dV_fieldOutcome_26

set_option maxRecDepth 100000 in
set_option maxHeartbeats 4000000 in
theorem c_given (l : Launch) (G : va_G) (cA : Nat → ClassId) (x pa rs lo hi0 n : Nat) (F : Nat → Bool) (O : Nat → Nat → Int64) (po oc : Nat → Nat) (tb : Nat → Option Nat) (tc : Nat → Nat × Nat × Nat) (i k : Nat) (hi : i < n) (hk : k < 64) : Met l yV_given wsV_given ({ frames := 0, cells := 0, slots := 0, locals := 0 }) (PH G cA [.ref x, .int (nI i), .int (nI k)] (fun H => pvS G cA x pa rs lo hi0 n F O po oc tb tc H)) (vp_Sl (fun r => r = O i k)) 0 0 (fun _ => False) := by
  refine Met.ofW (cc := cV_given) (maxL := 3) (ret := (some .long)) (by decide) rfl ?_
  intro p e s m args below meth c s₁ B hml hv
  obtain ⟨hav, hKN, hpv⟩ := hv
  have hK := hKN.1
  have hx := B.exec
  have hb := B.bytes
  have hrt := B.returns
  have htA : ∀ w ∈ ALL, w.before args s = true := fun w h => atoms_spec (ws := wsV_given) B.pre w (List.mem_cons_of_mem _ h)
  have hown : s.vm.findClass RV = some m.cls := findClass_of_methodNamed B.named
  have hlocks := B.notSynchronized
  refine pw_nm (fun R Q hR hQ => ?_)
  refine pw_entry (vs := [.ref x, .int (nI i), .int (nI k)]) hav (Nat.le_of_ble_eq_true rfl) (fun ls hl => ?_)
  have hl : lv_has ls 3 [(0, .ref x), (1, .int (nI i)), (2, .int (nI k))] := hl
  have hS0 := hpv
  obtain ⟨p1, p2, p3, p4, p5, p6, p7, p8, p9, p10, p11, p12⟩ := hpv
  refine lv_aload_n hx hb dV_given_0 rfl (lv_at hl 0 rfl) ?_
  refine va_get (D := G) (ci := 3) (v := .ref pa) (C := RV) (T := TV) (N := 4) hx hb htA inV hown hK (ob_P p1) 0 rfl rfl 0 (by decide) (htA _ wd63) (fun _ h9 => h9) rfl dV_given_1 ?_
  refine lv_iload_n hx hb dV_given_4 rfl (lv_at hl 1 rfl) ?_
  refine pw_aald hx hb hK p2 2 rfl (by omega) (by decide) dV_given_5 ?_
  refine pw_tq (a := po i) (by show (if i < n then some (po i) else none) = some (po i); rw [if_pos hi]) ?_
  refine va_get (D := G) (ci := 0) (v := .ref (oc i)) (C := RP) (T := TP) (N := 3) hx hb htA inP hown hK (ob_P (p6 i hi)) 0 rfl rfl 1 (by decide) (htA _ wd200) (fun _ h9 => h9) rfl dV_given_6 ?_
  refine lv_iload_n hx hb dV_given_9 rfl (lv_at hl 2 rfl) ?_
  refine pw_lald hx hb hK (p7 i hi) 0 rfl (by omega) (by decide) dV_given_10 ?_
  rw [hQ]
  exact W.lret (v := (O i) k) hx hb hrt (fun t ht hW => ⟨_, rfl, rfl, ht⟩) (fun q h => by cases h) dV_given_11

set_option maxRecDepth 100000 in
set_option maxHeartbeats 4000000 in
theorem c_joinedOutcome (l : Launch) (G : va_G) (cA : Nat → ClassId) (x pa rs lo hi n : Nat) (F : Nat → Bool) (O : Nat → Nat → Int64) (po oc : Nat → Nat) (tb : Nat → Option Nat) (tc : Nat → Nat × Nat × Nat) (j : Nat) (hj : j < 9) (hj2 : ¬ j = 2) (hj3 : ¬ j = 3) (a b c0 : Int32) (hw : wfN n j a b c0 = true) (y : Nat) (hy : y < 64) : Met l yV_joinedOutcome wsV_joinedOutcome ({ frames := 2, cells := 0, slots := 0, locals := 47 }) (PH G cA [.ref x, .int (nI j), .int a, .int b, .int c0, .int (nI y)] (fun H => pvS G cA x pa rs lo hi n F O po oc tb tc H)) (vp_Sl (fun r => (¬ j = 6 ∧ r = polF j (cl a) (cl b) (cl c0) O y) ∨ (j = 6 ∧ r = one y ||| O (cl a) y))) 0 0 (fun _ => False) := by
  refine Met.ofW (cc := cV_joinedOutcome) (maxL := 6) (ret := (some .long)) (by decide) rfl ?_
  intro p e s m args below meth c s₁ B hml hv
  obtain ⟨hav, hKN, hpv⟩ := hv
  have hK := hKN.1
  have hx := B.exec
  have hb := B.bytes
  have hrt := B.returns
  have htA : ∀ w ∈ ALL, w.before args s = true := fun w h => atoms_spec (ws := wsV_joinedOutcome) B.pre w (List.mem_cons_of_mem _ h)
  have hown : s.vm.findClass RV = some m.cls := findClass_of_methodNamed B.named
  have hlocks := B.notSynchronized
  refine pw_nm (fun R Q hR hQ => ?_)
  refine pw_entry (vs := [.ref x, .int (nI j), .int a, .int b, .int c0, .int (nI y)]) hav (Nat.le_of_ble_eq_true rfl) (fun ls hl => ?_)
  have hl : lv_has ls 6 [(0, .ref x), (1, .int (nI j)), (2, .int a), (3, .int b), (4, .int c0), (5, .int (nI y))] := hl
  have hS0 := hpv
  obtain ⟨p1, p2, p3, p4, p5, p6, p7, p8, p9, p10, p11, p12⟩ := hpv
  refine lv_iload_n hx hb dV_joinedOutcome_0 rfl (lv_at hl 1 rfl) ?_
  have hj9 : j = 0 ∨ j = 1 ∨ j = 2 ∨ j = 3 ∨ j = 4 ∨ j = 5 ∨ j = 6 ∨ j = 7 ∨ j = 8 := by omega
  rcases hj9 with rfl | rfl | rfl | rfl | rfl | rfl | rfl | rfl | rfl
  · refine lv_tableOut (tgt := 157) hx hb dV_joinedOutcome_1 (by decide +kernel) (by decide) ?_
    refine lv_lconst (v := 0) hx hb dV_joinedOutcome_157 rfl ?_
    rw [hQ]
    exact W.lret (v := 0) hx hb hrt (fun t ht hW => ⟨_, rfl, (Or.inl ⟨by decide, rfl⟩), ht⟩) (fun q h => by cases h) dV_joinedOutcome_158
  · refine lv_tableIn (tgt := 48) (off := 47) hx hb dV_joinedOutcome_1 (by decide +kernel) (by decide +kernel) rfl (by decide) ?_
    refine lv_iload hx hb dV_joinedOutcome_48 (lv_at hl 5 rfl) ?_
    refine vp_callSl (va_Run.run (va_runS (As := [.int (nI y)]) (rest := []) ⟨hx, hb, hml, hown, htA⟩ (c_only l G cA y) (va_cwS 1 htA (gd_S wd226 wd227 wd26 wd228) rfl rfl rfl (by decide +kernel) (by rw [hR]; exact ⟨Nat.le_of_ble_eq_true rfl, Nat.le_of_ble_eq_true rfl⟩)) (pw_S hKN trivial) rfl rfl hl.1 rfl (lv_room (Nat.le_of_ble_eq_true rfl)) dV_joinedOutcome_50 (by rw [hR]; exact ⟨Nat.le_of_ble_eq_true rfl, Nat.le_of_ble_eq_true rfl⟩))) (fun r1 hr1 => ?_)
    subst hr1
    rw [hQ]
    exact W.lret (v := one y) hx hb hrt (fun t ht hW => ⟨_, rfl, (Or.inl ⟨by decide, rfl⟩), ht⟩) (fun q h => by cases h) dV_joinedOutcome_53
  · exact absurd rfl hj2
  · exact absurd rfl hj3
  · have hw : (inb n a && inb n b) = true := hw
    obtain ⟨hwa, hwb⟩ := and_t hw
    obtain ⟨na, ha1, rfl⟩ := inb_t (by omega) hwa
    have qa : pvP n po na = some (po na) := by show (if na < n then some (po na) else none) = _; rw [if_pos ha1]
    obtain ⟨nb, hb1, rfl⟩ := inb_t (by omega) hwb
    have qb : pvP n po nb = some (po nb) := by show (if nb < n then some (po nb) else none) = _; rw [if_pos hb1]
    refine lv_tableIn (tgt := 54) (off := 53) hx hb dV_joinedOutcome_1 (by decide +kernel) (by decide +kernel) rfl (by decide) ?_
    refine lv_aload_n hx hb dV_joinedOutcome_54 rfl (lv_at hl 0 rfl) ?_
    refine lv_iload_n hx hb dV_joinedOutcome_55 rfl (lv_at hl 2 rfl) ?_
    refine lv_iload hx hb dV_joinedOutcome_56 (lv_at hl 5 rfl) ?_
    refine vp_callSl (va_Run.run (va_runV (As := [.int (nI na), .int (nI y)]) (rest := []) ⟨hx, hb, hml, hown, htA⟩ (c_given l G cA x pa rs lo hi n F O po oc tb tc na y ha1 hy) (cwV 2 htA (gd_V wd233 wd235 wd6 wd26 wd236) rfl rfl rfl (by decide +kernel) (by rw [hR]; exact ⟨Nat.le_of_ble_eq_true rfl, Nat.le_of_ble_eq_true rfl⟩)) (pw_V (ci := 3) (q := (RV, TV, 4)) hKN p1 rfl hS0) rfl rfl hl.1 rfl (lv_room (Nat.le_of_ble_eq_true rfl)) dV_joinedOutcome_58 (by rw [hR]; exact ⟨Nat.le_of_ble_eq_true rfl, Nat.le_of_ble_eq_true rfl⟩))) (fun r1 hr1 => ?_)
    subst hr1
    refine lv_aload_n hx hb dV_joinedOutcome_61 rfl (lv_at hl 0 rfl) ?_
    refine lv_iload_n hx hb dV_joinedOutcome_62 rfl (lv_at hl 3 rfl) ?_
    refine lv_iload hx hb dV_joinedOutcome_63 (lv_at hl 5 rfl) ?_
    refine vp_callSl (va_Run.run (va_runV (As := [.int (nI nb), .int (nI y)]) (rest := [.long (O na y)]) ⟨hx, hb, hml, hown, htA⟩ (c_given l G cA x pa rs lo hi n F O po oc tb tc nb y hb1 hy) (cwV 2 htA (gd_V wd233 wd235 wd6 wd26 wd236) rfl rfl rfl (by decide +kernel) (by rw [hR]; exact ⟨Nat.le_of_ble_eq_true rfl, Nat.le_of_ble_eq_true rfl⟩)) (pw_V (ci := 3) (q := (RV, TV, 4)) hKN p1 rfl hS0) rfl rfl hl.1 rfl (lv_room (Nat.le_of_ble_eq_true rfl)) dV_joinedOutcome_65 (by rw [hR]; exact ⟨Nat.le_of_ble_eq_true rfl, Nat.le_of_ble_eq_true rfl⟩))) (fun r2 hr2 => ?_)
    subst hr2
    refine lv_lor hx hb dV_joinedOutcome_68 ?_
    rw [hQ]
    exact W.lret (v := (O na y) ||| (O nb y)) hx hb hrt (fun t ht hW => ⟨_, rfl, (Or.inl ⟨by decide, by show _ = O (cl (nI na)) y ||| O (cl (nI nb)) y; rw [cl_nI (j := na) (by omega), cl_nI (j := nb) (by omega)]⟩), ht⟩) (fun q h => by cases h) dV_joinedOutcome_69
  · have hw : (inb n a && inb n b) = true := hw
    obtain ⟨hwa, hwb⟩ := and_t hw
    obtain ⟨na, ha1, rfl⟩ := inb_t (by omega) hwa
    have qa : pvP n po na = some (po na) := by show (if na < n then some (po na) else none) = _; rw [if_pos ha1]
    obtain ⟨nb, hb1, rfl⟩ := inb_t (by omega) hwb
    have qb : pvP n po nb = some (po nb) := by show (if nb < n then some (po nb) else none) = _; rw [if_pos hb1]
    refine lv_tableIn (tgt := 70) (off := 69) hx hb dV_joinedOutcome_1 (by decide +kernel) (by decide +kernel) rfl (by decide) ?_
    refine lv_aload_n hx hb dV_joinedOutcome_70 rfl (lv_at hl 0 rfl) ?_
    refine va_get (D := G) (ci := 3) (v := .ref pa) (C := RV) (T := TV) (N := 4) hx hb htA inV hown hK (ob_P p1) 0 rfl rfl 0 (by decide) (htA _ wd63) (fun _ h9 => h9) rfl dV_joinedOutcome_71 ?_
    refine lv_iload_n hx hb dV_joinedOutcome_74 rfl (lv_at hl 3 rfl) ?_
    refine pw_aald hx hb hK p2 2 rfl (by omega) (by decide) dV_joinedOutcome_75 ?_
    refine pw_tq (a := po nb) qb ?_
    refine va_get (D := G) (ci := 0) (v := .ref (oc nb)) (C := RP) (T := TP) (N := 3) hx hb htA inP hown hK (ob_P (p6 nb hb1)) 0 rfl rfl 1 (by decide) (htA _ wd200) (fun _ h9 => h9) rfl dV_joinedOutcome_76 ?_
    refine lv_aload_n hx hb dV_joinedOutcome_79 rfl (lv_at hl 0 rfl) ?_
    refine lv_iload_n hx hb dV_joinedOutcome_80 rfl (lv_at hl 2 rfl) ?_
    refine lv_iload hx hb dV_joinedOutcome_81 (lv_at hl 5 rfl) ?_
    refine vp_callSl (va_Run.run (va_runV (As := [.int (nI na), .int (nI y)]) (rest := [.ref (oc nb)]) ⟨hx, hb, hml, hown, htA⟩ (c_given l G cA x pa rs lo hi n F O po oc tb tc na y ha1 hy) (cwV 2 htA (gd_V wd233 wd235 wd6 wd26 wd236) rfl rfl rfl (by decide +kernel) (by rw [hR]; exact ⟨Nat.le_of_ble_eq_true rfl, Nat.le_of_ble_eq_true rfl⟩)) (pw_V (ci := 3) (q := (RV, TV, 4)) hKN p1 rfl hS0) rfl rfl hl.1 rfl (lv_room (Nat.le_of_ble_eq_true rfl)) dV_joinedOutcome_83 (by rw [hR]; exact ⟨Nat.le_of_ble_eq_true rfl, Nat.le_of_ble_eq_true rfl⟩))) (fun r1 hr1 => ?_)
    subst hr1
    refine vp_callSl (va_Run.run (va_runS (As := [.ref (oc nb), .long (O na y)]) (rest := []) ⟨hx, hb, hml, hown, htA⟩ (c_givenFor l G cA (oc nb) (O nb) (O na y)) (va_cwS 2 htA (gd_S wd237 wd238 wd26 wd239) rfl rfl rfl (by decide +kernel) (by rw [hR]; exact ⟨Nat.le_of_ble_eq_true rfl, Nat.le_of_ble_eq_true rfl⟩)) (pw_S hKN (p7 nb hb1)) rfl rfl hl.1 rfl (lv_room (Nat.le_of_ble_eq_true rfl)) dV_joinedOutcome_86 (by rw [hR]; exact ⟨Nat.le_of_ble_eq_true rfl, Nat.le_of_ble_eq_true rfl⟩))) (fun r2 hr2 => ?_)
    subst hr2
    rw [hQ]
    exact W.lret (v := gf (O nb) (O na y) 64) hx hb hrt (fun t ht hW => ⟨_, rfl, (Or.inl ⟨by decide, by show _ = gf (O (cl (nI nb))) (O (cl (nI na)) y) 64; rw [cl_nI (j := na) (by omega), cl_nI (j := nb) (by omega)]⟩), ht⟩) (fun q h => by cases h) dV_joinedOutcome_89
  · have hw : inb n a = true := hw
    obtain ⟨na, ha1, rfl⟩ := inb_t (by omega) hw
    have qa : pvP n po na = some (po na) := by show (if na < n then some (po na) else none) = _; rw [if_pos ha1]
    refine lv_tableIn (tgt := 90) (off := 89) hx hb dV_joinedOutcome_1 (by decide +kernel) (by decide +kernel) rfl (by decide) ?_
    refine lv_iload hx hb dV_joinedOutcome_90 (lv_at hl 5 rfl) ?_
    refine vp_callSl (va_Run.run (va_runS (As := [.int (nI y)]) (rest := []) ⟨hx, hb, hml, hown, htA⟩ (c_only l G cA y) (va_cwS 1 htA (gd_S wd226 wd227 wd26 wd228) rfl rfl rfl (by decide +kernel) (by rw [hR]; exact ⟨Nat.le_of_ble_eq_true rfl, Nat.le_of_ble_eq_true rfl⟩)) (pw_S hKN trivial) rfl rfl hl.1 rfl (lv_room (Nat.le_of_ble_eq_true rfl)) dV_joinedOutcome_92 (by rw [hR]; exact ⟨Nat.le_of_ble_eq_true rfl, Nat.le_of_ble_eq_true rfl⟩))) (fun r1 hr1 => ?_)
    subst hr1
    refine lv_aload_n hx hb dV_joinedOutcome_95 rfl (lv_at hl 0 rfl) ?_
    refine lv_iload_n hx hb dV_joinedOutcome_96 rfl (lv_at hl 2 rfl) ?_
    refine lv_iload hx hb dV_joinedOutcome_97 (lv_at hl 5 rfl) ?_
    refine vp_callSl (va_Run.run (va_runV (As := [.int (nI na), .int (nI y)]) (rest := [.long (one y)]) ⟨hx, hb, hml, hown, htA⟩ (c_given l G cA x pa rs lo hi n F O po oc tb tc na y ha1 hy) (cwV 2 htA (gd_V wd233 wd235 wd6 wd26 wd236) rfl rfl rfl (by decide +kernel) (by rw [hR]; exact ⟨Nat.le_of_ble_eq_true rfl, Nat.le_of_ble_eq_true rfl⟩)) (pw_V (ci := 3) (q := (RV, TV, 4)) hKN p1 rfl hS0) rfl rfl hl.1 rfl (lv_room (Nat.le_of_ble_eq_true rfl)) dV_joinedOutcome_99 (by rw [hR]; exact ⟨Nat.le_of_ble_eq_true rfl, Nat.le_of_ble_eq_true rfl⟩))) (fun r2 hr2 => ?_)
    subst hr2
    refine lv_lor hx hb dV_joinedOutcome_102 ?_
    rw [hQ]
    exact W.lret (v := (one y) ||| (O na y)) hx hb hrt (fun t ht hW => ⟨_, rfl, (Or.inr ⟨rfl, by rw [cl_nI (j := na) (by omega)]⟩), ht⟩) (fun q h => by cases h) dV_joinedOutcome_103
  · have hw : inb n a = true := hw
    obtain ⟨na, ha1, rfl⟩ := inb_t (by omega) hw
    have qa : pvP n po na = some (po na) := by show (if na < n then some (po na) else none) = _; rw [if_pos ha1]
    refine lv_tableIn (tgt := 104) (off := 103) hx hb dV_joinedOutcome_1 (by decide +kernel) (by decide +kernel) rfl (by decide) ?_
    refine lv_aload_n hx hb dV_joinedOutcome_104 rfl (lv_at hl 0 rfl) ?_
    refine lv_iload_n hx hb dV_joinedOutcome_105 rfl (lv_at hl 2 rfl) ?_
    refine lv_iload hx hb dV_joinedOutcome_106 (lv_at hl 5 rfl) ?_
    refine vp_callSl (va_Run.run (va_runV (As := [.int (nI na), .int (nI y)]) (rest := []) ⟨hx, hb, hml, hown, htA⟩ (c_given l G cA x pa rs lo hi n F O po oc tb tc na y ha1 hy) (cwV 2 htA (gd_V wd233 wd235 wd6 wd26 wd236) rfl rfl rfl (by decide +kernel) (by rw [hR]; exact ⟨Nat.le_of_ble_eq_true rfl, Nat.le_of_ble_eq_true rfl⟩)) (pw_V (ci := 3) (q := (RV, TV, 4)) hKN p1 rfl hS0) rfl rfl hl.1 rfl (lv_room (Nat.le_of_ble_eq_true rfl)) dV_joinedOutcome_108 (by rw [hR]; exact ⟨Nat.le_of_ble_eq_true rfl, Nat.le_of_ble_eq_true rfl⟩))) (fun r1 hr1 => ?_)
    subst hr1
    refine lv_lconst (v := 0) hx hb dV_joinedOutcome_111 rfl ?_
    refine W.lcmp hx hb dV_joinedOutcome_112 ?_
    refine lv_if_ne (tgt := 124) hx hb dV_joinedOutcome_113 (by decide) (fun e1 => ?_) (fun e1 => ?_)
    · have hq : ¬ O na y = 0 := fun q => e1 ((cmp0 _ _).mpr q)
      refine lv_lconst (v := 0) hx hb dV_joinedOutcome_124 rfl ?_
      rw [hQ]
      exact W.lret (v := 0) hx hb hrt (fun t ht hW => ⟨_, rfl, (Or.inl ⟨by decide, by show _ = (if O (cl (nI na)) y = 0 then one y else 0); rw [cl_nI (j := na) (by omega), if_neg hq]⟩), ht⟩) (fun q h => by cases h) dV_joinedOutcome_125
    · have hq := (cmp0 _ _).mp e1
      refine lv_iload hx hb dV_joinedOutcome_116 (lv_at hl 5 rfl) ?_
      refine vp_callSl (va_Run.run (va_runS (As := [.int (nI y)]) (rest := []) ⟨hx, hb, hml, hown, htA⟩ (c_only l G cA y) (va_cwS 1 htA (gd_S wd226 wd227 wd26 wd228) rfl rfl rfl (by decide +kernel) (by rw [hR]; exact ⟨Nat.le_of_ble_eq_true rfl, Nat.le_of_ble_eq_true rfl⟩)) (pw_S hKN trivial) rfl rfl hl.1 rfl (lv_room (Nat.le_of_ble_eq_true rfl)) dV_joinedOutcome_118 (by rw [hR]; exact ⟨Nat.le_of_ble_eq_true rfl, Nat.le_of_ble_eq_true rfl⟩))) (fun r2 hr2 => ?_)
      subst hr2
      refine lv_goto (tgt := 125) hx hb dV_joinedOutcome_121 (by decide) ?_
      rw [hQ]
      exact W.lret (v := one y) hx hb hrt (fun t ht hW => ⟨_, rfl, (Or.inl ⟨by decide, by show _ = (if O (cl (nI na)) y = 0 then one y else 0); rw [cl_nI (j := na) (by omega), if_pos hq]⟩), ht⟩) (fun q h => by cases h) dV_joinedOutcome_125
  · have hw : (inb n a && (inb n b && inb n c0)) = true := hw
    obtain ⟨hwa, hw2⟩ := and_t hw
    obtain ⟨hwb, hwc⟩ := and_t hw2
    obtain ⟨na, ha1, rfl⟩ := inb_t (by omega) hwa
    have qa : pvP n po na = some (po na) := by show (if na < n then some (po na) else none) = _; rw [if_pos ha1]
    obtain ⟨nb, hb1, rfl⟩ := inb_t (by omega) hwb
    have qb : pvP n po nb = some (po nb) := by show (if nb < n then some (po nb) else none) = _; rw [if_pos hb1]
    obtain ⟨nc, hc1, rfl⟩ := inb_t (by omega) hwc
    have qc : pvP n po nc = some (po nc) := by show (if nc < n then some (po nc) else none) = _; rw [if_pos hc1]
    refine lv_tableIn (tgt := 126) (off := 125) hx hb dV_joinedOutcome_1 (by decide +kernel) (by decide +kernel) rfl (by decide) ?_
    refine lv_aload_n hx hb dV_joinedOutcome_126 rfl (lv_at hl 0 rfl) ?_
    refine lv_iload_n hx hb dV_joinedOutcome_127 rfl (lv_at hl 2 rfl) ?_
    refine lv_iload hx hb dV_joinedOutcome_128 (lv_at hl 5 rfl) ?_
    refine vp_callSl (va_Run.run (va_runV (As := [.int (nI na), .int (nI y)]) (rest := []) ⟨hx, hb, hml, hown, htA⟩ (c_given l G cA x pa rs lo hi n F O po oc tb tc na y ha1 hy) (cwV 2 htA (gd_V wd233 wd235 wd6 wd26 wd236) rfl rfl rfl (by decide +kernel) (by rw [hR]; exact ⟨Nat.le_of_ble_eq_true rfl, Nat.le_of_ble_eq_true rfl⟩)) (pw_V (ci := 3) (q := (RV, TV, 4)) hKN p1 rfl hS0) rfl rfl hl.1 rfl (lv_room (Nat.le_of_ble_eq_true rfl)) dV_joinedOutcome_130 (by rw [hR]; exact ⟨Nat.le_of_ble_eq_true rfl, Nat.le_of_ble_eq_true rfl⟩))) (fun r1 hr1 => ?_)
    subst hr1
    refine lv_lconst (v := 0) hx hb dV_joinedOutcome_133 rfl ?_
    refine W.lcmp hx hb dV_joinedOutcome_134 ?_
    refine lv_if_eq (tgt := 148) hx hb dV_joinedOutcome_135 (by decide) (fun e1 => ?_) (fun e1 => ?_)
    · have hq := (cmp0 _ _).mp e1
      refine lv_aload_n hx hb dV_joinedOutcome_148 rfl (lv_at hl 0 rfl) ?_
      refine lv_iload hx hb dV_joinedOutcome_149 (lv_at hl 4 rfl) ?_
      refine lv_iload hx hb dV_joinedOutcome_151 (lv_at hl 5 rfl) ?_
      refine vp_callSl (va_Run.run (va_runV (As := [.int (nI nc), .int (nI y)]) (rest := []) ⟨hx, hb, hml, hown, htA⟩ (c_given l G cA x pa rs lo hi n F O po oc tb tc nc y hc1 hy) (cwV 2 htA (gd_V wd233 wd235 wd6 wd26 wd236) rfl rfl rfl (by decide +kernel) (by rw [hR]; exact ⟨Nat.le_of_ble_eq_true rfl, Nat.le_of_ble_eq_true rfl⟩)) (pw_V (ci := 3) (q := (RV, TV, 4)) hKN p1 rfl hS0) rfl rfl hl.1 rfl (lv_room (Nat.le_of_ble_eq_true rfl)) dV_joinedOutcome_153 (by rw [hR]; exact ⟨Nat.le_of_ble_eq_true rfl, Nat.le_of_ble_eq_true rfl⟩))) (fun r2 hr2 => ?_)
      subst hr2
      rw [hQ]
      exact W.lret (v := O nc y) hx hb hrt (fun t ht hW => ⟨_, rfl, (Or.inl ⟨by decide, by show _ = (if O (cl (nI na)) y = 0 then O (cl (nI nc)) y else O (cl (nI nb)) y); rw [cl_nI (j := na) (by omega), cl_nI (j := nb) (by omega), cl_nI (j := nc) (by omega), if_pos hq]⟩), ht⟩) (fun q h => by cases h) dV_joinedOutcome_156
    · have hq : ¬ O na y = 0 := fun q => e1 ((cmp0 _ _).mpr q)
      refine lv_aload_n hx hb dV_joinedOutcome_138 rfl (lv_at hl 0 rfl) ?_
      refine lv_iload_n hx hb dV_joinedOutcome_139 rfl (lv_at hl 3 rfl) ?_
      refine lv_iload hx hb dV_joinedOutcome_140 (lv_at hl 5 rfl) ?_
      refine vp_callSl (va_Run.run (va_runV (As := [.int (nI nb), .int (nI y)]) (rest := []) ⟨hx, hb, hml, hown, htA⟩ (c_given l G cA x pa rs lo hi n F O po oc tb tc nb y hb1 hy) (cwV 2 htA (gd_V wd233 wd235 wd6 wd26 wd236) rfl rfl rfl (by decide +kernel) (by rw [hR]; exact ⟨Nat.le_of_ble_eq_true rfl, Nat.le_of_ble_eq_true rfl⟩)) (pw_V (ci := 3) (q := (RV, TV, 4)) hKN p1 rfl hS0) rfl rfl hl.1 rfl (lv_room (Nat.le_of_ble_eq_true rfl)) dV_joinedOutcome_142 (by rw [hR]; exact ⟨Nat.le_of_ble_eq_true rfl, Nat.le_of_ble_eq_true rfl⟩))) (fun r2 hr2 => ?_)
      subst hr2
      refine lv_goto (tgt := 156) hx hb dV_joinedOutcome_145 (by decide) ?_
      rw [hQ]
      exact W.lret (v := O nb y) hx hb hrt (fun t ht hW => ⟨_, rfl, (Or.inl ⟨by decide, by show _ = (if O (cl (nI na)) y = 0 then O (cl (nI nc)) y else O (cl (nI nb)) y); rw [cl_nI (j := na) (by omega), cl_nI (j := nb) (by omega), cl_nI (j := nc) (by omega), if_neg hq]⟩), ht⟩) (fun q h => by cases h) dV_joinedOutcome_156

set_option maxRecDepth 100000 in
set_option maxHeartbeats 4000000 in
theorem c_isNew (l : Launch) (G : va_G) (cA : Nat → ClassId) (x pa rs lo hi n : Nat) (F : Nat → Bool) (O : Nat → Nat → Int64) (po oc : Nat → Nat) (tb : Nat → Option Nat) (tc : Nat → Nat × Nat × Nat) (a : Nat) (g : Nat → Int64) : Met l yV_isNew wsV_isNew ({ frames := 1, cells := 0, slots := 0, locals := 22 }) (PH G cA [.ref x, .ref a] (fun H => (pvS G cA x pa rs lo hi n F O po oc tb tc H ∧ al (cA 0) a 64 g H))) (vp_Si (fun r => ((∀ j, j < n → eqO (O j) g = false) ∧ r = 1) ∨ ((∃ j, j < n ∧ eqO (O j) g = true) ∧ r = 0))) 0 0 (fun _ => False) := by
  refine Met.ofW (cc := cV_isNew) (maxL := 3) (ret := (some .boolean)) (by decide) rfl ?_
  intro p e s m args below meth c s₁ B hml hv
  obtain ⟨hav, hKN, hpv, hal⟩ := hv
  have hK := hKN.1
  have hx := B.exec
  have hb := B.bytes
  have hrt := B.returns
  have htA : ∀ w ∈ ALL, w.before args s = true := fun w h => atoms_spec (ws := wsV_isNew) B.pre w (List.mem_cons_of_mem _ h)
  have hown : s.vm.findClass RV = some m.cls := findClass_of_methodNamed B.named
  have hlocks := B.notSynchronized
  refine pw_nm (fun R Q hR hQ => ?_)
  refine pw_entry (vs := [.ref x, .ref a]) hav (Nat.le_of_ble_eq_true rfl) (fun ls hl => ?_)
  have hl : lv_has ls 3 [(0, .ref x), (1, .ref a)] := hl
  have hS0 := hpv
  obtain ⟨p1, p2, p3, p4, p5, p6, p7, p8, p9, p10, p11, p12⟩ := hpv
  refine lv_iconst (v := nI 0) hx hb dV_isNew_0 (by decide) ?_
  refine lv_istore_n (lv' := [(2, .int (nI 0)), (0, .ref x), (1, .ref a)]) hx hb dV_isNew_1 rfl hl (by decide) rfl (fun ls hl => ?_)
  have lp : ∀ (k i : Nat), i + k = n → (∀ j, j < i → eqO (O j) g = false) → ∀ ls : Array Slot, lv_has ls 3 [(0, .ref x), (1, .ref a), (2, .int (nI i))] → W p l e R s m args below meth c s.heap ([]) 0 0 Q (F0 m 2 ls []) := by
    intro k
    induction k with
    | zero =>
      intro i hik hinv ls hl
      have hi : i = n := by omega
      subst hi
      refine lv_iload_n hx hb dV_isNew_2 rfl (lv_at hl 2 rfl) ?_
      refine lv_aload_n hx hb dV_isNew_3 rfl (lv_at hl 0 rfl) ?_
      refine va_get (D := G) (ci := 3) (v := .int (nI i)) (C := RV) (T := TV) (N := 4) hx hb htA inV hown hK (ob_P p1) 0 rfl rfl 2 (by decide) (htA _ wd65) (fun _ h9 => h9) rfl dV_isNew_4 ?_
      refine lv_icmp_ge (tgt := 35) hx hb dV_isNew_7 (by decide) (fun _ => ?_) (fun c9 => absurd (Int32.le_refl _) c9)
      refine lv_iconst (v := nI 1) hx hb dV_isNew_35 (by decide) ?_
      rw [hQ]
      exact W.zret (v := nI 1) (ty := .boolean) hx hb hrt (by first | rfl | exact bI_nar _) (fun t ht hW => ⟨_, rfl, (Or.inl ⟨hinv, rfl⟩), ht⟩) (fun q h => by cases h) dV_isNew_36
    | succ k ih =>
      intro i hik hinv ls hl
      have hi9 : i < n := by omega
      refine lv_iload_n hx hb dV_isNew_2 rfl (lv_at hl 2 rfl) ?_
      refine lv_aload_n hx hb dV_isNew_3 rfl (lv_at hl 0 rfl) ?_
      refine va_get (D := G) (ci := 3) (v := .int (nI n)) (C := RV) (T := TV) (N := 4) hx hb htA inV hown hK (ob_P p1) 0 rfl rfl 2 (by decide) (htA _ wd65) (fun _ h9 => h9) rfl dV_isNew_4 ?_
      refine lv_icmp_ge (tgt := 35) hx hb dV_isNew_7 (by decide) (fun c9 => absurd c9 (nI_ge hi9 (by omega))) (fun _ => ?_)
      refine lv_aload_n hx hb dV_isNew_10 rfl (lv_at hl 0 rfl) ?_
      refine va_get (D := G) (ci := 3) (v := .ref pa) (C := RV) (T := TV) (N := 4) hx hb htA inV hown hK (ob_P p1) 0 rfl rfl 0 (by decide) (htA _ wd63) (fun _ h9 => h9) rfl dV_isNew_11 ?_
      refine lv_iload_n hx hb dV_isNew_14 rfl (lv_at hl 2 rfl) ?_
      refine pw_aald hx hb hK p2 2 rfl (by omega) (by decide) dV_isNew_15 ?_
      refine pw_tq (a := po i) (by show (if i < n then some (po i) else none) = some (po i); rw [if_pos hi9]) ?_
      refine va_get (D := G) (ci := 0) (v := .ref (oc i)) (C := RP) (T := TP) (N := 3) hx hb htA inP hown hK (ob_P (p6 i hi9)) 0 rfl rfl 1 (by decide) (htA _ wd200) (fun _ h9 => h9) rfl dV_isNew_16 ?_
      refine lv_aload_n hx hb dV_isNew_19 rfl (lv_at hl 1 rfl) ?_
      refine vp_callSi (va_Run.run (va_runS (As := [.ref (oc i), .ref a]) (rest := []) ⟨hx, hb, hml, hown, htA⟩ (c_leastDifference l G cA (oc i) a (O i) g) (va_cwS 2 htA (gd_S wd254 wd255 wd26 wd256) rfl rfl rfl (by decide +kernel) (by rw [hR]; exact ⟨Nat.le_of_ble_eq_true rfl, Nat.le_of_ble_eq_true rfl⟩)) (pw_S hKN ⟨p7 i hi9, hal⟩) rfl rfl hl.1 rfl (lv_room (Nat.le_of_ble_eq_true rfl)) dV_isNew_20 (by rw [hR]; exact ⟨Nat.le_of_ble_eq_true rfl, Nat.le_of_ble_eq_true rfl⟩))) (fun r1 hr1 => ?_)
      rcases hr1 with ⟨kp, hk, hap, rfl⟩ | ⟨hap, rfl⟩
      · refine lv_iconst (v := (-1)) hx hb dV_isNew_23 (by decide) ?_
        refine lv_icmp_ne (tgt := 29) hx hb dV_isNew_24 (by decide) (fun _ => ?_) (fun c9 => absurd c9 (fun e9 => by have := congrArg Int32.toInt e9; rw [nI_toInt (by omega)] at this; exact absurd this (by have : (-1 : Int32).toInt = -1 := (by decide); omega)))
        have hq : eqO (O i) g = false := ts_nt (fun q => by have := (apR_eq hap).mpr q; omega)
        refine lv_iinc (v := nI (i + 1)) (lv' := [(2, .int (nI (i + 1))), (0, .ref x), (1, .ref a)]) hx hb dV_isNew_29 hl (k := 2) rfl (nI_1 i) (by decide) rfl (fun ls hl => ?_)
        refine lv_goto (tgt := 2) hx hb dV_isNew_32 (by decide) ?_
        exact ih (i + 1) (by omega) (lt_s hinv hq) ls (lv_sub hl [1, 2, 0] rfl)
      · refine lv_iconst (v := (-1)) hx hb dV_isNew_23 (by decide) ?_
        refine lv_icmp_ne (tgt := 29) hx hb dV_isNew_24 (by decide) (fun c9 => absurd rfl c9) (fun _ => ?_)
        refine lv_iconst (v := nI 0) hx hb dV_isNew_27 (by decide) ?_
        rw [hQ]
        exact W.zret (v := nI 0) (ty := .boolean) hx hb hrt (by first | rfl | exact bI_nar _) (fun t ht hW => ⟨_, rfl, (Or.inr ⟨⟨i, hi9, (apR_eq hap).mp rfl⟩, rfl⟩), ht⟩) (fun q h => by cases h) dV_isNew_28
  exact lp (n) 0 (by omega) lt_0 ls (lv_sub hl [1, 2, 0] rfl)
