set_option maxRecDepth 100000 in
set_option maxHeartbeats 4000000 in
theorem m_in (l : Launch) (G : va_G) (cA : Nat → ClassId) (v lo hi : Int32) : Met l yM_in wsM_in ({ frames := 0, cells := 0, slots := 0, locals := 0 }) (PH G cA [.int v, .int lo, .int hi] (fun H => True)) (vp_Si (fun r => r = bI (decide (lo ≤ v) && decide (v ≤ hi)))) 0 0 (fun _ => False) := by
  refine Met.ofW (cc := cM_in) (maxL := 3) (ret := (some .boolean)) (by decide) rfl ?_
  intro p e s m args below meth c s₁ B hml hv
  obtain ⟨hav, hKN, -⟩ := hv
  have hK := hKN.1
  have hx := B.exec
  have hb := B.bytes
  have hrt := B.returns
  have htA : ∀ w ∈ ALL, w.before args s = true := fun w h => atoms_spec (ws := wsM_in) B.pre w (List.mem_cons_of_mem _ h)
  have hown : s.vm.findClass RM = some m.cls := findClass_of_methodNamed B.named
  have hlocks := B.notSynchronized
  refine pw_nm (fun R Q hR hQ => ?_)
  refine pw_entry (vs := [.int v, .int lo, .int hi]) hav (Nat.le_of_ble_eq_true rfl) (fun ls hl => ?_)
  have hl : lv_has ls 3 [(0, .int v), (1, .int lo), (2, .int hi)] := hl
  refine lv_iload_n hx hb dM_in_0 rfl (lv_at hl 0 rfl) ?_
  refine lv_iload_n hx hb dM_in_1 rfl (lv_at hl 1 rfl) ?_
  refine lv_icmp_lt (tgt := 14) hx hb dM_in_2 (by decide) (fun c1 => ?_) (fun c1 => ?_)
  · refine lv_iconst (v := nI 0) hx hb dM_in_14 (by decide) ?_
    rw [hQ]
    exact W.zret (v := nI 0) (ty := .boolean) hx hb hrt (by first | rfl | exact bI_nar _) (fun t ht hW => ⟨_, rfl, (by rw [decide_eq_false (Int32.not_le.mpr c1)]; rfl), ht⟩) (fun q h => by cases h) dM_in_15
  · refine lv_iload_n hx hb dM_in_5 rfl (lv_at hl 0 rfl) ?_
    refine lv_iload_n hx hb dM_in_6 rfl (lv_at hl 2 rfl) ?_
    refine lv_icmp_gt (tgt := 14) hx hb dM_in_7 (by decide) (fun c2 => ?_) (fun c2 => ?_)
    · refine lv_iconst (v := nI 0) hx hb dM_in_14 (by decide) ?_
      rw [hQ]
      exact W.zret (v := nI 0) (ty := .boolean) hx hb hrt (by first | rfl | exact bI_nar _) (fun t ht hW => ⟨_, rfl, (by rw [decide_eq_false (Int32.not_le.mpr c2), Bool.and_false]; rfl), ht⟩) (fun q h => by cases h) dM_in_15
    · refine lv_iconst (v := nI 1) hx hb dM_in_10 (by decide) ?_
      refine lv_goto (tgt := 15) hx hb dM_in_11 (by decide) ?_
      rw [hQ]
      exact W.zret (v := nI 1) (ty := .boolean) hx hb hrt (by first | rfl | exact bI_nar _) (fun t ht hW => ⟨_, rfl, (by rw [decide_eq_true (Int32.not_lt.mp c1), decide_eq_true (Int32.not_lt.mp c2)]; rfl), ht⟩) (fun q h => by cases h) dM_in_15

set_option maxRecDepth 100000 in
set_option maxHeartbeats 4000000 in
theorem m_made (l : Launch) (G : va_G) (cA : Nat → ClassId) (mo n : Nat) (fs : List Value) (v : Int32) (hf3 : fs[3]? = some (.int (nI n))) (hn : n < 1073741824) : Met l yM_made wsM_made ({ frames := 1, cells := 0, slots := 0, locals := 22 }) (PH G cA [.ref mo, .int v] (fun H => ob G 4 mo fs H)) (vp_Si (fun r => r = bI (inb n v))) 0 0 (fun _ => False) := by
  refine Met.ofW (cc := cM_made) (maxL := 2) (ret := (some .boolean)) (by decide) rfl ?_
  intro p e s m args below meth c s₁ B hml hv
  obtain ⟨hav, hKN, hob⟩ := hv
  have hK := hKN.1
  have hx := B.exec
  have hb := B.bytes
  have hrt := B.returns
  have htA : ∀ w ∈ ALL, w.before args s = true := fun w h => atoms_spec (ws := wsM_made) B.pre w (List.mem_cons_of_mem _ h)
  have hown : s.vm.findClass RM = some m.cls := findClass_of_methodNamed B.named
  have hlocks := B.notSynchronized
  refine pw_nm (fun R Q hR hQ => ?_)
  refine pw_entry (vs := [.ref mo, .int v]) hav (Nat.le_of_ble_eq_true rfl) (fun ls hl => ?_)
  have hl : lv_has ls 2 [(0, .ref mo), (1, .int v)] := hl
  refine lv_iload_n hx hb dM_made_0 rfl (lv_at hl 1 rfl) ?_
  refine lv_iconst (v := nI 0) hx hb dM_made_1 (by decide) ?_
  refine lv_aload_n hx hb dM_made_2 rfl (lv_at hl 0 rfl) ?_
  refine va_get (D := G) (ci := 4) (v := .int (nI n)) (C := RM) (T := TM) (N := 8) hx hb htA inM hown hK (ob_P hob) 0 rfl rfl 3 (by decide) (htA _ wd438) (fun _ h9 => h9) hf3 dM_made_3 ?_
  refine lv_iconst (v := nI 1) hx hb dM_made_6 (by decide) ?_
  refine lv_isub hx hb dM_made_7 ?_
  refine vp_callSi (va_Run.run (va_runS (As := [.int v, .int (nI 0), .int ((nI n) - (nI 1))]) (rest := []) ⟨hx, hb, hml, hown, htA⟩ (m_in l G cA v (nI 0) (nI n - nI 1)) (va_cwS 3 htA (gd_S wd473 wd474 wd28 wd475) rfl rfl rfl (by decide +kernel) (by rw [hR]; exact ⟨Nat.le_of_ble_eq_true rfl, Nat.le_of_ble_eq_true rfl⟩)) (pw_S hKN trivial) rfl rfl hl.1 rfl (lv_room (Nat.le_of_ble_eq_true rfl)) dM_made_8 (by rw [hR]; exact ⟨Nat.le_of_ble_eq_true rfl, Nat.le_of_ble_eq_true rfl⟩))) (fun r1 hr1 => ?_)
  subst hr1
  refine pw_ti (y := bI (inb n v)) (by rw [in_made v n hn]) ?_
  rw [hQ]
  exact W.zret (v := bI (inb n v)) (ty := .boolean) hx hb hrt (by first | rfl | exact bI_nar _) (fun t ht hW => ⟨_, rfl, rfl, ht⟩) (fun q h => by cases h) dM_made_11

set_option maxRecDepth 100000 in
set_option maxHeartbeats 4000000 in
theorem m_value (l : Launch) (G : va_G) (cA : Nat → ClassId) (x : Nat) (hx0 : x < 64) (a : Nat) (ha : a < 3) : Met l yM_value wsM_value ({ frames := 0, cells := 0, slots := 0, locals := 0 }) (PH G cA [.int (nI x), .int (nI a)] (fun H => True)) (vp_Si (fun r => r = nI (vl x a))) 0 0 (fun _ => False) := by
  refine Met.ofW (cc := cM_value) (maxL := 2) (ret := (some .int)) (by decide) rfl ?_
  intro p e s m args below meth c s₁ B hml hv
  obtain ⟨hav, hKN, -⟩ := hv
  have hK := hKN.1
  have hx := B.exec
  have hb := B.bytes
  have hrt := B.returns
  have htA : ∀ w ∈ ALL, w.before args s = true := fun w h => atoms_spec (ws := wsM_value) B.pre w (List.mem_cons_of_mem _ h)
  have hown : s.vm.findClass RM = some m.cls := findClass_of_methodNamed B.named
  have hlocks := B.notSynchronized
  refine pw_nm (fun R Q hR hQ => ?_)
  refine pw_entry (vs := [.int (nI x), .int (nI a)]) hav (Nat.le_of_ble_eq_true rfl) (fun ls hl => ?_)
  have hl : lv_has ls 2 [(0, .int (nI x)), (1, .int (nI a))] := hl
  refine lv_iload_n hx hb dM_value_0 rfl (lv_at hl 0 rfl) ?_
  refine lv_iconst (v := nI 4) hx hb dM_value_1 (by decide) ?_
  refine lv_iconst (v := nI 2) hx hb dM_value_2 (by decide) ?_
  refine lv_iload_n hx hb dM_value_3 rfl (lv_at hl 1 rfl) ?_
  refine lv_imul hx hb dM_value_4 ?_
  refine lv_isub hx hb dM_value_5 ?_
  refine lv_ishr hx hb dM_value_6 ?_
  refine lv_iconst (v := nI 3) hx hb dM_value_7 (by decide) ?_
  refine lv_iand hx hb dM_value_8 ?_
  rw [hQ]
  exact W.iret (v := ((nI x) >>> (((nI 4) - ((nI 2) * (nI a))) &&& 31)) &&& (nI 3)) hx hb hrt (fun t ht hW => ⟨_, rfl, (i_valM x hx0 a ha), ht⟩) (fun q h => by cases h) dM_value_9

set_option maxRecDepth 100000 in
set_option maxHeartbeats 4000000 in
theorem m_with (l : Launch) (G : va_G) (cA : Nat → ClassId) (x : Nat) (hx0 : x < 64) (a : Nat) (ha : a < 3) (b : Nat) (hb0 : b < 4) : Met l yM_with wsM_with ({ frames := 1, cells := 0, slots := 0, locals := 21 }) (PH G cA [.int (nI x), .int (nI a), .int (nI b)] (fun H => True)) (vp_Si (fun r => r = nI (setv x a b))) 0 0 (fun _ => False) := by
  refine Met.ofW (cc := cM_with) (maxL := 3) (ret := (some .int)) (by decide) rfl ?_
  intro p e s m args below meth c s₁ B hml hv
  obtain ⟨hav, hKN, -⟩ := hv
  have hK := hKN.1
  have hx := B.exec
  have hb := B.bytes
  have hrt := B.returns
  have htA : ∀ w ∈ ALL, w.before args s = true := fun w h => atoms_spec (ws := wsM_with) B.pre w (List.mem_cons_of_mem _ h)
  have hown : s.vm.findClass RM = some m.cls := findClass_of_methodNamed B.named
  have hlocks := B.notSynchronized
  refine pw_nm (fun R Q hR hQ => ?_)
  refine pw_entry (vs := [.int (nI x), .int (nI a), .int (nI b)]) hav (Nat.le_of_ble_eq_true rfl) (fun ls hl => ?_)
  have hl : lv_has ls 3 [(0, .int (nI x)), (1, .int (nI a)), (2, .int (nI b))] := hl
  refine lv_iload_n hx hb dM_with_0 rfl (lv_at hl 0 rfl) ?_
  refine lv_iload_n hx hb dM_with_1 rfl (lv_at hl 2 rfl) ?_
  refine lv_iload_n hx hb dM_with_2 rfl (lv_at hl 0 rfl) ?_
  refine lv_iload_n hx hb dM_with_3 rfl (lv_at hl 1 rfl) ?_
  refine vp_callSi (va_Run.run (va_runS (As := [.int (nI x), .int (nI a)]) (rest := [.int (nI b), .int (nI x)]) ⟨hx, hb, hml, hown, htA⟩ (m_value l G cA x hx0 a ha) (va_cwS 2 htA (gd_S wd488 wd489 wd28 wd490) rfl rfl rfl (by decide +kernel) (by rw [hR]; exact ⟨Nat.le_of_ble_eq_true rfl, Nat.le_of_ble_eq_true rfl⟩)) (pw_S hKN trivial) rfl rfl hl.1 rfl (lv_room (Nat.le_of_ble_eq_true rfl)) dM_with_4 (by rw [hR]; exact ⟨Nat.le_of_ble_eq_true rfl, Nat.le_of_ble_eq_true rfl⟩))) (fun r1 hr1 => ?_)
  subst hr1
  refine lv_isub hx hb dM_with_7 ?_
  refine lv_iconst (v := nI 4) hx hb dM_with_8 (by decide) ?_
  refine lv_iconst (v := nI 2) hx hb dM_with_9 (by decide) ?_
  refine lv_iload_n hx hb dM_with_10 rfl (lv_at hl 1 rfl) ?_
  refine lv_imul hx hb dM_with_11 ?_
  refine lv_isub hx hb dM_with_12 ?_
  refine lv_ishl hx hb dM_with_13 ?_
  refine lv_iadd hx hb dM_with_14 ?_
  rw [hQ]
  exact W.iret (v := (nI x) + (((nI b) - (nI (vl x a))) <<< (((nI 4) - ((nI 2) * (nI a))) &&& 31))) hx hb hrt (fun t ht hW => ⟨_, rfl, (i_setM x hx0 a ha b hb0), ht⟩) (fun q h => by cases h) dM_with_15

set_option maxRecDepth 100000 in
set_option maxHeartbeats 4000000 in
theorem m_all (l : Launch) (G : va_G) (cA : Nat → ClassId) (mo ao : Nat) (fs : List Value) (fo : Nat → Int64) (a : Nat) (z : Int64) (hf1 : fs[1]? = some (.ref ao)) (ha : a < 50) : Met l yM_all wsM_all ({ frames := 0, cells := 0, slots := 0, locals := 0 }) (PH G cA [.ref mo, .int (nI a), .long z] (fun H => (ob G 4 mo fs H ∧ al (cA 0) ao 3200 fo H))) (vp_Sl (fun r => r = gf (fun k => fo (64 * a + k)) z 64)) 0 0 (fun _ => False) := by
  refine Met.ofW (cc := cM_all) (maxL := 7) (ret := (some .long)) (by decide) rfl ?_
  intro p e s m args below meth c s₁ B hml hv
  obtain ⟨hav, hKN, hob, hal⟩ := hv
  have hK := hKN.1
  have hx := B.exec
  have hb := B.bytes
  have hrt := B.returns
  have htA : ∀ w ∈ ALL, w.before args s = true := fun w h => atoms_spec (ws := wsM_all) B.pre w (List.mem_cons_of_mem _ h)
  have hown : s.vm.findClass RM = some m.cls := findClass_of_methodNamed B.named
  have hlocks := B.notSynchronized
  refine pw_nm (fun R Q hR hQ => ?_)
  refine pw_entry (vs := [.ref mo, .int (nI a), .long z]) hav (Nat.le_of_ble_eq_true rfl) (fun ls hl => ?_)
  have hl : lv_has ls 7 [(0, .ref mo), (1, .int (nI a)), (2, .long z)] := hl
  refine lv_lconst (v := 0) hx hb dM_all_0 rfl ?_
  refine lv_lstore (lv' := [(4, .long 0), (0, .ref mo), (1, .int (nI a)), (2, .long z)]) hx hb dM_all_1 hl (by decide) rfl (fun ls hl => ?_)
  refine lv_iconst (v := nI 0) hx hb dM_all_3 (by decide) ?_
  refine lv_istore (lv' := [(6, .int (nI 0)), (4, .long 0), (0, .ref mo), (1, .int (nI a)), (2, .long z)]) hx hb dM_all_4 hl (by decide) rfl (fun ls hl => ?_)
  have lp : ∀ (k i : Nat), i + k = 64 → ∀ ls : Array Slot, lv_has ls 7 [(0, .ref mo), (1, .int (nI a)), (2, .long z), (4, .long (gf (fun k => fo (64 * a + k)) z i)), (6, .int (nI i))] → W p l e R s m args below meth c s.heap ([]) 0 0 Q (F0 m 6 ls []) := by
    intro k
    induction k with
    | zero =>
      intro i hik ls hl
      have hi : i = 64 := by omega
      subst hi
      refine lv_iload hx hb dM_all_6 (lv_at hl 4 rfl) ?_
      refine lv_bipush (v := nI 64) hx hb dM_all_8 (by decide) ?_
      refine lv_icmp_ge (tgt := 47) hx hb dM_all_10 (by decide) (fun _ => ?_) (fun c9 => absurd (Int32.le_refl _) c9)
      refine lv_lload hx hb dM_all_47 (lv_at hl 3 rfl) ?_
      rw [hQ]
      exact W.lret (v := gf (fun k => fo (64 * a + k)) z 64) hx hb hrt (fun t ht hW => ⟨_, rfl, rfl, ht⟩) (fun q h => by cases h) dM_all_49
    | succ k ih =>
      intro i hik ls hl
      have hi : i < 64 := by omega
      refine lv_iload hx hb dM_all_6 (lv_at hl 4 rfl) ?_
      refine lv_bipush (v := nI 64) hx hb dM_all_8 (by decide) ?_
      refine lv_icmp_ge (tgt := 47) hx hb dM_all_10 (by decide) (fun c9 => absurd c9 (nI_ge hi (by decide))) (fun _ => ?_)
      refine lv_lload_n hx hb dM_all_13 rfl (lv_at hl 2 rfl) ?_
      refine lv_iload hx hb dM_all_14 (lv_at hl 4 rfl) ?_
      refine lv_lshr hx hb dM_all_16 rfl ?_
      refine lv_lconst (v := 1) hx hb dM_all_17 rfl ?_
      refine lv_land hx hb dM_all_18 ?_
      refine lv_lconst (v := 0) hx hb dM_all_19 rfl ?_
      refine W.lcmp hx hb dM_all_20 ?_
      refine lv_if_eq (tgt := 41) hx hb dM_all_21 (by decide) (fun c1 => ?_) (fun c1 => ?_)
      · have hq : hbit z i = false := (hb_sshr z hi).mp ((cmp0 _ _).mp c1)
        have hg : gf (fun k => fo (64 * a + k)) z i = gf (fun k => fo (64 * a + k)) z (i + 1) := by show _ = (if hbit z i = true then _ else _); rw [if_neg (by rw [hq]; decide)]
        rw [hg] at hl
        refine lv_iinc (v := nI (i + 1)) (lv' := [(6, .int (nI (i + 1))), (0, .ref mo), (1, .int (nI a)), (2, .long z), (4, .long (gf (fun k => fo (64 * a + k)) z (i + 1)))]) hx hb dM_all_41 hl (k := 4) rfl (nI_1 i) (by decide) rfl (fun ls hl => ?_)
        refine lv_goto (tgt := 6) hx hb dM_all_44 (by decide) ?_
        exact ih (i + 1) (by omega) ls (lv_sub hl [1, 2, 3, 4, 0] rfl)
      · have hq : hbit z i = true := ts_nf (fun hz => c1 ((cmp0 _ _).mpr ((hb_sshr z hi).mpr hz)))
        refine lv_lload hx hb dM_all_24 (lv_at hl 3 rfl) ?_
        refine lv_aload_n hx hb dM_all_26 rfl (lv_at hl 0 rfl) ?_
        refine va_get (D := G) (ci := 4) (v := .ref ao) (C := RM) (T := TM) (N := 8) hx hb htA inM hown hK (ob_P hob) 0 rfl rfl 1 (by decide) (htA _ wd436) (fun _ h9 => h9) hf1 dM_all_27 ?_
        refine lv_bipush (v := nI 64) hx hb dM_all_30 (by decide) ?_
        refine lv_iload_n hx hb dM_all_32 rfl (lv_at hl 1 rfl) ?_
        refine lv_imul hx hb dM_all_33 ?_
        refine pw_ti (y := nI (64 * a)) (pk_mul _ _) ?_
        refine lv_iload hx hb dM_all_34 (lv_at hl 4 rfl) ?_
        refine lv_iadd hx hb dM_all_36 ?_
        refine pw_ti (y := nI ((64 * a) + i)) (nI_add _ _) ?_
        refine pw_lald hx hb hK hal 0 rfl (by omega) (by decide) dM_all_37 ?_
        refine lv_lor hx hb dM_all_38 ?_
        refine pw_tl (y := gf (fun k => fo (64 * a + k)) z (i + 1)) (by show _ = (if hbit z i = true then _ else _); rw [if_pos hq]) ?_
        refine lv_lstore (lv' := [(4, .long (gf (fun k => fo (64 * a + k)) z (i + 1))), (0, .ref mo), (1, .int (nI a)), (2, .long z), (6, .int (nI i))]) hx hb dM_all_39 hl (by decide) rfl (fun ls hl => ?_)
        refine lv_iinc (v := nI (i + 1)) (lv' := [(6, .int (nI (i + 1))), (4, .long (gf (fun k => fo (64 * a + k)) z (i + 1))), (0, .ref mo), (1, .int (nI a)), (2, .long z)]) hx hb dM_all_41 hl (k := 4) rfl (nI_1 i) (by decide) rfl (fun ls hl => ?_)
        refine lv_goto (tgt := 6) hx hb dM_all_44 (by decide) ?_
        exact ih (i + 1) (by omega) ls (lv_sub hl [2, 3, 4, 1, 0] rfl)
  exact lp (64) 0 (by omega) ls (lv_sub hl [2, 3, 4, 1, 0] rfl)

set_option maxRecDepth 100000 in
set_option maxHeartbeats 4000000 in
theorem m_star (l : Launch) (G : va_G) (cA : Nat → ClassId) (mo ao : Nat) (fs : List Value) (fo : Nat → Int64) (a x : Nat) (hf1 : fs[1]? = some (.ref ao)) (ha : a < 50) : Met l yM_star wsM_star ({ frames := 1, cells := 0, slots := 0, locals := 26 }) (PH G cA [.ref mo, .int (nI a), .int (nI x)] (fun H => (ob G 4 mo fs H ∧ al (cA 0) ao 3200 fo H))) (vp_Sl (fun r => r = st (fun k => fo (64 * a + k)) x 64)) 0 0 (fun _ => False) := by
  refine Met.ofW (cc := cM_star) (maxL := 6) (ret := (some .long)) (by decide) rfl ?_
  intro p e s m args below meth c s₁ B hml hv
  obtain ⟨hav, hKN, hob, hal⟩ := hv
  have hK := hKN.1
  have hx := B.exec
  have hb := B.bytes
  have hrt := B.returns
  have htA : ∀ w ∈ ALL, w.before args s = true := fun w h => atoms_spec (ws := wsM_star) B.pre w (List.mem_cons_of_mem _ h)
  have hown : s.vm.findClass RM = some m.cls := findClass_of_methodNamed B.named
  have hlocks := B.notSynchronized
  refine pw_nm (fun R Q hR hQ => ?_)
  refine pw_entry (vs := [.ref mo, .int (nI a), .int (nI x)]) hav (Nat.le_of_ble_eq_true rfl) (fun ls hl => ?_)
  have hl : lv_has ls 6 [(0, .ref mo), (1, .int (nI a)), (2, .int (nI x))] := hl
  refine lv_lconst (v := 1) hx hb dM_star_0 rfl ?_
  refine lv_iload_n hx hb dM_star_1 rfl (lv_at hl 2 rfl) ?_
  refine lv_lshl hx hb dM_star_2 rfl ?_
  refine pw_tl (y := st (fun k => fo (64 * a + k)) x 0) rfl ?_
  refine lv_lstore_n (lv' := [(3, .long (st (fun k => fo (64 * a + k)) x 0)), (0, .ref mo), (1, .int (nI a)), (2, .int (nI x))]) hx hb dM_star_3 rfl hl (by decide) rfl (fun ls hl => ?_)
  refine lv_iconst (v := nI 0) hx hb dM_star_4 (by decide) ?_
  refine lv_istore (lv' := [(5, .int (nI 0)), (3, .long (st (fun k => fo (64 * a + k)) x 0)), (0, .ref mo), (1, .int (nI a)), (2, .int (nI x))]) hx hb dM_star_5 hl (by decide) rfl (fun ls hl => ?_)
  have lp : ∀ (k i : Nat), i + k = 64 → ∀ ls : Array Slot, lv_has ls 6 [(0, .ref mo), (1, .int (nI a)), (3, .long (st (fun k => fo (64 * a + k)) x i)), (5, .int (nI i))] → W p l e R s m args below meth c s.heap ([]) 0 0 Q (F0 m 7 ls []) := by
    intro k
    induction k with
    | zero =>
      intro i hik ls hl
      have hi : i = 64 := by omega
      subst hi
      refine lv_iload hx hb dM_star_7 (lv_at hl 3 rfl) ?_
      refine lv_bipush (v := nI 64) hx hb dM_star_9 (by decide) ?_
      refine lv_icmp_ge (tgt := 29) hx hb dM_star_11 (by decide) (fun _ => ?_) (fun c9 => absurd (Int32.le_refl _) c9)
      refine lv_lload_n hx hb dM_star_29 rfl (lv_at hl 2 rfl) ?_
      rw [hQ]
      exact W.lret (v := st (fun k => fo (64 * a + k)) x 64) hx hb hrt (fun t ht hW => ⟨_, rfl, rfl, ht⟩) (fun q h => by cases h) dM_star_30
    | succ k ih =>
      intro i hik ls hl
      have hi : i < 64 := by omega
      refine lv_iload hx hb dM_star_7 (lv_at hl 3 rfl) ?_
      refine lv_bipush (v := nI 64) hx hb dM_star_9 (by decide) ?_
      refine lv_icmp_ge (tgt := 29) hx hb dM_star_11 (by decide) (fun c9 => absurd c9 (nI_ge hi (by decide))) (fun _ => ?_)
      refine lv_lload_n hx hb dM_star_14 rfl (lv_at hl 2 rfl) ?_
      refine lv_aload_n hx hb dM_star_15 rfl (lv_at hl 0 rfl) ?_
      refine lv_iload_n hx hb dM_star_16 rfl (lv_at hl 1 rfl) ?_
      refine lv_lload_n hx hb dM_star_17 rfl (lv_at hl 2 rfl) ?_
      refine vp_callSl (va_Run.run (va_runV (As := [.int (nI a), .long (st (fun k => fo (64 * a + k)) x i)]) (rest := [.long (st (fun k => fo (64 * a + k)) x i)]) ⟨hx, hb, hml, hown, htA⟩ (m_all l G cA mo ao fs fo a (st (fun k => fo (64 * a + k)) x i) hf1 ha) (cwV 2 htA (gd_V wd494 wd496 wd18 wd28 wd497) rfl rfl rfl (by decide +kernel) (by rw [hR]; exact ⟨Nat.le_of_ble_eq_true rfl, Nat.le_of_ble_eq_true rfl⟩)) (pw_V (ci := 4) (q := (RM, TM, 8)) hKN hob rfl ⟨hob, hal⟩) rfl rfl hl.1 rfl (lv_room (Nat.le_of_ble_eq_true rfl)) dM_star_18 (by rw [hR]; exact ⟨Nat.le_of_ble_eq_true rfl, Nat.le_of_ble_eq_true rfl⟩))) (fun r1 hr1 => ?_)
      subst hr1
      refine lv_lor hx hb dM_star_21 ?_
      refine pw_tl (y := st (fun k => fo (64 * a + k)) x (i + 1)) rfl ?_
      refine lv_lstore_n (lv' := [(3, .long (st (fun k => fo (64 * a + k)) x (i + 1))), (0, .ref mo), (1, .int (nI a)), (5, .int (nI i))]) hx hb dM_star_22 rfl hl (by decide) rfl (fun ls hl => ?_)
      refine lv_iinc (v := nI (i + 1)) (lv' := [(5, .int (nI (i + 1))), (3, .long (st (fun k => fo (64 * a + k)) x (i + 1))), (0, .ref mo), (1, .int (nI a))]) hx hb dM_star_23 hl (k := 3) rfl (nI_1 i) (by decide) rfl (fun ls hl => ?_)
      refine lv_goto (tgt := 7) hx hb dM_star_26 (by decide) ?_
      exact ih (i + 1) (by omega) ls (lv_sub hl [2, 3, 1, 0] rfl)
  exact lp (64) 0 (by omega) ls (lv_sub hl [2, 3, 1, 0] rfl)

set_option maxRecDepth 100000 in
set_option maxHeartbeats 4000000 in
theorem m_apart (l : Launch) (G : va_G) (cA : Nat → ClassId) (mo ao : Nat) (fs : List Value) (fo : Nat → Int64) (a b : Nat) (hf1 : fs[1]? = some (.ref ao)) (ha : a < 50) (hb0 : b < 50) : Met l yM_apart wsM_apart ({ frames := 0, cells := 0, slots := 0, locals := 0 }) (PH G cA [.ref mo, .int (nI a), .int (nI b)] (fun H => (ob G 4 mo fs H ∧ al (cA 0) ao 3200 fo H))) (vp_Si (fun r => ∃ k, apR (fun k => fo (64 * a + k)) (fun k => fo (64 * b + k)) k ∧ r = nI k)) 0 0 (fun _ => False) := by
  refine Met.ofW (cc := cM_apart) (maxL := 4) (ret := (some .int)) (by decide) rfl ?_
  intro p e s m args below meth c s₁ B hml hv
  obtain ⟨hav, hKN, hob, hal⟩ := hv
  have hK := hKN.1
  have hx := B.exec
  have hb := B.bytes
  have hrt := B.returns
  have htA : ∀ w ∈ ALL, w.before args s = true := fun w h => atoms_spec (ws := wsM_apart) B.pre w (List.mem_cons_of_mem _ h)
  have hown : s.vm.findClass RM = some m.cls := findClass_of_methodNamed B.named
  have hlocks := B.notSynchronized
  refine pw_nm (fun R Q hR hQ => ?_)
  refine pw_entry (vs := [.ref mo, .int (nI a), .int (nI b)]) hav (Nat.le_of_ble_eq_true rfl) (fun ls hl => ?_)
  have hl : lv_has ls 4 [(0, .ref mo), (1, .int (nI a)), (2, .int (nI b))] := hl
  refine lv_iconst (v := nI 0) hx hb dM_apart_0 (by decide) ?_
  refine lv_istore_n (lv' := [(3, .int (nI 0)), (0, .ref mo), (1, .int (nI a)), (2, .int (nI b))]) hx hb dM_apart_1 rfl hl (by decide) rfl (fun ls hl => ?_)
  have lp : ∀ (k i : Nat), i + k = 64 → (∀ j, j < i → fo (64 * a + j) = fo (64 * b + j)) → ∀ ls : Array Slot, lv_has ls 4 [(0, .ref mo), (1, .int (nI a)), (2, .int (nI b)), (3, .int (nI i))] → W p l e R s m args below meth c s.heap ([]) 0 0 Q (F0 m 2 ls []) := by
    intro k
    induction k with
    | zero =>
      intro i hik hinv ls hl
      have hi : i = 64 := by omega
      subst hi
      refine lv_iload_n hx hb dM_apart_2 rfl (lv_at hl 3 rfl) ?_
      refine lv_bipush (v := nI 64) hx hb dM_apart_3 (by decide) ?_
      refine lv_icmp_ge (tgt := 40) hx hb dM_apart_5 (by decide) (fun _ => ?_) (fun c9 => absurd (Int32.le_refl _) c9)
      refine lv_iload_n hx hb dM_apart_40 rfl (lv_at hl 3 rfl) ?_
      rw [hQ]
      exact W.iret (v := nI 64) hx hb hrt (fun t ht hW => ⟨_, rfl, ⟨64, ⟨Nat.le_refl _, hinv, fun h => absurd h (Nat.lt_irrefl _)⟩, rfl⟩, ht⟩) (fun q h => by cases h) dM_apart_41
    | succ k ih =>
      intro i hik hinv ls hl
      have hi : i < 64 := by omega
      refine lv_iload_n hx hb dM_apart_2 rfl (lv_at hl 3 rfl) ?_
      refine lv_bipush (v := nI 64) hx hb dM_apart_3 (by decide) ?_
      refine lv_icmp_ge (tgt := 40) hx hb dM_apart_5 (by decide) (fun c9 => absurd c9 (nI_ge hi (by decide))) (fun _ => ?_)
      refine lv_aload_n hx hb dM_apart_8 rfl (lv_at hl 0 rfl) ?_
      refine va_get (D := G) (ci := 4) (v := .ref ao) (C := RM) (T := TM) (N := 8) hx hb htA inM hown hK (ob_P hob) 0 rfl rfl 1 (by decide) (htA _ wd436) (fun _ h9 => h9) hf1 dM_apart_9 ?_
      refine lv_bipush (v := nI 64) hx hb dM_apart_12 (by decide) ?_
      refine lv_iload_n hx hb dM_apart_14 rfl (lv_at hl 1 rfl) ?_
      refine lv_imul hx hb dM_apart_15 ?_
      refine pw_ti (y := nI (64 * a)) (pk_mul _ _) ?_
      refine lv_iload_n hx hb dM_apart_16 rfl (lv_at hl 3 rfl) ?_
      refine lv_iadd hx hb dM_apart_17 ?_
      refine pw_ti (y := nI ((64 * a) + i)) (nI_add _ _) ?_
      refine pw_lald hx hb hK hal 0 rfl (by omega) (by decide) dM_apart_18 ?_
      refine lv_aload_n hx hb dM_apart_19 rfl (lv_at hl 0 rfl) ?_
      refine va_get (D := G) (ci := 4) (v := .ref ao) (C := RM) (T := TM) (N := 8) hx hb htA inM hown hK (ob_P hob) 0 rfl rfl 1 (by decide) (htA _ wd436) (fun _ h9 => h9) hf1 dM_apart_20 ?_
      refine lv_bipush (v := nI 64) hx hb dM_apart_23 (by decide) ?_
      refine lv_iload_n hx hb dM_apart_25 rfl (lv_at hl 2 rfl) ?_
      refine lv_imul hx hb dM_apart_26 ?_
      refine pw_ti (y := nI (64 * b)) (pk_mul _ _) ?_
      refine lv_iload_n hx hb dM_apart_27 rfl (lv_at hl 3 rfl) ?_
      refine lv_iadd hx hb dM_apart_28 ?_
      refine pw_ti (y := nI ((64 * b) + i)) (nI_add _ _) ?_
      refine pw_lald hx hb hK hal 0 rfl (by omega) (by decide) dM_apart_29 ?_
      refine W.lcmp hx hb dM_apart_30 ?_
      refine lv_if_ne (tgt := 40) hx hb dM_apart_31 (by decide) (fun c1 => ?_) (fun c1 => ?_)
      · have hq : ¬ fo (64 * a + i) = fo (64 * b + i) := fun q => c1 ((cmp0 _ _).mpr q)
        refine lv_iload_n hx hb dM_apart_40 rfl (lv_at hl 3 rfl) ?_
        rw [hQ]
        exact W.iret (v := nI i) hx hb hrt (fun t ht hW => ⟨_, rfl, ⟨i, ⟨by omega, hinv, fun _ => hq⟩, rfl⟩, ht⟩) (fun q h => by cases h) dM_apart_41
      · have hq : fo (64 * a + i) = fo (64 * b + i) := (cmp0 _ _).mp c1
        refine lv_iinc (v := nI (i + 1)) (lv' := [(3, .int (nI (i + 1))), (0, .ref mo), (1, .int (nI a)), (2, .int (nI b))]) hx hb dM_apart_34 hl (k := 3) rfl (nI_1 i) (by decide) rfl (fun ls hl => ?_)
        refine lv_goto (tgt := 2) hx hb dM_apart_37 (by decide) ?_
        exact ih (i + 1) (by omega) (lt_s hinv hq) ls (lv_sub hl [1, 2, 3, 0] rfl)
  exact lp (64) 0 (by omega) lt_0 ls (lv_sub hl [1, 2, 3, 0] rfl)

set_option maxRecDepth 100000 in
set_option maxHeartbeats 4000000 in
theorem m_action (l : Launch) (G : va_G) (cA : Nat → ClassId) (x : Nat) (hx0 : x < 64) (r : Nat) (hr0 : r < 64) : Met l yM_action wsM_action ({ frames := 1, cells := 0, slots := 0, locals := 21 }) (PH G cA [.int (nI x), .int (nI r)] (fun H => True)) (vp_Si (fun v => v = nI (act x r))) 0 0 (fun _ => False) := by
  refine Met.ofW (cc := cM_action) (maxL := 4) (ret := (some .int)) (by decide) rfl ?_
  intro p e s m args below meth c s₁ B hml hv
  obtain ⟨hav, hKN, -⟩ := hv
  have hK := hKN.1
  have hx := B.exec
  have hb := B.bytes
  have hrt := B.returns
  have htA : ∀ w ∈ ALL, w.before args s = true := fun w h => atoms_spec (ws := wsM_action) B.pre w (List.mem_cons_of_mem _ h)
  have hown : s.vm.findClass RM = some m.cls := findClass_of_methodNamed B.named
  have hlocks := B.notSynchronized
  refine pw_nm (fun R Q hR hQ => ?_)
  refine pw_entry (vs := [.int (nI x), .int (nI r)]) hav (Nat.le_of_ble_eq_true rfl) (fun ls hl => ?_)
  have hl : lv_has ls 4 [(0, .int (nI x)), (1, .int (nI r))] := hl
  refine lv_iconst (v := nI 0) hx hb dM_action_0 (by decide) ?_
  refine lv_istore_n (lv' := [(2, .int (nI 0)), (0, .int (nI x)), (1, .int (nI r))]) hx hb dM_action_1 rfl hl (by decide) rfl (fun ls hl => ?_)
  refine lv_iconst (v := nI 0) hx hb dM_action_2 (by decide) ?_
  refine lv_istore_n (lv' := [(3, .int (nI 0)), (2, .int (nI 0)), (0, .int (nI x)), (1, .int (nI r))]) hx hb dM_action_3 rfl hl (by decide) rfl (fun ls hl => ?_)
  have lp : ∀ (k i : Nat), i + k = 3 → ∀ ls : Array Slot, lv_has ls 4 [(0, .int (nI x)), (1, .int (nI r)), (2, .int (nI (ac x r i))), (3, .int (nI i))] → W p l e R s m args below meth c s.heap ([]) 0 0 Q (F0 m 4 ls []) := by
    intro k
    induction k with
    | zero =>
      intro i hik ls hl
      have hi : i = 3 := by omega
      subst hi
      refine lv_iload_n hx hb dM_action_4 rfl (lv_at hl 3 rfl) ?_
      refine lv_iconst (v := nI 3) hx hb dM_action_5 (by decide) ?_
      refine lv_icmp_ge (tgt := 42) hx hb dM_action_6 (by decide) (fun _ => ?_) (fun c9 => absurd (Int32.le_refl _) c9)
      refine lv_iload_n hx hb dM_action_42 rfl (lv_at hl 2 rfl) ?_
      rw [hQ]
      exact W.iret (v := nI (ac x r 3)) hx hb hrt (fun t ht hW => ⟨_, rfl, rfl, ht⟩) (fun q h => by cases h) dM_action_43
    | succ k ih =>
      intro i hik ls hl
      have hi : i < 3 := by omega
      refine lv_iload_n hx hb dM_action_4 rfl (lv_at hl 3 rfl) ?_
      refine lv_iconst (v := nI 3) hx hb dM_action_5 (by decide) ?_
      refine lv_icmp_ge (tgt := 42) hx hb dM_action_6 (by decide) (fun c9 => absurd c9 (nI_ge hi (by decide))) (fun _ => ?_)
      refine lv_iconst (v := nI 5) hx hb dM_action_9 (by decide) ?_
      refine lv_iload_n hx hb dM_action_10 rfl (lv_at hl 2 rfl) ?_
      refine lv_imul hx hb dM_action_11 ?_
      refine pw_ti (y := nI (5 * (ac x r i))) (pk_mul _ _) ?_
      refine lv_iload_n hx hb dM_action_12 rfl (lv_at hl 0 rfl) ?_
      refine lv_iload_n hx hb dM_action_13 rfl (lv_at hl 3 rfl) ?_
      refine vp_callSi (va_Run.run (va_runS (As := [.int (nI x), .int (nI i)]) (rest := [.int (nI (5 * (ac x r i)))]) ⟨hx, hb, hml, hown, htA⟩ (m_value l G cA x hx0 i hi) (va_cwS 2 htA (gd_S wd488 wd489 wd28 wd490) rfl rfl rfl (by decide +kernel) (by rw [hR]; exact ⟨Nat.le_of_ble_eq_true rfl, Nat.le_of_ble_eq_true rfl⟩)) (pw_S hKN trivial) rfl rfl hl.1 rfl (lv_room (Nat.le_of_ble_eq_true rfl)) dM_action_14 (by rw [hR]; exact ⟨Nat.le_of_ble_eq_true rfl, Nat.le_of_ble_eq_true rfl⟩))) (fun r1 hr1 => ?_)
      subst hr1
      refine lv_iload_n hx hb dM_action_17 rfl (lv_at hl 1 rfl) ?_
      refine lv_iload_n hx hb dM_action_18 rfl (lv_at hl 3 rfl) ?_
      refine vp_callSi (va_Run.run (va_runS (As := [.int (nI r), .int (nI i)]) (rest := [.int (nI (vl x i)), .int (nI (5 * (ac x r i)))]) ⟨hx, hb, hml, hown, htA⟩ (m_value l G cA r hr0 i hi) (va_cwS 2 htA (gd_S wd488 wd489 wd28 wd490) rfl rfl rfl (by decide +kernel) (by rw [hR]; exact ⟨Nat.le_of_ble_eq_true rfl, Nat.le_of_ble_eq_true rfl⟩)) (pw_S hKN trivial) rfl rfl hl.1 rfl (lv_room (Nat.le_of_ble_eq_true rfl)) dM_action_19 (by rw [hR]; exact ⟨Nat.le_of_ble_eq_true rfl, Nat.le_of_ble_eq_true rfl⟩))) (fun r2 hr2 => ?_)
      subst hr2
      have hv1 := vl_lt x i
      have hv2 := vl_lt r i
      refine lv_icmp_ne (tgt := 29) hx hb dM_action_22 (by decide) (fun c1 => ?_) (fun c1 => ?_)
      · have hq : ¬ vl r i = vl x i := fun q => c1 (by rw [q])
        refine lv_iload_n hx hb dM_action_29 rfl (lv_at hl 1 rfl) ?_
        refine lv_iload_n hx hb dM_action_30 rfl (lv_at hl 3 rfl) ?_
        refine vp_callSi (va_Run.run (va_runS (As := [.int (nI r), .int (nI i)]) (rest := [.int (nI (5 * (ac x r i)))]) ⟨hx, hb, hml, hown, htA⟩ (m_value l G cA r hr0 i hi) (va_cwS 2 htA (gd_S wd488 wd489 wd28 wd490) rfl rfl rfl (by decide +kernel) (by rw [hR]; exact ⟨Nat.le_of_ble_eq_true rfl, Nat.le_of_ble_eq_true rfl⟩)) (pw_S hKN trivial) rfl rfl hl.1 rfl (lv_room (Nat.le_of_ble_eq_true rfl)) dM_action_31 (by rw [hR]; exact ⟨Nat.le_of_ble_eq_true rfl, Nat.le_of_ble_eq_true rfl⟩))) (fun r3 hr3 => ?_)
        subst hr3
        refine lv_iadd hx hb dM_action_34 ?_
        refine pw_ti (y := nI ((5 * (ac x r i)) + (vl r i))) (nI_add _ _) ?_
        refine pw_ti (y := nI (ac x r (i + 1))) (by show _ = nI (ac x r i * 5 + (if vl r i = vl x i then 4 else vl r i)); rw [if_neg hq, Nat.mul_comm]) ?_
        refine lv_istore_n (lv' := [(2, .int (nI (ac x r (i + 1)))), (0, .int (nI x)), (1, .int (nI r)), (3, .int (nI i))]) hx hb dM_action_35 rfl hl (by decide) rfl (fun ls hl => ?_)
        refine lv_iinc (v := nI (i + 1)) (lv' := [(3, .int (nI (i + 1))), (2, .int (nI (ac x r (i + 1)))), (0, .int (nI x)), (1, .int (nI r))]) hx hb dM_action_36 hl (k := 3) rfl (nI_1 i) (by decide) rfl (fun ls hl => ?_)
        refine lv_goto (tgt := 4) hx hb dM_action_39 (by decide) ?_
        exact ih (i + 1) (by omega) ls (lv_sub hl [2, 3, 1, 0] rfl)
      · have hq : vl r i = vl x i := ((nI_eq (by omega) (by omega)).mp c1).symm
        refine lv_iconst (v := nI 4) hx hb dM_action_25 (by decide) ?_
        refine lv_goto (tgt := 34) hx hb dM_action_26 (by decide) ?_
        refine lv_iadd hx hb dM_action_34 ?_
        refine pw_ti (y := nI ((5 * (ac x r i)) + 4)) (nI_add _ _) ?_
        refine pw_ti (y := nI (ac x r (i + 1))) (by show _ = nI (ac x r i * 5 + (if vl r i = vl x i then 4 else vl r i)); rw [if_pos hq, Nat.mul_comm]) ?_
        refine lv_istore_n (lv' := [(2, .int (nI (ac x r (i + 1)))), (0, .int (nI x)), (1, .int (nI r)), (3, .int (nI i))]) hx hb dM_action_35 rfl hl (by decide) rfl (fun ls hl => ?_)
        refine lv_iinc (v := nI (i + 1)) (lv' := [(3, .int (nI (i + 1))), (2, .int (nI (ac x r (i + 1)))), (0, .int (nI x)), (1, .int (nI r))]) hx hb dM_action_36 hl (k := 3) rfl (nI_1 i) (by decide) rfl (fun ls hl => ?_)
        refine lv_goto (tgt := 4) hx hb dM_action_39 (by decide) ?_
        exact ih (i + 1) (by omega) ls (lv_sub hl [2, 3, 1, 0] rfl)
  exact lp (3) 0 (by omega) ls (lv_sub hl [2, 3, 1, 0] rfl)

set_option maxRecDepth 100000 in
set_option maxHeartbeats 4000000 in
theorem m_ones (l : Launch) (G : va_G) (cA : Nat → ClassId) (z : Int64) : Met l yM_ones wsM_ones ({ frames := 0, cells := 0, slots := 0, locals := 0 }) (PH G cA [.long z] (fun H => True)) (vp_Si (fun v => v = nI (cd z 64))) 0 0 (fun _ => False) := by
  refine Met.ofW (cc := cM_ones) (maxL := 4) (ret := (some .int)) (by decide) rfl ?_
  intro p e s m args below meth c s₁ B hml hv
  obtain ⟨hav, hKN, -⟩ := hv
  have hK := hKN.1
  have hx := B.exec
  have hb := B.bytes
  have hrt := B.returns
  have htA : ∀ w ∈ ALL, w.before args s = true := fun w h => atoms_spec (ws := wsM_ones) B.pre w (List.mem_cons_of_mem _ h)
  have hown : s.vm.findClass RM = some m.cls := findClass_of_methodNamed B.named
  have hlocks := B.notSynchronized
  refine pw_nm (fun R Q hR hQ => ?_)
  refine pw_entry (vs := [.long z]) hav (Nat.le_of_ble_eq_true rfl) (fun ls hl => ?_)
  have hl : lv_has ls 4 [(0, .long z)] := hl
  refine lv_iconst (v := nI 0) hx hb dM_ones_0 (by decide) ?_
  refine lv_istore_n (lv' := [(2, .int (nI 0)), (0, .long z)]) hx hb dM_ones_1 rfl hl (by decide) rfl (fun ls hl => ?_)
  refine lv_iconst (v := nI 0) hx hb dM_ones_2 (by decide) ?_
  refine lv_istore_n (lv' := [(3, .int (nI 0)), (2, .int (nI 0)), (0, .long z)]) hx hb dM_ones_3 rfl hl (by decide) rfl (fun ls hl => ?_)
  have lp : ∀ (k i : Nat), i + k = 64 → ∀ ls : Array Slot, lv_has ls 4 [(0, .long z), (2, .int (nI (cd z i))), (3, .int (nI i))] → W p l e R s m args below meth c s.heap ([]) 0 0 Q (F0 m 4 ls []) := by
    intro k
    induction k with
    | zero =>
      intro i hik ls hl
      have hi : i = 64 := by omega
      subst hi
      refine lv_iload_n hx hb dM_ones_4 rfl (lv_at hl 2 rfl) ?_
      refine lv_bipush (v := nI 64) hx hb dM_ones_5 (by decide) ?_
      refine lv_icmp_ge (tgt := 29) hx hb dM_ones_7 (by decide) (fun _ => ?_) (fun c9 => absurd (Int32.le_refl _) c9)
      refine lv_iload_n hx hb dM_ones_29 rfl (lv_at hl 1 rfl) ?_
      rw [hQ]
      exact W.iret (v := nI (cd z 64)) hx hb hrt (fun t ht hW => ⟨_, rfl, rfl, ht⟩) (fun q h => by cases h) dM_ones_30
    | succ k ih =>
      intro i hik ls hl
      have hi : i < 64 := by omega
      refine lv_iload_n hx hb dM_ones_4 rfl (lv_at hl 2 rfl) ?_
      refine lv_bipush (v := nI 64) hx hb dM_ones_5 (by decide) ?_
      refine lv_icmp_ge (tgt := 29) hx hb dM_ones_7 (by decide) (fun c9 => absurd c9 (nI_ge hi (by decide))) (fun _ => ?_)
      refine lv_lload_n hx hb dM_ones_10 rfl (lv_at hl 0 rfl) ?_
      refine lv_iload_n hx hb dM_ones_11 rfl (lv_at hl 2 rfl) ?_
      refine lv_lshr hx hb dM_ones_12 rfl ?_
      refine lv_lconst (v := 1) hx hb dM_ones_13 rfl ?_
      refine lv_land hx hb dM_ones_14 ?_
      refine lv_lconst (v := 0) hx hb dM_ones_15 rfl ?_
      refine W.lcmp hx hb dM_ones_16 ?_
      refine lv_if_eq (tgt := 23) hx hb dM_ones_17 (by decide) (fun c1 => ?_) (fun c1 => ?_)
      · have hq : hbit z i = false := (hb_sshr z hi).mp ((cmp0 _ _).mp c1)
        have hg : cd z i = cd z (i + 1) := by show _ = cd z i + (if hbit z i = true then 1 else 0); rw [if_neg (by rw [hq]; decide)]; rfl
        rw [hg] at hl
        refine lv_iinc (v := nI (i + 1)) (lv' := [(3, .int (nI (i + 1))), (0, .long z), (2, .int (nI (cd z (i + 1))))]) hx hb dM_ones_23 hl (k := 2) rfl (nI_1 i) (by decide) rfl (fun ls hl => ?_)
        refine lv_goto (tgt := 4) hx hb dM_ones_26 (by decide) ?_
        exact ih (i + 1) (by omega) ls (lv_sub hl [1, 2, 0] rfl)
      · have hq : hbit z i = true := ts_nf (fun hz => c1 ((cmp0 _ _).mpr ((hb_sshr z hi).mpr hz)))
        have hg : cd z i + 1 = cd z (i + 1) := by show _ = cd z i + (if hbit z i = true then 1 else 0); rw [if_pos hq]
        refine lv_iinc (v := nI ((cd z i) + 1)) (lv' := [(2, .int (nI ((cd z i) + 1))), (0, .long z), (3, .int (nI i))]) hx hb dM_ones_20 hl (k := 1) rfl (nI_1 (cd z i)) (by decide) rfl (fun ls hl => ?_)
        rw [hg] at hl
        refine lv_iinc (v := nI (i + 1)) (lv' := [(3, .int (nI (i + 1))), (2, .int (nI (cd z (i + 1)))), (0, .long z)]) hx hb dM_ones_23 hl (k := 2) rfl (nI_1 i) (by decide) rfl (fun ls hl => ?_)
        refine lv_goto (tgt := 4) hx hb dM_ones_26 (by decide) ?_
        exact ih (i + 1) (by omega) ls (lv_sub hl [2, 1, 0] rfl)
  exact lp (64) 0 (by omega) ls (lv_sub hl [2, 1, 0] rfl)
