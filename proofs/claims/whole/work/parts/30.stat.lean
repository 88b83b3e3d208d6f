set_option maxRecDepth 100000 in
set_option maxHeartbeats 4000000 in
theorem c_only (l : Launch) (G : va_G) (cA : Nat → ClassId) (k : Nat) : Met l yV_only wsV_only ({ frames := 0, cells := 0, slots := 0, locals := 0 }) (PH G cA [.int (nI k)] (fun H => True)) (vp_Sl (fun r => r = one k)) 0 0 (fun _ => False) := by
  refine Met.ofW (cc := cV_only) (maxL := 1) (ret := (some .long)) (by decide) rfl ?_
  intro p e s m args below meth c s₁ B hml hv
  obtain ⟨hav, hKN, -⟩ := hv
  have hK := hKN.1
  have hx := B.exec
  have hb := B.bytes
  have hrt := B.returns
  have htA : ∀ w ∈ ALL, w.before args s = true := fun w h => atoms_spec (ws := wsV_only) B.pre w (List.mem_cons_of_mem _ h)
  have hown : s.vm.findClass RV = some m.cls := findClass_of_methodNamed B.named
  have hlocks := B.notSynchronized
  refine pw_nm (fun R Q hR hQ => ?_)
  refine pw_entry (vs := [.int (nI k)]) hav (Nat.le_of_ble_eq_true rfl) (fun ls hl => ?_)
  have hl : lv_has ls 1 [(0, .int (nI k))] := hl
  refine lv_lconst (v := 1) hx hb dV_only_0 rfl ?_
  refine lv_iload_n hx hb dV_only_1 rfl (lv_at hl 0 rfl) ?_
  refine lv_lshl hx hb dV_only_2 rfl ?_
  rw [hQ]
  exact W.lret (v := 1 <<< ((nI k).toInt64 &&& 63)) hx hb hrt (fun t ht hW => ⟨_, rfl, rfl, ht⟩) (fun q h => by cases h) dV_only_3

set_option maxRecDepth 100000 in
set_option maxHeartbeats 4000000 in
theorem c_has (l : Launch) (G : va_G) (cA : Nat → ClassId) (z : Int64) (k : Nat) (hk : k < 64) : Met l yV_has wsV_has ({ frames := 0, cells := 0, slots := 0, locals := 0 }) (PH G cA [.long z, .int (nI k)] (fun H => True)) (vp_Si (fun r => r = bI (hbit z k))) 0 0 (fun _ => False) := by
  refine Met.ofW (cc := cV_has) (maxL := 3) (ret := (some .boolean)) (by decide) rfl ?_
  intro p e s m args below meth c s₁ B hml hv
  obtain ⟨hav, hKN, -⟩ := hv
  have hK := hKN.1
  have hx := B.exec
  have hb := B.bytes
  have hrt := B.returns
  have htA : ∀ w ∈ ALL, w.before args s = true := fun w h => atoms_spec (ws := wsV_has) B.pre w (List.mem_cons_of_mem _ h)
  have hown : s.vm.findClass RV = some m.cls := findClass_of_methodNamed B.named
  have hlocks := B.notSynchronized
  refine pw_nm (fun R Q hR hQ => ?_)
  refine pw_entry (vs := [.long z, .int (nI k)]) hav (Nat.le_of_ble_eq_true rfl) (fun ls hl => ?_)
  have hl : lv_has ls 3 [(0, .long z), (2, .int (nI k))] := hl
  refine lv_lload_n hx hb dV_has_0 rfl (lv_at hl 0 rfl) ?_
  refine lv_iload_n hx hb dV_has_1 rfl (lv_at hl 1 rfl) ?_
  refine lv_lushr hx hb dV_has_2 rfl ?_
  refine lv_lconst (v := 1) hx hb dV_has_3 rfl ?_
  refine lv_land hx hb dV_has_4 ?_
  refine lv_lconst (v := 0) hx hb dV_has_5 rfl ?_
  refine W.lcmp hx hb dV_has_6 ?_
  refine lv_if_eq (tgt := 14) hx hb dV_has_7 (by decide) (fun c1 => ?_) (fun c1 => ?_)
  · have hq : hbit z k = false := (hb_shr z hk).mp ((cmp0 _ _).mp c1)
    refine lv_iconst (v := nI 0) hx hb dV_has_14 (by decide) ?_
    rw [hQ]
    exact W.zret (v := nI 0) (ty := .boolean) hx hb hrt (by first | rfl | exact bI_nar _) (fun t ht hW => ⟨_, rfl, (by rw [hq]; rfl), ht⟩) (fun q h => by cases h) dV_has_15
  · have hq : hbit z k = true := ts_nf (fun hz => c1 ((cmp0 _ _).mpr ((hb_shr z hk).mpr hz)))
    refine lv_iconst (v := nI 1) hx hb dV_has_10 (by decide) ?_
    refine lv_goto (tgt := 15) hx hb dV_has_11 (by decide) ?_
    rw [hQ]
    exact W.zret (v := nI 1) (ty := .boolean) hx hb hrt (by first | rfl | exact bI_nar _) (fun t ht hW => ⟨_, rfl, (by rw [hq]; rfl), ht⟩) (fun q h => by cases h) dV_has_15

set_option maxRecDepth 100000 in
set_option maxHeartbeats 4000000 in
theorem c_shiftOf (l : Launch) (G : va_G) (cA : Nat → ClassId) (a : Nat) (ha : a < 3) : Met l yV_shiftOf wsV_shiftOf ({ frames := 0, cells := 0, slots := 0, locals := 0 }) (PH G cA [.int (nI a)] (fun H => True)) (vp_Si (fun r => r = nI (2 * (2 - a)))) 0 0 (fun _ => False) := by
  refine Met.ofW (cc := cV_shiftOf) (maxL := 1) (ret := (some .int)) (by decide) rfl ?_
  intro p e s m args below meth c s₁ B hml hv
  obtain ⟨hav, hKN, -⟩ := hv
  have hK := hKN.1
  have hx := B.exec
  have hb := B.bytes
  have hrt := B.returns
  have htA : ∀ w ∈ ALL, w.before args s = true := fun w h => atoms_spec (ws := wsV_shiftOf) B.pre w (List.mem_cons_of_mem _ h)
  have hown : s.vm.findClass RV = some m.cls := findClass_of_methodNamed B.named
  have hlocks := B.notSynchronized
  refine pw_nm (fun R Q hR hQ => ?_)
  refine pw_entry (vs := [.int (nI a)]) hav (Nat.le_of_ble_eq_true rfl) (fun ls hl => ?_)
  have hl : lv_has ls 1 [(0, .int (nI a))] := hl
  refine lv_iconst (v := nI 2) hx hb dV_shiftOf_0 (by decide) ?_
  refine lv_iconst (v := nI 2) hx hb dV_shiftOf_1 (by decide) ?_
  refine lv_iload_n hx hb dV_shiftOf_2 rfl (lv_at hl 0 rfl) ?_
  refine lv_isub hx hb dV_shiftOf_3 ?_
  refine lv_imul hx hb dV_shiftOf_4 ?_
  rw [hQ]
  exact W.iret (v := (nI 2) * ((nI 2) - (nI a))) hx hb hrt (fun t ht hW => ⟨_, rfl, (i_shift a ha), ht⟩) (fun q h => by cases h) dV_shiftOf_5

set_option maxRecDepth 100000 in
set_option maxHeartbeats 4000000 in
theorem c_weightOf (l : Launch) (G : va_G) (cA : Nat → ClassId) (a : Nat) (ha : a < 3) : Met l yV_weightOf wsV_weightOf ({ frames := 1, cells := 0, slots := 0, locals := 20 }) (PH G cA [.int (nI a)] (fun H => True)) (vp_Si (fun r => r = nI (4 ^ (2 - a)))) 0 0 (fun _ => False) := by
  refine Met.ofW (cc := cV_weightOf) (maxL := 1) (ret := (some .int)) (by decide) rfl ?_
  intro p e s m args below meth c s₁ B hml hv
  obtain ⟨hav, hKN, -⟩ := hv
  have hK := hKN.1
  have hx := B.exec
  have hb := B.bytes
  have hrt := B.returns
  have htA : ∀ w ∈ ALL, w.before args s = true := fun w h => atoms_spec (ws := wsV_weightOf) B.pre w (List.mem_cons_of_mem _ h)
  have hown : s.vm.findClass RV = some m.cls := findClass_of_methodNamed B.named
  have hlocks := B.notSynchronized
  refine pw_nm (fun R Q hR hQ => ?_)
  refine pw_entry (vs := [.int (nI a)]) hav (Nat.le_of_ble_eq_true rfl) (fun ls hl => ?_)
  have hl : lv_has ls 1 [(0, .int (nI a))] := hl
  refine lv_iconst (v := nI 1) hx hb dV_weightOf_0 (by decide) ?_
  refine lv_iload_n hx hb dV_weightOf_1 rfl (lv_at hl 0 rfl) ?_
  refine vp_callSi (va_Run.run (va_runS (As := [.int (nI a)]) (rest := [.int (nI 1)]) ⟨hx, hb, hml, hown, htA⟩ (c_shiftOf l G cA a ha) (va_cwS 1 htA (gd_S wd220 wd221 wd26 wd222) rfl rfl rfl (by decide +kernel) (by rw [hR]; exact ⟨Nat.le_of_ble_eq_true rfl, Nat.le_of_ble_eq_true rfl⟩)) (pw_S hKN trivial) rfl rfl hl.1 rfl (lv_room (Nat.le_of_ble_eq_true rfl)) dV_weightOf_2 (by rw [hR]; exact ⟨Nat.le_of_ble_eq_true rfl, Nat.le_of_ble_eq_true rfl⟩))) (fun r1 hr1 => ?_)
  subst hr1
  refine lv_ishl hx hb dV_weightOf_5 ?_
  rw [hQ]
  exact W.iret (v := (nI 1) <<< ((nI (2 * (2 - a))) &&& 31)) hx hb hrt (fun t ht hW => ⟨_, rfl, (i_weight a ha), ht⟩) (fun q h => by cases h) dV_weightOf_6

set_option maxRecDepth 100000 in
set_option maxHeartbeats 4000000 in
theorem c_valueOf (l : Launch) (G : va_G) (cA : Nat → ClassId) (x : Nat) (hx0 : x < 64) (a : Nat) (ha : a < 3) : Met l yV_valueOf wsV_valueOf ({ frames := 1, cells := 0, slots := 0, locals := 20 }) (PH G cA [.int (nI x), .int (nI a)] (fun H => True)) (vp_Si (fun r => r = nI (vl x a))) 0 0 (fun _ => False) := by
  refine Met.ofW (cc := cV_valueOf) (maxL := 2) (ret := (some .int)) (by decide) rfl ?_
  intro p e s m args below meth c s₁ B hml hv
  obtain ⟨hav, hKN, -⟩ := hv
  have hK := hKN.1
  have hx := B.exec
  have hb := B.bytes
  have hrt := B.returns
  have htA : ∀ w ∈ ALL, w.before args s = true := fun w h => atoms_spec (ws := wsV_valueOf) B.pre w (List.mem_cons_of_mem _ h)
  have hown : s.vm.findClass RV = some m.cls := findClass_of_methodNamed B.named
  have hlocks := B.notSynchronized
  refine pw_nm (fun R Q hR hQ => ?_)
  refine pw_entry (vs := [.int (nI x), .int (nI a)]) hav (Nat.le_of_ble_eq_true rfl) (fun ls hl => ?_)
  have hl : lv_has ls 2 [(0, .int (nI x)), (1, .int (nI a))] := hl
  refine lv_iload_n hx hb dV_valueOf_0 rfl (lv_at hl 0 rfl) ?_
  refine lv_iload_n hx hb dV_valueOf_1 rfl (lv_at hl 1 rfl) ?_
  refine vp_callSi (va_Run.run (va_runS (As := [.int (nI a)]) (rest := [.int (nI x)]) ⟨hx, hb, hml, hown, htA⟩ (c_shiftOf l G cA a ha) (va_cwS 1 htA (gd_S wd220 wd221 wd26 wd222) rfl rfl rfl (by decide +kernel) (by rw [hR]; exact ⟨Nat.le_of_ble_eq_true rfl, Nat.le_of_ble_eq_true rfl⟩)) (pw_S hKN trivial) rfl rfl hl.1 rfl (lv_room (Nat.le_of_ble_eq_true rfl)) dV_valueOf_2 (by rw [hR]; exact ⟨Nat.le_of_ble_eq_true rfl, Nat.le_of_ble_eq_true rfl⟩))) (fun r1 hr1 => ?_)
  subst hr1
  refine lv_ishr hx hb dV_valueOf_5 ?_
  refine lv_iconst (v := nI 3) hx hb dV_valueOf_6 (by decide) ?_
  refine lv_iand hx hb dV_valueOf_7 ?_
  rw [hQ]
  exact W.iret (v := ((nI x) >>> ((nI (2 * (2 - a))) &&& 31)) &&& (nI 3)) hx hb hrt (fun t ht hW => ⟨_, rfl, (i_val x hx0 a ha), ht⟩) (fun q h => by cases h) dV_valueOf_8

set_option maxRecDepth 100000 in
set_option maxHeartbeats 4000000 in
theorem c_givenFor (l : Launch) (G : va_G) (cA : Nat → ClassId) (a : Nat) (f : Nat → Int64) (z : Int64) : Met l yV_givenFor wsV_givenFor ({ frames := 1, cells := 0, slots := 0, locals := 22 }) (PH G cA [.ref a, .long z] (fun H => al (cA 0) a 64 f H)) (vp_Sl (fun r => r = gf f z 64)) 0 0 (fun _ => False) := by
  refine Met.ofW (cc := cV_givenFor) (maxL := 6) (ret := (some .long)) (by decide) rfl ?_
  intro p e s m args below meth c s₁ B hml hv
  obtain ⟨hav, hKN, hal⟩ := hv
  have hK := hKN.1
  have hx := B.exec
  have hb := B.bytes
  have hrt := B.returns
  have htA : ∀ w ∈ ALL, w.before args s = true := fun w h => atoms_spec (ws := wsV_givenFor) B.pre w (List.mem_cons_of_mem _ h)
  have hown : s.vm.findClass RV = some m.cls := findClass_of_methodNamed B.named
  have hlocks := B.notSynchronized
  refine pw_nm (fun R Q hR hQ => ?_)
  refine pw_entry (vs := [.ref a, .long z]) hav (Nat.le_of_ble_eq_true rfl) (fun ls hl => ?_)
  have hl : lv_has ls 6 [(0, .ref a), (1, .long z)] := hl
  refine lv_lconst (v := 0) hx hb dV_givenFor_0 rfl ?_
  refine lv_lstore_n (lv' := [(3, .long 0), (0, .ref a), (1, .long z)]) hx hb dV_givenFor_1 rfl hl (by decide) rfl (fun ls hl => ?_)
  refine lv_iconst (v := nI 0) hx hb dV_givenFor_2 (by decide) ?_
  refine lv_istore (lv' := [(5, .int (nI 0)), (3, .long 0), (0, .ref a), (1, .long z)]) hx hb dV_givenFor_3 hl (by decide) rfl (fun ls hl => ?_)
  have lp : ∀ (k i : Nat), i + k = 64 → ∀ ls : Array Slot, lv_has ls 6 [(0, .ref a), (1, .long z), (3, .long (gf f z i)), (5, .int (nI i))] → W p l e R s m args below meth c s.heap ([]) 0 0 Q (F0 m 5 ls []) := by
    intro k
    induction k with
    | zero =>
      intro i hik ls hl
      have hi : i = 64 := by omega
      subst hi
      refine lv_iload hx hb dV_givenFor_5 (lv_at hl 3 rfl) ?_
      refine lv_bipush (v := nI 64) hx hb dV_givenFor_7 (by decide) ?_
      refine lv_icmp_ge (tgt := 34) hx hb dV_givenFor_9 (by decide) (fun _ => ?_) (fun c9 => absurd (Int32.le_refl _) c9)
      refine lv_lload_n hx hb dV_givenFor_34 rfl (lv_at hl 2 rfl) ?_
      rw [hQ]
      exact W.lret (v := gf f z 64) hx hb hrt (fun t ht hW => ⟨_, rfl, rfl, ht⟩) (fun q h => by cases h) dV_givenFor_35
    | succ k ih =>
      intro i hik ls hl
      have hi : i < 64 := by omega
      refine lv_iload hx hb dV_givenFor_5 (lv_at hl 3 rfl) ?_
      refine lv_bipush (v := nI 64) hx hb dV_givenFor_7 (by decide) ?_
      refine lv_icmp_ge (tgt := 34) hx hb dV_givenFor_9 (by decide) (fun c9 => absurd c9 (nI_ge hi (by decide))) (fun _ => ?_)
      refine lv_lload_n hx hb dV_givenFor_12 rfl (lv_at hl 1 rfl) ?_
      refine lv_iload hx hb dV_givenFor_13 (lv_at hl 3 rfl) ?_
      refine vp_callSi (va_Run.run (va_runS (As := [.long z, .int (nI i)]) (rest := []) ⟨hx, hb, hml, hown, htA⟩ (c_has l G cA z i hi) (va_cwS 2 htA (gd_S wd240 wd241 wd26 wd242) rfl rfl rfl (by decide +kernel) (by rw [hR]; exact ⟨Nat.le_of_ble_eq_true rfl, Nat.le_of_ble_eq_true rfl⟩)) (pw_S hKN trivial) rfl rfl hl.1 rfl (lv_room (Nat.le_of_ble_eq_true rfl)) dV_givenFor_15 (by rw [hR]; exact ⟨Nat.le_of_ble_eq_true rfl, Nat.le_of_ble_eq_true rfl⟩))) (fun r1 hr1 => ?_)
      subst hr1
      refine lv_if_eq (tgt := 28) hx hb dV_givenFor_18 (by decide) (fun c1 => ?_) (fun c1 => ?_)
      · have hq := bI_eq.mp c1
        have hg : gf f z i = gf f z (i + 1) := by show _ = (if hbit z i = true then _ else _); rw [if_neg (by rw [hq]; decide)]
        rw [hg] at hl
        refine lv_iinc (v := nI (i + 1)) (lv' := [(5, .int (nI (i + 1))), (0, .ref a), (1, .long z), (3, .long (gf f z (i + 1)))]) hx hb dV_givenFor_28 hl (k := 3) rfl (nI_1 i) (by decide) rfl (fun ls hl => ?_)
        refine lv_goto (tgt := 5) hx hb dV_givenFor_31 (by decide) ?_
        exact ih (i + 1) (by omega) ls (lv_sub hl [1, 2, 3, 0] rfl)
      · have hq := bI_ne.mp c1
        refine lv_lload_n hx hb dV_givenFor_21 rfl (lv_at hl 2 rfl) ?_
        refine lv_aload_n hx hb dV_givenFor_22 rfl (lv_at hl 0 rfl) ?_
        refine lv_iload hx hb dV_givenFor_23 (lv_at hl 3 rfl) ?_
        refine pw_lald hx hb hK hal 0 rfl (by omega) (by decide) dV_givenFor_25 ?_
        refine lv_lor hx hb dV_givenFor_26 ?_
        refine pw_tl (y := gf f z (i + 1)) (by show _ = (if hbit z i = true then _ else _); rw [if_pos hq]) ?_
        refine lv_lstore_n (lv' := [(3, .long (gf f z (i + 1))), (0, .ref a), (1, .long z), (5, .int (nI i))]) hx hb dV_givenFor_27 rfl hl (by decide) rfl (fun ls hl => ?_)
        refine lv_iinc (v := nI (i + 1)) (lv' := [(5, .int (nI (i + 1))), (3, .long (gf f z (i + 1))), (0, .ref a), (1, .long z)]) hx hb dV_givenFor_28 hl (k := 3) rfl (nI_1 i) (by decide) rfl (fun ls hl => ?_)
        refine lv_goto (tgt := 5) hx hb dV_givenFor_31 (by decide) ?_
        exact ih (i + 1) (by omega) ls (lv_sub hl [2, 3, 1, 0] rfl)
  exact lp (64) 0 (by omega) ls (lv_sub hl [2, 3, 1, 0] rfl)

set_option maxRecDepth 100000 in
set_option maxHeartbeats 4000000 in
theorem c_leastDifference (l : Launch) (G : va_G) (cA : Nat → ClassId) (a b : Nat) (f g : Nat → Int64) : Met l yV_leastDifference wsV_leastDifference ({ frames := 0, cells := 0, slots := 0, locals := 0 }) (PH G cA [.ref a, .ref b] (fun H => (al (cA 0) a 64 f H ∧ al (cA 0) b 64 g H))) (vp_Si (fun r => (∃ k, k < 64 ∧ apR f g k ∧ r = nI k) ∨ (apR f g 64 ∧ r = -1))) 0 0 (fun _ => False) := by
  refine Met.ofW (cc := cV_leastDifference) (maxL := 3) (ret := (some .int)) (by decide) rfl ?_
  intro p e s m args below meth c s₁ B hml hv
  obtain ⟨hav, hKN, hal, hbl⟩ := hv
  have hK := hKN.1
  have hx := B.exec
  have hb := B.bytes
  have hrt := B.returns
  have htA : ∀ w ∈ ALL, w.before args s = true := fun w h => atoms_spec (ws := wsV_leastDifference) B.pre w (List.mem_cons_of_mem _ h)
  have hown : s.vm.findClass RV = some m.cls := findClass_of_methodNamed B.named
  have hlocks := B.notSynchronized
  refine pw_nm (fun R Q hR hQ => ?_)
  refine pw_entry (vs := [.ref a, .ref b]) hav (Nat.le_of_ble_eq_true rfl) (fun ls hl => ?_)
  have hl : lv_has ls 3 [(0, .ref a), (1, .ref b)] := hl
  refine lv_iconst (v := nI 0) hx hb dV_leastDifference_0 (by decide) ?_
  refine lv_istore_n (lv' := [(2, .int (nI 0)), (0, .ref a), (1, .ref b)]) hx hb dV_leastDifference_1 rfl hl (by decide) rfl (fun ls hl => ?_)
  have lp : ∀ (k i : Nat), i + k = 64 → (∀ j, j < i → f j = g j) → ∀ ls : Array Slot, lv_has ls 3 [(0, .ref a), (1, .ref b), (2, .int (nI i))] → W p l e R s m args below meth c s.heap ([]) 0 0 Q (F0 m 2 ls []) := by
    intro k
    induction k with
    | zero =>
      intro i hik hinv ls hl
      have hi : i = 64 := by omega
      subst hi
      refine lv_iload_n hx hb dV_leastDifference_2 rfl (lv_at hl 2 rfl) ?_
      refine lv_bipush (v := nI 64) hx hb dV_leastDifference_3 (by decide) ?_
      refine lv_icmp_ge (tgt := 26) hx hb dV_leastDifference_5 (by decide) (fun _ => ?_) (fun c9 => absurd (Int32.le_refl _) c9)
      refine lv_iconst (v := (-1)) hx hb dV_leastDifference_26 (by decide) ?_
      rw [hQ]
      exact W.iret (v := (-1)) hx hb hrt (fun t ht hW => ⟨_, rfl, (Or.inr ⟨⟨Nat.le_refl _, hinv, fun h => absurd h (Nat.lt_irrefl _)⟩, rfl⟩), ht⟩) (fun q h => by cases h) dV_leastDifference_27
    | succ k ih =>
      intro i hik hinv ls hl
      have hi : i < 64 := by omega
      refine lv_iload_n hx hb dV_leastDifference_2 rfl (lv_at hl 2 rfl) ?_
      refine lv_bipush (v := nI 64) hx hb dV_leastDifference_3 (by decide) ?_
      refine lv_icmp_ge (tgt := 26) hx hb dV_leastDifference_5 (by decide) (fun c9 => absurd c9 (nI_ge hi (by decide))) (fun _ => ?_)
      refine lv_aload_n hx hb dV_leastDifference_8 rfl (lv_at hl 0 rfl) ?_
      refine lv_iload_n hx hb dV_leastDifference_9 rfl (lv_at hl 2 rfl) ?_
      refine pw_lald hx hb hK hal 0 rfl (by omega) (by decide) dV_leastDifference_10 ?_
      refine lv_aload_n hx hb dV_leastDifference_11 rfl (lv_at hl 1 rfl) ?_
      refine lv_iload_n hx hb dV_leastDifference_12 rfl (lv_at hl 2 rfl) ?_
      refine pw_lald hx hb hK hbl 0 rfl (by omega) (by decide) dV_leastDifference_13 ?_
      refine W.lcmp hx hb dV_leastDifference_14 ?_
      refine lv_if_eq (tgt := 20) hx hb dV_leastDifference_15 (by decide) (fun c1 => ?_) (fun c1 => ?_)
      · have hq := (cmp0 _ _).mp c1
        refine lv_iinc (v := nI (i + 1)) (lv' := [(2, .int (nI (i + 1))), (0, .ref a), (1, .ref b)]) hx hb dV_leastDifference_20 hl (k := 2) rfl (nI_1 i) (by decide) rfl (fun ls hl => ?_)
        refine lv_goto (tgt := 2) hx hb dV_leastDifference_23 (by decide) ?_
        exact ih (i + 1) (by omega) (lt_s hinv hq) ls (lv_sub hl [1, 2, 0] rfl)
      · have hq : ¬ f i = g i := fun q => c1 ((cmp0 _ _).mpr q)
        refine lv_iload_n hx hb dV_leastDifference_18 rfl (lv_at hl 2 rfl) ?_
        rw [hQ]
        exact W.iret (v := nI i) hx hb hrt (fun t ht hW => ⟨_, rfl, (Or.inl ⟨i, hi, ⟨by omega, hinv, fun _ => hq⟩, rfl⟩), ht⟩) (fun q h => by cases h) dV_leastDifference_19
  exact lp (64) 0 (by omega) lt_0 ls (lv_sub hl [1, 2, 0] rfl)

set_option maxRecDepth 100000 in
set_option maxHeartbeats 4000000 in
theorem c_isMade (l : Launch) (G : va_G) (cA : Nat → ClassId) (x n : Nat) (fs : List Value) (v : Int32) (hfs : fs[2]? = some (.int (nI n))) (hn : n < 2147483648) : Met l yV_isMade wsV_isMade ({ frames := 0, cells := 0, slots := 0, locals := 0 }) (PH G cA [.ref x, .int v] (fun H => ob G 3 x fs H)) (vp_Si (fun r => r = bI (inb n v))) 0 0 (fun _ => False) := by
  refine Met.ofW (cc := cV_isMade) (maxL := 2) (ret := (some .boolean)) (by decide) rfl ?_
  intro p e s m args below meth c s₁ B hml hv
  obtain ⟨hav, hKN, hob⟩ := hv
  have hK := hKN.1
  have hx := B.exec
  have hb := B.bytes
  have hrt := B.returns
  have htA : ∀ w ∈ ALL, w.before args s = true := fun w h => atoms_spec (ws := wsV_isMade) B.pre w (List.mem_cons_of_mem _ h)
  have hown : s.vm.findClass RV = some m.cls := findClass_of_methodNamed B.named
  have hlocks := B.notSynchronized
  refine pw_nm (fun R Q hR hQ => ?_)
  refine pw_entry (vs := [.ref x, .int v]) hav (Nat.le_of_ble_eq_true rfl) (fun ls hl => ?_)
  have hl : lv_has ls 2 [(0, .ref x), (1, .int v)] := hl
  refine lv_iload_n hx hb dV_isMade_0 rfl (lv_at hl 1 rfl) ?_
  refine lv_if_lt (tgt := 16) hx hb dV_isMade_1 (by decide) (fun c1 => ?_) (fun c1 => ?_)
  · refine lv_iconst (v := nI 0) hx hb dV_isMade_16 (by decide) ?_
    rw [hQ]
    exact W.zret (v := nI 0) (ty := .boolean) hx hb hrt (by first | rfl | exact bI_nar _) (fun t ht hW => ⟨_, rfl, (by rw [inb_neg c1]; rfl), ht⟩) (fun q h => by cases h) dV_isMade_17
  · refine lv_iload_n hx hb dV_isMade_4 rfl (lv_at hl 1 rfl) ?_
    refine lv_aload_n hx hb dV_isMade_5 rfl (lv_at hl 0 rfl) ?_
    refine va_get (D := G) (ci := 3) (v := .int (nI n)) (C := RV) (T := TV) (N := 4) hx hb htA inV hown hK (ob_P hob) 0 rfl rfl 2 (by decide) (htA _ wd65) (fun _ h9 => h9) hfs dV_isMade_6 ?_
    refine lv_icmp_ge (tgt := 16) hx hb dV_isMade_9 (by decide) (fun c2 => ?_) (fun c2 => ?_)
    · refine lv_iconst (v := nI 0) hx hb dV_isMade_16 (by decide) ?_
      rw [hQ]
      exact W.zret (v := nI 0) (ty := .boolean) hx hb hrt (by first | rfl | exact bI_nar _) (fun t ht hW => ⟨_, rfl, (by rw [inb_big hn c2]; rfl), ht⟩) (fun q h => by cases h) dV_isMade_17
    · refine lv_iconst (v := nI 1) hx hb dV_isMade_12 (by decide) ?_
      refine lv_goto (tgt := 17) hx hb dV_isMade_13 (by decide) ?_
      rw [hQ]
      exact W.zret (v := nI 1) (ty := .boolean) hx hb hrt (by first | rfl | exact bI_nar _) (fun t ht hW => ⟨_, rfl, (by rw [inb_ok hn c1 c2]; rfl), ht⟩) (fun q h => by cases h) dV_isMade_17
