set_option maxRecDepth 100000 in
set_option maxHeartbeats 4000000 in
theorem c_checkPacket (l : Launch) (hl9 : l.stackTraces = false) (G : va_G) (cA : Nat → ClassId) (E : Nat → Prop) (v : Int32) : vx_Met l yV_checkPacket wsV_checkPacket ({ frames := 6, cells := 1, slots := 6, locals := 100 }) (PX G cA E [.int v] (fun H => True)) (fun _ st o t => ∃ k, k < 64 ∧ v = nI k ∧ o = .returned none ∧ t.heap = st.heap) (xR (fun X => X = "java/lang/IllegalArgumentException" ∧ inb 64 v = false)) 1 6 (fun _ => False) := by
  refine vx_ofW (cc := cV_checkPacket) (maxL := 1) (ret := none) (by decide) rfl ?_
  intro p e s m args below meth c s₁ B hml htab hv
  obtain ⟨hav, hKN, hZ, -⟩ := hv
  have hK := hKN.1
  have hx := B.exec
  have hb := B.bytes
  have hrt := B.returns
  have htA : ∀ w ∈ ALL, w.before args s = true := fun w h => atoms_spec (ws := wsV_checkPacket) B.pre w (List.mem_cons_of_mem _ h)
  have hown : s.vm.findClass RV = some m.cls := findClass_of_methodNamed B.named
  have hlocks := B.notSynchronized
  refine pw_nm (fun R Q hR hQ => ?_)
  refine pw_entry (vs := [.int v]) hav (Nat.le_of_ble_eq_true rfl) (fun ls hl => ?_)
  have hl : lv_has ls 1 [(0, .int v)] := hl
  have hL : ∀ z ∈ ([] : List Loc), (fun _ : Nat => False) z.base := fun _ h => by cases h
  refine lv_iload_n hx hb dV_checkPacket_0 rfl (lv_at hl 0 rfl) ?_
  refine lv_if_lt (tgt := 10) hx hb dV_checkPacket_1 (by decide) (fun c1 => ?_) (fun c1 => ?_)
  · rw [hQ]
    exact px_thr (cls := "java/lang/IllegalArgumentException") (ik := 33) (ic := 35) hx hb hl9 hown (by decide +kernel) htA hKN wd94 wd32 tw35a tw35b tw35c hZ va_S.rf (by rw [hml]; exact hl.1) dV_checkPacket_10 dV_checkPacket_13 dV_checkPacket_14 dV_checkPacket_17 htab (by rw [hR]; exact Nat.lt_of_lt_of_le (by decide) (Nat.le_refl _)) (by rw [hR]; exact Nat.le_of_ble_eq_true rfl) (by rw [hR]; exact Nat.le_of_ble_eq_true rfl) (by rw [hR]; exact Nat.le_of_ble_eq_true rfl) hlocks (fun t _ h1 h2 => ⟨⟨rfl, inb_neg c1⟩, h1, h2⟩) (fun _ h => by cases h) (by omega) (by omega)
  · refine lv_iload_n hx hb dV_checkPacket_4 rfl (lv_at hl 0 rfl) ?_
    refine lv_bipush (v := nI 64) hx hb dV_checkPacket_5 (by decide) ?_
    refine lv_icmp_lt (tgt := 18) hx hb dV_checkPacket_7 (by decide) (fun c2 => ?_) (fun c2 => ?_)
    · obtain ⟨k, hk, rfl⟩ := inb_t (by decide) (inb_ok (n := 64) (by decide) c1 (fun q9 => absurd c2 (Int32.not_lt.mpr q9)))
      rw [hQ]
      refine vx_ret ?_
      refine W.widen (k := 1) (n := 6) (by omega) (by omega) ?_
      exact W.vret hx hb hrt (fun t ht hW => ⟨k, hk, rfl, rfl, ht⟩) hL dV_checkPacket_18
    · rw [hQ]
      exact px_thr (cls := "java/lang/IllegalArgumentException") (ik := 33) (ic := 35) hx hb hl9 hown (by decide +kernel) htA hKN wd94 wd32 tw35a tw35b tw35c hZ va_S.rf (by rw [hml]; exact hl.1) dV_checkPacket_10 dV_checkPacket_13 dV_checkPacket_14 dV_checkPacket_17 htab (by rw [hR]; exact Nat.lt_of_lt_of_le (by decide) (Nat.le_refl _)) (by rw [hR]; exact Nat.le_of_ble_eq_true rfl) (by rw [hR]; exact Nat.le_of_ble_eq_true rfl) (by rw [hR]; exact Nat.le_of_ble_eq_true rfl) hlocks (fun t _ h1 h2 => ⟨⟨rfl, inb_big (by decide) (Int32.not_lt.mp c2)⟩, h1, h2⟩) (fun _ h => by cases h) (by omega) (by omega)

set_option maxRecDepth 100000 in
set_option maxHeartbeats 4000000 in
theorem c_find (l : Launch) (hl9 : l.stackTraces = false) (G : va_G) (cA : Nat → ClassId) (E : Nat → Prop) (x pa rs lo hi n : Nat) (F : Nat → Bool) (O : Nat → Nat → Int64) (po oc : Nat → Nat) (tb : Nat → Option Nat) (tc : Nat → Nat × Nat × Nat) (v : Int32) : vx_Met l yV_find wsV_find ({ frames := 6, cells := 1, slots := 6, locals := 100 }) (PX G cA E [.ref x, .int v] (fun H => pvS G cA x pa rs lo hi n F O po oc tb tc H)) (fun _ st o t => ∃ i, i < n ∧ v = nI i ∧ o = .returned (some (.ref (po i))) ∧ t.heap = st.heap) (xR (fun X => X = "java/util/NoSuchElementException" ∧ inb n v = false)) 1 6 (fun _ => False) := by
  refine vx_ofW (cc := cV_find) (maxL := 2) (ret := (some (.object "PolicyVerifier$Policy"))) (by decide) rfl ?_
  intro p e s m args below meth c s₁ B hml htab hv
  obtain ⟨hav, hKN, hZ, hpv⟩ := hv
  have hK := hKN.1
  have hx := B.exec
  have hb := B.bytes
  have hrt := B.returns
  have htA : ∀ w ∈ ALL, w.before args s = true := fun w h => atoms_spec (ws := wsV_find) B.pre w (List.mem_cons_of_mem _ h)
  have hown : s.vm.findClass RV = some m.cls := findClass_of_methodNamed B.named
  have hlocks := B.notSynchronized
  refine pw_nm (fun R Q hR hQ => ?_)
  refine pw_entry (vs := [.ref x, .int v]) hav (Nat.le_of_ble_eq_true rfl) (fun ls hl => ?_)
  have hl : lv_has ls 2 [(0, .ref x), (1, .int v)] := hl
  have hL : ∀ z ∈ ([] : List Loc), (fun _ : Nat => False) z.base := fun _ h => by cases h
  have hS0 := hpv
  obtain ⟨p1, p2, p3, p4, p5, p6, p7, p8, p9, p10, p11, p12⟩ := hpv
  refine lv_aload_n hx hb dV_find_0 rfl (lv_at hl 0 rfl) ?_
  refine lv_iload_n hx hb dV_find_1 rfl (lv_at hl 1 rfl) ?_
  refine vp_callSi (va_Run.run (va_runV (As := [.int v]) (rest := []) ⟨hx, hb, hml, hown, htA⟩ (c_isMade l G cA x n [.ref pa, .ref rs, .int (nI n), .int (nI (dct O n))] v rfl (by omega)) (cwV 1 htA (gd_V wd90 wd92 wd1 wd26 wd93) rfl rfl rfl (by decide +kernel) (by rw [hR]; exact ⟨Nat.le_of_ble_eq_true rfl, Nat.le_of_ble_eq_true rfl⟩)) (pw_V (ci := 3) (q := (RV, TV, 4)) hKN p1 rfl p1) rfl rfl hl.1 rfl (lv_room (Nat.le_of_ble_eq_true rfl)) dV_find_2 (by rw [hR]; exact ⟨Nat.le_of_ble_eq_true rfl, Nat.le_of_ble_eq_true rfl⟩))) (fun r1 hr1 => ?_)
  subst hr1
  refine lv_if_ne (tgt := 16) hx hb dV_find_5 (by decide) (fun c1 => ?_) (fun c1 => ?_)
  · obtain ⟨i, hi, rfl⟩ := inb_t (by omega) (bI_ne.mp c1)
    refine lv_aload_n hx hb dV_find_16 rfl (lv_at hl 0 rfl) ?_
    refine va_get (D := G) (ci := 3) (v := .ref pa) (C := RV) (T := TV) (N := 4) hx hb htA inV hown hK (ob_P p1) 0 rfl rfl 0 (by decide) (htA _ wd63) (fun _ h9 => h9) rfl dV_find_17 ?_
    refine lv_iload_n hx hb dV_find_20 rfl (lv_at hl 1 rfl) ?_
    refine pw_aald hx hb hK p2 2 rfl (by omega) (by decide) dV_find_21 ?_
    refine pw_tq (a := po i) (by show (if i < n then some (po i) else none) = some (po i); rw [if_pos hi]) ?_
    rw [hQ]
    refine vx_ret ?_
    refine W.widen (k := 1) (n := 6) (by omega) (by omega) ?_
    exact W.aret (v := .ref (po i)) hx hb hrt (Or.inl ⟨_, rfl⟩) (Or.inr ⟨_, rfl⟩) (fun t ht hW => ⟨i, hi, rfl, rfl, ht⟩) hL dV_find_22
  · have hq := bI_eq.mp c1
    rw [hQ]
    exact px_thr (cls := "java/util/NoSuchElementException") (ik := 95) (ic := 97) hx hb hl9 hown (by decide +kernel) htA hKN wd269 wd36 tw97a tw97b tw97c hZ va_S.rf (by rw [hml]; exact hl.1) dV_find_8 dV_find_11 dV_find_12 dV_find_15 htab (by rw [hR]; exact Nat.lt_of_lt_of_le (by decide) (Nat.le_refl _)) (by rw [hR]; exact Nat.le_of_ble_eq_true rfl) (by rw [hR]; exact Nat.le_of_ble_eq_true rfl) (by rw [hR]; exact Nat.le_of_ble_eq_true rfl) hlocks (fun t _ h1 h2 => ⟨⟨rfl, hq⟩, h1, h2⟩) (fun _ h => by cases h) (by omega) (by omega)

set_option maxRecDepth 100000 in
set_option maxHeartbeats 4000000 in
theorem c_outcome (l : Launch) (hl9 : l.stackTraces = false) (G : va_G) (cA : Nat → ClassId) (E : Nat → Prop) (x pa rs lo hi n : Nat) (F : Nat → Bool) (O : Nat → Nat → Int64) (po oc : Nat → Nat) (tb : Nat → Option Nat) (tc : Nat → Nat × Nat × Nat) (v q : Int32) : vx_Met l yV_outcome wsV_outcome ({ frames := 7, cells := 2, slots := 12, locals := 121 }) (PX G cA E [.ref x, .int v, .int q] (fun H => pvS G cA x pa rs lo hi n F O po oc tb tc H)) (vp_Sl (fun r => ∃ a k, a < n ∧ k < 64 ∧ v = nI a ∧ q = nI k ∧ r = O a k)) (xR (fun X => (X = "java/util/NoSuchElementException" ∧ inb n v = false) ∨ (X = "java/lang/IllegalArgumentException" ∧ inb n v = true ∧ inb 64 q = false))) 2 12 (fun _ => False) := by
  refine vx_ofW (cc := cV_outcome) (maxL := 4) (ret := (some .long)) (by decide) rfl ?_
  intro p e s m args below meth c s₁ B hml htab hv
  obtain ⟨hav, hKN, hZ, hpv⟩ := hv
  have hK := hKN.1
  have hx := B.exec
  have hb := B.bytes
  have hrt := B.returns
  have htA : ∀ w ∈ ALL, w.before args s = true := fun w h => atoms_spec (ws := wsV_outcome) B.pre w (List.mem_cons_of_mem _ h)
  have hown : s.vm.findClass RV = some m.cls := findClass_of_methodNamed B.named
  have hlocks := B.notSynchronized
  refine pw_nm (fun R Q hR hQ => ?_)
  refine pw_entry (vs := [.ref x, .int v, .int q]) hav (Nat.le_of_ble_eq_true rfl) (fun ls hl => ?_)
  have hl : lv_has ls 4 [(0, .ref x), (1, .int v), (2, .int q)] := hl
  have hL : ∀ z ∈ ([] : List Loc), (fun _ : Nat => False) z.base := fun _ h => by cases h
  have hS0 := hpv
  obtain ⟨p1, p2, p3, p4, p5, p6, p7, p8, p9, p10, p11, p12⟩ := hpv
  refine lv_aload_n hx hb dV_outcome_0 rfl (lv_at hl 0 rfl) ?_
  refine lv_iload_n hx hb dV_outcome_1 rfl (lv_at hl 1 rfl) ?_
  refine px_call (F := fun _ => False) (vx_runV (As := [.int v]) (rest := []) ⟨hx, hb, hml, hown, htA⟩ (c_find l hl9 G cA E x pa rs lo hi n F O po oc tb tc v) (cwV 1 htA (gd_V wd265 wd267 wd9 wd26 wd268) rfl rfl rfl (by decide +kernel) (by rw [hR]; exact ⟨Nat.le_of_ble_eq_true rfl, Nat.le_of_ble_eq_true rfl⟩)) (px_V (ci := 3) (q := (RV, TV, 4)) hKN hZ p1 rfl hS0) rfl rfl hl.1 rfl (lv_room (Nat.le_of_ble_eq_true rfl)) dV_outcome_2 (by rw [hR]; exact ⟨Nat.le_of_ble_eq_true rfl, Nat.le_of_ble_eq_true rfl⟩)) hL (fun q h => h) (fun E9 ce9 q9 st9 t9 lc9 h09 ha9 hL9 hx9 g1 g2 g3 => ?_) (fun v9 st9 t9 lc1 h09 ha9 hL hq9 => ?_)
  · rw [hQ]
    exact vx_out (fun x9 h9 => (htab x9 h9).elim) hlocks g1 g2 g3 (fun t ht _ => xR_up hx9 h09 (fun hc9 => Or.inl hc9) ht) hL9 (by omega) (by omega)
  · obtain ⟨a, ha, rfl, hv9, hh9⟩ := hq9
    cases hv9
    rw [h09] at hh9
    rw [hh9]
    refine lv_astore_n (lv' := [(3, .ref (po a)), (0, .ref x), (1, .int (nI a)), (2, .int q)]) hx hb dV_outcome_5 rfl hl (by decide) rfl (fun ls hl => ?_)
    refine lv_iload_n hx hb dV_outcome_6 rfl (lv_at hl 3 rfl) ?_
    refine px_call (F := fun _ => False) (vx_runS (As := [.int q]) (rest := []) ⟨hx, hb, hml, hown, htA⟩ (c_checkPacket l hl9 G cA E q) (va_cwS 1 htA (gd_S wd284 wd285 wd26 wd286) rfl rfl rfl (by decide +kernel) (by rw [hR]; exact ⟨Nat.le_of_ble_eq_true rfl, Nat.le_of_ble_eq_true rfl⟩)) (px_S hKN hZ trivial) rfl rfl hl.1 rfl (lv_room (Nat.le_of_ble_eq_true rfl)) dV_outcome_7 (by rw [hR]; exact ⟨Nat.le_of_ble_eq_true rfl, Nat.le_of_ble_eq_true rfl⟩)) hL (fun q h => h) (fun E9 ce9 q9 st9 t9 lc9 h09 ha9 hL9 hx9 g1 g2 g3 => ?_) (fun v9 st9 t9 lc2 h09 ha9 hL hq9 => ?_)
    · rw [hQ]
      exact vx_out (fun x9 h9 => (htab x9 h9).elim) hlocks g1 g2 g3 (fun t ht _ => xR_up hx9 h09 (fun hc9 => Or.inr ⟨hc9.1, inb_nI ha (by omega), hc9.2⟩) ht) hL9 (by omega) (by omega)
    · obtain ⟨k, hk, rfl, hv9, hh9⟩ := hq9
      cases hv9
      rw [h09] at hh9
      rw [hh9]
      refine lv_aload_n hx hb dV_outcome_10 rfl (lv_at hl 0 rfl) ?_
      refine va_get (D := G) (ci := 0) (v := .ref (oc a)) (C := RP) (T := TP) (N := 3) hx hb htA inP hown hK (ob_P (p6 a ha)) 0 rfl rfl 1 (by decide) (htA _ wd200) (fun _ h9 => h9) rfl dV_outcome_11 ?_
      refine lv_iload_n hx hb dV_outcome_14 rfl (lv_at hl 3 rfl) ?_
      refine pw_lald hx hb hK (p7 a ha) 0 rfl (by omega) (by decide) dV_outcome_15 ?_
      rw [hQ]
      refine vx_ret ?_
      refine W.widen (k := 2) (n := 12) (by omega) (by omega) ?_
      exact W.lret (v := (O a) k) hx hb hrt (fun t ht hW => ⟨_, rfl, ⟨a, k, ha, hk, rfl, rfl, rfl⟩, ht⟩) hL dV_outcome_16

set_option maxRecDepth 100000 in
set_option maxHeartbeats 4000000 in
theorem c_image (l : Launch) (hl9 : l.stackTraces = false) (G : va_G) (cA : Nat → ClassId) (E : Nat → Prop) (x pa rs lo hi n : Nat) (F : Nat → Bool) (O : Nat → Nat → Int64) (po oc : Nat → Nat) (tb : Nat → Option Nat) (tc : Nat → Nat × Nat × Nat) (v : Int32) (z : Int64) : vx_Met l yV_image wsV_image ({ frames := 7, cells := 1, slots := 6, locals := 121 }) (PX G cA E [.ref x, .int v, .long z] (fun H => pvS G cA x pa rs lo hi n F O po oc tb tc H)) (vp_Sl (fun r => ∃ a, a < n ∧ v = nI a ∧ r = gf (O a) z 64)) (xR (fun X => X = "java/util/NoSuchElementException" ∧ inb n v = false)) 1 6 (fun _ => False) := by
  refine vx_ofW (cc := cV_image) (maxL := 4) (ret := (some .long)) (by decide) rfl ?_
  intro p e s m args below meth c s₁ B hml htab hv
  obtain ⟨hav, hKN, hZ, hpv⟩ := hv
  have hK := hKN.1
  have hx := B.exec
  have hb := B.bytes
  have hrt := B.returns
  have htA : ∀ w ∈ ALL, w.before args s = true := fun w h => atoms_spec (ws := wsV_image) B.pre w (List.mem_cons_of_mem _ h)
  have hown : s.vm.findClass RV = some m.cls := findClass_of_methodNamed B.named
  have hlocks := B.notSynchronized
  refine pw_nm (fun R Q hR hQ => ?_)
  refine pw_entry (vs := [.ref x, .int v, .long z]) hav (Nat.le_of_ble_eq_true rfl) (fun ls hl => ?_)
  have hl : lv_has ls 4 [(0, .ref x), (1, .int v), (2, .long z)] := hl
  have hL : ∀ z ∈ ([] : List Loc), (fun _ : Nat => False) z.base := fun _ h => by cases h
  have hS0 := hpv
  obtain ⟨p1, p2, p3, p4, p5, p6, p7, p8, p9, p10, p11, p12⟩ := hpv
  refine lv_aload_n hx hb dV_image_0 rfl (lv_at hl 0 rfl) ?_
  refine lv_iload_n hx hb dV_image_1 rfl (lv_at hl 1 rfl) ?_
  refine px_call (F := fun _ => False) (vx_runV (As := [.int v]) (rest := []) ⟨hx, hb, hml, hown, htA⟩ (c_find l hl9 G cA E x pa rs lo hi n F O po oc tb tc v) (cwV 1 htA (gd_V wd265 wd267 wd9 wd26 wd268) rfl rfl rfl (by decide +kernel) (by rw [hR]; exact ⟨Nat.le_of_ble_eq_true rfl, Nat.le_of_ble_eq_true rfl⟩)) (px_V (ci := 3) (q := (RV, TV, 4)) hKN hZ p1 rfl hS0) rfl rfl hl.1 rfl (lv_room (Nat.le_of_ble_eq_true rfl)) dV_image_2 (by rw [hR]; exact ⟨Nat.le_of_ble_eq_true rfl, Nat.le_of_ble_eq_true rfl⟩)) hL (fun q h => h) (fun E9 ce9 q9 st9 t9 lc9 h09 ha9 hL9 hx9 g1 g2 g3 => ?_) (fun v9 st9 t9 lc1 h09 ha9 hL hq9 => ?_)
  · rw [hQ]
    exact vx_out (fun x9 h9 => (htab x9 h9).elim) hlocks g1 g2 g3 (fun t ht _ => xR_up hx9 h09 (fun hc9 => hc9) ht) hL9 (by omega) (by omega)
  · obtain ⟨a, ha, rfl, hv9, hh9⟩ := hq9
    cases hv9
    rw [h09] at hh9
    rw [hh9]
    refine va_get (D := G) (ci := 0) (v := .ref (oc a)) (C := RP) (T := TP) (N := 3) hx hb htA inP hown hK (ob_P (p6 a ha)) 0 rfl rfl 1 (by decide) (htA _ wd200) (fun _ h9 => h9) rfl dV_image_5 ?_
    refine lv_lload_n hx hb dV_image_8 rfl (lv_at hl 2 rfl) ?_
    refine vp_callSl (va_Run.run (va_runS (As := [.ref (oc a), .long z]) (rest := []) ⟨hx, hb, hml, hown, htA⟩ (c_givenFor l G cA (oc a) (O a) z) (va_cwS 2 htA (gd_S wd237 wd238 wd26 wd239) rfl rfl rfl (by decide +kernel) (by rw [hR]; exact ⟨Nat.le_of_ble_eq_true rfl, Nat.le_of_ble_eq_true rfl⟩)) (pw_S hKN (p7 a ha)) rfl rfl hl.1 rfl (lv_room (Nat.le_of_ble_eq_true rfl)) dV_image_9 (by rw [hR]; exact ⟨Nat.le_of_ble_eq_true rfl, Nat.le_of_ble_eq_true rfl⟩))) (fun r2 hr2 => ?_)
    subst hr2
    rw [hQ]
    refine vx_ret ?_
    refine W.widen (k := 1) (n := 6) (by omega) (by omega) ?_
    exact W.lret (v := gf (O a) z 64) hx hb hrt (fun t ht hW => ⟨_, rfl, ⟨a, ha, rfl, rfl⟩, ht⟩) hL dV_image_12

set_option maxRecDepth 100000 in
set_option maxHeartbeats 4000000 in
theorem c_filter (l : Launch) (hl9 : l.stackTraces = false) (G : va_G) (cA : Nat → ClassId) (E : Nat → Prop) (x pa rs lo hi n : Nat) (F : Nat → Bool) (O : Nat → Nat → Int64) (po oc : Nat → Nat) (tb : Nat → Option Nat) (tc : Nat → Nat × Nat × Nat) (v : Int32) : vx_Met l yV_filter wsV_filter ({ frames := 7, cells := 1, slots := 6, locals := 121 }) (PX G cA E [.ref x, .int v] (fun H => pvS G cA x pa rs lo hi n F O po oc tb tc H)) (vp_Si (fun r => ∃ a, a < n ∧ v = nI a ∧ r = bI (F a))) (xR (fun X => X = "java/util/NoSuchElementException" ∧ inb n v = false)) 1 6 (fun _ => False) := by
  refine vx_ofW (cc := cV_filter) (maxL := 2) (ret := (some .int)) (by decide) rfl ?_
  intro p e s m args below meth c s₁ B hml htab hv
  obtain ⟨hav, hKN, hZ, hpv⟩ := hv
  have hK := hKN.1
  have hx := B.exec
  have hb := B.bytes
  have hrt := B.returns
  have htA : ∀ w ∈ ALL, w.before args s = true := fun w h => atoms_spec (ws := wsV_filter) B.pre w (List.mem_cons_of_mem _ h)
  have hown : s.vm.findClass RV = some m.cls := findClass_of_methodNamed B.named
  have hlocks := B.notSynchronized
  refine pw_nm (fun R Q hR hQ => ?_)
  refine pw_entry (vs := [.ref x, .int v]) hav (Nat.le_of_ble_eq_true rfl) (fun ls hl => ?_)
  have hl : lv_has ls 2 [(0, .ref x), (1, .int v)] := hl
  have hL : ∀ z ∈ ([] : List Loc), (fun _ : Nat => False) z.base := fun _ h => by cases h
  have hS0 := hpv
  obtain ⟨p1, p2, p3, p4, p5, p6, p7, p8, p9, p10, p11, p12⟩ := hpv
  refine lv_aload_n hx hb dV_filter_0 rfl (lv_at hl 0 rfl) ?_
  refine lv_iload_n hx hb dV_filter_1 rfl (lv_at hl 1 rfl) ?_
  refine px_call (F := fun _ => False) (vx_runV (As := [.int v]) (rest := []) ⟨hx, hb, hml, hown, htA⟩ (c_find l hl9 G cA E x pa rs lo hi n F O po oc tb tc v) (cwV 1 htA (gd_V wd265 wd267 wd9 wd26 wd268) rfl rfl rfl (by decide +kernel) (by rw [hR]; exact ⟨Nat.le_of_ble_eq_true rfl, Nat.le_of_ble_eq_true rfl⟩)) (px_V (ci := 3) (q := (RV, TV, 4)) hKN hZ p1 rfl hS0) rfl rfl hl.1 rfl (lv_room (Nat.le_of_ble_eq_true rfl)) dV_filter_2 (by rw [hR]; exact ⟨Nat.le_of_ble_eq_true rfl, Nat.le_of_ble_eq_true rfl⟩)) hL (fun q h => h) (fun E9 ce9 q9 st9 t9 lc9 h09 ha9 hL9 hx9 g1 g2 g3 => ?_) (fun v9 st9 t9 lc1 h09 ha9 hL hq9 => ?_)
  · rw [hQ]
    exact vx_out (fun x9 h9 => (htab x9 h9).elim) hlocks g1 g2 g3 (fun t ht _ => xR_up hx9 h09 (fun hc9 => hc9) ht) hL9 (by omega) (by omega)
  · obtain ⟨a, ha, rfl, hv9, hh9⟩ := hq9
    cases hv9
    rw [h09] at hh9
    rw [hh9]
    refine va_get (D := G) (ci := 0) (v := .int (bI (F a))) (C := RP) (T := TP) (N := 3) hx hb htA inP hown hK (ob_P (p6 a ha)) 0 rfl rfl 0 (by decide) (htA _ wd198) (fun _ h9 => h9) rfl dV_filter_5 ?_
    refine lv_if_eq (tgt := 15) hx hb dV_filter_8 (by decide) (fun e1 => ?_) (fun e1 => ?_)
    · have hq := bI_eq.mp e1
      refine lv_iconst (v := nI 0) hx hb dV_filter_15 (by decide) ?_
      rw [hQ]
      refine vx_ret ?_
      refine W.widen (k := 1) (n := 6) (by omega) (by omega) ?_
      exact W.iret (v := nI 0) hx hb hrt (fun t ht hW => ⟨_, rfl, ⟨a, ha, rfl, by rw [hq]; rfl⟩, ht⟩) hL dV_filter_16
    · have hq := bI_ne.mp e1
      refine lv_iconst (v := nI 1) hx hb dV_filter_11 (by decide) ?_
      refine lv_goto (tgt := 16) hx hb dV_filter_12 (by decide) ?_
      rw [hQ]
      refine vx_ret ?_
      refine W.widen (k := 1) (n := 6) (by omega) (by omega) ?_
      exact W.iret (v := nI 1) hx hb hrt (fun t ht hW => ⟨_, rfl, ⟨a, ha, rfl, by rw [hq]; rfl⟩, ht⟩) hL dV_filter_16

set_option maxRecDepth 100000 in
set_option maxHeartbeats 4000000 in
theorem c_source (l : Launch) (hl9 : l.stackTraces = false) (G : va_G) (cA : Nat → ClassId) (E : Nat → Prop) (x pa rs lo hi n : Nat) (F : Nat → Bool) (O : Nat → Nat → Int64) (po oc : Nat → Nat) (tb : Nat → Option Nat) (tc : Nat → Nat × Nat × Nat) (v : Int32) (z : Int64) : vx_Met l yV_source wsV_source ({ frames := 7, cells := 1, slots := 6, locals := 121 }) (PX G cA E [.ref x, .int v, .long z] (fun H => pvS G cA x pa rs lo hi n F O po oc tb tc H)) (vp_Sl (fun r => ∃ a, a < n ∧ v = nI a ∧ r = src (O a) z 64)) (xR (fun X => X = "java/util/NoSuchElementException" ∧ inb n v = false)) 1 6 (fun _ => False) := by
  refine vx_ofW (cc := cV_source) (maxL := 8) (ret := (some .long)) (by decide) rfl ?_
  intro p e s m args below meth c s₁ B hml htab hv
  obtain ⟨hav, hKN, hZ, hpv⟩ := hv
  have hK := hKN.1
  have hx := B.exec
  have hb := B.bytes
  have hrt := B.returns
  have htA : ∀ w ∈ ALL, w.before args s = true := fun w h => atoms_spec (ws := wsV_source) B.pre w (List.mem_cons_of_mem _ h)
  have hown : s.vm.findClass RV = some m.cls := findClass_of_methodNamed B.named
  have hlocks := B.notSynchronized
  refine pw_nm (fun R Q hR hQ => ?_)
  refine pw_entry (vs := [.ref x, .int v, .long z]) hav (Nat.le_of_ble_eq_true rfl) (fun ls hl => ?_)
  have hl : lv_has ls 8 [(0, .ref x), (1, .int v), (2, .long z)] := hl
  have hL : ∀ z ∈ ([] : List Loc), (fun _ : Nat => False) z.base := fun _ h => by cases h
  have hS0 := hpv
  obtain ⟨p1, p2, p3, p4, p5, p6, p7, p8, p9, p10, p11, p12⟩ := hpv
  refine lv_aload_n hx hb dV_source_0 rfl (lv_at hl 0 rfl) ?_
  refine lv_iload_n hx hb dV_source_1 rfl (lv_at hl 1 rfl) ?_
  refine px_call (F := fun _ => False) (vx_runV (As := [.int v]) (rest := []) ⟨hx, hb, hml, hown, htA⟩ (c_find l hl9 G cA E x pa rs lo hi n F O po oc tb tc v) (cwV 1 htA (gd_V wd265 wd267 wd9 wd26 wd268) rfl rfl rfl (by decide +kernel) (by rw [hR]; exact ⟨Nat.le_of_ble_eq_true rfl, Nat.le_of_ble_eq_true rfl⟩)) (px_V (ci := 3) (q := (RV, TV, 4)) hKN hZ p1 rfl hS0) rfl rfl hl.1 rfl (lv_room (Nat.le_of_ble_eq_true rfl)) dV_source_2 (by rw [hR]; exact ⟨Nat.le_of_ble_eq_true rfl, Nat.le_of_ble_eq_true rfl⟩)) hL (fun q h => h) (fun E9 ce9 q9 st9 t9 lc9 h09 ha9 hL9 hx9 g1 g2 g3 => ?_) (fun v9 st9 t9 lc1 h09 ha9 hL hq9 => ?_)
  · rw [hQ]
    exact vx_out (fun x9 h9 => (htab x9 h9).elim) hlocks g1 g2 g3 (fun t ht _ => xR_up hx9 h09 (fun hc9 => hc9) ht) hL9 (by omega) (by omega)
  · obtain ⟨a, ha, rfl, hv9, hh9⟩ := hq9
    cases hv9
    rw [h09] at hh9
    rw [hh9]
    refine va_get (D := G) (ci := 0) (v := .ref (oc a)) (C := RP) (T := TP) (N := 3) hx hb htA inP hown hK (ob_P (p6 a ha)) 0 rfl rfl 1 (by decide) (htA _ wd200) (fun _ h9 => h9) rfl dV_source_5 ?_
    refine lv_astore (lv' := [(4, .ref (oc a)), (0, .ref x), (1, .int (nI a)), (2, .long z)]) hx hb dV_source_8 hl (by decide) rfl (fun ls hl => ?_)
    refine lv_lconst (v := 0) hx hb dV_source_10 rfl ?_
    refine lv_lstore (lv' := [(5, .long 0), (4, .ref (oc a)), (0, .ref x), (1, .int (nI a)), (2, .long z)]) hx hb dV_source_11 hl (by decide) rfl (fun ls hl => ?_)
    refine lv_iconst (v := nI 0) hx hb dV_source_13 (by decide) ?_
    refine lv_istore (lv' := [(7, .int (nI 0)), (5, .long 0), (4, .ref (oc a)), (0, .ref x), (1, .int (nI a)), (2, .long z)]) hx hb dV_source_14 hl (by decide) rfl (fun ls hl => ?_)
    have lp : ∀ (k i : Nat), i + k = 64 → ∀ ls : Array Slot, lv_has ls 8 [(2, .long z), (4, .ref (oc a)), (5, .long (src (O a) z i)), (7, .int (nI i))] → W p l e R s m args below meth c s.heap lc1 (0 + 1) (0 + 6) Q (F0 m 16 ls []) := by
      intro k
      induction k with
      | zero =>
        intro i hik ls hl
        have hi : i = 64 := by omega
        subst hi
        refine lv_iload hx hb dV_source_16 (lv_at hl 3 rfl) ?_
        refine lv_bipush (v := nI 64) hx hb dV_source_18 (by decide) ?_
        refine lv_icmp_ge (tgt := 51) hx hb dV_source_20 (by decide) (fun _ => ?_) (fun c9 => absurd (Int32.le_refl _) c9)
        refine lv_lload hx hb dV_source_51 (lv_at hl 2 rfl) ?_
        rw [hQ]
        refine vx_ret ?_
        refine W.widen (k := 1) (n := 6) (by omega) (by omega) ?_
        exact W.lret (v := src (O a) z 64) hx hb hrt (fun t ht hW => ⟨_, rfl, ⟨a, ha, rfl, rfl⟩, ht⟩) hL dV_source_53
      | succ k ih =>
        intro i hik ls hl
        have hi : i < 64 := by omega
        refine lv_iload hx hb dV_source_16 (lv_at hl 3 rfl) ?_
        refine lv_bipush (v := nI 64) hx hb dV_source_18 (by decide) ?_
        refine lv_icmp_ge (tgt := 51) hx hb dV_source_20 (by decide) (fun c9 => absurd c9 (nI_ge hi (by decide))) (fun _ => ?_)
        refine lv_aload hx hb dV_source_23 (lv_at hl 1 rfl) ?_
        refine lv_iload hx hb dV_source_25 (lv_at hl 3 rfl) ?_
        refine pw_lald hx hb hK (p7 a ha) 0 rfl (by omega) (by decide) dV_source_27 ?_
        refine lv_lload_n hx hb dV_source_28 rfl (lv_at hl 0 rfl) ?_
        refine lv_land hx hb dV_source_29 ?_
        refine lv_lconst (v := 0) hx hb dV_source_30 rfl ?_
        refine W.lcmp hx hb dV_source_31 ?_
        refine lv_if_eq (tgt := 45) hx hb dV_source_32 (by decide) (fun e3 => ?_) (fun e3 => ?_)
        · have hq := (cmp0 _ _).mp e3
          have hg : src (O a) z i = src (O a) z (i + 1) := by show _ = (if O a i &&& z = 0 then _ else _); rw [if_pos hq]
          rw [hg] at hl
          refine lv_iinc (v := nI (i + 1)) (lv' := [(7, .int (nI (i + 1))), (2, .long z), (4, .ref (oc a)), (5, .long (src (O a) z (i + 1)))]) hx hb dV_source_45 hl (k := 3) rfl (nI_1 i) (by decide) rfl (fun ls hl => ?_)
          refine lv_goto (tgt := 16) hx hb dV_source_48 (by decide) ?_
          exact ih (i + 1) (by omega) ls (lv_sub hl [1, 2, 3, 0] rfl)
        · have hq : ¬ O a i &&& z = 0 := fun q => e3 ((cmp0 _ _).mpr q)
          refine lv_lload hx hb dV_source_35 (lv_at hl 2 rfl) ?_
          refine lv_iload hx hb dV_source_37 (lv_at hl 3 rfl) ?_
          refine vp_callSl (va_Run.run (va_runS (As := [.int (nI i)]) (rest := [.long (src (O a) z i)]) ⟨hx, hb, hml, hown, htA⟩ (c_only l G cA i) (va_cwS 1 htA (gd_S wd226 wd227 wd26 wd228) rfl rfl rfl (by decide +kernel) (by rw [hR]; exact ⟨Nat.le_of_ble_eq_true rfl, Nat.le_of_ble_eq_true rfl⟩)) (pw_S hKN trivial) rfl rfl hl.1 rfl (lv_room (Nat.le_of_ble_eq_true rfl)) dV_source_39 (by rw [hR]; exact ⟨Nat.le_of_ble_eq_true rfl, Nat.le_of_ble_eq_true rfl⟩))) (fun r2 hr2 => ?_)
          subst hr2
          refine lv_lor hx hb dV_source_42 ?_
          refine pw_tl (y := src (O a) z (i + 1)) (by show _ = (if O a i &&& z = 0 then _ else _); rw [if_neg hq]) ?_
          refine lv_lstore (lv' := [(5, .long (src (O a) z (i + 1))), (2, .long z), (4, .ref (oc a)), (7, .int (nI i))]) hx hb dV_source_43 hl (by decide) rfl (fun ls hl => ?_)
          refine lv_iinc (v := nI (i + 1)) (lv' := [(7, .int (nI (i + 1))), (5, .long (src (O a) z (i + 1))), (2, .long z), (4, .ref (oc a))]) hx hb dV_source_45 hl (k := 3) rfl (nI_1 i) (by decide) rfl (fun ls hl => ?_)
          refine lv_goto (tgt := 16) hx hb dV_source_48 (by decide) ?_
          exact ih (i + 1) (by omega) ls (lv_sub hl [2, 3, 1, 0] rfl)
    exact lp (64) 0 (by omega) ls (lv_sub hl [5, 2, 1, 0] rfl)

set_option maxRecDepth 100000 in
set_option maxHeartbeats 4000000 in
theorem c_same (l : Launch) (hl9 : l.stackTraces = false) (G : va_G) (cA : Nat → ClassId) (E : Nat → Prop) (x pa rs lo hi n : Nat) (F : Nat → Bool) (O : Nat → Nat → Int64) (po oc : Nat → Nat) (tb : Nat → Option Nat) (tc : Nat → Nat × Nat × Nat) (v v2 : Int32) : vx_Met l yV_same wsV_same ({ frames := 7, cells := 2, slots := 12, locals := 121 }) (PX G cA E [.ref x, .int v, .int v2] (fun H => pvS G cA x pa rs lo hi n F O po oc tb tc H)) (vp_Si (fun r => ∃ a b, a < n ∧ b < n ∧ v = nI a ∧ v2 = nI b ∧  ∃ k, apR (O a) (O b) k ∧ ((k = 64 ∧ r = 1) ∨ (¬ k = 64 ∧ r = 0)))) (xR (fun X => X = "java/util/NoSuchElementException" ∧ (inb n v = false ∨ inb n v2 = false))) 2 12 (fun _ => False) := by
  refine vx_ofW (cc := cV_same) (maxL := 3) (ret := (some .int)) (by decide) rfl ?_
  intro p e s m args below meth c s₁ B hml htab hv
  obtain ⟨hav, hKN, hZ, hpv⟩ := hv
  have hK := hKN.1
  have hx := B.exec
  have hb := B.bytes
  have hrt := B.returns
  have htA : ∀ w ∈ ALL, w.before args s = true := fun w h => atoms_spec (ws := wsV_same) B.pre w (List.mem_cons_of_mem _ h)
  have hown : s.vm.findClass RV = some m.cls := findClass_of_methodNamed B.named
  have hlocks := B.notSynchronized
  refine pw_nm (fun R Q hR hQ => ?_)
  refine pw_entry (vs := [.ref x, .int v, .int v2]) hav (Nat.le_of_ble_eq_true rfl) (fun ls hl => ?_)
  have hl : lv_has ls 3 [(0, .ref x), (1, .int v), (2, .int v2)] := hl
  have hL : ∀ z ∈ ([] : List Loc), (fun _ : Nat => False) z.base := fun _ h => by cases h
  have hS0 := hpv
  obtain ⟨p1, p2, p3, p4, p5, p6, p7, p8, p9, p10, p11, p12⟩ := hpv
  refine lv_aload_n hx hb dV_same_0 rfl (lv_at hl 0 rfl) ?_
  refine lv_iload_n hx hb dV_same_1 rfl (lv_at hl 1 rfl) ?_
  refine px_call (F := fun _ => False) (vx_runV (As := [.int v]) (rest := []) ⟨hx, hb, hml, hown, htA⟩ (c_find l hl9 G cA E x pa rs lo hi n F O po oc tb tc v) (cwV 1 htA (gd_V wd265 wd267 wd9 wd26 wd268) rfl rfl rfl (by decide +kernel) (by rw [hR]; exact ⟨Nat.le_of_ble_eq_true rfl, Nat.le_of_ble_eq_true rfl⟩)) (px_V (ci := 3) (q := (RV, TV, 4)) hKN hZ p1 rfl hS0) rfl rfl hl.1 rfl (lv_room (Nat.le_of_ble_eq_true rfl)) dV_same_2 (by rw [hR]; exact ⟨Nat.le_of_ble_eq_true rfl, Nat.le_of_ble_eq_true rfl⟩)) hL (fun q h => h) (fun E9 ce9 q9 st9 t9 lc9 h09 ha9 hL9 hx9 g1 g2 g3 => ?_) (fun v9 st9 t9 lc1 h09 ha9 hL hq9 => ?_)
  · rw [hQ]
    exact vx_out (fun x9 h9 => (htab x9 h9).elim) hlocks g1 g2 g3 (fun t ht _ => xR_up hx9 h09 (fun hc9 => ⟨hc9.1, Or.inl hc9.2⟩) ht) hL9 (by omega) (by omega)
  · obtain ⟨a, ha, rfl, hv9, hh9⟩ := hq9
    cases hv9
    rw [h09] at hh9
    rw [hh9]
    refine va_get (D := G) (ci := 0) (v := .ref (oc a)) (C := RP) (T := TP) (N := 3) hx hb htA inP hown hK (ob_P (p6 a ha)) 0 rfl rfl 1 (by decide) (htA _ wd200) (fun _ h9 => h9) rfl dV_same_5 ?_
    refine lv_aload_n hx hb dV_same_8 rfl (lv_at hl 0 rfl) ?_
    refine lv_iload_n hx hb dV_same_9 rfl (lv_at hl 2 rfl) ?_
    refine px_call (F := fun _ => False) (vx_runV (As := [.int v2]) (rest := [.ref (oc a)]) ⟨hx, hb, hml, hown, htA⟩ (c_find l hl9 G cA E x pa rs lo hi n F O po oc tb tc v2) (cwV 1 htA (gd_V wd265 wd267 wd9 wd26 wd268) rfl rfl rfl (by decide +kernel) (by rw [hR]; exact ⟨Nat.le_of_ble_eq_true rfl, Nat.le_of_ble_eq_true rfl⟩)) (px_V (ci := 3) (q := (RV, TV, 4)) hKN hZ p1 rfl hS0) rfl rfl hl.1 rfl (lv_room (Nat.le_of_ble_eq_true rfl)) dV_same_10 (by rw [hR]; exact ⟨Nat.le_of_ble_eq_true rfl, Nat.le_of_ble_eq_true rfl⟩)) hL (fun q h => h) (fun E9 ce9 q9 st9 t9 lc9 h09 ha9 hL9 hx9 g1 g2 g3 => ?_) (fun v9 st9 t9 lc2 h09 ha9 hL hq9 => ?_)
    · rw [hQ]
      exact vx_out (fun x9 h9 => (htab x9 h9).elim) hlocks g1 g2 g3 (fun t ht _ => xR_up hx9 h09 (fun hc9 => ⟨hc9.1, Or.inr hc9.2⟩) ht) hL9 (by omega) (by omega)
    · obtain ⟨b, hb0, rfl, hv9, hh9⟩ := hq9
      cases hv9
      rw [h09] at hh9
      rw [hh9]
      refine va_get (D := G) (ci := 0) (v := .ref (oc b)) (C := RP) (T := TP) (N := 3) hx hb htA inP hown hK (ob_P (p6 b hb0)) 0 rfl rfl 1 (by decide) (htA _ wd200) (fun _ h9 => h9) rfl dV_same_13 ?_
      refine vp_callSi (va_Run.run (va_runS (As := [.ref (oc a), .ref (oc b)]) (rest := []) ⟨hx, hb, hml, hown, htA⟩ (c_leastDifference l G cA (oc a) (oc b) (O a) (O b)) (va_cwS 2 htA (gd_S wd254 wd255 wd26 wd256) rfl rfl rfl (by decide +kernel) (by rw [hR]; exact ⟨Nat.le_of_ble_eq_true rfl, Nat.le_of_ble_eq_true rfl⟩)) (pw_S hKN ⟨p7 a ha, p7 b hb0⟩) rfl rfl hl.1 rfl (lv_room (Nat.le_of_ble_eq_true rfl)) dV_same_16 (by rw [hR]; exact ⟨Nat.le_of_ble_eq_true rfl, Nat.le_of_ble_eq_true rfl⟩))) (fun r3 hr3 => ?_)
      rcases hr3 with ⟨k, hk, hap, rfl⟩ | ⟨hap, rfl⟩
      · refine lv_iconst (v := (-1)) hx hb dV_same_19 (by decide) ?_
        refine lv_icmp_ne (tgt := 27) hx hb dV_same_20 (by decide) (fun _ => ?_) (fun c9 => absurd c9 (fun e9 => by have := congrArg Int32.toInt e9; rw [nI_toInt (by omega)] at this; exact absurd this (by have : (-1 : Int32).toInt = -1 := (by decide); omega)))
        refine lv_iconst (v := nI 0) hx hb dV_same_27 (by decide) ?_
        rw [hQ]
        refine vx_ret ?_
        refine W.widen (k := 2) (n := 12) (by omega) (by omega) ?_
        exact W.iret (v := nI 0) hx hb hrt (fun t ht hW => ⟨_, rfl, ⟨a, b, ha, hb0, rfl, rfl, k, hap, Or.inr ⟨by omega, rfl⟩⟩, ht⟩) hL dV_same_28
      · refine lv_iconst (v := (-1)) hx hb dV_same_19 (by decide) ?_
        refine lv_icmp_ne (tgt := 27) hx hb dV_same_20 (by decide) (fun c9 => absurd rfl c9) (fun _ => ?_)
        refine lv_iconst (v := nI 1) hx hb dV_same_23 (by decide) ?_
        refine lv_goto (tgt := 28) hx hb dV_same_24 (by decide) ?_
        rw [hQ]
        refine vx_ret ?_
        refine W.widen (k := 2) (n := 12) (by omega) (by omega) ?_
        exact W.iret (v := nI 1) hx hb hrt (fun t ht hW => ⟨_, rfl, ⟨a, b, ha, hb0, rfl, rfl, 64, hap, Or.inl ⟨rfl, rfl⟩⟩, ht⟩) hL dV_same_28

set_option maxRecDepth 100000 in
set_option maxHeartbeats 4000000 in
theorem c_differ (l : Launch) (hl9 : l.stackTraces = false) (G : va_G) (cA : Nat → ClassId) (E : Nat → Prop) (x pa rs lo hi n : Nat) (F : Nat → Bool) (O : Nat → Nat → Int64) (po oc : Nat → Nat) (tb : Nat → Option Nat) (tc : Nat → Nat × Nat × Nat) (v v2 : Int32) : vx_Met l yV_differ wsV_differ ({ frames := 7, cells := 3, slots := 18, locals := 121 }) (PX G cA E [.ref x, .int v, .int v2] (fun H => pvS G cA x pa rs lo hi n F O po oc tb tc H)) (vp_Si (fun r => ∃ a b, a < n ∧ b < n ∧ v = nI a ∧ v2 = nI b ∧  ∃ k, k < 64 ∧ apR (O a) (O b) k ∧ r = nI k)) (xR (fun X => (X = "java/util/NoSuchElementException" ∧ (inb n v = false ∨ inb n v2 = false)) ∨ (X = "java/lang/UnsupportedOperationException" ∧ (∃ a b, a < n ∧ b < n ∧ v = nI a ∧ v2 = nI b ∧  apR (O a) (O b) 64)))) 3 18 (fun _ => False) := by
  refine vx_ofW (cc := cV_differ) (maxL := 4) (ret := (some .int)) (by decide) rfl ?_
  intro p e s m args below meth c s₁ B hml htab hv
  obtain ⟨hav, hKN, hZ, hpv⟩ := hv
  have hK := hKN.1
  have hx := B.exec
  have hb := B.bytes
  have hrt := B.returns
  have htA : ∀ w ∈ ALL, w.before args s = true := fun w h => atoms_spec (ws := wsV_differ) B.pre w (List.mem_cons_of_mem _ h)
  have hown : s.vm.findClass RV = some m.cls := findClass_of_methodNamed B.named
  have hlocks := B.notSynchronized
  refine pw_nm (fun R Q hR hQ => ?_)
  refine pw_entry (vs := [.ref x, .int v, .int v2]) hav (Nat.le_of_ble_eq_true rfl) (fun ls hl => ?_)
  have hl : lv_has ls 4 [(0, .ref x), (1, .int v), (2, .int v2)] := hl
  have hL : ∀ z ∈ ([] : List Loc), (fun _ : Nat => False) z.base := fun _ h => by cases h
  have hS0 := hpv
  obtain ⟨p1, p2, p3, p4, p5, p6, p7, p8, p9, p10, p11, p12⟩ := hpv
  refine lv_aload_n hx hb dV_differ_0 rfl (lv_at hl 0 rfl) ?_
  refine lv_iload_n hx hb dV_differ_1 rfl (lv_at hl 1 rfl) ?_
  refine px_call (F := fun _ => False) (vx_runV (As := [.int v]) (rest := []) ⟨hx, hb, hml, hown, htA⟩ (c_find l hl9 G cA E x pa rs lo hi n F O po oc tb tc v) (cwV 1 htA (gd_V wd265 wd267 wd9 wd26 wd268) rfl rfl rfl (by decide +kernel) (by rw [hR]; exact ⟨Nat.le_of_ble_eq_true rfl, Nat.le_of_ble_eq_true rfl⟩)) (px_V (ci := 3) (q := (RV, TV, 4)) hKN hZ p1 rfl hS0) rfl rfl hl.1 rfl (lv_room (Nat.le_of_ble_eq_true rfl)) dV_differ_2 (by rw [hR]; exact ⟨Nat.le_of_ble_eq_true rfl, Nat.le_of_ble_eq_true rfl⟩)) hL (fun q h => h) (fun E9 ce9 q9 st9 t9 lc9 h09 ha9 hL9 hx9 g1 g2 g3 => ?_) (fun v9 st9 t9 lc1 h09 ha9 hL hq9 => ?_)
  · rw [hQ]
    exact vx_out (fun x9 h9 => (htab x9 h9).elim) hlocks g1 g2 g3 (fun t ht _ => xR_up hx9 h09 (fun hc9 => Or.inl ⟨hc9.1, Or.inl hc9.2⟩) ht) hL9 (by omega) (by omega)
  · obtain ⟨a, ha, rfl, hv9, hh9⟩ := hq9
    cases hv9
    rw [h09] at hh9
    rw [hh9]
    refine va_get (D := G) (ci := 0) (v := .ref (oc a)) (C := RP) (T := TP) (N := 3) hx hb htA inP hown hK (ob_P (p6 a ha)) 0 rfl rfl 1 (by decide) (htA _ wd200) (fun _ h9 => h9) rfl dV_differ_5 ?_
    refine lv_aload_n hx hb dV_differ_8 rfl (lv_at hl 0 rfl) ?_
    refine lv_iload_n hx hb dV_differ_9 rfl (lv_at hl 2 rfl) ?_
    refine px_call (F := fun _ => False) (vx_runV (As := [.int v2]) (rest := [.ref (oc a)]) ⟨hx, hb, hml, hown, htA⟩ (c_find l hl9 G cA E x pa rs lo hi n F O po oc tb tc v2) (cwV 1 htA (gd_V wd265 wd267 wd9 wd26 wd268) rfl rfl rfl (by decide +kernel) (by rw [hR]; exact ⟨Nat.le_of_ble_eq_true rfl, Nat.le_of_ble_eq_true rfl⟩)) (px_V (ci := 3) (q := (RV, TV, 4)) hKN hZ p1 rfl hS0) rfl rfl hl.1 rfl (lv_room (Nat.le_of_ble_eq_true rfl)) dV_differ_10 (by rw [hR]; exact ⟨Nat.le_of_ble_eq_true rfl, Nat.le_of_ble_eq_true rfl⟩)) hL (fun q h => h) (fun E9 ce9 q9 st9 t9 lc9 h09 ha9 hL9 hx9 g1 g2 g3 => ?_) (fun v9 st9 t9 lc2 h09 ha9 hL hq9 => ?_)
    · rw [hQ]
      exact vx_out (fun x9 h9 => (htab x9 h9).elim) hlocks g1 g2 g3 (fun t ht _ => xR_up hx9 h09 (fun hc9 => Or.inl ⟨hc9.1, Or.inr hc9.2⟩) ht) hL9 (by omega) (by omega)
    · obtain ⟨b, hb0, rfl, hv9, hh9⟩ := hq9
      cases hv9
      rw [h09] at hh9
      rw [hh9]
      refine va_get (D := G) (ci := 0) (v := .ref (oc b)) (C := RP) (T := TP) (N := 3) hx hb htA inP hown hK (ob_P (p6 b hb0)) 0 rfl rfl 1 (by decide) (htA _ wd200) (fun _ h9 => h9) rfl dV_differ_13 ?_
      refine vp_callSi (va_Run.run (va_runS (As := [.ref (oc a), .ref (oc b)]) (rest := []) ⟨hx, hb, hml, hown, htA⟩ (c_leastDifference l G cA (oc a) (oc b) (O a) (O b)) (va_cwS 2 htA (gd_S wd254 wd255 wd26 wd256) rfl rfl rfl (by decide +kernel) (by rw [hR]; exact ⟨Nat.le_of_ble_eq_true rfl, Nat.le_of_ble_eq_true rfl⟩)) (pw_S hKN ⟨p7 a ha, p7 b hb0⟩) rfl rfl hl.1 rfl (lv_room (Nat.le_of_ble_eq_true rfl)) dV_differ_16 (by rw [hR]; exact ⟨Nat.le_of_ble_eq_true rfl, Nat.le_of_ble_eq_true rfl⟩))) (fun r3 hr3 => ?_)
      rcases hr3 with ⟨k, hk, hap, rfl⟩ | ⟨hap, rfl⟩
      · refine lv_istore_n (lv' := [(3, .int (nI k)), (0, .ref x), (1, .int (nI a)), (2, .int (nI b))]) hx hb dV_differ_19 rfl hl (by decide) rfl (fun ls hl => ?_)
        refine lv_iload_n hx hb dV_differ_20 rfl (lv_at hl 0 rfl) ?_
        refine lv_iconst (v := (-1)) hx hb dV_differ_21 (by decide) ?_
        refine lv_icmp_ne (tgt := 33) hx hb dV_differ_22 (by decide) (fun _ => ?_) (fun c9 => absurd c9 (fun e9 => by have := congrArg Int32.toInt e9; rw [nI_toInt (by omega)] at this; exact absurd this (by have : (-1 : Int32).toInt = -1 := (by decide); omega)))
        refine lv_iload_n hx hb dV_differ_33 rfl (lv_at hl 0 rfl) ?_
        rw [hQ]
        refine vx_ret ?_
        refine W.widen (k := 3) (n := 18) (by omega) (by omega) ?_
        exact W.iret (v := nI k) hx hb hrt (fun t ht hW => ⟨_, rfl, ⟨a, b, ha, hb0, rfl, rfl, k, hk, hap, rfl⟩, ht⟩) hL dV_differ_34
      · refine lv_istore_n (lv' := [(3, .int (-1)), (0, .ref x), (1, .int (nI a)), (2, .int (nI b))]) hx hb dV_differ_19 rfl hl (by decide) rfl (fun ls hl => ?_)
        refine lv_iload_n hx hb dV_differ_20 rfl (lv_at hl 0 rfl) ?_
        refine lv_iconst (v := (-1)) hx hb dV_differ_21 (by decide) ?_
        refine lv_icmp_ne (tgt := 33) hx hb dV_differ_22 (by decide) (fun c9 => absurd rfl c9) (fun _ => ?_)
        rw [hQ]
        exact px_thr (cls := "java/lang/UnsupportedOperationException") (ik := 40) (ic := 42) hx hb hl9 hown (by decide +kernel) htA hKN wd158 wd33 tw42a tw42b tw42c hZ ⟨Nat.le_refl _, fun _ _ _ => rfl, fun z9 h9 => (hL z9 h9).elim⟩ (by rw [hml]; exact hl.1) dV_differ_25 dV_differ_28 dV_differ_29 dV_differ_32 htab (by rw [hR]; exact Nat.lt_of_lt_of_le (by decide) (Nat.le_refl _)) (by rw [hR]; exact Nat.le_of_ble_eq_true rfl) (by rw [hR]; exact Nat.le_of_ble_eq_true rfl) (by rw [hR]; exact Nat.le_of_ble_eq_true rfl) hlocks (fun t _ h1 h2 => ⟨Or.inr ⟨rfl, a, b, ha, hb0, rfl, rfl, hap⟩, h1, h2⟩) hL (by omega) (by omega)

set_option maxRecDepth 100000 in
set_option maxHeartbeats 4000000 in
theorem c_covers (l : Launch) (hl9 : l.stackTraces = false) (G : va_G) (cA : Nat → ClassId) (E : Nat → Prop) (x pa rs lo hi n : Nat) (F : Nat → Bool) (O : Nat → Nat → Int64) (po oc : Nat → Nat) (tb : Nat → Option Nat) (tc : Nat → Nat × Nat × Nat) (v v2 : Int32) : vx_Met l yV_covers wsV_covers ({ frames := 7, cells := 2, slots := 12, locals := 121 }) (PX G cA E [.ref x, .int v, .int v2] (fun H => pvS G cA x pa rs lo hi n F O po oc tb tc H)) (vp_Si (fun r => ∃ a b, a < n ∧ b < n ∧ v = nI a ∧ v2 = nI b ∧  (((∀ k, k < 64 → (O b k &&& (O a k ^^^ (-1))) = 0) ∧ r = 1) ∨ ((∃ k, k < 64 ∧ ¬ (O b k &&& (O a k ^^^ (-1))) = 0) ∧ r = 0)))) (xR (fun X => X = "java/util/NoSuchElementException" ∧ (inb n v = false ∨ inb n v2 = false))) 2 12 (fun _ => False) := by
  refine vx_ofW (cc := cV_covers) (maxL := 6) (ret := (some .int)) (by decide) rfl ?_
  intro p e s m args below meth c s₁ B hml htab hv
  obtain ⟨hav, hKN, hZ, hpv⟩ := hv
  have hK := hKN.1
  have hx := B.exec
  have hb := B.bytes
  have hrt := B.returns
  have htA : ∀ w ∈ ALL, w.before args s = true := fun w h => atoms_spec (ws := wsV_covers) B.pre w (List.mem_cons_of_mem _ h)
  have hown : s.vm.findClass RV = some m.cls := findClass_of_methodNamed B.named
  have hlocks := B.notSynchronized
  refine pw_nm (fun R Q hR hQ => ?_)
  refine pw_entry (vs := [.ref x, .int v, .int v2]) hav (Nat.le_of_ble_eq_true rfl) (fun ls hl => ?_)
  have hl : lv_has ls 6 [(0, .ref x), (1, .int v), (2, .int v2)] := hl
  have hL : ∀ z ∈ ([] : List Loc), (fun _ : Nat => False) z.base := fun _ h => by cases h
  have hS0 := hpv
  obtain ⟨p1, p2, p3, p4, p5, p6, p7, p8, p9, p10, p11, p12⟩ := hpv
  refine lv_aload_n hx hb dV_covers_0 rfl (lv_at hl 0 rfl) ?_
  refine lv_iload_n hx hb dV_covers_1 rfl (lv_at hl 1 rfl) ?_
  refine px_call (F := fun _ => False) (vx_runV (As := [.int v]) (rest := []) ⟨hx, hb, hml, hown, htA⟩ (c_find l hl9 G cA E x pa rs lo hi n F O po oc tb tc v) (cwV 1 htA (gd_V wd265 wd267 wd9 wd26 wd268) rfl rfl rfl (by decide +kernel) (by rw [hR]; exact ⟨Nat.le_of_ble_eq_true rfl, Nat.le_of_ble_eq_true rfl⟩)) (px_V (ci := 3) (q := (RV, TV, 4)) hKN hZ p1 rfl hS0) rfl rfl hl.1 rfl (lv_room (Nat.le_of_ble_eq_true rfl)) dV_covers_2 (by rw [hR]; exact ⟨Nat.le_of_ble_eq_true rfl, Nat.le_of_ble_eq_true rfl⟩)) hL (fun q h => h) (fun E9 ce9 q9 st9 t9 lc9 h09 ha9 hL9 hx9 g1 g2 g3 => ?_) (fun v9 st9 t9 lc1 h09 ha9 hL hq9 => ?_)
  · rw [hQ]
    exact vx_out (fun x9 h9 => (htab x9 h9).elim) hlocks g1 g2 g3 (fun t ht _ => xR_up hx9 h09 (fun hc9 => ⟨hc9.1, Or.inl hc9.2⟩) ht) hL9 (by omega) (by omega)
  · obtain ⟨a, ha, rfl, hv9, hh9⟩ := hq9
    cases hv9
    rw [h09] at hh9
    rw [hh9]
    refine va_get (D := G) (ci := 0) (v := .ref (oc a)) (C := RP) (T := TP) (N := 3) hx hb htA inP hown hK (ob_P (p6 a ha)) 0 rfl rfl 1 (by decide) (htA _ wd200) (fun _ h9 => h9) rfl dV_covers_5 ?_
    refine lv_astore_n (lv' := [(3, .ref (oc a)), (0, .ref x), (1, .int (nI a)), (2, .int v2)]) hx hb dV_covers_8 rfl hl (by decide) rfl (fun ls hl => ?_)
    refine lv_aload_n hx hb dV_covers_9 rfl (lv_at hl 1 rfl) ?_
    refine lv_iload_n hx hb dV_covers_10 rfl (lv_at hl 3 rfl) ?_
    refine px_call (F := fun _ => False) (vx_runV (As := [.int v2]) (rest := []) ⟨hx, hb, hml, hown, htA⟩ (c_find l hl9 G cA E x pa rs lo hi n F O po oc tb tc v2) (cwV 1 htA (gd_V wd265 wd267 wd9 wd26 wd268) rfl rfl rfl (by decide +kernel) (by rw [hR]; exact ⟨Nat.le_of_ble_eq_true rfl, Nat.le_of_ble_eq_true rfl⟩)) (px_V (ci := 3) (q := (RV, TV, 4)) hKN hZ p1 rfl hS0) rfl rfl hl.1 rfl (lv_room (Nat.le_of_ble_eq_true rfl)) dV_covers_11 (by rw [hR]; exact ⟨Nat.le_of_ble_eq_true rfl, Nat.le_of_ble_eq_true rfl⟩)) hL (fun q h => h) (fun E9 ce9 q9 st9 t9 lc9 h09 ha9 hL9 hx9 g1 g2 g3 => ?_) (fun v9 st9 t9 lc2 h09 ha9 hL hq9 => ?_)
    · rw [hQ]
      exact vx_out (fun x9 h9 => (htab x9 h9).elim) hlocks g1 g2 g3 (fun t ht _ => xR_up hx9 h09 (fun hc9 => ⟨hc9.1, Or.inr hc9.2⟩) ht) hL9 (by omega) (by omega)
    · obtain ⟨b, hb0, rfl, hv9, hh9⟩ := hq9
      cases hv9
      rw [h09] at hh9
      rw [hh9]
      refine va_get (D := G) (ci := 0) (v := .ref (oc b)) (C := RP) (T := TP) (N := 3) hx hb htA inP hown hK (ob_P (p6 b hb0)) 0 rfl rfl 1 (by decide) (htA _ wd200) (fun _ h9 => h9) rfl dV_covers_14 ?_
      refine lv_astore (lv' := [(4, .ref (oc b)), (3, .ref (oc a)), (0, .ref x), (1, .int (nI a)), (2, .int (nI b))]) hx hb dV_covers_17 hl (by decide) rfl (fun ls hl => ?_)
      refine lv_iconst (v := nI 0) hx hb dV_covers_19 (by decide) ?_
      refine lv_istore (lv' := [(5, .int (nI 0)), (4, .ref (oc b)), (3, .ref (oc a)), (0, .ref x), (1, .int (nI a)), (2, .int (nI b))]) hx hb dV_covers_20 hl (by decide) rfl (fun ls hl => ?_)
      have lp : ∀ (k i : Nat), i + k = 64 → (∀ k, k < i → (O b k &&& (O a k ^^^ (-1))) = 0) → ∀ ls : Array Slot, lv_has ls 6 [(3, .ref (oc a)), (4, .ref (oc b)), (5, .int (nI i))] → W p l e R s m args below meth c s.heap lc2 (0 + 1 + 1) (0 + 6 + 6) Q (F0 m 22 ls []) := by
        intro k
        induction k with
        | zero =>
          intro i hik hinv ls hl
          have hi : i = 64 := by omega
          subst hi
          refine lv_iload hx hb dV_covers_22 (lv_at hl 2 rfl) ?_
          refine lv_bipush (v := nI 64) hx hb dV_covers_24 (by decide) ?_
          refine lv_icmp_ge (tgt := 56) hx hb dV_covers_26 (by decide) (fun _ => ?_) (fun c9 => absurd (Int32.le_refl _) c9)
          refine lv_iconst (v := nI 1) hx hb dV_covers_56 (by decide) ?_
          rw [hQ]
          refine vx_ret ?_
          refine W.widen (k := 2) (n := 12) (by omega) (by omega) ?_
          exact W.iret (v := nI 1) hx hb hrt (fun t ht hW => ⟨_, rfl, ⟨a, b, ha, hb0, rfl, rfl, Or.inl ⟨hinv, rfl⟩⟩, ht⟩) hL dV_covers_57
        | succ k ih =>
          intro i hik hinv ls hl
          have hi : i < 64 := by omega
          refine lv_iload hx hb dV_covers_22 (lv_at hl 2 rfl) ?_
          refine lv_bipush (v := nI 64) hx hb dV_covers_24 (by decide) ?_
          refine lv_icmp_ge (tgt := 56) hx hb dV_covers_26 (by decide) (fun c9 => absurd c9 (nI_ge hi (by decide))) (fun _ => ?_)
          refine lv_aload hx hb dV_covers_29 (lv_at hl 1 rfl) ?_
          refine lv_iload hx hb dV_covers_31 (lv_at hl 2 rfl) ?_
          refine pw_lald hx hb hK (p7 b hb0) 0 rfl (by omega) (by decide) dV_covers_33 ?_
          refine lv_aload_n hx hb dV_covers_34 rfl (lv_at hl 0 rfl) ?_
          refine lv_iload hx hb dV_covers_35 (lv_at hl 2 rfl) ?_
          refine pw_lald hx hb hK (p7 a ha) 0 rfl (by omega) (by decide) dV_covers_37 ?_
          refine lv_ldc2 hx hb hown (htA _ wd322) dV_covers_38 ?_
          refine lv_lxor hx hb dV_covers_41 ?_
          refine lv_land hx hb dV_covers_42 ?_
          refine lv_lconst (v := 0) hx hb dV_covers_43 rfl ?_
          refine W.lcmp hx hb dV_covers_44 ?_
          refine lv_if_eq (tgt := 50) hx hb dV_covers_45 (by decide) (fun e3 => ?_) (fun e3 => ?_)
          · have hq := (cmp0 _ _).mp e3
            refine lv_iinc (v := nI (i + 1)) (lv' := [(5, .int (nI (i + 1))), (3, .ref (oc a)), (4, .ref (oc b))]) hx hb dV_covers_50 hl (k := 2) rfl (nI_1 i) (by decide) rfl (fun ls hl => ?_)
            refine lv_goto (tgt := 22) hx hb dV_covers_53 (by decide) ?_
            exact ih (i + 1) (by omega) (lt_s hinv hq) ls (lv_sub hl [1, 2, 0] rfl)
          · refine lv_iconst (v := nI 0) hx hb dV_covers_48 (by decide) ?_
            rw [hQ]
            refine vx_ret ?_
            refine W.widen (k := 2) (n := 12) (by omega) (by omega) ?_
            exact W.iret (v := nI 0) hx hb hrt (fun t ht hW => ⟨_, rfl, ⟨a, b, ha, hb0, rfl, rfl, Or.inr ⟨⟨i, hi, fun q => e3 ((cmp0 _ _).mpr q)⟩, rfl⟩⟩, ht⟩) hL dV_covers_49
      exact lp (64) 0 (by omega) lt_0 ls (lv_sub hl [2, 1, 0] rfl)

set_option maxRecDepth 100000 in
set_option maxHeartbeats 4000000 in
theorem c_hops (l : Launch) (hl9 : l.stackTraces = false) (G : va_G) (cA : Nat → ClassId) (E : Nat → Prop) (x pa rs lo hi n : Nat) (F : Nat → Bool) (O : Nat → Nat → Int64) (po oc : Nat → Nat) (tb : Nat → Option Nat) (tc : Nat → Nat × Nat × Nat) (v q : Int32) (z : Int64) : vx_Met l yV_hops wsV_hops ({ frames := 7, cells := 2, slots := 12, locals := 121 }) (PX G cA E [.ref x, .int v, .int q, .long z] (fun H => pvS G cA x pa rs lo hi n F O po oc tb tc H)) (vp_Si (fun r => ∃ a k, a < n ∧ k < 64 ∧ v = nI a ∧ q = nI k ∧ hopR (O a) k z r)) (xR (fun X => (X = "java/util/NoSuchElementException" ∧ inb n v = false) ∨ (X = "java/lang/IllegalArgumentException" ∧ inb n v = true ∧ inb 64 q = false))) 2 12 (fun _ => False) := by
  refine vx_ofW (cc := cV_hops) (maxL := 11) (ret := (some .int)) (by decide) rfl ?_
  intro p e s m args below meth c s₁ B hml htab hv
  obtain ⟨hav, hKN, hZ, hpv⟩ := hv
  have hK := hKN.1
  have hx := B.exec
  have hb := B.bytes
  have hrt := B.returns
  have htA : ∀ w ∈ ALL, w.before args s = true := fun w h => atoms_spec (ws := wsV_hops) B.pre w (List.mem_cons_of_mem _ h)
  have hown : s.vm.findClass RV = some m.cls := findClass_of_methodNamed B.named
  have hlocks := B.notSynchronized
  refine pw_nm (fun R Q hR hQ => ?_)
  refine pw_entry (vs := [.ref x, .int v, .int q, .long z]) hav (Nat.le_of_ble_eq_true rfl) (fun ls hl => ?_)
  have hl : lv_has ls 11 [(0, .ref x), (1, .int v), (2, .int q), (3, .long z)] := hl
  have hL : ∀ z ∈ ([] : List Loc), (fun _ : Nat => False) z.base := fun _ h => by cases h
  have hS0 := hpv
  obtain ⟨p1, p2, p3, p4, p5, p6, p7, p8, p9, p10, p11, p12⟩ := hpv
  refine lv_aload_n hx hb dV_hops_0 rfl (lv_at hl 0 rfl) ?_
  refine lv_iload_n hx hb dV_hops_1 rfl (lv_at hl 1 rfl) ?_
  refine px_call (F := fun _ => False) (vx_runV (As := [.int v]) (rest := []) ⟨hx, hb, hml, hown, htA⟩ (c_find l hl9 G cA E x pa rs lo hi n F O po oc tb tc v) (cwV 1 htA (gd_V wd265 wd267 wd9 wd26 wd268) rfl rfl rfl (by decide +kernel) (by rw [hR]; exact ⟨Nat.le_of_ble_eq_true rfl, Nat.le_of_ble_eq_true rfl⟩)) (px_V (ci := 3) (q := (RV, TV, 4)) hKN hZ p1 rfl hS0) rfl rfl hl.1 rfl (lv_room (Nat.le_of_ble_eq_true rfl)) dV_hops_2 (by rw [hR]; exact ⟨Nat.le_of_ble_eq_true rfl, Nat.le_of_ble_eq_true rfl⟩)) hL (fun q h => h) (fun E9 ce9 q9 st9 t9 lc9 h09 ha9 hL9 hx9 g1 g2 g3 => ?_) (fun v9 st9 t9 lc1 h09 ha9 hL hq9 => ?_)
  · rw [hQ]
    exact vx_out (fun x9 h9 => (htab x9 h9).elim) hlocks g1 g2 g3 (fun t ht _ => xR_up hx9 h09 (fun hc9 => Or.inl hc9) ht) hL9 (by omega) (by omega)
  · obtain ⟨a, ha, rfl, hv9, hh9⟩ := hq9
    cases hv9
    rw [h09] at hh9
    rw [hh9]
    refine va_get (D := G) (ci := 0) (v := .ref (oc a)) (C := RP) (T := TP) (N := 3) hx hb htA inP hown hK (ob_P (p6 a ha)) 0 rfl rfl 1 (by decide) (htA _ wd200) (fun _ h9 => h9) rfl dV_hops_5 ?_
    refine lv_astore (lv' := [(5, .ref (oc a)), (0, .ref x), (1, .int (nI a)), (2, .int q), (3, .long z)]) hx hb dV_hops_8 hl (by decide) rfl (fun ls hl => ?_)
    refine lv_iload_n hx hb dV_hops_10 rfl (lv_at hl 3 rfl) ?_
    refine px_call (F := fun _ => False) (vx_runS (As := [.int q]) (rest := []) ⟨hx, hb, hml, hown, htA⟩ (c_checkPacket l hl9 G cA E q) (va_cwS 1 htA (gd_S wd284 wd285 wd26 wd286) rfl rfl rfl (by decide +kernel) (by rw [hR]; exact ⟨Nat.le_of_ble_eq_true rfl, Nat.le_of_ble_eq_true rfl⟩)) (px_S hKN hZ trivial) rfl rfl hl.1 rfl (lv_room (Nat.le_of_ble_eq_true rfl)) dV_hops_11 (by rw [hR]; exact ⟨Nat.le_of_ble_eq_true rfl, Nat.le_of_ble_eq_true rfl⟩)) hL (fun q h => h) (fun E9 ce9 q9 st9 t9 lc9 h09 ha9 hL9 hx9 g1 g2 g3 => ?_) (fun v9 st9 t9 lc2 h09 ha9 hL hq9 => ?_)
    · rw [hQ]
      exact vx_out (fun x9 h9 => (htab x9 h9).elim) hlocks g1 g2 g3 (fun t ht _ => xR_up hx9 h09 (fun hc9 => Or.inr ⟨hc9.1, inb_nI ha (by omega), hc9.2⟩) ht) hL9 (by omega) (by omega)
    · obtain ⟨kp, hk, rfl, hv9, hh9⟩ := hq9
      cases hv9
      rw [h09] at hh9
      rw [hh9]
      refine lv_iload_n hx hb dV_hops_14 rfl (lv_at hl 3 rfl) ?_
      refine vp_callSl (va_Run.run (va_runS (As := [.int (nI kp)]) (rest := []) ⟨hx, hb, hml, hown, htA⟩ (c_only l G cA kp) (va_cwS 1 htA (gd_S wd226 wd227 wd26 wd228) rfl rfl rfl (by decide +kernel) (by rw [hR]; exact ⟨Nat.le_of_ble_eq_true rfl, Nat.le_of_ble_eq_true rfl⟩)) (pw_S hKN trivial) rfl rfl hl.1 rfl (lv_room (Nat.le_of_ble_eq_true rfl)) dV_hops_15 (by rw [hR]; exact ⟨Nat.le_of_ble_eq_true rfl, Nat.le_of_ble_eq_true rfl⟩))) (fun r3 hr3 => ?_)
      subst hr3
      refine pw_tl (y := st (O a) kp 0) rfl ?_
      refine lv_lstore (lv' := [(6, .long (st (O a) kp 0)), (5, .ref (oc a)), (0, .ref x), (1, .int (nI a)), (2, .int (nI kp)), (3, .long z)]) hx hb dV_hops_18 hl (by decide) rfl (fun ls hl => ?_)
      refine lv_iconst (v := nI 0) hx hb dV_hops_20 (by decide) ?_
      refine lv_istore (lv' := [(8, .int (nI 0)), (6, .long (st (O a) kp 0)), (5, .ref (oc a)), (0, .ref x), (1, .int (nI a)), (2, .int (nI kp)), (3, .long z)]) hx hb dV_hops_21 hl (by decide) rfl (fun ls hl => ?_)
      have lp : ∀ (kk i : Nat), i + kk = 64 → (∀ j, j < i → st (O a) kp j &&& z = 0) → (∀ j, j < i → ¬ st (O a) kp (j + 1) = st (O a) kp j) → ∀ ls : Array Slot, lv_has ls 11 [(3, .long z), (5, .ref (oc a)), (6, .long (st (O a) kp i)), (8, .int (nI i))] → W p l e R s m args below meth c s.heap lc2 (0 + 1 + 1) (0 + 6 + 6) Q (F0 m 23 ls []) := by
        intro kk
        induction kk with
        | zero =>
          intro i hik hinv hgr ls hl
          have hi : i = 64 := by omega
          subst hi
          obtain ⟨i9, hi9, he9⟩ := st_63 (f := O a) hk
          exact absurd he9 (hgr i9 hi9)
        | succ kk ih =>
          intro i hik hinv hgr ls hl
          have hi : i < 64 := by omega
          refine lv_iload hx hb dV_hops_23 (lv_at hl 3 rfl) ?_
          refine lv_bipush (v := nI 64) hx hb dV_hops_25 (by decide) ?_
          refine lv_icmp_ge (tgt := 74) hx hb dV_hops_27 (by decide) (fun c9 => absurd c9 (nI_ge hi (by decide))) (fun _ => ?_)
          refine lv_lload hx hb dV_hops_30 (lv_at hl 2 rfl) ?_
          refine lv_lload_n hx hb dV_hops_32 rfl (lv_at hl 0 rfl) ?_
          refine lv_land hx hb dV_hops_33 ?_
          refine lv_lconst (v := 0) hx hb dV_hops_34 rfl ?_
          refine W.lcmp hx hb dV_hops_35 ?_
          refine lv_if_eq (tgt := 42) hx hb dV_hops_36 (by decide) (fun e3 => ?_) (fun e3 => ?_)
          · have hq := (cmp0 _ _).mp e3
            refine lv_lload hx hb dV_hops_42 (lv_at hl 2 rfl) ?_
            refine lv_aload hx hb dV_hops_44 (lv_at hl 1 rfl) ?_
            refine lv_lload hx hb dV_hops_46 (lv_at hl 2 rfl) ?_
            refine vp_callSl (va_Run.run (va_runS (As := [.ref (oc a), .long (st (O a) kp i)]) (rest := [.long (st (O a) kp i)]) ⟨hx, hb, hml, hown, htA⟩ (c_givenFor l G cA (oc a) (O a) (st (O a) kp i)) (va_cwS 2 htA (gd_S wd237 wd238 wd26 wd239) rfl rfl rfl (by decide +kernel) (by rw [hR]; exact ⟨Nat.le_of_ble_eq_true rfl, Nat.le_of_ble_eq_true rfl⟩)) (pw_S hKN (p7 a ha)) rfl rfl hl.1 rfl (lv_room (Nat.le_of_ble_eq_true rfl)) dV_hops_48 (by rw [hR]; exact ⟨Nat.le_of_ble_eq_true rfl, Nat.le_of_ble_eq_true rfl⟩))) (fun r4 hr4 => ?_)
            subst hr4
            refine lv_lor hx hb dV_hops_51 ?_
            refine pw_tl (y := st (O a) kp (i + 1)) rfl ?_
            refine lv_lstore (lv' := [(9, .long (st (O a) kp (i + 1))), (3, .long z), (5, .ref (oc a)), (6, .long (st (O a) kp i)), (8, .int (nI i))]) hx hb dV_hops_52 hl (by decide) rfl (fun ls hl => ?_)
            refine lv_lload hx hb dV_hops_54 (lv_at hl 0 rfl) ?_
            refine lv_lload hx hb dV_hops_56 (lv_at hl 3 rfl) ?_
            refine W.lcmp hx hb dV_hops_58 ?_
            refine lv_if_ne (tgt := 64) hx hb dV_hops_59 (by decide) (fun e4 => ?_) (fun e4 => ?_)
            · have hq4 : ¬ st (O a) kp (i + 1) = st (O a) kp i := fun q => e4 ((cmp0 _ _).mpr q)
              refine lv_lload hx hb dV_hops_64 (lv_at hl 0 rfl) ?_
              refine lv_lstore (lv' := [(6, .long (st (O a) kp (i + 1))), (9, .long (st (O a) kp (i + 1))), (3, .long z), (5, .ref (oc a)), (8, .int (nI i))]) hx hb dV_hops_66 hl (by decide) rfl (fun ls hl => ?_)
              refine lv_iinc (v := nI (i + 1)) (lv' := [(8, .int (nI (i + 1))), (6, .long (st (O a) kp (i + 1))), (9, .long (st (O a) kp (i + 1))), (3, .long z), (5, .ref (oc a))]) hx hb dV_hops_68 hl (k := 4) rfl (nI_1 i) (by decide) rfl (fun ls hl => ?_)
              refine lv_goto (tgt := 23) hx hb dV_hops_71 (by decide) ?_
              exact ih (i + 1) (by omega) (lt_s hinv hq) (lt_s hgr hq4) ls (lv_sub hl [3, 4, 1, 0] rfl)
            · have hq4 := (cmp0 _ _).mp e4
              refine lv_iconst (v := (-1)) hx hb dV_hops_62 (by decide) ?_
              rw [hQ]
              refine vx_ret ?_
              refine W.widen (k := 2) (n := 12) (by omega) (by omega) ?_
              exact W.iret (v := (-1)) hx hb hrt (fun t ht hW => ⟨_, rfl, ⟨a, kp, ha, hk, rfl, rfl, hop_no hq4 hq⟩, ht⟩) hL dV_hops_63
          · have hq : ¬ st (O a) kp i &&& z = 0 := fun q => e3 ((cmp0 _ _).mpr q)
            refine lv_iload hx hb dV_hops_39 (lv_at hl 3 rfl) ?_
            rw [hQ]
            refine vx_ret ?_
            refine W.widen (k := 2) (n := 12) (by omega) (by omega) ?_
            exact W.iret (v := nI i) hx hb hrt (fun t ht hW => ⟨_, rfl, ⟨a, kp, ha, hk, rfl, rfl, hop_at (by omega) hq hinv⟩, ht⟩) hL dV_hops_41
      exact lp (64) 0 (by omega) lt_0 lt_0 ls (lv_sub hl [6, 2, 1, 0] rfl)

set_option maxRecDepth 100000 in
set_option maxHeartbeats 4000000 in
theorem c_count (l : Launch) (hl9 : l.stackTraces = false) (G : va_G) (cA : Nat → ClassId) (E : Nat → Prop) (x pa rs lo hi n : Nat) (F : Nat → Bool) (O : Nat → Nat → Int64) (po oc : Nat → Nat) (tb : Nat → Option Nat) (tc : Nat → Nat × Nat × Nat) (v : Int32) : vx_Met l yV_count wsV_count ({ frames := 6, cells := 1, slots := 6, locals := 100 }) (PX G cA E [.ref x, .int v] (fun H => pvS G cA x pa rs lo hi n F O po oc tb tc H)) (vp_Si (fun r => (v = 0 ∧ r = nI n) ∨ (v = 1 ∧ r = nI (dct O n)))) (xR (fun X => X = "java/lang/IllegalArgumentException" ∧ ¬ v = 0 ∧ ¬ v = 1)) 1 6 (fun _ => False) := by
  refine vx_ofW (cc := cV_count) (maxL := 2) (ret := (some .int)) (by decide) rfl ?_
  intro p e s m args below meth c s₁ B hml htab hv
  obtain ⟨hav, hKN, hZ, hpv⟩ := hv
  have hK := hKN.1
  have hx := B.exec
  have hb := B.bytes
  have hrt := B.returns
  have htA : ∀ w ∈ ALL, w.before args s = true := fun w h => atoms_spec (ws := wsV_count) B.pre w (List.mem_cons_of_mem _ h)
  have hown : s.vm.findClass RV = some m.cls := findClass_of_methodNamed B.named
  have hlocks := B.notSynchronized
  refine pw_nm (fun R Q hR hQ => ?_)
  refine pw_entry (vs := [.ref x, .int v]) hav (Nat.le_of_ble_eq_true rfl) (fun ls hl => ?_)
  have hl : lv_has ls 2 [(0, .ref x), (1, .int v)] := hl
  have hL : ∀ z ∈ ([] : List Loc), (fun _ : Nat => False) z.base := fun _ h => by cases h
  have hS0 := hpv
  obtain ⟨p1, p2, p3, p4, p5, p6, p7, p8, p9, p10, p11, p12⟩ := hpv
  refine lv_iload_n hx hb dV_count_0 rfl (lv_at hl 1 rfl) ?_
  refine lv_if_eq (tgt := 17) hx hb dV_count_1 (by decide) (fun c1 => ?_) (fun c1 => ?_)
  · refine lv_iload_n hx hb dV_count_17 rfl (lv_at hl 1 rfl) ?_
    refine lv_if_ne (tgt := 28) hx hb dV_count_18 (by decide) (fun c9 => absurd c1 c9) (fun _ => ?_)
    refine lv_aload_n hx hb dV_count_21 rfl (lv_at hl 0 rfl) ?_
    refine va_get (D := G) (ci := 3) (v := .int (nI n)) (C := RV) (T := TV) (N := 4) hx hb htA inV hown hK (ob_P p1) 0 rfl rfl 2 (by decide) (htA _ wd65) (fun _ h9 => h9) rfl dV_count_22 ?_
    refine lv_goto (tgt := 32) hx hb dV_count_25 (by decide) ?_
    rw [hQ]
    refine vx_ret ?_
    refine W.widen (k := 1) (n := 6) (by omega) (by omega) ?_
    exact W.iret (v := nI n) hx hb hrt (fun t ht hW => ⟨_, rfl, (Or.inl ⟨c1, rfl⟩), ht⟩) hL dV_count_32
  · refine lv_iload_n hx hb dV_count_4 rfl (lv_at hl 1 rfl) ?_
    refine lv_iconst (v := nI 1) hx hb dV_count_5 (by decide) ?_
    refine lv_icmp_eq (tgt := 17) hx hb dV_count_6 (by decide) (fun c2 => ?_) (fun c2 => ?_)
    · refine lv_iload_n hx hb dV_count_17 rfl (lv_at hl 1 rfl) ?_
      refine lv_if_ne (tgt := 28) hx hb dV_count_18 (by decide) (fun _ => ?_) (fun c9 => absurd c9 c1)
      refine lv_aload_n hx hb dV_count_28 rfl (lv_at hl 0 rfl) ?_
      refine va_get (D := G) (ci := 3) (v := .int (nI (dct O n))) (C := RV) (T := TV) (N := 4) hx hb htA inV hown hK (ob_P p1) 0 rfl rfl 3 (by decide) (htA _ wd66) (fun _ h9 => h9) rfl dV_count_29 ?_
      rw [hQ]
      refine vx_ret ?_
      refine W.widen (k := 1) (n := 6) (by omega) (by omega) ?_
      exact W.iret (v := nI (dct O n)) hx hb hrt (fun t ht hW => ⟨_, rfl, (Or.inr ⟨c2, rfl⟩), ht⟩) hL dV_count_32
    · rw [hQ]
      exact px_thr (cls := "java/lang/IllegalArgumentException") (ik := 33) (ic := 35) hx hb hl9 hown (by decide +kernel) htA hKN wd94 wd32 tw35a tw35b tw35c hZ va_S.rf (by rw [hml]; exact hl.1) dV_count_9 dV_count_12 dV_count_13 dV_count_16 htab (by rw [hR]; exact Nat.lt_of_lt_of_le (by decide) (Nat.le_refl _)) (by rw [hR]; exact Nat.le_of_ble_eq_true rfl) (by rw [hR]; exact Nat.le_of_ble_eq_true rfl) (by rw [hR]; exact Nat.le_of_ble_eq_true rfl) hlocks (fun t _ h1 h2 => ⟨⟨rfl, c1, c2⟩, h1, h2⟩) (fun _ h => by cases h) (by omega) (by omega)
