set_option maxRecDepth 100000 in
set_option maxHeartbeats 4000000 in
theorem c_tableOf (l : Launch) (G : va_G) (cA : Nat → ClassId) (x pa rs lo hi n : Nat) (F : Nat → Bool) (O : Nat → Nat → Int64) (po oc : Nat → Nat) (tb : Nat → Option Nat) (tc : Nat → Nat × Nat × Nat) (i : Nat) (hi9 : i < n) : Met l yV_tableOf wsV_tableOf ({ frames := 6, cells := 4, slots := 196, locals := 145 }) (PH G cA [.ref x, .ref (po i)] (fun H => pvS G cA x pa rs lo hi n F O po oc tb tc H)) (fun _ st o t => ∃ t0 tb2 tc2, o = .returned (some (.ref t0)) ∧ tb2 i = some t0 ∧ pvS G cA x pa rs lo hi n F O po oc tb2 tc2 t.heap ∧ (∀ E : Nat → Prop, pvN E x pa rs lo hi n po oc tb tc → (∀ q, E q → q < st.heap.size) → pvN E x pa rs lo hi n po oc tb2 tc2) ∧ st.heap.size ≤ t.heap.size ∧ ∀ q, q < st.heap.size → q ≠ lo → q ≠ hi → q ≠ po i → t.heap[q]? = st.heap[q]?) 4 196 (fun q => q = lo ∨ q = hi ∨ q = po i) := by
  refine Met.ofW (cc := cV_tableOf) (maxL := 3) (ret := (some (.object "PolicyVerifier$Table"))) (by decide) rfl ?_
  intro p e s m args below meth c s₁ B hml hv
  obtain ⟨hav, hKN, hpv⟩ := hv
  have hK := hKN.1
  have hx := B.exec
  have hb := B.bytes
  have hrt := B.returns
  have htA : ∀ w ∈ ALL, w.before args s = true := fun w h => atoms_spec (ws := wsV_tableOf) B.pre w (List.mem_cons_of_mem _ h)
  have hown : s.vm.findClass RV = some m.cls := findClass_of_methodNamed B.named
  have hlocks := B.notSynchronized
  refine pw_nm (fun R Q hR hQ => ?_)
  refine pw_entry (vs := [.ref x, .ref (po i)]) hav (Nat.le_of_ble_eq_true rfl) (fun ls hl => ?_)
  have hl : lv_has ls 3 [(0, .ref x), (1, .ref (po i))] := hl
  have hS0 := hpv
  obtain ⟨p1, p2, p3, p4, p5, p6, p7, p8, p9, p10, p11, p12⟩ := hpv
  refine lv_aload_n hx hb dV_tableOf_0 rfl (lv_at hl 1 rfl) ?_
  refine va_get (D := G) (ci := 0) (v := va_rf (tb i)) (C := RP) (T := TP) (N := 3) hx hb htA inP hown hK (ob_P (p6 i hi9)) 0 rfl rfl 2 (by decide) (htA _ wd202) (fun _ h9 => h9) rfl dV_tableOf_1 ?_
  have hti : tb i = none ∨ ∃ t0, tb i = some t0 := by cases tb i; (exact Or.inl rfl); (exact Or.inr ⟨_, rfl⟩)
  rcases hti with hti | ⟨t0, hti⟩
  · refine pw_tn hti ?_
    refine lv_ifnonnullN hx hb dV_tableOf_4 ?_
    obtain ⟨f4, p4⟩ := p4
    obtain ⟨f5, p5⟩ := p5
    have p6i := p6 i hi9
    have p7i := p7 i hi9
    rw [hti] at p6i
    have p6i : ob G 0 (po i) [.int (bI (F i)), .ref (oc i), .null] s.heap := p6i
    have hdd := hKN.dis
    have kx := kd_o (cA := cA) (by decide) p1
    have kr := kd_o (cA := cA) (by decide) p3
    have kl := kd_l (G := G) p4
    have kh := kd_l (G := G) p5
    have kp := kd_o (cA := cA) (by decide) p6i
    have n_x_l : x ≠ lo := kd_ne hdd kx kl (by decide)
    have n_x_h : x ≠ hi := kd_ne hdd kx kh (by decide)
    have n_x_p : x ≠ po i := kd_ne hdd kx kp (by decide)
    have n_r_l : rs ≠ lo := kd_ne hdd kr kl (by decide)
    have n_r_h : rs ≠ hi := kd_ne hdd kr kh (by decide)
    have n_r_p : rs ≠ po i := kd_ne hdd kr kp (by decide)
    have n_p_l : po i ≠ lo := kd_ne hdd kp kl (by decide)
    have n_p_h : po i ≠ hi := kd_ne hdd kp kh (by decide)
    have l_x := ob_lt p1
    have l_rs := ob_lt p3
    have l_lo := al_lt p4
    have l_hi := al_lt p5
    have l_po := ob_lt p6i
    refine lv_aload_n hx hb dV_tableOf_7 rfl (lv_at hl 0 rfl) ?_
    refine va_get (D := G) (ci := 3) (v := .ref rs) (C := RV) (T := TV) (N := 4) hx hb htA inV hown hK (ob_P p1) 0 rfl rfl 1 (by decide) (htA _ wd64) (fun _ h9 => h9) rfl dV_tableOf_8 ?_
    refine lv_aload_n hx hb dV_tableOf_11 rfl (lv_at hl 1 rfl) ?_
    refine va_get (D := G) (ci := 0) (v := .ref (oc i)) (C := RP) (T := TP) (N := 3) hx hb htA inP hown hK (ob_P p6i) 0 rfl rfl 1 (by decide) (htA _ wd200) (fun _ h9 => h9) rfl dV_tableOf_12 ?_
    refine pw_call (F := (fun q => q = lo ∨ q = hi ∨ q = po i ∨ s.heap.size ≤ q)) (va_runV (As := [.ref (oc i)]) (rest := []) ⟨hx, hb, hml, hown, htA⟩ (c_read l G cA rs lo hi (oc i) f4 f5 (O i)) (cwV 1 htA (gd_V wd341 wd342 wd343 wd27 wd344) rfl rfl rfl (by decide +kernel) (by rw [hR]; exact ⟨Nat.le_of_ble_eq_true rfl, Nat.le_of_ble_eq_true rfl⟩)) (pw_V (ci := 1) (q := (RQ, TQ, 2)) hKN p3 rfl ⟨p10, (p11 i hi9).1, (p11 i hi9).2, p3, p4, p5, p7i⟩) rfl rfl hl.1 rfl (lv_room (Nat.le_of_ble_eq_true rfl)) dV_tableOf_15 (by rw [hR]; exact ⟨Nat.le_of_ble_eq_true rfl, Nat.le_of_ble_eq_true rfl⟩)) (fun _ h => by cases h) (fun q h => h.elim (fun e => Or.inl e) (fun e => Or.inr (Or.inl e))) (fun v9 st9 t9 lc1 h0 ha9 hL hq9 => ?_)
    obtain ⟨hv9, ⟨f, g, hlo, hhi, hrd⟩, hz1, hk1⟩ := hq9
    cases hv9
    rw [h0] at hz1 hk1
    generalize t9.heap = H1 at hlo hhi hz1 hk1 ⊢
    have p1 := ob_k p1 (hk1 x n_x_l n_x_h)
    have p3 := ob_k p3 (hk1 rs n_r_l n_r_h)
    have p6i := ob_k p6i (hk1 (po i) n_p_l n_p_h)
    have hk : ∀ q, q < s.heap.size → q ≠ lo → q ≠ hi → H1[q]? = s.heap[q]? := fun q _ e1 e2 => hk1 q e1 e2
    refine pn_o (ci := 2) (C := RT) (T := TT) (N := 4) (fs := [.null, .null, .null, .int 0]) hx hb htA inT tyT tyT_ok hown (htA _ wd354) (htA _ wd355) (htA _ wd37) hK rfl (fun j hj => by rcases (show j = 0 ∨ j = 1 ∨ j = 2 ∨ j = 3 by omega) with rfl | rfl | rfl | rfl <;> rfl) (by rw [hR]; exact Nat.le_of_ble_eq_true rfl) (by rw [hR]; exact Nat.le_of_ble_eq_true rfl) dV_tableOf_18 (fun H2 t0 et0 ht0 hz2 hk2 => ?_)
    have p1 := ob_k p1 (hk2 x (by omega))
    have p3 := ob_k p3 (hk2 rs (by omega))
    have p6i := ob_k p6i (hk2 (po i) (by omega))
    have hlo := al_k hlo (hk2 lo (by omega))
    have hhi := al_k hhi (hk2 hi (by omega))
    have hk : ∀ q, q < s.heap.size → q ≠ lo → q ≠ hi → H2[q]? = s.heap[q]? := fun q e0 e1 e2 => (hk2 q (by omega)).trans (hk q e0 e1 e2)
    refine lv_dup hx hb dV_tableOf_21 rfl ?_
    refine pw_call (F := (fun q => q = lo ∨ q = hi ∨ q = po i ∨ s.heap.size ≤ q)) (va_runI (As := []) (rest := [.ref t0]) ⟨hx, hb, hml, hown, htA⟩ (c_Tinit l G cA t0) (cwI 0 htA (gd_m wd358) rfl rfl rfl (htA _ wd37) (htA _ wd356) (htA _ wd357) rfl (by decide +kernel) (by rw [hR]; exact ⟨Nat.le_of_ble_eq_true rfl, Nat.le_of_ble_eq_true rfl⟩)) (pw_S hKN ht0) rfl rfl hl.1 rfl (lv_room (Nat.le_of_ble_eq_true rfl)) dV_tableOf_22 (by rw [hR]; exact ⟨Nat.le_of_ble_eq_true rfl, Nat.le_of_ble_eq_true rfl⟩)) hL (fun q h => by subst h; exact Or.inr (Or.inr (Or.inr (by omega)))) (fun v9 st9 t9 lc2 h0 ha9 hL hq9 => ?_)
    obtain ⟨hv9, hz3, hk3, a1, a2, a3, hA1, hA2, hA3, hob, h1, h2, h3⟩ := hq9
    cases hv9
    rw [h0] at hz3 hk3 hA1
    generalize t9.heap = H3 at hz3 hk3 hob h1 h2 h3 ⊢
    have p1 := ob_k p1 (hk3 x (by omega) (by omega))
    have p3 := ob_k p3 (hk3 rs (by omega) (by omega))
    have p6i := ob_k p6i (hk3 (po i) (by omega) (by omega))
    have hlo := al_k hlo (hk3 lo (by omega) (by omega))
    have hhi := al_k hhi (hk3 hi (by omega) (by omega))
    have hk : ∀ q, q < s.heap.size → q ≠ lo → q ≠ hi → H3[q]? = s.heap[q]? := fun q e0 e1 e2 => (hk3 q (by omega) (by omega)).trans (hk q e0 e1 e2)
    refine lv_astore_n (lv' := [(2, .ref t0), (0, .ref x), (1, .ref (po i))]) hx hb dV_tableOf_25 rfl hl (by decide) rfl (fun ls hl => ?_)
    refine lv_aload_n hx hb dV_tableOf_26 rfl (lv_at hl 0 rfl) ?_
    refine lv_aload_n hx hb dV_tableOf_27 rfl (lv_at hl 1 rfl) ?_
    refine va_get (D := G) (ci := 3) (v := .ref rs) (C := RV) (T := TV) (N := 4) hx hb htA inV hown hK (ob_P p1) 0 rfl rfl 1 (by decide) (htA _ wd64) (fun _ h9 => h9) rfl dV_tableOf_28 ?_
    refine pw_call (F := (fun q => q = lo ∨ q = hi ∨ q = po i ∨ s.heap.size ≤ q)) (va_runV (As := [.ref rs]) (rest := []) ⟨hx, hb, hml, hown, htA⟩ (c_fill l G cA t0 rs lo hi a1 a2 a3 f g (O i) (fun k h => (hrd k h).1) (fun k h => (hrd k h).2) (fun _ => 0) (fun _ => 0) (fun _ => 0)) (cwV 1 htA (gd_V wd378 wd379 wd380 wd37 wd381) rfl rfl rfl (by decide +kernel) (by rw [hR]; exact ⟨Nat.le_of_ble_eq_true rfl, Nat.le_of_ble_eq_true rfl⟩)) (pw_V (ci := 2) (q := (RT, TT, 4)) hKN hob rfl ⟨p3, hlo, hhi, by omega, by omega, by omega, hob, h1, h2, h3⟩) rfl rfl hl.1 rfl (lv_room (Nat.le_of_ble_eq_true rfl)) dV_tableOf_31 (by rw [hR]; exact ⟨Nat.le_of_ble_eq_true rfl, Nat.le_of_ble_eq_true rfl⟩)) hL (fun q h => Or.inr (Or.inr (Or.inr (by rcases h with rfl | rfl | rfl | rfl <;> omega)))) (fun v9 st9 t9 lc3 h0 ha9 hL hq9 => ?_)
    obtain ⟨hv9, ⟨fp2, ff2, pl2, hob, h1, h2, h3, hD⟩, hz4, hk4⟩ := hq9
    cases hv9
    rw [h0] at hz4 hk4
    generalize t9.heap = H4 at hz4 hk4 hob h1 h2 h3 ⊢
    have p1 := ob_k p1 (hk4 x (by omega) (by omega) (by omega) (by omega))
    have p3 := ob_k p3 (hk4 rs (by omega) (by omega) (by omega) (by omega))
    have p6i := ob_k p6i (hk4 (po i) (by omega) (by omega) (by omega) (by omega))
    have hlo := al_k hlo (hk4 lo (by omega) (by omega) (by omega) (by omega))
    have hhi := al_k hhi (hk4 hi (by omega) (by omega) (by omega) (by omega))
    have hk : ∀ q, q < s.heap.size → q ≠ lo → q ≠ hi → H4[q]? = s.heap[q]? := fun q e0 e1 e2 => (hk4 q (by omega) (by omega) (by omega) (by omega)).trans (hk q e0 e1 e2)
    refine lv_aload_n hx hb dV_tableOf_34 rfl (lv_at hl 2 rfl) ?_
    refine lv_aload_n hx hb dV_tableOf_35 rfl (lv_at hl 0 rfl) ?_
    refine pw_put (ci := 0) (C := RP) (T := TP) (N := 3) (ty := .object "PolicyVerifier$Table") (F := (fun q => q = lo ∨ q = hi ∨ q = po i ∨ s.heap.size ≤ q)) hx hb htA inP tyP tyP_ok nmP hown hK p6i rfl 2 (by decide) (htA _ wd202) (fun _ h9 => h9) rfl (by decide +kernel) rfl rfl (Nat.le_of_ble_eq_true rfl) hL (Or.inr (Or.inr (Or.inl rfl))) dV_tableOf_36 (fun H5 lc4 hob1 hz5 hk5 hL => ?_)
    have p6i : ob G 0 (po i) [.int (bI (F i)), .ref (oc i), .ref t0] H5 := hob1
    have hlo := al_k hlo (hk5 lo (Ne.symm n_p_l))
    have hhi := al_k hhi (hk5 hi (Ne.symm n_p_h))
    have hob := ob_k hob (hk5 t0 (by omega))
    have h1 := ai_k h1 (hk5 a1 (by omega))
    have h2 := ai_k h2 (hk5 a2 (by omega))
    have h3 := ai_k h3 (hk5 a3 (by omega))
    have hk : ∀ q, q < s.heap.size → q ≠ lo → q ≠ hi → q ≠ po i → H5[q]? = s.heap[q]? := fun q e0 e1 e2 e3 => (hk5 q e3).trans (hk q e0 e1 e2)
    have hS2 := pvS_tab hdd hS0 hi9 hlo hhi p6i ⟨fp2, ff2, pl2, hob, h1, h2, h3, tabI_ok hD⟩ hk
    refine lv_aload_n hx hb dV_tableOf_39 rfl (lv_at hl 2 rfl) ?_
    refine va_get (D := G) (ci := 0) (v := .ref t0) (C := RP) (T := TP) (N := 3) hx hb htA inP hown hK (ob_P p6i) 0 rfl rfl 2 (by decide) (htA _ wd202) (fun _ h9 => h9) rfl dV_tableOf_40 ?_
    rw [hQ]
    refine W.forgetP (P := (fun q => q = lo ∨ q = hi ∨ q = po i)) (fun z h9 => by rcases hL z h9 with e | e | e | e; (exact Or.inl (Or.inl e)); (exact Or.inl (Or.inr (Or.inl e))); (exact Or.inl (Or.inr (Or.inr e))); (exact Or.inr e)) (fun lcN hL => ?_)
    refine W.widen (k := 4) (n := 196) (by omega) (by omega) ?_
    exact W.aret (v := .ref t0) hx hb hrt (Or.inl ⟨_, rfl⟩) (Or.inr ⟨_, rfl⟩) (fun t ht hW => ⟨t0, (fun j => if j = i then some t0 else tb j), (fun j => if j = i then (a1, a2, a3) else tc j), rfl, by simp, by rw [ht]; exact hS2, fun E hN hE => pvN_tab hN (fun q => absurd (hE _ q) (by omega)) (fun q => absurd (hE _ q) (by omega)) (fun q => absurd (hE _ q) (by omega)) (fun q => absurd (hE _ q) (by omega)), by rw [ht]; omega, by rw [ht]; exact hk⟩) hL dV_tableOf_43
  · refine pw_tq (a := t0) hti ?_
    refine lv_ifnonnull (tgt := 39) hx hb dV_tableOf_4 (by decide) ?_
    refine lv_aload_n hx hb dV_tableOf_39 rfl (lv_at hl 1 rfl) ?_
    refine va_get (D := G) (ci := 0) (v := va_rf (tb i)) (C := RP) (T := TP) (N := 3) hx hb htA inP hown hK (ob_P (p6 i hi9)) 0 rfl rfl 2 (by decide) (htA _ wd202) (fun _ h9 => h9) rfl dV_tableOf_40 ?_
    refine pw_tq (a := t0) hti ?_
    rw [hQ]
    refine W.widen (k := 4) (n := 196) (by omega) (by omega) ?_
    exact W.aret (v := .ref t0) hx hb hrt (Or.inl ⟨_, rfl⟩) (Or.inr ⟨_, rfl⟩) (fun t ht hW => ⟨t0, tb, tc, rfl, hti, by rw [ht]; exact hS0, fun _ h _ => h, by rw [ht]; exact Nat.le_refl _, by rw [ht]; exact fun _ _ _ _ _ => rfl⟩) (fun _ h => by cases h) dV_tableOf_43

set_option maxRecDepth 100000 in
set_option maxHeartbeats 4000000 in
theorem c_rules (l : Launch) (hl9 : l.stackTraces = false) (G : va_G) (cA : Nat → ClassId) (E : Nat → Prop) (x pa rs lo hi n : Nat) (F : Nat → Bool) (O : Nat → Nat → Int64) (po oc : Nat → Nat) (tb : Nat → Option Nat) (tc : Nat → Nat × Nat × Nat) (v : Int32) : vx_Met l yV_rules wsV_rules ({ frames := 7, cells := 5, slots := 202, locals := 167 }) (PX G cA E [.ref x, .int v] (fun H => (pvS G cA x pa rs lo hi n F O po oc tb tc H ∧ pvN E x pa rs lo hi n po oc tb tc ∧ ∀ q, E q → q < H.size))) (fun _ st o t => ∃ a, a < n ∧ v = nI a ∧ o = .returned (some (.int (nI (tbl (O a)).length))) ∧ PVE G cA E x n F O t.heap ∧ va_F (fun q => ¬ E q) st t) (xQ G cA E x n F O (fun X => X = "java/util/NoSuchElementException" ∧ inb n v = false)) 5 202 (fun q => ¬ E q) := by
  refine vx_ofW (cc := cV_rules) (maxL := 2) (ret := (some .int)) (by decide) rfl ?_
  intro p e s m args below meth c s₁ B hml htab hv
  obtain ⟨hav, hKN, hZ, hpv, hNE, hElt⟩ := hv
  have hK := hKN.1
  have hx := B.exec
  have hb := B.bytes
  have hrt := B.returns
  have htA : ∀ w ∈ ALL, w.before args s = true := fun w h => atoms_spec (ws := wsV_rules) B.pre w (List.mem_cons_of_mem _ h)
  have hown : s.vm.findClass RV = some m.cls := findClass_of_methodNamed B.named
  have hlocks := B.notSynchronized
  refine pw_nm (fun R Q hR hQ => ?_)
  refine pw_entry (vs := [.ref x, .int v]) hav (Nat.le_of_ble_eq_true rfl) (fun ls hl => ?_)
  have hl : lv_has ls 2 [(0, .ref x), (1, .int v)] := hl
  have hS0 := hpv
  obtain ⟨p1, p2, p3, p4, p5, p6, p7, p8, p9, p10, p11, p12⟩ := hpv
  have hL : ∀ z ∈ ([] : List Loc), (fun q => ¬ E q) z.base := fun _ h => by cases h
  refine lv_aload_n hx hb dV_rules_0 rfl (lv_at hl 0 rfl) ?_
  refine lv_aload_n hx hb dV_rules_1 rfl (lv_at hl 0 rfl) ?_
  refine lv_iload_n hx hb dV_rules_2 rfl (lv_at hl 1 rfl) ?_
  refine px_call (F := fun q => ¬ E q) (vx_runV (As := [.int v]) (rest := [.ref x]) ⟨hx, hb, hml, hown, htA⟩ (c_find l hl9 G cA E x pa rs lo hi n F O po oc tb tc v) (cwV 1 htA (gd_V wd265 wd267 wd9 wd26 wd268) rfl rfl rfl (by decide +kernel) (by rw [hR]; exact ⟨Nat.le_of_ble_eq_true rfl, Nat.le_of_ble_eq_true rfl⟩)) (px_V (ci := 3) (q := (RV, TV, 4)) hKN hZ p1 rfl hS0) rfl rfl hl.1 rfl (lv_room (Nat.le_of_ble_eq_true rfl)) dV_rules_3 (by rw [hR]; exact ⟨Nat.le_of_ble_eq_true rfl, Nat.le_of_ble_eq_true rfl⟩)) hL (fun q h => h.elim) (fun E9 ce9 q9 st9 t9 lc9 h09 ha9 hL9 hx9 g1 g2 g3 => ?_) (fun v9 st9 t9 lc1 h09 ha9 hL hq9 => ?_)
  · rw [hQ]
    exact vx_out (fun x9 h9 => (htab x9 h9).elim) hlocks g1 g2 g3 (fun t ht _ => xR_Q hS0 hNE (Nat.le_refl _) (fun _ _ _ => rfl) hx9 h09 (fun q => q) ht) hL9 (by omega) (by omega)
  · obtain ⟨a, ha, rfl, hv9, hh9⟩ := hq9
    cases hv9
    rw [h09] at hh9
    rw [hh9]
    refine pw_call (F := fun q => ¬ E q) (va_runV (As := [.ref (po a)]) (rest := []) ⟨hx, hb, hml, hown, htA⟩ (c_tableOf l G cA x pa rs lo hi n F O po oc tb tc a ha) (cwV 1 htA (gd_V wd337 wd339 wd10 wd26 wd340) rfl rfl rfl (by decide +kernel) (by rw [hR]; exact ⟨Nat.le_of_ble_eq_true rfl, Nat.le_of_ble_eq_true rfl⟩)) (pw_V (ci := 3) (q := (RV, TV, 4)) hKN p1 rfl hS0) rfl rfl hl.1 rfl (lv_room (Nat.le_of_ble_eq_true rfl)) dV_rules_6 (by rw [hR]; exact ⟨Nat.le_of_ble_eq_true rfl, Nat.le_of_ble_eq_true rfl⟩)) hL (fun q h9 => by rcases h9 with e9 | e9 | e9 <;> rw [e9]; (exact hNE.2.2.2.1); (exact hNE.2.2.2.2.1); (exact (hNE.2.2.2.2.2 a ha).1)) (fun v9 st9 t9 lcT h0 ha9 hL hq9 => ?_)
    obtain ⟨t0, tb2, tc2, hv9, hti, hS2, hNx, hz2, hk2⟩ := hq9
    cases hv9
    rw [h0] at hz2 hk2 hNx
    generalize t9.heap = H2 at hS2 hz2 hk2 ⊢
    have hN2 := hNx E hNE hElt
    have hE2 : ∀ q, q < s.heap.size → E q → H2[q]? = s.heap[q]? := fun q e0 e1 => hk2 q e0 (fun e => hNE.2.2.2.1 (e ▸ e1)) (fun e => hNE.2.2.2.2.1 (e ▸ e1)) (fun e => (hNE.2.2.2.2.2 a ha).1 (e ▸ e1))
    obtain ⟨fp, ff, pl, hob, h1, h2, h3, hT1, hT2⟩ := hS2.2.2.2.2.2.2.2.1 a ha t0 hti
    have hVF : va_S (fun q => ¬ E q) s.heap H2 lcT := ⟨hz2, fun q e0 e1 => hE2 q e0 (Classical.not_not.mp e1), hL⟩
    refine va_get (D := G) (ci := 2) (v := .int (nI (tbl (O a)).length)) (C := RT) (T := TT) (N := 4) hx hb htA inT hown hK (ob_P hob) 0 rfl rfl 3 (by decide) (htA _ wd367) (fun _ h9 => h9) rfl dV_rules_9 ?_
    rw [hQ]
    refine vx_ret ?_
    refine W.widen (k := 5) (n := 202) (by omega) (by omega) ?_
    exact W.iret (v := nI (tbl (O a)).length) hx hb hrt (fun t ht hW => ⟨a, ha, rfl, rfl, ⟨pa, rs, lo, hi, po, oc, tb2, tc2, by rw [ht]; exact hS2, hN2⟩, va_S.F hVF ht⟩) hL dV_rules_12

set_option maxRecDepth 100000 in
set_option maxHeartbeats 4000000 in
theorem c_rule (l : Launch) (hl9 : l.stackTraces = false) (G : va_G) (cA : Nat → ClassId) (E : Nat → Prop) (x pa rs lo hi n : Nat) (F : Nat → Bool) (O : Nat → Nat → Int64) (po oc : Nat → Nat) (tb : Nat → Option Nat) (tc : Nat → Nat × Nat × Nat) (v v2 v3 : Int32) : vx_Met l yV_rule wsV_rule ({ frames := 7, cells := 6, slots := 208, locals := 167 }) (PX G cA E [.ref x, .int v, .int v2, .int v3] (fun H => (pvS G cA x pa rs lo hi n F O po oc tb tc H ∧ pvN E x pa rs lo hi n po oc tb tc ∧ ∀ q, E q → q < H.size))) (fun _ st o t => ∃ a j u, a < n ∧ v = nI a ∧ j < (tbl (O a)).length ∧ v2 = nI j ∧ u < 4 ∧ v3 = nI u ∧ (∃ r, o = .returned (some (.int r)) ∧ ruR (O a) ((tbl (O a)).getD j (0, 0)) u r) ∧ PVE G cA E x n F O t.heap ∧ va_F (fun q => ¬ E q) st t) (xQ G cA E x n F O (fun X => (X = "java/util/NoSuchElementException" ∧ (inb n v = false ∨ ∃ a, a < n ∧ v = nI a ∧ inb (tbl (O a)).length v2 = false)) ∨ (X = "java/lang/IllegalArgumentException" ∧ ∃ a, a < n ∧ v = nI a ∧ inb (tbl (O a)).length v2 = true ∧ inb 4 v3 = false))) 6 208 (fun q => ¬ E q) := by
  refine vx_ofW (cc := cV_rule) (maxL := 6) (ret := (some .int)) (by decide) rfl ?_
  intro p e s m args below meth c s₁ B hml htab hv
  obtain ⟨hav, hKN, hZ, hpv, hNE, hElt⟩ := hv
  have hK := hKN.1
  have hx := B.exec
  have hb := B.bytes
  have hrt := B.returns
  have htA : ∀ w ∈ ALL, w.before args s = true := fun w h => atoms_spec (ws := wsV_rule) B.pre w (List.mem_cons_of_mem _ h)
  have hown : s.vm.findClass RV = some m.cls := findClass_of_methodNamed B.named
  have hlocks := B.notSynchronized
  refine pw_nm (fun R Q hR hQ => ?_)
  refine pw_entry (vs := [.ref x, .int v, .int v2, .int v3]) hav (Nat.le_of_ble_eq_true rfl) (fun ls hl => ?_)
  have hl : lv_has ls 6 [(0, .ref x), (1, .int v), (2, .int v2), (3, .int v3)] := hl
  have hS0 := hpv
  obtain ⟨p1, p2, p3, p4, p5, p6, p7, p8, p9, p10, p11, p12⟩ := hpv
  have hL : ∀ z ∈ ([] : List Loc), (fun q => ¬ E q) z.base := fun _ h => by cases h
  refine lv_aload_n hx hb dV_rule_0 rfl (lv_at hl 0 rfl) ?_
  refine lv_iload_n hx hb dV_rule_1 rfl (lv_at hl 1 rfl) ?_
  refine px_call (F := fun q => ¬ E q) (vx_runV (As := [.int v]) (rest := []) ⟨hx, hb, hml, hown, htA⟩ (c_find l hl9 G cA E x pa rs lo hi n F O po oc tb tc v) (cwV 1 htA (gd_V wd265 wd267 wd9 wd26 wd268) rfl rfl rfl (by decide +kernel) (by rw [hR]; exact ⟨Nat.le_of_ble_eq_true rfl, Nat.le_of_ble_eq_true rfl⟩)) (px_V (ci := 3) (q := (RV, TV, 4)) hKN hZ p1 rfl hS0) rfl rfl hl.1 rfl (lv_room (Nat.le_of_ble_eq_true rfl)) dV_rule_2 (by rw [hR]; exact ⟨Nat.le_of_ble_eq_true rfl, Nat.le_of_ble_eq_true rfl⟩)) hL (fun q h => h.elim) (fun E9 ce9 q9 st9 t9 lc9 h09 ha9 hL9 hx9 g1 g2 g3 => ?_) (fun v9 st9 t9 lc1 h09 ha9 hL hq9 => ?_)
  · rw [hQ]
    exact vx_out (fun x9 h9 => (htab x9 h9).elim) hlocks g1 g2 g3 (fun t ht _ => xR_Q hS0 hNE (Nat.le_refl _) (fun _ _ _ => rfl) hx9 h09 (fun q => Or.inl ⟨q.1, Or.inl q.2⟩) ht) hL9 (by omega) (by omega)
  · obtain ⟨a, ha, rfl, hv9, hh9⟩ := hq9
    cases hv9
    rw [h09] at hh9
    rw [hh9]
    refine lv_astore (lv' := [(4, .ref (po a)), (0, .ref x), (1, .int (nI a)), (2, .int v2), (3, .int v3)]) hx hb dV_rule_5 hl (by decide) rfl (fun ls hl => ?_)
    refine lv_aload_n hx hb dV_rule_7 rfl (lv_at hl 1 rfl) ?_
    refine lv_aload hx hb dV_rule_8 (lv_at hl 0 rfl) ?_
    refine pw_call (F := fun q => ¬ E q) (va_runV (As := [.ref (po a)]) (rest := []) ⟨hx, hb, hml, hown, htA⟩ (c_tableOf l G cA x pa rs lo hi n F O po oc tb tc a ha) (cwV 1 htA (gd_V wd337 wd339 wd10 wd26 wd340) rfl rfl rfl (by decide +kernel) (by rw [hR]; exact ⟨Nat.le_of_ble_eq_true rfl, Nat.le_of_ble_eq_true rfl⟩)) (pw_V (ci := 3) (q := (RV, TV, 4)) hKN p1 rfl hS0) rfl rfl hl.1 rfl (lv_room (Nat.le_of_ble_eq_true rfl)) dV_rule_10 (by rw [hR]; exact ⟨Nat.le_of_ble_eq_true rfl, Nat.le_of_ble_eq_true rfl⟩)) hL (fun q h9 => by rcases h9 with e9 | e9 | e9 <;> rw [e9]; (exact hNE.2.2.2.1); (exact hNE.2.2.2.2.1); (exact (hNE.2.2.2.2.2 a ha).1)) (fun v9 st9 t9 lcT h0 ha9 hL hq9 => ?_)
    obtain ⟨t0, tb2, tc2, hv9, hti, hS2, hNx, hz2, hk2⟩ := hq9
    cases hv9
    rw [h0] at hz2 hk2 hNx
    generalize t9.heap = H2 at hS2 hz2 hk2 ⊢
    have hN2 := hNx E hNE hElt
    have hE2 : ∀ q, q < s.heap.size → E q → H2[q]? = s.heap[q]? := fun q e0 e1 => hk2 q e0 (fun e => hNE.2.2.2.1 (e ▸ e1)) (fun e => hNE.2.2.2.2.1 (e ▸ e1)) (fun e => (hNE.2.2.2.2.2 a ha).1 (e ▸ e1))
    obtain ⟨fp, ff, pl, hob, h1, h2, h3, hT1, hT2⟩ := hS2.2.2.2.2.2.2.2.1 a ha t0 hti
    have hVF : va_S (fun q => ¬ E q) s.heap H2 lcT := ⟨hz2, fun q e0 e1 => hE2 q e0 (Classical.not_not.mp e1), hL⟩
    have hlen := tbl_len (O a)
    refine lv_astore (lv' := [(5, .ref t0), (4, .ref (po a)), (0, .ref x), (1, .int (nI a)), (2, .int v2), (3, .int v3)]) hx hb dV_rule_13 hl (by decide) rfl (fun ls hl => ?_)
    refine lv_iload_n hx hb dV_rule_15 rfl (lv_at hl 4 rfl) ?_
    refine lv_if_lt (tgt := 28) hx hb dV_rule_16 (by decide) (fun c1 => ?_) (fun c1 => ?_)
    · rw [hQ]
      exact px_thr (cls := "java/util/NoSuchElementException") (ik := 95) (ic := 97) hx hb hl9 hown (by decide +kernel) htA hKN wd269 wd36 tw97a tw97b tw97c hZ hVF (by rw [hml]; exact hl.1) dV_rule_28 dV_rule_31 dV_rule_32 dV_rule_35 htab (by rw [hR]; exact Nat.lt_of_lt_of_le (by decide) (Nat.le_refl _)) (by rw [hR]; exact Nat.le_of_ble_eq_true rfl) (by rw [hR]; exact Nat.le_of_ble_eq_true rfl) (by rw [hR]; exact Nat.le_of_ble_eq_true rfl) hlocks (fun t _ e1 e2 => ⟨Or.inl ⟨rfl, Or.inr ⟨a, ha, rfl, inb_neg c1⟩⟩, ⟨pa, rs, lo, hi, po, oc, tb2, tc2, pvS_up hS2 e2, hN2⟩, by omega, fun q e3 e4 => (e2 q (by omega)).trans (hE2 q e3 (Classical.not_not.mp e4))⟩) hL (by omega) (by omega)
    · refine lv_iload_n hx hb dV_rule_19 rfl (lv_at hl 4 rfl) ?_
      refine lv_aload hx hb dV_rule_20 (lv_at hl 0 rfl) ?_
      refine va_get (D := G) (ci := 2) (v := .int (nI (tbl (O a)).length)) (C := RT) (T := TT) (N := 4) hx hb htA inT hown hK (ob_P hob) 0 rfl rfl 3 (by decide) (htA _ wd367) (fun _ h9 => h9) rfl dV_rule_22 ?_
      refine lv_icmp_lt (tgt := 36) hx hb dV_rule_25 (by decide) (fun c2 => ?_) (fun c2 => ?_)
      · obtain ⟨j, hj, rfl⟩ := inb_t (by omega) (inb_ok (by omega) c1 (fun q9 => absurd c2 (Int32.not_lt.mpr q9)))
        have hjt := inb_nI hj (show (tbl (O a)).length < 2147483648 by omega)
        refine lv_iload_n hx hb dV_rule_36 rfl (lv_at hl 5 rfl) ?_
        refine lv_if_lt (tgt := 45) hx hb dV_rule_37 (by decide) (fun c3 => ?_) (fun c3 => ?_)
        · rw [hQ]
          exact px_thr (cls := "java/lang/IllegalArgumentException") (ik := 33) (ic := 35) hx hb hl9 hown (by decide +kernel) htA hKN wd94 wd32 tw35a tw35b tw35c hZ hVF (by rw [hml]; exact hl.1) dV_rule_45 dV_rule_48 dV_rule_49 dV_rule_52 htab (by rw [hR]; exact Nat.lt_of_lt_of_le (by decide) (Nat.le_refl _)) (by rw [hR]; exact Nat.le_of_ble_eq_true rfl) (by rw [hR]; exact Nat.le_of_ble_eq_true rfl) (by rw [hR]; exact Nat.le_of_ble_eq_true rfl) hlocks (fun t _ e1 e2 => ⟨Or.inr ⟨rfl, a, ha, rfl, hjt, inb_neg c3⟩, ⟨pa, rs, lo, hi, po, oc, tb2, tc2, pvS_up hS2 e2, hN2⟩, by omega, fun q e3 e4 => (e2 q (by omega)).trans (hE2 q e3 (Classical.not_not.mp e4))⟩) hL (by omega) (by omega)
        · refine lv_iload_n hx hb dV_rule_40 rfl (lv_at hl 5 rfl) ?_
          refine lv_iconst (v := nI 3) hx hb dV_rule_41 (by decide) ?_
          refine lv_icmp_le (tgt := 53) hx hb dV_rule_42 (by decide) (fun c4 => ?_) (fun c4 => ?_)
          · obtain ⟨u, hu, rfl⟩ := inb_t (by decide) (inb_ok (n := 4) (by decide) c3 (fun q9 => absurd (Int32.lt_of_lt_of_le (by decide) q9) (Int32.not_lt.mpr c4)))
            obtain ⟨hr1, hr2⟩ := hT1 j hj
            obtain ⟨hd3, hx64⟩ := tbl_ok (O a) j hj
            generalize hrow : (tbl (O a)).getD j (0, 0) = row at hr1 hr2 hd3 hx64
            obtain ⟨y, d⟩ := row
            have hr1 : fp j = nI y := hr1
            have hr2 : ff j = nI (3 - d) := hr2
            have hd3 : d ≤ 3 := hd3
            have hx64 : y + 4 ^ d ≤ 64 := hx64
            have hp : 0 < 4 ^ d := Nat.pow_pos (by decide)
            refine lv_iload_n hx hb dV_rule_53 rfl (lv_at hl 5 rfl) ?_
            refine lv_iconst (v := nI 3) hx hb dV_rule_54 (by decide) ?_
            refine lv_icmp_ne (tgt := 75) hx hb dV_rule_55 (by decide) (fun c5 => ?_) (fun c5 => ?_)
            · have hu3 : ¬ u = 3 := fun q => c5 (by rw [q])
              refine lv_iload_n hx hb dV_rule_75 rfl (lv_at hl 5 rfl) ?_
              refine lv_aload hx hb dV_rule_76 (lv_at hl 0 rfl) ?_
              refine va_get (D := G) (ci := 2) (v := .ref ((tc2 a).2.1)) (C := RT) (T := TT) (N := 4) hx hb htA inT hown hK (ob_P hob) 0 rfl rfl 1 (by decide) (htA _ wd363) (fun _ h9 => h9) rfl dV_rule_78 ?_
              refine lv_iload_n hx hb dV_rule_81 rfl (lv_at hl 4 rfl) ?_
              refine pw_iald hx hb hK h2 1 rfl (by omega) (by decide) dV_rule_82 ?_
              refine pw_ti (y := nI (3 - d)) hr2 ?_
              refine lv_icmp_ge (tgt := 100) hx hb dV_rule_83 (by decide) (fun c6 => ?_) (fun c6 => ?_)
              · have hge := (nI_leI (by omega) (by omega)).mp c6
                refine lv_iconst (v := (-1)) hx hb dV_rule_100 (by decide) ?_
                refine W.eq (g2 := F0 m 101 ls [.int (-1)]) rfl ?_
                rw [hQ]
                refine vx_ret ?_
                refine W.widen (k := 6) (n := 208) (by omega) (by omega) ?_
                exact W.iret (v := (-1)) hx hb hrt (fun t ht hW => ⟨a, j, u, ha, rfl, hj, rfl, hu, rfl, ⟨_, rfl, by rw [hrow]; exact Or.inl ⟨by omega, Or.inr ⟨show 3 - u ≤ d by omega, rfl⟩⟩⟩, ⟨pa, rs, lo, hi, po, oc, tb2, tc2, by rw [ht]; exact hS2, hN2⟩, va_S.F hVF ht⟩) hL dV_rule_101
              · have hlt : ¬ 3 - d ≤ u := fun q9 => c6 ((nI_leI (by omega) (by omega)).mpr q9)
                refine lv_aload hx hb dV_rule_86 (lv_at hl 0 rfl) ?_
                refine va_get (D := G) (ci := 2) (v := .ref ((tc2 a).1)) (C := RT) (T := TT) (N := 4) hx hb htA inT hown hK (ob_P hob) 0 rfl rfl 0 (by decide) (htA _ wd361) (fun _ h9 => h9) rfl dV_rule_88 ?_
                refine lv_iload_n hx hb dV_rule_91 rfl (lv_at hl 4 rfl) ?_
                refine pw_iald hx hb hK h1 1 rfl (by omega) (by decide) dV_rule_92 ?_
                refine pw_ti (y := nI y) hr1 ?_
                refine lv_iload_n hx hb dV_rule_93 rfl (lv_at hl 5 rfl) ?_
                refine vp_callSi (va_Run.run (va_runS (As := [.int (nI y), .int (nI u)]) (rest := []) ⟨hx, hb, hml, hown, htA⟩ (c_valueOf l G cA y (by omega) u (by omega)) (va_cwS 2 htA (gd_S wd217 wd218 wd26 wd219) rfl rfl rfl (by decide +kernel) (by rw [hR]; exact ⟨Nat.le_of_ble_eq_true rfl, Nat.le_of_ble_eq_true rfl⟩)) (pw_S hKN trivial) rfl rfl hl.1 rfl (lv_room (Nat.le_of_ble_eq_true rfl)) dV_rule_94 (by rw [hR]; exact ⟨Nat.le_of_ble_eq_true rfl, Nat.le_of_ble_eq_true rfl⟩))) (fun r2 hr2 => ?_)
                subst hr2
                refine lv_goto (tgt := 101) hx hb dV_rule_97 (by decide) ?_
                rw [hQ]
                refine vx_ret ?_
                refine W.widen (k := 6) (n := 208) (by omega) (by omega) ?_
                exact W.iret (v := nI (vl y u)) hx hb hrt (fun t ht hW => ⟨a, j, u, ha, rfl, hj, rfl, hu, rfl, ⟨_, rfl, by rw [hrow]; exact Or.inl ⟨by omega, Or.inl ⟨show d < 3 - u by omega, rfl⟩⟩⟩, ⟨pa, rs, lo, hi, po, oc, tb2, tc2, by rw [ht]; exact hS2, hN2⟩, va_S.F hVF ht⟩) hL dV_rule_101
            · have hu3 : u = 3 := (nI_eq (by omega) (by decide)).mp c5
              refine lv_aload hx hb dV_rule_58 (lv_at hl 1 rfl) ?_
              refine va_get (D := G) (ci := 0) (v := .ref (oc a)) (C := RP) (T := TP) (N := 3) hx hb htA inP hown hK (ob_P (hS2.2.2.2.2.2.1 a ha)) 0 rfl rfl 1 (by decide) (htA _ wd200) (fun _ h9 => h9) rfl dV_rule_60 ?_
              refine lv_aload hx hb dV_rule_63 (lv_at hl 0 rfl) ?_
              refine va_get (D := G) (ci := 2) (v := .ref ((tc2 a).1)) (C := RT) (T := TT) (N := 4) hx hb htA inT hown hK (ob_P hob) 0 rfl rfl 0 (by decide) (htA _ wd361) (fun _ h9 => h9) rfl dV_rule_65 ?_
              refine lv_iload_n hx hb dV_rule_68 rfl (lv_at hl 4 rfl) ?_
              refine pw_iald hx hb hK h1 1 rfl (by omega) (by decide) dV_rule_69 ?_
              refine pw_ti (y := nI y) hr1 ?_
              refine pw_lald hx hb hK (hS2.2.2.2.2.2.2.1 a ha) 0 rfl (by omega) (by decide) dV_rule_70 ?_
              refine vp_callSi (va_Run.run (va_runS (As := [.long ((O a) y)]) (rest := []) ⟨hx, hb, hml, hown, htA⟩ (c_bitCount l G cA (O a y)) (va_cwS 1 htA (gd_S wd402 wd403 wd38 wd404) rfl rfl rfl (by decide +kernel) (by rw [hR]; exact ⟨Nat.le_of_ble_eq_true rfl, Nat.le_of_ble_eq_true rfl⟩)) (pw_S hKN trivial) rfl rfl hl.1 rfl (lv_room (Nat.le_of_ble_eq_true rfl)) dV_rule_71 (by rw [hR]; exact ⟨Nat.le_of_ble_eq_true rfl, Nat.le_of_ble_eq_true rfl⟩))) (fun r2 hr2 => ?_)
              subst hr2
              rw [hQ]
              refine vx_ret ?_
              refine W.widen (k := 6) (n := 208) (by omega) (by omega) ?_
              exact W.iret (v := nI (cd (O a y) 64)) hx hb hrt (fun t ht hW => ⟨a, j, u, ha, rfl, hj, rfl, hu, rfl, ⟨_, rfl, by rw [hrow]; exact Or.inr ⟨hu3, rfl⟩⟩, ⟨pa, rs, lo, hi, po, oc, tb2, tc2, by rw [ht]; exact hS2, hN2⟩, va_S.F hVF ht⟩) hL dV_rule_74
          · rw [hQ]
            exact px_thr (cls := "java/lang/IllegalArgumentException") (ik := 33) (ic := 35) hx hb hl9 hown (by decide +kernel) htA hKN wd94 wd32 tw35a tw35b tw35c hZ hVF (by rw [hml]; exact hl.1) dV_rule_45 dV_rule_48 dV_rule_49 dV_rule_52 htab (by rw [hR]; exact Nat.lt_of_lt_of_le (by decide) (Nat.le_refl _)) (by rw [hR]; exact Nat.le_of_ble_eq_true rfl) (by rw [hR]; exact Nat.le_of_ble_eq_true rfl) (by rw [hR]; exact Nat.le_of_ble_eq_true rfl) hlocks (fun t _ e1 e2 => ⟨Or.inr ⟨rfl, a, ha, rfl, hjt, inb_big (by decide) (i3_4 (Int32.not_le.mp c4))⟩, ⟨pa, rs, lo, hi, po, oc, tb2, tc2, pvS_up hS2 e2, hN2⟩, by omega, fun q e3 e4 => (e2 q (by omega)).trans (hE2 q e3 (Classical.not_not.mp e4))⟩) hL (by omega) (by omega)
      · have hge := Int32.not_lt.mp c2
        rw [hQ]
        exact px_thr (cls := "java/util/NoSuchElementException") (ik := 95) (ic := 97) hx hb hl9 hown (by decide +kernel) htA hKN wd269 wd36 tw97a tw97b tw97c hZ hVF (by rw [hml]; exact hl.1) dV_rule_28 dV_rule_31 dV_rule_32 dV_rule_35 htab (by rw [hR]; exact Nat.lt_of_lt_of_le (by decide) (Nat.le_refl _)) (by rw [hR]; exact Nat.le_of_ble_eq_true rfl) (by rw [hR]; exact Nat.le_of_ble_eq_true rfl) (by rw [hR]; exact Nat.le_of_ble_eq_true rfl) hlocks (fun t _ e1 e2 => ⟨Or.inl ⟨rfl, Or.inr ⟨a, ha, rfl, inb_big (by omega) hge⟩⟩, ⟨pa, rs, lo, hi, po, oc, tb2, tc2, pvS_up hS2 e2, hN2⟩, by omega, fun q e3 e4 => (e2 q (by omega)).trans (hE2 q e3 (Classical.not_not.mp e4))⟩) hL (by omega) (by omega)

set_option maxRecDepth 100000 in
set_option maxHeartbeats 4000000 in
theorem c_match (l : Launch) (hl9 : l.stackTraces = false) (G : va_G) (cA : Nat → ClassId) (E : Nat → Prop) (x pa rs lo hi n : Nat) (F : Nat → Bool) (O : Nat → Nat → Int64) (po oc : Nat → Nat) (tb : Nat → Option Nat) (tc : Nat → Nat × Nat × Nat) (v v2 : Int32) : vx_Met l yV_match wsV_match ({ frames := 7, cells := 6, slots := 208, locals := 167 }) (PX G cA E [.ref x, .int v, .int v2] (fun H => (pvS G cA x pa rs lo hi n F O po oc tb tc H ∧ pvN E x pa rs lo hi n po oc tb tc ∧ ∀ q, E q → q < H.size))) (fun _ st o t => ∃ a y k, a < n ∧ v = nI a ∧ y < 64 ∧ v2 = nI y ∧ plR (tbl (O a)) y k ∧ o = .returned (some (.int (nI k))) ∧ PVE G cA E x n F O t.heap ∧ va_F (fun q => ¬ E q) st t) (xQ G cA E x n F O (fun X => (X = "java/util/NoSuchElementException" ∧ inb n v = false) ∨ (X = "java/lang/IllegalArgumentException" ∧ inb n v = true ∧ inb 64 v2 = false))) 6 208 (fun q => ¬ E q) := by
  refine vx_ofW (cc := cV_match) (maxL := 4) (ret := (some .int)) (by decide) rfl ?_
  intro p e s m args below meth c s₁ B hml htab hv
  obtain ⟨hav, hKN, hZ, hpv, hNE, hElt⟩ := hv
  have hK := hKN.1
  have hx := B.exec
  have hb := B.bytes
  have hrt := B.returns
  have htA : ∀ w ∈ ALL, w.before args s = true := fun w h => atoms_spec (ws := wsV_match) B.pre w (List.mem_cons_of_mem _ h)
  have hown : s.vm.findClass RV = some m.cls := findClass_of_methodNamed B.named
  have hlocks := B.notSynchronized
  refine pw_nm (fun R Q hR hQ => ?_)
  refine pw_entry (vs := [.ref x, .int v, .int v2]) hav (Nat.le_of_ble_eq_true rfl) (fun ls hl => ?_)
  have hl : lv_has ls 4 [(0, .ref x), (1, .int v), (2, .int v2)] := hl
  have hS0 := hpv
  obtain ⟨p1, p2, p3, p4, p5, p6, p7, p8, p9, p10, p11, p12⟩ := hpv
  have hL : ∀ z ∈ ([] : List Loc), (fun q => ¬ E q) z.base := fun _ h => by cases h
  refine lv_aload_n hx hb dV_match_0 rfl (lv_at hl 0 rfl) ?_
  refine lv_iload_n hx hb dV_match_1 rfl (lv_at hl 1 rfl) ?_
  refine px_call (F := fun q => ¬ E q) (vx_runV (As := [.int v]) (rest := []) ⟨hx, hb, hml, hown, htA⟩ (c_find l hl9 G cA E x pa rs lo hi n F O po oc tb tc v) (cwV 1 htA (gd_V wd265 wd267 wd9 wd26 wd268) rfl rfl rfl (by decide +kernel) (by rw [hR]; exact ⟨Nat.le_of_ble_eq_true rfl, Nat.le_of_ble_eq_true rfl⟩)) (px_V (ci := 3) (q := (RV, TV, 4)) hKN hZ p1 rfl hS0) rfl rfl hl.1 rfl (lv_room (Nat.le_of_ble_eq_true rfl)) dV_match_2 (by rw [hR]; exact ⟨Nat.le_of_ble_eq_true rfl, Nat.le_of_ble_eq_true rfl⟩)) hL (fun q h => h.elim) (fun E9 ce9 q9 st9 t9 lc9 h09 ha9 hL9 hx9 g1 g2 g3 => ?_) (fun v9 st9 t9 lc1 h09 ha9 hL hq9 => ?_)
  · rw [hQ]
    exact vx_out (fun x9 h9 => (htab x9 h9).elim) hlocks g1 g2 g3 (fun t ht _ => xR_Q hS0 hNE (Nat.le_refl _) (fun _ _ _ => rfl) hx9 h09 (fun q => Or.inl q) ht) hL9 (by omega) (by omega)
  · obtain ⟨a, ha, rfl, hv9, hh9⟩ := hq9
    cases hv9
    rw [h09] at hh9
    rw [hh9]
    refine lv_astore_n (lv' := [(3, .ref (po a)), (0, .ref x), (1, .int (nI a)), (2, .int v2)]) hx hb dV_match_5 rfl hl (by decide) rfl (fun ls hl => ?_)
    refine lv_iload_n hx hb dV_match_6 rfl (lv_at hl 3 rfl) ?_
    refine px_call (F := fun q => ¬ E q) (vx_runS (As := [.int v2]) (rest := []) ⟨hx, hb, hml, hown, htA⟩ (c_checkPacket l hl9 G cA E v2) (va_cwS 1 htA (gd_S wd284 wd285 wd26 wd286) rfl rfl rfl (by decide +kernel) (by rw [hR]; exact ⟨Nat.le_of_ble_eq_true rfl, Nat.le_of_ble_eq_true rfl⟩)) (px_S hKN hZ trivial) rfl rfl hl.1 rfl (lv_room (Nat.le_of_ble_eq_true rfl)) dV_match_7 (by rw [hR]; exact ⟨Nat.le_of_ble_eq_true rfl, Nat.le_of_ble_eq_true rfl⟩)) hL (fun q h => h.elim) (fun E9 ce9 q9 st9 t9 lc9 h09 ha9 hL9 hx9 g1 g2 g3 => ?_) (fun v9 st9 t9 lc2 h09 ha9 hL hq9 => ?_)
    · rw [hQ]
      exact vx_out (fun x9 h9 => (htab x9 h9).elim) hlocks g1 g2 g3 (fun t ht _ => xR_Q hS0 hNE (Nat.le_refl _) (fun _ _ _ => rfl) hx9 h09 (fun q => Or.inr ⟨q.1, inb_nI ha (by omega), q.2⟩) ht) hL9 (by omega) (by omega)
    · obtain ⟨y, hy, rfl, hv9, hh9⟩ := hq9
      cases hv9
      rw [h09] at hh9
      rw [hh9]
      refine lv_aload_n hx hb dV_match_10 rfl (lv_at hl 1 rfl) ?_
      refine lv_aload_n hx hb dV_match_11 rfl (lv_at hl 0 rfl) ?_
      refine pw_call (F := fun q => ¬ E q) (va_runV (As := [.ref (po a)]) (rest := []) ⟨hx, hb, hml, hown, htA⟩ (c_tableOf l G cA x pa rs lo hi n F O po oc tb tc a ha) (cwV 1 htA (gd_V wd337 wd339 wd10 wd26 wd340) rfl rfl rfl (by decide +kernel) (by rw [hR]; exact ⟨Nat.le_of_ble_eq_true rfl, Nat.le_of_ble_eq_true rfl⟩)) (pw_V (ci := 3) (q := (RV, TV, 4)) hKN p1 rfl hS0) rfl rfl hl.1 rfl (lv_room (Nat.le_of_ble_eq_true rfl)) dV_match_12 (by rw [hR]; exact ⟨Nat.le_of_ble_eq_true rfl, Nat.le_of_ble_eq_true rfl⟩)) hL (fun q h9 => by rcases h9 with e9 | e9 | e9 <;> rw [e9]; (exact hNE.2.2.2.1); (exact hNE.2.2.2.2.1); (exact (hNE.2.2.2.2.2 a ha).1)) (fun v9 st9 t9 lcT h0 ha9 hL hq9 => ?_)
      obtain ⟨t0, tb2, tc2, hv9, hti, hS2, hNx, hz2, hk2⟩ := hq9
      cases hv9
      rw [h0] at hz2 hk2 hNx
      generalize t9.heap = H2 at hS2 hz2 hk2 ⊢
      have hN2 := hNx E hNE hElt
      have hE2 : ∀ q, q < s.heap.size → E q → H2[q]? = s.heap[q]? := fun q e0 e1 => hk2 q e0 (fun e => hNE.2.2.2.1 (e ▸ e1)) (fun e => hNE.2.2.2.2.1 (e ▸ e1)) (fun e => (hNE.2.2.2.2.2 a ha).1 (e ▸ e1))
      obtain ⟨fp, ff, pl, hob, h1, h2, h3, hT1, hT2⟩ := hS2.2.2.2.2.2.2.2.1 a ha t0 hti
      have hVF : va_S (fun q => ¬ E q) s.heap H2 lcT := ⟨hz2, fun q e0 e1 => hE2 q e0 (Classical.not_not.mp e1), hL⟩
      obtain ⟨k, hk9, hpl⟩ := hT2 y hy
      refine va_get (D := G) (ci := 2) (v := .ref ((tc2 a).2.2)) (C := RT) (T := TT) (N := 4) hx hb htA inT hown hK (ob_P hob) 0 rfl rfl 2 (by decide) (htA _ wd365) (fun _ h9 => h9) rfl dV_match_15 ?_
      refine lv_iload_n hx hb dV_match_18 rfl (lv_at hl 3 rfl) ?_
      refine pw_iald hx hb hK h3 1 rfl (by omega) (by decide) dV_match_19 ?_
      refine pw_ti (y := nI k) hpl ?_
      rw [hQ]
      refine vx_ret ?_
      refine W.widen (k := 6) (n := 208) (by omega) (by omega) ?_
      exact W.iret (v := nI k) hx hb hrt (fun t ht hW => ⟨a, y, k, ha, rfl, hy, rfl, hk9, rfl, ⟨pa, rs, lo, hi, po, oc, tb2, tc2, by rw [ht]; exact hS2, hN2⟩, va_S.F hVF ht⟩) hL dV_match_20
