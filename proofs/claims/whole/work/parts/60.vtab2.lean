set_option maxRecDepth 100000 in
set_option maxHeartbeats 4000000 in
theorem c_addRegion0 (l : Launch) (G : va_G) (cA : Nat → ClassId) (tb rs lo hi a1 a2 a3 : Nat) (f g fo : Nat → Int64) (hf : ∀ k, k < 64 → f k = rl 64 k (fo k) 64) (hg : ∀ k, k < 64 → g k = rh 64 k (fo k) 64) (D : List (Nat × Nat)) (fp ff pl : Nat → Int32) (x : Nat) (hx0 : x + 1 ≤ 64) (hD : tabI D x fp ff pl) : Met l yT_addRegion wsT_addRegion ({ frames := 1, cells := 0, slots := 0, locals := 24 }) (PH G cA [.ref tb, .ref rs, .int (nI x), .int (nI 3)] (fun H => (ob G 1 rs [.ref lo, .ref hi] H ∧ al (cA 0) lo 64 f H ∧ al (cA 0) hi 64 g H ∧ a1 ≠ a2 ∧ a1 ≠ a3 ∧ a2 ≠ a3 ∧ ob G 2 tb [.ref a1, .ref a2, .ref a3, .int (nI D.length)] H ∧ ai (cA 1) a1 64 fp H ∧ ai (cA 1) a2 64 ff H ∧ ai (cA 1) a3 64 pl H))) (fun _ st o0 t => o0 = .returned none ∧ (∃ fp2 ff2 pl2, ob G 2 tb [.ref a1, .ref a2, .ref a3, .int (nI (D ++ reg (uni 64 fo) 0 x).length)] t.heap ∧ ai (cA 1) a1 64 fp2 t.heap ∧ ai (cA 1) a2 64 ff2 t.heap ∧ ai (cA 1) a3 64 pl2 t.heap ∧ tabI (D ++ reg (uni 64 fo) 0 x) (x + 1) fp2 ff2 pl2) ∧ t.heap.size = st.heap.size ∧ ∀ q, q ≠ tb → q ≠ a1 → q ≠ a2 → q ≠ a3 → t.heap[q]? = st.heap[q]?) 0 0 (fun q => q = tb ∨ q = a1 ∨ q = a2 ∨ q = a3) := by
  refine Met.ofW (cc := cT_addRegion) (maxL := 6) (ret := none) (by decide) rfl ?_
  intro p e s m args below meth c s₁ B hml hv
  obtain ⟨hav, hKN, hrs, hlo, hhi, n12, n13, n23, hob, h1, h2, h3⟩ := hv
  have hK := hKN.1
  have hx := B.exec
  have hb := B.bytes
  have hrt := B.returns
  have htA : ∀ w ∈ ALL, w.before args s = true := fun w h => atoms_spec (ws := wsT_addRegion) B.pre w (List.mem_cons_of_mem _ h)
  have hown : s.vm.findClass RT = some m.cls := findClass_of_methodNamed B.named
  have hlocks := B.notSynchronized
  refine pw_nm (fun R Q hR hQ => ?_)
  refine pw_entry (vs := [.ref tb, .ref rs, .int (nI x), .int (nI 3)]) hav (Nat.le_of_ble_eq_true rfl) (fun ls hl => ?_)
  have hl : lv_has ls 6 [(0, .ref tb), (1, .ref rs), (2, .int (nI x)), (3, .int (nI 3))] := hl
  have hdd := hKN.dis
  have krs := kd_o (cA := cA) (by decide) hrs
  have klo := kd_l (G := G) hlo
  have khi := kd_l (G := G) hhi
  have ktb := kd_o (cA := cA) (by decide) hob
  have k1 := kd_i (G := G) h1
  have k2 := kd_i (G := G) h2
  have k3 := kd_i (G := G) h3
  have nrs : ∀ q, q = tb ∨ q = a1 ∨ q = a2 ∨ q = a3 → rs ≠ q := fun q hq => by rcases hq with rfl | rfl | rfl | rfl; (exact kd_ne hdd krs ktb (by decide)); (exact kd_ne hdd krs k1 (by decide)); (exact kd_ne hdd krs k2 (by decide)); (exact kd_ne hdd krs k3 (by decide))
  have nlo : ∀ q, q = tb ∨ q = a1 ∨ q = a2 ∨ q = a3 → lo ≠ q := fun q hq => by rcases hq with rfl | rfl | rfl | rfl; (exact kd_ne hdd klo ktb (by decide)); (exact kd_ne hdd klo k1 (by decide)); (exact kd_ne hdd klo k2 (by decide)); (exact kd_ne hdd klo k3 (by decide))
  have nhi : ∀ q, q = tb ∨ q = a1 ∨ q = a2 ∨ q = a3 → hi ≠ q := fun q hq => by rcases hq with rfl | rfl | rfl | rfl; (exact kd_ne hdd khi ktb (by decide)); (exact kd_ne hdd khi k1 (by decide)); (exact kd_ne hdd khi k2 (by decide)); (exact kd_ne hdd khi k3 (by decide))
  have hDl := hD.1
  have hz : s.heap.size = s.heap.size := rfl
  have hk : ∀ q, q ≠ tb → q ≠ a1 → q ≠ a2 → q ≠ a3 → s.heap[q]? = s.heap[q]? := fun _ _ _ _ _ => rfl
  have hL : ∀ z ∈ ([] : List Loc), (fun q => q = tb ∨ q = a1 ∨ q = a2 ∨ q = a3) z.base := fun _ h => by cases h
  refine lv_bipush (v := nI 64) hx hb dT_addRegion_0 (by decide) ?_
  refine lv_iconst (v := nI 2) hx hb dT_addRegion_2 (by decide) ?_
  refine lv_iload_n hx hb dT_addRegion_3 rfl (lv_at hl 3 rfl) ?_
  refine lv_imul hx hb dT_addRegion_4 ?_
  refine lv_ishr hx hb dT_addRegion_5 ?_
  refine pw_ti (y := nI 1) (by decide +kernel) ?_
  refine lv_istore (lv' := [(4, .int (nI 1)), (0, .ref tb), (1, .ref rs), (2, .int (nI x)), (3, .int (nI 3))]) hx hb dT_addRegion_6 hl (by decide) rfl (fun ls hl => ?_)
  refine lv_iload_n hx hb dT_addRegion_8 rfl (lv_at hl 4 rfl) ?_
  refine lv_iconst (v := nI 3) hx hb dT_addRegion_9 (by decide) ?_
  refine lv_icmp_ge (tgt := 23) hx hb dT_addRegion_10 (by decide) (fun _ => ?_) (fun c9 => absurd (Int32.le_refl _) c9)
  refine lv_aload_n hx hb dT_addRegion_23 rfl (lv_at hl 1 rfl) ?_
  refine lv_iload_n hx hb dT_addRegion_24 rfl (lv_at hl 3 rfl) ?_
  refine lv_iload_n hx hb dT_addRegion_25 rfl (lv_at hl 4 rfl) ?_
  refine lv_iload hx hb dT_addRegion_26 (lv_at hl 0 rfl) ?_
  refine pw_call (F := (fun q => q = tb ∨ q = a1 ∨ q = a2 ∨ q = a3)) (va_runV (As := [.int (nI x), .int (nI 3), .int (nI 1)]) (rest := []) ⟨hx, hb, hml, hown, htA⟩ (c_addRule l G cA tb a1 a2 a3 D.length fp ff pl x 3 1 (by omega) hx0) (cwV 3 htA (gd_V wd390 wd392 wd13 wd37 wd393) rfl rfl rfl (by decide +kernel) (by rw [hR]; exact ⟨Nat.le_of_ble_eq_true rfl, Nat.le_of_ble_eq_true rfl⟩)) (pw_V (ci := 2) (q := (RT, TT, 4)) hKN hob rfl ⟨n12, n13, n23, hob, h1, h2, h3⟩) rfl rfl hl.1 rfl (lv_room (Nat.le_of_ble_eq_true rfl)) dT_addRegion_28 (by rw [hR]; exact ⟨Nat.le_of_ble_eq_true rfl, Nat.le_of_ble_eq_true rfl⟩)) hL (fun q h => h) (fun v9 st9 t9 lc9 h0 ha9 hL hq9 => ?_)
  obtain ⟨hv9, hob, h1, h2, ⟨pl9, h3, hpl⟩, hz1, hk1⟩ := hq9
  cases hv9
  rw [h0] at hz1 hk1
  generalize t9.heap = H6 at hob h1 h2 h3 hz1 hk1 ⊢
  have hD2 := tabI_s (d := 0) hD (show 4 ^ 0 = 1 by decide) hpl hx0
  have hlen : D.length + 1 = (D ++ [(x, 0)]).length := by rw [List.length_append]; rfl
  rw [hlen] at hob
  have hreg : reg (uni 64 fo) 0 x = [(x, 0)] := rfl
  rw [hQ]
  exact W.vret hx hb hrt (fun t ht hW => ⟨rfl, ⟨_, _, pl9, by rw [hreg, ht]; exact ⟨hob, h1, h2, h3, hD2⟩⟩, by rw [ht]; exact hz1.trans hz, by rw [ht]; exact fun q e0 e1 e2 e3 => (hk1 q e0 e1 e2 e3).trans (hk q e0 e1 e2 e3)⟩) hL dT_addRegion_31

set_option maxRecDepth 100000 in
set_option maxHeartbeats 4000000 in
theorem c_addRegion1 (l : Launch) (G : va_G) (cA : Nat → ClassId) (tb rs lo hi a1 a2 a3 : Nat) (f g fo : Nat → Int64) (hf : ∀ k, k < 64 → f k = rl 64 k (fo k) 64) (hg : ∀ k, k < 64 → g k = rh 64 k (fo k) 64) (D : List (Nat × Nat)) (fp ff pl : Nat → Int32) (x : Nat) (hx0 : x + 4 ≤ 64) (hD : tabI D x fp ff pl) : Met l yT_addRegion wsT_addRegion ({ frames := 2, cells := 0, slots := 0, locals := 49 }) (PH G cA [.ref tb, .ref rs, .int (nI x), .int (nI 2)] (fun H => (ob G 1 rs [.ref lo, .ref hi] H ∧ al (cA 0) lo 64 f H ∧ al (cA 0) hi 64 g H ∧ a1 ≠ a2 ∧ a1 ≠ a3 ∧ a2 ≠ a3 ∧ ob G 2 tb [.ref a1, .ref a2, .ref a3, .int (nI D.length)] H ∧ ai (cA 1) a1 64 fp H ∧ ai (cA 1) a2 64 ff H ∧ ai (cA 1) a3 64 pl H))) (fun _ st o0 t => o0 = .returned none ∧ (∃ fp2 ff2 pl2, ob G 2 tb [.ref a1, .ref a2, .ref a3, .int (nI (D ++ reg (uni 64 fo) 1 x).length)] t.heap ∧ ai (cA 1) a1 64 fp2 t.heap ∧ ai (cA 1) a2 64 ff2 t.heap ∧ ai (cA 1) a3 64 pl2 t.heap ∧ tabI (D ++ reg (uni 64 fo) 1 x) (x + 4) fp2 ff2 pl2) ∧ t.heap.size = st.heap.size ∧ ∀ q, q ≠ tb → q ≠ a1 → q ≠ a2 → q ≠ a3 → t.heap[q]? = st.heap[q]?) 0 0 (fun q => q = tb ∨ q = a1 ∨ q = a2 ∨ q = a3) := by
  refine Met.ofW (cc := cT_addRegion) (maxL := 6) (ret := none) (by decide) rfl ?_
  intro p e s m args below meth c s₁ B hml hv
  obtain ⟨hav, hKN, hrs, hlo, hhi, n12, n13, n23, hob, h1, h2, h3⟩ := hv
  have hK := hKN.1
  have hx := B.exec
  have hb := B.bytes
  have hrt := B.returns
  have htA : ∀ w ∈ ALL, w.before args s = true := fun w h => atoms_spec (ws := wsT_addRegion) B.pre w (List.mem_cons_of_mem _ h)
  have hown : s.vm.findClass RT = some m.cls := findClass_of_methodNamed B.named
  have hlocks := B.notSynchronized
  refine pw_nm (fun R Q hR hQ => ?_)
  refine pw_entry (vs := [.ref tb, .ref rs, .int (nI x), .int (nI 2)]) hav (Nat.le_of_ble_eq_true rfl) (fun ls hl => ?_)
  have hl : lv_has ls 6 [(0, .ref tb), (1, .ref rs), (2, .int (nI x)), (3, .int (nI 2))] := hl
  have hdd := hKN.dis
  have krs := kd_o (cA := cA) (by decide) hrs
  have klo := kd_l (G := G) hlo
  have khi := kd_l (G := G) hhi
  have ktb := kd_o (cA := cA) (by decide) hob
  have k1 := kd_i (G := G) h1
  have k2 := kd_i (G := G) h2
  have k3 := kd_i (G := G) h3
  have nrs : ∀ q, q = tb ∨ q = a1 ∨ q = a2 ∨ q = a3 → rs ≠ q := fun q hq => by rcases hq with rfl | rfl | rfl | rfl; (exact kd_ne hdd krs ktb (by decide)); (exact kd_ne hdd krs k1 (by decide)); (exact kd_ne hdd krs k2 (by decide)); (exact kd_ne hdd krs k3 (by decide))
  have nlo : ∀ q, q = tb ∨ q = a1 ∨ q = a2 ∨ q = a3 → lo ≠ q := fun q hq => by rcases hq with rfl | rfl | rfl | rfl; (exact kd_ne hdd klo ktb (by decide)); (exact kd_ne hdd klo k1 (by decide)); (exact kd_ne hdd klo k2 (by decide)); (exact kd_ne hdd klo k3 (by decide))
  have nhi : ∀ q, q = tb ∨ q = a1 ∨ q = a2 ∨ q = a3 → hi ≠ q := fun q hq => by rcases hq with rfl | rfl | rfl | rfl; (exact kd_ne hdd khi ktb (by decide)); (exact kd_ne hdd khi k1 (by decide)); (exact kd_ne hdd khi k2 (by decide)); (exact kd_ne hdd khi k3 (by decide))
  have hDl := hD.1
  have hz : s.heap.size = s.heap.size := rfl
  have hk : ∀ q, q ≠ tb → q ≠ a1 → q ≠ a2 → q ≠ a3 → s.heap[q]? = s.heap[q]? := fun _ _ _ _ _ => rfl
  have hL : ∀ z ∈ ([] : List Loc), (fun q => q = tb ∨ q = a1 ∨ q = a2 ∨ q = a3) z.base := fun _ h => by cases h
  refine lv_bipush (v := nI 64) hx hb dT_addRegion_0 (by decide) ?_
  refine lv_iconst (v := nI 2) hx hb dT_addRegion_2 (by decide) ?_
  refine lv_iload_n hx hb dT_addRegion_3 rfl (lv_at hl 3 rfl) ?_
  refine lv_imul hx hb dT_addRegion_4 ?_
  refine lv_ishr hx hb dT_addRegion_5 ?_
  refine pw_ti (y := nI 4) (by decide +kernel) ?_
  refine lv_istore (lv' := [(4, .int (nI 4)), (0, .ref tb), (1, .ref rs), (2, .int (nI x)), (3, .int (nI 2))]) hx hb dT_addRegion_6 hl (by decide) rfl (fun ls hl => ?_)
  refine lv_iload_n hx hb dT_addRegion_8 rfl (lv_at hl 4 rfl) ?_
  refine lv_iconst (v := nI 3) hx hb dT_addRegion_9 (by decide) ?_
  refine lv_icmp_ge (tgt := 23) hx hb dT_addRegion_10 (by decide) (fun c9 => absurd c9 (by decide)) (fun _ => ?_)
  refine lv_aload_n hx hb dT_addRegion_13 rfl (lv_at hl 2 rfl) ?_
  refine lv_iload_n hx hb dT_addRegion_14 rfl (lv_at hl 3 rfl) ?_
  refine lv_iload hx hb dT_addRegion_15 (lv_at hl 0 rfl) ?_
  refine vp_callSi (va_Run.run (va_runV (As := [.int (nI x), .int (nI 4)]) (rest := []) ⟨hx, hb, hml, hown, htA⟩ (c_areAlike l G cA rs lo hi f g fo hf hg x 4 (by decide) hx0) (cwV 2 htA (gd_V wd386 wd387 wd388 wd27 wd389) rfl rfl rfl (by decide +kernel) (by rw [hR]; exact ⟨Nat.le_of_ble_eq_true rfl, Nat.le_of_ble_eq_true rfl⟩)) (pw_V (ci := 1) (q := (RQ, TQ, 2)) hKN hrs rfl ⟨hrs, hlo, hhi⟩) rfl rfl hl.1 rfl (lv_room (Nat.le_of_ble_eq_true rfl)) dT_addRegion_17 (by rw [hR]; exact ⟨Nat.le_of_ble_eq_true rfl, Nat.le_of_ble_eq_true rfl⟩))) (fun r1 hr1 => ?_)
  subst hr1
  refine lv_if_eq (tgt := 32) hx hb dT_addRegion_20 (by decide) (fun c1 => ?_) (fun c1 => ?_)
  · have hq := bI_eq.mp c1
    refine lv_iconst (v := nI 0) hx hb dT_addRegion_32 (by decide) ?_
    refine lv_istore (lv' := [(5, .int (nI 0)), (4, .int (nI 4)), (0, .ref tb), (1, .ref rs), (2, .int (nI x)), (3, .int (nI 2))]) hx hb dT_addRegion_33 hl (by decide) rfl (fun ls hl => ?_)
    have hreg : reg (uni 64 fo) 1 x = reg (uni 64 fo) 0 x ++ (reg (uni 64 fo) 0 (x + 1) ++ (reg (uni 64 fo) 0 (x + 2) ++ reg (uni 64 fo) 0 (x + 3))) := by rw [reg_s, if_neg (by show ¬ uni 64 fo x 4 = true; rw [hq]; decide)]
    refine lv_iload hx hb dT_addRegion_35 (lv_at hl 0 rfl) ?_
    refine lv_iconst (v := nI 4) hx hb dT_addRegion_37 (by decide) ?_
    refine lv_icmp_ge (tgt := 64) hx hb dT_addRegion_38 (by decide) (fun c9 => absurd c9 (by decide)) (fun _ => ?_)
    refine lv_aload_n hx hb dT_addRegion_41 rfl (lv_at hl 2 rfl) ?_
    refine lv_aload_n hx hb dT_addRegion_42 rfl (lv_at hl 3 rfl) ?_
    refine lv_iload_n hx hb dT_addRegion_43 rfl (lv_at hl 4 rfl) ?_
    refine lv_iload hx hb dT_addRegion_44 (lv_at hl 0 rfl) ?_
    refine lv_iload_n hx hb dT_addRegion_46 rfl (lv_at hl 5 rfl) ?_
    refine vp_callSi (va_Run.run (va_runSN (As := [.int (nI 2)]) (rest := [.int (nI 0), .int (nI x), .ref rs, .ref tb]) ⟨hx, hb, hml, hown, htA⟩ (c_weightOf l G cA 2 (by decide)) ⟨va_cnB 1 htA (gd_m wd225) rfl rfl rfl (KN.n hKN (w := .methodLinkNest RT 39 yV_weightOf RV) (by decide +kernel)) (htA _ wd26) (by decide +kernel) (by rw [hR]; exact ⟨Nat.le_of_ble_eq_true rfl, Nat.le_of_ble_eq_true rfl⟩), htA _ wd224, trivial⟩ (pw_S hKN trivial) rfl rfl hl.1 rfl (lv_room (Nat.le_of_ble_eq_true rfl)) dT_addRegion_47 (by rw [hR]; exact ⟨Nat.le_of_ble_eq_true rfl, Nat.le_of_ble_eq_true rfl⟩))) (fun r2 hr2 => ?_)
    subst hr2
    refine pw_ti (y := nI 1) (by decide +kernel) ?_
    refine lv_imul hx hb dT_addRegion_50 ?_
    refine pw_ti (y := nI 0) (by decide +kernel) ?_
    refine lv_iadd hx hb dT_addRegion_51 ?_
    refine pw_ti (y := nI (x + 0)) (nI_add _ _) ?_
    refine lv_iload_n hx hb dT_addRegion_52 rfl (lv_at hl 5 rfl) ?_
    refine lv_iconst (v := nI 1) hx hb dT_addRegion_53 (by decide) ?_
    refine lv_iadd hx hb dT_addRegion_54 ?_
    refine pw_ti (y := nI 3) (by decide +kernel) ?_
    refine W.eq (g2 := F0 m 55 ls [.int (nI 3), .int (nI x), .ref rs, .ref tb]) rfl ?_
    refine pw_call (F := (fun q => q = tb ∨ q = a1 ∨ q = a2 ∨ q = a3)) (va_runV (As := [.ref rs, .int (nI x), .int (nI 3)]) (rest := []) ⟨hx, hb, hml, hown, htA⟩ (c_addRegion0 l G cA tb rs lo hi a1 a2 a3 f g fo hf hg (D) fp ff pl (x) (by omega) hD) (cwV 3 htA (gd_V wd382 wd384 wd12 wd37 wd385) rfl rfl rfl (by decide +kernel) (by rw [hR]; exact ⟨Nat.le_of_ble_eq_true rfl, Nat.le_of_ble_eq_true rfl⟩)) (pw_V (ci := 2) (q := (RT, TT, 4)) hKN hob rfl ⟨hrs, hlo, hhi, n12, n13, n23, hob, h1, h2, h3⟩) rfl rfl hl.1 rfl (lv_room (Nat.le_of_ble_eq_true rfl)) dT_addRegion_55 (by rw [hR]; exact ⟨Nat.le_of_ble_eq_true rfl, Nat.le_of_ble_eq_true rfl⟩)) hL (fun q h => h) (fun v9 st9 t9 lc20 h0 ha9 hL hq9 => ?_)
    obtain ⟨hv9, ⟨fp0, ff0, pl0, hob, h1, h2, h3, hD0⟩, hz1, hk1⟩ := hq9
    cases hv9
    rw [h0] at hz1 hk1
    generalize t9.heap = H20 at hob h1 h2 h3 hz1 hk1 ⊢
    have hrs := ob_k hrs (hk1 rs (nrs _ (Or.inl rfl)) (nrs _ (Or.inr (Or.inl rfl))) (nrs _ (Or.inr (Or.inr (Or.inl rfl)))) (nrs _ (Or.inr (Or.inr (Or.inr rfl)))))
    have hlo := al_k hlo (hk1 lo (nlo _ (Or.inl rfl)) (nlo _ (Or.inr (Or.inl rfl))) (nlo _ (Or.inr (Or.inr (Or.inl rfl)))) (nlo _ (Or.inr (Or.inr (Or.inr rfl)))))
    have hhi := al_k hhi (hk1 hi (nhi _ (Or.inl rfl)) (nhi _ (Or.inr (Or.inl rfl))) (nhi _ (Or.inr (Or.inr (Or.inl rfl)))) (nhi _ (Or.inr (Or.inr (Or.inr rfl)))))
    have hk : ∀ q, q ≠ tb → q ≠ a1 → q ≠ a2 → q ≠ a3 → H20[q]? = s.heap[q]? := fun q e0 e1 e2 e3 => (hk1 q e0 e1 e2 e3).trans (hk q e0 e1 e2 e3)
    have hz := hz1.trans hz
    have hD0 : tabI (D ++ reg (uni 64 fo) 0 (x)) (x + 1) fp0 ff0 pl0 := hD0
    refine lv_iinc (v := nI (0 + 1)) (lv' := [(5, .int (nI (0 + 1))), (4, .int (nI 4)), (0, .ref tb), (1, .ref rs), (2, .int (nI x)), (3, .int (nI 2))]) hx hb dT_addRegion_58 hl (k := 0) rfl (nI_1 0) (by decide) rfl (fun ls hl => ?_)
    refine lv_goto (tgt := 35) hx hb dT_addRegion_61 (by decide) ?_
    have hl : lv_has ls 6 [(5, .int (nI 1)), (4, .int (nI 4)), (0, .ref tb), (1, .ref rs), (2, .int (nI x)), (3, .int (nI 2))] := hl
    refine lv_iload hx hb dT_addRegion_35 (lv_at hl 0 rfl) ?_
    refine lv_iconst (v := nI 4) hx hb dT_addRegion_37 (by decide) ?_
    refine lv_icmp_ge (tgt := 64) hx hb dT_addRegion_38 (by decide) (fun c9 => absurd c9 (by decide)) (fun _ => ?_)
    refine lv_aload_n hx hb dT_addRegion_41 rfl (lv_at hl 2 rfl) ?_
    refine lv_aload_n hx hb dT_addRegion_42 rfl (lv_at hl 3 rfl) ?_
    refine lv_iload_n hx hb dT_addRegion_43 rfl (lv_at hl 4 rfl) ?_
    refine lv_iload hx hb dT_addRegion_44 (lv_at hl 0 rfl) ?_
    refine lv_iload_n hx hb dT_addRegion_46 rfl (lv_at hl 5 rfl) ?_
    refine vp_callSi (va_Run.run (va_runSN (As := [.int (nI 2)]) (rest := [.int (nI 1), .int (nI x), .ref rs, .ref tb]) ⟨hx, hb, hml, hown, htA⟩ (c_weightOf l G cA 2 (by decide)) ⟨va_cnB 1 htA (gd_m wd225) rfl rfl rfl (KN.n hKN (w := .methodLinkNest RT 39 yV_weightOf RV) (by decide +kernel)) (htA _ wd26) (by decide +kernel) (by rw [hR]; exact ⟨Nat.le_of_ble_eq_true rfl, Nat.le_of_ble_eq_true rfl⟩), htA _ wd224, trivial⟩ (pw_S hKN trivial) rfl rfl hl.1 rfl (lv_room (Nat.le_of_ble_eq_true rfl)) dT_addRegion_47 (by rw [hR]; exact ⟨Nat.le_of_ble_eq_true rfl, Nat.le_of_ble_eq_true rfl⟩))) (fun r3 hr3 => ?_)
    subst hr3
    refine pw_ti (y := nI 1) (by decide +kernel) ?_
    refine lv_imul hx hb dT_addRegion_50 ?_
    refine pw_ti (y := nI 1) (by decide +kernel) ?_
    refine lv_iadd hx hb dT_addRegion_51 ?_
    refine pw_ti (y := nI (x + 1)) (nI_add _ _) ?_
    refine lv_iload_n hx hb dT_addRegion_52 rfl (lv_at hl 5 rfl) ?_
    refine lv_iconst (v := nI 1) hx hb dT_addRegion_53 (by decide) ?_
    refine lv_iadd hx hb dT_addRegion_54 ?_
    refine pw_ti (y := nI 3) (by decide +kernel) ?_
    refine pw_call (F := (fun q => q = tb ∨ q = a1 ∨ q = a2 ∨ q = a3)) (va_runV (As := [.ref rs, .int (nI (x + 1)), .int (nI 3)]) (rest := []) ⟨hx, hb, hml, hown, htA⟩ (c_addRegion0 l G cA tb rs lo hi a1 a2 a3 f g fo hf hg (D ++ reg (uni 64 fo) 0 (x)) fp0 ff0 pl0 (x + 1) (by omega) hD0) (cwV 3 htA (gd_V wd382 wd384 wd12 wd37 wd385) rfl rfl rfl (by decide +kernel) (by rw [hR]; exact ⟨Nat.le_of_ble_eq_true rfl, Nat.le_of_ble_eq_true rfl⟩)) (pw_V (ci := 2) (q := (RT, TT, 4)) hKN hob rfl ⟨hrs, hlo, hhi, n12, n13, n23, hob, h1, h2, h3⟩) rfl rfl hl.1 rfl (lv_room (Nat.le_of_ble_eq_true rfl)) dT_addRegion_55 (by rw [hR]; exact ⟨Nat.le_of_ble_eq_true rfl, Nat.le_of_ble_eq_true rfl⟩)) hL (fun q h => h) (fun v9 st9 t9 lc21 h0 ha9 hL hq9 => ?_)
    obtain ⟨hv9, ⟨fp1, ff1, pl1, hob, h1, h2, h3, hD1⟩, hz1, hk1⟩ := hq9
    cases hv9
    rw [h0] at hz1 hk1
    generalize t9.heap = H21 at hob h1 h2 h3 hz1 hk1 ⊢
    have hrs := ob_k hrs (hk1 rs (nrs _ (Or.inl rfl)) (nrs _ (Or.inr (Or.inl rfl))) (nrs _ (Or.inr (Or.inr (Or.inl rfl)))) (nrs _ (Or.inr (Or.inr (Or.inr rfl)))))
    have hlo := al_k hlo (hk1 lo (nlo _ (Or.inl rfl)) (nlo _ (Or.inr (Or.inl rfl))) (nlo _ (Or.inr (Or.inr (Or.inl rfl)))) (nlo _ (Or.inr (Or.inr (Or.inr rfl)))))
    have hhi := al_k hhi (hk1 hi (nhi _ (Or.inl rfl)) (nhi _ (Or.inr (Or.inl rfl))) (nhi _ (Or.inr (Or.inr (Or.inl rfl)))) (nhi _ (Or.inr (Or.inr (Or.inr rfl)))))
    have hk : ∀ q, q ≠ tb → q ≠ a1 → q ≠ a2 → q ≠ a3 → H21[q]? = s.heap[q]? := fun q e0 e1 e2 e3 => (hk1 q e0 e1 e2 e3).trans (hk q e0 e1 e2 e3)
    have hz := hz1.trans hz
    rw [Nat.add_assoc] at hD1
    have hD1 : tabI ((D ++ reg (uni 64 fo) 0 (x)) ++ reg (uni 64 fo) 0 (x + 1)) (x + 2) fp1 ff1 pl1 := hD1
    refine lv_iinc (v := nI (1 + 1)) (lv' := [(5, .int (nI (1 + 1))), (4, .int (nI 4)), (0, .ref tb), (1, .ref rs), (2, .int (nI x)), (3, .int (nI 2))]) hx hb dT_addRegion_58 hl (k := 0) rfl (nI_1 1) (by decide) rfl (fun ls hl => ?_)
    refine lv_goto (tgt := 35) hx hb dT_addRegion_61 (by decide) ?_
    have hl : lv_has ls 6 [(5, .int (nI 2)), (4, .int (nI 4)), (0, .ref tb), (1, .ref rs), (2, .int (nI x)), (3, .int (nI 2))] := hl
    refine lv_iload hx hb dT_addRegion_35 (lv_at hl 0 rfl) ?_
    refine lv_iconst (v := nI 4) hx hb dT_addRegion_37 (by decide) ?_
    refine lv_icmp_ge (tgt := 64) hx hb dT_addRegion_38 (by decide) (fun c9 => absurd c9 (by decide)) (fun _ => ?_)
    refine lv_aload_n hx hb dT_addRegion_41 rfl (lv_at hl 2 rfl) ?_
    refine lv_aload_n hx hb dT_addRegion_42 rfl (lv_at hl 3 rfl) ?_
    refine lv_iload_n hx hb dT_addRegion_43 rfl (lv_at hl 4 rfl) ?_
    refine lv_iload hx hb dT_addRegion_44 (lv_at hl 0 rfl) ?_
    refine lv_iload_n hx hb dT_addRegion_46 rfl (lv_at hl 5 rfl) ?_
    refine vp_callSi (va_Run.run (va_runSN (As := [.int (nI 2)]) (rest := [.int (nI 2), .int (nI x), .ref rs, .ref tb]) ⟨hx, hb, hml, hown, htA⟩ (c_weightOf l G cA 2 (by decide)) ⟨va_cnB 1 htA (gd_m wd225) rfl rfl rfl (KN.n hKN (w := .methodLinkNest RT 39 yV_weightOf RV) (by decide +kernel)) (htA _ wd26) (by decide +kernel) (by rw [hR]; exact ⟨Nat.le_of_ble_eq_true rfl, Nat.le_of_ble_eq_true rfl⟩), htA _ wd224, trivial⟩ (pw_S hKN trivial) rfl rfl hl.1 rfl (lv_room (Nat.le_of_ble_eq_true rfl)) dT_addRegion_47 (by rw [hR]; exact ⟨Nat.le_of_ble_eq_true rfl, Nat.le_of_ble_eq_true rfl⟩))) (fun r4 hr4 => ?_)
    subst hr4
    refine pw_ti (y := nI 1) (by decide +kernel) ?_
    refine lv_imul hx hb dT_addRegion_50 ?_
    refine pw_ti (y := nI 2) (by decide +kernel) ?_
    refine lv_iadd hx hb dT_addRegion_51 ?_
    refine pw_ti (y := nI (x + 2)) (nI_add _ _) ?_
    refine lv_iload_n hx hb dT_addRegion_52 rfl (lv_at hl 5 rfl) ?_
    refine lv_iconst (v := nI 1) hx hb dT_addRegion_53 (by decide) ?_
    refine lv_iadd hx hb dT_addRegion_54 ?_
    refine pw_ti (y := nI 3) (by decide +kernel) ?_
    refine pw_call (F := (fun q => q = tb ∨ q = a1 ∨ q = a2 ∨ q = a3)) (va_runV (As := [.ref rs, .int (nI (x + 2)), .int (nI 3)]) (rest := []) ⟨hx, hb, hml, hown, htA⟩ (c_addRegion0 l G cA tb rs lo hi a1 a2 a3 f g fo hf hg ((D ++ reg (uni 64 fo) 0 (x)) ++ reg (uni 64 fo) 0 (x + 1)) fp1 ff1 pl1 (x + 2) (by omega) hD1) (cwV 3 htA (gd_V wd382 wd384 wd12 wd37 wd385) rfl rfl rfl (by decide +kernel) (by rw [hR]; exact ⟨Nat.le_of_ble_eq_true rfl, Nat.le_of_ble_eq_true rfl⟩)) (pw_V (ci := 2) (q := (RT, TT, 4)) hKN hob rfl ⟨hrs, hlo, hhi, n12, n13, n23, hob, h1, h2, h3⟩) rfl rfl hl.1 rfl (lv_room (Nat.le_of_ble_eq_true rfl)) dT_addRegion_55 (by rw [hR]; exact ⟨Nat.le_of_ble_eq_true rfl, Nat.le_of_ble_eq_true rfl⟩)) hL (fun q h => h) (fun v9 st9 t9 lc22 h0 ha9 hL hq9 => ?_)
    obtain ⟨hv9, ⟨fp2, ff2, pl2, hob, h1, h2, h3, hD2⟩, hz1, hk1⟩ := hq9
    cases hv9
    rw [h0] at hz1 hk1
    generalize t9.heap = H22 at hob h1 h2 h3 hz1 hk1 ⊢
    have hrs := ob_k hrs (hk1 rs (nrs _ (Or.inl rfl)) (nrs _ (Or.inr (Or.inl rfl))) (nrs _ (Or.inr (Or.inr (Or.inl rfl)))) (nrs _ (Or.inr (Or.inr (Or.inr rfl)))))
    have hlo := al_k hlo (hk1 lo (nlo _ (Or.inl rfl)) (nlo _ (Or.inr (Or.inl rfl))) (nlo _ (Or.inr (Or.inr (Or.inl rfl)))) (nlo _ (Or.inr (Or.inr (Or.inr rfl)))))
    have hhi := al_k hhi (hk1 hi (nhi _ (Or.inl rfl)) (nhi _ (Or.inr (Or.inl rfl))) (nhi _ (Or.inr (Or.inr (Or.inl rfl)))) (nhi _ (Or.inr (Or.inr (Or.inr rfl)))))
    have hk : ∀ q, q ≠ tb → q ≠ a1 → q ≠ a2 → q ≠ a3 → H22[q]? = s.heap[q]? := fun q e0 e1 e2 e3 => (hk1 q e0 e1 e2 e3).trans (hk q e0 e1 e2 e3)
    have hz := hz1.trans hz
    rw [Nat.add_assoc] at hD2
    have hD2 : tabI (((D ++ reg (uni 64 fo) 0 (x)) ++ reg (uni 64 fo) 0 (x + 1)) ++ reg (uni 64 fo) 0 (x + 2)) (x + 3) fp2 ff2 pl2 := hD2
    refine lv_iinc (v := nI (2 + 1)) (lv' := [(5, .int (nI (2 + 1))), (4, .int (nI 4)), (0, .ref tb), (1, .ref rs), (2, .int (nI x)), (3, .int (nI 2))]) hx hb dT_addRegion_58 hl (k := 0) rfl (nI_1 2) (by decide) rfl (fun ls hl => ?_)
    refine lv_goto (tgt := 35) hx hb dT_addRegion_61 (by decide) ?_
    have hl : lv_has ls 6 [(5, .int (nI 3)), (4, .int (nI 4)), (0, .ref tb), (1, .ref rs), (2, .int (nI x)), (3, .int (nI 2))] := hl
    refine lv_iload hx hb dT_addRegion_35 (lv_at hl 0 rfl) ?_
    refine lv_iconst (v := nI 4) hx hb dT_addRegion_37 (by decide) ?_
    refine lv_icmp_ge (tgt := 64) hx hb dT_addRegion_38 (by decide) (fun c9 => absurd c9 (by decide)) (fun _ => ?_)
    refine lv_aload_n hx hb dT_addRegion_41 rfl (lv_at hl 2 rfl) ?_
    refine lv_aload_n hx hb dT_addRegion_42 rfl (lv_at hl 3 rfl) ?_
    refine lv_iload_n hx hb dT_addRegion_43 rfl (lv_at hl 4 rfl) ?_
    refine lv_iload hx hb dT_addRegion_44 (lv_at hl 0 rfl) ?_
    refine lv_iload_n hx hb dT_addRegion_46 rfl (lv_at hl 5 rfl) ?_
    refine vp_callSi (va_Run.run (va_runSN (As := [.int (nI 2)]) (rest := [.int (nI 3), .int (nI x), .ref rs, .ref tb]) ⟨hx, hb, hml, hown, htA⟩ (c_weightOf l G cA 2 (by decide)) ⟨va_cnB 1 htA (gd_m wd225) rfl rfl rfl (KN.n hKN (w := .methodLinkNest RT 39 yV_weightOf RV) (by decide +kernel)) (htA _ wd26) (by decide +kernel) (by rw [hR]; exact ⟨Nat.le_of_ble_eq_true rfl, Nat.le_of_ble_eq_true rfl⟩), htA _ wd224, trivial⟩ (pw_S hKN trivial) rfl rfl hl.1 rfl (lv_room (Nat.le_of_ble_eq_true rfl)) dT_addRegion_47 (by rw [hR]; exact ⟨Nat.le_of_ble_eq_true rfl, Nat.le_of_ble_eq_true rfl⟩))) (fun r5 hr5 => ?_)
    subst hr5
    refine pw_ti (y := nI 1) (by decide +kernel) ?_
    refine lv_imul hx hb dT_addRegion_50 ?_
    refine pw_ti (y := nI 3) (by decide +kernel) ?_
    refine lv_iadd hx hb dT_addRegion_51 ?_
    refine pw_ti (y := nI (x + 3)) (nI_add _ _) ?_
    refine lv_iload_n hx hb dT_addRegion_52 rfl (lv_at hl 5 rfl) ?_
    refine lv_iconst (v := nI 1) hx hb dT_addRegion_53 (by decide) ?_
    refine lv_iadd hx hb dT_addRegion_54 ?_
    refine pw_ti (y := nI 3) (by decide +kernel) ?_
    refine pw_call (F := (fun q => q = tb ∨ q = a1 ∨ q = a2 ∨ q = a3)) (va_runV (As := [.ref rs, .int (nI (x + 3)), .int (nI 3)]) (rest := []) ⟨hx, hb, hml, hown, htA⟩ (c_addRegion0 l G cA tb rs lo hi a1 a2 a3 f g fo hf hg (((D ++ reg (uni 64 fo) 0 (x)) ++ reg (uni 64 fo) 0 (x + 1)) ++ reg (uni 64 fo) 0 (x + 2)) fp2 ff2 pl2 (x + 3) (by omega) hD2) (cwV 3 htA (gd_V wd382 wd384 wd12 wd37 wd385) rfl rfl rfl (by decide +kernel) (by rw [hR]; exact ⟨Nat.le_of_ble_eq_true rfl, Nat.le_of_ble_eq_true rfl⟩)) (pw_V (ci := 2) (q := (RT, TT, 4)) hKN hob rfl ⟨hrs, hlo, hhi, n12, n13, n23, hob, h1, h2, h3⟩) rfl rfl hl.1 rfl (lv_room (Nat.le_of_ble_eq_true rfl)) dT_addRegion_55 (by rw [hR]; exact ⟨Nat.le_of_ble_eq_true rfl, Nat.le_of_ble_eq_true rfl⟩)) hL (fun q h => h) (fun v9 st9 t9 lc23 h0 ha9 hL hq9 => ?_)
    obtain ⟨hv9, ⟨fp3, ff3, pl3, hob, h1, h2, h3, hD3⟩, hz1, hk1⟩ := hq9
    cases hv9
    rw [h0] at hz1 hk1
    generalize t9.heap = H23 at hob h1 h2 h3 hz1 hk1 ⊢
    have hrs := ob_k hrs (hk1 rs (nrs _ (Or.inl rfl)) (nrs _ (Or.inr (Or.inl rfl))) (nrs _ (Or.inr (Or.inr (Or.inl rfl)))) (nrs _ (Or.inr (Or.inr (Or.inr rfl)))))
    have hlo := al_k hlo (hk1 lo (nlo _ (Or.inl rfl)) (nlo _ (Or.inr (Or.inl rfl))) (nlo _ (Or.inr (Or.inr (Or.inl rfl)))) (nlo _ (Or.inr (Or.inr (Or.inr rfl)))))
    have hhi := al_k hhi (hk1 hi (nhi _ (Or.inl rfl)) (nhi _ (Or.inr (Or.inl rfl))) (nhi _ (Or.inr (Or.inr (Or.inl rfl)))) (nhi _ (Or.inr (Or.inr (Or.inr rfl)))))
    have hk : ∀ q, q ≠ tb → q ≠ a1 → q ≠ a2 → q ≠ a3 → H23[q]? = s.heap[q]? := fun q e0 e1 e2 e3 => (hk1 q e0 e1 e2 e3).trans (hk q e0 e1 e2 e3)
    have hz := hz1.trans hz
    rw [Nat.add_assoc] at hD3
    have hD3 : tabI ((((D ++ reg (uni 64 fo) 0 (x)) ++ reg (uni 64 fo) 0 (x + 1)) ++ reg (uni 64 fo) 0 (x + 2)) ++ reg (uni 64 fo) 0 (x + 3)) (x + 4) fp3 ff3 pl3 := hD3
    refine lv_iinc (v := nI (3 + 1)) (lv' := [(5, .int (nI (3 + 1))), (4, .int (nI 4)), (0, .ref tb), (1, .ref rs), (2, .int (nI x)), (3, .int (nI 2))]) hx hb dT_addRegion_58 hl (k := 0) rfl (nI_1 3) (by decide) rfl (fun ls hl => ?_)
    refine lv_goto (tgt := 35) hx hb dT_addRegion_61 (by decide) ?_
    have hl : lv_has ls 6 [(5, .int (nI 4)), (4, .int (nI 4)), (0, .ref tb), (1, .ref rs), (2, .int (nI x)), (3, .int (nI 2))] := hl
    refine lv_iload hx hb dT_addRegion_35 (lv_at hl 0 rfl) ?_
    refine lv_iconst (v := nI 4) hx hb dT_addRegion_37 (by decide) ?_
    refine lv_icmp_ge (tgt := 64) hx hb dT_addRegion_38 (by decide) (fun _ => ?_) (fun c9 => absurd (Int32.le_refl _) c9)
    have hall : (((D ++ reg (uni 64 fo) 0 (x)) ++ reg (uni 64 fo) 0 (x + 1)) ++ reg (uni 64 fo) 0 (x + 2)) ++ reg (uni 64 fo) 0 (x + 3) = D ++ reg (uni 64 fo) 1 x := by rw [hreg]; simp only [List.append_assoc]
    rw [hall] at hob hD3
    rw [hQ]
    exact W.vret hx hb hrt (fun t ht hW => ⟨rfl, ⟨fp3, ff3, pl3, by rw [ht]; exact ⟨hob, h1, h2, h3, hD3⟩⟩, by rw [ht]; exact hz, by rw [ht]; exact hk⟩) hL dT_addRegion_64
  · have hq := bI_ne.mp c1
    refine lv_aload_n hx hb dT_addRegion_23 rfl (lv_at hl 1 rfl) ?_
    refine lv_iload_n hx hb dT_addRegion_24 rfl (lv_at hl 3 rfl) ?_
    refine lv_iload_n hx hb dT_addRegion_25 rfl (lv_at hl 4 rfl) ?_
    refine lv_iload hx hb dT_addRegion_26 (lv_at hl 0 rfl) ?_
    refine pw_call (F := (fun q => q = tb ∨ q = a1 ∨ q = a2 ∨ q = a3)) (va_runV (As := [.int (nI x), .int (nI 2), .int (nI 4)]) (rest := []) ⟨hx, hb, hml, hown, htA⟩ (c_addRule l G cA tb a1 a2 a3 D.length fp ff pl x 2 4 (by omega) hx0) (cwV 3 htA (gd_V wd390 wd392 wd13 wd37 wd393) rfl rfl rfl (by decide +kernel) (by rw [hR]; exact ⟨Nat.le_of_ble_eq_true rfl, Nat.le_of_ble_eq_true rfl⟩)) (pw_V (ci := 2) (q := (RT, TT, 4)) hKN hob rfl ⟨n12, n13, n23, hob, h1, h2, h3⟩) rfl rfl hl.1 rfl (lv_room (Nat.le_of_ble_eq_true rfl)) dT_addRegion_28 (by rw [hR]; exact ⟨Nat.le_of_ble_eq_true rfl, Nat.le_of_ble_eq_true rfl⟩)) hL (fun q h => h) (fun v9 st9 t9 lc9 h0 ha9 hL hq9 => ?_)
    obtain ⟨hv9, hob, h1, h2, ⟨pl9, h3, hpl⟩, hz1, hk1⟩ := hq9
    cases hv9
    rw [h0] at hz1 hk1
    generalize t9.heap = H6 at hob h1 h2 h3 hz1 hk1 ⊢
    have hD2 := tabI_s (d := 1) hD (show 4 ^ 1 = 4 by decide) hpl hx0
    have hlen : D.length + 1 = (D ++ [(x, 1)]).length := by rw [List.length_append]; rfl
    rw [hlen] at hob
    have hreg : reg (uni 64 fo) 1 x = [(x, 1)] := (by rw [reg_s, if_pos (show uni 64 fo x (4 ^ 1) = true from hq)])
    rw [hQ]
    exact W.vret hx hb hrt (fun t ht hW => ⟨rfl, ⟨_, _, pl9, by rw [hreg, ht]; exact ⟨hob, h1, h2, h3, hD2⟩⟩, by rw [ht]; exact hz1.trans hz, by rw [ht]; exact fun q e0 e1 e2 e3 => (hk1 q e0 e1 e2 e3).trans (hk q e0 e1 e2 e3)⟩) hL dT_addRegion_31

set_option maxRecDepth 100000 in
set_option maxHeartbeats 4000000 in
theorem c_addRegion2 (l : Launch) (G : va_G) (cA : Nat → ClassId) (tb rs lo hi a1 a2 a3 : Nat) (f g fo : Nat → Int64) (hf : ∀ k, k < 64 → f k = rl 64 k (fo k) 64) (hg : ∀ k, k < 64 → g k = rh 64 k (fo k) 64) (D : List (Nat × Nat)) (fp ff pl : Nat → Int32) (x : Nat) (hx0 : x + 16 ≤ 64) (hD : tabI D x fp ff pl) : Met l yT_addRegion wsT_addRegion ({ frames := 3, cells := 0, slots := 0, locals := 74 }) (PH G cA [.ref tb, .ref rs, .int (nI x), .int (nI 1)] (fun H => (ob G 1 rs [.ref lo, .ref hi] H ∧ al (cA 0) lo 64 f H ∧ al (cA 0) hi 64 g H ∧ a1 ≠ a2 ∧ a1 ≠ a3 ∧ a2 ≠ a3 ∧ ob G 2 tb [.ref a1, .ref a2, .ref a3, .int (nI D.length)] H ∧ ai (cA 1) a1 64 fp H ∧ ai (cA 1) a2 64 ff H ∧ ai (cA 1) a3 64 pl H))) (fun _ st o0 t => o0 = .returned none ∧ (∃ fp2 ff2 pl2, ob G 2 tb [.ref a1, .ref a2, .ref a3, .int (nI (D ++ reg (uni 64 fo) 2 x).length)] t.heap ∧ ai (cA 1) a1 64 fp2 t.heap ∧ ai (cA 1) a2 64 ff2 t.heap ∧ ai (cA 1) a3 64 pl2 t.heap ∧ tabI (D ++ reg (uni 64 fo) 2 x) (x + 16) fp2 ff2 pl2) ∧ t.heap.size = st.heap.size ∧ ∀ q, q ≠ tb → q ≠ a1 → q ≠ a2 → q ≠ a3 → t.heap[q]? = st.heap[q]?) 0 0 (fun q => q = tb ∨ q = a1 ∨ q = a2 ∨ q = a3) := by
  refine Met.ofW (cc := cT_addRegion) (maxL := 6) (ret := none) (by decide) rfl ?_
  intro p e s m args below meth c s₁ B hml hv
  obtain ⟨hav, hKN, hrs, hlo, hhi, n12, n13, n23, hob, h1, h2, h3⟩ := hv
  have hK := hKN.1
  have hx := B.exec
  have hb := B.bytes
  have hrt := B.returns
  have htA : ∀ w ∈ ALL, w.before args s = true := fun w h => atoms_spec (ws := wsT_addRegion) B.pre w (List.mem_cons_of_mem _ h)
  have hown : s.vm.findClass RT = some m.cls := findClass_of_methodNamed B.named
  have hlocks := B.notSynchronized
  refine pw_nm (fun R Q hR hQ => ?_)
  refine pw_entry (vs := [.ref tb, .ref rs, .int (nI x), .int (nI 1)]) hav (Nat.le_of_ble_eq_true rfl) (fun ls hl => ?_)
  have hl : lv_has ls 6 [(0, .ref tb), (1, .ref rs), (2, .int (nI x)), (3, .int (nI 1))] := hl
  have hdd := hKN.dis
  have krs := kd_o (cA := cA) (by decide) hrs
  have klo := kd_l (G := G) hlo
  have khi := kd_l (G := G) hhi
  have ktb := kd_o (cA := cA) (by decide) hob
  have k1 := kd_i (G := G) h1
  have k2 := kd_i (G := G) h2
  have k3 := kd_i (G := G) h3
  have nrs : ∀ q, q = tb ∨ q = a1 ∨ q = a2 ∨ q = a3 → rs ≠ q := fun q hq => by rcases hq with rfl | rfl | rfl | rfl; (exact kd_ne hdd krs ktb (by decide)); (exact kd_ne hdd krs k1 (by decide)); (exact kd_ne hdd krs k2 (by decide)); (exact kd_ne hdd krs k3 (by decide))
  have nlo : ∀ q, q = tb ∨ q = a1 ∨ q = a2 ∨ q = a3 → lo ≠ q := fun q hq => by rcases hq with rfl | rfl | rfl | rfl; (exact kd_ne hdd klo ktb (by decide)); (exact kd_ne hdd klo k1 (by decide)); (exact kd_ne hdd klo k2 (by decide)); (exact kd_ne hdd klo k3 (by decide))
  have nhi : ∀ q, q = tb ∨ q = a1 ∨ q = a2 ∨ q = a3 → hi ≠ q := fun q hq => by rcases hq with rfl | rfl | rfl | rfl; (exact kd_ne hdd khi ktb (by decide)); (exact kd_ne hdd khi k1 (by decide)); (exact kd_ne hdd khi k2 (by decide)); (exact kd_ne hdd khi k3 (by decide))
  have hDl := hD.1
  have hz : s.heap.size = s.heap.size := rfl
  have hk : ∀ q, q ≠ tb → q ≠ a1 → q ≠ a2 → q ≠ a3 → s.heap[q]? = s.heap[q]? := fun _ _ _ _ _ => rfl
  have hL : ∀ z ∈ ([] : List Loc), (fun q => q = tb ∨ q = a1 ∨ q = a2 ∨ q = a3) z.base := fun _ h => by cases h
  refine lv_bipush (v := nI 64) hx hb dT_addRegion_0 (by decide) ?_
  refine lv_iconst (v := nI 2) hx hb dT_addRegion_2 (by decide) ?_
  refine lv_iload_n hx hb dT_addRegion_3 rfl (lv_at hl 3 rfl) ?_
  refine lv_imul hx hb dT_addRegion_4 ?_
  refine lv_ishr hx hb dT_addRegion_5 ?_
  refine pw_ti (y := nI 16) (by decide +kernel) ?_
  refine lv_istore (lv' := [(4, .int (nI 16)), (0, .ref tb), (1, .ref rs), (2, .int (nI x)), (3, .int (nI 1))]) hx hb dT_addRegion_6 hl (by decide) rfl (fun ls hl => ?_)
  refine lv_iload_n hx hb dT_addRegion_8 rfl (lv_at hl 4 rfl) ?_
  refine lv_iconst (v := nI 3) hx hb dT_addRegion_9 (by decide) ?_
  refine lv_icmp_ge (tgt := 23) hx hb dT_addRegion_10 (by decide) (fun c9 => absurd c9 (by decide)) (fun _ => ?_)
  refine lv_aload_n hx hb dT_addRegion_13 rfl (lv_at hl 2 rfl) ?_
  refine lv_iload_n hx hb dT_addRegion_14 rfl (lv_at hl 3 rfl) ?_
  refine lv_iload hx hb dT_addRegion_15 (lv_at hl 0 rfl) ?_
  refine vp_callSi (va_Run.run (va_runV (As := [.int (nI x), .int (nI 16)]) (rest := []) ⟨hx, hb, hml, hown, htA⟩ (c_areAlike l G cA rs lo hi f g fo hf hg x 16 (by decide) hx0) (cwV 2 htA (gd_V wd386 wd387 wd388 wd27 wd389) rfl rfl rfl (by decide +kernel) (by rw [hR]; exact ⟨Nat.le_of_ble_eq_true rfl, Nat.le_of_ble_eq_true rfl⟩)) (pw_V (ci := 1) (q := (RQ, TQ, 2)) hKN hrs rfl ⟨hrs, hlo, hhi⟩) rfl rfl hl.1 rfl (lv_room (Nat.le_of_ble_eq_true rfl)) dT_addRegion_17 (by rw [hR]; exact ⟨Nat.le_of_ble_eq_true rfl, Nat.le_of_ble_eq_true rfl⟩))) (fun r1 hr1 => ?_)
  subst hr1
  refine lv_if_eq (tgt := 32) hx hb dT_addRegion_20 (by decide) (fun c1 => ?_) (fun c1 => ?_)
  · have hq := bI_eq.mp c1
    refine lv_iconst (v := nI 0) hx hb dT_addRegion_32 (by decide) ?_
    refine lv_istore (lv' := [(5, .int (nI 0)), (4, .int (nI 16)), (0, .ref tb), (1, .ref rs), (2, .int (nI x)), (3, .int (nI 1))]) hx hb dT_addRegion_33 hl (by decide) rfl (fun ls hl => ?_)
    have hreg : reg (uni 64 fo) 2 x = reg (uni 64 fo) 1 x ++ (reg (uni 64 fo) 1 (x + 4) ++ (reg (uni 64 fo) 1 (x + 8) ++ reg (uni 64 fo) 1 (x + 12))) := by rw [reg_s, if_neg (by show ¬ uni 64 fo x 16 = true; rw [hq]; decide)]
    refine lv_iload hx hb dT_addRegion_35 (lv_at hl 0 rfl) ?_
    refine lv_iconst (v := nI 4) hx hb dT_addRegion_37 (by decide) ?_
    refine lv_icmp_ge (tgt := 64) hx hb dT_addRegion_38 (by decide) (fun c9 => absurd c9 (by decide)) (fun _ => ?_)
    refine lv_aload_n hx hb dT_addRegion_41 rfl (lv_at hl 2 rfl) ?_
    refine lv_aload_n hx hb dT_addRegion_42 rfl (lv_at hl 3 rfl) ?_
    refine lv_iload_n hx hb dT_addRegion_43 rfl (lv_at hl 4 rfl) ?_
    refine lv_iload hx hb dT_addRegion_44 (lv_at hl 0 rfl) ?_
    refine lv_iload_n hx hb dT_addRegion_46 rfl (lv_at hl 5 rfl) ?_
    refine vp_callSi (va_Run.run (va_runSN (As := [.int (nI 1)]) (rest := [.int (nI 0), .int (nI x), .ref rs, .ref tb]) ⟨hx, hb, hml, hown, htA⟩ (c_weightOf l G cA 1 (by decide)) ⟨va_cnB 1 htA (gd_m wd225) rfl rfl rfl (KN.n hKN (w := .methodLinkNest RT 39 yV_weightOf RV) (by decide +kernel)) (htA _ wd26) (by decide +kernel) (by rw [hR]; exact ⟨Nat.le_of_ble_eq_true rfl, Nat.le_of_ble_eq_true rfl⟩), htA _ wd224, trivial⟩ (pw_S hKN trivial) rfl rfl hl.1 rfl (lv_room (Nat.le_of_ble_eq_true rfl)) dT_addRegion_47 (by rw [hR]; exact ⟨Nat.le_of_ble_eq_true rfl, Nat.le_of_ble_eq_true rfl⟩))) (fun r2 hr2 => ?_)
    subst hr2
    refine pw_ti (y := nI 4) (by decide +kernel) ?_
    refine lv_imul hx hb dT_addRegion_50 ?_
    refine pw_ti (y := nI 0) (by decide +kernel) ?_
    refine lv_iadd hx hb dT_addRegion_51 ?_
    refine pw_ti (y := nI (x + 0)) (nI_add _ _) ?_
    refine lv_iload_n hx hb dT_addRegion_52 rfl (lv_at hl 5 rfl) ?_
    refine lv_iconst (v := nI 1) hx hb dT_addRegion_53 (by decide) ?_
    refine lv_iadd hx hb dT_addRegion_54 ?_
    refine pw_ti (y := nI 2) (by decide +kernel) ?_
    refine W.eq (g2 := F0 m 55 ls [.int (nI 2), .int (nI x), .ref rs, .ref tb]) rfl ?_
    refine pw_call (F := (fun q => q = tb ∨ q = a1 ∨ q = a2 ∨ q = a3)) (va_runV (As := [.ref rs, .int (nI x), .int (nI 2)]) (rest := []) ⟨hx, hb, hml, hown, htA⟩ (c_addRegion1 l G cA tb rs lo hi a1 a2 a3 f g fo hf hg (D) fp ff pl (x) (by omega) hD) (cwV 3 htA (gd_V wd382 wd384 wd12 wd37 wd385) rfl rfl rfl (by decide +kernel) (by rw [hR]; exact ⟨Nat.le_of_ble_eq_true rfl, Nat.le_of_ble_eq_true rfl⟩)) (pw_V (ci := 2) (q := (RT, TT, 4)) hKN hob rfl ⟨hrs, hlo, hhi, n12, n13, n23, hob, h1, h2, h3⟩) rfl rfl hl.1 rfl (lv_room (Nat.le_of_ble_eq_true rfl)) dT_addRegion_55 (by rw [hR]; exact ⟨Nat.le_of_ble_eq_true rfl, Nat.le_of_ble_eq_true rfl⟩)) hL (fun q h => h) (fun v9 st9 t9 lc20 h0 ha9 hL hq9 => ?_)
    obtain ⟨hv9, ⟨fp0, ff0, pl0, hob, h1, h2, h3, hD0⟩, hz1, hk1⟩ := hq9
    cases hv9
    rw [h0] at hz1 hk1
    generalize t9.heap = H20 at hob h1 h2 h3 hz1 hk1 ⊢
    have hrs := ob_k hrs (hk1 rs (nrs _ (Or.inl rfl)) (nrs _ (Or.inr (Or.inl rfl))) (nrs _ (Or.inr (Or.inr (Or.inl rfl)))) (nrs _ (Or.inr (Or.inr (Or.inr rfl)))))
    have hlo := al_k hlo (hk1 lo (nlo _ (Or.inl rfl)) (nlo _ (Or.inr (Or.inl rfl))) (nlo _ (Or.inr (Or.inr (Or.inl rfl)))) (nlo _ (Or.inr (Or.inr (Or.inr rfl)))))
    have hhi := al_k hhi (hk1 hi (nhi _ (Or.inl rfl)) (nhi _ (Or.inr (Or.inl rfl))) (nhi _ (Or.inr (Or.inr (Or.inl rfl)))) (nhi _ (Or.inr (Or.inr (Or.inr rfl)))))
    have hk : ∀ q, q ≠ tb → q ≠ a1 → q ≠ a2 → q ≠ a3 → H20[q]? = s.heap[q]? := fun q e0 e1 e2 e3 => (hk1 q e0 e1 e2 e3).trans (hk q e0 e1 e2 e3)
    have hz := hz1.trans hz
    have hD0 : tabI (D ++ reg (uni 64 fo) 1 (x)) (x + 4) fp0 ff0 pl0 := hD0
    refine lv_iinc (v := nI (0 + 1)) (lv' := [(5, .int (nI (0 + 1))), (4, .int (nI 16)), (0, .ref tb), (1, .ref rs), (2, .int (nI x)), (3, .int (nI 1))]) hx hb dT_addRegion_58 hl (k := 0) rfl (nI_1 0) (by decide) rfl (fun ls hl => ?_)
    refine lv_goto (tgt := 35) hx hb dT_addRegion_61 (by decide) ?_
    have hl : lv_has ls 6 [(5, .int (nI 1)), (4, .int (nI 16)), (0, .ref tb), (1, .ref rs), (2, .int (nI x)), (3, .int (nI 1))] := hl
    refine lv_iload hx hb dT_addRegion_35 (lv_at hl 0 rfl) ?_
    refine lv_iconst (v := nI 4) hx hb dT_addRegion_37 (by decide) ?_
    refine lv_icmp_ge (tgt := 64) hx hb dT_addRegion_38 (by decide) (fun c9 => absurd c9 (by decide)) (fun _ => ?_)
    refine lv_aload_n hx hb dT_addRegion_41 rfl (lv_at hl 2 rfl) ?_
    refine lv_aload_n hx hb dT_addRegion_42 rfl (lv_at hl 3 rfl) ?_
    refine lv_iload_n hx hb dT_addRegion_43 rfl (lv_at hl 4 rfl) ?_
    refine lv_iload hx hb dT_addRegion_44 (lv_at hl 0 rfl) ?_
    refine lv_iload_n hx hb dT_addRegion_46 rfl (lv_at hl 5 rfl) ?_
    refine vp_callSi (va_Run.run (va_runSN (As := [.int (nI 1)]) (rest := [.int (nI 1), .int (nI x), .ref rs, .ref tb]) ⟨hx, hb, hml, hown, htA⟩ (c_weightOf l G cA 1 (by decide)) ⟨va_cnB 1 htA (gd_m wd225) rfl rfl rfl (KN.n hKN (w := .methodLinkNest RT 39 yV_weightOf RV) (by decide +kernel)) (htA _ wd26) (by decide +kernel) (by rw [hR]; exact ⟨Nat.le_of_ble_eq_true rfl, Nat.le_of_ble_eq_true rfl⟩), htA _ wd224, trivial⟩ (pw_S hKN trivial) rfl rfl hl.1 rfl (lv_room (Nat.le_of_ble_eq_true rfl)) dT_addRegion_47 (by rw [hR]; exact ⟨Nat.le_of_ble_eq_true rfl, Nat.le_of_ble_eq_true rfl⟩))) (fun r3 hr3 => ?_)
    subst hr3
    refine pw_ti (y := nI 4) (by decide +kernel) ?_
    refine lv_imul hx hb dT_addRegion_50 ?_
    refine pw_ti (y := nI 4) (by decide +kernel) ?_
    refine lv_iadd hx hb dT_addRegion_51 ?_
    refine pw_ti (y := nI (x + 4)) (nI_add _ _) ?_
    refine lv_iload_n hx hb dT_addRegion_52 rfl (lv_at hl 5 rfl) ?_
    refine lv_iconst (v := nI 1) hx hb dT_addRegion_53 (by decide) ?_
    refine lv_iadd hx hb dT_addRegion_54 ?_
    refine pw_ti (y := nI 2) (by decide +kernel) ?_
    refine pw_call (F := (fun q => q = tb ∨ q = a1 ∨ q = a2 ∨ q = a3)) (va_runV (As := [.ref rs, .int (nI (x + 4)), .int (nI 2)]) (rest := []) ⟨hx, hb, hml, hown, htA⟩ (c_addRegion1 l G cA tb rs lo hi a1 a2 a3 f g fo hf hg (D ++ reg (uni 64 fo) 1 (x)) fp0 ff0 pl0 (x + 4) (by omega) hD0) (cwV 3 htA (gd_V wd382 wd384 wd12 wd37 wd385) rfl rfl rfl (by decide +kernel) (by rw [hR]; exact ⟨Nat.le_of_ble_eq_true rfl, Nat.le_of_ble_eq_true rfl⟩)) (pw_V (ci := 2) (q := (RT, TT, 4)) hKN hob rfl ⟨hrs, hlo, hhi, n12, n13, n23, hob, h1, h2, h3⟩) rfl rfl hl.1 rfl (lv_room (Nat.le_of_ble_eq_true rfl)) dT_addRegion_55 (by rw [hR]; exact ⟨Nat.le_of_ble_eq_true rfl, Nat.le_of_ble_eq_true rfl⟩)) hL (fun q h => h) (fun v9 st9 t9 lc21 h0 ha9 hL hq9 => ?_)
    obtain ⟨hv9, ⟨fp1, ff1, pl1, hob, h1, h2, h3, hD1⟩, hz1, hk1⟩ := hq9
    cases hv9
    rw [h0] at hz1 hk1
    generalize t9.heap = H21 at hob h1 h2 h3 hz1 hk1 ⊢
    have hrs := ob_k hrs (hk1 rs (nrs _ (Or.inl rfl)) (nrs _ (Or.inr (Or.inl rfl))) (nrs _ (Or.inr (Or.inr (Or.inl rfl)))) (nrs _ (Or.inr (Or.inr (Or.inr rfl)))))
    have hlo := al_k hlo (hk1 lo (nlo _ (Or.inl rfl)) (nlo _ (Or.inr (Or.inl rfl))) (nlo _ (Or.inr (Or.inr (Or.inl rfl)))) (nlo _ (Or.inr (Or.inr (Or.inr rfl)))))
    have hhi := al_k hhi (hk1 hi (nhi _ (Or.inl rfl)) (nhi _ (Or.inr (Or.inl rfl))) (nhi _ (Or.inr (Or.inr (Or.inl rfl)))) (nhi _ (Or.inr (Or.inr (Or.inr rfl)))))
    have hk : ∀ q, q ≠ tb → q ≠ a1 → q ≠ a2 → q ≠ a3 → H21[q]? = s.heap[q]? := fun q e0 e1 e2 e3 => (hk1 q e0 e1 e2 e3).trans (hk q e0 e1 e2 e3)
    have hz := hz1.trans hz
    rw [Nat.add_assoc] at hD1
    have hD1 : tabI ((D ++ reg (uni 64 fo) 1 (x)) ++ reg (uni 64 fo) 1 (x + 4)) (x + 8) fp1 ff1 pl1 := hD1
    refine lv_iinc (v := nI (1 + 1)) (lv' := [(5, .int (nI (1 + 1))), (4, .int (nI 16)), (0, .ref tb), (1, .ref rs), (2, .int (nI x)), (3, .int (nI 1))]) hx hb dT_addRegion_58 hl (k := 0) rfl (nI_1 1) (by decide) rfl (fun ls hl => ?_)
    refine lv_goto (tgt := 35) hx hb dT_addRegion_61 (by decide) ?_
    have hl : lv_has ls 6 [(5, .int (nI 2)), (4, .int (nI 16)), (0, .ref tb), (1, .ref rs), (2, .int (nI x)), (3, .int (nI 1))] := hl
    refine lv_iload hx hb dT_addRegion_35 (lv_at hl 0 rfl) ?_
    refine lv_iconst (v := nI 4) hx hb dT_addRegion_37 (by decide) ?_
    refine lv_icmp_ge (tgt := 64) hx hb dT_addRegion_38 (by decide) (fun c9 => absurd c9 (by decide)) (fun _ => ?_)
    refine lv_aload_n hx hb dT_addRegion_41 rfl (lv_at hl 2 rfl) ?_
    refine lv_aload_n hx hb dT_addRegion_42 rfl (lv_at hl 3 rfl) ?_
    refine lv_iload_n hx hb dT_addRegion_43 rfl (lv_at hl 4 rfl) ?_
    refine lv_iload hx hb dT_addRegion_44 (lv_at hl 0 rfl) ?_
    refine lv_iload_n hx hb dT_addRegion_46 rfl (lv_at hl 5 rfl) ?_
    refine vp_callSi (va_Run.run (va_runSN (As := [.int (nI 1)]) (rest := [.int (nI 2), .int (nI x), .ref rs, .ref tb]) ⟨hx, hb, hml, hown, htA⟩ (c_weightOf l G cA 1 (by decide)) ⟨va_cnB 1 htA (gd_m wd225) rfl rfl rfl (KN.n hKN (w := .methodLinkNest RT 39 yV_weightOf RV) (by decide +kernel)) (htA _ wd26) (by decide +kernel) (by rw [hR]; exact ⟨Nat.le_of_ble_eq_true rfl, Nat.le_of_ble_eq_true rfl⟩), htA _ wd224, trivial⟩ (pw_S hKN trivial) rfl rfl hl.1 rfl (lv_room (Nat.le_of_ble_eq_true rfl)) dT_addRegion_47 (by rw [hR]; exact ⟨Nat.le_of_ble_eq_true rfl, Nat.le_of_ble_eq_true rfl⟩))) (fun r4 hr4 => ?_)
    subst hr4
    refine pw_ti (y := nI 4) (by decide +kernel) ?_
    refine lv_imul hx hb dT_addRegion_50 ?_
    refine pw_ti (y := nI 8) (by decide +kernel) ?_
    refine lv_iadd hx hb dT_addRegion_51 ?_
    refine pw_ti (y := nI (x + 8)) (nI_add _ _) ?_
    refine lv_iload_n hx hb dT_addRegion_52 rfl (lv_at hl 5 rfl) ?_
    refine lv_iconst (v := nI 1) hx hb dT_addRegion_53 (by decide) ?_
    refine lv_iadd hx hb dT_addRegion_54 ?_
    refine pw_ti (y := nI 2) (by decide +kernel) ?_
    refine pw_call (F := (fun q => q = tb ∨ q = a1 ∨ q = a2 ∨ q = a3)) (va_runV (As := [.ref rs, .int (nI (x + 8)), .int (nI 2)]) (rest := []) ⟨hx, hb, hml, hown, htA⟩ (c_addRegion1 l G cA tb rs lo hi a1 a2 a3 f g fo hf hg ((D ++ reg (uni 64 fo) 1 (x)) ++ reg (uni 64 fo) 1 (x + 4)) fp1 ff1 pl1 (x + 8) (by omega) hD1) (cwV 3 htA (gd_V wd382 wd384 wd12 wd37 wd385) rfl rfl rfl (by decide +kernel) (by rw [hR]; exact ⟨Nat.le_of_ble_eq_true rfl, Nat.le_of_ble_eq_true rfl⟩)) (pw_V (ci := 2) (q := (RT, TT, 4)) hKN hob rfl ⟨hrs, hlo, hhi, n12, n13, n23, hob, h1, h2, h3⟩) rfl rfl hl.1 rfl (lv_room (Nat.le_of_ble_eq_true rfl)) dT_addRegion_55 (by rw [hR]; exact ⟨Nat.le_of_ble_eq_true rfl, Nat.le_of_ble_eq_true rfl⟩)) hL (fun q h => h) (fun v9 st9 t9 lc22 h0 ha9 hL hq9 => ?_)
    obtain ⟨hv9, ⟨fp2, ff2, pl2, hob, h1, h2, h3, hD2⟩, hz1, hk1⟩ := hq9
    cases hv9
    rw [h0] at hz1 hk1
    generalize t9.heap = H22 at hob h1 h2 h3 hz1 hk1 ⊢
    have hrs := ob_k hrs (hk1 rs (nrs _ (Or.inl rfl)) (nrs _ (Or.inr (Or.inl rfl))) (nrs _ (Or.inr (Or.inr (Or.inl rfl)))) (nrs _ (Or.inr (Or.inr (Or.inr rfl)))))
    have hlo := al_k hlo (hk1 lo (nlo _ (Or.inl rfl)) (nlo _ (Or.inr (Or.inl rfl))) (nlo _ (Or.inr (Or.inr (Or.inl rfl)))) (nlo _ (Or.inr (Or.inr (Or.inr rfl)))))
    have hhi := al_k hhi (hk1 hi (nhi _ (Or.inl rfl)) (nhi _ (Or.inr (Or.inl rfl))) (nhi _ (Or.inr (Or.inr (Or.inl rfl)))) (nhi _ (Or.inr (Or.inr (Or.inr rfl)))))
    have hk : ∀ q, q ≠ tb → q ≠ a1 → q ≠ a2 → q ≠ a3 → H22[q]? = s.heap[q]? := fun q e0 e1 e2 e3 => (hk1 q e0 e1 e2 e3).trans (hk q e0 e1 e2 e3)
    have hz := hz1.trans hz
    rw [Nat.add_assoc] at hD2
    have hD2 : tabI (((D ++ reg (uni 64 fo) 1 (x)) ++ reg (uni 64 fo) 1 (x + 4)) ++ reg (uni 64 fo) 1 (x + 8)) (x + 12) fp2 ff2 pl2 := hD2
    refine lv_iinc (v := nI (2 + 1)) (lv' := [(5, .int (nI (2 + 1))), (4, .int (nI 16)), (0, .ref tb), (1, .ref rs), (2, .int (nI x)), (3, .int (nI 1))]) hx hb dT_addRegion_58 hl (k := 0) rfl (nI_1 2) (by decide) rfl (fun ls hl => ?_)
    refine lv_goto (tgt := 35) hx hb dT_addRegion_61 (by decide) ?_
    have hl : lv_has ls 6 [(5, .int (nI 3)), (4, .int (nI 16)), (0, .ref tb), (1, .ref rs), (2, .int (nI x)), (3, .int (nI 1))] := hl
    refine lv_iload hx hb dT_addRegion_35 (lv_at hl 0 rfl) ?_
    refine lv_iconst (v := nI 4) hx hb dT_addRegion_37 (by decide) ?_
    refine lv_icmp_ge (tgt := 64) hx hb dT_addRegion_38 (by decide) (fun c9 => absurd c9 (by decide)) (fun _ => ?_)
    refine lv_aload_n hx hb dT_addRegion_41 rfl (lv_at hl 2 rfl) ?_
    refine lv_aload_n hx hb dT_addRegion_42 rfl (lv_at hl 3 rfl) ?_
    refine lv_iload_n hx hb dT_addRegion_43 rfl (lv_at hl 4 rfl) ?_
    refine lv_iload hx hb dT_addRegion_44 (lv_at hl 0 rfl) ?_
    refine lv_iload_n hx hb dT_addRegion_46 rfl (lv_at hl 5 rfl) ?_
    refine vp_callSi (va_Run.run (va_runSN (As := [.int (nI 1)]) (rest := [.int (nI 3), .int (nI x), .ref rs, .ref tb]) ⟨hx, hb, hml, hown, htA⟩ (c_weightOf l G cA 1 (by decide)) ⟨va_cnB 1 htA (gd_m wd225) rfl rfl rfl (KN.n hKN (w := .methodLinkNest RT 39 yV_weightOf RV) (by decide +kernel)) (htA _ wd26) (by decide +kernel) (by rw [hR]; exact ⟨Nat.le_of_ble_eq_true rfl, Nat.le_of_ble_eq_true rfl⟩), htA _ wd224, trivial⟩ (pw_S hKN trivial) rfl rfl hl.1 rfl (lv_room (Nat.le_of_ble_eq_true rfl)) dT_addRegion_47 (by rw [hR]; exact ⟨Nat.le_of_ble_eq_true rfl, Nat.le_of_ble_eq_true rfl⟩))) (fun r5 hr5 => ?_)
    subst hr5
    refine pw_ti (y := nI 4) (by decide +kernel) ?_
    refine lv_imul hx hb dT_addRegion_50 ?_
    refine pw_ti (y := nI 12) (by decide +kernel) ?_
    refine lv_iadd hx hb dT_addRegion_51 ?_
    refine pw_ti (y := nI (x + 12)) (nI_add _ _) ?_
    refine lv_iload_n hx hb dT_addRegion_52 rfl (lv_at hl 5 rfl) ?_
    refine lv_iconst (v := nI 1) hx hb dT_addRegion_53 (by decide) ?_
    refine lv_iadd hx hb dT_addRegion_54 ?_
    refine pw_ti (y := nI 2) (by decide +kernel) ?_
    refine pw_call (F := (fun q => q = tb ∨ q = a1 ∨ q = a2 ∨ q = a3)) (va_runV (As := [.ref rs, .int (nI (x + 12)), .int (nI 2)]) (rest := []) ⟨hx, hb, hml, hown, htA⟩ (c_addRegion1 l G cA tb rs lo hi a1 a2 a3 f g fo hf hg (((D ++ reg (uni 64 fo) 1 (x)) ++ reg (uni 64 fo) 1 (x + 4)) ++ reg (uni 64 fo) 1 (x + 8)) fp2 ff2 pl2 (x + 12) (by omega) hD2) (cwV 3 htA (gd_V wd382 wd384 wd12 wd37 wd385) rfl rfl rfl (by decide +kernel) (by rw [hR]; exact ⟨Nat.le_of_ble_eq_true rfl, Nat.le_of_ble_eq_true rfl⟩)) (pw_V (ci := 2) (q := (RT, TT, 4)) hKN hob rfl ⟨hrs, hlo, hhi, n12, n13, n23, hob, h1, h2, h3⟩) rfl rfl hl.1 rfl (lv_room (Nat.le_of_ble_eq_true rfl)) dT_addRegion_55 (by rw [hR]; exact ⟨Nat.le_of_ble_eq_true rfl, Nat.le_of_ble_eq_true rfl⟩)) hL (fun q h => h) (fun v9 st9 t9 lc23 h0 ha9 hL hq9 => ?_)
    obtain ⟨hv9, ⟨fp3, ff3, pl3, hob, h1, h2, h3, hD3⟩, hz1, hk1⟩ := hq9
    cases hv9
    rw [h0] at hz1 hk1
    generalize t9.heap = H23 at hob h1 h2 h3 hz1 hk1 ⊢
    have hrs := ob_k hrs (hk1 rs (nrs _ (Or.inl rfl)) (nrs _ (Or.inr (Or.inl rfl))) (nrs _ (Or.inr (Or.inr (Or.inl rfl)))) (nrs _ (Or.inr (Or.inr (Or.inr rfl)))))
    have hlo := al_k hlo (hk1 lo (nlo _ (Or.inl rfl)) (nlo _ (Or.inr (Or.inl rfl))) (nlo _ (Or.inr (Or.inr (Or.inl rfl)))) (nlo _ (Or.inr (Or.inr (Or.inr rfl)))))
    have hhi := al_k hhi (hk1 hi (nhi _ (Or.inl rfl)) (nhi _ (Or.inr (Or.inl rfl))) (nhi _ (Or.inr (Or.inr (Or.inl rfl)))) (nhi _ (Or.inr (Or.inr (Or.inr rfl)))))
    have hk : ∀ q, q ≠ tb → q ≠ a1 → q ≠ a2 → q ≠ a3 → H23[q]? = s.heap[q]? := fun q e0 e1 e2 e3 => (hk1 q e0 e1 e2 e3).trans (hk q e0 e1 e2 e3)
    have hz := hz1.trans hz
    rw [Nat.add_assoc] at hD3
    have hD3 : tabI ((((D ++ reg (uni 64 fo) 1 (x)) ++ reg (uni 64 fo) 1 (x + 4)) ++ reg (uni 64 fo) 1 (x + 8)) ++ reg (uni 64 fo) 1 (x + 12)) (x + 16) fp3 ff3 pl3 := hD3
    refine lv_iinc (v := nI (3 + 1)) (lv' := [(5, .int (nI (3 + 1))), (4, .int (nI 16)), (0, .ref tb), (1, .ref rs), (2, .int (nI x)), (3, .int (nI 1))]) hx hb dT_addRegion_58 hl (k := 0) rfl (nI_1 3) (by decide) rfl (fun ls hl => ?_)
    refine lv_goto (tgt := 35) hx hb dT_addRegion_61 (by decide) ?_
    have hl : lv_has ls 6 [(5, .int (nI 4)), (4, .int (nI 16)), (0, .ref tb), (1, .ref rs), (2, .int (nI x)), (3, .int (nI 1))] := hl
    refine lv_iload hx hb dT_addRegion_35 (lv_at hl 0 rfl) ?_
    refine lv_iconst (v := nI 4) hx hb dT_addRegion_37 (by decide) ?_
    refine lv_icmp_ge (tgt := 64) hx hb dT_addRegion_38 (by decide) (fun _ => ?_) (fun c9 => absurd (Int32.le_refl _) c9)
    have hall : (((D ++ reg (uni 64 fo) 1 (x)) ++ reg (uni 64 fo) 1 (x + 4)) ++ reg (uni 64 fo) 1 (x + 8)) ++ reg (uni 64 fo) 1 (x + 12) = D ++ reg (uni 64 fo) 2 x := by rw [hreg]; simp only [List.append_assoc]
    rw [hall] at hob hD3
    rw [hQ]
    exact W.vret hx hb hrt (fun t ht hW => ⟨rfl, ⟨fp3, ff3, pl3, by rw [ht]; exact ⟨hob, h1, h2, h3, hD3⟩⟩, by rw [ht]; exact hz, by rw [ht]; exact hk⟩) hL dT_addRegion_64
  · have hq := bI_ne.mp c1
    refine lv_aload_n hx hb dT_addRegion_23 rfl (lv_at hl 1 rfl) ?_
    refine lv_iload_n hx hb dT_addRegion_24 rfl (lv_at hl 3 rfl) ?_
    refine lv_iload_n hx hb dT_addRegion_25 rfl (lv_at hl 4 rfl) ?_
    refine lv_iload hx hb dT_addRegion_26 (lv_at hl 0 rfl) ?_
    refine pw_call (F := (fun q => q = tb ∨ q = a1 ∨ q = a2 ∨ q = a3)) (va_runV (As := [.int (nI x), .int (nI 1), .int (nI 16)]) (rest := []) ⟨hx, hb, hml, hown, htA⟩ (c_addRule l G cA tb a1 a2 a3 D.length fp ff pl x 1 16 (by omega) hx0) (cwV 3 htA (gd_V wd390 wd392 wd13 wd37 wd393) rfl rfl rfl (by decide +kernel) (by rw [hR]; exact ⟨Nat.le_of_ble_eq_true rfl, Nat.le_of_ble_eq_true rfl⟩)) (pw_V (ci := 2) (q := (RT, TT, 4)) hKN hob rfl ⟨n12, n13, n23, hob, h1, h2, h3⟩) rfl rfl hl.1 rfl (lv_room (Nat.le_of_ble_eq_true rfl)) dT_addRegion_28 (by rw [hR]; exact ⟨Nat.le_of_ble_eq_true rfl, Nat.le_of_ble_eq_true rfl⟩)) hL (fun q h => h) (fun v9 st9 t9 lc9 h0 ha9 hL hq9 => ?_)
    obtain ⟨hv9, hob, h1, h2, ⟨pl9, h3, hpl⟩, hz1, hk1⟩ := hq9
    cases hv9
    rw [h0] at hz1 hk1
    generalize t9.heap = H6 at hob h1 h2 h3 hz1 hk1 ⊢
    have hD2 := tabI_s (d := 2) hD (show 4 ^ 2 = 16 by decide) hpl hx0
    have hlen : D.length + 1 = (D ++ [(x, 2)]).length := by rw [List.length_append]; rfl
    rw [hlen] at hob
    have hreg : reg (uni 64 fo) 2 x = [(x, 2)] := (by rw [reg_s, if_pos (show uni 64 fo x (4 ^ 2) = true from hq)])
    rw [hQ]
    exact W.vret hx hb hrt (fun t ht hW => ⟨rfl, ⟨_, _, pl9, by rw [hreg, ht]; exact ⟨hob, h1, h2, h3, hD2⟩⟩, by rw [ht]; exact hz1.trans hz, by rw [ht]; exact fun q e0 e1 e2 e3 => (hk1 q e0 e1 e2 e3).trans (hk q e0 e1 e2 e3)⟩) hL dT_addRegion_31

set_option maxRecDepth 100000 in
set_option maxHeartbeats 4000000 in
theorem c_addRegion3 (l : Launch) (G : va_G) (cA : Nat → ClassId) (tb rs lo hi a1 a2 a3 : Nat) (f g fo : Nat → Int64) (hf : ∀ k, k < 64 → f k = rl 64 k (fo k) 64) (hg : ∀ k, k < 64 → g k = rh 64 k (fo k) 64) (D : List (Nat × Nat)) (fp ff pl : Nat → Int32) (x : Nat) (hx0 : x + 64 ≤ 64) (hD : tabI D x fp ff pl) : Met l yT_addRegion wsT_addRegion ({ frames := 4, cells := 0, slots := 0, locals := 99 }) (PH G cA [.ref tb, .ref rs, .int (nI x), .int (nI 0)] (fun H => (ob G 1 rs [.ref lo, .ref hi] H ∧ al (cA 0) lo 64 f H ∧ al (cA 0) hi 64 g H ∧ a1 ≠ a2 ∧ a1 ≠ a3 ∧ a2 ≠ a3 ∧ ob G 2 tb [.ref a1, .ref a2, .ref a3, .int (nI D.length)] H ∧ ai (cA 1) a1 64 fp H ∧ ai (cA 1) a2 64 ff H ∧ ai (cA 1) a3 64 pl H))) (fun _ st o0 t => o0 = .returned none ∧ (∃ fp2 ff2 pl2, ob G 2 tb [.ref a1, .ref a2, .ref a3, .int (nI (D ++ reg (uni 64 fo) 3 x).length)] t.heap ∧ ai (cA 1) a1 64 fp2 t.heap ∧ ai (cA 1) a2 64 ff2 t.heap ∧ ai (cA 1) a3 64 pl2 t.heap ∧ tabI (D ++ reg (uni 64 fo) 3 x) (x + 64) fp2 ff2 pl2) ∧ t.heap.size = st.heap.size ∧ ∀ q, q ≠ tb → q ≠ a1 → q ≠ a2 → q ≠ a3 → t.heap[q]? = st.heap[q]?) 0 0 (fun q => q = tb ∨ q = a1 ∨ q = a2 ∨ q = a3) := by
  refine Met.ofW (cc := cT_addRegion) (maxL := 6) (ret := none) (by decide) rfl ?_
  intro p e s m args below meth c s₁ B hml hv
  obtain ⟨hav, hKN, hrs, hlo, hhi, n12, n13, n23, hob, h1, h2, h3⟩ := hv
  have hK := hKN.1
  have hx := B.exec
  have hb := B.bytes
  have hrt := B.returns
  have htA : ∀ w ∈ ALL, w.before args s = true := fun w h => atoms_spec (ws := wsT_addRegion) B.pre w (List.mem_cons_of_mem _ h)
  have hown : s.vm.findClass RT = some m.cls := findClass_of_methodNamed B.named
  have hlocks := B.notSynchronized
  refine pw_nm (fun R Q hR hQ => ?_)
  refine pw_entry (vs := [.ref tb, .ref rs, .int (nI x), .int (nI 0)]) hav (Nat.le_of_ble_eq_true rfl) (fun ls hl => ?_)
  have hl : lv_has ls 6 [(0, .ref tb), (1, .ref rs), (2, .int (nI x)), (3, .int (nI 0))] := hl
  have hdd := hKN.dis
  have krs := kd_o (cA := cA) (by decide) hrs
  have klo := kd_l (G := G) hlo
  have khi := kd_l (G := G) hhi
  have ktb := kd_o (cA := cA) (by decide) hob
  have k1 := kd_i (G := G) h1
  have k2 := kd_i (G := G) h2
  have k3 := kd_i (G := G) h3
  have nrs : ∀ q, q = tb ∨ q = a1 ∨ q = a2 ∨ q = a3 → rs ≠ q := fun q hq => by rcases hq with rfl | rfl | rfl | rfl; (exact kd_ne hdd krs ktb (by decide)); (exact kd_ne hdd krs k1 (by decide)); (exact kd_ne hdd krs k2 (by decide)); (exact kd_ne hdd krs k3 (by decide))
  have nlo : ∀ q, q = tb ∨ q = a1 ∨ q = a2 ∨ q = a3 → lo ≠ q := fun q hq => by rcases hq with rfl | rfl | rfl | rfl; (exact kd_ne hdd klo ktb (by decide)); (exact kd_ne hdd klo k1 (by decide)); (exact kd_ne hdd klo k2 (by decide)); (exact kd_ne hdd klo k3 (by decide))
  have nhi : ∀ q, q = tb ∨ q = a1 ∨ q = a2 ∨ q = a3 → hi ≠ q := fun q hq => by rcases hq with rfl | rfl | rfl | rfl; (exact kd_ne hdd khi ktb (by decide)); (exact kd_ne hdd khi k1 (by decide)); (exact kd_ne hdd khi k2 (by decide)); (exact kd_ne hdd khi k3 (by decide))
  have hDl := hD.1
  have hz : s.heap.size = s.heap.size := rfl
  have hk : ∀ q, q ≠ tb → q ≠ a1 → q ≠ a2 → q ≠ a3 → s.heap[q]? = s.heap[q]? := fun _ _ _ _ _ => rfl
  have hL : ∀ z ∈ ([] : List Loc), (fun q => q = tb ∨ q = a1 ∨ q = a2 ∨ q = a3) z.base := fun _ h => by cases h
  refine lv_bipush (v := nI 64) hx hb dT_addRegion_0 (by decide) ?_
  refine lv_iconst (v := nI 2) hx hb dT_addRegion_2 (by decide) ?_
  refine lv_iload_n hx hb dT_addRegion_3 rfl (lv_at hl 3 rfl) ?_
  refine lv_imul hx hb dT_addRegion_4 ?_
  refine lv_ishr hx hb dT_addRegion_5 ?_
  refine pw_ti (y := nI 64) (by decide +kernel) ?_
  refine lv_istore (lv' := [(4, .int (nI 64)), (0, .ref tb), (1, .ref rs), (2, .int (nI x)), (3, .int (nI 0))]) hx hb dT_addRegion_6 hl (by decide) rfl (fun ls hl => ?_)
  refine lv_iload_n hx hb dT_addRegion_8 rfl (lv_at hl 4 rfl) ?_
  refine lv_iconst (v := nI 3) hx hb dT_addRegion_9 (by decide) ?_
  refine lv_icmp_ge (tgt := 23) hx hb dT_addRegion_10 (by decide) (fun c9 => absurd c9 (by decide)) (fun _ => ?_)
  refine lv_aload_n hx hb dT_addRegion_13 rfl (lv_at hl 2 rfl) ?_
  refine lv_iload_n hx hb dT_addRegion_14 rfl (lv_at hl 3 rfl) ?_
  refine lv_iload hx hb dT_addRegion_15 (lv_at hl 0 rfl) ?_
  refine vp_callSi (va_Run.run (va_runV (As := [.int (nI x), .int (nI 64)]) (rest := []) ⟨hx, hb, hml, hown, htA⟩ (c_areAlike l G cA rs lo hi f g fo hf hg x 64 (by decide) hx0) (cwV 2 htA (gd_V wd386 wd387 wd388 wd27 wd389) rfl rfl rfl (by decide +kernel) (by rw [hR]; exact ⟨Nat.le_of_ble_eq_true rfl, Nat.le_of_ble_eq_true rfl⟩)) (pw_V (ci := 1) (q := (RQ, TQ, 2)) hKN hrs rfl ⟨hrs, hlo, hhi⟩) rfl rfl hl.1 rfl (lv_room (Nat.le_of_ble_eq_true rfl)) dT_addRegion_17 (by rw [hR]; exact ⟨Nat.le_of_ble_eq_true rfl, Nat.le_of_ble_eq_true rfl⟩))) (fun r1 hr1 => ?_)
  subst hr1
  refine lv_if_eq (tgt := 32) hx hb dT_addRegion_20 (by decide) (fun c1 => ?_) (fun c1 => ?_)
  · have hq := bI_eq.mp c1
    refine lv_iconst (v := nI 0) hx hb dT_addRegion_32 (by decide) ?_
    refine lv_istore (lv' := [(5, .int (nI 0)), (4, .int (nI 64)), (0, .ref tb), (1, .ref rs), (2, .int (nI x)), (3, .int (nI 0))]) hx hb dT_addRegion_33 hl (by decide) rfl (fun ls hl => ?_)
    have hreg : reg (uni 64 fo) 3 x = reg (uni 64 fo) 2 x ++ (reg (uni 64 fo) 2 (x + 16) ++ (reg (uni 64 fo) 2 (x + 32) ++ reg (uni 64 fo) 2 (x + 48))) := by rw [reg_s, if_neg (by show ¬ uni 64 fo x 64 = true; rw [hq]; decide)]
    refine lv_iload hx hb dT_addRegion_35 (lv_at hl 0 rfl) ?_
    refine lv_iconst (v := nI 4) hx hb dT_addRegion_37 (by decide) ?_
    refine lv_icmp_ge (tgt := 64) hx hb dT_addRegion_38 (by decide) (fun c9 => absurd c9 (by decide)) (fun _ => ?_)
    refine lv_aload_n hx hb dT_addRegion_41 rfl (lv_at hl 2 rfl) ?_
    refine lv_aload_n hx hb dT_addRegion_42 rfl (lv_at hl 3 rfl) ?_
    refine lv_iload_n hx hb dT_addRegion_43 rfl (lv_at hl 4 rfl) ?_
    refine lv_iload hx hb dT_addRegion_44 (lv_at hl 0 rfl) ?_
    refine lv_iload_n hx hb dT_addRegion_46 rfl (lv_at hl 5 rfl) ?_
    refine vp_callSi (va_Run.run (va_runSN (As := [.int (nI 0)]) (rest := [.int (nI 0), .int (nI x), .ref rs, .ref tb]) ⟨hx, hb, hml, hown, htA⟩ (c_weightOf l G cA 0 (by decide)) ⟨va_cnB 1 htA (gd_m wd225) rfl rfl rfl (KN.n hKN (w := .methodLinkNest RT 39 yV_weightOf RV) (by decide +kernel)) (htA _ wd26) (by decide +kernel) (by rw [hR]; exact ⟨Nat.le_of_ble_eq_true rfl, Nat.le_of_ble_eq_true rfl⟩), htA _ wd224, trivial⟩ (pw_S hKN trivial) rfl rfl hl.1 rfl (lv_room (Nat.le_of_ble_eq_true rfl)) dT_addRegion_47 (by rw [hR]; exact ⟨Nat.le_of_ble_eq_true rfl, Nat.le_of_ble_eq_true rfl⟩))) (fun r2 hr2 => ?_)
    subst hr2
    refine pw_ti (y := nI 16) (by decide +kernel) ?_
    refine lv_imul hx hb dT_addRegion_50 ?_
    refine pw_ti (y := nI 0) (by decide +kernel) ?_
    refine lv_iadd hx hb dT_addRegion_51 ?_
    refine pw_ti (y := nI (x + 0)) (nI_add _ _) ?_
    refine lv_iload_n hx hb dT_addRegion_52 rfl (lv_at hl 5 rfl) ?_
    refine lv_iconst (v := nI 1) hx hb dT_addRegion_53 (by decide) ?_
    refine lv_iadd hx hb dT_addRegion_54 ?_
    refine pw_ti (y := nI 1) (by decide +kernel) ?_
    refine W.eq (g2 := F0 m 55 ls [.int (nI 1), .int (nI x), .ref rs, .ref tb]) rfl ?_
    refine pw_call (F := (fun q => q = tb ∨ q = a1 ∨ q = a2 ∨ q = a3)) (va_runV (As := [.ref rs, .int (nI x), .int (nI 1)]) (rest := []) ⟨hx, hb, hml, hown, htA⟩ (c_addRegion2 l G cA tb rs lo hi a1 a2 a3 f g fo hf hg (D) fp ff pl (x) (by omega) hD) (cwV 3 htA (gd_V wd382 wd384 wd12 wd37 wd385) rfl rfl rfl (by decide +kernel) (by rw [hR]; exact ⟨Nat.le_of_ble_eq_true rfl, Nat.le_of_ble_eq_true rfl⟩)) (pw_V (ci := 2) (q := (RT, TT, 4)) hKN hob rfl ⟨hrs, hlo, hhi, n12, n13, n23, hob, h1, h2, h3⟩) rfl rfl hl.1 rfl (lv_room (Nat.le_of_ble_eq_true rfl)) dT_addRegion_55 (by rw [hR]; exact ⟨Nat.le_of_ble_eq_true rfl, Nat.le_of_ble_eq_true rfl⟩)) hL (fun q h => h) (fun v9 st9 t9 lc20 h0 ha9 hL hq9 => ?_)
    obtain ⟨hv9, ⟨fp0, ff0, pl0, hob, h1, h2, h3, hD0⟩, hz1, hk1⟩ := hq9
    cases hv9
    rw [h0] at hz1 hk1
    generalize t9.heap = H20 at hob h1 h2 h3 hz1 hk1 ⊢
    have hrs := ob_k hrs (hk1 rs (nrs _ (Or.inl rfl)) (nrs _ (Or.inr (Or.inl rfl))) (nrs _ (Or.inr (Or.inr (Or.inl rfl)))) (nrs _ (Or.inr (Or.inr (Or.inr rfl)))))
    have hlo := al_k hlo (hk1 lo (nlo _ (Or.inl rfl)) (nlo _ (Or.inr (Or.inl rfl))) (nlo _ (Or.inr (Or.inr (Or.inl rfl)))) (nlo _ (Or.inr (Or.inr (Or.inr rfl)))))
    have hhi := al_k hhi (hk1 hi (nhi _ (Or.inl rfl)) (nhi _ (Or.inr (Or.inl rfl))) (nhi _ (Or.inr (Or.inr (Or.inl rfl)))) (nhi _ (Or.inr (Or.inr (Or.inr rfl)))))
    have hk : ∀ q, q ≠ tb → q ≠ a1 → q ≠ a2 → q ≠ a3 → H20[q]? = s.heap[q]? := fun q e0 e1 e2 e3 => (hk1 q e0 e1 e2 e3).trans (hk q e0 e1 e2 e3)
    have hz := hz1.trans hz
    have hD0 : tabI (D ++ reg (uni 64 fo) 2 (x)) (x + 16) fp0 ff0 pl0 := hD0
    refine lv_iinc (v := nI (0 + 1)) (lv' := [(5, .int (nI (0 + 1))), (4, .int (nI 64)), (0, .ref tb), (1, .ref rs), (2, .int (nI x)), (3, .int (nI 0))]) hx hb dT_addRegion_58 hl (k := 0) rfl (nI_1 0) (by decide) rfl (fun ls hl => ?_)
    refine lv_goto (tgt := 35) hx hb dT_addRegion_61 (by decide) ?_
    have hl : lv_has ls 6 [(5, .int (nI 1)), (4, .int (nI 64)), (0, .ref tb), (1, .ref rs), (2, .int (nI x)), (3, .int (nI 0))] := hl
    refine lv_iload hx hb dT_addRegion_35 (lv_at hl 0 rfl) ?_
    refine lv_iconst (v := nI 4) hx hb dT_addRegion_37 (by decide) ?_
    refine lv_icmp_ge (tgt := 64) hx hb dT_addRegion_38 (by decide) (fun c9 => absurd c9 (by decide)) (fun _ => ?_)
    refine lv_aload_n hx hb dT_addRegion_41 rfl (lv_at hl 2 rfl) ?_
    refine lv_aload_n hx hb dT_addRegion_42 rfl (lv_at hl 3 rfl) ?_
    refine lv_iload_n hx hb dT_addRegion_43 rfl (lv_at hl 4 rfl) ?_
    refine lv_iload hx hb dT_addRegion_44 (lv_at hl 0 rfl) ?_
    refine lv_iload_n hx hb dT_addRegion_46 rfl (lv_at hl 5 rfl) ?_
    refine vp_callSi (va_Run.run (va_runSN (As := [.int (nI 0)]) (rest := [.int (nI 1), .int (nI x), .ref rs, .ref tb]) ⟨hx, hb, hml, hown, htA⟩ (c_weightOf l G cA 0 (by decide)) ⟨va_cnB 1 htA (gd_m wd225) rfl rfl rfl (KN.n hKN (w := .methodLinkNest RT 39 yV_weightOf RV) (by decide +kernel)) (htA _ wd26) (by decide +kernel) (by rw [hR]; exact ⟨Nat.le_of_ble_eq_true rfl, Nat.le_of_ble_eq_true rfl⟩), htA _ wd224, trivial⟩ (pw_S hKN trivial) rfl rfl hl.1 rfl (lv_room (Nat.le_of_ble_eq_true rfl)) dT_addRegion_47 (by rw [hR]; exact ⟨Nat.le_of_ble_eq_true rfl, Nat.le_of_ble_eq_true rfl⟩))) (fun r3 hr3 => ?_)
    subst hr3
    refine pw_ti (y := nI 16) (by decide +kernel) ?_
    refine lv_imul hx hb dT_addRegion_50 ?_
    refine pw_ti (y := nI 16) (by decide +kernel) ?_
    refine lv_iadd hx hb dT_addRegion_51 ?_
    refine pw_ti (y := nI (x + 16)) (nI_add _ _) ?_
    refine lv_iload_n hx hb dT_addRegion_52 rfl (lv_at hl 5 rfl) ?_
    refine lv_iconst (v := nI 1) hx hb dT_addRegion_53 (by decide) ?_
    refine lv_iadd hx hb dT_addRegion_54 ?_
    refine pw_ti (y := nI 1) (by decide +kernel) ?_
    refine pw_call (F := (fun q => q = tb ∨ q = a1 ∨ q = a2 ∨ q = a3)) (va_runV (As := [.ref rs, .int (nI (x + 16)), .int (nI 1)]) (rest := []) ⟨hx, hb, hml, hown, htA⟩ (c_addRegion2 l G cA tb rs lo hi a1 a2 a3 f g fo hf hg (D ++ reg (uni 64 fo) 2 (x)) fp0 ff0 pl0 (x + 16) (by omega) hD0) (cwV 3 htA (gd_V wd382 wd384 wd12 wd37 wd385) rfl rfl rfl (by decide +kernel) (by rw [hR]; exact ⟨Nat.le_of_ble_eq_true rfl, Nat.le_of_ble_eq_true rfl⟩)) (pw_V (ci := 2) (q := (RT, TT, 4)) hKN hob rfl ⟨hrs, hlo, hhi, n12, n13, n23, hob, h1, h2, h3⟩) rfl rfl hl.1 rfl (lv_room (Nat.le_of_ble_eq_true rfl)) dT_addRegion_55 (by rw [hR]; exact ⟨Nat.le_of_ble_eq_true rfl, Nat.le_of_ble_eq_true rfl⟩)) hL (fun q h => h) (fun v9 st9 t9 lc21 h0 ha9 hL hq9 => ?_)
    obtain ⟨hv9, ⟨fp1, ff1, pl1, hob, h1, h2, h3, hD1⟩, hz1, hk1⟩ := hq9
    cases hv9
    rw [h0] at hz1 hk1
    generalize t9.heap = H21 at hob h1 h2 h3 hz1 hk1 ⊢
    have hrs := ob_k hrs (hk1 rs (nrs _ (Or.inl rfl)) (nrs _ (Or.inr (Or.inl rfl))) (nrs _ (Or.inr (Or.inr (Or.inl rfl)))) (nrs _ (Or.inr (Or.inr (Or.inr rfl)))))
    have hlo := al_k hlo (hk1 lo (nlo _ (Or.inl rfl)) (nlo _ (Or.inr (Or.inl rfl))) (nlo _ (Or.inr (Or.inr (Or.inl rfl)))) (nlo _ (Or.inr (Or.inr (Or.inr rfl)))))
    have hhi := al_k hhi (hk1 hi (nhi _ (Or.inl rfl)) (nhi _ (Or.inr (Or.inl rfl))) (nhi _ (Or.inr (Or.inr (Or.inl rfl)))) (nhi _ (Or.inr (Or.inr (Or.inr rfl)))))
    have hk : ∀ q, q ≠ tb → q ≠ a1 → q ≠ a2 → q ≠ a3 → H21[q]? = s.heap[q]? := fun q e0 e1 e2 e3 => (hk1 q e0 e1 e2 e3).trans (hk q e0 e1 e2 e3)
    have hz := hz1.trans hz
    rw [Nat.add_assoc] at hD1
    have hD1 : tabI ((D ++ reg (uni 64 fo) 2 (x)) ++ reg (uni 64 fo) 2 (x + 16)) (x + 32) fp1 ff1 pl1 := hD1
    refine lv_iinc (v := nI (1 + 1)) (lv' := [(5, .int (nI (1 + 1))), (4, .int (nI 64)), (0, .ref tb), (1, .ref rs), (2, .int (nI x)), (3, .int (nI 0))]) hx hb dT_addRegion_58 hl (k := 0) rfl (nI_1 1) (by decide) rfl (fun ls hl => ?_)
    refine lv_goto (tgt := 35) hx hb dT_addRegion_61 (by decide) ?_
    have hl : lv_has ls 6 [(5, .int (nI 2)), (4, .int (nI 64)), (0, .ref tb), (1, .ref rs), (2, .int (nI x)), (3, .int (nI 0))] := hl
    refine lv_iload hx hb dT_addRegion_35 (lv_at hl 0 rfl) ?_
    refine lv_iconst (v := nI 4) hx hb dT_addRegion_37 (by decide) ?_
    refine lv_icmp_ge (tgt := 64) hx hb dT_addRegion_38 (by decide) (fun c9 => absurd c9 (by decide)) (fun _ => ?_)
    refine lv_aload_n hx hb dT_addRegion_41 rfl (lv_at hl 2 rfl) ?_
    refine lv_aload_n hx hb dT_addRegion_42 rfl (lv_at hl 3 rfl) ?_
    refine lv_iload_n hx hb dT_addRegion_43 rfl (lv_at hl 4 rfl) ?_
    refine lv_iload hx hb dT_addRegion_44 (lv_at hl 0 rfl) ?_
    refine lv_iload_n hx hb dT_addRegion_46 rfl (lv_at hl 5 rfl) ?_
    refine vp_callSi (va_Run.run (va_runSN (As := [.int (nI 0)]) (rest := [.int (nI 2), .int (nI x), .ref rs, .ref tb]) ⟨hx, hb, hml, hown, htA⟩ (c_weightOf l G cA 0 (by decide)) ⟨va_cnB 1 htA (gd_m wd225) rfl rfl rfl (KN.n hKN (w := .methodLinkNest RT 39 yV_weightOf RV) (by decide +kernel)) (htA _ wd26) (by decide +kernel) (by rw [hR]; exact ⟨Nat.le_of_ble_eq_true rfl, Nat.le_of_ble_eq_true rfl⟩), htA _ wd224, trivial⟩ (pw_S hKN trivial) rfl rfl hl.1 rfl (lv_room (Nat.le_of_ble_eq_true rfl)) dT_addRegion_47 (by rw [hR]; exact ⟨Nat.le_of_ble_eq_true rfl, Nat.le_of_ble_eq_true rfl⟩))) (fun r4 hr4 => ?_)
    subst hr4
    refine pw_ti (y := nI 16) (by decide +kernel) ?_
    refine lv_imul hx hb dT_addRegion_50 ?_
    refine pw_ti (y := nI 32) (by decide +kernel) ?_
    refine lv_iadd hx hb dT_addRegion_51 ?_
    refine pw_ti (y := nI (x + 32)) (nI_add _ _) ?_
    refine lv_iload_n hx hb dT_addRegion_52 rfl (lv_at hl 5 rfl) ?_
    refine lv_iconst (v := nI 1) hx hb dT_addRegion_53 (by decide) ?_
    refine lv_iadd hx hb dT_addRegion_54 ?_
    refine pw_ti (y := nI 1) (by decide +kernel) ?_
    refine pw_call (F := (fun q => q = tb ∨ q = a1 ∨ q = a2 ∨ q = a3)) (va_runV (As := [.ref rs, .int (nI (x + 32)), .int (nI 1)]) (rest := []) ⟨hx, hb, hml, hown, htA⟩ (c_addRegion2 l G cA tb rs lo hi a1 a2 a3 f g fo hf hg ((D ++ reg (uni 64 fo) 2 (x)) ++ reg (uni 64 fo) 2 (x + 16)) fp1 ff1 pl1 (x + 32) (by omega) hD1) (cwV 3 htA (gd_V wd382 wd384 wd12 wd37 wd385) rfl rfl rfl (by decide +kernel) (by rw [hR]; exact ⟨Nat.le_of_ble_eq_true rfl, Nat.le_of_ble_eq_true rfl⟩)) (pw_V (ci := 2) (q := (RT, TT, 4)) hKN hob rfl ⟨hrs, hlo, hhi, n12, n13, n23, hob, h1, h2, h3⟩) rfl rfl hl.1 rfl (lv_room (Nat.le_of_ble_eq_true rfl)) dT_addRegion_55 (by rw [hR]; exact ⟨Nat.le_of_ble_eq_true rfl, Nat.le_of_ble_eq_true rfl⟩)) hL (fun q h => h) (fun v9 st9 t9 lc22 h0 ha9 hL hq9 => ?_)
    obtain ⟨hv9, ⟨fp2, ff2, pl2, hob, h1, h2, h3, hD2⟩, hz1, hk1⟩ := hq9
    cases hv9
    rw [h0] at hz1 hk1
    generalize t9.heap = H22 at hob h1 h2 h3 hz1 hk1 ⊢
    have hrs := ob_k hrs (hk1 rs (nrs _ (Or.inl rfl)) (nrs _ (Or.inr (Or.inl rfl))) (nrs _ (Or.inr (Or.inr (Or.inl rfl)))) (nrs _ (Or.inr (Or.inr (Or.inr rfl)))))
    have hlo := al_k hlo (hk1 lo (nlo _ (Or.inl rfl)) (nlo _ (Or.inr (Or.inl rfl))) (nlo _ (Or.inr (Or.inr (Or.inl rfl)))) (nlo _ (Or.inr (Or.inr (Or.inr rfl)))))
    have hhi := al_k hhi (hk1 hi (nhi _ (Or.inl rfl)) (nhi _ (Or.inr (Or.inl rfl))) (nhi _ (Or.inr (Or.inr (Or.inl rfl)))) (nhi _ (Or.inr (Or.inr (Or.inr rfl)))))
    have hk : ∀ q, q ≠ tb → q ≠ a1 → q ≠ a2 → q ≠ a3 → H22[q]? = s.heap[q]? := fun q e0 e1 e2 e3 => (hk1 q e0 e1 e2 e3).trans (hk q e0 e1 e2 e3)
    have hz := hz1.trans hz
    rw [Nat.add_assoc] at hD2
    have hD2 : tabI (((D ++ reg (uni 64 fo) 2 (x)) ++ reg (uni 64 fo) 2 (x + 16)) ++ reg (uni 64 fo) 2 (x + 32)) (x + 48) fp2 ff2 pl2 := hD2
    refine lv_iinc (v := nI (2 + 1)) (lv' := [(5, .int (nI (2 + 1))), (4, .int (nI 64)), (0, .ref tb), (1, .ref rs), (2, .int (nI x)), (3, .int (nI 0))]) hx hb dT_addRegion_58 hl (k := 0) rfl (nI_1 2) (by decide) rfl (fun ls hl => ?_)
    refine lv_goto (tgt := 35) hx hb dT_addRegion_61 (by decide) ?_
    have hl : lv_has ls 6 [(5, .int (nI 3)), (4, .int (nI 64)), (0, .ref tb), (1, .ref rs), (2, .int (nI x)), (3, .int (nI 0))] := hl
    refine lv_iload hx hb dT_addRegion_35 (lv_at hl 0 rfl) ?_
    refine lv_iconst (v := nI 4) hx hb dT_addRegion_37 (by decide) ?_
    refine lv_icmp_ge (tgt := 64) hx hb dT_addRegion_38 (by decide) (fun c9 => absurd c9 (by decide)) (fun _ => ?_)
    refine lv_aload_n hx hb dT_addRegion_41 rfl (lv_at hl 2 rfl) ?_
    refine lv_aload_n hx hb dT_addRegion_42 rfl (lv_at hl 3 rfl) ?_
    refine lv_iload_n hx hb dT_addRegion_43 rfl (lv_at hl 4 rfl) ?_
    refine lv_iload hx hb dT_addRegion_44 (lv_at hl 0 rfl) ?_
    refine lv_iload_n hx hb dT_addRegion_46 rfl (lv_at hl 5 rfl) ?_
    refine vp_callSi (va_Run.run (va_runSN (As := [.int (nI 0)]) (rest := [.int (nI 3), .int (nI x), .ref rs, .ref tb]) ⟨hx, hb, hml, hown, htA⟩ (c_weightOf l G cA 0 (by decide)) ⟨va_cnB 1 htA (gd_m wd225) rfl rfl rfl (KN.n hKN (w := .methodLinkNest RT 39 yV_weightOf RV) (by decide +kernel)) (htA _ wd26) (by decide +kernel) (by rw [hR]; exact ⟨Nat.le_of_ble_eq_true rfl, Nat.le_of_ble_eq_true rfl⟩), htA _ wd224, trivial⟩ (pw_S hKN trivial) rfl rfl hl.1 rfl (lv_room (Nat.le_of_ble_eq_true rfl)) dT_addRegion_47 (by rw [hR]; exact ⟨Nat.le_of_ble_eq_true rfl, Nat.le_of_ble_eq_true rfl⟩))) (fun r5 hr5 => ?_)
    subst hr5
    refine pw_ti (y := nI 16) (by decide +kernel) ?_
    refine lv_imul hx hb dT_addRegion_50 ?_
    refine pw_ti (y := nI 48) (by decide +kernel) ?_
    refine lv_iadd hx hb dT_addRegion_51 ?_
    refine pw_ti (y := nI (x + 48)) (nI_add _ _) ?_
    refine lv_iload_n hx hb dT_addRegion_52 rfl (lv_at hl 5 rfl) ?_
    refine lv_iconst (v := nI 1) hx hb dT_addRegion_53 (by decide) ?_
    refine lv_iadd hx hb dT_addRegion_54 ?_
    refine pw_ti (y := nI 1) (by decide +kernel) ?_
    refine pw_call (F := (fun q => q = tb ∨ q = a1 ∨ q = a2 ∨ q = a3)) (va_runV (As := [.ref rs, .int (nI (x + 48)), .int (nI 1)]) (rest := []) ⟨hx, hb, hml, hown, htA⟩ (c_addRegion2 l G cA tb rs lo hi a1 a2 a3 f g fo hf hg (((D ++ reg (uni 64 fo) 2 (x)) ++ reg (uni 64 fo) 2 (x + 16)) ++ reg (uni 64 fo) 2 (x + 32)) fp2 ff2 pl2 (x + 48) (by omega) hD2) (cwV 3 htA (gd_V wd382 wd384 wd12 wd37 wd385) rfl rfl rfl (by decide +kernel) (by rw [hR]; exact ⟨Nat.le_of_ble_eq_true rfl, Nat.le_of_ble_eq_true rfl⟩)) (pw_V (ci := 2) (q := (RT, TT, 4)) hKN hob rfl ⟨hrs, hlo, hhi, n12, n13, n23, hob, h1, h2, h3⟩) rfl rfl hl.1 rfl (lv_room (Nat.le_of_ble_eq_true rfl)) dT_addRegion_55 (by rw [hR]; exact ⟨Nat.le_of_ble_eq_true rfl, Nat.le_of_ble_eq_true rfl⟩)) hL (fun q h => h) (fun v9 st9 t9 lc23 h0 ha9 hL hq9 => ?_)
    obtain ⟨hv9, ⟨fp3, ff3, pl3, hob, h1, h2, h3, hD3⟩, hz1, hk1⟩ := hq9
    cases hv9
    rw [h0] at hz1 hk1
    generalize t9.heap = H23 at hob h1 h2 h3 hz1 hk1 ⊢
    have hrs := ob_k hrs (hk1 rs (nrs _ (Or.inl rfl)) (nrs _ (Or.inr (Or.inl rfl))) (nrs _ (Or.inr (Or.inr (Or.inl rfl)))) (nrs _ (Or.inr (Or.inr (Or.inr rfl)))))
    have hlo := al_k hlo (hk1 lo (nlo _ (Or.inl rfl)) (nlo _ (Or.inr (Or.inl rfl))) (nlo _ (Or.inr (Or.inr (Or.inl rfl)))) (nlo _ (Or.inr (Or.inr (Or.inr rfl)))))
    have hhi := al_k hhi (hk1 hi (nhi _ (Or.inl rfl)) (nhi _ (Or.inr (Or.inl rfl))) (nhi _ (Or.inr (Or.inr (Or.inl rfl)))) (nhi _ (Or.inr (Or.inr (Or.inr rfl)))))
    have hk : ∀ q, q ≠ tb → q ≠ a1 → q ≠ a2 → q ≠ a3 → H23[q]? = s.heap[q]? := fun q e0 e1 e2 e3 => (hk1 q e0 e1 e2 e3).trans (hk q e0 e1 e2 e3)
    have hz := hz1.trans hz
    rw [Nat.add_assoc] at hD3
    have hD3 : tabI ((((D ++ reg (uni 64 fo) 2 (x)) ++ reg (uni 64 fo) 2 (x + 16)) ++ reg (uni 64 fo) 2 (x + 32)) ++ reg (uni 64 fo) 2 (x + 48)) (x + 64) fp3 ff3 pl3 := hD3
    refine lv_iinc (v := nI (3 + 1)) (lv' := [(5, .int (nI (3 + 1))), (4, .int (nI 64)), (0, .ref tb), (1, .ref rs), (2, .int (nI x)), (3, .int (nI 0))]) hx hb dT_addRegion_58 hl (k := 0) rfl (nI_1 3) (by decide) rfl (fun ls hl => ?_)
    refine lv_goto (tgt := 35) hx hb dT_addRegion_61 (by decide) ?_
    have hl : lv_has ls 6 [(5, .int (nI 4)), (4, .int (nI 64)), (0, .ref tb), (1, .ref rs), (2, .int (nI x)), (3, .int (nI 0))] := hl
    refine lv_iload hx hb dT_addRegion_35 (lv_at hl 0 rfl) ?_
    refine lv_iconst (v := nI 4) hx hb dT_addRegion_37 (by decide) ?_
    refine lv_icmp_ge (tgt := 64) hx hb dT_addRegion_38 (by decide) (fun _ => ?_) (fun c9 => absurd (Int32.le_refl _) c9)
    have hall : (((D ++ reg (uni 64 fo) 2 (x)) ++ reg (uni 64 fo) 2 (x + 16)) ++ reg (uni 64 fo) 2 (x + 32)) ++ reg (uni 64 fo) 2 (x + 48) = D ++ reg (uni 64 fo) 3 x := by rw [hreg]; simp only [List.append_assoc]
    rw [hall] at hob hD3
    rw [hQ]
    exact W.vret hx hb hrt (fun t ht hW => ⟨rfl, ⟨fp3, ff3, pl3, by rw [ht]; exact ⟨hob, h1, h2, h3, hD3⟩⟩, by rw [ht]; exact hz, by rw [ht]; exact hk⟩) hL dT_addRegion_64
  · have hq := bI_ne.mp c1
    refine lv_aload_n hx hb dT_addRegion_23 rfl (lv_at hl 1 rfl) ?_
    refine lv_iload_n hx hb dT_addRegion_24 rfl (lv_at hl 3 rfl) ?_
    refine lv_iload_n hx hb dT_addRegion_25 rfl (lv_at hl 4 rfl) ?_
    refine lv_iload hx hb dT_addRegion_26 (lv_at hl 0 rfl) ?_
    refine pw_call (F := (fun q => q = tb ∨ q = a1 ∨ q = a2 ∨ q = a3)) (va_runV (As := [.int (nI x), .int (nI 0), .int (nI 64)]) (rest := []) ⟨hx, hb, hml, hown, htA⟩ (c_addRule l G cA tb a1 a2 a3 D.length fp ff pl x 0 64 (by omega) hx0) (cwV 3 htA (gd_V wd390 wd392 wd13 wd37 wd393) rfl rfl rfl (by decide +kernel) (by rw [hR]; exact ⟨Nat.le_of_ble_eq_true rfl, Nat.le_of_ble_eq_true rfl⟩)) (pw_V (ci := 2) (q := (RT, TT, 4)) hKN hob rfl ⟨n12, n13, n23, hob, h1, h2, h3⟩) rfl rfl hl.1 rfl (lv_room (Nat.le_of_ble_eq_true rfl)) dT_addRegion_28 (by rw [hR]; exact ⟨Nat.le_of_ble_eq_true rfl, Nat.le_of_ble_eq_true rfl⟩)) hL (fun q h => h) (fun v9 st9 t9 lc9 h0 ha9 hL hq9 => ?_)
    obtain ⟨hv9, hob, h1, h2, ⟨pl9, h3, hpl⟩, hz1, hk1⟩ := hq9
    cases hv9
    rw [h0] at hz1 hk1
    generalize t9.heap = H6 at hob h1 h2 h3 hz1 hk1 ⊢
    have hD2 := tabI_s (d := 3) hD (show 4 ^ 3 = 64 by decide) hpl hx0
    have hlen : D.length + 1 = (D ++ [(x, 3)]).length := by rw [List.length_append]; rfl
    rw [hlen] at hob
    have hreg : reg (uni 64 fo) 3 x = [(x, 3)] := (by rw [reg_s, if_pos (show uni 64 fo x (4 ^ 3) = true from hq)])
    rw [hQ]
    exact W.vret hx hb hrt (fun t ht hW => ⟨rfl, ⟨_, _, pl9, by rw [hreg, ht]; exact ⟨hob, h1, h2, h3, hD2⟩⟩, by rw [ht]; exact hz1.trans hz, by rw [ht]; exact fun q e0 e1 e2 e3 => (hk1 q e0 e1 e2 e3).trans (hk q e0 e1 e2 e3)⟩) hL dT_addRegion_31

set_option maxRecDepth 100000 in
set_option maxHeartbeats 4000000 in
theorem c_fill (l : Launch) (G : va_G) (cA : Nat → ClassId) (tb rs lo hi a1 a2 a3 : Nat) (f g fo : Nat → Int64) (hf : ∀ k, k < 64 → f k = rl 64 k (fo k) 64) (hg : ∀ k, k < 64 → g k = rh 64 k (fo k) 64) (fp ff pl : Nat → Int32) : Met l yT_fill wsT_fill ({ frames := 5, cells := 0, slots := 0, locals := 124 }) (PH G cA [.ref tb, .ref rs] (fun H => (ob G 1 rs [.ref lo, .ref hi] H ∧ al (cA 0) lo 64 f H ∧ al (cA 0) hi 64 g H ∧ a1 ≠ a2 ∧ a1 ≠ a3 ∧ a2 ≠ a3 ∧ ob G 2 tb [.ref a1, .ref a2, .ref a3, .int (nI 0)] H ∧ ai (cA 1) a1 64 fp H ∧ ai (cA 1) a2 64 ff H ∧ ai (cA 1) a3 64 pl H))) (fun _ st o0 t => o0 = .returned none ∧ (∃ fp2 ff2 pl2, ob G 2 tb [.ref a1, .ref a2, .ref a3, .int (nI (tbl fo).length)] t.heap ∧ ai (cA 1) a1 64 fp2 t.heap ∧ ai (cA 1) a2 64 ff2 t.heap ∧ ai (cA 1) a3 64 pl2 t.heap ∧ tabI (tbl fo) 64 fp2 ff2 pl2) ∧ t.heap.size = st.heap.size ∧ ∀ q, q ≠ tb → q ≠ a1 → q ≠ a2 → q ≠ a3 → t.heap[q]? = st.heap[q]?) 0 0 (fun q => q = tb ∨ q = a1 ∨ q = a2 ∨ q = a3) := by
  refine Met.ofW (cc := cT_fill) (maxL := 2) (ret := none) (by decide) rfl ?_
  intro p e s m args below meth c s₁ B hml hv
  obtain ⟨hav, hKN, hrs, hlo, hhi, n12, n13, n23, hob, h1, h2, h3⟩ := hv
  have hK := hKN.1
  have hx := B.exec
  have hb := B.bytes
  have hrt := B.returns
  have htA : ∀ w ∈ ALL, w.before args s = true := fun w h => atoms_spec (ws := wsT_fill) B.pre w (List.mem_cons_of_mem _ h)
  have hown : s.vm.findClass RT = some m.cls := findClass_of_methodNamed B.named
  have hlocks := B.notSynchronized
  refine pw_nm (fun R Q hR hQ => ?_)
  refine pw_entry (vs := [.ref tb, .ref rs]) hav (Nat.le_of_ble_eq_true rfl) (fun ls hl => ?_)
  have hl : lv_has ls 2 [(0, .ref tb), (1, .ref rs)] := hl
  refine lv_aload_n hx hb dT_fill_0 rfl (lv_at hl 0 rfl) ?_
  refine lv_aload_n hx hb dT_fill_1 rfl (lv_at hl 1 rfl) ?_
  refine lv_iconst (v := nI 0) hx hb dT_fill_2 (by decide) ?_
  refine lv_iconst (v := nI 0) hx hb dT_fill_3 (by decide) ?_
  refine pw_call (F := (fun q => q = tb ∨ q = a1 ∨ q = a2 ∨ q = a3)) (va_runV (As := [.ref rs, .int (nI 0), .int (nI 0)]) (rest := []) ⟨hx, hb, hml, hown, htA⟩ (c_addRegion3 l G cA tb rs lo hi a1 a2 a3 f g fo hf hg [] fp ff pl 0 (by decide) tabI_0) (cwV 3 htA (gd_V wd382 wd384 wd12 wd37 wd385) rfl rfl rfl (by decide +kernel) (by rw [hR]; exact ⟨Nat.le_of_ble_eq_true rfl, Nat.le_of_ble_eq_true rfl⟩)) (pw_V (ci := 2) (q := (RT, TT, 4)) hKN hob rfl ⟨hrs, hlo, hhi, n12, n13, n23, hob, h1, h2, h3⟩) rfl rfl hl.1 rfl (lv_room (Nat.le_of_ble_eq_true rfl)) dT_fill_4 (by rw [hR]; exact ⟨Nat.le_of_ble_eq_true rfl, Nat.le_of_ble_eq_true rfl⟩)) (fun _ h => by cases h) (fun q h => h) (fun v9 st9 t9 lc9 h0 ha9 hL hq9 => ?_)
  obtain ⟨hv9, ⟨fp2, ff2, pl2, hob, h1, h2, h3, hD⟩, hz1, hk1⟩ := hq9
  cases hv9
  rw [h0] at hz1 hk1
  generalize t9.heap = H6 at hob h1 h2 h3 hz1 hk1 ⊢
  rw [List.nil_append] at hob hD
  rw [hQ]
  exact W.vret hx hb hrt (fun t ht hW => ⟨rfl, ⟨fp2, ff2, pl2, by rw [ht]; exact ⟨hob, h1, h2, h3, hD⟩⟩, by rw [ht]; exact hz1, by rw [ht]; exact hk1⟩) hL dT_fill_7
