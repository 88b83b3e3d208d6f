set_option maxRecDepth 100000 in
set_option maxHeartbeats 4000000 in
theorem c_Vinit (l : Launch) (G : va_G) (cA : Nat → ClassId) (x : Nat) : Met l yV_init wsV_init ({ frames := 2, cells := 4, slots := 180, locals := 32 }) (PH G cA [.ref x] (fun H => (ob G 3 x [.null, .null, .int 0, .int 0] H))) (fun _ st o t => o = .returned none ∧ st.heap.size ≤ t.heap.size ∧ (∀ q, q < st.heap.size → q ≠ x → t.heap[q]? = st.heap[q]?) ∧ (∃ pa rs lo hi, st.heap.size ≤ pa ∧ st.heap.size ≤ rs ∧ st.heap.size ≤ lo ∧ st.heap.size ≤ hi ∧ ∀ F O po oc tb tc, pvS G cA x pa rs lo hi 0 F O po oc tb tc t.heap)) 4 180 (fun q => q = x) := by
  refine Met.ofW (cc := cV_init) (maxL := 1) (ret := none) (by decide) rfl ?_
  intro p e s m args below meth c s₁ B hml hv
  obtain ⟨hav, hKN, hob⟩ := hv
  have hK := hKN.1
  have hx := B.exec
  have hb := B.bytes
  have hrt := B.returns
  have htA : ∀ w ∈ ALL, w.before args s = true := fun w h => atoms_spec (ws := wsV_init) B.pre w (List.mem_cons_of_mem _ h)
  have hown : s.vm.findClass RV = some m.cls := findClass_of_methodNamed B.named
  have hlocks := B.notSynchronized
  refine pw_nm (fun R Q hR hQ => ?_)
  refine pw_entry (vs := [.ref x]) hav (Nat.le_of_ble_eq_true rfl) (fun ls hl => ?_)
  have hl : lv_has ls 1 [(0, .ref x)] := hl
  have hin : meth.name = "<init>" := (name_of_methodNamed B.named B.method).1
  have hL : ∀ z ∈ ([] : List Loc), (fun q => q = x) z.base := fun _ h => by cases h
  have hk : ∀ q, q < s.heap.size → q ≠ x → s.heap[q]? = s.heap[q]? := fun _ _ _ => rfl
  have hz : s.heap.size ≤ s.heap.size := Nat.le_refl _
  have hlt := ob_lt hob
  refine lv_aload_n hx hb dV_init_0 rfl (lv_at hl 0 rfl) ?_
  refine W.objInit hx hb hown (htA _ wd44) (htA _ wd45) (htA _ wd46) rfl (by rw [hml]; exact hl.1) rfl dV_init_1 (by rw [hR]; exact Nat.le_of_ble_eq_true rfl) (by rw [hR]; exact Nat.le_of_ble_eq_true rfl) ?_
  refine W.eq (g2 := F0 m 4 ls []) rfl ?_
  refine lv_aload_n hx hb dV_init_4 rfl (lv_at hl 0 rfl) ?_
  refine lv_bipush (v := nI 50) hx hb dV_init_5 (by decide) ?_
  refine pn_q (own := RV) (C := RP) hx hb hown (htA _ wd47) hKN.2.2 hK 2 rfl (by decide) (by rw [hR]; exact Nat.le_of_ble_eq_true rfl) (by rw [hR]; exact Nat.le_of_ble_eq_true rfl) dV_init_7 (fun Ha pa epa hpa hz1 hk1 => ?_)
  have hob := ob_k hob (hk1 x (by omega))
  have hk : ∀ q, q < s.heap.size → q ≠ x → Ha[q]? = s.heap[q]? := fun q h1 h2 => (hk1 q (by omega)).trans (hk q h1 h2)
  have hz : s.heap.size ≤ Ha.size := by omega
  refine pw_putF (ci := 3) (C := RV) (T := TV) (N := 4) (ty := .array (.object "PolicyVerifier$Policy")) (F := fun q => q = x) hx hb htA inV tyV tyV_ok nmV hown hK hob rfl 0 (by decide) (htA _ wd63) (fun _ h9 => h9) rfl hin rfl (by decide +kernel) rfl rfl (Nat.le_of_ble_eq_true rfl) hL rfl dV_init_10 (fun H1 lc2 hob1 hz1 hk1 hL => ?_)
  have hob : ob G 3 x [.ref pa, .null, .int 0, .int 0] H1 := hob1
  have hpa := aq_k hpa (hk1 pa (by omega))
  have hk : ∀ q, q < s.heap.size → q ≠ x → H1[q]? = s.heap[q]? := fun q h1 h2 => (hk1 q h2).trans (hk q h1 h2)
  have hz : s.heap.size ≤ H1.size := by omega
  refine lv_aload_n hx hb dV_init_13 rfl (lv_at hl 0 rfl) ?_
  refine pn_o (ci := 1) (C := RQ) (T := TQ) (N := 2) (fs := [.null, .null]) hx hb htA inQ tyQ tyQ_ok hown (htA _ wd49) (htA _ wd50) (htA _ wd27) hK rfl (fun j hj => by rcases (show j = 0 ∨ j = 1 by omega) with rfl | rfl <;> rfl) (by rw [hR]; exact Nat.le_of_ble_eq_true rfl) (by rw [hR]; exact Nat.le_of_ble_eq_true rfl) dV_init_14 (fun Hb rs ers hrs hz1 hk1 => ?_)
  have hob := ob_k hob (hk1 x (by omega))
  have hpa := aq_k hpa (hk1 pa (by omega))
  have hk : ∀ q, q < s.heap.size → q ≠ x → Hb[q]? = s.heap[q]? := fun q h1 h2 => (hk1 q (by omega)).trans (hk q h1 h2)
  have hz : s.heap.size ≤ Hb.size := by omega
  refine lv_dup hx hb dV_init_17 rfl ?_
  have hrx : rs ≠ x := by omega
  refine pw_call (F := fun q => q = x ∨ s.heap.size ≤ q) (va_runI (As := []) (rest := [.ref rs, .ref x]) ⟨hx, hb, hml, hown, htA⟩ (c_Qinit l G cA rs) (cwI 0 htA (gd_m wd53) rfl rfl rfl (htA _ wd27) (htA _ wd51) (htA _ wd52) rfl (by decide +kernel) (by rw [hR]; exact ⟨Nat.le_of_ble_eq_true rfl, Nat.le_of_ble_eq_true rfl⟩)) (pw_S hKN hrs) rfl rfl hl.1 rfl (lv_room (Nat.le_of_ble_eq_true rfl)) dV_init_18 (by rw [hR]; exact ⟨Nat.le_of_ble_eq_true rfl, Nat.le_of_ble_eq_true rfl⟩)) (fun z h => Or.inl (hL z h)) (fun q h => by subst h; exact Or.inr (by omega)) (fun v9 st9 t9 lc9 h0 ha9 hL hq9 => ?_)
  obtain ⟨hv9, hz1, hk1, lo, hi, hlo, hlh, hrs, hal, hah⟩ := hq9
  cases hv9
  rw [h0] at hz1 hk1 hlo
  generalize t9.heap = Hc at hz1 hk1 hrs hal hah ⊢
  have hob := ob_k hob (hk1 x (by omega) (Ne.symm hrx))
  have hpa := aq_k hpa (hk1 pa (by omega) (by omega))
  have hk : ∀ q, q < s.heap.size → q ≠ x → Hc[q]? = s.heap[q]? := fun q h1 h2 => (hk1 q (by omega) (by omega)).trans (hk q h1 h2)
  have hz : s.heap.size ≤ Hc.size := by omega
  refine W.forgetN (x := x) hL (fun lcN hL => ?_)
  refine pw_putF (ci := 3) (C := RV) (T := TV) (N := 4) (ty := .object "PolicyVerifier$Responses") (F := fun q => q = x) hx hb htA inV tyV tyV_ok nmV hown hK hob rfl 1 (by decide) (htA _ wd64) (fun _ h9 => h9) rfl hin rfl (by decide +kernel) rfl rfl (Nat.le_of_ble_eq_true rfl) hL rfl dV_init_21 (fun H3 lc4 hob1 hz1 hk1 hL => ?_)
  have hob : ob G 3 x [.ref pa, .ref rs, .int 0, .int 0] H3 := hob1
  have hpa := aq_k hpa (hk1 pa (by omega))
  have hrs := ob_k hrs (hk1 rs (by omega))
  have hal := al_k hal (hk1 lo (by omega))
  have hah := al_k hah (hk1 hi (by omega))
  have hk : ∀ q, q < s.heap.size → q ≠ x → H3[q]? = s.heap[q]? := fun q h1 h2 => (hk1 q h2).trans (hk q h1 h2)
  have hz : s.heap.size ≤ H3.size := by omega
  refine lv_aload_n hx hb dV_init_24 rfl (lv_at hl 0 rfl) ?_
  refine lv_iconst (v := nI 0) hx hb dV_init_25 (by decide) ?_
  refine pw_put (ci := 3) (C := RV) (T := TV) (N := 4) (ty := .int) (F := fun q => q = x) hx hb htA inV tyV tyV_ok nmV hown hK hob rfl 2 (by decide) (htA _ wd65) (fun _ h9 => h9) rfl (by decide +kernel) rfl rfl (Nat.le_of_ble_eq_true rfl) hL rfl dV_init_26 (fun H5 lc6 hob1 hz1 hk1 hL => ?_)
  have hob : ob G 3 x [.ref pa, .ref rs, .int (nI 0), .int 0] H5 := hob1
  have hpa := aq_k hpa (hk1 pa (by omega))
  have hrs := ob_k hrs (hk1 rs (by omega))
  have hal := al_k hal (hk1 lo (by omega))
  have hah := al_k hah (hk1 hi (by omega))
  have hk : ∀ q, q < s.heap.size → q ≠ x → H5[q]? = s.heap[q]? := fun q h1 h2 => (hk1 q h2).trans (hk q h1 h2)
  have hz : s.heap.size ≤ H5.size := by omega
  refine lv_aload_n hx hb dV_init_29 rfl (lv_at hl 0 rfl) ?_
  refine lv_iconst (v := nI 0) hx hb dV_init_30 (by decide) ?_
  refine pw_put (ci := 3) (C := RV) (T := TV) (N := 4) (ty := .int) (F := fun q => q = x) hx hb htA inV tyV tyV_ok nmV hown hK hob rfl 3 (by decide) (htA _ wd66) (fun _ h9 => h9) rfl (by decide +kernel) rfl rfl (Nat.le_of_ble_eq_true rfl) hL rfl dV_init_31 (fun H7 lc8 hob1 hz1 hk1 hL => ?_)
  have hob : ob G 3 x [.ref pa, .ref rs, .int (nI 0), .int (nI 0)] H7 := hob1
  have hpa := aq_k hpa (hk1 pa (by omega))
  have hrs := ob_k hrs (hk1 rs (by omega))
  have hal := al_k hal (hk1 lo (by omega))
  have hah := al_k hah (hk1 hi (by omega))
  have hk : ∀ q, q < s.heap.size → q ≠ x → H7[q]? = s.heap[q]? := fun q h1 h2 => (hk1 q h2).trans (hk q h1 h2)
  have hz : s.heap.size ≤ H7.size := by omega
  rw [hQ]
  refine W.widen (k := 4) (n := 180) (by omega) (by omega) ?_
  exact W.vret hx hb hrt (fun t ht hW => ⟨rfl, by rw [ht]; exact hz, by rw [ht]; exact hk, by rw [ht]; exact ⟨pa, rs, lo, hi, by omega, by omega, by omega, by omega, fun F O po oc tb tc => ⟨hob, aq_c hpa (fun j _ => by show none = (if j < 0 then _ else none); rw [if_neg (Nat.not_lt_zero j)]), hrs, ⟨_, hal⟩, ⟨_, hah⟩, fun i h9 => absurd h9 (Nat.not_lt_zero i), fun i h9 => absurd h9 (Nat.not_lt_zero i), fun i h9 => absurd h9 (Nat.not_lt_zero i), by decide, by omega, fun i h9 => absurd h9 (Nat.not_lt_zero i), fun i j h9 => absurd h9 (Nat.not_lt_zero i)⟩⟩⟩) hL dV_init_34

set_option maxRecDepth 100000 in
set_option maxHeartbeats 4000000 in
theorem c_policy (l : Launch) (hl9 : l.stackTraces = false) (G : va_G) (cA : Nat → ClassId) (E : Nat → Prop) (x pa rs lo hi n : Nat) (F : Nat → Bool) (O : Nat → Nat → Int64) (po oc : Nat → Nat) (tb : Nat → Option Nat) (tc : Nat → Nat × Nat × Nat) (k0 a b c0 : Int32) : vx_Met l yV_policy wsV_policy ({ frames := 6, cells := 2, slots := 67, locals := 100 }) (PX G cA E [.ref x, .int k0, .int a, .int b, .int c0] (fun H => (pvS G cA x pa rs lo hi n F O po oc tb tc H ∧ pvN E x pa rs lo hi n po oc tb tc ∧ ∀ q, E q → q < H.size))) (fun _ st o t => ∃ (j : Nat) (g : Nat → Int64), j < 9 ∧ k0 = nI j ∧ wfN n j a b c0 = true ∧ (7 ≤ j → F (cl a) = true) ∧ n < 50 ∧ o = .returned (some (.int (nI n))) ∧ (∀ k, k < 64 → g k = polF j (cl a) (cl b) (cl c0) O  k) ∧ PVE G cA E x (n + 1) (fun i => if i = n then polB j (cl a) (cl b) (cl c0) F else F i) (fun i => if i = n then g else O i) t.heap ∧ va_F (fun q => ¬ E q) st t) (xR (fun X => (X = "java/lang/IllegalArgumentException" ∧ wf n k0 a b c0 = false) ∨ (∃ j, j < 9 ∧ k0 = nI j ∧ wfN n j a b c0 = true ∧ ((X = "java/lang/UnsupportedOperationException" ∧ 7 ≤ j ∧ F (cl a) = false) ∨ (X = "java/lang/IllegalStateException" ∧ (7 ≤ j → F (cl a) = true) ∧ n = 50))))) 2 67 (fun q => ¬ E q) := by
  refine vx_ofW (cc := cV_policy) (maxL := 6) (ret := (some .int)) (by decide) rfl ?_
  intro p e s m args below meth c s₁ B hml htab hv
  obtain ⟨hav, hKN, hZ, hpv, hNE, hElt⟩ := hv
  have hK := hKN.1
  have hx := B.exec
  have hb := B.bytes
  have hrt := B.returns
  have htA : ∀ w ∈ ALL, w.before args s = true := fun w h => atoms_spec (ws := wsV_policy) B.pre w (List.mem_cons_of_mem _ h)
  have hown : s.vm.findClass RV = some m.cls := findClass_of_methodNamed B.named
  have hlocks := B.notSynchronized
  refine pw_nm (fun R Q hR hQ => ?_)
  refine pw_entry (vs := [.ref x, .int k0, .int a, .int b, .int c0]) hav (Nat.le_of_ble_eq_true rfl) (fun ls hl => ?_)
  have hl : lv_has ls 6 [(0, .ref x), (1, .int k0), (2, .int a), (3, .int b), (4, .int c0)] := hl
  have hS0 := hpv
  obtain ⟨p1, p2, p3, p4, p5, p6, p7, p8, p9, p10, p11, p12⟩ := hpv
  have hL : ∀ z ∈ ([] : List Loc), (fun q => ¬ E q) z.base := fun _ h => by cases h
  refine lv_aload_n hx hb dV_policy_0 rfl (lv_at hl 0 rfl) ?_
  refine lv_iload_n hx hb dV_policy_1 rfl (lv_at hl 1 rfl) ?_
  refine lv_iload_n hx hb dV_policy_2 rfl (lv_at hl 2 rfl) ?_
  refine lv_iload_n hx hb dV_policy_3 rfl (lv_at hl 3 rfl) ?_
  refine lv_iload hx hb dV_policy_4 (lv_at hl 4 rfl) ?_
  refine vp_callSi (va_Run.run (va_runV (As := [.int k0, .int a, .int b, .int c0]) (rest := []) ⟨hx, hb, hml, hown, htA⟩ (c_isWellFormed l G cA x n [.ref pa, .ref rs, .int (nI n), .int (nI (dct O n))] k0 a b c0 rfl (by omega)) (cwV 4 htA (gd_V wd86 wd88 wd0 wd26 wd89) rfl rfl rfl (by decide +kernel) (by rw [hR]; exact ⟨Nat.le_of_ble_eq_true rfl, Nat.le_of_ble_eq_true rfl⟩)) (pw_V (ci := 3) (q := (RV, TV, 4)) hKN p1 rfl p1) rfl rfl hl.1 rfl (lv_room (Nat.le_of_ble_eq_true rfl)) dV_policy_6 (by rw [hR]; exact ⟨Nat.le_of_ble_eq_true rfl, Nat.le_of_ble_eq_true rfl⟩))) (fun r1 hr1 => ?_)
  subst hr1
  refine lv_if_ne (tgt := 20) hx hb dV_policy_9 (by decide) (fun c1 => ?_) (fun c1 => ?_)
  · obtain ⟨j, hj, rfl, hw⟩ := wf_t (bI_ne.mp c1)
    refine lv_iload_n hx hb dV_policy_20 rfl (lv_at hl 1 rfl) ?_
    refine lv_bipush (v := nI 7) hx hb dV_policy_21 (by decide) ?_
    refine lv_icmp_eq (tgt := 32) hx hb dV_policy_23 (by decide) (fun c2 => ?_) (fun c2 => ?_)
    · have hj7 : j = 7 := (nI_eq (by omega) (by decide)).mp c2
      obtain ⟨na, ha1, rfl⟩ := inb_t (by omega) (wfN_7 (show 7 ≤ j by omega) hw)
      refine lv_aload_n hx hb dV_policy_32 rfl (lv_at hl 0 rfl) ?_
      refine va_get (D := G) (ci := 3) (v := .ref pa) (C := RV) (T := TV) (N := 4) hx hb htA inV hown hK (ob_P p1) 0 rfl rfl 0 (by decide) (htA _ wd63) (fun _ h9 => h9) rfl dV_policy_33 ?_
      refine lv_iload_n hx hb dV_policy_36 rfl (lv_at hl 2 rfl) ?_
      refine pw_aald hx hb hK p2 2 rfl (by omega) (by decide) dV_policy_37 ?_
      refine pw_tq (a := po na) (by show (if na < n then some (po na) else none) = some (po na); rw [if_pos ha1]) ?_
      refine va_get (D := G) (ci := 0) (v := .int (bI (F na))) (C := RP) (T := TP) (N := 3) hx hb htA inP hown hK (ob_P (p6 na ha1)) 0 rfl rfl 0 (by decide) (htA _ wd198) (fun _ h9 => h9) rfl dV_policy_38 ?_
      refine lv_if_ne (tgt := 52) hx hb dV_policy_41 (by decide) (fun c3 => ?_) (fun c3 => ?_)
      · have hfa : F (cl (nI na)) = true := by rw [cl_nI (by omega)]; exact bI_ne.mp c3
        refine lv_aload_n hx hb dV_policy_52 rfl (lv_at hl 0 rfl) ?_
        refine va_get (D := G) (ci := 3) (v := .int (nI n)) (C := RV) (T := TV) (N := 4) hx hb htA inV hown hK (ob_P p1) 0 rfl rfl 2 (by decide) (htA _ wd65) (fun _ h9 => h9) rfl dV_policy_53 ?_
        refine lv_bipush (v := nI 50) hx hb dV_policy_56 (by decide) ?_
        refine lv_icmp_lt (tgt := 69) hx hb dV_policy_58 (by decide) (fun c5 => ?_) (fun c5 => ?_)
        · have hn5 : n < 50 := (nI_ltI (by omega) (by decide)).mp c5
          refine pn_o (ci := 0) (C := RP) (T := TP) (N := 3) (fs := [.int 0, .null, .null]) hx hb htA inP tyP tyP_ok hown (htA _ wd47) (htA _ wd188) (htA _ wd35) hK rfl (fun j hj => by rcases (show j = 0 ∨ j = 1 ∨ j = 2 by omega) with rfl | rfl | rfl <;> rfl) (by rw [hR]; exact Nat.le_of_ble_eq_true rfl) (by rw [hR]; exact Nat.le_of_ble_eq_true rfl) dV_policy_69 (fun H1 p0 ep0 hp0 hz1 hk1 => ?_)
          have hlt := pvS_lt hS0
          have hS1 := pvS_up hS0 hk1
          have q1 := hS1.1
          refine lv_dup hx hb dV_policy_72 rfl ?_
          refine lv_aload_n hx hb dV_policy_73 rfl (lv_at hl 0 rfl) ?_
          refine lv_iload_n hx hb dV_policy_74 rfl (lv_at hl 1 rfl) ?_
          refine lv_iload_n hx hb dV_policy_75 rfl (lv_at hl 2 rfl) ?_
          refine lv_iload_n hx hb dV_policy_76 rfl (lv_at hl 3 rfl) ?_
          refine lv_iload hx hb dV_policy_77 (lv_at hl 4 rfl) ?_
          refine vp_callSi (va_Run.run (va_runV (As := [.int (nI j), .int (nI na), .int b, .int c0]) (rest := [.ref p0, .ref p0]) ⟨hx, hb, hml, hown, htA⟩ (c_isFilter l G cA x pa rs lo hi n F O po oc tb tc j hj (nI na) b c0 hw) (cwV 4 htA (gd_V wd189 wd191 wd3 wd26 wd192) rfl rfl rfl (by decide +kernel) (by rw [hR]; exact ⟨Nat.le_of_ble_eq_true rfl, Nat.le_of_ble_eq_true rfl⟩)) (pw_V (ci := 3) (q := (RV, TV, 4)) hKN q1 rfl hS1) rfl rfl hl.1 rfl (lv_room (Nat.le_of_ble_eq_true rfl)) dV_policy_79 (by rw [hR]; exact ⟨Nat.le_of_ble_eq_true rfl, Nat.le_of_ble_eq_true rfl⟩))) (fun r2 hr2 => ?_)
          subst hr2
          have hEp : ∀ q, s.heap.size ≤ q → ¬ E q := fun q h9 h8 => absurd (hElt q h8) (Nat.not_lt.mpr h9)
          refine pw_call (F := fun q => ¬ E q) (va_runI (As := [.int (bI (polB j (cl (nI na)) (cl b) (cl c0) F))]) (rest := [.ref p0]) ⟨hx, hb, hml, hown, htA⟩ (c_Pinit l G cA p0 (polB j (cl (nI na)) (cl b) (cl c0) F)) (cwI 1 htA (gd_m wd195) rfl rfl rfl (htA _ wd35) (htA _ wd193) (htA _ wd194) rfl (by decide +kernel) (by rw [hR]; exact ⟨Nat.le_of_ble_eq_true rfl, Nat.le_of_ble_eq_true rfl⟩)) (pw_S hKN hp0) rfl rfl hl.1 rfl (lv_room (Nat.le_of_ble_eq_true rfl)) dV_policy_82 (by rw [hR]; exact ⟨Nat.le_of_ble_eq_true rfl, Nat.le_of_ble_eq_true rfl⟩)) hL (fun q h9 => by subst h9; exact hEp _ (by omega)) (fun v9 st9 t9 lc9 h0 ha9 hL hq9 => ?_)
          obtain ⟨hv9, hz2, hk2, o0, ho0, hp0, hoc⟩ := hq9
          cases hv9
          rw [h0] at hz2 hk2 ho0
          generalize t9.heap = H2 at hz2 hk2 hp0 hoc ⊢
          have hF2 : ∀ q, q < s.heap.size → H2[q]? = s.heap[q]? := fun q h9 => (hk2 q (by omega) (by omega)).trans (hk1 q h9)
          have hS2 := pvS_up hS0 hF2
          have q2 := hS2.1
          refine lv_astore (lv' := [(5, .ref p0), (0, .ref x), (1, .int (nI j)), (2, .int (nI na)), (3, .int b), (4, .int c0)]) hx hb dV_policy_85 hl (by decide) rfl (fun ls hl => ?_)
          refine lv_aload_n hx hb dV_policy_87 rfl (lv_at hl 1 rfl) ?_
          refine lv_aload hx hb dV_policy_88 (lv_at hl 0 rfl) ?_
          refine va_get (D := G) (ci := 0) (v := .ref o0) (C := RP) (T := TP) (N := 3) hx hb htA inP hown hK (ob_P hp0) 0 rfl rfl 1 (by decide) (htA _ wd200) (fun _ h9 => h9) rfl dV_policy_90 ?_
          refine lv_iload_n hx hb dV_policy_93 rfl (lv_at hl 2 rfl) ?_
          refine lv_iload_n hx hb dV_policy_94 rfl (lv_at hl 3 rfl) ?_
          refine lv_iload_n hx hb dV_policy_95 rfl (lv_at hl 4 rfl) ?_
          refine lv_iload hx hb dV_policy_96 (lv_at hl 5 rfl) ?_
          refine pw_call (F := fun q => ¬ E q) (va_runV (As := [.ref o0, .int (nI j), .int (nI na), .int b, .int c0]) (rest := []) ⟨hx, hb, hml, hown, htA⟩ (c_fillOutcomes l G cA x pa rs lo hi n F O po oc tb tc o0 (fun _ => 0) j hj (nI na) b c0 hw) (cwV 5 htA (gd_V wd210 wd212 wd4 wd26 wd213) rfl rfl rfl (by decide +kernel) (by rw [hR]; exact ⟨Nat.le_of_ble_eq_true rfl, Nat.le_of_ble_eq_true rfl⟩)) (pw_V (ci := 3) (q := (RV, TV, 4)) hKN q2 rfl ⟨hS2, hoc, pvN_w hlt (fun q h9 => by subst h9; omega)⟩) rfl rfl hl.1 rfl (lv_room (Nat.le_of_ble_eq_true rfl)) dV_policy_98 (by rw [hR]; exact ⟨Nat.le_of_ble_eq_true rfl, Nat.le_of_ble_eq_true rfl⟩)) hL (fun q h9 => by subst h9; exact hEp _ (by omega)) (fun v9 st9 t9 lcA h0 ha9 hL hq9 => ?_)
          obtain ⟨hv9, ⟨g, hoc, hg⟩, hz3, hk3⟩ := hq9
          cases hv9
          rw [h0] at hz3 hk3
          generalize t9.heap = H3 at hz3 hk3 hoc ⊢
          have hF3 : ∀ q, q < s.heap.size → H3[q]? = s.heap[q]? := fun q h9 => (hk3 q (by omega)).trans (hF2 q h9)
          have hS3 := pvS_up hS0 hF3
          have q3 := hS3.1
          have hp0 := ob_k hp0 (hk3 p0 (by omega))
          refine lv_aload_n hx hb dV_policy_101 rfl (lv_at hl 1 rfl) ?_
          refine lv_aload hx hb dV_policy_102 (lv_at hl 0 rfl) ?_
          refine pw_call (F := fun q => ¬ E q) (va_runV (As := [.ref p0]) (rest := []) ⟨hx, hb, hml, hown, htA⟩ (c_keep l G cA x pa rs lo hi n F O po oc tb tc p0 o0 g (polB j (cl (nI na)) (cl b) (cl c0) F) hn5) (cwV 1 htA (gd_V wd246 wd248 wd7 wd26 wd249) rfl rfl rfl (by decide +kernel) (by rw [hR]; exact ⟨Nat.le_of_ble_eq_true rfl, Nat.le_of_ble_eq_true rfl⟩)) (pw_V (ci := 3) (q := (RV, TV, 4)) hKN q3 rfl ⟨hS3, hp0, hoc⟩) rfl rfl hl.1 rfl (lv_room (Nat.le_of_ble_eq_true rfl)) dV_policy_104 (by rw [hR]; exact ⟨Nat.le_of_ble_eq_true rfl, Nat.le_of_ble_eq_true rfl⟩)) hL (fun q h9 => h9.elim (fun e9 => by subst e9; exact hNE.1) (fun e9 => by subst e9; exact hNE.2.1)) (fun v9 st9 t9 lcB h0 ha9 hL hq9 => ?_)
          obtain ⟨hv9, hx4, hp4, hz4, hk4⟩ := hq9
          cases hv9
          rw [h0] at hz4 hk4
          generalize t9.heap = H4 at hz4 hk4 hx4 hp4 ⊢
          have hfin := pvS_push hKN.dis hS3 hn5 hp0 hoc (fun i h9 => by have := ob_lt (p6 i h9); omega) (by obtain ⟨f9, h9⟩ := p4; have := al_lt h9; omega) (by obtain ⟨f9, h9⟩ := p5; have := al_lt h9; omega) hx4 hp4 hk4
          have hNF : pvN E x pa rs lo hi (n + 1) (fun i => if i = n then p0 else po i) (fun i => if i = n then o0 else oc i) (fun i => if i = n then none else tb i) tc := pvN_push hNE (hEp _ (by omega)) (hEp _ (by omega))
          have hFF : ∀ q, q < s.heap.size → ¬ ¬ E q → H4[q]? = s.heap[q]? := fun q h9 h8 => (hk4 q (fun e9 => h8 (by rw [e9]; exact hNE.1)) (fun e9 => h8 (by rw [e9]; exact hNE.2.1))).trans (hF3 q h9)
          rw [hQ]
          refine vx_ret ?_
          refine W.widen (k := 2) (n := 67) (by omega) (by omega) ?_
          exact W.iret (v := nI n) hx hb hrt (fun t ht hW => ⟨j, g, hj, rfl, hw, (fun _ => hfa), hn5, rfl, hg, ⟨pa, rs, lo, hi, _, _, _, _, by rw [ht]; exact hfin, hNF⟩, ⟨by rw [ht]; omega, by rw [ht]; exact hFF⟩⟩) hL dV_policy_107
        · have hn50 : n = 50 := by have : ¬ n < 50 := fun q => c5 ((nI_ltI (by omega) (by decide)).mpr q); omega
          rw [hQ]
          exact px_thr (cls := "java/lang/IllegalStateException") (ik := 43) (ic := 45) hx hb hl9 hown (by decide +kernel) htA hKN wd173 wd34 tw45a tw45b tw45c hZ va_S.rf (by rw [hml]; exact hl.1) dV_policy_61 dV_policy_64 dV_policy_65 dV_policy_68 htab (by rw [hR]; exact Nat.lt_of_lt_of_le (by decide) (Nat.le_refl _)) (by rw [hR]; exact Nat.le_of_ble_eq_true rfl) (by rw [hR]; exact Nat.le_of_ble_eq_true rfl) (by rw [hR]; exact Nat.le_of_ble_eq_true rfl) hlocks (fun t _ h1 h2 => ⟨Or.inr ⟨j, hj, rfl, hw, Or.inr ⟨rfl, (fun _ => hfa), hn50⟩⟩, h1, h2⟩) (fun _ h => by cases h) (by omega) (by omega)
      · have hfa : F (cl (nI na)) = false := by rw [cl_nI (by omega)]; exact bI_eq.mp c3
        rw [hQ]
        exact px_thr (cls := "java/lang/UnsupportedOperationException") (ik := 40) (ic := 42) hx hb hl9 hown (by decide +kernel) htA hKN wd158 wd33 tw42a tw42b tw42c hZ va_S.rf (by rw [hml]; exact hl.1) dV_policy_44 dV_policy_47 dV_policy_48 dV_policy_51 htab (by rw [hR]; exact Nat.lt_of_lt_of_le (by decide) (Nat.le_refl _)) (by rw [hR]; exact Nat.le_of_ble_eq_true rfl) (by rw [hR]; exact Nat.le_of_ble_eq_true rfl) (by rw [hR]; exact Nat.le_of_ble_eq_true rfl) hlocks (fun t _ h1 h2 => ⟨Or.inr ⟨j, hj, rfl, hw, Or.inl ⟨rfl, (show 7 ≤ j by omega), hfa⟩⟩, h1, h2⟩) (fun _ h => by cases h) (by omega) (by omega)
    · have hj7 : ¬ j = 7 := fun q => c2 (by rw [q])
      refine lv_iload_n hx hb dV_policy_26 rfl (lv_at hl 1 rfl) ?_
      refine lv_bipush (v := nI 8) hx hb dV_policy_27 (by decide) ?_
      refine lv_icmp_ne (tgt := 52) hx hb dV_policy_29 (by decide) (fun c4 => ?_) (fun c4 => ?_)
      · have hj8 : ¬ j = 8 := fun q => c4 (by rw [q])
        refine lv_aload_n hx hb dV_policy_52 rfl (lv_at hl 0 rfl) ?_
        refine va_get (D := G) (ci := 3) (v := .int (nI n)) (C := RV) (T := TV) (N := 4) hx hb htA inV hown hK (ob_P p1) 0 rfl rfl 2 (by decide) (htA _ wd65) (fun _ h9 => h9) rfl dV_policy_53 ?_
        refine lv_bipush (v := nI 50) hx hb dV_policy_56 (by decide) ?_
        refine lv_icmp_lt (tgt := 69) hx hb dV_policy_58 (by decide) (fun c5 => ?_) (fun c5 => ?_)
        · have hn5 : n < 50 := (nI_ltI (by omega) (by decide)).mp c5
          refine pn_o (ci := 0) (C := RP) (T := TP) (N := 3) (fs := [.int 0, .null, .null]) hx hb htA inP tyP tyP_ok hown (htA _ wd47) (htA _ wd188) (htA _ wd35) hK rfl (fun j hj => by rcases (show j = 0 ∨ j = 1 ∨ j = 2 by omega) with rfl | rfl | rfl <;> rfl) (by rw [hR]; exact Nat.le_of_ble_eq_true rfl) (by rw [hR]; exact Nat.le_of_ble_eq_true rfl) dV_policy_69 (fun H1 p0 ep0 hp0 hz1 hk1 => ?_)
          have hlt := pvS_lt hS0
          have hS1 := pvS_up hS0 hk1
          have q1 := hS1.1
          refine lv_dup hx hb dV_policy_72 rfl ?_
          refine lv_aload_n hx hb dV_policy_73 rfl (lv_at hl 0 rfl) ?_
          refine lv_iload_n hx hb dV_policy_74 rfl (lv_at hl 1 rfl) ?_
          refine lv_iload_n hx hb dV_policy_75 rfl (lv_at hl 2 rfl) ?_
          refine lv_iload_n hx hb dV_policy_76 rfl (lv_at hl 3 rfl) ?_
          refine lv_iload hx hb dV_policy_77 (lv_at hl 4 rfl) ?_
          refine vp_callSi (va_Run.run (va_runV (As := [.int (nI j), .int a, .int b, .int c0]) (rest := [.ref p0, .ref p0]) ⟨hx, hb, hml, hown, htA⟩ (c_isFilter l G cA x pa rs lo hi n F O po oc tb tc j hj a b c0 hw) (cwV 4 htA (gd_V wd189 wd191 wd3 wd26 wd192) rfl rfl rfl (by decide +kernel) (by rw [hR]; exact ⟨Nat.le_of_ble_eq_true rfl, Nat.le_of_ble_eq_true rfl⟩)) (pw_V (ci := 3) (q := (RV, TV, 4)) hKN q1 rfl hS1) rfl rfl hl.1 rfl (lv_room (Nat.le_of_ble_eq_true rfl)) dV_policy_79 (by rw [hR]; exact ⟨Nat.le_of_ble_eq_true rfl, Nat.le_of_ble_eq_true rfl⟩))) (fun r2 hr2 => ?_)
          subst hr2
          have hEp : ∀ q, s.heap.size ≤ q → ¬ E q := fun q h9 h8 => absurd (hElt q h8) (Nat.not_lt.mpr h9)
          refine pw_call (F := fun q => ¬ E q) (va_runI (As := [.int (bI (polB j (cl a) (cl b) (cl c0) F))]) (rest := [.ref p0]) ⟨hx, hb, hml, hown, htA⟩ (c_Pinit l G cA p0 (polB j (cl a) (cl b) (cl c0) F)) (cwI 1 htA (gd_m wd195) rfl rfl rfl (htA _ wd35) (htA _ wd193) (htA _ wd194) rfl (by decide +kernel) (by rw [hR]; exact ⟨Nat.le_of_ble_eq_true rfl, Nat.le_of_ble_eq_true rfl⟩)) (pw_S hKN hp0) rfl rfl hl.1 rfl (lv_room (Nat.le_of_ble_eq_true rfl)) dV_policy_82 (by rw [hR]; exact ⟨Nat.le_of_ble_eq_true rfl, Nat.le_of_ble_eq_true rfl⟩)) hL (fun q h9 => by subst h9; exact hEp _ (by omega)) (fun v9 st9 t9 lc9 h0 ha9 hL hq9 => ?_)
          obtain ⟨hv9, hz2, hk2, o0, ho0, hp0, hoc⟩ := hq9
          cases hv9
          rw [h0] at hz2 hk2 ho0
          generalize t9.heap = H2 at hz2 hk2 hp0 hoc ⊢
          have hF2 : ∀ q, q < s.heap.size → H2[q]? = s.heap[q]? := fun q h9 => (hk2 q (by omega) (by omega)).trans (hk1 q h9)
          have hS2 := pvS_up hS0 hF2
          have q2 := hS2.1
          refine lv_astore (lv' := [(5, .ref p0), (0, .ref x), (1, .int (nI j)), (2, .int a), (3, .int b), (4, .int c0)]) hx hb dV_policy_85 hl (by decide) rfl (fun ls hl => ?_)
          refine lv_aload_n hx hb dV_policy_87 rfl (lv_at hl 1 rfl) ?_
          refine lv_aload hx hb dV_policy_88 (lv_at hl 0 rfl) ?_
          refine va_get (D := G) (ci := 0) (v := .ref o0) (C := RP) (T := TP) (N := 3) hx hb htA inP hown hK (ob_P hp0) 0 rfl rfl 1 (by decide) (htA _ wd200) (fun _ h9 => h9) rfl dV_policy_90 ?_
          refine lv_iload_n hx hb dV_policy_93 rfl (lv_at hl 2 rfl) ?_
          refine lv_iload_n hx hb dV_policy_94 rfl (lv_at hl 3 rfl) ?_
          refine lv_iload_n hx hb dV_policy_95 rfl (lv_at hl 4 rfl) ?_
          refine lv_iload hx hb dV_policy_96 (lv_at hl 5 rfl) ?_
          refine pw_call (F := fun q => ¬ E q) (va_runV (As := [.ref o0, .int (nI j), .int a, .int b, .int c0]) (rest := []) ⟨hx, hb, hml, hown, htA⟩ (c_fillOutcomes l G cA x pa rs lo hi n F O po oc tb tc o0 (fun _ => 0) j hj a b c0 hw) (cwV 5 htA (gd_V wd210 wd212 wd4 wd26 wd213) rfl rfl rfl (by decide +kernel) (by rw [hR]; exact ⟨Nat.le_of_ble_eq_true rfl, Nat.le_of_ble_eq_true rfl⟩)) (pw_V (ci := 3) (q := (RV, TV, 4)) hKN q2 rfl ⟨hS2, hoc, pvN_w hlt (fun q h9 => by subst h9; omega)⟩) rfl rfl hl.1 rfl (lv_room (Nat.le_of_ble_eq_true rfl)) dV_policy_98 (by rw [hR]; exact ⟨Nat.le_of_ble_eq_true rfl, Nat.le_of_ble_eq_true rfl⟩)) hL (fun q h9 => by subst h9; exact hEp _ (by omega)) (fun v9 st9 t9 lcA h0 ha9 hL hq9 => ?_)
          obtain ⟨hv9, ⟨g, hoc, hg⟩, hz3, hk3⟩ := hq9
          cases hv9
          rw [h0] at hz3 hk3
          generalize t9.heap = H3 at hz3 hk3 hoc ⊢
          have hF3 : ∀ q, q < s.heap.size → H3[q]? = s.heap[q]? := fun q h9 => (hk3 q (by omega)).trans (hF2 q h9)
          have hS3 := pvS_up hS0 hF3
          have q3 := hS3.1
          have hp0 := ob_k hp0 (hk3 p0 (by omega))
          refine lv_aload_n hx hb dV_policy_101 rfl (lv_at hl 1 rfl) ?_
          refine lv_aload hx hb dV_policy_102 (lv_at hl 0 rfl) ?_
          refine pw_call (F := fun q => ¬ E q) (va_runV (As := [.ref p0]) (rest := []) ⟨hx, hb, hml, hown, htA⟩ (c_keep l G cA x pa rs lo hi n F O po oc tb tc p0 o0 g (polB j (cl a) (cl b) (cl c0) F) hn5) (cwV 1 htA (gd_V wd246 wd248 wd7 wd26 wd249) rfl rfl rfl (by decide +kernel) (by rw [hR]; exact ⟨Nat.le_of_ble_eq_true rfl, Nat.le_of_ble_eq_true rfl⟩)) (pw_V (ci := 3) (q := (RV, TV, 4)) hKN q3 rfl ⟨hS3, hp0, hoc⟩) rfl rfl hl.1 rfl (lv_room (Nat.le_of_ble_eq_true rfl)) dV_policy_104 (by rw [hR]; exact ⟨Nat.le_of_ble_eq_true rfl, Nat.le_of_ble_eq_true rfl⟩)) hL (fun q h9 => h9.elim (fun e9 => by subst e9; exact hNE.1) (fun e9 => by subst e9; exact hNE.2.1)) (fun v9 st9 t9 lcB h0 ha9 hL hq9 => ?_)
          obtain ⟨hv9, hx4, hp4, hz4, hk4⟩ := hq9
          cases hv9
          rw [h0] at hz4 hk4
          generalize t9.heap = H4 at hz4 hk4 hx4 hp4 ⊢
          have hfin := pvS_push hKN.dis hS3 hn5 hp0 hoc (fun i h9 => by have := ob_lt (p6 i h9); omega) (by obtain ⟨f9, h9⟩ := p4; have := al_lt h9; omega) (by obtain ⟨f9, h9⟩ := p5; have := al_lt h9; omega) hx4 hp4 hk4
          have hNF : pvN E x pa rs lo hi (n + 1) (fun i => if i = n then p0 else po i) (fun i => if i = n then o0 else oc i) (fun i => if i = n then none else tb i) tc := pvN_push hNE (hEp _ (by omega)) (hEp _ (by omega))
          have hFF : ∀ q, q < s.heap.size → ¬ ¬ E q → H4[q]? = s.heap[q]? := fun q h9 h8 => (hk4 q (fun e9 => h8 (by rw [e9]; exact hNE.1)) (fun e9 => h8 (by rw [e9]; exact hNE.2.1))).trans (hF3 q h9)
          rw [hQ]
          refine vx_ret ?_
          refine W.widen (k := 2) (n := 67) (by omega) (by omega) ?_
          exact W.iret (v := nI n) hx hb hrt (fun t ht hW => ⟨j, g, hj, rfl, hw, (fun q9 => absurd q9 (by omega)), hn5, rfl, hg, ⟨pa, rs, lo, hi, _, _, _, _, by rw [ht]; exact hfin, hNF⟩, ⟨by rw [ht]; omega, by rw [ht]; exact hFF⟩⟩) hL dV_policy_107
        · have hn50 : n = 50 := by have : ¬ n < 50 := fun q => c5 ((nI_ltI (by omega) (by decide)).mpr q); omega
          rw [hQ]
          exact px_thr (cls := "java/lang/IllegalStateException") (ik := 43) (ic := 45) hx hb hl9 hown (by decide +kernel) htA hKN wd173 wd34 tw45a tw45b tw45c hZ va_S.rf (by rw [hml]; exact hl.1) dV_policy_61 dV_policy_64 dV_policy_65 dV_policy_68 htab (by rw [hR]; exact Nat.lt_of_lt_of_le (by decide) (Nat.le_refl _)) (by rw [hR]; exact Nat.le_of_ble_eq_true rfl) (by rw [hR]; exact Nat.le_of_ble_eq_true rfl) (by rw [hR]; exact Nat.le_of_ble_eq_true rfl) hlocks (fun t _ h1 h2 => ⟨Or.inr ⟨j, hj, rfl, hw, Or.inr ⟨rfl, (fun q9 => absurd q9 (by omega)), hn50⟩⟩, h1, h2⟩) (fun _ h => by cases h) (by omega) (by omega)
      · have hj8 : j = 8 := (nI_eq (by omega) (by decide)).mp c4
        obtain ⟨na, ha1, rfl⟩ := inb_t (by omega) (wfN_7 (show 7 ≤ j by omega) hw)
        refine lv_aload_n hx hb dV_policy_32 rfl (lv_at hl 0 rfl) ?_
        refine va_get (D := G) (ci := 3) (v := .ref pa) (C := RV) (T := TV) (N := 4) hx hb htA inV hown hK (ob_P p1) 0 rfl rfl 0 (by decide) (htA _ wd63) (fun _ h9 => h9) rfl dV_policy_33 ?_
        refine lv_iload_n hx hb dV_policy_36 rfl (lv_at hl 2 rfl) ?_
        refine pw_aald hx hb hK p2 2 rfl (by omega) (by decide) dV_policy_37 ?_
        refine pw_tq (a := po na) (by show (if na < n then some (po na) else none) = some (po na); rw [if_pos ha1]) ?_
        refine va_get (D := G) (ci := 0) (v := .int (bI (F na))) (C := RP) (T := TP) (N := 3) hx hb htA inP hown hK (ob_P (p6 na ha1)) 0 rfl rfl 0 (by decide) (htA _ wd198) (fun _ h9 => h9) rfl dV_policy_38 ?_
        refine lv_if_ne (tgt := 52) hx hb dV_policy_41 (by decide) (fun c3 => ?_) (fun c3 => ?_)
        · have hfa : F (cl (nI na)) = true := by rw [cl_nI (by omega)]; exact bI_ne.mp c3
          refine lv_aload_n hx hb dV_policy_52 rfl (lv_at hl 0 rfl) ?_
          refine va_get (D := G) (ci := 3) (v := .int (nI n)) (C := RV) (T := TV) (N := 4) hx hb htA inV hown hK (ob_P p1) 0 rfl rfl 2 (by decide) (htA _ wd65) (fun _ h9 => h9) rfl dV_policy_53 ?_
          refine lv_bipush (v := nI 50) hx hb dV_policy_56 (by decide) ?_
          refine lv_icmp_lt (tgt := 69) hx hb dV_policy_58 (by decide) (fun c5 => ?_) (fun c5 => ?_)
          · have hn5 : n < 50 := (nI_ltI (by omega) (by decide)).mp c5
            refine pn_o (ci := 0) (C := RP) (T := TP) (N := 3) (fs := [.int 0, .null, .null]) hx hb htA inP tyP tyP_ok hown (htA _ wd47) (htA _ wd188) (htA _ wd35) hK rfl (fun j hj => by rcases (show j = 0 ∨ j = 1 ∨ j = 2 by omega) with rfl | rfl | rfl <;> rfl) (by rw [hR]; exact Nat.le_of_ble_eq_true rfl) (by rw [hR]; exact Nat.le_of_ble_eq_true rfl) dV_policy_69 (fun H1 p0 ep0 hp0 hz1 hk1 => ?_)
            have hlt := pvS_lt hS0
            have hS1 := pvS_up hS0 hk1
            have q1 := hS1.1
            refine lv_dup hx hb dV_policy_72 rfl ?_
            refine lv_aload_n hx hb dV_policy_73 rfl (lv_at hl 0 rfl) ?_
            refine lv_iload_n hx hb dV_policy_74 rfl (lv_at hl 1 rfl) ?_
            refine lv_iload_n hx hb dV_policy_75 rfl (lv_at hl 2 rfl) ?_
            refine lv_iload_n hx hb dV_policy_76 rfl (lv_at hl 3 rfl) ?_
            refine lv_iload hx hb dV_policy_77 (lv_at hl 4 rfl) ?_
            refine vp_callSi (va_Run.run (va_runV (As := [.int (nI j), .int (nI na), .int b, .int c0]) (rest := [.ref p0, .ref p0]) ⟨hx, hb, hml, hown, htA⟩ (c_isFilter l G cA x pa rs lo hi n F O po oc tb tc j hj (nI na) b c0 hw) (cwV 4 htA (gd_V wd189 wd191 wd3 wd26 wd192) rfl rfl rfl (by decide +kernel) (by rw [hR]; exact ⟨Nat.le_of_ble_eq_true rfl, Nat.le_of_ble_eq_true rfl⟩)) (pw_V (ci := 3) (q := (RV, TV, 4)) hKN q1 rfl hS1) rfl rfl hl.1 rfl (lv_room (Nat.le_of_ble_eq_true rfl)) dV_policy_79 (by rw [hR]; exact ⟨Nat.le_of_ble_eq_true rfl, Nat.le_of_ble_eq_true rfl⟩))) (fun r2 hr2 => ?_)
            subst hr2
            have hEp : ∀ q, s.heap.size ≤ q → ¬ E q := fun q h9 h8 => absurd (hElt q h8) (Nat.not_lt.mpr h9)
            refine pw_call (F := fun q => ¬ E q) (va_runI (As := [.int (bI (polB j (cl (nI na)) (cl b) (cl c0) F))]) (rest := [.ref p0]) ⟨hx, hb, hml, hown, htA⟩ (c_Pinit l G cA p0 (polB j (cl (nI na)) (cl b) (cl c0) F)) (cwI 1 htA (gd_m wd195) rfl rfl rfl (htA _ wd35) (htA _ wd193) (htA _ wd194) rfl (by decide +kernel) (by rw [hR]; exact ⟨Nat.le_of_ble_eq_true rfl, Nat.le_of_ble_eq_true rfl⟩)) (pw_S hKN hp0) rfl rfl hl.1 rfl (lv_room (Nat.le_of_ble_eq_true rfl)) dV_policy_82 (by rw [hR]; exact ⟨Nat.le_of_ble_eq_true rfl, Nat.le_of_ble_eq_true rfl⟩)) hL (fun q h9 => by subst h9; exact hEp _ (by omega)) (fun v9 st9 t9 lc9 h0 ha9 hL hq9 => ?_)
            obtain ⟨hv9, hz2, hk2, o0, ho0, hp0, hoc⟩ := hq9
            cases hv9
            rw [h0] at hz2 hk2 ho0
            generalize t9.heap = H2 at hz2 hk2 hp0 hoc ⊢
            have hF2 : ∀ q, q < s.heap.size → H2[q]? = s.heap[q]? := fun q h9 => (hk2 q (by omega) (by omega)).trans (hk1 q h9)
            have hS2 := pvS_up hS0 hF2
            have q2 := hS2.1
            refine lv_astore (lv' := [(5, .ref p0), (0, .ref x), (1, .int (nI j)), (2, .int (nI na)), (3, .int b), (4, .int c0)]) hx hb dV_policy_85 hl (by decide) rfl (fun ls hl => ?_)
            refine lv_aload_n hx hb dV_policy_87 rfl (lv_at hl 1 rfl) ?_
            refine lv_aload hx hb dV_policy_88 (lv_at hl 0 rfl) ?_
            refine va_get (D := G) (ci := 0) (v := .ref o0) (C := RP) (T := TP) (N := 3) hx hb htA inP hown hK (ob_P hp0) 0 rfl rfl 1 (by decide) (htA _ wd200) (fun _ h9 => h9) rfl dV_policy_90 ?_
            refine lv_iload_n hx hb dV_policy_93 rfl (lv_at hl 2 rfl) ?_
            refine lv_iload_n hx hb dV_policy_94 rfl (lv_at hl 3 rfl) ?_
            refine lv_iload_n hx hb dV_policy_95 rfl (lv_at hl 4 rfl) ?_
            refine lv_iload hx hb dV_policy_96 (lv_at hl 5 rfl) ?_
            refine pw_call (F := fun q => ¬ E q) (va_runV (As := [.ref o0, .int (nI j), .int (nI na), .int b, .int c0]) (rest := []) ⟨hx, hb, hml, hown, htA⟩ (c_fillOutcomes l G cA x pa rs lo hi n F O po oc tb tc o0 (fun _ => 0) j hj (nI na) b c0 hw) (cwV 5 htA (gd_V wd210 wd212 wd4 wd26 wd213) rfl rfl rfl (by decide +kernel) (by rw [hR]; exact ⟨Nat.le_of_ble_eq_true rfl, Nat.le_of_ble_eq_true rfl⟩)) (pw_V (ci := 3) (q := (RV, TV, 4)) hKN q2 rfl ⟨hS2, hoc, pvN_w hlt (fun q h9 => by subst h9; omega)⟩) rfl rfl hl.1 rfl (lv_room (Nat.le_of_ble_eq_true rfl)) dV_policy_98 (by rw [hR]; exact ⟨Nat.le_of_ble_eq_true rfl, Nat.le_of_ble_eq_true rfl⟩)) hL (fun q h9 => by subst h9; exact hEp _ (by omega)) (fun v9 st9 t9 lcA h0 ha9 hL hq9 => ?_)
            obtain ⟨hv9, ⟨g, hoc, hg⟩, hz3, hk3⟩ := hq9
            cases hv9
            rw [h0] at hz3 hk3
            generalize t9.heap = H3 at hz3 hk3 hoc ⊢
            have hF3 : ∀ q, q < s.heap.size → H3[q]? = s.heap[q]? := fun q h9 => (hk3 q (by omega)).trans (hF2 q h9)
            have hS3 := pvS_up hS0 hF3
            have q3 := hS3.1
            have hp0 := ob_k hp0 (hk3 p0 (by omega))
            refine lv_aload_n hx hb dV_policy_101 rfl (lv_at hl 1 rfl) ?_
            refine lv_aload hx hb dV_policy_102 (lv_at hl 0 rfl) ?_
            refine pw_call (F := fun q => ¬ E q) (va_runV (As := [.ref p0]) (rest := []) ⟨hx, hb, hml, hown, htA⟩ (c_keep l G cA x pa rs lo hi n F O po oc tb tc p0 o0 g (polB j (cl (nI na)) (cl b) (cl c0) F) hn5) (cwV 1 htA (gd_V wd246 wd248 wd7 wd26 wd249) rfl rfl rfl (by decide +kernel) (by rw [hR]; exact ⟨Nat.le_of_ble_eq_true rfl, Nat.le_of_ble_eq_true rfl⟩)) (pw_V (ci := 3) (q := (RV, TV, 4)) hKN q3 rfl ⟨hS3, hp0, hoc⟩) rfl rfl hl.1 rfl (lv_room (Nat.le_of_ble_eq_true rfl)) dV_policy_104 (by rw [hR]; exact ⟨Nat.le_of_ble_eq_true rfl, Nat.le_of_ble_eq_true rfl⟩)) hL (fun q h9 => h9.elim (fun e9 => by subst e9; exact hNE.1) (fun e9 => by subst e9; exact hNE.2.1)) (fun v9 st9 t9 lcB h0 ha9 hL hq9 => ?_)
            obtain ⟨hv9, hx4, hp4, hz4, hk4⟩ := hq9
            cases hv9
            rw [h0] at hz4 hk4
            generalize t9.heap = H4 at hz4 hk4 hx4 hp4 ⊢
            have hfin := pvS_push hKN.dis hS3 hn5 hp0 hoc (fun i h9 => by have := ob_lt (p6 i h9); omega) (by obtain ⟨f9, h9⟩ := p4; have := al_lt h9; omega) (by obtain ⟨f9, h9⟩ := p5; have := al_lt h9; omega) hx4 hp4 hk4
            have hNF : pvN E x pa rs lo hi (n + 1) (fun i => if i = n then p0 else po i) (fun i => if i = n then o0 else oc i) (fun i => if i = n then none else tb i) tc := pvN_push hNE (hEp _ (by omega)) (hEp _ (by omega))
            have hFF : ∀ q, q < s.heap.size → ¬ ¬ E q → H4[q]? = s.heap[q]? := fun q h9 h8 => (hk4 q (fun e9 => h8 (by rw [e9]; exact hNE.1)) (fun e9 => h8 (by rw [e9]; exact hNE.2.1))).trans (hF3 q h9)
            rw [hQ]
            refine vx_ret ?_
            refine W.widen (k := 2) (n := 67) (by omega) (by omega) ?_
            exact W.iret (v := nI n) hx hb hrt (fun t ht hW => ⟨j, g, hj, rfl, hw, (fun _ => hfa), hn5, rfl, hg, ⟨pa, rs, lo, hi, _, _, _, _, by rw [ht]; exact hfin, hNF⟩, ⟨by rw [ht]; omega, by rw [ht]; exact hFF⟩⟩) hL dV_policy_107
          · have hn50 : n = 50 := by have : ¬ n < 50 := fun q => c5 ((nI_ltI (by omega) (by decide)).mpr q); omega
            rw [hQ]
            exact px_thr (cls := "java/lang/IllegalStateException") (ik := 43) (ic := 45) hx hb hl9 hown (by decide +kernel) htA hKN wd173 wd34 tw45a tw45b tw45c hZ va_S.rf (by rw [hml]; exact hl.1) dV_policy_61 dV_policy_64 dV_policy_65 dV_policy_68 htab (by rw [hR]; exact Nat.lt_of_lt_of_le (by decide) (Nat.le_refl _)) (by rw [hR]; exact Nat.le_of_ble_eq_true rfl) (by rw [hR]; exact Nat.le_of_ble_eq_true rfl) (by rw [hR]; exact Nat.le_of_ble_eq_true rfl) hlocks (fun t _ h1 h2 => ⟨Or.inr ⟨j, hj, rfl, hw, Or.inr ⟨rfl, (fun _ => hfa), hn50⟩⟩, h1, h2⟩) (fun _ h => by cases h) (by omega) (by omega)
        · have hfa : F (cl (nI na)) = false := by rw [cl_nI (by omega)]; exact bI_eq.mp c3
          rw [hQ]
          exact px_thr (cls := "java/lang/UnsupportedOperationException") (ik := 40) (ic := 42) hx hb hl9 hown (by decide +kernel) htA hKN wd158 wd33 tw42a tw42b tw42c hZ va_S.rf (by rw [hml]; exact hl.1) dV_policy_44 dV_policy_47 dV_policy_48 dV_policy_51 htab (by rw [hR]; exact Nat.lt_of_lt_of_le (by decide) (Nat.le_refl _)) (by rw [hR]; exact Nat.le_of_ble_eq_true rfl) (by rw [hR]; exact Nat.le_of_ble_eq_true rfl) (by rw [hR]; exact Nat.le_of_ble_eq_true rfl) hlocks (fun t _ h1 h2 => ⟨Or.inr ⟨j, hj, rfl, hw, Or.inl ⟨rfl, (show 7 ≤ j by omega), hfa⟩⟩, h1, h2⟩) (fun _ h => by cases h) (by omega) (by omega)
  · have hq := bI_eq.mp c1
    rw [hQ]
    exact px_thr (cls := "java/lang/IllegalArgumentException") (ik := 33) (ic := 35) hx hb hl9 hown (by decide +kernel) htA hKN wd94 wd32 tw35a tw35b tw35c hZ va_S.rf (by rw [hml]; exact hl.1) dV_policy_12 dV_policy_15 dV_policy_16 dV_policy_19 htab (by rw [hR]; exact Nat.lt_of_lt_of_le (by decide) (Nat.le_refl _)) (by rw [hR]; exact Nat.le_of_ble_eq_true rfl) (by rw [hR]; exact Nat.le_of_ble_eq_true rfl) (by rw [hR]; exact Nat.le_of_ble_eq_true rfl) hlocks (fun t _ h1 h2 => ⟨Or.inl ⟨rfl, hq⟩, h1, h2⟩) (fun _ h => by cases h) (by omega) (by omega)
