set_option maxRecDepth 100000 in
set_option maxHeartbeats 4000000 in
theorem m_policy (l : Launch) (G : va_G) (cA : Nat → ClassId) (mo ao af sa ea n : Nat) (fo : Nat → Int64) (fb : Nat → Int32) (F : Nat → Bool) (k0 a b c0 : Int32) (hF : ∀ i, i < n → fb i = bI (F i)) : Met l yM_policy wsM_policy ({ frames := 3, cells := 0, slots := 0, locals := 78 }) (PH G cA [.ref mo, .int k0, .int a, .int b, .int c0] (fun H => (mA mo ao af sa ea ∧ n ≤ 50 ∧ ∃ th, mV G cA mo ao af sa ea n fo fb th H))) (mP G cA mo ao af sa ea (fun r th n' fo' fb' => (wf n k0 a b c0 = false ∧ th = nI 1 ∧ n' = n ∧ fo' = fo ∧ fb' = fb) ∨ (∃ j, j < 9 ∧ k0 = nI j ∧ wfN n j a b c0 = true ∧ ((7 ≤ j ∧ F (cl a) = false ∧ th = nI 2 ∧ n' = n ∧ fo' = fo ∧ fb' = fb) ∨ ((7 ≤ j → F (cl a) = true) ∧ n = 50 ∧ th = nI 3 ∧ n' = n ∧ fo' = fo ∧ fb' = fb) ∨ ((7 ≤ j → F (cl a) = true) ∧ n < 50 ∧ th = nI 0 ∧ r = nI n ∧ n' = n + 1 ∧ (∀ i, i < 64 * n → fo' i = fo i) ∧ (∀ k, k < 64 → fo' (64 * n + k) = polF j (cl a) (cl b) (cl c0) (fun i k => fo (64 * i + k))  k) ∧ (∀ i, i < n → fb' i = fb i) ∧ fb' n = bI (polB j (cl a) (cl b) (cl c0) F)))))) 0 0 (mY mo ao af sa ea) := by
  refine Met.ofW (cc := cM_policy) (maxL := 6) (ret := (some .int)) (by decide) rfl ?_
  intro p e s m args below meth c s₁ B hml hv
  obtain ⟨hav, hKN, hA, hn, th0, lw, hg, fS, fE, hob, hal, hab, hsl, hel⟩ := hv
  have hK := hKN.1
  have hx := B.exec
  have hb := B.bytes
  have hrt := B.returns
  have htA : ∀ w ∈ ALL, w.before args s = true := fun w h => atoms_spec (ws := wsM_policy) B.pre w (List.mem_cons_of_mem _ h)
  have hown : s.vm.findClass RM = some m.cls := findClass_of_methodNamed B.named
  have hlocks := B.notSynchronized
  refine pw_nm (fun R Q hR hQ => ?_)
  refine pw_entry (vs := [.ref mo, .int k0, .int a, .int b, .int c0]) hav (Nat.le_of_ble_eq_true rfl) (fun ls hl => ?_)
  have hl : lv_has ls 6 [(0, .ref mo), (1, .int k0), (2, .int a), (3, .int b), (4, .int c0)] := hl
  have hz : s.heap.size = s.heap.size := rfl
  have hk : ∀ q, q ≠ mo → q ≠ ao → q ≠ af → q ≠ sa → q ≠ ea → s.heap[q]? = s.heap[q]? := fun _ _ _ _ _ _ => rfl
  have hL : ∀ z ∈ ([] : List Loc), mY mo ao af sa ea z.base := fun _ h => by cases h
  refine lv_aload_n hx hb dM_policy_0 rfl (lv_at hl 0 rfl) ?_
  refine lv_iconst (v := nI 0) hx hb dM_policy_1 (by decide) ?_
  refine pw_put (ci := 4) (C := RM) (T := TM) (N := 8) (ty := .int) (F := mY mo ao af sa ea) hx hb htA inM tyM tyM_ok nmM hown hK hob rfl 0 (by decide) (htA _ wd435) (fun _ h9 => h9) rfl (by decide +kernel) rfl rfl (Nat.le_of_ble_eq_true rfl) hL (Or.inl rfl) dM_policy_2 (fun H1 lc2 hob1 hz1 hk1 hL => ?_)
  have hob : ob G 4 mo (mF (nI 0) ao af n lw hg sa ea) H1 := hob1
  have hal := al_k hal (hk1 ao hA.1)
  have hab := ai_k hab (hk1 af hA.2.1)
  have hsl := ai_k hsl (hk1 sa hA.2.2.1)
  have hel := ai_k hel (hk1 ea hA.2.2.2.1)
  have hk : ∀ q, q ≠ mo → q ≠ ao → q ≠ af → q ≠ sa → q ≠ ea → H1[q]? = s.heap[q]? := fun q h1 h2 h3 h4 h5 => (hk1 q h1).trans (hk q h1 h2 h3 h4 h5)
  have hz := hz1.trans hz
  refine lv_aload_n hx hb dM_policy_5 rfl (lv_at hl 0 rfl) ?_
  refine lv_iload_n hx hb dM_policy_6 rfl (lv_at hl 1 rfl) ?_
  refine lv_iload_n hx hb dM_policy_7 rfl (lv_at hl 2 rfl) ?_
  refine lv_iload_n hx hb dM_policy_8 rfl (lv_at hl 3 rfl) ?_
  refine lv_iload hx hb dM_policy_9 (lv_at hl 4 rfl) ?_
  refine vp_callSi (va_Run.run (va_runV (As := [.int k0, .int a, .int b, .int c0]) (rest := []) ⟨hx, hb, hml, hown, htA⟩ (m_can l G cA mo n (mF (nI 0) ao af n lw hg sa ea) k0 a b c0 rfl (by omega)) (cwV 4 htA (gd_V wd469 wd471 wd14 wd28 wd472) rfl rfl rfl (by decide +kernel) (by rw [hR]; exact ⟨Nat.le_of_ble_eq_true rfl, Nat.le_of_ble_eq_true rfl⟩)) (pw_V (ci := 4) (q := (RM, TM, 8)) hKN hob rfl hob) rfl rfl hl.1 rfl (lv_room (Nat.le_of_ble_eq_true rfl)) dM_policy_11 (by rw [hR]; exact ⟨Nat.le_of_ble_eq_true rfl, Nat.le_of_ble_eq_true rfl⟩))) (fun r3 hr3 => ?_)
  subst hr3
  refine lv_if_ne (tgt := 23) hx hb dM_policy_14 (by decide) (fun c1 => ?_) (fun c1 => ?_)
  · obtain ⟨j, hj, rfl, hw⟩ := wf_t (bI_ne.mp c1)
    refine lv_iload_n hx hb dM_policy_23 rfl (lv_at hl 1 rfl) ?_
    refine lv_bipush (v := nI 6) hx hb dM_policy_24 (by decide) ?_
    refine lv_icmp_le (tgt := 44) hx hb dM_policy_26 (by decide) (fun c2 => ?_) (fun c2 => ?_)
    · have hj6 : j ≤ 6 := (nI_leI (by omega) (by decide)).mp c2
      refine lv_aload_n hx hb dM_policy_44 rfl (lv_at hl 0 rfl) ?_
      refine va_get (D := G) (ci := 4) (v := .int (nI n)) (C := RM) (T := TM) (N := 8) hx hb htA inM hown hK (ob_P hob) 0 rfl rfl 3 (by decide) (htA _ wd438) (fun _ h9 => h9) rfl dM_policy_45 ?_
      refine lv_bipush (v := nI 50) hx hb dM_policy_48 (by decide) ?_
      refine lv_icmp_ne (tgt := 59) hx hb dM_policy_50 (by decide) (fun c5 => ?_) (fun c5 => ?_)
      · have hn50 : n < 50 := by have : ¬ n = 50 := fun q => c5 (by rw [q]); omega
        refine lv_iconst (v := nI 0) hx hb dM_policy_59 (by decide) ?_
        refine lv_istore (lv' := [(5, .int (nI 0)), (0, .ref mo), (1, .int (nI j)), (2, .int a), (3, .int b), (4, .int c0)]) hx hb dM_policy_60 hl (by decide) rfl (fun ls hl => ?_)
        have lp : ∀ (k i : Nat) (g : Nat → Int64) (H8 : Heap) (lc8 : List Loc), i + k = 64 → (ob G 4 mo (mF (nI 0) ao af n lw hg sa ea) H8) → (al (cA 0) ao 3200 g H8) → (ai (cA 3) af 50 fb H8) → (ai (cA 1) sa 64 fS H8) → (ai (cA 1) ea 64 fE H8) → (H8.size = s.heap.size) → (∀ q, q ≠ mo → q ≠ ao → q ≠ af → q ≠ sa → q ≠ ea → H8[q]? = s.heap[q]?) → (∀ z ∈ lc8, mY mo ao af sa ea z.base) → (∀ i, i < 64 * n → g i = fo i) → (∀ k, k < i → g (64 * n + k) = polF j (cl a) (cl b) (cl c0) (fun i k => fo (64 * i + k))  k) → ∀ ls : Array Slot, lv_has ls 6 [(0, .ref mo), (1, .int (nI j)), (2, .int a), (3, .int b), (4, .int c0), (5, .int (nI i))] → W p l e R s m args below meth c H8 lc8 0 0 Q (F0 m 62 ls []) := by
          intro k
          induction k with
          | zero =>
            intro i g H8 lc8 hik hob hal hab hsl hel hz hk hL hg1 hg2 ls hl
            have hi : i = 64 := by omega
            subst hi
            refine lv_iload hx hb dM_policy_62 (lv_at hl 5 rfl) ?_
            refine lv_bipush (v := nI 64) hx hb dM_policy_64 (by decide) ?_
            refine lv_icmp_ge (tgt := 101) hx hb dM_policy_66 (by decide) (fun _ => ?_) (fun c9 => absurd (Int32.le_refl _) c9)
            refine lv_aload_n hx hb dM_policy_101 rfl (lv_at hl 0 rfl) ?_
            refine va_get (D := G) (ci := 4) (v := .ref af) (C := RM) (T := TM) (N := 8) hx hb htA inM hown hK (ob_P hob) 0 rfl rfl 2 (by decide) (htA _ wd437) (fun _ h9 => h9) rfl dM_policy_102 ?_
            refine lv_aload_n hx hb dM_policy_105 rfl (lv_at hl 0 rfl) ?_
            refine va_get (D := G) (ci := 4) (v := .int (nI n)) (C := RM) (T := TM) (N := 8) hx hb htA inM hown hK (ob_P hob) 0 rfl rfl 3 (by decide) (htA _ wd438) (fun _ h9 => h9) rfl dM_policy_106 ?_
            refine lv_aload_n hx hb dM_policy_109 rfl (lv_at hl 0 rfl) ?_
            refine lv_iload_n hx hb dM_policy_110 rfl (lv_at hl 1 rfl) ?_
            refine lv_iload_n hx hb dM_policy_111 rfl (lv_at hl 2 rfl) ?_
            refine lv_iload_n hx hb dM_policy_112 rfl (lv_at hl 3 rfl) ?_
            refine lv_iload hx hb dM_policy_113 (lv_at hl 4 rfl) ?_
            refine vp_callSi (va_Run.run (va_runV (As := [.int (nI j), .int a, .int b, .int c0]) (rest := [.int (nI n), .ref af]) ⟨hx, hb, hml, hown, htA⟩ (m_passes l G cA mo af n (mF (nI 0) ao af n lw hg sa ea) fb F j hj a b c0 rfl hn hw hF) (cwV 4 htA (gd_V wd502 wd504 wd20 wd28 wd505) rfl rfl rfl (by decide +kernel) (by rw [hR]; exact ⟨Nat.le_of_ble_eq_true rfl, Nat.le_of_ble_eq_true rfl⟩)) (pw_V (ci := 4) (q := (RM, TM, 8)) hKN hob rfl ⟨hob, hab⟩) rfl rfl hl.1 rfl (lv_room (Nat.le_of_ble_eq_true rfl)) dM_policy_115 (by rw [hR]; exact ⟨Nat.le_of_ble_eq_true rfl, Nat.le_of_ble_eq_true rfl⟩))) (fun r4 hr4 => ?_)
            subst hr4
            refine pw_zast (F := mY mo ao af sa ea) hx hb hK hab 3 rfl (show n < 50 from hn50) (by decide) (bI_nar _) hL (Or.inr (Or.inr (Or.inl rfl))) dM_policy_118 (fun H6 lc6 hab hz1 hk1 hL => ?_)
            have hob := ob_k hob (hk1 mo (Ne.symm hA.2.1))
            have hal := al_k hal (hk1 ao hA.2.2.2.2.2.2.2.2.2)
            have hsl := ai_k hsl (hk1 sa (Ne.symm hA.2.2.2.2.2.2.1))
            have hel := ai_k hel (hk1 ea (Ne.symm hA.2.2.2.2.2.2.2.1))
            have hk : ∀ q, q ≠ mo → q ≠ ao → q ≠ af → q ≠ sa → q ≠ ea → H6[q]? = s.heap[q]? := fun q h1 h2 h3 h4 h5 => (hk1 q h3).trans (hk q h1 h2 h3 h4 h5)
            have hz := hz1.trans hz
            refine lv_aload_n hx hb dM_policy_119 rfl (lv_at hl 0 rfl) ?_
            refine lv_dup hx hb dM_policy_120 rfl ?_
            refine va_get (D := G) (ci := 4) (v := .int (nI n)) (C := RM) (T := TM) (N := 8) hx hb htA inM hown hK (ob_P hob) 0 rfl rfl 3 (by decide) (htA _ wd438) (fun _ h9 => h9) rfl dM_policy_121 ?_
            refine lv_iconst (v := nI 1) hx hb dM_policy_124 (by decide) ?_
            refine lv_iadd hx hb dM_policy_125 ?_
            refine pw_ti (y := nI (n + 1)) (nI_add _ _) ?_
            refine pw_put (ci := 4) (C := RM) (T := TM) (N := 8) (ty := .int) (F := mY mo ao af sa ea) hx hb htA inM tyM tyM_ok nmM hown hK hob rfl 3 (by decide) (htA _ wd438) (fun _ h9 => h9) rfl (by decide +kernel) rfl rfl (Nat.le_of_ble_eq_true rfl) hL (Or.inl rfl) dM_policy_126 (fun H7 lc7 hob1 hz1 hk1 hL => ?_)
            have hob : ob G 4 mo (mF (nI 0) ao af (n + 1) lw hg sa ea) H7 := hob1
            have hal := al_k hal (hk1 ao hA.1)
            have hab := ai_k hab (hk1 af hA.2.1)
            have hsl := ai_k hsl (hk1 sa hA.2.2.1)
            have hel := ai_k hel (hk1 ea hA.2.2.2.1)
            have hk : ∀ q, q ≠ mo → q ≠ ao → q ≠ af → q ≠ sa → q ≠ ea → H7[q]? = s.heap[q]? := fun q h1 h2 h3 h4 h5 => (hk1 q h1).trans (hk q h1 h2 h3 h4 h5)
            have hz := hz1.trans hz
            refine lv_aload_n hx hb dM_policy_129 rfl (lv_at hl 0 rfl) ?_
            refine va_get (D := G) (ci := 4) (v := .int (nI (n + 1))) (C := RM) (T := TM) (N := 8) hx hb htA inM hown hK (ob_P hob) 0 rfl rfl 3 (by decide) (htA _ wd438) (fun _ h9 => h9) rfl dM_policy_130 ?_
            refine lv_iconst (v := nI 1) hx hb dM_policy_133 (by decide) ?_
            refine lv_isub hx hb dM_policy_134 ?_
            refine pw_ti (y := nI n) (by rw [pk_sub (by omega)]; rfl) ?_
            rw [hQ]
            exact W.iret (v := nI n) hx hb hrt (fun t ht hW => ⟨_, (nI 0), (n + 1), g, (upd fb n (bI (polB j (cl a) (cl b) (cl c0) F))), rfl, (Or.inr ⟨j, hj, rfl, hw, Or.inr (Or.inr ⟨(fun q => absurd q (by omega)), hn50, rfl, rfl, rfl, hg1, hg2, fun i hi => pk_un (by omega), pk_us⟩)⟩), ⟨lw, hg, fS, fE, by rw [ht]; exact ⟨hob, hal, hab, hsl, hel⟩⟩, by rw [ht]; exact hz, by rw [ht]; exact hk⟩) hL dM_policy_135
          | succ k ih =>
            intro i g H8 lc8 hik hob hal hab hsl hel hz hk hL hg1 hg2 ls hl
            have hi : i < 64 := by omega
            refine lv_iload hx hb dM_policy_62 (lv_at hl 5 rfl) ?_
            refine lv_bipush (v := nI 64) hx hb dM_policy_64 (by decide) ?_
            refine lv_icmp_ge (tgt := 101) hx hb dM_policy_66 (by decide) (fun c9 => absurd c9 (nI_ge hi (by decide))) (fun _ => ?_)
            refine lv_aload_n hx hb dM_policy_69 rfl (lv_at hl 0 rfl) ?_
            refine va_get (D := G) (ci := 4) (v := .ref ao) (C := RM) (T := TM) (N := 8) hx hb htA inM hown hK (ob_P hob) 0 rfl rfl 1 (by decide) (htA _ wd436) (fun _ h9 => h9) rfl dM_policy_70 ?_
            refine lv_bipush (v := nI 64) hx hb dM_policy_73 (by decide) ?_
            refine lv_aload_n hx hb dM_policy_75 rfl (lv_at hl 0 rfl) ?_
            refine va_get (D := G) (ci := 4) (v := .int (nI n)) (C := RM) (T := TM) (N := 8) hx hb htA inM hown hK (ob_P hob) 0 rfl rfl 3 (by decide) (htA _ wd438) (fun _ h9 => h9) rfl dM_policy_76 ?_
            refine lv_imul hx hb dM_policy_79 ?_
            refine pw_ti (y := nI (64 * n)) (pk_mul _ _) ?_
            refine lv_iload hx hb dM_policy_80 (lv_at hl 5 rfl) ?_
            refine lv_iadd hx hb dM_policy_82 ?_
            refine pw_ti (y := nI ((64 * n) + i)) (nI_add _ _) ?_
            refine lv_aload_n hx hb dM_policy_83 rfl (lv_at hl 0 rfl) ?_
            refine lv_iload_n hx hb dM_policy_84 rfl (lv_at hl 1 rfl) ?_
            refine lv_iload_n hx hb dM_policy_85 rfl (lv_at hl 2 rfl) ?_
            refine lv_iload_n hx hb dM_policy_86 rfl (lv_at hl 3 rfl) ?_
            refine lv_iload hx hb dM_policy_87 (lv_at hl 4 rfl) ?_
            refine lv_iload hx hb dM_policy_89 (lv_at hl 5 rfl) ?_
            refine vp_callSl (va_Run.run (va_runV (As := [.int (nI j), .int a, .int b, .int c0, .int (nI i)]) (rest := [.int (nI ((64 * n) + i)), .ref ao]) ⟨hx, hb, hml, hown, htA⟩ (m_worked l G cA mo ao n (mF (nI 0) ao af n lw hg sa ea) g j hj a b c0 i hi rfl hn hw) (cwV 5 htA (gd_V wd484 wd486 wd17 wd28 wd487) rfl rfl rfl (by decide +kernel) (by rw [hR]; exact ⟨Nat.le_of_ble_eq_true rfl, Nat.le_of_ble_eq_true rfl⟩)) (pw_V (ci := 4) (q := (RM, TM, 8)) hKN hob rfl ⟨hob, hal⟩) rfl rfl hl.1 rfl (lv_room (Nat.le_of_ble_eq_true rfl)) dM_policy_91 (by rw [hR]; exact ⟨Nat.le_of_ble_eq_true rfl, Nat.le_of_ble_eq_true rfl⟩))) (fun r4 hr4 => ?_)
            subst hr4
            refine pw_tl (y := polF j (cl a) (cl b) (cl c0) (fun i k => fo (64 * i + k))  i) (polF_ext hn hw (fun i9 hi9 k9 hk9 => hg1 _ (by omega)) hi) ?_
            refine pw_last (F := mY mo ao af sa ea) hx hb hK hal 0 rfl (show 64 * n + i < 3200 by omega) (by decide) hL (Or.inr (Or.inl rfl)) dM_policy_94 (fun H6 lc6 hal hz1 hk1 hL => ?_)
            have hob := ob_k hob (hk1 mo (Ne.symm hA.1))
            have hab := ai_k hab (hk1 af (Ne.symm hA.2.2.2.2.2.2.2.2.2))
            have hsl := ai_k hsl (hk1 sa (Ne.symm hA.2.2.2.2.1))
            have hel := ai_k hel (hk1 ea (Ne.symm hA.2.2.2.2.2.1))
            have hk : ∀ q, q ≠ mo → q ≠ ao → q ≠ af → q ≠ sa → q ≠ ea → H6[q]? = s.heap[q]? := fun q h1 h2 h3 h4 h5 => (hk1 q h2).trans (hk q h1 h2 h3 h4 h5)
            have hz := hz1.trans hz
            refine lv_iinc (v := nI (i + 1)) (lv' := [(5, .int (nI (i + 1))), (0, .ref mo), (1, .int (nI j)), (2, .int a), (3, .int b), (4, .int c0)]) hx hb dM_policy_95 hl (k := 5) rfl (nI_1 i) (by decide) rfl (fun ls hl => ?_)
            refine lv_goto (tgt := 62) hx hb dM_policy_98 (by decide) ?_
            exact ih (i + 1) (vp_updL g (64 * n + i) (polF j (cl a) (cl b) (cl c0) (fun i k => fo (64 * i + k))  i)) H6 lc6 (by omega) hob hal hab hsl hel hz hk hL (fun i9 hi9 => (pk_uLn (by omega)).trans (hg1 i9 hi9)) (fun k9 hk9 => by by_cases e9 : k9 = i; (subst e9; exact pk_uLs); exact (pk_uLn (by omega)).trans (hg2 k9 (by omega))) ls (lv_sub hl [1, 2, 3, 4, 5, 0] rfl)
        exact lp (64) 0 fo H1 lc2 (by omega) hob hal hab hsl hel hz hk hL (fun _ _ => rfl) (fun k9 h9 => absurd h9 (Nat.not_lt_zero k9)) ls (lv_sub hl [1, 2, 3, 4, 5, 0] rfl)
      · have hn50 : n = 50 := (nI_eq (by omega) (by decide)).mp c5
        refine lv_aload_n hx hb dM_policy_53 rfl (lv_at hl 0 rfl) ?_
        refine lv_iconst (v := nI 3) hx hb dM_policy_54 (by decide) ?_
        refine pw_call (F := mY mo ao af sa ea) (va_runV (As := [.int (nI 3)]) (rest := []) ⟨hx, hb, hml, hown, htA⟩ (m_raise l G cA mo (mF (nI 0) ao af n lw hg sa ea) (nI 3)) (cwV 1 htA (gd_V wd480 wd482 wd16 wd28 wd483) rfl rfl rfl (by decide +kernel) (by rw [hR]; exact ⟨Nat.le_of_ble_eq_true rfl, Nat.le_of_ble_eq_true rfl⟩)) (pw_V (ci := 4) (q := (RM, TM, 8)) hKN hob rfl ⟨hob, Nat.zero_lt_succ _⟩) rfl rfl hl.1 rfl (lv_room (Nat.le_of_ble_eq_true rfl)) dM_policy_55 (by rw [hR]; exact ⟨Nat.le_of_ble_eq_true rfl, Nat.le_of_ble_eq_true rfl⟩)) hL (fun q h => Or.inl h) (fun v9 st9 t9 lc5 h0 ha9 hL hq9 => ?_)
        obtain ⟨hv9, hob1, hz1, hk1⟩ := hq9
        cases hv9
        rw [h0] at hz1 hk1
        generalize t9.heap = H4 at hob1 hz1 hk1 ⊢
        have hob : ob G 4 mo (mF (nI 3) ao af n lw hg sa ea) H4 := hob1
        have hal := al_k hal (hk1 ao hA.1)
        have hab := ai_k hab (hk1 af hA.2.1)
        have hsl := ai_k hsl (hk1 sa hA.2.2.1)
        have hel := ai_k hel (hk1 ea hA.2.2.2.1)
        have hk : ∀ q, q ≠ mo → q ≠ ao → q ≠ af → q ≠ sa → q ≠ ea → H4[q]? = s.heap[q]? := fun q h1 h2 h3 h4 h5 => (hk1 q h1).trans (hk q h1 h2 h3 h4 h5)
        have hz := hz1.trans hz
        rw [hQ]
        exact W.iret (v := 0) hx hb hrt (fun t ht hW => ⟨_, (nI 3), n, fo, fb, rfl, (Or.inr ⟨j, hj, rfl, hw, Or.inr (Or.inl ⟨(fun q => absurd q (by omega)), hn50, rfl, rfl, rfl, rfl⟩)⟩), ⟨lw, hg, fS, fE, by rw [ht]; exact ⟨hob, hal, hab, hsl, hel⟩⟩, by rw [ht]; exact hz, by rw [ht]; exact hk⟩) hL dM_policy_58
    · have hj7 : 7 ≤ j := by have : ¬ j ≤ 6 := fun q => c2 ((nI_leI (by omega) (by decide)).mpr q); omega
      obtain ⟨na, hna, rfl⟩ := inb_t (by omega) (wfN_7 hj7 hw)
      refine lv_aload_n hx hb dM_policy_29 rfl (lv_at hl 0 rfl) ?_
      refine va_get (D := G) (ci := 4) (v := .ref af) (C := RM) (T := TM) (N := 8) hx hb htA inM hown hK (ob_P hob) 0 rfl rfl 2 (by decide) (htA _ wd437) (fun _ h9 => h9) rfl dM_policy_30 ?_
      refine lv_iload_n hx hb dM_policy_33 rfl (lv_at hl 2 rfl) ?_
      refine pw_zald hx hb hK hab 3 rfl (by omega) (by decide) dM_policy_34 ?_
      refine pw_ti (y := bI (F na)) (hF na hna) ?_
      refine lv_if_ne (tgt := 44) hx hb dM_policy_35 (by decide) (fun c3 => ?_) (fun c3 => ?_)
      · have hfa : F (cl (nI na)) = true := by rw [cl_nI (by omega)]; exact bI_ne.mp c3
        refine lv_aload_n hx hb dM_policy_44 rfl (lv_at hl 0 rfl) ?_
        refine va_get (D := G) (ci := 4) (v := .int (nI n)) (C := RM) (T := TM) (N := 8) hx hb htA inM hown hK (ob_P hob) 0 rfl rfl 3 (by decide) (htA _ wd438) (fun _ h9 => h9) rfl dM_policy_45 ?_
        refine lv_bipush (v := nI 50) hx hb dM_policy_48 (by decide) ?_
        refine lv_icmp_ne (tgt := 59) hx hb dM_policy_50 (by decide) (fun c5 => ?_) (fun c5 => ?_)
        · have hn50 : n < 50 := by have : ¬ n = 50 := fun q => c5 (by rw [q]); omega
          refine lv_iconst (v := nI 0) hx hb dM_policy_59 (by decide) ?_
          refine lv_istore (lv' := [(5, .int (nI 0)), (0, .ref mo), (1, .int (nI j)), (2, .int (nI na)), (3, .int b), (4, .int c0)]) hx hb dM_policy_60 hl (by decide) rfl (fun ls hl => ?_)
          have lp : ∀ (k i : Nat) (g : Nat → Int64) (H8 : Heap) (lc8 : List Loc), i + k = 64 → (ob G 4 mo (mF (nI 0) ao af n lw hg sa ea) H8) → (al (cA 0) ao 3200 g H8) → (ai (cA 3) af 50 fb H8) → (ai (cA 1) sa 64 fS H8) → (ai (cA 1) ea 64 fE H8) → (H8.size = s.heap.size) → (∀ q, q ≠ mo → q ≠ ao → q ≠ af → q ≠ sa → q ≠ ea → H8[q]? = s.heap[q]?) → (∀ z ∈ lc8, mY mo ao af sa ea z.base) → (∀ i, i < 64 * n → g i = fo i) → (∀ k, k < i → g (64 * n + k) = polF j (cl (nI na)) (cl b) (cl c0) (fun i k => fo (64 * i + k))  k) → ∀ ls : Array Slot, lv_has ls 6 [(0, .ref mo), (1, .int (nI j)), (2, .int (nI na)), (3, .int b), (4, .int c0), (5, .int (nI i))] → W p l e R s m args below meth c H8 lc8 0 0 Q (F0 m 62 ls []) := by
            intro k
            induction k with
            | zero =>
              intro i g H8 lc8 hik hob hal hab hsl hel hz hk hL hg1 hg2 ls hl
              have hi : i = 64 := by omega
              subst hi
              refine lv_iload hx hb dM_policy_62 (lv_at hl 5 rfl) ?_
              refine lv_bipush (v := nI 64) hx hb dM_policy_64 (by decide) ?_
              refine lv_icmp_ge (tgt := 101) hx hb dM_policy_66 (by decide) (fun _ => ?_) (fun c9 => absurd (Int32.le_refl _) c9)
              refine lv_aload_n hx hb dM_policy_101 rfl (lv_at hl 0 rfl) ?_
              refine va_get (D := G) (ci := 4) (v := .ref af) (C := RM) (T := TM) (N := 8) hx hb htA inM hown hK (ob_P hob) 0 rfl rfl 2 (by decide) (htA _ wd437) (fun _ h9 => h9) rfl dM_policy_102 ?_
              refine lv_aload_n hx hb dM_policy_105 rfl (lv_at hl 0 rfl) ?_
              refine va_get (D := G) (ci := 4) (v := .int (nI n)) (C := RM) (T := TM) (N := 8) hx hb htA inM hown hK (ob_P hob) 0 rfl rfl 3 (by decide) (htA _ wd438) (fun _ h9 => h9) rfl dM_policy_106 ?_
              refine lv_aload_n hx hb dM_policy_109 rfl (lv_at hl 0 rfl) ?_
              refine lv_iload_n hx hb dM_policy_110 rfl (lv_at hl 1 rfl) ?_
              refine lv_iload_n hx hb dM_policy_111 rfl (lv_at hl 2 rfl) ?_
              refine lv_iload_n hx hb dM_policy_112 rfl (lv_at hl 3 rfl) ?_
              refine lv_iload hx hb dM_policy_113 (lv_at hl 4 rfl) ?_
              refine vp_callSi (va_Run.run (va_runV (As := [.int (nI j), .int (nI na), .int b, .int c0]) (rest := [.int (nI n), .ref af]) ⟨hx, hb, hml, hown, htA⟩ (m_passes l G cA mo af n (mF (nI 0) ao af n lw hg sa ea) fb F j hj (nI na) b c0 rfl hn hw hF) (cwV 4 htA (gd_V wd502 wd504 wd20 wd28 wd505) rfl rfl rfl (by decide +kernel) (by rw [hR]; exact ⟨Nat.le_of_ble_eq_true rfl, Nat.le_of_ble_eq_true rfl⟩)) (pw_V (ci := 4) (q := (RM, TM, 8)) hKN hob rfl ⟨hob, hab⟩) rfl rfl hl.1 rfl (lv_room (Nat.le_of_ble_eq_true rfl)) dM_policy_115 (by rw [hR]; exact ⟨Nat.le_of_ble_eq_true rfl, Nat.le_of_ble_eq_true rfl⟩))) (fun r4 hr4 => ?_)
              subst hr4
              refine pw_zast (F := mY mo ao af sa ea) hx hb hK hab 3 rfl (show n < 50 from hn50) (by decide) (bI_nar _) hL (Or.inr (Or.inr (Or.inl rfl))) dM_policy_118 (fun H6 lc6 hab hz1 hk1 hL => ?_)
              have hob := ob_k hob (hk1 mo (Ne.symm hA.2.1))
              have hal := al_k hal (hk1 ao hA.2.2.2.2.2.2.2.2.2)
              have hsl := ai_k hsl (hk1 sa (Ne.symm hA.2.2.2.2.2.2.1))
              have hel := ai_k hel (hk1 ea (Ne.symm hA.2.2.2.2.2.2.2.1))
              have hk : ∀ q, q ≠ mo → q ≠ ao → q ≠ af → q ≠ sa → q ≠ ea → H6[q]? = s.heap[q]? := fun q h1 h2 h3 h4 h5 => (hk1 q h3).trans (hk q h1 h2 h3 h4 h5)
              have hz := hz1.trans hz
              refine lv_aload_n hx hb dM_policy_119 rfl (lv_at hl 0 rfl) ?_
              refine lv_dup hx hb dM_policy_120 rfl ?_
              refine va_get (D := G) (ci := 4) (v := .int (nI n)) (C := RM) (T := TM) (N := 8) hx hb htA inM hown hK (ob_P hob) 0 rfl rfl 3 (by decide) (htA _ wd438) (fun _ h9 => h9) rfl dM_policy_121 ?_
              refine lv_iconst (v := nI 1) hx hb dM_policy_124 (by decide) ?_
              refine lv_iadd hx hb dM_policy_125 ?_
              refine pw_ti (y := nI (n + 1)) (nI_add _ _) ?_
              refine pw_put (ci := 4) (C := RM) (T := TM) (N := 8) (ty := .int) (F := mY mo ao af sa ea) hx hb htA inM tyM tyM_ok nmM hown hK hob rfl 3 (by decide) (htA _ wd438) (fun _ h9 => h9) rfl (by decide +kernel) rfl rfl (Nat.le_of_ble_eq_true rfl) hL (Or.inl rfl) dM_policy_126 (fun H7 lc7 hob1 hz1 hk1 hL => ?_)
              have hob : ob G 4 mo (mF (nI 0) ao af (n + 1) lw hg sa ea) H7 := hob1
              have hal := al_k hal (hk1 ao hA.1)
              have hab := ai_k hab (hk1 af hA.2.1)
              have hsl := ai_k hsl (hk1 sa hA.2.2.1)
              have hel := ai_k hel (hk1 ea hA.2.2.2.1)
              have hk : ∀ q, q ≠ mo → q ≠ ao → q ≠ af → q ≠ sa → q ≠ ea → H7[q]? = s.heap[q]? := fun q h1 h2 h3 h4 h5 => (hk1 q h1).trans (hk q h1 h2 h3 h4 h5)
              have hz := hz1.trans hz
              refine lv_aload_n hx hb dM_policy_129 rfl (lv_at hl 0 rfl) ?_
              refine va_get (D := G) (ci := 4) (v := .int (nI (n + 1))) (C := RM) (T := TM) (N := 8) hx hb htA inM hown hK (ob_P hob) 0 rfl rfl 3 (by decide) (htA _ wd438) (fun _ h9 => h9) rfl dM_policy_130 ?_
              refine lv_iconst (v := nI 1) hx hb dM_policy_133 (by decide) ?_
              refine lv_isub hx hb dM_policy_134 ?_
              refine pw_ti (y := nI n) (by rw [pk_sub (by omega)]; rfl) ?_
              rw [hQ]
              exact W.iret (v := nI n) hx hb hrt (fun t ht hW => ⟨_, (nI 0), (n + 1), g, (upd fb n (bI (polB j (cl (nI na)) (cl b) (cl c0) F))), rfl, (Or.inr ⟨j, hj, rfl, hw, Or.inr (Or.inr ⟨(fun _ => hfa), hn50, rfl, rfl, rfl, hg1, hg2, fun i hi => pk_un (by omega), pk_us⟩)⟩), ⟨lw, hg, fS, fE, by rw [ht]; exact ⟨hob, hal, hab, hsl, hel⟩⟩, by rw [ht]; exact hz, by rw [ht]; exact hk⟩) hL dM_policy_135
            | succ k ih =>
              intro i g H8 lc8 hik hob hal hab hsl hel hz hk hL hg1 hg2 ls hl
              have hi : i < 64 := by omega
              refine lv_iload hx hb dM_policy_62 (lv_at hl 5 rfl) ?_
              refine lv_bipush (v := nI 64) hx hb dM_policy_64 (by decide) ?_
              refine lv_icmp_ge (tgt := 101) hx hb dM_policy_66 (by decide) (fun c9 => absurd c9 (nI_ge hi (by decide))) (fun _ => ?_)
              refine lv_aload_n hx hb dM_policy_69 rfl (lv_at hl 0 rfl) ?_
              refine va_get (D := G) (ci := 4) (v := .ref ao) (C := RM) (T := TM) (N := 8) hx hb htA inM hown hK (ob_P hob) 0 rfl rfl 1 (by decide) (htA _ wd436) (fun _ h9 => h9) rfl dM_policy_70 ?_
              refine lv_bipush (v := nI 64) hx hb dM_policy_73 (by decide) ?_
              refine lv_aload_n hx hb dM_policy_75 rfl (lv_at hl 0 rfl) ?_
              refine va_get (D := G) (ci := 4) (v := .int (nI n)) (C := RM) (T := TM) (N := 8) hx hb htA inM hown hK (ob_P hob) 0 rfl rfl 3 (by decide) (htA _ wd438) (fun _ h9 => h9) rfl dM_policy_76 ?_
              refine lv_imul hx hb dM_policy_79 ?_
              refine pw_ti (y := nI (64 * n)) (pk_mul _ _) ?_
              refine lv_iload hx hb dM_policy_80 (lv_at hl 5 rfl) ?_
              refine lv_iadd hx hb dM_policy_82 ?_
              refine pw_ti (y := nI ((64 * n) + i)) (nI_add _ _) ?_
              refine lv_aload_n hx hb dM_policy_83 rfl (lv_at hl 0 rfl) ?_
              refine lv_iload_n hx hb dM_policy_84 rfl (lv_at hl 1 rfl) ?_
              refine lv_iload_n hx hb dM_policy_85 rfl (lv_at hl 2 rfl) ?_
              refine lv_iload_n hx hb dM_policy_86 rfl (lv_at hl 3 rfl) ?_
              refine lv_iload hx hb dM_policy_87 (lv_at hl 4 rfl) ?_
              refine lv_iload hx hb dM_policy_89 (lv_at hl 5 rfl) ?_
              refine vp_callSl (va_Run.run (va_runV (As := [.int (nI j), .int (nI na), .int b, .int c0, .int (nI i)]) (rest := [.int (nI ((64 * n) + i)), .ref ao]) ⟨hx, hb, hml, hown, htA⟩ (m_worked l G cA mo ao n (mF (nI 0) ao af n lw hg sa ea) g j hj (nI na) b c0 i hi rfl hn hw) (cwV 5 htA (gd_V wd484 wd486 wd17 wd28 wd487) rfl rfl rfl (by decide +kernel) (by rw [hR]; exact ⟨Nat.le_of_ble_eq_true rfl, Nat.le_of_ble_eq_true rfl⟩)) (pw_V (ci := 4) (q := (RM, TM, 8)) hKN hob rfl ⟨hob, hal⟩) rfl rfl hl.1 rfl (lv_room (Nat.le_of_ble_eq_true rfl)) dM_policy_91 (by rw [hR]; exact ⟨Nat.le_of_ble_eq_true rfl, Nat.le_of_ble_eq_true rfl⟩))) (fun r4 hr4 => ?_)
              subst hr4
              refine pw_tl (y := polF j (cl (nI na)) (cl b) (cl c0) (fun i k => fo (64 * i + k))  i) (polF_ext hn hw (fun i9 hi9 k9 hk9 => hg1 _ (by omega)) hi) ?_
              refine pw_last (F := mY mo ao af sa ea) hx hb hK hal 0 rfl (show 64 * n + i < 3200 by omega) (by decide) hL (Or.inr (Or.inl rfl)) dM_policy_94 (fun H6 lc6 hal hz1 hk1 hL => ?_)
              have hob := ob_k hob (hk1 mo (Ne.symm hA.1))
              have hab := ai_k hab (hk1 af (Ne.symm hA.2.2.2.2.2.2.2.2.2))
              have hsl := ai_k hsl (hk1 sa (Ne.symm hA.2.2.2.2.1))
              have hel := ai_k hel (hk1 ea (Ne.symm hA.2.2.2.2.2.1))
              have hk : ∀ q, q ≠ mo → q ≠ ao → q ≠ af → q ≠ sa → q ≠ ea → H6[q]? = s.heap[q]? := fun q h1 h2 h3 h4 h5 => (hk1 q h2).trans (hk q h1 h2 h3 h4 h5)
              have hz := hz1.trans hz
              refine lv_iinc (v := nI (i + 1)) (lv' := [(5, .int (nI (i + 1))), (0, .ref mo), (1, .int (nI j)), (2, .int (nI na)), (3, .int b), (4, .int c0)]) hx hb dM_policy_95 hl (k := 5) rfl (nI_1 i) (by decide) rfl (fun ls hl => ?_)
              refine lv_goto (tgt := 62) hx hb dM_policy_98 (by decide) ?_
              exact ih (i + 1) (vp_updL g (64 * n + i) (polF j (cl (nI na)) (cl b) (cl c0) (fun i k => fo (64 * i + k))  i)) H6 lc6 (by omega) hob hal hab hsl hel hz hk hL (fun i9 hi9 => (pk_uLn (by omega)).trans (hg1 i9 hi9)) (fun k9 hk9 => by by_cases e9 : k9 = i; (subst e9; exact pk_uLs); exact (pk_uLn (by omega)).trans (hg2 k9 (by omega))) ls (lv_sub hl [1, 2, 3, 4, 5, 0] rfl)
          exact lp (64) 0 fo H1 lc2 (by omega) hob hal hab hsl hel hz hk hL (fun _ _ => rfl) (fun k9 h9 => absurd h9 (Nat.not_lt_zero k9)) ls (lv_sub hl [1, 2, 3, 4, 5, 0] rfl)
        · have hn50 : n = 50 := (nI_eq (by omega) (by decide)).mp c5
          refine lv_aload_n hx hb dM_policy_53 rfl (lv_at hl 0 rfl) ?_
          refine lv_iconst (v := nI 3) hx hb dM_policy_54 (by decide) ?_
          refine pw_call (F := mY mo ao af sa ea) (va_runV (As := [.int (nI 3)]) (rest := []) ⟨hx, hb, hml, hown, htA⟩ (m_raise l G cA mo (mF (nI 0) ao af n lw hg sa ea) (nI 3)) (cwV 1 htA (gd_V wd480 wd482 wd16 wd28 wd483) rfl rfl rfl (by decide +kernel) (by rw [hR]; exact ⟨Nat.le_of_ble_eq_true rfl, Nat.le_of_ble_eq_true rfl⟩)) (pw_V (ci := 4) (q := (RM, TM, 8)) hKN hob rfl ⟨hob, Nat.zero_lt_succ _⟩) rfl rfl hl.1 rfl (lv_room (Nat.le_of_ble_eq_true rfl)) dM_policy_55 (by rw [hR]; exact ⟨Nat.le_of_ble_eq_true rfl, Nat.le_of_ble_eq_true rfl⟩)) hL (fun q h => Or.inl h) (fun v9 st9 t9 lc5 h0 ha9 hL hq9 => ?_)
          obtain ⟨hv9, hob1, hz1, hk1⟩ := hq9
          cases hv9
          rw [h0] at hz1 hk1
          generalize t9.heap = H4 at hob1 hz1 hk1 ⊢
          have hob : ob G 4 mo (mF (nI 3) ao af n lw hg sa ea) H4 := hob1
          have hal := al_k hal (hk1 ao hA.1)
          have hab := ai_k hab (hk1 af hA.2.1)
          have hsl := ai_k hsl (hk1 sa hA.2.2.1)
          have hel := ai_k hel (hk1 ea hA.2.2.2.1)
          have hk : ∀ q, q ≠ mo → q ≠ ao → q ≠ af → q ≠ sa → q ≠ ea → H4[q]? = s.heap[q]? := fun q h1 h2 h3 h4 h5 => (hk1 q h1).trans (hk q h1 h2 h3 h4 h5)
          have hz := hz1.trans hz
          rw [hQ]
          exact W.iret (v := 0) hx hb hrt (fun t ht hW => ⟨_, (nI 3), n, fo, fb, rfl, (Or.inr ⟨j, hj, rfl, hw, Or.inr (Or.inl ⟨(fun _ => hfa), hn50, rfl, rfl, rfl, rfl⟩)⟩), ⟨lw, hg, fS, fE, by rw [ht]; exact ⟨hob, hal, hab, hsl, hel⟩⟩, by rw [ht]; exact hz, by rw [ht]; exact hk⟩) hL dM_policy_58
      · have hfa : F (cl (nI na)) = false := by rw [cl_nI (by omega)]; exact bI_eq.mp c3
        refine lv_aload_n hx hb dM_policy_38 rfl (lv_at hl 0 rfl) ?_
        refine lv_iconst (v := nI 2) hx hb dM_policy_39 (by decide) ?_
        refine pw_call (F := mY mo ao af sa ea) (va_runV (As := [.int (nI 2)]) (rest := []) ⟨hx, hb, hml, hown, htA⟩ (m_raise l G cA mo (mF (nI 0) ao af n lw hg sa ea) (nI 2)) (cwV 1 htA (gd_V wd480 wd482 wd16 wd28 wd483) rfl rfl rfl (by decide +kernel) (by rw [hR]; exact ⟨Nat.le_of_ble_eq_true rfl, Nat.le_of_ble_eq_true rfl⟩)) (pw_V (ci := 4) (q := (RM, TM, 8)) hKN hob rfl ⟨hob, Nat.zero_lt_succ _⟩) rfl rfl hl.1 rfl (lv_room (Nat.le_of_ble_eq_true rfl)) dM_policy_40 (by rw [hR]; exact ⟨Nat.le_of_ble_eq_true rfl, Nat.le_of_ble_eq_true rfl⟩)) hL (fun q h => Or.inl h) (fun v9 st9 t9 lc5 h0 ha9 hL hq9 => ?_)
        obtain ⟨hv9, hob1, hz1, hk1⟩ := hq9
        cases hv9
        rw [h0] at hz1 hk1
        generalize t9.heap = H4 at hob1 hz1 hk1 ⊢
        have hob : ob G 4 mo (mF (nI 2) ao af n lw hg sa ea) H4 := hob1
        have hal := al_k hal (hk1 ao hA.1)
        have hab := ai_k hab (hk1 af hA.2.1)
        have hsl := ai_k hsl (hk1 sa hA.2.2.1)
        have hel := ai_k hel (hk1 ea hA.2.2.2.1)
        have hk : ∀ q, q ≠ mo → q ≠ ao → q ≠ af → q ≠ sa → q ≠ ea → H4[q]? = s.heap[q]? := fun q h1 h2 h3 h4 h5 => (hk1 q h1).trans (hk q h1 h2 h3 h4 h5)
        have hz := hz1.trans hz
        rw [hQ]
        exact W.iret (v := 0) hx hb hrt (fun t ht hW => ⟨_, (nI 2), n, fo, fb, rfl, (Or.inr ⟨j, hj, rfl, hw, Or.inl ⟨hj7, hfa, rfl, rfl, rfl, rfl⟩⟩), ⟨lw, hg, fS, fE, by rw [ht]; exact ⟨hob, hal, hab, hsl, hel⟩⟩, by rw [ht]; exact hz, by rw [ht]; exact hk⟩) hL dM_policy_43
  · have hq := bI_eq.mp c1
    refine lv_aload_n hx hb dM_policy_17 rfl (lv_at hl 0 rfl) ?_
    refine lv_iconst (v := nI 1) hx hb dM_policy_18 (by decide) ?_
    refine pw_call (F := mY mo ao af sa ea) (va_runV (As := [.int (nI 1)]) (rest := []) ⟨hx, hb, hml, hown, htA⟩ (m_raise l G cA mo (mF (nI 0) ao af n lw hg sa ea) (nI 1)) (cwV 1 htA (gd_V wd480 wd482 wd16 wd28 wd483) rfl rfl rfl (by decide +kernel) (by rw [hR]; exact ⟨Nat.le_of_ble_eq_true rfl, Nat.le_of_ble_eq_true rfl⟩)) (pw_V (ci := 4) (q := (RM, TM, 8)) hKN hob rfl ⟨hob, Nat.zero_lt_succ _⟩) rfl rfl hl.1 rfl (lv_room (Nat.le_of_ble_eq_true rfl)) dM_policy_19 (by rw [hR]; exact ⟨Nat.le_of_ble_eq_true rfl, Nat.le_of_ble_eq_true rfl⟩)) hL (fun q h => Or.inl h) (fun v9 st9 t9 lc5 h0 ha9 hL hq9 => ?_)
    obtain ⟨hv9, hob1, hz1, hk1⟩ := hq9
    cases hv9
    rw [h0] at hz1 hk1
    generalize t9.heap = H4 at hob1 hz1 hk1 ⊢
    have hob : ob G 4 mo (mF (nI 1) ao af n lw hg sa ea) H4 := hob1
    have hal := al_k hal (hk1 ao hA.1)
    have hab := ai_k hab (hk1 af hA.2.1)
    have hsl := ai_k hsl (hk1 sa hA.2.2.1)
    have hel := ai_k hel (hk1 ea hA.2.2.2.1)
    have hk : ∀ q, q ≠ mo → q ≠ ao → q ≠ af → q ≠ sa → q ≠ ea → H4[q]? = s.heap[q]? := fun q h1 h2 h3 h4 h5 => (hk1 q h1).trans (hk q h1 h2 h3 h4 h5)
    have hz := hz1.trans hz
    rw [hQ]
    exact W.iret (v := 0) hx hb hrt (fun t ht hW => ⟨_, (nI 1), n, fo, fb, rfl, (Or.inl ⟨hq, rfl, rfl, rfl, rfl⟩), ⟨lw, hg, fS, fE, by rw [ht]; exact ⟨hob, hal, hab, hsl, hel⟩⟩, by rw [ht]; exact hz, by rw [ht]; exact hk⟩) hL dM_policy_22
