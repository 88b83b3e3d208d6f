set_option maxRecDepth 100000 in
set_option maxHeartbeats 4000000 in
theorem c_closeOverSteps (l : Launch) (G : va_G) (cA : Nat → ClassId) (a : Nat) (g0 f : Nat → Int64) (hg0 : ∀ y, y < 64 → ∀ j, j < 64 → hbit (g0 y) j = wc f 0 y j) : Met l yV_closeOverSteps wsV_closeOverSteps ({ frames := 1, cells := 0, slots := 0, locals := 22 }) (PH G cA [.ref a] (fun H => al (cA 0) a 64 g0 H)) (fun _ st o t => o = .returned none ∧ (∃ g, al (cA 0) a 64 g t.heap ∧ ∀ y, y < 64 → ∀ j, j < 64 → hbit (g y) j = wc f 64 y j) ∧ t.heap.size = st.heap.size ∧ ∀ q, q ≠ a → t.heap[q]? = st.heap[q]?) 0 0 (fun q => q = a) := by
  refine Met.ofW (cc := cV_closeOverSteps) (maxL := 3) (ret := none) (by decide) rfl ?_
  intro p e s m args below meth c s₁ B hml hv
  obtain ⟨hav, hKN, hal⟩ := hv
  have hK := hKN.1
  have hx := B.exec
  have hb := B.bytes
  have hrt := B.returns
  have htA : ∀ w ∈ ALL, w.before args s = true := fun w h => atoms_spec (ws := wsV_closeOverSteps) B.pre w (List.mem_cons_of_mem _ h)
  have hown : s.vm.findClass RV = some m.cls := findClass_of_methodNamed B.named
  have hlocks := B.notSynchronized
  refine pw_nm (fun R Q hR hQ => ?_)
  refine pw_entry (vs := [.ref a]) hav (Nat.le_of_ble_eq_true rfl) (fun ls hl => ?_)
  have hl : lv_has ls 3 [(0, .ref a)] := hl
  refine lv_iconst (v := nI 0) hx hb dV_closeOverSteps_0 (by decide) ?_
  refine lv_istore_n (lv' := [(1, .int (nI 0)), (0, .ref a)]) hx hb dV_closeOverSteps_1 rfl hl (by decide) rfl (fun ls hl => ?_)
  have lp : ∀ (k m9 : Nat) (g : Nat → Int64) (H8 : Heap) (lc8 : List Loc), m9 + k = 64 → (al (cA 0) a 64 g H8) → (H8.size = s.heap.size) → (∀ q, q ≠ a → H8[q]? = s.heap[q]?) → (∀ z ∈ lc8, (fun q => q = a) z.base) → (∀ y, y < 64 → ∀ j, j < 64 → hbit (g y) j = wc f m9 y j) → ∀ ls : Array Slot, lv_has ls 3 [(0, .ref a), (1, .int (nI m9))] → W p l e R s m args below meth c H8 lc8 0 0 Q (F0 m 2 ls []) := by
    intro k
    induction k with
    | zero =>
      intro m9 g H8 lc8 hik hal hz hk hL hinv ls hl
      have hm : m9 = 64 := by omega
      subst hm
      refine lv_iload_n hx hb dV_closeOverSteps_2 rfl (lv_at hl 1 rfl) ?_
      refine lv_bipush (v := nI 64) hx hb dV_closeOverSteps_3 (by decide) ?_
      refine lv_icmp_ge (tgt := 47) hx hb dV_closeOverSteps_5 (by decide) (fun _ => ?_) (fun c9 => absurd (Int32.le_refl _) c9)
      rw [hQ]
      exact W.vret hx hb hrt (fun t ht hW => ⟨rfl, ⟨g, by rw [ht]; exact hal, hinv⟩, by rw [ht]; exact hz, by rw [ht]; exact hk⟩) hL dV_closeOverSteps_47
    | succ k ih =>
      intro m9 g H8 lc8 hik hal hz hk hL hinv ls hl
      have hm : m9 < 64 := by omega
      refine lv_iload_n hx hb dV_closeOverSteps_2 rfl (lv_at hl 1 rfl) ?_
      refine lv_bipush (v := nI 64) hx hb dV_closeOverSteps_3 (by decide) ?_
      refine lv_icmp_ge (tgt := 47) hx hb dV_closeOverSteps_5 (by decide) (fun c9 => absurd c9 (nI_ge hm (by decide))) (fun _ => ?_)
      refine lv_iconst (v := nI 0) hx hb dV_closeOverSteps_8 (by decide) ?_
      refine lv_istore_n (lv' := [(2, .int (nI 0)), (0, .ref a), (1, .int (nI m9))]) hx hb dV_closeOverSteps_9 rfl hl (by decide) rfl (fun ls hl => ?_)
      have lq : ∀ (k2 i : Nat) (g : Nat → Int64) (H8 : Heap) (lc8 : List Loc), i + k2 = 64 → (al (cA 0) a 64 g H8) → (H8.size = s.heap.size) → (∀ q, q ≠ a → H8[q]? = s.heap[q]?) → (∀ z ∈ lc8, (fun q => q = a) z.base) → (∀ y, y < 64 → ∀ j, j < 64 → hbit (g y) j = (if y < i then wc f (m9 + 1) y j else wc f m9 y j)) → ∀ ls : Array Slot, lv_has ls 3 [(0, .ref a), (1, .int (nI m9)), (2, .int (nI i))] → W p l e R s m args below meth c H8 lc8 0 0 Q (F0 m 10 ls []) := by
        intro k2
        induction k2 with
        | zero =>
          intro i g H8 lc8 hik2 hal hz hk hL hinv2 ls hl
          have hi : i = 64 := by omega
          subst hi
          refine lv_iload_n hx hb dV_closeOverSteps_10 rfl (lv_at hl 2 rfl) ?_
          refine lv_bipush (v := nI 64) hx hb dV_closeOverSteps_11 (by decide) ?_
          refine lv_icmp_ge (tgt := 41) hx hb dV_closeOverSteps_13 (by decide) (fun _ => ?_) (fun c9 => absurd (Int32.le_refl _) c9)
          refine lv_iinc (v := nI (m9 + 1)) (lv' := [(1, .int (nI (m9 + 1))), (0, .ref a), (2, .int (nI 64))]) hx hb dV_closeOverSteps_41 hl (k := 1) rfl (nI_1 m9) (by decide) rfl (fun ls hl => ?_)
          refine lv_goto (tgt := 2) hx hb dV_closeOverSteps_44 (by decide) ?_
          exact ih (m9 + 1) g H8 lc8 (by omega) hal hz hk hL (fun y hy j hj => by rw [hinv2 y hy j hj, if_pos hy]) ls (lv_sub hl [1, 0] rfl)
        | succ k2 ih2 =>
          intro i g H8 lc8 hik2 hal hz hk hL hinv2 ls hl
          have hi : i < 64 := by omega
          refine lv_iload_n hx hb dV_closeOverSteps_10 rfl (lv_at hl 2 rfl) ?_
          refine lv_bipush (v := nI 64) hx hb dV_closeOverSteps_11 (by decide) ?_
          refine lv_icmp_ge (tgt := 41) hx hb dV_closeOverSteps_13 (by decide) (fun c9 => absurd c9 (nI_ge hi (by decide))) (fun _ => ?_)
          refine lv_aload_n hx hb dV_closeOverSteps_16 rfl (lv_at hl 0 rfl) ?_
          refine lv_iload_n hx hb dV_closeOverSteps_17 rfl (lv_at hl 2 rfl) ?_
          refine pw_lald hx hb hK hal 0 rfl (by omega) (by decide) dV_closeOverSteps_18 ?_
          refine lv_iload_n hx hb dV_closeOverSteps_19 rfl (lv_at hl 1 rfl) ?_
          refine vp_callSi (va_Run.run (va_runS (As := [.long (g i), .int (nI m9)]) (rest := []) ⟨hx, hb, hml, hown, htA⟩ (c_has l G cA (g i) m9 hm) (va_cwS 2 htA (gd_S wd240 wd241 wd26 wd242) rfl rfl rfl (by decide +kernel) (by rw [hR]; exact ⟨Nat.le_of_ble_eq_true rfl, Nat.le_of_ble_eq_true rfl⟩)) (pw_S hKN trivial) rfl rfl hl.1 rfl (lv_room (Nat.le_of_ble_eq_true rfl)) dV_closeOverSteps_20 (by rw [hR]; exact ⟨Nat.le_of_ble_eq_true rfl, Nat.le_of_ble_eq_true rfl⟩))) (fun r1 hr1 => ?_)
          subst hr1
          have hgi : ∀ j, j < 64 → hbit (g i) j = wc f m9 i j := fun j hj => by rw [hinv2 i hi j hj, if_neg (Nat.lt_irrefl _)]
          refine lv_if_eq (tgt := 35) hx hb dV_closeOverSteps_23 (by decide) (fun e1 => ?_) (fun e1 => ?_)
          · have hq := bI_eq.mp e1
            rw [hgi m9 hm] at hq
            refine lv_iinc (v := nI (i + 1)) (lv' := [(2, .int (nI (i + 1))), (0, .ref a), (1, .int (nI m9))]) hx hb dV_closeOverSteps_35 hl (k := 2) rfl (nI_1 i) (by decide) rfl (fun ls hl => ?_)
            refine lv_goto (tgt := 10) hx hb dV_closeOverSteps_38 (by decide) ?_
            exact ih2 (i + 1) g H8 lc8 (by omega) hal hz hk hL (fun y hy j hj => by by_cases e9 : y = i; (subst e9; rw [if_pos (Nat.lt_succ_self _), hgi j hj]; show _ = (wc f m9 y j || (wc f m9 y m9 && wc f m9 m9 j)); rw [hq, Bool.false_and, Bool.or_false]); (rw [hinv2 y hy j hj]; by_cases e8 : y < i; (rw [if_pos e8, if_pos (by omega)]); (rw [if_neg e8, if_neg (by omega)]))) ls (lv_sub hl [1, 2, 0] rfl)
          · have hq := bI_ne.mp e1
            rw [hgi m9 hm] at hq
            have hgm : ∀ j, j < 64 → hbit (g m9) j = wc f m9 m9 j := fun j hj => by rw [hinv2 m9 hm j hj]; by_cases e9 : m9 < i; (rw [if_pos e9, wc_mm]); (rw [if_neg e9])
            refine lv_aload_n hx hb dV_closeOverSteps_26 rfl (lv_at hl 0 rfl) ?_
            refine lv_iload_n hx hb dV_closeOverSteps_27 rfl (lv_at hl 2 rfl) ?_
            refine lv_dup2_11 hx hb dV_closeOverSteps_28 rfl rfl ?_
            refine pw_lald hx hb hK hal 0 rfl (by omega) (by decide) dV_closeOverSteps_29 ?_
            refine lv_aload_n hx hb dV_closeOverSteps_30 rfl (lv_at hl 0 rfl) ?_
            refine lv_iload_n hx hb dV_closeOverSteps_31 rfl (lv_at hl 1 rfl) ?_
            refine pw_lald hx hb hK hal 0 rfl (by omega) (by decide) dV_closeOverSteps_32 ?_
            refine lv_lor hx hb dV_closeOverSteps_33 ?_
            refine pw_last (F := fun q => q = a) hx hb hK hal 0 rfl hi (by decide) hL rfl dV_closeOverSteps_34 (fun H6 lc6 hal hz1 hk1 hL => ?_)
            have hk : ∀ q, q ≠ a → H6[q]? = s.heap[q]? := fun q h1 => (hk1 q h1).trans (hk q h1)
            have hz := hz1.trans hz
            refine lv_iinc (v := nI (i + 1)) (lv' := [(2, .int (nI (i + 1))), (0, .ref a), (1, .int (nI m9))]) hx hb dV_closeOverSteps_35 hl (k := 2) rfl (nI_1 i) (by decide) rfl (fun ls hl => ?_)
            refine lv_goto (tgt := 10) hx hb dV_closeOverSteps_38 (by decide) ?_
            exact ih2 (i + 1) (vp_updL g i (g i ||| g m9)) H6 lc6 (by omega) hal hz hk hL (fun y hy j hj => by by_cases e9 : y = i; (subst e9; rw [if_pos (Nat.lt_succ_self _), pk_uLs, hb_or, hgi j hj, hgm j hj]; show _ = (wc f m9 y j || (wc f m9 y m9 && wc f m9 m9 j)); rw [hq, Bool.true_and]); (rw [pk_uLn e9, hinv2 y hy j hj]; by_cases e8 : y < i; (rw [if_pos e8, if_pos (by omega)]); (rw [if_neg e8, if_neg (by omega)]))) ls (lv_sub hl [1, 2, 0] rfl)
      exact lq (64) 0 g H8 lc8 (by omega) hal hz hk hL (fun y hy j hj => by rw [hinv y hy j hj, if_neg (Nat.not_lt_zero y)]) ls (lv_sub hl [1, 2, 0] rfl)
  exact lp (64) 0 g0 s.heap ([]) (by omega) hal rfl (fun _ _ => rfl) (fun _ h => by cases h) hg0 ls (lv_sub hl [1, 0] rfl)

set_option maxRecDepth 100000 in
set_option maxHeartbeats 4000000 in
theorem c_fillOutcomes (l : Launch) (G : va_G) (cA : Nat → ClassId) (x pa rs lo hi n : Nat) (F : Nat → Bool) (O : Nat → Nat → Int64) (po oc : Nat → Nat) (tb : Nat → Option Nat) (tc : Nat → Nat × Nat × Nat) (oa : Nat) (g0 : Nat → Int64) (j : Nat) (hj : j < 9) (a b c0 : Int32) (hw : wfN n j a b c0 = true) : Met l yV_fillOutcomes wsV_fillOutcomes ({ frames := 3, cells := 0, slots := 0, locals := 72 }) (PH G cA [.ref x, .ref oa, .int (nI j), .int a, .int b, .int c0] (fun H => (pvS G cA x pa rs lo hi n F O po oc tb tc H ∧ al (cA 0) oa 64 g0 H ∧ pvN (fun q => q = oa) x pa rs lo hi n po oc tb tc))) (fun _ st o t => o = .returned none ∧ (∃ g, al (cA 0) oa 64 g t.heap ∧ ∀ k, k < 64 → g k = polF j (cl a) (cl b) (cl c0) O  k) ∧ t.heap.size = st.heap.size ∧ ∀ q, q ≠ oa → t.heap[q]? = st.heap[q]?) 0 0 (fun q => q = oa) := by
  refine Met.ofW (cc := cV_fillOutcomes) (maxL := 7) (ret := none) (by decide) rfl ?_
  intro p e s m args below meth c s₁ B hml hv
  obtain ⟨hav, hKN, hpv, hal, hNq⟩ := hv
  have hK := hKN.1
  have hx := B.exec
  have hb := B.bytes
  have hrt := B.returns
  have htA : ∀ w ∈ ALL, w.before args s = true := fun w h => atoms_spec (ws := wsV_fillOutcomes) B.pre w (List.mem_cons_of_mem _ h)
  have hown : s.vm.findClass RV = some m.cls := findClass_of_methodNamed B.named
  have hlocks := B.notSynchronized
  refine pw_nm (fun R Q hR hQ => ?_)
  refine pw_entry (vs := [.ref x, .ref oa, .int (nI j), .int a, .int b, .int c0]) hav (Nat.le_of_ble_eq_true rfl) (fun ls hl => ?_)
  have hl : lv_has ls 7 [(0, .ref x), (1, .ref oa), (2, .int (nI j)), (3, .int a), (4, .int b), (5, .int c0)] := hl
  refine lv_iconst (v := nI 0) hx hb dV_fillOutcomes_0 (by decide) ?_
  refine lv_istore (lv' := [(6, .int (nI 0)), (0, .ref x), (1, .ref oa), (2, .int (nI j)), (3, .int a), (4, .int b), (5, .int c0)]) hx hb dV_fillOutcomes_1 hl (by decide) rfl (fun ls hl => ?_)
  have lp : ∀ (k i : Nat) (g : Nat → Int64) (H8 : Heap) (lc8 : List Loc), i + k = 64 → (pvS G cA x pa rs lo hi n F O po oc tb tc H8) → (al (cA 0) oa 64 g H8) → (H8.size = s.heap.size) → (∀ q, q ≠ oa → H8[q]? = s.heap[q]?) → (∀ z ∈ lc8, (fun q => q = oa) z.base) → (∀ k, k < i → (¬ j = 6 ∧ g k = polF j (cl a) (cl b) (cl c0) O  k) ∨ (j = 6 ∧ g k = one k ||| O (cl a) k)) → ∀ ls : Array Slot, lv_has ls 7 [(0, .ref x), (1, .ref oa), (2, .int (nI j)), (3, .int a), (4, .int b), (5, .int c0), (6, .int (nI i))] → W p l e R s m args below meth c H8 lc8 0 0 Q (F0 m 3 ls []) := by
    intro k
    induction k with
    | zero =>
      intro i g H8 lc8 hik hpv hal hz hk hL hg ls hl
      have hi : i = 64 := by omega
      subst hi
      refine lv_iload hx hb dV_fillOutcomes_3 (lv_at hl 6 rfl) ?_
      refine lv_bipush (v := nI 64) hx hb dV_fillOutcomes_5 (by decide) ?_
      refine lv_icmp_ge (tgt := 54) hx hb dV_fillOutcomes_7 (by decide) (fun _ => ?_) (fun c9 => absurd (Int32.le_refl _) c9)
      refine lv_iload_n hx hb dV_fillOutcomes_54 rfl (lv_at hl 2 rfl) ?_
      refine lv_bipush (v := nI 6) hx hb dV_fillOutcomes_55 (by decide) ?_
      refine lv_icmp_ne (tgt := 64) hx hb dV_fillOutcomes_57 (by decide) (fun e1 => ?_) (fun e1 => ?_)
      · have hj6 : ¬ j = 6 := fun q => e1 (by rw [q])
        rw [hQ]
        exact W.vret hx hb hrt (fun t ht hW => ⟨rfl, ⟨g, by rw [ht]; exact hal, fun k hk9 => (hg k hk9).elim (fun q => q.2) (fun q => absurd q.1 hj6)⟩, by rw [ht]; exact hz, by rw [ht]; exact hk⟩) hL dV_fillOutcomes_64
      · have hj6 : j = 6 := (nI_eq (by omega) (by decide)).mp e1
        subst hj6
        have hg6 : ∀ k, k < 64 → g k = one k ||| O (cl a) k := fun k hk9 => (hg k hk9).elim (fun q => absurd rfl q.1) (fun q => q.2)
        refine lv_aload_n hx hb dV_fillOutcomes_60 rfl (lv_at hl 1 rfl) ?_
        refine pw_call (F := fun q => q = oa) (va_runS (As := [.ref oa]) (rest := []) ⟨hx, hb, hml, hown, htA⟩ (c_closeOverSteps l G cA oa g (O (cl a)) (fun y hy j9 hj9 => by rw [hg6 y hy, hb_or, hb_one hy]; show (decide (j9 = y) || hbit (O (cl a) y) j9) = (decide (y = j9) || hbit (O (cl a) y) j9); congr 1; simp only [eq_comm])) (va_cwS 1 htA (gd_S wd243 wd244 wd26 wd245) rfl rfl rfl (by decide +kernel) (by rw [hR]; exact ⟨Nat.le_of_ble_eq_true rfl, Nat.le_of_ble_eq_true rfl⟩)) (pw_S hKN hal) rfl rfl hl.1 rfl (lv_room (Nat.le_of_ble_eq_true rfl)) dV_fillOutcomes_61 (by rw [hR]; exact ⟨Nat.le_of_ble_eq_true rfl, Nat.le_of_ble_eq_true rfl⟩)) hL (fun q h => h) (fun v9 st9 t9 lc9 h0 ha9 hL hq9 => ?_)
        obtain ⟨hv9, ⟨g9, hal, hw9⟩, hz1, hk1⟩ := hq9
        cases hv9
        rw [h0] at hz1 hk1
        generalize t9.heap = H5 at hal hz1 hk1 ⊢
        have hk : ∀ q, q ≠ oa → H5[q]? = s.heap[q]? := fun q h1 => (hk1 q h1).trans (hk q h1)
        have hz := hz1.trans hz
        rw [hQ]
        exact W.vret hx hb hrt (fun t ht hW => ⟨rfl, ⟨g9, by rw [ht]; exact hal, fun k hk9 => star_eq hk9 (fun j9 hj9 => hw9 k hk9 j9 hj9)⟩, by rw [ht]; exact hz, by rw [ht]; exact hk⟩) hL dV_fillOutcomes_64
    | succ k ih =>
      intro i g H8 lc8 hik hpv hal hz hk hL hg ls hl
      have hi9 : i < 64 := by omega
      refine lv_iload hx hb dV_fillOutcomes_3 (lv_at hl 6 rfl) ?_
      refine lv_bipush (v := nI 64) hx hb dV_fillOutcomes_5 (by decide) ?_
      refine lv_icmp_ge (tgt := 54) hx hb dV_fillOutcomes_7 (by decide) (fun c9 => absurd c9 (nI_ge hi9 (by decide))) (fun _ => ?_)
      refine lv_aload_n hx hb dV_fillOutcomes_10 rfl (lv_at hl 1 rfl) ?_
      refine lv_iload hx hb dV_fillOutcomes_11 (lv_at hl 6 rfl) ?_
      refine lv_iload_n hx hb dV_fillOutcomes_13 rfl (lv_at hl 2 rfl) ?_
      refine lv_iconst (v := nI 2) hx hb dV_fillOutcomes_14 (by decide) ?_
      refine lv_icmp_eq (tgt := 23) hx hb dV_fillOutcomes_15 (by decide) (fun e2 => ?_) (fun e2 => ?_)
      · have hj2 : j = 2 := (nI_eq (by omega) (by decide)).mp e2
        refine lv_iload_n hx hb dV_fillOutcomes_23 rfl (lv_at hl 2 rfl) ?_
        refine lv_iload_n hx hb dV_fillOutcomes_24 rfl (lv_at hl 3 rfl) ?_
        refine lv_iload hx hb dV_fillOutcomes_25 (lv_at hl 4 rfl) ?_
        refine lv_iload hx hb dV_fillOutcomes_27 (lv_at hl 6 rfl) ?_
        refine vp_callSl (va_Run.run (va_runS (As := [.int (nI j), .int a, .int b, .int (nI i)]) (rest := [.int (nI i), .ref oa]) ⟨hx, hb, hml, hown, htA⟩ (c_fieldOutcome l G cA O j (Or.inl hj2) n a b c0 hw i hi9) (va_cwS 4 htA (gd_S wd214 wd215 wd26 wd216) rfl rfl rfl (by decide +kernel) (by rw [hR]; exact ⟨Nat.le_of_ble_eq_true rfl, Nat.le_of_ble_eq_true rfl⟩)) (pw_S hKN trivial) rfl rfl hl.1 rfl (lv_room (Nat.le_of_ble_eq_true rfl)) dV_fillOutcomes_29 (by rw [hR]; exact ⟨Nat.le_of_ble_eq_true rfl, Nat.le_of_ble_eq_true rfl⟩))) (fun r1 hr1 => ?_)
        subst hr1
        refine lv_goto (tgt := 47) hx hb dV_fillOutcomes_32 (by decide) ?_
        refine pw_last (F := fun q => q = oa) hx hb hK hal 0 rfl hi9 (by decide) hL rfl dV_fillOutcomes_47 (fun H6 lc6 hal hz1 hk1 hL => ?_)
        have hpv := pvS_E hpv hNq (fun q h1 h2 => hk1 q h2)
        have hk : ∀ q, q ≠ oa → H6[q]? = s.heap[q]? := fun q h1 => (hk1 q h1).trans (hk q h1)
        have hz := hz1.trans hz
        refine lv_iinc (v := nI (i + 1)) (lv' := [(6, .int (nI (i + 1))), (0, .ref x), (1, .ref oa), (2, .int (nI j)), (3, .int a), (4, .int b), (5, .int c0)]) hx hb dV_fillOutcomes_48 hl (k := 6) rfl (nI_1 i) (by decide) rfl (fun ls hl => ?_)
        refine lv_goto (tgt := 3) hx hb dV_fillOutcomes_51 (by decide) ?_
        exact ih (i + 1) (vp_updL g i (polF j (cl a) (cl b) (cl c0) O  i)) H6 lc6 (by omega) hpv hal hz hk hL (fun k9 hk9 => by by_cases e9 : k9 = i; (subst e9; rw [pk_uLs]; exact Or.inl ⟨by omega, rfl⟩); (rw [pk_uLn e9]; exact hg k9 (by omega))) ls (lv_sub hl [1, 2, 3, 4, 5, 6, 0] rfl)
      · have hj2 : ¬ j = 2 := fun q => e2 (by rw [q])
        refine lv_iload_n hx hb dV_fillOutcomes_18 rfl (lv_at hl 2 rfl) ?_
        refine lv_iconst (v := nI 3) hx hb dV_fillOutcomes_19 (by decide) ?_
        refine lv_icmp_ne (tgt := 35) hx hb dV_fillOutcomes_20 (by decide) (fun e3 => ?_) (fun e3 => ?_)
        · have hj3 : ¬ j = 3 := fun q => e3 (by rw [q])
          refine lv_aload_n hx hb dV_fillOutcomes_35 rfl (lv_at hl 0 rfl) ?_
          refine lv_iload_n hx hb dV_fillOutcomes_36 rfl (lv_at hl 2 rfl) ?_
          refine lv_iload_n hx hb dV_fillOutcomes_37 rfl (lv_at hl 3 rfl) ?_
          refine lv_iload hx hb dV_fillOutcomes_38 (lv_at hl 4 rfl) ?_
          refine lv_iload hx hb dV_fillOutcomes_40 (lv_at hl 5 rfl) ?_
          refine lv_iload hx hb dV_fillOutcomes_42 (lv_at hl 6 rfl) ?_
          have p1 := hpv.1
          refine vp_callSl (va_Run.run (va_runV (As := [.int (nI j), .int a, .int b, .int c0, .int (nI i)]) (rest := [.int (nI i), .ref oa]) ⟨hx, hb, hml, hown, htA⟩ (c_joinedOutcome l G cA x pa rs lo hi n F O po oc tb tc j hj hj2 hj3 a b c0 hw i hi9) (cwV 5 htA (gd_V wd229 wd231 wd5 wd26 wd232) rfl rfl rfl (by decide +kernel) (by rw [hR]; exact ⟨Nat.le_of_ble_eq_true rfl, Nat.le_of_ble_eq_true rfl⟩)) (pw_V (ci := 3) (q := (RV, TV, 4)) hKN p1 rfl hpv) rfl rfl hl.1 rfl (lv_room (Nat.le_of_ble_eq_true rfl)) dV_fillOutcomes_44 (by rw [hR]; exact ⟨Nat.le_of_ble_eq_true rfl, Nat.le_of_ble_eq_true rfl⟩))) (fun r1 hr1 => ?_)
          refine pw_last (F := fun q => q = oa) hx hb hK hal 0 rfl hi9 (by decide) hL rfl dV_fillOutcomes_47 (fun H6 lc6 hal hz1 hk1 hL => ?_)
          have hpv := pvS_E hpv hNq (fun q h1 h2 => hk1 q h2)
          have hk : ∀ q, q ≠ oa → H6[q]? = s.heap[q]? := fun q h1 => (hk1 q h1).trans (hk q h1)
          have hz := hz1.trans hz
          refine lv_iinc (v := nI (i + 1)) (lv' := [(6, .int (nI (i + 1))), (0, .ref x), (1, .ref oa), (2, .int (nI j)), (3, .int a), (4, .int b), (5, .int c0)]) hx hb dV_fillOutcomes_48 hl (k := 6) rfl (nI_1 i) (by decide) rfl (fun ls hl => ?_)
          refine lv_goto (tgt := 3) hx hb dV_fillOutcomes_51 (by decide) ?_
          exact ih (i + 1) (vp_updL g i (r1)) H6 lc6 (by omega) hpv hal hz hk hL (fun k9 hk9 => by by_cases e9 : k9 = i; (subst e9; rw [pk_uLs]; exact hr1); (rw [pk_uLn e9]; exact hg k9 (by omega))) ls (lv_sub hl [1, 2, 3, 4, 5, 6, 0] rfl)
        · have hj3 : j = 3 := (nI_eq (by omega) (by decide)).mp e3
          refine lv_iload_n hx hb dV_fillOutcomes_23 rfl (lv_at hl 2 rfl) ?_
          refine lv_iload_n hx hb dV_fillOutcomes_24 rfl (lv_at hl 3 rfl) ?_
          refine lv_iload hx hb dV_fillOutcomes_25 (lv_at hl 4 rfl) ?_
          refine lv_iload hx hb dV_fillOutcomes_27 (lv_at hl 6 rfl) ?_
          refine vp_callSl (va_Run.run (va_runS (As := [.int (nI j), .int a, .int b, .int (nI i)]) (rest := [.int (nI i), .ref oa]) ⟨hx, hb, hml, hown, htA⟩ (c_fieldOutcome l G cA O j (Or.inr hj3) n a b c0 hw i hi9) (va_cwS 4 htA (gd_S wd214 wd215 wd26 wd216) rfl rfl rfl (by decide +kernel) (by rw [hR]; exact ⟨Nat.le_of_ble_eq_true rfl, Nat.le_of_ble_eq_true rfl⟩)) (pw_S hKN trivial) rfl rfl hl.1 rfl (lv_room (Nat.le_of_ble_eq_true rfl)) dV_fillOutcomes_29 (by rw [hR]; exact ⟨Nat.le_of_ble_eq_true rfl, Nat.le_of_ble_eq_true rfl⟩))) (fun r1 hr1 => ?_)
          subst hr1
          refine lv_goto (tgt := 47) hx hb dV_fillOutcomes_32 (by decide) ?_
          refine pw_last (F := fun q => q = oa) hx hb hK hal 0 rfl hi9 (by decide) hL rfl dV_fillOutcomes_47 (fun H6 lc6 hal hz1 hk1 hL => ?_)
          have hpv := pvS_E hpv hNq (fun q h1 h2 => hk1 q h2)
          have hk : ∀ q, q ≠ oa → H6[q]? = s.heap[q]? := fun q h1 => (hk1 q h1).trans (hk q h1)
          have hz := hz1.trans hz
          refine lv_iinc (v := nI (i + 1)) (lv' := [(6, .int (nI (i + 1))), (0, .ref x), (1, .ref oa), (2, .int (nI j)), (3, .int a), (4, .int b), (5, .int c0)]) hx hb dV_fillOutcomes_48 hl (k := 6) rfl (nI_1 i) (by decide) rfl (fun ls hl => ?_)
          refine lv_goto (tgt := 3) hx hb dV_fillOutcomes_51 (by decide) ?_
          exact ih (i + 1) (vp_updL g i (polF j (cl a) (cl b) (cl c0) O  i)) H6 lc6 (by omega) hpv hal hz hk hL (fun k9 hk9 => by by_cases e9 : k9 = i; (subst e9; rw [pk_uLs]; exact Or.inl ⟨by omega, rfl⟩); (rw [pk_uLn e9]; exact hg k9 (by omega))) ls (lv_sub hl [1, 2, 3, 4, 5, 6, 0] rfl)
  exact lp (64) 0 g0 s.heap ([]) (by omega) hpv hal rfl (fun _ _ => rfl) (fun _ h => by cases h) (fun k9 h9 => absurd h9 (Nat.not_lt_zero k9)) ls (lv_sub hl [1, 2, 3, 4, 5, 6, 0] rfl)

set_option maxRecDepth 100000 in
set_option maxHeartbeats 4000000 in
theorem c_keep (l : Launch) (G : va_G) (cA : Nat → ClassId) (x pa rs lo hi n : Nat) (F : Nat → Bool) (O : Nat → Nat → Int64) (po oc : Nat → Nat) (tb : Nat → Option Nat) (tc : Nat → Nat × Nat × Nat) (p0 o0 : Nat) (g : Nat → Int64) (bb : Bool) (hn5 : n < 50) : Met l yV_keep wsV_keep ({ frames := 2, cells := 0, slots := 0, locals := 44 }) (PH G cA [.ref x, .ref p0] (fun H => (pvS G cA x pa rs lo hi n F O po oc tb tc H ∧ ob G 0 p0 [.int (bI bb), .ref o0, .null] H ∧ al (cA 0) o0 64 g H))) (fun _ st o t => o = .returned (some (.int (nI n))) ∧ ob G 3 x [.ref pa, .ref rs, .int (nI (n + 1)), .int (nI (dct (fun i => if i = n then g else O i) (n + 1)))] t.heap ∧ aq (cA 2) pa 50 (va_up (pvP n po) n (some p0)) t.heap ∧ t.heap.size = st.heap.size ∧ ∀ q, q ≠ x → q ≠ pa → t.heap[q]? = st.heap[q]?) 0 0 (fun q => q = x ∨ q = pa) := by
  refine Met.ofW (cc := cV_keep) (maxL := 3) (ret := (some .int)) (by decide) rfl ?_
  intro p e s m args below meth c s₁ B hml hv
  obtain ⟨hav, hKN, hpv, hp0, ho0⟩ := hv
  have hK := hKN.1
  have hx := B.exec
  have hb := B.bytes
  have hrt := B.returns
  have htA : ∀ w ∈ ALL, w.before args s = true := fun w h => atoms_spec (ws := wsV_keep) B.pre w (List.mem_cons_of_mem _ h)
  have hown : s.vm.findClass RV = some m.cls := findClass_of_methodNamed B.named
  have hlocks := B.notSynchronized
  refine pw_nm (fun R Q hR hQ => ?_)
  refine pw_entry (vs := [.ref x, .ref p0]) hav (Nat.le_of_ble_eq_true rfl) (fun ls hl => ?_)
  have hl : lv_has ls 3 [(0, .ref x), (1, .ref p0)] := hl
  have hS0 := hpv
  obtain ⟨p1, p2, p3, p4, p5, p6, p7, p8, p9, p10, p11, p12⟩ := hpv
  have hdd := hKN.dis
  have kx := kd_o (cA := cA) (by decide) p1
  have kp := kd_q (G := G) p2
  have k0 := kd_o (cA := cA) (by decide) hp0
  have hpx : pa ≠ x := kd_ne hdd kp kx (by decide)
  have h0x : p0 ≠ x := kd_ne hdd k0 kx (by decide)
  have hL : ∀ z ∈ ([] : List Loc), (fun q => q = x ∨ q = pa) z.base := fun _ h => by cases h
  have hk : ∀ q, q ≠ x → q ≠ pa → s.heap[q]? = s.heap[q]? := fun _ _ _ => rfl
  have hz : s.heap.size = s.heap.size := rfl
  refine lv_aload_n hx hb dV_keep_0 rfl (lv_at hl 0 rfl) ?_
  refine lv_aload_n hx hb dV_keep_1 rfl (lv_at hl 1 rfl) ?_
  refine va_get (D := G) (ci := 0) (v := .ref o0) (C := RP) (T := TP) (N := 3) hx hb htA inP hown hK (ob_P hp0) 0 rfl rfl 1 (by decide) (htA _ wd200) (fun _ h9 => h9) rfl dV_keep_2 ?_
  refine vp_callSi (va_Run.run (va_runV (As := [.ref o0]) (rest := []) ⟨hx, hb, hml, hown, htA⟩ (c_isNew l G cA x pa rs lo hi n F O po oc tb tc o0 g) (cwV 1 htA (gd_V wd250 wd252 wd8 wd26 wd253) rfl rfl rfl (by decide +kernel) (by rw [hR]; exact ⟨Nat.le_of_ble_eq_true rfl, Nat.le_of_ble_eq_true rfl⟩)) (pw_V (ci := 3) (q := (RV, TV, 4)) hKN p1 rfl ⟨hS0, ho0⟩) rfl rfl hl.1 rfl (lv_room (Nat.le_of_ble_eq_true rfl)) dV_keep_5 (by rw [hR]; exact ⟨Nat.le_of_ble_eq_true rfl, Nat.le_of_ble_eq_true rfl⟩))) (fun r1 hr1 => ?_)
  rcases hr1 with ⟨hnew, rfl⟩ | ⟨hold, rfl⟩
  · refine lv_if_eq (tgt := 21) hx hb dV_keep_8 (by decide) (fun c9 => absurd c9 (by decide)) (fun _ => ?_)
    refine lv_aload_n hx hb dV_keep_11 rfl (lv_at hl 0 rfl) ?_
    refine lv_dup hx hb dV_keep_12 rfl ?_
    refine va_get (D := G) (ci := 3) (v := .int (nI (dct O n))) (C := RV) (T := TV) (N := 4) hx hb htA inV hown hK (ob_P p1) 0 rfl rfl 3 (by decide) (htA _ wd66) (fun _ h9 => h9) rfl dV_keep_13 ?_
    refine lv_iconst (v := nI 1) hx hb dV_keep_16 (by decide) ?_
    refine lv_iadd hx hb dV_keep_17 ?_
    refine pw_ti (y := nI ((dct O n) + 1)) (nI_add _ _) ?_
    refine pw_put (ci := 3) (C := RV) (T := TV) (N := 4) (ty := .int) (F := fun q => q = x ∨ q = pa) hx hb htA inV tyV tyV_ok nmV hown hK p1 rfl 3 (by decide) (htA _ wd66) (fun _ h9 => h9) rfl (by decide +kernel) rfl rfl (Nat.le_of_ble_eq_true rfl) hL (Or.inl rfl) dV_keep_18 (fun H2 lc3 p1 hz1 hk1 hL => ?_)
    have p1 : ob G 3 x [.ref pa, .ref rs, .int (nI n), .int (nI (dct O n + 1))] H2 := p1
    have p2 := aq_k p2 (hk1 pa hpx)
    have hp0 := ob_k hp0 (hk1 p0 h0x)
    have hk : ∀ q, q ≠ x → q ≠ pa → H2[q]? = s.heap[q]? := fun q h1 h2 => (hk1 q h1).trans (hk q h1 h2)
    have hz := hz1.trans hz
    refine lv_aload_n hx hb dV_keep_21 rfl (lv_at hl 0 rfl) ?_
    refine va_get (D := G) (ci := 3) (v := .int (nI n)) (C := RV) (T := TV) (N := 4) hx hb htA inV hown hK (ob_P p1) 0 rfl rfl 2 (by decide) (htA _ wd65) (fun _ h9 => h9) rfl dV_keep_22 ?_
    refine lv_istore_n (lv' := [(2, .int (nI n)), (0, .ref x), (1, .ref p0)]) hx hb dV_keep_25 rfl hl (by decide) rfl (fun ls hl => ?_)
    refine lv_aload_n hx hb dV_keep_26 rfl (lv_at hl 1 rfl) ?_
    refine va_get (D := G) (ci := 3) (v := .ref pa) (C := RV) (T := TV) (N := 4) hx hb htA inV hown hK (ob_P p1) 0 rfl rfl 0 (by decide) (htA _ wd63) (fun _ h9 => h9) rfl dV_keep_27 ?_
    refine lv_iload_n hx hb dV_keep_30 rfl (lv_at hl 0 rfl) ?_
    refine lv_aload_n hx hb dV_keep_31 rfl (lv_at hl 2 rfl) ?_
    refine pw_aast (ci := 0) (r := (RP, TP, 3)) (F := fun q => q = x ∨ q = pa) hx hb hK p2 2 rfl rfl hp0 hn5 (by decide) hL (Or.inr rfl) dV_keep_32 (fun H6 lc6 p2 hz1 hk1 hL => ?_)
    have p1 := ob_k p1 (hk1 x (Ne.symm hpx))
    have hk : ∀ q, q ≠ x → q ≠ pa → H6[q]? = s.heap[q]? := fun q h1 h2 => (hk1 q h2).trans (hk q h1 h2)
    have hz := hz1.trans hz
    refine lv_aload_n hx hb dV_keep_33 rfl (lv_at hl 1 rfl) ?_
    refine lv_dup hx hb dV_keep_34 rfl ?_
    refine va_get (D := G) (ci := 3) (v := .int (nI n)) (C := RV) (T := TV) (N := 4) hx hb htA inV hown hK (ob_P p1) 0 rfl rfl 2 (by decide) (htA _ wd65) (fun _ h9 => h9) rfl dV_keep_35 ?_
    refine lv_iconst (v := nI 1) hx hb dV_keep_38 (by decide) ?_
    refine lv_iadd hx hb dV_keep_39 ?_
    refine pw_ti (y := nI (n + 1)) (nI_add _ _) ?_
    refine pw_put (ci := 3) (C := RV) (T := TV) (N := 4) (ty := .int) (F := fun q => q = x ∨ q = pa) hx hb htA inV tyV tyV_ok nmV hown hK p1 rfl 2 (by decide) (htA _ wd65) (fun _ h9 => h9) rfl (by decide +kernel) rfl rfl (Nat.le_of_ble_eq_true rfl) hL (Or.inl rfl) dV_keep_40 (fun H7 lc7 p1 hz1 hk1 hL => ?_)
    have p1 : ob G 3 x [.ref pa, .ref rs, .int (nI (n + 1)), .int (nI (dct O n + 1))] H7 := p1
    rw [dct_push hnew] at p1
    have p2 := aq_k p2 (hk1 pa hpx)
    have hk : ∀ q, q ≠ x → q ≠ pa → H7[q]? = s.heap[q]? := fun q h1 h2 => (hk1 q h1).trans (hk q h1 h2)
    have hz := hz1.trans hz
    refine lv_iload_n hx hb dV_keep_43 rfl (lv_at hl 0 rfl) ?_
    rw [hQ]
    exact W.iret (v := nI n) hx hb hrt (fun t ht hW => ⟨rfl, by rw [ht]; exact p1, by rw [ht]; exact p2, by rw [ht]; exact hz, by rw [ht]; exact hk⟩) hL dV_keep_44
  · refine lv_if_eq (tgt := 21) hx hb dV_keep_8 (by decide) (fun _ => ?_) (fun c9 => absurd rfl c9)
    refine lv_aload_n hx hb dV_keep_21 rfl (lv_at hl 0 rfl) ?_
    refine va_get (D := G) (ci := 3) (v := .int (nI n)) (C := RV) (T := TV) (N := 4) hx hb htA inV hown hK (ob_P p1) 0 rfl rfl 2 (by decide) (htA _ wd65) (fun _ h9 => h9) rfl dV_keep_22 ?_
    refine lv_istore_n (lv' := [(2, .int (nI n)), (0, .ref x), (1, .ref p0)]) hx hb dV_keep_25 rfl hl (by decide) rfl (fun ls hl => ?_)
    refine lv_aload_n hx hb dV_keep_26 rfl (lv_at hl 1 rfl) ?_
    refine va_get (D := G) (ci := 3) (v := .ref pa) (C := RV) (T := TV) (N := 4) hx hb htA inV hown hK (ob_P p1) 0 rfl rfl 0 (by decide) (htA _ wd63) (fun _ h9 => h9) rfl dV_keep_27 ?_
    refine lv_iload_n hx hb dV_keep_30 rfl (lv_at hl 0 rfl) ?_
    refine lv_aload_n hx hb dV_keep_31 rfl (lv_at hl 2 rfl) ?_
    refine pw_aast (ci := 0) (r := (RP, TP, 3)) (F := fun q => q = x ∨ q = pa) hx hb hK p2 2 rfl rfl hp0 hn5 (by decide) hL (Or.inr rfl) dV_keep_32 (fun H6 lc6 p2 hz1 hk1 hL => ?_)
    have p1 := ob_k p1 (hk1 x (Ne.symm hpx))
    have hk : ∀ q, q ≠ x → q ≠ pa → H6[q]? = s.heap[q]? := fun q h1 h2 => (hk1 q h2).trans (hk q h1 h2)
    have hz := hz1.trans hz
    refine lv_aload_n hx hb dV_keep_33 rfl (lv_at hl 1 rfl) ?_
    refine lv_dup hx hb dV_keep_34 rfl ?_
    refine va_get (D := G) (ci := 3) (v := .int (nI n)) (C := RV) (T := TV) (N := 4) hx hb htA inV hown hK (ob_P p1) 0 rfl rfl 2 (by decide) (htA _ wd65) (fun _ h9 => h9) rfl dV_keep_35 ?_
    refine lv_iconst (v := nI 1) hx hb dV_keep_38 (by decide) ?_
    refine lv_iadd hx hb dV_keep_39 ?_
    refine pw_ti (y := nI (n + 1)) (nI_add _ _) ?_
    refine pw_put (ci := 3) (C := RV) (T := TV) (N := 4) (ty := .int) (F := fun q => q = x ∨ q = pa) hx hb htA inV tyV tyV_ok nmV hown hK p1 rfl 2 (by decide) (htA _ wd65) (fun _ h9 => h9) rfl (by decide +kernel) rfl rfl (Nat.le_of_ble_eq_true rfl) hL (Or.inl rfl) dV_keep_40 (fun H7 lc7 p1 hz1 hk1 hL => ?_)
    have p1 : ob G 3 x [.ref pa, .ref rs, .int (nI (n + 1)), .int (nI (dct O n))] H7 := p1
    rw [dct_same hold] at p1
    have p2 := aq_k p2 (hk1 pa hpx)
    have hk : ∀ q, q ≠ x → q ≠ pa → H7[q]? = s.heap[q]? := fun q h1 h2 => (hk1 q h1).trans (hk q h1 h2)
    have hz := hz1.trans hz
    refine lv_iload_n hx hb dV_keep_43 rfl (lv_at hl 0 rfl) ?_
    rw [hQ]
    exact W.iret (v := nI n) hx hb hrt (fun t ht hW => ⟨rfl, by rw [ht]; exact p1, by rw [ht]; exact p2, by rw [ht]; exact hz, by rw [ht]; exact hk⟩) hL dV_keep_44
