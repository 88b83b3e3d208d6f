set_option maxRecDepth 100000 in
set_option maxHeartbeats 4000000 in
theorem m_table (l : Launch) (G : va_G) (cA : Nat → ClassId) (mo ao af sa ea n : Nat) (fo : Nat → Int64) (fb : Nat → Int32) (th : Int32) (a : Nat) (ha : a < 50) : Met l yM_table wsM_table ({ frames := 4, cells := 0, slots := 0, locals := 98 }) (PH G cA [.ref mo, .int (nI a)] (fun H => (mA mo ao af sa ea ∧ mV G cA mo ao af sa ea n fo fb th H))) (fun _ st o t => o = .returned (some (.int (nI (tbl (fun k => fo (64 * a + k))).length))) ∧ (∃ lw hg fS fE, mvS G cA mo ao af sa ea n fo fb th lw hg fS fE t.heap ∧ rowsOf (tbl (fun k => fo (64 * a + k))) fS fE) ∧ t.heap.size = st.heap.size ∧ ∀ q, q ≠ mo → q ≠ sa → q ≠ ea → t.heap[q]? = st.heap[q]?) 0 0 (mW mo sa ea) := by
  refine Met.ofW (cc := cM_table) (maxL := 5) (ret := (some .int)) (by decide) rfl ?_
  intro p e s m args below meth c s₁ B hml hv
  obtain ⟨hav, hKN, hA, lw, hg, fS, fE, hob, hal, hab, hsl, hel⟩ := hv
  have hK := hKN.1
  have hx := B.exec
  have hb := B.bytes
  have hrt := B.returns
  have htA : ∀ w ∈ ALL, w.before args s = true := fun w h => atoms_spec (ws := wsM_table) B.pre w (List.mem_cons_of_mem _ h)
  have hown : s.vm.findClass RM = some m.cls := findClass_of_methodNamed B.named
  have hlocks := B.notSynchronized
  refine pw_nm (fun R Q hR hQ => ?_)
  refine pw_entry (vs := [.ref mo, .int (nI a)]) hav (Nat.le_of_ble_eq_true rfl) (fun ls hl => ?_)
  have hl : lv_has ls 5 [(0, .ref mo), (1, .int (nI a))] := hl
  refine lv_iconst (v := nI 0) hx hb dM_table_0 (by decide) ?_
  refine lv_istore_n (lv' := [(2, .int (nI 0)), (0, .ref mo), (1, .int (nI a))]) hx hb dM_table_1 rfl hl (by decide) rfl (fun ls hl => ?_)
  refine lv_iconst (v := nI 0) hx hb dM_table_2 (by decide) ?_
  refine lv_istore_n (lv' := [(3, .int (nI 0)), (2, .int (nI 0)), (0, .ref mo), (1, .int (nI a))]) hx hb dM_table_3 rfl hl (by decide) rfl (fun ls hl => ?_)
  have lp : ∀ (k y : Nat) (D : List (Nat × Nat)) (fl : Nat) (H8 : Heap) (lc8 : List Loc) (lw : Int64) (hg : Int64) (fS : Nat → Int32) (fE : Nat → Int32), 64 ≤ y + k → (y ≤ 64) → (D.length ≤ y) → (64 - y ≤ fl) → ((tbl (fun k => fo (64 * a + k))) = D ++ grd (uni 64 (fun k => fo (64 * a + k))) fl y) → (rowsOf D fS fE) → (ob G 4 mo (mF th ao af n lw hg sa ea) H8) → (al (cA 0) ao 3200 fo H8) → (ai (cA 3) af 50 fb H8) → (ai (cA 1) sa 64 fS H8) → (ai (cA 1) ea 64 fE H8) → (H8.size = s.heap.size) → (∀ q, q ≠ mo → q ≠ sa → q ≠ ea → H8[q]? = s.heap[q]?) → (∀ z ∈ lc8, mW mo sa ea z.base) → ∀ ls : Array Slot, lv_has ls 5 [(0, .ref mo), (1, .int (nI a)), (2, .int (nI D.length)), (3, .int (nI y))] → W p l e R s m args below meth c H8 lc8 0 0 Q (F0 m 4 ls []) := by
    intro k
    induction k with
    | zero =>
      intro y D fl H8 lc8 lw hg fS fE hik hy64 hDy hfl hT hrows hob hal hab hsl hel hz hk hL ls hl
      have hy : y = 64 := by omega
      subst hy
      rw [grd_end, List.append_nil] at hT
      rw [← hT] at hrows hl
      refine lv_iload_n hx hb dM_table_4 rfl (lv_at hl 3 rfl) ?_
      refine lv_bipush (v := nI 64) hx hb dM_table_5 (by decide) ?_
      refine lv_icmp_ge (tgt := 67) hx hb dM_table_7 (by decide) (fun _ => ?_) (fun c9 => absurd (Int32.le_refl _) c9)
      refine lv_iload_n hx hb dM_table_67 rfl (lv_at hl 2 rfl) ?_
      rw [hQ]
      exact W.iret (v := nI (tbl (fun k => fo (64 * a + k))).length) hx hb hrt (fun t ht hW => ⟨rfl, ⟨lw, hg, fS, fE, by rw [ht]; exact ⟨hob, hal, hab, hsl, hel⟩, hrows⟩, by rw [ht]; exact hz, by rw [ht]; exact hk⟩) hL dM_table_68
    | succ k ih =>
      intro y D fl H8 lc8 lw hg fS fE hik hy64 hDy hfl hT hrows hob hal hab hsl hel hz hk hL ls hl
      refine lv_iload_n hx hb dM_table_4 rfl (lv_at hl 3 rfl) ?_
      refine lv_bipush (v := nI 64) hx hb dM_table_5 (by decide) ?_
      refine lv_icmp_ge (tgt := 67) hx hb dM_table_7 (by decide) (fun c1 => ?_) (fun c1 => ?_)
      · have hge := (nI_leI (by decide) (by omega)).mp c1
        have hy : y = 64 := by omega
        subst hy
        rw [grd_end, List.append_nil] at hT
        rw [← hT] at hrows hl
        refine lv_iload_n hx hb dM_table_67 rfl (lv_at hl 2 rfl) ?_
        rw [hQ]
        exact W.iret (v := nI (tbl (fun k => fo (64 * a + k))).length) hx hb hrt (fun t ht hW => ⟨rfl, ⟨lw, hg, fS, fE, by rw [ht]; exact ⟨hob, hal, hab, hsl, hel⟩, hrows⟩, by rw [ht]; exact hz, by rw [ht]; exact hk⟩) hL dM_table_68
      · have hlt : y < 64 := by have : ¬ 64 ≤ y := fun q => c1 ((nI_leI (by decide) (by omega)).mpr q); omega
        refine lv_bipush (v := nI 64) hx hb dM_table_10 (by decide) ?_
        refine lv_istore (lv' := [(4, .int (nI 64)), (0, .ref mo), (1, .int (nI a)), (2, .int (nI D.length)), (3, .int (nI y))]) hx hb dM_table_12 hl (by decide) rfl (fun ls hl => ?_)
        refine lv_iload_n hx hb dM_table_14 rfl (lv_at hl 4 rfl) ?_
        refine lv_iload hx hb dM_table_15 (lv_at hl 0 rfl) ?_
        refine lv_irem hx hb dM_table_17 (by decide) ?_
        refine pw_ti (y := nI (y % 64)) (pk_rem (by omega) (by decide) (by decide)) ?_
        refine lv_if_ne (tgt := 32) hx hb dM_table_18 (by decide) (fun e3 => ?_) (fun e3 => ?_)
        · have n3 : ¬ (y % 64 = 0 ∧ (uni 64 (fun k => fo (64 * a + k))) y 64 = true) := fun q9 => e3 (by rw [q9.1]; rfl)
          refine lv_iload hx hb dM_table_32 (lv_at hl 0 rfl) ?_
          refine lv_iconst (v := nI 4) hx hb dM_table_34 (by decide) ?_
          refine lv_idiv hx hb dM_table_35 (by decide) ?_
          refine pw_ti (y := nI 16) (by decide) ?_
          refine lv_istore (lv' := [(4, .int (nI 16)), (0, .ref mo), (1, .int (nI a)), (2, .int (nI D.length)), (3, .int (nI y))]) hx hb dM_table_36 hl (by decide) rfl (fun ls hl => ?_)
          refine lv_goto (tgt := 14) hx hb dM_table_38 (by decide) ?_
          refine lv_iload_n hx hb dM_table_14 rfl (lv_at hl 4 rfl) ?_
          refine lv_iload hx hb dM_table_15 (lv_at hl 0 rfl) ?_
          refine lv_irem hx hb dM_table_17 (by decide) ?_
          refine pw_ti (y := nI (y % 16)) (pk_rem (by omega) (by decide) (by decide)) ?_
          refine lv_if_ne (tgt := 32) hx hb dM_table_18 (by decide) (fun e2 => ?_) (fun e2 => ?_)
          · have n2 : ¬ (y % 16 = 0 ∧ (uni 64 (fun k => fo (64 * a + k))) y 16 = true) := fun q9 => e2 (by rw [q9.1]; rfl)
            refine lv_iload hx hb dM_table_32 (lv_at hl 0 rfl) ?_
            refine lv_iconst (v := nI 4) hx hb dM_table_34 (by decide) ?_
            refine lv_idiv hx hb dM_table_35 (by decide) ?_
            refine pw_ti (y := nI 4) (by decide) ?_
            refine lv_istore (lv' := [(4, .int (nI 4)), (0, .ref mo), (1, .int (nI a)), (2, .int (nI D.length)), (3, .int (nI y))]) hx hb dM_table_36 hl (by decide) rfl (fun ls hl => ?_)
            refine lv_goto (tgt := 14) hx hb dM_table_38 (by decide) ?_
            refine lv_iload_n hx hb dM_table_14 rfl (lv_at hl 4 rfl) ?_
            refine lv_iload hx hb dM_table_15 (lv_at hl 0 rfl) ?_
            refine lv_irem hx hb dM_table_17 (by decide) ?_
            refine pw_ti (y := nI (y % 4)) (pk_rem (by omega) (by decide) (by decide)) ?_
            refine lv_if_ne (tgt := 32) hx hb dM_table_18 (by decide) (fun e1 => ?_) (fun e1 => ?_)
            · have n1 : ¬ (y % 4 = 0 ∧ (uni 64 (fun k => fo (64 * a + k))) y 4 = true) := fun q9 => e1 (by rw [q9.1]; rfl)
              refine lv_iload hx hb dM_table_32 (lv_at hl 0 rfl) ?_
              refine lv_iconst (v := nI 4) hx hb dM_table_34 (by decide) ?_
              refine lv_idiv hx hb dM_table_35 (by decide) ?_
              refine pw_ti (y := nI 1) (by decide) ?_
              refine lv_istore (lv' := [(4, .int (nI 1)), (0, .ref mo), (1, .int (nI a)), (2, .int (nI D.length)), (3, .int (nI y))]) hx hb dM_table_36 hl (by decide) rfl (fun ls hl => ?_)
              refine lv_goto (tgt := 14) hx hb dM_table_38 (by decide) ?_
              refine lv_iload_n hx hb dM_table_14 rfl (lv_at hl 4 rfl) ?_
              refine lv_iload hx hb dM_table_15 (lv_at hl 0 rfl) ?_
              refine lv_irem hx hb dM_table_17 (by decide) ?_
              refine pw_ti (y := nI (y % 1)) (pk_rem (by omega) (by decide) (by decide)) ?_
              have hm0 : y % 1 = 0 := Nat.mod_one y
              rw [hm0]
              refine lv_if_ne (tgt := 32) hx hb dM_table_18 (by decide) (fun c9 => absurd rfl c9) (fun _ => ?_)
              refine lv_aload_n hx hb dM_table_21 rfl (lv_at hl 1 rfl) ?_
              refine lv_iload_n hx hb dM_table_22 rfl (lv_at hl 2 rfl) ?_
              refine lv_iload_n hx hb dM_table_23 rfl (lv_at hl 4 rfl) ?_
              refine lv_iload hx hb dM_table_24 (lv_at hl 0 rfl) ?_
              refine pw_call (F := mW mo sa ea) (va_runV (As := [.int (nI a), .int (nI y), .int (nI 1)]) (rest := []) ⟨hx, hb, hml, hown, htA⟩ (m_uniform l G cA mo ao af sa ea n fo th lw hg a y 1 ha (by decide) (by omega)) (cwV 3 htA (gd_V wd547 wd549 wd23 wd28 wd550) rfl rfl rfl (by decide +kernel) (by rw [hR]; exact ⟨Nat.le_of_ble_eq_true rfl, Nat.le_of_ble_eq_true rfl⟩)) (pw_V (ci := 4) (q := (RM, TM, 8)) hKN hob rfl ⟨hA.1, hob, hal⟩) rfl rfl hl.1 rfl (lv_room (Nat.le_of_ble_eq_true rfl)) dM_table_26 (by rw [hR]; exact ⟨Nat.le_of_ble_eq_true rfl, Nat.le_of_ble_eq_true rfl⟩)) hL (fun q h => Or.inl h) (fun v9 st9 t9 lc2 h0 ha9 hL hq9 => ?_)
              obtain ⟨hv9, ⟨lw3, hg4, hob⟩, hz1, hk1⟩ := hq9
              cases hv9
              rw [h0] at hz1 hk1
              generalize t9.heap = H1 at hob hz1 hk1 ⊢
              have hal := al_k hal (hk1 ao hA.1)
              have hab := ai_k hab (hk1 af hA.2.1)
              have hsl := ai_k hsl (hk1 sa hA.2.2.1)
              have hel := ai_k hel (hk1 ea hA.2.2.2.1)
              have hk : ∀ q, q ≠ mo → q ≠ sa → q ≠ ea → H1[q]? = s.heap[q]? := fun q h1 h2 h3 => (hk1 q h1).trans (hk q h1 h2 h3)
              have hz := hz1.trans hz
              have h63 := uni_63 (fun k => fo (64 * a + k)) y 1
              refine pw_ti (y := bI (uni 64 (fun k => fo (64 * a + k)) y 1)) (by rw [h63]) ?_
              rw [uni_1]
              refine lv_if_ne (tgt := 41) hx hb dM_table_29 (by decide) (fun _ => ?_) (fun c9 => absurd c9 (by decide))
              have hgz : gz (uni 64 (fun k => fo (64 * a + k))) y = 0 := (by unfold gz; rw [if_neg n3, if_neg n2, if_neg n1])
              obtain ⟨f2, rfl⟩ : ∃ f2, fl = f2 + 1 := ⟨fl - 1, by omega⟩
              rw [grd_s hlt, hgz] at hT
              refine lv_aload_n hx hb dM_table_41 rfl (lv_at hl 1 rfl) ?_
              refine va_get (D := G) (ci := 4) (v := .ref sa) (C := RM) (T := TM) (N := 8) hx hb htA inM hown hK (ob_P hob) 0 rfl rfl 6 (by decide) (htA _ wd441) (fun _ h9 => h9) rfl dM_table_42 ?_
              refine lv_iload_n hx hb dM_table_45 rfl (lv_at hl 3 rfl) ?_
              refine lv_iload_n hx hb dM_table_46 rfl (lv_at hl 4 rfl) ?_
              refine pw_iast (F := mW mo sa ea) hx hb hK hsl 1 rfl (show D.length < 64 by omega) (by decide) hL (Or.inr (Or.inl rfl)) dM_table_47 (fun H6 lc6 hsl hz1 hk1 hL => ?_)
              have hob := ob_k hob (hk1 mo (Ne.symm hA.2.2.1))
              have hal := al_k hal (hk1 ao hA.2.2.2.2.1)
              have hab := ai_k hab (hk1 af hA.2.2.2.2.2.2.1)
              have hel := ai_k hel (hk1 ea (Ne.symm hA.2.2.2.2.2.2.2.2.1))
              have hk : ∀ q, q ≠ mo → q ≠ sa → q ≠ ea → H6[q]? = s.heap[q]? := fun q h1 h2 h3 => (hk1 q h2).trans (hk q h1 h2 h3)
              have hz := hz1.trans hz
              refine lv_aload_n hx hb dM_table_48 rfl (lv_at hl 1 rfl) ?_
              refine va_get (D := G) (ci := 4) (v := .ref ea) (C := RM) (T := TM) (N := 8) hx hb htA inM hown hK (ob_P hob) 0 rfl rfl 7 (by decide) (htA _ wd442) (fun _ h9 => h9) rfl dM_table_49 ?_
              refine lv_iload_n hx hb dM_table_52 rfl (lv_at hl 3 rfl) ?_
              refine lv_iload hx hb dM_table_53 (lv_at hl 0 rfl) ?_
              refine pw_iast (F := mW mo sa ea) hx hb hK hel 1 rfl (show D.length < 64 by omega) (by decide) hL (Or.inr (Or.inr rfl)) dM_table_55 (fun H7 lc7 hel hz1 hk1 hL => ?_)
              have hob := ob_k hob (hk1 mo (Ne.symm hA.2.2.2.1))
              have hal := al_k hal (hk1 ao hA.2.2.2.2.2.1)
              have hab := ai_k hab (hk1 af hA.2.2.2.2.2.2.2.1)
              have hsl := ai_k hsl (hk1 sa hA.2.2.2.2.2.2.2.2.1)
              have hk : ∀ q, q ≠ mo → q ≠ sa → q ≠ ea → H7[q]? = s.heap[q]? := fun q h1 h2 h3 => (hk1 q h3).trans (hk q h1 h2 h3)
              have hz := hz1.trans hz
              refine lv_iinc (v := nI (D.length + 1)) (lv' := [(2, .int (nI (D.length + 1))), (4, .int (nI 1)), (0, .ref mo), (1, .int (nI a)), (3, .int (nI y))]) hx hb dM_table_56 hl (k := 3) rfl (nI_1 D.length) (by decide) rfl (fun ls hl => ?_)
              refine lv_iload_n hx hb dM_table_59 rfl (lv_at hl 4 rfl) ?_
              refine lv_iload hx hb dM_table_60 (lv_at hl 1 rfl) ?_
              refine lv_iadd hx hb dM_table_62 ?_
              refine pw_ti (y := nI (y + 1)) (nI_add _ _) ?_
              refine lv_istore_n (lv' := [(3, .int (nI (y + 1))), (2, .int (nI (D.length + 1))), (4, .int (nI 1)), (0, .ref mo), (1, .int (nI a))]) hx hb dM_table_63 rfl hl (by decide) rfl (fun ls hl => ?_)
              refine lv_goto (tgt := 4) hx hb dM_table_64 (by decide) ?_
              have hlen : D.length + 1 = (D ++ [(y, 0)]).length := by rw [List.length_append]; rfl
              rw [hlen] at hl
              exact ih (y + 1) (D ++ [(y, 0)]) f2 H7 lc7 lw3 hg4 (upd fS D.length (nI y)) (upd fE D.length (nI 1)) (by omega) (by omega) (by rw [← hlen]; omega) (by omega) (by rw [hT, List.append_assoc]; rfl) (rowsOf_s hrows y 0) hob hal hab hsl hel hz hk hL ls (lv_sub hl [3, 4, 1, 0] rfl)
            · have hm1 : y % 4 = 0 := (nI_eq (by omega) (by decide)).mp (e1.trans nI_0.symm)
              refine lv_aload_n hx hb dM_table_21 rfl (lv_at hl 1 rfl) ?_
              refine lv_iload_n hx hb dM_table_22 rfl (lv_at hl 2 rfl) ?_
              refine lv_iload_n hx hb dM_table_23 rfl (lv_at hl 4 rfl) ?_
              refine lv_iload hx hb dM_table_24 (lv_at hl 0 rfl) ?_
              refine pw_call (F := mW mo sa ea) (va_runV (As := [.int (nI a), .int (nI y), .int (nI 4)]) (rest := []) ⟨hx, hb, hml, hown, htA⟩ (m_uniform l G cA mo ao af sa ea n fo th lw hg a y 4 ha (by decide) (by omega)) (cwV 3 htA (gd_V wd547 wd549 wd23 wd28 wd550) rfl rfl rfl (by decide +kernel) (by rw [hR]; exact ⟨Nat.le_of_ble_eq_true rfl, Nat.le_of_ble_eq_true rfl⟩)) (pw_V (ci := 4) (q := (RM, TM, 8)) hKN hob rfl ⟨hA.1, hob, hal⟩) rfl rfl hl.1 rfl (lv_room (Nat.le_of_ble_eq_true rfl)) dM_table_26 (by rw [hR]; exact ⟨Nat.le_of_ble_eq_true rfl, Nat.le_of_ble_eq_true rfl⟩)) hL (fun q h => Or.inl h) (fun v9 st9 t9 lc2 h0 ha9 hL hq9 => ?_)
              obtain ⟨hv9, ⟨lw3, hg4, hob⟩, hz1, hk1⟩ := hq9
              cases hv9
              rw [h0] at hz1 hk1
              generalize t9.heap = H1 at hob hz1 hk1 ⊢
              have hal := al_k hal (hk1 ao hA.1)
              have hab := ai_k hab (hk1 af hA.2.1)
              have hsl := ai_k hsl (hk1 sa hA.2.2.1)
              have hel := ai_k hel (hk1 ea hA.2.2.2.1)
              have hk : ∀ q, q ≠ mo → q ≠ sa → q ≠ ea → H1[q]? = s.heap[q]? := fun q h1 h2 h3 => (hk1 q h1).trans (hk q h1 h2 h3)
              have hz := hz1.trans hz
              have h63 := uni_63 (fun k => fo (64 * a + k)) y 4
              refine pw_ti (y := bI (uni 64 (fun k => fo (64 * a + k)) y 4)) (by rw [h63]) ?_
              refine lv_if_ne (tgt := 41) hx hb dM_table_29 (by decide) (fun u1 => ?_) (fun u1 => ?_)
              · have hu := bI_ne.mp u1
                have hgz : gz (uni 64 (fun k => fo (64 * a + k))) y = 1 := (by unfold gz; rw [if_neg n3, if_neg n2, if_pos ⟨hm1, hu⟩])
                obtain ⟨f2, rfl⟩ : ∃ f2, fl = f2 + 1 := ⟨fl - 1, by omega⟩
                rw [grd_s hlt, hgz] at hT
                refine lv_aload_n hx hb dM_table_41 rfl (lv_at hl 1 rfl) ?_
                refine va_get (D := G) (ci := 4) (v := .ref sa) (C := RM) (T := TM) (N := 8) hx hb htA inM hown hK (ob_P hob) 0 rfl rfl 6 (by decide) (htA _ wd441) (fun _ h9 => h9) rfl dM_table_42 ?_
                refine lv_iload_n hx hb dM_table_45 rfl (lv_at hl 3 rfl) ?_
                refine lv_iload_n hx hb dM_table_46 rfl (lv_at hl 4 rfl) ?_
                refine pw_iast (F := mW mo sa ea) hx hb hK hsl 1 rfl (show D.length < 64 by omega) (by decide) hL (Or.inr (Or.inl rfl)) dM_table_47 (fun H6 lc6 hsl hz1 hk1 hL => ?_)
                have hob := ob_k hob (hk1 mo (Ne.symm hA.2.2.1))
                have hal := al_k hal (hk1 ao hA.2.2.2.2.1)
                have hab := ai_k hab (hk1 af hA.2.2.2.2.2.2.1)
                have hel := ai_k hel (hk1 ea (Ne.symm hA.2.2.2.2.2.2.2.2.1))
                have hk : ∀ q, q ≠ mo → q ≠ sa → q ≠ ea → H6[q]? = s.heap[q]? := fun q h1 h2 h3 => (hk1 q h2).trans (hk q h1 h2 h3)
                have hz := hz1.trans hz
                refine lv_aload_n hx hb dM_table_48 rfl (lv_at hl 1 rfl) ?_
                refine va_get (D := G) (ci := 4) (v := .ref ea) (C := RM) (T := TM) (N := 8) hx hb htA inM hown hK (ob_P hob) 0 rfl rfl 7 (by decide) (htA _ wd442) (fun _ h9 => h9) rfl dM_table_49 ?_
                refine lv_iload_n hx hb dM_table_52 rfl (lv_at hl 3 rfl) ?_
                refine lv_iload hx hb dM_table_53 (lv_at hl 0 rfl) ?_
                refine pw_iast (F := mW mo sa ea) hx hb hK hel 1 rfl (show D.length < 64 by omega) (by decide) hL (Or.inr (Or.inr rfl)) dM_table_55 (fun H7 lc7 hel hz1 hk1 hL => ?_)
                have hob := ob_k hob (hk1 mo (Ne.symm hA.2.2.2.1))
                have hal := al_k hal (hk1 ao hA.2.2.2.2.2.1)
                have hab := ai_k hab (hk1 af hA.2.2.2.2.2.2.2.1)
                have hsl := ai_k hsl (hk1 sa hA.2.2.2.2.2.2.2.2.1)
                have hk : ∀ q, q ≠ mo → q ≠ sa → q ≠ ea → H7[q]? = s.heap[q]? := fun q h1 h2 h3 => (hk1 q h3).trans (hk q h1 h2 h3)
                have hz := hz1.trans hz
                refine lv_iinc (v := nI (D.length + 1)) (lv' := [(2, .int (nI (D.length + 1))), (4, .int (nI 4)), (0, .ref mo), (1, .int (nI a)), (3, .int (nI y))]) hx hb dM_table_56 hl (k := 3) rfl (nI_1 D.length) (by decide) rfl (fun ls hl => ?_)
                refine lv_iload_n hx hb dM_table_59 rfl (lv_at hl 4 rfl) ?_
                refine lv_iload hx hb dM_table_60 (lv_at hl 1 rfl) ?_
                refine lv_iadd hx hb dM_table_62 ?_
                refine pw_ti (y := nI (y + 4)) (nI_add _ _) ?_
                refine lv_istore_n (lv' := [(3, .int (nI (y + 4))), (2, .int (nI (D.length + 1))), (4, .int (nI 4)), (0, .ref mo), (1, .int (nI a))]) hx hb dM_table_63 rfl hl (by decide) rfl (fun ls hl => ?_)
                refine lv_goto (tgt := 4) hx hb dM_table_64 (by decide) ?_
                have hlen : D.length + 1 = (D ++ [(y, 1)]).length := by rw [List.length_append]; rfl
                rw [hlen] at hl
                exact ih (y + 4) (D ++ [(y, 1)]) f2 H7 lc7 lw3 hg4 (upd fS D.length (nI y)) (upd fE D.length (nI 4)) (by omega) (by omega) (by rw [← hlen]; omega) (by omega) (by rw [hT, List.append_assoc]; rfl) (rowsOf_s hrows y 1) hob hal hab hsl hel hz hk hL ls (lv_sub hl [3, 4, 1, 0] rfl)
              · have hu := bI_eq.mp u1
                have n1 : ¬ (y % 4 = 0 ∧ (uni 64 (fun k => fo (64 * a + k))) y 4 = true) := fun q9 => by rw [hu] at q9; exact absurd q9.2 (by decide)
                refine lv_iload hx hb dM_table_32 (lv_at hl 0 rfl) ?_
                refine lv_iconst (v := nI 4) hx hb dM_table_34 (by decide) ?_
                refine lv_idiv hx hb dM_table_35 (by decide) ?_
                refine pw_ti (y := nI 1) (by decide) ?_
                refine lv_istore (lv' := [(4, .int (nI 1)), (0, .ref mo), (1, .int (nI a)), (2, .int (nI D.length)), (3, .int (nI y))]) hx hb dM_table_36 hl (by decide) rfl (fun ls hl => ?_)
                refine lv_goto (tgt := 14) hx hb dM_table_38 (by decide) ?_
                refine lv_iload_n hx hb dM_table_14 rfl (lv_at hl 4 rfl) ?_
                refine lv_iload hx hb dM_table_15 (lv_at hl 0 rfl) ?_
                refine lv_irem hx hb dM_table_17 (by decide) ?_
                refine pw_ti (y := nI (y % 1)) (pk_rem (by omega) (by decide) (by decide)) ?_
                have hm0 : y % 1 = 0 := Nat.mod_one y
                rw [hm0]
                refine lv_if_ne (tgt := 32) hx hb dM_table_18 (by decide) (fun c9 => absurd rfl c9) (fun _ => ?_)
                refine lv_aload_n hx hb dM_table_21 rfl (lv_at hl 1 rfl) ?_
                refine lv_iload_n hx hb dM_table_22 rfl (lv_at hl 2 rfl) ?_
                refine lv_iload_n hx hb dM_table_23 rfl (lv_at hl 4 rfl) ?_
                refine lv_iload hx hb dM_table_24 (lv_at hl 0 rfl) ?_
                refine pw_call (F := mW mo sa ea) (va_runV (As := [.int (nI a), .int (nI y), .int (nI 1)]) (rest := []) ⟨hx, hb, hml, hown, htA⟩ (m_uniform l G cA mo ao af sa ea n fo th lw3 hg4 a y 1 ha (by decide) (by omega)) (cwV 3 htA (gd_V wd547 wd549 wd23 wd28 wd550) rfl rfl rfl (by decide +kernel) (by rw [hR]; exact ⟨Nat.le_of_ble_eq_true rfl, Nat.le_of_ble_eq_true rfl⟩)) (pw_V (ci := 4) (q := (RM, TM, 8)) hKN hob rfl ⟨hA.1, hob, hal⟩) rfl rfl hl.1 rfl (lv_room (Nat.le_of_ble_eq_true rfl)) dM_table_26 (by rw [hR]; exact ⟨Nat.le_of_ble_eq_true rfl, Nat.le_of_ble_eq_true rfl⟩)) hL (fun q h => Or.inl h) (fun v9 st9 t9 lc6 h0 ha9 hL hq9 => ?_)
                obtain ⟨hv9, ⟨lw7, hg8, hob⟩, hz1, hk1⟩ := hq9
                cases hv9
                rw [h0] at hz1 hk1
                generalize t9.heap = H5 at hob hz1 hk1 ⊢
                have hal := al_k hal (hk1 ao hA.1)
                have hab := ai_k hab (hk1 af hA.2.1)
                have hsl := ai_k hsl (hk1 sa hA.2.2.1)
                have hel := ai_k hel (hk1 ea hA.2.2.2.1)
                have hk : ∀ q, q ≠ mo → q ≠ sa → q ≠ ea → H5[q]? = s.heap[q]? := fun q h1 h2 h3 => (hk1 q h1).trans (hk q h1 h2 h3)
                have hz := hz1.trans hz
                have h63 := uni_63 (fun k => fo (64 * a + k)) y 1
                refine pw_ti (y := bI (uni 64 (fun k => fo (64 * a + k)) y 1)) (by rw [h63]) ?_
                rw [uni_1]
                refine lv_if_ne (tgt := 41) hx hb dM_table_29 (by decide) (fun _ => ?_) (fun c9 => absurd c9 (by decide))
                have hgz : gz (uni 64 (fun k => fo (64 * a + k))) y = 0 := (by unfold gz; rw [if_neg n3, if_neg n2, if_neg n1])
                obtain ⟨f2, rfl⟩ : ∃ f2, fl = f2 + 1 := ⟨fl - 1, by omega⟩
                rw [grd_s hlt, hgz] at hT
                refine lv_aload_n hx hb dM_table_41 rfl (lv_at hl 1 rfl) ?_
                refine va_get (D := G) (ci := 4) (v := .ref sa) (C := RM) (T := TM) (N := 8) hx hb htA inM hown hK (ob_P hob) 0 rfl rfl 6 (by decide) (htA _ wd441) (fun _ h9 => h9) rfl dM_table_42 ?_
                refine lv_iload_n hx hb dM_table_45 rfl (lv_at hl 3 rfl) ?_
                refine lv_iload_n hx hb dM_table_46 rfl (lv_at hl 4 rfl) ?_
                refine pw_iast (F := mW mo sa ea) hx hb hK hsl 1 rfl (show D.length < 64 by omega) (by decide) hL (Or.inr (Or.inl rfl)) dM_table_47 (fun H6 lc6 hsl hz1 hk1 hL => ?_)
                have hob := ob_k hob (hk1 mo (Ne.symm hA.2.2.1))
                have hal := al_k hal (hk1 ao hA.2.2.2.2.1)
                have hab := ai_k hab (hk1 af hA.2.2.2.2.2.2.1)
                have hel := ai_k hel (hk1 ea (Ne.symm hA.2.2.2.2.2.2.2.2.1))
                have hk : ∀ q, q ≠ mo → q ≠ sa → q ≠ ea → H6[q]? = s.heap[q]? := fun q h1 h2 h3 => (hk1 q h2).trans (hk q h1 h2 h3)
                have hz := hz1.trans hz
                refine lv_aload_n hx hb dM_table_48 rfl (lv_at hl 1 rfl) ?_
                refine va_get (D := G) (ci := 4) (v := .ref ea) (C := RM) (T := TM) (N := 8) hx hb htA inM hown hK (ob_P hob) 0 rfl rfl 7 (by decide) (htA _ wd442) (fun _ h9 => h9) rfl dM_table_49 ?_
                refine lv_iload_n hx hb dM_table_52 rfl (lv_at hl 3 rfl) ?_
                refine lv_iload hx hb dM_table_53 (lv_at hl 0 rfl) ?_
                refine pw_iast (F := mW mo sa ea) hx hb hK hel 1 rfl (show D.length < 64 by omega) (by decide) hL (Or.inr (Or.inr rfl)) dM_table_55 (fun H7 lc7 hel hz1 hk1 hL => ?_)
                have hob := ob_k hob (hk1 mo (Ne.symm hA.2.2.2.1))
                have hal := al_k hal (hk1 ao hA.2.2.2.2.2.1)
                have hab := ai_k hab (hk1 af hA.2.2.2.2.2.2.2.1)
                have hsl := ai_k hsl (hk1 sa hA.2.2.2.2.2.2.2.2.1)
                have hk : ∀ q, q ≠ mo → q ≠ sa → q ≠ ea → H7[q]? = s.heap[q]? := fun q h1 h2 h3 => (hk1 q h3).trans (hk q h1 h2 h3)
                have hz := hz1.trans hz
                refine lv_iinc (v := nI (D.length + 1)) (lv' := [(2, .int (nI (D.length + 1))), (4, .int (nI 1)), (0, .ref mo), (1, .int (nI a)), (3, .int (nI y))]) hx hb dM_table_56 hl (k := 3) rfl (nI_1 D.length) (by decide) rfl (fun ls hl => ?_)
                refine lv_iload_n hx hb dM_table_59 rfl (lv_at hl 4 rfl) ?_
                refine lv_iload hx hb dM_table_60 (lv_at hl 1 rfl) ?_
                refine lv_iadd hx hb dM_table_62 ?_
                refine pw_ti (y := nI (y + 1)) (nI_add _ _) ?_
                refine lv_istore_n (lv' := [(3, .int (nI (y + 1))), (2, .int (nI (D.length + 1))), (4, .int (nI 1)), (0, .ref mo), (1, .int (nI a))]) hx hb dM_table_63 rfl hl (by decide) rfl (fun ls hl => ?_)
                refine lv_goto (tgt := 4) hx hb dM_table_64 (by decide) ?_
                have hlen : D.length + 1 = (D ++ [(y, 0)]).length := by rw [List.length_append]; rfl
                rw [hlen] at hl
                exact ih (y + 1) (D ++ [(y, 0)]) f2 H7 lc7 lw7 hg8 (upd fS D.length (nI y)) (upd fE D.length (nI 1)) (by omega) (by omega) (by rw [← hlen]; omega) (by omega) (by rw [hT, List.append_assoc]; rfl) (rowsOf_s hrows y 0) hob hal hab hsl hel hz hk hL ls (lv_sub hl [3, 4, 1, 0] rfl)
          · have hm2 : y % 16 = 0 := (nI_eq (by omega) (by decide)).mp (e2.trans nI_0.symm)
            refine lv_aload_n hx hb dM_table_21 rfl (lv_at hl 1 rfl) ?_
            refine lv_iload_n hx hb dM_table_22 rfl (lv_at hl 2 rfl) ?_
            refine lv_iload_n hx hb dM_table_23 rfl (lv_at hl 4 rfl) ?_
            refine lv_iload hx hb dM_table_24 (lv_at hl 0 rfl) ?_
            refine pw_call (F := mW mo sa ea) (va_runV (As := [.int (nI a), .int (nI y), .int (nI 16)]) (rest := []) ⟨hx, hb, hml, hown, htA⟩ (m_uniform l G cA mo ao af sa ea n fo th lw hg a y 16 ha (by decide) (by omega)) (cwV 3 htA (gd_V wd547 wd549 wd23 wd28 wd550) rfl rfl rfl (by decide +kernel) (by rw [hR]; exact ⟨Nat.le_of_ble_eq_true rfl, Nat.le_of_ble_eq_true rfl⟩)) (pw_V (ci := 4) (q := (RM, TM, 8)) hKN hob rfl ⟨hA.1, hob, hal⟩) rfl rfl hl.1 rfl (lv_room (Nat.le_of_ble_eq_true rfl)) dM_table_26 (by rw [hR]; exact ⟨Nat.le_of_ble_eq_true rfl, Nat.le_of_ble_eq_true rfl⟩)) hL (fun q h => Or.inl h) (fun v9 st9 t9 lc2 h0 ha9 hL hq9 => ?_)
            obtain ⟨hv9, ⟨lw3, hg4, hob⟩, hz1, hk1⟩ := hq9
            cases hv9
            rw [h0] at hz1 hk1
            generalize t9.heap = H1 at hob hz1 hk1 ⊢
            have hal := al_k hal (hk1 ao hA.1)
            have hab := ai_k hab (hk1 af hA.2.1)
            have hsl := ai_k hsl (hk1 sa hA.2.2.1)
            have hel := ai_k hel (hk1 ea hA.2.2.2.1)
            have hk : ∀ q, q ≠ mo → q ≠ sa → q ≠ ea → H1[q]? = s.heap[q]? := fun q h1 h2 h3 => (hk1 q h1).trans (hk q h1 h2 h3)
            have hz := hz1.trans hz
            have h63 := uni_63 (fun k => fo (64 * a + k)) y 16
            refine pw_ti (y := bI (uni 64 (fun k => fo (64 * a + k)) y 16)) (by rw [h63]) ?_
            refine lv_if_ne (tgt := 41) hx hb dM_table_29 (by decide) (fun u2 => ?_) (fun u2 => ?_)
            · have hu := bI_ne.mp u2
              have hgz : gz (uni 64 (fun k => fo (64 * a + k))) y = 2 := (by unfold gz; rw [if_neg n3, if_pos ⟨hm2, hu⟩])
              obtain ⟨f2, rfl⟩ : ∃ f2, fl = f2 + 1 := ⟨fl - 1, by omega⟩
              rw [grd_s hlt, hgz] at hT
              refine lv_aload_n hx hb dM_table_41 rfl (lv_at hl 1 rfl) ?_
              refine va_get (D := G) (ci := 4) (v := .ref sa) (C := RM) (T := TM) (N := 8) hx hb htA inM hown hK (ob_P hob) 0 rfl rfl 6 (by decide) (htA _ wd441) (fun _ h9 => h9) rfl dM_table_42 ?_
              refine lv_iload_n hx hb dM_table_45 rfl (lv_at hl 3 rfl) ?_
              refine lv_iload_n hx hb dM_table_46 rfl (lv_at hl 4 rfl) ?_
              refine pw_iast (F := mW mo sa ea) hx hb hK hsl 1 rfl (show D.length < 64 by omega) (by decide) hL (Or.inr (Or.inl rfl)) dM_table_47 (fun H6 lc6 hsl hz1 hk1 hL => ?_)
              have hob := ob_k hob (hk1 mo (Ne.symm hA.2.2.1))
              have hal := al_k hal (hk1 ao hA.2.2.2.2.1)
              have hab := ai_k hab (hk1 af hA.2.2.2.2.2.2.1)
              have hel := ai_k hel (hk1 ea (Ne.symm hA.2.2.2.2.2.2.2.2.1))
              have hk : ∀ q, q ≠ mo → q ≠ sa → q ≠ ea → H6[q]? = s.heap[q]? := fun q h1 h2 h3 => (hk1 q h2).trans (hk q h1 h2 h3)
              have hz := hz1.trans hz
              refine lv_aload_n hx hb dM_table_48 rfl (lv_at hl 1 rfl) ?_
              refine va_get (D := G) (ci := 4) (v := .ref ea) (C := RM) (T := TM) (N := 8) hx hb htA inM hown hK (ob_P hob) 0 rfl rfl 7 (by decide) (htA _ wd442) (fun _ h9 => h9) rfl dM_table_49 ?_
              refine lv_iload_n hx hb dM_table_52 rfl (lv_at hl 3 rfl) ?_
              refine lv_iload hx hb dM_table_53 (lv_at hl 0 rfl) ?_
              refine pw_iast (F := mW mo sa ea) hx hb hK hel 1 rfl (show D.length < 64 by omega) (by decide) hL (Or.inr (Or.inr rfl)) dM_table_55 (fun H7 lc7 hel hz1 hk1 hL => ?_)
              have hob := ob_k hob (hk1 mo (Ne.symm hA.2.2.2.1))
              have hal := al_k hal (hk1 ao hA.2.2.2.2.2.1)
              have hab := ai_k hab (hk1 af hA.2.2.2.2.2.2.2.1)
              have hsl := ai_k hsl (hk1 sa hA.2.2.2.2.2.2.2.2.1)
              have hk : ∀ q, q ≠ mo → q ≠ sa → q ≠ ea → H7[q]? = s.heap[q]? := fun q h1 h2 h3 => (hk1 q h3).trans (hk q h1 h2 h3)
              have hz := hz1.trans hz
              refine lv_iinc (v := nI (D.length + 1)) (lv' := [(2, .int (nI (D.length + 1))), (4, .int (nI 16)), (0, .ref mo), (1, .int (nI a)), (3, .int (nI y))]) hx hb dM_table_56 hl (k := 3) rfl (nI_1 D.length) (by decide) rfl (fun ls hl => ?_)
              refine lv_iload_n hx hb dM_table_59 rfl (lv_at hl 4 rfl) ?_
              refine lv_iload hx hb dM_table_60 (lv_at hl 1 rfl) ?_
              refine lv_iadd hx hb dM_table_62 ?_
              refine pw_ti (y := nI (y + 16)) (nI_add _ _) ?_
              refine lv_istore_n (lv' := [(3, .int (nI (y + 16))), (2, .int (nI (D.length + 1))), (4, .int (nI 16)), (0, .ref mo), (1, .int (nI a))]) hx hb dM_table_63 rfl hl (by decide) rfl (fun ls hl => ?_)
              refine lv_goto (tgt := 4) hx hb dM_table_64 (by decide) ?_
              have hlen : D.length + 1 = (D ++ [(y, 2)]).length := by rw [List.length_append]; rfl
              rw [hlen] at hl
              exact ih (y + 16) (D ++ [(y, 2)]) f2 H7 lc7 lw3 hg4 (upd fS D.length (nI y)) (upd fE D.length (nI 16)) (by omega) (by omega) (by rw [← hlen]; omega) (by omega) (by rw [hT, List.append_assoc]; rfl) (rowsOf_s hrows y 2) hob hal hab hsl hel hz hk hL ls (lv_sub hl [3, 4, 1, 0] rfl)
            · have hu := bI_eq.mp u2
              have n2 : ¬ (y % 16 = 0 ∧ (uni 64 (fun k => fo (64 * a + k))) y 16 = true) := fun q9 => by rw [hu] at q9; exact absurd q9.2 (by decide)
              refine lv_iload hx hb dM_table_32 (lv_at hl 0 rfl) ?_
              refine lv_iconst (v := nI 4) hx hb dM_table_34 (by decide) ?_
              refine lv_idiv hx hb dM_table_35 (by decide) ?_
              refine pw_ti (y := nI 4) (by decide) ?_
              refine lv_istore (lv' := [(4, .int (nI 4)), (0, .ref mo), (1, .int (nI a)), (2, .int (nI D.length)), (3, .int (nI y))]) hx hb dM_table_36 hl (by decide) rfl (fun ls hl => ?_)
              refine lv_goto (tgt := 14) hx hb dM_table_38 (by decide) ?_
              refine lv_iload_n hx hb dM_table_14 rfl (lv_at hl 4 rfl) ?_
              refine lv_iload hx hb dM_table_15 (lv_at hl 0 rfl) ?_
              refine lv_irem hx hb dM_table_17 (by decide) ?_
              refine pw_ti (y := nI (y % 4)) (pk_rem (by omega) (by decide) (by decide)) ?_
              refine lv_if_ne (tgt := 32) hx hb dM_table_18 (by decide) (fun e1 => ?_) (fun e1 => ?_)
              · have n1 : ¬ (y % 4 = 0 ∧ (uni 64 (fun k => fo (64 * a + k))) y 4 = true) := fun q9 => e1 (by rw [q9.1]; rfl)
                refine lv_iload hx hb dM_table_32 (lv_at hl 0 rfl) ?_
                refine lv_iconst (v := nI 4) hx hb dM_table_34 (by decide) ?_
                refine lv_idiv hx hb dM_table_35 (by decide) ?_
                refine pw_ti (y := nI 1) (by decide) ?_
                refine lv_istore (lv' := [(4, .int (nI 1)), (0, .ref mo), (1, .int (nI a)), (2, .int (nI D.length)), (3, .int (nI y))]) hx hb dM_table_36 hl (by decide) rfl (fun ls hl => ?_)
                refine lv_goto (tgt := 14) hx hb dM_table_38 (by decide) ?_
                refine lv_iload_n hx hb dM_table_14 rfl (lv_at hl 4 rfl) ?_
                refine lv_iload hx hb dM_table_15 (lv_at hl 0 rfl) ?_
                refine lv_irem hx hb dM_table_17 (by decide) ?_
                refine pw_ti (y := nI (y % 1)) (pk_rem (by omega) (by decide) (by decide)) ?_
                have hm0 : y % 1 = 0 := Nat.mod_one y
                rw [hm0]
                refine lv_if_ne (tgt := 32) hx hb dM_table_18 (by decide) (fun c9 => absurd rfl c9) (fun _ => ?_)
                refine lv_aload_n hx hb dM_table_21 rfl (lv_at hl 1 rfl) ?_
                refine lv_iload_n hx hb dM_table_22 rfl (lv_at hl 2 rfl) ?_
                refine lv_iload_n hx hb dM_table_23 rfl (lv_at hl 4 rfl) ?_
                refine lv_iload hx hb dM_table_24 (lv_at hl 0 rfl) ?_
                refine pw_call (F := mW mo sa ea) (va_runV (As := [.int (nI a), .int (nI y), .int (nI 1)]) (rest := []) ⟨hx, hb, hml, hown, htA⟩ (m_uniform l G cA mo ao af sa ea n fo th lw3 hg4 a y 1 ha (by decide) (by omega)) (cwV 3 htA (gd_V wd547 wd549 wd23 wd28 wd550) rfl rfl rfl (by decide +kernel) (by rw [hR]; exact ⟨Nat.le_of_ble_eq_true rfl, Nat.le_of_ble_eq_true rfl⟩)) (pw_V (ci := 4) (q := (RM, TM, 8)) hKN hob rfl ⟨hA.1, hob, hal⟩) rfl rfl hl.1 rfl (lv_room (Nat.le_of_ble_eq_true rfl)) dM_table_26 (by rw [hR]; exact ⟨Nat.le_of_ble_eq_true rfl, Nat.le_of_ble_eq_true rfl⟩)) hL (fun q h => Or.inl h) (fun v9 st9 t9 lc6 h0 ha9 hL hq9 => ?_)
                obtain ⟨hv9, ⟨lw7, hg8, hob⟩, hz1, hk1⟩ := hq9
                cases hv9
                rw [h0] at hz1 hk1
                generalize t9.heap = H5 at hob hz1 hk1 ⊢
                have hal := al_k hal (hk1 ao hA.1)
                have hab := ai_k hab (hk1 af hA.2.1)
                have hsl := ai_k hsl (hk1 sa hA.2.2.1)
                have hel := ai_k hel (hk1 ea hA.2.2.2.1)
                have hk : ∀ q, q ≠ mo → q ≠ sa → q ≠ ea → H5[q]? = s.heap[q]? := fun q h1 h2 h3 => (hk1 q h1).trans (hk q h1 h2 h3)
                have hz := hz1.trans hz
                have h63 := uni_63 (fun k => fo (64 * a + k)) y 1
                refine pw_ti (y := bI (uni 64 (fun k => fo (64 * a + k)) y 1)) (by rw [h63]) ?_
                rw [uni_1]
                refine lv_if_ne (tgt := 41) hx hb dM_table_29 (by decide) (fun _ => ?_) (fun c9 => absurd c9 (by decide))
                have hgz : gz (uni 64 (fun k => fo (64 * a + k))) y = 0 := (by unfold gz; rw [if_neg n3, if_neg n2, if_neg n1])
                obtain ⟨f2, rfl⟩ : ∃ f2, fl = f2 + 1 := ⟨fl - 1, by omega⟩
                rw [grd_s hlt, hgz] at hT
                refine lv_aload_n hx hb dM_table_41 rfl (lv_at hl 1 rfl) ?_
                refine va_get (D := G) (ci := 4) (v := .ref sa) (C := RM) (T := TM) (N := 8) hx hb htA inM hown hK (ob_P hob) 0 rfl rfl 6 (by decide) (htA _ wd441) (fun _ h9 => h9) rfl dM_table_42 ?_
                refine lv_iload_n hx hb dM_table_45 rfl (lv_at hl 3 rfl) ?_
                refine lv_iload_n hx hb dM_table_46 rfl (lv_at hl 4 rfl) ?_
                refine pw_iast (F := mW mo sa ea) hx hb hK hsl 1 rfl (show D.length < 64 by omega) (by decide) hL (Or.inr (Or.inl rfl)) dM_table_47 (fun H6 lc6 hsl hz1 hk1 hL => ?_)
                have hob := ob_k hob (hk1 mo (Ne.symm hA.2.2.1))
                have hal := al_k hal (hk1 ao hA.2.2.2.2.1)
                have hab := ai_k hab (hk1 af hA.2.2.2.2.2.2.1)
                have hel := ai_k hel (hk1 ea (Ne.symm hA.2.2.2.2.2.2.2.2.1))
                have hk : ∀ q, q ≠ mo → q ≠ sa → q ≠ ea → H6[q]? = s.heap[q]? := fun q h1 h2 h3 => (hk1 q h2).trans (hk q h1 h2 h3)
                have hz := hz1.trans hz
                refine lv_aload_n hx hb dM_table_48 rfl (lv_at hl 1 rfl) ?_
                refine va_get (D := G) (ci := 4) (v := .ref ea) (C := RM) (T := TM) (N := 8) hx hb htA inM hown hK (ob_P hob) 0 rfl rfl 7 (by decide) (htA _ wd442) (fun _ h9 => h9) rfl dM_table_49 ?_
                refine lv_iload_n hx hb dM_table_52 rfl (lv_at hl 3 rfl) ?_
                refine lv_iload hx hb dM_table_53 (lv_at hl 0 rfl) ?_
                refine pw_iast (F := mW mo sa ea) hx hb hK hel 1 rfl (show D.length < 64 by omega) (by decide) hL (Or.inr (Or.inr rfl)) dM_table_55 (fun H7 lc7 hel hz1 hk1 hL => ?_)
                have hob := ob_k hob (hk1 mo (Ne.symm hA.2.2.2.1))
                have hal := al_k hal (hk1 ao hA.2.2.2.2.2.1)
                have hab := ai_k hab (hk1 af hA.2.2.2.2.2.2.2.1)
                have hsl := ai_k hsl (hk1 sa hA.2.2.2.2.2.2.2.2.1)
                have hk : ∀ q, q ≠ mo → q ≠ sa → q ≠ ea → H7[q]? = s.heap[q]? := fun q h1 h2 h3 => (hk1 q h3).trans (hk q h1 h2 h3)
                have hz := hz1.trans hz
                refine lv_iinc (v := nI (D.length + 1)) (lv' := [(2, .int (nI (D.length + 1))), (4, .int (nI 1)), (0, .ref mo), (1, .int (nI a)), (3, .int (nI y))]) hx hb dM_table_56 hl (k := 3) rfl (nI_1 D.length) (by decide) rfl (fun ls hl => ?_)
                refine lv_iload_n hx hb dM_table_59 rfl (lv_at hl 4 rfl) ?_
                refine lv_iload hx hb dM_table_60 (lv_at hl 1 rfl) ?_
                refine lv_iadd hx hb dM_table_62 ?_
                refine pw_ti (y := nI (y + 1)) (nI_add _ _) ?_
                refine lv_istore_n (lv' := [(3, .int (nI (y + 1))), (2, .int (nI (D.length + 1))), (4, .int (nI 1)), (0, .ref mo), (1, .int (nI a))]) hx hb dM_table_63 rfl hl (by decide) rfl (fun ls hl => ?_)
                refine lv_goto (tgt := 4) hx hb dM_table_64 (by decide) ?_
                have hlen : D.length + 1 = (D ++ [(y, 0)]).length := by rw [List.length_append]; rfl
                rw [hlen] at hl
                exact ih (y + 1) (D ++ [(y, 0)]) f2 H7 lc7 lw7 hg8 (upd fS D.length (nI y)) (upd fE D.length (nI 1)) (by omega) (by omega) (by rw [← hlen]; omega) (by omega) (by rw [hT, List.append_assoc]; rfl) (rowsOf_s hrows y 0) hob hal hab hsl hel hz hk hL ls (lv_sub hl [3, 4, 1, 0] rfl)
              · have hm1 : y % 4 = 0 := (nI_eq (by omega) (by decide)).mp (e1.trans nI_0.symm)
                refine lv_aload_n hx hb dM_table_21 rfl (lv_at hl 1 rfl) ?_
                refine lv_iload_n hx hb dM_table_22 rfl (lv_at hl 2 rfl) ?_
                refine lv_iload_n hx hb dM_table_23 rfl (lv_at hl 4 rfl) ?_
                refine lv_iload hx hb dM_table_24 (lv_at hl 0 rfl) ?_
                refine pw_call (F := mW mo sa ea) (va_runV (As := [.int (nI a), .int (nI y), .int (nI 4)]) (rest := []) ⟨hx, hb, hml, hown, htA⟩ (m_uniform l G cA mo ao af sa ea n fo th lw3 hg4 a y 4 ha (by decide) (by omega)) (cwV 3 htA (gd_V wd547 wd549 wd23 wd28 wd550) rfl rfl rfl (by decide +kernel) (by rw [hR]; exact ⟨Nat.le_of_ble_eq_true rfl, Nat.le_of_ble_eq_true rfl⟩)) (pw_V (ci := 4) (q := (RM, TM, 8)) hKN hob rfl ⟨hA.1, hob, hal⟩) rfl rfl hl.1 rfl (lv_room (Nat.le_of_ble_eq_true rfl)) dM_table_26 (by rw [hR]; exact ⟨Nat.le_of_ble_eq_true rfl, Nat.le_of_ble_eq_true rfl⟩)) hL (fun q h => Or.inl h) (fun v9 st9 t9 lc6 h0 ha9 hL hq9 => ?_)
                obtain ⟨hv9, ⟨lw7, hg8, hob⟩, hz1, hk1⟩ := hq9
                cases hv9
                rw [h0] at hz1 hk1
                generalize t9.heap = H5 at hob hz1 hk1 ⊢
                have hal := al_k hal (hk1 ao hA.1)
                have hab := ai_k hab (hk1 af hA.2.1)
                have hsl := ai_k hsl (hk1 sa hA.2.2.1)
                have hel := ai_k hel (hk1 ea hA.2.2.2.1)
                have hk : ∀ q, q ≠ mo → q ≠ sa → q ≠ ea → H5[q]? = s.heap[q]? := fun q h1 h2 h3 => (hk1 q h1).trans (hk q h1 h2 h3)
                have hz := hz1.trans hz
                have h63 := uni_63 (fun k => fo (64 * a + k)) y 4
                refine pw_ti (y := bI (uni 64 (fun k => fo (64 * a + k)) y 4)) (by rw [h63]) ?_
                refine lv_if_ne (tgt := 41) hx hb dM_table_29 (by decide) (fun u1 => ?_) (fun u1 => ?_)
                · have hu := bI_ne.mp u1
                  have hgz : gz (uni 64 (fun k => fo (64 * a + k))) y = 1 := (by unfold gz; rw [if_neg n3, if_neg n2, if_pos ⟨hm1, hu⟩])
                  obtain ⟨f2, rfl⟩ : ∃ f2, fl = f2 + 1 := ⟨fl - 1, by omega⟩
                  rw [grd_s hlt, hgz] at hT
                  refine lv_aload_n hx hb dM_table_41 rfl (lv_at hl 1 rfl) ?_
                  refine va_get (D := G) (ci := 4) (v := .ref sa) (C := RM) (T := TM) (N := 8) hx hb htA inM hown hK (ob_P hob) 0 rfl rfl 6 (by decide) (htA _ wd441) (fun _ h9 => h9) rfl dM_table_42 ?_
                  refine lv_iload_n hx hb dM_table_45 rfl (lv_at hl 3 rfl) ?_
                  refine lv_iload_n hx hb dM_table_46 rfl (lv_at hl 4 rfl) ?_
                  refine pw_iast (F := mW mo sa ea) hx hb hK hsl 1 rfl (show D.length < 64 by omega) (by decide) hL (Or.inr (Or.inl rfl)) dM_table_47 (fun H6 lc6 hsl hz1 hk1 hL => ?_)
                  have hob := ob_k hob (hk1 mo (Ne.symm hA.2.2.1))
                  have hal := al_k hal (hk1 ao hA.2.2.2.2.1)
                  have hab := ai_k hab (hk1 af hA.2.2.2.2.2.2.1)
                  have hel := ai_k hel (hk1 ea (Ne.symm hA.2.2.2.2.2.2.2.2.1))
                  have hk : ∀ q, q ≠ mo → q ≠ sa → q ≠ ea → H6[q]? = s.heap[q]? := fun q h1 h2 h3 => (hk1 q h2).trans (hk q h1 h2 h3)
                  have hz := hz1.trans hz
                  refine lv_aload_n hx hb dM_table_48 rfl (lv_at hl 1 rfl) ?_
                  refine va_get (D := G) (ci := 4) (v := .ref ea) (C := RM) (T := TM) (N := 8) hx hb htA inM hown hK (ob_P hob) 0 rfl rfl 7 (by decide) (htA _ wd442) (fun _ h9 => h9) rfl dM_table_49 ?_
                  refine lv_iload_n hx hb dM_table_52 rfl (lv_at hl 3 rfl) ?_
                  refine lv_iload hx hb dM_table_53 (lv_at hl 0 rfl) ?_
                  refine pw_iast (F := mW mo sa ea) hx hb hK hel 1 rfl (show D.length < 64 by omega) (by decide) hL (Or.inr (Or.inr rfl)) dM_table_55 (fun H7 lc7 hel hz1 hk1 hL => ?_)
                  have hob := ob_k hob (hk1 mo (Ne.symm hA.2.2.2.1))
                  have hal := al_k hal (hk1 ao hA.2.2.2.2.2.1)
                  have hab := ai_k hab (hk1 af hA.2.2.2.2.2.2.2.1)
                  have hsl := ai_k hsl (hk1 sa hA.2.2.2.2.2.2.2.2.1)
                  have hk : ∀ q, q ≠ mo → q ≠ sa → q ≠ ea → H7[q]? = s.heap[q]? := fun q h1 h2 h3 => (hk1 q h3).trans (hk q h1 h2 h3)
                  have hz := hz1.trans hz
                  refine lv_iinc (v := nI (D.length + 1)) (lv' := [(2, .int (nI (D.length + 1))), (4, .int (nI 4)), (0, .ref mo), (1, .int (nI a)), (3, .int (nI y))]) hx hb dM_table_56 hl (k := 3) rfl (nI_1 D.length) (by decide) rfl (fun ls hl => ?_)
                  refine lv_iload_n hx hb dM_table_59 rfl (lv_at hl 4 rfl) ?_
                  refine lv_iload hx hb dM_table_60 (lv_at hl 1 rfl) ?_
                  refine lv_iadd hx hb dM_table_62 ?_
                  refine pw_ti (y := nI (y + 4)) (nI_add _ _) ?_
                  refine lv_istore_n (lv' := [(3, .int (nI (y + 4))), (2, .int (nI (D.length + 1))), (4, .int (nI 4)), (0, .ref mo), (1, .int (nI a))]) hx hb dM_table_63 rfl hl (by decide) rfl (fun ls hl => ?_)
                  refine lv_goto (tgt := 4) hx hb dM_table_64 (by decide) ?_
                  have hlen : D.length + 1 = (D ++ [(y, 1)]).length := by rw [List.length_append]; rfl
                  rw [hlen] at hl
                  exact ih (y + 4) (D ++ [(y, 1)]) f2 H7 lc7 lw7 hg8 (upd fS D.length (nI y)) (upd fE D.length (nI 4)) (by omega) (by omega) (by rw [← hlen]; omega) (by omega) (by rw [hT, List.append_assoc]; rfl) (rowsOf_s hrows y 1) hob hal hab hsl hel hz hk hL ls (lv_sub hl [3, 4, 1, 0] rfl)
                · have hu := bI_eq.mp u1
                  have n1 : ¬ (y % 4 = 0 ∧ (uni 64 (fun k => fo (64 * a + k))) y 4 = true) := fun q9 => by rw [hu] at q9; exact absurd q9.2 (by decide)
                  refine lv_iload hx hb dM_table_32 (lv_at hl 0 rfl) ?_
                  refine lv_iconst (v := nI 4) hx hb dM_table_34 (by decide) ?_
                  refine lv_idiv hx hb dM_table_35 (by decide) ?_
                  refine pw_ti (y := nI 1) (by decide) ?_
                  refine lv_istore (lv' := [(4, .int (nI 1)), (0, .ref mo), (1, .int (nI a)), (2, .int (nI D.length)), (3, .int (nI y))]) hx hb dM_table_36 hl (by decide) rfl (fun ls hl => ?_)
                  refine lv_goto (tgt := 14) hx hb dM_table_38 (by decide) ?_
                  refine lv_iload_n hx hb dM_table_14 rfl (lv_at hl 4 rfl) ?_
                  refine lv_iload hx hb dM_table_15 (lv_at hl 0 rfl) ?_
                  refine lv_irem hx hb dM_table_17 (by decide) ?_
                  refine pw_ti (y := nI (y % 1)) (pk_rem (by omega) (by decide) (by decide)) ?_
                  have hm0 : y % 1 = 0 := Nat.mod_one y
                  rw [hm0]
                  refine lv_if_ne (tgt := 32) hx hb dM_table_18 (by decide) (fun c9 => absurd rfl c9) (fun _ => ?_)
                  refine lv_aload_n hx hb dM_table_21 rfl (lv_at hl 1 rfl) ?_
                  refine lv_iload_n hx hb dM_table_22 rfl (lv_at hl 2 rfl) ?_
                  refine lv_iload_n hx hb dM_table_23 rfl (lv_at hl 4 rfl) ?_
                  refine lv_iload hx hb dM_table_24 (lv_at hl 0 rfl) ?_
                  refine pw_call (F := mW mo sa ea) (va_runV (As := [.int (nI a), .int (nI y), .int (nI 1)]) (rest := []) ⟨hx, hb, hml, hown, htA⟩ (m_uniform l G cA mo ao af sa ea n fo th lw7 hg8 a y 1 ha (by decide) (by omega)) (cwV 3 htA (gd_V wd547 wd549 wd23 wd28 wd550) rfl rfl rfl (by decide +kernel) (by rw [hR]; exact ⟨Nat.le_of_ble_eq_true rfl, Nat.le_of_ble_eq_true rfl⟩)) (pw_V (ci := 4) (q := (RM, TM, 8)) hKN hob rfl ⟨hA.1, hob, hal⟩) rfl rfl hl.1 rfl (lv_room (Nat.le_of_ble_eq_true rfl)) dM_table_26 (by rw [hR]; exact ⟨Nat.le_of_ble_eq_true rfl, Nat.le_of_ble_eq_true rfl⟩)) hL (fun q h => Or.inl h) (fun v9 st9 t9 lc10 h0 ha9 hL hq9 => ?_)
                  obtain ⟨hv9, ⟨lw11, hg12, hob⟩, hz1, hk1⟩ := hq9
                  cases hv9
                  rw [h0] at hz1 hk1
                  generalize t9.heap = H9 at hob hz1 hk1 ⊢
                  have hal := al_k hal (hk1 ao hA.1)
                  have hab := ai_k hab (hk1 af hA.2.1)
                  have hsl := ai_k hsl (hk1 sa hA.2.2.1)
                  have hel := ai_k hel (hk1 ea hA.2.2.2.1)
                  have hk : ∀ q, q ≠ mo → q ≠ sa → q ≠ ea → H9[q]? = s.heap[q]? := fun q h1 h2 h3 => (hk1 q h1).trans (hk q h1 h2 h3)
                  have hz := hz1.trans hz
                  have h63 := uni_63 (fun k => fo (64 * a + k)) y 1
                  refine pw_ti (y := bI (uni 64 (fun k => fo (64 * a + k)) y 1)) (by rw [h63]) ?_
                  rw [uni_1]
                  refine lv_if_ne (tgt := 41) hx hb dM_table_29 (by decide) (fun _ => ?_) (fun c9 => absurd c9 (by decide))
                  have hgz : gz (uni 64 (fun k => fo (64 * a + k))) y = 0 := (by unfold gz; rw [if_neg n3, if_neg n2, if_neg n1])
                  obtain ⟨f2, rfl⟩ : ∃ f2, fl = f2 + 1 := ⟨fl - 1, by omega⟩
                  rw [grd_s hlt, hgz] at hT
                  refine lv_aload_n hx hb dM_table_41 rfl (lv_at hl 1 rfl) ?_
                  refine va_get (D := G) (ci := 4) (v := .ref sa) (C := RM) (T := TM) (N := 8) hx hb htA inM hown hK (ob_P hob) 0 rfl rfl 6 (by decide) (htA _ wd441) (fun _ h9 => h9) rfl dM_table_42 ?_
                  refine lv_iload_n hx hb dM_table_45 rfl (lv_at hl 3 rfl) ?_
                  refine lv_iload_n hx hb dM_table_46 rfl (lv_at hl 4 rfl) ?_
                  refine pw_iast (F := mW mo sa ea) hx hb hK hsl 1 rfl (show D.length < 64 by omega) (by decide) hL (Or.inr (Or.inl rfl)) dM_table_47 (fun H6 lc6 hsl hz1 hk1 hL => ?_)
                  have hob := ob_k hob (hk1 mo (Ne.symm hA.2.2.1))
                  have hal := al_k hal (hk1 ao hA.2.2.2.2.1)
                  have hab := ai_k hab (hk1 af hA.2.2.2.2.2.2.1)
                  have hel := ai_k hel (hk1 ea (Ne.symm hA.2.2.2.2.2.2.2.2.1))
                  have hk : ∀ q, q ≠ mo → q ≠ sa → q ≠ ea → H6[q]? = s.heap[q]? := fun q h1 h2 h3 => (hk1 q h2).trans (hk q h1 h2 h3)
                  have hz := hz1.trans hz
                  refine lv_aload_n hx hb dM_table_48 rfl (lv_at hl 1 rfl) ?_
                  refine va_get (D := G) (ci := 4) (v := .ref ea) (C := RM) (T := TM) (N := 8) hx hb htA inM hown hK (ob_P hob) 0 rfl rfl 7 (by decide) (htA _ wd442) (fun _ h9 => h9) rfl dM_table_49 ?_
                  refine lv_iload_n hx hb dM_table_52 rfl (lv_at hl 3 rfl) ?_
                  refine lv_iload hx hb dM_table_53 (lv_at hl 0 rfl) ?_
                  refine pw_iast (F := mW mo sa ea) hx hb hK hel 1 rfl (show D.length < 64 by omega) (by decide) hL (Or.inr (Or.inr rfl)) dM_table_55 (fun H7 lc7 hel hz1 hk1 hL => ?_)
                  have hob := ob_k hob (hk1 mo (Ne.symm hA.2.2.2.1))
                  have hal := al_k hal (hk1 ao hA.2.2.2.2.2.1)
                  have hab := ai_k hab (hk1 af hA.2.2.2.2.2.2.2.1)
                  have hsl := ai_k hsl (hk1 sa hA.2.2.2.2.2.2.2.2.1)
                  have hk : ∀ q, q ≠ mo → q ≠ sa → q ≠ ea → H7[q]? = s.heap[q]? := fun q h1 h2 h3 => (hk1 q h3).trans (hk q h1 h2 h3)
                  have hz := hz1.trans hz
                  refine lv_iinc (v := nI (D.length + 1)) (lv' := [(2, .int (nI (D.length + 1))), (4, .int (nI 1)), (0, .ref mo), (1, .int (nI a)), (3, .int (nI y))]) hx hb dM_table_56 hl (k := 3) rfl (nI_1 D.length) (by decide) rfl (fun ls hl => ?_)
                  refine lv_iload_n hx hb dM_table_59 rfl (lv_at hl 4 rfl) ?_
                  refine lv_iload hx hb dM_table_60 (lv_at hl 1 rfl) ?_
                  refine lv_iadd hx hb dM_table_62 ?_
                  refine pw_ti (y := nI (y + 1)) (nI_add _ _) ?_
                  refine lv_istore_n (lv' := [(3, .int (nI (y + 1))), (2, .int (nI (D.length + 1))), (4, .int (nI 1)), (0, .ref mo), (1, .int (nI a))]) hx hb dM_table_63 rfl hl (by decide) rfl (fun ls hl => ?_)
                  refine lv_goto (tgt := 4) hx hb dM_table_64 (by decide) ?_
                  have hlen : D.length + 1 = (D ++ [(y, 0)]).length := by rw [List.length_append]; rfl
                  rw [hlen] at hl
                  exact ih (y + 1) (D ++ [(y, 0)]) f2 H7 lc7 lw11 hg12 (upd fS D.length (nI y)) (upd fE D.length (nI 1)) (by omega) (by omega) (by rw [← hlen]; omega) (by omega) (by rw [hT, List.append_assoc]; rfl) (rowsOf_s hrows y 0) hob hal hab hsl hel hz hk hL ls (lv_sub hl [3, 4, 1, 0] rfl)
        · have hm3 : y % 64 = 0 := (nI_eq (by omega) (by decide)).mp (e3.trans nI_0.symm)
          refine lv_aload_n hx hb dM_table_21 rfl (lv_at hl 1 rfl) ?_
          refine lv_iload_n hx hb dM_table_22 rfl (lv_at hl 2 rfl) ?_
          refine lv_iload_n hx hb dM_table_23 rfl (lv_at hl 4 rfl) ?_
          refine lv_iload hx hb dM_table_24 (lv_at hl 0 rfl) ?_
          refine pw_call (F := mW mo sa ea) (va_runV (As := [.int (nI a), .int (nI y), .int (nI 64)]) (rest := []) ⟨hx, hb, hml, hown, htA⟩ (m_uniform l G cA mo ao af sa ea n fo th lw hg a y 64 ha (by decide) (by omega)) (cwV 3 htA (gd_V wd547 wd549 wd23 wd28 wd550) rfl rfl rfl (by decide +kernel) (by rw [hR]; exact ⟨Nat.le_of_ble_eq_true rfl, Nat.le_of_ble_eq_true rfl⟩)) (pw_V (ci := 4) (q := (RM, TM, 8)) hKN hob rfl ⟨hA.1, hob, hal⟩) rfl rfl hl.1 rfl (lv_room (Nat.le_of_ble_eq_true rfl)) dM_table_26 (by rw [hR]; exact ⟨Nat.le_of_ble_eq_true rfl, Nat.le_of_ble_eq_true rfl⟩)) hL (fun q h => Or.inl h) (fun v9 st9 t9 lc2 h0 ha9 hL hq9 => ?_)
          obtain ⟨hv9, ⟨lw3, hg4, hob⟩, hz1, hk1⟩ := hq9
          cases hv9
          rw [h0] at hz1 hk1
          generalize t9.heap = H1 at hob hz1 hk1 ⊢
          have hal := al_k hal (hk1 ao hA.1)
          have hab := ai_k hab (hk1 af hA.2.1)
          have hsl := ai_k hsl (hk1 sa hA.2.2.1)
          have hel := ai_k hel (hk1 ea hA.2.2.2.1)
          have hk : ∀ q, q ≠ mo → q ≠ sa → q ≠ ea → H1[q]? = s.heap[q]? := fun q h1 h2 h3 => (hk1 q h1).trans (hk q h1 h2 h3)
          have hz := hz1.trans hz
          have h63 := uni_63 (fun k => fo (64 * a + k)) y 64
          refine pw_ti (y := bI (uni 64 (fun k => fo (64 * a + k)) y 64)) (by rw [h63]) ?_
          refine lv_if_ne (tgt := 41) hx hb dM_table_29 (by decide) (fun u3 => ?_) (fun u3 => ?_)
          · have hu := bI_ne.mp u3
            have hgz : gz (uni 64 (fun k => fo (64 * a + k))) y = 3 := (by unfold gz; rw [if_pos ⟨hm3, hu⟩])
            obtain ⟨f2, rfl⟩ : ∃ f2, fl = f2 + 1 := ⟨fl - 1, by omega⟩
            rw [grd_s hlt, hgz] at hT
            refine lv_aload_n hx hb dM_table_41 rfl (lv_at hl 1 rfl) ?_
            refine va_get (D := G) (ci := 4) (v := .ref sa) (C := RM) (T := TM) (N := 8) hx hb htA inM hown hK (ob_P hob) 0 rfl rfl 6 (by decide) (htA _ wd441) (fun _ h9 => h9) rfl dM_table_42 ?_
            refine lv_iload_n hx hb dM_table_45 rfl (lv_at hl 3 rfl) ?_
            refine lv_iload_n hx hb dM_table_46 rfl (lv_at hl 4 rfl) ?_
            refine pw_iast (F := mW mo sa ea) hx hb hK hsl 1 rfl (show D.length < 64 by omega) (by decide) hL (Or.inr (Or.inl rfl)) dM_table_47 (fun H6 lc6 hsl hz1 hk1 hL => ?_)
            have hob := ob_k hob (hk1 mo (Ne.symm hA.2.2.1))
            have hal := al_k hal (hk1 ao hA.2.2.2.2.1)
            have hab := ai_k hab (hk1 af hA.2.2.2.2.2.2.1)
            have hel := ai_k hel (hk1 ea (Ne.symm hA.2.2.2.2.2.2.2.2.1))
            have hk : ∀ q, q ≠ mo → q ≠ sa → q ≠ ea → H6[q]? = s.heap[q]? := fun q h1 h2 h3 => (hk1 q h2).trans (hk q h1 h2 h3)
            have hz := hz1.trans hz
            refine lv_aload_n hx hb dM_table_48 rfl (lv_at hl 1 rfl) ?_
            refine va_get (D := G) (ci := 4) (v := .ref ea) (C := RM) (T := TM) (N := 8) hx hb htA inM hown hK (ob_P hob) 0 rfl rfl 7 (by decide) (htA _ wd442) (fun _ h9 => h9) rfl dM_table_49 ?_
            refine lv_iload_n hx hb dM_table_52 rfl (lv_at hl 3 rfl) ?_
            refine lv_iload hx hb dM_table_53 (lv_at hl 0 rfl) ?_
            refine pw_iast (F := mW mo sa ea) hx hb hK hel 1 rfl (show D.length < 64 by omega) (by decide) hL (Or.inr (Or.inr rfl)) dM_table_55 (fun H7 lc7 hel hz1 hk1 hL => ?_)
            have hob := ob_k hob (hk1 mo (Ne.symm hA.2.2.2.1))
            have hal := al_k hal (hk1 ao hA.2.2.2.2.2.1)
            have hab := ai_k hab (hk1 af hA.2.2.2.2.2.2.2.1)
            have hsl := ai_k hsl (hk1 sa hA.2.2.2.2.2.2.2.2.1)
            have hk : ∀ q, q ≠ mo → q ≠ sa → q ≠ ea → H7[q]? = s.heap[q]? := fun q h1 h2 h3 => (hk1 q h3).trans (hk q h1 h2 h3)
            have hz := hz1.trans hz
            refine lv_iinc (v := nI (D.length + 1)) (lv' := [(2, .int (nI (D.length + 1))), (4, .int (nI 64)), (0, .ref mo), (1, .int (nI a)), (3, .int (nI y))]) hx hb dM_table_56 hl (k := 3) rfl (nI_1 D.length) (by decide) rfl (fun ls hl => ?_)
            refine lv_iload_n hx hb dM_table_59 rfl (lv_at hl 4 rfl) ?_
            refine lv_iload hx hb dM_table_60 (lv_at hl 1 rfl) ?_
            refine lv_iadd hx hb dM_table_62 ?_
            refine pw_ti (y := nI (y + 64)) (nI_add _ _) ?_
            refine lv_istore_n (lv' := [(3, .int (nI (y + 64))), (2, .int (nI (D.length + 1))), (4, .int (nI 64)), (0, .ref mo), (1, .int (nI a))]) hx hb dM_table_63 rfl hl (by decide) rfl (fun ls hl => ?_)
            refine lv_goto (tgt := 4) hx hb dM_table_64 (by decide) ?_
            have hlen : D.length + 1 = (D ++ [(y, 3)]).length := by rw [List.length_append]; rfl
            rw [hlen] at hl
            exact ih (y + 64) (D ++ [(y, 3)]) f2 H7 lc7 lw3 hg4 (upd fS D.length (nI y)) (upd fE D.length (nI 64)) (by omega) (by omega) (by rw [← hlen]; omega) (by omega) (by rw [hT, List.append_assoc]; rfl) (rowsOf_s hrows y 3) hob hal hab hsl hel hz hk hL ls (lv_sub hl [3, 4, 1, 0] rfl)
          · have hu := bI_eq.mp u3
            have n3 : ¬ (y % 64 = 0 ∧ (uni 64 (fun k => fo (64 * a + k))) y 64 = true) := fun q9 => by rw [hu] at q9; exact absurd q9.2 (by decide)
            refine lv_iload hx hb dM_table_32 (lv_at hl 0 rfl) ?_
            refine lv_iconst (v := nI 4) hx hb dM_table_34 (by decide) ?_
            refine lv_idiv hx hb dM_table_35 (by decide) ?_
            refine pw_ti (y := nI 16) (by decide) ?_
            refine lv_istore (lv' := [(4, .int (nI 16)), (0, .ref mo), (1, .int (nI a)), (2, .int (nI D.length)), (3, .int (nI y))]) hx hb dM_table_36 hl (by decide) rfl (fun ls hl => ?_)
            refine lv_goto (tgt := 14) hx hb dM_table_38 (by decide) ?_
            refine lv_iload_n hx hb dM_table_14 rfl (lv_at hl 4 rfl) ?_
            refine lv_iload hx hb dM_table_15 (lv_at hl 0 rfl) ?_
            refine lv_irem hx hb dM_table_17 (by decide) ?_
            refine pw_ti (y := nI (y % 16)) (pk_rem (by omega) (by decide) (by decide)) ?_
            refine lv_if_ne (tgt := 32) hx hb dM_table_18 (by decide) (fun e2 => ?_) (fun e2 => ?_)
            · have n2 : ¬ (y % 16 = 0 ∧ (uni 64 (fun k => fo (64 * a + k))) y 16 = true) := fun q9 => e2 (by rw [q9.1]; rfl)
              refine lv_iload hx hb dM_table_32 (lv_at hl 0 rfl) ?_
              refine lv_iconst (v := nI 4) hx hb dM_table_34 (by decide) ?_
              refine lv_idiv hx hb dM_table_35 (by decide) ?_
              refine pw_ti (y := nI 4) (by decide) ?_
              refine lv_istore (lv' := [(4, .int (nI 4)), (0, .ref mo), (1, .int (nI a)), (2, .int (nI D.length)), (3, .int (nI y))]) hx hb dM_table_36 hl (by decide) rfl (fun ls hl => ?_)
              refine lv_goto (tgt := 14) hx hb dM_table_38 (by decide) ?_
              refine lv_iload_n hx hb dM_table_14 rfl (lv_at hl 4 rfl) ?_
              refine lv_iload hx hb dM_table_15 (lv_at hl 0 rfl) ?_
              refine lv_irem hx hb dM_table_17 (by decide) ?_
              refine pw_ti (y := nI (y % 4)) (pk_rem (by omega) (by decide) (by decide)) ?_
              refine lv_if_ne (tgt := 32) hx hb dM_table_18 (by decide) (fun e1 => ?_) (fun e1 => ?_)
              · have n1 : ¬ (y % 4 = 0 ∧ (uni 64 (fun k => fo (64 * a + k))) y 4 = true) := fun q9 => e1 (by rw [q9.1]; rfl)
                refine lv_iload hx hb dM_table_32 (lv_at hl 0 rfl) ?_
                refine lv_iconst (v := nI 4) hx hb dM_table_34 (by decide) ?_
                refine lv_idiv hx hb dM_table_35 (by decide) ?_
                refine pw_ti (y := nI 1) (by decide) ?_
                refine lv_istore (lv' := [(4, .int (nI 1)), (0, .ref mo), (1, .int (nI a)), (2, .int (nI D.length)), (3, .int (nI y))]) hx hb dM_table_36 hl (by decide) rfl (fun ls hl => ?_)
                refine lv_goto (tgt := 14) hx hb dM_table_38 (by decide) ?_
                refine lv_iload_n hx hb dM_table_14 rfl (lv_at hl 4 rfl) ?_
                refine lv_iload hx hb dM_table_15 (lv_at hl 0 rfl) ?_
                refine lv_irem hx hb dM_table_17 (by decide) ?_
                refine pw_ti (y := nI (y % 1)) (pk_rem (by omega) (by decide) (by decide)) ?_
                have hm0 : y % 1 = 0 := Nat.mod_one y
                rw [hm0]
                refine lv_if_ne (tgt := 32) hx hb dM_table_18 (by decide) (fun c9 => absurd rfl c9) (fun _ => ?_)
                refine lv_aload_n hx hb dM_table_21 rfl (lv_at hl 1 rfl) ?_
                refine lv_iload_n hx hb dM_table_22 rfl (lv_at hl 2 rfl) ?_
                refine lv_iload_n hx hb dM_table_23 rfl (lv_at hl 4 rfl) ?_
                refine lv_iload hx hb dM_table_24 (lv_at hl 0 rfl) ?_
                refine pw_call (F := mW mo sa ea) (va_runV (As := [.int (nI a), .int (nI y), .int (nI 1)]) (rest := []) ⟨hx, hb, hml, hown, htA⟩ (m_uniform l G cA mo ao af sa ea n fo th lw3 hg4 a y 1 ha (by decide) (by omega)) (cwV 3 htA (gd_V wd547 wd549 wd23 wd28 wd550) rfl rfl rfl (by decide +kernel) (by rw [hR]; exact ⟨Nat.le_of_ble_eq_true rfl, Nat.le_of_ble_eq_true rfl⟩)) (pw_V (ci := 4) (q := (RM, TM, 8)) hKN hob rfl ⟨hA.1, hob, hal⟩) rfl rfl hl.1 rfl (lv_room (Nat.le_of_ble_eq_true rfl)) dM_table_26 (by rw [hR]; exact ⟨Nat.le_of_ble_eq_true rfl, Nat.le_of_ble_eq_true rfl⟩)) hL (fun q h => Or.inl h) (fun v9 st9 t9 lc6 h0 ha9 hL hq9 => ?_)
                obtain ⟨hv9, ⟨lw7, hg8, hob⟩, hz1, hk1⟩ := hq9
                cases hv9
                rw [h0] at hz1 hk1
                generalize t9.heap = H5 at hob hz1 hk1 ⊢
                have hal := al_k hal (hk1 ao hA.1)
                have hab := ai_k hab (hk1 af hA.2.1)
                have hsl := ai_k hsl (hk1 sa hA.2.2.1)
                have hel := ai_k hel (hk1 ea hA.2.2.2.1)
                have hk : ∀ q, q ≠ mo → q ≠ sa → q ≠ ea → H5[q]? = s.heap[q]? := fun q h1 h2 h3 => (hk1 q h1).trans (hk q h1 h2 h3)
                have hz := hz1.trans hz
                have h63 := uni_63 (fun k => fo (64 * a + k)) y 1
                refine pw_ti (y := bI (uni 64 (fun k => fo (64 * a + k)) y 1)) (by rw [h63]) ?_
                rw [uni_1]
                refine lv_if_ne (tgt := 41) hx hb dM_table_29 (by decide) (fun _ => ?_) (fun c9 => absurd c9 (by decide))
                have hgz : gz (uni 64 (fun k => fo (64 * a + k))) y = 0 := (by unfold gz; rw [if_neg n3, if_neg n2, if_neg n1])
                obtain ⟨f2, rfl⟩ : ∃ f2, fl = f2 + 1 := ⟨fl - 1, by omega⟩
                rw [grd_s hlt, hgz] at hT
                refine lv_aload_n hx hb dM_table_41 rfl (lv_at hl 1 rfl) ?_
                refine va_get (D := G) (ci := 4) (v := .ref sa) (C := RM) (T := TM) (N := 8) hx hb htA inM hown hK (ob_P hob) 0 rfl rfl 6 (by decide) (htA _ wd441) (fun _ h9 => h9) rfl dM_table_42 ?_
                refine lv_iload_n hx hb dM_table_45 rfl (lv_at hl 3 rfl) ?_
                refine lv_iload_n hx hb dM_table_46 rfl (lv_at hl 4 rfl) ?_
                refine pw_iast (F := mW mo sa ea) hx hb hK hsl 1 rfl (show D.length < 64 by omega) (by decide) hL (Or.inr (Or.inl rfl)) dM_table_47 (fun H6 lc6 hsl hz1 hk1 hL => ?_)
                have hob := ob_k hob (hk1 mo (Ne.symm hA.2.2.1))
                have hal := al_k hal (hk1 ao hA.2.2.2.2.1)
                have hab := ai_k hab (hk1 af hA.2.2.2.2.2.2.1)
                have hel := ai_k hel (hk1 ea (Ne.symm hA.2.2.2.2.2.2.2.2.1))
                have hk : ∀ q, q ≠ mo → q ≠ sa → q ≠ ea → H6[q]? = s.heap[q]? := fun q h1 h2 h3 => (hk1 q h2).trans (hk q h1 h2 h3)
                have hz := hz1.trans hz
                refine lv_aload_n hx hb dM_table_48 rfl (lv_at hl 1 rfl) ?_
                refine va_get (D := G) (ci := 4) (v := .ref ea) (C := RM) (T := TM) (N := 8) hx hb htA inM hown hK (ob_P hob) 0 rfl rfl 7 (by decide) (htA _ wd442) (fun _ h9 => h9) rfl dM_table_49 ?_
                refine lv_iload_n hx hb dM_table_52 rfl (lv_at hl 3 rfl) ?_
                refine lv_iload hx hb dM_table_53 (lv_at hl 0 rfl) ?_
                refine pw_iast (F := mW mo sa ea) hx hb hK hel 1 rfl (show D.length < 64 by omega) (by decide) hL (Or.inr (Or.inr rfl)) dM_table_55 (fun H7 lc7 hel hz1 hk1 hL => ?_)
                have hob := ob_k hob (hk1 mo (Ne.symm hA.2.2.2.1))
                have hal := al_k hal (hk1 ao hA.2.2.2.2.2.1)
                have hab := ai_k hab (hk1 af hA.2.2.2.2.2.2.2.1)
                have hsl := ai_k hsl (hk1 sa hA.2.2.2.2.2.2.2.2.1)
                have hk : ∀ q, q ≠ mo → q ≠ sa → q ≠ ea → H7[q]? = s.heap[q]? := fun q h1 h2 h3 => (hk1 q h3).trans (hk q h1 h2 h3)
                have hz := hz1.trans hz
                refine lv_iinc (v := nI (D.length + 1)) (lv' := [(2, .int (nI (D.length + 1))), (4, .int (nI 1)), (0, .ref mo), (1, .int (nI a)), (3, .int (nI y))]) hx hb dM_table_56 hl (k := 3) rfl (nI_1 D.length) (by decide) rfl (fun ls hl => ?_)
                refine lv_iload_n hx hb dM_table_59 rfl (lv_at hl 4 rfl) ?_
                refine lv_iload hx hb dM_table_60 (lv_at hl 1 rfl) ?_
                refine lv_iadd hx hb dM_table_62 ?_
                refine pw_ti (y := nI (y + 1)) (nI_add _ _) ?_
                refine lv_istore_n (lv' := [(3, .int (nI (y + 1))), (2, .int (nI (D.length + 1))), (4, .int (nI 1)), (0, .ref mo), (1, .int (nI a))]) hx hb dM_table_63 rfl hl (by decide) rfl (fun ls hl => ?_)
                refine lv_goto (tgt := 4) hx hb dM_table_64 (by decide) ?_
                have hlen : D.length + 1 = (D ++ [(y, 0)]).length := by rw [List.length_append]; rfl
                rw [hlen] at hl
                exact ih (y + 1) (D ++ [(y, 0)]) f2 H7 lc7 lw7 hg8 (upd fS D.length (nI y)) (upd fE D.length (nI 1)) (by omega) (by omega) (by rw [← hlen]; omega) (by omega) (by rw [hT, List.append_assoc]; rfl) (rowsOf_s hrows y 0) hob hal hab hsl hel hz hk hL ls (lv_sub hl [3, 4, 1, 0] rfl)
              · have hm1 : y % 4 = 0 := (nI_eq (by omega) (by decide)).mp (e1.trans nI_0.symm)
                refine lv_aload_n hx hb dM_table_21 rfl (lv_at hl 1 rfl) ?_
                refine lv_iload_n hx hb dM_table_22 rfl (lv_at hl 2 rfl) ?_
                refine lv_iload_n hx hb dM_table_23 rfl (lv_at hl 4 rfl) ?_
                refine lv_iload hx hb dM_table_24 (lv_at hl 0 rfl) ?_
                refine pw_call (F := mW mo sa ea) (va_runV (As := [.int (nI a), .int (nI y), .int (nI 4)]) (rest := []) ⟨hx, hb, hml, hown, htA⟩ (m_uniform l G cA mo ao af sa ea n fo th lw3 hg4 a y 4 ha (by decide) (by omega)) (cwV 3 htA (gd_V wd547 wd549 wd23 wd28 wd550) rfl rfl rfl (by decide +kernel) (by rw [hR]; exact ⟨Nat.le_of_ble_eq_true rfl, Nat.le_of_ble_eq_true rfl⟩)) (pw_V (ci := 4) (q := (RM, TM, 8)) hKN hob rfl ⟨hA.1, hob, hal⟩) rfl rfl hl.1 rfl (lv_room (Nat.le_of_ble_eq_true rfl)) dM_table_26 (by rw [hR]; exact ⟨Nat.le_of_ble_eq_true rfl, Nat.le_of_ble_eq_true rfl⟩)) hL (fun q h => Or.inl h) (fun v9 st9 t9 lc6 h0 ha9 hL hq9 => ?_)
                obtain ⟨hv9, ⟨lw7, hg8, hob⟩, hz1, hk1⟩ := hq9
                cases hv9
                rw [h0] at hz1 hk1
                generalize t9.heap = H5 at hob hz1 hk1 ⊢
                have hal := al_k hal (hk1 ao hA.1)
                have hab := ai_k hab (hk1 af hA.2.1)
                have hsl := ai_k hsl (hk1 sa hA.2.2.1)
                have hel := ai_k hel (hk1 ea hA.2.2.2.1)
                have hk : ∀ q, q ≠ mo → q ≠ sa → q ≠ ea → H5[q]? = s.heap[q]? := fun q h1 h2 h3 => (hk1 q h1).trans (hk q h1 h2 h3)
                have hz := hz1.trans hz
                have h63 := uni_63 (fun k => fo (64 * a + k)) y 4
                refine pw_ti (y := bI (uni 64 (fun k => fo (64 * a + k)) y 4)) (by rw [h63]) ?_
                refine lv_if_ne (tgt := 41) hx hb dM_table_29 (by decide) (fun u1 => ?_) (fun u1 => ?_)
                · have hu := bI_ne.mp u1
                  have hgz : gz (uni 64 (fun k => fo (64 * a + k))) y = 1 := (by unfold gz; rw [if_neg n3, if_neg n2, if_pos ⟨hm1, hu⟩])
                  obtain ⟨f2, rfl⟩ : ∃ f2, fl = f2 + 1 := ⟨fl - 1, by omega⟩
                  rw [grd_s hlt, hgz] at hT
                  refine lv_aload_n hx hb dM_table_41 rfl (lv_at hl 1 rfl) ?_
                  refine va_get (D := G) (ci := 4) (v := .ref sa) (C := RM) (T := TM) (N := 8) hx hb htA inM hown hK (ob_P hob) 0 rfl rfl 6 (by decide) (htA _ wd441) (fun _ h9 => h9) rfl dM_table_42 ?_
                  refine lv_iload_n hx hb dM_table_45 rfl (lv_at hl 3 rfl) ?_
                  refine lv_iload_n hx hb dM_table_46 rfl (lv_at hl 4 rfl) ?_
                  refine pw_iast (F := mW mo sa ea) hx hb hK hsl 1 rfl (show D.length < 64 by omega) (by decide) hL (Or.inr (Or.inl rfl)) dM_table_47 (fun H6 lc6 hsl hz1 hk1 hL => ?_)
                  have hob := ob_k hob (hk1 mo (Ne.symm hA.2.2.1))
                  have hal := al_k hal (hk1 ao hA.2.2.2.2.1)
                  have hab := ai_k hab (hk1 af hA.2.2.2.2.2.2.1)
                  have hel := ai_k hel (hk1 ea (Ne.symm hA.2.2.2.2.2.2.2.2.1))
                  have hk : ∀ q, q ≠ mo → q ≠ sa → q ≠ ea → H6[q]? = s.heap[q]? := fun q h1 h2 h3 => (hk1 q h2).trans (hk q h1 h2 h3)
                  have hz := hz1.trans hz
                  refine lv_aload_n hx hb dM_table_48 rfl (lv_at hl 1 rfl) ?_
                  refine va_get (D := G) (ci := 4) (v := .ref ea) (C := RM) (T := TM) (N := 8) hx hb htA inM hown hK (ob_P hob) 0 rfl rfl 7 (by decide) (htA _ wd442) (fun _ h9 => h9) rfl dM_table_49 ?_
                  refine lv_iload_n hx hb dM_table_52 rfl (lv_at hl 3 rfl) ?_
                  refine lv_iload hx hb dM_table_53 (lv_at hl 0 rfl) ?_
                  refine pw_iast (F := mW mo sa ea) hx hb hK hel 1 rfl (show D.length < 64 by omega) (by decide) hL (Or.inr (Or.inr rfl)) dM_table_55 (fun H7 lc7 hel hz1 hk1 hL => ?_)
                  have hob := ob_k hob (hk1 mo (Ne.symm hA.2.2.2.1))
                  have hal := al_k hal (hk1 ao hA.2.2.2.2.2.1)
                  have hab := ai_k hab (hk1 af hA.2.2.2.2.2.2.2.1)
                  have hsl := ai_k hsl (hk1 sa hA.2.2.2.2.2.2.2.2.1)
                  have hk : ∀ q, q ≠ mo → q ≠ sa → q ≠ ea → H7[q]? = s.heap[q]? := fun q h1 h2 h3 => (hk1 q h3).trans (hk q h1 h2 h3)
                  have hz := hz1.trans hz
                  refine lv_iinc (v := nI (D.length + 1)) (lv' := [(2, .int (nI (D.length + 1))), (4, .int (nI 4)), (0, .ref mo), (1, .int (nI a)), (3, .int (nI y))]) hx hb dM_table_56 hl (k := 3) rfl (nI_1 D.length) (by decide) rfl (fun ls hl => ?_)
                  refine lv_iload_n hx hb dM_table_59 rfl (lv_at hl 4 rfl) ?_
                  refine lv_iload hx hb dM_table_60 (lv_at hl 1 rfl) ?_
                  refine lv_iadd hx hb dM_table_62 ?_
                  refine pw_ti (y := nI (y + 4)) (nI_add _ _) ?_
                  refine lv_istore_n (lv' := [(3, .int (nI (y + 4))), (2, .int (nI (D.length + 1))), (4, .int (nI 4)), (0, .ref mo), (1, .int (nI a))]) hx hb dM_table_63 rfl hl (by decide) rfl (fun ls hl => ?_)
                  refine lv_goto (tgt := 4) hx hb dM_table_64 (by decide) ?_
                  have hlen : D.length + 1 = (D ++ [(y, 1)]).length := by rw [List.length_append]; rfl
                  rw [hlen] at hl
                  exact ih (y + 4) (D ++ [(y, 1)]) f2 H7 lc7 lw7 hg8 (upd fS D.length (nI y)) (upd fE D.length (nI 4)) (by omega) (by omega) (by rw [← hlen]; omega) (by omega) (by rw [hT, List.append_assoc]; rfl) (rowsOf_s hrows y 1) hob hal hab hsl hel hz hk hL ls (lv_sub hl [3, 4, 1, 0] rfl)
                · have hu := bI_eq.mp u1
                  have n1 : ¬ (y % 4 = 0 ∧ (uni 64 (fun k => fo (64 * a + k))) y 4 = true) := fun q9 => by rw [hu] at q9; exact absurd q9.2 (by decide)
                  refine lv_iload hx hb dM_table_32 (lv_at hl 0 rfl) ?_
                  refine lv_iconst (v := nI 4) hx hb dM_table_34 (by decide) ?_
                  refine lv_idiv hx hb dM_table_35 (by decide) ?_
                  refine pw_ti (y := nI 1) (by decide) ?_
                  refine lv_istore (lv' := [(4, .int (nI 1)), (0, .ref mo), (1, .int (nI a)), (2, .int (nI D.length)), (3, .int (nI y))]) hx hb dM_table_36 hl (by decide) rfl (fun ls hl => ?_)
                  refine lv_goto (tgt := 14) hx hb dM_table_38 (by decide) ?_
                  refine lv_iload_n hx hb dM_table_14 rfl (lv_at hl 4 rfl) ?_
                  refine lv_iload hx hb dM_table_15 (lv_at hl 0 rfl) ?_
                  refine lv_irem hx hb dM_table_17 (by decide) ?_
                  refine pw_ti (y := nI (y % 1)) (pk_rem (by omega) (by decide) (by decide)) ?_
                  have hm0 : y % 1 = 0 := Nat.mod_one y
                  rw [hm0]
                  refine lv_if_ne (tgt := 32) hx hb dM_table_18 (by decide) (fun c9 => absurd rfl c9) (fun _ => ?_)
                  refine lv_aload_n hx hb dM_table_21 rfl (lv_at hl 1 rfl) ?_
                  refine lv_iload_n hx hb dM_table_22 rfl (lv_at hl 2 rfl) ?_
                  refine lv_iload_n hx hb dM_table_23 rfl (lv_at hl 4 rfl) ?_
                  refine lv_iload hx hb dM_table_24 (lv_at hl 0 rfl) ?_
                  refine pw_call (F := mW mo sa ea) (va_runV (As := [.int (nI a), .int (nI y), .int (nI 1)]) (rest := []) ⟨hx, hb, hml, hown, htA⟩ (m_uniform l G cA mo ao af sa ea n fo th lw7 hg8 a y 1 ha (by decide) (by omega)) (cwV 3 htA (gd_V wd547 wd549 wd23 wd28 wd550) rfl rfl rfl (by decide +kernel) (by rw [hR]; exact ⟨Nat.le_of_ble_eq_true rfl, Nat.le_of_ble_eq_true rfl⟩)) (pw_V (ci := 4) (q := (RM, TM, 8)) hKN hob rfl ⟨hA.1, hob, hal⟩) rfl rfl hl.1 rfl (lv_room (Nat.le_of_ble_eq_true rfl)) dM_table_26 (by rw [hR]; exact ⟨Nat.le_of_ble_eq_true rfl, Nat.le_of_ble_eq_true rfl⟩)) hL (fun q h => Or.inl h) (fun v9 st9 t9 lc10 h0 ha9 hL hq9 => ?_)
                  obtain ⟨hv9, ⟨lw11, hg12, hob⟩, hz1, hk1⟩ := hq9
                  cases hv9
                  rw [h0] at hz1 hk1
                  generalize t9.heap = H9 at hob hz1 hk1 ⊢
                  have hal := al_k hal (hk1 ao hA.1)
                  have hab := ai_k hab (hk1 af hA.2.1)
                  have hsl := ai_k hsl (hk1 sa hA.2.2.1)
                  have hel := ai_k hel (hk1 ea hA.2.2.2.1)
                  have hk : ∀ q, q ≠ mo → q ≠ sa → q ≠ ea → H9[q]? = s.heap[q]? := fun q h1 h2 h3 => (hk1 q h1).trans (hk q h1 h2 h3)
                  have hz := hz1.trans hz
                  have h63 := uni_63 (fun k => fo (64 * a + k)) y 1
                  refine pw_ti (y := bI (uni 64 (fun k => fo (64 * a + k)) y 1)) (by rw [h63]) ?_
                  rw [uni_1]
                  refine lv_if_ne (tgt := 41) hx hb dM_table_29 (by decide) (fun _ => ?_) (fun c9 => absurd c9 (by decide))
                  have hgz : gz (uni 64 (fun k => fo (64 * a + k))) y = 0 := (by unfold gz; rw [if_neg n3, if_neg n2, if_neg n1])
                  obtain ⟨f2, rfl⟩ : ∃ f2, fl = f2 + 1 := ⟨fl - 1, by omega⟩
                  rw [grd_s hlt, hgz] at hT
                  refine lv_aload_n hx hb dM_table_41 rfl (lv_at hl 1 rfl) ?_
                  refine va_get (D := G) (ci := 4) (v := .ref sa) (C := RM) (T := TM) (N := 8) hx hb htA inM hown hK (ob_P hob) 0 rfl rfl 6 (by decide) (htA _ wd441) (fun _ h9 => h9) rfl dM_table_42 ?_
                  refine lv_iload_n hx hb dM_table_45 rfl (lv_at hl 3 rfl) ?_
                  refine lv_iload_n hx hb dM_table_46 rfl (lv_at hl 4 rfl) ?_
                  refine pw_iast (F := mW mo sa ea) hx hb hK hsl 1 rfl (show D.length < 64 by omega) (by decide) hL (Or.inr (Or.inl rfl)) dM_table_47 (fun H6 lc6 hsl hz1 hk1 hL => ?_)
                  have hob := ob_k hob (hk1 mo (Ne.symm hA.2.2.1))
                  have hal := al_k hal (hk1 ao hA.2.2.2.2.1)
                  have hab := ai_k hab (hk1 af hA.2.2.2.2.2.2.1)
                  have hel := ai_k hel (hk1 ea (Ne.symm hA.2.2.2.2.2.2.2.2.1))
                  have hk : ∀ q, q ≠ mo → q ≠ sa → q ≠ ea → H6[q]? = s.heap[q]? := fun q h1 h2 h3 => (hk1 q h2).trans (hk q h1 h2 h3)
                  have hz := hz1.trans hz
                  refine lv_aload_n hx hb dM_table_48 rfl (lv_at hl 1 rfl) ?_
                  refine va_get (D := G) (ci := 4) (v := .ref ea) (C := RM) (T := TM) (N := 8) hx hb htA inM hown hK (ob_P hob) 0 rfl rfl 7 (by decide) (htA _ wd442) (fun _ h9 => h9) rfl dM_table_49 ?_
                  refine lv_iload_n hx hb dM_table_52 rfl (lv_at hl 3 rfl) ?_
                  refine lv_iload hx hb dM_table_53 (lv_at hl 0 rfl) ?_
                  refine pw_iast (F := mW mo sa ea) hx hb hK hel 1 rfl (show D.length < 64 by omega) (by decide) hL (Or.inr (Or.inr rfl)) dM_table_55 (fun H7 lc7 hel hz1 hk1 hL => ?_)
                  have hob := ob_k hob (hk1 mo (Ne.symm hA.2.2.2.1))
                  have hal := al_k hal (hk1 ao hA.2.2.2.2.2.1)
                  have hab := ai_k hab (hk1 af hA.2.2.2.2.2.2.2.1)
                  have hsl := ai_k hsl (hk1 sa hA.2.2.2.2.2.2.2.2.1)
                  have hk : ∀ q, q ≠ mo → q ≠ sa → q ≠ ea → H7[q]? = s.heap[q]? := fun q h1 h2 h3 => (hk1 q h3).trans (hk q h1 h2 h3)
                  have hz := hz1.trans hz
                  refine lv_iinc (v := nI (D.length + 1)) (lv' := [(2, .int (nI (D.length + 1))), (4, .int (nI 1)), (0, .ref mo), (1, .int (nI a)), (3, .int (nI y))]) hx hb dM_table_56 hl (k := 3) rfl (nI_1 D.length) (by decide) rfl (fun ls hl => ?_)
                  refine lv_iload_n hx hb dM_table_59 rfl (lv_at hl 4 rfl) ?_
                  refine lv_iload hx hb dM_table_60 (lv_at hl 1 rfl) ?_
                  refine lv_iadd hx hb dM_table_62 ?_
                  refine pw_ti (y := nI (y + 1)) (nI_add _ _) ?_
                  refine lv_istore_n (lv' := [(3, .int (nI (y + 1))), (2, .int (nI (D.length + 1))), (4, .int (nI 1)), (0, .ref mo), (1, .int (nI a))]) hx hb dM_table_63 rfl hl (by decide) rfl (fun ls hl => ?_)
                  refine lv_goto (tgt := 4) hx hb dM_table_64 (by decide) ?_
                  have hlen : D.length + 1 = (D ++ [(y, 0)]).length := by rw [List.length_append]; rfl
                  rw [hlen] at hl
                  exact ih (y + 1) (D ++ [(y, 0)]) f2 H7 lc7 lw11 hg12 (upd fS D.length (nI y)) (upd fE D.length (nI 1)) (by omega) (by omega) (by rw [← hlen]; omega) (by omega) (by rw [hT, List.append_assoc]; rfl) (rowsOf_s hrows y 0) hob hal hab hsl hel hz hk hL ls (lv_sub hl [3, 4, 1, 0] rfl)
            · have hm2 : y % 16 = 0 := (nI_eq (by omega) (by decide)).mp (e2.trans nI_0.symm)
              refine lv_aload_n hx hb dM_table_21 rfl (lv_at hl 1 rfl) ?_
              refine lv_iload_n hx hb dM_table_22 rfl (lv_at hl 2 rfl) ?_
              refine lv_iload_n hx hb dM_table_23 rfl (lv_at hl 4 rfl) ?_
              refine lv_iload hx hb dM_table_24 (lv_at hl 0 rfl) ?_
              refine pw_call (F := mW mo sa ea) (va_runV (As := [.int (nI a), .int (nI y), .int (nI 16)]) (rest := []) ⟨hx, hb, hml, hown, htA⟩ (m_uniform l G cA mo ao af sa ea n fo th lw3 hg4 a y 16 ha (by decide) (by omega)) (cwV 3 htA (gd_V wd547 wd549 wd23 wd28 wd550) rfl rfl rfl (by decide +kernel) (by rw [hR]; exact ⟨Nat.le_of_ble_eq_true rfl, Nat.le_of_ble_eq_true rfl⟩)) (pw_V (ci := 4) (q := (RM, TM, 8)) hKN hob rfl ⟨hA.1, hob, hal⟩) rfl rfl hl.1 rfl (lv_room (Nat.le_of_ble_eq_true rfl)) dM_table_26 (by rw [hR]; exact ⟨Nat.le_of_ble_eq_true rfl, Nat.le_of_ble_eq_true rfl⟩)) hL (fun q h => Or.inl h) (fun v9 st9 t9 lc6 h0 ha9 hL hq9 => ?_)
              obtain ⟨hv9, ⟨lw7, hg8, hob⟩, hz1, hk1⟩ := hq9
              cases hv9
              rw [h0] at hz1 hk1
              generalize t9.heap = H5 at hob hz1 hk1 ⊢
              have hal := al_k hal (hk1 ao hA.1)
              have hab := ai_k hab (hk1 af hA.2.1)
              have hsl := ai_k hsl (hk1 sa hA.2.2.1)
              have hel := ai_k hel (hk1 ea hA.2.2.2.1)
              have hk : ∀ q, q ≠ mo → q ≠ sa → q ≠ ea → H5[q]? = s.heap[q]? := fun q h1 h2 h3 => (hk1 q h1).trans (hk q h1 h2 h3)
              have hz := hz1.trans hz
              have h63 := uni_63 (fun k => fo (64 * a + k)) y 16
              refine pw_ti (y := bI (uni 64 (fun k => fo (64 * a + k)) y 16)) (by rw [h63]) ?_
              refine lv_if_ne (tgt := 41) hx hb dM_table_29 (by decide) (fun u2 => ?_) (fun u2 => ?_)
              · have hu := bI_ne.mp u2
                have hgz : gz (uni 64 (fun k => fo (64 * a + k))) y = 2 := (by unfold gz; rw [if_neg n3, if_pos ⟨hm2, hu⟩])
                obtain ⟨f2, rfl⟩ : ∃ f2, fl = f2 + 1 := ⟨fl - 1, by omega⟩
                rw [grd_s hlt, hgz] at hT
                refine lv_aload_n hx hb dM_table_41 rfl (lv_at hl 1 rfl) ?_
                refine va_get (D := G) (ci := 4) (v := .ref sa) (C := RM) (T := TM) (N := 8) hx hb htA inM hown hK (ob_P hob) 0 rfl rfl 6 (by decide) (htA _ wd441) (fun _ h9 => h9) rfl dM_table_42 ?_
                refine lv_iload_n hx hb dM_table_45 rfl (lv_at hl 3 rfl) ?_
                refine lv_iload_n hx hb dM_table_46 rfl (lv_at hl 4 rfl) ?_
                refine pw_iast (F := mW mo sa ea) hx hb hK hsl 1 rfl (show D.length < 64 by omega) (by decide) hL (Or.inr (Or.inl rfl)) dM_table_47 (fun H6 lc6 hsl hz1 hk1 hL => ?_)
                have hob := ob_k hob (hk1 mo (Ne.symm hA.2.2.1))
                have hal := al_k hal (hk1 ao hA.2.2.2.2.1)
                have hab := ai_k hab (hk1 af hA.2.2.2.2.2.2.1)
                have hel := ai_k hel (hk1 ea (Ne.symm hA.2.2.2.2.2.2.2.2.1))
                have hk : ∀ q, q ≠ mo → q ≠ sa → q ≠ ea → H6[q]? = s.heap[q]? := fun q h1 h2 h3 => (hk1 q h2).trans (hk q h1 h2 h3)
                have hz := hz1.trans hz
                refine lv_aload_n hx hb dM_table_48 rfl (lv_at hl 1 rfl) ?_
                refine va_get (D := G) (ci := 4) (v := .ref ea) (C := RM) (T := TM) (N := 8) hx hb htA inM hown hK (ob_P hob) 0 rfl rfl 7 (by decide) (htA _ wd442) (fun _ h9 => h9) rfl dM_table_49 ?_
                refine lv_iload_n hx hb dM_table_52 rfl (lv_at hl 3 rfl) ?_
                refine lv_iload hx hb dM_table_53 (lv_at hl 0 rfl) ?_
                refine pw_iast (F := mW mo sa ea) hx hb hK hel 1 rfl (show D.length < 64 by omega) (by decide) hL (Or.inr (Or.inr rfl)) dM_table_55 (fun H7 lc7 hel hz1 hk1 hL => ?_)
                have hob := ob_k hob (hk1 mo (Ne.symm hA.2.2.2.1))
                have hal := al_k hal (hk1 ao hA.2.2.2.2.2.1)
                have hab := ai_k hab (hk1 af hA.2.2.2.2.2.2.2.1)
                have hsl := ai_k hsl (hk1 sa hA.2.2.2.2.2.2.2.2.1)
                have hk : ∀ q, q ≠ mo → q ≠ sa → q ≠ ea → H7[q]? = s.heap[q]? := fun q h1 h2 h3 => (hk1 q h3).trans (hk q h1 h2 h3)
                have hz := hz1.trans hz
                refine lv_iinc (v := nI (D.length + 1)) (lv' := [(2, .int (nI (D.length + 1))), (4, .int (nI 16)), (0, .ref mo), (1, .int (nI a)), (3, .int (nI y))]) hx hb dM_table_56 hl (k := 3) rfl (nI_1 D.length) (by decide) rfl (fun ls hl => ?_)
                refine lv_iload_n hx hb dM_table_59 rfl (lv_at hl 4 rfl) ?_
                refine lv_iload hx hb dM_table_60 (lv_at hl 1 rfl) ?_
                refine lv_iadd hx hb dM_table_62 ?_
                refine pw_ti (y := nI (y + 16)) (nI_add _ _) ?_
                refine lv_istore_n (lv' := [(3, .int (nI (y + 16))), (2, .int (nI (D.length + 1))), (4, .int (nI 16)), (0, .ref mo), (1, .int (nI a))]) hx hb dM_table_63 rfl hl (by decide) rfl (fun ls hl => ?_)
                refine lv_goto (tgt := 4) hx hb dM_table_64 (by decide) ?_
                have hlen : D.length + 1 = (D ++ [(y, 2)]).length := by rw [List.length_append]; rfl
                rw [hlen] at hl
                exact ih (y + 16) (D ++ [(y, 2)]) f2 H7 lc7 lw7 hg8 (upd fS D.length (nI y)) (upd fE D.length (nI 16)) (by omega) (by omega) (by rw [← hlen]; omega) (by omega) (by rw [hT, List.append_assoc]; rfl) (rowsOf_s hrows y 2) hob hal hab hsl hel hz hk hL ls (lv_sub hl [3, 4, 1, 0] rfl)
              · have hu := bI_eq.mp u2
                have n2 : ¬ (y % 16 = 0 ∧ (uni 64 (fun k => fo (64 * a + k))) y 16 = true) := fun q9 => by rw [hu] at q9; exact absurd q9.2 (by decide)
                refine lv_iload hx hb dM_table_32 (lv_at hl 0 rfl) ?_
                refine lv_iconst (v := nI 4) hx hb dM_table_34 (by decide) ?_
                refine lv_idiv hx hb dM_table_35 (by decide) ?_
                refine pw_ti (y := nI 4) (by decide) ?_
                refine lv_istore (lv' := [(4, .int (nI 4)), (0, .ref mo), (1, .int (nI a)), (2, .int (nI D.length)), (3, .int (nI y))]) hx hb dM_table_36 hl (by decide) rfl (fun ls hl => ?_)
                refine lv_goto (tgt := 14) hx hb dM_table_38 (by decide) ?_
                refine lv_iload_n hx hb dM_table_14 rfl (lv_at hl 4 rfl) ?_
                refine lv_iload hx hb dM_table_15 (lv_at hl 0 rfl) ?_
                refine lv_irem hx hb dM_table_17 (by decide) ?_
                refine pw_ti (y := nI (y % 4)) (pk_rem (by omega) (by decide) (by decide)) ?_
                refine lv_if_ne (tgt := 32) hx hb dM_table_18 (by decide) (fun e1 => ?_) (fun e1 => ?_)
                · have n1 : ¬ (y % 4 = 0 ∧ (uni 64 (fun k => fo (64 * a + k))) y 4 = true) := fun q9 => e1 (by rw [q9.1]; rfl)
                  refine lv_iload hx hb dM_table_32 (lv_at hl 0 rfl) ?_
                  refine lv_iconst (v := nI 4) hx hb dM_table_34 (by decide) ?_
                  refine lv_idiv hx hb dM_table_35 (by decide) ?_
                  refine pw_ti (y := nI 1) (by decide) ?_
                  refine lv_istore (lv' := [(4, .int (nI 1)), (0, .ref mo), (1, .int (nI a)), (2, .int (nI D.length)), (3, .int (nI y))]) hx hb dM_table_36 hl (by decide) rfl (fun ls hl => ?_)
                  refine lv_goto (tgt := 14) hx hb dM_table_38 (by decide) ?_
                  refine lv_iload_n hx hb dM_table_14 rfl (lv_at hl 4 rfl) ?_
                  refine lv_iload hx hb dM_table_15 (lv_at hl 0 rfl) ?_
                  refine lv_irem hx hb dM_table_17 (by decide) ?_
                  refine pw_ti (y := nI (y % 1)) (pk_rem (by omega) (by decide) (by decide)) ?_
                  have hm0 : y % 1 = 0 := Nat.mod_one y
                  rw [hm0]
                  refine lv_if_ne (tgt := 32) hx hb dM_table_18 (by decide) (fun c9 => absurd rfl c9) (fun _ => ?_)
                  refine lv_aload_n hx hb dM_table_21 rfl (lv_at hl 1 rfl) ?_
                  refine lv_iload_n hx hb dM_table_22 rfl (lv_at hl 2 rfl) ?_
                  refine lv_iload_n hx hb dM_table_23 rfl (lv_at hl 4 rfl) ?_
                  refine lv_iload hx hb dM_table_24 (lv_at hl 0 rfl) ?_
                  refine pw_call (F := mW mo sa ea) (va_runV (As := [.int (nI a), .int (nI y), .int (nI 1)]) (rest := []) ⟨hx, hb, hml, hown, htA⟩ (m_uniform l G cA mo ao af sa ea n fo th lw7 hg8 a y 1 ha (by decide) (by omega)) (cwV 3 htA (gd_V wd547 wd549 wd23 wd28 wd550) rfl rfl rfl (by decide +kernel) (by rw [hR]; exact ⟨Nat.le_of_ble_eq_true rfl, Nat.le_of_ble_eq_true rfl⟩)) (pw_V (ci := 4) (q := (RM, TM, 8)) hKN hob rfl ⟨hA.1, hob, hal⟩) rfl rfl hl.1 rfl (lv_room (Nat.le_of_ble_eq_true rfl)) dM_table_26 (by rw [hR]; exact ⟨Nat.le_of_ble_eq_true rfl, Nat.le_of_ble_eq_true rfl⟩)) hL (fun q h => Or.inl h) (fun v9 st9 t9 lc10 h0 ha9 hL hq9 => ?_)
                  obtain ⟨hv9, ⟨lw11, hg12, hob⟩, hz1, hk1⟩ := hq9
                  cases hv9
                  rw [h0] at hz1 hk1
                  generalize t9.heap = H9 at hob hz1 hk1 ⊢
                  have hal := al_k hal (hk1 ao hA.1)
                  have hab := ai_k hab (hk1 af hA.2.1)
                  have hsl := ai_k hsl (hk1 sa hA.2.2.1)
                  have hel := ai_k hel (hk1 ea hA.2.2.2.1)
                  have hk : ∀ q, q ≠ mo → q ≠ sa → q ≠ ea → H9[q]? = s.heap[q]? := fun q h1 h2 h3 => (hk1 q h1).trans (hk q h1 h2 h3)
                  have hz := hz1.trans hz
                  have h63 := uni_63 (fun k => fo (64 * a + k)) y 1
                  refine pw_ti (y := bI (uni 64 (fun k => fo (64 * a + k)) y 1)) (by rw [h63]) ?_
                  rw [uni_1]
                  refine lv_if_ne (tgt := 41) hx hb dM_table_29 (by decide) (fun _ => ?_) (fun c9 => absurd c9 (by decide))
                  have hgz : gz (uni 64 (fun k => fo (64 * a + k))) y = 0 := (by unfold gz; rw [if_neg n3, if_neg n2, if_neg n1])
                  obtain ⟨f2, rfl⟩ : ∃ f2, fl = f2 + 1 := ⟨fl - 1, by omega⟩
                  rw [grd_s hlt, hgz] at hT
                  refine lv_aload_n hx hb dM_table_41 rfl (lv_at hl 1 rfl) ?_
                  refine va_get (D := G) (ci := 4) (v := .ref sa) (C := RM) (T := TM) (N := 8) hx hb htA inM hown hK (ob_P hob) 0 rfl rfl 6 (by decide) (htA _ wd441) (fun _ h9 => h9) rfl dM_table_42 ?_
                  refine lv_iload_n hx hb dM_table_45 rfl (lv_at hl 3 rfl) ?_
                  refine lv_iload_n hx hb dM_table_46 rfl (lv_at hl 4 rfl) ?_
                  refine pw_iast (F := mW mo sa ea) hx hb hK hsl 1 rfl (show D.length < 64 by omega) (by decide) hL (Or.inr (Or.inl rfl)) dM_table_47 (fun H6 lc6 hsl hz1 hk1 hL => ?_)
                  have hob := ob_k hob (hk1 mo (Ne.symm hA.2.2.1))
                  have hal := al_k hal (hk1 ao hA.2.2.2.2.1)
                  have hab := ai_k hab (hk1 af hA.2.2.2.2.2.2.1)
                  have hel := ai_k hel (hk1 ea (Ne.symm hA.2.2.2.2.2.2.2.2.1))
                  have hk : ∀ q, q ≠ mo → q ≠ sa → q ≠ ea → H6[q]? = s.heap[q]? := fun q h1 h2 h3 => (hk1 q h2).trans (hk q h1 h2 h3)
                  have hz := hz1.trans hz
                  refine lv_aload_n hx hb dM_table_48 rfl (lv_at hl 1 rfl) ?_
                  refine va_get (D := G) (ci := 4) (v := .ref ea) (C := RM) (T := TM) (N := 8) hx hb htA inM hown hK (ob_P hob) 0 rfl rfl 7 (by decide) (htA _ wd442) (fun _ h9 => h9) rfl dM_table_49 ?_
                  refine lv_iload_n hx hb dM_table_52 rfl (lv_at hl 3 rfl) ?_
                  refine lv_iload hx hb dM_table_53 (lv_at hl 0 rfl) ?_
                  refine pw_iast (F := mW mo sa ea) hx hb hK hel 1 rfl (show D.length < 64 by omega) (by decide) hL (Or.inr (Or.inr rfl)) dM_table_55 (fun H7 lc7 hel hz1 hk1 hL => ?_)
                  have hob := ob_k hob (hk1 mo (Ne.symm hA.2.2.2.1))
                  have hal := al_k hal (hk1 ao hA.2.2.2.2.2.1)
                  have hab := ai_k hab (hk1 af hA.2.2.2.2.2.2.2.1)
                  have hsl := ai_k hsl (hk1 sa hA.2.2.2.2.2.2.2.2.1)
                  have hk : ∀ q, q ≠ mo → q ≠ sa → q ≠ ea → H7[q]? = s.heap[q]? := fun q h1 h2 h3 => (hk1 q h3).trans (hk q h1 h2 h3)
                  have hz := hz1.trans hz
                  refine lv_iinc (v := nI (D.length + 1)) (lv' := [(2, .int (nI (D.length + 1))), (4, .int (nI 1)), (0, .ref mo), (1, .int (nI a)), (3, .int (nI y))]) hx hb dM_table_56 hl (k := 3) rfl (nI_1 D.length) (by decide) rfl (fun ls hl => ?_)
                  refine lv_iload_n hx hb dM_table_59 rfl (lv_at hl 4 rfl) ?_
                  refine lv_iload hx hb dM_table_60 (lv_at hl 1 rfl) ?_
                  refine lv_iadd hx hb dM_table_62 ?_
                  refine pw_ti (y := nI (y + 1)) (nI_add _ _) ?_
                  refine lv_istore_n (lv' := [(3, .int (nI (y + 1))), (2, .int (nI (D.length + 1))), (4, .int (nI 1)), (0, .ref mo), (1, .int (nI a))]) hx hb dM_table_63 rfl hl (by decide) rfl (fun ls hl => ?_)
                  refine lv_goto (tgt := 4) hx hb dM_table_64 (by decide) ?_
                  have hlen : D.length + 1 = (D ++ [(y, 0)]).length := by rw [List.length_append]; rfl
                  rw [hlen] at hl
                  exact ih (y + 1) (D ++ [(y, 0)]) f2 H7 lc7 lw11 hg12 (upd fS D.length (nI y)) (upd fE D.length (nI 1)) (by omega) (by omega) (by rw [← hlen]; omega) (by omega) (by rw [hT, List.append_assoc]; rfl) (rowsOf_s hrows y 0) hob hal hab hsl hel hz hk hL ls (lv_sub hl [3, 4, 1, 0] rfl)
                · have hm1 : y % 4 = 0 := (nI_eq (by omega) (by decide)).mp (e1.trans nI_0.symm)
                  refine lv_aload_n hx hb dM_table_21 rfl (lv_at hl 1 rfl) ?_
                  refine lv_iload_n hx hb dM_table_22 rfl (lv_at hl 2 rfl) ?_
                  refine lv_iload_n hx hb dM_table_23 rfl (lv_at hl 4 rfl) ?_
                  refine lv_iload hx hb dM_table_24 (lv_at hl 0 rfl) ?_
                  refine pw_call (F := mW mo sa ea) (va_runV (As := [.int (nI a), .int (nI y), .int (nI 4)]) (rest := []) ⟨hx, hb, hml, hown, htA⟩ (m_uniform l G cA mo ao af sa ea n fo th lw7 hg8 a y 4 ha (by decide) (by omega)) (cwV 3 htA (gd_V wd547 wd549 wd23 wd28 wd550) rfl rfl rfl (by decide +kernel) (by rw [hR]; exact ⟨Nat.le_of_ble_eq_true rfl, Nat.le_of_ble_eq_true rfl⟩)) (pw_V (ci := 4) (q := (RM, TM, 8)) hKN hob rfl ⟨hA.1, hob, hal⟩) rfl rfl hl.1 rfl (lv_room (Nat.le_of_ble_eq_true rfl)) dM_table_26 (by rw [hR]; exact ⟨Nat.le_of_ble_eq_true rfl, Nat.le_of_ble_eq_true rfl⟩)) hL (fun q h => Or.inl h) (fun v9 st9 t9 lc10 h0 ha9 hL hq9 => ?_)
                  obtain ⟨hv9, ⟨lw11, hg12, hob⟩, hz1, hk1⟩ := hq9
                  cases hv9
                  rw [h0] at hz1 hk1
                  generalize t9.heap = H9 at hob hz1 hk1 ⊢
                  have hal := al_k hal (hk1 ao hA.1)
                  have hab := ai_k hab (hk1 af hA.2.1)
                  have hsl := ai_k hsl (hk1 sa hA.2.2.1)
                  have hel := ai_k hel (hk1 ea hA.2.2.2.1)
                  have hk : ∀ q, q ≠ mo → q ≠ sa → q ≠ ea → H9[q]? = s.heap[q]? := fun q h1 h2 h3 => (hk1 q h1).trans (hk q h1 h2 h3)
                  have hz := hz1.trans hz
                  have h63 := uni_63 (fun k => fo (64 * a + k)) y 4
                  refine pw_ti (y := bI (uni 64 (fun k => fo (64 * a + k)) y 4)) (by rw [h63]) ?_
                  refine lv_if_ne (tgt := 41) hx hb dM_table_29 (by decide) (fun u1 => ?_) (fun u1 => ?_)
                  · have hu := bI_ne.mp u1
                    have hgz : gz (uni 64 (fun k => fo (64 * a + k))) y = 1 := (by unfold gz; rw [if_neg n3, if_neg n2, if_pos ⟨hm1, hu⟩])
                    obtain ⟨f2, rfl⟩ : ∃ f2, fl = f2 + 1 := ⟨fl - 1, by omega⟩
                    rw [grd_s hlt, hgz] at hT
                    refine lv_aload_n hx hb dM_table_41 rfl (lv_at hl 1 rfl) ?_
                    refine va_get (D := G) (ci := 4) (v := .ref sa) (C := RM) (T := TM) (N := 8) hx hb htA inM hown hK (ob_P hob) 0 rfl rfl 6 (by decide) (htA _ wd441) (fun _ h9 => h9) rfl dM_table_42 ?_
                    refine lv_iload_n hx hb dM_table_45 rfl (lv_at hl 3 rfl) ?_
                    refine lv_iload_n hx hb dM_table_46 rfl (lv_at hl 4 rfl) ?_
                    refine pw_iast (F := mW mo sa ea) hx hb hK hsl 1 rfl (show D.length < 64 by omega) (by decide) hL (Or.inr (Or.inl rfl)) dM_table_47 (fun H6 lc6 hsl hz1 hk1 hL => ?_)
                    have hob := ob_k hob (hk1 mo (Ne.symm hA.2.2.1))
                    have hal := al_k hal (hk1 ao hA.2.2.2.2.1)
                    have hab := ai_k hab (hk1 af hA.2.2.2.2.2.2.1)
                    have hel := ai_k hel (hk1 ea (Ne.symm hA.2.2.2.2.2.2.2.2.1))
                    have hk : ∀ q, q ≠ mo → q ≠ sa → q ≠ ea → H6[q]? = s.heap[q]? := fun q h1 h2 h3 => (hk1 q h2).trans (hk q h1 h2 h3)
                    have hz := hz1.trans hz
                    refine lv_aload_n hx hb dM_table_48 rfl (lv_at hl 1 rfl) ?_
                    refine va_get (D := G) (ci := 4) (v := .ref ea) (C := RM) (T := TM) (N := 8) hx hb htA inM hown hK (ob_P hob) 0 rfl rfl 7 (by decide) (htA _ wd442) (fun _ h9 => h9) rfl dM_table_49 ?_
                    refine lv_iload_n hx hb dM_table_52 rfl (lv_at hl 3 rfl) ?_
                    refine lv_iload hx hb dM_table_53 (lv_at hl 0 rfl) ?_
                    refine pw_iast (F := mW mo sa ea) hx hb hK hel 1 rfl (show D.length < 64 by omega) (by decide) hL (Or.inr (Or.inr rfl)) dM_table_55 (fun H7 lc7 hel hz1 hk1 hL => ?_)
                    have hob := ob_k hob (hk1 mo (Ne.symm hA.2.2.2.1))
                    have hal := al_k hal (hk1 ao hA.2.2.2.2.2.1)
                    have hab := ai_k hab (hk1 af hA.2.2.2.2.2.2.2.1)
                    have hsl := ai_k hsl (hk1 sa hA.2.2.2.2.2.2.2.2.1)
                    have hk : ∀ q, q ≠ mo → q ≠ sa → q ≠ ea → H7[q]? = s.heap[q]? := fun q h1 h2 h3 => (hk1 q h3).trans (hk q h1 h2 h3)
                    have hz := hz1.trans hz
                    refine lv_iinc (v := nI (D.length + 1)) (lv' := [(2, .int (nI (D.length + 1))), (4, .int (nI 4)), (0, .ref mo), (1, .int (nI a)), (3, .int (nI y))]) hx hb dM_table_56 hl (k := 3) rfl (nI_1 D.length) (by decide) rfl (fun ls hl => ?_)
                    refine lv_iload_n hx hb dM_table_59 rfl (lv_at hl 4 rfl) ?_
                    refine lv_iload hx hb dM_table_60 (lv_at hl 1 rfl) ?_
                    refine lv_iadd hx hb dM_table_62 ?_
                    refine pw_ti (y := nI (y + 4)) (nI_add _ _) ?_
                    refine lv_istore_n (lv' := [(3, .int (nI (y + 4))), (2, .int (nI (D.length + 1))), (4, .int (nI 4)), (0, .ref mo), (1, .int (nI a))]) hx hb dM_table_63 rfl hl (by decide) rfl (fun ls hl => ?_)
                    refine lv_goto (tgt := 4) hx hb dM_table_64 (by decide) ?_
                    have hlen : D.length + 1 = (D ++ [(y, 1)]).length := by rw [List.length_append]; rfl
                    rw [hlen] at hl
                    exact ih (y + 4) (D ++ [(y, 1)]) f2 H7 lc7 lw11 hg12 (upd fS D.length (nI y)) (upd fE D.length (nI 4)) (by omega) (by omega) (by rw [← hlen]; omega) (by omega) (by rw [hT, List.append_assoc]; rfl) (rowsOf_s hrows y 1) hob hal hab hsl hel hz hk hL ls (lv_sub hl [3, 4, 1, 0] rfl)
                  · have hu := bI_eq.mp u1
                    have n1 : ¬ (y % 4 = 0 ∧ (uni 64 (fun k => fo (64 * a + k))) y 4 = true) := fun q9 => by rw [hu] at q9; exact absurd q9.2 (by decide)
                    refine lv_iload hx hb dM_table_32 (lv_at hl 0 rfl) ?_
                    refine lv_iconst (v := nI 4) hx hb dM_table_34 (by decide) ?_
                    refine lv_idiv hx hb dM_table_35 (by decide) ?_
                    refine pw_ti (y := nI 1) (by decide) ?_
                    refine lv_istore (lv' := [(4, .int (nI 1)), (0, .ref mo), (1, .int (nI a)), (2, .int (nI D.length)), (3, .int (nI y))]) hx hb dM_table_36 hl (by decide) rfl (fun ls hl => ?_)
                    refine lv_goto (tgt := 14) hx hb dM_table_38 (by decide) ?_
                    refine lv_iload_n hx hb dM_table_14 rfl (lv_at hl 4 rfl) ?_
                    refine lv_iload hx hb dM_table_15 (lv_at hl 0 rfl) ?_
                    refine lv_irem hx hb dM_table_17 (by decide) ?_
                    refine pw_ti (y := nI (y % 1)) (pk_rem (by omega) (by decide) (by decide)) ?_
                    have hm0 : y % 1 = 0 := Nat.mod_one y
                    rw [hm0]
                    refine lv_if_ne (tgt := 32) hx hb dM_table_18 (by decide) (fun c9 => absurd rfl c9) (fun _ => ?_)
                    refine lv_aload_n hx hb dM_table_21 rfl (lv_at hl 1 rfl) ?_
                    refine lv_iload_n hx hb dM_table_22 rfl (lv_at hl 2 rfl) ?_
                    refine lv_iload_n hx hb dM_table_23 rfl (lv_at hl 4 rfl) ?_
                    refine lv_iload hx hb dM_table_24 (lv_at hl 0 rfl) ?_
                    refine pw_call (F := mW mo sa ea) (va_runV (As := [.int (nI a), .int (nI y), .int (nI 1)]) (rest := []) ⟨hx, hb, hml, hown, htA⟩ (m_uniform l G cA mo ao af sa ea n fo th lw11 hg12 a y 1 ha (by decide) (by omega)) (cwV 3 htA (gd_V wd547 wd549 wd23 wd28 wd550) rfl rfl rfl (by decide +kernel) (by rw [hR]; exact ⟨Nat.le_of_ble_eq_true rfl, Nat.le_of_ble_eq_true rfl⟩)) (pw_V (ci := 4) (q := (RM, TM, 8)) hKN hob rfl ⟨hA.1, hob, hal⟩) rfl rfl hl.1 rfl (lv_room (Nat.le_of_ble_eq_true rfl)) dM_table_26 (by rw [hR]; exact ⟨Nat.le_of_ble_eq_true rfl, Nat.le_of_ble_eq_true rfl⟩)) hL (fun q h => Or.inl h) (fun v9 st9 t9 lc14 h0 ha9 hL hq9 => ?_)
                    obtain ⟨hv9, ⟨lw15, hg16, hob⟩, hz1, hk1⟩ := hq9
                    cases hv9
                    rw [h0] at hz1 hk1
                    generalize t9.heap = H13 at hob hz1 hk1 ⊢
                    have hal := al_k hal (hk1 ao hA.1)
                    have hab := ai_k hab (hk1 af hA.2.1)
                    have hsl := ai_k hsl (hk1 sa hA.2.2.1)
                    have hel := ai_k hel (hk1 ea hA.2.2.2.1)
                    have hk : ∀ q, q ≠ mo → q ≠ sa → q ≠ ea → H13[q]? = s.heap[q]? := fun q h1 h2 h3 => (hk1 q h1).trans (hk q h1 h2 h3)
                    have hz := hz1.trans hz
                    have h63 := uni_63 (fun k => fo (64 * a + k)) y 1
                    refine pw_ti (y := bI (uni 64 (fun k => fo (64 * a + k)) y 1)) (by rw [h63]) ?_
                    rw [uni_1]
                    refine lv_if_ne (tgt := 41) hx hb dM_table_29 (by decide) (fun _ => ?_) (fun c9 => absurd c9 (by decide))
                    have hgz : gz (uni 64 (fun k => fo (64 * a + k))) y = 0 := (by unfold gz; rw [if_neg n3, if_neg n2, if_neg n1])
                    obtain ⟨f2, rfl⟩ : ∃ f2, fl = f2 + 1 := ⟨fl - 1, by omega⟩
                    rw [grd_s hlt, hgz] at hT
                    refine lv_aload_n hx hb dM_table_41 rfl (lv_at hl 1 rfl) ?_
                    refine va_get (D := G) (ci := 4) (v := .ref sa) (C := RM) (T := TM) (N := 8) hx hb htA inM hown hK (ob_P hob) 0 rfl rfl 6 (by decide) (htA _ wd441) (fun _ h9 => h9) rfl dM_table_42 ?_
                    refine lv_iload_n hx hb dM_table_45 rfl (lv_at hl 3 rfl) ?_
                    refine lv_iload_n hx hb dM_table_46 rfl (lv_at hl 4 rfl) ?_
                    refine pw_iast (F := mW mo sa ea) hx hb hK hsl 1 rfl (show D.length < 64 by omega) (by decide) hL (Or.inr (Or.inl rfl)) dM_table_47 (fun H6 lc6 hsl hz1 hk1 hL => ?_)
                    have hob := ob_k hob (hk1 mo (Ne.symm hA.2.2.1))
                    have hal := al_k hal (hk1 ao hA.2.2.2.2.1)
                    have hab := ai_k hab (hk1 af hA.2.2.2.2.2.2.1)
                    have hel := ai_k hel (hk1 ea (Ne.symm hA.2.2.2.2.2.2.2.2.1))
                    have hk : ∀ q, q ≠ mo → q ≠ sa → q ≠ ea → H6[q]? = s.heap[q]? := fun q h1 h2 h3 => (hk1 q h2).trans (hk q h1 h2 h3)
                    have hz := hz1.trans hz
                    refine lv_aload_n hx hb dM_table_48 rfl (lv_at hl 1 rfl) ?_
                    refine va_get (D := G) (ci := 4) (v := .ref ea) (C := RM) (T := TM) (N := 8) hx hb htA inM hown hK (ob_P hob) 0 rfl rfl 7 (by decide) (htA _ wd442) (fun _ h9 => h9) rfl dM_table_49 ?_
                    refine lv_iload_n hx hb dM_table_52 rfl (lv_at hl 3 rfl) ?_
                    refine lv_iload hx hb dM_table_53 (lv_at hl 0 rfl) ?_
                    refine pw_iast (F := mW mo sa ea) hx hb hK hel 1 rfl (show D.length < 64 by omega) (by decide) hL (Or.inr (Or.inr rfl)) dM_table_55 (fun H7 lc7 hel hz1 hk1 hL => ?_)
                    have hob := ob_k hob (hk1 mo (Ne.symm hA.2.2.2.1))
                    have hal := al_k hal (hk1 ao hA.2.2.2.2.2.1)
                    have hab := ai_k hab (hk1 af hA.2.2.2.2.2.2.2.1)
                    have hsl := ai_k hsl (hk1 sa hA.2.2.2.2.2.2.2.2.1)
                    have hk : ∀ q, q ≠ mo → q ≠ sa → q ≠ ea → H7[q]? = s.heap[q]? := fun q h1 h2 h3 => (hk1 q h3).trans (hk q h1 h2 h3)
                    have hz := hz1.trans hz
                    refine lv_iinc (v := nI (D.length + 1)) (lv' := [(2, .int (nI (D.length + 1))), (4, .int (nI 1)), (0, .ref mo), (1, .int (nI a)), (3, .int (nI y))]) hx hb dM_table_56 hl (k := 3) rfl (nI_1 D.length) (by decide) rfl (fun ls hl => ?_)
                    refine lv_iload_n hx hb dM_table_59 rfl (lv_at hl 4 rfl) ?_
                    refine lv_iload hx hb dM_table_60 (lv_at hl 1 rfl) ?_
                    refine lv_iadd hx hb dM_table_62 ?_
                    refine pw_ti (y := nI (y + 1)) (nI_add _ _) ?_
                    refine lv_istore_n (lv' := [(3, .int (nI (y + 1))), (2, .int (nI (D.length + 1))), (4, .int (nI 1)), (0, .ref mo), (1, .int (nI a))]) hx hb dM_table_63 rfl hl (by decide) rfl (fun ls hl => ?_)
                    refine lv_goto (tgt := 4) hx hb dM_table_64 (by decide) ?_
                    have hlen : D.length + 1 = (D ++ [(y, 0)]).length := by rw [List.length_append]; rfl
                    rw [hlen] at hl
                    exact ih (y + 1) (D ++ [(y, 0)]) f2 H7 lc7 lw15 hg16 (upd fS D.length (nI y)) (upd fE D.length (nI 1)) (by omega) (by omega) (by rw [← hlen]; omega) (by omega) (by rw [hT, List.append_assoc]; rfl) (rowsOf_s hrows y 0) hob hal hab hsl hel hz hk hL ls (lv_sub hl [3, 4, 1, 0] rfl)
  exact lp 64 0 [] (64 + (tbl (fun k => fo (64 * a + k))).length) s.heap [] lw hg fS fE (by omega) (by omega) (by decide) (by omega) (by rw [List.nil_append]; exact (gr3 (ok := (uni 64 (fun k => fo (64 * a + k)))) (n := 64)).symm) rowsOf_0 hob hal hab hsl hel rfl (fun _ _ _ _ => rfl) (fun _ h => by cases h) ls (lv_sub hl [2, 3, 1, 0] rfl)
