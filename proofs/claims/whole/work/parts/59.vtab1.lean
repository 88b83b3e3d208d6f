set_option maxRecDepth 100000 in
set_option maxHeartbeats 4000000 in
theorem c_bitCount (l : Launch) (G : va_G) (cA : Nat → ClassId) (z : Int64) : Met l yJ_bitCount wsJ_bitCount ({ frames := 0, cells := 0, slots := 0, locals := 0 }) (PH G cA [.long z] (fun H => True)) (vp_Si (fun r => r = nI (cd z 64))) 0 0 (fun _ => False) := by
  refine Met.ofW (cc := cJ_bitCount) (maxL := 2) (ret := (some .int)) (by decide) rfl ?_
  intro p e s m args below meth c s₁ B hml hv
  obtain ⟨hav, hKN, -⟩ := hv
  have hK := hKN.1
  have hx := B.exec
  have hb := B.bytes
  have hrt := B.returns
  have htA : ∀ w ∈ ALL, w.before args s = true := fun w h => atoms_spec (ws := wsJ_bitCount) B.pre w (List.mem_cons_of_mem _ h)
  have hown : s.vm.findClass RJ = some m.cls := findClass_of_methodNamed B.named
  have hlocks := B.notSynchronized
  refine pw_nm (fun R Q hR hQ => ?_)
  refine pw_entry (vs := [.long z]) hav (Nat.le_of_ble_eq_true rfl) (fun ls hl => ?_)
  have hl : lv_has ls 2 [(0, .long z)] := hl
  refine lv_lload_n hx hb dJ_bitCount_0 rfl (lv_at hl 0 rfl) ?_
  refine lv_lload_n hx hb dJ_bitCount_1 rfl (lv_at hl 0 rfl) ?_
  refine lv_iconst (v := nI 1) hx hb dJ_bitCount_2 (by decide) ?_
  refine lv_lushr hx hb dJ_bitCount_3 rfl ?_
  refine lv_ldc2 hx hb hown (htA _ wd405) dJ_bitCount_4 ?_
  refine lv_land hx hb dJ_bitCount_7 ?_
  refine lv_lsub hx hb dJ_bitCount_8 ?_
  refine lv_topl (fun a ea => ?_)
  refine lv_lstore_n (lv' := [(0, .long a)]) hx hb dJ_bitCount_9 rfl hl (by decide) rfl (fun ls hl => ?_)
  refine lv_lload_n hx hb dJ_bitCount_10 rfl (lv_at hl 0 rfl) ?_
  refine lv_ldc2 hx hb hown (htA _ wd406) dJ_bitCount_11 ?_
  refine lv_land hx hb dJ_bitCount_14 ?_
  refine lv_lload_n hx hb dJ_bitCount_15 rfl (lv_at hl 0 rfl) ?_
  refine lv_iconst (v := nI 2) hx hb dJ_bitCount_16 (by decide) ?_
  refine lv_lushr hx hb dJ_bitCount_17 rfl ?_
  refine lv_ldc2 hx hb hown (htA _ wd406) dJ_bitCount_18 ?_
  refine lv_land hx hb dJ_bitCount_21 ?_
  refine lv_ladd hx hb dJ_bitCount_22 ?_
  refine lv_topl (fun b eb => ?_)
  refine lv_lstore_n (lv' := [(0, .long b)]) hx hb dJ_bitCount_23 rfl hl (by decide) rfl (fun ls hl => ?_)
  refine lv_lload_n hx hb dJ_bitCount_24 rfl (lv_at hl 0 rfl) ?_
  refine lv_lload_n hx hb dJ_bitCount_25 rfl (lv_at hl 0 rfl) ?_
  refine lv_iconst (v := nI 4) hx hb dJ_bitCount_26 (by decide) ?_
  refine lv_lushr hx hb dJ_bitCount_27 rfl ?_
  refine lv_ladd hx hb dJ_bitCount_28 ?_
  refine lv_ldc2 hx hb hown (htA _ wd407) dJ_bitCount_29 ?_
  refine lv_land hx hb dJ_bitCount_32 ?_
  refine lv_topl (fun c0 ec0 => ?_)
  refine lv_lstore_n (lv' := [(0, .long c0)]) hx hb dJ_bitCount_33 rfl hl (by decide) rfl (fun ls hl => ?_)
  refine lv_lload_n hx hb dJ_bitCount_34 rfl (lv_at hl 0 rfl) ?_
  refine lv_lload_n hx hb dJ_bitCount_35 rfl (lv_at hl 0 rfl) ?_
  refine lv_bipush (v := nI 8) hx hb dJ_bitCount_36 (by decide) ?_
  refine lv_lushr hx hb dJ_bitCount_38 rfl ?_
  refine lv_ladd hx hb dJ_bitCount_39 ?_
  refine lv_topl (fun d ed => ?_)
  refine lv_lstore_n (lv' := [(0, .long d)]) hx hb dJ_bitCount_40 rfl hl (by decide) rfl (fun ls hl => ?_)
  refine lv_lload_n hx hb dJ_bitCount_41 rfl (lv_at hl 0 rfl) ?_
  refine lv_lload_n hx hb dJ_bitCount_42 rfl (lv_at hl 0 rfl) ?_
  refine lv_bipush (v := nI 16) hx hb dJ_bitCount_43 (by decide) ?_
  refine lv_lushr hx hb dJ_bitCount_45 rfl ?_
  refine lv_ladd hx hb dJ_bitCount_46 ?_
  refine lv_topl (fun e0 ee0 => ?_)
  refine lv_lstore_n (lv' := [(0, .long e0)]) hx hb dJ_bitCount_47 rfl hl (by decide) rfl (fun ls hl => ?_)
  refine lv_lload_n hx hb dJ_bitCount_48 rfl (lv_at hl 0 rfl) ?_
  refine lv_lload_n hx hb dJ_bitCount_49 rfl (lv_at hl 0 rfl) ?_
  refine lv_bipush (v := nI 32) hx hb dJ_bitCount_50 (by decide) ?_
  refine lv_lushr hx hb dJ_bitCount_52 rfl ?_
  refine lv_ladd hx hb dJ_bitCount_53 ?_
  refine lv_topl (fun f ef => ?_)
  refine lv_lstore_n (lv' := [(0, .long f)]) hx hb dJ_bitCount_54 rfl hl (by decide) rfl (fun ls hl => ?_)
  refine lv_lload_n hx hb dJ_bitCount_55 rfl (lv_at hl 0 rfl) ?_
  refine lv_l2i hx hb dJ_bitCount_56 rfl ?_
  refine lv_bipush (v := nI 127) hx hb dJ_bitCount_57 (by decide) ?_
  refine lv_iand hx hb dJ_bitCount_59 ?_
  refine pw_ti (y := nI (cd z 64)) (tn_bc ea eb ec0 ed ee0 ef) ?_
  rw [hQ]
  exact W.iret (v := nI (cd z 64)) hx hb hrt (fun t ht hW => ⟨_, rfl, rfl, ht⟩) (fun q h => by cases h) dJ_bitCount_60

set_option maxRecDepth 100000 in
set_option maxHeartbeats 4000000 in
theorem c_actionFrom (l : Launch) (G : va_G) (cA : Nat → ClassId) (x : Nat) (hx0 : x < 64) (r : Nat) (hr0 : r < 64) : Met l yQ_actionFrom wsQ_actionFrom ({ frames := 2, cells := 0, slots := 0, locals := 41 }) (PH G cA [.int (nI x), .int (nI r)] (fun H => True)) (vp_Si (fun v => v = nI (act x r))) 0 0 (fun _ => False) := by
  refine Met.ofW (cc := cQ_actionFrom) (maxL := 5) (ret := (some .int)) (by decide) rfl ?_
  intro p e s m args below meth c s₁ B hml hv
  obtain ⟨hav, hKN, -⟩ := hv
  have hK := hKN.1
  have hx := B.exec
  have hb := B.bytes
  have hrt := B.returns
  have htA : ∀ w ∈ ALL, w.before args s = true := fun w h => atoms_spec (ws := wsQ_actionFrom) B.pre w (List.mem_cons_of_mem _ h)
  have hown : s.vm.findClass RQ = some m.cls := findClass_of_methodNamed B.named
  have hlocks := B.notSynchronized
  refine pw_nm (fun R Q hR hQ => ?_)
  refine pw_entry (vs := [.int (nI x), .int (nI r)]) hav (Nat.le_of_ble_eq_true rfl) (fun ls hl => ?_)
  have hl : lv_has ls 5 [(0, .int (nI x)), (1, .int (nI r))] := hl
  refine lv_iconst (v := nI 0) hx hb dQ_actionFrom_0 (by decide) ?_
  refine lv_istore_n (lv' := [(2, .int (nI 0)), (0, .int (nI x)), (1, .int (nI r))]) hx hb dQ_actionFrom_1 rfl hl (by decide) rfl (fun ls hl => ?_)
  refine lv_iconst (v := nI 0) hx hb dQ_actionFrom_2 (by decide) ?_
  refine lv_istore_n (lv' := [(3, .int (nI 0)), (2, .int (nI 0)), (0, .int (nI x)), (1, .int (nI r))]) hx hb dQ_actionFrom_3 rfl hl (by decide) rfl (fun ls hl => ?_)
  have lp : ∀ (k i : Nat), i + k = 3 → ∀ ls : Array Slot, lv_has ls 5 [(0, .int (nI x)), (1, .int (nI r)), (2, .int (nI (ac x r i))), (3, .int (nI i))] → W p l e R s m args below meth c s.heap ([]) 0 0 Q (F0 m 4 ls []) := by
    intro k
    induction k with
    | zero =>
      intro i hik ls hl
      have hi : i = 3 := by omega
      subst hi
      refine lv_iload_n hx hb dQ_actionFrom_4 rfl (lv_at hl 3 rfl) ?_
      refine lv_iconst (v := nI 3) hx hb dQ_actionFrom_5 (by decide) ?_
      refine lv_icmp_ge (tgt := 43) hx hb dQ_actionFrom_6 (by decide) (fun _ => ?_) (fun c9 => absurd (Int32.le_refl _) c9)
      refine lv_iload_n hx hb dQ_actionFrom_43 rfl (lv_at hl 2 rfl) ?_
      rw [hQ]
      exact W.iret (v := nI (ac x r 3)) hx hb hrt (fun t ht hW => ⟨_, rfl, rfl, ht⟩) (fun q h => by cases h) dQ_actionFrom_44
    | succ k ih =>
      intro i hik ls hl
      have hi : i < 3 := by omega
      refine lv_iload_n hx hb dQ_actionFrom_4 rfl (lv_at hl 3 rfl) ?_
      refine lv_iconst (v := nI 3) hx hb dQ_actionFrom_5 (by decide) ?_
      refine lv_icmp_ge (tgt := 43) hx hb dQ_actionFrom_6 (by decide) (fun c9 => absurd c9 (nI_ge hi (by decide))) (fun _ => ?_)
      refine lv_iload_n hx hb dQ_actionFrom_9 rfl (lv_at hl 1 rfl) ?_
      refine lv_iload_n hx hb dQ_actionFrom_10 rfl (lv_at hl 3 rfl) ?_
      refine vp_callSi (va_Run.run (va_runSN (As := [.int (nI r), .int (nI i)]) (rest := []) ⟨hx, hb, hml, hown, htA⟩ (c_valueOf l G cA r hr0 i hi) ⟨va_cnB 2 htA (gd_m wd219) rfl rfl rfl (KN.n hKN (w := .methodLinkNest RQ 30 yV_valueOf RV) (by decide +kernel)) (htA _ wd26) (by decide +kernel) (by rw [hR]; exact ⟨Nat.le_of_ble_eq_true rfl, Nat.le_of_ble_eq_true rfl⟩), htA _ wd218, trivial⟩ (pw_S hKN trivial) rfl rfl hl.1 rfl (lv_room (Nat.le_of_ble_eq_true rfl)) dQ_actionFrom_11 (by rw [hR]; exact ⟨Nat.le_of_ble_eq_true rfl, Nat.le_of_ble_eq_true rfl⟩))) (fun r1 hr1 => ?_)
      subst hr1
      refine lv_istore (lv' := [(4, .int (nI (vl r i))), (0, .int (nI x)), (1, .int (nI r)), (2, .int (nI (ac x r i))), (3, .int (nI i))]) hx hb dQ_actionFrom_14 hl (by decide) rfl (fun ls hl => ?_)
      refine lv_iload_n hx hb dQ_actionFrom_16 rfl (lv_at hl 3 rfl) ?_
      refine lv_iconst (v := nI 5) hx hb dQ_actionFrom_17 (by decide) ?_
      refine lv_imul hx hb dQ_actionFrom_18 ?_
      refine pw_ti (y := nI ((ac x r i) * 5)) (pk_mul _ _) ?_
      refine lv_iload hx hb dQ_actionFrom_19 (lv_at hl 0 rfl) ?_
      refine lv_iload_n hx hb dQ_actionFrom_21 rfl (lv_at hl 1 rfl) ?_
      refine lv_iload_n hx hb dQ_actionFrom_22 rfl (lv_at hl 4 rfl) ?_
      refine vp_callSi (va_Run.run (va_runSN (As := [.int (nI x), .int (nI i)]) (rest := [.int (nI (vl r i)), .int (nI ((ac x r i) * 5))]) ⟨hx, hb, hml, hown, htA⟩ (c_valueOf l G cA x hx0 i hi) ⟨va_cnB 2 htA (gd_m wd219) rfl rfl rfl (KN.n hKN (w := .methodLinkNest RQ 30 yV_valueOf RV) (by decide +kernel)) (htA _ wd26) (by decide +kernel) (by rw [hR]; exact ⟨Nat.le_of_ble_eq_true rfl, Nat.le_of_ble_eq_true rfl⟩), htA _ wd218, trivial⟩ (pw_S hKN trivial) rfl rfl hl.1 rfl (lv_room (Nat.le_of_ble_eq_true rfl)) dQ_actionFrom_23 (by rw [hR]; exact ⟨Nat.le_of_ble_eq_true rfl, Nat.le_of_ble_eq_true rfl⟩))) (fun r2 hr2 => ?_)
      subst hr2
      have hv1 := vl_lt x i
      have hv2 := vl_lt r i
      refine lv_icmp_ne (tgt := 33) hx hb dQ_actionFrom_26 (by decide) (fun c1 => ?_) (fun c1 => ?_)
      · have hq : ¬ vl r i = vl x i := fun q => c1 (by rw [q])
        refine lv_iload hx hb dQ_actionFrom_33 (lv_at hl 0 rfl) ?_
        refine lv_iadd hx hb dQ_actionFrom_35 ?_
        refine pw_ti (y := nI (((ac x r i) * 5) + (vl r i))) (nI_add _ _) ?_
        refine pw_ti (y := nI (ac x r (i + 1))) (by show _ = nI (ac x r i * 5 + (if vl r i = vl x i then 4 else vl r i)); rw [if_neg hq]) ?_
        refine lv_istore_n (lv' := [(2, .int (nI (ac x r (i + 1)))), (4, .int (nI (vl r i))), (0, .int (nI x)), (1, .int (nI r)), (3, .int (nI i))]) hx hb dQ_actionFrom_36 rfl hl (by decide) rfl (fun ls hl => ?_)
        refine lv_iinc (v := nI (i + 1)) (lv' := [(3, .int (nI (i + 1))), (2, .int (nI (ac x r (i + 1)))), (4, .int (nI (vl r i))), (0, .int (nI x)), (1, .int (nI r))]) hx hb dQ_actionFrom_37 hl (k := 4) rfl (nI_1 i) (by decide) rfl (fun ls hl => ?_)
        refine lv_goto (tgt := 4) hx hb dQ_actionFrom_40 (by decide) ?_
        exact ih (i + 1) (by omega) ls (lv_sub hl [3, 4, 1, 0] rfl)
      · have hq : vl r i = vl x i := (nI_eq (by omega) (by omega)).mp c1
        refine lv_iconst (v := nI 4) hx hb dQ_actionFrom_29 (by decide) ?_
        refine lv_goto (tgt := 35) hx hb dQ_actionFrom_30 (by decide) ?_
        refine lv_iadd hx hb dQ_actionFrom_35 ?_
        refine pw_ti (y := nI (((ac x r i) * 5) + 4)) (nI_add _ _) ?_
        refine pw_ti (y := nI (ac x r (i + 1))) (by show _ = nI (ac x r i * 5 + (if vl r i = vl x i then 4 else vl r i)); rw [if_pos hq]) ?_
        refine lv_istore_n (lv' := [(2, .int (nI (ac x r (i + 1)))), (4, .int (nI (vl r i))), (0, .int (nI x)), (1, .int (nI r)), (3, .int (nI i))]) hx hb dQ_actionFrom_36 rfl hl (by decide) rfl (fun ls hl => ?_)
        refine lv_iinc (v := nI (i + 1)) (lv' := [(3, .int (nI (i + 1))), (2, .int (nI (ac x r (i + 1)))), (4, .int (nI (vl r i))), (0, .int (nI x)), (1, .int (nI r))]) hx hb dQ_actionFrom_37 hl (k := 4) rfl (nI_1 i) (by decide) rfl (fun ls hl => ?_)
        refine lv_goto (tgt := 4) hx hb dQ_actionFrom_40 (by decide) ?_
        exact ih (i + 1) (by omega) ls (lv_sub hl [3, 4, 1, 0] rfl)
  exact lp (3) 0 (by omega) ls (lv_sub hl [2, 3, 1, 0] rfl)

set_option maxRecDepth 100000 in
set_option maxHeartbeats 4000000 in
theorem c_readPacket (l : Launch) (G : va_G) (cA : Nat → ClassId) (rs lo hi : Nat) (f g : Nat → Int64) (x : Nat) (hx0 : x < 64) (o : Int64) : Met l yQ_readPacket wsQ_readPacket ({ frames := 3, cells := 0, slots := 0, locals := 65 }) (PH G cA [.ref rs, .int (nI x), .long o] (fun H => (lo ≠ hi ∧ ob G 1 rs [.ref lo, .ref hi] H ∧ al (cA 0) lo 64 f H ∧ al (cA 0) hi 64 g H))) (fun _ st o0 t => o0 = .returned none ∧ al (cA 0) lo 64 (vp_updL f x (rl 64 x o 64)) t.heap ∧ al (cA 0) hi 64 (vp_updL g x (rh 64 x o 64)) t.heap ∧ t.heap.size = st.heap.size ∧ ∀ q, q ≠ lo → q ≠ hi → t.heap[q]? = st.heap[q]?) 0 0 (fun q => q = lo ∨ q = hi) := by
  refine Met.ofW (cc := cQ_readPacket) (maxL := 10) (ret := none) (by decide) rfl ?_
  intro p e s m args below meth c s₁ B hml hv
  obtain ⟨hav, hKN, hne, hrs, hlo, hhi⟩ := hv
  have hK := hKN.1
  have hx := B.exec
  have hb := B.bytes
  have hrt := B.returns
  have htA : ∀ w ∈ ALL, w.before args s = true := fun w h => atoms_spec (ws := wsQ_readPacket) B.pre w (List.mem_cons_of_mem _ h)
  have hown : s.vm.findClass RQ = some m.cls := findClass_of_methodNamed B.named
  have hlocks := B.notSynchronized
  refine pw_nm (fun R Q hR hQ => ?_)
  refine pw_entry (vs := [.ref rs, .int (nI x), .long o]) hav (Nat.le_of_ble_eq_true rfl) (fun ls hl => ?_)
  have hl : lv_has ls 10 [(0, .ref rs), (1, .int (nI x)), (2, .long o)] := hl
  have hdd := hKN.dis
  have hrl : rs ≠ lo := kd_ne hdd (kd_o (cA := cA) (by decide) hrs) (kd_l hlo) (by decide)
  refine lv_lconst (v := 0) hx hb dQ_readPacket_0 rfl ?_
  refine pw_tl (y := rl 64 x o 0) rfl ?_
  refine lv_lstore (lv' := [(4, .long (rl 64 x o 0)), (0, .ref rs), (1, .int (nI x)), (2, .long o)]) hx hb dQ_readPacket_1 hl (by decide) rfl (fun ls hl => ?_)
  refine lv_lconst (v := 0) hx hb dQ_readPacket_3 rfl ?_
  refine pw_tl (y := rh 64 x o 0) rfl ?_
  refine lv_lstore (lv' := [(6, .long (rh 64 x o 0)), (4, .long (rl 64 x o 0)), (0, .ref rs), (1, .int (nI x)), (2, .long o)]) hx hb dQ_readPacket_4 hl (by decide) rfl (fun ls hl => ?_)
  refine lv_iconst (v := nI 0) hx hb dQ_readPacket_6 (by decide) ?_
  refine lv_istore (lv' := [(8, .int (nI 0)), (6, .long (rh 64 x o 0)), (4, .long (rl 64 x o 0)), (0, .ref rs), (1, .int (nI x)), (2, .long o)]) hx hb dQ_readPacket_7 hl (by decide) rfl (fun ls hl => ?_)
  have lp : ∀ (k i : Nat), i + k = 64 → ∀ ls : Array Slot, lv_has ls 10 [(0, .ref rs), (1, .int (nI x)), (2, .long o), (4, .long (rl 64 x o i)), (6, .long (rh 64 x o i)), (8, .int (nI i))] → W p l e R s m args below meth c s.heap ([]) 0 0 Q (F0 m 9 ls []) := by
    intro k
    induction k with
    | zero =>
      intro i hik ls hl
      have hi9 : i = 64 := by omega
      subst hi9
      refine lv_iload hx hb dQ_readPacket_9 (lv_at hl 5 rfl) ?_
      refine lv_bipush (v := nI 64) hx hb dQ_readPacket_11 (by decide) ?_
      refine lv_icmp_ge (tgt := 70) hx hb dQ_readPacket_13 (by decide) (fun _ => ?_) (fun c9 => absurd (Int32.le_refl _) c9)
      refine lv_aload_n hx hb dQ_readPacket_70 rfl (lv_at hl 0 rfl) ?_
      refine va_get (D := G) (ci := 1) (v := .ref lo) (C := RQ) (T := TQ) (N := 2) hx hb htA inQ hown hK (ob_P hrs) 0 rfl rfl 0 (by decide) (htA _ wd55) (fun _ h9 => h9) rfl dQ_readPacket_71 ?_
      refine lv_iload_n hx hb dQ_readPacket_74 rfl (lv_at hl 1 rfl) ?_
      refine lv_lload hx hb dQ_readPacket_75 (lv_at hl 3 rfl) ?_
      refine pw_last (F := (fun q => q = lo ∨ q = hi)) hx hb hK hlo 0 rfl hx0 (by decide) (fun _ h => by cases h) (Or.inl rfl) dQ_readPacket_77 (fun H6 lc6 hlo hz1 hk1 hL => ?_)
      have hrs := ob_k hrs (hk1 rs hrl)
      have hhi := al_k hhi (hk1 hi (Ne.symm hne))
      refine lv_aload_n hx hb dQ_readPacket_78 rfl (lv_at hl 0 rfl) ?_
      refine va_get (D := G) (ci := 1) (v := .ref hi) (C := RQ) (T := TQ) (N := 2) hx hb htA inQ hown hK (ob_P hrs) 0 rfl rfl 1 (by decide) (htA _ wd56) (fun _ h9 => h9) rfl dQ_readPacket_79 ?_
      refine lv_iload_n hx hb dQ_readPacket_82 rfl (lv_at hl 1 rfl) ?_
      refine lv_lload hx hb dQ_readPacket_83 (lv_at hl 4 rfl) ?_
      refine pw_last (F := (fun q => q = lo ∨ q = hi)) hx hb hK hhi 0 rfl hx0 (by decide) hL (Or.inr rfl) dQ_readPacket_85 (fun H7 lc7 hhi hz2 hk2 hL => ?_)
      have hlo := al_k hlo (hk2 lo hne)
      rw [hQ]
      exact W.vret hx hb hrt (fun t ht hW => ⟨rfl, by rw [ht]; exact hlo, by rw [ht]; exact hhi, by rw [ht]; exact hz2.trans hz1, by rw [ht]; exact fun q h1 h2 => (hk2 q h2).trans (hk1 q h1)⟩) hL dQ_readPacket_86
    | succ k ih =>
      intro i hik ls hl
      have hi9 : i < 64 := by omega
      refine lv_iload hx hb dQ_readPacket_9 (lv_at hl 5 rfl) ?_
      refine lv_bipush (v := nI 64) hx hb dQ_readPacket_11 (by decide) ?_
      refine lv_icmp_ge (tgt := 70) hx hb dQ_readPacket_13 (by decide) (fun c9 => absurd c9 (nI_ge hi9 (by decide))) (fun _ => ?_)
      refine lv_lload_n hx hb dQ_readPacket_16 rfl (lv_at hl 2 rfl) ?_
      refine lv_iload hx hb dQ_readPacket_17 (lv_at hl 5 rfl) ?_
      refine vp_callSi (va_Run.run (va_runSN (As := [.long o, .int (nI i)]) (rest := []) ⟨hx, hb, hml, hown, htA⟩ (c_has l G cA o i hi9) ⟨va_cnB 2 htA (gd_m wd242) rfl rfl rfl (KN.n hKN (w := .methodLinkNest RQ 22 yV_has RV) (by decide +kernel)) (htA _ wd26) (by decide +kernel) (by rw [hR]; exact ⟨Nat.le_of_ble_eq_true rfl, Nat.le_of_ble_eq_true rfl⟩), htA _ wd241, trivial⟩ (pw_S hKN trivial) rfl rfl hl.1 rfl (lv_room (Nat.le_of_ble_eq_true rfl)) dQ_readPacket_19 (by rw [hR]; exact ⟨Nat.le_of_ble_eq_true rfl, Nat.le_of_ble_eq_true rfl⟩))) (fun r1 hr1 => ?_)
      subst hr1
      refine lv_if_eq (tgt := 64) hx hb dQ_readPacket_22 (by decide) (fun c1 => ?_) (fun c1 => ?_)
      · have hq := bI_eq.mp c1
        rw [rl_n hq, rh_n hq] at hl
        refine lv_iinc (v := nI (i + 1)) (lv' := [(8, .int (nI (i + 1))), (0, .ref rs), (1, .int (nI x)), (2, .long o), (4, .long (rl 64 x o (i + 1))), (6, .long (rh 64 x o (i + 1)))]) hx hb dQ_readPacket_64 hl (k := 5) rfl (nI_1 i) (by decide) rfl (fun ls hl => ?_)
        refine lv_goto (tgt := 9) hx hb dQ_readPacket_67 (by decide) ?_
        exact ih (i + 1) (by omega) ls (lv_sub hl [1, 2, 3, 4, 5, 0] rfl)
      · have hq := bI_ne.mp c1
        refine lv_iload_n hx hb dQ_readPacket_25 rfl (lv_at hl 1 rfl) ?_
        refine lv_iload hx hb dQ_readPacket_26 (lv_at hl 5 rfl) ?_
        refine vp_callSi (va_Run.run (va_runS (As := [.int (nI x), .int (nI i)]) (rest := []) ⟨hx, hb, hml, hown, htA⟩ (c_actionFrom l G cA x hx0 i hi9) (va_cwS 2 htA (gd_S wd350 wd351 wd27 wd352) rfl rfl rfl (by decide +kernel) (by rw [hR]; exact ⟨Nat.le_of_ble_eq_true rfl, Nat.le_of_ble_eq_true rfl⟩)) (pw_S hKN trivial) rfl rfl hl.1 rfl (lv_room (Nat.le_of_ble_eq_true rfl)) dQ_readPacket_28 (by rw [hR]; exact ⟨Nat.le_of_ble_eq_true rfl, Nat.le_of_ble_eq_true rfl⟩))) (fun r2 hr2 => ?_)
        subst hr2
        have hact := act_lt x i
        refine lv_istore (lv' := [(9, .int (nI (act x i))), (0, .ref rs), (1, .int (nI x)), (2, .long o), (4, .long (rl 64 x o i)), (6, .long (rh 64 x o i)), (8, .int (nI i))]) hx hb dQ_readPacket_31 hl (by decide) rfl (fun ls hl => ?_)
        refine lv_iload hx hb dQ_readPacket_33 (lv_at hl 0 rfl) ?_
        refine lv_bipush (v := nI 64) hx hb dQ_readPacket_35 (by decide) ?_
        refine lv_icmp_ge (tgt := 52) hx hb dQ_readPacket_37 (by decide) (fun c2 => ?_) (fun c2 => ?_)
        · have hq2 : ¬ act x i < 64 := by have := (nI_leI (by decide) (by omega)).mp c2; omega
          refine lv_lload hx hb dQ_readPacket_52 (lv_at hl 5 rfl) ?_
          refine lv_lconst (v := 1) hx hb dQ_readPacket_54 rfl ?_
          refine lv_iload hx hb dQ_readPacket_55 (lv_at hl 0 rfl) ?_
          refine lv_bipush (v := nI 64) hx hb dQ_readPacket_57 (by decide) ?_
          refine lv_isub hx hb dQ_readPacket_59 ?_
          refine pw_ti (y := nI (act x i - 64)) (pk_sub (by omega)) ?_
          refine lv_lshl hx hb dQ_readPacket_60 rfl ?_
          refine lv_lor hx hb dQ_readPacket_61 ?_
          refine pw_tl (y := rh 64 x o (i + 1)) (rh_z hq hq2) ?_
          refine lv_lstore (lv' := [(6, .long (rh 64 x o (i + 1))), (9, .int (nI (act x i))), (0, .ref rs), (1, .int (nI x)), (2, .long o), (4, .long (rl 64 x o i)), (8, .int (nI i))]) hx hb dQ_readPacket_62 hl (by decide) rfl (fun ls hl => ?_)
          rw [rl_z hq hq2] at hl
          refine lv_iinc (v := nI (i + 1)) (lv' := [(8, .int (nI (i + 1))), (6, .long (rh 64 x o (i + 1))), (9, .int (nI (act x i))), (0, .ref rs), (1, .int (nI x)), (2, .long o), (4, .long (rl 64 x o (i + 1)))]) hx hb dQ_readPacket_64 hl (k := 6) rfl (nI_1 i) (by decide) rfl (fun ls hl => ?_)
          refine lv_goto (tgt := 9) hx hb dQ_readPacket_67 (by decide) ?_
          exact ih (i + 1) (by omega) ls (lv_sub hl [3, 4, 5, 6, 1, 0] rfl)
        · have hq2 : act x i < 64 := by have : ¬ 64 ≤ act x i := fun q => c2 ((nI_leI (by decide) (by omega)).mpr q); omega
          refine lv_lload hx hb dQ_readPacket_40 (lv_at hl 4 rfl) ?_
          refine lv_lconst (v := 1) hx hb dQ_readPacket_42 rfl ?_
          refine lv_iload hx hb dQ_readPacket_43 (lv_at hl 0 rfl) ?_
          refine lv_lshl hx hb dQ_readPacket_45 rfl ?_
          refine lv_lor hx hb dQ_readPacket_46 ?_
          refine pw_tl (y := rl 64 x o (i + 1)) (rl_y hq hq2) ?_
          refine lv_lstore (lv' := [(4, .long (rl 64 x o (i + 1))), (9, .int (nI (act x i))), (0, .ref rs), (1, .int (nI x)), (2, .long o), (6, .long (rh 64 x o i)), (8, .int (nI i))]) hx hb dQ_readPacket_47 hl (by decide) rfl (fun ls hl => ?_)
          rw [rh_y hq hq2] at hl
          refine lv_goto (tgt := 64) hx hb dQ_readPacket_49 (by decide) ?_
          refine lv_iinc (v := nI (i + 1)) (lv' := [(8, .int (nI (i + 1))), (4, .long (rl 64 x o (i + 1))), (9, .int (nI (act x i))), (0, .ref rs), (1, .int (nI x)), (2, .long o), (6, .long (rh 64 x o (i + 1)))]) hx hb dQ_readPacket_64 hl (k := 6) rfl (nI_1 i) (by decide) rfl (fun ls hl => ?_)
          refine lv_goto (tgt := 9) hx hb dQ_readPacket_67 (by decide) ?_
          exact ih (i + 1) (by omega) ls (lv_sub hl [3, 4, 5, 1, 6, 0] rfl)
  exact lp (64) 0 (by omega) ls (lv_sub hl [3, 4, 5, 2, 1, 0] rfl)

set_option maxRecDepth 100000 in
set_option maxHeartbeats 4000000 in
theorem c_read (l : Launch) (G : va_G) (cA : Nat → ClassId) (rs lo hi oa : Nat) (f0 g0 fo : Nat → Int64) : Met l yQ_read wsQ_read ({ frames := 4, cells := 0, slots := 0, locals := 94 }) (PH G cA [.ref rs, .ref oa] (fun H => (lo ≠ hi ∧ oa ≠ lo ∧ oa ≠ hi ∧ ob G 1 rs [.ref lo, .ref hi] H ∧ al (cA 0) lo 64 f0 H ∧ al (cA 0) hi 64 g0 H ∧ al (cA 0) oa 64 fo H))) (fun _ st o0 t => o0 = .returned none ∧ (∃ f g, al (cA 0) lo 64 f t.heap ∧ al (cA 0) hi 64 g t.heap ∧ ∀ k, k < 64 → f k = rl 64 k (fo k) 64 ∧ g k = rh 64 k (fo k) 64) ∧ t.heap.size = st.heap.size ∧ ∀ q, q ≠ lo → q ≠ hi → t.heap[q]? = st.heap[q]?) 0 0 (fun q => q = lo ∨ q = hi) := by
  refine Met.ofW (cc := cQ_read) (maxL := 3) (ret := none) (by decide) rfl ?_
  intro p e s m args below meth c s₁ B hml hv
  obtain ⟨hav, hKN, hne, hol, hoh, hrs, hlo, hhi, hoa⟩ := hv
  have hK := hKN.1
  have hx := B.exec
  have hb := B.bytes
  have hrt := B.returns
  have htA : ∀ w ∈ ALL, w.before args s = true := fun w h => atoms_spec (ws := wsQ_read) B.pre w (List.mem_cons_of_mem _ h)
  have hown : s.vm.findClass RQ = some m.cls := findClass_of_methodNamed B.named
  have hlocks := B.notSynchronized
  refine pw_nm (fun R Q hR hQ => ?_)
  refine pw_entry (vs := [.ref rs, .ref oa]) hav (Nat.le_of_ble_eq_true rfl) (fun ls hl => ?_)
  have hl : lv_has ls 3 [(0, .ref rs), (1, .ref oa)] := hl
  have hdd := hKN.dis
  have hrl : rs ≠ lo := kd_ne hdd (kd_o (cA := cA) (by decide) hrs) (kd_l hlo) (by decide)
  have hrh : rs ≠ hi := kd_ne hdd (kd_o (cA := cA) (by decide) hrs) (kd_l hhi) (by decide)
  refine lv_iconst (v := nI 0) hx hb dQ_read_0 (by decide) ?_
  refine lv_istore_n (lv' := [(2, .int (nI 0)), (0, .ref rs), (1, .ref oa)]) hx hb dQ_read_1 rfl hl (by decide) rfl (fun ls hl => ?_)
  have lp : ∀ (k i : Nat) (f : Nat → Int64) (g : Nat → Int64) (H8 : Heap) (lc8 : List Loc), i + k = 64 → (ob G 1 rs [.ref lo, .ref hi] H8) → (al (cA 0) lo 64 f H8) → (al (cA 0) hi 64 g H8) → (al (cA 0) oa 64 fo H8) → (H8.size = s.heap.size) → (∀ q, q ≠ lo → q ≠ hi → H8[q]? = s.heap[q]?) → (∀ z ∈ lc8, (fun q => q = lo ∨ q = hi) z.base) → (∀ k, k < i → f k = rl 64 k (fo k) 64 ∧ g k = rh 64 k (fo k) 64) → ∀ ls : Array Slot, lv_has ls 3 [(0, .ref rs), (1, .ref oa), (2, .int (nI i))] → W p l e R s m args below meth c H8 lc8 0 0 Q (F0 m 2 ls []) := by
    intro k
    induction k with
    | zero =>
      intro i f g H8 lc8 hik hrs hlo hhi hoa hz hk hL hinv ls hl
      have hi9 : i = 64 := by omega
      subst hi9
      refine lv_iload_n hx hb dQ_read_2 rfl (lv_at hl 2 rfl) ?_
      refine lv_bipush (v := nI 64) hx hb dQ_read_3 (by decide) ?_
      refine lv_icmp_ge (tgt := 22) hx hb dQ_read_5 (by decide) (fun _ => ?_) (fun c9 => absurd (Int32.le_refl _) c9)
      rw [hQ]
      exact W.vret hx hb hrt (fun t ht hW => ⟨rfl, ⟨f, g, by rw [ht]; exact hlo, by rw [ht]; exact hhi, hinv⟩, by rw [ht]; exact hz, by rw [ht]; exact hk⟩) hL dQ_read_22
    | succ k ih =>
      intro i f g H8 lc8 hik hrs hlo hhi hoa hz hk hL hinv ls hl
      have hi9 : i < 64 := by omega
      refine lv_iload_n hx hb dQ_read_2 rfl (lv_at hl 2 rfl) ?_
      refine lv_bipush (v := nI 64) hx hb dQ_read_3 (by decide) ?_
      refine lv_icmp_ge (tgt := 22) hx hb dQ_read_5 (by decide) (fun c9 => absurd c9 (nI_ge hi9 (by decide))) (fun _ => ?_)
      refine lv_aload_n hx hb dQ_read_8 rfl (lv_at hl 0 rfl) ?_
      refine lv_iload_n hx hb dQ_read_9 rfl (lv_at hl 2 rfl) ?_
      refine lv_aload_n hx hb dQ_read_10 rfl (lv_at hl 1 rfl) ?_
      refine lv_iload_n hx hb dQ_read_11 rfl (lv_at hl 2 rfl) ?_
      refine pw_lald hx hb hK hoa 0 rfl hi9 (by decide) dQ_read_12 ?_
      refine pw_call (F := (fun q => q = lo ∨ q = hi)) (va_runV (As := [.int (nI i), .long (fo i)]) (rest := []) ⟨hx, hb, hml, hown, htA⟩ (c_readPacket l G cA rs lo hi f g i hi9 (fo i)) (cwV 2 htA (gd_V wd345 wd347 wd11 wd27 wd348) rfl rfl rfl (by decide +kernel) (by rw [hR]; exact ⟨Nat.le_of_ble_eq_true rfl, Nat.le_of_ble_eq_true rfl⟩)) (pw_V (ci := 1) (q := (RQ, TQ, 2)) hKN hrs rfl ⟨hne, hrs, hlo, hhi⟩) rfl rfl hl.1 rfl (lv_room (Nat.le_of_ble_eq_true rfl)) dQ_read_13 (by rw [hR]; exact ⟨Nat.le_of_ble_eq_true rfl, Nat.le_of_ble_eq_true rfl⟩)) hL (fun q h => h) (fun v9 st9 t9 lc9 h0 ha9 hL hq9 => ?_)
      obtain ⟨hv9, hlo, hhi, hz1, hk1⟩ := hq9
      cases hv9
      rw [h0] at hz1 hk1
      generalize t9.heap = H6 at hlo hhi hz1 hk1 ⊢
      have hrs := ob_k hrs (hk1 rs hrl hrh)
      have hoa := al_k hoa (hk1 oa hol hoh)
      have hk : ∀ q, q ≠ lo → q ≠ hi → H6[q]? = s.heap[q]? := fun q h1 h2 => (hk1 q h1 h2).trans (hk q h1 h2)
      have hz := hz1.trans hz
      refine lv_iinc (v := nI (i + 1)) (lv' := [(2, .int (nI (i + 1))), (0, .ref rs), (1, .ref oa)]) hx hb dQ_read_16 hl (k := 2) rfl (nI_1 i) (by decide) rfl (fun ls hl => ?_)
      refine lv_goto (tgt := 2) hx hb dQ_read_19 (by decide) ?_
      exact ih (i + 1) (vp_updL f i (rl 64 i (fo i) 64)) (vp_updL g i (rh 64 i (fo i) 64)) H6 lc9 (by omega) hrs hlo hhi hoa hz hk hL (fun k9 hk9 => by by_cases e9 : k9 = i; (subst e9; rw [pk_uLs, pk_uLs]; exact ⟨rfl, rfl⟩); (rw [pk_uLn e9, pk_uLn e9]; exact hinv k9 (by omega))) ls (lv_sub hl [1, 2, 0] rfl)
  exact lp (64) 0 f0 g0 s.heap ([]) (by omega) hrs hlo hhi hoa rfl (fun _ _ _ => rfl) (fun _ h => by cases h) (fun k9 h9 => absurd h9 (Nat.not_lt_zero k9)) ls (lv_sub hl [1, 2, 0] rfl)

set_option maxRecDepth 100000 in
set_option maxHeartbeats 4000000 in
theorem c_areAlike (l : Launch) (G : va_G) (cA : Nat → ClassId) (rs lo hi : Nat) (f g fo : Nat → Int64) (hf : ∀ k, k < 64 → f k = rl 64 k (fo k) 64) (hg : ∀ k, k < 64 → g k = rh 64 k (fo k) 64) (x m0 : Nat) (hm : 1 ≤ m0) (hx0 : x + m0 ≤ 64) : Met l yQ_areAlike wsQ_areAlike ({ frames := 0, cells := 0, slots := 0, locals := 0 }) (PH G cA [.ref rs, .int (nI x), .int (nI m0)] (fun H => (ob G 1 rs [.ref lo, .ref hi] H ∧ al (cA 0) lo 64 f H ∧ al (cA 0) hi 64 g H))) (vp_Si (fun v => v = bI (uni 64 fo x m0))) 0 0 (fun _ => False) := by
  refine Met.ofW (cc := cQ_areAlike) (maxL := 4) (ret := (some .boolean)) (by decide) rfl ?_
  intro p e s m args below meth c s₁ B hml hv
  obtain ⟨hav, hKN, hrs, hlo, hhi⟩ := hv
  have hK := hKN.1
  have hx := B.exec
  have hb := B.bytes
  have hrt := B.returns
  have htA : ∀ w ∈ ALL, w.before args s = true := fun w h => atoms_spec (ws := wsQ_areAlike) B.pre w (List.mem_cons_of_mem _ h)
  have hown : s.vm.findClass RQ = some m.cls := findClass_of_methodNamed B.named
  have hlocks := B.notSynchronized
  refine pw_nm (fun R Q hR hQ => ?_)
  refine pw_entry (vs := [.ref rs, .int (nI x), .int (nI m0)]) hav (Nat.le_of_ble_eq_true rfl) (fun ls hl => ?_)
  have hl : lv_has ls 4 [(0, .ref rs), (1, .int (nI x)), (2, .int (nI m0))] := hl
  refine lv_iload_n hx hb dQ_areAlike_0 rfl (lv_at hl 1 rfl) ?_
  refine lv_iconst (v := nI 1) hx hb dQ_areAlike_1 (by decide) ?_
  refine lv_iadd hx hb dQ_areAlike_2 ?_
  refine pw_ti (y := nI (x + 1)) (nI_add _ _) ?_
  refine lv_istore_n (lv' := [(3, .int (nI (x + 1))), (0, .ref rs), (1, .int (nI x)), (2, .int (nI m0))]) hx hb dQ_areAlike_3 rfl hl (by decide) rfl (fun ls hl => ?_)
  have lp : ∀ (k i : Nat), i + k = m0 → (∀ q, q < i → f (x + q) = f x ∧ g (x + q) = g x) → ∀ ls : Array Slot, lv_has ls 4 [(0, .ref rs), (1, .int (nI x)), (2, .int (nI m0)), (3, .int (nI (x + i)))] → W p l e R s m args below meth c s.heap ([]) 0 0 Q (F0 m 4 ls []) := by
    intro k
    induction k with
    | zero =>
      intro i hik hinv ls hl
      have hi9 : i = m0 := by omega
      subst hi9
      refine lv_iload_n hx hb dQ_areAlike_4 rfl (lv_at hl 3 rfl) ?_
      refine lv_iload_n hx hb dQ_areAlike_5 rfl (lv_at hl 1 rfl) ?_
      refine lv_iload_n hx hb dQ_areAlike_6 rfl (lv_at hl 2 rfl) ?_
      refine lv_iadd hx hb dQ_areAlike_7 ?_
      refine pw_ti (y := nI (x + i)) (nI_add _ _) ?_
      refine lv_icmp_ge (tgt := 51) hx hb dQ_areAlike_8 (by decide) (fun _ => ?_) (fun c9 => absurd (Int32.le_refl _) c9)
      refine lv_iconst (v := nI 1) hx hb dQ_areAlike_51 (by decide) ?_
      rw [hQ]
      exact W.zret (v := nI 1) (ty := .boolean) hx hb hrt (by rfl) (fun t ht hW => ⟨_, rfl, by rw [uni_tt hf hg hx0 hinv]; rfl, ht⟩) (fun q h => by cases h) dQ_areAlike_52
    | succ k ih =>
      intro i hik hinv ls hl
      have hi9 : i < m0 := by omega
      refine lv_iload_n hx hb dQ_areAlike_4 rfl (lv_at hl 3 rfl) ?_
      refine lv_iload_n hx hb dQ_areAlike_5 rfl (lv_at hl 1 rfl) ?_
      refine lv_iload_n hx hb dQ_areAlike_6 rfl (lv_at hl 2 rfl) ?_
      refine lv_iadd hx hb dQ_areAlike_7 ?_
      refine pw_ti (y := nI (x + m0)) (nI_add _ _) ?_
      refine lv_icmp_ge (tgt := 51) hx hb dQ_areAlike_8 (by decide) (fun c9 => absurd c9 (nI_ge (by omega) (by omega))) (fun _ => ?_)
      refine lv_aload_n hx hb dQ_areAlike_11 rfl (lv_at hl 0 rfl) ?_
      refine va_get (D := G) (ci := 1) (v := .ref lo) (C := RQ) (T := TQ) (N := 2) hx hb htA inQ hown hK (ob_P hrs) 0 rfl rfl 0 (by decide) (htA _ wd55) (fun _ h9 => h9) rfl dQ_areAlike_12 ?_
      refine lv_iload_n hx hb dQ_areAlike_15 rfl (lv_at hl 3 rfl) ?_
      refine pw_lald hx hb hK hlo 0 rfl (by omega) (by decide) dQ_areAlike_16 ?_
      refine lv_aload_n hx hb dQ_areAlike_17 rfl (lv_at hl 0 rfl) ?_
      refine va_get (D := G) (ci := 1) (v := .ref lo) (C := RQ) (T := TQ) (N := 2) hx hb htA inQ hown hK (ob_P hrs) 0 rfl rfl 0 (by decide) (htA _ wd55) (fun _ h9 => h9) rfl dQ_areAlike_18 ?_
      refine lv_iload_n hx hb dQ_areAlike_21 rfl (lv_at hl 1 rfl) ?_
      refine pw_lald hx hb hK hlo 0 rfl (by omega) (by decide) dQ_areAlike_22 ?_
      refine W.lcmp hx hb dQ_areAlike_23 ?_
      refine lv_if_ne (tgt := 43) hx hb dQ_areAlike_24 (by decide) (fun c1 => ?_) (fun c1 => ?_)
      · refine lv_iconst (v := nI 0) hx hb dQ_areAlike_43 (by decide) ?_
        rw [hQ]
        exact W.zret (v := nI 0) (ty := .boolean) hx hb hrt (by rfl) (fun t ht hW => ⟨_, rfl, by rw [uni_ff (q := i) hf hg hx0 hi9 (fun q => c1 ((cmp0 _ _).mpr q.1))]; rfl, ht⟩) (fun q h => by cases h) dQ_areAlike_44
      · have hq := (cmp0 _ _).mp c1
        refine lv_aload_n hx hb dQ_areAlike_27 rfl (lv_at hl 0 rfl) ?_
        refine va_get (D := G) (ci := 1) (v := .ref hi) (C := RQ) (T := TQ) (N := 2) hx hb htA inQ hown hK (ob_P hrs) 0 rfl rfl 1 (by decide) (htA _ wd56) (fun _ h9 => h9) rfl dQ_areAlike_28 ?_
        refine lv_iload_n hx hb dQ_areAlike_31 rfl (lv_at hl 3 rfl) ?_
        refine pw_lald hx hb hK hhi 0 rfl (by omega) (by decide) dQ_areAlike_32 ?_
        refine lv_aload_n hx hb dQ_areAlike_33 rfl (lv_at hl 0 rfl) ?_
        refine va_get (D := G) (ci := 1) (v := .ref hi) (C := RQ) (T := TQ) (N := 2) hx hb htA inQ hown hK (ob_P hrs) 0 rfl rfl 1 (by decide) (htA _ wd56) (fun _ h9 => h9) rfl dQ_areAlike_34 ?_
        refine lv_iload_n hx hb dQ_areAlike_37 rfl (lv_at hl 1 rfl) ?_
        refine pw_lald hx hb hK hhi 0 rfl (by omega) (by decide) dQ_areAlike_38 ?_
        refine W.lcmp hx hb dQ_areAlike_39 ?_
        refine lv_if_eq (tgt := 45) hx hb dQ_areAlike_40 (by decide) (fun c2 => ?_) (fun c2 => ?_)
        · have hq2 := (cmp0 _ _).mp c2
          refine lv_iinc (v := nI ((x + i) + 1)) (lv' := [(3, .int (nI ((x + i) + 1))), (0, .ref rs), (1, .int (nI x)), (2, .int (nI m0))]) hx hb dQ_areAlike_45 hl (k := 3) rfl (nI_1 (x + i)) (by decide) rfl (fun ls hl => ?_)
          refine lv_goto (tgt := 4) hx hb dQ_areAlike_48 (by decide) ?_
          exact ih (i + 1) (by omega) (lt_s hinv ⟨hq, hq2⟩) ls (lv_sub hl [1, 2, 3, 0] rfl)
        · refine lv_iconst (v := nI 0) hx hb dQ_areAlike_43 (by decide) ?_
          rw [hQ]
          exact W.zret (v := nI 0) (ty := .boolean) hx hb hrt (by rfl) (fun t ht hW => ⟨_, rfl, by rw [uni_ff (q := i) hf hg hx0 hi9 (fun q => c2 ((cmp0 _ _).mpr q.2))]; rfl, ht⟩) (fun q h => by cases h) dQ_areAlike_44
  exact lp (m0 - 1) 1 (by omega) (fun q hq => by have e9 : q = 0 := (by omega); subst e9; exact ⟨rfl, rfl⟩) ls (lv_sub hl [1, 2, 3, 0] rfl)

set_option maxRecDepth 100000 in
set_option maxHeartbeats 4000000 in
theorem c_addRule (l : Launch) (G : va_G) (cA : Nat → ClassId) (tb a1 a2 a3 sz : Nat) (f1 f2 f3 : Nat → Int32) (x d m0 : Nat) (hsz : sz < 64) (hx0 : x + m0 ≤ 64) : Met l yT_addRule wsT_addRule ({ frames := 0, cells := 0, slots := 0, locals := 0 }) (PH G cA [.ref tb, .int (nI x), .int (nI d), .int (nI m0)] (fun H => (a1 ≠ a2 ∧ a1 ≠ a3 ∧ a2 ≠ a3 ∧ ob G 2 tb [.ref a1, .ref a2, .ref a3, .int (nI sz)] H ∧ ai (cA 1) a1 64 f1 H ∧ ai (cA 1) a2 64 f2 H ∧ ai (cA 1) a3 64 f3 H))) (fun _ st o0 t => o0 = .returned none ∧ ob G 2 tb [.ref a1, .ref a2, .ref a3, .int (nI (sz + 1))] t.heap ∧ ai (cA 1) a1 64 (upd f1 sz (nI x)) t.heap ∧ ai (cA 1) a2 64 (upd f2 sz (nI d)) t.heap ∧ (∃ g, ai (cA 1) a3 64 g t.heap ∧ ∀ k, k < 64 → g k = if x ≤ k ∧ k < x + m0 then nI sz else f3 k) ∧ t.heap.size = st.heap.size ∧ ∀ q, q ≠ tb → q ≠ a1 → q ≠ a2 → q ≠ a3 → t.heap[q]? = st.heap[q]?) 0 0 (fun q => q = tb ∨ q = a1 ∨ q = a2 ∨ q = a3) := by
  refine Met.ofW (cc := cT_addRule) (maxL := 5) (ret := none) (by decide) rfl ?_
  intro p e s m args below meth c s₁ B hml hv
  obtain ⟨hav, hKN, n12, n13, n23, hob, h1, h2, h3⟩ := hv
  have hK := hKN.1
  have hx := B.exec
  have hb := B.bytes
  have hrt := B.returns
  have htA : ∀ w ∈ ALL, w.before args s = true := fun w h => atoms_spec (ws := wsT_addRule) B.pre w (List.mem_cons_of_mem _ h)
  have hown : s.vm.findClass RT = some m.cls := findClass_of_methodNamed B.named
  have hlocks := B.notSynchronized
  refine pw_nm (fun R Q hR hQ => ?_)
  refine pw_entry (vs := [.ref tb, .int (nI x), .int (nI d), .int (nI m0)]) hav (Nat.le_of_ble_eq_true rfl) (fun ls hl => ?_)
  have hl : lv_has ls 5 [(0, .ref tb), (1, .int (nI x)), (2, .int (nI d)), (3, .int (nI m0))] := hl
  have hdd := hKN.dis
  have nt1 : tb ≠ a1 := kd_ne hdd (kd_o (cA := cA) (by decide) hob) (kd_i h1) (by decide)
  have nt2 : tb ≠ a2 := kd_ne hdd (kd_o (cA := cA) (by decide) hob) (kd_i h2) (by decide)
  have nt3 : tb ≠ a3 := kd_ne hdd (kd_o (cA := cA) (by decide) hob) (kd_i h3) (by decide)
  refine lv_aload_n hx hb dT_addRule_0 rfl (lv_at hl 0 rfl) ?_
  refine va_get (D := G) (ci := 2) (v := .ref a1) (C := RT) (T := TT) (N := 4) hx hb htA inT hown hK (ob_P hob) 0 rfl rfl 0 (by decide) (htA _ wd360) (fun _ h9 => h9) rfl dT_addRule_1 ?_
  refine lv_aload_n hx hb dT_addRule_4 rfl (lv_at hl 0 rfl) ?_
  refine va_get (D := G) (ci := 2) (v := .int (nI sz)) (C := RT) (T := TT) (N := 4) hx hb htA inT hown hK (ob_P hob) 0 rfl rfl 3 (by decide) (htA _ wd366) (fun _ h9 => h9) rfl dT_addRule_5 ?_
  refine lv_iload_n hx hb dT_addRule_8 rfl (lv_at hl 1 rfl) ?_
  refine pw_iast (F := (fun q => q = tb ∨ q = a1 ∨ q = a2 ∨ q = a3)) hx hb hK h1 1 rfl hsz (by decide) (fun _ h => by cases h) (Or.inr (Or.inl rfl)) dT_addRule_9 (fun H6 lc6 h1 hz1 hk1 hL => ?_)
  have hob := ob_k hob (hk1 tb nt1)
  have h2 := ai_k h2 (hk1 a2 (Ne.symm n12))
  have h3 := ai_k h3 (hk1 a3 (Ne.symm n13))
  refine lv_aload_n hx hb dT_addRule_10 rfl (lv_at hl 0 rfl) ?_
  refine va_get (D := G) (ci := 2) (v := .ref a2) (C := RT) (T := TT) (N := 4) hx hb htA inT hown hK (ob_P hob) 0 rfl rfl 1 (by decide) (htA _ wd362) (fun _ h9 => h9) rfl dT_addRule_11 ?_
  refine lv_aload_n hx hb dT_addRule_14 rfl (lv_at hl 0 rfl) ?_
  refine va_get (D := G) (ci := 2) (v := .int (nI sz)) (C := RT) (T := TT) (N := 4) hx hb htA inT hown hK (ob_P hob) 0 rfl rfl 3 (by decide) (htA _ wd366) (fun _ h9 => h9) rfl dT_addRule_15 ?_
  refine lv_iload_n hx hb dT_addRule_18 rfl (lv_at hl 2 rfl) ?_
  refine pw_iast (F := (fun q => q = tb ∨ q = a1 ∨ q = a2 ∨ q = a3)) hx hb hK h2 1 rfl hsz (by decide) hL (Or.inr (Or.inr (Or.inl rfl))) dT_addRule_19 (fun H7 lc7 h2 hz2 hk2 hL => ?_)
  have hob := ob_k hob (hk2 tb nt2)
  have h1 := ai_k h1 (hk2 a1 n12)
  have h3 := ai_k h3 (hk2 a3 (Ne.symm n23))
  have hz := hz2.trans hz1
  have hk : ∀ q, q ≠ tb → q ≠ a1 → q ≠ a2 → q ≠ a3 → H7[q]? = s.heap[q]? := fun q _ e1 e2 _ => (hk2 q e2).trans (hk1 q e1)
  refine lv_iload_n hx hb dT_addRule_20 rfl (lv_at hl 1 rfl) ?_
  refine lv_istore (lv' := [(4, .int (nI x)), (0, .ref tb), (1, .int (nI x)), (2, .int (nI d)), (3, .int (nI m0))]) hx hb dT_addRule_21 hl (by decide) rfl (fun ls hl => ?_)
  have hl : lv_has ls 5 [(4, .int (nI (x + 0))), (0, .ref tb), (1, .int (nI x)), (2, .int (nI d)), (3, .int (nI m0))] := hl
  have lp : ∀ (k i : Nat) (g : Nat → Int32) (H8 : Heap) (lc8 : List Loc), i + k = m0 → (ob G 2 tb [.ref a1, .ref a2, .ref a3, .int (nI sz)] H8) → (ai (cA 1) a1 64 (upd f1 sz (nI x)) H8) → (ai (cA 1) a2 64 (upd f2 sz (nI d)) H8) → (ai (cA 1) a3 64 g H8) → (H8.size = s.heap.size) → (∀ q, q ≠ tb → q ≠ a1 → q ≠ a2 → q ≠ a3 → H8[q]? = s.heap[q]?) → (∀ z ∈ lc8, (fun q => q = tb ∨ q = a1 ∨ q = a2 ∨ q = a3) z.base) → (∀ k, k < 64 → g k = if x ≤ k ∧ k < x + i then nI sz else f3 k) → ∀ ls : Array Slot, lv_has ls 5 [(0, .ref tb), (1, .int (nI x)), (2, .int (nI d)), (3, .int (nI m0)), (4, .int (nI (x + i)))] → W p l e R s m args below meth c H8 lc8 0 0 Q (F0 m 23 ls []) := by
    intro k
    induction k with
    | zero =>
      intro i g H8 lc8 hik hob h1 h2 h3 hz hk hL hinv ls hl
      have hi9 : i = m0 := by omega
      subst hi9
      refine lv_iload hx hb dT_addRule_23 (lv_at hl 4 rfl) ?_
      refine lv_iload_n hx hb dT_addRule_25 rfl (lv_at hl 1 rfl) ?_
      refine lv_iload_n hx hb dT_addRule_26 rfl (lv_at hl 3 rfl) ?_
      refine lv_iadd hx hb dT_addRule_27 ?_
      refine pw_ti (y := nI (x + i)) (nI_add _ _) ?_
      refine lv_icmp_ge (tgt := 48) hx hb dT_addRule_28 (by decide) (fun _ => ?_) (fun c9 => absurd (Int32.le_refl _) c9)
      refine lv_aload_n hx hb dT_addRule_48 rfl (lv_at hl 0 rfl) ?_
      refine lv_dup hx hb dT_addRule_49 rfl ?_
      refine va_get (D := G) (ci := 2) (v := .int (nI sz)) (C := RT) (T := TT) (N := 4) hx hb htA inT hown hK (ob_P hob) 0 rfl rfl 3 (by decide) (htA _ wd366) (fun _ h9 => h9) rfl dT_addRule_50 ?_
      refine lv_iconst (v := nI 1) hx hb dT_addRule_53 (by decide) ?_
      refine lv_iadd hx hb dT_addRule_54 ?_
      refine pw_ti (y := nI (sz + 1)) (nI_add _ _) ?_
      refine pw_put (ci := 2) (C := RT) (T := TT) (N := 4) (ty := .int) (F := (fun q => q = tb ∨ q = a1 ∨ q = a2 ∨ q = a3)) hx hb htA inT tyT tyT_ok nmT hown hK hob rfl 3 (by decide) (htA _ wd366) (fun _ h9 => h9) rfl (by decide +kernel) rfl rfl (Nat.le_of_ble_eq_true rfl) hL (Or.inl rfl) dT_addRule_55 (fun H9 lc9 hob1 hz1 hk1 hL => ?_)
      have hob : ob G 2 tb [.ref a1, .ref a2, .ref a3, .int (nI (sz + 1))] H9 := hob1
      have h1 := ai_k h1 (hk1 a1 (Ne.symm nt1))
      have h2 := ai_k h2 (hk1 a2 (Ne.symm nt2))
      have h3 := ai_k h3 (hk1 a3 (Ne.symm nt3))
      rw [hQ]
      exact W.vret hx hb hrt (fun t ht hW => ⟨rfl, by rw [ht]; exact hob, by rw [ht]; exact h1, by rw [ht]; exact h2, ⟨g, by rw [ht]; exact h3, hinv⟩, by rw [ht]; exact hz1.trans hz, by rw [ht]; exact fun q e0 e1 e2 e3 => (hk1 q e0).trans (hk q e0 e1 e2 e3)⟩) hL dT_addRule_58
    | succ k ih =>
      intro i g H8 lc8 hik hob h1 h2 h3 hz hk hL hinv ls hl
      have hi9 : i < m0 := by omega
      refine lv_iload hx hb dT_addRule_23 (lv_at hl 4 rfl) ?_
      refine lv_iload_n hx hb dT_addRule_25 rfl (lv_at hl 1 rfl) ?_
      refine lv_iload_n hx hb dT_addRule_26 rfl (lv_at hl 3 rfl) ?_
      refine lv_iadd hx hb dT_addRule_27 ?_
      refine pw_ti (y := nI (x + m0)) (nI_add _ _) ?_
      refine lv_icmp_ge (tgt := 48) hx hb dT_addRule_28 (by decide) (fun c9 => absurd c9 (nI_ge (by omega) (by omega))) (fun _ => ?_)
      refine lv_aload_n hx hb dT_addRule_31 rfl (lv_at hl 0 rfl) ?_
      refine va_get (D := G) (ci := 2) (v := .ref a3) (C := RT) (T := TT) (N := 4) hx hb htA inT hown hK (ob_P hob) 0 rfl rfl 2 (by decide) (htA _ wd364) (fun _ h9 => h9) rfl dT_addRule_32 ?_
      refine lv_iload hx hb dT_addRule_35 (lv_at hl 4 rfl) ?_
      refine lv_aload_n hx hb dT_addRule_37 rfl (lv_at hl 0 rfl) ?_
      refine va_get (D := G) (ci := 2) (v := .int (nI sz)) (C := RT) (T := TT) (N := 4) hx hb htA inT hown hK (ob_P hob) 0 rfl rfl 3 (by decide) (htA _ wd366) (fun _ h9 => h9) rfl dT_addRule_38 ?_
      refine pw_iast (F := (fun q => q = tb ∨ q = a1 ∨ q = a2 ∨ q = a3)) hx hb hK h3 1 rfl (show x + i < 64 by omega) (by decide) hL (Or.inr (Or.inr (Or.inr rfl))) dT_addRule_41 (fun H9 lc9 h3 hz1 hk1 hL => ?_)
      have hob := ob_k hob (hk1 tb nt3)
      have h1 := ai_k h1 (hk1 a1 n13)
      have h2 := ai_k h2 (hk1 a2 n23)
      have hz := hz1.trans hz
      have hk : ∀ q, q ≠ tb → q ≠ a1 → q ≠ a2 → q ≠ a3 → H9[q]? = s.heap[q]? := fun q e0 e1 e2 e3 => (hk1 q e3).trans (hk q e0 e1 e2 e3)
      refine lv_iinc (v := nI ((x + i) + 1)) (lv' := [(4, .int (nI ((x + i) + 1))), (0, .ref tb), (1, .int (nI x)), (2, .int (nI d)), (3, .int (nI m0))]) hx hb dT_addRule_42 hl (k := 4) rfl (nI_1 (x + i)) (by decide) rfl (fun ls hl => ?_)
      refine lv_goto (tgt := 23) hx hb dT_addRule_45 (by decide) ?_
      exact ih (i + 1) (upd g (x + i) (nI sz)) H9 lc9 (by omega) hob h1 h2 h3 hz hk hL (fun k9 hk9 => by by_cases e9 : k9 = x + i; (subst e9; rw [pk_us, if_pos ⟨by omega, by omega⟩]); (rw [pk_un e9, hinv k9 hk9]; by_cases e8 : x ≤ k9 ∧ k9 < x + i; (rw [if_pos e8, if_pos ⟨e8.1, by omega⟩]); (rw [if_neg e8, if_neg (by omega)]))) ls (lv_sub hl [1, 2, 3, 4, 0] rfl)
  exact lp (m0) 0 f3 H7 lc7 (by omega) hob h1 h2 h3 hz hk hL (fun k9 hk9 => by rw [if_neg (by omega)]) ls (lv_sub hl [1, 2, 3, 4, 0] rfl)
