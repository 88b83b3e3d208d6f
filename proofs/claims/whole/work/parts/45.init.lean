set_option maxRecDepth 100000 in
set_option maxHeartbeats 4000000 in
theorem m_init (l : Launch) (G : va_G) (cA : Nat → ClassId) (mo : Nat) : Met l yM_init wsM_init ({ frames := 1, cells := 4, slots := 3378, locals := 12 }) (PH G cA [.ref mo] (fun H => (ob G 4 mo [.int 0, .null, .null, .int 0, .long 0, .long 0, .null, .null] H))) (fun _ st o t => o = .returned none ∧ st.heap.size ≤ t.heap.size ∧ (∀ q, q < st.heap.size → q ≠ mo → t.heap[q]? = st.heap[q]?) ∧ (∃ ao af sa ea, st.heap.size ≤ ao ∧ st.heap.size ≤ af ∧ st.heap.size ≤ sa ∧ st.heap.size ≤ ea ∧ mA mo ao af sa ea ∧ mvS G cA mo ao af sa ea 0 (fun _ => 0) (fun _ => 0) 0 0 0 (fun _ => 0) (fun _ => 0) t.heap)) 4 3378 (fun q => q = mo) := by
  refine Met.ofW (cc := cM_init) (maxL := 1) (ret := none) (by decide) rfl ?_
  intro p e s m args below meth c s₁ B hml hv
  obtain ⟨hav, hKN, hob⟩ := hv
  have hK := hKN.1
  have hx := B.exec
  have hb := B.bytes
  have hrt := B.returns
  have htA : ∀ w ∈ ALL, w.before args s = true := fun w h => atoms_spec (ws := wsM_init) B.pre w (List.mem_cons_of_mem _ h)
  have hown : s.vm.findClass RM = some m.cls := findClass_of_methodNamed B.named
  have hlocks := B.notSynchronized
  refine pw_nm (fun R Q hR hQ => ?_)
  refine pw_entry (vs := [.ref mo]) hav (Nat.le_of_ble_eq_true rfl) (fun ls hl => ?_)
  have hl : lv_has ls 1 [(0, .ref mo)] := hl
  have hin : meth.name = "<init>" := (name_of_methodNamed B.named B.method).1
  have hL : ∀ z ∈ ([] : List Loc), (fun q => q = mo) z.base := fun _ h => by cases h
  have hk : ∀ q, q < s.heap.size → q ≠ mo → s.heap[q]? = s.heap[q]? := fun _ _ _ => rfl
  have hz : s.heap.size ≤ s.heap.size := Nat.le_refl _
  have hlt := ob_lt hob
  refine lv_aload_n hx hb dM_init_0 rfl (lv_at hl 0 rfl) ?_
  refine W.objInit hx hb hown (htA _ wd434) (htA _ wd45) (htA _ wd46) rfl (by rw [hml]; exact hl.1) rfl dM_init_1 (by rw [hR]; exact Nat.le_of_ble_eq_true rfl) (by rw [hR]; exact Nat.le_of_ble_eq_true rfl) ?_
  refine W.eq (g2 := F0 m 4 ls []) rfl ?_
  refine lv_aload_n hx hb dM_init_4 rfl (lv_at hl 0 rfl) ?_
  refine lv_sipush (v := nI 3200) hx hb dM_init_5 (by decide) ?_
  refine pn_l hx hb (htA _ wd62) hK 0 rfl (by decide) (by rw [hR]; exact Nat.le_of_ble_eq_true rfl) (by rw [hR]; exact Nat.le_of_ble_eq_true rfl) dM_init_8 (fun H1 ao eao hal hz1 hk1 => ?_)
  have hob := ob_k hob (hk1 mo (by omega))
  have hk : ∀ q, q < s.heap.size → q ≠ mo → H1[q]? = s.heap[q]? := fun q h1 h2 => (hk1 q (by omega)).trans (hk q h1 h2)
  have hz : s.heap.size ≤ H1.size := by omega
  refine pw_putF (ci := 4) (C := RM) (T := TM) (N := 8) (ty := .array .long) (F := fun q => q = mo) hx hb htA inM tyM tyM_ok nmM hown hK hob rfl 1 (by decide) (htA _ wd436) (fun _ h9 => h9) rfl hin rfl (by decide +kernel) rfl rfl (Nat.le_of_ble_eq_true rfl) hL rfl dM_init_10 (fun H2 lc3 hob1 hz1 hk1 hL => ?_)
  have hob : ob G 4 mo [.int 0, .ref ao, .null, .int 0, .long 0, .long 0, .null, .null] H2 := hob1
  have hal := al_k hal (hk1 ao (by omega))
  have hk : ∀ q, q < s.heap.size → q ≠ mo → H2[q]? = s.heap[q]? := fun q h1 h2 => (hk1 q h2).trans (hk q h1 h2)
  have hz : s.heap.size ≤ H2.size := by omega
  refine lv_aload_n hx hb dM_init_13 rfl (lv_at hl 0 rfl) ?_
  refine lv_bipush (v := nI 50) hx hb dM_init_14 (by decide) ?_
  refine pn_z hx hb (htA _ wd460) hK 3 rfl (by decide) (by rw [hR]; exact Nat.le_of_ble_eq_true rfl) (by rw [hR]; exact Nat.le_of_ble_eq_true rfl) dM_init_16 (fun H4 af eaf hab hz1 hk1 => ?_)
  have hob := ob_k hob (hk1 mo (by omega))
  have hal := al_k hal (hk1 ao (by omega))
  have hk : ∀ q, q < s.heap.size → q ≠ mo → H4[q]? = s.heap[q]? := fun q h1 h2 => (hk1 q (by omega)).trans (hk q h1 h2)
  have hz : s.heap.size ≤ H4.size := by omega
  refine pw_putF (ci := 4) (C := RM) (T := TM) (N := 8) (ty := .array .boolean) (F := fun q => q = mo) hx hb htA inM tyM tyM_ok nmM hown hK hob rfl 2 (by decide) (htA _ wd437) (fun _ h9 => h9) rfl hin rfl (by decide +kernel) rfl rfl (Nat.le_of_ble_eq_true rfl) hL rfl dM_init_18 (fun H5 lc6 hob1 hz1 hk1 hL => ?_)
  have hob : ob G 4 mo [.int 0, .ref ao, .ref af, .int 0, .long 0, .long 0, .null, .null] H5 := hob1
  have hal := al_k hal (hk1 ao (by omega))
  have hab := ai_k hab (hk1 af (by omega))
  have hk : ∀ q, q < s.heap.size → q ≠ mo → H5[q]? = s.heap[q]? := fun q h1 h2 => (hk1 q h2).trans (hk q h1 h2)
  have hz : s.heap.size ≤ H5.size := by omega
  refine lv_aload_n hx hb dM_init_21 rfl (lv_at hl 0 rfl) ?_
  refine lv_bipush (v := nI 64) hx hb dM_init_22 (by decide) ?_
  refine pn_i hx hb (htA _ wd377) hK 1 rfl (by decide) (by rw [hR]; exact Nat.le_of_ble_eq_true rfl) (by rw [hR]; exact Nat.le_of_ble_eq_true rfl) dM_init_24 (fun H7 sa esa hsl hz1 hk1 => ?_)
  have hob := ob_k hob (hk1 mo (by omega))
  have hal := al_k hal (hk1 ao (by omega))
  have hab := ai_k hab (hk1 af (by omega))
  have hk : ∀ q, q < s.heap.size → q ≠ mo → H7[q]? = s.heap[q]? := fun q h1 h2 => (hk1 q (by omega)).trans (hk q h1 h2)
  have hz : s.heap.size ≤ H7.size := by omega
  refine pw_putF (ci := 4) (C := RM) (T := TM) (N := 8) (ty := .array .int) (F := fun q => q = mo) hx hb htA inM tyM tyM_ok nmM hown hK hob rfl 6 (by decide) (htA _ wd441) (fun _ h9 => h9) rfl hin rfl (by decide +kernel) rfl rfl (Nat.le_of_ble_eq_true rfl) hL rfl dM_init_26 (fun H8 lc9 hob1 hz1 hk1 hL => ?_)
  have hob : ob G 4 mo [.int 0, .ref ao, .ref af, .int 0, .long 0, .long 0, .ref sa, .null] H8 := hob1
  have hal := al_k hal (hk1 ao (by omega))
  have hab := ai_k hab (hk1 af (by omega))
  have hsl := ai_k hsl (hk1 sa (by omega))
  have hk : ∀ q, q < s.heap.size → q ≠ mo → H8[q]? = s.heap[q]? := fun q h1 h2 => (hk1 q h2).trans (hk q h1 h2)
  have hz : s.heap.size ≤ H8.size := by omega
  refine lv_aload_n hx hb dM_init_29 rfl (lv_at hl 0 rfl) ?_
  refine lv_bipush (v := nI 64) hx hb dM_init_30 (by decide) ?_
  refine pn_i hx hb (htA _ wd377) hK 1 rfl (by decide) (by rw [hR]; exact Nat.le_of_ble_eq_true rfl) (by rw [hR]; exact Nat.le_of_ble_eq_true rfl) dM_init_32 (fun H10 ea eea hel hz1 hk1 => ?_)
  have hob := ob_k hob (hk1 mo (by omega))
  have hal := al_k hal (hk1 ao (by omega))
  have hab := ai_k hab (hk1 af (by omega))
  have hsl := ai_k hsl (hk1 sa (by omega))
  have hk : ∀ q, q < s.heap.size → q ≠ mo → H10[q]? = s.heap[q]? := fun q h1 h2 => (hk1 q (by omega)).trans (hk q h1 h2)
  have hz : s.heap.size ≤ H10.size := by omega
  refine pw_putF (ci := 4) (C := RM) (T := TM) (N := 8) (ty := .array .int) (F := fun q => q = mo) hx hb htA inM tyM tyM_ok nmM hown hK hob rfl 7 (by decide) (htA _ wd442) (fun _ h9 => h9) rfl hin rfl (by decide +kernel) rfl rfl (Nat.le_of_ble_eq_true rfl) hL rfl dM_init_34 (fun H11 lc12 hob1 hz1 hk1 hL => ?_)
  have hob : ob G 4 mo [.int 0, .ref ao, .ref af, .int 0, .long 0, .long 0, .ref sa, .ref ea] H11 := hob1
  have hal := al_k hal (hk1 ao (by omega))
  have hab := ai_k hab (hk1 af (by omega))
  have hsl := ai_k hsl (hk1 sa (by omega))
  have hel := ai_k hel (hk1 ea (by omega))
  have hk : ∀ q, q < s.heap.size → q ≠ mo → H11[q]? = s.heap[q]? := fun q h1 h2 => (hk1 q h2).trans (hk q h1 h2)
  have hz : s.heap.size ≤ H11.size := by omega
  rw [hQ]
  refine W.widen (k := 4) (n := 3378) (by omega) (by omega) ?_
  exact W.vret hx hb hrt (fun t ht hW => ⟨rfl, by rw [ht]; exact hz, by rw [ht]; exact hk, by rw [ht]; exact ⟨ao, af, sa, ea, by omega, by omega, by omega, by omega, ⟨by omega, by omega, by omega, by omega, by omega, by omega, by omega, by omega, by omega, by omega⟩, hob, hal, hab, hsl, hel⟩⟩) hL dM_init_37

set_option maxRecDepth 100000 in
set_option maxHeartbeats 4000000 in
theorem c_Qinit (l : Launch) (G : va_G) (cA : Nat → ClassId) (rs : Nat) : Met l yQ_init wsQ_init ({ frames := 1, cells := 2, slots := 128, locals := 12 }) (PH G cA [.ref rs] (fun H => (ob G 1 rs [.null, .null] H))) (fun _ st o t => o = .returned none ∧ st.heap.size ≤ t.heap.size ∧ (∀ q, q < st.heap.size → q ≠ rs → t.heap[q]? = st.heap[q]?) ∧ (∃ lo hi, st.heap.size ≤ lo ∧ lo < hi ∧ ob G 1 rs [.ref lo, .ref hi] t.heap ∧ al (cA 0) lo 64 (fun _ => 0) t.heap ∧ al (cA 0) hi 64 (fun _ => 0) t.heap)) 2 128 (fun q => q = rs) := by
  refine Met.ofW (cc := cQ_init) (maxL := 1) (ret := none) (by decide) rfl ?_
  intro p e s m args below meth c s₁ B hml hv
  obtain ⟨hav, hKN, hob⟩ := hv
  have hK := hKN.1
  have hx := B.exec
  have hb := B.bytes
  have hrt := B.returns
  have htA : ∀ w ∈ ALL, w.before args s = true := fun w h => atoms_spec (ws := wsQ_init) B.pre w (List.mem_cons_of_mem _ h)
  have hown : s.vm.findClass RQ = some m.cls := findClass_of_methodNamed B.named
  have hlocks := B.notSynchronized
  refine pw_nm (fun R Q hR hQ => ?_)
  refine pw_entry (vs := [.ref rs]) hav (Nat.le_of_ble_eq_true rfl) (fun ls hl => ?_)
  have hl : lv_has ls 1 [(0, .ref rs)] := hl
  have hin : meth.name = "<init>" := (name_of_methodNamed B.named B.method).1
  have hL : ∀ z ∈ ([] : List Loc), (fun q => q = rs) z.base := fun _ h => by cases h
  have hk : ∀ q, q < s.heap.size → q ≠ rs → s.heap[q]? = s.heap[q]? := fun _ _ _ => rfl
  have hz : s.heap.size ≤ s.heap.size := Nat.le_refl _
  have hlt := ob_lt hob
  refine lv_aload_n hx hb dQ_init_0 rfl (lv_at hl 0 rfl) ?_
  refine W.objInit hx hb hown (htA _ wd54) (htA _ wd45) (htA _ wd46) rfl (by rw [hml]; exact hl.1) rfl dQ_init_1 (by rw [hR]; exact Nat.le_of_ble_eq_true rfl) (by rw [hR]; exact Nat.le_of_ble_eq_true rfl) ?_
  refine W.eq (g2 := F0 m 4 ls []) rfl ?_
  refine lv_aload_n hx hb dQ_init_4 rfl (lv_at hl 0 rfl) ?_
  refine lv_bipush (v := nI 64) hx hb dQ_init_5 (by decide) ?_
  refine pn_l hx hb (htA _ wd62) hK 0 rfl (by decide) (by rw [hR]; exact Nat.le_of_ble_eq_true rfl) (by rw [hR]; exact Nat.le_of_ble_eq_true rfl) dQ_init_7 (fun H1 lo elo hlo hz1 hk1 => ?_)
  have hob := ob_k hob (hk1 rs (by omega))
  have hk : ∀ q, q < s.heap.size → q ≠ rs → H1[q]? = s.heap[q]? := fun q h1 h2 => (hk1 q (by omega)).trans (hk q h1 h2)
  have hz : s.heap.size ≤ H1.size := by omega
  refine pw_putF (ci := 1) (C := RQ) (T := TQ) (N := 2) (ty := .array .long) (F := fun q => q = rs) hx hb htA inQ tyQ tyQ_ok nmQ hown hK hob rfl 0 (by decide) (htA _ wd55) (fun _ h9 => h9) rfl hin rfl (by decide +kernel) rfl rfl (Nat.le_of_ble_eq_true rfl) hL rfl dQ_init_9 (fun H2 lc3 hob1 hz1 hk1 hL => ?_)
  have hob : ob G 1 rs [.ref lo, .null] H2 := hob1
  have hlo := al_k hlo (hk1 lo (by omega))
  have hk : ∀ q, q < s.heap.size → q ≠ rs → H2[q]? = s.heap[q]? := fun q h1 h2 => (hk1 q h2).trans (hk q h1 h2)
  have hz : s.heap.size ≤ H2.size := by omega
  refine lv_aload_n hx hb dQ_init_12 rfl (lv_at hl 0 rfl) ?_
  refine lv_bipush (v := nI 64) hx hb dQ_init_13 (by decide) ?_
  refine pn_l hx hb (htA _ wd62) hK 0 rfl (by decide) (by rw [hR]; exact Nat.le_of_ble_eq_true rfl) (by rw [hR]; exact Nat.le_of_ble_eq_true rfl) dQ_init_15 (fun H4 hi ehi hhi hz1 hk1 => ?_)
  have hob := ob_k hob (hk1 rs (by omega))
  have hlo := al_k hlo (hk1 lo (by omega))
  have hk : ∀ q, q < s.heap.size → q ≠ rs → H4[q]? = s.heap[q]? := fun q h1 h2 => (hk1 q (by omega)).trans (hk q h1 h2)
  have hz : s.heap.size ≤ H4.size := by omega
  refine pw_putF (ci := 1) (C := RQ) (T := TQ) (N := 2) (ty := .array .long) (F := fun q => q = rs) hx hb htA inQ tyQ tyQ_ok nmQ hown hK hob rfl 1 (by decide) (htA _ wd56) (fun _ h9 => h9) rfl hin rfl (by decide +kernel) rfl rfl (Nat.le_of_ble_eq_true rfl) hL rfl dQ_init_17 (fun H5 lc6 hob1 hz1 hk1 hL => ?_)
  have hob : ob G 1 rs [.ref lo, .ref hi] H5 := hob1
  have hlo := al_k hlo (hk1 lo (by omega))
  have hhi := al_k hhi (hk1 hi (by omega))
  have hk : ∀ q, q < s.heap.size → q ≠ rs → H5[q]? = s.heap[q]? := fun q h1 h2 => (hk1 q h2).trans (hk q h1 h2)
  have hz : s.heap.size ≤ H5.size := by omega
  rw [hQ]
  refine W.widen (k := 2) (n := 128) (by omega) (by omega) ?_
  exact W.vret hx hb hrt (fun t ht hW => ⟨rfl, by rw [ht]; exact hz, by rw [ht]; exact hk, by rw [ht]; exact ⟨lo, hi, by omega, by omega, hob, hlo, hhi⟩⟩) hL dQ_init_20

set_option maxRecDepth 100000 in
set_option maxHeartbeats 4000000 in
theorem c_Tinit (l : Launch) (G : va_G) (cA : Nat → ClassId) (tb : Nat) : Met l yT_init wsT_init ({ frames := 1, cells := 3, slots := 192, locals := 12 }) (PH G cA [.ref tb] (fun H => (ob G 2 tb [.null, .null, .null, .int 0] H))) (fun _ st o t => o = .returned none ∧ st.heap.size ≤ t.heap.size ∧ (∀ q, q < st.heap.size → q ≠ tb → t.heap[q]? = st.heap[q]?) ∧ (∃ a1 a2 a3, st.heap.size ≤ a1 ∧ a1 < a2 ∧ a2 < a3 ∧ ob G 2 tb [.ref a1, .ref a2, .ref a3, .int (nI 0)] t.heap ∧ ai (cA 1) a1 64 (fun _ => 0) t.heap ∧ ai (cA 1) a2 64 (fun _ => 0) t.heap ∧ ai (cA 1) a3 64 (fun _ => 0) t.heap)) 3 192 (fun q => q = tb) := by
  refine Met.ofW (cc := cT_init) (maxL := 1) (ret := none) (by decide) rfl ?_
  intro p e s m args below meth c s₁ B hml hv
  obtain ⟨hav, hKN, hob⟩ := hv
  have hK := hKN.1
  have hx := B.exec
  have hb := B.bytes
  have hrt := B.returns
  have htA : ∀ w ∈ ALL, w.before args s = true := fun w h => atoms_spec (ws := wsT_init) B.pre w (List.mem_cons_of_mem _ h)
  have hown : s.vm.findClass RT = some m.cls := findClass_of_methodNamed B.named
  have hlocks := B.notSynchronized
  refine pw_nm (fun R Q hR hQ => ?_)
  refine pw_entry (vs := [.ref tb]) hav (Nat.le_of_ble_eq_true rfl) (fun ls hl => ?_)
  have hl : lv_has ls 1 [(0, .ref tb)] := hl
  have hin : meth.name = "<init>" := (name_of_methodNamed B.named B.method).1
  have hL : ∀ z ∈ ([] : List Loc), (fun q => q = tb) z.base := fun _ h => by cases h
  have hk : ∀ q, q < s.heap.size → q ≠ tb → s.heap[q]? = s.heap[q]? := fun _ _ _ => rfl
  have hz : s.heap.size ≤ s.heap.size := Nat.le_refl _
  have hlt := ob_lt hob
  refine lv_aload_n hx hb dT_init_0 rfl (lv_at hl 0 rfl) ?_
  refine W.objInit hx hb hown (htA _ wd359) (htA _ wd45) (htA _ wd46) rfl (by rw [hml]; exact hl.1) rfl dT_init_1 (by rw [hR]; exact Nat.le_of_ble_eq_true rfl) (by rw [hR]; exact Nat.le_of_ble_eq_true rfl) ?_
  refine W.eq (g2 := F0 m 4 ls []) rfl ?_
  refine lv_aload_n hx hb dT_init_4 rfl (lv_at hl 0 rfl) ?_
  refine lv_bipush (v := nI 64) hx hb dT_init_5 (by decide) ?_
  refine pn_i hx hb (htA _ wd377) hK 1 rfl (by decide) (by rw [hR]; exact Nat.le_of_ble_eq_true rfl) (by rw [hR]; exact Nat.le_of_ble_eq_true rfl) dT_init_7 (fun H1 a1 ea1 h1 hz1 hk1 => ?_)
  have hob := ob_k hob (hk1 tb (by omega))
  have hk : ∀ q, q < s.heap.size → q ≠ tb → H1[q]? = s.heap[q]? := fun q h1 h2 => (hk1 q (by omega)).trans (hk q h1 h2)
  have hz : s.heap.size ≤ H1.size := by omega
  refine pw_putF (ci := 2) (C := RT) (T := TT) (N := 4) (ty := .array .int) (F := fun q => q = tb) hx hb htA inT tyT tyT_ok nmT hown hK hob rfl 0 (by decide) (htA _ wd360) (fun _ h9 => h9) rfl hin rfl (by decide +kernel) rfl rfl (Nat.le_of_ble_eq_true rfl) hL rfl dT_init_9 (fun H2 lc3 hob1 hz1 hk1 hL => ?_)
  have hob : ob G 2 tb [.ref a1, .null, .null, .int 0] H2 := hob1
  have h1 := ai_k h1 (hk1 a1 (by omega))
  have hk : ∀ q, q < s.heap.size → q ≠ tb → H2[q]? = s.heap[q]? := fun q h1 h2 => (hk1 q h2).trans (hk q h1 h2)
  have hz : s.heap.size ≤ H2.size := by omega
  refine lv_aload_n hx hb dT_init_12 rfl (lv_at hl 0 rfl) ?_
  refine lv_bipush (v := nI 64) hx hb dT_init_13 (by decide) ?_
  refine pn_i hx hb (htA _ wd377) hK 1 rfl (by decide) (by rw [hR]; exact Nat.le_of_ble_eq_true rfl) (by rw [hR]; exact Nat.le_of_ble_eq_true rfl) dT_init_15 (fun H4 a2 ea2 h2 hz1 hk1 => ?_)
  have hob := ob_k hob (hk1 tb (by omega))
  have h1 := ai_k h1 (hk1 a1 (by omega))
  have hk : ∀ q, q < s.heap.size → q ≠ tb → H4[q]? = s.heap[q]? := fun q h1 h2 => (hk1 q (by omega)).trans (hk q h1 h2)
  have hz : s.heap.size ≤ H4.size := by omega
  refine pw_putF (ci := 2) (C := RT) (T := TT) (N := 4) (ty := .array .int) (F := fun q => q = tb) hx hb htA inT tyT tyT_ok nmT hown hK hob rfl 1 (by decide) (htA _ wd362) (fun _ h9 => h9) rfl hin rfl (by decide +kernel) rfl rfl (Nat.le_of_ble_eq_true rfl) hL rfl dT_init_17 (fun H5 lc6 hob1 hz1 hk1 hL => ?_)
  have hob : ob G 2 tb [.ref a1, .ref a2, .null, .int 0] H5 := hob1
  have h1 := ai_k h1 (hk1 a1 (by omega))
  have h2 := ai_k h2 (hk1 a2 (by omega))
  have hk : ∀ q, q < s.heap.size → q ≠ tb → H5[q]? = s.heap[q]? := fun q h1 h2 => (hk1 q h2).trans (hk q h1 h2)
  have hz : s.heap.size ≤ H5.size := by omega
  refine lv_aload_n hx hb dT_init_20 rfl (lv_at hl 0 rfl) ?_
  refine lv_bipush (v := nI 64) hx hb dT_init_21 (by decide) ?_
  refine pn_i hx hb (htA _ wd377) hK 1 rfl (by decide) (by rw [hR]; exact Nat.le_of_ble_eq_true rfl) (by rw [hR]; exact Nat.le_of_ble_eq_true rfl) dT_init_23 (fun H7 a3 ea3 h3 hz1 hk1 => ?_)
  have hob := ob_k hob (hk1 tb (by omega))
  have h1 := ai_k h1 (hk1 a1 (by omega))
  have h2 := ai_k h2 (hk1 a2 (by omega))
  have hk : ∀ q, q < s.heap.size → q ≠ tb → H7[q]? = s.heap[q]? := fun q h1 h2 => (hk1 q (by omega)).trans (hk q h1 h2)
  have hz : s.heap.size ≤ H7.size := by omega
  refine pw_putF (ci := 2) (C := RT) (T := TT) (N := 4) (ty := .array .int) (F := fun q => q = tb) hx hb htA inT tyT tyT_ok nmT hown hK hob rfl 2 (by decide) (htA _ wd364) (fun _ h9 => h9) rfl hin rfl (by decide +kernel) rfl rfl (Nat.le_of_ble_eq_true rfl) hL rfl dT_init_25 (fun H8 lc9 hob1 hz1 hk1 hL => ?_)
  have hob : ob G 2 tb [.ref a1, .ref a2, .ref a3, .int 0] H8 := hob1
  have h1 := ai_k h1 (hk1 a1 (by omega))
  have h2 := ai_k h2 (hk1 a2 (by omega))
  have h3 := ai_k h3 (hk1 a3 (by omega))
  have hk : ∀ q, q < s.heap.size → q ≠ tb → H8[q]? = s.heap[q]? := fun q h1 h2 => (hk1 q h2).trans (hk q h1 h2)
  have hz : s.heap.size ≤ H8.size := by omega
  refine lv_aload_n hx hb dT_init_28 rfl (lv_at hl 0 rfl) ?_
  refine lv_iconst (v := nI 0) hx hb dT_init_29 (by decide) ?_
  refine pw_put (ci := 2) (C := RT) (T := TT) (N := 4) (ty := .int) (F := fun q => q = tb) hx hb htA inT tyT tyT_ok nmT hown hK hob rfl 3 (by decide) (htA _ wd366) (fun _ h9 => h9) rfl (by decide +kernel) rfl rfl (Nat.le_of_ble_eq_true rfl) hL rfl dT_init_30 (fun H10 lc11 hob1 hz1 hk1 hL => ?_)
  have hob : ob G 2 tb [.ref a1, .ref a2, .ref a3, .int (nI 0)] H10 := hob1
  have h1 := ai_k h1 (hk1 a1 (by omega))
  have h2 := ai_k h2 (hk1 a2 (by omega))
  have h3 := ai_k h3 (hk1 a3 (by omega))
  have hk : ∀ q, q < s.heap.size → q ≠ tb → H10[q]? = s.heap[q]? := fun q h1 h2 => (hk1 q h2).trans (hk q h1 h2)
  have hz : s.heap.size ≤ H10.size := by omega
  rw [hQ]
  refine W.widen (k := 3) (n := 192) (by omega) (by omega) ?_
  exact W.vret hx hb hrt (fun t ht hW => ⟨rfl, by rw [ht]; exact hz, by rw [ht]; exact hk, by rw [ht]; exact ⟨a1, a2, a3, by omega, by omega, by omega, hob, h1, h2, h3⟩⟩) hL dT_init_33

set_option maxRecDepth 100000 in
set_option maxHeartbeats 4000000 in
theorem c_Pinit (l : Launch) (G : va_G) (cA : Nat → ClassId) (po : Nat) (b : Bool) : Met l yP_init wsP_init ({ frames := 1, cells := 1, slots := 64, locals := 12 }) (PH G cA [.ref po, .int (bI b)] (fun H => (ob G 0 po [.int 0, .null, .null] H))) (fun _ st o t => o = .returned none ∧ st.heap.size ≤ t.heap.size ∧ (∀ q, q < st.heap.size → q ≠ po → t.heap[q]? = st.heap[q]?) ∧ (∃ oc, st.heap.size ≤ oc ∧ ob G 0 po [.int (bI b), .ref oc, .null] t.heap ∧ al (cA 0) oc 64 (fun _ => 0) t.heap)) 1 64 (fun q => q = po) := by
  refine Met.ofW (cc := cP_init) (maxL := 2) (ret := none) (by decide) rfl ?_
  intro p e s m args below meth c s₁ B hml hv
  obtain ⟨hav, hKN, hob⟩ := hv
  have hK := hKN.1
  have hx := B.exec
  have hb := B.bytes
  have hrt := B.returns
  have htA : ∀ w ∈ ALL, w.before args s = true := fun w h => atoms_spec (ws := wsP_init) B.pre w (List.mem_cons_of_mem _ h)
  have hown : s.vm.findClass RP = some m.cls := findClass_of_methodNamed B.named
  have hlocks := B.notSynchronized
  refine pw_nm (fun R Q hR hQ => ?_)
  refine pw_entry (vs := [.ref po, .int (bI b)]) hav (Nat.le_of_ble_eq_true rfl) (fun ls hl => ?_)
  have hl : lv_has ls 2 [(0, .ref po), (1, .int (bI b))] := hl
  have hin : meth.name = "<init>" := (name_of_methodNamed B.named B.method).1
  have hL : ∀ z ∈ ([] : List Loc), (fun q => q = po) z.base := fun _ h => by cases h
  have hk : ∀ q, q < s.heap.size → q ≠ po → s.heap[q]? = s.heap[q]? := fun _ _ _ => rfl
  have hz : s.heap.size ≤ s.heap.size := Nat.le_refl _
  have hlt := ob_lt hob
  refine lv_aload_n hx hb dP_init_0 rfl (lv_at hl 0 rfl) ?_
  refine W.objInit hx hb hown (htA _ wd196) (htA _ wd45) (htA _ wd46) rfl (by rw [hml]; exact hl.1) rfl dP_init_1 (by rw [hR]; exact Nat.le_of_ble_eq_true rfl) (by rw [hR]; exact Nat.le_of_ble_eq_true rfl) ?_
  refine W.eq (g2 := F0 m 4 ls []) rfl ?_
  refine lv_aload_n hx hb dP_init_4 rfl (lv_at hl 0 rfl) ?_
  refine lv_iload_n hx hb dP_init_5 rfl (lv_at hl 1 rfl) ?_
  refine pw_putF (ci := 0) (C := RP) (T := TP) (N := 3) (ty := .boolean) (F := fun q => q = po) hx hb htA inP tyP tyP_ok nmP hown hK hob rfl 0 (by decide) (htA _ wd197) (fun _ h9 => h9) rfl hin rfl (by decide +kernel) (bI_nar _) (bI_fit _) (Nat.le_of_ble_eq_true rfl) hL rfl dP_init_6 (fun H1 lc2 hob1 hz1 hk1 hL => ?_)
  have hob : ob G 0 po [.int (bI b), .null, .null] H1 := hob1
  have hk : ∀ q, q < s.heap.size → q ≠ po → H1[q]? = s.heap[q]? := fun q h1 h2 => (hk1 q h2).trans (hk q h1 h2)
  have hz : s.heap.size ≤ H1.size := by omega
  refine lv_aload_n hx hb dP_init_9 rfl (lv_at hl 0 rfl) ?_
  refine lv_bipush (v := nI 64) hx hb dP_init_10 (by decide) ?_
  refine pn_l hx hb (htA _ wd62) hK 0 rfl (by decide) (by rw [hR]; exact Nat.le_of_ble_eq_true rfl) (by rw [hR]; exact Nat.le_of_ble_eq_true rfl) dP_init_12 (fun H3 oc eoc hoc hz1 hk1 => ?_)
  have hob := ob_k hob (hk1 po (by omega))
  have hk : ∀ q, q < s.heap.size → q ≠ po → H3[q]? = s.heap[q]? := fun q h1 h2 => (hk1 q (by omega)).trans (hk q h1 h2)
  have hz : s.heap.size ≤ H3.size := by omega
  refine pw_putF (ci := 0) (C := RP) (T := TP) (N := 3) (ty := .array .long) (F := fun q => q = po) hx hb htA inP tyP tyP_ok nmP hown hK hob rfl 1 (by decide) (htA _ wd199) (fun _ h9 => h9) rfl hin rfl (by decide +kernel) rfl rfl (Nat.le_of_ble_eq_true rfl) hL rfl dP_init_14 (fun H4 lc5 hob1 hz1 hk1 hL => ?_)
  have hob : ob G 0 po [.int (bI b), .ref oc, .null] H4 := hob1
  have hoc := al_k hoc (hk1 oc (by omega))
  have hk : ∀ q, q < s.heap.size → q ≠ po → H4[q]? = s.heap[q]? := fun q h1 h2 => (hk1 q h2).trans (hk q h1 h2)
  have hz : s.heap.size ≤ H4.size := by omega
  refine lv_aload_n hx hb dP_init_17 rfl (lv_at hl 0 rfl) ?_
  refine lv_null hx hb dP_init_18 ?_
  refine pw_put (ci := 0) (C := RP) (T := TP) (N := 3) (ty := .object "PolicyVerifier$Table") (F := fun q => q = po) hx hb htA inP tyP tyP_ok nmP hown hK hob rfl 2 (by decide) (htA _ wd201) (fun _ h9 => h9) rfl (by decide +kernel) rfl rfl (Nat.le_of_ble_eq_true rfl) hL rfl dP_init_19 (fun H6 lc7 hob1 hz1 hk1 hL => ?_)
  have hob : ob G 0 po [.int (bI b), .ref oc, .null] H6 := hob1
  have hoc := al_k hoc (hk1 oc (by omega))
  have hk : ∀ q, q < s.heap.size → q ≠ po → H6[q]? = s.heap[q]? := fun q h1 h2 => (hk1 q h2).trans (hk q h1 h2)
  have hz : s.heap.size ≤ H6.size := by omega
  rw [hQ]
  refine W.widen (k := 1) (n := 64) (by omega) (by omega) ?_
  exact W.vret hx hb hrt (fun t ht hW => ⟨rfl, by rw [ht]; exact hz, by rw [ht]; exact hk, by rw [ht]; exact ⟨oc, by omega, hob, hoc⟩⟩) hL dP_init_22
