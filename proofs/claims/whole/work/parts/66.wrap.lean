theorem xR_Q0 {G : va_G} {cA : Nat → ClassId} {E : Nat → Prop} {x pa rs lo hi n : Nat} {F : Nat → Bool} {O : Nat → Nat → Int64} {po oc : Nat → Nat} {tb : Nat → Option Nat} {tc : Nat → Nat × Nat × Nat} {cond : String → Prop} {X : String} {st9 t9 s : State} (hS : pvS G cA x pa rs lo hi n F O po oc tb tc s.heap) (hN : pvN E x pa rs lo hi n po oc tb tc) (h : xR cond X st9 t9) (h0 : st9.heap = s.heap) : xQ G cA E x n F O cond X s t9 := xR_Q (cond' := cond) hS hN (Nat.le_refl _) (fun _ _ _ => rfl) h h0 (fun q => q) rfl
set_option maxRecDepth 100000 in
set_option maxHeartbeats 4000000 in
theorem w_outcome (l : Launch) (hl9 : l.stackTraces = false) (G : va_G) (cA : Nat → ClassId) (E : Nat → Prop) (x pa rs lo hi n : Nat) (F : Nat → Bool) (O : Nat → Nat → Int64) (po oc : Nat → Nat) (tb : Nat → Option Nat) (tc : Nat → Nat × Nat × Nat) (ou : Nat) (fu : Nat → Int64) (v v2 : Int32) : Met l yL_outcome wsL_outcome ({ frames := 8, cells := 2, slots := 12, locals := 144 }) (PN G cA E [.ref x, .int v, .int v2, .ref ou] (fun H => (pvS G cA x pa rs lo hi n F O po oc tb tc H ∧ pvN E x pa rs lo hi n po oc tb tc ∧ (∀ q, E q → q < H.size) ∧ E ou ∧ al (cA 0) ou 1 fu H))) (LQ G cA E ou x (lk0 n F O (fun k w => (k = 1 ∧ inb n v = false) ∨ (k = 2 ∧ inb n v = true ∧ inb 64 v2 = false) ∨ (k = 0 ∧ ∃ a j, a < n ∧ j < 64 ∧ v = nI a ∧ v2 = nI j ∧ w = O a j)))) 2 12 (fun q => ¬ E q ∨ q = ou) := by
  refine va_MetW (cc := cL_outcome) (maxL := 5) (ret := some .int) (hh := [(0, 9, 12, 23), (0, 9, 16, 13)]) (by decide) rfl ?_
  intro p e s m args below meth c s₁ B hml hv
  obtain ⟨hav, hKN, hZ, hNC, hpv, hNE, hElt, hEo, hou⟩ := hv
  have hK := hKN.1
  have hx := B.exec
  have hb := B.bytes
  have hrt := B.returns
  have htA : ∀ w ∈ ALL, w.before args s = true := fun w h => atoms_spec (ws := wsL_outcome) B.pre w (List.mem_cons_of_mem _ h)
  have htb := vx_table (x := yL_outcome) B (atoms_spec (ws := wsL_outcome) B.pre _ List.mem_cons_self)
  have hown : s.vm.findClass RL = some m.cls := findClass_of_methodNamed B.named
  have hlocks := B.notSynchronized
  refine pw_nm (fun R Q hR hQ => ?_)
  refine pw_entry (vs := [.ref x, .int v, .int v2, .ref ou]) hav (Nat.le_of_ble_eq_true rfl) (fun ls hl => ?_)
  have hl : lv_has ls 5 [(0, .ref x), (1, .int v), (2, .int v2), (3, .ref ou)] := hl
  have hS0 := hpv
  obtain ⟨p1, p2, p3, p4, p5, p6, p7, p8, p9, p10, p11, p12⟩ := hpv
  have hL : ∀ z ∈ ([] : List Loc), (fun q => ¬ E q ∨ q = ou) z.base := fun _ h => by cases h
  refine lv_aload_n hx hb dL_outcome_0 rfl (lv_at hl 3 rfl) ?_
  refine lv_iconst (v := nI 0) hx hb dL_outcome_1 (by decide) ?_
  refine lv_aload_n hx hb dL_outcome_2 rfl (lv_at hl 0 rfl) ?_
  refine lv_iload_n hx hb dL_outcome_3 rfl (lv_at hl 1 rfl) ?_
  refine lv_iload_n hx hb dL_outcome_4 rfl (lv_at hl 2 rfl) ?_
  refine px_call (F := (fun q => ¬ E q ∨ q = ou)) (vx_runV (As := [.int v, .int v2]) (rest := [.int (nI 0), .ref ou]) ⟨hx, hb, hml, hown, htA⟩ (c_outcome l hl9 G cA E x pa rs lo hi n F O po oc tb tc v v2) (cwV 2 htA (gd_V wd261 wd262 wd263 wd26 wd264) rfl rfl rfl (by decide +kernel) (by rw [hR]; exact ⟨Nat.le_of_ble_eq_true rfl, Nat.le_of_ble_eq_true rfl⟩)) (px_V (ci := 3) (q := (RV, TV, 4)) hKN hZ p1 rfl hS0) rfl rfl hl.1 rfl (lv_room (Nat.le_of_ble_eq_true rfl)) dL_outcome_5 (by rw [hR]; exact ⟨Nat.le_of_ble_eq_true rfl, Nat.le_of_ble_eq_true rfl⟩)) hL (fun q h => h.elim) (fun E9 ce9 q9 st9 t9 lc9 h09 ha9 hL9 hx9 g1 g2 g3 => ?_) (fun v9 st9 t9 lc9 h09 ha9 hL hq9 => ?_)
  · have hx9 := xR_Q0 hS0 hNE hx9 h09
    have h09 : s.heap = s.heap := rfl
    obtain ⟨hc9, hP9, hF9⟩ := hx9
    rcases hc9 with ⟨rfl, hc9⟩ | ⟨rfl, hc9⟩
    · refine vx_catch (own := RL) (name := "java/util/NoSuchElementException") hown [] ⟨0, 9, 12, 23⟩ [⟨0, 9, 16, 13⟩] (htb.trans rfl) (fun _ h => by cases h) rfl (by decide) (htA _ wd260) (KN.cast hKN (w := .castable "java/util/NoSuchElementException" "java/util/NoSuchElementException") (by decide +kernel)) g1 g2 g3 ?_
      refine lv_astore (lv' := [(4, .ref q9), (0, .ref x), (1, .int v), (2, .int v2), (3, .ref ou)]) hx hb dL_outcome_12 hl (by decide) rfl (fun ls hl => ?_)
      refine lv_iconst (v := nI 1) hx hb dL_outcome_14 (by decide) ?_
      rw [hQ]
      refine W.widen (k := 2) (n := 12) (by omega) (by omega) ?_
      exact W.iret (v := nI 1) hx hb hrt (fun t ht hW => LQ_x (k := 1) h09 hP9 hF9 hou hEo ⟨Or.inl ⟨rfl, hc9⟩, rfl, rfl, rfl⟩ ht) hL9 dL_outcome_15
    · refine vx_catch (own := RL) (name := "java/lang/IllegalArgumentException") hown [⟨0, 9, 12, 23⟩] ⟨0, 9, 16, 13⟩ [] (htb.trans rfl) (List.forall_mem_cons.mpr ⟨Or.inr ⟨by decide, "java/util/NoSuchElementException", htA _ wd260, hNC.n (by decide)⟩, (fun _ h => by cases h)⟩) rfl (by decide) (htA _ wd79) (KN.cast hKN (w := .castable "java/lang/IllegalArgumentException" "java/lang/IllegalArgumentException") (by decide +kernel)) g1 g2 g3 ?_
      refine lv_astore (lv' := [(4, .ref q9), (0, .ref x), (1, .int v), (2, .int v2), (3, .ref ou)]) hx hb dL_outcome_16 hl (by decide) rfl (fun ls hl => ?_)
      refine lv_iconst (v := nI 2) hx hb dL_outcome_18 (by decide) ?_
      rw [hQ]
      refine W.widen (k := 2) (n := 12) (by omega) (by omega) ?_
      exact W.iret (v := nI 2) hx hb hrt (fun t ht hW => LQ_x (k := 2) h09 hP9 hF9 hou hEo ⟨Or.inr (Or.inl ⟨rfl, hc9⟩), rfl, rfl, rfl⟩ ht) hL9 dL_outcome_19
  · obtain ⟨r9, hv9, hp9, hh9⟩ := hq9
    cases hv9
    rw [h09] at hh9
    rw [hh9]
    have hP9 : PVE G cA E x n F O s.heap := ⟨pa, rs, lo, hi, po, oc, tb, tc, hS0, hNE⟩
    have f1 := Nat.le_refl s.heap.size
    have f2 : ∀ q, q < s.heap.size → E q → s.heap[q]? = s.heap[q]? := fun _ _ _ => rfl
    refine pw_last (F := (fun q => ¬ E q ∨ q = ou)) hx hb hK hou 0 rfl (show 0 < 1 by decide) (by decide) hL (Or.inr rfl) dL_outcome_8 (fun H6 lc6 hou hz1 hk1 hL => ?_)
    refine lv_goto (tgt := 20) hx hb dL_outcome_9 (by decide) ?_
    refine lv_iconst (v := nI 0) hx hb dL_outcome_20 (by decide) ?_
    rw [hQ]
    refine W.widen (k := 2) (n := 12) (by omega) (by omega) ?_
    exact W.iret (v := nI 0) hx hb hrt (fun t ht hW => LQ_r hP9 f1 f2 hEo hou hz1 hk1 ⟨Or.inr (Or.inr ⟨rfl, hp9⟩), rfl, rfl, rfl⟩ ht) hL dL_outcome_21

set_option maxRecDepth 100000 in
set_option maxHeartbeats 4000000 in
theorem w_image (l : Launch) (hl9 : l.stackTraces = false) (G : va_G) (cA : Nat → ClassId) (E : Nat → Prop) (x pa rs lo hi n : Nat) (F : Nat → Bool) (O : Nat → Nat → Int64) (po oc : Nat → Nat) (tb : Nat → Option Nat) (tc : Nat → Nat × Nat × Nat) (ou : Nat) (fu : Nat → Int64) (v : Int32) (z : Int64) : Met l yL_image wsL_image ({ frames := 8, cells := 1, slots := 6, locals := 144 }) (PN G cA E [.ref x, .int v, .long z, .ref ou] (fun H => (pvS G cA x pa rs lo hi n F O po oc tb tc H ∧ pvN E x pa rs lo hi n po oc tb tc ∧ (∀ q, E q → q < H.size) ∧ E ou ∧ al (cA 0) ou 1 fu H))) (LQ G cA E ou x (lk0 n F O (fun k w => (k = 1 ∧ inb n v = false) ∨ (k = 0 ∧ ∃ a, a < n ∧ v = nI a ∧ w = gf (O a) z 64)))) 1 6 (fun q => ¬ E q ∨ q = ou) := by
  refine va_MetW (cc := cL_image) (maxL := 6) (ret := some .int) (hh := [(0, 10, 13, 23)]) (by decide) rfl ?_
  intro p e s m args below meth c s₁ B hml hv
  obtain ⟨hav, hKN, hZ, hNC, hpv, hNE, hElt, hEo, hou⟩ := hv
  have hK := hKN.1
  have hx := B.exec
  have hb := B.bytes
  have hrt := B.returns
  have htA : ∀ w ∈ ALL, w.before args s = true := fun w h => atoms_spec (ws := wsL_image) B.pre w (List.mem_cons_of_mem _ h)
  have htb := vx_table (x := yL_image) B (atoms_spec (ws := wsL_image) B.pre _ List.mem_cons_self)
  have hown : s.vm.findClass RL = some m.cls := findClass_of_methodNamed B.named
  have hlocks := B.notSynchronized
  refine pw_nm (fun R Q hR hQ => ?_)
  refine pw_entry (vs := [.ref x, .int v, .long z, .ref ou]) hav (Nat.le_of_ble_eq_true rfl) (fun ls hl => ?_)
  have hl : lv_has ls 6 [(0, .ref x), (1, .int v), (2, .long z), (4, .ref ou)] := hl
  have hS0 := hpv
  obtain ⟨p1, p2, p3, p4, p5, p6, p7, p8, p9, p10, p11, p12⟩ := hpv
  have hL : ∀ z ∈ ([] : List Loc), (fun q => ¬ E q ∨ q = ou) z.base := fun _ h => by cases h
  refine lv_aload hx hb dL_image_0 (lv_at hl 3 rfl) ?_
  refine lv_iconst (v := nI 0) hx hb dL_image_2 (by decide) ?_
  refine lv_aload_n hx hb dL_image_3 rfl (lv_at hl 0 rfl) ?_
  refine lv_iload_n hx hb dL_image_4 rfl (lv_at hl 1 rfl) ?_
  refine lv_lload_n hx hb dL_image_5 rfl (lv_at hl 2 rfl) ?_
  refine px_call (F := (fun q => ¬ E q ∨ q = ou)) (vx_runV (As := [.int v, .long z]) (rest := [.int (nI 0), .ref ou]) ⟨hx, hb, hml, hown, htA⟩ (c_image l hl9 G cA E x pa rs lo hi n F O po oc tb tc v z) (cwV 2 htA (gd_V wd290 wd291 wd292 wd26 wd293) rfl rfl rfl (by decide +kernel) (by rw [hR]; exact ⟨Nat.le_of_ble_eq_true rfl, Nat.le_of_ble_eq_true rfl⟩)) (px_V (ci := 3) (q := (RV, TV, 4)) hKN hZ p1 rfl hS0) rfl rfl hl.1 rfl (lv_room (Nat.le_of_ble_eq_true rfl)) dL_image_6 (by rw [hR]; exact ⟨Nat.le_of_ble_eq_true rfl, Nat.le_of_ble_eq_true rfl⟩)) hL (fun q h => h.elim) (fun E9 ce9 q9 st9 t9 lc9 h09 ha9 hL9 hx9 g1 g2 g3 => ?_) (fun v9 st9 t9 lc9 h09 ha9 hL hq9 => ?_)
  · have hx9 := xR_Q0 hS0 hNE hx9 h09
    have h09 : s.heap = s.heap := rfl
    obtain ⟨hc9, hP9, hF9⟩ := hx9
    rcases hc9 with ⟨rfl, hc9⟩
    · refine vx_catch (own := RL) (name := "java/util/NoSuchElementException") hown [] ⟨0, 10, 13, 23⟩ [] (htb.trans rfl) (fun _ h => by cases h) rfl (by decide) (htA _ wd260) (KN.cast hKN (w := .castable "java/util/NoSuchElementException" "java/util/NoSuchElementException") (by decide +kernel)) g1 g2 g3 ?_
      refine lv_astore (lv' := [(5, .ref q9), (0, .ref x), (1, .int v), (2, .long z), (4, .ref ou)]) hx hb dL_image_13 hl (by decide) rfl (fun ls hl => ?_)
      refine lv_iconst (v := nI 1) hx hb dL_image_15 (by decide) ?_
      rw [hQ]
      refine W.widen (k := 1) (n := 6) (by omega) (by omega) ?_
      exact W.iret (v := nI 1) hx hb hrt (fun t ht hW => LQ_x (k := 1) h09 hP9 hF9 hou hEo ⟨Or.inl ⟨rfl, hc9⟩, rfl, rfl, rfl⟩ ht) hL9 dL_image_16
  · obtain ⟨r9, hv9, hp9, hh9⟩ := hq9
    cases hv9
    rw [h09] at hh9
    rw [hh9]
    have hP9 : PVE G cA E x n F O s.heap := ⟨pa, rs, lo, hi, po, oc, tb, tc, hS0, hNE⟩
    have f1 := Nat.le_refl s.heap.size
    have f2 : ∀ q, q < s.heap.size → E q → s.heap[q]? = s.heap[q]? := fun _ _ _ => rfl
    refine pw_last (F := (fun q => ¬ E q ∨ q = ou)) hx hb hK hou 0 rfl (show 0 < 1 by decide) (by decide) hL (Or.inr rfl) dL_image_9 (fun H6 lc6 hou hz1 hk1 hL => ?_)
    refine lv_goto (tgt := 17) hx hb dL_image_10 (by decide) ?_
    refine lv_iconst (v := nI 0) hx hb dL_image_17 (by decide) ?_
    rw [hQ]
    refine W.widen (k := 1) (n := 6) (by omega) (by omega) ?_
    exact W.iret (v := nI 0) hx hb hrt (fun t ht hW => LQ_r hP9 f1 f2 hEo hou hz1 hk1 ⟨Or.inr ⟨rfl, hp9⟩, rfl, rfl, rfl⟩ ht) hL dL_image_18

set_option maxRecDepth 100000 in
set_option maxHeartbeats 4000000 in
theorem w_source (l : Launch) (hl9 : l.stackTraces = false) (G : va_G) (cA : Nat → ClassId) (E : Nat → Prop) (x pa rs lo hi n : Nat) (F : Nat → Bool) (O : Nat → Nat → Int64) (po oc : Nat → Nat) (tb : Nat → Option Nat) (tc : Nat → Nat × Nat × Nat) (ou : Nat) (fu : Nat → Int64) (v : Int32) (z : Int64) : Met l yL_source wsL_source ({ frames := 8, cells := 1, slots := 6, locals := 148 }) (PN G cA E [.ref x, .int v, .long z, .ref ou] (fun H => (pvS G cA x pa rs lo hi n F O po oc tb tc H ∧ pvN E x pa rs lo hi n po oc tb tc ∧ (∀ q, E q → q < H.size) ∧ E ou ∧ al (cA 0) ou 1 fu H))) (LQ G cA E ou x (lk0 n F O (fun k w => (k = 1 ∧ inb n v = false) ∨ (k = 0 ∧ ∃ a, a < n ∧ v = nI a ∧ w = src (O a) z 64)))) 1 6 (fun q => ¬ E q ∨ q = ou) := by
  refine va_MetW (cc := cL_source) (maxL := 6) (ret := some .int) (hh := [(0, 10, 13, 23)]) (by decide) rfl ?_
  intro p e s m args below meth c s₁ B hml hv
  obtain ⟨hav, hKN, hZ, hNC, hpv, hNE, hElt, hEo, hou⟩ := hv
  have hK := hKN.1
  have hx := B.exec
  have hb := B.bytes
  have hrt := B.returns
  have htA : ∀ w ∈ ALL, w.before args s = true := fun w h => atoms_spec (ws := wsL_source) B.pre w (List.mem_cons_of_mem _ h)
  have htb := vx_table (x := yL_source) B (atoms_spec (ws := wsL_source) B.pre _ List.mem_cons_self)
  have hown : s.vm.findClass RL = some m.cls := findClass_of_methodNamed B.named
  have hlocks := B.notSynchronized
  refine pw_nm (fun R Q hR hQ => ?_)
  refine pw_entry (vs := [.ref x, .int v, .long z, .ref ou]) hav (Nat.le_of_ble_eq_true rfl) (fun ls hl => ?_)
  have hl : lv_has ls 6 [(0, .ref x), (1, .int v), (2, .long z), (4, .ref ou)] := hl
  have hS0 := hpv
  obtain ⟨p1, p2, p3, p4, p5, p6, p7, p8, p9, p10, p11, p12⟩ := hpv
  have hL : ∀ z ∈ ([] : List Loc), (fun q => ¬ E q ∨ q = ou) z.base := fun _ h => by cases h
  refine lv_aload hx hb dL_source_0 (lv_at hl 3 rfl) ?_
  refine lv_iconst (v := nI 0) hx hb dL_source_2 (by decide) ?_
  refine lv_aload_n hx hb dL_source_3 rfl (lv_at hl 0 rfl) ?_
  refine lv_iload_n hx hb dL_source_4 rfl (lv_at hl 1 rfl) ?_
  refine lv_lload_n hx hb dL_source_5 rfl (lv_at hl 2 rfl) ?_
  refine px_call (F := (fun q => ¬ E q ∨ q = ou)) (vx_runV (As := [.int v, .long z]) (rest := [.int (nI 0), .ref ou]) ⟨hx, hb, hml, hown, htA⟩ (c_source l hl9 G cA E x pa rs lo hi n F O po oc tb tc v z) (cwV 2 htA (gd_V wd297 wd298 wd299 wd26 wd300) rfl rfl rfl (by decide +kernel) (by rw [hR]; exact ⟨Nat.le_of_ble_eq_true rfl, Nat.le_of_ble_eq_true rfl⟩)) (px_V (ci := 3) (q := (RV, TV, 4)) hKN hZ p1 rfl hS0) rfl rfl hl.1 rfl (lv_room (Nat.le_of_ble_eq_true rfl)) dL_source_6 (by rw [hR]; exact ⟨Nat.le_of_ble_eq_true rfl, Nat.le_of_ble_eq_true rfl⟩)) hL (fun q h => h.elim) (fun E9 ce9 q9 st9 t9 lc9 h09 ha9 hL9 hx9 g1 g2 g3 => ?_) (fun v9 st9 t9 lc9 h09 ha9 hL hq9 => ?_)
  · have hx9 := xR_Q0 hS0 hNE hx9 h09
    have h09 : s.heap = s.heap := rfl
    obtain ⟨hc9, hP9, hF9⟩ := hx9
    rcases hc9 with ⟨rfl, hc9⟩
    · refine vx_catch (own := RL) (name := "java/util/NoSuchElementException") hown [] ⟨0, 10, 13, 23⟩ [] (htb.trans rfl) (fun _ h => by cases h) rfl (by decide) (htA _ wd260) (KN.cast hKN (w := .castable "java/util/NoSuchElementException" "java/util/NoSuchElementException") (by decide +kernel)) g1 g2 g3 ?_
      refine lv_astore (lv' := [(5, .ref q9), (0, .ref x), (1, .int v), (2, .long z), (4, .ref ou)]) hx hb dL_source_13 hl (by decide) rfl (fun ls hl => ?_)
      refine lv_iconst (v := nI 1) hx hb dL_source_15 (by decide) ?_
      rw [hQ]
      refine W.widen (k := 1) (n := 6) (by omega) (by omega) ?_
      exact W.iret (v := nI 1) hx hb hrt (fun t ht hW => LQ_x (k := 1) h09 hP9 hF9 hou hEo ⟨Or.inl ⟨rfl, hc9⟩, rfl, rfl, rfl⟩ ht) hL9 dL_source_16
  · obtain ⟨r9, hv9, hp9, hh9⟩ := hq9
    cases hv9
    rw [h09] at hh9
    rw [hh9]
    have hP9 : PVE G cA E x n F O s.heap := ⟨pa, rs, lo, hi, po, oc, tb, tc, hS0, hNE⟩
    have f1 := Nat.le_refl s.heap.size
    have f2 : ∀ q, q < s.heap.size → E q → s.heap[q]? = s.heap[q]? := fun _ _ _ => rfl
    refine pw_last (F := (fun q => ¬ E q ∨ q = ou)) hx hb hK hou 0 rfl (show 0 < 1 by decide) (by decide) hL (Or.inr rfl) dL_source_9 (fun H6 lc6 hou hz1 hk1 hL => ?_)
    refine lv_goto (tgt := 17) hx hb dL_source_10 (by decide) ?_
    refine lv_iconst (v := nI 0) hx hb dL_source_17 (by decide) ?_
    rw [hQ]
    refine W.widen (k := 1) (n := 6) (by omega) (by omega) ?_
    exact W.iret (v := nI 0) hx hb hrt (fun t ht hW => LQ_r hP9 f1 f2 hEo hou hz1 hk1 ⟨Or.inr ⟨rfl, hp9⟩, rfl, rfl, rfl⟩ ht) hL dL_source_18

set_option maxRecDepth 100000 in
set_option maxHeartbeats 4000000 in
theorem w_filter (l : Launch) (hl9 : l.stackTraces = false) (G : va_G) (cA : Nat → ClassId) (E : Nat → Prop) (x pa rs lo hi n : Nat) (F : Nat → Bool) (O : Nat → Nat → Int64) (po oc : Nat → Nat) (tb : Nat → Option Nat) (tc : Nat → Nat × Nat × Nat) (ou : Nat) (fu : Nat → Int64) (v : Int32) : Met l yL_filter wsL_filter ({ frames := 8, cells := 1, slots := 6, locals := 142 }) (PN G cA E [.ref x, .int v, .ref ou] (fun H => (pvS G cA x pa rs lo hi n F O po oc tb tc H ∧ pvN E x pa rs lo hi n po oc tb tc ∧ (∀ q, E q → q < H.size) ∧ E ou ∧ al (cA 0) ou 1 fu H))) (LQ G cA E ou x (lk0 n F O (fun k w => (k = 1 ∧ inb n v = false) ∨ (k = 0 ∧ ∃ r : Int32, w = r.toInt64 ∧ ∃ a, a < n ∧ v = nI a ∧ r = bI (F a))))) 1 6 (fun q => ¬ E q ∨ q = ou) := by
  refine va_MetW (cc := cL_filter) (maxL := 4) (ret := some .int) (hh := [(0, 9, 12, 23)]) (by decide) rfl ?_
  intro p e s m args below meth c s₁ B hml hv
  obtain ⟨hav, hKN, hZ, hNC, hpv, hNE, hElt, hEo, hou⟩ := hv
  have hK := hKN.1
  have hx := B.exec
  have hb := B.bytes
  have hrt := B.returns
  have htA : ∀ w ∈ ALL, w.before args s = true := fun w h => atoms_spec (ws := wsL_filter) B.pre w (List.mem_cons_of_mem _ h)
  have htb := vx_table (x := yL_filter) B (atoms_spec (ws := wsL_filter) B.pre _ List.mem_cons_self)
  have hown : s.vm.findClass RL = some m.cls := findClass_of_methodNamed B.named
  have hlocks := B.notSynchronized
  refine pw_nm (fun R Q hR hQ => ?_)
  refine pw_entry (vs := [.ref x, .int v, .ref ou]) hav (Nat.le_of_ble_eq_true rfl) (fun ls hl => ?_)
  have hl : lv_has ls 4 [(0, .ref x), (1, .int v), (2, .ref ou)] := hl
  have hS0 := hpv
  obtain ⟨p1, p2, p3, p4, p5, p6, p7, p8, p9, p10, p11, p12⟩ := hpv
  have hL : ∀ z ∈ ([] : List Loc), (fun q => ¬ E q ∨ q = ou) z.base := fun _ h => by cases h
  refine lv_aload_n hx hb dL_filter_0 rfl (lv_at hl 2 rfl) ?_
  refine lv_iconst (v := nI 0) hx hb dL_filter_1 (by decide) ?_
  refine lv_aload_n hx hb dL_filter_2 rfl (lv_at hl 0 rfl) ?_
  refine lv_iload_n hx hb dL_filter_3 rfl (lv_at hl 1 rfl) ?_
  refine px_call (F := (fun q => ¬ E q ∨ q = ou)) (vx_runV (As := [.int v]) (rest := [.int (nI 0), .ref ou]) ⟨hx, hb, hml, hown, htA⟩ (c_filter l hl9 G cA E x pa rs lo hi n F O po oc tb tc v) (cwV 1 htA (gd_V wd304 wd305 wd306 wd26 wd307) rfl rfl rfl (by decide +kernel) (by rw [hR]; exact ⟨Nat.le_of_ble_eq_true rfl, Nat.le_of_ble_eq_true rfl⟩)) (px_V (ci := 3) (q := (RV, TV, 4)) hKN hZ p1 rfl hS0) rfl rfl hl.1 rfl (lv_room (Nat.le_of_ble_eq_true rfl)) dL_filter_4 (by rw [hR]; exact ⟨Nat.le_of_ble_eq_true rfl, Nat.le_of_ble_eq_true rfl⟩)) hL (fun q h => h.elim) (fun E9 ce9 q9 st9 t9 lc9 h09 ha9 hL9 hx9 g1 g2 g3 => ?_) (fun v9 st9 t9 lc9 h09 ha9 hL hq9 => ?_)
  · have hx9 := xR_Q0 hS0 hNE hx9 h09
    have h09 : s.heap = s.heap := rfl
    obtain ⟨hc9, hP9, hF9⟩ := hx9
    rcases hc9 with ⟨rfl, hc9⟩
    · refine vx_catch (own := RL) (name := "java/util/NoSuchElementException") hown [] ⟨0, 9, 12, 23⟩ [] (htb.trans rfl) (fun _ h => by cases h) rfl (by decide) (htA _ wd260) (KN.cast hKN (w := .castable "java/util/NoSuchElementException" "java/util/NoSuchElementException") (by decide +kernel)) g1 g2 g3 ?_
      refine lv_astore_n (lv' := [(3, .ref q9), (0, .ref x), (1, .int v), (2, .ref ou)]) hx hb dL_filter_12 rfl hl (by decide) rfl (fun ls hl => ?_)
      refine lv_iconst (v := nI 1) hx hb dL_filter_13 (by decide) ?_
      rw [hQ]
      refine W.widen (k := 1) (n := 6) (by omega) (by omega) ?_
      exact W.iret (v := nI 1) hx hb hrt (fun t ht hW => LQ_x (k := 1) h09 hP9 hF9 hou hEo ⟨Or.inl ⟨rfl, hc9⟩, rfl, rfl, rfl⟩ ht) hL9 dL_filter_14
  · obtain ⟨r9, hv9, hp9, hh9⟩ := hq9
    cases hv9
    rw [h09] at hh9
    rw [hh9]
    have hP9 : PVE G cA E x n F O s.heap := ⟨pa, rs, lo, hi, po, oc, tb, tc, hS0, hNE⟩
    have f1 := Nat.le_refl s.heap.size
    have f2 : ∀ q, q < s.heap.size → E q → s.heap[q]? = s.heap[q]? := fun _ _ _ => rfl
    refine lv_i2l hx hb dL_filter_7 rfl ?_
    refine pw_last (F := (fun q => ¬ E q ∨ q = ou)) hx hb hK hou 0 rfl (show 0 < 1 by decide) (by decide) hL (Or.inr rfl) dL_filter_8 (fun H6 lc6 hou hz1 hk1 hL => ?_)
    refine lv_goto (tgt := 15) hx hb dL_filter_9 (by decide) ?_
    refine lv_iconst (v := nI 0) hx hb dL_filter_15 (by decide) ?_
    rw [hQ]
    refine W.widen (k := 1) (n := 6) (by omega) (by omega) ?_
    exact W.iret (v := nI 0) hx hb hrt (fun t ht hW => LQ_r hP9 f1 f2 hEo hou hz1 hk1 ⟨Or.inr ⟨rfl, r9, rfl, hp9⟩, rfl, rfl, rfl⟩ ht) hL dL_filter_16

set_option maxRecDepth 100000 in
set_option maxHeartbeats 4000000 in
theorem w_same (l : Launch) (hl9 : l.stackTraces = false) (G : va_G) (cA : Nat → ClassId) (E : Nat → Prop) (x pa rs lo hi n : Nat) (F : Nat → Bool) (O : Nat → Nat → Int64) (po oc : Nat → Nat) (tb : Nat → Option Nat) (tc : Nat → Nat × Nat × Nat) (ou : Nat) (fu : Nat → Int64) (v v2 : Int32) : Met l yL_same wsL_same ({ frames := 8, cells := 2, slots := 12, locals := 143 }) (PN G cA E [.ref x, .int v, .int v2, .ref ou] (fun H => (pvS G cA x pa rs lo hi n F O po oc tb tc H ∧ pvN E x pa rs lo hi n po oc tb tc ∧ (∀ q, E q → q < H.size) ∧ E ou ∧ al (cA 0) ou 1 fu H))) (LQ G cA E ou x (lk0 n F O (fun k w => (k = 1 ∧ (inb n v = false ∨ inb n v2 = false)) ∨ (k = 0 ∧ ∃ r : Int32, w = r.toInt64 ∧ ∃ a b, a < n ∧ b < n ∧ v = nI a ∧ v2 = nI b ∧  ∃ k, apR (O a) (O b) k ∧ ((k = 64 ∧ r = 1) ∨ (¬ k = 64 ∧ r = 0)))))) 2 12 (fun q => ¬ E q ∨ q = ou) := by
  refine va_MetW (cc := cL_same) (maxL := 5) (ret := some .int) (hh := [(0, 10, 13, 23)]) (by decide) rfl ?_
  intro p e s m args below meth c s₁ B hml hv
  obtain ⟨hav, hKN, hZ, hNC, hpv, hNE, hElt, hEo, hou⟩ := hv
  have hK := hKN.1
  have hx := B.exec
  have hb := B.bytes
  have hrt := B.returns
  have htA : ∀ w ∈ ALL, w.before args s = true := fun w h => atoms_spec (ws := wsL_same) B.pre w (List.mem_cons_of_mem _ h)
  have htb := vx_table (x := yL_same) B (atoms_spec (ws := wsL_same) B.pre _ List.mem_cons_self)
  have hown : s.vm.findClass RL = some m.cls := findClass_of_methodNamed B.named
  have hlocks := B.notSynchronized
  refine pw_nm (fun R Q hR hQ => ?_)
  refine pw_entry (vs := [.ref x, .int v, .int v2, .ref ou]) hav (Nat.le_of_ble_eq_true rfl) (fun ls hl => ?_)
  have hl : lv_has ls 5 [(0, .ref x), (1, .int v), (2, .int v2), (3, .ref ou)] := hl
  have hS0 := hpv
  obtain ⟨p1, p2, p3, p4, p5, p6, p7, p8, p9, p10, p11, p12⟩ := hpv
  have hL : ∀ z ∈ ([] : List Loc), (fun q => ¬ E q ∨ q = ou) z.base := fun _ h => by cases h
  refine lv_aload_n hx hb dL_same_0 rfl (lv_at hl 3 rfl) ?_
  refine lv_iconst (v := nI 0) hx hb dL_same_1 (by decide) ?_
  refine lv_aload_n hx hb dL_same_2 rfl (lv_at hl 0 rfl) ?_
  refine lv_iload_n hx hb dL_same_3 rfl (lv_at hl 1 rfl) ?_
  refine lv_iload_n hx hb dL_same_4 rfl (lv_at hl 2 rfl) ?_
  refine px_call (F := (fun q => ¬ E q ∨ q = ou)) (vx_runV (As := [.int v, .int v2]) (rest := [.int (nI 0), .ref ou]) ⟨hx, hb, hml, hown, htA⟩ (c_same l hl9 G cA E x pa rs lo hi n F O po oc tb tc v v2) (cwV 2 htA (gd_V wd311 wd312 wd313 wd26 wd314) rfl rfl rfl (by decide +kernel) (by rw [hR]; exact ⟨Nat.le_of_ble_eq_true rfl, Nat.le_of_ble_eq_true rfl⟩)) (px_V (ci := 3) (q := (RV, TV, 4)) hKN hZ p1 rfl hS0) rfl rfl hl.1 rfl (lv_room (Nat.le_of_ble_eq_true rfl)) dL_same_5 (by rw [hR]; exact ⟨Nat.le_of_ble_eq_true rfl, Nat.le_of_ble_eq_true rfl⟩)) hL (fun q h => h.elim) (fun E9 ce9 q9 st9 t9 lc9 h09 ha9 hL9 hx9 g1 g2 g3 => ?_) (fun v9 st9 t9 lc9 h09 ha9 hL hq9 => ?_)
  · have hx9 := xR_Q0 hS0 hNE hx9 h09
    have h09 : s.heap = s.heap := rfl
    obtain ⟨hc9, hP9, hF9⟩ := hx9
    rcases hc9 with ⟨rfl, hc9⟩
    · refine vx_catch (own := RL) (name := "java/util/NoSuchElementException") hown [] ⟨0, 10, 13, 23⟩ [] (htb.trans rfl) (fun _ h => by cases h) rfl (by decide) (htA _ wd260) (KN.cast hKN (w := .castable "java/util/NoSuchElementException" "java/util/NoSuchElementException") (by decide +kernel)) g1 g2 g3 ?_
      refine lv_astore (lv' := [(4, .ref q9), (0, .ref x), (1, .int v), (2, .int v2), (3, .ref ou)]) hx hb dL_same_13 hl (by decide) rfl (fun ls hl => ?_)
      refine lv_iconst (v := nI 1) hx hb dL_same_15 (by decide) ?_
      rw [hQ]
      refine W.widen (k := 2) (n := 12) (by omega) (by omega) ?_
      exact W.iret (v := nI 1) hx hb hrt (fun t ht hW => LQ_x (k := 1) h09 hP9 hF9 hou hEo ⟨Or.inl ⟨rfl, hc9⟩, rfl, rfl, rfl⟩ ht) hL9 dL_same_16
  · obtain ⟨r9, hv9, hp9, hh9⟩ := hq9
    cases hv9
    rw [h09] at hh9
    rw [hh9]
    have hP9 : PVE G cA E x n F O s.heap := ⟨pa, rs, lo, hi, po, oc, tb, tc, hS0, hNE⟩
    have f1 := Nat.le_refl s.heap.size
    have f2 : ∀ q, q < s.heap.size → E q → s.heap[q]? = s.heap[q]? := fun _ _ _ => rfl
    refine lv_i2l hx hb dL_same_8 rfl ?_
    refine pw_last (F := (fun q => ¬ E q ∨ q = ou)) hx hb hK hou 0 rfl (show 0 < 1 by decide) (by decide) hL (Or.inr rfl) dL_same_9 (fun H6 lc6 hou hz1 hk1 hL => ?_)
    refine lv_goto (tgt := 17) hx hb dL_same_10 (by decide) ?_
    refine lv_iconst (v := nI 0) hx hb dL_same_17 (by decide) ?_
    rw [hQ]
    refine W.widen (k := 2) (n := 12) (by omega) (by omega) ?_
    exact W.iret (v := nI 0) hx hb hrt (fun t ht hW => LQ_r hP9 f1 f2 hEo hou hz1 hk1 ⟨Or.inr ⟨rfl, r9, rfl, hp9⟩, rfl, rfl, rfl⟩ ht) hL dL_same_18

set_option maxRecDepth 100000 in
set_option maxHeartbeats 4000000 in
theorem w_covers (l : Launch) (hl9 : l.stackTraces = false) (G : va_G) (cA : Nat → ClassId) (E : Nat → Prop) (x pa rs lo hi n : Nat) (F : Nat → Bool) (O : Nat → Nat → Int64) (po oc : Nat → Nat) (tb : Nat → Option Nat) (tc : Nat → Nat × Nat × Nat) (ou : Nat) (fu : Nat → Int64) (v v2 : Int32) : Met l yL_covers wsL_covers ({ frames := 8, cells := 2, slots := 12, locals := 146 }) (PN G cA E [.ref x, .int v, .int v2, .ref ou] (fun H => (pvS G cA x pa rs lo hi n F O po oc tb tc H ∧ pvN E x pa rs lo hi n po oc tb tc ∧ (∀ q, E q → q < H.size) ∧ E ou ∧ al (cA 0) ou 1 fu H))) (LQ G cA E ou x (lk0 n F O (fun k w => (k = 1 ∧ (inb n v = false ∨ inb n v2 = false)) ∨ (k = 0 ∧ ∃ r : Int32, w = r.toInt64 ∧ ∃ a b, a < n ∧ b < n ∧ v = nI a ∧ v2 = nI b ∧  (((∀ k, k < 64 → (O b k &&& (O a k ^^^ (-1))) = 0) ∧ r = 1) ∨ ((∃ k, k < 64 ∧ ¬ (O b k &&& (O a k ^^^ (-1))) = 0) ∧ r = 0)))))) 2 12 (fun q => ¬ E q ∨ q = ou) := by
  refine va_MetW (cc := cL_covers) (maxL := 5) (ret := some .int) (hh := [(0, 10, 13, 23)]) (by decide) rfl ?_
  intro p e s m args below meth c s₁ B hml hv
  obtain ⟨hav, hKN, hZ, hNC, hpv, hNE, hElt, hEo, hou⟩ := hv
  have hK := hKN.1
  have hx := B.exec
  have hb := B.bytes
  have hrt := B.returns
  have htA : ∀ w ∈ ALL, w.before args s = true := fun w h => atoms_spec (ws := wsL_covers) B.pre w (List.mem_cons_of_mem _ h)
  have htb := vx_table (x := yL_covers) B (atoms_spec (ws := wsL_covers) B.pre _ List.mem_cons_self)
  have hown : s.vm.findClass RL = some m.cls := findClass_of_methodNamed B.named
  have hlocks := B.notSynchronized
  refine pw_nm (fun R Q hR hQ => ?_)
  refine pw_entry (vs := [.ref x, .int v, .int v2, .ref ou]) hav (Nat.le_of_ble_eq_true rfl) (fun ls hl => ?_)
  have hl : lv_has ls 5 [(0, .ref x), (1, .int v), (2, .int v2), (3, .ref ou)] := hl
  have hS0 := hpv
  obtain ⟨p1, p2, p3, p4, p5, p6, p7, p8, p9, p10, p11, p12⟩ := hpv
  have hL : ∀ z ∈ ([] : List Loc), (fun q => ¬ E q ∨ q = ou) z.base := fun _ h => by cases h
  refine lv_aload_n hx hb dL_covers_0 rfl (lv_at hl 3 rfl) ?_
  refine lv_iconst (v := nI 0) hx hb dL_covers_1 (by decide) ?_
  refine lv_aload_n hx hb dL_covers_2 rfl (lv_at hl 0 rfl) ?_
  refine lv_iload_n hx hb dL_covers_3 rfl (lv_at hl 1 rfl) ?_
  refine lv_iload_n hx hb dL_covers_4 rfl (lv_at hl 2 rfl) ?_
  refine px_call (F := (fun q => ¬ E q ∨ q = ou)) (vx_runV (As := [.int v, .int v2]) (rest := [.int (nI 0), .ref ou]) ⟨hx, hb, hml, hown, htA⟩ (c_covers l hl9 G cA E x pa rs lo hi n F O po oc tb tc v v2) (cwV 2 htA (gd_V wd318 wd319 wd320 wd26 wd321) rfl rfl rfl (by decide +kernel) (by rw [hR]; exact ⟨Nat.le_of_ble_eq_true rfl, Nat.le_of_ble_eq_true rfl⟩)) (px_V (ci := 3) (q := (RV, TV, 4)) hKN hZ p1 rfl hS0) rfl rfl hl.1 rfl (lv_room (Nat.le_of_ble_eq_true rfl)) dL_covers_5 (by rw [hR]; exact ⟨Nat.le_of_ble_eq_true rfl, Nat.le_of_ble_eq_true rfl⟩)) hL (fun q h => h.elim) (fun E9 ce9 q9 st9 t9 lc9 h09 ha9 hL9 hx9 g1 g2 g3 => ?_) (fun v9 st9 t9 lc9 h09 ha9 hL hq9 => ?_)
  · have hx9 := xR_Q0 hS0 hNE hx9 h09
    have h09 : s.heap = s.heap := rfl
    obtain ⟨hc9, hP9, hF9⟩ := hx9
    rcases hc9 with ⟨rfl, hc9⟩
    · refine vx_catch (own := RL) (name := "java/util/NoSuchElementException") hown [] ⟨0, 10, 13, 23⟩ [] (htb.trans rfl) (fun _ h => by cases h) rfl (by decide) (htA _ wd260) (KN.cast hKN (w := .castable "java/util/NoSuchElementException" "java/util/NoSuchElementException") (by decide +kernel)) g1 g2 g3 ?_
      refine lv_astore (lv' := [(4, .ref q9), (0, .ref x), (1, .int v), (2, .int v2), (3, .ref ou)]) hx hb dL_covers_13 hl (by decide) rfl (fun ls hl => ?_)
      refine lv_iconst (v := nI 1) hx hb dL_covers_15 (by decide) ?_
      rw [hQ]
      refine W.widen (k := 2) (n := 12) (by omega) (by omega) ?_
      exact W.iret (v := nI 1) hx hb hrt (fun t ht hW => LQ_x (k := 1) h09 hP9 hF9 hou hEo ⟨Or.inl ⟨rfl, hc9⟩, rfl, rfl, rfl⟩ ht) hL9 dL_covers_16
  · obtain ⟨r9, hv9, hp9, hh9⟩ := hq9
    cases hv9
    rw [h09] at hh9
    rw [hh9]
    have hP9 : PVE G cA E x n F O s.heap := ⟨pa, rs, lo, hi, po, oc, tb, tc, hS0, hNE⟩
    have f1 := Nat.le_refl s.heap.size
    have f2 : ∀ q, q < s.heap.size → E q → s.heap[q]? = s.heap[q]? := fun _ _ _ => rfl
    refine lv_i2l hx hb dL_covers_8 rfl ?_
    refine pw_last (F := (fun q => ¬ E q ∨ q = ou)) hx hb hK hou 0 rfl (show 0 < 1 by decide) (by decide) hL (Or.inr rfl) dL_covers_9 (fun H6 lc6 hou hz1 hk1 hL => ?_)
    refine lv_goto (tgt := 17) hx hb dL_covers_10 (by decide) ?_
    refine lv_iconst (v := nI 0) hx hb dL_covers_17 (by decide) ?_
    rw [hQ]
    refine W.widen (k := 2) (n := 12) (by omega) (by omega) ?_
    exact W.iret (v := nI 0) hx hb hrt (fun t ht hW => LQ_r hP9 f1 f2 hEo hou hz1 hk1 ⟨Or.inr ⟨rfl, r9, rfl, hp9⟩, rfl, rfl, rfl⟩ ht) hL dL_covers_18

set_option maxRecDepth 100000 in
set_option maxHeartbeats 4000000 in
theorem w_differ (l : Launch) (hl9 : l.stackTraces = false) (G : va_G) (cA : Nat → ClassId) (E : Nat → Prop) (x pa rs lo hi n : Nat) (F : Nat → Bool) (O : Nat → Nat → Int64) (po oc : Nat → Nat) (tb : Nat → Option Nat) (tc : Nat → Nat × Nat × Nat) (ou : Nat) (fu : Nat → Int64) (v v2 : Int32) : Met l yL_differ wsL_differ ({ frames := 8, cells := 3, slots := 18, locals := 144 }) (PN G cA E [.ref x, .int v, .int v2, .ref ou] (fun H => (pvS G cA x pa rs lo hi n F O po oc tb tc H ∧ pvN E x pa rs lo hi n po oc tb tc ∧ (∀ q, E q → q < H.size) ∧ E ou ∧ al (cA 0) ou 1 fu H))) (LQ G cA E ou x (lk0 n F O (fun k w => (k = 1 ∧ (inb n v = false ∨ inb n v2 = false)) ∨ (k = 2 ∧ ∃ a b, a < n ∧ b < n ∧ v = nI a ∧ v2 = nI b ∧  apR (O a) (O b) 64) ∨ (k = 0 ∧ ∃ r : Int32, w = r.toInt64 ∧ ∃ a b, a < n ∧ b < n ∧ v = nI a ∧ v2 = nI b ∧  ∃ k, k < 64 ∧ apR (O a) (O b) k ∧ r = nI k)))) 3 18 (fun q => ¬ E q ∨ q = ou) := by
  refine va_MetW (cc := cL_differ) (maxL := 5) (ret := some .int) (hh := [(0, 10, 13, 23), (0, 10, 17, 15)]) (by decide) rfl ?_
  intro p e s m args below meth c s₁ B hml hv
  obtain ⟨hav, hKN, hZ, hNC, hpv, hNE, hElt, hEo, hou⟩ := hv
  have hK := hKN.1
  have hx := B.exec
  have hb := B.bytes
  have hrt := B.returns
  have htA : ∀ w ∈ ALL, w.before args s = true := fun w h => atoms_spec (ws := wsL_differ) B.pre w (List.mem_cons_of_mem _ h)
  have htb := vx_table (x := yL_differ) B (atoms_spec (ws := wsL_differ) B.pre _ List.mem_cons_self)
  have hown : s.vm.findClass RL = some m.cls := findClass_of_methodNamed B.named
  have hlocks := B.notSynchronized
  refine pw_nm (fun R Q hR hQ => ?_)
  refine pw_entry (vs := [.ref x, .int v, .int v2, .ref ou]) hav (Nat.le_of_ble_eq_true rfl) (fun ls hl => ?_)
  have hl : lv_has ls 5 [(0, .ref x), (1, .int v), (2, .int v2), (3, .ref ou)] := hl
  have hS0 := hpv
  obtain ⟨p1, p2, p3, p4, p5, p6, p7, p8, p9, p10, p11, p12⟩ := hpv
  have hL : ∀ z ∈ ([] : List Loc), (fun q => ¬ E q ∨ q = ou) z.base := fun _ h => by cases h
  refine lv_aload_n hx hb dL_differ_0 rfl (lv_at hl 3 rfl) ?_
  refine lv_iconst (v := nI 0) hx hb dL_differ_1 (by decide) ?_
  refine lv_aload_n hx hb dL_differ_2 rfl (lv_at hl 0 rfl) ?_
  refine lv_iload_n hx hb dL_differ_3 rfl (lv_at hl 1 rfl) ?_
  refine lv_iload_n hx hb dL_differ_4 rfl (lv_at hl 2 rfl) ?_
  refine px_call (F := (fun q => ¬ E q ∨ q = ou)) (vx_runV (As := [.int v, .int v2]) (rest := [.int (nI 0), .ref ou]) ⟨hx, hb, hml, hown, htA⟩ (c_differ l hl9 G cA E x pa rs lo hi n F O po oc tb tc v v2) (cwV 2 htA (gd_V wd326 wd327 wd328 wd26 wd329) rfl rfl rfl (by decide +kernel) (by rw [hR]; exact ⟨Nat.le_of_ble_eq_true rfl, Nat.le_of_ble_eq_true rfl⟩)) (px_V (ci := 3) (q := (RV, TV, 4)) hKN hZ p1 rfl hS0) rfl rfl hl.1 rfl (lv_room (Nat.le_of_ble_eq_true rfl)) dL_differ_5 (by rw [hR]; exact ⟨Nat.le_of_ble_eq_true rfl, Nat.le_of_ble_eq_true rfl⟩)) hL (fun q h => h.elim) (fun E9 ce9 q9 st9 t9 lc9 h09 ha9 hL9 hx9 g1 g2 g3 => ?_) (fun v9 st9 t9 lc9 h09 ha9 hL hq9 => ?_)
  · have hx9 := xR_Q0 hS0 hNE hx9 h09
    have h09 : s.heap = s.heap := rfl
    obtain ⟨hc9, hP9, hF9⟩ := hx9
    rcases hc9 with ⟨rfl, hc9⟩ | ⟨rfl, hc9⟩
    · refine vx_catch (own := RL) (name := "java/util/NoSuchElementException") hown [] ⟨0, 10, 13, 23⟩ [⟨0, 10, 17, 15⟩] (htb.trans rfl) (fun _ h => by cases h) rfl (by decide) (htA _ wd260) (KN.cast hKN (w := .castable "java/util/NoSuchElementException" "java/util/NoSuchElementException") (by decide +kernel)) g1 g2 g3 ?_
      refine lv_astore (lv' := [(4, .ref q9), (0, .ref x), (1, .int v), (2, .int v2), (3, .ref ou)]) hx hb dL_differ_13 hl (by decide) rfl (fun ls hl => ?_)
      refine lv_iconst (v := nI 1) hx hb dL_differ_15 (by decide) ?_
      rw [hQ]
      refine W.widen (k := 3) (n := 18) (by omega) (by omega) ?_
      exact W.iret (v := nI 1) hx hb hrt (fun t ht hW => LQ_x (k := 1) h09 hP9 hF9 hou hEo ⟨Or.inl ⟨rfl, hc9⟩, rfl, rfl, rfl⟩ ht) hL9 dL_differ_16
    · refine vx_catch (own := RL) (name := "java/lang/UnsupportedOperationException") hown [⟨0, 10, 13, 23⟩] ⟨0, 10, 17, 15⟩ [] (htb.trans rfl) (List.forall_mem_cons.mpr ⟨Or.inr ⟨by decide, "java/util/NoSuchElementException", htA _ wd260, hNC.n (by decide)⟩, (fun _ h => by cases h)⟩) rfl (by decide) (htA _ wd80) (KN.cast hKN (w := .castable "java/lang/UnsupportedOperationException" "java/lang/UnsupportedOperationException") (by decide +kernel)) g1 g2 g3 ?_
      refine lv_astore (lv' := [(4, .ref q9), (0, .ref x), (1, .int v), (2, .int v2), (3, .ref ou)]) hx hb dL_differ_17 hl (by decide) rfl (fun ls hl => ?_)
      refine lv_iconst (v := nI 2) hx hb dL_differ_19 (by decide) ?_
      rw [hQ]
      refine W.widen (k := 3) (n := 18) (by omega) (by omega) ?_
      exact W.iret (v := nI 2) hx hb hrt (fun t ht hW => LQ_x (k := 2) h09 hP9 hF9 hou hEo ⟨Or.inr (Or.inl ⟨rfl, hc9⟩), rfl, rfl, rfl⟩ ht) hL9 dL_differ_20
  · obtain ⟨r9, hv9, hp9, hh9⟩ := hq9
    cases hv9
    rw [h09] at hh9
    rw [hh9]
    have hP9 : PVE G cA E x n F O s.heap := ⟨pa, rs, lo, hi, po, oc, tb, tc, hS0, hNE⟩
    have f1 := Nat.le_refl s.heap.size
    have f2 : ∀ q, q < s.heap.size → E q → s.heap[q]? = s.heap[q]? := fun _ _ _ => rfl
    refine lv_i2l hx hb dL_differ_8 rfl ?_
    refine pw_last (F := (fun q => ¬ E q ∨ q = ou)) hx hb hK hou 0 rfl (show 0 < 1 by decide) (by decide) hL (Or.inr rfl) dL_differ_9 (fun H6 lc6 hou hz1 hk1 hL => ?_)
    refine lv_goto (tgt := 21) hx hb dL_differ_10 (by decide) ?_
    refine lv_iconst (v := nI 0) hx hb dL_differ_21 (by decide) ?_
    rw [hQ]
    refine W.widen (k := 3) (n := 18) (by omega) (by omega) ?_
    exact W.iret (v := nI 0) hx hb hrt (fun t ht hW => LQ_r hP9 f1 f2 hEo hou hz1 hk1 ⟨Or.inr (Or.inr ⟨rfl, r9, rfl, hp9⟩), rfl, rfl, rfl⟩ ht) hL dL_differ_22

set_option maxRecDepth 100000 in
set_option maxHeartbeats 4000000 in
theorem w_hops (l : Launch) (hl9 : l.stackTraces = false) (G : va_G) (cA : Nat → ClassId) (E : Nat → Prop) (x pa rs lo hi n : Nat) (F : Nat → Bool) (O : Nat → Nat → Int64) (po oc : Nat → Nat) (tb : Nat → Option Nat) (tc : Nat → Nat × Nat × Nat) (ou : Nat) (fu : Nat → Int64) (v v2 : Int32) (z : Int64) : Met l yL_hops wsL_hops ({ frames := 8, cells := 2, slots := 12, locals := 151 }) (PN G cA E [.ref x, .int v, .int v2, .long z, .ref ou] (fun H => (pvS G cA x pa rs lo hi n F O po oc tb tc H ∧ pvN E x pa rs lo hi n po oc tb tc ∧ (∀ q, E q → q < H.size) ∧ E ou ∧ al (cA 0) ou 1 fu H))) (LQ G cA E ou x (lk0 n F O (fun k w => (k = 1 ∧ inb n v = false) ∨ (k = 2 ∧ inb n v = true ∧ inb 64 v2 = false) ∨ (k = 0 ∧ ∃ r : Int32, w = r.toInt64 ∧ ∃ a k, a < n ∧ k < 64 ∧ v = nI a ∧ v2 = nI k ∧ hopR (O a) k z r)))) 2 12 (fun q => ¬ E q ∨ q = ou) := by
  refine va_MetW (cc := cL_hops) (maxL := 7) (ret := some .int) (hh := [(0, 12, 15, 23), (0, 12, 19, 13)]) (by decide) rfl ?_
  intro p e s m args below meth c s₁ B hml hv
  obtain ⟨hav, hKN, hZ, hNC, hpv, hNE, hElt, hEo, hou⟩ := hv
  have hK := hKN.1
  have hx := B.exec
  have hb := B.bytes
  have hrt := B.returns
  have htA : ∀ w ∈ ALL, w.before args s = true := fun w h => atoms_spec (ws := wsL_hops) B.pre w (List.mem_cons_of_mem _ h)
  have htb := vx_table (x := yL_hops) B (atoms_spec (ws := wsL_hops) B.pre _ List.mem_cons_self)
  have hown : s.vm.findClass RL = some m.cls := findClass_of_methodNamed B.named
  have hlocks := B.notSynchronized
  refine pw_nm (fun R Q hR hQ => ?_)
  refine pw_entry (vs := [.ref x, .int v, .int v2, .long z, .ref ou]) hav (Nat.le_of_ble_eq_true rfl) (fun ls hl => ?_)
  have hl : lv_has ls 7 [(0, .ref x), (1, .int v), (2, .int v2), (3, .long z), (5, .ref ou)] := hl
  have hS0 := hpv
  obtain ⟨p1, p2, p3, p4, p5, p6, p7, p8, p9, p10, p11, p12⟩ := hpv
  have hL : ∀ z ∈ ([] : List Loc), (fun q => ¬ E q ∨ q = ou) z.base := fun _ h => by cases h
  refine lv_aload hx hb dL_hops_0 (lv_at hl 4 rfl) ?_
  refine lv_iconst (v := nI 0) hx hb dL_hops_2 (by decide) ?_
  refine lv_aload_n hx hb dL_hops_3 rfl (lv_at hl 0 rfl) ?_
  refine lv_iload_n hx hb dL_hops_4 rfl (lv_at hl 1 rfl) ?_
  refine lv_iload_n hx hb dL_hops_5 rfl (lv_at hl 2 rfl) ?_
  refine lv_lload_n hx hb dL_hops_6 rfl (lv_at hl 3 rfl) ?_
  refine px_call (F := (fun q => ¬ E q ∨ q = ou)) (vx_runV (As := [.int v, .int v2, .long z]) (rest := [.int (nI 0), .ref ou]) ⟨hx, hb, hml, hown, htA⟩ (c_hops l hl9 G cA E x pa rs lo hi n F O po oc tb tc v v2 z) (cwV 3 htA (gd_V wd418 wd419 wd420 wd26 wd421) rfl rfl rfl (by decide +kernel) (by rw [hR]; exact ⟨Nat.le_of_ble_eq_true rfl, Nat.le_of_ble_eq_true rfl⟩)) (px_V (ci := 3) (q := (RV, TV, 4)) hKN hZ p1 rfl hS0) rfl rfl hl.1 rfl (lv_room (Nat.le_of_ble_eq_true rfl)) dL_hops_7 (by rw [hR]; exact ⟨Nat.le_of_ble_eq_true rfl, Nat.le_of_ble_eq_true rfl⟩)) hL (fun q h => h.elim) (fun E9 ce9 q9 st9 t9 lc9 h09 ha9 hL9 hx9 g1 g2 g3 => ?_) (fun v9 st9 t9 lc9 h09 ha9 hL hq9 => ?_)
  · have hx9 := xR_Q0 hS0 hNE hx9 h09
    have h09 : s.heap = s.heap := rfl
    obtain ⟨hc9, hP9, hF9⟩ := hx9
    rcases hc9 with ⟨rfl, hc9⟩ | ⟨rfl, hc9⟩
    · refine vx_catch (own := RL) (name := "java/util/NoSuchElementException") hown [] ⟨0, 12, 15, 23⟩ [⟨0, 12, 19, 13⟩] (htb.trans rfl) (fun _ h => by cases h) rfl (by decide) (htA _ wd260) (KN.cast hKN (w := .castable "java/util/NoSuchElementException" "java/util/NoSuchElementException") (by decide +kernel)) g1 g2 g3 ?_
      refine lv_astore (lv' := [(6, .ref q9), (0, .ref x), (1, .int v), (2, .int v2), (3, .long z), (5, .ref ou)]) hx hb dL_hops_15 hl (by decide) rfl (fun ls hl => ?_)
      refine lv_iconst (v := nI 1) hx hb dL_hops_17 (by decide) ?_
      rw [hQ]
      refine W.widen (k := 2) (n := 12) (by omega) (by omega) ?_
      exact W.iret (v := nI 1) hx hb hrt (fun t ht hW => LQ_x (k := 1) h09 hP9 hF9 hou hEo ⟨Or.inl ⟨rfl, hc9⟩, rfl, rfl, rfl⟩ ht) hL9 dL_hops_18
    · refine vx_catch (own := RL) (name := "java/lang/IllegalArgumentException") hown [⟨0, 12, 15, 23⟩] ⟨0, 12, 19, 13⟩ [] (htb.trans rfl) (List.forall_mem_cons.mpr ⟨Or.inr ⟨by decide, "java/util/NoSuchElementException", htA _ wd260, hNC.n (by decide)⟩, (fun _ h => by cases h)⟩) rfl (by decide) (htA _ wd79) (KN.cast hKN (w := .castable "java/lang/IllegalArgumentException" "java/lang/IllegalArgumentException") (by decide +kernel)) g1 g2 g3 ?_
      refine lv_astore (lv' := [(6, .ref q9), (0, .ref x), (1, .int v), (2, .int v2), (3, .long z), (5, .ref ou)]) hx hb dL_hops_19 hl (by decide) rfl (fun ls hl => ?_)
      refine lv_iconst (v := nI 2) hx hb dL_hops_21 (by decide) ?_
      rw [hQ]
      refine W.widen (k := 2) (n := 12) (by omega) (by omega) ?_
      exact W.iret (v := nI 2) hx hb hrt (fun t ht hW => LQ_x (k := 2) h09 hP9 hF9 hou hEo ⟨Or.inr (Or.inl ⟨rfl, hc9⟩), rfl, rfl, rfl⟩ ht) hL9 dL_hops_22
  · obtain ⟨r9, hv9, hp9, hh9⟩ := hq9
    cases hv9
    rw [h09] at hh9
    rw [hh9]
    have hP9 : PVE G cA E x n F O s.heap := ⟨pa, rs, lo, hi, po, oc, tb, tc, hS0, hNE⟩
    have f1 := Nat.le_refl s.heap.size
    have f2 : ∀ q, q < s.heap.size → E q → s.heap[q]? = s.heap[q]? := fun _ _ _ => rfl
    refine lv_i2l hx hb dL_hops_10 rfl ?_
    refine pw_last (F := (fun q => ¬ E q ∨ q = ou)) hx hb hK hou 0 rfl (show 0 < 1 by decide) (by decide) hL (Or.inr rfl) dL_hops_11 (fun H6 lc6 hou hz1 hk1 hL => ?_)
    refine lv_goto (tgt := 23) hx hb dL_hops_12 (by decide) ?_
    refine lv_iconst (v := nI 0) hx hb dL_hops_23 (by decide) ?_
    rw [hQ]
    refine W.widen (k := 2) (n := 12) (by omega) (by omega) ?_
    exact W.iret (v := nI 0) hx hb hrt (fun t ht hW => LQ_r hP9 f1 f2 hEo hou hz1 hk1 ⟨Or.inr (Or.inr ⟨rfl, r9, rfl, hp9⟩), rfl, rfl, rfl⟩ ht) hL dL_hops_24

set_option maxRecDepth 100000 in
set_option maxHeartbeats 4000000 in
theorem w_count (l : Launch) (hl9 : l.stackTraces = false) (G : va_G) (cA : Nat → ClassId) (E : Nat → Prop) (x pa rs lo hi n : Nat) (F : Nat → Bool) (O : Nat → Nat → Int64) (po oc : Nat → Nat) (tb : Nat → Option Nat) (tc : Nat → Nat × Nat × Nat) (ou : Nat) (fu : Nat → Int64) (v : Int32) : Met l yL_count wsL_count ({ frames := 7, cells := 1, slots := 6, locals := 121 }) (PN G cA E [.ref x, .int v, .ref ou] (fun H => (pvS G cA x pa rs lo hi n F O po oc tb tc H ∧ pvN E x pa rs lo hi n po oc tb tc ∧ (∀ q, E q → q < H.size) ∧ E ou ∧ al (cA 0) ou 1 fu H))) (LQ G cA E ou x (lk0 n F O (fun k w => (k = 1 ∧ ¬ v = 0 ∧ ¬ v = 1) ∨ (k = 0 ∧ ∃ r : Int32, w = r.toInt64 ∧ ((v = 0 ∧ r = nI n) ∨ (v = 1 ∧ r = nI (dct O n))))))) 1 6 (fun q => ¬ E q ∨ q = ou) := by
  refine va_MetW (cc := cL_count) (maxL := 4) (ret := some .int) (hh := [(0, 9, 12, 13)]) (by decide) rfl ?_
  intro p e s m args below meth c s₁ B hml hv
  obtain ⟨hav, hKN, hZ, hNC, hpv, hNE, hElt, hEo, hou⟩ := hv
  have hK := hKN.1
  have hx := B.exec
  have hb := B.bytes
  have hrt := B.returns
  have htA : ∀ w ∈ ALL, w.before args s = true := fun w h => atoms_spec (ws := wsL_count) B.pre w (List.mem_cons_of_mem _ h)
  have htb := vx_table (x := yL_count) B (atoms_spec (ws := wsL_count) B.pre _ List.mem_cons_self)
  have hown : s.vm.findClass RL = some m.cls := findClass_of_methodNamed B.named
  have hlocks := B.notSynchronized
  refine pw_nm (fun R Q hR hQ => ?_)
  refine pw_entry (vs := [.ref x, .int v, .ref ou]) hav (Nat.le_of_ble_eq_true rfl) (fun ls hl => ?_)
  have hl : lv_has ls 4 [(0, .ref x), (1, .int v), (2, .ref ou)] := hl
  have hS0 := hpv
  obtain ⟨p1, p2, p3, p4, p5, p6, p7, p8, p9, p10, p11, p12⟩ := hpv
  have hL : ∀ z ∈ ([] : List Loc), (fun q => ¬ E q ∨ q = ou) z.base := fun _ h => by cases h
  refine lv_aload_n hx hb dL_count_0 rfl (lv_at hl 2 rfl) ?_
  refine lv_iconst (v := nI 0) hx hb dL_count_1 (by decide) ?_
  refine lv_aload_n hx hb dL_count_2 rfl (lv_at hl 0 rfl) ?_
  refine lv_iload_n hx hb dL_count_3 rfl (lv_at hl 1 rfl) ?_
  refine px_call (F := (fun q => ¬ E q ∨ q = ou)) (vx_runV (As := [.int v]) (rest := [.int (nI 0), .ref ou]) ⟨hx, hb, hml, hown, htA⟩ (c_count l hl9 G cA E x pa rs lo hi n F O po oc tb tc v) (cwV 1 htA (gd_V wd425 wd426 wd427 wd26 wd428) rfl rfl rfl (by decide +kernel) (by rw [hR]; exact ⟨Nat.le_of_ble_eq_true rfl, Nat.le_of_ble_eq_true rfl⟩)) (px_V (ci := 3) (q := (RV, TV, 4)) hKN hZ p1 rfl hS0) rfl rfl hl.1 rfl (lv_room (Nat.le_of_ble_eq_true rfl)) dL_count_4 (by rw [hR]; exact ⟨Nat.le_of_ble_eq_true rfl, Nat.le_of_ble_eq_true rfl⟩)) hL (fun q h => h.elim) (fun E9 ce9 q9 st9 t9 lc9 h09 ha9 hL9 hx9 g1 g2 g3 => ?_) (fun v9 st9 t9 lc9 h09 ha9 hL hq9 => ?_)
  · have hx9 := xR_Q0 hS0 hNE hx9 h09
    have h09 : s.heap = s.heap := rfl
    obtain ⟨hc9, hP9, hF9⟩ := hx9
    rcases hc9 with ⟨rfl, hc9⟩
    · refine vx_catch (own := RL) (name := "java/lang/IllegalArgumentException") hown [] ⟨0, 9, 12, 13⟩ [] (htb.trans rfl) (fun _ h => by cases h) rfl (by decide) (htA _ wd79) (KN.cast hKN (w := .castable "java/lang/IllegalArgumentException" "java/lang/IllegalArgumentException") (by decide +kernel)) g1 g2 g3 ?_
      refine lv_astore_n (lv' := [(3, .ref q9), (0, .ref x), (1, .int v), (2, .ref ou)]) hx hb dL_count_12 rfl hl (by decide) rfl (fun ls hl => ?_)
      refine lv_iconst (v := nI 1) hx hb dL_count_13 (by decide) ?_
      rw [hQ]
      refine W.widen (k := 1) (n := 6) (by omega) (by omega) ?_
      exact W.iret (v := nI 1) hx hb hrt (fun t ht hW => LQ_x (k := 1) h09 hP9 hF9 hou hEo ⟨Or.inl ⟨rfl, hc9⟩, rfl, rfl, rfl⟩ ht) hL9 dL_count_14
  · obtain ⟨r9, hv9, hp9, hh9⟩ := hq9
    cases hv9
    rw [h09] at hh9
    rw [hh9]
    have hP9 : PVE G cA E x n F O s.heap := ⟨pa, rs, lo, hi, po, oc, tb, tc, hS0, hNE⟩
    have f1 := Nat.le_refl s.heap.size
    have f2 : ∀ q, q < s.heap.size → E q → s.heap[q]? = s.heap[q]? := fun _ _ _ => rfl
    refine lv_i2l hx hb dL_count_7 rfl ?_
    refine pw_last (F := (fun q => ¬ E q ∨ q = ou)) hx hb hK hou 0 rfl (show 0 < 1 by decide) (by decide) hL (Or.inr rfl) dL_count_8 (fun H6 lc6 hou hz1 hk1 hL => ?_)
    refine lv_goto (tgt := 15) hx hb dL_count_9 (by decide) ?_
    refine lv_iconst (v := nI 0) hx hb dL_count_15 (by decide) ?_
    rw [hQ]
    refine W.widen (k := 1) (n := 6) (by omega) (by omega) ?_
    exact W.iret (v := nI 0) hx hb hrt (fun t ht hW => LQ_r hP9 f1 f2 hEo hou hz1 hk1 ⟨Or.inr ⟨rfl, r9, rfl, hp9⟩, rfl, rfl, rfl⟩ ht) hL dL_count_16

set_option maxRecDepth 100000 in
set_option maxHeartbeats 4000000 in
theorem w_rules (l : Launch) (hl9 : l.stackTraces = false) (G : va_G) (cA : Nat → ClassId) (E : Nat → Prop) (x pa rs lo hi n : Nat) (F : Nat → Bool) (O : Nat → Nat → Int64) (po oc : Nat → Nat) (tb : Nat → Option Nat) (tc : Nat → Nat × Nat × Nat) (ou : Nat) (fu : Nat → Int64) (v : Int32) : Met l yL_rules wsL_rules ({ frames := 8, cells := 5, slots := 202, locals := 188 }) (PN G cA E [.ref x, .int v, .ref ou] (fun H => (pvS G cA x pa rs lo hi n F O po oc tb tc H ∧ pvN E x pa rs lo hi n po oc tb tc ∧ (∀ q, E q → q < H.size) ∧ E ou ∧ al (cA 0) ou 1 fu H))) (LQ G cA E ou x (lk0 n F O (fun k w => (k = 1 ∧ inb n v = false) ∨ (k = 0 ∧ ∃ r : Int32, w = r.toInt64 ∧ ∃ a, a < n ∧ v = nI a ∧ r = nI (tbl (O a)).length)))) 5 202 (fun q => ¬ E q ∨ q = ou) := by
  refine va_MetW (cc := cL_rules) (maxL := 4) (ret := some .int) (hh := [(0, 9, 12, 23)]) (by decide) rfl ?_
  intro p e s m args below meth c s₁ B hml hv
  obtain ⟨hav, hKN, hZ, hNC, hpv, hNE, hElt, hEo, hou⟩ := hv
  have hK := hKN.1
  have hx := B.exec
  have hb := B.bytes
  have hrt := B.returns
  have htA : ∀ w ∈ ALL, w.before args s = true := fun w h => atoms_spec (ws := wsL_rules) B.pre w (List.mem_cons_of_mem _ h)
  have htb := vx_table (x := yL_rules) B (atoms_spec (ws := wsL_rules) B.pre _ List.mem_cons_self)
  have hown : s.vm.findClass RL = some m.cls := findClass_of_methodNamed B.named
  have hlocks := B.notSynchronized
  refine pw_nm (fun R Q hR hQ => ?_)
  refine pw_entry (vs := [.ref x, .int v, .ref ou]) hav (Nat.le_of_ble_eq_true rfl) (fun ls hl => ?_)
  have hl : lv_has ls 4 [(0, .ref x), (1, .int v), (2, .ref ou)] := hl
  have hS0 := hpv
  obtain ⟨p1, p2, p3, p4, p5, p6, p7, p8, p9, p10, p11, p12⟩ := hpv
  have hL : ∀ z ∈ ([] : List Loc), (fun q => ¬ E q ∨ q = ou) z.base := fun _ h => by cases h
  refine lv_aload_n hx hb dL_rules_0 rfl (lv_at hl 2 rfl) ?_
  refine lv_iconst (v := nI 0) hx hb dL_rules_1 (by decide) ?_
  refine lv_aload_n hx hb dL_rules_2 rfl (lv_at hl 0 rfl) ?_
  refine lv_iload_n hx hb dL_rules_3 rfl (lv_at hl 1 rfl) ?_
  refine px_call (F := (fun q => ¬ E q ∨ q = ou)) (vx_runV (As := [.int v]) (rest := [.int (nI 0), .ref ou]) ⟨hx, hb, hml, hown, htA⟩ (c_rules l hl9 G cA E x pa rs lo hi n F O po oc tb tc v) (cwV 1 htA (gd_V wd333 wd334 wd335 wd26 wd336) rfl rfl rfl (by decide +kernel) (by rw [hR]; exact ⟨Nat.le_of_ble_eq_true rfl, Nat.le_of_ble_eq_true rfl⟩)) (px_V (ci := 3) (q := (RV, TV, 4)) hKN hZ p1 rfl ⟨hS0, hNE, hElt⟩) rfl rfl hl.1 rfl (lv_room (Nat.le_of_ble_eq_true rfl)) dL_rules_4 (by rw [hR]; exact ⟨Nat.le_of_ble_eq_true rfl, Nat.le_of_ble_eq_true rfl⟩)) hL (fun q h => Or.inl h) (fun E9 ce9 q9 st9 t9 lc9 h09 ha9 hL9 hx9 g1 g2 g3 => ?_) (fun v9 st9 t9 lc9 h09 ha9 hL hq9 => ?_)
  · obtain ⟨hc9, hP9, hF9⟩ := hx9
    rcases hc9 with ⟨rfl, hc9⟩
    · refine vx_catch (own := RL) (name := "java/util/NoSuchElementException") hown [] ⟨0, 9, 12, 23⟩ [] (htb.trans rfl) (fun _ h => by cases h) rfl (by decide) (htA _ wd260) (KN.cast hKN (w := .castable "java/util/NoSuchElementException" "java/util/NoSuchElementException") (by decide +kernel)) g1 g2 g3 ?_
      refine lv_astore_n (lv' := [(3, .ref q9), (0, .ref x), (1, .int v), (2, .ref ou)]) hx hb dL_rules_12 rfl hl (by decide) rfl (fun ls hl => ?_)
      refine lv_iconst (v := nI 1) hx hb dL_rules_13 (by decide) ?_
      rw [hQ]
      refine W.widen (k := 5) (n := 202) (by omega) (by omega) ?_
      exact W.iret (v := nI 1) hx hb hrt (fun t ht hW => LQ_x (k := 1) h09 hP9 hF9 hou hEo ⟨Or.inl ⟨rfl, hc9⟩, rfl, rfl, rfl⟩ ht) hL9 dL_rules_14
  · obtain ⟨a, ha, rfl, hv9, hP9, hF9⟩ := hq9
    cases hv9
    obtain ⟨f1, f2⟩ := hF9
    rw [h09] at f1 f2
    have f2 : ∀ q, q < s.heap.size → E q → t9.heap[q]? = s.heap[q]? := fun q h1 h2 => f2 q h1 (fun h => h h2)
    generalize t9.heap = H5 at hP9 f1 f2 ⊢
    have hou := al_k hou (f2 ou (al_lt hou) hEo)
    refine lv_i2l hx hb dL_rules_7 rfl ?_
    refine pw_last (F := (fun q => ¬ E q ∨ q = ou)) hx hb hK hou 0 rfl (show 0 < 1 by decide) (by decide) hL (Or.inr rfl) dL_rules_8 (fun H6 lc6 hou hz1 hk1 hL => ?_)
    refine lv_goto (tgt := 15) hx hb dL_rules_9 (by decide) ?_
    refine lv_iconst (v := nI 0) hx hb dL_rules_15 (by decide) ?_
    rw [hQ]
    refine W.widen (k := 5) (n := 202) (by omega) (by omega) ?_
    exact W.iret (v := nI 0) hx hb hrt (fun t ht hW => LQ_r hP9 f1 f2 hEo hou hz1 hk1 ⟨Or.inr ⟨rfl, _, rfl, a, ha, rfl, rfl⟩, rfl, rfl, rfl⟩ ht) hL dL_rules_16

set_option maxRecDepth 100000 in
set_option maxHeartbeats 4000000 in
theorem w_rule (l : Launch) (hl9 : l.stackTraces = false) (G : va_G) (cA : Nat → ClassId) (E : Nat → Prop) (x pa rs lo hi n : Nat) (F : Nat → Bool) (O : Nat → Nat → Int64) (po oc : Nat → Nat) (tb : Nat → Option Nat) (tc : Nat → Nat × Nat × Nat) (ou : Nat) (fu : Nat → Int64) (v v2 v3 : Int32) : Met l yL_rule wsL_rule ({ frames := 8, cells := 6, slots := 208, locals := 192 }) (PN G cA E [.ref x, .int v, .int v2, .int v3, .ref ou] (fun H => (pvS G cA x pa rs lo hi n F O po oc tb tc H ∧ pvN E x pa rs lo hi n po oc tb tc ∧ (∀ q, E q → q < H.size) ∧ E ou ∧ al (cA 0) ou 1 fu H))) (LQ G cA E ou x (lk0 n F O (fun k w => (k = 1 ∧ (inb n v = false ∨ ∃ a, a < n ∧ v = nI a ∧ inb (tbl (O a)).length v2 = false)) ∨ (k = 2 ∧ ∃ a, a < n ∧ v = nI a ∧ inb (tbl (O a)).length v2 = true ∧ inb 4 v3 = false) ∨ (k = 0 ∧ ∃ r : Int32, w = r.toInt64 ∧ ∃ a j u, a < n ∧ v = nI a ∧ j < (tbl (O a)).length ∧ v2 = nI j ∧ u < 4 ∧ v3 = nI u ∧ ruR (O a) ((tbl (O a)).getD j (0, 0)) u r)))) 6 208 (fun q => ¬ E q ∨ q = ou) := by
  refine va_MetW (cc := cL_rule) (maxL := 6) (ret := some .int) (hh := [(0, 12, 15, 23), (0, 12, 19, 13)]) (by decide) rfl ?_
  intro p e s m args below meth c s₁ B hml hv
  obtain ⟨hav, hKN, hZ, hNC, hpv, hNE, hElt, hEo, hou⟩ := hv
  have hK := hKN.1
  have hx := B.exec
  have hb := B.bytes
  have hrt := B.returns
  have htA : ∀ w ∈ ALL, w.before args s = true := fun w h => atoms_spec (ws := wsL_rule) B.pre w (List.mem_cons_of_mem _ h)
  have htb := vx_table (x := yL_rule) B (atoms_spec (ws := wsL_rule) B.pre _ List.mem_cons_self)
  have hown : s.vm.findClass RL = some m.cls := findClass_of_methodNamed B.named
  have hlocks := B.notSynchronized
  refine pw_nm (fun R Q hR hQ => ?_)
  refine pw_entry (vs := [.ref x, .int v, .int v2, .int v3, .ref ou]) hav (Nat.le_of_ble_eq_true rfl) (fun ls hl => ?_)
  have hl : lv_has ls 6 [(0, .ref x), (1, .int v), (2, .int v2), (3, .int v3), (4, .ref ou)] := hl
  have hS0 := hpv
  obtain ⟨p1, p2, p3, p4, p5, p6, p7, p8, p9, p10, p11, p12⟩ := hpv
  have hL : ∀ z ∈ ([] : List Loc), (fun q => ¬ E q ∨ q = ou) z.base := fun _ h => by cases h
  refine lv_aload hx hb dL_rule_0 (lv_at hl 4 rfl) ?_
  refine lv_iconst (v := nI 0) hx hb dL_rule_2 (by decide) ?_
  refine lv_aload_n hx hb dL_rule_3 rfl (lv_at hl 0 rfl) ?_
  refine lv_iload_n hx hb dL_rule_4 rfl (lv_at hl 1 rfl) ?_
  refine lv_iload_n hx hb dL_rule_5 rfl (lv_at hl 2 rfl) ?_
  refine lv_iload_n hx hb dL_rule_6 rfl (lv_at hl 3 rfl) ?_
  refine px_call (F := (fun q => ¬ E q ∨ q = ou)) (vx_runV (As := [.int v, .int v2, .int v3]) (rest := [.int (nI 0), .ref ou]) ⟨hx, hb, hml, hown, htA⟩ (c_rule l hl9 G cA E x pa rs lo hi n F O po oc tb tc v v2 v3) (cwV 3 htA (gd_V wd398 wd399 wd400 wd26 wd401) rfl rfl rfl (by decide +kernel) (by rw [hR]; exact ⟨Nat.le_of_ble_eq_true rfl, Nat.le_of_ble_eq_true rfl⟩)) (px_V (ci := 3) (q := (RV, TV, 4)) hKN hZ p1 rfl ⟨hS0, hNE, hElt⟩) rfl rfl hl.1 rfl (lv_room (Nat.le_of_ble_eq_true rfl)) dL_rule_7 (by rw [hR]; exact ⟨Nat.le_of_ble_eq_true rfl, Nat.le_of_ble_eq_true rfl⟩)) hL (fun q h => Or.inl h) (fun E9 ce9 q9 st9 t9 lc9 h09 ha9 hL9 hx9 g1 g2 g3 => ?_) (fun v9 st9 t9 lc9 h09 ha9 hL hq9 => ?_)
  · obtain ⟨hc9, hP9, hF9⟩ := hx9
    rcases hc9 with ⟨rfl, hc9⟩ | ⟨rfl, hc9⟩
    · refine vx_catch (own := RL) (name := "java/util/NoSuchElementException") hown [] ⟨0, 12, 15, 23⟩ [⟨0, 12, 19, 13⟩] (htb.trans rfl) (fun _ h => by cases h) rfl (by decide) (htA _ wd260) (KN.cast hKN (w := .castable "java/util/NoSuchElementException" "java/util/NoSuchElementException") (by decide +kernel)) g1 g2 g3 ?_
      refine lv_astore (lv' := [(5, .ref q9), (0, .ref x), (1, .int v), (2, .int v2), (3, .int v3), (4, .ref ou)]) hx hb dL_rule_15 hl (by decide) rfl (fun ls hl => ?_)
      refine lv_iconst (v := nI 1) hx hb dL_rule_17 (by decide) ?_
      rw [hQ]
      refine W.widen (k := 6) (n := 208) (by omega) (by omega) ?_
      exact W.iret (v := nI 1) hx hb hrt (fun t ht hW => LQ_x (k := 1) h09 hP9 hF9 hou hEo ⟨Or.inl ⟨rfl, hc9⟩, rfl, rfl, rfl⟩ ht) hL9 dL_rule_18
    · refine vx_catch (own := RL) (name := "java/lang/IllegalArgumentException") hown [⟨0, 12, 15, 23⟩] ⟨0, 12, 19, 13⟩ [] (htb.trans rfl) (List.forall_mem_cons.mpr ⟨Or.inr ⟨by decide, "java/util/NoSuchElementException", htA _ wd260, hNC.n (by decide)⟩, (fun _ h => by cases h)⟩) rfl (by decide) (htA _ wd79) (KN.cast hKN (w := .castable "java/lang/IllegalArgumentException" "java/lang/IllegalArgumentException") (by decide +kernel)) g1 g2 g3 ?_
      refine lv_astore (lv' := [(5, .ref q9), (0, .ref x), (1, .int v), (2, .int v2), (3, .int v3), (4, .ref ou)]) hx hb dL_rule_19 hl (by decide) rfl (fun ls hl => ?_)
      refine lv_iconst (v := nI 2) hx hb dL_rule_21 (by decide) ?_
      rw [hQ]
      refine W.widen (k := 6) (n := 208) (by omega) (by omega) ?_
      exact W.iret (v := nI 2) hx hb hrt (fun t ht hW => LQ_x (k := 2) h09 hP9 hF9 hou hEo ⟨Or.inr (Or.inl ⟨rfl, hc9⟩), rfl, rfl, rfl⟩ ht) hL9 dL_rule_22
  · obtain ⟨a, j, u, ha, rfl, hj, rfl, hu, rfl, ⟨r9, hv9, hru⟩, hP9, hF9⟩ := hq9
    cases hv9
    obtain ⟨f1, f2⟩ := hF9
    rw [h09] at f1 f2
    have f2 : ∀ q, q < s.heap.size → E q → t9.heap[q]? = s.heap[q]? := fun q h1 h2 => f2 q h1 (fun h => h h2)
    generalize t9.heap = H5 at hP9 f1 f2 ⊢
    have hou := al_k hou (f2 ou (al_lt hou) hEo)
    refine lv_i2l hx hb dL_rule_10 rfl ?_
    refine pw_last (F := (fun q => ¬ E q ∨ q = ou)) hx hb hK hou 0 rfl (show 0 < 1 by decide) (by decide) hL (Or.inr rfl) dL_rule_11 (fun H6 lc6 hou hz1 hk1 hL => ?_)
    refine lv_goto (tgt := 23) hx hb dL_rule_12 (by decide) ?_
    refine lv_iconst (v := nI 0) hx hb dL_rule_23 (by decide) ?_
    rw [hQ]
    refine W.widen (k := 6) (n := 208) (by omega) (by omega) ?_
    exact W.iret (v := nI 0) hx hb hrt (fun t ht hW => LQ_r hP9 f1 f2 hEo hou hz1 hk1 ⟨Or.inr (Or.inr ⟨rfl, r9, rfl, a, j, u, ha, rfl, hj, rfl, hu, rfl, hru⟩), rfl, rfl, rfl⟩ ht) hL dL_rule_24

set_option maxRecDepth 100000 in
set_option maxHeartbeats 4000000 in
theorem w_match (l : Launch) (hl9 : l.stackTraces = false) (G : va_G) (cA : Nat → ClassId) (E : Nat → Prop) (x pa rs lo hi n : Nat) (F : Nat → Bool) (O : Nat → Nat → Int64) (po oc : Nat → Nat) (tb : Nat → Option Nat) (tc : Nat → Nat × Nat × Nat) (ou : Nat) (fu : Nat → Int64) (v v2 : Int32) : Met l yL_match wsL_match ({ frames := 8, cells := 6, slots := 208, locals := 190 }) (PN G cA E [.ref x, .int v, .int v2, .ref ou] (fun H => (pvS G cA x pa rs lo hi n F O po oc tb tc H ∧ pvN E x pa rs lo hi n po oc tb tc ∧ (∀ q, E q → q < H.size) ∧ E ou ∧ al (cA 0) ou 1 fu H))) (LQ G cA E ou x (lk0 n F O (fun k w => (k = 1 ∧ inb n v = false) ∨ (k = 2 ∧ inb n v = true ∧ inb 64 v2 = false) ∨ (k = 0 ∧ ∃ r : Int32, w = r.toInt64 ∧ ∃ a y j, a < n ∧ v = nI a ∧ y < 64 ∧ v2 = nI y ∧ plR (tbl (O a)) y j ∧ r = nI j)))) 6 208 (fun q => ¬ E q ∨ q = ou) := by
  refine va_MetW (cc := cL_match) (maxL := 5) (ret := some .int) (hh := [(0, 10, 13, 23), (0, 10, 17, 13)]) (by decide) rfl ?_
  intro p e s m args below meth c s₁ B hml hv
  obtain ⟨hav, hKN, hZ, hNC, hpv, hNE, hElt, hEo, hou⟩ := hv
  have hK := hKN.1
  have hx := B.exec
  have hb := B.bytes
  have hrt := B.returns
  have htA : ∀ w ∈ ALL, w.before args s = true := fun w h => atoms_spec (ws := wsL_match) B.pre w (List.mem_cons_of_mem _ h)
  have htb := vx_table (x := yL_match) B (atoms_spec (ws := wsL_match) B.pre _ List.mem_cons_self)
  have hown : s.vm.findClass RL = some m.cls := findClass_of_methodNamed B.named
  have hlocks := B.notSynchronized
  refine pw_nm (fun R Q hR hQ => ?_)
  refine pw_entry (vs := [.ref x, .int v, .int v2, .ref ou]) hav (Nat.le_of_ble_eq_true rfl) (fun ls hl => ?_)
  have hl : lv_has ls 5 [(0, .ref x), (1, .int v), (2, .int v2), (3, .ref ou)] := hl
  have hS0 := hpv
  obtain ⟨p1, p2, p3, p4, p5, p6, p7, p8, p9, p10, p11, p12⟩ := hpv
  have hL : ∀ z ∈ ([] : List Loc), (fun q => ¬ E q ∨ q = ou) z.base := fun _ h => by cases h
  refine lv_aload_n hx hb dL_match_0 rfl (lv_at hl 3 rfl) ?_
  refine lv_iconst (v := nI 0) hx hb dL_match_1 (by decide) ?_
  refine lv_aload_n hx hb dL_match_2 rfl (lv_at hl 0 rfl) ?_
  refine lv_iload_n hx hb dL_match_3 rfl (lv_at hl 1 rfl) ?_
  refine lv_iload_n hx hb dL_match_4 rfl (lv_at hl 2 rfl) ?_
  refine px_call (F := (fun q => ¬ E q ∨ q = ou)) (vx_runV (As := [.int v, .int v2]) (rest := [.int (nI 0), .ref ou]) ⟨hx, hb, hml, hown, htA⟩ (c_match l hl9 G cA E x pa rs lo hi n F O po oc tb tc v v2) (cwV 2 htA (gd_V wd411 wd412 wd413 wd26 wd414) rfl rfl rfl (by decide +kernel) (by rw [hR]; exact ⟨Nat.le_of_ble_eq_true rfl, Nat.le_of_ble_eq_true rfl⟩)) (px_V (ci := 3) (q := (RV, TV, 4)) hKN hZ p1 rfl ⟨hS0, hNE, hElt⟩) rfl rfl hl.1 rfl (lv_room (Nat.le_of_ble_eq_true rfl)) dL_match_5 (by rw [hR]; exact ⟨Nat.le_of_ble_eq_true rfl, Nat.le_of_ble_eq_true rfl⟩)) hL (fun q h => Or.inl h) (fun E9 ce9 q9 st9 t9 lc9 h09 ha9 hL9 hx9 g1 g2 g3 => ?_) (fun v9 st9 t9 lc9 h09 ha9 hL hq9 => ?_)
  · obtain ⟨hc9, hP9, hF9⟩ := hx9
    rcases hc9 with ⟨rfl, hc9⟩ | ⟨rfl, hc9⟩
    · refine vx_catch (own := RL) (name := "java/util/NoSuchElementException") hown [] ⟨0, 10, 13, 23⟩ [⟨0, 10, 17, 13⟩] (htb.trans rfl) (fun _ h => by cases h) rfl (by decide) (htA _ wd260) (KN.cast hKN (w := .castable "java/util/NoSuchElementException" "java/util/NoSuchElementException") (by decide +kernel)) g1 g2 g3 ?_
      refine lv_astore (lv' := [(4, .ref q9), (0, .ref x), (1, .int v), (2, .int v2), (3, .ref ou)]) hx hb dL_match_13 hl (by decide) rfl (fun ls hl => ?_)
      refine lv_iconst (v := nI 1) hx hb dL_match_15 (by decide) ?_
      rw [hQ]
      refine W.widen (k := 6) (n := 208) (by omega) (by omega) ?_
      exact W.iret (v := nI 1) hx hb hrt (fun t ht hW => LQ_x (k := 1) h09 hP9 hF9 hou hEo ⟨Or.inl ⟨rfl, hc9⟩, rfl, rfl, rfl⟩ ht) hL9 dL_match_16
    · refine vx_catch (own := RL) (name := "java/lang/IllegalArgumentException") hown [⟨0, 10, 13, 23⟩] ⟨0, 10, 17, 13⟩ [] (htb.trans rfl) (List.forall_mem_cons.mpr ⟨Or.inr ⟨by decide, "java/util/NoSuchElementException", htA _ wd260, hNC.n (by decide)⟩, (fun _ h => by cases h)⟩) rfl (by decide) (htA _ wd79) (KN.cast hKN (w := .castable "java/lang/IllegalArgumentException" "java/lang/IllegalArgumentException") (by decide +kernel)) g1 g2 g3 ?_
      refine lv_astore (lv' := [(4, .ref q9), (0, .ref x), (1, .int v), (2, .int v2), (3, .ref ou)]) hx hb dL_match_17 hl (by decide) rfl (fun ls hl => ?_)
      refine lv_iconst (v := nI 2) hx hb dL_match_19 (by decide) ?_
      rw [hQ]
      refine W.widen (k := 6) (n := 208) (by omega) (by omega) ?_
      exact W.iret (v := nI 2) hx hb hrt (fun t ht hW => LQ_x (k := 2) h09 hP9 hF9 hou hEo ⟨Or.inr (Or.inl ⟨rfl, hc9⟩), rfl, rfl, rfl⟩ ht) hL9 dL_match_20
  · obtain ⟨a, y, k, ha, rfl, hy, rfl, hpl, hv9, hP9, hF9⟩ := hq9
    cases hv9
    obtain ⟨f1, f2⟩ := hF9
    rw [h09] at f1 f2
    have f2 : ∀ q, q < s.heap.size → E q → t9.heap[q]? = s.heap[q]? := fun q h1 h2 => f2 q h1 (fun h => h h2)
    generalize t9.heap = H5 at hP9 f1 f2 ⊢
    have hou := al_k hou (f2 ou (al_lt hou) hEo)
    refine lv_i2l hx hb dL_match_8 rfl ?_
    refine pw_last (F := (fun q => ¬ E q ∨ q = ou)) hx hb hK hou 0 rfl (show 0 < 1 by decide) (by decide) hL (Or.inr rfl) dL_match_9 (fun H6 lc6 hou hz1 hk1 hL => ?_)
    refine lv_goto (tgt := 21) hx hb dL_match_10 (by decide) ?_
    refine lv_iconst (v := nI 0) hx hb dL_match_21 (by decide) ?_
    rw [hQ]
    refine W.widen (k := 6) (n := 208) (by omega) (by omega) ?_
    exact W.iret (v := nI 0) hx hb hrt (fun t ht hW => LQ_r hP9 f1 f2 hEo hou hz1 hk1 ⟨Or.inr (Or.inr ⟨rfl, _, rfl, a, y, k, ha, rfl, hy, rfl, hpl, rfl⟩), rfl, rfl, rfl⟩ ht) hL dL_match_22

set_option maxRecDepth 100000 in
set_option maxHeartbeats 4000000 in
theorem w_policy (l : Launch) (hl9 : l.stackTraces = false) (G : va_G) (cA : Nat → ClassId) (E : Nat → Prop) (x pa rs lo hi n : Nat) (F : Nat → Bool) (O : Nat → Nat → Int64) (po oc : Nat → Nat) (tb : Nat → Option Nat) (tc : Nat → Nat × Nat × Nat) (ou : Nat) (fu : Nat → Int64) (k0 a b c0 : Int32) : Met l yL_policy wsL_policy ({ frames := 7, cells := 2, slots := 67, locals := 125 }) (PN G cA E [.ref x, .int k0, .int a, .int b, .int c0, .ref ou] (fun H => (pvS G cA x pa rs lo hi n F O po oc tb tc H ∧ pvN E x pa rs lo hi n po oc tb tc ∧ (∀ q, E q → q < H.size) ∧ E ou ∧ al (cA 0) ou 1 fu H))) (LQ G cA E ou x (fun k w n2 F2 O2 => (k = 1 ∧ wf n k0 a b c0 = false ∧ n2 = n ∧ F2 = F ∧ O2 = O) ∨ (∃ j, j < 9 ∧ k0 = nI j ∧ wfN n j a b c0 = true ∧ ((k = 2 ∧ 7 ≤ j ∧ F (cl a) = false ∧ n2 = n ∧ F2 = F ∧ O2 = O) ∨ (k = 3 ∧ (7 ≤ j → F (cl a) = true) ∧ n = 50 ∧ n2 = n ∧ F2 = F ∧ O2 = O) ∨ (k = 0 ∧ (7 ≤ j → F (cl a) = true) ∧ n < 50 ∧ w = (nI n).toInt64 ∧ n2 = n + 1 ∧ F2 = (fun i => if i = n then polB j (cl a) (cl b) (cl c0) F else F i) ∧ ∃ g : Nat → Int64, (∀ k, k < 64 → g k = polF j (cl a) (cl b) (cl c0) O k) ∧ O2 = (fun i => if i = n then g else O i)))))) 2 67 (fun q => ¬ E q ∨ q = ou) := by
  refine va_MetW (cc := cL_policy) (maxL := 7) (ret := some .int) (hh := [(0, 14, 17, 13), (0, 14, 21, 15), (0, 14, 25, 17)]) (by decide) rfl ?_
  intro p e s m args below meth c s₁ B hml hv
  obtain ⟨hav, hKN, hZ, hNC, hpv, hNE, hElt, hEo, hou⟩ := hv
  have hK := hKN.1
  have hx := B.exec
  have hb := B.bytes
  have hrt := B.returns
  have htA : ∀ w ∈ ALL, w.before args s = true := fun w h => atoms_spec (ws := wsL_policy) B.pre w (List.mem_cons_of_mem _ h)
  have htb := vx_table (x := yL_policy) B (atoms_spec (ws := wsL_policy) B.pre _ List.mem_cons_self)
  have hown : s.vm.findClass RL = some m.cls := findClass_of_methodNamed B.named
  have hlocks := B.notSynchronized
  refine pw_nm (fun R Q hR hQ => ?_)
  refine pw_entry (vs := [.ref x, .int k0, .int a, .int b, .int c0, .ref ou]) hav (Nat.le_of_ble_eq_true rfl) (fun ls hl => ?_)
  have hl : lv_has ls 7 [(0, .ref x), (1, .int k0), (2, .int a), (3, .int b), (4, .int c0), (5, .ref ou)] := hl
  have hS0 := hpv
  obtain ⟨p1, p2, p3, p4, p5, p6, p7, p8, p9, p10, p11, p12⟩ := hpv
  have hL : ∀ z ∈ ([] : List Loc), (fun q => ¬ E q ∨ q = ou) z.base := fun _ h => by cases h
  refine lv_aload hx hb dL_policy_0 (lv_at hl 5 rfl) ?_
  refine lv_iconst (v := nI 0) hx hb dL_policy_2 (by decide) ?_
  refine lv_aload_n hx hb dL_policy_3 rfl (lv_at hl 0 rfl) ?_
  refine lv_iload_n hx hb dL_policy_4 rfl (lv_at hl 1 rfl) ?_
  refine lv_iload_n hx hb dL_policy_5 rfl (lv_at hl 2 rfl) ?_
  refine lv_iload_n hx hb dL_policy_6 rfl (lv_at hl 3 rfl) ?_
  refine lv_iload hx hb dL_policy_7 (lv_at hl 4 rfl) ?_
  refine px_call (F := (fun q => ¬ E q ∨ q = ou)) (vx_runV (As := [.int k0, .int a, .int b, .int c0]) (rest := [.int (nI 0), .ref ou]) ⟨hx, hb, hml, hown, htA⟩ (c_policy l hl9 G cA E x pa rs lo hi n F O po oc tb tc k0 a b c0) (cwV 4 htA (gd_V wd82 wd83 wd84 wd26 wd85) rfl rfl rfl (by decide +kernel) (by rw [hR]; exact ⟨Nat.le_of_ble_eq_true rfl, Nat.le_of_ble_eq_true rfl⟩)) (px_V (ci := 3) (q := (RV, TV, 4)) hKN hZ p1 rfl ⟨hS0, hNE, hElt⟩) rfl rfl hl.1 rfl (lv_room (Nat.le_of_ble_eq_true rfl)) dL_policy_9 (by rw [hR]; exact ⟨Nat.le_of_ble_eq_true rfl, Nat.le_of_ble_eq_true rfl⟩)) hL (fun q h => Or.inl h) (fun E9 ce9 q9 st9 t9 lc9 h09 ha9 hL9 hx9 g1 g2 g3 => ?_) (fun v9 st9 t9 lc9 h09 ha9 hL hq9 => ?_)
  · have hx9 := xR_Q0 hS0 hNE hx9 h09
    have h09 : s.heap = s.heap := rfl
    obtain ⟨hc9, hP9, hF9⟩ := hx9
    rcases hc9 with ⟨rfl, hc9⟩ | ⟨j, hj, hjk, hw, ⟨rfl, h7, hfa⟩ | ⟨rfl, h7, hn5⟩⟩
    · refine vx_catch (own := RL) (name := "java/lang/IllegalArgumentException") hown [] ⟨0, 14, 17, 13⟩ [⟨0, 14, 21, 15⟩, ⟨0, 14, 25, 17⟩] (htb.trans rfl) (fun _ h => by cases h) rfl (by decide) (htA _ wd79) (KN.cast hKN (w := .castable "java/lang/IllegalArgumentException" "java/lang/IllegalArgumentException") (by decide +kernel)) g1 g2 g3 ?_
      refine lv_astore (lv' := [(6, .ref q9), (0, .ref x), (1, .int k0), (2, .int a), (3, .int b), (4, .int c0), (5, .ref ou)]) hx hb dL_policy_17 hl (by decide) rfl (fun ls hl => ?_)
      refine lv_iconst (v := nI 1) hx hb dL_policy_19 (by decide) ?_
      rw [hQ]
      refine W.widen (k := 2) (n := 67) (by omega) (by omega) ?_
      exact W.iret (v := nI 1) hx hb hrt (fun t ht hW => LQ_x (k := 1) h09 hP9 hF9 hou hEo (Or.inl ⟨rfl, hc9, rfl, rfl, rfl⟩) ht) hL9 dL_policy_20
    · refine vx_catch (own := RL) (name := "java/lang/UnsupportedOperationException") hown [⟨0, 14, 17, 13⟩] ⟨0, 14, 21, 15⟩ [⟨0, 14, 25, 17⟩] (htb.trans rfl) (List.forall_mem_cons.mpr ⟨Or.inr ⟨by decide, "java/lang/IllegalArgumentException", htA _ wd79, hNC.n (by decide)⟩, (fun _ h => by cases h)⟩) rfl (by decide) (htA _ wd80) (KN.cast hKN (w := .castable "java/lang/UnsupportedOperationException" "java/lang/UnsupportedOperationException") (by decide +kernel)) g1 g2 g3 ?_
      refine lv_astore (lv' := [(6, .ref q9), (0, .ref x), (1, .int k0), (2, .int a), (3, .int b), (4, .int c0), (5, .ref ou)]) hx hb dL_policy_21 hl (by decide) rfl (fun ls hl => ?_)
      refine lv_iconst (v := nI 2) hx hb dL_policy_23 (by decide) ?_
      rw [hQ]
      refine W.widen (k := 2) (n := 67) (by omega) (by omega) ?_
      exact W.iret (v := nI 2) hx hb hrt (fun t ht hW => LQ_x (k := 2) h09 hP9 hF9 hou hEo (Or.inr ⟨j, hj, hjk, hw, Or.inl ⟨rfl, h7, hfa, rfl, rfl, rfl⟩⟩) ht) hL9 dL_policy_24
    · refine vx_catch (own := RL) (name := "java/lang/IllegalStateException") hown [⟨0, 14, 17, 13⟩, ⟨0, 14, 21, 15⟩] ⟨0, 14, 25, 17⟩ [] (htb.trans rfl) (List.forall_mem_cons.mpr ⟨Or.inr ⟨by decide, "java/lang/IllegalArgumentException", htA _ wd79, hNC.n (by decide)⟩, (List.forall_mem_cons.mpr ⟨Or.inr ⟨by decide, "java/lang/UnsupportedOperationException", htA _ wd80, hNC.n (by decide)⟩, (fun _ h => by cases h)⟩)⟩) rfl (by decide) (htA _ wd81) (KN.cast hKN (w := .castable "java/lang/IllegalStateException" "java/lang/IllegalStateException") (by decide +kernel)) g1 g2 g3 ?_
      refine lv_astore (lv' := [(6, .ref q9), (0, .ref x), (1, .int k0), (2, .int a), (3, .int b), (4, .int c0), (5, .ref ou)]) hx hb dL_policy_25 hl (by decide) rfl (fun ls hl => ?_)
      refine lv_iconst (v := nI 3) hx hb dL_policy_27 (by decide) ?_
      rw [hQ]
      refine W.widen (k := 2) (n := 67) (by omega) (by omega) ?_
      exact W.iret (v := nI 3) hx hb hrt (fun t ht hW => LQ_x (k := 3) h09 hP9 hF9 hou hEo (Or.inr ⟨j, hj, hjk, hw, Or.inr (Or.inl ⟨rfl, h7, hn5, rfl, rfl, rfl⟩)⟩) ht) hL9 dL_policy_28
  · obtain ⟨j, g, hj, rfl, hw, h7, hn5, hv9, hg, hP9, hF9⟩ := hq9
    cases hv9
    obtain ⟨f1, f2⟩ := hF9
    rw [h09] at f1 f2
    have f2 : ∀ q, q < s.heap.size → E q → t9.heap[q]? = s.heap[q]? := fun q h1 h2 => f2 q h1 (fun h => h h2)
    generalize t9.heap = H5 at hP9 f1 f2 ⊢
    have hou := al_k hou (f2 ou (al_lt hou) hEo)
    refine lv_i2l hx hb dL_policy_12 rfl ?_
    refine pw_last (F := (fun q => ¬ E q ∨ q = ou)) hx hb hK hou 0 rfl (show 0 < 1 by decide) (by decide) hL (Or.inr rfl) dL_policy_13 (fun H6 lc6 hou hz1 hk1 hL => ?_)
    refine lv_goto (tgt := 29) hx hb dL_policy_14 (by decide) ?_
    refine lv_iconst (v := nI 0) hx hb dL_policy_29 (by decide) ?_
    rw [hQ]
    refine W.widen (k := 2) (n := 67) (by omega) (by omega) ?_
    exact W.iret (v := nI 0) hx hb hrt (fun t ht hW => LQ_r hP9 f1 f2 hEo hou hz1 hk1 (Or.inr ⟨j, hj, rfl, hw, Or.inr (Or.inr ⟨rfl, h7, hn5, rfl, rfl, rfl, g, hg, rfl⟩)⟩) ht) hL dL_policy_30
