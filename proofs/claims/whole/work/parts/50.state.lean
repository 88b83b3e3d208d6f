def tabOK (T : List (Nat × Nat)) (fp ff pl : Nat → Int32) : Prop := (∀ k, k < T.length → fp k = nI (T.getD k (0, 0)).1 ∧ ff k = nI (3 - (T.getD k (0, 0)).2)) ∧ ∀ x, x < 64 → ∃ k, plR T x k ∧ pl x = nI k
def tabAt (G : va_G) (cA : Nat → ClassId) (t : Nat) (c : Nat × Nat × Nat) (f : Nat → Int64) (H : Heap) : Prop := ∃ fp ff pl, ob G 2 t [.ref c.1, .ref c.2.1, .ref c.2.2, .int (nI (tbl f).length)] H ∧ ai (cA 1) c.1 64 fp H ∧ ai (cA 1) c.2.1 64 ff H ∧ ai (cA 1) c.2.2 64 pl H ∧ tabOK (tbl f) fp ff pl
def pvP (n : Nat) (po : Nat → Nat) : Nat → Option Nat := fun j => if j < n then some (po j) else none
def pvS (G : va_G) (cA : Nat → ClassId) (x pa rs lo hi n : Nat) (F : Nat → Bool) (O : Nat → Nat → Int64) (po oc : Nat → Nat) (tb : Nat → Option Nat) (tc : Nat → Nat × Nat × Nat) (H : Heap) : Prop :=
  ob G 3 x [.ref pa, .ref rs, .int (nI n), .int (nI (dct O n))] H ∧ aq (cA 2) pa 50 (pvP n po) H ∧ ob G 1 rs [.ref lo, .ref hi] H ∧ (∃ f, al (cA 0) lo 64 f H) ∧ (∃ f, al (cA 0) hi 64 f H) ∧
  (∀ i, i < n → ob G 0 (po i) [.int (bI (F i)), .ref (oc i), va_rf (tb i)] H) ∧ (∀ i, i < n → al (cA 0) (oc i) 64 (O i) H) ∧ (∀ i, i < n → ∀ t, tb i = some t → tabAt G cA t (tc i) (O i) H) ∧
  n ≤ 50 ∧ lo ≠ hi ∧ (∀ i, i < n → oc i ≠ lo ∧ oc i ≠ hi) ∧ ∀ i j, i < n → j < n → po i = po j → i = j
def pvN (E : Nat → Prop) (x pa rs lo hi n : Nat) (po oc : Nat → Nat) (tb : Nat → Option Nat) (tc : Nat → Nat × Nat × Nat) : Prop :=
  ¬ E x ∧ ¬ E pa ∧ ¬ E rs ∧ ¬ E lo ∧ ¬ E hi ∧ ∀ i, i < n → ¬ E (po i) ∧ ¬ E (oc i) ∧ ∀ t, tb i = some t → ¬ E t ∧ ¬ E (tc i).1 ∧ ¬ E (tc i).2.1 ∧ ¬ E (tc i).2.2
def PVE (G : va_G) (cA : Nat → ClassId) (E : Nat → Prop) (x n : Nat) (F : Nat → Bool) (O : Nat → Nat → Int64) (H : Heap) : Prop := ∃ pa rs lo hi po oc tb tc, pvS G cA x pa rs lo hi n F O po oc tb tc H ∧ pvN E x pa rs lo hi n po oc tb tc
theorem tabAt_k {G : va_G} {cA : Nat → ClassId} {t : Nat} {c : Nat × Nat × Nat} {f : Nat → Int64} {H H1 : Heap} (h : tabAt G cA t c f H) (h0 : H1[t]? = H[t]?) (h1 : H1[c.1]? = H[c.1]?) (h2 : H1[c.2.1]? = H[c.2.1]?) (h3 : H1[c.2.2]? = H[c.2.2]?) : tabAt G cA t c f H1 := by
  obtain ⟨fp, ff, pl, a, b, d, g, o⟩ := h
  exact ⟨fp, ff, pl, ob_k a h0, ai_k b h1, ai_k d h2, ai_k g h3, o⟩
theorem tabAt_lt {G : va_G} {cA : Nat → ClassId} {t : Nat} {c : Nat × Nat × Nat} {f : Nat → Int64} {H : Heap} (h : tabAt G cA t c f H) : t < H.size ∧ c.1 < H.size ∧ c.2.1 < H.size ∧ c.2.2 < H.size := by
  obtain ⟨fp, ff, pl, a, b, d, g, -⟩ := h
  exact ⟨ob_lt a, ai_lt b, ai_lt d, ai_lt g⟩
theorem pvS_up {G : va_G} {cA : Nat → ClassId} {x pa rs lo hi n : Nat} {F : Nat → Bool} {O : Nat → Nat → Int64} {po oc : Nat → Nat} {tb : Nat → Option Nat} {tc : Nat → Nat × Nat × Nat} {H H1 : Heap} (h : pvS G cA x pa rs lo hi n F O po oc tb tc H) (hk : ∀ q, q < H.size → H1[q]? = H[q]?) : pvS G cA x pa rs lo hi n F O po oc tb tc H1 := by
  obtain ⟨h1, h2, h3, ⟨f, h4⟩, ⟨g, h5⟩, h6, h7, h8, h9, h10, h11, h12⟩ := h
  refine ⟨ob_k h1 (hk _ (ob_lt h1)), aq_k h2 (hk _ (aq_lt h2)), ob_k h3 (hk _ (ob_lt h3)), ⟨f, al_k h4 (hk _ (al_lt h4))⟩, ⟨g, al_k h5 (hk _ (al_lt h5))⟩, fun i hi => ob_k (h6 i hi) (hk _ (ob_lt (h6 i hi))), fun i hi => al_k (h7 i hi) (hk _ (al_lt (h7 i hi))), fun i hi t ht => ?_, h9, h10, h11, h12⟩
  obtain ⟨a, b, c, d⟩ := tabAt_lt (h8 i hi t ht)
  exact tabAt_k (h8 i hi t ht) (hk _ a) (hk _ b) (hk _ c) (hk _ d)
theorem pvS_E {G : va_G} {cA : Nat → ClassId} {E : Nat → Prop} {x pa rs lo hi n : Nat} {F : Nat → Bool} {O : Nat → Nat → Int64} {po oc : Nat → Nat} {tb : Nat → Option Nat} {tc : Nat → Nat × Nat × Nat} {H H1 : Heap} (h : pvS G cA x pa rs lo hi n F O po oc tb tc H) (hN : pvN E x pa rs lo hi n po oc tb tc) (hk : ∀ q, q < H.size → ¬ E q → H1[q]? = H[q]?) : pvS G cA x pa rs lo hi n F O po oc tb tc H1 := by
  obtain ⟨h1, h2, h3, ⟨f, h4⟩, ⟨g, h5⟩, h6, h7, h8, h9, h10, h11, h12⟩ := h
  obtain ⟨n1, n2, n3, n4, n5, n6⟩ := hN
  refine ⟨ob_k h1 (hk _ (ob_lt h1) n1), aq_k h2 (hk _ (aq_lt h2) n2), ob_k h3 (hk _ (ob_lt h3) n3), ⟨f, al_k h4 (hk _ (al_lt h4) n4)⟩, ⟨g, al_k h5 (hk _ (al_lt h5) n5)⟩, fun i hi => ob_k (h6 i hi) (hk _ (ob_lt (h6 i hi)) (n6 i hi).1), fun i hi => al_k (h7 i hi) (hk _ (al_lt (h7 i hi)) (n6 i hi).2.1), fun i hi t ht => ?_, h9, h10, h11, h12⟩
  obtain ⟨a, b, c, d⟩ := tabAt_lt (h8 i hi t ht)
  obtain ⟨e1, e2, e3, e4⟩ := (n6 i hi).2.2 t ht
  exact tabAt_k (h8 i hi t ht) (hk _ a e1) (hk _ b e2) (hk _ c e3) (hk _ d e4)
def ZZ (E : Nat → Prop) (U : State) (H : Heap) : Prop := vx_Zq Bundle.tN "UNASSIGNED_STACK" Bundle.steD (fun q => ¬ E q) U H ∧ vx_Zq Bundle.tN "SUPPRESSED_SENTINEL" Bundle.listD (fun q => ¬ E q) U H
theorem ZZ.mv {E : Nat → Prop} {u U : State} {H : Heap} (hvm : u.vm.Alike U.vm) (h : ZZ E u H) : ZZ E U H := ⟨h.1.moved hvm, h.2.moved hvm⟩
theorem ZZ.k {E : Nat → Prop} {U : State} {H H1 : Heap} (h : ZZ E U H) (hk : ∀ q, q < H.size → E q → H1[q]? = H[q]?) : ZZ E U H1 := ⟨h.1.kept (fun a h1 h2 => hk a h1 (Classical.not_not.mp h2)), h.2.kept (fun a h1 h2 => hk a h1 (Classical.not_not.mp h2))⟩
def PX (G : va_G) (cA : Nat → ClassId) (E : Nat → Prop) (av : List Value) (Pre : Heap → Prop) : Array Value → State → Prop := va_Pc av (fun U => KN G cA U ∧ ZZ E U U.heap ∧ Pre U.heap)
def xR (cond : String → Prop) : String → State → State → Prop := fun X st t => cond X ∧ st.heap.size ≤ t.heap.size ∧ ∀ q, q < st.heap.size → t.heap[q]? = st.heap[q]?
theorem xR_up {cond cond' : String → Prop} {X : String} {st9 t9 s t : State} (h : xR cond X st9 t9) (h0 : st9.heap = s.heap) (hc : cond X → cond' X) (ht : t.heap = t9.heap) : xR cond' X s t := by
  obtain ⟨h1, h2, h3⟩ := h
  rw [h0] at h2 h3
  exact ⟨hc h1, by rw [ht]; exact h2, by rw [ht]; exact h3⟩
section PXS
variable {p : Program} {l : Launch} {e : Env} {R : Room} {s : State} {m : MethodId} {args : Array Value} {below : List Frame} {meth : Method} {c : Code} {H : Heap} {locs : List Loc} {cells slots : Nat} {Q : State → Prop}
variable {cc : ByteArray} {pc : Nat} {ls : Array Slot} {rest : List Value} {G : va_G} {cA : Nat → ClassId} {E : Nat → Prop}
theorem px_bl {av : List Value} {Pre : Heap → Prop} : FrameBlind (PX G cA E av Pre) := fun a U g mk q => ⟨q.1, q.2.1.cl, ZZ.mv (u := U) (U := U.calling g mk a) (Vm.Alike.refl U.vm) q.2.2.1, q.2.2.2⟩
theorem px_S {av : List Value} {Pre : Heap → Prop} (hK : KN G cA s) (hZ : ZZ E s H) (h : Pre H) : PreS s H (PX G cA E av Pre) av := ⟨px_bl, fun U hU hW => ⟨rfl, hK.mv hW, by rw [hU]; exact hZ.mv hW.alike, by rw [hU]; exact h⟩⟩
theorem px_V {av : List Value} {Pre : Heap → Prop} {ci b : Nat} {fs : List Value} {q : vw_C} (hK : KN G cA s) (hZ : ZZ E s H) (ho : ob G ci b fs H) (hc : vwCl[ci]? = some q) (h : Pre H) : PreV s H q.1 b (PX G cA E (.ref b :: av) Pre) av := ⟨px_bl, va_recv hK.1 (ob_P ho) (q0 := 0) hc rfl, fun U hU hW => ⟨rfl, hK.mv hW, by rw [hU]; exact hZ.mv hW.alike, by rw [hU]; exact h⟩⟩
abbrev exN : List String := ["java/lang/RuntimeException", "java/lang/Exception"]
theorem px_thr (hexec : p.tables.exec = Jvm.exec) (hb : c.code = cc) (hl : l.stackTraces = false) {cls : String} {ik ic mc ms : Nat} {free : Addr → Prop} {Qc : Array Value → State → Outcome → State → Prop} {XC : String → State → State → Prop}
    (hown : s.vm.findClass RV = some m.cls) (hcls : Bundle.fit cls = true) (htA : ∀ w ∈ ALL, w.before args s = true) (hKN : KN G cA s) (hk : Cond.classLink RV ik cls ∈ ALL) (hi : Cond.initialized cls ∈ ALL)
    (hw1 : ∀ w ∈ (vx_at0 RV ic cls exN).filter goodWord, w ∈ ALL) (hw2 : ∀ w ∈ (vx_at0 RV ic cls exN).filter (fun w => !goodWord w), w ∈ gnws) (hw3 : ∀ w ∈ Cond.classLink RV ik cls :: Cond.initialized cls :: vx_at0 RV ic cls exN, vx_ot w = true)
    (hZ : ZZ E s s.heap) (hS : va_S (fun q => ¬ E q) s.heap H locs) (hsize : ls.size = c.maxLocals)
    (d0 : decode cc pc = .ok (.new ik, 3)) (d3 : decode cc (pc + 3) = .ok (.dup, 1)) (d4 : decode cc (pc + 4) = .ok (.invokespecial ic, 3)) (d7 : decode cc (pc + 7) = .ok (.athrow, 1))
    (htab : ∀ x ∈ c.exceptionTable.toList, False) (hRf : 5 < R.frames) (hRl : (rest.map fun v => v.category).sum + 81 ≤ R.locals) (hRc : cells + 1 ≤ R.cells) (hRs : slots + 6 ≤ R.slots) (hlocks : meth.locks = false)
    (hx : ∀ t : State, s.vm.Alike t.vm → H.size ≤ t.heap.size → (∀ q : Nat, q < H.size → t.heap[q]? = H[q]?) → XC cls s t)
    (hf : ∀ z ∈ locs, free z.base) (hc : cells + 1 ≤ mc) (hs : slots + 6 ≤ ms) :
    W p l e R s m args below meth c H locs cells slots (vx_MQ below Qc XC args s mc ms free) (F0 m pc ls rest) := by
  refine vx_throw0 hexec hb hl (own := RV) (cls := cls) (names := exN) (ik := ik) (ic := ic) (A := fun q => ¬ E q) hown hcls (by decide +kernel) (htA _ hk) (htA _ hi) (vx_hat (B := gnws) (fun w hw => htA w (hw1 w hw)) hw2 (fun w hw => va_Nw.use (gnws_t w hw) (hKN.2.1 w hw))) hw3 hZ.1 hZ.2 hS hsize d0 d3 d4 d7 (fun x h => (htab x h).elim) hRf hRl hRc hRs hlocks hx hf hc hs
end PXS
theorem tw35a : ∀ w ∈ (vx_at0 RV 35 "java/lang/IllegalArgumentException" exN).filter goodWord, w ∈ ALL := by decide +kernel
theorem tw35b : ∀ w ∈ (vx_at0 RV 35 "java/lang/IllegalArgumentException" exN).filter (fun w => !goodWord w), w ∈ gnws := by decide +kernel
theorem tw35c : ∀ w ∈ Cond.classLink RV 33 "java/lang/IllegalArgumentException" :: Cond.initialized "java/lang/IllegalArgumentException" :: vx_at0 RV 35 "java/lang/IllegalArgumentException" exN, vx_ot w = true := by decide +kernel
theorem tw42a : ∀ w ∈ (vx_at0 RV 42 "java/lang/UnsupportedOperationException" exN).filter goodWord, w ∈ ALL := by decide +kernel
theorem tw42b : ∀ w ∈ (vx_at0 RV 42 "java/lang/UnsupportedOperationException" exN).filter (fun w => !goodWord w), w ∈ gnws := by decide +kernel
theorem tw42c : ∀ w ∈ Cond.classLink RV 40 "java/lang/UnsupportedOperationException" :: Cond.initialized "java/lang/UnsupportedOperationException" :: vx_at0 RV 42 "java/lang/UnsupportedOperationException" exN, vx_ot w = true := by decide +kernel
theorem tw45a : ∀ w ∈ (vx_at0 RV 45 "java/lang/IllegalStateException" exN).filter goodWord, w ∈ ALL := by decide +kernel
theorem tw45b : ∀ w ∈ (vx_at0 RV 45 "java/lang/IllegalStateException" exN).filter (fun w => !goodWord w), w ∈ gnws := by decide +kernel
theorem tw45c : ∀ w ∈ Cond.classLink RV 43 "java/lang/IllegalStateException" :: Cond.initialized "java/lang/IllegalStateException" :: vx_at0 RV 45 "java/lang/IllegalStateException" exN, vx_ot w = true := by decide +kernel
theorem tw97a : ∀ w ∈ (vx_at0 RV 97 "java/util/NoSuchElementException" exN).filter goodWord, w ∈ ALL := by decide +kernel
theorem tw97b : ∀ w ∈ (vx_at0 RV 97 "java/util/NoSuchElementException" exN).filter (fun w => !goodWord w), w ∈ gnws := by decide +kernel
theorem tw97c : ∀ w ∈ Cond.classLink RV 95 "java/util/NoSuchElementException" :: Cond.initialized "java/util/NoSuchElementException" :: vx_at0 RV 97 "java/util/NoSuchElementException" exN, vx_ot w = true := by decide +kernel
