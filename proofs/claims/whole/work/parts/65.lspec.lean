def ncs : List (String × String) := [("java/lang/IllegalArgumentException", "java/lang/UnsupportedOperationException"), ("java/lang/IllegalArgumentException", "java/lang/IllegalStateException"), ("java/lang/IllegalArgumentException", "java/util/NoSuchElementException"), ("java/lang/UnsupportedOperationException", "java/lang/IllegalArgumentException"), ("java/lang/UnsupportedOperationException", "java/lang/IllegalStateException"), ("java/lang/UnsupportedOperationException", "java/util/NoSuchElementException"), ("java/lang/IllegalStateException", "java/lang/IllegalArgumentException"), ("java/lang/IllegalStateException", "java/lang/UnsupportedOperationException"), ("java/lang/IllegalStateException", "java/util/NoSuchElementException"), ("java/util/NoSuchElementException", "java/lang/IllegalArgumentException"), ("java/util/NoSuchElementException", "java/lang/UnsupportedOperationException"), ("java/util/NoSuchElementException", "java/lang/IllegalStateException")]
def NC (U : State) : Prop := ∀ q ∈ ncs, va_Nc q.1 q.2 U
theorem NC.mv {s U : State} (hvm : s.vm.Alike U.vm) (h : NC s) : NC U := fun q hq => va_Nc.moved hvm (h q hq)
theorem NC.n {U : State} {a b : String} (h : NC U) (hq : (a, b) ∈ ncs) : va_Nc a b U := h (a, b) hq
def PN (G : va_G) (cA : Nat → ClassId) (E : Nat → Prop) (av : List Value) (Pre : Heap → Prop) : Array Value → State → Prop := va_Pc av (fun U => KN G cA U ∧ ZZ E U U.heap ∧ NC U ∧ Pre U.heap)
section PNS
variable {s : State} {H : Heap} {G : va_G} {cA : Nat → ClassId} {E : Nat → Prop}
theorem pn_bl {av : List Value} {Pre : Heap → Prop} : FrameBlind (PN G cA E av Pre) := fun a U g mk q => ⟨q.1, q.2.1.cl, ZZ.mv (u := U) (U := U.calling g mk a) (Vm.Alike.refl U.vm) q.2.2.1, NC.mv (s := U) (U := U.calling g mk a) (Vm.Alike.refl U.vm) q.2.2.2.1, q.2.2.2.2⟩
theorem pn_S {av : List Value} {Pre : Heap → Prop} (hK : KN G cA s) (hZ : ZZ E s H) (hN : NC s) (h : Pre H) : PreS s H (PN G cA E av Pre) av := ⟨pn_bl, fun U hU hW => ⟨rfl, hK.mv hW, by rw [hU]; exact hZ.mv hW.alike, hN.mv hW.alike, by rw [hU]; exact h⟩⟩
end PNS
theorem KN.cast {G : va_G} {cA : Nat → ClassId} {s : State} {args : Array Value} {w : Cond} (h : KN G cA s) (hw : w ∈ gnws) : w.before args s = true := va_Nw.use (gnws_t w hw) (h.2.1 w hw)
def LQ (G : va_G) (cA : Nat → ClassId) (E : Nat → Prop) (ou x : Nat) (rel : Nat → Int64 → Nat → (Nat → Bool) → (Nat → Nat → Int64) → Prop) : Array Value → State → Outcome → State → Prop := fun _ st o t =>
  ∃ (k n2 : Nat) (F2 : Nat → Bool) (O2 : Nat → Nat → Int64) (g : Nat → Int64), o = .returned (some (.int (nI k))) ∧ rel k (g 0) n2 F2 O2 ∧ PVE G cA E x n2 F2 O2 t.heap ∧ al (cA 0) ou 1 g t.heap ∧ st.heap.size ≤ t.heap.size ∧ ∀ q, q < st.heap.size → E q → q ≠ ou → t.heap[q]? = st.heap[q]?
def lk0 (n : Nat) (F : Nat → Bool) (O : Nat → Nat → Int64) (rel0 : Nat → Int64 → Prop) : Nat → Int64 → Nat → (Nat → Bool) → (Nat → Nat → Int64) → Prop := fun k v n2 F2 O2 => rel0 k v ∧ n2 = n ∧ F2 = F ∧ O2 = O
theorem LQ_x {G : va_G} {cA : Nat → ClassId} {E : Nat → Prop} {ou x n k : Nat} {F : Nat → Bool} {O : Nat → Nat → Int64} {rel : Nat → Int64 → Nat → (Nat → Bool) → (Nat → Nat → Int64) → Prop} {s st9 t9 t : State} {a : Array Value} {fu : Nat → Int64} (h0 : st9.heap = s.heap) (hP : PVE G cA E x n F O t9.heap) (hF : va_F (fun q => ¬ E q) st9 t9) (hou : al (cA 0) ou 1 fu s.heap) (hEo : E ou) (hr : rel k (fu 0) n F O) (ht : t.heap = t9.heap) : LQ G cA E ou x rel a s (.returned (some (.int (nI k)))) t := by
  obtain ⟨f1, f2⟩ := hF
  rw [h0] at f1 f2
  refine ⟨k, n, F, O, fu, rfl, hr, by rw [ht]; exact hP, ?_, by rw [ht]; exact f1, fun q h1 h2 _ => by rw [ht]; exact f2 q h1 (fun h => h h2)⟩
  rw [ht]
  exact al_k hou (f2 ou (al_lt hou) (fun h => h hEo))
theorem LQ_r {G : va_G} {cA : Nat → ClassId} {E : Nat → Prop} {ou x n : Nat} {F : Nat → Bool} {O : Nat → Nat → Int64} {rel : Nat → Int64 → Nat → (Nat → Bool) → (Nat → Nat → Int64) → Prop} {s t : State} {a : Array Value} {fu : Nat → Int64} {H H6 : Heap} {v : Int64} (hP : PVE G cA E x n F O H) (f1 : s.heap.size ≤ H.size) (f2 : ∀ q, q < s.heap.size → E q → H[q]? = s.heap[q]?) (hEo : E ou) (hou : al (cA 0) ou 1 (vp_updL fu 0 v) H6) (hz : H6.size = H.size) (hk : ∀ q, q ≠ ou → H6[q]? = H[q]?) (hr : rel 0 v n F O) (ht : t.heap = H6) : LQ G cA E ou x rel a s (.returned (some (.int (nI 0)))) t := by
  obtain ⟨pa, rs, lo, hi, po, oc, tb, tc, hS, hN⟩ := hP
  refine ⟨0, n, F, O, _, rfl, ?_, ⟨pa, rs, lo, hi, po, oc, tb, tc, ?_, hN⟩, by rw [ht]; exact hou, by rw [ht]; omega, fun q h1 h2 h3 => by rw [ht, hk q h3]; exact f2 q h1 h2⟩
  · rw [pk_uLs]
    exact hr
  · rw [ht]
    exact pvS_E hS hN (fun q h1 h2 => hk q (fun e => h2 (e ▸ hEo)))
