section PZ
variable {p : Program} {l : Launch} {e : Env} {R : Room} {s : State} {m : MethodId} {args : Array Value} {below : List Frame} {meth : Method} {c : Code} {H : Heap} {locs : List Loc} {cells slots : Nat} {Q : State → Prop}
variable {cc : ByteArray} {pc : Nat} {ls : Array Slot} {rest : List Value} {G : va_G} {tys : List (ClassId × FieldType)} {cA : ClassId} {a n : Nat}
theorem pw_zald (hexec : p.tables.exec = Jvm.exec) (hb : c.code = cc) (hK : va_K G vwCl tys s) {f : Nat → Int32} (h : ai cA a n f H) (t0 : Nat) (ht : tys[t0]? = some (cA, .boolean)) {k : Nat} (hk : k < n) (hn : n < 2147483648) (hdg : decode cc pc = .ok (.baload, 1))
    (kk : W p l e R s m args below meth c H locs cells slots Q (F0 m (pc + 1) ls (.int (f k) :: rest))) : W p l e R s m args below meth c H locs cells slots Q (F0 m pc ls (.int (nI k) :: .ref a :: rest)) := by
  refine va_zald (D := G) (cl := vwCl) (ws := [(a, .inl (cA, n, .inl f))]) hexec hb hK (pw_P h) 0 t0 rfl ht (vp_in_nI hk hn) hdg ?_
  rw [nI_clamp (by omega)]
  exact kk
theorem pw_zast (hexec : p.tables.exec = Jvm.exec) (hb : c.code = cc) (hK : va_K G vwCl tys s) {f : Nat → Int32} (h : ai cA a n f H) (t0 : Nat) (ht : tys[t0]? = some (cA, .boolean)) {k : Nat} (hk : k < n) (hn : n < 2147483648) {x : Int32} (hx : narrow .boolean (.int x) = .int x) {F : Nat → Prop} (hF : ∀ z ∈ locs, F z.base) (hFa : F a) (hdg : decode cc pc = .ok (.bastore, 1))
    (kk : ∀ (H1 : Heap) (locs1 : List Loc), ai cA a n (upd f k x) H1 → H1.size = H.size → (∀ q, q ≠ a → H1[q]? = H[q]?) → (∀ z ∈ locs1, F z.base) → W p l e R s m args below meth c H1 locs1 cells slots Q (F0 m (pc + 1) ls rest)) : W p l e R s m args below meth c H locs cells slots Q (F0 m pc ls (.int x :: .int (nI k) :: .ref a :: rest)) := by
  refine W.zast hexec hb h ((hK.2 t0 _ ht).1 n (fun j => .int (f j))) (fun q => by cases q) (by show ¬ (_ ∨ (arrV _ _ _).slots.size ≤ _); rw [arrV_size]; exact vp_in_nI hk hn) rfl rfl hdg fun H1 e1 z oq => ?_
  refine kk H1 _ ?_ z oq (t_lc hF hFa)
  show H1[a]? = some (vp_cell _ _)
  rw [e1, nI_clamp (by omega), hx]
  rw [vp_cell_i, vp_cell_i, arrV_store]
  congr 2
  funext q
  by_cases hq : q = k
  · subst hq
    simp [updV, upd]
  · simp [updV, upd, hq]
end PZ
abbrev mF (th : Int32) (ao af n : Nat) (lw hg : Int64) (sa ea : Nat) : List Value := [.int th, .ref ao, .ref af, .int (nI n), .long lw, .long hg, .ref sa, .ref ea]
def mA (mo ao af sa ea : Nat) : Prop := ao ≠ mo ∧ af ≠ mo ∧ sa ≠ mo ∧ ea ≠ mo ∧ ao ≠ sa ∧ ao ≠ ea ∧ af ≠ sa ∧ af ≠ ea ∧ sa ≠ ea ∧ ao ≠ af
def mvS (G : va_G) (cA : Nat → ClassId) (mo ao af sa ea n : Nat) (fo : Nat → Int64) (fb : Nat → Int32) (th : Int32) (lw hg : Int64) (fS fE : Nat → Int32) (H : Heap) : Prop :=
  ob G 4 mo (mF th ao af n lw hg sa ea) H ∧ al (cA 0) ao 3200 fo H ∧ ai (cA 3) af 50 fb H ∧ ai (cA 1) sa 64 fS H ∧ ai (cA 1) ea 64 fE H
def mV (G : va_G) (cA : Nat → ClassId) (mo ao af sa ea n : Nat) (fo : Nat → Int64) (fb : Nat → Int32) (th : Int32) (H : Heap) : Prop := ∃ (lw hg : Int64) (fS fE : Nat → Int32), mvS G cA mo ao af sa ea n fo fb th lw hg fS fE H
def mI (G : va_G) (cA : Nat → ClassId) (mo ao af sa ea n : Nat) (fo : Nat → Int64) (fb : Nat → Int32) (rel : Int32 → Int32 → Prop) : Array Value → State → Outcome → State → Prop := fun _ st o t =>
  ∃ (r th : Int32), o = .returned (some (.int r)) ∧ rel r th ∧ mV G cA mo ao af sa ea n fo fb th t.heap ∧ t.heap.size = st.heap.size ∧ ∀ q, q ≠ mo → q ≠ sa → q ≠ ea → t.heap[q]? = st.heap[q]?
def mL (G : va_G) (cA : Nat → ClassId) (mo ao af sa ea n : Nat) (fo : Nat → Int64) (fb : Nat → Int32) (rel : Int64 → Int32 → Prop) : Array Value → State → Outcome → State → Prop := fun _ st o t =>
  ∃ (r : Int64) (th : Int32), o = .returned (some (.long r)) ∧ rel r th ∧ mV G cA mo ao af sa ea n fo fb th t.heap ∧ t.heap.size = st.heap.size ∧ ∀ q, q ≠ mo → q ≠ sa → q ≠ ea → t.heap[q]? = st.heap[q]?
def mW (mo sa ea : Nat) : Nat → Prop := fun q => q = mo ∨ q = sa ∨ q = ea
