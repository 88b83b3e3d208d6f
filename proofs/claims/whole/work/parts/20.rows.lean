def ob (G : va_G) (ci a : Nat) (fs : List Value) (H : Heap) : Prop := va_at G vwCl (a, .inr (ci, fs)) H
def al (cA : ClassId) (a n : Nat) (f : Nat → Int64) (H : Heap) : Prop := H[a]? = some (vp_cell cA (n, .inr (.inl f)))
def ai (cA : ClassId) (a n : Nat) (f : Nat → Int32) (H : Heap) : Prop := H[a]? = some (vp_cell cA (n, .inl f))
def aq (cA : ClassId) (a n : Nat) (f : Nat → Option Nat) (H : Heap) : Prop := H[a]? = some (vp_cell cA (n, .inr (.inr (.inr (.inr f)))))
theorem pw_P {G : va_G} {cl : List vw_C} {q : Nat × va_E} {H : Heap} (h : va_at G cl q H) : va_P G cl [q] H := fun k q' h' => by
  cases k with
  | zero => cases h'; exact h
  | succ k => simp at h'
theorem ob_P {G : va_G} {ci a : Nat} {fs : List Value} {H : Heap} (h : ob G ci a fs H) : va_P G vwCl [(a, .inr (ci, fs))] H := pw_P h
theorem ob_k {G : va_G} {ci a : Nat} {fs : List Value} {H H1 : Heap} (h : ob G ci a fs H) (hq : H1[a]? = H[a]?) : ob G ci a fs H1 := va_at.kept h hq
theorem al_k {cA : ClassId} {a n : Nat} {f : Nat → Int64} {H H1 : Heap} (h : al cA a n f H) (hq : H1[a]? = H[a]?) : al cA a n f H1 := hq.trans h
theorem ai_k {cA : ClassId} {a n : Nat} {f : Nat → Int32} {H H1 : Heap} (h : ai cA a n f H) (hq : H1[a]? = H[a]?) : ai cA a n f H1 := hq.trans h
theorem aq_k {cA : ClassId} {a n : Nat} {f : Nat → Option Nat} {H H1 : Heap} (h : aq cA a n f H) (hq : H1[a]? = H[a]?) : aq cA a n f H1 := hq.trans h
theorem ob_lt {G : va_G} {ci a : Nat} {fs : List Value} {H : Heap} (h : ob G ci a fs H) : a < H.size := va_at.lt h
theorem al_lt {cA : ClassId} {a n : Nat} {f : Nat → Int64} {H : Heap} (h : al cA a n f H) : a < H.size := (Array.getElem?_eq_some_iff.mp h).1
theorem ai_lt {cA : ClassId} {a n : Nat} {f : Nat → Int32} {H : Heap} (h : ai cA a n f H) : a < H.size := (Array.getElem?_eq_some_iff.mp h).1
theorem aq_lt {cA : ClassId} {a n : Nat} {f : Nat → Option Nat} {H : Heap} (h : aq cA a n f H) : a < H.size := (Array.getElem?_eq_some_iff.mp h).1
theorem al_c {cA : ClassId} {a n : Nat} {f g : Nat → Int64} {H : Heap} (h : al cA a n f H) (e : ∀ j, j < n → f j = g j) : al cA a n g H := by
  have : vp_cell cA (n, .inr (.inl f)) = vp_cell cA (n, .inr (.inl g)) := by
    show arrV cA n (fun j => .long (f j)) = arrV cA n (fun j => .long (g j))
    unfold arrV
    congr 1
    apply Array.ext
    · simp
    · intro i h1 h2
      simp only [Array.getElem_ofFn]
      rw [e i (by simpa using h1)]
  exact h.trans (by rw [this])
theorem ai_c {cA : ClassId} {a n : Nat} {f g : Nat → Int32} {H : Heap} (h : ai cA a n f H) (e : ∀ j, j < n → f j = g j) : ai cA a n g H := by
  have : vp_cell cA (n, .inl f) = vp_cell cA (n, .inl g) := by
    show arrV cA n (fun j => .int (f j)) = arrV cA n (fun j => .int (g j))
    unfold arrV
    congr 1
    apply Array.ext
    · simp
    · intro i h1 h2
      simp only [Array.getElem_ofFn]
      rw [e i (by simpa using h1)]
  exact h.trans (by rw [this])
theorem aq_c {cA : ClassId} {a n : Nat} {f g : Nat → Option Nat} {H : Heap} (h : aq cA a n f H) (e : ∀ j, j < n → f j = g j) : aq cA a n g H := by
  have : vp_cell cA (n, .inr (.inr (.inr (.inr f)))) = vp_cell cA (n, .inr (.inr (.inr (.inr g)))) := by
    show arrV cA n (fun j => va_rf (f j)) = arrV cA n (fun j => va_rf (g j))
    unfold arrV
    congr 1
    apply Array.ext
    · simp
    · intro i h1 h2
      simp only [Array.getElem_ofFn]
      rw [e i (by simpa using h1)]
  exact h.trans (by rw [this])
section PW
variable {p : Program} {l : Launch} {e : Env} {R : Room} {s : State} {m : MethodId} {args : Array Value} {below : List Frame} {meth : Method} {c : Code} {H : Heap} {locs : List Loc} {cells slots : Nat} {Q : State → Prop}
variable {cc : ByteArray} {pc : Nat} {ls : Array Slot} {rest : List Value} {G : va_G} {tys : List (ClassId × FieldType)} {cA : ClassId} {a n : Nat}
theorem pw_ti {x y : Int32} (h : x = y) (k : W p l e R s m args below meth c H locs cells slots Q (F0 m pc ls (.int y :: rest))) : W p l e R s m args below meth c H locs cells slots Q (F0 m pc ls (.int x :: rest)) := by subst h; exact k
theorem pw_tl {x y : Int64} (h : x = y) (k : W p l e R s m args below meth c H locs cells slots Q (F0 m pc ls (.long y :: rest))) : W p l e R s m args below meth c H locs cells slots Q (F0 m pc ls (.long x :: rest)) := by subst h; exact k
theorem pw_tq {x : Option Nat} {a : Nat} (h : x = some a) (k : W p l e R s m args below meth c H locs cells slots Q (F0 m pc ls (.ref a :: rest))) : W p l e R s m args below meth c H locs cells slots Q (F0 m pc ls (va_rf x :: rest)) := by subst h; exact k
theorem pw_tn {x : Option Nat} (h : x = none) (k : W p l e R s m args below meth c H locs cells slots Q (F0 m pc ls (.null :: rest))) : W p l e R s m args below meth c H locs cells slots Q (F0 m pc ls (va_rf x :: rest)) := by subst h; exact k
theorem pw_nm {g : JFrame} (k : ∀ (R' : Room) (Q' : State → Prop), R' = R → Q' = Q → W p l e R' s m args below meth c H locs cells slots Q' g) : W p l e R s m args below meth c H locs cells slots Q g := k R Q rfl rfl
theorem pw_lald (hexec : p.tables.exec = Jvm.exec) (hb : c.code = cc) (hK : va_K G vwCl tys s) {f : Nat → Int64} (h : al cA a n f H) (t0 : Nat) (ht : tys[t0]? = some (cA, .long)) {k : Nat} (hk : k < n) (hn : n < 2147483648) (hdg : decode cc pc = .ok (.laload, 1))
    (kk : W p l e R s m args below meth c H locs cells slots Q (F0 m (pc + 1) ls (.long (f k) :: rest))) : W p l e R s m args below meth c H locs cells slots Q (F0 m pc ls (.int (nI k) :: .ref a :: rest)) := by
  refine va_lald (D := G) (cl := vwCl) (ws := [(a, .inl (cA, n, .inr (.inl f)))]) hexec hb hK (pw_P h) 0 t0 rfl ht (vp_in_nI hk hn) hdg ?_
  rw [nI_clamp (by omega)]
  exact kk
theorem pw_iald (hexec : p.tables.exec = Jvm.exec) (hb : c.code = cc) (hK : va_K G vwCl tys s) {f : Nat → Int32} (h : ai cA a n f H) (t0 : Nat) (ht : tys[t0]? = some (cA, .int)) {k : Nat} (hk : k < n) (hn : n < 2147483648) (hdg : decode cc pc = .ok (.iaload, 1))
    (kk : W p l e R s m args below meth c H locs cells slots Q (F0 m (pc + 1) ls (.int (f k) :: rest))) : W p l e R s m args below meth c H locs cells slots Q (F0 m pc ls (.int (nI k) :: .ref a :: rest)) := by
  refine va_iald (D := G) (cl := vwCl) (ws := [(a, .inl (cA, n, .inl f))]) hexec hb hK (pw_P h) 0 t0 rfl ht (vp_in_nI hk hn) hdg ?_
  rw [nI_clamp (by omega)]
  exact kk
theorem pw_aald (hexec : p.tables.exec = Jvm.exec) (hb : c.code = cc) (hK : va_K G vwCl tys s) {f : Nat → Option Nat} (h : aq cA a n f H) (t0 : Nat) {C : String} (ht : tys[t0]? = some (cA, .object C)) {k : Nat} (hk : k < n) (hn : n < 2147483648) (hdg : decode cc pc = .ok (.aaload, 1))
    (kk : W p l e R s m args below meth c H locs cells slots Q (F0 m (pc + 1) ls (va_rf (f k) :: rest))) : W p l e R s m args below meth c H locs cells slots Q (F0 m pc ls (.int (nI k) :: .ref a :: rest)) := by
  refine va_aldq (D := G) (cl := vwCl) (ws := [(a, .inl (cA, n, .inr (.inr (.inr (.inr f)))))]) hexec hb hK (pw_P h) 0 t0 rfl ht (vp_in_nI hk hn) hdg ?_
  rw [nI_clamp (by omega)]
  exact kk
theorem pw_last (hexec : p.tables.exec = Jvm.exec) (hb : c.code = cc) (hK : va_K G vwCl tys s) {f : Nat → Int64} (h : al cA a n f H) (t0 : Nat) (ht : tys[t0]? = some (cA, .long)) {k : Nat} (hk : k < n) (hn : n < 2147483648) {x : Int64} {F : Nat → Prop} (hF : ∀ z ∈ locs, F z.base) (hFa : F a) (hdg : decode cc pc = .ok (.lastore, 1))
    (kk : ∀ (H1 : Heap) (locs1 : List Loc), al cA a n (vp_updL f k x) H1 → H1.size = H.size → (∀ q, q ≠ a → H1[q]? = H[q]?) → (∀ z ∈ locs1, F z.base) → W p l e R s m args below meth c H1 locs1 cells slots Q (F0 m (pc + 1) ls rest)) : W p l e R s m args below meth c H locs cells slots Q (F0 m pc ls (.long x :: .int (nI k) :: .ref a :: rest)) := by
  refine W.last hexec hb h ((hK.2 t0 _ ht).1 n (fun j => .long (f j))) (fun q => by cases q) (by show ¬ (_ ∨ (arrV _ _ _).slots.size ≤ _); rw [arrV_size]; exact vp_in_nI hk hn) rfl rfl hdg fun H1 e1 z oq => ?_
  refine kk H1 _ ?_ z oq (t_lc hF hFa)
  show H1[a]? = some (vp_cell _ _)
  rw [e1, nI_clamp (by omega)]
  rw [vp_cell_l, vp_cell_l, arrV_store]
  congr 2
  funext q
  by_cases hq : q = k
  · subst hq
    simp [updV, vp_updL]
  · simp [updV, vp_updL, hq]
theorem pw_iast (hexec : p.tables.exec = Jvm.exec) (hb : c.code = cc) (hK : va_K G vwCl tys s) {f : Nat → Int32} (h : ai cA a n f H) (t0 : Nat) (ht : tys[t0]? = some (cA, .int)) {k : Nat} (hk : k < n) (hn : n < 2147483648) {x : Int32} {F : Nat → Prop} (hF : ∀ z ∈ locs, F z.base) (hFa : F a) (hdg : decode cc pc = .ok (.iastore, 1))
    (kk : ∀ (H1 : Heap) (locs1 : List Loc), ai cA a n (upd f k x) H1 → H1.size = H.size → (∀ q, q ≠ a → H1[q]? = H[q]?) → (∀ z ∈ locs1, F z.base) → W p l e R s m args below meth c H1 locs1 cells slots Q (F0 m (pc + 1) ls rest)) : W p l e R s m args below meth c H locs cells slots Q (F0 m pc ls (.int x :: .int (nI k) :: .ref a :: rest)) := by
  refine W.iast hexec hb h ((hK.2 t0 _ ht).1 n (fun j => .int (f j))) (fun q => by cases q) (by show ¬ (_ ∨ (arrV _ _ _).slots.size ≤ _); rw [arrV_size]; exact vp_in_nI hk hn) rfl rfl hdg fun H1 e1 z oq => ?_
  refine kk H1 _ ?_ z oq (t_lc hF hFa)
  show H1[a]? = some (vp_cell _ _)
  rw [e1, nI_clamp (by omega)]
  rw [vp_cell_i, vp_cell_i, arrV_store]
  congr 2
  funext q
  by_cases hq : q = k
  · subst hq
    simp [updV, upd]
  · simp [updV, upd, hq]
theorem pw_put (hexec : p.tables.exec = Jvm.exec) (hb : c.code = cc) {own ref C : String} {T : u_T} {N ci index : Nat} {Ts : List Cond} (hts : ∀ w ∈ Ts, w.before args s = true) (hin : ∀ w ∈ u_ws C T N, w ∈ Ts) (ty0 : Nat → FieldType) (hty : ∀ k, k < N → parseFieldDescriptor (T k).2.2.1 = some (ty0 k)) (hnm : ∀ a, a < N → ∀ b, b < N → a ≠ b → (T a).2.1 ≠ (T b).2.1) (hown : s.vm.findClass own = some m.cls) (hK : va_K G vwCl tys s) {fs : List Value} (h : ob G ci a fs H) (hc : vwCl[ci]? = some (C, T, N)) (k : Nat) (hk : k < N) (hlink : (Cond.fieldLink own index ref (T k).2.1 (T k).2.2.1).before args s = true) (hsame : ∀ x, s.fieldFound? (T k).1 (T k).2.1 (T k).2.2.1 = some x → s.fieldFound? ref (T k).2.1 (T k).2.2.1 = some x) (hfin : (T k).2.2.2 = false) {ty : FieldType} {v : Value} (hd : parseFieldDescriptor (T k).2.2.1 = some ty) (hn : narrow ty v = v) (hfit : fits ty v = true) (hl : k < fs.length)
    {F : Nat → Prop} (hF : ∀ z ∈ locs, F z.base) (hFa : F a) (hdg : decode cc pc = .ok (.putfield index, 3)) (kk : ∀ (H1 : Heap) (locs1 : List Loc), ob G ci a (fs.set k v) H1 → H1.size = H.size → (∀ q, q ≠ a → H1[q]? = H[q]?) → (∀ z ∈ locs1, F z.base) → W p l e R s m args below meth c H1 locs1 cells slots Q (F0 m (pc + 3) ls rest)) : W p l e R s m args below meth c H locs cells slots Q (F0 m pc ls (v :: .ref a :: rest)) := by
  have hap := va_apart (own := own) hts hin ty0 hty hnm hK hc
  obtain ⟨r, h1, cell, q1, q2, q3, q4⟩ := h
  have hr : r = (C, T, N) := Option.some.inj (h1.symm.trans hc)
  subst hr
  obtain ⟨hS, hfc, kC, hkC, hkind⟩ := hK.1 ci _ hc
  obtain ⟨cf, kf, fi, f, hi, hsl⟩ := hS k hk
  have hlay := hts _ (hin _ (u_in_lay hk))
  unfold u_lay at hlay
  rw [if_neg (by rw [hfin]; decide)] at hlay
  have hst := (u_facts hfc hkC (u_lays hts hin hk) hi).1
  have h6 := u_store hfc hkC hkind hlay hi hd hn hfit
  refine W.putK hexec hb (f := f) ⟨hown, hlink, ⟨_, _, _, hsame _ hi⟩, hst⟩ (by rw [q2]; exact h6) q1 q3 (by rw [hsl]; exact k2_hasslot (q4 k hk)) rfl rfl hdg fun H' e1 e2 e3 => ?_
  rw [hsl] at e1 ⊢
  exact kk H' _ ⟨_, hc, t_OB.to (V := updV (vp_V fs) k v) ⟨_, e1, q2, q3, t_set q4 hap hk v⟩ (fun j _ => vp_updV_set hl v j)⟩ e2 e3 (t_lc hF hFa)
theorem pw_new (hexec : p.tables.exec = Jvm.exec) (hb : c.code = cc) {own C : String} {T : u_T} {N ci index : Nat} {Ts : List Cond} (hts : ∀ w ∈ Ts, w.before args s = true) (hin : ∀ w ∈ u_ws C T N, w ∈ Ts) (ty : Nat → FieldType) (hty : ∀ k, k < N → parseFieldDescriptor (T k).2.2.1 = some (ty k)) (hown : s.vm.findClass own = some m.cls) (hcl : (Cond.classLink own index C).before args s = true) (hinst : (Cond.instantiable C N).before args s = true) (hini : (Cond.initialized C).before args s = true)
    (hK : va_K G vwCl tys s) (hc : vwCl[ci]? = some (C, T, N)) {fs : List Value} (hfs : ∀ j, j < N → defaultValue (ty j) = vp_V fs j) (hcells : cells + 1 ≤ R.cells) (hslots : slots + N ≤ R.slots) (hdg : decode cc pc = .ok (.new index, 3))
    (kk : ∀ (H1 : Heap), ob G ci H.size fs H1 → H1.size = H.size + 1 → (∀ q, q < H.size → H1[q]? = H[q]?) →
      W p l e R s m args below meth c H1 locs (cells + 1) (slots + N) Q (F0 m (pc + 3) ls (.ref H.size :: rest))) : W p l e R s m args below meth c H locs cells slots Q (F0 m pc ls rest) := by
  have hKn := hK.1 ci _ hc
  refine W.newcK hexec hb hown hcl hinst hini rfl hdg hcells hslots hKn.2.1 rfl fun H1 kC hkC e1 z1 o1 => ?_
  exact kk H1 ⟨_, hc, (u_born ty hts hin hKn hkC e1 hty).to hfs⟩ z1 o1
theorem pw_newl (hexec : p.tables.exec = Jvm.exec) (hb : c.code = cc) (harr : (Cond.arrayClass .long).before args s = true) (hK : va_K G vwCl tys s) (t0 : Nat) (ht : tys[t0]? = some (cA, .long)) {N : Nat} (hN : N < 67108864) (hcells : cells + 1 ≤ R.cells) (hslots : slots + N ≤ R.slots) (hdg : decode cc pc = .ok (.newarray .long, 2))
    (kk : ∀ (H1 : Heap), al cA H.size N (fun _ => 0) H1 → H1.size = H.size + 1 → (∀ q, q < H.size → H1[q]? = H[q]?) →
      W p l e R s m args below meth c H1 locs (cells + 1) (slots + N) Q (F0 m (pc + 2) ls (.ref H.size :: rest))) : W p l e R s m args below meth c H locs cells slots Q (F0 m pc ls (.int (nI N) :: rest)) := by
  refine va_newaK (atype := .long) hexec hb harr rfl hdg rfl (nI_pos (by omega)) (nI_clamp (by omega)) (by show N * 8 ≤ 536870912; omega) hcells hslots rfl fun H1 cB e1 z1 o1 hAr hNm => ?_
  have hc : cB = cA := Option.some.inj (hNm.symm.trans (hK.2 t0 _ ht).2)
  subst hc
  exact kk H1 e1 z1 o1
theorem pw_newi (hexec : p.tables.exec = Jvm.exec) (hb : c.code = cc) (harr : (Cond.arrayClass .int).before args s = true) (hK : va_K G vwCl tys s) (t0 : Nat) (ht : tys[t0]? = some (cA, .int)) {N : Nat} (hN : N < 67108864) (hcells : cells + 1 ≤ R.cells) (hslots : slots + N ≤ R.slots) (hdg : decode cc pc = .ok (.newarray .int, 2))
    (kk : ∀ (H1 : Heap), ai cA H.size N (fun _ => 0) H1 → H1.size = H.size + 1 → (∀ q, q < H.size → H1[q]? = H[q]?) →
      W p l e R s m args below meth c H1 locs (cells + 1) (slots + N) Q (F0 m (pc + 2) ls (.ref H.size :: rest))) : W p l e R s m args below meth c H locs cells slots Q (F0 m pc ls (.int (nI N) :: rest)) := by
  refine va_newaK (atype := .int) hexec hb harr rfl hdg rfl (nI_pos (by omega)) (nI_clamp (by omega)) (by show N * 4 ≤ 536870912; omega) hcells hslots rfl fun H1 cB e1 z1 o1 hAr hNm => ?_
  have hc : cB = cA := Option.some.inj (hNm.symm.trans (hK.2 t0 _ ht).2)
  subst hc
  exact kk H1 e1 z1 o1
theorem pw_call {st0 : List Value} {mc ms : Nat} {Qa : State → Outcome → State → Prop} {free F : Addr → Prop} (hr : va_Run p l e R s m args below meth c H locs cells slots mc ms (F0 m pc ls st0) rest Qa free) (hF : ∀ z ∈ locs, F z.base) (hf : ∀ q, free q → F q)
    (kk : ∀ (v : Option Value) (st₀ t : State) (locs1 : List Loc), st₀.heap = H → s.vm.Alike t.vm → (∀ z ∈ locs1, F z.base) → Qa st₀ (.returned v) t → W p l e R s m args below meth c t.heap locs1 (cells + mc) (slots + ms) Q (F0 m (pc + 3) ls (v.toList ++ rest))) : W p l e R s m args below meth c H locs cells slots Q (F0 m pc ls st0) := by
  intro T hT X
  obtain ⟨v, st₀, t, T', L, h0, X', hL, e1, e2, hq, st⟩ := hr T hT X
  obtain ⟨t2, a1, b1⟩ := kk v st₀ t (locs ++ L) h0 (by rw [← e2]; exact X'.warmed.alike) (fun z hz => (List.mem_append.mp hz).elim (hF z) (fun h => hf _ (hL z h))) hq T' e1 X'
  exact ⟨t2, st t2 a1, b1⟩
theorem px_call {st0 : List Value} {mc ms : Nat} {Qa : State → Outcome → State → Prop} {XC : String → State → State → Prop} {free F : Addr → Prop} (hr : vx_Run p l e R s m args below meth c H locs cells slots mc ms (F0 m pc ls st0) rest Qa XC free) (hF : ∀ z ∈ locs, F z.base) (hf : ∀ q, free q → F q)
    (kx : ∀ (E : String) (ce : Cell) (q9 : Addr) (st₀ t : State) (locs1 : List Loc), st₀.heap = H → s.vm.Alike t.vm → (∀ z ∈ locs1, F z.base) → XC E st₀ t → t.heap[q9]? = some ce → ce.vm = .none → s.vm.findClass E = some ce.cls → vx_W p l e R s m args below meth c t.heap locs1 (cells + mc) (slots + ms) Q (F0 m pc ls rest) q9)
    (kk : ∀ (v : Option Value) (st₀ t : State) (locs1 : List Loc), st₀.heap = H → s.vm.Alike t.vm → (∀ z ∈ locs1, F z.base) → Qa st₀ (.returned v) t → W p l e R s m args below meth c t.heap locs1 (cells + mc) (slots + ms) Q (F0 m (pc + 3) ls (v.toList ++ rest))) : W p l e R s m args below meth c H locs cells slots Q (F0 m pc ls st0) := by
  intro T hT X
  rcases hr T hT X with ⟨v, st₀, t, T', L, h0, X', hL, e1, e2, hq, st⟩ | ⟨q, st₀, t, T', L, E, ce, h0, X', hL, e1, e2, hq, hce, hcv, hcl, st⟩
  · obtain ⟨t2, a1, b1⟩ := kk v st₀ t (locs ++ L) h0 (by rw [← e2]; exact X'.warmed.alike) (fun z hz => (List.mem_append.mp hz).elim (hF z) (fun h => hf _ (hL z h))) hq T' e1 X'
    exact ⟨t2, st t2 a1, b1⟩
  · obtain ⟨t2, a1, b1⟩ := kx E ce q st₀ t (locs ++ L) h0 (by rw [← e2]; exact X'.warmed.alike) (fun z hz => (List.mem_append.mp hz).elim (hF z) (fun h => hf _ (hL z h))) hq hce hcv hcl T' e1 X'
    exact ⟨t2, st.trans a1, b1⟩
end PW
def gnws : List Cond := [.methodLinkNest RQ 22 yV_has RV, .methodLinkNest RQ 30 yV_valueOf RV, .methodLinkNest RT 39 yV_weightOf RV, .castable "java/lang/IllegalArgumentException" "java/lang/IllegalArgumentException", .castable "java/lang/UnsupportedOperationException" "java/lang/UnsupportedOperationException", .castable "java/lang/IllegalStateException" "java/lang/IllegalStateException", .castable "java/util/NoSuchElementException" "java/util/NoSuchElementException", .declares ⟨"java/lang/RuntimeException", "<init>", "()V"⟩, .declares ⟨"java/lang/Exception", "<init>", "()V"⟩, .declares ⟨"java/lang/Throwable", "<init>", "()V"⟩]
theorem gnws_t : ∀ w ∈ gnws, w.onTables = true := by decide +kernel
theorem gnws_w {s U : State} (hW : s.WarmedH U.vm) : ∀ w ∈ gnws, va_Nw w s → va_Nw w U :=
  List.forall_mem_cons.mpr ⟨va_Nw.warmM hW, List.forall_mem_cons.mpr ⟨va_Nw.warmM hW, List.forall_mem_cons.mpr ⟨va_Nw.warmM hW, List.forall_mem_cons.mpr ⟨va_Nw.warmC hW, List.forall_mem_cons.mpr ⟨va_Nw.warmC hW, List.forall_mem_cons.mpr ⟨va_Nw.warmC hW, List.forall_mem_cons.mpr ⟨va_Nw.warmC hW, List.forall_mem_cons.mpr ⟨va_Nw.warmD hW, List.forall_mem_cons.mpr ⟨va_Nw.warmD hW, List.forall_mem_cons.mpr ⟨va_Nw.warmD hW, fun _ h => absurd h List.not_mem_nil⟩⟩⟩⟩⟩⟩⟩⟩⟩⟩
def tyl (cA : Nat → ClassId) : List (ClassId × FieldType) := [(cA 0, .long), (cA 1, .int), (cA 2, .object RP), (cA 3, .boolean)]
def KN (G : va_G) (cA : Nat → ClassId) (U : State) : Prop := va_K G vwCl (tyl cA) U ∧ (∀ w ∈ gnws, va_Nw w U) ∧ va_AO RP U
theorem KN.n {G : va_G} {cA : Nat → ClassId} {U : State} {w : Cond} (h : KN G cA U) (hw : w ∈ gnws) : va_Nw w U := h.2.1 w hw
theorem KN.mv {G : va_G} {cA : Nat → ClassId} {s U : State} (hW : s.WarmedH U.vm) (h : KN G cA s) : KN G cA U := ⟨va_K.moved hW.alike h.1, fun w hw => gnws_w hW w hw (h.2.1 w hw), va_AO.moved hW.alike h.2.2⟩
theorem KN.cl {G : va_G} {cA : Nat → ClassId} {U : State} {g : JFrame} {mk : MethodId} {a : Array Value} (h : KN G cA U) : KN G cA (U.calling g mk a) := ⟨va_K.moved (u := U) (U := U.calling g mk a) (Vm.Alike.refl U.vm) h.1, fun w hw => va_Nw.same (u := U) (U := U.calling g mk a) (gnws_t w hw) rfl (h.2.1 w hw), va_AO.moved (u := U) (U := U.calling g mk a) (Vm.Alike.refl U.vm) h.2.2⟩
theorem gd_m {y : MethodName} {c : ByteArray} {ml : Nat} {r : Option FieldType} (h4 : Cond.code y c ml r ∈ ALL) : GoodIn ALL (.code y c ml r :: ALL) := fun w h => (List.mem_cons.mp h).elim (fun e => ⟨by rw [e]; exact h4, by rw [e]; exact good_of_word (ALL_g _ h4)⟩) (fun h => ⟨h, good_of_word (ALL_g _ h)⟩)
theorem gd_S {own : String} {idx : Nat} {y : MethodName} {c : ByteArray} {ml : Nat} {r : Option FieldType} (h1 : Cond.methodLink own idx y ∈ ALL) (h2 : Cond.static y ∈ ALL) (h3 : Cond.initialized y.cls ∈ ALL) (h4 : Cond.code y c ml r ∈ ALL) : GoodIn ALL (va_wsS own idx y (.code y c ml r :: ALL)) := by
  intro w h
  unfold va_wsS at h
  rcases List.mem_append.mp h with h | h
  · simp only [List.mem_cons, List.not_mem_nil, or_false] at h
    rcases h with rfl | rfl | rfl
    · exact ⟨h1, good_of_word (ALL_g _ h1)⟩
    · exact ⟨h2, good_of_word (ALL_g _ h2)⟩
    · exact ⟨h3, good_of_word (ALL_g _ h3)⟩
  · exact gd_m h4 w h
theorem gd_V {own C : String} {idx : Nat} {y : MethodName} {c : ByteArray} {ml : Nat} {r : Option FieldType} (h1 : Cond.methodLink own idx y ∈ ALL) (h2 : Cond.instanceMethod y ∈ ALL) (h3 : Cond.selects C y y ∈ ALL) (h5 : Cond.initialized C ∈ ALL) (h4 : Cond.code y c ml r ∈ ALL) : GoodIn ALL (wsV own idx C y (.code y c ml r :: ALL)) := by
  intro w h
  unfold wsV at h
  rcases List.mem_append.mp h with h | h
  · simp only [List.mem_cons, List.not_mem_nil, or_false] at h
    rcases h with rfl | rfl | rfl | rfl
    · exact ⟨h1, good_of_word (ALL_g _ h1)⟩
    · exact ⟨h2, good_of_word (ALL_g _ h2)⟩
    · exact ⟨h3, good_of_word (ALL_g _ h3)⟩
    · exact ⟨h5, good_of_word (ALL_g _ h5)⟩
  · exact gd_m h4 w h
def PH (G : va_G) (cA : Nat → ClassId) (av : List Value) (Pre : Heap → Prop) : Array Value → State → Prop := va_Pc av (fun U => KN G cA U ∧ Pre U.heap)
section PK
variable {p : Program} {l : Launch} {e : Env} {R : Room} {s : State} {m : MethodId} {args : Array Value} {below : List Frame} {meth : Method} {c : Code} {H : Heap} {locs : List Loc} {cells slots : Nat} {Q : State → Prop}
variable {cc : ByteArray} {pc : Nat} {ls : Array Slot} {rest : List Value} {G : va_G} {cA : Nat → ClassId}
theorem pw_bl {av : List Value} {Pre : Heap → Prop} : FrameBlind (PH G cA av Pre) := fun a U g mk q => ⟨q.1, q.2.1.cl, q.2.2⟩
theorem pw_S {av : List Value} {Pre : Heap → Prop} (hK : KN G cA s) (h : Pre H) : PreS s H (PH G cA av Pre) av := ⟨pw_bl, fun U hU hW => ⟨rfl, hK.mv hW, by rw [hU]; exact h⟩⟩
theorem pw_V {av : List Value} {Pre : Heap → Prop} {ci b : Nat} {fs : List Value} {q : vw_C} (hK : KN G cA s) (ho : ob G ci b fs H) (hc : vwCl[ci]? = some q) (h : Pre H) : PreV s H q.1 b (PH G cA (.ref b :: av) Pre) av := ⟨pw_bl, va_recv hK.1 (ob_P ho) (q0 := 0) hc rfl, fun U hU hW => ⟨rfl, hK.mv hW, by rw [hU]; exact h⟩⟩
theorem pw_entry {vs : List Value} {n : Nat} (ha : args = vs.toArray) (h : (lg_sl vs).length ≤ n) (k : ∀ ls : Array Slot, lv_has ls n (lv_args 0 vs) → W p l e R s m args below meth c H locs cells slots Q (F0 m 0 ls [])) : W p l e R s m args below meth c H locs cells slots Q (entryFrame m args n) := by
  have e1 : entryFrame m args n = F0 m 0 ((lg_sl vs ++ List.replicate (n - (lg_sl vs).length) Slot.unset).toArray) [] := by rw [ha]; exact lg_entry_eq m vs n
  rw [e1]
  exact k _ (lv_entry vs h)
end PK
