theorem st_ext {f g : Nat → Int64} {p : Nat} (h : ∀ i, i < 64 → f i = g i) : ∀ n, st f p n = st g p n := by
  intro n
  induction n with
  | zero => rfl
  | succ n ih =>
    show st f p n ||| gf f (st f p n) 64 = st g p n ||| gf g (st g p n) 64
    rw [ih, gf_ext h]
theorem nw_ext {f g : Nat → Int64} {p : Nat} (h : ∀ i, i < 64 → f i = g i) : ∀ n, nw f p n = nw g p n := by
  intro n
  induction n with
  | zero => rfl
  | succ n ih =>
    show gf f (nw f p n) 64 = gf g (nw g p n) 64
    rw [ih, gf_ext h]
theorem polF_ext {n j : Nat} {a b c : Int32} {O P : Nat → Nat → Int64} (hn : n ≤ 50) (hw : wfN n j a b c = true) (h : ∀ i, i < n → ∀ k, k < 64 → O i k = P i k) {x : Nat} (hx : x < 64) : polF j (cl a) (cl b) (cl c) O x = polF j (cl a) (cl b) (cl c) P x := by
  have key : ∀ v : Int32, inb n v = true → cl v < n := fun v hv => by
    obtain ⟨y, hy, rfl⟩ := inb_t (by omega) hv
    rw [cl_nI (by omega)]
    exact hy
  match j, hw with
  | 0, _ => show (0 : Int64) = 0; exact rfl
  | 1, _ => show one x = one x; exact rfl
  | 2, _ => show (if vl x (cl a) = cl b then one x else 0) = (if vl x (cl a) = cl b then one x else 0); exact rfl
  | 3, _ => show one (setv x (cl a) (cl b)) = one (setv x (cl a) (cl b)); exact rfl
  | 4, hw =>
    obtain ⟨h1, h2⟩ := and_t hw
    show O (cl a) x ||| O (cl b) x = P (cl a) x ||| P (cl b) x
    rw [h _ (key a h1) x hx, h _ (key b h2) x hx]
  | 5, hw =>
    obtain ⟨h1, h2⟩ := and_t hw
    show gf (O (cl b)) (O (cl a) x) 64 = gf (P (cl b)) (P (cl a) x) 64
    rw [h _ (key a h1) x hx, gf_ext (h _ (key b h2))]
  | 6, hw =>
    show st (O (cl a)) x 64 = st (P (cl a)) x 64
    exact st_ext (h _ (key a hw)) 64
  | 7, hw =>
    show (if O (cl a) x = 0 then one x else 0) = (if P (cl a) x = 0 then one x else 0)
    rw [h _ (key a hw) x hx]
  | 8, hw =>
    obtain ⟨h1, h2⟩ := and_t hw
    obtain ⟨h2, h3⟩ := and_t h2
    show (if O (cl a) x = 0 then O (cl c) x else O (cl b) x) = (if P (cl a) x = 0 then P (cl c) x else P (cl b) x)
    rw [h _ (key a h1) x hx, h _ (key b h2) x hx, h _ (key c h3) x hx]
  | j + 9, hw => exact absurd hw (by show ¬ false = true; decide)
theorem eqO_sym {f g : Nat → Int64} : eqO f g = eqO g f := by
  apply bool_iff
  unfold eqO
  rw [eqN_iff, eqN_iff]
  exact ⟨fun h k hk => (h k hk).symm, fun h k hk => (h k hk).symm⟩
theorem isN_t {O : Nat → Nat → Int64} {n : Nat} (h : ∀ j, j < n → eqO (O j) (O n) = false) : isN O n = true := by
  unfold isN
  rw [decide_eq_true_eq]
  exact h
theorem isN_f {O : Nat → Nat → Int64} {n j : Nat} (hj : j < n) (h : eqO (O j) (O n) = true) : isN O n = false := by
  unfold isN
  rw [decide_eq_false_iff_not]
  intro q
  rw [q j hj] at h
  cases h
theorem dct_t {O : Nat → Nat → Int64} {n : Nat} (h : isN O n = true) : dct O n + 1 = dct O (n + 1) := by
  show _ = dct O n + (if isN O n = true then 1 else 0)
  rw [if_pos h]
theorem dct_f {O : Nat → Nat → Int64} {n : Nat} (h : isN O n = false) : dct O n = dct O (n + 1) := by
  show _ = dct O n + (if isN O n = true then 1 else 0)
  rw [if_neg (by rw [h]; decide)]
  rfl
def mP (G : va_G) (cA : Nat → ClassId) (mo ao af sa ea : Nat) (rel : Int32 → Int32 → Nat → (Nat → Int64) → (Nat → Int32) → Prop) : Array Value → State → Outcome → State → Prop := fun _ st o t =>
  ∃ (r th : Int32) (n' : Nat) (fo' : Nat → Int64) (fb' : Nat → Int32), o = .returned (some (.int r)) ∧ rel r th n' fo' fb' ∧ mV G cA mo ao af sa ea n' fo' fb' th t.heap ∧ t.heap.size = st.heap.size ∧ ∀ q, q ≠ mo → q ≠ ao → q ≠ af → q ≠ sa → q ≠ ea → t.heap[q]? = st.heap[q]?
def mY (mo ao af sa ea : Nat) : Nat → Prop := fun q => q = mo ∨ q = ao ∨ q = af ∨ q = sa ∨ q = ea
