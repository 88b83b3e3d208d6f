theorem wfN_7 {n j : Nat} {a b c : Int32} (h : 7 ≤ j) (hw : wfN n j a b c = true) : inb n a = true := by
  match j, h, hw with
  | 7, _, hw => exact hw
  | 8, _, hw => exact (and_t hw).1
  | j + 9, _, hw => exact absurd hw (by show ¬ false = true; decide)
