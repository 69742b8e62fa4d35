theorem nm_by0 : ∀ j : Nat, fits .byte (.int ((fun _ => (0 : Int32)) j)) = true := fun _ => (by decide : fits .byte (.int (0 : Int32)) = true)
theorem nm_nb8 (x : Int32) : fits .byte (.int (vp_nar .byte x)) = true := by
  rw [vp_nar_byte]
  generalize x.toInt8 = y
  have h1 := Int8.toInt_lt y
  have h2 := Int8.le_toInt y
  have e : y.toInt32.toInt = y.toInt := Int8.toInt_toInt32 y
  have k1 : (-128 : Int32) ≤ y.toInt32 := by
    rw [Int32.le_iff_toInt_le, e]; exact Int.le_trans (by decide) h2
  have k2 : y.toInt32 ≤ (127 : Int32) := by
    rw [Int32.le_iff_toInt_le, e]; exact Int.le_of_lt_add_one (Int.lt_of_lt_of_le h1 (by decide))
  simp only [fits, k1, k2, decide_true, Bool.and_self]
theorem nm_by {f : Nat → Int32} {k : Nat} {x : Int32} (h : ∀ j, fits .byte (.int (f j)) = true) : ∀ j, fits .byte (.int (upd f k (vp_nar .byte x) j)) = true := by
  intro j
  unfold upd
  split
  · exact nm_nb8 x
  · exact h j
theorem nm_cpb {f g : Nat → Int32} {a b n : Nat} (hf : ∀ j, fits .byte (.int (f j)) = true) (hg : ∀ j, fits .byte (.int (g j)) = true) : ∀ j, fits .byte (.int (va_cpy f g a b n j)) = true := by
  intro j
  unfold va_cpy
  split
  · exact hf _
  · exact hg _
