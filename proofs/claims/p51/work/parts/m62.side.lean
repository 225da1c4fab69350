def kSide (s : Int32) : Int32 := if 0 < s then 1 else if s < 0 then -1 else 0
theorem i_two (f : Int32) : 2 * f = f + f := by rw [show (2 : Int32) = 1 + 1 from rfl, Int32.add_mul, Int32.one_mul]
section SIDE
variable {S : St}
theorem A_side (s : Int32) : L_X11_sideOf s S = some (kSide s) := by
  unfold L_X11_sideOf b_X11_sideOf_0
  simp only [b_J6_compare_7cf53_0,L_J6_compare_7cf53]
  unfold kSide
  by_cases h : 0 < s
  · have h1 : ¬ s < 0 := fun q => absurd (Int32.lt_trans h q) (by decide)
    have h2 : 0 ≤ s := Int32.le_of_lt h
    have h3 : ¬ s = 0 := fun q => by rw [q] at h; exact absurd h (by decide)
    simp [h, h1, h2, h3]
  · have h1 := Int32.not_lt.mp h
    by_cases h2 : s < 0
    · have h3 : ¬ 0 ≤ s := Int32.not_le.mpr h2
      simp [h, h2, h3]
    · have e : s = 0 := Int32.le_antisymm h1 (Int32.not_lt.mp h2)
      simp [e]
end SIDE
