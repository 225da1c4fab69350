/-! The STATEMENT of a PLANT. -/
theorem i32_64 (x : Int32) : x.toInt64.toInt32 = x := by simp
def hrW (w : Nat → Int32) (n q : Nat) : Int32 := if q < n then w q else -999
theorem hr_d (w : Nat → Int32) (n q : Nat) : (48 ≤ hrW w n q ∧ hrW w n q ≤ 57) ↔ fitsB 48 (chW w n q) = true := by
  unfold hrW chW fitsB
  have a : ¬ (48 : Int32) = 43 := by decide
  rw [if_neg a, if_pos (rfl : (48 : Int32) = 48)]
  by_cases h : q < n
  · rw [if_pos h, if_pos h]; simp
  · rw [if_neg h, if_neg h]; decide
theorem hr_s (w : Nat → Int32) (n q : Nat) : (hrW w n q = 43 ∨ hrW w n q = 45) ↔ fitsB 43 (chW w n q) = true := by
  unfold hrW chW fitsB
  rw [if_pos (rfl : (43 : Int32) = 43)]
  by_cases h : q < n
  · rw [if_pos h, if_pos h]; simp
  · rw [if_neg h, if_neg h]; decide
theorem hr_e (w : Nat → Int32) (n q : Nat) : hrW w n q = 59 ↔ fitsB 59 (chW w n q) = true := by
  unfold hrW chW fitsB
  have a : ¬ (59 : Int32) = 43 := by decide
  have b : ¬ (59 : Int32) = 48 := by decide
  rw [if_neg a, if_neg b]
  by_cases h : q < n
  · rw [if_pos h, if_pos h]; simp
  · rw [if_neg h, if_neg h]; decide
theorem hr_in {w : Nat → Int32} {n q : Nat} {c : Int32} (hc : c = 48 ∨ c = 43 ∨ c = 59) (h : fitsB c (chW w n q) = true) : hrW w n q = w q := by
  unfold hrW chW at *
  by_cases z : q < n
  · rw [if_pos z]
  · rw [if_neg z] at h
    rcases hc with rfl | rfl | rfl <;> exact absurd h (by decide)
def dv (w : Nat → Int32) (q : Nat) : Nat → Int32
  | 0 => 0
  | j + 1 => 10 * dv w q j + w (q + j) - 48
theorem ms_s (f : Nat → Bool) (k : Nat) : ms f (k + 1) = if ms f k < k then ms f k else if f k then k + 1 else k := rfl
theorem ms_all {f : Nat → Bool} {n k : Nat} (h : ms f n = n) (hk : k ≤ n) : ms f k = k := by
  have a := (ms_of f n).2.1
  rw [h] at a
  exact ms_u (Nat.le_refl _) (fun i hi => a i (by omega)) (fun q => absurd q (Nat.lt_irrefl _))
def sv (w : Nat → Int32) (q : Nat) : Int32 := if w q = 45 then -1 else 1
theorem shp_hr (w : Nat → Int32) (n p : Nat) : shp (hrW w n p) = shW w n p := by
  unfold hrW shW chW
  by_cases h : p < n
  · rw [if_pos h, if_pos h]
  · rw [if_neg h, if_neg h]; decide
theorem shp_l {c : Int32} (h : shp c ≠ 5) : c = 102 ∨ c = 112 ∨ c = 116 ∨ c = 107 ∨ c = 111 ∨ c = 100 ∨ c = 114 := by
  by_cases h1 : c = 102
  · exact Or.inl h1
  · by_cases h2 : c = 112
    · exact Or.inr (Or.inl h2)
    · by_cases h3 : c = 116
      · exact Or.inr (Or.inr (Or.inl h3))
      · by_cases h4 : c = 107
        · exact Or.inr (Or.inr (Or.inr (Or.inl h4)))
        · by_cases h5 : c = 111
          · exact Or.inr (Or.inr (Or.inr (Or.inr (Or.inl h5))))
          · by_cases h6 : c = 100
            · exact Or.inr (Or.inr (Or.inr (Or.inr (Or.inr (Or.inl h6)))))
            · by_cases h7 : c = 114
              · exact Or.inr (Or.inr (Or.inr (Or.inr (Or.inr (Or.inr h7)))))
              · exact absurd (shp_else h1 h2 h3 h4 h5 h6 h7) h
