def kSide (s : Int32) : Int32 := if 0 < s then 1 else if s < 0 then -1 else 0
theorem i_two (f : Int32) : 2 * f = f + f := by rw [show (2 : Int32) = 1 + 1 from rfl, Int32.add_mul, Int32.one_mul]
section RKINDS
variable {S : St} {p kd : Nat} {fg hr : Int32}
theorem R_plainly (s : Int32) : L_X12_plainly s S = some (kAbs s) := by
  unfold L_X12_plainly b_X12_plainly_0 kAbs
  by_cases h : s < 0
  · simp [h, Int32.not_le.mpr h]
  · simp [h, Int32.not_lt.mp h]
theorem R_atLeast (s : Int32) : L_X12_atLeast s S = some (kMax0 s) := by
  unfold L_X12_atLeast b_X12_atLeast_0 kMax0
  by_cases h : 0 ≤ s
  · by_cases h2 : 0 < s
    · simp [h, h2]
    · have e : s = 0 := by
        have h3 := Int32.not_lt.mp h2
        exact Int32.le_antisymm h3 h
      simp [e]
  · have h2 : ¬ 0 < s := fun q => h (Int32.le_of_lt q)
    simp [h, h2]
theorem R_side (s : Int32) : L_X12_sideOf s S = some (kSide s) := by
  unfold L_X12_sideOf b_X12_sideOf_0 kSide
  by_cases h : 0 < s
  · simp [h, Int32.not_le.mpr h]
  · have h1 := Int32.not_lt.mp h
    by_cases h2 : s < 0
    · simp [h, h1, h2, Int32.not_le.mpr h2]
    · simp [h, h1, h2, Int32.not_lt.mp h2]
theorem R_due (hp : p < 8) (h1 : gi S 147 p = nI kd) (hk : kd < 8) (h2 : gi S 150 p = hr) : L_X12_dueOf (nI p) S = some (kDue kd hr) := by
  unfold L_X12_dueOf b_X12_dueOf_0 b_X12_dueOf_26 kDue
  simp only [gd_t (inb_n hp), tn_n (show p < 2 ^ 31 by omega), h1, h2]
  rcases k8 hk with rfl | rfl | rfl | rfl | rfl | rfl | rfl | rfl <;> simp [nI]
  by_cases h : hr ≤ 12
  · by_cases h3 : hr < 12
    · simp [h, h3]
    · have e : hr = 12 := Int32.le_antisymm h (Int32.not_lt.mp h3)
      simp [e]
  · have h3 : ¬ hr < 12 := fun q => h (Int32.le_of_lt q)
    simp [h, h3]
theorem R_sum (hp : p < 8) (h1 : gi S 147 p = nI kd) (hk : kd < 8) (a b : Int32) : L_X12_sumOf (nI p) a b S = some (kSum kd a b) := by
  unfold L_X12_sumOf b_X12_sumOf_0 b_X12_sumOf_52 kSum
  simp only [gd_t (inb_n hp), tn_n (show p < 2 ^ 31 by omega), h1]
  rcases k8 hk with rfl | rfl | rfl | rfl | rfl | rfl | rfl | rfl <;> simp [nI, i_two, Int32.add_assoc]
theorem R_str (hp : p < 8) (h1 : gi S 147 p = nI kd) (hk : kd < 8) (h2 : gi S 148 p = fg) (s : Int32) : L_X12_strengthOf (nI p) s S = some (kStr kd fg s) := by
  unfold L_X12_strengthOf b_X12_strengthOf_0 kStr
  simp only [R_plainly, gd_t (inb_n hp), tn_n (show p < 2 ^ 31 by omega), h1, h2, Option.bind_some]
  rcases k8 hk with rfl | rfl | rfl | rfl | rfl | rfl | rfl | rfl <;> simp [nI]
theorem R_price (hp : p < 8) (h1 : gi S 147 p = nI kd) (hk : kd < 8) (v : Int32) : L_X12_priceOf (nI p) v S = some (kPrice kd v (gi S 136 8)) := by
  unfold L_X12_priceOf b_X12_priceOf_0 kPrice
  simp only [R_atLeast, gd_t (inb_n hp), tn_n (show p < 2 ^ 31 by omega), h1, Option.bind_some]
  rcases k8 hk with rfl | rfl | rfl | rfl | rfl | rfl | rfl | rfl <;> simp [nI]
theorem R_buys (hp : p < 8) (h1 : gi S 147 p = nI kd) (hk : kd < 8) (l o : Int32) : L_X12_buys (nI p) l o S = some (kBuys kd l o) := by
  unfold L_X12_buys b_X12_buys_0 kBuys
  simp only [gd_t (inb_n hp), tn_n (show p < 2 ^ 31 by omega), h1]
  have a1 : (if l ≤ o then (some 0 : Option Int32) else some 1) = some (if o < l then 1 else 0) := by
    by_cases h : o < l
    · simp [h, Int32.not_le.mpr h]
    · simp [h, Int32.not_lt.mp h]
  have a2 : (if l < o then (some 0 : Option Int32) else some 1) = some (if o ≤ l then 1 else 0) := by
    by_cases h : o ≤ l
    · simp [h, Int32.not_lt.mpr h]
    · simp [h, Int32.not_le.mp h]
  rw [a1, a2]
  rcases k8 hk with rfl | rfl | rfl | rfl | rfl | rfl | rfl | rfl <;> simp [nI] <;> decide
theorem R_fade (hp : p < 8) (h1 : gi S 147 p = nI kd) (hk : kd < 8) : L_X12_fadeOf (nI p) S = some (kFade kd (gi S 136 7)) := by
  unfold L_X12_fadeOf b_X12_fadeOf_0 b_X12_fadeOf_20 kFade
  simp only [R_atLeast, gd_t (inb_n hp), tn_n (show p < 2 ^ 31 by omega), h1, Option.bind_some]
  rcases k8 hk with rfl | rfl | rfl | rfl | rfl | rfl | rfl | rfl <;> simp [nI]
theorem R_cost (hk : kd < 8) (f : Int32) : L_X12_costOf (nI kd) f S = some (kCost kd f) := by
  unfold L_X12_costOf b_X12_costOf_0 kCost
  rcases k8 hk with rfl | rfl | rfl | rfl | rfl | rfl | rfl | rfl <;> simp [nI]
theorem A_side (s : Int32) : L_X11_sideOf s S = some (kSide s) := by
  unfold L_X11_sideOf b_X11_sideOf_0
  simp only [b_J6_compare_7cf53_0,L_J6_compare_7cf53]
  unfold kSide
  by_cases h : 0 < s
  · have h1 : ¬ s < 0 := fun q => absurd (Int32.lt_trans h q) (by decide)
    have h2 : 0 ≤ s := Int32.le_of_lt h
    have h3 : ¬ s = 0 := fun q => by rw [q] at h; exact absurd h (by decide)
    simp [h, h1, h2, h3]
  · have h1 := Int32.not_lt.mp h
    by_cases h2 : s < 0
    · have h3 : ¬ 0 ≤ s := Int32.not_le.mpr h2
      simp [h, h2, h3]
    · have e : s = 0 := Int32.le_antisymm h1 (Int32.not_lt.mp h2)
      simp [e]
end RKINDS
