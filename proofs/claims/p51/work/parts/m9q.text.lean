/-! Texts: all STATEMENTS read; digits as numbers. -/
section TEXT
variable {S0 X : St} {d : Nat} {w : Nat → Int32} {n p : Nat}
/-- a digit, two digits, as numbers -/
theorem dig_1 {q : Nat} (h : fitsB 48 (chW w n q) = true) : ∃ a, a < 10 ∧ w q - 48 = nI a ∧ chW w n q = w q := by
  have e := hr_in (Or.inl rfl) h
  have lt : q < n := by
    rcases Nat.lt_or_ge q n with z | z
    · exact z
    · unfold chW at h
      rw [if_neg (by omega)] at h
      exact absurd h (by decide)
  have ec : chW w n q = w q := if_pos lt
  have r := (hr_d w n q).mpr h
  rw [e] at r
  obtain ⟨k, hk, ek⟩ := in_of (n := 57) rfl (by decide) ⟨Int32.le_trans (by decide) r.1, r.2⟩
  have k48 : 48 ≤ k := by
    rw [ek] at r
    exact (nI_leI (a := 48) (by decide) (by omega)).mp r.1
  refine ⟨k - 48, by omega, ?_, ec⟩
  rw [ek]
  exact pk_sub (a := k) (b := 48) k48
theorem dv_1 {q a : Nat} (h : w q - 48 = nI a) : dv w q 1 = nI a := by
  show 10 * (0 : Int32) + w (q + 0) - 48 = nI a
  rw [Nat.add_zero, show (10 : Int32) * 0 = 0 from rfl, Int32.zero_add, h]
theorem dv_2 {q a b : Nat} (h1 : w q - 48 = nI a) (h2 : w (q + 1) - 48 = nI b) : dv w q 2 = nI (10 * a + b) := by
  show 10 * dv w q 1 + w (q + 1) - 48 = _
  rw [dv_1 h1, Int32.sub_eq_add_neg, Int32.add_assoc, ← Int32.sub_eq_add_neg, h2]
  have : (10 : Int32) * nI a = nI (10 * a) := pk_mul 10 a
  rw [this, nI_add]
theorem at_q {X : St} {W : Sh} (rc : rowC X d W) {q : Nat} (hq : q < 2 ^ 30) (i : Nat) (hi : i < 20) : L_X8_at (70 + 2 * d) (nI q + nI i) X = some (chW W.2.2.2 W.2.2.1.2 (q + i)) := by
  rw [nI_add]
  exact at_W rc (by omega)
theorem digAt {X : St} {W : Sh} (rc : rowC X d W) {q a : Nat} (hq : q < 2 ^ 30) (h : W.2.2.2 q - 48 = nI a) (hc : chW W.2.2.2 W.2.2.1.2 q = W.2.2.2 q) : L_X8_digitAt (70 + 2 * d) (nI q) X = some (nI a) := by
  unfold L_X8_digitAt b_X8_digitAt_0
  rw [at_W rc (by omega), Option.bind_some, hc, h]
theorem pairAt {X : St} {W : Sh} (rc : rowC X d W) {q a b : Nat} (hq : q < 2 ^ 20) (h1 : W.2.2.2 q - 48 = nI a) (c1 : chW W.2.2.2 W.2.2.1.2 q = W.2.2.2 q) (h2 : W.2.2.2 (q + 1) - 48 = nI b) (c2 : chW W.2.2.2 W.2.2.1.2 (q + 1) = W.2.2.2 (q + 1)) : L_X8_pairAt (70 + 2 * d) (nI q) X = some (nI (10 * a + b)) := by
  unfold L_X8_pairAt b_X8_pairAt_0
  have : (10 : Int32) * nI a = nI (10 * a) := pk_mul 10 a
  rw [digAt rc (show q < 2 ^ 30 by omega) h1 c1, Option.bind_some, nI_1, digAt rc (show q + 1 < 2 ^ 30 by omega) h2 c2, Option.bind_some, this, nI_add]
theorem signAt {X : St} {W : Sh} (rc : rowC X d W) {q : Nat} (hq : q < 2 ^ 30) (hc : chW W.2.2.2 W.2.2.1.2 q = W.2.2.2 q) : L_X8_signAt (70 + 2 * d) (nI q) X = some (sv W.2.2.2 q) := by
  unfold L_X8_signAt b_X8_signAt_0 sv
  rw [at_W rc (by omega), Option.bind_some, hc]
  by_cases z : W.2.2.2 q = 45
  · rw [if_pos z, if_pos z]
  · rw [if_neg z, if_neg z]
theorem signedAt {X : St} {W : Sh} (rc : rowC X d W) {q a : Nat} (hq : q < 2 ^ 20) (c1 : chW W.2.2.2 W.2.2.1.2 q = W.2.2.2 q) (h2 : W.2.2.2 (q + 1) - 48 = nI a) (c2 : chW W.2.2.2 W.2.2.1.2 (q + 1) = W.2.2.2 (q + 1)) : L_X8_signedAt (70 + 2 * d) (nI q) X = some (sv W.2.2.2 q * nI a) := by
  unfold L_X8_signedAt b_X8_signedAt_0
  rw [signAt rc (show q < 2 ^ 30 by omega) c1, Option.bind_some, nI_1, digAt rc (show q + 1 < 2 ^ 30 by omega) h2 c2, Option.bind_some]
theorem sv_v (w : Nat → Int32) (q : Nat) : sv w q = 1 ∨ sv w q = -1 := by
  unfold sv
  by_cases z : w q = 45
  · rw [if_pos z]; exact Or.inr rfl
  · rw [if_neg z]; exact Or.inl rfl
theorem sv_d {q a : Nat} (ha : a < 10) : -9 ≤ sv w q * nI a ∧ sv w q * nI a ≤ 9 := by
  have t : ∀ a : Fin 10, (-9 ≤ (1 : Int32) * nI a.val ∧ (1 : Int32) * nI a.val ≤ 9) ∧ (-9 ≤ (-1 : Int32) * nI a.val ∧ (-1 : Int32) * nI a.val ≤ 9) := by decide
  rcases sv_v w q with e | e <;> rw [e]
  · exact (t ⟨a, ha⟩).1
  · exact (t ⟨a, ha⟩).2
theorem sgn_1 {q : Nat} (h : fitsB 43 (chW w n q) = true) : chW w n q = w q := by
  rcases Nat.lt_or_ge q n with z | z
  · exact if_pos z
  · unfold chW at h
    rw [if_neg (by omega)] at h
    exact absurd h (by decide)
end TEXT
