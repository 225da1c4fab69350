/-! copy, fact, set, kin. -/
section CALLS6
variable {S S' X : St} {T : TT} {im : Option TT} {sh : Nat → Sh} {m : Option TT × (Nat → Sh)} {d : Nat}
theorem sub_lt {n a b : Nat} (hn : n ≤ 100) (ha : a < 2 ^ 31) (hb : b < 2 ^ 31) : (nI n - nI b < nI a ↔ n < a + b) ∧ (nI a ≤ nI n - nI b ↔ a + b ≤ n) := by
  have e : (nI n - nI b).toInt = (n : Int) - b := by
    rw [Int32.toInt_sub, nI_toInt (by omega), nI_toInt hb]
    exact Int.bmod_eq_of_le (by omega) (by omega)
  rw [Int32.lt_iff_toInt_lt, Int32.le_iff_toInt_le, e, nI_toInt ha]
  constructor <;> omega
theorem hp_n {w n a b : Nat} (hn : gi S w 1 = nI n) (h : n ≤ 100) (ha : a < 2 ^ 31) (hb : b < 2 ^ 31) : L_X8_hasPlaces w (nI a) (nI b) S = some (if a + b ≤ n then 1 else 0) := by
  unfold L_X8_hasPlaces b_X8_hasPlaces_0 b_X8_hasPlaces_30
  rw [if_neg (nI_pos ha), if_neg (nI_pos hb), hn]
  by_cases z : nI n < nI a
  · have := (nI_ltI (show n < 2 ^ 31 by omega) ha).mp z
    rw [if_pos z, if_neg (by omega)]
  · have q : ¬ n < a := fun y => z ((nI_ltI (show n < 2 ^ 31 by omega) ha).mpr y)
    rw [if_neg z]
    have e := (sub_lt h hb ha).1
    by_cases y : a + b ≤ n
    · rw [if_pos y, if_neg (fun x => by have := e.mp x; omega)]
    · rw [if_neg y, if_pos (e.mpr (by omega))]
theorem hp_neg {w : Nat} {i k : Int32} (h : i < 0 ∨ k < 0) : L_X8_hasPlaces w i k S = some 0 := by
  unfold L_X8_hasPlaces b_X8_hasPlaces_0 b_X8_hasPlaces_30
  by_cases z : i < 0
  · rw [if_pos z]
  · rw [if_neg z, if_pos (h.resolve_left z)]
def cpW (wd we : Sh) (a c n : Nat) : Sh := (2, we.2.1, we.2.2.1, fun k => if c ≤ k ∧ k < c + n then wd.2.2.2 (a + (k - c)) else we.2.2.2 k)
theorem nI_100k {d a k : Nat} (hd : d < 8) (h : a + k < 2 ^ 30) : (100 : Int32) * nI d + nI a + nI k = nI (100 * d + a + k) := by
  have : (100 : Int32) * nI d = nI (100 * d) := by
    have q : ∀ k : Fin 8, (100 : Int32) * nI k.val = nI (100 * k.val) := by decide
    exact q ⟨d, hd⟩
  rw [this, nI_add, nI_add]
end CALLS6
