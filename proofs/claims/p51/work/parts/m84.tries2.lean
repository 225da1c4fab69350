/-! moods, purse, bestRate, bestOpen. -/
theorem mood_k : ∀ k : Fin 19, (9 : Int32) - nI k.val = nI (18 - k.val) - 9 ∧ ¬ ((9 : Int32) - nI k.val < -9) ∧ (9 : Int32) - nI k.val + (-1) = 9 - nI (k.val + 1) ∧ (9 : Int32) - nI k.val + 9 = nI (18 - k.val) ∧ -9 ≤ nI (18 - k.val) - (9 : Int32) ∧ nI (18 - k.val) - (9 : Int32) ≤ 9 := by decide +kernel
theorem mood_u : ∀ k : Fin 19, ¬ ((9 : Int32) < nI k.val - 9) ∧ nI k.val - (9 : Int32) + 1 = nI (k.val + 1) - 9 ∧ nI k.val - (9 : Int32) + 9 = nI k.val ∧ -9 ≤ nI k.val - (9 : Int32) ∧ nI k.val - (9 : Int32) ≤ 9 := by decide +kernel
/-- rates: the best one, what is paid then -/
def bstR (f : Nat → Int32) : Nat → Int32 × Int32
  | 0 => (1, -1)
  | k + 1 => if (bstR f k).2 < f k then (nI (k + 1), f k) else bstR f k
def bstO (f : Nat → Int32) : Nat → Int32 × Int32
  | 0 => (0, 9)
  | k + 1 => if f k < (bstO f k).2 then (nI k, f k) else bstO f k
section CALLS5
variable {S S0 X : St} {T : TT} {m : Option TT × (Nat → Sh)}
end CALLS5
