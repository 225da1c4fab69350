def isLh (f : Nat → Bool) (h : Nat → Int32) (n : Nat) (r : Int32) : Prop := (∃ q, q < n ∧ f q = true ∧ (∀ i, i < q → f i = false) ∧ r = h q) ∨ ((∀ q, q < n → f q = false) ∧ r = -4)
theorem isLh_u {f : Nat → Bool} {h : Nat → Int32} {n : Nat} {r r' : Int32} (a : isLh f h n r) (a' : isLh f h n r') : r = r' := by
  rcases a with ⟨q, h2, h3, h4, rfl⟩ | ⟨h1, rfl⟩ <;> rcases a' with ⟨q', h2', h3', h4', rfl⟩ | ⟨h1', rfl⟩
  · rcases Nat.lt_trichotomy q q' with z | z | z
    · rw [h4' q z] at h3; cases h3
    · rw [z]
    · rw [h4 q' z] at h3'; cases h3'
  · rw [h1' q h2] at h3; cases h3
  · rw [h1 q' h2'] at h3'; cases h3'
  · rfl
