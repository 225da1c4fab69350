/-! The reference's day. -/
theorem side_0 (s : Int32) : kSide s = 0 ↔ s = 0 := by
  unfold kSide
  by_cases h : 0 < s
  · rw [if_pos h]
    exact ⟨fun z => absurd z (by decide), fun z => by rw [z] at h; exact absurd h (by decide)⟩
  · rw [if_neg h]
    by_cases h2 : s < 0
    · rw [if_pos h2]
      exact ⟨fun z => absurd z (by decide), fun z => by rw [z] at h2; exact absurd h2 (by decide)⟩
    · rw [if_neg h2]
      exact ⟨fun _ => Int32.le_antisymm (Int32.not_lt.mp h) (Int32.not_lt.mp h2), fun _ => rfl⟩
def PV (a : Nat) : Prop := 165 ≤ a ∧ a ≤ 168
theorem FR_mono {P P' : Nat → Prop} {S S' : St} (hp : ∀ a, P a → P' a) (h : FR P S S') : FR P' S S' := ⟨fun a ha => h.1 a (fun z => ha (hp a z)), h.2⟩
section RRUN
variable {S : St} {T : TT} {bit : Nat → Bool} {sh : Bool} {D : Nat → Nat → Int32} {h p k : Nat}
end RRUN
