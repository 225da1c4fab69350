/-! law, without, guard: choices that are other ones. -/
section SHUT
variable {T : TT} {b : Nat → Bool}
theorem shut_8p {D : Nat → Nat → Int32} (h : Nat) : ∀ k, sPeople T b true h D k 8 = D 8 := by
  intro k
  induction k with
  | zero => rfl
  | succ k ih =>
    show (if sDue T k = nI h then sStep T b true (sPeople T b true h D k) k else sPeople T b true h D k) 8 = D 8
    by_cases z : sDue T k = nI h
    · rw [if_pos z]
      show sThink T b (sChoose T b true (sPeople T b true h D k) k) k 8 = D 8
      rw [(thi_of (T := T) (bit := b) (D := sChoose T b true (sPeople T b true h D k) k) (p := k)).1 8 (Or.inr (Nat.le_refl _))]
      rcases (cho_of (T := T) (bit := b) (sh := true) (D := sPeople T b true h D k) (p := k)).2.2.2 with ⟨-, e, -⟩ | ⟨u, hu, e, -⟩
      · rw [e]; exact ih
      · have e2 : sBuy T b true (sPeople T b true h D k) k = (-4, 0, 0) := rfl
        rw [e2] at e
        have e3 : (-4 : Int32) = nI u := (Prod.mk.inj e).1
        have := nI_pos' (n := u) (by omega)
        rw [← e3] at this
        exact absurd this (by decide)
    · rw [if_neg z]; exact ih
theorem shut_8h : ∀ h, sHours T b true h 8 = fun _ => -4 := by
  intro h
  induction h with
  | zero => rfl
  | succ h ih =>
    show sPeople T b true h (sHours T b true h) (tn T) 8 = _
    rw [shut_8p, ih]
theorem shut_1 (hW : WT T) {p : Nat} (hp : p < tn T) : sDay T b true 1 p = kSide (sFirst T b p) := by
  rcases F_3 (b := b) (sh := true) hW hp with ⟨-, -, e⟩ | ⟨u, hu, -, e, -⟩
  · exact e
  · have e2 : sDay T b true 8 u = -4 := by
      show sHours T b true 24 8 u = -4
      rw [shut_8h]
    rw [e2] at e
    have := nI_pos' (n := p) (by have := hW.1; omega)
    rw [← e] at this
    exact absurd this (by decide)
end SHUT
theorem bt_255 {p : Nat} (h : p < 8) : bt 255 p = true := by
  have a : ∀ p : Fin 8, bt 255 p.val = true := by decide +kernel
  exact a ⟨p, h⟩
