/-! The reference's day: one chooses. -/
theorem max0_nn (x : Int32) : (0 : Int32) ≤ kMax0 x := by
  unfold kMax0
  by_cases h : 0 < x
  · rw [if_pos h]; exact Int32.le_of_lt h
  · rw [if_neg h]; exact Int32.le_refl 0
theorem i_sub {a b : Int32} (ha : (0 : Int32) ≤ a) (hb : (0 : Int32) ≤ b) : (0 < a - b ↔ b < a) ∧ (a - b = 0 ↔ a = b) := by
  have a1 : 0 ≤ a.toInt := by simpa using Int32.le_iff_toInt_le.mp ha
  have b1 : 0 ≤ b.toInt := by simpa using Int32.le_iff_toInt_le.mp hb
  have a2 := a.toInt_lt
  have b2 := b.toInt_lt
  have e : (a - b).toInt = a.toInt - b.toInt := by
    rw [Int32.toInt_sub]
    exact Int.bmod_eq_of_le (by omega) (by omega)
  constructor
  · rw [Int32.lt_iff_toInt_lt, Int32.lt_iff_toInt_lt, e]
    simp <;> omega
  · rw [← Int32.toInt_inj, ← Int32.toInt_inj, e]
    simp <;> omega
section RCHS
variable {S : St} {T : TT} {bit : Nat → Bool} {sh : Bool} {D : Nat → Nat → Int32} {h p : Nat}
theorem stp_of (hW : WT T) (hp : p < tn T) (hh : h < 24) (hd : sDue T p = nI h) (I : DI T bit D h p) :
    (∀ u, u ≠ p → sStep T bit sh D p 4 u = D 4 u ∧ sStep T bit sh D p 5 u = D 5 u ∧ sStep T bit sh D p 6 u = D 6 u ∧ sStep T bit sh D p 7 u = D 7 u) ∧
    (∀ r q, r < 4 → q ≠ p → sStep T bit sh D p r q = D r q) ∧ sStep T bit sh D p 0 p = sFirst T bit p ∧ D 4 p = 0 ∧ D 8 p = -4 ∧
    (sStep T bit sh D p 4 p = 0 ∨ ∃ d, h < d ∧ d < 24 ∧ sStep T bit sh D p 6 p = nI d) ∧
    ((sBuy T bit sh D p = (-4, 0, 0) ∧ sStep T bit sh D p 8 = D 8 ∧ sStep T bit sh D p 2 p = -4 ∧ sStep T bit sh D p 3 p = 0 ∧ sStep T bit sh D p 1 p = kSide (sFirst T bit p)) ∨
     ∃ u, u < 11 ∧ u ≠ p ∧ sBuy T bit sh D p = (nI u, sLeft D u (sDue T p), sPrice T D u (sDue T p)) ∧ sSale T D u (sDue T p) = true ∧ D 8 u = -4 ∧ (u < 8 → u < tn T ∧ sDone T h p u) ∧ sStep T bit sh D p 8 = upd (D 8) u (nI p) ∧ sStep T bit sh D p 2 p = nI u ∧ sStep T bit sh D p 3 p = sPrice T D u (sDue T p) ∧ sStep T bit sh D p 1 p = D 4 u) := by
  have nd : ¬ sDone T h p p := fun z => by have := (done_n hd hh).mp z; omega
  have n8 := hW.1
  have d0 : D 4 p = 0 := I.2.1 p (by omega) (fun z => nd z.2)
  have d8 : D 8 p = -4 := (I.2.2.2.1 p (by omega)).resolve_right (fun z => z.1 d0)
  unfold sStep
  obtain ⟨a1, a2, a3, a4⟩ := cho_of (T := T) (bit := bit) (sh := sh) (D := D) (p := p)
  generalize sChoose T bit sh D p = E at a1 a2 a3 a4 ⊢
  obtain ⟨b1, b2, b3, b4⟩ := thi_of (T := T) (bit := bit) (D := E) (p := p)
  refine ⟨fun u hu => ?_, fun r q hr hq => by rw [b1 r (Or.inl hr), a2 r q hr hq], by rw [b1 0 (by decide)]; exact a3, d0, d8, ?_, ?_⟩
  · rw [b2 4 u hu, b2 5 u hu, b2 6 u hu, b2 7 u hu, a1 4 (by decide) (by decide), a1 5 (by decide) (by decide), a1 6 (by decide) (by decide), a1 7 (by decide) (by decide)]
    exact ⟨rfl, rfl, rfl, rfl⟩
  · cases hT : sTurns T bit E p with
    | false => rw [b3 hT, a1 4 (by decide) (by decide)]; exact Or.inl d0
    | true =>
      obtain ⟨d, d1, d2, d3⟩ := at_n hW hp
      refine Or.inr ⟨d, d3 h hd hh, ?_, (b4 hT).2.2.1.trans d2⟩
      unfold sTurns at hT
      simp only [Bool.and_eq_true, decide_eq_true_eq] at hT
      exact i_23 (by rw [← d2]; exact hT.1.1) (by omega)
  · rw [b1 8 (by decide), b1 2 (by decide), b1 3 (by decide), b1 1 (by decide)]
    rcases a4 with ⟨e0, e8, e2, e3, e1⟩ | ⟨w, hw, e0, hs, hpr, e8, e2, e3, e1⟩
    · exact Or.inl ⟨e0, e8, e2, e3, e1⟩
    · obtain ⟨c1, c2, -⟩ := sale_of hs
      have wp : w ≠ p := fun z => c1 (by rw [z]; exact d0)
      refine Or.inr ⟨w, hw, wp, e0, hs, ?_, fun q => ?_, e8, e2, e3, e1⟩
      · refine (I.2.2.2.1 w hw).resolve_right ?_
        rintro ⟨-, q, q1, q2, q3, -⟩
        obtain ⟨dq, z1, z2, z3⟩ := q2
        have le : sDue T q ≤ nI h := by rw [z2]; exact nI_le (by omega) (by omega)
        unfold sSale at hs
        rw [hd] at hs
        simp [q3, nI_clamp (show q < 2 ^ 31 by omega), nI_pos' (show q < 2 ^ 31 by omega), le] at hs
      · exact Classical.byContradiction fun z => c1 (I.2.1 w q z)
theorem coins_step (hW : WT T) (hp : p < tn T) (hh : h < 24) (hd : sDue T p = nI h) (I : DI T bit D h p) {e q : Nat} (he : e < h) (hq : q < tn T) : sCoins T (sStep T bit sh D p) q (nI e) = sCoins T D q (nI e) := by
  obtain ⟨-, s2, -, -, s5, -, s7⟩ := stp_of (sh := sh) hW hp hh hd I
  have n8 := hW.1
  generalize sStep T bit sh D p = F at s2 s7 ⊢
  have lt : ¬ nI h ≤ nI e := nI_ge he (by omega)
  have first : (if sDue T q ≤ nI e then tF T 4 q - F 3 q else tF T 4 q) = if sDue T q ≤ nI e then tF T 4 q - D 3 q else tF T 4 q := by
    by_cases z : q = p
    · subst z; rw [hd, if_neg lt, if_neg lt]
    · rw [s2 3 q (by decide) z]
  have same : F 8 q = D 8 q → (if 0 ≤ F 8 q ∧ sDue T (F 8 q).toNatClampNeg ≤ nI e then F 3 (F 8 q).toNatClampNeg else 0) = if 0 ≤ D 8 q ∧ sDue T (D 8 q).toNatClampNeg ≤ nI e then D 3 (D 8 q).toNatClampNeg else 0 := by
    intro z
    rw [z]
    rcases I.2.2.2.1 q (by omega) with c | ⟨-, r, r1, r2, r3, -⟩
    · rw [c, if_neg (by rintro ⟨y, -⟩; exact absurd y (by decide)), if_neg (by rintro ⟨y, -⟩; exact absurd y (by decide))]
    · rw [r3, nI_clamp (show r < 2 ^ 31 by omega)]
      have rp : r ≠ p := by
        rintro rfl
        exact absurd ((done_n hd hh).mp r2) (by omega)
      rw [s2 3 r (by decide) rp]
  unfold sCoins
  rw [first]
  congr 1
  rcases s7 with ⟨-, e8, -⟩ | ⟨w, hw, wp, -, hs, d8, -, e8, -⟩
  · exact same (by rw [e8])
  · by_cases z : q = w
    · subst z
      rw [e8, upd_s, d8, if_neg (fun y => ?_), if_neg (by rintro ⟨y, -⟩; exact absurd y (by decide))]
      rw [nI_clamp (show p < 2 ^ 31 by omega), hd] at y
      exact lt y.2
    · exact same (by rw [e8, upd_n _ _ z])
end RCHS
