section RINIT
variable {S : St} {T : TT} {bit : Nat → Bool} {sh : Bool}
theorem R_day54 (hT : RT S T bit sh) (h66 : ∀ u, u < 11 → gi S 166 u = -9 ∧ gi S 169 u = -9 ∧ gi S 170 u = 99) : ∃ S', lp 1000 (l_X12_day_54) (0, S) = some S' ∧ FR PR S S' ∧ RV S' T (sDay T bit sh) (vN (sDay T bit sh) 24) ∧ RB S' T (sDay T bit sh) 24 0 := by
  obtain ⟨hW, hR, -, -⟩ := id hT
  have n8 := hW.1
  refine lp_inv (m := 8) (I := fun k x => x.1 = nI k ∧ FR (fun a => 159 ≤ a ∧ a ≤ 165) S x.2 ∧ ∀ p, p < k → gi x.2 159 p = 0 ∧ gi x.2 162 p = -9 ∧ gi x.2 163 p = 0 ∧ gi x.2 164 p = gi S 152 p ∧ gi x.2 165 p = 0) (fun k x hk hI => ?_) 1000 0 _ (Nat.zero_le _) (by omega) ⟨rfl, FR_refl S, fun p hp => absurd hp (Nat.not_lt_zero p)⟩
  obtain ⟨v1, X⟩ := x
  obtain ⟨e1, hF, hN⟩ := hI
  simp only at e1 hF hN
  subst e1
  unfold l_X12_day_54 b_X12_day_54
  dsimp only
  rcases Nat.lt_or_ge k 8 with hl | hl
  · refine Or.inr ⟨hl, ?_⟩
    have e8 : ¬ (8 : Int32) ≤ nI k := nI_ge (b := 8) hl (by decide)
    have e152 : gi X 152 k = gi S 152 k := by rw [hF.1 152 (by decide)]
    rw [if_neg e8]
    simp only [gd_t (inb_n hl), tn_n (show k < 2 ^ 31 by omega), nm, nI_1]
    refine ⟨_, rfl, rfl, FR_si ⟨by decide, by decide⟩ (FR_si ⟨by decide, by decide⟩ (FR_si ⟨by decide, by decide⟩ (FR_si ⟨by decide, by decide⟩ (FR_si ⟨by decide, by decide⟩ (FR_si ⟨by decide, by decide⟩ (FR_si ⟨by decide, by decide⟩ hF _ _) _ _) _ _) _ _) _ _) _ _) _ _, fun p hp => ?_⟩
    by_cases z : p = k
    · subst z
      simp [gi_si_n, gi_si_s, upd, e152]
    · obtain ⟨a1, a2, a3, a4, a5⟩ := hN p (by omega)
      simp [gi_si_n, gi_si_s, upd, z, a1, a2, a3, a4, a5]
  · have e : k = 8 := by omega
    subst e
    have e8 : (8 : Int32) ≤ nI 8 := by decide
    rw [if_pos e8]
    have hF2 : FR PR S X := FR_mono (fun a z => ⟨z.1, by have := z.2; omega⟩) hF
    have o : ∀ a, 165 < a → gi X a = gi S a := fun a ha => hF.1 a (fun z => by have := z.2; omega)
    have nd : ∀ q, ¬ sDone T 0 0 q := fun q ⟨d, _, _, z⟩ => by omega
    have hV0 : RV X T (sHours T bit sh 0) (vN (sHours T bit sh 0) 0) := by
      refine ⟨fun u hu => ⟨fun z => ?_, fun _ => ?_⟩, fun p hp => ⟨fun z => ?_, fun _ => (hN p (by omega)).2.2.2.2⟩⟩
      · obtain ⟨-, d, -, -, y⟩ := z
        omega
      · rw [o 166 (by decide)]; exact (h66 u hu).1
      · obtain ⟨-, d, -, -, y⟩ := z
        omega
    have hB0 : RB X T (sHours T bit sh 0) 0 0 := by
      refine ⟨fun u hu => ?_, fun p _ hd => absurd hd (nd p), fun p hp _ => ?_, fun e p he _ => by omega⟩
      · have e8 : sHours T bit sh 0 8 u = -4 := rfl
        rw [e8, if_pos rfl, if_pos rfl, o 169 (by decide), o 170 (by decide)]
        exact ⟨(h66 u hu).2.1, (h66 u hu).2.2⟩
      · obtain ⟨a1, a2, a3, a4, a5⟩ := hN p (by omega)
        exact ⟨a1, a2, a3, a4.trans (hR.2.2.2.1 p hp).2.2.2.2.2⟩
    obtain ⟨S', s1, s2, s3, s4⟩ := R_hours (RT_congr hF2 hT) hV0 hB0
    refine Or.inl ⟨S', ?_, FR_tr hF2 s2, s3, s4⟩
    unfold b_X12_day_121
    rw [s1]
    rfl
theorem R_day (hT : RT S T bit sh) : ∃ S', L_X12_day S = some S' ∧ FR PR S S' ∧ RV S' T (sDay T bit sh) (vN (sDay T bit sh) 24) ∧ RB S' T (sDay T bit sh) 24 0 := by
  unfold L_X12_day b_X12_day_0
  refine lp_inv (m := 11) (I := fun k x => x.1 = nI k ∧ FR (fun a => 166 ≤ a ∧ a ≤ 170) S x.2 ∧ ∀ u, u < k → gi x.2 166 u = -9 ∧ gi x.2 169 u = -9 ∧ gi x.2 170 u = 99) (fun k x hk hI => ?_) 1000 0 _ (Nat.zero_le _) (by omega) ⟨rfl, FR_refl S, fun p hp => absurd hp (Nat.not_lt_zero p)⟩
  obtain ⟨v1, X⟩ := x
  obtain ⟨e1, hF, hN⟩ := hI
  simp only at e1 hF hN
  subst e1
  unfold l_X12_day_2 b_X12_day_2
  dsimp only
  rcases Nat.lt_or_ge k 11 with hl | hl
  · refine Or.inr ⟨hl, ?_⟩
    have e8 : ¬ (11 : Int32) ≤ nI k := nI_ge (b := 11) hl (by decide)
    rw [if_neg e8]
    simp only [gd_t (inb_n hl), tn_n (show k < 2 ^ 31 by omega), nm, nI_1]
    refine ⟨_, rfl, rfl, FR_si ⟨by decide, by decide⟩ (FR_si ⟨by decide, by decide⟩ (FR_si ⟨by decide, by decide⟩ (FR_si ⟨by decide, by decide⟩ (FR_si ⟨by decide, by decide⟩ hF _ _) _ _) _ _) _ _) _ _, fun p hp => ?_⟩
    by_cases z : p = k
    · subst z
      simp [gi_si_n, gi_si_s, upd]
    · obtain ⟨a1, a2, a3⟩ := hN p (by omega)
      simp [gi_si_n, gi_si_s, upd, z, a1, a2, a3]
  · have e : k = 11 := by omega
    subst e
    have e8 : (11 : Int32) ≤ nI 11 := by decide
    rw [if_pos e8]
    have hF2 : FR PR S X := FR_mono (fun a z => ⟨by have := z.1; omega, by have := z.2; omega⟩) hF
    obtain ⟨S', s1, s2, s3⟩ := R_day54 (RT_congr hF2 hT) hN
    refine Or.inl ⟨S', ?_, FR_tr hF2 s2, s3⟩
    unfold b_X12_day_52
    rw [s1]
    rfl
end RINIT
