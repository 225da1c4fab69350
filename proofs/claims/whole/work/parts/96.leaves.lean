/-! One leaves. -/
def shf {α : Type} (j k : Nat) (f : Nat → α) : Nat → α := fun p => if j ≤ p ∧ p < j + k then f (p + 1) else f p
theorem shf_0 {α : Type} (j : Nat) (f : Nat → α) : shf j 0 f = f := by
  funext p
  exact if_neg (by omega)
theorem shf_up (j k : Nat) (f : Nat → Int32) : upd (shf j k f) (j + k) (shf j k f (j + k + 1)) = shf j (k + 1) f := by
  funext p
  have e : shf j k f (j + k + 1) = f (j + k + 1) := if_neg (by omega)
  rw [e]
  by_cases z : p = j + k
  · subst z
    rw [upd_s]
    exact (if_pos (by omega)).symm
  · rw [upd_n _ _ z]
    unfold shf
    by_cases y : j ≤ p ∧ p < j + k
    · rw [if_pos y, if_pos (by omega)]
    · rw [if_neg y, if_neg (by omega)]
theorem shf_va (j k : Nat) (f : Nat → Option Nat) {v : Option Nat} (hv : f (j + k + 1) = v) : va_up (shf j k f) (j + k) v = shf j (k + 1) f := by
  funext p
  unfold va_up shf
  by_cases z : p = j + k
  · subst z
    rw [if_pos rfl, if_pos (by omega), hv]
  · rw [if_neg z]
    by_cases y : j ≤ p ∧ p < j + k
    · rw [if_pos y, if_pos (by omega)]
    · rw [if_neg y, if_neg (by omega)]
section LEAVES
variable {S S' X : St} {T T' : TT} {m : Option TT × (Nat → Sh)} {t d : Nat}
theorem dl_hi (T : TT) (j : Nat) {r : Nat} (h : 4 < r) (p : Nat) : tF (delO T j) r p = tF T r p := if_neg (show ¬ (r ≤ 4 ∧ j ≤ p) by omega)
theorem WT_delO (hW : WT T) {j : Nat} (hj : j < tn T) : WT (delO T j) := by
  obtain ⟨h1, h2, h3, h4, h5, h6, h7⟩ := hW
  have dd : ∀ a, 4 < a → tF (delO T j) a = tF T a := fun a ha => by
    funext p
    exact if_neg (by omega)
  refine ⟨by show tn T - 1 ≤ 8; omega, h2, h3, fun p hp => ?_, ?_⟩
  · have hp2 : p < tn T - 1 := hp
    by_cases z : j ≤ p
    · have e : ∀ r, r ≤ 4 → tF (delO T j) r p = tF T r (p + 1) := fun r hr => if_pos ⟨hr, z⟩
      rw [e 0 (by decide), e 1 (by decide), e 2 (by decide), e 3 (by decide), e 4 (by decide), show tK (delO T j) p = tK T (p + 1) from if_pos z]
      exact h4 (p + 1) (by omega)
    · have e : ∀ r, tF (delO T j) r p = tF T r p := fun r => if_neg (fun y => z y.2)
      rw [e 0, e 1, e 2, e 3, e 4, show tK (delO T j) p = tK T p from if_neg z]
      exact h4 p (by omega)
  · rw [dd 5 (by decide), dd 6 (by decide), dd 7 (by decide), dd 8 (by decide), dd 9 (by decide), dd 10 (by decide), dd 11 (by decide), dd 12 (by decide), dd 13 (by decide), dd 14 (by decide), dd 15 (by decide)]
    exact ⟨h5, h6, h7⟩
theorem C_drop (hW : WT T) (hR : repC S 1 T) (hf : full S 1) {j : Nat} (hj : j < tn T) : ∃ Y, L_X10_dropOne 1 (nI j) S = some (nI (tn T - 1), Y) ∧ FT 1 S Y ∧ repC Y 1 (delO T j) ∧ full Y 1 := by
  have n8 := hW.1
  have main : ∃ r, lp 1000 (l_X10_dropOne_2 1) (nI j, S) = some r ∧ ∃ X, r = (nI (tn T - 1), si X 1 0 (nI (tn T - 1))) ∧ FT 1 S X ∧ (∀ i, i ≠ 0 → gi X 1 i = gi S 1 i) ∧ (∀ a, 8 ≤ a → gi X a = gi S a) ∧ gr X 2 = shf j (tn T - 1 - j) (gr S 2) ∧ gi X 4 = shf j (tn T - 1 - j) (gi S 4) ∧ gi X 5 = shf j (tn T - 1 - j) (gi S 5) ∧ gi X 6 = shf j (tn T - 1 - j) (gi S 6) ∧ gi X 7 = shf j (tn T - 1 - j) (gi S 7) := by
    refine lp_inv (m := tn T - 1 - j) (I := fun k x => x.1 = nI (j + k) ∧ FT 1 S x.2 ∧ gi x.2 1 = gi S 1 ∧ (∀ a, 8 ≤ a → gi x.2 a = gi S a) ∧ gr x.2 2 = shf j k (gr S 2) ∧ gi x.2 4 = shf j k (gi S 4) ∧ gi x.2 5 = shf j k (gi S 5) ∧ gi x.2 6 = shf j k (gi S 6) ∧ gi x.2 7 = shf j k (gi S 7)) (fun k x hk hI => ?_) 1000 0 _ (Nat.zero_le _) (by omega) ⟨rfl, FT_refl 1 S, rfl, fun _ _ => rfl, (shf_0 _ _).symm, (shf_0 _ _).symm, (shf_0 _ _).symm, (shf_0 _ _).symm, (shf_0 _ _).symm⟩
    obtain ⟨v, X⟩ := x
    obtain ⟨e1, hF, h1, h8, hr, h4, h5, h6, h7⟩ := hI
    simp only at e1 hF h1 h8 hr h4 h5 h6 h7
    subst e1
    unfold l_X10_dropOne_2 b_X10_dropOne_2
    dsimp only
    rw [h1, hR.1, nI_1]
    rcases Nat.lt_or_ge k (tn T - 1 - j) with hl | hl
    · refine Or.inr ⟨hl, ?_⟩
      have e : ¬ nI (tn T) ≤ nI (j + k + 1) := nI_ge (by omega) (by omega)
      obtain ⟨q, z, q1, q2, q3⟩ := hf (j + k + 1) (by omega)
      have q4 : gr X (1 + 1) (j + k + 1) = some q := by
        show gr X 2 (j + k + 1) = some q
        rw [hr]
        exact (if_neg (by omega)).trans q1
      have q5 : gq X q = some z := by rw [gq_local (hF.2.2.1 q)]; exact q2
      have o : ∀ (X : St) (k i a : Nat) (v : Int32), a ≠ k → gi (si X k i v) a = gi X a := fun X k i a v h => gi_si_n _ _ _ h
      rw [if_neg e, gd_t (inb_n (show j + k + 1 < 8 by omega)), tn_n (show j + k + 1 < 2 ^ 31 by omega), q4, Option.bind_some, gd_t (inb_n (show j + k < 8 by omega)), q5, Option.bind_some, nm_eq, tn_n (show j + k < 2 ^ 31 by omega), gd_t (inb_n (show j + k + 1 < 8 by omega)), gd_t (inb_n (show j + k < 8 by omega)), nm_eq, gd_t (inb_n (show j + k + 1 < 8 by omega)), gd_t (inb_n (show j + k < 8 by omega)), nm_eq, gd_t (inb_n (show j + k + 1 < 8 by omega)), gd_t (inb_n (show j + k < 8 by omega)), nm_eq, gd_t (inb_n (show j + k + 1 < 8 by omega)), gd_t (inb_n (show j + k < 8 by omega)), nm_eq]
      refine ⟨_, rfl, rfl, FT_si ⟨by omega, by omega⟩ (FT_si ⟨by omega, by omega⟩ (FT_si ⟨by omega, by omega⟩ (FT_si ⟨by omega, by omega⟩ (FT_sr ⟨by omega, by omega⟩ hF _ _) _ _) _ _) _ _) _ _, ?_, fun a ha => ?_, ?_, ?_, ?_, ?_, ?_⟩
      all_goals
        dsimp only
        have g0 : ∀ a, gi (sr X (1 + 1) (j + k) (some q)) a = gi X a := fun _ => rfl
      · rw [o _ _ _ _ _ (by decide), o _ _ _ _ _ (by decide), o _ _ _ _ _ (by decide), o _ _ _ _ _ (by decide), g0]; exact h1
      · rw [o _ _ _ _ _ (by omega), o _ _ _ _ _ (by omega), o _ _ _ _ _ (by omega), o _ _ _ _ _ (by omega), g0]; exact h8 a ha
      · show gr (sr X 2 (j + k) (some q)) 2 = _
        rw [gr_sr_s, hr]
        exact shf_va j k (gr S 2) q1
      · rw [o _ _ _ _ _ (by decide), o _ _ _ _ _ (by decide), o _ _ _ _ _ (by decide), gi_si_s, g0, show gi X (1 + 3) = shf j k (gi S 4) from h4]
        exact shf_up j k _
      · rw [o _ _ _ _ _ (by decide), o _ _ _ _ _ (by decide), gi_si_s, o _ _ _ _ _ (by decide), g0, show gi X (1 + 4) = shf j k (gi S 5) from h5]
        exact shf_up j k _
      · rw [o _ _ _ _ _ (by decide), gi_si_s, o _ _ _ _ _ (by decide), o _ _ _ _ _ (by decide), g0, show gi X (1 + 5) = shf j k (gi S 6) from h6]
        exact shf_up j k _
      · rw [gi_si_s, o _ _ _ _ _ (by decide), o _ _ _ _ _ (by decide), o _ _ _ _ _ (by decide), g0, show gi X (1 + 6) = shf j k (gi S 7) from h7]
        exact shf_up j k _
    · have : k = tn T - 1 - j := by omega
      subst this
      have e : nI (tn T) ≤ nI (j + (tn T - 1 - j) + 1) := nI_le (by omega) (by omega)
      have e9 : nI (tn T) - 1 = nI (tn T - 1) := pk_sub (b := 1) (by omega)
      rw [if_pos e, nm_eq, e9, gi_si_s, upd_s]
      exact Or.inl ⟨_, rfl, X, rfl, hF, fun i _ => by rw [h1], h8, hr, h4, h5, h6, h7⟩
  obtain ⟨r, r1, X, rfl, hF, h1, h8, hr, h4, h5, h6, h7⟩ := main
  have hq : ∀ q, gq (si X 1 0 (nI (tn T - 1))) q = gq S q := fun q => gq_local (hF.2.2.1 q)
  have o : ∀ a, a ≠ 1 → gi (si X 1 0 (nI (tn T - 1))) a = gi X a := fun a ha => gi_si_n _ _ _ ha
  have sv : ∀ {α : Type} (f : Nat → α) p, p < tn T - 1 → shf j (tn T - 1 - j) f p = if j ≤ p then f (p + 1) else f p := by
    intro α f p hp
    unfold shf
    by_cases z : j ≤ p
    · rw [if_pos z, if_pos (by omega)]
    · rw [if_neg z, if_neg (by omega)]
  obtain ⟨a1, a2, a3, a4, a5, a6, a7, a8⟩ := hR
  refine ⟨si X 1 0 (nI (tn T - 1)), r1, FT_si ⟨by omega, by omega⟩ hF _ _, ⟨by rw [gi_si_s, upd_s]; rfl, by rw [gi_si_s, upd_n _ _ (by decide), h1 6 (by decide)]; exact a2, by rw [gi_si_s, upd_n _ _ (by decide), h1 11 (by decide)]; exact a3, fun p hp => ?_, ?_, ?_, ?_, ?_⟩, fun p hp => ?_⟩
  · have hp2 : p < tn T - 1 := hp
    rw [o 4 (by decide), o 5 (by decide), o 6 (by decide), o 7 (by decide), show gr (si X 1 0 (nI (tn T - 1))) (1 + 1) = gr X 2 from rfl, hr, h4, h5, h6, h7]
    rw [sv _ _ hp2, sv _ _ hp2, sv _ _ hp2, sv _ _ hp2, sv _ _ hp2]
    simp only [hq]
    by_cases z : j ≤ p
    · have e : ∀ r, r ≤ 4 → tF (delO T j) r p = tF T r (p + 1) := fun r hr => if_pos ⟨hr, z⟩
      rw [e 0 (by decide), e 1 (by decide), e 2 (by decide), e 3 (by decide), e 4 (by decide), show tK (delO T j) p = tK T (p + 1) from if_pos z, if_pos z, if_pos z, if_pos z, if_pos z, if_pos z]
      exact a4 (p + 1) (by omega)
    · have e : ∀ r, tF (delO T j) r p = tF T r p := fun r => if_neg (fun y => z y.2)
      rw [e 0, e 1, e 2, e 3, e 4, show tK (delO T j) p = tK T p from if_neg z, if_neg z, if_neg z, if_neg z, if_neg z, if_neg z]
      exact a4 p (by omega)
  · intro f hf
    have e : ∀ r, 4 < r → tF (delO T j) r f = tF T r f := fun r hr => if_neg (by omega)
    rw [o 8 (by decide), o 9 (by decide), o 10 (by decide), o 11 (by decide), h8 8 (by decide), h8 9 (by decide), h8 10 (by decide), h8 11 (by decide), e 5 (by decide), e 6 (by decide), e 7 (by decide), e 8 (by decide)]
    exact a5 f hf
  · intro i hi
    have e : ∀ r, 4 < r → tF (delO T j) r i = tF T r i := fun r hr => if_neg (by omega)
    rw [o 12 (by decide), o 13 (by decide), o 14 (by decide), o 15 (by decide), o 16 (by decide), h8 12 (by decide), h8 13 (by decide), h8 14 (by decide), h8 15 (by decide), h8 16 (by decide), e 9 (by decide), e 10 (by decide), e 11 (by decide), e 12 (by decide), e 13 (by decide)]
    exact a6 i hi
  · intro a b ha hb
    have e : tF (delO T j) 14 (4 * a + b) = tF T 14 (4 * a + b) := dl_hi T j (by decide) _
    rw [o 17 (by decide), h8 17 (by decide), e]
    exact a7 a b ha hb
  · intro i hi
    have e : tF (delO T j) 15 i = tF T 15 i := dl_hi T j (by decide) _
    rw [o 18 (by decide), h8 18 (by decide), e]
    exact a8 i hi
  · rw [show gr (si X 1 0 (nI (tn T - 1))) (1 + 1) = gr X 2 from rfl, hr, show tp (si X 1 0 (nI (tn T - 1))) = tp S from hF.2.2.2]
    simp only [hq]
    unfold shf
    by_cases z : j ≤ p ∧ p < j + (tn T - 1 - j)
    · rw [if_pos z]
      exact hf (p + 1) (by omega)
    · rw [if_neg z]
      exact hf p hp
theorem R_leave (g : IR S (T, m)) {j : Nat} (hj : j < tn T) : ∃ Y, lp 1000 l_X12_leaves_27 (nI j, si S 136 15 (nI (tn T - 1))) = some (nI (tn T - 1), Y) ∧ IR Y (delO T j, m) ∧ UpR S Y := by
  have hW := g.1
  have hR := g.2.1
  have n8 : tn T ≤ 8 := hW.1
  have main : ∃ r, lp 1000 l_X12_leaves_27 (nI j, si S 136 15 (nI (tn T - 1))) = some r ∧ ∃ X, r = (nI (tn T - 1), X) ∧ FR (fun a => 136 ≤ a ∧ a < 153) S X ∧ gi X 136 15 = nI (tn T - 1) ∧ (∀ i, i ≠ 15 → gi X 136 i = gi S 136 i) ∧ (∀ a, 137 ≤ a → a < 147 → gi X a = gi S a) ∧ (∀ a, 147 ≤ a → a < 153 → gi X a = shf j (tn T - 1 - j) (gi S a)) := by
    refine lp_inv (m := tn T - 1 - j) (I := fun k x => x.1 = nI (j + k) ∧ FR (fun a => 136 ≤ a ∧ a < 153) S x.2 ∧ gi x.2 136 15 = nI (tn T - 1) ∧ (∀ i, i ≠ 15 → gi x.2 136 i = gi S 136 i) ∧ (∀ a, 137 ≤ a → a < 147 → gi x.2 a = gi S a) ∧ (∀ a, 147 ≤ a → a < 153 → gi x.2 a = shf j k (gi S a))) (fun k x hk hI => ?_) 1000 0 _ (Nat.zero_le _) (by omega) ⟨rfl, FR_si ⟨by omega, by omega⟩ (FR_refl S) _ _, by rw [gi_si_s, upd_s], fun i hi => by rw [gi_si_s, upd_n _ _ hi], fun a h1 h2 => gi_si_n _ _ _ (by omega), fun a h1 h2 => by rw [gi_si_n _ _ _ (by omega)]; exact (shf_0 _ _).symm⟩
    obtain ⟨v, X⟩ := x
    obtain ⟨e1, hF, h1, h2, h3, h4⟩ := hI
    simp only at e1 hF h1 h2 h3 h4
    subst e1
    unfold l_X12_leaves_27 b_X12_leaves_27
    dsimp only
    rw [h1, nI_1]
    rcases Nat.lt_or_ge k (tn T - 1 - j) with hl | hl
    · refine Or.inr ⟨hl, ?_⟩
      have e : ¬ nI (tn T - 1) ≤ nI (j + k) := nI_ge (by omega) (by omega)
      have o : ∀ (X : St) (k i a : Nat) (v : Int32), a ≠ k → gi (si X k i v) a = gi X a := fun X k i a v h => gi_si_n _ _ _ h
      simp only [if_neg e, gd_t (inb_n (show j + k + 1 < 8 by omega)), gd_t (inb_n (show j + k < 8 by omega)), tn_n (show j + k + 1 < 2 ^ 31 by omega), tn_n (show j + k < 2 ^ 31 by omega), nm]
      refine ⟨_, rfl, rfl, FR_si ⟨by omega, by omega⟩ (FR_si ⟨by omega, by omega⟩ (FR_si ⟨by omega, by omega⟩ (FR_si ⟨by omega, by omega⟩ (FR_si ⟨by omega, by omega⟩ (FR_si ⟨by omega, by omega⟩ hF _ _) _ _) _ _) _ _) _ _) _ _, ?_, fun i hi => ?_, fun a ha1 ha2 => ?_, fun a ha1 ha2 => ?_⟩
      all_goals dsimp only
      · simp (disch := omega) only [gi_si_n]; exact h1
      · simp (disch := omega) only [gi_si_n]; exact h2 i hi
      · simp (disch := omega) only [gi_si_n]; exact h3 a ha1 ha2
      · rcases (show a = 147 ∨ a = 148 ∨ a = 149 ∨ a = 150 ∨ a = 151 ∨ a = 152 by omega) with rfl | rfl | rfl | rfl | rfl | rfl
        all_goals
          simp (disch := omega) only [gi_si_n, gi_si_s]
          rw [h4 _ (by decide) (by decide)]
          exact shf_up j k _
    · have : k = tn T - 1 - j := by omega
      subst this
      have e : nI (tn T - 1) ≤ nI (j + (tn T - 1 - j)) := nI_le (by omega) (by omega)
      rw [if_pos e]
      exact Or.inl ⟨_, rfl, X, rfl, hF, h1, h2, h3, h4⟩
  obtain ⟨r, r1, X, rfl, hF, h1, h2, h3, h4⟩ := main
  have sv : ∀ (f : Nat → Int32) p, p < tn T - 1 → shf j (tn T - 1 - j) f p = if j ≤ p then f (p + 1) else f p := by
    intro f p hp
    unfold shf
    by_cases z : j ≤ p
    · rw [if_pos z, if_pos (by omega)]
    · rw [if_neg z, if_neg (by omega)]
  have rep : repR X (delO T j) := by
    obtain ⟨a1, a2, a3, a4, a5, a6, a7, a8, a9, a10⟩ := hR
    have e15 : ∀ i, tF (delO T j) 15 i = tF T 15 i := fun i => dl_hi T j (by decide) _
    refine ⟨h1, by rw [h2 1 (by decide)]; exact a2, by rw [h2 9 (by decide)]; exact a3, fun p hp => ?_, fun f hf => ?_, fun i hi => ?_, fun i hi => ?_, by rw [h2 6 (by decide), e15]; exact a8, by rw [h2 7 (by decide), e15]; exact a9, by rw [h2 8 (by decide), e15]; exact a10⟩
    · have hp2 : p < tn T - 1 := hp
      rw [h4 147 (by decide) (by decide), h4 148 (by decide) (by decide), h4 149 (by decide) (by decide), h4 150 (by decide) (by decide), h4 151 (by decide) (by decide), h4 152 (by decide) (by decide)]
      rw [sv _ _ hp2, sv _ _ hp2, sv _ _ hp2, sv _ _ hp2, sv _ _ hp2, sv _ _ hp2]
      by_cases z : j ≤ p
      · have e : ∀ r, r ≤ 4 → tF (delO T j) r p = tF T r (p + 1) := fun r hr => if_pos ⟨hr, z⟩
        rw [e 0 (by decide), e 1 (by decide), e 2 (by decide), e 3 (by decide), e 4 (by decide), show tK (delO T j) p = tK T (p + 1) from if_pos z, if_pos z, if_pos z, if_pos z, if_pos z, if_pos z, if_pos z]
        exact a4 (p + 1) (show p + 1 < tn T by omega)
      · have e : ∀ r, tF (delO T j) r p = tF T r p := fun r => if_neg (fun y => z y.2)
        rw [e 0, e 1, e 2, e 3, e 4, show tK (delO T j) p = tK T p from if_neg z, if_neg z, if_neg z, if_neg z, if_neg z, if_neg z, if_neg z]
        exact a4 p (show p < tn T by omega)
    · have e : ∀ r, 4 < r → tF (delO T j) r f = tF T r f := fun r hr => if_neg (by omega)
      rw [h3 138 (by decide) (by decide), h3 139 (by decide) (by decide), h3 140 (by decide) (by decide), h3 141 (by decide) (by decide), e 5 (by decide), e 6 (by decide), e 7 (by decide), e 8 (by decide)]
      exact a5 f hf
    · have e : ∀ r, 4 < r → tF (delO T j) r i = tF T r i := fun r hr => if_neg (by omega)
      rw [h3 142 (by decide) (by decide), h3 143 (by decide) (by decide), h3 144 (by decide) (by decide), h3 145 (by decide) (by decide), h3 146 (by decide) (by decide), e 9 (by decide), e 10 (by decide), e 11 (by decide), e 12 (by decide), e 13 (by decide)]
      exact a6 i hi
    · have e : tF (delO T j) 14 i = tF T 14 i := dl_hi T j (by decide) _
      rw [h3 137 (by decide) (by decide), e]
      exact a7 i hi
  exact ⟨X, r1, IR_town (WT_delO hW hj) rep ⟨h2 29 (by decide), h2 30 (by decide), h2 46 (by decide)⟩ (fun a ha => hF.1 a (fun z => by have := z.1; have := z.2; omega)) (FR_gl hF 158) g, UpR_FR (fun a z => z.1) hF⟩
theorem J_leaves (c : IC S (T, m)) (g : IR S (T, m)) (p : Int32) : JJ S (L_X11_leaves p) (L_X12_leaves p) := by
  have n8 : tn T ≤ 8 := c.2.1.1
  obtain ⟨hW, cR⟩ := IC_1 c
  rcases ix_split p (tn T) (by omega) with ⟨j, hj, rfl⟩ | bad
  · obtain ⟨Y, y1, y2, y3, y4⟩ := C_drop hW cR c.2.2.2.1 hj
    refine JJ_of (nI (tn T - 1)) (delO T j, m) g ⟨Y, ?_, ?_, fun a ha => ⟨(y2.1 a (fun w => by have := w.2; omega)).1, y2.2.1 a, (y2.1 a (fun w => by have := w.2; omega)).2⟩⟩ (fun S1 g1 => ?_)
    · unfold L_X11_leaves b_X11_leaves_0
      rw [C_nb0 cR.1 n8 hj, Option.bind_some, if_pos rfl, y1]
      rfl
    · exact IC_town (WT_delO hW hj) y3 y4 (fun a ha => y2.1 a (fun w => by have := w.1; have := w.2; omega)) (fun a _ => y2.2.2.1 a) (by rw [y2.2.2.2]; exact Nat.le_refl _) c
    · have g2 := IR_thr g1 0
      obtain ⟨W, w1, w2, w3⟩ := R_leave g2 hj
      refine ⟨W, ?_, w2, UpR_tr (Up_thr S1 0) w3⟩
      unfold L_X12_leaves b_X12_leaves_0
      rw [nm_eq, R_one1 g2.2.1.1 n8 hj, Option.bind_some, if_neg (by decide), nm_eq, g2.2.1.1, show nI (tn T) - 1 = nI (tn T - 1) from pk_sub (b := 1) (by omega), w1]
  · refine JJ_D c g (-1) ⟨S, ?_, UpD_refl S⟩ (fun S1 g1 => ⟨_, ?_, RE_0 g1⟩)
    · unfold L_X11_leaves b_X11_leaves_0
      rw [C_nb1 cR.1 bad]
      rfl
    · unfold L_X12_leaves b_X12_leaves_0
      rw [nm_eq, R_one0 (RE_0 g1).2.2.1.1 n8 bad]
      rfl
end LEAVES
