/-! More or fewer PEOPLE, FACTS, PLANTS. -/
def wN (T : TT) (n m k : Nat) : TT := ((n, m, k), T.2)
section COUNTS
variable {S : St} {t : Nat} {T : TT}
theorem repC_tm (ht : isTown t) (h : repC S t T) (k : Nat) (hv : ∀ f, tm T ≤ f → f < k → gi S (t + 7) f = tF T 5 f ∧ gi S (t + 8) f = tF T 6 f ∧ gi S (t + 9) f = tF T 7 f ∧ gi S (t + 10) f = tF T 8 f) : repC (si S t 6 (nI k)) t (wN T (tn T) k (tk T)) := by
  have o : ∀ a, a ≠ t → gi (si S t 6 (nI k)) a = gi S a := fun a ha => gi_si_n _ _ _ ha
  have o2 : ∀ i, i ≠ 6 → gi (si S t 6 (nI k)) t i = gi S t i := fun i hi => by rw [gi_si_s, upd_n _ _ hi]
  obtain ⟨a1, a2, a3, a4, a5, a6, a7, a8⟩ := h
  refine ⟨by rw [o2 0 (by decide)]; exact a1, by rw [gi_si_s, upd_s]; rfl, by rw [o2 11 (by decide)]; exact a3, fun p hp => ?_, fun f hf => ?_, fun i hi => ?_, fun a b ha hb => ?_, fun i hi => ?_⟩
  · rw [o (t + 3) (by omega), o (t + 4) (by omega), o (t + 5) (by omega), o (t + 6) (by omega)]; exact a4 p hp
  · rw [o (t + 7) (by omega), o (t + 8) (by omega), o (t + 9) (by omega), o (t + 10) (by omega)]
    rcases Nat.lt_or_ge f (tm T) with z | z
    · exact a5 f z
    · exact hv f z hf
  · rw [o (t + 11) (by omega), o (t + 12) (by omega), o (t + 13) (by omega), o (t + 14) (by omega), o (t + 15) (by omega)]; exact a6 i hi
  · rw [o (t + 16) (by omega)]; exact a7 a b ha hb
  · rw [o (t + 17) (by omega)]; exact a8 i hi
theorem repC_tk (ht : isTown t) (h : repC S t T) (k : Nat) (hv : ∀ i, tk T ≤ i → i < k → gi S (t + 11) i = tF T 9 i ∧ gi S (t + 12) i = tF T 10 i ∧ gi S (t + 13) i = tF T 11 i ∧ gi S (t + 14) i = tF T 12 i ∧ gi S (t + 15) i = tF T 13 i) : repC (si S t 11 (nI k)) t (wN T (tn T) (tm T) k) := by
  have o : ∀ a, a ≠ t → gi (si S t 11 (nI k)) a = gi S a := fun a ha => gi_si_n _ _ _ ha
  have o2 : ∀ i, i ≠ 11 → gi (si S t 11 (nI k)) t i = gi S t i := fun i hi => by rw [gi_si_s, upd_n _ _ hi]
  obtain ⟨a1, a2, a3, a4, a5, a6, a7, a8⟩ := h
  refine ⟨by rw [o2 0 (by decide)]; exact a1, by rw [o2 6 (by decide)]; exact a2, by rw [gi_si_s, upd_s]; rfl, fun p hp => ?_, fun f hf => ?_, fun i hi => ?_, fun a b ha hb => ?_, fun i hi => ?_⟩
  · rw [o (t + 3) (by omega), o (t + 4) (by omega), o (t + 5) (by omega), o (t + 6) (by omega)]; exact a4 p hp
  · rw [o (t + 7) (by omega), o (t + 8) (by omega), o (t + 9) (by omega), o (t + 10) (by omega)]; exact a5 f hf
  · rw [o (t + 11) (by omega), o (t + 12) (by omega), o (t + 13) (by omega), o (t + 14) (by omega), o (t + 15) (by omega)]
    rcases Nat.lt_or_ge i (tk T) with z | z
    · exact a6 i z
    · exact hv i z hi
  · rw [o (t + 16) (by omega)]; exact a7 a b ha hb
  · rw [o (t + 17) (by omega)]; exact a8 i hi
theorem repC_tn (ht : isTown t) (h : repC S t T) (k : Nat) (hv : ∀ p, tn T ≤ p → p < k → (∃ q, gr S (t + 1) p = some q ∧ gq S q = some (tK T p, tF T 0 p)) ∧ gi S (t + 3) p = tF T 1 p ∧ gi S (t + 4) p = tF T 2 p ∧ gi S (t + 5) p = tF T 3 p ∧ gi S (t + 6) p = tF T 4 p) : repC (si S t 0 (nI k)) t (wN T k (tm T) (tk T)) := by
  have o : ∀ a, a ≠ t → gi (si S t 0 (nI k)) a = gi S a := fun a ha => gi_si_n _ _ _ ha
  have o2 : ∀ i, i ≠ 0 → gi (si S t 0 (nI k)) t i = gi S t i := fun i hi => by rw [gi_si_s, upd_n _ _ hi]
  obtain ⟨a1, a2, a3, a4, a5, a6, a7, a8⟩ := h
  refine ⟨by rw [gi_si_s, upd_s]; rfl, by rw [o2 6 (by decide)]; exact a2, by rw [o2 11 (by decide)]; exact a3, fun p hp => ?_, fun f hf => ?_, fun i hi => ?_, fun a b ha hb => ?_, fun i hi => ?_⟩
  · rw [o (t + 3) (by omega), o (t + 4) (by omega), o (t + 5) (by omega), o (t + 6) (by omega)]
    rcases Nat.lt_or_ge p (tn T) with z | z
    · exact a4 p z
    · exact hv p z hp
  · rw [o (t + 7) (by omega), o (t + 8) (by omega), o (t + 9) (by omega), o (t + 10) (by omega)]; exact a5 f hf
  · rw [o (t + 11) (by omega), o (t + 12) (by omega), o (t + 13) (by omega), o (t + 14) (by omega), o (t + 15) (by omega)]; exact a6 i hi
  · rw [o (t + 16) (by omega)]; exact a7 a b ha hb
  · rw [o (t + 17) (by omega)]; exact a8 i hi
/-- one FACT more -/
def addF (T : TT) (c w h : Int32) : TT := ((tn T, tm T + 1, tk T), tK T, uD (uD (uD (uD (tF T) 5 (tm T) c) 6 (tm T) w) 7 (tm T) h) 8 (tm T) 10)
def okF (c w h : Int32) : Prop := (0 ≤ c ∧ c ≤ 3) ∧ (-9 ≤ w ∧ w ≤ 9) ∧ (0 ≤ h ∧ h ≤ 23)
theorem WT_addF {c w h : Int32} (hW : WT T) (ok : okF c w h) (h6 : tm T < 6) : WT (addF T c w h) := by
  obtain ⟨h1, h2, h3, h4, h5, h7⟩ := hW
  obtain ⟨x, hx, ex⟩ := in_of (n := 3) rfl (by decide) ok.1
  obtain ⟨y, hy, ey⟩ := in_of (n := 23) rfl (by decide) ok.2.2
  have d : ∀ a, a < 5 ∨ 8 < a → tF (addF T c w h) a = tF T a := fun a ha => by
    show uD (uD (uD (uD (tF T) 5 (tm T) c) 6 (tm T) w) 7 (tm T) h) 8 (tm T) 10 a = tF T a
    rw [uD_n _ _ _ (by omega), uD_n _ _ _ (by omega), uD_n _ _ _ (by omega), uD_n _ _ _ (by omega)]
  have e5 : tF (addF T c w h) 5 = upd (tF T 5) (tm T) c := rfl
  have e6 : tF (addF T c w h) 6 = upd (tF T 6) (tm T) w := rfl
  have e7 : tF (addF T c w h) 7 = upd (tF T 7) (tm T) h := rfl
  have e8 : tF (addF T c w h) 8 = upd (tF T 8) (tm T) 10 := rfl
  refine ⟨h1, h6, h3, ?_, fun f hf => ?_, ?_⟩
  · rw [d 0 (by omega), d 1 (by omega), d 2 (by omega), d 3 (by omega), d 4 (by omega)]; exact h4
  · rw [e5, e6, e7, e8]
    by_cases z : f = tm T
    · subst z
      simp only [upd_s]
      exact ⟨⟨x, by omega, ex⟩, ok.2.1, ⟨y, by omega, ey⟩, 10, by decide, rfl⟩
    · simp only [upd_n _ _ z]
      have hf2 : f < tm T + 1 := hf
      exact h5 f (by omega)
  · rw [d 9 (by omega), d 10 (by omega), d 11 (by omega), d 12 (by omega), d 13 (by omega), d 14 (by omega), d 15 (by omega)]; exact h7
def PT (t a : Nat) : Prop := t ≤ a ∧ a ≤ t + 17
theorem C_addFact (ht : isTown t) (hW : WT T) (hR : repC S t T) (c w h : Int32) :
    (¬ okF c w h → L_X10_addFact t c w h S = some (-1, S)) ∧ (okF c w h → ¬ tm T < 6 → L_X10_addFact t c w h S = some (-2, S)) ∧
    (okF c w h → tm T < 6 → ∃ S', L_X10_addFact t c w h S = some (nI (tm T), S') ∧ repC S' t (addF T c w h) ∧ FR (PT t) S S') := by
  have hn : gi S t 6 = nI (tm T) := hR.2.1
  have m6 := hW.2.1
  refine ⟨fun nok => ?_, fun ok hf => ?_, fun ok hf => ?_⟩
  · unfold L_X10_addFact b_X10_addFact_0
    rw [A_isOut, A_isOut, A_isOut]
    by_cases h1 : 0 ≤ c ∧ c ≤ 3
    · by_cases h2 : -9 ≤ w ∧ w ≤ 9
      · by_cases h3 : 0 ≤ h ∧ h ≤ 23
        · exact absurd ⟨h1, h2, h3⟩ nok
        · simp [h1, h2, h3]
      · simp [h1, h2]
    · simp [h1]
  · have e : ¬ nI (tm T) < 6 := nI_nlt (a := tm T) (b := 6) (by omega) (by omega)
    unfold L_X10_addFact b_X10_addFact_0
    rw [A_isOut, A_isOut, A_isOut, if_pos ok.1, if_pos ok.2.1, if_pos ok.2.2]
    simp only [Option.bind_some, if_true, hn, if_neg e]
  · have e : nI (tm T) < 6 := nI_lt (a := tm T) (b := 6) hf (by decide)
    have r1 := repC_put ht hR (r := 5) (by decide) (tm T) c
    have r2 := repC_put ht r1 (r := 6) (by decide) (tm T) w
    have r3 := repC_put ht r2 (r := 7) (by decide) (tm T) h
    have r4 := repC_put ht r3 (r := 8) (by decide) (tm T) 10
    have r5 := repC_tm ht r4 (tm T + 1) (fun f hf1 hf2 => by
      have : f = tm T := by
        have hf3 : tm T ≤ f := hf1
        omega
      subst this
      refine ⟨?_, ?_, ?_, ?_⟩
      · exact put_eq (b := t + 2) (a := 5) (put_eq (b := t + 2) (a := 5) (put_eq (b := t + 2) (a := 5) (by
          show gi (si S (t + 2 + 5) (tm T) c) (t + 2 + 5) (tm T) = uD (tF T) 5 (tm T) c 5 (tm T)
          rw [gi_si_s, upd_s, uD_eq])))
      · exact put_eq (b := t + 2) (a := 6) (put_eq (b := t + 2) (a := 6) (by
          show gi (si (si S (t + 2 + 5) (tm T) c) (t + 2 + 6) (tm T) w) (t + 2 + 6) (tm T) = uD (uD (tF T) 5 (tm T) c) 6 (tm T) w 6 (tm T)
          rw [gi_si_s, upd_s, uD_eq]))
      · exact put_eq (b := t + 2) (a := 7) (by
          show gi (si (si (si S (t + 2 + 5) (tm T) c) (t + 2 + 6) (tm T) w) (t + 2 + 7) (tm T) h) (t + 2 + 7) (tm T) = uD (uD (uD (tF T) 5 (tm T) c) 6 (tm T) w) 7 (tm T) h 7 (tm T)
          rw [gi_si_s, upd_s, uD_eq])
      · show gi (si (si (si (si S (t + 2 + 5) (tm T) c) (t + 2 + 6) (tm T) w) (t + 2 + 7) (tm T) h) (t + 2 + 8) (tm T) 10) (t + 2 + 8) (tm T) = uD (uD (uD (uD (tF T) 5 (tm T) c) 6 (tm T) w) 7 (tm T) h) 8 (tm T) 10 8 (tm T)
        rw [gi_si_s, upd_s, uD_eq])
    refine ⟨_, ?_, r5, FR_si ⟨by omega, by omega⟩ (FR_si ⟨by omega, by omega⟩ (FR_si ⟨by omega, by omega⟩ (FR_si ⟨by omega, by omega⟩ (FR_si ⟨by omega, by omega⟩ (FR_refl S) _ _) _ _) _ _) _ _) _ _⟩
    unfold L_X10_addFact b_X10_addFact_0
    rw [A_isOut, A_isOut, A_isOut, if_pos ok.1, if_pos ok.2.1, if_pos ok.2.2]
    have k7 : t ≠ t + 7 := by omega
    have k8 : t ≠ t + 8 := by omega
    have k9 : t ≠ t + 9 := by omega
    have k10 : t ≠ t + 10 := by omega
    simp only [Option.bind_some, if_true, hn, if_pos e, gd_t (inb_n hf), tn_n (show tm T < 2 ^ 31 by omega), nm, gi_si_n _ _ _ k7, gi_si_n _ _ _ k8, gi_si_n _ _ _ k9, gi_si_n _ _ _ k10, gi_si_s, upd_s, nI_1]
    have e9 : nI (tm T + 1) - 1 = nI (tm T) := pk_sub (b := 1) (by omega)
    rw [e9]
end COUNTS
