/-! What a day's rows are like behind the people 0 .. k-1 of the hour h. -/
def DI (T : TT) (bit : Nat → Bool) (D : Nat → Nat → Int32) (h k : Nat) : Prop :=
  (∀ p, p < tn T → sDone T h k p → (D 4 p = if sTurns T bit D p then kSide (sSec T bit p) else 0) ∧ (sTurns T bit D p = true → D 5 p = kStr (tK T p) (tF T 0 p) (sSec T bit p) ∧ D 6 p = sAt T p ∧ D 7 p = kFade (tK T p) (tF T 15 1))) ∧
  (∀ p, p < 8 → ¬ (p < tn T ∧ sDone T h k p) → D 4 p = 0) ∧
  (∀ i, i < 3 → if i < tk T then D 4 (8 + i) = tF T 10 i ∧ D 5 (8 + i) = tF T 11 i ∧ D 6 (8 + i) = tF T 13 i ∧ D 7 (8 + i) = tF T 15 1 else D 4 (8 + i) = 0) ∧
  (∀ u, u < 11 → D 8 u = -4 ∨ (D 4 u ≠ 0 ∧ ∃ q, q < tn T ∧ sDone T h k q ∧ D 8 u = nI q ∧ D 2 q = nI u)) ∧
  (∀ p, p < tn T → sDone T h k p → D 0 p = sFirst T bit p ∧ ((D 2 p = -4 ∧ D 3 p = 0 ∧ D 1 p = kSide (sFirst T bit p)) ∨ ∃ u, u < 11 ∧ D 2 p = nI u ∧ D 8 u = nI p ∧ D 4 u ≠ 0 ∧ D 6 u ≤ sDue T p ∧ D 1 p = D 4 u ∧ D 3 p ≤ tF T 4 p))
theorem done_n {T : TT} {h k q d : Nat} (e : sDue T q = nI d) (hd : d < 24) : sDone T h k q ↔ d < h ∨ d = h ∧ q < k := by
  constructor
  · rintro ⟨d', h1, h2, h3⟩
    have : d' = d := (nI_eq (by omega) (by omega)).mp (h2.symm.trans e)
    subst this
    exact h3
  · exact fun z => ⟨d, hd, e, z⟩
theorem turns_congr {T : TT} {bit : Nat → Bool} {D E : Nat → Nat → Int32} {p : Nat} (e : D 1 p = E 1 p) : sTurns T bit D p = sTurns T bit E p := by unfold sTurns; rw [e]
section DINV
variable {T : TT} {bit : Nat → Bool} {sh : Bool} {D : Nat → Nat → Int32} {h p : Nat}
theorem cho_of : (∀ r, 4 ≤ r → r < 8 → sChoose T bit sh D p r = D r) ∧ (∀ r q, r < 4 → q ≠ p → sChoose T bit sh D p r q = D r q) ∧ sChoose T bit sh D p 0 p = sFirst T bit p ∧
    ((sBuy T bit sh D p = (-4, 0, 0) ∧ sChoose T bit sh D p 8 = D 8 ∧ sChoose T bit sh D p 2 p = -4 ∧ sChoose T bit sh D p 3 p = 0 ∧ sChoose T bit sh D p 1 p = kSide (sFirst T bit p)) ∨
     ∃ u, u < 11 ∧ sBuy T bit sh D p = (nI u, sLeft D u (sDue T p), sPrice T D u (sDue T p)) ∧ sSale T D u (sDue T p) = true ∧ sPrice T D u (sDue T p) ≤ tF T 4 p ∧ sChoose T bit sh D p 8 = upd (D 8) u (nI p) ∧ sChoose T bit sh D p 2 p = nI u ∧ sChoose T bit sh D p 3 p = sPrice T D u (sDue T p) ∧ sChoose T bit sh D p 1 p = D 4 u) := by
  have hb := buy_of T bit sh D p
  unfold sChoose
  generalize sBuy T bit sh D p = b at hb ⊢
  rcases hb with rfl | ⟨u, hu, rfl, hs, hp⟩
  · rw [if_neg (by decide)]
    refine ⟨fun r h1 h2 => ?_, fun r q h1 h2 => ?_, ?_, Or.inl ⟨rfl, ?_, ?_, ?_, ?_⟩⟩
    · rw [uD_n _ _ _ (by omega), uD_n _ _ _ (by omega), uD_n _ _ _ (by omega), uD_n _ _ _ (by omega)]
    · rcases (by omega : r = 0 ∨ r = 1 ∨ r = 2 ∨ r = 3) with rfl | rfl | rfl | rfl <;> exact upd_n _ _ h2
    · exact upd_s _ _ _
    · rfl
    · exact upd_s _ _ _
    · exact upd_s _ _ _
    · exact upd_s _ _ _
  · have e0 : (0 : Int32) ≤ nI u := nI_pos' (by omega)
    rw [if_pos e0]
    simp only [tn_n (show u < 2 ^ 31 by omega)]
    refine ⟨fun r h1 h2 => ?_, fun r q h1 h2 => ?_, ?_, Or.inr ⟨u, hu, rfl, hs, hp, ?_, ?_, ?_, ?_⟩⟩
    · rw [uD_n _ _ _ (by omega), uD_n _ _ _ (by omega), uD_n _ _ _ (by omega), uD_n _ _ _ (by omega), uD_n _ _ _ (by omega)]
    · rcases (by omega : r = 0 ∨ r = 1 ∨ r = 2 ∨ r = 3) with rfl | rfl | rfl | rfl <;> exact upd_n _ _ h2
    · exact upd_s _ _ _
    · rfl
    · exact upd_s _ _ _
    · exact upd_s _ _ _
    · exact upd_s _ _ _
theorem thi_of : (∀ r, r < 4 ∨ 8 ≤ r → sThink T bit D p r = D r) ∧ (∀ r q, q ≠ p → sThink T bit D p r q = D r q) ∧ (sTurns T bit D p = false → sThink T bit D p = D) ∧
    (sTurns T bit D p = true → sThink T bit D p 4 p = kSide (sSec T bit p) ∧ sThink T bit D p 5 p = kStr (tK T p) (tF T 0 p) (sSec T bit p) ∧ sThink T bit D p 6 p = sAt T p ∧ sThink T bit D p 7 p = kFade (tK T p) (tF T 15 1)) := by
  unfold sThink
  cases sTurns T bit D p with
  | false =>
    rw [if_neg (by decide)]
    exact ⟨fun _ _ => rfl, fun _ _ _ => rfl, fun _ => rfl, fun z => by cases z⟩
  | true =>
    rw [if_pos rfl]
    refine ⟨fun r h1 => ?_, fun r q h2 => ?_, (fun z => by cases z), fun _ => ⟨?_, ?_, ?_, ?_⟩⟩
    · rw [uD_n _ _ _ (by omega), uD_n _ _ _ (by omega), uD_n _ _ _ (by omega), uD_n _ _ _ (by omega)]
    · by_cases a7 : r = 7
      · subst a7; exact upd_n _ _ h2
      by_cases a6 : r = 6
      · subst a6; exact upd_n _ _ h2
      by_cases a5 : r = 5
      · subst a5; exact upd_n _ _ h2
      by_cases a4 : r = 4
      · subst a4; exact upd_n _ _ h2
      rw [uD_n _ _ _ a7, uD_n _ _ _ a6, uD_n _ _ _ a5, uD_n _ _ _ a4]
    · exact upd_s _ _ _
    · exact upd_s _ _ _
    · exact upd_s _ _ _
    · exact upd_s _ _ _
theorem sale_of {u : Nat} {hr : Int32} (e : sSale T D u hr = true) : D 4 u ≠ 0 ∧ D 6 u ≤ hr ∧ 0 < sLeft D u hr := by
  unfold sSale at e
  simp only [Bool.and_eq_true, decide_eq_true_eq] at e
  exact ⟨e.1.1.1, e.1.1.2, e.2⟩
theorem DI_step (hp : p < tn T) (hn : tn T ≤ 8) (hh : h < 24) (hd : sDue T p = nI h) (I : DI T bit D h p) : DI T bit (sStep T bit sh D p) h (p + 1) := by
  obtain ⟨i1, i2, i3, i4, i5⟩ := I
  have nd : ¬ sDone T h p p := fun z => by have := (done_n hd hh).mp z; omega
  have d0 : D 4 p = 0 := i2 p (by omega) (fun z => nd z.2)
  have dn : ∀ q, sDone T h (p + 1) q ↔ sDone T h p q ∨ q = p := by
    intro q
    constructor
    · rintro ⟨d, h1, h2, h3⟩
      by_cases e : q = p
      · exact Or.inr e
      · exact Or.inl ⟨d, h1, h2, by omega⟩
    · rintro (⟨d, h1, h2, h3⟩ | rfl)
      · exact ⟨d, h1, h2, by omega⟩
      · exact ⟨h, hh, hd, by omega⟩
  unfold sStep
  obtain ⟨a1, a2, a3, a4⟩ := cho_of (T := T) (bit := bit) (sh := sh) (D := D) (p := p)
  generalize sChoose T bit sh D p = E at a1 a2 a3 a4 ⊢
  obtain ⟨b1, b2, b3, b4⟩ := thi_of (T := T) (bit := bit) (D := E) (p := p)
  generalize sThink T bit E p = F at b1 b2 b3 b4 ⊢
  have tF : sTurns T bit F p = sTurns T bit E p := turns_congr (by rw [b1 1 (by decide)])
  have f4 : ∀ u, u ≠ p → F 4 u = D 4 u := fun u hu => by rw [b2 4 u hu, a1 4 (by decide) (by decide)]
  have f5 : ∀ u, u ≠ p → F 5 u = D 5 u := fun u hu => by rw [b2 5 u hu, a1 5 (by decide) (by decide)]
  have f6 : ∀ u, u ≠ p → F 6 u = D 6 u := fun u hu => by rw [b2 6 u hu, a1 6 (by decide) (by decide)]
  have f7 : ∀ u, u ≠ p → F 7 u = D 7 u := fun u hu => by rw [b2 7 u hu, a1 7 (by decide) (by decide)]
  have f8 : F 8 = E 8 := b1 8 (by decide)
  have fr : ∀ r q, r < 4 → q ≠ p → F r q = D r q := fun r q hr hq => by rw [b1 r (Or.inl hr), a2 r q hr hq]
  have fp : ∀ r, r < 4 → F r p = E r p := fun r hr => by rw [b1 r (Or.inl hr)]
  have nz : ∀ u, D 4 u ≠ 0 → u ≠ p := fun u hu e => hu (by rw [e]; exact d0)
  refine ⟨fun q hq hdq => ?_, fun q hq hdq => ?_, fun i hi => ?_, fun u hu => ?_, fun q hq hdq => ?_⟩
  · by_cases e : q = p
    · subst e
      rw [tF]
      cases hT : sTurns T bit E q with
      | true =>
        obtain ⟨c4, c5, c6, c7⟩ := b4 hT
        exact ⟨c4, fun _ => ⟨c5, c6, c7⟩⟩
      | false =>
        rw [if_neg (by decide), b3 hT, a1 4 (by decide) (by decide)]
        exact ⟨d0, fun z => by cases z⟩
    · have hT : sTurns T bit F q = sTurns T bit D q := turns_congr (fr 1 q (by decide) e)
      rw [hT, f4 q e, f5 q e, f6 q e, f7 q e]
      exact i1 q hq (((dn q).mp hdq).resolve_right e)
  · have e : q ≠ p := fun z => hdq ⟨by omega, (dn q).mpr (Or.inr z)⟩
    rw [f4 q e]
    exact i2 q hq (fun z => hdq ⟨z.1, (dn q).mpr (Or.inl z.2)⟩)
  · have e : 8 + i ≠ p := by omega
    rw [f4 _ e, f5 _ e, f6 _ e, f7 _ e]
    exact i3 i hi
  · have old : D 8 u = -4 ∨ (F 4 u ≠ 0 ∧ ∃ q, q < tn T ∧ sDone T h (p + 1) q ∧ D 8 u = nI q ∧ F 2 q = nI u) := by
      rcases i4 u hu with c | ⟨c1, q, c2, c3, c4, c5⟩
      · exact Or.inl c
      · have eq : q ≠ p := fun z => nd (z ▸ c3)
        exact Or.inr ⟨by rw [f4 u (nz u c1)]; exact c1, q, c2, (dn q).mpr (Or.inl c3), c4, by rw [fr 2 q (by decide) eq]; exact c5⟩
    rw [f8]
    rcases a4 with ⟨-, e8, -⟩ | ⟨w, hw, -, hs, -, e8, e2, -, -⟩
    · rw [e8]; exact old
    · rw [e8]
      by_cases e : u = w
      · subst e
        rw [upd_s]
        have c := (sale_of hs).1
        exact Or.inr ⟨by rw [f4 u (nz u c)]; exact c, p, hp, (dn p).mpr (Or.inr rfl), rfl, by rw [fp 2 (by decide)]; exact e2⟩
      · rw [upd_n _ _ e]; exact old
  · by_cases e : q = p
    · subst e
      rw [fp 0 (by decide), fp 1 (by decide), fp 2 (by decide), fp 3 (by decide), a3]
      refine ⟨rfl, ?_⟩
      rcases a4 with ⟨-, -, e2, e3, e1⟩ | ⟨w, hw, -, hs, hpr, e8, e2, e3, e1⟩
      · exact Or.inl ⟨e2, e3, e1⟩
      · obtain ⟨c1, c2, -⟩ := sale_of hs
        exact Or.inr ⟨w, hw, e2, by rw [f8, e8, upd_s], by rw [f4 w (nz w c1)]; exact c1, by rw [f6 w (nz w c1)]; exact c2, by rw [f4 w (nz w c1)]; exact e1, by rw [e3]; exact hpr⟩
    · have hold := ((dn q).mp hdq).resolve_right e
      rw [fr 0 q (by decide) e, fr 1 q (by decide) e, fr 2 q (by decide) e, fr 3 q (by decide) e]
      obtain ⟨g0, g⟩ := i5 q hq hold
      refine ⟨g0, g.imp id ?_⟩
      rintro ⟨w, hw, w2, w8, w4, w6, w1, w3⟩
      refine ⟨w, hw, w2, ?_, by rw [f4 w (nz w w4)]; exact w4, by rw [f6 w (nz w w4)]; exact w6, by rw [f4 w (nz w w4)]; exact w1, w3⟩
      rw [f8]
      rcases a4 with ⟨-, e8, -⟩ | ⟨v, hv, -, hs, -, e8, -⟩
      · rw [e8]; exact w8
      · rw [e8]
        have vw : w ≠ v := by
          rintro rfl
          unfold sSale at hs
          simp only [Bool.and_eq_true, decide_eq_true_eq, Bool.not_eq_true', Bool.and_eq_false_iff, decide_eq_false_iff_not] at hs
          have q31 : q < 2 ^ 31 := by omega
          rw [w8, nI_clamp q31] at hs
          rcases hs.1.2 with z | z
          · exact z (nI_pos' q31)
          · obtain ⟨d, hd1, hd2, hd3⟩ := hold
            apply z
            rw [hd2, hd]
            exact nI_le (by omega) (by omega)
        rw [upd_n _ _ vw]; exact w8
theorem DI_skip (hh : h < 24) (hd : sDue T p ≠ nI h) (I : DI T bit D h p) : DI T bit D h (p + 1) := by
  have dn : ∀ q, sDone T h (p + 1) q ↔ sDone T h p q := by
    intro q
    constructor
    · rintro ⟨d, h1, h2, h3⟩
      refine ⟨d, h1, h2, h3.imp id (fun z => ⟨z.1, ?_⟩)⟩
      have : q ≠ p := by rintro rfl; exact hd (by rw [h2, z.1])
      omega
    · rintro ⟨d, h1, h2, h3⟩
      exact ⟨d, h1, h2, by omega⟩
  unfold DI
  simp only [dn]
  exact I
theorem DI_people (hn : tn T ≤ 8) (hh : h < 24) (I : DI T bit D h 0) : ∀ k, k ≤ tn T → DI T bit (sPeople T bit sh h D k) h k := by
  intro k
  induction k with
  | zero => intro _; exact I
  | succ k ih =>
    intro hk
    have Ik := ih (by omega)
    rw [sPeople]
    by_cases e : sDue T k = nI h
    · rw [if_pos e]; exact DI_step (by omega) hn hh e Ik
    · rw [if_neg e]; exact DI_skip hh e Ik
theorem DI_next (I : DI T bit D h (tn T)) : DI T bit D (h + 1) 0 := by
  have dn : ∀ q, q < tn T → (sDone T (h + 1) 0 q ↔ sDone T h (tn T) q) := by
    intro q hq
    constructor
    · rintro ⟨d, h1, h2, h3⟩
      exact ⟨d, h1, h2, by omega⟩
    · rintro ⟨d, h1, h2, h3⟩
      exact ⟨d, h1, h2, by omega⟩
  obtain ⟨i1, i2, i3, i4, i5⟩ := I
  refine ⟨fun p hp hd => i1 p hp ((dn p hp).mp hd), fun p hp hd => i2 p hp (fun z => hd ⟨z.1, (dn p z.1).mpr z.2⟩), i3, fun u hu => ?_, fun p hp hd => i5 p hp ((dn p hp).mp hd)⟩
  exact (i4 u hu).imp id (fun ⟨c, q, c2, c3, c4⟩ => ⟨c, q, c2, (dn q c2).mpr c3, c4⟩)
theorem DI_hours (hW : WT T) : ∀ h, h ≤ 24 → DI T bit (sHours T bit sh h) h 0 := by
  intro h
  induction h with
  | zero =>
    intro _
    have nd : ∀ q, ¬ sDone T 0 0 q := fun q ⟨d, _, _, z⟩ => by omega
    refine ⟨fun p _ hd => absurd hd (nd p), fun p hp _ => ?_, fun i hi => ?_, fun u _ => Or.inl rfl, fun p _ hd => absurd hd (nd p)⟩
    · show (if 8 ≤ p ∧ p - 8 < tk T then _ else (0 : Int32)) = 0
      rw [if_neg (by omega)]
    · have e : 8 + i - 8 = i := by omega
      by_cases c : i < tk T
      · rw [if_pos c]
        refine ⟨?_, ?_, ?_, ?_⟩
        · show (if 8 ≤ 8 + i ∧ 8 + i - 8 < tk T then tF T 10 (8 + i - 8) else (0 : Int32)) = _
          rw [if_pos (by omega), e]
        · show (if 8 ≤ 8 + i ∧ 8 + i - 8 < tk T then tF T 11 (8 + i - 8) else (0 : Int32)) = _
          rw [if_pos (by omega), e]
        · show (if 8 ≤ 8 + i ∧ 8 + i - 8 < tk T then tF T 13 (8 + i - 8) else (0 : Int32)) = _
          rw [if_pos (by omega), e]
        · show (if 8 ≤ 8 + i ∧ 8 + i - 8 < tk T then tF T 15 1 else (0 : Int32)) = _
          rw [if_pos (by omega)]
      · rw [if_neg c]
        show (if 8 ≤ 8 + i ∧ 8 + i - 8 < tk T then _ else (0 : Int32)) = 0
        rw [if_neg (by omega)]
  | succ h ih =>
    intro hh
    exact DI_next (DI_people hW.1 (by omega) (ih (by omega)) (tn T) (Nat.le_refl _))
end DINV
