/-! The reference's day: one chooses. -/
theorem max0_nn (x : Int32) : (0 : Int32) ≤ kMax0 x := by
  unfold kMax0
  by_cases h : 0 < x
  · rw [if_pos h]; exact Int32.le_of_lt h
  · rw [if_neg h]; exact Int32.le_refl 0
theorem i_sub {a b : Int32} (ha : (0 : Int32) ≤ a) (hb : (0 : Int32) ≤ b) : (0 < a - b ↔ b < a) ∧ (a - b = 0 ↔ a = b) := by
  have a1 : 0 ≤ a.toInt := by simpa using Int32.le_iff_toInt_le.mp ha
  have b1 : 0 ≤ b.toInt := by simpa using Int32.le_iff_toInt_le.mp hb
  have a2 := a.toInt_lt
  have b2 := b.toInt_lt
  have e : (a - b).toInt = a.toInt - b.toInt := by
    rw [Int32.toInt_sub]
    exact Int.bmod_eq_of_le (by omega) (by omega)
  constructor
  · rw [Int32.lt_iff_toInt_lt, Int32.lt_iff_toInt_lt, e]
    simp <;> omega
  · rw [← Int32.toInt_inj, ← Int32.toInt_inj, e]
    simp <;> omega
section RCHS
variable {S : St} {T : TT} {bit : Nat → Bool} {sh : Bool} {D : Nat → Nat → Int32} {h p : Nat}
theorem stp_of (hW : WT T) (hp : p < tn T) (hh : h < 24) (hd : sDue T p = nI h) (I : DI T bit D h p) :
    (∀ u, u ≠ p → sStep T bit sh D p 4 u = D 4 u ∧ sStep T bit sh D p 5 u = D 5 u ∧ sStep T bit sh D p 6 u = D 6 u ∧ sStep T bit sh D p 7 u = D 7 u) ∧
    (∀ r q, r < 4 → q ≠ p → sStep T bit sh D p r q = D r q) ∧ sStep T bit sh D p 0 p = sFirst T bit p ∧ D 4 p = 0 ∧ D 8 p = -4 ∧
    (sStep T bit sh D p 4 p = 0 ∨ ∃ d, h < d ∧ d < 24 ∧ sStep T bit sh D p 6 p = nI d) ∧
    ((sBuy T bit sh D p = (-4, 0, 0) ∧ sStep T bit sh D p 8 = D 8 ∧ sStep T bit sh D p 2 p = -4 ∧ sStep T bit sh D p 3 p = 0 ∧ sStep T bit sh D p 1 p = kSide (sFirst T bit p)) ∨
     ∃ u, u < 11 ∧ u ≠ p ∧ sBuy T bit sh D p = (nI u, sLeft D u (sDue T p), sPrice T D u (sDue T p)) ∧ sSale T D u (sDue T p) = true ∧ D 8 u = -4 ∧ (u < 8 → u < tn T ∧ sDone T h p u) ∧ sStep T bit sh D p 8 = upd (D 8) u (nI p) ∧ sStep T bit sh D p 2 p = nI u ∧ sStep T bit sh D p 3 p = sPrice T D u (sDue T p) ∧ sStep T bit sh D p 1 p = D 4 u) := by
  have nd : ¬ sDone T h p p := fun z => by have := (done_n hd hh).mp z; omega
  have n8 := hW.1
  have d0 : D 4 p = 0 := I.2.1 p (by omega) (fun z => nd z.2)
  have d8 : D 8 p = -4 := (I.2.2.2.1 p (by omega)).resolve_right (fun z => z.1 d0)
  unfold sStep
  obtain ⟨a1, a2, a3, a4⟩ := cho_of (T := T) (bit := bit) (sh := sh) (D := D) (p := p)
  generalize sChoose T bit sh D p = E at a1 a2 a3 a4 ⊢
  obtain ⟨b1, b2, b3, b4⟩ := thi_of (T := T) (bit := bit) (D := E) (p := p)
  refine ⟨fun u hu => ?_, fun r q hr hq => by rw [b1 r (Or.inl hr), a2 r q hr hq], by rw [b1 0 (by decide)]; exact a3, d0, d8, ?_, ?_⟩
  · rw [b2 4 u hu, b2 5 u hu, b2 6 u hu, b2 7 u hu, a1 4 (by decide) (by decide), a1 5 (by decide) (by decide), a1 6 (by decide) (by decide), a1 7 (by decide) (by decide)]
    exact ⟨rfl, rfl, rfl, rfl⟩
  · cases hT : sTurns T bit E p with
    | false => rw [b3 hT, a1 4 (by decide) (by decide)]; exact Or.inl d0
    | true =>
      obtain ⟨d, d1, d2, d3⟩ := at_n hW hp
      refine Or.inr ⟨d, d3 h hd hh, ?_, (b4 hT).2.2.1.trans d2⟩
      unfold sTurns at hT
      simp only [Bool.and_eq_true, decide_eq_true_eq] at hT
      exact i_23 (by rw [← d2]; exact hT.1.1) (by omega)
  · rw [b1 8 (by decide), b1 2 (by decide), b1 3 (by decide), b1 1 (by decide)]
    rcases a4 with ⟨e0, e8, e2, e3, e1⟩ | ⟨w, hw, e0, hs, hpr, e8, e2, e3, e1⟩
    · exact Or.inl ⟨e0, e8, e2, e3, e1⟩
    · obtain ⟨c1, c2, -⟩ := sale_of hs
      have wp : w ≠ p := fun z => c1 (by rw [z]; exact d0)
      refine Or.inr ⟨w, hw, wp, e0, hs, ?_, fun q => ?_, e8, e2, e3, e1⟩
      · refine (I.2.2.2.1 w hw).resolve_right ?_
        rintro ⟨-, q, q1, q2, q3, -⟩
        obtain ⟨dq, z1, z2, z3⟩ := q2
        have le : sDue T q ≤ nI h := by rw [z2]; exact nI_le (by omega) (by omega)
        unfold sSale at hs
        rw [hd] at hs
        simp [q3, nI_clamp (show q < 2 ^ 31 by omega), nI_pos' (show q < 2 ^ 31 by omega), le] at hs
      · exact Classical.byContradiction fun z => c1 (I.2.1 w q z)
theorem coins_step (hW : WT T) (hp : p < tn T) (hh : h < 24) (hd : sDue T p = nI h) (I : DI T bit D h p) {e q : Nat} (he : e < h) (hq : q < tn T) : sCoins T (sStep T bit sh D p) q (nI e) = sCoins T D q (nI e) := by
  obtain ⟨-, s2, -, -, s5, -, s7⟩ := stp_of (sh := sh) hW hp hh hd I
  have n8 := hW.1
  generalize sStep T bit sh D p = F at s2 s7 ⊢
  have lt : ¬ nI h ≤ nI e := nI_ge he (by omega)
  have first : (if sDue T q ≤ nI e then tF T 4 q - F 3 q else tF T 4 q) = if sDue T q ≤ nI e then tF T 4 q - D 3 q else tF T 4 q := by
    by_cases z : q = p
    · subst z; rw [hd, if_neg lt, if_neg lt]
    · rw [s2 3 q (by decide) z]
  have same : F 8 q = D 8 q → (if 0 ≤ F 8 q ∧ sDue T (F 8 q).toNatClampNeg ≤ nI e then F 3 (F 8 q).toNatClampNeg else 0) = if 0 ≤ D 8 q ∧ sDue T (D 8 q).toNatClampNeg ≤ nI e then D 3 (D 8 q).toNatClampNeg else 0 := by
    intro z
    rw [z]
    rcases I.2.2.2.1 q (by omega) with c | ⟨-, r, r1, r2, r3, -⟩
    · rw [c, if_neg (by rintro ⟨y, -⟩; exact absurd y (by decide)), if_neg (by rintro ⟨y, -⟩; exact absurd y (by decide))]
    · rw [r3, nI_clamp (show r < 2 ^ 31 by omega)]
      have rp : r ≠ p := by
        rintro rfl
        exact absurd ((done_n hd hh).mp r2) (by omega)
      rw [s2 3 r (by decide) rp]
  unfold sCoins
  rw [first]
  congr 1
  rcases s7 with ⟨-, e8, -⟩ | ⟨w, hw, wp, -, hs, d8, -, e8, -⟩
  · exact same (by rw [e8])
  · by_cases z : q = w
    · subst z
      rw [e8, upd_s, d8, if_neg (fun y => ?_), if_neg (by rintro ⟨y, -⟩; exact absurd y (by decide))]
      rw [nI_clamp (show p < 2 ^ 31 by omega), hd] at y
      exact lt y.2
    · exact same (by rw [e8, upd_n _ _ z])
/-- behind one's choice, whatever way it was written -/
theorem RB_step {S' : St} (hW : WT T) (hp : p < tn T) (hh : h < 24) (hd : sDue T p = nI h) (I : DI T bit D h p) (hV : RV S T D (vN D (h + 1))) (hB : RB S T D h p)
    (k165 : ∀ u, gi S' 165 u = gi S 165 u) (k166 : ∀ u, gi S' 166 u = gi S 166 u) (k167 : ∀ u, gi S' 167 u = gi S 167 u) (k168 : ∀ u, gi S' 168 u = gi S 168 u) (k171 : ∀ u, gi S' 171 u = gi S 171 u)
    (n159 : ∀ q, gi S' 159 q = if q = p then 1 else gi S 159 q) (n160 : ∀ q, gi S' 160 q = if q = p then sStep T bit sh D p 1 p else gi S 160 q) (n161 : ∀ q, gi S' 161 q = if q = p then sFirst T bit p else gi S 161 q)
    (hc : (sBuy T bit sh D p = (-4, 0, 0) ∧ ∀ a, a = 162 ∨ a = 163 ∨ a = 164 ∨ a = 169 ∨ a = 170 → ∀ u, gi S' a u = gi S a u) ∨
      ∃ u, sBuy T bit sh D p = (nI u, sLeft D u (sDue T p), sPrice T D u (sDue T p)) ∧ u < 11 ∧ (∀ q, gi S' 162 q = if q = p then nI u else gi S 162 q) ∧ (∀ q, gi S' 163 q = if q = p then sPrice T D u (sDue T p) else gi S 163 q) ∧
        (∀ q, gi S' 164 q = if q = p then gi S 164 p - sPrice T D u (sDue T p) else if q = u ∧ u < 8 then gi S 164 u + sPrice T D u (sDue T p) else gi S 164 q) ∧ (∀ w, gi S' 169 w = if w = u then nI p else gi S 169 w) ∧ (∀ w, gi S' 170 w = if w = u then nI h else gi S 170 w)) :
    RV S' T (sStep T bit sh D p) (vN (sStep T bit sh D p) (h + 1)) ∧ RB S' T (sStep T bit sh D p) h (p + 1) := by
  have cs := fun e q he hq => coins_step (sh := sh) hW hp hh hd I (e := e) (q := q) he hq
  obtain ⟨s1, s2, s3, s4, s5, s6, s7⟩ := stp_of (sh := sh) hW hp hh hd I
  have n8 := hW.1
  have p31 : p < 2 ^ 31 := by omega
  have nd : ¬ sDone T h p p := fun z => by have := (done_n hd hh).mp z; omega
  have np : ¬ nI p = (-4 : Int32) := fun z => by
    have a := nI_pos' p31
    rw [z] at a
    exact absurd a (by decide)
  generalize sStep T bit sh D p = F at cs s1 s2 s3 s6 s7 n160 ⊢
  have dn : ∀ q, sDone T h (p + 1) q ↔ sDone T h p q ∨ q = p := by
    intro q
    constructor
    · rintro ⟨d, h1, h2, h3⟩
      by_cases e : q = p
      · exact Or.inr e
      · exact Or.inl ⟨d, h1, h2, by omega⟩
    · rintro (⟨d, h1, h2, h3⟩ | rfl)
      · exact ⟨d, h1, h2, by omega⟩
      · exact ⟨h, hh, hd, by omega⟩
  have vp : ¬ vN F (h + 1) p := by
    rintro ⟨c, d, d1, d2, d3⟩
    rcases s6 with z | ⟨d', y1, y2, y3⟩
    · exact c z
    · rw [y3] at d2
      have := (nI_eq (by omega) (by omega)).mp d2
      omega
  have vpD : ¬ vN D (h + 1) p := fun z => z.1 s4
  have vq : ∀ u, u ≠ p → (vN F (h + 1) u ↔ vN D (h + 1) u) := by
    intro u hu
    obtain ⟨c4, -, c6, -⟩ := s1 u hu
    unfold vN
    rw [c4, c6]
  refine ⟨⟨fun u hu => ?_, fun q hq => ?_⟩, ?_, fun q hq hdq => ?_, fun q hq hdq => ?_, fun e q he hq => ?_⟩
  · rw [k166, k167, k168]
    by_cases z : u = p
    · subst z
      exact ⟨fun y => absurd y vp, fun _ => (hV.1 u hu).2 vpD⟩
    · obtain ⟨c4, c5, c6, -⟩ := s1 u z
      rw [vq u z, c4, c5, c6]
      exact hV.1 u hu
  · rw [k165]
    by_cases z : q = p
    · subst z
      exact ⟨fun y => absurd y vp, fun _ => (hV.2 q hq).2 vpD⟩
    · rw [vq q z]
      exact hV.2 q hq
  · intro u hu
    rcases hc with ⟨c0, c⟩ | ⟨w, c0, hw, -, -, -, c169, c170⟩
    · rw [c 169 (by decide), c 170 (by decide)]
      have e8 : F 8 = D 8 := by
        rcases s7 with ⟨-, z, -⟩ | ⟨w, hw, -, z, -⟩
        · exact z
        · rw [c0] at z
          have this : (-4 : Int32) = nI w := congrArg Prod.fst z
          exfalso
          have a := nI_pos' (show w < 2 ^ 31 by omega)
          rw [← this] at a
          exact absurd a (by decide)
      rw [e8]
      exact hB.1 u hu
    · have e8 : F 8 = upd (D 8) w (nI p) := by
        rcases s7 with ⟨z, -⟩ | ⟨v, hv, -, z, -, -, -, y, -⟩
        · rw [c0] at z
          have this : nI w = (-4 : Int32) := congrArg Prod.fst z
          exfalso
          have a := nI_pos' (show w < 2 ^ 31 by omega)
          rw [this] at a
          exact absurd a (by decide)
        · rw [c0] at z
          have := (nI_eq (by omega) (by omega)).mp (congrArg Prod.fst z)
          subst this
          exact y
      rw [c169, c170, e8]
      by_cases z : u = w
      · subst z
        rw [if_pos rfl, if_pos rfl, upd_s, if_neg np, if_neg np, nI_clamp p31, hd]
        exact ⟨rfl, rfl⟩
      · rw [if_neg z, if_neg z, upd_n _ _ z]
        exact hB.1 u hu
  · rw [n159, n160, n161]
    by_cases z : q = p
    · subst z
      rw [if_pos rfl, if_pos rfl, if_pos rfl, s3]
      obtain ⟨-, b2, b3, b4⟩ := hB.2.2.1 q hq nd
      rcases s7 with ⟨z0, e8, e2, e3, e1⟩ | ⟨w, hw, wp, z0, hs, d8, hwd, e8, e2, e3, e1⟩
      · rcases hc with ⟨-, c⟩ | ⟨w, c0, hw, -⟩
        · rw [c 162 (by decide), c 163 (by decide), c 164 (by decide), b2, b3, b4, e8, s5, e2, e3, if_pos rfl, if_pos rfl]
          exact ⟨rfl, rfl, rfl, rfl, rfl, by simp⟩
        · rw [c0] at z0
          exfalso
          have a := nI_pos' (show w < 2 ^ 31 by omega)
          rw [show nI w = -4 from congrArg Prod.fst z0] at a
          exact absurd a (by decide)
      · rcases hc with ⟨c0, -⟩ | ⟨v, c0, hv, c162, c163, c164, -⟩
        · rw [c0] at z0
          exfalso
          have a := nI_pos' (show w < 2 ^ 31 by omega)
          rw [show nI w = -4 from (congrArg Prod.fst z0).symm] at a
          exact absurd a (by decide)
        · rw [c0] at z0
          have e : v = w := (nI_eq (by omega) (by omega)).mp (congrArg Prod.fst z0)
          subst e
          have nw : ¬ nI v = (-4 : Int32) := fun y => by
            have a := nI_pos' (show v < 2 ^ 31 by omega)
            rw [y] at a
            exact absurd a (by decide)
          rw [c162, c163, c164, if_pos rfl, if_pos rfl, if_pos rfl, b4, e8, upd_n _ _ (Ne.symm wp), s5, e2, e3, if_neg nw, if_pos rfl]
          exact ⟨rfl, rfl, rfl, rfl, rfl, by simp⟩
    · rw [if_neg z, if_neg z, if_neg z]
      have hold := ((dn q).mp hdq).resolve_right z
      obtain ⟨b0, b1, b2, b3, b4, b5⟩ := hB.2.1 q hq hold
      rw [s2 0 q (by decide) z, s2 1 q (by decide) z, s2 2 q (by decide) z, s2 3 q (by decide) z]
      have other : F 8 q = D 8 q → (if F 8 q = -4 then 0 else F 3 (F 8 q).toNatClampNeg) = if D 8 q = -4 then 0 else D 3 (D 8 q).toNatClampNeg := by
        intro y
        rw [y]
        rcases I.2.2.2.1 q (by omega) with c | ⟨-, r, r1, r2, r3, -⟩
        · rw [if_pos c, if_pos c]
        · rw [r3, nI_clamp (show r < 2 ^ 31 by omega)]
          have rp : r ≠ p := by
            rintro rfl
            exact nd r2
          rw [s2 3 r (by decide) rp]
      rcases s7 with ⟨z0, e8, -⟩ | ⟨w, hw, wp, z0, hs, d8, hwd, e8, e2, e3, e1⟩
      · rcases hc with ⟨-, c⟩ | ⟨w, c0, hw, -⟩
        · rw [c 162 (by decide), c 163 (by decide), c 164 (by decide), other (by rw [e8])]
          exact ⟨b0, b1, b2, b3, b4, b5⟩
        · rw [c0] at z0
          exfalso
          have a := nI_pos' (show w < 2 ^ 31 by omega)
          rw [show nI w = -4 from congrArg Prod.fst z0] at a
          exact absurd a (by decide)
      · rcases hc with ⟨c0, -⟩ | ⟨v, c0, hv, c162, c163, c164, -⟩
        · rw [c0] at z0
          exfalso
          have a := nI_pos' (show w < 2 ^ 31 by omega)
          rw [show nI w = -4 from (congrArg Prod.fst z0).symm] at a
          exact absurd a (by decide)
        · rw [c0] at z0
          have e : v = w := (nI_eq (by omega) (by omega)).mp (congrArg Prod.fst z0)
          subst e
          rw [c162, c163, c164, if_neg z, if_neg z, if_neg z]
          by_cases y : q = v
          · subst y
            rw [if_pos (show q = q ∧ q < 8 from ⟨rfl, by omega⟩), e8, upd_s, if_neg np, nI_clamp p31, e3, b5, d8, if_pos rfl]
            exact ⟨b0, b1, b2, b3, b4, by simp⟩
          · rw [if_neg (show ¬ (q = v ∧ v < 8) from fun x => y x.1), other (by rw [e8, upd_n _ _ y])]
            exact ⟨b0, b1, b2, b3, b4, b5⟩
  · have z : q ≠ p := fun z => hdq ((dn q).mpr (Or.inr z))
    have hold : ¬ sDone T h p q := fun y => hdq ((dn q).mpr (Or.inl y))
    obtain ⟨b0, b1, b2, b3⟩ := hB.2.2.1 q hq hold
    rw [n159, if_neg z]
    rcases hc with ⟨-, c⟩ | ⟨v, c0, hv, c162, c163, c164, -⟩
    · rw [c 162 (by decide), c 163 (by decide), c 164 (by decide)]
      exact ⟨b0, b1, b2, b3⟩
    · rw [c162, c163, c164, if_neg z, if_neg z, if_neg z, if_neg (show ¬ (q = v ∧ v < 8) from fun y => ?_)]
      · exact ⟨b0, b1, b2, b3⟩
      · rcases s7 with ⟨z0, -⟩ | ⟨w, hw, wp, z0, hs, d8, hwd, -⟩
        · rw [c0] at z0
          have a := nI_pos' (show v < 2 ^ 31 by omega)
          rw [show nI v = -4 from congrArg Prod.fst z0] at a
          exact absurd a (by decide)
        · rw [c0] at z0
          have e : v = w := (nI_eq (by omega) (by omega)).mp (congrArg Prod.fst z0)
          subst e
          exact hold (by rw [y.1]; exact (hwd y.2).2)
  · rw [k171, hB.2.2.2 e q he hq, cs e q he hq]
end RCHS
