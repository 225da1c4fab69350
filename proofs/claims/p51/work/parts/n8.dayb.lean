/-! THE DAY, in whole numbers: what a sum can be, what is asked, who buys. -/
theorem t_add {a b : Int32} (h1 : -2147483648 ≤ a.toInt + b.toInt) (h2 : a.toInt + b.toInt < 2147483648) : (a + b).toInt = a.toInt + b.toInt := by
  rw [Int32.toInt_add]; exact Int.bmod_eq_of_le (by omega) (by omega)
theorem t_sub {a b : Int32} (h1 : -2147483648 ≤ a.toInt - b.toInt) (h2 : a.toInt - b.toInt < 2147483648) : (a - b).toInt = a.toInt - b.toInt := by
  rw [Int32.toInt_sub]; exact Int.bmod_eq_of_le (by omega) (by omega)
theorem t_mul {a b : Int32} (h1 : -2147483648 ≤ a.toInt * b.toInt) (h2 : a.toInt * b.toInt < 2147483648) : (a * b).toInt = a.toInt * b.toInt := by
  rw [Int32.toInt_mul]; exact Int.bmod_eq_of_le (by omega) (by omega)
theorem t_neg {a : Int32} (h1 : -2147483648 < a.toInt) : (-a).toInt = -a.toInt := by
  have := a.toInt_lt
  rw [Int32.toInt_neg]; exact Int.bmod_eq_of_le (by omega) (by omega)
theorem t_div {a b : Int32} (h0 : 0 ≤ a.toInt) (hb : 0 < b.toInt) : (a / b).toInt = a.toInt / b.toInt := by
  have := a.toInt_lt
  rw [Int32.toInt_div, Int.tdiv_eq_ediv_of_nonneg h0]
  have h2 : a.toInt / b.toInt ≤ a.toInt := Int.ediv_le_self _ h0
  have h3 : 0 ≤ a.toInt / b.toInt := Int.ediv_nonneg h0 (Int.le_of_lt hb)
  exact Int.bmod_eq_of_le (by omega) (by omega)
theorem t_le {a b : Int32} : a ≤ b ↔ a.toInt ≤ b.toInt := Int32.le_iff_toInt_le
theorem t_lt {a b : Int32} : a < b ↔ a.toInt < b.toInt := Int32.lt_iff_toInt_lt
theorem t_nI {n : Nat} (h : n < 2147483648) : (nI n).toInt = n := by
  show (Int32.ofNat n).toInt = n
  exact Int32.toInt_ofNat_of_lt h
theorem t0 : (0 : Int32).toInt = 0 := rfl
theorem t1 : (1 : Int32).toInt = 1 := rfl
theorem t2 : (2 : Int32).toInt = 2 := rfl
theorem t3 : (3 : Int32).toInt = 3 := rfl
theorem t4 : (4 : Int32).toInt = 4 := rfl
theorem t9 : (9 : Int32).toInt = 9 := rfl
theorem tm9 : (-9 : Int32).toInt = -9 := rfl
theorem t_max0 (x : Int32) : 0 ≤ (kMax0 x).toInt ∧ (kMax0 x).toInt ≤ max 0 x.toInt := by
  unfold kMax0
  by_cases h : 0 < x
  · rw [if_pos h]
    have := t_lt.mp h
    rw [t0] at this
    omega
  · rw [if_neg h, t0]; omega
section DAYB
variable {T : TT} {b : Nat → Bool} {sh : Bool} {D : Nat → Nat → Int32}
theorem wsum_b (hW : WT T) (c h : Int32) : ∀ k, k ≤ tm T → -(9 * k : Int) ≤ (wsum c h b (tF T 5) (tF T 6) (tF T 7) k).toInt ∧ (wsum c h b (tF T 5) (tF T 6) (tF T 7) k).toInt ≤ 9 * k := by
  have m6 := hW.2.1
  intro k
  induction k with
  | zero => intro _; exact ⟨Int.le_refl _, Int.le_refl _⟩
  | succ k ih =>
    intro hk
    obtain ⟨i1, i2⟩ := ih (by omega)
    obtain ⟨-, ⟨w1, w2⟩, -⟩ := hW.2.2.2.2.1 k (by omega)
    have w1 := t_le.mp w1
    have w2 := t_le.mp w2
    rw [tm9] at w1
    rw [t9] at w2
    show _ ≤ (wsum c h b (tF T 5) (tF T 6) (tF T 7) k + _).toInt ∧ (wsum c h b (tF T 5) (tF T 6) (tF T 7) k + _).toInt ≤ _
    split
    · rw [t_add (by omega) (by omega)]; omega
    · rw [Int32.add_zero]; omega
theorem known_b (hW : WT T) {p : Nat} (hp : p < tn T) (h : Int32) : -200 ≤ (sKnown T b p h).toInt ∧ (sKnown T b p h).toInt ≤ 200 := by
  have m6 := hW.2.1
  obtain ⟨-, -, -, -, ⟨m1, m2⟩, -⟩ := hW.2.2.2.1 p hp
  have m1 := t_le.mp m1
  have m2 := t_le.mp m2
  rw [tm9] at m1
  rw [t9] at m2
  obtain ⟨f1, f2⟩ := wsum_b (b := b) hW (tF T 1 p) h (tm T) (Nat.le_refl _)
  unfold sKnown kSum
  generalize wsum (tF T 1 p) h b (tF T 5) (tF T 6) (tF T 7) (tm T) = f at f1 f2 ⊢
  generalize tF T 3 p = m at m1 m2 ⊢
  split
  · rw [t_add (by rw [t_add (by omega) (by omega)]; omega) (by rw [t_add (by omega) (by omega)]; omega), t_add (by omega) (by omega)]; omega
  · split
    · rw [t_add (by rw [t_add (by rw [t0]; omega) (by rw [t0]; omega), t0]; omega) (by rw [t_add (by rw [t0]; omega) (by rw [t0]; omega), t0]; omega), t_add (by rw [t0]; omega) (by rw [t0]; omega), t0]; omega
    · split
      · have e : (2 * m).toInt = 2 * m.toInt := by rw [t_mul (by rw [t2]; omega) (by rw [t2]; omega), t2]
        rw [t_add (by omega) (by omega), e]; omega
      · rw [t_add (by omega) (by omega)]; omega
theorem str_b {kd g : Nat} {s : Int32} (hg : g < 10) (h1 : -200 ≤ s.toInt) (h2 : s.toInt ≤ 200) : (s ≠ 0 → 1 ≤ (kStr kd (nI g) s).toInt) ∧ 0 ≤ (kStr kd (nI g) s).toInt ∧ (kStr kd (nI g) s).toInt ≤ 500 := by
  have eg : (nI g).toInt = g := t_nI (by omega)
  have ea : 0 ≤ (kAbs s).toInt ∧ (kAbs s).toInt ≤ 200 ∧ (s ≠ 0 → 1 ≤ (kAbs s).toInt) := by
    unfold kAbs
    by_cases h : s < 0
    · rw [if_pos h, t_neg (by omega)]
      have := t_lt.mp h
      rw [t0] at this
      omega
    · rw [if_neg h]
      have h3 : ¬ s.toInt < 0 := fun z => h (t_lt.mpr (by rw [t0]; exact z))
      refine ⟨by omega, h2, fun h0 => ?_⟩
      have : s.toInt ≠ 0 := fun e => h0 (Int32.toInt_inj.mp e)
      omega
  obtain ⟨a1, a2, a3⟩ := ea
  have e2 : (kAbs s + nI g).toInt = (kAbs s).toInt + g := by rw [t_add (by omega) (by omega), eg]
  have e3 : (2 * (kAbs s + nI g)).toInt = 2 * ((kAbs s).toInt + g) := by rw [t_mul (by rw [e2, t2]; omega) (by rw [e2, t2]; omega), e2, t2]
  unfold kStr
  split
  · rw [e2]; exact ⟨fun h0 => by have := a3 h0; omega, by omega, by omega⟩
  · split
    · rw [e3]; exact ⟨fun h0 => by have := a3 h0; omega, by omega, by omega⟩
    · exact ⟨a3, a1, by omega⟩
theorem fade_b {kd f : Nat} (hf : f < 10) : 0 ≤ (kFade kd (nI f)).toInt ∧ (kFade kd (nI f)).toInt ≤ 18 := by
  have ef : (nI f).toInt = f := t_nI (by omega)
  unfold kFade
  split
  · have := t_max0 (nI f - 1)
    rw [t_sub (by rw [t1]; omega) (by rw [t1]; omega), t1] at this
    omega
  · split
    · rw [t_mul (by rw [t2]; omega) (by rw [t2]; omega), t2]; omega
    · omega
/-- what is left of a strength that is for sale -/
theorem left_b (hW : WT T) {h k : Nat} (I : DI T b D h k) {u : Nat} (hu : u < 11) (h4 : D 4 u ≠ 0) {hr : Nat} (h24 : hr < 24) : (sLeft D u (nI hr)).toInt ≤ 1000 := by
  obtain ⟨d1, d2, d, d3, d4⟩ := DI_of hW I hu h4
  obtain ⟨f, f1, f2⟩ := hW.2.2.2.2.2.2.2.2.2.1
  have e5 : 0 ≤ (D 5 u).toInt ∧ (D 5 u).toInt ≤ 500 := by
    rcases Nat.lt_or_ge u 8 with z | z
    · have hd : u < tn T ∧ sDone T h k u := Classical.byContradiction fun y => h4 (I.2.1 u z y)
      obtain ⟨e, e2⟩ := I.1 u hd.1 hd.2
      have tr : sTurns T b D u = true := by
        cases y : sTurns T b D u with
        | true => rfl
        | false => rw [y, if_neg (by decide)] at e; exact absurd e h4
      obtain ⟨-, ⟨g, g1, g2⟩, -⟩ := hW.2.2.2.1 u hd.1
      rw [(e2 tr).1, g2]
      have kb := known_b (b := b) hW hd.1 (sAt T u)
      exact (str_b g1 kb.1 kb.2).2
    · have e := I.2.2.1 (u - 8) (by omega)
      rw [if_pos (d2 z).1, show 8 + (u - 8) = u by omega] at e
      obtain ⟨-, -, ⟨s, s1, s2, s3⟩, -⟩ := hW.2.2.2.2.2.1 (u - 8) (d2 z).1
      rw [e.2.1, s3, t_nI (by omega)]
      omega
  have e7 : 0 ≤ (D 7 u).toInt ∧ (D 7 u).toInt ≤ 18 := by
    rcases Nat.lt_or_ge u 8 with z | z
    · rw [(d1 z).2, f2]; exact fade_b f1
    · rw [(d2 z).2, f2, t_nI (by omega)]; omega
  have eh : (nI hr - D 6 u).toInt = (hr : Int) - d := by rw [d4, t_sub (by rw [t_nI (by omega), t_nI (by omega)]; omega) (by rw [t_nI (by omega), t_nI (by omega)]; omega), t_nI (by omega), t_nI (by omega)]
  have em : -500 ≤ (D 7 u * (nI hr - D 6 u)).toInt ∧ (D 7 u * (nI hr - D 6 u)).toInt ≤ 500 := by
    have b1 : -(432 : Int) ≤ (D 7 u).toInt * ((hr : Int) - d) := by
      have : (D 7 u).toInt * (-24) ≤ (D 7 u).toInt * ((hr : Int) - d) := Int.mul_le_mul_of_nonneg_left (by omega) e7.1
      omega
    have b2 : (D 7 u).toInt * ((hr : Int) - d) ≤ 432 := by
      have : (D 7 u).toInt * ((hr : Int) - d) ≤ (D 7 u).toInt * 24 := Int.mul_le_mul_of_nonneg_left (by omega) e7.1
      omega
    rw [t_mul (by rw [eh]; omega) (by rw [eh]; omega), eh]
    omega
  have := (t_max0 (D 5 u - D 7 u * (nI hr - D 6 u))).2
  rw [t_sub (by omega) (by omega)] at this
  unfold sLeft
  omega
theorem price_b (hW : WT T) {h k : Nat} (I : DI T b D h k) {u : Nat} (hu : u < 11) {hr : Nat} (h24 : hr < 24) (hs : sSale T D u (nI hr) = true) : 0 ≤ sPrice T D u (nI hr) := by
  have h4 := sale_ne hs
  have lb := left_b hW I hu h4 h24
  obtain ⟨-, -, l0⟩ := sale_of hs
  have l0 := t_lt.mp l0
  rw [t0] at l0
  unfold sPrice
  by_cases u8 : u < 8
  · rw [if_pos u8]
    obtain ⟨r, r1, r2, r3⟩ := hW.2.2.2.2.2.2.2.2.2.2
    rw [r3]
    generalize sLeft D u (nI hr) = l at lb l0 ⊢
    have er : (nI r).toInt = r := t_nI (by omega)
    have b0 : 0 ≤ l.toInt * (r : Int) := Int.mul_nonneg (by omega) (by omega)
    have b1 : l.toInt * (r : Int) ≤ 10000 := by
      have : l.toInt * (r : Int) ≤ l.toInt * 10 := Int.mul_le_mul_of_nonneg_left (by omega) (by omega)
      omega
    have em : (l * nI r).toInt = l.toInt * r := by rw [t_mul (by rw [er]; omega) (by rw [er]; omega), er]
    have ea : (l * nI r + 3).toInt = l.toInt * r + 3 := by rw [t_add (by rw [em, t3]; omega) (by rw [em, t3]; omega), em, t3]
    have ed : ((l * nI r + 3) / 4).toInt = (l.toInt * r + 3) / 4 := by rw [t_div (by rw [ea]; omega) (by rw [t4]; decide), ea, t4]
    have e2 : ((l * nI r + 3) / 4 / 2).toInt = (l.toInt * r + 3) / 4 / 2 := by rw [t_div (by rw [ed]; omega) (by rw [t2]; decide), ed, t2]
    rw [t_le, t0]
    unfold kPrice
    split
    · rw [e2]; omega
    · split
      · exact (t_max0 _).1
      · rw [ed]; omega
  · rw [if_neg u8]
    have hk := ((DI_of hW I hu h4).2.1 (by omega)).1
    obtain ⟨-, -, -, ⟨c, c1, c2⟩, -⟩ := hW.2.2.2.2.2.1 (u - 8) hk
    rw [c2]
    exact nI_pos' (by omega)
theorem best_3 {D : Nat → Nat → Int32} {p : Nat} {own h : Int32} (k3 : tK T p = 3) : ∀ k, sBest T D p own h k = (-4, 0, 0) := by
  intro k
  induction k with
  | zero => rfl
  | succ k ih =>
    show (if sWins T D p own h k (sBest T D p own h k) then _ else _) = _
    have : sWins T D p own h k (sBest T D p own h k) = false := by
      unfold sWins kBuys
      rw [k3, if_pos rfl]
      simp
    rw [this, if_neg (by decide)]
    exact ih
/-- what is paid is not below 0, and a SWORN one buys nothing -/
def PJ (T : TT) (D : Nat → Nat → Int32) : Prop := ∀ p, p < tn T → 0 ≤ D 3 p ∧ (tK T p = 3 → ∀ u, u < 11 → D 8 u ≠ nI p)
theorem PJ_step (hW : WT T) {h k p : Nat} (I : DI T b D h k) (hp : p < tn T) (hh : h < 24) (hd : sDue T p = nI h) (J : PJ T D) : PJ T (sStep T b sh D p) := by
  have n8 := hW.1
  obtain ⟨c1, c2, c3, c4⟩ := cho_of (T := T) (bit := b) (sh := sh) (D := D) (p := p)
  obtain ⟨g1, g2, -, -⟩ := thi_of (T := T) (bit := b) (D := sChoose T b sh D p) (p := p)
  intro q hq
  unfold sStep
  rw [g1 3 (by omega), g1 8 (by omega)]
  have j3 : 0 ≤ sChoose T b sh D p 3 q := by
    by_cases e : q = p
    · subst e
      rcases c4 with ⟨-, -, -, z, -⟩ | ⟨u, hu, -, hs, -, -, -, z, -⟩
      · rw [z]; exact Int32.le_refl _
      · rw [z, hd]
        rw [hd] at hs
        exact price_b hW I hu hh hs
    · rw [c2 3 q (by decide) e]
      exact (J q hq).1
  refine ⟨j3, fun k3 u hu => ?_⟩
  rcases c4 with ⟨-, z, -⟩ | ⟨v, hv, zb, -, -, z, -⟩
  · rw [z]; exact (J q hq).2 k3 u hu
  · rw [z]
    by_cases e : u = v
    · subst e
      rw [upd_s]
      intro e2
      have : p = q := (nI_eq (by omega) (by omega)).mp e2
      subst this
      unfold sBuy at zb
      cases sh with
      | true =>
        rw [if_pos rfl] at zb
        have := congrArg Prod.fst zb
        have h0 := nI_pos' (n := u) (by omega)
        rw [← show (-4 : Int32) = nI u from this] at h0
        exact absurd h0 (by decide)
      | false =>
        rw [if_neg (by decide), best_3 k3] at zb
        have := congrArg Prod.fst zb
        have h0 := nI_pos' (n := u) (by omega)
        rw [← show (-4 : Int32) = nI u from this] at h0
        exact absurd h0 (by decide)
    · rw [upd_n _ _ e]; exact (J q hq).2 k3 u hu
theorem PJ_people (hW : WT T) {h : Nat} (hh : h < 24) (I : DI T b D h 0) (J : PJ T D) : ∀ k, k ≤ tn T → PJ T (sPeople T b sh h D k) := by
  intro k
  induction k with
  | zero => intro _; exact J
  | succ k ih =>
    intro hk
    show PJ T (if sDue T k = nI h then _ else _)
    by_cases e : sDue T k = nI h
    · rw [if_pos e]
      exact PJ_step hW (DI_people hW.1 hh I k (by omega)) (by omega) hh e (ih (by omega))
    · rw [if_neg e]
      exact ih (by omega)
theorem PJ_hours (hW : WT T) : ∀ h, h ≤ 24 → PJ T (sHours T b sh h) := by
  intro h
  induction h with
  | zero =>
    intro _ p hp
    refine ⟨Int32.le_refl _, fun _ u _ e => ?_⟩
    have h0 := nI_pos' (n := p) (by have := hW.1; omega)
    rw [← show (-4 : Int32) = nI p from e] at h0
    exact absurd h0 (by decide)
  | succ h ih =>
    intro hh
    exact PJ_people hW (by omega) (DI_hours hW h (by omega)) (ih (by omega)) (tn T) (Nat.le_refl _)
theorem F_PJ (hW : WT T) : PJ T (sDay T b sh) := PJ_hours hW 24 (Nat.le_refl _)
end DAYB
