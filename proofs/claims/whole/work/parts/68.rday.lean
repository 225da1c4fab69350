/-! The reference's day: what it holds in the middle. -/
def PR (a : Nat) : Prop := 159 ≤ a ∧ a ≤ 171
/-- the reference's town, FACTS there, whether the market is shut -/
def RT (S : St) (T : TT) (bit : Nat → Bool) (sh : Bool) : Prop := WT T ∧ repR S T ∧ (∀ k, k < 6 → (gi S 136 29 >>> (nI k &&& 31)) &&& 1 = if bit k then 1 else 0) ∧ gi S 136 30 = if sh then 1 else 0
theorem repR_congr {S S' : St} {T : TT} (h1 : ∀ a, 136 ≤ a → a < 153 → gi S' a = gi S a) (h : repR S T) : repR S' T := by
  unfold repR at h ⊢
  rw [h1 136 (by decide) (by decide), h1 137 (by decide) (by decide), h1 138 (by decide) (by decide), h1 139 (by decide) (by decide), h1 140 (by decide) (by decide), h1 141 (by decide) (by decide), h1 142 (by decide) (by decide), h1 143 (by decide) (by decide), h1 144 (by decide) (by decide), h1 145 (by decide) (by decide), h1 146 (by decide) (by decide), h1 147 (by decide) (by decide), h1 148 (by decide) (by decide), h1 149 (by decide) (by decide), h1 150 (by decide) (by decide), h1 151 (by decide) (by decide), h1 152 (by decide) (by decide)]
  exact h
theorem RT_congr {S S' : St} {T : TT} {bit : Nat → Bool} {sh : Bool} (hF : FR PR S S') (h : RT S T bit sh) : RT S' T bit sh := by
  have o : ∀ a, a < 159 → gi S' a = gi S a := fun a ha => hF.1 a (fun z => by have := z.1; omega)
  obtain ⟨h1, h2, h3, h4⟩ := h
  refine ⟨h1, repR_congr (fun a _ ha => o a (by omega)) h2, ?_, ?_⟩
  · rw [o 136 (by decide)]; exact h3
  · rw [o 136 (by decide)]; exact h4
/-- a thought that is for sale before the hour h -/
def vN (D : Nat → Nat → Int32) (h u : Nat) : Prop := D 4 u ≠ 0 ∧ ∃ d, d < 24 ∧ D 6 u = nI d ∧ d < h
def RV (S : St) (T : TT) (D : Nat → Nat → Int32) (V : Nat → Prop) : Prop := (∀ u, u < 11 → (V u → gi S 166 u = D 6 u ∧ gi S 167 u = D 5 u ∧ gi S 168 u = D 4 u) ∧ (¬ V u → gi S 166 u = -9)) ∧ ∀ p, p < tn T → (V p → gi S 165 p = 1) ∧ (¬ V p → gi S 165 p = 0)
def sCoins (T : TT) (D : Nat → Nat → Int32) (p : Nat) (hr : Int32) : Int32 := (if sDue T p ≤ hr then tF T 4 p - D 3 p else tF T 4 p) + (if 0 ≤ D 8 p ∧ sDue T (D 8 p).toNatClampNeg ≤ hr then D 3 (D 8 p).toNatClampNeg else 0)
def RB (S : St) (T : TT) (D : Nat → Nat → Int32) (h k : Nat) : Prop :=
  (∀ u, u < 11 → gi S 169 u = (if D 8 u = -4 then -9 else D 8 u) ∧ gi S 170 u = (if D 8 u = -4 then 99 else sDue T (D 8 u).toNatClampNeg)) ∧
  (∀ p, p < tn T → sDone T h k p → gi S 159 p = 1 ∧ gi S 160 p = D 1 p ∧ gi S 161 p = D 0 p ∧ gi S 162 p = (if D 2 p = -4 then -9 else D 2 p) ∧ gi S 163 p = D 3 p ∧ gi S 164 p = tF T 4 p - D 3 p + (if D 8 p = -4 then 0 else D 3 (D 8 p).toNatClampNeg)) ∧
  (∀ p, p < tn T → ¬ sDone T h k p → gi S 159 p = 0 ∧ gi S 162 p = -9 ∧ gi S 163 p = 0 ∧ gi S 164 p = tF T 4 p) ∧
  (∀ e p, e < h → p < tn T → gi S 171 (8 * e + p) = sCoins T D p (nI e))
def sCan (T : TT) (D : Nat → Nat → Int32) (p : Nat) (own h : Int32) (u : Nat) : Bool := sSale T D u h && decide (tF T 14 (4 * (tF T 1 p).toNatClampNeg + (sCase T u).toNatClampNeg) ≠ 0) && decide (kBuys (tK T p) (sLeft D u h) own ≠ 0) && decide (sPrice T D u h ≤ tF T 4 p)
theorem i_23 {d : Nat} (h : nI d ≤ 23) (hd : d < 100) : d < 24 := by
  rcases Nat.lt_or_ge d 24 with q | q
  · exact q
  · exact absurd h (nI_ge (b := d) (a := 23) (by omega) (by omega))
theorem at_n {T : TT} (hW : WT T) {p : Nat} (hp : p < tn T) : ∃ d, d < 25 ∧ sAt T p = nI d ∧ ∀ e, sDue T p = nI e → e < 24 → e < d := by
  obtain ⟨e, he, hd⟩ := due_n hW hp
  obtain ⟨o, ho, eo⟩ := hW.2.2.2.2.2.2.2.2.1
  unfold sAt
  rw [hd, eo, nI_1]
  rcases Nat.lt_or_ge o (e + 1) with q | q
  · rw [if_pos (nI_lt q (by omega))]
    refine ⟨e + 1, by omega, rfl, fun e' h1 h2 => ?_⟩
    have : e = e' := (nI_eq (by omega) (by omega)).mp h1
    omega
  · rw [if_neg (nI_nlt q (by omega))]
    refine ⟨o, by omega, rfl, fun e' h1 h2 => ?_⟩
    have : e = e' := (nI_eq (by omega) (by omega)).mp h1
    omega
section RLEAF
variable {S : St} {T : TT} {bit : Nat → Bool} {sh : Bool} {D : Nat → Nat → Int32} {h k p u : Nat}
theorem DI_of (hW : WT T) (I : DI T bit D h k) (hu : u < 11) (hs : D 4 u ≠ 0) : (u < 8 → u < tn T ∧ D 7 u = kFade (tK T u) (tF T 15 1)) ∧ (8 ≤ u → u - 8 < tk T ∧ D 7 u = tF T 15 1) ∧ ∃ d, d < 24 ∧ D 6 u = nI d := by
  obtain ⟨i1, i2, i3, i4, i5⟩ := I
  rcases Nat.lt_or_ge u 8 with q | q
  · have hd : u < tn T ∧ sDone T h k u := Classical.byContradiction fun z => hs (i2 u q z)
    obtain ⟨c1, c2⟩ := i1 u hd.1 hd.2
    have hT : sTurns T bit D u = true := by
      cases e : sTurns T bit D u with
      | true => rfl
      | false => rw [e] at c1; exact absurd c1 hs
    obtain ⟨-, c6, c7⟩ := c2 hT
    refine ⟨fun _ => ⟨hd.1, c7⟩, fun z => by omega, ?_⟩
    obtain ⟨d, d1, d2, -⟩ := at_n hW hd.1
    refine ⟨d, i_23 ?_ (by omega), c6.trans d2⟩
    unfold sTurns at hT
    simp only [Bool.and_eq_true, decide_eq_true_eq] at hT
    rw [← d2]
    exact hT.1.1
  · have c := i3 (u - 8) (by omega)
    rw [show 8 + (u - 8) = u by omega] at c
    by_cases hk : u - 8 < tk T
    · rw [if_pos hk] at c
      obtain ⟨d, d1, d2⟩ := (hW.2.2.2.2.2.1 (u - 8) hk).2.2.2.2
      exact ⟨fun z => by omega, fun _ => ⟨hk, c.2.2.2⟩, d, d1, c.2.2.1.trans d2⟩
    · rw [if_neg hk] at c
      exact absurd c hs
theorem vN_iff (hW : WT T) (I : DI T bit D h k) (hu : u < 11) {e : Nat} (he : e < 24) : vN D (e + 1) u ↔ D 4 u ≠ 0 ∧ D 6 u ≤ nI e := by
  constructor
  · rintro ⟨c, d, d1, d2, d3⟩
    exact ⟨c, by rw [d2]; exact nI_le (by omega) (by omega)⟩
  · rintro ⟨c, c2⟩
    obtain ⟨-, -, d, d1, d2⟩ := DI_of hW I hu c
    refine ⟨c, d, d1, d2, ?_⟩
    rw [d2] at c2
    have := (nI_leI (by omega) (by omega)).mp c2
    omega
theorem R_weight (hT : RT S T bit sh) (c hr : Int32) : L_X12_factsBy c hr S = some (wsum c hr bit (tF T 5) (tF T 6) (tF T 7) (tm T)) := by
  obtain ⟨hW, hR, hb, -⟩ := hT
  rw [R_factsBy hW.2.1 hR.2.1 hb, wsum_congr (fun k hk => ?_)]
  obtain ⟨f1, f2, f3, -⟩ := hR.2.2.2.2.1 k hk
  exact ⟨f1, f2, f3⟩
theorem R_dueOf (hT : RT S T bit sh) (hp : p < tn T) : L_X12_dueOf (nI p) S = some (sDue T p) := by
  obtain ⟨hW, hR, -, -⟩ := hT
  obtain ⟨c1, -, -, c4, -, -⟩ := hR.2.2.2.1 p hp
  exact R_due (by have := hW.1; omega) c1 (hW.2.2.2.1 p hp).1 c4
theorem R_known (hT : RT S T bit sh) (hp : p < tn T) (hr : Int32) : ((L_X12_factsBy (gi S 149 p) hr S).bind fun r => L_X12_sumOf (nI p) (gi S 151 p) r S) = some (sKnown T bit p hr) := by
  obtain ⟨hW, hR, -, -⟩ := id hT
  obtain ⟨c1, -, c3, -, c5, -⟩ := hR.2.2.2.1 p hp
  rw [R_weight hT, Option.bind_some, R_sum (by have := hW.1; omega) c1 (hW.2.2.2.1 p hp).1, c3, c5]
  rfl
theorem R_own (hT : RT S T bit sh) (hp : p < tn T) (s : Int32) : L_X12_strengthOf (nI p) s S = some (kStr (tK T p) (tF T 0 p) s) := by
  obtain ⟨hW, hR, -, -⟩ := id hT
  obtain ⟨c1, c2, -⟩ := hR.2.2.2.1 p hp
  exact R_str (by have := hW.1; omega) c1 (hW.2.2.2.1 p hp).1 c2 s
theorem R_left (hT : RT S T bit sh) (I : DI T bit D h k) (hu : u < 11) (hs : D 4 u ≠ 0) (e6 : gi S 166 u = D 6 u) (e5 : gi S 167 u = D 5 u) (hr : Int32) : L_X12_leftOf (nI u) hr S = some (sLeft D u hr) := by
  obtain ⟨hW, hR, -, -⟩ := id hT
  obtain ⟨o1, o2, -⟩ := DI_of hW I hu hs
  have ef : gi S 136 7 = tF T 15 1 := hR.2.2.2.2.2.2.2.2.1
  unfold L_X12_leftOf b_X12_leftOf_0 b_X12_leftOf_18 sLeft
  simp only [gd_t (inb_n hu), tn_n (show u < 2 ^ 31 by omega), e6, e5, R_atLeast, Option.bind_some, ef]
  rcases Nat.lt_or_ge u 8 with q | q
  · obtain ⟨w1, w2⟩ := o1 q
    have e8 : ¬ (8 : Int32) ≤ nI u := nI_ge (b := 8) q (by decide)
    rw [if_neg e8, R_fade q (hR.2.2.2.1 u w1).1 (hW.2.2.2.1 u w1).1, ef, w2]
    rfl
  · have e8 : (8 : Int32) ≤ nI u := nI_le (a := 8) q (by omega)
    rw [if_pos e8, (o2 q).2]
theorem R_case (hT : RT S T bit sh) (I : DI T bit D h k) (hu : u < 11) (hs : D 4 u ≠ 0) : L_X12_caseOf (nI u) S = some (sCase T u) := by
  obtain ⟨hW, hR, -, -⟩ := id hT
  obtain ⟨o1, o2, -⟩ := DI_of hW I hu hs
  unfold L_X12_caseOf b_X12_caseOf_0 sCase
  rcases Nat.lt_or_ge u 8 with q | q
  · have e8 : ¬ (8 : Int32) ≤ nI u := nI_ge (b := 8) q (by decide)
    rw [if_neg e8, if_pos q, gd_t (inb_n q), tn_n (show u < 2 ^ 31 by omega), (hR.2.2.2.1 u (o1 q).1).2.2.1]
  · have e8 : (8 : Int32) ≤ nI u := nI_le (a := 8) q (by omega)
    have e9 : nI u - 8 = nI (u - 8) := pk_sub (b := 8) q
    rw [if_pos e8, if_neg (by omega), e9, gd_t (inb_n (show u - 8 < 4 by omega)), tn_n (show u - 8 < 2 ^ 31 by omega), (hR.2.2.2.2.2.1 (u - 8) (o2 q).1).1]
theorem R_asked (hT : RT S T bit sh) (I : DI T bit D h k) (hu : u < 11) (hs : D 4 u ≠ 0) (e6 : gi S 166 u = D 6 u) (e5 : gi S 167 u = D 5 u) (hr : Int32) : L_X12_askedFor (nI u) hr S = some (sPrice T D u hr) := by
  have hl := R_left hT I hu hs e6 e5 hr
  obtain ⟨hW, hR, -, -⟩ := id hT
  obtain ⟨o1, o2, -⟩ := DI_of hW I hu hs
  unfold L_X12_askedFor b_X12_askedFor_0 sPrice
  rcases Nat.lt_or_ge u 8 with q | q
  · have e8 : ¬ (8 : Int32) ≤ nI u := nI_ge (b := 8) q (by decide)
    have w1 := (o1 q).1
    have er : gi S 136 8 = tF T 15 2 := hR.2.2.2.2.2.2.2.2.2
    rw [if_neg e8, if_pos q, hl, Option.bind_some, R_price q (hR.2.2.2.1 u w1).1 (hW.2.2.2.1 u w1).1, er, Option.bind_some]
  · have e8 : (8 : Int32) ≤ nI u := nI_le (a := 8) q (by omega)
    have e9 : nI u - 8 = nI (u - 8) := pk_sub (b := 8) q
    rw [if_pos e8, if_neg (by omega), e9, gd_t (inb_n (show u - 8 < 4 by omega)), tn_n (show u - 8 < 2 ^ 31 by omega), (hR.2.2.2.2.2.1 (u - 8) (o2 q).1).2.2.2.1]
theorem R_may (hT : RT S T bit sh) (I : DI T bit D h p) (hV : RV S T D (vN D (h + 1))) (hB : RB S T D h p) (hp : p < tn T) (hh : h < 24) (hd : sDue T p = nI h) (hu : u < 11) (own : Int32) : L_X12_mayBuy (nI p) (nI u) (nI h) own S = some (if !sh && sCan T D p own (nI h) u then 1 else 0) := by
  obtain ⟨hW, hR, -, h30⟩ := id hT
  have p8 : p < 8 := by have := hW.1; omega
  have nd : ¬ sDone T h p p := fun z => by have := (done_n hd hh).mp z; omega
  have vi := vN_iff hW I hu hh
  unfold L_X12_mayBuy b_X12_mayBuy_0 b_X12_mayBuy_98
  rw [h30]
  cases sh with
  | true => simp
  | false =>
    simp only [Bool.not_false, Bool.true_and]
    rw [if_neg (by decide : ¬ false = true), if_pos rfl]
    unfold L_X12_isThere b_X12_isThere_0 b_X12_isThere_23
    simp only [gd_t (inb_n hu), tn_n (show u < 2 ^ 31 by omega)]
    obtain ⟨v1, v2⟩ := hV.1 u hu
    by_cases hv : vN D (h + 1) u
    · obtain ⟨g6, g5, g4⟩ := v1 hv
      obtain ⟨hs, h6⟩ := vi.mp hv
      obtain ⟨-, d, d1, d2, d3⟩ := hv
      have n1 : ¬ gi S 166 u < 0 := by rw [g6, d2]; exact nI_pos (by omega)
      have n2 : ¬ nI h < gi S 166 u := by rw [g6]; exact Int32.not_lt.mpr h6
      rw [if_neg n1, if_neg n2]
      simp only [Option.bind_some]
      rw [if_neg (by decide : ¬ (1 : Int32) = 0), (hB.1 u hu).1]
      have up : u ≠ p := by
        rintro rfl
        exact hs (I.2.1 u p8 (fun z => nd z.2))
      rcases I.2.2.2.1 u hu with h8 | ⟨-, q, q1, q2, q3, -⟩
      · have sale : sSale T D u (nI h) = decide (0 < sLeft D u (nI h)) := by
          unfold sSale
          have z4 : ¬ (0 : Int32) ≤ -4 := by decide
          simp [hs, h6, h8, z4]
        rw [if_pos h8, if_neg (by decide : ¬ (0 : Int32) ≤ -9), if_neg (fun z => up ((nI_eq (by omega) (by omega)).mp z)), R_case hT I hu hs]
        simp only [Option.bind_some]
        obtain ⟨cp, cp4, ecp⟩ := (hW.2.2.2.1 p hp).2.2.1
        have hD : WD T D := by
          refine ⟨fun w hw z => ((DI_of hW I (by omega) z).1 hw).1, fun i hi z => ?_, fun w hw => ?_⟩
          · have := ((DI_of hW I (show 8 + i < 11 by omega) z).2.1 (by omega)).1
            omega
          · rcases I.2.2.2.1 w hw with z | ⟨-, q, q1, -, q3, -⟩
            · exact Or.inl z
            · exact Or.inr ⟨q, q1, q3⟩
        obtain ⟨cu, cu4, ecu⟩ := case_n hW hD hu hs
        have e149 : gi S 149 p = nI cp := ((hR.2.2.2.1 p hp).2.2.1).trans ecp
        have ix : (4 : Int32) * nI cu + nI cp = nI (4 * cu + cp) := by rw [show (4 : Int32) = nI 4 from rfl, pk_mul, nI_add]
        rw [gd_t (inb_n p8), ecu, tn_n (show p < 2 ^ 31 by omega), e149, ix, gd_t (inb_n (show 4 * cu + cp < 16 by omega)), tn_n (show 4 * cu + cp < 2 ^ 31 by omega), hR.2.2.2.2.2.2.1 _ (show 4 * cu + cp < 16 by omega)]
        have sym : tF T 14 (4 * cu + cp) = tF T 14 (4 * cp + cu) := (hW.2.2.2.2.2.2.1 cu cp cu4 cp4).2
        have kin : tF T 14 (4 * (tF T 1 p).toNatClampNeg + (sCase T u).toNatClampNeg) = tF T 14 (4 * cp + cu) := by rw [ecp, ecu, nI_clamp (by omega), nI_clamp (by omega)]
        have can : sCan T D p own (nI h) u = (decide (0 < sLeft D u (nI h)) && decide (tF T 14 (4 * cp + cu) ≠ 0) && decide (kBuys (tK T p) (sLeft D u (nI h)) own ≠ 0) && decide (sPrice T D u (nI h) ≤ tF T 4 p)) := by unfold sCan; rw [kin, sale]
        rw [sym, R_left hT I hu hs g6 g5, can]
        by_cases hk : tF T 14 (4 * cp + cu) = 0
        · rw [if_pos hk]; simp [hk]
        rw [if_neg hk]
        simp only [Option.bind_some]
        by_cases hl : 0 < sLeft D u (nI h)
        · rw [if_neg (Int32.not_le.mpr hl), R_buys p8 (hR.2.2.2.1 p hp).1 (hW.2.2.2.1 p hp).1]
          simp only [Option.bind_some]
          by_cases hb : kBuys (tK T p) (sLeft D u (nI h)) own = 0
          · rw [if_pos hb]; simp [hb]
          · rw [if_neg hb, R_asked hT I hu hs g6 g5]
            simp only [Option.bind_some]
            rw [gd_t (inb_n p8), (hB.2.2.1 p hp nd).2.2.2]
            by_cases hpr : sPrice T D u (nI h) ≤ tF T 4 p
            · rw [if_neg (Int32.not_lt.mpr hpr)]; simp [hl, hk, hb, hpr]
            · rw [if_pos (Int32.not_le.mp hpr)]; simp [hpr]
        · rw [if_pos (Int32.not_lt.mp hl)]; simp [hl]
      · have q31 : q < 2 ^ 31 := by have := hW.1; omega
        have nq : ¬ nI q = (-4 : Int32) := fun z => by
          have a := nI_pos' q31
          rw [z] at a
          exact absurd a (by decide)
        have sale : sSale T D u (nI h) = false := by
          unfold sSale
          obtain ⟨dq, z1, z2, z3⟩ := q2
          have le : sDue T q ≤ nI h := by rw [z2]; exact nI_le (by omega) (by omega)
          simp [q3, nI_clamp q31, nI_pos' q31, le]
        rw [q3, if_neg nq, if_pos (nI_pos' q31)]
        unfold sCan
        rw [sale]
        rfl
    · have sale : sSale T D u (nI h) = false := by
        cases e : sSale T D u (nI h) with
        | false => rfl
        | true =>
          obtain ⟨z1, z2, -⟩ := sale_of e
          exact absurd (vi.mpr ⟨z1, z2⟩) hv
      rw [v2 hv, if_pos (by decide)]
      simp only [Option.bind_some, if_true]
      unfold sCan
      rw [sale]
      rfl
end RLEAF
