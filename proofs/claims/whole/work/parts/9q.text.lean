/-! Texts: all STATEMENTS read; digits as numbers. -/
section TEXT
variable {S0 X : St} {d : Nat} {w : Nat → Int32} {n p : Nat}
def ENT (Y : St) (w : Nat → Int32) (n j : Nat) : Prop := ∀ i, i < j → gi Y 174 i = nI (psW w n i) ∧ gi Y 175 i = hrW w n (psW w n i) ∧ TV Y w (psW w n i) i (hrW w n (psW w n i))
theorem R_text (hr : rowW S0 d w n) (hb : RDb S0 X) (h51 : gi X 136 51 = 0) (h52 : gi X 136 52 = 0) (h53 : gi X 136 53 = 0) (Q : Int32 × St → Prop)
    (kk : ∀ j Y, stW w n j = true → (∀ i, i < j → stW w n i = false) → SD S0 Y w n (psW w n j) j → ENT Y w n j → ∃ r, b_X12_town_91 Y = some r ∧ Q r) : ∃ r, lp 1000 l_X12_town_57 (nI d, X) = some r ∧ Q r := by
  have n100 := hr.2.1
  have hd := hr.1
  refine lp_inv (m := 40) (I := fun k x => x.1 = nI d ∧ ((RDb S0 x.2 ∧ gi x.2 136 51 = nI (psW w n k) ∧ gi x.2 136 52 = 0 ∧ gi x.2 136 53 = nI k ∧ (∀ i, i < k → stW w n i = false) ∧ ENT x.2 w n k) ∨ (∃ j, k = j + 1 ∧ stW w n j = true ∧ (∀ i, i < j → stW w n i = false) ∧ SD S0 x.2 w n (psW w n j) j ∧ ENT x.2 w n j))) (fun k x hk hI => ?_) 1000 0 (nI d, X) (Nat.zero_le _) (by omega) ⟨rfl, Or.inl ⟨hb, h51, h52, h53, fun i hi => absurd hi (Nat.not_lt_zero i), fun i hi => absurd hi (Nat.not_lt_zero i)⟩⟩
  obtain ⟨a1, Z⟩ := x
  obtain ⟨e1, hI⟩ := hI
  simp only at e1 hI
  subst e1
  unfold l_X12_town_57 b_X12_town_57
  dsimp only
  rcases hI with ⟨b1, b2, b3, b4, no, en⟩ | ⟨j, rfl, st, no, sd, en⟩
  · obtain ⟨k33, p99⟩ := psW_b n100 no
    obtain ⟨p3, pn⟩ := psW_3 k no
    obtain ⟨Y, y1, y2, y3, y4⟩ := R_stmt hr b1 p99 (j := k) (by omega) b2 b3 b4
    have body : (b_X12_town_84 (nI d) Z : Option ((Int32 × St) ⊕ (Int32 × St))) = some (.inl (nI d, Y)) := by
      unfold b_X12_town_84
      rw [y1, Option.bind_some]
    have go : (if gi Z 136 52 = 0 then (if gi Z 136 53 = 0 then b_X12_town_84 (nI d) Z else gd (inb (nI d) 8) (if gi Z 157 (nI d).toNatClampNeg ≤ gi Z 136 51 then (b_X12_town_91 Z).map Sum.inr else b_X12_town_84 (nI d) Z)) else (b_X12_town_91 Z).map Sum.inr) = some (.inl (nI d, Y)) := by
      rw [if_pos b3, b4]
      by_cases k0 : k = 0
      · subst k0
        rw [if_pos (show nI 0 = 0 from rfl), body]
      · have n0 : ¬ nI k = 0 := fun z => k0 ((nI_eq (b := 0) (by omega) (by decide)).mp z)
        have e157 : gi Z 157 d = nI n := by rw [b1.1.1 157 (by omega)]; exact hr.2.2.1
        have lt : psW w n k < n := pn.resolve_left k0
        rw [if_neg n0, gd_t (inb_n hd), tn_n (show d < 2 ^ 31 by omega), e157, b2, if_neg (nI_ge lt (by omega)), body]
    refine Or.inr ⟨by omega, _, go, rfl, ?_⟩
    have en2 : ENT Y w n k := fun i hi => by
      obtain ⟨c1, c2, c3⟩ := en i hi
      obtain ⟨f1, f2⟩ := y3 i hi
      exact ⟨f1.trans c1, f2.trans c2, TV_congr (fun q _ h2 => y4 q (by omega)) c3⟩
    cases st : stW w n k with
    | true => exact Or.inr ⟨k, rfl, st, no, y2, en2⟩
    | false =>
      obtain ⟨ok, lt⟩ := stW_f st
      obtain ⟨z1, z2, z3, z4, z5, z6⟩ := y2
      obtain ⟨v1, v2, v3⟩ := z5 ok
      refine Or.inl ⟨z1, v2, v1, z2, fun i hi => ?_, fun i hi => ?_⟩
      · rcases Nat.eq_or_lt_of_le (Nat.le_of_lt_succ hi) with e | e
        · rw [e]; exact st
        · exact no i e
      · rcases Nat.eq_or_lt_of_le (Nat.le_of_lt_succ hi) with e | e
        · rw [e]; exact ⟨z3, z4, v3⟩
        · exact en2 i e
  · obtain ⟨k33, p99⟩ := psW_b n100 no
    obtain ⟨r, r1, r2⟩ := kk j Z st no sd en
    refine Or.inl ⟨r, ?_, r2⟩
    obtain ⟨z1, z2, z3, z4, z5, z6⟩ := sd
    cases ok : okW w n (psW w n j) with
    | true =>
      obtain ⟨v1, v2, -⟩ := z5 ok
      have e157 : gi Z 157 d = nI n := by rw [z1.1.1 157 (by omega)]; exact hr.2.2.1
      have le : n ≤ nxW w n (psW w n j) := by
        unfold stW at st
        rw [ok] at st
        have st : n ≤ psW w n (j + 1) := by simpa using st
        exact st
      have q := okW_in ok
      have n0 : ¬ nI (j + 1) = 0 := fun z => by have := (nI_eq (b := 0) (by omega) (by decide)).mp z; omega
      rw [if_pos v1, z2, if_neg n0, gd_t (inb_n hd), tn_n (show d < 2 ^ 31 by omega), e157, v2, if_pos (nI_le le (by omega)), r1]
      rfl
    | false =>
      obtain ⟨v1, -⟩ := z6 ok
      rw [v1, if_neg (by decide), r1]
      rfl
/-- a digit, two digits, as numbers -/
theorem dig_1 {q : Nat} (h : fitsB 48 (chW w n q) = true) : ∃ a, a < 10 ∧ w q - 48 = nI a ∧ chW w n q = w q := by
  have e := hr_in (Or.inl rfl) h
  have lt : q < n := by
    rcases Nat.lt_or_ge q n with z | z
    · exact z
    · unfold chW at h
      rw [if_neg (by omega)] at h
      exact absurd h (by decide)
  have ec : chW w n q = w q := if_pos lt
  have r := (hr_d w n q).mpr h
  rw [e] at r
  obtain ⟨k, hk, ek⟩ := in_of (n := 57) rfl (by decide) ⟨Int32.le_trans (by decide) r.1, r.2⟩
  have k48 : 48 ≤ k := by
    rw [ek] at r
    exact (nI_leI (a := 48) (by decide) (by omega)).mp r.1
  refine ⟨k - 48, by omega, ?_, ec⟩
  rw [ek]
  exact pk_sub (a := k) (b := 48) k48
theorem dv_1 {q a : Nat} (h : w q - 48 = nI a) : dv w q 1 = nI a := by
  show 10 * (0 : Int32) + w (q + 0) - 48 = nI a
  rw [Nat.add_zero, show (10 : Int32) * 0 = 0 from rfl, Int32.zero_add, h]
theorem dv_2 {q a b : Nat} (h1 : w q - 48 = nI a) (h2 : w (q + 1) - 48 = nI b) : dv w q 2 = nI (10 * a + b) := by
  show 10 * dv w q 1 + w (q + 1) - 48 = _
  rw [dv_1 h1, Int32.sub_eq_add_neg, Int32.add_assoc, ← Int32.sub_eq_add_neg, h2]
  have : (10 : Int32) * nI a = nI (10 * a) := pk_mul 10 a
  rw [this, nI_add]
theorem at_q {X : St} {W : Sh} (rc : rowC X d W) {q : Nat} (hq : q < 2 ^ 30) (i : Nat) (hi : i < 20) : L_X8_at (70 + 2 * d) (nI q + nI i) X = some (chW W.2.2.2 W.2.2.1.2 (q + i)) := by
  rw [nI_add]
  exact at_W rc (by omega)
theorem digAt {X : St} {W : Sh} (rc : rowC X d W) {q a : Nat} (hq : q < 2 ^ 30) (h : W.2.2.2 q - 48 = nI a) (hc : chW W.2.2.2 W.2.2.1.2 q = W.2.2.2 q) : L_X8_digitAt (70 + 2 * d) (nI q) X = some (nI a) := by
  unfold L_X8_digitAt b_X8_digitAt_0
  rw [at_W rc (by omega), Option.bind_some, hc, h]
theorem pairAt {X : St} {W : Sh} (rc : rowC X d W) {q a b : Nat} (hq : q < 2 ^ 20) (h1 : W.2.2.2 q - 48 = nI a) (c1 : chW W.2.2.2 W.2.2.1.2 q = W.2.2.2 q) (h2 : W.2.2.2 (q + 1) - 48 = nI b) (c2 : chW W.2.2.2 W.2.2.1.2 (q + 1) = W.2.2.2 (q + 1)) : L_X8_pairAt (70 + 2 * d) (nI q) X = some (nI (10 * a + b)) := by
  unfold L_X8_pairAt b_X8_pairAt_0
  have : (10 : Int32) * nI a = nI (10 * a) := pk_mul 10 a
  rw [digAt rc (show q < 2 ^ 30 by omega) h1 c1, Option.bind_some, nI_1, digAt rc (show q + 1 < 2 ^ 30 by omega) h2 c2, Option.bind_some, this, nI_add]
theorem signAt {X : St} {W : Sh} (rc : rowC X d W) {q : Nat} (hq : q < 2 ^ 30) (hc : chW W.2.2.2 W.2.2.1.2 q = W.2.2.2 q) : L_X8_signAt (70 + 2 * d) (nI q) X = some (sv W.2.2.2 q) := by
  unfold L_X8_signAt b_X8_signAt_0 sv
  rw [at_W rc (by omega), Option.bind_some, hc]
  by_cases z : W.2.2.2 q = 45
  · rw [if_pos z, if_pos z]
  · rw [if_neg z, if_neg z]
theorem signedAt {X : St} {W : Sh} (rc : rowC X d W) {q a : Nat} (hq : q < 2 ^ 20) (c1 : chW W.2.2.2 W.2.2.1.2 q = W.2.2.2 q) (h2 : W.2.2.2 (q + 1) - 48 = nI a) (c2 : chW W.2.2.2 W.2.2.1.2 (q + 1) = W.2.2.2 (q + 1)) : L_X8_signedAt (70 + 2 * d) (nI q) X = some (sv W.2.2.2 q * nI a) := by
  unfold L_X8_signedAt b_X8_signedAt_0
  rw [signAt rc (show q < 2 ^ 30 by omega) c1, Option.bind_some, nI_1, digAt rc (show q + 1 < 2 ^ 30 by omega) h2 c2, Option.bind_some]
theorem sv_v (w : Nat → Int32) (q : Nat) : sv w q = 1 ∨ sv w q = -1 := by
  unfold sv
  by_cases z : w q = 45
  · rw [if_pos z]; exact Or.inr rfl
  · rw [if_neg z]; exact Or.inl rfl
theorem sv_d {q a : Nat} (ha : a < 10) : -9 ≤ sv w q * nI a ∧ sv w q * nI a ≤ 9 := by
  have t : ∀ a : Fin 10, (-9 ≤ (1 : Int32) * nI a.val ∧ (1 : Int32) * nI a.val ≤ 9) ∧ (-9 ≤ (-1 : Int32) * nI a.val ∧ (-1 : Int32) * nI a.val ≤ 9) := by decide
  rcases sv_v w q with e | e <;> rw [e]
  · exact (t ⟨a, ha⟩).1
  · exact (t ⟨a, ha⟩).2
theorem sgn_1 {q : Nat} (h : fitsB 43 (chW w n q) = true) : chW w n q = w q := by
  rcases Nat.lt_or_ge q n with z | z
  · exact if_pos z
  · unfold chW at h
    rw [if_neg (by omega)] at h
    exact absurd h (by decide)
end TEXT
