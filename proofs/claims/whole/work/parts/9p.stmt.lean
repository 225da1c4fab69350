/-! Texts: a STATEMENT read, all of them read. -/
def TV (Y : St) (w : Nat → Int32) (p j : Nat) (c : Int32) : Prop := (c = 102 → gi Y 176 (7 * j + 0) = dv w (p + 1 + 0) 1 ∧ gi Y 176 (7 * j + 1) = sv w (p + 1 + 1) * dv w (p + 1 + 2) 1 ∧ gi Y 176 (7 * j + 2) = dv w (p + 1 + 3) 2) ∧ (c = 112 → gi Y 176 (7 * j + 0) = dv w (p + 1 + 0) 1 ∧ gi Y 176 (7 * j + 1) = dv w (p + 1 + 1) 1 ∧ gi Y 176 (7 * j + 2) = dv w (p + 1 + 2) 1 ∧ gi Y 176 (7 * j + 3) = dv w (p + 1 + 3) 2 ∧ gi Y 176 (7 * j + 4) = sv w (p + 1 + 5) * dv w (p + 1 + 6) 1 ∧ gi Y 176 (7 * j + 5) = dv w (p + 1 + 7) 2) ∧ (c = 116 → gi Y 176 (7 * j + 0) = dv w (p + 1 + 0) 1 ∧ gi Y 176 (7 * j + 1) = sv w (p + 1 + 1) ∧ gi Y 176 (7 * j + 2) = dv w (p + 1 + 2) 2 ∧ gi Y 176 (7 * j + 3) = dv w (p + 1 + 4) 2 ∧ gi Y 176 (7 * j + 4) = dv w (p + 1 + 6) 2) ∧ (c = 107 → gi Y 176 (7 * j + 0) = dv w (p + 1 + 0) 1 ∧ gi Y 176 (7 * j + 1) = dv w (p + 1 + 1) 1) ∧ (c = 111 → gi Y 176 (7 * j + 0) = dv w (p + 1 + 0) 2) ∧ (c = 100 → gi Y 176 (7 * j + 0) = dv w (p + 1 + 0) 1) ∧ (c = 114 → gi Y 176 (7 * j + 0) = dv w (p + 1 + 0) 1)
theorem shp_hr (w : Nat → Int32) (n p : Nat) : shp (hrW w n p) = shW w n p := by
  unfold hrW shW chW
  by_cases h : p < n
  · rw [if_pos h, if_pos h]
  · rw [if_neg h, if_neg h]; decide
theorem shp_l {c : Int32} (h : shp c ≠ 5) : c = 102 ∨ c = 112 ∨ c = 116 ∨ c = 107 ∨ c = 111 ∨ c = 100 ∨ c = 114 := by
  by_cases h1 : c = 102
  · exact Or.inl h1
  · by_cases h2 : c = 112
    · exact Or.inr (Or.inl h2)
    · by_cases h3 : c = 116
      · exact Or.inr (Or.inr (Or.inl h3))
      · by_cases h4 : c = 107
        · exact Or.inr (Or.inr (Or.inr (Or.inl h4)))
        · by_cases h5 : c = 111
          · exact Or.inr (Or.inr (Or.inr (Or.inr (Or.inl h5))))
          · by_cases h6 : c = 100
            · exact Or.inr (Or.inr (Or.inr (Or.inr (Or.inr (Or.inl h6)))))
            · by_cases h7 : c = 114
              · exact Or.inr (Or.inr (Or.inr (Or.inr (Or.inr (Or.inr h7)))))
              · exact absurd (shp_else h1 h2 h3 h4 h5 h6 h7) h
theorem R_isL (c : Int32) (S : St) : L_X12_isLetter c S = some (if shp c = 5 then 0 else 1) := by
  unfold L_X12_isLetter b_X12_isLetter_0 b_X12_isLetter_42
  by_cases h : shp c = 5
  · rw [if_pos h]
    have ne : ∀ x : Int32, shp x ≠ 5 → ¬ c = x := fun x hx e => hx (e ▸ h)
    rw [if_neg (ne 102 (by decide)), if_neg (ne 112 (by decide)), if_neg (ne 107 (by decide)), if_neg (ne 116 (by decide)), if_neg (ne 111 (by decide)), if_neg (ne 100 (by decide)), if_neg (ne 114 (by decide))]
  · rw [if_neg h]
    rcases shp_l h with rfl | rfl | rfl | rfl | rfl | rfl | rfl <;> rfl
theorem sh_end : ∀ z, z < 5 → shC' z (slz z - 1) = 59 := by decide
section STMT
variable {S0 X : St} {d : Nat} {w : Nat → Int32} {n p : Nat}
theorem R_nums (hr : rowW S0 d w n) (hb : RDb S0 X) (hp : p ≤ 99) (hk : RDk X w n p 0) {c : Int32} (hc : hrW w n p = c) (h5 : shp c ≠ 5) {j : Nat} (hj : j ≤ 50) : ∃ Y, L_X12_readNumbers c (nI (7 * j)) X = some Y ∧ RDb S0 Y ∧ RDk Y w n p (slz (shW w n p) - 1) ∧ RTt X Y j ∧ (ms (fW w n p) (slz (shW w n p) - 1) = slz (shW w n p) - 1 → TV Y w p j c) := by
  rcases shp_l h5 with rfl | rfl | rfl | rfl | rfl | rfl | rfl
  · obtain ⟨Y, q1, q2, q3, q4, q5⟩ := R_n102 hr hb hp hk (show shW w n p = 0 by rw [← shp_hr, hc]; decide) hj
    have e : slz (shW w n p) - 1 = 5 := by rw [← shp_hr, hc]; decide
    rw [e]
    exact ⟨Y, q1, q2, q3, q4, fun hm => by
      have t := q5 hm
      exact ⟨fun _ => t, fun q => absurd q (by decide), fun q => absurd q (by decide), fun q => absurd q (by decide), fun q => absurd q (by decide), fun q => absurd q (by decide), fun q => absurd q (by decide)⟩⟩
  · obtain ⟨Y, q1, q2, q3, q4, q5⟩ := R_n112 hr hb hp hk (show shW w n p = 1 by rw [← shp_hr, hc]; decide) hj
    have e : slz (shW w n p) - 1 = 9 := by rw [← shp_hr, hc]; decide
    rw [e]
    exact ⟨Y, q1, q2, q3, q4, fun hm => by
      have t := q5 hm
      exact ⟨fun q => absurd q (by decide), fun _ => t, fun q => absurd q (by decide), fun q => absurd q (by decide), fun q => absurd q (by decide), fun q => absurd q (by decide), fun q => absurd q (by decide)⟩⟩
  · obtain ⟨Y, q1, q2, q3, q4, q5⟩ := R_n116 hr hb hp hk (show shW w n p = 2 by rw [← shp_hr, hc]; decide) hj
    have e : slz (shW w n p) - 1 = 8 := by rw [← shp_hr, hc]; decide
    rw [e]
    exact ⟨Y, q1, q2, q3, q4, fun hm => by
      have t := q5 hm
      exact ⟨fun q => absurd q (by decide), fun q => absurd q (by decide), fun _ => t, fun q => absurd q (by decide), fun q => absurd q (by decide), fun q => absurd q (by decide), fun q => absurd q (by decide)⟩⟩
  · obtain ⟨Y, q1, q2, q3, q4, q5⟩ := R_n107 hr hb hp hk (show shW w n p = 3 by rw [← shp_hr, hc]; decide) hj
    have e : slz (shW w n p) - 1 = 2 := by rw [← shp_hr, hc]; decide
    rw [e]
    exact ⟨Y, q1, q2, q3, q4, fun hm => by
      have t := q5 hm
      exact ⟨fun q => absurd q (by decide), fun q => absurd q (by decide), fun q => absurd q (by decide), fun _ => t, fun q => absurd q (by decide), fun q => absurd q (by decide), fun q => absurd q (by decide)⟩⟩
  · obtain ⟨Y, q1, q2, q3, q4, q5⟩ := R_n111 hr hb hp hk (show shW w n p = 3 by rw [← shp_hr, hc]; decide) hj
    have e : slz (shW w n p) - 1 = 2 := by rw [← shp_hr, hc]; decide
    rw [e]
    exact ⟨Y, q1, q2, q3, q4, fun hm => by
      have t := q5 hm
      exact ⟨fun q => absurd q (by decide), fun q => absurd q (by decide), fun q => absurd q (by decide), fun q => absurd q (by decide), fun _ => t, fun q => absurd q (by decide), fun q => absurd q (by decide)⟩⟩
  · obtain ⟨Y, q1, q2, q3, q4, q5⟩ := R_n100 hr hb hp hk (show shW w n p = 4 by rw [← shp_hr, hc]; decide) hj
    have e : slz (shW w n p) - 1 = 1 := by rw [← shp_hr, hc]; decide
    rw [e]
    exact ⟨Y, q1, q2, q3, q4, fun hm => by
      have t := q5 hm
      exact ⟨fun q => absurd q (by decide), fun q => absurd q (by decide), fun q => absurd q (by decide), fun q => absurd q (by decide), fun q => absurd q (by decide), fun _ => t, fun q => absurd q (by decide)⟩⟩
  · obtain ⟨Y, q1, q2, q3, q4, q5⟩ := R_n114 hr hb hp hk (show shW w n p = 4 by rw [← shp_hr, hc]; decide) hj
    have e : slz (shW w n p) - 1 = 1 := by rw [← shp_hr, hc]; decide
    rw [e]
    exact ⟨Y, q1, q2, q3, q4, fun hm => by
      have t := q5 hm
      exact ⟨fun q => absurd q (by decide), fun q => absurd q (by decide), fun q => absurd q (by decide), fun q => absurd q (by decide), fun q => absurd q (by decide), fun q => absurd q (by decide), fun _ => t⟩⟩
/-- what is known behind the reading of the STATEMENT j at p -/
def SD (S0 Y : St) (w : Nat → Int32) (n p j : Nat) : Prop := RDb S0 Y ∧ gi Y 136 53 = nI (j + 1) ∧ gi Y 174 j = nI p ∧ gi Y 175 j = hrW w n p ∧
  (okW w n p = true → gi Y 136 52 = 0 ∧ gi Y 136 51 = nI (nxW w n p) ∧ TV Y w p j (hrW w n p)) ∧ (okW w n p = false → gi Y 136 52 = 1 ∧ gi Y 136 51 = nI (wrW w n p))
theorem TV_congr {Y Z : St} {w : Nat → Int32} {p j : Nat} {c : Int32} (h : ∀ i, 7 * j ≤ i → i < 7 * j + 7 → gi Z 176 i = gi Y 176 i) (t : TV Y w p j c) : TV Z w p j c := by
  unfold TV at t ⊢
  rw [h (7 * j + 0) (by omega) (by omega), h (7 * j + 1) (by omega) (by omega), h (7 * j + 2) (by omega) (by omega), h (7 * j + 3) (by omega) (by omega), h (7 * j + 4) (by omega) (by omega), h (7 * j + 5) (by omega) (by omega)]
  exact t
theorem R_stmt (hr : rowW S0 d w n) (hb : RDb S0 X) (hp : p ≤ 99) {j : Nat} (hj : j ≤ 50) (h51 : gi X 136 51 = nI p) (h52 : gi X 136 52 = 0) (h53 : gi X 136 53 = nI j) : ∃ Y, L_X12_readStatement X = some Y ∧ SD S0 Y w n p j ∧ (∀ i, i < j → gi Y 174 i = gi X 174 i ∧ gi Y 175 i = gi X 175 i) ∧ (∀ i, i < 7 * j → gi Y 176 i = gi X 176 i) := by
  have z10 : ¬ (1 : Int32) = 0 := by decide
  have hh := R_here hr hb (q := p) (by omega) h51
  have j31 : j < 2 ^ 31 := by omega
  generalize hc : hrW w n p = c at hh
  obtain ⟨X1, hX1⟩ : ∃ X1, X1 = si (si X 174 j (nI p)) 175 j c := ⟨_, rfl⟩
  have b1 : RDb S0 X1 := by rw [hX1]; exact RDb_t (by decide) (RDb_t (by decide) hb)
  have o1 : gi X1 136 = gi X 136 := by rw [hX1, gi_si_n _ _ _ (by decide), gi_si_n _ _ _ (by decide)]
  have o174 : ∀ i, gi X1 174 i = if i = j then nI p else gi X 174 i := fun i => by
    rw [hX1, gi_si_n _ _ _ (by decide), gi_at]
    by_cases q : i = j
    · rw [if_pos ⟨rfl, q⟩, if_pos q]
    · rw [if_neg (fun y => q y.2), if_neg q]
  have o175 : ∀ i, gi X1 175 i = if i = j then c else gi X 175 i := fun i => by
    rw [hX1, gi_at]
    by_cases q : i = j
    · rw [if_pos ⟨rfl, q⟩, if_pos q]
    · rw [if_neg (fun y => q y.2), if_neg q, gi_si_n _ _ _ (by decide)]
  have o176 : gi X1 176 = gi X 176 := by rw [hX1, gi_si_n _ _ _ (by decide), gi_si_n _ _ _ (by decide)]
  -- the end of a statement
  have fin : ∀ (Z : St) (s0 : Int32) (q dl : Nat), RDb S0 Z → RTt X1 Z j → gi Z 136 51 = nI q → (s0 = 0 ∧ dl = 1 ∨ s0 = 1 ∧ dl = 0) → ∃ Y, b_X12_readStatement_109 s0 Z = some Y ∧ RDb S0 Y ∧ gi Y 136 53 = nI (j + 1) ∧ gi Y 136 51 = nI (q + dl) ∧ gi Y 136 52 = s0 ∧ (∀ a, a ≠ 136 → gi Y a = gi Z a) := by
    intro Z s0 q dl hZ rZ e51 hs
    have e53 : gi Z 136 53 = nI j := by rw [rZ.2.2 53 (by decide) (by decide), o1]; exact h53
    have nx : b_X12_readStatement_109 s0 Z = some (si (si (si Z 136 52 s0) 136 51 (nI (q + dl))) 136 53 (nI (j + 1))) := by
      have e0 : nI q + 0 = nI (q + 0) := by rw [Int32.add_zero]; rfl
      have f53 : gi (si (si Z 136 52 s0) 136 51 (nI (q + dl))) 136 53 = nI j := by rw [gi_at, if_neg (by decide), gi_at, if_neg (by decide)]; exact e53
      unfold b_X12_readStatement_109 b_X12_readStatement_129
      rcases hs with ⟨rfl, rfl⟩ | ⟨rfl, rfl⟩
      · rw [gd_t (by decide), nm_eq, at_52s, if_pos rfl, at_52, e51, nm_eq, nI_1, f53, nm_eq, nI_1]
      · rw [gd_t (by decide), nm_eq, at_52s, if_neg z10, at_52, e51, nm_eq, e0, f53, nm_eq, nI_1]
    refine ⟨_, nx, RDb_si (Or.inr (Or.inr rfl)) (RDb_si (Or.inl rfl) (RDb_si (Or.inr (Or.inl rfl)) hZ)), ?_, ?_, ?_, fun a ha => ?_⟩
    · rw [gi_at, if_pos ⟨rfl, rfl⟩]
    · rw [gi_at, if_neg (by decide), gi_at, if_pos ⟨rfl, rfl⟩]
    · rw [gi_at, if_neg (by decide), gi_at, if_neg (by decide), gi_at, if_pos ⟨rfl, rfl⟩]
    · rw [gi_si_n _ _ _ ha, gi_si_n _ _ _ ha, gi_si_n _ _ _ ha]
  have wrap : ∀ Z Y, RTt X1 Z j → (∀ a, a ≠ 136 → gi Y a = gi Z a) → gi Y 174 j = nI p ∧ gi Y 175 j = c ∧ (∀ i, i < j → gi Y 174 i = gi X 174 i ∧ gi Y 175 i = gi X 175 i) ∧ (∀ i, i < 7 * j → gi Y 176 i = gi X 176 i) := by
    intro Z Y rZ oY
    have a174 : ∀ i, gi Y 174 i = gi X1 174 i := fun i => by rw [oY 174 (by decide), rZ.2.1 174 (by decide) (by decide)]
    have a175 : ∀ i, gi Y 175 i = gi X1 175 i := fun i => by rw [oY 175 (by decide), rZ.2.1 175 (by decide) (by decide)]
    refine ⟨by rw [a174, o174, if_pos rfl], by rw [a175, o175, if_pos rfl], fun i hi => ⟨by rw [a174, o174, if_neg (by omega)], by rw [a175, o175, if_neg (by omega)]⟩, fun i hi => ?_⟩
    rw [oY 176 (by decide), rZ.1 i hi, o176]
  unfold L_X12_readStatement b_X12_readStatement_0
  rw [hh, Option.bind_some, h53, gd_t (inb_n (show j < 51 by omega)), tn_n j31, h51, nm_eq, gd_t (inb_n (show j < 51 by omega)), nm_eq, ← hX1, o1, h52, if_pos rfl, R_isL, Option.bind_some]
  by_cases h5 : shp c = 5
  · have sh5 : shW w n p = 5 := by rw [← shp_hr, hc]; exact h5
    have nok : okW w n p = false := by unfold okW; rw [decide_eq_false (fun q => q sh5)]; rfl
    have ewr : wrW w n p = p := by unfold wrW; rw [if_pos sh5]
    rw [if_pos h5, if_pos rfl]
    unfold b_X12_readStatement_42 b_X12_readStatement_47 b_X12_readStatement_67 b_X12_readStatement_87 b_X12_readStatement_104
    have e0 : nI p + 0 = nI p := Int32.add_zero _
    rw [gd_t (by decide), nm_eq, at_52s, if_neg z10, at_52, o1, h51, nm_eq, e0, at_51, at_52s, if_neg z10, if_neg z10]
    have rZ : RTt X1 (si (si X1 136 52 1) 136 51 (nI p)) j := ⟨fun i _ => by rw [gi_si_n _ _ _ (by decide), gi_si_n _ _ _ (by decide)], fun a h1 _ => by rw [gi_si_n _ _ _ h1, gi_si_n _ _ _ h1], fun i h1 h2 => by rw [gi_at, if_neg (by omega), gi_at, if_neg (by omega)]⟩
    obtain ⟨Y, y1, y2, y3, y4, y5, y6⟩ := fin _ 1 p 0 (RDb_si (Or.inl rfl) (RDb_si (Or.inr (Or.inl rfl)) b1)) rZ (at_51s _ _) (Or.inr ⟨rfl, rfl⟩)
    obtain ⟨u1, u2, u3, u4⟩ := wrap _ Y rZ y6
    exact ⟨Y, y1, ⟨y2, y3, u1, by rw [hc]; exact u2, fun q => (by rw [nok] at q; cases q), fun _ => ⟨y5, by rw [ewr]; exact y4⟩⟩, u3, u4⟩
  · have sh5 : shW w n p ≠ 5 := by rw [← shp_hr, hc]; exact h5
    have z5 := shW_5 sh5
    have l2 := slz_2 _ z5
    have l10 := slz_le (shW w n p)
    rw [if_neg h5, if_neg z10]
    unfold b_X12_readStatement_47 b_X12_readStatement_67
    rw [gd_t (by decide), nm_eq, at_52s, if_pos rfl, at_52, o1, h51, nm_eq, nI_1, at_51, at_52s, if_pos rfl]
    have rZ : RTt X1 (si (si X1 136 52 0) 136 51 (nI (p + 1))) j := ⟨fun i _ => by rw [gi_si_n _ _ _ (by decide), gi_si_n _ _ _ (by decide)], fun a h1 _ => by rw [gi_si_n _ _ _ h1, gi_si_n _ _ _ h1], fun i h1 h2 => by rw [gi_at, if_neg (by omega), gi_at, if_neg (by omega)]⟩
    have k0 : RDk (si (si X1 136 52 0) 136 51 (nI (p + 1))) w n p 0 := ⟨at_51s _ _, by rw [at_51, at_52s, if_neg (Nat.not_lt_zero _)]⟩
    have e7 : (7 : Int32) * nI j = nI (7 * j) := pk_mul 7 j
    obtain ⟨Z, q1, q2, ⟨q3, q4⟩, q5, q6⟩ := R_nums hr (RDb_si (Or.inl rfl) (RDb_si (Or.inr (Or.inl rfl)) b1)) hp k0 hc h5 hj
    have rZ2 : RTt X1 Z j := ⟨fun i hi => (q5.1 i hi).trans (rZ.1 i hi), fun a h1 h2 => (q5.2.1 a h1 h2).trans (rZ.2.1 a h1 h2), fun i h1 h2 => (q5.2.2 i h1 h2).trans (rZ.2.2 i h1 h2)⟩
    generalize hK : slz (shW w n p) - 1 = K at *
    have hK1 : slz (shW w n p) = K + 1 := by omega
    have m1 : ms (fW w n p) K ≤ K := (ms_of _ _).1
    have emW : msW w n p = ms (fW w n p) (K + 1) := by unfold msW; rw [hK1]
    have hcK : fW w n p K = fitsB 59 (chW w n (p + 1 + K)) := by unfold fW; rw [← hK, sh_end _ z5]
    rw [e7, q1, Option.bind_some]
    unfold b_X12_readStatement_87 b_X12_readStatement_104
    by_cases bd : ms (fW w n p) K < K
    · rw [if_pos bd] at q4
      rw [q4, if_neg z10]
      have e1 : msW w n p = ms (fW w n p) K := by rw [emW, ms_s, if_pos bd]
      have nok : okW w n p = false := by unfold okW; rw [decide_eq_false (show ¬ msW w n p = _ by omega), Bool.and_false]
      have ewr : wrW w n p = p + 1 + ms (fW w n p) K := by unfold wrW; rw [if_neg sh5, e1]
      obtain ⟨Y, y1, y2, y3, y4, y5, y6⟩ := fin Z 1 _ 0 q2 rZ2 q3 (Or.inr ⟨rfl, rfl⟩)
      obtain ⟨u1, u2, u3, u4⟩ := wrap Z Y rZ2 y6
      exact ⟨Y, y1, ⟨y2, y3, u1, by rw [hc]; exact u2, fun q => (by rw [nok] at q; cases q), fun _ => ⟨y5, by rw [ewr]; exact y4⟩⟩, u3, u4⟩
    · have eq : ms (fW w n p) K = K := by omega
      rw [if_neg bd] at q4
      rw [eq] at q3
      have hh2 := R_here hr q2 (q := p + 1 + K) (by omega) q3
      rw [q4, if_pos rfl, hh2, Option.bind_some]
      by_cases ft : fitsB 59 (chW w n (p + 1 + K)) = true
      · rw [if_pos ((hr_e w n _).mpr ft)]
        have e1 : msW w n p = K + 1 := by rw [emW, ms_s, if_neg bd, if_pos (by rw [hcK]; exact ft)]
        have ok : okW w n p = true := by unfold okW; rw [decide_eq_true sh5, decide_eq_true (show msW w n p = _ by omega)]; rfl
        obtain ⟨Y, y1, y2, y3, y4, y5, y6⟩ := fin Z 0 _ 1 q2 rZ2 q3 (Or.inl ⟨rfl, rfl⟩)
        obtain ⟨u1, u2, u3, u4⟩ := wrap Z Y rZ2 y6
        exact ⟨Y, y1, ⟨y2, y3, u1, by rw [hc]; exact u2, fun _ => ⟨y5, by unfold nxW; rw [hK1]; exact y4, by rw [hc]; exact TV_congr (fun i _ _ => by rw [y6 176 (by decide)]) (q6 eq)⟩, fun q => (by rw [ok] at q; cases q)⟩, u3, u4⟩
      · rw [if_neg (fun y => ft ((hr_e w n _).mp y))]
        have e1 : msW w n p = K := by rw [emW, ms_s, if_neg bd, if_neg (by rw [hcK]; exact ft)]
        have nok : okW w n p = false := by unfold okW; rw [decide_eq_false (show ¬ msW w n p = _ by omega), Bool.and_false]
        have ewr : wrW w n p = p + 1 + K := by unfold wrW; rw [if_neg sh5, e1]
        obtain ⟨Y, y1, y2, y3, y4, y5, y6⟩ := fin Z 1 _ 0 q2 rZ2 q3 (Or.inr ⟨rfl, rfl⟩)
        obtain ⟨u1, u2, u3, u4⟩ := wrap Z Y rZ2 y6
        exact ⟨Y, y1, ⟨y2, y3, u1, by rw [hc]; exact u2, fun q => (by rw [nok] at q; cases q), fun _ => ⟨y5, by rw [ewr]; exact y4⟩⟩, u3, u4⟩
end STMT
