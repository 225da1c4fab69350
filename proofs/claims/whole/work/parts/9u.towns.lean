/-! town: all STATEMENTS on both sides at once; the call. -/
theorem repC_old {S S' : St} {t : Nat} {T : TT} (hW : WT T) (hf : full S t) (o : ∀ a, t ≤ a → a ≤ t + 17 → gi S' a = gi S a ∧ gr S' a = gr S a) (hq0 : ∀ q, q < tp S → gp S' q = gp S q) (h : repC S t T) : repC S' t T := by
  obtain ⟨a1, a2, a3, a4, a5, a6, a7, a8⟩ := h
  refine ⟨by rw [(o t (by omega) (by omega)).1]; exact a1, by rw [(o t (by omega) (by omega)).1]; exact a2, by rw [(o t (by omega) (by omega)).1]; exact a3, fun p hp => ?_, ?_, ?_, ?_, ?_⟩
  · obtain ⟨⟨q, e1, e2⟩, b1, b2, b3, b4⟩ := a4 p hp
    obtain ⟨q', z, f1, f2, f3⟩ := hf p (by have := hW.1; omega)
    have : q' = q := Option.some.inj (f1.symm.trans e1)
    subst this
    refine ⟨⟨q', by rw [(o (t + 1) (by omega) (by omega)).2]; exact e1, by rw [gq_local (hq0 q' f3)]; exact e2⟩, ?_, ?_, ?_, ?_⟩
    · rw [(o (t + 3) (by omega) (by omega)).1]; exact b1
    · rw [(o (t + 4) (by omega) (by omega)).1]; exact b2
    · rw [(o (t + 5) (by omega) (by omega)).1]; exact b3
    · rw [(o (t + 6) (by omega) (by omega)).1]; exact b4
  · rw [(o (t + 7) (by omega) (by omega)).1, (o (t + 8) (by omega) (by omega)).1, (o (t + 9) (by omega) (by omega)).1, (o (t + 10) (by omega) (by omega)).1]; exact a5
  · rw [(o (t + 11) (by omega) (by omega)).1, (o (t + 12) (by omega) (by omega)).1, (o (t + 13) (by omega) (by omega)).1, (o (t + 14) (by omega) (by omega)).1, (o (t + 15) (by omega) (by omega)).1]; exact a6
  · rw [(o (t + 16) (by omega) (by omega)).1]; exact a7
  · rw [(o (t + 17) (by omega) (by omega)).1]; exact a8
section TOWNS
variable {S S0 S1 X Y : St} {d n j : Nat} {W : Sh} {w : Nat → Int32} {T T0 : TT} {im : Option TT} {sh : Nat → Sh}
theorem rowC_up (h : UpW S0 X) (hd : d < 8) (rc : rowC S0 d W) : rowC X d W := by
  obtain ⟨r1, r2, r3, r4, r5⟩ := rc
  have e1 := (h.1 (70 + 2 * d) (by omega)).1
  have e2 := (h.1 (71 + 2 * d) (by omega)).1
  exact ⟨by rw [e1]; exact r1, r2, by rw [e1]; exact r3, r4, fun i hi => by rw [e2]; exact r5 i hi⟩
theorem R_closeW (h : RW S1 Y T0) : ∃ Y', L_X12_close Y = some Y' ∧ RE S1 Y' T0 ∧ gi Y' 174 = gi Y 174 := by
  obtain ⟨u, h29, h30, hI, hW0⟩ := h
  obtain ⟨Z, y1, y2⟩ := carry_all (take := false) (u := 172) (Or.inl rfl) Y
  have hR' : repR Z T0 := (img_of hW0 (fun i hi => (y2.2.2.2.2.2.1 rfl i hi).symm)).mp hI
  have u2 : UpE S1 Z := UpE_tr u ⟨CA_UpR (Or.inl rfl) y2, fun a ha => CA_outF y2 (by omega) (Or.inr (by omega)), y2.2.2.2.2.2.2.2.1 158, CA_out y2 (by decide) (Or.inr (Or.inr (by decide)))⟩
  refine ⟨si (si Z 136 29 63) 136 30 0, ?_, ⟨UpE_slot (by decide) (UpE_slot (by decide) u2 63) 0, hW0, repR_slot (repR_slot hR' (by decide) 63) (by decide) 0, ?_, ?_⟩, ?_⟩
  · unfold L_X12_close b_X12_close_0
    rw [show L_X12_carryAll 172 0 Y = some Z from y1, Option.bind_some, nm_eq, nm_eq]
  · rw [gi_at, if_neg (by decide), gi_at, if_pos ⟨rfl, rfl⟩]
  · rw [gi_at, if_pos ⟨rfl, rfl⟩]
  · rw [gi_si_n _ _ _ (show 174 ≠ 136 by decide), gi_si_n _ _ _ (show 174 ≠ 136 by decide)]
    exact CA_outF y2 (by omega) (Or.inr (by omega))
theorem R_openK (h : RE S X T) : ∃ Y, L_X12_open X = some Y ∧ RO S Y T T ∧ KE X Y := by
  obtain ⟨Y, y1, y2⟩ := carry_all (take := true) (u := 172) (Or.inl rfl) X
  obtain ⟨Y', z1, z2⟩ := R_open h
  have e : L_X12_open X = some Y := by
    unfold L_X12_open b_X12_open_0
    rw [show L_X12_carryAll 172 1 X = some Y from y1, Option.bind_some]
  have : Y' = Y := Option.some.inj (z1.symm.trans e)
  subst this
  exact ⟨Y', z1, z2, CA_outF y2 (by omega) (Or.inr (by omega)), CA_outF y2 (by omega) (Or.inr (by omega)), CA_outF y2 (by omega) (Or.inr (by omega)), CA_out y2 (by decide) (Or.inr (Or.inr (by decide)))⟩
theorem ENT_KE {Y' : St} (k : KE Y Y') (h : ENT Y w n j) : ENT Y' w n j := fun i hi => by
  obtain ⟨h1, h2, h3⟩ := h i hi
  rw [k.1, k.2.1]
  exact ⟨h1, h2, TV_congr (fun q _ _ => by rw [k.2.2.1]) h3⟩
set_option maxRecDepth 100000 in
theorem neg_2000 : ∀ p, p ≤ 99 → (-2000 : Int32) - nI p < 0 := by
  have : ∀ p : Fin 100, (-2000 : Int32) - nI p.val < 0 := by decide
  exact fun p hp => this ⟨p, by omega⟩
set_option maxRecDepth 100000 in
theorem neg_1000 : ∀ p, p ≤ 199 → (-1000 : Int32) - nI p < 0 := by
  have : ∀ p : Fin 200, (-1000 : Int32) - nI p.val < 0 := by decide
  exact fun p hp => this ⟨p, by omega⟩
theorem town_run (hd : d < 8) (rc : rowC S0 d W) (st : stW W.2.2.2 W.2.2.1.2 j = true) (no : ∀ i, i < j → stW W.2.2.2 W.2.2.1.2 i = false) (okj : okW W.2.2.2 W.2.2.1.2 (psW W.2.2.2 W.2.2.1.2 j) = true) : ∀ m k f f' X Y T, m + k = j + 1 → m < f → m < f' → CW S0 X T → RO S1 Y T T0 → ENT Y W.2.2.2 W.2.2.1.2 (j + 1) → gi Y 136 53 = nI (j + 1) →
    ∃ r X' Y', lp f (l_hr_20 19 (70 + 2 * d)) (nI k, nI (psW W.2.2.2 W.2.2.1.2 k), X) = some (r, X') ∧ lp f' l_X12_town_113 (nI k, Y) = some (r, Y') ∧ ((0 ≤ r ∧ ∃ T', CW S0 X' T' ∧ RO S1 Y' T' T0) ∨ (r < 0 ∧ UpW S0 X' ∧ RE S1 Y' T0)) := by
  have n100 := rc.2.2.2.1
  obtain ⟨j33, pj⟩ := psW_b n100 no
  intro m
  induction m with
  | zero =>
    intro k f f' X Y T e hf hf' hC hR en h53
    have ek : k = j + 1 := by omega
    subst ek
    obtain ⟨f, rfl⟩ : ∃ q, f = q + 1 := ⟨f - 1, by omega⟩
    obtain ⟨f', rfl⟩ : ∃ q, f' = q + 1 := ⟨f' - 1, by omega⟩
    have rX := rowC_up hC.1 hd rc
    have q := okW_in okj
    have le : W.2.2.1.2 ≤ psW W.2.2.2 W.2.2.1.2 (j + 1) := by
      unfold stW at st
      rw [okj] at st
      simpa using st
    have up : psW W.2.2.2 W.2.2.1.2 (j + 1) ≤ W.2.2.1.2 := q.1
    refine ⟨nI (j + 1), X, Y, ?_, ?_, Or.inl ⟨n0_le (by omega), T, hC, hR⟩⟩
    · have b : l_hr_20 19 (70 + 2 * d) (nI (j + 1), nI (psW W.2.2.2 W.2.2.1.2 (j + 1)), X) = some (.inr (nI (j + 1), X)) := by
        unfold l_hr_20
        dsimp only
        rw [rX.2.2.1, if_pos (nI_le le (by omega))]
      simp only [lp, b, Option.bind_some]
    · have b : l_X12_town_113 (nI (j + 1), Y) = some (.inr (nI (j + 1), Y)) := by
        unfold l_X12_town_113 b_X12_town_113
        dsimp only
        rw [h53, if_pos (Int32.le_refl _)]
      simp only [lp, b, Option.bind_some]
  | succ m ih =>
    intro k f f' X Y T e hf hf' hC hR en h53
    have kj : k ≤ j := by omega
    obtain ⟨f, rfl⟩ : ∃ q, f = q + 1 := ⟨f - 1, by omega⟩
    obtain ⟨f', rfl⟩ : ∃ q, f' = q + 1 := ⟨f' - 1, by omega⟩
    have rX := rowC_up hC.1 hd rc
    have ok : okW W.2.2.2 W.2.2.1.2 (psW W.2.2.2 W.2.2.1.2 k) = true := by
      rcases Nat.eq_or_lt_of_le kj with z | z
      · rw [z]; exact okj
      · exact (stW_f (no k z)).1
    have q := okW_in ok
    obtain ⟨k33, pk⟩ := psW_b n100 (fun i hi => no i (Nat.lt_of_lt_of_le hi kj))
    obtain ⟨e1, e2, tv⟩ := en k (by omega)
    have lt : psW W.2.2.2 W.2.2.1.2 k < W.2.2.1.2 := by omega
    have hn : ¬ nI (j + 1) ≤ nI k := nI_ge (by omega) (by omega)
    have hk : ¬ nI W.2.2.1.2 ≤ nI (psW W.2.2.2 W.2.2.1.2 k) := nI_ge lt (by omega)
    rcases ST_all (S0 := S0) (S1 := S1) (T0 := T0) hC rX hR pk k33 ok e2 tv with ⟨T', r, X', Y', c1, c2, c3, c4, c5, c6⟩ | ⟨r, X', Y', c1, c2, c3, c4, c5, c6⟩
    · obtain ⟨r', X'', Y'', z1, z2, z3⟩ := ih (k + 1) f f' X' Y' T' (by omega) (by omega) (by omega) c3 c6 (ENT_KE c5 en) (c5.2.2.2.trans h53)
      refine ⟨r', X'', Y'', ?_, ?_, z3⟩
      · have b : l_hr_20 19 (70 + 2 * d) (nI k, nI (psW W.2.2.2 W.2.2.1.2 k), X) = some (.inl (nI (k + 1), nI (psW W.2.2.2 W.2.2.1.2 (k + 1)), X')) := by
          unfold l_hr_20
          dsimp only
          rw [rX.2.2.1, if_neg hk, c1, Option.bind_some]
          dsimp only
          rw [if_pos c2, at_W (rowC_up c3.1 hd rc) (by omega), Option.bind_some, nI_1]
          have : nI (psW W.2.2.2 W.2.2.1.2 k) + (1 + shN (shp (chW W.2.2.2 W.2.2.1.2 (psW W.2.2.2 W.2.2.1.2 k)))) = nI (psW W.2.2.2 W.2.2.1.2 (k + 1)) := by
            show nI _ + (nI 1 + nI (slz (shW W.2.2.2 W.2.2.1.2 (psW W.2.2.2 W.2.2.1.2 k)))) = nI (nxW _ _ _)
            rw [nI_add, nI_add]
            unfold nxW
            rw [Nat.add_assoc]
          rw [this]
        simp only [lp, b, Option.bind_some]
        exact z1
      · have b : l_X12_town_113 (nI k, Y) = some (.inl (nI (k + 1), Y')) := by
          unfold l_X12_town_113 b_X12_town_113
          dsimp only
          rw [h53, if_neg hn, c4, Option.bind_some]
          dsimp only
          rw [if_neg (show ¬ (1 : Int32) = 0 by decide), nI_1]
        simp only [lp, b, Option.bind_some]
        exact z2
    · obtain ⟨Y'', d1, d2, d3⟩ := R_closeW c6
      refine ⟨-2000 - nI (psW W.2.2.2 W.2.2.1.2 k), X', Y'', ?_, ?_, Or.inr ⟨neg_2000 _ pk, c3, d2⟩⟩
      · have b : l_hr_20 19 (70 + 2 * d) (nI k, nI (psW W.2.2.2 W.2.2.1.2 k), X) = some (.inr (-2000 - nI (psW W.2.2.2 W.2.2.1.2 k), X')) := by
          unfold l_hr_20
          dsimp only
          rw [rX.2.2.1, if_neg hk, c1, Option.bind_some]
          dsimp only
          rw [if_neg (Int32.not_le.mpr c2)]
        simp only [lp, b, Option.bind_some]
      · have b : l_X12_town_113 (nI k, Y) = some (.inr (-2000 - nI (psW W.2.2.2 W.2.2.1.2 k), Y'')) := by
          unfold l_X12_town_113 b_X12_town_113
          dsimp only
          rw [h53, if_neg hn, c4, Option.bind_some]
          dsimp only
          rw [if_pos rfl, d1, Option.bind_some, gd_t (inb_n (show k < 51 by omega)), tn_n (show k < 2 ^ 31 by omega), d3, c5.1, e1]
        simp only [lp, b, Option.bind_some]
end TOWNS
