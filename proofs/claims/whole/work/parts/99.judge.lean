/-! judge. -/
section JUDGE
variable {S S0 X : St} {T : TT} {im : Option TT} {sh : Nat → Sh} {d : Nat}
def jF (T : TT) (w : Sh) (p k : Nat) : Bool := !(decide (w.2.2.2 k = sk w.2.2.1.1)) && (decide (23 < k) || !(decide (w.2.2.2 k = sCoins T (sDay T tt false) p (nI k))))
theorem J_judge (c : IC S (T, im, sh)) (g : IR S (T, im, sh)) (p q : Int32) : JJ S (L_X11_judge p q) (L_X12_judge p q) := by
  have n8 : tn T ≤ 8 := c.2.1.1
  obtain ⟨hW, cR⟩ := IC_1 c
  have z10 : ¬ (1 : Int32) = 0 := by decide
  have refuse : ∀ r, (L_X11_judge p q S = some (r, S)) → (∀ S1, IR S1 (T, im, sh) → L_X12_judge p q S1 = some (r, si S1 136 28 0)) → JJ S (L_X11_judge p q) (L_X12_judge p q) := fun r h1 h2 => JJ_D c g r ⟨S, h1, UpD_refl S⟩ (fun S1 g1 => ⟨_, h2 S1 g1, RE_0 g1⟩)
  rcases ix_split p (tn T) (by omega) with ⟨j, hj, rfl⟩ | bad
  · rcases ix_split q 8 (by decide) with ⟨d, hd, rfl⟩ | bad2
    · have d31 : d < 2 ^ 31 := by omega
      have w2 : (sh d).1 ≤ 2 := (c.2.2.2.2.2.2 d hd).2.1
      have r1 := C_sr c hd (want := 2) (by decide)
      have r2 : ∀ S1, IR S1 (T, im, sh) → L_X12_wrongRow (nI d) (si S1 136 28 0) = some (refS (sh d) 2) := fun S1 g1 => (R_wr (IR_thr g1 0) hd w2).1
      have bad : ∀ r : Int32, ¬ r = 0 → ¬ 0 ≤ r → refS (sh d) 2 = r → JJ S (L_X11_judge (nI j) (nI d)) (L_X12_judge (nI j) (nI d)) := by
        intro r h1 h2 e
        refine refuse r ?_ (fun S1 g1 => ?_)
        · unfold L_X11_judge b_X11_judge_0
          rw [C_nb0 cR.1 n8 hj, Option.bind_some, if_pos rfl, show (2 : Int32) = nI 2 from rfl, r1, e, Option.bind_some, if_neg h1]
        · unfold L_X12_judge b_X12_judge_0 b_X12_judge_22
          rw [nm_eq, R_one1 (RE_0 g1).2.2.1.1 n8 hj, Option.bind_some, if_neg z10, r2 S1 g1, e, Option.bind_some, if_neg h2]
      rcases ref_v (sh d) 2 with e | e | ⟨e, e1⟩
      · exact bad (-11) (by decide) (by decide) e
      · exact bad (-12) (by decide) (by decide) e
      · have rc := rowC_of c hd e1
        have n100 := rc.2.2.2.1
        refine JJ_P c g (isL (jF T (sh d) j) 0 (sh d).2.2.1.2) (fun r r' h h' => isL_u h h') ?_ (fun S1 g1 => ?_)
        · obtain ⟨X, x1, x2, x3, -⟩ := C_go (Or.inl rfl) hW cR bits_m1
          have rX := rowC_D hd x2 rc
          unfold L_X11_judge b_X11_judge_0
          rw [C_nb0 cR.1 n8 hj, Option.bind_some, if_pos rfl, show (2 : Int32) = nI 2 from rfl, r1, e, Option.bind_some, if_pos rfl, x1, Option.bind_some, gd_t (inb_n hd), tn_n d31]
          have key := lp_inv (body := l_X11_judge_46) (m := (sh d).2.2.1.2) (I := fun k x => x.1 = nI j ∧ x.2.1 = 70 + 2 * d ∧ x.2.2.1 = nI k ∧ x.2.2.2 = X ∧ ∀ i, i < k → jF T (sh d) j i = false) (Q := fun y => UpD S y.2 ∧ isL (jF T (sh d) j) 0 (sh d).2.2.1.2 y.1) (fun k x hk hI => ?_) 1000 0 (nI j, 70 + 2 * d, 0, X) (Nat.zero_le _) (by omega) ⟨rfl, rfl, rfl, rfl, fun i hi => absurd hi (Nat.not_lt_zero i)⟩
          · obtain ⟨⟨y1, y2⟩, e, e1, e2⟩ := key
            exact ⟨y1, y2, e, e1, e2⟩
          · obtain ⟨a1, a2, a3, Z⟩ := x
            obtain ⟨e1, e2, e3, e4, e5⟩ := hI
            simp only at e1 e2 e3 e4
            subst e1 e2 e3 e4
            unfold l_X11_judge_46 b_X11_judge_46 b_X11_judge_99
            dsimp only
            rw [rX.2.2.1]
            rcases Nat.lt_or_ge k (sh d).2.2.1.2 with hl | hl
            · obtain ⟨s1, s2⟩ := C_skip rX hl
              rw [if_neg (nI_ge hl (by omega)), s1, Option.bind_some, nI_1]
              have stp : jF T (sh d) j k = false → ∀ i, i < k + 1 → jF T (sh d) j i = false := fun z i hi => by
                rcases Nat.eq_or_lt_of_le (Nat.le_of_lt_succ hi) with q | q
                · rw [q]; exact z
                · exact e5 i q
              have fin : jF T (sh d) j k = true → isL (jF T (sh d) j) 0 (sh d).2.2.1.2 (nI k) := fun z => Or.inl ⟨k, Nat.zero_le _, hl, z, fun i _ hi => e5 i hi, rfl⟩
              by_cases z : (sh d).2.2.2 k = sk (sh d).2.2.1.1
              · rw [if_pos z, if_neg z10]
                exact Or.inr ⟨hl, _, rfl, rfl, rfl, rfl, rfl, stp (by unfold jF; rw [decide_eq_true z]; rfl)⟩
              · rw [if_neg z, if_pos rfl]
                by_cases z2 : 23 < k
                · rw [if_pos (show (23 : Int32) < nI k from nI_lt (a := 23) z2 (by omega))]
                  exact Or.inl ⟨_, rfl, x2, fin (by unfold jF; rw [decide_eq_false z, decide_eq_true z2]; rfl)⟩
                · rw [if_neg (show ¬ (23 : Int32) < nI k from nI_nlt (a := 23) (by omega) (by decide)), s2, Option.bind_some, C_coinsAt x3 hj, Option.bind_some]
                  by_cases z3 : (sh d).2.2.2 k = sCoins T (sDay T tt false) j (nI k)
                  · rw [if_pos z3]
                    exact Or.inr ⟨hl, _, rfl, rfl, rfl, rfl, rfl, stp (by unfold jF; rw [decide_eq_false z, decide_eq_false z2, decide_eq_true z3]; rfl)⟩
                  · rw [if_neg z3]
                    exact Or.inl ⟨_, rfl, x2, fin (by unfold jF; rw [decide_eq_false z, decide_eq_false z2, decide_eq_false z3]; rfl)⟩
            · have : k = (sh d).2.2.1.2 := by omega
              subst this
              rw [if_pos (Int32.le_refl _)]
              exact Or.inl ⟨_, rfl, x2, Or.inr ⟨fun q _ hq => e5 q hq, rfl⟩⟩
        · have e0 := RE_0 g1
          obtain ⟨Y, y1, -, y2, y3⟩ := RE_go e0
          have rY := rowR_E y2.1 (rowR_of g1 hd e1)
          unfold L_X12_judge b_X12_judge_0 b_X12_judge_22
          rw [nm_eq, R_one1 e0.2.2.1.1 n8 hj, Option.bind_some, if_neg z10, r2 S1 g1, e, Option.bind_some, if_pos (by decide), y1, Option.bind_some]
          have key := lp_inv (body := l_X12_judge_36) (m := (sh d).2.2.1.2) (I := fun k x => x.1 = nI j ∧ x.2.1 = nI d ∧ x.2.2.1 = nI k ∧ x.2.2.2 = Y ∧ ∀ i, i < k → jF T (sh d) j i = false) (Q := fun y => RE S1 y.2 T ∧ isL (jF T (sh d) j) 0 (sh d).2.2.1.2 y.1) (fun k x hk hI => ?_) 1000 0 (nI j, nI d, 0, Y) (Nat.zero_le _) (by omega) ⟨rfl, rfl, rfl, rfl, fun i hi => absurd hi (Nat.not_lt_zero i)⟩
          · obtain ⟨⟨y1, y2⟩, e, e1, e2⟩ := key
            exact ⟨y1, y2, e, e1, e2⟩
          · obtain ⟨a1, a2, a3, Z⟩ := x
            obtain ⟨e1, e2, e3, e4, e5⟩ := hI
            simp only at e1 e2 e3 e4
            subst e1 e2 e3 e4
            unfold l_X12_judge_36 b_X12_judge_36 b_X12_judge_103 b_X12_judge_112
            dsimp only
            rw [gd_t (inb_n hd), tn_n d31, rY.2.1]
            rcases Nat.lt_or_ge k (sh d).2.2.1.2 with hl | hl
            · have c1 := rY.2.2 k (by omega)
              rw [if_neg (nI_ge hl (by omega)), nI_100 hd (by omega), gd_t (inb_n (show 100 * d + k < 800 by omega)), tn_n (show 100 * d + k < 2 ^ 31 by omega), R_skip rY hd rc.2.1, Option.bind_some, c1, nI_1]
              have stp : jF T (sh d) j k = false → ∀ i, i < k + 1 → jF T (sh d) j i = false := fun z i hi => by
                rcases Nat.eq_or_lt_of_le (Nat.le_of_lt_succ hi) with q | q
                · rw [q]; exact z
                · exact e5 i q
              have fin : jF T (sh d) j k = true → isL (jF T (sh d) j) 0 (sh d).2.2.1.2 (nI k) := fun z => Or.inl ⟨k, Nat.zero_le _, hl, z, fun i _ hi => e5 i hi, rfl⟩
              by_cases z : (sh d).2.2.2 k = sk (sh d).2.2.1.1
              · rw [if_pos ((lg_cmp_eq _ _).mpr ((i64_eq _ _).mpr z))]
                exact Or.inr ⟨hl, _, rfl, rfl, rfl, rfl, rfl, stp (by unfold jF; rw [decide_eq_true z]; rfl)⟩
              · rw [if_neg (fun q => z ((i64_eq _ _).mp ((lg_cmp_eq _ _).mp q)))]
                by_cases z2 : 23 < k
                · rw [if_pos (show (23 : Int32) < nI k from nI_lt (a := 23) z2 (by omega))]
                  exact Or.inl ⟨_, rfl, y2, fin (by unfold jF; rw [decide_eq_false z, decide_eq_true z2]; rfl)⟩
                · have k23 : nI k ≤ 23 := nI_le (b := 23) (by omega) (by decide)
                  have kj : (8 : Int32) * nI k + nI j = nI (8 * k + j) := by
                    have : (8 : Int32) * nI k = nI (8 * k) := pk_mul 8 k
                    rw [this, nI_add]
                  have pa : gi Z 171 (8 * k + j) = sCoins T (sDay T tt false) j (nI k) := y3.2.2.2.2.2 k j (by omega) hj
                  rw [if_neg (show ¬ (23 : Int32) < nI k from nI_nlt (a := 23) (by omega) (by decide)), if_pos k23, kj, gd_t (inb_n (show 8 * k + j < 192 by omega)), tn_n (show 8 * k + j < 2 ^ 31 by omega), pa]
                  by_cases z3 : (sh d).2.2.2 k = sCoins T (sDay T tt false) j (nI k)
                  · rw [if_pos ((lg_cmp_eq _ _).mpr ((i64_eq _ _).mpr z3))]
                    exact Or.inr ⟨hl, _, rfl, rfl, rfl, rfl, rfl, stp (by unfold jF; rw [decide_eq_false z, decide_eq_false z2, decide_eq_true z3]; rfl)⟩
                  · rw [if_neg (fun q => z3 ((i64_eq _ _).mp ((lg_cmp_eq _ _).mp q)))]
                    exact Or.inl ⟨_, rfl, y2, fin (by unfold jF; rw [decide_eq_false z, decide_eq_false z2, decide_eq_false z3]; rfl)⟩
            · have : k = (sh d).2.2.1.2 := by omega
              subst this
              rw [if_pos (Int32.le_refl _)]
              exact Or.inl ⟨_, rfl, y2, Or.inr ⟨fun q _ hq => e5 q hq, rfl⟩⟩
    · refine refuse (-1) ?_ (fun S1 g1 => ?_)
      · unfold L_X11_judge b_X11_judge_0
        rw [C_nb0 cR.1 n8 hj, Option.bind_some, if_pos rfl, C_srN bad2]
        rfl
      · unfold L_X12_judge b_X12_judge_0 b_X12_judge_22
        rw [nm_eq, R_one1 (RE_0 g1).2.2.1.1 n8 hj, Option.bind_some, if_neg z10, (R_wrN bad2).1]
        rfl
  · refine refuse (-1) ?_ (fun S1 g1 => ?_)
    · unfold L_X11_judge b_X11_judge_0
      rw [C_nb1 cR.1 bad]
      rfl
    · unfold L_X12_judge b_X12_judge_0 b_X12_judge_22
      rw [nm_eq, R_one0 (RE_0 g1).2.2.1.1 n8 bad]
      rfl
end JUDGE
