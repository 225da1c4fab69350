/-! town: the call. -/
section JTOWN
variable {S S0 S1 X Y : St} {d n j : Nat} {W : Sh} {w : Nat → Int32} {T T0 : TT} {im : Option TT} {sh : Nat → Sh}
theorem RE_RDb {Z : St} (h : RE S1 Z T) (b : RDb Z Y) : RE S1 Y T := by
  obtain ⟨u, hW, hR, h29, h30⟩ := h
  have o : ∀ a, a ≠ 136 → ¬ (174 ≤ a ∧ a ≤ 176) → gi Y a = gi Z a := fun a h1 h2 => b.1.1 a (fun z => by omega)
  have o2 : ∀ i, i ≠ 51 → i ≠ 52 → i ≠ 53 → gi Y 136 i = gi Z 136 i := b.2
  refine ⟨UpE_tr u ⟨UpR_FR (fun a z => by omega) b.1, fun a ha => o a (by omega) (by omega), FR_gl b.1 158, o2 46 (by decide) (by decide) (by decide)⟩, hW, ?_, (o2 29 (by decide) (by decide) (by decide)).trans h29, (o2 30 (by decide) (by decide) (by decide)).trans h30⟩
  unfold repR at hR ⊢
  rw [o 137 (by decide) (by decide), o 138 (by decide) (by decide), o 139 (by decide) (by decide), o 140 (by decide) (by decide), o 141 (by decide) (by decide), o 142 (by decide) (by decide), o 143 (by decide) (by decide), o 144 (by decide) (by decide), o 145 (by decide) (by decide), o 146 (by decide) (by decide), o 147 (by decide) (by decide), o 148 (by decide) (by decide), o 149 (by decide) (by decide), o 150 (by decide) (by decide), o 151 (by decide) (by decide), o 152 (by decide) (by decide), o2 15 (by decide) (by decide) (by decide), o2 1 (by decide) (by decide) (by decide), o2 9 (by decide) (by decide) (by decide), o2 6 (by decide) (by decide) (by decide), o2 7 (by decide) (by decide) (by decide), o2 8 (by decide) (by decide) (by decide)]
  exact hR
theorem IC_W (c : IC S (T, im, sh)) (u : UpW S X) : IC X (T, im, sh) :=
  IC_town c.2.1 (repC_old c.2.1 c.2.2.2.1 (fun a h1 h2 => u.1 a (by omega)) u.2.2.1 c.2.2.1) (full_congr (u.1 2 (by omega)).2 u.2.2.1 u.2.2.2 c.2.2.2.1) (fun a ha => u.1 a (by omega)) u.2.2.1 u.2.2.2 c
theorem UpC_W (u : UpW S X) : UpC S X := fun a ha => ⟨(u.1 a (by omega)).1, u.2.1 a, (u.1 a (by omega)).2⟩
theorem wrW_le (p : Nat) (hp : p ≤ 99) : wrW w n p ≤ 199 := by
  unfold wrW
  by_cases z : shW w n p = 5
  · rw [if_pos z]; omega
  · rw [if_neg z]
    have h1 : msW w n p ≤ slz (shW w n p) := (ms_of (fW w n p) (slz (shW w n p))).1
    have h2 := slz_le (shW w n p)
    omega
theorem IR_RE (g : IR S1 (T0, im, sh)) (h : RE S1 Y T) : IR Y (T, im, sh) ∧ UpR S1 Y := by
  obtain ⟨⟨u1, u2, u3, u4⟩, hW, hR, h29, h30⟩ := h
  exact ⟨IR_town (S := S1) hW hR ⟨h29.trans g.2.2.1.symm, h30.trans g.2.2.2.1.symm, u4⟩ u2 u3 g, u1⟩
theorem town_both (c : IC S (T, im, sh)) (g1 : IR S1 (T, im, sh)) (hd : d < 8) (h2 : (sh d).1 = 2) (h0 : (sh d).2.2.1.1 = 0) : ∃ r X' Y' T', L_X11_town (nI d) S = some (r, X') ∧ L_X12_town (nI d) S1 = some (r, Y') ∧ UpC S X' ∧ UpR S1 Y' ∧ IC X' (T', im, sh) ∧ IR Y' (T', im, sh) := by
  have rc := rowC_of c hd h2
  have rf : refS (sh d) 2 = 0 := by unfold refS; rw [if_neg (by omega), if_pos h2]
  obtain ⟨X1, x1, x2, x3, x4⟩ := C_become (t := 19) (u := 1) (Or.inl (by decide)) c.2.2.2.1 c.2.1 c.2.2.1
  have hC : CW S X1 T := ⟨UpW_FT (UpW_refl S) x2, c.2.1, x3, x4, c.1⟩
  have rc1 := rowC_up hC.1 hd rc
  have n100 := rc.2.2.2.1
  obtain ⟨fw, j, f1, st, no, f2⟩ := C_fw rc1
  obtain ⟨j33, pj⟩ := psW_b n100 no
  have cls : ∀ w X2, L_X10_hear 19 (70 + 2 * d) X1 = some (w, X2) → L_X11_town (nI d) S = (if w < 0 then some (w, X2) else (L_X10_become 1 19 X2).bind fun S2 => some (w, S2)) := by
    intro w X2 hh
    unfold L_X11_town
    rw [show (2 : Int32) = nI 2 from rfl, C_sr c hd (by decide), Option.bind_some, rf, if_pos rfl, gd_t (inb_n hd), tn_n (show d < 2 ^ 31 by omega), rc.1, h0, if_pos (show nI 0 = 0 from rfl), x1, Option.bind_some, hh, Option.bind_some]
  have g' := IR_thr g1 0
  have rr := rowR_of g' hd h2
  have e0 := RE_0 g1
  obtain ⟨S5, hS5⟩ : ∃ S5, S5 = si (si (si (si (si S1 136 28 0) 136 50 (nI d)) 136 51 0) 136 52 0) 136 53 0 := ⟨_, rfl⟩
  have e5 : RE S1 S5 T := by rw [hS5]; exact RE_slot (RE_slot (RE_slot (RE_slot e0 _ (by decide)) _ (by decide)) _ (by decide)) _ (by decide)
  have hr : rowW S5 d (sh d).2.2.2 (sh d).2.2.1.2 := by
    refine ⟨hd, n100, ?_, ?_, ?_⟩
    · rw [hS5, gi_si_n _ _ _ (by decide), gi_si_n _ _ _ (by decide), gi_si_n _ _ _ (by decide), gi_si_n _ _ _ (by decide)]
      exact rr.2.1
    · intro i hi
      rw [hS5]
      exact rr.2.2 i hi
    · rw [hS5, gi_at, if_neg (by decide), gi_at, if_neg (by decide), gi_at, if_neg (by decide), gi_at, if_pos ⟨rfl, rfl⟩]
  have ref : L_X12_town (nI d) S1 = lp 1000 l_X12_town_57 (nI d, S5) := by
    unfold L_X12_town b_X12_town_0
    rw [nm_eq, (R_wr g' hd (by omega)).1, Option.bind_some, rf, if_pos rfl, gd_t (inb_n hd), tn_n (show d < 2 ^ 31 by omega), rr.1, h0, if_pos (show nI 0 = 0 from rfl)]
    unfold b_X12_town_29 b_X12_town_30
    rw [if_pos (by decide), nm_eq, nm_eq, nm_eq, nm_eq, hS5]
  have key := R_text (S0 := S5) (X := S5) hr ⟨FR_refl S5, fun _ _ _ _ => rfl⟩ (by rw [hS5, gi_at, if_neg (by decide), gi_at, if_neg (by decide), gi_at, if_pos ⟨rfl, rfl⟩]) (by rw [hS5, gi_at, if_neg (by decide), gi_at, if_pos ⟨rfl, rfl⟩]) (by rw [hS5, gi_at, if_pos ⟨rfl, rfl⟩]) (fun r => ∃ X' T', L_X11_town (nI d) S = some (r.1, X') ∧ UpC S X' ∧ UpR S1 r.2 ∧ IC X' (T', im, sh) ∧ IR r.2 (T', im, sh)) (fun j' Y st' no' sd en => ?_)
  · obtain ⟨⟨r, Y'⟩, k1, X', T', k2, k3, k4, k5, k6⟩ := key
    exact ⟨r, X', Y', T', k2, ref.trans k1, k3, k4, k5, k6⟩
  · have ej : j = j' := fst_u st no st' no'
    subst ej
    obtain ⟨s1, s2, s3, s4, s5, s6⟩ := sd
    have eY := RE_RDb e5 s1
    cases ok : okW (sh d).2.2.2 (sh d).2.2.1.2 (psW (sh d).2.2.2 (sh d).2.2.1.2 j) with
    | false =>
      obtain ⟨v1, v2⟩ := s6 ok
      rw [ok, if_neg (by decide)] at f2
      have wl := wrW_le (w := (sh d).2.2.2) (n := (sh d).2.2.1.2) _ pj
      have ng := neg_1000 _ wl
      generalize wrW (sh d).2.2.2 (sh d).2.2.1.2 (psW (sh d).2.2.2 (sh d).2.2.1.2 j) = wr at *
      have hh : L_X10_hear 19 (70 + 2 * d) X1 = some (-1000 - nI wr, X1) := by
        unfold L_X10_hear
        rw [f1, Option.bind_some, f2, if_neg (nI_pos (by omega))]
      have cl := cls _ _ hh
      rw [if_pos ng] at cl
      obtain ⟨i1, i2⟩ := IR_RE g1 eY
      refine ⟨(-1000 - nI wr, Y), ?_, X1, T, cl, UpC_W hC.1, i2, IC_W c hC.1, i1⟩
      unfold b_X12_town_91
      rw [v1, if_neg (by decide), v2]
    | true =>
      obtain ⟨v1, v2, v3⟩ := s5 ok
      rw [ok, if_pos rfl] at f2
      have en' : ENT Y (sh d).2.2.2 (sh d).2.2.1.2 (j + 1) := fun i hi => by
        rcases Nat.eq_or_lt_of_le (Nat.le_of_lt_succ hi) with z | z
        · rw [z]; exact ⟨s3, s4, v3⟩
        · exact en i z
      obtain ⟨Y1, y1, y2, y3⟩ := R_openK eY
      obtain ⟨r, X2, Y2, a1, a2, a3⟩ := town_run (S1 := S1) (T0 := T) hd rc st no ok (j + 1) 0 40 1000 X1 Y1 T (by omega) (by omega) (by omega) hC y2 (ENT_KE y3 en') (y3.2.2.2.trans s2)
      have hh : L_X10_hear 19 (70 + 2 * d) X1 = some (r, X2) := by
        unfold L_X10_hear
        rw [f1, Option.bind_some, f2, if_pos (by decide)]
        exact a1
      have cl := cls _ _ hh
      have rf2 : b_X12_town_91 Y = some (r, Y2) := by
        unfold b_X12_town_91
        rw [v1, if_pos rfl, y1, Option.bind_some]
        exact a2
      rcases a3 with ⟨r0, T', b1, b2⟩ | ⟨r0, b1, b2⟩
      · rw [if_neg (Int32.not_lt.mpr r0)] at cl
        obtain ⟨X3, z1, z2, z3, z4⟩ := C_become (t := 1) (u := 19) (Or.inr (by decide)) b1.2.2.2.1 b1.2.1 b1.2.2.1
        rw [z1, Option.bind_some] at cl
        obtain ⟨i1, i2⟩ := IR_RE g1 b2.1
        have o : ∀ a, (a = 0 ∨ 37 ≤ a ∧ a < 55 ∨ 66 ≤ a ∧ a < 86 ∨ 136 ≤ a) → gi X3 a = gi S a ∧ gr X3 a = gr S a := fun a ha => by
          have h1 := z2.1 a (fun z => by have := z.1; have := z.2; omega)
          have h2 := b1.1.1 a (by omega)
          exact ⟨h1.1.trans h2.1, h1.2.trans h2.2⟩
        refine ⟨(r, Y2), rf2, X3, T', cl, fun a ha => ⟨(o a (by omega)).1, (z2.2.1 a).trans (b1.1.2.1 a), (o a (by omega)).2⟩, i2, ?_, i1⟩
        exact IC_town b1.2.1 z3 z4 (fun a ha => o a (by omega)) (fun q hq => (z2.2.2.1 q).trans (b1.1.2.2.1 q hq)) (by rw [z2.2.2.2]; exact b1.1.2.2.2) c
      · rw [if_pos r0] at cl
        obtain ⟨i1, i2⟩ := IR_RE g1 b2
        exact ⟨(r, Y2), rf2, X2, T, cl, UpC_W b1, i2, IC_W c b1, i1⟩
theorem J_town (c : IC S (T, im, sh)) (g : IR S (T, im, sh)) (p : Int32) : JJ S (L_X11_town p) (L_X12_town p) := by
  rcases ix_split p 8 (by decide) with ⟨d, hd, rfl⟩ | bad
  · have w2 : (sh d).1 ≤ 2 := (c.2.2.2.2.2.2 d hd).2.1
    rcases Decidable.em (refS (sh d) 2 = 0) with rf | rf
    · have h2 : (sh d).1 = 2 := by
        rcases ref_v (sh d) 2 with e | e | e
        · rw [e] at rf; exact absurd rf (by decide)
        · rw [e] at rf; exact absurd rf (by decide)
        · exact e.2
      have a2 : (sh d).2.2.1.1 ≤ 2 := (rowC_of c hd h2).2.1
      by_cases h0 : (sh d).2.2.1.1 = 0
      · obtain ⟨r, X', Y', T', k1, k2, k3, k4, k5, k6⟩ := town_both c g hd h2 h0
        obtain ⟨r', X'', Y'', T'', m1, m2, m3, m4, m5, m6⟩ := town_both c (IR_up k3 g) hd h2 h0
        have e : (r', X'') = (r, X') := Option.some.inj (m1.symm.trans k1)
        have er : r' = r := congrArg Prod.fst e
        have eX : X'' = X' := congrArg Prod.snd e
        subst er eX
        exact ⟨r', X'', Y'', (T'', im, sh), m1, m2, IC_up m4 m5, m6⟩
      · have n0 : ¬ nI (sh d).2.2.1.1 = 0 := fun z => h0 ((nI_eq (b := 0) (by omega) (by decide)).mp z)
        refine JJ_of (-12) (T, im, sh) g ⟨S, ?_, c, UpC_refl S⟩ (fun S1 g1 => ⟨_, ?_, IR_thr g1 0, Up_thr S1 0⟩)
        · unfold L_X11_town
          rw [show (2 : Int32) = nI 2 from rfl, C_sr c hd (by decide), Option.bind_some, rf, if_pos rfl, gd_t (inb_n hd), tn_n (show d < 2 ^ 31 by omega), (rowC_of c hd h2).1, if_neg n0]
        · unfold L_X12_town b_X12_town_0
          rw [nm_eq, (R_wr (IR_thr g1 0) hd w2).1, Option.bind_some, rf, if_pos rfl, gd_t (inb_n hd), tn_n (show d < 2 ^ 31 by omega), (rowR_of (IR_thr g1 0) hd h2).1, if_neg n0]
          unfold b_X12_town_30
          rw [if_neg (by decide)]
    · have ng : ¬ (0 : Int32) ≤ refS (sh d) 2 := by
        rcases ref_v (sh d) 2 with e | e | e
        · rw [e]; decide
        · rw [e]; decide
        · exact absurd e.1 rf
      refine JJ_of (refS (sh d) 2) (T, im, sh) g ⟨S, ?_, c, UpC_refl S⟩ (fun S1 g1 => ⟨_, ?_, IR_thr g1 0, Up_thr S1 0⟩)
      · unfold L_X11_town
        rw [show (2 : Int32) = nI 2 from rfl, C_sr c hd (by decide), Option.bind_some, if_neg rf]
      · unfold L_X12_town b_X12_town_0
        rw [nm_eq, (R_wr (IR_thr g1 0) hd w2).1, Option.bind_some, if_neg rf]
        unfold b_X12_town_29 b_X12_town_30
        rw [if_neg ng]
  · refine JJ_of (-1) (T, im, sh) g ⟨S, ?_, c, UpC_refl S⟩ (fun S1 g1 => ⟨_, ?_, IR_thr g1 0, Up_thr S1 0⟩)
    · unfold L_X11_town
      rw [C_srN bad, Option.bind_some, if_neg (show ¬ (-1 : Int32) = 0 by decide)]
    · unfold L_X12_town b_X12_town_0
      rw [nm_eq, (R_wrN bad).1, Option.bind_some, if_neg (show ¬ (-1 : Int32) = 0 by decide)]
      unfold b_X12_town_29 b_X12_town_30
      rw [if_neg (by decide)]
end JTOWN
