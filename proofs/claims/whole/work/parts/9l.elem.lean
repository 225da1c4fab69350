/-! element, toss: both sides. -/
section ELEM
variable {S S1 : St} {T : TT} {im : Option TT} {sh : Nat → Sh}
theorem IC_stp (c : IC S (T, im, sh)) {u : Nat} (hu : tp S ≤ u) : IC (stp S u) (T, im, sh) := by
  have h3 : tp S ≤ tp (stp S u) := hu
  exact IC_town (S := S) (S' := stp S u) (T := T) c.2.1 (repC_loc (S := S) (S' := stp S u) (fun _ _ _ => ⟨rfl, rfl⟩) (fun _ => rfl) c.2.2.1) (full_congr (S := S) (S' := stp S u) rfl (fun _ _ => rfl) h3 c.2.2.2.1) (fun _ _ => ⟨rfl, rfl⟩) (fun _ _ => rfl) h3 c
theorem IR_stp {M : MM} (g : IR S M) (u : Nat) : IR (stp S u) M := g
theorem IR_elS {M : MM} (g : IR S M) (o : String ⊕ Int64) (u : Nat) : IR (elS o S u) M := by
  cases o with
  | inl E => exact g
  | inr v =>
    obtain ⟨g1, g2, g3, g4, g5, g6, g7⟩ := g
    refine ⟨g1, g2, g3, g4, g5, g6, fun d hd => ?_⟩
    obtain ⟨b1, b2, b3⟩ := g7 d hd
    exact ⟨b1, b2, fun q => ⟨(b3 q).1, (b3 q).2.1, fun i hi => by
      show gl (sl S 182 0 v) 158 (100 * d + i) = _
      rw [gl_sl_n _ _ _ (by decide)]
      exact (b3 q).2.2 i hi⟩⟩
theorem IC_elS (c : IC S (T, im, sh)) (o : String ⊕ Int64) {u : Nat} (hu : tp S ≤ u) : IC (elS o S u) (T, im, sh) := by
  cases o with
  | inl E => exact IC_stp c hu
  | inr v => exact IC_stp (S := sl S 182 0 v) c hu
theorem J_element (c : IC S (T, im, sh)) (p i : Int32) : ∃ o, L_X11_element p i S = some o ∧ ∀ S1, IR S1 (T, im, sh) → ∃ bv S2, L_X12_element p i S1 = some (bv, S2) ∧ IR S2 (T, im, sh) ∧ UpR S1 S2 ∧ gi S2 136 28 = elC o ∧ (∀ v, o = .inr v → bv = v) ∧ gl S2 182 = gl S1 182 := by
  have z10 : ¬ (1 : Int32) = 0 := by decide
  have thr : ∀ (S1 : St) (x : Int32), gi (si S1 136 28 x) 136 28 = x := fun S1 x => by rw [gi_at, if_pos ⟨rfl, rfl⟩]
  rcases ix_split p 8 (by decide) with ⟨d, hd, rfl⟩ | bad
  · have d31 : d < 2 ^ 31 := by omega
    have hs := c.2.2.2.2.2.2 d hd
    have w2 : (sh d).1 ≤ 2 := hs.2.1
    have b1 : gi S 66 d = nI (sh d).1 := hs.1
    have bad2 : ∀ r : Int32, refS (sh d) 2 = r → r < 0 → ¬ r = -1 → L_X11_element (nI d) i S = some (.inl "java/lang/IllegalStateException") → ∃ o, L_X11_element (nI d) i S = some o ∧ ∀ S1, IR S1 (T, im, sh) → ∃ bv S2, L_X12_element (nI d) i S1 = some (bv, S2) ∧ IR S2 (T, im, sh) ∧ UpR S1 S2 ∧ gi S2 136 28 = elC o ∧ (∀ v, o = .inr v → bv = v) ∧ gl S2 182 = gl S1 182 := by
      intro r hr h1 h2 h3
      refine ⟨_, h3, fun S1 g1 => ⟨0, si S1 136 28 2, ?_, IR_thr g1 2, Up_thr S1 2, thr S1 2, fun v q => (by cases q), rfl⟩⟩
      unfold L_X12_element b_X12_element_0 b_X12_element_38 b_X12_element_43
      rw [(R_wr g1 hd w2).1, hr, Option.bind_some, if_neg h2, if_pos h1, nm_eq, thr, if_neg (by decide)]
    have n66 : refS (sh d) 2 ≠ 0 → L_X11_element (nI d) i S = some (.inl "java/lang/IllegalStateException") := by
      intro hn
      have ne : ¬ gi S 66 d = 2 := by
        rw [b1]
        intro z
        have : (sh d).1 = 2 := (nI_eq (b := 2) (by omega) (by decide)).mp z
        apply hn
        unfold refS
        rw [if_neg (by omega), if_pos this]
      unfold L_X11_element
      rw [C_ns0 hd, Option.bind_some, if_pos rfl, gd_t (inb_n hd), tn_n d31, if_neg ne]
    rcases ref_v (sh d) 2 with e | e | ⟨e, e1⟩
    · exact bad2 _ e (by decide) (by decide) (n66 (by rw [e]; decide))
    · exact bad2 _ e (by decide) (by decide) (n66 (by rw [e]; decide))
    · obtain ⟨-, -, -, x5⟩ := hs
      obtain ⟨y1, y2, y3, y4, y5⟩ := x5 e1
      have y3' : gi S (70 + 2 * d) 1 = nI (sh d).2.2.1.2 := y3
      have y4' : (sh d).2.2.1.2 ≤ 100 := y4
      have e66 : gi S 66 d = 2 := by rw [b1, e1]; rfl
      rcases ix_split i (sh d).2.2.1.2 (by omega) with ⟨j, hj, rfl⟩ | bad
      · refine ⟨.inr ((sh d).2.2.2 j).toInt64, ?_, fun S1 g1 => ⟨((sh d).2.2.2 j).toInt64, si S1 136 28 0, ?_, IR_thr g1 0, Up_thr S1 0, thr S1 0, fun v q => Sum.inr.inj q, rfl⟩⟩
        · unfold L_X11_element
          rw [C_ns0 hd, Option.bind_some, if_pos rfl, gd_t (inb_n hd), tn_n d31, if_pos e66, hp_1 y3' y4' hj, Option.bind_some, if_neg z10, row_1 y3' y4' hj, Option.bind_some]
          have : gi S (71 + 2 * d) j = (sh d).2.2.2 j := y5 j (by omega)
          rw [this]
        · obtain ⟨v4, v5, v6⟩ := (g1.2.2.2.2.2.2 d hd).2.2 e1
          have v5' : gi S1 157 d = nI (sh d).2.2.1.2 := v5
          unfold L_X12_element b_X12_element_0 b_X12_element_43
          rw [(R_wr g1 hd w2).1, e, Option.bind_some, if_neg (by decide), if_neg (by decide), gd_t (inb_n hd), tn_n d31, v5', R_inX, if_pos (in_nI (by omega) hj), Option.bind_some, if_neg (by decide), nm_eq, thr, if_pos (by decide), nI_100 hd (by omega), gd_t (inb_n (show 100 * d + j < 800 by omega)), tn_n (show 100 * d + j < 2 ^ 31 by omega)]
          have : gl (si S1 136 28 0) 158 (100 * d + j) = ((sh d).2.2.2 j).toInt64 := v6 j (by omega)
          rw [this]
      · refine ⟨.inl "java/lang/IllegalStateException", ?_, fun S1 g1 => ⟨0, si S1 136 28 2, ?_, IR_thr g1 2, Up_thr S1 2, thr S1 2, fun v q => (by cases q), rfl⟩⟩
        · unfold L_X11_element
          rw [C_ns0 hd, Option.bind_some, if_pos rfl, gd_t (inb_n hd), tn_n d31, if_pos e66, hp_0 y3' y4' bad, Option.bind_some, if_pos rfl]
        · have v5' : gi S1 157 d = nI (sh d).2.2.1.2 := ((g1.2.2.2.2.2.2 d hd).2.2 e1).2.1
          unfold L_X12_element b_X12_element_0 b_X12_element_38 b_X12_element_43
          rw [(R_wr g1 hd w2).1, e, Option.bind_some, if_neg (by decide), if_neg (by decide), gd_t (inb_n hd), tn_n d31, v5', R_inX, if_neg (nin_nI (by omega) bad), Option.bind_some, if_pos rfl, nm_eq, thr, if_neg (by decide)]
  · refine ⟨.inl "java/lang/IllegalArgumentException", ?_, fun S1 g1 => ⟨0, si S1 136 28 1, ?_, IR_thr g1 1, Up_thr S1 1, thr S1 1, fun v q => (by cases q), rfl⟩⟩
    · unfold L_X11_element
      rw [C_ns1 bad, Option.bind_some, if_neg z10]
    · unfold L_X12_element b_X12_element_0 b_X12_element_43
      rw [(R_wrN bad).1, Option.bind_some, if_pos rfl, nm_eq, thr, if_neg (by decide)]
/-- what toss answers of one with a KIND and a FIGURE -/
def tossK (z : Nat × Int32) : Int32 := if z.2 = 0 then -15 else if z.1 = 2 ∨ z.1 = 3 then 100 + z.2 else if z.1 = 5 then 200 + kCost 5 z.2 else if z.1 ≤ 5 then z.2 else -15
theorem J_toss (c : IC S (T, im, sh)) (p : Int32) : ∃ r, L_X11_toss p S = some r ∧ ∀ S1, IR S1 (T, im, sh) → ∃ S2, L_X12_toss p S1 = some (r, S2) ∧ IR S2 (T, im, sh) ∧ UpR S1 S2 := by
  rcases ix_split p 8 (by decide) with ⟨d, hd, rfl⟩ | bad
  · have d31 : d < 2 ^ 31 := by omega
    have hs := c.2.2.2.2.2.2 d hd
    have w2 : (sh d).1 ≤ 2 := hs.2.1
    have r1 := C_sr c hd (want := 1) (by decide)
    have bad2 : ∀ r : Int32, refS (sh d) 1 = r → r < 0 → ∃ r, L_X11_toss (nI d) S = some r ∧ ∀ S1, IR S1 (T, im, sh) → ∃ S2, L_X12_toss (nI d) S1 = some (r, S2) ∧ IR S2 (T, im, sh) ∧ UpR S1 S2 := by
      intro r hr h1
      refine ⟨r, ?_, fun S1 g1 => ⟨si S1 136 28 0, ?_, IR_thr g1 0, Up_thr S1 0⟩⟩
      · unfold L_X11_toss
        rw [show (1 : Int32) = nI 1 from rfl, r1, hr, Option.bind_some, if_neg (fun q => by rw [q] at h1; exact absurd h1 (by decide))]
      · unfold L_X12_toss b_X12_toss_0
        rw [nm_eq, (R_wr (IR_thr g1 0) hd w2).2, hr, Option.bind_some, if_neg (Int32.not_le.mpr h1), Option.bind_some]
    rcases ref_v (sh d) 1 with e | e | ⟨e, e1⟩
    · exact bad2 _ e (by decide)
    · exact bad2 _ e (by decide)
    · obtain ⟨-, -, ⟨q, z, q1, q2, q3, q4⟩, -⟩ := hs
      obtain ⟨z1, z2, fg, f1, f2⟩ := q4 e1
      have z1' : z = (sh d).2.1 := z1
      have k8 : z.1 < 8 := z2
      refine ⟨tossK z, ?_, fun S1 g1 => ⟨si S1 136 28 0, ?_, IR_thr g1 0, Up_thr S1 0⟩⟩
      · unfold L_X11_toss
        rw [show (1 : Int32) = nI 1 from rfl, r1, e, Option.bind_some, if_pos rfl, gd_t (inb_n hd), tn_n d31, q1, Option.bind_some, q2, Option.bind_some, gd_t (decide_eq_true k8)]
        unfold tossV tossK
        by_cases n0 : z.2 = 0
        · rw [if_pos n0, if_pos n0]
        · rw [if_neg n0, if_neg n0]
          by_cases k23 : z.1 = 2 ∨ z.1 = 3
          · rw [if_pos k23, if_pos k23]
          · rw [if_neg k23, if_neg k23]
            by_cases k5 : z.1 = 5
            · rw [if_pos k5, if_pos k5, V_cost (kd := z.1) (fg := z.2) q2 k8, Option.bind_some, k5]
            · rw [if_neg k5, if_neg k5]
              by_cases n5 : z.1 ≤ 5
              · rw [if_pos n5, if_pos n5]
              · rw [if_neg n5, if_neg n5]
      · have g2 := IR_thr g1 0
        obtain ⟨-, b2, -⟩ := g2.2.2.2.2.2.2 d hd
        have c1 : gi (si S1 136 28 0) 154 d = nI z.1 := by rw [z1']; exact (b2 e1).1
        have c2 : gi (si S1 136 28 0) 155 d = z.2 := by rw [z1']; exact (b2 e1).2
        have kk : ∀ a : Nat, a < 8 → (nI z.1 = nI a ↔ z.1 = a) := fun a ha => nI_eq (by omega) (by omega)
        have k2' : (nI z.1 = 2) ↔ z.1 = 2 := kk 2 (by decide)
        have k3' : (nI z.1 = 3) ↔ z.1 = 3 := kk 3 (by decide)
        have k5' : (nI z.1 = 5) ↔ z.1 = 5 := kk 5 (by decide)
        have l5 : (5 : Int32) < nI z.1 ↔ ¬ z.1 ≤ 5 := by
          constructor
          · intro h w
            exact absurd h (nI_nlt (a := 5) (by omega) (by decide))
          · exact fun h => nI_lt (a := 5) (by omega) (by omega)
        have rc : L_X12_costOf (nI 5) z.2 (si S1 136 28 0) = some (kCost 5 z.2) := R_cost (by decide) _
        unfold L_X12_toss b_X12_toss_0 b_X12_toss_55
        rw [nm_eq, (R_wr g2 hd w2).2, e, Option.bind_some, if_pos (by decide), gd_t (inb_n hd), gd_t (inb_n hd), tn_n d31, c1, c2]
        simp only [l5, k2', k3', k5']
        unfold tossK
        by_cases n5 : z.1 ≤ 5
        · rw [if_neg (fun w => w n5)]
          by_cases n0 : z.2 = 0
          · rw [if_pos n0, if_pos n0]
          · rw [if_neg n0, if_neg n0]
            by_cases k2 : z.1 = 2
            · rw [if_pos k2, if_pos (Or.inl k2)]
            · rw [if_neg k2]
              by_cases k3 : z.1 = 3
              · rw [if_pos k3, if_pos (Or.inr k3)]
              · have k23 : ¬ (z.1 = 2 ∨ z.1 = 3) := fun w => w.elim k2 k3
                rw [if_neg k3, if_neg k23]
                by_cases k5 : z.1 = 5
                · rw [if_pos k5, if_pos k5, k5, rc, Option.bind_some]
                · rw [if_neg k5, if_neg k5, if_pos n5]
        · rw [if_pos n5]
          by_cases n0 : z.2 = 0
          · rw [if_pos n0]
          · rw [if_neg n0, if_neg (by omega), if_neg (by omega), if_neg n5]
  · refine ⟨-1, ?_, fun S1 g1 => ⟨si S1 136 28 0, ?_, IR_thr g1 0, Up_thr S1 0⟩⟩
    · unfold L_X11_toss
      rw [C_srN bad]
      rfl
    · unfold L_X12_toss b_X12_toss_0
      rw [nm_eq, (R_wrN bad).2]
      rfl
end ELEM
