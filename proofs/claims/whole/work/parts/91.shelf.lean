/-! Shelves: keep, row, put, copy, cost. -/
def setS (sh : Nat → Sh) (d : Nat) (w : Sh) : Nat → Sh := fun e => if e = d then w else sh e
section SHELF
variable {S S' X : St} {T : TT} {im : Option TT} {sh : Nat → Sh} {d : Nat}
theorem IC_shelf {w : Sh} (g : IC S (T, im, sh)) (h1 : ∀ a, (a < 19 ∨ 37 ≤ a ∧ a < 55) → gi S' a = gi S a ∧ gr S' a = gr S a) (h2 : ∀ q, q < tp S → gp S' q = gp S q) (h3 : tp S ≤ tp S') (h4 : ∀ e, e < 8 → e ≠ d → gi S' 66 e = gi S 66 e ∧ gr S' 67 e = gr S 67 e ∧ gi S' (70 + 2 * e) = gi S (70 + 2 * e) ∧ gi S' (71 + 2 * e) = gi S (71 + 2 * e)) (h5 : d < 8 → shC S' d w) : IC S' (T, im, setS sh d w) := by
  have hq : ∀ q, q < tp S → gq S' q = gq S q := fun q hq => gq_local (h2 q hq)
  obtain ⟨g0, g1, g2, g3, g4, g5, g6⟩ := g
  have rep : ∀ t T, (t = 1 ∨ t = 37) → WT T → full S t → repC S t T → repC S' t T := by
    intro t T ht hWT hfl h
    have o : ∀ a, t ≤ a → a < t + 18 → gi S' a = gi S a ∧ gr S' a = gr S a := fun a h1' h2' => h1 a (by rcases ht with rfl | rfl <;> omega)
    obtain ⟨a1, a2, a3, a4, a5, a6, a7, a8⟩ := h
    refine ⟨by rw [(o t (by omega) (by omega)).1]; exact a1, by rw [(o t (by omega) (by omega)).1]; exact a2, by rw [(o t (by omega) (by omega)).1]; exact a3, fun p hp => ?_, ?_, ?_, ?_, ?_⟩
    · obtain ⟨⟨q, e1, e2⟩, b1, b2, b3, b4⟩ := a4 p hp
      obtain ⟨q', z, f1, f2, f3⟩ := hfl p (by have := hWT.1; omega)
      have : q' = q := Option.some.inj (f1.symm.trans e1)
      subst this
      refine ⟨⟨q', by rw [(o (t + 1) (by omega) (by omega)).2]; exact e1, by rw [hq q' f3]; exact e2⟩, ?_, ?_, ?_, ?_⟩
      · rw [(o (t + 3) (by omega) (by omega)).1]; exact b1
      · rw [(o (t + 4) (by omega) (by omega)).1]; exact b2
      · rw [(o (t + 5) (by omega) (by omega)).1]; exact b3
      · rw [(o (t + 6) (by omega) (by omega)).1]; exact b4
    · rw [(o (t + 7) (by omega) (by omega)).1, (o (t + 8) (by omega) (by omega)).1, (o (t + 9) (by omega) (by omega)).1, (o (t + 10) (by omega) (by omega)).1]; exact a5
    · rw [(o (t + 11) (by omega) (by omega)).1, (o (t + 12) (by omega) (by omega)).1, (o (t + 13) (by omega) (by omega)).1, (o (t + 14) (by omega) (by omega)).1, (o (t + 15) (by omega) (by omega)).1]; exact a6
    · rw [(o (t + 16) (by omega) (by omega)).1]; exact a7
    · rw [(o (t + 17) (by omega) (by omega)).1]; exact a8
  refine ⟨by omega, g1, rep 1 _ (Or.inl rfl) g1 g3 g2, full_congr (h1 2 (by omega)).2 h2 h3 g3, by rw [(h1 0 (by omega)).1]; exact g4, fun T1 hT => ?_, fun e he => ?_⟩
  · obtain ⟨w1, w2, w3⟩ := g5 T1 hT
    exact ⟨w1, rep 37 _ (Or.inr rfl) w1 w3 w2, full_congr (h1 38 (by omega)).2 h2 h3 w3⟩
  · show shC S' e (if e = d then w else sh e)
    by_cases z : e = d
    · rw [if_pos z, z]; exact h5 (z ▸ he)
    · rw [if_neg z]
      obtain ⟨b1, b2, ⟨q, z1, e1, e2, e3, e4⟩, b4⟩ := g6 e he
      obtain ⟨f1, f2, f3, f4⟩ := h4 e he z
      unfold shC
      rw [f1, f2, f3, f4]
      exact ⟨b1, b2, ⟨q, z1, e1, by rw [hq q e3]; exact e2, by omega, e4⟩, b4⟩
theorem IR_shelf {w : Sh} (g : IR S (T, im, sh)) (h1 : ∀ a, 136 ≤ a → a < 153 → gi S' a = gi S a) (h2 : gi S' 173 = gi S 173) (h4 : ∀ e, e < 8 → e ≠ d → gi S' 153 e = gi S 153 e ∧ gi S' 154 e = gi S 154 e ∧ gi S' 155 e = gi S 155 e ∧ gi S' 156 e = gi S 156 e ∧ gi S' 157 e = gi S 157 e ∧ ∀ i, i < 100 → gl S' 158 (100 * e + i) = gl S 158 (100 * e + i)) (h5 : d < 8 → shR S' d w) : IR S' (T, im, setS sh d w) := by
  obtain ⟨g1, g2, g3, g4, g5, g6, g7⟩ := g
  refine ⟨g1, repR_congr (fun a h2 h3 => h1 a h2 h3) g2, by rw [h1 136 (by decide) (by decide)]; exact g3, by rw [h1 136 (by decide) (by decide)]; exact g4, by rw [h1 136 (by decide) (by decide)]; exact g5, fun T1 hT => by rw [h2]; exact g6 T1 hT, fun e he => ?_⟩
  show shR S' e (if e = d then w else sh e)
  by_cases z : e = d
  · rw [if_pos z, z]; exact h5 (z ▸ he)
  · rw [if_neg z]
    obtain ⟨b1, b2, b3⟩ := g7 e he
    obtain ⟨f1, f2, f3, f4, f5, f6⟩ := h4 e he z
    unfold shR
    rw [f1, f2, f3, f4, f5]
    exact ⟨b1, b2, fun q => ⟨(b3 q).1, (b3 q).2.1, fun i hi => by rw [f6 i hi]; exact (b3 q).2.2 i hi⟩⟩
def refS (w : Sh) (want : Nat) : Int32 := if w.1 = 0 then -11 else if w.1 = want then 0 else -12
theorem C_sr (c : IC S (T, im, sh)) (hd : d < 8) {want : Nat} (hw : want < 3) : L_X11_shelfRefusal (nI d) (nI want) S = some (refS (sh d) want) := by
  obtain ⟨b1, b2, -⟩ := c.2.2.2.2.2.2 d hd
  have b2' : (sh d).1 ≤ 2 := b2
  unfold L_X11_shelfRefusal b_X11_shelfRefusal_0 refS
  rw [C_ns0 hd, Option.bind_some, if_pos rfl, gd_t (inb_n hd), tn_n (show d < 2 ^ 31 by omega), b1, gd_t (inb_n hd)]
  have e0 : (nI (sh d).1 = 0) ↔ (sh d).1 = 0 := nI_eq (b := 0) (by omega) (by decide)
  have ew : (nI (sh d).1 = nI want) ↔ (sh d).1 = want := nI_eq (by omega) (by omega)
  simp only [e0, ew]
  repeat' split
  all_goals rfl
theorem C_srN {p : Int32} (bad : p < 0 ∨ nI 8 ≤ p) (w : Int32) : L_X11_shelfRefusal p w S = some (-1) := by
  unfold L_X11_shelfRefusal b_X11_shelfRefusal_0
  rw [C_ns1 bad]
  rfl
theorem R_wr (g : IR S (T, im, sh)) (hd : d < 8) (w2 : (sh d).1 ≤ 2) : L_X12_wrongRow (nI d) S = some (refS (sh d) 2) ∧ L_X12_wrongKept (nI d) S = some (refS (sh d) 1) := by
  obtain ⟨b1, -⟩ := g.2.2.2.2.2.2 d hd
  have e0 : (nI (sh d).1 = 0) ↔ (sh d).1 = 0 := nI_eq (b := 0) (by omega) (by decide)
  have e2 : (nI (sh d).1 = 2) ↔ (sh d).1 = 2 := nI_eq (b := 2) (by omega) (by decide)
  have e1 : (nI (sh d).1 = 1) ↔ (sh d).1 = 1 := nI_eq (b := 1) (by omega) (by decide)
  have b1' : gi S 153 d = nI (sh d).1 := b1
  have z10 : ¬ (1 : Int32) = 0 := by decide
  constructor
  · unfold L_X12_wrongRow b_X12_wrongRow_0 refS
    rw [R_in8 hd, Option.bind_some, if_neg z10, gd_t (inb_n hd), tn_n (show d < 2 ^ 31 by omega), b1', gd_t (inb_n hd)]
    simp only [e0, e2]
    repeat' split
    all_goals rfl
  · unfold L_X12_wrongKept b_X12_wrongKept_0 refS
    rw [R_in8 hd, Option.bind_some, if_neg z10, gd_t (inb_n hd), tn_n (show d < 2 ^ 31 by omega), b1', gd_t (inb_n hd)]
    simp only [e0, e1]
    repeat' split
    all_goals rfl
theorem R_wrN {p : Int32} (bad : p < 0 ∨ nI 8 ≤ p) : L_X12_wrongRow p S = some (-1) ∧ L_X12_wrongKept p S = some (-1) := by
  unfold L_X12_wrongRow b_X12_wrongRow_0 L_X12_wrongKept b_X12_wrongKept_0
  rw [R_nin8 bad]
  exact ⟨rfl, rfl⟩
theorem ref_v (w : Sh) (k : Nat) : refS w k = -11 ∨ refS w k = -12 ∨ (refS w k = 0 ∧ w.1 = k) := by
  unfold refS
  by_cases h : w.1 = 0
  · rw [if_pos h]; exact Or.inl rfl
  · rw [if_neg h]
    by_cases h2 : w.1 = k
    · rw [if_pos h2]; exact Or.inr (Or.inr ⟨rfl, h2⟩)
    · rw [if_neg h2]; exact Or.inr (Or.inl rfl)
theorem J_cost (c : IC S (T, im, sh)) (g : IR S (T, im, sh)) (p : Int32) : JV S (T, im, sh) (L_X11_cost p S) (L_X12_cost p) := by
  have g1 := IR_thr g 0
  have up := Up_thr S 0
  rcases ix_split p 8 (by decide) with ⟨d, hd, rfl⟩ | bad
  · have hs := c.2.2.2.2.2.2 d hd
    have w2 := hs.2.1
    have r1 := C_sr c hd (want := 1) (by decide)
    have r2 := (R_wr g1 hd w2).2
    rcases ref_v (sh d) 1 with e | e | ⟨e, e1⟩
    · refine JV_of (-11) c ?_ ⟨_, ?_, g1, up⟩
      · unfold L_X11_cost b_X11_cost_0
        rw [show (1 : Int32) = nI 1 from rfl, r1, e]
        rfl
      · unfold L_X12_cost b_X12_cost_0
        rw [nm_eq, r2, e]
        rfl
    · refine JV_of (-12) c ?_ ⟨_, ?_, g1, up⟩
      · unfold L_X11_cost b_X11_cost_0
        rw [show (1 : Int32) = nI 1 from rfl, r1, e]
        rfl
      · unfold L_X12_cost b_X12_cost_0
        rw [nm_eq, r2, e]
        rfl
    · obtain ⟨-, -, ⟨q, z, q1, q2, q3, q4⟩, -⟩ := hs
      obtain ⟨z1, z2, -⟩ := q4 e1
      refine JV_of (kCost (sh d).2.1.1 (sh d).2.1.2) c ?_ ⟨_, ?_, g1, up⟩
      · unfold L_X11_cost b_X11_cost_0
        rw [show (1 : Int32) = nI 1 from rfl, r1, e, Option.bind_some, if_pos rfl, gd_t (inb_n hd), tn_n (show d < 2 ^ 31 by omega), q1, Option.bind_some, V_cost (kd := z.1) (fg := z.2) q2 z2, Option.bind_some, z1]
      · obtain ⟨-, b2, -⟩ := g1.2.2.2.2.2.2 d hd
        unfold L_X12_cost b_X12_cost_0
        rw [nm_eq, r2, e, Option.bind_some, if_pos (by decide), gd_t (inb_n hd), gd_t (inb_n hd), tn_n (show d < 2 ^ 31 by omega), (b2 e1).1, (b2 e1).2, R_cost (by rw [← z1]; exact z2)]
        rfl
  · refine JV_of (-1) c ?_ ⟨_, ?_, g1, up⟩
    · unfold L_X11_cost b_X11_cost_0
      rw [C_srN bad]
      rfl
    · unfold L_X12_cost b_X12_cost_0
      rw [nm_eq, (R_wrN bad).2]
      rfl
theorem i_le_of {v : Int32} (h : ¬ v < 0) (h2 : v ≤ 100) : ∃ n, n ≤ 100 ∧ v = nI n := by
  obtain ⟨n, hn, e⟩ := in_of (n := 100) rfl (by decide) ⟨Int32.not_lt.mp h, h2⟩
  exact ⟨n, by omega, e⟩
theorem C_begin (hd : d < 8) (s n : Int32) : ∃ Y, L_X8_begin (70 + 2 * d) s n S = some Y ∧ FR (fun a => a = 70 + 2 * d ∨ a = 71 + 2 * d) S Y ∧ gi Y (70 + 2 * d) 0 = s ∧ gi Y (70 + 2 * d) 1 = n ∧ ∀ i, i < 100 → gi Y (71 + 2 * d) i = 0 := by
  unfold L_X8_begin b_X8_begin_0
  rw [nm_eq, nm_eq]
  refine lp_inv (m := 100) (I := fun k x => x.1 = nI k ∧ FR (fun a => a = 70 + 2 * d ∨ a = 71 + 2 * d) S x.2 ∧ gi x.2 (70 + 2 * d) 0 = s ∧ gi x.2 (70 + 2 * d) 1 = n ∧ ∀ i, i < k → gi x.2 (71 + 2 * d) i = 0) (fun k x hk hI => ?_) 1000 0 _ (Nat.zero_le _) (by omega) ⟨rfl, FR_si (k := 70 + 2 * d) (Or.inl rfl) (FR_si (k := 70 + 2 * d) (Or.inl rfl) (FR_refl S) _ _) _ _, ?_, ?_, fun i hi => absurd hi (Nat.not_lt_zero i)⟩
  · obtain ⟨v, Y⟩ := x
    obtain ⟨e1, hF, h0, h1, hN⟩ := hI
    simp only at e1 hF h0 h1 hN
    subst e1
    unfold l_X8_begin_12 b_X8_begin_12
    dsimp only
    rcases Nat.lt_or_ge k 100 with hl | hl
    · refine Or.inr ⟨hl, ?_⟩
      have e : ¬ (100 : Int32) ≤ nI k := nI_ge (b := 100) hl (by decide)
      rw [if_neg e, gd_t (inb_n hl), nm_eq, tn_n (show k < 2 ^ 31 by omega), nI_1, show 70 + 2 * d + 1 = 71 + 2 * d by omega]
      refine ⟨_, rfl, rfl, FR_si (k := 71 + 2 * d) (Or.inr rfl) hF _ _, ?_, ?_, fun i hi => ?_⟩
      · show gi (si Y (71 + 2 * d) k 0) (70 + 2 * d) 0 = s
        rw [gi_si_n _ _ _ (by omega)]; exact h0
      · show gi (si Y (71 + 2 * d) k 0) (70 + 2 * d) 1 = n
        rw [gi_si_n _ _ _ (by omega)]; exact h1
      · show gi (si Y (71 + 2 * d) k 0) (71 + 2 * d) i = 0
        rw [gi_si_s]
        by_cases z : i = k
        · subst z; rw [upd_s]
        · rw [upd_n _ _ z]; exact hN i (by omega)
    · have : k = 100 := by omega
      subst this
      rw [if_pos (by decide)]
      exact Or.inl ⟨_, rfl, hF, h0, h1, hN⟩
  · rw [gi_si_s, upd_n _ _ (by decide), gi_si_s, upd_s]
  · rw [gi_si_s, upd_s]
theorem nI_100 {d v : Nat} (hd : d < 8) (hv : v < 100) : (100 : Int32) * nI d + nI v = nI (100 * d + v) := by
  have : (100 : Int32) * nI d = nI (100 * d) := by
    have a : ∀ k : Fin 8, (100 : Int32) * nI k.val = nI (100 * k.val) := by decide
    exact a ⟨d, hd⟩
  rw [this, nI_add]
theorem gi_sl (S : St) (k i : Nat) (v : Int64) (a : Nat) : gi (sl S k i v) a = gi S a := rfl
theorem updL_s (f : Nat → Int64) (i : Nat) (v : Int64) : vp_updL f i v i = v := by simp [vp_updL]
theorem updL_n (f : Nat → Int64) {i j : Nat} (v : Int64) (h : j ≠ i) : vp_updL f i v j = f j := by simp [vp_updL, h]
theorem J_row (c : IC S (T, im, sh)) (g : IR S (T, im, sh)) (p s n : Int32) : JJ S (L_X11_row p s n) (L_X12_row p s n) := by
  have refuse : ∀ r, (L_X11_row p s n S = some (r, S)) → (∀ S1, IR S1 (T, im, sh) → L_X12_row p s n S1 = some (r, si S1 136 28 0)) → JJ S (L_X11_row p s n) (L_X12_row p s n) := fun r h1 h2 => JJ_D c g r ⟨S, h1, UpD_refl S⟩ (fun S1 g1 => ⟨_, h2 S1 g1, RE_0 g1⟩)
  rcases ix_split p 8 (by decide) with ⟨d, hd, rfl⟩ | bad
  · by_cases hs : 0 ≤ s ∧ s ≤ 2
    · by_cases hn : n ≤ 100
      · by_cases hn0 : 0 ≤ n
        · obtain ⟨k, hk, rfl⟩ := i_le_of (Int32.not_lt.mpr hn0) hn
          obtain ⟨q, hq, rfl⟩ := in_of (n := 2) rfl (by decide) hs
          obtain ⟨-, -, ⟨q1, z, x1, x2, x3, -⟩, -⟩ := c.2.2.2.2.2.2 d hd
          obtain ⟨Y, y1, yF, y2, y3, y4⟩ := C_begin (S := S) hd (nI q) (nI k)
          refine JJ_of 0 (T, im, setS sh d (2, (sh d).2.1, (q, k), fun _ => 0)) g ⟨si Y 66 d 2, ?_, ?_, UpC_si (by decide) (UpC_FR (fun a z => by omega) yF) _ _⟩ (fun S1 g1 => ?_)
          · unfold L_X11_row b_X11_row_0
            rw [C_ns0 hd, Option.bind_some, if_pos rfl, A_isOut, if_pos hs, Option.bind_some, if_pos rfl, if_pos hn, if_pos hn0, gd_t (inb_n hd), tn_n (show d < 2 ^ 31 by omega), y1, Option.bind_some, gd_t (inb_n hd), nm_eq]
          · refine IC_shelf c (fun a ha => ⟨by rw [gi_si_n _ _ _ (by omega)]; exact yF.1 a (by omega), FR_gr yF a⟩) (fun q _ => FR_gp yF q) (by show tp S ≤ tp Y; rw [FR_tp yF]; exact Nat.le_refl _) (fun e he ne => ⟨?_, ?_, ?_, ?_⟩) (fun _ => ⟨?_, Nat.le_refl 2, ⟨q1, z, ?_, ?_, ?_, fun h => absurd h (show ¬ (2 : Nat) = 1 by decide)⟩, fun _ => ⟨?_, by show q ≤ 2; omega, ?_, hk, fun i hi => ?_⟩⟩)
            · rw [gi_si_s, upd_n _ _ ne, yF.1 66 (by omega)]
            · exact congrFun (FR_gr yF 67) e
            · rw [gi_si_n _ _ _ (by omega), yF.1 _ (by omega)]
            · rw [gi_si_n _ _ _ (by omega), yF.1 _ (by omega)]
            · rw [gi_si_s, upd_s]; rfl
            · exact (congrFun (FR_gr yF 67) d).trans x1
            · exact (gq_local (S := S) (S' := si Y 66 d 2) (FR_gp yF q1)).trans x2
            · show q1 < tp Y
              rw [FR_tp yF]; exact x3
            · rw [gi_si_n _ _ _ (by omega)]; exact y2
            · rw [gi_si_n _ _ _ (by omega)]; exact y3
            · rw [gi_si_n _ _ _ (by omega)]; exact y4 i hi
          · have g2 := IR_thr g1 0
            have u2 := Up_thr S1 0
            generalize hS2 : si S1 136 28 0 = S2 at g2 u2
            have key := lp_inv (body := l_X12_row_68) (m := 100) (I := fun j x => x.1 = nI d ∧ x.2.1 = nI j ∧ (∀ a, gi x.2.2 a = gi (si (si (si S2 153 d 2) 156 d (nI q)) 157 d (nI k)) a) ∧ (∀ i, gl x.2.2 158 i = if 100 * d ≤ i ∧ i < 100 * d + j then 0 else gl S2 158 i) ∧ (∀ a, a ≠ 158 → gl x.2.2 a = gl S2 a) ∧ x.2.2.2.2 = S2.2.2) (Q := fun y => y.1 = 0 ∧ (∀ a, gi y.2 a = gi (si (si (si S2 153 d 2) 156 d (nI q)) 157 d (nI k)) a) ∧ (∀ i, gl y.2 158 i = if 100 * d ≤ i ∧ i < 100 * d + 100 then 0 else gl S2 158 i) ∧ (∀ a, a ≠ 158 → gl y.2 a = gl S2 a) ∧ y.2.2.2 = S2.2.2) (fun j x hj hI => ?_) 1000 0 (nI d, 0, si (si (si S2 153 d 2) 156 d (nI q)) 157 d (nI k)) (Nat.zero_le _) (by omega) ⟨rfl, rfl, fun _ => rfl, fun i => by rw [if_neg (by omega)]; rfl, fun _ _ => rfl, rfl⟩
            · obtain ⟨⟨r, W⟩, w1, w2, w3, w4, w5, w6⟩ := key
              simp only at w2 w3 w4 w5 w6
              subst w2
              have wgr : ∀ a, gr W a = gr S2 a := fun a => by show W.2.2.1 a = S2.2.2.1 a; rw [w6]
              have wgp : ∀ a, gp W a = gp S2 a := fun a => by show W.2.2.2.1 a = S2.2.2.2.1 a; rw [w6]
              refine ⟨W, ?_, ?_, ?_⟩
              · unfold L_X12_row b_X12_row_0
                rw [nm_eq, hS2, R_in8 hd, Option.bind_some, if_neg (by decide), R_in 0 2, if_pos hs, Option.bind_some, if_neg (by decide), if_pos hn, if_pos hn0, gd_t (inb_n hd), nm_eq, gd_t (inb_n hd), nm_eq, gd_t (inb_n hd), nm_eq, tn_n (show d < 2 ^ 31 by omega), w1]
              · refine IR_shelf g2 (fun a h1 h2 => by rw [w3, gi_si_n _ _ _ (by omega), gi_si_n _ _ _ (by omega), gi_si_n _ _ _ (by omega)]) (by rw [w3, gi_si_n _ _ _ (by decide), gi_si_n _ _ _ (by decide), gi_si_n _ _ _ (by decide)]) (fun e he ne => ⟨?_, ?_, ?_, ?_, ?_, fun i hi => ?_⟩) (fun _ => ⟨?_, fun h => absurd h (show ¬ (2 : Nat) = 1 by decide), fun _ => ⟨?_, ?_, fun i hi => ?_⟩⟩)
                · rw [w3, gi_si_n _ _ _ (by decide), gi_si_n _ _ _ (by decide), gi_si_s, upd_n _ _ ne]
                · rw [w3, gi_si_n _ _ _ (by decide), gi_si_n _ _ _ (by decide), gi_si_n _ _ _ (by decide)]
                · rw [w3, gi_si_n _ _ _ (by decide), gi_si_n _ _ _ (by decide), gi_si_n _ _ _ (by decide)]
                · rw [w3, gi_si_n _ _ _ (by decide), gi_si_s, upd_n _ _ ne, gi_si_n _ _ _ (by decide)]
                · rw [w3, gi_si_s, upd_n _ _ ne, gi_si_n _ _ _ (by decide), gi_si_n _ _ _ (by decide)]
                · rw [w4, if_neg (by omega)]
                · rw [w3, gi_si_n _ _ _ (by decide), gi_si_n _ _ _ (by decide), gi_si_s, upd_s]; rfl
                · rw [w3, gi_si_n _ _ _ (by decide), gi_si_s, upd_s]
                · rw [w3, gi_si_s, upd_s]
                · rw [w4, if_pos (by omega)]; rfl
              · refine UpR_tr u2 ⟨fun a ha => ⟨?_, w5 a (by omega), wgr a⟩, wgp, by show W.2.2.2.2 = S2.2.2.2.2; rw [w6]⟩
                rw [w3, gi_si_n _ _ _ (by omega), gi_si_n _ _ _ (by omega), gi_si_n _ _ _ (by omega)]
            · obtain ⟨a1, a2, W⟩ := x
              obtain ⟨e1, e2, e3, e4, e5, e6⟩ := hI
              simp only at e1 e2 e3 e4 e5 e6
              subst e1 e2
              unfold l_X12_row_68 b_X12_row_68
              dsimp only
              rcases Nat.lt_or_ge j 100 with hl | hl
              · refine Or.inr ⟨hl, ?_⟩
                have e : ¬ (100 : Int32) ≤ nI j := nI_ge (b := 100) hl (by decide)
                rw [if_neg e, nI_100 hd hl, gd_t (inb_n (show 100 * d + j < 800 by omega)), nm_eq, tn_n (show 100 * d + j < 2 ^ 31 by omega), nI_1]
                refine ⟨_, rfl, rfl, rfl, e3, fun i => ?_, fun a ha => ?_, e6⟩
                · show gl (sl W 158 (100 * d + j) 0) 158 i = _
                  rw [gl_sl_s]
                  by_cases z : i = 100 * d + j
                  · subst z
                    rw [updL_s, if_pos (by omega)]
                  · rw [updL_n _ _ z, e4 i]
                    by_cases y : 100 * d ≤ i ∧ i < 100 * d + j
                    · rw [if_pos y, if_pos (by omega)]
                    · rw [if_neg y, if_neg (by omega)]
                · show gl (sl W 158 (100 * d + j) 0) a = _
                  rw [gl_sl_n _ _ _ ha]
                  exact e5 a ha
              · have : j = 100 := by omega
                subst this
                rw [if_pos (by decide)]
                exact Or.inl ⟨_, rfl, rfl, e3, e4, e5, e6⟩
        · refine refuse (-14) ?_ (fun S1 g1 => ?_)
          · unfold L_X11_row b_X11_row_0
            rw [C_ns0 hd, Option.bind_some, if_pos rfl, A_isOut, if_pos hs, Option.bind_some, if_pos rfl, if_pos hn, if_neg hn0]
          · unfold L_X12_row b_X12_row_0
            rw [nm_eq, R_in8 hd, Option.bind_some, if_neg (by decide), R_in 0 2, if_pos hs, Option.bind_some, if_neg (by decide), if_pos hn, if_neg hn0]
      · refine refuse (-1) ?_ (fun S1 g1 => ?_)
        · unfold L_X11_row b_X11_row_0
          rw [C_ns0 hd, Option.bind_some, if_pos rfl, A_isOut, if_pos hs, Option.bind_some, if_pos rfl, if_neg hn]
        · unfold L_X12_row b_X12_row_0
          rw [nm_eq, R_in8 hd, Option.bind_some, if_neg (by decide), R_in 0 2, if_pos hs, Option.bind_some, if_neg (by decide), if_neg hn]
    · refine refuse (-1) ?_ (fun S1 g1 => ?_)
      · unfold L_X11_row b_X11_row_0
        rw [C_ns0 hd, Option.bind_some, if_pos rfl, A_isOut, if_neg hs]
        rfl
      · unfold L_X12_row b_X12_row_0
        rw [nm_eq, R_in8 hd, Option.bind_some, if_neg (by decide), R_in 0 2, if_neg hs]
        rfl
  · refine refuse (-1) ?_ (fun S1 g1 => ?_)
    · unfold L_X11_row b_X11_row_0
      rw [C_ns1 bad]
      rfl
    · unfold L_X12_row b_X12_row_0
      rw [nm_eq, R_nin8 bad]
      rfl
end SHELF
