/-! BEGIN: what the law holds beside the class's town; FACTS come. -/
theorem dvn {a : Nat} (d : Nat) (D : Int32) (hD : D = nI d) (ha : a < 2147483648) (h0 : 0 < d) (hd : d < 2147483648) : nI a / D = nI (a / d) := by subst hD; exact pk_div ha h0 hd
theorem rmn {a : Nat} (d : Nat) (D : Int32) (hD : D = nI d) (ha : a < 2147483648) (h0 : 0 < d) (hd : d < 2147483648) : nI a - nI a / D * D = nI (a % d) := by subst hD; exact pk_rem ha h0 hd
theorem tz0 : (0 : Int32).toNatClampNeg = 0 := by decide
theorem tz1 : (1 : Int32).toNatClampNeg = 1 := by decide
theorem tz2 : (2 : Int32).toNatClampNeg = 2 := by decide
theorem tz3 : (3 : Int32).toNatClampNeg = 3 := by decide
theorem tz4 : (4 : Int32).toNatClampNeg = 4 := by decide
theorem tz5 : (5 : Int32).toNatClampNeg = 5 := by decide
theorem tz6 : (6 : Int32).toNatClampNeg = 6 := by decide
theorem tz7 : (7 : Int32).toNatClampNeg = 7 := by decide
theorem tz8 : (8 : Int32).toNatClampNeg = 8 := by decide
theorem tz9 : (9 : Int32).toNatClampNeg = 9 := by decide
/-- a mood, a weight -/
theorem nine {y : Nat} (h : y < 19) : -9 ≤ nI y - (9 : Int32) ∧ nI y - (9 : Int32) ≤ 9 := by
  obtain ⟨-, -, -, h1, h2⟩ := mood_u ⟨y, h⟩
  exact ⟨h1, h2⟩
def LV (S : St) (T : TT) : Prop := gi S 136 1 = nI (tn T) ∧ gi S 136 3 = nI (tm T) ∧ gi S 136 5 = nI (tk T) ∧ (∀ a b, a < 4 → b < 4 → gi S (158 + a) b = tF T 14 (4 * a + b)) ∧
  (∀ p, p < tn T → ∃ q, gr S 136 p = some q ∧ dyl S q = some 6 ∧ q < tp S ∧ gi S q 3 = tF T 2 p) ∧ (∀ k, k < tk T → ∃ q, gr S 152 k = some q ∧ dyl S q = some 5 ∧ q < tp S ∧ gi S q 1 = tF T 10 k)
theorem LV_B {S S' : St} {T : TT} (h : LV S T) (u : UpB S S') : LV S' T := by
  obtain ⟨h1, h2, h3, h4, h5, h6⟩ := h
  have o : ∀ a, 136 ≤ a → gi S' a = gi S a := fun a ha => (u.1 a ha).1
  have r : ∀ a, 136 ≤ a → gr S' a = gr S a := fun a ha => (u.1 a ha).2.2
  refine ⟨by rw [o 136 (by decide)]; exact h1, by rw [o 136 (by decide)]; exact h2, by rw [o 136 (by decide)]; exact h3, fun a b ha hb => by rw [o _ (by omega)]; exact h4 a b ha hb, fun p hp => ?_, fun k hk => ?_⟩
  · obtain ⟨q, q1, q2, q3, q4⟩ := h5 p hp
    have := dyl_183 q2
    exact ⟨q, by rw [r 136 (by decide)]; exact q1, B_dyl u q3 q2, Nat.lt_of_lt_of_le q3 u.2.2, by rw [o q (by omega)]; exact q4⟩
  · obtain ⟨q, q1, q2, q3, q4⟩ := h6 k hk
    have := dyl_183 q2
    exact ⟨q, by rw [r 152 (by decide)]; exact q1, B_dyl u q3 q2, Nat.lt_of_lt_of_le q3 u.2.2, by rw [o q (by omega)]; exact q4⟩
/-- the law's part of a state behind a step, from the part before -/
theorem LV_tr {S S' : St} {T T' : TT} (h : LV S T) (t : tp S ≤ tp S') (o : ∀ q, 183 ≤ q → q < tp S → gi S' q = gi S q) (d : ∀ q n, q < tp S → dyl S q = some n → dyl S' q = some n)
    (e1 : gi S' 136 1 = nI (tn T')) (e3 : gi S' 136 3 = nI (tm T')) (e5 : gi S' 136 5 = nI (tk T')) (kn : ∀ a b, a < 4 → b < 4 → gi S' (158 + a) b = tF T' 14 (4 * a + b))
    (pp : ∀ p, p < tn T' → (p < tn T ∧ gr S' 136 p = gr S 136 p ∧ tF T' 2 p = tF T 2 p) ∨ ∃ q, gr S' 136 p = some q ∧ dyl S' q = some 6 ∧ q < tp S' ∧ gi S' q 3 = tF T' 2 p)
    (kk : ∀ k, k < tk T' → (k < tk T ∧ gr S' 152 k = gr S 152 k ∧ tF T' 10 k = tF T 10 k) ∨ ∃ q, gr S' 152 k = some q ∧ dyl S' q = some 5 ∧ q < tp S' ∧ gi S' q 1 = tF T' 10 k) : LV S' T' := by
  obtain ⟨h1, h2, h3, h4, h5, h6⟩ := h
  refine ⟨e1, e3, e5, kn, fun p hp => ?_, fun k hk => ?_⟩
  · rcases pp p hp with ⟨a, b, c⟩ | a
    · obtain ⟨q, q1, q2, q3, q4⟩ := h5 p a
      exact ⟨q, b.trans q1, d q 6 q3 q2, Nat.lt_of_lt_of_le q3 t, by rw [o q (dyl_183 q2) q3, c]; exact q4⟩
    · exact a
  · rcases kk k hk with ⟨a, b, c⟩ | a
    · obtain ⟨q, q1, q2, q3, q4⟩ := h6 k a
      exact ⟨q, b.trans q1, d q 5 q3 q2, Nat.lt_of_lt_of_le q3 t, by rw [o q (dyl_183 q2) q3, c]; exact q4⟩
    · exact a
theorem lq_B {S S' : St} (u : UpB S S') : lq S S' = true := lq_of (u.1 136 (by decide)).1
def ER (T : TT) : Prop := tF T 15 0 = 15 ∧ tF T 15 1 = 1 ∧ tF T 15 2 = 4
section FACTS
variable {S : St} {T : TT} {im : Option TT} {sh : Nat → Sh} {xL : Nat} {xs : Nat → Int32}
set_option maxHeartbeats 4000000 in
theorem F_step (hL : xL ≤ 260) (c : IC S (T, im, sh)) (l : LV S T) {n f : Nat} (hf : tm T = f) (hn : f < n) (h6 : n ≤ 6) :
    ∃ S' T', b_L_begin_11 xL xs 0 (nI n) (nI f) S = some (.inl (0, nI n, nI (f + 1), S')) ∧ IC S' (T', im, sh) ∧ LV S' T' ∧ tm T' = f + 1 ∧ tn T' = tn T ∧ tk T' = tk T ∧ ∀ i, tF T' 15 i = tF T 15 i := by
  have f6 : f < 6 := by omega
  have f31 : f < 2 ^ 31 := by omega
  have ix : (0 : Int32) + 1 + nI f = nI (1 + f) := by rw [show (0 : Int32) + 1 = nI 1 from rfl, nI_add]
  unfold b_L_begin_11
  rw [if_neg (nI_ge hn (by omega)), ix, cell_n hL (by omega), Option.bind_some, cv_and]
  have hx := sn_lt xL xs (1 + f)
  generalize sn xL xs (1 + f) = x at hx ⊢
  have ec : (((nI x - nI x / 3 * 3) - (nI x - nI x / 3 * 3) / 2 * 2) + (((nI x / 3) - (nI x / 3) / 2 * 2) * (nI x - nI x / 2 * 2)) : Int32) = nI (x % 3 % 2 + x / 3 % 2 * (x % 2)) := by
    rw [rmn 3 3 rfl hx (by decide) (by decide), rmn 2 2 rfl (show x % 3 < 2147483648 by omega) (by decide) (by decide), dvn 3 3 rfl hx (by decide) (by decide), rmn 2 2 rfl (show x / 3 < 2147483648 by omega) (by decide) (by decide), rmn 2 2 rfl hx (by decide) (by decide), pk_mul, nI_add]
  have ew : (((nI x / 6) - (nI x / 6) / 19 * 19) - 9 : Int32) = nI (x / 6 % 19) - 9 := by
    rw [dvn 6 6 rfl hx (by decide) (by decide), rmn 19 19 rfl (show x / 6 < 2147483648 by omega) (by decide) (by decide)]
  have eh : ((nI x / 114) - (nI x / 114) / 24 * 24 : Int32) = nI (x / 114 % 24) := by
    rw [dvn 114 114 rfl hx (by decide) (by decide), rmn 24 24 rfl (show x / 114 < 2147483648 by omega) (by decide) (by decide)]
  have eq : ((nI x / 5472) - (nI x / 5472) / 11 * 11 : Int32) = nI (x / 5472 % 11) := by
    rw [dvn 5472 5472 rfl hx (by decide) (by decide), rmn 11 11 rfl (show x / 5472 < 2147483648 by omega) (by decide) (by decide)]
  rw [ec, ew, eh, eq]
  have cc3 : x % 3 % 2 + x / 3 % 2 * (x % 2) ≤ 3 := by
    have a1 : x % 3 % 2 ≤ 1 := by omega
    have a2 : x / 3 % 2 ≤ 1 := by omega
    have a3 : x % 2 ≤ 1 := by omega
    have := Nat.mul_le_mul a2 a3
    omega
  generalize x % 3 % 2 + x / 3 % 2 * (x % 2) = cc at cc3 ⊢
  have w19 : x / 6 % 19 < 19 := Nat.mod_lt _ (by decide)
  generalize x / 6 % 19 = ww at w19 ⊢
  have h24 : x / 114 % 24 < 24 := Nat.mod_lt _ (by decide)
  generalize x / 114 % 24 = hh at h24 ⊢
  have q11 : x / 5472 % 11 < 11 := Nat.mod_lt _ (by decide)
  generalize x / 5472 % 11 = qq at q11 ⊢
  rw [gd_t (decide_eq_true c.1), nm_eq, nm_eq]
  have N0 := NEW_san c.1 4
  have ck := c.1
  obtain ⟨k, hk⟩ : ∃ k, k = tp S := ⟨_, rfl⟩
  rw [← hk] at N0 ck ⊢
  generalize san S 4 = S5 at N0 ⊢
  rw [st_i (NEW_d N0) (by decide)]
  have N1 := NEW_si N0 (0 : Int32).toNatClampNeg (nI cc)
  rw [st_i (NEW_d N1) (by decide)]
  have N2 := NEW_si N1 (1 : Int32).toNatClampNeg (nI ww - 9)
  rw [st_i (NEW_d N2) (by decide)]
  have N3 := NEW_si N2 (2 : Int32).toNatClampNeg (nI hh)
  rw [st_i (NEW_d N3) (by decide)]
  have N4 := NEW_si N3 (3 : Int32).toNatClampNeg (10 : Int32)
  obtain ⟨S26, h26⟩ : ∃ X, X = si (si (si (si S5 k (0 : Int32).toNatClampNeg (nI cc)) k (1 : Int32).toNatClampNeg (nI ww - 9)) k (2 : Int32).toNatClampNeg (nI hh)) k (3 : Int32).toNatClampNeg 10 := ⟨_, rfl⟩
  have g0 : gi S26 k 0 = nI cc := by rw [h26, tz0, tz1, tz2, tz3]; simp [gi_si_s, upd]
  have g1 : gi S26 k 1 = nI ww - 9 := by rw [h26, tz0, tz1, tz2, tz3]; simp [gi_si_s, upd]
  have g2 : gi S26 k 2 = nI hh := by rw [h26, tz0, tz1, tz2, tz3]; simp [gi_si_s, upd]
  rw [← h26] at N4 ⊢
  clear h26 N0 N1 N2 N3
  rw [gd_t (inb_n f6), NEW_d N4, Option.bind_some, nm_eq, nm_eq]
  have c26 := NEW_IC N4 c
  obtain ⟨-, -, t26, o26, d26⟩ := N4
  obtain ⟨S30, h30⟩ : ∃ X, X = si (sr S26 145 (nI f).toNatClampNeg (some k)) 136 3 (gi (sr S26 145 (nI f).toNatClampNeg (some k)) 136 3 + 1) := ⟨_, rfl⟩
  rw [← h30]
  have o30 : ∀ a, a ≠ 136 → gi S30 a = gi S26 a := fun a ha => by rw [h30]; exact gi_si_n _ _ _ ha
  have o136 : gi S30 136 = upd (gi S26 136) 3 (gi S26 136 3 + 1) := by rw [h30]; exact gi_si_s _ _ _ _
  have r30 : ∀ a, a ≠ 145 → gr S30 a = gr S26 a := fun a ha => by rw [h30]; exact gr_sr_n _ _ _ ha
  have r145 : gr S30 145 (nI f).toNatClampNeg = some k := by rw [h30]; show gr (sr S26 145 _ _) 145 _ = _; rw [gr_sr_s]; exact if_pos rfl
  have p30 : ∀ a, gp S30 a = gp S26 a := fun a => by rw [h30]; rfl
  have t30 : tp S30 = k + 1 := by rw [h30]; exact t26
  clear h30
  have dy : ∀ q, 183 ≤ q → dyl S30 q = dyl S26 q := fun q hq => dyl_loc (p30 q) (r30 q (by omega))
  have c30 : IC S30 (T, im, sh) := IC_B c26 (fun a ha => ⟨o30 a (by omega), r30 a (by omega)⟩) (fun q _ => p30 q) (by omega)
  have dk : dyl S30 k = some 4 := by rw [dy k ck]; exact d26
  rw [ld_q (inb_n f6) r145 dk (by decide), ld_q (inb_n f6) r145 dk (by decide), ld_q (inb_n f6) r145 dk (by decide), tz0, tz1, tz2, o30 k (by omega), g0, g1, g2]
  have ok : okF (nI cc) (nI ww - 9) (nI hh) := ⟨⟨nI_pos' (by omega), nI_le (b := 3) cc3 (by decide)⟩, nine w19, nI_pos' (by omega), nI_le (b := 23) (by omega) (by decide)⟩
  obtain ⟨X, x1, x2, x3⟩ := K_fact c30 ok (by omega)
  rw [x1, Option.bind_some, gd_t (lq_B x3), if_pos (show nI (tm T) = nI f by rw [hf])]
  -- the town with the FACT
  have lX : LV X (addF T (nI cc) (nI ww - 9) (nI hh)) := by
    have l30 : LV S30 (addF T (nI cc) (nI ww - 9) (nI hh)) := by
      refine LV_tr l (by omega) (fun q h1 h2 => ?_) (fun q n h1 h2 => ?_) ?_ ?_ ?_ (fun a b ha hb => ?_) (fun p hp => Or.inl ⟨hp, ?_, ?_⟩) (fun j hj => Or.inl ⟨hj, ?_, ?_⟩)
      · rw [o30 q (by omega), (o26 q (by omega)).1]
      · rw [dy q (dyl_183 h2), dyl_loc (o26 q (by omega)).2.2.2 (o26 q (by omega)).2.2.1]; exact h2
      · rw [o136, upd_n _ _ (by decide), (o26 136 (by omega)).1]; exact l.1
      · rw [o136, upd_s, (o26 136 (by omega)).1, l.2.1, nI_1]; rfl
      · rw [o136, upd_n _ _ (by decide), (o26 136 (by omega)).1]; exact l.2.2.1
      · rw [o30 _ (by omega), (o26 _ (by omega)).1]; exact l.2.2.2.1 a b ha hb
      · rw [r30 136 (by decide), (o26 136 (by omega)).2.2.1]
      · rfl
      · rw [r30 152 (by decide), (o26 152 (by omega)).2.2.1]
      · rfl
    exact LV_B l30 x3
  by_cases z : ((nI x / 2736) - (nI x / 2736) / 2 * 2 : Int32) = 0
  · rw [if_pos z]
    have rX : gr X 145 (nI f).toNatClampNeg = some k := by rw [(x3.1 145 (by decide)).2.2]; exact r145
    have dX : dyl X k = some 4 := B_dyl x3 (by omega) dk
    have tX : k + 1 ≤ tp X := by have := x3.2.2; omega
    rw [gd_t (inb_n f6), rX, Option.bind_some, st_i dX (by decide)]
    obtain ⟨S55, h55⟩ : ∃ Y, Y = si X k (3 : Int32).toNatClampNeg (nI qq) := ⟨_, rfl⟩
    rw [← h55]
    have o55 : ∀ a, a ≠ k → gi S55 a = gi X a := fun a ha => by rw [h55]; exact gi_si_n _ _ _ ha
    have g55 : gi S55 k (3 : Int32).toNatClampNeg = nI qq := by rw [h55, gi_si_s, upd_s]
    have r55 : ∀ a, gr S55 a = gr X a := fun a => by rw [h55]; rfl
    have p55 : ∀ a, gp S55 a = gp X a := fun a => by rw [h55]; rfl
    have t55 : tp S55 = tp X := by rw [h55]; rfl
    clear h55
    have c55 : IC S55 (addF T (nI cc) (nI ww - 9) (nI hh), im, sh) := IC_B x2 (fun a ha => ⟨o55 a (by omega), r55 a⟩) (fun q _ => p55 q) (by omega)
    have d55 : dyl S55 k = some 4 := by rw [dyl_loc (p55 k) (r55 k)]; exact dX
    rw [ld_q (inb_n f6) (by rw [r55]; exact rX) d55 (by decide), g55]
    obtain ⟨Y, y1, y2, y3⟩ := K_chance c55 (j := f) (x := qq) (by show f < tm T + 1; omega) (by omega)
    have e10 : tF (addF T (nI cc) (nI ww - 9) (nI hh)) 8 f = 10 := by
      show uD (uD (uD (uD (tF T) 5 (tm T) _) 6 (tm T) _) 7 (tm T) _) 8 (tm T) 10 8 f = 10
      rw [hf, uD_eq]
    rw [y1, Option.bind_some, gd_t (lq_B y3), if_pos e10]
    unfold b_L_begin_198
    rw [nI_1]
    refine ⟨Y, _, rfl, y2, ?_, by show tm T + 1 = f + 1; rw [hf], rfl, rfl, fun i => rfl⟩
    have l55 : LV S55 (wF (addF T (nI cc) (nI ww - 9) (nI hh)) 8 f (nI qq)) := by
      have lX' := lX
      -- rows that are there are older than k
      obtain ⟨h1, h2, h3, h4, h5, h6'⟩ := lX
      have old5 : ∀ p, p < tn T → ∃ q, gr X 136 p = some q ∧ dyl X q = some 6 ∧ q < tp X ∧ gi X q 3 = tF T 2 p ∧ q ≠ k := by
        intro p hp
        obtain ⟨q, q1, q2, q3, q4⟩ := h5 p hp
        refine ⟨q, q1, q2, q3, q4, fun e => ?_⟩
        subst e
        rw [dX] at q2
        cases q2
      have old6 : ∀ j, j < tk T → ∃ q, gr X 152 j = some q ∧ dyl X q = some 5 ∧ q < tp X ∧ gi X q 1 = tF T 10 j ∧ q ≠ k := by
        intro p hp
        obtain ⟨q, q1, q2, q3, q4⟩ := h6' p hp
        refine ⟨q, q1, q2, q3, q4, fun e => ?_⟩
        subst e
        rw [dX] at q2
        cases q2
      refine ⟨by rw [o55 136 (by omega)]; exact h1, by rw [o55 136 (by omega)]; exact h2, by rw [o55 136 (by omega)]; exact h3, fun a b ha hb => by rw [o55 _ (by omega)]; exact h4 a b ha hb, fun p hp => ?_, fun j hj => ?_⟩
      · obtain ⟨q, q1, q2, q3, q4, q5⟩ := old5 p hp
        exact ⟨q, by rw [r55]; exact q1, by rw [dyl_loc (p55 q) (r55 q)]; exact q2, by rw [t55]; exact q3, by rw [o55 q q5]; exact q4⟩
      · obtain ⟨q, q1, q2, q3, q4, q5⟩ := old6 j hj
        exact ⟨q, by rw [r55]; exact q1, by rw [dyl_loc (p55 q) (r55 q)]; exact q2, by rw [t55]; exact q3, by rw [o55 q q5]; exact q4⟩
    exact LV_B l55 y3
  · rw [if_neg z]
    unfold b_L_begin_198
    rw [nI_1]
    exact ⟨X, _, rfl, x2, lX, by show tm T + 1 = f + 1; rw [hf], rfl, rfl, fun i => rfl⟩
end FACTS
