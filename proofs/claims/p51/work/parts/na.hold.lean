/-! HOLDS: the first loop. -/
def HS (T : TT) (im : Option TT) (sh : Nat → Sh) (q0 : Nat) (g : Nat → Int32) (Y : St) : Prop := IC Y (T, im, sh) ∧ LV Y T ∧ dyl Y q0 = some 3 ∧ gi Y q0 = g ∧ q0 < tp Y
section HOLD
variable {Y Y' S : St} {T : TT} {im : Option TT} {sh : Nat → Sh} {q0 : Nat} {g : Nat → Int32} {xL : Nat} {xs : Nat → Int32} {p j : Nat}
theorem HS_D (h : HS T im sh q0 g Y) (u : UpD Y Y') : lq Y Y' = true ∧ HS T im sh q0 g Y' := by
  obtain ⟨h1, h2, h3, h4, h5⟩ := h
  have b := UpB_D u
  have := dyl_183 h3
  exact ⟨lq_B b, IC_D u h1, LV_B h2 b, B_dyl b h5 h3, (b.1 q0 (by omega)).1.trans h4, Nat.lt_of_lt_of_le h5 b.2.2⟩
theorem HS_si (h : HS T im sh q0 g Y) (i : Nat) (v : Int32) : HS T im sh q0 (upd g i v) (si Y q0 i v) := by
  obtain ⟨h1, h2, h3, h4, h5⟩ := h
  have h183 := dyl_183 h3
  have r : RW q0 Y (si Y q0 i v) := RW_si (RW_refl q0 Y) i v
  refine ⟨RW_IC r h183 h1, ?_, RW_d r h3, by rw [gi_si_s, h4], h5⟩
  have old : ∀ {q n : Nat}, n ≠ 3 → dyl Y q = some n → q ≠ q0 := fun {q n} hn e z => by
    subst z
    rw [h3] at e
    exact hn (Option.some.inj e).symm
  obtain ⟨l1, l2, l3, l4, l5, l6⟩ := h2
  refine ⟨by rw [r.1 136 (by omega)]; exact l1, by rw [r.1 136 (by omega)]; exact l2, by rw [r.1 136 (by omega)]; exact l3, fun a b ha hb => by rw [r.1 _ (by omega)]; exact l4 a b ha hb, fun p hp => ?_, fun k hk => ?_⟩
  · obtain ⟨q, q1, q2, q3, q4⟩ := l5 p hp
    exact ⟨q, q1, RW_d r q2, q3, by rw [r.1 q (old (by decide) q2)]; exact q4⟩
  · obtain ⟨q, q1, q2, q3, q4⟩ := l6 k hk
    exact ⟨q, q1, RW_d r q2, q3, by rw [r.1 q (old (by decide) q2)]; exact q4⟩
theorem H_f (h : HS T im sh q0 g Y) (hj : j < tn T) {k : Nat} (hk : k < 9) : ∃ X, L_X11_fate (nI j) (nI k) Y = some (aFate T (sDay T tt false) j (nI k), X) ∧ lq Y X = true ∧ HS T im sh q0 g X := by
  obtain ⟨X, x1, x2⟩ := K_fate h.1 hj hk
  exact ⟨X, x1, HS_D h x2⟩
theorem H_f0 (h : HS T im sh q0 g Y) (hj : j < tn T) : ∃ X, L_X11_fate (nI j) 0 Y = some (kTold (sDay T tt false 1 j), X) ∧ lq Y X = true ∧ HS T im sh q0 g X := H_f h hj (k := 0) (by decide)
theorem H_f1 (h : HS T im sh q0 g Y) (hj : j < tn T) : ∃ X, L_X11_fate (nI j) 1 Y = some (kStr (tK T j) (tF T 0 j) (sDay T tt false 0 j), X) ∧ lq Y X = true ∧ HS T im sh q0 g X := H_f h hj (k := 1) (by decide)
theorem H_f2 (h : HS T im sh q0 g Y) (hj : j < tn T) : ∃ X, L_X11_fate (nI j) 2 Y = some (sDay T tt false 2 j, X) ∧ lq Y X = true ∧ HS T im sh q0 g X := H_f h hj (k := 2) (by decide)
theorem H_f3 (h : HS T im sh q0 g Y) (hj : j < tn T) : ∃ X, L_X11_fate (nI j) 3 Y = some (if sDay T tt false 2 j = -4 then -4 else sDay T tt false 3 j, X) ∧ lq Y X = true ∧ HS T im sh q0 g X := H_f h hj (k := 3) (by decide)
theorem H_f4 (h : HS T im sh q0 g Y) (hj : j < tn T) : ∃ X, L_X11_fate (nI j) 4 Y = some (sCoins T (sDay T tt false) j 23, X) ∧ lq Y X = true ∧ HS T im sh q0 g X := H_f h hj (k := 4) (by decide)
theorem H_f5 (h : HS T im sh q0 g Y) (hj : j < tn T) : ∃ X, L_X11_fate (nI j) 5 Y = some (if sDay T tt false 4 j = 0 then 0 else 1, X) ∧ lq Y X = true ∧ HS T im sh q0 g X := H_f h hj (k := 5) (by decide)
theorem H_f6 (h : HS T im sh q0 g Y) (hj : j < tn T) : ∃ X, L_X11_fate (nI j) 6 Y = some (if sDay T tt false 4 j = 0 then -4 else sDay T tt false 6 j, X) ∧ lq Y X = true ∧ HS T im sh q0 g X := H_f h hj (k := 6) (by decide)
theorem H_f7 (h : HS T im sh q0 g Y) (hj : j < tn T) : ∃ X, L_X11_fate (nI j) 7 Y = some (if sDay T tt false 4 j = 0 then -4 else sDay T tt false 5 j, X) ∧ lq Y X = true ∧ HS T im sh q0 g X := H_f h hj (k := 7) (by decide)
theorem H_f8 (h : HS T im sh q0 g Y) (hj : j < tn T) : ∃ X, L_X11_fate (nI j) 8 Y = some (sDay T tt false 8 j, X) ∧ lq Y X = true ∧ HS T im sh q0 g X := H_f h hj (k := 8) (by decide)
theorem H_chain (h : HS T im sh q0 g Y) (hj : j < tn T) : ∃ X, L_X11_chain (nI j) Y = some (chn (sDay T tt false 2) 8 (sDay T tt false 2 j), X) ∧ lq Y X = true ∧ HS T im sh q0 g X := by
  obtain ⟨X, x1, x2⟩ := K_chain h.1 hj
  exact ⟨X, x1, HS_D h x2⟩
theorem H_sum (h : HS T im sh q0 g Y) (hj : j < tn T) : ∃ X, L_X11_sum (nI j) Y = some (sDay T tt false 0 j, X) ∧ lq Y X = true ∧ HS T im sh q0 g X := by
  obtain ⟨X, x1, x2⟩ := K_sum h.1 hj
  exact ⟨X, x1, HS_D h x2⟩
theorem H_purse (h : HS T im sh q0 g Y) (hj : j < tn T) : ∃ q X, L_X11_purse (nI j) Y = some (nI q, X) ∧ q < 100 ∧ lq Y X = true ∧ HS T im sh q0 g X := by
  obtain ⟨r, X, x1, x2, q, q1, rfl⟩ := K_purse h.1 hj
  exact ⟨q, X, x1, q1, HS_D h x2⟩
theorem H_per (h : HS T im sh q0 g Y) (hj : j < tn T) (v : Int32) : L_X11_person (nI j) v Y = some (aPerson T j v) := K_person h.1 hj v
theorem Q_561 (h : HS T im sh q0 g Y) (hp : p < tn T) (v2 v3 v4 v5 v6 v7 : Int32) : ∃ X, b_L_holds_561 xL xs v2 v3 v4 v5 v6 v7 q0 (nI p) Y = some (.inl (v2, v3, v4, v5, v6, v7, q0, nI (p + 1), X)) ∧ HS T im sh q0 g X := by
  unfold b_L_holds_561
  have hW : WT T := h.1.2.1
  obtain ⟨X1, x1, x2, x3⟩ := H_sum h hp
  rw [x1, Option.bind_some, gd_t x2]
  have kb := known_b (b := tt) hW hp (sDue T p)
  have e0 : sDay T tt false 0 p = sKnown T tt p (sDue T p) := F_0 hW hp
  have b : -999 ≤ sDay T tt false 0 p ∧ sDay T tt false 0 p ≤ 999 := by
    rw [e0, t_le, t_le]
    exact ⟨by show (-999 : Int) ≤ _; omega, by show _ ≤ (999 : Int); omega⟩
  rw [K_strength x3.1 hp b, Option.bind_some]
  obtain ⟨X2, y1, y2, y3⟩ := H_f1 x3 hp
  rw [y1, Option.bind_some, gd_t y2, if_pos rfl]
  obtain ⟨q, X3, z1, z2, z3, z4⟩ := H_purse y3 hp
  rw [z1, Option.bind_some, gd_t z3, if_neg (show ¬ 99 < nI q from Int32.not_lt.mpr (nI_le (b := 99) (by omega) (by decide)))]
  obtain ⟨q', X4, w1, w2, w3, w4⟩ := H_purse z4 hp
  rw [w1, Option.bind_some, gd_t w3, if_pos (nI_pos' (by omega)), nI_1]
  exact ⟨X4, rfl, w4⟩
theorem Q_425 (h : HS T im sh q0 g Y) (hp : p < tn T) (v2 v3 v4 v5 v6 v7 : Int32) : ∃ X, b_L_holds_425 xL xs v2 v3 v4 v5 v6 v7 q0 (nI p) Y = some (.inl (v2, v3, v4, v5, v6, v7 + (if sDay T tt false 4 p = 0 then 0 else 1), q0, nI (p + 1), X)) ∧ HS T im sh q0 g X := by
  unfold b_L_holds_425
  have hW : WT T := h.1.2.1
  have n8 := hW.1
  obtain ⟨X1, x1, x2, x3⟩ := H_f6 h hp
  obtain ⟨X2, y1, y2, y3⟩ := H_f5 x3 hp
  obtain ⟨X3, z1, z2, z3⟩ := H_f5 y3 hp
  rw [x1, Option.bind_some, gd_t x2]
  dsimp only
  rw [y1, Option.bind_some, gd_t y2]
  dsimp only
  rw [z1, Option.bind_some, gd_t z2]
  dsimp only
  by_cases h4 : sDay T tt false 4 p = 0
  · simp only [if_pos h4]
    rw [if_neg (by decide), if_pos trivial]
    obtain ⟨X4, w1, w2, w3⟩ := H_f7 z3 hp
    rw [w1, Option.bind_some, gd_t w2]
    dsimp only
    rw [if_pos h4, if_pos rfl]
    obtain ⟨X5, u1, u2, u3⟩ := H_f8 w3 hp
    have e8 : sDay T tt false 8 p = -4 := by
      rcases F_8 (b := tt) (sh := false) hW (show p < 11 by omega) with e | ⟨e, -⟩
      · exact e
      · exact absurd h4 e
    rw [u1, Option.bind_some, gd_t u2, if_pos e8]
    exact Q_561 u3 hp v2 v3 v4 v5 v6 (v7 + 0)
  · simp only [if_neg h4]
    obtain ⟨a1, a2, a3, a4⟩ := turn_of (b := tt) (sh := false) hW hp h4
    have cn : ∀ X, IC X (T, im, sh) → L_X11_count 3 X = some (tF T 15 0) := fun X c => K_count c 3
    rw [if_pos trivial, H_per z3 hp, Option.bind_some, if_neg (show ¬ sDay T tt false 6 p ≤ aPerson T p 4 from a1), cn X3 z3.1, Option.bind_some, if_neg a2, if_neg a3]
    obtain ⟨X4, w1, w2, w3⟩ := H_f7 z3 hp
    rw [w1, Option.bind_some, gd_t w2]
    dsimp only
    rw [if_neg h4, if_pos a4]
    exact Q_561 w3 hp v2 v3 v4 v5 v6 (v7 + 1)
end HOLD
