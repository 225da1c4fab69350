/-! HOLDS: what was counted. -/
section HOLDC
variable {Y Y' S : St} {T : TT} {im : Option TT} {sh : Nat → Sh} {q0 : Nat} {g : Nat → Int32} {xL : Nat} {xs : Nat → Int32} {p j : Nat}
theorem H_sums (h : HS T im sh q0 g Y) {v : Int32} (hv : 0 ≤ v ∧ v ≤ 5) : ∃ X, L_X11_sums v Y = some (aSums T (sDay T tt false) v, X) ∧ lq Y X = true ∧ HS T im sh q0 g X := by
  obtain ⟨X, x1, x2⟩ := K_sums h.1 hv
  exact ⟨X, x1, HS_D h x2⟩
theorem cnt_c {f g : Nat → Bool} : ∀ {n : Nat}, (∀ k, k < n → f k = g k) → cnt f n = cnt g n := by
  intro n
  induction n with
  | zero => intro _; rfl
  | succ n ih =>
    intro h
    show (if f n then cnt f n + 1 else cnt f n) = (if g n then cnt g n + 1 else cnt g n)
    rw [ih (fun k hk => h k (by omega)), h n (by omega)]
theorem cnt_none {f : Nat → Bool} : ∀ {n : Nat}, (∀ k, k < n → f k = false) → cnt f n = 0 := by
  intro n
  induction n with
  | zero => intro _; rfl
  | succ n ih =>
    intro h
    show (if f n then cnt f n + 1 else cnt f n) = 0
    rw [ih (fun k hk => h k (by omega)), h n (by omega)]
    rfl
theorem Q_626 (h : HS T im sh q0 g Y) (g1 : g 1 = cnt (fun p => decide (sDay T tt false 1 p = 1)) (tn T)) (g2 : g 2 = cnt (fun p => decide (sDay T tt false 1 p = -1)) (tn T)) (g0 : g 0 = cnt (fun p => decide (sDay T tt false 1 p = 0)) (tn T)) :
    ∃ X, b_L_holds_626 xL xs (sm (fun p => sCoins T (sDay T tt false) p 23) (tn T)) (sm (tF T 4) (tn T)) (sm (wP (sDay T tt false)) (tn T)) (cnt (fun p => decide (0 ≤ sDay T tt false 2 p)) (tn T)) (sm (sDay T tt false 3) (tn T)) (cnt (fun p => decide (sDay T tt false 4 p ≠ 0)) (tn T)) q0 Y = lp 1000 (l_L_holds_758 xL xs) (FP.dconst0, 0, X) ∧ HS T im sh q0 g X := by
  have hW : WT T := h.1.2.1
  unfold b_L_holds_626
  rw [if_pos (coins_end hW)]
  obtain ⟨X1, x1, x2, x3⟩ := H_sums h (v := 0) (by decide)
  rw [x1, Option.bind_some, gd_t x2]
  dsimp only
  rw [ld_i x3.2.2.1 (by decide), tz1, x3.2.2.2.1, g1, if_pos (show aSums T (sDay T tt false) 0 = cnt (fun p => decide (sDay T tt false 1 p = 1)) (tn T) from rfl)]
  obtain ⟨X2, y1, y2, y3⟩ := H_sums x3 (v := 1) (by decide)
  rw [y1, Option.bind_some, gd_t y2]
  dsimp only
  rw [ld_i y3.2.2.1 (by decide), tz2, y3.2.2.2.1, g2, if_pos (show aSums T (sDay T tt false) 1 = cnt (fun p => decide (sDay T tt false 1 p = -1)) (tn T) from rfl)]
  obtain ⟨X3, z1, z2, z3⟩ := H_sums y3 (v := 2) (by decide)
  rw [z1, Option.bind_some, gd_t z2]
  dsimp only
  rw [ld_i z3.2.2.1 (by decide), tz0, z3.2.2.2.1, g0, if_pos (show aSums T (sDay T tt false) 2 = cnt (fun p => decide (sDay T tt false 1 p = 0)) (tn T) from rfl)]
  obtain ⟨X4, w1, w2, w3⟩ := H_sums z3 (v := 3) (by decide)
  rw [w1, Option.bind_some, gd_t w2, if_pos (show aSums T (sDay T tt false) 3 = cnt (fun p => decide (0 ≤ sDay T tt false 2 p)) (tn T) from rfl)]
  obtain ⟨X5, u1, u2, u3⟩ := H_sums w3 (v := 4) (by decide)
  rw [u1, Option.bind_some, gd_t u2, if_pos (show aSums T (sDay T tt false) 4 = sm (sDay T tt false 3) (tn T) from rfl)]
  obtain ⟨X6, t1, t2, t3⟩ := H_sums u3 (v := 5) (by decide)
  rw [t1, Option.bind_some, gd_t t2, if_pos (show aSums T (sDay T tt false) 5 = cnt (fun p => decide (sDay T tt false 4 p ≠ 0)) (tn T) from rfl)]
  obtain ⟨X7, s1, s2⟩ := K_longest t3.1
  obtain ⟨s3, s4⟩ := HS_D t3 s2
  have cn : L_X11_count 4 X7 = some (tF T 15 1) := K_count s4.1 4
  obtain ⟨f, f1, f2⟩ := hW.2.2.2.2.2.2.2.2.2.1
  obtain ⟨X8, r1, r2⟩ := K_law s4.1 f1
  obtain ⟨r3, r4⟩ := HS_D s4 r2
  have law : L_X11_law (tF T 15 1) X7 = some (0, X8) := by
    rw [f2, r1, ← f2, wF_id, cnt_none (fun k _ => decide_eq_false (fun z => z rfl))]
  rw [s1, Option.bind_some, gd_t s3]
  dsimp only
  rw [s4.2.1.1, if_neg (longest_b (b := tt) (sh := false) hW), cn, Option.bind_some, law, Option.bind_some, gd_t r3, if_pos rfl]
  exact ⟨X8, rfl, r4⟩
/-- the three counts of the round p -/
def G3 (T : TT) (p : Nat) (g : Nat → Int32) : Prop := g 1 = cnt (fun p => decide (sDay T tt false 1 p = 1)) p ∧ g 2 = cnt (fun p => decide (sDay T tt false 1 p = -1)) p ∧ g 0 = cnt (fun p => decide (sDay T tt false 1 p = 0)) p
theorem G3_s (h : HS T im sh q0 g Y) (hp : p < tn T) (k : G3 T p g) {t : Nat} (t1 : t = 1 ↔ sDay T tt false 1 p = 1) (t2 : t = 2 ↔ sDay T tt false 1 p = -1) (t0 : t = 0 ↔ sDay T tt false 1 p = 0) : G3 T (p + 1) (upd g t (g t + 1)) := by
  obtain ⟨k1, k2, k0⟩ := k
  have one : ∀ (c : Int32) (i : Nat), g i = cnt (fun p => decide (sDay T tt false 1 p = c)) p → (t = i ↔ sDay T tt false 1 p = c) → upd g t (g t + 1) i = cnt (fun p => decide (sDay T tt false 1 p = c)) (p + 1) := by
    intro c i e z
    show _ = (if decide (sDay T tt false 1 p = c) = true then cnt (fun p => decide (sDay T tt false 1 p = c)) p + 1 else cnt (fun p => decide (sDay T tt false 1 p = c)) p)
    by_cases w : t = i
    · subst w
      rw [upd_s, if_pos (decide_eq_true (z.mp rfl)), e]
    · rw [upd_n _ _ (fun y => w y.symm), if_neg (fun y => w (z.mpr (of_decide_eq_true y))), e]
  exact ⟨one 1 1 k1 t1, one (-1) 2 k2 t2, one 0 0 k0 t0⟩
/-- the first loop, when what comes behind it answers 1 -/
theorem H_loop (hfin : ∀ X, (∃ g, HS T im sh q0 g X) → ∃ Z, lp 1000 (l_L_holds_758 xL xs) (FP.dconst0, 0, X) = some (1, Z)) (h : HS T im sh q0 (fun _ => 0) S) : ∃ Z, lp 1000 (l_L_holds_43 xL xs) (0, sm (tF T 4) (tn T), 0, 0, 0, 0, q0, 0, S) = some (1, Z) := by
  have hW : WT T := h.1.2.1
  have n8 := hW.1
  have key := lp_inv (body := l_L_holds_43 xL xs) (I := fun p x => ∃ Y g, x = (sm (fun p => sCoins T (sDay T tt false) p 23) p, sm (tF T 4) (tn T), sm (wP (sDay T tt false)) p, cnt (fun p => decide (0 ≤ sDay T tt false 2 p)) p, sm (sDay T tt false 3) p, cnt (fun p => decide (sDay T tt false 4 p ≠ 0)) p, q0, nI p, Y) ∧ HS T im sh q0 g Y ∧ G3 T p g)
    (Q := fun r => r.1 = 1) (m := tn T) (fun p x hn hI => by
      obtain ⟨Y, g, rfl, hY, k⟩ := hI
      unfold l_L_holds_43
      dsimp only
      rcases Nat.lt_or_ge p (tn T) with nj | nj
      · right
        obtain ⟨t, t3, te, t1, t2, t0⟩ := HS_row hY nj
        obtain ⟨X, x1, x2⟩ := Q_43 (xL := xL) (xs := xs) hY nj (sm (fun p => sCoins T (sDay T tt false) p 23) p) (sm (tF T 4) (tn T)) (sm (wP (sDay T tt false)) p) (cnt (fun p => decide (0 ≤ sDay T tt false 2 p)) p) (sm (sDay T tt false 3) p) (cnt (fun p => decide (sDay T tt false 4 p ≠ 0)) p) t3 te
        refine ⟨nj, _, x1, X, _, ?_, x2, G3_s hY nj k t1 t2 t0⟩
        have a1 : (if 0 ≤ sDay T tt false 2 p then cnt (fun p => decide (0 ≤ sDay T tt false 2 p)) p + 1 else cnt (fun p => decide (0 ≤ sDay T tt false 2 p)) p) = cnt (fun p => decide (0 ≤ sDay T tt false 2 p)) (p + 1) := by
          show _ = (if decide (0 ≤ sDay T tt false 2 p) = true then _ else _)
          by_cases z : 0 ≤ sDay T tt false 2 p
          · rw [if_pos z, if_pos (decide_eq_true z)]
          · rw [if_neg z, if_neg (fun y => z (of_decide_eq_true y))]
        have a2 : cnt (fun p => decide (sDay T tt false 4 p ≠ 0)) p + (if sDay T tt false 4 p = 0 then 0 else 1) = cnt (fun p => decide (sDay T tt false 4 p ≠ 0)) (p + 1) := by
          show _ = (if decide (sDay T tt false 4 p ≠ 0) = true then _ else _)
          by_cases z : sDay T tt false 4 p = 0
          · rw [if_pos z, if_neg (show ¬ decide (sDay T tt false 4 p ≠ 0) = true from fun y => (of_decide_eq_true y) z), Int32.add_zero]
          · rw [if_neg z, if_pos (decide_eq_true z)]
        rw [a1, a2]
        rfl
      · left
        obtain rfl : p = tn T := by omega
        obtain ⟨X, x1, x2⟩ := Q_626 (xL := xL) (xs := xs) hY k.1 k.2.1 k.2.2
        obtain ⟨Z, z1⟩ := hfin X ⟨g, x2⟩
        unfold b_L_holds_43
        rw [hY.2.1.1, if_pos (Int32.le_refl _), x1, z1]
        exact ⟨_, rfl, rfl⟩)
  obtain ⟨r, r1, r2⟩ := key 1000 0 (0, sm (tF T 4) (tn T), 0, 0, 0, 0, q0, nI 0, S) (Nat.zero_le _) (by omega) ⟨S, _, rfl, h, rfl, rfl, rfl⟩
  obtain ⟨r0, X⟩ := r
  dsimp only at r2
  subst r2
  exact ⟨X, r1⟩
end HOLDC
