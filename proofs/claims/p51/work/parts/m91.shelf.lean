/-! Shelves: keep, row, put, copy, cost. -/
def setS (sh : Nat → Sh) (d : Nat) (w : Sh) : Nat → Sh := fun e => if e = d then w else sh e
section SHELF
variable {S S' X : St} {T : TT} {im : Option TT} {sh : Nat → Sh} {d : Nat}
theorem IC_shelf {w : Sh} (g : IC S (T, im, sh)) (h1 : ∀ a, (a < 19 ∨ 37 ≤ a ∧ a < 55) → gi S' a = gi S a ∧ gr S' a = gr S a) (h2 : ∀ q, q < tp S → gp S' q = gp S q) (h3 : tp S ≤ tp S') (h4 : ∀ e, e < 8 → e ≠ d → gi S' 66 e = gi S 66 e ∧ gr S' 67 e = gr S 67 e ∧ gi S' (70 + 2 * e) = gi S (70 + 2 * e) ∧ gi S' (71 + 2 * e) = gi S (71 + 2 * e)) (h5 : d < 8 → shC S' d w) : IC S' (T, im, setS sh d w) := by
  have hq : ∀ q, q < tp S → gq S' q = gq S q := fun q hq => gq_local (h2 q hq)
  obtain ⟨g0, g1, g2, g3, g4, g5, g6⟩ := g
  have rep : ∀ t T, (t = 1 ∨ t = 37) → WT T → full S t → repC S t T → repC S' t T := by
    intro t T ht hWT hfl h
    have o : ∀ a, t ≤ a → a < t + 18 → gi S' a = gi S a ∧ gr S' a = gr S a := fun a h1' h2' => h1 a (by rcases ht with rfl | rfl <;> omega)
    obtain ⟨a1, a2, a3, a4, a5, a6, a7, a8⟩ := h
    refine ⟨by rw [(o t (by omega) (by omega)).1]; exact a1, by rw [(o t (by omega) (by omega)).1]; exact a2, by rw [(o t (by omega) (by omega)).1]; exact a3, fun p hp => ?_, ?_, ?_, ?_, ?_⟩
    · obtain ⟨⟨q, e1, e2⟩, b1, b2, b3, b4⟩ := a4 p hp
      obtain ⟨q', z, f1, f2, f3⟩ := hfl p (by have := hWT.1; omega)
      have : q' = q := Option.some.inj (f1.symm.trans e1)
      subst this
      refine ⟨⟨q', by rw [(o (t + 1) (by omega) (by omega)).2]; exact e1, by rw [hq q' f3]; exact e2⟩, ?_, ?_, ?_, ?_⟩
      · rw [(o (t + 3) (by omega) (by omega)).1]; exact b1
      · rw [(o (t + 4) (by omega) (by omega)).1]; exact b2
      · rw [(o (t + 5) (by omega) (by omega)).1]; exact b3
      · rw [(o (t + 6) (by omega) (by omega)).1]; exact b4
    · rw [(o (t + 7) (by omega) (by omega)).1, (o (t + 8) (by omega) (by omega)).1, (o (t + 9) (by omega) (by omega)).1, (o (t + 10) (by omega) (by omega)).1]; exact a5
    · rw [(o (t + 11) (by omega) (by omega)).1, (o (t + 12) (by omega) (by omega)).1, (o (t + 13) (by omega) (by omega)).1, (o (t + 14) (by omega) (by omega)).1, (o (t + 15) (by omega) (by omega)).1]; exact a6
    · rw [(o (t + 16) (by omega) (by omega)).1]; exact a7
    · rw [(o (t + 17) (by omega) (by omega)).1]; exact a8
  refine ⟨by omega, g1, rep 1 _ (Or.inl rfl) g1 g3 g2, full_congr (h1 2 (by omega)).2 h2 h3 g3, by rw [(h1 0 (by omega)).1]; exact g4, fun T1 hT => ?_, fun e he => ?_⟩
  · obtain ⟨w1, w2, w3⟩ := g5 T1 hT
    exact ⟨w1, rep 37 _ (Or.inr rfl) w1 w3 w2, full_congr (h1 38 (by omega)).2 h2 h3 w3⟩
  · show shC S' e (if e = d then w else sh e)
    by_cases z : e = d
    · rw [if_pos z, z]; exact h5 (z ▸ he)
    · rw [if_neg z]
      obtain ⟨b1, b2, ⟨q, z1, e1, e2, e3, e4⟩, b4⟩ := g6 e he
      obtain ⟨f1, f2, f3, f4⟩ := h4 e he z
      unfold shC
      rw [f1, f2, f3, f4]
      exact ⟨b1, b2, ⟨q, z1, e1, by rw [hq q e3]; exact e2, by omega, e4⟩, b4⟩
def refS (w : Sh) (want : Nat) : Int32 := if w.1 = 0 then -11 else if w.1 = want then 0 else -12
theorem C_sr (c : IC S (T, im, sh)) (hd : d < 8) {want : Nat} (hw : want < 3) : L_X11_shelfRefusal (nI d) (nI want) S = some (refS (sh d) want) := by
  obtain ⟨b1, b2, -⟩ := c.2.2.2.2.2.2 d hd
  have b2' : (sh d).1 ≤ 2 := b2
  unfold L_X11_shelfRefusal b_X11_shelfRefusal_0 refS
  rw [C_ns0 hd, Option.bind_some, if_pos rfl, gd_t (inb_n hd), tn_n (show d < 2 ^ 31 by omega), b1, gd_t (inb_n hd)]
  have e0 : (nI (sh d).1 = 0) ↔ (sh d).1 = 0 := nI_eq (b := 0) (by omega) (by decide)
  have ew : (nI (sh d).1 = nI want) ↔ (sh d).1 = want := nI_eq (by omega) (by omega)
  simp only [e0, ew]
  repeat' split
  all_goals rfl
theorem C_srN {p : Int32} (bad : p < 0 ∨ nI 8 ≤ p) (w : Int32) : L_X11_shelfRefusal p w S = some (-1) := by
  unfold L_X11_shelfRefusal b_X11_shelfRefusal_0
  rw [C_ns1 bad]
  rfl
theorem ref_v (w : Sh) (k : Nat) : refS w k = -11 ∨ refS w k = -12 ∨ (refS w k = 0 ∧ w.1 = k) := by
  unfold refS
  by_cases h : w.1 = 0
  · rw [if_pos h]; exact Or.inl rfl
  · rw [if_neg h]
    by_cases h2 : w.1 = k
    · rw [if_pos h2]; exact Or.inr (Or.inr ⟨rfl, h2⟩)
    · rw [if_neg h2]; exact Or.inr (Or.inl rfl)
theorem i_le_of {v : Int32} (h : ¬ v < 0) (h2 : v ≤ 100) : ∃ n, n ≤ 100 ∧ v = nI n := by
  obtain ⟨n, hn, e⟩ := in_of (n := 100) rfl (by decide) ⟨Int32.not_lt.mp h, h2⟩
  exact ⟨n, by omega, e⟩
theorem C_begin (hd : d < 8) (s n : Int32) : ∃ Y, L_X8_begin (70 + 2 * d) s n S = some Y ∧ FR (fun a => a = 70 + 2 * d ∨ a = 71 + 2 * d) S Y ∧ gi Y (70 + 2 * d) 0 = s ∧ gi Y (70 + 2 * d) 1 = n ∧ ∀ i, i < 100 → gi Y (71 + 2 * d) i = 0 := by
  unfold L_X8_begin b_X8_begin_0
  rw [nm_eq, nm_eq]
  refine lp_inv (m := 100) (I := fun k x => x.1 = nI k ∧ FR (fun a => a = 70 + 2 * d ∨ a = 71 + 2 * d) S x.2 ∧ gi x.2 (70 + 2 * d) 0 = s ∧ gi x.2 (70 + 2 * d) 1 = n ∧ ∀ i, i < k → gi x.2 (71 + 2 * d) i = 0) (fun k x hk hI => ?_) 1000 0 _ (Nat.zero_le _) (by omega) ⟨rfl, FR_si (k := 70 + 2 * d) (Or.inl rfl) (FR_si (k := 70 + 2 * d) (Or.inl rfl) (FR_refl S) _ _) _ _, ?_, ?_, fun i hi => absurd hi (Nat.not_lt_zero i)⟩
  · obtain ⟨v, Y⟩ := x
    obtain ⟨e1, hF, h0, h1, hN⟩ := hI
    simp only at e1 hF h0 h1 hN
    subst e1
    unfold l_X8_begin_12 b_X8_begin_12
    dsimp only
    rcases Nat.lt_or_ge k 100 with hl | hl
    · refine Or.inr ⟨hl, ?_⟩
      have e : ¬ (100 : Int32) ≤ nI k := nI_ge (b := 100) hl (by decide)
      rw [if_neg e, gd_t (inb_n hl), nm_eq, tn_n (show k < 2 ^ 31 by omega), nI_1, show 70 + 2 * d + 1 = 71 + 2 * d by omega]
      refine ⟨_, rfl, rfl, FR_si (k := 71 + 2 * d) (Or.inr rfl) hF _ _, ?_, ?_, fun i hi => ?_⟩
      · show gi (si Y (71 + 2 * d) k 0) (70 + 2 * d) 0 = s
        rw [gi_si_n _ _ _ (by omega)]; exact h0
      · show gi (si Y (71 + 2 * d) k 0) (70 + 2 * d) 1 = n
        rw [gi_si_n _ _ _ (by omega)]; exact h1
      · show gi (si Y (71 + 2 * d) k 0) (71 + 2 * d) i = 0
        rw [gi_si_s]
        by_cases z : i = k
        · subst z; rw [upd_s]
        · rw [upd_n _ _ z]; exact hN i (by omega)
    · have : k = 100 := by omega
      subst this
      rw [if_pos (by decide)]
      exact Or.inl ⟨_, rfl, hF, h0, h1, hN⟩
  · rw [gi_si_s, upd_n _ _ (by decide), gi_si_s, upd_s]
  · rw [gi_si_s, upd_s]
theorem nI_100 {d v : Nat} (hd : d < 8) (hv : v < 100) : (100 : Int32) * nI d + nI v = nI (100 * d + v) := by
  have : (100 : Int32) * nI d = nI (100 * d) := by
    have a : ∀ k : Fin 8, (100 : Int32) * nI k.val = nI (100 * k.val) := by decide
    exact a ⟨d, hd⟩
  rw [this, nI_add]
theorem gi_sl (S : St) (k i : Nat) (v : Int64) (a : Nat) : gi (sl S k i v) a = gi S a := rfl
theorem updL_s (f : Nat → Int64) (i : Nat) (v : Int64) : vp_updL f i v i = v := by simp [vp_updL]
theorem updL_n (f : Nat → Int64) {i j : Nat} (v : Int64) (h : j ≠ i) : vp_updL f i v j = f j := by simp [vp_updL, h]
end SHELF
