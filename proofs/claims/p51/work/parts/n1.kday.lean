/-! The class's calls on a town T, each by itself: what it answers, what it leaves. -/
theorem lp_1 {α β : Type} {n : Nat} {body : α → Option (α ⊕ β)} {x : α} {b : β} (h : body x = some (.inr b)) : lp (n + 1) body x = some b := by
  simp only [lp, h, Option.bind_some]
section KDAY
variable {S S0 X : St} {T : TT} {m : Option TT × (Nat → Sh)}
theorem K_person (c : IC S (T, m)) {j : Nat} (hj : j < tn T) (v : Int32) : L_X11_person (nI j) v S = some (aPerson T j v) := by
  have n8 : tn T ≤ 8 := c.2.1.1
  obtain ⟨hW, cR⟩ := IC_1 c
  have j8 : j < 8 := by omega
  have hk8 := (hW.2.2.2.1 j hj).1
  obtain ⟨⟨q, r1, r2⟩, b1, b2, b3, b4⟩ := cR.2.2.2.1 j hj
  unfold L_X11_person b_X11_person_0 aPerson
  rw [C_nb0 cR.1 n8 hj]
  simp only [Option.bind_some, gd_t (inb_n j8), tn_n (show j < 2 ^ 31 by omega), r1, r2, b1, b2, b3, b4, V_due r2 hk8, if_true]
  repeat' split
  all_goals first | rfl | simp_all [sDue]
theorem K_strength (c : IC S (T, m)) {j : Nat} (hj : j < tn T) {a : Int32} (h1 : -999 ≤ a ∧ a ≤ 999) : L_X11_strength (nI j) a S = some (kStr (tK T j) (tF T 0 j) a) := by
  have n8 : tn T ≤ 8 := c.2.1.1
  obtain ⟨hW, cR⟩ := IC_1 c
  have j8 : j < 8 := by omega
  have hk8 := (hW.2.2.2.1 j hj).1
  obtain ⟨⟨q, r1, r2⟩, -⟩ := cR.2.2.2.1 j hj
  unfold L_X11_strength b_X11_strength_0
  rw [C_nb0 cR.1 n8 hj]
  simp only [Option.bind_some, A_isOut, gd_t (inb_n j8), tn_n (show j < 2 ^ 31 by omega), r1, V_str r2 hk8]
  simp [h1]
theorem K_sum (c : IC S (T, m)) {j : Nat} (hj : j < tn T) : ∃ X, L_X11_sum (nI j) S = some (sDay T tt false 0 j, X) ∧ UpD S X := by
  have n8 : tn T ≤ 8 := c.2.1.1
  obtain ⟨hW, cR⟩ := IC_1 c
  have j8 : j < 8 := by omega
  obtain ⟨X, x1, x2, x3, -⟩ := C_go (Or.inl rfl) hW cR bits_m1
  refine ⟨X, ?_, x2⟩
  unfold L_X11_sum b_X11_sum_0
  rw [C_nb0 cR.1 n8 hj]
  simp only [Option.bind_some, if_true, x1, gd_t (inb_n j8), tn_n (show j < 2 ^ 31 by omega), (C_pick x3 hj).1]
theorem K_sums (c : IC S (T, m)) {v : Int32} (hv : 0 ≤ v ∧ v ≤ 5) : ∃ X, L_X11_sums v S = some (aSums T (sDay T tt false) v, X) ∧ UpD S X := by
  obtain ⟨hW, cR⟩ := IC_1 c
  obtain ⟨X, x1, x2, x3, -⟩ := C_go (Or.inl rfl) hW cR bits_m1
  refine ⟨X, ?_, x2⟩
  unfold L_X11_sums b_X11_sums_0 L_X2_countOf b_X2_countOf_0 aSums
  rw [A_isOut, if_pos hv]
  simp only [Option.bind_some, if_true, x1, C_chose x3, C_sold x3, C_paid x3, C_regret x3]
  repeat' split
  all_goals rfl
theorem K_chain (c : IC S (T, m)) {j : Nat} (hj : j < tn T) : ∃ X, L_X11_chain (nI j) S = some (chn (sDay T tt false 2) 8 (sDay T tt false 2 j), X) ∧ UpD S X := by
  have n8 : tn T ≤ 8 := c.2.1.1
  obtain ⟨hW, cR⟩ := IC_1 c
  obtain ⟨X, x1, x2, x3, -⟩ := C_go (Or.inl rfl) hW cR bits_m1
  refine ⟨X, ?_, x2⟩
  unfold L_X11_chain b_X11_chain_0
  rw [C_nb0 cR.1 n8 hj]
  simp only [Option.bind_some, if_true, x1, C_chain x3 hj]
theorem K_longest (c : IC S (T, m)) : ∃ X, L_X11_longest S = some (mx (fun j => chn (sDay T tt false 2) 8 (sDay T tt false 2 j)) (tn T), X) ∧ UpD S X := by
  have n8 : tn T ≤ 8 := c.2.1.1
  obtain ⟨hW, cR⟩ := IC_1 c
  obtain ⟨X, x1, x2, x3, -⟩ := C_go (Or.inl rfl) hW cR bits_m1
  refine ⟨X, ?_, x2⟩
  have c3 := (C_W x3).2.2.2.2.1
  unfold L_X11_longest b_X11_longest_0
  rw [x1, Option.bind_some]
  refine lp_br _ (fun k => (mx (fun j => chn (sDay T tt false 2) 8 (sDay T tt false 2 j)) k, nI k, X)) (tn T) _ (fun k hk => ?_) ?_ 1000 (by omega)
  · have e1 : ¬ nI (tn T) ≤ nI k := nI_ge hk (by omega)
    simp only [l_X11_longest_16, b_X11_longest_16, c3, if_neg e1, C_chain x3 hk, Option.bind_some, nm, nI_1, mx]
  · simp only [l_X11_longest_16, b_X11_longest_16, c3, if_pos (Int32.le_refl _)]
theorem K_fate (c : IC S (T, m)) {j k : Nat} (hj : j < tn T) (hk : k < 9) : ∃ X, L_X11_fate (nI j) (nI k) S = some (aFate T (sDay T tt false) j (nI k), X) ∧ UpD S X := by
  have n8 : tn T ≤ 8 := c.2.1.1
  obtain ⟨hW, cR⟩ := IC_1 c
  have j8 : j < 8 := by omega
  have hv : 0 ≤ nI k ∧ nI k ≤ 8 := ⟨nI_pos' (by omega), nI_le (b := 8) (by omega) (by decide)⟩
  have hk9 : k = 0 ∨ k = 1 ∨ k = 2 ∨ k = 3 ∨ k = 4 ∨ k = 5 ∨ k = 6 ∨ k = 7 ∨ k = 8 := by omega
  obtain ⟨X, x1, x2, x3, -⟩ := C_go (Or.inl rfl) hW cR bits_m1
  refine ⟨X, ?_, x2⟩
  obtain ⟨-, -, d1, d2, d3, d4, d5⟩ := C_W x3
  obtain ⟨⟨q, r1, r2⟩, -⟩ := d5.2.2.2.1 j hj
  obtain ⟨p0, p1, p2, p3⟩ := C_pick x3 hj
  obtain ⟨s4, s8, s5⟩ := C_sell x3 (show j < 11 by omega)
  have hs : L_X2_fateOf (nI j) (nI k) X = some (aFate T (sDay T tt false) j (nI k)) := by
    have k0 : ∀ s0 : Int32, (s0 = 0 ↔ sDay T tt false 4 j = 0) → b_X2_fateOf_14 (nI j) (nI k) s0 X = some (aFate T (sDay T tt false) j (nI k)) := by
      intro s0 hs0
      unfold b_X2_fateOf_14 aFate
      simp only [C_told x3 hj, d1, gd_t d2, gd_t (inb_n j8), gd_t (inb_n (show j < 11 by omega)), tn_n (show j < 2 ^ 31 by omega), r1, Option.bind_some, p0, p2, p3, V_str r2 (hW.2.2.2.1 j hj).1, C_coinsAt x3 hj, s8, hs0]
      have b2 : (sDay T tt false 2 j < 0) ↔ sDay T tt false 2 j = -4 := by
        rcases F_2 (b := tt) (sh := false) hW hj with e | ⟨u, hu, e⟩
        · rw [e]; decide
        · rw [e]
          exact ⟨fun z => absurd z (nI_pos (by omega)), fun z => by rw [z]; decide⟩
      simp only [b2]
      by_cases z4 : sDay T tt false 4 j = 0
      · by_cases z2 : sDay T tt false 2 j = -4
        all_goals simp only [z4, z2, if_true, if_false]
        all_goals rcases hk9 with rfl | rfl | rfl | rfl | rfl | rfl | rfl | rfl | rfl <;> rfl
      · by_cases z2 : sDay T tt false 2 j = -4
        all_goals simp only [z4, z2, if_true, if_false, (s5 z4).1, (s5 z4).2]
        all_goals rcases hk9 with rfl | rfl | rfl | rfl | rfl | rfl | rfl | rfl | rfl <;> rfl
    unfold L_X2_fateOf b_X2_fateOf_0
    rw [gd_t (inb_n (show j < 11 by omega)), tn_n (show j < 2 ^ 31 by omega), s4]
    by_cases z4 : sDay T tt false 4 j = 0
    · rw [if_pos z4]; exact k0 0 ⟨fun _ => z4, fun _ => rfl⟩
    · rw [if_neg z4]; exact k0 1 ⟨fun z => absurd z (by decide), fun z => absurd z z4⟩
  unfold L_X11_fate b_X11_fate_0
  rw [C_nb0 cR.1 n8 hj]
  simp only [Option.bind_some, if_true, A_isOut, if_pos hv, x1, hs]
theorem K_yes (c : IC S (T, m)) {j : Nat} (hj : j < tn T) : ∃ X, L_X11_yes (nI j) S = some (bts (fun k => decide (sDay (wF T 2 j (nI k)) tt false 1 j = 1)) 24, X) ∧ UpD S X := by
  have n8 : tn T ≤ 8 := c.2.1.1
  obtain ⟨hW, cR⟩ := IC_1 c
  have j8 : j < 8 := by omega
  have j31 : j < 2 ^ 31 := by omega
  obtain ⟨X, x1, x2⟩ := CE_0 c
  unfold L_X11_yes b_X11_yes_0
  rw [C_nb0 cR.1 n8 hj]
  simp only [Option.bind_some, if_true, x1]
  have key := lp_inv (body := l_X11_yes_25) (m := 24) (I := fun k x => x.1 = nI j ∧ x.2.1 = bts (fun k => decide (sDay (wF T 2 j (nI k)) tt false 1 j = 1)) k ∧ x.2.2.1 = nI k ∧ ∃ w, CE S x.2.2.2 (wF T 2 j w)) (Q := fun y => y.1 = bts (fun k => decide (sDay (wF T 2 j (nI k)) tt false 1 j = 1)) 24 ∧ UpD S y.2) (fun k x hk hI => ?_) 1000 0 (nI j, 0, 0, X) (Nat.zero_le _) (by omega) ⟨rfl, rfl, rfl, tF T 2 j, by rw [wF_id]; exact x2⟩
  · obtain ⟨⟨y1, y2⟩, e, e1, e2⟩ := key
    simp only at e1 e2
    subst e1
    exact ⟨y2, e, e2⟩
  · obtain ⟨a1, a2, a3, Z⟩ := x
    obtain ⟨e1, e2, e3, w, e4⟩ := hI
    simp only at e1 e2 e3 e4
    subst e1 e2 e3
    unfold l_X11_yes_25 b_X11_yes_25
    dsimp only
    rcases Nat.lt_or_ge k 24 with hl | hl
    · refine Or.inr ⟨hl, ?_⟩
      have e23 : ¬ (23 : Int32) < nI k := nI_nlt (a := 23) (by omega) (by decide)
      obtain ⟨Y, y1, y2, y3⟩ := C_try (r := 2) (i := j) (v := nI k) e4 (by decide) (okV_2 hl)
      rw [if_neg e23, gd_t (inb_n j8), nm_eq, tn_n j31]
      rw [show (19 + 4 : Nat) = 19 + 2 + 2 from rfl, y1, Option.bind_some, gd_t (inb_n j8), (C_pick y3 hj).2.1]
      unfold b_X11_yes_71
      rcases F_1 (b := tt) (sh := false) y2.2.1 hj with z | z | z <;> rw [z]
      · rw [if_neg (by decide)]
        exact ⟨_, rfl, rfl, by simp only [bts, z]; simp, nI_1 k, nI k, y2⟩
      · rw [if_pos (by decide)]
        exact ⟨_, rfl, rfl, by simp only [bts, z]; simp, nI_1 k, nI k, y2⟩
      · rw [if_pos (by decide)]
        exact ⟨_, rfl, rfl, by simp only [bts, z]; simp, nI_1 k, nI k, y2⟩
    · have : k = 24 := by omega
      subst this
      rw [if_pos (by decide)]
      exact Or.inl ⟨_, rfl, rfl, e4.1⟩
theorem K_moods (c : IC S (T, m)) {j : Nat} (hj : j < tn T) {v : Int32} (hv : 0 ≤ v ∧ v ≤ 1) : ∃ r X, L_X11_moods (nI j) v S = some (r, X) ∧ UpD S X ∧ (if v = 0 then r = cnt (fun k => decide (sDay (wF T 3 j (nI k - 9)) tt false 1 j = 1)) 19 else isL (fun k => decide (sDay (wF T 3 j (nI k - 9)) tt false 1 j = 1)) 0 19 r) := by
  have n8 : tn T ≤ 8 := c.2.1.1
  obtain ⟨hW, cR⟩ := IC_1 c
  have j8 : j < 8 := by omega
  have j31 : j < 2 ^ 31 := by omega
  obtain ⟨X, x1, x2⟩ := CE_0 c
  unfold L_X11_moods b_X11_moods_0
  rw [C_nb0 cR.1 n8 hj, Option.bind_some, if_pos rfl, A_isOut, if_pos hv, Option.bind_some, if_pos rfl, x1, Option.bind_some]
  generalize hf : (fun k => decide (sDay (wF T 3 j (nI k - 9)) tt false 1 j = 1)) = f
  have key := lp_inv (body := l_X11_moods_40) (m := 19) (I := fun k x => x.1 = nI j ∧ x.2.1 = v ∧ x.2.2.1 = cnt (fun i => f (18 - i)) k ∧ isL f (19 - k) 19 x.2.2.2.1 ∧ x.2.2.2.2.1 = 9 - nI k ∧ ∃ w, CE S x.2.2.2.2.2 (wF T 3 j w)) (Q := fun y => UpD S y.2 ∧ if v = 0 then y.1 = cnt f 19 else isL f 0 19 y.1) (fun k x hk hI => ?_) 1000 0 (nI j, v, 0, -4, 9, X) (Nat.zero_le _) (by omega) ⟨rfl, rfl, rfl, isL_n f 19, rfl, tF T 3 j, by rw [wF_id]; exact x2⟩
  · obtain ⟨⟨y1, y2⟩, e, e1, e2⟩ := key
    exact ⟨y1, y2, e, e1, e2⟩
  · obtain ⟨a1, a2, a3, a4, a5, Z⟩ := x
    obtain ⟨e1, e2, e3, e4, e5, w, e6⟩ := hI
    simp only at e1 e2 e3 e4 e5 e6
    subst e1 e2 e3 e5
    unfold l_X11_moods_40 b_X11_moods_40 b_X11_moods_92
    dsimp only
    rcases Nat.lt_or_ge k 19 with hl | hl
    · refine Or.inr ⟨hl, ?_⟩
      obtain ⟨m1, m2, m3, m4, m5, m6⟩ := mood_k ⟨k, hl⟩
      simp only at m1 m2 m3 m4 m5 m6
      obtain ⟨Y, y1, y2, y3⟩ := C_try (r := 3) (i := j) (v := nI (18 - k) - 9) e6 (by decide) (okV_3 ⟨m5, m6⟩)
      rw [if_neg m2, gd_t (inb_n j8), nm_eq, tn_n j31, m4, m3, m1]
      rw [show (19 + 5 : Nat) = 19 + 2 + 3 from rfl, y1, Option.bind_some, gd_t (inb_n j8), (C_pick y3 hj).2.1]
      have fe : f (18 - k) = decide (sDay (wF T 3 j (nI (18 - k) - 9)) tt false 1 j = 1) := by rw [← hf]
      have hL := isL_dn (f := f) (a := 18 - k) (n := 19) (by omega) (by rw [show 18 - k + 1 = 19 - k by omega]; exact e4)
      rcases F_1 (b := tt) (sh := false) y2.2.1 hj with z | z | z <;> rw [z] at fe ⊢
      · have fe2 : f (18 - k) = true := by rw [fe]; decide
        rw [if_neg (by decide)]
        rw [fe2] at hL
        exact ⟨_, rfl, rfl, rfl, by simp only [cnt, fe2]; rfl, by rw [show 19 - (k + 1) = 18 - k by omega]; exact hL, rfl, _, y2⟩
      · have fe2 : f (18 - k) = false := by rw [fe]; decide
        rw [if_pos (by decide)]
        rw [fe2] at hL
        exact ⟨_, rfl, rfl, rfl, by simp only [cnt, fe2]; rfl, by rw [show 19 - (k + 1) = 18 - k by omega]; exact hL, rfl, _, y2⟩
      · have fe2 : f (18 - k) = false := by rw [fe]; decide
        rw [if_pos (by decide)]
        rw [fe2] at hL
        exact ⟨_, rfl, rfl, rfl, by simp only [cnt, fe2]; rfl, by rw [show 19 - (k + 1) = 18 - k by omega]; exact hL, rfl, _, y2⟩
    · have : k = 19 := by omega
      subst this
      rw [if_pos (by decide)]
      unfold b_X11_moods_98
      by_cases z : a2 = 0
      · rw [if_pos z]
        refine Or.inl ⟨_, rfl, e6.1, ?_⟩
        rw [if_pos z]
        exact cnt_rev f 19
      · rw [if_neg z]
        refine Or.inl ⟨_, rfl, e6.1, ?_⟩
        rw [if_neg z]
        exact e4
theorem K_purse (c : IC S (T, m)) {j : Nat} (hj : j < tn T) : ∃ r X, L_X11_purse (nI j) S = some (r, X) ∧ UpD S X ∧ ∃ q, q < 100 ∧ r = nI q := by
  have n8 : tn T ≤ 8 := c.2.1.1
  obtain ⟨hW, cR⟩ := IC_1 c
  have j8 : j < 8 := by omega
  have j31 : j < 2 ^ 31 := by omega
  obtain ⟨X, x1, x2⟩ := CE_0 c
  generalize hc9 : sDay (wF T 4 j 99) tt false 1 j = c9
  unfold L_X11_purse b_X11_purse_0
  obtain ⟨X9, y1, y2, y3⟩ := C_try (r := 4) (i := j) (v := 99) (w := tF T 4 j) (by rw [wF_id]; exact x2) (by decide) (okV_4 (c := 99) (by decide))
  rw [C_nb0 cR.1 n8 hj, Option.bind_some, if_pos rfl, x1, Option.bind_some, gd_t (inb_n j8), nm_eq, tn_n j31]
  rw [show (19 + 6 : Nat) = 19 + 2 + 4 from rfl, y1, Option.bind_some, gd_t (inb_n j8), (C_pick y3 hj).2.1, hc9]
  have key := lp_inv (body := l_X11_purse_56) (m := 99) (I := fun k x => x.1 = nI j ∧ x.2.1 = c9 ∧ x.2.2.1 = nI k ∧ ∃ w, CE S x.2.2.2 (wF T 4 j w)) (Q := fun y => UpD S y.2 ∧ ∃ q, q < 100 ∧ y.1 = nI q) (fun k x hk hI => ?_) 1000 0 (nI j, c9, 0, X9) (Nat.zero_le _) (by omega) ⟨rfl, rfl, rfl, _, y2⟩
  · obtain ⟨⟨y1, y2⟩, e, e1, e2⟩ := key
    exact ⟨y1, y2, e, e1, e2⟩
  · obtain ⟨a1, a2, a3, Z⟩ := x
    obtain ⟨e1, e2, e3, w, e5⟩ := hI
    simp only at e1 e2 e3 e5
    subst e1 e2 e3
    unfold l_X11_purse_56 b_X11_purse_56
    dsimp only
    rcases Nat.lt_or_ge k 99 with hl | hl
    · have e99 : ¬ (99 : Int32) ≤ nI k := nI_ge (b := 99) hl (by decide)
      obtain ⟨Y, y1, y2, y3⟩ := C_try (r := 4) (i := j) (v := nI k) e5 (by decide) (okV_4 (by omega))
      rw [if_neg e99, gd_t (inb_n j8), nm_eq, tn_n j31]
      rw [show (19 + 6 : Nat) = 19 + 2 + 4 from rfl, y1, Option.bind_some, gd_t (inb_n j8), (C_pick y3 hj).2.1]
      by_cases z : sDay (wF T 4 j (nI k)) tt false 1 j = a2
      · rw [if_pos z]
        exact Or.inl ⟨_, rfl, y2.1, k, by omega, rfl⟩
      · rw [if_neg z]
        exact Or.inr ⟨hl, _, rfl, rfl, rfl, nI_1 k, _, y2⟩
    · have : k = 99 := by omega
      subst this
      rw [if_pos (by decide)]
      exact Or.inl ⟨_, rfl, e5.1, 99, by decide, rfl⟩
theorem K_law (c : IC S (T, m)) {k : Nat} (hk : k < 10) : ∃ X, L_X11_law (nI k) S = some (cnt (fun p => decide (sDay T tt false 1 p ≠ sDay (wF T 15 1 (nI k)) tt false 1 p)) (tn T), X) ∧ UpD S X := by
  obtain ⟨hW, cR⟩ := IC_1 c
  have n8 := hW.1
  have hv : 0 ≤ nI k ∧ nI k ≤ 9 := ⟨nI_pos' (by omega), nI_le (b := 9) (by omega) (by decide)⟩
  obtain ⟨X, x1, x2, x3, -⟩ := C_go (Or.inl rfl) hW cR bits_m1
  obtain ⟨Y, y1, y2⟩ := CE_0 (S := X) (T := T) (m := m) (IC_D x2 c)
  obtain ⟨Z, z1, z2, z3⟩ := C_try (r := 15) (i := 1) (w := tF T 15 1) (v := nI k) (by rw [wF_id]; exact y2) (by decide) (okV_15b hk)
  refine ⟨Z, ?_, UpD_tr x2 z2.1⟩
  unfold L_X11_law b_X11_law_0
  rw [A_isOut, if_pos hv, Option.bind_some, if_pos rfl, x1, Option.bind_some, C_choices x3, Option.bind_some, y1, Option.bind_some, gd_t (by decide), nm_eq]
  rw [show (19 + 17 : Nat) = 19 + 2 + 15 from rfl, show (1 : Int32).toNatClampNeg = 1 by decide, z1, Option.bind_some, C_choices z3, Option.bind_some]
  rw [show tn (wF T 15 1 (nI k)) = tn T from rfl, A_who n8 (fun p hp => F_1 hW hp) (fun p hp => F_1 z2.2.1 hp), Option.bind_some, A_bc _ n8, Option.bind_some]
theorem K_guard (c : IC S (T, m)) {s : Int32} (hs : 0 ≤ s ∧ s ≤ ((1 : Int32) <<< (nI (tn T) &&& 31)) - 1) (h0 : cnt (fun p => bt s p && decide (sDay (wF T 15 1 (nI 0)) tt false 1 p ≠ sDay (noP (wF T 15 1 (nI 0))) tt false 1 p)) (tn T) = 0) : ∃ X, L_X11_guard s S = some (0, X) ∧ UpD S X := by
  obtain ⟨hW, cR⟩ := IC_1 c
  have n8 := hW.1
  obtain ⟨X, x1, x2⟩ := CE_0 c
  unfold L_X11_guard b_X11_guard_0
  rw [A_every cR.1, Option.bind_some, A_isOut, if_pos hs, Option.bind_some, if_pos rfl, x1, Option.bind_some]
  have e4 : ∃ w, UpD S X ∧ WT T ∧ plC X 19 T ∧ (repC X 19 (wF T 15 1 w) ∨ repC X 19 (noP (wF T 15 1 w))) := ⟨tF T 15 1, x2.1, hW, x2.2.2.2.2.2.2.2.1, Or.inl (by rw [wF_id]; exact x2.2.2)⟩
  obtain ⟨Y, y1, y2, W, w1, w2, w3, w4, w5⟩ := C_guard e4 (show 0 < 10 by decide)
  have zR : gi (si X (19 + 17) 1 (nI 0)) 1 11 = nI (tk T) := by
    rw [gi_si_n _ _ _ (by decide), (x2.1.1 1 (by decide)).1]
    exact cR.2.2.1
  refine ⟨W, ?_, w3⟩
  have e9 : ¬ (9 : Int32) < nI 0 := by decide
  have hb : l_X11_guard_27 (s, 0, X) = some (.inr (0, W)) := by
    show l_X11_guard_27 (s, nI 0, X) = some (.inr (nI 0, W))
    unfold l_X11_guard_27 b_X11_guard_27
    dsimp only
    rw [if_neg e9, gd_t (by decide), nm_eq, show (1 : Int32).toNatClampNeg = 1 by decide, nm_eq, zR, y1, Option.bind_some, C_choices y2, Option.bind_some, nm_eq, w1, Option.bind_some, C_choices w2, Option.bind_some]
    rw [show tn (wF T 15 1 (nI 0)) = tn T from rfl, show tn (noP (wF T 15 1 (nI 0))) = tn T from rfl, A_who n8 (fun p hp => F_1 (C_W y2).1 hp) (fun p hp => F_1 (C_W w2).1 hp), Option.bind_some]
    have fk : (bts (fun p => decide (sDay (wF T 15 1 (nI 0)) tt false 1 p ≠ sDay (noP (wF T 15 1 (nI 0))) tt false 1 p)) (tn T)) &&& s = 0 := by
      rw [set_no n8]
      intro p hp hb
      have := (cnt_0 (by omega)).mp h0 p hp
      rw [hb.1, hb.2] at this
      cases this
    rw [if_pos fk]
  exact lp_1 (n := 999) hb
theorem K_turn0 (c : IC S (T, m)) : ∃ X, L_X11_turn 0 0 S = some (0, X) ∧ UpD S X := by
  obtain ⟨hW, cR⟩ := IC_1 c
  have n8 := hW.1
  obtain ⟨X, x1, x2, x3, -⟩ := C_go (Or.inl rfl) hW cR bits_m1
  have hs : (0 : Int32) ≤ 0 ∧ (0 : Int32) ≤ ((1 : Int32) <<< (nI (tn T) &&& 31)) - 1 := by
    have a : ∀ p : Fin 9, (0 : Int32) ≤ ((1 : Int32) <<< (nI p.val &&& 31)) - 1 := by decide +kernel
    exact ⟨by decide, a ⟨tn T, by omega⟩⟩
  refine ⟨X, ?_, x2⟩
  unfold L_X11_turn b_X11_turn_0
  rw [A_every cR.1, Option.bind_some, A_isOut, if_pos hs, Option.bind_some, if_pos rfl, A_isOut, if_pos (by decide), Option.bind_some, if_pos rfl, x1, Option.bind_some, C_yes x3, Option.bind_some, if_pos (Int32.and_zero)]
  rfl
theorem K_likely (c : IC S (T, m)) {j : Nat} (hj : j < tn T) {v : Int32} (hv : 0 ≤ v ∧ v ≤ 1) : ∃ X, L_X11_likely (nI j) v S = some (frac (smN T (yesN T ((1 : Int32) <<< (nI j &&& 31))) (2 ^ tm T)) (10 ^ tm T) v, X) ∧ UpD S X := by
  have n8 : tn T ≤ 8 := c.2.1.1
  obtain ⟨hW, cR⟩ := IC_1 c
  obtain ⟨X, x1, x2⟩ := C_expected hW cR (UpD_refl S) ((1 : Int32) <<< (nI j &&& 31)) v
  refine ⟨X, ?_, x2⟩
  unfold L_X11_likely b_X11_likely_0
  rw [C_nb0 cR.1 n8 hj, Option.bind_some, if_pos rfl, A_isOut, if_pos hv, Option.bind_some, if_pos rfl, x1, Option.bind_some]
theorem K_mean (c : IC S (T, m)) {v : Int32} (hv : 0 ≤ v ∧ v ≤ 1) : ∃ X, L_X11_mean v S = some (frac (smN T (yesN T (((1 : Int32) <<< (nI (tn T) &&& 31)) - 1)) (2 ^ tm T)) (10 ^ tm T) v, X) ∧ UpD S X := by
  obtain ⟨hW, cR⟩ := IC_1 c
  obtain ⟨X, x1, x2⟩ := C_expected hW cR (UpD_refl S) (((1 : Int32) <<< (nI (tn T) &&& 31)) - 1) v
  refine ⟨X, ?_, x2⟩
  unfold L_X11_mean b_X11_mean_0
  rw [A_isOut, if_pos hv, Option.bind_some, if_pos rfl, A_every cR.1, Option.bind_some, x1, Option.bind_some]
end KDAY
