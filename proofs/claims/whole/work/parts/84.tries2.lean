/-! moods, purse, bestRate, bestOpen. -/
theorem mood_k : ∀ k : Fin 19, (9 : Int32) - nI k.val = nI (18 - k.val) - 9 ∧ ¬ ((9 : Int32) - nI k.val < -9) ∧ (9 : Int32) - nI k.val + (-1) = 9 - nI (k.val + 1) ∧ (9 : Int32) - nI k.val + 9 = nI (18 - k.val) ∧ -9 ≤ nI (18 - k.val) - (9 : Int32) ∧ nI (18 - k.val) - (9 : Int32) ≤ 9 := by decide +kernel
theorem mood_u : ∀ k : Fin 19, ¬ ((9 : Int32) < nI k.val - 9) ∧ nI k.val - (9 : Int32) + 1 = nI (k.val + 1) - 9 ∧ nI k.val - (9 : Int32) + 9 = nI k.val ∧ -9 ≤ nI k.val - (9 : Int32) ∧ nI k.val - (9 : Int32) ≤ 9 := by decide +kernel
/-- rates: the best one, what is paid then -/
def bstR (f : Nat → Int32) : Nat → Int32 × Int32
  | 0 => (1, -1)
  | k + 1 => if (bstR f k).2 < f k then (nI (k + 1), f k) else bstR f k
def bstO (f : Nat → Int32) : Nat → Int32 × Int32
  | 0 => (0, 9)
  | k + 1 => if f k < (bstO f k).2 then (nI k, f k) else bstO f k
section CALLS5
variable {S S0 X : St} {T : TT} {m : Option TT × (Nat → Sh)}
theorem J_moods (c : IC S (T, m)) (g : IR S (T, m)) (p v : Int32) : JJ S (L_X11_moods p v) (L_X12_moods p v) := by
  have n8 : tn T ≤ 8 := c.2.1.1
  obtain ⟨hW, cR⟩ := IC_1 c
  rcases ix_split p (tn T) (by omega) with ⟨j, hj, rfl⟩ | bad
  · have j8 : j < 8 := by omega
    have j31 : j < 2 ^ 31 := by omega
    by_cases hv : 0 ≤ v ∧ v ≤ 1
    · obtain ⟨X, x1, x2⟩ := CE_0 c
      refine JJ_P c g (fun r => if v = 0 then r = cnt (fun k => decide (sDay (wF T 3 j (nI k - 9)) tt false 1 j = 1)) 19 else isL (fun k => decide (sDay (wF T 3 j (nI k - 9)) tt false 1 j = 1)) 0 19 r) (fun r r' h h' => ?_) ?_ (fun S1 g1 => ?_)
      · by_cases z : v = 0
        · simp only [if_pos z] at h h'; exact h.trans h'.symm
        · simp only [if_neg z] at h h'; exact isL_u h h'
      · unfold L_X11_moods b_X11_moods_0
        rw [C_nb0 cR.1 n8 hj, Option.bind_some, if_pos rfl, A_isOut, if_pos hv, Option.bind_some, if_pos rfl, x1, Option.bind_some]
        generalize hf : (fun k => decide (sDay (wF T 3 j (nI k - 9)) tt false 1 j = 1)) = f
        have key := lp_inv (body := l_X11_moods_40) (m := 19) (I := fun k x => x.1 = nI j ∧ x.2.1 = v ∧ x.2.2.1 = cnt (fun i => f (18 - i)) k ∧ isL f (19 - k) 19 x.2.2.2.1 ∧ x.2.2.2.2.1 = 9 - nI k ∧ ∃ w, CE S x.2.2.2.2.2 (wF T 3 j w)) (Q := fun y => UpD S y.2 ∧ if v = 0 then y.1 = cnt f 19 else isL f 0 19 y.1) (fun k x hk hI => ?_) 1000 0 (nI j, v, 0, -4, 9, X) (Nat.zero_le _) (by omega) ⟨rfl, rfl, rfl, isL_n f 19, (show (9 : Int32) = 9 - nI 0 by decide), tF T 3 j, by rw [wF_id]; exact x2⟩
        · obtain ⟨⟨y1, y2⟩, e, e1, e2⟩ := key
          exact ⟨y1, y2, e, e1, e2⟩
        · obtain ⟨a1, a2, a3, a4, a5, Z⟩ := x
          obtain ⟨e1, e2, e3, e4, e5, w, e6⟩ := hI
          simp only at e1 e2 e3 e4 e5 e6
          subst e1 e2 e3 e5
          unfold l_X11_moods_40 b_X11_moods_40 b_X11_moods_92
          dsimp only
          rcases Nat.lt_or_ge k 19 with hl | hl
          · refine Or.inr ⟨hl, ?_⟩
            obtain ⟨m1, m2, m3, m4, m5, m6⟩ := mood_k ⟨k, hl⟩
            simp only at m1 m2 m3 m4 m5 m6
            obtain ⟨Y, y1, y2, y3⟩ := C_try (r := 3) (i := j) (v := nI (18 - k) - 9) e6 (by decide) (okV_3 ⟨m5, m6⟩)
            rw [if_neg m2, gd_t (inb_n j8), nm_eq, tn_n j31, m4, m3, m1]
            rw [show (19 + 5 : Nat) = 19 + 2 + 3 from rfl, y1, Option.bind_some, gd_t (inb_n j8), (C_pick y3 hj).2.1]
            have fe : f (18 - k) = decide (sDay (wF T 3 j (nI (18 - k) - 9)) tt false 1 j = 1) := by rw [← hf]
            have hL := isL_dn (f := f) (a := 18 - k) (n := 19) (by omega) (by rw [show 18 - k + 1 = 19 - k by omega]; exact e4)
            rcases F_1 (b := tt) (sh := false) y2.2.1 hj with z | z | z <;> rw [z] at fe ⊢
            · have fe2 : f (18 - k) = true := by rw [fe]; decide
              rw [if_neg (by decide)]
              rw [fe2] at hL
              exact ⟨_, rfl, rfl, rfl, by simp only [cnt, fe2]; rfl, by rw [show 19 - (k + 1) = 18 - k by omega]; exact hL, rfl, _, y2⟩
            · have fe2 : f (18 - k) = false := by rw [fe]; decide
              rw [if_pos (by decide)]
              rw [fe2] at hL
              exact ⟨_, rfl, rfl, rfl, by simp only [cnt, fe2]; rfl, by rw [show 19 - (k + 1) = 18 - k by omega]; exact hL, rfl, _, y2⟩
            · have fe2 : f (18 - k) = false := by rw [fe]; decide
              rw [if_pos (by decide)]
              rw [fe2] at hL
              exact ⟨_, rfl, rfl, rfl, by simp only [cnt, fe2]; rfl, by rw [show 19 - (k + 1) = 18 - k by omega]; exact hL, rfl, _, y2⟩
          · have : k = 19 := by omega
            subst this
            rw [if_pos (by decide)]
            unfold b_X11_moods_98
            by_cases z : a2 = 0
            · rw [if_pos z]
              refine Or.inl ⟨_, rfl, e6.1, ?_⟩
              rw [if_pos z]
              exact cnt_rev f 19
            · rw [if_neg z]
              refine Or.inl ⟨_, rfl, e6.1, ?_⟩
              rw [if_neg z]
              exact e4
      · have e := RE_0 g1
        have o3 := (ok_of hW hj).2.1
        unfold L_X12_moods b_X12_moods_0
        rw [nm_eq, R_one1 e.2.2.1.1 n8 hj, Option.bind_some, if_neg (by decide), R_in 0 1, if_pos hv, Option.bind_some, if_neg (by decide), gd_t (inb_n j8), tn_n j31, (e.2.2.1.2.2.2.1 j hj).2.2.2.2.1]
        generalize hf : (fun k => decide (sDay (wF T 3 j (nI k - 9)) tt false 1 j = 1)) = f
        have key := lp_inv (body := l_X12_moods_43) (m := 19) (I := fun k x => x.1 = nI j ∧ x.2.1 = v ∧ x.2.2.1 = tF T 3 j ∧ x.2.2.2.1 = cnt f k ∧ isL f 0 k x.2.2.2.2.1 ∧ x.2.2.2.2.2.1 = nI k - 9 ∧ ∃ w, RE S1 x.2.2.2.2.2.2 (wF T 3 j w)) (Q := fun y => RE S1 y.2 T ∧ if v = 0 then y.1 = cnt f 19 else isL f 0 19 y.1) (fun k x hk hI => ?_) 1000 0 (nI j, v, tF T 3 j, 0, -4, -9, si S1 136 28 0) (Nat.zero_le _) (by omega) ⟨rfl, rfl, rfl, rfl, isL_0 f, (show (-9 : Int32) = nI 0 - 9 by decide), tF T 3 j, by rw [wF_id]; exact e⟩
        · obtain ⟨⟨y1, y2⟩, e, e1, e2⟩ := key
          exact ⟨y1, y2, e, e1, e2⟩
        · obtain ⟨a1, a2, a3, a4, a5, a6, Z⟩ := x
          obtain ⟨e1, e2, e3, e4, e5, e6, w, e7⟩ := hI
          simp only at e1 e2 e3 e4 e5 e6 e7
          subst e1 e2 e3 e4 e6
          unfold l_X12_moods_43 b_X12_moods_43
          dsimp only
          rcases Nat.lt_or_ge k 19 with hl | hl
          · refine Or.inr ⟨hl, ?_⟩
            obtain ⟨m1, m2, m3, m4, m5⟩ := mood_u ⟨k, hl⟩
            simp only at m1 m2 m3 m4 m5
            obtain ⟨Y, y1, y2, y3⟩ := R_try1 (r := 3) (i := j) (v := nI k - 9) e7 (by decide) (okV_3 ⟨m4, m5⟩)
            rw [if_neg m1, gd_t (inb_n j8), nm_eq, tn_n j31, R_choice y1 y3 hj, Option.bind_some]
            unfold b_X12_moods_72 b_X12_moods_86 b_X12_moods_107 b_X12_moods_109
            dsimp only
            have fe : f k = decide (sDay (wF T 3 j (nI k - 9)) tt false 1 j = 1) := by rw [← hf]
            have hL := isL_up (f := f) (k := k) (r := a5) (by omega) e5
            by_cases z : sDay (wF T 3 j (nI k - 9)) tt false 1 j = 1
            · have fe2 : f k = true := by rw [fe, z]; decide
              rw [if_pos z, if_neg (by decide), if_neg (by decide), m2, m3]
              rw [fe2] at hL
              by_cases z5 : 0 ≤ a5
              · rw [if_pos z5]
                rw [if_neg (fun y => absurd y.2 (Int32.not_lt.mpr z5))] at hL
                exact ⟨_, rfl, rfl, rfl, rfl, by simp only [cnt, fe2]; rfl, hL, rfl, _, y2⟩
              · rw [if_neg z5]
                rw [if_pos ⟨rfl, Int32.not_le.mp z5⟩] at hL
                exact ⟨_, rfl, rfl, rfl, rfl, by simp only [cnt, fe2]; rfl, hL, rfl, _, y2⟩
            · have fe2 : f k = false := by rw [fe]; simp [z]
              rw [if_neg z, if_pos rfl, if_pos rfl, m2, Int32.add_zero]
              rw [fe2, if_neg (fun y => absurd y.1 (by decide))] at hL
              exact ⟨_, rfl, rfl, rfl, rfl, by simp only [cnt, fe2]; rfl, hL, rfl, _, y2⟩
          · have : k = 19 := by omega
            subst this
            rw [if_pos (by decide)]
            unfold b_X12_moods_117
            rw [gd_t (inb_n j8), nm_eq, tn_n j31]
            have bk := R_back1 (r := 3) e7 (by decide) o3
            by_cases z : a2 = 0
            · rw [if_pos z]
              refine Or.inl ⟨_, rfl, bk, ?_⟩
              rw [if_pos z]
            · rw [if_neg z]
              refine Or.inl ⟨_, rfl, bk, ?_⟩
              rw [if_neg z]
              exact e5
    · refine JJ_D c g (-1) ⟨S, ?_, UpD_refl S⟩ (fun S1 g1 => ⟨_, ?_, RE_0 g1⟩)
      · unfold L_X11_moods b_X11_moods_0
        rw [C_nb0 cR.1 n8 hj, Option.bind_some, if_pos rfl, A_isOut, if_neg hv]
        rfl
      · unfold L_X12_moods b_X12_moods_0
        rw [nm_eq, R_one1 (RE_0 g1).2.2.1.1 n8 hj, Option.bind_some, if_neg (by decide), R_in 0 1, if_neg hv]
        rfl
  · refine JJ_D c g (-1) ⟨S, ?_, UpD_refl S⟩ (fun S1 g1 => ⟨_, ?_, RE_0 g1⟩)
    · unfold L_X11_moods b_X11_moods_0
      rw [C_nb1 cR.1 bad]
      rfl
    · unfold L_X12_moods b_X12_moods_0
      rw [nm_eq, R_one0 (RE_0 g1).2.2.1.1 n8 bad]
      rfl
theorem J_purse (c : IC S (T, m)) (g : IR S (T, m)) (p : Int32) : JJ S (L_X11_purse p) (L_X12_purse p) := by
  have n8 : tn T ≤ 8 := c.2.1.1
  obtain ⟨hW, cR⟩ := IC_1 c
  rcases ix_split p (tn T) (by omega) with ⟨j, hj, rfl⟩ | bad
  · have j8 : j < 8 := by omega
    have j31 : j < 2 ^ 31 := by omega
    obtain ⟨X, x1, x2⟩ := CE_0 c
    generalize hc9 : sDay (wF T 4 j 99) tt false 1 j = c9
    have hf99 : (fun k => decide (sDay (wF T 4 j (nI k)) tt false 1 j = c9)) 99 = true := by
      simp only [decide_eq_true_eq]
      exact hc9
    refine JJ_P c g (isL (fun k => decide (sDay (wF T 4 j (nI k)) tt false 1 j = c9)) 0 100) (fun r r' h h' => isL_u h h') ?_ (fun S1 g1 => ?_)
    · unfold L_X11_purse b_X11_purse_0
      obtain ⟨X9, y1, y2, y3⟩ := C_try (r := 4) (i := j) (v := 99) (w := tF T 4 j) (by rw [wF_id]; exact x2) (by decide) (okV_4 (c := 99) (by decide))
      rw [C_nb0 cR.1 n8 hj, Option.bind_some, if_pos rfl, x1, Option.bind_some, gd_t (inb_n j8), nm_eq, tn_n j31]
      rw [show (19 + 6 : Nat) = 19 + 2 + 4 from rfl, y1, Option.bind_some, gd_t (inb_n j8), (C_pick y3 hj).2.1, hc9]
      generalize hf : (fun k => decide (sDay (wF T 4 j (nI k)) tt false 1 j = c9)) = f at hf99 ⊢
      have key := lp_inv (body := l_X11_purse_56) (m := 99) (I := fun k x => x.1 = nI j ∧ x.2.1 = c9 ∧ x.2.2.1 = nI k ∧ (∀ i, i < k → f i = false) ∧ ∃ w, CE S x.2.2.2 (wF T 4 j w)) (Q := fun y => UpD S y.2 ∧ isL f 0 100 y.1) (fun k x hk hI => ?_) 1000 0 (nI j, c9, 0, X9) (Nat.zero_le _) (by omega) ⟨rfl, rfl, rfl, fun i hi => absurd hi (Nat.not_lt_zero i), _, y2⟩
      · obtain ⟨⟨y1, y2⟩, e, e1, e2⟩ := key
        exact ⟨y1, y2, e, e1, e2⟩
      · obtain ⟨a1, a2, a3, Z⟩ := x
        obtain ⟨e1, e2, e3, e4, w, e5⟩ := hI
        simp only at e1 e2 e3 e4 e5
        subst e1 e2 e3
        unfold l_X11_purse_56 b_X11_purse_56
        dsimp only
        rcases Nat.lt_or_ge k 99 with hl | hl
        · have e99 : ¬ (99 : Int32) ≤ nI k := nI_ge (b := 99) hl (by decide)
          obtain ⟨Y, y1, y2, y3⟩ := C_try (r := 4) (i := j) (v := nI k) e5 (by decide) (okV_4 (by omega))
          rw [if_neg e99, gd_t (inb_n j8), nm_eq, tn_n j31]
          rw [show (19 + 6 : Nat) = 19 + 2 + 4 from rfl, y1, Option.bind_some, gd_t (inb_n j8), (C_pick y3 hj).2.1]
          have fe : f k = decide (sDay (wF T 4 j (nI k)) tt false 1 j = a2) := by rw [← hf]
          by_cases z : sDay (wF T 4 j (nI k)) tt false 1 j = a2
          · rw [if_pos z]
            exact Or.inl ⟨_, rfl, y2.1, Or.inl ⟨k, Nat.zero_le _, by omega, by rw [fe]; simp [z], fun i _ hi => e4 i hi, rfl⟩⟩
          · rw [if_neg z]
            refine Or.inr ⟨hl, _, rfl, rfl, rfl, nI_1 k, fun i hi => ?_, _, y2⟩
            rcases Nat.eq_or_lt_of_le (Nat.le_of_lt_succ hi) with y | y
            · rw [y, fe]; simp [z]
            · exact e4 i y
        · have : k = 99 := by omega
          subst this
          rw [if_pos (by decide)]
          exact Or.inl ⟨_, rfl, e5.1, Or.inl ⟨99, by decide, by decide, hf99, fun i _ hi => e4 i hi, rfl⟩⟩
    · have e := RE_0 g1
      have o4 := (ok_of hW hj).2.2
      unfold L_X12_purse b_X12_purse_0
      rw [nm_eq, R_one1 e.2.2.1.1 n8 hj, Option.bind_some, if_neg (by decide), gd_t (inb_n j8), gd_t (inb_n j8), nm_eq, tn_n j31, (e.2.2.1.2.2.2.1 j hj).2.2.2.2.2]
      obtain ⟨Y9, z1, z2, z3⟩ := R_try1 (r := 4) (i := j) (v := 99) (w := tF T 4 j) (by rw [wF_id]; exact e) (by decide) (okV_4 (c := 99) (by decide))
      rw [R_choice z1 z3 hj, Option.bind_some, hc9]
      generalize hf : (fun k => decide (sDay (wF T 4 j (nI k)) tt false 1 j = c9)) = f at hf99 ⊢
      have key := lp_inv (body := l_X12_purse_42) (m := 100) (I := fun k x => x.1 = nI j ∧ x.2.1 = tF T 4 j ∧ x.2.2.1 = c9 ∧ ((x.2.2.2.1 = -1 ∧ ∀ i, i < k → f i = false) ∨ ¬ x.2.2.2.1 < 0 ∧ isL f 0 100 x.2.2.2.1) ∧ x.2.2.2.2.1 = nI k ∧ ∃ w, RE S1 x.2.2.2.2.2 (wF T 4 j w)) (Q := fun y => RE S1 y.2 T ∧ isL f 0 100 y.1) (fun k x hk hI => ?_) 1000 0 (nI j, tF T 4 j, c9, -1, 0, Y9) (Nat.zero_le _) (by omega) ⟨rfl, rfl, rfl, Or.inl ⟨rfl, fun i hi => absurd hi (Nat.not_lt_zero i)⟩, rfl, _, z2⟩
      · obtain ⟨⟨y1, y2⟩, e, e1, e2⟩ := key
        exact ⟨y1, y2, e, e1, e2⟩
      · obtain ⟨a1, a2, a3, a4, a5, Z⟩ := x
        obtain ⟨e1, e2, e3, e4, e5, w, e6⟩ := hI
        simp only at e1 e2 e3 e4 e5 e6
        subst e1 e2 e3 e5
        unfold l_X12_purse_42 b_X12_purse_42
        dsimp only
        have bk := R_back1 (r := 4) e6 (by decide) o4
        rcases e4 with ⟨e4, e7⟩ | ⟨e4, e7⟩
        · subst e4
          rcases Nat.lt_or_ge k 100 with hl | hl
          · have e99 : ¬ (99 : Int32) < nI k := nI_nlt (a := 99) (by omega) (by decide)
            obtain ⟨Y, y1, y2, y3⟩ := R_try1 (r := 4) (i := j) (v := nI k) e6 (by decide) (okV_4 hl)
            rw [if_neg e99, if_neg (by decide), gd_t (inb_n j8), nm_eq, tn_n j31, R_choice y1 y3 hj, Option.bind_some]
            unfold b_X12_purse_77
            dsimp only
            have fe : f k = decide (sDay (wF T 4 j (nI k)) tt false 1 j = a3) := by rw [← hf]
            by_cases z : sDay (wF T 4 j (nI k)) tt false 1 j = a3
            · rw [if_pos z]
              exact Or.inr ⟨hl, _, rfl, rfl, rfl, rfl, Or.inr ⟨nI_pos (by omega), Or.inl ⟨k, Nat.zero_le _, hl, by rw [fe]; simp [z], fun i _ hi => e7 i hi, rfl⟩⟩, nI_1 k, _, y2⟩
            · rw [if_neg z]
              refine Or.inr ⟨hl, _, rfl, rfl, rfl, rfl, Or.inl ⟨rfl, fun i hi => ?_⟩, nI_1 k, _, y2⟩
              rcases Nat.eq_or_lt_of_le (Nat.le_of_lt_succ hi) with y | y
              · rw [y, fe]; simp [z]
              · exact e7 i y
          · have : k = 100 := by omega
            subst this
            have := e7 99 (by decide)
            rw [hf99] at this
            cases this
        · have e0 : (0 : Int32) ≤ a4 := Int32.not_lt.mp e4
          by_cases z : (99 : Int32) < nI k
          · rw [if_pos z]
            unfold b_X12_purse_85
            rw [gd_t (inb_n j8), nm_eq, tn_n j31]
            exact Or.inl ⟨_, rfl, bk, e7⟩
          · rw [if_neg z, if_pos e0]
            unfold b_X12_purse_85
            rw [gd_t (inb_n j8), nm_eq, tn_n j31]
            exact Or.inl ⟨_, rfl, bk, e7⟩
  · refine JJ_D c g (-1) ⟨S, ?_, UpD_refl S⟩ (fun S1 g1 => ⟨_, ?_, RE_0 g1⟩)
    · unfold L_X11_purse b_X11_purse_0
      rw [C_nb1 cR.1 bad]
      rfl
    · unfold L_X12_purse b_X12_purse_0
      rw [nm_eq, R_one0 (RE_0 g1).2.2.1.1 n8 bad]
      rfl
theorem J_bestRate (c : IC S (T, m)) (g : IR S (T, m)) : JJ S L_X11_bestRate L_X12_bestRate := by
  obtain ⟨hW, cR⟩ := IC_1 c
  obtain ⟨X, x1, x2⟩ := CE_0 c
  generalize hf : (fun k => sm (sDay (wF T 15 2 (nI (k + 1))) tt false 3) (tn T)) = f
  have fe : ∀ k, sm (sDay (wF T 15 2 (nI (k + 1))) tt false 3) (tn T) = f k := fun k => by rw [← hf]
  refine JJ_D c g (bstR f 9).1 ?_ (fun S1 g1 => ?_)
  · unfold L_X11_bestRate b_X11_bestRate_0
    rw [x1, Option.bind_some]
    have key := lp_inv (body := l_X11_bestRate_17) (m := 9) (I := fun k x => x.1 = (bstR f k).1 ∧ x.2.1 = (bstR f k).2 ∧ x.2.2.1 = nI (k + 1) ∧ ∃ w, CE S x.2.2.2 (wF T 15 2 w)) (Q := fun y => y.1 = (bstR f 9).1 ∧ UpD S y.2) (fun k x hk hI => ?_) 1000 0 (1, -1, 1, X) (Nat.zero_le _) (by omega) ⟨rfl, rfl, rfl, tF T 15 2, by rw [wF_id]; exact x2⟩
    · obtain ⟨⟨y1, y2⟩, e, e1, e2⟩ := key
      simp only at e1 e2
      subst e1
      exact ⟨y2, e, e2⟩
    · obtain ⟨a1, a2, a3, Z⟩ := x
      obtain ⟨e1, e2, e3, w, e4⟩ := hI
      simp only at e1 e2 e3 e4
      subst e1 e2 e3
      unfold l_X11_bestRate_17 b_X11_bestRate_17
      dsimp only
      rcases Nat.lt_or_ge k 9 with hl | hl
      · refine Or.inr ⟨hl, ?_⟩
        have e9 : ¬ (9 : Int32) < nI (k + 1) := nI_nlt (a := 9) (by omega) (by decide)
        obtain ⟨Y, y1, y2, y3⟩ := C_try (r := 15) (i := 2) (v := nI (k + 1)) e4 (by decide) (okV_15c ⟨by omega, by omega⟩)
        rw [if_neg e9, gd_t (by decide), nm_eq]
        rw [show (19 + 17 : Nat) = 19 + 2 + 15 from rfl, show (2 : Int32).toNatClampNeg = 2 by decide, y1, Option.bind_some, C_paid y3, Option.bind_some]
        rw [show tn (wF T 15 2 (nI (k + 1))) = tn T from rfl, fe]
        unfold b_X11_bestRate_65
        by_cases z : (bstR f k).2 < f k
        · rw [if_neg (Int32.not_le.mpr z)]
          exact ⟨_, rfl, by simp only [bstR, if_pos z], by simp only [bstR, if_pos z], nI_1 (k + 1), _, y2⟩
        · rw [if_pos (Int32.not_lt.mp z)]
          exact ⟨_, rfl, by simp only [bstR, if_neg z], by simp only [bstR, if_neg z], nI_1 (k + 1), _, y2⟩
      · have : k = 9 := by omega
        subst this
        rw [if_pos (by decide)]
        exact Or.inl ⟨_, rfl, rfl, e4.1⟩
  · have e := RE_0 g1
    unfold L_X12_bestRate b_X12_bestRate_0
    rw [nm_eq, show gi (si S1 136 28 0) 136 8 = tF T 15 2 from e.2.2.1.2.2.2.2.2.2.2.2.2]
    have key := lp_inv (body := l_X12_bestRate_17) (m := 9) (I := fun k x => x.1 = tF T 15 2 ∧ x.2.1 = (bstR f k).1 ∧ x.2.2.1 = (bstR f k).2 ∧ x.2.2.2.1 = nI (k + 1) ∧ ∃ w, RE S1 x.2.2.2.2 (wF T 15 2 w)) (Q := fun y => y.1 = (bstR f 9).1 ∧ RE S1 y.2 T) (fun k x hk hI => ?_) 1000 0 (tF T 15 2, 1, -1, 1, si S1 136 28 0) (Nat.zero_le _) (by omega) ⟨rfl, rfl, rfl, rfl, tF T 15 2, by rw [wF_id]; exact e⟩
    · obtain ⟨⟨y1, y2⟩, e, e1, e2⟩ := key
      simp only at e1 e2
      subst e1
      exact ⟨y2, e, e2⟩
    · obtain ⟨a1, a2, a3, a4, Z⟩ := x
      obtain ⟨e1, e2, e3, e5, w, e4⟩ := hI
      simp only at e1 e2 e3 e4 e5
      subst e1 e2 e3 e5
      unfold l_X12_bestRate_17 b_X12_bestRate_17
      dsimp only
      rcases Nat.lt_or_ge k 9 with hl | hl
      · refine Or.inr ⟨hl, ?_⟩
        have e9 : ¬ (9 : Int32) < nI (k + 1) := nI_nlt (a := 9) (by omega) (by decide)
        obtain ⟨Y, y1, y2, y3⟩ := R_tryR (i := 2) (v := nI (k + 1)) e4 (by decide) (okV_15c ⟨by omega, by omega⟩)
        rw [if_neg e9, nm_eq, y1, Option.bind_some, R_paid y3, Option.bind_some]
        rw [show tn (wF T 15 2 (nI (k + 1))) = tn T from rfl, fe]
        unfold b_X12_bestRate_52 b_X12_bestRate_65
        by_cases z : (bstR f k).2 < f k
        · rw [if_neg (Int32.not_le.mpr z), if_neg (Int32.not_le.mpr z)]
          exact ⟨_, rfl, rfl, by simp only [bstR, if_pos z], by simp only [bstR, if_pos z], nI_1 (k + 1), _, y2⟩
        · rw [if_pos (Int32.not_lt.mp z), if_pos (Int32.not_lt.mp z)]
          exact ⟨_, rfl, rfl, by simp only [bstR, if_neg z], by simp only [bstR, if_neg z], nI_1 (k + 1), _, y2⟩
      · have : k = 9 := by omega
        subst this
        rw [if_pos (by decide), nm_eq]
        exact Or.inl ⟨_, rfl, rfl, R_backR e4 (by decide) (okR_of hW).2.2⟩
theorem J_bestOpen (c : IC S (T, m)) (g : IR S (T, m)) : JJ S L_X11_bestOpen L_X12_bestOpen := by
  obtain ⟨hW, cR⟩ := IC_1 c
  have n8 := hW.1
  obtain ⟨X, x1, x2⟩ := CE_0 c
  generalize hf : (fun k => cnt (fun p => decide (sDay (wF T 15 0 (nI k)) tt false 4 p ≠ 0)) (tn T)) = f
  have fe : ∀ k, cnt (fun p => decide (sDay (wF T 15 0 (nI k)) tt false 4 p ≠ 0)) (tn T) = f k := fun k => by rw [← hf]
  have f9 : f 0 < 9 := by
    rw [← fe 0, cnt_n]
    exact nI_lt (b := 9) (Nat.lt_of_le_of_lt (ncn_le _ _) (by omega)) (by decide)
  obtain ⟨n, hn⟩ : ∃ n, n = 24 := ⟨24, rfl⟩
  refine JJ_D c g (bstO f n).1 ?_ (fun S1 g1 => ?_)
  · unfold L_X11_bestOpen b_X11_bestOpen_0
    rw [x1, Option.bind_some]
    have key := lp_inv (body := l_X11_bestOpen_18) (m := n) (I := fun k x => x.1 = (bstO f k).1 ∧ x.2.1 = (bstO f k).2 ∧ x.2.2.1 = nI k ∧ ∃ w, CE S x.2.2.2 (wF T 15 0 w)) (Q := fun y => y.1 = (bstO f n).1 ∧ UpD S y.2) (fun k x hk hI => ?_) 1000 0 (0, 9, 0, X) (Nat.zero_le _) (by omega) ⟨rfl, rfl, rfl, tF T 15 0, by rw [wF_id]; exact x2⟩
    · obtain ⟨⟨y1, y2⟩, e, e1, e2⟩ := key
      simp only at e1 e2
      subst e1
      exact ⟨y2, e, e2⟩
    · obtain ⟨a1, a2, a3, Z⟩ := x
      obtain ⟨e1, e2, e3, w, e4⟩ := hI
      simp only at e1 e2 e3 e4
      subst e1 e2 e3
      unfold l_X11_bestOpen_18 b_X11_bestOpen_18
      dsimp only
      rcases Nat.lt_or_ge k n with hl | hl
      · refine Or.inr ⟨hl, ?_⟩
        have e9 : ¬ (23 : Int32) < nI k := nI_nlt (a := 23) (by omega) (by decide)
        obtain ⟨Y, y1, y2, y3⟩ := C_try (r := 15) (i := 0) (v := nI k) e4 (by decide) (okV_15a (by omega))
        rw [if_neg e9, gd_t (by decide), nm_eq]
        rw [show (19 + 17 : Nat) = 19 + 2 + 15 from rfl, show (0 : Int32).toNatClampNeg = 0 by decide, y1, Option.bind_some, C_regret y3, Option.bind_some]
        rw [show tn (wF T 15 0 (nI k)) = tn T from rfl, fe]
        unfold b_X11_bestOpen_66
        by_cases z : f k < (bstO f k).2
        · rw [if_neg (Int32.not_le.mpr z)]
          exact ⟨_, rfl, by simp only [bstO, if_pos z], by simp only [bstO, if_pos z], nI_1 k, _, y2⟩
        · rw [if_pos (Int32.not_lt.mp z)]
          exact ⟨_, rfl, by simp only [bstO, if_neg z], by simp only [bstO, if_neg z], nI_1 k, _, y2⟩
      · have : k = n := by omega
        subst this
        rw [if_pos (by rw [hn]; decide)]
        exact Or.inl ⟨_, rfl, rfl, e4.1⟩
  · have e := RE_0 g1
    unfold L_X12_bestOpen b_X12_bestOpen_0
    rw [nm_eq, show gi (si S1 136 28 0) 136 6 = tF T 15 0 from e.2.2.1.2.2.2.2.2.2.2.1]
    have key := lp_inv (body := l_X12_bestOpen_18) (m := n) (I := fun k x => x.1 = tF T 15 0 ∧ x.2.1 = (bstO f k).1 ∧ x.2.2.1 = (if k = 0 then 99 else (bstO f k).2) ∧ x.2.2.2.1 = nI k ∧ ∃ w, RE S1 x.2.2.2.2 (wF T 15 0 w)) (Q := fun y => y.1 = (bstO f n).1 ∧ RE S1 y.2 T) (fun k x hk hI => ?_) 1000 0 (tF T 15 0, 0, 99, 0, si S1 136 28 0) (Nat.zero_le _) (by omega) ⟨rfl, rfl, rfl, rfl, tF T 15 0, by rw [wF_id]; exact e⟩
    · obtain ⟨⟨y1, y2⟩, e, e1, e2⟩ := key
      simp only at e1 e2
      subst e1
      exact ⟨y2, e, e2⟩
    · obtain ⟨a1, a2, a3, a4, Z⟩ := x
      obtain ⟨e1, e2, e3, e5, w, e4⟩ := hI
      simp only at e1 e2 e3 e4 e5
      subst e1 e2 e3 e5
      unfold l_X12_bestOpen_18 b_X12_bestOpen_18
      dsimp only
      rcases Nat.lt_or_ge k n with hl | hl
      · refine Or.inr ⟨hl, ?_⟩
        have e9 : ¬ (24 : Int32) ≤ nI k := nI_ge (b := 24) (by omega) (by decide)
        obtain ⟨Y, y1, y2, y3⟩ := R_tryR (i := 0) (v := nI k) e4 (by decide) (okV_15a (by omega))
        rw [if_neg e9, nm_eq, y1, Option.bind_some, R_regret y3, Option.bind_some]
        rw [show tn (wF T 15 0 (nI k)) = tn T from rfl, fe]
        unfold b_X12_bestOpen_53 b_X12_bestOpen_66
        by_cases z : f k < (bstO f k).2
        · have z2 : ¬ (if k = 0 then 99 else (bstO f k).2) ≤ f k := by
            by_cases k0 : k = 0
            · rw [if_pos k0, k0]
              exact Int32.not_le.mpr (Int32.lt_trans f9 (by decide))
            · rw [if_neg k0]; exact Int32.not_le.mpr z
          rw [if_neg z2, if_neg z2]
          exact ⟨_, rfl, rfl, by simp only [bstO, if_pos z], by rw [if_neg (by omega)]; simp only [bstO, if_pos z], nI_1 k, _, y2⟩
        · have k0 : ¬ k = 0 := fun k0 => z (by rw [k0]; exact f9)
          rw [if_neg k0, if_pos (Int32.not_lt.mp z), if_pos (Int32.not_lt.mp z)]
          exact ⟨_, rfl, rfl, by simp only [bstO, if_neg z], by rw [if_neg (by omega)]; simp only [bstO, if_neg z], nI_1 k, _, y2⟩
      · have : k = n := by omega
        subst this
        rw [if_pos (by rw [hn]; decide), nm_eq]
        exact Or.inl ⟨_, rfl, rfl, R_backR e4 (by decide) (okR_of hW).1⟩
end CALLS5
