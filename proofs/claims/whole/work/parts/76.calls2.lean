section CALLS2
variable {S : St} {T : TT} {m : Option TT × (Nat → Sh)}
theorem IC_1 (c : IC S (T, m)) : WT T ∧ repC S 1 T := ⟨c.2.1, c.2.2.1⟩
theorem IR_1 (g : IR S (T, m)) : WT T ∧ repR S T := ⟨g.1, g.2.1⟩
def aPerson (T : TT) (j : Nat) (v : Int32) : Int32 := if v = 0 then nI (tK T j) else if v = 1 then tF T 0 j else if v = 2 then tF T 1 j else if v = 3 then tF T 2 j else if v = 4 then sDue T j else if v = 5 then tF T 4 j else if v = 6 then tF T 3 j + 9 else -1
theorem RT_of {b : Nat → Bool} (g : IR S (T, m)) (hb : ∀ k, k < 6 → (gi S 136 29 >>> (nI k &&& 31)) &&& 1 = if b k then 1 else 0) : RT S T b false := ⟨g.1, g.2.1, hb, g.2.2.2.1⟩
theorem J_person (c : IC S (T, m)) (g : IR S (T, m)) (p v : Int32) : JV S (T, m) (L_X11_person p v S) (L_X12_person p v) := by
  have n8 : tn T ≤ 8 := c.2.1.1
  have g1 := IR_thr g 0
  have up := Up_thr S 0
  obtain ⟨hW, cR⟩ := IC_1 c
  rcases ix_split p (tn T) (by omega) with ⟨j, hj, rfl⟩ | bad
  · have j8 : j < 8 := by omega
    have hk8 := (hW.2.2.2.1 j hj).1
    refine JV_of (aPerson T j v) c ?_ ⟨_, ?_, g1, up⟩
    · obtain ⟨⟨q, r1, r2⟩, b1, b2, b3, b4⟩ := cR.2.2.2.1 j hj
      unfold L_X11_person b_X11_person_0 aPerson
      rw [C_nb0 cR.1 n8 hj]
      simp only [Option.bind_some, gd_t (inb_n j8), tn_n (show j < 2 ^ 31 by omega), r1, r2, b1, b2, b3, b4, V_due r2 hk8, if_true]
      repeat' split
      all_goals first | rfl | simp_all [sDue]
    · unfold L_X12_person b_X12_person_0
      rw [nm_eq]
      generalize si S 136 28 0 = S1 at g1 up ⊢
      obtain ⟨d1, d2, d3, d4, d5, d6⟩ := (IR_1 g1).2.2.2.2.1 j hj
      unfold aPerson
      rw [R_one1 (IR_1 g1).2.1 n8 hj, R_due (S := S1) j8 d1 hk8 d4]
      simp only [Option.bind_some, gd_t (inb_n j8), tn_n (show j < 2 ^ 31 by omega), d1, d2, d3, d4, d5, d6]
      rw [if_neg (by decide)]
      repeat' split
      all_goals first | rfl | simp_all [sDue]
  · refine JV_of (-1) c ?_ ⟨_, ?_, g1, up⟩
    · unfold L_X11_person b_X11_person_0
      rw [C_nb1 cR.1 bad]
      rfl
    · unfold L_X12_person b_X12_person_0
      rw [nm_eq]
      generalize si S 136 28 0 = S1 at g1 up ⊢
      rw [R_one0 (IR_1 g1).2.1 n8 bad]
      rfl
theorem J_weighs (c : IC S (T, m)) (g : IR S (T, m)) (p a b : Int32) : JV S (T, m) (L_X11_weighs p a b S) (L_X12_weighs p a b) := by
  have n8 : tn T ≤ 8 := c.2.1.1
  have g1 := IR_thr g 0
  have up := Up_thr S 0
  obtain ⟨hW, cR⟩ := IC_1 c
  rcases ix_split p (tn T) (by omega) with ⟨j, hj, rfl⟩ | bad
  · have j8 : j < 8 := by omega
    have hk8 := (hW.2.2.2.1 j hj).1
    refine JV_of (if -9 ≤ a ∧ a ≤ 9 then if -99 ≤ b ∧ b ≤ 99 then kSum (tK T j) a b else -1000000001 else -1000000001) c ?_ ⟨_, ?_, g1, up⟩
    · obtain ⟨⟨q, r1, r2⟩, -⟩ := cR.2.2.2.1 j hj
      unfold L_X11_weighs b_X11_weighs_0
      rw [C_nb0 cR.1 n8 hj]
      simp only [Option.bind_some, A_isOut, gd_t (inb_n j8), tn_n (show j < 2 ^ 31 by omega), r1, V_sum r2 hk8]
      by_cases h1 : -9 ≤ a ∧ a ≤ 9 <;> by_cases h2 : -99 ≤ b ∧ b ≤ 99 <;> simp [h1, h2]
    · unfold L_X12_weighs b_X12_weighs_0 b_X12_weighs_51
      rw [nm_eq]
      generalize si S 136 28 0 = S1 at g1 up ⊢
      obtain ⟨d1, d2, d3, d4, d5, d6⟩ := (IR_1 g1).2.2.2.2.1 j hj
      rw [R_one1 (IR_1 g1).2.1 n8 hj, R_in (-9) 9, R_in (-99) 99, R_sum j8 d1 hk8]
      by_cases h1 : -9 ≤ a ∧ a ≤ 9 <;> by_cases h2 : -99 ≤ b ∧ b ≤ 99 <;> simp [h1, h2]
  · refine JV_of (-1000000001) c ?_ ⟨_, ?_, g1, up⟩
    · unfold L_X11_weighs b_X11_weighs_0
      rw [C_nb1 cR.1 bad]
      rfl
    · unfold L_X12_weighs b_X12_weighs_0 b_X12_weighs_51
      rw [nm_eq]
      generalize si S 136 28 0 = S1 at g1 up ⊢
      rw [R_one0 (IR_1 g1).2.1 n8 bad]
      rfl
theorem J_strength (c : IC S (T, m)) (g : IR S (T, m)) (p a : Int32) : JV S (T, m) (L_X11_strength p a S) (L_X12_strength p a) := by
  have n8 : tn T ≤ 8 := c.2.1.1
  have g1 := IR_thr g 0
  have up := Up_thr S 0
  obtain ⟨hW, cR⟩ := IC_1 c
  rcases ix_split p (tn T) (by omega) with ⟨j, hj, rfl⟩ | bad
  · have j8 : j < 8 := by omega
    have hk8 := (hW.2.2.2.1 j hj).1
    refine JV_of (if -999 ≤ a ∧ a ≤ 999 then kStr (tK T j) (tF T 0 j) a else -1) c ?_ ⟨_, ?_, g1, up⟩
    · obtain ⟨⟨q, r1, r2⟩, -⟩ := cR.2.2.2.1 j hj
      unfold L_X11_strength b_X11_strength_0
      rw [C_nb0 cR.1 n8 hj]
      simp only [Option.bind_some, A_isOut, gd_t (inb_n j8), tn_n (show j < 2 ^ 31 by omega), r1, V_str r2 hk8]
      by_cases h1 : -999 ≤ a ∧ a ≤ 999 <;> simp [h1]
    · unfold L_X12_strength b_X12_strength_0 b_X12_strength_36
      rw [nm_eq]
      generalize si S 136 28 0 = S1 at g1 up ⊢
      obtain ⟨d1, d2, d3, d4, d5, d6⟩ := (IR_1 g1).2.2.2.2.1 j hj
      rw [R_one1 (IR_1 g1).2.1 n8 hj, R_in (-999) 999, R_str j8 d1 hk8 d2]
      by_cases h1 : -999 ≤ a ∧ a ≤ 999 <;> simp [h1]
  · refine JV_of (-1) c ?_ ⟨_, ?_, g1, up⟩
    · unfold L_X11_strength b_X11_strength_0
      rw [C_nb1 cR.1 bad]
      rfl
    · unfold L_X12_strength b_X12_strength_0 b_X12_strength_36
      rw [nm_eq]
      generalize si S 136 28 0 = S1 at g1 up ⊢
      rw [R_one0 (IR_1 g1).2.1 n8 bad]
      rfl
theorem J_price (c : IC S (T, m)) (g : IR S (T, m)) (p a : Int32) : JV S (T, m) (L_X11_price p a S) (L_X12_price p a) := by
  have n8 : tn T ≤ 8 := c.2.1.1
  have g1 := IR_thr g 0
  have up := Up_thr S 0
  obtain ⟨hW, cR⟩ := IC_1 c
  rcases ix_split p (tn T) (by omega) with ⟨j, hj, rfl⟩ | bad
  · have j8 : j < 8 := by omega
    have hk8 := (hW.2.2.2.1 j hj).1
    refine JV_of (if 0 ≤ a ∧ a ≤ 999 then kPrice (tK T j) a (tF T 15 2) else -1) c ?_ ⟨_, ?_, g1, up⟩
    · obtain ⟨⟨q, r1, r2⟩, -⟩ := cR.2.2.2.1 j hj
      have er : gi S (1 + 17) ((2 : Int32)).toNatClampNeg = tF T 15 2 := cR.2.2.2.2.2.2.2 2 (by decide)
      unfold L_X11_price b_X11_price_0
      rw [C_nb0 cR.1 n8 hj]
      simp only [Option.bind_some, A_isOut, gd_t (inb_n j8), gd_t (show inb 2 3 = true by decide), tn_n (show j < 2 ^ 31 by omega), r1, er, V_price r2 hk8]
      by_cases h1 : 0 ≤ a ∧ a ≤ 999 <;> simp [h1]
    · unfold L_X12_price b_X12_price_0 b_X12_price_34
      rw [nm_eq]
      generalize si S 136 28 0 = S1 at g1 up ⊢
      obtain ⟨d1, d2, d3, d4, d5, d6⟩ := (IR_1 g1).2.2.2.2.1 j hj
      have er : gi S1 136 8 = tF T 15 2 := (IR_1 g1).2.2.2.2.2.2.2.2.2.2
      rw [R_one1 (IR_1 g1).2.1 n8 hj, R_in 0 999, R_price j8 d1 hk8, er]
      by_cases h1 : 0 ≤ a ∧ a ≤ 999 <;> simp [h1]
  · refine JV_of (-1) c ?_ ⟨_, ?_, g1, up⟩
    · unfold L_X11_price b_X11_price_0
      rw [C_nb1 cR.1 bad]
      rfl
    · unfold L_X12_price b_X12_price_0 b_X12_price_34
      rw [nm_eq]
      generalize si S 136 28 0 = S1 at g1 up ⊢
      rw [R_one0 (IR_1 g1).2.1 n8 bad]
      rfl
def aAbout (T : TT) (j : Nat) (v : Int32) : Int32 := if v = 0 then tF T 5 j else if v = 1 then tF T 6 j + 9 else if v = 2 then tF T 7 j else if v = 3 then tF T 8 j else -1
theorem J_about (c : IC S (T, m)) (g : IR S (T, m)) (p v : Int32) : JV S (T, m) (L_X11_about p v S) (L_X12_about p v) := by
  have m6 : tm T ≤ 6 := c.2.1.2.1
  have g1 := IR_thr g 0
  have up := Up_thr S 0
  obtain ⟨hW, cR⟩ := IC_1 c
  rcases ix_split p (tm T) (by omega) with ⟨j, hj, rfl⟩ | bad
  · have j6 : j < 6 := by omega
    refine JV_of (aAbout T j v) c ?_ ⟨_, ?_, g1, up⟩
    · obtain ⟨b1, b2, b3, b4⟩ := cR.2.2.2.2.1 j hj
      unfold L_X11_about b_X11_about_0 aAbout
      rw [C_nf0 cR.2.1 m6 hj]
      simp only [Option.bind_some, gd_t (inb_n j6), tn_n (show j < 2 ^ 31 by omega), b1, b2, b3, b4, if_true]
      repeat' split
      all_goals first | rfl | simp_all
    · unfold L_X12_about b_X12_about_0
      rw [nm_eq]
      generalize si S 136 28 0 = S1 at g1 up ⊢
      obtain ⟨d1, d2, d3, d4⟩ := (IR_1 g1).2.2.2.2.2.1 j hj
      unfold aAbout
      rw [(IR_1 g1).2.2.1, show (0 : Int64) = (0 : Int32).toInt64 by decide, R_inI, if_pos (in_nI (by omega) hj)]
      simp only [Option.bind_some, gd_t (inb_n j6), tn_n (show j < 2 ^ 31 by omega), d1, d2, d3, d4]
      rw [if_neg (by decide)]
      repeat' split
      all_goals first | rfl | simp_all
  · refine JV_of (-1) c ?_ ⟨_, ?_, g1, up⟩
    · unfold L_X11_about b_X11_about_0
      rw [C_nf1 cR.2.1 bad]
      rfl
    · unfold L_X12_about b_X12_about_0
      rw [nm_eq]
      generalize si S 136 28 0 = S1 at g1 up ⊢
      rw [(IR_1 g1).2.2.1, show (0 : Int64) = (0 : Int32).toInt64 by decide, R_inI, if_neg (nin_nI (by omega) bad)]
      rfl
theorem J_mood (c : IC S (T, m)) (g : IR S (T, m)) (p v : Int32) : JJ S (L_X11_mood p v) (L_X12_mood p v) := by
  have n8 : tn T ≤ 8 := c.2.1.1
  obtain ⟨hW, cR⟩ := IC_1 c
  rcases ix_split p (tn T) (by omega) with ⟨j, hj, rfl⟩ | bad
  · have j8 : j < 8 := by omega
    by_cases hv : -9 ≤ v ∧ v ≤ 9
    · refine JJ_of (tF T 3 j + 9) (wF T 3 j v, m) g ⟨_, ?_, IC_put c (r := 3) (i := j) (v := v) (by decide) (okV_3 hv), UpC_si (by decide) (UpC_refl S) _ _⟩ (fun S1 g1 => ⟨_, ?_, IR_put1 (IR_thr g1 0) (r := 3) (i := j) (v := v) (by decide) (okV_3 hv), UpR_si (by decide) (Up_thr S1 0) _ _⟩)
      · obtain ⟨-, b1, b2, b3, b4⟩ := cR.2.2.2.1 j hj
        unfold L_X11_mood b_X11_mood_0
        rw [C_nb0 cR.1 n8 hj]
        simp only [Option.bind_some, A_isOut, if_pos hv, gd_t (inb_n j8), tn_n (show j < 2 ^ 31 by omega), b3, nm]
        rfl
      · have g2 := IR_thr g1 0
        unfold L_X12_mood b_X12_mood_0
        rw [nm_eq]
        generalize si S1 136 28 0 = S2 at g2 ⊢
        obtain ⟨d1, d2, d3, d4, d5, d6⟩ := (IR_1 g2).2.2.2.2.1 j hj
        rw [R_one1 (IR_1 g2).2.1 n8 hj, R_in (-9) 9, if_pos hv]
        simp only [Option.bind_some, gd_t (inb_n j8), tn_n (show j < 2 ^ 31 by omega), d5, nm]
        rfl
    · refine JJ_of (-1) (T, m) g ⟨S, ?_, c, UpC_refl S⟩ (fun S1 g1 => ⟨_, ?_, IR_thr g1 0, Up_thr S1 0⟩)
      · unfold L_X11_mood b_X11_mood_0
        rw [C_nb0 cR.1 n8 hj]
        simp only [Option.bind_some, A_isOut, if_neg hv]
        rfl
      · have g2 := IR_thr g1 0
        unfold L_X12_mood b_X12_mood_0
        rw [nm_eq]
        generalize si S1 136 28 0 = S2 at g2 ⊢
        rw [R_one1 (IR_1 g2).2.1 n8 hj, R_in (-9) 9, if_neg hv]
        rfl
  · refine JJ_of (-1) (T, m) g ⟨S, ?_, c, UpC_refl S⟩ (fun S1 g1 => ⟨_, ?_, IR_thr g1 0, Up_thr S1 0⟩)
    · unfold L_X11_mood b_X11_mood_0
      rw [C_nb1 cR.1 bad]
      rfl
    · have g2 := IR_thr g1 0
      unfold L_X12_mood b_X12_mood_0
      rw [nm_eq]
      generalize si S1 136 28 0 = S2 at g2 ⊢
      rw [R_one0 (IR_1 g2).2.1 n8 bad]
      rfl
theorem in_of {v : Int32} {n : Nat} {l : Int32} (hl : l = nI n) (hn : n < 2 ^ 31) (h : (0 : Int32) ≤ v ∧ v ≤ l) : ∃ c, c < n + 1 ∧ v = nI c := by
  obtain ⟨j, h1, h2⟩ := nI_of (Int32.not_lt.mpr h.1)
  refine ⟨j, ?_, h2⟩
  have h3 := h.2
  rw [h2, hl] at h3
  have := (nI_leI h1 hn).mp h3
  omega
theorem J_coins (c : IC S (T, m)) (g : IR S (T, m)) (p v : Int32) : JJ S (L_X11_coins p v) (L_X12_coins p v) := by
  have n8 : tn T ≤ 8 := c.2.1.1
  obtain ⟨hW, cR⟩ := IC_1 c
  rcases ix_split p (tn T) (by omega) with ⟨j, hj, rfl⟩ | bad
  · have j8 : j < 8 := by omega
    by_cases hv : 0 ≤ v ∧ v ≤ 99
    · obtain ⟨x, hx, ex⟩ := in_of (n := 99) rfl (by decide) hv
      have ok : okV 4 j v := by rw [ex]; exact okV_4 hx
      refine JJ_of (tF T 4 j) (wF T 4 j v, m) g ⟨_, ?_, IC_put c (r := 4) (i := j) (v := v) (by decide) ok, UpC_si (by decide) (UpC_refl S) _ _⟩ (fun S1 g1 => ⟨_, ?_, IR_put1 (IR_thr g1 0) (r := 4) (i := j) (v := v) (by decide) ok, UpR_si (by decide) (Up_thr S1 0) _ _⟩)
      · obtain ⟨-, b1, b2, b3, b4⟩ := cR.2.2.2.1 j hj
        unfold L_X11_coins b_X11_coins_0
        rw [C_nb0 cR.1 n8 hj]
        simp only [Option.bind_some, A_isOut, if_pos hv, gd_t (inb_n j8), tn_n (show j < 2 ^ 31 by omega), b4, nm]
        rfl
      · have g2 := IR_thr g1 0
        unfold L_X12_coins b_X12_coins_0
        rw [nm_eq]
        generalize si S1 136 28 0 = S2 at g2 ⊢
        obtain ⟨d1, d2, d3, d4, d5, d6⟩ := (IR_1 g2).2.2.2.2.1 j hj
        rw [R_one1 (IR_1 g2).2.1 n8 hj, R_in 0 99, if_pos hv]
        simp only [Option.bind_some, gd_t (inb_n j8), tn_n (show j < 2 ^ 31 by omega), d6, nm]
        rfl
    · refine JJ_of (-1) (T, m) g ⟨S, ?_, c, UpC_refl S⟩ (fun S1 g1 => ⟨_, ?_, IR_thr g1 0, Up_thr S1 0⟩)
      · unfold L_X11_coins b_X11_coins_0
        rw [C_nb0 cR.1 n8 hj]
        simp only [Option.bind_some, A_isOut, if_neg hv]
        rfl
      · have g2 := IR_thr g1 0
        unfold L_X12_coins b_X12_coins_0
        rw [nm_eq]
        generalize si S1 136 28 0 = S2 at g2 ⊢
        rw [R_one1 (IR_1 g2).2.1 n8 hj, R_in 0 99, if_neg hv]
        rfl
  · refine JJ_of (-1) (T, m) g ⟨S, ?_, c, UpC_refl S⟩ (fun S1 g1 => ⟨_, ?_, IR_thr g1 0, Up_thr S1 0⟩)
    · unfold L_X11_coins b_X11_coins_0
      rw [C_nb1 cR.1 bad]
      rfl
    · have g2 := IR_thr g1 0
      unfold L_X12_coins b_X12_coins_0
      rw [nm_eq]
      generalize si S1 136 28 0 = S2 at g2 ⊢
      rw [R_one0 (IR_1 g2).2.1 n8 bad]
      rfl
theorem J_chance (c : IC S (T, m)) (g : IR S (T, m)) (p v : Int32) : JJ S (L_X11_chance p v) (L_X12_chance p v) := by
  have m6 : tm T ≤ 6 := c.2.1.2.1
  obtain ⟨hW, cR⟩ := IC_1 c
  rcases ix_split p (tm T) (by omega) with ⟨j, hj, rfl⟩ | bad
  · have j6 : j < 6 := by omega
    by_cases hv : 0 ≤ v ∧ v ≤ 10
    · obtain ⟨x, hx, ex⟩ := in_of (n := 10) rfl (by decide) hv
      have ok : okV 8 j v := by rw [ex]; exact okV_8 (by omega)
      refine JJ_of (tF T 8 j) (wF T 8 j v, m) g ⟨_, ?_, IC_put c (r := 8) (i := j) (v := v) (by decide) ok, UpC_si (by decide) (UpC_refl S) _ _⟩ (fun S1 g1 => ⟨_, ?_, IR_put5 (IR_thr g1 0) (r := 8) (i := j) (v := v) (by decide) ok, UpR_si (by decide) (Up_thr S1 0) _ _⟩)
      · obtain ⟨b1, b2, b3, b4⟩ := cR.2.2.2.2.1 j hj
        unfold L_X11_chance b_X11_chance_0
        rw [C_nf0 cR.2.1 m6 hj]
        simp only [Option.bind_some, A_isOut, if_pos hv, gd_t (inb_n j6), tn_n (show j < 2 ^ 31 by omega), b4, nm]
        rfl
      · have g2 := IR_thr g1 0
        unfold L_X12_chance b_X12_chance_0
        rw [nm_eq]
        generalize si S1 136 28 0 = S2 at g2 ⊢
        obtain ⟨d1, d2, d3, d4⟩ := (IR_1 g2).2.2.2.2.2.1 j hj
        rw [(IR_1 g2).2.2.1, R_in 0 10 v, if_pos hv, show (0 : Int64) = (0 : Int32).toInt64 by decide, R_inI, if_pos (in_nI (by omega) hj)]
        simp only [Option.bind_some, gd_t (inb_n j6), tn_n (show j < 2 ^ 31 by omega), d4, nm]
        rfl
    · refine JJ_of (-1) (T, m) g ⟨S, ?_, c, UpC_refl S⟩ (fun S1 g1 => ⟨_, ?_, IR_thr g1 0, Up_thr S1 0⟩)
      · unfold L_X11_chance b_X11_chance_0
        rw [C_nf0 cR.2.1 m6 hj]
        simp only [Option.bind_some, A_isOut, if_neg hv]
        rfl
      · have g2 := IR_thr g1 0
        unfold L_X12_chance b_X12_chance_0
        rw [nm_eq]
        generalize si S1 136 28 0 = S2 at g2 ⊢
        rw [(IR_1 g2).2.2.1, R_in 0 10 v, if_neg hv, show (0 : Int64) = (0 : Int32).toInt64 by decide, R_inI, if_pos (in_nI (by omega) hj)]
        rfl
  · refine JJ_of (-1) (T, m) g ⟨S, ?_, c, UpC_refl S⟩ (fun S1 g1 => ⟨_, ?_, IR_thr g1 0, Up_thr S1 0⟩)
    · unfold L_X11_chance b_X11_chance_0
      rw [C_nf1 cR.2.1 bad]
      rfl
    · have g2 := IR_thr g1 0
      unfold L_X12_chance b_X12_chance_0
      rw [nm_eq]
      generalize si S1 136 28 0 = S2 at g2 ⊢
      rw [(IR_1 g2).2.2.1, show (0 : Int64) = (0 : Int32).toInt64 by decide, R_inI, if_neg (nin_nI (by omega) bad)]
      rfl
end CALLS2
