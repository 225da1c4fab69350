/-! Calls that run days: the frames of both sides; the first of them. -/
def UpE (S S' : St) : Prop := UpR S S' ∧ (∀ a, 153 ≤ a ∧ a < 158 ∨ a = 173 → gi S' a = gi S a) ∧ gl S' 158 = gl S 158 ∧ gi S' 136 46 = gi S 136 46
theorem UpE_refl (S : St) : UpE S S := ⟨UpR_refl S, fun _ _ => rfl, rfl, rfl⟩
theorem UpE_tr {S S' S'' : St} (h1 : UpE S S') (h2 : UpE S' S'') : UpE S S'' := ⟨UpR_tr h1.1 h2.1, fun a ha => (h2.2.1 a ha).trans (h1.2.1 a ha), h2.2.2.1.trans h1.2.2.1, h2.2.2.2.trans h1.2.2.2⟩
theorem UpE_FR {P : Nat → Prop} {S S' : St} (hp : ∀ a, P a → 137 ≤ a ∧ a < 153 ∨ 159 ≤ a ∧ a < 173 ∨ 174 ≤ a) (h : FR P S S') : UpE S S' := ⟨UpR_FR (fun a z => by have := hp a z; omega) h, fun a ha => h.1 a (fun z => by have := hp a z; omega), FR_gl h 158, by rw [h.1 136 (fun z => by have := hp 136 z; omega)]⟩
theorem UpE_si {S S' : St} {k : Nat} (hk : 137 ≤ k ∧ k < 153 ∨ 159 ≤ k ∧ k < 173 ∨ 174 ≤ k) (h : UpE S S') (i : Nat) (v : Int32) : UpE S (si S' k i v) := UpE_tr h (UpE_FR (P := fun a => a = k) (fun a e => by omega) (FR_si (P := fun a => a = k) rfl (FR_refl S') i v))
theorem UpE_slot {S S' : St} {i : Nat} (hi : i ≠ 46) (h : UpE S S') (v : Int32) : UpE S (si S' 136 i v) := UpE_tr h ⟨UpR_si (by decide) (UpR_refl S') _ _, fun a ha => gi_si_n _ _ _ (by omega), rfl, by rw [gi_si_s, upd_n _ _ (Ne.symm hi)]⟩
def RE (S0 X : St) (T : TT) : Prop := UpE S0 X ∧ WT T ∧ repR X T ∧ gi X 136 29 = 63 ∧ gi X 136 30 = 0
def CE (S0 X : St) (T : TT) : Prop := UpD S0 X ∧ WT T ∧ repC X 19 T
section RUNS2
variable {S S0 X : St} {T : TT} {m : Option TT × (Nat → Sh)}
theorem RE_0 (g : IR S (T, m)) : RE S (si S 136 28 0) T := by
  have g1 := IR_thr g 0
  exact ⟨UpE_slot (by decide) (UpE_refl S) 0, g1.1, g1.2.1, g1.2.2.1, g1.2.2.2.1⟩
theorem RE_end (g : IR S (T, m)) (h : RE S X T) : IR X (T, m) ∧ UpR S X := by
  obtain ⟨⟨u1, u2, u3, u4⟩, hW, hR, h29, h30⟩ := h
  exact ⟨IR_town (S := S) hW hR ⟨h29.trans g.2.2.1.symm, h30.trans g.2.2.2.1.symm, u4⟩ u2 u3 g, u1⟩
theorem RE_RT (h : RE S0 X T) : RT X T tt false := ⟨h.2.1, h.2.2.1, by rw [h.2.2.2.1]; exact bits_63, h.2.2.2.2⟩
theorem RE_FR {P : Nat → Prop} {Y : St} (hp : ∀ a, P a → 159 ≤ a ∧ a < 173 ∨ 174 ≤ a) (h : RE S0 X T) (f : FR P X Y) : RE S0 Y T := by
  obtain ⟨u, hW, hR, h29, h30⟩ := h
  have o := f.1 136 (fun z => by have := hp 136 z; omega)
  exact ⟨UpE_tr u (UpE_FR (fun a z => by have := hp a z; omega) f), hW, repR_congr (fun a h1 h2 => f.1 a (fun z => by have := hp a z; omega)) hR, by rw [o]; exact h29, by rw [o]; exact h30⟩
theorem RE_go (h : RE S0 X T) : ∃ Y, L_X12_day X = some Y ∧ FR PR X Y ∧ RE S0 Y T ∧ DR Y T tt false := by
  obtain ⟨Y, y1, y2, y3⟩ := R_go (RE_RT h)
  exact ⟨Y, y1, y2, RE_FR (fun a z => Or.inl ⟨z.1, by have := z.2; omega⟩) h y2, y3⟩
theorem RE_put1 (h : RE S0 X T) {r i : Nat} {v : Int32} (hr : 1 ≤ r ∧ r ≤ 4) (ok : okV r i v) : RE S0 (si X (148 + r) i v) (wF T r i v) := by
  obtain ⟨u, hW, hR, h29, h30⟩ := h
  have o : gi (si X (148 + r) i v) 136 = gi X 136 := gi_si_n _ _ _ (by omega)
  exact ⟨UpE_si (by omega) u i v, WT_put hW ok, repR_put1 hR hr i v, by rw [o]; exact h29, by rw [o]; exact h30⟩
theorem RE_put5 (h : RE S0 X T) {r i : Nat} {v : Int32} (hr : 5 ≤ r ∧ r ≤ 13) (ok : okV r i v) : RE S0 (si X (133 + r) i v) (wF T r i v) := by
  obtain ⟨u, hW, hR, h29, h30⟩ := h
  have o : gi (si X (133 + r) i v) 136 = gi X 136 := gi_si_n _ _ _ (by omega)
  exact ⟨UpE_si (by omega) u i v, WT_put hW ok, repR_put5 hR hr i v, by rw [o]; exact h29, by rw [o]; exact h30⟩
theorem RE_rule (h : RE S0 X T) {i : Nat} {v : Int32} (hi : i < 3) (ok : okV 15 i v) : RE S0 (si X 136 (6 + i) v) (wF T 15 i v) := by
  obtain ⟨u, hW, hR, h29, h30⟩ := h
  have o2 : ∀ j, j ≠ 6 + i → gi (si X 136 (6 + i) v) 136 j = gi X 136 j := fun j hj => by rw [gi_si_s, upd_n _ _ hj]
  exact ⟨UpE_slot (by omega) u v, WT_put hW ok, repR_rule hR hi v, by rw [o2 29 (by omega)]; exact h29, by rw [o2 30 (by omega)]; exact h30⟩
theorem RE_slot (h : RE S0 X T) {j : Nat} (v : Int32) (hj : j ≠ 1 ∧ j ≠ 6 ∧ j ≠ 7 ∧ j ≠ 8 ∧ j ≠ 9 ∧ j ≠ 15 ∧ j ≠ 29 ∧ j ≠ 30 ∧ j ≠ 46) : RE S0 (si X 136 j v) T := by
  obtain ⟨u, hW, hR, h29, h30⟩ := h
  have o2 : ∀ i, i ≠ j → gi (si X 136 j v) 136 i = gi X 136 i := fun i hi => by rw [gi_si_s, upd_n _ _ hi]
  exact ⟨UpE_slot (by omega) u v, hW, repR_slot hR ⟨hj.1, hj.2.1, hj.2.2.1, hj.2.2.2.1, hj.2.2.2.2.1, hj.2.2.2.2.2.1⟩ v, by rw [o2 29 (by omega)]; exact h29, by rw [o2 30 (by omega)]; exact h30⟩
theorem CE_0 (c : IC S (T, m)) : ∃ X, L_X10_become 19 1 S = some X ∧ CE S X T := by
  obtain ⟨X, x1, x2, x3, -⟩ := C_become (t := 19) (u := 1) (Or.inl (by decide)) c.2.2.2.1 c.2.1 c.2.2.1
  exact ⟨X, x1, UpD_FT x2, c.2.1, x3⟩
theorem CE_go (h : CE S0 X T) : ∃ Y, L_X2_run 19 (-1) X = some Y ∧ CE S0 Y T ∧ DC Y 19 T tt ∧ ∀ a, ¬ PD a → gi Y a = gi X a := by
  obtain ⟨Y, y1, y2, y3, y4, -⟩ := C_go (t := 19) (Or.inr (Or.inl rfl)) h.2.1 h.2.2 bits_m1
  exact ⟨Y, y1, ⟨UpD_tr h.1 y2, h.2.1, (C_W y3).2.2.2.2.2.2⟩, y3, y4⟩
theorem CE_put (h : CE S0 X T) {r i : Nat} {v : Int32} (hr : 1 ≤ r ∧ r ≤ 13 ∨ r = 15) (ok : okV r i v) : CE S0 (si X (19 + 2 + r) i v) (wF T r i v) :=
  ⟨UpD_si (by omega) h.1 i v, WT_put h.2.1 ok, repC_put (Or.inr (Or.inl rfl)) h.2.2 hr i v⟩
theorem JJ_D {f11 f12 : St → Option (Int32 × St)} (c : IC S (T, m)) (g : IR S (T, m)) (r : Int32) (h1 : ∃ S1, f11 S = some (r, S1) ∧ UpD S S1) (h2 : ∀ S1, IR S1 (T, m) → ∃ S2, f12 S1 = some (r, S2) ∧ RE S1 S2 T) : JJ S f11 f12 := by
  obtain ⟨S1, a1, a2⟩ := h1
  refine JJ_of r (T, m) g ⟨S1, a1, IC_D a2 c, UpD_C a2⟩ (fun S1 g1 => ?_)
  obtain ⟨S2, b1, b2⟩ := h2 S1 g1
  exact ⟨S2, b1, RE_end g1 b2⟩
/-- an answer told by what it is like -/
theorem JJ_P {f11 f12 : St → Option (Int32 × St)} (c : IC S (T, m)) (g : IR S (T, m)) (P : Int32 → Prop) (u : ∀ r r', P r → P r' → r = r') (h1 : ∃ r S1, f11 S = some (r, S1) ∧ UpD S S1 ∧ P r) (h2 : ∀ S1, IR S1 (T, m) → ∃ r S2, f12 S1 = some (r, S2) ∧ RE S1 S2 T ∧ P r) : JJ S f11 f12 := by
  obtain ⟨r, S1, a1, a2, a3⟩ := h1
  refine JJ_D c g r ⟨S1, a1, a2⟩ (fun S1 g1 => ?_)
  obtain ⟨r', S2, b1, b2, b3⟩ := h2 S1 g1
  rw [u r r' a3 b3]
  exact ⟨S2, b1, b2⟩
theorem J_sum (c : IC S (T, m)) (g : IR S (T, m)) (p : Int32) : JJ S (L_X11_sum p) (L_X12_sum p) := by
  have n8 : tn T ≤ 8 := c.2.1.1
  obtain ⟨hW, cR⟩ := IC_1 c
  rcases ix_split p (tn T) (by omega) with ⟨j, hj, rfl⟩ | bad
  · have j8 : j < 8 := by omega
    obtain ⟨X, x1, x2, x3, -⟩ := C_go (Or.inl rfl) hW cR bits_m1
    refine JJ_D c g (sDay T tt false 0 j) ⟨X, ?_, x2⟩ (fun S1 g1 => ?_)
    · unfold L_X11_sum b_X11_sum_0
      rw [C_nb0 cR.1 n8 hj]
      simp only [Option.bind_some, if_true, x1, gd_t (inb_n j8), tn_n (show j < 2 ^ 31 by omega), (C_pick x3 hj).1]
    · have e := RE_0 g1
      obtain ⟨Y, y1, -, y3, y4⟩ := RE_go e
      refine ⟨Y, ?_, y3⟩
      unfold L_X12_sum b_X12_sum_0
      rw [nm_eq, R_one1 e.2.2.1.1 n8 hj]
      simp only [Option.bind_some, if_neg (show ¬ (1 : Int32) = 0 by decide), y1, gd_t (inb_n j8), tn_n (show j < 2 ^ 31 by omega), (R_pick y4 hj).2.1]
  · refine JJ_D c g (-1000000001) ⟨S, ?_, UpD_refl S⟩ (fun S1 g1 => ⟨_, ?_, RE_0 g1⟩)
    · unfold L_X11_sum b_X11_sum_0
      rw [C_nb1 cR.1 bad]
      rfl
    · unfold L_X12_sum b_X12_sum_0
      rw [nm_eq, R_one0 (RE_0 g1).2.2.1.1 n8 bad]
      rfl
def aSums (T : TT) (D : Nat → Nat → Int32) (v : Int32) : Int32 := if v = 0 then cnt (fun p => decide (D 1 p = 1)) (tn T) else if v = 1 then cnt (fun p => decide (D 1 p = -1)) (tn T) else if v = 2 then cnt (fun p => decide (D 1 p = 0)) (tn T) else if v = 3 then cnt (fun p => decide (0 ≤ D 2 p)) (tn T) else if v = 4 then sm (D 3) (tn T) else cnt (fun p => decide (D 4 p ≠ 0)) (tn T)
theorem J_sums (c : IC S (T, m)) (g : IR S (T, m)) (v : Int32) : JJ S (L_X11_sums v) (L_X12_sums v) := by
  obtain ⟨hW, cR⟩ := IC_1 c
  by_cases hv : 0 ≤ v ∧ v ≤ 5
  · obtain ⟨X, x1, x2, x3, -⟩ := C_go (Or.inl rfl) hW cR bits_m1
    refine JJ_D c g (aSums T (sDay T tt false) v) ⟨X, ?_, x2⟩ (fun S1 g1 => ?_)
    · unfold L_X11_sums b_X11_sums_0 L_X2_countOf b_X2_countOf_0 aSums
      rw [A_isOut, if_pos hv]
      simp only [Option.bind_some, if_true, x1, C_chose x3, C_sold x3, C_paid x3, C_regret x3]
      repeat' split
      all_goals rfl
    · have e := RE_0 g1
      obtain ⟨Y, y1, -, y3, y4⟩ := RE_go e
      refine ⟨Y, ?_, y3⟩
      unfold L_X12_sums b_X12_sums_0 aSums
      rw [nm_eq, y1]
      simp only [Option.bind_some, R_chose y4, R_sold y4, R_paid y4, R_regret y4]
      obtain ⟨k, hk, rfl⟩ := in_of (n := 5) rfl (by decide) hv
      rcases k6 hk with rfl | rfl | rfl | rfl | rfl | rfl <;> rfl
  · have e0 : ∀ k, k < 6 → ¬ v = nI k := fun k hk z => hv (by rw [z]; exact ⟨nI_pos' (by omega), nI_le (b := 5) (by omega) (by decide)⟩)
    refine JJ_D c g (-1) ⟨S, ?_, UpD_refl S⟩ (fun S1 g1 => ?_)
    · unfold L_X11_sums b_X11_sums_0
      rw [A_isOut, if_neg hv]
      rfl
    · have e := RE_0 g1
      obtain ⟨Y, y1, -, y3, y4⟩ := RE_go e
      refine ⟨Y, ?_, y3⟩
      unfold L_X12_sums b_X12_sums_0
      rw [nm_eq, y1]
      have a0 : ¬ v = 0 := e0 0 (by decide)
      have a1 : ¬ v = 1 := e0 1 (by decide)
      have a2 : ¬ v = 2 := e0 2 (by decide)
      have a3 : ¬ v = 3 := e0 3 (by decide)
      have a4 : ¬ v = 4 := e0 4 (by decide)
      have a5 : ¬ v = 5 := e0 5 (by decide)
      simp only [Option.bind_some, if_neg a0, if_neg a1, if_neg a2, if_neg a3, if_neg a4, if_neg a5]
end RUNS2
