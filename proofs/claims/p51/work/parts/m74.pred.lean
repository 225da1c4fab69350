/-! What is asked of arguments on both sides; what a call of one side leaves to the other. -/
theorem A_isOut (a lo hi : Int32) (S : St) : L_X11_isOut a lo hi S = some (if lo ≤ a ∧ a ≤ hi then 0 else 1) := by
  unfold L_X11_isOut b_X11_isOut_0 b_X11_isOut_10
  by_cases h : a < lo
  · rw [if_pos h, if_neg (fun z => absurd z.1 (Int32.not_le.mpr h))]
  · rw [if_neg h]
    by_cases h2 : a ≤ hi
    · rw [if_pos h2, if_pos ⟨Int32.not_lt.mp h, h2⟩]
    · rw [if_neg h2, if_neg (fun z => h2 z.2)]
theorem i64_le (a b : Int32) : a.toInt64 ≤ b.toInt64 ↔ a ≤ b := by
  rw [Int64.le_iff_toInt_le, Int32.le_iff_toInt_le, Int32.toInt_toInt64, Int32.toInt_toInt64]
theorem i64_lt (a b : Int32) : a.toInt64 < b.toInt64 ↔ a < b := by
  rw [Int64.lt_iff_toInt_lt, Int32.lt_iff_toInt_lt, Int32.toInt_toInt64, Int32.toInt_toInt64]
theorem i64_eq (a b : Int32) : a.toInt64 = b.toInt64 ↔ a = b := by
  rw [← Int64.toInt_inj, ← Int32.toInt_inj, Int32.toInt_toInt64, Int32.toInt_toInt64]
theorem g01 (c : Prop) [Decidable c] {α : Type} (x : Option α) : gd (((if c then (1 : Int32) else 0) == 0) || ((if c then (1 : Int32) else 0) == 1)) x = x := by
  by_cases h : c
  · rw [if_pos h]; rfl
  · rw [if_neg h]; rfl
/-- an int is one of 0 .. n-1 or not -/
theorem ix_split (p : Int32) (n : Nat) (hn : n < 2 ^ 31) : (∃ j, j < n ∧ p = nI j) ∨ (p < 0 ∨ nI n ≤ p) := by
  rcases pk_ix p hn with h | h | h
  · exact Or.inr (Or.inl h)
  · exact Or.inr (Or.inr h)
  · exact Or.inl h
theorem in_nI {n : Nat} (hn : n < 2 ^ 31) {j : Nat} (h : j < n) : (0 : Int32) ≤ nI j ∧ nI j ≤ nI n - 1 := by
  refine ⟨nI_pos' (by omega), ?_⟩
  rw [show (1 : Int32) = nI 1 from rfl, pk_sub (by omega)]
  exact nI_le (by omega) (by omega)
theorem nin_nI {n : Nat} (hn : n < 2 ^ 31) {p : Int32} (h : p < 0 ∨ nI n ≤ p) : ¬ ((0 : Int32) ≤ p ∧ p ≤ nI n - 1) := by
  rintro ⟨h1, h2⟩
  rcases h with h | h
  · exact absurd h (Int32.not_lt.mpr h1)
  · rcases Nat.eq_zero_or_pos n with z | z
    · subst z
      have h3 : p ≤ -1 := h2
      have h4 : (0 : Int32) ≤ -1 := Int32.le_trans h1 h3
      exact absurd h4 (by decide)
    · rw [show (1 : Int32) = nI 1 from rfl, pk_sub (by omega)] at h2
      have := Int32.le_trans h h2
      exact absurd this (nI_ge (by omega) (by omega))
section WHO
variable {S : St} {T : TT}
theorem C_nb0 (hn : gi S 1 0 = nI (tn T)) {j : Nat} (h8 : tn T ≤ 8) (h : j < tn T) : L_X11_isNobody (nI j) S = some 0 := by
  unfold L_X11_isNobody b_X11_isNobody_0
  rw [if_neg (nI_pos (by omega)), hn, if_pos (nI_lt h (by omega))]
theorem C_nb1 (hn : gi S 1 0 = nI (tn T)) {p : Int32} (h : p < 0 ∨ nI (tn T) ≤ p) : L_X11_isNobody p S = some 1 := by
  unfold L_X11_isNobody b_X11_isNobody_0 b_X11_isNobody_15
  rw [hn]
  by_cases z : p < 0
  · rw [if_pos z]
  · rw [if_neg z, if_neg (Int32.not_lt.mpr (h.resolve_left z))]
theorem C_nf0 (hn : gi S 1 6 = nI (tm T)) {j : Nat} (h8 : tm T ≤ 6) (h : j < tm T) : L_X11_isNoFact (nI j) S = some 0 := by
  unfold L_X11_isNoFact b_X11_isNoFact_0
  rw [if_neg (nI_pos (by omega)), hn, if_pos (nI_lt h (by omega))]
theorem C_nf1 (hn : gi S 1 6 = nI (tm T)) {p : Int32} (h : p < 0 ∨ nI (tm T) ≤ p) : L_X11_isNoFact p S = some 1 := by
  unfold L_X11_isNoFact b_X11_isNoFact_0 b_X11_isNoFact_15
  rw [hn]
  by_cases z : p < 0
  · rw [if_pos z]
  · rw [if_neg z, if_neg (Int32.not_lt.mpr (h.resolve_left z))]
theorem C_ns0 {j : Nat} (h : j < 8) : L_X11_isNoShelf (nI j) S = some 0 := by
  unfold L_X11_isNoShelf b_X11_isNoShelf_0
  have e : nI j < 8 := nI_lt (b := 8) h (by decide)
  rw [if_neg (nI_pos (by omega)), if_pos e]
theorem C_ns1 {p : Int32} (h : p < 0 ∨ nI 8 ≤ p) : L_X11_isNoShelf p S = some 1 := by
  unfold L_X11_isNoShelf b_X11_isNoShelf_0 b_X11_isNoShelf_10
  by_cases z : p < 0
  · rw [if_pos z]
  · have e : ¬ p < 8 := Int32.not_lt.mpr (h.resolve_left z)
    rw [if_neg z, if_neg e]
end WHO
/-- the class did it / the reference did it -/
def UpC (S S' : St) : Prop := ∀ a, 136 ≤ a → gi S' a = gi S a ∧ gl S' a = gl S a ∧ gr S' a = gr S a
theorem UpC_refl (S : St) : UpC S S := fun _ _ => ⟨rfl, rfl, rfl⟩
theorem UpC_tr {S S' S'' : St} (h1 : UpC S S') (h2 : UpC S' S'') : UpC S S'' := fun a ha => ⟨(h2 a ha).1.trans (h1 a ha).1, (h2 a ha).2.1.trans (h1 a ha).2.1, (h2 a ha).2.2.trans (h1 a ha).2.2⟩
theorem UpC_FR {P : Nat → Prop} {S S' : St} (hp : ∀ a, P a → a < 136) (h : FR P S S') : UpC S S' := fun a ha => ⟨h.1 a (fun z => by have := hp a z; omega), FR_gl h a, FR_gr h a⟩
theorem UpC_si {S S' : St} {k : Nat} (hk : k < 136) (h : UpC S S') (i : Nat) (v : Int32) : UpC S (si S' k i v) := UpC_tr h (UpC_FR (P := fun a => a = k) (fun a e => by omega) (FR_si (P := fun a => a = k) rfl (FR_refl S') i v))
theorem UpC_sr {S S' : St} {k : Nat} (hk : k < 136) (h : UpC S S') (i : Nat) (v : Option Nat) : UpC S (sr S' k i v) := UpC_tr h (fun a ha => ⟨rfl, rfl, gr_sr_n _ _ _ (by omega)⟩)
theorem full_congr {S S' : St} {t : Nat} (h1 : gr S' (t + 1) = gr S (t + 1)) (h2 : ∀ q, q < tp S → gp S' q = gp S q) (h3 : tp S ≤ tp S') (h : full S t) : full S' t := by
  intro p hp
  obtain ⟨q, z, e1, e2, e3⟩ := h p hp
  exact ⟨q, z, by rw [h1]; exact e1, by rw [gq_local (h2 q e3)]; exact e2, by omega⟩
/-- the class's part, when places that it reads are as they were -/
theorem IC_congr {S S' : St} {M : MM} (h1 : ∀ a, a < 19 ∨ 37 ≤ a ∧ a < 55 ∨ 66 ≤ a ∧ a < 86 → gi S' a = gi S a ∧ gr S' a = gr S a) (h2 : ∀ q, gp S' q = gp S q) (h3 : tp S' = tp S) (g : IC S M) : IC S' M := by
  obtain ⟨g0, g1, g2, g3, g4, g5, g6⟩ := g
  have rep : ∀ t T, (t = 1 ∨ t = 37) → repC S t T → repC S' t T := by
    intro t T ht h
    have hq : ∀ q, gq S' q = gq S q := fun q => gq_local (h2 q)
    have o : ∀ a, t ≤ a → a < t + 18 → gi S' a = gi S a ∧ gr S' a = gr S a := fun a h1' h2' => h1 a (by rcases ht with rfl | rfl <;> omega)
    unfold repC at h ⊢
    rw [(o t (by omega) (by omega)).1, (o (t + 1) (by omega) (by omega)).2, (o (t + 3) (by omega) (by omega)).1, (o (t + 4) (by omega) (by omega)).1, (o (t + 5) (by omega) (by omega)).1, (o (t + 6) (by omega) (by omega)).1, (o (t + 7) (by omega) (by omega)).1, (o (t + 8) (by omega) (by omega)).1, (o (t + 9) (by omega) (by omega)).1, (o (t + 10) (by omega) (by omega)).1, (o (t + 11) (by omega) (by omega)).1, (o (t + 12) (by omega) (by omega)).1, (o (t + 13) (by omega) (by omega)).1, (o (t + 14) (by omega) (by omega)).1, (o (t + 15) (by omega) (by omega)).1, (o (t + 16) (by omega) (by omega)).1, (o (t + 17) (by omega) (by omega)).1]
    simp only [hq]
    exact h
  refine ⟨by omega, g1, rep 1 _ (Or.inl rfl) g2, full_congr (h1 2 (by omega)).2 (fun q _ => h2 q) (by omega) g3, by rw [(h1 0 (by omega)).1]; exact g4, fun T hT => ⟨(g5 T hT).1, rep 37 T (Or.inr rfl) (g5 T hT).2.1, full_congr (h1 38 (by omega)).2 (fun q _ => h2 q) (by omega) (g5 T hT).2.2⟩, fun d hd => ?_⟩
  have hq : ∀ q, gq S' q = gq S q := fun q => gq_local (h2 q)
  unfold shC
  rw [(h1 66 (by omega)).1, (h1 67 (by omega)).2, (h1 (70 + 2 * d) (by omega)).1, (h1 (71 + 2 * d) (by omega)).1, h3]
  simp only [hq]
  exact g6 d hd