/-! town: a STATEMENT comes, on both sides. -/
section STEPS
variable {S0 S1 X Y : St} {d p k : Nat} {W : Sh} {T T0 : TT}
theorem rt_102 (hk : k ≤ 33) (hE : gi Y 175 k = 102) {v0 v1 v2 r : Int32} {Y' : St} (h0 : gi Y 176 (7 * k + 0) = v0) (h1 : gi Y 176 (7 * k + 1) = v1) (h2 : gi Y 176 (7 * k + 2) = v2) (hF : L_X12_factComes v0 v1 v2 Y = some (r, Y')) (hr : r = 0 ∨ r = 1) : L_X12_comesTold (nI k) Y = some (r, Y') := by
  unfold L_X12_comesTold b_X12_comesTold_0
  rw [show (7 : Int32) * nI k = nI (7 * k) from pk_mul 7 k, gd_t (inb_n (show 7 * k < 357 by omega)), gd_t (inb_n (show k < 51 by omega)), tn_n (show k < 2 ^ 31 by omega), tn_n (show 7 * k < 2 ^ 31 by omega), hE, if_neg (show ¬ (102 : Int32) = 100 by decide), if_neg (show ¬ (102 : Int32) = 101 by decide), if_pos rfl, show nI (7 * k) + 1 = nI (7 * k + 1) from nI_add _ _, show nI (7 * k) + 2 = nI (7 * k + 2) from nI_add _ _, gd_t (inb_n (show 7 * k + 1 < 357 by omega)), gd_t (inb_n (show 7 * k + 2 < 357 by omega)), tn_n (show 7 * k + 1 < 2 ^ 31 by omega), tn_n (show 7 * k + 2 < 2 ^ 31 by omega), show gi Y 176 (7 * k) = v0 from h0, h1, h2, hF, Option.bind_some]
  rcases hr with rfl | rfl <;> rfl
theorem rt_107 (hk : k ≤ 33) (hE : gi Y 175 k = 107) {v0 v1 : Int32} (h0 : gi Y 176 (7 * k + 0) = v0) (h1 : gi Y 176 (7 * k + 1) = v1) : (¬ ((0 ≤ v0 ∧ v0 ≤ 3) ∧ (0 ≤ v1 ∧ v1 ≤ 3) ∧ v0 ≠ v1) → L_X12_comesTold (nI k) Y = some (0, Y)) ∧ (∀ Y', (0 ≤ v0 ∧ v0 ≤ 3) ∧ (0 ≤ v1 ∧ v1 ≤ 3) ∧ v0 ≠ v1 → L_X12_turnKin v0 v1 Y = some Y' → L_X12_comesTold (nI k) Y = some (1, Y')) := by
  have z10 : ¬ (1 : Int32) = 0 := by decide
  have base : L_X12_comesTold (nI k) Y = if 0 ≤ v0 ∧ v0 ≤ 3 then (if 0 ≤ v1 ∧ v1 ≤ 3 then (if v0 = v1 then b_X12_comesTold_170 (nI (7 * k)) v0 0 Y else b_X12_comesTold_170 (nI (7 * k)) v0 1 Y) else b_X12_comesTold_170 (nI (7 * k)) v0 0 Y) else b_X12_comesTold_170 (nI (7 * k)) v0 0 Y := by
    unfold L_X12_comesTold b_X12_comesTold_0
    rw [show (7 : Int32) * nI k = nI (7 * k) from pk_mul 7 k, gd_t (inb_n (show 7 * k < 357 by omega)), gd_t (inb_n (show k < 51 by omega)), tn_n (show k < 2 ^ 31 by omega), tn_n (show 7 * k < 2 ^ 31 by omega), hE, if_neg (show ¬ (107 : Int32) = 100 by decide), if_neg (show ¬ (107 : Int32) = 101 by decide), if_neg (show ¬ (107 : Int32) = 102 by decide), if_neg (show ¬ (107 : Int32) = 103 by decide), if_neg (show ¬ (107 : Int32) = 104 by decide), if_neg (show ¬ (107 : Int32) = 105 by decide), if_neg (show ¬ (107 : Int32) = 106 by decide), if_pos rfl, show nI (7 * k) + 1 = nI (7 * k + 1) from nI_add _ _, gd_t (inb_n (show 7 * k + 1 < 357 by omega)), tn_n (show 7 * k + 1 < 2 ^ 31 by omega), show gi Y 176 (7 * k) = v0 from h0, h1, R_isCase, R_isCase, Option.bind_some, gd_t (inb_n (show 7 * k + 1 < 357 by omega))]
    unfold b_X12_comesTold_169
    by_cases a : 0 ≤ v0 ∧ v0 ≤ 3
    · rw [if_pos a, if_pos a, if_neg z10, Option.bind_some]
      by_cases b : 0 ≤ v1 ∧ v1 ≤ 3
      · rw [if_pos b, if_pos b, if_neg z10]
      · rw [if_neg b, if_neg b, if_pos rfl]
    · rw [if_neg a, if_neg a, if_pos rfl]
  have no : b_X12_comesTold_170 (nI (7 * k)) v0 0 Y = some (0, Y) := rfl
  rw [base]
  constructor
  · intro bad
    by_cases a : 0 ≤ v0 ∧ v0 ≤ 3
    · by_cases b : 0 ≤ v1 ∧ v1 ≤ 3
      · have c : v0 = v1 := Classical.byContradiction fun c => bad ⟨a, b, c⟩
        rw [if_pos a, if_pos b, if_pos c, no]
      · rw [if_pos a, if_neg b, no]
    · rw [if_neg a, no]
  · rintro Y' ⟨a, b, c⟩ h
    rw [if_pos a, if_pos b, if_neg c]
    unfold b_X12_comesTold_170
    rw [if_neg z10, show nI (7 * k) + 1 = nI (7 * k + 1) from nI_add _ _, gd_t (inb_n (show 7 * k + 1 < 357 by omega)), tn_n (show 7 * k + 1 < 2 ^ 31 by omega), h1, h]
    rfl
theorem rt_111 (hk : k ≤ 33) (hE : gi Y 175 k = 111) {v0 : Int32} (h0 : gi Y 176 (7 * k + 0) = v0) : L_X12_comesTold (nI k) Y = some (if 0 ≤ v0 ∧ v0 ≤ 23 then 1 else 0, si Y 136 6 v0) := by
  unfold L_X12_comesTold b_X12_comesTold_0
  rw [show (7 : Int32) * nI k = nI (7 * k) from pk_mul 7 k, gd_t (inb_n (show 7 * k < 357 by omega)), gd_t (inb_n (show k < 51 by omega)), tn_n (show k < 2 ^ 31 by omega), tn_n (show 7 * k < 2 ^ 31 by omega), hE, if_neg (show ¬ (111 : Int32) = 100 by decide), if_neg (show ¬ (111 : Int32) = 101 by decide), if_neg (show ¬ (111 : Int32) = 102 by decide), if_neg (show ¬ (111 : Int32) = 103 by decide), if_neg (show ¬ (111 : Int32) = 104 by decide), if_neg (show ¬ (111 : Int32) = 105 by decide), if_neg (show ¬ (111 : Int32) = 106 by decide), if_neg (show ¬ (111 : Int32) = 107 by decide), if_neg (show ¬ (111 : Int32) = 108 by decide), if_neg (show ¬ (111 : Int32) = 109 by decide), if_neg (show ¬ (111 : Int32) = 110 by decide), if_pos rfl, show gi Y 176 (7 * k) = v0 from h0, nm_eq, R_isHour, Option.bind_some]
  by_cases a : 0 ≤ v0 ∧ v0 ≤ 23
  · rw [if_pos a]; rfl
  · rw [if_neg a]; rfl
theorem rt_100 (hk : k ≤ 33) (hE : gi Y 175 k = 100) {v0 : Int32} (h0 : gi Y 176 (7 * k + 0) = v0) : L_X12_comesTold (nI k) Y = some (1, si Y 136 7 v0) := by
  unfold L_X12_comesTold b_X12_comesTold_0
  rw [show (7 : Int32) * nI k = nI (7 * k) from pk_mul 7 k, gd_t (inb_n (show 7 * k < 357 by omega)), gd_t (inb_n (show k < 51 by omega)), tn_n (show k < 2 ^ 31 by omega), tn_n (show 7 * k < 2 ^ 31 by omega), hE, if_pos rfl, show gi Y 176 (7 * k) = v0 from h0, nm_eq]
theorem rt_114 (hk : k ≤ 33) (hE : gi Y 175 k = 114) {v0 : Int32} (h0 : gi Y 176 (7 * k + 0) = v0) : L_X12_comesTold (nI k) Y = some (if v0 ≤ 0 then 0 else 1, si Y 136 8 v0) := by
  unfold L_X12_comesTold b_X12_comesTold_0
  rw [show (7 : Int32) * nI k = nI (7 * k) from pk_mul 7 k, gd_t (inb_n (show 7 * k < 357 by omega)), gd_t (inb_n (show k < 51 by omega)), tn_n (show k < 2 ^ 31 by omega), tn_n (show 7 * k < 2 ^ 31 by omega), hE, if_neg (show ¬ (114 : Int32) = 100 by decide), if_neg (show ¬ (114 : Int32) = 101 by decide), if_neg (show ¬ (114 : Int32) = 102 by decide), if_neg (show ¬ (114 : Int32) = 103 by decide), if_neg (show ¬ (114 : Int32) = 104 by decide), if_neg (show ¬ (114 : Int32) = 105 by decide), if_neg (show ¬ (114 : Int32) = 106 by decide), if_neg (show ¬ (114 : Int32) = 107 by decide), if_neg (show ¬ (114 : Int32) = 108 by decide), if_neg (show ¬ (114 : Int32) = 109 by decide), if_neg (show ¬ (114 : Int32) = 110 by decide), if_neg (show ¬ (114 : Int32) = 111 by decide), if_neg (show ¬ (114 : Int32) = 112 by decide), if_neg (show ¬ (114 : Int32) = 113 by decide), if_pos rfl, show gi Y 176 (7 * k) = v0 from h0]
  unfold b_X12_comesTold_216
  rw [nm_eq]
  by_cases a : v0 ≤ 0
  · rw [if_pos a, if_pos a]
  · rw [if_neg a, if_neg a]
theorem rt_116 (hk : k ≤ 33) (hE : gi Y 175 k = 116) {v0 v1 v2 v3 v4 : Int32} (h0 : gi Y 176 (7 * k + 0) = v0) (h1 : gi Y 176 (7 * k + 1) = v1) (h2 : gi Y 176 (7 * k + 2) = v2) (h3 : gi Y 176 (7 * k + 3) = v3) (h4 : gi Y 176 (7 * k + 4) = v4) : (¬ ((0 ≤ v0 ∧ v0 ≤ 3) ∧ (1 ≤ v2 ∧ v2 ≤ 60) ∧ (0 ≤ v4 ∧ v4 ≤ 23) ∧ ¬ 3 ≤ gi Y 136 9) → L_X12_comesTold (nI k) Y = some (0, Y)) ∧ (∀ Y', (0 ≤ v0 ∧ v0 ≤ 3) ∧ (1 ≤ v2 ∧ v2 ≤ 60) ∧ (0 ≤ v4 ∧ v4 ≤ 23) ∧ ¬ 3 ≤ gi Y 136 9 → L_X12_plantComes v0 v1 v2 v3 v4 Y = some Y' → L_X12_comesTold (nI k) Y = some (1, Y')) := by
  have z10 : ¬ (1 : Int32) = 0 := by decide
  have no : b_X12_plantTold_58 (nI (7 * k)) 0 Y = some (0, Y) := rfl
  have fin : ∀ r Y', (r = 0 ∨ r = 1) → L_X12_plantTold (nI (7 * k)) Y = some (r, Y') → L_X12_comesTold (nI k) Y = some (r, Y') := by
    intro r Y' hr h
    unfold L_X12_comesTold b_X12_comesTold_0
    rw [show (7 : Int32) * nI k = nI (7 * k) from pk_mul 7 k, gd_t (inb_n (show 7 * k < 357 by omega)), gd_t (inb_n (show k < 51 by omega)), tn_n (show k < 2 ^ 31 by omega), tn_n (show 7 * k < 2 ^ 31 by omega), hE, if_neg (show ¬ (116 : Int32) = 100 by decide), if_neg (show ¬ (116 : Int32) = 101 by decide), if_neg (show ¬ (116 : Int32) = 102 by decide), if_neg (show ¬ (116 : Int32) = 103 by decide), if_neg (show ¬ (116 : Int32) = 104 by decide), if_neg (show ¬ (116 : Int32) = 105 by decide), if_neg (show ¬ (116 : Int32) = 106 by decide), if_neg (show ¬ (116 : Int32) = 107 by decide), if_neg (show ¬ (116 : Int32) = 108 by decide), if_neg (show ¬ (116 : Int32) = 109 by decide), if_neg (show ¬ (116 : Int32) = 110 by decide), if_neg (show ¬ (116 : Int32) = 111 by decide), if_neg (show ¬ (116 : Int32) = 112 by decide), if_neg (show ¬ (116 : Int32) = 113 by decide), if_neg (show ¬ (116 : Int32) = 114 by decide), if_neg (show ¬ (116 : Int32) = 115 by decide), if_pos rfl, h, Option.bind_some]
    rcases hr with rfl | rfl <;> rfl
  constructor
  · intro bad
    refine fin 0 Y (Or.inl rfl) ?_
    unfold L_X12_plantTold b_X12_plantTold_0 b_X12_plantTold_57
    rw [gd_t (inb_n (show 7 * k < 357 by omega)), tn_n (show 7 * k < 2 ^ 31 by omega), show nI (7 * k) + 2 = nI (7 * k + 2) from nI_add _ _, show nI (7 * k) + 4 = nI (7 * k + 4) from nI_add _ _, gd_t (inb_n (show 7 * k + 2 < 357 by omega)), gd_t (inb_n (show 7 * k + 4 < 357 by omega)), tn_n (show 7 * k + 2 < 2 ^ 31 by omega), tn_n (show 7 * k + 4 < 2 ^ 31 by omega), show gi Y 176 (7 * k) = v0 from h0, h2, h4, R_isCase, R_in 1 60, R_isHour, no, Option.bind_some, Option.bind_some, Option.bind_some]
    by_cases a : 0 ≤ v0 ∧ v0 ≤ 3
    · rw [if_pos a, if_neg z10]
      by_cases b : 1 ≤ v2 ∧ v2 ≤ 60
      · rw [if_pos b, if_neg z10]
        by_cases c : 0 ≤ v4 ∧ v4 ≤ 23
        · have c9 : 3 ≤ gi Y 136 9 := Classical.byContradiction fun x => bad ⟨a, b, c, x⟩
          rw [if_pos c, if_neg z10, if_pos c9]
        · rw [if_neg c, if_pos rfl]
      · rw [if_neg b, if_pos rfl]
    · rw [if_neg a, if_pos rfl]
  · rintro Y' ⟨a, b, c, c9⟩ h
    refine fin 1 Y' (Or.inr rfl) ?_
    unfold L_X12_plantTold b_X12_plantTold_0 b_X12_plantTold_58
    rw [gd_t (inb_n (show 7 * k < 357 by omega)), tn_n (show 7 * k < 2 ^ 31 by omega), show nI (7 * k) + 2 = nI (7 * k + 2) from nI_add _ _, show nI (7 * k) + 4 = nI (7 * k + 4) from nI_add _ _, gd_t (inb_n (show 7 * k + 2 < 357 by omega)), gd_t (inb_n (show 7 * k + 4 < 357 by omega)), tn_n (show 7 * k + 2 < 2 ^ 31 by omega), tn_n (show 7 * k + 4 < 2 ^ 31 by omega), show gi Y 176 (7 * k) = v0 from h0, h2, h4, R_isCase, R_in 1 60, R_isHour, if_pos a, if_pos b, if_pos c, Option.bind_some, Option.bind_some, Option.bind_some, if_neg z10, if_neg z10, if_neg z10, if_neg c9, if_neg z10, show nI (7 * k) + 1 = nI (7 * k + 1) from nI_add _ _, show nI (7 * k) + 3 = nI (7 * k + 3) from nI_add _ _, gd_t (inb_n (show 7 * k + 1 < 357 by omega)), gd_t (inb_n (show 7 * k + 2 < 357 by omega)), gd_t (inb_n (show 7 * k + 3 < 357 by omega)), gd_t (inb_n (show 7 * k + 4 < 357 by omega)), tn_n (show 7 * k + 1 < 2 ^ 31 by omega), tn_n (show 7 * k + 3 < 2 ^ 31 by omega), h1, h3, gd_t (inb_n (show 7 * k < 357 by omega)), h]
    rfl
theorem rt_112 (hk : k ≤ 33) (hE : gi Y 175 k = 112) {v0 v1 v2 v3 v4 v5 : Int32} (h0 : gi Y 176 (7 * k + 0) = v0) (h1 : gi Y 176 (7 * k + 1) = v1) (h2 : gi Y 176 (7 * k + 2) = v2) (h3 : gi Y 176 (7 * k + 3) = v3) (h4 : gi Y 176 (7 * k + 4) = v4) (h5 : gi Y 176 (7 * k + 5) = v5) : (¬ (¬ 8 ≤ v0 ∧ (0 ≤ v2 ∧ v2 ≤ 3) ∧ (0 ≤ v3 ∧ v3 ≤ 23) ∧ ¬ 8 ≤ gi Y 136 15) → L_X12_comesTold (nI k) Y = some (0, Y)) ∧ (∀ Y', ¬ 8 ≤ v0 ∧ (0 ≤ v2 ∧ v2 ≤ 3) ∧ (0 ≤ v3 ∧ v3 ≤ 23) ∧ ¬ 8 ≤ gi Y 136 15 → L_X12_oneComes v0 v1 v2 v3 v4 v5 Y = some Y' → L_X12_comesTold (nI k) Y = some (1, Y')) := by
  have z10 : ¬ (1 : Int32) = 0 := by decide
  have no : b_X12_oneTold_53 (nI (7 * k)) 0 Y = some (0, Y) := rfl
  have fin : ∀ r Y', (r = 0 ∨ r = 1) → L_X12_oneTold (nI (7 * k)) Y = some (r, Y') → L_X12_comesTold (nI k) Y = some (r, Y') := by
    intro r Y' hr h
    unfold L_X12_comesTold b_X12_comesTold_0
    rw [show (7 : Int32) * nI k = nI (7 * k) from pk_mul 7 k, gd_t (inb_n (show 7 * k < 357 by omega)), gd_t (inb_n (show k < 51 by omega)), tn_n (show k < 2 ^ 31 by omega), tn_n (show 7 * k < 2 ^ 31 by omega), hE, if_neg (show ¬ (112 : Int32) = 100 by decide), if_neg (show ¬ (112 : Int32) = 101 by decide), if_neg (show ¬ (112 : Int32) = 102 by decide), if_neg (show ¬ (112 : Int32) = 103 by decide), if_neg (show ¬ (112 : Int32) = 104 by decide), if_neg (show ¬ (112 : Int32) = 105 by decide), if_neg (show ¬ (112 : Int32) = 106 by decide), if_neg (show ¬ (112 : Int32) = 107 by decide), if_neg (show ¬ (112 : Int32) = 108 by decide), if_neg (show ¬ (112 : Int32) = 109 by decide), if_neg (show ¬ (112 : Int32) = 110 by decide), if_neg (show ¬ (112 : Int32) = 111 by decide), if_pos rfl, h, Option.bind_some]
    rcases hr with rfl | rfl <;> rfl
  constructor
  · intro bad
    refine fin 0 Y (Or.inl rfl) ?_
    unfold L_X12_oneTold b_X12_oneTold_0 b_X12_oneTold_52
    rw [gd_t (inb_n (show 7 * k < 357 by omega)), tn_n (show 7 * k < 2 ^ 31 by omega), show nI (7 * k) + 2 = nI (7 * k + 2) from nI_add _ _, show nI (7 * k) + 3 = nI (7 * k + 3) from nI_add _ _, gd_t (inb_n (show 7 * k + 2 < 357 by omega)), gd_t (inb_n (show 7 * k + 3 < 357 by omega)), tn_n (show 7 * k + 2 < 2 ^ 31 by omega), tn_n (show 7 * k + 3 < 2 ^ 31 by omega), show gi Y 176 (7 * k) = v0 from h0, h2, h3, R_isCase, R_isHour, no, Option.bind_some, Option.bind_some]
    by_cases a : 8 ≤ v0
    · rw [if_pos a]
    · rw [if_neg a]
      by_cases b : 0 ≤ v2 ∧ v2 ≤ 3
      · rw [if_pos b, if_neg z10]
        by_cases c : 0 ≤ v3 ∧ v3 ≤ 23
        · have c9 : 8 ≤ gi Y 136 15 := Classical.byContradiction fun x => bad ⟨a, b, c, x⟩
          rw [if_pos c, if_neg z10, if_pos c9]
        · rw [if_neg c, if_pos rfl]
      · rw [if_neg b, if_pos rfl]
  · rintro Y' ⟨a, b, c, c9⟩ h
    refine fin 1 Y' (Or.inr rfl) ?_
    unfold L_X12_oneTold b_X12_oneTold_0 b_X12_oneTold_53
    rw [gd_t (inb_n (show 7 * k < 357 by omega)), tn_n (show 7 * k < 2 ^ 31 by omega), show nI (7 * k) + 2 = nI (7 * k + 2) from nI_add _ _, show nI (7 * k) + 3 = nI (7 * k + 3) from nI_add _ _, gd_t (inb_n (show 7 * k + 2 < 357 by omega)), gd_t (inb_n (show 7 * k + 3 < 357 by omega)), tn_n (show 7 * k + 2 < 2 ^ 31 by omega), tn_n (show 7 * k + 3 < 2 ^ 31 by omega), show gi Y 176 (7 * k) = v0 from h0, h2, h3, R_isCase, R_isHour, if_neg a, if_pos b, if_pos c, Option.bind_some, Option.bind_some, if_neg z10, if_neg z10, if_neg c9, if_neg z10, show nI (7 * k) + 1 = nI (7 * k + 1) from nI_add _ _, show nI (7 * k) + 4 = nI (7 * k + 4) from nI_add _ _, show nI (7 * k) + 5 = nI (7 * k + 5) from nI_add _ _, gd_t (inb_n (show 7 * k + 1 < 357 by omega)), gd_t (inb_n (show 7 * k + 2 < 357 by omega)), gd_t (inb_n (show 7 * k + 3 < 357 by omega)), gd_t (inb_n (show 7 * k + 4 < 357 by omega)), gd_t (inb_n (show 7 * k + 5 < 357 by omega)), tn_n (show 7 * k + 1 < 2 ^ 31 by omega), tn_n (show 7 * k + 4 < 2 ^ 31 by omega), tn_n (show 7 * k + 5 < 2 ^ 31 by omega), h1, h4, h5, gd_t (inb_n (show 7 * k < 357 by omega)), h]
    rfl
end STEPS
