/-! the first state holds what both sides hold -/
section BORN
variable {B : Nat} {ct : Nat → ClassId}
theorem bo_all : ∀ k, k < 183 → (k ≠ 68 → bOK B ct k) := (fs_1 (fun h => bo_182) (fs_1 (fun h => bo_181) (fs_1 (fun h => bo_180) (fs_1 (fun h => bo_179) (fs_1 (fun h => bo_178) (fs_1 (fun h => bo_177) (fs_1 (fun h => bo_176) (fs_1 (fun h => bo_175) (fs_1 (fun h => bo_174) (fs_1 (fun h => bo_173) (fs_1 (fun h => bo_172) (fs_1 (fun h => bo_171) (fs_1 (fun h => bo_170) (fs_1 (fun h => bo_169) (fs_1 (fun h => bo_168) (fs_1 (fun h => bo_167) (fs_1 (fun h => bo_166) (fs_1 (fun h => bo_165) (fs_1 (fun h => bo_164) (fs_1 (fun h => bo_163) (fs_1 (fun h => bo_162) (fs_1 (fun h => bo_161) (fs_1 (fun h => bo_160) (fs_1 (fun h => bo_159) (fs_1 (fun h => bo_158) (fs_1 (fun h => bo_157) (fs_1 (fun h => bo_156) (fs_1 (fun h => bo_155) (fs_1 (fun h => bo_154) (fs_1 (fun h => bo_153) (fs_1 (fun h => bo_152) (fs_1 (fun h => bo_151) (fs_1 (fun h => bo_150) (fs_1 (fun h => bo_149) (fs_1 (fun h => bo_148) (fs_1 (fun h => bo_147) (fs_1 (fun h => bo_146) (fs_1 (fun h => bo_145) (fs_1 (fun h => bo_144) (fs_1 (fun h => bo_143) (fs_1 (fun h => bo_142) (fs_1 (fun h => bo_141) (fs_1 (fun h => bo_140) (fs_1 (fun h => bo_139) (fs_1 (fun h => bo_138) (fs_1 (fun h => bo_137) (fs_1 (fun h => bo_136) (fs_1 (fun h => bo_135) (fs_1 (fun h => bo_134) (fs_1 (fun h => bo_133) (fs_1 (fun h => bo_132) (fs_1 (fun h => bo_131) (fs_1 (fun h => bo_130) (fs_1 (fun h => bo_129) (fs_1 (fun h => bo_128) (fs_1 (fun h => bo_127) (fs_1 (fun h => bo_126) (fs_1 (fun h => bo_125) (fs_1 (fun h => bo_124) (fs_1 (fun h => bo_123) (fs_1 (fun h => bo_122) (fs_1 (fun h => bo_121) (fs_1 (fun h => bo_120) (fs_1 (fun h => bo_119) (fs_1 (fun h => bo_118) (fs_1 (fun h => bo_117) (fs_1 (fun h => bo_116) (fs_1 (fun h => bo_115) (fs_1 (fun h => bo_114) (fs_1 (fun h => bo_113) (fs_1 (fun h => bo_112) (fs_1 (fun h => bo_111) (fs_1 (fun h => bo_110) (fs_1 (fun h => bo_109) (fs_1 (fun h => bo_108) (fs_1 (fun h => bo_107) (fs_1 (fun h => bo_106) (fs_1 (fun h => bo_105) (fs_1 (fun h => bo_104) (fs_1 (fun h => bo_103) (fs_1 (fun h => bo_102) (fs_1 (fun h => bo_101) (fs_1 (fun h => bo_100) (fs_1 (fun h => bo_99) (fs_1 (fun h => bo_98) (fs_1 (fun h => bo_97) (fs_1 (fun h => bo_96) (fs_1 (fun h => bo_95) (fs_1 (fun h => bo_94) (fs_1 (fun h => bo_93) (fs_1 (fun h => bo_92) (fs_1 (fun h => bo_91) (fs_1 (fun h => bo_90) (fs_1 (fun h => bo_89) (fs_1 (fun h => bo_88) (fs_1 (fun h => bo_87) (fs_1 (fun h => bo_86) (fs_1 (fun h => bo_85) (fs_1 (fun h => bo_84) (fs_1 (fun h => bo_83) (fs_1 (fun h => bo_82) (fs_1 (fun h => bo_81) (fs_1 (fun h => bo_80) (fs_1 (fun h => bo_79) (fs_1 (fun h => bo_78) (fs_1 (fun h => bo_77) (fs_1 (fun h => bo_76) (fs_1 (fun h => bo_75) (fs_1 (fun h => bo_74) (fs_1 (fun h => bo_73) (fs_1 (fun h => bo_72) (fs_1 (fun h => bo_71) (fs_1 (fun h => bo_70) (fs_1 (fun h => bo_69) (fs_1 (fun h => absurd rfl h) (fs_1 (fun h => bo_67) (fs_1 (fun h => bo_66) (fs_1 (fun h => bo_65) (fs_1 (fun h => bo_64) (fs_1 (fun h => bo_63) (fs_1 (fun h => bo_62) (fs_1 (fun h => bo_61) (fs_1 (fun h => bo_60) (fs_1 (fun h => bo_59) (fs_1 (fun h => bo_58) (fs_1 (fun h => bo_57) (fs_1 (fun h => bo_56) (fs_1 (fun h => bo_55) (fs_1 (fun h => bo_54) (fs_1 (fun h => bo_53) (fs_1 (fun h => bo_52) (fs_1 (fun h => bo_51) (fs_1 (fun h => bo_50) (fs_1 (fun h => bo_49) (fs_1 (fun h => bo_48) (fs_1 (fun h => bo_47) (fs_1 (fun h => bo_46) (fs_1 (fun h => bo_45) (fs_1 (fun h => bo_44) (fs_1 (fun h => bo_43) (fs_1 (fun h => bo_42) (fs_1 (fun h => bo_41) (fs_1 (fun h => bo_40) (fs_1 (fun h => bo_39) (fs_1 (fun h => bo_38) (fs_1 (fun h => bo_37) (fs_1 (fun h => bo_36) (fs_1 (fun h => bo_35) (fs_1 (fun h => bo_34) (fs_1 (fun h => bo_33) (fs_1 (fun h => bo_32) (fs_1 (fun h => bo_31) (fs_1 (fun h => bo_30) (fs_1 (fun h => bo_29) (fs_1 (fun h => bo_28) (fs_1 (fun h => bo_27) (fs_1 (fun h => bo_26) (fs_1 (fun h => bo_25) (fs_1 (fun h => bo_24) (fs_1 (fun h => bo_23) (fs_1 (fun h => bo_22) (fs_1 (fun h => bo_21) (fs_1 (fun h => bo_20) (fs_1 (fun h => bo_19) (fs_1 (fun h => bo_18) (fs_1 (fun h => bo_17) (fs_1 (fun h => bo_16) (fs_1 (fun h => bo_15) (fs_1 (fun h => bo_14) (fs_1 (fun h => bo_13) (fs_1 (fun h => bo_12) (fs_1 (fun h => bo_11) (fs_1 (fun h => bo_10) (fs_1 (fun h => bo_9) (fs_1 (fun h => bo_8) (fs_1 (fun h => bo_7) (fs_1 (fun h => bo_6) (fs_1 (fun h => bo_5) (fs_1 (fun h => bo_4) (fs_1 (fun h => bo_3) (fs_1 (fun h => bo_2) (fs_1 (fun h => bo_1) (fs_1 (fun h => bo_0) (fun k h => absurd h (Nat.not_lt_zero k)))))))))))))))))))))))))))))))))))))))))))))))))))))))))))))))))))))))))))))))))))))))))))))))))))))))))))))))))))))))))))))))))))))))))))))))))))))))))))))))))))))))))))))))))))))))))
set_option maxRecDepth 100000 in
theorem bo_len : (Y0 ct B).length = 183 := rfl
theorem bo_fr : ∀ j, j < 8 → va_rf (fr11 B 8 j) = va_rf (some (B + (70 + 2 * j))) := fun j hj => by
  rcases (show j = 0 ∨ j = 1 ∨ j = 2 ∨ j = 3 ∨ j = 4 ∨ j = 5 ∨ j = 6 ∨ j = 7 by omega) with rfl | rfl | rfl | rfl | rfl | rfl | rfl | rfl <;> rfl
theorem MP_born {D : va_G} {Hb H : Heap} (hP : RP D B (Y0 ct B) H) (hb : ∀ q : Nat, q < B → H[q]? = Hb[q]?) : MP D ct B Hb S0 H := by
  refine ⟨hP.1.trans (by rw [bo_len]; rfl), hb, fun k e he => ?_⟩
  by_cases h3 : k < 183
  · by_cases h8 : k = 68
    · subst h8
      cases he
      have h1 := hP.2 68 (.inl (ct 4, 8, .inr (.inr (.inr (.inr (fr11 B 8)))))) rfl
      have h2 : H[B + 68]? = some (vp_cell (ct 4) (8, .inr (.inr (.inr (.inr (fr11 B 8)))))) := h1
      show H[B + 68]? = some (vp_cell (ct 4) (8, .inr (.inr (.inr (.inr (fun j => some (B + (70 + 2 * j))))))))
      rw [h2, vp_cell_q, vp_cell_q, arrV_ext (bo_fr (B := B))]
    · exact hP.2 k e ((bo_all k h3 h8).symm.trans he)
  · exfalso
    unfold lay at he
    rw [List.getElem?_eq_none (show (layT B ct).length ≤ k from (show (layT B ct).length = 183 from rfl) ▸ Nat.le_of_not_lt h3)] at he
    have hg : gp S0 k = none := by
      show (if k = 3 then some ((0 : Nat), (0 : Int32)) else if k = 21 then some (0, 0) else if k = 39 then some (0, 0) else if k = 69 then some (0, 0) else none) = none
      rw [if_neg (by omega), if_neg (by omega), if_neg (by omega), if_neg (by omega)]
    simp only [ePl, hg] at he
    cases he
end BORN
def F0' : Nat → Nat → Int32 := fun r i => if r = 14 then (if i % 5 = 0 then 1 else 0) else if r = 15 then (if i = 0 then 15 else if i = 1 then 1 else 4) else 0
def T0 : TT := ((0, 0, 0), fun _ => 0, F0')
def M0 : MM := (T0, none, fun _ => (0, (0, 0), (0, 0), fun _ => 0))
theorem lt4 {a : Nat} (h : a < 4) : a = 0 ∨ a = 1 ∨ a = 2 ∨ a = 3 := by omega
theorem WT0 : WT T0 := by
  refine ⟨Nat.zero_le _, Nat.zero_le _, Nat.zero_le _, fun p hp => absurd hp (Nat.not_lt_zero p), fun p hp => absurd hp (Nat.not_lt_zero p), fun p hp => absurd hp (Nat.not_lt_zero p), fun a b ha hb => ?_, fun a ha => ?_, ⟨15, by decide, rfl⟩, ⟨1, by decide, rfl⟩, ⟨4, by decide, by decide, rfl⟩⟩
  · rcases lt4 ha with rfl | rfl | rfl | rfl <;> rcases lt4 hb with rfl | rfl | rfl | rfl <;> decide +kernel
  · rcases lt4 ha with rfl | rfl | rfl | rfl <;> decide +kernel
theorem IC0 : IC S0 M0 := by
  refine ⟨Nat.le_refl _, WT0, ⟨rfl, rfl, rfl, fun p hp => absurd hp (Nat.not_lt_zero p), fun p hp => absurd hp (Nat.not_lt_zero p), fun p hp => absurd hp (Nat.not_lt_zero p), fun a b ha hb => ?_, fun i hi => ?_⟩, fun p hp => ⟨3, (0, 0), ?_, rfl, by decide⟩, rfl, fun T h => (by cases h), fun d hd => ⟨rfl, Nat.zero_le _, ⟨69, (0, 0), ?_, rfl, by decide, fun q => absurd (show (0 : Nat) = 1 from q) (by decide)⟩, fun q => absurd (show (0 : Nat) = 2 from q) (by decide)⟩⟩
  · rcases lt4 ha with rfl | rfl | rfl | rfl <;> rcases lt4 hb with rfl | rfl | rfl | rfl <;> decide +kernel
  · rcases (show i = 0 ∨ i = 1 ∨ i = 2 by omega) with rfl | rfl | rfl <;> rfl
  · rcases (show p = 0 ∨ p = 1 ∨ p = 2 ∨ p = 3 ∨ p = 4 ∨ p = 5 ∨ p = 6 ∨ p = 7 by omega) with rfl | rfl | rfl | rfl | rfl | rfl | rfl | rfl <;> rfl
  · rcases (show d = 0 ∨ d = 1 ∨ d = 2 ∨ d = 3 ∨ d = 4 ∨ d = 5 ∨ d = 6 ∨ d = 7 by omega) with rfl | rfl | rfl | rfl | rfl | rfl | rfl | rfl <;> rfl
theorem IR0 : IR S0 M0 := by
  refine ⟨WT0, ⟨rfl, rfl, rfl, fun p hp => absurd hp (Nat.not_lt_zero p), fun p hp => absurd hp (Nat.not_lt_zero p), fun p hp => absurd hp (Nat.not_lt_zero p), fun i hi => ?_, rfl, rfl, rfl⟩, rfl, rfl, rfl, fun T h => (by cases h), fun d hd => ⟨rfl, fun q => absurd (show (0 : Nat) = 1 from q) (by decide), fun q => absurd (show (0 : Nat) = 2 from q) (by decide)⟩⟩
  rcases (show i = 0 ∨ i = 1 ∨ i = 2 ∨ i = 3 ∨ i = 4 ∨ i = 5 ∨ i = 6 ∨ i = 7 ∨ i = 8 ∨ i = 9 ∨ i = 10 ∨ i = 11 ∨ i = 12 ∨ i = 13 ∨ i = 14 ∨ i = 15 by omega) with rfl | rfl | rfl | rfl | rfl | rfl | rfl | rfl | rfl | rfl | rfl | rfl | rfl | rfl | rfl | rfl <;> decide +kernel
