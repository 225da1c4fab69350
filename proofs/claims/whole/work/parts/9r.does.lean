/-! town: what a STATEMENT does, on both sides. -/
def UpW (S0 X : St) : Prop := (∀ a, (a < 19 ∨ 37 ≤ a ∧ a < 55 ∨ 66 ≤ a ∧ a < 86 ∨ 136 ≤ a) → gi X a = gi S0 a ∧ gr X a = gr S0 a) ∧ (∀ a, gl X a = gl S0 a) ∧ (∀ q, q < tp S0 → gp X q = gp S0 q) ∧ tp S0 ≤ tp X
def CW (S0 X : St) (T : TT) : Prop := UpW S0 X ∧ WT T ∧ repC X 19 T ∧ full X 19 ∧ 183 ≤ tp S0
def RW (S1 Y : St) (T0 : TT) : Prop := UpE S1 Y ∧ gi Y 136 29 = 63 ∧ gi Y 136 30 = 0 ∧ imgR (gi Y 172) T0 ∧ WT T0
def KE (Y Y' : St) : Prop := gi Y' 174 = gi Y 174 ∧ gi Y' 175 = gi Y 175 ∧ gi Y' 176 = gi Y 176 ∧ gi Y' 136 53 = gi Y 136 53
def STEP (S0 S1 : St) (T0 : TT) (d p k : Nat) (X Y : St) : Prop :=
  (∃ T' r X' Y', L_X10_hearStatement 19 (70 + 2 * d) (nI p) X = some (r, X') ∧ 0 ≤ r ∧ CW S0 X' T' ∧ L_X12_comesTold (nI k) Y = some (1, Y') ∧ KE Y Y' ∧ RO S1 Y' T' T0) ∨
  (∃ r X' Y', L_X10_hearStatement 19 (70 + 2 * d) (nI p) X = some (r, X') ∧ r < 0 ∧ UpW S0 X' ∧ L_X12_comesTold (nI k) Y = some (0, Y') ∧ KE Y Y' ∧ RW S1 Y' T0)
theorem bd_eta (x : Option (Int32 × St)) : (x.bind fun r => some (r.1, r.2)) = x := by cases x <;> rfl
theorem n0_le {a : Nat} (h : a < 2 ^ 31) : (0 : Int32) ≤ nI a := Int32.not_lt.mp (nI_pos h)
theorem ok_f {w : Nat → Int32} {n p z : Nat} (ok : okW w n p = true) (e : shW w n p = z) (k : Nat) (c : Int32) (hk : k < slz z) (hc : shC' z k = c) : fitsB c (chW w n (p + 1 + k)) = true := by
  obtain ⟨h1, h2, h3⟩ := okW_of ok
  have f := h3 k (by rw [e]; exact hk)
  unfold fW at f
  rw [e, hc] at f
  exact f
theorem nI_o (p j : Nat) : nI p + nI (j + 1) = nI (p + 1 + j) := by
  rw [nI_add]
  congr 1
  omega
theorem KE_refl (Y : St) : KE Y Y := ⟨rfl, rfl, rfl, rfl⟩
theorem KE_tr {Y Y' Y'' : St} (h1 : KE Y Y') (h2 : KE Y' Y'') : KE Y Y'' := ⟨h2.1.trans h1.1, h2.2.1.trans h1.2.1, h2.2.2.1.trans h1.2.2.1, h2.2.2.2.trans h1.2.2.2⟩
theorem KE_FR {Y Y' : St} (f : FR (fun a => 136 ≤ a ∧ a < 153) Y Y') (e : gi Y' 136 53 = gi Y 136 53) : KE Y Y' := ⟨f.1 174 (fun z => absurd z.2 (by decide)), f.1 175 (fun z => absurd z.2 (by decide)), f.1 176 (fun z => absurd z.2 (by decide)), e⟩
theorem RW_of {S1 Y : St} {T T0 : TT} (h : RO S1 Y T T0) : RW S1 Y T0 := ⟨h.1.1, h.1.2.2.2.1, h.1.2.2.2.2, h.2.1, h.2.2⟩
theorem UpE_T {S1 Y Y' : St} (h : UpE S1 Y) (f : FR (fun a => 136 ≤ a ∧ a < 153) Y Y') (e : gi Y' 136 46 = gi Y 136 46) : UpE S1 Y' :=
  UpE_tr h ⟨UpR_FR (fun a z => z.1) f, fun a ha => f.1 a (fun z => by have := z.2; omega), FR_gl f 158, e⟩
theorem RW_town {S1 Y Y' : St} {T0 : TT} (h : RW S1 Y T0) (f : FR (fun a => 136 ≤ a ∧ a < 153) Y Y') (s : gi Y' 136 29 = gi Y 136 29 ∧ gi Y' 136 30 = gi Y 136 30 ∧ gi Y' 136 46 = gi Y 136 46) : RW S1 Y' T0 :=
  ⟨UpE_T h.1 f s.2.2, s.1.trans h.2.1, s.2.1.trans h.2.2.1, by rw [f.1 172 (fun z => absurd z.2 (by decide))]; exact h.2.2.2.1, h.2.2.2.2⟩
theorem RO_town {S1 Y Y' : St} {T T' T0 : TT} (h : RO S1 Y T T0) (hW : WT T') (hR : repR Y' T') (f : FR (fun a => 136 ≤ a ∧ a < 153) Y Y') (s : gi Y' 136 29 = gi Y 136 29 ∧ gi Y' 136 30 = gi Y 136 30 ∧ gi Y' 136 46 = gi Y 136 46) : RO S1 Y' T' T0 := by
  have w := RW_town (RW_of h) f s
  exact ⟨⟨w.1, hW, hR, w.2.1, w.2.2.1⟩, w.2.2.2.1, w.2.2.2.2⟩
theorem UpW_refl (S : St) : UpW S S := ⟨fun _ _ => ⟨rfl, rfl⟩, fun _ => rfl, fun _ _ => rfl, Nat.le_refl _⟩
theorem UpW_FT {S0 X X' : St} (h : UpW S0 X) (f : FT 19 X X') : UpW S0 X' :=
  ⟨fun a ha => ⟨(f.1 a (fun z => by have := z.1; have := z.2; omega)).1.trans (h.1 a ha).1, (f.1 a (fun z => by have := z.1; have := z.2; omega)).2.trans (h.1 a ha).2⟩, fun a => (f.2.1 a).trans (h.2.1 a), fun q hq => (f.2.2.1 q).trans (h.2.2.1 q hq), by rw [f.2.2.2]; exact h.2.2.2⟩
theorem UpW_sp {S0 X : St} (h : UpW S0 X) (k : Nat) (fg : Int32) : UpW S0 (sp X k fg) :=
  ⟨fun a ha => h.1 a ha, fun a => h.2.1 a, fun q hq => (gp_old k fg (Nat.lt_of_lt_of_le hq h.2.2.2)).trans (h.2.2.1 q hq), Nat.le_succ_of_le h.2.2.2⟩
theorem CW_FR {S0 X X' : St} {T T' : TT} (h : CW S0 X T) (hW : WT T') (hR : repC X' 19 T') (f : FR (PT 19) X X') : CW S0 X' T' :=
  ⟨UpW_FT h.1 (FT_FR f), hW, hR, full_congr (FR_gr f 20) (fun q _ => FR_gp f q) (Nat.le_of_eq (FR_tp f).symm) h.2.2.2.1, h.2.2.2.2⟩
theorem repC_sp {X : St} {t : Nat} {T : TT} (hW : WT T) (hR : repC X t T) (hf : full X t) (k : Nat) (fg : Int32) : repC (sp X k fg) t T := by
  obtain ⟨a1, a2, a3, a4, a5⟩ := hR
  refine ⟨a1, a2, a3, fun p hp => ?_, a5⟩
  obtain ⟨⟨q, e1, e2⟩, b⟩ := a4 p hp
  obtain ⟨q', z, f1, f2, f3⟩ := hf p (by have := hW.1; omega)
  have : q' = q := Option.some.inj (f1.symm.trans e1)
  subst this
  exact ⟨⟨q', e1, by rw [gq_local (gp_old k fg f3)]; exact e2⟩, b⟩
theorem CW_sp {S0 X : St} {T : TT} (h : CW S0 X T) (k : Nat) (fg : Int32) : CW S0 (sp X k fg) T :=
  ⟨UpW_sp h.1 k fg, h.2.1, repC_sp h.2.1 h.2.2.1 h.2.2.2.1 k fg, full_congr (S := X) rfl (fun q hq => gp_old k fg hq) (Nat.le_succ _) h.2.2.2.1, h.2.2.2.2⟩
section DOES
variable {S0 S1 X Y : St} {d p k : Nat} {W : Sh} {T T0 : TT}
theorem cr_102 (rc : rowC X d W) (hp : p ≤ 99) (ok : okW W.2.2.2 W.2.2.1.2 p = true) (hc : hrW W.2.2.2 W.2.2.1.2 p = 102) : ∃ a b h, a < 10 ∧ b < 10 ∧ h < 100 ∧ L_X10_hearStatement 19 (70 + 2 * d) (nI p) X = L_X10_addFact 19 (nI a) (sv W.2.2.2 (p + 1 + 1) * nI b) (nI h) X ∧ dv W.2.2.2 (p + 1 + 0) 1 = nI a ∧ dv W.2.2.2 (p + 1 + 2) 1 = nI b ∧ dv W.2.2.2 (p + 1 + 3) 2 = nI h := by
  have e : shW W.2.2.2 W.2.2.1.2 p = 0 := by rw [← shp_hr, hc]; decide
  have q := okW_in ok
  have ec : chW W.2.2.2 W.2.2.1.2 p = 102 := by rw [← hc]; unfold chW hrW; rw [if_pos (by omega), if_pos (by omega)]
  obtain ⟨a, a1, a2, a3⟩ := dig_1 (ok_f ok e 0 48 (by decide) (by decide))
  have s := sgn_1 (ok_f ok e 1 43 (by decide) (by decide))
  obtain ⟨b, b1, b2, b3⟩ := dig_1 (ok_f ok e 2 48 (by decide) (by decide))
  obtain ⟨h, h1, h2, h3⟩ := dig_1 (ok_f ok e 3 48 (by decide) (by decide))
  obtain ⟨i, i1, i2, i3⟩ := dig_1 (ok_f ok e 4 48 (by decide) (by decide))
  refine ⟨a, b, 10 * h + i, a1, b1, by omega, ?_, dv_1 a2, dv_1 b2, dv_2 h2 i2⟩
  unfold L_X10_hearStatement b_X10_hearStatement_0
  rw [at_W rc (by omega), Option.bind_some, ec, if_neg (show ¬ (102 : Int32) = 100 by decide), if_neg (show ¬ (102 : Int32) = 101 by decide), if_pos rfl, show nI p + 1 = nI (p + 1 + 0) from nI_o p 0, show nI p + 2 = nI (p + 1 + 1) from nI_o p 1, show nI p + 4 = nI (p + 1 + 3) from nI_o p 3, digAt rc (by omega) a2 a3, Option.bind_some, signedAt rc (by omega) s b2 b3, Option.bind_some, pairAt rc (by omega) h2 h3 i2 i3, Option.bind_some]
  exact bd_eta _
theorem cr_116 (rc : rowC X d W) (hp : p ≤ 99) (ok : okW W.2.2.2 W.2.2.1.2 p = true) (hc : hrW W.2.2.2 W.2.2.1.2 p = 116) : ∃ a v w h, a < 10 ∧ v < 100 ∧ w < 100 ∧ h < 100 ∧ L_X10_hearStatement 19 (70 + 2 * d) (nI p) X = L_X10_addPlant 19 (nI a) (sv W.2.2.2 (p + 1 + 1)) (nI v) (nI w) (nI h) X ∧ dv W.2.2.2 (p + 1 + 0) 1 = nI a ∧ dv W.2.2.2 (p + 1 + 2) 2 = nI v ∧ dv W.2.2.2 (p + 1 + 4) 2 = nI w ∧ dv W.2.2.2 (p + 1 + 6) 2 = nI h := by
  have e : shW W.2.2.2 W.2.2.1.2 p = 2 := by rw [← shp_hr, hc]; decide
  have q := okW_in ok
  have ec : chW W.2.2.2 W.2.2.1.2 p = 116 := by rw [← hc]; unfold chW hrW; rw [if_pos (by omega), if_pos (by omega)]
  obtain ⟨a, a1, a2, a3⟩ := dig_1 (ok_f ok e 0 48 (by decide) (by decide))
  have s := sgn_1 (ok_f ok e 1 43 (by decide) (by decide))
  obtain ⟨b, b1, b2, b3⟩ := dig_1 (ok_f ok e 2 48 (by decide) (by decide))
  obtain ⟨c, c1, c2, c3⟩ := dig_1 (ok_f ok e 3 48 (by decide) (by decide))
  obtain ⟨f, f1, f2, f3⟩ := dig_1 (ok_f ok e 4 48 (by decide) (by decide))
  obtain ⟨g, g1, g2, g3⟩ := dig_1 (ok_f ok e 5 48 (by decide) (by decide))
  obtain ⟨h, h1, h2, h3⟩ := dig_1 (ok_f ok e 6 48 (by decide) (by decide))
  obtain ⟨i, i1, i2, i3⟩ := dig_1 (ok_f ok e 7 48 (by decide) (by decide))
  refine ⟨a, 10 * b + c, 10 * f + g, 10 * h + i, a1, by omega, by omega, by omega, ?_, dv_1 a2, dv_2 b2 c2, dv_2 f2 g2, dv_2 h2 i2⟩
  unfold L_X10_hearStatement b_X10_hearStatement_0
  rw [at_W rc (by omega), Option.bind_some, ec, if_neg (show ¬ (116 : Int32) = 100 by decide), if_neg (show ¬ (116 : Int32) = 101 by decide), if_neg (show ¬ (116 : Int32) = 102 by decide), if_neg (show ¬ (116 : Int32) = 103 by decide), if_neg (show ¬ (116 : Int32) = 104 by decide), if_neg (show ¬ (116 : Int32) = 105 by decide), if_neg (show ¬ (116 : Int32) = 106 by decide), if_neg (show ¬ (116 : Int32) = 107 by decide), if_neg (show ¬ (116 : Int32) = 108 by decide), if_neg (show ¬ (116 : Int32) = 109 by decide), if_neg (show ¬ (116 : Int32) = 110 by decide), if_neg (show ¬ (116 : Int32) = 111 by decide), if_neg (show ¬ (116 : Int32) = 112 by decide), if_neg (show ¬ (116 : Int32) = 113 by decide), if_neg (show ¬ (116 : Int32) = 114 by decide), if_neg (show ¬ (116 : Int32) = 115 by decide), if_pos rfl, show nI p + 1 = nI (p + 1 + 0) from nI_o p 0, show nI p + 2 = nI (p + 1 + 1) from nI_o p 1, show nI p + 3 = nI (p + 1 + 2) from nI_o p 2, show nI p + 5 = nI (p + 1 + 4) from nI_o p 4, show nI p + 7 = nI (p + 1 + 6) from nI_o p 6, digAt rc (by omega) a2 a3, Option.bind_some, signAt rc (by omega) s, Option.bind_some, pairAt rc (by omega) b2 b3 c2 c3, Option.bind_some, pairAt rc (by omega) f2 f3 g2 g3, Option.bind_some, pairAt rc (by omega) h2 h3 i2 i3, Option.bind_some]
  exact bd_eta _
theorem cr_107 (rc : rowC X d W) (hp : p ≤ 99) (ok : okW W.2.2.2 W.2.2.1.2 p = true) (hc : hrW W.2.2.2 W.2.2.1.2 p = 107) : ∃ a b, a < 10 ∧ b < 10 ∧ L_X10_hearStatement 19 (70 + 2 * d) (nI p) X = L_X10_turnKin 19 (nI a) (nI b) X ∧ dv W.2.2.2 (p + 1 + 0) 1 = nI a ∧ dv W.2.2.2 (p + 1 + 1) 1 = nI b := by
  have e : shW W.2.2.2 W.2.2.1.2 p = 3 := by rw [← shp_hr, hc]; decide
  have q := okW_in ok
  have ec : chW W.2.2.2 W.2.2.1.2 p = 107 := by rw [← hc]; unfold chW hrW; rw [if_pos (by omega), if_pos (by omega)]
  obtain ⟨a, a1, a2, a3⟩ := dig_1 (ok_f ok e 0 48 (by decide) (by decide))
  obtain ⟨b, b1, b2, b3⟩ := dig_1 (ok_f ok e 1 48 (by decide) (by decide))
  refine ⟨a, b, a1, b1, ?_, dv_1 a2, dv_1 b2⟩
  unfold L_X10_hearStatement b_X10_hearStatement_0
  rw [at_W rc (by omega), Option.bind_some, ec, if_neg (show ¬ (107 : Int32) = 100 by decide), if_neg (show ¬ (107 : Int32) = 101 by decide), if_neg (show ¬ (107 : Int32) = 102 by decide), if_neg (show ¬ (107 : Int32) = 103 by decide), if_neg (show ¬ (107 : Int32) = 104 by decide), if_neg (show ¬ (107 : Int32) = 105 by decide), if_neg (show ¬ (107 : Int32) = 106 by decide), if_pos rfl, show nI p + 1 = nI (p + 1 + 0) from nI_o p 0, show nI p + 2 = nI (p + 1 + 1) from nI_o p 1, digAt rc (by omega) a2 a3, Option.bind_some, digAt rc (by omega) b2 b3, Option.bind_some]
  exact bd_eta _
theorem cr_111 (rc : rowC X d W) (hp : p ≤ 99) (ok : okW W.2.2.2 W.2.2.1.2 p = true) (hc : hrW W.2.2.2 W.2.2.1.2 p = 111) : ∃ h, h < 100 ∧ L_X10_hearStatement 19 (70 + 2 * d) (nI p) X = L_X10_changeRule 19 0 (nI h) X ∧ dv W.2.2.2 (p + 1 + 0) 2 = nI h := by
  have e : shW W.2.2.2 W.2.2.1.2 p = 3 := by rw [← shp_hr, hc]; decide
  have q := okW_in ok
  have ec : chW W.2.2.2 W.2.2.1.2 p = 111 := by rw [← hc]; unfold chW hrW; rw [if_pos (by omega), if_pos (by omega)]
  obtain ⟨a, a1, a2, a3⟩ := dig_1 (ok_f ok e 0 48 (by decide) (by decide))
  obtain ⟨b, b1, b2, b3⟩ := dig_1 (ok_f ok e 1 48 (by decide) (by decide))
  refine ⟨10 * a + b, by omega, ?_, dv_2 a2 b2⟩
  unfold L_X10_hearStatement b_X10_hearStatement_0
  rw [at_W rc (by omega), Option.bind_some, ec, if_neg (show ¬ (111 : Int32) = 100 by decide), if_neg (show ¬ (111 : Int32) = 101 by decide), if_neg (show ¬ (111 : Int32) = 102 by decide), if_neg (show ¬ (111 : Int32) = 103 by decide), if_neg (show ¬ (111 : Int32) = 104 by decide), if_neg (show ¬ (111 : Int32) = 105 by decide), if_neg (show ¬ (111 : Int32) = 106 by decide), if_neg (show ¬ (111 : Int32) = 107 by decide), if_neg (show ¬ (111 : Int32) = 108 by decide), if_neg (show ¬ (111 : Int32) = 109 by decide), if_neg (show ¬ (111 : Int32) = 110 by decide), if_pos rfl, show nI p + 1 = nI (p + 1 + 0) from nI_o p 0, pairAt rc (by omega) a2 a3 b2 b3, Option.bind_some]
  exact bd_eta _
theorem cr_100 (rc : rowC X d W) (hp : p ≤ 99) (ok : okW W.2.2.2 W.2.2.1.2 p = true) (hc : hrW W.2.2.2 W.2.2.1.2 p = 100) : ∃ a, a < 10 ∧ L_X10_hearStatement 19 (70 + 2 * d) (nI p) X = L_X10_changeRule 19 1 (nI a) X ∧ dv W.2.2.2 (p + 1 + 0) 1 = nI a := by
  have e : shW W.2.2.2 W.2.2.1.2 p = 4 := by rw [← shp_hr, hc]; decide
  have q := okW_in ok
  have ec : chW W.2.2.2 W.2.2.1.2 p = 100 := by rw [← hc]; unfold chW hrW; rw [if_pos (by omega), if_pos (by omega)]
  obtain ⟨a, a1, a2, a3⟩ := dig_1 (ok_f ok e 0 48 (by decide) (by decide))
  refine ⟨a, a1, ?_, dv_1 a2⟩
  unfold L_X10_hearStatement b_X10_hearStatement_0
  rw [at_W rc (by omega), Option.bind_some, ec, if_pos rfl, show nI p + 1 = nI (p + 1 + 0) from nI_o p 0, digAt rc (by omega) a2 a3, Option.bind_some]
  exact bd_eta _
theorem cr_114 (rc : rowC X d W) (hp : p ≤ 99) (ok : okW W.2.2.2 W.2.2.1.2 p = true) (hc : hrW W.2.2.2 W.2.2.1.2 p = 114) : ∃ a, a < 10 ∧ L_X10_hearStatement 19 (70 + 2 * d) (nI p) X = L_X10_changeRule 19 2 (nI a) X ∧ dv W.2.2.2 (p + 1 + 0) 1 = nI a := by
  have e : shW W.2.2.2 W.2.2.1.2 p = 4 := by rw [← shp_hr, hc]; decide
  have q := okW_in ok
  have ec : chW W.2.2.2 W.2.2.1.2 p = 114 := by rw [← hc]; unfold chW hrW; rw [if_pos (by omega), if_pos (by omega)]
  obtain ⟨a, a1, a2, a3⟩ := dig_1 (ok_f ok e 0 48 (by decide) (by decide))
  refine ⟨a, a1, ?_, dv_1 a2⟩
  unfold L_X10_hearStatement b_X10_hearStatement_0
  rw [at_W rc (by omega), Option.bind_some, ec, if_neg (show ¬ (114 : Int32) = 100 by decide), if_neg (show ¬ (114 : Int32) = 101 by decide), if_neg (show ¬ (114 : Int32) = 102 by decide), if_neg (show ¬ (114 : Int32) = 103 by decide), if_neg (show ¬ (114 : Int32) = 104 by decide), if_neg (show ¬ (114 : Int32) = 105 by decide), if_neg (show ¬ (114 : Int32) = 106 by decide), if_neg (show ¬ (114 : Int32) = 107 by decide), if_neg (show ¬ (114 : Int32) = 108 by decide), if_neg (show ¬ (114 : Int32) = 109 by decide), if_neg (show ¬ (114 : Int32) = 110 by decide), if_neg (show ¬ (114 : Int32) = 111 by decide), if_neg (show ¬ (114 : Int32) = 112 by decide), if_neg (show ¬ (114 : Int32) = 113 by decide), if_pos rfl, show nI p + 1 = nI (p + 1 + 0) from nI_o p 0, digAt rc (by omega) a2 a3, Option.bind_some]
  exact bd_eta _
theorem cr_112 (rc : rowC X d W) (hp : p ≤ 99) (ok : okW W.2.2.2 W.2.2.1.2 p = true) (t183 : 183 ≤ tp X) (hc : hrW W.2.2.2 W.2.2.1.2 p = 112) : ∃ a b c h m o, a < 10 ∧ b < 10 ∧ c < 10 ∧ h < 100 ∧ m < 10 ∧ o < 100 ∧ (¬ a < 8 → L_X10_hearStatement 19 (70 + 2 * d) (nI p) X = some (-1, X)) ∧ (a < 8 → L_X10_hearStatement 19 (70 + 2 * d) (nI p) X = L_X10_addOne 19 (tp X) (nI c) (nI h) (sv W.2.2.2 (p + 1 + 5) * nI m) (nI o) (sp X a (nI b))) ∧ dv W.2.2.2 (p + 1 + 0) 1 = nI a ∧ dv W.2.2.2 (p + 1 + 1) 1 = nI b ∧ dv W.2.2.2 (p + 1 + 2) 1 = nI c ∧ dv W.2.2.2 (p + 1 + 3) 2 = nI h ∧ dv W.2.2.2 (p + 1 + 6) 1 = nI m ∧ dv W.2.2.2 (p + 1 + 7) 2 = nI o := by
  have e : shW W.2.2.2 W.2.2.1.2 p = 1 := by rw [← shp_hr, hc]; decide
  have q := okW_in ok
  have ec : chW W.2.2.2 W.2.2.1.2 p = 112 := by rw [← hc]; unfold chW hrW; rw [if_pos (by omega), if_pos (by omega)]
  obtain ⟨a, a1, a2, a3⟩ := dig_1 (ok_f ok e 0 48 (by decide) (by decide))
  obtain ⟨b, b1, b2, b3⟩ := dig_1 (ok_f ok e 1 48 (by decide) (by decide))
  obtain ⟨c, c1, c2, c3⟩ := dig_1 (ok_f ok e 2 48 (by decide) (by decide))
  obtain ⟨f, f1, f2, f3⟩ := dig_1 (ok_f ok e 3 48 (by decide) (by decide))
  obtain ⟨g, g1, g2, g3⟩ := dig_1 (ok_f ok e 4 48 (by decide) (by decide))
  have s := sgn_1 (ok_f ok e 5 43 (by decide) (by decide))
  obtain ⟨m, m1, m2, m3⟩ := dig_1 (ok_f ok e 6 48 (by decide) (by decide))
  obtain ⟨h, h1, h2, h3⟩ := dig_1 (ok_f ok e 7 48 (by decide) (by decide))
  obtain ⟨i, i1, i2, i3⟩ := dig_1 (ok_f ok e 8 48 (by decide) (by decide))
  refine ⟨a, b, c, 10 * f + g, m, 10 * h + i, a1, b1, c1, by omega, m1, by omega, fun na => ?_, fun a8 => ?_, dv_1 a2, dv_1 b2, dv_1 c2, dv_2 f2 g2, dv_1 m2, dv_2 h2 i2⟩
  · have n8 : ¬ nI a ≤ 7 := fun z => by have := (nI_leI (a := a) (b := 7) (by omega) (by decide)).mp z; omega
    unfold L_X10_hearStatement b_X10_hearStatement_0
    rw [at_W rc (by omega), Option.bind_some, ec, if_neg (show ¬ (112 : Int32) = 100 by decide), if_neg (show ¬ (112 : Int32) = 101 by decide), if_neg (show ¬ (112 : Int32) = 102 by decide), if_neg (show ¬ (112 : Int32) = 103 by decide), if_neg (show ¬ (112 : Int32) = 104 by decide), if_neg (show ¬ (112 : Int32) = 105 by decide), if_neg (show ¬ (112 : Int32) = 106 by decide), if_neg (show ¬ (112 : Int32) = 107 by decide), if_neg (show ¬ (112 : Int32) = 108 by decide), if_neg (show ¬ (112 : Int32) = 109 by decide), if_neg (show ¬ (112 : Int32) = 110 by decide), if_neg (show ¬ (112 : Int32) = 111 by decide), if_pos rfl]
    rw [show nI p + 1 = nI (p + 1 + 0) from nI_o p 0, digAt rc (by omega) a2 a3, Option.bind_some, if_neg n8]
  · have y8 : nI a ≤ 7 := (nI_leI (a := a) (b := 7) (by omega) (by decide)).mpr (by omega)
    have rc' : rowC (sp X a (nI b)) d W := rc
    unfold L_X10_hearStatement b_X10_hearStatement_0
    rw [at_W rc (by omega), Option.bind_some, ec, if_neg (show ¬ (112 : Int32) = 100 by decide), if_neg (show ¬ (112 : Int32) = 101 by decide), if_neg (show ¬ (112 : Int32) = 102 by decide), if_neg (show ¬ (112 : Int32) = 103 by decide), if_neg (show ¬ (112 : Int32) = 104 by decide), if_neg (show ¬ (112 : Int32) = 105 by decide), if_neg (show ¬ (112 : Int32) = 106 by decide), if_neg (show ¬ (112 : Int32) = 107 by decide), if_neg (show ¬ (112 : Int32) = 108 by decide), if_neg (show ¬ (112 : Int32) = 109 by decide), if_neg (show ¬ (112 : Int32) = 110 by decide), if_neg (show ¬ (112 : Int32) = 111 by decide), if_pos rfl]
    rw [show nI p + 1 = nI (p + 1 + 0) from nI_o p 0, digAt rc (by omega) a2 a3, Option.bind_some, if_pos y8, Option.bind_some, show nI p + 2 = nI (p + 1 + 1) from nI_o p 1, digAt rc (by omega) b2 b3, Option.bind_some, C_one t183 a8, Option.bind_some]
    dsimp only
    rw [show nI p + 3 = nI (p + 1 + 2) from nI_o p 2, show nI p + 4 = nI (p + 1 + 3) from nI_o p 3, show nI p + 6 = nI (p + 1 + 5) from nI_o p 5, show nI p + 8 = nI (p + 1 + 7) from nI_o p 7, digAt rc' (by omega) c2 c3, Option.bind_some, pairAt rc' (by omega) f2 f3 g2 g3, Option.bind_some, signedAt rc' (by omega) s m2 m3, Option.bind_some, pairAt rc' (by omega) h2 h3 i2 i3, Option.bind_some, bd_eta]
end DOES
