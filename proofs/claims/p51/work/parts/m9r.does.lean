section DOES
variable {S0 S1 X Y : St} {d p k : Nat} {W : Sh} {T T0 : TT}
theorem ok_f {w : Nat → Int32} {n p z : Nat} (ok : okW w n p = true) (e : shW w n p = z) (k : Nat) (c : Int32) (hk : k < slz z) (hc : shC' z k = c) : fitsB c (chW w n (p + 1 + k)) = true := by
  obtain ⟨h1, h2, h3⟩ := okW_of ok
  have f := h3 k (by rw [e]; exact hk)
  unfold fW at f
  rw [e, hc] at f
  exact f
theorem cr_116 (rc : rowC X d W) (hp : p ≤ 99) (ok : okW W.2.2.2 W.2.2.1.2 p = true) (hc : hrW W.2.2.2 W.2.2.1.2 p = 116) : ∃ a v w h, a < 10 ∧ v < 100 ∧ w < 100 ∧ h < 100 ∧ L_X10_hearStatement 19 (70 + 2 * d) (nI p) X = L_X10_addPlant 19 (nI a) (sv W.2.2.2 (p + 1 + 1)) (nI v) (nI w) (nI h) X ∧ dv W.2.2.2 (p + 1 + 0) 1 = nI a ∧ dv W.2.2.2 (p + 1 + 2) 2 = nI v ∧ dv W.2.2.2 (p + 1 + 4) 2 = nI w ∧ dv W.2.2.2 (p + 1 + 6) 2 = nI h := by
  have e : shW W.2.2.2 W.2.2.1.2 p = 2 := by rw [← shp_hr, hc]; decide
  have q := okW_in ok
  have ec : chW W.2.2.2 W.2.2.1.2 p = 116 := by rw [← hc]; unfold chW hrW; rw [if_pos (by omega), if_pos (by omega)]
  obtain ⟨a, a1, a2, a3⟩ := dig_1 (ok_f ok e 0 48 (by decide) (by decide))
  have s := sgn_1 (ok_f ok e 1 43 (by decide) (by decide))
  obtain ⟨b, b1, b2, b3⟩ := dig_1 (ok_f ok e 2 48 (by decide) (by decide))
  obtain ⟨c, c1, c2, c3⟩ := dig_1 (ok_f ok e 3 48 (by decide) (by decide))
  obtain ⟨f, f1, f2, f3⟩ := dig_1 (ok_f ok e 4 48 (by decide) (by decide))
  obtain ⟨g, g1, g2, g3⟩ := dig_1 (ok_f ok e 5 48 (by decide) (by decide))
  obtain ⟨h, h1, h2, h3⟩ := dig_1 (ok_f ok e 6 48 (by decide) (by decide))
  obtain ⟨i, i1, i2, i3⟩ := dig_1 (ok_f ok e 7 48 (by decide) (by decide))
  refine ⟨a, 10 * b + c, 10 * f + g, 10 * h + i, a1, by omega, by omega, by omega, ?_, dv_1 a2, dv_2 b2 c2, dv_2 f2 g2, dv_2 h2 i2⟩
  unfold L_X10_hearStatement b_X10_hearStatement_0
  rw [at_W rc (by omega), Option.bind_some, ec, if_neg (show ¬ (116 : Int32) = 100 by decide), if_neg (show ¬ (116 : Int32) = 101 by decide), if_neg (show ¬ (116 : Int32) = 102 by decide), if_neg (show ¬ (116 : Int32) = 103 by decide), if_neg (show ¬ (116 : Int32) = 104 by decide), if_neg (show ¬ (116 : Int32) = 105 by decide), if_neg (show ¬ (116 : Int32) = 106 by decide), if_neg (show ¬ (116 : Int32) = 107 by decide), if_neg (show ¬ (116 : Int32) = 108 by decide), if_neg (show ¬ (116 : Int32) = 109 by decide), if_neg (show ¬ (116 : Int32) = 110 by decide), if_neg (show ¬ (116 : Int32) = 111 by decide), if_neg (show ¬ (116 : Int32) = 112 by decide), if_neg (show ¬ (116 : Int32) = 113 by decide), if_neg (show ¬ (116 : Int32) = 114 by decide), if_neg (show ¬ (116 : Int32) = 115 by decide), if_pos rfl, show nI p + 1 = nI (p + 1 + 0) from nI_o p 0, show nI p + 2 = nI (p + 1 + 1) from nI_o p 1, show nI p + 3 = nI (p + 1 + 2) from nI_o p 2, show nI p + 5 = nI (p + 1 + 4) from nI_o p 4, show nI p + 7 = nI (p + 1 + 6) from nI_o p 6, digAt rc (by omega) a2 a3, Option.bind_some, signAt rc (by omega) s, Option.bind_some, pairAt rc (by omega) b2 b3 c2 c3, Option.bind_some, pairAt rc (by omega) f2 f3 g2 g3, Option.bind_some, pairAt rc (by omega) h2 h3 i2 i3, Option.bind_some]
  exact bd_eta _
end DOES
