/-! Texts: the numbers that the reference reads. -/
def sv (w : Nat → Int32) (q : Nat) : Int32 := if w q = 45 then -1 else 1
theorem gi_tt (S : St) (i : Nat) (v : Int32) (x : Nat) : gi (si S 176 i v) 176 x = if x = i then v else gi S 176 x := by
  rw [gi_at]
  by_cases h : x = i
  · rw [if_pos h, if_pos ⟨rfl, h⟩]
  · rw [if_neg h, if_neg (fun z => h z.2)]
def RTt (X Y : St) (j : Nat) : Prop := (∀ i, i < 7 * j → gi Y 176 i = gi X 176 i) ∧ (∀ a, a ≠ 136 → a ≠ 176 → gi Y a = gi X a) ∧ ∀ i, i ≠ 51 → i ≠ 52 → gi Y 136 i = gi X 136 i
theorem RTt_refl (X : St) (j : Nat) : RTt X X j := ⟨fun _ _ => rfl, fun _ _ _ => rfl, fun _ _ _ => rfl⟩
theorem RTt_f {X Y Z : St} {j : Nat} (h : RTt X Y j) (f : FR (fun a => a = 136) Y Z) (o : ∀ i, i ≠ 51 → i ≠ 52 → gi Z 136 i = gi Y 136 i) : RTt X Z j :=
  ⟨fun i hi => by rw [f.1 176 (by decide)]; exact h.1 i hi, fun a h1 h2 => (f.1 a h1).trans (h.2.1 a h1 h2), fun i h1 h2 => (o i h1 h2).trans (h.2.2 i h1 h2)⟩
theorem RTt_t {X Y : St} {j i0 : Nat} {v : Int32} (h : RTt X Y j) (hi : 7 * j ≤ i0) : RTt X (si Y 176 i0 v) j :=
  ⟨fun i h1 => by rw [gi_tt, if_neg (by omega)]; exact h.1 i h1, fun a h1 h2 => (gi_si_n _ _ _ h2).trans (h.2.1 a h1 h2), fun i h1 h2 => by rw [gi_si_n _ _ _ (by decide)]; exact h.2.2 i h1 h2⟩
theorem v7 (j i : Nat) : nI (7 * j) + nI i = nI (7 * j + i) := nI_add _ _
section NUMS
variable {S0 X : St} {d : Nat} {w : Nat → Int32} {n p : Nat}
theorem R_n102 (hr : rowW S0 d w n) (hb : RDb S0 X) (hp : p ≤ 99) (hk : RDk X w n p 0) (hz : shW w n p = 0) {j : Nat} (hj : j ≤ 50) : ∃ Y, L_X12_readNumbers 102 (nI (7 * j)) X = some Y ∧ RDb S0 Y ∧ RDk Y w n p 5 ∧ RTt X Y j ∧ (ms (fW w n p) 5 = 5 → gi Y 176 (7 * j + 0) = dv w (p + 1 + 0) 1 ∧ gi Y 176 (7 * j + 1) = sv w (p + 1 + 1) * dv w (p + 1 + 2) 1 ∧ gi Y 176 (7 * j + 2) = dv w (p + 1 + 3) 2) := by
  have z10 : ¬ (1 : Int32) = 0 := by decide
  unfold L_X12_readNumbers b_X12_readNumbers_0
  rw [if_pos rfl]
  obtain ⟨v0, Y0, q0, b0, k0, f0, o0, x0⟩ := R_dig hr hb hp (k := 0) (m := 1) hk (by decide) (by rw [hz]; decide)
  rw [show L_X12_readDigits 1 (X) = some (v0, Y0) from q0, Option.bind_some]
  dsimp only
  rw [gd_t (inb_n (show 7 * j < 357 by omega)), nm_eq, tn_n (show 7 * j < 2 ^ 31 by omega)]
  have r0 : RTt X (si Y0 176 (7 * j) v0) j := RTt_t (RTt_f (RTt_refl X j) f0 o0) (by omega)
  have c0 : RDb S0 (si Y0 176 (7 * j) v0) := RDb_t (by decide) b0
  have d0 : RDk (si Y0 176 (7 * j) v0) w n p 1 := RDk_t (by decide) k0
  obtain ⟨v1, Y1, q1, b1, k1, f1, o1, x1⟩ := R_sgn hr c0 hp (k := 1) d0 (by decide) (by rw [hz]; decide)
  rw [q1, Option.bind_some]
  dsimp only
  rw [show nI (7 * j) + 1 = nI (7 * j + 1) from v7 j 1, gd_t (inb_n (show 7 * j + 1 < 357 by omega)), nm_eq, tn_n (show 7 * j + 1 < 2 ^ 31 by omega)]
  have r1 : RTt X (si Y1 176 (7 * j + 1) v1) j := RTt_t (RTt_f (r0) f1 o1) (by omega)
  have c1 : RDb S0 (si Y1 176 (7 * j + 1) v1) := RDb_t (by decide) b1
  have d1 : RDk (si Y1 176 (7 * j + 1) v1) w n p 2 := RDk_t (by decide) k1
  rw [gd_t (inb_n (show 7 * j + 1 < 357 by omega))]
  obtain ⟨v2, Y2, q2, b2, k2, f2, o2, x2⟩ := R_dig hr c1 hp (k := 2) (m := 1) d1 (by decide) (by rw [hz]; decide)
  rw [show L_X12_readDigits 1 (si Y1 176 (7 * j + 1) v1) = some (v2, Y2) from q2, Option.bind_some]
  dsimp only
  rw [gd_t (inb_n (show 7 * j + 1 < 357 by omega)), nm_eq]
  have r2 : RTt X (si Y2 176 (7 * j + 1) (gi (si Y1 176 (7 * j + 1) v1) 176 (7 * j + 1) * v2)) j := RTt_t (RTt_f (r1) f2 o2) (by omega)
  have c2 : RDb S0 (si Y2 176 (7 * j + 1) (gi (si Y1 176 (7 * j + 1) v1) 176 (7 * j + 1) * v2)) := RDb_t (by decide) b2
  have d2 : RDk (si Y2 176 (7 * j + 1) (gi (si Y1 176 (7 * j + 1) v1) 176 (7 * j + 1) * v2)) w n p 3 := RDk_t (by decide) k2
  obtain ⟨v3, Y3, q3, b3, k3, f3, o3, x3⟩ := R_dig hr c2 hp (k := 3) (m := 2) d2 (by decide) (by rw [hz]; decide)
  rw [show L_X12_readDigits 2 (si Y2 176 (7 * j + 1) (gi (si Y1 176 (7 * j + 1) v1) 176 (7 * j + 1) * v2)) = some (v3, Y3) from q3, Option.bind_some]
  dsimp only
  rw [show nI (7 * j) + 2 = nI (7 * j + 2) from v7 j 2, gd_t (inb_n (show 7 * j + 2 < 357 by omega)), nm_eq, tn_n (show 7 * j + 2 < 2 ^ 31 by omega)]
  have r3 : RTt X (si Y3 176 (7 * j + 2) v3) j := RTt_t (RTt_f (r2) f3 o3) (by omega)
  have c3 : RDb S0 (si Y3 176 (7 * j + 2) v3) := RDb_t (by decide) b3
  have d3 : RDk (si Y3 176 (7 * j + 2) v3) w n p 5 := RDk_t (by decide) k3
  refine ⟨_, rfl, c3, d3, r3, fun hm => ?_⟩
  have x0 := x0 (ms_all hm (by decide))
  have x1 := x1 (ms_all hm (by decide))
  have x2 := x2 (ms_all hm (by decide))
  have x3 := x3 (ms_all hm (by decide))
  have F0 : gi Y0 176 = gi (X) 176 := f0.1 176 (by decide)
  have F1 : gi Y1 176 = gi (si Y0 176 (7 * j) v0) 176 := f1.1 176 (by decide)
  have F2 : gi Y2 176 = gi (si Y1 176 (7 * j + 1) v1) 176 := f2.1 176 (by decide)
  have F3 : gi Y3 176 = gi (si Y2 176 (7 * j + 1) (gi (si Y1 176 (7 * j + 1) v1) 176 (7 * j + 1) * v2)) 176 := f3.1 176 (by decide)
  simp [gi_tt, F0, F1, F2, F3, x0, x1, x2, x3, sv]
theorem R_n112 (hr : rowW S0 d w n) (hb : RDb S0 X) (hp : p ≤ 99) (hk : RDk X w n p 0) (hz : shW w n p = 1) {j : Nat} (hj : j ≤ 50) : ∃ Y, L_X12_readNumbers 112 (nI (7 * j)) X = some Y ∧ RDb S0 Y ∧ RDk Y w n p 9 ∧ RTt X Y j ∧ (ms (fW w n p) 9 = 9 → gi Y 176 (7 * j + 0) = dv w (p + 1 + 0) 1 ∧ gi Y 176 (7 * j + 1) = dv w (p + 1 + 1) 1 ∧ gi Y 176 (7 * j + 2) = dv w (p + 1 + 2) 1 ∧ gi Y 176 (7 * j + 3) = dv w (p + 1 + 3) 2 ∧ gi Y 176 (7 * j + 4) = sv w (p + 1 + 5) * dv w (p + 1 + 6) 1 ∧ gi Y 176 (7 * j + 5) = dv w (p + 1 + 7) 2) := by
  have z10 : ¬ (1 : Int32) = 0 := by decide
  unfold L_X12_readNumbers b_X12_readNumbers_0
  rw [if_neg (by decide : ¬ (112 : Int32) = 102), if_neg (by decide : ¬ (112 : Int32) = 103), if_neg (by decide : ¬ (112 : Int32) = 104), if_neg (by decide : ¬ (112 : Int32) = 105), if_neg (by decide : ¬ (112 : Int32) = 106), if_neg (by decide : ¬ (112 : Int32) = 107), if_neg (by decide : ¬ (112 : Int32) = 108), if_neg (by decide : ¬ (112 : Int32) = 109), if_neg (by decide : ¬ (112 : Int32) = 110), if_neg (by decide : ¬ (112 : Int32) = 111), if_pos rfl]
  obtain ⟨v0, Y0, q0, b0, k0, f0, o0, x0⟩ := R_dig hr hb hp (k := 0) (m := 1) hk (by decide) (by rw [hz]; decide)
  rw [show L_X12_readDigits 1 (X) = some (v0, Y0) from q0, Option.bind_some]
  dsimp only
  rw [gd_t (inb_n (show 7 * j < 357 by omega)), nm_eq, tn_n (show 7 * j < 2 ^ 31 by omega)]
  have r0 : RTt X (si Y0 176 (7 * j) v0) j := RTt_t (RTt_f (RTt_refl X j) f0 o0) (by omega)
  have c0 : RDb S0 (si Y0 176 (7 * j) v0) := RDb_t (by decide) b0
  have d0 : RDk (si Y0 176 (7 * j) v0) w n p 1 := RDk_t (by decide) k0
  obtain ⟨v1, Y1, q1, b1, k1, f1, o1, x1⟩ := R_dig hr c0 hp (k := 1) (m := 1) d0 (by decide) (by rw [hz]; decide)
  rw [show L_X12_readDigits 1 (si Y0 176 (7 * j) v0) = some (v1, Y1) from q1, Option.bind_some]
  dsimp only
  rw [show nI (7 * j) + 1 = nI (7 * j + 1) from v7 j 1, gd_t (inb_n (show 7 * j + 1 < 357 by omega)), nm_eq, tn_n (show 7 * j + 1 < 2 ^ 31 by omega)]
  have r1 : RTt X (si Y1 176 (7 * j + 1) v1) j := RTt_t (RTt_f (r0) f1 o1) (by omega)
  have c1 : RDb S0 (si Y1 176 (7 * j + 1) v1) := RDb_t (by decide) b1
  have d1 : RDk (si Y1 176 (7 * j + 1) v1) w n p 2 := RDk_t (by decide) k1
  obtain ⟨v2, Y2, q2, b2, k2, f2, o2, x2⟩ := R_dig hr c1 hp (k := 2) (m := 1) d1 (by decide) (by rw [hz]; decide)
  rw [show L_X12_readDigits 1 (si Y1 176 (7 * j + 1) v1) = some (v2, Y2) from q2, Option.bind_some]
  dsimp only
  rw [show nI (7 * j) + 2 = nI (7 * j + 2) from v7 j 2, gd_t (inb_n (show 7 * j + 2 < 357 by omega)), nm_eq, tn_n (show 7 * j + 2 < 2 ^ 31 by omega)]
  have r2 : RTt X (si Y2 176 (7 * j + 2) v2) j := RTt_t (RTt_f (r1) f2 o2) (by omega)
  have c2 : RDb S0 (si Y2 176 (7 * j + 2) v2) := RDb_t (by decide) b2
  have d2 : RDk (si Y2 176 (7 * j + 2) v2) w n p 3 := RDk_t (by decide) k2
  obtain ⟨v3, Y3, q3, b3, k3, f3, o3, x3⟩ := R_dig hr c2 hp (k := 3) (m := 2) d2 (by decide) (by rw [hz]; decide)
  rw [show L_X12_readDigits 2 (si Y2 176 (7 * j + 2) v2) = some (v3, Y3) from q3, Option.bind_some]
  dsimp only
  rw [show nI (7 * j) + 3 = nI (7 * j + 3) from v7 j 3, gd_t (inb_n (show 7 * j + 3 < 357 by omega)), nm_eq, tn_n (show 7 * j + 3 < 2 ^ 31 by omega)]
  have r3 : RTt X (si Y3 176 (7 * j + 3) v3) j := RTt_t (RTt_f (r2) f3 o3) (by omega)
  have c3 : RDb S0 (si Y3 176 (7 * j + 3) v3) := RDb_t (by decide) b3
  have d3 : RDk (si Y3 176 (7 * j + 3) v3) w n p 5 := RDk_t (by decide) k3
  obtain ⟨v4, Y4, q4, b4, k4, f4, o4, x4⟩ := R_sgn hr c3 hp (k := 5) d3 (by decide) (by rw [hz]; decide)
  rw [q4, Option.bind_some]
  dsimp only
  rw [show nI (7 * j) + 4 = nI (7 * j + 4) from v7 j 4, gd_t (inb_n (show 7 * j + 4 < 357 by omega)), nm_eq, tn_n (show 7 * j + 4 < 2 ^ 31 by omega)]
  have r4 : RTt X (si Y4 176 (7 * j + 4) v4) j := RTt_t (RTt_f (r3) f4 o4) (by omega)
  have c4 : RDb S0 (si Y4 176 (7 * j + 4) v4) := RDb_t (by decide) b4
  have d4 : RDk (si Y4 176 (7 * j + 4) v4) w n p 6 := RDk_t (by decide) k4
  rw [gd_t (inb_n (show 7 * j + 4 < 357 by omega))]
  obtain ⟨v5, Y5, q5, b5, k5, f5, o5, x5⟩ := R_dig hr c4 hp (k := 6) (m := 1) d4 (by decide) (by rw [hz]; decide)
  rw [show L_X12_readDigits 1 (si Y4 176 (7 * j + 4) v4) = some (v5, Y5) from q5, Option.bind_some]
  dsimp only
  rw [gd_t (inb_n (show 7 * j + 4 < 357 by omega)), nm_eq]
  have r5 : RTt X (si Y5 176 (7 * j + 4) (gi (si Y4 176 (7 * j + 4) v4) 176 (7 * j + 4) * v5)) j := RTt_t (RTt_f (r4) f5 o5) (by omega)
  have c5 : RDb S0 (si Y5 176 (7 * j + 4) (gi (si Y4 176 (7 * j + 4) v4) 176 (7 * j + 4) * v5)) := RDb_t (by decide) b5
  have d5 : RDk (si Y5 176 (7 * j + 4) (gi (si Y4 176 (7 * j + 4) v4) 176 (7 * j + 4) * v5)) w n p 7 := RDk_t (by decide) k5
  obtain ⟨v6, Y6, q6, b6, k6, f6, o6, x6⟩ := R_dig hr c5 hp (k := 7) (m := 2) d5 (by decide) (by rw [hz]; decide)
  rw [show L_X12_readDigits 2 (si Y5 176 (7 * j + 4) (gi (si Y4 176 (7 * j + 4) v4) 176 (7 * j + 4) * v5)) = some (v6, Y6) from q6, Option.bind_some]
  dsimp only
  rw [show nI (7 * j) + 5 = nI (7 * j + 5) from v7 j 5, gd_t (inb_n (show 7 * j + 5 < 357 by omega)), nm_eq, tn_n (show 7 * j + 5 < 2 ^ 31 by omega)]
  have r6 : RTt X (si Y6 176 (7 * j + 5) v6) j := RTt_t (RTt_f (r5) f6 o6) (by omega)
  have c6 : RDb S0 (si Y6 176 (7 * j + 5) v6) := RDb_t (by decide) b6
  have d6 : RDk (si Y6 176 (7 * j + 5) v6) w n p 9 := RDk_t (by decide) k6
  refine ⟨_, rfl, c6, d6, r6, fun hm => ?_⟩
  have x0 := x0 (ms_all hm (by decide))
  have x1 := x1 (ms_all hm (by decide))
  have x2 := x2 (ms_all hm (by decide))
  have x3 := x3 (ms_all hm (by decide))
  have x4 := x4 (ms_all hm (by decide))
  have x5 := x5 (ms_all hm (by decide))
  have x6 := x6 (ms_all hm (by decide))
  have F0 : gi Y0 176 = gi (X) 176 := f0.1 176 (by decide)
  have F1 : gi Y1 176 = gi (si Y0 176 (7 * j) v0) 176 := f1.1 176 (by decide)
  have F2 : gi Y2 176 = gi (si Y1 176 (7 * j + 1) v1) 176 := f2.1 176 (by decide)
  have F3 : gi Y3 176 = gi (si Y2 176 (7 * j + 2) v2) 176 := f3.1 176 (by decide)
  have F4 : gi Y4 176 = gi (si Y3 176 (7 * j + 3) v3) 176 := f4.1 176 (by decide)
  have F5 : gi Y5 176 = gi (si Y4 176 (7 * j + 4) v4) 176 := f5.1 176 (by decide)
  have F6 : gi Y6 176 = gi (si Y5 176 (7 * j + 4) (gi (si Y4 176 (7 * j + 4) v4) 176 (7 * j + 4) * v5)) 176 := f6.1 176 (by decide)
  simp [gi_tt, F0, F1, F2, F3, F4, F5, F6, x0, x1, x2, x3, x4, x5, x6, sv]
theorem R_n107 (hr : rowW S0 d w n) (hb : RDb S0 X) (hp : p ≤ 99) (hk : RDk X w n p 0) (hz : shW w n p = 3) {j : Nat} (hj : j ≤ 50) : ∃ Y, L_X12_readNumbers 107 (nI (7 * j)) X = some Y ∧ RDb S0 Y ∧ RDk Y w n p 2 ∧ RTt X Y j ∧ (ms (fW w n p) 2 = 2 → gi Y 176 (7 * j + 0) = dv w (p + 1 + 0) 1 ∧ gi Y 176 (7 * j + 1) = dv w (p + 1 + 1) 1) := by
  have z10 : ¬ (1 : Int32) = 0 := by decide
  unfold L_X12_readNumbers b_X12_readNumbers_0
  rw [if_neg (by decide : ¬ (107 : Int32) = 102), if_neg (by decide : ¬ (107 : Int32) = 103), if_neg (by decide : ¬ (107 : Int32) = 104), if_neg (by decide : ¬ (107 : Int32) = 105), if_neg (by decide : ¬ (107 : Int32) = 106), if_pos rfl]
  obtain ⟨v0, Y0, q0, b0, k0, f0, o0, x0⟩ := R_dig hr hb hp (k := 0) (m := 1) hk (by decide) (by rw [hz]; decide)
  rw [show L_X12_readDigits 1 (X) = some (v0, Y0) from q0, Option.bind_some]
  dsimp only
  rw [gd_t (inb_n (show 7 * j < 357 by omega)), nm_eq, tn_n (show 7 * j < 2 ^ 31 by omega)]
  have r0 : RTt X (si Y0 176 (7 * j) v0) j := RTt_t (RTt_f (RTt_refl X j) f0 o0) (by omega)
  have c0 : RDb S0 (si Y0 176 (7 * j) v0) := RDb_t (by decide) b0
  have d0 : RDk (si Y0 176 (7 * j) v0) w n p 1 := RDk_t (by decide) k0
  obtain ⟨v1, Y1, q1, b1, k1, f1, o1, x1⟩ := R_dig hr c0 hp (k := 1) (m := 1) d0 (by decide) (by rw [hz]; decide)
  rw [show L_X12_readDigits 1 (si Y0 176 (7 * j) v0) = some (v1, Y1) from q1, Option.bind_some]
  dsimp only
  rw [show nI (7 * j) + 1 = nI (7 * j + 1) from v7 j 1, gd_t (inb_n (show 7 * j + 1 < 357 by omega)), nm_eq, tn_n (show 7 * j + 1 < 2 ^ 31 by omega)]
  have r1 : RTt X (si Y1 176 (7 * j + 1) v1) j := RTt_t (RTt_f (r0) f1 o1) (by omega)
  have c1 : RDb S0 (si Y1 176 (7 * j + 1) v1) := RDb_t (by decide) b1
  have d1 : RDk (si Y1 176 (7 * j + 1) v1) w n p 2 := RDk_t (by decide) k1
  refine ⟨_, rfl, c1, d1, r1, fun hm => ?_⟩
  have x0 := x0 (ms_all hm (by decide))
  have x1 := x1 (ms_all hm (by decide))
  have F0 : gi Y0 176 = gi (X) 176 := f0.1 176 (by decide)
  have F1 : gi Y1 176 = gi (si Y0 176 (7 * j) v0) 176 := f1.1 176 (by decide)
  simp [gi_tt, F0, F1, x0, x1, sv]
theorem R_n116 (hr : rowW S0 d w n) (hb : RDb S0 X) (hp : p ≤ 99) (hk : RDk X w n p 0) (hz : shW w n p = 2) {j : Nat} (hj : j ≤ 50) : ∃ Y, L_X12_readNumbers 116 (nI (7 * j)) X = some Y ∧ RDb S0 Y ∧ RDk Y w n p 8 ∧ RTt X Y j ∧ (ms (fW w n p) 8 = 8 → gi Y 176 (7 * j + 0) = dv w (p + 1 + 0) 1 ∧ gi Y 176 (7 * j + 1) = sv w (p + 1 + 1) ∧ gi Y 176 (7 * j + 2) = dv w (p + 1 + 2) 2 ∧ gi Y 176 (7 * j + 3) = dv w (p + 1 + 4) 2 ∧ gi Y 176 (7 * j + 4) = dv w (p + 1 + 6) 2) := by
  have z10 : ¬ (1 : Int32) = 0 := by decide
  unfold L_X12_readNumbers b_X12_readNumbers_0
  rw [if_neg (by decide : ¬ (116 : Int32) = 102), if_neg (by decide : ¬ (116 : Int32) = 103), if_neg (by decide : ¬ (116 : Int32) = 104), if_neg (by decide : ¬ (116 : Int32) = 105), if_neg (by decide : ¬ (116 : Int32) = 106), if_neg (by decide : ¬ (116 : Int32) = 107), if_neg (by decide : ¬ (116 : Int32) = 108), if_neg (by decide : ¬ (116 : Int32) = 109), if_neg (by decide : ¬ (116 : Int32) = 110), if_neg (by decide : ¬ (116 : Int32) = 111), if_neg (by decide : ¬ (116 : Int32) = 112), if_neg (by decide : ¬ (116 : Int32) = 113), if_neg (by decide : ¬ (116 : Int32) = 114), if_neg (by decide : ¬ (116 : Int32) = 115), if_pos rfl]
  obtain ⟨v0, Y0, q0, b0, k0, f0, o0, x0⟩ := R_dig hr hb hp (k := 0) (m := 1) hk (by decide) (by rw [hz]; decide)
  rw [show L_X12_readDigits 1 (X) = some (v0, Y0) from q0, Option.bind_some]
  dsimp only
  rw [gd_t (inb_n (show 7 * j < 357 by omega)), nm_eq, tn_n (show 7 * j < 2 ^ 31 by omega)]
  have r0 : RTt X (si Y0 176 (7 * j) v0) j := RTt_t (RTt_f (RTt_refl X j) f0 o0) (by omega)
  have c0 : RDb S0 (si Y0 176 (7 * j) v0) := RDb_t (by decide) b0
  have d0 : RDk (si Y0 176 (7 * j) v0) w n p 1 := RDk_t (by decide) k0
  obtain ⟨v1, Y1, q1, b1, k1, f1, o1, x1⟩ := R_sgn hr c0 hp (k := 1) d0 (by decide) (by rw [hz]; decide)
  rw [q1, Option.bind_some]
  dsimp only
  rw [show nI (7 * j) + 1 = nI (7 * j + 1) from v7 j 1, gd_t (inb_n (show 7 * j + 1 < 357 by omega)), nm_eq, tn_n (show 7 * j + 1 < 2 ^ 31 by omega)]
  have r1 : RTt X (si Y1 176 (7 * j + 1) v1) j := RTt_t (RTt_f (r0) f1 o1) (by omega)
  have c1 : RDb S0 (si Y1 176 (7 * j + 1) v1) := RDb_t (by decide) b1
  have d1 : RDk (si Y1 176 (7 * j + 1) v1) w n p 2 := RDk_t (by decide) k1
  obtain ⟨v2, Y2, q2, b2, k2, f2, o2, x2⟩ := R_dig hr c1 hp (k := 2) (m := 2) d1 (by decide) (by rw [hz]; decide)
  rw [show L_X12_readDigits 2 (si Y1 176 (7 * j + 1) v1) = some (v2, Y2) from q2, Option.bind_some]
  dsimp only
  rw [show nI (7 * j) + 2 = nI (7 * j + 2) from v7 j 2, gd_t (inb_n (show 7 * j + 2 < 357 by omega)), nm_eq, tn_n (show 7 * j + 2 < 2 ^ 31 by omega)]
  have r2 : RTt X (si Y2 176 (7 * j + 2) v2) j := RTt_t (RTt_f (r1) f2 o2) (by omega)
  have c2 : RDb S0 (si Y2 176 (7 * j + 2) v2) := RDb_t (by decide) b2
  have d2 : RDk (si Y2 176 (7 * j + 2) v2) w n p 4 := RDk_t (by decide) k2
  obtain ⟨v3, Y3, q3, b3, k3, f3, o3, x3⟩ := R_dig hr c2 hp (k := 4) (m := 2) d2 (by decide) (by rw [hz]; decide)
  rw [show L_X12_readDigits 2 (si Y2 176 (7 * j + 2) v2) = some (v3, Y3) from q3, Option.bind_some]
  dsimp only
  rw [show nI (7 * j) + 3 = nI (7 * j + 3) from v7 j 3, gd_t (inb_n (show 7 * j + 3 < 357 by omega)), nm_eq, tn_n (show 7 * j + 3 < 2 ^ 31 by omega)]
  have r3 : RTt X (si Y3 176 (7 * j + 3) v3) j := RTt_t (RTt_f (r2) f3 o3) (by omega)
  have c3 : RDb S0 (si Y3 176 (7 * j + 3) v3) := RDb_t (by decide) b3
  have d3 : RDk (si Y3 176 (7 * j + 3) v3) w n p 6 := RDk_t (by decide) k3
  obtain ⟨v4, Y4, q4, b4, k4, f4, o4, x4⟩ := R_dig hr c3 hp (k := 6) (m := 2) d3 (by decide) (by rw [hz]; decide)
  rw [show L_X12_readDigits 2 (si Y3 176 (7 * j + 3) v3) = some (v4, Y4) from q4, Option.bind_some]
  dsimp only
  rw [show nI (7 * j) + 4 = nI (7 * j + 4) from v7 j 4, gd_t (inb_n (show 7 * j + 4 < 357 by omega)), nm_eq, tn_n (show 7 * j + 4 < 2 ^ 31 by omega)]
  have r4 : RTt X (si Y4 176 (7 * j + 4) v4) j := RTt_t (RTt_f (r3) f4 o4) (by omega)
  have c4 : RDb S0 (si Y4 176 (7 * j + 4) v4) := RDb_t (by decide) b4
  have d4 : RDk (si Y4 176 (7 * j + 4) v4) w n p 8 := RDk_t (by decide) k4
  refine ⟨_, rfl, c4, d4, r4, fun hm => ?_⟩
  have x0 := x0 (ms_all hm (by decide))
  have x1 := x1 (ms_all hm (by decide))
  have x2 := x2 (ms_all hm (by decide))
  have x3 := x3 (ms_all hm (by decide))
  have x4 := x4 (ms_all hm (by decide))
  have F0 : gi Y0 176 = gi (X) 176 := f0.1 176 (by decide)
  have F1 : gi Y1 176 = gi (si Y0 176 (7 * j) v0) 176 := f1.1 176 (by decide)
  have F2 : gi Y2 176 = gi (si Y1 176 (7 * j + 1) v1) 176 := f2.1 176 (by decide)
  have F3 : gi Y3 176 = gi (si Y2 176 (7 * j + 2) v2) 176 := f3.1 176 (by decide)
  have F4 : gi Y4 176 = gi (si Y3 176 (7 * j + 3) v3) 176 := f4.1 176 (by decide)
  simp [gi_tt, F0, F1, F2, F3, F4, x0, x1, x2, x3, x4, sv]
theorem R_n111 (hr : rowW S0 d w n) (hb : RDb S0 X) (hp : p ≤ 99) (hk : RDk X w n p 0) (hz : shW w n p = 3) {j : Nat} (hj : j ≤ 50) : ∃ Y, L_X12_readNumbers 111 (nI (7 * j)) X = some Y ∧ RDb S0 Y ∧ RDk Y w n p 2 ∧ RTt X Y j ∧ (ms (fW w n p) 2 = 2 → gi Y 176 (7 * j + 0) = dv w (p + 1 + 0) 2) := by
  have z10 : ¬ (1 : Int32) = 0 := by decide
  unfold L_X12_readNumbers b_X12_readNumbers_0
  rw [if_neg (by decide : ¬ (111 : Int32) = 102), if_neg (by decide : ¬ (111 : Int32) = 103), if_neg (by decide : ¬ (111 : Int32) = 104), if_neg (by decide : ¬ (111 : Int32) = 105), if_neg (by decide : ¬ (111 : Int32) = 106), if_neg (by decide : ¬ (111 : Int32) = 107), if_neg (by decide : ¬ (111 : Int32) = 108), if_neg (by decide : ¬ (111 : Int32) = 109), if_neg (by decide : ¬ (111 : Int32) = 110), if_pos rfl]
  obtain ⟨v0, Y0, q0, b0, k0, f0, o0, x0⟩ := R_dig hr hb hp (k := 0) (m := 2) hk (by decide) (by rw [hz]; decide)
  rw [show L_X12_readDigits 2 (X) = some (v0, Y0) from q0, Option.bind_some]
  dsimp only
  rw [gd_t (inb_n (show 7 * j < 357 by omega)), nm_eq, tn_n (show 7 * j < 2 ^ 31 by omega)]
  have r0 : RTt X (si Y0 176 (7 * j) v0) j := RTt_t (RTt_f (RTt_refl X j) f0 o0) (by omega)
  have c0 : RDb S0 (si Y0 176 (7 * j) v0) := RDb_t (by decide) b0
  have d0 : RDk (si Y0 176 (7 * j) v0) w n p 2 := RDk_t (by decide) k0
  refine ⟨_, rfl, c0, d0, r0, fun hm => ?_⟩
  have x0 := x0 (ms_all hm (by decide))
  have F0 : gi Y0 176 = gi (X) 176 := f0.1 176 (by decide)
  simp [gi_tt, F0, x0, sv]
theorem R_n100 (hr : rowW S0 d w n) (hb : RDb S0 X) (hp : p ≤ 99) (hk : RDk X w n p 0) (hz : shW w n p = 4) {j : Nat} (hj : j ≤ 50) : ∃ Y, L_X12_readNumbers 100 (nI (7 * j)) X = some Y ∧ RDb S0 Y ∧ RDk Y w n p 1 ∧ RTt X Y j ∧ (ms (fW w n p) 1 = 1 → gi Y 176 (7 * j + 0) = dv w (p + 1 + 0) 1) := by
  have z10 : ¬ (1 : Int32) = 0 := by decide
  unfold L_X12_readNumbers b_X12_readNumbers_0
  rw [if_neg (by decide : ¬ (100 : Int32) = 102), if_neg (by decide : ¬ (100 : Int32) = 103), if_neg (by decide : ¬ (100 : Int32) = 104), if_neg (by decide : ¬ (100 : Int32) = 105), if_neg (by decide : ¬ (100 : Int32) = 106), if_neg (by decide : ¬ (100 : Int32) = 107), if_neg (by decide : ¬ (100 : Int32) = 108), if_neg (by decide : ¬ (100 : Int32) = 109), if_neg (by decide : ¬ (100 : Int32) = 110), if_neg (by decide : ¬ (100 : Int32) = 111), if_neg (by decide : ¬ (100 : Int32) = 112), if_neg (by decide : ¬ (100 : Int32) = 113), if_neg (by decide : ¬ (100 : Int32) = 114), if_neg (by decide : ¬ (100 : Int32) = 115), if_neg (by decide : ¬ (100 : Int32) = 116)]
  unfold b_X12_readNumbers_331
  obtain ⟨v0, Y0, q0, b0, k0, f0, o0, x0⟩ := R_dig hr hb hp (k := 0) (m := 1) hk (by decide) (by rw [hz]; decide)
  rw [show L_X12_readDigits 1 (X) = some (v0, Y0) from q0, Option.bind_some]
  dsimp only
  rw [gd_t (inb_n (show 7 * j < 357 by omega)), nm_eq, tn_n (show 7 * j < 2 ^ 31 by omega)]
  have r0 : RTt X (si Y0 176 (7 * j) v0) j := RTt_t (RTt_f (RTt_refl X j) f0 o0) (by omega)
  have c0 : RDb S0 (si Y0 176 (7 * j) v0) := RDb_t (by decide) b0
  have d0 : RDk (si Y0 176 (7 * j) v0) w n p 1 := RDk_t (by decide) k0
  refine ⟨_, rfl, c0, d0, r0, fun hm => ?_⟩
  have x0 := x0 (ms_all hm (by decide))
  have F0 : gi Y0 176 = gi (X) 176 := f0.1 176 (by decide)
  simp [gi_tt, F0, x0, sv]
theorem R_n114 (hr : rowW S0 d w n) (hb : RDb S0 X) (hp : p ≤ 99) (hk : RDk X w n p 0) (hz : shW w n p = 4) {j : Nat} (hj : j ≤ 50) : ∃ Y, L_X12_readNumbers 114 (nI (7 * j)) X = some Y ∧ RDb S0 Y ∧ RDk Y w n p 1 ∧ RTt X Y j ∧ (ms (fW w n p) 1 = 1 → gi Y 176 (7 * j + 0) = dv w (p + 1 + 0) 1) := by
  have z10 : ¬ (1 : Int32) = 0 := by decide
  unfold L_X12_readNumbers b_X12_readNumbers_0
  rw [if_neg (by decide : ¬ (114 : Int32) = 102), if_neg (by decide : ¬ (114 : Int32) = 103), if_neg (by decide : ¬ (114 : Int32) = 104), if_neg (by decide : ¬ (114 : Int32) = 105), if_neg (by decide : ¬ (114 : Int32) = 106), if_neg (by decide : ¬ (114 : Int32) = 107), if_neg (by decide : ¬ (114 : Int32) = 108), if_neg (by decide : ¬ (114 : Int32) = 109), if_neg (by decide : ¬ (114 : Int32) = 110), if_neg (by decide : ¬ (114 : Int32) = 111), if_neg (by decide : ¬ (114 : Int32) = 112), if_neg (by decide : ¬ (114 : Int32) = 113), if_pos rfl]
  unfold b_X12_readNumbers_331
  obtain ⟨v0, Y0, q0, b0, k0, f0, o0, x0⟩ := R_dig hr hb hp (k := 0) (m := 1) hk (by decide) (by rw [hz]; decide)
  rw [show L_X12_readDigits 1 (X) = some (v0, Y0) from q0, Option.bind_some]
  dsimp only
  rw [gd_t (inb_n (show 7 * j < 357 by omega)), nm_eq, tn_n (show 7 * j < 2 ^ 31 by omega)]
  have r0 : RTt X (si Y0 176 (7 * j) v0) j := RTt_t (RTt_f (RTt_refl X j) f0 o0) (by omega)
  have c0 : RDb S0 (si Y0 176 (7 * j) v0) := RDb_t (by decide) b0
  have d0 : RDk (si Y0 176 (7 * j) v0) w n p 1 := RDk_t (by decide) k0
  refine ⟨_, rfl, c0, d0, r0, fun hm => ?_⟩
  have x0 := x0 (ms_all hm (by decide))
  have F0 : gi Y0 176 = gi (X) 176 := f0.1 176 (by decide)
  simp [gi_tt, F0, x0, sv]
end NUMS
