/-! HOLDS: one round of the first loop. -/
section HOLDB
variable {Y Y' S : St} {T : TT} {im : Option TT} {sh : Nat → Sh} {q0 : Nat} {g : Nat → Int32} {xL : Nat} {xs : Nat → Int32} {p j : Nat}
/-- the round's end -/
def RE (T : TT) (im : Option TT) (sh : Nat → Sh) (q0 : Nat) (g : Nat → Int32) (p : Nat) (v2 v3 v4 v5 v6 v7 : Int32) (r : Option ((Int32 × Int32 × Int32 × Int32 × Int32 × Int32 × Nat × Int32 × St) ⊕ (Int32 × St))) : Prop := ∃ X, r = some (.inl (v2, v3, v4, v5, v6, v7 + (if sDay T tt false 4 p = 0 then 0 else 1), q0, nI (p + 1), X)) ∧ HS T im sh q0 g X
theorem Q_416 (h : HS T im sh q0 g Y) (hp : p < tn T) (v2 v3 v4 v5 v6 v7 : Int32) : RE T im sh q0 g p v2 v3 v4 v5 v6 v7 (b_L_holds_416 xL xs v2 v3 v4 v5 v6 v7 q0 (nI p) 1 Y) := by
  unfold b_L_holds_416
  rw [if_neg (by decide)]
  exact Q_425 h hp v2 v3 v4 v5 v6 v7
theorem Q_258 (h : HS T im sh q0 g Y) (hp : p < tn T) {u : Nat} (hu : u < 11) (e2 : sDay T tt false 2 p = nI u) (e8 : sDay T tt false 8 u = nI p) (e4 : sDay T tt false 4 u ≠ 0) (e6 : sDay T tt false 6 u ≤ sDue T p) (e1 : sDay T tt false 1 p = sDay T tt false 4 u) (v2 v3 v5 v6 v7 s0 s1 : Int32) :
    RE T im sh q0 g p v2 v3 (s1 + s0) v5 v6 v7 (b_L_holds_258 xL xs v2 v3 v5 v6 v7 q0 (nI p) (nI u) s0 s1 Y) := by
  unfold b_L_holds_258
  have hW : WT T := h.1.2.1
  have n8 := hW.1
  by_cases u8 : u < 8
  · rw [if_pos ((le7 hu).mpr u8)]
    have hn := (buys_up (b := tt) (sh := false) hW hp u8 e2).1
    obtain ⟨X1, x1, x2, x3⟩ := H_f8 h hn
    rw [x1, Option.bind_some, gd_t x2, if_pos e8]
    obtain ⟨X2, y1, y2, y3⟩ := H_chain x3 hp
    rw [y1, Option.bind_some, gd_t y2]
    obtain ⟨X3, z1, z2, z3⟩ := H_chain y3 hn
    rw [z1, Option.bind_some, gd_t z2, if_pos (chn_next (b := tt) (sh := false) hW hp u8 e2)]
    obtain ⟨X4, w1, w2, w3⟩ := H_f5 z3 hn
    rw [w1, Option.bind_some, gd_t w2, if_pos (show (if sDay T tt false 4 u = 0 then (0 : Int32) else 1) = 1 from if_neg e4)]
    obtain ⟨X5, t1, t2, t3⟩ := H_f6 w3 hn
    rw [t1, Option.bind_some, gd_t t2, H_per t3 hp, Option.bind_some, if_neg (show ¬ aPerson T p 4 < (if sDay T tt false 4 u = 0 then -4 else sDay T tt false 6 u) by rw [if_neg e4]; exact Int32.not_lt.mpr e6)]
    exact Q_416 t3 hp v2 v3 (s1 + s0) v5 v6 v7
  · rw [if_neg (fun z => u8 ((le7 hu).mp z))]
    obtain ⟨X1, x1, x2, x3⟩ := H_chain h hp
    have c1 : chn (sDay T tt false 2) 8 (sDay T tt false 2 p) = 1 := by rw [e2, chn_s _ 7 _ hu, if_neg u8]; rfl
    rw [x1, Option.bind_some, gd_t x2, if_pos c1]
    have e88 : nI u - 8 = nI (u - 8) := pk_sub (a := u) (b := 8) (by omega)
    have I := (F_I (b := tt) (sh := false) hW).2.2.1 (u - 8) (by omega)
    have hk : u - 8 < tk T := by
      apply Classical.byContradiction
      intro z
      rw [if_neg z, show 8 + (u - 8) = u by omega] at I
      exact e4 I
    rw [if_pos hk, show 8 + (u - 8) = u by omega] at I
    obtain ⟨q, k1, k2, -, k4⟩ := x3.2.1.2.2.2.2.2 (u - 8) hk
    rw [e88, x3.2.1.2.2.1, if_neg (nI_ge hk (by have := hW.2.2.1; omega))]
    obtain ⟨X2, y1, y2, y3⟩ := H_f0 x3 hp
    obtain ⟨q, k1, k2, -, k4⟩ := y3.2.1.2.2.2.2.2 (u - 8) hk
    rw [y1, Option.bind_some, gd_t y2]
    dsimp only
    rw [tn_n (show u - 8 < 2 ^ 31 by omega), ld_p (inb_n (show u - 8 < 4 by omega)) k1 k2 (by decide), tz1, k4]
    have te : sDay T tt false 1 p = tF T 10 (u - 8) := e1.trans I.1
    rw [te]
    rcases (hW.2.2.2.2.2.1 (u - 8) hk).2.1 with z | z
    · rw [z, if_neg (by decide)]
      unfold b_L_holds_323
      rw [if_pos (show kTold 1 = 1 by decide)]
      exact Q_416 y3 hp v2 v3 (s1 + s0) v5 v6 v7
    · rw [z, if_pos (by decide)]
      unfold b_L_holds_323
      rw [if_pos (show kTold (-1) = 2 by decide)]
      exact Q_416 y3 hp v2 v3 (s1 + s0) v5 v6 v7
theorem HS_row (h : HS T im sh q0 g Y) (hp : p < tn T) : ∃ t, t < 3 ∧ kTold (sDay T tt false 1 p) = nI t ∧ (t = 1 ↔ sDay T tt false 1 p = 1) ∧ (t = 2 ↔ sDay T tt false 1 p = -1) ∧ (t = 0 ↔ sDay T tt false 1 p = 0) := by
  have hW : WT T := h.1.2.1
  rcases F_1 (b := tt) (sh := false) hW hp with e | e | e <;> rw [e]
  · exact ⟨1, by decide, by decide, by decide, by decide, by decide⟩
  · exact ⟨0, by decide, by decide, by decide, by decide, by decide⟩
  · exact ⟨2, by decide, by decide, by decide, by decide, by decide⟩
theorem Q_228 (h : HS T im sh q0 g Y) (hp : p < tn T) (v2 v3 v4 v5 v6 v7 : Int32) :
    RE T im sh q0 g p v2 v3 (v4 + wP (sDay T tt false) p) (if 0 ≤ sDay T tt false 2 p then v5 + 1 else v5) (v6 + sDay T tt false 3 p) v7 (b_L_holds_228 xL xs v2 v3 v4 v5 v6 v7 q0 (nI p) (sDay T tt false 2 p) (if sDay T tt false 2 p = -4 then -4 else sDay T tt false 3 p) Y) := by
  unfold b_L_holds_228 wP
  have hW : WT T := h.1.2.1
  rcases F_3 (b := tt) (sh := false) hW hp with ⟨e2, e3, -⟩ | ⟨u, hu, e2, e8, e4, e6, e1, -⟩
  · rw [e2, e3, if_pos (show (-4 : Int32) < 0 by decide), if_neg (fun z => absurd z.1 (by decide)), if_neg (by decide), Int32.add_zero, Int32.add_zero]
    exact Q_425 h hp v2 v3 v4 v5 v6 v7
  · have u0 := nI_pos' (n := u) (by omega)
    rw [e2, if_neg (Int32.not_lt.mpr u0), if_pos u0, if_neg (m4_n (show u < 2147483648 by omega))]
    by_cases u8 : u < 8
    · rw [if_pos ((le7 hu).mpr u8), if_neg (fun z => z.2 ((le7 hu).mpr u8))]
      exact Q_258 h hp hu e2 e8 e4 e6 e1 v2 v3 (v5 + 1) (v6 + sDay T tt false 3 p) v7 0 v4
    · rw [if_neg (fun z => u8 ((le7 hu).mp z)), if_pos ⟨u0, fun z => u8 ((le7 hu).mp z)⟩]
      exact Q_258 h hp hu e2 e8 e4 e6 e1 v2 v3 (v5 + 1) (v6 + sDay T tt false 3 p) v7 (sDay T tt false 3 p) v4
theorem Q_165 (h : HS T im sh q0 g Y) (hp : p < tn T) {s0 : Int32} (hs : s0 = sDay T tt false 1 p) (v2 v3 v4 v5 v6 v7 : Int32) :
    RE T im sh q0 g p v2 v3 (v4 + wP (sDay T tt false) p) (if 0 ≤ sDay T tt false 2 p then v5 + 1 else v5) (v6 + sDay T tt false 3 p) v7 (b_L_holds_165 xL xs v2 v3 v4 v5 v6 v7 q0 (nI p) (sDay T tt false 2 p) (if sDay T tt false 2 p = -4 then -4 else sDay T tt false 3 p) s0 Y) := by
  have hW : WT T := h.1.2.1
  unfold b_L_holds_165
  have e : L_L_told xL xs s0 Y = some (kTold (sDay T tt false 1 p)) := by
    unfold L_L_told b_L_told_0
    rw [hs]
    rcases F_1 (b := tt) (sh := false) hW hp with e | e | e <;> rw [e] <;> rfl
  obtain ⟨X1, x1, x2, x3⟩ := H_f0 h hp
  rw [e, Option.bind_some, x1, Option.bind_some, gd_t x2, if_pos rfl]
  exact Q_228 x3 hp v2 v3 v4 v5 v6 v7
theorem Q_43 (h : HS T im sh q0 g Y) (hp : p < tn T) (v2 v3 v4 v5 v6 v7 : Int32) {t : Nat} (ht : t < 3) (et : kTold (sDay T tt false 1 p) = nI t) :
    RE T im sh q0 (upd g t (g t + 1)) p (v2 + sCoins T (sDay T tt false) p 23) v3 (v4 + wP (sDay T tt false) p) (if 0 ≤ sDay T tt false 2 p then v5 + 1 else v5) (v6 + sDay T tt false 3 p) v7 (b_L_holds_43 xL xs v2 v3 v4 v5 v6 v7 q0 (nI p) Y) := by
  have hW : WT T := h.1.2.1
  have n8 := hW.1
  unfold b_L_holds_43
  rw [h.2.1.1, if_neg (nI_ge hp (by omega))]
  obtain ⟨X1, x1, x2, x3⟩ := H_f2 h hp
  rw [x1, Option.bind_some, gd_t x2]
  obtain ⟨X2, y1, y2, y3⟩ := H_f3 x3 hp
  rw [y1, Option.bind_some, gd_t y2]
  obtain ⟨X3, z1, z2, z3⟩ := H_f4 y3 hp
  rw [z1, Option.bind_some, gd_t z2]
  obtain ⟨X4, w1, w2, w3⟩ := H_f0 z3 hp
  rw [w1, Option.bind_some, gd_t w2]
  dsimp only
  rw [et, ld_i w3.2.2.1 (inb_n ht), ld_i w3.2.2.1 (inb_n ht), nm_eq, tn_n (show t < 2 ^ 31 by omega), w3.2.2.2.1]
  have h5 := HS_si w3 t (g t + 1)
  generalize si X4 q0 t (g t + 1) = X5 at h5 ⊢
  rcases F_3 (b := tt) (sh := false) hW hp with ⟨e2, e3, e1⟩ | ⟨u, hu, e2, e8, e4, e6, e1, ec⟩
  · have c0 : chn (sDay T tt false 2) 8 (sDay T tt false 2 p) = 0 := by rw [e2, chn_m4]
    have e14 : (if sDay T tt false 2 p = -4 then (-4 : Int32) else sDay T tt false 3 p) = -4 := if_pos e2
    rw [if_pos e2, if_pos e14]
    obtain ⟨X6, a1, a2, a3⟩ := H_chain h5 hp
    rw [a1, Option.bind_some, gd_t a2, if_pos c0]
    obtain ⟨X7, b1, b2, b3⟩ := H_sum a3 hp
    rw [b1, Option.bind_some, gd_t b2]
    dsimp only
    have e0 := F_0 (b := tt) (sh := false) hW hp
    rw [e0]
    by_cases s1 : sFirst T tt p ≤ 0
    · rw [if_pos s1]
      obtain ⟨X8, d1, d2, d3⟩ := H_sum b3 hp
      rw [d1, Option.bind_some, gd_t d2]
      dsimp only
      rw [e0]
      by_cases s2 : 0 ≤ sFirst T tt p
      · rw [if_pos s2]
        have : sFirst T tt p = 0 := Int32.le_antisymm s1 s2
        exact Q_165 d3 hp (by rw [e1, this]; rfl) _ v3 v4 v5 v6 v7
      · rw [if_neg s2]
        have s3 := Int32.not_le.mp s2
        exact Q_165 d3 hp (by rw [e1]; unfold kSide; rw [if_neg (Int32.not_lt.mpr s1), if_pos s3]) _ v3 v4 v5 v6 v7
    · rw [if_neg s1]
      exact Q_165 b3 hp (by rw [e1]; unfold kSide; rw [if_pos (Int32.not_le.mp s1)]) _ v3 v4 v5 v6 v7
  · have J := F_PJ (b := tt) (sh := false) hW p hp
    have ne : ¬ sDay T tt false 2 p = -4 := by rw [e2]; exact m4_n (by omega)
    have k3 : ¬ aPerson T p 0 = 3 := by
      show ¬ nI (tK T p) = 3
      intro z
      have := (hW.2.2.2.1 p hp).1
      have k3 : tK T p = 3 := (nI_eq (b := 3) (by omega) (by decide)).mp z
      exact J.2 k3 u hu e8
    have big : ¬ aPerson T p 5 + 99 * nI (tn T) < sDay T tt false 3 p := by
      obtain ⟨-, -, -, -, -, c, c1, c2⟩ := hW.2.2.2.1 p hp
      show ¬ tF T 4 p + 99 * nI (tn T) < sDay T tt false 3 p
      rw [c2] at ec ⊢
      rw [show (99 : Int32) = nI 99 from rfl, pk_mul, nI_add]
      refine Int32.not_lt.mpr (Int32.le_trans ec (nI_le (by omega) (by omega)))
    rw [if_neg ne, if_neg (show ¬ (if sDay T tt false 2 p = -4 then (-4 : Int32) else sDay T tt false 3 p) < 0 by rw [if_neg ne]; exact Int32.not_lt.mpr J.1), H_per h5 hp, Option.bind_some, h5.2.1.1, if_neg (show ¬ aPerson T p 5 + 99 * nI (tn T) < (if sDay T tt false 2 p = -4 then (-4 : Int32) else sDay T tt false 3 p) by rw [if_neg ne]; exact big), H_per h5 hp, Option.bind_some, if_neg k3]
    exact Q_228 h5 hp _ v3 v4 v5 v6 v7
end HOLDB
