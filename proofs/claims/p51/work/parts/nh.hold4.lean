/-! HOLDS: the second loop; the whole of it. -/
theorem pr1 {a U E B j P Q s : Int} (hP : P = B * U) (hQ : Q = B * E) (B0 : 0 < B) (U0 : 0 ≤ U) (E0 : 0 ≤ E) (EU : 100 * E ≤ U) (a8 : a ≤ 8 * B) (j0 : 0 ≤ j) (j8 : j ≤ 8) (a0 : 0 ≤ a) (h1 : s * B ≤ a * U + 2 * (j * Q)) (h2 : a * U ≤ s * B + 2 * (j * Q)) : -U ≤ s ∧ s ≤ 9 * U := by
  have Q0 : 0 ≤ Q := by rw [hQ]; exact Int.mul_nonneg (by omega) E0
  have k1 : a * U ≤ 8 * P := by rw [hP, ← Int.mul_assoc]; exact Int.mul_le_mul_of_nonneg_right a8 U0
  have k2 : j * Q ≤ 8 * Q := Int.mul_le_mul_of_nonneg_right j8 Q0
  have k3 : 100 * Q ≤ P := by
    have := Int.mul_le_mul_of_nonneg_left EU (Int.le_of_lt B0)
    rw [← Int.mul_assoc, Int.mul_comm B 100, Int.mul_assoc] at this
    rw [hP, hQ]; exact this
  have k4 : 0 ≤ a * U := Int.mul_nonneg a0 U0
  constructor
  · refine Int.le_of_mul_le_mul_right (a := B) ?_ B0
    have : -U * B = -P := by rw [hP, Int.neg_mul, Int.mul_comm]
    omega
  · refine Int.le_of_mul_le_mul_right (a := B) ?_ B0
    have : 9 * U * B = 9 * P := by rw [hP, Int.mul_assoc, Int.mul_comm U B]
    omega
theorem pr2 {a a' U E B j Q s z s' : Int} (hQ : Q = B * E) (B0 : 0 < B) (h1 : s * B ≤ a * U + 2 * (j * Q)) (h2 : a * U ≤ s * B + 2 * (j * Q)) (z1 : z * B ≤ a' * U + Q) (z2 : a' * U ≤ z * B + Q) (d1 : s' ≤ s + z + E) (d2 : s + z ≤ s' + E) :
    s' * B ≤ (a + a') * U + 2 * ((j + 1) * Q) ∧ (a + a') * U ≤ s' * B + 2 * ((j + 1) * Q) := by
  have e1 : s' * B ≤ (s + z + E) * B := Int.mul_le_mul_of_nonneg_right d1 (Int.le_of_lt B0)
  have e2 : (s + z) * B ≤ (s' + E) * B := Int.mul_le_mul_of_nonneg_right d2 (Int.le_of_lt B0)
  have eB : E * B = Q := by rw [hQ, Int.mul_comm]
  rw [Int.add_mul, Int.add_mul, eB] at e1
  rw [Int.add_mul, Int.add_mul, eB] at e2
  rw [Int.add_mul, Int.add_mul, Int.one_mul]
  omega
theorem pr3 {a U E B j Q s z : Int} (hQ : Q = B * E) (B0 : 0 < B) (E0 : 0 ≤ E) (j8 : j ≤ 8) (h1 : s * B ≤ a * U + 2 * (j * Q)) (h2 : a * U ≤ s * B + 2 * (j * Q)) (z1 : z * B ≤ a * U + Q) (z2 : a * U ≤ z * B + Q) : s - z ≤ 17 * E ∧ -(17 * E) ≤ s - z := by
  have Q0 : 0 ≤ Q := by rw [hQ]; exact Int.mul_nonneg (by omega) E0
  have k2 : j * Q ≤ 8 * Q := Int.mul_le_mul_of_nonneg_right j8 Q0
  have eB : 17 * E * B = 17 * Q := by rw [hQ, Int.mul_assoc, Int.mul_comm E B]
  constructor
  · refine Int.le_of_mul_le_mul_right (a := B) ?_ B0
    rw [Int.sub_mul]
    omega
  · refine Int.le_of_mul_le_mul_right (a := B) ?_ B0
    rw [Int.sub_mul, Int.neg_mul]
    omega
theorem ncn_z (f : Nat → Bool) (n : Nat) : ncn f n = 0 ↔ ∀ k, k < n → f k = false := by
  constructor
  · intro h k hk
    cases e : f k with
    | false => rfl
    | true =>
      have := ncn_lt (f := fun _ => false) (g := f) (fun _ z => by cases z) (u := k) rfl e n hk
      omega
  · intro h
    rw [ncn_nsm, nsm_c (g := fun _ => 0) (fun k hk => by rw [h k hk]; rfl), nsm_0]
section HOLDD
variable {Y Y' S : St} {T : TT} {im : Option TT} {sh : Nat → Sh} {q0 : Nat} {g : Nat → Int32} {xL : Nat} {xs : Nat → Int32} {p j : Nat}
theorem Q_867 (h : HS T im sh q0 g Y) (hj : j < tn T) (v9 : UInt64) (x : Int32) : ∃ X, b_L_holds_867 xL xs v9 (nI j) x x Y = some (.inl (v9, nI (j + 1), X)) ∧ HS T im sh q0 g X := by
  have hW : WT T := h.1.2.1
  have n8 := hW.1
  unfold b_L_holds_867
  rw [if_pos rfl]
  obtain ⟨X1, x1, x2⟩ := K_yes h.1 hj
  obtain ⟨x3, x4⟩ := HS_D h x2
  rw [x1, Option.bind_some, gd_t x3]
  dsimp only
  obtain ⟨q, k1, k2, -, k4⟩ := x4.2.1.2.2.2.2.1 j hj
  rw [tn_n (show j < 2 ^ 31 by omega), ld_p (inb_n (show j < 8 by omega)) k1 k2 (by decide), tz3, k4]
  obtain ⟨X2, y1, y2, y3⟩ := H_f0 x4 hj
  obtain ⟨-, -, -, ⟨hh, h24, eh⟩, -⟩ := hW.2.2.2.1 j hj
  have bit : (bts (fun k => decide (sDay (wF T 2 j (nI k)) tt false 1 j = 1)) 24 >>> (tF T 2 j &&& 31)) &&& 1 = if sDay T tt false 1 j = 1 then 1 else 0 := by
    rw [eh, bit_of _ (by omega), bt_bts _ 24 (by decide) hh (by omega), ← eh, wF_id]
    simp [h24]
  rw [y1, Option.bind_some, gd_t y2, bit]
  unfold b_L_holds_910
  refine ⟨X2, ?_, y3⟩
  rw [nI_1]
  rcases F_1 (b := tt) (sh := false) hW hj with e | e | e <;> simp only [e] <;> rfl
theorem Q_847 (h : HS T im sh q0 g Y) (hj : j < tn T) (v9 : UInt64) {s0 : Int32} (hs : s0 = if ncn (fun k => decide (sDay (wF T 3 j (nI k - 9)) tt false 1 j = 1)) 19 = 0 then 1 else 0) : ∃ X, b_L_holds_847 xL xs v9 (nI j) s0 Y = some (.inl (v9, nI (j + 1), X)) ∧ HS T im sh q0 g X := by
  unfold b_L_holds_847
  obtain ⟨r, X1, x1, x2, x5⟩ := K_moods h.1 hj (v := 1) (by decide)
  obtain ⟨x3, x4⟩ := HS_D h x2
  rw [x1, Option.bind_some, gd_t x3]
  dsimp only
  rw [if_neg (by decide)] at x5
  by_cases z : ncn (fun k => decide (sDay (wF T 3 j (nI k - 9)) tt false 1 j = 1)) 19 = 0
  · rw [if_pos z] at hs
    have all := (ncn_z _ 19).mp z
    have r4 : r = -4 := by
      rcases x5 with ⟨q, -, q1, q2, -⟩ | ⟨-, e⟩
      · exact absurd (q2.symm.trans (all q q1)) (by decide)
      · exact e
    rw [if_pos r4, hs]
    exact Q_867 x4 hj v9 1
  · rw [if_neg z] at hs
    have r4 : ¬ r = -4 := by
      rcases x5 with ⟨q, -, q1, -, -, rfl⟩ | ⟨e, -⟩
      · exact m4_n (by omega)
      · exact absurd ((ncn_z _ 19).mpr (fun k hk => e k (Nat.zero_le _) hk)) z
    rw [if_neg r4, hs]
    exact Q_867 x4 hj v9 0
theorem Q_758 (h : HS T im sh q0 g Y) (hj : j < tn T) {v9 : UInt64} {s : Int} (hv : FV v9 s) (s1 : -(fU : Int) ≤ s) (s2 : s ≤ 9 * (fU : Int)) :
    ∃ v s' X, b_L_holds_758 xL xs v9 (nI j) Y = some (.inl (v, nI (j + 1), X)) ∧ HS T im sh q0 g X ∧ FV v s' ∧ ∃ z : Nat, z * 10 ^ tm T ≤ lkN T j * fU + 10 ^ tm T * fE ∧ lkN T j * fU ≤ z * 10 ^ tm T + 10 ^ tm T * fE ∧ (s' - (s + z)).natAbs ≤ fE := by
  have hW : WT T := h.1.2.1
  have n8 := hW.1
  obtain ⟨t6, t0⟩ := ten_6 hW.2.1
  have l10 := lk_le hW hj
  unfold b_L_holds_758
  rw [h.2.1.1, if_neg (nI_ge hj (by omega))]
  obtain ⟨X1, x1, x2⟩ := K_likely h.1 hj (v := 0) (by decide)
  obtain ⟨x3, x4⟩ := HS_D h x2
  rw [x1, Option.bind_some, gd_t x3]
  obtain ⟨X2, y1, y2⟩ := K_likely x4.1 hj (v := 1) (by decide)
  obtain ⟨y3, y4⟩ := HS_D x4 y2
  rw [y1, Option.bind_some, gd_t y3]
  dsimp only
  obtain ⟨z, z1, z2, z3, z4⟩ := frac_of (A := lkN T j) (B := 10 ^ tm T) (by omega) (by omega) t0 (by omega)
  have z1 : FV (FP.ddiv (FP.l2d (frac (smN T (yesN T ((1 : Int32) <<< (nI j &&& 31))) (2 ^ tm T)) (10 ^ tm T) 0)) (FP.l2d (frac (smN T (yesN T ((1 : Int32) <<< (nI j &&& 31))) (2 ^ tm T)) (10 ^ tm T) 1))) (z : Int) := z1
  generalize FP.ddiv (FP.l2d (frac (smN T (yesN T ((1 : Int32) <<< (nI j &&& 31))) (2 ^ tm T)) (10 ^ tm T) 0)) (FP.l2d (frac (smN T (yesN T ((1 : Int32) <<< (nI j &&& 31))) (2 ^ tm T)) (10 ^ tm T) 1)) = w at z1 ⊢
  have zU := z4 l10
  have U0 := fU_pos
  obtain ⟨s', a1, a2⟩ := dadd_of hv z1 (by omega)
  rw [gd_t (FV_nn z1), gd_t (FV_nn a1)]
  obtain ⟨r, X3, b1, b2, b3⟩ := K_moods y4.1 hj (v := 0) (by decide)
  obtain ⟨b4, b5⟩ := HS_D y4 b2
  rw [if_pos rfl, cnt_n] at b3
  have c19 := ncn_le (fun k => decide (sDay (wF T 3 j (nI k - 9)) tt false 1 j = 1)) 19
  have g0 : ¬ (Op.cmpValue (FP.dcmp w FP.dconst0) .g : Int32) < 0 := by rw [dcmp_of z1 FV_0]; exact cmp_ge (by omega) .g
  have g1 : ¬ 0 < (Op.cmpValue (FP.dcmp w FP.dconst1) .l : Int32) := by rw [dcmp_of z1 FV_1]; exact Int32.not_lt.mpr (cmp_le (by omega) .l)
  rw [b1, Option.bind_some, gd_t b4]
  dsimp only
  rw [if_neg g0, if_neg g1, b3, if_neg (show ¬ nI (ncn (fun k => decide (sDay (wF T 3 j (nI k - 9)) tt false 1 j = 1)) 19) < 0 from Int32.not_lt.mpr (nI_pos' (by omega))), if_neg (show ¬ 19 < nI (ncn (fun k => decide (sDay (wF T 3 j (nI k - 9)) tt false 1 j = 1)) 19) from Int32.not_lt.mpr (nI_le (b := 19) c19 (by decide)))]
  by_cases zz : ncn (fun k => decide (sDay (wF T 3 j (nI k - 9)) tt false 1 j = 1)) 19 = 0
  · rw [if_pos (show nI (ncn (fun k => decide (sDay (wF T 3 j (nI k - 9)) tt false 1 j = 1)) 19) = 0 by rw [zz]; rfl)]
    obtain ⟨X, e1, e2⟩ := Q_847 (xL := xL) (xs := xs) b5 hj (FP.dadd v9 w) (s0 := 1) (by rw [if_pos zz])
    exact ⟨_, s', X, e1, e2, a1, z, z2, z3, a2⟩
  · rw [if_neg (show ¬ nI (ncn (fun k => decide (sDay (wF T 3 j (nI k - 9)) tt false 1 j = 1)) 19) = 0 from fun y => zz ((nI_eq (b := 0) (by omega) (by decide)).mp y))]
    obtain ⟨X, e1, e2⟩ := Q_847 (xL := xL) (xs := xs) b5 hj (FP.dadd v9 w) (s0 := 0) (by rw [if_neg zz])
    exact ⟨_, s', X, e1, e2, a1, z, z2, z3, a2⟩
theorem H_again (h : HS T im sh q0 g Y) {v : Int32} (hv : 0 ≤ v ∧ v ≤ 1) : ∃ r X, L_X11_again v Y = some (r, X) ∧ isLh (agG T) (agH T v) 41 r ∧ lq Y X = true ∧ HS T im sh q0 g X := by
  obtain ⟨r, X, x1, x2, x3⟩ := K_again h.1 hv
  exact ⟨r, X, x1, x3, HS_D h x2⟩
theorem Q_1005 (h : HS T im sh q0 g Y) : ∃ X, b_L_holds_1005 xL xs Y = some (1, X) := by
  unfold b_L_holds_1005
  obtain ⟨r1, X1, x1, x2, x3, x4⟩ := H_again h (v := 0) (by decide)
  rw [x1, Option.bind_some, gd_t x3]
  dsimp only
  obtain ⟨r3, X2, y1, y2, y3, y4⟩ := H_again x4 (v := 1) (by decide)
  rw [y1, Option.bind_some, gd_t y3]
  dsimp only
  rcases x2 with ⟨q, q1, q2, q3, rfl⟩ | ⟨a1, rfl⟩ <;> rcases y2 with ⟨q', q1', q2', q3', rfl⟩ | ⟨a1', rfl⟩
  · have e : q = q' := by
      rcases Nat.lt_trichotomy q q' with z | z | z
      · rw [q3' q z] at q2; cases q2
      · exact z
      · rw [q3 q' z] at q2'; cases q2'
    subst e
    have e0 : agH T 0 q = nI q := if_pos rfl
    have e1 : agH T 1 q = agA T q := if_neg (by decide)
    have a0 : 0 ≤ agA T q := of_decide_eq_true q2
    have is := ls_is (alF (tn T) (fun k => tF (Ts T k) 3) q) q (by omega)
    have es : ∃ u, u < q ∧ agA T q = nI u := by
      rcases is with ⟨u, -, u1, -, -, u2⟩ | ⟨-, u2⟩
      · exact ⟨u, u1, u2⟩
      · rw [show agA T q = -4 from u2] at a0
        exact absurd a0 (by decide)
    obtain ⟨u, u1, u2⟩ := es
    rw [e0, e1, if_neg (m4_n (by omega)), u2, if_neg (nI_ge u1 (by omega)), if_neg (Int32.not_lt.mpr (nI_pos' (by omega))), if_neg (show ¬ 40 < nI q from Int32.not_lt.mpr (nI_le (b := 40) (by omega) (by decide)))]
    exact ⟨X2, rfl⟩
  · rw [a1' q q1] at q2; cases q2
  · rw [a1 q' q1'] at q2'; cases q2'
  · rw [if_pos rfl, if_pos rfl]
    exact ⟨X2, rfl⟩
theorem Q_921 (h : HS T im sh q0 g Y) {v9 : UInt64} {s : Int} (hv : FV v9 s) (h1 : s * ((10 ^ tm T : Nat) : Int) ≤ (mnN T : Int) * (fU : Int) + 2 * ((tn T : Int) * (((10 ^ tm T : Nat) : Int) * (fE : Int)))) (h2 : (mnN T : Int) * (fU : Int) ≤ s * ((10 ^ tm T : Nat) : Int) + 2 * ((tn T : Int) * (((10 ^ tm T : Nat) : Int) * (fE : Int)))) : ∃ X, b_L_holds_921 xL xs v9 Y = some (1, X) := by
  have hW : WT T := h.1.2.1
  have n8 := hW.1
  obtain ⟨t6, t0⟩ := ten_6 hW.2.1
  have l10 := mn_le hW
  unfold b_L_holds_921
  obtain ⟨X1, x1, x2⟩ := K_mean h.1 (v := 0) (by decide)
  obtain ⟨x3, x4⟩ := HS_D h x2
  rw [x1, Option.bind_some, gd_t x3]
  obtain ⟨X2, y1, y2⟩ := K_mean x4.1 (v := 1) (by decide)
  obtain ⟨y3, y4⟩ := HS_D x4 y2
  rw [y1, Option.bind_some, gd_t y3]
  dsimp only
  obtain ⟨z, z1, z2, z3, -⟩ := frac_of (A := mnN T) (B := 10 ^ tm T) (by omega) (by omega) t0 l10
  have z1 : FV (FP.ddiv (FP.l2d (frac (smN T (yesN T (((1 : Int32) <<< (nI (tn T) &&& 31)) - 1)) (2 ^ tm T)) (10 ^ tm T) 0)) (FP.l2d (frac (smN T (yesN T (((1 : Int32) <<< (nI (tn T) &&& 31)) - 1)) (2 ^ tm T)) (10 ^ tm T) 1))) (z : Int) := z1
  generalize FP.ddiv (FP.l2d (frac (smN T (yesN T (((1 : Int32) <<< (nI (tn T) &&& 31)) - 1)) (2 ^ tm T)) (10 ^ tm T) 0)) (FP.l2d (frac (smN T (yesN T (((1 : Int32) <<< (nI (tn T) &&& 31)) - 1)) (2 ^ tm T)) (10 ^ tm T) 1)) = w at z1 ⊢
  have z2' : (z : Int) * ((10 ^ tm T : Nat) : Int) ≤ (mnN T : Int) * (fU : Int) + ((10 ^ tm T : Nat) : Int) * (fE : Int) := by rw [← Int.natCast_mul, ← Int.natCast_mul, ← Int.natCast_mul, ← Int.natCast_add]; exact Int.ofNat_le.mpr z2
  have z3' : (mnN T : Int) * (fU : Int) ≤ (z : Int) * ((10 ^ tm T : Nat) : Int) + ((10 ^ tm T : Nat) : Int) * (fE : Int) := by rw [← Int.natCast_mul, ← Int.natCast_mul, ← Int.natCast_mul, ← Int.natCast_add]; exact Int.ofNat_le.mpr z3
  obtain ⟨d1, d2⟩ := pr3 (j := (tn T : Int)) rfl (by omega) (by omega) (by omega) h1 h2 z2' z3'
  have EU := E_U
  have E0 := fE_pos
  obtain ⟨s', a1, a2⟩ := dsub_of hv z1 (by omega)
  have E6 := small_6
  have cm : (Op.cmpValue (FP.dcmp (dabs (FP.dsub v9 w)) 4517329193108106637) .l : Int32) ≤ 0 := by
    rw [dcmp_of (FV_abs a1) FV_6]
    exact cmp_le (by omega) .l
  rw [gd_t (FV_nn z1), gd_t (FV_nn a1), gd_t (FV_nn a1), if_pos cm]
  obtain ⟨X3, b1, b2⟩ := K_turn0 y4.1
  obtain ⟨b3, b4⟩ := HS_D y4 b2
  rw [b1, Option.bind_some, gd_t b3, if_pos rfl]
  have a0 : ∀ n : Fin 9, (0 : Int32) ≤ ((1 : Int32) <<< (nI n.val &&& 31)) - 1 := by decide +kernel
  have a1 : ∀ n : Fin 9, 0 < n.val → (1 : Int32) ≤ ((1 : Int32) <<< (nI n.val &&& 31)) - 1 := by decide +kernel
  obtain ⟨X4, c1, c2⟩ := K_guard b4.1 (s := 0) ⟨Int32.le_refl _, a0 ⟨tn T, by omega⟩⟩ (cnt_none (fun p _ => by rw [bt_0]; rfl))
  obtain ⟨c3, c4⟩ := HS_D b4 c2
  rw [c1, Option.bind_some, gd_t c3, if_pos rfl]
  dsimp only
  rw [c4.2.1.2.2.1, c4.2.1.1]
  by_cases kz : tk T = 0
  · rw [if_pos (show nI (tk T) = 0 by rw [kz]; rfl)]
    by_cases nz : tn T = 0
    · rw [if_pos (show nI (tn T) ≤ 0 by rw [nz]; exact Int32.le_refl _)]
      exact Q_1005 c4
    · rw [if_neg (show ¬ nI (tn T) ≤ 0 from nI_ge (a := 0) (by omega) (by omega))]
      have same : noP (wF T 15 1 (nI 0)) = wF T 15 1 (nI 0) := by
        obtain ⟨⟨n, m, k⟩, rest⟩ := T
        have kz : k = 0 := kz
        subst kz
        rfl
      obtain ⟨X5, e1, e2⟩ := K_guard c4.1 (s := 1) ⟨by decide, a1 ⟨tn T, by omega⟩ (by show 0 < tn T; omega)⟩ (cnt_none (fun p _ => by rw [same]; simp))
      obtain ⟨e3, e4⟩ := HS_D c4 e2
      rw [e1, Option.bind_some, gd_t e3, if_pos rfl]
      exact Q_1005 e4
  · rw [if_neg (show ¬ nI (tk T) = 0 from fun y => kz ((nI_eq (b := 0) (by have := hW.2.2.1; omega) (by decide)).mp y))]
    exact Q_1005 c4
theorem H_fin (h : HS T im sh q0 g S) : ∃ Z, lp 1000 (l_L_holds_758 xL xs) (FP.dconst0, 0, S) = some (1, Z) := by
  have hW : WT T := h.1.2.1
  have n8 := hW.1
  obtain ⟨t6, t0⟩ := ten_6 hW.2.1
  have EU := E_U
  have E0 := fE_pos
  have key := lp_inv (body := l_L_holds_758 xL xs) (I := fun j x => ∃ v s Y, x = (v, nI j, Y) ∧ HS T im sh q0 g Y ∧ FV v s ∧ s * ((10 ^ tm T : Nat) : Int) ≤ (nsm (lkN T) j : Int) * (fU : Int) + 2 * ((j : Int) * (((10 ^ tm T : Nat) : Int) * (fE : Int))) ∧ (nsm (lkN T) j : Int) * (fU : Int) ≤ s * ((10 ^ tm T : Nat) : Int) + 2 * ((j : Int) * (((10 ^ tm T : Nat) : Int) * (fE : Int))))
    (Q := fun r => r.1 = 1) (m := tn T) (fun j x hn hI => by
      obtain ⟨v, s, Y, rfl, hY, hv, h1, h2⟩ := hI
      unfold l_L_holds_758
      dsimp only
      rcases Nat.lt_or_ge j (tn T) with nj | nj
      · right
        have a8 : nsm (lkN T) j ≤ 8 * 10 ^ tm T := Nat.le_trans (nsm_le (fun k hk => lk_le hW (by omega))) (Nat.mul_le_mul_right _ (by omega))
        obtain ⟨s1, s2⟩ := pr1 (j := (j : Int)) rfl rfl (by omega) (by omega) (by omega) (by omega) (by omega) (by omega) (by omega) (by omega) h1 h2
        obtain ⟨v', s', X, x1, x2, x3, z, z2, z3, z4⟩ := Q_758 (xL := xL) (xs := xs) hY nj hv s1 s2
        have z2' : (z : Int) * ((10 ^ tm T : Nat) : Int) ≤ (lkN T j : Int) * (fU : Int) + ((10 ^ tm T : Nat) : Int) * (fE : Int) := by rw [← Int.natCast_mul, ← Int.natCast_mul, ← Int.natCast_mul, ← Int.natCast_add]; exact Int.ofNat_le.mpr z2
        have z3' : (lkN T j : Int) * (fU : Int) ≤ (z : Int) * ((10 ^ tm T : Nat) : Int) + ((10 ^ tm T : Nat) : Int) * (fE : Int) := by rw [← Int.natCast_mul, ← Int.natCast_mul, ← Int.natCast_mul, ← Int.natCast_add]; exact Int.ofNat_le.mpr z3
        obtain ⟨k1, k2⟩ := pr2 (s' := s') rfl (by omega) h1 h2 z2' z3' (by omega) (by omega)
        exact ⟨nj, _, x1, v', s', X, rfl, x2, x3, k1, k2⟩
      · left
        obtain rfl : j = tn T := by omega
        rw [lk_sum hW] at h1 h2
        obtain ⟨X, x1⟩ := Q_921 (xL := xL) (xs := xs) hY hv h1 h2
        unfold b_L_holds_758
        rw [hY.2.1.1, if_pos (Int32.le_refl _), x1]
        exact ⟨_, rfl, rfl⟩)
  obtain ⟨r, r1, r2⟩ := key 1000 0 (FP.dconst0, nI 0, S) (Nat.zero_le _) (by omega) ⟨_, 0, S, rfl, h, FV_0, by simp [nsm], by simp [nsm]⟩
  obtain ⟨r0, X⟩ := r
  dsimp only at r2
  subst r2
  exact ⟨X, r1⟩
end HOLDD
theorem HOLDS {S : St} {T : TT} {im : Option TT} {sh : Nat → Sh} {xL : Nat} {xs : Nat → Int32} (hL : xL ≤ 260) (c : IC S (T, im, sh)) (l : LV S T) (e : ER T) (n0 : tn T = 0) (m0 : tm T = 0) (k0 : tk T = 0) : ∃ Z, L_L_holds xL xs S = some (1, Z) := by
  obtain ⟨X, x1, T', sh', c', l'⟩ := BEGIN (xs := xs) hL c l e n0 m0 k0
  unfold L_L_holds b_L_holds_0
  rw [x1, Option.bind_some, if_neg (show ¬ (1 : Int32) = 0 by decide), show L_X11_count 6 X = some (sm (tF T' 4) (tn T')) from K_count c' 6, Option.bind_some, gd_t (decide_eq_true c'.1), nm_eq, nm_eq]
  have N := NV_san c'.1 3
  have ck := c'.1
  have hs : HS T' im sh' (tp X) (fun _ => 0) (san X 3) := by
    refine ⟨NEW_IC N.1 c', ?_, NEW_d N.1, N.2, by rw [N.1.2.2.1]; exact Nat.lt_succ_self _⟩
    refine LV_tr l' (by rw [N.1.2.2.1]; exact Nat.le_succ _) (fun q h1 h2 => NV_o N (by omega)) (fun q n h1 h2 => by rw [NV_dy N (by omega)]; exact h2) ?_ ?_ ?_ (fun a b ha hb => ?_) (fun p hp => Or.inl ⟨hp, by rw [NV_r N (by omega)], rfl⟩) (fun i hi => Or.inl ⟨hi, by rw [NV_r N (by omega)], rfl⟩)
    · rw [NV_o N (by omega)]; exact l'.1
    · rw [NV_o N (by omega)]; exact l'.2.1
    · rw [NV_o N (by omega)]; exact l'.2.2.1
    · rw [NV_o N (by omega)]; exact l'.2.2.2.1 a b ha hb
  exact H_loop (fun X ⟨g, hX⟩ => H_fin hX) hs
