/-! DOUBLES: a sum, a difference, an absolute value; what is less. -/
theorem sg_mul (s : Bool) (c k : Nat) : Jvm.FP.Core.signed s (c * k) = Jvm.FP.Core.signed s c * (k : Int) := by
  unfold Jvm.FP.Core.signed
  cases s
  · simp
  · simp [Int.neg_mul]
theorem f16 : 16 * fU = 2 ^ 1078 := by
  unfold fU
  rw [show (16 : Nat) = 2 ^ 4 by decide, ← Nat.pow_add]
/-- a sum of two numbers, rounded -/
theorem sum_of {s t : Bool} {c d : Nat} {q r : Int} {zx zy : Int} (hc : fOk c q) (hd : fOk d r) (ex : zx = Jvm.FP.Core.signed s (c * 2 ^ (q + 1074).toNat)) (ey : zy = Jvm.FP.Core.signed t (d * 2 ^ (r + 1074).toNat)) (hb : (zx + zy).natAbs ≤ 15 * fU) :
    ∃ s' c' q', Jvm.FP.Core.round fB (Jvm.FP.Core.exactSum (.fin s c q) (.fin t d r)) = .fin s' c' q' ∧ fOk c' q' ∧ (Jvm.FP.Core.signed s' (c' * 2 ^ (q' + 1074).toNat) - (zx + zy)).natAbs ≤ fE := by
  have P := fun n => Nat.two_pow_pos n
  have q1 := hc.2.1
  have r1 := hd.2.1
  have m1 : -1074 ≤ min q r := by omega
  have m2 : min q r ≤ q := by omega
  have m3 : min q r ≤ r := by omega
  show ∃ s' c' q', Jvm.FP.Core.roundRatio fB (Jvm.FP.Core.sumSign s t (Jvm.FP.Core.sumUnits s c q t d r (min q r))) (Jvm.FP.Core.sumUnits s c q t d r (min q r)).natAbs 1 (min q r) = _ ∧ _
  generalize min q r = m at m1 m2 m3 ⊢
  have ev : zx + zy = Jvm.FP.Core.sumUnits s c q t d r m * ((2 ^ (m + 1074).toNat : Nat) : Int) := by
    unfold Jvm.FP.Core.sumUnits Jvm.FP.Core.inUnits
    rw [Int.add_mul, ← sg_mul, ← sg_mul, ex, ey, Nat.mul_assoc, Nat.mul_assoc, ← Nat.pow_add, ← Nat.pow_add, show (q - m).toNat + (m + 1074).toNat = (q + 1074).toNat by omega, show (r - m).toNat + (m + 1074).toNat = (r + 1074).toNat by omega]
  generalize Jvm.FP.Core.sumUnits s c q t d r m = v at ev ⊢
  have ea : (zx + zy).natAbs = v.natAbs * 2 ^ (m + 1074).toNat := by rw [ev, Int.natAbs_mul, Int.natAbs_natCast]
  rcases Nat.eq_zero_or_pos v.natAbs with z | n0
  · refine ⟨_, 0, -1074, by rw [z]; exact round_0 _ _ _, ok_0, ?_⟩
    have v0 : v = 0 := Int.natAbs_eq_zero.mp z
    rw [ev, v0]
    simp [Jvm.FP.Core.signed]
  · have v0 : v ≠ 0 := fun z => by rw [z] at n0; exact absurd n0 (by decide)
    have sg : Jvm.FP.Core.sumSign s t v = decide (v < 0) := if_neg v0
    rw [sg]
    have sv : Jvm.FP.Core.signed (decide (v < 0)) v.natAbs = v := by
      unfold Jvm.FP.Core.signed
      by_cases z : v < 0
      · rw [decide_eq_true z, if_pos rfl]; omega
      · rw [decide_eq_false z, if_neg (by decide)]; omega
    generalize v.natAbs = n at n0 ea sv ⊢
    generalize decide (v < 0) = sg at sv ⊢
    obtain ⟨l1, -⟩ := lead_spec n0 (show 0 < 1 by decide)
    rw [Nat.one_mul] at l1
    have l4 : Jvm.FP.Core.leading n 1 + m ≤ 3 := by
      generalize Jvm.FP.Core.leading n 1 = k at l1 ⊢
      have h1 : 2 ^ (k.toNat + (m + 1074).toNat) < 2 ^ (1078 + (-k).toNat) := by
        calc 2 ^ (k.toNat + (m + 1074).toNat) = 2 ^ k.toNat * 2 ^ (m + 1074).toNat := Nat.pow_add ..
          _ ≤ n * 2 ^ (-k).toNat * 2 ^ (m + 1074).toNat := Nat.mul_le_mul_right _ l1
          _ = n * 2 ^ (m + 1074).toNat * 2 ^ (-k).toNat := by ac_rfl
          _ ≤ 15 * fU * 2 ^ (-k).toNat := Nat.mul_le_mul_right _ (by rw [← ea]; exact hb)
          _ < 16 * fU * 2 ^ (-k).toNat := Nat.mul_lt_mul_of_pos_right (by have := fU_pos; omega) (P _)
          _ = 2 ^ (1078 + (-k).toNat) := by rw [Nat.pow_add, f16]
      have := (Nat.pow_lt_pow_iff_right (by decide)).mp h1
      omega
    obtain ⟨q2, c0, c', q', hq, h0, -, hr, ok, hv, -⟩ := round_of (s := sg) (e := m) n0 (show 0 < 1 by decide) (by omega)
    rw [Nat.one_mul] at h0
    obtain ⟨n1, n2⟩ := near_b (n * 2 ^ (m - q2).toNat) (2 ^ (q2 - m).toNat) (P _)
    rw [← h0] at n1 n2
    generalize Jvm.FP.Core.leading n 1 = k at hq l4
    have q49 : q2 ≤ -49 := by omega
    have q1074 : -1074 ≤ q2 := by omega
    have WE := fW_le q49
    have nw : n * 2 ^ (m - q2).toNat * 2 ^ (q2 + 1074).toNat = n * 2 ^ (m + 1074).toNat * 2 ^ (q2 - m).toNat := by
      rw [Nat.mul_assoc, Nat.mul_assoc, ← Nat.pow_add, ← Nat.pow_add]
      congr 2
      omega
    have D0 := P (q2 - m).toNat
    generalize 2 ^ (q2 - m).toNat = D at n1 n2 nw D0
    generalize n * 2 ^ (m - q2).toNat = N at n1 n2 nw
    have k1 : 2 * (n * 2 ^ (m + 1074).toNat) ≤ (2 * c0 + 1) * 2 ^ (q2 + 1074).toNat := by
      refine Nat.le_of_mul_le_mul_right (c := D) ?_ D0
      calc 2 * (n * 2 ^ (m + 1074).toNat) * D = 2 * N * 2 ^ (q2 + 1074).toNat := by rw [Nat.mul_assoc, ← nw, Nat.mul_assoc]
        _ ≤ (2 * c0 + 1) * D * 2 ^ (q2 + 1074).toNat := Nat.mul_le_mul_right _ n1
        _ = (2 * c0 + 1) * 2 ^ (q2 + 1074).toNat * D := by ac_rfl
    have k2 : 2 * c0 * 2 ^ (q2 + 1074).toNat ≤ 2 * (n * 2 ^ (m + 1074).toNat) + 2 ^ (q2 + 1074).toNat := by
      refine Nat.le_of_mul_le_mul_right (c := D) ?_ D0
      calc 2 * c0 * 2 ^ (q2 + 1074).toNat * D = 2 * c0 * D * 2 ^ (q2 + 1074).toNat := by ac_rfl
        _ ≤ (2 * N + D) * 2 ^ (q2 + 1074).toNat := Nat.mul_le_mul_right _ n2
        _ = (2 * (n * 2 ^ (m + 1074).toNat) + 2 ^ (q2 + 1074).toNat) * D := by
          rw [Nat.add_mul, Nat.mul_assoc, nw, Nat.add_mul, ← Nat.mul_assoc 2, Nat.mul_comm D]
    refine ⟨sg, c', q', hr, ok, ?_⟩
    rw [hv, ev, ← sv, ← sg_mul]
    have e1 : (2 * c0 + 1) * 2 ^ (q2 + 1074).toNat = 2 * (c0 * 2 ^ (q2 + 1074).toNat) + 2 ^ (q2 + 1074).toNat := by rw [Nat.add_mul, Nat.one_mul, Nat.mul_assoc]
    have e2 : 2 * c0 * 2 ^ (q2 + 1074).toNat = 2 * (c0 * 2 ^ (q2 + 1074).toNat) := Nat.mul_assoc ..
    rw [e1] at k1
    rw [e2] at k2
    generalize c0 * 2 ^ (q2 + 1074).toNat = X at k1 k2 ⊢
    generalize n * 2 ^ (m + 1074).toNat = Z at k1 k2 ⊢
    generalize 2 ^ (q2 + 1074).toNat = W at k1 k2 WE
    unfold Jvm.FP.Core.signed
    cases sg
    · rw [if_neg (by decide), if_neg (by decide)]; omega
    · rw [if_pos rfl, if_pos rfl]; omega
theorem dadd_of {x y : UInt64} {zx zy : Int} (hx : FV x zx) (hy : FV y zy) (hb : (zx + zy).natAbs ≤ 15 * fU) : ∃ z, FV (FP.dadd x y) z ∧ (z - (zx + zy)).natAbs ≤ fE := by
  obtain ⟨s, c, q, hx1, hx2, hx3⟩ := hx
  obtain ⟨t, d, r, hy1, hy2, hy3⟩ := hy
  obtain ⟨s', c', q', h1, h2, h3⟩ := sum_of hx2 hy2 hx3 hy3 hb
  refine ⟨_, ⟨s', c', q', ?_, h2, rfl⟩, h3⟩
  show fDec (UInt64.ofNat (Jvm.FP.Core.encode fB (Jvm.FP.Core.round fB (Jvm.FP.Core.exactSum (fDec x.toNat) (fDec y.toNat))))).toNat = _
  rw [hx1, hy1, h1]
  exact enc_dec h2
theorem dsub_of {x y : UInt64} {zx zy : Int} (hx : FV x zx) (hy : FV y zy) (hb : (zx - zy).natAbs ≤ 15 * fU) : ∃ z, FV (FP.dsub x y) z ∧ (z - (zx - zy)).natAbs ≤ fE := by
  obtain ⟨s, c, q, hx1, hx2, hx3⟩ := hx
  obtain ⟨t, d, r, hy1, hy2, hy3⟩ := hy
  have e : -zy = Jvm.FP.Core.signed (!t) (d * 2 ^ (r + 1074).toNat) := by
    rw [hy3]
    unfold Jvm.FP.Core.signed
    cases t <;> simp
  obtain ⟨s', c', q', h1, h2, h3⟩ := sum_of hx2 hy2 hx3 e hb
  refine ⟨_, ⟨s', c', q', ?_, h2, rfl⟩, h3⟩
  show fDec (UInt64.ofNat (Jvm.FP.Core.encode fB (Jvm.FP.Core.round fB (Jvm.FP.Core.exactSum (fDec x.toNat) (Jvm.FP.Core.negate (fDec y.toNat)))))).toNat = _
  rw [hx1, hy1]
  show fDec (UInt64.ofNat (Jvm.FP.Core.encode fB (Jvm.FP.Core.round fB (Jvm.FP.Core.exactSum (.fin s c q) (.fin (!t) d r))))).toNat = _
  rw [h1]
  exact enc_dec h2
theorem cmp_mul {a b k : Int} (hk : 0 < k) : compare (a * k) (b * k) = compare a b := by
  show (if a * k < b * k then Ordering.lt else if a * k = b * k then .eq else .gt) = (if a < b then Ordering.lt else if a = b then .eq else .gt)
  by_cases h : a < b
  · rw [if_pos h, if_pos (Int.mul_lt_mul_of_pos_right h hk)]
  · rw [if_neg h, if_neg (fun z => h (Int.lt_of_mul_lt_mul_right z (Int.le_of_lt hk)))]
    by_cases e : a = b
    · rw [if_pos e, if_pos (by rw [e])]
    · rw [if_neg e, if_neg (fun z => e (Int.eq_of_mul_eq_mul_right (by omega) z))]
theorem dcmp_of {x y : UInt64} {zx zy : Int} (hx : FV x zx) (hy : FV y zy) : FP.dcmp x y = some (compare zx zy) := by
  obtain ⟨s, c, q, hx1, hx2, hx3⟩ := hx
  obtain ⟨t, d, r, hy1, hy2, hy3⟩ := hy
  have q1 := hx2.2.1
  have r1 := hy2.2.1
  show Jvm.FP.Core.order (fDec x.toNat) (fDec y.toNat) = _
  rw [hx1, hy1]
  show some (compare (Jvm.FP.Core.signed s (Jvm.FP.Core.inUnits c q (min q r))) (Jvm.FP.Core.signed t (Jvm.FP.Core.inUnits d r (min q r)))) = _
  have m1 : -1074 ≤ min q r := by omega
  have m2 : min q r ≤ q := by omega
  have m3 : min q r ≤ r := by omega
  generalize min q r = m at m1 m2 m3 ⊢
  have ex : zx = Jvm.FP.Core.signed s (Jvm.FP.Core.inUnits c q m) * ((2 ^ (m + 1074).toNat : Nat) : Int) := by
    unfold Jvm.FP.Core.inUnits
    rw [← sg_mul, hx3, Nat.mul_assoc, ← Nat.pow_add, show (q - m).toNat + (m + 1074).toNat = (q + 1074).toNat by omega]
  have ey : zy = Jvm.FP.Core.signed t (Jvm.FP.Core.inUnits d r m) * ((2 ^ (m + 1074).toNat : Nat) : Int) := by
    unfold Jvm.FP.Core.inUnits
    rw [← sg_mul, hy3, Nat.mul_assoc, ← Nat.pow_add, show (r - m).toNat + (m + 1074).toNat = (r + 1074).toNat by omega]
  have P := Nat.two_pow_pos (m + 1074).toNat
  rw [ex, ey, cmp_mul (by omega)]
theorem cmp_ge {a b : Int} (h : b ≤ a) (op : CmpOp) : ¬ (Op.cmpValue (some (compare a b)) op : Int32) < 0 := by
  rw [show compare a b = (if a < b then Ordering.lt else if a = b then .eq else .gt) from rfl, if_neg (by omega)]
  split
  · show ¬ (0 : Int32) < 0; decide
  · show ¬ (1 : Int32) < 0; decide
theorem cmp_le {a b : Int} (h : a ≤ b) (op : CmpOp) : (Op.cmpValue (some (compare a b)) op : Int32) ≤ 0 := by
  rw [show compare a b = (if a < b then Ordering.lt else if a = b then .eq else .gt) from rfl]
  by_cases z : a < b
  · rw [if_pos z]; show (-1 : Int32) ≤ 0; decide
  · rw [if_neg z, if_pos (by omega)]; show (0 : Int32) ≤ 0; decide
theorem and_63 (x : UInt64) : (x &&& 0x7fffffffffffffff).toNat = x.toNat % 9223372036854775808 := by
  rw [UInt64.toNat_and, show (0x7fffffffffffffff : UInt64).toNat = 2 ^ 63 - 1 from rfl, Nat.and_two_pow_sub_one_eq_mod]
theorem f_T (n : Nat) : Jvm.FP.Core.fieldT fB n = n % 4503599627370496 := by unfold Jvm.FP.Core.fieldT; rw [b_tails]
theorem f_E (n : Nat) : Jvm.FP.Core.fieldE fB n = n / 4503599627370496 % 2048 := by unfold Jvm.FP.Core.fieldE; rw [b_tails, b_exps]
theorem f_S (n : Nat) : Jvm.FP.Core.fieldS fB n = (n / 4503599627370496 / 2048 % 2 == 1) := by unfold Jvm.FP.Core.fieldS; rw [b_tails, b_exps]
theorem dec_fin {n : Nat} {s : Bool} {c : Nat} {q : Int} (h : fDec n = .fin s c q) : n / 4503599627370496 % 2048 ≠ 2047 := by
  intro e
  have h : Jvm.FP.Core.decode fB n = _ := h
  unfold Jvm.FP.Core.decode at h
  rw [f_E, f_T, b_exps, if_pos e] at h
  split at h <;> cases h
theorem FV_nn {x : UInt64} {z : Int} (h : FV x z) : nn64 x = true := by
  obtain ⟨s, c, q, h1, -, -⟩ := h
  have := dec_fin h1
  unfold nn64
  refine decide_eq_true ?_
  rw [UInt64.le_iff_toNat_le, and_63, show (0x7ff0000000000000 : UInt64).toNat = 9218868437227405312 from rfl]
  omega
theorem FV_abs {x : UInt64} {z : Int} (h : FV x z) : FV (dabs x) (z.natAbs : Int) := by
  obtain ⟨s, c, q, h1, h2, h3⟩ := h
  refine ⟨false, c, q, ?_, h2, ?_⟩
  · unfold dabs
    rw [and_63]
    generalize x.toNat = n at h1
    have hf := dec_fin h1
    have h1 : Jvm.FP.Core.decode fB n = _ := h1
    show Jvm.FP.Core.decode fB _ = _
    unfold Jvm.FP.Core.decode at h1 ⊢
    rw [f_E, f_T, f_S, b_exps, b_tails, b_qmin, if_neg (by omega)] at h1
    rw [f_E, f_T, f_S, b_exps, b_tails, b_qmin, if_neg (by omega), show n % 9223372036854775808 / 4503599627370496 % 2048 = n / 4503599627370496 % 2048 by omega, show n % 9223372036854775808 % 4503599627370496 = n % 4503599627370496 by omega, show n % 9223372036854775808 / 4503599627370496 / 2048 % 2 = 0 by omega]
    generalize (n / 4503599627370496 / 2048 % 2 == 1) = s' at h1
    split at h1
    · rename_i e
      rw [if_pos e]
      injection h1 with a1 a2 a3
      subst a2 a3
      rfl
    · rename_i e
      rw [if_neg e]
      injection h1 with a1 a2 a3
      subst a2 a3
      rfl
  · rw [h3]
    generalize c * 2 ^ (q + 1074).toNat = n
    unfold Jvm.FP.Core.signed
    cases s
    · simp
    · simp
theorem fU_52 : fU = 4503599627370496 * 2 ^ 1022 := by
  unfold fU
  rw [show (4503599627370496 : Nat) = 2 ^ 52 by decide, ← Nat.pow_add]
theorem FV_0 : FV FP.dconst0 0 := ⟨false, 0, -1074, by decide +kernel, ok_0, by simp [Jvm.FP.Core.signed]⟩
theorem FV_1 : FV FP.dconst1 (fU : Int) := by
  refine ⟨false, 4503599627370496, -52, by decide +kernel, ⟨by decide, by decide, by decide, Or.inr (Nat.le_refl _)⟩, ?_⟩
  rw [show ((-52 : Int) + 1074).toNat = 1022 by decide, ← fU_52]
  exact (if_neg (by decide)).symm
def fV6 : Nat := 4722366482869645 * 2 ^ 1002
theorem fV6_72 : fV6 = 4722366482869645 * 2 ^ 1002 := by unfold fV6; rfl
theorem FV_6 : FV 4517329193108106637 (fV6 : Int) := by
  refine ⟨false, 4722366482869645, -72, by decide +kernel, ⟨by decide, by decide, by decide, Or.inr (by decide)⟩, ?_⟩
  rw [show ((-72 : Int) + 1074).toNat = 1002 by decide, ← fV6_72]
  exact (if_neg (by decide)).symm
theorem small_6 : 20 * fE ≤ fV6 := by
  unfold fE fV6
  rw [show (1025 : Nat) = 23 + 1002 from rfl, Nat.pow_add, ← Nat.mul_assoc]
  exact Nat.mul_le_mul_right _ (by decide)
theorem E_U : 33554432 * fE ≤ fU := by
  unfold fE fU
  rw [show (33554432 : Nat) = 2 ^ 25 by decide, ← Nat.pow_add]
  exact Nat.pow_le_pow_right (by decide) (by decide)
