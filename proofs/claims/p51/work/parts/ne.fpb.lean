/-! DOUBLES: of a whole number, a quotient, a sum; their order. -/
def fU : Nat := 2 ^ 1074
def fE : Nat := 2 ^ 1025
theorem fE_pos : 0 < fE := Nat.two_pow_pos _
theorem fU_pos : 0 < fU := Nat.two_pow_pos _
theorem fW_le {q : Int} (h : q ≤ -49) : 2 ^ (q + 1074).toNat ≤ fE := Nat.pow_le_pow_right (by decide) (by omega)
theorem fQW {q : Int} (h1 : -1074 ≤ q) (h2 : q ≤ 0) : 2 ^ (-q).toNat * 2 ^ (q + 1074).toNat = fU := by
  unfold fU
  rw [← Nat.pow_add]
  congr 1
  omega
theorem pw_le {a b : Nat} (h : 2 ^ a ≤ 2 ^ b) : a ≤ b := (Nat.pow_le_pow_iff_right (by decide)).mp h
/-- the bits x are the number z, in the format's least units -/
def FV (x : UInt64) (z : Int) : Prop := ∃ s c q, fDec x.toNat = .fin s c q ∧ fOk c q ∧ z = Jvm.FP.Core.signed s (c * 2 ^ (q + 1074).toNat)
theorem round_0 (s : Bool) (B : Nat) (e : Int) : Jvm.FP.Core.roundRatio fB s 0 B e = .fin s 0 (-1074) := by
  unfold Jvm.FP.Core.roundRatio
  rw [if_pos rfl, b_qmin]
theorem ok_0 : fOk 0 (-1074) := ⟨by decide, by decide, by decide, Or.inl rfl⟩
theorem l2d_0 : fDec (FP.l2d (lN 0)).toNat = .fin false 0 (-1074) := by decide +kernel
theorem l2d_of {a : Nat} (h0 : 0 < a) (ha : a < 2147483648) : ∃ k : Nat, fDec (FP.l2d (lN a)).toNat = .fin false (a * 2 ^ k) (-(k : Int)) := by
  have e1 : FP.l2d (lN a) = UInt64.ofNat (Jvm.FP.Core.encode fB (Jvm.FP.Core.roundRatio fB false a 1 0)) := by
    show UInt64.ofNat (Jvm.FP.Core.encode fB (Jvm.FP.Core.round fB (Jvm.FP.Core.ofInt (lN a).toInt))) = _
    rw [lN_toInt (by omega)]
    unfold Jvm.FP.Core.ofInt
    rw [show decide ((a : Int) < 0) = false from decide_eq_false (by omega), Int.natAbs_natCast]
    rfl
  obtain ⟨l1, l2⟩ := lead_spec h0 (show 0 < 1 by decide)
  have P := fun n => Nat.two_pow_pos n
  generalize hk : Jvm.FP.Core.leading a 1 = k at l1 l2
  rw [Nat.one_mul] at l1 l2
  have k0 : 0 ≤ k := by
    apply Classical.byContradiction
    intro z
    rw [show (k + 1).toNat = 0 by omega] at l2
    have := Nat.mul_pos h0 (P (-k - 1).toNat)
    omega
  rw [show (-k).toNat = 0 by omega, Nat.pow_zero, Nat.mul_one] at l1
  rw [show (-k - 1).toNat = 0 by omega, Nat.pow_zero, Nat.mul_one] at l2
  have k31 : k < 31 := by
    apply Classical.byContradiction
    intro z
    have : 2 ^ 31 ≤ 2 ^ k.toNat := Nat.pow_le_pow_right (by decide) (by omega)
    omega
  obtain ⟨q, c0, c, q', hq, h0', -, hr, ok, -, hc⟩ := round_of (s := false) (A := a) (B := 1) (e := 0) h0 (by decide) (by rw [hk]; omega)
  rw [hk] at hq
  have qe : q = k - 52 := by omega
  rw [show (q - 0).toNat = 0 by omega, Nat.pow_zero, Nat.one_mul, near_1] at h0'
  have c53 : c0 < 9007199254740992 := by
    rw [h0']
    calc a * 2 ^ (0 - q).toNat < 2 ^ (k + 1).toNat * 2 ^ (0 - q).toNat := Nat.mul_lt_mul_of_pos_right l2 (P _)
      _ = 2 ^ 53 := by rw [← Nat.pow_add]; congr 1; omega
      _ = 9007199254740992 := by decide
  obtain ⟨rfl, rfl⟩ := hc c53
  refine ⟨(0 - q').toNat, ?_⟩
  rw [e1, hr, enc_dec ok, h0']
  congr 1
  omega
theorem dec_q (x y : UInt64) : FP.ddiv x y = UInt64.ofNat (Jvm.FP.Core.encode fB (Jvm.FP.Core.quotient fB (fDec x.toNat) (fDec y.toNat))) := rfl
theorem ddiv_of {a b : Nat} (ha : a < 2147483648) (hb : b < 2147483648) (b0 : 0 < b) (h8 : a ≤ 8 * b) :
    ∃ z : Nat, FV (FP.ddiv (FP.l2d (lN a)) (FP.l2d (lN b))) (z : Int) ∧ z * b ≤ a * fU + b * fE ∧ a * fU ≤ z * b + b * fE ∧ (a ≤ b → z ≤ fU) := by
  have P := fun n => Nat.two_pow_pos n
  obtain ⟨k2, e2⟩ := l2d_of b0 hb
  have bne : ¬ b * 2 ^ k2 = 0 := fun z => by have := Nat.mul_pos b0 (P k2); omega
  rcases Nat.eq_zero_or_pos a with rfl | a0
  · refine ⟨0, ⟨false, 0, -1074, ?_, ok_0, by simp [Jvm.FP.Core.signed]⟩, by omega, by omega, fun _ => Nat.zero_le _⟩
    rw [dec_q, l2d_0, e2]
    show fDec (UInt64.ofNat (Jvm.FP.Core.encode fB (if b * 2 ^ k2 = 0 then _ else _))).toNat = _
    rw [if_neg bne, round_0]
    exact enc_dec ok_0
  · obtain ⟨k1, e1⟩ := l2d_of a0 ha
    have A0 : 0 < a * 2 ^ k1 := Nat.mul_pos a0 (P _)
    have B0 : 0 < b * 2 ^ k2 := Nat.mul_pos b0 (P _)
    obtain ⟨l1, -⟩ := lead_spec A0 B0
    have lb : ∀ j : Nat, a ≤ 2 ^ j * b → Jvm.FP.Core.leading (a * 2 ^ k1) (b * 2 ^ k2) + (-(k1 : Int) - -(k2 : Int)) ≤ (j : Int) := by
      intro j hj
      generalize Jvm.FP.Core.leading (a * 2 ^ k1) (b * 2 ^ k2) = k at l1 ⊢
      have h1 : b * 2 ^ (k2 + k.toNat) ≤ b * 2 ^ (j + k1 + (-k).toNat) := by
        calc b * 2 ^ (k2 + k.toNat) = b * 2 ^ k2 * 2 ^ k.toNat := by rw [Nat.pow_add]; ac_rfl
          _ ≤ a * 2 ^ k1 * 2 ^ (-k).toNat := l1
          _ ≤ 2 ^ j * b * 2 ^ k1 * 2 ^ (-k).toNat := Nat.mul_le_mul_right _ (Nat.mul_le_mul_right _ hj)
          _ = b * 2 ^ (j + k1 + (-k).toNat) := by rw [Nat.pow_add, Nat.pow_add]; ac_rfl
      have := pw_le (Nat.le_of_mul_le_mul_left h1 b0)
      omega
    have l3 := lb 3 (by omega)
    have l0 := lb 0
    obtain ⟨q, c0, c, q', hq, h0, up, hr, ok, hv, -⟩ := round_of (s := false) (e := -(k1 : Int) - -(k2 : Int)) A0 B0 (by omega)
    generalize Jvm.FP.Core.leading (a * 2 ^ k1) (b * 2 ^ k2) = k at hq l3 l0
    have q49 : q ≤ -49 := by omega
    have q1074 : -1074 ≤ q := by omega
    obtain ⟨N, hN⟩ : ∃ N, N = a * 2 ^ k1 * 2 ^ (-(k1 : Int) - -(k2 : Int) - q).toNat := ⟨_, rfl⟩
    obtain ⟨D, hD⟩ : ∃ D, D = b * 2 ^ k2 * 2 ^ (q - (-(k1 : Int) - -(k2 : Int))).toNat := ⟨_, rfl⟩
    rw [← hN, ← hD] at h0
    have D0 : 0 < D := by rw [hD]; exact Nat.mul_pos B0 (P _)
    obtain ⟨n1, n2⟩ := near_b N D D0
    rw [← h0] at n1 n2
    have nb : N * b = a * 2 ^ (-q).toNat * D := by
      rw [hN, hD]
      calc a * 2 ^ k1 * 2 ^ (-(k1 : Int) - -(k2 : Int) - q).toNat * b = a * b * 2 ^ (k1 + (-(k1 : Int) - -(k2 : Int) - q).toNat) := by rw [Nat.pow_add]; ac_rfl
        _ = a * b * 2 ^ ((-q).toNat + k2 + (q - (-(k1 : Int) - -(k2 : Int))).toNat) := by congr 2; omega
        _ = a * 2 ^ (-q).toNat * (b * 2 ^ k2 * 2 ^ (q - (-(k1 : Int) - -(k2 : Int))).toNat) := by rw [Nat.pow_add, Nat.pow_add]; ac_rfl
    have m1 : 2 * (a * 2 ^ (-q).toNat) ≤ (2 * c0 + 1) * b := by
      refine Nat.le_of_mul_le_mul_right (c := D) ?_ D0
      calc 2 * (a * 2 ^ (-q).toNat) * D = 2 * N * b := by rw [Nat.mul_assoc, ← nb, Nat.mul_assoc]
        _ ≤ (2 * c0 + 1) * D * b := Nat.mul_le_mul_right _ n1
        _ = (2 * c0 + 1) * b * D := by ac_rfl
    have m2 : 2 * c0 * b ≤ 2 * (a * 2 ^ (-q).toNat) + b := by
      refine Nat.le_of_mul_le_mul_right (c := D) ?_ D0
      calc 2 * c0 * b * D = 2 * c0 * D * b := by ac_rfl
        _ ≤ (2 * N + D) * b := Nat.mul_le_mul_right _ n2
        _ = 2 * (N * b) + b * D := by rw [Nat.add_mul, Nat.mul_assoc, Nat.mul_comm D b]
        _ = (2 * (a * 2 ^ (-q).toNat) + b) * D := by rw [nb, Nat.add_mul, ← Nat.mul_assoc 2]
    have QW := fQW q1074 (by omega)
    have WE := fW_le q49
    refine ⟨c0 * 2 ^ (q + 1074).toNat, ⟨false, c, q', ?_, ok, ?_⟩, ?_, ?_, fun hab => ?_⟩
    · rw [dec_q, e1, e2]
      show fDec (UInt64.ofNat (Jvm.FP.Core.encode fB (if b * 2 ^ k2 = 0 then _ else _))).toNat = _
      rw [if_neg bne]
      show fDec (UInt64.ofNat (Jvm.FP.Core.encode fB (Jvm.FP.Core.roundRatio fB false _ _ _))).toNat = _
      rw [hr]
      exact enc_dec ok
    · rw [hv]; simp [Jvm.FP.Core.signed]
    · generalize hW : 2 ^ (q + 1074).toNat = W at QW WE
      have := Nat.mul_le_mul_right W m2
      have e3 : 2 * c0 * b * W = 2 * (c0 * W * b) := by rw [Nat.mul_assoc 2, Nat.mul_assoc 2]; congr 1; ac_rfl
      have e4 : (2 * (a * 2 ^ (-q).toNat) + b) * W = 2 * (a * fU) + b * W := by rw [Nat.add_mul, Nat.mul_assoc 2, Nat.mul_assoc a, QW]
      have e5 : b * W ≤ b * fE := Nat.mul_le_mul_left _ WE
      omega
    · generalize hW : 2 ^ (q + 1074).toNat = W at QW WE
      have := Nat.mul_le_mul_right W m1
      have e3 : (2 * c0 + 1) * b * W = 2 * (c0 * W * b) + b * W := by rw [Nat.add_mul, Nat.one_mul, Nat.add_mul, Nat.mul_assoc 2, Nat.mul_assoc 2]; congr 2; ac_rfl
      have e4 : 2 * (a * 2 ^ (-q).toNat) * W = 2 * (a * fU) := by rw [Nat.mul_assoc 2, Nat.mul_assoc a, QW]
      have e5 : b * W ≤ b * fE := Nat.mul_le_mul_left _ WE
      omega
    · have l00 := l0 (by omega)
      by_cases z : q ≤ -53
      · calc c0 * 2 ^ (q + 1074).toNat ≤ 2 ^ 53 * 2 ^ (q + 1074).toNat := Nat.mul_le_mul_right _ up
          _ = 2 ^ (53 + (q + 1074).toNat) := by rw [Nat.pow_add]
          _ ≤ fU := Nat.pow_le_pow_right (by decide) (by omega)
      · have q52 : q = -52 := by omega
        subst q52
        have c52 : c0 ≤ 4503599627370496 := by
          have h1 : 2 * c0 * b ≤ 9007199254740993 * b := by
            refine Nat.le_trans m2 ?_
            rw [show (2 : Nat) ^ (-(-52 : Int)).toNat = 4503599627370496 by decide]
            omega
          have := Nat.le_of_mul_le_mul_right h1 b0
          omega
        calc c0 * 2 ^ ((-52 : Int) + 1074).toNat ≤ 2 ^ 52 * 2 ^ ((-52 : Int) + 1074).toNat := Nat.mul_le_mul_right _ c52
          _ = 2 ^ (52 + ((-52 : Int) + 1074).toNat) := by rw [Nat.pow_add]
          _ ≤ fU := Nat.pow_le_pow_right (by decide) (by decide)
