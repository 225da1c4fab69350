/-! DOUBLES: what a rounded number is, and how far from the exact one. -/
abbrev fB : Jvm.FP.Core.Fmt := Jvm.FP.Core.b64
abbrev fDec (n : Nat) : Jvm.FP.Core.Datum := Jvm.FP.Core.decode fB n
theorem b_tails : fB.tails = 4503599627370496 := by decide
theorem b_exps : fB.exps = 2048 := by decide
theorem b_qmin : fB.qmin = -1074 := by decide
theorem b_qmax : fB.qmax = 971 := by decide
theorem b_p : fB.p = 53 := rfl
/-- a number of the format as it is written -/
def fOk (c : Nat) (q : Int) : Prop := c < 9007199254740992 ∧ -1074 ≤ q ∧ q ≤ 971 ∧ (q = -1074 ∨ 4503599627370496 ≤ c)
theorem asm_n (s : Bool) (e t : Nat) : Jvm.FP.Core.assemble fB s e t = (s.toNat * 2048 + e) * 4503599627370496 + t := by
  unfold Jvm.FP.Core.assemble
  rw [b_tails, b_exps]
theorem asm_lt {s : Bool} {e t : Nat} (he : e < 2048) (ht : t < 4503599627370496) : (s.toNat * 2048 + e) * 4503599627370496 + t < 18446744073709551616 := by
  cases s
  · show (0 * 2048 + e) * 4503599627370496 + t < _; omega
  · show (1 * 2048 + e) * 4503599627370496 + t < _; omega
theorem asm_T {s : Bool} {e t : Nat} (ht : t < 4503599627370496) : Jvm.FP.Core.fieldT fB ((s.toNat * 2048 + e) * 4503599627370496 + t) = t := by
  unfold Jvm.FP.Core.fieldT
  rw [b_tails]; omega
theorem asm_E {s : Bool} {e t : Nat} (he : e < 2048) (ht : t < 4503599627370496) : Jvm.FP.Core.fieldE fB ((s.toNat * 2048 + e) * 4503599627370496 + t) = e := by
  unfold Jvm.FP.Core.fieldE
  rw [b_tails, b_exps]; omega
theorem asm_S {s : Bool} {e t : Nat} (he : e < 2048) (ht : t < 4503599627370496) : Jvm.FP.Core.fieldS fB ((s.toNat * 2048 + e) * 4503599627370496 + t) = s := by
  unfold Jvm.FP.Core.fieldS
  rw [b_tails, b_exps]
  cases s
  · rw [show ((false.toNat * 2048 + e) * 4503599627370496 + t) / 4503599627370496 / 2048 % 2 = 0 by show ((0 * 2048 + e) * 4503599627370496 + t) / 4503599627370496 / 2048 % 2 = 0; omega]; rfl
  · rw [show ((true.toNat * 2048 + e) * 4503599627370496 + t) / 4503599627370496 / 2048 % 2 = 1 by show ((1 * 2048 + e) * 4503599627370496 + t) / 4503599627370496 / 2048 % 2 = 1; omega]; rfl
theorem enc_dec {s : Bool} {c : Nat} {q : Int} (h : fOk c q) : fDec (UInt64.ofNat (Jvm.FP.Core.encode fB (.fin s c q))).toNat = .fin s c q := by
  obtain ⟨h1, h2, h3, h4⟩ := h
  have key : ∃ e t, e < 2047 ∧ t < 4503599627370496 ∧ Jvm.FP.Core.encode fB (.fin s c q) = Jvm.FP.Core.assemble fB s e t ∧ ((e = 0 ∧ t = c ∧ q = -1074) ∨ (0 < e ∧ c = 4503599627370496 + t ∧ q = -1074 + ((e : Int) - 1))) := by
    unfold Jvm.FP.Core.encode
    dsimp only
    rw [b_tails, b_qmin]
    by_cases z : c < 4503599627370496
    · rw [if_pos z]
      exact ⟨0, c, by decide, z, rfl, Or.inl ⟨rfl, rfl, by omega⟩⟩
    · rw [if_neg z]
      exact ⟨(q - -1074).toNat + 1, c - 4503599627370496, by omega, by omega, rfl, Or.inr ⟨by omega, by omega, by omega⟩⟩
  obtain ⟨e, t, e1, t1, k1, k2⟩ := key
  rw [k1, asm_n, UInt64.toNat_ofNat_of_lt' (asm_lt (by omega) t1)]
  show Jvm.FP.Core.decode fB _ = _
  unfold Jvm.FP.Core.decode
  rw [asm_E (by omega) t1, asm_T t1, asm_S (by omega) t1, b_exps, b_tails, b_qmin, if_neg (by omega)]
  rcases k2 with ⟨rfl, rfl, rfl⟩ | ⟨e0, rfl, rfl⟩
  · rw [if_pos rfl]
  · rw [if_neg (by omega)]
/-- the leading digit's place -/
theorem lead_spec {A B : Nat} (hA : 0 < A) (hB : 0 < B) : B * 2 ^ (Jvm.FP.Core.leading A B).toNat ≤ A * 2 ^ (-Jvm.FP.Core.leading A B).toNat ∧ A * 2 ^ (-Jvm.FP.Core.leading A B - 1).toNat < B * 2 ^ (Jvm.FP.Core.leading A B + 1).toNat := by
  have a1 : 2 ^ A.log2 ≤ A := Nat.log2_self_le (by omega)
  have a2 : A < 2 ^ (A.log2 + 1) := Nat.lt_log2_self
  have b1 : 2 ^ B.log2 ≤ B := Nat.log2_self_le (by omega)
  have b2 : B < 2 ^ (B.log2 + 1) := Nat.lt_log2_self
  unfold Jvm.FP.Core.leading
  dsimp only
  generalize A.log2 = x at a1 a2 ⊢
  generalize B.log2 = y at b1 b2 ⊢
  -- powers
  have P := fun n => Nat.two_pow_pos n
  by_cases c : B * 2 ^ ((x : Int) - y).toNat ≤ A * 2 ^ (-((x : Int) - y)).toNat
  · rw [if_pos c]
    refine ⟨c, ?_⟩
    calc A * 2 ^ (-((x : Int) - y) - 1).toNat < 2 ^ (x + 1) * 2 ^ (-((x : Int) - y) - 1).toNat := Nat.mul_lt_mul_of_pos_right a2 (P _)
      _ = 2 ^ y * 2 ^ ((x : Int) - y + 1).toNat := by rw [← Nat.pow_add, ← Nat.pow_add]; congr 1; omega
      _ ≤ B * 2 ^ ((x : Int) - y + 1).toNat := Nat.mul_le_mul_right _ b1
  · rw [if_neg c]
    have c := Nat.lt_of_not_le c
    constructor
    · calc B * 2 ^ ((x : Int) - y - 1).toNat ≤ 2 ^ (y + 1) * 2 ^ ((x : Int) - y - 1).toNat := Nat.mul_le_mul_right _ (Nat.le_of_lt b2)
        _ = 2 ^ x * 2 ^ (-((x : Int) - y - 1)).toNat := by rw [← Nat.pow_add, ← Nat.pow_add]; congr 1; omega
        _ ≤ A * 2 ^ (-((x : Int) - y - 1)).toNat := Nat.mul_le_mul_right _ a1
    · rw [show -((x : Int) - y - 1) - 1 = -((x : Int) - y) by omega, show (x : Int) - y - 1 + 1 = (x : Int) - y by omega]
      exact c
theorem near_b (A B : Nat) (hB : 0 < B) : 2 * A ≤ (2 * Jvm.FP.Core.nearest A B + 1) * B ∧ 2 * Jvm.FP.Core.nearest A B * B ≤ 2 * A + B := by
  have hA : B * (A / B) + A % B = A := Nat.div_add_mod A B
  have hlt := Nat.mod_lt A hB
  unfold Jvm.FP.Core.nearest
  generalize A / B = k at hA ⊢
  generalize A % B = r at hA hlt ⊢
  have e0 : ∀ m, m * B = B * m := fun m => Nat.mul_comm m B
  have e1 : (2 * k + 1) * B = 2 * (B * k) + B := by rw [Nat.add_mul, Nat.one_mul, Nat.mul_assoc, e0]
  have e2 : 2 * k * B = 2 * (B * k) := by rw [Nat.mul_assoc, e0]
  have e3 : (2 * (k + 1) + 1) * B = 2 * (B * k) + 3 * B := by rw [show 2 * (k + 1) + 1 = 2 * k + 3 by omega, Nat.add_mul, e2]
  have e4 : 2 * (k + 1) * B = 2 * (B * k) + 2 * B := by rw [show 2 * (k + 1) = 2 * k + 2 by omega, Nat.add_mul, e2]
  split
  · rw [e1, e2]; generalize B * k = w at hA ⊢; omega
  · split
    · rw [e3, e4]; generalize B * k = w at hA ⊢; omega
    · have : k % 2 = 0 ∨ k % 2 = 1 := by omega
      rcases this with hk | hk
      · rw [hk, show k + 0 = k from rfl, e1, e2]; generalize B * k = w at hA ⊢; omega
      · rw [hk, e3, e4]; generalize B * k = w at hA ⊢; omega
theorem near_ge {A B M : Nat} (hB : 0 < B) (h : M * B ≤ A) : M ≤ Jvm.FP.Core.nearest A B := by
  have h1 : M ≤ A / B := (Nat.le_div_iff_mul_le hB).mpr h
  unfold Jvm.FP.Core.nearest
  split
  · exact h1
  · split <;> omega
theorem near_le {A B M : Nat} (hB : 0 < B) (h : A ≤ M * B) : Jvm.FP.Core.nearest A B ≤ M := by
  have h1 : A / B ≤ M := by
    have := Nat.div_le_div_right (c := B) h
    rw [Nat.mul_div_cancel _ hB] at this
    exact this
  rcases Nat.lt_or_ge (A / B) M with z | z
  · unfold Jvm.FP.Core.nearest
    split
    · exact h1
    · split <;> omega
  · have e : A / B = M := by omega
    have hd : B * (A / B) + A % B = A := Nat.div_add_mod A B
    rw [e, Nat.mul_comm] at hd
    have r0 : A % B = 0 := by omega
    unfold Jvm.FP.Core.nearest
    rw [r0, e, if_pos (by omega)]
    exact Nat.le_refl _
theorem near_1 (A : Nat) : Jvm.FP.Core.nearest A 1 = A := Nat.le_antisymm (near_le (by decide) (by omega)) (near_ge (by decide) (by omega))
/-- a magnitude rounded: the digits c0 at the place q, within half of a unit; written as the format asks -/
theorem round_of {s : Bool} {A B : Nat} {e : Int} (hA : 0 < A) (hB : 0 < B) (h9 : Jvm.FP.Core.leading A B + e ≤ 900) :
    ∃ q c0 c q', q = max (-1074) (Jvm.FP.Core.leading A B + e - 52) ∧ c0 = Jvm.FP.Core.nearest (A * 2 ^ (e - q).toNat) (B * 2 ^ (q - e).toNat) ∧ c0 ≤ 9007199254740992 ∧
      Jvm.FP.Core.roundRatio fB s A B e = .fin s c q' ∧ fOk c q' ∧ c * 2 ^ (q' + 1074).toNat = c0 * 2 ^ (q + 1074).toNat ∧ (c0 < 9007199254740992 → c = c0 ∧ q' = q) := by
  obtain ⟨l1, l2⟩ := lead_spec hA hB
  generalize hk : Jvm.FP.Core.leading A B = k at l1 l2 h9
  have P := fun n => Nat.two_pow_pos n
  obtain ⟨q, hq⟩ : ∃ q, q = max (-1074) (k + e - 52) := ⟨_, rfl⟩
  obtain ⟨c0, h0⟩ : ∃ c0, c0 = Jvm.FP.Core.nearest (A * 2 ^ (e - q).toNat) (B * 2 ^ (q - e).toNat) := ⟨_, rfl⟩
  have hD : 0 < B * 2 ^ (q - e).toNat := Nat.mul_pos hB (P _)
  have up : c0 ≤ 9007199254740992 := by
    rw [h0]
    refine near_le hD ?_
    -- A < B * 2^(k+1), and q ≥ k + e - 52
    have h2 : A * 2 ^ (-k - 1).toNat * 2 ^ (e - q).toNat ≤ B * 2 ^ (k + 1).toNat * 2 ^ (e - q).toNat := Nat.mul_le_mul_right _ (Nat.le_of_lt l2)
    have h3 : 2 ^ (k + 1).toNat * 2 ^ (e - q).toNat ≤ 2 ^ (53 + (q - e).toNat + (-k - 1).toNat) := by
      rw [← Nat.pow_add]
      exact Nat.pow_le_pow_right (by decide) (by omega)
    have h4 : A * 2 ^ (e - q).toNat * 2 ^ (-k - 1).toNat ≤ 9007199254740992 * (B * 2 ^ (q - e).toNat) * 2 ^ (-k - 1).toNat := by
      calc A * 2 ^ (e - q).toNat * 2 ^ (-k - 1).toNat = A * 2 ^ (-k - 1).toNat * 2 ^ (e - q).toNat := by ac_rfl
        _ ≤ B * 2 ^ (k + 1).toNat * 2 ^ (e - q).toNat := h2
        _ = B * (2 ^ (k + 1).toNat * 2 ^ (e - q).toNat) := by ac_rfl
        _ ≤ B * 2 ^ (53 + (q - e).toNat + (-k - 1).toNat) := Nat.mul_le_mul_left _ h3
        _ = 9007199254740992 * (B * 2 ^ (q - e).toNat) * 2 ^ (-k - 1).toNat := by
          rw [Nat.pow_add, Nat.pow_add, show (2 : Nat) ^ 53 = 9007199254740992 by decide]; ac_rfl
    exact Nat.le_of_mul_le_mul_right h4 (P _)
  have lo : q = -1074 ∨ 4503599627370496 ≤ c0 := by
    by_cases z : q = -1074
    · exact Or.inl z
    · refine Or.inr ?_
      have qe : q = k + e - 52 := by omega
      rw [h0]
      refine near_ge hD ?_
      have h4 : 4503599627370496 * (B * 2 ^ (q - e).toNat) * 2 ^ (-k).toNat ≤ A * 2 ^ (e - q).toNat * 2 ^ (-k).toNat := by
        calc 4503599627370496 * (B * 2 ^ (q - e).toNat) * 2 ^ (-k).toNat = B * 2 ^ (52 + (q - e).toNat + (-k).toNat) := by
              rw [Nat.pow_add, Nat.pow_add, show (2 : Nat) ^ 52 = 4503599627370496 by decide]; ac_rfl
          _ = B * (2 ^ k.toNat * 2 ^ (e - q).toNat) := by rw [← Nat.pow_add]; congr 2; omega
          _ = B * 2 ^ k.toNat * 2 ^ (e - q).toNat := by ac_rfl
          _ ≤ A * 2 ^ (-k).toNat * 2 ^ (e - q).toNat := Nat.mul_le_mul_right _ l1
          _ = A * 2 ^ (e - q).toNat * 2 ^ (-k).toNat := by ac_rfl
      exact Nat.le_of_mul_le_mul_right h4 (P _)
  have rr : Jvm.FP.Core.roundRatio fB s A B e = if c0 < 9007199254740992 then .fin s c0 q else .fin s 4503599627370496 (q + 1) := by
    unfold Jvm.FP.Core.roundRatio Jvm.FP.Core.roundAt Jvm.FP.Core.settle Jvm.FP.Core.unitsNum Jvm.FP.Core.unitsDen Jvm.FP.Core.bound Jvm.FP.Core.quantum
    rw [if_neg (by omega), hk, b_qmin, b_p, show k + e - (((53 : Nat) : Int) - 1) = k + e - 52 by omega, ← hq, ← h0, b_tails, b_qmax, show (2 : Nat) ^ 53 = 9007199254740992 by decide, if_pos (show q ≤ 971 by omega), if_pos (show q + 1 ≤ 971 by omega)]
  by_cases z : c0 < 9007199254740992
  · rw [if_pos z] at rr
    exact ⟨q, c0, c0, q, by rw [hq], h0, up, rr, ⟨z, by omega, by omega, lo⟩, rfl, fun _ => ⟨rfl, rfl⟩⟩
  · rw [if_neg z] at rr
    have e53 : c0 = 9007199254740992 := by omega
    refine ⟨q, c0, 4503599627370496, q + 1, by rw [hq], h0, up, rr, ⟨by decide, by omega, by omega, Or.inr (Nat.le_refl _)⟩, ?_, fun y => absurd y z⟩
    rw [e53, show (q + 1 + 1074).toNat = (q + 1074).toNat + 1 by omega, Nat.pow_succ]
    generalize 2 ^ (q + 1074).toNat = w
    omega
