/-! LIKELY, in whole numbers: all the odds are one, and the likely ones' sum is the mean. -/
def nsm (f : Nat → Nat) : Nat → Nat
  | 0 => 0
  | k + 1 => nsm f k + f k
theorem nsm_c {f g : Nat → Nat} : ∀ {n : Nat}, (∀ k, k < n → f k = g k) → nsm f n = nsm g n := by
  intro n
  induction n with
  | zero => intro _; rfl
  | succ n ih =>
    intro h
    show nsm f n + f n = nsm g n + g n
    rw [ih (fun k hk => h k (by omega)), h n (by omega)]
theorem nsm_add (f g : Nat → Nat) : ∀ n, nsm (fun k => f k + g k) n = nsm f n + nsm g n := by
  intro n
  induction n with
  | zero => rfl
  | succ n ih =>
    show nsm (fun k => f k + g k) n + (f n + g n) = (nsm f n + f n) + (nsm g n + g n)
    omega
theorem nsm_mul (f : Nat → Nat) (c : Nat) : ∀ n, nsm (fun k => f k * c) n = nsm f n * c := by
  intro n
  induction n with
  | zero => exact (Nat.zero_mul c).symm
  | succ n ih => show nsm (fun k => f k * c) n + f n * c = (nsm f n + f n) * c; rw [ih, Nat.add_mul]
theorem nsm_mul' (f : Nat → Nat) (c : Nat) : ∀ n, nsm (fun k => c * f k) n = c * nsm f n := by
  intro n
  induction n with
  | zero => rfl
  | succ n ih => show nsm (fun k => c * f k) n + c * f n = c * (nsm f n + f n); rw [ih, Nat.mul_add]
theorem nsm_two (f : Nat → Nat) (m : Nat) : ∀ n, nsm f (m + n) = nsm f m + nsm (fun k => f (m + k)) n := by
  intro n
  induction n with
  | zero => rfl
  | succ n ih => show nsm f (m + n) + f (m + n) = nsm f m + (nsm (fun k => f (m + k)) n + f (m + n)); rw [ih, Nat.add_assoc]
theorem nsm_0 : ∀ n, nsm (fun _ => 0) n = 0 := by
  intro n
  induction n with
  | zero => rfl
  | succ n ih => show nsm (fun _ => 0) n + 0 = 0; rw [ih]
theorem bt_nI {x j : Nat} (hj : j < 32) : bt (nI x) j = x.testBit j := by
  unfold bt
  show (BitVec.ofNat 32 x).getLsbD j = _
  rw [BitVec.getLsbD_ofNat]
  simp [hj]
section ODDS
variable {T : TT}
theorem od_c {b b' : Nat → Bool} : ∀ {k : Nat}, (∀ j, j < k → b j = b' j) → odN T b k = odN T b' k := by
  intro k
  induction k with
  | zero => intro _; rfl
  | succ k ih =>
    intro h
    show odN T b k * (if b k then _ else _) = odN T b' k * (if b' k then _ else _)
    rw [ih (fun j hj => h j (by omega)), h k (by omega)]
theorem od_all (hW : WT T) : ∀ k, k ≤ tm T → nsm (fun x => odN T (bt (nI x)) k) (2 ^ k) = 10 ^ k := by
  intro k
  have m6 := hW.2.1
  induction k with
  | zero => intro _; rfl
  | succ k ih =>
    intro hk
    obtain ⟨c, c1, c2⟩ := (hW.2.2.2.2.1 k (by omega)).2.2.2
    have hc : (tF T 8 k).toNatClampNeg = c := by rw [c2, tn_n (by omega)]
    have e1 : ∀ x, x < 2 ^ k → odN T (bt (nI x)) (k + 1) = odN T (bt (nI x)) k * (10 - c) := by
      intro x hx
      show odN T (bt (nI x)) k * (if bt (nI x) k = true then (tF T 8 k).toNatClampNeg else 10 - (tF T 8 k).toNatClampNeg) = _
      rw [hc, bt_nI (by omega), Nat.testBit_lt_two_pow hx, if_neg (by decide)]
    have e2 : ∀ x, x < 2 ^ k → odN T (bt (nI (2 ^ k + x))) (k + 1) = odN T (bt (nI x)) k * c := by
      intro x hx
      show odN T (bt (nI (2 ^ k + x))) k * (if bt (nI (2 ^ k + x)) k = true then (tF T 8 k).toNatClampNeg else 10 - (tF T 8 k).toNatClampNeg) = _
      rw [hc, bt_nI (by omega), Nat.testBit_two_pow_add_eq, Nat.testBit_lt_two_pow hx, if_pos (show (!false) = true from rfl), od_c (b' := bt (nI x)) (fun j hj => by rw [bt_nI (by omega), bt_nI (by omega), Nat.testBit_two_pow_add_gt hj])]
    rw [Nat.pow_succ, Nat.mul_two, nsm_two, nsm_c e1, nsm_c e2, nsm_mul, nsm_mul, ih (by omega), ← Nat.mul_add, show 10 - c + c = 10 by omega, Nat.pow_succ]
theorem smN_nsm (cf : (Nat → Bool) → Nat) : ∀ X, smN T cf X = nsm (fun x => odN T (bt (nI x)) (tm T) * cf (bt (nI x))) X := by
  intro X
  induction X with
  | zero => rfl
  | succ X ih => show smN T cf X + _ = nsm _ X + _; rw [ih]
theorem smN_b (hW : WT T) {cf : (Nat → Bool) → Nat} {k : Nat} (h : ∀ b, cf b ≤ k) : smN T cf (2 ^ tm T) ≤ 10 ^ tm T * k := by
  rw [smN_nsm, ← od_all hW (tm T) (Nat.le_refl _), ← nsm_mul]
  generalize 2 ^ tm T = n
  induction n with
  | zero => exact Nat.le_refl _
  | succ n ih => exact Nat.add_le_add ih (Nat.mul_le_mul_left _ (h _))
theorem smN_sum (cf : Nat → (Nat → Bool) → Nat) (X : Nat) : ∀ n, nsm (fun j => smN T (cf j) X) n = smN T (fun b => nsm (fun j => cf j b) n) X := by
  intro n
  induction n with
  | zero =>
    rw [smN_nsm]
    show 0 = nsm (fun x => odN T (bt (nI x)) (tm T) * 0) X
    exact (nsm_0 X).symm
  | succ n ih =>
    show nsm (fun j => smN T (cf j) X) n + smN T (cf n) X = smN T (fun b => nsm (fun j => cf j b) n + cf n b) X
    rw [ih, smN_nsm, smN_nsm, smN_nsm, ← nsm_add]
    exact nsm_c (fun x _ => (Nat.mul_add _ _ _).symm)
/-- how likely j's YES is, in odds of 10 ^ tm T; how many YES are -/
def lkN (T : TT) (j : Nat) : Nat := smN T (yesN T ((1 : Int32) <<< (nI j &&& 31))) (2 ^ tm T)
def mnN (T : TT) : Nat := smN T (yesN T (((1 : Int32) <<< (nI (tn T) &&& 31)) - 1)) (2 ^ tm T)
theorem ncn_nsm (f : Nat → Bool) : ∀ n, ncn f n = nsm (fun j => if f j then 1 else 0) n := by
  intro n
  induction n with
  | zero => rfl
  | succ n ih => show ncn f n + _ = nsm _ n + _; rw [ih]
theorem smN_c {cf cf' : (Nat → Bool) → Nat} (h : ∀ b, cf b = cf' b) (X : Nat) : smN T cf X = smN T cf' X := by
  rw [smN_nsm, smN_nsm]
  exact nsm_c (fun x _ => by rw [h])
theorem lk_sum (hW : WT T) : nsm (lkN T) (tn T) = mnN T := by
  have n8 := hW.1
  have h := smN_sum (T := T) (fun j => yesN T ((1 : Int32) <<< (nI j &&& 31))) (2 ^ tm T) (tn T)
  refine h.trans ?_
  unfold mnN
  refine smN_c (fun b => ?_) _
  rw [yes_all (n8 := n8), ncn_nsm]
  refine nsm_c (fun j hj => ?_)
  rw [yes_1 (n8 := n8) hj]
  by_cases z : sDay T b false 1 j = 1
  · rw [if_pos z, if_pos (decide_eq_true z)]
  · rw [if_neg z, if_neg (fun y => z (of_decide_eq_true y))]
theorem lk_le (hW : WT T) {j : Nat} (hj : j < tn T) : lkN T j ≤ 10 ^ tm T := by
  have n8 := hW.1
  have := smN_b hW (cf := yesN T ((1 : Int32) <<< (nI j &&& 31))) (k := 1) (fun b => by rw [yes_1 (n8 := n8) hj]; split <;> omega)
  rw [Nat.mul_one] at this
  exact this
theorem mn_le (hW : WT T) : mnN T ≤ 8 * 10 ^ tm T := by
  have n8 := hW.1
  have := smN_b hW (cf := yesN T (((1 : Int32) <<< (nI (tn T) &&& 31)) - 1)) (k := 8) (fun b => by rw [yes_all (n8 := n8)]; exact Nat.le_trans (ncn_le _ _) n8)
  rw [Nat.mul_comm] at this
  exact this
theorem nsm_le {f : Nat → Nat} {c : Nat} : ∀ {n : Nat}, (∀ k, k < n → f k ≤ c) → nsm f n ≤ n * c := by
  intro n
  induction n with
  | zero => intro _; exact Nat.zero_le _
  | succ n ih =>
    intro h
    show nsm f n + f n ≤ _
    have := ih (fun k hk => h k (by omega))
    have h2 := h n (by omega)
    rw [Nat.add_mul, Nat.one_mul]
    omega
theorem fr1 {z a b U E : Nat} (g : Nat) (h : z * b ≤ a * U + b * E) : z * (g * b) ≤ g * a * U + g * b * E := by
  calc z * (g * b) = g * (z * b) := by ac_rfl
    _ ≤ g * (a * U + b * E) := Nat.mul_le_mul_left _ h
    _ = g * a * U + g * b * E := by rw [Nat.mul_add]; ac_rfl
theorem fr2 {z a b U E : Nat} (g : Nat) (h : a * U ≤ z * b + b * E) : g * a * U ≤ z * (g * b) + g * b * E := by
  calc g * a * U = g * (a * U) := by ac_rfl
    _ ≤ g * (z * b + b * E) := Nat.mul_le_mul_left _ h
    _ = z * (g * b) + g * b * E := by rw [Nat.mul_add]; ac_rfl
/-- a told fraction, as a double -/
theorem frac_of {A B : Nat} (hA : A < 2147483648) (hB : B < 2147483648) (B0 : 0 < B) (h8 : A ≤ 8 * B) :
    ∃ z : Nat, FV (FP.ddiv (FP.l2d (frac A B 0)) (FP.l2d (frac A B 1))) (z : Int) ∧ z * B ≤ A * fU + B * fE ∧ A * fU ≤ z * B + B * fE ∧ (A ≤ B → z ≤ fU) := by
  have g0 : 0 < Nat.gcd B A := Nat.gcd_pos_of_pos_left A B0
  obtain ⟨a, ha⟩ := Nat.gcd_dvd_right B A
  obtain ⟨b, hb⟩ := Nat.gcd_dvd_left B A
  have e0 : frac A B 0 = lN (A / Nat.gcd B A) := if_pos rfl
  have e1 : frac A B 1 = lN (B / Nat.gcd B A) := if_neg (by decide)
  rw [e0, e1]
  have qa : A / Nat.gcd B A = a := Nat.div_eq_of_eq_mul_right g0 ha
  have qb : B / Nat.gcd B A = b := Nat.div_eq_of_eq_mul_right g0 hb
  rw [qa, qb]
  generalize Nat.gcd B A = g at g0 ha hb
  have b0 : 0 < b := by
    rcases Nat.eq_zero_or_pos b with z | z
    · rw [z] at hb; omega
    · exact z
  have la : a ≤ A := by rw [ha]; exact Nat.le_mul_of_pos_left _ g0
  have lb : b ≤ B := by rw [hb]; exact Nat.le_mul_of_pos_left _ g0
  have le : ∀ j, A ≤ j * B → a ≤ j * b := by
    intro j h
    rw [ha, hb] at h
    refine Nat.le_of_mul_le_mul_left (c := g) ?_ g0
    calc g * a ≤ j * (g * b) := h
      _ = g * (j * b) := by ac_rfl
  obtain ⟨z, z1, z2, z3, z4⟩ := ddiv_of (a := a) (b := b) (by omega) (by omega) b0 (le 8 h8)
  refine ⟨z, z1, ?_, ?_, fun h => z4 (by have := le 1 (by omega); omega)⟩
  · rw [ha, hb]; exact fr1 g z2
  · rw [ha, hb]; exact fr2 g z3
end ODDS
