/-! likely, mean. -/
theorem mod_half {x y : Nat} (h : 0 < x % y) (hy : x % y < y) : 2 * (y % (x % y)) < y := by
  have a := Nat.div_add_mod y (x % y)
  have b := Nat.mod_lt y h
  have c : 1 ≤ y / (x % y) := (Nat.one_le_div_iff h).mpr (Nat.le_of_lt hy)
  have d : x % y ≤ (x % y) * (y / (x % y)) := Nat.le_mul_of_pos_right _ c
  omega
theorem gcd_st (x y : Nat) : Nat.gcd x y = Nat.gcd y (x % y) := by
  rw [Nat.gcd_comm x y, Nat.gcd_rec y x, Nat.gcd_comm]
theorem l00 : lg_cmp (lN 0) 0 = 0 := (lg_cmp_eq _ _).mpr rfl
section EUCLID
variable {S : St}
theorem C_div0 : ∀ n x y i, x < 2 ^ 62 → y < 2 ^ n → n ≤ 62 → i + (2 * n + 1) ≤ 200 → ∀ fu, 2 * n + 1 ≤ fu → lp fu (l_X11_commonDivisor_9 S) (lN x, lN y, nI i) = some (lN (Nat.gcd x y)) := by
  intro n
  induction n with
  | zero =>
    intro x y i hx hy _ hi fu hfu
    have : y = 0 := by omega
    subst this
    obtain ⟨fu, rfl⟩ : ∃ k, fu = k + 1 := ⟨fu - 1, by omega⟩
    have e200 : ¬ (200 : Int32) ≤ nI i := nI_ge (b := 200) (by omega) (by decide)
    simp only [lp, l_X11_commonDivisor_9, b_X11_commonDivisor_9]
    rw [if_neg e200, if_pos l00, Option.bind_some, Nat.gcd_zero_right]
  | succ n ih =>
    intro x y i hx hy hn hi fu hfu
    have p62 : 2 ^ (n + 1) ≤ 2 ^ 62 := Nat.pow_le_pow_right (by decide) hn
    have e62 : (2 : Nat) ^ 62 = 4611686018427387904 := by decide
    have e63 : (2 : Nat) ^ 63 = 9223372036854775808 := by decide
    obtain ⟨fu, rfl⟩ : ∃ k, fu = k + 1 := ⟨fu - 1, by omega⟩
    have e200 : ¬ (200 : Int32) ≤ nI i := nI_ge (b := 200) (by omega) (by decide)
    have e201 : ¬ (200 : Int32) ≤ nI (i + 1) := nI_ge (b := 200) (by omega) (by decide)
    simp only [lp, l_X11_commonDivisor_9, b_X11_commonDivisor_9]
    rw [if_neg e200]
    rcases Nat.eq_zero_or_pos y with z | z
    · subst z
      rw [if_pos l00, Option.bind_some, Nat.gcd_zero_right]
    · have ny : ¬ lN y = 0 := fun q => by
        have := (pk_lEQ (a := y) (b := 0) (by omega) (by decide)).mp q
        omega
      have g1 : (!(lN y == 0)) = true := by simp [ny]
      rw [if_neg (fun q => ny ((lg_cmp_eq _ _).mp q)), gd_t g1, Option.bind_some, pk_lRem (by omega) z (by omega), nI_1]
      have hm := Nat.mod_lt x z
      obtain ⟨fu, rfl⟩ : ∃ k, fu = k + 1 := ⟨fu - 1, by omega⟩
      simp only [lp, l_X11_commonDivisor_9, b_X11_commonDivisor_9]
      rw [if_neg e201, gcd_st x y]
      rcases Nat.eq_zero_or_pos (x % y) with q | q
      · rw [q, if_pos l00, Option.bind_some, Nat.gcd_zero_right]
      · have nx : ¬ lN (x % y) = 0 := fun w => by
          have := (pk_lEQ (a := x % y) (b := 0) (by omega) (by decide)).mp w
          omega
        have g2 : (!(lN (x % y) == 0)) = true := by simp [nx]
        rw [if_neg (fun w => nx ((lg_cmp_eq _ _).mp w)), gd_t g2, Option.bind_some, pk_lRem (by omega) q (by omega), gcd_st y, nI_1]
        have mh := mod_half q hm
        have p2 : 2 ^ (n + 1) = 2 * 2 ^ n := by rw [Nat.pow_succ]; omega
        exact ih (x % y) (y % (x % y)) (i + 1 + 1) (by omega) (by omega) (by omega) (by omega) fu (by omega)
theorem C_divisor {x y : Nat} (hx : x < 2 ^ 62) (hy : y < 2 ^ 62) : L_X11_commonDivisor (lN x) (lN y) S = some (lN (Nat.gcd x y)) := C_div0 62 x y 0 hx hy (Nat.le_refl _) (by omega) 1000 (by omega)
end EUCLID
/-- what is told of a fraction -/
def frac (a b : Nat) (p : Int32) : Int64 := if p = 0 then lN (a / Nat.gcd b a) else lN (b / Nat.gcd b a)
/-- how likely just some facts are there, in tenths of tenths -/
def odN (T : TT) (b : Nat → Bool) : Nat → Nat
  | 0 => 1
  | k + 1 => odN T b k * (if b k then (tF T 8 k).toNatClampNeg else 10 - (tF T 8 k).toNatClampNeg)
def smN (T : TT) (cf : (Nat → Bool) → Nat) : Nat → Nat
  | 0 => 0
  | x + 1 => smN T cf x + odN T (bt (nI x)) (tm T) * cf (bt (nI x))
theorem odN_le {T : TT} (hW : WT T) (b : Nat → Bool) : ∀ k, k ≤ tm T → odN T b k ≤ 10 ^ k := by
  intro k
  induction k with
  | zero => intro _; exact Nat.le_refl _
  | succ k ih =>
    intro hk
    obtain ⟨c, c1, c2⟩ := (hW.2.2.2.2.1 k (by omega)).2.2.2
    show odN T b k * _ ≤ 10 ^ k * 10
    refine Nat.mul_le_mul (ih (by omega)) ?_
    rw [c2, tn_n (by omega)]
    split <;> omega
theorem odN_6 {T : TT} (hW : WT T) (b : Nat → Bool) : odN T b (tm T) ≤ 1000000 := by
  have h1 := odN_le hW b (tm T) (Nat.le_refl _)
  have h2 : 10 ^ tm T ≤ 10 ^ 6 := Nat.pow_le_pow_right (by decide) hW.2.1
  omega
theorem smN_le {T : TT} (hW : WT T) {cf : (Nat → Bool) → Nat} (h8 : ∀ b, cf b ≤ 8) : ∀ x, smN T cf x ≤ x * 8000000 := by
  intro x
  induction x with
  | zero => exact Nat.zero_le _
  | succ x ih =>
    show smN T cf x + _ ≤ _
    have := Nat.mul_le_mul (odN_6 hW (bt (nI x))) (h8 (bt (nI x)))
    omega
theorem i10_sub {c : Nat} (h : c ≤ 10) : (10 : Int32) - nI c = nI (10 - c) := pk_sub (a := 10) (b := c) h
section LIKELY
variable {S S0 X : St} {T : TT} {m : Option TT × (Nat → Sh)}
theorem C_odds (cR : repC X 1 T) (hW : WT T) {x : Nat} (hx : x < 2 ^ 31) : L_X11_oddsOf (nI x) X = some (lN (odN T (bt (nI x)) (tm T))) := by
  have m6 := hW.2.1
  unfold L_X11_oddsOf b_X11_oddsOf_0
  refine lp_br _ (fun k => (nI x, lN (odN T (bt (nI x)) k), nI k)) (tm T) _ (fun k hk => ?_) ?_ 1000 (by omega)
  · have e1 : ¬ nI (tm T) ≤ nI k := nI_ge hk (by omega)
    obtain ⟨c, c1, c2⟩ := (hW.2.2.2.2.1 k hk).2.2.2
    have e10 : gi X (1 + 10) k = nI c := by rw [(cR.2.2.2.2.1 k hk).2.2.2]; exact c2
    simp only [l_X11_oddsOf_5, b_X11_oddsOf_5, b_X11_oddsOf_51, cR.2.1, if_neg e1, gd_t (inb_n (show k < 6 by omega)), tn_n (show k < 2 ^ 31 by omega), bit_of (nI x) (show k < 32 by omega), e10, odN, c2, tn_n (show c < 2 ^ 31 by omega), i10_sub c1, nI_l (show c < 2 ^ 31 by omega), nI_l (show 10 - c < 2 ^ 31 by omega), lN_mul, nI_1]
    by_cases e : bt (nI x) k = true <;> simp [e]
  · simp only [l_X11_oddsOf_5, b_X11_oddsOf_5, cR.2.1, if_pos (Int32.le_refl _)]
theorem cnt_8 (f : Nat → Bool) {n : Nat} (hn : n ≤ 8) : ncn f n ≤ 8 := Nat.le_trans (ncn_le f n) hn
/-- of a set: how many choose yes -/
def yesN (T : TT) (s : Int32) (b : Nat → Bool) : Nat := ncn (fun p => decide (sDay T b false 1 p = 1) && bt s p) (tn T)
theorem bts_and (f : Nat → Bool) {s : Int32} {n : Nat} (hn : n ≤ 8) : bts f n &&& s = bts (fun p => f p && bt s p) n := by
  apply bt_ext
  intro i hi
  rw [bt_and, bt_bts f n (by omega) i hi, bt_bts _ n (by omega) i hi, Bool.and_assoc]
theorem pow_m {n : Nat} (h : n ≤ 6) : (1 : Int32) <<< (nI n &&& 31) = nI (2 ^ n) := by
  have a : ∀ k : Fin 7, (1 : Int32) <<< (nI k.val &&& 31) = nI (2 ^ k.val) := by decide
  exact a ⟨n, by omega⟩
theorem pow_64 {n : Nat} (h : n ≤ 6) : 2 ^ n ≤ 64 := by
  have := Nat.pow_le_pow_right (show 0 < 2 by decide) h
  omega
theorem ten_6 {n : Nat} (h : n ≤ 6) : 10 ^ n ≤ 1000000 ∧ 0 < 10 ^ n := ⟨by
  have := Nat.pow_le_pow_right (show 0 < 10 by decide) h
  omega, Nat.pow_pos (by decide)⟩
theorem gcd_pos {a b : Nat} (h : 0 < b) : 0 < Nat.gcd b a := Nat.gcd_pos_of_pos_left a h
theorem C_part {a b : Nat} {p : Int32} (ha : a < 2 ^ 62) (hb : b < 2 ^ 62) (b0 : 0 < b) : b_X11_expectedYes_104 p (lN a) (lN b) X = some (frac a b p, X) := by
  have e62 : (2 : Nat) ^ 62 = 4611686018427387904 := by decide
  have e63 : (2 : Nat) ^ 63 = 9223372036854775808 := by decide
  have g0 := gcd_pos (a := a) b0
  have g1 : Nat.gcd b a ≤ b := Nat.gcd_le_left a b0
  have gl : (0 : Int32) < lg_cmp (lN (Nat.gcd b a)) 0 := (lg_cmp_gt _ _).mpr ((pk_lLT (a := 0) (by decide) (by omega)).mpr g0)
  have ng : ¬ lN (Nat.gcd b a) = 0 := fun q => by
    have := (pk_lEQ (a := Nat.gcd b a) (b := 0) (by omega) (by decide)).mp q
    omega
  have gb : (!(lN (Nat.gcd b a) == 0)) = true := by simp [ng]
  unfold b_X11_expectedYes_104 frac
  rw [C_divisor hb ha, Option.bind_some, if_pos gl]
  by_cases z : p = 0
  · rw [if_pos z, if_pos z, gd_t gb, pk_lDiv (by omega) g0 (by omega)]
  · rw [if_neg z, if_neg z, gd_t gb, pk_lDiv (by omega) g0 (by omega)]
theorem C_expected (hW : WT T) (cR : repC X 1 T) (u : UpD S X) (s p : Int32) : ∃ Y, L_X11_expectedYes s p X = some (frac (smN T (yesN T s) (2 ^ tm T)) (10 ^ tm T) p, Y) ∧ UpD S Y := by
  have m6 := hW.2.1
  have n8 := hW.1
  have e62 : (2 : Nat) ^ 62 = 4611686018427387904 := by decide
  have p64 := pow_64 m6
  have t6 := ten_6 m6
  have y8 : ∀ b, yesN T s b ≤ 8 := fun b => cnt_8 _ n8
  have main : ∃ Y, lp 1000 l_X11_expectedYes_37 (s, p, 0, lN (10 ^ tm T), 0, X) = some (frac (smN T (yesN T s) (2 ^ tm T)) (10 ^ tm T) p, Y) ∧ UpD S Y := by
    have key := lp_inv (body := l_X11_expectedYes_37) (m := 2 ^ tm T) (I := fun k x => x.1 = s ∧ x.2.1 = p ∧ x.2.2.1 = lN (smN T (yesN T s) k) ∧ x.2.2.2.1 = lN (10 ^ tm T) ∧ x.2.2.2.2.1 = nI k ∧ UpD S x.2.2.2.2.2 ∧ repC x.2.2.2.2.2 1 T) (Q := fun y => y.1 = frac (smN T (yesN T s) (2 ^ tm T)) (10 ^ tm T) p ∧ UpD S y.2) (fun k x hk hI => ?_) 1000 0 (s, p, 0, lN (10 ^ tm T), 0, X) (Nat.zero_le _) (by omega) ⟨rfl, rfl, rfl, rfl, rfl, u, cR⟩
    · obtain ⟨⟨y1, y2⟩, e, e1, e2⟩ := key
      simp only at e1 e2
      subst e1
      exact ⟨y2, e, e2⟩
    · obtain ⟨a1, a2, a3, a4, a5, Z⟩ := x
      obtain ⟨e1, e2, e3, e4, e5, e6, e7⟩ := hI
      simp only at e1 e2 e3 e4 e5 e6 e7
      subst e1 e2 e3 e4 e5
      unfold l_X11_expectedYes_37 b_X11_expectedYes_37
      dsimp only
      rw [e7.2.1, pow_m m6]
      rcases Nat.lt_or_ge k (2 ^ tm T) with hl | hl
      · refine Or.inr ⟨hl, ?_⟩
        rw [if_neg (nI_ge hl (by omega)), C_odds e7 hW (by omega), Option.bind_some]
        unfold b_X11_expectedYes_98
        have o6 := odN_6 hW (bt (nI k))
        rcases Nat.eq_zero_or_pos (odN T (bt (nI k)) (tm T)) with z | z
        · rw [z, if_pos ((lg_cmp_le _ _).mpr (by decide))]
          exact ⟨_, rfl, rfl, rfl, by simp only [smN, z, Nat.zero_mul, Nat.add_zero], rfl, nI_1 k, e6, e7⟩
        · rw [if_neg (fun q => by
            have := (lg_cmp_le _ _).mp q
            have := (pk_lLE (b := 0) (by omega) (by decide)).mp this
            omega)]
          obtain ⟨Y, y1, y2, y3, -⟩ := C_go (v := nI k) (b := bt (nI k)) (Or.inl rfl) hW e7 (fun j hj => bit_of (nI k) (by omega))
          rw [y1, Option.bind_some, C_yes y3, Option.bind_some, bts_and _ n8, A_bc _ n8, Option.bind_some, cnt_n, nI_l (by have := cnt_8 (fun p => decide (sDay T (bt (nI k)) false 1 p = 1) && bt a1 p) n8; omega), lN_mul, lN_add]
          exact ⟨_, rfl, rfl, rfl, rfl, rfl, nI_1 k, UpD_tr e6 y2, repC_D (Or.inl rfl) y2 e7⟩
      · have : k = 2 ^ tm T := by omega
        subst this
        have sl := smN_le hW y8 (2 ^ tm T)
        rw [if_pos (Int32.le_refl _), C_part (by omega) (by omega) t6.2]
        exact Or.inl ⟨_, rfl, rfl, e6⟩
  obtain ⟨Y, y1, y2⟩ := main
  refine ⟨Y, ?_, y2⟩
  unfold L_X11_expectedYes b_X11_expectedYes_0
  refine lp_br _ (fun k => (s, p, 0, lN (10 ^ k), nI k, X)) (tm T) _ (fun k hk => ?_) ?_ 1000 (by omega)
  · have e1 : ¬ nI (tm T) ≤ nI k := nI_ge hk (by omega)
    simp only [l_X11_expectedYes_8, b_X11_expectedYes_8, cR.2.1, if_neg e1, nI_1]
    rw [show (10 : Int64) = lN 10 from rfl, lN_mul, Nat.pow_succ]
  · simp only [l_X11_expectedYes_8, b_X11_expectedYes_8, b_X11_expectedYes_34, cR.2.1, if_pos (Int32.le_refl _)]
    rw [y1]
    rfl
theorem ncn_one (f : Nat → Bool) {j : Nat} : ∀ n, ncn (fun p => f p && decide (p = j)) n = if j < n ∧ f j = true then 1 else 0 := by
  intro n
  induction n with
  | zero => rfl
  | succ n ih =>
    show ncn (fun p => f p && decide (p = j)) n + (if (f n && decide (n = j)) then 1 else 0) = _
    rw [ih]
    by_cases e : n = j
    · subst e
      have : ¬ n < n := by omega
      cases hf : f n <;> simp [hf]
    · have : (j < n + 1) ↔ j < n := by omega
      simp [e, this]
theorem ncn_congr {f g : Nat → Bool} : ∀ {n : Nat}, (∀ k, k < n → f k = g k) → ncn f n = ncn g n := by
  intro n
  induction n with
  | zero => intro _; rfl
  | succ n ih =>
    intro h
    simp only [ncn, ih (fun k hk => h k (by omega)), h n (by omega)]
theorem yes_1 {n8 : tn T ≤ 8} {j : Nat} (hj : j < tn T) (b : Nat → Bool) : yesN T ((1 : Int32) <<< (nI j &&& 31)) b = if sDay T b false 1 j = 1 then 1 else 0 := by
  unfold yesN
  have e : ncn (fun p => decide (sDay T b false 1 p = 1) && bt ((1 : Int32) <<< (nI j &&& 31)) p) (tn T) = ncn (fun p => (fun q => decide (sDay T b false 1 q = 1)) p && decide (p = j)) (tn T) := ncn_congr (fun p hp => by rw [bt_1shl (by omega) p (by omega)])
  rw [e, ncn_one]
  simp [hj]
theorem yes_all {n8 : tn T ≤ 8} (b : Nat → Bool) : yesN T (((1 : Int32) <<< (nI (tn T) &&& 31)) - 1) b = ncn (fun i => decide (sDay T b false 1 i = 1)) (tn T) := by
  unfold yesN
  refine ncn_congr (fun p hp => ?_)
  have a : ∀ (n : Fin 9) (p : Fin 8), p.val < n.val → bt (((1 : Int32) <<< (nI n.val &&& 31)) - 1) p.val = true := by decide +kernel
  rw [a ⟨tn T, by omega⟩ ⟨p, by omega⟩ hp, Bool.and_true]
end LIKELY
