/-! fate, market, chain, longest. -/
def ncn (f : Nat → Bool) : Nat → Nat
  | 0 => 0
  | k + 1 => ncn f k + (if f k then 1 else 0)
theorem ncn_le (f : Nat → Bool) : ∀ n, ncn f n ≤ n := by
  intro n
  induction n with
  | zero => exact Nat.le_refl _
  | succ n ih =>
    show ncn f n + (if f n then 1 else 0) ≤ n + 1
    split <;> omega
theorem ncn_mono {f g : Nat → Bool} (h : ∀ k, f k = true → g k = true) : ∀ n, ncn f n ≤ ncn g n := by
  intro n
  induction n with
  | zero => exact Nat.le_refl _
  | succ n ih =>
    show ncn f n + (if f n then 1 else 0) ≤ ncn g n + (if g n then 1 else 0)
    by_cases e : f n = true
    · rw [if_pos e, if_pos (h n e)]; omega
    · rw [if_neg e]; split <;> omega
theorem ncn_lt {f g : Nat → Bool} (h : ∀ k, f k = true → g k = true) {u : Nat} (h1 : f u = false) (h2 : g u = true) : ∀ n, u < n → ncn f n + 1 ≤ ncn g n := by
  intro n
  induction n with
  | zero => intro z; omega
  | succ n ih =>
    intro z
    show ncn f n + (if f n then 1 else 0) + 1 ≤ ncn g n + (if g n then 1 else 0)
    by_cases e : u = n
    · subst e
      rw [h1, h2]
      have := ncn_mono h u
      simp
      exact this
    · have i := ih (by omega)
      by_cases e2 : f n = true
      · rw [if_pos e2, if_pos (h n e2)]; omega
      · rw [if_neg e2]; split <;> omega
def rk (T : TT) (d : Nat) : Nat := ncn (fun q => decide ((sDue T q).toNatClampNeg < d)) (tn T)
def chn (f : Nat → Int32) : Nat → Int32 → Int32
  | 0, _ => 0
  | n + 1, x => if x < 0 then 0 else 1 + (if 8 ≤ x then 0 else chn f n (f x.toNatClampNeg))
section CHAIN
variable {T : TT} {b : Nat → Bool} {sh : Bool} {X : St} {t : Nat}
theorem chn_m4 (f : Nat → Int32) (n : Nat) : chn f n (-4) = 0 := by
  cases n with
  | zero => rfl
  | succ n => exact if_pos (by decide)
theorem buys_up (hW : WT T) {p u : Nat} (hp : p < tn T) (hu : u < 8) (e : sDay T b sh 2 p = nI u) : u < tn T ∧ (sDue T u).toNatClampNeg < (sDue T p).toNatClampNeg := by
  rcases F_3 (b := b) (sh := sh) hW hp with ⟨z, -, -⟩ | ⟨u', hu', z, -, h4, h6, -, -⟩
  · rw [e] at z
    exact absurd z (fun y => by have := nI_pos' (n := u) (by omega); rw [y] at this; exact absurd this (by decide))
  · have : u' = u := (nI_eq (by omega) (by omega)).mp (z.symm.trans e)
    subst this
    rcases F_4 (b := b) (sh := sh) hW hu' with y | ⟨-, -, y⟩
    · exact absurd y h4
    · obtain ⟨hn, y6, -⟩ := y hu
      refine ⟨hn, ?_⟩
      obtain ⟨d, d1, d2, d3⟩ := at_n hW hn
      obtain ⟨e1, e2, e3⟩ := due_n hW hn
      obtain ⟨f1, f2, f3⟩ := due_n hW hp
      have g := d3 e1 e3 e2
      rw [y6, d2, f3] at h6
      have := (nI_leI (show d < 2 ^ 31 by omega) (show f1 < 2 ^ 31 by omega)).mp h6
      rw [e3, f3, tn_n (by omega), tn_n (by omega)]
      omega
theorem C_chain0 (h : DC X t T b) : ∀ n i v x, i + n = 8 → (x = -4 ∨ ∃ u, u < 11 ∧ x = nI u ∧ (u < 8 → u < tn T)) → ∀ fu, n < fu → lp fu (l_X2_chainOf_12 X) (v, x, nI i) = some (v + chn (sDay T b false 2) n x) := by
  obtain ⟨hW, n8, -⟩ := C_W h
  intro n
  induction n with
  | zero =>
    intro i v x hi hx fu hfu
    obtain ⟨fu, rfl⟩ : ∃ k, fu = k + 1 := ⟨fu - 1, by omega⟩
    have e : (8 : Int32) ≤ nI i := nI_le (a := 8) (by omega) (by omega)
    simp only [lp, l_X2_chainOf_12, b_X2_chainOf_12, if_pos e, Option.bind_some, chn, Int32.add_zero]
  | succ n ih =>
    intro i v x hi hx fu hfu
    obtain ⟨fu, rfl⟩ : ∃ k, fu = k + 1 := ⟨fu - 1, by omega⟩
    have e : ¬ (8 : Int32) ≤ nI i := nI_ge (b := 8) (by omega) (by decide)
    rcases hx with rfl | ⟨u, hu, rfl, hn⟩
    · simp only [lp, l_X2_chainOf_12, b_X2_chainOf_12, if_neg e, Option.bind_some, chn, if_pos (show (-4 : Int32) < 0 by decide), Int32.add_zero]
    · have u0 : ¬ nI u < 0 := nI_pos (by omega)
      rcases Nat.lt_or_ge u 8 with z | z
      · have e2 : ¬ (8 : Int32) ≤ nI u := nI_ge (b := 8) z (by decide)
        simp only [lp, l_X2_chainOf_12, b_X2_chainOf_12, b_X2_chainOf_43, if_neg e, if_neg u0, if_neg e2, gd_t (inb_n z), tn_n (show u < 2 ^ 31 by omega), Option.bind_some, chn, nI_1, (C_pick h (hn z)).2.2.1]
        rw [ih (i + 1) (v + 1) _ (by omega) ?_ fu (by omega), Int32.add_assoc]
        rcases F_2 (b := b) (sh := false) hW (hn z) with y | ⟨w, hw, y⟩
        · exact Or.inl y
        · exact Or.inr ⟨w, hw, y, fun w8 => (buys_up hW (hn z) w8 y).1⟩
      · have e2 : (8 : Int32) ≤ nI u := nI_le (a := 8) z (by omega)
        simp only [lp, l_X2_chainOf_12, b_X2_chainOf_12, b_X2_chainOf_43, if_neg e, if_neg u0, if_pos e2, Option.bind_some, chn, nI_1]
        rw [ih (i + 1) (v + 1) _ (by omega) (Or.inl rfl) fu (by omega), chn_m4, Int32.add_assoc]
theorem C_chain (h : DC X t T b) {p : Nat} (hp : p < tn T) : L_X2_chainOf (nI p) X = some (chn (sDay T b false 2) 8 (sDay T b false 2 p)) := by
  obtain ⟨hW, n8, -⟩ := C_W h
  unfold L_X2_chainOf b_X2_chainOf_0
  rw [gd_t (inb_n (show p < 8 by omega)), tn_n (show p < 2 ^ 31 by omega), (C_pick h hp).2.2.1]
  have k := C_chain0 h 8 0 0 (sDay T b false 2 p) rfl (by
    rcases F_2 (b := b) (sh := false) hW hp with y | ⟨w, hw, y⟩
    · exact Or.inl y
    · exact Or.inr ⟨w, hw, y, fun w8 => (buys_up hW hp w8 y).1⟩) 1000 (by omega)
  rw [Int32.zero_add] at k
  exact k
theorem R_chain0 (h : DR X T b sh) : ∀ n v p, p < tn T → rk T (sDue T p).toNatClampNeg < n → ∀ fu, n + 1 < fu → lp fu (l_X12_chainOf_4 X) (v, nI p) = some (v + chn (sDay T b sh 2) n (sDay T b sh 2 p)) := by
  obtain ⟨hW, n8, -⟩ := R_W h
  intro n
  induction n with
  | zero => intro v p _ z; omega
  | succ n ih =>
    intro v p hp hr fu hfu
    obtain ⟨fu, rfl⟩ : ∃ k, fu = k + 1 := ⟨fu - 1, by omega⟩
    have e : ¬ (8 : Int32) ≤ nI p := nI_ge (b := 8) (by omega) (by decide)
    simp only [lp, l_X12_chainOf_4, b_X12_chainOf_4, if_neg e, gd_t (inb_n (show p < 8 by omega)), tn_n (show p < 2 ^ 31 by omega), (R_pick h hp).2.2.1]
    rcases F_2 (b := b) (sh := sh) hW hp with y | ⟨u, hu, y⟩
    · rw [y, chn_m4]
      rw [if_pos rfl, if_pos (by decide), Int32.add_zero]
      rfl
    · have u0 : ¬ nI u < 0 := nI_pos (by omega)
      have u1 : ¬ nI u = -4 := fun z => by have := nI_pos' (n := u) (by omega); rw [z] at this; exact absurd this (by decide)
      rw [y, if_neg u1, if_neg u0]
      simp only [Option.bind_some, chn, if_neg u0]
      rcases Nat.lt_or_ge u 8 with z | z
      · have e2 : ¬ (8 : Int32) ≤ nI u := nI_ge (b := 8) z (by decide)
        obtain ⟨hn, hd⟩ := buys_up hW hp z y
        have : rk T (sDue T u).toNatClampNeg + 1 ≤ rk T (sDue T p).toNatClampNeg := ncn_lt (fun k hk => by simp only [decide_eq_true_eq] at hk ⊢; omega) (u := u) (by simp) (by simpa using hd) (tn T) hn
        rw [ih (v + 1) u hn (by omega) fu (by omega), if_neg e2, tn_n (show u < 2 ^ 31 by omega), Int32.add_assoc]
      · have e2 : (8 : Int32) ≤ nI u := nI_le (a := 8) z (by omega)
        rw [if_pos e2, Int32.add_zero]
        obtain ⟨fu, rfl⟩ : ∃ k, fu = k + 1 := ⟨fu - 1, by omega⟩
        simp only [lp, l_X12_chainOf_4, b_X12_chainOf_4, if_pos e2, Option.bind_some]
theorem R_chain (h : DR X T b sh) {p : Nat} (hp : p < tn T) : L_X12_chainOf (nI p) X = some (chn (sDay T b sh 2) 8 (sDay T b sh 2 p)) := by
  obtain ⟨hW, n8, -⟩ := R_W h
  have : rk T (sDue T p).toNatClampNeg + 1 ≤ rk T ((sDue T p).toNatClampNeg + 1) := ncn_lt (fun k hk => by simp only [decide_eq_true_eq] at hk ⊢; omega) (u := p) (by simp) (by simp) (tn T) hp
  have l : rk T ((sDue T p).toNatClampNeg + 1) ≤ tn T := ncn_le _ _
  unfold L_X12_chainOf b_X12_chainOf_0
  rw [R_chain0 h 8 0 p hp (by omega) 1000 (by omega), Int32.zero_add]
end CHAIN
/-- the greatest of some -/
def mx (f : Nat → Int32) : Nat → Int32
  | 0 => 0
  | k + 1 => if mx f k < f k then f k else mx f k
def aFate (T : TT) (D : Nat → Nat → Int32) (p : Nat) (v : Int32) : Int32 := if v = 0 then kTold (D 1 p) else if v = 1 then kStr (tK T p) (tF T 0 p) (D 0 p) else if v = 2 then D 2 p else if v = 3 then (if D 2 p = -4 then -4 else D 3 p) else if v = 4 then sCoins T D p 23 else if v = 5 then (if D 4 p = 0 then 0 else 1) else if v = 6 then (if D 4 p = 0 then -4 else D 6 p) else if v = 7 then (if D 4 p = 0 then -4 else D 5 p) else D 8 p
section CALLS3
variable {S S0 X : St} {T : TT} {m : Option TT × (Nat → Sh)}
theorem J_chain (c : IC S (T, m)) (g : IR S (T, m)) (p : Int32) : JJ S (L_X11_chain p) (L_X12_chain p) := by
  have n8 : tn T ≤ 8 := c.2.1.1
  obtain ⟨hW, cR⟩ := IC_1 c
  rcases ix_split p (tn T) (by omega) with ⟨j, hj, rfl⟩ | bad
  · obtain ⟨X, x1, x2, x3, -⟩ := C_go (Or.inl rfl) hW cR bits_m1
    refine JJ_D c g (chn (sDay T tt false 2) 8 (sDay T tt false 2 j)) ⟨X, ?_, x2⟩ (fun S1 g1 => ?_)
    · unfold L_X11_chain b_X11_chain_0
      rw [C_nb0 cR.1 n8 hj]
      simp only [Option.bind_some, if_true, x1, C_chain x3 hj]
    · have e := RE_0 g1
      obtain ⟨Y, y1, -, y3, y4⟩ := RE_go e
      refine ⟨Y, ?_, y3⟩
      unfold L_X12_chain b_X12_chain_0
      rw [nm_eq, R_one1 e.2.2.1.1 n8 hj]
      simp only [Option.bind_some, if_neg (show ¬ (1 : Int32) = 0 by decide), y1, R_chain y4 hj]
  · refine JJ_D c g (-1) ⟨S, ?_, UpD_refl S⟩ (fun S1 g1 => ⟨_, ?_, RE_0 g1⟩)
    · unfold L_X11_chain b_X11_chain_0
      rw [C_nb1 cR.1 bad]
      rfl
    · unfold L_X12_chain b_X12_chain_0
      rw [nm_eq, R_one0 (RE_0 g1).2.2.1.1 n8 bad]
      rfl
theorem J_longest (c : IC S (T, m)) (g : IR S (T, m)) : JJ S L_X11_longest L_X12_longest := by
  have n8 : tn T ≤ 8 := c.2.1.1
  obtain ⟨hW, cR⟩ := IC_1 c
  obtain ⟨X, x1, x2, x3, -⟩ := C_go (Or.inl rfl) hW cR bits_m1
  refine JJ_D c g (mx (fun j => chn (sDay T tt false 2) 8 (sDay T tt false 2 j)) (tn T)) ⟨X, ?_, x2⟩ (fun S1 g1 => ?_)
  · have c3 := (C_W x3).2.2.2.2.1
    unfold L_X11_longest b_X11_longest_0
    rw [x1, Option.bind_some]
    refine lp_br _ (fun k => (mx (fun j => chn (sDay T tt false 2) 8 (sDay T tt false 2 j)) k, nI k, X)) (tn T) _ (fun k hk => ?_) ?_ 1000 (by omega)
    · have e1 : ¬ nI (tn T) ≤ nI k := nI_ge hk (by omega)
      simp only [l_X11_longest_16, b_X11_longest_16, c3, if_neg e1, C_chain x3 hk, Option.bind_some, nm, nI_1, mx]
    · simp only [l_X11_longest_16, b_X11_longest_16, c3, if_pos (Int32.le_refl _)]
  · have e := RE_0 g1
    obtain ⟨Y, y1, -, y3, y4⟩ := RE_go e
    refine ⟨Y, ?_, y3⟩
    have c3 := (R_W y4).2.2
    unfold L_X12_longest b_X12_longest_0
    rw [nm_eq, y1, Option.bind_some]
    refine lp_br _ (fun k => (mx (fun j => chn (sDay T tt false 2) 8 (sDay T tt false 2 j)) k, nI k, Y)) (tn T) _ (fun k hk => ?_) ?_ 1000 (by omega)
    · have e1 : ¬ nI (tn T) ≤ nI k := nI_ge hk (by omega)
      simp only [l_X12_longest_13, b_X12_longest_13, b_X12_longest_39, c3, if_neg e1, R_chain y4 hk, Option.bind_some, nI_1, mx]
      by_cases z : mx (fun j => chn (sDay T tt false 2) 8 (sDay T tt false 2 j)) k < chn (sDay T tt false 2) 8 (sDay T tt false 2 k)
      · rw [if_pos z, if_neg (Int32.not_le.mpr z)]
      · rw [if_neg z, if_pos (Int32.not_lt.mp z)]
    · simp only [l_X12_longest_13, b_X12_longest_13, c3, if_pos (Int32.le_refl _)]
theorem J_fate (c : IC S (T, m)) (g : IR S (T, m)) (p v : Int32) : JJ S (L_X11_fate p v) (L_X12_fate p v) := by
  have n8 : tn T ≤ 8 := c.2.1.1
  obtain ⟨hW, cR⟩ := IC_1 c
  rcases ix_split p (tn T) (by omega) with ⟨j, hj, rfl⟩ | bad
  · have j8 : j < 8 := by omega
    by_cases hv : 0 ≤ v ∧ v ≤ 8
    · obtain ⟨k, hk, rfl⟩ := in_of (n := 8) rfl (by decide) hv
      have hk9 : k = 0 ∨ k = 1 ∨ k = 2 ∨ k = 3 ∨ k = 4 ∨ k = 5 ∨ k = 6 ∨ k = 7 ∨ k = 8 := by omega
      obtain ⟨X, x1, x2, x3, -⟩ := C_go (Or.inl rfl) hW cR bits_m1
      refine JJ_D c g (aFate T (sDay T tt false) j (nI k)) ⟨X, ?_, x2⟩ (fun S1 g1 => ?_)
      · obtain ⟨-, -, d1, d2, d3, d4, d5⟩ := C_W x3
        obtain ⟨⟨q, r1, r2⟩, -⟩ := d5.2.2.2.1 j hj
        obtain ⟨p0, p1, p2, p3⟩ := C_pick x3 hj
        obtain ⟨s4, s8, s5⟩ := C_sell x3 (show j < 11 by omega)
        have hs : L_X2_fateOf (nI j) (nI k) X = some (aFate T (sDay T tt false) j (nI k)) := by
          have k0 : ∀ s0 : Int32, (s0 = 0 ↔ sDay T tt false 4 j = 0) → b_X2_fateOf_14 (nI j) (nI k) s0 X = some (aFate T (sDay T tt false) j (nI k)) := by
            intro s0 hs0
            unfold b_X2_fateOf_14 aFate
            simp only [C_told x3 hj, d1, gd_t d2, gd_t (inb_n j8), gd_t (inb_n (show j < 11 by omega)), tn_n (show j < 2 ^ 31 by omega), r1, Option.bind_some, p0, p2, p3, V_str r2 (hW.2.2.2.1 j hj).1, C_coinsAt x3 hj, s8, hs0]
            have b2 : (sDay T tt false 2 j < 0) ↔ sDay T tt false 2 j = -4 := by
              rcases F_2 (b := tt) (sh := false) hW hj with e | ⟨u, hu, e⟩
              · rw [e]; decide
              · rw [e]
                exact ⟨fun z => absurd z (nI_pos (by omega)), fun z => by rw [z]; decide⟩
            simp only [b2]
            by_cases z4 : sDay T tt false 4 j = 0
            · by_cases z2 : sDay T tt false 2 j = -4
              all_goals simp only [z4, z2, if_true, if_false]
              all_goals rcases hk9 with rfl | rfl | rfl | rfl | rfl | rfl | rfl | rfl | rfl <;> rfl
            · by_cases z2 : sDay T tt false 2 j = -4
              all_goals simp only [z4, z2, if_true, if_false, (s5 z4).1, (s5 z4).2]
              all_goals rcases hk9 with rfl | rfl | rfl | rfl | rfl | rfl | rfl | rfl | rfl <;> rfl
          unfold L_X2_fateOf b_X2_fateOf_0
          rw [gd_t (inb_n (show j < 11 by omega)), tn_n (show j < 2 ^ 31 by omega), s4]
          by_cases z4 : sDay T tt false 4 j = 0
          · rw [if_pos z4]; exact k0 0 ⟨fun _ => z4, fun _ => rfl⟩
          · rw [if_neg z4]; exact k0 1 ⟨fun z => absurd z (by decide), fun z => absurd z z4⟩
        unfold L_X11_fate b_X11_fate_0
        rw [C_nb0 cR.1 n8 hj]
        simp only [Option.bind_some, if_true, A_isOut, if_pos hv, x1, hs]
      · have e := RE_0 g1
        obtain ⟨Y, y1, -, y3, y4⟩ := RE_go e
        refine ⟨Y, ?_, y3⟩
        obtain ⟨p1, p0, p2, p3, -⟩ := R_pick y4 hj
        have p4 := R_purse y4 hj
        have p5 := R_reg y4 hj
        obtain ⟨d1, d2, -⟩ := y3.2.2.1.2.2.2.1 j hj
        have b2 := R_b2 (b := tt) (sh := false) hW hj
        have s8 := (y4.2.2.1 j (show j < 11 by omega)).1
        obtain ⟨s5, s6⟩ := R_sell y4 (show j < 11 by omega)
        unfold L_X12_fate b_X12_fate_0
        rw [nm_eq, R_one1 e.2.2.1.1 n8 hj]
        rw [Option.bind_some, if_neg (show ¬ (1 : Int32) = 0 by decide), R_in 0 8, if_pos hv, Option.bind_some, if_neg (show ¬ (1 : Int32) = 0 by decide), y1, Option.bind_some]
        unfold aFate
        simp only [gd_t (inb_n j8), gd_t (inb_n (show j < 11 by omega)), tn_n (show j < 2 ^ 31 by omega), R_told, R_str (S := Y) j8 d1 (hW.2.2.2.1 j hj).1 d2, p0, p1, p2, p3, p4, p5, s8, Option.bind_some]
        have f2 : (0 ≤ if sDay T tt false 2 j = -4 then (-9 : Int32) else sDay T tt false 2 j) ↔ ¬ sDay T tt false 2 j = -4 := by
          rcases F_2 (b := tt) (sh := false) hW hj with e | ⟨u, hu, e⟩
          · rw [e]; decide
          · have u1 : ¬ nI u = -4 := fun z => by have := nI_pos' (n := u) (by omega); rw [z] at this; exact absurd this (by decide)
            rw [e, if_neg u1]
            exact ⟨fun _ => u1, fun _ => nI_pos' (by omega)⟩
        have f8 : (0 ≤ if sDay T tt false 8 j = -4 then (-9 : Int32) else sDay T tt false 8 j) ↔ ¬ sDay T tt false 8 j = -4 := by
          rcases F_8 (b := tt) (sh := false) hW (show j < 11 by omega) with e | ⟨-, u, hu, e, -⟩
          · rw [e]; decide
          · have u1 : ¬ nI u = -4 := fun z => by have := nI_pos' (n := u) (by omega); rw [z] at this; exact absurd this (by decide)
            rw [e, if_neg u1]
            exact ⟨fun _ => u1, fun _ => nI_pos' (by omega)⟩
        simp only [f2, f8]
        have z01 : ¬ (1 : Int32) = 0 := by decide
        by_cases z4 : sDay T tt false 4 j = 0
        · have n9 : ¬ (0 : Int32) ≤ -9 := by decide
          simp only [z4, s6 z4, if_neg n9, ne_eq, not_true_eq_false, if_false, if_true]
          by_cases z2 : sDay T tt false 2 j = -4 <;> by_cases z8 : sDay T tt false 8 j = -4 <;> simp only [z2, z8, not_true_eq_false, not_false_eq_true, if_true, if_false]
          all_goals
            rcases hk9 with rfl | rfl | rfl | rfl | rfl | rfl | rfl | rfl | rfl <;> rfl
        · obtain ⟨t6, t5, -⟩ := s5 z4
          have d6 : (0 : Int32) ≤ sDay T tt false 6 j := by
            obtain ⟨-, d, dd, de, -⟩ := (F_vN (b := tt) (sh := false) hW (show j < 11 by omega)).mpr z4
            rw [de]; exact nI_pos' (by omega)
          simp only [z4, t6, t5, if_pos d6, ne_eq, not_false_eq_true, if_false, if_true]
          by_cases z2 : sDay T tt false 2 j = -4 <;> by_cases z8 : sDay T tt false 8 j = -4 <;> simp only [z2, z8, not_true_eq_false, not_false_eq_true, if_true, if_false]
          all_goals
            rcases hk9 with rfl | rfl | rfl | rfl | rfl | rfl | rfl | rfl | rfl <;> rfl
    · refine JJ_D c g (-1) ⟨S, ?_, UpD_refl S⟩ (fun S1 g1 => ⟨_, ?_, RE_0 g1⟩)
      · unfold L_X11_fate b_X11_fate_0
        rw [C_nb0 cR.1 n8 hj, Option.bind_some, if_pos rfl, A_isOut, if_neg hv]
        rfl
      · unfold L_X12_fate b_X12_fate_0
        rw [nm_eq, R_one1 (RE_0 g1).2.2.1.1 n8 hj, Option.bind_some, if_neg (by decide), R_in 0 8, if_neg hv]
        rfl
  · refine JJ_D c g (-1) ⟨S, ?_, UpD_refl S⟩ (fun S1 g1 => ⟨_, ?_, RE_0 g1⟩)
    · unfold L_X11_fate b_X11_fate_0
      rw [C_nb1 cR.1 bad]
      rfl
    · unfold L_X12_fate b_X12_fate_0
      rw [nm_eq, R_one0 (RE_0 g1).2.2.1.1 n8 bad]
      rfl
theorem J_market (c : IC S (T, m)) (g : IR S (T, m)) (v : Int32) : JJ S (L_X11_market v) (L_X12_market v) := by
  obtain ⟨hW, cR⟩ := IC_1 c
  have n8 := hW.1
  by_cases hv : 0 ≤ v ∧ v ≤ 23
  · obtain ⟨X, x1, x2, x3, -⟩ := C_go (Or.inl rfl) hW cR bits_m1
    refine JJ_D c g (bts (fun u => sSale T (sDay T tt false) u v) 11) ⟨X, ?_, x2⟩ (fun S1 g1 => ?_)
    · unfold L_X11_market b_X11_market_0
      rw [A_isOut, if_pos hv]
      simp only [Option.bind_some, if_true, x1, C_market x3]
    · have e := RE_0 g1
      obtain ⟨Y, y1, -, y3, y4⟩ := RE_go e
      refine ⟨Y, ?_, y3⟩
      unfold L_X12_market b_X12_market_0
      rw [nm_eq, R_isHour, if_pos hv, Option.bind_some, if_neg (by decide), y1, Option.bind_some]
      refine lp_br _ (fun k => (v, bts (fun u => sSale T (sDay T tt false) u v) k, nI k, Y)) 11 _ (fun k hk => ?_) ?_ 1000 (by omega)
      · have e1 : ¬ (11 : Int32) ≤ nI k := nI_ge (b := 11) hk (by decide)
        obtain ⟨s5, s6⟩ := R_sell y4 hk
        have s8 := (y4.2.2.1 k hk).2
        have key : ∀ w : Bool, b_X12_market_61 v (bts (fun u => sSale T (sDay T tt false) u v) k) (nI k) (if w then 1 else 0) Y = some (.inl (v, (if w then bts (fun u => sSale T (sDay T tt false) u v) k ||| ((1 : Int32) <<< (nI k &&& 31)) else bts (fun u => sSale T (sDay T tt false) u v) k), nI (k + 1), Y)) := by
          intro w
          unfold b_X12_market_61 b_X12_market_76
          cases w with
          | true => rw [if_pos rfl, if_neg (by decide), nI_1]; rfl
          | false => rw [if_neg (show ¬ (false = true) by decide), if_pos rfl, nI_1, Int32.or_zero]; rfl
        simp only [l_X12_market_22, b_X12_market_22, b_X12_market_60, if_neg e1, L_X12_isThere, b_X12_isThere_0, gd_t (inb_n hk), tn_n (show k < 2 ^ 31 by omega)]
        rw [show bts (fun u => sSale T (sDay T tt false) u v) (k + 1) = if sSale T (sDay T tt false) k v then bts (fun u => sSale T (sDay T tt false) u v) k ||| ((1 : Int32) <<< (nI k &&& 31)) else bts (fun u => sSale T (sDay T tt false) u v) k from rfl, ← key]
        by_cases z4 : sDay T tt false 4 k = 0
        · have f : sSale T (sDay T tt false) k v = false := by unfold sSale; simp [z4]
          rw [f, s6 z4]
          rfl
        · obtain ⟨t6, t5, t4⟩ := s5 z4
          obtain ⟨-, d, dd, de, -⟩ := (F_vN (b := tt) (sh := false) hW hk).mpr z4
          have d0 : ¬ sDay T tt false 6 k < 0 := by rw [de]; exact nI_pos (by omega)
          have d0' : (0 : Int32) ≤ sDay T tt false 6 k := Int32.not_lt.mp d0
          have hl := R_left (RE_RT y3) (F_I (b := tt) (sh := false) hW) hk z4 t6 t5 v
          rw [t6, hl]
          by_cases z6 : sDay T tt false 6 k ≤ v
          · by_cases zs : 0 ≤ sDay T tt false 8 k ∧ sDue T (sDay T tt false 8 k).toNatClampNeg ≤ v
            · have f : sSale T (sDay T tt false) k v = false := by unfold sSale; simp [zs]
              have s9 : gi Y 170 k ≤ v := by
                rw [s8, if_neg (fun z => by rw [z] at zs; exact absurd zs.1 (by decide))]
                exact zs.2
              rw [f]
              simp [d0, d0', z6, Int32.not_lt.mpr z6, s9, gd]
            · have s9 : ¬ gi Y 170 k ≤ v := by
                rw [s8]
                rcases F_8 (b := tt) (sh := false) hW hk with q | ⟨-, q, hq, q2, -⟩
                · rw [if_pos q]
                  intro z
                  have := Int32.le_trans z hv.2
                  exact absurd this (by decide)
                · have u1 : ¬ nI q = -4 := fun z => by have := nI_pos' (n := q) (by omega); rw [z] at this; exact absurd this (by decide)
                  rw [q2, if_neg u1]
                  rw [q2] at zs
                  exact fun z => zs ⟨nI_pos' (by omega), z⟩
              by_cases zl : 0 < sLeft (sDay T tt false) k v
              · have f : sSale T (sDay T tt false) k v = true := by
                  unfold sSale
                  have : (!(decide (0 ≤ sDay T tt false 8 k) && decide (sDue T (sDay T tt false 8 k).toNatClampNeg ≤ v))) = true := by
                    simp only [Bool.not_eq_true', Bool.and_eq_false_iff, decide_eq_false_iff_not]
                    by_cases q : 0 ≤ sDay T tt false 8 k
                    · exact Or.inr (fun y => zs ⟨q, y⟩)
                    · exact Or.inl q
                  rw [this]
                  simp [z4, z6, zl]
                rw [f]
                simp [d0, d0', z6, Int32.not_lt.mpr z6, s9, Int32.not_le.mpr zl, gd]
              · have f : sSale T (sDay T tt false) k v = false := by unfold sSale; simp [zl]
                rw [f]
                simp [d0, d0', z6, Int32.not_lt.mpr z6, s9, Int32.not_lt.mp zl, gd]
          · have f : sSale T (sDay T tt false) k v = false := by unfold sSale; simp [z6]
            rw [f]
            simp [d0, d0', z6, Int32.not_le.mp z6, gd, b_X12_isThere_23]
      · have e1 : (11 : Int32) ≤ nI 11 := by decide
        simp only [l_X12_market_22, b_X12_market_22, if_pos e1]
  · refine JJ_D c g (-1) ⟨S, ?_, UpD_refl S⟩ (fun S1 g1 => ⟨_, ?_, RE_0 g1⟩)
    · unfold L_X11_market b_X11_market_0
      rw [A_isOut, if_neg hv]
      rfl
    · unfold L_X12_market b_X12_market_0
      rw [nm_eq, R_isHour, if_neg hv]
      rfl
end CALLS3
