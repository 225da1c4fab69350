/-! fate, market, chain, longest. -/
def ncn (f : Nat → Bool) : Nat → Nat
  | 0 => 0
  | k + 1 => ncn f k + (if f k then 1 else 0)
theorem ncn_le (f : Nat → Bool) : ∀ n, ncn f n ≤ n := by
  intro n
  induction n with
  | zero => exact Nat.le_refl _
  | succ n ih =>
    show ncn f n + (if f n then 1 else 0) ≤ n + 1
    split <;> omega
theorem ncn_mono {f g : Nat → Bool} (h : ∀ k, f k = true → g k = true) : ∀ n, ncn f n ≤ ncn g n := by
  intro n
  induction n with
  | zero => exact Nat.le_refl _
  | succ n ih =>
    show ncn f n + (if f n then 1 else 0) ≤ ncn g n + (if g n then 1 else 0)
    by_cases e : f n = true
    · rw [if_pos e, if_pos (h n e)]; omega
    · rw [if_neg e]; split <;> omega
theorem ncn_lt {f g : Nat → Bool} (h : ∀ k, f k = true → g k = true) {u : Nat} (h1 : f u = false) (h2 : g u = true) : ∀ n, u < n → ncn f n + 1 ≤ ncn g n := by
  intro n
  induction n with
  | zero => intro z; omega
  | succ n ih =>
    intro z
    show ncn f n + (if f n then 1 else 0) + 1 ≤ ncn g n + (if g n then 1 else 0)
    by_cases e : u = n
    · subst e
      rw [h1, h2]
      have := ncn_mono h u
      simp
      exact this
    · have i := ih (by omega)
      by_cases e2 : f n = true
      · rw [if_pos e2, if_pos (h n e2)]; omega
      · rw [if_neg e2]; split <;> omega
def rk (T : TT) (d : Nat) : Nat := ncn (fun q => decide ((sDue T q).toNatClampNeg < d)) (tn T)
def chn (f : Nat → Int32) : Nat → Int32 → Int32
  | 0, _ => 0
  | n + 1, x => if x < 0 then 0 else 1 + (if 8 ≤ x then 0 else chn f n (f x.toNatClampNeg))
section CHAIN
variable {T : TT} {b : Nat → Bool} {sh : Bool} {X : St} {t : Nat}
theorem chn_m4 (f : Nat → Int32) (n : Nat) : chn f n (-4) = 0 := by
  cases n with
  | zero => rfl
  | succ n => exact if_pos (by decide)
theorem buys_up (hW : WT T) {p u : Nat} (hp : p < tn T) (hu : u < 8) (e : sDay T b sh 2 p = nI u) : u < tn T ∧ (sDue T u).toNatClampNeg < (sDue T p).toNatClampNeg := by
  rcases F_3 (b := b) (sh := sh) hW hp with ⟨z, -, -⟩ | ⟨u', hu', z, -, h4, h6, -, -⟩
  · rw [e] at z
    exact absurd z (fun y => by have := nI_pos' (n := u) (by omega); rw [y] at this; exact absurd this (by decide))
  · have : u' = u := (nI_eq (by omega) (by omega)).mp (z.symm.trans e)
    subst this
    rcases F_4 (b := b) (sh := sh) hW hu' with y | ⟨-, -, y⟩
    · exact absurd y h4
    · obtain ⟨hn, y6, -⟩ := y hu
      refine ⟨hn, ?_⟩
      obtain ⟨d, d1, d2, d3⟩ := at_n hW hn
      obtain ⟨e1, e2, e3⟩ := due_n hW hn
      obtain ⟨f1, f2, f3⟩ := due_n hW hp
      have g := d3 e1 e3 e2
      rw [y6, d2, f3] at h6
      have := (nI_leI (show d < 2 ^ 31 by omega) (show f1 < 2 ^ 31 by omega)).mp h6
      rw [e3, f3, tn_n (by omega), tn_n (by omega)]
      omega
theorem C_chain0 (h : DC X t T b) : ∀ n i v x, i + n = 8 → (x = -4 ∨ ∃ u, u < 11 ∧ x = nI u ∧ (u < 8 → u < tn T)) → ∀ fu, n < fu → lp fu (l_X2_chainOf_12 X) (v, x, nI i) = some (v + chn (sDay T b false 2) n x) := by
  obtain ⟨hW, n8, -⟩ := C_W h
  intro n
  induction n with
  | zero =>
    intro i v x hi hx fu hfu
    obtain ⟨fu, rfl⟩ : ∃ k, fu = k + 1 := ⟨fu - 1, by omega⟩
    have e : (8 : Int32) ≤ nI i := nI_le (a := 8) (by omega) (by omega)
    simp only [lp, l_X2_chainOf_12, b_X2_chainOf_12, if_pos e, Option.bind_some, chn, Int32.add_zero]
  | succ n ih =>
    intro i v x hi hx fu hfu
    obtain ⟨fu, rfl⟩ : ∃ k, fu = k + 1 := ⟨fu - 1, by omega⟩
    have e : ¬ (8 : Int32) ≤ nI i := nI_ge (b := 8) (by omega) (by decide)
    rcases hx with rfl | ⟨u, hu, rfl, hn⟩
    · simp only [lp, l_X2_chainOf_12, b_X2_chainOf_12, if_neg e, Option.bind_some, chn, if_pos (show (-4 : Int32) < 0 by decide), Int32.add_zero]
    · have u0 : ¬ nI u < 0 := nI_pos (by omega)
      rcases Nat.lt_or_ge u 8 with z | z
      · have e2 : ¬ (8 : Int32) ≤ nI u := nI_ge (b := 8) z (by decide)
        simp only [lp, l_X2_chainOf_12, b_X2_chainOf_12, b_X2_chainOf_43, if_neg e, if_neg u0, if_neg e2, gd_t (inb_n z), tn_n (show u < 2 ^ 31 by omega), Option.bind_some, chn, nI_1, (C_pick h (hn z)).2.2.1]
        rw [ih (i + 1) (v + 1) _ (by omega) ?_ fu (by omega), Int32.add_assoc]
        rcases F_2 (b := b) (sh := false) hW (hn z) with y | ⟨w, hw, y⟩
        · exact Or.inl y
        · exact Or.inr ⟨w, hw, y, fun w8 => (buys_up hW (hn z) w8 y).1⟩
      · have e2 : (8 : Int32) ≤ nI u := nI_le (a := 8) z (by omega)
        simp only [lp, l_X2_chainOf_12, b_X2_chainOf_12, b_X2_chainOf_43, if_neg e, if_neg u0, if_pos e2, Option.bind_some, chn, nI_1]
        rw [ih (i + 1) (v + 1) _ (by omega) (Or.inl rfl) fu (by omega), chn_m4, Int32.add_assoc]
theorem C_chain (h : DC X t T b) {p : Nat} (hp : p < tn T) : L_X2_chainOf (nI p) X = some (chn (sDay T b false 2) 8 (sDay T b false 2 p)) := by
  obtain ⟨hW, n8, -⟩ := C_W h
  unfold L_X2_chainOf b_X2_chainOf_0
  rw [gd_t (inb_n (show p < 8 by omega)), tn_n (show p < 2 ^ 31 by omega), (C_pick h hp).2.2.1]
  have k := C_chain0 h 8 0 0 (sDay T b false 2 p) rfl (by
    rcases F_2 (b := b) (sh := false) hW hp with y | ⟨w, hw, y⟩
    · exact Or.inl y
    · exact Or.inr ⟨w, hw, y, fun w8 => (buys_up hW hp w8 y).1⟩) 1000 (by omega)
  rw [Int32.zero_add] at k
  exact k
end CHAIN
/-- the greatest of some -/
def mx (f : Nat → Int32) : Nat → Int32
  | 0 => 0
  | k + 1 => if mx f k < f k then f k else mx f k
def aFate (T : TT) (D : Nat → Nat → Int32) (p : Nat) (v : Int32) : Int32 := if v = 0 then kTold (D 1 p) else if v = 1 then kStr (tK T p) (tF T 0 p) (D 0 p) else if v = 2 then D 2 p else if v = 3 then (if D 2 p = -4 then -4 else D 3 p) else if v = 4 then sCoins T D p 23 else if v = 5 then (if D 4 p = 0 then 0 else 1) else if v = 6 then (if D 4 p = 0 then -4 else D 6 p) else if v = 7 then (if D 4 p = 0 then -4 else D 5 p) else D 8 p
section CALLS3
variable {S S0 X : St} {T : TT} {m : Option TT × (Nat → Sh)}
end CALLS3
