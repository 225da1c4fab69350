/-! Texts: what holds in the middle. -/
def sk (q : Nat) : Int32 := if q = 0 then -128 else if q = 1 then -32768 else -2147483648
/-- the first place that does not fit; how many places -/
def ms (f : Nat → Bool) : Nat → Nat
  | 0 => 0
  | n + 1 => if ms f n < n then ms f n else if f n then n + 1 else n
theorem ms_of (f : Nat → Bool) : ∀ n, ms f n ≤ n ∧ (∀ i, i < ms f n → f i = true) ∧ (ms f n < n → f (ms f n) = false) := by
  intro n
  induction n with
  | zero => exact ⟨Nat.le_refl _, fun i h => absurd h (Nat.not_lt_zero i), fun h => absurd h (Nat.lt_irrefl _)⟩
  | succ n ih =>
    obtain ⟨h1, h2, h3⟩ := ih
    show (if ms f n < n then ms f n else if f n then n + 1 else n) ≤ n + 1 ∧ (∀ i, i < (if ms f n < n then ms f n else if f n then n + 1 else n) → f i = true) ∧ ((if ms f n < n then ms f n else if f n then n + 1 else n) < n + 1 → f (if ms f n < n then ms f n else if f n then n + 1 else n) = false)
    by_cases z : ms f n < n
    · rw [if_pos z]
      exact ⟨by omega, h2, fun _ => h3 z⟩
    · rw [if_neg z]
      have e : ms f n = n := by omega
      rw [e] at h2
      by_cases y : f n = true
      · rw [if_pos y]
        refine ⟨Nat.le_refl _, fun i hi => ?_, fun h => absurd h (Nat.lt_irrefl _)⟩
        rcases Nat.eq_or_lt_of_le (Nat.le_of_lt_succ hi) with w | w
        · rw [w]; exact y
        · exact h2 i w
      · rw [if_neg y]
        exact ⟨by omega, h2, fun _ => by simpa using y⟩
theorem ms_u {f : Nat → Bool} {n q : Nat} (h1 : q ≤ n) (h2 : ∀ i, i < q → f i = true) (h3 : q < n → f q = false) : ms f n = q := by
  obtain ⟨a1, a2, a3⟩ := ms_of f n
  rcases Nat.lt_trichotomy (ms f n) q with z | z | z
  · have := h2 _ z
    rw [a3 (by omega)] at this
    cases this
  · exact z
  · have := a2 _ z
    rw [h3 (by omega)] at this
    cases this
/-- what is seen of a row on a shelf -/
def rowC (X : St) (d : Nat) (w : Sh) : Prop := gi X (70 + 2 * d) 0 = nI w.2.2.1.1 ∧ w.2.2.1.1 ≤ 2 ∧ gi X (70 + 2 * d) 1 = nI w.2.2.1.2 ∧ w.2.2.1.2 ≤ 100 ∧ ∀ i, i < 100 → gi X (71 + 2 * d) i = w.2.2.2 i
def UpW (S0 X : St) : Prop := (∀ a, (a < 19 ∨ 37 ≤ a ∧ a < 55 ∨ 66 ≤ a ∧ a < 86 ∨ 136 ≤ a) → gi X a = gi S0 a ∧ gr X a = gr S0 a) ∧ (∀ a, gl X a = gl S0 a) ∧ (∀ q, q < tp S0 → gp X q = gp S0 q) ∧ tp S0 ≤ tp X
def CW (S0 X : St) (T : TT) : Prop := UpW S0 X ∧ WT T ∧ repC X 19 T ∧ full X 19 ∧ 183 ≤ tp S0
theorem bd_eta (x : Option (Int32 × St)) : (x.bind fun r => some (r.1, r.2)) = x := by cases x <;> rfl
theorem n0_le {a : Nat} (h : a < 2 ^ 31) : (0 : Int32) ≤ nI a := Int32.not_lt.mp (nI_pos h)
theorem nI_o (p j : Nat) : nI p + nI (j + 1) = nI (p + 1 + j) := by
  rw [nI_add]
  congr 1
  omega
section W1
variable {S S0 S1 X Y : St} {T : TT} {im : Option TT} {sh : Nat → Sh} {d p k : Nat} {W : Sh}
theorem UpW_refl (S : St) : UpW S S := ⟨fun _ _ => ⟨rfl, rfl⟩, fun _ => rfl, fun _ _ => rfl, Nat.le_refl _⟩
theorem UpW_FT {S0 X X' : St} (h : UpW S0 X) (f : FT 19 X X') : UpW S0 X' :=
  ⟨fun a ha => ⟨(f.1 a (fun z => by have := z.1; have := z.2; omega)).1.trans (h.1 a ha).1, (f.1 a (fun z => by have := z.1; have := z.2; omega)).2.trans (h.1 a ha).2⟩, fun a => (f.2.1 a).trans (h.2.1 a), fun q hq => (f.2.2.1 q).trans (h.2.2.1 q hq), by rw [f.2.2.2]; exact h.2.2.2⟩
theorem CW_FR {S0 X X' : St} {T T' : TT} (h : CW S0 X T) (hW : WT T') (hR : repC X' 19 T') (f : FR (PT 19) X X') : CW S0 X' T' :=
  ⟨UpW_FT h.1 (FT_FR f), hW, hR, full_congr (FR_gr f 20) (fun q _ => FR_gp f q) (Nat.le_of_eq (FR_tp f).symm) h.2.2.2.1, h.2.2.2.2⟩
theorem repC_old {S S' : St} {t : Nat} {T : TT} (hW : WT T) (hf : full S t) (o : ∀ a, t ≤ a → a ≤ t + 17 → gi S' a = gi S a ∧ gr S' a = gr S a) (hq0 : ∀ q, q < tp S → gp S' q = gp S q) (h : repC S t T) : repC S' t T := by
  obtain ⟨a1, a2, a3, a4, a5, a6, a7, a8⟩ := h
  refine ⟨by rw [(o t (by omega) (by omega)).1]; exact a1, by rw [(o t (by omega) (by omega)).1]; exact a2, by rw [(o t (by omega) (by omega)).1]; exact a3, fun p hp => ?_, ?_, ?_, ?_, ?_⟩
  · obtain ⟨⟨q, e1, e2⟩, b1, b2, b3, b4⟩ := a4 p hp
    obtain ⟨q', z, f1, f2, f3⟩ := hf p (by have := hW.1; omega)
    have : q' = q := Option.some.inj (f1.symm.trans e1)
    subst this
    refine ⟨⟨q', by rw [(o (t + 1) (by omega) (by omega)).2]; exact e1, by rw [gq_local (hq0 q' f3)]; exact e2⟩, ?_, ?_, ?_, ?_⟩
    · rw [(o (t + 3) (by omega) (by omega)).1]; exact b1
    · rw [(o (t + 4) (by omega) (by omega)).1]; exact b2
    · rw [(o (t + 5) (by omega) (by omega)).1]; exact b3
    · rw [(o (t + 6) (by omega) (by omega)).1]; exact b4
  · rw [(o (t + 7) (by omega) (by omega)).1, (o (t + 8) (by omega) (by omega)).1, (o (t + 9) (by omega) (by omega)).1, (o (t + 10) (by omega) (by omega)).1]; exact a5
  · rw [(o (t + 11) (by omega) (by omega)).1, (o (t + 12) (by omega) (by omega)).1, (o (t + 13) (by omega) (by omega)).1, (o (t + 14) (by omega) (by omega)).1, (o (t + 15) (by omega) (by omega)).1]; exact a6
  · rw [(o (t + 16) (by omega) (by omega)).1]; exact a7
  · rw [(o (t + 17) (by omega) (by omega)).1]; exact a8
theorem rowC_of (c : IC S (T, im, sh)) (hd : d < 8) (h2 : (sh d).1 = 2) : rowC S d (sh d) := by
  obtain ⟨-, -, -, x5⟩ := c.2.2.2.2.2.2 d hd
  exact x5 h2
theorem rowC_up (h : UpW S0 X) (hd : d < 8) (rc : rowC S0 d W) : rowC X d W := by
  obtain ⟨r1, r2, r3, r4, r5⟩ := rc
  have e1 := (h.1 (70 + 2 * d) (by omega)).1
  have e2 := (h.1 (71 + 2 * d) (by omega)).1
  exact ⟨by rw [e1]; exact r1, r2, by rw [e1]; exact r3, r4, fun i hi => by rw [e2]; exact r5 i hi⟩
theorem IC_W (c : IC S (T, im, sh)) (u : UpW S X) : IC X (T, im, sh) :=
  IC_town c.2.1 (repC_old c.2.1 c.2.2.2.1 (fun a h1 h2 => u.1 a (by omega)) u.2.2.1 c.2.2.1) (full_congr (u.1 2 (by omega)).2 u.2.2.1 u.2.2.2 c.2.2.2.1) (fun a ha => u.1 a (by omega)) u.2.2.1 u.2.2.2 c
theorem UpC_W (u : UpW S X) : UpC S X := fun a ha => ⟨(u.1 a (by omega)).1, u.2.1 a, (u.1 a (by omega)).2⟩
theorem repC_loc {S S' : St} {t : Nat} {T : TT} (o : ∀ a, t ≤ a → a < t + 18 → gi S' a = gi S a ∧ gr S' a = gr S a) (h2 : ∀ q, gp S' q = gp S q) (r : repC S t T) : repC S' t T := by
  have hq : ∀ q, gq S' q = gq S q := fun q => gq_local (h2 q)
  unfold repC at r ⊢
  rw [(o t (by omega) (by omega)).1, (o (t + 1) (by omega) (by omega)).2, (o (t + 3) (by omega) (by omega)).1, (o (t + 4) (by omega) (by omega)).1, (o (t + 5) (by omega) (by omega)).1, (o (t + 6) (by omega) (by omega)).1, (o (t + 7) (by omega) (by omega)).1, (o (t + 8) (by omega) (by omega)).1, (o (t + 9) (by omega) (by omega)).1, (o (t + 10) (by omega) (by omega)).1, (o (t + 11) (by omega) (by omega)).1, (o (t + 12) (by omega) (by omega)).1, (o (t + 13) (by omega) (by omega)).1, (o (t + 14) (by omega) (by omega)).1, (o (t + 15) (by omega) (by omega)).1, (o (t + 16) (by omega) (by omega)).1, (o (t + 17) (by omega) (by omega)).1]
  simp only [hq]
  exact r
end W1
