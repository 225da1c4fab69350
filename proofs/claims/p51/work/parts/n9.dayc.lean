/-! THE DAY: coins are neither made nor lost; chains; who turns. -/
theorem sm_congr {f g : Nat → Int32} : ∀ {n : Nat}, (∀ k, k < n → f k = g k) → sm f n = sm g n := by
  intro n
  induction n with
  | zero => intro _; rfl
  | succ n ih =>
    intro h
    show sm f n + f n = sm g n + g n
    rw [ih (fun k hk => h k (by omega)), h n (by omega)]
theorem sm_add (f g : Nat → Int32) : ∀ n, sm (fun k => f k + g k) n = sm f n + sm g n := by
  intro n
  induction n with
  | zero => rfl
  | succ n ih =>
    show sm (fun k => f k + g k) n + (f n + g n) = (sm f n + f n) + (sm g n + g n)
    rw [ih, Int32.add_assoc, Int32.add_assoc, ← Int32.add_assoc (sm g n), Int32.add_comm (sm g n) (f n), Int32.add_assoc (f n)]
theorem sm_0 : ∀ n, sm (fun _ => 0) n = 0 := by
  intro n
  induction n with
  | zero => rfl
  | succ n ih => show sm (fun _ => 0) n + 0 = 0; rw [ih]; rfl
theorem sm_swap (F : Nat → Nat → Int32) (m : Nat) : ∀ n, sm (fun p => sm (F p) m) n = sm (fun q => sm (fun p => F p q) n) m := by
  intro n
  induction n with
  | zero => exact (sm_0 m).symm
  | succ n ih =>
    show sm (fun p => sm (F p) m) n + sm (F n) m = sm (fun q => sm (fun p => F p q) n + F n q) m
    rw [ih, sm_add]
theorem sm_one {f : Nat → Int32} {k : Nat} : ∀ {n : Nat}, k < n → (∀ q, q < n → q ≠ k → f q = 0) → sm f n = f k := by
  intro n
  induction n with
  | zero => intro h; omega
  | succ n ih =>
    intro hk h
    show sm f n + f n = f k
    by_cases e : k = n
    · subst e
      rw [sm_congr (g := fun _ => 0) (fun q hq => h q (by omega) (by omega)), sm_0, Int32.zero_add]
    · rw [ih (by omega) (fun q hq => h q (by omega)), h n (by omega) (fun z => e z.symm), Int32.add_zero]
theorem sm_none {f : Nat → Int32} {n : Nat} (h : ∀ q, q < n → f q = 0) : sm f n = 0 := (sm_congr (g := fun _ => 0) h).trans (sm_0 n)
theorem m4_n {u : Nat} (h : u < 2147483648) : ¬ nI u = -4 := fun e => by
  have := nI_pos' (n := u) (by omega)
  rw [e] at this
  exact absurd this (by decide)
theorem le7 {u : Nat} (h : u < 11) : nI u ≤ 7 ↔ u < 8 := by
  have := nI_leI (a := u) (b := 7) (by omega) (by decide)
  constructor
  · intro z; have := this.mp z; omega
  · intro z; exact this.mpr (by omega)
/-- what p pays to PLANTS -/
def wP (D : Nat → Nat → Int32) (p : Nat) : Int32 := if 0 ≤ D 2 p ∧ ¬ D 2 p ≤ 7 then D 3 p else 0
section DAYC
variable {T : TT} {b : Nat → Bool} {sh : Bool}
theorem paid_once (hW : WT T) {p : Nat} (hp : p < tn T) : (if 0 ≤ sDay T b sh 8 p ∧ sDue T (sDay T b sh 8 p).toNatClampNeg ≤ 23 then sDay T b sh 3 (sDay T b sh 8 p).toNatClampNeg else 0) = sm (fun q => if sDay T b sh 2 q = nI p then sDay T b sh 3 q else 0) (tn T) := by
  have n8 := hW.1
  have back : ∀ q, q < tn T → sDay T b sh 2 q = nI p → sDay T b sh 8 p = nI q := by
    intro q hq e
    rcases F_3 (b := b) (sh := sh) hW hq with ⟨z, -⟩ | ⟨u, hu, z, y, -⟩
    · exact absurd (e.symm.trans z) (m4_n (by omega))
    · have : u = p := (nI_eq (by omega) (by omega)).mp (z.symm.trans e)
      subst this
      exact y
  rcases F_8 (b := b) (sh := sh) hW (show p < 11 by omega) with z | ⟨-, q, hq, z, y⟩
  · rw [z, if_neg (fun w => absurd w.1 (by decide)), sm_none]
    intro q hq
    exact if_neg (fun e => m4_n (show q < 2147483648 by omega) ((back q hq e).symm.trans z))
  · obtain ⟨d, d1, d2⟩ := due_n hW hq
    rw [z, tn_n (by omega), if_pos ⟨nI_pos' (by omega), by rw [d2]; exact nI_le (b := 23) (by omega) (by decide)⟩, sm_one hq (fun q' hq' ne => if_neg (fun e => ?_)), if_pos y]
    exact ne ((nI_eq (by omega) (by omega)).mp ((back q' hq' e).symm.trans z))
theorem paid_all (hW : WT T) {q : Nat} (hq : q < tn T) : sm (fun p => if sDay T b sh 2 q = nI p then sDay T b sh 3 q else 0) (tn T) + wP (sDay T b sh) q = sDay T b sh 3 q := by
  have n8 := hW.1
  unfold wP
  rcases F_3 (b := b) (sh := sh) hW hq with ⟨z, z3, -⟩ | ⟨u, hu, z, -, h4, -⟩
  · rw [z, z3, if_neg (fun w => absurd w.1 (by decide)), Int32.add_zero]
    exact sm_none (fun p hp => by split <;> rfl)
  · rw [z]
    have z0 := nI_pos' (n := u) (by omega)
    by_cases u8 : u < 8
    · have hn : u < tn T := by
        rcases F_4 (b := b) (sh := sh) hW hu with y | ⟨-, -, y⟩
        · exact absurd y h4
        · exact (y u8).1
      rw [if_neg (fun w => w.2 ((le7 hu).mpr u8)), Int32.add_zero, sm_one hn (fun p hp ne => if_neg (fun e => ne ((nI_eq (by omega) (by omega)).mp e).symm)), if_pos rfl]
    · rw [if_pos ⟨z0, fun w => u8 ((le7 hu).mp w)⟩, sm_none (fun p hp => if_neg (fun e => by have := (nI_eq (a := u) (b := p) (by omega) (by omega)).mp e; omega)), Int32.zero_add]
theorem coins_end (hW : WT T) : sm (fun p => sCoins T (sDay T b sh) p 23) (tn T) = sm (tF T 4) (tn T) - sm (wP (sDay T b sh)) (tn T) := by
  have n8 := hW.1
  have h1 : sm (fun p => sCoins T (sDay T b sh) p 23) (tn T) = sm (fun p => tF T 4 p - sDay T b sh 3 p) (tn T) + sm (fun p => sm (fun q => if sDay T b sh 2 q = nI p then sDay T b sh 3 q else 0) (tn T)) (tn T) := by
    rw [← sm_add]
    refine sm_congr (fun p hp => ?_)
    obtain ⟨d, d1, d2⟩ := due_n hW hp
    unfold sCoins
    rw [if_pos (show sDue T p ≤ 23 by rw [d2]; exact nI_le (b := 23) (by omega) (by decide)), paid_once hW hp]
  have h2 : sm (fun p => sm (fun q => if sDay T b sh 2 q = nI p then sDay T b sh 3 q else 0) (tn T)) (tn T) + sm (wP (sDay T b sh)) (tn T) = sm (sDay T b sh 3) (tn T) := by
    rw [sm_swap (fun p q => if sDay T b sh 2 q = nI p then sDay T b sh 3 q else 0), ← sm_add]
    exact sm_congr (fun q hq => paid_all hW hq)
  have h3 : sm (fun p => tF T 4 p - sDay T b sh 3 p) (tn T) + sm (sDay T b sh 3) (tn T) = sm (tF T 4) (tn T) := by
    rw [← sm_add]
    exact sm_congr (fun q hq => Int32.sub_add_cancel _ _)
  rw [h1, ← h3, ← h2, ← Int32.add_assoc, Int32.add_sub_cancel]
-- chains
theorem rk_lt (hW : WT T) {p : Nat} (hp : p < tn T) : rk T (sDue T p).toNatClampNeg + 1 ≤ tn T := by
  have := ncn_lt (f := fun q => decide ((sDue T q).toNatClampNeg < (sDue T p).toNatClampNeg)) (g := fun _ => true) (fun _ _ => rfl) (u := p) (decide_eq_false (Nat.lt_irrefl _)) rfl (tn T) hp
  exact Nat.le_trans this (ncn_le _ _)
theorem rk_up (hW : WT T) {p u : Nat} (hp : p < tn T) (hu : u < 8) (e : sDay T b sh 2 p = nI u) : u < tn T ∧ rk T (sDue T u).toNatClampNeg + 1 ≤ rk T (sDue T p).toNatClampNeg := by
  obtain ⟨h1, h2⟩ := buys_up hW hp hu e
  refine ⟨h1, ncn_lt (fun k hk => ?_) (u := u) (decide_eq_false (Nat.lt_irrefl _)) (decide_eq_true h2) (tn T) h1⟩
  have := of_decide_eq_true hk
  exact decide_eq_true (by omega)
theorem chn_s (f : Nat → Int32) (n u : Nat) (hu : u < 11) : chn f (n + 1) (nI u) = 1 + (if u < 8 then chn f n (f u) else 0) := by
  show (if nI u < 0 then 0 else 1 + (if 8 ≤ nI u then 0 else chn f n (f (nI u).toNatClampNeg))) = _
  rw [if_neg (Int32.not_lt.mpr (nI_pos' (by omega))), tn_n (by omega)]
  by_cases u8 : u < 8
  · rw [if_pos u8, if_neg (show ¬ (8 : Int32) ≤ nI u from nI_ge (b := 8) u8 (by decide))]
  · rw [if_neg u8, if_pos (show (8 : Int32) ≤ nI u from nI_le (a := 8) (by omega) (by omega))]
theorem chn_st (hW : WT T) : ∀ N m q, q < tn T → rk T (sDue T q).toNatClampNeg ≤ N → N < m → chn (sDay T b sh 2) m (sDay T b sh 2 q) = chn (sDay T b sh 2) (m + 1) (sDay T b sh 2 q) := by
  intro N
  induction N with
  | zero =>
    intro m q hq hr hm
    obtain ⟨m', rfl⟩ : ∃ m', m = m' + 1 := ⟨m - 1, by omega⟩
    rcases F_2 (b := b) (sh := sh) hW hq with e | ⟨u, hu, e⟩
    · rw [e, chn_m4, chn_m4]
    · rw [e, chn_s _ _ _ hu, chn_s _ _ _ hu]
      by_cases u8 : u < 8
      · have := (rk_up hW hq u8 e).2
        omega
      · rw [if_neg u8, if_neg u8]
  | succ N ih =>
    intro m q hq hr hm
    obtain ⟨m', rfl⟩ : ∃ m', m = m' + 1 := ⟨m - 1, by omega⟩
    rcases F_2 (b := b) (sh := sh) hW hq with e | ⟨u, hu, e⟩
    · rw [e, chn_m4, chn_m4]
    · rw [e, chn_s _ _ _ hu, chn_s _ _ _ hu]
      by_cases u8 : u < 8
      · obtain ⟨h1, h2⟩ := rk_up hW hq u8 e
        rw [if_pos u8, if_pos u8, ih m' u h1 (by omega) (by omega)]
      · rw [if_neg u8, if_neg u8]
theorem chn_next (hW : WT T) {p u : Nat} (hp : p < tn T) (hu : u < 8) (e : sDay T b sh 2 p = nI u) : chn (sDay T b sh 2) 8 (sDay T b sh 2 p) = chn (sDay T b sh 2) 8 (sDay T b sh 2 u) + 1 := by
  obtain ⟨h1, h2⟩ := rk_up hW hp hu e
  have h3 := rk_lt hW hp
  have n8 := hW.1
  rw [e, chn_s _ 7 _ (by omega), if_pos hu, chn_st hW 6 7 u h1 (by omega) (by decide), Int32.add_comm]
theorem chn_b (hW : WT T) : ∀ m q, q < tn T → ∃ c, c ≤ rk T (sDue T q).toNatClampNeg + 1 ∧ chn (sDay T b sh 2) m (sDay T b sh 2 q) = nI c := by
  intro m
  induction m with
  | zero => intro q _; exact ⟨0, by omega, rfl⟩
  | succ m ih =>
    intro q hq
    rcases F_2 (b := b) (sh := sh) hW hq with e | ⟨u, hu, e⟩
    · exact ⟨0, by omega, by rw [e, chn_m4]; rfl⟩
    · rw [e, chn_s _ _ _ hu]
      by_cases u8 : u < 8
      · obtain ⟨h1, h2⟩ := rk_up hW hq u8 e
        obtain ⟨c, c1, c2⟩ := ih u h1
        exact ⟨1 + c, by omega, by rw [if_pos u8, c2, show (1 : Int32) = nI 1 from rfl, nI_add]⟩
      · exact ⟨1, by omega, by rw [if_neg u8]; rfl⟩
theorem mx_b {f : Nat → Int32} {n : Nat} (hn : n < 100) (h : ∀ q, q < n → ∃ c, c ≤ n ∧ f q = nI c) : ∀ k, k ≤ n → ∃ c, c ≤ n ∧ mx f k = nI c := by
  intro k
  induction k with
  | zero => intro _; exact ⟨0, by omega, rfl⟩
  | succ k ih =>
    intro hk
    show ∃ c, c ≤ n ∧ (if mx f k < f k then f k else mx f k) = nI c
    split
    · exact h k (by omega)
    · exact ih (by omega)
theorem longest_b (hW : WT T) : ¬ nI (tn T) < mx (fun j => chn (sDay T b sh 2) 8 (sDay T b sh 2 j)) (tn T) := by
  have n8 := hW.1
  obtain ⟨c, c1, c2⟩ := mx_b (f := fun j => chn (sDay T b sh 2) 8 (sDay T b sh 2 j)) (n := tn T) (by omega) (fun q hq => by
    obtain ⟨c, c1, c2⟩ := chn_b (b := b) (sh := sh) hW 8 q hq
    have := rk_lt hW hq
    exact ⟨c, by omega, c2⟩) (tn T) (Nat.le_refl _)
  rw [c2]
  exact Int32.not_lt.mpr (nI_le c1 (by omega))
-- regret
theorem turn_of (hW : WT T) {p : Nat} (hp : p < tn T) (h4 : sDay T b sh 4 p ≠ 0) : ¬ sDay T b sh 6 p ≤ sDue T p ∧ ¬ sDay T b sh 6 p < tF T 15 0 ∧ ¬ 23 < sDay T b sh 6 p ∧ 1 ≤ sDay T b sh 5 p := by
  have n8 := hW.1
  obtain ⟨e, e2⟩ := (F_I (b := b) (sh := sh) hW).1 p hp (dn_24 hW hp)
  have tr : sTurns T b (sDay T b sh) p = true := by
    cases y : sTurns T b (sDay T b sh) p with
    | true => rfl
    | false => rw [y, if_neg (by decide)] at e; exact absurd e h4
  obtain ⟨q5, q6, -⟩ := e2 tr
  unfold sTurns at tr
  simp only [Bool.and_eq_true, decide_eq_true_eq] at tr
  obtain ⟨⟨a23, s0⟩, -⟩ := tr
  obtain ⟨d, d1, d2, d3⟩ := at_n hW hp
  obtain ⟨x, x1, x2⟩ := due_n hW hp
  have hxd := d3 x x2 x1
  rw [q5, q6]
  refine ⟨?_, ?_, Int32.not_lt.mpr a23, ?_⟩
  · rw [d2, x2]; exact nI_ge hxd (by omega)
  · unfold sAt
    split
    · rename_i z; exact Int32.not_lt.mpr (Int32.le_of_lt z)
    · exact Int32.lt_irrefl
  · obtain ⟨-, ⟨g, g1, g2⟩, -⟩ := hW.2.2.2.1 p hp
    have kb := known_b (b := b) hW hp (sAt T p)
    rw [g2, t_le, t1]
    exact (str_b g1 kb.1 kb.2).1 s0
end DAYC
