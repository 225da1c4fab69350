/-! The reference's day: what it holds in the middle. -/
/-- a thought that is for sale before the hour h -/
def vN (D : Nat → Nat → Int32) (h u : Nat) : Prop := D 4 u ≠ 0 ∧ ∃ d, d < 24 ∧ D 6 u = nI d ∧ d < h
def sCoins (T : TT) (D : Nat → Nat → Int32) (p : Nat) (hr : Int32) : Int32 := (if sDue T p ≤ hr then tF T 4 p - D 3 p else tF T 4 p) + (if 0 ≤ D 8 p ∧ sDue T (D 8 p).toNatClampNeg ≤ hr then D 3 (D 8 p).toNatClampNeg else 0)
def sCan (T : TT) (D : Nat → Nat → Int32) (p : Nat) (own h : Int32) (u : Nat) : Bool := sSale T D u h && decide (tF T 14 (4 * (tF T 1 p).toNatClampNeg + (sCase T u).toNatClampNeg) ≠ 0) && decide (kBuys (tK T p) (sLeft D u h) own ≠ 0) && decide (sPrice T D u h ≤ tF T 4 p)
theorem i_23 {d : Nat} (h : nI d ≤ 23) (hd : d < 100) : d < 24 := by
  rcases Nat.lt_or_ge d 24 with q | q
  · exact q
  · exact absurd h (nI_ge (b := d) (a := 23) (by omega) (by omega))
theorem at_n {T : TT} (hW : WT T) {p : Nat} (hp : p < tn T) : ∃ d, d < 25 ∧ sAt T p = nI d ∧ ∀ e, sDue T p = nI e → e < 24 → e < d := by
  obtain ⟨e, he, hd⟩ := due_n hW hp
  obtain ⟨o, ho, eo⟩ := hW.2.2.2.2.2.2.2.2.1
  unfold sAt
  rw [hd, eo, nI_1]
  rcases Nat.lt_or_ge o (e + 1) with q | q
  · rw [if_pos (nI_lt q (by omega))]
    refine ⟨e + 1, by omega, rfl, fun e' h1 h2 => ?_⟩
    have : e = e' := (nI_eq (by omega) (by omega)).mp h1
    omega
  · rw [if_neg (nI_nlt q (by omega))]
    refine ⟨o, by omega, rfl, fun e' h1 h2 => ?_⟩
    have : e = e' := (nI_eq (by omega) (by omega)).mp h1
    omega
section RLEAF
variable {S : St} {T : TT} {bit : Nat → Bool} {sh : Bool} {D : Nat → Nat → Int32} {h k p u : Nat}
theorem DI_of (hW : WT T) (I : DI T bit D h k) (hu : u < 11) (hs : D 4 u ≠ 0) : (u < 8 → u < tn T ∧ D 7 u = kFade (tK T u) (tF T 15 1)) ∧ (8 ≤ u → u - 8 < tk T ∧ D 7 u = tF T 15 1) ∧ ∃ d, d < 24 ∧ D 6 u = nI d := by
  obtain ⟨i1, i2, i3, i4, i5⟩ := I
  rcases Nat.lt_or_ge u 8 with q | q
  · have hd : u < tn T ∧ sDone T h k u := Classical.byContradiction fun z => hs (i2 u q z)
    obtain ⟨c1, c2⟩ := i1 u hd.1 hd.2
    have hT : sTurns T bit D u = true := by
      cases e : sTurns T bit D u with
      | true => rfl
      | false => rw [e] at c1; exact absurd c1 hs
    obtain ⟨-, c6, c7⟩ := c2 hT
    refine ⟨fun _ => ⟨hd.1, c7⟩, fun z => by omega, ?_⟩
    obtain ⟨d, d1, d2, -⟩ := at_n hW hd.1
    refine ⟨d, i_23 ?_ (by omega), c6.trans d2⟩
    unfold sTurns at hT
    simp only [Bool.and_eq_true, decide_eq_true_eq] at hT
    rw [← d2]
    exact hT.1.1
  · have c := i3 (u - 8) (by omega)
    rw [show 8 + (u - 8) = u by omega] at c
    by_cases hk : u - 8 < tk T
    · rw [if_pos hk] at c
      obtain ⟨d, d1, d2⟩ := (hW.2.2.2.2.2.1 (u - 8) hk).2.2.2.2
      exact ⟨fun z => by omega, fun _ => ⟨hk, c.2.2.2⟩, d, d1, c.2.2.1.trans d2⟩
    · rw [if_neg hk] at c
      exact absurd c hs
theorem vN_iff (hW : WT T) (I : DI T bit D h k) (hu : u < 11) {e : Nat} (he : e < 24) : vN D (e + 1) u ↔ D 4 u ≠ 0 ∧ D 6 u ≤ nI e := by
  constructor
  · rintro ⟨c, d, d1, d2, d3⟩
    exact ⟨c, by rw [d2]; exact nI_le (by omega) (by omega)⟩
  · rintro ⟨c, c2⟩
    obtain ⟨-, -, d, d1, d2⟩ := DI_of hW I hu c
    refine ⟨c, d, d1, d2, ?_⟩
    rw [d2] at c2
    have := (nI_leI (by omega) (by omega)).mp c2
    omega
end RLEAF
