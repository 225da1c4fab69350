/-! PURE ROWS: what the lifts answer. -/
theorem lp_up {α β : Type} (body : α → Option (α ⊕ β)) (st : Nat → α) (m : Nat) (r : β) (hstep : ∀ k, k < m → body (st k) = some (.inl (st (k + 1)))) (hend : body (st m) = some (.inr r)) : ∀ n k, k ≤ m → m - k < n → lp n body (st k) = some r := by
  intro n
  induction n with
  | zero => intro k _ h; omega
  | succ n ih =>
    intro k hk hn
    rcases Nat.lt_or_ge k m with h | h
    · simp only [lp, hstep k h, Option.bind_some]
      exact ih (k + 1) h (by omega)
    · have e : k = m := by omega
      subst e
      simp only [lp, hend, Option.bind_some]
/-- a loop that may end before its bound -/
theorem lp_br {α β : Type} (body : α → Option (α ⊕ β)) (st : Nat → α) (m : Nat) (r : β) (hstep : ∀ k, k < m → body (st k) = some (.inl (st (k + 1)))) (hend : body (st m) = some (.inr r)) (n : Nat) (hn : m < n) : lp n body (st 0) = some r := lp_up body st m r hstep hend n 0 (Nat.zero_le _) (by omega)
theorem gd_t {α : Type} {b : Bool} {x : Option α} (h : b = true) : gd b x = x := by subst h; rfl
theorem inb_n {d n : Nat} (h : d < n) (hn : n < 2 ^ 31 := by decide) : inb (nI d) n = true := inb_nI h hn
theorem tn_n {d : Nat} (h : d < 2 ^ 31) : (nI d).toNatClampNeg = d := nI_clamp h
theorem nI_le_iff {a b : Nat} (ha : a < 2 ^ 31) (hb : b < 2 ^ 31) : nI a ≤ nI b ↔ a ≤ b := nI_leI ha hb
/-- what the facts 0 .. k-1 weigh that are there, of a case, known by an hour -/
def wsum (c h : Int32) (bit : Nat → Bool) (fc fw fh : Nat → Int32) : Nat → Int32
  | 0 => 0
  | k + 1 => wsum c h bit fc fw fh k + (if bit k = true ∧ fc k = c ∧ fh k ≤ h then fw k else 0)