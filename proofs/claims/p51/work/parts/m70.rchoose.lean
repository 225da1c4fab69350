section RCHOOSE
variable {S : St} {T : TT} {bit : Nat → Bool} {sh : Bool} {D : Nat → Nat → Int32} {h p : Nat}
def sBk (sh : Bool) (T : TT) (D : Nat → Nat → Int32) (p : Nat) (own hr : Int32) (k : Nat) : Int32 × Int32 × Int32 := if sh then (-4, 0, 0) else sBest T D p own hr k
theorem sBk_of (k : Nat) (own hr : Int32) : sBk sh T D p own hr k = (-4, 0, 0) ∨ ∃ u, u < k ∧ sBk sh T D p own hr k = (nI u, sLeft D u hr, sPrice T D u hr) ∧ sSale T D u hr = true := by
  unfold sBk
  cases sh with
  | true => rw [if_pos rfl]; exact Or.inl rfl
  | false =>
    rw [if_neg (by decide)]
    exact (best_of T D p own hr k).imp id (fun ⟨u, a, b, c, _⟩ => ⟨u, a, b, c⟩)
end RCHOOSE
