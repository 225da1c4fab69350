section CALLS2
variable {S : St} {T : TT} {m : Option TT × (Nat → Sh)}
theorem IC_1 (c : IC S (T, m)) : WT T ∧ repC S 1 T := ⟨c.2.1, c.2.2.1⟩
def aPerson (T : TT) (j : Nat) (v : Int32) : Int32 := if v = 0 then nI (tK T j) else if v = 1 then tF T 0 j else if v = 2 then tF T 1 j else if v = 3 then tF T 2 j else if v = 4 then sDue T j else if v = 5 then tF T 4 j else if v = 6 then tF T 3 j + 9 else -1
def aAbout (T : TT) (j : Nat) (v : Int32) : Int32 := if v = 0 then tF T 5 j else if v = 1 then tF T 6 j + 9 else if v = 2 then tF T 7 j else if v = 3 then tF T 8 j else -1
theorem in_of {v : Int32} {n : Nat} {l : Int32} (hl : l = nI n) (hn : n < 2 ^ 31) (h : (0 : Int32) ≤ v ∧ v ≤ l) : ∃ c, c < n + 1 ∧ v = nI c := by
  obtain ⟨j, h1, h2⟩ := nI_of (Int32.not_lt.mpr h.1)
  refine ⟨j, ?_, h2⟩
  have h3 := h.2
  rw [h2, hl] at h3
  have := (nI_leI h1 hn).mp h3
  omega
end CALLS2
