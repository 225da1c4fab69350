/-! Calls that run days: the frames of both sides; the first of them. -/
def CE (S0 X : St) (T : TT) : Prop := UpD S0 X ∧ WT T ∧ repC X 19 T
section RUNS2
variable {S S0 X : St} {T : TT} {m : Option TT × (Nat → Sh)}
theorem CE_0 (c : IC S (T, m)) : ∃ X, L_X10_become 19 1 S = some X ∧ CE S X T := by
  obtain ⟨X, x1, x2, x3, -⟩ := C_become (t := 19) (u := 1) (Or.inl (by decide)) c.2.2.2.1 c.2.1 c.2.2.1
  exact ⟨X, x1, UpD_FT x2, c.2.1, x3⟩
theorem CE_go (h : CE S0 X T) : ∃ Y, L_X2_run 19 (-1) X = some Y ∧ CE S0 Y T ∧ DC Y 19 T tt ∧ ∀ a, ¬ PD a → gi Y a = gi X a := by
  obtain ⟨Y, y1, y2, y3, y4, -⟩ := C_go (t := 19) (Or.inr (Or.inl rfl)) h.2.1 h.2.2 bits_m1
  exact ⟨Y, y1, ⟨UpD_tr h.1 y2, h.2.1, (C_W y3).2.2.2.2.2.2⟩, y3, y4⟩
theorem CE_put (h : CE S0 X T) {r i : Nat} {v : Int32} (hr : 1 ≤ r ∧ r ≤ 13 ∨ r = 15) (ok : okV r i v) : CE S0 (si X (19 + 2 + r) i v) (wF T r i v) :=
  ⟨UpD_si (by omega) h.1 i v, WT_put h.2.1 ok, repC_put (Or.inr (Or.inl rfl)) h.2.2 hr i v⟩
def aSums (T : TT) (D : Nat → Nat → Int32) (v : Int32) : Int32 := if v = 0 then cnt (fun p => decide (D 1 p = 1)) (tn T) else if v = 1 then cnt (fun p => decide (D 1 p = -1)) (tn T) else if v = 2 then cnt (fun p => decide (D 1 p = 0)) (tn T) else if v = 3 then cnt (fun p => decide (0 ≤ D 2 p)) (tn T) else if v = 4 then sm (D 3) (tn T) else cnt (fun p => decide (D 4 p ≠ 0)) (tn T)
end RUNS2
