/-! keep, put, copy. -/
def nar (q : Nat) (v : Int32) : Int32 := if q = 0 then v.toInt8.toInt32 else if q = 1 then v.toInt16.toInt32 else v
section SHELF2
variable {S S' X : St} {T : TT} {im : Option TT} {sh : Nat → Sh} {d : Nat}
theorem C_one (h : 183 ≤ tp S) {k : Nat} (hk : k < 8) (fg : Int32) : L_X11_oneOfKind (nI k) fg S = some (tp S, sp S k fg) := by
  unfold L_X11_oneOfKind
  rw [gd_t (decide_eq_true h)]
  rcases k8 hk with rfl | rfl | rfl | rfl | rfl | rfl | rfl | rfl <;> rfl
theorem gq_new (h : 183 ≤ tp S) (k : Nat) (fg : Int32) : gq (sp S k fg) (tp S) = some (k, fg) := by
  unfold gq isPlB
  rw [decide_eq_true h]
  simp only [Bool.true_or, if_true]
  exact if_pos rfl
theorem gp_old (k : Nat) (fg : Int32) {q : Nat} (h : q < tp S) : gp (sp S k fg) q = gp S q := if_neg (show ¬ q = tp S by omega)
theorem hp_1 {w n j : Nat} (hn : gi S w 1 = nI n) (h : n ≤ 100) (hj : j < n) : L_X8_hasPlaces w (nI j) 1 S = some 1 := by
  unfold L_X8_hasPlaces b_X8_hasPlaces_0
  rw [if_neg (nI_pos (by omega)), if_neg (by decide), hn, if_neg (nI_nlt (by omega) (by omega)), pk_sub (by omega), if_neg (show ¬ nI (n - j) < 1 from nI_nlt (a := n - j) (b := 1) (by omega) (by omega))]
theorem hp_0 {w n : Nat} {i : Int32} (hn : gi S w 1 = nI n) (h : n ≤ 100) (bad : i < 0 ∨ nI n ≤ i) : L_X8_hasPlaces w i 1 S = some 0 := by
  unfold L_X8_hasPlaces b_X8_hasPlaces_0 b_X8_hasPlaces_30
  by_cases z : i < 0
  · rw [if_pos z]
  · rw [if_neg z, if_neg (by decide), hn]
    by_cases y : nI n < i
    · rw [if_pos y]
    · have e : i = nI n := Int32.le_antisymm (Int32.not_lt.mp y) (bad.resolve_left z)
      rw [if_neg y, e, Int32.sub_self, if_pos (by decide)]
theorem row_1 {d n j : Nat} (hn : gi S (70 + 2 * d) 1 = nI n) (h : n ≤ 100) (hj : j < n) : L_X8_at (70 + 2 * d) (nI j) S = some (gi S (71 + 2 * d) j) := by
  unfold L_X8_at b_X8_at_0
  rw [hp_1 hn h hj, Option.bind_some, if_neg (by decide), gd_t (inb_n (show j < 100 by omega)), tn_n (show j < 2 ^ 31 by omega), show 70 + 2 * d + 1 = 71 + 2 * d by omega]
theorem row_0 {d n : Nat} {i : Int32} (hn : gi S (70 + 2 * d) 1 = nI n) (h : n ≤ 100) (bad : i < 0 ∨ nI n ≤ i) : L_X8_at (70 + 2 * d) i S = some 0 := by
  unfold L_X8_at b_X8_at_0
  rw [hp_0 hn h bad, Option.bind_some, if_pos rfl]
end SHELF2
