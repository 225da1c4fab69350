/-! KINDS: what each answers, as one function; the class's calls and the reference's answer it. -/
def kDue (kd : Nat) (h : Int32) : Int32 := if kd = 1 then (if h < 12 then h else 12) else h
def kSum (kd : Nat) (m f : Int32) : Int32 := if kd = 4 then m + f + f else if kd = 5 then 0 + f + f else if kd = 7 then 2 * m + f else m + f
def kAbs (s : Int32) : Int32 := if s < 0 then -s else s
def kStr (kd : Nat) (fg s : Int32) : Int32 := if kd = 2 then kAbs s + fg else if kd = 3 then 2 * (kAbs s + fg) else kAbs s
def kBuys (kd : Nat) (l o : Int32) : Int32 := if kd = 3 then 0 else if kd = 6 ∨ kd = 7 then (if o ≤ l then 1 else 0) else (if o < l then 1 else 0)
def kMax0 (x : Int32) : Int32 := if 0 < x then x else 0
def kPrice (kd : Nat) (l r : Int32) : Int32 := if kd = 6 then (l * r + 3) / 4 / 2 else if kd = 7 then kMax0 ((l * r + 3) / 4 / 2 - 1) else (l * r + 3) / 4
def kFade (kd : Nat) (f : Int32) : Int32 := if kd = 2 ∨ kd = 3 then kMax0 (f - 1) else if kd = 7 then 2 * f else f
theorem k8 {kd : Nat} (h : kd < 8) : kd = 0 ∨ kd = 1 ∨ kd = 2 ∨ kd = 3 ∨ kd = 4 ∨ kd = 5 ∨ kd = 6 ∨ kd = 7 := by omega
section KINDS
variable {S : St} {q kd : Nat} {fg : Int32}
theorem V_due (hz : gq S q = some (kd, fg)) (hk : kd < 8) (a : Int32) : L_v_dueWhenTold q a S = some (kDue kd a) := by
  unfold L_v_dueWhenTold
  rw [hz]
  rcases k8 hk with rfl | rfl | rfl | rfl | rfl | rfl | rfl | rfl <;>
    simp [L_X7_dueWhenTold, b_X7_dueWhenTold_0, L_X0_dueWhenTold, b_X0_dueWhenTold_0, kDue, nm, hz]
theorem V_sum (hz : gq S q = some (kd, fg)) (hk : kd < 8) (a b : Int32) : L_v_sumOf q a b S = some (kSum kd a b) := by
  unfold L_v_sumOf
  rw [hz]
  rcases k8 hk with rfl | rfl | rfl | rfl | rfl | rfl | rfl | rfl <;>
    simp [L_X7_sumOf, b_X7_sumOf_0, L_X5_sumOf, b_X5_sumOf_0, L_X6_sumOf, b_X6_sumOf_0, L_X3_sumOf, b_X3_sumOf_0, kSum, hz]
theorem A_abs (s : Int32) : L_X7_strengthOf q s S = some (kAbs s) := by
  unfold L_X7_strengthOf b_X7_strengthOf_0 kAbs
  by_cases h : s < 0
  · have h2 : ¬ 0 ≤ s := Int32.not_le.mpr h
    simp [h, h2]
  · have h2 : 0 ≤ s := Int32.not_lt.mp h
    simp [h, h2]
theorem V_str (hz : gq S q = some (kd, fg)) (hk : kd < 8) (a : Int32) : L_v_strengthOf q a S = some (kStr kd fg a) := by
  unfold L_v_strengthOf
  rw [hz]
  rcases k8 hk with rfl | rfl | rfl | rfl | rfl | rfl | rfl | rfl <;>
    simp [A_abs, L_X4_strengthOf, b_X4_strengthOf_0, L_X9_strengthOf, b_X9_strengthOf_0, kStr, hz]
theorem V_fade (hz : gq S q = some (kd, fg)) (hk : kd < 8) (a : Int32) : L_v_fadeBy q a S = some (kFade kd a) := by
  unfold L_v_fadeBy
  rw [hz]
  rcases k8 hk with rfl | rfl | rfl | rfl | rfl | rfl | rfl | rfl <;>
    simp [L_X7_fadeBy, b_X7_fadeBy_0, L_X4_fadeBy, b_X4_fadeBy_0, L_X3_fadeBy, b_X3_fadeBy_0, kFade, kMax0, nm, hz]
theorem V_price (hz : gq S q = some (kd, fg)) (hk : kd < 8) (a b : Int32) : L_v_priceOf q a b S = some (kPrice kd a b) := by
  unfold L_v_priceOf
  rw [hz]
  rcases k8 hk with rfl | rfl | rfl | rfl | rfl | rfl | rfl | rfl <;>
    simp [L_X7_priceOf, b_X7_priceOf_0, L_X1_priceOf, b_X1_priceOf_0, L_X3_priceOf, b_X3_priceOf_0, kPrice, kMax0, nm, hz]
theorem A_buys (l o : Int32) : L_X7_buysOf q l o S = some (if o < l then 1 else 0) := by
  unfold L_X7_buysOf b_X7_buysOf_0
  by_cases h : o < l
  · have h2 : ¬ l ≤ o := Int32.not_le.mpr h
    simp [h, h2]
  · have h2 : l ≤ o := Int32.not_lt.mp h
    simp [h, h2]
theorem A_buysC (l o : Int32) : L_X1_buysOf q l o S = some (if o ≤ l then 1 else 0) := by
  unfold L_X1_buysOf b_X1_buysOf_0
  by_cases h : o ≤ l
  · have h2 : ¬ l < o := Int32.not_lt.mpr h
    simp [h, h2]
  · have h2 : l < o := Int32.not_le.mp h
    simp [h, h2]
theorem V_buys (hz : gq S q = some (kd, fg)) (hk : kd < 8) (l o : Int32) : L_v_buysOf q l o S = some (kBuys kd l o) := by
  unfold L_v_buysOf
  rw [hz]
  rcases k8 hk with rfl | rfl | rfl | rfl | rfl | rfl | rfl | rfl <;>
    simp [A_buys, A_buysC, L_X9_buysOf, b_X9_buysOf_0, kBuys]
end KINDS
