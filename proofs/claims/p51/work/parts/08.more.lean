/-- a state (or a number) by its name -/
def nm {α β : Type} (x : α) (f : α → Option β) : Option β := f x
theorem ob_nm {α β γ : Type} {x : α} {f : α → Option β} {F : β → Option γ} {R : γ} (h : (nm x f).bind F = some R) : ∃ a, a = x ∧ (f a).bind F = some R := ⟨x, rfl, h⟩
theorem ob_mp {α β γ : Type} {x : Option β} {n : Nat} {body : α → Option (α ⊕ β)} {G : β → Option γ} {R : γ} (h : (x.map Sum.inr).bind (lpF n body G) = some R) : x.bind G = some R := by
  cases x with
  | none => cases h
  | some b => exact h
theorem ob_of {α : Type} {x : Option α} {R : α} (h : x = some R) : x.bind some = some R := by rw [h]; rfl
theorem bool_f {v : Int32} (h : (v == 0 || v == 1) = true) : fits .boolean (.int v) = true := by
  simp only [Bool.or_eq_true, beq_iff_eq] at h
  rcases h with rfl | rfl <;> rfl
abbrev fs11 (B : Nat) (S : St) : List Value := [.ref (B + 1), .ref (B + 19), .ref (B + 37), .int (gi S 0 3), .ref (B + 55), .ref (B + 66), .ref (B + 67), .ref (B + 68), .ref (B + 86), .ref (B + 128), .ref (B + 132)]
abbrev fs2 (B : Nat) (S : St) : List Value := [va_rf ((gr S 55 0).map (B + ·)), .int (gi S 55 1), .ref (B + 56), .ref (B + 57), .ref (B + 58), .ref (B + 59), .ref (B + 60), .ref (B + 61), .ref (B + 62), .ref (B + 63), .ref (B + 64), .ref (B + 65)]
abbrev fs10 (B t : Nat) (S : St) : List Value := [.int (gi S t 0), .ref (B + (t + 1)), .ref (B + (t + 3)), .ref (B + (t + 4)), .ref (B + (t + 5)), .ref (B + (t + 6)), .int (gi S t 6), .ref (B + (t + 7)), .ref (B + (t + 8)), .ref (B + (t + 9)), .ref (B + (t + 10)), .int (gi S t 11), .ref (B + (t + 11)), .ref (B + (t + 12)), .ref (B + (t + 13)), .ref (B + (t + 14)), .ref (B + (t + 15)), .ref (B + (t + 16)), .ref (B + (t + 17))]
abbrev fs8 (B w : Nat) (S : St) : List Value := [.int (gi S w 0), .int (gi S w 1), .ref (B + (w + 1))]
theorem put_11_3 (B : Nat) (S : St) (v : Int32) : fs11 B (si S 0 3 v) = (fs11 B S).set 3 (.int v) := by
  unfold fs11
  rw [gi_si_s]
  rfl
theorem put_2_0 (B : Nat) (S : St) (v : Nat) : fs2 B (sr S 55 0 (some v)) = (fs2 B S).set 0 (.ref (B + v)) := by
  unfold fs2
  rw [gr_sr_s]
  rfl
theorem put_2_1 (B : Nat) (S : St) (v : Int32) : fs2 B (si S 55 1 v) = (fs2 B S).set 1 (.int v) := by
  unfold fs2
  rw [gi_si_s]
  rfl
theorem put_10_0 (B t : Nat) (S : St) (v : Int32) : fs10 B t (si S t 0 v) = (fs10 B t S).set 0 (.int v) := by
  unfold fs10
  rw [gi_si_s]
  rfl
theorem put_10_6 (B t : Nat) (S : St) (v : Int32) : fs10 B t (si S t 6 v) = (fs10 B t S).set 6 (.int v) := by
  unfold fs10
  rw [gi_si_s]
  rfl
theorem put_10_11 (B t : Nat) (S : St) (v : Int32) : fs10 B t (si S t 11 v) = (fs10 B t S).set 11 (.int v) := by
  unfold fs10
  rw [gi_si_s]
  rfl
theorem put_8_0 (B w : Nat) (S : St) (v : Int32) : fs8 B w (si S w 0 v) = (fs8 B w S).set 0 (.int v) := by
  unfold fs8
  rw [gi_si_s]
  rfl
theorem put_8_1 (B w : Nat) (S : St) (v : Int32) : fs8 B w (si S w 1 v) = (fs8 B w S).set 1 (.int v) := by
  unfold fs8
  rw [gi_si_s]
  rfl
theorem sw_i {x y : Int32} (h : ¬ x = y) : ¬ x.toInt = y.toInt := fun e => h (Int32.toInt_inj.mp e)
theorem sw_0_5 {x : Int32} (h0 : ¬ x = 0) (h1 : ¬ x = 1) (h2 : ¬ x = 2) (h3 : ¬ x = 3) (h4 : ¬ x = 4) : x.toInt < 0 ∨ 4 < x.toInt := by
  have e0 : x.toInt ≠ 0 := fun e => h0 (Int32.toInt_inj.mp e)
  have e1 : x.toInt ≠ 1 := fun e => h1 (Int32.toInt_inj.mp e)
  have e2 : x.toInt ≠ 2 := fun e => h2 (Int32.toInt_inj.mp e)
  have e3 : x.toInt ≠ 3 := fun e => h3 (Int32.toInt_inj.mp e)
  have e4 : x.toInt ≠ 4 := fun e => h4 (Int32.toInt_inj.mp e)
  omega
theorem sw_0_7 {x : Int32} (h0 : ¬ x = 0) (h1 : ¬ x = 1) (h2 : ¬ x = 2) (h3 : ¬ x = 3) (h4 : ¬ x = 4) (h5 : ¬ x = 5) (h6 : ¬ x = 6) : x.toInt < 0 ∨ 6 < x.toInt := by
  have e0 : x.toInt ≠ 0 := fun e => h0 (Int32.toInt_inj.mp e)
  have e1 : x.toInt ≠ 1 := fun e => h1 (Int32.toInt_inj.mp e)
  have e2 : x.toInt ≠ 2 := fun e => h2 (Int32.toInt_inj.mp e)
  have e3 : x.toInt ≠ 3 := fun e => h3 (Int32.toInt_inj.mp e)
  have e4 : x.toInt ≠ 4 := fun e => h4 (Int32.toInt_inj.mp e)
  have e5 : x.toInt ≠ 5 := fun e => h5 (Int32.toInt_inj.mp e)
  have e6 : x.toInt ≠ 6 := fun e => h6 (Int32.toInt_inj.mp e)
  omega
theorem sw_0_8 {x : Int32} (h0 : ¬ x = 0) (h1 : ¬ x = 1) (h2 : ¬ x = 2) (h3 : ¬ x = 3) (h4 : ¬ x = 4) (h5 : ¬ x = 5) (h6 : ¬ x = 6) (h7 : ¬ x = 7) : x.toInt < 0 ∨ 7 < x.toInt := by
  have e0 : x.toInt ≠ 0 := fun e => h0 (Int32.toInt_inj.mp e)
  have e1 : x.toInt ≠ 1 := fun e => h1 (Int32.toInt_inj.mp e)
  have e2 : x.toInt ≠ 2 := fun e => h2 (Int32.toInt_inj.mp e)
  have e3 : x.toInt ≠ 3 := fun e => h3 (Int32.toInt_inj.mp e)
  have e4 : x.toInt ≠ 4 := fun e => h4 (Int32.toInt_inj.mp e)
  have e5 : x.toInt ≠ 5 := fun e => h5 (Int32.toInt_inj.mp e)
  have e6 : x.toInt ≠ 6 := fun e => h6 (Int32.toInt_inj.mp e)
  have e7 : x.toInt ≠ 7 := fun e => h7 (Int32.toInt_inj.mp e)
  omega
theorem sw_1_7 {x : Int32} (h0 : ¬ x = 1) (h1 : ¬ x = 2) (h2 : ¬ x = 3) (h3 : ¬ x = 4) (h4 : ¬ x = 5) (h5 : ¬ x = 6) (h6 : ¬ x = 7) : x.toInt < 1 ∨ 7 < x.toInt := by
  have e0 : x.toInt ≠ 1 := fun e => h0 (Int32.toInt_inj.mp e)
  have e1 : x.toInt ≠ 2 := fun e => h1 (Int32.toInt_inj.mp e)
  have e2 : x.toInt ≠ 3 := fun e => h2 (Int32.toInt_inj.mp e)
  have e3 : x.toInt ≠ 4 := fun e => h3 (Int32.toInt_inj.mp e)
  have e4 : x.toInt ≠ 5 := fun e => h4 (Int32.toInt_inj.mp e)
  have e5 : x.toInt ≠ 6 := fun e => h5 (Int32.toInt_inj.mp e)
  have e6 : x.toInt ≠ 7 := fun e => h6 (Int32.toInt_inj.mp e)
  omega
theorem sw_100_17 {x : Int32} (h0 : ¬ x = 100) (h1 : ¬ x = 101) (h2 : ¬ x = 102) (h3 : ¬ x = 103) (h4 : ¬ x = 104) (h5 : ¬ x = 105) (h6 : ¬ x = 106) (h7 : ¬ x = 107) (h8 : ¬ x = 108) (h9 : ¬ x = 109) (h10 : ¬ x = 110) (h11 : ¬ x = 111) (h12 : ¬ x = 112) (h13 : ¬ x = 113) (h14 : ¬ x = 114) (h15 : ¬ x = 115) (h16 : ¬ x = 116) : x.toInt < 100 ∨ 116 < x.toInt := by
  have e0 : x.toInt ≠ 100 := fun e => h0 (Int32.toInt_inj.mp e)
  have e1 : x.toInt ≠ 101 := fun e => h1 (Int32.toInt_inj.mp e)
  have e2 : x.toInt ≠ 102 := fun e => h2 (Int32.toInt_inj.mp e)
  have e3 : x.toInt ≠ 103 := fun e => h3 (Int32.toInt_inj.mp e)
  have e4 : x.toInt ≠ 104 := fun e => h4 (Int32.toInt_inj.mp e)
  have e5 : x.toInt ≠ 105 := fun e => h5 (Int32.toInt_inj.mp e)
  have e6 : x.toInt ≠ 106 := fun e => h6 (Int32.toInt_inj.mp e)
  have e7 : x.toInt ≠ 107 := fun e => h7 (Int32.toInt_inj.mp e)
  have e8 : x.toInt ≠ 108 := fun e => h8 (Int32.toInt_inj.mp e)
  have e9 : x.toInt ≠ 109 := fun e => h9 (Int32.toInt_inj.mp e)
  have e10 : x.toInt ≠ 110 := fun e => h10 (Int32.toInt_inj.mp e)
  have e11 : x.toInt ≠ 111 := fun e => h11 (Int32.toInt_inj.mp e)
  have e12 : x.toInt ≠ 112 := fun e => h12 (Int32.toInt_inj.mp e)
  have e13 : x.toInt ≠ 113 := fun e => h13 (Int32.toInt_inj.mp e)
  have e14 : x.toInt ≠ 114 := fun e => h14 (Int32.toInt_inj.mp e)
  have e15 : x.toInt ≠ 115 := fun e => h15 (Int32.toInt_inj.mp e)
  have e16 : x.toInt ≠ 116 := fun e => h16 (Int32.toInt_inj.mp e)
  omega
