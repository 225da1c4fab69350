/-! Bits of ints. -/
def bt (x : Int32) (j : Nat) : Bool := x.toBitVec.getLsbD j
theorem bt_and (x y : Int32) (j : Nat) : bt (x &&& y) j = (bt x j && bt y j) := by unfold bt; simp
theorem bt_or (x y : Int32) (j : Nat) : bt (x ||| y) j = (bt x j || bt y j) := by unfold bt; simp
theorem bt_xor (x y : Int32) (j : Nat) : bt (x ^^^ y) j = (bt x j ^^ bt y j) := by unfold bt; simp
theorem bt_ext {x y : Int32} (h : ∀ j, j < 32 → bt x j = bt y j) : x = y := by
  apply Int32.toBitVec_inj.mp
  apply BitVec.eq_of_getLsbD_eq
  intro i hi
  exact h i hi
theorem bt_m1 {j : Nat} (h : j < 32) : bt (-1) j = true := by
  unfold bt
  rw [show (-1 : Int32).toBitVec = BitVec.allOnes 32 by decide, BitVec.getLsbD_allOnes]
  exact decide_eq_true h
theorem bt_0 (j : Nat) : bt 0 j = false := by
  unfold bt
  rw [show (0 : Int32).toBitVec = 0#32 by decide]
  simp
theorem bt_1 (j : Nat) : bt 1 j = decide (j = 0) := by
  unfold bt
  rw [show (1 : Int32).toBitVec = 1#32 by decide]
  simp
theorem sh_n {j : Nat} (h : j < 32) : ((nI j &&& 31).toBitVec.smod 32).toNat = j := by
  have : ∀ k : Fin 32, ((nI k.val &&& 31).toBitVec.smod 32).toNat = k.val := by decide
  exact this ⟨j, h⟩
theorem bt_shl (x : Int32) {k : Nat} (hk : k < 32) (j : Nat) (hj : j < 32) : bt (x <<< (nI k &&& 31)) j = (decide (k ≤ j) && bt x (j - k)) := by
  have hs := sh_n hk
  unfold bt
  rw [Int32.toBitVec_shiftLeft]
  generalize (nI k &&& 31).toBitVec.smod 32 = s at hs ⊢
  rw [BitVec.shiftLeft_eq', hs, BitVec.getLsbD_shiftLeft]
  rcases Nat.lt_or_ge j k with h | h
  · have : ¬ k ≤ j := by omega
    simp [h, this]
  · have : ¬ j < k := by omega
    simp [h, this, hj]
theorem bt_shr (x : Int32) {k : Nat} (hk : k < 32) (j : Nat) (hj : j + k < 32) : bt (x >>> (nI k &&& 31)) j = bt x (j + k) := by
  have hs := sh_n hk
  unfold bt
  rw [Int32.toBitVec_shiftRight]
  generalize (nI k &&& 31).toBitVec.smod 32 = s at hs ⊢
  unfold BitVec.sshiftRight'
  rw [hs, BitVec.getLsbD_sshiftRight, Nat.add_comm k j]
  have : j < 32 := by omega
  simp [this, hj]
theorem bit_of (x : Int32) {k : Nat} (hk : k < 32) : (x >>> (nI k &&& 31)) &&& 1 = if bt x k then 1 else 0 := by
  apply bt_ext
  intro j hj
  rw [bt_and, bt_1]
  rcases Nat.eq_zero_or_pos j with z | z
  · subst z
    rw [bt_shr x hk 0 (by omega), Nat.zero_add]
    cases bt x k <;> simp [bt_0, bt_1]
  · have : j ≠ 0 := by omega
    cases bt x k <;> simp [bt_0, bt_1, this]
theorem bit_b {x : Int32} {k : Nat} {b : Bool} (hk : k < 32) : (x >>> (nI k &&& 31)) &&& 1 = (if b then 1 else 0) ↔ bt x k = b := by
  rw [bit_of x hk]
  cases bt x k <;> cases b <;> simp
theorem bt_1shl {k : Nat} (hk : k < 32) (j : Nat) (hj : j < 32) : bt ((1 : Int32) <<< (nI k &&& 31)) j = decide (j = k) := by
  rw [bt_shl 1 hk j hj, bt_1]
  rw [Bool.eq_iff_iff]
  simp
  omega
theorem bt_not (x : Int32) {j : Nat} (hj : j < 32) : bt (~~~ x) j = !bt x j := by
  unfold bt
  rw [Int32.toBitVec_not]
  simp [hj]
