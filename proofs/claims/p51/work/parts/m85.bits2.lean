/-! Bits of choices: whoDiffers, bitCount, sets of people. -/
theorem bts_congr {f g : Nat → Bool} : ∀ {n : Nat}, (∀ k, k < n → f k = g k) → bts f n = bts g n := by
  intro n
  induction n with
  | zero => intro _; rfl
  | succ n ih =>
    intro h
    simp only [bts, ih (fun k hk => h k (by omega)), h n (by omega)]
theorem cnt_congr {f g : Nat → Bool} : ∀ {n : Nat}, (∀ k, k < n → f k = g k) → cnt f n = cnt g n := by
  intro n
  induction n with
  | zero => intro _; rfl
  | succ n ih =>
    intro h
    simp only [cnt, ih (fun k hk => h k (by omega)), h n (by omega)]
theorem pad_on (f : Nat → Bool) (n : Nat) : ∀ j, bts (fun k => decide (k < n) && f k) (n + j) = bts f n ∧ cnt (fun k => decide (k < n) && f k) (n + j) = cnt f n := by
  intro j
  induction j with
  | zero => exact ⟨bts_congr (fun k (hk : k < n) => by show (decide (k < n) && f k) = f k; rw [decide_eq_true hk]; rfl), cnt_congr (fun k (hk : k < n) => by show (decide (k < n) && f k) = f k; rw [decide_eq_true hk]; rfl)⟩
  | succ j ih =>
    have e : (decide (n + j < n) && f (n + j)) = false := by
      rw [decide_eq_false (show ¬ n + j < n by omega)]
      rfl
    refine ⟨?_, ?_⟩
    · show (if (decide (n + j < n) && f (n + j)) then _ else _) = _
      rw [e, if_neg (by decide)]; exact ih.1
    · show (if (decide (n + j < n) && f (n + j)) then _ else _) = _
      rw [e, if_neg (by decide)]; exact ih.2
theorem bts_pad (f : Nat → Bool) {n : Nat} (h : n ≤ 8) : bts f n = bts (fun k => decide (k < n) && f k) 8 ∧ cnt f n = cnt (fun k => decide (k < n) && f k) 8 := by
  have := pad_on f n (8 - n)
  rw [show n + (8 - n) = 8 by omega] at this
  exact ⟨this.1.symm, this.2.symm⟩
def fb8 (b0 b1 b2 b3 b4 b5 b6 b7 : Bool) : Nat → Bool := fun k => match k with
  | 0 => b0
  | 1 => b1
  | 2 => b2
  | 3 => b3
  | 4 => b4
  | 5 => b5
  | 6 => b6
  | _ => b7
def S00 : St := (fun _ _ => 0, fun _ _ => 0, fun _ _ => none, fun _ => none, 0)
theorem bc_S (x : Int32) (S : St) : L_J6_bitCount_0f7a4 x S = L_J6_bitCount_0f7a4 x S00 := rfl
theorem bc8 : ∀ b0 b1 b2 b3 b4 b5 b6 b7 : Bool, L_J6_bitCount_0f7a4 (bts (fb8 b0 b1 b2 b3 b4 b5 b6 b7) 8) S00 = some (cnt (fb8 b0 b1 b2 b3 b4 b5 b6 b7) 8) := by decide +kernel
theorem A_bc (f : Nat → Bool) {n : Nat} (h : n ≤ 8) (S : St) : L_J6_bitCount_0f7a4 (bts f n) S = some (cnt f n) := by
  rw [bc_S, (bts_pad f h).1, (bts_pad f h).2]
  generalize (fun k => decide (k < n) && f k) = g
  have e : ∀ k, k < 8 → g k = fb8 (g 0) (g 1) (g 2) (g 3) (g 4) (g 5) (g 6) (g 7) k := by
    intro k hk
    rcases (show k = 0 ∨ k = 1 ∨ k = 2 ∨ k = 3 ∨ k = 4 ∨ k = 5 ∨ k = 6 ∨ k = 7 by omega) with rfl | rfl | rfl | rfl | rfl | rfl | rfl | rfl <;> rfl
  rw [bts_congr e, cnt_congr e]
  exact bc8 _ _ _ _ _ _ _ _
theorem bt_bts (f : Nat → Bool) : ∀ n, n ≤ 32 → ∀ i, i < 32 → bt (bts f n) i = (decide (i < n) && f i) := by
  intro n
  induction n with
  | zero => intro _ i _; rw [show bts f 0 = 0 from rfl, bt_0]; simp
  | succ n ih =>
    intro hn i hi
    have h := ih (by omega) i hi
    show bt (if f n then bts f n ||| ((1 : Int32) <<< (nI n &&& 31)) else bts f n) i = _
    by_cases e : f n = true
    · rw [if_pos e, bt_or, h, bt_1shl (by omega) i hi]
      by_cases z : i = n
      · subst z; simp [e]
      · have : (i < n + 1) ↔ i < n := by omega
        simp [z, this]
    · rw [if_neg e, h]
      by_cases z : i = n
      · subst z; simp [e]
      · have : (i < n + 1) ↔ i < n := by omega
        simp [this]
def isC (s : Int32) : Prop := s = 1 ∨ s = 0 ∨ s = -1
theorem told_b {s : Int32} (h : isC s) : ∀ j, 2 ≤ j → j < 32 → bt (kTold s) j = false := by
  have a : ∀ j : Fin 32, 2 ≤ j.val → bt 1 j.val = false ∧ bt 0 j.val = false ∧ bt 2 j.val = false := by decide +kernel
  intro j h1 h2
  obtain ⟨a1, a2, a3⟩ := a ⟨j, h2⟩ h1
  rcases h with rfl | rfl | rfl
  · exact a1
  · exact a2
  · exact a3
theorem bt_chs {f : Nat → Int32} : ∀ n, n ≤ 8 → (∀ p, p < n → isC (f p)) → ∀ i, i < 32 → bt (chs f n) i = (decide (i / 2 < n) && bt (kTold (f (i / 2))) (i % 2)) := by
  intro n
  induction n with
  | zero => intro _ _ i _; rw [show chs f 0 = 0 from rfl, bt_0]; simp
  | succ n ih =>
    intro hn hc i hi
    have h := ih (by omega) (fun p hp => hc p (by omega)) i hi
    show bt (chs f n ||| (kTold (f n) <<< ((2 * nI n) &&& 31))) i = _
    rw [show (2 : Int32) * nI n = nI (2 * n) from by
      have a : ∀ k : Fin 8, (2 : Int32) * nI k.val = nI (2 * k.val) := by decide
      exact a ⟨n, by omega⟩, bt_or, h, bt_shl _ (show 2 * n < 32 by omega) i hi]
    rcases Nat.lt_trichotomy (i / 2) n with z | z | z
    · have e1 : ¬ 2 * n ≤ i := by omega
      have e2 : i / 2 < n + 1 := by omega
      simp [z, e1, e2]
    · have e1 : 2 * n ≤ i := by omega
      have e2 : i - 2 * n = i % 2 := by omega
      simp [z, e1, e2]
    · have e1 : 2 * n ≤ i := by omega
      have e2 : ¬ i / 2 < n := by omega
      have e3 : ¬ i / 2 < n + 1 := by omega
      rw [told_b (hc n (by omega)) (i - 2 * n) (by omega) (by omega)]
      simp [e2, e3]
theorem told_eq {s r : Int32} (hs : isC s) (hr : isC r) : s = r ↔ bt (kTold s) 0 = bt (kTold r) 0 ∧ bt (kTold s) 1 = bt (kTold r) 1 := by
  rcases hs with rfl | rfl | rfl <;> rcases hr with rfl | rfl | rfl <;> decide
theorem and_3 (x : Int32) {k : Nat} (hk : k < 8) : (x >>> ((2 * nI k) &&& 31)) &&& 3 = 0 ↔ bt x (2 * k) = false ∧ bt x (2 * k + 1) = false := by
  rw [show (2 : Int32) * nI k = nI (2 * k) from by
      have a : ∀ k : Fin 8, (2 : Int32) * nI k.val = nI (2 * k.val) := by decide
      exact a ⟨k, hk⟩]
  have b3 : ∀ j : Fin 32, bt 3 j.val = decide (j.val < 2) := by decide +kernel
  constructor
  · intro h
    have h0 : bt ((x >>> (nI (2 * k) &&& 31)) &&& 3) 0 = false := by rw [h]; exact bt_0 0
    have h1 : bt ((x >>> (nI (2 * k) &&& 31)) &&& 3) 1 = false := by rw [h]; exact bt_0 1
    rw [bt_and, bt_shr x (by omega) 0 (by omega), b3 ⟨0, by decide⟩] at h0
    rw [bt_and, bt_shr x (by omega) 1 (by omega), b3 ⟨1, by decide⟩] at h1
    simp at h0 h1
    refine ⟨h0, ?_⟩
    rw [Nat.add_comm]; exact h1
  · intro h
    apply bt_ext
    intro j hj
    rw [bt_0, bt_and, b3 ⟨j, hj⟩]
    by_cases z : j < 2
    · rcases (show j = 0 ∨ j = 1 by omega) with rfl | rfl
      · rw [bt_shr x (by omega) 0 (by omega), Nat.zero_add, h.1]; rfl
      · rw [bt_shr x (by omega) 1 (by omega), Nat.add_comm, h.2]; rfl
    · simp [z]
theorem A_who {f g : Nat → Int32} {n : Nat} (hn : n ≤ 8) (hf : ∀ p, p < n → isC (f p)) (hg : ∀ p, p < n → isC (g p)) (S : St) : L_X11_whoDiffers (chs f n) (chs g n) S = some (bts (fun p => decide (f p ≠ g p)) n) := by
  rw [(bts_pad _ hn).1]
  unfold L_X11_whoDiffers b_X11_whoDiffers_0
  refine lp_br _ (fun k => (chs f n, chs g n, bts (fun k => decide (k < n) && decide (f k ≠ g k)) k, nI k)) 8 _ (fun k hk => ?_) ?_ 1000 (by omega)
  · have e1 : ¬ (8 : Int32) ≤ nI k := nI_ge (b := 8) hk (by decide)
    have key : ((chs f n ^^^ chs g n) >>> ((2 * nI k) &&& 31)) &&& 3 = 0 ↔ ¬ (k < n ∧ f k ≠ g k) := by
      rw [and_3 _ hk, bt_xor, bt_xor, bt_chs n hn hf _ (by omega), bt_chs n hn hg _ (by omega), bt_chs n hn hf _ (by omega), bt_chs n hn hg _ (by omega)]
      rw [show 2 * k / 2 = k by omega, show (2 * k + 1) / 2 = k by omega, show 2 * k % 2 = 0 by omega, show (2 * k + 1) % 2 = 1 by omega]
      by_cases z : k < n
      · have := told_eq (hf k z) (hg k z)
        simp only [z, decide_true, Bool.true_and, true_and, ne_eq, Classical.not_not, this]
        cases bt (kTold (f k)) 0 <;> cases bt (kTold (g k)) 0 <;> cases bt (kTold (f k)) 1 <;> cases bt (kTold (g k)) 1 <;> simp
      · simp [z]
    simp only [l_X11_whoDiffers_4, b_X11_whoDiffers_4, b_X11_whoDiffers_28, if_neg e1, nI_1, bts]
    by_cases z : k < n ∧ f k ≠ g k
    · have e : (decide (k < n) && decide (f k ≠ g k)) = true := by simp [z]
      rw [if_neg (fun y => key.mp y z), if_pos e]
    · have e : ¬ (decide (k < n) && decide (f k ≠ g k)) = true := by
        simp only [Bool.and_eq_true, decide_eq_true_eq]
        exact z
      rw [if_pos (key.mpr z), if_neg e]
  · simp only [l_X11_whoDiffers_4, b_X11_whoDiffers_4, if_pos (show (8 : Int32) ≤ nI 8 by decide)]
/-- a set of people, told as an int -/
theorem set_bits {s : Int32} {n : Nat} (hn : n ≤ 8) (h : 0 ≤ s ∧ s ≤ ((1 : Int32) <<< (nI n &&& 31)) - 1) : ∀ i, n ≤ i → i < 32 → bt s i = false := by
  obtain ⟨k, k1, k2⟩ := nI_of (Int32.not_lt.mpr h.1)
  have e : ∀ n : Fin 9, ((1 : Int32) <<< (nI n.val &&& 31)) - 1 = nI (2 ^ n.val - 1) := by decide
  have e2 := h.2
  have p8 : 2 ^ n ≤ 2 ^ 8 := Nat.pow_le_pow_right (by decide) hn
  have p1 : 0 < 2 ^ n := Nat.pow_pos (by decide)
  rw [show ((1 : Int32) <<< (nI n &&& 31)) - 1 = nI (2 ^ n - 1) from e ⟨n, by omega⟩, k2] at e2
  have e3 := (nI_leI k1 (show 2 ^ n - 1 < 2 ^ 31 by omega)).mp e2
  intro i h1 h2
  rw [k2]
  unfold bt
  show (BitVec.ofNat 32 k).getLsbD i = false
  rw [BitVec.getLsbD_ofNat]
  have : k.testBit i = false := Nat.testBit_lt_two_pow (Nat.lt_of_lt_of_le (show k < 2 ^ n by omega) (Nat.pow_le_pow_right (by decide) h1))
  rw [this]
  simp
theorem set_sub {s : Int32} {n : Nat} (hn : n ≤ 8) (h : 0 ≤ s ∧ s ≤ ((1 : Int32) <<< (nI n &&& 31)) - 1) (f : Nat → Bool) : (bts f n) &&& s = s ↔ ∀ p, p < n → bt s p = true → f p = true := by
  have hs := set_bits hn h
  constructor
  · intro e p hp hb
    have : bt (bts f n &&& s) p = bt s p := by rw [e]
    rw [bt_and, bt_bts f n (by omega) p (by omega), hb] at this
    simpa [hp] using this
  · intro e
    apply bt_ext
    intro i hi
    rw [bt_and, bt_bts f n (by omega) i hi]
    rcases Nat.lt_or_ge i n with z | z
    · cases hb : bt s i with
      | true => simp [z, e i z hb]
      | false => simp
    · rw [hs i z hi]; simp
theorem set_no {s : Int32} {n : Nat} (hn : n ≤ 8) (f : Nat → Bool) : (bts f n) &&& s = 0 ↔ ∀ p, p < n → ¬ (bt s p = true ∧ f p = true) := by
  constructor
  · intro e p hp hb
    have : bt (bts f n &&& s) p = false := by rw [e]; exact bt_0 p
    rw [bt_and, bt_bts f n (by omega) p (by omega), hb.1, hb.2] at this
    simp [hp] at this
  · intro e
    apply bt_ext
    intro i hi
    rw [bt_0, bt_and, bt_bts f n (by omega) i hi]
    rcases Nat.lt_or_ge i n with z | z
    · have := e i z
      cases hb : bt s i with
      | true =>
        cases hf : f i with
        | true => exact absurd ⟨hb, hf⟩ this
        | false => simp
      | false => simp
    · have : ¬ i < n := by omega
      simp [this]
theorem cnt_0 {f : Nat → Bool} {n : Nat} (hn : n < 2 ^ 31) : cnt f n = 0 ↔ ∀ p, p < n → f p = false := by
  have a : ∀ n, ncn f n = 0 ↔ ∀ p, p < n → f p = false := by
    intro n
    induction n with
    | zero => exact ⟨fun _ p h => absurd h (Nat.not_lt_zero p), fun _ => rfl⟩
    | succ n ih =>
      show ncn f n + (if f n then 1 else 0) = 0 ↔ _
      constructor
      · intro h p hp
        have h1 : ncn f n = 0 := by omega
        rcases Nat.eq_or_lt_of_le (Nat.le_of_lt_succ hp) with z | z
        · subst z
          cases e : f p with
          | true => rw [e] at h; simp at h
          | false => rfl
        · exact ih.mp h1 p z
      · intro h
        rw [ih.mpr (fun p hp => h p (by omega)), h n (by omega)]
        rfl
  rw [cnt_n, ← a n]
  have : ncn f n ≤ n := ncn_le _ _
  rw [show (0 : Int32) = nI 0 from rfl, nI_eq (by omega) (by omega)]
