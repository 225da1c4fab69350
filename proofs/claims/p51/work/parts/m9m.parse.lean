/-! Texts: what STATEMENTS they hold, where they go wrong; the class finds it. -/
def chW (w : Nat → Int32) (n i : Nat) : Int32 := if i < n then w i else 0
def shW (w : Nat → Int32) (n p : Nat) : Nat := shp (chW w n p)
def slz (z : Nat) : Nat := sLen.getD z 0
def fitsB (c x : Int32) : Bool := if c = 43 then decide (x = 43) || decide (x = 45) else if c = 48 then decide (48 ≤ x) && decide (x ≤ 57) else decide (x = c)
def fW (w : Nat → Int32) (n p k : Nat) : Bool := fitsB (shC' (shW w n p) k) (chW w n (p + 1 + k))
def msW (w : Nat → Int32) (n p : Nat) : Nat := ms (fW w n p) (slz (shW w n p))
def okW (w : Nat → Int32) (n p : Nat) : Bool := decide (shW w n p ≠ 5) && decide (msW w n p = slz (shW w n p))
def wrW (w : Nat → Int32) (n p : Nat) : Nat := if shW w n p = 5 then p else p + 1 + msW w n p
def nxW (w : Nat → Int32) (n p : Nat) : Nat := p + 1 + slz (shW w n p)
def psW (w : Nat → Int32) (n : Nat) : Nat → Nat
  | 0 => 0
  | j + 1 => nxW w n (psW w n j)
def stW (w : Nat → Int32) (n j : Nat) : Bool := !(okW w n (psW w n j)) || decide (n ≤ psW w n (j + 1))
theorem slz_le : ∀ z, slz z ≤ 10 := by
  intro z
  rcases Nat.lt_or_ge z 6 with h | h
  · have : ∀ z : Fin 6, slz z.val ≤ 10 := by decide
    exact this ⟨z, h⟩
  · unfold slz
    rw [List.getD_eq_getElem?_getD, List.getElem?_eq_none (show sLen.length ≤ z from h)]
    decide
theorem slz_2 : ∀ z, z < 5 → 2 ≤ slz z := by decide
theorem shC_v : ∀ z, z < 6 → ∀ k, k < slz z → shC' z k = 48 ∨ shC' z k = 43 ∨ shC' z k = 59 := by decide
theorem shW_lt (w : Nat → Int32) (n p : Nat) : shW w n p < 6 := shp_lt _
theorem shW_5 {w : Nat → Int32} {n p : Nat} (h : shW w n p ≠ 5) : shW w n p < 5 := by have := shW_lt w n p; omega
theorem fW_in {w : Nat → Int32} {n p k : Nat} (hk : k < slz (shW w n p)) (h : fW w n p k = true) : p + 1 + k < n := by
  rcases Nat.lt_or_ge (p + 1 + k) n with z | z
  · exact z
  · unfold fW chW at h
    rw [if_neg (by omega)] at h
    rcases shC_v _ (shW_lt w n p) k hk with e | e | e <;> rw [e] at h <;> exact absurd h (by decide)
theorem okW_of {w : Nat → Int32} {n p : Nat} (h : okW w n p = true) : shW w n p < 5 ∧ msW w n p = slz (shW w n p) ∧ ∀ k, k < slz (shW w n p) → fW w n p k = true := by
  unfold okW at h
  simp only [Bool.and_eq_true, decide_eq_true_eq] at h
  refine ⟨shW_5 h.1, h.2, fun k hk => ?_⟩
  exact (ms_of (fW w n p) (slz (shW w n p))).2.1 k (by show k < msW w n p; rw [h.2]; exact hk)
theorem okW_in {w : Nat → Int32} {n p : Nat} (h : okW w n p = true) : nxW w n p ≤ n ∧ p + 3 ≤ nxW w n p := by
  obtain ⟨h1, h2, h3⟩ := okW_of h
  have l2 := slz_2 _ h1
  have := fW_in (by omega) (h3 (slz (shW w n p) - 1) (by omega))
  unfold nxW
  omega
theorem stW_f {w : Nat → Int32} {n j : Nat} (h : stW w n j = false) : okW w n (psW w n j) = true ∧ psW w n (j + 1) < n := by
  unfold stW at h
  simp only [Bool.or_eq_false_iff, Bool.not_eq_false', decide_eq_false_iff_not] at h
  exact ⟨h.1, by omega⟩
theorem psW_3 {w : Nat → Int32} {n : Nat} : ∀ j, (∀ i, i < j → stW w n i = false) → 3 * j ≤ psW w n j ∧ (j = 0 ∨ psW w n j < n) := by
  intro j
  induction j with
  | zero => exact fun _ => ⟨Nat.zero_le _, Or.inl rfl⟩
  | succ j ih =>
    intro h
    obtain ⟨a, b⟩ := stW_f (h j (Nat.lt_succ_self j))
    have := ih (fun i hi => h i (by omega))
    have q := okW_in a
    refine ⟨?_, Or.inr b⟩
    show 3 * (j + 1) ≤ nxW w n (psW w n j)
    omega
theorem psW_b {w : Nat → Int32} {n j : Nat} (n100 : n ≤ 100) (h : ∀ i, i < j → stW w n i = false) : j ≤ 33 ∧ psW w n j ≤ 99 := by
  obtain ⟨a, b⟩ := psW_3 j h
  rcases b with rfl | b
  · exact ⟨by omega, by show 0 ≤ 99; omega⟩
  · omega
theorem fst_u {g : Nat → Bool} {j j' : Nat} (h1 : g j = true) (h2 : ∀ i, i < j → g i = false) (h1' : g j' = true) (h2' : ∀ i, i < j' → g i = false) : j = j' := by
  rcases Nat.lt_trichotomy j j' with z | z | z
  · rw [h2' j z] at h1; cases h1
  · exact z
  · rw [h2 j' z] at h1'; cases h1'
section PARSE
variable {S : St} {d : Nat} {W : Sh}
theorem at_W (rc : rowC S d W) {i : Nat} (hi : i < 2 ^ 31) : L_X8_at (70 + 2 * d) (nI i) S = some (chW W.2.2.2 W.2.2.1.2 i) := by
  obtain ⟨-, -, h3, h4, h5⟩ := rc
  unfold chW
  rcases Nat.lt_or_ge i W.2.2.1.2 with z | z
  · rw [row_1 h3 h4 z, if_pos z, h5 i (by omega)]
  · rw [row_0 h3 h4 (Or.inr (nI_le z hi)), if_neg (by omega)]
theorem fits_W (c x : Int32) (S : St) : L_X10_fitsShape c x S = some (if fitsB c x then 1 else 0) := by
  unfold L_X10_fitsShape b_X10_fitsShape_0 b_X10_fitsShape_58 b_X10_fitsShape_44 fitsB
  by_cases h1 : c = 43
  · rw [if_pos h1, if_pos h1]
    by_cases h2 : x = 43
    · rw [if_pos h2, decide_eq_true h2]; rfl
    · by_cases h3 : x = 45
      · rw [if_neg h2, if_pos h3, decide_eq_true h3, Bool.or_true]; rfl
      · rw [if_neg h2, if_neg h3, decide_eq_false h2, decide_eq_false h3]; rfl
  · rw [if_neg h1, if_neg h1]
    by_cases h2 : c = 48
    · rw [if_pos h2, if_pos h2]
      by_cases h3 : x < 48
      · rw [if_pos h3, decide_eq_false (Int32.not_le.mpr h3)]; rfl
      · rw [if_neg h3, decide_eq_true (Int32.not_lt.mp h3)]
        by_cases h4 : 57 < x
        · rw [if_pos h4, decide_eq_false (Int32.not_le.mpr h4)]; rfl
        · rw [if_neg h4, decide_eq_true (Int32.not_lt.mp h4)]; rfl
    · rw [if_neg h2, if_neg h2]
      by_cases h3 : x = c
      · rw [if_pos h3, decide_eq_true h3]; rfl
      · rw [if_neg h3, decide_eq_false h3]; rfl
theorem C_fw1 (rc : rowC S d W) {p : Nat} (hp : p ≤ 99) : lp 12 (l_fw_22 (70 + 2 * d) (shW W.2.2.2 W.2.2.1.2 p) S) (nI p, 0) = some (if msW W.2.2.2 W.2.2.1.2 p < slz (shW W.2.2.2 W.2.2.1.2 p) then .inl (nI (p + 1 + msW W.2.2.2 W.2.2.1.2 p)) else .inr (nI (nxW W.2.2.2 W.2.2.1.2 p))) := by
  generalize hw : W.2.2.2 = w
  generalize hn : W.2.2.1.2 = n
  have z6 := shW_lt w n p
  have z10 := slz_le (shW w n p)
  obtain ⟨m1, m2, m3⟩ := ms_of (fW w n p) (slz (shW w n p))
  have key := lp_inv (body := l_fw_22 (70 + 2 * d) (shW w n p) S) (m := slz (shW w n p)) (I := fun k x => x = (nI (p + k), nI k) ∧ ∀ i, i < k → fW w n p i = true) (Q := fun r => r = if msW w n p < slz (shW w n p) then .inl (nI (p + 1 + msW w n p)) else .inr (nI (nxW w n p))) (fun k x hk hI => ?_) 12 0 (nI p, 0) (Nat.zero_le _) (by omega) ⟨rfl, fun i hi => absurd hi (Nat.not_lt_zero i)⟩
  · obtain ⟨r, r1, r2⟩ := key
    rw [r1, r2]
  · obtain ⟨rfl, hf⟩ := hI
    unfold l_fw_22
    dsimp only
    have eL : shN (shW w n p) = nI (slz (shW w n p)) := rfl
    rw [eL]
    rcases Nat.lt_or_ge k (slz (shW w n p)) with hl | hl
    · have a1 := at_W rc (i := p + 1 + k) (by omega)
      rw [hw, hn] at a1
      rw [if_neg (nI_ge hl (by omega)), gd_t (show inb (nI k) (sLen.getD (shW w n p) 0) = true from inb_n (n := slz (shW w n p)) hl (by omega)), nI_1, show p + k + 1 = p + 1 + k by omega, a1, Option.bind_some, tn_n (show k < 2 ^ 31 by omega), fits_W, Option.bind_some]
      cases f : fitsB (shC' (shW w n p) k) (chW w n (p + 1 + k)) with
      | false =>
        have fk : fW w n p k = false := f
        have e : msW w n p = k := ms_u (Nat.le_of_lt hl) hf (fun _ => fk)
        rw [if_pos (show (if false = true then (1 : Int32) else 0) = 0 from rfl), e, if_pos hl]
        exact Or.inl ⟨_, rfl, rfl⟩
      | true =>
        rw [if_neg (show ¬ (if true = true then (1 : Int32) else 0) = 0 by decide), nI_1]
        refine Or.inr ⟨hl, _, rfl, by rw [show p + (k + 1) = p + 1 + k by omega], fun i hi => ?_⟩
        rcases Nat.eq_or_lt_of_le (Nat.le_of_lt_succ hi) with e | e
        · rw [e]; exact f
        · exact hf i e
    · have e : k = slz (shW w n p) := by omega
      have e2 : msW w n p = slz (shW w n p) := ms_u (Nat.le_refl _) (fun i hi => hf i (by omega)) (fun h => absurd h (Nat.lt_irrefl _))
      rw [if_pos (nI_le hl (by omega)), if_neg (by omega), nI_1]
      refine Or.inl ⟨_, rfl, ?_⟩
      unfold nxW
      rw [show p + k + 1 = p + 1 + slz (shW w n p) by omega]
theorem C_fw (rc : rowC S d W) : ∃ r j, L_X10_firstWrong (70 + 2 * d) S = some r ∧ stW W.2.2.2 W.2.2.1.2 j = true ∧ (∀ i, i < j → stW W.2.2.2 W.2.2.1.2 i = false) ∧ r = if okW W.2.2.2 W.2.2.1.2 (psW W.2.2.2 W.2.2.1.2 j) then -4 else nI (wrW W.2.2.2 W.2.2.1.2 (psW W.2.2.2 W.2.2.1.2 j)) := by
  have n100 := rc.2.2.2.1
  have hN := rc.2.2.1
  have key := lp_inv (body := l_fw_2 (70 + 2 * d) S) (m := 34) (I := fun k x => x = nI (psW W.2.2.2 W.2.2.1.2 k) ∧ ∀ i, i < k → stW W.2.2.2 W.2.2.1.2 i = false) (Q := fun r => ∃ j, stW W.2.2.2 W.2.2.1.2 j = true ∧ (∀ i, i < j → stW W.2.2.2 W.2.2.1.2 i = false) ∧ r = if okW W.2.2.2 W.2.2.1.2 (psW W.2.2.2 W.2.2.1.2 j) then -4 else nI (wrW W.2.2.2 W.2.2.1.2 (psW W.2.2.2 W.2.2.1.2 j))) (fun k x hk hI => ?_) 1000 0 0 (Nat.zero_le _) (by omega) ⟨rfl, fun i hi => absurd hi (Nat.not_lt_zero i)⟩
  · obtain ⟨r, r1, j, r2, r3, r4⟩ := key
    exact ⟨r, j, r1, r2, r3, r4⟩
  · obtain ⟨rfl, no⟩ := hI
    obtain ⟨k33, p99⟩ := psW_b n100 no
    have a1 := at_W rc (i := psW W.2.2.2 W.2.2.1.2 k) (by omega)
    have f1 := C_fw1 rc p99
    generalize hw : W.2.2.2 = w at *
    generalize hn : W.2.2.1.2 = n at *
    generalize hp : psW w n k = p at *
    unfold l_fw_2
    rw [a1, Option.bind_some]
    by_cases z : shW w n p = 5
    · have z' : shp (chW w n p) = 5 := z
      have nok : okW w n p = false := by unfold okW; rw [decide_eq_false (fun q => q z)]; rfl
      rw [if_pos z']
      refine Or.inl ⟨_, rfl, k, ?_, no, ?_⟩
      · unfold stW; rw [hp, nok]; rfl
      · rw [hp, nok, if_neg (by decide)]
        unfold wrW
        rw [if_pos z]
    · have z' : ¬ shp (chW w n p) = 5 := z
      rw [if_neg z', show shp (chW w n p) = shW w n p from rfl, f1, Option.bind_some]
      by_cases y : msW w n p < slz (shW w n p)
      · have nok : okW w n p = false := by unfold okW; rw [decide_eq_false (show ¬ msW w n p = _ by omega), Bool.and_false]
        rw [if_pos y]
        refine Or.inl ⟨_, rfl, k, ?_, no, ?_⟩
        · unfold stW; rw [hp, nok]; rfl
        · rw [hp, nok, if_neg (by decide)]
          unfold wrW
          rw [if_neg z]
      · have m1 : msW w n p ≤ slz (shW w n p) := (ms_of (fW w n p) (slz (shW w n p))).1
        have ok : okW w n p = true := by unfold okW; rw [decide_eq_true z, decide_eq_true (show msW w n p = _ by omega)]; rfl
        have q := okW_in ok
        have ps1 : psW w n (k + 1) = nxW w n p := by show nxW w n (psW w n k) = _; rw [hp]
        rw [if_neg y]
        dsimp only
        rw [hN]
        by_cases v : nxW w n p < n
        · rw [if_pos (nI_lt v (by omega))]
          refine Or.inr ⟨by omega, _, rfl, by rw [ps1], fun i hi => ?_⟩
          rcases Nat.eq_or_lt_of_le (Nat.le_of_lt_succ hi) with e | e
          · rw [e]
            unfold stW
            rw [hp, ok, ps1, decide_eq_false (by omega)]
            rfl
          · exact no i e
        · rw [if_neg (nI_nlt (by omega) (by omega))]
          refine Or.inl ⟨_, rfl, k, ?_, no, ?_⟩
          · unfold stW; rw [hp, ok, ps1, decide_eq_true (by omega)]; rfl
          · rw [hp, ok, if_pos rfl]
end PARSE
