/-! The reference carries its town into a row of numbers and back. -/
def pP (j : Nat) : Nat × Nat := if j < 6 then (136, if j = 0 then 1 else if j < 5 then j + 5 else 15) else if j < 22 then (137, j - 6) else if j < 46 then (138 + (j - 22) % 4, (j - 22) / 4) else if j < 66 then (142 + (j - 46) % 5, (j - 46) / 5) else (147 + (j - 66) % 6, (j - 66) / 6)
def pQ (a x : Nat) : Nat := if a = 136 then (if x = 1 then 0 else if x < 10 then x - 5 else 5) else if a = 137 then 6 + x else if a < 142 then 22 + 4 * x + (a - 138) else if a < 147 then 46 + 5 * x + (a - 142) else 66 + 6 * x + (a - 147)
theorem pQ_P : ∀ j, j < 114 → pQ (pP j).1 (pP j).2 = j := by decide +kernel
theorem pP_r : ∀ j, j < 114 → 136 ≤ (pP j).1 ∧ (pP j).1 < 153 ∧ (pP j).2 < 16 := by decide +kernel
theorem pP_inj {i j k x : Nat} (hi : i < 114) (hj : j < 114) (h1 : pP i = (k, x)) (h2 : pP j = (k, x)) : i = j := by
  rw [← pQ_P i hi, ← pQ_P j hj, h1, h2]
theorem gi_at (S : St) (k i : Nat) (v : Int32) (a x : Nat) : gi (si S k i v) a x = if a = k ∧ x = i then v else gi S a x := by
  by_cases h : a = k
  · subst h
    rw [gi_si_s]
    by_cases e : x = i
    · subst e; rw [upd_s, if_pos ⟨rfl, rfl⟩]
    · rw [upd_n _ _ e, if_neg (fun z => e z.2)]
  · rw [gi_si_n _ _ _ h, if_neg (fun z => h z.1)]
def CA (take : Bool) (u : Nat) (S0 : St) (j : Nat) (S : St) : Prop := gr S 136 49 = some u ∧ gi S 136 48 = (if take then 1 else 0) ∧ gi S 136 47 = nI j ∧
  (∀ a x, a ≠ u → ¬ (a = 136 ∧ (x = 47 ∨ x = 48)) → (take = true ∨ ∀ i, i < j → pP i ≠ (a, x)) → gi S a x = gi S0 a x) ∧
  (take = true → ∀ i, i < j → gi S u i = gi S0 (pP i).1 (pP i).2) ∧ (take = false → ∀ i, i < j → gi S (pP i).1 (pP i).2 = gi S0 u i) ∧ (take = false → ∀ x, gi S u x = gi S0 u x) ∧
  (∀ a, gl S a = gl S0 a) ∧ (∀ a, a ≠ 136 → gr S a = gr S0 a) ∧ (∀ a, gp S a = gp S0 a) ∧ tp S = tp S0
theorem carry_1 {take : Bool} {u j k i : Nat} {S0 S : St} (h : CA take u S0 j S) (hu : u = 172 ∨ u = 173) (hj : j < 114) (hp : pP j = (k, i)) : ∃ r, L_X12_carry (gi S k i) S = some r ∧ CA take u S0 (j + 1) (si r.2 k i r.1) := by
  obtain ⟨h1, h2, h3, h4, h5, h6, h7, h8, h9, h10, h11⟩ := h
  obtain ⟨r1, r2, r3⟩ := pP_r j hj
  rw [hp] at r1 r2 r3
  simp only at r1 r2 r3
  have kp : isKpB u = true := by rcases hu with rfl | rfl <;> rfl
  have u6 : u ≠ 136 := by omega
  have ku : k ≠ u := by omega
  have i3 : inb (nI j) 120 = true := inb_n (by omega)
  have tj : (nI j).toNatClampNeg = j := tn_n (by omega)
  have k7 : ¬ (k = 136 ∧ (i = 47 ∨ i = 48)) := by omega
  have ne : ∀ i', i' < j → ¬ ((pP i').1 = k ∧ (pP i').2 = i) := fun i' hi z => by
    have := pP_inj (i := i') (j := j) (k := k) (x := i) (by omega) hj (by rw [← z.1, ← z.2]) hp
    omega
  cases take with
  | true =>
    have z10 : ¬ (1 : Int32) = 0 := by decide
    have e2 : gi S 136 48 = 1 := h2
    refine ⟨(gi S k i, si (si S u j (gi S k i)) 136 47 (nI (j + 1))), ?_, ?_⟩
    · have a1 : gi (si S u j (gi S k i)) 136 47 = nI j := by rw [gi_si_n _ _ _ (Ne.symm u6)]; exact h3
      have a2 : gi (si (si S u j (gi S k i)) 136 47 (nI (j + 1))) 136 47 - 1 = nI j := by rw [gi_at, if_pos ⟨rfl, rfl⟩, ← nI_1, Int32.add_sub_cancel]
      have a3 : gi (si (si S u j (gi S k i)) 136 47 (nI (j + 1))) u j = gi S k i := by rw [gi_si_n _ _ _ u6, gi_at, if_pos ⟨rfl, rfl⟩]
      have a4 : ∀ X : St, ∀ a b v, gr (si X a b v) = gr X := fun _ _ _ _ => rfl
      unfold L_X12_carry b_X12_carry_0
      rw [e2, if_neg z10, h1, Option.bind_some, gd_t kp, h3, gd_t i3, nm_eq, tj]
      unfold b_X12_carry_17
      rw [a1, nm_eq, nI_1, a4, a4, h1, Option.bind_some, gd_t kp, a2, gd_t i3, tj, a3]
    · refine ⟨h1, ?_, ?_, fun a x ha hx _ => ?_, fun _ i' hi => ?_, fun z => absurd z (by decide), fun z => absurd z (by decide), h8, h9, h10, h11⟩
      · rw [gi_at, if_neg (by omega), gi_at, if_neg (by omega), gi_at, if_neg (by omega)]; exact h2
      · rw [gi_at, if_neg (by omega), gi_at, if_pos ⟨rfl, rfl⟩]
      · have b : gi S a x = gi S0 a x := h4 a x ha hx (Or.inl rfl)
        rw [gi_at]
        by_cases z : a = k ∧ x = i
        · rw [if_pos z, ← z.1, ← z.2]; exact b
        · rw [if_neg z, gi_at, if_neg (by omega), gi_at, if_neg (by omega)]; exact b
      · rw [gi_si_n _ _ _ (Ne.symm ku), gi_si_n _ _ _ u6, gi_at]
        by_cases z : i' = j
        · subst z
          rw [if_pos ⟨rfl, rfl⟩, hp]
          exact h4 k i ku k7 (Or.inl rfl)
        · rw [if_neg (fun w => z w.2)]
          exact h5 rfl i' (by omega)
  | false =>
    have e2 : gi S 136 48 = 0 := h2
    refine ⟨(gi S u j, si S 136 47 (nI (j + 1))), ?_, ?_⟩
    · have a2 : gi (si S 136 47 (nI (j + 1))) 136 47 - 1 = nI j := by rw [gi_at, if_pos ⟨rfl, rfl⟩, ← nI_1, Int32.add_sub_cancel]
      have a3 : gi (si S 136 47 (nI (j + 1))) u j = gi S u j := by rw [gi_si_n _ _ _ u6]
      have a4 : ∀ X : St, ∀ a b v, gr (si X a b v) = gr X := fun _ _ _ _ => rfl
      unfold L_X12_carry b_X12_carry_0
      rw [e2, if_pos rfl]
      unfold b_X12_carry_17
      rw [h3, nm_eq, nI_1, a4, h1, Option.bind_some, gd_t kp, a2, gd_t i3, tj, a3]
    · refine ⟨h1, ?_, ?_, fun a x ha hx hz => ?_, fun z => absurd z (by decide), fun _ i' hi => ?_, fun _ x => ?_, h8, h9, h10, h11⟩
      · rw [gi_at, if_neg (by omega), gi_at, if_neg (by omega)]; exact h2
      · rw [gi_at, if_neg (by omega), gi_at, if_pos ⟨rfl, rfl⟩]
      · have hz2 : ∀ i', i' < j + 1 → pP i' ≠ (a, x) := hz.resolve_left (by decide)
        have b : gi S a x = gi S0 a x := h4 a x ha hx (Or.inr (fun i' hi => hz2 i' (by omega)))
        have c : ¬ (a = k ∧ x = i) := fun z => hz2 j (by omega) (by rw [hp, z.1, z.2])
        rw [gi_at, if_neg c, gi_at, if_neg (by omega)]; exact b
      · by_cases z : i' = j
        · subst z
          rw [hp, gi_at, if_pos ⟨rfl, rfl⟩]
          exact h7 rfl i'
        · have hi2 : i' < j := by omega
          obtain ⟨q1, q2, q3⟩ := pP_r i' (by omega)
          rw [gi_at, if_neg (ne i' hi2), gi_at, if_neg (by omega)]
          exact h6 rfl i' hi2
      · rw [gi_si_n _ _ _ (Ne.symm ku), gi_si_n _ _ _ u6]
        exact h7 rfl x
section CARRYALL
variable {take : Bool} {u : Nat} {S0 : St}
theorem carry_d (hu : u = 172 ∨ u = 173) {X : St} (h : CA take u S0 66 X) : ∃ Y, b_X12_carryAll_288 u X = some Y ∧ CA take u S0 114 Y := by
  unfold b_X12_carryAll_288
  refine lp_inv (m := 8) (I := fun k x => x.1 = nI k ∧ CA take u S0 (66 + 6 * k) x.2) (fun k x hk hI => ?_) 1000 0 _ (Nat.zero_le _) (by omega) ⟨rfl, h⟩
  obtain ⟨v, Y⟩ := x
  obtain ⟨e1, hC⟩ := hI
  simp only at e1 hC
  subst e1
  unfold l_X12_carryAll_290 b_X12_carryAll_290
  dsimp only
  rcases Nat.lt_or_ge k 8 with hl | hl
  · refine Or.inr ⟨hl, ?_⟩
    have e8 : ¬ (8 : Int32) ≤ nI k := nI_ge (b := 8) hl (by decide)
    have pp : ∀ c, c < 6 → pP (66 + 6 * k + c) = (147 + c, k) := fun c hc => by
      unfold pP
      rw [if_neg (by omega), if_neg (by omega), if_neg (by omega), if_neg (by omega), show (66 + 6 * k + c - 66) % 6 = c by omega, show (66 + 6 * k + c - 66) / 6 = k by omega]
    rw [if_neg e8]
    simp only [gd_t (inb_n hl), tn_n (show k < 2 ^ 31 by omega), nm_eq]
    obtain ⟨r0, q0, c0⟩ := carry_1 hC hu (by omega) (pp 0 (by decide))
    rw [q0, Option.bind_some]
    obtain ⟨r1, q1, c1⟩ := carry_1 c0 hu (by omega) (pp 1 (by decide))
    rw [q1, Option.bind_some]
    obtain ⟨r2, q2, c2⟩ := carry_1 c1 hu (by omega) (pp 2 (by decide))
    rw [q2, Option.bind_some]
    obtain ⟨r3, q3, c3⟩ := carry_1 c2 hu (by omega) (pp 3 (by decide))
    rw [q3, Option.bind_some]
    obtain ⟨r4, q4, c4⟩ := carry_1 c3 hu (by omega) (pp 4 (by decide))
    rw [q4, Option.bind_some]
    obtain ⟨r5, q5, c5⟩ := carry_1 c4 hu (by omega) (pp 5 (by decide))
    rw [q5, Option.bind_some, nI_1]
    exact ⟨_, rfl, rfl, c5⟩
  · have e : k = 8 := by omega
    subst e
    rw [if_pos (by decide)]
    exact Or.inl ⟨Y, rfl, hC⟩
theorem carry_c (hu : u = 172 ∨ u = 173) {X : St} (h : CA take u S0 46 X) : ∃ Y, b_X12_carryAll_195 u X = some Y ∧ CA take u S0 114 Y := by
  unfold b_X12_carryAll_195
  refine lp_inv (m := 4) (I := fun k x => x.1 = nI k ∧ CA take u S0 (46 + 5 * k) x.2) (fun k x hk hI => ?_) 1000 0 _ (Nat.zero_le _) (by omega) ⟨rfl, h⟩
  obtain ⟨v, Y⟩ := x
  obtain ⟨e1, hC⟩ := hI
  simp only at e1 hC
  subst e1
  unfold l_X12_carryAll_197 b_X12_carryAll_197
  dsimp only
  rcases Nat.lt_or_ge k 4 with hl | hl
  · refine Or.inr ⟨hl, ?_⟩
    have e8 : ¬ (4 : Int32) ≤ nI k := nI_ge (b := 4) hl (by decide)
    have pp : ∀ c, c < 5 → pP (46 + 5 * k + c) = (142 + c, k) := fun c hc => by
      unfold pP
      rw [if_neg (by omega), if_neg (by omega), if_neg (by omega), if_pos (by omega), show (46 + 5 * k + c - 46) % 5 = c by omega, show (46 + 5 * k + c - 46) / 5 = k by omega]
    rw [if_neg e8]
    simp only [gd_t (inb_n hl), tn_n (show k < 2 ^ 31 by omega), nm_eq]
    obtain ⟨r0, q0, c0⟩ := carry_1 hC hu (by omega) (pp 0 (by decide))
    rw [q0, Option.bind_some]
    obtain ⟨r1, q1, c1⟩ := carry_1 c0 hu (by omega) (pp 1 (by decide))
    rw [q1, Option.bind_some]
    obtain ⟨r2, q2, c2⟩ := carry_1 c1 hu (by omega) (pp 2 (by decide))
    rw [q2, Option.bind_some]
    obtain ⟨r3, q3, c3⟩ := carry_1 c2 hu (by omega) (pp 3 (by decide))
    rw [q3, Option.bind_some]
    obtain ⟨r4, q4, c4⟩ := carry_1 c3 hu (by omega) (pp 4 (by decide))
    rw [q4, Option.bind_some, nI_1]
    exact ⟨_, rfl, rfl, c4⟩
  · have e : k = 4 := by omega
    subst e
    rw [if_pos (by decide)]
    obtain ⟨Z, z1, z2⟩ := carry_d hu hC
    refine Or.inl ⟨Z, ?_, z2⟩
    rw [z1]
    rfl
theorem carry_b (hu : u = 172 ∨ u = 173) {X : St} (h : CA take u S0 22 X) : ∃ Y, b_X12_carryAll_117 u X = some Y ∧ CA take u S0 114 Y := by
  unfold b_X12_carryAll_117
  refine lp_inv (m := 6) (I := fun k x => x.1 = nI k ∧ CA take u S0 (22 + 4 * k) x.2) (fun k x hk hI => ?_) 1000 0 _ (Nat.zero_le _) (by omega) ⟨rfl, h⟩
  obtain ⟨v, Y⟩ := x
  obtain ⟨e1, hC⟩ := hI
  simp only at e1 hC
  subst e1
  unfold l_X12_carryAll_119 b_X12_carryAll_119
  dsimp only
  rcases Nat.lt_or_ge k 6 with hl | hl
  · refine Or.inr ⟨hl, ?_⟩
    have e8 : ¬ (6 : Int32) ≤ nI k := nI_ge (b := 6) hl (by decide)
    have pp : ∀ c, c < 4 → pP (22 + 4 * k + c) = (138 + c, k) := fun c hc => by
      unfold pP
      rw [if_neg (by omega), if_neg (by omega), if_pos (by omega), show (22 + 4 * k + c - 22) % 4 = c by omega, show (22 + 4 * k + c - 22) / 4 = k by omega]
    rw [if_neg e8]
    simp only [gd_t (inb_n hl), tn_n (show k < 2 ^ 31 by omega), nm_eq]
    obtain ⟨r0, q0, c0⟩ := carry_1 hC hu (by omega) (pp 0 (by decide))
    rw [q0, Option.bind_some]
    obtain ⟨r1, q1, c1⟩ := carry_1 c0 hu (by omega) (pp 1 (by decide))
    rw [q1, Option.bind_some]
    obtain ⟨r2, q2, c2⟩ := carry_1 c1 hu (by omega) (pp 2 (by decide))
    rw [q2, Option.bind_some]
    obtain ⟨r3, q3, c3⟩ := carry_1 c2 hu (by omega) (pp 3 (by decide))
    rw [q3, Option.bind_some, nI_1]
    exact ⟨_, rfl, rfl, c3⟩
  · have e : k = 6 := by omega
    subst e
    rw [if_pos (by decide)]
    obtain ⟨Z, z1, z2⟩ := carry_c hu hC
    refine Or.inl ⟨Z, ?_, z2⟩
    rw [z1]
    rfl
theorem carry_all (hu : u = 172 ∨ u = 173) (S : St) : ∃ Y, L_X12_carryAll u (if take then 1 else 0) S = some Y ∧ CA take u S 114 Y := by
  unfold L_X12_carryAll b_X12_carryAll_0
  have c0 : CA take u S 0 (si (si (sr S 136 49 (some u)) 136 48 (if take then 1 else 0)) 136 47 0) := by
    have u6 : u ≠ 136 := by omega
    refine ⟨?_, ?_, ?_, fun a x ha hx _ => ?_, fun _ i hi => absurd hi (Nat.not_lt_zero i), fun _ i hi => absurd hi (Nat.not_lt_zero i), fun _ x => ?_, fun _ => rfl, fun a ha => ?_, fun _ => rfl, rfl⟩
    · show gr (sr S 136 49 (some u)) 136 49 = some u
      rw [gr_sr_s]
      exact if_pos rfl
    · rw [gi_at, if_neg (by omega), gi_at, if_pos ⟨rfl, rfl⟩]
    · rw [gi_at, if_pos ⟨rfl, rfl⟩]; rfl
    · rw [gi_at, if_neg (by omega), gi_at, if_neg (by omega)]; rfl
    · rw [gi_si_n _ _ _ u6, gi_si_n _ _ _ u6]; rfl
    · exact gr_sr_n _ _ _ ha
  have g1 : ((if take then 1 else 0 : Int32) == 0 || (if take then 1 else 0 : Int32) == 1) = true := by cases take <;> rfl
  rw [nm_eq, gd_t g1, nm_eq, nm_eq]
  obtain ⟨r0, q0, c0⟩ := carry_1 c0 hu (by omega) (show pP 0 = (136, 1) from rfl)
  rw [q0, Option.bind_some, nm_eq]
  obtain ⟨r1, q1, c1⟩ := carry_1 c0 hu (by omega) (show pP 1 = (136, 6) from rfl)
  rw [q1, Option.bind_some, nm_eq]
  obtain ⟨r2, q2, c2⟩ := carry_1 c1 hu (by omega) (show pP 2 = (136, 7) from rfl)
  rw [q2, Option.bind_some, nm_eq]
  obtain ⟨r3, q3, c3⟩ := carry_1 c2 hu (by omega) (show pP 3 = (136, 8) from rfl)
  rw [q3, Option.bind_some, nm_eq]
  obtain ⟨r4, q4, c4⟩ := carry_1 c3 hu (by omega) (show pP 4 = (136, 9) from rfl)
  rw [q4, Option.bind_some, nm_eq]
  obtain ⟨r5, q5, c5⟩ := carry_1 c4 hu (by omega) (show pP 5 = (136, 15) from rfl)
  rw [q5, Option.bind_some, nm_eq]
  refine lp_inv (m := 16) (I := fun k x => x.1 = nI k ∧ CA take u S (6 + k) x.2) (fun k x hk hI => ?_) 1000 0 _ (Nat.zero_le _) (by omega) ⟨rfl, c5⟩
  obtain ⟨v, Y⟩ := x
  obtain ⟨e1, hC⟩ := hI
  simp only at e1 hC
  subst e1
  unfold l_X12_carryAll_89 b_X12_carryAll_89
  dsimp only
  rcases Nat.lt_or_ge k 16 with hl | hl
  · refine Or.inr ⟨hl, ?_⟩
    have e8 : ¬ (16 : Int32) ≤ nI k := nI_ge (b := 16) hl (by decide)
    have pp : pP (6 + k) = (137, k) := by
      unfold pP
      rw [if_neg (by omega), if_pos (by omega), show 6 + k - 6 = k by omega]
    rw [if_neg e8]
    simp only [gd_t (inb_n hl), tn_n (show k < 2 ^ 31 by omega), nm_eq]
    obtain ⟨r0, q0, c0⟩ := carry_1 hC hu (by omega) pp
    rw [q0, Option.bind_some, nI_1]
    exact ⟨_, rfl, rfl, c0⟩
  · have e : k = 16 := by omega
    subst e
    rw [if_pos (by decide)]
    obtain ⟨Z, z1, z2⟩ := carry_b hu hC
    refine Or.inl ⟨Z, ?_, z2⟩
    rw [z1]
    rfl
end CARRYALL
