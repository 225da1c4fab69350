/-! Texts: the reference reads a STATEMENT. -/
theorem i32_64 (x : Int32) : x.toInt64.toInt32 = x := by simp
def hrW (w : Nat → Int32) (n q : Nat) : Int32 := if q < n then w q else -999
theorem hr_d (w : Nat → Int32) (n q : Nat) : (48 ≤ hrW w n q ∧ hrW w n q ≤ 57) ↔ fitsB 48 (chW w n q) = true := by
  unfold hrW chW fitsB
  have a : ¬ (48 : Int32) = 43 := by decide
  rw [if_neg a, if_pos (rfl : (48 : Int32) = 48)]
  by_cases h : q < n
  · rw [if_pos h, if_pos h]; simp
  · rw [if_neg h, if_neg h]; decide
theorem hr_s (w : Nat → Int32) (n q : Nat) : (hrW w n q = 43 ∨ hrW w n q = 45) ↔ fitsB 43 (chW w n q) = true := by
  unfold hrW chW fitsB
  rw [if_pos (rfl : (43 : Int32) = 43)]
  by_cases h : q < n
  · rw [if_pos h, if_pos h]; simp
  · rw [if_neg h, if_neg h]; decide
theorem hr_e (w : Nat → Int32) (n q : Nat) : hrW w n q = 59 ↔ fitsB 59 (chW w n q) = true := by
  unfold hrW chW fitsB
  have a : ¬ (59 : Int32) = 43 := by decide
  have b : ¬ (59 : Int32) = 48 := by decide
  rw [if_neg a, if_neg b]
  by_cases h : q < n
  · rw [if_pos h, if_pos h]; simp
  · rw [if_neg h, if_neg h]; decide
theorem hr_in {w : Nat → Int32} {n q : Nat} {c : Int32} (hc : c = 48 ∨ c = 43 ∨ c = 59) (h : fitsB c (chW w n q) = true) : hrW w n q = w q := by
  unfold hrW chW at *
  by_cases z : q < n
  · rw [if_pos z]
  · rw [if_neg z] at h
    rcases hc with rfl | rfl | rfl <;> exact absurd h (by decide)
def dv (w : Nat → Int32) (q : Nat) : Nat → Int32
  | 0 => 0
  | j + 1 => 10 * dv w q j + w (q + j) - 48
theorem ms_s (f : Nat → Bool) (k : Nat) : ms f (k + 1) = if ms f k < k then ms f k else if f k then k + 1 else k := rfl
theorem ms_all {f : Nat → Bool} {n k : Nat} (h : ms f n = n) (hk : k ≤ n) : ms f k = k := by
  have a := (ms_of f n).2.1
  rw [h] at a
  exact ms_u (Nat.le_refl _) (fun i hi => a i (by omega)) (fun q => absurd q (Nat.lt_irrefl _))
def RDb (S0 X : St) : Prop := FR (fun a => a = 136 ∨ 174 ≤ a ∧ a ≤ 176) S0 X ∧ ∀ i, i ≠ 51 → i ≠ 52 → i ≠ 53 → gi X 136 i = gi S0 136 i
theorem RDb_si {S0 X : St} {j : Nat} {v : Int32} (hj : j = 51 ∨ j = 52 ∨ j = 53) (h : RDb S0 X) : RDb S0 (si X 136 j v) :=
  ⟨FR_si (P := fun a => a = 136 ∨ 174 ≤ a ∧ a ≤ 176) (Or.inl rfl) h.1 _ _, fun i h1 h2 h3 => by rw [gi_at, if_neg (by omega)]; exact h.2 i h1 h2 h3⟩
theorem RDb_t {S0 X : St} {a j : Nat} {v : Int32} (ha : 174 ≤ a ∧ a ≤ 176) (h : RDb S0 X) : RDb S0 (si X a j v) :=
  ⟨FR_si (P := fun a => a = 136 ∨ 174 ≤ a ∧ a ≤ 176) (Or.inr ha) h.1 _ _, fun i h1 h2 h3 => by rw [gi_at, if_neg (by omega)]; exact h.2 i h1 h2 h3⟩
def RDk (X : St) (w : Nat → Int32) (n p k : Nat) : Prop := gi X 136 51 = nI (p + 1 + ms (fW w n p) k) ∧ gi X 136 52 = if ms (fW w n p) k < k then 1 else 0
theorem RDk_t {X : St} {w : Nat → Int32} {n p k a j : Nat} {v : Int32} (ha : a ≠ 136) (h : RDk X w n p k) : RDk (si X a j v) w n p k := by
  unfold RDk at h ⊢
  rw [gi_si_n _ _ _ (Ne.symm ha)]
  exact h
section READ
variable {S0 X : St} {d : Nat} {w : Nat → Int32} {n p : Nat}
def rowW (S : St) (d : Nat) (w : Nat → Int32) (n : Nat) : Prop := d < 8 ∧ n ≤ 100 ∧ gi S 157 d = nI n ∧ (∀ i, i < 100 → gl S 158 (100 * d + i) = (w i).toInt64) ∧ gi S 136 50 = nI d
theorem R_here (hr : rowW S0 d w n) (h : RDb S0 X) {q : Nat} (hq : q < 2 ^ 20) (e : gi X 136 51 = nI q) : L_X12_here X = some (hrW w n q) := by
  obtain ⟨hd, n100, h1, h2, h3⟩ := hr
  have e1 : gi X 136 50 = nI d := by rw [h.2 50 (by decide) (by decide) (by decide)]; exact h3
  have e2 : gi X 157 d = nI n := by rw [h.1.1 157 (by omega)]; exact h1
  unfold L_X12_here b_X12_here_0 hrW
  rw [e1, gd_t (inb_n hd), tn_n (show d < 2 ^ 31 by omega), e2, e]
  rcases Nat.lt_or_ge q n with z | z
  · rw [if_neg (nI_ge z (by omega)), nI_100 hd (by omega), gd_t (inb_n (show 100 * d + q < 800 by omega)), tn_n (show 100 * d + q < 2 ^ 31 by omega), FR_gl h.1 158, h2 q (by omega), i32_64, if_pos z]
  · rw [if_pos (nI_le z (by omega)), if_neg (by omega)]
theorem at_52 (X : St) (v : Int32) : gi (si X 136 52 v) 136 51 = gi X 136 51 := by rw [gi_at, if_neg (by decide)]
theorem at_52s (X : St) (v : Int32) : gi (si X 136 52 v) 136 52 = v := by rw [gi_at, if_pos ⟨rfl, rfl⟩]
theorem at_51s (X : St) (v : Int32) : gi (si X 136 51 v) 136 51 = v := by rw [gi_at, if_pos ⟨rfl, rfl⟩]
theorem at_51 (X : St) (v : Int32) : gi (si X 136 51 v) 136 52 = gi X 136 52 := by rw [gi_at, if_neg (by decide)]
theorem R_dig (hr : rowW S0 d w n) (h : RDb S0 X) (hp : p ≤ 99) {k m : Nat} (hk : RDk X w n p k) (km : k + m ≤ 10) (hm : ∀ i, i < m → shC' (shW w n p) (k + i) = 48) :
    ∃ v Y, L_X12_readDigits (nI m) X = some (v, Y) ∧ RDb S0 Y ∧ RDk Y w n p (k + m) ∧ FR (fun a => a = 136) X Y ∧ (∀ i, i ≠ 51 → i ≠ 52 → gi Y 136 i = gi X 136 i) ∧ (ms (fW w n p) (k + m) = k + m → v = dv w (p + 1 + k) m) := by
  unfold L_X12_readDigits b_X12_readDigits_0
  have z10 : ¬ (1 : Int32) = 0 := by decide
  have key := lp_inv (body := l_X12_readDigits_4) (m := m) (I := fun j x => x.1 = nI m ∧ x.2.2.1 = nI j ∧ RDb S0 x.2.2.2 ∧ RDk x.2.2.2 w n p (k + j) ∧ FR (fun a => a = 136) X x.2.2.2 ∧ (∀ i, i ≠ 51 → i ≠ 52 → gi x.2.2.2 136 i = gi X 136 i) ∧ (ms (fW w n p) (k + j) = k + j → x.2.1 = dv w (p + 1 + k) j)) (Q := fun r => RDb S0 r.2 ∧ RDk r.2 w n p (k + m) ∧ FR (fun a => a = 136) X r.2 ∧ (∀ i, i ≠ 51 → i ≠ 52 → gi r.2 136 i = gi X 136 i) ∧ (ms (fW w n p) (k + m) = k + m → r.1 = dv w (p + 1 + k) m)) (fun j x hj hI => ?_) 1000 0 (nI m, 0, 0, X) (Nat.zero_le _) (by omega) ⟨rfl, rfl, h, hk, FR_refl X, fun _ _ _ => rfl, fun _ => rfl⟩
  · obtain ⟨⟨v, Y⟩, r1, r2⟩ := key
    exact ⟨v, Y, r1, r2⟩
  · obtain ⟨a1, v, a3, Z⟩ := x
    obtain ⟨e1, e3, hb, ⟨hat, hbd⟩, fr, fo, hv⟩ := hI
    simp only at e1 e3 hb hat hbd fr fo hv
    subst e1 e3
    unfold l_X12_readDigits_4 b_X12_readDigits_4 b_X12_readDigits_34
    dsimp only
    rcases Nat.lt_or_ge j m with hl | hl
    · have m1 : ms (fW w n p) (k + j) ≤ k + j := (ms_of _ _).1
      have fin : ∀ (s0 : Int32) (v' : Int32) (dl : Nat), (s0 = 0 ∨ s0 = 1) → ms (fW w n p) (k + j + 1) = ms (fW w n p) (k + j) + dl → (s0 = if ms (fW w n p) (k + j + 1) < k + j + 1 then 1 else 0) → (ms (fW w n p) (k + j + 1) = k + j + 1 → v' = dv w (p + 1 + k) (j + 1)) →
          RDb S0 (si (si Z 136 52 s0) 136 51 (nI (p + 1 + ms (fW w n p) (k + j) + dl))) ∧ RDk (si (si Z 136 52 s0) 136 51 (nI (p + 1 + ms (fW w n p) (k + j) + dl))) w n p (k + (j + 1)) ∧ FR (fun a => a = 136) X (si (si Z 136 52 s0) 136 51 (nI (p + 1 + ms (fW w n p) (k + j) + dl))) ∧ (∀ i, i ≠ 51 → i ≠ 52 → gi (si (si Z 136 52 s0) 136 51 (nI (p + 1 + ms (fW w n p) (k + j) + dl))) 136 i = gi X 136 i) ∧ (ms (fW w n p) (k + (j + 1)) = k + (j + 1) → v' = dv w (p + 1 + k) (j + 1)) := by
        intro s0 v' dl _ h2 h3 h4
        refine ⟨RDb_si (Or.inl rfl) (RDb_si (Or.inr (Or.inl rfl)) hb), ⟨?_, ?_⟩, FR_si (P := fun a => a = 136) rfl (FR_si (P := fun a => a = 136) rfl fr _ _) _ _, fun i h1 h2 => ?_, h4⟩
        · rw [at_51s]
          congr 1
          rw [show k + (j + 1) = k + j + 1 by omega, h2]
          omega
        · rw [at_51, at_52s]; exact h3
        · rw [gi_at, if_neg (by omega), gi_at, if_neg (by omega)]; exact fo i h1 h2
      rw [if_neg (nI_ge hl (by omega))]
      refine Or.inr ⟨hl, ?_⟩
      by_cases bd : ms (fW w n p) (k + j) < k + j
      · rw [if_pos bd] at hbd
        have hs : ms (fW w n p) (k + j + 1) = ms (fW w n p) (k + j) + 0 := by rw [ms_s, if_pos bd]; rfl
        rw [hbd, if_neg z10]
        unfold b_X12_readDigits_39 b_X12_readDigits_65 b_X12_readDigits_83
        rw [gd_t (by decide), nm_eq, at_52s, if_neg z10, if_neg z10, at_52, hat, nm_eq, nI_1]
        have := fin 1 0 0 (Or.inr rfl) hs (by rw [if_pos (by omega)]) (fun q => by omega)
        have e0 : nI (p + 1 + ms (fW w n p) (k + j)) + 0 = nI (p + 1 + ms (fW w n p) (k + j) + 0) := by rw [Int32.add_zero]; rfl
        rw [e0]
        exact ⟨_, rfl, rfl, rfl, this⟩
      · have eq : ms (fW w n p) (k + j) = k + j := by omega
        rw [if_neg bd] at hbd
        have hh := R_here hr hb (q := p + 1 + ms (fW w n p) (k + j)) (by omega) hat
        have hc : fW w n p (k + j) = fitsB 48 (chW w n (p + 1 + (k + j))) := by unfold fW; rw [hm j hl]
        have q1 : p + 1 + ms (fW w n p) (k + j) = p + 1 + (k + j) := by rw [eq]
        rw [hbd, if_pos rfl, hh, Option.bind_some, R_in 48 57]
        by_cases ft : fitsB 48 (chW w n (p + 1 + (k + j))) = true
        · have i1 : 48 ≤ hrW w n (p + 1 + ms (fW w n p) (k + j)) ∧ hrW w n (p + 1 + ms (fW w n p) (k + j)) ≤ 57 := by rw [q1]; exact (hr_d w n _).mpr ft
          have hs : ms (fW w n p) (k + j + 1) = k + j + 1 := by rw [ms_s, if_neg bd, if_pos (by rw [hc]; exact ft)]
          have hh2 : L_X12_here (si Z 136 52 0) = some (hrW w n (p + 1 + ms (fW w n p) (k + j))) := R_here hr (RDb_si (Or.inr (Or.inl rfl)) hb) (by omega) (by rw [at_52]; exact hat)
          rw [if_pos i1, Option.bind_some, if_neg z10]
          unfold b_X12_readDigits_39 b_X12_readDigits_65 b_X12_readDigits_83
          rw [gd_t (by decide), nm_eq, at_52s, if_pos rfl, hh2, Option.bind_some, if_pos rfl, at_52, hat, nm_eq, nI_1, nI_1]
          have := fin 0 (10 * v + hrW w n (p + 1 + ms (fW w n p) (k + j)) - 48) 1 (Or.inl rfl) (by rw [hs, eq]) (by rw [if_neg (by omega)]) (fun _ => by
            rw [hv eq, q1, hr_in (Or.inl rfl) ft]
            show 10 * dv w (p + 1 + k) j + w (p + 1 + (k + j)) - 48 = 10 * dv w (p + 1 + k) j + w (p + 1 + k + j) - 48
            rw [show p + 1 + (k + j) = p + 1 + k + j by omega])
          exact ⟨_, rfl, rfl, rfl, this⟩
        · have i1 : ¬ (48 ≤ hrW w n (p + 1 + ms (fW w n p) (k + j)) ∧ hrW w n (p + 1 + ms (fW w n p) (k + j)) ≤ 57) := fun y => ft ((hr_d w n _).mp (by rw [q1] at y; exact y))
          have hs : ms (fW w n p) (k + j + 1) = ms (fW w n p) (k + j) + 0 := by rw [ms_s, if_neg bd, if_neg (by rw [hc]; exact ft), eq]; rfl
          rw [if_neg i1, Option.bind_some, if_pos rfl]
          unfold b_X12_readDigits_39 b_X12_readDigits_65 b_X12_readDigits_83
          rw [gd_t (by decide), nm_eq, at_52s, if_neg z10, if_neg z10, at_52, hat, nm_eq, nI_1]
          have := fin 1 0 0 (Or.inr rfl) hs (by rw [if_pos (by omega)]) (fun q => by omega)
          have e0 : nI (p + 1 + ms (fW w n p) (k + j)) + 0 = nI (p + 1 + ms (fW w n p) (k + j) + 0) := by rw [Int32.add_zero]; rfl
          rw [e0]
          exact ⟨_, rfl, rfl, rfl, this⟩
    · have : j = m := by omega
      subst this
      rw [if_pos (Int32.le_refl _)]
      exact Or.inl ⟨_, rfl, hb, ⟨hat, hbd⟩, fr, fo, hv⟩
theorem R_sgn (hr : rowW S0 d w n) (h : RDb S0 X) (hp : p ≤ 99) {k : Nat} (hk : RDk X w n p k) (km : k + 1 ≤ 10) (hm : shC' (shW w n p) k = 43) :
    ∃ v Y, L_X12_readSign X = some (v, Y) ∧ RDb S0 Y ∧ RDk Y w n p (k + 1) ∧ FR (fun a => a = 136) X Y ∧ (∀ i, i ≠ 51 → i ≠ 52 → gi Y 136 i = gi X 136 i) ∧ (ms (fW w n p) (k + 1) = k + 1 → v = if w (p + 1 + k) = 45 then -1 else 1) := by
  have z10 : ¬ (1 : Int32) = 0 := by decide
  obtain ⟨hat, hbd⟩ := hk
  have m1 : ms (fW w n p) k ≤ k := (ms_of _ _).1
  have hh := R_here hr h (q := p + 1 + ms (fW w n p) k) (by omega) hat
  have fin : ∀ (s0 : Int32) (v' : Int32) (dl : Nat), ms (fW w n p) (k + 1) = ms (fW w n p) k + dl → (s0 = if ms (fW w n p) (k + 1) < k + 1 then 1 else 0) → (ms (fW w n p) (k + 1) = k + 1 → v' = if w (p + 1 + k) = 45 then -1 else 1) →
      RDb S0 (si (si X 136 52 s0) 136 51 (nI (p + 1 + ms (fW w n p) k + dl))) ∧ RDk (si (si X 136 52 s0) 136 51 (nI (p + 1 + ms (fW w n p) k + dl))) w n p (k + 1) ∧ FR (fun a => a = 136) X (si (si X 136 52 s0) 136 51 (nI (p + 1 + ms (fW w n p) k + dl))) ∧ (∀ i, i ≠ 51 → i ≠ 52 → gi (si (si X 136 52 s0) 136 51 (nI (p + 1 + ms (fW w n p) k + dl))) 136 i = gi X 136 i) ∧ (ms (fW w n p) (k + 1) = k + 1 → v' = if w (p + 1 + k) = 45 then -1 else 1) := by
    intro s0 v' dl h2 h3 h4
    refine ⟨RDb_si (Or.inl rfl) (RDb_si (Or.inr (Or.inl rfl)) h), ⟨?_, ?_⟩, FR_si (P := fun a => a = 136) rfl (FR_si (P := fun a => a = 136) rfl (FR_refl X) _ _) _ _, fun i h1 h2 => ?_, h4⟩
    · rw [at_51s]
      congr 1
      rw [h2]
      omega
    · rw [at_51, at_52s]; exact h3
    · rw [gi_at, if_neg (by omega), gi_at, if_neg (by omega)]
  have bad : ∀ v1 : Int32, (ms (fW w n p) (k + 1) = ms (fW w n p) k + 0) → ms (fW w n p) (k + 1) < k + 1 → ∃ v Y, b_X12_readSign_25 v1 X = some (v, Y) ∧ RDb S0 Y ∧ RDk Y w n p (k + 1) ∧ FR (fun a => a = 136) X Y ∧ (∀ i, i ≠ 51 → i ≠ 52 → gi Y 136 i = gi X 136 i) ∧ (ms (fW w n p) (k + 1) = k + 1 → v = if w (p + 1 + k) = 45 then -1 else 1) := by
    intro v1 h2 h3
    have e0 : nI (p + 1 + ms (fW w n p) k) + 0 = nI (p + 1 + ms (fW w n p) k + 0) := by rw [Int32.add_zero]; rfl
    unfold b_X12_readSign_25 b_X12_readSign_30 b_X12_readSign_50
    rw [gd_t (by decide), nm_eq, at_52s, if_neg z10, at_52, hat, nm_eq, e0]
    by_cases q : v1 = 45
    · rw [if_pos q]
      exact ⟨_, _, rfl, fin 1 _ 0 h2 (by rw [if_pos h3]) (fun y => by omega)⟩
    · rw [if_neg q]
      exact ⟨_, _, rfl, fin 1 _ 0 h2 (by rw [if_pos h3]) (fun y => by omega)⟩
  unfold L_X12_readSign b_X12_readSign_0
  rw [hh, Option.bind_some]
  by_cases bd : ms (fW w n p) k < k
  · rw [if_pos bd] at hbd
    rw [hbd, if_neg z10]
    exact bad _ (by rw [ms_s, if_pos bd]; rfl) (by rw [ms_s, if_pos bd]; omega)
  · have eq : ms (fW w n p) k = k := by omega
    rw [if_neg bd] at hbd
    rw [hbd, if_pos rfl]
    have hc : fW w n p k = fitsB 43 (chW w n (p + 1 + k)) := by unfold fW; rw [hm]
    by_cases ft : fitsB 43 (chW w n (p + 1 + k)) = true
    · have i1 : hrW w n (p + 1 + ms (fW w n p) k) = 43 ∨ hrW w n (p + 1 + ms (fW w n p) k) = 45 := by rw [eq]; exact (hr_s w n _).mpr ft
      have ew : hrW w n (p + 1 + ms (fW w n p) k) = w (p + 1 + k) := by rw [eq]; exact hr_in (Or.inr (Or.inl rfl)) ft
      have hs : ms (fW w n p) (k + 1) = k + 1 := by rw [ms_s, if_neg bd, if_pos (by rw [hc]; exact ft)]
      have good : ∃ v Y, b_X12_readSign_29 (hrW w n (p + 1 + ms (fW w n p) k)) X = some (v, Y) ∧ RDb S0 Y ∧ RDk Y w n p (k + 1) ∧ FR (fun a => a = 136) X Y ∧ (∀ i, i ≠ 51 → i ≠ 52 → gi Y 136 i = gi X 136 i) ∧ (ms (fW w n p) (k + 1) = k + 1 → v = if w (p + 1 + k) = 45 then -1 else 1) := by
        unfold b_X12_readSign_29 b_X12_readSign_30 b_X12_readSign_50
        rw [gd_t (by decide), nm_eq, at_52s, if_pos rfl, at_52, hat, nm_eq, nI_1, ew]
        by_cases q : w (p + 1 + k) = 45
        · rw [if_pos q]
          exact ⟨_, _, rfl, fin 0 (-1) 1 (by rw [hs, eq]) (by rw [if_neg (by omega)]) (fun _ => by rw [if_pos q])⟩
        · rw [if_neg q]
          exact ⟨_, _, rfl, fin 0 1 1 (by rw [hs, eq]) (by rw [if_neg (by omega)]) (fun _ => by rw [if_neg q])⟩
      by_cases y : hrW w n (p + 1 + ms (fW w n p) k) = 43
      · rw [if_pos y]
        rw [y] at good ⊢
        exact good
      · rw [if_neg y, if_pos (i1.resolve_left y)]
        exact good
    · have i1 : ¬ (hrW w n (p + 1 + ms (fW w n p) k) = 43 ∨ hrW w n (p + 1 + ms (fW w n p) k) = 45) := fun y => ft ((hr_s w n _).mp (by rw [eq] at y; exact y))
      rw [if_neg (fun y => i1 (Or.inl y)), if_neg (fun y => i1 (Or.inr y))]
      exact bad _ (by rw [ms_s, if_neg bd, if_neg (by rw [hc]; exact ft), eq]; rfl) (by rw [ms_s, if_neg bd, if_neg (by rw [hc]; exact ft)]; omega)
end READ
