/-! Towns that change. -/
def wF (T : TT) (r i : Nat) (v : Int32) : TT := (T.1, T.2.1, uD T.2.2 r i v)
theorem upd_id (f : Nat → Int32) (i : Nat) : upd f i (f i) = f := by
  funext j
  by_cases e : j = i
  · subst e; exact upd_s _ _ _
  · exact upd_n _ _ e
theorem upd_u (f : Nat → Int32) (i : Nat) (v w : Int32) : upd (upd f i v) i w = upd f i w := by
  funext j
  by_cases e : j = i
  · subst e; rw [upd_s, upd_s]
  · rw [upd_n _ _ e, upd_n _ _ e, upd_n _ _ e]
theorem uD_u (D : Nat → Nat → Int32) (r i : Nat) (v w : Int32) : uD (uD D r i v) r i w = uD D r i w := by
  funext a
  by_cases e : a = r
  · subst e; rw [uD_s, uD_s, uD_s, upd_u]
  · rw [uD_n _ _ _ e, uD_n _ _ _ e, uD_n _ _ _ e]
theorem uD_id (D : Nat → Nat → Int32) (r i : Nat) : uD D r i (D r i) = D := by
  funext a
  by_cases e : a = r
  · subst e; rw [uD_s, upd_id]
  · rw [uD_n _ _ _ e]
theorem wF_u (T : TT) (r i : Nat) (v w : Int32) : wF (wF T r i v) r i w = wF T r i w := by
  unfold wF
  rw [uD_u]
theorem wF_id (T : TT) (r i : Nat) : wF T r i (tF T r i) = T := by
  unfold wF tF
  rw [uD_id]
theorem tF_w (T : TT) (r i : Nat) (v : Int32) : tF (wF T r i v) = uD (tF T) r i v := rfl
theorem uD_at (F : Nat → Nat → Int32) {r i a j : Nat} {v : Int32} (h : a ≠ r ∨ j ≠ i) : uD F r i v a j = F a j := by
  by_cases e : a = r
  · subst e; rw [uD_s, upd_n _ _ (h.resolve_left (fun z => z rfl))]
  · rw [uD_n _ _ _ e]
theorem uD_eq (F : Nat → Nat → Int32) (r i : Nat) (v : Int32) : uD F r i v r i = v := by rw [uD_s, upd_s]
theorem put_eq {S : St} {F : Nat → Nat → Int32} {b r i a j : Nat} {v : Int32} (h : gi S (b + a) j = F a j) : gi (si S (b + r) i v) (b + a) j = uD F r i v a j := by
  by_cases e : a = r
  · subst e
    rw [gi_si_s, uD_s]
    by_cases q : j = i
    · subst q; rw [upd_s, upd_s]
    · rw [upd_n _ _ q, upd_n _ _ q]; exact h
  · rw [gi_si_n _ _ _ (by omega), uD_n _ _ _ e]; exact h
theorem repC_put {S : St} {t : Nat} {T : TT} (ht : isTown t) (h : repC S t T) {r : Nat} (hr : 1 ≤ r ∧ r ≤ 13 ∨ r = 15) (i : Nat) (v : Int32) : repC (si S (t + 2 + r) i v) t (wF T r i v) := by
  have hl := isTown_lt ht
  have hq : ∀ q, gq (si S (t + 2 + r) i v) q = gq S q := fun q => gq_local rfl
  obtain ⟨a1, a2, a3, a4, a5, a6, a7, a8⟩ := h
  have o : ∀ a, a ≠ t + 2 + r → gi (si S (t + 2 + r) i v) a = gi S a := fun a ha => gi_si_n _ _ _ ha
  refine ⟨?_, ?_, ?_, fun p hp => ?_, fun f hf => ?_, fun k hk => ?_, fun a b ha hb => ?_, fun k hk => ?_⟩
  · rw [o t (by omega)]; exact a1
  · rw [o t (by omega)]; exact a2
  · rw [o t (by omega)]; exact a3
  · obtain ⟨⟨q, e1, e2⟩, b1, b2, b3, b4⟩ := a4 p hp
    refine ⟨⟨q, e1, ?_⟩, put_eq (b := t + 2) (a := 1) b1, put_eq (b := t + 2) (a := 2) b2, put_eq (b := t + 2) (a := 3) b3, put_eq (b := t + 2) (a := 4) b4⟩
    rw [hq, tF_w, uD_n _ _ _ (by omega)]
    exact e2
  · obtain ⟨b1, b2, b3, b4⟩ := a5 f hf
    exact ⟨put_eq (b := t + 2) (a := 5) b1, put_eq (b := t + 2) (a := 6) b2, put_eq (b := t + 2) (a := 7) b3, put_eq (b := t + 2) (a := 8) b4⟩
  · obtain ⟨b1, b2, b3, b4, b5⟩ := a6 k hk
    exact ⟨put_eq (b := t + 2) (a := 9) b1, put_eq (b := t + 2) (a := 10) b2, put_eq (b := t + 2) (a := 11) b3, put_eq (b := t + 2) (a := 12) b4, put_eq (b := t + 2) (a := 13) b5⟩
  · rw [o (t + 16) (by omega), tF_w, uD_n _ _ _ (by omega)]
    exact a7 a b ha hb
  · exact put_eq (b := t + 2) (a := 15) (a8 k hk)
theorem repR_put1 {S : St} {T : TT} (h : repR S T) {r : Nat} (hr : 1 ≤ r ∧ r ≤ 4) (i : Nat) (v : Int32) : repR (si S (148 + r) i v) (wF T r i v) := by
  obtain ⟨a1, a2, a3, a4, a5, a6, a7, a8, a9, a10⟩ := h
  have o : ∀ a, a ≠ 148 + r → gi (si S (148 + r) i v) a = gi S a := fun a ha => gi_si_n _ _ _ ha
  have d : ∀ a, 4 < a → tF (wF T r i v) a = tF T a := fun a ha => by rw [tF_w, uD_n _ _ _ (by omega)]
  refine ⟨?_, ?_, ?_, fun p hp => ?_, fun f hf => ?_, fun k hk => ?_, fun k hk => ?_, ?_, ?_, ?_⟩
  · rw [o 136 (by omega)]; exact a1
  · rw [o 136 (by omega)]; exact a2
  · rw [o 136 (by omega)]; exact a3
  · obtain ⟨b1, b2, b3, b4, b5, b6⟩ := a4 p hp
    refine ⟨?_, put_eq (b := 148) (a := 0) b2, put_eq (b := 148) (a := 1) b3, put_eq (b := 148) (a := 2) b4, put_eq (b := 148) (a := 3) b5, put_eq (b := 148) (a := 4) b6⟩
    rw [o 147 (by omega)]; exact b1
  · rw [o 138 (by omega), o 139 (by omega), o 140 (by omega), o 141 (by omega), d 5 (by omega), d 6 (by omega), d 7 (by omega), d 8 (by omega)]
    exact a5 f hf
  · rw [o 142 (by omega), o 143 (by omega), o 144 (by omega), o 145 (by omega), o 146 (by omega), d 9 (by omega), d 10 (by omega), d 11 (by omega), d 12 (by omega), d 13 (by omega)]
    exact a6 k hk
  · rw [o 137 (by omega), d 14 (by omega)]; exact a7 k hk
  · rw [o 136 (by omega), d 15 (by omega)]; exact a8
  · rw [o 136 (by omega), d 15 (by omega)]; exact a9
  · rw [o 136 (by omega), d 15 (by omega)]; exact a10
theorem repR_put5 {S : St} {T : TT} (h : repR S T) {r : Nat} (hr : 5 ≤ r ∧ r ≤ 13) (i : Nat) (v : Int32) : repR (si S (133 + r) i v) (wF T r i v) := by
  obtain ⟨a1, a2, a3, a4, a5, a6, a7, a8, a9, a10⟩ := h
  have o : ∀ a, a ≠ 133 + r → gi (si S (133 + r) i v) a = gi S a := fun a ha => gi_si_n _ _ _ ha
  have d : ∀ a, a < 5 ∨ 13 < a → tF (wF T r i v) a = tF T a := fun a ha => by rw [tF_w, uD_n _ _ _ (by omega)]
  refine ⟨?_, ?_, ?_, fun p hp => ?_, fun f hf => ?_, fun k hk => ?_, fun k hk => ?_, ?_, ?_, ?_⟩
  · rw [o 136 (by omega)]; exact a1
  · rw [o 136 (by omega)]; exact a2
  · rw [o 136 (by omega)]; exact a3
  · rw [o 147 (by omega), o 148 (by omega), o 149 (by omega), o 150 (by omega), o 151 (by omega), o 152 (by omega), d 0 (by omega), d 1 (by omega), d 2 (by omega), d 3 (by omega), d 4 (by omega)]
    exact a4 p hp
  · obtain ⟨b1, b2, b3, b4⟩ := a5 f hf
    exact ⟨put_eq (b := 133) (a := 5) b1, put_eq (b := 133) (a := 6) b2, put_eq (b := 133) (a := 7) b3, put_eq (b := 133) (a := 8) b4⟩
  · obtain ⟨b1, b2, b3, b4, b5⟩ := a6 k hk
    exact ⟨put_eq (b := 133) (a := 9) b1, put_eq (b := 133) (a := 10) b2, put_eq (b := 133) (a := 11) b3, put_eq (b := 133) (a := 12) b4, put_eq (b := 133) (a := 13) b5⟩
  · rw [o 137 (by omega), d 14 (by omega)]; exact a7 k hk
  · rw [o 136 (by omega), d 15 (by omega)]; exact a8
  · rw [o 136 (by omega), d 15 (by omega)]; exact a9
  · rw [o 136 (by omega), d 15 (by omega)]; exact a10
theorem repR_rule {S : St} {T : TT} (h : repR S T) {i : Nat} (hi : i < 3) (v : Int32) : repR (si S 136 (6 + i) v) (wF T 15 i v) := by
  obtain ⟨a1, a2, a3, a4, a5, a6, a7, a8, a9, a10⟩ := h
  have o : ∀ a, a ≠ 136 → gi (si S 136 (6 + i) v) a = gi S a := fun a ha => gi_si_n _ _ _ ha
  have o2 : ∀ j, j ≠ 6 + i → gi (si S 136 (6 + i) v) 136 j = gi S 136 j := fun j hj => by rw [gi_si_s, upd_n _ _ hj]
  have d : ∀ a, a < 15 → tF (wF T 15 i v) a = tF T a := fun a ha => by rw [tF_w, uD_n _ _ _ (by omega)]
  have e : ∀ j, gi S 136 (6 + j) = tF T 15 j → gi (si S 136 (6 + i) v) 136 (6 + j) = tF (wF T 15 i v) 15 j := fun j hj => by
    rw [gi_si_s, tF_w, uD_s]
    by_cases q : j = i
    · subst q; rw [upd_s, upd_s]
    · rw [upd_n _ _ q, upd_n _ _ (by omega)]; exact hj
  refine ⟨?_, ?_, ?_, fun p hp => ?_, fun f hf => ?_, fun k hk => ?_, fun k hk => ?_, e 0 a8, e 1 a9, e 2 a10⟩
  · rw [o2 15 (by omega)]; exact a1
  · rw [o2 1 (by omega)]; exact a2
  · rw [o2 9 (by omega)]; exact a3
  · rw [o 147 (by omega), o 148 (by omega), o 149 (by omega), o 150 (by omega), o 151 (by omega), o 152 (by omega), d 0 (by omega), d 1 (by omega), d 2 (by omega), d 3 (by omega), d 4 (by omega)]
    exact a4 p hp
  · rw [o 138 (by omega), o 139 (by omega), o 140 (by omega), o 141 (by omega), d 5 (by omega), d 6 (by omega), d 7 (by omega), d 8 (by omega)]
    exact a5 f hf
  · rw [o 142 (by omega), o 143 (by omega), o 144 (by omega), o 145 (by omega), o 146 (by omega), d 9 (by omega), d 10 (by omega), d 11 (by omega), d 12 (by omega), d 13 (by omega)]
    exact a6 k hk
  · rw [o 137 (by omega), d 14 (by omega)]; exact a7 k hk
theorem repR_slot {S : St} {T : TT} (h : repR S T) {j : Nat} (hj : j ≠ 1 ∧ j ≠ 6 ∧ j ≠ 7 ∧ j ≠ 8 ∧ j ≠ 9 ∧ j ≠ 15) (v : Int32) : repR (si S 136 j v) T := by
  have o : ∀ a, a ≠ 136 → gi (si S 136 j v) a = gi S a := fun a ha => gi_si_n _ _ _ ha
  have o2 : ∀ i, i ≠ j → gi (si S 136 j v) 136 i = gi S 136 i := fun i hi => by rw [gi_si_s, upd_n _ _ hi]
  unfold repR at h ⊢
  rw [o 137 (by decide), o 138 (by decide), o 139 (by decide), o 140 (by decide), o 141 (by decide), o 142 (by decide), o 143 (by decide), o 144 (by decide), o 145 (by decide), o 146 (by decide), o 147 (by decide), o 148 (by decide), o 149 (by decide), o 150 (by decide), o 151 (by decide), o 152 (by decide), o2 15 (by omega), o2 1 (by omega), o2 9 (by omega), o2 6 (by omega), o2 7 (by omega), o2 8 (by omega)]
  exact h
/-! Shelves, the image: what both sides hold between calls. -/
abbrev Sh : Type := Nat × (Nat × Int32) × (Nat × Nat) × (Nat → Int32)
abbrev MM : Type := TT × Option TT × (Nat → Sh)
def full (S : St) (t : Nat) : Prop := ∀ p, p < 8 → ∃ q z, gr S (t + 1) p = some q ∧ gq S q = some z ∧ q < tp S
def shC (S : St) (d : Nat) (w : Sh) : Prop := gi S 66 d = nI w.1 ∧ w.1 ≤ 2 ∧ (∃ q z, gr S 67 d = some q ∧ gq S q = some z ∧ q < tp S ∧ (w.1 = 1 → z = w.2.1 ∧ z.1 < 8 ∧ ∃ g, g < 10 ∧ z.2 = nI g)) ∧
  (w.1 = 2 → gi S (70 + 2 * d) 0 = nI w.2.2.1.1 ∧ w.2.2.1.1 ≤ 2 ∧ gi S (70 + 2 * d) 1 = nI w.2.2.1.2 ∧ w.2.2.1.2 ≤ 100 ∧ ∀ i, i < 100 → gi S (71 + 2 * d) i = w.2.2.2 i)
def IC (S : St) (M : MM) : Prop := 183 ≤ tp S ∧ WT M.1 ∧ repC S 1 M.1 ∧ full S 1 ∧ gi S 0 3 = (if M.2.1.isSome then 1 else 0) ∧ (∀ T, M.2.1 = some T → WT T ∧ repC S 37 T ∧ full S 37) ∧ ∀ d, d < 8 → shC S d (M.2.2 d)
def shR (S : St) (d : Nat) (w : Sh) : Prop := gi S 153 d = nI w.1 ∧ (w.1 = 1 → gi S 154 d = nI w.2.1.1 ∧ gi S 155 d = w.2.1.2) ∧ (w.1 = 2 → gi S 156 d = nI w.2.2.1.1 ∧ gi S 157 d = nI w.2.2.1.2 ∧ ∀ i, i < 100 → gl S 158 (100 * d + i) = (w.2.2.2 i).toInt64)
/-- a row of numbers that tells a town -/
def imgR (X : Nat → Int32) (T : TT) : Prop := X 0 = nI (tm T) ∧ X 1 = tF T 15 0 ∧ X 2 = tF T 15 1 ∧ X 3 = tF T 15 2 ∧ X 4 = nI (tk T) ∧ X 5 = nI (tn T) ∧ (∀ i, i < 16 → X (6 + i) = tF T 14 i) ∧
  (∀ f, f < tm T → X (22 + 4 * f) = tF T 5 f ∧ X (23 + 4 * f) = tF T 6 f ∧ X (24 + 4 * f) = tF T 7 f ∧ X (25 + 4 * f) = tF T 8 f) ∧
  (∀ i, i < tk T → X (46 + 5 * i) = tF T 9 i ∧ X (47 + 5 * i) = tF T 10 i ∧ X (48 + 5 * i) = tF T 11 i ∧ X (49 + 5 * i) = tF T 12 i ∧ X (50 + 5 * i) = tF T 13 i) ∧
  (∀ p, p < tn T → X (66 + 6 * p) = nI (tK T p) ∧ X (67 + 6 * p) = tF T 0 p ∧ X (68 + 6 * p) = tF T 1 p ∧ X (69 + 6 * p) = tF T 2 p ∧ X (70 + 6 * p) = tF T 3 p ∧ X (71 + 6 * p) = tF T 4 p)
def IR (S : St) (M : MM) : Prop := WT M.1 ∧ repR S M.1 ∧ gi S 136 29 = 63 ∧ gi S 136 30 = 0 ∧ gi S 136 46 = (if M.2.1.isSome then 1 else 0) ∧ (∀ T, M.2.1 = some T → imgR (gi S 173) T) ∧ ∀ d, d < 8 → shR S d (M.2.2 d)
