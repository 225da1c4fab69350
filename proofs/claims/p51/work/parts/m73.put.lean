/-! Towns that change. -/
def wF (T : TT) (r i : Nat) (v : Int32) : TT := (T.1, T.2.1, uD T.2.2 r i v)
theorem upd_id (f : Nat → Int32) (i : Nat) : upd f i (f i) = f := by
  funext j
  by_cases e : j = i
  · subst e; exact upd_s _ _ _
  · exact upd_n _ _ e
theorem upd_u (f : Nat → Int32) (i : Nat) (v w : Int32) : upd (upd f i v) i w = upd f i w := by
  funext j
  by_cases e : j = i
  · subst e; rw [upd_s, upd_s]
  · rw [upd_n _ _ e, upd_n _ _ e, upd_n _ _ e]
theorem uD_u (D : Nat → Nat → Int32) (r i : Nat) (v w : Int32) : uD (uD D r i v) r i w = uD D r i w := by
  funext a
  by_cases e : a = r
  · subst e; rw [uD_s, uD_s, uD_s, upd_u]
  · rw [uD_n _ _ _ e, uD_n _ _ _ e, uD_n _ _ _ e]
theorem uD_id (D : Nat → Nat → Int32) (r i : Nat) : uD D r i (D r i) = D := by
  funext a
  by_cases e : a = r
  · subst e; rw [uD_s, upd_id]
  · rw [uD_n _ _ _ e]
theorem wF_u (T : TT) (r i : Nat) (v w : Int32) : wF (wF T r i v) r i w = wF T r i w := by
  unfold wF
  rw [uD_u]
theorem wF_id (T : TT) (r i : Nat) : wF T r i (tF T r i) = T := by
  unfold wF tF
  rw [uD_id]
theorem tF_w (T : TT) (r i : Nat) (v : Int32) : tF (wF T r i v) = uD (tF T) r i v := rfl
theorem uD_at (F : Nat → Nat → Int32) {r i a j : Nat} {v : Int32} (h : a ≠ r ∨ j ≠ i) : uD F r i v a j = F a j := by
  by_cases e : a = r
  · subst e; rw [uD_s, upd_n _ _ (h.resolve_left (fun z => z rfl))]
  · rw [uD_n _ _ _ e]
theorem uD_eq (F : Nat → Nat → Int32) (r i : Nat) (v : Int32) : uD F r i v r i = v := by rw [uD_s, upd_s]
theorem put_eq {S : St} {F : Nat → Nat → Int32} {b r i a j : Nat} {v : Int32} (h : gi S (b + a) j = F a j) : gi (si S (b + r) i v) (b + a) j = uD F r i v a j := by
  by_cases e : a = r
  · subst e
    rw [gi_si_s, uD_s]
    by_cases q : j = i
    · subst q; rw [upd_s, upd_s]
    · rw [upd_n _ _ q, upd_n _ _ q]; exact h
  · rw [gi_si_n _ _ _ (by omega), uD_n _ _ _ e]; exact h
theorem repC_put {S : St} {t : Nat} {T : TT} (ht : isTown t) (h : repC S t T) {r : Nat} (hr : 1 ≤ r ∧ r ≤ 13 ∨ r = 15) (i : Nat) (v : Int32) : repC (si S (t + 2 + r) i v) t (wF T r i v) := by
  have hl := isTown_lt ht
  have hq : ∀ q, gq (si S (t + 2 + r) i v) q = gq S q := fun q => gq_local rfl
  obtain ⟨a1, a2, a3, a4, a5, a6, a7, a8⟩ := h
  have o : ∀ a, a ≠ t + 2 + r → gi (si S (t + 2 + r) i v) a = gi S a := fun a ha => gi_si_n _ _ _ ha
  refine ⟨?_, ?_, ?_, fun p hp => ?_, fun f hf => ?_, fun k hk => ?_, fun a b ha hb => ?_, fun k hk => ?_⟩
  · rw [o t (by omega)]; exact a1
  · rw [o t (by omega)]; exact a2
  · rw [o t (by omega)]; exact a3
  · obtain ⟨⟨q, e1, e2⟩, b1, b2, b3, b4⟩ := a4 p hp
    refine ⟨⟨q, e1, ?_⟩, put_eq (b := t + 2) (a := 1) b1, put_eq (b := t + 2) (a := 2) b2, put_eq (b := t + 2) (a := 3) b3, put_eq (b := t + 2) (a := 4) b4⟩
    rw [hq, tF_w, uD_n _ _ _ (by omega)]
    exact e2
  · obtain ⟨b1, b2, b3, b4⟩ := a5 f hf
    exact ⟨put_eq (b := t + 2) (a := 5) b1, put_eq (b := t + 2) (a := 6) b2, put_eq (b := t + 2) (a := 7) b3, put_eq (b := t + 2) (a := 8) b4⟩
  · obtain ⟨b1, b2, b3, b4, b5⟩ := a6 k hk
    exact ⟨put_eq (b := t + 2) (a := 9) b1, put_eq (b := t + 2) (a := 10) b2, put_eq (b := t + 2) (a := 11) b3, put_eq (b := t + 2) (a := 12) b4, put_eq (b := t + 2) (a := 13) b5⟩
  · rw [o (t + 16) (by omega), tF_w, uD_n _ _ _ (by omega)]
    exact a7 a b ha hb
  · exact put_eq (b := t + 2) (a := 15) (a8 k hk)
/-! Shelves, the image: what both sides hold between calls. -/
abbrev Sh : Type := Nat × (Nat × Int32) × (Nat × Nat) × (Nat → Int32)
abbrev MM : Type := TT × Option TT × (Nat → Sh)
def full (S : St) (t : Nat) : Prop := ∀ p, p < 8 → ∃ q z, gr S (t + 1) p = some q ∧ gq S q = some z ∧ q < tp S
def shC (S : St) (d : Nat) (w : Sh) : Prop := gi S 66 d = nI w.1 ∧ w.1 ≤ 2 ∧ (∃ q z, gr S 67 d = some q ∧ gq S q = some z ∧ q < tp S ∧ (w.1 = 1 → z = w.2.1 ∧ z.1 < 8 ∧ ∃ g, g < 10 ∧ z.2 = nI g)) ∧
  (w.1 = 2 → gi S (70 + 2 * d) 0 = nI w.2.2.1.1 ∧ w.2.2.1.1 ≤ 2 ∧ gi S (70 + 2 * d) 1 = nI w.2.2.1.2 ∧ w.2.2.1.2 ≤ 100 ∧ ∀ i, i < 100 → gi S (71 + 2 * d) i = w.2.2.2 i)
def IC (S : St) (M : MM) : Prop := 183 ≤ tp S ∧ WT M.1 ∧ repC S 1 M.1 ∧ full S 1 ∧ gi S 0 3 = (if M.2.1.isSome then 1 else 0) ∧ (∀ T, M.2.1 = some T → WT T ∧ repC S 37 T ∧ full S 37) ∧ ∀ d, d < 8 → shC S d (M.2.2 d)