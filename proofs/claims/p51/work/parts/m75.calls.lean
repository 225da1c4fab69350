/-! Calls that run no day. -/
def okV (r i : Nat) (v : Int32) : Prop := (r = 1 → ∃ c, c < 4 ∧ v = nI c) ∧ (r = 2 → ∃ c, c < 24 ∧ v = nI c) ∧ (r = 3 → -9 ≤ v ∧ v ≤ 9) ∧ (r = 4 → ∃ c, c < 100 ∧ v = nI c) ∧ (r = 5 → ∃ c, c < 4 ∧ v = nI c) ∧ (r = 6 → -9 ≤ v ∧ v ≤ 9) ∧ (r = 7 → ∃ c, c < 24 ∧ v = nI c) ∧ (r = 8 → ∃ c, c ≤ 10 ∧ v = nI c) ∧
  (r = 9 → ∃ c, c < 4 ∧ v = nI c) ∧ (r = 10 → v = 1 ∨ v = -1) ∧ (r = 11 → ∃ s, 1 ≤ s ∧ s ≤ 60 ∧ v = nI s) ∧ (r = 12 → ∃ c, c < 100 ∧ v = nI c) ∧ (r = 13 → ∃ c, c < 24 ∧ v = nI c) ∧ (r = 15 → (i = 0 → ∃ o, o < 24 ∧ v = nI o) ∧ (i = 1 → ∃ f, f < 10 ∧ v = nI f) ∧ (i = 2 → ∃ q, 1 ≤ q ∧ q < 10 ∧ v = nI q)) ∧ r ≠ 0 ∧ r ≠ 14
theorem uD_p {F : Nat → Nat → Int32} {r i a j : Nat} {v : Int32} {P : Int32 → Prop} (h : P (F a j)) (hv : a = r → j = i → P v) : P (uD F r i v a j) := by
  by_cases e : a = r
  · subst e
    rw [uD_s]
    by_cases q : j = i
    · subst q; rw [upd_s]; exact hv rfl rfl
    · rw [upd_n _ _ q]; exact h
  · rw [uD_n _ _ _ e]; exact h
theorem WT_put {T : TT} (h : WT T) {r i : Nat} {v : Int32} (ok : okV r i v) : WT (wF T r i v) := by
  obtain ⟨o1, o2, o3, o4, o5, o6, o7, o8, o9, o10, o11, o12, o13, o15, r0, r14⟩ := ok
  obtain ⟨h1, h2, h3, h4, h5, h6, h7, h8, h9, h10, h11⟩ := h
  have d0 : tF (wF T r i v) 0 = tF T 0 := by rw [tF_w, uD_n _ _ _ (Ne.symm r0)]
  have d14 : tF (wF T r i v) 14 = tF T 14 := by rw [tF_w, uD_n _ _ _ (Ne.symm r14)]
  refine ⟨h1, h2, h3, fun p hp => ?_, fun f hf => ?_, fun k hk => ?_, ?_, ?_, ?_, ?_, ?_⟩
  · obtain ⟨b1, b2, b3, b4, b5, b6⟩ := h4 p hp
    refine ⟨b1, by rw [d0]; exact b2, ?_, ?_, ?_, ?_⟩
    · exact uD_p (P := fun z => ∃ c, c < 4 ∧ z = nI c) b3 (fun e _ => o1 e.symm)
    · exact uD_p (P := fun z => ∃ c, c < 24 ∧ z = nI c) b4 (fun e _ => o2 e.symm)
    · exact uD_p (P := fun z => -9 ≤ z ∧ z ≤ 9) b5 (fun e _ => o3 e.symm)
    · exact uD_p (P := fun z => ∃ c, c < 100 ∧ z = nI c) b6 (fun e _ => o4 e.symm)
  · obtain ⟨b1, b2, b3, b4⟩ := h5 f hf
    refine ⟨?_, ?_, ?_, ?_⟩
    · exact uD_p (P := fun z => ∃ c, c < 4 ∧ z = nI c) b1 (fun e _ => o5 e.symm)
    · exact uD_p (P := fun z => -9 ≤ z ∧ z ≤ 9) b2 (fun e _ => o6 e.symm)
    · exact uD_p (P := fun z => ∃ c, c < 24 ∧ z = nI c) b3 (fun e _ => o7 e.symm)
    · exact uD_p (P := fun z => ∃ c, c ≤ 10 ∧ z = nI c) b4 (fun e _ => o8 e.symm)
  · obtain ⟨b1, b2, b3, b4, b5⟩ := h6 k hk
    refine ⟨?_, ?_, ?_, ?_, ?_⟩
    · exact uD_p (P := fun z => ∃ c, c < 4 ∧ z = nI c) b1 (fun e _ => o9 e.symm)
    · exact uD_p (P := fun z => z = 1 ∨ z = -1) b2 (fun e _ => o10 e.symm)
    · exact uD_p (P := fun z => ∃ s, 1 ≤ s ∧ s ≤ 60 ∧ z = nI s) b3 (fun e _ => o11 e.symm)
    · exact uD_p (P := fun z => ∃ c, c < 100 ∧ z = nI c) b4 (fun e _ => o12 e.symm)
    · exact uD_p (P := fun z => ∃ c, c < 24 ∧ z = nI c) b5 (fun e _ => o13 e.symm)
  · rw [d14]; exact h7
  · rw [d14]; exact h8
  · exact uD_p (P := fun z => ∃ o, o < 24 ∧ z = nI o) h9 (fun e q => (o15 e.symm).1 q.symm)
  · exact uD_p (P := fun z => ∃ f, f < 10 ∧ z = nI f) h10 (fun e q => (o15 e.symm).2.1 q.symm)
  · exact uD_p (P := fun z => ∃ q, 1 ≤ q ∧ q < 10 ∧ z = nI q) h11 (fun e q => (o15 e.symm).2.2 q.symm)
theorem okV_1 {i : Nat} {c : Nat} (h : c < 4) : okV 1 i (nI c) := by unfold okV; simp; exact ⟨c, h, rfl⟩
theorem okV_2 {i : Nat} {c : Nat} (h : c < 24) : okV 2 i (nI c) := by unfold okV; simp; exact ⟨c, h, rfl⟩
theorem okV_3 {i : Nat} {v : Int32} (h : -9 ≤ v ∧ v ≤ 9) : okV 3 i v := by unfold okV; simp; exact h
theorem okV_4 {i : Nat} {c : Nat} (h : c < 100) : okV 4 i (nI c) := by unfold okV; simp; exact ⟨c, h, rfl⟩
theorem okV_8 {i : Nat} {c : Nat} (h : c ≤ 10) : okV 8 i (nI c) := by unfold okV; simp; exact ⟨c, h, rfl⟩
theorem okV_9 {i : Nat} {c : Nat} (h : c < 4) : okV 9 i (nI c) := by unfold okV; simp; exact ⟨c, h, rfl⟩
theorem okV_11 {i : Nat} {c : Nat} (h : 1 ≤ c ∧ c ≤ 60) : okV 11 i (nI c) := by unfold okV; simp; exact ⟨c, h.1, h.2, rfl⟩
theorem okV_15a {c : Nat} (h : c < 24) : okV 15 0 (nI c) := by unfold okV; simp; exact ⟨c, h, rfl⟩
theorem okV_15b {c : Nat} (h : c < 10) : okV 15 1 (nI c) := by unfold okV; simp; exact ⟨c, h, rfl⟩
theorem okV_15c {c : Nat} (h : 1 ≤ c ∧ c < 10) : okV 15 2 (nI c) := by unfold okV; simp; exact ⟨c, h.1, h.2, rfl⟩
section SIMPLE
variable {S : St} {T : TT} {m : Option TT × (Nat → Sh)}
theorem IC_town {S' : St} {T' : TT} (hW : WT T') (hR : repC S' 1 T') (hf : full S' 1) (h1 : ∀ a, a = 0 ∨ 37 ≤ a ∧ a < 55 ∨ 66 ≤ a ∧ a < 86 → gi S' a = gi S a ∧ gr S' a = gr S a) (h2 : ∀ q, q < tp S → gp S' q = gp S q) (h3 : tp S ≤ tp S') (g : IC S (T, m)) : IC S' (T', m) := by
  obtain ⟨g0, g1, g2, g3, g4, g5, g6⟩ := g
  have hq : ∀ q, q < tp S → gq S' q = gq S q := fun q hq => gq_local (h2 q hq)
  refine ⟨by omega, hW, hR, hf, by rw [(h1 0 (by omega)).1]; exact g4, fun T1 hT => ?_, fun d hd => ?_⟩
  · obtain ⟨w1, w2, w3⟩ := g5 T1 hT
    refine ⟨w1, ?_, full_congr (h1 38 (by omega)).2 h2 h3 w3⟩
    have o : ∀ a, 37 ≤ a → a < 55 → gi S' a = gi S a ∧ gr S' a = gr S a := fun a x y => h1 a (by omega)
    obtain ⟨a1, a2, a3, a4, a5, a6, a7, a8⟩ := w2
    refine ⟨by rw [(o 37 (by omega) (by omega)).1]; exact a1, by rw [(o 37 (by omega) (by omega)).1]; exact a2, by rw [(o 37 (by omega) (by omega)).1]; exact a3, fun p hp => ?_, ?_, ?_, ?_, ?_⟩
    · obtain ⟨⟨q, e1, e2⟩, b1, b2, b3, b4⟩ := a4 p hp
      obtain ⟨q', z, f1, f2, f3⟩ := w3 p (by have := w1.1; omega)
      have : q' = q := Option.some.inj (f1.symm.trans e1)
      subst this
      refine ⟨⟨q', by rw [(o 38 (by omega) (by omega)).2]; exact e1, by rw [hq q' f3]; exact e2⟩, ?_, ?_, ?_, ?_⟩
      · rw [(o (37 + 3) (by omega) (by omega)).1]; exact b1
      · rw [(o (37 + 4) (by omega) (by omega)).1]; exact b2
      · rw [(o (37 + 5) (by omega) (by omega)).1]; exact b3
      · rw [(o (37 + 6) (by omega) (by omega)).1]; exact b4
    · rw [(o (37 + 7) (by omega) (by omega)).1, (o (37 + 8) (by omega) (by omega)).1, (o (37 + 9) (by omega) (by omega)).1, (o (37 + 10) (by omega) (by omega)).1]; exact a5
    · rw [(o (37 + 11) (by omega) (by omega)).1, (o (37 + 12) (by omega) (by omega)).1, (o (37 + 13) (by omega) (by omega)).1, (o (37 + 14) (by omega) (by omega)).1, (o (37 + 15) (by omega) (by omega)).1]; exact a6
    · rw [(o (37 + 16) (by omega) (by omega)).1]; exact a7
    · rw [(o (37 + 17) (by omega) (by omega)).1]; exact a8
  · obtain ⟨b1, b2, ⟨q, z, e1, e2, e3, e4⟩, b4⟩ := g6 d hd
    unfold shC
    rw [(h1 66 (by omega)).1, (h1 67 (by omega)).2, (h1 (70 + 2 * d) (by omega)).1, (h1 (71 + 2 * d) (by omega)).1]
    exact ⟨b1, b2, ⟨q, z, e1, by rw [hq q e3]; exact e2, by omega, e4⟩, b4⟩
theorem IC_put (g : IC S (T, m)) {r i : Nat} {v : Int32} (hr : 1 ≤ r ∧ r ≤ 13 ∨ r = 15) (ok : okV r i v) : IC (si S (1 + 2 + r) i v) (wF T r i v, m) := by
  have o : ∀ a, a ≠ 1 + 2 + r → gi (si S (1 + 2 + r) i v) a = gi S a := fun a ha => gi_si_n _ _ _ ha
  exact IC_town (S := S) (T := T) (WT_put g.2.1 ok) (repC_put (Or.inl rfl) g.2.2.1 hr i v) g.2.2.2.1 (fun a ha => ⟨o a (by omega), rfl⟩) (fun _ _ => rfl) (Nat.le_refl _) g
end SIMPLE