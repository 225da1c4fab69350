/-! Runs of days: what each side writes then; a Town becomes another. -/
def UpD (S S' : St) : Prop := (∀ a, (a < 19 ∨ 37 ≤ a ∧ a < 55 ∨ 66 ≤ a ∧ a < 86 ∨ 136 ≤ a) → gi S' a = gi S a ∧ gr S' a = gr S a) ∧ (∀ a, gl S' a = gl S a) ∧ (∀ a, gp S' a = gp S a) ∧ tp S' = tp S
theorem UpD_refl (S : St) : UpD S S := ⟨fun _ _ => ⟨rfl, rfl⟩, fun _ => rfl, fun _ => rfl, rfl⟩
theorem UpD_tr {S S' S'' : St} (h1 : UpD S S') (h2 : UpD S' S'') : UpD S S'' := ⟨fun a ha => ⟨(h2.1 a ha).1.trans (h1.1 a ha).1, (h2.1 a ha).2.trans (h1.1 a ha).2⟩, fun a => (h2.2.1 a).trans (h1.2.1 a), fun a => (h2.2.2.1 a).trans (h1.2.2.1 a), h2.2.2.2.trans h1.2.2.2⟩
theorem UpD_FR {P : Nat → Prop} {S S' : St} (hp : ∀ a, P a → 19 ≤ a ∧ a < 37 ∨ 55 ≤ a ∧ a < 66 ∨ 86 ≤ a ∧ a < 136) (h : FR P S S') : UpD S S' := ⟨fun a ha => ⟨h.1 a (fun z => by have := hp a z; omega), FR_gr h a⟩, fun a => FR_gl h a, fun a => FR_gp h a, FR_tp h⟩
theorem UpD_si {S S' : St} {k : Nat} (hk : 19 ≤ k ∧ k < 37 ∨ 55 ≤ k ∧ k < 66 ∨ 86 ≤ k ∧ k < 136) (h : UpD S S') (i : Nat) (v : Int32) : UpD S (si S' k i v) := UpD_tr h (UpD_FR (P := fun a => a = k) (fun a e => by omega) (FR_si (P := fun a => a = k) rfl (FR_refl S') i v))
theorem UpD_sr {S S' : St} {k : Nat} (hk : 19 ≤ k ∧ k < 37 ∨ 55 ≤ k ∧ k < 66 ∨ 86 ≤ k ∧ k < 136) (h : UpD S S') (i : Nat) (v : Option Nat) : UpD S (sr S' k i v) := UpD_tr h ⟨fun a ha => ⟨rfl, gr_sr_n _ _ _ (by omega)⟩, fun _ => rfl, fun _ => rfl, rfl⟩
theorem UpD_sc {S S' : St} {k0 sp k1 dp n : Nat} (hk : 19 ≤ k1 ∧ k1 < 37 ∨ 55 ≤ k1 ∧ k1 < 66 ∨ 86 ≤ k1 ∧ k1 < 136) (h : UpD S S') : UpD S (sc S' k0 sp k1 dp n) := UpD_tr h ⟨fun a ha => ⟨gi_sc_n _ _ _ _ _ (by omega), rfl⟩, fun _ => rfl, fun _ => rfl, rfl⟩
theorem UpD_C {S S' : St} (h : UpD S S') : UpC S S' := fun a ha => ⟨(h.1 a (by omega)).1, h.2.1 a, (h.1 a (by omega)).2⟩
theorem IC_D {S S' : St} {M : MM} (h : UpD S S') (c : IC S M) : IC S' M := IC_congr (fun a ha => h.1 a (by omega)) h.2.2.1 h.2.2.2 c
theorem repC_D {S S' : St} {t : Nat} {T : TT} (ht : t = 1 ∨ t = 37) (h : UpD S S') (r : repC S t T) : repC S' t T := by
  have hq : ∀ q, gq S' q = gq S q := fun q => gq_local (h.2.2.1 q)
  have o : ∀ a, t ≤ a → a < t + 18 → gi S' a = gi S a ∧ gr S' a = gr S a := fun a h1' h2' => h.1 a (by rcases ht with rfl | rfl <;> omega)
  unfold repC at r ⊢
  rw [(o t (by omega) (by omega)).1, (o (t + 1) (by omega) (by omega)).2, (o (t + 3) (by omega) (by omega)).1, (o (t + 4) (by omega) (by omega)).1, (o (t + 5) (by omega) (by omega)).1, (o (t + 6) (by omega) (by omega)).1, (o (t + 7) (by omega) (by omega)).1, (o (t + 8) (by omega) (by omega)).1, (o (t + 9) (by omega) (by omega)).1, (o (t + 10) (by omega) (by omega)).1, (o (t + 11) (by omega) (by omega)).1, (o (t + 12) (by omega) (by omega)).1, (o (t + 13) (by omega) (by omega)).1, (o (t + 14) (by omega) (by omega)).1, (o (t + 15) (by omega) (by omega)).1, (o (t + 16) (by omega) (by omega)).1, (o (t + 17) (by omega) (by omega)).1]
  simp only [hq]
  exact r
/-- only a Town's own places changed -/
def FT (t : Nat) (S S' : St) : Prop := (∀ a, ¬ PT t a → gi S' a = gi S a ∧ gr S' a = gr S a) ∧ (∀ a, gl S' a = gl S a) ∧ (∀ a, gp S' a = gp S a) ∧ tp S' = tp S
theorem FT_refl (t : Nat) (S : St) : FT t S S := ⟨fun _ _ => ⟨rfl, rfl⟩, fun _ => rfl, fun _ => rfl, rfl⟩
theorem FT_tr {t : Nat} {S S' S'' : St} (h1 : FT t S S') (h2 : FT t S' S'') : FT t S S'' := ⟨fun a ha => ⟨(h2.1 a ha).1.trans (h1.1 a ha).1, (h2.1 a ha).2.trans (h1.1 a ha).2⟩, fun a => (h2.2.1 a).trans (h1.2.1 a), fun a => (h2.2.2.1 a).trans (h1.2.2.1 a), h2.2.2.2.trans h1.2.2.2⟩
theorem FT_si {t k : Nat} {S S' : St} (hk : PT t k) (h : FT t S S') (i : Nat) (v : Int32) : FT t S (si S' k i v) := FT_tr h ⟨fun a ha => ⟨gi_si_n _ _ _ (fun e => ha (e ▸ hk)), rfl⟩, fun _ => rfl, fun _ => rfl, rfl⟩
theorem FT_sr {t k : Nat} {S S' : St} (hk : PT t k) (h : FT t S S') (i : Nat) (v : Option Nat) : FT t S (sr S' k i v) := FT_tr h ⟨fun a ha => ⟨rfl, gr_sr_n _ _ _ (fun e => ha (e ▸ hk))⟩, fun _ => rfl, fun _ => rfl, rfl⟩
theorem FT_sc {t k0 sp k1 dp n : Nat} {S S' : St} (hk : PT t k1) (h : FT t S S') : FT t S (sc S' k0 sp k1 dp n) := FT_tr h ⟨fun a ha => ⟨gi_sc_n _ _ _ _ _ (fun e => ha (e ▸ hk)), rfl⟩, fun _ => rfl, fun _ => rfl, rfl⟩
theorem FT_FR {t : Nat} {S S' : St} (h : FR (PT t) S S') : FT t S S' := ⟨fun a ha => ⟨h.1 a ha, FR_gr h a⟩, fun a => FR_gl h a, fun a => FR_gp h a, FR_tp h⟩
theorem UpD_FT {S S' : St} (h : FT 19 S S') : UpD S S' := ⟨fun a ha => h.1 a (fun z => by have := z.1; have := z.2; omega), h.2.1, h.2.2.1, h.2.2.2⟩
section BECOME
variable {S : St} {t u : Nat} {T : TT}
def cpA (S X : St) (t u k : Nat) : Prop := gi X t 0 = gi S u 0 ∧ ∀ p, p < k → gr X (t + 1) p = gr S (u + 1) p ∧ gi X (t + 3) p = gi S (u + 3) p ∧ gi X (t + 4) p = gi S (u + 4) p ∧ gi X (t + 5) p = gi S (u + 5) p ∧ gi X (t + 6) p = gi S (u + 6) p
def cpB (S X : St) (t u k : Nat) : Prop := gi X t 6 = gi S u 6 ∧ ∀ p, p < k → gi X (t + 7) p = gi S (u + 7) p ∧ gi X (t + 8) p = gi S (u + 8) p ∧ gi X (t + 9) p = gi S (u + 9) p ∧ gi X (t + 10) p = gi S (u + 10) p
def cpC (S X : St) (t u k : Nat) : Prop := gi X t 11 = gi S u 11 ∧ ∀ p, p < k → gi X (t + 11) p = gi S (u + 11) p ∧ gi X (t + 12) p = gi S (u + 12) p ∧ gi X (t + 13) p = gi S (u + 13) p ∧ gi X (t + 14) p = gi S (u + 14) p ∧ gi X (t + 15) p = gi S (u + 15) p
def cpE (S X : St) (t u : Nat) : Prop := FT t S X ∧ cpA S X t u 8 ∧ cpB S X t u 6 ∧ cpC S X t u 3 ∧ (∀ i, i < 4 → gi X (t + 16) i = gi S (u + 16) i) ∧ ∀ i, i < 3 → gi X (t + 17) i = gi S (u + 17) i
theorem upd_if (f : Nat → Int32) (i j : Nat) (v : Int32) : upd f i v j = if j = i then v else f j := rfl
theorem cpy_0 (f g : Nat → Int32) {n i : Nat} (h : i < n) : va_cpy f g 0 0 n i = f i := by
  unfold va_cpy
  simp [h]
theorem become_C {X : St} (ne : u + 18 ≤ t ∨ t + 18 ≤ u) (hF : FT t S X) (hA : cpA S X t u 8) (hB : cpB S X t u 6) : ∃ Y, b_X10_become_152 t u X = some Y ∧ cpE S Y t u := by
  have oX : ∀ a, u ≤ a → a ≤ u + 17 → gi X a = gi S a := fun a h1 h2 => (hF.1 a (fun z => by have := z.1; have := z.2; omega)).1
  unfold b_X10_become_152
  rw [nm_eq]
  refine lp_inv (m := 3) (I := fun k x => x.1 = nI k ∧ FT t S x.2 ∧ cpA S x.2 t u 8 ∧ cpB S x.2 t u 6 ∧ cpC S x.2 t u k) (fun k x hk hI => ?_) 1000 0 _ (Nat.zero_le _) (by omega) ⟨rfl, FT_si ⟨by omega, by omega⟩ hF _ _, ?_, ?_, ?_⟩
  · obtain ⟨v, Y⟩ := x
    obtain ⟨e1, hF, hA, hB, hC⟩ := hI
    simp only at e1 hF hA hB hC
    subst e1
    have oY : ∀ a, u ≤ a → a ≤ u + 17 → gi Y a = gi S a := fun a h1 h2 => (hF.1 a (fun z => by have := z.1; have := z.2; omega)).1
    unfold l_X10_become_162 b_X10_become_162
    dsimp only
    rcases Nat.lt_or_ge k 3 with hl | hl
    · refine Or.inr ⟨hl, ?_⟩
      have e8 : ¬ (3 : Int32) ≤ nI k := nI_ge (b := 3) hl (by decide)
      rw [if_neg e8]
      simp only [gd_t (inb_n hl), tn_n (show k < 2 ^ 31 by omega), nm, nI_1]
      refine ⟨_, rfl, rfl, FT_si ⟨by omega, by omega⟩ (FT_si ⟨by omega, by omega⟩ (FT_si ⟨by omega, by omega⟩ (FT_si ⟨by omega, by omega⟩ (FT_si ⟨by omega, by omega⟩ hF _ _) _ _) _ _) _ _) _ _, ?_, ?_, ?_⟩
      · unfold cpA at hA ⊢
        simp (disch := omega) only [gi_si_n]
        exact hA
      · unfold cpB at hB ⊢
        simp (disch := omega) only [gi_si_n]
        exact hB
      · unfold cpC at hC ⊢
        simp (disch := omega) only [gi_si_n, gi_si_s, oY]
        refine ⟨hC.1, fun p hp => ?_⟩
        simp only [upd_if]
        by_cases z : p = k
        · subst z; simp
        · simp only [if_neg z]
          exact hC.2 p (by omega)
    · have e : k = 3 := by omega
      subst e
      have e8 : (3 : Int32) ≤ nI 3 := by decide
      rw [if_pos e8, gd_t (by decide), nm_eq, gd_t (by decide), nm_eq]
      refine Or.inl ⟨_, rfl, FT_sc ⟨by omega, by omega⟩ (FT_sc ⟨by omega, by omega⟩ hF), ?_, ?_, ?_, ?_, ?_⟩
      · unfold cpA at hA ⊢
        simp (disch := omega) only [gi_sc_n]
        exact hA
      · unfold cpB at hB ⊢
        simp (disch := omega) only [gi_sc_n]
        exact hB
      · unfold cpC at hC ⊢
        simp (disch := omega) only [gi_sc_n]
        exact hC
      · intro i hi
        simp (disch := omega) only [gi_sc_n, gi_sc_s, oY]
        exact cpy_0 _ _ hi
      · intro i hi
        simp (disch := omega) only [gi_sc_n, gi_sc_s, oY]
        exact cpy_0 _ _ hi
  · unfold cpA at hA ⊢
    simp (disch := omega) only [gi_si_n, gi_si_s, upd_n]
    exact hA
  · unfold cpB at hB ⊢
    simp (disch := omega) only [gi_si_n, gi_si_s, upd_n]
    exact hB
  · unfold cpC
    simp (disch := omega) only [gi_si_s, upd_s, oX]
    exact ⟨trivial, fun p hp => absurd hp (Nat.not_lt_zero p)⟩
theorem become_B {X : St} (ne : u + 18 ≤ t ∨ t + 18 ≤ u) (hF : FT t S X) (hA : cpA S X t u 8) : ∃ Y, b_X10_become_82 t u X = some Y ∧ cpE S Y t u := by
  have oX : ∀ a, u ≤ a → a ≤ u + 17 → gi X a = gi S a := fun a h1 h2 => (hF.1 a (fun z => by have := z.1; have := z.2; omega)).1
  unfold b_X10_become_82
  rw [nm_eq]
  refine lp_inv (m := 6) (I := fun k x => x.1 = nI k ∧ FT t S x.2 ∧ cpA S x.2 t u 8 ∧ cpB S x.2 t u k) (fun k x hk hI => ?_) 1000 0 _ (Nat.zero_le _) (by omega) ⟨rfl, FT_si ⟨by omega, by omega⟩ hF _ _, ?_, ?_⟩
  · obtain ⟨v, Y⟩ := x
    obtain ⟨e1, hF, hA, hB⟩ := hI
    simp only at e1 hF hA hB
    subst e1
    have oY : ∀ a, u ≤ a → a ≤ u + 17 → gi Y a = gi S a := fun a h1 h2 => (hF.1 a (fun z => by have := z.1; have := z.2; omega)).1
    unfold l_X10_become_92 b_X10_become_92
    dsimp only
    rcases Nat.lt_or_ge k 6 with hl | hl
    · refine Or.inr ⟨hl, ?_⟩
      have e8 : ¬ (6 : Int32) ≤ nI k := nI_ge (b := 6) hl (by decide)
      rw [if_neg e8]
      simp only [gd_t (inb_n hl), tn_n (show k < 2 ^ 31 by omega), nm, nI_1]
      refine ⟨_, rfl, rfl, FT_si ⟨by omega, by omega⟩ (FT_si ⟨by omega, by omega⟩ (FT_si ⟨by omega, by omega⟩ (FT_si ⟨by omega, by omega⟩ hF _ _) _ _) _ _) _ _, ?_, ?_⟩
      · unfold cpA at hA ⊢
        simp (disch := omega) only [gi_si_n]
        exact hA
      · unfold cpB at hB ⊢
        simp (disch := omega) only [gi_si_n, gi_si_s, oY]
        refine ⟨hB.1, fun p hp => ?_⟩
        simp only [upd_if]
        by_cases z : p = k
        · subst z; simp
        · simp only [if_neg z]
          exact hB.2 p (by omega)
    · have e : k = 6 := by omega
      subst e
      have e8 : (6 : Int32) ≤ nI 6 := by decide
      rw [if_pos e8]
      obtain ⟨Z, z1, z2⟩ := become_C (S := S) ne hF hA hB
      refine Or.inl ⟨Z, ?_, z2⟩
      rw [z1]
      rfl
  · unfold cpA at hA ⊢
    simp (disch := omega) only [gi_si_n, gi_si_s, upd_n]
    exact hA
  · unfold cpB
    simp (disch := omega) only [gi_si_s, upd_s, oX]
    exact ⟨trivial, fun p hp => absurd hp (Nat.not_lt_zero p)⟩
theorem C_become0 (ne : u + 18 ≤ t ∨ t + 18 ≤ u) (hf : full S u) : ∃ Y, L_X10_become t u S = some Y ∧ cpE S Y t u := by
  unfold L_X10_become b_X10_become_0
  rw [nm_eq]
  refine lp_inv (m := 8) (I := fun k x => x.1 = nI k ∧ FT t S x.2 ∧ cpA S x.2 t u k) (fun k x hk hI => ?_) 1000 0 _ (Nat.zero_le _) (by omega) ⟨rfl, FT_si ⟨by omega, by omega⟩ (FT_refl t S) _ _, ?_⟩
  · obtain ⟨v, Y⟩ := x
    obtain ⟨e1, hF, hA⟩ := hI
    simp only at e1 hF hA
    subst e1
    have oY : ∀ a, u ≤ a → a ≤ u + 17 → gi Y a = gi S a := fun a h1 h2 => (hF.1 a (fun z => by have := z.1; have := z.2; omega)).1
    unfold l_X10_become_10 b_X10_become_10
    dsimp only
    rcases Nat.lt_or_ge k 8 with hl | hl
    · refine Or.inr ⟨hl, ?_⟩
      have e8 : ¬ (8 : Int32) ≤ nI k := nI_ge (b := 8) hl (by decide)
      obtain ⟨q, z, q1, q2, q3⟩ := hf k hl
      have q4 : gr Y (u + 1) k = some q := by
        rw [(hF.1 (u + 1) (fun z => by have := z.1; have := z.2; omega)).2]; exact q1
      have q5 : gq Y q = some z := by rw [gq_local (hF.2.2.1 q)]; exact q2
      rw [if_neg e8]
      simp only [gd_t (inb_n hl), tn_n (show k < 2 ^ 31 by omega), q4, q5, Option.bind_some, nm, nI_1]
      refine ⟨_, rfl, rfl, FT_si ⟨by omega, by omega⟩ (FT_si ⟨by omega, by omega⟩ (FT_si ⟨by omega, by omega⟩ (FT_si ⟨by omega, by omega⟩ (FT_sr ⟨by omega, by omega⟩ hF _ _) _ _) _ _) _ _) _ _, ?_⟩
      unfold cpA at hA ⊢
      have g1 : ∀ X k i v a, gi (sr X k i v) a = gi X a := fun _ _ _ _ _ => rfl
      have g2 : ∀ X k i v a, gr (si X k i v) a = gr X a := fun _ _ _ _ _ => rfl
      simp (disch := omega) only [gi_si_n, gi_si_s, g1, g2, gr_sr_s, oY]
      refine ⟨hA.1, fun p hp => ?_⟩
      by_cases z : p = k
      · subst z
        simp only [upd_s, and_self, and_true]
        rw [q1]
        exact if_pos rfl
      · obtain ⟨b1, b2, b3, b4, b5⟩ := hA.2 p (by omega)
        simp only [upd_n _ _ z, b2, b3, b4, b5, and_self, and_true]
        rw [← b1]
        exact if_neg z
    · have e : k = 8 := by omega
      subst e
      have e8 : (8 : Int32) ≤ nI 8 := by decide
      rw [if_pos e8]
      obtain ⟨Z, z1, z2⟩ := become_B (S := S) ne hF hA
      refine Or.inl ⟨Z, ?_, z2⟩
      rw [z1]
      rfl
  · unfold cpA
    simp (disch := omega) only [gi_si_s, upd_s]
    exact ⟨trivial, fun p hp => absurd hp (Nat.not_lt_zero p)⟩
theorem C_become (ne : u + 18 ≤ t ∨ t + 18 ≤ u) (hf : full S u) (hW : WT T) (hR : repC S u T) : ∃ Y, L_X10_become t u S = some Y ∧ FT t S Y ∧ repC Y t T ∧ full Y t := by
  obtain ⟨Y, y1, hF, hA, hB, hC, h16, h17⟩ := C_become0 (t := t) ne hf
  have hq : ∀ q, gq Y q = gq S q := fun q => gq_local (hF.2.2.1 q)
  refine ⟨Y, y1, hF, ?_, ?_⟩
  · obtain ⟨a1, a2, a3, a4, a5, a6, a7, a8⟩ := hR
    obtain ⟨w1, w2, w3, -⟩ := hW
    refine ⟨hA.1.trans a1, hB.1.trans a2, hC.1.trans a3, fun p hp => ?_, fun f hf => ?_, fun i hi => ?_, fun a b ha hb => ?_, fun i hi => ?_⟩
    · obtain ⟨e1, e2, e3, e4, e5⟩ := hA.2 p (by omega)
      rw [e1, e2, e3, e4, e5]
      simp only [hq]
      exact a4 p hp
    · obtain ⟨e1, e2, e3, e4⟩ := hB.2 f (by omega)
      rw [e1, e2, e3, e4]
      exact a5 f hf
    · obtain ⟨e1, e2, e3, e4, e5⟩ := hC.2 i (by omega)
      rw [e1, e2, e3, e4, e5]
      exact a6 i hi
    · rw [h16 a ha]; exact a7 a b ha hb
    · rw [h17 i hi]; exact a8 i hi
  · intro p hp
    obtain ⟨q, z, e1, e2, e3⟩ := hf p hp
    exact ⟨q, z, by rw [(hA.2 p hp).1]; exact e1, by rw [hq]; exact e2, by rw [hF.2.2.2]; exact e3⟩
end BECOME
