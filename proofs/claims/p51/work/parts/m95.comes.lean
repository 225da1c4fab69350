/-! One comes, one leaves. -/
theorem repC_same {S : St} {t : Nat} {T T' : TT} (h : repC S t T) (e1 : tn T' = tn T) (e2 : tm T' = tm T) (e3 : tk T' = tk T) (p1 : ∀ p, p < tn T → tK T' p = tK T p ∧ ∀ r, r ≤ 4 → tF T' r p = tF T r p) (p2 : ∀ f, f < tm T → ∀ r, 5 ≤ r → r ≤ 8 → tF T' r f = tF T r f) (p3 : ∀ i, i < tk T → ∀ r, 9 ≤ r → r ≤ 13 → tF T' r i = tF T r i) (p4 : ∀ i, i < 16 → tF T' 14 i = tF T 14 i) (p5 : ∀ i, i < 3 → tF T' 15 i = tF T 15 i) : repC S t T' := by
  obtain ⟨a1, a2, a3, a4, a5, a6, a7, a8⟩ := h
  refine ⟨by rw [e1]; exact a1, by rw [e2]; exact a2, by rw [e3]; exact a3, fun p hp => ?_, fun f hf => ?_, fun i hi => ?_, fun a b ha hb => by rw [p4 _ (by omega)]; exact a7 a b ha hb, fun i hi => by rw [p5 i hi]; exact a8 i hi⟩
  · rw [e1] at hp
    obtain ⟨q1, q2⟩ := p1 p hp
    rw [q1, q2 0 (by decide), q2 1 (by decide), q2 2 (by decide), q2 3 (by decide), q2 4 (by decide)]
    exact a4 p hp
  · rw [e2] at hf
    rw [p2 f hf 5 (by decide) (by decide), p2 f hf 6 (by decide) (by decide), p2 f hf 7 (by decide) (by decide), p2 f hf 8 (by decide) (by decide)]
    exact a5 f hf
  · rw [e3] at hi
    rw [p3 i hi 9 (by decide) (by decide), p3 i hi 10 (by decide) (by decide), p3 i hi 11 (by decide) (by decide), p3 i hi 12 (by decide) (by decide), p3 i hi 13 (by decide) (by decide)]
    exact a6 i hi
/-- the town in which one's kind and figure are told behind the last one -/
def preO (T : TT) (kd : Nat) (fg : Int32) : TT := (T.1, fun p => if p = tn T then kd else tK T p, uD (tF T) 0 (tn T) fg)
abbrev okO (c h m co : Int32) : Prop := (0 ≤ c ∧ c ≤ 3) ∧ (0 ≤ h ∧ h ≤ 23) ∧ (-9 ≤ m ∧ m ≤ 9) ∧ (0 ≤ co ∧ co ≤ 99)
section COMES
variable {S S' X : St} {T T' : TT} {im : Option TT} {sh : Nat → Sh} {m : Option TT × (Nat → Sh)} {t d : Nat}
theorem preO_p (T : TT) (kd : Nat) (fg : Int32) : ∀ p, p < tn T → tK (preO T kd fg) p = tK T p ∧ ∀ r, r ≤ 4 → tF (preO T kd fg) r p = tF T r p := by
  intro p hp
  refine ⟨if_neg (by omega), fun r _ => ?_⟩
  show uD (tF T) 0 (tn T) fg r p = tF T r p
  exact uD_at _ (Or.inr (by omega))
theorem preO_r (T : TT) (kd : Nat) (fg : Int32) {r : Nat} (h : r ≠ 0) (p : Nat) : tF (preO T kd fg) r p = tF T r p := by
  show uD (tF T) 0 (tn T) fg r p = tF T r p
  exact uD_at _ (Or.inl h)
theorem WT_addO {kd : Nat} {fg : Nat} {c h mo co : Int32} (hW : WT T) (hk : kd < 8) (hf : fg < 10) (ok : okO c h mo co) (h8 : tn T < 8) : WT (addO T kd (nI fg) c h mo co) := by
  obtain ⟨-, h2, h3, h4, h5⟩ := hW
  obtain ⟨o1, o2, o3, o4⟩ := ok
  obtain ⟨x, hx, ex⟩ := in_of (n := 3) rfl (by decide) o1
  obtain ⟨y, hy, ey⟩ := in_of (n := 23) rfl (by decide) o2
  obtain ⟨z, hz, ez⟩ := in_of (n := 99) rfl (by decide) o4
  have e0 : tF (addO T kd (nI fg) c h mo co) 0 = upd (tF T 0) (tn T) (nI fg) := rfl
  have e1 : tF (addO T kd (nI fg) c h mo co) 1 = upd (tF T 1) (tn T) c := rfl
  have e2 : tF (addO T kd (nI fg) c h mo co) 2 = upd (tF T 2) (tn T) h := rfl
  have e3 : tF (addO T kd (nI fg) c h mo co) 3 = upd (tF T 3) (tn T) mo := rfl
  have e4 : tF (addO T kd (nI fg) c h mo co) 4 = upd (tF T 4) (tn T) co := rfl
  have dd : ∀ a, 4 < a → tF (addO T kd (nI fg) c h mo co) a = tF T a := fun a ha => by
    show uD (uD (uD (uD (uD (tF T) 0 (tn T) (nI fg)) 1 (tn T) c) 2 (tn T) h) 3 (tn T) mo) 4 (tn T) co a = tF T a
    rw [uD_n _ _ _ (by omega), uD_n _ _ _ (by omega), uD_n _ _ _ (by omega), uD_n _ _ _ (by omega), uD_n _ _ _ (by omega)]
  refine ⟨h8, h2, h3, fun p hp => ?_, ?_⟩
  · rw [e0, e1, e2, e3, e4]
    by_cases w : p = tn T
    · subst w
      simp only [upd_s]
      exact ⟨by rw [show tK (addO T kd (nI fg) c h mo co) (tn T) = kd from if_pos rfl]; exact hk, ⟨fg, hf, rfl⟩, ⟨x, by omega, ex⟩, ⟨y, by omega, ey⟩, o3, ⟨z, by omega, ez⟩⟩
    · simp only [upd_n _ _ w]
      have hp2 : p < tn T + 1 := hp
      rw [show tK (addO T kd (nI fg) c h mo co) p = tK T p from if_neg w]
      exact h4 p (by omega)
  · rw [dd 5 (by decide), dd 6 (by decide), dd 7 (by decide), dd 8 (by decide), dd 9 (by decide), dd 10 (by decide), dd 11 (by decide), dd 12 (by decide), dd 13 (by decide), dd 14 (by decide), dd 15 (by decide)]
    exact h5
theorem repC_sr (h : repC S t T) (ht : isTown t) {i q : Nat} (hi : tn T ≤ i) : repC (sr S (t + 1) i (some q)) t T := by
  obtain ⟨a1, a2, a3, a4, a5, a6, a7, a8⟩ := h
  refine ⟨a1, a2, a3, fun p hp => ?_, a5, a6, a7, a8⟩
  obtain ⟨⟨q', e1, e2⟩, b⟩ := a4 p hp
  refine ⟨⟨q', ?_, (gq_local (S := S) (S' := sr S (t + 1) i (some q)) rfl).trans e2⟩, b⟩
  rw [gr_sr_s]
  exact (if_neg (show ¬ p = i by omega)).trans e1
theorem C_addOne (ht : isTown t) (hW : WT T) (hR : repC S t T) {q kd : Nat} {fg : Int32} (hq : gq S q = some (kd, fg)) (c h mo co : Int32) :
    (¬ okO c h mo co → L_X10_addOne t q c h mo co S = some (-1, S)) ∧ (okO c h mo co → ¬ tn T < 8 → L_X10_addOne t q c h mo co S = some (-2, S)) ∧
    (okO c h mo co → tn T < 8 → ∃ S', L_X10_addOne t q c h mo co S = some (nI (tn T), S') ∧ repC S' t (addO T kd fg c h mo co) ∧ FT t S S' ∧ gr S' (t + 1) = va_up (gr S (t + 1)) (tn T) (some q)) := by
  have hn : gi S t 0 = nI (tn T) := hR.1
  have n8 := hW.1
  have no : L_X10_isNoOne c h mo co S = some (if okO c h mo co then 0 else 1) := by
    unfold L_X10_isNoOne b_X10_isNoOne_0 b_X10_isNoOne_40 okO
    rw [A_isOut, A_isOut, A_isOut, A_isOut]
    by_cases h1 : 0 ≤ c ∧ c ≤ 3
    · by_cases h2 : 0 ≤ h ∧ h ≤ 23
      · by_cases h3 : -9 ≤ mo ∧ mo ≤ 9
        · by_cases h4 : 0 ≤ co ∧ co ≤ 99
          · simp [h1, h2, h3, h4]
          · simp [h1, h2, h3, h4]
        · simp [h1, h2, h3]
      · simp [h1, h2]
    · simp [h1]
  refine ⟨fun nok => ?_, fun ok hf => ?_, fun ok hf => ?_⟩
  · unfold L_X10_addOne b_X10_addOne_0
    rw [no, if_neg nok]
    rfl
  · have e : ¬ nI (tn T) < 8 := nI_nlt (a := tn T) (b := 8) (by omega) (by omega)
    unfold L_X10_addOne b_X10_addOne_0
    rw [no, if_pos ok, Option.bind_some, if_pos rfl, hn, if_neg e]
  · have e : nI (tn T) < 8 := nI_lt (a := tn T) (b := 8) hf (by decide)
    have r0 : repC S t (preO T kd fg) := repC_same hR rfl rfl rfl (preO_p T kd fg) (fun f _ r h1 _ => preO_r T kd fg (by omega) f) (fun i _ r h1 _ => preO_r T kd fg (by omega) i) (fun i _ => preO_r T kd fg (by omega) i) (fun i _ => preO_r T kd fg (by omega) i)
    have r1 : repC (sr S (t + 1) (tn T) (some q)) t (preO T kd fg) := repC_sr r0 ht (i := tn T) (q := q) (Nat.le_refl _)
    have r2 := repC_put ht r1 (r := 1) (by decide) (tn T) c
    have r3 := repC_put ht r2 (r := 2) (by decide) (tn T) h
    have r4 := repC_put ht r3 (r := 3) (by decide) (tn T) mo
    have r5 := repC_put ht r4 (r := 4) (by decide) (tn T) co
    have F0 : tF (preO T kd fg) = uD (tF T) 0 (tn T) fg := rfl
    generalize hS1 : sr S (t + 1) (tn T) (some q) = S1 at r1 r2 r3 r4 r5
    have g1 : gi (si S1 (t + 2 + 1) (tn T) c) (t + 2 + 1) (tn T) = uD (tF (preO T kd fg)) 1 (tn T) c 1 (tn T) := by rw [gi_si_s, upd_s, uD_eq]
    have g2 : gi (si (si S1 (t + 2 + 1) (tn T) c) (t + 2 + 2) (tn T) h) (t + 2 + 2) (tn T) = uD (uD (tF (preO T kd fg)) 1 (tn T) c) 2 (tn T) h 2 (tn T) := by rw [gi_si_s, upd_s, uD_eq]
    have g3 : gi (si (si (si S1 (t + 2 + 1) (tn T) c) (t + 2 + 2) (tn T) h) (t + 2 + 3) (tn T) mo) (t + 2 + 3) (tn T) = uD (uD (uD (tF (preO T kd fg)) 1 (tn T) c) 2 (tn T) h) 3 (tn T) mo 3 (tn T) := by rw [gi_si_s, upd_s, uD_eq]
    have g4 : gi (si (si (si (si S1 (t + 2 + 1) (tn T) c) (t + 2 + 2) (tn T) h) (t + 2 + 3) (tn T) mo) (t + 2 + 4) (tn T) co) (t + 2 + 4) (tn T) = uD (uD (uD (uD (tF (preO T kd fg)) 1 (tn T) c) 2 (tn T) h) 3 (tn T) mo) 4 (tn T) co 4 (tn T) := by rw [gi_si_s, upd_s, uD_eq]
    have gq1 : gr S1 (t + 1) (tn T) = some q := by
      rw [← hS1, gr_sr_s]
      exact if_pos rfl
    have gq2 : gq S1 q = some (kd, fg) := by
      rw [← hS1]
      exact (gq_local (S := S) (S' := sr S (t + 1) (tn T) (some q)) rfl).trans hq
    have r6 := repC_tn ht r5 (tn T + 1) (fun p hp1 hp2 => by
      have : p = tn T := by
        have hp3 : tn T ≤ p := hp1
        omega
      subst this
      refine ⟨⟨q, gq1, ?_⟩, put_eq (b := t + 2) (a := 1) (put_eq (b := t + 2) (a := 1) (put_eq (b := t + 2) (a := 1) g1)), put_eq (b := t + 2) (a := 2) (put_eq (b := t + 2) (a := 2) g2), put_eq (b := t + 2) (a := 3) g3, g4⟩
      refine (gq_local (S := S1) (S' := si (si (si (si S1 (t + 2 + 1) (tn T) c) (t + 2 + 2) (tn T) h) (t + 2 + 3) (tn T) mo) (t + 2 + 4) (tn T) co) rfl).trans (gq2.trans ?_)
      have k1 : tK (wF (wF (wF (wF (preO T kd fg) 1 (tn T) c) 2 (tn T) h) 3 (tn T) mo) 4 (tn T) co) (tn T) = kd := if_pos rfl
      have k2 : tF (wF (wF (wF (wF (preO T kd fg) 1 (tn T) c) 2 (tn T) h) 3 (tn T) mo) 4 (tn T) co) 0 (tn T) = fg := by
        show upd (tF T 0) (tn T) fg (tn T) = fg
        rw [upd_s]
      rw [k1, k2])
    refine ⟨_, ?_, r6, ?_, ?_⟩
    · unfold L_X10_addOne b_X10_addOne_0
      have k3 : t ≠ t + 3 := by omega
      have k4 : t ≠ t + 4 := by omega
      have k5 : t ≠ t + 5 := by omega
      have k6 : t ≠ t + 6 := by omega
      have s1 : gi S1 t 0 = nI (tn T) := by rw [← hS1]; exact hn
      rw [no, if_pos ok, Option.bind_some, if_pos rfl, hn, if_pos e, gd_t (inb_n hf), hq, Option.bind_some, nm_eq, tn_n (show tn T < 2 ^ 31 by omega), hS1]
      simp only [nm, s1, gd_t (inb_n hf), tn_n (show tn T < 2 ^ 31 by omega), gi_si_n _ _ _ k3, gi_si_n _ _ _ k4, gi_si_n _ _ _ k5, gi_si_n _ _ _ k6, gi_si_s, upd_s, nI_1]
      have e9 : nI (tn T + 1) - 1 = nI (tn T) := pk_sub (b := 1) (by omega)
      rw [e9]
    · rw [← hS1]
      exact FT_si ⟨by omega, by omega⟩ (FT_si ⟨by omega, by omega⟩ (FT_si ⟨by omega, by omega⟩ (FT_si ⟨by omega, by omega⟩ (FT_si ⟨by omega, by omega⟩ (FT_sr ⟨by omega, by omega⟩ (FT_refl t S) _ _) _ _) _ _) _ _) _ _) _ _
    · rw [← hS1]
      show gr (sr S (t + 1) (tn T) (some q)) (t + 1) = _
      rw [gr_sr_s]
theorem full_up {t n q : Nat} (h1 : gr S' (t + 1) = va_up (gr S (t + 1)) n (some q)) (h2 : ∀ a, gp S' a = gp S a) (h3 : tp S' = tp S) (hq : ∃ z, gq S q = some z) (hl : q < tp S) (h : full S t) : full S' t := by
  intro p hp
  have e : ∀ a, gq S' a = gq S a := fun a => gq_local (h2 a)
  rw [h1, h3]
  by_cases z : p = n
  · obtain ⟨w, hw⟩ := hq
    exact ⟨q, w, if_pos z, by rw [e]; exact hw, hl⟩
  · obtain ⟨a, w, e1, e2, e3⟩ := h p hp
    exact ⟨a, w, (if_neg z).trans e1, by rw [e]; exact e2, e3⟩
end COMES
