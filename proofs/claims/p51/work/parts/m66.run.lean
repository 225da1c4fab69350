/-! The class's day. -/
/-- the day's rows at its begin, k PLANTS for sale -/
def sSt (T : TT) (k : Nat) : Nat → Nat → Int32 := fun a u => if a = 4 then (if 8 ≤ u ∧ u - 8 < k then tF T 10 (u - 8) else 0) else if a = 5 then (if 8 ≤ u ∧ u - 8 < k then tF T 11 (u - 8) else 0) else if a = 6 then (if 8 ≤ u ∧ u - 8 < k then tF T 13 (u - 8) else 0) else if a = 7 then (if 8 ≤ u ∧ u - 8 < k then tF T 15 1 else 0) else if a = 8 then -4 else 0
def sPeople (T : TT) (bit : Nat → Bool) (sh : Bool) (h : Nat) (D : Nat → Nat → Int32) : Nat → Nat → Nat → Int32
  | 0 => D
  | p + 1 => if sDue T p = nI h then sStep T bit sh (sPeople T bit sh h D p) p else sPeople T bit sh h D p
def sHours (T : TT) (bit : Nat → Bool) (sh : Bool) : Nat → Nat → Nat → Int32
  | 0 => sSt T (tk T)
  | h + 1 => sPeople T bit sh h (sHours T bit sh h) (tn T)
def sDay (T : TT) (bit : Nat → Bool) (sh : Bool) : Nat → Nat → Int32 := sHours T bit sh 24
def sDone (T : TT) (h k q : Nat) : Prop := ∃ d, d < 24 ∧ sDue T q = nI d ∧ (d < h ∨ d = h ∧ q < k)
theorem due_n {T : TT} (hW : WT T) {p : Nat} (hp : p < tn T) : ∃ d, d < 24 ∧ sDue T p = nI d := by
  obtain ⟨hk, -, -, ⟨h, hh, e⟩, -⟩ := hW.2.2.2.1 p hp
  unfold sDue kDue
  rw [e]
  by_cases h1 : tK T p = 1
  · rw [if_pos h1]
    by_cases h2 : nI h < 12
    · rw [if_pos h2]; exact ⟨h, hh, rfl⟩
    · rw [if_neg h2]; exact ⟨12, by decide, rfl⟩
  · rw [if_neg h1]; exact ⟨h, hh, rfl⟩
theorem upd_st (f : Nat → Int32) (u k : Nat) (g : Nat → Int32) (hu : u = 8 + k) : upd (fun w => if 8 ≤ w ∧ w - 8 < k then g (w - 8) else 0) u (g k) = fun w => if 8 ≤ w ∧ w - 8 < k + 1 then g (w - 8) else 0 := by
  funext w
  by_cases e : w = u
  · subst e
    rw [upd_s, if_pos (by omega)]
    congr 1
    omega
  · rw [upd_n _ _ e]
    by_cases q : 8 ≤ w ∧ w - 8 < k
    · rw [if_pos q, if_pos (by omega)]
    · rw [if_neg q, if_neg (by omega)]
theorem sSt_succ (T : TT) (k : Nat) : uD (uD (uD (uD (sSt T k) 4 (8 + k) (tF T 10 k)) 5 (8 + k) (tF T 11 k)) 6 (8 + k) (tF T 13 k)) 7 (8 + k) (tF T 15 1) = sSt T (k + 1) := by
  funext a
  by_cases a7 : a = 7
  · subst a7
    rw [uD_s, uD_n _ _ _ (by decide), uD_n _ _ _ (by decide), uD_n _ _ _ (by decide)]
    exact upd_st (fun _ => 0) (8 + k) k (fun _ => tF T 15 1) rfl
  by_cases a6 : a = 6
  · subst a6
    rw [uD_n _ _ _ (by decide), uD_s, uD_n _ _ _ (by decide), uD_n _ _ _ (by decide)]
    exact upd_st (fun _ => 0) (8 + k) k (tF T 13) rfl
  by_cases a5 : a = 5
  · subst a5
    rw [uD_n _ _ _ (by decide), uD_n _ _ _ (by decide), uD_s, uD_n _ _ _ (by decide)]
    exact upd_st (fun _ => 0) (8 + k) k (tF T 11) rfl
  by_cases a4 : a = 4
  · subst a4
    rw [uD_n _ _ _ (by decide), uD_n _ _ _ (by decide), uD_n _ _ _ (by decide), uD_s]
    exact upd_st (fun _ => 0) (8 + k) k (tF T 10) rfl
  rw [uD_n _ _ _ a7, uD_n _ _ _ a6, uD_n _ _ _ a5, uD_n _ _ _ a4]
  funext u
  simp only [sSt, if_neg a4, if_neg a5, if_neg a6, if_neg a7]
theorem bd_3 {α β γ δ : Type} {x : Option α} {f : α → Option β} {g : β → Option γ} {k : γ → Option δ} {c : γ} (h : (x.bind fun a => (f a).bind fun b => g b) = some c) : (x.bind fun a => (f a).bind fun b => (g b).bind k) = k c := by
  cases x with
  | none => cases h
  | some a =>
    have h : ((f a).bind fun b => g b) = some c := h
    show ((f a).bind fun b => (g b).bind k) = k c
    cases hf : f a with
    | none => rw [hf] at h; cases h
    | some b =>
      rw [hf] at h
      have h : g b = some c := h
      show (g b).bind k = k c
      rw [h]
      rfl
section CRUN
variable {t u1 : Nat} {T : TT} {bit : Nat → Bool}
theorem C_people {S : St} {D : Nat → Nat → Int32} {h : Nat} (hh : h < 24) (hc : CX S t T bit D) (hd : CD S T D (sDone T h 0)) : ∃ r, lp 1000 (l_X2_run_159 u1) (nI h, 0, S) = some r ∧ ∃ S', r = .inl (nI (h + 1), S') ∧ FR PD S S' ∧ CX S' t T bit (sPeople T bit false h D (tn T)) ∧ CD S' T (sPeople T bit false h D (tn T)) (sDone T (h + 1) 0) := by
  have n8 := hc.2.2.1.1
  refine lp_inv (m := tn T) (I := fun k x => x.1 = nI h ∧ x.2.1 = nI k ∧ FR PD S x.2.2 ∧ CX x.2.2 t T bit (sPeople T bit false h D k) ∧ CD x.2.2 T (sPeople T bit false h D k) (sDone T h k)) (fun k x hk hI => ?_) 1000 0 _ (Nat.zero_le _) (by omega) ⟨rfl, rfl, FR_refl S, hc, hd⟩
  obtain ⟨v3, v4, X⟩ := x
  obtain ⟨e1, e2, hF, hX, hC⟩ := hI
  simp only at e1 e2 hF hX hC
  subst e1 e2
  have hn : gi X t 0 = nI (tn T) := hX.2.2.2.1.1
  unfold l_X2_run_159 b_X2_run_159 b_X2_run_206
  simp only [hX.1, Option.bind_some, gd_t (town_b hX.2.1), hn]
  rcases Nat.lt_or_ge k (tn T) with hl | hl
  · refine Or.inr ⟨hl, ?_⟩
    rw [if_neg (nI_ge hl (by omega)), gd_t (inb_n (show k < 8 by omega)), tn_n (show k < 2 ^ 31 by omega), hX.2.2.2.2.2.1 k hl, nI_1]
    by_cases hdu : sDue T k = nI h
    · rw [if_pos hdu]
      obtain ⟨S1, s1, s2, s3, s4⟩ := C_choose hX hC hl
      obtain ⟨S2, t1, t2, t3, t4⟩ := C_think s3 s4 hl (Or.inr rfl)
      refine ⟨(nI h, nI (k + 1), S2), ?_, rfl, rfl, FR_tr hF (FR_tr s2 t2), ?_, ?_⟩
      · refine (bd_3 s1).trans ?_
        rw [t1]
        rfl
      · rw [sPeople, if_pos hdu]; exact t3
      · rw [sPeople, if_pos hdu]
        intro q hq hdq
        refine t4 q hq ?_
        obtain ⟨d, h0, h1, h2⟩ := hdq
        by_cases e : q = k
        · exact Or.inr e
        · exact Or.inl ⟨d, h0, h1, h2.imp id (fun z => ⟨z.1, by omega⟩)⟩
    · rw [if_neg hdu]
      refine ⟨(nI h, nI (k + 1), X), rfl, rfl, rfl, hF, ?_, ?_⟩
      · rw [sPeople, if_neg hdu]; exact hX
      · rw [sPeople, if_neg hdu]
        intro q hq hdq
        refine hC q hq ?_
        obtain ⟨d, h0, h1, h2⟩ := hdq
        refine ⟨d, h0, h1, h2.imp id (fun z => ⟨z.1, ?_⟩)⟩
        have : q ≠ k := by rintro rfl; exact hdu (by rw [h1, z.1])
        omega
  · refine Or.inl ⟨_, ?_, X, rfl, hF, ?_⟩
    · rw [if_pos (nI_le hl (by omega))]
      unfold b_X2_run_212
      rw [nI_1]
      rfl
    · have e : k = tn T := by omega
      subst e
      refine ⟨hX, fun q hq hdq => hC q hq ?_⟩
      obtain ⟨d, h0, h1, h2⟩ := hdq
      exact ⟨d, h0, h1, by omega⟩
theorem C_hours {S : St} (hc : CX S t T bit (sSt T (tk T))) : ∃ S', lp 1000 (l_X2_run_150 u1) (0, S) = some S' ∧ FR PD S S' ∧ CX S' t T bit (sDay T bit false) ∧ CD S' T (sDay T bit false) (fun _ => True) := by
  have hW := hc.2.2.1
  refine lp_inv (m := 24) (I := fun k x => x.1 = nI k ∧ FR PD S x.2 ∧ CX x.2 t T bit (sHours T bit false k) ∧ CD x.2 T (sHours T bit false k) (sDone T k 0)) (fun k x hk hI => ?_) 1000 0 _ (Nat.zero_le _) (by omega) ⟨rfl, FR_refl S, hc, fun q hq ⟨d, _, _, z⟩ => by omega⟩
  obtain ⟨v3, X⟩ := x
  obtain ⟨e1, hF, hX, hC⟩ := hI
  simp only at e1 hF hX hC
  subst e1
  unfold l_X2_run_150 b_X2_run_150
  dsimp only
  rcases Nat.lt_or_ge k 24 with hl | hl
  · refine Or.inr ⟨hl, ?_⟩
    have e23 : ¬ (23 : Int32) < nI k := nI_nlt (b := k) (a := 23) (by omega) (by decide)
    rw [if_neg e23]
    obtain ⟨r, e, S', rfl, f1, f2, f3⟩ := C_people (u1 := u1) hl hX hC
    exact ⟨_, e, rfl, FR_tr hF f1, f2, f3⟩
  · have e : k = 24 := by omega
    subst e
    refine Or.inl ⟨X, ?_, hF, hX, fun q hq _ => hC q hq ?_⟩
    · rw [if_pos (by decide)]
    · obtain ⟨d, h0, h1⟩ := due_n hW hq
      exact ⟨d, h0, h1, Or.inl h0⟩
theorem C_plants {S : St} (hc : CX S t T bit (sSt T 0)) : ∃ S', lp 1000 (l_X2_run_87 u1) (0, S) = some S' ∧ FR PD S S' ∧ CX S' t T bit (sDay T bit false) ∧ CD S' T (sDay T bit false) (fun _ => True) := by
  have k3 := hc.2.2.1.2.2.1
  refine lp_inv (m := tk T) (I := fun k x => x.1 = nI k ∧ FR PD S x.2 ∧ CX x.2 t T bit (sSt T k)) (fun k x hk hI => ?_) 1000 0 _ (Nat.zero_le _) (by omega) ⟨rfl, FR_refl S, hc⟩
  obtain ⟨v3, X⟩ := x
  obtain ⟨e1, hF, hX⟩ := hI
  simp only at e1 hF hX
  subst e1
  obtain ⟨x1, x2, -, xR, -⟩ := id hX
  have hn : gi X t 11 = nI (tk T) := xR.2.2.1
  have e1 : gi X (t + 17) ((1 : Int32)).toNatClampNeg = tF T 15 1 := xR.2.2.2.2.2.2.2 1 (by decide)
  unfold l_X2_run_87 b_X2_run_87
  simp only [x1, Option.bind_some, gd_t (town_b x2), hn, e1]
  rcases Nat.lt_or_ge k (tk T) with hl | hl
  · refine Or.inr ⟨hl, ?_⟩
    obtain ⟨-, p2, p3, -, p5⟩ := xR.2.2.2.2.2.1 k hl
    have e8 : (8 : Int32) + nI k = nI (8 + k) := nI_add 8 k
    rw [if_neg (nI_ge hl (by omega))]
    simp only [gd_t (inb_n (show k < 3 by omega)), gd_t (show inb 1 3 = true by decide), tn_n (show k < 2 ^ 31 by omega), p2, p3, p5, e8, C_offer (show 8 + k < 11 by omega), Option.bind_some, nI_1]
    refine ⟨_, rfl, rfl, FR_si ⟨by decide, by decide⟩ (FR_si ⟨by decide, by decide⟩ (FR_si ⟨by decide, by decide⟩ (FR_si ⟨by decide, by decide⟩ hF _ _) _ _) _ _) _ _, ?_⟩
    have := CX_row hX (u := 8 + k) (fun q => by omega) (fun _ => by omega) (tF T 10 k) (tF T 11 k) (tF T 13 k) (tF T 15 1)
    rw [sSt_succ] at this
    exact this
  · have e : k = tk T := by omega
    subst e
    rw [if_pos (nI_le (Nat.le_refl _) (by omega))]
    obtain ⟨S', a1, a2, a3⟩ := C_hours (u1 := u1) hX
    refine Or.inl ⟨S', ?_, FR_tr hF a2, a3⟩
    unfold b_X2_run_148
    rw [a1]
    rfl
theorem C_dues {S : St} (h1 : gr S 55 0 = some t) (h2 : isTown t) (hW : WT T) (hR : repC S t T) (hb : ∀ k, k < 6 → (gi S 55 1 >>> (nI k &&& 31)) &&& 1 = if bit k then 1 else 0) (h6 : ∀ u, u < 11 → gi S 61 u = 0 ∧ gi S 65 u = -4) : ∃ S', lp 1000 (l_X2_run_41 u1) (0, S) = some S' ∧ FR PD S S' ∧ CX S' t T bit (sDay T bit false) ∧ CD S' T (sDay T bit false) (fun _ => True) := by
  have n8 := hW.1
  have tl := isTown_lt h2
  refine lp_inv (m := tn T) (I := fun k x => x.1 = nI k ∧ FR (fun a => a = 56) S x.2 ∧ ∀ p, p < k → gi x.2 56 p = sDue T p) (fun k x hk hI => ?_) 1000 0 _ (Nat.zero_le _) (by omega) ⟨rfl, FR_refl S, fun p hp => absurd hp (Nat.not_lt_zero p)⟩
  obtain ⟨v3, X⟩ := x
  obtain ⟨e1, hF, hD⟩ := hI
  simp only at e1 hF hD
  subst e1
  have xR : repC X t T := repC_congr h2 (fun a ha => hF.1 a (fun z => by omega)) (fun a _ => FR_gr hF a) (fun a => FR_gp hF a) hR
  have x1 : gr X 55 0 = some t := by rw [FR_gr hF]; exact h1
  have hn : gi X t 0 = nI (tn T) := xR.1
  unfold l_X2_run_41 b_X2_run_41
  simp only [x1, Option.bind_some, gd_t (town_b h2), hn]
  rcases Nat.lt_or_ge k (tn T) with hl | hl
  · refine Or.inr ⟨hl, ?_⟩
    obtain ⟨⟨q, r1, r2⟩, -, r3, -⟩ := xR.2.2.2.1 k hl
    have hk8 := (hW.2.2.2.1 k hl).1
    rw [if_neg (nI_ge hl (by omega))]
    simp only [gd_t (inb_n (show k < 8 by omega)), tn_n (show k < 2 ^ 31 by omega), r1, r3, V_due r2 hk8, Option.bind_some, nm, nI_1]
    refine ⟨_, rfl, rfl, FR_si (P := fun a => a = 56) (k := 56) rfl hF _ _, fun p hp => ?_⟩
    simp only [gi_si_s]
    by_cases e : p = k
    · subst e; rw [upd_s]; rfl
    · rw [upd_n _ _ e]; exact hD p (by omega)
  · have e : k = tn T := by omega
    subst e
    rw [if_pos (nI_le (Nat.le_refl _) (by omega))]
    have hX : CX X t T bit (sSt T 0) := by
      refine ⟨x1, h2, hW, xR, ?_, hD, fun u hu => ?_, ?_, ?_, ?_⟩
      · rw [hF.1 55 (by decide)]; exact hb
      · obtain ⟨z1, z2⟩ := h6 u hu
        have c0 : sSt T 0 4 u = 0 := by
          show (if 8 ≤ u ∧ u - 8 < 0 then _ else (0 : Int32)) = 0
          rw [if_neg (by omega)]
        rw [hF.1 61 (by decide), hF.1 65 (by decide), z1, z2, c0]
        exact ⟨rfl, rfl, fun z => absurd rfl z⟩
      · intro u hu z
        exfalso
        apply z
        show (if 8 ≤ u ∧ u - 8 < 0 then _ else (0 : Int32)) = 0
        rw [if_neg (by omega)]
      · intro i hi z
        exfalso
        apply z
        show (if 8 ≤ 8 + i ∧ 8 + i - 8 < 0 then _ else (0 : Int32)) = 0
        rw [if_neg (by omega)]
      · intro u _
        exact Or.inl rfl
    obtain ⟨S', a1, a2, a3⟩ := C_plants (u1 := u1) hX
    refine Or.inl ⟨S', ?_, FR_tr ⟨fun a ha => hF.1 a (fun z => ha (by subst z; exact ⟨by decide, by decide⟩)), hF.2⟩ a2, a3⟩
    unfold b_X2_run_85
    rw [a1]
    rfl
theorem nm_eq {α β : Type} (x : α) (f : α → Option β) : nm x f = f x := rfl
/-- the class's day from a town, some FACTS there -/
theorem C_run {S : St} (h2 : isTown t) (hW : WT T) (hR : repC S t T) {b : Int32} (hb : ∀ k, k < 6 → (b >>> (nI k &&& 31)) &&& 1 = if bit k then 1 else 0) : ∃ S', L_X2_run t b S = some S' ∧ FR PD (sr S 55 0 (some t)) S' ∧ CX S' t T bit (sDay T bit false) ∧ CD S' T (sDay T bit false) (fun _ => True) := by
  have tl := isTown_lt h2
  unfold L_X2_run b_X2_run_0
  rw [nm_eq, nm_eq]
  refine lp_inv (m := 11) (I := fun k x => x.1 = nI k ∧ FR (fun a => a = 61 ∨ a = 65) (si (sr S 55 0 (some t)) 55 1 b) x.2 ∧ ∀ u, u < k → gi x.2 61 u = 0 ∧ gi x.2 65 u = -4) (fun k x hk hI => ?_) 1000 0 _ (Nat.zero_le _) (by omega) ⟨rfl, FR_refl _, fun p hp => absurd hp (Nat.not_lt_zero p)⟩
  obtain ⟨v3, X⟩ := x
  obtain ⟨e1, hF, hD⟩ := hI
  simp only at e1 hF hD
  subst e1
  unfold l_X2_run_12 b_X2_run_12
  simp only [nm]
  rcases Nat.lt_or_ge k 11 with hl | hl
  · refine Or.inr ⟨hl, ?_⟩
    have e11 : ¬ (11 : Int32) ≤ nI k := nI_ge (b := 11) hl (by decide)
    rw [if_neg e11]
    simp only [gd_t (inb_n hl), tn_n (show k < 2 ^ 31 by omega), nI_1]
    refine ⟨_, rfl, rfl, FR_si (k := 65) (Or.inr rfl) (FR_si (k := 61) (Or.inl rfl) hF _ _) _ _, fun u hu => ?_⟩
    simp only [gi_si_s, gi_si_n _ _ _ (show (61 : Nat) ≠ 65 by decide), gi_si_n _ _ _ (show (65 : Nat) ≠ 61 by decide)]
    by_cases e : u = k
    · subst e; simp only [upd_s]; exact ⟨trivial, trivial⟩
    · simp only [upd_n _ _ e]; exact hD u (by omega)
  · have e : k = 11 := by omega
    subst e
    have e11 : (11 : Int32) ≤ nI 11 := by decide
    rw [if_pos e11]
    have g : ∀ a, a ≠ 55 → a ≠ 61 → a ≠ 65 → gi X a = gi S a := fun a n1 n2 n3 => (hF.1 a (fun z => z.elim n2 n3)).trans (gi_si_n _ _ _ n1)
    have gr' : ∀ a, a ≠ 55 → gr X a = gr S a := fun a n1 => (FR_gr hF a).trans (gr_sr_n S 0 _ n1)
    have xR : repC X t T := repC_congr h2 (fun a ha => g a (by omega) (by omega) (by omega)) (fun a ha => gr' a (by omega)) (fun a => FR_gp hF a) hR
    have x1 : gr X 55 0 = some t := by
      rw [FR_gr hF]
      show gr (sr S 55 0 (some t)) 55 0 = some t
      rw [gr_sr_s]
      exact if_pos rfl
    have xb : ∀ k, k < 6 → (gi X 55 1 >>> (nI k &&& 31)) &&& 1 = if bit k then 1 else 0 := by
      rw [hF.1 55 (by decide), gi_si_s, upd_s]; exact hb
    obtain ⟨S', a1, a2, a3⟩ := C_dues (u1 := t) x1 h2 hW xR xb hD
    refine Or.inl ⟨S', ?_, ?_, a3⟩
    · unfold b_X2_run_39
      rw [a1]
      rfl
    · refine FR_tr ⟨fun a ha => ?_, hF.2⟩ a2
      have n : ¬ (a = 61 ∨ a = 65) ∧ a ≠ 55 := by
        refine ⟨fun z => ha ?_, fun z => ha ?_⟩
        · rcases z with rfl | rfl <;> exact ⟨by decide, by decide⟩
        · subst z; exact ⟨by decide, by decide⟩
      rw [hF.1 a n.1]
      exact gi_si_n _ _ _ n.2
end CRUN
