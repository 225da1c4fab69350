/-! The reference's day. -/
theorem side_0 (s : Int32) : kSide s = 0 ↔ s = 0 := by
  unfold kSide
  by_cases h : 0 < s
  · rw [if_pos h]
    exact ⟨fun z => absurd z (by decide), fun z => by rw [z] at h; exact absurd h (by decide)⟩
  · rw [if_neg h]
    by_cases h2 : s < 0
    · rw [if_pos h2]
      exact ⟨fun z => absurd z (by decide), fun z => by rw [z] at h2; exact absurd h2 (by decide)⟩
    · rw [if_neg h2]
      exact ⟨fun _ => Int32.le_antisymm (Int32.not_lt.mp h) (Int32.not_lt.mp h2), fun _ => rfl⟩
def PV (a : Nat) : Prop := 165 ≤ a ∧ a ≤ 168
theorem FR_mono {P P' : Nat → Prop} {S S' : St} (hp : ∀ a, P a → P' a) (h : FR P S S') : FR P' S S' := ⟨fun a ha => h.1 a (fun z => ha (hp a z)), h.2⟩
section RRUN
variable {S : St} {T : TT} {bit : Nat → Bool} {sh : Bool} {D : Nat → Nat → Int32} {h p k : Nat}
theorem RB_congr {S' : St} (hF : FR PV S S') (hB : RB S T D h k) : RB S' T D h k := by
  have o : ∀ a, a < 165 ∨ 168 < a → gi S' a = gi S a := fun a ha => hF.1 a (fun z => by have := z.1; have := z.2; omega)
  unfold RB
  rw [o 159 (by decide), o 160 (by decide), o 161 (by decide), o 162 (by decide), o 163 (by decide), o 164 (by decide), o 169 (by decide), o 170 (by decide), o 171 (by decide)]
  exact hB
theorem RV_iff {V V' : Nat → Prop} (e : ∀ u, u < 11 → (V u ↔ V' u)) (hn : tn T ≤ 8) (hV : RV S T D V) : RV S T D V' := by
  refine ⟨fun u hu => ?_, fun p hp => ?_⟩
  · rw [← e u hu]; exact hV.1 u hu
  · rw [← e p (by omega)]; exact hV.2 p hp
theorem RV_set {V V' : Nat → Prop} {u : Nat} (hn : tn T ≤ 8) (hu : u < 11) (hV : RV S T D V) (e : ∀ w, w < 11 → w ≠ u → (V w ↔ V' w)) (e2 : V' u) {g : Bool} (hg : u < tn T → g = true) {a b c : Int32} (d6 : D 6 u = a) (d5 : D 5 u = b) (d4 : D 4 u = c) :
    RV (si (si (si (if g then si S 165 u 1 else S) 166 u a) 167 u b) 168 u c) T D V' := by
  have k165 : ∀ w, gi (si (si (si (if g then si S 165 u 1 else S) 166 u a) 167 u b) 168 u c) 165 w = if g = true ∧ w = u then 1 else gi S 165 w := by
    intro w
    cases g <;> simp [gi_si_n, gi_si_s, upd]
  have k166 : ∀ w, gi (si (si (si (if g then si S 165 u 1 else S) 166 u a) 167 u b) 168 u c) 166 w = if w = u then a else gi S 166 w := by
    intro w
    cases g <;> simp [gi_si_n, gi_si_s, upd]
  have k167 : ∀ w, gi (si (si (si (if g then si S 165 u 1 else S) 166 u a) 167 u b) 168 u c) 167 w = if w = u then b else gi S 167 w := by
    intro w
    cases g <;> simp [gi_si_n, gi_si_s, upd]
  have k168 : ∀ w, gi (si (si (si (if g then si S 165 u 1 else S) 166 u a) 167 u b) 168 u c) 168 w = if w = u then c else gi S 168 w := by
    intro w
    cases g <;> simp [gi_si_n, gi_si_s, upd]
  refine ⟨fun w hw => ?_, fun q hq => ?_⟩
  · rw [k166, k167, k168]
    by_cases z : w = u
    · subst z
      rw [if_pos rfl, if_pos rfl, if_pos rfl]
      exact ⟨fun _ => ⟨d6.symm, d5.symm, d4.symm⟩, fun y => absurd e2 y⟩
    · rw [if_neg z, if_neg z, if_neg z, ← e w hw z]
      exact hV.1 w hw
  · rw [k165]
    by_cases z : q = u
    · subst z
      rw [if_pos ⟨hg hq, rfl⟩]
      exact ⟨fun _ => rfl, fun y => absurd e2 y⟩
    · rw [if_neg (fun y => z y.2), ← e q (by omega) z]
      exact hV.2 q hq
theorem R_come (hT : RT S T bit sh) (I : DI T bit D h 0) (hB : RB S T D h 0) {f : Nat → Bool} (hV : RV S T D (fun u => vN D (if f u then h + 1 else h) u)) (hp : p < tn T) (hh : h < 24) : ∃ S', L_X12_comeForSale (nI p) (nI h) S = some S' ∧ FR PV S S' ∧ RV S' T D (fun u => vN D (if f u || u == p then h + 1 else h) u) := by
  obtain ⟨hW, hR, -, -⟩ := id hT
  have n8 := hW.1
  have p8 : p < 8 := by omega
  have p31 : p < 2 ^ 31 := by omega
  obtain ⟨c1, c2, c3, -, c5, -⟩ := hR.2.2.2.1 p hp
  have hk8 := (hW.2.2.2.1 p hp).1
  have eo : gi S 136 6 = tF T 15 0 := hR.2.2.2.2.2.2.2.1
  have start : L_X12_comeForSale (nI p) (nI h) S = b_X12_comeForSale_28 (nI p) (nI h) (sAt T p) S := by
    unfold L_X12_comeForSale b_X12_comeForSale_0 sAt
    rw [R_dueOf hT hp, eo]
    simp only [Option.bind_some]
    by_cases z : tF T 15 0 < sDue T p + 1
    · rw [if_neg (Int32.not_le.mpr z), if_pos z]
    · rw [if_pos (Int32.not_lt.mp z), if_neg z]
  rw [start]
  -- when nothing is written
  have stay : (vN D h p ↔ vN D (h + 1) p) → ∃ S', some S = some S' ∧ FR PV S S' ∧ RV S' T D (fun u => vN D (if f u || u == p then h + 1 else h) u) := by
    intro e
    refine ⟨S, rfl, FR_refl S, RV_iff (fun u hu => ?_) n8 hV⟩
    by_cases z : u = p
    · subst z
      cases f u <;> simp [e]
    · simp [z]
  unfold b_X12_comeForSale_28
  rw [gd_t (inb_n p8), tn_n p31]
  by_cases hd : sDone T h 0 p
  · obtain ⟨b0, b1, -⟩ := hB.2.1 p hp hd
    obtain ⟨i1, i2⟩ := I.1 p hp hd
    rw [b0, if_neg (by decide)]
    obtain ⟨d, d1, d2, d3⟩ := at_n hW hp
    by_cases e : sAt T p = nI h
    · rw [if_pos e, gd_t (inb_n p8), gd_t (inb_n p8), R_weight hT, Option.bind_some, R_sum p8 c1 hk8, Option.bind_some, c3, c5]
      have eS : kSum (tK T p) (tF T 3 p) (wsum (tF T 1 p) (nI h) bit (tF T 5) (tF T 6) (tF T 7) (tm T)) = sSec T bit p := by
        unfold sSec sKnown
        rw [e]
      rw [eS, R_side, Option.bind_some]
      have at23 : sAt T p ≤ 23 := by rw [e]; exact nI_le (a := h) (b := 23) (by omega) (by decide)
      have off : D 4 p = 0 → (vN D h p ↔ vN D (h + 1) p) := fun z => ⟨fun y => absurd z y.1, fun y => absurd z y.1⟩
      by_cases z0 : kSide (sSec T bit p) = 0
      · rw [if_pos z0]
        refine stay (off ?_)
        rw [i1]
        cases hTu : sTurns T bit D p with
        | false => rfl
        | true => exact z0
      · rw [if_neg z0, gd_t (inb_n p8), b1]
        by_cases z1 : kSide (sSec T bit p) = D 1 p
        · rw [if_pos z1]
          refine stay (off ?_)
          have hTu : sTurns T bit D p = false := by unfold sTurns; simp [z1]
          rw [i1, hTu]
          rfl
        · rw [if_neg z1]
          have hTu : sTurns T bit D p = true := by
            have nz : ¬ sSec T bit p = 0 := fun y => z0 ((side_0 _).mpr y)
            unfold sTurns
            simp [z1, at23, nz]
          rw [hTu, if_pos rfl] at i1
          obtain ⟨i5, i6, -⟩ := i2 hTu
          simp only [gd_t (inb_n p8), gd_t (inb_n (show p < 11 by omega)), nm]
          have F1 : FR PR S (si (si S 165 p 1) 166 p (nI h)) := FR_si ⟨by decide, by decide⟩ (FR_si ⟨by decide, by decide⟩ (FR_refl S) _ _) _ _
          rw [R_own (RT_congr F1 hT) hp]
          simp only [Option.bind_some]
          refine ⟨_, rfl, FR_si ⟨by decide, by decide⟩ (FR_si ⟨by decide, by decide⟩ (FR_si ⟨by decide, by decide⟩ (FR_si ⟨by decide, by decide⟩ (FR_refl S) _ _) _ _) _ _) _ _, ?_⟩
          refine RV_set (g := true) n8 (show p < 11 by omega) hV (fun w hw wp => by simp [wp]) ?_ (fun _ => rfl) (i6.trans e) i5 i1
          simp only [beq_self_eq_true, Bool.or_true, if_true]
          exact ⟨by rw [i1]; exact z0, h, hh, i6.trans e, by omega⟩
    · rw [if_neg e]
      refine stay ?_
      constructor
      · rintro ⟨z, d', y1, y2, y3⟩
        exact ⟨z, d', y1, y2, by omega⟩
      · rintro ⟨z, d', y1, y2, y3⟩
        refine ⟨z, d', y1, y2, ?_⟩
        have hTu : sTurns T bit D p = true := by
          cases x : sTurns T bit D p with
          | true => rfl
          | false => rw [x] at i1; exact absurd i1 z
        have : sAt T p = nI d' := ((i2 hTu).2.1).symm.trans y2
        have : d' ≠ h := by rintro rfl; exact e this
        omega
  · rw [(hB.2.2.1 p hp hd).1, if_pos rfl]
    have z : D 4 p = 0 := I.2.1 p p8 (fun y => hd y.2)
    exact stay ⟨fun y => absurd z y.1, fun y => absurd z y.1⟩
theorem R_purses (hT : RT S T bit sh) (I : DI T bit D h (tn T)) (hB : RB S T D h (tn T)) (hh : h < 24) : ∃ r, lp 1000 (l_X12_day_250) (nI h, 0, S) = some r ∧ ∃ S', r = .inl (nI (h + 1), S') ∧ FR (fun a => a = 171) S S' ∧ RB S' T D (h + 1) 0 := by
  obtain ⟨hW, hR, -, -⟩ := id hT
  have n8 := hW.1
  have dn : ∀ q, q < tn T → (sDone T (h + 1) 0 q ↔ sDone T h (tn T) q) := by
    intro q hq
    constructor
    · rintro ⟨d, h1, h2, h3⟩
      exact ⟨d, h1, h2, by omega⟩
    · rintro ⟨d, h1, h2, h3⟩
      exact ⟨d, h1, h2, by omega⟩
  have pur : ∀ q, q < tn T → gi S 164 q = sCoins T D q (nI h) := by
    intro q hq
    obtain ⟨d, d1, d2⟩ := due_n hW hq
    unfold sCoins
    by_cases hd : sDone T h (tn T) q
    · rw [(hB.2.1 q hq hd).2.2.2.2.2]
      have le : sDue T q ≤ nI h := by
        have := (done_n d2 d1).mp hd
        rw [d2]; exact nI_le (by omega) (by omega)
      rw [if_pos le]
      congr 1
      rcases I.2.2.2.1 q (by omega) with c | ⟨-, r, r1, r2, r3, -⟩
      · rw [c, if_pos rfl, if_neg (by rintro ⟨y, -⟩; exact absurd y (by decide))]
      · obtain ⟨e, e1, e2⟩ := due_n hW r1
        have := (done_n e2 e1).mp r2
        have nr : ¬ nI r = (-4 : Int32) := fun y => by
          have a := nI_pos' (show r < 2 ^ 31 by omega)
          rw [y] at a
          exact absurd a (by decide)
        rw [r3, nI_clamp (show r < 2 ^ 31 by omega), if_neg nr, if_pos ⟨nI_pos' (by omega), by rw [e2]; exact nI_le (by omega) (by omega)⟩]
    · rw [(hB.2.2.1 q hq hd).2.2.2]
      have nle : ¬ sDue T q ≤ nI h := by
        rw [d2]
        refine nI_ge ?_ (by omega)
        rcases Nat.lt_or_ge h d with z | z
        · exact z
        · exact absurd ((done_n d2 d1).mpr (by omega)) hd
      have c : D 8 q = -4 := by
        refine (I.2.2.2.1 q (by omega)).resolve_right (fun z => z.1 (I.2.1 q (by omega) (fun y => hd y.2)))
      rw [if_neg nle, c, if_neg (by rintro ⟨y, -⟩; exact absurd y (by decide))]
      simp
  refine lp_inv (m := tn T) (I := fun k x => x.1 = nI h ∧ x.2.1 = nI k ∧ FR (fun a => a = 171) S x.2.2 ∧ (∀ e q, e < h → q < tn T → gi x.2.2 171 (8 * e + q) = gi S 171 (8 * e + q)) ∧ ∀ q, q < k → gi x.2.2 171 (8 * h + q) = gi S 164 q) (fun k x hk hI => ?_) 1000 0 _ (Nat.zero_le _) (by omega) ⟨rfl, rfl, FR_refl S, fun _ _ _ _ => rfl, fun q hq => absurd hq (Nat.not_lt_zero q)⟩
  obtain ⟨v1, v2, X⟩ := x
  obtain ⟨e1, e2, hF, hO, hN⟩ := hI
  simp only at e1 e2 hF hO hN
  subst e1 e2
  have o : ∀ a, a ≠ 171 → gi X a = gi S a := fun a ha => hF.1 a ha
  have hn : gi X 136 15 = nI (tn T) := by rw [o 136 (by decide)]; exact hR.1
  unfold l_X12_day_250 b_X12_day_250 b_X12_day_281
  dsimp only
  rw [hn]
  rcases Nat.lt_or_ge k (tn T) with hl | hl
  · refine Or.inr ⟨hl, ?_⟩
    have ix : (8 : Int32) * nI h + nI k = nI (8 * h + k) := by rw [show (8 : Int32) = nI 8 from rfl, pk_mul, nI_add]
    rw [if_neg (nI_ge hl (by omega)), gd_t (inb_n (show k < 8 by omega)), ix, gd_t (inb_n (show 8 * h + k < 192 by omega)), tn_n (show k < 2 ^ 31 by omega), tn_n (show 8 * h + k < 2 ^ 31 by omega), nI_1, nm_eq]
    refine ⟨_, rfl, rfl, rfl, FR_si (P := fun a => a = 171) (k := 171) rfl hF _ _, fun e q he hq => ?_, fun q hq => ?_⟩
    · simp only [gi_si_s]
      rw [upd_n _ _ (by omega)]
      exact hO e q he hq
    · simp only [gi_si_s]
      by_cases z : q = k
      · subst z
        rw [upd_s, o 164 (by decide)]
      · rw [upd_n _ _ (by omega)]
        exact hN q (by omega)
  · have e : k = tn T := by omega
    subst e
    rw [if_pos (nI_le (Nat.le_refl _) (by omega)), nI_1]
    refine Or.inl ⟨_, rfl, X, rfl, hF, ?_⟩
    obtain ⟨b1, b2, b3, b4⟩ := hB
    refine ⟨?_, fun q hq hd => ?_, fun q hq hd => ?_, fun e q he hq => ?_⟩
    · rw [o 169 (by decide), o 170 (by decide)]; exact b1
    · rw [o 159 (by decide), o 160 (by decide), o 161 (by decide), o 162 (by decide), o 163 (by decide), o 164 (by decide)]
      exact b2 q hq ((dn q hq).mp hd)
    · rw [o 159 (by decide), o 162 (by decide), o 163 (by decide), o 164 (by decide)]
      exact b3 q hq (fun z => hd ((dn q hq).mpr z))
    · by_cases z : e = h
      · subst z
        rw [hN q hq]
        exact pur q hq
      · rw [hO e q (by omega) hq]
        exact b4 e q (by omega) hq
theorem R_people (hT : RT S T bit sh) (I : DI T bit D h 0) (hV : RV S T D (vN D (h + 1))) (hB : RB S T D h 0) (hh : h < 24) : ∃ r, lp 1000 (l_X12_day_219) (nI h, 0, S) = some r ∧ ∃ S', r = .inl (nI (h + 1), S') ∧ FR PR S S' ∧ RV S' T (sPeople T bit sh h D (tn T)) (vN (sPeople T bit sh h D (tn T)) (h + 1)) ∧ RB S' T (sPeople T bit sh h D (tn T)) (h + 1) 0 := by
  have hW := hT.1
  have n8 := hW.1
  refine lp_inv (m := tn T) (I := fun k x => x.1 = nI h ∧ x.2.1 = nI k ∧ FR PR S x.2.2 ∧ RV x.2.2 T (sPeople T bit sh h D k) (vN (sPeople T bit sh h D k) (h + 1)) ∧ RB x.2.2 T (sPeople T bit sh h D k) h k) (fun k x hk hI => ?_) 1000 0 _ (Nat.zero_le _) (by omega) ⟨rfl, rfl, FR_refl S, hV, hB⟩
  obtain ⟨v1, v2, X⟩ := x
  obtain ⟨e1, e2, hF, xV, xB⟩ := hI
  simp only at e1 e2 hF xV xB
  subst e1 e2
  have xT := RT_congr hF hT
  have xI := DI_people (sh := sh) n8 hh I k hk
  have hn : gi X 136 15 = nI (tn T) := xT.2.1.1
  unfold l_X12_day_219 b_X12_day_219 b_X12_day_242
  dsimp only
  rw [hn]
  rcases Nat.lt_or_ge k (tn T) with hl | hl
  · refine Or.inr ⟨hl, ?_⟩
    rw [if_neg (nI_ge hl (by omega)), R_dueOf xT hl, nI_1]
    simp only [Option.bind_some]
    by_cases e : sDue T k = nI h
    · rw [if_pos e]
      obtain ⟨S', s1, s2, s3, s4⟩ := R_choose xT xI xV xB hl hh e
      rw [s1]
      simp only [Option.bind_some]
      refine ⟨_, rfl, rfl, rfl, FR_tr hF s2, ?_, ?_⟩
      · rw [sPeople, if_pos e]; exact s3
      · rw [sPeople, if_pos e]; exact s4
    · rw [if_neg e]
      refine ⟨_, rfl, rfl, rfl, hF, ?_, ?_⟩
      · rw [sPeople, if_neg e]; exact xV
      · rw [sPeople, if_neg e]
        have dn : ∀ q, sDone T h (k + 1) q ↔ sDone T h k q := by
          intro q
          constructor
          · rintro ⟨d, h1, h2, h3⟩
            refine ⟨d, h1, h2, h3.imp id (fun z => ⟨z.1, ?_⟩)⟩
            have : q ≠ k := by rintro rfl; exact e (by rw [h2, z.1])
            omega
          · rintro ⟨d, h1, h2, h3⟩
            exact ⟨d, h1, h2, by omega⟩
        unfold RB
        simp only [dn]
        exact xB
  · have e : k = tn T := by omega
    subst e
    rw [if_pos (nI_le (Nat.le_refl _) (by omega))]
    obtain ⟨r, s1, S', rfl, s2, s3⟩ := R_purses xT xI xB hh
    refine Or.inl ⟨.inl (nI (h + 1), S'), ?_, S', rfl, FR_tr hF (FR_mono (fun a z => by subst z; exact ⟨by decide, by decide⟩) s2), ?_, s3⟩
    · unfold b_X12_day_248
      rw [s1]
      rfl
    · have o : ∀ a, a ≠ 171 → gi S' a = gi X a := fun a ha => s2.1 a ha
      unfold RV
      rw [o 165 (by decide), o 166 (by decide), o 167 (by decide), o 168 (by decide)]
      exact xV
theorem R_comes (hT : RT S T bit sh) (I : DI T bit D h 0) (hV : RV S T D (fun u => vN D (if (decide (8 ≤ u)) then h + 1 else h) u)) (hB : RB S T D h 0) (hh : h < 24) : ∃ r, lp 1000 (l_X12_day_197) (nI h, 0, S) = some r ∧ ∃ S', r = .inl (nI (h + 1), S') ∧ FR PR S S' ∧ RV S' T (sPeople T bit sh h D (tn T)) (vN (sPeople T bit sh h D (tn T)) (h + 1)) ∧ RB S' T (sPeople T bit sh h D (tn T)) (h + 1) 0 := by
  have hW := hT.1
  have n8 := hW.1
  refine lp_inv (m := tn T) (I := fun k x => x.1 = nI h ∧ x.2.1 = nI k ∧ FR PV S x.2.2 ∧ RV x.2.2 T D (fun u => vN D (if (decide (8 ≤ u) || decide (u < k)) then h + 1 else h) u)) (fun k x hk hI => ?_) 1000 0 _ (Nat.zero_le _) (by omega) ⟨rfl, rfl, FR_refl S, RV_iff (fun u hu => by simp) n8 hV⟩
  obtain ⟨v1, v2, X⟩ := x
  obtain ⟨e1, e2, hF, xV⟩ := hI
  simp only at e1 e2 hF xV
  subst e1 e2
  have hF2 : FR PR S X := FR_mono (fun a z => ⟨by have := z.1; omega, by have := z.2; omega⟩) hF
  have xT := RT_congr hF2 hT
  have xB := RB_congr hF hB
  have hn : gi X 136 15 = nI (tn T) := xT.2.1.1
  unfold l_X12_day_197 b_X12_day_197
  dsimp only
  rw [hn]
  rcases Nat.lt_or_ge k (tn T) with hl | hl
  · refine Or.inr ⟨hl, ?_⟩
    rw [if_neg (nI_ge hl (by omega)), nI_1]
    obtain ⟨S', s1, s2, s3⟩ := R_come xT I xB xV hl hh
    rw [s1]
    simp only [Option.bind_some]
    refine ⟨_, rfl, rfl, rfl, FR_tr hF s2, RV_iff (fun u hu => ?_) n8 s3⟩
    have : (decide (8 ≤ u) || decide (u < k) || u == k) = (decide (8 ≤ u) || decide (u < k + 1)) := by
      rw [Bool.or_assoc]
      congr 1
      rw [Bool.eq_iff_iff]
      simp
      omega
    rw [this]
  · have e : k = tn T := by omega
    subst e
    rw [if_pos (nI_le (Nat.le_refl _) (by omega))]
    have xV2 : RV X T D (vN D (h + 1)) := by
      refine RV_iff (fun u hu => ?_) n8 xV
      by_cases z : 8 ≤ u ∨ u < tn T
      · have : (decide (8 ≤ u) || decide (u < tn T)) = true := by simpa using z
        rw [this, if_pos rfl]
      · have d0 : D 4 u = 0 := I.2.1 u (by omega) (fun y => z (Or.inr y.1))
        exact ⟨fun y => absurd d0 y.1, fun y => absurd d0 y.1⟩
    obtain ⟨r, s1, S', rfl, s2, s3⟩ := R_people xT I xV2 xB hh
    refine Or.inl ⟨.inl (nI (h + 1), S'), ?_, S', rfl, FR_tr hF2 s2, s3⟩
    unfold b_X12_day_217
    rw [s1]
    rfl
theorem R_plants (hT : RT S T bit sh) (I : DI T bit D h 0) (hV : RV S T D (vN D h)) (hB : RB S T D h 0) (hh : h < 24) : ∃ r, lp 1000 (l_X12_day_131) (nI h, 0, S) = some r ∧ ∃ S', r = .inl (nI (h + 1), S') ∧ FR PR S S' ∧ RV S' T (sPeople T bit sh h D (tn T)) (vN (sPeople T bit sh h D (tn T)) (h + 1)) ∧ RB S' T (sPeople T bit sh h D (tn T)) (h + 1) 0 := by
  have hW := hT.1
  have n8 := hW.1
  have k3 := hW.2.2.1
  refine lp_inv (m := tk T) (I := fun k x => x.1 = nI h ∧ x.2.1 = nI k ∧ FR PV S x.2.2 ∧ RV x.2.2 T D (fun u => vN D (if (decide (8 ≤ u) && decide (u < 8 + k)) then h + 1 else h) u)) (fun k x hk hI => ?_) 1000 0 _ (Nat.zero_le _) (by omega) ⟨rfl, rfl, FR_refl S, RV_iff (fun u hu => ?_) n8 hV⟩
  · obtain ⟨v1, v2, X⟩ := x
    obtain ⟨e1, e2, hF, xV⟩ := hI
    simp only at e1 e2 hF xV
    subst e1 e2
    have hF2 : FR PR S X := FR_mono (fun a z => ⟨by have := z.1; omega, by have := z.2; omega⟩) hF
    have xT := RT_congr hF2 hT
    have xB := RB_congr hF hB
    have xR := xT.2.1
    have hn : gi X 136 9 = nI (tk T) := xR.2.2.1
    unfold l_X12_day_131 b_X12_day_131 b_X12_day_189
    dsimp only
    rw [hn]
    rcases Nat.lt_or_ge k (tk T) with hl | hl
    · refine Or.inr ⟨hl, ?_⟩
      obtain ⟨-, p2, p3, -, p5⟩ := xR.2.2.2.2.2.1 k hl
      have c := I.2.2.1 k (by omega)
      rw [if_pos hl] at c
      obtain ⟨c4, c5, c6, -⟩ := c
      have nz : D 4 (8 + k) ≠ 0 := by
        rw [c4]
        rcases (hW.2.2.2.2.2.1 k hl).2.1 with z | z <;> rw [z] <;> decide
      obtain ⟨d, d1, d2⟩ := (hW.2.2.2.2.2.1 k hl).2.2.2.2
      have ix : (8 : Int32) + nI k = nI (8 + k) := nI_add 8 k
      rw [if_neg (nI_ge hl (by omega)), gd_t (inb_n (show k < 4 by omega)), tn_n (show k < 2 ^ 31 by omega), p5, nI_1, ix]
      have step : ∀ u, (decide (8 ≤ u) && decide (u < 8 + (k + 1))) = ((decide (8 ≤ u) && decide (u < 8 + k)) || u == 8 + k) := by
        intro u
        rw [Bool.eq_iff_iff]
        simp
        omega
      by_cases e : tF T 13 k = nI h
      · rw [if_pos e]
        simp only [gd_t (inb_n (show 8 + k < 11 by omega)), gd_t (inb_n (show k < 4 by omega)), tn_n (show 8 + k < 2 ^ 31 by omega), nm]
        refine ⟨_, rfl, rfl, rfl, FR_si ⟨by decide, by decide⟩ (FR_si ⟨by decide, by decide⟩ (FR_si ⟨by decide, by decide⟩ hF _ _) _ _) _ _, ?_⟩
        have q4 : gi (si X 166 (8 + k) (nI h)) 144 k = tF T 11 k := by rw [gi_si_n _ _ _ (by decide)]; exact p3
        have q3 : gi (si (si X 166 (8 + k) (nI h)) 167 (8 + k) (tF T 11 k)) 143 k = tF T 10 k := by rw [gi_si_n _ _ _ (by decide), gi_si_n _ _ _ (by decide)]; exact p2
        dsimp only
        rw [q4, q3]
        refine RV_set (g := false) n8 (show 8 + k < 11 by omega) xV (fun w hw wu => ?_) ?_ (fun z => by omega) (c6.trans e) c5 c4
        · rw [step]
          simp [wu]
        · rw [step]
          simp only [beq_self_eq_true, Bool.or_true, if_true]
          exact ⟨nz, h, hh, c6.trans e, by omega⟩
      · rw [if_neg e]
        refine ⟨_, rfl, rfl, rfl, hF, RV_iff (fun u hu => ?_) n8 xV⟩
        rw [step]
        by_cases z : u = 8 + k
        · subst z
          have a : (decide (8 ≤ 8 + k) && decide (8 + k < 8 + k)) = false := by simp
          rw [a]
          simp only [beq_self_eq_true, Bool.false_or, if_true, Bool.false_eq_true, if_false]
          constructor
          · rintro ⟨y, d', y1, y2, y3⟩
            exact ⟨y, d', y1, y2, by omega⟩
          · rintro ⟨y, d', y1, y2, y3⟩
            refine ⟨y, d', y1, y2, ?_⟩
            have : d' ≠ h := by rintro rfl; exact e (c6.symm.trans y2)
            omega
        · simp [z]
    · have e : k = tk T := by omega
      subst e
      rw [if_pos (nI_le (Nat.le_refl _) (by omega))]
      have xV2 : RV X T D (fun u => vN D (if (decide (8 ≤ u)) then h + 1 else h) u) := by
        refine RV_iff (fun u hu => ?_) n8 xV
        by_cases z : 8 ≤ u
        · by_cases y : u < 8 + tk T
          · simp [z, y]
          · have c := I.2.2.1 (u - 8) (by omega)
            rw [if_neg (by omega), show 8 + (u - 8) = u by omega] at c
            exact ⟨fun x => absurd c x.1, fun x => absurd c x.1⟩
        · simp [z]
      obtain ⟨r, s1, S', rfl, s2, s3⟩ := R_comes xT I xV2 xB hh
      refine Or.inl ⟨.inl (nI (h + 1), S'), ?_, S', rfl, FR_tr hF2 s2, s3⟩
      unfold b_X12_day_195
      rw [s1]
      rfl
  · have : (decide (8 ≤ u) && decide (u < 8 + 0)) = false := by
      rw [Bool.and_eq_false_iff]
      simp
      omega
    rw [this]
    simp
theorem R_hours (hT : RT S T bit sh) (hV : RV S T (sHours T bit sh 0) (vN (sHours T bit sh 0) 0)) (hB : RB S T (sHours T bit sh 0) 0 0) : ∃ S', lp 1000 (l_X12_day_123) (0, S) = some S' ∧ FR PR S S' ∧ RV S' T (sDay T bit sh) (vN (sDay T bit sh) 24) ∧ RB S' T (sDay T bit sh) 24 0 := by
  have hW := hT.1
  refine lp_inv (m := 24) (I := fun k x => x.1 = nI k ∧ FR PR S x.2 ∧ RV x.2 T (sHours T bit sh k) (vN (sHours T bit sh k) k) ∧ RB x.2 T (sHours T bit sh k) k 0) (fun k x hk hI => ?_) 1000 0 _ (Nat.zero_le _) (by omega) ⟨rfl, FR_refl S, hV, hB⟩
  obtain ⟨v1, X⟩ := x
  obtain ⟨e1, hF, xV, xB⟩ := hI
  simp only at e1 hF xV xB
  subst e1
  unfold l_X12_day_123 b_X12_day_123
  dsimp only
  rcases Nat.lt_or_ge k 24 with hl | hl
  · refine Or.inr ⟨hl, ?_⟩
    have e24 : ¬ (24 : Int32) ≤ nI k := nI_ge (b := 24) hl (by decide)
    rw [if_neg e24]
    obtain ⟨r, s1, S', rfl, s2, s3, s4⟩ := R_plants (RT_congr hF hT) (DI_hours (sh := sh) hW k hk) xV xB hl
    exact ⟨_, s1, rfl, FR_tr hF s2, s3, s4⟩
  · have e : k = 24 := by omega
    subst e
    have e24 : (24 : Int32) ≤ nI 24 := by decide
    rw [if_pos e24]
    exact Or.inl ⟨X, rfl, hF, xV, xB⟩
end RRUN
