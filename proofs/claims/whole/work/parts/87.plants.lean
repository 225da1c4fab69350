/-! PLANTS: one more; without them; guard. -/
/-- one PLANT more -/
def addP (T : TT) (c s v w h : Int32) : TT := ((tn T, tm T, tk T + 1), tK T, uD (uD (uD (uD (uD (tF T) 9 (tk T) c) 10 (tk T) s) 11 (tk T) v) 12 (tk T) w) 13 (tk T) h)
def okP (c v w h : Int32) : Prop := (0 ≤ c ∧ c ≤ 3) ∧ (1 ≤ v ∧ v ≤ 60) ∧ (0 ≤ w ∧ w ≤ 99) ∧ (0 ≤ h ∧ h ≤ 23)
section PLANTS
variable {S : St} {t : Nat} {T : TT}
theorem WT_addP {c s v w h : Int32} (hW : WT T) (ok : okP c v w h) (hs : s = 1 ∨ s = -1) (h3 : tk T < 3) : WT (addP T c s v w h) := by
  obtain ⟨h1, h2, -, h4, h5, h6, h7⟩ := hW
  obtain ⟨o1, o2, o3, o4⟩ := ok
  obtain ⟨x, hx, ex⟩ := in_of (n := 3) rfl (by decide) o1
  obtain ⟨y, hy, ey⟩ := in_of (n := 60) rfl (by decide) ⟨Int32.le_trans (by decide) o2.1, o2.2⟩
  obtain ⟨z, hz, ez⟩ := in_of (n := 99) rfl (by decide) o3
  obtain ⟨q, hq, eq⟩ := in_of (n := 23) rfl (by decide) o4
  have y1 : 1 ≤ y := by
    have := o2.1
    rw [ey] at this
    exact (nI_leI (a := 1) (by decide) (by omega)).mp this
  have d : ∀ a, a < 9 ∨ 13 < a → tF (addP T c s v w h) a = tF T a := fun a ha => by
    show uD (uD (uD (uD (uD (tF T) 9 (tk T) c) 10 (tk T) s) 11 (tk T) v) 12 (tk T) w) 13 (tk T) h a = tF T a
    rw [uD_n _ _ _ (by omega), uD_n _ _ _ (by omega), uD_n _ _ _ (by omega), uD_n _ _ _ (by omega), uD_n _ _ _ (by omega)]
  have e9 : tF (addP T c s v w h) 9 = upd (tF T 9) (tk T) c := rfl
  have e10 : tF (addP T c s v w h) 10 = upd (tF T 10) (tk T) s := rfl
  have e11 : tF (addP T c s v w h) 11 = upd (tF T 11) (tk T) v := rfl
  have e12 : tF (addP T c s v w h) 12 = upd (tF T 12) (tk T) w := rfl
  have e13 : tF (addP T c s v w h) 13 = upd (tF T 13) (tk T) h := rfl
  refine ⟨h1, h2, h3, ?_, ?_, fun f hf => ?_, ?_⟩
  · rw [d 0 (by omega), d 1 (by omega), d 2 (by omega), d 3 (by omega), d 4 (by omega)]; exact h4
  · rw [d 5 (by omega), d 6 (by omega), d 7 (by omega), d 8 (by omega)]; exact h5
  · rw [e9, e10, e11, e12, e13]
    by_cases z' : f = tk T
    · subst z'
      simp only [upd_s]
      exact ⟨⟨x, by omega, ex⟩, hs, ⟨y, y1, by omega, ey⟩, ⟨z, by omega, ez⟩, ⟨q, by omega, eq⟩⟩
    · simp only [upd_n _ _ z']
      have hf2 : f < tk T + 1 := hf
      exact h6 f (by omega)
  · rw [d 14 (by omega), d 15 (by omega)]; exact h7
theorem C_addPlant (ht : isTown t) (hW : WT T) (hR : repC S t T) (c s v w h : Int32) :
    (¬ okP c v w h → L_X10_addPlant t c s v w h S = some (-1, S)) ∧ (okP c v w h → ¬ tk T < 3 → L_X10_addPlant t c s v w h S = some (-2, S)) ∧
    (okP c v w h → tk T < 3 → ∃ S', L_X10_addPlant t c s v w h S = some (nI (tk T), S') ∧ repC S' t (addP T c s v w h) ∧ FR (PT t) S S') := by
  have hn : gi S t 11 = nI (tk T) := hR.2.2.1
  have m3 := hW.2.2.1
  refine ⟨fun nok => ?_, fun ok hf => ?_, fun ok hf => ?_⟩
  · unfold L_X10_addPlant b_X10_addPlant_0
    rw [A_isOut, A_isOut, A_isOut, A_isOut]
    by_cases h1 : 0 ≤ c ∧ c ≤ 3
    · by_cases h2 : 1 ≤ v ∧ v ≤ 60
      · by_cases h3 : 0 ≤ w ∧ w ≤ 99
        · by_cases h4 : 0 ≤ h ∧ h ≤ 23
          · exact absurd ⟨h1, h2, h3, h4⟩ nok
          · simp [h1, h2, h3, h4]
        · simp [h1, h2, h3]
      · simp [h1, h2]
    · simp [h1]
  · have e : ¬ nI (tk T) < 3 := nI_nlt (a := tk T) (b := 3) (by omega) (by omega)
    unfold L_X10_addPlant b_X10_addPlant_0
    rw [A_isOut, A_isOut, A_isOut, A_isOut, if_pos ok.1, if_pos ok.2.1, if_pos ok.2.2.1, if_pos ok.2.2.2]
    simp only [Option.bind_some, if_true, hn, if_neg e]
  · have e : nI (tk T) < 3 := nI_lt (a := tk T) (b := 3) hf (by decide)
    have r1 := repC_put ht hR (r := 9) (by decide) (tk T) c
    have r2 := repC_put ht r1 (r := 10) (by decide) (tk T) s
    have r3 := repC_put ht r2 (r := 11) (by decide) (tk T) v
    have r4 := repC_put ht r3 (r := 12) (by decide) (tk T) w
    have r5 := repC_put ht r4 (r := 13) (by decide) (tk T) h
    have g9 : gi (si S (t + 2 + 9) (tk T) c) (t + 2 + 9) (tk T) = uD (tF T) 9 (tk T) c 9 (tk T) := by rw [gi_si_s, upd_s, uD_eq]
    have g10 : gi (si (si S (t + 2 + 9) (tk T) c) (t + 2 + 10) (tk T) s) (t + 2 + 10) (tk T) = uD (uD (tF T) 9 (tk T) c) 10 (tk T) s 10 (tk T) := by rw [gi_si_s, upd_s, uD_eq]
    have g11 : gi (si (si (si S (t + 2 + 9) (tk T) c) (t + 2 + 10) (tk T) s) (t + 2 + 11) (tk T) v) (t + 2 + 11) (tk T) = uD (uD (uD (tF T) 9 (tk T) c) 10 (tk T) s) 11 (tk T) v 11 (tk T) := by rw [gi_si_s, upd_s, uD_eq]
    have g12 : gi (si (si (si (si S (t + 2 + 9) (tk T) c) (t + 2 + 10) (tk T) s) (t + 2 + 11) (tk T) v) (t + 2 + 12) (tk T) w) (t + 2 + 12) (tk T) = uD (uD (uD (uD (tF T) 9 (tk T) c) 10 (tk T) s) 11 (tk T) v) 12 (tk T) w 12 (tk T) := by rw [gi_si_s, upd_s, uD_eq]
    have g13 : gi (si (si (si (si (si S (t + 2 + 9) (tk T) c) (t + 2 + 10) (tk T) s) (t + 2 + 11) (tk T) v) (t + 2 + 12) (tk T) w) (t + 2 + 13) (tk T) h) (t + 2 + 13) (tk T) = uD (uD (uD (uD (uD (tF T) 9 (tk T) c) 10 (tk T) s) 11 (tk T) v) 12 (tk T) w) 13 (tk T) h 13 (tk T) := by rw [gi_si_s, upd_s, uD_eq]
    have r6 := repC_tk ht r5 (tk T + 1) (fun f hf1 hf2 => by
      have : f = tk T := by
        have hf3 : tk T ≤ f := hf1
        omega
      subst this
      exact ⟨put_eq (b := t + 2) (a := 9) (put_eq (b := t + 2) (a := 9) (put_eq (b := t + 2) (a := 9) (put_eq (b := t + 2) (a := 9) g9))),
        put_eq (b := t + 2) (a := 10) (put_eq (b := t + 2) (a := 10) (put_eq (b := t + 2) (a := 10) g10)),
        put_eq (b := t + 2) (a := 11) (put_eq (b := t + 2) (a := 11) g11), put_eq (b := t + 2) (a := 12) g12, g13⟩)
    refine ⟨_, ?_, r6, FR_si ⟨by omega, by omega⟩ (FR_si ⟨by omega, by omega⟩ (FR_si ⟨by omega, by omega⟩ (FR_si ⟨by omega, by omega⟩ (FR_si ⟨by omega, by omega⟩ (FR_si ⟨by omega, by omega⟩ (FR_refl S) _ _) _ _) _ _) _ _) _ _) _ _⟩
    unfold L_X10_addPlant b_X10_addPlant_0
    rw [A_isOut, A_isOut, A_isOut, A_isOut, if_pos ok.1, if_pos ok.2.1, if_pos ok.2.2.1, if_pos ok.2.2.2]
    have k11 : t ≠ t + 11 := by omega
    have k12 : t ≠ t + 12 := by omega
    have k13 : t ≠ t + 13 := by omega
    have k14 : t ≠ t + 14 := by omega
    have k15 : t ≠ t + 15 := by omega
    simp only [Option.bind_some, if_true, hn, if_pos e, gd_t (inb_n hf), tn_n (show tk T < 2 ^ 31 by omega), nm, gi_si_n _ _ _ k11, gi_si_n _ _ _ k12, gi_si_n _ _ _ k13, gi_si_n _ _ _ k14, gi_si_n _ _ _ k15, gi_si_s, upd_s, nI_1]
    have e9 : nI (tk T + 1) - 1 = nI (tk T) := pk_sub (b := 1) (by omega)
    rw [e9]
theorem R_plantComes (hR : repR S T) (h3 : tk T < 3) (c s v w h : Int32) : ∃ S', L_X12_plantComes c s v w h S = some S' ∧ repR S' (addP T c s v w h) ∧ FR (fun a => 136 ≤ a ∧ a < 153) S S' ∧ ∀ i, i ≠ 9 → gi S' 136 i = gi S 136 i := by
  have hn : gi S 136 9 = nI (tk T) := hR.2.2.1
  have r1 := repR_put5 hR (r := 9) (by decide) (tk T) c
  have r2 := repR_put5 r1 (r := 10) (by decide) (tk T) s
  have r3 := repR_put5 r2 (r := 11) (by decide) (tk T) v
  have r4 := repR_put5 r3 (r := 12) (by decide) (tk T) w
  have r5 := repR_put5 r4 (r := 13) (by decide) (tk T) h
  have g9 : gi (si S (133 + 9) (tk T) c) (133 + 9) (tk T) = uD (tF T) 9 (tk T) c 9 (tk T) := by rw [gi_si_s, upd_s, uD_eq]
  have g10 : gi (si (si S (133 + 9) (tk T) c) (133 + 10) (tk T) s) (133 + 10) (tk T) = uD (uD (tF T) 9 (tk T) c) 10 (tk T) s 10 (tk T) := by rw [gi_si_s, upd_s, uD_eq]
  have g11 : gi (si (si (si S (133 + 9) (tk T) c) (133 + 10) (tk T) s) (133 + 11) (tk T) v) (133 + 11) (tk T) = uD (uD (uD (tF T) 9 (tk T) c) 10 (tk T) s) 11 (tk T) v 11 (tk T) := by rw [gi_si_s, upd_s, uD_eq]
  have g12 : gi (si (si (si (si S (133 + 9) (tk T) c) (133 + 10) (tk T) s) (133 + 11) (tk T) v) (133 + 12) (tk T) w) (133 + 12) (tk T) = uD (uD (uD (uD (tF T) 9 (tk T) c) 10 (tk T) s) 11 (tk T) v) 12 (tk T) w 12 (tk T) := by rw [gi_si_s, upd_s, uD_eq]
  have g13 : gi (si (si (si (si (si S (133 + 9) (tk T) c) (133 + 10) (tk T) s) (133 + 11) (tk T) v) (133 + 12) (tk T) w) (133 + 13) (tk T) h) (133 + 13) (tk T) = uD (uD (uD (uD (uD (tF T) 9 (tk T) c) 10 (tk T) s) 11 (tk T) v) 12 (tk T) w) 13 (tk T) h 13 (tk T) := by rw [gi_si_s, upd_s, uD_eq]
  have r6 := repR_tk r5 (tk T + 1) (fun f hf1 hf2 => by
    have : f = tk T := by
      have hf3 : tk T ≤ f := hf1
      omega
    subst this
    exact ⟨put_eq (b := 133) (a := 9) (put_eq (b := 133) (a := 9) (put_eq (b := 133) (a := 9) (put_eq (b := 133) (a := 9) g9))),
      put_eq (b := 133) (a := 10) (put_eq (b := 133) (a := 10) (put_eq (b := 133) (a := 10) g10)),
      put_eq (b := 133) (a := 11) (put_eq (b := 133) (a := 11) g11), put_eq (b := 133) (a := 12) g12, g13⟩)
  refine ⟨_, ?_, r6, FR_si ⟨by omega, by omega⟩ (FR_si ⟨by omega, by omega⟩ (FR_si ⟨by omega, by omega⟩ (FR_si ⟨by omega, by omega⟩ (FR_si ⟨by omega, by omega⟩ (FR_si ⟨by omega, by omega⟩ (FR_refl S) _ _) _ _) _ _) _ _) _ _) _ _, fun i hi => ?_⟩
  · unfold L_X12_plantComes b_X12_plantComes_0
    simp only [hn, gd_t (inb_n (show tk T < 4 by omega)), tn_n (show tk T < 2 ^ 31 by omega), nm, gi_si_n _ _ _ (show (136 : Nat) ≠ 142 by decide), gi_si_n _ _ _ (show (136 : Nat) ≠ 143 by decide), gi_si_n _ _ _ (show (136 : Nat) ≠ 144 by decide), gi_si_n _ _ _ (show (136 : Nat) ≠ 145 by decide), gi_si_n _ _ _ (show (136 : Nat) ≠ 146 by decide), nI_1]
  · rw [gi_si_s, upd_n _ _ hi, gi_si_n _ _ _ (by decide), gi_si_n _ _ _ (by decide), gi_si_n _ _ _ (by decide), gi_si_n _ _ _ (by decide), gi_si_n _ _ _ (by decide)]
end PLANTS
def noP (T : TT) : TT := wN T (tn T) (tm T) 0
theorem WT_noP {T : TT} (h : WT T) : WT (noP T) := ⟨h.1, h.2.1, Nat.zero_le _, h.2.2.2.1, h.2.2.2.2.1, fun i hi => absurd hi (Nat.not_lt_zero i), h.2.2.2.2.2.2⟩
section GUARD
variable {S S0 X : St} {T : TT} {m : Option TT × (Nat → Sh)}
def plC (X : St) (t : Nat) (T : TT) : Prop := ∀ i, i < tk T → gi X (t + 11) i = tF T 9 i ∧ gi X (t + 12) i = tF T 10 i ∧ gi X (t + 13) i = tF T 11 i ∧ gi X (t + 14) i = tF T 12 i ∧ gi X (t + 15) i = tF T 13 i
def plR (X : St) (T : TT) : Prop := ∀ i, i < tk T → gi X 142 i = tF T 9 i ∧ gi X 143 i = tF T 10 i ∧ gi X 144 i = tF T 11 i ∧ gi X 145 i = tF T 12 i ∧ gi X 146 i = tF T 13 i
theorem plC_c {X Y : St} {t : Nat} (o : ∀ a, t + 11 ≤ a → a ≤ t + 15 → gi Y a = gi X a) (h : plC X t T) : plC Y t T := by
  unfold plC at h ⊢
  rw [o (t + 11) (by omega) (by omega), o (t + 12) (by omega) (by omega), o (t + 13) (by omega) (by omega), o (t + 14) (by omega) (by omega), o (t + 15) (by omega) (by omega)]
  exact h
theorem plR_c {X Y : St} (o : ∀ a, 142 ≤ a → a ≤ 146 → gi Y a = gi X a) (h : plR X T) : plR Y T := by
  unfold plR at h ⊢
  rw [o 142 (by decide) (by decide), o 143 (by decide) (by decide), o 144 (by decide) (by decide), o 145 (by decide) (by decide), o 146 (by decide) (by decide)]
  exact h
theorem wF_noP (T : TT) (w v : Int32) : wF (noP (wF T 15 1 w)) 15 1 v = noP (wF T 15 1 v) := by
  have := wF_u T 15 1 w v
  show (noP (wF (wF T 15 1 w) 15 1 v)) = _
  rw [this]
theorem C_guard (h : ∃ w, UpD S X ∧ WT T ∧ plC X 19 T ∧ (repC X 19 (wF T 15 1 w) ∨ repC X 19 (noP (wF T 15 1 w)))) {k : Nat} (hk : k < 10) : ∃ Y, L_X2_run 19 (-1) (si (si X (19 + 17) 1 (nI k)) 19 11 (nI (tk T))) = some Y ∧ DC Y 19 (wF T 15 1 (nI k)) tt ∧ ∃ Z, L_X2_run 19 (-1) (si Y 19 11 0) = some Z ∧ DC Z 19 (noP (wF T 15 1 (nI k))) tt ∧ UpD S Z ∧ plC Z 19 T ∧ repC Z 19 (noP (wF T 15 1 (nI k))) := by
  obtain ⟨w, u, hW, pl, hr⟩ := h
  have i19 : isTown 19 := Or.inr (Or.inl rfl)
  have hW1 : WT (wF T 15 1 (nI k)) := WT_put hW (okV_15b hk)
  have p1 : plC (si X (19 + 17) 1 (nI k)) 19 T := plC_c (fun a h1 h2 => gi_si_n _ _ _ (by omega)) pl
  have r1 : repC (si (si X (19 + 17) 1 (nI k)) 19 11 (nI (tk T))) 19 (wF T 15 1 (nI k)) := by
    rcases hr with hr | hr
    · have a := repC_put i19 hr (r := 15) (Or.inr rfl) 1 (nI k)
      rw [wF_u] at a
      exact repC_tk i19 a (tk T) (fun i h1 h2 => absurd h2 (Nat.not_lt.mpr h1))
    · have a := repC_put i19 hr (r := 15) (Or.inr rfl) 1 (nI k)
      rw [wF_noP] at a
      exact repC_tk i19 a (tk T) (fun i h1 h2 => p1 i h2)
  have u1 : UpD S (si (si X (19 + 17) 1 (nI k)) 19 11 (nI (tk T))) := UpD_si (by decide) (UpD_si (by decide) u _ _) _ _
  have p2 : plC (si (si X (19 + 17) 1 (nI k)) 19 11 (nI (tk T))) 19 T := plC_c (fun a h1 h2 => gi_si_n _ _ _ (by omega)) p1
  obtain ⟨Y, y1, y2, y3, y4, -⟩ := C_go i19 hW1 r1 bits_m1
  have p3 : plC Y 19 T := plC_c (fun a h1 h2 => y4 a (fun z => by have := z.1; omega)) p2
  have yR := (C_W y3).2.2.2.2.2.2
  have r2 : repC (si Y 19 11 0) 19 (noP (wF T 15 1 (nI k))) := repC_tk i19 yR 0 (fun i h1 h2 => absurd h2 (Nat.not_lt_zero i))
  have p4 : plC (si Y 19 11 0) 19 T := plC_c (fun a h1 h2 => gi_si_n _ _ _ (by omega)) p3
  obtain ⟨Z, z1, z2, z3, z4, -⟩ := C_go i19 (WT_noP hW1) r2 bits_m1
  exact ⟨Y, y1, y3, Z, z1, z3, UpD_tr (UpD_tr u1 y2) (UpD_tr (UpD_si (by decide) (UpD_refl Y) 11 0) z2), plC_c (fun a h1 h2 => z4 a (fun z => by have := z.1; omega)) p4, (C_W z3).2.2.2.2.2.2⟩
theorem R_guard (h : ∃ w, RE S X (wF T 15 1 w)) (hW : WT T) {k : Nat} (hk : k < 10) (s : Int32) : ∃ Y, L_X12_takeChoices (si (si X 136 7 (nI k)) 136 9 0) = some Y ∧ ∃ Z, L_X12_otherMany s (si Y 136 9 (nI (tk T))) = some (cnt (fun p => bt s p && decide (sDay (wF T 15 1 (nI k)) tt false 1 p ≠ sDay (noP (wF T 15 1 (nI k))) tt false 1 p)) (tn T), Z) ∧ RE S Z (wF T 15 1 (nI k)) := by
  obtain ⟨w, e⟩ := h
  have e1 := RE_rule e (i := 1) (v := nI k) (by decide) (okV_15b hk)
  rw [wF_u] at e1
  have hW1 : WT (wF T 15 1 (nI k)) := e1.2.1
  have pl1 : plR (si X 136 7 (nI k)) (wF T 15 1 (nI k)) := e1.2.2.1.2.2.2.2.2.1
  have r2 : repR (si (si X 136 7 (nI k)) 136 9 0) (noP (wF T 15 1 (nI k))) := repR_tk e1.2.2.1 0 (fun i h1 h2 => absurd h2 (Nat.not_lt_zero i))
  have e2 : RE S (si (si X 136 7 (nI k)) 136 9 0) (noP (wF T 15 1 (nI k))) := ⟨UpE_slot (by decide) e1.1 0, WT_noP hW1, r2, by rw [gi_si_s, upd_n _ _ (by decide)]; exact e1.2.2.2.1, by rw [gi_si_s, upd_n _ _ (by decide)]; exact e1.2.2.2.2⟩
  have pl2 : plR (si (si X 136 7 (nI k)) 136 9 0) (wF T 15 1 (nI k)) := plR_c (fun a h1 h2 => gi_si_n _ _ _ (by omega)) pl1
  obtain ⟨Y, y1, y2, y3⟩ := R_take (RE_RT e2)
  have e3 := RE_PB e2 y2
  have pl3 : plR Y (wF T 15 1 (nI k)) := plR_c (fun a h1 h2 => y2.1 a (fun z => by have := PB_lo z; omega)) pl2
  have r4 : repR (si Y 136 9 (nI (tk T))) (wF T 15 1 (nI k)) := repR_tk e3.2.2.1 (tk T) (fun i h1 h2 => pl3 i h2)
  have e4 : RE S (si Y 136 9 (nI (tk T))) (wF T 15 1 (nI k)) := ⟨UpE_slot (by decide) e3.1 _, hW1, r4, by rw [gi_si_s, upd_n _ _ (by decide)]; exact e3.2.2.2.1, by rw [gi_si_s, upd_n _ _ (by decide)]; exact e3.2.2.2.2⟩
  obtain ⟨Z, z1, z2⟩ := R_other (RE_RT e4) (A := sDay (noP (wF T 15 1 (nI k))) tt false 1) (fun p hp => by rw [gi_si_n _ _ _ (by decide)]; exact y3 p hp) s
  exact ⟨Y, y1, Z, z1, RE_PR e4 z2⟩
theorem A_every (hn : gi S 1 0 = nI (tn T)) : L_X11_everybody S = some (((1 : Int32) <<< (nI (tn T) &&& 31)) - 1) := by
  unfold L_X11_everybody b_X11_everybody_0
  rw [hn]
theorem R_inX (a hi : Int32) (S : St) : L_X12_in a.toInt64 0 hi.toInt64 S = some (if 0 ≤ a ∧ a ≤ hi then 1 else 0) := R_inI a 0 hi S
theorem J_guard (c : IC S (T, m)) (g : IR S (T, m)) (s : Int32) : JJ S (L_X11_guard s) (L_X12_guard s) := by
  obtain ⟨hW, cR⟩ := IC_1 c
  have n8 := hW.1
  by_cases hs : 0 ≤ s ∧ s ≤ ((1 : Int32) <<< (nI (tn T) &&& 31)) - 1
  · generalize hf : (fun k => decide (cnt (fun p => bt s p && decide (sDay (wF T 15 1 (nI k)) tt false 1 p ≠ sDay (noP (wF T 15 1 (nI k))) tt false 1 p)) (tn T) = 0)) = f
    have fe : ∀ k, f k = decide (cnt (fun p => bt s p && decide (sDay (wF T 15 1 (nI k)) tt false 1 p ≠ sDay (noP (wF T 15 1 (nI k))) tt false 1 p)) (tn T) = 0) := fun k => by rw [← hf]
    obtain ⟨X, x1, x2⟩ := CE_0 c
    refine JJ_P c g (isL f 0 10) (fun r r' h h' => isL_u h h') ?_ (fun S1 g1 => ?_)
    · unfold L_X11_guard b_X11_guard_0
      rw [A_every cR.1, Option.bind_some, A_isOut, if_pos hs, Option.bind_some, if_pos rfl, x1, Option.bind_some]
      have key := lp_inv (body := l_X11_guard_27) (m := 10) (I := fun k x => x.1 = s ∧ x.2.1 = nI k ∧ (∀ i, i < k → f i = false) ∧ ∃ w, UpD S x.2.2 ∧ WT T ∧ plC x.2.2 19 T ∧ (repC x.2.2 19 (wF T 15 1 w) ∨ repC x.2.2 19 (noP (wF T 15 1 w)))) (Q := fun y => UpD S y.2 ∧ isL f 0 10 y.1) (fun k x hk hI => ?_) 1000 0 (s, 0, X) (Nat.zero_le _) (by omega) ⟨rfl, rfl, fun i hi => absurd hi (Nat.not_lt_zero i), tF T 15 1, x2.1, hW, x2.2.2.2.2.2.2.2.1, Or.inl (by rw [wF_id]; exact x2.2.2)⟩
      · obtain ⟨⟨y1, y2⟩, e, e1, e2⟩ := key
        exact ⟨y1, y2, e, e1, e2⟩
      · obtain ⟨a1, a2, Z⟩ := x
        obtain ⟨e1, e2, e3, e4⟩ := hI
        simp only at e1 e2 e3 e4
        subst e1 e2
        unfold l_X11_guard_27 b_X11_guard_27
        dsimp only
        rcases Nat.lt_or_ge k 10 with hl | hl
        · have e9 : ¬ (9 : Int32) < nI k := nI_nlt (a := 9) (by omega) (by decide)
          obtain ⟨Y, y1, y2, W, w1, w2, w3, w4, w5⟩ := C_guard e4 hl
          have zR : gi (si Z (19 + 17) 1 (nI k)) 1 11 = nI (tk T) := by
            obtain ⟨w, u, -⟩ := e4
            rw [gi_si_n _ _ _ (by decide), (u.1 1 (by decide)).1]
            exact cR.2.2.1
          rw [if_neg e9, gd_t (by decide), nm_eq, show (1 : Int32).toNatClampNeg = 1 by decide, nm_eq, zR, y1, Option.bind_some, C_choices y2, Option.bind_some, nm_eq, w1, Option.bind_some, C_choices w2, Option.bind_some]
          rw [show tn (wF T 15 1 (nI k)) = tn T from rfl, show tn (noP (wF T 15 1 (nI k))) = tn T from rfl, A_who n8 (fun p hp => F_1 (C_W y2).1 hp) (fun p hp => F_1 (C_W w2).1 hp), Option.bind_some]
          have fk : (bts (fun p => decide (sDay (wF T 15 1 (nI k)) tt false 1 p ≠ sDay (noP (wF T 15 1 (nI k))) tt false 1 p)) (tn T)) &&& a1 = 0 ↔ f k = true := by
            rw [fe k, decide_eq_true_eq, set_no n8, cnt_0 (by omega)]
            constructor
            · intro z p hp
              have := z p hp
              rw [Bool.and_eq_false_iff]
              cases hb : bt a1 p with
              | true => exact Or.inr (by rw [hb] at this; simpa using this)
              | false => exact Or.inl rfl
            · intro z p hp hb
              have := z p hp
              rw [hb.1, hb.2] at this
              cases this
          by_cases z : f k = true
          · rw [if_pos (fk.mpr z)]
            exact Or.inl ⟨_, rfl, w3, Or.inl ⟨k, Nat.zero_le _, hl, z, fun i _ hi => e3 i hi, rfl⟩⟩
          · rw [if_neg (fun y => z (fk.mp y))]
            refine Or.inr ⟨hl, _, rfl, rfl, nI_1 k, fun i hi => ?_, _, w3, hW, w4, Or.inr w5⟩
            rcases Nat.eq_or_lt_of_le (Nat.le_of_lt_succ hi) with y | y
            · rw [y]; simpa using z
            · exact e3 i y
        · have : k = 10 := by omega
          subst this
          rw [if_pos (by decide)]
          obtain ⟨w, u, -⟩ := e4
          exact Or.inl ⟨_, rfl, u, Or.inr ⟨fun q _ hq => e3 q hq, rfl⟩⟩
    · have e := RE_0 g1
      unfold L_X12_guard b_X12_guard_0
      rw [nm_eq, e.2.2.1.1, R_inX, if_pos hs, Option.bind_some, if_neg (by decide), show gi (si S1 136 28 0) 136 7 = tF T 15 1 from e.2.2.1.2.2.2.2.2.2.2.2.1, e.2.2.1.2.2.1]
      have key := lp_inv (body := l_X12_guard_42) (m := 10) (I := fun k x => x.1 = s ∧ x.2.2.1 = tF T 15 1 ∧ x.2.2.2.1 = nI (tk T) ∧ x.2.2.2.2.1 = nI k ∧ ((x.2.1 = -4 ∧ ∀ i, i < k → f i = false) ∨ (¬ x.2.1 < 0 ∧ isL f 0 10 x.2.1)) ∧ ∃ w, RE S1 x.2.2.2.2.2 (wF T 15 1 w)) (Q := fun y => RE S1 y.2 T ∧ isL f 0 10 y.1) (fun k x hk hI => ?_) 1000 0 (s, -4, tF T 15 1, nI (tk T), 0, si S1 136 28 0) (Nat.zero_le _) (by omega) ⟨rfl, rfl, rfl, rfl, Or.inl ⟨rfl, fun i hi => absurd hi (Nat.not_lt_zero i)⟩, tF T 15 1, by rw [wF_id]; exact e⟩
      · obtain ⟨⟨y1, y2⟩, e, e1, e2⟩ := key
        exact ⟨y1, y2, e, e1, e2⟩
      · obtain ⟨a1, a2, a3, a4, a5, Z⟩ := x
        obtain ⟨e1, e2, e3, e4, e5, e6⟩ := hI
        simp only at e1 e2 e3 e4 e5 e6
        subst e1 e2 e3 e4
        have bk : RE S1 (si Z 136 7 (tF T 15 1)) T := by
          obtain ⟨w, e6⟩ := e6
          exact R_backR (i := 1) e6 (by decide) (okR_of hW).2.1
        unfold l_X12_guard_42 b_X12_guard_42
        dsimp only
        rcases e5 with ⟨e5, e7⟩ | ⟨e5, e7⟩
        · subst e5
          rcases Nat.lt_or_ge k 10 with hl | hl
          · have e9 : ¬ (9 : Int32) < nI k := nI_nlt (a := 9) (by omega) (by decide)
            obtain ⟨Y, y1, W, w1, w2⟩ := R_guard e6 hW hl a1
            rw [if_neg e9, if_neg (by decide), nm_eq, nm_eq, y1, Option.bind_some, nm_eq, w1, Option.bind_some]
            unfold b_X12_guard_89
            dsimp only
            have fk := fe k
            by_cases z : cnt (fun p => bt a1 p && decide (sDay (wF T 15 1 (nI k)) tt false 1 p ≠ sDay (noP (wF T 15 1 (nI k))) tt false 1 p)) (tn T) = 0
            · rw [if_pos z]
              rw [decide_eq_true z] at fk
              exact Or.inr ⟨hl, _, rfl, rfl, rfl, rfl, nI_1 k, Or.inr ⟨nI_pos (by omega), Or.inl ⟨k, Nat.zero_le _, hl, fk, fun i _ hi => e7 i hi, rfl⟩⟩, _, w2⟩
            · rw [if_neg z]
              rw [decide_eq_false z] at fk
              refine Or.inr ⟨hl, _, rfl, rfl, rfl, rfl, nI_1 k, Or.inl ⟨rfl, fun i hi => ?_⟩, _, w2⟩
              rcases Nat.eq_or_lt_of_le (Nat.le_of_lt_succ hi) with y | y
              · rw [y]; exact fk
              · exact e7 i y
          · have : k = 10 := by omega
            subst this
            rw [if_pos (by decide)]
            unfold b_X12_guard_96
            exact Or.inl ⟨_, rfl, bk, Or.inr ⟨fun q _ hq => e7 q hq, rfl⟩⟩
        · have e0 : (0 : Int32) ≤ a2 := Int32.not_lt.mp e5
          unfold b_X12_guard_96
          by_cases z : (9 : Int32) < nI k
          · rw [if_pos z]
            exact Or.inl ⟨_, rfl, bk, e7⟩
          · rw [if_neg z, if_pos e0]
            exact Or.inl ⟨_, rfl, bk, e7⟩
  · refine JJ_D c g (-1) ⟨S, ?_, UpD_refl S⟩ (fun S1 g1 => ⟨_, ?_, RE_0 g1⟩)
    · unfold L_X11_guard b_X11_guard_0
      rw [A_every cR.1, Option.bind_some, A_isOut, if_neg hs]
      rfl
    · unfold L_X12_guard b_X12_guard_0
      rw [nm_eq, (RE_0 g1).2.2.1.1, R_inX, if_neg hs]
      rfl
end GUARD
