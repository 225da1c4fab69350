/-! PLANTS: one more; without them; guard. -/
/-- one PLANT more -/
def addP (T : TT) (c s v w h : Int32) : TT := ((tn T, tm T, tk T + 1), tK T, uD (uD (uD (uD (uD (tF T) 9 (tk T) c) 10 (tk T) s) 11 (tk T) v) 12 (tk T) w) 13 (tk T) h)
def okP (c v w h : Int32) : Prop := (0 ≤ c ∧ c ≤ 3) ∧ (1 ≤ v ∧ v ≤ 60) ∧ (0 ≤ w ∧ w ≤ 99) ∧ (0 ≤ h ∧ h ≤ 23)
section PLANTS
variable {S : St} {t : Nat} {T : TT}
theorem WT_addP {c s v w h : Int32} (hW : WT T) (ok : okP c v w h) (hs : s = 1 ∨ s = -1) (h3 : tk T < 3) : WT (addP T c s v w h) := by
  obtain ⟨h1, h2, -, h4, h5, h6, h7⟩ := hW
  obtain ⟨o1, o2, o3, o4⟩ := ok
  obtain ⟨x, hx, ex⟩ := in_of (n := 3) rfl (by decide) o1
  obtain ⟨y, hy, ey⟩ := in_of (n := 60) rfl (by decide) ⟨Int32.le_trans (by decide) o2.1, o2.2⟩
  obtain ⟨z, hz, ez⟩ := in_of (n := 99) rfl (by decide) o3
  obtain ⟨q, hq, eq⟩ := in_of (n := 23) rfl (by decide) o4
  have y1 : 1 ≤ y := by
    have := o2.1
    rw [ey] at this
    exact (nI_leI (a := 1) (by decide) (by omega)).mp this
  have d : ∀ a, a < 9 ∨ 13 < a → tF (addP T c s v w h) a = tF T a := fun a ha => by
    show uD (uD (uD (uD (uD (tF T) 9 (tk T) c) 10 (tk T) s) 11 (tk T) v) 12 (tk T) w) 13 (tk T) h a = tF T a
    rw [uD_n _ _ _ (by omega), uD_n _ _ _ (by omega), uD_n _ _ _ (by omega), uD_n _ _ _ (by omega), uD_n _ _ _ (by omega)]
  have e9 : tF (addP T c s v w h) 9 = upd (tF T 9) (tk T) c := rfl
  have e10 : tF (addP T c s v w h) 10 = upd (tF T 10) (tk T) s := rfl
  have e11 : tF (addP T c s v w h) 11 = upd (tF T 11) (tk T) v := rfl
  have e12 : tF (addP T c s v w h) 12 = upd (tF T 12) (tk T) w := rfl
  have e13 : tF (addP T c s v w h) 13 = upd (tF T 13) (tk T) h := rfl
  refine ⟨h1, h2, h3, ?_, ?_, fun f hf => ?_, ?_⟩
  · rw [d 0 (by omega), d 1 (by omega), d 2 (by omega), d 3 (by omega), d 4 (by omega)]; exact h4
  · rw [d 5 (by omega), d 6 (by omega), d 7 (by omega), d 8 (by omega)]; exact h5
  · rw [e9, e10, e11, e12, e13]
    by_cases z' : f = tk T
    · subst z'
      simp only [upd_s]
      exact ⟨⟨x, by omega, ex⟩, hs, ⟨y, y1, by omega, ey⟩, ⟨z, by omega, ez⟩, ⟨q, by omega, eq⟩⟩
    · simp only [upd_n _ _ z']
      have hf2 : f < tk T + 1 := hf
      exact h6 f (by omega)
  · rw [d 14 (by omega), d 15 (by omega)]; exact h7
theorem C_addPlant (ht : isTown t) (hW : WT T) (hR : repC S t T) (c s v w h : Int32) :
    (¬ okP c v w h → L_X10_addPlant t c s v w h S = some (-1, S)) ∧ (okP c v w h → ¬ tk T < 3 → L_X10_addPlant t c s v w h S = some (-2, S)) ∧
    (okP c v w h → tk T < 3 → ∃ S', L_X10_addPlant t c s v w h S = some (nI (tk T), S') ∧ repC S' t (addP T c s v w h) ∧ FR (PT t) S S') := by
  have hn : gi S t 11 = nI (tk T) := hR.2.2.1
  have m3 := hW.2.2.1
  refine ⟨fun nok => ?_, fun ok hf => ?_, fun ok hf => ?_⟩
  · unfold L_X10_addPlant b_X10_addPlant_0
    rw [A_isOut, A_isOut, A_isOut, A_isOut]
    by_cases h1 : 0 ≤ c ∧ c ≤ 3
    · by_cases h2 : 1 ≤ v ∧ v ≤ 60
      · by_cases h3 : 0 ≤ w ∧ w ≤ 99
        · by_cases h4 : 0 ≤ h ∧ h ≤ 23
          · exact absurd ⟨h1, h2, h3, h4⟩ nok
          · simp [h1, h2, h3, h4]
        · simp [h1, h2, h3]
      · simp [h1, h2]
    · simp [h1]
  · have e : ¬ nI (tk T) < 3 := nI_nlt (a := tk T) (b := 3) (by omega) (by omega)
    unfold L_X10_addPlant b_X10_addPlant_0
    rw [A_isOut, A_isOut, A_isOut, A_isOut, if_pos ok.1, if_pos ok.2.1, if_pos ok.2.2.1, if_pos ok.2.2.2]
    simp only [Option.bind_some, if_true, hn, if_neg e]
  · have e : nI (tk T) < 3 := nI_lt (a := tk T) (b := 3) hf (by decide)
    have r1 := repC_put ht hR (r := 9) (by decide) (tk T) c
    have r2 := repC_put ht r1 (r := 10) (by decide) (tk T) s
    have r3 := repC_put ht r2 (r := 11) (by decide) (tk T) v
    have r4 := repC_put ht r3 (r := 12) (by decide) (tk T) w
    have r5 := repC_put ht r4 (r := 13) (by decide) (tk T) h
    have g9 : gi (si S (t + 2 + 9) (tk T) c) (t + 2 + 9) (tk T) = uD (tF T) 9 (tk T) c 9 (tk T) := by rw [gi_si_s, upd_s, uD_eq]
    have g10 : gi (si (si S (t + 2 + 9) (tk T) c) (t + 2 + 10) (tk T) s) (t + 2 + 10) (tk T) = uD (uD (tF T) 9 (tk T) c) 10 (tk T) s 10 (tk T) := by rw [gi_si_s, upd_s, uD_eq]
    have g11 : gi (si (si (si S (t + 2 + 9) (tk T) c) (t + 2 + 10) (tk T) s) (t + 2 + 11) (tk T) v) (t + 2 + 11) (tk T) = uD (uD (uD (tF T) 9 (tk T) c) 10 (tk T) s) 11 (tk T) v 11 (tk T) := by rw [gi_si_s, upd_s, uD_eq]
    have g12 : gi (si (si (si (si S (t + 2 + 9) (tk T) c) (t + 2 + 10) (tk T) s) (t + 2 + 11) (tk T) v) (t + 2 + 12) (tk T) w) (t + 2 + 12) (tk T) = uD (uD (uD (uD (tF T) 9 (tk T) c) 10 (tk T) s) 11 (tk T) v) 12 (tk T) w 12 (tk T) := by rw [gi_si_s, upd_s, uD_eq]
    have g13 : gi (si (si (si (si (si S (t + 2 + 9) (tk T) c) (t + 2 + 10) (tk T) s) (t + 2 + 11) (tk T) v) (t + 2 + 12) (tk T) w) (t + 2 + 13) (tk T) h) (t + 2 + 13) (tk T) = uD (uD (uD (uD (uD (tF T) 9 (tk T) c) 10 (tk T) s) 11 (tk T) v) 12 (tk T) w) 13 (tk T) h 13 (tk T) := by rw [gi_si_s, upd_s, uD_eq]
    have r6 := repC_tk ht r5 (tk T + 1) (fun f hf1 hf2 => by
      have : f = tk T := by
        have hf3 : tk T ≤ f := hf1
        omega
      subst this
      exact ⟨put_eq (b := t + 2) (a := 9) (put_eq (b := t + 2) (a := 9) (put_eq (b := t + 2) (a := 9) (put_eq (b := t + 2) (a := 9) g9))),
        put_eq (b := t + 2) (a := 10) (put_eq (b := t + 2) (a := 10) (put_eq (b := t + 2) (a := 10) g10)),
        put_eq (b := t + 2) (a := 11) (put_eq (b := t + 2) (a := 11) g11), put_eq (b := t + 2) (a := 12) g12, g13⟩)
    refine ⟨_, ?_, r6, FR_si ⟨by omega, by omega⟩ (FR_si ⟨by omega, by omega⟩ (FR_si ⟨by omega, by omega⟩ (FR_si ⟨by omega, by omega⟩ (FR_si ⟨by omega, by omega⟩ (FR_si ⟨by omega, by omega⟩ (FR_refl S) _ _) _ _) _ _) _ _) _ _) _ _⟩
    unfold L_X10_addPlant b_X10_addPlant_0
    rw [A_isOut, A_isOut, A_isOut, A_isOut, if_pos ok.1, if_pos ok.2.1, if_pos ok.2.2.1, if_pos ok.2.2.2]
    have k11 : t ≠ t + 11 := by omega
    have k12 : t ≠ t + 12 := by omega
    have k13 : t ≠ t + 13 := by omega
    have k14 : t ≠ t + 14 := by omega
    have k15 : t ≠ t + 15 := by omega
    simp only [Option.bind_some, if_true, hn, if_pos e, gd_t (inb_n hf), tn_n (show tk T < 2 ^ 31 by omega), nm, gi_si_n _ _ _ k11, gi_si_n _ _ _ k12, gi_si_n _ _ _ k13, gi_si_n _ _ _ k14, gi_si_n _ _ _ k15, gi_si_s, upd_s, nI_1]
    have e9 : nI (tk T + 1) - 1 = nI (tk T) := pk_sub (b := 1) (by omega)
    rw [e9]
end PLANTS
def noP (T : TT) : TT := wN T (tn T) (tm T) 0
theorem WT_noP {T : TT} (h : WT T) : WT (noP T) := ⟨h.1, h.2.1, Nat.zero_le _, h.2.2.2.1, h.2.2.2.2.1, fun i hi => absurd hi (Nat.not_lt_zero i), h.2.2.2.2.2.2⟩
section GUARD
variable {S S0 X : St} {T : TT} {m : Option TT × (Nat → Sh)}
def plC (X : St) (t : Nat) (T : TT) : Prop := ∀ i, i < tk T → gi X (t + 11) i = tF T 9 i ∧ gi X (t + 12) i = tF T 10 i ∧ gi X (t + 13) i = tF T 11 i ∧ gi X (t + 14) i = tF T 12 i ∧ gi X (t + 15) i = tF T 13 i
theorem plC_c {X Y : St} {t : Nat} (o : ∀ a, t + 11 ≤ a → a ≤ t + 15 → gi Y a = gi X a) (h : plC X t T) : plC Y t T := by
  unfold plC at h ⊢
  rw [o (t + 11) (by omega) (by omega), o (t + 12) (by omega) (by omega), o (t + 13) (by omega) (by omega), o (t + 14) (by omega) (by omega), o (t + 15) (by omega) (by omega)]
  exact h
theorem wF_noP (T : TT) (w v : Int32) : wF (noP (wF T 15 1 w)) 15 1 v = noP (wF T 15 1 v) := by
  have := wF_u T 15 1 w v
  show (noP (wF (wF T 15 1 w) 15 1 v)) = _
  rw [this]
theorem C_guard (h : ∃ w, UpD S X ∧ WT T ∧ plC X 19 T ∧ (repC X 19 (wF T 15 1 w) ∨ repC X 19 (noP (wF T 15 1 w)))) {k : Nat} (hk : k < 10) : ∃ Y, L_X2_run 19 (-1) (si (si X (19 + 17) 1 (nI k)) 19 11 (nI (tk T))) = some Y ∧ DC Y 19 (wF T 15 1 (nI k)) tt ∧ ∃ Z, L_X2_run 19 (-1) (si Y 19 11 0) = some Z ∧ DC Z 19 (noP (wF T 15 1 (nI k))) tt ∧ UpD S Z ∧ plC Z 19 T ∧ repC Z 19 (noP (wF T 15 1 (nI k))) := by
  obtain ⟨w, u, hW, pl, hr⟩ := h
  have i19 : isTown 19 := Or.inr (Or.inl rfl)
  have hW1 : WT (wF T 15 1 (nI k)) := WT_put hW (okV_15b hk)
  have p1 : plC (si X (19 + 17) 1 (nI k)) 19 T := plC_c (fun a h1 h2 => gi_si_n _ _ _ (by omega)) pl
  have r1 : repC (si (si X (19 + 17) 1 (nI k)) 19 11 (nI (tk T))) 19 (wF T 15 1 (nI k)) := by
    rcases hr with hr | hr
    · have a := repC_put i19 hr (r := 15) (Or.inr rfl) 1 (nI k)
      rw [wF_u] at a
      exact repC_tk i19 a (tk T) (fun i h1 h2 => absurd h2 (Nat.not_lt.mpr h1))
    · have a := repC_put i19 hr (r := 15) (Or.inr rfl) 1 (nI k)
      rw [wF_noP] at a
      exact repC_tk i19 a (tk T) (fun i h1 h2 => p1 i h2)
  have u1 : UpD S (si (si X (19 + 17) 1 (nI k)) 19 11 (nI (tk T))) := UpD_si (by decide) (UpD_si (by decide) u _ _) _ _
  have p2 : plC (si (si X (19 + 17) 1 (nI k)) 19 11 (nI (tk T))) 19 T := plC_c (fun a h1 h2 => gi_si_n _ _ _ (by omega)) p1
  obtain ⟨Y, y1, y2, y3, y4, -⟩ := C_go i19 hW1 r1 bits_m1
  have p3 : plC Y 19 T := plC_c (fun a h1 h2 => y4 a (fun z => by have := z.1; omega)) p2
  have yR := (C_W y3).2.2.2.2.2.2
  have r2 : repC (si Y 19 11 0) 19 (noP (wF T 15 1 (nI k))) := repC_tk i19 yR 0 (fun i h1 h2 => absurd h2 (Nat.not_lt_zero i))
  have p4 : plC (si Y 19 11 0) 19 T := plC_c (fun a h1 h2 => gi_si_n _ _ _ (by omega)) p3
  obtain ⟨Z, z1, z2, z3, z4, -⟩ := C_go i19 (WT_noP hW1) r2 bits_m1
  exact ⟨Y, y1, y3, Z, z1, z3, UpD_tr (UpD_tr u1 y2) (UpD_tr (UpD_si (by decide) (UpD_refl Y) 11 0) z2), plC_c (fun a h1 h2 => z4 a (fun z => by have := z.1; omega)) p4, (C_W z3).2.2.2.2.2.2⟩
theorem A_every (hn : gi S 1 0 = nI (tn T)) : L_X11_everybody S = some (((1 : Int32) <<< (nI (tn T) &&& 31)) - 1) := by
  unfold L_X11_everybody b_X11_everybody_0
  rw [hn]
end GUARD
