/-! law, without, guard: choices that are other ones. -/
section SHUT
variable {T : TT} {b : Nat → Bool}
theorem shut_8p {D : Nat → Nat → Int32} (h : Nat) : ∀ k, sPeople T b true h D k 8 = D 8 := by
  intro k
  induction k with
  | zero => rfl
  | succ k ih =>
    show (if sDue T k = nI h then sStep T b true (sPeople T b true h D k) k else sPeople T b true h D k) 8 = D 8
    by_cases z : sDue T k = nI h
    · rw [if_pos z]
      show sThink T b (sChoose T b true (sPeople T b true h D k) k) k 8 = D 8
      rw [(thi_of (T := T) (bit := b) (D := sChoose T b true (sPeople T b true h D k) k) (p := k)).1 8 (Or.inr (Nat.le_refl _))]
      rcases (cho_of (T := T) (bit := b) (sh := true) (D := sPeople T b true h D k) (p := k)).2.2.2 with ⟨-, e, -⟩ | ⟨u, hu, e, -⟩
      · rw [e]; exact ih
      · have e2 : sBuy T b true (sPeople T b true h D k) k = (-4, 0, 0) := rfl
        rw [e2] at e
        have e3 : (-4 : Int32) = nI u := (Prod.mk.inj e).1
        have := nI_pos' (n := u) (by omega)
        rw [← e3] at this
        exact absurd this (by decide)
    · rw [if_neg z]; exact ih
theorem shut_8h : ∀ h, sHours T b true h 8 = fun _ => -4 := by
  intro h
  induction h with
  | zero => rfl
  | succ h ih =>
    show sPeople T b true h (sHours T b true h) (tn T) 8 = _
    rw [shut_8p, ih]
theorem shut_1 (hW : WT T) {p : Nat} (hp : p < tn T) : sDay T b true 1 p = kSide (sFirst T b p) := by
  rcases F_3 (b := b) (sh := true) hW hp with ⟨-, -, e⟩ | ⟨u, hu, -, e, -⟩
  · exact e
  · have e2 : sDay T b true 8 u = -4 := by
      show sHours T b true 24 8 u = -4
      rw [shut_8h]
    rw [e2] at e
    have := nI_pos' (n := p) (by have := hW.1; omega)
    rw [← e] at this
    exact absurd this (by decide)
end SHUT
theorem bt_255 {p : Nat} (h : p < 8) : bt 255 p = true := by
  have a : ∀ p : Fin 8, bt 255 p.val = true := by decide +kernel
  exact a ⟨p, h⟩
section TAKE
variable {S S0 X : St} {T : TT} {m : Option TT × (Nat → Sh)} {sh : Bool} {b : Nat → Bool}
/-- some places behind the towns -/
def PB (a : Nat) : Prop := PR a ∨ a = 177
theorem PB_lo {a : Nat} (h : PB a) : 159 ≤ a ∧ a < 173 ∨ 174 ≤ a := by
  rcases h with ⟨h1, h2⟩ | h
  · omega
  · omega
theorem R_take (h : RT X T b sh) : ∃ Y, L_X12_takeChoices X = some Y ∧ FR PB X Y ∧ ∀ p, p < tn T → gi Y 177 p = sDay T b sh 1 p := by
  obtain ⟨Z, z1, z2, z4⟩ := R_go h
  have n8 := h.1.1
  unfold L_X12_takeChoices b_X12_takeChoices_0
  rw [z1, Option.bind_some]
  refine lp_inv (m := 8) (I := fun k x => x.1 = nI k ∧ FR (fun a => a = 177) Z x.2 ∧ ∀ q, q < k → gi x.2 177 q = gi Z 160 q) (fun k x hk hI => ?_) 1000 0 _ (Nat.zero_le _) (by omega) ⟨rfl, FR_refl Z, fun p hp => absurd hp (Nat.not_lt_zero p)⟩
  obtain ⟨v, Y⟩ := x
  obtain ⟨e1, hF, hN⟩ := hI
  simp only at e1 hF hN
  subst e1
  unfold l_X12_takeChoices_6 b_X12_takeChoices_6
  dsimp only
  rcases Nat.lt_or_ge k 8 with hl | hl
  · refine Or.inr ⟨hl, ?_⟩
    have e8 : ¬ (8 : Int32) ≤ nI k := nI_ge (b := 8) hl (by decide)
    rw [if_neg e8, gd_t (inb_n hl), gd_t (inb_n hl), nm_eq, nI_1, tn_n (show k < 2 ^ 31 by omega)]
    refine ⟨_, rfl, rfl, FR_si (P := fun a => a = 177) (k := 177) rfl hF _ _, fun q hq => ?_⟩
    show gi (si Y 177 k (gi Y 160 k)) 177 q = gi Z 160 q
    rw [gi_si_s, hF.1 160 (by decide)]
    by_cases e : q = k
    · subst e; rw [upd_s]
    · rw [upd_n _ _ e]; exact hN q (by omega)
  · have e : k = 8 := by omega
    subst e
    rw [if_pos (by decide)]
    exact Or.inl ⟨_, rfl, FR_tr (FR_mono (fun a z => Or.inl z) z2) (FR_mono (fun a z => Or.inr z) hF), fun p hp => by rw [hN p (by omega)]; exact (R_pick z4 hp).1⟩
theorem R_other (h : RT X T b sh) {A : Nat → Int32} (hA : ∀ p, p < tn T → gi X 177 p = A p) (s : Int32) : ∃ Y, L_X12_otherMany s X = some (cnt (fun p => bt s p && decide (sDay T b sh 1 p ≠ A p)) (tn T), Y) ∧ FR PR X Y := by
  obtain ⟨Y, z1, z2, z4⟩ := R_go h
  have n8 := h.1.1
  have c3 := (R_W z4).2.2
  refine ⟨Y, ?_, z2⟩
  unfold L_X12_otherMany b_X12_otherMany_0
  rw [z1, Option.bind_some]
  refine lp_br _ (fun k => (s, cnt (fun p => bt s p && decide (sDay T b sh 1 p ≠ A p)) k, nI k, Y)) (tn T) _ (fun k hk => ?_) ?_ 1000 (by omega)
  · have e1 : ¬ nI (tn T) ≤ nI k := nI_ge hk (by omega)
    have e177 : gi Y 177 k = A k := by rw [z2.1 177 (fun z => absurd z.2 (by decide))]; exact hA k hk
    simp only [l_X12_otherMany_8, b_X12_otherMany_8, b_X12_otherMany_45, b_X12_otherMany_46, c3, if_neg e1, gd_t (inb_n (show k < 8 by omega)), tn_n (show k < 2 ^ 31 by omega), (R_pick z4 hk).1, e177, nI_1, cnt, bit_of s (show k < 32 by omega)]
    by_cases e : bt s k = true
    · by_cases e2 : sDay T b sh 1 k = A k <;> simp [e, e2]
    · simp [e]
  · simp only [l_X12_otherMany_8, b_X12_otherMany_8, c3, if_pos (Int32.le_refl _)]
theorem RE_PB (h : RE S0 X T) {Y : St} (f : FR PB X Y) : RE S0 Y T := RE_FR (fun a z => PB_lo z) h f
theorem RE_PR (h : RE S0 X T) {Y : St} (f : FR PR X Y) : RE S0 Y T := RE_FR (fun a z => Or.inl ⟨z.1, by have := z.2; omega⟩) h f
theorem J_law (c : IC S (T, m)) (g : IR S (T, m)) (v : Int32) : JJ S (L_X11_law v) (L_X12_law v) := by
  obtain ⟨hW, cR⟩ := IC_1 c
  have n8 := hW.1
  by_cases hv : 0 ≤ v ∧ v ≤ 9
  · obtain ⟨k, hk, rfl⟩ := in_of (n := 9) rfl (by decide) hv
    obtain ⟨X, x1, x2, x3, -⟩ := C_go (Or.inl rfl) hW cR bits_m1
    have xf : full X 1 := full_congr (x2.1 2 (by omega)).2 (fun q _ => x2.2.2.1 q) (by rw [x2.2.2.2]; exact Nat.le_refl _) c.2.2.2.1
    obtain ⟨Y, y1, y2⟩ := CE_0 (S := X) (T := T) (m := m) (IC_D x2 c)
    obtain ⟨Z, z1, z2, z3⟩ := C_try (r := 15) (i := 1) (w := tF T 15 1) (v := nI k) (by rw [wF_id]; exact y2) (by decide) (okV_15b hk)
    refine JJ_D c g (cnt (fun p => decide (sDay T tt false 1 p ≠ sDay (wF T 15 1 (nI k)) tt false 1 p)) (tn T)) ⟨Z, ?_, UpD_tr x2 z2.1⟩ (fun S1 g1 => ?_)
    · unfold L_X11_law b_X11_law_0
      rw [A_isOut, if_pos hv, Option.bind_some, if_pos rfl, x1, Option.bind_some, C_choices x3, Option.bind_some, y1, Option.bind_some, gd_t (by decide), nm_eq]
      rw [show (19 + 17 : Nat) = 19 + 2 + 15 from rfl, show (1 : Int32).toNatClampNeg = 1 by decide, z1, Option.bind_some, C_choices z3, Option.bind_some]
      rw [show tn (wF T 15 1 (nI k)) = tn T from rfl, A_who n8 (fun p hp => F_1 hW hp) (fun p hp => F_1 z2.2.1 hp), Option.bind_some, A_bc _ n8, Option.bind_some]
    · have e := RE_0 g1
      obtain ⟨Y, y1, y2, y3⟩ := R_take (RE_RT e)
      have e2 := RE_PB e y2
      have e3 := RE_rule e2 (i := 1) (v := nI k) (by decide) (okV_15b hk)
      obtain ⟨Z, z1, z2⟩ := R_other (RE_RT e3) (A := sDay T tt false 1) (fun p hp => by rw [gi_si_n _ _ _ (by decide)]; exact y3 p hp) 255
      have e4 := RE_PR e3 z2
      refine ⟨_, ?_, R_backR (i := 1) e4 (by decide) (okR_of hW).2.1⟩
      unfold L_X12_law b_X12_law_0
      rw [nm_eq, R_in 0 9, if_pos hv, Option.bind_some, if_neg (by decide), y1, Option.bind_some, nm_eq, z1, Option.bind_some, nm_eq, show gi (si S1 136 28 0) 136 7 = tF T 15 1 from e.2.2.1.2.2.2.2.2.2.2.2.1]
      have ec : cnt (fun p => bt 255 p && decide (sDay (wF T 15 1 (nI k)) tt false 1 p ≠ sDay T tt false 1 p)) (tn T) = cnt (fun p => decide (sDay T tt false 1 p ≠ sDay (wF T 15 1 (nI k)) tt false 1 p)) (tn T) := cnt_congr (fun p hp => by
        show (bt 255 p && decide (sDay (wF T 15 1 (nI k)) tt false 1 p ≠ sDay T tt false 1 p)) = decide (sDay T tt false 1 p ≠ sDay (wF T 15 1 (nI k)) tt false 1 p)
        rw [bt_255 (by omega), Bool.true_and]
        exact decide_eq_decide.mpr ne_comm)
      rw [show tn (wF T 15 1 (nI k)) = tn T from rfl, ec]
  · refine JJ_D c g (-1) ⟨S, ?_, UpD_refl S⟩ (fun S1 g1 => ⟨_, ?_, RE_0 g1⟩)
    · unfold L_X11_law b_X11_law_0
      rw [A_isOut, if_neg hv]
      rfl
    · unfold L_X12_law b_X12_law_0
      rw [nm_eq, R_in 0 9, if_neg hv]
      rfl
theorem J_without (c : IC S (T, m)) (g : IR S (T, m)) : JJ S L_X11_without L_X12_without := by
  obtain ⟨hW, cR⟩ := IC_1 c
  have n8 := hW.1
  obtain ⟨X, x1, x2, x3, -⟩ := C_go (Or.inl rfl) hW cR bits_m1
  refine JJ_D c g (cnt (fun p => decide (sDay T tt false 1 p ≠ kSide (sFirst T tt p))) (tn T)) ⟨X, ?_, x2⟩ (fun S1 g1 => ?_)
  · have c3 := (C_W x3).2.2.2.2.1
    unfold L_X11_without b_X11_without_0
    rw [x1, Option.bind_some]
    refine lp_br _ (fun k => (cnt (fun p => decide (sDay T tt false 1 p ≠ kSide (sFirst T tt p))) k, nI k, X)) (tn T) _ (fun k hk => ?_) ?_ 1000 (by omega)
    · have e1 : ¬ nI (tn T) ≤ nI k := nI_ge hk (by omega)
      obtain ⟨p0, p1, -⟩ := C_pick x3 hk
      rw [F_0 hW hk] at p0
      simp only [l_X11_without_16, b_X11_without_16, b_X11_without_54, c3, if_neg e1, gd_t (inb_n (show k < 8 by omega)), tn_n (show k < 2 ^ 31 by omega), p0, p1, A_side, Option.bind_some, nI_1, cnt]
      by_cases e : sDay T tt false 1 k = kSide (sFirst T tt k) <;> simp [e]
    · simp only [l_X11_without_16, b_X11_without_16, c3, if_pos (Int32.le_refl _)]
  · have e := RE_0 g1
    obtain ⟨Y, y1, y2, y3⟩ := R_take (RE_RT e)
    obtain ⟨u, -, hR, h29, h30⟩ := RE_PB e y2
    have e3 : RT (si Y 136 30 1) T tt true := ⟨hW, repR_slot hR (by decide) 1, by rw [gi_si_s, upd_n _ _ (by decide), h29]; exact bits_63, by rw [gi_si_s, upd_s]; rfl⟩
    obtain ⟨Z, z1, z2⟩ := R_other e3 (A := sDay T tt false 1) (fun p hp => by rw [gi_si_n _ _ _ (by decide)]; exact y3 p hp) 255
    have o := z2.1 136 (fun z => absurd z.1 (by decide))
    refine ⟨si Z 136 30 0, ?_, UpE_slot (by decide) (UpE_tr (UpE_slot (by decide) u 1) (UpE_FR (fun a z => Or.inr (Or.inl ⟨z.1, by have := z.2; omega⟩)) z2)) 0, hW, ?_, ?_, ?_⟩
    · unfold L_X12_without b_X12_without_0
      rw [nm_eq, y1, Option.bind_some, nm_eq, z1, Option.bind_some, nm_eq]
      have ec : cnt (fun p => bt 255 p && decide (sDay T tt true 1 p ≠ sDay T tt false 1 p)) (tn T) = cnt (fun p => decide (sDay T tt false 1 p ≠ kSide (sFirst T tt p))) (tn T) := cnt_congr (fun p hp => by
        show (bt 255 p && decide (sDay T tt true 1 p ≠ sDay T tt false 1 p)) = decide (sDay T tt false 1 p ≠ kSide (sFirst T tt p))
        rw [bt_255 (by omega), Bool.true_and, shut_1 hW hp]
        exact decide_eq_decide.mpr ne_comm)
      rw [ec]
    · exact repR_slot (repR_congr (fun a h1 h2 => z2.1 a (fun z => by have := z.1; omega)) (repR_slot hR (by decide) 1)) (by decide) 0
    · rw [gi_si_s, upd_n _ _ (by decide), o, gi_si_s, upd_n _ _ (by decide)]; exact h29
    · rw [gi_si_s, upd_s]
end TAKE
