/-! seeds: days by seeds. -/
def nxS (s : Int32) : Int32 := s * 1103515245 + 12345
def rdM (s : Int32) : Int32 := (s &&& 2147483647) / 65536 - (s &&& 2147483647) / 65536 / 19 * 19 - 9
theorem rdM_r (s : Int32) : -9 ≤ rdM s ∧ rdM s ≤ 9 := by
  obtain ⟨j, hj, e⟩ := pk_andE s (m := 2147483647) 31 (by decide)
  unfold rdM
  rw [e]
  have e1 : nI j / 65536 = nI (j / 65536) := pk_div (a := j) (d := 65536) hj (by decide) (by decide)
  have e2 : nI (j / 65536) - nI (j / 65536) / 19 * 19 = nI (j / 65536 % 19) := pk_rem (d := 19) (by omega) (by decide) (by decide)
  rw [e1, e2]
  have hm : j / 65536 % 19 < 19 := Nat.mod_lt _ (by decide)
  generalize j / 65536 % 19 = m at hm
  have : ∀ m : Fin 19, -9 ≤ nI m.val - 9 ∧ nI m.val - 9 ≤ 9 := by decide
  exact this ⟨m, hm⟩
def sdS (z : Int32) : Nat → Int32
  | 0 => z
  | p + 1 => nxS (sdS z p)
def sdM (T : TT) (z : Int32) : Nat → TT
  | 0 => T
  | p + 1 => wF (sdM T z p) 3 p (rdM (sdS z (p + 1)))
theorem sdM_n (T : TT) (z : Int32) : ∀ j, tn (sdM T z j) = tn T := by
  intro j
  induction j with
  | zero => rfl
  | succ j ih => exact ih
/-- behind i days: the town, the seed, how many said yes, how many sold -/
def sdR (T : TT) (z : Int32) : Nat → TT × Int32 × Int32 × Int32
  | 0 => (T, z, 0, 0)
  | i + 1 => (sdM (sdR T z i).1 (sdR T z i).2.1 (tn T), sdS (sdR T z i).2.1 (tn T), (sdR T z i).2.2.1 + cnt (fun p => decide (sDay (sdM (sdR T z i).1 (sdR T z i).2.1 (tn T)) tt false 1 p = 1)) (tn T), (sdR T z i).2.2.2 + cnt (fun p => decide (0 ≤ sDay (sdM (sdR T z i).1 (sdR T z i).2.1 (tn T)) tt false 2 p)) (tn T))
theorem sdR_n (T : TT) (z : Int32) : ∀ i, tn (sdR T z i).1 = tn T := by
  intro i
  induction i with
  | zero => rfl
  | succ i ih =>
    show tn (sdM (sdR T z i).1 _ (tn T)) = _
    rw [sdM_n, ih]
section SEEDS
variable {S S1 X : St} {T T0 : TT} {im : Option TT} {sh : Nat → Sh}
theorem C_seed1 {Y : St} (h : CE S Y T) (v1 v3 z v5 v6 v7 : Int32) : ∃ Z, lp 1000 l_X11_seeds_53 (v1, v3, z, v5, v6, v7, 0, Y) = some (.inl (v1, v3, sdS z (tn T), v5 + cnt (fun p => decide (sDay (sdM T z (tn T)) tt false 1 p = 1)) (tn T), v6 + cnt (fun p => decide (0 ≤ sDay (sdM T z (tn T)) tt false 2 p)) (tn T), v7 + 1, Z)) ∧ CE S Z (sdM T z (tn T)) := by
  have n8 : tn T ≤ 8 := h.2.1.1
  have key := lp_inv (body := l_X11_seeds_53) (m := tn T) (I := fun j x => x.1 = v1 ∧ x.2.1 = v3 ∧ x.2.2.1 = sdS z j ∧ x.2.2.2.1 = v5 ∧ x.2.2.2.2.1 = v6 ∧ x.2.2.2.2.2.1 = v7 ∧ x.2.2.2.2.2.2.1 = nI j ∧ CE S x.2.2.2.2.2.2.2 (sdM T z j)) (Q := fun r => ∃ Z, r = .inl (v1, v3, sdS z (tn T), v5 + cnt (fun p => decide (sDay (sdM T z (tn T)) tt false 1 p = 1)) (tn T), v6 + cnt (fun p => decide (0 ≤ sDay (sdM T z (tn T)) tt false 2 p)) (tn T), v7 + 1, Z) ∧ CE S Z (sdM T z (tn T))) (fun j x hj hI => ?_) 1000 0 (v1, v3, z, v5, v6, v7, 0, Y) (Nat.zero_le _) (by omega) ⟨rfl, rfl, rfl, rfl, rfl, rfl, rfl, h⟩
  · obtain ⟨r, r1, Z, rfl, r2⟩ := key
    exact ⟨Z, r1, r2⟩
  · obtain ⟨a1, a2, a3, a4, a5, a6, a7, Z⟩ := x
    obtain ⟨e1, e2, e3, e4, e5, e6, e7, hC⟩ := hI
    simp only at e1 e2 e3 e4 e5 e6 e7 hC
    subst e1 e2 e3 e4 e5 e6 e7
    have n1 : gi Z 19 0 = nI (tn T) := by rw [hC.2.2.1, sdM_n]
    unfold l_X11_seeds_53 b_X11_seeds_53
    dsimp only
    rw [n1]
    rcases Nat.lt_or_ge j (tn T) with hl | hl
    · refine Or.inr ⟨hl, ?_⟩
      rw [if_neg (nI_ge hl (by omega)), gd_t (inb_n (show j < 8 by omega)), nm_eq, tn_n (show j < 2 ^ 31 by omega), nI_1]
      exact ⟨_, rfl, rfl, rfl, rfl, rfl, rfl, rfl, rfl, CE_put (r := 3) (i := j) hC (by decide) (okV_3 (rdM_r _))⟩
    · have : j = tn T := by omega
      subst this
      rw [if_pos (Int32.le_refl _)]
      obtain ⟨Y2, y1, y2, y3, -⟩ := CE_go hC
      have c1 := C_yes y3
      have c2 := C_sold y3
      rw [sdM_n] at c1 c2
      unfold b_X11_seeds_109
      rw [y1, Option.bind_some, c1, Option.bind_some, A_bc _ n8, Option.bind_some, c2, Option.bind_some]
      exact Or.inl ⟨_, rfl, Y2, rfl, y2⟩
theorem R_seed1 {Y : St} (h : RO S Y T T0) (v1 v3 z v5 v6 v7 : Int32) : ∃ Z, lp 1000 l_X12_seeds_54 (v1, v3, z, v5, v6, v7, 0, Y) = some (.inl (v1, v3, sdS z (tn T), v5 + cnt (fun p => decide (sDay (sdM T z (tn T)) tt false 1 p = 1)) (tn T), v6 + cnt (fun p => decide (0 ≤ sDay (sdM T z (tn T)) tt false 2 p)) (tn T), v7 + 1, Z)) ∧ RO S Z (sdM T z (tn T)) T0 := by
  have n8 : tn T ≤ 8 := h.1.2.1.1
  have key := lp_inv (body := l_X12_seeds_54) (m := tn T) (I := fun j x => x.1 = v1 ∧ x.2.1 = v3 ∧ x.2.2.1 = sdS z j ∧ x.2.2.2.1 = v5 ∧ x.2.2.2.2.1 = v6 ∧ x.2.2.2.2.2.1 = v7 ∧ x.2.2.2.2.2.2.1 = nI j ∧ RO S x.2.2.2.2.2.2.2 (sdM T z j) T0) (Q := fun r => ∃ Z, r = .inl (v1, v3, sdS z (tn T), v5 + cnt (fun p => decide (sDay (sdM T z (tn T)) tt false 1 p = 1)) (tn T), v6 + cnt (fun p => decide (0 ≤ sDay (sdM T z (tn T)) tt false 2 p)) (tn T), v7 + 1, Z) ∧ RO S Z (sdM T z (tn T)) T0) (fun j x hj hI => ?_) 1000 0 (v1, v3, z, v5, v6, v7, 0, Y) (Nat.zero_le _) (by omega) ⟨rfl, rfl, rfl, rfl, rfl, rfl, rfl, h⟩
  · obtain ⟨r, r1, Z, rfl, r2⟩ := key
    exact ⟨Z, r1, r2⟩
  · obtain ⟨a1, a2, a3, a4, a5, a6, a7, Z⟩ := x
    obtain ⟨e1, e2, e3, e4, e5, e6, e7, hC⟩ := hI
    simp only at e1 e2 e3 e4 e5 e6 e7 hC
    subst e1 e2 e3 e4 e5 e6 e7
    have n1 : gi Z 136 15 = nI (tn T) := by rw [hC.1.2.2.1.1, sdM_n]
    unfold l_X12_seeds_54 b_X12_seeds_54
    dsimp only
    rw [n1]
    rcases Nat.lt_or_ge j (tn T) with hl | hl
    · refine Or.inr ⟨hl, ?_⟩
      rw [if_neg (nI_ge hl (by omega)), gd_t (inb_n (show j < 8 by omega)), nm_eq, tn_n (show j < 2 ^ 31 by omega), nI_1]
      exact ⟨_, rfl, rfl, rfl, rfl, rfl, rfl, rfl, rfl, RO_mood hC (rdM_r _)⟩
    · have : j = tn T := by omega
      subst this
      rw [if_pos (Int32.le_refl _)]
      obtain ⟨Y2, y1, -, y2, y3⟩ := RO_go hC
      have c1 := R_chose y3 1
      have c2 := R_sold y3
      rw [sdM_n] at c1 c2
      unfold b_X12_seeds_104
      rw [y1, Option.bind_some, c1, Option.bind_some, c2, Option.bind_some]
      exact Or.inl ⟨_, rfl, Y2, rfl, y2⟩
theorem J_seeds (c : IC S (T, im, sh)) (g : IR S (T, im, sh)) (n z what : Int32) : JJ S (L_X11_seeds n z what) (L_X12_seeds n z what) := by
  have z10 : ¬ (1 : Int32) = 0 := by decide
  have n8 : tn T ≤ 8 := c.2.1.1
  by_cases hn : (1 : Int32) ≤ n ∧ n ≤ 20
  · by_cases hv : (0 : Int32) ≤ what ∧ what ≤ 1
    · obtain ⟨k, hk, rfl⟩ : ∃ k : Nat, k ≤ 20 ∧ n = nI k := by
        obtain ⟨k, hk, e⟩ := nI_of (show ¬ n < 0 from Int32.not_lt.mpr (Int32.le_trans (by decide) hn.1))
        refine ⟨k, ?_, e⟩
        rw [e] at hn
        rcases Nat.lt_or_ge 20 k with w | w
        · exact absurd (nI_lt (a := 20) w hk) (Int32.not_lt.mpr hn.2)
        · exact w
      refine JJ_D c g (if what = 0 then (sdR T z k).2.2.1 else (sdR T z k).2.2.2) ?_ (fun S1 g1 => ?_)
      · obtain ⟨X, x1, x2⟩ := CE_0 c
        have key := lp_inv (body := l_X11_seeds_44) (m := k) (I := fun i x => x.1 = nI k ∧ x.2.1 = what ∧ x.2.2.1 = (sdR T z i).2.1 ∧ x.2.2.2.1 = (sdR T z i).2.2.1 ∧ x.2.2.2.2.1 = (sdR T z i).2.2.2 ∧ x.2.2.2.2.2.1 = nI i ∧ CE S x.2.2.2.2.2.2 (sdR T z i).1) (Q := fun r => r.1 = (if what = 0 then (sdR T z k).2.2.1 else (sdR T z k).2.2.2) ∧ UpD S r.2) (fun i x hi hI => ?_) 1000 0 (nI k, what, z, 0, 0, 0, X) (Nat.zero_le _) (by omega) ⟨rfl, rfl, rfl, rfl, rfl, rfl, x2⟩
        · obtain ⟨⟨r, S2⟩, r1, r2, r3⟩ := key
          simp only at r2 r3
          refine ⟨S2, ?_, r3⟩
          unfold L_X11_seeds b_X11_seeds_0
          rw [A_isOut, if_pos hn, Option.bind_some, if_pos rfl, A_isOut, if_pos hv, Option.bind_some, if_pos rfl, x1, Option.bind_some, r1, r2]
        · obtain ⟨a1, a2, a3, a4, a5, a6, Z⟩ := x
          obtain ⟨e1, e2, e3, e4, e5, e6, hC⟩ := hI
          simp only at e1 e2 e3 e4 e5 e6 hC
          subst e1 e2 e3 e4 e5 e6
          unfold l_X11_seeds_44 b_X11_seeds_44
          dsimp only
          rcases Nat.lt_or_ge i k with hl | hl
          · rw [if_neg (nI_ge hl (by omega))]
            obtain ⟨W, w1, w2⟩ := C_seed1 hC (nI k) a2 (sdR T z i).2.1 (sdR T z i).2.2.1 (sdR T z i).2.2.2 (nI i)
            rw [sdR_n] at w1 w2
            rw [w1, nI_1]
            exact Or.inr ⟨hl, _, rfl, rfl, rfl, rfl, rfl, rfl, rfl, w2⟩
          · have : i = k := by omega
            subst this
            rw [if_pos (Int32.le_refl _)]
            unfold b_X11_seeds_154
            by_cases w : a2 = 0
            · rw [if_pos w]; exact Or.inl ⟨_, rfl, by rw [if_pos w], hC.1⟩
            · rw [if_neg w]; exact Or.inl ⟨_, rfl, by rw [if_neg w], hC.1⟩
      · have e0 := RE_0 g1
        obtain ⟨Y, y1, y2⟩ := R_open e0
        have key := lp_inv (body := l_X12_seeds_45) (m := k) (I := fun i x => x.1 = nI k ∧ x.2.1 = what ∧ x.2.2.1 = (sdR T z i).2.1 ∧ x.2.2.2.1 = (sdR T z i).2.2.1 ∧ x.2.2.2.2.1 = (sdR T z i).2.2.2 ∧ x.2.2.2.2.2.1 = nI i ∧ RO S1 x.2.2.2.2.2.2 (sdR T z i).1 T) (Q := fun r => r.1 = (if what = 0 then (sdR T z k).2.2.1 else (sdR T z k).2.2.2) ∧ RE S1 r.2 T) (fun i x hi hI => ?_) 1000 0 (nI k, what, z, 0, 0, 0, Y) (Nat.zero_le _) (by omega) ⟨rfl, rfl, rfl, rfl, rfl, rfl, y2⟩
        · obtain ⟨⟨r, S2⟩, r1, r2, r3⟩ := key
          simp only at r2 r3
          refine ⟨S2, ?_, r3⟩
          unfold L_X12_seeds b_X12_seeds_0
          rw [nm_eq, R_in 1 20, if_pos hn, Option.bind_some, if_neg z10, R_in 0 1, if_pos hv, Option.bind_some, if_neg z10, y1, Option.bind_some, r1, r2]
        · obtain ⟨a1, a2, a3, a4, a5, a6, Z⟩ := x
          obtain ⟨e1, e2, e3, e4, e5, e6, hC⟩ := hI
          simp only at e1 e2 e3 e4 e5 e6 hC
          subst e1 e2 e3 e4 e5 e6
          unfold l_X12_seeds_45 b_X12_seeds_45
          dsimp only
          rcases Nat.lt_or_ge i k with hl | hl
          · rw [if_neg (nI_ge hl (by omega))]
            obtain ⟨W, w1, w2⟩ := R_seed1 hC (nI k) a2 (sdR T z i).2.1 (sdR T z i).2.2.1 (sdR T z i).2.2.2 (nI i)
            rw [sdR_n] at w1 w2
            rw [w1, nI_1]
            exact Or.inr ⟨hl, _, rfl, rfl, rfl, rfl, rfl, rfl, rfl, w2⟩
          · have : i = k := by omega
            subst this
            rw [if_pos (Int32.le_refl _)]
            obtain ⟨W, w1, w2⟩ := R_close hC
            unfold b_X12_seeds_133
            rw [w1, Option.bind_some]
            by_cases w : a2 = 0
            · rw [if_pos w]; exact Or.inl ⟨_, rfl, by rw [if_pos w], w2⟩
            · rw [if_neg w]; exact Or.inl ⟨_, rfl, by rw [if_neg w], w2⟩
    · refine JJ_D c g (-1) ⟨S, ?_, UpD_refl S⟩ (fun S1 g1 => ⟨_, ?_, RE_0 g1⟩)
      · unfold L_X11_seeds b_X11_seeds_0
        rw [A_isOut, if_pos hn, Option.bind_some, if_pos rfl, A_isOut, if_neg hv]
        rfl
      · unfold L_X12_seeds b_X12_seeds_0
        rw [nm_eq, R_in 1 20, if_pos hn, Option.bind_some, if_neg z10, R_in 0 1, if_neg hv]
        rfl
  · refine JJ_D c g (-1) ⟨S, ?_, UpD_refl S⟩ (fun S1 g1 => ⟨_, ?_, RE_0 g1⟩)
    · unfold L_X11_seeds b_X11_seeds_0
      rw [A_isOut, if_neg hn]
      rfl
    · unfold L_X12_seeds b_X12_seeds_0
      rw [nm_eq, R_in 1 20, if_neg hn]
      rfl
end SEEDS
