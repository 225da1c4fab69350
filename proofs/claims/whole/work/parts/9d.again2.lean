/-! again, the reference. -/
theorem agA_4 {T : TT} {j : Nat} (hj : j ≤ 40) (h : agA T j < 0) : agA T j = -4 := by
  rcases ls_is (alF (tn T) (fun k => tF (Ts T k) 3) j) j (by omega) with ⟨q, -, hq, -, -, e⟩ | ⟨-, e⟩
  · unfold agA at h
    rw [e] at h
    exact absurd h (nI_pos (by omega))
  · exact e
section AGAIN2
variable {S S0 X : St} {T T0 : TT} {im : Option TT} {sh : Nat → Sh}
def RO (S X : St) (T T0 : TT) : Prop := RE S X T ∧ imgR (gi X 172) T0 ∧ WT T0
theorem R_open (h : RE S X T) : ∃ Y, L_X12_open X = some Y ∧ RO S Y T T := by
  obtain ⟨Y, y1, y2⟩ := carry_all (take := true) (u := 172) (Or.inl rfl) X
  obtain ⟨u, hW, hR, h29, h30⟩ := h
  have hR' := CA_repR (Or.inl rfl) hW y2 hR
  refine ⟨Y, ?_, ⟨UpE_tr u ⟨CA_UpR (Or.inl rfl) y2, fun a ha => CA_outF y2 (by omega) (Or.inr (by omega)), y2.2.2.2.2.2.2.2.1 158, CA_out y2 (by decide) (Or.inr (Or.inr (by decide)))⟩, hW, hR', ?_, ?_⟩, (img_of hW (fun i hi => y2.2.2.2.2.1 rfl i hi)).mpr hR, hW⟩
  · unfold L_X12_open b_X12_open_0
    rw [show L_X12_carryAll 172 1 X = some Y from y1, Option.bind_some]
  · rw [CA_out y2 (by decide) (Or.inr (Or.inr (by decide)))]; exact h29
  · rw [CA_out y2 (by decide) (Or.inr (Or.inr (by decide)))]; exact h30
theorem R_close (h : RO S X T T0) : ∃ Y, L_X12_close X = some Y ∧ RE S Y T0 := by
  obtain ⟨⟨u, hW, hR, h29, h30⟩, hI, hW0⟩ := h
  obtain ⟨Y, y1, y2⟩ := carry_all (take := false) (u := 172) (Or.inl rfl) X
  have hR' : repR Y T0 := (img_of hW0 (fun i hi => (y2.2.2.2.2.2.1 rfl i hi).symm)).mp hI
  have k : ∀ a v w, a ≠ 136 → gi (si (si Y 136 29 v) 136 30 w) a = gi Y a := fun a v w ha => by rw [gi_si_n _ _ _ ha, gi_si_n _ _ _ ha]
  have u2 : UpE S Y := UpE_tr u ⟨CA_UpR (Or.inl rfl) y2, fun a ha => CA_outF y2 (by omega) (Or.inr (by omega)), y2.2.2.2.2.2.2.2.1 158, CA_out y2 (by decide) (Or.inr (Or.inr (by decide)))⟩
  refine ⟨si (si Y 136 29 63) 136 30 0, ?_, UpE_slot (by decide) (UpE_slot (by decide) u2 63) 0, hW0, repR_slot (repR_slot hR' (by decide) 63) (by decide) 0, ?_, ?_⟩
  · unfold L_X12_close b_X12_close_0
    rw [show L_X12_carryAll 172 0 X = some Y from y1, Option.bind_some, nm_eq, nm_eq]
  · rw [gi_at, if_neg (by decide), gi_at, if_pos ⟨rfl, rfl⟩]
  · rw [gi_at, if_pos ⟨rfl, rfl⟩]
theorem RO_FR {P : Nat → Prop} {Y : St} (hp : ∀ a, P a → 159 ≤ a ∧ a < 172 ∨ 174 ≤ a) (h : RO S X T T0) (f : FR P X Y) : RO S Y T T0 :=
  ⟨RE_FR (fun a z => by have := hp a z; omega) h.1 f, by rw [f.1 172 (fun z => by have := hp 172 z; omega)]; exact h.2.1, h.2.2⟩
theorem RO_go (h : RO S X T T0) : ∃ Y, L_X12_day X = some Y ∧ FR PR X Y ∧ RO S Y T T0 ∧ DR Y T tt false := by
  obtain ⟨Y, y1, y2, y3, y4⟩ := RE_go h.1
  exact ⟨Y, y1, y2, ⟨y3, by rw [y2.1 172 (fun z => by have := z.2; omega)]; exact h.2.1, h.2.2⟩, y4⟩
theorem RO_mood (h : RO S X T T0) {i : Nat} {v : Int32} (ok : -9 ≤ v ∧ v ≤ 9) : RO S (si X 151 i v) (wF T 3 i v) T0 :=
  ⟨RE_put1 (r := 3) h.1 (by decide) (okV_3 ok), by rw [gi_si_n _ _ _ (show 172 ≠ 151 by decide)]; exact h.2.1, h.2.2⟩
theorem R_keepM (X : St) {d : Nat} (hd : d ≤ 40) : ∃ Y, L_X12_keepMoods (nI d) X = some Y ∧ FR (fun a => a = 180) X Y ∧ (∀ p, p < 8 → gi Y 180 (8 * d + p) = gi X 151 p) ∧ ∀ i, i < 8 * d → gi Y 180 i = gi X 180 i := by
  unfold L_X12_keepMoods b_X12_keepMoods_0
  refine lp_inv (m := 8) (I := fun k x => x.1 = nI d ∧ x.2.1 = nI k ∧ FR (fun a => a = 180) X x.2.2 ∧ (∀ p, p < k → gi x.2.2 180 (8 * d + p) = gi X 151 p) ∧ ∀ i, i < 8 * d → gi x.2.2 180 i = gi X 180 i) (fun k x hk hI => ?_) 1000 0 _ (Nat.zero_le _) (by omega) ⟨rfl, rfl, FR_refl X, fun p hp => absurd hp (Nat.not_lt_zero p), fun _ _ => rfl⟩
  obtain ⟨a1, a2, Y⟩ := x
  obtain ⟨e1, e2, f, h1, h2⟩ := hI
  simp only at e1 e2 f h1 h2
  subst e1 e2
  unfold l_X12_keepMoods_2 b_X12_keepMoods_2
  dsimp only
  rcases Nat.lt_or_ge k 8 with hl | hl
  · refine Or.inr ⟨hl, ?_⟩
    have m8 : (8 : Int32) * nI d + nI k = nI (8 * d + k) := by
      have : (8 : Int32) * nI d = nI (8 * d) := pk_mul 8 d
      rw [this, nI_add]
    have e8 : ¬ (8 : Int32) ≤ nI k := nI_ge (b := 8) hl (by decide)
    rw [if_neg e8, gd_t (inb_n hl), m8, gd_t (inb_n (show 8 * d + k < 328 by omega)), nm_eq, tn_n (show k < 2 ^ 31 by omega), tn_n (show 8 * d + k < 2 ^ 31 by omega), nI_1]
    refine ⟨_, rfl, rfl, rfl, FR_si (P := fun a => a = 180) rfl f _ _, fun p hp => ?_, fun i hi => ?_⟩
    · show gi (si Y 180 (8 * d + k) _) 180 _ = _
      rw [gi_at]
      by_cases z : p = k
      · subst z
        rw [if_pos ⟨rfl, rfl⟩, f.1 151 (by decide)]
      · rw [if_neg (fun w => z (by omega))]
        exact h1 p (by omega)
    · show gi (si Y 180 (8 * d + k) _) 180 _ = _
      rw [gi_at, if_neg (fun w => by omega)]
      exact h2 i hi
  · have : k = 8 := by omega
    subst this
    rw [if_pos (by decide)]
    exact Or.inl ⟨_, rfl, f, h1, h2⟩
theorem R_moods {Y : St} (h : RO S Y T T0) (hD : DR Y T tt false) (v1 v4 : Int32) (Q : (Int32 × Int32 × Int32 × Int32 × St) ⊕ (Int32 × St) → Prop) (kk : ∀ Z, RO S Z (upM T (sDay T tt false) (tn T)) T0 → (∀ a, a ≠ 151 → gi Z a = gi Y a) → ∃ w, b_X12_again_132 v1 v4 Z = some w ∧ Q w) : ∃ w, lp 1000 l_X12_again_53 (v1, v4, 0, Y) = some w ∧ Q w := by
  have n8 : tn T ≤ 8 := h.1.2.1.1
  refine lp_inv (m := tn T) (I := fun j x => x.1 = v1 ∧ x.2.1 = v4 ∧ x.2.2.1 = nI j ∧ RO S x.2.2.2 (upM T (sDay T tt false) j) T0 ∧ ∀ a, a ≠ 151 → gi x.2.2.2 a = gi Y a) (fun j x hj hI => ?_) 1000 0 (v1, v4, 0, Y) (Nat.zero_le _) (by omega) ⟨rfl, rfl, rfl, h, fun _ _ => rfl⟩
  obtain ⟨a1, a2, a3, Z⟩ := x
  obtain ⟨e1, e2, e3, hC, o⟩ := hI
  simp only at e1 e2 e3 hC o
  subst e1 e2 e3
  have n1 : gi Z 136 15 = nI (tn T) := by rw [hC.1.2.2.1.1, upM_n]
  unfold l_X12_again_53 b_X12_again_53
  dsimp only
  rw [n1]
  rcases Nat.lt_or_ge j (tn T) with hl | hl
  · refine Or.inr ⟨hl, ?_⟩
    have m1 : gi Z 151 j = tF T 3 j := by
      have := (hC.1.2.2.1.2.2.2.1 j (by rw [upM_n]; exact hl)).2.2.2.2.1
      rw [this, upM_m _ _ _ (Nat.le_refl _)]
    have fin : (b_X12_again_90 a1 a2 (nI j) (sDay T tt false 4 j) (tF T 3 j) Z) = some (.inl (a1, a2, nI (j + 1), si Z 151 j (clM (tF T 3 j + sDay T tt false 4 j)))) := by
      unfold b_X12_again_90
      rw [clM_d (tF T 3 j + sDay T tt false 4 j) (fun z => b_X12_again_125 a1 a2 (nI j) z (nI j) Z)]
      unfold b_X12_again_125
      rw [gd_t (inb_n (show j < 8 by omega)), nm_eq, tn_n (show j < 2 ^ 31 by omega), nI_1]
    rw [if_neg (nI_ge hl (by omega)), gd_t (inb_n (show j < 8 by omega)), gd_t (inb_n (show j < 8 by omega)), tn_n (show j < 2 ^ 31 by omega), m1, o 165 (by decide), o 168 (by decide), R_reg hD hl]
    have res : ∃ y, some (Sum.inl (a1, a2, nI (j + 1), si Z 151 j (clM (tF T 3 j + sDay T tt false 4 j))) : (Int32 × Int32 × Int32 × St) ⊕ ((Int32 × Int32 × Int32 × Int32 × St) ⊕ (Int32 × St))) = some (.inl y) ∧ y.1 = a1 ∧ y.2.1 = a2 ∧ y.2.2.1 = nI (j + 1) ∧ RO S y.2.2.2 (upM T (sDay T tt false) (j + 1)) T0 ∧ ∀ a, a ≠ 151 → gi y.2.2.2 a = gi Y a :=
      ⟨_, rfl, rfl, rfl, rfl, RO_mood hC (clM_r _), fun a ha => by rw [gi_si_n _ _ _ ha]; exact o a ha⟩
    by_cases z : sDay T tt false 4 j = 0
    · rw [if_neg (show ¬ (sDay T tt false 4 j ≠ 0) from fun w => w z), if_pos rfl]
      rw [z] at fin
      rw [fin, ← z]
      exact res
    · rw [if_pos (show sDay T tt false 4 j ≠ 0 from z), if_neg (by decide), gd_t (inb_n (show j < 11 by omega)), ((R_sell hD (show j < 11 by omega)).1 z).2.2, fin]
      exact res
  · have : j = tn T := by omega
    subst this
    rw [if_pos (Int32.le_refl _)]
    obtain ⟨w, w1, w2⟩ := kk Z hC o
    rw [w1]
    exact Or.inl ⟨w, rfl, w2⟩
theorem R_again {S1 : St} (g1 : IR S1 (T, im, sh)) (what : Int32) (hw : (0 : Int32) ≤ what ∧ what ≤ 1) : ∃ r S2, L_X12_again what S1 = some (r, S2) ∧ RE S1 S2 T ∧ isLh (agG T) (agH T what) 41 r := by
  have e0 := RE_0 g1
  have n8 : tn T ≤ 8 := e0.2.1.1
  obtain ⟨Y, y1, y2⟩ := R_open e0
  obtain ⟨Y0, z1, z2, z3, -⟩ := R_keepM Y (d := 0) (by omega)
  have k0 : RO S1 Y0 T T := RO_FR (fun a e => by omega) y2 z2
  have z10 : ¬ (1 : Int32) = 0 := by decide
  unfold L_X12_again b_X12_again_0
  rw [nm_eq, R_in 0 1, if_pos hw, Option.bind_some, if_neg z10, y1, Option.bind_some, show L_X12_keepMoods 0 Y = some Y0 from z1, Option.bind_some]
  have key := lp_inv (body := l_X12_again_35) (m := 40) (I := fun k x => x.1 = what ∧ x.2.2.2.1 = nI (k + 1) ∧ RO S1 x.2.2.2.2 (Ts T k) T ∧ (∀ e p, e ≤ k → p < tn T → gi x.2.2.2.2 180 (8 * e + p) = tF (Ts T e) 3 p) ∧ (∀ i, i < k → agG T i = false) ∧ ((x.2.1 = -4 ∧ x.2.2.1 = -4 ∧ agG T k = false) ∨ (x.2.1 = nI k ∧ x.2.2.1 = agA T k ∧ agG T k = true))) (Q := fun r => RE S1 r.2 T ∧ isLh (agG T) (agH T what) 41 r.1) (fun k x hk hI => ?_) 1000 0 (what, -4, -4, 1, Y0) (Nat.zero_le _) (by omega) ⟨rfl, rfl, k0, fun e p he hp => ?_, fun i hi => absurd hi (Nat.not_lt_zero i), Or.inl ⟨rfl, rfl, agG_0 T⟩⟩
  · obtain ⟨⟨r, S2⟩, r1, r2, r3⟩ := key
    exact ⟨r, S2, r1, r2, r3⟩
  · obtain ⟨a1, a2, a3, a4, Z⟩ := x
    obtain ⟨e1, e4, hC, o, no, fd⟩ := hI
    simp only at e1 e4 hC o fd
    subst e1 e4
    unfold l_X12_again_35 b_X12_again_35
    dsimp only
    have ex : (agG T k = false → k = 40) → ∃ r, ((b_X12_again_163 a1 a2 a3 Z).map Sum.inr : Option ((Int32 × Int32 × Int32 × Int32 × St) ⊕ (Int32 × St))) = some (.inr r) ∧ RE S1 r.2 T ∧ isLh (agG T) (agH T a1) 41 r.1 := by
      intro hz
      obtain ⟨W, w1, w2⟩ := R_close hC
      unfold b_X12_again_163
      rw [w1, Option.bind_some]
      have an : isLh (agG T) (agH T a1) 41 (if a1 = 0 then a2 else a3) := by
        rcases fd with ⟨f1, f2, f3⟩ | ⟨f1, f2, f3⟩
        · rw [f1, f2, ite_self]
          have := hz f3
          refine Or.inr ⟨fun q hq => ?_, rfl⟩
          rcases Nat.eq_or_lt_of_le (show q ≤ k by omega) with w | w
          · rw [w]; exact f3
          · exact no q w
        · rw [f1, f2]
          exact Or.inl ⟨k, by omega, f3, no, rfl⟩
      by_cases z : a1 = 0
      · rw [if_pos z] at an ⊢
        exact ⟨_, rfl, w2, an⟩
      · rw [if_neg z] at an ⊢
        exact ⟨_, rfl, w2, an⟩
    rcases Nat.lt_or_ge k 40 with hl | hl
    · rw [if_neg (show ¬ (40 : Int32) < nI (k + 1) from nI_nlt (a := 40) (by omega) (by decide))]
      rcases fd with ⟨f1, f2, f3⟩ | ⟨f1, f2, f3⟩
      · rw [f1, if_neg (by decide)]
        refine Or.inr ⟨hl, ?_⟩
        obtain ⟨Y, y1, y2, y3, y4⟩ := RO_go hC
        rw [y1, Option.bind_some]
        have key2 := R_moods y3 y4 a1 (nI (k + 1)) (fun w => ∃ y, w = .inl y ∧ y.1 = a1 ∧ y.2.2.2.1 = nI (k + 1 + 1) ∧ RO S1 y.2.2.2.2 (Ts T (k + 1)) T ∧ (∀ e p, e ≤ k + 1 → p < tn T → gi y.2.2.2.2 180 (8 * e + p) = tF (Ts T e) 3 p) ∧ (∀ i, i < k + 1 → agG T i = false) ∧ ((y.2.1 = -4 ∧ y.2.2.1 = -4 ∧ agG T (k + 1) = false) ∨ (y.2.1 = nI (k + 1) ∧ y.2.2.1 = agA T (k + 1) ∧ agG T (k + 1) = true))) (fun W q1 q2 => ?_)
        · obtain ⟨w, w1, y, rfl, w3⟩ := key2
          exact ⟨y, w1, w3⟩
        · rw [Ts_n] at q1
          obtain ⟨V, v1, v2, v3, v4⟩ := R_keepM W (d := k + 1) (by omega)
          have q3 : RO S1 V (Ts T (k + 1)) T := RO_FR (fun a e => by omega) q1 v2
          have n1 : gi V 136 15 = nI (tn T) := by rw [q3.1.2.2.1.1, Ts_n]
          have hF : ∀ e p, e ≤ k + 1 → p < tn T → gi V 180 (8 * e + p) = tF (Ts T e) 3 p := fun e p he hp => by
            rcases Nat.eq_or_lt_of_le he with z | z
            · rw [z, v3 p (by omega)]
              exact (q1.1.2.2.1.2.2.2.1 p (by rw [upM_n, Ts_n]; exact hp)).2.2.2.2.1
            · rw [v4 _ (by omega), q2 180 (by decide), y2.1 180 (fun z => by have := z.2; omega)]
              exact o e p (by omega) hp
          obtain ⟨r, r1, r2⟩ := R_alike n8 n1 (show k + 1 ≤ 40 by omega) (F := fun k => tF (Ts T k) 3) hF
          have ra := agA_of (by omega) r2
          unfold b_X12_again_132 b_X12_again_156
          rw [v1, Option.bind_some, r1, Option.bind_some, nI_1]
          have no2 : ∀ i, i < k + 1 → agG T i = false := fun i hi => by
            rcases Nat.eq_or_lt_of_le (Nat.le_of_lt_succ hi) with w | w
            · rw [w]; exact f3
            · exact no i w
          by_cases z : r < 0
          · rw [if_pos z]
            refine ⟨_, rfl, _, rfl, rfl, rfl, q3, hF, no2, Or.inl ⟨rfl, ?_, ?_⟩⟩
            · show r = -4
              rw [ra]; exact agA_4 (by omega) (ra ▸ z)
            · unfold agG
              rw [← ra]
              exact decide_eq_false (Int32.not_le.mpr z)
          · rw [if_neg z]
            refine ⟨_, rfl, _, rfl, rfl, rfl, q3, hF, no2, Or.inr ⟨rfl, ra, ?_⟩⟩
            unfold agG
            rw [← ra]
            exact decide_eq_true (Int32.not_lt.mp z)
      · rw [f1, if_pos (nI_pos' (by omega))]
        rw [f1] at ex
        exact Or.inl (ex (fun z => by rw [f3] at z; cases z))
    · have : k = 40 := by omega
      subst this
      rw [if_pos (show (40 : Int32) < nI (40 + 1) by decide)]
      exact Or.inl (ex (fun _ => rfl))
  · have : e = 0 := by omega
    subst this
    show gi Y0 180 (8 * 0 + p) = _
    rw [z3 p (by omega)]
    exact (y2.1.2.2.1.2.2.2.1 p hp).2.2.2.2.1
theorem J_again (c : IC S (T, im, sh)) (g : IR S (T, im, sh)) (what : Int32) : JJ S (L_X11_again what) (L_X12_again what) := by
  have z10 : ¬ (1 : Int32) = 0 := by decide
  by_cases hv : (0 : Int32) ≤ what ∧ what ≤ 1
  · refine JJ_P c g (isLh (agG T) (agH T what) 41) (fun r r' h h' => isLh_u h h') ?_ (fun S1 g1 => R_again g1 what hv)
    obtain ⟨X, r, x1, x2, x3, x4⟩ := C_again c what
    refine ⟨r.1, r.2, ?_, x3, x4⟩
    unfold L_X11_again b_X11_again_0
    rw [A_isOut, if_pos hv, Option.bind_some, if_pos rfl, x2, Option.bind_some, x1]
  · refine JJ_D c g (-1) ⟨S, ?_, UpD_refl S⟩ (fun S1 g1 => ⟨_, ?_, RE_0 g1⟩)
    · unfold L_X11_again b_X11_again_0
      rw [A_isOut, if_neg hv]
      rfl
    · unfold L_X12_again b_X12_again_0
      rw [nm_eq, R_in 0 1, if_neg hv]
      rfl
end AGAIN2
