/-! explained, forged, judge: the other side, the calls. -/
def mxk (f : Nat → Nat) : Nat → Nat
  | 0 => 0
  | k + 1 => if mxk f k < f k then f k else mxk f k
theorem mxk_of (f : Nat → Nat) : ∀ n, (∀ k, k < n → f k ≤ mxk f n) ∧ (mxk f n = 0 ∨ ∃ k, k < n ∧ f k = mxk f n) := by
  intro n
  induction n with
  | zero => exact ⟨fun k h => absurd h (Nat.not_lt_zero k), Or.inl rfl⟩
  | succ n ih =>
    obtain ⟨h1, h2⟩ := ih
    show (∀ k, k < n + 1 → f k ≤ (if mxk f n < f n then f n else mxk f n)) ∧ ((if mxk f n < f n then f n else mxk f n) = 0 ∨ ∃ k, k < n + 1 ∧ f k = (if mxk f n < f n then f n else mxk f n))
    by_cases z : mxk f n < f n
    · rw [if_pos z]
      refine ⟨fun k hk => ?_, Or.inr ⟨n, Nat.lt_succ_self n, rfl⟩⟩
      rcases Nat.eq_or_lt_of_le (Nat.le_of_lt_succ hk) with w | w
      · rw [w]; exact Nat.le_refl _
      · have := h1 k w; omega
    · rw [if_neg z]
      refine ⟨fun k hk => ?_, ?_⟩
      · rcases Nat.eq_or_lt_of_le (Nat.le_of_lt_succ hk) with w | w
        · rw [w]; omega
        · exact h1 k w
      · rcases h2 with h2 | ⟨k, k1, k2⟩
        · exact Or.inl h2
        · exact Or.inr ⟨k, by omega, k2⟩
section TOLD2
variable {S S0 X : St} {T : TT} {im : Option TT} {sh : Nat → Sh} {d : Nat}
theorem msK_le (T : TT) (w : Sh) (k : Nat) : msK T w k ≤ w.2.2.1.2 := (ms_of _ _).1
theorem mxk_le (T : TT) (w : Sh) (n : Nat) : mxk (msK T w) n ≤ w.2.2.1.2 := by
  rcases (mxk_of (msK T w) n).2 with h | ⟨k, -, h⟩
  · rw [h]; exact Nat.zero_le _
  · rw [← h]; exact msK_le T w k
theorem full_iff (T : TT) (w : Sh) : (¬ cnt (fullK T w) 240 ≤ 0) ↔ mxk (msK T w) 240 = w.2.2.1.2 := by
  have c0 := cnt_0 (f := fullK T w) (n := 240) (by decide)
  have cz : cnt (fullK T w) 240 ≤ 0 ↔ cnt (fullK T w) 240 = 0 := by
    rw [cnt_n]
    have : ncn (fullK T w) 240 ≤ 240 := ncn_le _ _
    constructor
    · intro h
      have h2 := (nI_leI (b := 0) (show ncn (fullK T w) 240 < 2 ^ 31 by omega) (by decide)).mp h
      rw [Nat.le_zero.mp h2]; rfl
    · intro h
      rw [h]; decide
  rw [cz, c0]
  obtain ⟨h1, h2⟩ := mxk_of (msK T w) 240
  have ml := mxk_le T w 240
  constructor
  · intro h
    by_cases e : mxk (msK T w) 240 = w.2.2.1.2
    · exact e
    · refine absurd (fun p hp => ?_) h
      have := h1 p hp
      exact decide_eq_false (by omega)
  · intro h z
    rcases h2 with h2 | ⟨k, k1, k2⟩
    · have z0 := z 0 (by decide)
      have := msK_le T w 0
      rw [show fullK T w 0 = true from decide_eq_true (by omega)] at z0
      cases z0
    · have z0 := z k k1
      rw [show fullK T w k = true from decide_eq_true (by omega)] at z0
      cases z0
theorem d24 : ∀ k : Fin 240, nI k.val / 24 = nI (k.val / 24) ∧ nI k.val - nI k.val / 24 * 24 = nI (k.val % 24) ∧ (100 : Int32) * nI (k.val / 24) + nI (k.val % 24) = nI (100 * (k.val / 24) + k.val % 24) := by decide +kernel
theorem r2_F (T : TT) (x y : Int32) : tF (r2 T x y) 15 1 = x ∧ tF (r2 T x y) 15 0 = y := by
  constructor
  · show upd (upd (tF T 15) 1 x) 0 y 1 = x
    rw [upd_n _ _ (by decide), upd_s]
  · show upd (upd (tF T 15) 1 x) 0 y 0 = y
    rw [upd_s]
theorem R_exp {w : Sh} (hd : d < 8) (hs : w.2.2.1.1 ≤ 2) (h100 : w.2.2.1.2 ≤ 100) (hr : rowR S d w) (hn : w.2.2.1.2 ≤ tn T) (h : RE S X T) : ∃ Y, L_X12_explain (nI d) X = some Y ∧ RE S Y T ∧ gi Y 136 61 = cnt (fullK T w) 240 ∧ isQ (fullK T w) hQ 0 240 (gi Y 136 62) ∧ gi Y 136 63 = nI (mxk (msK T w) 240) := by
  have hW := h.2.1
  have d31 : d < 2 ^ 31 := by omega
  unfold L_X12_explain b_X12_explain_0
  rw [nm_eq, nm_eq, nm_eq, show gi X 136 7 = tF T 15 1 from h.2.2.1.2.2.2.2.2.2.2.2.1, show gi X 136 6 = tF T 15 0 from h.2.2.1.2.2.2.2.2.2.2.1]
  have s0 : RE S (si (si (si X 136 61 0) 136 62 (-4)) 136 63 0) T := RE_slot (RE_slot (RE_slot h 0 (by decide)) (-4) (by decide)) 0 (by decide)
  refine lp_inv (m := 240) (I := fun k x => x.1 = nI d ∧ x.2.1 = tF T 15 1 ∧ x.2.2.1 = tF T 15 0 ∧ x.2.2.2.1 = nI k ∧ (∃ x' y', RE S x.2.2.2.2 (r2 T x' y')) ∧ gi x.2.2.2.2 136 61 = cnt (fullK T w) k ∧ isQ (fullK T w) hQ 0 k (gi x.2.2.2.2 136 62) ∧ gi x.2.2.2.2 136 63 = nI (mxk (msK T w) k)) (fun k x hk hI => ?_) 1000 0 _ (Nat.zero_le _) (by omega) ⟨rfl, rfl, rfl, rfl, ⟨_, _, by rw [r2_id]; exact s0⟩, ?_, ?_, ?_⟩
  · obtain ⟨a1, a2, a3, a4, Z⟩ := x
    obtain ⟨e1, e2, e3, e4, ⟨x', y', e5⟩, e6, e7, e8⟩ := hI
    simp only at e1 e2 e3 e4 e5 e6 e7 e8
    subst e1 e2 e3 e4
    unfold l_X12_explain_29 b_X12_explain_29
    dsimp only
    rcases Nat.lt_or_ge k 240 with hl | hl
    · refine Or.inr ⟨hl, ?_⟩
      have e240 : ¬ (240 : Int32) ≤ nI k := nI_ge (b := 240) hl (by decide)
      obtain ⟨m1, m2, m3⟩ := d24 ⟨k, hl⟩
      simp only at m1 m2 m3
      have r1 := RE_rule e5 (i := 1) (v := nI (k / 24)) (by decide) (okV_15b (by omega))
      rw [r2_1] at r1
      have r0 := RE_rule r1 (i := 0) (v := nI (k % 24)) (by decide) (okV_15a (by omega))
      rw [r2_0] at r0
      obtain ⟨Y, y1, y2, y3⟩ := R_fits (T := r2 T (nI (k / 24)) (nI (k % 24))) hd hs hr hn r0
      have o : ∀ j, j ≠ 7 → j ≠ 6 → gi Y 136 j = gi Z 136 j := fun j h1 h2 => by rw [y3.1 136 (fun z => absurd z.1 (by decide)), gi_si_s, upd_n _ _ h2, gi_si_s, upd_n _ _ h1]
      have rY := rowR_E y2.1 hr
      have f7 : gi Y 136 7 = nI (k / 24) := y2.2.2.1.2.2.2.2.2.2.2.2.1.trans (r2_F T _ _).1
      have f6 : gi Y 136 6 = nI (k % 24) := y2.2.2.1.2.2.2.2.2.2.2.1.trans (r2_F T _ _).2
      have ml := msK_le T w k
      have mx := mxk_le T w k
      have e63 : ∀ (A : St), gi A 136 63 = nI (mxk (msK T w) k) → ∀ v5, v5 = nI (msK T w k) → (if v5 ≤ gi A 136 63 then b_X12_explain_147 (nI d) (tF T 15 1) (tF T 15 0) (nI k) (gi A 136 63) A else b_X12_explain_147 (nI d) (tF T 15 1) (tF T 15 0) (nI k) v5 A) = some (.inl (nI d, tF T 15 1, tF T 15 0, nI (k + 1), si A 136 63 (nI (mxk (msK T w) (k + 1))))) := by
        intro A hA v5 hv
        subst hv
        unfold b_X12_explain_147
        rw [hA, nI_1]
        rw [show mxk (msK T w) (k + 1) = (if mxk (msK T w) k < msK T w k then msK T w k else mxk (msK T w) k) from rfl]
        by_cases z : mxk (msK T w) k < msK T w k
        · rw [if_pos z, if_neg (nI_ge z (by omega))]; rfl
        · rw [if_neg z, if_pos (nI_le (by omega) (by omega))]; rfl
      have fin : ∀ a b, isQ (fullK T w) hQ 0 (k + 1) b → a = cnt (fullK T w) (k + 1) → ∃ y, some (Sum.inl (nI d, tF T 15 1, tF T 15 0, nI (k + 1), si (si (si Y 136 61 a) 136 62 b) 136 63 (nI (mxk (msK T w) (k + 1))))) = some ((Sum.inl y : (Int32 × Int32 × Int32 × Int32 × St) ⊕ St)) ∧ y.1 = nI d ∧ y.2.1 = tF T 15 1 ∧ y.2.2.1 = tF T 15 0 ∧ y.2.2.2.1 = nI (k + 1) ∧ (∃ x' y', RE S y.2.2.2.2 (r2 T x' y')) ∧ gi y.2.2.2.2 136 61 = cnt (fullK T w) (k + 1) ∧ isQ (fullK T w) hQ 0 (k + 1) (gi y.2.2.2.2 136 62) ∧ gi y.2.2.2.2 136 63 = nI (mxk (msK T w) (k + 1)) := by
        intro a b hb ha
        refine ⟨_, rfl, rfl, rfl, rfl, rfl, ⟨_, _, RE_slot (RE_slot (RE_slot y2 a (by decide)) b (by decide)) _ (by decide)⟩, ?_, ?_, ?_⟩
        · show gi (si (si (si Y 136 61 a) 136 62 b) 136 63 _) 136 61 = _
          rw [gi_si_s, upd_n _ _ (by decide), gi_si_s, upd_n _ _ (by decide), gi_si_s, upd_s]; exact ha
        · show isQ _ _ _ _ (gi (si (si (si Y 136 61 a) 136 62 b) 136 63 _) 136 62)
          rw [gi_si_s, upd_n _ _ (by decide), gi_si_s, upd_s]; exact hb
        · show gi (si (si (si Y 136 61 a) 136 62 b) 136 63 _) 136 63 = _
          rw [gi_si_s, upd_s]
      have q63 : ∀ a b, gi (si (si Y 136 61 a) 136 62 b) 136 63 = nI (mxk (msK T w) k) := fun a b => by rw [gi_si_s, upd_n _ _ (by decide), gi_si_s, upd_n _ _ (by decide), o 63 (by decide) (by decide)]; exact e8
      have hup := isQ_up (f := fullK T w) (h := hQ) (k := k) (r := gi Z 136 62) (fun q hq => hQ_0 q (by omega)) e7
      have v5e : nI (ms (fitB w (sDay (r2 T (nI (k / 24)) (nI (k % 24))) tt false)) w.2.2.1.2) = nI (msK T w k) := rfl
      have ec : nI (msK T w k) = nI w.2.2.1.2 ↔ fullK T w k = true := by
        unfold fullK
        rw [decide_eq_true_eq]
        exact nI_eq (by omega) (by omega)
      have b62 : ∀ a, gi (si Y 136 61 a) 136 62 = gi Z 136 62 := fun a => by rw [gi_si_s, upd_n _ _ (by decide), o 62 (by decide) (by decide)]
      have b7 : ∀ a, gi (si Y 136 61 a) 136 7 = nI (k / 24) := fun a => by rw [gi_si_s, upd_n _ _ (by decide)]; exact f7
      have b6 : ∀ a, gi (si Y 136 61 a) 136 6 = nI (k % 24) := fun a => by rw [gi_si_s, upd_n _ _ (by decide)]; exact f6
      have b157 : ∀ a, gi (si Y 136 61 a) 157 d = nI w.2.2.1.2 := fun a => by rw [gi_si_n _ _ _ (by decide)]; exact rY.2.1
      rw [if_neg e240, nm_eq, nm_eq, m2, m1]
      rw [y1, Option.bind_some]
      dsimp only
      rw [gd_t (inb_n hd), tn_n d31, rY.2.1, v5e, o 61 (by decide) (by decide), e6]
      unfold b_X12_explain_83 b_X12_explain_121 b_X12_explain_125
      by_cases z : fullK T w k = true
      · rw [if_pos (ec.mpr z), nm_eq, gd_t (inb_n hd), tn_n d31, b157, if_pos (ec.mpr z), b62, b7, b6, m3, nm_eq, nm_eq]
        rw [z] at hup
        by_cases z2 : 0 ≤ gi Z 136 62
        · rw [if_pos z2, e63 _ (q63 _ _) _ rfl]
          rw [if_neg (fun y => absurd y.2 (Int32.not_lt.mpr z2))] at hup
          exact fin _ _ hup (cnt_t z).symm
        · rw [if_neg z2, e63 _ (q63 _ _) _ rfl]
          rw [if_pos ⟨rfl, Int32.not_le.mp z2⟩] at hup
          exact fin _ _ hup (cnt_t z).symm
      · have z' : fullK T w k = false := by simpa using z
        rw [if_neg (fun q => z (ec.mp q)), nm_eq, gd_t (inb_n hd), tn_n d31, b157, if_neg (fun q => z (ec.mp q)), b62, nm_eq, e63 _ (q63 _ _) _ rfl]
        rw [z', if_neg (fun y => absurd y.1 (by decide))] at hup
        exact fin _ _ hup (by rw [cnt_f z', Int32.add_zero])
    · have : k = 240 := by omega
      subst this
      rw [if_pos (by decide), nm_eq, nm_eq]
      have r1 := RE_rule e5 (i := 1) (v := tF T 15 1) (by decide) (okR_of hW).2.1
      rw [r2_1] at r1
      have r0 := RE_rule r1 (i := 0) (v := tF T 15 0) (by decide) (okR_of hW).1
      rw [r2_0, r2_id] at r0
      refine Or.inl ⟨_, rfl, r0, ?_, ?_, ?_⟩
      · rw [gi_si_s, upd_n _ _ (by decide), gi_si_s, upd_n _ _ (by decide)]; exact e6
      · rw [gi_si_s, upd_n _ _ (by decide), gi_si_s, upd_n _ _ (by decide)]; exact e7
      · rw [gi_si_s, upd_n _ _ (by decide), gi_si_s, upd_n _ _ (by decide)]; exact e8
  · show gi (si (si (si X 136 61 0) 136 62 (-4)) 136 63 0) 136 61 = 0
    rw [gi_si_s, upd_n _ _ (by decide), gi_si_s, upd_n _ _ (by decide), gi_si_s, upd_s]
  · show isQ _ _ _ _ (gi (si (si (si X 136 61 0) 136 62 (-4)) 136 63 0) 136 62)
    rw [gi_si_s, upd_n _ _ (by decide), gi_si_s, upd_s]
    exact Or.inr ⟨fun q _ hq => absurd hq (Nat.not_lt_zero q), rfl⟩
  · show gi (si (si (si X 136 61 0) 136 62 (-4)) 136 63 0) 136 63 = 0
    rw [gi_si_s, upd_s]
theorem C_forg {w : Sh} (hd : d < 8) (hr : rowC S d w) (hn : w.2.2.1.2 ≤ tn T) (h : CE S X T) : ∃ r, lp 1000 l_X11_forged_28 (nI d, 0, 0, X) = some r ∧ UpD S r.2 ∧ r.1 = (if mxk (msK T w) 240 = w.2.2.1.2 then -4 else nI (mxk (msK T w) 240)) := by
  have d31 : d < 2 ^ 31 := by omega
  have w100 := hr.2.2.2.1
  refine lp_inv (m := 10) (I := fun k x => x.1 = nI d ∧ x.2.1 = nI (mxk (msK T w) (24 * k)) ∧ x.2.2.1 = nI k ∧ ∃ x' y', CE S x.2.2.2 (r2 T x' y')) (fun k x hk hI => ?_) 1000 0 _ (Nat.zero_le _) (by omega) ⟨rfl, rfl, rfl, _, _, by rw [r2_id]; exact h⟩
  obtain ⟨a1, a3, a4, Z⟩ := x
  obtain ⟨e1, e2, e3, x', y', e6⟩ := hI
  simp only at e1 e2 e3 e6
  subst e1 e2 e3
  unfold l_X11_forged_28 b_X11_forged_28
  dsimp only
  rcases Nat.lt_or_ge k 10 with hl | hl
  · have e9 : ¬ (9 : Int32) < nI k := nI_nlt (a := 9) (by omega) (by decide)
    rw [if_neg e9]
    have inner := lp_inv (body := l_X11_forged_38) (m := 24) (I := fun j x => x.1 = nI d ∧ x.2.1 = nI (mxk (msK T w) (24 * k + j)) ∧ x.2.2.1 = nI k ∧ x.2.2.2.1 = nI j ∧ ∃ x' y', CE S x.2.2.2.2 (r2 T x' y')) (Q := fun r => ∃ Y, r = .inl (nI d, nI (mxk (msK T w) (24 * (k + 1))), nI (k + 1), Y) ∧ ∃ x' y', CE S Y (r2 T x' y')) (fun j x hj hI => ?_) 1000 0 (nI d, nI (mxk (msK T w) (24 * k)), nI k, 0, Z) (Nat.zero_le _) (by omega) ⟨rfl, rfl, rfl, rfl, x', y', e6⟩
    · obtain ⟨r, r1, Y, rfl, q3⟩ := inner
      rw [r1]
      exact Or.inr ⟨hl, _, rfl, rfl, rfl, rfl, q3⟩
    · obtain ⟨b1, b3, b4, b5, W⟩ := x
      obtain ⟨g1, g2, g3, g4, x2, y2, g7⟩ := hI
      simp only at g1 g2 g3 g4 g7
      subst g1 g2 g3 g4
      unfold l_X11_forged_38 b_X11_forged_38 b_X11_forged_70
      dsimp only
      rcases Nat.lt_or_ge j 24 with hj2 | hj2
      · have e23 : ¬ (23 : Int32) < nI j := nI_nlt (a := 23) (by omega) (by decide)
        obtain ⟨Y, y1, y2⟩ := C_mis hd hr hn g7 (v := k) (o := j) hl hj2
        have km : ms (fitB w (sDay (r2 T (nI k) (nI j)) tt false)) w.2.2.1.2 = msK T w (24 * k + j) := by
          unfold msK
          rw [show (24 * k + j) / 24 = k by omega, show (24 * k + j) % 24 = j by omega]
        have ml := msK_le T w (24 * k + j)
        have mx := mxk_le T w (24 * k + j)
        rw [if_neg e23, gd_t (inb_n hd), tn_n d31, y1, Option.bind_some, nm_eq]
        dsimp only
        rw [km, nI_1]
        refine Or.inr ⟨hj2, _, rfl, rfl, ?_, rfl, rfl, _, _, y2⟩
        show (if nI (mxk (msK T w) (24 * k + j)) < nI (msK T w (24 * k + j)) then nI (msK T w (24 * k + j)) else nI (mxk (msK T w) (24 * k + j))) = nI (if mxk (msK T w) (24 * k + j) < msK T w (24 * k + j) then msK T w (24 * k + j) else mxk (msK T w) (24 * k + j))
        by_cases z : mxk (msK T w) (24 * k + j) < msK T w (24 * k + j)
        · rw [if_pos z, if_pos (nI_lt z (by omega))]
        · rw [if_neg z, if_neg (nI_nlt (by omega) (by omega))]
      · have : j = 24 := by omega
        subst this
        rw [if_pos (by decide), nI_1]
        exact Or.inl ⟨_, rfl, W, by rw [show 24 * (k + 1) = 24 * k + 24 by omega], _, _, g7⟩
  · have : k = 10 := by omega
    subst this
    have rZ := rowC_D hd e6.1 hr
    have mx := mxk_le T w 240
    rw [if_pos (by decide)]
    unfold b_X11_forged_76
    rw [gd_t (inb_n hd), tn_n d31, rZ.2.2.1]
    by_cases z : mxk (msK T w) 240 = w.2.2.1.2
    · rw [if_pos (show nI (mxk (msK T w) (24 * 10)) = nI w.2.2.1.2 from congrArg nI z)]
      exact Or.inl ⟨_, rfl, e6.1, by rw [if_pos z]⟩
    · rw [if_neg (fun (q : nI (mxk (msK T w) 240) = nI w.2.2.1.2) => z ((nI_eq (by omega) (by omega)).mp q))]
      exact Or.inl ⟨_, rfl, e6.1, by rw [if_neg z]⟩
theorem rowC_of (c : IC S (T, im, sh)) (hd : d < 8) (h2 : (sh d).1 = 2) : rowC S d (sh d) := by
  obtain ⟨-, -, -, x5⟩ := c.2.2.2.2.2.2 d hd
  exact x5 h2
theorem rowR_of (g : IR S (T, im, sh)) (hd : d < 8) (h2 : (sh d).1 = 2) : rowR S d (sh d) := by
  obtain ⟨-, -, x5⟩ := g.2.2.2.2.2.2 d hd
  exact x5 h2
theorem J_explained (c : IC S (T, im, sh)) (g : IR S (T, im, sh)) (p v : Int32) : JJ S (L_X11_explained p v) (L_X12_explained p v) := by
  have z10 : ¬ (1 : Int32) = 0 := by decide
  have refuse : ∀ r, (L_X11_explained p v S = some (r, S)) → (∀ S1, IR S1 (T, im, sh) → L_X12_explained p v S1 = some (r, si S1 136 28 0)) → JJ S (L_X11_explained p v) (L_X12_explained p v) := fun r h1 h2 => JJ_D c g r ⟨S, h1, UpD_refl S⟩ (fun S1 g1 => ⟨_, h2 S1 g1, RE_0 g1⟩)
  by_cases hv : 0 ≤ v ∧ v ≤ 1
  · rcases ix_split p 8 (by decide) with ⟨d, hd, rfl⟩ | bad
    · have w2 : (sh d).1 ≤ 2 := (c.2.2.2.2.2.2 d hd).2.1
      have w3 : (sh d).1 = 2 → (sh d).2.2.1.2 ≤ 100 := fun h => (rowC_of c hd h).2.2.2.1
      have r1 := C_tcr c hd
      have r2 : ∀ S1, IR S1 (T, im, sh) → L_X12_wrongChoices (nI d) (si S1 136 28 0) = some (chR (sh d) (tn T)) := fun S1 g1 => R_wc (IR_thr g1 0) hd w2 w3
      have bad : ∀ r : Int32, ¬ r = 0 → ¬ 0 ≤ r → chR (sh d) (tn T) = r → JJ S (L_X11_explained (nI d) v) (L_X12_explained (nI d) v) := by
        intro r h1 h2 e
        refine refuse r ?_ (fun S1 g1 => ?_)
        · unfold L_X11_explained b_X11_explained_0
          rw [A_isOut, if_pos hv, Option.bind_some, if_pos rfl, r1, e, Option.bind_some, if_neg h1]
        · unfold L_X12_explained b_X12_explained_0 b_X12_explained_24
          rw [nm_eq, R_in 0 1, if_pos hv, Option.bind_some, if_neg z10, r2 S1 g1, e, Option.bind_some, if_neg h2]
      rcases chR_v (sh d) (tn T) with e | e | e | ⟨e, e1, e2⟩
      · exact bad (-11) (by decide) (by decide) e
      · exact bad (-12) (by decide) (by decide) e
      · exact bad (-13) (by decide) (by decide) e
      · have rc := rowC_of c hd e1
        refine JJ_P c g (fun r => if v = 0 then r = cnt (fullK T (sh d)) 240 else isQ (fullK T (sh d)) hQ 0 240 r) (fun r r' h h' => ?_) ?_ (fun S1 g1 => ?_)
        · by_cases z : v = 0
          · simp only [if_pos z] at h h'; exact h.trans h'.symm
          · simp only [if_neg z] at h h'; exact isQ_u h h'
        · obtain ⟨X, x1, x2⟩ := CE_0 c
          obtain ⟨r, q1, q2, q3⟩ := C_exp hd rc e2 x2 v
          refine ⟨r.1, r.2, ?_, q2, q3⟩
          unfold L_X11_explained b_X11_explained_0
          rw [A_isOut, if_pos hv, Option.bind_some, if_pos rfl, r1, e, Option.bind_some, if_pos rfl, x1, Option.bind_some, q1]
        · have e0 := RE_0 g1
          obtain ⟨Y, y1, y2, y3, y4, -⟩ := R_exp hd rc.2.1 rc.2.2.2.1 (rowR_of g1 hd e1) e2 e0
          have hx : L_X12_explained (nI d) v S1 = (if v = 0 then some (gi Y 136 61, Y) else some (gi Y 136 62, Y)) := by
            unfold L_X12_explained b_X12_explained_0 b_X12_explained_24
            rw [nm_eq, R_in 0 1, if_pos hv, Option.bind_some, if_neg z10, r2 S1 g1, e, Option.bind_some, if_pos (by decide), y1, Option.bind_some]
          by_cases z : v = 0
          · rw [if_pos z] at hx
            exact ⟨_, Y, hx, y2, by rw [if_pos z]; exact y3⟩
          · rw [if_neg z] at hx
            exact ⟨_, Y, hx, y2, by rw [if_neg z]; exact y4⟩
    · refine refuse (-1) ?_ (fun S1 g1 => ?_)
      · unfold L_X11_explained b_X11_explained_0 L_X11_toldChoicesRefusal b_X11_toldChoicesRefusal_0
        rw [A_isOut, if_pos hv, Option.bind_some, if_pos rfl, C_srN bad]
        rfl
      · unfold L_X12_explained b_X12_explained_0 L_X12_wrongChoices b_X12_wrongChoices_0 b_X12_wrongChoices_28 b_X12_explained_24
        rw [nm_eq, R_in 0 1, if_pos hv, Option.bind_some, if_neg z10, (R_wrN bad).1]
        rfl
  · refine refuse (-1) ?_ (fun S1 g1 => ?_)
    · unfold L_X11_explained b_X11_explained_0
      rw [A_isOut, if_neg hv]
      rfl
    · unfold L_X12_explained b_X12_explained_0 b_X12_explained_24
      rw [nm_eq, R_in 0 1, if_neg hv]
      rfl
theorem J_forged (c : IC S (T, im, sh)) (g : IR S (T, im, sh)) (p : Int32) : JJ S (L_X11_forged p) (L_X12_forged p) := by
  have refuse : ∀ r, (L_X11_forged p S = some (r, S)) → (∀ S1, IR S1 (T, im, sh) → L_X12_forged p S1 = some (r, si S1 136 28 0)) → JJ S (L_X11_forged p) (L_X12_forged p) := fun r h1 h2 => JJ_D c g r ⟨S, h1, UpD_refl S⟩ (fun S1 g1 => ⟨_, h2 S1 g1, RE_0 g1⟩)
  rcases ix_split p 8 (by decide) with ⟨d, hd, rfl⟩ | bad
  · have w2 : (sh d).1 ≤ 2 := (c.2.2.2.2.2.2 d hd).2.1
    have w3 : (sh d).1 = 2 → (sh d).2.2.1.2 ≤ 100 := fun h => (rowC_of c hd h).2.2.2.1
    have r1 := C_tcr c hd
    have r2 : ∀ S1, IR S1 (T, im, sh) → L_X12_wrongChoices (nI d) (si S1 136 28 0) = some (chR (sh d) (tn T)) := fun S1 g1 => R_wc (IR_thr g1 0) hd w2 w3
    have bad : ∀ r : Int32, ¬ r = 0 → ¬ 0 ≤ r → chR (sh d) (tn T) = r → JJ S (L_X11_forged (nI d)) (L_X12_forged (nI d)) := by
      intro r h1 h2 e
      refine refuse r ?_ (fun S1 g1 => ?_)
      · unfold L_X11_forged b_X11_forged_0
        rw [r1, e, Option.bind_some, if_neg h1]
      · unfold L_X12_forged b_X12_forged_0
        rw [nm_eq, r2 S1 g1, e, Option.bind_some, if_neg h2]
    rcases chR_v (sh d) (tn T) with e | e | e | ⟨e, e1, e2⟩
    · exact bad (-11) (by decide) (by decide) e
    · exact bad (-12) (by decide) (by decide) e
    · exact bad (-13) (by decide) (by decide) e
    · have rc := rowC_of c hd e1
      obtain ⟨X, x1, x2⟩ := CE_0 c
      obtain ⟨r, q1, q2, q3⟩ := C_forg hd rc e2 x2
      refine JJ_D c g r.1 ⟨r.2, ?_, q2⟩ (fun S1 g1 => ?_)
      · unfold L_X11_forged b_X11_forged_0
        rw [r1, e, Option.bind_some, if_pos rfl, x1, Option.bind_some, q1]
      · have e0 := RE_0 g1
        obtain ⟨Y, y1, y2, y3, -, y5⟩ := R_exp hd rc.2.1 rc.2.2.2.1 (rowR_of g1 hd e1) e2 e0
        refine ⟨Y, ?_, y2⟩
        unfold L_X12_forged b_X12_forged_0
        rw [nm_eq, r2 S1 g1, e, Option.bind_some, if_pos (by decide), y1, Option.bind_some, y3, y5, q3]
        by_cases z : mxk (msK T (sh d)) 240 = (sh d).2.2.1.2
        · rw [if_pos z, if_neg ((full_iff T (sh d)).mpr z)]
        · rw [if_neg z, if_pos (Classical.not_not.mp (fun q => z ((full_iff T (sh d)).mp q)))]
  · refine refuse (-1) ?_ (fun S1 g1 => ?_)
    · unfold L_X11_forged b_X11_forged_0 L_X11_toldChoicesRefusal b_X11_toldChoicesRefusal_0
      rw [C_srN bad]
      rfl
    · unfold L_X12_forged b_X12_forged_0 L_X12_wrongChoices b_X12_wrongChoices_0 b_X12_wrongChoices_28
      rw [nm_eq, (R_wrN bad).1]
      rfl
end TOLD2
