/-! The class's calls that build a town. -/
/-- what such a call leaves to the law -/
def UpB (S S' : St) : Prop := UpC S S' ∧ (∀ q, q < tp S → gp S' q = gp S q) ∧ tp S ≤ tp S'
theorem UpB_refl (S : St) : UpB S S := ⟨UpC_refl S, fun _ _ => rfl, Nat.le_refl _⟩
theorem UpB_tr {S S' S'' : St} (h1 : UpB S S') (h2 : UpB S' S'') : UpB S S'' := ⟨UpC_tr h1.1 h2.1, fun q hq => (h2.2.1 q (Nat.lt_of_lt_of_le hq h1.2.2)).trans (h1.2.1 q hq), Nat.le_trans h1.2.2 h2.2.2⟩
theorem UpB_FR {P : Nat → Prop} {S S' : St} (hp : ∀ a, P a → a < 136) (h : FR P S S') : UpB S S' := ⟨UpC_FR hp h, fun q _ => FR_gp h q, Nat.le_of_eq (FR_tp h).symm⟩
theorem UpB_D {S S' : St} (h : UpD S S') : UpB S S' := ⟨UpD_C h, fun q _ => h.2.2.1 q, Nat.le_of_eq h.2.2.2.symm⟩
section KBEG
variable {S : St} {T : TT} {m : Option TT × (Nat → Sh)} {im : Option TT} {sh : Nat → Sh}
theorem K_fact (c : IC S (T, m)) {x y z : Int32} (ok : okF x y z) (h6 : tm T < 6) : ∃ X, L_X11_fact x y z S = some (nI (tm T), X) ∧ IC X (addF T x y z, m) ∧ UpB S X := by
  obtain ⟨hW, cR⟩ := IC_1 c
  obtain ⟨p1, p2, p3⟩ := C_addFact (Or.inl rfl) hW cR x y z
  obtain ⟨X, x1, x2, x3⟩ := p3 ok h6
  have hW' := WT_addF hW ok h6
  refine ⟨X, ?_, ?_, UpB_FR (fun a h => by have := h.2; omega) x3⟩
  · unfold L_X11_fact b_X11_fact_0
    rw [x1]
    rfl
  · exact IC_town hW' x2 (full_congr (FR_gr x3 2) (fun q _ => FR_gp x3 q) (by rw [FR_tp x3]; exact Nat.le_refl _) c.2.2.2.1) (fun a ha => ⟨x3.1 a (fun h => by have := h.1; have := h.2; omega), FR_gr x3 a⟩) (fun q _ => FR_gp x3 q) (by rw [FR_tp x3]; exact Nat.le_refl _) c
theorem K_chance (c : IC S (T, m)) {j x : Nat} (hj : j < tm T) (hx : x ≤ 10) : ∃ X, L_X11_chance (nI j) (nI x) S = some (tF T 8 j, X) ∧ IC X (wF T 8 j (nI x), m) ∧ UpB S X := by
  have m6 : tm T ≤ 6 := c.2.1.2.1
  obtain ⟨hW, cR⟩ := IC_1 c
  have j6 : j < 6 := by omega
  have hv : 0 ≤ nI x ∧ nI x ≤ 10 := ⟨nI_pos' (by omega), nI_le (b := 10) (by omega) (by decide)⟩
  have ok : okV 8 j (nI x) := okV_8 (by omega)
  refine ⟨_, ?_, IC_put c (r := 8) (i := j) (v := nI x) (by decide) ok, UpC_si (by decide) (UpC_refl S) _ _, fun _ _ => rfl, Nat.le_refl _⟩
  obtain ⟨b1, b2, b3, b4⟩ := cR.2.2.2.2.1 j hj
  unfold L_X11_chance b_X11_chance_0
  rw [C_nf0 cR.2.1 m6 hj]
  simp only [Option.bind_some, A_isOut, if_pos hv, gd_t (inb_n j6), tn_n (show j < 2 ^ 31 by omega), b4, nm]
  rfl
theorem K_kin (c : IC S (T, m)) {a b : Nat} (ha : a < 4) (hb : b < 4) (hab : a ≠ b) : ∃ X, L_X11_kin (nI a) (nI b) S = some (tF (wK T a b) 14 (4 * a + b), X) ∧ IC X (wK T a b, m) ∧ UpB S X := by
  obtain ⟨hW, cR⟩ := IC_1 c
  obtain ⟨p1, p2⟩ := C_turnKin (Or.inl rfl) hW cR (nI a) (nI b)
  obtain ⟨X, x1, x2, x3⟩ := p2 a b ha hb hab
  refine ⟨X, ?_, ?_, UpB_FR (fun a h => by have := h.2; omega) x3⟩
  · unfold L_X11_kin b_X11_kin_0
    rw [x1]
    rfl
  · exact IC_town (WT_wK hW ha hb hab) x2 (full_congr (FR_gr x3 2) (fun q _ => FR_gp x3 q) (by rw [FR_tp x3]; exact Nat.le_refl _) c.2.2.2.1) (fun a ha => ⟨x3.1 a (fun h => by have := h.1; have := h.2; omega), FR_gr x3 a⟩) (fun q _ => FR_gp x3 q) (by rw [FR_tp x3]; exact Nat.le_refl _) c
theorem K_set0 (c : IC S (T, m)) {x : Nat} (hx : x < 24) : ∃ X, L_X11_set 0 (nI x) S = some (tF T 15 0, X) ∧ IC X (wF T 15 0 (nI x), m) ∧ UpB S X := by
  obtain ⟨hW, cR⟩ := IC_1 c
  have cr : ∀ k, k < 3 → gi S (1 + 17) k = tF T 15 k := fun k hk => cR.2.2.2.2.2.2.2 k hk
  have hv : 0 ≤ nI x ∧ nI x ≤ 23 := ⟨nI_pos' (by omega), nI_le (b := 23) (by omega) (by decide)⟩
  refine ⟨_, ?_, IC_put c (r := 15) (i := 0) (v := nI x) (by decide) (okV_15a hx), UpC_si (by decide) (UpC_refl S) _ _, fun _ _ => rfl, Nat.le_refl _⟩
  unfold L_X11_set b_X11_set_0 L_X10_changeRule b_X10_changeRule_0 b_X10_changeRule_21 b_X10_changeRule_42
  rw [if_pos rfl, A_isOut, if_pos (by decide), Option.bind_some, if_pos rfl, if_neg (by decide), A_isOut, if_pos hv, Option.bind_some, if_pos rfl, gd_t (by decide), gd_t (by decide), nm_eq, show (0 : Int32).toNatClampNeg = 0 by decide, cr 0 (by decide), Option.bind_some]
theorem K_set1 (c : IC S (T, m)) {x : Nat} (hx : x < 10) : ∃ X, L_X11_set 1 (nI x) S = some (tF T 15 1, X) ∧ IC X (wF T 15 1 (nI x), m) ∧ UpB S X := by
  obtain ⟨hW, cR⟩ := IC_1 c
  have cr : ∀ k, k < 3 → gi S (1 + 17) k = tF T 15 k := fun k hk => cR.2.2.2.2.2.2.2 k hk
  have hv : 0 ≤ nI x ∧ nI x ≤ 9 := ⟨nI_pos' (by omega), nI_le (b := 9) (by omega) (by decide)⟩
  refine ⟨_, ?_, IC_put c (r := 15) (i := 1) (v := nI x) (by decide) (okV_15b hx), UpC_si (by decide) (UpC_refl S) _ _, fun _ _ => rfl, Nat.le_refl _⟩
  unfold L_X11_set b_X11_set_0 L_X10_changeRule b_X10_changeRule_0 b_X10_changeRule_21 b_X10_changeRule_42
  rw [if_neg (by decide), if_pos rfl, A_isOut, if_pos (by decide), Option.bind_some, if_pos rfl, if_neg (by decide), A_isOut, if_pos hv, Option.bind_some, if_pos rfl, gd_t (by decide), gd_t (by decide), nm_eq, show (1 : Int32).toNatClampNeg = 1 by decide, cr 1 (by decide), Option.bind_some]
theorem K_set2 (c : IC S (T, m)) {x : Nat} (hx : 1 ≤ x ∧ x < 10) : ∃ X, L_X11_set 2 (nI x) S = some (tF T 15 2, X) ∧ IC X (wF T 15 2 (nI x), m) ∧ UpB S X := by
  obtain ⟨hW, cR⟩ := IC_1 c
  have cr : ∀ k, k < 3 → gi S (1 + 17) k = tF T 15 k := fun k hk => cR.2.2.2.2.2.2.2 k hk
  have hv : 1 ≤ nI x ∧ nI x ≤ 9 := ⟨nI_le (a := 1) hx.1 (by omega), nI_le (b := 9) (by omega) (by decide)⟩
  refine ⟨_, ?_, IC_put c (r := 15) (i := 2) (v := nI x) (by decide) (okV_15c hx), UpC_si (by decide) (UpC_refl S) _ _, fun _ _ => rfl, Nat.le_refl _⟩
  unfold L_X11_set b_X11_set_0 L_X10_changeRule b_X10_changeRule_0 b_X10_changeRule_21 b_X10_changeRule_42
  rw [if_neg (by decide), if_neg (by decide), A_isOut, if_pos (by decide), Option.bind_some, if_pos rfl, if_pos rfl, A_isOut, if_pos hv, Option.bind_some, if_pos rfl, gd_t (by decide), gd_t (by decide), nm_eq, show (2 : Int32).toNatClampNeg = 2 by decide, cr 2 (by decide), Option.bind_some]
theorem K_count (c : IC S (T, m)) (v : Int32) : L_X11_count v S = some (aCount T v) := by
  obtain ⟨hW, cR⟩ := IC_1 c
  have n8 := hW.1
  have r0 : gi S (1 + 17) 0 = tF T 15 0 := cR.2.2.2.2.2.2.2 0 (by decide)
  have r1 : gi S (1 + 17) 1 = tF T 15 1 := cR.2.2.2.2.2.2.2 1 (by decide)
  have r2 : gi S (1 + 17) 2 = tF T 15 2 := cR.2.2.2.2.2.2.2 2 (by decide)
  unfold L_X11_count b_X11_count_0 aCount
  rw [cR.1, cR.2.1, cR.2.2.1, gd_t (by decide), gd_t (by decide), gd_t (by decide), show (0 : Int32).toNatClampNeg = 0 by decide, show (1 : Int32).toNatClampNeg = 1 by decide, show (2 : Int32).toNatClampNeg = 2 by decide, r0, r1, r2, C_coins hW cR, C_pairs hW cR]
  simp only [Option.bind_some]
  repeat' split
  all_goals rfl
theorem K_keep (c : IC S (T, im, sh)) {d kd fg : Nat} (hd : d < 8) (hk : kd < 8) (hf : fg < 10) : ∃ X, L_X11_keep (nI d) 1 (nI kd) (nI fg) S = some (0, X) ∧ IC X (T, im, setS sh d (1, (kd, nI fg), (0, 0), fun _ => 0)) ∧ UpB S X := by
  have d31 : d < 2 ^ 31 := by omega
  have t183 := c.1
  obtain ⟨-, -, ⟨q1, z, x1, x2, x3, -⟩, -⟩ := c.2.2.2.2.2.2 d hd
  have hk7 : 0 ≤ nI kd ∧ nI kd ≤ 7 := ⟨nI_pos' (by omega), nI_le (b := 7) (by omega) (by decide)⟩
  have hf9 : 0 ≤ nI fg ∧ nI fg ≤ 9 := ⟨nI_pos' (by omega), nI_le (b := 9) (by omega) (by decide)⟩
  refine ⟨si (sr (sp S kd (nI fg)) 67 d (some (tp S))) 66 d 1, ?_, ?_, fun a ha => ⟨gi_si_n _ _ _ (by omega), rfl, gr_sr_n _ _ _ (by omega)⟩, fun q hq => gp_old kd (nI fg) hq, Nat.le_succ _⟩
  · unfold L_X11_keep b_X11_keep_0
    rw [C_ns0 hd, Option.bind_some, if_pos rfl, A_isOut, if_pos (by decide), Option.bind_some, if_pos rfl, if_neg (by decide), A_isOut, if_pos hk7, Option.bind_some, if_pos rfl, A_isOut, if_pos hf9, Option.bind_some, if_pos rfl, C_one t183 hk, Option.bind_some]
    dsimp only
    rw [gd_t (inb_n hd), gq_new t183, Option.bind_some, nm_eq, gd_t (inb_n hd), nm_eq, tn_n d31]
  · refine IC_shelf c (fun a ha => ⟨gi_si_n _ _ _ (by omega), gr_sr_n _ _ _ (by omega)⟩) (fun q hq => gp_old kd (nI fg) hq) (Nat.le_succ _) (fun e he ne => ⟨?_, ?_, gi_si_n _ _ _ (by omega), gi_si_n _ _ _ (by omega)⟩) (fun _ => ⟨?_, (show 1 ≤ 2 by decide), ⟨tp S, (kd, nI fg), ?_, ?_, Nat.lt_succ_self _, fun _ => ⟨rfl, by show kd < 8; omega, fg, by omega, rfl⟩⟩, fun h => absurd h (show ¬ (1 : Nat) = 2 by decide)⟩)
    · rw [gi_si_s, upd_n _ _ ne]; rfl
    · show gr (sr (sp S kd (nI fg)) 67 d (some (tp S))) 67 e = gr S 67 e
      rw [gr_sr_s]
      exact if_neg ne
    · rw [gi_si_s, upd_s]; rfl
    · show gr (sr (sp S kd (nI fg)) 67 d (some (tp S))) 67 d = _
      rw [gr_sr_s]
      exact if_pos rfl
    · exact gq_new t183 kd (nI fg)
theorem K_comes (c : IC S (T, im, sh)) {d kd fg : Nat} {x h mo co : Int32} (hd : d < 8) (e1 : (sh d).1 = 1) (e2 : (sh d).2.1 = (kd, nI fg)) (hf : fg < 10) (hk : kd < 8) (ok : okO x h mo co) (h8 : tn T < 8) : ∃ X, L_X11_comes (nI d) x h mo co S = some (nI (tn T), X) ∧ IC X (addO T kd (nI fg) x h mo co, im, sh) ∧ UpB S X := by
  obtain ⟨hW, cR⟩ := IC_1 c
  have d31 : d < 2 ^ 31 := by omega
  have no : L_X10_isNoOne x h mo co S = some (if okO x h mo co then 0 else 1) := by
    unfold L_X10_isNoOne b_X10_isNoOne_0 b_X10_isNoOne_40 okO
    rw [A_isOut, A_isOut, A_isOut, A_isOut]
    obtain ⟨h1, h2, h3, h4⟩ := ok
    simp [h1, h2, h3, h4]
  have hs := c.2.2.2.2.2.2 d hd
  have r1 := C_sr c hd (want := 1) (by decide)
  have e : refS (sh d) 1 = 0 := by unfold refS; rw [if_neg (by omega), if_pos e1]
  obtain ⟨-, -, ⟨q, z, q1, q2, q3, q4⟩, -⟩ := hs
  obtain ⟨z0, -⟩ := q4 e1
  have z0 : z = (kd, nI fg) := z0.trans e2
  subst z0
  obtain ⟨-, p2, p3⟩ := C_addOne (Or.inl rfl) hW cR q2 x h mo co
  obtain ⟨X, x1, x2, x3, x4⟩ := p3 ok h8
  have hW' : WT (addO T kd (nI fg) x h mo co) := WT_addO hW hk hf ok h8
  refine ⟨X, ?_, ?_, fun a ha => ⟨(x3.1 a (fun w => by have := w.2; omega)).1, x3.2.1 a, (x3.1 a (fun w => by have := w.2; omega)).2⟩, fun a _ => x3.2.2.1 a, Nat.le_of_eq x3.2.2.2.symm⟩
  · unfold L_X11_comes b_X11_comes_0
    rw [C_ns0 hd, Option.bind_some, if_pos rfl, no, if_pos ok, Option.bind_some, if_pos rfl, show (1 : Int32) = nI 1 from rfl, r1, e, Option.bind_some, if_pos rfl, gd_t (inb_n hd), tn_n d31, q1, Option.bind_some]
    rw [x1]
    rfl
  · exact IC_town hW' x2 (full_up x4 x3.2.2.1 x3.2.2.2 ⟨_, q2⟩ q3 c.2.2.2.1) (fun a ha => x3.1 a (fun w => by have := w.1; have := w.2; omega)) (fun a _ => x3.2.2.1 a) (by rw [x3.2.2.2]; exact Nat.le_refl _) c
theorem K_row (c : IC S (T, im, sh)) {d k : Nat} (hd : d < 8) (hk : k ≤ 100) : ∃ X, L_X11_row (nI d) 0 (nI k) S = some (0, X) ∧ IC X (T, im, setS sh d (2, (sh d).2.1, (0, k), fun _ => 0)) ∧ UpB S X := by
  obtain ⟨-, -, ⟨q1, z, x1, x2, x3, -⟩, -⟩ := c.2.2.2.2.2.2 d hd
  have hn : nI k ≤ 100 := nI_le (b := 100) hk (by decide)
  obtain ⟨Y, y1, yF, y2, y3, y4⟩ := C_begin (S := S) hd (nI 0) (nI k)
  refine ⟨si Y 66 d 2, ?_, ?_, UpC_si (by decide) (UpC_FR (fun a z => by omega) yF) _ _, fun q _ => FR_gp yF q, Nat.le_of_eq (FR_tp yF).symm⟩
  · unfold L_X11_row b_X11_row_0
    rw [C_ns0 hd, Option.bind_some, if_pos rfl, A_isOut, if_pos (by decide), Option.bind_some, if_pos rfl, if_pos hn, if_pos (nI_pos' (by omega)), gd_t (inb_n hd), tn_n (show d < 2 ^ 31 by omega)]
    rw [show (0 : Int32) = nI 0 from rfl, y1, Option.bind_some, gd_t (inb_n hd), nm_eq]
  · refine IC_shelf c (fun a ha => ⟨by rw [gi_si_n _ _ _ (by omega)]; exact yF.1 a (by omega), FR_gr yF a⟩) (fun q _ => FR_gp yF q) (by show tp S ≤ tp Y; rw [FR_tp yF]; exact Nat.le_refl _) (fun e he ne => ⟨?_, ?_, ?_, ?_⟩) (fun _ => ⟨?_, Nat.le_refl 2, ⟨q1, z, ?_, ?_, ?_, fun h => absurd h (show ¬ (2 : Nat) = 1 by decide)⟩, fun _ => ⟨?_, Nat.zero_le 2, ?_, hk, fun i hi => ?_⟩⟩)
    · rw [gi_si_s, upd_n _ _ ne, yF.1 66 (by omega)]
    · exact congrFun (FR_gr yF 67) e
    · rw [gi_si_n _ _ _ (by omega), yF.1 _ (by omega)]
    · rw [gi_si_n _ _ _ (by omega), yF.1 _ (by omega)]
    · rw [gi_si_s, upd_s]; rfl
    · exact (congrFun (FR_gr yF 67) d).trans x1
    · exact (gq_local (S := S) (S' := si Y 66 d 2) (FR_gp yF q1)).trans x2
    · show q1 < tp Y
      rw [FR_tp yF]; exact x3
    · rw [gi_si_n _ _ _ (by omega)]; exact y2
    · rw [gi_si_n _ _ _ (by omega)]; exact y3
    · rw [gi_si_n _ _ _ (by omega)]; exact y4 i hi
theorem K_put (c : IC S (T, im, sh)) {d j : Nat} {v : Int32} (hd : d < 8) (e1 : (sh d).1 = 2) (hj : j < (sh d).2.2.1.2) : ∃ X, L_X11_put (nI d) (nI j) v S = some (0, X) ∧ IC X (T, im, setS sh d (2, (sh d).2.1, (sh d).2.2.1, upd (sh d).2.2.2 j (nar (sh d).2.2.1.1 v))) ∧ UpB S X := by
  have d31 : d < 2 ^ 31 := by omega
  have hs := c.2.2.2.2.2.2 d hd
  have r1 := C_sr c hd (want := 2) (by decide)
  have e : refS (sh d) 2 = 0 := by unfold refS; rw [if_neg (by omega), if_pos e1]
  obtain ⟨x0, -, ⟨q1, z, x1, x2, x3, -⟩, x5⟩ := hs
  obtain ⟨y1, y2, y3, y4, y5⟩ := x5 e1
  have y1' : gi S (70 + 2 * d) 0 = nI (sh d).2.2.1.1 := y1
  have y2' : (sh d).2.2.1.1 ≤ 2 := y2
  have y3' : gi S (70 + 2 * d) 1 = nI (sh d).2.2.1.2 := y3
  have y4' : (sh d).2.2.1.2 ≤ 100 := y4
  have k0 : ∀ q, q ≤ 2 → (nI q = 0 ↔ q = 0) := fun q h => nI_eq (b := 0) (by omega) (by decide)
  have k1 : ∀ q, q ≤ 2 → (nI q = 1 ↔ q = 1) := fun q h => nI_eq (b := 1) (by omega) (by decide)
  have j31 : j < 2 ^ 31 := by omega
  refine ⟨si S (71 + 2 * d) j (nar (sh d).2.2.1.1 v), ?_, ?_, UpC_si (by omega) (UpC_refl S) _ _, fun _ _ => rfl, Nat.le_refl _⟩
  · unfold L_X11_put b_X11_put_0
    have wr : L_X8_write (70 + 2 * d) (nI j) v S = some (si S (71 + 2 * d) j (nar (sh d).2.2.1.1 v)) := by
      unfold L_X8_write b_X8_write_0 b_X8_write_40 nar
      rw [hp_1 y3' y4' hj, Option.bind_some, if_neg (by decide), y1']
      simp only [k0 _ y2', k1 _ y2', gd_t (inb_n (show j < 100 by omega)), tn_n j31, nm, show 70 + 2 * d + 1 = 71 + 2 * d by omega]
      repeat' split
      all_goals rfl
    rw [show (2 : Int32) = nI 2 from rfl, r1, e, Option.bind_some, if_pos rfl, gd_t (inb_n hd), tn_n d31, hp_1 y3' y4' hj, Option.bind_some, if_neg (by decide), gd_t (inb_n hd), wr]
    rfl
  · refine IC_shelf c (fun a ha => ⟨gi_si_n _ _ _ (by omega), rfl⟩) (fun q _ => rfl) (Nat.le_refl _) (fun e he ne => ⟨congrFun (gi_si_n _ _ _ (by omega)) e, rfl, gi_si_n _ _ _ (by omega), gi_si_n _ _ _ (by omega)⟩) (fun _ => ⟨?_, Nat.le_refl 2, ⟨q1, z, x1, x2, x3, fun h => absurd h (show ¬ (2 : Nat) = 1 by decide)⟩, fun _ => ⟨?_, y2, ?_, y4, fun i hi => ?_⟩⟩)
    · rw [gi_si_n _ _ _ (by omega), x0, e1]
    · rw [gi_si_n _ _ _ (by omega)]; exact y1
    · rw [gi_si_n _ _ _ (by omega)]; exact y3
    · rw [gi_si_s]
      show upd (gi S (71 + 2 * d)) j (nar (sh d).2.2.1.1 v) i = upd (sh d).2.2.2 j (nar (sh d).2.2.1.1 v) i
      by_cases q : i = j
      · subst q; rw [upd_s, upd_s]
      · rw [upd_n _ _ q, upd_n _ _ q]; exact y5 i hi
theorem K_again (c : IC S (T, im, sh)) {what : Int32} (hv : (0 : Int32) ≤ what ∧ what ≤ 1) : ∃ r X, L_X11_again what S = some (r, X) ∧ UpD S X ∧ isLh (agG T) (agH T what) 41 r := by
  obtain ⟨X, r, x1, x2, x3, x4⟩ := C_again c what
  refine ⟨r.1, r.2, ?_, x3, x4⟩
  unfold L_X11_again b_X11_again_0
  rw [A_isOut, if_pos hv, Option.bind_some, if_pos rfl, x2, Option.bind_some, x1]
end KBEG
