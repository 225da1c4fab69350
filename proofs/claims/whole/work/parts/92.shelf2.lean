/-! keep, put, copy. -/
def nar (q : Nat) (v : Int32) : Int32 := if q = 0 then v.toInt8.toInt32 else if q = 1 then v.toInt16.toInt32 else v
section SHELF2
variable {S S' X : St} {T : TT} {im : Option TT} {sh : Nat → Sh} {d : Nat}
theorem C_one (h : 183 ≤ tp S) {k : Nat} (hk : k < 8) (fg : Int32) : L_X11_oneOfKind (nI k) fg S = some (tp S, sp S k fg) := by
  unfold L_X11_oneOfKind
  rw [gd_t (decide_eq_true h)]
  rcases k8 hk with rfl | rfl | rfl | rfl | rfl | rfl | rfl | rfl <;> rfl
theorem gq_new (h : 183 ≤ tp S) (k : Nat) (fg : Int32) : gq (sp S k fg) (tp S) = some (k, fg) := by
  unfold gq isPlB
  rw [decide_eq_true h]
  simp only [Bool.true_or, if_true]
  exact if_pos rfl
theorem gp_old (k : Nat) (fg : Int32) {q : Nat} (h : q < tp S) : gp (sp S k fg) q = gp S q := if_neg (show ¬ q = tp S by omega)
theorem J_keep (c : IC S (T, im, sh)) (g : IR S (T, im, sh)) (p v k f : Int32) : JJ S (L_X11_keep p v k f) (L_X12_keep p v k f) := by
  have refuse : ∀ r, (L_X11_keep p v k f S = some (r, S)) → (∀ S1, IR S1 (T, im, sh) → L_X12_keep p v k f S1 = some (r, si S1 136 28 0)) → JJ S (L_X11_keep p v k f) (L_X12_keep p v k f) := fun r h1 h2 => JJ_D c g r ⟨S, h1, UpD_refl S⟩ (fun S1 g1 => ⟨_, h2 S1 g1, RE_0 g1⟩)
  rcases ix_split p 8 (by decide) with ⟨d, hd, rfl⟩ | bad
  · have d31 : d < 2 ^ 31 := by omega
    by_cases hv : 0 ≤ v ∧ v ≤ 1
    · obtain ⟨w, hw, rfl⟩ := in_of (n := 1) rfl (by decide) hv
      obtain ⟨-, -, ⟨q1, z, x1, x2, x3, -⟩, -⟩ := c.2.2.2.2.2.2 d hd
      have rw7 : ∀ (S : St) (a : Int32) (b : Int32) (x : Int32), IR S (T, im, sh) → (nI x.toNatClampNeg = x → True) → True := fun _ _ _ _ _ _ => trivial
      rcases (show w = 0 ∨ w = 1 by omega) with rfl | rfl
      · refine JJ_of 0 (T, im, setS sh d (0, (0, 0), (0, 0), fun _ => 0)) g ⟨si S 66 d 0, ?_, ?_, UpC_si (by decide) (UpC_refl S) _ _⟩ (fun S1 g1 => ?_)
        · unfold L_X11_keep b_X11_keep_0
          rw [C_ns0 hd, Option.bind_some, if_pos rfl, A_isOut, if_pos hv, Option.bind_some, if_pos rfl, if_pos (show (nI 0 : Int32) = 0 by decide), gd_t (inb_n hd), nm_eq, tn_n d31]
        · refine IC_shelf c (fun a ha => ⟨gi_si_n _ _ _ (by omega), rfl⟩) (fun q _ => rfl) (Nat.le_refl _) (fun e he ne => ⟨?_, rfl, gi_si_n _ _ _ (by omega), gi_si_n _ _ _ (by omega)⟩) (fun _ => ⟨?_, Nat.zero_le 2, ⟨q1, z, x1, x2, x3, fun h => absurd h (show ¬ (0 : Nat) = 1 by decide)⟩, fun h => absurd h (show ¬ (0 : Nat) = 2 by decide)⟩)
          · rw [gi_si_s, upd_n _ _ ne]
          · rw [gi_si_s, upd_s]; rfl
        · have g2 := IR_thr g1 0
          have u2 := Up_thr S1 0
          generalize hS2 : si S1 136 28 0 = S2 at g2 u2
          refine ⟨si (si (si S2 153 d 0) 154 d 0) 155 d 0, ?_, ?_, UpR_si (by decide) (UpR_si (by decide) (UpR_si (by decide) u2 _ _) _ _) _ _⟩
          · unfold L_X12_keep b_X12_keep_0 b_X12_keep_59 b_X12_keep_81
            rw [nm_eq, hS2, R_in8 hd, Option.bind_some, if_neg (by decide), R_in 0 1, if_pos hv, Option.bind_some, if_neg (by decide), if_neg (by decide), gd_t (inb_n hd), nm_eq, if_neg (by decide), gd_t (inb_n hd), nm_eq, if_neg (by decide), gd_t (inb_n hd), nm_eq, tn_n d31]
            rfl
          · refine IR_shelf g2 (fun a h1 h2 => by rw [gi_si_n _ _ _ (by omega), gi_si_n _ _ _ (by omega), gi_si_n _ _ _ (by omega)]) (by rw [gi_si_n _ _ _ (by decide), gi_si_n _ _ _ (by decide), gi_si_n _ _ _ (by decide)]) (fun e he ne => ⟨?_, ?_, ?_, ?_, ?_, fun i hi => rfl⟩) (fun _ => ⟨?_, fun h => absurd h (show ¬ (0 : Nat) = 1 by decide), fun h => absurd h (show ¬ (0 : Nat) = 2 by decide)⟩)
            · rw [gi_si_n _ _ _ (by decide), gi_si_n _ _ _ (by decide), gi_si_s, upd_n _ _ ne]
            · rw [gi_si_n _ _ _ (by decide), gi_si_s, upd_n _ _ ne, gi_si_n _ _ _ (by decide)]
            · rw [gi_si_s, upd_n _ _ ne, gi_si_n _ _ _ (by decide), gi_si_n _ _ _ (by decide)]
            · rw [gi_si_n _ _ _ (by decide), gi_si_n _ _ _ (by decide), gi_si_n _ _ _ (by decide)]
            · rw [gi_si_n _ _ _ (by decide), gi_si_n _ _ _ (by decide), gi_si_n _ _ _ (by decide)]
            · rw [gi_si_n _ _ _ (by decide), gi_si_n _ _ _ (by decide), gi_si_s, upd_s]; rfl
      · by_cases hk : 0 ≤ k ∧ k ≤ 7
        · by_cases hf : 0 ≤ f ∧ f ≤ 9
          · obtain ⟨kd, hkd, rfl⟩ := in_of (n := 7) rfl (by decide) hk
            obtain ⟨fg, hfg, rfl⟩ := in_of (n := 9) rfl (by decide) hf
            have t183 := c.1
            refine JJ_of 0 (T, im, setS sh d (1, (kd, nI fg), (0, 0), fun _ => 0)) g ⟨si (sr (sp S kd (nI fg)) 67 d (some (tp S))) 66 d 1, ?_, ?_, fun a ha => ⟨gi_si_n _ _ _ (by omega), rfl, gr_sr_n _ _ _ (by omega)⟩⟩ (fun S1 g1 => ?_)
            · unfold L_X11_keep b_X11_keep_0
              rw [C_ns0 hd, Option.bind_some, if_pos rfl, A_isOut, if_pos hv, Option.bind_some, if_pos rfl, if_neg (by decide), A_isOut, if_pos hk, Option.bind_some, if_pos rfl, A_isOut, if_pos hf, Option.bind_some, if_pos rfl, C_one t183 hkd, Option.bind_some]
              dsimp only
              rw [gd_t (inb_n hd), gq_new t183, Option.bind_some, nm_eq, gd_t (inb_n hd), nm_eq, tn_n d31]
            · refine IC_shelf c (fun a ha => ⟨gi_si_n _ _ _ (by omega), gr_sr_n _ _ _ (by omega)⟩) (fun q hq => gp_old kd (nI fg) hq) (Nat.le_succ _) (fun e he ne => ⟨?_, ?_, gi_si_n _ _ _ (by omega), gi_si_n _ _ _ (by omega)⟩) (fun _ => ⟨?_, (show 1 ≤ 2 by decide), ⟨tp S, (kd, nI fg), ?_, ?_, Nat.lt_succ_self _, fun _ => ⟨rfl, by show kd < 8; omega, fg, by omega, rfl⟩⟩, fun h => absurd h (show ¬ (1 : Nat) = 2 by decide)⟩)
              · rw [gi_si_s, upd_n _ _ ne]; rfl
              · show gr (sr (sp S kd (nI fg)) 67 d (some (tp S))) 67 e = gr S 67 e
                rw [gr_sr_s]
                exact if_neg ne
              · rw [gi_si_s, upd_s]; rfl
              · show gr (sr (sp S kd (nI fg)) 67 d (some (tp S))) 67 d = _
                rw [gr_sr_s]
                exact if_pos rfl
              · exact gq_new t183 kd (nI fg)
            · have g2 := IR_thr g1 0
              have u2 := Up_thr S1 0
              generalize hS2 : si S1 136 28 0 = S2 at g2 u2
              refine ⟨si (si (si S2 153 d 1) 154 d (nI kd)) 155 d (nI fg), ?_, ?_, UpR_si (by decide) (UpR_si (by decide) (UpR_si (by decide) u2 _ _) _ _) _ _⟩
              · unfold L_X12_keep b_X12_keep_0 b_X12_keep_59 b_X12_keep_81
                rw [nm_eq, hS2, R_in8 hd, Option.bind_some, if_neg (by decide), R_in 0 1, if_pos hv, Option.bind_some, if_neg (by decide), if_pos (by decide), R_in 0 7, if_pos hk, Option.bind_some, if_neg (by decide), R_in 0 9, if_pos hf, Option.bind_some, if_neg (by decide), gd_t (inb_n hd), nm_eq, if_pos (by decide), gd_t (inb_n hd), nm_eq, if_pos (by decide), gd_t (inb_n hd), nm_eq, tn_n d31]
                rfl
              · refine IR_shelf g2 (fun a h1 h2 => by rw [gi_si_n _ _ _ (by omega), gi_si_n _ _ _ (by omega), gi_si_n _ _ _ (by omega)]) (by rw [gi_si_n _ _ _ (by decide), gi_si_n _ _ _ (by decide), gi_si_n _ _ _ (by decide)]) (fun e he ne => ⟨?_, ?_, ?_, ?_, ?_, fun i hi => rfl⟩) (fun _ => ⟨?_, fun _ => ⟨?_, ?_⟩, fun h => absurd h (show ¬ (1 : Nat) = 2 by decide)⟩)
                · rw [gi_si_n _ _ _ (by decide), gi_si_n _ _ _ (by decide), gi_si_s, upd_n _ _ ne]
                · rw [gi_si_n _ _ _ (by decide), gi_si_s, upd_n _ _ ne, gi_si_n _ _ _ (by decide)]
                · rw [gi_si_s, upd_n _ _ ne, gi_si_n _ _ _ (by decide), gi_si_n _ _ _ (by decide)]
                · rw [gi_si_n _ _ _ (by decide), gi_si_n _ _ _ (by decide), gi_si_n _ _ _ (by decide)]
                · rw [gi_si_n _ _ _ (by decide), gi_si_n _ _ _ (by decide), gi_si_n _ _ _ (by decide)]
                · rw [gi_si_n _ _ _ (by decide), gi_si_n _ _ _ (by decide), gi_si_s, upd_s]; rfl
                · rw [gi_si_n _ _ _ (by decide), gi_si_s, upd_s]
                · rw [gi_si_s, upd_s]
          · refine refuse (-1) ?_ (fun S1 g1 => ?_)
            · unfold L_X11_keep b_X11_keep_0
              rw [C_ns0 hd, Option.bind_some, if_pos rfl, A_isOut, if_pos hv, Option.bind_some, if_pos rfl, if_neg (by decide), A_isOut, if_pos hk, Option.bind_some, if_pos rfl, A_isOut, if_neg hf]
              rfl
            · unfold L_X12_keep b_X12_keep_0
              rw [nm_eq, R_in8 hd, Option.bind_some, if_neg (by decide), R_in 0 1, if_pos hv, Option.bind_some, if_neg (by decide), if_pos (by decide), R_in 0 7, if_pos hk, Option.bind_some, if_neg (by decide), R_in 0 9, if_neg hf]
              rfl
        · refine refuse (-1) ?_ (fun S1 g1 => ?_)
          · unfold L_X11_keep b_X11_keep_0
            rw [C_ns0 hd, Option.bind_some, if_pos rfl, A_isOut, if_pos hv, Option.bind_some, if_pos rfl, if_neg (by decide), A_isOut, if_neg hk]
            rfl
          · unfold L_X12_keep b_X12_keep_0
            rw [nm_eq, R_in8 hd, Option.bind_some, if_neg (by decide), R_in 0 1, if_pos hv, Option.bind_some, if_neg (by decide), if_pos (by decide), R_in 0 7, if_neg hk]
            rfl
    · refine refuse (-1) ?_ (fun S1 g1 => ?_)
      · unfold L_X11_keep b_X11_keep_0
        rw [C_ns0 hd, Option.bind_some, if_pos rfl, A_isOut, if_neg hv]
        rfl
      · unfold L_X12_keep b_X12_keep_0
        rw [nm_eq, R_in8 hd, Option.bind_some, if_neg (by decide), R_in 0 1, if_neg hv]
        rfl
  · refine refuse (-1) ?_ (fun S1 g1 => ?_)
    · unfold L_X11_keep b_X11_keep_0
      rw [C_ns1 bad]
      rfl
    · unfold L_X12_keep b_X12_keep_0
      rw [nm_eq, R_nin8 bad]
      rfl
theorem hp_1 {w n j : Nat} (hn : gi S w 1 = nI n) (h : n ≤ 100) (hj : j < n) : L_X8_hasPlaces w (nI j) 1 S = some 1 := by
  unfold L_X8_hasPlaces b_X8_hasPlaces_0
  rw [if_neg (nI_pos (by omega)), if_neg (by decide), hn, if_neg (nI_nlt (by omega) (by omega)), pk_sub (by omega), if_neg (show ¬ nI (n - j) < 1 from nI_nlt (a := n - j) (b := 1) (by omega) (by omega))]
theorem hp_0 {w n : Nat} {i : Int32} (hn : gi S w 1 = nI n) (h : n ≤ 100) (bad : i < 0 ∨ nI n ≤ i) : L_X8_hasPlaces w i 1 S = some 0 := by
  unfold L_X8_hasPlaces b_X8_hasPlaces_0 b_X8_hasPlaces_30
  by_cases z : i < 0
  · rw [if_pos z]
  · rw [if_neg z, if_neg (by decide), hn]
    by_cases y : nI n < i
    · rw [if_pos y]
    · have e : i = nI n := Int32.le_antisymm (Int32.not_lt.mp y) (bad.resolve_left z)
      rw [if_neg y, e, Int32.sub_self, if_pos (by decide)]
theorem row_1 {d n j : Nat} (hn : gi S (70 + 2 * d) 1 = nI n) (h : n ≤ 100) (hj : j < n) : L_X8_at (70 + 2 * d) (nI j) S = some (gi S (71 + 2 * d) j) := by
  unfold L_X8_at b_X8_at_0
  rw [hp_1 hn h hj, Option.bind_some, if_neg (by decide), gd_t (inb_n (show j < 100 by omega)), tn_n (show j < 2 ^ 31 by omega), show 70 + 2 * d + 1 = 71 + 2 * d by omega]
theorem row_0 {d n : Nat} {i : Int32} (hn : gi S (70 + 2 * d) 1 = nI n) (h : n ≤ 100) (bad : i < 0 ∨ nI n ≤ i) : L_X8_at (70 + 2 * d) i S = some 0 := by
  unfold L_X8_at b_X8_at_0
  rw [hp_0 hn h bad, Option.bind_some, if_pos rfl]
theorem J_put (c : IC S (T, im, sh)) (g : IR S (T, im, sh)) (p i v : Int32) : JJ S (L_X11_put p i v) (L_X12_put p i v) := by
  have refuse : ∀ r, (L_X11_put p i v S = some (r, S)) → (∀ S1, IR S1 (T, im, sh) → L_X12_put p i v S1 = some (r, si S1 136 28 0)) → JJ S (L_X11_put p i v) (L_X12_put p i v) := fun r h1 h2 => JJ_D c g r ⟨S, h1, UpD_refl S⟩ (fun S1 g1 => ⟨_, h2 S1 g1, RE_0 g1⟩)
  rcases ix_split p 8 (by decide) with ⟨d, hd, rfl⟩ | bad
  · have d31 : d < 2 ^ 31 := by omega
    have hs := c.2.2.2.2.2.2 d hd
    have w2 := hs.2.1
    have r1 := C_sr c hd (want := 2) (by decide)
    have r2 : ∀ S1, IR S1 (T, im, sh) → L_X12_wrongRow (nI d) (si S1 136 28 0) = some (refS (sh d) 2) := fun S1 g1 => (R_wr (IR_thr g1 0) hd w2).1
    rcases ref_v (sh d) 2 with e | e | ⟨e, e1⟩
    · refine refuse (-11) ?_ (fun S1 g1 => ?_)
      · unfold L_X11_put b_X11_put_0
        rw [show (2 : Int32) = nI 2 from rfl, r1, e]
        rfl
      · unfold L_X12_put b_X12_put_0
        rw [nm_eq, r2 S1 g1, e]
        rfl
    · refine refuse (-12) ?_ (fun S1 g1 => ?_)
      · unfold L_X11_put b_X11_put_0
        rw [show (2 : Int32) = nI 2 from rfl, r1, e]
        rfl
      · unfold L_X12_put b_X12_put_0
        rw [nm_eq, r2 S1 g1, e]
        rfl
    · obtain ⟨x0, -, ⟨q1, z, x1, x2, x3, -⟩, x5⟩ := hs
      obtain ⟨y1, y2, y3, y4, y5⟩ := x5 e1
      have y1' : gi S (70 + 2 * d) 0 = nI (sh d).2.2.1.1 := y1
      have y2' : (sh d).2.2.1.1 ≤ 2 := y2
      have y3' : gi S (70 + 2 * d) 1 = nI (sh d).2.2.1.2 := y3
      have y4' : (sh d).2.2.1.2 ≤ 100 := y4
      have k0 : ∀ q, q ≤ 2 → (nI q = 0 ↔ q = 0) := fun q h => nI_eq (b := 0) (by omega) (by decide)
      have k1 : ∀ q, q ≤ 2 → (nI q = 1 ↔ q = 1) := fun q h => nI_eq (b := 1) (by omega) (by decide)
      rcases ix_split i (sh d).2.2.1.2 (by omega) with ⟨j, hj, rfl⟩ | bad
      · have j31 : j < 2 ^ 31 := by omega
        refine JJ_of 0 (T, im, setS sh d (2, (sh d).2.1, (sh d).2.2.1, upd (sh d).2.2.2 j (nar (sh d).2.2.1.1 v))) g ⟨si S (71 + 2 * d) j (nar (sh d).2.2.1.1 v), ?_, ?_, UpC_si (by omega) (UpC_refl S) _ _⟩ (fun S1 g1 => ?_)
        · unfold L_X11_put b_X11_put_0
          have wr : L_X8_write (70 + 2 * d) (nI j) v S = some (si S (71 + 2 * d) j (nar (sh d).2.2.1.1 v)) := by
            unfold L_X8_write b_X8_write_0 b_X8_write_40 nar
            rw [hp_1 y3' y4' hj, Option.bind_some, if_neg (by decide), y1']
            simp only [k0 _ y2', k1 _ y2', gd_t (inb_n (show j < 100 by omega)), tn_n j31, nm, show 70 + 2 * d + 1 = 71 + 2 * d by omega]
            repeat' split
            all_goals rfl
          rw [show (2 : Int32) = nI 2 from rfl, r1, e, Option.bind_some, if_pos rfl, gd_t (inb_n hd), tn_n d31, hp_1 y3' y4' hj, Option.bind_some, if_neg (by decide), gd_t (inb_n hd), wr]
          rfl
        · refine IC_shelf c (fun a ha => ⟨gi_si_n _ _ _ (by omega), rfl⟩) (fun q _ => rfl) (Nat.le_refl _) (fun e he ne => ⟨congrFun (gi_si_n _ _ _ (by omega)) e, rfl, gi_si_n _ _ _ (by omega), gi_si_n _ _ _ (by omega)⟩) (fun _ => ⟨?_, Nat.le_refl 2, ⟨q1, z, x1, x2, x3, fun h => absurd h (show ¬ (2 : Nat) = 1 by decide)⟩, fun _ => ⟨?_, y2, ?_, y4, fun i hi => ?_⟩⟩)
          · rw [gi_si_n _ _ _ (by omega), x0, e1]
          · rw [gi_si_n _ _ _ (by omega)]; exact y1
          · rw [gi_si_n _ _ _ (by omega)]; exact y3
          · rw [gi_si_s]
            show upd (gi S (71 + 2 * d)) j (nar (sh d).2.2.1.1 v) i = upd (sh d).2.2.2 j (nar (sh d).2.2.1.1 v) i
            by_cases q : i = j
            · subst q; rw [upd_s, upd_s]
            · rw [upd_n _ _ q, upd_n _ _ q]; exact y5 i hi
        · have g2 := IR_thr g1 0
          have u2 := Up_thr S1 0
          have rr := r2 S1 g1
          generalize hS2 : si S1 136 28 0 = S2 at g2 u2 rr
          obtain ⟨v1, -, v3⟩ := g2.2.2.2.2.2.2 d hd
          obtain ⟨v4, v5, v6⟩ := v3 e1
          have v4' : gi S2 156 d = nI (sh d).2.2.1.1 := v4
          have v5' : gi S2 157 d = nI (sh d).2.2.1.2 := v5
          refine ⟨sl S2 158 (100 * d + j) (nar (sh d).2.2.1.1 v).toInt64, ?_, ?_, UpR_tr u2 ⟨fun a ha => ⟨rfl, gl_sl_n _ _ _ (by omega), rfl⟩, fun _ => rfl, rfl⟩⟩
          · have nw : L_X12_narrowed v (nI (sh d).2.2.1.1) S2 = some (nar (sh d).2.2.1.1 v).toInt64 := by
              unfold L_X12_narrowed b_X12_narrowed_0 nar
              simp only [k0 _ y2', k1 _ y2']
              repeat' split
              all_goals rfl
            unfold L_X12_put b_X12_put_0
            rw [nm_eq, hS2, rr, e, Option.bind_some, if_pos (by decide), gd_t (inb_n hd), tn_n d31, v5', R_inX, if_pos (in_nI (by omega) hj), Option.bind_some, if_neg (by decide), gd_t (inb_n hd), v4', nw, Option.bind_some, nI_100 hd (by omega), gd_t (inb_n (show 100 * d + j < 800 by omega)), nm_eq, tn_n (show 100 * d + j < 2 ^ 31 by omega)]
          · refine IR_shelf g2 (fun a h1 h2 => rfl) rfl (fun e he ne => ⟨rfl, rfl, rfl, rfl, rfl, fun i hi => ?_⟩) (fun _ => ⟨?_, fun h => absurd h (show ¬ (2 : Nat) = 1 by decide), fun _ => ⟨v4, v5, fun i hi => ?_⟩⟩)
            · rw [gl_sl_s, updL_n _ _ (by omega)]
            · show gi S2 153 d = nI 2
              rw [v1, e1]
            · rw [gl_sl_s]
              show vp_updL (gl S2 158) (100 * d + j) (nar (sh d).2.2.1.1 v).toInt64 (100 * d + i) = (upd (sh d).2.2.2 j (nar (sh d).2.2.1.1 v) i).toInt64
              by_cases q : i = j
              · subst q; rw [updL_s, upd_s]
              · rw [updL_n _ _ (by omega), upd_n _ _ q]; exact v6 i hi
      · refine refuse (-13) ?_ (fun S1 g1 => ?_)
        · unfold L_X11_put b_X11_put_0
          rw [show (2 : Int32) = nI 2 from rfl, r1, e, Option.bind_some, if_pos rfl, gd_t (inb_n hd), tn_n d31, hp_0 y3' y4' bad]
          rfl
        · have v5' : gi (si S1 136 28 0) 157 d = nI (sh d).2.2.1.2 := (((IR_thr g1 0).2.2.2.2.2.2 d hd).2.2 e1).2.1
          unfold L_X12_put b_X12_put_0
          rw [nm_eq, r2 S1 g1, e, Option.bind_some, if_pos (by decide), gd_t (inb_n hd), tn_n d31, v5', R_inX, if_neg (nin_nI (by omega) bad)]
          rfl
  · refine refuse (-1) ?_ (fun S1 g1 => ?_)
    · unfold L_X11_put b_X11_put_0
      rw [C_srN bad]
      rfl
    · unfold L_X12_put b_X12_put_0
      rw [nm_eq, (R_wrN bad).1]
      rfl
end SHELF2
