section RCHOOSE
variable {S : St} {T : TT} {bit : Nat → Bool} {sh : Bool} {D : Nat → Nat → Int32} {h p : Nat}
def sBk (sh : Bool) (T : TT) (D : Nat → Nat → Int32) (p : Nat) (own hr : Int32) (k : Nat) : Int32 × Int32 × Int32 := if sh then (-4, 0, 0) else sBest T D p own hr k
theorem sBk_of (k : Nat) (own hr : Int32) : sBk sh T D p own hr k = (-4, 0, 0) ∨ ∃ u, u < k ∧ sBk sh T D p own hr k = (nI u, sLeft D u hr, sPrice T D u hr) ∧ sSale T D u hr = true := by
  unfold sBk
  cases sh with
  | true => rw [if_pos rfl]; exact Or.inl rfl
  | false =>
    rw [if_neg (by decide)]
    exact (best_of T D p own hr k).imp id (fun ⟨u, a, b, c, _⟩ => ⟨u, a, b, c⟩)
theorem R_seen (hW : WT T) (I : DI T bit D h p) (hV : RV S T D (vN D (h + 1))) (hh : h < 24) {u : Nat} (hu : u < 11) (hs : sSale T D u (nI h) = true) : D 4 u ≠ 0 ∧ gi S 166 u = D 6 u ∧ gi S 167 u = D 5 u ∧ gi S 168 u = D 4 u := by
  obtain ⟨c1, c2, -⟩ := sale_of hs
  obtain ⟨a, b, c⟩ := (hV.1 u hu).1 ((vN_iff hW I hu hh).mpr ⟨c1, c2⟩)
  exact ⟨c1, a, b, c⟩
theorem R_loop (hT : RT S T bit sh) (I : DI T bit D h p) (hV : RV S T D (vN D (h + 1))) (hB : RB S T D h p) (hp : p < tn T) (hh : h < 24) (hd : sDue T p = nI h) (own : Int32) {r : St}
    (he : b_X12_choose_146 (nI p) (nI h) (if (sBk sh T D p own (nI h) 11).1 = -4 then -9 else (sBk sh T D p own (nI h) 11).1) S = some r) : lp 1000 (l_X12_choose_47) (nI p, nI h, own, -9, 0, S) = some r := by
  have hW := hT.1
  have s0 : (nI p, nI h, own, (-9 : Int32), (0 : Int32), S) = (fun k => (nI p, nI h, own, (if (sBk sh T D p own (nI h) k).1 = -4 then -9 else (sBk sh T D p own (nI h) k).1), nI k, S)) 0 := by
    have z : sBk sh T D p own (nI h) 0 = (-4, 0, 0) := by unfold sBk; cases sh <;> rfl
    dsimp only
    rw [z, if_pos rfl]
    rfl
  rw [s0]
  refine lp_br (l_X12_choose_47) (fun k => (nI p, nI h, own, (if (sBk sh T D p own (nI h) k).1 = -4 then -9 else (sBk sh T D p own (nI h) k).1), nI k, S)) 11 r (fun k hk => ?_) ?_ 1000 (by decide)
  · have e11 : ¬ (11 : Int32) ≤ nI k := nI_ge (b := 11) hk (by decide)
    unfold l_X12_choose_47 b_X12_choose_47
    dsimp only
    rw [if_neg e11, R_may hT I hV hB hp hh hd hk]
    simp only [Option.bind_some]
    have hk1 : nI k + 1 = nI (k + 1) := nI_1 k
    cases hc : !sh && sCan T D p own (nI h) k with
    | false =>
      rw [if_pos (by decide : (if false = true then (1 : Int32) else 0) = 0)]
      unfold b_X12_choose_140
      have e : sBk sh T D p own (nI h) (k + 1) = sBk sh T D p own (nI h) k := by
        unfold sBk
        cases sh with
        | true => rfl
        | false =>
          rw [if_neg (by decide), if_neg (by decide), sBest, if_neg]
          have hc2 : sCan T D p own (nI h) k = false := by simpa using hc
          unfold sWins
          unfold sCan at hc2
          rw [hc2]
          simp
      rw [e, hk1]
    | true =>
      obtain ⟨h1, h2⟩ : sh = false ∧ sCan T D p own (nI h) k = true := by simpa using hc
      subst h1
      rw [if_pos rfl, if_neg (by decide)]
      have hs : sSale T D k (nI h) = true := by
        unfold sCan at h2
        simp only [Bool.and_eq_true] at h2
        exact h2.1.1.1
      obtain ⟨k4, k6, k5, -⟩ := R_seen hW I hV hh hk hs
      have nk : ¬ nI k = (-4 : Int32) := fun y => by
        have a := nI_pos' (show k < 2 ^ 31 by omega)
        rw [y] at a
        exact absurd a (by decide)
      have wins : sWins T D p own (nI h) k (sBest T D p own (nI h) k) = (decide ((sBest T D p own (nI h) k).1 < 0) || decide ((sBest T D p own (nI h) k).2.1 < sLeft D k (nI h)) || (decide (sLeft D k (nI h) = (sBest T D p own (nI h) k).2.1) && decide (sPrice T D k (nI h) < (sBest T D p own (nI h) k).2.2))) := by
        unfold sWins
        unfold sCan at h2
        rw [h2, Bool.true_and]
      have eB : sBk false T D p own (nI h) k = sBest T D p own (nI h) k := rfl
      have eB1 : sBk false T D p own (nI h) (k + 1) = if sWins T D p own (nI h) k (sBest T D p own (nI h) k) then (nI k, sLeft D k (nI h), sPrice T D k (nI h)) else sBest T D p own (nI h) k := by
        show sBest T D p own (nI h) (k + 1) = _
        rw [sBest]
      have hb := sBk_of (sh := false) (T := T) (D := D) (p := p) k own (nI h)
      rw [eB] at hb
      rw [eB1, wins, eB]
      have take : b_X12_choose_119 (nI p) (nI h) own (if (sBest T D p own (nI h) k).1 = -4 then -9 else (sBest T D p own (nI h) k).1) (nI k) S = some (.inl (nI p, nI h, own, nI k, nI (k + 1), S)) := by
        unfold b_X12_choose_119 b_X12_choose_124 b_X12_choose_138 b_X12_choose_140
        rw [if_neg (by decide), hk1]
      have pass : b_X12_choose_123 (nI p) (nI h) own (if (sBest T D p own (nI h) k).1 = -4 then -9 else (sBest T D p own (nI h) k).1) (nI k) S = some (.inl (nI p, nI h, own, (if (sBest T D p own (nI h) k).1 = -4 then -9 else (sBest T D p own (nI h) k).1), nI (k + 1), S)) := by
        unfold b_X12_choose_123 b_X12_choose_124 b_X12_choose_138 b_X12_choose_140
        rw [if_pos rfl, hk1]
      rcases hb with hb | ⟨u, hu, hb, hsu⟩
      · rw [hb] at take ⊢
        rw [if_pos rfl] at take ⊢
        rw [if_neg (by decide : ¬ (0 : Int32) ≤ -9)]
        unfold b_X12_choose_90
        rw [if_pos (by decide), take]
        simp [nk]
      · have u31 : u < 2 ^ 31 := by omega
        have nu : ¬ nI u = (-4 : Int32) := fun y => by
          have a := nI_pos' u31
          rw [y] at a
          exact absurd a (by decide)
        rw [hb] at take pass ⊢
        dsimp only at take pass ⊢
        rw [if_neg nu] at take pass ⊢
        obtain ⟨u4, u6, u5, -⟩ := R_seen hW I hV hh (show u < 11 by omega) hsu
        rw [if_pos (nI_pos' u31), R_left hT I hk k4 k6 k5, R_left hT I (show u < 11 by omega) u4 u6 u5]
        simp only [Option.bind_some]
        unfold b_X12_choose_90
        have nn : ∀ w, (0 : Int32) ≤ sLeft D w (nI h) := fun w => max0_nn _
        obtain ⟨s1, s2⟩ := i_sub (nn k) (nn u)
        have n0 : ¬ nI u < 0 := nI_pos u31
        rw [R_asked hT I hk k4 k6 k5, R_asked hT I (show u < 11 by omega) u4 u6 u5]
        simp only [Option.bind_some]
        by_cases c1 : sLeft D u (nI h) < sLeft D k (nI h)
        · rw [if_pos (s1.mpr c1), take]
          simp [c1, nk]
        · rw [if_neg (fun z => c1 (s1.mp z))]
          by_cases c2 : sLeft D k (nI h) = sLeft D u (nI h)
          · rw [if_pos (s2.mpr c2)]
            by_cases c3 : sPrice T D k (nI h) < sPrice T D u (nI h)
            · rw [if_neg (Int32.not_le.mpr c3), take]
              simp [c2, c3, nk]
            · rw [if_pos (Int32.not_lt.mp c3), pass]
              simp [n0, c1, c3, nu]
          · rw [if_neg (fun z => c2 (s2.mp z)), pass]
            simp [n0, c1, c2, nu]
  · have e11 : (11 : Int32) ≤ nI 11 := by decide
    unfold l_X12_choose_47 b_X12_choose_47
    dsimp only
    rw [if_pos e11, he]
    rfl
theorem R_choose (hT : RT S T bit sh) (I : DI T bit D h p) (hV : RV S T D (vN D (h + 1))) (hB : RB S T D h p) (hp : p < tn T) (hh : h < 24) (hd : sDue T p = nI h) : ∃ S', L_X12_choose (nI p) (nI h) S = some S' ∧ FR PR S S' ∧ RV S' T (sStep T bit sh D p) (vN (sStep T bit sh D p) (h + 1)) ∧ RB S' T (sStep T bit sh D p) h (p + 1) := by
  obtain ⟨hW, hR, -, -⟩ := id hT
  have p8 : p < 8 := by have := hW.1; omega
  have p31 : p < 2 ^ 31 := by omega
  have nd : ¬ sDone T h p p := fun z => by have := (done_n hd hh).mp z; omega
  obtain ⟨c1, c2, c3, -, c5, -⟩ := hR.2.2.2.1 p hp
  have hk8 := (hW.2.2.2.1 p hp).1
  have eF : kSum (tK T p) (tF T 3 p) (wsum (tF T 1 p) (nI h) bit (tF T 5) (tF T 6) (tF T 7) (tm T)) = sFirst T bit p := by
    unfold sFirst sKnown
    rw [hd]
  have F6 : FR PR S (si S 161 p (sFirst T bit p)) := FR_si ⟨by decide, by decide⟩ (FR_refl S) _ _
  have T6 := RT_congr F6 hT
  have g6 : ∀ a, a ≠ 161 → gi (si S 161 p (sFirst T bit p)) a = gi S a := fun a ha => gi_si_n _ _ _ ha
  have g61 : gi (si S 161 p (sFirst T bit p)) 161 p = sFirst T bit p := by rw [gi_si_s, upd_s]
  have V6 : RV (si S 161 p (sFirst T bit p)) T D (vN D (h + 1)) := by
    unfold RV
    rw [g6 166 (by decide), g6 167 (by decide), g6 168 (by decide), g6 165 (by decide)]
    exact hV
  have B6 : RB (si S 161 p (sFirst T bit p)) T D h p := by
    refine ⟨?_, fun q hq hdq => ?_, ?_, ?_⟩
    · rw [g6 169 (by decide), g6 170 (by decide)]; exact hB.1
    · have qp : q ≠ p := fun z => nd (z ▸ hdq)
      rw [g6 159 (by decide), g6 160 (by decide), g6 162 (by decide), g6 163 (by decide), g6 164 (by decide), gi_si_s, upd_n _ _ qp]
      exact hB.2.1 q hq hdq
    · rw [g6 159 (by decide), g6 162 (by decide), g6 163 (by decide), g6 164 (by decide)]; exact hB.2.2.1
    · rw [g6 171 (by decide)]; exact hB.2.2.2
  have start : ∀ r, lp 1000 (l_X12_choose_47) (nI p, nI h, sOwn T bit p, -9, 0, si S 161 p (sFirst T bit p)) = some r → L_X12_choose (nI p) (nI h) S = some r := by
    intro r hr
    unfold L_X12_choose b_X12_choose_0
    rw [gd_t (inb_n p8), gd_t (inb_n p8), tn_n p31, R_weight hT, Option.bind_some, R_sum p8 c1 hk8, Option.bind_some, gd_t (inb_n p8), c3, c5, eF, nm_eq, gd_t (inb_n p8), g61, R_own T6 hp, Option.bind_some]
    exact hr
  have eS : sBuy T bit sh D p = sBk sh T D p (sOwn T bit p) (nI h) 11 := by unfold sBuy sBk; rw [hd]
  have hb := buy_of T bit sh D p
  rw [hd] at hb
  have w146 : ∀ v4 : Int32, v4 < 0 → b_X12_choose_146 (nI p) (nI h) v4 (si S 161 p (sFirst T bit p)) = some (si (si (si S 161 p (sFirst T bit p)) 159 p 1) 160 p (kSide (sFirst T bit p))) := by
    intro v4 hv
    unfold b_X12_choose_146
    simp only [gd_t (inb_n p8), tn_n p31, nm, R_side, Option.bind_some, if_pos hv, gi_si_n _ _ _ (show (161 : Nat) ≠ 159 by decide), g61]
  rcases hb with hb | ⟨u, hu, hb, hs, hpr⟩
  · have e := R_loop T6 I V6 B6 hp hh hd (sOwn T bit p) (r := si (si (si S 161 p (sFirst T bit p)) 159 p 1) 160 p (kSide (sFirst T bit p))) (by rw [← eS, hb]; exact w146 _ (by decide))
    refine ⟨_, start _ e, FR_si ⟨by decide, by decide⟩ (FR_si ⟨by decide, by decide⟩ F6 _ _) _ _, ?_⟩
    have e1 : sStep T bit sh D p 1 p = kSide (sFirst T bit p) := by
      obtain ⟨-, -, -, -, -, -, s7⟩ := stp_of (sh := sh) hW hp hh hd I
      rcases s7 with ⟨-, -, -, -, z⟩ | ⟨w, hw, -, z, -⟩
      · exact z
      · rw [hb] at z
        exfalso
        have a := nI_pos' (show w < 2 ^ 31 by omega)
        rw [show nI w = -4 from (congrArg Prod.fst z).symm] at a
        exact absurd a (by decide)
    refine RB_step (S := S) hW hp hh hd I hV hB ?_ ?_ ?_ ?_ ?_ ?_ ?_ ?_ (Or.inl ⟨hb, ?_⟩)
    · intro w; simp [gi_si_n]
    · intro w; simp [gi_si_n]
    · intro w; simp [gi_si_n]
    · intro w; simp [gi_si_n]
    · intro w; simp [gi_si_n]
    · intro w; simp [gi_si_n, gi_si_s, upd]
    · intro w; rw [e1]; simp [gi_si_n, gi_si_s, upd]
    · intro w; simp [gi_si_n, gi_si_s, upd]
    · rintro a (rfl | rfl | rfl | rfl | rfl) w <;> simp [gi_si_n]
  · obtain ⟨u4, u6, u5, us⟩ := R_seen hW I V6 hh hu hs
    have us' : gi S 168 u = D 4 u := by rw [← us]; simp [gi_si_n]
    have u31 : u < 2 ^ 31 := by omega
    have nu : ¬ nI u = (-4 : Int32) := fun y => by
      have a := nI_pos' u31
      rw [y] at a
      exact absurd a (by decide)
    have up : u ≠ p := by
      rintro rfl
      exact u4 (I.2.1 u p8 (fun z => nd z.2))
    have F8 : FR PR S (si (si (si S 161 p (sFirst T bit p)) 159 p 1) 160 p (kSide (sFirst T bit p))) := FR_si ⟨by decide, by decide⟩ (FR_si ⟨by decide, by decide⟩ F6 _ _) _ _
    have T8 := RT_congr F8 hT
    have e146 : ∃ S', b_X12_choose_146 (nI p) (nI h) (nI u) (si S 161 p (sFirst T bit p)) = some S' ∧ FR PR S S' ∧ (∀ a, a = 165 ∨ a = 166 ∨ a = 167 ∨ a = 168 ∨ a = 171 → ∀ w, gi S' a w = gi S a w) ∧ (∀ q, gi S' 159 q = if q = p then 1 else gi S 159 q) ∧ (∀ q, gi S' 160 q = if q = p then D 4 u else gi S 160 q) ∧ (∀ q, gi S' 161 q = if q = p then sFirst T bit p else gi S 161 q) ∧ (∀ q, gi S' 162 q = if q = p then nI u else gi S 162 q) ∧ (∀ q, gi S' 163 q = if q = p then sPrice T D u (nI h) else gi S 163 q) ∧
        (∀ q, gi S' 164 q = if q = p then gi S 164 p - sPrice T D u (nI h) else if q = u ∧ u < 8 then gi S 164 u + sPrice T D u (nI h) else gi S 164 q) ∧ (∀ w, gi S' 169 w = if w = u then nI p else gi S 169 w) ∧ (∀ w, gi S' 170 w = if w = u then nI h else gi S 170 w) := by
      unfold b_X12_choose_146
      simp only [gd_t (inb_n p8), tn_n p31, nm, R_side, Option.bind_some, if_neg (nI_pos u31), gi_si_n _ _ _ (show (161 : Nat) ≠ 159 by decide), g61]
      rw [R_asked T8 I hu u4 (by rw [gi_si_n _ _ _ (by decide), gi_si_n _ _ _ (by decide)]; exact u6) (by rw [gi_si_n _ _ _ (by decide), gi_si_n _ _ _ (by decide)]; exact u5)]
      simp only [Option.bind_some]
      unfold b_X12_choose_224
      simp only [gd_t (inb_n p8), gd_t (inb_n hu), tn_n p31, tn_n u31, nm]
      rcases Nat.lt_or_ge u 8 with q | q
      · have e8 : ¬ (8 : Int32) ≤ nI u := nI_ge (b := 8) q (by decide)
        rw [if_neg e8]
        simp only [gd_t (inb_n q)]
        refine ⟨_, rfl, ?_, ?_, ?_, ?_, ?_, ?_, ?_, ?_, ?_, ?_⟩
        · exact FR_si ⟨by decide, by decide⟩ (FR_si ⟨by decide, by decide⟩ (FR_si ⟨by decide, by decide⟩ (FR_si ⟨by decide, by decide⟩ (FR_si ⟨by decide, by decide⟩ (FR_si ⟨by decide, by decide⟩ (FR_si ⟨by decide, by decide⟩ F8 _ _) _ _) _ _) _ _) _ _) _ _) _ _
        · rintro a (rfl | rfl | rfl | rfl | rfl) w <;> simp [gi_si_n]
        · intro w; simp [gi_si_n, gi_si_s, upd]
        · intro w
          by_cases z : w = p
          · subst z; simp [gi_si_n, gi_si_s, upd, us']
          · simp [gi_si_n, gi_si_s, upd, z]
        · intro w; simp [gi_si_n, gi_si_s, upd]
        · intro w; simp [gi_si_n, gi_si_s, upd]
        · intro w; simp [gi_si_n, gi_si_s, upd]
        · intro w
          by_cases z : w = p
          · subst z; simp [gi_si_n, gi_si_s, upd, Ne.symm up]
          · by_cases y : w = u
            · subst y; simp [gi_si_n, gi_si_s, upd, z, q]
            · simp [gi_si_n, gi_si_s, upd, z, y]
        · intro w; simp [gi_si_n, gi_si_s, upd]
        · intro w; simp [gi_si_n, gi_si_s, upd]
      · have e8 : (8 : Int32) ≤ nI u := nI_le (a := 8) q (by omega)
        have q8 : ¬ u < 8 := by omega
        rw [if_pos e8]
        refine ⟨_, rfl, ?_, ?_, ?_, ?_, ?_, ?_, ?_, ?_, ?_, ?_⟩
        · exact FR_si ⟨by decide, by decide⟩ (FR_si ⟨by decide, by decide⟩ (FR_si ⟨by decide, by decide⟩ (FR_si ⟨by decide, by decide⟩ (FR_si ⟨by decide, by decide⟩ (FR_si ⟨by decide, by decide⟩ F8 _ _) _ _) _ _) _ _) _ _) _ _
        · rintro a (rfl | rfl | rfl | rfl | rfl) w <;> simp [gi_si_n]
        · intro w; simp [gi_si_n, gi_si_s, upd]
        · intro w
          by_cases z : w = p
          · subst z; simp [gi_si_n, gi_si_s, upd, us']
          · simp [gi_si_n, gi_si_s, upd, z]
        · intro w; simp [gi_si_n, gi_si_s, upd]
        · intro w; simp [gi_si_n, gi_si_s, upd]
        · intro w; simp [gi_si_n, gi_si_s, upd]
        · intro w; simp [gi_si_n, gi_si_s, upd, q8]
        · intro w; simp [gi_si_n, gi_si_s, upd]
        · intro w; simp [gi_si_n, gi_si_s, upd]
    obtain ⟨S', e, fr, same, n1, n2, n3, n4, n5, n6, n7, n8⟩ := e146
    have el := R_loop T6 I V6 B6 hp hh hd (sOwn T bit p) (r := S') (by rw [← eS, hb]; dsimp only; rw [if_neg nu]; exact e)
    refine ⟨S', start _ el, fr, ?_⟩
    have e1 : sStep T bit sh D p 1 p = D 4 u := by
      obtain ⟨-, -, -, -, -, -, s7⟩ := stp_of (sh := sh) hW hp hh hd I
      rcases s7 with ⟨z, -⟩ | ⟨w, hw, -, z, -, -, -, -, -, -, y⟩
      · rw [hb] at z
        exact absurd (congrArg Prod.fst z) nu
      · rw [hb] at z
        have := (nI_eq (by omega) (by omega)).mp (congrArg Prod.fst z)
        subst this
        exact y
    refine RB_step (S := S) hW hp hh hd I hV hB (same 165 (by decide)) (same 166 (by decide)) (same 167 (by decide)) (same 168 (by decide)) (same 171 (by decide)) n1 (by rw [e1]; exact n2) n3 (Or.inr ⟨u, ?_, hu, n4, ?_, ?_, n7, n8⟩)
    · rw [hd]; exact hb
    · rw [hd]; exact n5
    · rw [hd]; exact n6
end RCHOOSE
