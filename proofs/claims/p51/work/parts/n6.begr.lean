/-! BEGIN: the three numbers, KIN, PEOPLE; the whole of it. -/
def BD (im : Option TT) (X : St) : Prop := ∃ T sh, IC X (T, im, sh) ∧ LV X T
section BEGR
variable {S : St} {T : TT} {im : Option TT} {sh : Nat → Sh} {xL : Nat} {xs : Nat → Int32}
theorem LV_si {j : Nat} {v : Int32} (h : LV S T) (h1 : j ≠ 1) (h3 : j ≠ 3) (h5 : j ≠ 5) : LV (si S 136 j v) T := by
  refine LV_tr h (Nat.le_refl _) (fun q h1 h2 => gi_si_n _ _ _ (by omega)) (fun q n h1 h2 => h2) ?_ ?_ ?_ (fun a b ha hb => ?_) (fun p hp => Or.inl ⟨hp, rfl, rfl⟩) (fun i hi => Or.inl ⟨hi, rfl, rfl⟩)
  · rw [gi_si_s, upd_n _ _ (Ne.symm h1)]; exact h.1
  · rw [gi_si_s, upd_n _ _ (Ne.symm h3)]; exact h.2.1
  · rw [gi_si_s, upd_n _ _ (Ne.symm h5)]; exact h.2.2.1
  · rw [gi_si_n _ _ _ (by omega)]; exact h.2.2.2.1 a b ha hb
theorem IC_si {j : Nat} {v : Int32} (c : IC S (T, im, sh)) : IC (si S 136 j v) (T, im, sh) := IC_B c (fun a ha => ⟨gi_si_n _ _ _ (by omega), rfl⟩) (fun q _ => rfl) (Nat.le_refl _)
theorem R_713 (hL : xL ≤ 260) (c : IC S (T, im, sh)) (l : LV S T) (e1 : tF T 15 1 = 1) (e2 : tF T 15 2 = 4) (k0 : tk T = 0) {f : Nat} (hf : f < 10) : ∃ X, b_L_begin_713 xL xs 0 (nI f) S = some (1, X) ∧ BD im X := by
  unfold b_L_begin_713
  have c1 := IC_si (j := 9) (v := nI f) c
  have l1 := LV_si (j := 9) (v := nI f) l (by decide) (by decide) (by decide)
  have g1 : gi (si S 136 9 (nI f)) 136 9 = nI f := by rw [gi_si_s, upd_s]
  rw [nm_eq]
  generalize si S 136 9 (nI f) = S1 at c1 l1 g1 ⊢
  rw [show (0 : Int32) + 37 = nI 37 from rfl, show (9 : Int32) = nI 9 from rfl, some_n hL (by decide) (by decide) (by decide), Option.bind_some, nm_eq, show (1 : Int32) = nI 1 from rfl, nI_add]
  have r9 : sn xL xs 37 % 9 < 9 := Nat.mod_lt _ (by decide)
  generalize sn xL xs 37 % 9 = rr at r9 ⊢
  have c3 := IC_si (j := 10) (v := nI (1 + rr)) c1
  have l3 := LV_si (j := 10) (v := nI (1 + rr)) l1 (by decide) (by decide) (by decide)
  have g9 : gi (si S1 136 10 (nI (1 + rr))) 136 9 = nI f := by rw [gi_si_s, upd_n _ _ (by decide)]; exact g1
  have g10 : gi (si S1 136 10 (nI (1 + rr))) 136 10 = nI (1 + rr) := by rw [gi_si_s, upd_s]
  generalize si S1 136 10 (nI (1 + rr)) = S3 at c3 l3 g9 g10 ⊢
  obtain ⟨X, x1, x2, x3⟩ := K_set1 c3 hf
  rw [g9, show L_X11_set (nI 1) (nI f) S3 = some (tF T 15 1, X) from x1, Option.bind_some, gd_t (lq_B x3), e1, if_pos (show (1 : Int32) = nI 1 from rfl), (x3.1 136 (by decide)).1, g10]
  obtain ⟨Y, y1, y2, y3⟩ := K_set2 x2 (x := 1 + rr) (by omega)
  rw [y1, Option.bind_some, gd_t (lq_B y3), if_pos (show tF (wF T 15 1 (nI f)) 15 2 = 4 from e2), show (0 : Int32) + 38 = nI 38 from rfl, show (4 : Int32) = nI 4 from rfl, some_n hL (by decide) (by decide) (by decide), Option.bind_some]
  have n4 : sn xL xs 38 % 4 < 4 := Nat.mod_lt _ (by decide)
  obtain ⟨Z, T', s', z1, z2, z3⟩ := P_loop (xs := xs) hL y2 (show LV Y (wF (wF T 15 1 (nI f)) 15 2 (nI (1 + rr))) from LV_B (show LV X _ from LV_B l3 x3) y3) (j := sn xL xs 38 % 4) (by show tk T + _ ≤ 3; omega)
  exact ⟨Z, z1, T', s', z2, z3⟩
theorem R_653 (hL : xL ≤ 260) (c : IC S (T, im, sh)) (l : LV S T) (e : ER T) (k0 : tk T = 0) {x : Nat} (hx : x < 24) : ∃ X, b_L_begin_653 xL xs 0 (nI x) S = some (1, X) ∧ BD im X := by
  unfold b_L_begin_653
  obtain ⟨X, x1, x2, x3⟩ := K_set0 c hx
  rw [x1, Option.bind_some, gd_t (lq_B x3), if_pos e.1, nm_eq]
  have cX := IC_si (j := 8) (v := nI x) x2
  have lX := LV_si (j := 8) (v := nI x) (show LV X (wF T 15 0 (nI x)) from LV_B l x3) (by decide) (by decide) (by decide)
  generalize si X 136 8 (nI x) = S4 at cX lX ⊢
  have go : ∀ {f : Nat}, f < 10 → ∃ Z, b_L_begin_713 xL xs 0 (nI f) S4 = some (1, Z) ∧ BD im Z := fun hf => R_713 hL cX lX e.2.1 e.2.2 k0 hf
  rw [show (0 : Int32) + 35 = nI 35 from rfl, show (0 : Int32) + 36 = nI 36 from rfl, show (2 : Int32) = nI 2 from rfl, show (10 : Int32) = nI 10 from rfl, show (3 : Int32) = nI 3 from rfl, some_n hL (by decide) (by decide) (by decide), some_n hL (by decide) (by decide) (by decide), some_n hL (by decide) (by decide) (by decide), Option.bind_some, Option.bind_some, Option.bind_some]
  split
  · exact go (Nat.mod_lt _ (by decide))
  · exact go (Nat.lt_trans (Nat.mod_lt _ (by decide)) (by decide))
theorem R_615 (hL : xL ≤ 260) (c : IC S (T, im, sh)) (l : LV S T) (e : ER T) (k0 : tk T = 0) : ∃ X, b_L_begin_615 xL xs 0 S = some (1, X) ∧ BD im X := by
  unfold b_L_begin_615
  have go : ∀ {x : Nat}, x < 24 → ∃ Z, b_L_begin_653 xL xs 0 (nI x) S = some (1, Z) ∧ BD im Z := fun hx => R_653 hL c l e k0 hx
  rw [show (0 : Int32) + 33 = nI 33 from rfl, show (0 : Int32) + 34 = nI 34 from rfl, show (2 : Int32) = nI 2 from rfl, show (24 : Int32) = nI 24 from rfl, show (9 : Int32) = nI 9 from rfl, show (8 : Int32) = nI 8 from rfl, some_n hL (by decide) (by decide) (by decide), some_n hL (by decide) (by decide) (by decide), some_n hL (by decide) (by decide) (by decide), Option.bind_some, Option.bind_some, Option.bind_some, nI_add]
  split
  · exact go (Nat.mod_lt _ (by decide))
  · refine go ?_
    have := Nat.mod_lt (sn xL xs 34) (show 0 < 9 by decide)
    omega
set_option maxHeartbeats 2000000 in
theorem K_step (hL : xL ≤ 260) (c : IC S (T, im, sh)) (l : LV S T) {j : Nat} (hj : j < 4) : ∃ X a b, b_L_begin_487 xL xs 0 (nI (j + 1)) S = some (.inl (0, nI j, X)) ∧ IC X (wK T a b, im, sh) ∧ LV X (wK T a b) := by
  unfold b_L_begin_487
  rw [if_neg (show ¬ nI (j + 1) ≤ 0 from nI_ge (a := 0) (Nat.succ_pos j) (by omega)), show ((0 : Int32) + 24) + nI (j + 1) = nI (24 + (j + 1)) by rw [show (0 : Int32) + 24 = nI 24 from rfl, nI_add], show ((0 : Int32) + 28) + nI (j + 1) = nI (28 + (j + 1)) by rw [show (0 : Int32) + 28 = nI 28 from rfl, nI_add], show L_L_some xL xs (nI (24 + (j + 1))) 3 S = _ from some_n hL (d := 3) (by omega) (by decide) (by decide), show L_L_some xL xs (nI (28 + (j + 1))) 2 S = _ from some_n hL (d := 2) (by omega) (by decide) (by decide), Option.bind_some, Option.bind_some]
  have a3 : sn xL xs (24 + (j + 1)) % 3 < 3 := Nat.mod_lt _ (by decide)
  have b2 : sn xL xs (28 + (j + 1)) % 2 < 2 := Nat.mod_lt _ (by decide)
  generalize sn xL xs (24 + (j + 1)) % 3 = a at a3 ⊢
  generalize sn xL xs (28 + (j + 1)) % 2 = b' at b2 ⊢
  have eb : nI a + 1 + nI b' - (nI a + 1 + nI b') / 3 * 3 = nI ((a + 1 + b') % 3) := by rw [nI_1, nI_add]; exact rmn 3 3 rfl (by omega) (by decide) (by decide)
  rw [eb]
  have b3 : (a + 1 + b') % 3 < 3 := Nat.mod_lt _ (by decide)
  have hab : a ≠ (a + 1 + b') % 3 := by omega
  generalize (a + 1 + b') % 3 = b at b3 hab ⊢
  have a4 : a < 4 := by omega
  have b4 : b < 4 := by omega
  have a31 : a < 2 ^ 31 := by omega
  have b31 : b < 2 ^ 31 := by omega
  rw [gd_t (inb_n a4), gd_t (inb_n a4), gd_t (inb_n b4), tn_n a31, tn_n b31, Nat.one_mul, l.2.2.2.1 a b a4 b4]
  obtain ⟨k1, k2⟩ := kin_01 c.2.1 a4 b4
  obtain ⟨y, hy, hy2, ey⟩ : ∃ y : Int32, y = 1 - tF T 14 (4 * a + b) ∧ (y = 0 ∨ y = 1) ∧ (if tF T 14 (4 * a + b) = 0 then b_L_begin_554 xL xs 0 (nI (j + 1)) (nI a) (nI b) 1 (nI b) a S else b_L_begin_554 xL xs 0 (nI (j + 1)) (nI a) (nI b) 0 (nI b) a S) = b_L_begin_554 xL xs 0 (nI (j + 1)) (nI a) (nI b) y (nI b) a S := by
    rcases k1 with z | z <;> rw [z]
    · exact ⟨1, by decide, Or.inr rfl, if_pos rfl⟩
    · exact ⟨0, by decide, Or.inl rfl, if_neg (by decide)⟩
  rw [ey]
  unfold b_L_begin_554
  have y01 : ((y : Int32) == 0 || (y : Int32) == 1) = true := by rcases hy2 with z | z <;> rw [z] <;> decide
  have gA : gi (si S (158 + a) b y) (158 + a) b = y := by rw [gi_si_s, upd_s]
  rw [gd_t y01, gd_t (inb_n b4), nm_eq, Nat.one_mul, tn_n b31, gd_t (inb_n b4), gd_t (inb_n a4), gd_t (inb_n b4), tn_n a31, Nat.one_mul, gA, gd_t y01, gd_t (inb_n a4), nm_eq, Nat.one_mul]
  obtain ⟨S9, h9⟩ : ∃ Z, Z = si (si S (158 + a) b y) (158 + b) a y := ⟨_, rfl⟩
  rw [← h9]
  have o9 : ∀ q, q < 158 ∨ 162 ≤ q → gi S9 q = gi S q := fun q hq => by rw [h9, gi_si_n _ _ _ (by omega), gi_si_n _ _ _ (by omega)]
  have ab' : (158 : Nat) + a ≠ 158 + b := by omega
  have k9 : ∀ u v, u < 4 → v < 4 → gi S9 (158 + u) v = if 4 * u + v = 4 * b + a ∨ 4 * u + v = 4 * a + b then y else gi S (158 + u) v := fun u v hu hv => by
    rw [h9]
    by_cases z : u = b
    · subst z
      rw [gi_si_s, gi_si_n _ _ _ (by omega)]
      by_cases w : v = a
      · rw [w, upd_s, if_pos (Or.inl rfl)]
      · rw [upd_n _ _ w, if_neg (by omega)]
    · rw [gi_si_n _ _ _ (by omega)]
      by_cases w : u = a
      · subst w
        rw [gi_si_s]
        by_cases w' : v = b
        · rw [w', upd_s, if_pos (Or.inr rfl)]
        · rw [upd_n _ _ w', if_neg (by omega)]
      · rw [gi_si_n _ _ _ (by omega), if_neg (by omega)]
  have r9 : ∀ q, gr S9 q = gr S q := fun q => by rw [h9]; rfl
  have p9 : ∀ q, gp S9 q = gp S q := fun q => by rw [h9]; rfl
  have t9 : tp S9 = tp S := by rw [h9]; rfl
  clear h9
  have c9 : IC S9 (T, im, sh) := IC_B c (fun q hq => ⟨o9 q (by omega), r9 q⟩) (fun q _ => p9 q) (Nat.le_of_eq t9.symm)
  have ans : tF (wK T a b) 14 (4 * a + b) = y := by rw [wK_at, if_pos (Or.inr rfl), hy]
  obtain ⟨X, x1, x2, x3⟩ := K_kin c9 a4 b4 hab
  rw [ans] at x1
  have gX : gi X (158 + a) b = y := by rw [(x3.1 _ (by omega)).1, k9 a b a4 b4, if_pos (Or.inr rfl)]
  rw [x1, Option.bind_some, gd_t (lq_B x3), gd_t (inb_n a4), gd_t (inb_n b4), gX]
  have fin : (if y = 0 then b_L_begin_604 xL xs 0 (nI (j + 1)) 0 y X else b_L_begin_604 xL xs 0 (nI (j + 1)) 1 y X) = some (.inl (0, nI j, X)) := by
    unfold b_L_begin_604
    rw [nI_pre]
    rcases hy2 with z | z <;> rw [z] <;> rfl
  rw [fin]
  refine ⟨X, a, b, rfl, x2, LV_B ?_ x3⟩
  refine LV_tr l (by omega) (fun q h1 h2 => o9 q (by omega)) (fun q n h1 h2 => by rw [dyl_loc (p9 q) (r9 q)]; exact h2) ?_ ?_ ?_ (fun u v hu hv => ?_) (fun p hp => Or.inl ⟨hp, congrFun (r9 136) p, rfl⟩) (fun i hi => Or.inl ⟨hi, congrFun (r9 152) i, rfl⟩)
  · rw [o9 136 (by omega)]; exact l.1
  · rw [o9 136 (by omega)]; exact l.2.1
  · rw [o9 136 (by omega)]; exact l.2.2.1
  · rw [k9 u v hu hv, wK_at, hy]
    split
    · rfl
    · exact l.2.2.2.1 u v hu hv
theorem K_loop (hL : xL ≤ 260) (c : IC S (T, im, sh)) (l : LV S T) (e : ER T) (k0 : tk T = 0) {j : Nat} (hj : j ≤ 4) :
    ∃ X, lp 5 (l_L_begin_487 xL xs) (0, nI j, S) = some (1, X) ∧ BD im X := by
  have key := lp_inv (body := l_L_begin_487 xL xs) (I := fun n x => ∃ Y T' s', x = (0, nI (j - n), Y) ∧ IC Y (T', im, s') ∧ LV Y T' ∧ ER T' ∧ tk T' = 0)
    (Q := fun r => r.1 = 1 ∧ BD im r.2) (m := j) (fun n x hn hI => by
      obtain ⟨Y, T', s', rfl, cY, lY, eY, kY⟩ := hI
      unfold l_L_begin_487
      dsimp only
      rcases Nat.lt_or_ge n j with nj | nj
      · right
        obtain ⟨i, hi⟩ : ∃ i, j - n = i + 1 := ⟨j - n - 1, by omega⟩
        rw [hi]
        obtain ⟨X, a, b, x1, x2, x3⟩ := K_step (xs := xs) hL cY lY (j := i) (by omega)
        have w15 : ∀ q, tF (wK T' a b) 15 q = tF T' 15 q := fun q => congrFun (wK_r (by decide) a b) q
        refine ⟨nj, _, x1, X, _, s', ?_, x2, x3, ⟨(w15 0).trans eY.1, (w15 1).trans eY.2.1, (w15 2).trans eY.2.2⟩, kY⟩
        rw [show j - (n + 1) = i by omega]
      · left
        rw [show j - n = 0 by omega]
        unfold b_L_begin_487
        obtain ⟨X, x1, x2⟩ := R_615 (xs := xs) hL cY lY eY kY
        rw [if_pos (show nI 0 ≤ (0 : Int32) from Int32.le_refl _), x1]
        exact ⟨_, rfl, rfl, x2⟩)
  obtain ⟨r, r1, r2, r3⟩ := key 5 0 (0, nI j, S) (Nat.zero_le _) (by omega) ⟨S, T, sh, rfl, c, l, e, k0⟩
  obtain ⟨r0, X⟩ := r
  dsimp only at r2 r3
  subst r2
  exact ⟨X, r1, r3⟩
theorem B_476 (hL : xL ≤ 260) (c : IC S (T, im, sh)) (l : LV S T) (e : ER T) (k0 : tk T = 0) : ∃ X, b_L_begin_476 xL xs 0 S = some (1, X) ∧ BD im X := by
  unfold b_L_begin_476
  rw [show (0 : Int32) + 24 = nI 24 from rfl, show L_L_some xL xs (nI 24) 5 S = _ from some_n hL (d := 5) (by decide) (by decide) (by decide), Option.bind_some]
  have := Nat.mod_lt (sn xL xs 24) (show 0 < 5 by decide)
  exact K_loop hL c l e k0 (by omega)
end BEGR
