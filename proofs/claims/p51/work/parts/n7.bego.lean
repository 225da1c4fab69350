/-! BEGIN: PEOPLE come; the whole of it. -/
section BEGO
variable {S : St} {T : TT} {im : Option TT} {sh : Nat → Sh} {xL : Nat} {xs : Nat → Int32}
theorem addO_2 (T : TT) (kd : Nat) (fg c h m co : Int32) : tF (addO T kd fg c h m co) 2 = upd (tF T 2) (tn T) h := by
  show uD (uD (uD (uD (uD (tF T) 0 (tn T) fg) 1 (tn T) c) 2 (tn T) h) 3 (tn T) m) 4 (tn T) co 2 = _
  rw [uD_n _ _ _ (by decide), uD_n _ _ _ (by decide), uD_s, uD_n _ _ _ (by decide), uD_n _ _ _ (by decide)]
theorem addO_hi (T : TT) (kd : Nat) (fg c h m co : Int32) {r : Nat} (hr : 5 ≤ r) : tF (addO T kd fg c h m co) r = tF T r := by
  show uD (uD (uD (uD (uD (tF T) 0 (tn T) fg) 1 (tn T) c) 2 (tn T) h) 3 (tn T) m) 4 (tn T) co r = _
  rw [uD_n _ _ _ (by omega), uD_n _ _ _ (by omega), uD_n _ _ _ (by omega), uD_n _ _ _ (by omega), uD_n _ _ _ (by omega)]
theorem ld_p {γ : Type} {S : St} {o n k m p : Nat} {i : Int32} (hx : inb (nI p) n = true) (hq : gr S o p = some k) (h : dyl S k = some m) (hi : inb i m = true) (F : Nat → Option γ) : gd (inb (nI p) n) ((gr S o p).bind fun q => (dyl S q).bind fun n1 => gd (inb i n1) (F q)) = F k := by
  rw [gd_t hx, hq, Option.bind_some, h, Option.bind_some, gd_t hi]
set_option maxHeartbeats 4000000 in
theorem O_step (hL : xL ≤ 260) (c : IC S (T, im, sh)) (l : LV S T) {n p : Nat} (hp : tn T = p) (hn : p < n) (h8 : n ≤ 8) :
    ∃ X T' sh', b_L_begin_219 xL xs 0 (nI n) (nI p) S = some (.inl (0, nI n, nI (p + 1), X)) ∧ IC X (T', im, sh') ∧ LV X T' ∧ tn T' = p + 1 ∧ tm T' = tm T ∧ tk T' = tk T ∧ ∀ i, tF T' 15 i = tF T 15 i := by
  have p8 : p < 8 := by omega
  have p31 : p < 2 ^ 31 := by omega
  unfold b_L_begin_219
  rw [if_neg (nI_ge hn (by omega)), show ((0 : Int32) + 8) + nI p = nI (8 + p) by rw [show (0 : Int32) + 8 = nI 8 from rfl, nI_add], show ((0 : Int32) + 16) + nI p = nI (16 + p) by rw [show (0 : Int32) + 16 = nI 16 from rfl, nI_add], cell_n hL (by omega), cell_n hL (by omega), Option.bind_some, Option.bind_some, cv_and, cv_and]
  have hx := sn_lt xL xs (8 + p)
  generalize sn xL xs (8 + p) = x at hx ⊢
  have hy := sn_lt xL xs (16 + p)
  generalize sn xL xs (16 + p) = y at hy ⊢
  have ec : (nI x / 80 - nI x / 80 / 5 * 5) - (nI x / 80 - nI x / 80 / 5 * 5) / 3 * 3 = nI (x / 80 % 5 % 3) := by
    rw [dvn 80 80 rfl hx (by decide) (by decide), rmn 5 5 rfl (show x / 80 < 2147483648 by omega) (by decide) (by decide), rmn 3 3 rfl (show x / 80 % 5 < 2147483648 by omega) (by decide) (by decide)]
  have d2 : nI y / 2 = nI (y / 2) := dvn 2 2 rfl hy (by decide) (by decide)
  have d3648 : nI y / 3648 = nI (y / 3648) := dvn 3648 3648 rfl hy (by decide) (by decide)
  have d48 : nI y / 48 = nI (y / 48) := dvn 48 48 rfl hy (by decide) (by decide)
  have e8 : nI x - nI x / 8 * 8 = nI (x % 8) := rmn 8 8 rfl hx (by decide) (by decide)
  have e10 : nI x / 8 - nI x / 8 / 10 * 10 = nI (x / 8 % 10) := by rw [dvn 8 8 rfl hx (by decide) (by decide), rmn 10 10 rfl (show x / 8 < 2147483648 by omega) (by decide) (by decide)]
  rw [e8, e10, ec]
  have k8 : x % 8 < 8 := Nat.mod_lt _ (by decide)
  have f10 : x / 8 % 10 < 10 := Nat.mod_lt _ (by decide)
  have c3 : x / 80 % 5 % 3 < 3 := Nat.mod_lt _ (by decide)
  generalize x % 8 = kd at k8 ⊢
  generalize x / 8 % 10 = fg at f10 ⊢
  generalize x / 80 % 5 % 3 = cc at c3 ⊢
  rw [gd_t (decide_eq_true c.1), nm_eq, nm_eq]
  have N0 := NV_san c.1 6
  have ck := c.1
  obtain ⟨k, hk⟩ : ∃ k, k = tp S := ⟨_, rfl⟩
  rw [← hk] at N0 ck ⊢
  generalize san S 6 = S5 at N0 ⊢
  rw [st_i (NEW_d N0.1) (by decide), tz0]
  have N1 := NV_si N0 0 (nI kd)
  generalize si S5 k 0 (nI kd) = S9 at N1 ⊢
  rw [st_i (NEW_d N1.1) (by decide), tz1]
  have N2 := NV_si N1 1 (nI fg)
  generalize si S9 k 1 (nI fg) = S10 at N2 ⊢
  rw [st_i (NEW_d N2.1) (by decide), tz2]
  have N3 := NV_si N2 2 (nI cc)
  generalize si S10 k 2 (nI cc) = S11 at N3 ⊢
  obtain ⟨sh0, ⟨hh, hhh, rfl⟩, esh⟩ := ite_ex (c := (nI y - nI y / 2 * 2 : Int32) = 0) (P := fun z => ∃ q, q < 24 ∧ z = nI q) (fun z => b_L_begin_328 xL xs 0 (nI n) (nI p) (nI y) z 3 k k (nI p) S11) (a := nI y / 2 - nI y / 2 / 24 * 24) (b := 8 + (nI y / 2 - nI y / 2 / 14 * 14))
    ⟨y / 2 % 24, Nat.mod_lt _ (by decide), by rw [d2, rmn 24 24 rfl (show y / 2 < 2147483648 by omega) (by decide) (by decide)]⟩ ⟨8 + y / 2 % 14, by have := Nat.mod_lt (y / 2) (show 0 < 14 by decide); omega, by rw [d2, rmn 14 14 rfl (show y / 2 < 2147483648 by omega) (by decide) (by decide), show (8 : Int32) = nI 8 from rfl, nI_add]⟩
  rw [esh]
  unfold b_L_begin_328
  rw [st_i (NEW_d N3.1) (by decide), tz3]
  have N4 := NV_si N3 3 (nI hh)
  generalize si S11 k 3 (nI hh) = S12 at N4 ⊢
  rw [st_i (NEW_d N4.1) (by decide), tz4, d48, rmn 19 19 rfl (show y / 48 < 2147483648 by omega) (by decide) (by decide)]
  have w19 : y / 48 % 19 < 19 := Nat.mod_lt _ (by decide)
  generalize y / 48 % 19 = ww at w19 ⊢
  have N5 := NV_si N4 4 (nI ww - 9)
  generalize si S12 k 4 (nI ww - 9) = S13 at N5 ⊢
  obtain ⟨sp, ⟨co, hco, rfl⟩, esp⟩ := ite_ex (c := (nI y / 912 - nI y / 912 / 4 * 4 : Int32) = 0) (P := fun z => ∃ q, q < 100 ∧ z = nI q) (fun z => b_L_begin_377 xL xs 0 (nI n) (nI p) z 5 k k (nI p) S13) (a := nI y / 3648 - nI y / 3648 / 100 * 100) (b := nI y / 3648 - nI y / 3648 / 20 * 20)
    ⟨y / 3648 % 100, Nat.mod_lt _ (by decide), by rw [d3648, rmn 100 100 rfl (show y / 3648 < 2147483648 by omega) (by decide) (by decide)]⟩ ⟨y / 3648 % 20, Nat.lt_trans (Nat.mod_lt _ (by decide)) (by decide), by rw [d3648, rmn 20 20 rfl (show y / 3648 < 2147483648 by omega) (by decide) (by decide)]⟩
  rw [esp]
  unfold b_L_begin_377
  rw [st_i (NEW_d N5.1) (by decide), tz5]
  have N6 := NV_si N5 5 (nI co)
  generalize si S13 k 5 (nI co) = S8 at N6 ⊢
  clear N0 N1 N2 N3 N4 N5 esp esh
  have t8 := N6.1.2.2.1
  rw [gd_t (inb_n p8), NEW_d N6.1, Option.bind_some, tn_n p31, nm_eq, nm_eq]
  have c8 := NEW_IC N6.1 c
  obtain ⟨SC, hC⟩ : ∃ X, X = si (sr S8 136 p (some k)) 136 1 (gi (sr S8 136 p (some k)) 136 1 + 1) := ⟨_, rfl⟩
  rw [← hC]
  have oC : ∀ a, a ≠ 136 → gi SC a = gi S8 a := fun a ha => by rw [hC]; exact gi_si_n _ _ _ ha
  have o136 : gi SC 136 = upd (gi S8 136) 1 (gi S8 136 1 + 1) := by rw [hC]; exact gi_si_s _ _ _ _
  have rC : ∀ a, a ≠ 136 → gr SC a = gr S8 a := fun a ha => by rw [hC]; exact gr_sr_n _ _ _ ha
  have r136 : gr SC 136 = va_up (gr S8 136) p (some k) := by rw [hC]; exact gr_sr_s _ _ _ _
  have pC : ∀ a, gp SC a = gp S8 a := fun a => by rw [hC]; rfl
  have tC : tp SC = k + 1 := by rw [hC]; exact t8
  clear hC
  have dyC : ∀ q, 183 ≤ q → dyl SC q = dyl S8 q := fun q hq => dyl_loc (pC q) (rC q (by omega))
  have cC : IC SC (T, im, sh) := IC_B c8 (fun a ha => ⟨oC a (by omega), rC a (by omega)⟩) (fun q _ => pC q) (by rw [tC, t8]; exact Nat.le_refl _)
  have dk : dyl SC k = some 6 := (dyC k ck).trans (NEW_d N6.1)
  have rk : gr SC 136 p = some k := by rw [r136]; exact if_pos rfl
  have gk : gi SC k = upd (upd (upd (upd (upd (upd (fun _ => 0) 0 (nI kd)) 1 (nI fg)) 2 (nI cc)) 3 (nI hh)) 4 (nI ww - 9)) 5 (nI co) := (oC k (by omega)).trans N6.2
  rw [ld_p (inb_n p8) rk dk (by decide), ld_p (inb_n p8) rk dk (by decide), tz0, tz1, gk]
  obtain ⟨X, x1, x2, x3⟩ := K_keep cC (d := 0) (by decide) k8 f10
  rw [show upd (upd (upd (upd (upd (upd (fun _ => 0) 0 (nI kd)) 1 (nI fg)) 2 (nI cc)) 3 (nI hh)) 4 (nI ww - 9)) 5 (nI co) 0 = nI kd from rfl, show upd (upd (upd (upd (upd (upd (fun _ => 0) 0 (nI kd)) 1 (nI fg)) 2 (nI cc)) 3 (nI hh)) 4 (nI ww - 9)) 5 (nI co) 1 = nI fg from rfl, show L_X11_keep 0 1 (nI kd) (nI fg) SC = some (0, X) from x1, Option.bind_some, gd_t (lq_B x3), if_pos rfl]
  have dX : dyl X k = some 6 := B_dyl x3 (by omega) dk
  have rX : gr X 136 p = some k := by rw [(x3.1 136 (by decide)).2.2]; exact rk
  have gX : gi X k = upd (upd (upd (upd (upd (upd (fun _ => 0) 0 (nI kd)) 1 (nI fg)) 2 (nI cc)) 3 (nI hh)) 4 (nI ww - 9)) 5 (nI co) := (x3.1 k (by omega)).1.trans gk
  rw [ld_p (inb_n p8) rX dX (by decide), ld_p (inb_n p8) rX dX (by decide), ld_p (inb_n p8) rX dX (by decide), ld_p (inb_n p8) rX dX (by decide), tz2, tz3, tz4, gX]
  have okk : okO (nI cc) (nI hh) (nI ww - 9) (nI co) := ⟨⟨nI_pos' (by omega), nI_le (b := 3) (by omega) (by decide)⟩, ⟨nI_pos' (by omega), nI_le (b := 23) (by omega) (by decide)⟩, nine w19, nI_pos' (by omega), nI_le (b := 99) (by omega) (by decide)⟩
  obtain ⟨Y, y1, y2, y3⟩ := K_comes x2 (d := 0) (kd := kd) (fg := fg) (by decide) (by unfold setS; rw [if_pos rfl]) (by unfold setS; rw [if_pos rfl]) f10 k8 okk (by omega)
  have q2 : upd (upd (upd (upd (upd (upd (fun _ => 0) 0 (nI kd)) 1 (nI fg)) 2 (nI cc)) 3 (nI hh)) 4 (nI ww - 9)) 5 (nI co) 2 = nI cc := rfl
  have q3 : upd (upd (upd (upd (upd (upd (fun _ => 0) 0 (nI kd)) 1 (nI fg)) 2 (nI cc)) 3 (nI hh)) 4 (nI ww - 9)) 5 (nI co) 3 = nI hh := rfl
  have q4 : upd (upd (upd (upd (upd (upd (fun _ => 0) 0 (nI kd)) 1 (nI fg)) 2 (nI cc)) 3 (nI hh)) 4 (nI ww - 9)) 5 (nI co) 4 = nI ww - 9 := rfl
  have q5 : upd (upd (upd (upd (upd (upd (fun _ => 0) 0 (nI kd)) 1 (nI fg)) 2 (nI cc)) 3 (nI hh)) 4 (nI ww - 9)) 5 (nI co) 5 = nI co := rfl
  rw [q2, q3, q4, q5, show L_X11_comes 0 (nI cc) (nI hh) (nI ww - 9) (nI co) X = some (nI (tn T), Y) from y1, Option.bind_some, gd_t (lq_B y3), if_pos (show nI (tn T) = nI p by rw [hp]), nI_1]
  refine ⟨Y, _, _, rfl, y2, ?_, by show tn T + 1 = p + 1; rw [hp], rfl, rfl, fun i => congrFun (addO_hi T kd (nI fg) (nI cc) (nI hh) (nI ww - 9) (nI co) (by decide)) i⟩
  refine LV_B (LV_B (S := SC) ?_ x3) y3
  refine LV_tr l (by omega) (fun q h1 h2 => ?_) (fun q n h1 h2 => ?_) ?_ ?_ ?_ (fun a b ha hb => ?_) (fun i hi => ?_) (fun i hi => Or.inl ⟨hi, ?_, ?_⟩)
  · rw [oC q (by omega), NV_o N6 (by omega)]
  · have := dyl_183 h2
    rw [dyC q this, NV_dy N6 (by omega)]; exact h2
  · rw [o136, upd_s, NV_o N6 (by omega), l.1, nI_1]; rfl
  · rw [o136, upd_n _ _ (by decide), NV_o N6 (by omega)]; exact l.2.1
  · rw [o136, upd_n _ _ (by decide), NV_o N6 (by omega)]; exact l.2.2.1
  · rw [oC _ (by omega), NV_o N6 (by omega), addO_hi _ _ _ _ _ _ _ (by decide)]; exact l.2.2.2.1 a b ha hb
  · rw [addO_2]
    by_cases z : i = tn T
    · refine Or.inr ⟨k, by rw [z, hp]; exact rk, dk, by omega, ?_⟩
      rw [gk, z, upd_s]
      exact q3
    · have hi' : i < tn T := by
        have : i < tn T + 1 := hi
        omega
      refine Or.inl ⟨hi', ?_, upd_n _ _ z⟩
      rw [r136, ← NV_r N6 (a := 136) (by omega)]
      exact if_neg (by omega)
  · rw [rC 152 (by decide), NV_r N6 (by omega)]
  · rw [addO_hi _ _ _ _ _ _ _ (by decide)]
theorem O_loop (hL : xL ≤ 260) (c : IC S (T, im, sh)) (l : LV S T) (e : ER T) (n0 : tn T = 0) (k0 : tk T = 0) {n : Nat} (h8 : n ≤ 8) :
    ∃ X, lp 9 (l_L_begin_219 xL xs) (0, nI n, 0, S) = some (1, X) ∧ BD im X := by
  have key := lp_inv (body := l_L_begin_219 xL xs) (I := fun p x => ∃ Y T' s', x = (0, nI n, nI p, Y) ∧ IC Y (T', im, s') ∧ LV Y T' ∧ ER T' ∧ tn T' = p ∧ tk T' = 0)
    (Q := fun r => r.1 = 1 ∧ BD im r.2) (m := n) (fun p x hn hI => by
      obtain ⟨Y, T', s', rfl, cY, lY, eY, nY, kY⟩ := hI
      unfold l_L_begin_219
      dsimp only
      rcases Nat.lt_or_ge p n with nj | nj
      · right
        obtain ⟨X, T2, s2, x1, x2, x3, x4, -, x6, x7⟩ := O_step (xs := xs) hL cY lY nY nj h8
        exact ⟨nj, _, x1, X, T2, s2, rfl, x2, x3, ⟨(x7 0).trans eY.1, (x7 1).trans eY.2.1, (x7 2).trans eY.2.2⟩, x4, x6.trans kY⟩
      · left
        obtain rfl : p = n := by omega
        unfold b_L_begin_219
        obtain ⟨X, x1, x2⟩ := B_476 (xs := xs) hL cY lY eY kY
        rw [if_pos (Int32.le_refl _), x1]
        exact ⟨_, rfl, rfl, x2⟩)
  obtain ⟨r, r1, r2, r3⟩ := key 9 0 (0, nI n, nI 0, S) (Nat.zero_le _) (by omega) ⟨S, T, sh, rfl, c, l, e, n0, k0⟩
  obtain ⟨r0, X⟩ := r
  dsimp only at r2 r3
  subst r2
  exact ⟨X, r1, r3⟩
theorem F_loop (hL : xL ≤ 260) (c : IC S (T, im, sh)) (l : LV S T) (e : ER T) (n0 : tn T = 0) (m0 : tm T = 0) (k0 : tk T = 0) {n : Nat} (h6 : n ≤ 6) :
    ∃ X, lp 7 (l_L_begin_11 xL xs) (0, nI n, 0, S) = some (1, X) ∧ BD im X := by
  have key := lp_inv (body := l_L_begin_11 xL xs) (I := fun p x => ∃ Y T', x = (0, nI n, nI p, Y) ∧ IC Y (T', im, sh) ∧ LV Y T' ∧ ER T' ∧ tm T' = p ∧ tn T' = 0 ∧ tk T' = 0)
    (Q := fun r => r.1 = 1 ∧ BD im r.2) (m := n) (fun p x hn hI => by
      obtain ⟨Y, T', rfl, cY, lY, eY, mY, nY, kY⟩ := hI
      unfold l_L_begin_11
      dsimp only
      rcases Nat.lt_or_ge p n with nj | nj
      · right
        obtain ⟨X, T2, x1, x2, x3, x4, x5, x6, x7⟩ := F_step (xs := xs) hL cY lY mY nj h6
        exact ⟨nj, _, x1, X, T2, rfl, x2, x3, ⟨(x7 0).trans eY.1, (x7 1).trans eY.2.1, (x7 2).trans eY.2.2⟩, x4, x5.trans nY, x6.trans kY⟩
      · left
        obtain rfl : p = n := by omega
        unfold b_L_begin_11 b_L_begin_204
        obtain ⟨X, x1, x2⟩ := O_loop (xs := xs) hL cY lY eY nY kY (n := sn xL xs 7 % 9) (by have := Nat.mod_lt (sn xL xs 7) (show 0 < 9 by decide); omega)
        rw [if_pos (Int32.le_refl _), show (0 : Int32) + 7 = nI 7 from rfl, show L_L_some xL xs (nI 7) 9 Y = _ from some_n hL (d := 9) (by decide) (by decide) (by decide), Option.bind_some, x1]
        exact ⟨_, rfl, rfl, x2⟩)
  obtain ⟨r, r1, r2, r3⟩ := key 7 0 (0, nI n, nI 0, S) (Nat.zero_le _) (by omega) ⟨S, T, rfl, c, l, e, m0, n0, k0⟩
  obtain ⟨r0, X⟩ := r
  dsimp only at r2 r3
  subst r2
  exact ⟨X, r1, r3⟩
theorem BEGIN (hL : xL ≤ 260) (c : IC S (T, im, sh)) (l : LV S T) (e : ER T) (n0 : tn T = 0) (m0 : tm T = 0) (k0 : tk T = 0) : ∃ X, L_L_begin xL xs 0 S = some (1, X) ∧ BD im X := by
  unfold L_L_begin b_L_begin_0
  rw [show L_L_some xL xs 0 7 S = _ from some_n hL (j := 0) (d := 7) (by decide) (by decide) (by decide), Option.bind_some]
  have := Nat.mod_lt (sn xL xs 0) (show 0 < 7 by decide)
  exact F_loop hL c l e n0 m0 k0 (by omega)
end BEGO
