/-! BEGIN: PLANTS come. -/
theorem nar_id {m : Nat} (h : m < 128) : nar 0 (nI m) = nI m := by
  revert m
  decide
theorem nI_pre (j : Nat) : nI (j + 1) + (-1 : Int32) = nI j := by
  rw [← nI_1, Int32.add_assoc, show (1 : Int32) + -1 = 0 by decide, Int32.add_zero]
/-- only the ints of row u changed -/
def RW (u : Nat) (S S' : St) : Prop := (∀ a, a ≠ u → gi S' a = gi S a) ∧ (∀ a, gl S' a = gl S a ∧ gr S' a = gr S a ∧ gp S' a = gp S a) ∧ tp S' = tp S
theorem RW_refl (u : Nat) (S : St) : RW u S S := ⟨fun _ _ => rfl, fun _ => ⟨rfl, rfl, rfl⟩, rfl⟩
theorem RW_si {u : Nat} {S S' : St} (h : RW u S S') (i : Nat) (v : Int32) : RW u S (si S' u i v) := ⟨fun a ha => (gi_si_n _ _ _ ha).trans (h.1 a ha), h.2.1, h.2.2⟩
theorem RW_d {u : Nat} {S S' : St} (h : RW u S S') {q n : Nat} (e : dyl S q = some n) : dyl S' q = some n := (dyl_loc (h.2.1 q).2.2 (h.2.1 q).2.1).trans e
theorem RW_IC {u : Nat} {S S' : St} {T : TT} {im : Option TT} {sh : Nat → Sh} (h : RW u S S') (hu : 183 ≤ u) (c : IC S (T, im, sh)) : IC S' (T, im, sh) := IC_B c (fun a ha => ⟨h.1 a (by omega), (h.2.1 a).2.1⟩) (fun q _ => (h.2.1 q).2.2) (Nat.le_of_eq h.2.2.symm)
/-- a new row of n ints that holds f -/
def NV (S0 : St) (k n : Nat) (f : Nat → Int32) (S : St) : Prop := NEW S0 k n S ∧ gi S k = f
theorem NV_san {S0 : St} (h : 183 ≤ tp S0) (n : Nat) : NV S0 (tp S0) n (fun _ => 0) (san S0 n) := ⟨NEW_san h n, if_pos rfl⟩
theorem NV_si {S0 S : St} {k n : Nat} {f : Nat → Int32} (h : NV S0 k n f S) (i : Nat) (v : Int32) : NV S0 k n (upd f i v) (si S k i v) := ⟨NEW_si h.1 i v, by rw [gi_si_s, h.2]⟩
theorem NV_o {S0 S : St} {k n : Nat} {f : Nat → Int32} (h : NV S0 k n f S) {a : Nat} (ha : a ≠ k) : gi S a = gi S0 a := (h.1.2.2.2.1 a ha).1
theorem NV_r {S0 S : St} {k n : Nat} {f : Nat → Int32} (h : NV S0 k n f S) {a : Nat} (ha : a ≠ k) : gr S a = gr S0 a := (h.1.2.2.2.1 a ha).2.2.1
theorem NV_dy {S0 S : St} {k n : Nat} {f : Nat → Int32} (h : NV S0 k n f S) {a : Nat} (ha : a ≠ k) : dyl S a = dyl S0 a := dyl_loc (h.1.2.2.2.1 a ha).2.2.2 (h.1.2.2.2.1 a ha).2.2.1
section PLANTS
variable {S : St} {T : TT} {im : Option TT} {sh : Nat → Sh} {xL : Nat} {xs : Nat → Int32}
theorem T_tell (c : IC S (T, im, sh)) {u : Nat} (hu : dyl S u = some 10) (ht : u < tp S) {a v1 v2 p1 p2 q1 q2 : Nat} (w0 : gi S u 0 = 116) (w1 : dg (gi S u 1) a) (ws : gi S u 2 = 43 ∨ gi S u 2 = 45) (w3 : dg (gi S u 3) v1) (w4 : dg (gi S u 4) v2) (w5 : dg (gi S u 5) p1) (w6 : dg (gi S u 6) p2) (w7 : dg (gi S u 7) q1) (w8 : dg (gi S u 8) q2) (w9 : gi S u 9 = 59)
    (ha : a < 4) (hv : 1 ≤ 10 * v1 + v2 ∧ 10 * v1 + v2 ≤ 60) (hh : 10 * q1 + q2 < 24) (hk : tk T < 3) :
    ∃ X sh', L_L_tell xL xs u 10 S = some (1, X) ∧ IC X (addP T (nI a) (if gi S u 2 = 45 then -1 else 1) (nI (10 * v1 + v2)) (nI (10 * p1 + p2)) (nI (10 * q1 + q2)), im, sh') ∧ UpB S X := by
  have u183 := dyl_183 hu
  have dgn : ∀ {x : Int32} {d : Nat}, dg x d → nar 0 x = x := by
    intro x d h
    obtain ⟨h1, rfl⟩ := h
    exact nar_id (by omega)
  have hn : ∀ i, i < 10 → nar 0 (gi S u i) = gi S u i := by
    intro i hi
    rcases (show i = 0 ∨ i = 1 ∨ i = 2 ∨ i = 3 ∨ i = 4 ∨ i = 5 ∨ i = 6 ∨ i = 7 ∨ i = 8 ∨ i = 9 by omega) with rfl | rfl | rfl | rfl | rfl | rfl | rfl | rfl | rfl | rfl
    · rw [w0]; decide
    · exact dgn w1
    · rcases ws with e | e <;> rw [e] <;> decide
    · exact dgn w3
    · exact dgn w4
    · exact dgn w5
    · exact dgn w6
    · exact dgn w7
    · exact dgn w8
    · rw [w9]; decide
  obtain ⟨X1, x1, x2, x3⟩ := K_row c (d := 7) (k := 10) (by decide) (by decide)
  unfold L_L_tell b_L_tell_0
  rw [show L_X11_row 7 0 10 S = some (0, X1) from x1, Option.bind_some, gd_t (lq_B x3), if_pos rfl]
  have key := lp_inv (body := l_L_tell_20 xL xs u) (I := fun k x => ∃ Y sh', x = (10, nI k, Y) ∧ IC Y (T, im, sh') ∧ UpB S Y ∧ (sh' 7).1 = 2 ∧ (sh' 7).2.2.1 = (0, 10) ∧ ∀ i, i < k → (sh' 7).2.2.2 i = gi S u i)
    (Q := fun r => r.1 = 1 ∧ ∃ sh', IC r.2 (addP T (nI a) (if gi S u 2 = 45 then -1 else 1) (nI (10 * v1 + v2)) (nI (10 * p1 + p2)) (nI (10 * q1 + q2)), im, sh') ∧ UpB S r.2) (m := 10) (fun k x hk' hI => by
      obtain ⟨Y, s', rfl, cY, uY, e1, e2, e3⟩ := hI
      unfold l_L_tell_20 b_L_tell_20
      dsimp only
      rcases Nat.lt_or_ge k 10 with k10 | k10
      · right
        refine ⟨k10, ?_⟩
        have g : gi Y u = gi S u := (uY.1 u (by omega)).1
        obtain ⟨Z, z1, z2, z3⟩ := K_put cY (d := 7) (j := k) (v := gi S u k) (by decide) e1 (by rw [e2]; exact k10)
        refine ⟨(10, nI (k + 1), Z), ?_, Z, _, rfl, z2, UpB_tr uY z3, ?_, ?_, fun i hi => ?_⟩
        · rw [show (10 : Int32) = nI 10 from rfl, if_neg (nI_ge k10 (by omega)), ld_i (B_dyl uY ht hu) (inb_n k10), tn_n (by omega), g, show (7 : Int32) = nI 7 from rfl, z1, Option.bind_some, gd_t (lq_B z3), if_pos rfl, nI_1]
        · unfold setS; rw [if_pos rfl]
        · unfold setS; rw [if_pos rfl]; exact e2
        · unfold setS
          rw [if_pos rfl, e2]
          show upd _ k (nar 0 (gi S u k)) i = _
          by_cases z : i = k
          · rw [z, upd_s, hn k k10]
          · rw [upd_n _ _ z]
            exact e3 i (by omega)
      · left
        obtain rfl : k = 10 := by omega
        have e3' : ∀ i, i < 10 → gi S u i = (s' 7).2.2.2 i := fun i hi => (e3 i hi).symm
        rw [e3' 0 (by decide)] at w0
        rw [e3' 1 (by decide)] at w1
        rw [e3' 2 (by decide)] at ws
        rw [e3' 3 (by decide)] at w3
        rw [e3' 4 (by decide)] at w4
        rw [e3' 5 (by decide)] at w5
        rw [e3' 6 (by decide)] at w6
        rw [e3' 7 (by decide)] at w7
        rw [e3' 8 (by decide)] at w8
        rw [e3' 9 (by decide)] at w9
        obtain ⟨Z, z1, z2, z3⟩ := K_town cY e1 (w := (s' 7).2.2.2) (by rw [← e2]) w0 w1 ws w3 w4 w5 w6 w7 w8 w9 ha hv hh hk
        rw [e3' 2 (by decide), show (10 : Int32) = nI 10 from rfl, if_pos (Int32.le_refl _), show (7 : Int32) = nI 7 from rfl, z1, Option.bind_some, gd_t (lq_B z3)]
        exact ⟨_, rfl, rfl, s', z2, UpB_tr uY z3⟩)
  obtain ⟨r, r1, r2, s', r3, r4⟩ := key 1000 0 (10, nI 0, X1) (by decide) (by decide) ⟨X1, _, rfl, x2, x3, by unfold setS; rw [if_pos rfl], by unfold setS; rw [if_pos rfl], fun i hi => absurd hi (Nat.not_lt_zero i)⟩
  obtain ⟨r0, X⟩ := r
  dsimp only at r2 r3 r4
  subst r2
  exact ⟨X, s', r1, r3, r4⟩
theorem E_942 (c : IC S (T, im, sh)) {k u j a v p q : Nat} {s0 : Int32} (h5 : dyl S k = some 5) (h10 : dyl S u = some 10) (hne : k ≠ u) (ut : u < tp S) (g2 : gi S k 2 = nI v) (g3 : gi S k 3 = nI p) (g4 : gi S k 4 = nI q) (w0 : gi S u 0 = 116) (w1 : dg (gi S u 1) a) (hs : s0 = 43 ∨ s0 = 45)
    (ha : a < 4) (hv : 1 ≤ v ∧ v ≤ 60) (hp : p < 100) (hq : q < 24) (hk : tk T < 3) :
    ∃ S' X sh', b_L_begin_942 xL xs 0 (nI (j + 1)) k s0 2 u u S = some (.inl (0, nI j, X)) ∧ RW u S S' ∧ UpB S' X ∧ IC X (addP T (nI a) (if s0 = 45 then -1 else 1) (nI v) (nI p) (nI q), im, sh') := by
  have u183 := dyl_183 h10
  have ev : ∀ {x : Nat}, x < 100 → (48 : Int32) + nI x / 10 = nI (48 + x / 10) := fun {x} hx => by rw [dvn 10 10 rfl (by omega) (by decide) (by decide), show (48 : Int32) = nI 48 from rfl, nI_add]
  have er : ∀ {x : Nat}, x < 100 → (48 : Int32) + (nI x - nI x / 10 * 10) = nI (48 + x % 10) := fun {x} hx => by rw [rmn 10 10 rfl (by omega) (by decide) (by decide), show (48 : Int32) = nI 48 from rfl, nI_add]
  have kk : ∀ {S' : St}, RW u S S' → gi S' k = gi S k := fun r => r.1 k hne
  unfold b_L_begin_942
  have R0 := RW_refl u S
  rw [st_i h10 (by decide)]
  have R1 := RW_si R0 (2 : Int32).toNatClampNeg s0
  rw [ld_i (RW_d R1 h5) (by decide), st_i (RW_d R1 h10) (by decide), kk R1, tz2, tz3, g2, ev (by omega)]
  have R2 := RW_si R1 3 (nI (48 + v / 10))
  rw [tz2] at R2
  rw [ld_i (RW_d R2 h5) (by decide), st_i (RW_d R2 h10) (by decide), kk R2, tz4, g2, er (by omega)]
  have R3 := RW_si R2 4 (nI (48 + v % 10))
  rw [ld_i (RW_d R3 h5) (by decide), st_i (RW_d R3 h10) (by decide), kk R3, tz5, g3, ev (by omega)]
  have R4 := RW_si R3 5 (nI (48 + p / 10))
  rw [ld_i (RW_d R4 h5) (by decide), st_i (RW_d R4 h10) (by decide), kk R4, tz6, g3, er (by omega)]
  have R5 := RW_si R4 6 (nI (48 + p % 10))
  rw [ld_i (RW_d R5 h5) (by decide), st_i (RW_d R5 h10) (by decide), kk R5, tz7, g4, ev (by omega)]
  have R6 := RW_si R5 7 (nI (48 + q / 10))
  rw [ld_i (RW_d R6 h5) (by decide), st_i (RW_d R6 h10) (by decide), kk R6, tz8, g4, er (by omega)]
  have R7 := RW_si R6 8 (nI (48 + q % 10))
  rw [st_i (RW_d R7 h10) (by decide), tz9]
  have R8 := RW_si R7 9 (59 : Int32)
  obtain ⟨S', hS⟩ : ∃ S', S' = si (si (si (si (si (si (si (si S u 2 s0) u 3 (nI (48 + v / 10))) u 4 (nI (48 + v % 10))) u 5 (nI (48 + p / 10))) u 6 (nI (48 + p % 10))) u 7 (nI (48 + q / 10))) u 8 (nI (48 + q % 10))) u 9 59 := ⟨_, rfl⟩
  rw [← hS] at R8 ⊢
  have e : gi S' u = upd (upd (upd (upd (upd (upd (upd (upd (gi S u) 2 s0) 3 (nI (48 + v / 10))) 4 (nI (48 + v % 10))) 5 (nI (48 + p / 10))) 6 (nI (48 + p % 10))) 7 (nI (48 + q / 10))) 8 (nI (48 + q % 10))) 9 59 := by
    rw [hS]; simp only [gi_si_s]
  clear hS
  have f0 : gi S' u 0 = 116 := by rw [e]; exact w0
  have f1 : gi S' u 1 = gi S u 1 := by rw [e]; rfl
  have f2 : gi S' u 2 = s0 := by rw [e]; rfl
  have f3 : gi S' u 3 = nI (48 + v / 10) := by rw [e]; rfl
  have f4 : gi S' u 4 = nI (48 + v % 10) := by rw [e]; rfl
  have f5 : gi S' u 5 = nI (48 + p / 10) := by rw [e]; rfl
  have f6 : gi S' u 6 = nI (48 + p % 10) := by rw [e]; rfl
  have f7 : gi S' u 7 = nI (48 + q / 10) := by rw [e]; rfl
  have f8 : gi S' u 8 = nI (48 + q % 10) := by rw [e]; rfl
  have f9 : gi S' u 9 = 59 := by rw [e]; rfl
  have v10 := Nat.div_add_mod v 10
  have p10 := Nat.div_add_mod p 10
  have q10 := Nat.div_add_mod q 10
  obtain ⟨X, s', t1, t2, t3⟩ := T_tell (xL := xL) (xs := xs) (RW_IC R8 u183 c) (RW_d R8 h10) (by rw [R8.2.2]; exact ut) (a := a) (v1 := v / 10) (v2 := v % 10) (p1 := p / 10) (p2 := p % 10) (q1 := q / 10) (q2 := q % 10) f0 (by rw [f1]; exact w1) (by rw [f2]; exact hs) ⟨by omega, f3⟩ ⟨by omega, f4⟩ ⟨by omega, f5⟩ ⟨by omega, f6⟩ ⟨by omega, f7⟩ ⟨by omega, f8⟩ f9 ha (by omega) (by omega) hk
  rw [f2, v10, p10, q10] at t2
  rw [t1, Option.bind_some, if_pos rfl, nI_pre]
  exact ⟨S', X, s', rfl, R8, t3, t2⟩
theorem addP_10 (T : TT) (c s v w h : Int32) : tF (addP T c s v w h) 10 = upd (tF T 10) (tk T) s := by
  show uD (uD (uD (uD (uD (tF T) 9 (tk T) c) 10 (tk T) s) 11 (tk T) v) 12 (tk T) w) 13 (tk T) h 10 = _
  rw [uD_n _ _ _ (by decide), uD_n _ _ _ (by decide), uD_n _ _ _ (by decide), uD_s, uD_n _ _ _ (by decide)]
theorem ite_ex {α : Type} {c : Prop} [Decidable c] {P : Int32 → Prop} (f : Int32 → α) {a b : Int32} (ha : P a) (hb : P b) : ∃ x, P x ∧ (if c then f a else f b) = f x := by
  by_cases h : c
  · exact ⟨a, ha, if_pos h⟩
  · exact ⟨b, hb, if_neg h⟩
set_option maxHeartbeats 4000000 in
theorem P_step (hL : xL ≤ 260) (c : IC S (T, im, sh)) (l : LV S T) {j : Nat} (hj : tk T + (j + 1) ≤ 3) :
    ∃ X T' sh', b_L_begin_777 xL xs 0 (nI (j + 1)) S = some (.inl (0, nI j, X)) ∧ IC X (T', im, sh') ∧ LV X T' ∧ tk T' = tk T + 1 := by
  have j31 : j + 1 < 2 ^ 31 := by omega
  have t31 : tk T < 2 ^ 31 := by omega
  have t4 : tk T < 4 := by omega
  unfold b_L_begin_777
  rw [show ((0 : Int32) + 38) + nI (j + 1) = nI (38 + (j + 1)) by rw [show (0 : Int32) + 38 = nI 38 from rfl, nI_add], if_neg (show ¬ nI (j + 1) ≤ 0 from nI_ge (a := 0) (Nat.succ_pos j) j31), cell_n hL (by omega), Option.bind_some, cv_and]
  have hx := sn_lt xL xs (38 + (j + 1))
  generalize sn xL xs (38 + (j + 1)) = x at hx ⊢
  have d6 : nI x / 6 = nI (x / 6) := dvn 6 6 rfl hx (by decide) (by decide)
  have d1080 : nI x / 1080 = nI (x / 1080) := dvn 1080 1080 rfl hx (by decide) (by decide)
  have d108 : nI x / 108000 = nI (x / 108000) := dvn 108000 108000 rfl hx (by decide) (by decide)
  rw [rmn 3 3 rfl hx (by decide) (by decide)]
  have a3 : x % 3 < 3 := Nat.mod_lt _ (by decide)
  generalize x % 3 = aa at a3 ⊢
  rw [gd_t (decide_eq_true c.1), nm_eq, nm_eq]
  have N0 := NV_san c.1 5
  have ck := c.1
  obtain ⟨k, hk⟩ : ∃ k, k = tp S := ⟨_, rfl⟩
  rw [← hk] at N0 ck ⊢
  generalize san S 5 = S5 at N0 ⊢
  rw [st_i (NEW_d N0.1) (by decide), tz0]
  have N1 := NV_si N0 0 (nI aa)
  generalize si S5 k 0 (nI aa) = S9 at N1 ⊢
  obtain ⟨sg, hsg, esg⟩ := ite_ex (c := (nI x / 3 - nI x / 3 / 2 * 2 : Int32) = 0) (P := fun z => z = 1 ∨ z = -1) (fun z => b_L_begin_824 xL xs 0 (nI (j + 1)) (nI x) z 1 k k S9) (a := 1) (b := -1) (Or.inl rfl) (Or.inr rfl)
  rw [esg]
  unfold b_L_begin_824
  rw [st_i (NEW_d N1.1) (by decide), tz1]
  have N2 := NV_si N1 1 sg
  generalize si S9 k 1 sg = S10 at N2 ⊢
  rw [st_i (NEW_d N2.1) (by decide), tz2, d6, rmn 60 60 rfl (show x / 6 < 2147483648 by omega) (by decide) (by decide), show (1 : Int32) = nI 1 from rfl, nI_add]
  have v60 : x / 6 % 60 < 60 := Nat.mod_lt _ (by decide)
  generalize x / 6 % 60 = vv at v60 ⊢
  have N3 := NV_si N2 2 (nI (1 + vv))
  generalize si S10 k 2 (nI (1 + vv)) = S11 at N3 ⊢
  obtain ⟨sp, ⟨pp, hpp, rfl⟩, esp⟩ := ite_ex (c := (nI x / 360 - nI x / 360 / 3 * 3 : Int32) = 0) (P := fun z => ∃ q, q < 100 ∧ z = nI q) (fun z => b_L_begin_872 xL xs 0 (nI (j + 1)) (nI x) z 3 k k S11) (a := nI x / 1080 - nI x / 1080 / 100 * 100) (b := nI x / 1080 - nI x / 1080 / 12 * 12)
    ⟨x / 1080 % 100, Nat.mod_lt _ (by decide), by rw [d1080, rmn 100 100 rfl (show x / 1080 < 2147483648 by omega) (by decide) (by decide)]⟩ ⟨x / 1080 % 12, Nat.lt_trans (Nat.mod_lt _ (by decide)) (by decide), by rw [d1080, rmn 12 12 rfl (show x / 1080 < 2147483648 by omega) (by decide) (by decide)]⟩
  rw [esp]
  unfold b_L_begin_872
  rw [st_i (NEW_d N3.1) (by decide), tz3]
  have N4 := NV_si N3 3 (nI pp)
  generalize si S11 k 3 (nI pp) = S12 at N4 ⊢
  rw [st_i (NEW_d N4.1) (by decide), tz4, d108, rmn 24 24 rfl (show x / 108000 < 2147483648 by omega) (by decide) (by decide)]
  have q24 : x / 108000 % 24 < 24 := Nat.mod_lt _ (by decide)
  generalize x / 108000 % 24 = qq at q24 ⊢
  have N5 := NV_si N4 4 (nI qq)
  generalize si S12 k 4 (nI qq) = S8 at N5 ⊢
  clear N0 N1 N2 N3 N4
  obtain ⟨l1, l3, l5, lk, lp, lt⟩ := id l
  have e5 : gi S8 136 5 = nI (tk T) := by rw [NV_o N5 (by omega)]; exact l5
  rw [e5, gd_t (inb_n t4), NEW_d N5.1, Option.bind_some, tn_n t31, nm_eq, nm_eq]
  have c8 := NEW_IC N5.1 c
  obtain ⟨SC, hC⟩ : ∃ X, X = si (sr S8 152 (tk T) (some k)) 136 5 (gi (sr S8 152 (tk T) (some k)) 136 5 + 1) := ⟨_, rfl⟩
  rw [← hC]
  have oC : ∀ a, a ≠ 136 → gi SC a = gi S8 a := fun a ha => by rw [hC]; exact gi_si_n _ _ _ ha
  have o136 : gi SC 136 = upd (gi S8 136) 5 (gi S8 136 5 + 1) := by rw [hC]; exact gi_si_s _ _ _ _
  have rC : ∀ a, a ≠ 152 → gr SC a = gr S8 a := fun a ha => by rw [hC]; exact gr_sr_n _ _ _ ha
  have r152 : gr SC 152 = va_up (gr S8 152) (tk T) (some k) := by rw [hC]; exact gr_sr_s _ _ _ _
  have pC : ∀ a, gp SC a = gp S8 a := fun a => by rw [hC]; rfl
  have tC : tp SC = k + 1 := by rw [hC]; exact N5.1.2.2.1
  clear hC
  have dyC : ∀ q, 183 ≤ q → dyl SC q = dyl S8 q := fun q hq => dyl_loc (pC q) (rC q (by omega))
  have cC : IC SC (T, im, sh) := IC_B c8 (fun a ha => ⟨oC a (by omega), rC a (by omega)⟩) (fun q _ => pC q) (by rw [tC, N5.1.2.2.1]; exact Nat.le_refl _)
  rw [gd_t (decide_eq_true cC.1), nm_eq, nm_eq]
  have M0 := NV_san cC.1 10
  rw [tC] at M0 ⊢
  generalize san SC 10 = SD at M0 ⊢
  rw [st_i (NEW_d M0.1) (by decide), tz0]
  have M1 := NV_si M0 0 116
  generalize si SD (k + 1) 0 116 = SE at M1 ⊢
  have k1 : k ≠ k + 1 := by omega
  have dk : dyl SE k = some 5 := by rw [NV_dy M1 k1, dyC k ck]; exact NEW_d N5.1
  have gk : gi SE k = upd (upd (upd (upd (upd (fun _ => 0) 0 (nI aa)) 1 sg) 2 (nI (1 + vv))) 3 (nI pp)) 4 (nI qq) := by rw [NV_o M1 k1, oC k (by omega)]; exact N5.2
  rw [ld_i dk (by decide), st_i (NEW_d M1.1) (by decide), tz1, gk, show upd (upd (upd (upd (upd (fun _ => 0) 0 (nI aa)) 1 sg) 2 (nI (1 + vv))) 3 (nI pp)) 4 (nI qq) 0 = nI aa from rfl, show (48 : Int32) = nI 48 from rfl, nI_add]
  have M2 := NV_si M1 1 (nI (48 + aa))
  generalize si SE (k + 1) 1 (nI (48 + aa)) = SF at M2 ⊢
  clear gk dk M1 M0
  have dk : dyl SF k = some 5 := by rw [NV_dy M2 k1, dyC k ck]; exact NEW_d N5.1
  have gk : gi SF k = upd (upd (upd (upd (upd (fun _ => 0) 0 (nI aa)) 1 sg) 2 (nI (1 + vv))) 3 (nI pp)) 4 (nI qq) := by rw [NV_o M2 k1, oC k (by omega)]; exact N5.2
  have g1 : gi SF k 1 = sg := by rw [gk]; rfl
  have g2 : gi SF k 2 = nI (1 + vv) := by rw [gk]; rfl
  have g3 : gi SF k 3 = nI pp := by rw [gk]; rfl
  have g4 : gi SF k 4 = nI qq := by rw [gk]; rfl
  rw [ld_i dk (by decide), g1]
  obtain ⟨s0, ⟨hs0, hs1⟩, es⟩ : ∃ s0 : Int32, ((s0 = 43 ∨ s0 = 45) ∧ (if s0 = 45 then (-1 : Int32) else 1) = sg) ∧ (if sg ≤ 0 then b_L_begin_942 xL xs 0 (nI (j + 1)) k 45 2 (k + 1) (k + 1) SF else b_L_begin_942 xL xs 0 (nI (j + 1)) k 43 2 (k + 1) (k + 1) SF) = b_L_begin_942 xL xs 0 (nI (j + 1)) k s0 2 (k + 1) (k + 1) SF := by
    rcases hsg with rfl | rfl
    · exact ⟨43, ⟨Or.inl rfl, by decide⟩, if_neg (by decide)⟩
    · exact ⟨45, ⟨Or.inr rfl, by decide⟩, if_pos (by decide)⟩
  rw [es]
  have cF := NEW_IC M2.1 cC
  have tF' := M2.1.2.2.1
  obtain ⟨S', X, s', y1, y2, y3, y4⟩ := E_942 (xL := xL) (xs := xs) (j := j) (s0 := s0) cF dk (NEW_d M2.1) k1 (by omega) g2 g3 g4 (by rw [M2.2]; rfl) (a := aa) (by rw [M2.2]; exact ⟨by omega, rfl⟩) hs0 (by omega) (by omega) hpp q24 (by omega)
  refine ⟨X, _, s', y1, y4, ?_, rfl⟩
  rw [hs1]
  -- the law's part
  have f1 : ∀ a, a ≠ k + 1 → gi S' a = gi SC a := fun a ha => (y2.1 a ha).trans (NV_o M2 ha)
  have f2 : ∀ a, a ≠ k + 1 → gr S' a = gr SC a := fun a ha => (y2.2.1 a).2.1.trans (NV_r M2 ha)
  have f3 : ∀ q n, q ≠ k + 1 → dyl SC q = some n → dyl S' q = some n := fun q n hq e => RW_d y2 ((NV_dy M2 hq).trans e)
  have lS : LV S' (addP T (nI aa) sg (nI (1 + vv)) (nI pp) (nI qq)) := by
    refine LV_tr l (by rw [y2.2.2]; omega) (fun q h1 h2 => ?_) (fun q n h1 h2 => ?_) ?_ ?_ ?_ (fun a b ha hb => ?_) (fun p hp => Or.inl ⟨hp, ?_, rfl⟩) (fun i hi => ?_)
    · rw [f1 q (by omega), oC q (by omega), NV_o N5 (by omega)]
    · have := dyl_183 h2
      exact f3 q n (by omega) (by rw [dyC q this, NV_dy N5 (by omega)]; exact h2)
    · rw [f1 136 (by omega), o136, upd_n _ _ (by decide), NV_o N5 (by omega)]; exact l1
    · rw [f1 136 (by omega), o136, upd_n _ _ (by decide), NV_o N5 (by omega)]; exact l3
    · rw [f1 136 (by omega), o136, upd_s, e5, nI_1]; rfl
    · rw [f1 _ (by omega), oC _ (by omega), NV_o N5 (by omega)]; exact lk a b ha hb
    · rw [f2 136 (by omega), rC 136 (by decide), NV_r N5 (by omega)]
    · by_cases z : i = tk T
      · refine Or.inr ⟨k, ?_, f3 k 5 k1 ((dyC k ck).trans (NEW_d N5.1)), by rw [y2.2.2]; omega, ?_⟩
        · rw [f2 152 (by omega), r152, z]; exact if_pos rfl
        · rw [f1 k k1, oC k (by omega), N5.2, z]
          rw [addP_10, upd_s]
          rfl
      · have hi' : i < tk T := by
          have : i < tk T + 1 := hi
          omega
        refine Or.inl ⟨hi', ?_, ?_⟩
        · rw [f2 152 (by omega), r152, ← NV_r N5 (a := 152) (by omega)]; exact if_neg z
        · rw [addP_10, upd_n _ _ z]
  exact LV_B lS y3
theorem P_loop (hL : xL ≤ 260) (c : IC S (T, im, sh)) (l : LV S T) {j : Nat} (hj : tk T + j ≤ 3) :
    ∃ X T' sh', lp 5 (l_L_begin_777 xL xs) (0, nI j, S) = some (1, X) ∧ IC X (T', im, sh') ∧ LV X T' := by
  have key := lp_inv (body := l_L_begin_777 xL xs) (I := fun n x => ∃ Y T' s', x = (0, nI (j - n), Y) ∧ IC Y (T', im, s') ∧ LV Y T' ∧ tk T' + (j - n) ≤ 3)
    (Q := fun r => r.1 = 1 ∧ ∃ T' s', IC r.2 (T', im, s') ∧ LV r.2 T') (m := j) (fun n x hn hI => by
      obtain ⟨Y, T', s', rfl, cY, lY, h3⟩ := hI
      unfold l_L_begin_777
      dsimp only
      rcases Nat.lt_or_ge n j with nj | nj
      · right
        obtain ⟨i, hi⟩ : ∃ i, j - n = i + 1 := ⟨j - n - 1, by omega⟩
        rw [hi] at h3 ⊢
        obtain ⟨X, T2, s2, x1, x2, x3, x4⟩ := P_step (xs := xs) hL cY lY h3
        refine ⟨nj, _, x1, X, T2, s2, ?_, x2, x3, by omega⟩
        rw [show j - (n + 1) = i by omega]
      · left
        rw [show j - n = 0 by omega]
        unfold b_L_begin_777
        rw [if_pos (show nI 0 ≤ (0 : Int32) from Int32.le_refl _)]
        exact ⟨_, rfl, rfl, T', s', cY, lY⟩)
  obtain ⟨r, r1, r2, T', s', r3, r4⟩ := key 5 0 (0, nI j, S) (Nat.zero_le _) (by omega) ⟨S, T, sh, rfl, c, l, hj⟩
  obtain ⟨r0, X⟩ := r
  dsimp only at r2 r3 r4
  subst r2
  exact ⟨X, T', s', r1, r3, r4⟩
end PLANTS
