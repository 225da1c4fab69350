/-! Numbers out of the script; what is new among the later cells; a PLANT told. -/
theorem lp_2 {α β : Type} {n : Nat} {body : α → Option (α ⊕ β)} {x y : α} {b : β} (h : body x = some (.inl y)) (h2 : body y = some (.inr b)) : lp (n + 2) body x = some b := by
  simp only [lp, h, h2, Option.bind_some]
def cv (xL : Nat) (xs : Nat → Int32) (j : Nat) : Int32 := if xL ≤ j then 790386105 * (nI j + 1) else xs j
def sn (xL : Nat) (xs : Nat → Int32) (j : Nat) : Nat := (cv xL xs j).toBitVec.toNat % 2 ^ 31
theorem sn_lt (xL : Nat) (xs : Nat → Int32) (j : Nat) : sn xL xs j < 2147483648 := Nat.mod_lt _ (by decide)
theorem cv_and (xL : Nat) (xs : Nat → Int32) (j : Nat) : cv xL xs j &&& 2147483647 = nI (sn xL xs j) := pk_and _ 31 (by decide)
theorem cell_n {xL : Nat} {xs : Nat → Int32} {S : St} (hL : xL ≤ 260) {j : Nat} (hj : j < 1000) : L_L_cell xL xs (nI j) S = some (cv xL xs j) := by
  unfold L_L_cell b_L_cell_0 cv
  rw [show (Int32.ofNat xL : Int32) = nI xL from rfl]
  by_cases h : xL ≤ j
  · rw [if_pos (nI_le h (by omega)), if_pos h]
  · rw [if_neg (nI_ge (Nat.not_le.mp h) (by omega)), if_neg h, gd_t (inb_n (by omega) (by omega)), tn_n (by omega)]
theorem some_n {xL : Nat} {xs : Nat → Int32} {S : St} (hL : xL ≤ 260) {j d : Nat} (hj : j < 1000) (h0 : 0 < d) (hd : d < 1000) : L_L_some xL xs (nI j) (nI d) S = some (nI (sn xL xs j % d)) := by
  have n0 : ¬ nI d = 0 := fun z => by have := (nI_eq (b := 0) (show d < 2 ^ 31 by omega) (by decide)).mp z; omega
  unfold L_L_some b_L_some_0
  rw [cell_n hL hj, Option.bind_some, gd_t (by simpa using n0), cv_and, pk_rem (sn_lt xL xs j) h0 (by omega)]
-- a row that the law has just made
theorem st_i {γ : Type} {S : St} {k n : Nat} {i v : Int32} (h : dyl S k = some n) (hi : inb i n = true) (F : St → Option γ) : ((dyl S k).bind fun n1 => gd (inb i n1) (nm (si S k i.toNatClampNeg v) F)) = F (si S k i.toNatClampNeg v) := by
  rw [h, Option.bind_some, gd_t hi]
  rfl
theorem ld_i {γ : Type} {S : St} {k n : Nat} {i : Int32} (h : dyl S k = some n) (hi : inb i n = true) (F : Option γ) : ((dyl S k).bind fun n1 => gd (inb i n1) F) = F := by
  rw [h, Option.bind_some, gd_t hi]
theorem ld_q {γ : Type} {S : St} {o n k m : Nat} {x i : Int32} (hx : inb x n = true) (hq : gr S o x.toNatClampNeg = some k) (h : dyl S k = some m) (hi : inb i m = true) (F : Nat → Option γ) : gd (inb x n) ((gr S o x.toNatClampNeg).bind fun q => (dyl S q).bind fun n1 => gd (inb i n1) (F q)) = F k := by
  rw [gd_t hx, hq, Option.bind_some, h, Option.bind_some, gd_t hi]
/-- k is a new row of n ints, all else is as it was -/
def NEW (S0 : St) (k n : Nat) (S : St) : Prop := k = tp S0 ∧ 183 ≤ k ∧ tp S = k + 1 ∧ (∀ a, a ≠ k → gi S a = gi S0 a ∧ gl S a = gl S0 a ∧ gr S a = gr S0 a ∧ gp S a = gp S0 a) ∧ dyl S k = some n
theorem NEW_san {S0 : St} (h : 183 ≤ tp S0) (n : Nat) : NEW S0 (tp S0) n (san S0 n) := ⟨rfl, h, rfl, fun a ha => ⟨if_neg ha, rfl, if_neg ha, if_neg ha⟩, dyl_san S0 n h⟩
theorem NEW_si {S0 S : St} {k n : Nat} (h : NEW S0 k n S) (i : Nat) (v : Int32) : NEW S0 k n (si S k i v) := ⟨h.1, h.2.1, h.2.2.1, fun a ha => ⟨(gi_si_n _ _ _ ha).trans (h.2.2.2.1 a ha).1, (h.2.2.2.1 a ha).2⟩, h.2.2.2.2⟩
theorem NEW_d {S0 S : St} {k n : Nat} (h : NEW S0 k n S) : dyl S k = some n := h.2.2.2.2
theorem dyl_loc {S S' : St} {q : Nat} (h1 : gp S' q = gp S q) (h2 : gr S' q = gr S q) : dyl S' q = dyl S q := by unfold dyl; rw [h1, h2]
section IB
variable {S S' : St} {T : TT} {im : Option TT} {sh : Nat → Sh}
/-- the class's part, when no cell of its own changed -/
theorem IC_B (c : IC S (T, im, sh)) (o : ∀ a, a < 86 → gi S' a = gi S a ∧ gr S' a = gr S a) (h2 : ∀ q, q < tp S → gp S' q = gp S q) (h3 : tp S ≤ tp S') : IC S' (T, im, sh) :=
  IC_town c.2.1 (repC_old c.2.1 c.2.2.2.1 (fun a h1 h2 => o a (by omega)) h2 c.2.2.1) (full_congr (o 2 (by omega)).2 h2 h3 c.2.2.2.1) (fun a ha => o a (by omega)) h2 h3 c
theorem NEW_IC {k n : Nat} (h : NEW S k n S') (c : IC S (T, im, sh)) : IC S' (T, im, sh) := by
  obtain ⟨h1, h2, h3, h4, -⟩ := h
  exact IC_B c (fun a ha => ⟨(h4 a (by omega)).1, (h4 a (by omega)).2.2.1⟩) (fun q hq => (h4 q (by omega)).2.2.2) (by omega)
theorem B_dyl (h : UpB S S') {q n : Nat} (hq : q < tp S) (e : dyl S q = some n) : dyl S' q = some n := by
  have h183 := dyl_183 e
  rw [dyl_loc (h.2.1 q hq) (h.1 q (by omega)).2.2]
  exact e
end IB
section TOWN
variable {S : St} {T : TT} {im : Option TT} {sh : Nat → Sh}
def dg (x : Int32) (d : Nat) : Prop := d < 10 ∧ x = nI (48 + d)
theorem dg_fit {x : Int32} {d : Nat} (h : dg x d) : fitsB 48 x = true := by
  obtain ⟨h1, rfl⟩ := h
  unfold fitsB
  rw [if_neg (by decide), if_pos rfl, Bool.and_eq_true]
  exact ⟨decide_eq_true (nI_le (a := 48) (by omega) (by omega)), decide_eq_true (nI_le (b := 57) (by omega) (by decide))⟩
theorem dg_sub {x : Int32} {d : Nat} (h : dg x d) : x - 48 = nI d := by
  obtain ⟨h1, rfl⟩ := h
  rw [show (48 : Int32) = nI 48 from rfl, pk_sub (by omega)]
  congr 1
  omega
set_option maxRecDepth 10000 in
theorem K_town (c : IC S (T, im, sh)) {w : Nat → Int32} {a v1 v2 p1 p2 q1 q2 : Nat} (h1 : (sh 7).1 = 2) (h2 : (sh 7).2.2 = ((0, 10), w)) (w0 : w 0 = 116) (w1 : dg (w 1) a) (ws : w 2 = 43 ∨ w 2 = 45) (w3 : dg (w 3) v1) (w4 : dg (w 4) v2) (w5 : dg (w 5) p1) (w6 : dg (w 6) p2) (w7 : dg (w 7) q1) (w8 : dg (w 8) q2) (w9 : w 9 = 59)
    (ha : a < 4) (hv : 1 ≤ 10 * v1 + v2 ∧ 10 * v1 + v2 ≤ 60) (hh : 10 * q1 + q2 < 24) (hk : tk T < 3) :
    ∃ X, L_X11_town (nI 7) S = some (1, X) ∧ IC X (addP T (nI a) (if w 2 = 45 then -1 else 1) (nI (10 * v1 + v2)) (nI (10 * p1 + p2)) (nI (10 * q1 + q2)), im, sh) ∧ UpB S X := by
  have hd : 7 < 8 := by decide
  have rc := rowC_of c hd h1
  have eW : (sh 7).2.2.2 = w := by rw [h2]
  have eN : (sh 7).2.2.1.2 = 10 := by rw [h2]
  have e0 : (sh 7).2.2.1.1 = 0 := by rw [h2]
  have c0 : chW w 10 0 = 116 := by unfold chW; rw [if_pos (by decide), w0]
  have z2 : shW w 10 0 = 2 := by unfold shW; rw [c0]; decide
  have sl : slz 2 = 9 := by decide
  have ch : ∀ i, i < 10 → chW w 10 i = w i := fun i hi => by unfold chW; rw [if_pos hi]
  have fit : ∀ i, i < 9 → fW w 10 0 i = true := by
    intro i hi
    unfold fW
    rw [z2, ch _ (by omega)]
    rcases (show i = 0 ∨ i = 1 ∨ i = 2 ∨ i = 3 ∨ i = 4 ∨ i = 5 ∨ i = 6 ∨ i = 7 ∨ i = 8 by omega) with rfl | rfl | rfl | rfl | rfl | rfl | rfl | rfl | rfl
    · exact dg_fit w1
    · show fitsB 43 (w 2) = true
      rcases ws with e | e <;> rw [e] <;> decide
    · exact dg_fit w3
    · exact dg_fit w4
    · exact dg_fit w5
    · exact dg_fit w6
    · exact dg_fit w7
    · exact dg_fit w8
    · show fitsB 59 (w 9) = true
      rw [w9]; decide
  have msE : msW w 10 0 = 9 := by
    unfold msW
    rw [z2, sl]
    exact ms_u (Nat.le_refl 9) fit (fun z => absurd z (Nat.lt_irrefl 9))
  have ok : okW w 10 0 = true := by
    unfold okW
    rw [msE, z2, sl]
    decide
  have nx : nxW w 10 0 = 10 := by unfold nxW; rw [z2, sl]
  have p0 : psW w 10 0 = 0 := rfl
  have p1' : psW w 10 1 = 10 := by
    show nxW w 10 (psW w 10 0) = 10
    rw [p0, nx]
  have st0 : stW w 10 0 = true := by
    unfold stW
    rw [p1']
    simp
  obtain ⟨X1, x1, x2, x3, x4⟩ := C_become (t := 19) (u := 1) (Or.inl (by decide)) c.2.2.2.1 c.2.1 c.2.2.1
  have hC : CW S X1 T := ⟨UpW_FT (UpW_refl S) x2, c.2.1, x3, x4, c.1⟩
  have rc1 := rowC_up hC.1 hd rc
  obtain ⟨fw, j, f1, st, no, f2⟩ := C_fw rc1
  rw [eW, eN] at st no f2
  have j0 : j = 0 := by
    rcases Nat.eq_zero_or_pos j with z | z
    · exact z
    · have := no 0 z
      rw [st0] at this
      cases this
  subst j0
  rw [p0, ok, if_pos rfl] at f2
  have okB : okW (sh 7).2.2.2 (sh 7).2.2.1.2 0 = true := by rw [eW, eN]; exact ok
  obtain ⟨a', v', p', q', k1, k2, k3, k4, kh, ka, kv, kp, kq⟩ := cr_116 (X := X1) (d := 7) (p := 0) rc1 (by decide) okB (by rw [eW, eN]; unfold hrW; rw [if_pos (by decide), w0])
  rw [eW] at kh ka kv kp kq
  have d1 : ∀ q, dv w q 1 = w q - 48 := fun q => by show 10 * (0 : Int32) + w (q + 0) - 48 = _; rw [Int32.mul_zero, Int32.zero_add]; rfl
  have d2 : ∀ q, dv w q 2 = 10 * (w q - 48) + w (q + 1) - 48 := fun q => by show 10 * dv w q 1 + w (q + 1) - 48 = _; rw [d1]
  have two : ∀ {x y : Int32} {m n : Nat}, dg x m → dg y n → 10 * (x - 48) + y - 48 = nI (10 * m + n) := by
    intro x y m n hx hy
    rw [dg_sub hx, hy.2, show (10 : Int32) = nI 10 from rfl, pk_mul, nI_add, show (48 : Int32) = nI 48 from rfl, pk_sub (by omega)]
    congr 1
    omega
  have ea : nI a' = nI a := by rw [← ka, d1]; exact dg_sub w1
  have ev : nI v' = nI (10 * v1 + v2) := by rw [← kv, d2]; exact two w3 w4
  have ep : nI p' = nI (10 * p1 + p2) := by rw [← kp, d2]; exact two w5 w6
  have eq : nI q' = nI (10 * q1 + q2) := by rw [← kq, d2]; exact two w7 w8
  have esv : sv w (0 + 1 + 1) = if w 2 = 45 then -1 else 1 := rfl
  rw [ea, ev, ep, eq, esv] at kh
  have l1 := w5.1
  have l2 := w6.1
  have okp : okP (nI a) (nI (10 * v1 + v2)) (nI (10 * p1 + p2)) (nI (10 * q1 + q2)) :=
    ⟨⟨nI_pos' (by omega), nI_le (b := 3) (by omega) (by decide)⟩, ⟨nI_le (a := 1) hv.1 (by omega), nI_le (b := 60) hv.2 (by decide)⟩, ⟨nI_pos' (by omega), nI_le (b := 99) (by omega) (by decide)⟩, nI_pos' (by omega), nI_le (b := 23) (by omega) (by decide)⟩
  obtain ⟨-, -, pp⟩ := C_addPlant (Or.inr (Or.inl rfl)) hC.2.1 hC.2.2.1 (nI a) (if w 2 = 45 then -1 else 1) (nI (10 * v1 + v2)) (nI (10 * p1 + p2)) (nI (10 * q1 + q2))
  obtain ⟨X2, y1, y2, y3⟩ := pp okp hk
  rw [y1] at kh
  have hs1 : (if w 2 = 45 then (-1 : Int32) else 1) = 1 ∨ (if w 2 = 45 then (-1 : Int32) else 1) = -1 := by
    by_cases z : w 2 = 45
    · rw [if_pos z]; exact Or.inr rfl
    · rw [if_neg z]; exact Or.inl rfl
  have hW2 := WT_addP c.2.1 okp hs1 hk
  have hC2 : CW S X2 (addP T (nI a) (if w 2 = 45 then -1 else 1) (nI (10 * v1 + v2)) (nI (10 * p1 + p2)) (nI (10 * q1 + q2))) := CW_FR hC hW2 y2 y3
  have rc2 := rowC_up hC2.1 hd rc
  have b1 : l_hr_20 19 (70 + 2 * 7) (0, 0, X1) = some (.inl (1, nI 10, X2)) := by
    unfold l_hr_20
    dsimp only
    have a0 := at_W rc2 (i := 0) (by decide)
    rw [eW, eN, c0] at a0
    rw [rc1.2.2.1, eN, if_neg (by decide), show L_X10_hearStatement 19 (70 + 2 * 7) 0 X1 = some (nI (tk T), X2) from kh, Option.bind_some, if_pos (nI_pos' (by omega)), show L_X8_at (70 + 2 * 7) 0 X2 = some 116 from a0, Option.bind_some]
    rfl
  have b2 : l_hr_20 19 (70 + 2 * 7) (1, nI 10, X2) = some (.inr (1, X2)) := by
    unfold l_hr_20
    dsimp only
    rw [rc2.2.2.1, eN, if_pos (Int32.le_refl _)]
  have hear : L_X10_hear 19 (70 + 2 * 7) X1 = some (1, X2) := by
    unfold L_X10_hear
    rw [f1, Option.bind_some, f2, if_pos (by decide)]
    exact lp_2 (n := 38) b1 b2
  obtain ⟨X3, z1, z2', z3, z4⟩ := C_become (t := 1) (u := 19) (Or.inr (by decide)) hC2.2.2.2.1 hC2.2.1 hC2.2.2.1
  have o : ∀ a, (a = 0 ∨ 37 ≤ a ∧ a < 55 ∨ 66 ≤ a ∧ a < 86 ∨ 136 ≤ a) → gi X3 a = gi S a ∧ gr X3 a = gr S a := fun a ha => by
    have h1 := z2'.1 a (fun z => by have := z.1; have := z.2; omega)
    have h2 := hC2.1.1 a (by omega)
    exact ⟨h1.1.trans h2.1, h1.2.trans h2.2⟩
  refine ⟨X3, ?_, ?_, fun a ha => ⟨(o a (by omega)).1, (z2'.2.1 a).trans (hC2.1.2.1 a), (o a (by omega)).2⟩, fun q hq => (z2'.2.2.1 q).trans (hC2.1.2.2.1 q hq), by rw [z2'.2.2.2]; exact hC2.1.2.2.2⟩
  · have rf : refS (sh 7) 2 = 0 := by unfold refS; rw [if_neg (by omega), if_pos h1]
    unfold L_X11_town
    rw [show (2 : Int32) = nI 2 from rfl, C_sr c hd (by decide), Option.bind_some, rf, if_pos rfl, gd_t (inb_n hd), tn_n (show 7 < 2 ^ 31 by decide), rc.1, e0, if_pos (show nI 0 = 0 from rfl), x1, Option.bind_some, hear, Option.bind_some, if_neg (show ¬ (1 : Int32) < 0 by decide), z1, Option.bind_some]
  · exact IC_town hC2.2.1 z3 z4 (fun a ha => o a (by omega)) (fun q hq => (z2'.2.2.1 q).trans (hC2.1.2.2.1 q hq)) (by rw [z2'.2.2.2]; exact hC2.1.2.2.2) c
end TOWN
