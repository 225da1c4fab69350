/-! One chooses and thinks again: the class's side. -/
/-- ints at the places in P alone have changed -/
def FR (P : Nat → Prop) (S S' : St) : Prop := (∀ a, ¬ P a → gi S' a = gi S a) ∧ S'.2 = S.2
theorem FR_refl {P : Nat → Prop} (S : St) : FR P S S := ⟨fun _ _ => rfl, rfl⟩
theorem FR_si {P : Nat → Prop} {S S' : St} {k : Nat} (hk : P k) (h : FR P S S') (i : Nat) (v : Int32) : FR P S (si S' k i v) := ⟨fun a ha => by rw [gi_si_n S' i v (fun e : a = k => ha (e ▸ hk))]; exact h.1 a ha, h.2⟩
theorem FR_tr {P : Nat → Prop} {S S' S'' : St} (h1 : FR P S S') (h2 : FR P S' S'') : FR P S S'' := ⟨fun a ha => (h2.1 a ha).trans (h1.1 a ha), h2.2.trans h1.2⟩
theorem FR_gr {P : Nat → Prop} {S S' : St} (h : FR P S S') (a : Nat) : gr S' a = gr S a := by unfold gr; rw [h.2]
theorem FR_gp {P : Nat → Prop} {S S' : St} (h : FR P S S') (a : Nat) : gp S' a = gp S a := by unfold gp; rw [h.2]
theorem FR_gl {P : Nat → Prop} {S S' : St} (h : FR P S S') (a : Nat) : gl S' a = gl S a := by unfold gl; rw [h.2]
theorem FR_tp {P : Nat → Prop} {S S' : St} (h : FR P S S') : tp S' = tp S := by unfold tp; rw [h.2]
/-- a loop by what holds behind k rounds -/
theorem lp_inv {α β : Type} {body : α → Option (α ⊕ β)} {I : Nat → α → Prop} {Q : β → Prop} {m : Nat} (hstep : ∀ k x, k ≤ m → I k x → (∃ r, body x = some (.inr r) ∧ Q r) ∨ (k < m ∧ ∃ y, body x = some (.inl y) ∧ I (k + 1) y)) : ∀ n k x, k ≤ m → m - k < n → I k x → ∃ r, lp n body x = some r ∧ Q r := by
  intro n
  induction n with
  | zero => intro k x _ h; omega
  | succ n ih =>
    intro k x hk hn hI
    rcases hstep k x hk hI with ⟨r, e, q⟩ | ⟨h, y, e, q⟩
    · exact ⟨r, by simp only [lp, e, Option.bind_some], q⟩
    · obtain ⟨r, e2, q2⟩ := ih (k + 1) y h (by omega) q
      exact ⟨r, by simp only [lp, e, Option.bind_some]; exact e2, q2⟩
def uD (D : Nat → Nat → Int32) (r i : Nat) (v : Int32) : Nat → Nat → Int32 := fun a => if a = r then upd (D r) i v else D a
theorem uD_s (D : Nat → Nat → Int32) (r i : Nat) (v : Int32) : uD D r i v r = upd (D r) i v := if_pos rfl
theorem uD_n (D : Nat → Nat → Int32) {a r : Nat} (i : Nat) (v : Int32) (h : a ≠ r) : uD D r i v a = D a := if_neg h
def sFirst (T : TT) (bit : Nat → Bool) (p : Nat) : Int32 := sKnown T bit p (sDue T p)
def sOwn (T : TT) (bit : Nat → Bool) (p : Nat) : Int32 := kStr (tK T p) (tF T 0 p) (sFirst T bit p)
def sBuy (T : TT) (bit : Nat → Bool) (sh : Bool) (D : Nat → Nat → Int32) (p : Nat) : Int32 × Int32 × Int32 := if sh then (-4, 0, 0) else sBest T D p (sOwn T bit p) (sDue T p) 11
def sChoose (T : TT) (bit : Nat → Bool) (sh : Bool) (D : Nat → Nat → Int32) (p : Nat) : Nat → Nat → Int32 :=
  if 0 ≤ (sBuy T bit sh D p).1 then uD (uD (uD (uD (uD D 0 p (sFirst T bit p)) 2 p (sBuy T bit sh D p).1) 3 p (sBuy T bit sh D p).2.2) 1 p (D 4 (sBuy T bit sh D p).1.toNatClampNeg)) 8 (sBuy T bit sh D p).1.toNatClampNeg (nI p)
  else uD (uD (uD (uD D 0 p (sFirst T bit p)) 2 p (sBuy T bit sh D p).1) 3 p (sBuy T bit sh D p).2.2) 1 p (kSide (sFirst T bit p))
def sAt (T : TT) (p : Nat) : Int32 := if tF T 15 0 < sDue T p + 1 then sDue T p + 1 else tF T 15 0
def sSec (T : TT) (bit : Nat → Bool) (p : Nat) : Int32 := sKnown T bit p (sAt T p)
def sTurns (T : TT) (bit : Nat → Bool) (D : Nat → Nat → Int32) (p : Nat) : Bool := decide (sAt T p ≤ 23) && decide (sSec T bit p ≠ 0) && decide (kSide (sSec T bit p) ≠ D 1 p)
def sThink (T : TT) (bit : Nat → Bool) (D : Nat → Nat → Int32) (p : Nat) : Nat → Nat → Int32 :=
  if sTurns T bit D p then uD (uD (uD (uD D 4 p (kSide (sSec T bit p))) 5 p (kStr (tK T p) (tF T 0 p) (sSec T bit p))) 6 p (sAt T p)) 7 p (kFade (tK T p) (tF T 15 1)) else D
def sStep (T : TT) (bit : Nat → Bool) (sh : Bool) (D : Nat → Nat → Int32) (p : Nat) : Nat → Nat → Int32 := sThink T bit (sChoose T bit sh D p) p
theorem best_of (T : TT) (D : Nat → Nat → Int32) (p : Nat) (own h : Int32) : ∀ k, sBest T D p own h k = (-4, 0, 0) ∨ ∃ u, u < k ∧ sBest T D p own h k = (nI u, sLeft D u h, sPrice T D u h) ∧ sSale T D u h = true ∧ sPrice T D u h ≤ tF T 4 p := by
  intro k
  induction k with
  | zero => exact Or.inl rfl
  | succ k ih =>
    by_cases hw : sWins T D p own h k (sBest T D p own h k) = true
    · refine Or.inr ⟨k, Nat.lt_succ_self k, by rw [sBest, if_pos hw], ?_⟩
      unfold sWins at hw
      simp only [Bool.and_eq_true, decide_eq_true_eq] at hw
      exact ⟨hw.1.1.1.1, hw.1.2⟩
    · have e : sBest T D p own h (k + 1) = sBest T D p own h k := by rw [sBest, if_neg hw]
      rw [e]
      rcases ih with ih | ⟨u, hu, r⟩
      · exact Or.inl ih
      · exact Or.inr ⟨u, Nat.lt_succ_of_lt hu, r⟩
theorem buy_of (T : TT) (bit : Nat → Bool) (sh : Bool) (D : Nat → Nat → Int32) (p : Nat) : sBuy T bit sh D p = (-4, 0, 0) ∨ ∃ u, u < 11 ∧ sBuy T bit sh D p = (nI u, sLeft D u (sDue T p), sPrice T D u (sDue T p)) ∧ sSale T D u (sDue T p) = true ∧ sPrice T D u (sDue T p) ≤ tF T 4 p := by
  unfold sBuy
  cases sh with
  | true => rw [if_pos rfl]; exact Or.inl rfl
  | false => rw [if_neg (by decide)]; exact best_of T D p _ _ 11
def PD (a : Nat) : Prop := 55 ≤ a ∧ a ≤ 65
def CD (S : St) (T : TT) (D : Nat → Nat → Int32) (done : Nat → Prop) : Prop := ∀ p, p < tn T → done p → gi S 57 p = D 0 p ∧ gi S 58 p = D 1 p ∧ gi S 59 p = D 2 p ∧ gi S 60 p = D 3 p
section CHOOSE
variable {S : St} {t : Nat} {T : TT} {bit : Nat → Bool} {D : Nat → Nat → Int32}
theorem CX_D {D' : Nat → Nat → Int32} (e : ∀ r, 4 ≤ r → D' r = D r) (h : CX S t T bit D) : CX S t T bit D' := by
  obtain ⟨a1, a2, a3, a4, a5, a6, a7, a8⟩ := h
  refine ⟨a1, a2, a3, a4, a5, a6, ?_, ?_⟩
  · rw [e 4 (by omega), e 5 (by omega), e 6 (by omega), e 7 (by omega), e 8 (by omega)]; exact a7
  · unfold WD
    rw [e 4 (by omega), e 8 (by omega)]; exact a8
theorem CX_sell (h : CX S t T bit D) {p u : Nat} (hp : p < tn T) : CX (si S 65 u (nI p)) t T bit (uD D 8 u (nI p)) := by
  obtain ⟨a1, a2, a3, a4, a5, a6, a7, a8⟩ := h
  have tl := isTown_lt a2
  refine ⟨a1, a2, a3, repC_congr a2 (fun a ha => gi_si_n _ _ _ (by omega)) (fun _ _ => rfl) (fun _ => rfl) a4, ?_, ?_, fun w hw => ?_, ?_⟩
  · rw [gi_si_n _ _ _ (by decide)]; exact a5
  · rw [gi_si_n _ _ _ (by decide)]; exact a6
  · obtain ⟨b1, b2, b3⟩ := a7 w hw
    rw [gi_si_n S u (nI p) (show (61 : Nat) ≠ 65 by decide), gi_si_n S u (nI p) (show (62 : Nat) ≠ 65 by decide), gi_si_n S u (nI p) (show (63 : Nat) ≠ 65 by decide), gi_si_n S u (nI p) (show (64 : Nat) ≠ 65 by decide), gi_si_s, uD_n D u (nI p) (show (4 : Nat) ≠ 8 by decide), uD_n D u (nI p) (show (5 : Nat) ≠ 8 by decide), uD_n D u (nI p) (show (6 : Nat) ≠ 8 by decide), uD_n D u (nI p) (show (7 : Nat) ≠ 8 by decide), uD_s]
    refine ⟨b1, ?_, b3⟩
    by_cases e : w = u
    · subst e; rw [upd_s, upd_s]
    · rw [upd_n _ _ e, upd_n _ _ e]; exact b2
  · obtain ⟨c1, c2, c3⟩ := a8
    refine ⟨?_, ?_, fun w hw => ?_⟩
    · rw [uD_n _ _ _ (by decide)]; exact c1
    · rw [uD_n _ _ _ (by decide)]; exact c2
    · rw [uD_s]
      by_cases e : w = u
      · subst e; rw [upd_s]; exact Or.inr ⟨p, hp, rfl⟩
      · rw [upd_n _ _ e]; exact c3 w hw
theorem CX_row (h : CX S t T bit D) {u : Nat} (w1 : u < 8 → u < tn T) (w2 : 8 ≤ u → u - 8 < tk T) (a b c d : Int32) : CX (si (si (si (si S 61 u a) 62 u b) 63 u c) 64 u d) t T bit (uD (uD (uD (uD D 4 u a) 5 u b) 6 u c) 7 u d) := by
  obtain ⟨a1, a2, a3, a4, a5, a6, a7, a8⟩ := h
  have tl := isTown_lt a2
  have o : ∀ k, k < 61 ∨ 64 < k → gi (si (si (si (si S 61 u a) 62 u b) 63 u c) 64 u d) k = gi S k := fun k hk => by
    rw [gi_si_n _ _ _ (by omega), gi_si_n _ _ _ (by omega), gi_si_n _ _ _ (by omega), gi_si_n _ _ _ (by omega)]
  have e61 : gi (si (si (si (si S 61 u a) 62 u b) 63 u c) 64 u d) 61 = upd (gi S 61) u a := by
    rw [gi_si_n _ _ _ (by decide), gi_si_n _ _ _ (by decide), gi_si_n _ _ _ (by decide), gi_si_s]
  have e62 : gi (si (si (si (si S 61 u a) 62 u b) 63 u c) 64 u d) 62 = upd (gi S 62) u b := by
    rw [gi_si_n _ _ _ (by decide), gi_si_n _ _ _ (by decide), gi_si_s, gi_si_n _ _ _ (by decide)]
  have e63 : gi (si (si (si (si S 61 u a) 62 u b) 63 u c) 64 u d) 63 = upd (gi S 63) u c := by
    rw [gi_si_n _ _ _ (by decide), gi_si_s, gi_si_n _ _ _ (by decide), gi_si_n _ _ _ (by decide)]
  have e64 : gi (si (si (si (si S 61 u a) 62 u b) 63 u c) 64 u d) 64 = upd (gi S 64) u d := by
    rw [gi_si_s, gi_si_n _ _ _ (by decide), gi_si_n _ _ _ (by decide), gi_si_n _ _ _ (by decide)]
  have d4 : uD (uD (uD (uD D 4 u a) 5 u b) 6 u c) 7 u d 4 = upd (D 4) u a := by
    rw [uD_n _ _ _ (by decide), uD_n _ _ _ (by decide), uD_n _ _ _ (by decide), uD_s]
  have d5 : uD (uD (uD (uD D 4 u a) 5 u b) 6 u c) 7 u d 5 = upd (D 5) u b := by
    rw [uD_n _ _ _ (by decide), uD_n _ _ _ (by decide), uD_s, uD_n _ _ _ (by decide)]
  have d6 : uD (uD (uD (uD D 4 u a) 5 u b) 6 u c) 7 u d 6 = upd (D 6) u c := by
    rw [uD_n _ _ _ (by decide), uD_s, uD_n _ _ _ (by decide), uD_n _ _ _ (by decide)]
  have d7 : uD (uD (uD (uD D 4 u a) 5 u b) 6 u c) 7 u d 7 = upd (D 7) u d := by
    rw [uD_s, uD_n _ _ _ (by decide), uD_n _ _ _ (by decide), uD_n _ _ _ (by decide)]
  have d8 : uD (uD (uD (uD D 4 u a) 5 u b) 6 u c) 7 u d 8 = D 8 := by
    rw [uD_n _ _ _ (by decide), uD_n _ _ _ (by decide), uD_n _ _ _ (by decide), uD_n _ _ _ (by decide)]
  refine ⟨a1, a2, a3, repC_congr a2 (fun k hk => o k (by omega)) (fun _ _ => rfl) (fun _ => rfl) a4, ?_, ?_, fun w hw => ?_, ?_⟩
  · rw [o 55 (by omega)]; exact a5
  · rw [o 56 (by omega)]; exact a6
  · obtain ⟨b1, b2, b3⟩ := a7 w hw
    rw [e61, e62, e63, e64, o 65 (by omega), d4, d5, d6, d7, d8]
    by_cases e : w = u
    · subst e
      simp only [upd_s]
      exact ⟨trivial, b2, fun _ => ⟨trivial, trivial, trivial⟩⟩
    · simp only [upd_n _ _ e]
      exact ⟨b1, b2, b3⟩
  · obtain ⟨c1, c2, c3⟩ := a8
    refine ⟨fun w hw => ?_, fun i hi => ?_, ?_⟩
    · rw [d4]
      by_cases e : w = u
      · subst e; exact fun _ => w1 hw
      · rw [upd_n _ _ e]; exact c1 w hw
    · rw [d4]
      by_cases e : 8 + i = u
      · subst e; exact fun _ => by have := w2 (by omega); omega
      · rw [upd_n _ _ e]; exact c2 i hi
    · rw [d8]; exact c3
theorem C_offer {u : Nat} (hu : u < 11) (a b c d : Int32) (S : St) : L_X2_offer (nI u) a b c d S = some (si (si (si (si S 61 u a) 62 u b) 63 u c) 64 u d) := by
  unfold L_X2_offer b_X2_offer_0
  simp only [gd_t (inb_n hu), tn_n (show u < 2 ^ 31 by omega), nm]
theorem C_choose {done : Nat → Prop} (h : CX S t T bit D) (hd : CD S T D done) {p : Nat} (hp : p < tn T) : ∃ S', ((L_X2_thinkFirst (nI p) S).bind fun a => (L_X2_buyBest (nI p) a).bind fun b => L_X2_choose (nI p) b) = some S' ∧ FR PD S S' ∧ CX S' t T bit (sChoose T bit false D p) ∧ CD S' T (sChoose T bit false D p) (fun q => done q ∨ q = p) := by
  obtain ⟨h1, h2, hW, hR, -, h6, h7, hD⟩ := id h
  have p8 : p < 8 := by have := hW.1; omega
  rw [C_first h hp, Option.bind_some]
  change ∃ S', (L_X2_buyBest (nI p) (si S 57 p (sFirst T bit p))).bind _ = some S' ∧ _
  have h' : CX (si S 57 p (sFirst T bit p)) t T bit D := CX_congr (S := S) (fun a ha => gi_si_n _ _ _ (by omega)) (fun _ => rfl) (fun _ => rfl) h
  rw [C_buy h' hp]
  have g57 : gi (si S 57 p (sFirst T bit p)) 57 p = sFirst T bit p := by rw [gi_si_s, upd_s]
  rw [g57]
  have eB : sBest T D p (kStr (tK T p) (tF T 0 p) (sFirst T bit p)) (sDue T p) 11 = sBuy T bit false D p := by unfold sBuy; rw [if_neg (by decide)]; rfl
  rw [eB]
  have hb := buy_of T bit false D p
  unfold sChoose
  generalize sBuy T bit false D p = b at hb ⊢
  have hc : CX (si (si (si S 57 p (sFirst T bit p)) 59 p b.1) 60 p b.2.2) t T bit D := CX_60 h' p _ _
  have f1 : FR PD S (si (si (si S 57 p (sFirst T bit p)) 59 p b.1) 60 p b.2.2) := FR_si ⟨by decide, by decide⟩ (FR_si ⟨by decide, by decide⟩ (FR_si ⟨by decide, by decide⟩ (FR_refl S) _ _) _ _) _ _
  have j59 : gi (si (si (si S 57 p (sFirst T bit p)) 59 p b.1) 60 p b.2.2) 59 p = b.1 := by rw [gi_si_n _ _ _ (by decide), gi_si_s, upd_s]
  have j57 : gi (si (si (si S 57 p (sFirst T bit p)) 59 p b.1) 60 p b.2.2) 57 p = sFirst T bit p := by rw [gi_si_n _ _ _ (by decide), gi_si_n _ _ _ (by decide), gi_si_s, upd_s]
  rw [Option.bind_some]
  unfold L_X2_choose b_X2_choose_0
  simp only [gd_t (inb_n p8), tn_n (show p < 2 ^ 31 by omega), nm, Option.bind_some, j59, j57, A_side]
  have k57 : ∀ q, gi (si (si (si S 57 p (sFirst T bit p)) 59 p b.1) 60 p b.2.2) 57 q = upd (gi S 57) p (sFirst T bit p) q := fun q => by rw [gi_si_n _ _ _ (by decide), gi_si_n _ _ _ (by decide), gi_si_s]
  have k58 : ∀ q, gi (si (si (si S 57 p (sFirst T bit p)) 59 p b.1) 60 p b.2.2) 58 q = gi S 58 q := fun q => by rw [gi_si_n _ _ _ (by decide), gi_si_n _ _ _ (by decide), gi_si_n _ _ _ (by decide)]
  have k59 : ∀ q, gi (si (si (si S 57 p (sFirst T bit p)) 59 p b.1) 60 p b.2.2) 59 q = upd (gi S 59) p b.1 q := fun q => by rw [gi_si_n _ _ _ (by decide), gi_si_s, gi_si_n _ _ _ (by decide)]
  have k60 : ∀ q, gi (si (si (si S 57 p (sFirst T bit p)) 59 p b.1) 60 p b.2.2) 60 q = upd (gi S 60) p b.2.2 q := fun q => by rw [gi_si_s, gi_si_n _ _ _ (by decide), gi_si_n _ _ _ (by decide)]
  generalize hS5 : si (si (si S 57 p (sFirst T bit p)) 59 p b.1) 60 p b.2.2 = S5 at hc f1 j59 j57 k57 k58 k59 k60 ⊢
  have cd : ∀ (S' : St) (D' : Nat → Nat → Int32) (x : Int32), (∀ q, gi S' 57 q = gi S5 57 q) → (∀ q, gi S' 58 q = upd (gi S5 58) p x q) → (∀ q, gi S' 59 q = gi S5 59 q) → (∀ q, gi S' 60 q = gi S5 60 q) → D' 0 = upd (D 0) p (sFirst T bit p) → D' 1 = upd (D 1) p x → D' 2 = upd (D 2) p b.1 → D' 3 = upd (D 3) p b.2.2 → CD S' T D' (fun q => done q ∨ q = p) := by
    intro S' D' x a1 a2 a3 a4 b1 b2 b3 b4 q hq hdq
    rw [a1, a2, a3, a4, b1, b2, b3, b4, k57, k59, k60]
    by_cases e : q = p
    · subst e; simp only [upd_s]; exact ⟨trivial, trivial, trivial, trivial⟩
    · simp only [upd_n _ _ e, k58]
      exact hd q hq (hdq.resolve_right e)
  rcases hb with rfl | ⟨u, hu, rfl, hs, -⟩
  · rw [if_neg (by decide), if_neg (by decide)]
    refine ⟨_, rfl, FR_si ⟨by decide, by decide⟩ f1 _ _, ?_, ?_⟩
    · refine CX_D (D := D) (fun r hr => by rw [uD_n _ _ _ (by omega), uD_n _ _ _ (by omega), uD_n _ _ _ (by omega), uD_n _ _ _ (by omega)]) ?_
      exact CX_congr (S := S5) (fun a ha => gi_si_n _ _ _ (by omega)) (fun _ => rfl) (fun _ => rfl) hc
    · refine cd _ _ (kSide (sFirst T bit p)) (fun q => by rw [gi_si_n _ _ _ (by decide)]) (fun q => by rw [gi_si_s]) (fun q => by rw [gi_si_n _ _ _ (by decide)]) (fun q => by rw [gi_si_n _ _ _ (by decide)]) ?_ ?_ ?_ ?_ <;> rfl
  · have e0 : (0 : Int32) ≤ nI u := nI_pos' (by omega)
    have e61 : gi S5 61 u = D 4 u := (hc.2.2.2.2.2.2.1 u hu).1
    simp only [if_pos e0, gd_t (inb_n hu), tn_n (show u < 2 ^ 31 by omega), e61]
    refine ⟨_, rfl, FR_si ⟨by decide, by decide⟩ (FR_si ⟨by decide, by decide⟩ f1 _ _) _ _, ?_, ?_⟩
    · have hq : CX (si S5 58 p (D 4 u)) t T bit (uD (uD (uD (uD D 0 p (sFirst T bit p)) 2 p (nI u)) 3 p (sPrice T D u (sDue T p))) 1 p (D 4 u)) := by
        refine CX_D (D := D) (fun r hr => by rw [uD_n _ _ _ (by omega), uD_n _ _ _ (by omega), uD_n _ _ _ (by omega), uD_n _ _ _ (by omega)]) ?_
        exact CX_congr (S := S5) (fun a ha => gi_si_n _ _ _ (by omega)) (fun _ => rfl) (fun _ => rfl) hc
      exact CX_sell hq hp
    · refine cd _ _ (D 4 u) (fun q => by rw [gi_si_n _ _ _ (by decide), gi_si_n _ _ _ (by decide)]) (fun q => by rw [gi_si_n _ _ _ (by decide), gi_si_s]) (fun q => by rw [gi_si_n _ _ _ (by decide), gi_si_n _ _ _ (by decide)]) (fun q => by rw [gi_si_n _ _ _ (by decide), gi_si_n _ _ _ (by decide)]) ?_ ?_ ?_ ?_ <;> rfl
theorem C_think {done : Nat → Prop} (h : CX S t T bit D) (hd : CD S T D done) {p : Nat} (hp : p < tn T) (hdp : done p) : ∃ S', L_X2_thinkAgain (nI p) S = some S' ∧ FR PD S S' ∧ CX S' t T bit (sThink T bit D p) ∧ CD S' T (sThink T bit D p) done := by
  obtain ⟨h1, h2, hW, hR, -, h6, h7, hD⟩ := id h
  have p8 : p < 8 := by have := hW.1; omega
  have e56 : gi S 56 p = sDue T p := h6 p hp
  have er := hR.2.2.2.2.2.2.2
  have e0 : gi S (t + 17) ((0 : Int32)).toNatClampNeg = tF T 15 0 := er 0 (by decide)
  have e1 : gi S (t + 17) ((1 : Int32)).toNatClampNeg = tF T 15 1 := er 1 (by decide)
  have hw := C_weight h
  obtain ⟨⟨q, r1, r2⟩, r3, -, r5, -⟩ := hR.2.2.2.1 p hp
  have hk := (hW.2.2.2.1 p hp).1
  have e58 := (hd p hp hdp).2.1
  unfold L_X2_thinkAgain b_X2_thinkAgain_0
  simp only [h1, Option.bind_some, gd_t (town_b h2), gd_t (show inb 0 3 = true by decide), gd_t (show inb 1 3 = true by decide), gd_t (inb_n p8), tn_n (show p < 2 ^ 31 by omega), e56, e0, e1, r1, r3, r5, hw, V_sum r2 hk, nm]
  change ∃ S', (if sAt T p ≤ 23 then (if sSec T bit p = 0 then _ else _) else _) = some S' ∧ _
  have same : sTurns T bit D p = false → sThink T bit D p = D := fun e => by unfold sThink; rw [e]; rfl
  by_cases c1 : sAt T p ≤ 23
  · rw [if_pos c1]
    by_cases c2 : sSec T bit p = 0
    · rw [if_pos c2, same (by unfold sTurns; simp [c2])]
      exact ⟨S, rfl, FR_refl S, h, hd⟩
    · rw [if_neg c2]
      change ∃ S', (L_X11_sideOf (sSec T bit p) S).bind _ = some S' ∧ _
      rw [A_side]
      simp only [Option.bind_some, e58]
      by_cases c3 : kSide (sSec T bit p) = D 1 p
      · rw [if_pos c3, same (by unfold sTurns; simp [c3])]
        exact ⟨S, rfl, FR_refl S, h, hd⟩
      · rw [if_neg c3]
        have tr : sTurns T bit D p = true := by unfold sTurns; simp [c1, c2, c3]
        simp only [A_side, V_str r2 hk, Option.bind_some, V_fade r2 hk, C_offer (show p < 11 by omega)]
        refine ⟨_, rfl, FR_si ⟨by decide, by decide⟩ (FR_si ⟨by decide, by decide⟩ (FR_si ⟨by decide, by decide⟩ (FR_si ⟨by decide, by decide⟩ (FR_refl S) _ _) _ _) _ _) _ _, ?_, ?_⟩
        · unfold sThink
          rw [tr, if_pos rfl]
          exact CX_row h (fun _ => hp) (fun q => by omega) _ _ _ _
        · unfold sThink
          rw [tr, if_pos rfl]
          intro w hw hdw
          simp only [gi_si_n _ _ _ (show (57 : Nat) ≠ 61 by decide), gi_si_n _ _ _ (show (57 : Nat) ≠ 62 by decide), gi_si_n _ _ _ (show (57 : Nat) ≠ 63 by decide), gi_si_n _ _ _ (show (57 : Nat) ≠ 64 by decide), gi_si_n _ _ _ (show (58 : Nat) ≠ 61 by decide), gi_si_n _ _ _ (show (58 : Nat) ≠ 62 by decide), gi_si_n _ _ _ (show (58 : Nat) ≠ 63 by decide), gi_si_n _ _ _ (show (58 : Nat) ≠ 64 by decide), gi_si_n _ _ _ (show (59 : Nat) ≠ 61 by decide), gi_si_n _ _ _ (show (59 : Nat) ≠ 62 by decide), gi_si_n _ _ _ (show (59 : Nat) ≠ 63 by decide), gi_si_n _ _ _ (show (59 : Nat) ≠ 64 by decide), gi_si_n _ _ _ (show (60 : Nat) ≠ 61 by decide), gi_si_n _ _ _ (show (60 : Nat) ≠ 62 by decide), gi_si_n _ _ _ (show (60 : Nat) ≠ 63 by decide), gi_si_n _ _ _ (show (60 : Nat) ≠ 64 by decide)]
          exact hd w hw hdw
  · rw [if_neg c1, same (by unfold sTurns; simp [c1])]
    exact ⟨S, rfl, FR_refl S, h, hd⟩
end CHOOSE
