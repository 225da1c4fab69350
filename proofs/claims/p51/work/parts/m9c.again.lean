/-! again: days that go on till nothing changes. -/
def clM (x : Int32) : Int32 := if 9 < x then 9 else if x < -9 then -9 else x
theorem clM_r (x : Int32) : -9 ≤ clM x ∧ clM x ≤ 9 := by
  unfold clM
  by_cases a : 9 < x
  · rw [if_pos a]; exact ⟨by decide, by decide⟩
  · rw [if_neg a]
    by_cases b : x < -9
    · rw [if_pos b]; exact ⟨by decide, by decide⟩
    · rw [if_neg b]; exact ⟨Int32.not_lt.mp b, Int32.not_lt.mp a⟩
theorem clM_c (x : Int32) : (if (-9 : Int32) < (if x < 9 then x else 9) then (if x < 9 then x else 9) else -9) = clM x := by
  unfold clM
  by_cases a : x < 9
  · have na : ¬ 9 < x := Int32.not_lt.mpr (Int32.le_of_lt a)
    simp only [if_pos a, if_neg na]
    by_cases b : -9 < x
    · rw [if_pos b, if_neg (Int32.not_lt.mpr (Int32.le_of_lt b))]
    · rw [if_neg b]
      by_cases c : x < -9
      · rw [if_pos c]
      · rw [if_neg c]
        exact Int32.le_antisymm (Int32.not_lt.mp c) (Int32.not_lt.mp b)
  · have z : (-9 : Int32) < 9 := by decide
    simp only [if_neg a, if_pos z]
    by_cases c : 9 < x
    · rw [if_pos c]
    · have e : x = 9 := Int32.le_antisymm (Int32.not_lt.mp c) (Int32.not_lt.mp a)
      subst e
      decide
theorem clM_d {α : Type} (x : Int32) (f : Int32 → α) : (if (-9 : Int32) ≤ x then (if x ≤ 9 then f x else f 9) else f (-9)) = f (clM x) := by
  unfold clM
  by_cases a : -9 ≤ x
  · rw [if_pos a]
    by_cases b : x ≤ 9
    · rw [if_pos b, if_neg (Int32.not_lt.mpr b), if_neg (Int32.not_lt.mpr a)]
    · rw [if_neg b, if_pos (Int32.not_le.mp b)]
  · have c : x < -9 := Int32.not_le.mp a
    have d : ¬ 9 < x := Int32.not_lt.mpr (Int32.le_of_lt (Int32.lt_of_lt_of_le c (by decide)))
    rw [if_neg a, if_neg d, if_pos c]
def upM (T : TT) (D : Nat → Nat → Int32) : Nat → TT
  | 0 => T
  | j + 1 => wF (upM T D j) 3 j (clM (tF T 3 j + D 4 j))
def Ts (T : TT) : Nat → TT
  | 0 => T
  | k + 1 => upM (Ts T k) (sDay (Ts T k) tt false) (tn T)
theorem upM_n (T : TT) (D : Nat → Nat → Int32) : ∀ j, tn (upM T D j) = tn T := by
  intro j
  induction j with
  | zero => rfl
  | succ j ih => exact ih
theorem upM_m (T : TT) (D : Nat → Nat → Int32) {p : Nat} : ∀ j, j ≤ p → tF (upM T D j) 3 p = tF T 3 p := by
  intro j
  induction j with
  | zero => intro _; rfl
  | succ j ih =>
    intro h
    show tF (wF (upM T D j) 3 j _) 3 p = _
    rw [tF_w, uD_at _ (Or.inr (by omega))]
    exact ih (by omega)
theorem Ts_n (T : TT) : ∀ k, tn (Ts T k) = tn T := by
  intro k
  induction k with
  | zero => rfl
  | succ k ih =>
    show tn (upM (Ts T k) _ (tn T)) = _
    rw [upM_n, ih]
theorem ball_s {P : Nat → Prop} {p : Nat} : (∀ q, q < p + 1 → P q) ↔ (∀ q, q < p → P q) ∧ P p := by
  constructor
  · exact fun h => ⟨fun q hq => h q (by omega), h p (Nat.lt_succ_self p)⟩
  · rintro ⟨h1, h2⟩ q hq
    rcases Nat.eq_or_lt_of_le (Nat.le_of_lt_succ hq) with e | e
    · rw [e]; exact h2
    · exact h1 q e
def alF (n : Nat) (F : Nat → Nat → Int32) (k e : Nat) : Bool := decide (∀ p, p < n → F e p = F k p)
theorem C_alike {X : St} {n k : Nat} {F : Nat → Nat → Int32} (n8 : n ≤ 8) (h19 : gi X 19 0 = nI n) (hk : k ≤ 40) (hF : ∀ e p, e ≤ k → p < n → gi X (87 + e) p = F e p) : ∃ r, L_X11_dayBegunAlike (nI k) X = some r ∧ isL (alF n F k) 0 k r := by
  unfold L_X11_dayBegunAlike b_X11_dayBegunAlike_0
  refine lp_inv (m := k) (I := fun e x => x.1 = nI k ∧ x.2 = nI e ∧ ∀ i, i < e → alF n F k i = false) (fun e x he hI => ?_) 1000 0 _ (Nat.zero_le _) (by omega) ⟨rfl, rfl, fun i hi => absurd hi (Nat.not_lt_zero i)⟩
  obtain ⟨a1, a2⟩ := x
  obtain ⟨e1, e2, e3⟩ := hI
  simp only at e1 e2
  subst e1 e2
  unfold l_X11_dayBegunAlike_2 b_X11_dayBegunAlike_2
  dsimp only
  rcases Nat.lt_or_ge e k with hl | hl
  · rw [if_neg (nI_ge hl (by omega))]
    have key := lp_inv (body := l_X11_dayBegunAlike_12 X) (m := n) (I := fun p x => x = (nI k, nI e, (if ∀ q, q < p → F e q = F k q then 1 else 0), nI p)) (Q := fun r => r = if alF n F k e then .inr (nI e) else .inl (nI k, nI (e + 1))) (fun p x hp hI => ?_) 1000 0 (nI k, nI e, 1, 0) (Nat.zero_le _) (by omega) (by rw [if_pos (fun q hq => absurd hq (Nat.not_lt_zero q))]; rfl)
    · obtain ⟨r, r1, r2⟩ := key
      rw [r1, r2]
      by_cases z : alF n F k e = true
      · rw [if_pos z]
        exact Or.inl ⟨_, rfl, Or.inl ⟨e, Nat.zero_le _, hl, z, fun i _ hi => e3 i hi, rfl⟩⟩
      · rw [if_neg z]
        refine Or.inr ⟨hl, _, rfl, rfl, rfl, fun i hi => ?_⟩
        rcases Nat.eq_or_lt_of_le (Nat.le_of_lt_succ hi) with w | w
        · rw [w]; simpa using z
        · exact e3 i w
    · subst hI
      unfold l_X11_dayBegunAlike_12 b_X11_dayBegunAlike_12
      dsimp only
      rw [h19]
      rcases Nat.lt_or_ge p n with hl2 | hl2
      · refine Or.inr ⟨hl2, ?_⟩
        rw [if_neg (nI_ge hl2 (by omega)), gd_t (inb_n (show e < 41 by omega)), gd_t (inb_n (show p < 8 by omega)), gd_t (inb_n (show k < 41 by omega)), gd_t (inb_n (show p < 8 by omega)), tn_n (show e < 2 ^ 31 by omega), tn_n (show p < 2 ^ 31 by omega), tn_n (show k < 2 ^ 31 by omega), Nat.one_mul, Nat.one_mul, hF e p (by omega) hl2, hF k p (Nat.le_refl _) hl2]
        unfold b_X11_dayBegunAlike_51
        rw [nI_1]
        simp only [ball_s]
        by_cases z : F e p = F k p
        · by_cases w : ∀ q, q < p → F e q = F k q
          · rw [if_pos z, if_pos w, if_pos ⟨w, z⟩]; exact ⟨_, rfl, rfl⟩
          · rw [if_pos z, if_neg w, if_neg (fun q => w q.1)]; exact ⟨_, rfl, rfl⟩
        · by_cases w : ∀ q, q < p → F e q = F k q
          · rw [if_neg z, if_pos w, if_neg (fun q => z q.2)]; exact ⟨_, rfl, rfl⟩
          · rw [if_neg z, if_neg w, if_neg (fun q => w q.1)]; exact ⟨_, rfl, rfl⟩
      · have : p = n := by omega
        subst this
        rw [if_pos (Int32.le_refl _)]
        refine Or.inl ?_
        unfold b_X11_dayBegunAlike_59 alF
        by_cases w : ∀ q, q < p → F e q = F k q
        · rw [if_pos w, if_neg (by decide), decide_eq_true w]
          exact ⟨_, rfl, rfl⟩
        · rw [if_neg w, if_pos rfl, decide_eq_false w, nI_1]
          exact ⟨_, rfl, rfl⟩
  · have : e = k := by omega
    subst this
    rw [if_pos (Int32.le_refl _)]
    exact Or.inl ⟨_, rfl, Or.inr ⟨fun q _ hq => e3 q hq, rfl⟩⟩
/-- the first index, as a value -/
def ls (f : Nat → Bool) : Nat → Int32
  | 0 => -4
  | k + 1 => if f k = true ∧ ls f k < 0 then nI k else ls f k
theorem ls_is (f : Nat → Bool) : ∀ k, k < 2 ^ 31 → isL f 0 k (ls f k) := by
  intro k
  induction k with
  | zero => exact fun _ => isL_0 f
  | succ k ih => exact fun h => isL_up (by omega) (ih (by omega))
def agA (T : TT) (j : Nat) : Int32 := ls (alF (tn T) (fun k => tF (Ts T k) 3) j) j
def agG (T : TT) (j : Nat) : Bool := decide (0 ≤ agA T j)
def agH (T : TT) (what : Int32) (j : Nat) : Int32 := if what = 0 then nI j else agA T j
theorem agA_of {T : TT} {j : Nat} {r : Int32} (hj : j ≤ 40) (h : isL (alF (tn T) (fun k => tF (Ts T k) 3) j) 0 j r) : r = agA T j := isL_u h (ls_is _ _ (by omega))
section AGAIN
variable {S S0 X : St} {T : TT} {im : Option TT} {sh : Nat → Sh}
theorem CE_sc {k n : Nat} (hk : 86 ≤ k ∧ k < 136) (h : CE S X T) : CE S (sc X 24 0 k 0 n) T :=
  ⟨UpD_sc (by omega) h.1, h.2.1, repC_loc (S := X) (fun a h1 h2 => ⟨gi_sc_n _ _ _ _ _ (by omega), rfl⟩) (fun _ => rfl) h.2.2⟩
/-- the moods move, on the class's side -/
theorem C_moods {Y : St} {D : Nat → Nat → Int32} (h : CE S Y T) (hD : ∀ p, p < tn T → gi Y 61 p = D 4 p) (v1 v2 : Int32) : ∃ Z, lp 1000 l_X11_again_90 (v1, v2, 0, Y) = some (.inl (v1, v2 + 1, Z)) ∧ CE S Z (upM T D (tn T)) ∧ ∀ a, a ≠ 24 → gi Z a = gi Y a := by
  have n8 : tn T ≤ 8 := h.2.1.1
  have key := lp_inv (body := l_X11_again_90) (m := tn T) (I := fun j x => x.1 = v1 ∧ x.2.1 = v2 ∧ x.2.2.1 = nI j ∧ CE S x.2.2.2 (upM T D j) ∧ ∀ a, a ≠ 24 → gi x.2.2.2 a = gi Y a) (Q := fun r => ∃ Z, r = .inl (v1, v2 + 1, Z) ∧ CE S Z (upM T D (tn T)) ∧ ∀ a, a ≠ 24 → gi Z a = gi Y a) (fun j x hj hI => ?_) 1000 0 (v1, v2, 0, Y) (Nat.zero_le _) (by omega) ⟨rfl, rfl, rfl, h, fun _ _ => rfl⟩
  · obtain ⟨r, r1, Z, rfl, r2, r3⟩ := key
    exact ⟨Z, r1, r2, r3⟩
  · obtain ⟨a1, a2, a3, Z⟩ := x
    obtain ⟨e1, e2, e3, hC, o⟩ := hI
    simp only at e1 e2 e3 hC o
    subst e1 e2 e3
    have n1 : gi Z 19 0 = nI (tn T) := by rw [hC.2.2.1, upM_n]
    unfold l_X11_again_90 b_X11_again_90
    dsimp only
    rw [n1]
    rcases Nat.lt_or_ge j (tn T) with hl | hl
    · refine Or.inr ⟨hl, ?_⟩
      have m1 : gi Z (19 + 5) j = tF T 3 j := by
        have := (hC.2.2.2.2.2.1 j (by rw [upM_n]; exact hl)).2.2.2.1
        rw [this, upM_m _ _ _ (Nat.le_refl _)]
      rw [if_neg (nI_ge hl (by omega)), gd_t (inb_n (show j < 8 by omega)), gd_t (inb_n (show j < 11 by omega)), tn_n (show j < 2 ^ 31 by omega), m1, o 61 (by decide), hD j hl, nm_eq, nm_eq, gd_t (inb_n (show j < 8 by omega)), nm_eq, clM_c, nI_1]
      refine ⟨_, rfl, rfl, rfl, rfl, CE_put (r := 3) (i := j) hC (by decide) (okV_3 (clM_r _)), fun a ha => ?_⟩
      rw [gi_si_n _ _ _ (show a ≠ 19 + 5 from ha)]
      exact o a ha
    · have : j = tn T := by omega
      subst this
      rw [if_pos (Int32.le_refl _)]
      refine Or.inl ⟨_, rfl, Z, rfl, hC, o⟩
theorem C_again (c : IC S (T, im, sh)) (what : Int32) : ∃ X r, lp 1000 l_X11_again_24 (what, 0, X) = some r ∧ L_X10_become 19 1 S = some X ∧ UpD S r.2 ∧ isLh (agG T) (agH T what) 41 r.1 := by
  have n8 : tn T ≤ 8 := c.2.1.1
  obtain ⟨X, x1, x2⟩ := CE_0 c
  have key := lp_inv (body := l_X11_again_24) (m := 41) (I := fun k x => x.1 = what ∧ x.2.1 = nI k ∧ CE S x.2.2 (Ts T k) ∧ (∀ e p, e < k → p < tn T → gi x.2.2 (87 + e) p = tF (Ts T e) 3 p) ∧ ∀ i, i < k → agG T i = false) (Q := fun r => UpD S r.2 ∧ isLh (agG T) (agH T what) 41 r.1) (fun k x hk hI => ?_) 1000 0 (what, 0, X) (Nat.zero_le _) (by omega) ⟨rfl, rfl, x2, fun e p he => absurd he (Nat.not_lt_zero e), fun i hi => absurd hi (Nat.not_lt_zero i)⟩
  · obtain ⟨r, r1, r2, r3⟩ := key
    exact ⟨X, r, r1, x1, r2, r3⟩
  · obtain ⟨a1, a2, Z⟩ := x
    obtain ⟨e1, e2, hC, o, no⟩ := hI
    simp only at e1 e2 hC o
    subst e1 e2
    unfold l_X11_again_24 b_X11_again_24
    dsimp only
    rcases Nat.lt_or_ge k 41 with hl | hl
    · have n1 : gi Z 19 0 = nI (tn T) := by rw [hC.2.2.1, Ts_n]
      have g1 : cpb 0 0 (nI (tn T)) 8 8 = true := by
        unfold cpb
        rw [tn_n (show tn T < 2 ^ 31 by omega)]
        have : ¬ nI (tn T) < 0 := nI_pos (by omega)
        simp [this]
        omega
      have t0 : (0 : Int32).toNatClampNeg = 0 := rfl
      have hC1 : CE S (sc Z 24 0 (87 + k) 0 (tn T)) (Ts T k) := CE_sc (by omega) hC
      have hF : ∀ e p, e ≤ k → p < tn T → gi (sc Z 24 0 (87 + k) 0 (tn T)) (87 + e) p = tF (Ts T e) 3 p := fun e p he hp => by
        by_cases z : e = k
        · subst z
          rw [gi_sc_s, cpy_0 _ _ hp]
          exact (hC.2.2.2.2.2.1 p (by rw [Ts_n]; exact hp)).2.2.2.1
        · rw [gi_sc_n _ _ _ _ _ (by omega)]
          exact o e p (by omega) hp
      obtain ⟨r, r1, r2⟩ := C_alike n8 (X := sc Z 24 0 (87 + k) 0 (tn T)) (F := fun k => tF (Ts T k) 3) (by rw [gi_sc_n _ _ _ _ _ (by omega)]; exact n1) (show k ≤ 40 by omega) hF
      have ra := agA_of (by omega) r2
      rw [if_neg (show ¬ (40 : Int32) < nI k from nI_nlt (a := 40) (by omega) (by decide)), gd_t (inb_n hl), n1, gd_t g1, nm_eq, t0, tn_n (show tn T < 2 ^ 31 by omega), tn_n (show k < 2 ^ 31 by omega), Nat.one_mul]
      rw [show (19 + 5 : Nat) = 24 from rfl, r1, Option.bind_some]
      by_cases z : r < 0
      · rw [if_pos z]
        refine Or.inr ⟨hl, ?_⟩
        obtain ⟨Y, y1, y2, y3, y4⟩ := CE_go hC1
        rw [y1, Option.bind_some]
        obtain ⟨Z2, z1, z2, z3⟩ := C_moods (D := sDay (Ts T k) tt false) y2 (fun p hp => (C_sell y3 (by rw [Ts_n] at hp; omega)).1) a1 (nI k)
        rw [z1, nI_1]
        rw [Ts_n] at z2
        refine ⟨_, rfl, rfl, rfl, z2, fun e p he hp => ?_, fun i hi => ?_⟩
        · show gi Z2 (87 + e) p = _
          rw [z3 _ (by omega), y4 _ (fun q => by have := q.2; omega)]
          exact hF e p (by omega) hp
        · rcases Nat.eq_or_lt_of_le (Nat.le_of_lt_succ hi) with w | w
          · rw [w]
            unfold agG
            rw [← ra]
            exact decide_eq_false (Int32.not_le.mpr z)
          · exact no i w
      · rw [if_neg z]
        have gk : agG T k = true := by
          unfold agG
          rw [← ra]
          exact decide_eq_true (Int32.not_lt.mp z)
        refine Or.inl ?_
        unfold b_X11_again_65
        by_cases w : a1 = 0
        · rw [if_pos w]
          exact ⟨_, rfl, hC1.1, Or.inl ⟨k, hl, gk, no, by unfold agH; rw [if_pos w]⟩⟩
        · rw [if_neg w]
          exact ⟨_, rfl, hC1.1, Or.inl ⟨k, hl, gk, no, by unfold agH; rw [if_neg w]; exact ra⟩⟩
    · have : k = 41 := by omega
      subst this
      rw [if_pos (by decide)]
      exact Or.inl ⟨_, rfl, hC.1, Or.inr ⟨no, rfl⟩⟩
theorem agG_0 (T : TT) : agG T 0 = false := by
  unfold agG agA ls
  decide
end AGAIN
