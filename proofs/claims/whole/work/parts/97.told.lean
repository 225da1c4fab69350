/-! explained, forged, judge: rows that tell. -/
def sk (q : Nat) : Int32 := if q = 0 then -128 else if q = 1 then -32768 else -2147483648
/-- the first place that does not fit; how many places -/
def ms (f : Nat → Bool) : Nat → Nat
  | 0 => 0
  | n + 1 => if ms f n < n then ms f n else if f n then n + 1 else n
theorem ms_of (f : Nat → Bool) : ∀ n, ms f n ≤ n ∧ (∀ i, i < ms f n → f i = true) ∧ (ms f n < n → f (ms f n) = false) := by
  intro n
  induction n with
  | zero => exact ⟨Nat.le_refl _, fun i h => absurd h (Nat.not_lt_zero i), fun h => absurd h (Nat.lt_irrefl _)⟩
  | succ n ih =>
    obtain ⟨h1, h2, h3⟩ := ih
    show (if ms f n < n then ms f n else if f n then n + 1 else n) ≤ n + 1 ∧ (∀ i, i < (if ms f n < n then ms f n else if f n then n + 1 else n) → f i = true) ∧ ((if ms f n < n then ms f n else if f n then n + 1 else n) < n + 1 → f (if ms f n < n then ms f n else if f n then n + 1 else n) = false)
    by_cases z : ms f n < n
    · rw [if_pos z]
      exact ⟨by omega, h2, fun _ => h3 z⟩
    · rw [if_neg z]
      have e : ms f n = n := by omega
      rw [e] at h2
      by_cases y : f n = true
      · rw [if_pos y]
        refine ⟨Nat.le_refl _, fun i hi => ?_, fun h => absurd h (Nat.lt_irrefl _)⟩
        rcases Nat.eq_or_lt_of_le (Nat.le_of_lt_succ hi) with w | w
        · rw [w]; exact y
        · exact h2 i w
      · rw [if_neg y]
        exact ⟨by omega, h2, fun _ => by simpa using y⟩
theorem ms_u {f : Nat → Bool} {n q : Nat} (h1 : q ≤ n) (h2 : ∀ i, i < q → f i = true) (h3 : q < n → f q = false) : ms f n = q := by
  obtain ⟨a1, a2, a3⟩ := ms_of f n
  rcases Nat.lt_trichotomy (ms f n) q with z | z | z
  · have := h2 _ z
    rw [a3 (by omega)] at this
    cases this
  · exact z
  · have := a2 _ z
    rw [h3 (by omega)] at this
    cases this
def isQ (f : Nat → Bool) (h : Nat → Int32) (a n : Nat) (r : Int32) : Prop := (∃ q, a ≤ q ∧ q < n ∧ f q = true ∧ (∀ i, a ≤ i → i < q → f i = false) ∧ r = h q) ∨ ((∀ q, a ≤ q → q < n → f q = false) ∧ r = -4)
theorem isQ_u {f : Nat → Bool} {h : Nat → Int32} {a n : Nat} {r r' : Int32} (x : isQ f h a n r) (x' : isQ f h a n r') : r = r' := by
  rcases x with ⟨q, h1, h2, h3, h4, rfl⟩ | ⟨h1, rfl⟩ <;> rcases x' with ⟨q', h1', h2', h3', h4', rfl⟩ | ⟨h1', rfl⟩
  · rcases Nat.lt_trichotomy q q' with z | z | z
    · rw [h4' q h1 z] at h3; cases h3
    · rw [z]
    · rw [h4 q' h1' z] at h3'; cases h3'
  · rw [h1' q h1 h2] at h3; cases h3
  · rw [h1 q' h1' h2'] at h3'; cases h3'
  · rfl
theorem isQ_dn {f : Nat → Bool} {h : Nat → Int32} {a n : Nat} {r : Int32} (ha : a < n) (x : isQ f h (a + 1) n r) : isQ f h a n (if f a then h a else r) := by
  cases e : f a with
  | true => exact Or.inl ⟨a, Nat.le_refl _, ha, e, fun i h1 h2 => by omega, rfl⟩
  | false =>
    rcases x with ⟨q, h1, h2, h3, h4, rfl⟩ | ⟨h1, rfl⟩
    · refine Or.inl ⟨q, by omega, h2, h3, fun i i1 i2 => ?_, rfl⟩
      rcases Nat.eq_or_lt_of_le i1 with z | z
      · rw [← z]; exact e
      · exact h4 i z i2
    · refine Or.inr ⟨fun q i1 i2 => ?_, rfl⟩
      rcases Nat.eq_or_lt_of_le i1 with z | z
      · rw [← z]; exact e
      · exact h1 q z i2
theorem isQ_up {f : Nat → Bool} {h : Nat → Int32} {k : Nat} {r : Int32} (h0 : ∀ q, q < k → 0 ≤ h q) (x : isQ f h 0 k r) : isQ f h 0 (k + 1) (if f k = true ∧ r < 0 then h k else r) := by
  rcases x with ⟨q, h1, h2, h3, h4, rfl⟩ | ⟨h1, rfl⟩
  · rw [if_neg (fun z => absurd z.2 (Int32.not_lt.mpr (h0 q h2)))]
    exact Or.inl ⟨q, h1, by omega, h3, h4, rfl⟩
  · cases e : f k with
    | true =>
      rw [if_pos ⟨rfl, by decide⟩]
      exact Or.inl ⟨k, Nat.zero_le _, Nat.lt_succ_self _, e, fun i i1 i2 => h1 i i1 i2, rfl⟩
    | false =>
      rw [if_neg (fun z => absurd z.1 (by decide))]
      refine Or.inr ⟨fun q i1 i2 => ?_, rfl⟩
      rcases Nat.eq_or_lt_of_le (Nat.le_of_lt_succ i2) with z | z
      · rw [z]; exact e
      · exact h1 q i1 z
def r2 (T : TT) (x y : Int32) : TT := wF (wF T 15 1 x) 15 0 y
theorem r2_0 (T : TT) (x y v : Int32) : wF (r2 T x y) 15 0 v = r2 T x v := wF_u _ _ _ _ _
theorem r2_1 (T : TT) (x y v : Int32) : wF (r2 T x y) 15 1 v = r2 T v y := by
  unfold r2
  have e : wF (wF (wF T 15 1 x) 15 0 y) 15 1 v = wF (wF (wF T 15 1 x) 15 1 v) 15 0 y := by
    show (T.1, T.2.1, uD (uD (uD T.2.2 15 1 x) 15 0 y) 15 1 v) = (T.1, T.2.1, uD (uD (uD T.2.2 15 1 x) 15 1 v) 15 0 y)
    rw [uD_com2 _ _ _ _ (show (0 : Nat) ≠ 1 by decide)]
  rw [e, wF_u]
theorem r2_id (T : TT) : r2 T (tF T 15 1) (tF T 15 0) = T := by
  unfold r2
  rw [wF_id, wF_id]
theorem cnt_t {f : Nat → Bool} {k : Nat} (h : f k = true) : cnt f (k + 1) = cnt f k + 1 := if_pos h
theorem cnt_f {f : Nat → Bool} {k : Nat} (h : f k = false) : cnt f (k + 1) = cnt f k := if_neg (by rw [h]; decide)
section TOLD
variable {S S0 X : St} {T : TT} {im : Option TT} {sh : Nat → Sh} {d : Nat}
def fitB (w : Sh) (D : Nat → Nat → Int32) (p : Nat) : Bool := decide (w.2.2.2 p = sk w.2.2.1.1) || decide (w.2.2.2 p = kTold (D 1 p))
/-- what is seen of a row on a shelf -/
def rowC (X : St) (d : Nat) (w : Sh) : Prop := gi X (70 + 2 * d) 0 = nI w.2.2.1.1 ∧ w.2.2.1.1 ≤ 2 ∧ gi X (70 + 2 * d) 1 = nI w.2.2.1.2 ∧ w.2.2.1.2 ≤ 100 ∧ ∀ i, i < 100 → gi X (71 + 2 * d) i = w.2.2.2 i
def rowR (X : St) (d : Nat) (w : Sh) : Prop := gi X 156 d = nI w.2.2.1.1 ∧ gi X 157 d = nI w.2.2.1.2 ∧ ∀ i, i < 100 → gl X 158 (100 * d + i) = (w.2.2.2 i).toInt64
theorem rowC_D {w : Sh} (hd : d < 8) (u : UpD S X) (h : rowC S d w) : rowC X d w := by
  unfold rowC at h ⊢
  rw [(u.1 (70 + 2 * d) (by omega)).1, (u.1 (71 + 2 * d) (by omega)).1]
  exact h
theorem rowR_E {w : Sh} (u : UpE S X) (h : rowR S d w) : rowR X d w := by
  unfold rowR at h ⊢
  rw [u.2.1 156 (by decide), u.2.1 157 (by decide), u.2.2.1]
  exact h
theorem C_skip {w : Sh} (h : rowC X d w) {p : Nat} (hp : p < w.2.2.1.2) : L_X8_isSkipped (70 + 2 * d) (nI p) X = some (if w.2.2.2 p = sk w.2.2.1.1 then 1 else 0) ∧ L_X8_at (70 + 2 * d) (nI p) X = some (w.2.2.2 p) := by
  obtain ⟨h1, h2, h3, h4, h5⟩ := h
  have at1 : L_X8_at (70 + 2 * d) (nI p) X = some (w.2.2.2 p) := by rw [row_1 h3 h4 hp, h5 p (by omega)]
  refine ⟨?_, at1⟩
  unfold L_X8_isSkipped b_X8_isSkipped_0 b_X8_isSkipped_28 sk
  rw [at1, h1]
  simp only [Option.bind_some]
  have k0 : nI w.2.2.1.1 = 0 ↔ w.2.2.1.1 = 0 := nI_eq (b := 0) (by omega) (by decide)
  have k1 : nI w.2.2.1.1 = 1 ↔ w.2.2.1.1 = 1 := nI_eq (b := 1) (by omega) (by decide)
  simp only [k0, k1]
  by_cases z0 : w.2.2.1.1 = 0
  · simp only [if_pos z0]
    split <;> rfl
  · simp only [if_neg z0]
    by_cases z1 : w.2.2.1.1 = 1
    · simp only [if_pos z1]
      split <;> rfl
    · simp only [if_neg z1]
      split <;> rfl
theorem R_skip {w : Sh} (h : rowR X d w) (hd : d < 8) (h2 : w.2.2.1.1 ≤ 2) : L_X12_skipped (nI d) X = some (sk w.2.2.1.1).toInt64 := by
  obtain ⟨h1, -⟩ := h
  have k0 : nI w.2.2.1.1 = 0 ↔ w.2.2.1.1 = 0 := nI_eq (b := 0) (by omega) (by decide)
  have k1 : nI w.2.2.1.1 = 1 ↔ w.2.2.1.1 = 1 := nI_eq (b := 1) (by omega) (by decide)
  unfold L_X12_skipped b_X12_skipped_0 sk
  rw [gd_t (inb_n hd), tn_n (show d < 2 ^ 31 by omega), h1, gd_t (inb_n hd)]
  simp only [k0, k1]
  by_cases z0 : w.2.2.1.1 = 0
  · simp only [if_pos z0]; decide
  · simp only [if_neg z0]
    by_cases z1 : w.2.2.1.1 = 1
    · simp only [if_pos z1]; decide
    · simp only [if_neg z1]; decide
theorem C_mis {w : Sh} (hd : d < 8) (hr : rowC S d w) (hn : w.2.2.1.2 ≤ tn T) {x y : Int32} (h : CE S X (r2 T x y)) {v o : Nat} (hv : v < 10) (ho : o < 24) : ∃ Y, L_X11_firstMisfit (70 + 2 * d) (nI v) (nI o) X = some (nI (ms (fitB w (sDay (r2 T (nI v) (nI o)) tt false)) w.2.2.1.2), Y) ∧ CE S Y (r2 T (nI v) (nI o)) := by
  have h1 := CE_put h (r := 15) (i := 1) (v := nI v) (by decide) (okV_15b hv)
  rw [r2_1] at h1
  have h2 := CE_put h1 (r := 15) (i := 0) (v := nI o) (by decide) (okV_15a ho)
  rw [r2_0] at h2
  obtain ⟨Y, y1, y2, y3, -⟩ := CE_go h2
  have n8 : tn T ≤ 8 := y2.2.1.1
  have rY := rowC_D hd y2.1 hr
  have tY : gi Y 19 0 = nI (tn T) := y2.2.2.1
  refine ⟨Y, ?_, y2⟩
  unfold L_X11_firstMisfit b_X11_firstMisfit_0
  rw [gd_t (by decide), nm_eq, gd_t (by decide), nm_eq, show (1 : Int32).toNatClampNeg = 1 by decide, show (0 : Int32).toNatClampNeg = 0 by decide]
  rw [show (19 + 17 : Nat) = 19 + 2 + 15 from rfl, y1, Option.bind_some]
  have key := lp_inv (body := l_X11_firstMisfit_35 (70 + 2 * d)) (m := w.2.2.1.2) (I := fun k x => x.1 = nI k ∧ x.2 = Y ∧ ∀ i, i < k → fitB w (sDay (r2 T (nI v) (nI o)) tt false) i = true) (Q := fun y => y = (nI (ms (fitB w (sDay (r2 T (nI v) (nI o)) tt false)) w.2.2.1.2), Y)) (fun k x hk hI => ?_) 1000 0 (0, Y) (Nat.zero_le _) (by omega) ⟨rfl, rfl, fun i hi => absurd hi (Nat.not_lt_zero i)⟩
  · obtain ⟨r, e, e1⟩ := key
    rw [e, e1]
  · obtain ⟨a1, Z⟩ := x
    obtain ⟨e1, e2, e3⟩ := hI
    simp only at e1 e2
    subst e1 e2
    unfold l_X11_firstMisfit_35 b_X11_firstMisfit_35 b_X11_firstMisfit_86
    dsimp only
    rw [rY.2.2.1, tY]
    rcases Nat.lt_or_ge k w.2.2.1.2 with hl | hl
    · obtain ⟨s1, s2⟩ := C_skip rY hl
      rw [if_neg (nI_ge hl (by omega)), if_neg (nI_ge (show k < tn T by omega) (by omega)), s1, Option.bind_some, nI_1]
      have stp : fitB w (sDay (r2 T (nI v) (nI o)) tt false) k = true → ∀ i, i < k + 1 → fitB w (sDay (r2 T (nI v) (nI o)) tt false) i = true := fun z i hi => by
        rcases Nat.eq_or_lt_of_le (Nat.le_of_lt_succ hi) with q | q
        · rw [q]; exact z
        · exact e3 i q
      by_cases z : w.2.2.2 k = sk w.2.2.1.1
      · rw [if_pos z, if_neg (by decide)]
        exact Or.inr ⟨hl, _, rfl, rfl, rfl, stp (by unfold fitB; rw [decide_eq_true z]; rfl)⟩
      · rw [if_neg z, if_pos rfl, s2, Option.bind_some, C_told y3 (show k < tn (r2 T (nI v) (nI o)) from by show k < tn T; omega), Option.bind_some]
        by_cases z2 : w.2.2.2 k = kTold (sDay (r2 T (nI v) (nI o)) tt false 1 k)
        · rw [if_pos z2]
          exact Or.inr ⟨hl, _, rfl, rfl, rfl, stp (by unfold fitB; rw [decide_eq_true z2, Bool.or_true])⟩
        · rw [if_neg z2]
          refine Or.inl ⟨_, rfl, ?_⟩
          rw [ms_u (q := k) (by omega) e3 (fun _ => by unfold fitB; rw [decide_eq_false z, decide_eq_false z2]; rfl)]
    · have : k = w.2.2.1.2 := by omega
      subst this
      rw [if_pos (Int32.le_refl _)]
      refine Or.inl ⟨_, rfl, ?_⟩
      rw [ms_u (q := w.2.2.1.2) (Nat.le_refl _) e3 (fun h => absurd h (Nat.lt_irrefl _))]
theorem R_fits {w : Sh} (hd : d < 8) (hs : w.2.2.1.1 ≤ 2) (hr : rowR S d w) (hn : w.2.2.1.2 ≤ tn T) (h : RE S X T) : ∃ Y, L_X12_fitsUpTo (nI d) X = some (nI (ms (fitB w (sDay T tt false)) w.2.2.1.2), Y) ∧ RE S Y T ∧ FR PR X Y := by
  obtain ⟨Y, y1, y0, y2, y3⟩ := RE_go h
  have n8 : tn T ≤ 8 := y2.2.1.1
  have rY := rowR_E y2.1 hr
  have d31 : d < 2 ^ 31 := by omega
  refine ⟨Y, ?_, y2, y0⟩
  unfold L_X12_fitsUpTo b_X12_fitsUpTo_0
  rw [y1, Option.bind_some]
  have key := lp_inv (body := l_X12_fitsUpTo_6) (m := w.2.2.1.2) (I := fun k x => x.1 = nI d ∧ x.2.1 = nI k ∧ x.2.2 = Y ∧ ∀ i, i < k → fitB w (sDay T tt false) i = true) (Q := fun y => y = (nI (ms (fitB w (sDay T tt false)) w.2.2.1.2), Y)) (fun k x hk hI => ?_) 1000 0 (nI d, 0, Y) (Nat.zero_le _) (by omega) ⟨rfl, rfl, rfl, fun i hi => absurd hi (Nat.not_lt_zero i)⟩
  · obtain ⟨r, e, e1⟩ := key
    rw [e, e1]
  · obtain ⟨a1, a2, Z⟩ := x
    obtain ⟨e1, e2, e3, e4⟩ := hI
    simp only at e1 e2 e3
    subst e1 e2 e3
    unfold l_X12_fitsUpTo_6 b_X12_fitsUpTo_6 b_X12_fitsUpTo_61
    dsimp only
    rw [gd_t (inb_n hd), tn_n d31, rY.2.1]
    rcases Nat.lt_or_ge k w.2.2.1.2 with hl | hl
    · have c1 := rY.2.2 k (by omega)
      rw [if_neg (nI_ge hl (by omega)), nI_100 hd (by omega), gd_t (inb_n (show 100 * d + k < 800 by omega)), tn_n (show 100 * d + k < 2 ^ 31 by omega), R_skip rY hd hs, Option.bind_some, c1, nI_1]
      have stp : fitB w (sDay T tt false) k = true → ∀ i, i < k + 1 → fitB w (sDay T tt false) i = true := fun z i hi => by
        rcases Nat.eq_or_lt_of_le (Nat.le_of_lt_succ hi) with q | q
        · rw [q]; exact z
        · exact e4 i q
      by_cases z : w.2.2.2 k = sk w.2.2.1.1
      · rw [if_pos ((lg_cmp_eq _ _).mpr ((i64_eq _ _).mpr z))]
        exact Or.inr ⟨hl, _, rfl, rfl, rfl, rfl, stp (by unfold fitB; rw [decide_eq_true z]; rfl)⟩
      · rw [if_neg (fun q => z ((i64_eq _ _).mp ((lg_cmp_eq _ _).mp q))), gd_t (inb_n (show 100 * d + k < 800 by omega)), gd_t (inb_n (show k < 8 by omega)), tn_n (show k < 2 ^ 31 by omega), (R_pick y3 (show k < tn T by omega)).1, R_told, Option.bind_some]
        by_cases z2 : w.2.2.2 k = kTold (sDay T tt false 1 k)
        · rw [if_pos ((lg_cmp_eq _ _).mpr ((i64_eq _ _).mpr z2))]
          exact Or.inr ⟨hl, _, rfl, rfl, rfl, rfl, stp (by unfold fitB; rw [decide_eq_true z2, Bool.or_true])⟩
        · rw [if_neg (fun q => z2 ((i64_eq _ _).mp ((lg_cmp_eq _ _).mp q)))]
          refine Or.inl ⟨_, rfl, ?_⟩
          rw [ms_u (q := k) (by omega) e4 (fun _ => by unfold fitB; rw [decide_eq_false z, decide_eq_false z2]; rfl)]
    · have : k = w.2.2.1.2 := by omega
      subst this
      rw [if_pos (Int32.le_refl _)]
      refine Or.inl ⟨_, rfl, ?_⟩
      rw [ms_u (q := w.2.2.1.2) (Nat.le_refl _) e4 (fun h => absurd h (Nat.lt_irrefl _))]
def chR (w : Sh) (n : Nat) : Int32 := if w.1 = 0 then -11 else if w.1 = 2 then (if w.2.2.1.2 ≤ n then 0 else -13) else -12
theorem C_tcr (c : IC S (T, im, sh)) (hd : d < 8) : L_X11_toldChoicesRefusal (nI d) S = some (chR (sh d) (tn T)) := by
  have r1 := C_sr c hd (want := 2) (by decide)
  obtain ⟨-, -, -, x5⟩ := c.2.2.2.2.2.2 d hd
  have n8 : tn T ≤ 8 := c.2.1.1
  unfold L_X11_toldChoicesRefusal b_X11_toldChoicesRefusal_0 chR
  rw [show (2 : Int32) = nI 2 from rfl, r1, Option.bind_some]
  unfold refS
  by_cases h0 : (sh d).1 = 0
  · rw [if_pos h0, if_pos h0, if_neg (by decide)]
  · rw [if_neg h0, if_neg h0]
    by_cases h2 : (sh d).1 = 2
    · obtain ⟨-, -, y3, y4, -⟩ := x5 h2
      have y3' : gi S (70 + 2 * d) 1 = nI (sh d).2.2.1.2 := y3
      have y4' : (sh d).2.2.1.2 ≤ 100 := y4
      rw [if_pos h2, if_pos h2, if_pos rfl, gd_t (inb_n hd), tn_n (show d < 2 ^ 31 by omega), y3', c.2.2.1.1]
      by_cases z : (sh d).2.2.1.2 ≤ tn T
      · rw [if_pos z, if_pos (nI_le z (by show tn T < 2 ^ 31; omega))]
      · rw [if_neg z, if_neg (nI_ge (show tn T < (sh d).2.2.1.2 by omega) (by omega))]
    · rw [if_neg h2, if_neg h2, if_neg (by decide)]
theorem R_wc (g : IR S (T, im, sh)) (hd : d < 8) (w2 : (sh d).1 ≤ 2) (w3 : (sh d).1 = 2 → (sh d).2.2.1.2 ≤ 100) : L_X12_wrongChoices (nI d) S = some (chR (sh d) (tn T)) := by
  have r1 := (R_wr g hd w2).1
  obtain ⟨-, -, x3⟩ := g.2.2.2.2.2.2 d hd
  have n8 : tn T ≤ 8 := g.1.1
  unfold L_X12_wrongChoices b_X12_wrongChoices_0 b_X12_wrongChoices_28 chR
  rw [r1, Option.bind_some]
  unfold refS
  by_cases h0 : (sh d).1 = 0
  · rw [if_pos h0, if_pos h0, if_neg (by decide)]
  · rw [if_neg h0, if_neg h0]
    by_cases h2 : (sh d).1 = 2
    · have y3' : gi S 157 d = nI (sh d).2.2.1.2 := (x3 h2).2.1
      have y4' := w3 h2
      rw [if_pos h2, if_pos h2, if_pos rfl, gd_t (inb_n hd), tn_n (show d < 2 ^ 31 by omega), y3', g.2.1.1]
      by_cases z : (sh d).2.2.1.2 ≤ tn T
      · rw [if_pos z, if_pos (nI_le z (by show tn T < 2 ^ 31; omega))]
      · rw [if_neg z, if_neg (nI_ge (show tn T < (sh d).2.2.1.2 by omega) (by omega))]
    · rw [if_neg h2, if_neg h2, if_neg (by decide)]
theorem chR_v (w : Sh) (n : Nat) : chR w n = -11 ∨ chR w n = -12 ∨ chR w n = -13 ∨ (chR w n = 0 ∧ w.1 = 2 ∧ w.2.2.1.2 ≤ n) := by
  unfold chR
  by_cases h : w.1 = 0
  · rw [if_pos h]; exact Or.inl rfl
  · rw [if_neg h]
    by_cases h2 : w.1 = 2
    · rw [if_pos h2]
      by_cases h3 : w.2.2.1.2 ≤ n
      · rw [if_pos h3]; exact Or.inr (Or.inr (Or.inr ⟨rfl, h2, h3⟩))
      · rw [if_neg h3]; exact Or.inr (Or.inr (Or.inl rfl))
    · rw [if_neg h2]; exact Or.inr (Or.inl rfl)
def msK (T : TT) (w : Sh) (k : Nat) : Nat := ms (fitB w (sDay (r2 T (nI (k / 24)) (nI (k % 24))) tt false)) w.2.2.1.2
def hQ (k : Nat) : Int32 := nI (100 * (k / 24) + k % 24)
theorem hQ_0 (k : Nat) (h : k < 240) : 0 ≤ hQ k := nI_pos' (by omega)
def fullK (T : TT) (w : Sh) (k : Nat) : Bool := decide (msK T w k = w.2.2.1.2)
theorem C_exp {w : Sh} (hd : d < 8) (hr : rowC S d w) (hn : w.2.2.1.2 ≤ tn T) (h : CE S X T) (v : Int32) : ∃ r, lp 1000 l_X11_explained_45 (nI d, v, 0, -4, 9, X) = some r ∧ UpD S r.2 ∧ (if v = 0 then r.1 = cnt (fullK T w) 240 else isQ (fullK T w) hQ 0 240 r.1) := by
  have d31 : d < 2 ^ 31 := by omega
  have w100 := hr.2.2.2.1
  have f9 : ∀ k : Fin 10, (9 : Int32) - nI k.val = nI (9 - k.val) ∧ ¬ nI (9 - k.val) < 0 ∧ nI (9 - k.val) + (-1) = 9 - nI (k.val + 1) := by decide
  have f23 : ∀ k : Fin 24, (23 : Int32) - nI k.val = nI (23 - k.val) ∧ ¬ nI (23 - k.val) < 0 ∧ nI (23 - k.val) + (-1) = 23 - nI (k.val + 1) := by decide
  have hc : ∀ (a : Fin 10) (b : Fin 24), (100 : Int32) * nI a.val + nI b.val = nI (100 * a.val + b.val) := by decide +kernel
  refine lp_inv (m := 10) (I := fun k x => x.1 = nI d ∧ x.2.1 = v ∧ x.2.2.1 = cnt (fun i => fullK T w (239 - i)) (24 * k) ∧ isQ (fullK T w) hQ (240 - 24 * k) 240 x.2.2.2.1 ∧ x.2.2.2.2.1 = 9 - nI k ∧ ∃ x' y', CE S x.2.2.2.2.2 (r2 T x' y')) (fun k x hk hI => ?_) 1000 0 _ (Nat.zero_le _) (by omega) ⟨rfl, rfl, rfl, Or.inr ⟨fun q h1 h2 => by omega, rfl⟩, (show (9 : Int32) = 9 - nI 0 by decide), _, _, by rw [r2_id]; exact h⟩
  obtain ⟨a1, a2, a3, a4, a5, Z⟩ := x
  obtain ⟨e1, e2, e3, e4, e5, x', y', e6⟩ := hI
  simp only at e1 e2 e3 e4 e5 e6
  subst e1 e2 e3 e5
  unfold l_X11_explained_45 b_X11_explained_45
  dsimp only
  rcases Nat.lt_or_ge k 10 with hl | hl
  · obtain ⟨m1, m2, m3⟩ := f9 ⟨k, hl⟩
    simp only at m1 m2 m3
    rw [m1, if_neg m2]
    have inner := lp_inv (body := l_X11_explained_54) (m := 24) (I := fun j x => x.1 = nI d ∧ x.2.1 = a2 ∧ x.2.2.1 = cnt (fun i => fullK T w (239 - i)) (24 * k + j) ∧ isQ (fullK T w) hQ (240 - (24 * k + j)) 240 x.2.2.2.1 ∧ x.2.2.2.2.1 = nI (9 - k) ∧ x.2.2.2.2.2.1 = 23 - nI j ∧ ∃ x' y', CE S x.2.2.2.2.2.2 (r2 T x' y')) (Q := fun r => ∃ n l Y, r = .inl (nI d, a2, n, l, 9 - nI (k + 1), Y) ∧ n = cnt (fun i => fullK T w (239 - i)) (24 * (k + 1)) ∧ isQ (fullK T w) hQ (240 - 24 * (k + 1)) 240 l ∧ ∃ x' y', CE S Y (r2 T x' y')) (fun j x hj hI => ?_) 1000 0 (nI d, a2, cnt (fun i => fullK T w (239 - i)) (24 * k), a4, nI (9 - k), 23, Z) (Nat.zero_le _) (by omega) ⟨rfl, rfl, rfl, e4, rfl, (show (23 : Int32) = 23 - nI 0 by decide), x', y', e6⟩
    · obtain ⟨r, r1, n, l, Y, rfl, q1, q2, q3⟩ := inner
      rw [r1]
      exact Or.inr ⟨hl, _, rfl, rfl, rfl, q1, q2, rfl, q3⟩
    · obtain ⟨b1, b2, b3, b4, b5, b6, W⟩ := x
      obtain ⟨g1, g2, g3, g4, g5, g6, x2, y2, g7⟩ := hI
      simp only at g1 g2 g3 g4 g5 g6 g7
      subst g1 g2 g3 g5 g6
      unfold l_X11_explained_54 b_X11_explained_54 b_X11_explained_98 b_X11_explained_104
      dsimp only
      rcases Nat.lt_or_ge j 24 with hj2 | hj2
      · obtain ⟨p1, p2, p3⟩ := f23 ⟨j, hj2⟩
        simp only at p1 p2 p3
        have hcc := hc ⟨9 - k, by omega⟩ ⟨23 - j, by omega⟩
        simp only at hcc
        obtain ⟨Y, y1, y2⟩ := C_mis hd hr hn g7 (v := 9 - k) (o := 23 - j) (by omega) (by omega)
        have rY := rowC_D hd y2.1 hr
        have ek : 239 - (24 * k + j) = 24 * (9 - k) + (23 - j) := by omega
        have km : msK T w (239 - (24 * k + j)) = ms (fitB w (sDay (r2 T (nI (9 - k)) (nI (23 - j))) tt false)) w.2.2.1.2 := by
          unfold msK
          rw [ek, show (24 * (9 - k) + (23 - j)) / 24 = 9 - k by omega, show (24 * (9 - k) + (23 - j)) % 24 = 23 - j by omega]
        have kh : hQ (239 - (24 * k + j)) = nI (100 * (9 - k) + (23 - j)) := by
          unfold hQ
          rw [ek, show (24 * (9 - k) + (23 - j)) / 24 = 9 - k by omega, show (24 * (9 - k) + (23 - j)) % 24 = 23 - j by omega]
        have ml := (ms_of (fitB w (sDay (r2 T (nI (9 - k)) (nI (23 - j))) tt false)) w.2.2.1.2).1
        have hL := isQ_dn (f := fullK T w) (h := hQ) (a := 239 - (24 * k + j)) (n := 240) (by omega) (by rw [show 239 - (24 * k + j) + 1 = 240 - (24 * k + j) by omega]; exact g4)
        have ec : nI (ms (fitB w (sDay (r2 T (nI (9 - k)) (nI (23 - j))) tt false)) w.2.2.1.2) = nI w.2.2.1.2 ↔ fullK T w (239 - (24 * k + j)) = true := by
          unfold fullK
          rw [decide_eq_true_eq, km]
          exact nI_eq (by omega) (by omega)
        rw [p1, if_neg p2, gd_t (inb_n hd), tn_n d31, y1, Option.bind_some]
        dsimp only
        rw [gd_t (inb_n hd), rY.2.2.1, p3, hcc]
        by_cases z : fullK T w (239 - (24 * k + j)) = true
        · rw [if_pos (ec.mpr z)]
          rw [z, if_pos rfl, kh] at hL
          exact Or.inr ⟨hj2, _, rfl, rfl, rfl, (cnt_t (f := fun i => fullK T w (239 - i)) (k := 24 * k + j) z).symm, by rw [show 240 - (24 * k + (j + 1)) = 239 - (24 * k + j) by omega]; exact hL, rfl, rfl, _, _, y2⟩
        · rw [if_neg (fun q => z (ec.mp q))]
          have z' : fullK T w (239 - (24 * k + j)) = false := by simpa using z
          rw [z', if_neg (by decide)] at hL
          exact Or.inr ⟨hj2, _, rfl, rfl, rfl, (cnt_f (f := fun i => fullK T w (239 - i)) (k := 24 * k + j) z').symm, by rw [show 240 - (24 * k + (j + 1)) = 239 - (24 * k + j) by omega]; exact hL, rfl, rfl, _, _, y2⟩
      · have : j = 24 := by omega
        subst this
        rw [if_pos (by decide), m3]
        exact Or.inl ⟨_, rfl, _, _, W, rfl, by rw [show 24 * (k + 1) = 24 * k + 24 by omega], by rw [show 24 * (k + 1) = 24 * k + 24 by omega]; exact g4, _, _, g7⟩
  · have : k = 10 := by omega
    subst this
    rw [if_pos (by decide)]
    unfold b_X11_explained_110
    by_cases z : a2 = 0
    · rw [if_pos z]
      refine Or.inl ⟨_, rfl, e6.1, ?_⟩
      rw [if_pos z]
      exact cnt_rev (fullK T w) 240
    · rw [if_neg z]
      refine Or.inl ⟨_, rfl, e6.1, ?_⟩
      rw [if_neg z]
      exact e4
end TOLD
