/-! A TOWN as numbers: how many PEOPLE, FACTS, PLANTS; KINDS; rows: 0 FIGURE, 1 CASE, 2 HOUR, 3 MOOD, 4 COINS, 5 .. 8 a FACT's CASE, WEIGHT, HOUR, CHANCE, 9 .. 13 a PLANT's CASE, SIDE, STRENGTH, PRICE, HOUR, 14 KIN (4 a + b), 15 OPEN, FADE, RATE. -/
abbrev TT : Type := (Nat × Nat × Nat) × (Nat → Nat) × (Nat → Nat → Int32)
def tn (T : TT) : Nat := T.1.1
def tm (T : TT) : Nat := T.1.2.1
def tk (T : TT) : Nat := T.1.2.2
def tK (T : TT) : Nat → Nat := T.2.1
def tF (T : TT) : Nat → Nat → Int32 := T.2.2
def WT (T : TT) : Prop := tn T ≤ 8 ∧ tm T ≤ 6 ∧ tk T ≤ 3 ∧
  (∀ p, p < tn T → tK T p < 8 ∧ (∃ g, g < 10 ∧ tF T 0 p = nI g) ∧ (∃ c, c < 4 ∧ tF T 1 p = nI c) ∧ (∃ h, h < 24 ∧ tF T 2 p = nI h) ∧ (-9 ≤ tF T 3 p ∧ tF T 3 p ≤ 9) ∧ (∃ c, c < 100 ∧ tF T 4 p = nI c)) ∧
  (∀ f, f < tm T → (∃ c, c < 4 ∧ tF T 5 f = nI c) ∧ (-9 ≤ tF T 6 f ∧ tF T 6 f ≤ 9) ∧ (∃ h, h < 24 ∧ tF T 7 f = nI h) ∧ (∃ c, c ≤ 10 ∧ tF T 8 f = nI c)) ∧
  (∀ i, i < tk T → (∃ c, c < 4 ∧ tF T 9 i = nI c) ∧ (tF T 10 i = 1 ∨ tF T 10 i = -1) ∧ (∃ s, 1 ≤ s ∧ s ≤ 60 ∧ tF T 11 i = nI s) ∧ (∃ c, c < 100 ∧ tF T 12 i = nI c) ∧ (∃ h, h < 24 ∧ tF T 13 i = nI h)) ∧
  (∀ a b, a < 4 → b < 4 → (tF T 14 (4 * a + b) = 0 ∨ tF T 14 (4 * a + b) = 1) ∧ tF T 14 (4 * a + b) = tF T 14 (4 * b + a)) ∧ (∀ a, a < 4 → tF T 14 (4 * a + a) = 1) ∧
  (∃ o, o < 24 ∧ tF T 15 0 = nI o) ∧ (∃ f, f < 10 ∧ tF T 15 1 = nI f) ∧ (∃ r, 1 ≤ r ∧ r < 10 ∧ tF T 15 2 = nI r)
/-- the class's Town at the place t is T -/
def repC (S : St) (t : Nat) (T : TT) : Prop := gi S t 0 = nI (tn T) ∧ gi S t 6 = nI (tm T) ∧ gi S t 11 = nI (tk T) ∧
  (∀ p, p < tn T → (∃ q, gr S (t + 1) p = some q ∧ gq S q = some (tK T p, tF T 0 p)) ∧ gi S (t + 3) p = tF T 1 p ∧ gi S (t + 4) p = tF T 2 p ∧ gi S (t + 5) p = tF T 3 p ∧ gi S (t + 6) p = tF T 4 p) ∧
  (∀ f, f < tm T → gi S (t + 7) f = tF T 5 f ∧ gi S (t + 8) f = tF T 6 f ∧ gi S (t + 9) f = tF T 7 f ∧ gi S (t + 10) f = tF T 8 f) ∧
  (∀ i, i < tk T → gi S (t + 11) i = tF T 9 i ∧ gi S (t + 12) i = tF T 10 i ∧ gi S (t + 13) i = tF T 11 i ∧ gi S (t + 14) i = tF T 12 i ∧ gi S (t + 15) i = tF T 13 i) ∧
  (∀ a b, a < 4 → b < 4 → (gi S (t + 16) a >>> (nI b &&& 31)) &&& 1 = tF T 14 (4 * a + b)) ∧
  (∀ i, i < 3 → gi S (t + 17) i = tF T 15 i)
theorem isTown_lt {t : Nat} (h : isTown t) : t ≤ 37 := by rcases h with rfl | rfl | rfl <;> omega
theorem repC_congr {S S' : St} {t : Nat} {T : TT} (ht : isTown t) (h1 : ∀ a, a < 55 → gi S' a = gi S a) (h2 : ∀ a, a < 55 → gr S' a = gr S a) (h3 : ∀ a, gp S' a = gp S a) (h : repC S t T) : repC S' t T := by
  have hl := isTown_lt ht
  have hq : ∀ q, gq S' q = gq S q := fun q => gq_local (h3 q)
  obtain ⟨a1, a2, a3, a4, a5, a6, a7, a8⟩ := h
  refine ⟨by rw [h1 t (by omega)]; exact a1, by rw [h1 t (by omega)]; exact a2, by rw [h1 t (by omega)]; exact a3, fun p hp => ?_, fun f hf => ?_, fun i hi => ?_, fun a b ha hb => ?_, fun i hi => ?_⟩
  · rw [h2 _ (by omega), h1 (t + 3) (by omega), h1 (t + 4) (by omega), h1 (t + 5) (by omega), h1 (t + 6) (by omega)]
    obtain ⟨⟨q, e1, e2⟩, r⟩ := a4 p hp
    exact ⟨⟨q, e1, by rw [hq]; exact e2⟩, r⟩
  · rw [h1 (t + 7) (by omega), h1 (t + 8) (by omega), h1 (t + 9) (by omega), h1 (t + 10) (by omega)]
    exact a5 f hf
  · rw [h1 (t + 11) (by omega), h1 (t + 12) (by omega), h1 (t + 13) (by omega), h1 (t + 14) (by omega), h1 (t + 15) (by omega)]
    exact a6 i hi
  · rw [h1 (t + 16) (by omega)]
    exact a7 a b ha hb
  · rw [h1 (t + 17) (by omega)]
    exact a8 i hi
-- the day's own words, over T, over which FACTS are there, and the day's rows D: 0 first SUM, 1 CHOICE, 2 whose it bought, 3 paid, 4 SIDE, 5 STRENGTH, 6 from, 7 fades, 8 buyer
def sDue (T : TT) (p : Nat) : Int32 := kDue (tK T p) (tF T 2 p)
def sKnown (T : TT) (bit : Nat → Bool) (p : Nat) (h : Int32) : Int32 := kSum (tK T p) (tF T 3 p) (wsum (tF T 1 p) h bit (tF T 5) (tF T 6) (tF T 7) (tm T))
def sCase (T : TT) (u : Nat) : Int32 := if u < 8 then tF T 1 u else tF T 9 (u - 8)
def sLeft (D : Nat → Nat → Int32) (u : Nat) (h : Int32) : Int32 := kMax0 (D 5 u - D 7 u * (h - D 6 u))
def sPrice (T : TT) (D : Nat → Nat → Int32) (u : Nat) (h : Int32) : Int32 := if u < 8 then kPrice (tK T u) (sLeft D u h) (tF T 15 2) else tF T 12 (u - 8)
def sSale (T : TT) (D : Nat → Nat → Int32) (u : Nat) (h : Int32) : Bool := decide (D 4 u ≠ 0) && decide (D 6 u ≤ h) && !(decide (0 ≤ D 8 u) && decide (sDue T (D 8 u).toNatClampNeg ≤ h)) && decide (0 < sLeft D u h)
theorem wsum_congr {c h : Int32} {bit : Nat → Bool} {a1 a2 a3 b1 b2 b3 : Nat → Int32} : ∀ {m : Nat}, (∀ k, k < m → a1 k = b1 k ∧ a2 k = b2 k ∧ a3 k = b3 k) → wsum c h bit a1 a2 a3 m = wsum c h bit b1 b2 b3 m := by
  intro m
  induction m with
  | zero => intro _; rfl
  | succ m ih =>
    intro h1
    obtain ⟨e1, e2, e3⟩ := h1 m (Nat.lt_succ_self m)
    simp only [wsum, ih (fun k hk => h1 k (Nat.lt_succ_of_lt hk)), e1, e2, e3]
def WD (T : TT) (D : Nat → Nat → Int32) : Prop := (∀ u, u < 8 → D 4 u ≠ 0 → u < tn T) ∧ (∀ i, i < 3 → D 4 (8 + i) ≠ 0 → i < tk T) ∧ ∀ u, u < 11 → D 8 u = -4 ∨ ∃ p, p < tn T ∧ D 8 u = nI p
/-- the class's Day in the middle of a run over the Town at t -/
def CX (S : St) (t : Nat) (T : TT) (bit : Nat → Bool) (D : Nat → Nat → Int32) : Prop := gr S 55 0 = some t ∧ isTown t ∧ WT T ∧ repC S t T ∧ (∀ k, k < 6 → (gi S 55 1 >>> (nI k &&& 31)) &&& 1 = if bit k then 1 else 0) ∧ (∀ p, p < tn T → gi S 56 p = sDue T p) ∧
  (∀ u, u < 11 → gi S 61 u = D 4 u ∧ gi S 65 u = D 8 u ∧ (D 4 u ≠ 0 → gi S 62 u = D 5 u ∧ gi S 63 u = D 6 u ∧ gi S 64 u = D 7 u)) ∧ WD T D
theorem CX_congr {S S' : St} {t : Nat} {T : TT} {bit : Nat → Bool} {D : Nat → Nat → Int32} (h1 : ∀ a, a < 57 ∨ 61 ≤ a → gi S' a = gi S a) (h2 : ∀ a, gr S' a = gr S a) (h3 : ∀ a, gp S' a = gp S a) (h : CX S t T bit D) : CX S' t T bit D := by
  obtain ⟨a1, a2, a3, a4, a5, a6, a7, a8⟩ := h
  refine ⟨by rw [h2]; exact a1, a2, a3, repC_congr a2 (fun a ha => h1 a (Or.inl (by omega))) (fun a _ => h2 a) h3 a4, ?_, ?_, ?_, a8⟩
  · rw [h1 55 (by omega)]; exact a5
  · rw [h1 56 (by omega)]; exact a6
  · rw [h1 61 (by omega), h1 65 (by omega), h1 62 (by omega), h1 63 (by omega), h1 64 (by omega)]; exact a7
theorem town_b {t : Nat} (h : isTown t) : isTownB t = true := by rcases h with rfl | rfl | rfl <;> rfl
section CDAY
variable {S : St} {t : Nat} {T : TT} {bit : Nat → Bool} {D : Nat → Nat → Int32}
theorem C_weight (h : CX S t T bit D) (c hr : Int32) : L_X10_weightOf t c hr (gi S 55 1) S = some (wsum c hr bit (tF T 5) (tF T 6) (tF T 7) (tm T)) := by
  obtain ⟨-, -, hW, hR, hb, -⟩ := h
  obtain ⟨-, hm, -, -, hf, -⟩ := hR
  have m6 := hW.2.1
  unfold L_X10_weightOf b_X10_weightOf_0
  refine lp_br _ (fun k => (c, hr, gi S 55 1, wsum c hr bit (tF T 5) (tF T 6) (tF T 7) k, nI k)) (tm T) _ (fun k hk => ?_) ?_ 1000 (by omega)
  · have k6 : k < 6 := by omega
    have e1 : ¬ nI (tm T) ≤ nI k := nI_ge hk (by omega)
    obtain ⟨f1, f2, f3, -⟩ := hf k hk
    simp only [l_X10_weightOf_6, b_X10_weightOf_6, b_X10_weightOf_58, hm, if_neg e1, hb k k6, gd_t (inb_n k6), tn_n (show k < 2 ^ 31 by omega), nI_1, wsum, f1, f2, f3]
    by_cases hc : tF T 5 k = c
    · by_cases hh : tF T 7 k ≤ hr
      · cases hbk : bit k <;> simp [hc, hh, Int32.not_lt.mpr hh]
      · simp [hc, hh, Int32.not_le.mp hh]
    · simp [hc]
  · simp only [l_X10_weightOf_6, b_X10_weightOf_6, hm]
    simp
theorem C_first (h : CX S t T bit D) {p : Nat} (hp : p < tn T) : L_X2_thinkFirst (nI p) S = some (si S 57 p (sKnown T bit p (sDue T p))) := by
  have hw := C_weight h
  obtain ⟨h1, h2, hW, hR, -, h6, -⟩ := h
  obtain ⟨⟨q, e1, e2⟩, e3, -, e5, -⟩ := hR.2.2.2.1 p hp
  have p8 : p < 8 := by have := hW.1; omega
  have hk := (hW.2.2.2.1 p hp).1
  have e56 : gi S 56 p = sDue T p := h6 p hp
  unfold L_X2_thinkFirst b_X2_thinkFirst_0
  simp only [h1, Option.bind_some, gd_t (town_b h2), gd_t (inb_n p8), tn_n (show p < 2 ^ 31 by omega), e1, e3, e5, e56, hw, V_sum e2 hk, sKnown, nm]
theorem C_left (h : CX S t T bit D) {u : Nat} (hu : u < 11) (hs : D 4 u ≠ 0) (hr : Int32) : L_X2_leftOf (nI u) hr S = some (sLeft D u hr) := by
  obtain ⟨-, -, -, -, -, -, h7, -⟩ := h
  obtain ⟨-, -, h8⟩ := h7 u hu
  obtain ⟨e1, e2, e3⟩ := h8 hs
  unfold L_X2_leftOf b_X2_leftOf_0
  simp only [gd_t (inb_n hu), tn_n (show u < 2 ^ 31 by omega), e1, e2, e3, nm, sLeft, kMax0]
theorem C_sale (h : CX S t T bit D) {u : Nat} (hu : u < 11) (hr : Int32) : L_X2_isForSale (nI u) hr S = some (if sSale T D u hr then 1 else 0) := by
  have hl := fun hs => C_left h hu hs hr
  obtain ⟨-, -, hW, -, -, h6, h7, h8⟩ := h
  obtain ⟨e1, e2, e3⟩ := h7 u hu
  have n8 := hW.1
  unfold L_X2_isForSale b_X2_isForSale_0
  simp only [gd_t (inb_n hu), tn_n (show u < 2 ^ 31 by omega), e1, e2]
  by_cases hs : D 4 u = 0
  · simp [hs, sSale]
  · obtain ⟨-, f2, -⟩ := e3 hs
    have hlS := hl hs
    rw [if_neg hs, f2]
    by_cases hf : D 6 u ≤ hr
    · rw [if_pos hf]
      have fin : ∀ b : Bool, (!(decide (0 ≤ D 8 u) && decide (sDue T (D 8 u).toNatClampNeg ≤ hr))) = !b → b_X2_isForSale_50 (nI u) hr (if b then 1 else 0) S = some (if sSale T D u hr then 1 else 0) := by
        intro b hb
        unfold b_X2_isForSale_50 b_X2_isForSale_68
        have e9 : sSale T D u hr = (!b && decide (0 < sLeft D u hr)) := by
          unfold sSale
          rw [hb]
          simp [hs, hf]
        rw [e9, hlS]
        cases b with
        | true => simp
        | false =>
          by_cases hz : 0 < sLeft D u hr
          · simp [hz, Int32.not_le.mpr hz]
          · simp [hz, Int32.not_lt.mp hz]
      rcases h8.2.2 u hu with hb | ⟨p, hp, hb⟩
      · rw [if_pos (by rw [hb]; decide)]
        exact fin false (by rw [hb]; simp)
      · have pp := nI_pos (n := p) (by omega)
        have e56 := h6 p hp
        simp only [hb, if_neg pp, gd_t (inb_n (show p < 8 by omega)), tn_n (show p < 2 ^ 31 by omega), e56] at fin ⊢
        have e0 : (0 : Int32) ≤ nI p := Int32.not_lt.mp pp
        by_cases hd : hr < sDue T p
        · rw [if_pos hd]
          exact fin false (by simp [e0, hd, Int32.not_le.mpr hd])
        · rw [if_neg hd]
          exact fin true (by simp [e0, Int32.not_lt.mp hd])
    · rw [if_neg hf]
      simp [sSale, hf]
theorem C_case (h : CX S t T bit D) {u : Nat} (hu : u < 11) (hs : D 4 u ≠ 0) : L_X2_caseOf (nI u) S = some (sCase T u) := by
  obtain ⟨h1, h2, hW, hR, -, -, -, h8⟩ := h
  unfold L_X2_caseOf b_X2_caseOf_0 sCase
  by_cases h9 : u < 8
  · have e1 : ¬ (8 : Int32) ≤ nI u := nI_ge (b := 8) h9 (by decide)
    have hn := h8.1 u h9 hs
    rw [if_neg e1, if_pos h9]
    simp only [h1, Option.bind_some, gd_t (town_b h2), gd_t (inb_n h9), tn_n (show u < 2 ^ 31 by omega), (hR.2.2.2.1 u hn).2.1]
  · have e1 : (8 : Int32) ≤ nI u := nI_le (a := 8) (by omega) (by omega)
    have e2 : nI u - 8 = nI (u - 8) := pk_sub (b := 8) (by omega)
    have hn : u - 8 < tk T := h8.2.1 (u - 8) (by omega) (by rw [show 8 + (u - 8) = u by omega]; exact hs)
    rw [if_pos e1, if_neg h9, e2]
    simp only [h1, Option.bind_some, gd_t (town_b h2), gd_t (inb_n (show u - 8 < 3 by omega)), tn_n (show u - 8 < 2 ^ 31 by omega), (hR.2.2.2.2.2.1 (u - 8) hn).1]
theorem C_kin (h : CX S t T bit D) {a b : Nat} (ha : a < 4) (hb : b < 4) : L_X10_areKin t (nI a) (nI b) S = some (if tF T 14 (4 * a + b) = 0 then 0 else 1) := by
  obtain ⟨-, -, hW, hR, -⟩ := h
  unfold L_X10_areKin b_X10_areKin_0
  simp only [gd_t (inb_n ha), tn_n (show a < 2 ^ 31 by omega), hR.2.2.2.2.2.2.1 a b ha hb]
  by_cases e : tF T 14 (4 * a + b) = 0 <;> simp [e]
end CDAY
