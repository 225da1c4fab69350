/-! What a day's end tells, on both sides. -/
def tt : Nat → Bool := fun _ => true
theorem k6 {k : Nat} (h : k < 6) : k = 0 ∨ k = 1 ∨ k = 2 ∨ k = 3 ∨ k = 4 ∨ k = 5 := by omega
theorem bits_m1 : ∀ k, k < 6 → ((-1 : Int32) >>> (nI k &&& 31)) &&& 1 = if tt k then 1 else 0 := by
  intro k hk
  rcases k6 hk with rfl | rfl | rfl | rfl | rfl | rfl <;> decide
theorem bits_63 : ∀ k, k < 6 → ((63 : Int32) >>> (nI k &&& 31)) &&& 1 = if tt k then 1 else 0 := by
  intro k hk
  rcases k6 hk with rfl | rfl | rfl | rfl | rfl | rfl <;> decide
/-- bits, counts, sums -/
def bts (f : Nat → Bool) : Nat → Int32
  | 0 => 0
  | k + 1 => if f k then bts f k ||| ((1 : Int32) <<< (nI k &&& 31)) else bts f k
def cnt (f : Nat → Bool) : Nat → Int32
  | 0 => 0
  | k + 1 => if f k then cnt f k + 1 else cnt f k
def sm (f : Nat → Int32) : Nat → Int32
  | 0 => 0
  | k + 1 => sm f k + f k
def kTold (s : Int32) : Int32 := if s < 0 then 2 else s
def chs (f : Nat → Int32) : Nat → Int32
  | 0 => 0
  | k + 1 => chs f k ||| (kTold (f k) <<< ((2 * nI k) &&& 31))
theorem side_v (s : Int32) : kSide s = 1 ∨ kSide s = 0 ∨ kSide s = -1 := by
  unfold kSide
  by_cases h : 0 < s
  · rw [if_pos h]; exact Or.inl rfl
  · rw [if_neg h]
    by_cases h2 : s < 0
    · rw [if_pos h2]; exact Or.inr (Or.inr rfl)
    · rw [if_neg h2]; exact Or.inr (Or.inl rfl)
section DAYEND
variable {T : TT} {b : Nat → Bool} {sh : Bool}
theorem dn_24 (hW : WT T) {p : Nat} (hp : p < tn T) : sDone T 24 0 p := by
  obtain ⟨d, h1, h2⟩ := due_n hW hp
  exact ⟨d, h1, h2, Or.inl h1⟩
theorem F_I (hW : WT T) : DI T b (sDay T b sh) 24 0 := DI_hours hW 24 (Nat.le_refl _)
theorem F_0 (hW : WT T) {p : Nat} (hp : p < tn T) : sDay T b sh 0 p = sFirst T b p := ((F_I hW).2.2.2.2 p hp (dn_24 hW hp)).1
theorem F_3 (hW : WT T) {p : Nat} (hp : p < tn T) : (sDay T b sh 2 p = -4 ∧ sDay T b sh 3 p = 0 ∧ sDay T b sh 1 p = kSide (sFirst T b p)) ∨ ∃ u, u < 11 ∧ sDay T b sh 2 p = nI u ∧ sDay T b sh 8 u = nI p ∧ sDay T b sh 4 u ≠ 0 ∧ sDay T b sh 6 u ≤ sDue T p ∧ sDay T b sh 1 p = sDay T b sh 4 u ∧ sDay T b sh 3 p ≤ tF T 4 p := ((F_I hW).2.2.2.2 p hp (dn_24 hW hp)).2
theorem F_8 (hW : WT T) {u : Nat} (hu : u < 11) : sDay T b sh 8 u = -4 ∨ (sDay T b sh 4 u ≠ 0 ∧ ∃ q, q < tn T ∧ sDay T b sh 8 u = nI q ∧ sDay T b sh 2 q = nI u) := by
  rcases (F_I hW).2.2.2.1 u hu with h | ⟨h1, q, h2, -, h3, h4⟩
  · exact Or.inl h
  · exact Or.inr ⟨h1, q, h2, h3, h4⟩
theorem F_4 (hW : WT T) {u : Nat} (hu : u < 11) : sDay T b sh 4 u = 0 ∨ (vN (sDay T b sh) 24 u ∧ (sDay T b sh 4 u = 1 ∨ sDay T b sh 4 u = -1) ∧ (u < 8 → u < tn T ∧ sDay T b sh 6 u = sAt T u ∧ sDay T b sh 5 u = kStr (tK T u) (tF T 0 u) (sSec T b u))) := by
  have I := F_I (b := b) (sh := sh) hW
  by_cases h0 : sDay T b sh 4 u = 0
  · exact Or.inl h0
  · obtain ⟨h1, h2, d, d1, d2⟩ := DI_of hW I hu h0
    refine Or.inr ⟨⟨h0, d, d1, d2, d1⟩, ?_, fun h8 => ?_⟩
    · rcases Nat.lt_or_ge u 8 with z | z
      · have hn := (h1 z).1
        have e := (I.1 u hn (dn_24 hW hn)).1
        by_cases tr : sTurns T b (sDay T b sh) u = true
        · rw [if_pos tr] at e
          rw [e] at h0 ⊢
          rcases side_v (sSec T b u) with y | y | y
          · exact Or.inl y
          · exact absurd y h0
          · exact Or.inr y
        · rw [if_neg tr] at e
          exact absurd e h0
      · have hk := (h2 z).1
        have e := I.2.2.1 (u - 8) (by omega)
        rw [if_pos hk, show 8 + (u - 8) = u by omega] at e
        rw [e.1]
        exact (hW.2.2.2.2.2.1 (u - 8) hk).2.1
    · have hn := (h1 h8).1
      obtain ⟨e, e2⟩ := I.1 u hn (dn_24 hW hn)
      have tr : sTurns T b (sDay T b sh) u = true := by
        cases z : sTurns T b (sDay T b sh) u with
        | true => rfl
        | false => rw [z, if_neg (by decide)] at e; exact absurd e h0
      exact ⟨hn, (e2 tr).2.1, (e2 tr).1⟩
theorem F_vN (hW : WT T) {u : Nat} (hu : u < 11) : vN (sDay T b sh) 24 u ↔ sDay T b sh 4 u ≠ 0 := by
  constructor
  · exact fun h => h.1
  · intro h
    rcases F_4 (b := b) (sh := sh) hW hu with z | z
    · exact absurd z h
    · exact z.1
theorem F_1 (hW : WT T) {p : Nat} (hp : p < tn T) : sDay T b sh 1 p = 1 ∨ sDay T b sh 1 p = 0 ∨ sDay T b sh 1 p = -1 := by
  rcases F_3 (b := b) (sh := sh) hW hp with ⟨-, -, e⟩ | ⟨u, hu, -, -, h4, -, e, -⟩
  · rw [e]; exact side_v _
  · rw [e]
    rcases F_4 (b := b) (sh := sh) hW hu with z | ⟨-, z | z, -⟩
    · exact absurd z h4
    · exact Or.inl z
    · exact Or.inr (Or.inr z)
theorem F_2 (hW : WT T) {p : Nat} (hp : p < tn T) : sDay T b sh 2 p = -4 ∨ ∃ u, u < 11 ∧ sDay T b sh 2 p = nI u := by
  rcases F_3 (b := b) (sh := sh) hW hp with ⟨e, -, -⟩ | ⟨u, hu, e, -⟩
  · exact Or.inl e
  · exact Or.inr ⟨u, hu, e⟩
end DAYEND
/-- the class behind a day's run -/
def DC (X : St) (t : Nat) (T : TT) (b : Nat → Bool) : Prop := CX X t T b (sDay T b false) ∧ CD X T (sDay T b false) (fun _ => True)
theorem C_go {S : St} {t : Nat} {T : TT} {b : Nat → Bool} (ht : isTown t) (hW : WT T) (hR : repC S t T) {v : Int32} (hb : ∀ k, k < 6 → (v >>> (nI k &&& 31)) &&& 1 = if b k then 1 else 0) : ∃ X, L_X2_run t v S = some X ∧ UpD S X ∧ DC X t T b ∧ (∀ a, ¬ PD a → gi X a = gi S a) ∧ ∀ a, a ≠ 55 → gr X a = gr S a := by
  obtain ⟨X, x1, x2, x3, x4⟩ := C_run ht hW hR hb
  exact ⟨X, x1, UpD_tr (UpD_sr (by decide) (UpD_refl S) 0 (some t)) (UpD_FR (fun a h => by have := h.1; have := h.2; omega) x2), ⟨x3, x4⟩, fun a ha => x2.1 a ha, fun a ha => (FR_gr x2 a).trans (gr_sr_n _ _ _ ha)⟩
section CENDS
variable {X : St} {t : Nat} {T : TT} {b : Nat → Bool}
theorem C_W (h : DC X t T b) : WT T ∧ tn T ≤ 8 ∧ gr X 55 0 = some t ∧ isTownB t = true ∧ gi X t 0 = nI (tn T) ∧ isTown t ∧ repC X t T := ⟨h.1.2.2.1, h.1.2.2.1.1, h.1.1, town_b h.1.2.1, h.1.2.2.2.1.1, h.1.2.1, h.1.2.2.2.1⟩
theorem C_pick (h : DC X t T b) {p : Nat} (hp : p < tn T) : gi X 57 p = sDay T b false 0 p ∧ gi X 58 p = sDay T b false 1 p ∧ gi X 59 p = sDay T b false 2 p ∧ gi X 60 p = sDay T b false 3 p := h.2 p hp trivial
theorem C_sell (h : DC X t T b) {u : Nat} (hu : u < 11) : gi X 61 u = sDay T b false 4 u ∧ gi X 65 u = sDay T b false 8 u ∧ (sDay T b false 4 u ≠ 0 → gi X 62 u = sDay T b false 5 u ∧ gi X 63 u = sDay T b false 6 u) := by
  obtain ⟨h1, h2, h3⟩ := h.1.2.2.2.2.2.2.1 u hu
  exact ⟨h1, h2, fun z => ⟨(h3 z).1, (h3 z).2.1⟩⟩
theorem C_due (h : DC X t T b) {p : Nat} (hp : p < tn T) : gi X 56 p = sDue T p := h.1.2.2.2.2.2.1 p hp
theorem C_told (h : DC X t T b) {p : Nat} (hp : p < tn T) : L_X2_toldChoice (nI p) X = some (kTold (sDay T b false 1 p)) := by
  obtain ⟨hW, n8, -⟩ := C_W h
  unfold L_X2_toldChoice b_X2_toldChoice_0 kTold
  simp only [gd_t (inb_n (show p < 8 by omega)), tn_n (show p < 2 ^ 31 by omega), (C_pick h hp).2.1]
  rcases F_1 (b := b) (sh := false) hW hp with e | e | e <;> rw [e] <;> decide
theorem C_yes (h : DC X t T b) : L_X2_sayYes X = some (bts (fun p => decide (sDay T b false 1 p = 1)) (tn T)) := by
  obtain ⟨hW, n8, c1, c2, c3, -⟩ := C_W h
  unfold L_X2_sayYes b_X2_sayYes_0
  refine lp_br _ (fun k => (bts (fun p => decide (sDay T b false 1 p = 1)) k, nI k)) (tn T) _ (fun k hk => ?_) ?_ 1000 (by omega)
  · have e1 : ¬ nI (tn T) ≤ nI k := nI_ge hk (by omega)
    simp only [l_X2_sayYes_4, b_X2_sayYes_4, b_X2_sayYes_30, c1, Option.bind_some, gd_t c2, c3, if_neg e1, gd_t (inb_n (show k < 8 by omega)), tn_n (show k < 2 ^ 31 by omega), (C_pick h hk).2.1, nI_1, bts]
    rcases F_1 (b := b) (sh := false) hW hk with e | e | e <;> simp [e]
  · simp only [l_X2_sayYes_4, b_X2_sayYes_4, c1, Option.bind_some, gd_t c2, c3, if_pos (Int32.le_refl _)]
theorem C_choices (h : DC X t T b) : L_X2_choices X = some (chs (sDay T b false 1) (tn T)) := by
  obtain ⟨hW, n8, c1, c2, c3, -⟩ := C_W h
  unfold L_X2_choices b_X2_choices_0
  refine lp_br _ (fun k => (chs (sDay T b false 1) k, nI k)) (tn T) _ (fun k hk => ?_) ?_ 1000 (by omega)
  · have e1 : ¬ nI (tn T) ≤ nI k := nI_ge hk (by omega)
    simp only [l_X2_choices_4, b_X2_choices_4, c1, Option.bind_some, gd_t c2, c3, if_neg e1, C_told h hk, nI_1, chs]
  · simp only [l_X2_choices_4, b_X2_choices_4, c1, Option.bind_some, gd_t c2, c3, if_pos (Int32.le_refl _)]
theorem C_chose (h : DC X t T b) (s : Int32) : L_X2_howManyChoose s X = some (cnt (fun p => decide (sDay T b false 1 p = s)) (tn T)) := by
  obtain ⟨hW, n8, c1, c2, c3, -⟩ := C_W h
  unfold L_X2_howManyChoose b_X2_howManyChoose_0
  refine lp_br _ (fun k => (s, cnt (fun p => decide (sDay T b false 1 p = s)) k, nI k)) (tn T) _ (fun k hk => ?_) ?_ 1000 (by omega)
  · have e1 : ¬ nI (tn T) ≤ nI k := nI_ge hk (by omega)
    simp only [l_X2_howManyChoose_4, b_X2_howManyChoose_4, b_X2_howManyChoose_31, c1, Option.bind_some, gd_t c2, c3, if_neg e1, gd_t (inb_n (show k < 8 by omega)), tn_n (show k < 2 ^ 31 by omega), (C_pick h hk).2.1, nI_1, cnt]
    by_cases e : sDay T b false 1 k = s <;> simp [e]
  · simp only [l_X2_howManyChoose_4, b_X2_howManyChoose_4, c1, Option.bind_some, gd_t c2, c3, if_pos (Int32.le_refl _)]
theorem C_sold (h : DC X t T b) : L_X2_howManySold X = some (cnt (fun p => decide (0 ≤ sDay T b false 2 p)) (tn T)) := by
  obtain ⟨hW, n8, c1, c2, c3, -⟩ := C_W h
  unfold L_X2_howManySold b_X2_howManySold_0
  refine lp_br _ (fun k => (cnt (fun p => decide (0 ≤ sDay T b false 2 p)) k, nI k)) (tn T) _ (fun k hk => ?_) ?_ 1000 (by omega)
  · have e1 : ¬ nI (tn T) ≤ nI k := nI_ge hk (by omega)
    simp only [l_X2_howManySold_4, b_X2_howManySold_4, b_X2_howManySold_30, c1, Option.bind_some, gd_t c2, c3, if_neg e1, gd_t (inb_n (show k < 8 by omega)), tn_n (show k < 2 ^ 31 by omega), (C_pick h hk).2.2.1, nI_1, cnt]
    by_cases e : 0 ≤ sDay T b false 2 k
    · simp [e, Int32.not_lt.mpr e]
    · simp [e, Int32.not_le.mp e]
  · simp only [l_X2_howManySold_4, b_X2_howManySold_4, c1, Option.bind_some, gd_t c2, c3, if_pos (Int32.le_refl _)]
theorem C_paid (h : DC X t T b) : L_X2_allPaid X = some (sm (sDay T b false 3) (tn T)) := by
  obtain ⟨hW, n8, c1, c2, c3, -⟩ := C_W h
  unfold L_X2_allPaid b_X2_allPaid_0
  refine lp_br _ (fun k => (sm (sDay T b false 3) k, nI k)) (tn T) _ (fun k hk => ?_) ?_ 1000 (by omega)
  · have e1 : ¬ nI (tn T) ≤ nI k := nI_ge hk (by omega)
    simp only [l_X2_allPaid_4, b_X2_allPaid_4, c1, Option.bind_some, gd_t c2, c3, if_neg e1, gd_t (inb_n (show k < 8 by omega)), tn_n (show k < 2 ^ 31 by omega), (C_pick h hk).2.2.2, nI_1, sm]
  · simp only [l_X2_allPaid_4, b_X2_allPaid_4, c1, Option.bind_some, gd_t c2, c3, if_pos (Int32.le_refl _)]
theorem C_regret (h : DC X t T b) : L_X2_howManyRegret X = some (cnt (fun p => decide (sDay T b false 4 p ≠ 0)) (tn T)) := by
  obtain ⟨hW, n8, c1, c2, c3, -⟩ := C_W h
  unfold L_X2_howManyRegret b_X2_howManyRegret_0
  refine lp_br _ (fun k => (cnt (fun p => decide (sDay T b false 4 p ≠ 0)) k, nI k)) (tn T) _ (fun k hk => ?_) ?_ 1000 (by omega)
  · have e1 : ¬ nI (tn T) ≤ nI k := nI_ge hk (by omega)
    simp only [l_X2_howManyRegret_4, b_X2_howManyRegret_4, b_X2_howManyRegret_30, c1, Option.bind_some, gd_t c2, c3, if_neg e1, gd_t (inb_n (show k < 11 by omega)), tn_n (show k < 2 ^ 31 by omega), (C_sell h (show k < 11 by omega)).1, nI_1, cnt]
    by_cases e : sDay T b false 4 k = 0 <;> simp [e]
  · simp only [l_X2_howManyRegret_4, b_X2_howManyRegret_4, c1, Option.bind_some, gd_t c2, c3, if_pos (Int32.le_refl _)]
theorem C_coinsAt (h : DC X t T b) {p : Nat} (hp : p < tn T) (hr : Int32) : L_X2_coinsAt (nI p) hr X = some (sCoins T (sDay T b false) p hr) := by
  obtain ⟨hW, n8, c1, c2, c3, c4, c5⟩ := C_W h
  have p8 : p < 8 := by omega
  obtain ⟨-, c65, -⟩ := C_sell h (show p < 11 by omega)
  have c60 := (C_pick h hp).2.2.2
  have cc := (c5.2.2.2.1 p hp).2.2.2.2
  have key : ∀ v, b_X2_coinsAt_29 (nI p) hr v X = some (v + (if 0 ≤ sDay T b false 8 p ∧ sDue T (sDay T b false 8 p).toNatClampNeg ≤ hr then sDay T b false 3 (sDay T b false 8 p).toNatClampNeg else 0)) := by
    intro v
    unfold b_X2_coinsAt_29
    simp only [gd_t (inb_n (show p < 11 by omega)), tn_n (show p < 2 ^ 31 by omega), c65]
    rcases F_8 (b := b) (sh := false) hW (show p < 11 by omega) with e | ⟨-, q, hq, e, -⟩
    · rw [e, if_pos (by decide), if_neg (fun z => absurd z.1 (by decide)), Int32.add_zero]
    · have q31 : q < 2 ^ 31 := by omega
      have e0 : ¬ nI q < 0 := nI_pos q31
      have e0' : (0 : Int32) ≤ nI q := nI_pos' q31
      simp only [e, if_neg e0, gd_t (inb_n (show q < 8 by omega)), tn_n q31, C_due h hq, (C_pick h hq).2.2.2]
      by_cases z : hr < sDue T q
      · rw [if_pos z, if_neg (fun y => absurd y.2 (Int32.not_le.mpr z)), Int32.add_zero]
      · rw [if_neg z, if_pos ⟨e0', Int32.not_lt.mp z⟩]
  unfold L_X2_coinsAt b_X2_coinsAt_0 sCoins
  simp only [c1, Option.bind_some, gd_t c2, gd_t (inb_n p8), tn_n (show p < 2 ^ 31 by omega), C_due h hp, cc, c60, key]
  by_cases z : hr < sDue T p
  · rw [if_pos z, if_neg (Int32.not_le.mpr z)]
  · rw [if_neg z, if_pos (Int32.not_lt.mp z)]
end CENDS
section RENDS
variable {X : St} {T : TT} {b : Nat → Bool} {sh : Bool}
end RENDS
