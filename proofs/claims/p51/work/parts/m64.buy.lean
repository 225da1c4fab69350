/-! What one buys: the best of the thoughts for sale. -/
def sOk (T : TT) (D : Nat → Nat → Int32) (p : Nat) (own h : Int32) (u : Nat) : Prop := sSale T D u h = true ∧ tF T 14 (4 * (tF T 1 p).toNatClampNeg + (sCase T u).toNatClampNeg) ≠ 0 ∧ kBuys (tK T p) (sLeft D u h) own ≠ 0 ∧ sPrice T D u h ≤ tF T 4 p
def sWins (T : TT) (D : Nat → Nat → Int32) (p : Nat) (own h : Int32) (u : Nat) (s : Int32 × Int32 × Int32) : Bool := sSale T D u h && decide (tF T 14 (4 * (tF T 1 p).toNatClampNeg + (sCase T u).toNatClampNeg) ≠ 0) && decide (kBuys (tK T p) (sLeft D u h) own ≠ 0) && decide (sPrice T D u h ≤ tF T 4 p) && (decide (s.1 < 0) || decide (s.2.1 < sLeft D u h) || (decide (sLeft D u h = s.2.1) && decide (sPrice T D u h < s.2.2)))
/-- of the thoughts 0 .. u-1: which is taken (-4 none), what is left of it, its price -/
def sBest (T : TT) (D : Nat → Nat → Int32) (p : Nat) (own h : Int32) : Nat → Int32 × Int32 × Int32
  | 0 => (-4, 0, 0)
  | u + 1 => if sWins T D p own h u (sBest T D p own h u) then (nI u, sLeft D u h, sPrice T D u h) else sBest T D p own h u
theorem si_over (S : St) (k i : Nat) (v w : Int32) : si (si S k i v) k i w = si S k i w := by
  unfold si
  refine Prod.ext (funext fun a => ?_) rfl
  by_cases h : a = k
  · simp only [h, if_true]
    funext j
    by_cases hj : j = i <;> simp [upd, hj]
  · simp only [h, if_false]
theorem si_comm (S : St) {k1 k2 : Nat} (i1 i2 : Nat) (v w : Int32) (h : k1 ≠ k2) : si (si S k1 i1 v) k2 i2 w = si (si S k2 i2 w) k1 i1 v := by
  unfold si
  refine Prod.ext (funext fun a => ?_) rfl
  by_cases h1 : a = k1
  · subst h1
    simp [h]
  · by_cases h2 : a = k2
    · subst h2
      simp [h1, Ne.symm h]
    · simp [h1, h2]
theorem si_4 (S : St) (p : Nat) (a b c d : Int32) : si (si (si (si S 59 p a) 60 p b) 59 p c) 60 p d = si (si S 59 p c) 60 p d := by
  rw [si_comm (si S 59 p a) p p b c (by decide), si_over, si_over]
theorem upd_s (f : Nat → Int32) (i : Nat) (v : Int32) : upd f i v i = v := by simp [upd]
theorem upd_n (f : Nat → Int32) {i j : Nat} (v : Int32) (h : j ≠ i) : upd f i v j = f j := by simp [upd, h]
theorem sale_ne {T : TT} {D : Nat → Nat → Int32} {u : Nat} {h : Int32} (e : sSale T D u h = true) : D 4 u ≠ 0 := by
  unfold sSale at e
  simp only [Bool.and_eq_true, decide_eq_true_eq] at e
  exact e.1.1.1
section CBUY
variable {S : St} {t : Nat} {T : TT} {bit : Nat → Bool} {D : Nat → Nat → Int32}
theorem CX_60 (h : CX S t T bit D) (p : Nat) (b c : Int32) : CX (si (si S 59 p b) 60 p c) t T bit D := CX_congr (S := S) (fun a ha => by rw [gi_si_n _ _ _ (by omega), gi_si_n _ _ _ (by omega)]) (fun _ => rfl) (fun _ => rfl) h
theorem C_price (h : CX S t T bit D) {u : Nat} (hu : u < 8) (hs : D 4 u ≠ 0) : ∃ q, gr S (t + 1) u = some q ∧ gq S q = some (tK T u, tF T 0 u) ∧ tK T u < 8 := by
  obtain ⟨-, -, hW, hR, -, -, -, h8⟩ := h
  have hn := h8.1 u hu hs
  obtain ⟨⟨q, e1, e2⟩, -⟩ := hR.2.2.2.1 u hn
  exact ⟨q, e1, e2, (hW.2.2.2.1 u hn).1⟩
theorem case_n (hW : WT T) (hD : WD T D) {u : Nat} (hu : u < 11) (hs : D 4 u ≠ 0) : ∃ c, c < 4 ∧ sCase T u = nI c := by
  unfold sCase
  by_cases h9 : u < 8
  · rw [if_pos h9]
    exact (hW.2.2.2.1 u (hD.1 u h9 hs)).2.2.1
  · rw [if_neg h9]
    exact (hW.2.2.2.2.2.1 (u - 8) (hD.2.1 (u - 8) (by omega) (by rw [show 8 + (u - 8) = u by omega]; exact hs))).1
theorem C_buy (h : CX S t T bit D) {p : Nat} (hp : p < tn T) : L_X2_buyBest (nI p) S = some (si (si S 59 p (sBest T D p (kStr (tK T p) (tF T 0 p) (gi S 57 p)) (sDue T p) 11).1) 60 p (sBest T D p (kStr (tK T p) (tF T 0 p) (gi S 57 p)) (sDue T p) 11).2.2) := by
  obtain ⟨h1, h2, hW, hR, -, h6, -, hD⟩ := id h
  obtain ⟨⟨q, e1, e2⟩, e3, -, -, e7⟩ := hR.2.2.2.1 p hp
  have p8 : p < 8 := by have := hW.1; omega
  obtain ⟨hk, -, ⟨c, hc4, hc⟩, -⟩ := hW.2.2.2.1 p hp
  unfold L_X2_buyBest b_X2_buyBest_0
  simp only [h1, Option.bind_some, gd_t (town_b h2), gd_t (inb_n p8), tn_n (show p < 2 ^ 31 by omega), e1, V_str e2 hk, nm]
  generalize kStr (tK T p) (tF T 0 p) (gi S 57 p) = own
  refine lp_br _ (fun k => (nI p, q, own, (sBest T D p own (sDue T p) k).2.1, nI k, si (si S 59 p (sBest T D p own (sDue T p) k).1) 60 p (sBest T D p own (sDue T p) k).2.2)) 11 _ (fun k hk11 => ?_) ?_ 1000 (by decide)
  · generalize hs0 : sBest T D p own (sDue T p) k = s0
    have hsB : sBest T D p own (sDue T p) (k + 1) = if sWins T D p own (sDue T p) k s0 then (nI k, sLeft D k (sDue T p), sPrice T D k (sDue T p)) else s0 := by rw [sBest, hs0]
    simp only [hsB]
    have h' := CX_60 h p s0.1 s0.2.2
    have g59 : gi (si (si S 59 p s0.1) 60 p s0.2.2) 59 p = s0.1 := by rw [gi_si_n _ _ _ (by decide), gi_si_s, upd_s]
    have g60 : gi (si (si S 59 p s0.1) 60 p s0.2.2) 60 p = s0.2.2 := by rw [gi_si_s, upd_s]
    have over : ∀ x y, si (si (si (si S 59 p s0.1) 60 p s0.2.2) 59 p x) 60 p y = si (si S 59 p x) 60 p y := fun x y => si_4 S p _ _ x y
    have q2 : gq (si (si S 59 p s0.1) 60 p s0.2.2) q = some (tK T p, tF T 0 p) := (gq_local rfl).trans e2
    generalize hS' : si (si S 59 p s0.1) 60 p s0.2.2 = S' at h' g59 g60 over q2
    obtain ⟨i1, -, -, iR, -, i6, -, -⟩ := id h'
    obtain ⟨-, j3, -, -, j7⟩ := iR.2.2.2.1 p hp
    have e11 : ¬ (11 : Int32) ≤ nI k := nI_ge (b := 11) hk11 (by decide)
    have e56 : gi S' 56 p = sDue T p := i6 p hp
    simp only [l_X2_buyBest_42, b_X2_buyBest_42, if_neg e11, gd_t (inb_n p8), tn_n (show p < 2 ^ 31 by omega), e56, C_sale h' hk11, Option.bind_some, i1, gd_t (town_b h2), j3]
    have stop : b_X2_buyBest_236 (nI p) q own s0.2.1 (nI k) S' = some (.inl (nI p, q, own, s0.2.1, nI (k + 1), S')) := by unfold b_X2_buyBest_236; rw [nI_1]
    by_cases hs : sSale T D k (sDue T p) = true
    · have hn4 := sale_ne hs
      obtain ⟨cu, hcu4, hcu⟩ := case_n hW hD hk11 hn4
      have eK := C_kin h' hc4 hcu4
      rw [← hc, ← hcu] at eK
      simp only [hs, if_true, C_case h' hk11 hn4, Option.bind_some, eK]
      have eT : tF T 14 (4 * (tF T 1 p).toNatClampNeg + (sCase T k).toNatClampNeg) = tF T 14 (4 * c + cu) := by rw [hc, hcu, nI_clamp (by omega), nI_clamp (by omega)]
      by_cases hkin : tF T 14 (4 * c + cu) = 0
      · have hw : sWins T D p own (sDue T p) k s0 = false := by unfold sWins; rw [eT]; simp [hkin]
        simp [hkin, hw, stop, hS']
      · have key : ∀ pr, pr = sPrice T D k (sDue T p) → b_X2_buyBest_153 (nI p) q own s0.2.1 (nI k) (sLeft D k (sDue T p)) pr S' = some (.inl (nI p, q, own, (if sWins T D p own (sDue T p) k s0 then (nI k, sLeft D k (sDue T p), sPrice T D k (sDue T p)) else s0).2.1, nI (k + 1), si (si S 59 p (if sWins T D p own (sDue T p) k s0 then (nI k, sLeft D k (sDue T p), sPrice T D k (sDue T p)) else s0).1) 60 p (if sWins T D p own (sDue T p) k s0 then (nI k, sLeft D k (sDue T p), sPrice T D k (sDue T p)) else s0).2.2)) := by
          intro pr hpr
          subst hpr
          unfold b_X2_buyBest_153
          have take : b_X2_buyBest_216 (nI p) q own (nI k) (sLeft D k (sDue T p)) (sPrice T D k (sDue T p)) S' = some (.inl (nI p, q, own, sLeft D k (sDue T p), nI (k + 1), si (si S 59 p (nI k)) 60 p (sPrice T D k (sDue T p)))) := by
            unfold b_X2_buyBest_216 b_X2_buyBest_236
            simp only [gd_t (inb_n p8), tn_n (show p < 2 ^ 31 by omega), nm, over, nI_1]
          simp only [V_buys q2 hk, Option.bind_some, i1, gd_t (town_b h2), gd_t (inb_n p8), tn_n (show p < 2 ^ 31 by omega), j7, g59, g60, take, stop]
          by_cases hb : kBuys (tK T p) (sLeft D k (sDue T p)) own = 0
          · have hw : sWins T D p own (sDue T p) k s0 = false := by unfold sWins; simp [hb]
            simp [hb, hw, hS']
          · by_cases hc1 : sPrice T D k (sDue T p) ≤ tF T 4 p
            · by_cases w1 : s0.1 < 0
              · have hw : sWins T D p own (sDue T p) k s0 = true := by unfold sWins; rw [eT]; simp [hs, hkin, hb, hc1, w1]
                simp [hb, hc1, w1, hw]
              · by_cases w2 : s0.2.1 < sLeft D k (sDue T p)
                · have hw : sWins T D p own (sDue T p) k s0 = true := by unfold sWins; rw [eT]; simp [hs, hkin, hb, hc1, w2]
                  simp [hb, hc1, w1, w2, hw]
                · by_cases w3 : sLeft D k (sDue T p) = s0.2.1
                  · have hb2 : ¬ kBuys (tK T p) s0.2.1 own = 0 := by rw [← w3]; exact hb
                    by_cases w4 : sPrice T D k (sDue T p) < s0.2.2
                    · have hw : sWins T D p own (sDue T p) k s0 = true := by unfold sWins; rw [eT]; simp [hs, hkin, hb2, hc1, w3, w4]
                      simp [hb2, hc1, w1, w2, w3, w4, Int32.not_le.mpr w4, hw]
                    · have hw : sWins T D p own (sDue T p) k s0 = false := by unfold sWins; simp [w1, w2, w4]
                      simp [hb2, hc1, w1, w2, w3, Int32.not_lt.mp w4, hw, hS']
                  · have hw : sWins T D p own (sDue T p) k s0 = false := by unfold sWins; simp [w1, w2, w3]
                    simp [hb, hc1, w1, w2, w3, hw, hS']
            · have hw : sWins T D p own (sDue T p) k s0 = false := by unfold sWins; simp [hc1]
              simp [hb, hc1, hw, hS']
        simp only [hkin, if_false, C_left h' hk11 hn4, Option.bind_some]
        by_cases h9 : k < 8
        · have e8 : ¬ (8 : Int32) ≤ nI k := nI_ge (b := 8) h9 (by decide)
          obtain ⟨qk, r1, r2, r3⟩ := C_price h' h9 hn4
          have er : gi S' (t + 17) 2 = tF T 15 2 := iR.2.2.2.2.2.2.2 2 (by decide)
          have e2c : ((2 : Int32)).toNatClampNeg = 2 := by decide
          simp only [if_neg e8, gd_t (inb_n h9), tn_n (show k < 2 ^ 31 by omega), r1, Option.bind_some, gd_t (show inb 2 3 = true by decide), e2c, er, V_price r2 r3]
          simpa using key _ (by unfold sPrice; rw [if_pos h9])
        · have e8 : (8 : Int32) ≤ nI k := nI_le (a := 8) (by omega) (by omega)
          have e9 : nI k - 8 = nI (k - 8) := pk_sub (b := 8) (by omega)
          have hk3 : k - 8 < tk T := hD.2.1 (k - 8) (by omega) (by rw [show 8 + (k - 8) = k by omega]; exact hn4)
          have e10 := (iR.2.2.2.2.2.1 (k - 8) hk3).2.2.2.1
          simp only [if_pos e8, e9, gd_t (inb_n (show k - 8 < 3 by omega)), tn_n (show k - 8 < 2 ^ 31 by omega), e10]
          simpa using key _ (by unfold sPrice; rw [if_neg h9])
    · have hs' : sSale T D k (sDue T p) = false := by cases hx : sSale T D k (sDue T p) with
        | true => exact absurd hx hs
        | false => rfl
      have hw : sWins T D p own (sDue T p) k s0 = false := by unfold sWins; simp [hs']
      simp [hs', hw, stop, hS']
  · have e11 : (11 : Int32) ≤ nI 11 := by decide
    simp only [l_X2_buyBest_42, b_X2_buyBest_42, if_pos e11]
end CBUY
