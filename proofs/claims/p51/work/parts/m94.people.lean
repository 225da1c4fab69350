/-! kin, count; one comes, one leaves. -/
def wK (T : TT) (a b : Nat) : TT := wF (wF T 14 (4 * a + b) (1 - tF T 14 (4 * a + b))) 14 (4 * b + a) (1 - tF T 14 (4 * a + b))
def addO (T : TT) (kd : Nat) (fg c h m co : Int32) : TT := ((tn T + 1, tm T, tk T), fun p => if p = tn T then kd else tK T p, uD (uD (uD (uD (uD (tF T) 0 (tn T) fg) 1 (tn T) c) 2 (tn T) h) 3 (tn T) m) 4 (tn T) co)
def delO (T : TT) (j : Nat) : TT := ((tn T - 1, tm T, tk T), fun p => if j ≤ p then tK T (p + 1) else tK T p, fun r p => if r ≤ 4 ∧ j ≤ p then tF T r (p + 1) else tF T r p)
section PEOPLE
variable {S S' X : St} {T T' : TT} {im : Option TT} {sh : Nat → Sh} {m : Option TT × (Nat → Sh)} {t d : Nat}
theorem wK_at (a b i : Nat) : tF (wK T a b) 14 i = if i = 4 * b + a ∨ i = 4 * a + b then 1 - tF T 14 (4 * a + b) else tF T 14 i := by
  show uD (uD (tF T) 14 (4 * a + b) (1 - tF T 14 (4 * a + b))) 14 (4 * b + a) (1 - tF T 14 (4 * a + b)) 14 i = _
  rw [uD_s]
  by_cases e : i = 4 * b + a
  · rw [e, upd_s, if_pos (Or.inl rfl)]
  · rw [upd_n _ _ e, uD_s]
    by_cases e2 : i = 4 * a + b
    · rw [e2, upd_s, if_pos (Or.inr rfl)]
    · rw [upd_n _ _ e2, if_neg (fun z => z.elim e e2)]
theorem wK_r {r : Nat} (h : r ≠ 14) (a b : Nat) : tF (wK T a b) r = tF T r := by
  show uD (uD (tF T) 14 _ _) 14 _ _ r = _
  rw [uD_n _ _ _ h, uD_n _ _ _ h]
theorem kin_01 (hW : WT T) {a b : Nat} (ha : a < 4) (hb : b < 4) : (tF T 14 (4 * a + b) = 0 ∨ tF T 14 (4 * a + b) = 1) ∧ tF T 14 (4 * a + b) = tF T 14 (4 * b + a) := hW.2.2.2.2.2.2.1 a b ha hb
theorem WT_wK (hW : WT T) {a b : Nat} (ha : a < 4) (hb : b < 4) (hab : a ≠ b) : WT (wK T a b) := by
  have k1 := kin_01 hW ha hb
  obtain ⟨h1, h2, h3, h4, h5, h6, h7, h8, h9⟩ := hW
  refine ⟨h1, h2, h3, fun p hp => ?_, fun f hf => ?_, fun i hi => ?_, fun x y hx hy => ?_, fun x hx => ?_, ?_⟩
  · rw [wK_r (by decide), wK_r (by decide), wK_r (by decide), wK_r (by decide), wK_r (by decide)]; exact h4 p hp
  · rw [wK_r (by decide), wK_r (by decide), wK_r (by decide), wK_r (by decide)]; exact h5 f hf
  · rw [wK_r (by decide), wK_r (by decide), wK_r (by decide), wK_r (by decide), wK_r (by decide)]; exact h6 i hi
  · rw [wK_at, wK_at]
    by_cases e : 4 * x + y = 4 * b + a ∨ 4 * x + y = 4 * a + b
    · rw [if_pos e, if_pos (show 4 * y + x = 4 * b + a ∨ 4 * y + x = 4 * a + b by omega)]
      refine ⟨?_, rfl⟩
      rcases k1.1 with z | z
      · rw [z]; exact Or.inr (by decide)
      · rw [z]; exact Or.inl (by decide)
    · rw [if_neg e, if_neg (show ¬ (4 * y + x = 4 * b + a ∨ 4 * y + x = 4 * a + b) by omega)]
      exact h7 x y hx hy
  · rw [wK_at, if_neg (by omega)]
    exact h8 x hx
  · rw [wK_r (by decide)]; exact h9
theorem bit_x (x : Int32) {b j : Nat} (hb : b < 4) (hj : j < 4) {v : Int32} (h : (x >>> (nI j &&& 31)) &&& 1 = v) (hv : v = 0 ∨ v = 1) : ((x ^^^ ((1 : Int32) <<< (nI b &&& 31))) >>> (nI j &&& 31)) &&& 1 = if j = b then 1 - v else v := by
  rw [bit_of _ (by omega)] at h ⊢
  rw [bt_xor, bt_1shl (by omega) j (by omega)]
  by_cases e : j = b
  · rw [if_pos e, decide_eq_true e, ← h]
    cases bt x j <;> decide
  · rw [if_neg e, decide_eq_false e, Bool.xor_false]
    exact h
theorem C_turnKin (ht : isTown t) (hW : WT T) (hR : repC S t T) (x y : Int32) :
    (¬ ((0 ≤ x ∧ x ≤ 3) ∧ (0 ≤ y ∧ y ≤ 3) ∧ x ≠ y) → L_X10_turnKin t x y S = some (-1, S)) ∧
    (∀ a b, a < 4 → b < 4 → a ≠ b → ∃ S', L_X10_turnKin t (nI a) (nI b) S = some (tF (wK T a b) 14 (4 * a + b), S') ∧ repC S' t (wK T a b) ∧ FR (PT t) S S') := by
  constructor
  · intro nok
    unfold L_X10_turnKin b_X10_turnKin_0
    rw [A_isOut, A_isOut]
    by_cases h1 : 0 ≤ x ∧ x ≤ 3
    · by_cases h2 : 0 ≤ y ∧ y ≤ 3
      · by_cases h3 : x = y
        · simp [h2, h3]
        · exact absurd ⟨h1, h2, h3⟩ nok
      · simp [h1, h2]
    · simp [h1]
  · intro a b ha hb hab
    have a3 : (0 : Int32) ≤ nI a ∧ nI a ≤ 3 := ⟨nI_pos' (by omega), nI_le (b := 3) (by omega) (by decide)⟩
    have b3 : (0 : Int32) ≤ nI b ∧ nI b ≤ 3 := ⟨nI_pos' (by omega), nI_le (b := 3) (by omega) (by decide)⟩
    have nab : ¬ nI a = nI b := fun z => hab ((nI_eq (by omega) (by omega)).mp z)
    obtain ⟨k1, k2⟩ := kin_01 hW ha hb
    have kk := hR.2.2.2.2.2.2.1
    have bits : ∀ i j, i < 4 → j < 4 → (gi (si (si S (t + 16) a ((gi S (t + 16) a) ^^^ ((1 : Int32) <<< (nI b &&& 31)))) (t + 16) b ((gi S (t + 16) b) ^^^ ((1 : Int32) <<< (nI a &&& 31)))) (t + 16) i >>> (nI j &&& 31)) &&& 1 = tF (wK T a b) 14 (4 * i + j) := by
      intro i j hi hj
      obtain ⟨q1, q2⟩ := kin_01 hW hi hj
      rw [wK_at, gi_si_s, gi_si_s]
      by_cases e1 : i = b
      · subst e1
        rw [upd_s, bit_x _ ha hj (kk i j hi hj) q1]
        by_cases e : j = a
        · subst e
          rw [if_pos rfl, if_pos (Or.inl rfl), k2]
        · rw [if_neg e, if_neg (by omega)]
      · rw [upd_n _ _ e1]
        by_cases e2 : i = a
        · subst e2
          rw [upd_s, bit_x _ hb hj (kk i j hi hj) q1]
          by_cases e : j = b
          · subst e
            rw [if_pos rfl, if_pos (Or.inr rfl)]
          · rw [if_neg e, if_neg (by omega)]
        · rw [upd_n _ _ e2, kk i j hi hj, if_neg (by omega)]
    have hv : tF (wK T a b) 14 (4 * a + b) = 0 ∨ tF (wK T a b) 14 (4 * a + b) = 1 := (kin_01 (WT_wK hW ha hb hab) ha hb).1
    refine ⟨si (si S (t + 16) a ((gi S (t + 16) a) ^^^ ((1 : Int32) <<< (nI b &&& 31)))) (t + 16) b ((gi S (t + 16) b) ^^^ ((1 : Int32) <<< (nI a &&& 31))), ?_, ?_, FR_si ⟨by omega, by omega⟩ (FR_si ⟨by omega, by omega⟩ (FR_refl S) _ _) _ _⟩
    · unfold L_X10_turnKin b_X10_turnKin_0 L_X10_areKin b_X10_areKin_0
      rw [A_isOut, if_pos a3, Option.bind_some, if_pos rfl, A_isOut, if_pos b3, Option.bind_some, if_pos rfl, if_neg nab, gd_t (inb_n ha), gd_t (inb_n ha), nm_eq, gd_t (inb_n hb), gd_t (inb_n hb), nm_eq, gd_t (inb_n ha), tn_n (show a < 2 ^ 31 by omega), tn_n (show b < 2 ^ 31 by omega)]
      rw [show gi (si S (t + 16) a ((gi S (t + 16) a) ^^^ ((1 : Int32) <<< (nI b &&& 31)))) (t + 16) b = gi S (t + 16) b by rw [gi_si_s, upd_n _ _ (Ne.symm hab)]]
      rw [bits a b ha hb]
      rcases hv with z | z
      · rw [z]; rfl
      · rw [z]; rfl
    · obtain ⟨a1, a2, a3, a4, a5, a6, a7, a8⟩ := hR
      have o : ∀ q, q ≠ t + 16 → gi (si (si S (t + 16) a ((gi S (t + 16) a) ^^^ ((1 : Int32) <<< (nI b &&& 31)))) (t + 16) b ((gi S (t + 16) b) ^^^ ((1 : Int32) <<< (nI a &&& 31)))) q = gi S q := fun q hq => by rw [gi_si_n _ _ _ hq, gi_si_n _ _ _ hq]
      refine ⟨by rw [o t (by omega)]; exact a1, by rw [o t (by omega)]; exact a2, by rw [o t (by omega)]; exact a3, fun p hp => ?_, fun f hf => ?_, fun i hi => ?_, fun i j hi hj => bits i j hi hj, fun i hi => ?_⟩
      · rw [o (t + 3) (by omega), o (t + 4) (by omega), o (t + 5) (by omega), o (t + 6) (by omega), wK_r (by decide), wK_r (by decide), wK_r (by decide), wK_r (by decide), wK_r (by decide)]; exact a4 p hp
      · rw [o (t + 7) (by omega), o (t + 8) (by omega), o (t + 9) (by omega), o (t + 10) (by omega), wK_r (by decide), wK_r (by decide), wK_r (by decide), wK_r (by decide)]; exact a5 f hf
      · rw [o (t + 11) (by omega), o (t + 12) (by omega), o (t + 13) (by omega), o (t + 14) (by omega), o (t + 15) (by omega), wK_r (by decide), wK_r (by decide), wK_r (by decide), wK_r (by decide), wK_r (by decide)]; exact a6 i hi
      · rw [o (t + 17) (by omega), wK_r (by decide)]; exact a8 i hi
theorem n4 : ∀ a b : Fin 4, (4 : Int32) * nI a.val + nI b.val = nI (4 * a.val + b.val) := by decide
theorem C_areKin (hW : WT T) (hR : repC S t T) {a b : Nat} (ha : a < 4) (hb : b < 4) : L_X10_areKin t (nI a) (nI b) S = some (tF T 14 (4 * a + b)) := by
  unfold L_X10_areKin b_X10_areKin_0
  rw [gd_t (inb_n ha), tn_n (show a < 2 ^ 31 by omega), hR.2.2.2.2.2.2.1 a b ha hb]
  rcases (kin_01 hW ha hb).1 with z | z <;> rw [z] <;> rfl
/-- sums of rows -/
theorem C_coins (hW : WT T) (hR : repC S t T) : L_X10_allCoins t S = some (sm (tF T 4) (tn T)) := by
  have n8 := hW.1
  unfold L_X10_allCoins b_X10_allCoins_0
  refine lp_br _ (fun k => (sm (tF T 4) k, nI k)) (tn T) _ (fun k hk => ?_) ?_ 1000 (by omega)
  · have e1 : ¬ nI (tn T) ≤ nI k := nI_ge hk (by omega)
    simp only [l_X10_allCoins_4, b_X10_allCoins_4, hR.1, if_neg e1, gd_t (inb_n (show k < 8 by omega)), tn_n (show k < 2 ^ 31 by omega), (hR.2.2.2.1 k hk).2.2.2.2, nI_1, sm]
  · simp only [l_X10_allCoins_4, b_X10_allCoins_4, hR.1, if_pos (Int32.le_refl _)]
def prs (T : TT) (a : Nat) : Nat → Int32
  | 0 => 0
  | k + 1 => prs T a k + (if a < k then tF T 14 (4 * a + k) else 0)
theorem prs_0 (T : TT) (a : Nat) : prs T a (a + 1) = 0 := by
  have q : ∀ k, k ≤ a + 1 → prs T a k = 0 := by
    intro k
    induction k with
    | zero => intro _; rfl
    | succ k ih =>
      intro hk
      show prs T a k + (if a < k then _ else 0) = 0
      rw [ih (by omega), if_neg (by omega)]
      rfl
  exact q _ (Nat.le_refl _)
theorem C_pairs (hW : WT T) (hR : repC S t T) : L_X10_pairsOfKin t S = some (sm (fun a => prs T a 4) 4) := by
  have z10 : ¬ (1 : Int32) = 0 := by decide
  have inner : ∀ (a : Nat) (s : Int32), a < 4 → ∃ r, lp 1000 (l_X10_pairsOfKin_13 t S) (s, nI a, nI (a + 1)) = some r ∧ r = .inl (s + prs T a 4, nI (a + 1)) := by
    intro a s ha
    refine lp_inv (m := 4) (I := fun k x => a + 1 ≤ k ∧ x = (s + prs T a k, nI a, nI k)) (fun k x hk hI => ?_) 1000 (a + 1) _ (by omega) (by omega) ⟨Nat.le_refl _, by rw [prs_0, Int32.add_zero]⟩
    obtain ⟨h1, rfl⟩ := hI
    unfold l_X10_pairsOfKin_13 b_X10_pairsOfKin_13 b_X10_pairsOfKin_33 b_X10_pairsOfKin_41
    dsimp only
    rcases Nat.lt_or_ge k 4 with hl | hl
    · refine Or.inr ⟨hl, ?_⟩
      have e4 : ¬ (4 : Int32) ≤ nI k := nI_ge (b := 4) hl (by decide)
      have e : prs T a (k + 1) = prs T a k + tF T 14 (4 * a + k) := by
        show prs T a k + (if a < k then tF T 14 (4 * a + k) else 0) = _
        rw [if_pos (by omega)]
      rw [if_neg e4, C_areKin hW hR ha hl, Option.bind_some, e, nI_1]
      rcases (kin_01 hW ha hl).1 with z | z
      · rw [z, if_pos rfl, Int32.add_zero]
        exact ⟨_, rfl, by omega, by rw [Int32.add_zero]⟩
      · rw [z, if_neg z10]
        exact ⟨_, rfl, by omega, by rw [Int32.add_assoc]⟩
    · have : k = 4 := by omega
      subst this
      rw [if_pos (by decide), nI_1]
      exact Or.inl ⟨_, rfl, rfl⟩
  unfold L_X10_pairsOfKin b_X10_pairsOfKin_0
  refine lp_br _ (fun k => (sm (fun a => prs T a 4) k, nI k)) 4 _ (fun k hk => ?_) ?_ 1000 (by omega)
  · have e4 : ¬ (4 : Int32) ≤ nI k := nI_ge (b := 4) hk (by decide)
    obtain ⟨r, r1, rfl⟩ := inner k (sm (fun a => prs T a 4) k) hk
    simp only [l_X10_pairsOfKin_4, b_X10_pairsOfKin_4, if_neg e4, nI_1]
    rw [r1]
    rfl
  · simp only [l_X10_pairsOfKin_4, b_X10_pairsOfKin_4, if_pos (show (4 : Int32) ≤ nI 4 by decide)]
theorem pairs_eq (hW : WT T) : (sm (tF T 14) 16 - 4) / 2 = sm (fun a => prs T a 4) 4 := by
  have d0 : tF T 14 0 = 1 := hW.2.2.2.2.2.2.2.1 0 (by decide)
  have d1 : tF T 14 5 = 1 := hW.2.2.2.2.2.2.2.1 1 (by decide)
  have d2 : tF T 14 10 = 1 := hW.2.2.2.2.2.2.2.1 2 (by decide)
  have d3 : tF T 14 15 = 1 := hW.2.2.2.2.2.2.2.1 3 (by decide)
  obtain ⟨a01, b01⟩ := kin_01 hW (a := 0) (b := 1) (by decide) (by decide)
  obtain ⟨a02, b02⟩ := kin_01 hW (a := 0) (b := 2) (by decide) (by decide)
  obtain ⟨a03, b03⟩ := kin_01 hW (a := 0) (b := 3) (by decide) (by decide)
  obtain ⟨a12, b12⟩ := kin_01 hW (a := 1) (b := 2) (by decide) (by decide)
  obtain ⟨a13, b13⟩ := kin_01 hW (a := 1) (b := 3) (by decide) (by decide)
  obtain ⟨a23, b23⟩ := kin_01 hW (a := 2) (b := 3) (by decide) (by decide)
  simp only [Nat.reduceMul, Nat.reduceAdd, Nat.zero_add] at a01 a02 a03 a12 a13 a23 b01 b02 b03 b12 b13 b23
  have e1 : sm (tF T 14) 16 = 0 + tF T 14 0 + tF T 14 1 + tF T 14 2 + tF T 14 3 + tF T 14 4 + tF T 14 5 + tF T 14 6 + tF T 14 7 + tF T 14 8 + tF T 14 9 + tF T 14 10 + tF T 14 11 + tF T 14 12 + tF T 14 13 + tF T 14 14 + tF T 14 15 := rfl
  have e2 : sm (fun a => prs T a 4) 4 = 0 + (0 + 0 + tF T 14 1 + tF T 14 2 + tF T 14 3) + (0 + 0 + 0 + tF T 14 6 + tF T 14 7) + (0 + 0 + 0 + 0 + tF T 14 11) + (0 + 0 + 0 + 0 + 0) := rfl
  rw [e1, e2, ← b01, ← b02, ← b03, ← b12, ← b13, ← b23, d0, d1, d2, d3]
  rcases a01 with z1 | z1 <;> rcases a02 with z2 | z2 <;> rcases a03 with z3 | z3 <;> rcases a12 with z4 | z4 <;> rcases a13 with z5 | z5 <;> rcases a23 with z6 | z6 <;> rw [z1, z2, z3, z4, z5, z6] <;> decide
def aCount (T : TT) (v : Int32) : Int32 := if v = 0 then nI (tn T) else if v = 1 then nI (tm T) else if v = 2 then nI (tk T) else if v = 3 then tF T 15 0 else if v = 4 then tF T 15 1 else if v = 5 then tF T 15 2 else if v = 6 then sm (tF T 4) (tn T) else if v = 7 then sm (fun a => prs T a 4) 4 else -1
end PEOPLE
