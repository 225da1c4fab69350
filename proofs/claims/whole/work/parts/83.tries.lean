/-! Days tried with one number changed: turners, yes, moods, purse, bestRate, bestOpen. -/
def RF (S0 X : St) (T : TT) : Prop := UpE S0 X ∧ WT T ∧ repR X T ∧ gi X 136 30 = 0
section TRY
variable {S S0 X : St} {T : TT} {m : Option TT × (Nat → Sh)} {r i : Nat} {w v : Int32}
theorem RF_of (h : RE S0 X T) : RF S0 X T := ⟨h.1, h.2.1, h.2.2.1, h.2.2.2.2⟩
theorem RF_set (h : RF S0 X T) (v : Int32) : RF S0 (si X 136 29 v) T ∧ gi (si X 136 29 v) 136 29 = v := by
  obtain ⟨u, hW, hR, h30⟩ := h
  exact ⟨⟨UpE_slot (by decide) u v, hW, repR_slot hR (by decide) v, by rw [gi_si_s, upd_n _ _ (by decide)]; exact h30⟩, by rw [gi_si_s, upd_s]⟩
theorem RF_go {b : Nat → Bool} (h : RF S0 X T) (hb : ∀ k, k < 6 → (gi X 136 29 >>> (nI k &&& 31)) &&& 1 = if b k then 1 else 0) : ∃ Y, L_X12_day X = some Y ∧ RF S0 Y T ∧ DR Y T b false := by
  obtain ⟨u, hW, hR, h30⟩ := h
  obtain ⟨Y, y1, y2, y3⟩ := R_go (S := X) (b := b) (sh := false) ⟨hW, hR, hb, h30⟩
  have o := y2.1 136 (fun z => absurd z.1 (by decide))
  exact ⟨Y, y1, ⟨UpE_tr u (UpE_FR (fun a z => Or.inr (Or.inl ⟨z.1, by have := z.2; omega⟩)) y2), hW, y3.1.2.1, by rw [o]; exact h30⟩, y3⟩
theorem RF_end (h : RF S0 X T) : RE S0 (si X 136 29 63) T := ⟨(RF_set h 63).1.1, h.2.1, (RF_set h 63).1.2.2.1, (RF_set h 63).2, (RF_set h 63).1.2.2.2⟩
theorem C_try (h : CE S X (wF T r i w)) (hr : 1 ≤ r ∧ r ≤ 13 ∨ r = 15) (ok : okV r i v) : ∃ Y, L_X2_run 19 (-1) (si X (19 + 2 + r) i v) = some Y ∧ CE S Y (wF T r i v) ∧ DC Y 19 (wF T r i v) tt := by
  have h2 := CE_put h hr ok
  rw [wF_u] at h2
  obtain ⟨Y, y1, y2, y3, -⟩ := CE_go h2
  exact ⟨Y, y1, y2, y3⟩
theorem R_try1 (h : RE S X (wF T r i w)) (hr : 1 ≤ r ∧ r ≤ 4) (ok : okV r i v) : ∃ Y, L_X12_day (si X (148 + r) i v) = some Y ∧ RE S Y (wF T r i v) ∧ DR Y (wF T r i v) tt false := by
  have h2 := RE_put1 h hr ok
  rw [wF_u] at h2
  obtain ⟨Y, y1, -, y2, y3⟩ := RE_go h2
  exact ⟨Y, y1, y2, y3⟩
theorem R_tryR (h : RE S X (wF T 15 i w)) (hi : i < 3) (ok : okV 15 i v) : ∃ Y, L_X12_day (si X 136 (6 + i) v) = some Y ∧ RE S Y (wF T 15 i v) ∧ DR Y (wF T 15 i v) tt false := by
  have h2 := RE_rule h hi ok
  rw [wF_u] at h2
  obtain ⟨Y, y1, -, y2, y3⟩ := RE_go h2
  exact ⟨Y, y1, y2, y3⟩
theorem R_back1 (h : RE S X (wF T r i w)) (hr : 1 ≤ r ∧ r ≤ 4) (ok : okV r i (tF T r i)) : RE S (si X (148 + r) i (tF T r i)) T := by
  have h2 := RE_put1 h hr ok
  rw [wF_u, wF_id] at h2
  exact h2
theorem R_backR (h : RE S X (wF T 15 i w)) (hi : i < 3) (ok : okV 15 i (tF T 15 i)) : RE S (si X 136 (6 + i) (tF T 15 i)) T := by
  have h2 := RE_rule h hi ok
  rw [wF_u, wF_id] at h2
  exact h2
theorem R_choice {Y : St} {b : Nat → Bool} {sh : Bool} (h1 : L_X12_day X = some Y) (h2 : DR Y T b sh) {p : Nat} (hp : p < tn T) : L_X12_choiceOf (nI p) X = some (sDay T b sh 1 p, Y) := by
  have n8 := h2.1.1.1
  unfold L_X12_choiceOf b_X12_choiceOf_0
  rw [h1, Option.bind_some, gd_t (inb_n (show p < 8 by omega)), tn_n (show p < 2 ^ 31 by omega), (R_pick h2 hp).1]
theorem ok_of (hW : WT T) {p : Nat} (hp : p < tn T) : okV 2 p (tF T 2 p) ∧ okV 3 p (tF T 3 p) ∧ okV 4 p (tF T 4 p) := by
  obtain ⟨-, -, -, ⟨h, h1, h2⟩, h3, ⟨c, c1, c2⟩⟩ := hW.2.2.2.1 p hp
  exact ⟨by rw [h2]; exact okV_2 h1, okV_3 h3, by rw [c2]; exact okV_4 c1⟩
theorem okR_of (hW : WT T) : okV 15 0 (tF T 15 0) ∧ okV 15 1 (tF T 15 1) ∧ okV 15 2 (tF T 15 2) := by
  obtain ⟨⟨o, o1, o2⟩, ⟨f, f1, f2⟩, ⟨q, q1, q2, q3⟩⟩ := hW.2.2.2.2.2.2.2.2
  exact ⟨by rw [o2]; exact okV_15a o1, by rw [f2]; exact okV_15b f1, by rw [q3]; exact okV_15c ⟨q1, q2⟩⟩
end TRY
theorem cnt_n (f : Nat → Bool) : ∀ n, cnt f n = nI (ncn f n) := by
  intro n
  induction n with
  | zero => rfl
  | succ n ih =>
    show (if f n then cnt f n + 1 else cnt f n) = nI (ncn f n + (if f n then 1 else 0))
    rw [ih]
    cases f n with
    | true => exact nI_1 _
    | false => rfl
theorem ncn_shift (f : Nat → Bool) : ∀ n, ncn f (n + 1) = (if f 0 then 1 else 0) + ncn (fun k => f (k + 1)) n := by
  intro n
  induction n with
  | zero =>
    show 0 + (if f 0 then 1 else 0) = (if f 0 then 1 else 0) + 0
    omega
  | succ n ih =>
    show ncn f (n + 1) + (if f (n + 1) then 1 else 0) = (if f 0 then 1 else 0) + (ncn (fun k => f (k + 1)) n + (if f (n + 1) then 1 else 0))
    rw [ih]
    omega
theorem ncn_rev : ∀ (n : Nat) (f : Nat → Bool), ncn (fun i => f (n - 1 - i)) n = ncn f n := by
  intro n
  induction n with
  | zero => intro f; rfl
  | succ n ih =>
    intro f
    rw [ncn_shift]
    show (if f (n + 1 - 1 - 0) then 1 else 0) + ncn (fun k => f (n + 1 - 1 - (k + 1))) n = ncn f n + (if f n then 1 else 0)
    have e : (fun k => f (n + 1 - 1 - (k + 1))) = (fun k => f (n - 1 - k)) := by
      funext k
      congr 1
      omega
    rw [e, ih f]
    have e2 : n + 1 - 1 - 0 = n := by omega
    rw [e2]
    omega
theorem cnt_rev (f : Nat → Bool) (n : Nat) : cnt (fun i => f (n - 1 - i)) n = cnt f n := by rw [cnt_n, cnt_n, ncn_rev]
/-- the least of some, told as a number; -4 -/
def isL (f : Nat → Bool) (a n : Nat) (r : Int32) : Prop := (∃ q, a ≤ q ∧ q < n ∧ f q = true ∧ (∀ i, a ≤ i → i < q → f i = false) ∧ r = nI q) ∨ ((∀ q, a ≤ q → q < n → f q = false) ∧ r = -4)
theorem isL_u {f : Nat → Bool} {a n : Nat} {r r' : Int32} (h : isL f a n r) (h' : isL f a n r') : r = r' := by
  rcases h with ⟨q, h1, h2, h3, h4, rfl⟩ | ⟨h1, rfl⟩ <;> rcases h' with ⟨q', h1', h2', h3', h4', rfl⟩ | ⟨h1', rfl⟩
  · rcases Nat.lt_trichotomy q q' with z | z | z
    · rw [h4' q h1 z] at h3; cases h3
    · rw [z]
    · rw [h4 q' h1' z] at h3'; cases h3'
  · rw [h1' q h1 h2] at h3; cases h3
  · rw [h1 q' h1' h2'] at h3'; cases h3'
  · rfl
theorem isL_dn {f : Nat → Bool} {a n : Nat} {r : Int32} (ha : a < n) (h : isL f (a + 1) n r) : isL f a n (if f a then nI a else r) := by
  cases e : f a with
  | true => exact Or.inl ⟨a, Nat.le_refl _, ha, e, fun i h1 h2 => by omega, rfl⟩
  | false =>
    rcases h with ⟨q, h1, h2, h3, h4, rfl⟩ | ⟨h1, rfl⟩
    · refine Or.inl ⟨q, by omega, h2, h3, fun i i1 i2 => ?_, rfl⟩
      rcases Nat.eq_or_lt_of_le i1 with z | z
      · rw [← z]; exact e
      · exact h4 i z i2
    · refine Or.inr ⟨fun q i1 i2 => ?_, rfl⟩
      rcases Nat.eq_or_lt_of_le i1 with z | z
      · rw [← z]; exact e
      · exact h1 q z i2
theorem isL_up {f : Nat → Bool} {k : Nat} {r : Int32} (hk : k < 2 ^ 31) (h : isL f 0 k r) : isL f 0 (k + 1) (if f k = true ∧ r < 0 then nI k else r) := by
  rcases h with ⟨q, h1, h2, h3, h4, rfl⟩ | ⟨h1, rfl⟩
  · rw [if_neg (fun z => absurd z.2 (nI_pos (by omega)))]
    exact Or.inl ⟨q, h1, by omega, h3, h4, rfl⟩
  · cases e : f k with
    | true =>
      rw [if_pos ⟨rfl, by decide⟩]
      exact Or.inl ⟨k, Nat.zero_le _, Nat.lt_succ_self _, e, fun i i1 i2 => h1 i i1 i2, rfl⟩
    | false =>
      rw [if_neg (fun z => absurd z.1 (by decide))]
      refine Or.inr ⟨fun q i1 i2 => ?_, rfl⟩
      rcases Nat.eq_or_lt_of_le (Nat.le_of_lt_succ i2) with z | z
      · rw [z]; exact e
      · exact h1 q i1 z
theorem isL_0 (f : Nat → Bool) : isL f 0 0 (-4) := Or.inr ⟨fun q _ h => absurd h (Nat.not_lt_zero q), rfl⟩
theorem isL_n (f : Nat → Bool) (n : Nat) : isL f n n (-4) := Or.inr ⟨fun q h1 h => by omega, rfl⟩
def ne6 (k : Nat) : Nat → Bool := fun j => !(j == k)
theorem bits_x (k : Nat) (hk : k < 6) : ∀ j, j < 6 → (((-1 : Int32) ^^^ ((1 : Int32) <<< (nI k &&& 31))) >>> (nI j &&& 31)) &&& 1 = if ne6 k j then 1 else 0 := by
  have a : ∀ k j : Fin 6, (((-1 : Int32) ^^^ ((1 : Int32) <<< (nI k.val &&& 31))) >>> (nI j.val &&& 31)) &&& 1 = if ne6 k.val j.val then 1 else 0 := by decide +kernel
  exact fun j hj => a ⟨k, hk⟩ ⟨j, hj⟩
theorem bits_y (k : Nat) (hk : k < 6) : ∀ j, j < 6 → (((63 : Int32) &&& (((1 : Int32) <<< (nI k &&& 31)) ^^^ (-1))) >>> (nI j &&& 31)) &&& 1 = if ne6 k j then 1 else 0 := by
  have a : ∀ k j : Fin 6, (((63 : Int32) &&& (((1 : Int32) <<< (nI k.val &&& 31)) ^^^ (-1))) >>> (nI j.val &&& 31)) &&& 1 = if ne6 k.val j.val then 1 else 0 := by decide +kernel
  exact fun j hj => a ⟨k, hk⟩ ⟨j, hj⟩
section CALLS4
variable {S S0 X : St} {T : TT} {m : Option TT × (Nat → Sh)}
theorem J_turners (c : IC S (T, m)) (g : IR S (T, m)) (p : Int32) : JJ S (L_X11_turners p) (L_X12_turners p) := by
  have n8 : tn T ≤ 8 := c.2.1.1
  have m6 : tm T ≤ 6 := c.2.1.2.1
  obtain ⟨hW, cR⟩ := IC_1 c
  rcases ix_split p (tn T) (by omega) with ⟨j, hj, rfl⟩ | bad
  · have j8 : j < 8 := by omega
    have j31 : j < 2 ^ 31 := by omega
    obtain ⟨X, x1, x2, x3, -⟩ := C_go (Or.inl rfl) hW cR bits_m1
    refine JJ_D c g (bts (fun k => decide (sDay T (ne6 k) false 1 j ≠ sDay T tt false 1 j)) (tm T)) ?_ (fun S1 g1 => ?_)
    · unfold L_X11_turners b_X11_turners_0
      rw [C_nb0 cR.1 n8 hj]
      simp only [Option.bind_some, if_true, x1, gd_t (inb_n j8), tn_n j31, (C_pick x3 hj).2.1]
      have key := lp_inv (body := l_X11_turners_37) (m := tm T) (I := fun k x => x.1 = nI j ∧ x.2.1 = sDay T tt false 1 j ∧ x.2.2.1 = bts (fun k => decide (sDay T (ne6 k) false 1 j ≠ sDay T tt false 1 j)) k ∧ x.2.2.2.1 = nI k ∧ UpD S x.2.2.2.2) (Q := fun y => y.1 = bts (fun k => decide (sDay T (ne6 k) false 1 j ≠ sDay T tt false 1 j)) (tm T) ∧ UpD S y.2) (fun k x hk hI => ?_) 1000 0 (nI j, sDay T tt false 1 j, 0, 0, X) (Nat.zero_le _) (by omega) ⟨rfl, rfl, rfl, rfl, x2⟩
      · obtain ⟨⟨y1, y2⟩, e, e1, e2⟩ := key
        simp only at e1 e2
        subst e1
        exact ⟨y2, e, e2⟩
      · obtain ⟨a1, a2, a3, a4, Z⟩ := x
        obtain ⟨e1, e2, e3, e4, e5⟩ := hI
        simp only at e1 e2 e3 e4 e5
        subst e1 e2 e3 e4
        have zR := repC_D (Or.inl rfl) e5 cR
        unfold l_X11_turners_37 b_X11_turners_37
        dsimp only
        rw [zR.2.1]
        rcases Nat.lt_or_ge k (tm T) with hl | hl
        · refine Or.inr ⟨hl, ?_⟩
          rw [if_neg (nI_ge hl (by omega))]
          obtain ⟨Y, y1, y2, y3, -⟩ := C_go (Or.inl rfl) hW zR (bits_x k (by omega))
          rw [y1, Option.bind_some, gd_t (inb_n j8), tn_n j31, (C_pick y3 hj).2.1]
          unfold b_X11_turners_86
          by_cases z : sDay T (ne6 k) false 1 j = sDay T tt false 1 j
          · rw [if_pos z]
            exact ⟨_, rfl, rfl, rfl, by simp only [bts, z]; simp, nI_1 k, UpD_tr e5 y2⟩
          · rw [if_neg z]
            exact ⟨_, rfl, rfl, rfl, by simp only [bts, z]; simp [z], nI_1 k, UpD_tr e5 y2⟩
        · have : k = tm T := by omega
          subst this
          rw [if_pos (Int32.le_refl _)]
          exact Or.inl ⟨_, rfl, rfl, e5⟩
    · have e := RE_0 g1
      obtain ⟨Y, y1, -, y3, y4⟩ := RE_go e
      unfold L_X12_turners b_X12_turners_0
      rw [nm_eq, R_one1 e.2.2.1.1 n8 hj, Option.bind_some, if_neg (by decide), R_choice y1 y4 hj, Option.bind_some]
      have key := lp_inv (body := l_X12_turners_26) (m := tm T) (I := fun k x => x.1 = nI j ∧ x.2.1 = sDay T tt false 1 j ∧ x.2.2.1 = bts (fun k => decide (sDay T (ne6 k) false 1 j ≠ sDay T tt false 1 j)) k ∧ x.2.2.2.1 = nI k ∧ RF S1 x.2.2.2.2 T) (Q := fun y => y.1 = bts (fun k => decide (sDay T (ne6 k) false 1 j ≠ sDay T tt false 1 j)) (tm T) ∧ RE S1 y.2 T) (fun k x hk hI => ?_) 1000 0 (nI j, sDay T tt false 1 j, 0, 0, Y) (Nat.zero_le _) (by omega) ⟨rfl, rfl, rfl, rfl, RF_of y3⟩
      · obtain ⟨⟨y1, y2⟩, e, e1, e2⟩ := key
        simp only at e1 e2
        subst e1
        exact ⟨y2, e, e2⟩
      · obtain ⟨a1, a2, a3, a4, Z⟩ := x
        obtain ⟨e1, e2, e3, e4, e5⟩ := hI
        simp only at e1 e2 e3 e4 e5
        subst e1 e2 e3 e4
        unfold l_X12_turners_26 b_X12_turners_26
        dsimp only
        rw [e5.2.2.1.2.1]
        rcases Nat.lt_or_ge k (tm T) with hl | hl
        · refine Or.inr ⟨hl, ?_⟩
          rw [if_neg (nI_ge hl (by omega)), nm_eq]
          obtain ⟨f1, f2⟩ := RF_set e5 (63 &&& (((1 : Int32) <<< (nI k &&& 31)) ^^^ (-1)))
          obtain ⟨Y, y1, y2, y3⟩ := RF_go (b := ne6 k) f1 (by rw [f2]; exact bits_y k (by omega))
          rw [R_choice y1 y3 hj, Option.bind_some]
          unfold b_X12_turners_66
          dsimp only
          by_cases z : sDay T (ne6 k) false 1 j = sDay T tt false 1 j
          · rw [if_pos z]
            exact ⟨_, rfl, rfl, rfl, by simp only [bts, z]; simp, nI_1 k, y2⟩
          · rw [if_neg z]
            exact ⟨_, rfl, rfl, rfl, by simp only [bts, z]; simp [z], nI_1 k, y2⟩
        · have : k = tm T := by omega
          subst this
          rw [if_pos (Int32.le_refl _), nm_eq]
          exact Or.inl ⟨_, rfl, rfl, RF_end e5⟩
  · refine JJ_D c g (-1) ⟨S, ?_, UpD_refl S⟩ (fun S1 g1 => ⟨_, ?_, RE_0 g1⟩)
    · unfold L_X11_turners b_X11_turners_0
      rw [C_nb1 cR.1 bad]
      rfl
    · unfold L_X12_turners b_X12_turners_0
      rw [nm_eq, R_one0 (RE_0 g1).2.2.1.1 n8 bad]
      rfl
theorem J_yes (c : IC S (T, m)) (g : IR S (T, m)) (p : Int32) : JJ S (L_X11_yes p) (L_X12_yes p) := by
  have n8 : tn T ≤ 8 := c.2.1.1
  obtain ⟨hW, cR⟩ := IC_1 c
  rcases ix_split p (tn T) (by omega) with ⟨j, hj, rfl⟩ | bad
  · have j8 : j < 8 := by omega
    have j31 : j < 2 ^ 31 := by omega
    obtain ⟨X, x1, x2⟩ := CE_0 c
    refine JJ_D c g (bts (fun k => decide (sDay (wF T 2 j (nI k)) tt false 1 j = 1)) 24) ?_ (fun S1 g1 => ?_)
    · unfold L_X11_yes b_X11_yes_0
      rw [C_nb0 cR.1 n8 hj]
      simp only [Option.bind_some, if_true, x1]
      have key := lp_inv (body := l_X11_yes_25) (m := 24) (I := fun k x => x.1 = nI j ∧ x.2.1 = bts (fun k => decide (sDay (wF T 2 j (nI k)) tt false 1 j = 1)) k ∧ x.2.2.1 = nI k ∧ ∃ w, CE S x.2.2.2 (wF T 2 j w)) (Q := fun y => y.1 = bts (fun k => decide (sDay (wF T 2 j (nI k)) tt false 1 j = 1)) 24 ∧ UpD S y.2) (fun k x hk hI => ?_) 1000 0 (nI j, 0, 0, X) (Nat.zero_le _) (by omega) ⟨rfl, rfl, rfl, tF T 2 j, by rw [wF_id]; exact x2⟩
      · obtain ⟨⟨y1, y2⟩, e, e1, e2⟩ := key
        simp only at e1 e2
        subst e1
        exact ⟨y2, e, e2⟩
      · obtain ⟨a1, a2, a3, Z⟩ := x
        obtain ⟨e1, e2, e3, w, e4⟩ := hI
        simp only at e1 e2 e3 e4
        subst e1 e2 e3
        unfold l_X11_yes_25 b_X11_yes_25
        dsimp only
        rcases Nat.lt_or_ge k 24 with hl | hl
        · refine Or.inr ⟨hl, ?_⟩
          have e23 : ¬ (23 : Int32) < nI k := nI_nlt (a := 23) (by omega) (by decide)
          obtain ⟨Y, y1, y2, y3⟩ := C_try (r := 2) (i := j) (v := nI k) e4 (by decide) (okV_2 hl)
          rw [if_neg e23, gd_t (inb_n j8), nm_eq, tn_n j31]
          rw [show (19 + 4 : Nat) = 19 + 2 + 2 from rfl, y1, Option.bind_some, gd_t (inb_n j8), (C_pick y3 hj).2.1]
          unfold b_X11_yes_71
          rcases F_1 (b := tt) (sh := false) y2.2.1 hj with z | z | z <;> rw [z]
          · rw [if_neg (by decide)]
            exact ⟨_, rfl, rfl, by simp only [bts, z]; simp, nI_1 k, nI k, y2⟩
          · rw [if_pos (by decide)]
            exact ⟨_, rfl, rfl, by simp only [bts, z]; simp, nI_1 k, nI k, y2⟩
          · rw [if_pos (by decide)]
            exact ⟨_, rfl, rfl, by simp only [bts, z]; simp, nI_1 k, nI k, y2⟩
        · have : k = 24 := by omega
          subst this
          rw [if_pos (by decide)]
          exact Or.inl ⟨_, rfl, rfl, e4.1⟩
    · have e := RE_0 g1
      have o2 := (ok_of hW hj).1
      unfold L_X12_yes b_X12_yes_0
      rw [nm_eq, R_one1 e.2.2.1.1 n8 hj, Option.bind_some, if_neg (by decide), gd_t (inb_n j8), tn_n j31, (e.2.2.1.2.2.2.1 j hj).2.2.2.1]
      have key := lp_inv (body := l_X12_yes_27) (m := 24) (I := fun k x => x.1 = nI j ∧ x.2.1 = tF T 2 j ∧ x.2.2.1 = bts (fun k => decide (sDay (wF T 2 j (nI k)) tt false 1 j = 1)) k ∧ x.2.2.2.1 = nI k ∧ ∃ w, RE S1 x.2.2.2.2 (wF T 2 j w)) (Q := fun y => y.1 = bts (fun k => decide (sDay (wF T 2 j (nI k)) tt false 1 j = 1)) 24 ∧ RE S1 y.2 T) (fun k x hk hI => ?_) 1000 0 (nI j, tF T 2 j, 0, 0, si S1 136 28 0) (Nat.zero_le _) (by omega) ⟨rfl, rfl, rfl, rfl, tF T 2 j, by rw [wF_id]; exact e⟩
      · obtain ⟨⟨y1, y2⟩, e, e1, e2⟩ := key
        simp only at e1 e2
        subst e1
        exact ⟨y2, e, e2⟩
      · obtain ⟨a1, a2, a3, a4, Z⟩ := x
        obtain ⟨e1, e2, e3, e4, w, e5⟩ := hI
        simp only at e1 e2 e3 e4 e5
        subst e1 e2 e3 e4
        unfold l_X12_yes_27 b_X12_yes_27
        dsimp only
        rcases Nat.lt_or_ge k 24 with hl | hl
        · refine Or.inr ⟨hl, ?_⟩
          have e23 : ¬ (24 : Int32) ≤ nI k := nI_ge (b := 24) hl (by decide)
          obtain ⟨Y, y1, y2, y3⟩ := R_try1 (r := 2) (i := j) (v := nI k) e5 (by decide) (okV_2 hl)
          rw [if_neg e23, gd_t (inb_n j8), nm_eq, tn_n j31, R_choice y1 y3 hj, Option.bind_some]
          unfold b_X12_yes_60
          dsimp only
          by_cases z : sDay (wF T 2 j (nI k)) tt false 1 j = 1
          · rw [if_pos z]
            exact ⟨_, rfl, rfl, rfl, by simp only [bts, z]; simp, nI_1 k, nI k, y2⟩
          · rw [if_neg z]
            exact ⟨_, rfl, rfl, rfl, by simp only [bts, z]; simp [z], nI_1 k, nI k, y2⟩
        · have : k = 24 := by omega
          subst this
          rw [if_pos (by decide), gd_t (inb_n j8), nm_eq, tn_n j31]
          exact Or.inl ⟨_, rfl, rfl, R_back1 (r := 2) e5 (by decide) o2⟩
  · refine JJ_D c g (-1) ⟨S, ?_, UpD_refl S⟩ (fun S1 g1 => ⟨_, ?_, RE_0 g1⟩)
    · unfold L_X11_yes b_X11_yes_0
      rw [C_nb1 cR.1 bad]
      rfl
    · unfold L_X12_yes b_X12_yes_0
      rw [nm_eq, R_one0 (RE_0 g1).2.2.1.1 n8 bad]
      rfl
end CALLS4
