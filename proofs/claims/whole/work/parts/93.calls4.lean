/-! copy, fact, set, kin. -/
section CALLS6
variable {S S' X : St} {T : TT} {im : Option TT} {sh : Nat → Sh} {m : Option TT × (Nat → Sh)} {d : Nat}
theorem sub_lt {n a b : Nat} (hn : n ≤ 100) (ha : a < 2 ^ 31) (hb : b < 2 ^ 31) : (nI n - nI b < nI a ↔ n < a + b) ∧ (nI a ≤ nI n - nI b ↔ a + b ≤ n) := by
  have e : (nI n - nI b).toInt = (n : Int) - b := by
    rw [Int32.toInt_sub, nI_toInt (by omega), nI_toInt hb]
    exact Int.bmod_eq_of_le (by omega) (by omega)
  rw [Int32.lt_iff_toInt_lt, Int32.le_iff_toInt_le, e, nI_toInt ha]
  constructor <;> omega
theorem hp_n {w n a b : Nat} (hn : gi S w 1 = nI n) (h : n ≤ 100) (ha : a < 2 ^ 31) (hb : b < 2 ^ 31) : L_X8_hasPlaces w (nI a) (nI b) S = some (if a + b ≤ n then 1 else 0) := by
  unfold L_X8_hasPlaces b_X8_hasPlaces_0 b_X8_hasPlaces_30
  rw [if_neg (nI_pos ha), if_neg (nI_pos hb), hn]
  by_cases z : nI n < nI a
  · have := (nI_ltI (show n < 2 ^ 31 by omega) ha).mp z
    rw [if_pos z, if_neg (by omega)]
  · have q : ¬ n < a := fun y => z ((nI_ltI (show n < 2 ^ 31 by omega) ha).mpr y)
    rw [if_neg z]
    have e := (sub_lt h hb ha).1
    by_cases y : a + b ≤ n
    · rw [if_pos y, if_neg (fun x => by have := e.mp x; omega)]
    · rw [if_neg y, if_pos (e.mpr (by omega))]
theorem hp_neg {w : Nat} {i k : Int32} (h : i < 0 ∨ k < 0) : L_X8_hasPlaces w i k S = some 0 := by
  unfold L_X8_hasPlaces b_X8_hasPlaces_0 b_X8_hasPlaces_30
  by_cases z : i < 0
  · rw [if_pos z]
  · rw [if_neg z, if_pos (h.resolve_left z)]
def cpW (wd we : Sh) (a c n : Nat) : Sh := (2, we.2.1, we.2.2.1, fun k => if c ≤ k ∧ k < c + n then wd.2.2.2 (a + (k - c)) else we.2.2.2 k)
theorem nI_100k {d a k : Nat} (hd : d < 8) (h : a + k < 2 ^ 30) : (100 : Int32) * nI d + nI a + nI k = nI (100 * d + a + k) := by
  have : (100 : Int32) * nI d = nI (100 * d) := by
    have q : ∀ k : Fin 8, (100 : Int32) * nI k.val = nI (100 * k.val) := by decide
    exact q ⟨d, hd⟩
  rw [this, nI_add, nI_add]
theorem R_copy {e a c n : Nat} (g : IR S (T, im, sh)) (hd : d < 8) (he : e < 8) (w1 : (sh d).1 = 2) (w2 : (sh e).1 = 2) (h1 : a + n ≤ 100) (h2 : c + n ≤ 100) : ∃ W, lp 1000 l_X12_copy_137 (nI d, nI a, nI e, nI c, nI n, 0, S) = some (nI n, W) ∧ IR W (T, im, setS sh e (cpW (sh d) (sh e) a c n)) ∧ UpR S W := by
  have key2 : ∀ V : St, V.1 = S.1 → V.2.2 = S.2.2 → (∀ q, q ≠ 181 → gl V q = gl S q) → (∀ k, k < n → gl V 181 k = gl S 158 (100 * d + a + k)) → ∃ W, b_X12_copy_171 (nI e) (nI c) (nI n) V = some (nI n, W) ∧ W.1 = S.1 ∧ W.2.2 = S.2.2 ∧ (∀ q, q ≠ 158 ∧ q ≠ 181 → gl W q = gl S q) ∧ ∀ i, gl W 158 i = if 100 * e + c ≤ i ∧ i < 100 * e + c + n then gl S 158 (100 * d + a + (i - (100 * e + c))) else gl S 158 i := by
    intro V v1 v2 v3 v4
    have key := lp_inv (body := l_X12_copy_174) (m := n) (I := fun k x => x.1 = nI e ∧ x.2.1 = nI c ∧ x.2.2.1 = nI n ∧ x.2.2.2.1 = nI k ∧ x.2.2.2.2.1 = S.1 ∧ x.2.2.2.2.2.2 = S.2.2 ∧ (∀ q, q ≠ 158 → gl x.2.2.2.2 q = gl V q) ∧ ∀ i, gl x.2.2.2.2 158 i = if 100 * e + c ≤ i ∧ i < 100 * e + c + k then gl S 158 (100 * d + a + (i - (100 * e + c))) else gl S 158 i) (Q := fun y => y.1 = nI n ∧ y.2.1 = S.1 ∧ y.2.2.2 = S.2.2 ∧ (∀ q, q ≠ 158 → gl y.2 q = gl V q) ∧ ∀ i, gl y.2 158 i = if 100 * e + c ≤ i ∧ i < 100 * e + c + n then gl S 158 (100 * d + a + (i - (100 * e + c))) else gl S 158 i) (fun k x hk hI => ?_) 1000 0 (nI e, nI c, nI n, 0, V) (Nat.zero_le _) (by omega) ⟨rfl, rfl, rfl, rfl, v1, v2, fun _ _ => rfl, fun i => by rw [if_neg (by omega)]; exact congrFun (v3 158 (by decide)) i⟩
    · obtain ⟨⟨r, W⟩, k1, k2, k3, k4, k5, k6⟩ := key
      simp only at k2 k3 k4 k5 k6
      subst k2
      exact ⟨W, k1, k3, k4, fun q hq => by rw [k5 q hq.1, v3 q hq.2], k6⟩
    · obtain ⟨a1, a2, a3, a4, W⟩ := x
      obtain ⟨e1, e2, e3, e4, e5, e6, e7, e8⟩ := hI
      simp only at e1 e2 e3 e4 e5 e6 e7 e8
      subst e1 e2 e3 e4
      unfold l_X12_copy_174 b_X12_copy_174
      dsimp only
      rcases Nat.lt_or_ge k n with hl | hl
      · refine Or.inr ⟨hl, ?_⟩
        rw [if_neg (nI_ge hl (by omega)), nI_100k he (by omega), gd_t (inb_n (show k < 100 by omega)), gd_t (inb_n (show 100 * e + c + k < 800 by omega)), nm_eq, tn_n (show k < 2 ^ 31 by omega), tn_n (show 100 * e + c + k < 2 ^ 31 by omega), nI_1, e7 181 (by decide), v4 k hl]
        refine ⟨_, rfl, rfl, rfl, rfl, rfl, e5, e6, fun q hq => ?_, fun i => ?_⟩
        · show gl (sl W 158 (100 * e + c + k) (gl S 158 (100 * d + a + k))) q = gl V q
          rw [gl_sl_n _ _ _ hq]
          exact e7 q hq
        · show gl (sl W 158 (100 * e + c + k) (gl S 158 (100 * d + a + k))) 158 i = _
          rw [gl_sl_s]
          by_cases z : i = 100 * e + c + k
          · subst z
            rw [updL_s, if_pos (by omega), show 100 * e + c + k - (100 * e + c) = k by omega]
          · rw [updL_n _ _ z, e8 i]
            by_cases y : 100 * e + c ≤ i ∧ i < 100 * e + c + k
            · rw [if_pos y, if_pos (by omega)]
            · rw [if_neg y, if_neg (by omega)]
      · have : k = n := by omega
        subst this
        rw [if_pos (Int32.le_refl _)]
        exact Or.inl ⟨_, rfl, rfl, e5, e6, e7, e8⟩
  have key := lp_inv (body := l_X12_copy_137) (m := n) (I := fun k x => x.1 = nI d ∧ x.2.1 = nI a ∧ x.2.2.1 = nI e ∧ x.2.2.2.1 = nI c ∧ x.2.2.2.2.1 = nI n ∧ x.2.2.2.2.2.1 = nI k ∧ x.2.2.2.2.2.2.1 = S.1 ∧ x.2.2.2.2.2.2.2.2 = S.2.2 ∧ (∀ q, q ≠ 181 → gl x.2.2.2.2.2.2 q = gl S q) ∧ ∀ i, i < k → gl x.2.2.2.2.2.2 181 i = gl S 158 (100 * d + a + i)) (Q := fun y => y.1 = nI n ∧ y.2.1 = S.1 ∧ y.2.2.2 = S.2.2 ∧ (∀ q, q ≠ 158 ∧ q ≠ 181 → gl y.2 q = gl S q) ∧ ∀ i, gl y.2 158 i = if 100 * e + c ≤ i ∧ i < 100 * e + c + n then gl S 158 (100 * d + a + (i - (100 * e + c))) else gl S 158 i) (fun k x hk hI => ?_) 1000 0 (nI d, nI a, nI e, nI c, nI n, 0, S) (Nat.zero_le _) (by omega) ⟨rfl, rfl, rfl, rfl, rfl, rfl, rfl, rfl, fun _ _ => rfl, fun i hi => absurd hi (Nat.not_lt_zero i)⟩
  · obtain ⟨⟨r, W⟩, k1, k2, k3, k4, k5, k6⟩ := key
    simp only at k2 k3 k4 k5 k6
    subst k2
    have wgi : ∀ q, gi W q = gi S q := fun q => by show W.1 q = S.1 q; rw [k3]
    have wgr : ∀ q, gr W q = gr S q := fun q => by show W.2.2.1 q = S.2.2.1 q; rw [k4]
    have wgp : ∀ q, gp W q = gp S q := fun q => by show W.2.2.2.1 q = S.2.2.2.1 q; rw [k4]
    have wtp : tp W = tp S := by show W.2.2.2.2 = S.2.2.2.2; rw [k4]
    obtain ⟨-, -, x3⟩ := g.2.2.2.2.2.2 d hd
    obtain ⟨-, -, x6⟩ := x3 w1
    obtain ⟨y1, -, y3⟩ := g.2.2.2.2.2.2 e he
    obtain ⟨y4, y5, y6⟩ := y3 w2
    refine ⟨W, k1, ?_, ⟨fun q hq => ⟨wgi q, k5 q ⟨by omega, by omega⟩, wgr q⟩, wgp, wtp⟩⟩
    refine IR_shelf g (fun q _ _ => wgi q) (wgi 173) (fun q hq nq => ⟨congrFun (wgi _) q, congrFun (wgi _) q, congrFun (wgi _) q, congrFun (wgi _) q, congrFun (wgi _) q, fun i hi => ?_⟩) (fun _ => ⟨?_, fun h => absurd h (show ¬ (2 : Nat) = 1 by decide), fun _ => ⟨?_, ?_, fun i hi => ?_⟩⟩)
    · rw [k6, if_neg (by omega)]
    · rw [wgi, y1]
      exact congrArg nI w2
    · rw [wgi]; exact y4
    · rw [wgi]; exact y5
    · rw [k6]
      show _ = (if c ≤ i ∧ i < c + n then (sh d).2.2.2 (a + (i - c)) else (sh e).2.2.2 i).toInt64
      by_cases z : c ≤ i ∧ i < c + n
      · rw [if_pos (by omega), if_pos z]
        have := x6 (a + (i - c)) (by omega)
        rw [show 100 * d + a + (100 * e + i - (100 * e + c)) = 100 * d + (a + (i - c)) by omega]
        exact this
      · rw [if_neg (by omega), if_neg z]
        exact y6 i hi
  · obtain ⟨a1, a2, a3, a4, a5, a6, W⟩ := x
    obtain ⟨e1, e2, e3, e4, e5, e6, e7, e8, e9, e10⟩ := hI
    simp only at e1 e2 e3 e4 e5 e6 e7 e8 e9 e10
    subst e1 e2 e3 e4 e5 e6
    unfold l_X12_copy_137 b_X12_copy_137
    dsimp only
    rcases Nat.lt_or_ge k n with hl | hl
    · refine Or.inr ⟨hl, ?_⟩
      rw [if_neg (nI_ge hl (by omega)), nI_100k hd (by omega), gd_t (inb_n (show 100 * d + a + k < 800 by omega)), gd_t (inb_n (show k < 100 by omega)), nm_eq, tn_n (show k < 2 ^ 31 by omega), tn_n (show 100 * d + a + k < 2 ^ 31 by omega), nI_1, e9 158 (by decide)]
      refine ⟨_, rfl, rfl, rfl, rfl, rfl, rfl, rfl, e7, e8, fun q hq => ?_, fun i hi => ?_⟩
      · show gl (sl W 181 k (gl S 158 (100 * d + a + k))) q = gl S q
        rw [gl_sl_n _ _ _ hq]; exact e9 q hq
      · show gl (sl W 181 k (gl S 158 (100 * d + a + k))) 181 i = _
        rw [gl_sl_s]
        by_cases z : i = k
        · subst z; rw [updL_s]
        · rw [updL_n _ _ z]; exact e10 i (by omega)
    · have : k = n := by omega
      subst this
      rw [if_pos (Int32.le_refl _)]
      obtain ⟨V, v1, v2, v3, v4, v5⟩ := key2 W e7 e8 e9 e10
      rw [v1]
      exact Or.inl ⟨_, rfl, rfl, v2, v3, v4, v5⟩
theorem J_copy (c : IC S (T, im, sh)) (g : IR S (T, im, sh)) (p i q j n : Int32) : JJ S (L_X11_copy p i q j n) (L_X12_copy p i q j n) := by
  have refuse : ∀ r, (L_X11_copy p i q j n S = some (r, S)) → (∀ S1, IR S1 (T, im, sh) → L_X12_copy p i q j n S1 = some (r, si S1 136 28 0)) → JJ S (L_X11_copy p i q j n) (L_X12_copy p i q j n) := fun r h1 h2 => JJ_D c g r ⟨S, h1, UpD_refl S⟩ (fun S1 g1 => ⟨_, h2 S1 g1, RE_0 g1⟩)
  have z10 : ¬ (1 : Int32) = 0 := by decide
  rcases ix_split p 8 (by decide) with ⟨d, hd, rfl⟩ | bad
  · rcases ix_split q 8 (by decide) with ⟨e, he, rfl⟩ | bad2
    · have d31 : d < 2 ^ 31 := by omega
      have e31 : e < 2 ^ 31 := by omega
      obtain ⟨cd1, cd2, cd3, cd4⟩ := c.2.2.2.2.2.2 d hd
      obtain ⟨ce1, ce2, ⟨qe, ze, x1, x2, x3, -⟩, ce4⟩ := c.2.2.2.2.2.2 e he
      have cd1' : gi S 66 d = nI (sh d).1 := cd1
      have ce1' : gi S 66 e = nI (sh e).1 := ce1
      have cd2' : (sh d).1 ≤ 2 := cd2
      have ce2' : (sh e).1 ≤ 2 := ce2
      have rd : ∀ S1, IR S1 (T, im, sh) → gi (si S1 136 28 0) 153 d = nI (sh d).1 ∧ gi (si S1 136 28 0) 153 e = nI (sh e).1 := fun S1 g1 => ⟨((IR_thr g1 0).2.2.2.2.2.2 d hd).1, ((IR_thr g1 0).2.2.2.2.2.2 e he).1⟩
      have k0 : ∀ w, w ≤ 2 → (nI w = 0 ↔ w = 0) := fun w h => nI_eq (b := 0) (by omega) (by decide)
      have k2 : ∀ w, w ≤ 2 → (nI w = 2 ↔ w = 2) := fun w h => nI_eq (b := 2) (by omega) (by decide)
      by_cases hd0 : (sh d).1 = 0
      · refine refuse (-11) ?_ (fun S1 g1 => ?_)
        · unfold L_X11_copy b_X11_copy_0
          rw [C_ns0 hd, Option.bind_some, if_pos rfl, C_ns0 he, Option.bind_some, if_pos rfl, gd_t (inb_n hd), tn_n d31, cd1', if_pos ((k0 _ cd2').mpr hd0)]
        · unfold L_X12_copy b_X12_copy_0
          rw [nm_eq, R_in8 hd, Option.bind_some, if_neg z10, R_in8 he, Option.bind_some, if_neg z10, gd_t (inb_n hd), tn_n d31, (rd S1 g1).1, if_pos ((k0 _ cd2').mpr hd0)]
      · have hd0' := fun z => hd0 ((k0 _ cd2').mp z)
        by_cases he0 : (sh e).1 = 0
        · refine refuse (-11) ?_ (fun S1 g1 => ?_)
          · unfold L_X11_copy b_X11_copy_0
            rw [C_ns0 hd, Option.bind_some, if_pos rfl, C_ns0 he, Option.bind_some, if_pos rfl, gd_t (inb_n hd), tn_n d31, cd1', if_neg hd0', gd_t (inb_n he), tn_n e31, ce1', if_pos ((k0 _ ce2').mpr he0)]
          · unfold L_X12_copy b_X12_copy_0
            rw [nm_eq, R_in8 hd, Option.bind_some, if_neg z10, R_in8 he, Option.bind_some, if_neg z10, gd_t (inb_n hd), tn_n d31, (rd S1 g1).1, if_neg hd0', gd_t (inb_n he), tn_n e31, (rd S1 g1).2, if_pos ((k0 _ ce2').mpr he0)]
        · have he0' := fun z => he0 ((k0 _ ce2').mp z)
          by_cases hd2 : (sh d).1 = 2
          · have hd2' := (k2 _ cd2').mpr hd2
            by_cases he2 : (sh e).1 = 2
            · have he2' := (k2 _ ce2').mpr he2
              obtain ⟨cd5, cd6, cd7, cd8, cd9⟩ := cd4 hd2
              obtain ⟨ce5, ce6, ce7, ce8, ce9⟩ := ce4 he2
              have cd5' : gi S (70 + 2 * d) 0 = nI (sh d).2.2.1.1 := cd5
              have ce5' : gi S (70 + 2 * e) 0 = nI (sh e).2.2.1.1 := ce5
              have cd6' : (sh d).2.2.1.1 ≤ 2 := cd6
              have ce6' : (sh e).2.2.1.1 ≤ 2 := ce6
              have cd7' : gi S (70 + 2 * d) 1 = nI (sh d).2.2.1.2 := cd7
              have ce7' : gi S (70 + 2 * e) 1 = nI (sh e).2.2.1.2 := ce7
              have cd8' : (sh d).2.2.1.2 ≤ 100 := cd8
              have ce8' : (sh e).2.2.1.2 ≤ 100 := ce8
              have rs : ∀ S1, IR S1 (T, im, sh) → gi (si S1 136 28 0) 156 d = nI (sh d).2.2.1.1 ∧ gi (si S1 136 28 0) 156 e = nI (sh e).2.2.1.1 ∧ gi (si S1 136 28 0) 157 d = nI (sh d).2.2.1.2 ∧ gi (si S1 136 28 0) 157 e = nI (sh e).2.2.1.2 := fun S1 g1 => by
                obtain ⟨-, -, a3⟩ := (IR_thr g1 0).2.2.2.2.2.2 d hd
                obtain ⟨-, -, b3⟩ := (IR_thr g1 0).2.2.2.2.2.2 e he
                exact ⟨(a3 hd2).1, (b3 he2).1, (a3 hd2).2.1, (b3 he2).2.1⟩
              have ks : nI (sh d).2.2.1.1 = nI (sh e).2.2.1.1 ↔ (sh d).2.2.1.1 = (sh e).2.2.1.1 := nI_eq (by omega) (by omega)
              have hC : L_X11_copy (nI d) i (nI e) j n S = gd (inb (nI d) 8) (gd (inb (nI e) 8) (if nI (sh d).2.2.1.1 = nI (sh e).2.2.1.1 then gd (inb (nI d) 8) ((L_X8_hasPlaces (70 + 2 * d) i n S).bind fun r17 => (if (r17 : Int32) = 0 then some ((-13), S) else gd (inb (nI e) 8) ((L_X8_hasPlaces (70 + 2 * e) j n S).bind fun r20 => (if (r20 : Int32) = 0 then some ((-13), S) else gd (inb (nI d) 8) (gd (inb (nI e) 8) (gd (cpb i j n 100 100) (nm (sc S ((70 + 2 * d) + 1) i.toNatClampNeg ((70 + 2 * e) + 1) j.toNatClampNeg n.toNatClampNeg) fun S25 => some (n, S25)))))))) else some ((-12), S))) := by
                unfold L_X11_copy b_X11_copy_0
                rw [C_ns0 hd, Option.bind_some, if_pos rfl, C_ns0 he, Option.bind_some, if_pos rfl, gd_t (inb_n hd), tn_n d31, cd1', if_neg hd0', gd_t (inb_n he), tn_n e31, ce1', if_neg he0', gd_t (inb_n hd), if_pos hd2', gd_t (inb_n he), if_pos he2', cd5', ce5']
              rw [gd_t (inb_n hd), gd_t (inb_n he)] at hC
              have hR : ∀ S1, IR S1 (T, im, sh) → L_X12_copy (nI d) i (nI e) j n S1 = (if nI (sh d).2.2.1.1 = nI (sh e).2.2.1.1 then (if (n : Int32) < 0 then some ((-13), si S1 136 28 0) else (if (i : Int32) < 0 then some ((-13), si S1 136 28 0) else (if (j : Int32) < 0 then some ((-13), si S1 136 28 0) else (if (nI (sh d).2.2.1.2 - n : Int32) < i then some ((-13), si S1 136 28 0) else (if (j : Int32) ≤ (nI (sh e).2.2.1.2 - n) then (lp 1000 (l_X12_copy_137) (nI d, i, nI e, j, n, 0, si S1 136 28 0)) else some ((-13), si S1 136 28 0)))))) else some ((-12), si S1 136 28 0)) := fun S1 g1 => by
                obtain ⟨s1, s2, s3, s4⟩ := rs S1 g1
                unfold L_X12_copy b_X12_copy_0
                rw [nm_eq, R_in8 hd, Option.bind_some, if_neg z10, R_in8 he, Option.bind_some, if_neg z10, gd_t (inb_n hd), tn_n d31, (rd S1 g1).1, if_neg hd0', gd_t (inb_n he), tn_n e31, (rd S1 g1).2, if_neg he0', gd_t (inb_n hd), if_pos hd2', gd_t (inb_n he), if_pos he2', gd_t (inb_n hd), gd_t (inb_n he), s1, s2, gd_t (inb_n hd), gd_t (inb_n he), s3, s4]
              by_cases hq : (sh d).2.2.1.1 = (sh e).2.2.1.1
              · have hq' := ks.mpr hq
                have r13 : (L_X8_hasPlaces (70 + 2 * d) i n S = some 0 ∨ (L_X8_hasPlaces (70 + 2 * d) i n S = some 1 ∧ L_X8_hasPlaces (70 + 2 * e) j n S = some 0)) → (n < 0 ∨ i < 0 ∨ j < 0 ∨ nI (sh d).2.2.1.2 - n < i ∨ ¬ j ≤ nI (sh e).2.2.1.2 - n) → JJ S (L_X11_copy (nI d) i (nI e) j n) (L_X12_copy (nI d) i (nI e) j n) := by
                  intro h1 h2
                  refine refuse (-13) ?_ (fun S1 g1 => ?_)
                  · rw [hC, if_pos hq', gd_t (inb_n hd)]
                    rcases h1 with h1 | ⟨h1, h1'⟩
                    · rw [h1, Option.bind_some, if_pos rfl]
                    · rw [h1, Option.bind_some, if_neg z10, gd_t (inb_n he), h1', Option.bind_some, if_pos rfl]
                  · rw [hR S1 g1, if_pos hq']
                    by_cases y1 : n < 0
                    · rw [if_pos y1]
                    · rw [if_neg y1]
                      by_cases y2 : i < 0
                      · rw [if_pos y2]
                      · rw [if_neg y2]
                        by_cases y3 : j < 0
                        · rw [if_pos y3]
                        · rw [if_neg y3]
                          by_cases y4 : nI (sh d).2.2.1.2 - n < i
                          · rw [if_pos y4]
                          · rw [if_neg y4, if_neg]
                            rcases h2 with h2 | h2 | h2 | h2 | h2
                            · exact absurd h2 y1
                            · exact absurd h2 y2
                            · exact absurd h2 y3
                            · exact absurd h2 y4
                            · exact h2
                by_cases n0 : n < 0
                · exact r13 (Or.inl (hp_neg (Or.inr n0))) (Or.inl n0)
                · by_cases i0 : i < 0
                  · exact r13 (Or.inl (hp_neg (Or.inl i0))) (Or.inr (Or.inl i0))
                  · obtain ⟨b, hb, rfl⟩ := nI_of n0
                    obtain ⟨a, ha, rfl⟩ := nI_of i0
                    have h1 := hp_n cd7' cd8' ha hb
                    by_cases fd : a + b ≤ (sh d).2.2.1.2
                    · rw [if_pos fd] at h1
                      by_cases j0 : j < 0
                      · exact r13 (Or.inr ⟨h1, hp_neg (Or.inl j0)⟩) (Or.inr (Or.inr (Or.inl j0)))
                      · obtain ⟨f, hf, rfl⟩ := nI_of j0
                        have h2 := hp_n ce7' ce8' hf hb
                        by_cases fe : f + b ≤ (sh e).2.2.1.2
                        · rw [if_pos fe] at h2
                          have cb : cpb (nI a) (nI f) (nI b) 100 100 = true := by
                            unfold cpb
                            rw [tn_n ha, tn_n hf, tn_n hb, decide_eq_false (nI_pos ha), decide_eq_false (nI_pos hf), decide_eq_false (nI_pos hb), decide_eq_true (show a + b ≤ 100 by omega), decide_eq_true (show f + b ≤ 100 by omega)]
                            rfl
                          refine JJ_of (nI b) (T, im, setS sh e (cpW (sh d) (sh e) a f b)) g ⟨sc S (71 + 2 * d) a (71 + 2 * e) f b, ?_, ?_, fun q hq => ⟨gi_sc_n _ _ _ _ _ (by omega), rfl, rfl⟩⟩ (fun S1 g1 => ?_)
                          · rw [hC, if_pos hq', gd_t (inb_n hd), h1, Option.bind_some, if_neg z10, gd_t (inb_n he), h2, Option.bind_some, if_neg z10, gd_t (inb_n hd), gd_t (inb_n he), gd_t cb, nm_eq, tn_n ha, tn_n hf, tn_n hb, show 70 + 2 * d + 1 = 71 + 2 * d by omega, show 70 + 2 * e + 1 = 71 + 2 * e by omega]
                          · refine IC_shelf c (fun q hq => ⟨gi_sc_n _ _ _ _ _ (by omega), rfl⟩) (fun q _ => rfl) (Nat.le_refl _) (fun q hq nq => ⟨congrFun (gi_sc_n _ _ _ _ _ (by omega)) q, rfl, gi_sc_n _ _ _ _ _ (by omega), gi_sc_n _ _ _ _ _ (by omega)⟩) (fun _ => ⟨?_, Nat.le_refl 2, ⟨qe, ze, x1, x2, x3, fun h => absurd h (show ¬ (2 : Nat) = 1 by decide)⟩, fun _ => ⟨?_, ce6, ?_, ce8, fun k hk => ?_⟩⟩)
                            · rw [gi_sc_n _ _ _ _ _ (by omega), ce1', he2]; rfl
                            · rw [gi_sc_n _ _ _ _ _ (by omega)]; exact ce5
                            · rw [gi_sc_n _ _ _ _ _ (by omega)]; exact ce7
                            · rw [gi_sc_s]
                              show va_cpy (gi S (71 + 2 * d)) (gi S (71 + 2 * e)) a f b k = if f ≤ k ∧ k < f + b then (sh d).2.2.2 (a + (k - f)) else (sh e).2.2.2 k
                              unfold va_cpy
                              by_cases y : f ≤ k ∧ k < f + b
                              · rw [if_pos y, if_pos y]; exact cd9 _ (by omega)
                              · rw [if_neg y, if_neg y]; exact ce9 k hk
                          · have g2 := IR_thr g1 0
                            obtain ⟨W, w1, w2, w3⟩ := R_copy (a := a) (c := f) (n := b) g2 hd he hd2 he2 (by omega) (by omega)
                            refine ⟨W, ?_, w2, UpR_tr (Up_thr S1 0) w3⟩
                            rw [hR S1 g1, if_pos hq', if_neg n0, if_neg i0, if_neg j0, if_neg (fun y => by have := (sub_lt cd8' ha hb).1.mp y; omega), if_pos ((sub_lt ce8' hf hb).2.mpr fe), w1]
                        · rw [if_neg fe] at h2
                          exact r13 (Or.inr ⟨h1, h2⟩) (Or.inr (Or.inr (Or.inr (Or.inr (fun y => fe ((sub_lt ce8' hf hb).2.mp y))))))
                    · rw [if_neg fd] at h1
                      exact r13 (Or.inl h1) (Or.inr (Or.inr (Or.inr (Or.inl ((sub_lt cd8' ha hb).1.mpr (by omega))))))
              · have hq' := fun z => hq (ks.mp z)
                refine refuse (-12) ?_ (fun S1 g1 => ?_)
                · rw [hC, if_neg hq']
                · rw [hR S1 g1, if_neg hq']
            · have he2' := fun z => he2 ((k2 _ ce2').mp z)
              refine refuse (-12) ?_ (fun S1 g1 => ?_)
              · unfold L_X11_copy b_X11_copy_0
                rw [C_ns0 hd, Option.bind_some, if_pos rfl, C_ns0 he, Option.bind_some, if_pos rfl, gd_t (inb_n hd), tn_n d31, cd1', if_neg hd0', gd_t (inb_n he), tn_n e31, ce1', if_neg he0', gd_t (inb_n hd), if_pos hd2', gd_t (inb_n he), if_neg he2']
              · unfold L_X12_copy b_X12_copy_0
                rw [nm_eq, R_in8 hd, Option.bind_some, if_neg z10, R_in8 he, Option.bind_some, if_neg z10, gd_t (inb_n hd), tn_n d31, (rd S1 g1).1, if_neg hd0', gd_t (inb_n he), tn_n e31, (rd S1 g1).2, if_neg he0', gd_t (inb_n hd), if_pos hd2', gd_t (inb_n he), if_neg he2']
          · have hd2' := fun z => hd2 ((k2 _ cd2').mp z)
            refine refuse (-12) ?_ (fun S1 g1 => ?_)
            · unfold L_X11_copy b_X11_copy_0
              rw [C_ns0 hd, Option.bind_some, if_pos rfl, C_ns0 he, Option.bind_some, if_pos rfl, gd_t (inb_n hd), tn_n d31, cd1', if_neg hd0', gd_t (inb_n he), tn_n e31, ce1', if_neg he0', gd_t (inb_n hd), if_neg hd2']
            · unfold L_X12_copy b_X12_copy_0
              rw [nm_eq, R_in8 hd, Option.bind_some, if_neg z10, R_in8 he, Option.bind_some, if_neg z10, gd_t (inb_n hd), tn_n d31, (rd S1 g1).1, if_neg hd0', gd_t (inb_n he), tn_n e31, (rd S1 g1).2, if_neg he0', gd_t (inb_n hd), if_neg hd2']
    · refine refuse (-1) ?_ (fun S1 g1 => ?_)
      · unfold L_X11_copy b_X11_copy_0
        rw [C_ns0 hd, Option.bind_some, if_pos rfl, C_ns1 bad2]
        rfl
      · unfold L_X12_copy b_X12_copy_0
        rw [nm_eq, R_in8 hd, Option.bind_some, if_neg z10, R_nin8 bad2]
        rfl
  · refine refuse (-1) ?_ (fun S1 g1 => ?_)
    · unfold L_X11_copy b_X11_copy_0
      rw [C_ns1 bad]
      rfl
    · unfold L_X12_copy b_X12_copy_0
      rw [nm_eq, R_nin8 bad]
      rfl
theorem J_fact (c : IC S (T, m)) (g : IR S (T, m)) (x y z : Int32) : JJ S (L_X11_fact x y z) (L_X12_fact x y z) := by
  obtain ⟨hW, cR⟩ := IC_1 c
  obtain ⟨p1, p2, p3⟩ := C_addFact (Or.inl rfl) hW cR x y z
  by_cases ok : okF x y z
  · by_cases h6 : tm T < 6
    · obtain ⟨X, x1, x2, x3⟩ := p3 ok h6
      have hW' := WT_addF hW ok h6
      refine JJ_of (nI (tm T)) (addF T x y z, m) g ⟨X, ?_, ?_, UpC_FR (fun a h => by have := h.2; omega) x3⟩ (fun S1 g1 => ?_)
      · unfold L_X11_fact b_X11_fact_0
        rw [x1]
        rfl
      · exact IC_town hW' x2 (full_congr (FR_gr x3 2) (fun q _ => FR_gp x3 q) (by rw [FR_tp x3]; exact Nat.le_refl _) c.2.2.2.1) (fun a ha => ⟨x3.1 a (fun h => by have := h.1; have := h.2; omega), FR_gr x3 a⟩) (fun q _ => FR_gp x3 q) (by rw [FR_tp x3]; exact Nat.le_refl _) c
      · have g2 := IR_thr g1 0
        obtain ⟨-, -, q3⟩ := R_factComes g2.1 g2.2.1 x y z
        obtain ⟨Y, y1, y2, y3, y4⟩ := q3 ⟨ok.1, ok.2.2⟩ h6
        refine ⟨Y, ?_, ?_, UpR_tr (Up_thr S1 0) (UpR_FR (fun a h => h.1) y3)⟩
        · unfold L_X12_fact b_X12_fact_0
          rw [nm_eq, R_isCase, if_pos ok.1, Option.bind_some, if_neg (by decide), R_in (-9) 9, if_pos ok.2.1, Option.bind_some, if_neg (by decide), R_isHour, if_pos ok.2.2, Option.bind_some, if_neg (by decide), y1, Option.bind_some]
          dsimp only
          rw [if_neg (by decide), y2.2.1, show tm (addF T x y z) = tm T + 1 from rfl, show nI (tm T + 1) - 1 = nI (tm T) from pk_sub (b := 1) (by omega)]
        · exact IR_town hW' y2 ⟨y4 29 (by decide), y4 30 (by decide), y4 46 (by decide)⟩ (fun a ha => y3.1 a (fun h => by have := h.1; have := h.2; omega)) (FR_gl y3 158) g2
    · refine JJ_D c g (-2) ⟨S, ?_, UpD_refl S⟩ (fun S1 g1 => ⟨_, ?_, RE_0 g1⟩)
      · unfold L_X11_fact b_X11_fact_0
        rw [p2 ok h6]
        rfl
      · have g2 := IR_thr g1 0
        obtain ⟨-, q2, -⟩ := R_factComes g2.1 g2.2.1 x y z
        unfold L_X12_fact b_X12_fact_0
        rw [nm_eq, R_isCase, if_pos ok.1, Option.bind_some, if_neg (by decide), R_in (-9) 9, if_pos ok.2.1, Option.bind_some, if_neg (by decide), R_isHour, if_pos ok.2.2, Option.bind_some, if_neg (by decide), q2 ⟨ok.1, ok.2.2⟩ h6]
        rfl
  · refine JJ_D c g (-1) ⟨S, ?_, UpD_refl S⟩ (fun S1 g1 => ⟨_, ?_, RE_0 g1⟩)
    · unfold L_X11_fact b_X11_fact_0
      rw [p1 ok]
      rfl
    · unfold L_X12_fact b_X12_fact_0
      rw [nm_eq, R_isCase, R_in (-9) 9, R_isHour]
      by_cases h1 : 0 ≤ x ∧ x ≤ 3
      · by_cases h2 : -9 ≤ y ∧ y ≤ 9
        · by_cases h3 : 0 ≤ z ∧ z ≤ 23
          · exact absurd ⟨h1, h2, h3⟩ ok
          · simp [h1, h2, h3]
        · simp [h1, h2]
      · simp [h1]
theorem J_set (c : IC S (T, m)) (g : IR S (T, m)) (w v : Int32) : JJ S (L_X11_set w v) (L_X12_set w v) := by
  obtain ⟨hW, cR⟩ := IC_1 c
  have z10 : ¬ (1 : Int32) = 0 := by decide
  have refuse : (L_X11_set w v S = some (-1, S)) → (∀ S1, IR S1 (T, m) → L_X12_set w v S1 = some (-1, si S1 136 28 0)) → JJ S (L_X11_set w v) (L_X12_set w v) := fun h1 h2 => JJ_D c g (-1) ⟨S, h1, UpD_refl S⟩ (fun S1 g1 => ⟨_, h2 S1 g1, RE_0 g1⟩)
  have cr : ∀ k, k < 3 → gi S (1 + 17) k = tF T 15 k := fun k hk => cR.2.2.2.2.2.2.2 k hk
  have same : ∀ (X : St) (i : Nat), si X 136 i (gi X 136 i) = X := fun X i => by
    unfold si gi
    congr 1
    funext a
    by_cases e : a = 136
    · subst e
      rw [if_pos rfl]
      exact upd_id _ _
    · rw [if_neg e]
  by_cases w0 : w = 0
  · subst w0
    by_cases hv : 0 ≤ v ∧ v ≤ 23
    · obtain ⟨x, hx, rfl⟩ := in_of (n := 23) rfl (by decide) hv
      have ok : okV 15 0 (nI x) := okV_15a hx
      refine JJ_of (tF T 15 0) (wF T 15 0 (nI x), m) g ⟨_, ?_, IC_put c (r := 15) (i := 0) (v := nI x) (by decide) ok, UpC_si (by decide) (UpC_refl S) _ _⟩ (fun S1 g1 => ⟨_, ?_, IR_rule (IR_thr g1 0) (i := 0) (v := nI x) (by decide) ok, UpR_si (by decide) (Up_thr S1 0) _ _⟩)
      · unfold L_X11_set b_X11_set_0 L_X10_changeRule b_X10_changeRule_0 b_X10_changeRule_21 b_X10_changeRule_42
        rw [if_pos rfl, A_isOut, if_pos (by decide), Option.bind_some, if_pos rfl, if_neg (by decide), A_isOut, if_pos hv, Option.bind_some, if_pos rfl, gd_t (by decide), gd_t (by decide), nm_eq, show (0 : Int32).toNatClampNeg = 0 by decide, cr 0 (by decide), Option.bind_some]
      · have g2 := IR_thr g1 0
        unfold L_X12_set b_X12_set_0 b_X12_set_55 b_X12_set_89 b_X12_set_104 b_X12_set_121
        rw [nm_eq]
        generalize si S1 136 28 0 = S2 at g2 ⊢
        have e6 : gi S2 136 6 = tF T 15 0 := g2.2.1.2.2.2.2.2.2.2.1
        rw [if_pos rfl, R_isHour, if_pos hv, Option.bind_some, if_neg z10, if_pos rfl, if_pos rfl, nm_eq, if_neg (by decide), nm_eq, same, if_neg (by decide), nm_eq, same, e6]
    · refine refuse ?_ (fun S1 g1 => ?_)
      · unfold L_X11_set b_X11_set_0 L_X10_changeRule b_X10_changeRule_0 b_X10_changeRule_21 b_X10_changeRule_42
        rw [if_pos rfl, A_isOut, if_pos (by decide), Option.bind_some, if_pos rfl, if_neg (by decide), A_isOut, if_neg hv]
        rfl
      · unfold L_X12_set b_X12_set_0 b_X12_set_55
        rw [nm_eq, if_pos rfl, R_isHour, if_neg hv]
        rfl
  · by_cases w1 : w = 1
    · subst w1
      by_cases hv : 0 ≤ v ∧ v ≤ 9
      · obtain ⟨x, hx, rfl⟩ := in_of (n := 9) rfl (by decide) hv
        have ok : okV 15 1 (nI x) := okV_15b hx
        refine JJ_of (tF T 15 1) (wF T 15 1 (nI x), m) g ⟨_, ?_, IC_put c (r := 15) (i := 1) (v := nI x) (by decide) ok, UpC_si (by decide) (UpC_refl S) _ _⟩ (fun S1 g1 => ⟨_, ?_, IR_rule (IR_thr g1 0) (i := 1) (v := nI x) (by decide) ok, UpR_si (by decide) (Up_thr S1 0) _ _⟩)
        · unfold L_X11_set b_X11_set_0 L_X10_changeRule b_X10_changeRule_0 b_X10_changeRule_21 b_X10_changeRule_42
          rw [if_neg (by decide), if_pos rfl, A_isOut, if_pos (by decide), Option.bind_some, if_pos rfl, if_neg (by decide), A_isOut, if_pos hv, Option.bind_some, if_pos rfl, gd_t (by decide), gd_t (by decide), nm_eq, show (1 : Int32).toNatClampNeg = 1 by decide, cr 1 (by decide), Option.bind_some]
        · have g2 := IR_thr g1 0
          unfold L_X12_set b_X12_set_0 b_X12_set_55 b_X12_set_89 b_X12_set_104 b_X12_set_121
          rw [nm_eq]
          generalize si S1 136 28 0 = S2 at g2 ⊢
          have e6 : gi S2 136 7 = tF T 15 1 := g2.2.1.2.2.2.2.2.2.2.2.1
          rw [if_neg (by decide), if_pos rfl, R_in 0 9, if_pos hv, Option.bind_some, if_neg z10, if_neg (by decide), if_pos rfl, if_neg (by decide), nm_eq, same, if_pos rfl, nm_eq, if_neg (by decide), nm_eq, same, e6]
      · refine refuse ?_ (fun S1 g1 => ?_)
        · unfold L_X11_set b_X11_set_0 L_X10_changeRule b_X10_changeRule_0 b_X10_changeRule_21 b_X10_changeRule_42
          rw [if_neg (by decide), if_pos rfl, A_isOut, if_pos (by decide), Option.bind_some, if_pos rfl, if_neg (by decide), A_isOut, if_neg hv]
          rfl
        · unfold L_X12_set b_X12_set_0 b_X12_set_55
          rw [nm_eq, if_neg (by decide), if_pos rfl, R_in 0 9, if_neg hv]
          rfl
    · by_cases w2 : w = 2
      · subst w2
        by_cases hv : 1 ≤ v ∧ v ≤ 9
        · obtain ⟨x, hx, rfl⟩ := in_of (n := 9) rfl (by decide) ⟨Int32.le_trans (by decide) hv.1, hv.2⟩
          have x1 : 1 ≤ x := (nI_leI (a := 1) (by decide) (by omega)).mp hv.1
          have ok : okV 15 2 (nI x) := okV_15c ⟨x1, hx⟩
          refine JJ_of (tF T 15 2) (wF T 15 2 (nI x), m) g ⟨_, ?_, IC_put c (r := 15) (i := 2) (v := nI x) (by decide) ok, UpC_si (by decide) (UpC_refl S) _ _⟩ (fun S1 g1 => ⟨_, ?_, IR_rule (IR_thr g1 0) (i := 2) (v := nI x) (by decide) ok, UpR_si (by decide) (Up_thr S1 0) _ _⟩)
          · unfold L_X11_set b_X11_set_0 L_X10_changeRule b_X10_changeRule_0 b_X10_changeRule_21 b_X10_changeRule_42
            rw [if_neg (by decide), if_neg (by decide), A_isOut, if_pos (by decide), Option.bind_some, if_pos rfl, if_pos rfl, A_isOut, if_pos hv, Option.bind_some, if_pos rfl, gd_t (by decide), gd_t (by decide), nm_eq, show (2 : Int32).toNatClampNeg = 2 by decide, cr 2 (by decide), Option.bind_some]
          · have g2 := IR_thr g1 0
            unfold L_X12_set b_X12_set_0 b_X12_set_55 b_X12_set_89 b_X12_set_104 b_X12_set_121
            rw [nm_eq]
            generalize si S1 136 28 0 = S2 at g2 ⊢
            have e6 : gi S2 136 8 = tF T 15 2 := g2.2.1.2.2.2.2.2.2.2.2.2
            rw [if_neg (by decide), if_neg (by decide), if_pos rfl, R_in 1 9, if_pos hv, Option.bind_some, if_neg z10, if_neg z10, if_neg (by decide), if_neg (by decide), if_neg (by decide), nm_eq, same, if_neg (by decide), nm_eq, same, if_pos rfl, nm_eq, e6]
        · refine refuse ?_ (fun S1 g1 => ?_)
          · unfold L_X11_set b_X11_set_0 L_X10_changeRule b_X10_changeRule_0 b_X10_changeRule_21 b_X10_changeRule_42
            rw [if_neg (by decide), if_neg (by decide), A_isOut, if_pos (by decide), Option.bind_some, if_pos rfl, if_pos rfl, A_isOut, if_neg hv]
            rfl
          · unfold L_X12_set b_X12_set_0 b_X12_set_54 b_X12_set_55
            rw [nm_eq, if_neg (by decide), if_neg (by decide), if_pos rfl, R_in 1 9, if_neg hv]
            rfl
      · have hw : ¬ (0 ≤ w ∧ w ≤ 2) := fun z => by
          obtain ⟨k, hk, rfl⟩ := in_of (n := 2) rfl (by decide) z
          rcases (show k = 0 ∨ k = 1 ∨ k = 2 by omega) with rfl | rfl | rfl
          · exact w0 rfl
          · exact w1 rfl
          · exact w2 rfl
        refine refuse ?_ (fun S1 g1 => ?_)
        · unfold L_X11_set b_X11_set_0 L_X10_changeRule b_X10_changeRule_0 b_X10_changeRule_21
          rw [if_neg w0, if_neg w1, A_isOut, if_neg hw]
          rfl
        · unfold L_X12_set b_X12_set_0 b_X12_set_54 b_X12_set_55
          rw [nm_eq, if_neg w0, if_neg w1, if_neg w2, if_pos rfl]
end CALLS6
