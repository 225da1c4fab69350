/-! town: a STATEMENT, on both sides at once. -/
section BOTH
variable {S0 S1 X Y : St} {d p k : Nat} {W : Sh} {T T0 : TT}
theorem t19 : isTown 19 := Or.inr (Or.inl rfl)
theorem ST_102 (hC : CW S0 X T) (rc : rowC X d W) (hR : RO S1 Y T T0) (hp : p ≤ 99) (hk : k ≤ 33) (ok : okW W.2.2.2 W.2.2.1.2 p = true) (hc : hrW W.2.2.2 W.2.2.1.2 p = 102) (hE : gi Y 175 k = 102) (tv : TV Y W.2.2.2 p k 102) : STEP S0 S1 T0 d p k X Y := by
  obtain ⟨a, b, h, a1, b1, h1, cr, va, vb, vh⟩ := cr_102 rc hp ok hc
  obtain ⟨t0, t1, t2⟩ := tv.1 rfl
  rw [va] at t0
  rw [vb] at t1
  rw [vh] at t2
  have wr := sv_d (w := W.2.2.2) (q := p + 1 + 1) b1
  generalize sv W.2.2.2 (p + 1 + 1) * nI b = x at *
  obtain ⟨p1, p2, p3⟩ := C_addFact t19 hC.2.1 hC.2.2.1 (nI a) x (nI h)
  obtain ⟨q1, q2, q3⟩ := R_factComes hR.1.2.1 hR.1.2.2.1 (nI a) x (nI h)
  by_cases oc : (0 ≤ nI a ∧ nI a ≤ 3) ∧ (0 ≤ nI h ∧ nI h ≤ 23)
  · have okf : okF (nI a) x (nI h) := ⟨oc.1, wr, oc.2⟩
    by_cases h6 : tm T < 6
    · obtain ⟨X', x1, x2, x3⟩ := p3 okf h6
      obtain ⟨Y', y1, y2, y3, y4⟩ := q3 oc h6
      have hW := WT_addF hC.2.1 okf h6
      exact Or.inl ⟨addF T (nI a) x (nI h), _, X', Y', cr.trans x1, n0_le (by omega), CW_FR hC hW x2 x3, rt_102 hk hE t0 t1 t2 y1 (Or.inr rfl), KE_FR y3 (y4 53 (by decide)), RO_town hR hW y2 y3 ⟨y4 29 (by decide), y4 30 (by decide), y4 46 (by decide)⟩⟩
    · exact Or.inr ⟨-2, X, Y, cr.trans (p2 okf h6), by decide, hC.1, rt_102 hk hE t0 t1 t2 (q2 oc h6) (Or.inl rfl), KE_refl Y, RW_of hR⟩
  · exact Or.inr ⟨-1, X, Y, cr.trans (p1 (fun z => oc ⟨z.1, z.2.2⟩)), by decide, hC.1, rt_102 hk hE t0 t1 t2 (q1 oc) (Or.inl rfl), KE_refl Y, RW_of hR⟩
theorem ST_116 (hC : CW S0 X T) (rc : rowC X d W) (hR : RO S1 Y T T0) (hp : p ≤ 99) (hk : k ≤ 33) (ok : okW W.2.2.2 W.2.2.1.2 p = true) (hc : hrW W.2.2.2 W.2.2.1.2 p = 116) (hE : gi Y 175 k = 116) (tv : TV Y W.2.2.2 p k 116) : STEP S0 S1 T0 d p k X Y := by
  obtain ⟨a, v, w, h, a1, v1, w1, h1, cr, va, vv, vw, vh⟩ := cr_116 rc hp ok hc
  obtain ⟨t0, t1, t2, t3, t4⟩ := tv.2.2.1 rfl
  rw [va] at t0
  rw [vv] at t2
  rw [vw] at t3
  rw [vh] at t4
  have sr := sv_v W.2.2.2 (p + 1 + 1)
  generalize sv W.2.2.2 (p + 1 + 1) = x at *
  have e9 : gi Y 136 9 = nI (tk T) := hR.1.2.2.1.2.2.1
  have k3 := hC.2.1.2.2.1
  have i9 : 3 ≤ gi Y 136 9 ↔ ¬ tk T < 3 := by
    rw [e9, show (3 : Int32) = nI 3 from rfl, nI_leI (by decide) (by omega)]
    omega
  obtain ⟨p1, p2, p3⟩ := C_addPlant t19 hC.2.1 hC.2.2.1 (nI a) x (nI v) (nI w) (nI h)
  obtain ⟨q1, q2⟩ := rt_116 hk hE t0 t1 t2 t3 t4
  have ww : 0 ≤ nI w ∧ nI w ≤ 99 := ⟨n0_le (by omega), (nI_leI (a := w) (b := 99) (by omega) (by decide)).mpr (by omega)⟩
  by_cases oc : okP (nI a) (nI v) (nI w) (nI h)
  · by_cases h3 : tk T < 3
    · obtain ⟨X', x1, x2, x3⟩ := p3 oc h3
      obtain ⟨Y', y1, y2, y3, y4⟩ := R_plantComes hR.1.2.2.1 h3 (nI a) x (nI v) (nI w) (nI h)
      have hW := WT_addP hC.2.1 oc sr h3
      exact Or.inl ⟨addP T (nI a) x (nI v) (nI w) (nI h), _, X', Y', cr.trans x1, n0_le (by omega), CW_FR hC hW x2 x3, q2 Y' ⟨oc.1, oc.2.1, oc.2.2.2, fun z => (i9.mp z) h3⟩ y1, KE_FR y3 (y4 53 (by decide)), RO_town hR hW y2 y3 ⟨y4 29 (by decide), y4 30 (by decide), y4 46 (by decide)⟩⟩
    · exact Or.inr ⟨-2, X, Y, cr.trans (p2 oc h3), by decide, hC.1, q1 (fun z => z.2.2.2 (i9.mpr h3)), KE_refl Y, RW_of hR⟩
  · exact Or.inr ⟨-1, X, Y, cr.trans (p1 oc), by decide, hC.1, q1 (fun z => oc ⟨z.1, z.2.1, ww, z.2.2.1⟩), KE_refl Y, RW_of hR⟩
theorem ST_107 (hC : CW S0 X T) (rc : rowC X d W) (hR : RO S1 Y T T0) (hp : p ≤ 99) (hk : k ≤ 33) (ok : okW W.2.2.2 W.2.2.1.2 p = true) (hc : hrW W.2.2.2 W.2.2.1.2 p = 107) (hE : gi Y 175 k = 107) (tv : TV Y W.2.2.2 p k 107) : STEP S0 S1 T0 d p k X Y := by
  obtain ⟨a, b, a1, b1, cr, va, vb⟩ := cr_107 rc hp ok hc
  obtain ⟨t0, t1⟩ := tv.2.2.2.1 rfl
  rw [va] at t0
  rw [vb] at t1
  obtain ⟨p1, p2⟩ := C_turnKin t19 hC.2.1 hC.2.2.1 (nI a) (nI b)
  obtain ⟨q1, q2⟩ := rt_107 hk hE t0 t1
  by_cases oc : (0 ≤ nI a ∧ nI a ≤ 3) ∧ (0 ≤ nI b ∧ nI b ≤ 3) ∧ nI a ≠ nI b
  · have a4 : a < 4 := by have := (nI_leI (a := a) (b := 3) (by omega) (by decide)).mp oc.1.2; omega
    have b4 : b < 4 := by have := (nI_leI (a := b) (b := 3) (by omega) (by decide)).mp oc.2.1.2; omega
    have ab : a ≠ b := fun e => oc.2.2 (by rw [e])
    obtain ⟨X', x1, x2, x3⟩ := p2 a b a4 b4 ab
    obtain ⟨Y', y1, y2, y3⟩ := R_turnKin hR.1.2.2.1 a4 b4 ab
    have hW := WT_wK hC.2.1 a4 b4 ab
    have f : FR (fun a => 136 ≤ a ∧ a < 153) Y Y' := FR_mono (fun q z => by omega) y3
    have e136 : gi Y' 136 = gi Y 136 := y3.1 136 (by decide)
    refine Or.inl ⟨wK T a b, _, X', Y', cr.trans x1, ?_, CW_FR hC hW x2 x3, q2 Y' oc y1, KE_FR f (by rw [e136]), RO_town hR hW y2 f (by rw [e136]; exact ⟨rfl, rfl, rfl⟩)⟩
    rcases (kin_01 hW a4 b4).1 with e | e <;> rw [e] <;> decide
  · exact Or.inr ⟨-1, X, Y, cr.trans (p1 oc), by decide, hC.1, q1 oc, KE_refl Y, RW_of hR⟩
theorem C_rule (hW : WT T) (hR : repC X 19 T) : (∀ v, (0 ≤ v ∧ v ≤ 23) → L_X10_changeRule 19 0 v X = some (tF T 15 0, si X (19 + 17) 0 v)) ∧ (∀ v, ¬ (0 ≤ v ∧ v ≤ 23) → L_X10_changeRule 19 0 v X = some (-1, X)) ∧
    (∀ v, (0 ≤ v ∧ v ≤ 9) → L_X10_changeRule 19 1 v X = some (tF T 15 1, si X (19 + 17) 1 v)) ∧ (∀ v, (1 ≤ v ∧ v ≤ 9) → L_X10_changeRule 19 2 v X = some (tF T 15 2, si X (19 + 17) 2 v)) ∧ (∀ v, ¬ (1 ≤ v ∧ v ≤ 9) → L_X10_changeRule 19 2 v X = some (-1, X)) ∧ (∀ i, i < 3 → 0 ≤ tF T 15 i) := by
  have cr : ∀ k, k < 3 → gi X (19 + 17) k = tF T 15 k := fun k hk => hR.2.2.2.2.2.2.2 k hk
  obtain ⟨o, o1, o2⟩ := hW.2.2.2.2.2.2.2.2.1
  obtain ⟨f, f1, f2⟩ := hW.2.2.2.2.2.2.2.2.2.1
  obtain ⟨r, r0, r1, r2⟩ := hW.2.2.2.2.2.2.2.2.2.2
  refine ⟨fun v hv => ?_, fun v hv => ?_, fun v hv => ?_, fun v hv => ?_, fun v hv => ?_, fun i hi => ?_⟩
  · unfold L_X10_changeRule b_X10_changeRule_0 b_X10_changeRule_21 b_X10_changeRule_42
    rw [if_pos rfl, A_isOut, if_pos (by decide), Option.bind_some, if_pos rfl, if_neg (by decide), A_isOut, if_pos hv, Option.bind_some, if_pos rfl, gd_t (by decide), gd_t (by decide), nm_eq, show (0 : Int32).toNatClampNeg = 0 by decide, cr 0 (by decide)]
  · unfold L_X10_changeRule b_X10_changeRule_0 b_X10_changeRule_21 b_X10_changeRule_42
    rw [if_pos rfl, A_isOut, if_pos (by decide), Option.bind_some, if_pos rfl, if_neg (by decide), A_isOut, if_neg hv]
    rfl
  · unfold L_X10_changeRule b_X10_changeRule_0 b_X10_changeRule_21 b_X10_changeRule_42
    rw [if_neg (by decide), if_pos rfl, A_isOut, if_pos (by decide), Option.bind_some, if_pos rfl, if_neg (by decide), A_isOut, if_pos hv, Option.bind_some, if_pos rfl, gd_t (by decide), gd_t (by decide), nm_eq, show (1 : Int32).toNatClampNeg = 1 by decide, cr 1 (by decide)]
  · unfold L_X10_changeRule b_X10_changeRule_0 b_X10_changeRule_21 b_X10_changeRule_42
    rw [if_neg (by decide), if_neg (by decide), A_isOut, if_pos (by decide), Option.bind_some, if_pos rfl, if_pos rfl, A_isOut, if_pos hv, Option.bind_some, if_pos rfl, gd_t (by decide), gd_t (by decide), nm_eq, show (2 : Int32).toNatClampNeg = 2 by decide, cr 2 (by decide)]
  · unfold L_X10_changeRule b_X10_changeRule_0 b_X10_changeRule_21 b_X10_changeRule_42
    rw [if_neg (by decide), if_neg (by decide), A_isOut, if_pos (by decide), Option.bind_some, if_pos rfl, if_pos rfl, A_isOut, if_neg hv]
    rfl
  · rcases (show i = 0 ∨ i = 1 ∨ i = 2 by omega) with rfl | rfl | rfl
    · rw [o2]; exact n0_le (by omega)
    · rw [f2]; exact n0_le (by omega)
    · rw [r2]; exact n0_le (by omega)
theorem ST_rule (hC : CW S0 X T) (hR : RO S1 Y T T0) {i : Nat} (hi : i < 3) {v r : Int32} (okv : okV 15 i v)
    (hc : L_X10_hearStatement 19 (70 + 2 * d) (nI p) X = some (r, si X (19 + 17) i v)) (hr : 0 ≤ r) (hy : L_X12_comesTold (nI k) Y = some (1, si Y 136 (6 + i) v)) : STEP S0 S1 T0 d p k X Y := by
  have hW := WT_put hC.2.1 okv
  have f : FR (fun a => 136 ≤ a ∧ a < 153) Y (si Y 136 (6 + i) v) := FR_si (P := fun a => 136 ≤ a ∧ a < 153) (by decide) (FR_refl Y) _ _
  have s : ∀ j, 16 ≤ j → gi (si Y 136 (6 + i) v) 136 j = gi Y 136 j := fun j hj => by rw [gi_at, if_neg (by omega)]
  exact Or.inl ⟨wF T 15 i v, r, _, _, hc, hr, CW_FR hC hW (repC_put (r := 15) t19 hC.2.2.1 (Or.inr rfl) i v) (FR_si (P := PT 19) (by unfold PT; omega) (FR_refl X) _ _), hy, KE_FR f (s 53 (by decide)), RO_town hR hW (repR_rule hR.1.2.2.1 hi v) f ⟨s 29 (by decide), s 30 (by decide), s 46 (by decide)⟩⟩
theorem ST_bad (hC : CW S0 X T) (hR : RO S1 Y T T0) {i : Nat} (hi : i < 3) {v : Int32}
    (hc : L_X10_hearStatement 19 (70 + 2 * d) (nI p) X = some (-1, X)) (hy : L_X12_comesTold (nI k) Y = some (0, si Y 136 (6 + i) v)) : STEP S0 S1 T0 d p k X Y := by
  have f : FR (fun a => 136 ≤ a ∧ a < 153) Y (si Y 136 (6 + i) v) := FR_si (P := fun a => 136 ≤ a ∧ a < 153) (by decide) (FR_refl Y) _ _
  have s : ∀ j, 16 ≤ j → gi (si Y 136 (6 + i) v) 136 j = gi Y 136 j := fun j hj => by rw [gi_at, if_neg (by omega)]
  exact Or.inr ⟨-1, X, _, hc, by decide, hC.1, hy, KE_FR f (s 53 (by decide)), RW_town (RW_of hR) f ⟨s 29 (by decide), s 30 (by decide), s 46 (by decide)⟩⟩
theorem ST_111 (hC : CW S0 X T) (rc : rowC X d W) (hR : RO S1 Y T T0) (hp : p ≤ 99) (hk : k ≤ 33) (ok : okW W.2.2.2 W.2.2.1.2 p = true) (hc : hrW W.2.2.2 W.2.2.1.2 p = 111) (hE : gi Y 175 k = 111) (tv : TV Y W.2.2.2 p k 111) : STEP S0 S1 T0 d p k X Y := by
  obtain ⟨h, h1, cr, vh⟩ := cr_111 rc hp ok hc
  have t0 := tv.2.2.2.2.1 rfl
  rw [vh] at t0
  obtain ⟨p1, p2, -, -, -, p6⟩ := C_rule hC.2.1 hC.2.2.1
  have q := rt_111 hk hE t0
  by_cases oc : 0 ≤ nI h ∧ nI h ≤ 23
  · rw [if_pos oc] at q
    have h24 : h < 24 := by have := (nI_leI (a := h) (b := 23) (by omega) (by decide)).mp oc.2; omega
    exact ST_rule hC hR (i := 0) (by decide) (okV_15a h24) (cr.trans (p1 _ oc)) (p6 0 (by decide)) q
  · rw [if_neg oc] at q
    exact ST_bad hC hR (i := 0) (by decide) (cr.trans (p2 _ oc)) q
theorem ST_100 (hC : CW S0 X T) (rc : rowC X d W) (hR : RO S1 Y T T0) (hp : p ≤ 99) (hk : k ≤ 33) (ok : okW W.2.2.2 W.2.2.1.2 p = true) (hc : hrW W.2.2.2 W.2.2.1.2 p = 100) (hE : gi Y 175 k = 100) (tv : TV Y W.2.2.2 p k 100) : STEP S0 S1 T0 d p k X Y := by
  obtain ⟨h, h1, cr, vh⟩ := cr_100 rc hp ok hc
  have t0 := tv.2.2.2.2.2.1 rfl
  rw [vh] at t0
  obtain ⟨-, -, p3, -, -, p6⟩ := C_rule hC.2.1 hC.2.2.1
  exact ST_rule hC hR (i := 1) (by decide) (okV_15b h1) (cr.trans (p3 _ ⟨n0_le (by omega), (nI_leI (a := h) (b := 9) (by omega) (by decide)).mpr (by omega)⟩)) (p6 1 (by decide)) (rt_100 hk hE t0)
theorem ST_114 (hC : CW S0 X T) (rc : rowC X d W) (hR : RO S1 Y T T0) (hp : p ≤ 99) (hk : k ≤ 33) (ok : okW W.2.2.2 W.2.2.1.2 p = true) (hc : hrW W.2.2.2 W.2.2.1.2 p = 114) (hE : gi Y 175 k = 114) (tv : TV Y W.2.2.2 p k 114) : STEP S0 S1 T0 d p k X Y := by
  obtain ⟨h, h1, cr, vh⟩ := cr_114 rc hp ok hc
  have t0 := tv.2.2.2.2.2.2 rfl
  rw [vh] at t0
  obtain ⟨-, -, -, p4, p5, p6⟩ := C_rule hC.2.1 hC.2.2.1
  have q := rt_114 hk hE t0
  by_cases oc : 1 ≤ h
  · have n : ¬ nI h ≤ 0 := fun z => by have := (nI_leI (a := h) (b := 0) (by omega) (by decide)).mp z; omega
    rw [if_neg n] at q
    exact ST_rule hC hR (i := 2) (by decide) (okV_15c ⟨oc, h1⟩) (cr.trans (p4 _ ⟨(nI_leI (a := 1) (b := h) (by decide) (by omega)).mpr oc, (nI_leI (a := h) (b := 9) (by omega) (by decide)).mpr (by omega)⟩)) (p6 2 (by decide)) q
  · have n : nI h ≤ 0 := (nI_leI (a := h) (b := 0) (by omega) (by decide)).mpr (by omega)
    rw [if_pos n] at q
    exact ST_bad hC hR (i := 2) (by decide) (cr.trans (p5 _ (fun z => oc ((nI_leI (a := 1) (b := h) (by decide) (by omega)).mp z.1)))) q
theorem ST_112 (hC : CW S0 X T) (rc : rowC X d W) (hR : RO S1 Y T T0) (hp : p ≤ 99) (hk : k ≤ 33) (ok : okW W.2.2.2 W.2.2.1.2 p = true) (hc : hrW W.2.2.2 W.2.2.1.2 p = 112) (hE : gi Y 175 k = 112) (tv : TV Y W.2.2.2 p k 112) : STEP S0 S1 T0 d p k X Y := by
  have t183 : 183 ≤ tp X := Nat.le_trans hC.2.2.2.2 hC.1.2.2.2
  obtain ⟨a, b, c, h, m, o, a1, b1, c1, h1, m1, o1, cr1, cr2, va, vb, vc, vh, vm, vo⟩ := cr_112 rc hp ok t183 hc
  obtain ⟨t0, t1, t2, t3, t4, t5⟩ := tv.2.1 rfl
  rw [va] at t0
  rw [vb] at t1
  rw [vc] at t2
  rw [vh] at t3
  rw [vm] at t4
  rw [vo] at t5
  have mr := sv_d (w := W.2.2.2) (q := p + 1 + 5) m1
  generalize sv W.2.2.2 (p + 1 + 5) * nI m = x at *
  have n8 := hC.2.1.1
  have e15 : gi Y 136 15 = nI (tn T) := hR.1.2.2.1.1
  have i15 : 8 ≤ gi Y 136 15 ↔ ¬ tn T < 8 := by
    rw [e15, show (8 : Int32) = nI 8 from rfl, nI_leI (by decide) (by omega)]
    omega
  have i0 : (8 : Int32) ≤ nI a ↔ ¬ a < 8 := by
    rw [show (8 : Int32) = nI 8 from rfl, nI_leI (by decide) (by omega)]
    omega
  have oo : 0 ≤ nI o ∧ nI o ≤ 99 := ⟨n0_le (by omega), (nI_leI (a := o) (b := 99) (by omega) (by decide)).mpr (by omega)⟩
  obtain ⟨q1, q2⟩ := rt_112 hk hE t0 t1 t2 t3 t4 t5
  by_cases a8 : a < 8
  · have cr := cr2 a8
    have hC2 := CW_sp hC a (nI b)
    have hq := gq_new t183 a (nI b)
    obtain ⟨p1, p2, p3⟩ := C_addOne t19 hC2.2.1 hC2.2.2.1 hq (nI c) (nI h) x (nI o)
    by_cases oc : okO (nI c) (nI h) x (nI o)
    · by_cases h8 : tn T < 8
      · obtain ⟨X', x1, x2, x3, x4⟩ := p3 oc h8
        obtain ⟨Y', y1, y2, y3, y4⟩ := R_oneComes hR.1.2.1 hR.1.2.2.1 h8 a (nI b) (nI c) (nI h) x (nI o)
        have hW := WT_addO hC.2.1 a8 b1 oc h8
        exact Or.inl ⟨addO T a (nI b) (nI c) (nI h) x (nI o), _, X', Y', cr.trans x1, n0_le (by omega), ⟨UpW_FT hC2.1 x3, hW, x2, full_up x4 x3.2.2.1 x3.2.2.2 ⟨_, hq⟩ (Nat.lt_succ_self _) hC2.2.2.2.1, hC.2.2.2.2⟩, q2 Y' ⟨fun z => (i0.mp z) a8, oc.1, oc.2.1, fun z => (i15.mp z) h8⟩ y1, KE_FR y3 (y4 53 (by decide)), RO_town hR hW y2 y3 ⟨y4 29 (by decide), y4 30 (by decide), y4 46 (by decide)⟩⟩
      · exact Or.inr ⟨-2, _, Y, cr.trans (p2 oc h8), by decide, hC2.1, q1 (fun z => z.2.2.2 (i15.mpr h8)), KE_refl Y, RW_of hR⟩
    · exact Or.inr ⟨-1, _, Y, cr.trans (p1 oc), by decide, hC2.1, q1 (fun z => oc ⟨z.2.1, z.2.2.1, mr, oo⟩), KE_refl Y, RW_of hR⟩
  · exact Or.inr ⟨-1, X, Y, cr1 a8, by decide, hC.1, q1 (fun z => z.1 (i0.mpr a8)), KE_refl Y, RW_of hR⟩
theorem ST_all (hC : CW S0 X T) (rc : rowC X d W) (hR : RO S1 Y T T0) (hp : p ≤ 99) (hk : k ≤ 33) (ok : okW W.2.2.2 W.2.2.1.2 p = true) (hE : gi Y 175 k = hrW W.2.2.2 W.2.2.1.2 p) (tv : TV Y W.2.2.2 p k (hrW W.2.2.2 W.2.2.1.2 p)) : STEP S0 S1 T0 d p k X Y := by
  have h5 : shp (hrW W.2.2.2 W.2.2.1.2 p) ≠ 5 := by rw [shp_hr]; have := (okW_of ok).1; omega
  rcases shp_l h5 with e | e | e | e | e | e | e
  · exact ST_102 hC rc hR hp hk ok e (by rw [hE, e]) (by rw [e] at tv; exact tv)
  · exact ST_112 hC rc hR hp hk ok e (by rw [hE, e]) (by rw [e] at tv; exact tv)
  · exact ST_116 hC rc hR hp hk ok e (by rw [hE, e]) (by rw [e] at tv; exact tv)
  · exact ST_107 hC rc hR hp hk ok e (by rw [hE, e]) (by rw [e] at tv; exact tv)
  · exact ST_111 hC rc hR hp hk ok e (by rw [hE, e]) (by rw [e] at tv; exact tv)
  · exact ST_100 hC rc hR hp hk ok e (by rw [hE, e]) (by rw [e] at tv; exact tv)
  · exact ST_114 hC rc hR hp hk ok e (by rw [hE, e]) (by rw [e] at tv; exact tv)
end BOTH
