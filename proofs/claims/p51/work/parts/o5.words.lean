/-! What the statement gives at the law's start: classes, arrays, strings, statics. -/

theorem ao_spec {args : Array Value} {s : State} {t : FieldType} (h : (Cond.arrayOver (.array t)).before args s = true) : ∃ comp c k, s.vm.classes[c]? = some k ∧ k.kind = .array comp (.array t) ∧ s.vm.findClass ("[" ++ (FieldType.array t).toString) = some c := by
  simp only [Cond.before, Cond.holds, Cond.value, beq_iff_eq] at h
  cases hc : s.vm.findClass (FieldType.array t).toString with
  | none => simp [hc] at h
  | some comp =>
    simp only [hc, Option.bind_some, Option.bind_eq_some_iff, Option.map_eq_some_iff] at h
    obtain ⟨c, hi, k, hk, hb⟩ := h
    cases hkind : k.kind with
    | array component ty =>
      rw [hkind] at hb
      simp at hb
      exact ⟨component, c, k, hk, by rw [hkind, hb.1], hb.2⟩
    | _ => rw [hkind] at hb; simp at hb
def arG (k : Nat) : Option FieldType := ([.int, .int, .boolean, .object "ThoughtBetterOf$Plain", .object "ThoughtBetterOf$Row", .array .int, .array .boolean] : List FieldType)[k]?
theorem ar_of {s : State} {c : ClassId} {ty : FieldType} {k : Class} {comp : ClassId} (h1 : s.vm.classes[c]? = some k) (h2 : k.kind = .array comp ty) : ArrOfT s c ty := fun n z => ⟨fun k h => (by cases h), k, h1, comp, h2⟩
theorem ar_prim {s : State} {args : Array Value} {ty : FieldType} (h : (Cond.arrayClass ty).before args s = true) (hp : ty = .int ∨ ty = .long ∨ ty = .boolean) : ∃ c : ClassId, ArrOfT s c ty ∧ va_RA s c ty := by
  obtain ⟨c, k, comp, h1, h2, h3⟩ := Cond.arrayClass_spec h
  refine ⟨c, ar_of h2 h3, ?_⟩
  rcases hp with rfl | rfl | rfl <;> exact h1
theorem ar_obj {s : State} {args : Array Value} {C : String} (h : (Cond.arrayOver (.object C)).before args s = true) : ∃ c : ClassId, ArrOfT s c (.object C) ∧ va_RA s c (.object C) := by
  obtain ⟨comp, c, k, h1, h2, h3, h4, h5⟩ := Cond.arrayOver_spec h
  exact ⟨c, ar_of h3 h4, k, comp, h3, h4, h1, h5⟩
theorem ar_arr {s : State} {args : Array Value} (h : (Cond.arrayOver (.array .int)).before args s = true) : ∃ c : ClassId, ArrOfT s c (.array .int) ∧ va_RA s c (.array .int) := by
  obtain ⟨comp, c, k, h1, h2, h3⟩ := ao_spec h
  exact ⟨c, ar_of h1 h2, h3⟩
theorem ar_arz {s : State} {args : Array Value} (h : (Cond.arrayOver (.array .boolean)).before args s = true) : ∃ c : ClassId, ArrOfT s c (.array .boolean) ∧ va_RA s c (.array .boolean) := by
  obtain ⟨comp, c, k, h1, h2, h3⟩ := ao_spec h
  exact ⟨c, ar_of h1 h2, h3⟩
theorem ot_NW : ∀ w ∈ NW, w.onTables = true := by decide +kernel
theorem tb_NW : ∀ w ∈ NW, w ∈ lw_tbl := by decide +kernel
theorem tb_a1 : Cond.arrayOver (.object "ThoughtBetterOf$Plain") ∈ lw_tbl := by decide +kernel
theorem tb_a2 : Cond.arrayOver (.object "ThoughtBetterOf$Row") ∈ lw_tbl := by decide +kernel
theorem tb_a3 : Cond.arrayOver (.array .int) ∈ lw_tbl := by decide +kernel
theorem tb_a4 : Cond.arrayOver (.array .boolean) ∈ lw_tbl := by decide +kernel
theorem tb_s1 : Cond.laysStatic "java/lang/String" "COMPACT_STRINGS" "Z" ∈ lw_tbl := by decide +kernel
theorem tb_s2 : Cond.laysStatic "jdk/internal/util/Preconditions" "SIOOBE_FORMATTER" "Ljava/util/function/BiFunction;" ∈ lw_tbl := by decide +kernel
theorem tb_i1 : Cond.initialized "java/lang/String" ∈ lw_tbl := by decide +kernel
theorem tb_i2 : Cond.initialized "jdk/internal/util/Preconditions" ∈ lw_tbl := by decide +kernel
theorem tb_r : ∀ i, i < 6 → Cond.stringRef "ThoughtBetterOf$Town" (sIx i) (sTx i) ∈ lw_tbl := by decide +kernel
def gS : List Cond := flatC (Jvm.Cond.and given_1 narrow_1)
def tmS (i : Nat) : Term := .string "ThoughtBetterOf$Town" (sIx i)
theorem gs_1 : Cond.eq (.static "java/lang/String" "COMPACT_STRINGS" "Z") (.int 1) ∈ gS := by decide +kernel
theorem gs_2 : Cond.isRef (.static "jdk/internal/util/Preconditions" "SIOOBE_FORMATTER" "Ljava/util/function/BiFunction;") ∈ gS := by decide +kernel
theorem gs_ex : ∀ i, i < 6 → Cond.exactly (tmS i) "java/lang/String" ∈ gS := by decide +kernel
theorem gs_co : ∀ i, i < 6 → Cond.eq (.field (tmS i) "java/lang/String" "coder" "B") (.int 0) ∈ gS := by decide +kernel
theorem gs_ar : ∀ i, i < 6 → Cond.arrayOf (.field (tmS i) "java/lang/String" "value" "[B") .byte ∈ gS := by decide +kernel
theorem gs_le : ∀ i, i < 6 → Cond.eq (.length (.field (tmS i) "java/lang/String" "value" "[B")) (.int (Int32.ofNat (sLen.getD i 0))) ∈ gS := by decide +kernel
theorem gs_el : ∀ i, i < 6 → ∀ j, j < sLen.getD i 0 → Cond.eq (.elem (.field (tmS i) "java/lang/String" "value" "[B") (.int (Int32.ofNat j))) (.int ((sByt.getD i []).getD j 0)) ∈ gS := by decide +kernel
theorem gs_ne : ∀ i, i < 6 → ∀ j, j < 6 → i ≠ j → Cond.not (Cond.eq (tmS i) (tmS j)) ∈ gS ∨ Cond.not (Cond.eq (tmS j) (tmS i)) ∈ gS := by decide +kernel
section BEG
variable {s : State} {A : Array Value}
theorem ab_not : ∀ a : Nat, a < s.heap.size → ¬ AB s.heap.size a := fun _ h q => absurd q (Nat.not_le.mpr h)
theorem beg_K (hts : ∀ w ∈ lw_tbl, w.before A s = true) : ∃ (D : va_G) (ct : Nat → ClassId), va_K D vwCl (tY ct) s := by
  have hg : ∀ w ∈ tG, w.before A s = true := fun w hw => hts w (tG_tbl hw)
  have h0 : ∀ c : Nat, ∃ d : ClassId × (Nat → Nat), ∀ q : vw_C, vwCl[c]? = some q → u_Kn s q.1 q.2.1 q.2.2 d.1 d.2 := by
    intro c
    match c with
    | 0 =>
      obtain ⟨x, y, h⟩ := u_known (C := RX0) (T := TX0) (N := 2) (n := 2) hg inG0 (hg _ wd_359)
      exact ⟨(x, y), fun q hq => (by cases hq; exact h)⟩
    | 1 =>
      obtain ⟨x, y, h⟩ := u_known (C := RX1) (T := TX1) (N := 2) (n := 2) hg inG1 (hg _ wd_404)
      exact ⟨(x, y), fun q hq => (by cases hq; exact h)⟩
    | 2 =>
      obtain ⟨x, y, h⟩ := u_known (C := RX2) (T := TX2) (N := 12) (n := 12) hg inG2 (hg _ wd_144)
      exact ⟨(x, y), fun q hq => (by cases hq; exact h)⟩
    | 3 =>
      obtain ⟨x, y, h⟩ := u_known (C := RX3) (T := TX3) (N := 2) (n := 2) hg inG3 (hg _ wd_413)
      exact ⟨(x, y), fun q hq => (by cases hq; exact h)⟩
    | 4 =>
      obtain ⟨x, y, h⟩ := u_known (C := RX4) (T := TX4) (N := 2) (n := 2) hg inG4 (hg _ wd_368)
      exact ⟨(x, y), fun q hq => (by cases hq; exact h)⟩
    | 5 =>
      obtain ⟨x, y, h⟩ := u_known (C := RX5) (T := TX5) (N := 2) (n := 2) hg inG5 (hg _ wd_386)
      exact ⟨(x, y), fun q hq => (by cases hq; exact h)⟩
    | 6 =>
      obtain ⟨x, y, h⟩ := u_known (C := RX6) (T := TX6) (N := 2) (n := 2) hg inG6 (hg _ wd_395)
      exact ⟨(x, y), fun q hq => (by cases hq; exact h)⟩
    | 7 =>
      obtain ⟨x, y, h⟩ := u_known (C := RX7) (T := TX7) (N := 2) (n := 2) hg inG7 (hg _ wd_43)
      exact ⟨(x, y), fun q hq => (by cases hq; exact h)⟩
    | 8 =>
      obtain ⟨x, y, h⟩ := u_known (C := RX8) (T := TX8) (N := 3) (n := 3) hg inG8 (hg _ wd_193)
      exact ⟨(x, y), fun q hq => (by cases hq; exact h)⟩
    | 9 =>
      obtain ⟨x, y, h⟩ := u_known (C := RX9) (T := TX9) (N := 2) (n := 2) hg inG9 (hg _ wd_377)
      exact ⟨(x, y), fun q hq => (by cases hq; exact h)⟩
    | 10 =>
      obtain ⟨x, y, h⟩ := u_known (C := RX10) (T := TX10) (N := 19) (n := 19) hg inG10 (hg _ wd_36)
      exact ⟨(x, y), fun q hq => (by cases hq; exact h)⟩
    | 11 =>
      obtain ⟨x, y, h⟩ := u_known (C := RX11) (T := TX11) (N := 11) (n := 11) hg inG11 (hg _ wd_30)
      exact ⟨(x, y), fun q hq => (by cases hq; exact h)⟩
    | 12 =>
      obtain ⟨x, y, h⟩ := u_known (C := RL) (T := TL) (N := 24) (n := 24) hg inGL (hg _ wd_22)
      exact ⟨(x, y), fun q hq => (by cases hq; exact h)⟩
    | n + 13 => exact ⟨(0, fun _ => 0), fun q hq => (by simp at hq)⟩
  obtain ⟨d, hd⟩ := Classical.axiomOfChoice h0
  have h1 : ∀ k : Nat, ∃ c : ClassId, ∀ ty, arG k = some ty → ArrOfT s c ty ∧ va_RA s c ty := by
    intro k
    match k with
    | 0 => obtain ⟨c, h⟩ := ar_prim (hg _ wd_142) (Or.inl rfl); exact ⟨c, fun ty e => (by cases e; exact h)⟩
    | 1 => obtain ⟨c, h⟩ := ar_prim (hg _ wd_142) (Or.inl rfl); exact ⟨c, fun ty e => (by cases e; exact h)⟩
    | 2 => obtain ⟨c, h⟩ := ar_prim (hg _ wd_311) (Or.inr (Or.inr rfl)); exact ⟨c, fun ty e => (by cases e; exact h)⟩
    | 3 => obtain ⟨c, h⟩ := ar_obj (hts _ tb_a1); exact ⟨c, fun ty e => (by cases e; exact h)⟩
    | 4 => obtain ⟨c, h⟩ := ar_obj (hts _ tb_a2); exact ⟨c, fun ty e => (by cases e; exact h)⟩
    | 5 => obtain ⟨c, h⟩ := ar_arr (hts _ tb_a3); exact ⟨c, fun ty e => (by cases e; exact h)⟩
    | 6 => obtain ⟨c, h⟩ := ar_arz (hts _ tb_a4); exact ⟨c, fun ty e => (by cases e; exact h)⟩
    | n + 7 => exact ⟨0, fun ty e => (by simp [arG] at e)⟩
  obtain ⟨ct, hct⟩ := Classical.axiomOfChoice h1
  refine ⟨(fun c => (d c).1, fun c => (d c).2), ct, hd, fun k q hq => ?_⟩
  match k, hq with
  | 0, hq => cases hq; exact hct 0 _ rfl
  | 1, hq => cases hq; exact hct 1 _ rfl
  | 2, hq => cases hq; exact hct 2 _ rfl
  | 3, hq => cases hq; exact hct 3 _ rfl
  | 4, hq => cases hq; exact hct 4 _ rfl
  | 5, hq => cases hq; exact hct 5 _ rfl
  | 6, hq => cases hq; exact hct 6 _ rfl
  | n + 7, hq => simp [tY] at hq
theorem beg_N (hts : ∀ w ∈ lw_tbl, w.before A s = true) : NWs s := ⟨fun w hw => va_Nw.of (ot_NW w hw) (hts w (tb_NW w hw)), va_AO.of (hts _ tb_a1), va_AO.of (hts _ tb_a2), hts _ tb_a3⟩
theorem beg_S (hts : ∀ w ∈ lw_tbl, w.before A s = true) (hg : ∀ w ∈ gS, w.before A s = true) : ∃ adK adV, SK adK adV s.heap.size s := by
  obtain ⟨adK, adV, h1, h2⟩ := vk_Sof (args := A) (s := s) (N := 6) (tm := tmS) (len := sLen) (byt := sByt) (A := AB s.heap.size) sl_lt (fun i hi => hg _ (gs_ex i hi)) (fun i hi => hg _ (gs_co i hi)) (fun i hi => hg _ (gs_ar i hi)) (fun i hi => hg _ (gs_le i hi)) (fun i hi j hj => hg _ (gs_el i hi j hj))
    (fun i j hi hj hij => (gs_ne i hi j hj hij).elim (fun q => Or.inl (hg _ q)) (fun q => Or.inr (hg _ q))) ab_not
  exact ⟨adK, adV, h1, va_Zof (hts _ tb_s1) (hts _ tb_i1) (va_eqt (hg _ gs_1)) ab_not, va_Zqof (hts _ tb_s2) (hts _ tb_i2) (hg _ gs_2) ab_not, fun i hi => vk_R.of (hts _ (tb_r i hi)) (h2 i hi)⟩
theorem beg_Z (hts : ∀ w ∈ lw_tbl, w.before A s = true) : AZ s := hts _ tb_a4
end BEG
