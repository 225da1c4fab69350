/-! PLAIN ones and all under them: their cells, their fields, their calls; more rows. -/
def isPlB (k : Nat) : Bool := decide (183 ≤ k) || k == 3 || k == 21 || k == 39 || k == 69
def gq (S : St) (k : Nat) : Option (Nat × Int32) := if isPlB k then gp S k else none
theorem lay_pl (B : Nat) (ct : Nat → ClassId) {S : St} {k : Nat} {z : Nat × Int32} (h : gq S k = some z) : lay B ct S k = some (.inr (ciK z.1, [.int (nI z.1), .int z.2])) := by
  unfold gq at h
  split at h
  case isFalse => cases h
  case isTrue hb =>
    simp only [isPlB, Bool.or_eq_true, beq_iff_eq, decide_eq_true_eq] at hb
    have w : ePl (gi S k) (gl S k) (gr S k) (gp S k) = some (.inr (ciK z.1, [.int (nI z.1), .int z.2])) := by
      show (gp S k).map _ = _
      rw [h]
      rfl
    rcases hb with (((hb | rfl) | rfl) | rfl) | rfl
    · unfold lay
      rw [List.getElem?_eq_none (show (layT B ct).length ≤ k from hb)]
      show eDy ct (gi S k) (gl S k) (gr S k) (gp S k) = _
      rw [h]
      rfl
    · exact w
    · exact w
    · exact w
    · exact w
theorem ciK_cases (kd : Nat) : ciK kd = 7 ∨ ciK kd = 0 ∨ ciK kd = 4 ∨ ciK kd = 9 ∨ ciK kd = 5 ∨ ciK kd = 6 ∨ ciK kd = 1 ∨ ciK kd = 3 := by
  unfold ciK
  split <;> simp
theorem gq_local {S S' : St} {k : Nat} (h : gp S' k = gp S k) : gq S' k = gq S k := by unfold gq; rw [h]
/-- the names of the eight classes, as a KIND has them -/
def clK (ci : Nat) : String := match ci with
  | 7 => "ThoughtBetterOf$Plain"
  | 0 => "ThoughtBetterOf$Bride"
  | 4 => "ThoughtBetterOf$Firm"
  | 9 => "ThoughtBetterOf$Sworn"
  | 5 => "ThoughtBetterOf$General"
  | 6 => "ThoughtBetterOf$King"
  | 1 => "ThoughtBetterOf$Child"
  | _ => "ThoughtBetterOf$Drunk"
section XPL
variable {p : Program} {l : Launch} {e : Env} {R : Room} {s : State} {m : MethodId} {args : Array Value} {below : List Frame} {meth : Method} {c : Code} {H : Heap} {locs : List Loc} {cells slots : Nat} {Q : State → Prop}
variable {cc : ByteArray} {pc nL : Nat} {ret : Option FieldType} {own : String} {ls : Array Slot} {rest : List Value} {D : va_G} {ct : Nat → ClassId} {B : Nat} {Hb : Heap} {S : St} {H0 : Heap}
/-- KIND or FIGURE of any of them, named by the class 'ref' -/
theorem x_pl (C0 : XC D ct p s m args meth c cc nL ret own) (hP : MP D ct B Hb S H) {k : Nat} {z : Nat × Int32} (hz : gq S k = some z) (j : Nat) (hj : j < 2) {ref name : String} (hname : (j = 0 ∧ name = "kind") ∨ (j = 1 ∧ name = "figure")) {index : Nat} (hlink : Cond.fieldLink own index ref name "I" ∈ tG)
    (hsame : ∀ x, s.fieldFound? "ThoughtBetterOf$Plain" name "I" = some x → s.fieldFound? ref name "I" = some x) {v : Value} (hv : ([.int (nI z.1), .int z.2] : List Value)[j]? = some v) (hdg : decode cc pc = .ok (.getfield index, 3))
    (kk : W p l e R s m args below meth c H locs cells slots Q (F0 m (pc + 3) ls (v :: rest))) : W p l e R s m args below meth c H locs cells slots Q (F0 m pc ls (.ref (B + k) :: rest)) := by
  have he := lay_pl B ct hz
  rcases hname with ⟨rfl, rfl⟩ | ⟨rfl, rfl⟩ <;> rcases ciK_cases z.1 with q | q | q | q | q | q | q | q <;> rw [q] at he
  · exact x_get C0 hP he rfl inG7 0 (by decide) hlink hsame hv hdg kk
  · exact x_get C0 hP he rfl inG0 0 (by decide) hlink hsame hv hdg kk
  · exact x_get C0 hP he rfl inG4 0 (by decide) hlink hsame hv hdg kk
  · exact x_get C0 hP he rfl inG9 0 (by decide) hlink hsame hv hdg kk
  · exact x_get C0 hP he rfl inG5 0 (by decide) hlink hsame hv hdg kk
  · exact x_get C0 hP he rfl inG6 0 (by decide) hlink hsame hv hdg kk
  · exact x_get C0 hP he rfl inG1 0 (by decide) hlink hsame hv hdg kk
  · exact x_get C0 hP he rfl inG3 0 (by decide) hlink hsame hv hdg kk
  · exact x_get C0 hP he rfl inG7 1 (by decide) hlink hsame hv hdg kk
  · exact x_get C0 hP he rfl inG0 1 (by decide) hlink hsame hv hdg kk
  · exact x_get C0 hP he rfl inG4 1 (by decide) hlink hsame hv hdg kk
  · exact x_get C0 hP he rfl inG9 1 (by decide) hlink hsame hv hdg kk
  · exact x_get C0 hP he rfl inG5 1 (by decide) hlink hsame hv hdg kk
  · exact x_get C0 hP he rfl inG6 1 (by decide) hlink hsame hv hdg kk
  · exact x_get C0 hP he rfl inG1 1 (by decide) hlink hsame hv hdg kk
  · exact x_get C0 hP he rfl inG3 1 (by decide) hlink hsame hv hdg kk
/-- what the machine knows of such a cell -/
theorem pl_cell (C0 : XC D ct p s m args meth c cc nL ret own) (hP : MP D ct B Hb S H) {k : Nat} {z : Nat × Int32} (hz : gq S k = some z) : ∃ (C : String) (cC : ClassId), C = clK (ciK z.1) ∧ ClassAt s C cC ∧ ∃ cell : Cell, H[B + k]? = some cell ∧ cell.vm = .none ∧ cell.cls = cC := by
  obtain ⟨hx, hb, hr, hml, hown, hts, hK, hlocks, hN⟩ := C0
  have he := hP.2.2 k _ (lay_pl B ct hz)
  obtain ⟨r, h1, cell, q1, q2, q3, q4⟩ := he
  refine ⟨clK (ciK z.1), D.1 (ciK z.1), rfl, ?_, cell, q1, q3, q2⟩
  have h2 := (hK.1 (ciK z.1) r h1).2
  have h3 : r.1 = clK (ciK z.1) := by
    rcases ciK_cases z.1 with q | q | q | q | q | q | q | q <;> rw [q] at h1 ⊢ <;> cases h1 <;> rfl
  rw [← h3]
  exact h2
theorem pl_recv (C0 : XC D ct p s m args meth c cc nL ret own) (hP : MP D ct B Hb S H) {k : Nat} {z : Nat × Int32} (hz : gq S k = some z) : ∃ cell : Cell, H[B + k]? = some cell ∧ cell.vm.isStatics = false ∧ s.vm.findClass (clK (ciK z.1)) = some cell.cls := by
  obtain ⟨C, cC, rfl, h1, cell, h2, h3, h4⟩ := pl_cell C0 hP hz
  exact ⟨cell, h2, by rw [h3]; rfl, by rw [h4]; exact h1.1⟩
/-- who[i] = one -/
theorem x_astP (C0 : XC D ct p s m args meth c cc nL ret own) (hP : MP D ct B Hb S H) (hS : va_S (AB B) H0 H locs) {k n q : Nat} (he : ∀ S : St, lay B ct S k = some (.inl (ct 3, n, .inr (.inr (.inr (.inr (fun j => (gr S k j).map (B + ·)))))))) {z : Nat × Int32} (hz : gq S q = some z) {i : Int32} (hin : inb i n = true) (hdg : decode cc pc = .ok (.aastore, 1))
    (kk : ∀ (H1 : Heap) (locs1 : List Loc), MP D ct B Hb (sr S k i.toNatClampNeg (some q)) H1 → va_S (AB B) H0 H1 locs1 → W p l e R s m args below meth c H1 locs1 cells slots Q (F0 m (pc + 1) ls rest)) : W p l e R s m args below meth c H locs cells slots Q (F0 m pc ls (.ref (B + q) :: .int i :: .ref (B + k) :: rest)) := by
  obtain ⟨hx, hb, hr, hml, hown, hts, hK, hlocks, hN⟩ := id C0
  obtain ⟨C, cC, hCe, hat, cellV, g1, g3, g2⟩ := pl_cell C0 hP hz
  obtain ⟨kA, comp, k1, k2, k3, -⟩ := (hK.2 3 _ rfl).2
  have hcls := (hK.1 7 _ rfl).2
  have hcomp : comp = D.1 7 := Option.some.inj (k3.symm.trans hcls.1)
  obtain ⟨kC, hkC, -⟩ := hcls.2
  obtain ⟨kV, hkV, -⟩ := hat.2
  have hasg : s.vm.assignable cC comp = true := by
    subst hCe
    rcases ciK_cases z.1 with h | h | h | h | h | h | h | h <;> rw [h] at hat
    · exact vb_asgS _ _ k3 hat.1
    · exact vb_asgC (hN.1 (.castable "ThoughtBetterOf$Bride" "ThoughtBetterOf$Plain") (by simp [NW])) _ _ k3 hat.1
    · exact vb_asgC (hN.1 (.castable "ThoughtBetterOf$Firm" "ThoughtBetterOf$Plain") (by simp [NW])) _ _ k3 hat.1
    · exact vb_asgC (hN.1 (.castable "ThoughtBetterOf$Sworn" "ThoughtBetterOf$Plain") (by simp [NW])) _ _ k3 hat.1
    · exact vb_asgC (hN.1 (.castable "ThoughtBetterOf$General" "ThoughtBetterOf$Plain") (by simp [NW])) _ _ k3 hat.1
    · exact vb_asgC (hN.1 (.castable "ThoughtBetterOf$King" "ThoughtBetterOf$Plain") (by simp [NW])) _ _ k3 hat.1
    · exact vb_asgC (hN.1 (.castable "ThoughtBetterOf$Child" "ThoughtBetterOf$Plain") (by simp [NW])) _ _ k3 hat.1
    · exact vb_asgC (hN.1 (.castable "ThoughtBetterOf$Drunk" "ThoughtBetterOf$Plain") (by simp [NW])) _ _ k3 hat.1
  have hlt := inb_lt hin
  have h0 : ¬ i < 0 := fun q => inb_in hin (Or.inl q)
  refine W.aast hx hb (hP.2.2 k _ (he S)) (fun q h => by cases h) (fun h => by cases h) k1 k2 rfl (by rw [hcomp]; exact hkC) ⟨h0, by show _ < (arrV _ _ _).slots.size; rw [arrV_size]; exact hlt⟩ g1 (fun q h => by rw [g3] at h; cases h) (by rw [g2]; exact hkV) (by rw [g2]; exact hasg) rfl rfl hdg fun H1 e z oq => ?_
  refine kk H1 _ (MP_up hP z rfl oq (fun a ha => lay_local rfl rfl (gr_sr_n S _ _ ha) rfl) (fun e' he' => ?_)) (hS.put z oq (show B ≤ B + k from Nat.le_add_right _ _))
  rw [he] at he'
  cases he'
  show H1[B + k]? = some (vp_cell _ _)
  rw [e, vp_cell_q, vp_cell_q, arrV_store, gr_sr_s]
  congr 2
  funext q
  by_cases hq : q = i.toNatClampNeg
  · subst hq
    simp [updV, va_up, va_rf]
  · simp [updV, va_up, hq]
/-- super.x(..) on such a cell -/
theorem kUp (C0 : XC D ct p s m args meth c cc nL ret own) {y : MethodName} {bytes : ByteArray} {maxL fr lo n index mc ms k : Nat} {rt : Option FieldType} {As st : List Value} {Qc : Array Value → State → Outcome → State → Prop}
    (hM : Met l y (Cond.code y bytes maxL rt :: tG) { frames := fr, cells := mc, slots := ms, locals := lo } (va_Pc (.ref (B + k) :: As) (MPK D ct B Hb S)) Qc mc ms (AB B))
    (hw : Cond.code y bytes maxL rt ∈ tG ∧ Cond.methodLink own index y ∈ tG ∧ Cond.sameMethod y.cls y.cls y.name y.desc ∈ tG ∧ Cond.superclass own y.cls ∈ tG ∧ Cond.instanceMethod y ∈ tG ∧ Cond.initialized y.cls ∈ tG)
    (hd : y.name ≠ "<init>" ∧ (parseMethodDescriptor y.desc).map (fun d => d.parameters.length) = some n) (hR : fr + 1 ≤ R.frames ∧ 8 + (maxL + 11) + lo ≤ R.locals)
    (hP : MP D ct B Hb S H) {z : Nat × Int32} (hz : gq S k = some z) (hn : As.length = n) (hsize : ls.size = nL) (hst : st = As.reverse ++ .ref (B + k) :: rest) (hcat : (rest.map fun v => v.category).sum ≤ 8) (hdg : decode cc pc = .ok (.invokespecial index, 3)) (hf : cells + mc ≤ R.cells ∧ slots + ms ≤ R.slots) :
    va_Run p l e R s m args below meth c H locs cells slots mc ms (F0 m pc ls st) rest (Qc (.ref (B + k) :: As).toArray) (AB B) := by
  have he := lay_pl B ct hz
  rcases ciK_cases z.1 with q | q | q | q | q | q | q | q <;> rw [q] at he <;> exact kU C0 hM hw hd hR hP he rfl hn hsize hst hcat hdg hf
/-- super.x(..), where what is named has it from above -/
theorem kUA (C0 : XC D ct p s m args meth c cc nL ret own) {x y : MethodName} {bytes : ByteArray} {maxL fr lo n index mc ms k : Nat} {rt : Option FieldType} {As st : List Value} {Qc : Array Value → State → Outcome → State → Prop}
    (hM : Met l y (Cond.code y bytes maxL rt :: tG) { frames := fr, cells := mc, slots := ms, locals := lo } (va_Pc (.ref (B + k) :: As) (MPK D ct B Hb S)) Qc mc ms (AB B))
    (hy : y = ⟨y.cls, x.name, x.desc⟩) (hw : Cond.code y bytes maxL rt ∈ tG ∧ Cond.methodLink own index x ∈ tG ∧ Cond.sameMethod x.cls y.cls x.name x.desc ∈ tG ∧ Cond.superclass own x.cls ∈ tG ∧ Cond.superclass x.cls y.cls ∈ tG ∧ Cond.instanceMethod y ∈ tG ∧ Cond.initialized y.cls ∈ tG)
    (hd : x.name ≠ "<init>" ∧ (parseMethodDescriptor y.desc).map (fun d => d.parameters.length) = some n) (hR : fr + 1 ≤ R.frames ∧ 8 + (maxL + 11) + lo ≤ R.locals)
    (hP : MP D ct B Hb S H) {z : Nat × Int32} (hz : gq S k = some z) (hn : As.length = n) (hsize : ls.size = nL) (hst : st = As.reverse ++ .ref (B + k) :: rest) (hcat : (rest.map fun v => v.category).sum ≤ 8) (hdg : decode cc pc = .ok (.invokespecial index, 3)) (hf : cells + mc ≤ R.cells ∧ slots + ms ≤ R.slots) :
    va_Run p l e R s m args below meth c H locs cells slots mc ms (F0 m pc ls st) rest (Qc (.ref (B + k) :: As).toArray) (AB B) := by
  obtain ⟨hx, hb, hr, hml, hown, hts, hK, hlocks, hN⟩ := id C0
  obtain ⟨w1, w2, w3, w4, w5, w6, w7⟩ := hw
  obtain ⟨C, cC, hCe, hat, cellV, g1, g3, g2⟩ := pl_cell C0 hP hz
  obtain ⟨kV, hkV, -⟩ := hat.2
  have hK' : Back l R p e below s args y 3 8 (PreOf R mc ms (va_Pc (.ref (B + k) :: As) (MPK D ct B Hb S))) (PostOf Qc mc ms (AB B)) := back_of (bytes := bytes) (maxL := maxL) (ret := rt) hM mpk_blind rfl rfl hR.1 hR.2 (pay_in hts (tG_co w1)) List.mem_cons_self (fun a' U hW => word_at hW (Or.inl (by first | rfl | simp [Cond.onTables, Cond.keeps, Cond.steady])) (hts _ w7))
  intro T hT X
  obtain ⟨mk, methM, hnamed, hmethM, hstM, habM⟩ := Cond.instanceMethod_spec (hts _ w6)
  obtain ⟨methM', cM, hmethM', -, -, -, -, -, -, hsigM⟩ := Cond.code_spec hnamed (hts _ w1)
  cases hmethM.symm.trans hmethM'
  obtain ⟨ps, dk, kp, hps, hdk, hkp, hsuper, -, -, hnid⟩ := Cond.superclass_spec hown (hts _ w4)
  obtain ⟨ps2, dk2, kp2, hps2, hdk2, hkp2, hsuper2, hkd2, hkdp2, -⟩ := Cond.superclass_spec hps (hts _ w5)
  have hn1 : s.methodNamed? ⟨y.cls, x.name, x.desc⟩ = some mk := by rw [← hy]; exact hnamed
  have hpm : ps2 = mk.cls := Option.some.inj (hps2.symm.trans (findClass_of_methodNamed hnamed))
  have hsub : s.vm.isSubclass ps mk.cls = true := by
    rw [← hpm]
    simp [Vm.isSubclass, Vm.isSubclassAux, hdk2, hsuper2]
    refine Or.inr ?_
    obtain ⟨n9, h9⟩ : ∃ n : Nat, s.vm.classes.size = n + 1 := ⟨s.vm.classes.size - 1, by have := (Array.getElem?_eq_some_iff.mp hdk2).1; omega⟩
    rw [h9]
    simp [Vm.isSubclassAux]
  have hdesc : y.desc = x.desc := by rw [hy]
  have hlen : ∀ sig, parseMethodDescriptor y.desc = some sig → As.length = sig.parameters.length := by
    intro sig h
    have h2 := hd.2
    rw [h] at h2
    exact hn.trans (Option.some.inj h2).symm
  obtain ⟨vm₁, X₁, hstep₁⟩ := X.invokespecialUp hx hown (hts _ w2) (hts _ w3) hn1 hmethM hstM habM hd.1 hdk hnid hps hsuper hsub (a := B + k) (cell := cellV) (by rw [hT]; exact g1)
    (fun z h => by rw [g3] at h; cases h) (by rw [g2]; exact hkV) (g := F0 m pc ls st) rfl (argsL := As) (rest := rest) (hlen _ hsigM) hst (by rw [hb]; exact hdg)
  obtain ⟨v, ⟨U', l2, c2, s2⟩, X', ⟨g', mk', t, L, e1, e2, hq, h1, hL, h2, h3⟩, hsteps⟩ := hK' m meth c ⟨T.setVm vm₁, locs, cells, slots⟩ { (F0 m pc ls st) with stack := rest } (.invokespecial index) mk (Value.ref (B + k) :: As).toArray X₁ rfl (hsize.trans hml.symm) (by rw [hb]; exact hdg) (lv_room hcat) (X₁.named hnamed)
    ⟨hf.1, hf.2, mpk_pre C0 hP (T.setVm vm₁) hT X₁.warmed⟩
  dsimp only [Pt.U, Pt.locs, Pt.cells, Pt.slots] at X' e1 e2 h1 h2 h3 hsteps
  subst h1; subst h2; subst h3
  exact ⟨v, (T.setVm vm₁).calling g' mk' (Value.ref (B + k) :: As).toArray, t, U', L, hT, X', hL, e1, e2, hq, fun target h => hstep₁ _ (by rw [doInvoke_state]; exact hsteps.trans h)⟩
/-- x.f(..) on such a cell, by its class C: what it selects is y; x names what stands in Plain -/
theorem kVU (C0 : XC D ct p s m args meth c cc nL ret own) {x y : MethodName} {bytes : ByteArray} {maxL fr lo n index mc ms k : Nat} {rt : Option FieldType} {As st : List Value} {Qc : Array Value → State → Outcome → State → Prop} {C : String}
    (hM : Met l y (Cond.code y bytes maxL rt :: tG) { frames := fr, cells := mc, slots := ms, locals := lo } (va_Pc (.ref (B + k) :: As) (MPK D ct B Hb S)) Qc mc ms (AB B))
    {b0 : ByteArray} {m0 : Nat} {r0 : Option FieldType}
    (hw : Cond.code y bytes maxL rt ∈ tG ∧ Cond.methodLink own index x ∈ tG ∧ Cond.sameMethod x.cls x.cls x.name x.desc ∈ tG ∧ Cond.instanceMethod x ∈ tG ∧ Cond.selects C x y ∈ tG ∧ Cond.instanceMethod y ∈ tG ∧ Cond.initialized y.cls ∈ tG ∧ Cond.code x b0 m0 r0 ∈ tG)
    (hd : x.cls ≠ "java/lang/invoke/MethodHandle" ∧ x.cls ≠ "java/lang/invoke/VarHandle" ∧ (parseMethodDescriptor x.desc).map (fun d => d.parameters.length) = some n) (hR : fr + 1 ≤ R.frames ∧ 8 + (maxL + 11) + lo ≤ R.locals)
    (hP : MP D ct B Hb S H) {z : Nat × Int32} (hz : gq S k = some z) (hC : clK (ciK z.1) = C) (hn : As.length = n) (hsize : ls.size = nL) (hst : st = As.reverse ++ .ref (B + k) :: rest) (hcat : (rest.map fun v => v.category).sum ≤ 8) (hdg : decode cc pc = .ok (.invokevirtual index, 3)) (hf : cells + mc ≤ R.cells ∧ slots + ms ≤ R.slots) :
    va_Run p l e R s m args below meth c H locs cells slots mc ms (F0 m pc ls st) rest (Qc (.ref (B + k) :: As).toArray) (AB B) := by
  obtain ⟨hx, hb, hr, hml, hown, hts, hK, hlocks, hN⟩ := id C0
  obtain ⟨w1, w2, w3, w4, w5, w6, w7, w8⟩ := hw
  subst hC
  refine va_runU (As := As) (rest := rest) (Ts := tG) (own := own) (C := clK (ciK z.1)) ⟨hx, hb, hml, hown, hts⟩ hM (va_cwO (owner := x.cls) (x := x) (b0 := b0) (m0 := m0) (r0 := r0) n hts (tG_gi (fun w hw => ?_)) rfl rfl rfl w8 hd hR) ⟨mpk_blind, pl_recv C0 hP hz, mpk_pre C0 hP⟩ rfl hn hsize hst (lv_room hcat) hdg hf
  rcases List.mem_append.mp hw with h | h
  · simp only [List.mem_cons, List.not_mem_nil, or_false] at h
    rcases h with rfl | rfl | rfl | rfl | rfl | rfl
    · exact w2
    · exact w3
    · exact w4
    · exact w5
    · exact w6
    · exact w7
  · rcases List.mem_cons.mp h with rfl | h
    · exact w1
    · exact h
end XPL
