/-! THE LAW'S CALLS AND ENDS -/
theorem AB_up' {P0 : Nat} {n : Nat} : ∀ q : Nat, q < n → AB (P0 + 1) q → AB P0 q := fun q _ h => AB_up q h
abbrev qLI (D : va_G) (ct : Nat → ClassId) (P0 : Nat) (Hb : Heap) (S : St) (V : Int32) : Array Value → State → Outcome → State → Prop := va_Qi (fun r (_ : Unit) => r = V) (fun _ t => MLP D ct P0 Hb S t) (AB P0)
abbrev qLIw (D : va_G) (ct : Nat → ClassId) (P0 : Nat) (Hb : Heap) (V : Int32 × St) : Array Value → State → Outcome → State → Prop := va_Qi (fun r (u : St) => (r, u) = V) (fun u t => MLP D ct P0 Hb u t) (AB P0)
section XLC
variable {p : Program} {l : Launch} {e : Env} {R : Room} {s : State} {m : MethodId} {args : Array Value} {below : List Frame} {meth : Method} {c : Code} {H : Heap} {locs : List Loc} {cells slots : Nat} {Q : State → Prop}
variable {cc : ByteArray} {pc nL : Nat} {ret : Option FieldType} {own : String} {ls : Array Slot} {rest st0 : List Value} {D : va_G} {ct : Nat → ClassId} {P0 : Nat} {Hb : Heap} {S : St} {H0 : Heap} {xb xL : Nat} {xs : Nat → Int32} {adK adV : Nat → Nat} {a : Array Value} {mc ms : Nat}
-- calls of the class's own methods
theorem nl_I {V : Int32} (hr : va_Run p l e R s m args below meth c H locs cells slots mc ms (F0 m pc ls st0) rest (qI D ct (P0 + 1) H S V a) (AB (P0 + 1))) (hP : ML D ct P0 Hb S H) (hS : va_S (AB P0) H0 H locs) (kk : ∀ (H1 : Heap) (locs1 : List Loc), ML D ct P0 Hb S H1 → va_S (AB P0) H0 H1 locs1 → W p l e R s m args below meth c H1 locs1 (cells + mc) (slots + ms) Q (F0 m (pc + 3) ls (.int V :: rest))) : W p l e R s m args below meth c H locs cells slots Q (F0 m pc ls st0) :=
  va_calli hr hS AB_up' AB_up (fun r u t H1 locs1 ht hvm hp hB hz hk hS1 => by subst hp; exact kk H1 locs1 (ML_up hP (ht ▸ hB.1) rfl) hS1)
theorem nl_Iw {V : Int32 × St} (hr : va_Run p l e R s m args below meth c H locs cells slots mc ms (F0 m pc ls st0) rest (qIw D ct (P0 + 1) H V a) (AB (P0 + 1))) (hP : ML D ct P0 Hb S H) (hq : lq S V.2 = true) (hS : va_S (AB P0) H0 H locs) (kk : ∀ (H1 : Heap) (locs1 : List Loc), ML D ct P0 Hb V.2 H1 → va_S (AB P0) H0 H1 locs1 → W p l e R s m args below meth c H1 locs1 (cells + mc) (slots + ms) Q (F0 m (pc + 3) ls (.int V.1 :: rest))) : W p l e R s m args below meth c H locs cells slots Q (F0 m pc ls st0) :=
  va_calli hr hS AB_up' AB_up (fun r u t H1 locs1 ht hvm hp hB hz hk hS1 => by subst hp; exact kk H1 locs1 (ML_up hP (ht ▸ hB.1) (fsL_lq hq)) hS1)
theorem nl_Lw {V : Int64 × St} (hr : va_Run p l e R s m args below meth c H locs cells slots mc ms (F0 m pc ls st0) rest (qLw D ct (P0 + 1) H V a) (AB (P0 + 1))) (hP : ML D ct P0 Hb S H) (hq : lq S V.2 = true) (hS : va_S (AB P0) H0 H locs) (kk : ∀ (H1 : Heap) (locs1 : List Loc), ML D ct P0 Hb V.2 H1 → va_S (AB P0) H0 H1 locs1 → W p l e R s m args below meth c H1 locs1 (cells + mc) (slots + ms) Q (F0 m (pc + 3) ls (.long V.1 :: rest))) : W p l e R s m args below meth c H locs cells slots Q (F0 m pc ls st0) :=
  va_calll hr hS AB_up' AB_up (fun r u t H1 locs1 ht hvm hp hB hz hk hS1 => by subst hp; exact kk H1 locs1 (ML_up hP (ht ▸ hB.1) (fsL_lq hq)) hS1)
/-- town: a call over texts -/
theorem kVT (C0 : XC D ct p s m args meth c cc nL ret own) (hE : XS xb xL xs adK adV P0 s) (hS : va_S (AB P0) s.heap H locs) {y : MethodName} {bytes : ByteArray} {maxL fr lo n index mc ms k ci : Nat} {rt : Option FieldType} {C : String} {As st : List Value} {Qc : Array Value → State → Outcome → State → Prop}
    (hM : Met l y (Cond.code y bytes maxL rt :: tG) { frames := fr, cells := mc, slots := ms, locals := lo } (va_Pc (.ref (P0 + 1 + k) :: As) (fun U => MPK D ct (P0 + 1) H S U ∧ SK adK adV (P0 + 1) U)) Qc mc ms (AB (P0 + 1)))
    (hw : Cond.code y bytes maxL rt ∈ tG ∧ Cond.methodLink own index y ∈ tG ∧ Cond.instanceMethod y ∈ tG ∧ Cond.selects C y y ∈ tG ∧ Cond.initialized C ∈ tG)
    (hd : y.cls = C ∧ y.cls ≠ "java/lang/invoke/MethodHandle" ∧ y.cls ≠ "java/lang/invoke/VarHandle" ∧ (parseMethodDescriptor y.desc).map (fun d => d.parameters.length) = some n) (hR : fr + 1 ≤ R.frames ∧ 8 + (maxL + 11) + lo ≤ R.locals)
    (hP : MP D ct (P0 + 1) H S H) {fs : List Value} (he : lay (P0 + 1) ct S k = some (.inr (ci, fs))) {T : u_T} {N : Nat} (hc : vwCl[ci]? = some (C, T, N)) (hn : As.length = n) (hsize : ls.size = nL) (hst : st = As.reverse ++ .ref (P0 + 1 + k) :: rest) (hcat : (rest.map fun v => v.category).sum ≤ 8) (hdg : decode cc pc = .ok (.invokevirtual index, 3)) (hf : cells + mc ≤ R.cells ∧ slots + ms ≤ R.slots) :
    va_Run p l e R s m args below meth c H locs cells slots mc ms (F0 m pc ls st) rest (Qc (.ref (P0 + 1 + k) :: As).toArray) (AB (P0 + 1)) := by
  obtain ⟨hx, hb, hr, hml, hown, hts, hK, hlocks, hN⟩ := id C0
  obtain ⟨w1, w2, w3, w4, w5⟩ := hw
  refine va_runV (As := As) (rest := rest) (Ts := tG) (own := own) ⟨hx, hb, hml, hown, hts⟩ hM (cwV n hts (tG_gi (fun w hw => ?_)) rfl rfl rfl hd hR) ⟨sk_blind, mpk_recv C0 hP he hc, fun U hU hW => ⟨rfl, (mpk_pre C0 hP (av := As) U hU hW).2, SK_up (hE.2.2.at hS hU hW)⟩⟩ rfl hn hsize hst (lv_room hcat) hdg hf
  rcases List.mem_append.mp hw with h | h
  · simp only [List.mem_cons, List.not_mem_nil, or_false] at h
    rcases h with rfl | rfl | rfl | rfl
    · exact w2
    · exact w3
    · exact w4
    · exact w5
  · rcases List.mem_cons.mp h with rfl | h
    · exact w1
    · exact h
-- calls of the law's own methods
theorem mlk_blind {av : List Value} : FrameBlind (va_Pc av (MLK D ct P0 Hb xb xL xs adK adV S)) := fun a U g mk q => ⟨q.1, ⟨q.2.1.1, va_K.moved (u := U) (U := U.calling g mk a) (Vm.Alike.refl U.vm) q.2.1.2.1, NWs.same (u := U) (U := U.calling g mk a) rfl q.2.1.2.2⟩, q.2.2.call g mk a⟩
theorem mlk_pre (C0 : XC D ct p s m args meth c cc nL ret own) (hE : XS xb xL xs adK adV P0 s) (hS : va_S (AB P0) s.heap H locs) (hP : ML D ct P0 Hb S H) {av : List Value} (U : State) (hU : U.heap = H) (hW : s.WarmedH U.vm) : va_Pc av (MLK D ct P0 Hb xb xL xs adK adV S) av.toArray U := by
  obtain ⟨hx, hb, hr, hml, hown, hts, hK, hlocks, hN⟩ := C0
  exact ⟨rfl, ⟨by rw [hU]; exact hP, va_K.moved hW.alike hK, hN.warm hW⟩, hE.at hS hU hW⟩
theorem mlk_recv (C0 : XC D ct p s m args meth c cc nL ret own) (hP : ML D ct P0 Hb S H) : ∃ cell : Cell, H[P0]? = some cell ∧ cell.vm.isStatics = false ∧ s.vm.findClass RL = some cell.cls := by
  obtain ⟨hx, hb, hr, hml, hown, hts, hK, hlocks, hN⟩ := C0
  exact va_recv (ws := [(P0, .inr (12, fsL P0 S))]) hK (fun j q hq => by
    cases j with
    | zero => cases hq; exact hP.2.2
    | succ j => cases hq) (q0 := 0) rfl rfl
theorem kLS (C0 : XC D ct p s m args meth c cc nL ret own) (hE : XS xb xL xs adK adV P0 s) (hS : va_S (AB P0) s.heap H locs) {y : MethodName} {bytes : ByteArray} {maxL fr lo n index mc ms : Nat} {rt : Option FieldType} {As st : List Value} {Qc : Array Value → State → Outcome → State → Prop}
    (hM : Met l y (Cond.code y bytes maxL rt :: tG) { frames := fr, cells := mc, slots := ms, locals := lo } (va_Pc As (MLK D ct P0 Hb xb xL xs adK adV S)) Qc mc ms (AB P0))
    (hw : Cond.code y bytes maxL rt ∈ tG ∧ Cond.methodLink own index y ∈ tG ∧ Cond.static y ∈ tG ∧ Cond.initialized y.cls ∈ tG)
    (hd : y.cls ≠ "java/lang/invoke/MethodHandle" ∧ y.cls ≠ "java/lang/invoke/VarHandle" ∧ (parseMethodDescriptor y.desc).map (fun d => d.parameters.length) = some n) (hR : fr + 1 ≤ R.frames ∧ 8 + (maxL + 11) + lo ≤ R.locals)
    (hP : ML D ct P0 Hb S H) (hn : As.length = n) (hsize : ls.size = nL) (hst : st = As.reverse ++ rest) (hcat : (rest.map fun v => v.category).sum ≤ 8) (hdg : decode cc pc = .ok (.invokestatic index, 3)) (hf : cells + mc ≤ R.cells ∧ slots + ms ≤ R.slots) :
    va_Run p l e R s m args below meth c H locs cells slots mc ms (F0 m pc ls st) rest (Qc As.toArray) (AB P0) := by
  obtain ⟨hx, hb, hr, hml, hown, hts, hK, hlocks, hN⟩ := id C0
  obtain ⟨w1, w2, w3, w4⟩ := hw
  refine va_runS (As := As) (rest := rest) (Ts := tG) (own := own) ⟨hx, hb, hml, hown, hts⟩ hM (va_cwS n hts (tG_gi (fun w hw => ?_)) rfl rfl rfl hd hR) ⟨mlk_blind, mlk_pre C0 hE hS hP⟩ rfl hn hsize hst (lv_room hcat) hdg hf
  rcases List.mem_append.mp hw with h | h
  · simp only [List.mem_cons, List.not_mem_nil, or_false] at h
    rcases h with rfl | rfl | rfl
    · exact w2
    · exact w3
    · exact w4
  · rcases List.mem_cons.mp h with rfl | h
    · exact w1
    · exact h
theorem kLV (C0 : XC D ct p s m args meth c cc nL ret own) (hE : XS xb xL xs adK adV P0 s) (hS : va_S (AB P0) s.heap H locs) {y : MethodName} {bytes : ByteArray} {maxL fr lo n index mc ms : Nat} {rt : Option FieldType} {As st : List Value} {Qc : Array Value → State → Outcome → State → Prop}
    (hM : Met l y (Cond.code y bytes maxL rt :: tG) { frames := fr, cells := mc, slots := ms, locals := lo } (va_Pc (.ref P0 :: As) (MLK D ct P0 Hb xb xL xs adK adV S)) Qc mc ms (AB P0))
    (hw : Cond.code y bytes maxL rt ∈ tG ∧ Cond.methodLink own index y ∈ tG ∧ Cond.instanceMethod y ∈ tG ∧ Cond.selects RL y y ∈ tG ∧ Cond.initialized RL ∈ tG)
    (hd : y.cls = RL ∧ y.cls ≠ "java/lang/invoke/MethodHandle" ∧ y.cls ≠ "java/lang/invoke/VarHandle" ∧ (parseMethodDescriptor y.desc).map (fun d => d.parameters.length) = some n) (hR : fr + 1 ≤ R.frames ∧ 8 + (maxL + 11) + lo ≤ R.locals)
    (hP : ML D ct P0 Hb S H) (hn : As.length = n) (hsize : ls.size = nL) (hst : st = As.reverse ++ .ref P0 :: rest) (hcat : (rest.map fun v => v.category).sum ≤ 8) (hdg : decode cc pc = .ok (.invokevirtual index, 3)) (hf : cells + mc ≤ R.cells ∧ slots + ms ≤ R.slots) :
    va_Run p l e R s m args below meth c H locs cells slots mc ms (F0 m pc ls st) rest (Qc (.ref P0 :: As).toArray) (AB P0) := by
  obtain ⟨hx, hb, hr, hml, hown, hts, hK, hlocks, hN⟩ := id C0
  obtain ⟨w1, w2, w3, w4, w5⟩ := hw
  refine va_runV (As := As) (rest := rest) (Ts := tG) (own := own) (C := RL) ⟨hx, hb, hml, hown, hts⟩ hM (cwV n hts (tG_gi (fun w hw => ?_)) rfl rfl rfl hd hR) ⟨mlk_blind, mlk_recv C0 hP, mlk_pre C0 hE hS hP⟩ rfl hn hsize hst (lv_room hcat) hdg hf
  rcases List.mem_append.mp hw with h | h
  · simp only [List.mem_cons, List.not_mem_nil, or_false] at h
    rcases h with rfl | rfl | rfl | rfl
    · exact w2
    · exact w3
    · exact w4
    · exact w5
  · rcases List.mem_cons.mp h with rfl | h
    · exact w1
    · exact h
theorem nL_I {V : Int32} (hr : va_Run p l e R s m args below meth c H locs cells slots mc ms (F0 m pc ls st0) rest (qLI D ct P0 Hb S V a) (AB P0)) (hS : va_S (AB P0) H0 H locs) (kk : ∀ (H1 : Heap) (locs1 : List Loc), ML D ct P0 Hb S H1 → va_S (AB P0) H0 H1 locs1 → W p l e R s m args below meth c H1 locs1 (cells + mc) (slots + ms) Q (F0 m (pc + 3) ls (.int V :: rest))) : W p l e R s m args below meth c H locs cells slots Q (F0 m pc ls st0) :=
  va_calli hr hS (fun _ _ h => h) (fun _ h => h) (fun r u t H1 locs1 ht hvm hp hB hz hk hS1 => by subst hp; exact kk H1 locs1 (ht ▸ hB.1) hS1)
theorem nL_Iw {V : Int32 × St} (hr : va_Run p l e R s m args below meth c H locs cells slots mc ms (F0 m pc ls st0) rest (qLIw D ct P0 Hb V a) (AB P0)) (hS : va_S (AB P0) H0 H locs) (kk : ∀ (H1 : Heap) (locs1 : List Loc), ML D ct P0 Hb V.2 H1 → va_S (AB P0) H0 H1 locs1 → W p l e R s m args below meth c H1 locs1 (cells + mc) (slots + ms) Q (F0 m (pc + 3) ls (.int V.1 :: rest))) : W p l e R s m args below meth c H locs cells slots Q (F0 m pc ls st0) :=
  va_calli hr hS (fun _ _ h => h) (fun _ h => h) (fun r u t H1 locs1 ht hvm hp hB hz hk hS1 => by subst hp; exact kk H1 locs1 (ht ▸ hB.1) hS1)
-- ends
theorem rl_I (C0 : XC D ct p s m args meth c cc nL (some .int) own) (hP : ML D ct P0 Hb S H) (hS : va_S (AB P0) s.heap H locs) {v V : Int32} (h : some v = some V) (hdg : decode cc pc = .ok (.ireturn, 1)) : W p l e R s m args below meth c H locs cells slots (MQ below (qLI D ct P0 Hb S V) args s cells slots (AB P0)) (F0 m pc ls [.int v]) := by
  obtain ⟨hx, hb, hr, hml, hown, hts, hK, hlocks, hN⟩ := C0
  exact W.iret hx hb hr (fun t ht hW => ⟨⟨v, (), rfl, Option.some.inj h, by rw [ht]; exact hP, va_K.moved hW.alike hK, hN.warm hW⟩, hS.F ht⟩) hS.2.2 hdg hlocks
theorem rl_Iw (C0 : XC D ct p s m args meth c cc nL (some .int) own) (hP : ML D ct P0 Hb S H) (hS : va_S (AB P0) s.heap H locs) {v : Int32} {V : Int32 × St} (h : some (v, S) = some V) (hdg : decode cc pc = .ok (.ireturn, 1)) : W p l e R s m args below meth c H locs cells slots (MQ below (qLIw D ct P0 Hb V) args s cells slots (AB P0)) (F0 m pc ls [.int v]) := by
  obtain ⟨hx, hb, hr, hml, hown, hts, hK, hlocks, hN⟩ := C0
  exact W.iret hx hb hr (fun t ht hW => ⟨⟨v, S, rfl, Option.some.inj h, by rw [ht]; exact hP, va_K.moved hW.alike hK, hN.warm hW⟩, hS.F ht⟩) hS.2.2 hdg hlocks
theorem rl_Zw (C0 : XC D ct p s m args meth c cc nL (some .boolean) own) (hP : ML D ct P0 Hb S H) (hS : va_S (AB P0) s.heap H locs) {v : Int32} {V : Int32 × St} (hn : narrow .boolean (.int v) = .int v) (h : some (v, S) = some V) (hdg : decode cc pc = .ok (.ireturn, 1)) : W p l e R s m args below meth c H locs cells slots (MQ below (qLIw D ct P0 Hb V) args s cells slots (AB P0)) (F0 m pc ls [.int v]) := by
  obtain ⟨hx, hb, hr, hml, hown, hts, hK, hlocks, hN⟩ := C0
  exact W.zret hx hb hr hn (fun t ht hW => ⟨⟨v, S, rfl, Option.some.inj h, by rw [ht]; exact hP, va_K.moved hW.alike hK, hN.warm hW⟩, hS.F ht⟩) hS.2.2 hdg hlocks
end XLC
theorem mk_metL {l : Launch} {D : va_G} {ct : Nat → ClassId} {P0 : Nat} {Hb : Heap} {xb xL : Nat} {xs : Nat → Int32} {adK adV : Nat → Nat} {S : St} {y : MethodName} {cc : ByteArray} {nL : Nat} {ret : Option FieldType} {rm : Room} {av : List Value} {Qc : Array Value → State → Outcome → State → Prop} {mc ms : Nat} (hy : plainName y.cls = true) (hlen : (lg_sl av).length ≤ nL)
    (body : ∀ (p : Program) (e : Env) (s : State) (m : MethodId) (args : Array Value) (below : List Frame) (meth : Method) (c : Code) (ls : Array Slot), XC D ct p s m args meth c cc nL ret y.cls → XS xb xL xs adK adV P0 s → ML D ct P0 Hb S s.heap → lv_has ls nL (lv_args 0 av) → meth.name = y.name →
      W p l e rm s m args below meth c s.heap [] 0 0 (MQ below Qc args s mc ms (AB P0)) (F0 m 0 ls [])) : Met l y (Cond.code y cc nL ret :: tG) rm (va_Pc av (MLK D ct P0 Hb xb xL xs adK adV S)) Qc mc ms (AB P0) := by
  refine Met.ofW (cc := cc) (maxL := nL) (ret := ret) hy rfl ?_
  intro p e s m args below meth c s₁ Bo hml hv
  obtain ⟨rfl, ⟨hP, hK, hN⟩, hE⟩ := hv
  have hts := atoms_spec (ws := Cond.code y cc nL ret :: tG) Bo.pre
  have hl := lv_entry av (n := nL) hlen
  rw [lg_entry_eq]
  exact body p e s m _ below meth c _ ⟨Bo.exec, Bo.bytes, Bo.returns, hml, findClass_of_methodNamed Bo.named, fun w hw => hts w (List.mem_cons_of_mem _ hw), hK, Bo.notSynchronized, hN⟩ hE hP hl (name_of_methodNamed Bo.named Bo.method).1
