/-! CALLS and ends over the layout. -/
section XCALL
variable {p : Program} {l : Launch} {e : Env} {R : Room} {s : State} {m : MethodId} {args : Array Value} {below : List Frame} {meth : Method} {c : Code} {H : Heap} {locs : List Loc} {cells slots : Nat} {Q : State → Prop}
variable {cc : ByteArray} {pc nL : Nat} {ret : Option FieldType} {own : String} {ls : Array Slot} {rest : List Value} {D : va_G} {ct : Nat → ClassId} {B : Nat} {Hb : Heap} {S : St} {H0 : Heap}
theorem mpk_blind {av : List Value} : FrameBlind (va_Pc av (MPK D ct B Hb S)) := fun a U g mk q => ⟨q.1, q.2.1, va_K.moved (u := U) (U := U.calling g mk a) (Vm.Alike.refl U.vm) q.2.2.1, NWs.same (u := U) (U := U.calling g mk a) rfl q.2.2.2⟩
theorem mpk_pre (C0 : XC D ct p s m args meth c cc nL ret own) (hP : MP D ct B Hb S H) {av : List Value} (U : State) (hU : U.heap = H) (hW : s.WarmedH U.vm) : va_Pc av (MPK D ct B Hb S) av.toArray U := by
  obtain ⟨hx, hb, hr, hml, hown, hts, hK, hlocks, hN⟩ := C0
  exact ⟨rfl, by rw [hU]; exact hP, va_K.moved hW.alike hK, hN.warm hW⟩
theorem mpk_recv (C0 : XC D ct p s m args meth c cc nL ret own) (hP : MP D ct B Hb S H) {k ci : Nat} {fs : List Value} (he : lay B ct S k = some (.inr (ci, fs))) {C : String} {T : u_T} {N : Nat} (hc : vwCl[ci]? = some (C, T, N)) : ∃ cell : Cell, H[B + k]? = some cell ∧ cell.vm.isStatics = false ∧ s.vm.findClass C = some cell.cls := by
  obtain ⟨hx, hb, hr, hml, hown, hts, hK, hlocks, hN⟩ := C0
  exact va_recv (ws := [(B + k, .inr (ci, fs))]) hK (fun j q hq => by
    cases j with
    | zero => cases hq; exact hP.2.2 k _ he
    | succ j => cases hq) (q0 := 0) hc rfl
/-- a call of a method of the receiver's own class (a private one, a final class's) -/
theorem kV (C0 : XC D ct p s m args meth c cc nL ret own) {y : MethodName} {bytes : ByteArray} {maxL fr lo n index mc ms k ci : Nat} {rt : Option FieldType} {C : String} {As st : List Value} {Qc : Array Value → State → Outcome → State → Prop}
    (hM : Met l y (Cond.code y bytes maxL rt :: tG) { frames := fr, cells := mc, slots := ms, locals := lo } (va_Pc (.ref (B + k) :: As) (MPK D ct B Hb S)) Qc mc ms (AB B))
    (hw : Cond.code y bytes maxL rt ∈ tG ∧ Cond.methodLink own index y ∈ tG ∧ Cond.instanceMethod y ∈ tG ∧ Cond.selects C y y ∈ tG ∧ Cond.initialized C ∈ tG)
    (hd : y.cls = C ∧ y.cls ≠ "java/lang/invoke/MethodHandle" ∧ y.cls ≠ "java/lang/invoke/VarHandle" ∧ (parseMethodDescriptor y.desc).map (fun d => d.parameters.length) = some n) (hR : fr + 1 ≤ R.frames ∧ 8 + (maxL + 11) + lo ≤ R.locals)
    (hP : MP D ct B Hb S H) {fs : List Value} (he : lay B ct S k = some (.inr (ci, fs))) {T : u_T} {N : Nat} (hc : vwCl[ci]? = some (C, T, N)) (hn : As.length = n) (hsize : ls.size = nL) (hst : st = As.reverse ++ .ref (B + k) :: rest) (hcat : (rest.map fun v => v.category).sum ≤ 8) (hdg : decode cc pc = .ok (.invokevirtual index, 3)) (hf : cells + mc ≤ R.cells ∧ slots + ms ≤ R.slots) :
    va_Run p l e R s m args below meth c H locs cells slots mc ms (F0 m pc ls st) rest (Qc (.ref (B + k) :: As).toArray) (AB B) := by
  obtain ⟨hx, hb, hr, hml, hown, hts, hK, hlocks, hN⟩ := id C0
  obtain ⟨w1, w2, w3, w4, w5⟩ := hw
  refine va_runV (As := As) (rest := rest) (Ts := tG) (own := own) ⟨hx, hb, hml, hown, hts⟩ hM (cwV n hts (tG_gi (fun w hw => ?_)) rfl rfl rfl hd hR) ⟨mpk_blind, mpk_recv C0 hP he hc, mpk_pre C0 hP⟩ rfl hn hsize hst (lv_room hcat) hdg hf
  rcases List.mem_append.mp hw with h | h
  · simp only [List.mem_cons, List.not_mem_nil, or_false] at h
    rcases h with rfl | rfl | rfl | rfl
    · exact w2
    · exact w3
    · exact w4
    · exact w5
  · rcases List.mem_cons.mp h with rfl | h
    · exact w1
    · exact h
theorem kS (C0 : XC D ct p s m args meth c cc nL ret own) {y : MethodName} {bytes : ByteArray} {maxL fr lo n index mc ms : Nat} {rt : Option FieldType} {As st : List Value} {Qc : Array Value → State → Outcome → State → Prop}
    (hM : Met l y (Cond.code y bytes maxL rt :: tG) { frames := fr, cells := mc, slots := ms, locals := lo } (va_Pc As (MPK D ct B Hb S)) Qc mc ms (AB B))
    (hw : Cond.code y bytes maxL rt ∈ tG ∧ Cond.methodLink own index y ∈ tG ∧ Cond.static y ∈ tG ∧ Cond.initialized y.cls ∈ tG)
    (hd : y.cls ≠ "java/lang/invoke/MethodHandle" ∧ y.cls ≠ "java/lang/invoke/VarHandle" ∧ (parseMethodDescriptor y.desc).map (fun d => d.parameters.length) = some n) (hR : fr + 1 ≤ R.frames ∧ 8 + (maxL + 11) + lo ≤ R.locals)
    (hP : MP D ct B Hb S H) (hn : As.length = n) (hsize : ls.size = nL) (hst : st = As.reverse ++ rest) (hcat : (rest.map fun v => v.category).sum ≤ 8) (hdg : decode cc pc = .ok (.invokestatic index, 3)) (hf : cells + mc ≤ R.cells ∧ slots + ms ≤ R.slots) :
    va_Run p l e R s m args below meth c H locs cells slots mc ms (F0 m pc ls st) rest (Qc As.toArray) (AB B) := by
  obtain ⟨hx, hb, hr, hml, hown, hts, hK, hlocks, hN⟩ := id C0
  obtain ⟨w1, w2, w3, w4⟩ := hw
  refine va_runS (As := As) (rest := rest) (Ts := tG) (own := own) ⟨hx, hb, hml, hown, hts⟩ hM (va_cwS n hts (tG_gi (fun w hw => ?_)) rfl rfl rfl hd hR) ⟨mpk_blind, mpk_pre C0 hP⟩ rfl hn hsize hst (lv_room hcat) hdg hf
  rcases List.mem_append.mp hw with h | h
  · simp only [List.mem_cons, List.not_mem_nil, or_false] at h
    rcases h with rfl | rfl | rfl
    · exact w2
    · exact w3
    · exact w4
  · rcases List.mem_cons.mp h with rfl | h
    · exact w1
    · exact h
/-- a private static of the outer class, from inside -/
theorem kN (C0 : XC D ct p s m args meth c cc nL ret own) {y : MethodName} {host : String} {bytes : ByteArray} {maxL fr lo n index mc ms : Nat} {rt : Option FieldType} {As st : List Value} {Qc : Array Value → State → Outcome → State → Prop}
    (hM : Met l y (Cond.code y bytes maxL rt :: tG) { frames := fr, cells := mc, slots := ms, locals := lo } (va_Pc As (MPK D ct B Hb S)) Qc mc ms (AB B))
    (hw : Cond.code y bytes maxL rt ∈ tG ∧ Cond.methodLinkNest own index y host ∈ NW ∧ Cond.static y ∈ tG ∧ Cond.initialized y.cls ∈ tG)
    (hd : y.cls ≠ "java/lang/invoke/MethodHandle" ∧ y.cls ≠ "java/lang/invoke/VarHandle" ∧ (parseMethodDescriptor y.desc).map (fun d => d.parameters.length) = some n) (hR : fr + 1 ≤ R.frames ∧ 8 + (maxL + 11) + lo ≤ R.locals)
    (hP : MP D ct B Hb S H) (hn : As.length = n) (hsize : ls.size = nL) (hst : st = As.reverse ++ rest) (hcat : (rest.map fun v => v.category).sum ≤ 8) (hdg : decode cc pc = .ok (.invokestatic index, 3)) (hf : cells + mc ≤ R.cells ∧ slots + ms ≤ R.slots) :
    va_Run p l e R s m args below meth c H locs cells slots mc ms (F0 m pc ls st) rest (Qc As.toArray) (AB B) := by
  obtain ⟨hx, hb, hr, hml, hown, hts, hK, hlocks, hN⟩ := id C0
  obtain ⟨w1, w2, w3, w4⟩ := hw
  exact va_runSN (As := As) (rest := rest) (Ts := tG) (own := own) ⟨hx, hb, hml, hown, hts⟩ hM ⟨va_cnB n hts (tG_co w1) rfl rfl rfl (hN.1 _ w2) (hts _ w4) hd hR, hts _ w3, trivial⟩ ⟨mpk_blind, mpk_pre C0 hP⟩ rfl hn hsize hst (lv_room hcat) hdg hf
/-- super.x(..) -/
theorem kU (C0 : XC D ct p s m args meth c cc nL ret own) {y : MethodName} {bytes : ByteArray} {maxL fr lo n index mc ms k ci : Nat} {rt : Option FieldType} {C : String} {As st : List Value} {Qc : Array Value → State → Outcome → State → Prop}
    (hM : Met l y (Cond.code y bytes maxL rt :: tG) { frames := fr, cells := mc, slots := ms, locals := lo } (va_Pc (.ref (B + k) :: As) (MPK D ct B Hb S)) Qc mc ms (AB B))
    (hw : Cond.code y bytes maxL rt ∈ tG ∧ Cond.methodLink own index y ∈ tG ∧ Cond.sameMethod y.cls y.cls y.name y.desc ∈ tG ∧ Cond.superclass own y.cls ∈ tG ∧ Cond.instanceMethod y ∈ tG ∧ Cond.initialized y.cls ∈ tG)
    (hd : y.name ≠ "<init>" ∧ (parseMethodDescriptor y.desc).map (fun d => d.parameters.length) = some n) (hR : fr + 1 ≤ R.frames ∧ 8 + (maxL + 11) + lo ≤ R.locals)
    (hP : MP D ct B Hb S H) {fs : List Value} (he : lay B ct S k = some (.inr (ci, fs))) {T : u_T} {N : Nat} (hc : vwCl[ci]? = some (C, T, N)) (hn : As.length = n) (hsize : ls.size = nL) (hst : st = As.reverse ++ .ref (B + k) :: rest) (hcat : (rest.map fun v => v.category).sum ≤ 8) (hdg : decode cc pc = .ok (.invokespecial index, 3)) (hf : cells + mc ≤ R.cells ∧ slots + ms ≤ R.slots) :
    va_Run p l e R s m args below meth c H locs cells slots mc ms (F0 m pc ls st) rest (Qc (.ref (B + k) :: As).toArray) (AB B) := by
  obtain ⟨hx, hb, hr, hml, hown, hts, hK, hlocks, hN⟩ := id C0
  obtain ⟨w1, w2, w3, w4, w5, w6⟩ := hw
  refine va_runSU (As := As) (rest := rest) (Ts := tG) (own := own) (hK.1 ci _ hc).2 ⟨hx, hb, hml, hown, hts⟩ hM (va_cwSU n hts (tG_gi (fun w hw => ?_)) rfl rfl rfl hd hR) ⟨mpk_blind, mpk_recv C0 hP he hc, mpk_pre C0 hP⟩ rfl hn hsize hst (lv_room hcat) hdg hf
  rcases List.mem_append.mp hw with h | h
  · simp only [List.mem_cons, List.not_mem_nil, or_false] at h
    rcases h with rfl | rfl | rfl | rfl | rfl
    · exact w2
    · exact w3
    · exact w4
    · exact w5
    · exact w6
  · rcases List.mem_cons.mp h with rfl | h
    · exact w1
    · exact h
variable {st0 : List Value} {a : Array Value} {mc ms : Nat}
abbrev qI (D : va_G) (ct : Nat → ClassId) (B : Nat) (Hb : Heap) (S : St) (V : Int32) : Array Value → State → Outcome → State → Prop := va_Qi (fun r (_ : Unit) => r = V) (fun _ t => MPK D ct B Hb S t) (AB B)
abbrev qIw (D : va_G) (ct : Nat → ClassId) (B : Nat) (Hb : Heap) (V : Int32 × St) : Array Value → State → Outcome → State → Prop := va_Qi (fun r (u : St) => (r, u) = V) (fun u t => MPK D ct B Hb u t) (AB B)
abbrev qL (D : va_G) (ct : Nat → ClassId) (B : Nat) (Hb : Heap) (S : St) (V : Int64) : Array Value → State → Outcome → State → Prop := va_Ql (fun r (_ : Unit) => r = V) (fun _ t => MPK D ct B Hb S t) (AB B)
abbrev qLw (D : va_G) (ct : Nat → ClassId) (B : Nat) (Hb : Heap) (V : Int64 × St) : Array Value → State → Outcome → State → Prop := va_Ql (fun r (u : St) => (r, u) = V) (fun u t => MPK D ct B Hb u t) (AB B)
abbrev qV (D : va_G) (ct : Nat → ClassId) (B : Nat) (Hb : Heap) (S : St) (V : Unit) : Array Value → State → Outcome → State → Prop := va_Qv (fun (u : Unit) => u = V) (fun _ t => MPK D ct B Hb S t) (AB B)
abbrev qVw (D : va_G) (ct : Nat → ClassId) (B : Nat) (Hb : Heap) (V : St) : Array Value → State → Outcome → State → Prop := va_Qv (fun (u : St) => u = V) (fun u t => MPK D ct B Hb u t) (AB B)
theorem n_I {V : Int32} (hr : va_Run p l e R s m args below meth c H locs cells slots mc ms (F0 m pc ls st0) rest (qI D ct B Hb S V a) (AB B)) (hS : va_S (AB B) H0 H locs) (kk : ∀ (H1 : Heap) (locs1 : List Loc), MP D ct B Hb S H1 → va_S (AB B) H0 H1 locs1 → W p l e R s m args below meth c H1 locs1 (cells + mc) (slots + ms) Q (F0 m (pc + 3) ls (.int V :: rest))) : W p l e R s m args below meth c H locs cells slots Q (F0 m pc ls st0) :=
  va_calli hr hS (fun _ _ h => h) (fun _ h => h) (fun r u t H1 locs1 ht hvm hp hB hz hk hS1 => by subst hp; exact kk H1 locs1 (ht ▸ hB.1) hS1)
theorem n_Iw {V : Int32 × St} (hr : va_Run p l e R s m args below meth c H locs cells slots mc ms (F0 m pc ls st0) rest (qIw D ct B Hb V a) (AB B)) (hS : va_S (AB B) H0 H locs) (kk : ∀ (H1 : Heap) (locs1 : List Loc), MP D ct B Hb V.2 H1 → va_S (AB B) H0 H1 locs1 → W p l e R s m args below meth c H1 locs1 (cells + mc) (slots + ms) Q (F0 m (pc + 3) ls (.int V.1 :: rest))) : W p l e R s m args below meth c H locs cells slots Q (F0 m pc ls st0) :=
  va_calli hr hS (fun _ _ h => h) (fun _ h => h) (fun r u t H1 locs1 ht hvm hp hB hz hk hS1 => by subst hp; exact kk H1 locs1 (ht ▸ hB.1) hS1)
theorem n_L {V : Int64} (hr : va_Run p l e R s m args below meth c H locs cells slots mc ms (F0 m pc ls st0) rest (qL D ct B Hb S V a) (AB B)) (hS : va_S (AB B) H0 H locs) (kk : ∀ (H1 : Heap) (locs1 : List Loc), MP D ct B Hb S H1 → va_S (AB B) H0 H1 locs1 → W p l e R s m args below meth c H1 locs1 (cells + mc) (slots + ms) Q (F0 m (pc + 3) ls (.long V :: rest))) : W p l e R s m args below meth c H locs cells slots Q (F0 m pc ls st0) :=
  va_calll hr hS (fun _ _ h => h) (fun _ h => h) (fun r u t H1 locs1 ht hvm hp hB hz hk hS1 => by subst hp; exact kk H1 locs1 (ht ▸ hB.1) hS1)
theorem n_Lw {V : Int64 × St} (hr : va_Run p l e R s m args below meth c H locs cells slots mc ms (F0 m pc ls st0) rest (qLw D ct B Hb V a) (AB B)) (hS : va_S (AB B) H0 H locs) (kk : ∀ (H1 : Heap) (locs1 : List Loc), MP D ct B Hb V.2 H1 → va_S (AB B) H0 H1 locs1 → W p l e R s m args below meth c H1 locs1 (cells + mc) (slots + ms) Q (F0 m (pc + 3) ls (.long V.1 :: rest))) : W p l e R s m args below meth c H locs cells slots Q (F0 m pc ls st0) :=
  va_calll hr hS (fun _ _ h => h) (fun _ h => h) (fun r u t H1 locs1 ht hvm hp hB hz hk hS1 => by subst hp; exact kk H1 locs1 (ht ▸ hB.1) hS1)
theorem n_V {V : Unit} (hr : va_Run p l e R s m args below meth c H locs cells slots mc ms (F0 m pc ls st0) rest (qV D ct B Hb S V a) (AB B)) (hS : va_S (AB B) H0 H locs) (kk : ∀ (H1 : Heap) (locs1 : List Loc), MP D ct B Hb S H1 → va_S (AB B) H0 H1 locs1 → W p l e R s m args below meth c H1 locs1 (cells + mc) (slots + ms) Q (F0 m (pc + 3) ls rest)) : W p l e R s m args below meth c H locs cells slots Q (F0 m pc ls st0) :=
  va_callv hr hS (fun _ _ h => h) (fun _ h => h) (fun u t H1 locs1 ht hvm hp hB hz hk hS1 => by subst hp; exact kk H1 locs1 (ht ▸ hB.1) hS1)
theorem n_Vw {V : St} (hr : va_Run p l e R s m args below meth c H locs cells slots mc ms (F0 m pc ls st0) rest (qVw D ct B Hb V a) (AB B)) (hS : va_S (AB B) H0 H locs) (kk : ∀ (H1 : Heap) (locs1 : List Loc), MP D ct B Hb V H1 → va_S (AB B) H0 H1 locs1 → W p l e R s m args below meth c H1 locs1 (cells + mc) (slots + ms) Q (F0 m (pc + 3) ls rest)) : W p l e R s m args below meth c H locs cells slots Q (F0 m pc ls st0) :=
  va_callv hr hS (fun _ _ h => h) (fun _ h => h) (fun u t H1 locs1 ht hvm hp hB hz hk hS1 => by subst hp; exact kk H1 locs1 (ht ▸ hB.1) hS1)
-- ends
theorem r_I (C0 : XC D ct p s m args meth c cc nL (some .int) own) (hP : MP D ct B Hb S H) (hS : va_S (AB B) s.heap H locs) {v V : Int32} (h : some v = some V) (hdg : decode cc pc = .ok (.ireturn, 1)) : W p l e R s m args below meth c H locs cells slots (MQ below (qI D ct B Hb S V) args s cells slots (AB B)) (F0 m pc ls [.int v]) := by
  obtain ⟨hx, hb, hr, hml, hown, hts, hK, hlocks, hN⟩ := C0
  exact W.iret hx hb hr (fun t ht hW => ⟨⟨v, (), rfl, Option.some.inj h, by rw [ht]; exact hP, va_K.moved hW.alike hK, hN.warm hW⟩, hS.F ht⟩) hS.2.2 hdg hlocks
theorem r_Iw (C0 : XC D ct p s m args meth c cc nL (some .int) own) (hP : MP D ct B Hb S H) (hS : va_S (AB B) s.heap H locs) {v : Int32} {V : Int32 × St} (h : some (v, S) = some V) (hdg : decode cc pc = .ok (.ireturn, 1)) : W p l e R s m args below meth c H locs cells slots (MQ below (qIw D ct B Hb V) args s cells slots (AB B)) (F0 m pc ls [.int v]) := by
  obtain ⟨hx, hb, hr, hml, hown, hts, hK, hlocks, hN⟩ := C0
  exact W.iret hx hb hr (fun t ht hW => ⟨⟨v, S, rfl, Option.some.inj h, by rw [ht]; exact hP, va_K.moved hW.alike hK, hN.warm hW⟩, hS.F ht⟩) hS.2.2 hdg hlocks
theorem r_Z (C0 : XC D ct p s m args meth c cc nL (some .boolean) own) (hP : MP D ct B Hb S H) (hS : va_S (AB B) s.heap H locs) {v V : Int32} (hn : narrow .boolean (.int v) = .int v) (h : some v = some V) (hdg : decode cc pc = .ok (.ireturn, 1)) : W p l e R s m args below meth c H locs cells slots (MQ below (qI D ct B Hb S V) args s cells slots (AB B)) (F0 m pc ls [.int v]) := by
  obtain ⟨hx, hb, hr, hml, hown, hts, hK, hlocks, hN⟩ := C0
  exact W.zret hx hb hr hn (fun t ht hW => ⟨⟨v, (), rfl, Option.some.inj h, by rw [ht]; exact hP, va_K.moved hW.alike hK, hN.warm hW⟩, hS.F ht⟩) hS.2.2 hdg hlocks
theorem r_Zw (C0 : XC D ct p s m args meth c cc nL (some .boolean) own) (hP : MP D ct B Hb S H) (hS : va_S (AB B) s.heap H locs) {v : Int32} {V : Int32 × St} (hn : narrow .boolean (.int v) = .int v) (h : some (v, S) = some V) (hdg : decode cc pc = .ok (.ireturn, 1)) : W p l e R s m args below meth c H locs cells slots (MQ below (qIw D ct B Hb V) args s cells slots (AB B)) (F0 m pc ls [.int v]) := by
  obtain ⟨hx, hb, hr, hml, hown, hts, hK, hlocks, hN⟩ := C0
  exact W.zret hx hb hr hn (fun t ht hW => ⟨⟨v, S, rfl, Option.some.inj h, by rw [ht]; exact hP, va_K.moved hW.alike hK, hN.warm hW⟩, hS.F ht⟩) hS.2.2 hdg hlocks
theorem r_L (C0 : XC D ct p s m args meth c cc nL (some .long) own) (hP : MP D ct B Hb S H) (hS : va_S (AB B) s.heap H locs) {v V : Int64} (h : some v = some V) (hdg : decode cc pc = .ok (.lreturn, 1)) : W p l e R s m args below meth c H locs cells slots (MQ below (qL D ct B Hb S V) args s cells slots (AB B)) (F0 m pc ls [.long v]) := by
  obtain ⟨hx, hb, hr, hml, hown, hts, hK, hlocks, hN⟩ := C0
  exact W.lret hx hb hr (fun t ht hW => ⟨⟨v, (), rfl, Option.some.inj h, by rw [ht]; exact hP, va_K.moved hW.alike hK, hN.warm hW⟩, hS.F ht⟩) hS.2.2 hdg hlocks
theorem r_Lw (C0 : XC D ct p s m args meth c cc nL (some .long) own) (hP : MP D ct B Hb S H) (hS : va_S (AB B) s.heap H locs) {v : Int64} {V : Int64 × St} (h : some (v, S) = some V) (hdg : decode cc pc = .ok (.lreturn, 1)) : W p l e R s m args below meth c H locs cells slots (MQ below (qLw D ct B Hb V) args s cells slots (AB B)) (F0 m pc ls [.long v]) := by
  obtain ⟨hx, hb, hr, hml, hown, hts, hK, hlocks, hN⟩ := C0
  exact W.lret hx hb hr (fun t ht hW => ⟨⟨v, S, rfl, Option.some.inj h, by rw [ht]; exact hP, va_K.moved hW.alike hK, hN.warm hW⟩, hS.F ht⟩) hS.2.2 hdg hlocks
theorem r_V (C0 : XC D ct p s m args meth c cc nL none own) (hP : MP D ct B Hb S H) (hS : va_S (AB B) s.heap H locs) {V : Unit} (hdg : decode cc pc = .ok (.return_, 1)) : W p l e R s m args below meth c H locs cells slots (MQ below (qV D ct B Hb S V) args s cells slots (AB B)) (F0 m pc ls []) := by
  obtain ⟨hx, hb, hr, hml, hown, hts, hK, hlocks, hN⟩ := C0
  exact W.vret hx hb hr (fun t ht hW => ⟨⟨(), rfl, rfl, by rw [ht]; exact hP, va_K.moved hW.alike hK, hN.warm hW⟩, hS.F ht⟩) hS.2.2 hdg hlocks
theorem r_Vw (C0 : XC D ct p s m args meth c cc nL none own) (hP : MP D ct B Hb S H) (hS : va_S (AB B) s.heap H locs) {V : St} (h : some S = some V) (hdg : decode cc pc = .ok (.return_, 1)) : W p l e R s m args below meth c H locs cells slots (MQ below (qVw D ct B Hb V) args s cells slots (AB B)) (F0 m pc ls []) := by
  obtain ⟨hx, hb, hr, hml, hown, hts, hK, hlocks, hN⟩ := C0
  exact W.vret hx hb hr (fun t ht hW => ⟨⟨S, rfl, Option.some.inj h, by rw [ht]; exact hP, va_K.moved hW.alike hK, hN.warm hW⟩, hS.F ht⟩) hS.2.2 hdg hlocks
end XCALL
theorem bool_n {v : Int32} (h : (v == 0 || v == 1) = true) : narrow .boolean (.int v) = .int v := by
  simp only [Bool.or_eq_true, beq_iff_eq] at h
  rcases h with rfl | rfl <;> rfl
theorem bool_0 : narrow .boolean (.int 0) = .int 0 := rfl
theorem bool_1 : narrow .boolean (.int 1) = .int 1 := rfl
/-- a contract out of a walk from the method's entry -/
theorem mk_met {l : Launch} {D : va_G} {ct : Nat → ClassId} {B : Nat} {Hb : Heap} {S : St} {y : MethodName} {cc : ByteArray} {nL : Nat} {ret : Option FieldType} {rm : Room} {av : List Value} {Qc : Array Value → State → Outcome → State → Prop} {mc ms : Nat} (hy : plainName y.cls = true) (hlen : (lg_sl av).length ≤ nL)
    (body : ∀ (p : Program) (e : Env) (s : State) (m : MethodId) (args : Array Value) (below : List Frame) (meth : Method) (c : Code) (ls : Array Slot), XC D ct p s m args meth c cc nL ret y.cls → MP D ct B Hb S s.heap → lv_has ls nL (lv_args 0 av) → meth.name = y.name →
      W p l e rm s m args below meth c s.heap [] 0 0 (MQ below Qc args s mc ms (AB B)) (F0 m 0 ls [])) : Met l y (Cond.code y cc nL ret :: tG) rm (va_Pc av (MPK D ct B Hb S)) Qc mc ms (AB B) := by
  refine Met.ofW (cc := cc) (maxL := nL) (ret := ret) hy rfl ?_
  intro p e s m args below meth c s₁ Bo hml hv
  obtain ⟨rfl, hP, hK, hN⟩ := hv
  have hts := atoms_spec (ws := Cond.code y cc nL ret :: tG) Bo.pre
  have hl := lv_entry av (n := nL) hlen
  rw [lg_entry_eq]
  exact body p e s m _ below meth c _ ⟨Bo.exec, Bo.bytes, Bo.returns, hml, findClass_of_methodNamed Bo.named, fun w hw => hts w (List.mem_cons_of_mem _ hw), hK, Bo.notSynchronized, hN⟩ hP hl (name_of_methodNamed Bo.named Bo.method).1
