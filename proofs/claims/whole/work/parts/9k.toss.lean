theorem dX11_toss_0 : decode cX11_toss 0 = .ok (.aload_n 0, 1) := by decide +kernel
theorem dX11_toss_1 : decode cX11_toss 1 = .ok (.iload_n 1, 1) := by decide +kernel
theorem dX11_toss_2 : decode cX11_toss 2 = .ok (.iconst 1, 1) := by decide +kernel
theorem dX11_toss_3 : decode cX11_toss 3 = .ok (.invokevirtual 66, 3) := by decide +kernel
theorem dX11_toss_6 : decode cX11_toss 6 = .ok (.istore_n 2, 1) := by decide +kernel
theorem dX11_toss_7 : decode cX11_toss 7 = .ok (.iload_n 2, 1) := by decide +kernel
theorem dX11_toss_8 : decode cX11_toss 8 = .ok (.ifCond .eq 5, 3) := by decide +kernel
theorem dX11_toss_11 : decode cX11_toss 11 = .ok (.iload_n 2, 1) := by decide +kernel
theorem dX11_toss_12 : decode cX11_toss 12 = .ok (.ireturn, 1) := by decide +kernel
theorem dX11_toss_13 : decode cX11_toss 13 = .ok (.aload_n 0, 1) := by decide +kernel
theorem dX11_toss_14 : decode cX11_toss 14 = .ok (.getfield 41, 3) := by decide +kernel
theorem dX11_toss_17 : decode cX11_toss 17 = .ok (.iload_n 1, 1) := by decide +kernel
theorem dX11_toss_18 : decode cX11_toss 18 = .ok (.aaload, 1) := by decide +kernel
theorem dX11_toss_19 : decode cX11_toss 19 = .ok (.astore_n 3, 1) := by decide +kernel
theorem dX11_toss_20 : decode cX11_toss 20 = .ok (.aload_n 3, 1) := by decide +kernel
theorem dX11_toss_21 : decode cX11_toss 21 = .ok (.invokevirtual 329, 3) := by decide +kernel
theorem dX11_toss_24 : decode cX11_toss 24 = .ok (.goto 31, 3) := by decide +kernel
theorem dX11_toss_27 : decode cX11_toss 27 = .ok (.astore 4, 2) := by decide +kernel
theorem dX11_toss_29 : decode cX11_toss 29 = .ok (.aload_n 3, 1) := by decide +kernel
theorem dX11_toss_30 : decode cX11_toss 30 = .ok (.getfield 91, 3) := by decide +kernel
theorem dX11_toss_33 : decode cX11_toss 33 = .ok (.ireturn, 1) := by decide +kernel
theorem dX11_toss_34 : decode cX11_toss 34 = .ok (.astore 4, 2) := by decide +kernel
theorem dX11_toss_36 : decode cX11_toss 36 = .ok (.bipush 100, 2) := by decide +kernel
theorem dX11_toss_38 : decode cX11_toss 38 = .ok (.aload_n 3, 1) := by decide +kernel
theorem dX11_toss_39 : decode cX11_toss 39 = .ok (.getfield 91, 3) := by decide +kernel
theorem dX11_toss_42 : decode cX11_toss 42 = .ok (.iadd, 1) := by decide +kernel
theorem dX11_toss_43 : decode cX11_toss 43 = .ok (.ireturn, 1) := by decide +kernel
theorem dX11_toss_44 : decode cX11_toss 44 = .ok (.astore 4, 2) := by decide +kernel
theorem dX11_toss_46 : decode cX11_toss 46 = .ok (.sipush 200, 3) := by decide +kernel
theorem dX11_toss_49 : decode cX11_toss 49 = .ok (.aload_n 3, 1) := by decide +kernel
theorem dX11_toss_50 : decode cX11_toss 50 = .ok (.invokevirtual 326, 3) := by decide +kernel
theorem dX11_toss_53 : decode cX11_toss 53 = .ok (.iadd, 1) := by decide +kernel
theorem dX11_toss_54 : decode cX11_toss 54 = .ok (.ireturn, 1) := by decide +kernel
theorem dX11_toss_55 : decode cX11_toss 55 = .ok (.bipush (-15), 2) := by decide +kernel
theorem dX11_toss_57 : decode cX11_toss 57 = .ok (.ireturn, 1) := by decide +kernel
theorem dX11_element_0 : decode cX11_element 0 = .ok (.iload_n 1, 1) := by decide +kernel
theorem dX11_element_1 : decode cX11_element 1 = .ok (.invokestatic 127, 3) := by decide +kernel
theorem dX11_element_4 : decode cX11_element 4 = .ok (.ifCond .eq 14, 3) := by decide +kernel
theorem dX11_element_7 : decode cX11_element 7 = .ok (.new 309, 3) := by decide +kernel
theorem dX11_element_10 : decode cX11_element 10 = .ok (.dup, 1) := by decide +kernel
theorem dX11_element_11 : decode cX11_element 11 = .ok (.ldc_w 311, 3) := by decide +kernel
theorem dX11_element_14 : decode cX11_element 14 = .ok (.invokespecial 313, 3) := by decide +kernel
theorem dX11_element_17 : decode cX11_element 17 = .ok (.athrow, 1) := by decide +kernel
theorem dX11_element_18 : decode cX11_element 18 = .ok (.aload_n 0, 1) := by decide +kernel
theorem dX11_element_19 : decode cX11_element 19 = .ok (.getfield 35, 3) := by decide +kernel
theorem dX11_element_22 : decode cX11_element 22 = .ok (.iload_n 1, 1) := by decide +kernel
theorem dX11_element_23 : decode cX11_element 23 = .ok (.iaload, 1) := by decide +kernel
theorem dX11_element_24 : decode cX11_element 24 = .ok (.iconst 2, 1) := by decide +kernel
theorem dX11_element_25 : decode cX11_element 25 = .ok (.if_icmp .eq 14, 3) := by decide +kernel
theorem dX11_element_28 : decode cX11_element 28 = .ok (.new 316, 3) := by decide +kernel
theorem dX11_element_31 : decode cX11_element 31 = .ok (.dup, 1) := by decide +kernel
theorem dX11_element_32 : decode cX11_element 32 = .ok (.ldc_w 318, 3) := by decide +kernel
theorem dX11_element_35 : decode cX11_element 35 = .ok (.invokespecial 320, 3) := by decide +kernel
theorem dX11_element_38 : decode cX11_element 38 = .ok (.athrow, 1) := by decide +kernel
theorem dX11_element_39 : decode cX11_element 39 = .ok (.aload_n 0, 1) := by decide +kernel
theorem dX11_element_40 : decode cX11_element 40 = .ok (.getfield 47, 3) := by decide +kernel
theorem dX11_element_43 : decode cX11_element 43 = .ok (.iload_n 1, 1) := by decide +kernel
theorem dX11_element_44 : decode cX11_element 44 = .ok (.aaload, 1) := by decide +kernel
theorem dX11_element_45 : decode cX11_element 45 = .ok (.iload_n 2, 1) := by decide +kernel
theorem dX11_element_46 : decode cX11_element 46 = .ok (.iconst 1, 1) := by decide +kernel
theorem dX11_element_47 : decode cX11_element 47 = .ok (.invokevirtual 302, 3) := by decide +kernel
theorem dX11_element_50 : decode cX11_element 50 = .ok (.ifCond .ne 14, 3) := by decide +kernel
theorem dX11_element_53 : decode cX11_element 53 = .ok (.new 316, 3) := by decide +kernel
theorem dX11_element_56 : decode cX11_element 56 = .ok (.dup, 1) := by decide +kernel
theorem dX11_element_57 : decode cX11_element 57 = .ok (.ldc_w 321, 3) := by decide +kernel
theorem dX11_element_60 : decode cX11_element 60 = .ok (.invokespecial 320, 3) := by decide +kernel
theorem dX11_element_63 : decode cX11_element 63 = .ok (.athrow, 1) := by decide +kernel
theorem dX11_element_64 : decode cX11_element 64 = .ok (.aload_n 0, 1) := by decide +kernel
theorem dX11_element_65 : decode cX11_element 65 = .ok (.getfield 47, 3) := by decide +kernel
theorem dX11_element_68 : decode cX11_element 68 = .ok (.iload_n 1, 1) := by decide +kernel
theorem dX11_element_69 : decode cX11_element 69 = .ok (.aaload, 1) := by decide +kernel
theorem dX11_element_70 : decode cX11_element 70 = .ok (.iload_n 2, 1) := by decide +kernel
theorem dX11_element_71 : decode cX11_element 71 = .ok (.invokevirtual 280, 3) := by decide +kernel
theorem dX11_element_74 : decode cX11_element 74 = .ok (.i2l, 1) := by decide +kernel
theorem dX11_element_75 : decode cX11_element 75 = .ok (.lreturn, 1) := by decide +kernel
theorem dL_element_0 : decode cL_element 0 = .ok (.aload_n 3, 1) := by decide +kernel
theorem dL_element_1 : decode cL_element 1 = .ok (.iconst 0, 1) := by decide +kernel
theorem dL_element_2 : decode cL_element 2 = .ok (.aload_n 0, 1) := by decide +kernel
theorem dL_element_3 : decode cL_element 3 = .ok (.iload_n 1, 1) := by decide +kernel
theorem dL_element_4 : decode cL_element 4 = .ok (.iload_n 2, 1) := by decide +kernel
theorem dL_element_5 : decode cL_element 5 = .ok (.invokevirtual 7, 3) := by decide +kernel
theorem dL_element_8 : decode cL_element 8 = .ok (.lastore, 1) := by decide +kernel
theorem dL_element_9 : decode cL_element 9 = .ok (.goto 11, 3) := by decide +kernel
theorem dL_element_12 : decode cL_element 12 = .ok (.astore 4, 2) := by decide +kernel
theorem dL_element_14 : decode cL_element 14 = .ok (.iconst 1, 1) := by decide +kernel
theorem dL_element_15 : decode cL_element 15 = .ok (.ireturn, 1) := by decide +kernel
theorem dL_element_16 : decode cL_element 16 = .ok (.astore 4, 2) := by decide +kernel
theorem dL_element_18 : decode cL_element 18 = .ok (.iconst 2, 1) := by decide +kernel
theorem dL_element_19 : decode cL_element 19 = .ok (.ireturn, 1) := by decide +kernel
theorem dL_element_20 : decode cL_element 20 = .ok (.iconst 0, 1) := by decide +kernel
theorem dL_element_21 : decode cL_element 21 = .ok (.ireturn, 1) := by decide +kernel
/-! toss; element; the law's own element. -/
def hhT : List (Nat × Nat × Nat × Nat) := [(20, 24, 27, 316), (20, 24, 34, 309), (20, 24, 44, 332)]
def hhE : List (Nat × Nat × Nat × Nat) := [(0, 9, 12, 13), (0, 9, 16, 15)]
theorem w_codeT : Cond.codeWith yX11_toss cX11_toss 5 (some .int) hhT ∈ tG := tG_s5 40 rfl rfl
theorem w_codeE : Cond.codeWith yL_element cL_element 5 (some .int) hhE ∈ tG := tG_s5 163 rfl rfl
def tossV (z : Nat × Int32) (q : Nat) (S : St) : Option Int32 := if z.2 = 0 then some (-15) else if z.1 = 2 ∨ z.1 = 3 then some (100 + z.2) else if z.1 = 5 then (L_v_costOf q S).bind fun c => some (200 + c) else if z.1 ≤ 5 then some z.2 else some (-15)
def L_X11_toss (a1 : Int32) (S : St) : Option Int32 := (L_X11_shelfRefusal a1 1 S).bind fun r => if r = 0 then gd (inb a1 8) ((gr S 67 a1.toNatClampNeg).bind fun q => (gq S q).bind fun z => gd (decide (z.1 < 8)) (tossV z q S)) else some r
def L_X11_element (a1 a2 : Int32) (S : St) : Option (String ⊕ Int64) := (L_X11_isNoShelf a1 S).bind fun r => if r = 0 then gd (inb a1 8) (if gi S 66 a1.toNatClampNeg = 2 then (L_X8_hasPlaces (70 + 2 * a1.toNatClampNeg) a2 1 S).bind fun h => if h = 0 then some (.inl "java/lang/IllegalStateException") else (L_X8_at (70 + 2 * a1.toNatClampNeg) a2 S).bind fun v => some (.inr v.toInt64) else some (.inl "java/lang/IllegalStateException")) else some (.inl "java/lang/IllegalArgumentException")
def elC (o : String ⊕ Int64) : Int32 := match o with
  | .inr _ => 0
  | .inl E => if E = "java/lang/IllegalArgumentException" then 1 else 2
def elS (o : String ⊕ Int64) (S : St) (u : Nat) : St := match o with
  | .inr v => stp (sl S 182 0 v) u
  | .inl _ => stp S u
section XTOSS
variable {p : Program} {l : Launch} {e : Env} {R : Room} {s : State} {m : MethodId} {args : Array Value} {below : List Frame} {meth : Method} {c : Code} {H : Heap} {locs : List Loc} {cells slots : Nat} {Q : State → Prop}
variable {cc : ByteArray} {pc nL : Nat} {ret : Option FieldType} {own : String} {ls : Array Slot} {rest : List Value} {D : va_G} {ct : Nat → ClassId} {B : Nat} {Hb : Heap} {S : St} {H0 : Heap} {sa : Nat → Nat}
abbrev qT (D : va_G) (ct : Nat → ClassId) (B : Nat) (Hb : Heap) (S : St) (V : Int32) : Array Value → State → Outcome → State → Prop := va_Qi (fun r (u : Nat) => r = V ∧ tp S ≤ u) (fun u t => MPK D ct B Hb (stp S u) t) (AB B)
abbrev qE (D : va_G) (ct : Nat → ClassId) (B : Nat) (Hb : Heap) (S : St) (o : String ⊕ Int64) : Array Value → State → Outcome → State → Prop := va_Qi (fun r (u : Nat) => r = elC o ∧ tp S ≤ u) (fun u t => MPK D ct B Hb (elS o S u) t) (AB B)
abbrev XN : String → State → State → Prop := vx_X (fun (_ : Unit) => False) (fun _ _ _ => False) (fun _ => False)
theorem mk_metH {E : State → Prop} {y : MethodName} {hh : List (Nat × Nat × Nat × Nat)} {rm : Room} {av : List Value} {Qc : Array Value → State → Outcome → State → Prop} {XCq : String → State → State → Prop} {mc ms : Nat} (hy : plainName y.cls = true) (hlen : (lg_sl av).length ≤ nL)
    (body : ∀ (p : Program) (e : Env) (s : State) (m : MethodId) (args : Array Value) (below : List Frame) (meth : Method) (c : Code) (ls : Array Slot), XC D ct p s m args meth c cc nL ret y.cls → c.exceptionTable.toList = tableOf hh → E s → MP D ct B Hb S s.heap → lv_has ls nL (lv_args 0 av) →
      W p l e rm s m args below meth c s.heap [] 0 0 (vx_MQ below Qc XCq args s mc ms (AB B)) (F0 m 0 ls [])) : vx_Met l y (Cond.codeWith y cc nL ret hh :: tG) rm (va_Pc av (fun U => MPK D ct B Hb S U ∧ E U)) Qc XCq mc ms (AB B) := by
  refine vx_ofWH (cc := cc) (maxL := nL) (ret := ret) (hh := hh) hy rfl ?_
  intro p e s m args below meth c s₁ Bo hml hv
  obtain ⟨rfl, ⟨hP, hK, hN⟩, hE⟩ := hv
  have hts := atoms_spec (ws := Cond.codeWith y cc nL ret hh :: tG) Bo.pre
  have hl := lv_entry av (n := nL) hlen
  rw [lg_entry_eq]
  exact body p e s m _ below meth c _ ⟨Bo.exec, Bo.bytes, Bo.returns, hml, findClass_of_methodNamed Bo.named, fun w hw => hts w (List.mem_cons_of_mem _ hw), hK, Bo.notSynchronized, hN⟩ (vx_table (x := y) Bo (hts _ List.mem_cons_self)) hE hP hl
theorem ret_T {V : Int32} {v : Int32} {u mc ms : Nat} (C0 : XC D ct p s m args meth c cc nL (some .int) own) (hP : MP D ct B Hb (stp S u) H) (hu : tp S ≤ u) (hS : va_S (AB B) s.heap H locs) (h : v = V) (hdg : decode cc pc = .ok (.ireturn, 1)) (hc : cells ≤ mc) (hs : slots ≤ ms) : W p l e R s m args below meth c H locs cells slots (vx_MQ below (qT D ct B Hb S V) XN args s mc ms (AB B)) (F0 m pc ls [.int v]) := by
  obtain ⟨hx, hb, hr, hml, hown, hts, hK, hlocks, hN⟩ := C0
  refine vx_ret ?_
  refine W.widen (k := mc) (n := ms) hc hs ?_
  exact W.iret hx hb hr (fun t ht hW => ⟨⟨v, u, rfl, ⟨h, hu⟩, by rw [ht]; exact hP, va_K.moved hW.alike hK, hN.warm hW⟩, hS.F ht⟩) hS.2.2 hdg hlocks
theorem ret_E {o : String ⊕ Int64} {v : Int32} {u mc ms : Nat} (C0 : XC D ct p s m args meth c cc nL (some .int) own) (hP : MP D ct B Hb (elS o S u) H) (hu : tp S ≤ u) (hS : va_S (AB B) s.heap H locs) (h : v = elC o) (hdg : decode cc pc = .ok (.ireturn, 1)) (hc : cells ≤ mc) (hs : slots ≤ ms) : W p l e R s m args below meth c H locs cells slots (vx_MQ below (qE D ct B Hb S o) XN args s mc ms (AB B)) (F0 m pc ls [.int v]) := by
  obtain ⟨hx, hb, hr, hml, hown, hts, hK, hlocks, hN⟩ := C0
  refine vx_ret ?_
  refine W.widen (k := mc) (n := ms) hc hs ?_
  exact W.iret hx hb hr (fun t ht hW => ⟨⟨v, u, rfl, ⟨h, hu⟩, by rw [ht]; exact hP, va_K.moved hW.alike hK, hN.warm hW⟩, hS.F ht⟩) hS.2.2 hdg hlocks
/-- a call of a method of the receiver's own class that may throw -/
theorem kXV (C0 : XC D ct p s m args meth c cc nL ret own) (hE : EK sa B s) (hS : va_S (AB B) s.heap H locs) {y : MethodName} {bytes : ByteArray} {maxL fr lo n index mc ms k ci : Nat} {rt : Option FieldType} {C : String} {As st : List Value} {Qc : Array Value → State → Outcome → State → Prop} {XCq : String → State → State → Prop}
    (hM : vx_Met l y (Cond.code y bytes maxL rt :: tG) { frames := fr, cells := mc, slots := ms, locals := lo } (va_Pc (.ref (B + k) :: As) (fun U => MPK D ct B Hb S U ∧ EK sa B U)) Qc XCq mc ms (AB B))
    (hw : Cond.code y bytes maxL rt ∈ tG ∧ Cond.methodLink own index y ∈ tG ∧ Cond.instanceMethod y ∈ tG ∧ Cond.selects C y y ∈ tG ∧ Cond.initialized C ∈ tG)
    (hd : y.cls = C ∧ y.cls ≠ "java/lang/invoke/MethodHandle" ∧ y.cls ≠ "java/lang/invoke/VarHandle" ∧ (parseMethodDescriptor y.desc).map (fun d => d.parameters.length) = some n) (hR : fr + 1 ≤ R.frames ∧ 8 + (maxL + 11) + lo ≤ R.locals)
    (hP : MP D ct B Hb S H) {fs : List Value} (he : lay B ct S k = some (.inr (ci, fs))) {T : u_T} {N : Nat} (hc : vwCl[ci]? = some (C, T, N)) (hn : As.length = n) (hsize : ls.size = nL) (hst : st = As.reverse ++ .ref (B + k) :: rest) (hcat : (rest.map fun v => v.category).sum ≤ 8) (hdg : decode cc pc = .ok (.invokevirtual index, 3)) (hf : cells + mc ≤ R.cells ∧ slots + ms ≤ R.slots) :
    vx_Run p l e R s m args below meth c H locs cells slots mc ms (F0 m pc ls st) rest (Qc (.ref (B + k) :: As).toArray) XCq (AB B) := by
  obtain ⟨hx, hb, hr, hml, hown, hts, hK, hlocks, hN⟩ := id C0
  obtain ⟨w1, w2, w3, w4, w5⟩ := hw
  refine vx_runV (As := As) (rest := rest) (Ts := tG) (own := own) ⟨hx, hb, hml, hown, hts⟩ hM (cwV n hts (tG_gi (fun w hw => ?_)) rfl rfl rfl hd hR) ⟨ek_blind, mpk_recv C0 hP he hc, ek_pre C0 hE hS hP⟩ rfl hn hsize hst (lv_room hcat) hdg hf
  rcases List.mem_append.mp hw with h | h
  · simp only [List.mem_cons, List.not_mem_nil, or_false] at h
    rcases h with rfl | rfl | rfl | rfl
    · exact w2
    · exact w3
    · exact w4
    · exact w5
  · rcases List.mem_cons.mp h with rfl | h
    · exact w1
    · exact h
set_option maxRecDepth 100000 in
set_option maxHeartbeats 4000000 in
theorem c_X11_toss (hlt : l.stackTraces = false) (a1 : Int32) {V : Int32} (h : L_X11_toss a1 S = some V) : vx_Met l yX11_toss (Cond.codeWith yX11_toss cX11_toss 5 (some .int) hhT :: tG) { frames := 7, cells := 1, slots := 6, locals := 120 } (va_Pc [.ref (B + 0), .int a1] (fun U => MPK D ct B Hb S U ∧ EK sa B U)) (qT D ct B Hb S V) XN 1 6 (AB B) := by
  refine mk_metH (by decide +kernel) (Nat.le_of_ble_eq_true rfl) (fun p e s m args below meth c ls C0 htab hE hP hl => ?_)
  have hS : va_S (AB B) s.heap s.heap [] := va_S.rf
  obtain ⟨hx, hb, hr, hml, hown, hts, hK, hlocks, hN⟩ := id C0
  have hl : lv_has ls 5 [(0, .ref (B + 0)), (1, .int a1)] := hl
  obtain ⟨r, r1, h⟩ := ob_e h
  refine lv_aload_n hx hb dX11_toss_0 rfl (lv_at hl 0 rfl) ?_
  refine lv_iload_n hx hb dX11_toss_1 rfl (lv_at hl 1 rfl) ?_
  refine lv_iconst (v := 1) hx hb dX11_toss_2 (by decide) ?_
  refine n_I (kV (As := [.int a1, .int 1]) C0 (c_X11_shelfRefusal l a1 1 r1) ⟨wd_260, wd_257, wd_259, wp_0, wd_1⟩ kd_X11_shelfRefusal ⟨Nat.le_of_ble_eq_true rfl, Nat.le_of_ble_eq_true rfl⟩ hP (lay_X11 B ct S) rfl rfl hl.1 rfl (Nat.le_of_ble_eq_true rfl) dX11_toss_3 ⟨Nat.le_of_ble_eq_true rfl, Nat.le_of_ble_eq_true rfl⟩) hS (fun H locs hP hS => ?_)
  refine lv_istore_n (lv' := [(2, .int r), (0, .ref (B + 0)), (1, .int a1)]) hx hb dX11_toss_6 rfl hl (by decide) rfl (fun ls hl => ?_)
  refine lv_iload_n hx hb dX11_toss_7 rfl (lv_at hl 0 rfl) ?_
  refine lv_if_eq (tgt := 13) hx hb dX11_toss_8 (by decide) (fun q => ?_) (fun q => ?_)
  · rw [if_pos q] at h
    obtain ⟨g, h⟩ := o_gd h
    obtain ⟨q1, eq1, h⟩ := ob_e h
    obtain ⟨z, hz, h⟩ := ob_e h
    obtain ⟨k8, h⟩ := o_gd h
    have k8 : z.1 < 8 := by simpa using k8
    refine lv_aload_n hx hb dX11_toss_13 rfl (lv_at hl 1 rfl) ?_
    refine x_get C0 hP (lay_X11 B ct S) rfl inG11 6 (by decide) wd_225 (fun _ h => h) rfl dX11_toss_14 ?_
    refine lv_iload_n hx hb dX11_toss_17 rfl (lv_at hl 2 rfl) ?_
    refine x_aald (v := .ref (B + q1)) C0 hP (lay_67 B ct S) rfl rfl g (by show va_rf ((gr S 67 a1.toNatClampNeg).map (B + ·)) = _; rw [eq1]; rfl) dX11_toss_18 ?_
    refine lv_astore_n (lv' := [(3, .ref (B + q1)), (2, .int r), (0, .ref (B + 0)), (1, .int a1)]) hx hb dX11_toss_19 rfl hl (by decide) rfl (fun ls hl => ?_)
    refine lv_aload_n hx hb dX11_toss_20 rfl (lv_at hl 0 rfl) ?_
    refine vx_callv (kv_fail hlt C0 hE hS wd_1004 hz k8 ⟨Nat.le_of_ble_eq_true rfl, Nat.le_of_ble_eq_true rfl⟩ hP hl.1 rfl (Nat.le_of_ble_eq_true rfl) dX11_toss_21 ⟨Nat.le_of_ble_eq_true rfl, Nat.le_of_ble_eq_true rfl⟩) hS (fun _ _ h => h) (fun _ h => h) (fun _ _ h => h) (fun E ce q9 u t H1 locs1 ht _ hu hB _ _ hS1 hce hcv hcl => ?_) (fun u t H1 locs1 ht _ hp hB _ _ hS1 => ?_)
    · obtain ⟨hE2, hM⟩ := hB
      rw [ht] at hM
      have hz2 : gq (stp S u) q1 = some z := hz
      have n0 : ¬ z.2 = 0 := fun w => by unfold fk at hE2; rw [if_pos w] at hE2; cases hE2
      have n5 : z.1 ≤ 5 := by
        unfold fk at hE2
        rw [if_neg n0] at hE2
        by_cases w : z.1 ≤ 5
        · exact w
        · rw [if_neg w] at hE2; cases hE2
      unfold fk at hE2
      rw [if_neg n0, if_pos n5] at hE2
      have eE := Option.some.inj hE2
      unfold tossV at h
      rw [if_neg n0] at h
      unfold fkE at eE
      by_cases k23 : z.1 = 2 ∨ z.1 = 3
      · rw [if_pos k23] at eE h
        subst eE
        refine vx_catch (E := "java/lang/IllegalArgumentException") (name := "java/lang/IllegalArgumentException") hown [⟨20, 24, 27, 316⟩] ⟨20, 24, 34, 309⟩ [⟨20, 24, 44, 332⟩] (by rw [htab]; rfl) (fun z hz => by
        simp only [List.mem_cons, List.not_mem_nil, or_false] at hz
        rcases hz with rfl
        · exact Or.inr ⟨by decide, "java/lang/IllegalStateException", hts _ wd_1001, hE.2.2.2.2 ("java/lang/IllegalArgumentException", "java/lang/IllegalStateException") (by decide +kernel)⟩) rfl (by decide) (hts _ wd_1002) (va_Nw.use rfl (hE.1 (.castable "java/lang/IllegalArgumentException" "java/lang/IllegalArgumentException") (by decide +kernel))) hce hcv hcl ?_
        refine lv_astore (lv' := [(4, .ref q9), (3, .ref (B + q1)), (2, .int r), (0, .ref (B + 0)), (1, .int a1)]) hx hb dX11_toss_34 hl (by decide) rfl (fun ls hl => ?_)
        refine lv_bipush (v := 100) hx hb dX11_toss_36 (by decide) ?_
        refine lv_aload_n hx hb dX11_toss_38 rfl (lv_at hl 1 rfl) ?_
        refine x_pl C0 hM hz2 1 (by decide) (Or.inr ⟨rfl, rfl⟩) wd_55 (fun _ h => h) rfl dX11_toss_39 ?_
        refine lv_iadd hx hb dX11_toss_42 ?_
        exact ret_T C0 hM hu hS1 (Option.some.inj h) dX11_toss_43 (Nat.le_of_ble_eq_true rfl) (Nat.le_of_ble_eq_true rfl)
      · rw [if_neg k23] at eE h
        by_cases k5 : z.1 = 5
        · rw [if_pos k5] at eE h
          subst eE
          obtain ⟨cv, hcv2, h⟩ := ob_e h
          refine vx_catch (E := "java/lang/UnsupportedOperationException") (name := "java/lang/UnsupportedOperationException") hown [⟨20, 24, 27, 316⟩, ⟨20, 24, 34, 309⟩] ⟨20, 24, 44, 332⟩ [] (by rw [htab]; rfl) (fun z hz => by
          simp only [List.mem_cons, List.not_mem_nil, or_false] at hz
          rcases hz with rfl | rfl
          · exact Or.inr ⟨by decide, "java/lang/IllegalStateException", hts _ wd_1001, hE.2.2.2.2 ("java/lang/UnsupportedOperationException", "java/lang/IllegalStateException") (by decide +kernel)⟩
          · exact Or.inr ⟨by decide, "java/lang/IllegalArgumentException", hts _ wd_1002, hE.2.2.2.2 ("java/lang/UnsupportedOperationException", "java/lang/IllegalArgumentException") (by decide +kernel)⟩) rfl (by decide) (hts _ wd_1003) (va_Nw.use rfl (hE.1 (.castable "java/lang/UnsupportedOperationException" "java/lang/UnsupportedOperationException") (by decide +kernel))) hce hcv hcl ?_
          refine lv_astore (lv' := [(4, .ref q9), (3, .ref (B + q1)), (2, .int r), (0, .ref (B + 0)), (1, .int a1)]) hx hb dX11_toss_44 hl (by decide) rfl (fun ls hl => ?_)
          refine lv_sipush (v := 200) hx hb dX11_toss_46 (by decide) ?_
          refine lv_aload_n hx hb dX11_toss_49 rfl (lv_at hl 1 rfl) ?_
          refine n_I (kv_costOf l C0 wd_964 q1 (S := stp S u) hcv2 ⟨Nat.le_of_ble_eq_true rfl, Nat.le_of_ble_eq_true rfl⟩ hM hl.1 rfl (Nat.le_of_ble_eq_true rfl) dX11_toss_50) hS1 (fun H locs hP hS => ?_)
          refine lv_iadd hx hb dX11_toss_53 ?_
          exact ret_T C0 hP hu hS (Option.some.inj h) dX11_toss_54 (Nat.le_of_ble_eq_true rfl) (Nat.le_of_ble_eq_true rfl)
        · rw [if_neg k5] at eE h
          rw [if_pos n5] at h
          subst eE
          refine vx_catch (E := "java/lang/IllegalStateException") (name := "java/lang/IllegalStateException") hown [] ⟨20, 24, 27, 316⟩ [⟨20, 24, 34, 309⟩, ⟨20, 24, 44, 332⟩] (by rw [htab]; rfl) (fun z hz => nomatch hz) rfl (by decide) (hts _ wd_1001) (va_Nw.use rfl (hE.1 (.castable "java/lang/IllegalStateException" "java/lang/IllegalStateException") (by decide +kernel))) hce hcv hcl ?_
          refine lv_astore (lv' := [(4, .ref q9), (3, .ref (B + q1)), (2, .int r), (0, .ref (B + 0)), (1, .int a1)]) hx hb dX11_toss_27 hl (by decide) rfl (fun ls hl => ?_)
          refine lv_aload_n hx hb dX11_toss_29 rfl (lv_at hl 1 rfl) ?_
          refine x_pl C0 hM hz2 1 (by decide) (Or.inr ⟨rfl, rfl⟩) wd_55 (fun _ h => h) rfl dX11_toss_30 ?_
          exact ret_T C0 hM hu hS1 (Option.some.inj h) dX11_toss_33 (Nat.le_of_ble_eq_true rfl) (Nat.le_of_ble_eq_true rfl)
    · have hM : MP D ct B Hb S H1 := ht ▸ hB.1
      have e15 : some (-15 : Int32) = some V := by
        rw [← h]
        unfold tossV
        by_cases n0 : z.2 = 0
        · rw [if_pos n0]
        · have n5 : ¬ z.1 ≤ 5 := fun w => by
            have hp : fk z = none := hp
            unfold fk at hp; rw [if_neg n0, if_pos w] at hp; cases hp
          rw [if_neg n0, if_neg (by omega), if_neg (by omega), if_neg n5]
      refine lv_goto (tgt := 55) hx hb dX11_toss_24 (by decide) ?_
      refine lv_bipush (v := (-15)) hx hb dX11_toss_55 (by decide) ?_
      exact ret_T (u := tp S) C0 hM (Nat.le_refl _) hS1 (Option.some.inj e15) dX11_toss_57 (Nat.le_of_ble_eq_true rfl) (Nat.le_of_ble_eq_true rfl)
  · rw [if_neg q] at h
    refine lv_iload_n hx hb dX11_toss_11 rfl (lv_at hl 0 rfl) ?_
    exact ret_T (u := tp S) C0 hP (Nat.le_refl _) hS (Option.some.inj h) dX11_toss_12 (Nat.le_of_ble_eq_true rfl) (Nat.le_of_ble_eq_true rfl)
set_option maxRecDepth 100000 in
set_option maxHeartbeats 4000000 in
theorem c_X11_element (hlt : l.stackTraces = false) (a1 a2 : Int32) {o : String ⊕ Int64} (h : L_X11_element a1 a2 S = some o) : vx_Met l yX11_element (Cond.code yX11_element cX11_element 3 (some .long) :: tG) { frames := 6, cells := 1, slots := 6, locals := 90 } (va_Pc [.ref (B + 0), .int a1, .int a2] (fun U => MPK D ct B Hb S U ∧ EK sa B U)) (va_Ql (fun r (_ : Unit) => o = .inr r) (fun _ t => MPK D ct B Hb S t) (AB B)) (XF D ct B Hb S (fun E => o = .inl E)) 1 6 (AB B) := by
  refine mk_metX (by decide +kernel) (Nat.le_of_ble_eq_true rfl) (fun p e s m args below meth c ls C0 htab hE hP hl => ?_)
  have hS : va_S (AB B) s.heap s.heap [] := va_S.rf
  obtain ⟨hx, hb, hr, hml, hown, hts, hK, hlocks, hN⟩ := id C0
  have hl : lv_has ls 3 [(0, .ref (B + 0)), (1, .int a1), (2, .int a2)] := hl
  obtain ⟨r, r1, h⟩ := ob_e h
  refine lv_iload_n hx hb dX11_element_0 rfl (lv_at hl 1 rfl) ?_
  refine n_I (kS (As := [.int a1]) C0 (c_X11_isNoShelf l a1 r1) ⟨wd_263, wd_261, wd_262, wd_1⟩ kd_X11_isNoShelf ⟨Nat.le_of_ble_eq_true rfl, Nat.le_of_ble_eq_true rfl⟩ hP rfl hl.1 rfl (Nat.le_of_ble_eq_true rfl) dX11_element_1 ⟨Nat.le_of_ble_eq_true rfl, Nat.le_of_ble_eq_true rfl⟩) hS (fun H locs hP hS => ?_)
  refine lv_if_eq (tgt := 18) hx hb dX11_element_4 (by decide) (fun q => ?_) (fun q => ?_)
  · rw [if_pos q] at h
    obtain ⟨g, h⟩ := o_gd h
    refine lv_aload_n hx hb dX11_element_18 rfl (lv_at hl 0 rfl) ?_
    refine x_get C0 hP (lay_X11 B ct S) rfl inG11 5 (by decide) wd_224 (fun _ h => h) rfl dX11_element_19 ?_
    refine lv_iload_n hx hb dX11_element_22 rfl (lv_at hl 1 rfl) ?_
    refine x_iald C0 hP (lay_66 B ct S) g dX11_element_23 ?_
    refine lv_iconst (v := 2) hx hb dX11_element_24 (by decide) ?_
    refine lv_icmp_eq (tgt := 39) hx hb dX11_element_25 (by decide) (fun q2 => ?_) (fun q2 => ?_)
    · have q2 : gi S 66 a1.toNatClampNeg = 2 := q2
      rw [if_pos q2] at h
      obtain ⟨hv, hv1, h⟩ := ob_e h
      have hu : isRow (70 + 2 * a1.toNatClampNeg) := ⟨_, inb_lt g, rfl⟩
      refine lv_aload_n hx hb dX11_element_39 rfl (lv_at hl 0 rfl) ?_
      refine x_get C0 hP (lay_X11 B ct S) rfl inG11 7 (by decide) wd_226 (fun _ h => h) rfl dX11_element_40 ?_
      refine lv_iload_n hx hb dX11_element_43 rfl (lv_at hl 1 rfl) ?_
      refine x_aald (v := .ref (B + (70 + 2 * a1.toNatClampNeg))) C0 hP (lay_68 B ct S) rfl rfl g rfl dX11_element_44 ?_
      refine lv_iload_n hx hb dX11_element_45 rfl (lv_at hl 2 rfl) ?_
      refine lv_iconst (v := 1) hx hb dX11_element_46 (by decide) ?_
      refine n_I (kV (As := [.int a2, .int 1]) C0 (c_X8_hasPlaces l _ hu a2 1 hv1) ⟨wd_285, wd_951, wd_283, wd_284, wd_5⟩ kd_X8_hasPlaces ⟨Nat.le_of_ble_eq_true rfl, Nat.le_of_ble_eq_true rfl⟩ hP (lay_X8 B ct S hu) rfl rfl hl.1 rfl (Nat.le_of_ble_eq_true rfl) dX11_element_47 ⟨Nat.le_of_ble_eq_true rfl, Nat.le_of_ble_eq_true rfl⟩) hS (fun H locs hP hS => ?_)
      refine lv_if_ne (tgt := 64) hx hb dX11_element_50 (by decide) (fun q3 => ?_) (fun q3 => ?_)
      · rw [if_neg q3] at h
        obtain ⟨v, v1, h⟩ := ob_e h
        refine lv_aload_n hx hb dX11_element_64 rfl (lv_at hl 0 rfl) ?_
        refine x_get C0 hP (lay_X11 B ct S) rfl inG11 7 (by decide) wd_226 (fun _ h => h) rfl dX11_element_65 ?_
        refine lv_iload_n hx hb dX11_element_68 rfl (lv_at hl 1 rfl) ?_
        refine x_aald (v := .ref (B + (70 + 2 * a1.toNatClampNeg))) C0 hP (lay_68 B ct S) rfl rfl g rfl dX11_element_69 ?_
        refine lv_iload_n hx hb dX11_element_70 rfl (lv_at hl 2 rfl) ?_
        refine n_I (kV (As := [.int a2]) C0 (c_X8_at l _ hu a2 v1) ⟨wd_281, wd_896, wd_279, wd_280, wd_5⟩ kd_X8_at ⟨Nat.le_of_ble_eq_true rfl, Nat.le_of_ble_eq_true rfl⟩ hP (lay_X8 B ct S hu) rfl rfl hl.1 rfl (Nat.le_of_ble_eq_true rfl) dX11_element_71 ⟨Nat.le_of_ble_eq_true rfl, Nat.le_of_ble_eq_true rfl⟩) hS (fun H locs hP hS => ?_)
        refine lv_i2l hx hb dX11_element_74 rfl ?_
        refine vx_ret ?_
        refine W.widen (k := 1) (n := 6) (by omega) (by omega) ?_
        exact W.lret hx hb hr (fun t ht hW => ⟨⟨v.toInt64, (), rfl, (Option.some.inj h).symm, by rw [ht]; exact hP, va_K.moved hW.alike hK, hN.warm hW⟩, hS.F ht⟩) hS.2.2 dX11_element_75 hlocks
      · have q3 : hv = 0 := q3
        rw [if_pos q3] at h
        exact x_throw (i := 5) C0 hlt hE hP hS (cls := "java/lang/IllegalStateException") ((Option.some.inj h).symm) (by decide +kernel) pg_X11_320 wd_1001 wd_25 (by decide) rfl rfl (by rw [hml]; exact hl.1) dX11_element_53 dX11_element_56 (Or.inr ⟨dX11_element_57, dX11_element_60, dX11_element_63⟩) htab (Nat.le_of_ble_eq_true rfl) (Nat.le_of_ble_eq_true rfl) (Nat.le_of_ble_eq_true rfl) (Nat.le_of_ble_eq_true rfl) (Nat.le_of_ble_eq_true rfl) (Nat.le_of_ble_eq_true rfl)
    · have q2 : ¬ gi S 66 a1.toNatClampNeg = 2 := q2
      rw [if_neg q2] at h
      exact x_throw (i := 4) C0 hlt hE hP hS (cls := "java/lang/IllegalStateException") ((Option.some.inj h).symm) (by decide +kernel) pg_X11_320 wd_1001 wd_25 (by decide) rfl rfl (by rw [hml]; exact hl.1) dX11_element_28 dX11_element_31 (Or.inr ⟨dX11_element_32, dX11_element_35, dX11_element_38⟩) htab (Nat.le_of_ble_eq_true rfl) (Nat.le_of_ble_eq_true rfl) (Nat.le_of_ble_eq_true rfl) (Nat.le_of_ble_eq_true rfl) (Nat.le_of_ble_eq_true rfl) (Nat.le_of_ble_eq_true rfl)
  · rw [if_neg q] at h
    exact x_throw (i := 3) C0 hlt hE hP hS (cls := "java/lang/IllegalArgumentException") ((Option.some.inj h).symm) (by decide +kernel) pg_X11_313 wd_1002 wd_24 (by decide) rfl rfl (by rw [hml]; exact hl.1) dX11_element_7 dX11_element_10 (Or.inr ⟨dX11_element_11, dX11_element_14, dX11_element_17⟩) htab (Nat.le_of_ble_eq_true rfl) (Nat.le_of_ble_eq_true rfl) (Nat.le_of_ble_eq_true rfl) (Nat.le_of_ble_eq_true rfl) (Nat.le_of_ble_eq_true rfl) (Nat.le_of_ble_eq_true rfl)
set_option maxRecDepth 100000 in
set_option maxHeartbeats 4000000 in
theorem c_L_element (hlt : l.stackTraces = false) (a1 a2 : Int32) {o : String ⊕ Int64} (h : L_X11_element a1 a2 S = some o) : vx_Met l yL_element (Cond.codeWith yL_element cL_element 5 (some .int) hhE :: tG) { frames := 7, cells := 1, slots := 6, locals := 120 } (va_Pc [.ref (B + 0), .int a1, .int a2, .ref (B + 182)] (fun U => MPK D ct B Hb S U ∧ EK sa B U)) (qE D ct B Hb S o) XN 1 6 (AB B) := by
  refine mk_metH (by decide +kernel) (Nat.le_of_ble_eq_true rfl) (fun p e s m args below meth c ls C0 htab hE hP hl => ?_)
  have hS : va_S (AB B) s.heap s.heap [] := va_S.rf
  obtain ⟨hx, hb, hr, hml, hown, hts, hK, hlocks, hN⟩ := id C0
  have hl : lv_has ls 5 [(0, .ref (B + 0)), (1, .int a1), (2, .int a2), (3, .ref (B + 182))] := hl
  refine lv_aload_n hx hb dL_element_0 rfl (lv_at hl 3 rfl) ?_
  refine lv_iconst (v := 0) hx hb dL_element_1 (by decide) ?_
  refine lv_aload_n hx hb dL_element_2 rfl (lv_at hl 0 rfl) ?_
  refine lv_iload_n hx hb dL_element_3 rfl (lv_at hl 1 rfl) ?_
  refine lv_iload_n hx hb dL_element_4 rfl (lv_at hl 2 rfl) ?_
  refine vx_calll (kXV C0 hE hS (As := [.int a1, .int a2]) (c_X11_element hlt a1 a2 h) ⟨wd_1129, wd_1126, wd_1127, wd_1128, wd_1⟩ kd_X11_element ⟨Nat.le_of_ble_eq_true rfl, Nat.le_of_ble_eq_true rfl⟩ hP (lay_X11 B ct S) rfl rfl hl.1 rfl (Nat.le_of_ble_eq_true rfl) dL_element_5 ⟨Nat.le_of_ble_eq_true rfl, Nat.le_of_ble_eq_true rfl⟩) hS (fun _ _ h => h) (fun _ h => h) (fun _ _ h => h) (fun E ce q9 u t H1 locs1 ht _ hu hB _ _ hS1 hce hcv hcl => ?_) (fun r u t H1 locs1 ht _ hp hB _ _ hS1 => ?_)
  · obtain ⟨hE2, hM⟩ := hB
    rw [ht] at hM
    have hE2 : o = .inl E := hE2
    have kind : E = "java/lang/IllegalArgumentException" ∨ E = "java/lang/IllegalStateException" := by
      unfold L_X11_element at h
      obtain ⟨r, -, h⟩ := ob_e h
      by_cases q : r = 0
      · rw [if_pos q] at h
        obtain ⟨-, h⟩ := o_gd h
        by_cases q2 : gi S 66 a1.toNatClampNeg = 2
        · rw [if_pos q2] at h
          obtain ⟨hv, -, h⟩ := ob_e h
          by_cases q3 : hv = 0
          · rw [if_pos q3] at h
            have := Option.some.inj h
            rw [hE2] at this
            exact Or.inr (Sum.inl.inj this).symm
          · rw [if_neg q3] at h
            obtain ⟨v, -, h⟩ := ob_e h
            have := Option.some.inj h
            rw [hE2] at this
            cases this
        · rw [if_neg q2] at h
          have := Option.some.inj h
          rw [hE2] at this
          exact Or.inr (Sum.inl.inj this).symm
      · rw [if_neg q] at h
        have := Option.some.inj h
        rw [hE2] at this
        exact Or.inl (Sum.inl.inj this).symm
    subst hE2
    rcases kind with rfl | rfl
    · refine vx_catch (E := "java/lang/IllegalArgumentException") (name := "java/lang/IllegalArgumentException") hown [] ⟨0, 9, 12, 13⟩ [⟨0, 9, 16, 15⟩] (by rw [htab]; rfl) (fun z hz => nomatch hz) rfl (by decide) (hts _ wd_1124) (va_Nw.use rfl (hE.1 (.castable "java/lang/IllegalArgumentException" "java/lang/IllegalArgumentException") (by decide +kernel))) hce hcv hcl ?_
      refine lv_astore (lv' := [(4, .ref q9), (0, .ref (B + 0)), (1, .int a1), (2, .int a2), (3, .ref (B + 182))]) hx hb dL_element_12 hl (by decide) rfl (fun ls hl => ?_)
      refine lv_iconst (v := 1) hx hb dL_element_14 (by decide) ?_
      exact ret_E (u := u) C0 hM hu hS1 rfl dL_element_15 (Nat.le_of_ble_eq_true rfl) (Nat.le_of_ble_eq_true rfl)
    · refine vx_catch (E := "java/lang/IllegalStateException") (name := "java/lang/IllegalStateException") hown [⟨0, 9, 12, 13⟩] ⟨0, 9, 16, 15⟩ [] (by rw [htab]; rfl) (fun z hz => by
        simp only [List.mem_cons, List.not_mem_nil, or_false] at hz
        rcases hz with rfl
        exact Or.inr ⟨by decide, "java/lang/IllegalArgumentException", hts _ wd_1124, hE.2.2.2.2 ("java/lang/IllegalStateException", "java/lang/IllegalArgumentException") (by decide +kernel)⟩) rfl (by decide) (hts _ wd_1125) (va_Nw.use rfl (hE.1 (.castable "java/lang/IllegalStateException" "java/lang/IllegalStateException") (by decide +kernel))) hce hcv hcl ?_
      refine lv_astore (lv' := [(4, .ref q9), (0, .ref (B + 0)), (1, .int a1), (2, .int a2), (3, .ref (B + 182))]) hx hb dL_element_16 hl (by decide) rfl (fun ls hl => ?_)
      refine lv_iconst (v := 2) hx hb dL_element_18 (by decide) ?_
      exact ret_E (u := u) C0 hM hu hS1 (by decide) dL_element_19 (Nat.le_of_ble_eq_true rfl) (Nat.le_of_ble_eq_true rfl)
  · have hM : MP D ct B Hb S H1 := ht ▸ hB.1
    have hp : o = .inr r := hp
    subst hp
    refine x_last C0 hM hS1 (fun S => lay_182 B ct S) (i := 0) rfl dL_element_8 (fun H locs hP hS => ?_)
    refine lv_goto (tgt := 20) hx hb dL_element_9 (by decide) ?_
    refine lv_iconst (v := 0) hx hb dL_element_20 (by decide) ?_
    exact ret_E (u := tp S) C0 hP (Nat.le_refl _) hS rfl dL_element_21 (Nat.le_of_ble_eq_true rfl) (Nat.le_of_ble_eq_true rfl)
end XTOSS
