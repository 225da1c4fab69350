/-! Math.abs of a double, over the two natives. -/
theorem dJ9_abs_294c1_0 : decode cJ9_abs_294c1 0 = .ok (.dload_n 0, 1) := by decide +kernel
theorem dJ9_abs_294c1_1 : decode cJ9_abs_294c1 1 = .ok (.invokestatic 79, 3) := by decide +kernel
theorem dJ9_abs_294c1_4 : decode cJ9_abs_294c1 4 = .ok (.ldc2_w 135, 3) := by decide +kernel
theorem dJ9_abs_294c1_7 : decode cJ9_abs_294c1 7 = .ok (.land, 1) := by decide +kernel
theorem dJ9_abs_294c1_8 : decode cJ9_abs_294c1 8 = .ok (.invokestatic 166, 3) := by decide +kernel
theorem dJ9_abs_294c1_11 : decode cJ9_abs_294c1 11 = .ok (.dreturn, 1) := by decide +kernel
def nmD2L : MethodName := ⟨"java/lang/Double", "doubleToRawLongBits", "(D)J"⟩
def nmL2D : MethodName := ⟨"java/lang/Double", "longBitsToDouble", "(J)D"⟩
theorem wab_ini : Cond.initialized "java/lang/Double" ∈ tG := tG_in (by decide +kernel) (by decide +kernel)
theorem wab_inm : Cond.initialized "java/lang/Math" ∈ tG := tG_in (by decide +kernel) (by decide +kernel)
theorem wab_lk : Cond.methodLink RL 232 yJ9_abs_294c1 ∈ tG := tG_in (by decide +kernel) (by decide +kernel)
theorem wab_st : Cond.static yJ9_abs_294c1 ∈ tG := tG_in (by decide +kernel) (by decide +kernel)
theorem wab_co : Cond.code yJ9_abs_294c1 cJ9_abs_294c1 2 (some .double) ∈ tG := tG_in (by decide +kernel) (by decide +kernel)
theorem wab_1 : Cond.methodLink RJ9 79 nmD2L ∈ tG := tG_in (by decide +kernel) (by decide +kernel)
theorem wab_2 : Cond.native nmD2L ∈ tG := tG_in (by decide +kernel) (by decide +kernel)
theorem wab_3 : Cond.static nmD2L ∈ tG := tG_in (by decide +kernel) (by decide +kernel)
theorem wab_4 : Cond.methodLink RJ9 166 nmL2D ∈ tG := tG_in (by decide +kernel) (by decide +kernel)
theorem wab_5 : Cond.native nmL2D ∈ tG := tG_in (by decide +kernel) (by decide +kernel)
theorem wab_6 : Cond.static nmL2D ∈ tG := tG_in (by decide +kernel) (by decide +kernel)
theorem wab_7 : Cond.constantLong RJ9 135 9223372036854775807 ∈ tG := tG_in (by decide +kernel) (by decide +kernel)
section XABS
variable {p : Program} {l : Launch} {e : Env} {R : Room} {s : State} {m : MethodId} {args : Array Value} {below : List Frame} {meth : Method} {c : Code} {H : Heap} {locs : List Loc} {cells slots : Nat} {Q : State → Prop}
variable {cc : ByteArray} {pc nL : Nat} {ret : Option FieldType} {own : String} {ls : Array Slot} {rest st0 : List Value} {D : va_G} {ct : Nat → ClassId} {P0 : Nat} {Hb : Heap} {S : St} {H0 : Heap} {xb xL : Nat} {xs : Nat → Int32} {adK adV : Nat → Nat} {a : Array Value} {mc ms : Nat}
theorem xn_d2l (C0 : XC D ct p s m args meth c cc nL ret own) (hsize : ls.size = nL) {index : Nat} (hw : Cond.methodLink own index nmD2L ∈ tG) {b : UInt64} (hframes : 1 ≤ R.frames) (hlocals : (rest.map fun v => v.category).sum + (nativeFrameWords "java/lang/Double" "doubleToRawLongBits" 2 + 11) ≤ R.locals) (hdg : decode cc pc = .ok (.invokestatic index, 3))
    (kk : W p l e R s m args below meth c H locs cells slots Q (F0 m (pc + 3) ls (.long b.toInt64 :: rest))) : W p l e R s m args below meth c H locs cells slots Q (F0 m pc ls (.double b :: rest)) := by
  obtain ⟨hx, hb, hr, hml, hown, hts, hK, hlocks, hN⟩ := C0
  intro T hT X
  obtain ⟨r0, kN, mN, g1, g2, g3, N⟩ := NativeOf.of_static (hts _ wab_2) (hts _ wab_3) (ps := [.double]) (ret := some .long) (by decide +kernel)
  have gi0 : kN.init = .initialized := Cond.initialized_spec (findClass_of_methodNamed g1) g3 (hts _ wab_ini)
  obtain ⟨vm1, X1, go⟩ := X.invokestatic hx hown (hts _ hw) g1 g2 N.static g3 gi0 (by decide) (g := F0 m pc ls (.double b :: rest)) rfl (argsL := [.double b]) (rest := rest) (by rw [N.sig]; rfl) rfl (by rw [hb]; exact hdg)
  obtain ⟨t, a1, b1⟩ := kk (T.setVm vm1) hT X1
  refine ⟨t, go t (fun acts => ?_), b1⟩
  obtain ⟨k1, N1⟩ := N.alike X1.warmed.alike
  exact Steps.doubleToRawLongBitsOf (g := F0 m pc ls rest) (ig := .invokestatic index) (len := 3) p X1.here acts N1 b (X1.notFull (g := F0 m pc ls rest) (by rw [hml]; exact hsize) (vars := nativeFrameWords "java/lang/Double" "doubleToRawLongBits" 2) hframes (by show 2 * 0 + _ + _ ≤ _; omega)) (by rw [hb]; exact hdg) a1
theorem xn_l2d (C0 : XC D ct p s m args meth c cc nL ret own) (hsize : ls.size = nL) {index : Nat} (hw : Cond.methodLink own index nmL2D ∈ tG) {b : Int64} (hv : (b.toUInt64 &&& 0x7fffffffffffffff > 0x7ff0000000000000 && b.toUInt64 &&& 0x0008000000000000 == 0) = false) (hframes : 1 ≤ R.frames) (hlocals : (rest.map fun v => v.category).sum + (nativeFrameWords "java/lang/Double" "longBitsToDouble" 2 + 11) ≤ R.locals) (hdg : decode cc pc = .ok (.invokestatic index, 3))
    (kk : W p l e R s m args below meth c H locs cells slots Q (F0 m (pc + 3) ls (.double b.toUInt64 :: rest))) : W p l e R s m args below meth c H locs cells slots Q (F0 m pc ls (.long b :: rest)) := by
  obtain ⟨hx, hb, hr, hml, hown, hts, hK, hlocks, hN⟩ := C0
  intro T hT X
  obtain ⟨r0, kN, mN, g1, g2, g3, N⟩ := NativeOf.of_static (hts _ wab_5) (hts _ wab_6) (ps := [.long]) (ret := some .double) (by decide +kernel)
  have gi0 : kN.init = .initialized := Cond.initialized_spec (findClass_of_methodNamed g1) g3 (hts _ wab_ini)
  obtain ⟨vm1, X1, go⟩ := X.invokestatic hx hown (hts _ hw) g1 g2 N.static g3 gi0 (by decide) (g := F0 m pc ls (.long b :: rest)) rfl (argsL := [.long b]) (rest := rest) (by rw [N.sig]; rfl) rfl (by rw [hb]; exact hdg)
  obtain ⟨t, a1, b1⟩ := kk (T.setVm vm1) hT X1
  refine ⟨t, go t (fun acts => ?_), b1⟩
  obtain ⟨k1, N1⟩ := N.alike X1.warmed.alike
  exact Steps.longBitsToDoubleOf (g := F0 m pc ls rest) (ig := .invokestatic index) (len := 3) p X1.here acts N1 b (X1.notFull (g := F0 m pc ls rest) (by rw [hml]; exact hsize) (vars := nativeFrameWords "java/lang/Double" "longBitsToDouble" 2) hframes (by show 2 * 0 + _ + _ ≤ _; omega)) hv (by rw [hb]; exact hdg) a1
abbrev qLD (D : va_G) (ct : Nat → ClassId) (P0 : Nat) (Hb : Heap) (S : St) (V : UInt64) : Array Value → State → Outcome → State → Prop := va_Qd (fun r (_ : Unit) => r = V) (fun _ t => MLP D ct P0 Hb S t) (AB P0)
theorem nw_room : nativeFrameWords "java/lang/Double" "doubleToRawLongBits" 2 + 11 ≤ 40 ∧ nativeFrameWords "java/lang/Double" "longBitsToDouble" 2 + 11 ≤ 40 := by decide
theorem nn_abs {x : UInt64} (h : vf_n64 x) : ((x.toInt64 &&& 9223372036854775807).toUInt64 &&& 0x7fffffffffffffff > 0x7ff0000000000000 && (x.toInt64 &&& 9223372036854775807).toUInt64 &&& 0x0008000000000000 == 0) = false := by
  have e : (x.toInt64 &&& 9223372036854775807).toUInt64 = x &&& 0x7fffffffffffffff := rfl
  rw [e, UInt64.and_assoc, UInt64.and_self]
  unfold vf_n64 at h
  rw [Bool.and_eq_false_iff]
  left
  exact decide_eq_false (UInt64.not_lt.mpr h)
set_option maxRecDepth 100000 in
set_option maxHeartbeats 4000000 in
theorem c_abs (l : Launch) (x : UInt64) (hn : vf_n64 x) : Met l yJ9_abs_294c1 (Cond.code yJ9_abs_294c1 cJ9_abs_294c1 2 (some .double) :: tG) { frames := 1, cells := 0, slots := 0, locals := 40 } (va_Pc [.double x] (MLK D ct P0 Hb xb xL xs adK adV S)) (qLD D ct P0 Hb S (dabs x)) 0 0 (AB P0) := by
  refine mk_metL (by decide +kernel) (Nat.le_of_ble_eq_true rfl) (fun p e s m args below meth c ls C0 hE hP hl _ => ?_)
  obtain ⟨hx, hb, hr, hml, hown, hts, hK, hlocks, hN⟩ := id C0
  have hS : va_S (AB P0) s.heap s.heap [] := va_S.rf
  have hl : lv_has ls 2 [(0, .double x)] := hl
  refine lv_dload_n hx hb dJ9_abs_294c1_0 rfl (lv_at hl 0 rfl) ?_
  refine xn_d2l C0 hl.1 wab_1 (Nat.le_of_ble_eq_true rfl) (Nat.le_trans (Nat.le_of_eq (Nat.zero_add _)) nw_room.1) dJ9_abs_294c1_1 ?_
  refine lv_ldc2 (v := 9223372036854775807) hx hb hown (hts _ wab_7) dJ9_abs_294c1_4 ?_
  refine lv_land hx hb dJ9_abs_294c1_7 ?_
  refine xn_l2d C0 hl.1 wab_4 (nn_abs hn) (Nat.le_of_ble_eq_true rfl) (Nat.le_trans (Nat.le_of_eq (Nat.zero_add _)) nw_room.2) dJ9_abs_294c1_8 ?_
  exact W.dret hx hb hr (fun t ht hW => ⟨⟨dabs x, (), rfl, rfl, by rw [ht]; exact hP, va_K.moved hW.alike hK, hN.warm hW⟩, hS.F ht⟩) hS.2.2 dJ9_abs_294c1_11 hlocks
theorem nL_D {V : UInt64} (hr : va_Run p l e R s m args below meth c H locs cells slots mc ms (F0 m pc ls st0) rest (qLD D ct P0 Hb S V a) (AB P0)) (hS : va_S (AB P0) H0 H locs) (kk : ∀ (H1 : Heap) (locs1 : List Loc), ML D ct P0 Hb S H1 → va_S (AB P0) H0 H1 locs1 → W p l e R s m args below meth c H1 locs1 (cells + mc) (slots + ms) Q (F0 m (pc + 3) ls (.double V :: rest))) : W p l e R s m args below meth c H locs cells slots Q (F0 m pc ls st0) :=
  va_calld hr hS (fun _ _ h => h) (fun _ h => h) (fun r u t H1 locs1 ht hvm hp hB hz hk hS1 => by subst hp; exact kk H1 locs1 (ht ▸ hB.1) hS1)
theorem xl_abs (l : Launch) (C0 : XC D ct p s m args meth c cc nL ret RL) (hE : XS xb xL xs adK adV P0 s) (hsize : ls.size = nL) (hP : ML D ct P0 Hb S H) (hS : va_S (AB P0) s.heap H locs) {x : UInt64} (hn : vf_n64 x) (hR : 1 + 1 ≤ R.frames ∧ 8 + (2 + 11) + 40 ≤ R.locals) (hcat : (rest.map fun v => v.category).sum ≤ 8) (hdg : decode cc pc = .ok (.invokestatic 232, 3)) (hf : cells + 0 ≤ R.cells ∧ slots + 0 ≤ R.slots)
    (kk : ∀ (H1 : Heap) (locs1 : List Loc), ML D ct P0 Hb S H1 → va_S (AB P0) s.heap H1 locs1 → W p l e R s m args below meth c H1 locs1 (cells + 0) (slots + 0) Q (F0 m (pc + 3) ls (.double (dabs x) :: rest))) : W p l e R s m args below meth c H locs cells slots Q (F0 m pc ls (.double x :: rest)) :=
  nL_D (kLS (As := [.double x]) C0 hE hS (c_abs l x hn) ⟨wab_co, wab_lk, wab_st, wab_inm⟩ ⟨by decide +kernel, by decide +kernel, by decide +kernel⟩ hR hP rfl hsize rfl hcat hdg hf) hS kk
end XABS
