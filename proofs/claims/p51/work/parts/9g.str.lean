/-! The JDK's String methods over the six texts of SHAPES. -/
def sLen : List Nat := [6, 10, 9, 3, 2, 0]
def sByt : List (List Int32) := [[48, 43, 48, 48, 48, 59], [48, 48, 48, 48, 48, 43, 48, 48, 48, 59], [48, 43, 48, 48, 48, 48, 48, 48, 59], [48, 48, 59], [48, 59], []]
def sIx (i : Nat) : Nat := [121, 123, 125, 127, 129, 131].getD i 0
def sTx (i : Nat) : String := ["0+000;", "00000+000;", "0+000000;", "00;", "0;", ""].getD i ""
theorem sh0 : ∀ i, i < 6 → Int32.ofNat (sLen.getD i 0) >>> ((0 : Int32) &&& 31) = Int32.ofNat (sLen.getD i 0) := by decide
theorem em_n : ∀ i, i < 6 → ¬ Int32.ofNat (sLen.getD i 0) = 0 → ¬ i = 5 := by decide
theorem em_y : ∀ i, i < 6 → Int32.ofNat (sLen.getD i 0) = 0 → i = 5 := by decide
theorem sl_lt : ∀ i, i < 6 → sLen.getD i 0 < 2 ^ 31 := by decide
theorem sj_lt (i : Nat) (hi : i < 6) {j : Nat} (hj : j < sLen.getD i 0) : j < 2 ^ 31 := Nat.lt_trans hj (sl_lt i hi)
theorem sb_c : ∀ i, i < 6 → ∀ j, j < sLen.getD i 0 → ((((sByt.getD i []).getD j 0) &&& 255).toUInt32 % 65536).toInt32 = (sByt.getD i []).getD j 0 := by decide
theorem sb_n : ∀ i, i < 6 → ∀ j, j < sLen.getD i 0 → narrow .char (.int ((sByt.getD i []).getD j 0)) = .int ((sByt.getD i []).getD j 0) := by decide
def SK (adK adV : Nat → Nat) (B : Nat) (U : State) : Prop := vk_S 6 sLen sByt adK adV (AB B) U U.heap ∧ va_Z "java/lang/String" "COMPACT_STRINGS" "Z" (.int 1) (AB B) U U.heap ∧ va_Zq "jdk/internal/util/Preconditions" "SIOOBE_FORMATTER" "Ljava/util/function/BiFunction;" (AB B) U U.heap ∧ ∀ i, i < 6 → vk_R "ThoughtBetterOf$Town" (sIx i) (sTx i) (adK i) U
theorem SK.at {adK adV : Nat → Nat} {B : Nat} {s U : State} {H : Heap} {locs : List Loc} (h : SK adK adV B s) (hS : va_S (AB B) s.heap H locs) (hU : U.heap = H) (hW : s.WarmedH U.vm) : SK adK adV B U := by
  subst hU
  exact ⟨(vk_S.moved hW.alike h.1).kept hS.2.1, (va_Z.moved hW.alike h.2.1).kept hS.2.1, (va_Zq.moved hW.alike h.2.2.1).kept hS.2.1, fun i hi => vk_R.warm hW (h.2.2.2 i hi)⟩
theorem SK.call {adK adV : Nat → Nat} {B : Nat} {U : State} (g : JFrame) (mk : MethodId) (a : Array Value) (h : SK adK adV B U) : SK adK adV B (U.calling g mk a) :=
  ⟨vk_S.moved (u := U) (U := U.calling g mk a) (Vm.Alike.refl U.vm) h.1, va_Z.moved (u := U) (U := U.calling g mk a) (Vm.Alike.refl U.vm) h.2.1, va_Zq.moved (u := U) (U := U.calling g mk a) (Vm.Alike.refl U.vm) h.2.2.1, fun i hi => vk_R.same (u := U) (U := U.calling g mk a) rfl (h.2.2.2 i hi)⟩
theorem mk_metE {l : Launch} {E : State → Prop} {D : va_G} {ct : Nat → ClassId} {B : Nat} {Hb : Heap} {S : St} {y : MethodName} {cc : ByteArray} {nL : Nat} {ret : Option FieldType} {rm : Room} {av : List Value} {Qc : Array Value → State → Outcome → State → Prop} {mc ms : Nat} (hy : plainName y.cls = true) (hlen : (lg_sl av).length ≤ nL)
    (body : ∀ (p : Program) (e : Env) (s : State) (m : MethodId) (args : Array Value) (below : List Frame) (meth : Method) (c : Code) (ls : Array Slot), XC D ct p s m args meth c cc nL ret y.cls → E s → MP D ct B Hb S s.heap → lv_has ls nL (lv_args 0 av) → meth.name = y.name →
      W p l e rm s m args below meth c s.heap [] 0 0 (MQ below Qc args s mc ms (AB B)) (F0 m 0 ls [])) : Met l y (Cond.code y cc nL ret :: tG) rm (va_Pc av (fun U => MPK D ct B Hb S U ∧ E U)) Qc mc ms (AB B) := by
  refine Met.ofW (cc := cc) (maxL := nL) (ret := ret) hy rfl ?_
  intro p e s m args below meth c s₁ Bo hml hv
  obtain ⟨rfl, ⟨hP, hK, hN⟩, hE⟩ := hv
  have hts := atoms_spec (ws := Cond.code y cc nL ret :: tG) Bo.pre
  have hl := lv_entry av (n := nL) hlen
  rw [lg_entry_eq]
  exact body p e s m _ below meth c _ ⟨Bo.exec, Bo.bytes, Bo.returns, hml, findClass_of_methodNamed Bo.named, fun w hw => hts w (List.mem_cons_of_mem _ hw), hK, Bo.notSynchronized, hN⟩ hE hP hl (name_of_methodNamed Bo.named Bo.method).1
section XSTR
variable {p : Program} {l : Launch} {e : Env} {R : Room} {s : State} {m : MethodId} {args : Array Value} {below : List Frame} {meth : Method} {c : Code} {H : Heap} {locs : List Loc} {cells slots : Nat} {Q : State → Prop}
variable {cc : ByteArray} {pc nL : Nat} {ret : Option FieldType} {own : String} {ls : Array Slot} {rest : List Value} {D : va_G} {ct : Nat → ClassId} {B : Nat} {Hb : Heap} {S : St} {H0 : Heap} {adK adV : Nat → Nat}
theorem sk_blind {av : List Value} : FrameBlind (va_Pc av (fun U => MPK D ct B Hb S U ∧ SK adK adV B U)) := fun a U g mk q => ⟨q.1, (mpk_blind a U g mk ⟨q.1, q.2.1⟩).2, q.2.2.call g mk a⟩
theorem sk_pre (C0 : XC D ct p s m args meth c cc nL ret own) (hE : SK adK adV B s) (hS : va_S (AB B) s.heap H locs) (hP : MP D ct B Hb S H) {av : List Value} (U : State) (hU : U.heap = H) (hW : s.WarmedH U.vm) : va_Pc av (fun U => MPK D ct B Hb S U ∧ SK adK adV B U) av.toArray U := ⟨rfl, (mpk_pre C0 hP (av := av) U hU hW).2, hE.at hS hU hW⟩
/-- a call of a String's method -/
theorem kVs (C0 : XC D ct p s m args meth c cc nL ret own) (hE : SK adK adV B s) (hS : va_S (AB B) s.heap H locs) {i : Nat} (hi : i < 6) {y : MethodName} {bytes : ByteArray} {maxL fr lo n index mc ms : Nat} {rt : Option FieldType} {As st : List Value} {Qc : Array Value → State → Outcome → State → Prop}
    (hM : Met l y (Cond.code y bytes maxL rt :: tG) { frames := fr, cells := mc, slots := ms, locals := lo } (va_Pc (.ref (adK i) :: As) (fun U => MPK D ct B Hb S U ∧ SK adK adV B U)) Qc mc ms (AB B))
    (hw : Cond.code y bytes maxL rt ∈ tG ∧ Cond.methodLink own index y ∈ tG ∧ Cond.instanceMethod y ∈ tG ∧ Cond.selects "java/lang/String" y y ∈ tG ∧ Cond.initialized "java/lang/String" ∈ tG)
    (hd : y.cls = "java/lang/String" ∧ y.cls ≠ "java/lang/invoke/MethodHandle" ∧ y.cls ≠ "java/lang/invoke/VarHandle" ∧ (parseMethodDescriptor y.desc).map (fun d => d.parameters.length) = some n) (hR : fr + 1 ≤ R.frames ∧ 8 + (maxL + 11) + lo ≤ R.locals)
    (hP : MP D ct B Hb S H) (hn : As.length = n) (hsize : ls.size = nL) (hst : st = As.reverse ++ .ref (adK i) :: rest) (hcat : (rest.map fun v => v.category).sum ≤ 8) (hdg : decode cc pc = .ok (.invokevirtual index, 3)) (hf : cells + mc ≤ R.cells ∧ slots + ms ≤ R.slots) :
    va_Run p l e R s m args below meth c H locs cells slots mc ms (F0 m pc ls st) rest (Qc (.ref (adK i) :: As).toArray) (AB B) := by
  obtain ⟨hx, hb, hr, hml, hown, hts, hK, hlocks, hN⟩ := id C0
  obtain ⟨w1, w2, w3, w4, w5⟩ := hw
  refine va_runV (As := As) (rest := rest) (Ts := tG) (own := own) ⟨hx, hb, hml, hown, hts⟩ hM (cwV n hts (tG_gi (fun w hw => ?_)) rfl rfl rfl hd hR) ⟨sk_blind, vk_recv hE.1 hi hS, sk_pre C0 hE hS hP⟩ rfl hn hsize hst (lv_room hcat) hdg hf
  rcases List.mem_append.mp hw with h | h
  · simp only [List.mem_cons, List.not_mem_nil, or_false] at h
    rcases h with rfl | rfl | rfl | rfl
    · exact w2
    · exact w3
    · exact w4
    · exact w5
  · rcases List.mem_cons.mp h with rfl | h
    · exact w1
    · exact h
theorem kSs (C0 : XC D ct p s m args meth c cc nL ret own) (hE : SK adK adV B s) (hS : va_S (AB B) s.heap H locs) {y : MethodName} {bytes : ByteArray} {maxL fr lo n index mc ms : Nat} {rt : Option FieldType} {As st : List Value} {Qc : Array Value → State → Outcome → State → Prop}
    (hM : Met l y (Cond.code y bytes maxL rt :: tG) { frames := fr, cells := mc, slots := ms, locals := lo } (va_Pc As (fun U => MPK D ct B Hb S U ∧ SK adK adV B U)) Qc mc ms (AB B))
    (hw : Cond.code y bytes maxL rt ∈ tG ∧ Cond.methodLink own index y ∈ tG ∧ Cond.static y ∈ tG ∧ Cond.initialized y.cls ∈ tG)
    (hd : y.cls ≠ "java/lang/invoke/MethodHandle" ∧ y.cls ≠ "java/lang/invoke/VarHandle" ∧ (parseMethodDescriptor y.desc).map (fun d => d.parameters.length) = some n) (hR : fr + 1 ≤ R.frames ∧ 8 + (maxL + 11) + lo ≤ R.locals)
    (hP : MP D ct B Hb S H) (hn : As.length = n) (hsize : ls.size = nL) (hst : st = As.reverse ++ rest) (hcat : (rest.map fun v => v.category).sum ≤ 8) (hdg : decode cc pc = .ok (.invokestatic index, 3)) (hf : cells + mc ≤ R.cells ∧ slots + ms ≤ R.slots) :
    va_Run p l e R s m args below meth c H locs cells slots mc ms (F0 m pc ls st) rest (Qc As.toArray) (AB B) := by
  obtain ⟨hx, hb, hr, hml, hown, hts, hK, hlocks, hN⟩ := id C0
  obtain ⟨w1, w2, w3, w4⟩ := hw
  refine va_runS (As := As) (rest := rest) (Ts := tG) (own := own) ⟨hx, hb, hml, hown, hts⟩ hM (va_cwS n hts (tG_gi (fun w hw => ?_)) rfl rfl rfl hd hR) ⟨sk_blind, sk_pre C0 hE hS hP⟩ rfl hn hsize hst (lv_room hcat) hdg hf
  rcases List.mem_append.mp hw with h | h
  · simp only [List.mem_cons, List.not_mem_nil, or_false] at h
    rcases h with rfl | rfl | rfl
    · exact w2
    · exact w3
    · exact w4
  · rcases List.mem_cons.mp h with rfl | h
    · exact w1
    · exact h
theorem r_T {ty : FieldType} (C0 : XC D ct p s m args meth c cc nL (some ty) own) (hP : MP D ct B Hb S H) (hS : va_S (AB B) s.heap H locs) {v V : Int32} (hn : narrow ty (.int v) = .int v) (h : some v = some V) (hdg : decode cc pc = .ok (.ireturn, 1)) : W p l e R s m args below meth c H locs cells slots (MQ below (qI D ct B Hb S V) args s cells slots (AB B)) (F0 m pc ls [.int v]) := by
  obtain ⟨hx, hb, hr, hml, hown, hts, hK, hlocks, hN⟩ := C0
  exact W.zret hx hb hr hn (fun t ht hW => ⟨⟨v, (), rfl, Option.some.inj h, by rw [ht]; exact hP, va_K.moved hW.alike hK, hN.warm hW⟩, hS.F ht⟩) hS.2.2 hdg hlocks
end XSTR
theorem wd_526 : Cond.fieldLink RJ0 38 "java/lang/String" "COMPACT_STRINGS" "Z" ∈ tG := tG_s3 46 rfl rfl
theorem wd_953 : Cond.fieldLink RJ0 15 "java/lang/String" "coder" "B" ∈ tG := tG_s4 233 rfl rfl
theorem wd_952 : Cond.fieldLink RJ0 9 "java/lang/String" "value" "[B" ∈ tG := tG_s4 232 rfl rfl
theorem wd_525 : Cond.code yJ0_coder_7d493 cJ0_coder_7d493 1 (some .byte) ∈ tG := tG_s3 45 rfl rfl
theorem wd_522 : Cond.methodLink RJ0 335 yJ0_coder_7d493 ∈ tG := tG_s3 42 rfl rfl
theorem wd_523 : Cond.instanceMethod yJ0_coder_7d493 ∈ tG := tG_s3 43 rfl rfl
theorem wd_524 : Cond.selects RJ0 yJ0_coder_7d493 yJ0_coder_7d493 ∈ tG := tG_s3 44 rfl rfl
theorem wd_542 : Cond.fieldLink RJ0 1053 "jdk/internal/util/Preconditions" "SIOOBE_FORMATTER" "Ljava/util/function/BiFunction;" ∈ tG := tG_s3 62 rfl rfl
theorem wd_546 : Cond.code yJ3_checkIndex_8e157 cJ3_checkIndex_8e157 3 (some .int) ∈ tG := tG_s3 66 rfl rfl
theorem wd_544 : Cond.methodLink RJ0 1059 yJ3_checkIndex_8e157 ∈ tG := tG_s3 64 rfl rfl
theorem wd_545 : Cond.static yJ3_checkIndex_8e157 ∈ tG := tG_s3 65 rfl rfl
theorem wd_541 : Cond.code yJ0_checkIndex_df160 cJ0_checkIndex_df160 2 none ∈ tG := tG_s3 61 rfl rfl
theorem wd_539 : Cond.methodLink RJ1 9 yJ0_checkIndex_df160 ∈ tG := tG_s3 59 rfl rfl
theorem wd_540 : Cond.static yJ0_checkIndex_df160 ∈ tG := tG_s3 60 rfl rfl
theorem wd_535 : Cond.code yJ0_isLatin1_aae02 cJ0_isLatin1_aae02 1 (some .boolean) ∈ tG := tG_s3 55 rfl rfl
theorem wd_532 : Cond.methodLink RJ0 492 yJ0_isLatin1_aae02 ∈ tG := tG_s3 52 rfl rfl
theorem wd_533 : Cond.instanceMethod yJ0_isLatin1_aae02 ∈ tG := tG_s3 53 rfl rfl
theorem wd_534 : Cond.selects RJ0 yJ0_isLatin1_aae02 yJ0_isLatin1_aae02 ∈ tG := tG_s3 54 rfl rfl
theorem wd_538 : Cond.code yJ1_charAt_3b067 cJ1_charAt_3b067 2 (some .char) ∈ tG := tG_s3 58 rfl rfl
theorem wd_536 : Cond.methodLink RJ0 495 yJ1_charAt_3b067 ∈ tG := tG_s3 56 rfl rfl
theorem wd_537 : Cond.static yJ1_charAt_3b067 ∈ tG := tG_s3 57 rfl rfl
theorem kd_J0_coder_7d493 : yJ0_coder_7d493.cls = RJ0 ∧ yJ0_coder_7d493.cls ≠ "java/lang/invoke/MethodHandle" ∧ yJ0_coder_7d493.cls ≠ "java/lang/invoke/VarHandle" ∧ (parseMethodDescriptor yJ0_coder_7d493.desc).map (fun d => d.parameters.length) = some 0 := by decide +kernel
theorem kd_J3_checkIndex_8e157 : yJ3_checkIndex_8e157.cls ≠ "java/lang/invoke/MethodHandle" ∧ yJ3_checkIndex_8e157.cls ≠ "java/lang/invoke/VarHandle" ∧ (parseMethodDescriptor yJ3_checkIndex_8e157.desc).map (fun d => d.parameters.length) = some 3 := by decide +kernel
theorem kd_J0_checkIndex_df160 : yJ0_checkIndex_df160.cls ≠ "java/lang/invoke/MethodHandle" ∧ yJ0_checkIndex_df160.cls ≠ "java/lang/invoke/VarHandle" ∧ (parseMethodDescriptor yJ0_checkIndex_df160.desc).map (fun d => d.parameters.length) = some 2 := by decide +kernel
theorem kd_J0_isLatin1_aae02 : yJ0_isLatin1_aae02.cls = RJ0 ∧ yJ0_isLatin1_aae02.cls ≠ "java/lang/invoke/MethodHandle" ∧ yJ0_isLatin1_aae02.cls ≠ "java/lang/invoke/VarHandle" ∧ (parseMethodDescriptor yJ0_isLatin1_aae02.desc).map (fun d => d.parameters.length) = some 0 := by decide +kernel
theorem kd_J1_charAt_3b067 : yJ1_charAt_3b067.cls ≠ "java/lang/invoke/MethodHandle" ∧ yJ1_charAt_3b067.cls ≠ "java/lang/invoke/VarHandle" ∧ (parseMethodDescriptor yJ1_charAt_3b067.desc).map (fun d => d.parameters.length) = some 2 := by decide +kernel
theorem dJ0_coder_7d493_0 : decode cJ0_coder_7d493 0 = .ok (.getstatic 38, 3) := by decide +kernel
theorem dJ0_coder_7d493_3 : decode cJ0_coder_7d493 3 = .ok (.ifCond .eq 10, 3) := by decide +kernel
theorem dJ0_coder_7d493_6 : decode cJ0_coder_7d493 6 = .ok (.aload_n 0, 1) := by decide +kernel
theorem dJ0_coder_7d493_7 : decode cJ0_coder_7d493 7 = .ok (.getfield 15, 3) := by decide +kernel
theorem dJ0_coder_7d493_10 : decode cJ0_coder_7d493 10 = .ok (.goto 4, 3) := by decide +kernel
theorem dJ0_coder_7d493_13 : decode cJ0_coder_7d493 13 = .ok (.iconst 1, 1) := by decide +kernel
theorem dJ0_coder_7d493_14 : decode cJ0_coder_7d493 14 = .ok (.ireturn, 1) := by decide +kernel
theorem dJ0_isLatin1_aae02_0 : decode cJ0_isLatin1_aae02 0 = .ok (.getstatic 38, 3) := by decide +kernel
theorem dJ0_isLatin1_aae02_3 : decode cJ0_isLatin1_aae02 3 = .ok (.ifCond .eq 14, 3) := by decide +kernel
theorem dJ0_isLatin1_aae02_6 : decode cJ0_isLatin1_aae02 6 = .ok (.aload_n 0, 1) := by decide +kernel
theorem dJ0_isLatin1_aae02_7 : decode cJ0_isLatin1_aae02 7 = .ok (.getfield 15, 3) := by decide +kernel
theorem dJ0_isLatin1_aae02_10 : decode cJ0_isLatin1_aae02 10 = .ok (.ifCond .ne 7, 3) := by decide +kernel
theorem dJ0_isLatin1_aae02_13 : decode cJ0_isLatin1_aae02 13 = .ok (.iconst 1, 1) := by decide +kernel
theorem dJ0_isLatin1_aae02_14 : decode cJ0_isLatin1_aae02 14 = .ok (.goto 4, 3) := by decide +kernel
theorem dJ0_isLatin1_aae02_17 : decode cJ0_isLatin1_aae02 17 = .ok (.iconst 0, 1) := by decide +kernel
theorem dJ0_isLatin1_aae02_18 : decode cJ0_isLatin1_aae02 18 = .ok (.ireturn, 1) := by decide +kernel
theorem dJ0_length_8abf5_0 : decode cJ0_length_8abf5 0 = .ok (.aload_n 0, 1) := by decide +kernel
theorem dJ0_length_8abf5_1 : decode cJ0_length_8abf5 1 = .ok (.getfield 9, 3) := by decide +kernel
theorem dJ0_length_8abf5_4 : decode cJ0_length_8abf5 4 = .ok (.arraylength, 1) := by decide +kernel
theorem dJ0_length_8abf5_5 : decode cJ0_length_8abf5 5 = .ok (.aload_n 0, 1) := by decide +kernel
theorem dJ0_length_8abf5_6 : decode cJ0_length_8abf5 6 = .ok (.invokevirtual 335, 3) := by decide +kernel
theorem dJ0_length_8abf5_9 : decode cJ0_length_8abf5 9 = .ok (.ishr, 1) := by decide +kernel
theorem dJ0_length_8abf5_10 : decode cJ0_length_8abf5 10 = .ok (.ireturn, 1) := by decide +kernel
theorem dJ0_isEmpty_aae02_0 : decode cJ0_isEmpty_aae02 0 = .ok (.aload_n 0, 1) := by decide +kernel
theorem dJ0_isEmpty_aae02_1 : decode cJ0_isEmpty_aae02 1 = .ok (.getfield 9, 3) := by decide +kernel
theorem dJ0_isEmpty_aae02_4 : decode cJ0_isEmpty_aae02 4 = .ok (.arraylength, 1) := by decide +kernel
theorem dJ0_isEmpty_aae02_5 : decode cJ0_isEmpty_aae02 5 = .ok (.ifCond .ne 7, 3) := by decide +kernel
theorem dJ0_isEmpty_aae02_8 : decode cJ0_isEmpty_aae02 8 = .ok (.iconst 1, 1) := by decide +kernel
theorem dJ0_isEmpty_aae02_9 : decode cJ0_isEmpty_aae02 9 = .ok (.goto 4, 3) := by decide +kernel
theorem dJ0_isEmpty_aae02_12 : decode cJ0_isEmpty_aae02 12 = .ok (.iconst 0, 1) := by decide +kernel
theorem dJ0_isEmpty_aae02_13 : decode cJ0_isEmpty_aae02 13 = .ok (.ireturn, 1) := by decide +kernel
theorem dJ3_checkIndex_8e157_0 : decode cJ3_checkIndex_8e157 0 = .ok (.iload_n 0, 1) := by decide +kernel
theorem dJ3_checkIndex_8e157_1 : decode cJ3_checkIndex_8e157 1 = .ok (.ifCond .lt 8, 3) := by decide +kernel
theorem dJ3_checkIndex_8e157_4 : decode cJ3_checkIndex_8e157 4 = .ok (.iload_n 0, 1) := by decide +kernel
theorem dJ3_checkIndex_8e157_5 : decode cJ3_checkIndex_8e157 5 = .ok (.iload_n 1, 1) := by decide +kernel
theorem dJ3_checkIndex_8e157_6 : decode cJ3_checkIndex_8e157 6 = .ok (.if_icmp .lt 10, 3) := by decide +kernel
theorem dJ3_checkIndex_8e157_9 : decode cJ3_checkIndex_8e157 9 = .ok (.aload_n 2, 1) := by decide +kernel
theorem dJ3_checkIndex_8e157_10 : decode cJ3_checkIndex_8e157 10 = .ok (.iload_n 0, 1) := by decide +kernel
theorem dJ3_checkIndex_8e157_11 : decode cJ3_checkIndex_8e157 11 = .ok (.iload_n 1, 1) := by decide +kernel
theorem dJ3_checkIndex_8e157_12 : decode cJ3_checkIndex_8e157 12 = .ok (.invokestatic 95, 3) := by decide +kernel
theorem dJ3_checkIndex_8e157_15 : decode cJ3_checkIndex_8e157 15 = .ok (.athrow, 1) := by decide +kernel
theorem dJ3_checkIndex_8e157_16 : decode cJ3_checkIndex_8e157 16 = .ok (.iload_n 0, 1) := by decide +kernel
theorem dJ3_checkIndex_8e157_17 : decode cJ3_checkIndex_8e157 17 = .ok (.ireturn, 1) := by decide +kernel
theorem dJ0_checkIndex_df160_0 : decode cJ0_checkIndex_df160 0 = .ok (.iload_n 0, 1) := by decide +kernel
theorem dJ0_checkIndex_df160_1 : decode cJ0_checkIndex_df160 1 = .ok (.iload_n 1, 1) := by decide +kernel
theorem dJ0_checkIndex_df160_2 : decode cJ0_checkIndex_df160 2 = .ok (.getstatic 1053, 3) := by decide +kernel
theorem dJ0_checkIndex_df160_5 : decode cJ0_checkIndex_df160 5 = .ok (.invokestatic 1059, 3) := by decide +kernel
theorem dJ0_checkIndex_df160_8 : decode cJ0_checkIndex_df160 8 = .ok (.pop, 1) := by decide +kernel
theorem dJ0_checkIndex_df160_9 : decode cJ0_checkIndex_df160 9 = .ok (.return_, 1) := by decide +kernel
theorem dJ1_charAt_3b067_0 : decode cJ1_charAt_3b067 0 = .ok (.iload_n 1, 1) := by decide +kernel
theorem dJ1_charAt_3b067_1 : decode cJ1_charAt_3b067 1 = .ok (.aload_n 0, 1) := by decide +kernel
theorem dJ1_charAt_3b067_2 : decode cJ1_charAt_3b067 2 = .ok (.arraylength, 1) := by decide +kernel
theorem dJ1_charAt_3b067_3 : decode cJ1_charAt_3b067 3 = .ok (.invokestatic 9, 3) := by decide +kernel
theorem dJ1_charAt_3b067_6 : decode cJ1_charAt_3b067 6 = .ok (.aload_n 0, 1) := by decide +kernel
theorem dJ1_charAt_3b067_7 : decode cJ1_charAt_3b067 7 = .ok (.iload_n 1, 1) := by decide +kernel
theorem dJ1_charAt_3b067_8 : decode cJ1_charAt_3b067 8 = .ok (.baload, 1) := by decide +kernel
theorem dJ1_charAt_3b067_9 : decode cJ1_charAt_3b067 9 = .ok (.sipush 255, 3) := by decide +kernel
theorem dJ1_charAt_3b067_12 : decode cJ1_charAt_3b067 12 = .ok (.iand, 1) := by decide +kernel
theorem dJ1_charAt_3b067_13 : decode cJ1_charAt_3b067 13 = .ok (.i2c, 1) := by decide +kernel
theorem dJ1_charAt_3b067_14 : decode cJ1_charAt_3b067 14 = .ok (.ireturn, 1) := by decide +kernel
theorem dJ0_charAt_5068e_0 : decode cJ0_charAt_5068e 0 = .ok (.aload_n 0, 1) := by decide +kernel
theorem dJ0_charAt_5068e_1 : decode cJ0_charAt_5068e 1 = .ok (.invokevirtual 492, 3) := by decide +kernel
theorem dJ0_charAt_5068e_4 : decode cJ0_charAt_5068e 4 = .ok (.ifCond .eq 12, 3) := by decide +kernel
theorem dJ0_charAt_5068e_7 : decode cJ0_charAt_5068e 7 = .ok (.aload_n 0, 1) := by decide +kernel
theorem dJ0_charAt_5068e_8 : decode cJ0_charAt_5068e 8 = .ok (.getfield 9, 3) := by decide +kernel
theorem dJ0_charAt_5068e_11 : decode cJ0_charAt_5068e 11 = .ok (.iload_n 1, 1) := by decide +kernel
theorem dJ0_charAt_5068e_12 : decode cJ0_charAt_5068e 12 = .ok (.invokestatic 495, 3) := by decide +kernel
theorem dJ0_charAt_5068e_15 : decode cJ0_charAt_5068e 15 = .ok (.ireturn, 1) := by decide +kernel
theorem dJ0_charAt_5068e_16 : decode cJ0_charAt_5068e 16 = .ok (.aload_n 0, 1) := by decide +kernel
theorem dJ0_charAt_5068e_17 : decode cJ0_charAt_5068e 17 = .ok (.getfield 9, 3) := by decide +kernel
theorem dJ0_charAt_5068e_20 : decode cJ0_charAt_5068e 20 = .ok (.iload_n 1, 1) := by decide +kernel
theorem dJ0_charAt_5068e_21 : decode cJ0_charAt_5068e 21 = .ok (.invokestatic 498, 3) := by decide +kernel
theorem dJ0_charAt_5068e_24 : decode cJ0_charAt_5068e 24 = .ok (.ireturn, 1) := by decide +kernel
set_option maxRecDepth 100000 in
theorem c_coder (l : Launch) {i : Nat} (hi : i < 6) {D : va_G} {ct : Nat → ClassId} {B : Nat} {Hb : Heap} {S : St} {adK adV : Nat → Nat} : Met l yJ0_coder_7d493 (Cond.code yJ0_coder_7d493 cJ0_coder_7d493 1 (some .byte) :: tG) { frames := 0, cells := 0, slots := 0, locals := 0 } (va_Pc [.ref (adK i)] (fun U => MPK D ct B Hb S U ∧ SK adK adV B U)) (qI D ct B Hb S 0) 0 0 (AB B) := by
  refine mk_metE (by decide +kernel) (Nat.le_of_ble_eq_true rfl) (fun p e s m args below meth c ls C0 hE hP hl _ => ?_)
  have hS : va_S (AB B) s.heap s.heap [] := va_S.rf
  obtain ⟨hx, hb, hr, hml, hown, hts, hK, hlocks, hN⟩ := id C0
  refine va_gets hx hb hE.2.1 hS hown (hts _ wd_526) (fun _ h => h) dJ0_coder_7d493_0 ?_
  refine lv_if_eq (tgt := 13) hx hb dJ0_coder_7d493_3 (by decide) (fun z => absurd z (by decide)) (fun _ => ?_)
  refine lv_aload_n hx hb dJ0_coder_7d493_6 rfl (lv_at hl 0 rfl) ?_
  refine vk_getf hx hb (hE.1.1 i hi).2.1 hS hown (hts _ wd_953) (fun _ h => h) dJ0_coder_7d493_7 ?_
  refine lv_goto (tgt := 14) hx hb dJ0_coder_7d493_10 (by decide) ?_
  exact r_T C0 hP hS rfl rfl dJ0_coder_7d493_14
set_option maxRecDepth 100000 in
theorem c_isLatin1 (l : Launch) {i : Nat} (hi : i < 6) {D : va_G} {ct : Nat → ClassId} {B : Nat} {Hb : Heap} {S : St} {adK adV : Nat → Nat} : Met l yJ0_isLatin1_aae02 (Cond.code yJ0_isLatin1_aae02 cJ0_isLatin1_aae02 1 (some .boolean) :: tG) { frames := 0, cells := 0, slots := 0, locals := 0 } (va_Pc [.ref (adK i)] (fun U => MPK D ct B Hb S U ∧ SK adK adV B U)) (qI D ct B Hb S 1) 0 0 (AB B) := by
  refine mk_metE (by decide +kernel) (Nat.le_of_ble_eq_true rfl) (fun p e s m args below meth c ls C0 hE hP hl _ => ?_)
  have hS : va_S (AB B) s.heap s.heap [] := va_S.rf
  obtain ⟨hx, hb, hr, hml, hown, hts, hK, hlocks, hN⟩ := id C0
  refine va_gets hx hb hE.2.1 hS hown (hts _ wd_526) (fun _ h => h) dJ0_isLatin1_aae02_0 ?_
  refine lv_if_eq (tgt := 17) hx hb dJ0_isLatin1_aae02_3 (by decide) (fun z => absurd z (by decide)) (fun _ => ?_)
  refine lv_aload_n hx hb dJ0_isLatin1_aae02_6 rfl (lv_at hl 0 rfl) ?_
  refine vk_getf hx hb (hE.1.1 i hi).2.1 hS hown (hts _ wd_953) (fun _ h => h) dJ0_isLatin1_aae02_7 ?_
  refine lv_if_ne (tgt := 17) hx hb dJ0_isLatin1_aae02_10 (by decide) (fun z => absurd rfl z) (fun _ => ?_)
  refine lv_iconst (v := 1) hx hb dJ0_isLatin1_aae02_13 (by decide) ?_
  refine lv_goto (tgt := 18) hx hb dJ0_isLatin1_aae02_14 (by decide) ?_
  exact r_T C0 hP hS rfl rfl dJ0_isLatin1_aae02_18
set_option maxRecDepth 100000 in
theorem c_length (l : Launch) {i : Nat} (hi : i < 6) {D : va_G} {ct : Nat → ClassId} {B : Nat} {Hb : Heap} {S : St} {adK adV : Nat → Nat} : Met l yJ0_length_8abf5 (Cond.code yJ0_length_8abf5 cJ0_length_8abf5 1 (some .int) :: tG) { frames := 1, cells := 0, slots := 0, locals := 20 } (va_Pc [.ref (adK i)] (fun U => MPK D ct B Hb S U ∧ SK adK adV B U)) (qI D ct B Hb S (Int32.ofNat (sLen.getD i 0))) 0 0 (AB B) := by
  refine mk_metE (by decide +kernel) (Nat.le_of_ble_eq_true rfl) (fun p e s m args below meth c ls C0 hE hP hl _ => ?_)
  have hS : va_S (AB B) s.heap s.heap [] := va_S.rf
  obtain ⟨hx, hb, hr, hml, hown, hts, hK, hlocks, hN⟩ := id C0
  refine lv_aload_n hx hb dJ0_length_8abf5_0 rfl (lv_at hl 0 rfl) ?_
  refine vk_getf hx hb (hE.1.1 i hi).2.2.1 hS hown (hts _ wd_952) (fun _ h => h) dJ0_length_8abf5_1 ?_
  refine va_tlen hx hb (hE.1.1 i hi).2.2.2 hS rfl dJ0_length_8abf5_4 ?_
  refine lv_aload_n hx hb dJ0_length_8abf5_5 rfl (lv_at hl 0 rfl) ?_
  refine n_I (kVs C0 hE hS hi (As := []) (c_coder l hi) ⟨wd_525, wd_522, wd_523, wd_524, wd_14⟩ kd_J0_coder_7d493 ⟨Nat.le_of_ble_eq_true rfl, Nat.le_of_ble_eq_true rfl⟩ hP rfl hl.1 rfl (Nat.le_of_ble_eq_true rfl) dJ0_length_8abf5_6 ⟨Nat.le_of_ble_eq_true rfl, Nat.le_of_ble_eq_true rfl⟩) hS (fun H locs hP hS => ?_)
  refine lv_ishr hx hb dJ0_length_8abf5_9 ?_
  have e : Int32.ofNat (sLen.getD i 0) >>> ((0 : Int32) &&& 31) = Int32.ofNat (sLen.getD i 0) := sh0 i hi
  rw [e]
  exact r_I C0 hP hS rfl dJ0_length_8abf5_10
set_option maxRecDepth 100000 in
theorem c_isEmpty (l : Launch) {i : Nat} (hi : i < 6) {D : va_G} {ct : Nat → ClassId} {B : Nat} {Hb : Heap} {S : St} {adK adV : Nat → Nat} : Met l yJ0_isEmpty_aae02 (Cond.code yJ0_isEmpty_aae02 cJ0_isEmpty_aae02 1 (some .boolean) :: tG) { frames := 0, cells := 0, slots := 0, locals := 0 } (va_Pc [.ref (adK i)] (fun U => MPK D ct B Hb S U ∧ SK adK adV B U)) (qI D ct B Hb S (if i = 5 then 1 else 0)) 0 0 (AB B) := by
  refine mk_metE (by decide +kernel) (Nat.le_of_ble_eq_true rfl) (fun p e s m args below meth c ls C0 hE hP hl _ => ?_)
  have hS : va_S (AB B) s.heap s.heap [] := va_S.rf
  obtain ⟨hx, hb, hr, hml, hown, hts, hK, hlocks, hN⟩ := id C0
  refine lv_aload_n hx hb dJ0_isEmpty_aae02_0 rfl (lv_at hl 0 rfl) ?_
  refine vk_getf hx hb (hE.1.1 i hi).2.2.1 hS hown (hts _ wd_952) (fun _ h => h) dJ0_isEmpty_aae02_1 ?_
  refine va_tlen hx hb (hE.1.1 i hi).2.2.2 hS rfl dJ0_isEmpty_aae02_4 ?_
  refine lv_if_ne (tgt := 12) hx hb dJ0_isEmpty_aae02_5 (by decide) (fun z => ?_) (fun z => ?_)
  · rw [if_neg (em_n i hi z)]
    refine lv_iconst (v := 0) hx hb dJ0_isEmpty_aae02_12 (by decide) ?_
    exact r_T C0 hP hS rfl rfl dJ0_isEmpty_aae02_13
  · rw [if_pos (em_y i hi z)]
    refine lv_iconst (v := 1) hx hb dJ0_isEmpty_aae02_8 (by decide) ?_
    refine lv_goto (tgt := 13) hx hb dJ0_isEmpty_aae02_9 (by decide) ?_
    exact r_T C0 hP hS rfl rfl dJ0_isEmpty_aae02_13
set_option maxRecDepth 100000 in
theorem c_pci (l : Launch) {x n : Int32} {v : Value} (hv : v.category = 1) (h0 : ¬ x < 0) (h1 : x < n) {D : va_G} {ct : Nat → ClassId} {B : Nat} {Hb : Heap} {S : St} {adK adV : Nat → Nat} : Met l yJ3_checkIndex_8e157 (Cond.code yJ3_checkIndex_8e157 cJ3_checkIndex_8e157 3 (some .int) :: tG) { frames := 0, cells := 0, slots := 0, locals := 0 } (va_Pc [.int x, .int n, v] (fun U => MPK D ct B Hb S U ∧ SK adK adV B U)) (qI D ct B Hb S x) 0 0 (AB B) := by
  refine mk_metE (by decide +kernel) (by simp [lg_sl, hv, show ∀ z, (Value.int z).category = 1 from fun _ => rfl]) (fun p e s m args below meth c ls C0 hE hP hl _ => ?_)
  have hS : va_S (AB B) s.heap s.heap [] := va_S.rf
  obtain ⟨hx, hb, hr, hml, hown, hts, hK, hlocks, hN⟩ := id C0
  have hl : lv_has ls 3 [(0, .int x), (1, .int n)] := lv_sub hl [0, 1] rfl
  refine lv_iload_n hx hb dJ3_checkIndex_8e157_0 rfl (lv_at hl 0 rfl) ?_
  refine lv_if_lt (tgt := 9) hx hb dJ3_checkIndex_8e157_1 (by decide) (fun z => absurd z h0) (fun _ => ?_)
  refine lv_iload_n hx hb dJ3_checkIndex_8e157_4 rfl (lv_at hl 0 rfl) ?_
  refine lv_iload_n hx hb dJ3_checkIndex_8e157_5 rfl (lv_at hl 1 rfl) ?_
  refine lv_icmp_lt (tgt := 16) hx hb dJ3_checkIndex_8e157_6 (by decide) (fun _ => ?_) (fun z => absurd h1 z)
  refine lv_iload_n hx hb dJ3_checkIndex_8e157_16 rfl (lv_at hl 0 rfl) ?_
  exact r_I C0 hP hS rfl dJ3_checkIndex_8e157_17
set_option maxRecDepth 100000 in
theorem c_sci (l : Launch) {x n : Int32} (h0 : ¬ x < 0) (h1 : x < n) {D : va_G} {ct : Nat → ClassId} {B : Nat} {Hb : Heap} {S : St} {adK adV : Nat → Nat} : Met l yJ0_checkIndex_df160 (Cond.code yJ0_checkIndex_df160 cJ0_checkIndex_df160 2 none :: tG) { frames := 1, cells := 0, slots := 0, locals := 22 } (va_Pc [.int x, .int n] (fun U => MPK D ct B Hb S U ∧ SK adK adV B U)) (qV D ct B Hb S ()) 0 0 (AB B) := by
  refine mk_metE (by decide +kernel) (Nat.le_of_ble_eq_true rfl) (fun p e s m args below meth c ls C0 hE hP hl _ => ?_)
  have hS : va_S (AB B) s.heap s.heap [] := va_S.rf
  obtain ⟨hx, hb, hr, hml, hown, hts, hK, hlocks, hN⟩ := id C0
  refine lv_iload_n hx hb dJ0_checkIndex_df160_0 rfl (lv_at hl 0 rfl) ?_
  refine lv_iload_n hx hb dJ0_checkIndex_df160_1 rfl (lv_at hl 1 rfl) ?_
  rcases hE.2.2.1 with z | ⟨q, z⟩
  · refine va_gets hx hb z hS hown (hts _ wd_542) (fun _ h => h) dJ0_checkIndex_df160_2 ?_
    refine n_I (kSs C0 hE hS (As := [.int x, .int n, .null]) (c_pci l rfl h0 h1) ⟨wd_546, wd_544, wd_545, wd_16⟩ kd_J3_checkIndex_8e157 ⟨Nat.le_of_ble_eq_true rfl, Nat.le_of_ble_eq_true rfl⟩ hP rfl hl.1 rfl (Nat.le_of_ble_eq_true rfl) dJ0_checkIndex_df160_5 ⟨Nat.le_of_ble_eq_true rfl, Nat.le_of_ble_eq_true rfl⟩) hS (fun H locs hP hS => ?_)
    refine lv_pop hx hb dJ0_checkIndex_df160_8 rfl ?_
    exact r_V C0 hP hS dJ0_checkIndex_df160_9
  · refine va_gets hx hb z hS hown (hts _ wd_542) (fun _ h => h) dJ0_checkIndex_df160_2 ?_
    refine n_I (kSs C0 hE hS (As := [.int x, .int n, .ref q]) (c_pci l rfl h0 h1) ⟨wd_546, wd_544, wd_545, wd_16⟩ kd_J3_checkIndex_8e157 ⟨Nat.le_of_ble_eq_true rfl, Nat.le_of_ble_eq_true rfl⟩ hP rfl hl.1 rfl (Nat.le_of_ble_eq_true rfl) dJ0_checkIndex_df160_5 ⟨Nat.le_of_ble_eq_true rfl, Nat.le_of_ble_eq_true rfl⟩) hS (fun H locs hP hS => ?_)
    refine lv_pop hx hb dJ0_checkIndex_df160_8 rfl ?_
    exact r_V C0 hP hS dJ0_checkIndex_df160_9
set_option maxRecDepth 100000 in
theorem c_lca (l : Launch) {i j : Nat} (hi : i < 6) (hj : j < sLen.getD i 0) {D : va_G} {ct : Nat → ClassId} {B : Nat} {Hb : Heap} {S : St} {adK adV : Nat → Nat} : Met l yJ1_charAt_3b067 (Cond.code yJ1_charAt_3b067 cJ1_charAt_3b067 2 (some .char) :: tG) { frames := 2, cells := 0, slots := 0, locals := 43 } (va_Pc [.ref (adV i), .int (nI j)] (fun U => MPK D ct B Hb S U ∧ SK adK adV B U)) (qI D ct B Hb S ((sByt.getD i []).getD j 0)) 0 0 (AB B) := by
  refine mk_metE (by decide +kernel) (Nat.le_of_ble_eq_true rfl) (fun p e s m args below meth c ls C0 hE hP hl _ => ?_)
  have hS : va_S (AB B) s.heap s.heap [] := va_S.rf
  obtain ⟨hx, hb, hr, hml, hown, hts, hK, hlocks, hN⟩ := id C0
  have jb : j < 2 ^ 31 := sj_lt i hi hj
  refine lv_iload_n hx hb dJ1_charAt_3b067_0 rfl (lv_at hl 1 rfl) ?_
  refine lv_aload_n hx hb dJ1_charAt_3b067_1 rfl (lv_at hl 0 rfl) ?_
  refine va_tlen hx hb (hE.1.1 i hi).2.2.2 hS rfl dJ1_charAt_3b067_2 ?_
  refine n_V (kSs C0 hE hS (As := [.int (nI j), .int (Int32.ofNat (sLen.getD i 0))]) (c_sci l (nI_pos jb) (nI_lt hj (sl_lt i hi))) ⟨wd_541, wd_539, wd_540, wd_14⟩ kd_J0_checkIndex_df160 ⟨Nat.le_of_ble_eq_true rfl, Nat.le_of_ble_eq_true rfl⟩ hP rfl hl.1 rfl (Nat.le_of_ble_eq_true rfl) dJ1_charAt_3b067_3 ⟨Nat.le_of_ble_eq_true rfl, Nat.le_of_ble_eq_true rfl⟩) hS (fun H locs hP hS => ?_)
  refine lv_aload_n hx hb dJ1_charAt_3b067_6 rfl (lv_at hl 0 rfl) ?_
  refine lv_iload_n hx hb dJ1_charAt_3b067_7 rfl (lv_at hl 1 rfl) ?_
  refine va_tb hx hb (hE.1.1 i hi).2.2.2 hS (vp_in_nI hj (sl_lt i hi)) (v := .int ((sByt.getD i []).getD j 0)) (by rw [nI_clamp jb]) dJ1_charAt_3b067_8 ?_
  refine lv_sipush (v := 255) hx hb dJ1_charAt_3b067_9 (by decide) ?_
  refine lv_iand hx hb dJ1_charAt_3b067_12 ?_
  refine lv_i2c (v := (sByt.getD i []).getD j 0) hx hb dJ1_charAt_3b067_13 (sb_c i hi j hj) ?_
  exact r_T C0 hP hS (sb_n i hi j hj) rfl dJ1_charAt_3b067_14
set_option maxRecDepth 100000 in
theorem c_charAt (l : Launch) {i j : Nat} (hi : i < 6) (hj : j < sLen.getD i 0) {D : va_G} {ct : Nat → ClassId} {B : Nat} {Hb : Heap} {S : St} {adK adV : Nat → Nat} : Met l yJ0_charAt_5068e (Cond.code yJ0_charAt_5068e cJ0_charAt_5068e 2 (some .char) :: tG) { frames := 3, cells := 0, slots := 0, locals := 64 } (va_Pc [.ref (adK i), .int (nI j)] (fun U => MPK D ct B Hb S U ∧ SK adK adV B U)) (qI D ct B Hb S ((sByt.getD i []).getD j 0)) 0 0 (AB B) := by
  refine mk_metE (by decide +kernel) (Nat.le_of_ble_eq_true rfl) (fun p e s m args below meth c ls C0 hE hP hl _ => ?_)
  have hS : va_S (AB B) s.heap s.heap [] := va_S.rf
  obtain ⟨hx, hb, hr, hml, hown, hts, hK, hlocks, hN⟩ := id C0
  refine lv_aload_n hx hb dJ0_charAt_5068e_0 rfl (lv_at hl 0 rfl) ?_
  refine n_I (kVs C0 hE hS hi (As := []) (c_isLatin1 l hi) ⟨wd_535, wd_532, wd_533, wd_534, wd_14⟩ kd_J0_isLatin1_aae02 ⟨Nat.le_of_ble_eq_true rfl, Nat.le_of_ble_eq_true rfl⟩ hP rfl hl.1 rfl (Nat.le_of_ble_eq_true rfl) dJ0_charAt_5068e_1 ⟨Nat.le_of_ble_eq_true rfl, Nat.le_of_ble_eq_true rfl⟩) hS (fun H locs hP hS => ?_)
  refine lv_if_eq (tgt := 16) hx hb dJ0_charAt_5068e_4 (by decide) (fun z => absurd z (by decide)) (fun _ => ?_)
  refine lv_aload_n hx hb dJ0_charAt_5068e_7 rfl (lv_at hl 0 rfl) ?_
  refine vk_getf hx hb (hE.1.1 i hi).2.2.1 hS hown (hts _ wd_952) (fun _ h => h) dJ0_charAt_5068e_8 ?_
  refine lv_iload_n hx hb dJ0_charAt_5068e_11 rfl (lv_at hl 1 rfl) ?_
  refine n_I (kSs C0 hE hS (As := [.ref (adV i), .int (nI j)]) (c_lca l hi hj) ⟨wd_538, wd_536, wd_537, wd_15⟩ kd_J1_charAt_3b067 ⟨Nat.le_of_ble_eq_true rfl, Nat.le_of_ble_eq_true rfl⟩ hP rfl hl.1 rfl (Nat.le_of_ble_eq_true rfl) dJ0_charAt_5068e_12 ⟨Nat.le_of_ble_eq_true rfl, Nat.le_of_ble_eq_true rfl⟩) hS (fun H locs hP hS => ?_)
  exact r_T C0 hP hS (sb_n i hi j hj) rfl dJ0_charAt_5068e_15
