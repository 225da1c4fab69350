theorem dX10_hearOne_0 : decode cX10_hearOne 0 = .ok (.aload_n 1, 1) := by decide +kernel
theorem dX10_hearOne_1 : decode cX10_hearOne 1 = .ok (.iload_n 2, 1) := by decide +kernel
theorem dX10_hearOne_2 : decode cX10_hearOne 2 = .ok (.iconst 1, 1) := by decide +kernel
theorem dX10_hearOne_3 : decode cX10_hearOne 3 = .ok (.iadd, 1) := by decide +kernel
theorem dX10_hearOne_4 : decode cX10_hearOne 4 = .ok (.invokevirtual 145, 3) := by decide +kernel
theorem dX10_hearOne_7 : decode cX10_hearOne 7 = .ok (.istore_n 3, 1) := by decide +kernel
theorem dX10_hearOne_8 : decode cX10_hearOne 8 = .ok (.iload_n 3, 1) := by decide +kernel
theorem dX10_hearOne_9 : decode cX10_hearOne 9 = .ok (.iconst 0, 1) := by decide +kernel
theorem dX10_hearOne_10 : decode cX10_hearOne 10 = .ok (.bipush 7, 2) := by decide +kernel
theorem dX10_hearOne_12 : decode cX10_hearOne 12 = .ok (.invokestatic 82, 3) := by decide +kernel
theorem dX10_hearOne_15 : decode cX10_hearOne 15 = .ok (.ifCond .eq 5, 3) := by decide +kernel
theorem dX10_hearOne_18 : decode cX10_hearOne 18 = .ok (.iconst (-1), 1) := by decide +kernel
theorem dX10_hearOne_19 : decode cX10_hearOne 19 = .ok (.ireturn, 1) := by decide +kernel
theorem dX10_hearOne_20 : decode cX10_hearOne 20 = .ok (.aload_n 0, 1) := by decide +kernel
theorem dX10_hearOne_21 : decode cX10_hearOne 21 = .ok (.iload_n 3, 1) := by decide +kernel
theorem dX10_hearOne_22 : decode cX10_hearOne 22 = .ok (.aload_n 1, 1) := by decide +kernel
theorem dX10_hearOne_23 : decode cX10_hearOne 23 = .ok (.iload_n 2, 1) := by decide +kernel
theorem dX10_hearOne_24 : decode cX10_hearOne 24 = .ok (.iconst 2, 1) := by decide +kernel
theorem dX10_hearOne_25 : decode cX10_hearOne 25 = .ok (.iadd, 1) := by decide +kernel
theorem dX10_hearOne_26 : decode cX10_hearOne 26 = .ok (.invokevirtual 145, 3) := by decide +kernel
theorem dX10_hearOne_29 : decode cX10_hearOne 29 = .ok (.invokestatic 175, 3) := by decide +kernel
theorem dX10_hearOne_32 : decode cX10_hearOne 32 = .ok (.aload_n 1, 1) := by decide +kernel
theorem dX10_hearOne_33 : decode cX10_hearOne 33 = .ok (.iload_n 2, 1) := by decide +kernel
theorem dX10_hearOne_34 : decode cX10_hearOne 34 = .ok (.iconst 3, 1) := by decide +kernel
theorem dX10_hearOne_35 : decode cX10_hearOne 35 = .ok (.iadd, 1) := by decide +kernel
theorem dX10_hearOne_36 : decode cX10_hearOne 36 = .ok (.invokevirtual 145, 3) := by decide +kernel
theorem dX10_hearOne_39 : decode cX10_hearOne 39 = .ok (.aload_n 1, 1) := by decide +kernel
theorem dX10_hearOne_40 : decode cX10_hearOne 40 = .ok (.iload_n 2, 1) := by decide +kernel
theorem dX10_hearOne_41 : decode cX10_hearOne 41 = .ok (.iconst 4, 1) := by decide +kernel
theorem dX10_hearOne_42 : decode cX10_hearOne 42 = .ok (.iadd, 1) := by decide +kernel
theorem dX10_hearOne_43 : decode cX10_hearOne 43 = .ok (.invokevirtual 151, 3) := by decide +kernel
theorem dX10_hearOne_46 : decode cX10_hearOne 46 = .ok (.aload_n 1, 1) := by decide +kernel
theorem dX10_hearOne_47 : decode cX10_hearOne 47 = .ok (.iload_n 2, 1) := by decide +kernel
theorem dX10_hearOne_48 : decode cX10_hearOne 48 = .ok (.bipush 6, 2) := by decide +kernel
theorem dX10_hearOne_50 : decode cX10_hearOne 50 = .ok (.iadd, 1) := by decide +kernel
theorem dX10_hearOne_51 : decode cX10_hearOne 51 = .ok (.invokevirtual 148, 3) := by decide +kernel
theorem dX10_hearOne_54 : decode cX10_hearOne 54 = .ok (.aload_n 1, 1) := by decide +kernel
theorem dX10_hearOne_55 : decode cX10_hearOne 55 = .ok (.iload_n 2, 1) := by decide +kernel
theorem dX10_hearOne_56 : decode cX10_hearOne 56 = .ok (.bipush 8, 2) := by decide +kernel
theorem dX10_hearOne_58 : decode cX10_hearOne 58 = .ok (.iadd, 1) := by decide +kernel
theorem dX10_hearOne_59 : decode cX10_hearOne 59 = .ok (.invokevirtual 151, 3) := by decide +kernel
theorem dX10_hearOne_62 : decode cX10_hearOne 62 = .ok (.invokevirtual 179, 3) := by decide +kernel
theorem dX10_hearOne_65 : decode cX10_hearOne 65 = .ok (.ireturn, 1) := by decide +kernel
theorem dX10_hearStatement_0 : decode cX10_hearStatement 0 = .ok (.aload_n 1, 1) := by decide +kernel
theorem dX10_hearStatement_1 : decode cX10_hearStatement 1 = .ok (.iload_n 2, 1) := by decide +kernel
theorem dX10_hearStatement_2 : decode cX10_hearStatement 2 = .ok (.invokevirtual 107, 3) := by decide +kernel
theorem dX10_hearStatement_5 : decode cX10_hearStatement 5 = .ok (.tableswitch 215 100 116 #[189, 215, 83, 215, 215, 215, 215, 116, 215, 215, 215, 176, 109, 215, 202, 215, 135], 83) := by decide +kernel
theorem dX10_hearStatement_88 : decode cX10_hearStatement 88 = .ok (.aload_n 0, 1) := by decide +kernel
theorem dX10_hearStatement_89 : decode cX10_hearStatement 89 = .ok (.aload_n 1, 1) := by decide +kernel
theorem dX10_hearStatement_90 : decode cX10_hearStatement 90 = .ok (.iload_n 2, 1) := by decide +kernel
theorem dX10_hearStatement_91 : decode cX10_hearStatement 91 = .ok (.iconst 1, 1) := by decide +kernel
theorem dX10_hearStatement_92 : decode cX10_hearStatement 92 = .ok (.iadd, 1) := by decide +kernel
theorem dX10_hearStatement_93 : decode cX10_hearStatement 93 = .ok (.invokevirtual 145, 3) := by decide +kernel
theorem dX10_hearStatement_96 : decode cX10_hearStatement 96 = .ok (.aload_n 1, 1) := by decide +kernel
theorem dX10_hearStatement_97 : decode cX10_hearStatement 97 = .ok (.iload_n 2, 1) := by decide +kernel
theorem dX10_hearStatement_98 : decode cX10_hearStatement 98 = .ok (.iconst 2, 1) := by decide +kernel
theorem dX10_hearStatement_99 : decode cX10_hearStatement 99 = .ok (.iadd, 1) := by decide +kernel
theorem dX10_hearStatement_100 : decode cX10_hearStatement 100 = .ok (.invokevirtual 148, 3) := by decide +kernel
theorem dX10_hearStatement_103 : decode cX10_hearStatement 103 = .ok (.aload_n 1, 1) := by decide +kernel
theorem dX10_hearStatement_104 : decode cX10_hearStatement 104 = .ok (.iload_n 2, 1) := by decide +kernel
theorem dX10_hearStatement_105 : decode cX10_hearStatement 105 = .ok (.iconst 4, 1) := by decide +kernel
theorem dX10_hearStatement_106 : decode cX10_hearStatement 106 = .ok (.iadd, 1) := by decide +kernel
theorem dX10_hearStatement_107 : decode cX10_hearStatement 107 = .ok (.invokevirtual 151, 3) := by decide +kernel
theorem dX10_hearStatement_110 : decode cX10_hearStatement 110 = .ok (.invokevirtual 154, 3) := by decide +kernel
theorem dX10_hearStatement_113 : decode cX10_hearStatement 113 = .ok (.ireturn, 1) := by decide +kernel
theorem dX10_hearStatement_114 : decode cX10_hearStatement 114 = .ok (.aload_n 0, 1) := by decide +kernel
theorem dX10_hearStatement_115 : decode cX10_hearStatement 115 = .ok (.aload_n 1, 1) := by decide +kernel
theorem dX10_hearStatement_116 : decode cX10_hearStatement 116 = .ok (.iload_n 2, 1) := by decide +kernel
theorem dX10_hearStatement_117 : decode cX10_hearStatement 117 = .ok (.invokevirtual 158, 3) := by decide +kernel
theorem dX10_hearStatement_120 : decode cX10_hearStatement 120 = .ok (.ireturn, 1) := by decide +kernel
theorem dX10_hearStatement_121 : decode cX10_hearStatement 121 = .ok (.aload_n 0, 1) := by decide +kernel
theorem dX10_hearStatement_122 : decode cX10_hearStatement 122 = .ok (.aload_n 1, 1) := by decide +kernel
theorem dX10_hearStatement_123 : decode cX10_hearStatement 123 = .ok (.iload_n 2, 1) := by decide +kernel
theorem dX10_hearStatement_124 : decode cX10_hearStatement 124 = .ok (.iconst 1, 1) := by decide +kernel
theorem dX10_hearStatement_125 : decode cX10_hearStatement 125 = .ok (.iadd, 1) := by decide +kernel
theorem dX10_hearStatement_126 : decode cX10_hearStatement 126 = .ok (.invokevirtual 145, 3) := by decide +kernel
theorem dX10_hearStatement_129 : decode cX10_hearStatement 129 = .ok (.aload_n 1, 1) := by decide +kernel
theorem dX10_hearStatement_130 : decode cX10_hearStatement 130 = .ok (.iload_n 2, 1) := by decide +kernel
theorem dX10_hearStatement_131 : decode cX10_hearStatement 131 = .ok (.iconst 2, 1) := by decide +kernel
theorem dX10_hearStatement_132 : decode cX10_hearStatement 132 = .ok (.iadd, 1) := by decide +kernel
theorem dX10_hearStatement_133 : decode cX10_hearStatement 133 = .ok (.invokevirtual 145, 3) := by decide +kernel
theorem dX10_hearStatement_136 : decode cX10_hearStatement 136 = .ok (.invokevirtual 161, 3) := by decide +kernel
theorem dX10_hearStatement_139 : decode cX10_hearStatement 139 = .ok (.ireturn, 1) := by decide +kernel
theorem dX10_hearStatement_140 : decode cX10_hearStatement 140 = .ok (.aload_n 0, 1) := by decide +kernel
theorem dX10_hearStatement_141 : decode cX10_hearStatement 141 = .ok (.aload_n 1, 1) := by decide +kernel
theorem dX10_hearStatement_142 : decode cX10_hearStatement 142 = .ok (.iload_n 2, 1) := by decide +kernel
theorem dX10_hearStatement_143 : decode cX10_hearStatement 143 = .ok (.iconst 1, 1) := by decide +kernel
theorem dX10_hearStatement_144 : decode cX10_hearStatement 144 = .ok (.iadd, 1) := by decide +kernel
theorem dX10_hearStatement_145 : decode cX10_hearStatement 145 = .ok (.invokevirtual 145, 3) := by decide +kernel
theorem dX10_hearStatement_148 : decode cX10_hearStatement 148 = .ok (.aload_n 1, 1) := by decide +kernel
theorem dX10_hearStatement_149 : decode cX10_hearStatement 149 = .ok (.iload_n 2, 1) := by decide +kernel
theorem dX10_hearStatement_150 : decode cX10_hearStatement 150 = .ok (.iconst 2, 1) := by decide +kernel
theorem dX10_hearStatement_151 : decode cX10_hearStatement 151 = .ok (.iadd, 1) := by decide +kernel
theorem dX10_hearStatement_152 : decode cX10_hearStatement 152 = .ok (.invokevirtual 165, 3) := by decide +kernel
theorem dX10_hearStatement_155 : decode cX10_hearStatement 155 = .ok (.aload_n 1, 1) := by decide +kernel
theorem dX10_hearStatement_156 : decode cX10_hearStatement 156 = .ok (.iload_n 2, 1) := by decide +kernel
theorem dX10_hearStatement_157 : decode cX10_hearStatement 157 = .ok (.iconst 3, 1) := by decide +kernel
theorem dX10_hearStatement_158 : decode cX10_hearStatement 158 = .ok (.iadd, 1) := by decide +kernel
theorem dX10_hearStatement_159 : decode cX10_hearStatement 159 = .ok (.invokevirtual 151, 3) := by decide +kernel
theorem dX10_hearStatement_162 : decode cX10_hearStatement 162 = .ok (.aload_n 1, 1) := by decide +kernel
theorem dX10_hearStatement_163 : decode cX10_hearStatement 163 = .ok (.iload_n 2, 1) := by decide +kernel
theorem dX10_hearStatement_164 : decode cX10_hearStatement 164 = .ok (.iconst 5, 1) := by decide +kernel
theorem dX10_hearStatement_165 : decode cX10_hearStatement 165 = .ok (.iadd, 1) := by decide +kernel
theorem dX10_hearStatement_166 : decode cX10_hearStatement 166 = .ok (.invokevirtual 151, 3) := by decide +kernel
theorem dX10_hearStatement_169 : decode cX10_hearStatement 169 = .ok (.aload_n 1, 1) := by decide +kernel
theorem dX10_hearStatement_170 : decode cX10_hearStatement 170 = .ok (.iload_n 2, 1) := by decide +kernel
theorem dX10_hearStatement_171 : decode cX10_hearStatement 171 = .ok (.bipush 7, 2) := by decide +kernel
theorem dX10_hearStatement_173 : decode cX10_hearStatement 173 = .ok (.iadd, 1) := by decide +kernel
theorem dX10_hearStatement_174 : decode cX10_hearStatement 174 = .ok (.invokevirtual 151, 3) := by decide +kernel
theorem dX10_hearStatement_177 : decode cX10_hearStatement 177 = .ok (.invokevirtual 168, 3) := by decide +kernel
theorem dX10_hearStatement_180 : decode cX10_hearStatement 180 = .ok (.ireturn, 1) := by decide +kernel
theorem dX10_hearStatement_181 : decode cX10_hearStatement 181 = .ok (.aload_n 0, 1) := by decide +kernel
theorem dX10_hearStatement_182 : decode cX10_hearStatement 182 = .ok (.iconst 0, 1) := by decide +kernel
theorem dX10_hearStatement_183 : decode cX10_hearStatement 183 = .ok (.aload_n 1, 1) := by decide +kernel
theorem dX10_hearStatement_184 : decode cX10_hearStatement 184 = .ok (.iload_n 2, 1) := by decide +kernel
theorem dX10_hearStatement_185 : decode cX10_hearStatement 185 = .ok (.iconst 1, 1) := by decide +kernel
theorem dX10_hearStatement_186 : decode cX10_hearStatement 186 = .ok (.iadd, 1) := by decide +kernel
theorem dX10_hearStatement_187 : decode cX10_hearStatement 187 = .ok (.invokevirtual 151, 3) := by decide +kernel
theorem dX10_hearStatement_190 : decode cX10_hearStatement 190 = .ok (.invokevirtual 172, 3) := by decide +kernel
theorem dX10_hearStatement_193 : decode cX10_hearStatement 193 = .ok (.ireturn, 1) := by decide +kernel
theorem dX10_hearStatement_194 : decode cX10_hearStatement 194 = .ok (.aload_n 0, 1) := by decide +kernel
theorem dX10_hearStatement_195 : decode cX10_hearStatement 195 = .ok (.iconst 1, 1) := by decide +kernel
theorem dX10_hearStatement_196 : decode cX10_hearStatement 196 = .ok (.aload_n 1, 1) := by decide +kernel
theorem dX10_hearStatement_197 : decode cX10_hearStatement 197 = .ok (.iload_n 2, 1) := by decide +kernel
theorem dX10_hearStatement_198 : decode cX10_hearStatement 198 = .ok (.iconst 1, 1) := by decide +kernel
theorem dX10_hearStatement_199 : decode cX10_hearStatement 199 = .ok (.iadd, 1) := by decide +kernel
theorem dX10_hearStatement_200 : decode cX10_hearStatement 200 = .ok (.invokevirtual 145, 3) := by decide +kernel
theorem dX10_hearStatement_203 : decode cX10_hearStatement 203 = .ok (.invokevirtual 172, 3) := by decide +kernel
theorem dX10_hearStatement_206 : decode cX10_hearStatement 206 = .ok (.ireturn, 1) := by decide +kernel
theorem dX10_hearStatement_207 : decode cX10_hearStatement 207 = .ok (.aload_n 0, 1) := by decide +kernel
theorem dX10_hearStatement_208 : decode cX10_hearStatement 208 = .ok (.iconst 2, 1) := by decide +kernel
theorem dX10_hearStatement_209 : decode cX10_hearStatement 209 = .ok (.aload_n 1, 1) := by decide +kernel
theorem dX10_hearStatement_210 : decode cX10_hearStatement 210 = .ok (.iload_n 2, 1) := by decide +kernel
theorem dX10_hearStatement_211 : decode cX10_hearStatement 211 = .ok (.iconst 1, 1) := by decide +kernel
theorem dX10_hearStatement_212 : decode cX10_hearStatement 212 = .ok (.iadd, 1) := by decide +kernel
theorem dX10_hearStatement_213 : decode cX10_hearStatement 213 = .ok (.invokevirtual 145, 3) := by decide +kernel
theorem dX10_hearStatement_216 : decode cX10_hearStatement 216 = .ok (.invokevirtual 172, 3) := by decide +kernel
theorem dX10_hearStatement_219 : decode cX10_hearStatement 219 = .ok (.ireturn, 1) := by decide +kernel
theorem dX10_hearStatement_220 : decode cX10_hearStatement 220 = .ok (.bipush (-3), 2) := by decide +kernel
theorem dX10_hearStatement_222 : decode cX10_hearStatement 222 = .ok (.ireturn, 1) := by decide +kernel
def b_X10_hearOne_0 (t : Nat) (u1 : Nat) (v2 : Int32) (S : St) : Option (Int32 × St) := (L_X8_digitAt u1 (v2 + 1) S).bind fun r1 => (L_X11_isOut r1 0 7 S).bind fun r2 => (if (r2 : Int32) = 0 then (L_X8_digitAt u1 (v2 + 2) S).bind fun r4 => (L_X11_oneOfKind r1 r4 S).bind fun r5 => (L_X8_digitAt u1 (v2 + 3) r5.2).bind fun r6 => (L_X8_pairAt u1 (v2 + 4) r5.2).bind fun r7 => (L_X8_signedAt u1 (v2 + 6) r5.2).bind fun r8 => (L_X8_pairAt u1 (v2 + 8) r5.2).bind fun r9 => (L_X10_addOne t r5.1 r6 r7 r8 r9 r5.2).bind fun r10 => some (r10.1, r10.2) else some ((-1), S))
def L_X10_hearOne (t : Nat) (u1 : Nat) (a2 : Int32) (S : St) : Option (Int32 × St) := b_X10_hearOne_0 t u1 a2 S
def b_X10_hearStatement_0 (t : Nat) (u1 : Nat) (v2 : Int32) (S : St) : Option (Int32 × St) := (L_X8_at u1 v2 S).bind fun r1 => (if (r1 : Int32) = 100 then (L_X8_digitAt u1 (v2 + 1) S).bind fun r3 => (L_X10_changeRule t 1 r3 S).bind fun r4 => some (r4.1, r4.2) else if (r1 : Int32) = 101 then some ((-3), S) else if (r1 : Int32) = 102 then (L_X8_digitAt u1 (v2 + 1) S).bind fun r7 => (L_X8_signedAt u1 (v2 + 2) S).bind fun r8 => (L_X8_pairAt u1 (v2 + 4) S).bind fun r9 => (L_X10_addFact t r7 r8 r9 S).bind fun r10 => some (r10.1, r10.2) else if (r1 : Int32) = 103 then some ((-3), S) else if (r1 : Int32) = 104 then some ((-3), S) else if (r1 : Int32) = 105 then some ((-3), S) else if (r1 : Int32) = 106 then some ((-3), S) else if (r1 : Int32) = 107 then (L_X8_digitAt u1 (v2 + 1) S).bind fun r16 => (L_X8_digitAt u1 (v2 + 2) S).bind fun r17 => (L_X10_turnKin t r16 r17 S).bind fun r18 => some (r18.1, r18.2) else if (r1 : Int32) = 108 then some ((-3), S) else if (r1 : Int32) = 109 then some ((-3), S) else if (r1 : Int32) = 110 then some ((-3), S) else if (r1 : Int32) = 111 then (L_X8_pairAt u1 (v2 + 1) S).bind fun r23 => (L_X10_changeRule t 0 r23 S).bind fun r24 => some (r24.1, r24.2) else if (r1 : Int32) = 112 then (L_X10_hearOne t u1 v2 S).bind fun r26 => some (r26.1, r26.2) else if (r1 : Int32) = 113 then some ((-3), S) else if (r1 : Int32) = 114 then (L_X8_digitAt u1 (v2 + 1) S).bind fun r29 => (L_X10_changeRule t 2 r29 S).bind fun r30 => some (r30.1, r30.2) else if (r1 : Int32) = 115 then some ((-3), S) else if (r1 : Int32) = 116 then (L_X8_digitAt u1 (v2 + 1) S).bind fun r33 => (L_X8_signAt u1 (v2 + 2) S).bind fun r34 => (L_X8_pairAt u1 (v2 + 3) S).bind fun r35 => (L_X8_pairAt u1 (v2 + 5) S).bind fun r36 => (L_X8_pairAt u1 (v2 + 7) S).bind fun r37 => (L_X10_addPlant t r33 r34 r35 r36 r37 S).bind fun r38 => some (r38.1, r38.2) else some ((-3), S))
def L_X10_hearStatement (t : Nat) (u1 : Nat) (a2 : Int32) (S : St) : Option (Int32 × St) := b_X10_hearStatement_0 t u1 a2 S
section WALKS
variable {p : Program} {e : Env} {s : State} {m : MethodId} {args : Array Value} {below : List Frame} {meth : Method} {c : Code} {D : va_G} {ct : Nat → ClassId} {B : Nat} {Hb : Heap}
set_option maxRecDepth 100000 in
set_option maxHeartbeats 4000000 in
theorem w_X10_hearOne_0 (l : Launch) {V : Int32 × St} (C0 : XC D ct p s m args meth c cX10_hearOne 4 (some .int) RX10) (t : Nat) (u1 : Nat) (ht : isTown t) (hu1 : isRow u1) (v2 : Int32) (S : St) {H : Heap} {locs : List Loc} {ls : Array Slot} {cells slots : Nat} (h : (b_X10_hearOne_0 t u1 v2 S).bind some = some V) (hP : MP D ct B Hb S H) (hS : va_S (AB B) s.heap H locs) (hl : lv_has ls 4 [(0, .ref (B + t)), (1, .ref (B + u1)), (2, .int v2)]) (hc : cells + 1 ≤ 1 ∧ slots + 2 * 1 ≤ 2) : W p l e { frames := 5, cells := 1, slots := 2, locals := 107 } s m args below meth c H locs cells slots (MQ below (qIw D ct B Hb V) args s 1 2 (AB B)) (F0 m 0 ls []) := by
  obtain ⟨hx, hb, hr, hml, hown, hts, hK, hlocks, hN⟩ := id C0
  unfold b_X10_hearOne_0 at h
  refine lv_aload_n hx hb dX10_hearOne_0 rfl (lv_at hl 1 rfl) ?_
  refine lv_iload_n hx hb dX10_hearOne_1 rfl (lv_at hl 2 rfl) ?_
  refine lv_iconst (v := 1) hx hb dX10_hearOne_2 (by decide) ?_
  refine lv_iadd hx hb dX10_hearOne_3 ?_
  obtain ⟨r1, hr1, h⟩ := ob_bd h
  refine n_I (kV (As := [.int (v2 + 1)]) C0 (c_X8_digitAt l u1 hu1 (v2 + 1) hr1) ⟨wd_357, wd_354, wd_355, wd_356, wd_5⟩ kd_X8_digitAt ⟨Nat.le_of_ble_eq_true rfl, Nat.le_of_ble_eq_true rfl⟩ hP (lay_X8 B ct S hu1) rfl rfl hl.1 rfl (Nat.le_of_ble_eq_true rfl) dX10_hearOne_4 ⟨by show _ + _ ≤ 1; omega, by show _ + _ ≤ 2; omega⟩) hS (fun H locs hP hS => ?_)
  refine lv_istore_n (lv' := [(3, .int r1), (0, .ref (B + t)), (1, .ref (B + u1)), (2, .int v2)]) hx hb dX10_hearOne_7 rfl hl (by decide) rfl (fun ls hl => ?_)
  refine lv_iload_n hx hb dX10_hearOne_8 rfl (lv_at hl 0 rfl) ?_
  refine lv_iconst (v := 0) hx hb dX10_hearOne_9 (by decide) ?_
  refine lv_bipush (v := 7) hx hb dX10_hearOne_10 (by decide) ?_
  obtain ⟨r2, hr2, h⟩ := ob_bd h
  refine n_I (kN (host := "ThoughtBetterOf") (As := [.int r1, .int 0, .int 7]) C0 (c_X11_isOut l r1 0 7 hr2) ⟨wd_378, nw_isOut, wd_377, wd_1⟩ kd_X11_isOut ⟨Nat.le_of_ble_eq_true rfl, Nat.le_of_ble_eq_true rfl⟩ hP rfl hl.1 rfl (Nat.le_of_ble_eq_true rfl) dX10_hearOne_12 ⟨by show _ + _ ≤ 1; omega, by show _ + _ ≤ 2; omega⟩) hS (fun H locs hP hS => ?_)
  refine lv_if_eq (tgt := 20) hx hb dX10_hearOne_15 (by decide) (fun z3 => ?_) (fun z3 => ?_)
  · have h := ob_t h z3
    refine lv_aload_n hx hb dX10_hearOne_20 rfl (lv_at hl 1 rfl) ?_
    refine lv_iload_n hx hb dX10_hearOne_21 rfl (lv_at hl 0 rfl) ?_
    refine lv_aload_n hx hb dX10_hearOne_22 rfl (lv_at hl 2 rfl) ?_
    refine lv_iload_n hx hb dX10_hearOne_23 rfl (lv_at hl 3 rfl) ?_
    refine lv_iconst (v := 2) hx hb dX10_hearOne_24 (by decide) ?_
    refine lv_iadd hx hb dX10_hearOne_25 ?_
    obtain ⟨r4, hr4, h⟩ := ob_bd h
    refine n_I (kV (As := [.int (v2 + 2)]) C0 (c_X8_digitAt l u1 hu1 (v2 + 2) hr4) ⟨wd_357, wd_354, wd_355, wd_356, wd_5⟩ kd_X8_digitAt ⟨Nat.le_of_ble_eq_true rfl, Nat.le_of_ble_eq_true rfl⟩ hP (lay_X8 B ct S hu1) rfl rfl hl.1 rfl (Nat.le_of_ble_eq_true rfl) dX10_hearOne_26 ⟨by show _ + _ ≤ 1; omega, by show _ + _ ≤ 2; omega⟩) hS (fun H locs hP hS => ?_)
    obtain ⟨r5, hr5, h⟩ := ob_bd h
    refine n_R (kN (host := "ThoughtBetterOf") (As := [.int r1, .int r4]) C0 (c_X11_oneOfKind l r1 r4 hr5) ⟨wd_385, nw_oneOfKind, wd_384, wd_1⟩ kd_X11_oneOfKind ⟨Nat.le_of_ble_eq_true rfl, Nat.le_of_ble_eq_true rfl⟩ hP rfl hl.1 rfl (Nat.le_of_ble_eq_true rfl) dX10_hearOne_29 ⟨by show _ + _ ≤ 1; omega, by show _ + _ ≤ 2; omega⟩) hS (fun H locs hP hS => ?_)
    refine lv_aload_n hx hb dX10_hearOne_32 rfl (lv_at hl 2 rfl) ?_
    refine lv_iload_n hx hb dX10_hearOne_33 rfl (lv_at hl 3 rfl) ?_
    refine lv_iconst (v := 3) hx hb dX10_hearOne_34 (by decide) ?_
    refine lv_iadd hx hb dX10_hearOne_35 ?_
    obtain ⟨r6, hr6, h⟩ := ob_bd h
    refine n_I (kV (As := [.int (v2 + 3)]) C0 (c_X8_digitAt l u1 hu1 (v2 + 3) hr6) ⟨wd_357, wd_354, wd_355, wd_356, wd_5⟩ kd_X8_digitAt ⟨Nat.le_of_ble_eq_true rfl, Nat.le_of_ble_eq_true rfl⟩ hP (lay_X8 B ct r5.2 hu1) rfl rfl hl.1 rfl (Nat.le_of_ble_eq_true rfl) dX10_hearOne_36 ⟨by show _ + _ ≤ 1; omega, by show _ + _ ≤ 2; omega⟩) hS (fun H locs hP hS => ?_)
    refine lv_aload_n hx hb dX10_hearOne_39 rfl (lv_at hl 2 rfl) ?_
    refine lv_iload_n hx hb dX10_hearOne_40 rfl (lv_at hl 3 rfl) ?_
    refine lv_iconst (v := 4) hx hb dX10_hearOne_41 (by decide) ?_
    refine lv_iadd hx hb dX10_hearOne_42 ?_
    obtain ⟨r7, hr7, h⟩ := ob_bd h
    refine n_I (kV (As := [.int (v2 + 4)]) C0 (c_X8_pairAt l u1 hu1 (v2 + 4) hr7) ⟨wd_371, wd_368, wd_369, wd_370, wd_5⟩ kd_X8_pairAt ⟨Nat.le_of_ble_eq_true rfl, Nat.le_of_ble_eq_true rfl⟩ hP (lay_X8 B ct r5.2 hu1) rfl rfl hl.1 rfl (Nat.le_of_ble_eq_true rfl) dX10_hearOne_43 ⟨by show _ + _ ≤ 1; omega, by show _ + _ ≤ 2; omega⟩) hS (fun H locs hP hS => ?_)
    refine lv_aload_n hx hb dX10_hearOne_46 rfl (lv_at hl 2 rfl) ?_
    refine lv_iload_n hx hb dX10_hearOne_47 rfl (lv_at hl 3 rfl) ?_
    refine lv_bipush (v := 6) hx hb dX10_hearOne_48 (by decide) ?_
    refine lv_iadd hx hb dX10_hearOne_50 ?_
    obtain ⟨r8, hr8, h⟩ := ob_bd h
    refine n_I (kV (As := [.int (v2 + 6)]) C0 (c_X8_signedAt l u1 hu1 (v2 + 6) hr8) ⟨wd_362, wd_359, wd_360, wd_361, wd_5⟩ kd_X8_signedAt ⟨Nat.le_of_ble_eq_true rfl, Nat.le_of_ble_eq_true rfl⟩ hP (lay_X8 B ct r5.2 hu1) rfl rfl hl.1 rfl (Nat.le_of_ble_eq_true rfl) dX10_hearOne_51 ⟨by show _ + _ ≤ 1; omega, by show _ + _ ≤ 2; omega⟩) hS (fun H locs hP hS => ?_)
    refine lv_aload_n hx hb dX10_hearOne_54 rfl (lv_at hl 2 rfl) ?_
    refine lv_iload_n hx hb dX10_hearOne_55 rfl (lv_at hl 3 rfl) ?_
    refine lv_bipush (v := 8) hx hb dX10_hearOne_56 (by decide) ?_
    refine lv_iadd hx hb dX10_hearOne_58 ?_
    obtain ⟨r9, hr9, h⟩ := ob_bd h
    refine n_I (kV (As := [.int (v2 + 8)]) C0 (c_X8_pairAt l u1 hu1 (v2 + 8) hr9) ⟨wd_371, wd_368, wd_369, wd_370, wd_5⟩ kd_X8_pairAt ⟨Nat.le_of_ble_eq_true rfl, Nat.le_of_ble_eq_true rfl⟩ hP (lay_X8 B ct r5.2 hu1) rfl rfl hl.1 rfl (Nat.le_of_ble_eq_true rfl) dX10_hearOne_59 ⟨by show _ + _ ≤ 1; omega, by show _ + _ ≤ 2; omega⟩) hS (fun H locs hP hS => ?_)
    obtain ⟨r10, hr10, h⟩ := ob_bd h
    refine n_Iw (kV (As := [.ref (B + r5.1), .int r6, .int r7, .int r8, .int r9]) C0 (c_X10_addOne l t r5.1 ht r6 r7 r8 r9 hr10) ⟨wd_453, wd_450, wd_451, wd_452, wd_2⟩ kd_X10_addOne ⟨Nat.le_of_ble_eq_true rfl, Nat.le_of_ble_eq_true rfl⟩ hP (lay_X10 B ct r5.2 ht) rfl rfl hl.1 rfl (Nat.le_of_ble_eq_true rfl) dX10_hearOne_62 ⟨by show _ + _ ≤ 1; omega, by show _ + _ ≤ 2; omega⟩) hS (fun H locs hP hS => ?_)
    refine W.widen (k := 1) (n := 2) (by omega) (by omega) ?_
    exact r_Iw C0 hP hS h dX10_hearOne_65
  · have h := ob_f h z3
    refine lv_iconst (v := (-1)) hx hb dX10_hearOne_18 (by decide) ?_
    refine W.widen (k := 1) (n := 2) (by omega) (by omega) ?_
    exact r_Iw C0 hP hS h dX10_hearOne_19
set_option maxRecDepth 100000 in
set_option maxHeartbeats 4000000 in
theorem c_X10_hearOne (l : Launch) (t : Nat) (u1 : Nat) (ht : isTown t) (hu1 : isRow u1) (a2 : Int32) {D : va_G} {ct : Nat → ClassId} {B : Nat} {Hb : Heap} {S : St} {V : Int32 × St} (h : L_X10_hearOne t u1 a2 S = some V) : Met l yX10_hearOne (Cond.code yX10_hearOne cX10_hearOne 4 (some .int) :: tG) { frames := 5, cells := 1, slots := 2, locals := 107 } (va_Pc [.ref (B + t), .ref (B + u1), .int a2] (MPK D ct B Hb S)) (qIw D ct B Hb V) 1 2 (AB B) := by
  refine mk_met (by decide +kernel) (Nat.le_of_ble_eq_true rfl) (fun p e s m args below meth c ls C0 hP hl _ => ?_)
  have h := ob_of h
  exact w_X10_hearOne_0 l C0 t u1 ht hu1 a2 S h hP va_S.rf (lv_sub hl [0, 1, 2] rfl) ⟨by omega, by omega⟩
set_option maxRecDepth 100000 in
set_option maxHeartbeats 4000000 in
theorem w_X10_hearStatement_0 (l : Launch) {V : Int32 × St} (C0 : XC D ct p s m args meth c cX10_hearStatement 3 (some .int) RX10) (t : Nat) (u1 : Nat) (ht : isTown t) (hu1 : isRow u1) (v2 : Int32) (S : St) {H : Heap} {locs : List Loc} {ls : Array Slot} {cells slots : Nat} (h : (b_X10_hearStatement_0 t u1 v2 S).bind some = some V) (hP : MP D ct B Hb S H) (hS : va_S (AB B) s.heap H locs) (hl : lv_has ls 3 [(0, .ref (B + t)), (1, .ref (B + u1)), (2, .int v2)]) (hc : cells + 1 ≤ 1 ∧ slots + 2 * 1 ≤ 2) : W p l e { frames := 6, cells := 1, slots := 2, locals := 130 } s m args below meth c H locs cells slots (MQ below (qIw D ct B Hb V) args s 1 2 (AB B)) (F0 m 0 ls []) := by
  obtain ⟨hx, hb, hr, hml, hown, hts, hK, hlocks, hN⟩ := id C0
  unfold b_X10_hearStatement_0 at h
  refine lv_aload_n hx hb dX10_hearStatement_0 rfl (lv_at hl 1 rfl) ?_
  refine lv_iload_n hx hb dX10_hearStatement_1 rfl (lv_at hl 2 rfl) ?_
  obtain ⟨r1, hr1, h⟩ := ob_bd h
  refine n_I (kV (As := [.int v2]) C0 (c_X8_at l u1 hu1 v2 hr1) ⟨wd_281, wd_278, wd_279, wd_280, wd_5⟩ kd_X8_at ⟨Nat.le_of_ble_eq_true rfl, Nat.le_of_ble_eq_true rfl⟩ hP (lay_X8 B ct S hu1) rfl rfl hl.1 rfl (Nat.le_of_ble_eq_true rfl) dX10_hearStatement_2 ⟨by show _ + _ ≤ 1; omega, by show _ + _ ≤ 2; omega⟩) hS (fun H locs hP hS => ?_)
  rcases Decidable.em ((r1 : Int32) = 100) with z2 | z2
  · have h := ob_t h z2
    refine lv_tableIn (x := r1) (off := 189) (tgt := 194) hx hb dX10_hearStatement_5 (by rw [z2]; decide) (by rw [z2]; decide) (by rw [z2]; decide) (by decide) ?_
    refine lv_aload_n hx hb dX10_hearStatement_194 rfl (lv_at hl 0 rfl) ?_
    refine lv_iconst (v := 1) hx hb dX10_hearStatement_195 (by decide) ?_
    refine lv_aload_n hx hb dX10_hearStatement_196 rfl (lv_at hl 1 rfl) ?_
    refine lv_iload_n hx hb dX10_hearStatement_197 rfl (lv_at hl 2 rfl) ?_
    refine lv_iconst (v := 1) hx hb dX10_hearStatement_198 (by decide) ?_
    refine lv_iadd hx hb dX10_hearStatement_199 ?_
    obtain ⟨r3, hr3, h⟩ := ob_bd h
    refine n_I (kV (As := [.int (v2 + 1)]) C0 (c_X8_digitAt l u1 hu1 (v2 + 1) hr3) ⟨wd_357, wd_354, wd_355, wd_356, wd_5⟩ kd_X8_digitAt ⟨Nat.le_of_ble_eq_true rfl, Nat.le_of_ble_eq_true rfl⟩ hP (lay_X8 B ct S hu1) rfl rfl hl.1 rfl (Nat.le_of_ble_eq_true rfl) dX10_hearStatement_200 ⟨by show _ + _ ≤ 1; omega, by show _ + _ ≤ 2; omega⟩) hS (fun H locs hP hS => ?_)
    obtain ⟨r4, hr4, h⟩ := ob_bd h
    refine n_Iw (kV (As := [.int 1, .int r3]) C0 (c_X10_changeRule l t ht 1 r3 hr4) ⟨wd_473, wd_470, wd_471, wd_472, wd_2⟩ kd_X10_changeRule ⟨Nat.le_of_ble_eq_true rfl, Nat.le_of_ble_eq_true rfl⟩ hP (lay_X10 B ct S ht) rfl rfl hl.1 rfl (Nat.le_of_ble_eq_true rfl) dX10_hearStatement_203 ⟨by show _ + _ ≤ 1; omega, by show _ + _ ≤ 2; omega⟩) hS (fun H locs hP hS => ?_)
    refine W.widen (k := 1) (n := 2) (by omega) (by omega) ?_
    exact r_Iw C0 hP hS h dX10_hearStatement_206
  · have h := ob_f h z2
    rcases Decidable.em ((r1 : Int32) = 101) with z5 | z5
    · have h := ob_t h z5
      refine lv_tableIn (x := r1) (off := 215) (tgt := 220) hx hb dX10_hearStatement_5 (by rw [z5]; decide) (by rw [z5]; decide) (by rw [z5]; decide) (by decide) ?_
      refine lv_bipush (v := (-3)) hx hb dX10_hearStatement_220 (by decide) ?_
      refine W.widen (k := 1) (n := 2) (by omega) (by omega) ?_
      exact r_Iw C0 hP hS h dX10_hearStatement_222
    · have h := ob_f h z5
      rcases Decidable.em ((r1 : Int32) = 102) with z6 | z6
      · have h := ob_t h z6
        refine lv_tableIn (x := r1) (off := 83) (tgt := 88) hx hb dX10_hearStatement_5 (by rw [z6]; decide) (by rw [z6]; decide) (by rw [z6]; decide) (by decide) ?_
        refine lv_aload_n hx hb dX10_hearStatement_88 rfl (lv_at hl 0 rfl) ?_
        refine lv_aload_n hx hb dX10_hearStatement_89 rfl (lv_at hl 1 rfl) ?_
        refine lv_iload_n hx hb dX10_hearStatement_90 rfl (lv_at hl 2 rfl) ?_
        refine lv_iconst (v := 1) hx hb dX10_hearStatement_91 (by decide) ?_
        refine lv_iadd hx hb dX10_hearStatement_92 ?_
        obtain ⟨r7, hr7, h⟩ := ob_bd h
        refine n_I (kV (As := [.int (v2 + 1)]) C0 (c_X8_digitAt l u1 hu1 (v2 + 1) hr7) ⟨wd_357, wd_354, wd_355, wd_356, wd_5⟩ kd_X8_digitAt ⟨Nat.le_of_ble_eq_true rfl, Nat.le_of_ble_eq_true rfl⟩ hP (lay_X8 B ct S hu1) rfl rfl hl.1 rfl (Nat.le_of_ble_eq_true rfl) dX10_hearStatement_93 ⟨by show _ + _ ≤ 1; omega, by show _ + _ ≤ 2; omega⟩) hS (fun H locs hP hS => ?_)
        refine lv_aload_n hx hb dX10_hearStatement_96 rfl (lv_at hl 1 rfl) ?_
        refine lv_iload_n hx hb dX10_hearStatement_97 rfl (lv_at hl 2 rfl) ?_
        refine lv_iconst (v := 2) hx hb dX10_hearStatement_98 (by decide) ?_
        refine lv_iadd hx hb dX10_hearStatement_99 ?_
        obtain ⟨r8, hr8, h⟩ := ob_bd h
        refine n_I (kV (As := [.int (v2 + 2)]) C0 (c_X8_signedAt l u1 hu1 (v2 + 2) hr8) ⟨wd_362, wd_359, wd_360, wd_361, wd_5⟩ kd_X8_signedAt ⟨Nat.le_of_ble_eq_true rfl, Nat.le_of_ble_eq_true rfl⟩ hP (lay_X8 B ct S hu1) rfl rfl hl.1 rfl (Nat.le_of_ble_eq_true rfl) dX10_hearStatement_100 ⟨by show _ + _ ≤ 1; omega, by show _ + _ ≤ 2; omega⟩) hS (fun H locs hP hS => ?_)
        refine lv_aload_n hx hb dX10_hearStatement_103 rfl (lv_at hl 1 rfl) ?_
        refine lv_iload_n hx hb dX10_hearStatement_104 rfl (lv_at hl 2 rfl) ?_
        refine lv_iconst (v := 4) hx hb dX10_hearStatement_105 (by decide) ?_
        refine lv_iadd hx hb dX10_hearStatement_106 ?_
        obtain ⟨r9, hr9, h⟩ := ob_bd h
        refine n_I (kV (As := [.int (v2 + 4)]) C0 (c_X8_pairAt l u1 hu1 (v2 + 4) hr9) ⟨wd_371, wd_368, wd_369, wd_370, wd_5⟩ kd_X8_pairAt ⟨Nat.le_of_ble_eq_true rfl, Nat.le_of_ble_eq_true rfl⟩ hP (lay_X8 B ct S hu1) rfl rfl hl.1 rfl (Nat.le_of_ble_eq_true rfl) dX10_hearStatement_107 ⟨by show _ + _ ≤ 1; omega, by show _ + _ ≤ 2; omega⟩) hS (fun H locs hP hS => ?_)
        obtain ⟨r10, hr10, h⟩ := ob_bd h
        refine n_Iw (kV (As := [.int r7, .int r8, .int r9]) C0 (c_X10_addFact l t ht r7 r8 r9 hr10) ⟨wd_375, wd_372, wd_373, wd_374, wd_2⟩ kd_X10_addFact ⟨Nat.le_of_ble_eq_true rfl, Nat.le_of_ble_eq_true rfl⟩ hP (lay_X10 B ct S ht) rfl rfl hl.1 rfl (Nat.le_of_ble_eq_true rfl) dX10_hearStatement_110 ⟨by show _ + _ ≤ 1; omega, by show _ + _ ≤ 2; omega⟩) hS (fun H locs hP hS => ?_)
        refine W.widen (k := 1) (n := 2) (by omega) (by omega) ?_
        exact r_Iw C0 hP hS h dX10_hearStatement_113
      · have h := ob_f h z6
        rcases Decidable.em ((r1 : Int32) = 103) with z11 | z11
        · have h := ob_t h z11
          refine lv_tableIn (x := r1) (off := 215) (tgt := 220) hx hb dX10_hearStatement_5 (by rw [z11]; decide) (by rw [z11]; decide) (by rw [z11]; decide) (by decide) ?_
          refine lv_bipush (v := (-3)) hx hb dX10_hearStatement_220 (by decide) ?_
          refine W.widen (k := 1) (n := 2) (by omega) (by omega) ?_
          exact r_Iw C0 hP hS h dX10_hearStatement_222
        · have h := ob_f h z11
          rcases Decidable.em ((r1 : Int32) = 104) with z12 | z12
          · have h := ob_t h z12
            refine lv_tableIn (x := r1) (off := 215) (tgt := 220) hx hb dX10_hearStatement_5 (by rw [z12]; decide) (by rw [z12]; decide) (by rw [z12]; decide) (by decide) ?_
            refine lv_bipush (v := (-3)) hx hb dX10_hearStatement_220 (by decide) ?_
            refine W.widen (k := 1) (n := 2) (by omega) (by omega) ?_
            exact r_Iw C0 hP hS h dX10_hearStatement_222
          · have h := ob_f h z12
            rcases Decidable.em ((r1 : Int32) = 105) with z13 | z13
            · have h := ob_t h z13
              refine lv_tableIn (x := r1) (off := 215) (tgt := 220) hx hb dX10_hearStatement_5 (by rw [z13]; decide) (by rw [z13]; decide) (by rw [z13]; decide) (by decide) ?_
              refine lv_bipush (v := (-3)) hx hb dX10_hearStatement_220 (by decide) ?_
              refine W.widen (k := 1) (n := 2) (by omega) (by omega) ?_
              exact r_Iw C0 hP hS h dX10_hearStatement_222
            · have h := ob_f h z13
              rcases Decidable.em ((r1 : Int32) = 106) with z14 | z14
              · have h := ob_t h z14
                refine lv_tableIn (x := r1) (off := 215) (tgt := 220) hx hb dX10_hearStatement_5 (by rw [z14]; decide) (by rw [z14]; decide) (by rw [z14]; decide) (by decide) ?_
                refine lv_bipush (v := (-3)) hx hb dX10_hearStatement_220 (by decide) ?_
                refine W.widen (k := 1) (n := 2) (by omega) (by omega) ?_
                exact r_Iw C0 hP hS h dX10_hearStatement_222
              · have h := ob_f h z14
                rcases Decidable.em ((r1 : Int32) = 107) with z15 | z15
                · have h := ob_t h z15
                  refine lv_tableIn (x := r1) (off := 116) (tgt := 121) hx hb dX10_hearStatement_5 (by rw [z15]; decide) (by rw [z15]; decide) (by rw [z15]; decide) (by decide) ?_
                  refine lv_aload_n hx hb dX10_hearStatement_121 rfl (lv_at hl 0 rfl) ?_
                  refine lv_aload_n hx hb dX10_hearStatement_122 rfl (lv_at hl 1 rfl) ?_
                  refine lv_iload_n hx hb dX10_hearStatement_123 rfl (lv_at hl 2 rfl) ?_
                  refine lv_iconst (v := 1) hx hb dX10_hearStatement_124 (by decide) ?_
                  refine lv_iadd hx hb dX10_hearStatement_125 ?_
                  obtain ⟨r16, hr16, h⟩ := ob_bd h
                  refine n_I (kV (As := [.int (v2 + 1)]) C0 (c_X8_digitAt l u1 hu1 (v2 + 1) hr16) ⟨wd_357, wd_354, wd_355, wd_356, wd_5⟩ kd_X8_digitAt ⟨Nat.le_of_ble_eq_true rfl, Nat.le_of_ble_eq_true rfl⟩ hP (lay_X8 B ct S hu1) rfl rfl hl.1 rfl (Nat.le_of_ble_eq_true rfl) dX10_hearStatement_126 ⟨by show _ + _ ≤ 1; omega, by show _ + _ ≤ 2; omega⟩) hS (fun H locs hP hS => ?_)
                  refine lv_aload_n hx hb dX10_hearStatement_129 rfl (lv_at hl 1 rfl) ?_
                  refine lv_iload_n hx hb dX10_hearStatement_130 rfl (lv_at hl 2 rfl) ?_
                  refine lv_iconst (v := 2) hx hb dX10_hearStatement_131 (by decide) ?_
                  refine lv_iadd hx hb dX10_hearStatement_132 ?_
                  obtain ⟨r17, hr17, h⟩ := ob_bd h
                  refine n_I (kV (As := [.int (v2 + 2)]) C0 (c_X8_digitAt l u1 hu1 (v2 + 2) hr17) ⟨wd_357, wd_354, wd_355, wd_356, wd_5⟩ kd_X8_digitAt ⟨Nat.le_of_ble_eq_true rfl, Nat.le_of_ble_eq_true rfl⟩ hP (lay_X8 B ct S hu1) rfl rfl hl.1 rfl (Nat.le_of_ble_eq_true rfl) dX10_hearStatement_133 ⟨by show _ + _ ≤ 1; omega, by show _ + _ ≤ 2; omega⟩) hS (fun H locs hP hS => ?_)
                  obtain ⟨r18, hr18, h⟩ := ob_bd h
                  refine n_Iw (kV (As := [.int r16, .int r17]) C0 (c_X10_turnKin l t ht r16 r17 hr18) ⟨wd_460, wd_457, wd_458, wd_459, wd_2⟩ kd_X10_turnKin ⟨Nat.le_of_ble_eq_true rfl, Nat.le_of_ble_eq_true rfl⟩ hP (lay_X10 B ct S ht) rfl rfl hl.1 rfl (Nat.le_of_ble_eq_true rfl) dX10_hearStatement_136 ⟨by show _ + _ ≤ 1; omega, by show _ + _ ≤ 2; omega⟩) hS (fun H locs hP hS => ?_)
                  refine W.widen (k := 1) (n := 2) (by omega) (by omega) ?_
                  exact r_Iw C0 hP hS h dX10_hearStatement_139
                · have h := ob_f h z15
                  rcases Decidable.em ((r1 : Int32) = 108) with z19 | z19
                  · have h := ob_t h z19
                    refine lv_tableIn (x := r1) (off := 215) (tgt := 220) hx hb dX10_hearStatement_5 (by rw [z19]; decide) (by rw [z19]; decide) (by rw [z19]; decide) (by decide) ?_
                    refine lv_bipush (v := (-3)) hx hb dX10_hearStatement_220 (by decide) ?_
                    refine W.widen (k := 1) (n := 2) (by omega) (by omega) ?_
                    exact r_Iw C0 hP hS h dX10_hearStatement_222
                  · have h := ob_f h z19
                    rcases Decidable.em ((r1 : Int32) = 109) with z20 | z20
                    · have h := ob_t h z20
                      refine lv_tableIn (x := r1) (off := 215) (tgt := 220) hx hb dX10_hearStatement_5 (by rw [z20]; decide) (by rw [z20]; decide) (by rw [z20]; decide) (by decide) ?_
                      refine lv_bipush (v := (-3)) hx hb dX10_hearStatement_220 (by decide) ?_
                      refine W.widen (k := 1) (n := 2) (by omega) (by omega) ?_
                      exact r_Iw C0 hP hS h dX10_hearStatement_222
                    · have h := ob_f h z20
                      rcases Decidable.em ((r1 : Int32) = 110) with z21 | z21
                      · have h := ob_t h z21
                        refine lv_tableIn (x := r1) (off := 215) (tgt := 220) hx hb dX10_hearStatement_5 (by rw [z21]; decide) (by rw [z21]; decide) (by rw [z21]; decide) (by decide) ?_
                        refine lv_bipush (v := (-3)) hx hb dX10_hearStatement_220 (by decide) ?_
                        refine W.widen (k := 1) (n := 2) (by omega) (by omega) ?_
                        exact r_Iw C0 hP hS h dX10_hearStatement_222
                      · have h := ob_f h z21
                        rcases Decidable.em ((r1 : Int32) = 111) with z22 | z22
                        · have h := ob_t h z22
                          refine lv_tableIn (x := r1) (off := 176) (tgt := 181) hx hb dX10_hearStatement_5 (by rw [z22]; decide) (by rw [z22]; decide) (by rw [z22]; decide) (by decide) ?_
                          refine lv_aload_n hx hb dX10_hearStatement_181 rfl (lv_at hl 0 rfl) ?_
                          refine lv_iconst (v := 0) hx hb dX10_hearStatement_182 (by decide) ?_
                          refine lv_aload_n hx hb dX10_hearStatement_183 rfl (lv_at hl 1 rfl) ?_
                          refine lv_iload_n hx hb dX10_hearStatement_184 rfl (lv_at hl 2 rfl) ?_
                          refine lv_iconst (v := 1) hx hb dX10_hearStatement_185 (by decide) ?_
                          refine lv_iadd hx hb dX10_hearStatement_186 ?_
                          obtain ⟨r23, hr23, h⟩ := ob_bd h
                          refine n_I (kV (As := [.int (v2 + 1)]) C0 (c_X8_pairAt l u1 hu1 (v2 + 1) hr23) ⟨wd_371, wd_368, wd_369, wd_370, wd_5⟩ kd_X8_pairAt ⟨Nat.le_of_ble_eq_true rfl, Nat.le_of_ble_eq_true rfl⟩ hP (lay_X8 B ct S hu1) rfl rfl hl.1 rfl (Nat.le_of_ble_eq_true rfl) dX10_hearStatement_187 ⟨by show _ + _ ≤ 1; omega, by show _ + _ ≤ 2; omega⟩) hS (fun H locs hP hS => ?_)
                          obtain ⟨r24, hr24, h⟩ := ob_bd h
                          refine n_Iw (kV (As := [.int 0, .int r23]) C0 (c_X10_changeRule l t ht 0 r23 hr24) ⟨wd_473, wd_470, wd_471, wd_472, wd_2⟩ kd_X10_changeRule ⟨Nat.le_of_ble_eq_true rfl, Nat.le_of_ble_eq_true rfl⟩ hP (lay_X10 B ct S ht) rfl rfl hl.1 rfl (Nat.le_of_ble_eq_true rfl) dX10_hearStatement_190 ⟨by show _ + _ ≤ 1; omega, by show _ + _ ≤ 2; omega⟩) hS (fun H locs hP hS => ?_)
                          refine W.widen (k := 1) (n := 2) (by omega) (by omega) ?_
                          exact r_Iw C0 hP hS h dX10_hearStatement_193
                        · have h := ob_f h z22
                          rcases Decidable.em ((r1 : Int32) = 112) with z25 | z25
                          · have h := ob_t h z25
                            refine lv_tableIn (x := r1) (off := 109) (tgt := 114) hx hb dX10_hearStatement_5 (by rw [z25]; decide) (by rw [z25]; decide) (by rw [z25]; decide) (by decide) ?_
                            refine lv_aload_n hx hb dX10_hearStatement_114 rfl (lv_at hl 0 rfl) ?_
                            refine lv_aload_n hx hb dX10_hearStatement_115 rfl (lv_at hl 1 rfl) ?_
                            refine lv_iload_n hx hb dX10_hearStatement_116 rfl (lv_at hl 2 rfl) ?_
                            obtain ⟨r26, hr26, h⟩ := ob_bd h
                            refine n_Iw (kV (As := [.ref (B + u1), .int v2]) C0 (c_X10_hearOne l t u1 ht hu1 v2 hr26) ⟨wd_382, wd_379, wd_381, wp_2, wd_2⟩ kd_X10_hearOne ⟨Nat.le_of_ble_eq_true rfl, Nat.le_of_ble_eq_true rfl⟩ hP (lay_X10 B ct S ht) rfl rfl hl.1 rfl (Nat.le_of_ble_eq_true rfl) dX10_hearStatement_117 ⟨by show _ + _ ≤ 1; omega, by show _ + _ ≤ 2; omega⟩) hS (fun H locs hP hS => ?_)
                            refine W.widen (k := 1) (n := 2) (by omega) (by omega) ?_
                            exact r_Iw C0 hP hS h dX10_hearStatement_120
                          · have h := ob_f h z25
                            rcases Decidable.em ((r1 : Int32) = 113) with z27 | z27
                            · have h := ob_t h z27
                              refine lv_tableIn (x := r1) (off := 215) (tgt := 220) hx hb dX10_hearStatement_5 (by rw [z27]; decide) (by rw [z27]; decide) (by rw [z27]; decide) (by decide) ?_
                              refine lv_bipush (v := (-3)) hx hb dX10_hearStatement_220 (by decide) ?_
                              refine W.widen (k := 1) (n := 2) (by omega) (by omega) ?_
                              exact r_Iw C0 hP hS h dX10_hearStatement_222
                            · have h := ob_f h z27
                              rcases Decidable.em ((r1 : Int32) = 114) with z28 | z28
                              · have h := ob_t h z28
                                refine lv_tableIn (x := r1) (off := 202) (tgt := 207) hx hb dX10_hearStatement_5 (by rw [z28]; decide) (by rw [z28]; decide) (by rw [z28]; decide) (by decide) ?_
                                refine lv_aload_n hx hb dX10_hearStatement_207 rfl (lv_at hl 0 rfl) ?_
                                refine lv_iconst (v := 2) hx hb dX10_hearStatement_208 (by decide) ?_
                                refine lv_aload_n hx hb dX10_hearStatement_209 rfl (lv_at hl 1 rfl) ?_
                                refine lv_iload_n hx hb dX10_hearStatement_210 rfl (lv_at hl 2 rfl) ?_
                                refine lv_iconst (v := 1) hx hb dX10_hearStatement_211 (by decide) ?_
                                refine lv_iadd hx hb dX10_hearStatement_212 ?_
                                obtain ⟨r29, hr29, h⟩ := ob_bd h
                                refine n_I (kV (As := [.int (v2 + 1)]) C0 (c_X8_digitAt l u1 hu1 (v2 + 1) hr29) ⟨wd_357, wd_354, wd_355, wd_356, wd_5⟩ kd_X8_digitAt ⟨Nat.le_of_ble_eq_true rfl, Nat.le_of_ble_eq_true rfl⟩ hP (lay_X8 B ct S hu1) rfl rfl hl.1 rfl (Nat.le_of_ble_eq_true rfl) dX10_hearStatement_213 ⟨by show _ + _ ≤ 1; omega, by show _ + _ ≤ 2; omega⟩) hS (fun H locs hP hS => ?_)
                                obtain ⟨r30, hr30, h⟩ := ob_bd h
                                refine n_Iw (kV (As := [.int 2, .int r29]) C0 (c_X10_changeRule l t ht 2 r29 hr30) ⟨wd_473, wd_470, wd_471, wd_472, wd_2⟩ kd_X10_changeRule ⟨Nat.le_of_ble_eq_true rfl, Nat.le_of_ble_eq_true rfl⟩ hP (lay_X10 B ct S ht) rfl rfl hl.1 rfl (Nat.le_of_ble_eq_true rfl) dX10_hearStatement_216 ⟨by show _ + _ ≤ 1; omega, by show _ + _ ≤ 2; omega⟩) hS (fun H locs hP hS => ?_)
                                refine W.widen (k := 1) (n := 2) (by omega) (by omega) ?_
                                exact r_Iw C0 hP hS h dX10_hearStatement_219
                              · have h := ob_f h z28
                                rcases Decidable.em ((r1 : Int32) = 115) with z31 | z31
                                · have h := ob_t h z31
                                  refine lv_tableIn (x := r1) (off := 215) (tgt := 220) hx hb dX10_hearStatement_5 (by rw [z31]; decide) (by rw [z31]; decide) (by rw [z31]; decide) (by decide) ?_
                                  refine lv_bipush (v := (-3)) hx hb dX10_hearStatement_220 (by decide) ?_
                                  refine W.widen (k := 1) (n := 2) (by omega) (by omega) ?_
                                  exact r_Iw C0 hP hS h dX10_hearStatement_222
                                · have h := ob_f h z31
                                  rcases Decidable.em ((r1 : Int32) = 116) with z32 | z32
                                  · have h := ob_t h z32
                                    refine lv_tableIn (x := r1) (off := 135) (tgt := 140) hx hb dX10_hearStatement_5 (by rw [z32]; decide) (by rw [z32]; decide) (by rw [z32]; decide) (by decide) ?_
                                    refine lv_aload_n hx hb dX10_hearStatement_140 rfl (lv_at hl 0 rfl) ?_
                                    refine lv_aload_n hx hb dX10_hearStatement_141 rfl (lv_at hl 1 rfl) ?_
                                    refine lv_iload_n hx hb dX10_hearStatement_142 rfl (lv_at hl 2 rfl) ?_
                                    refine lv_iconst (v := 1) hx hb dX10_hearStatement_143 (by decide) ?_
                                    refine lv_iadd hx hb dX10_hearStatement_144 ?_
                                    obtain ⟨r33, hr33, h⟩ := ob_bd h
                                    refine n_I (kV (As := [.int (v2 + 1)]) C0 (c_X8_digitAt l u1 hu1 (v2 + 1) hr33) ⟨wd_357, wd_354, wd_355, wd_356, wd_5⟩ kd_X8_digitAt ⟨Nat.le_of_ble_eq_true rfl, Nat.le_of_ble_eq_true rfl⟩ hP (lay_X8 B ct S hu1) rfl rfl hl.1 rfl (Nat.le_of_ble_eq_true rfl) dX10_hearStatement_145 ⟨by show _ + _ ≤ 1; omega, by show _ + _ ≤ 2; omega⟩) hS (fun H locs hP hS => ?_)
                                    refine lv_aload_n hx hb dX10_hearStatement_148 rfl (lv_at hl 1 rfl) ?_
                                    refine lv_iload_n hx hb dX10_hearStatement_149 rfl (lv_at hl 2 rfl) ?_
                                    refine lv_iconst (v := 2) hx hb dX10_hearStatement_150 (by decide) ?_
                                    refine lv_iadd hx hb dX10_hearStatement_151 ?_
                                    obtain ⟨r34, hr34, h⟩ := ob_bd h
                                    refine n_I (kV (As := [.int (v2 + 2)]) C0 (c_X8_signAt l u1 hu1 (v2 + 2) hr34) ⟨wd_366, wd_465, wd_364, wd_365, wd_5⟩ kd_X8_signAt ⟨Nat.le_of_ble_eq_true rfl, Nat.le_of_ble_eq_true rfl⟩ hP (lay_X8 B ct S hu1) rfl rfl hl.1 rfl (Nat.le_of_ble_eq_true rfl) dX10_hearStatement_152 ⟨by show _ + _ ≤ 1; omega, by show _ + _ ≤ 2; omega⟩) hS (fun H locs hP hS => ?_)
                                    refine lv_aload_n hx hb dX10_hearStatement_155 rfl (lv_at hl 1 rfl) ?_
                                    refine lv_iload_n hx hb dX10_hearStatement_156 rfl (lv_at hl 2 rfl) ?_
                                    refine lv_iconst (v := 3) hx hb dX10_hearStatement_157 (by decide) ?_
                                    refine lv_iadd hx hb dX10_hearStatement_158 ?_
                                    obtain ⟨r35, hr35, h⟩ := ob_bd h
                                    refine n_I (kV (As := [.int (v2 + 3)]) C0 (c_X8_pairAt l u1 hu1 (v2 + 3) hr35) ⟨wd_371, wd_368, wd_369, wd_370, wd_5⟩ kd_X8_pairAt ⟨Nat.le_of_ble_eq_true rfl, Nat.le_of_ble_eq_true rfl⟩ hP (lay_X8 B ct S hu1) rfl rfl hl.1 rfl (Nat.le_of_ble_eq_true rfl) dX10_hearStatement_159 ⟨by show _ + _ ≤ 1; omega, by show _ + _ ≤ 2; omega⟩) hS (fun H locs hP hS => ?_)
                                    refine lv_aload_n hx hb dX10_hearStatement_162 rfl (lv_at hl 1 rfl) ?_
                                    refine lv_iload_n hx hb dX10_hearStatement_163 rfl (lv_at hl 2 rfl) ?_
                                    refine lv_iconst (v := 5) hx hb dX10_hearStatement_164 (by decide) ?_
                                    refine lv_iadd hx hb dX10_hearStatement_165 ?_
                                    obtain ⟨r36, hr36, h⟩ := ob_bd h
                                    refine n_I (kV (As := [.int (v2 + 5)]) C0 (c_X8_pairAt l u1 hu1 (v2 + 5) hr36) ⟨wd_371, wd_368, wd_369, wd_370, wd_5⟩ kd_X8_pairAt ⟨Nat.le_of_ble_eq_true rfl, Nat.le_of_ble_eq_true rfl⟩ hP (lay_X8 B ct S hu1) rfl rfl hl.1 rfl (Nat.le_of_ble_eq_true rfl) dX10_hearStatement_166 ⟨by show _ + _ ≤ 1; omega, by show _ + _ ≤ 2; omega⟩) hS (fun H locs hP hS => ?_)
                                    refine lv_aload_n hx hb dX10_hearStatement_169 rfl (lv_at hl 1 rfl) ?_
                                    refine lv_iload_n hx hb dX10_hearStatement_170 rfl (lv_at hl 2 rfl) ?_
                                    refine lv_bipush (v := 7) hx hb dX10_hearStatement_171 (by decide) ?_
                                    refine lv_iadd hx hb dX10_hearStatement_173 ?_
                                    obtain ⟨r37, hr37, h⟩ := ob_bd h
                                    refine n_I (kV (As := [.int (v2 + 7)]) C0 (c_X8_pairAt l u1 hu1 (v2 + 7) hr37) ⟨wd_371, wd_368, wd_369, wd_370, wd_5⟩ kd_X8_pairAt ⟨Nat.le_of_ble_eq_true rfl, Nat.le_of_ble_eq_true rfl⟩ hP (lay_X8 B ct S hu1) rfl rfl hl.1 rfl (Nat.le_of_ble_eq_true rfl) dX10_hearStatement_174 ⟨by show _ + _ ≤ 1; omega, by show _ + _ ≤ 2; omega⟩) hS (fun H locs hP hS => ?_)
                                    obtain ⟨r38, hr38, h⟩ := ob_bd h
                                    refine n_Iw (kV (As := [.int r33, .int r34, .int r35, .int r36, .int r37]) C0 (c_X10_addPlant l t ht r33 r34 r35 r36 r37 hr38) ⟨wd_469, wd_466, wd_467, wd_468, wd_2⟩ kd_X10_addPlant ⟨Nat.le_of_ble_eq_true rfl, Nat.le_of_ble_eq_true rfl⟩ hP (lay_X10 B ct S ht) rfl rfl hl.1 rfl (Nat.le_of_ble_eq_true rfl) dX10_hearStatement_177 ⟨by show _ + _ ≤ 1; omega, by show _ + _ ≤ 2; omega⟩) hS (fun H locs hP hS => ?_)
                                    refine W.widen (k := 1) (n := 2) (by omega) (by omega) ?_
                                    exact r_Iw C0 hP hS h dX10_hearStatement_180
                                  · have h := ob_f h z32
                                    refine lv_tableOut (x := r1) (tgt := 220) hx hb dX10_hearStatement_5 (sw_100_17 z2 z5 z6 z11 z12 z13 z14 z15 z19 z20 z21 z22 z25 z27 z28 z31 z32) (by decide) ?_
                                    refine lv_bipush (v := (-3)) hx hb dX10_hearStatement_220 (by decide) ?_
                                    refine W.widen (k := 1) (n := 2) (by omega) (by omega) ?_
                                    exact r_Iw C0 hP hS h dX10_hearStatement_222
set_option maxRecDepth 100000 in
set_option maxHeartbeats 4000000 in
theorem c_X10_hearStatement (l : Launch) (t : Nat) (u1 : Nat) (ht : isTown t) (hu1 : isRow u1) (a2 : Int32) {D : va_G} {ct : Nat → ClassId} {B : Nat} {Hb : Heap} {S : St} {V : Int32 × St} (h : L_X10_hearStatement t u1 a2 S = some V) : Met l yX10_hearStatement (Cond.code yX10_hearStatement cX10_hearStatement 3 (some .int) :: tG) { frames := 6, cells := 1, slots := 2, locals := 130 } (va_Pc [.ref (B + t), .ref (B + u1), .int a2] (MPK D ct B Hb S)) (qIw D ct B Hb V) 1 2 (AB B) := by
  refine mk_met (by decide +kernel) (Nat.le_of_ble_eq_true rfl) (fun p e s m args below meth c ls C0 hP hl _ => ?_)
  have h := ob_of h
  exact w_X10_hearStatement_0 l C0 t u1 ht hu1 a2 S h hP va_S.rf (lv_sub hl [0, 1, 2] rfl) ⟨by omega, by omega⟩
end WALKS
