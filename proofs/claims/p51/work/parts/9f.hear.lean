theorem dX10_hearStatement_0 : decode cX10_hearStatement 0 = .ok (.aload_n 1, 1) := by decide +kernel
theorem dX10_hearStatement_1 : decode cX10_hearStatement 1 = .ok (.iload_n 2, 1) := by decide +kernel
theorem dX10_hearStatement_2 : decode cX10_hearStatement 2 = .ok (.invokevirtual 107, 3) := by decide +kernel
theorem dX10_hearStatement_5 : decode cX10_hearStatement 5 = .ok (.tableswitch 274 100 116 #[248, 274, 83, 274, 274, 274, 274, 175, 274, 274, 274, 235, 109, 274, 261, 274, 194], 83) := by decide +kernel
theorem dX10_hearStatement_88 : decode cX10_hearStatement 88 = .ok (.aload_n 0, 1) := by decide +kernel
theorem dX10_hearStatement_89 : decode cX10_hearStatement 89 = .ok (.aload_n 1, 1) := by decide +kernel
theorem dX10_hearStatement_90 : decode cX10_hearStatement 90 = .ok (.iload_n 2, 1) := by decide +kernel
theorem dX10_hearStatement_91 : decode cX10_hearStatement 91 = .ok (.iconst 1, 1) := by decide +kernel
theorem dX10_hearStatement_92 : decode cX10_hearStatement 92 = .ok (.iadd, 1) := by decide +kernel
theorem dX10_hearStatement_93 : decode cX10_hearStatement 93 = .ok (.invokevirtual 145, 3) := by decide +kernel
theorem dX10_hearStatement_96 : decode cX10_hearStatement 96 = .ok (.aload_n 1, 1) := by decide +kernel
theorem dX10_hearStatement_97 : decode cX10_hearStatement 97 = .ok (.iload_n 2, 1) := by decide +kernel
theorem dX10_hearStatement_98 : decode cX10_hearStatement 98 = .ok (.iconst 2, 1) := by decide +kernel
theorem dX10_hearStatement_99 : decode cX10_hearStatement 99 = .ok (.iadd, 1) := by decide +kernel
theorem dX10_hearStatement_100 : decode cX10_hearStatement 100 = .ok (.invokevirtual 148, 3) := by decide +kernel
theorem dX10_hearStatement_103 : decode cX10_hearStatement 103 = .ok (.aload_n 1, 1) := by decide +kernel
theorem dX10_hearStatement_104 : decode cX10_hearStatement 104 = .ok (.iload_n 2, 1) := by decide +kernel
theorem dX10_hearStatement_105 : decode cX10_hearStatement 105 = .ok (.iconst 4, 1) := by decide +kernel
theorem dX10_hearStatement_106 : decode cX10_hearStatement 106 = .ok (.iadd, 1) := by decide +kernel
theorem dX10_hearStatement_107 : decode cX10_hearStatement 107 = .ok (.invokevirtual 151, 3) := by decide +kernel
theorem dX10_hearStatement_110 : decode cX10_hearStatement 110 = .ok (.invokevirtual 154, 3) := by decide +kernel
theorem dX10_hearStatement_113 : decode cX10_hearStatement 113 = .ok (.ireturn, 1) := by decide +kernel
theorem dX10_hearStatement_114 : decode cX10_hearStatement 114 = .ok (.aload_n 1, 1) := by decide +kernel
theorem dX10_hearStatement_115 : decode cX10_hearStatement 115 = .ok (.iload_n 2, 1) := by decide +kernel
theorem dX10_hearStatement_116 : decode cX10_hearStatement 116 = .ok (.iconst 1, 1) := by decide +kernel
theorem dX10_hearStatement_117 : decode cX10_hearStatement 117 = .ok (.iadd, 1) := by decide +kernel
theorem dX10_hearStatement_118 : decode cX10_hearStatement 118 = .ok (.invokevirtual 145, 3) := by decide +kernel
theorem dX10_hearStatement_121 : decode cX10_hearStatement 121 = .ok (.bipush 7, 2) := by decide +kernel
theorem dX10_hearStatement_123 : decode cX10_hearStatement 123 = .ok (.if_icmp .le 5, 3) := by decide +kernel
theorem dX10_hearStatement_126 : decode cX10_hearStatement 126 = .ok (.iconst (-1), 1) := by decide +kernel
theorem dX10_hearStatement_127 : decode cX10_hearStatement 127 = .ok (.ireturn, 1) := by decide +kernel
theorem dX10_hearStatement_128 : decode cX10_hearStatement 128 = .ok (.aload_n 0, 1) := by decide +kernel
theorem dX10_hearStatement_129 : decode cX10_hearStatement 129 = .ok (.aload_n 1, 1) := by decide +kernel
theorem dX10_hearStatement_130 : decode cX10_hearStatement 130 = .ok (.iload_n 2, 1) := by decide +kernel
theorem dX10_hearStatement_131 : decode cX10_hearStatement 131 = .ok (.iconst 1, 1) := by decide +kernel
theorem dX10_hearStatement_132 : decode cX10_hearStatement 132 = .ok (.iadd, 1) := by decide +kernel
theorem dX10_hearStatement_133 : decode cX10_hearStatement 133 = .ok (.invokevirtual 145, 3) := by decide +kernel
theorem dX10_hearStatement_136 : decode cX10_hearStatement 136 = .ok (.aload_n 1, 1) := by decide +kernel
theorem dX10_hearStatement_137 : decode cX10_hearStatement 137 = .ok (.iload_n 2, 1) := by decide +kernel
theorem dX10_hearStatement_138 : decode cX10_hearStatement 138 = .ok (.iconst 2, 1) := by decide +kernel
theorem dX10_hearStatement_139 : decode cX10_hearStatement 139 = .ok (.iadd, 1) := by decide +kernel
theorem dX10_hearStatement_140 : decode cX10_hearStatement 140 = .ok (.invokevirtual 145, 3) := by decide +kernel
theorem dX10_hearStatement_143 : decode cX10_hearStatement 143 = .ok (.invokestatic 158, 3) := by decide +kernel
theorem dX10_hearStatement_146 : decode cX10_hearStatement 146 = .ok (.aload_n 1, 1) := by decide +kernel
theorem dX10_hearStatement_147 : decode cX10_hearStatement 147 = .ok (.iload_n 2, 1) := by decide +kernel
theorem dX10_hearStatement_148 : decode cX10_hearStatement 148 = .ok (.iconst 3, 1) := by decide +kernel
theorem dX10_hearStatement_149 : decode cX10_hearStatement 149 = .ok (.iadd, 1) := by decide +kernel
theorem dX10_hearStatement_150 : decode cX10_hearStatement 150 = .ok (.invokevirtual 145, 3) := by decide +kernel
theorem dX10_hearStatement_153 : decode cX10_hearStatement 153 = .ok (.aload_n 1, 1) := by decide +kernel
theorem dX10_hearStatement_154 : decode cX10_hearStatement 154 = .ok (.iload_n 2, 1) := by decide +kernel
theorem dX10_hearStatement_155 : decode cX10_hearStatement 155 = .ok (.iconst 4, 1) := by decide +kernel
theorem dX10_hearStatement_156 : decode cX10_hearStatement 156 = .ok (.iadd, 1) := by decide +kernel
theorem dX10_hearStatement_157 : decode cX10_hearStatement 157 = .ok (.invokevirtual 151, 3) := by decide +kernel
theorem dX10_hearStatement_160 : decode cX10_hearStatement 160 = .ok (.aload_n 1, 1) := by decide +kernel
theorem dX10_hearStatement_161 : decode cX10_hearStatement 161 = .ok (.iload_n 2, 1) := by decide +kernel
theorem dX10_hearStatement_162 : decode cX10_hearStatement 162 = .ok (.bipush 6, 2) := by decide +kernel
theorem dX10_hearStatement_164 : decode cX10_hearStatement 164 = .ok (.iadd, 1) := by decide +kernel
theorem dX10_hearStatement_165 : decode cX10_hearStatement 165 = .ok (.invokevirtual 148, 3) := by decide +kernel
theorem dX10_hearStatement_168 : decode cX10_hearStatement 168 = .ok (.aload_n 1, 1) := by decide +kernel
theorem dX10_hearStatement_169 : decode cX10_hearStatement 169 = .ok (.iload_n 2, 1) := by decide +kernel
theorem dX10_hearStatement_170 : decode cX10_hearStatement 170 = .ok (.bipush 8, 2) := by decide +kernel
theorem dX10_hearStatement_172 : decode cX10_hearStatement 172 = .ok (.iadd, 1) := by decide +kernel
theorem dX10_hearStatement_173 : decode cX10_hearStatement 173 = .ok (.invokevirtual 151, 3) := by decide +kernel
theorem dX10_hearStatement_176 : decode cX10_hearStatement 176 = .ok (.invokevirtual 162, 3) := by decide +kernel
theorem dX10_hearStatement_179 : decode cX10_hearStatement 179 = .ok (.ireturn, 1) := by decide +kernel
theorem dX10_hearStatement_180 : decode cX10_hearStatement 180 = .ok (.aload_n 0, 1) := by decide +kernel
theorem dX10_hearStatement_181 : decode cX10_hearStatement 181 = .ok (.aload_n 1, 1) := by decide +kernel
theorem dX10_hearStatement_182 : decode cX10_hearStatement 182 = .ok (.iload_n 2, 1) := by decide +kernel
theorem dX10_hearStatement_183 : decode cX10_hearStatement 183 = .ok (.iconst 1, 1) := by decide +kernel
theorem dX10_hearStatement_184 : decode cX10_hearStatement 184 = .ok (.iadd, 1) := by decide +kernel
theorem dX10_hearStatement_185 : decode cX10_hearStatement 185 = .ok (.invokevirtual 145, 3) := by decide +kernel
theorem dX10_hearStatement_188 : decode cX10_hearStatement 188 = .ok (.aload_n 1, 1) := by decide +kernel
theorem dX10_hearStatement_189 : decode cX10_hearStatement 189 = .ok (.iload_n 2, 1) := by decide +kernel
theorem dX10_hearStatement_190 : decode cX10_hearStatement 190 = .ok (.iconst 2, 1) := by decide +kernel
theorem dX10_hearStatement_191 : decode cX10_hearStatement 191 = .ok (.iadd, 1) := by decide +kernel
theorem dX10_hearStatement_192 : decode cX10_hearStatement 192 = .ok (.invokevirtual 145, 3) := by decide +kernel
theorem dX10_hearStatement_195 : decode cX10_hearStatement 195 = .ok (.invokevirtual 166, 3) := by decide +kernel
theorem dX10_hearStatement_198 : decode cX10_hearStatement 198 = .ok (.ireturn, 1) := by decide +kernel
theorem dX10_hearStatement_199 : decode cX10_hearStatement 199 = .ok (.aload_n 0, 1) := by decide +kernel
theorem dX10_hearStatement_200 : decode cX10_hearStatement 200 = .ok (.aload_n 1, 1) := by decide +kernel
theorem dX10_hearStatement_201 : decode cX10_hearStatement 201 = .ok (.iload_n 2, 1) := by decide +kernel
theorem dX10_hearStatement_202 : decode cX10_hearStatement 202 = .ok (.iconst 1, 1) := by decide +kernel
theorem dX10_hearStatement_203 : decode cX10_hearStatement 203 = .ok (.iadd, 1) := by decide +kernel
theorem dX10_hearStatement_204 : decode cX10_hearStatement 204 = .ok (.invokevirtual 145, 3) := by decide +kernel
theorem dX10_hearStatement_207 : decode cX10_hearStatement 207 = .ok (.aload_n 1, 1) := by decide +kernel
theorem dX10_hearStatement_208 : decode cX10_hearStatement 208 = .ok (.iload_n 2, 1) := by decide +kernel
theorem dX10_hearStatement_209 : decode cX10_hearStatement 209 = .ok (.iconst 2, 1) := by decide +kernel
theorem dX10_hearStatement_210 : decode cX10_hearStatement 210 = .ok (.iadd, 1) := by decide +kernel
theorem dX10_hearStatement_211 : decode cX10_hearStatement 211 = .ok (.invokevirtual 170, 3) := by decide +kernel
theorem dX10_hearStatement_214 : decode cX10_hearStatement 214 = .ok (.aload_n 1, 1) := by decide +kernel
theorem dX10_hearStatement_215 : decode cX10_hearStatement 215 = .ok (.iload_n 2, 1) := by decide +kernel
theorem dX10_hearStatement_216 : decode cX10_hearStatement 216 = .ok (.iconst 3, 1) := by decide +kernel
theorem dX10_hearStatement_217 : decode cX10_hearStatement 217 = .ok (.iadd, 1) := by decide +kernel
theorem dX10_hearStatement_218 : decode cX10_hearStatement 218 = .ok (.invokevirtual 151, 3) := by decide +kernel
theorem dX10_hearStatement_221 : decode cX10_hearStatement 221 = .ok (.aload_n 1, 1) := by decide +kernel
theorem dX10_hearStatement_222 : decode cX10_hearStatement 222 = .ok (.iload_n 2, 1) := by decide +kernel
theorem dX10_hearStatement_223 : decode cX10_hearStatement 223 = .ok (.iconst 5, 1) := by decide +kernel
theorem dX10_hearStatement_224 : decode cX10_hearStatement 224 = .ok (.iadd, 1) := by decide +kernel
theorem dX10_hearStatement_225 : decode cX10_hearStatement 225 = .ok (.invokevirtual 151, 3) := by decide +kernel
theorem dX10_hearStatement_228 : decode cX10_hearStatement 228 = .ok (.aload_n 1, 1) := by decide +kernel
theorem dX10_hearStatement_229 : decode cX10_hearStatement 229 = .ok (.iload_n 2, 1) := by decide +kernel
theorem dX10_hearStatement_230 : decode cX10_hearStatement 230 = .ok (.bipush 7, 2) := by decide +kernel
theorem dX10_hearStatement_232 : decode cX10_hearStatement 232 = .ok (.iadd, 1) := by decide +kernel
theorem dX10_hearStatement_233 : decode cX10_hearStatement 233 = .ok (.invokevirtual 151, 3) := by decide +kernel
theorem dX10_hearStatement_236 : decode cX10_hearStatement 236 = .ok (.invokevirtual 173, 3) := by decide +kernel
theorem dX10_hearStatement_239 : decode cX10_hearStatement 239 = .ok (.ireturn, 1) := by decide +kernel
theorem dX10_hearStatement_240 : decode cX10_hearStatement 240 = .ok (.aload_n 0, 1) := by decide +kernel
theorem dX10_hearStatement_241 : decode cX10_hearStatement 241 = .ok (.iconst 0, 1) := by decide +kernel
theorem dX10_hearStatement_242 : decode cX10_hearStatement 242 = .ok (.aload_n 1, 1) := by decide +kernel
theorem dX10_hearStatement_243 : decode cX10_hearStatement 243 = .ok (.iload_n 2, 1) := by decide +kernel
theorem dX10_hearStatement_244 : decode cX10_hearStatement 244 = .ok (.iconst 1, 1) := by decide +kernel
theorem dX10_hearStatement_245 : decode cX10_hearStatement 245 = .ok (.iadd, 1) := by decide +kernel
theorem dX10_hearStatement_246 : decode cX10_hearStatement 246 = .ok (.invokevirtual 151, 3) := by decide +kernel
theorem dX10_hearStatement_249 : decode cX10_hearStatement 249 = .ok (.invokevirtual 177, 3) := by decide +kernel
theorem dX10_hearStatement_252 : decode cX10_hearStatement 252 = .ok (.ireturn, 1) := by decide +kernel
theorem dX10_hearStatement_253 : decode cX10_hearStatement 253 = .ok (.aload_n 0, 1) := by decide +kernel
theorem dX10_hearStatement_254 : decode cX10_hearStatement 254 = .ok (.iconst 1, 1) := by decide +kernel
theorem dX10_hearStatement_255 : decode cX10_hearStatement 255 = .ok (.aload_n 1, 1) := by decide +kernel
theorem dX10_hearStatement_256 : decode cX10_hearStatement 256 = .ok (.iload_n 2, 1) := by decide +kernel
theorem dX10_hearStatement_257 : decode cX10_hearStatement 257 = .ok (.iconst 1, 1) := by decide +kernel
theorem dX10_hearStatement_258 : decode cX10_hearStatement 258 = .ok (.iadd, 1) := by decide +kernel
theorem dX10_hearStatement_259 : decode cX10_hearStatement 259 = .ok (.invokevirtual 145, 3) := by decide +kernel
theorem dX10_hearStatement_262 : decode cX10_hearStatement 262 = .ok (.invokevirtual 177, 3) := by decide +kernel
theorem dX10_hearStatement_265 : decode cX10_hearStatement 265 = .ok (.ireturn, 1) := by decide +kernel
theorem dX10_hearStatement_266 : decode cX10_hearStatement 266 = .ok (.aload_n 0, 1) := by decide +kernel
theorem dX10_hearStatement_267 : decode cX10_hearStatement 267 = .ok (.iconst 2, 1) := by decide +kernel
theorem dX10_hearStatement_268 : decode cX10_hearStatement 268 = .ok (.aload_n 1, 1) := by decide +kernel
theorem dX10_hearStatement_269 : decode cX10_hearStatement 269 = .ok (.iload_n 2, 1) := by decide +kernel
theorem dX10_hearStatement_270 : decode cX10_hearStatement 270 = .ok (.iconst 1, 1) := by decide +kernel
theorem dX10_hearStatement_271 : decode cX10_hearStatement 271 = .ok (.iadd, 1) := by decide +kernel
theorem dX10_hearStatement_272 : decode cX10_hearStatement 272 = .ok (.invokevirtual 145, 3) := by decide +kernel
theorem dX10_hearStatement_275 : decode cX10_hearStatement 275 = .ok (.invokevirtual 177, 3) := by decide +kernel
theorem dX10_hearStatement_278 : decode cX10_hearStatement 278 = .ok (.ireturn, 1) := by decide +kernel
theorem dX10_hearStatement_279 : decode cX10_hearStatement 279 = .ok (.bipush (-3), 2) := by decide +kernel
theorem dX10_hearStatement_281 : decode cX10_hearStatement 281 = .ok (.ireturn, 1) := by decide +kernel
def b_X10_hearStatement_0 (t : Nat) (u1 : Nat) (v2 : Int32) (S : St) : Option (Int32 × St) := (L_X8_at u1 v2 S).bind fun r1 => (if (r1 : Int32) = 100 then (L_X8_digitAt u1 (v2 + 1) S).bind fun r3 => (L_X10_changeRule t 1 r3 S).bind fun r4 => some (r4.1, r4.2) else if (r1 : Int32) = 101 then some ((-3), S) else if (r1 : Int32) = 102 then (L_X8_digitAt u1 (v2 + 1) S).bind fun r7 => (L_X8_signedAt u1 (v2 + 2) S).bind fun r8 => (L_X8_pairAt u1 (v2 + 4) S).bind fun r9 => (L_X10_addFact t r7 r8 r9 S).bind fun r10 => some (r10.1, r10.2) else if (r1 : Int32) = 103 then some ((-3), S) else if (r1 : Int32) = 104 then some ((-3), S) else if (r1 : Int32) = 105 then some ((-3), S) else if (r1 : Int32) = 106 then some ((-3), S) else if (r1 : Int32) = 107 then (L_X8_digitAt u1 (v2 + 1) S).bind fun r16 => (L_X8_digitAt u1 (v2 + 2) S).bind fun r17 => (L_X10_turnKin t r16 r17 S).bind fun r18 => some (r18.1, r18.2) else if (r1 : Int32) = 108 then some ((-3), S) else if (r1 : Int32) = 109 then some ((-3), S) else if (r1 : Int32) = 110 then some ((-3), S) else if (r1 : Int32) = 111 then (L_X8_pairAt u1 (v2 + 1) S).bind fun r23 => (L_X10_changeRule t 0 r23 S).bind fun r24 => some (r24.1, r24.2) else if (r1 : Int32) = 112 then (L_X8_digitAt u1 (v2 + 1) S).bind fun r26 => (if (r26 : Int32) ≤ 7 then (L_X8_digitAt u1 (v2 + 1) S).bind fun r28 => (L_X8_digitAt u1 (v2 + 2) S).bind fun r29 => (L_X11_oneOfKind r28 r29 S).bind fun r30 => (L_X8_digitAt u1 (v2 + 3) r30.2).bind fun r31 => (L_X8_pairAt u1 (v2 + 4) r30.2).bind fun r32 => (L_X8_signedAt u1 (v2 + 6) r30.2).bind fun r33 => (L_X8_pairAt u1 (v2 + 8) r30.2).bind fun r34 => (L_X10_addOne t r30.1 r31 r32 r33 r34 r30.2).bind fun r35 => some (r35.1, r35.2) else some ((-1), S)) else if (r1 : Int32) = 113 then some ((-3), S) else if (r1 : Int32) = 114 then (L_X8_digitAt u1 (v2 + 1) S).bind fun r38 => (L_X10_changeRule t 2 r38 S).bind fun r39 => some (r39.1, r39.2) else if (r1 : Int32) = 115 then some ((-3), S) else if (r1 : Int32) = 116 then (L_X8_digitAt u1 (v2 + 1) S).bind fun r42 => (L_X8_signAt u1 (v2 + 2) S).bind fun r43 => (L_X8_pairAt u1 (v2 + 3) S).bind fun r44 => (L_X8_pairAt u1 (v2 + 5) S).bind fun r45 => (L_X8_pairAt u1 (v2 + 7) S).bind fun r46 => (L_X10_addPlant t r42 r43 r44 r45 r46 S).bind fun r47 => some (r47.1, r47.2) else some ((-3), S))
def L_X10_hearStatement (t : Nat) (u1 : Nat) (a2 : Int32) (S : St) : Option (Int32 × St) := b_X10_hearStatement_0 t u1 a2 S
section WALKS
variable {p : Program} {e : Env} {s : State} {m : MethodId} {args : Array Value} {below : List Frame} {meth : Method} {c : Code} {D : va_G} {ct : Nat → ClassId} {B : Nat} {Hb : Heap}
set_option maxRecDepth 100000 in
set_option maxHeartbeats 4000000 in
theorem w_X10_hearStatement_0 (l : Launch) {V : Int32 × St} (C0 : XC D ct p s m args meth c cX10_hearStatement 3 (some .int) RX10) (t : Nat) (u1 : Nat) (ht : isTown t) (hu1 : isRow u1) (v2 : Int32) (S : St) {H : Heap} {locs : List Loc} {ls : Array Slot} {cells slots : Nat} (h : (b_X10_hearStatement_0 t u1 v2 S).bind some = some V) (hP : MP D ct B Hb S H) (hS : va_S (AB B) s.heap H locs) (hl : lv_has ls 3 [(0, .ref (B + t)), (1, .ref (B + u1)), (2, .int v2)]) (hc : cells + 1 ≤ 1 ∧ slots + 2 * 1 ≤ 2) : W p l e { frames := 5, cells := 1, slots := 2, locals := 107 } s m args below meth c H locs cells slots (MQ below (qIw D ct B Hb V) args s 1 2 (AB B)) (F0 m 0 ls []) := by
  obtain ⟨hx, hb, hr, hml, hown, hts, hK, hlocks, hN⟩ := id C0
  unfold b_X10_hearStatement_0 at h
  refine lv_aload_n hx hb dX10_hearStatement_0 rfl (lv_at hl 1 rfl) ?_
  refine lv_iload_n hx hb dX10_hearStatement_1 rfl (lv_at hl 2 rfl) ?_
  obtain ⟨r1, hr1, h⟩ := ob_bd h
  refine n_I (kV (As := [.int v2]) C0 (c_X8_at l u1 hu1 v2 hr1) ⟨wd_504, wd_501, wd_502, wd_503, wd_5⟩ kd_X8_at ⟨Nat.le_of_ble_eq_true rfl, Nat.le_of_ble_eq_true rfl⟩ hP (lay_X8 B ct S hu1) rfl rfl hl.1 rfl (Nat.le_of_ble_eq_true rfl) dX10_hearStatement_2 ⟨by show _ + _ ≤ 1; omega, by show _ + _ ≤ 2; omega⟩) hS (fun H locs hP hS => ?_)
  rcases Decidable.em ((r1 : Int32) = 100) with z2 | z2
  · have h := ob_t h z2
    refine lv_tableIn (x := r1) (off := 248) (tgt := 253) hx hb dX10_hearStatement_5 (by rw [z2]; decide) (by rw [z2]; decide) (by rw [z2]; decide) (by decide) ?_
    refine lv_aload_n hx hb dX10_hearStatement_253 rfl (lv_at hl 0 rfl) ?_
    refine lv_iconst (v := 1) hx hb dX10_hearStatement_254 (by decide) ?_
    refine lv_aload_n hx hb dX10_hearStatement_255 rfl (lv_at hl 1 rfl) ?_
    refine lv_iload_n hx hb dX10_hearStatement_256 rfl (lv_at hl 2 rfl) ?_
    refine lv_iconst (v := 1) hx hb dX10_hearStatement_257 (by decide) ?_
    refine lv_iadd hx hb dX10_hearStatement_258 ?_
    obtain ⟨r3, hr3, h⟩ := ob_bd h
    refine n_I (kV (As := [.int (v2 + 1)]) C0 (c_X8_digitAt l u1 hu1 (v2 + 1) hr3) ⟨wd_576, wd_573, wd_574, wd_575, wd_5⟩ kd_X8_digitAt ⟨Nat.le_of_ble_eq_true rfl, Nat.le_of_ble_eq_true rfl⟩ hP (lay_X8 B ct S hu1) rfl rfl hl.1 rfl (Nat.le_of_ble_eq_true rfl) dX10_hearStatement_259 ⟨by show _ + _ ≤ 1; omega, by show _ + _ ≤ 2; omega⟩) hS (fun H locs hP hS => ?_)
    obtain ⟨r4, hr4, h⟩ := ob_bd h
    refine n_Iw (kV (As := [.int 1, .int r3]) C0 (c_X10_changeRule l t ht 1 r3 hr4) ⟨wd_456, wd_600, wd_454, wd_455, wd_2⟩ kd_X10_changeRule ⟨Nat.le_of_ble_eq_true rfl, Nat.le_of_ble_eq_true rfl⟩ hP (lay_X10 B ct S ht) rfl rfl hl.1 rfl (Nat.le_of_ble_eq_true rfl) dX10_hearStatement_262 ⟨by show _ + _ ≤ 1; omega, by show _ + _ ≤ 2; omega⟩) hS (fun H locs hP hS => ?_)
    refine W.widen (k := 1) (n := 2) (by omega) (by omega) ?_
    exact r_Iw C0 hP hS h dX10_hearStatement_265
  · have h := ob_f h z2
    rcases Decidable.em ((r1 : Int32) = 101) with z5 | z5
    · have h := ob_t h z5
      refine lv_tableIn (x := r1) (off := 274) (tgt := 279) hx hb dX10_hearStatement_5 (by rw [z5]; decide) (by rw [z5]; decide) (by rw [z5]; decide) (by decide) ?_
      refine lv_bipush (v := (-3)) hx hb dX10_hearStatement_279 (by decide) ?_
      refine W.widen (k := 1) (n := 2) (by omega) (by omega) ?_
      exact r_Iw C0 hP hS h dX10_hearStatement_281
    · have h := ob_f h z5
      rcases Decidable.em ((r1 : Int32) = 102) with z6 | z6
      · have h := ob_t h z6
        refine lv_tableIn (x := r1) (off := 83) (tgt := 88) hx hb dX10_hearStatement_5 (by rw [z6]; decide) (by rw [z6]; decide) (by rw [z6]; decide) (by decide) ?_
        refine lv_aload_n hx hb dX10_hearStatement_88 rfl (lv_at hl 0 rfl) ?_
        refine lv_aload_n hx hb dX10_hearStatement_89 rfl (lv_at hl 1 rfl) ?_
        refine lv_iload_n hx hb dX10_hearStatement_90 rfl (lv_at hl 2 rfl) ?_
        refine lv_iconst (v := 1) hx hb dX10_hearStatement_91 (by decide) ?_
        refine lv_iadd hx hb dX10_hearStatement_92 ?_
        obtain ⟨r7, hr7, h⟩ := ob_bd h
        refine n_I (kV (As := [.int (v2 + 1)]) C0 (c_X8_digitAt l u1 hu1 (v2 + 1) hr7) ⟨wd_576, wd_573, wd_574, wd_575, wd_5⟩ kd_X8_digitAt ⟨Nat.le_of_ble_eq_true rfl, Nat.le_of_ble_eq_true rfl⟩ hP (lay_X8 B ct S hu1) rfl rfl hl.1 rfl (Nat.le_of_ble_eq_true rfl) dX10_hearStatement_93 ⟨by show _ + _ ≤ 1; omega, by show _ + _ ≤ 2; omega⟩) hS (fun H locs hP hS => ?_)
        refine lv_aload_n hx hb dX10_hearStatement_96 rfl (lv_at hl 1 rfl) ?_
        refine lv_iload_n hx hb dX10_hearStatement_97 rfl (lv_at hl 2 rfl) ?_
        refine lv_iconst (v := 2) hx hb dX10_hearStatement_98 (by decide) ?_
        refine lv_iadd hx hb dX10_hearStatement_99 ?_
        obtain ⟨r8, hr8, h⟩ := ob_bd h
        refine n_I (kV (As := [.int (v2 + 2)]) C0 (c_X8_signedAt l u1 hu1 (v2 + 2) hr8) ⟨wd_581, wd_578, wd_579, wd_580, wd_5⟩ kd_X8_signedAt ⟨Nat.le_of_ble_eq_true rfl, Nat.le_of_ble_eq_true rfl⟩ hP (lay_X8 B ct S hu1) rfl rfl hl.1 rfl (Nat.le_of_ble_eq_true rfl) dX10_hearStatement_100 ⟨by show _ + _ ≤ 1; omega, by show _ + _ ≤ 2; omega⟩) hS (fun H locs hP hS => ?_)
        refine lv_aload_n hx hb dX10_hearStatement_103 rfl (lv_at hl 1 rfl) ?_
        refine lv_iload_n hx hb dX10_hearStatement_104 rfl (lv_at hl 2 rfl) ?_
        refine lv_iconst (v := 4) hx hb dX10_hearStatement_105 (by decide) ?_
        refine lv_iadd hx hb dX10_hearStatement_106 ?_
        obtain ⟨r9, hr9, h⟩ := ob_bd h
        refine n_I (kV (As := [.int (v2 + 4)]) C0 (c_X8_pairAt l u1 hu1 (v2 + 4) hr9) ⟨wd_590, wd_587, wd_588, wd_589, wd_5⟩ kd_X8_pairAt ⟨Nat.le_of_ble_eq_true rfl, Nat.le_of_ble_eq_true rfl⟩ hP (lay_X8 B ct S hu1) rfl rfl hl.1 rfl (Nat.le_of_ble_eq_true rfl) dX10_hearStatement_107 ⟨by show _ + _ ≤ 1; omega, by show _ + _ ≤ 2; omega⟩) hS (fun H locs hP hS => ?_)
        obtain ⟨r10, hr10, h⟩ := ob_bd h
        refine n_Iw (kV (As := [.int r7, .int r8, .int r9]) C0 (c_X10_addFact l t ht r7 r8 r9 hr10) ⟨wd_335, wd_591, wd_333, wd_334, wd_2⟩ kd_X10_addFact ⟨Nat.le_of_ble_eq_true rfl, Nat.le_of_ble_eq_true rfl⟩ hP (lay_X10 B ct S ht) rfl rfl hl.1 rfl (Nat.le_of_ble_eq_true rfl) dX10_hearStatement_110 ⟨by show _ + _ ≤ 1; omega, by show _ + _ ≤ 2; omega⟩) hS (fun H locs hP hS => ?_)
        refine W.widen (k := 1) (n := 2) (by omega) (by omega) ?_
        exact r_Iw C0 hP hS h dX10_hearStatement_113
      · have h := ob_f h z6
        rcases Decidable.em ((r1 : Int32) = 103) with z11 | z11
        · have h := ob_t h z11
          refine lv_tableIn (x := r1) (off := 274) (tgt := 279) hx hb dX10_hearStatement_5 (by rw [z11]; decide) (by rw [z11]; decide) (by rw [z11]; decide) (by decide) ?_
          refine lv_bipush (v := (-3)) hx hb dX10_hearStatement_279 (by decide) ?_
          refine W.widen (k := 1) (n := 2) (by omega) (by omega) ?_
          exact r_Iw C0 hP hS h dX10_hearStatement_281
        · have h := ob_f h z11
          rcases Decidable.em ((r1 : Int32) = 104) with z12 | z12
          · have h := ob_t h z12
            refine lv_tableIn (x := r1) (off := 274) (tgt := 279) hx hb dX10_hearStatement_5 (by rw [z12]; decide) (by rw [z12]; decide) (by rw [z12]; decide) (by decide) ?_
            refine lv_bipush (v := (-3)) hx hb dX10_hearStatement_279 (by decide) ?_
            refine W.widen (k := 1) (n := 2) (by omega) (by omega) ?_
            exact r_Iw C0 hP hS h dX10_hearStatement_281
          · have h := ob_f h z12
            rcases Decidable.em ((r1 : Int32) = 105) with z13 | z13
            · have h := ob_t h z13
              refine lv_tableIn (x := r1) (off := 274) (tgt := 279) hx hb dX10_hearStatement_5 (by rw [z13]; decide) (by rw [z13]; decide) (by rw [z13]; decide) (by decide) ?_
              refine lv_bipush (v := (-3)) hx hb dX10_hearStatement_279 (by decide) ?_
              refine W.widen (k := 1) (n := 2) (by omega) (by omega) ?_
              exact r_Iw C0 hP hS h dX10_hearStatement_281
            · have h := ob_f h z13
              rcases Decidable.em ((r1 : Int32) = 106) with z14 | z14
              · have h := ob_t h z14
                refine lv_tableIn (x := r1) (off := 274) (tgt := 279) hx hb dX10_hearStatement_5 (by rw [z14]; decide) (by rw [z14]; decide) (by rw [z14]; decide) (by decide) ?_
                refine lv_bipush (v := (-3)) hx hb dX10_hearStatement_279 (by decide) ?_
                refine W.widen (k := 1) (n := 2) (by omega) (by omega) ?_
                exact r_Iw C0 hP hS h dX10_hearStatement_281
              · have h := ob_f h z14
                rcases Decidable.em ((r1 : Int32) = 107) with z15 | z15
                · have h := ob_t h z15
                  refine lv_tableIn (x := r1) (off := 175) (tgt := 180) hx hb dX10_hearStatement_5 (by rw [z15]; decide) (by rw [z15]; decide) (by rw [z15]; decide) (by decide) ?_
                  refine lv_aload_n hx hb dX10_hearStatement_180 rfl (lv_at hl 0 rfl) ?_
                  refine lv_aload_n hx hb dX10_hearStatement_181 rfl (lv_at hl 1 rfl) ?_
                  refine lv_iload_n hx hb dX10_hearStatement_182 rfl (lv_at hl 2 rfl) ?_
                  refine lv_iconst (v := 1) hx hb dX10_hearStatement_183 (by decide) ?_
                  refine lv_iadd hx hb dX10_hearStatement_184 ?_
                  obtain ⟨r16, hr16, h⟩ := ob_bd h
                  refine n_I (kV (As := [.int (v2 + 1)]) C0 (c_X8_digitAt l u1 hu1 (v2 + 1) hr16) ⟨wd_576, wd_573, wd_574, wd_575, wd_5⟩ kd_X8_digitAt ⟨Nat.le_of_ble_eq_true rfl, Nat.le_of_ble_eq_true rfl⟩ hP (lay_X8 B ct S hu1) rfl rfl hl.1 rfl (Nat.le_of_ble_eq_true rfl) dX10_hearStatement_185 ⟨by show _ + _ ≤ 1; omega, by show _ + _ ≤ 2; omega⟩) hS (fun H locs hP hS => ?_)
                  refine lv_aload_n hx hb dX10_hearStatement_188 rfl (lv_at hl 1 rfl) ?_
                  refine lv_iload_n hx hb dX10_hearStatement_189 rfl (lv_at hl 2 rfl) ?_
                  refine lv_iconst (v := 2) hx hb dX10_hearStatement_190 (by decide) ?_
                  refine lv_iadd hx hb dX10_hearStatement_191 ?_
                  obtain ⟨r17, hr17, h⟩ := ob_bd h
                  refine n_I (kV (As := [.int (v2 + 2)]) C0 (c_X8_digitAt l u1 hu1 (v2 + 2) hr17) ⟨wd_576, wd_573, wd_574, wd_575, wd_5⟩ kd_X8_digitAt ⟨Nat.le_of_ble_eq_true rfl, Nat.le_of_ble_eq_true rfl⟩ hP (lay_X8 B ct S hu1) rfl rfl hl.1 rfl (Nat.le_of_ble_eq_true rfl) dX10_hearStatement_192 ⟨by show _ + _ ≤ 1; omega, by show _ + _ ≤ 2; omega⟩) hS (fun H locs hP hS => ?_)
                  obtain ⟨r18, hr18, h⟩ := ob_bd h
                  refine n_Iw (kV (As := [.int r16, .int r17]) C0 (c_X10_turnKin l t ht r16 r17 hr18) ⟨wd_444, wd_594, wd_442, wd_443, wd_2⟩ kd_X10_turnKin ⟨Nat.le_of_ble_eq_true rfl, Nat.le_of_ble_eq_true rfl⟩ hP (lay_X10 B ct S ht) rfl rfl hl.1 rfl (Nat.le_of_ble_eq_true rfl) dX10_hearStatement_195 ⟨by show _ + _ ≤ 1; omega, by show _ + _ ≤ 2; omega⟩) hS (fun H locs hP hS => ?_)
                  refine W.widen (k := 1) (n := 2) (by omega) (by omega) ?_
                  exact r_Iw C0 hP hS h dX10_hearStatement_198
                · have h := ob_f h z15
                  rcases Decidable.em ((r1 : Int32) = 108) with z19 | z19
                  · have h := ob_t h z19
                    refine lv_tableIn (x := r1) (off := 274) (tgt := 279) hx hb dX10_hearStatement_5 (by rw [z19]; decide) (by rw [z19]; decide) (by rw [z19]; decide) (by decide) ?_
                    refine lv_bipush (v := (-3)) hx hb dX10_hearStatement_279 (by decide) ?_
                    refine W.widen (k := 1) (n := 2) (by omega) (by omega) ?_
                    exact r_Iw C0 hP hS h dX10_hearStatement_281
                  · have h := ob_f h z19
                    rcases Decidable.em ((r1 : Int32) = 109) with z20 | z20
                    · have h := ob_t h z20
                      refine lv_tableIn (x := r1) (off := 274) (tgt := 279) hx hb dX10_hearStatement_5 (by rw [z20]; decide) (by rw [z20]; decide) (by rw [z20]; decide) (by decide) ?_
                      refine lv_bipush (v := (-3)) hx hb dX10_hearStatement_279 (by decide) ?_
                      refine W.widen (k := 1) (n := 2) (by omega) (by omega) ?_
                      exact r_Iw C0 hP hS h dX10_hearStatement_281
                    · have h := ob_f h z20
                      rcases Decidable.em ((r1 : Int32) = 110) with z21 | z21
                      · have h := ob_t h z21
                        refine lv_tableIn (x := r1) (off := 274) (tgt := 279) hx hb dX10_hearStatement_5 (by rw [z21]; decide) (by rw [z21]; decide) (by rw [z21]; decide) (by decide) ?_
                        refine lv_bipush (v := (-3)) hx hb dX10_hearStatement_279 (by decide) ?_
                        refine W.widen (k := 1) (n := 2) (by omega) (by omega) ?_
                        exact r_Iw C0 hP hS h dX10_hearStatement_281
                      · have h := ob_f h z21
                        rcases Decidable.em ((r1 : Int32) = 111) with z22 | z22
                        · have h := ob_t h z22
                          refine lv_tableIn (x := r1) (off := 235) (tgt := 240) hx hb dX10_hearStatement_5 (by rw [z22]; decide) (by rw [z22]; decide) (by rw [z22]; decide) (by decide) ?_
                          refine lv_aload_n hx hb dX10_hearStatement_240 rfl (lv_at hl 0 rfl) ?_
                          refine lv_iconst (v := 0) hx hb dX10_hearStatement_241 (by decide) ?_
                          refine lv_aload_n hx hb dX10_hearStatement_242 rfl (lv_at hl 1 rfl) ?_
                          refine lv_iload_n hx hb dX10_hearStatement_243 rfl (lv_at hl 2 rfl) ?_
                          refine lv_iconst (v := 1) hx hb dX10_hearStatement_244 (by decide) ?_
                          refine lv_iadd hx hb dX10_hearStatement_245 ?_
                          obtain ⟨r23, hr23, h⟩ := ob_bd h
                          refine n_I (kV (As := [.int (v2 + 1)]) C0 (c_X8_pairAt l u1 hu1 (v2 + 1) hr23) ⟨wd_590, wd_587, wd_588, wd_589, wd_5⟩ kd_X8_pairAt ⟨Nat.le_of_ble_eq_true rfl, Nat.le_of_ble_eq_true rfl⟩ hP (lay_X8 B ct S hu1) rfl rfl hl.1 rfl (Nat.le_of_ble_eq_true rfl) dX10_hearStatement_246 ⟨by show _ + _ ≤ 1; omega, by show _ + _ ≤ 2; omega⟩) hS (fun H locs hP hS => ?_)
                          obtain ⟨r24, hr24, h⟩ := ob_bd h
                          refine n_Iw (kV (As := [.int 0, .int r23]) C0 (c_X10_changeRule l t ht 0 r23 hr24) ⟨wd_456, wd_600, wd_454, wd_455, wd_2⟩ kd_X10_changeRule ⟨Nat.le_of_ble_eq_true rfl, Nat.le_of_ble_eq_true rfl⟩ hP (lay_X10 B ct S ht) rfl rfl hl.1 rfl (Nat.le_of_ble_eq_true rfl) dX10_hearStatement_249 ⟨by show _ + _ ≤ 1; omega, by show _ + _ ≤ 2; omega⟩) hS (fun H locs hP hS => ?_)
                          refine W.widen (k := 1) (n := 2) (by omega) (by omega) ?_
                          exact r_Iw C0 hP hS h dX10_hearStatement_252
                        · have h := ob_f h z22
                          rcases Decidable.em ((r1 : Int32) = 112) with z25 | z25
                          · have h := ob_t h z25
                            refine lv_tableIn (x := r1) (off := 109) (tgt := 114) hx hb dX10_hearStatement_5 (by rw [z25]; decide) (by rw [z25]; decide) (by rw [z25]; decide) (by decide) ?_
                            refine lv_aload_n hx hb dX10_hearStatement_114 rfl (lv_at hl 1 rfl) ?_
                            refine lv_iload_n hx hb dX10_hearStatement_115 rfl (lv_at hl 2 rfl) ?_
                            refine lv_iconst (v := 1) hx hb dX10_hearStatement_116 (by decide) ?_
                            refine lv_iadd hx hb dX10_hearStatement_117 ?_
                            obtain ⟨r26, hr26, h⟩ := ob_bd h
                            refine n_I (kV (As := [.int (v2 + 1)]) C0 (c_X8_digitAt l u1 hu1 (v2 + 1) hr26) ⟨wd_576, wd_573, wd_574, wd_575, wd_5⟩ kd_X8_digitAt ⟨Nat.le_of_ble_eq_true rfl, Nat.le_of_ble_eq_true rfl⟩ hP (lay_X8 B ct S hu1) rfl rfl hl.1 rfl (Nat.le_of_ble_eq_true rfl) dX10_hearStatement_118 ⟨by show _ + _ ≤ 1; omega, by show _ + _ ≤ 2; omega⟩) hS (fun H locs hP hS => ?_)
                            refine lv_bipush (v := 7) hx hb dX10_hearStatement_121 (by decide) ?_
                            refine lv_icmp_le (tgt := 128) hx hb dX10_hearStatement_123 (by decide) (fun z27 => ?_) (fun z27 => ?_)
                            · have h := ob_t h z27
                              refine lv_aload_n hx hb dX10_hearStatement_128 rfl (lv_at hl 0 rfl) ?_
                              refine lv_aload_n hx hb dX10_hearStatement_129 rfl (lv_at hl 1 rfl) ?_
                              refine lv_iload_n hx hb dX10_hearStatement_130 rfl (lv_at hl 2 rfl) ?_
                              refine lv_iconst (v := 1) hx hb dX10_hearStatement_131 (by decide) ?_
                              refine lv_iadd hx hb dX10_hearStatement_132 ?_
                              obtain ⟨r28, hr28, h⟩ := ob_bd h
                              refine n_I (kV (As := [.int (v2 + 1)]) C0 (c_X8_digitAt l u1 hu1 (v2 + 1) hr28) ⟨wd_576, wd_573, wd_574, wd_575, wd_5⟩ kd_X8_digitAt ⟨Nat.le_of_ble_eq_true rfl, Nat.le_of_ble_eq_true rfl⟩ hP (lay_X8 B ct S hu1) rfl rfl hl.1 rfl (Nat.le_of_ble_eq_true rfl) dX10_hearStatement_133 ⟨by show _ + _ ≤ 1; omega, by show _ + _ ≤ 2; omega⟩) hS (fun H locs hP hS => ?_)
                              refine lv_aload_n hx hb dX10_hearStatement_136 rfl (lv_at hl 1 rfl) ?_
                              refine lv_iload_n hx hb dX10_hearStatement_137 rfl (lv_at hl 2 rfl) ?_
                              refine lv_iconst (v := 2) hx hb dX10_hearStatement_138 (by decide) ?_
                              refine lv_iadd hx hb dX10_hearStatement_139 ?_
                              obtain ⟨r29, hr29, h⟩ := ob_bd h
                              refine n_I (kV (As := [.int (v2 + 2)]) C0 (c_X8_digitAt l u1 hu1 (v2 + 2) hr29) ⟨wd_576, wd_573, wd_574, wd_575, wd_5⟩ kd_X8_digitAt ⟨Nat.le_of_ble_eq_true rfl, Nat.le_of_ble_eq_true rfl⟩ hP (lay_X8 B ct S hu1) rfl rfl hl.1 rfl (Nat.le_of_ble_eq_true rfl) dX10_hearStatement_140 ⟨by show _ + _ ≤ 1; omega, by show _ + _ ≤ 2; omega⟩) hS (fun H locs hP hS => ?_)
                              obtain ⟨r30, hr30, h⟩ := ob_bd h
                              refine n_R (kN (host := "ThoughtBetterOf") (As := [.int r28, .int r29]) C0 (c_X11_oneOfKind l r28 r29 hr30) ⟨wd_357, nw_oneOfKind, wd_356, wd_1⟩ kd_X11_oneOfKind ⟨Nat.le_of_ble_eq_true rfl, Nat.le_of_ble_eq_true rfl⟩ hP rfl hl.1 rfl (Nat.le_of_ble_eq_true rfl) dX10_hearStatement_143 ⟨by show _ + _ ≤ 1; omega, by show _ + _ ≤ 2; omega⟩) hS (fun H locs hP hS => ?_)
                              refine lv_aload_n hx hb dX10_hearStatement_146 rfl (lv_at hl 1 rfl) ?_
                              refine lv_iload_n hx hb dX10_hearStatement_147 rfl (lv_at hl 2 rfl) ?_
                              refine lv_iconst (v := 3) hx hb dX10_hearStatement_148 (by decide) ?_
                              refine lv_iadd hx hb dX10_hearStatement_149 ?_
                              obtain ⟨r31, hr31, h⟩ := ob_bd h
                              refine n_I (kV (As := [.int (v2 + 3)]) C0 (c_X8_digitAt l u1 hu1 (v2 + 3) hr31) ⟨wd_576, wd_573, wd_574, wd_575, wd_5⟩ kd_X8_digitAt ⟨Nat.le_of_ble_eq_true rfl, Nat.le_of_ble_eq_true rfl⟩ hP (lay_X8 B ct r30.2 hu1) rfl rfl hl.1 rfl (Nat.le_of_ble_eq_true rfl) dX10_hearStatement_150 ⟨by show _ + _ ≤ 1; omega, by show _ + _ ≤ 2; omega⟩) hS (fun H locs hP hS => ?_)
                              refine lv_aload_n hx hb dX10_hearStatement_153 rfl (lv_at hl 1 rfl) ?_
                              refine lv_iload_n hx hb dX10_hearStatement_154 rfl (lv_at hl 2 rfl) ?_
                              refine lv_iconst (v := 4) hx hb dX10_hearStatement_155 (by decide) ?_
                              refine lv_iadd hx hb dX10_hearStatement_156 ?_
                              obtain ⟨r32, hr32, h⟩ := ob_bd h
                              refine n_I (kV (As := [.int (v2 + 4)]) C0 (c_X8_pairAt l u1 hu1 (v2 + 4) hr32) ⟨wd_590, wd_587, wd_588, wd_589, wd_5⟩ kd_X8_pairAt ⟨Nat.le_of_ble_eq_true rfl, Nat.le_of_ble_eq_true rfl⟩ hP (lay_X8 B ct r30.2 hu1) rfl rfl hl.1 rfl (Nat.le_of_ble_eq_true rfl) dX10_hearStatement_157 ⟨by show _ + _ ≤ 1; omega, by show _ + _ ≤ 2; omega⟩) hS (fun H locs hP hS => ?_)
                              refine lv_aload_n hx hb dX10_hearStatement_160 rfl (lv_at hl 1 rfl) ?_
                              refine lv_iload_n hx hb dX10_hearStatement_161 rfl (lv_at hl 2 rfl) ?_
                              refine lv_bipush (v := 6) hx hb dX10_hearStatement_162 (by decide) ?_
                              refine lv_iadd hx hb dX10_hearStatement_164 ?_
                              obtain ⟨r33, hr33, h⟩ := ob_bd h
                              refine n_I (kV (As := [.int (v2 + 6)]) C0 (c_X8_signedAt l u1 hu1 (v2 + 6) hr33) ⟨wd_581, wd_578, wd_579, wd_580, wd_5⟩ kd_X8_signedAt ⟨Nat.le_of_ble_eq_true rfl, Nat.le_of_ble_eq_true rfl⟩ hP (lay_X8 B ct r30.2 hu1) rfl rfl hl.1 rfl (Nat.le_of_ble_eq_true rfl) dX10_hearStatement_165 ⟨by show _ + _ ≤ 1; omega, by show _ + _ ≤ 2; omega⟩) hS (fun H locs hP hS => ?_)
                              refine lv_aload_n hx hb dX10_hearStatement_168 rfl (lv_at hl 1 rfl) ?_
                              refine lv_iload_n hx hb dX10_hearStatement_169 rfl (lv_at hl 2 rfl) ?_
                              refine lv_bipush (v := 8) hx hb dX10_hearStatement_170 (by decide) ?_
                              refine lv_iadd hx hb dX10_hearStatement_172 ?_
                              obtain ⟨r34, hr34, h⟩ := ob_bd h
                              refine n_I (kV (As := [.int (v2 + 8)]) C0 (c_X8_pairAt l u1 hu1 (v2 + 8) hr34) ⟨wd_590, wd_587, wd_588, wd_589, wd_5⟩ kd_X8_pairAt ⟨Nat.le_of_ble_eq_true rfl, Nat.le_of_ble_eq_true rfl⟩ hP (lay_X8 B ct r30.2 hu1) rfl rfl hl.1 rfl (Nat.le_of_ble_eq_true rfl) dX10_hearStatement_173 ⟨by show _ + _ ≤ 1; omega, by show _ + _ ≤ 2; omega⟩) hS (fun H locs hP hS => ?_)
                              obtain ⟨r35, hr35, h⟩ := ob_bd h
                              refine n_Iw (kV (As := [.ref (B + r30.1), .int r31, .int r32, .int r33, .int r34]) C0 (c_X10_addOne l t r30.1 ht r31 r32 r33 r34 hr35) ⟨wd_435, wd_593, wd_433, wd_434, wd_2⟩ kd_X10_addOne ⟨Nat.le_of_ble_eq_true rfl, Nat.le_of_ble_eq_true rfl⟩ hP (lay_X10 B ct r30.2 ht) rfl rfl hl.1 rfl (Nat.le_of_ble_eq_true rfl) dX10_hearStatement_176 ⟨by show _ + _ ≤ 1; omega, by show _ + _ ≤ 2; omega⟩) hS (fun H locs hP hS => ?_)
                              refine W.widen (k := 1) (n := 2) (by omega) (by omega) ?_
                              exact r_Iw C0 hP hS h dX10_hearStatement_179
                            · have h := ob_f h z27
                              refine lv_iconst (v := (-1)) hx hb dX10_hearStatement_126 (by decide) ?_
                              refine W.widen (k := 1) (n := 2) (by omega) (by omega) ?_
                              exact r_Iw C0 hP hS h dX10_hearStatement_127
                          · have h := ob_f h z25
                            rcases Decidable.em ((r1 : Int32) = 113) with z36 | z36
                            · have h := ob_t h z36
                              refine lv_tableIn (x := r1) (off := 274) (tgt := 279) hx hb dX10_hearStatement_5 (by rw [z36]; decide) (by rw [z36]; decide) (by rw [z36]; decide) (by decide) ?_
                              refine lv_bipush (v := (-3)) hx hb dX10_hearStatement_279 (by decide) ?_
                              refine W.widen (k := 1) (n := 2) (by omega) (by omega) ?_
                              exact r_Iw C0 hP hS h dX10_hearStatement_281
                            · have h := ob_f h z36
                              rcases Decidable.em ((r1 : Int32) = 114) with z37 | z37
                              · have h := ob_t h z37
                                refine lv_tableIn (x := r1) (off := 261) (tgt := 266) hx hb dX10_hearStatement_5 (by rw [z37]; decide) (by rw [z37]; decide) (by rw [z37]; decide) (by decide) ?_
                                refine lv_aload_n hx hb dX10_hearStatement_266 rfl (lv_at hl 0 rfl) ?_
                                refine lv_iconst (v := 2) hx hb dX10_hearStatement_267 (by decide) ?_
                                refine lv_aload_n hx hb dX10_hearStatement_268 rfl (lv_at hl 1 rfl) ?_
                                refine lv_iload_n hx hb dX10_hearStatement_269 rfl (lv_at hl 2 rfl) ?_
                                refine lv_iconst (v := 1) hx hb dX10_hearStatement_270 (by decide) ?_
                                refine lv_iadd hx hb dX10_hearStatement_271 ?_
                                obtain ⟨r38, hr38, h⟩ := ob_bd h
                                refine n_I (kV (As := [.int (v2 + 1)]) C0 (c_X8_digitAt l u1 hu1 (v2 + 1) hr38) ⟨wd_576, wd_573, wd_574, wd_575, wd_5⟩ kd_X8_digitAt ⟨Nat.le_of_ble_eq_true rfl, Nat.le_of_ble_eq_true rfl⟩ hP (lay_X8 B ct S hu1) rfl rfl hl.1 rfl (Nat.le_of_ble_eq_true rfl) dX10_hearStatement_272 ⟨by show _ + _ ≤ 1; omega, by show _ + _ ≤ 2; omega⟩) hS (fun H locs hP hS => ?_)
                                obtain ⟨r39, hr39, h⟩ := ob_bd h
                                refine n_Iw (kV (As := [.int 2, .int r38]) C0 (c_X10_changeRule l t ht 2 r38 hr39) ⟨wd_456, wd_600, wd_454, wd_455, wd_2⟩ kd_X10_changeRule ⟨Nat.le_of_ble_eq_true rfl, Nat.le_of_ble_eq_true rfl⟩ hP (lay_X10 B ct S ht) rfl rfl hl.1 rfl (Nat.le_of_ble_eq_true rfl) dX10_hearStatement_275 ⟨by show _ + _ ≤ 1; omega, by show _ + _ ≤ 2; omega⟩) hS (fun H locs hP hS => ?_)
                                refine W.widen (k := 1) (n := 2) (by omega) (by omega) ?_
                                exact r_Iw C0 hP hS h dX10_hearStatement_278
                              · have h := ob_f h z37
                                rcases Decidable.em ((r1 : Int32) = 115) with z40 | z40
                                · have h := ob_t h z40
                                  refine lv_tableIn (x := r1) (off := 274) (tgt := 279) hx hb dX10_hearStatement_5 (by rw [z40]; decide) (by rw [z40]; decide) (by rw [z40]; decide) (by decide) ?_
                                  refine lv_bipush (v := (-3)) hx hb dX10_hearStatement_279 (by decide) ?_
                                  refine W.widen (k := 1) (n := 2) (by omega) (by omega) ?_
                                  exact r_Iw C0 hP hS h dX10_hearStatement_281
                                · have h := ob_f h z40
                                  rcases Decidable.em ((r1 : Int32) = 116) with z41 | z41
                                  · have h := ob_t h z41
                                    refine lv_tableIn (x := r1) (off := 194) (tgt := 199) hx hb dX10_hearStatement_5 (by rw [z41]; decide) (by rw [z41]; decide) (by rw [z41]; decide) (by decide) ?_
                                    refine lv_aload_n hx hb dX10_hearStatement_199 rfl (lv_at hl 0 rfl) ?_
                                    refine lv_aload_n hx hb dX10_hearStatement_200 rfl (lv_at hl 1 rfl) ?_
                                    refine lv_iload_n hx hb dX10_hearStatement_201 rfl (lv_at hl 2 rfl) ?_
                                    refine lv_iconst (v := 1) hx hb dX10_hearStatement_202 (by decide) ?_
                                    refine lv_iadd hx hb dX10_hearStatement_203 ?_
                                    obtain ⟨r42, hr42, h⟩ := ob_bd h
                                    refine n_I (kV (As := [.int (v2 + 1)]) C0 (c_X8_digitAt l u1 hu1 (v2 + 1) hr42) ⟨wd_576, wd_573, wd_574, wd_575, wd_5⟩ kd_X8_digitAt ⟨Nat.le_of_ble_eq_true rfl, Nat.le_of_ble_eq_true rfl⟩ hP (lay_X8 B ct S hu1) rfl rfl hl.1 rfl (Nat.le_of_ble_eq_true rfl) dX10_hearStatement_204 ⟨by show _ + _ ≤ 1; omega, by show _ + _ ≤ 2; omega⟩) hS (fun H locs hP hS => ?_)
                                    refine lv_aload_n hx hb dX10_hearStatement_207 rfl (lv_at hl 1 rfl) ?_
                                    refine lv_iload_n hx hb dX10_hearStatement_208 rfl (lv_at hl 2 rfl) ?_
                                    refine lv_iconst (v := 2) hx hb dX10_hearStatement_209 (by decide) ?_
                                    refine lv_iadd hx hb dX10_hearStatement_210 ?_
                                    obtain ⟨r43, hr43, h⟩ := ob_bd h
                                    refine n_I (kV (As := [.int (v2 + 2)]) C0 (c_X8_signAt l u1 hu1 (v2 + 2) hr43) ⟨wd_585, wd_595, wd_583, wd_584, wd_5⟩ kd_X8_signAt ⟨Nat.le_of_ble_eq_true rfl, Nat.le_of_ble_eq_true rfl⟩ hP (lay_X8 B ct S hu1) rfl rfl hl.1 rfl (Nat.le_of_ble_eq_true rfl) dX10_hearStatement_211 ⟨by show _ + _ ≤ 1; omega, by show _ + _ ≤ 2; omega⟩) hS (fun H locs hP hS => ?_)
                                    refine lv_aload_n hx hb dX10_hearStatement_214 rfl (lv_at hl 1 rfl) ?_
                                    refine lv_iload_n hx hb dX10_hearStatement_215 rfl (lv_at hl 2 rfl) ?_
                                    refine lv_iconst (v := 3) hx hb dX10_hearStatement_216 (by decide) ?_
                                    refine lv_iadd hx hb dX10_hearStatement_217 ?_
                                    obtain ⟨r44, hr44, h⟩ := ob_bd h
                                    refine n_I (kV (As := [.int (v2 + 3)]) C0 (c_X8_pairAt l u1 hu1 (v2 + 3) hr44) ⟨wd_590, wd_587, wd_588, wd_589, wd_5⟩ kd_X8_pairAt ⟨Nat.le_of_ble_eq_true rfl, Nat.le_of_ble_eq_true rfl⟩ hP (lay_X8 B ct S hu1) rfl rfl hl.1 rfl (Nat.le_of_ble_eq_true rfl) dX10_hearStatement_218 ⟨by show _ + _ ≤ 1; omega, by show _ + _ ≤ 2; omega⟩) hS (fun H locs hP hS => ?_)
                                    refine lv_aload_n hx hb dX10_hearStatement_221 rfl (lv_at hl 1 rfl) ?_
                                    refine lv_iload_n hx hb dX10_hearStatement_222 rfl (lv_at hl 2 rfl) ?_
                                    refine lv_iconst (v := 5) hx hb dX10_hearStatement_223 (by decide) ?_
                                    refine lv_iadd hx hb dX10_hearStatement_224 ?_
                                    obtain ⟨r45, hr45, h⟩ := ob_bd h
                                    refine n_I (kV (As := [.int (v2 + 5)]) C0 (c_X8_pairAt l u1 hu1 (v2 + 5) hr45) ⟨wd_590, wd_587, wd_588, wd_589, wd_5⟩ kd_X8_pairAt ⟨Nat.le_of_ble_eq_true rfl, Nat.le_of_ble_eq_true rfl⟩ hP (lay_X8 B ct S hu1) rfl rfl hl.1 rfl (Nat.le_of_ble_eq_true rfl) dX10_hearStatement_225 ⟨by show _ + _ ≤ 1; omega, by show _ + _ ≤ 2; omega⟩) hS (fun H locs hP hS => ?_)
                                    refine lv_aload_n hx hb dX10_hearStatement_228 rfl (lv_at hl 1 rfl) ?_
                                    refine lv_iload_n hx hb dX10_hearStatement_229 rfl (lv_at hl 2 rfl) ?_
                                    refine lv_bipush (v := 7) hx hb dX10_hearStatement_230 (by decide) ?_
                                    refine lv_iadd hx hb dX10_hearStatement_232 ?_
                                    obtain ⟨r46, hr46, h⟩ := ob_bd h
                                    refine n_I (kV (As := [.int (v2 + 7)]) C0 (c_X8_pairAt l u1 hu1 (v2 + 7) hr46) ⟨wd_590, wd_587, wd_588, wd_589, wd_5⟩ kd_X8_pairAt ⟨Nat.le_of_ble_eq_true rfl, Nat.le_of_ble_eq_true rfl⟩ hP (lay_X8 B ct S hu1) rfl rfl hl.1 rfl (Nat.le_of_ble_eq_true rfl) dX10_hearStatement_233 ⟨by show _ + _ ≤ 1; omega, by show _ + _ ≤ 2; omega⟩) hS (fun H locs hP hS => ?_)
                                    obtain ⟨r47, hr47, h⟩ := ob_bd h
                                    refine n_Iw (kV (As := [.int r42, .int r43, .int r44, .int r45, .int r46]) C0 (c_X10_addPlant l t ht r42 r43 r44 r45 r46 hr47) ⟨wd_599, wd_596, wd_597, wd_598, wd_2⟩ kd_X10_addPlant ⟨Nat.le_of_ble_eq_true rfl, Nat.le_of_ble_eq_true rfl⟩ hP (lay_X10 B ct S ht) rfl rfl hl.1 rfl (Nat.le_of_ble_eq_true rfl) dX10_hearStatement_236 ⟨by show _ + _ ≤ 1; omega, by show _ + _ ≤ 2; omega⟩) hS (fun H locs hP hS => ?_)
                                    refine W.widen (k := 1) (n := 2) (by omega) (by omega) ?_
                                    exact r_Iw C0 hP hS h dX10_hearStatement_239
                                  · have h := ob_f h z41
                                    refine lv_tableOut (x := r1) (tgt := 279) hx hb dX10_hearStatement_5 (sw_100_17 z2 z5 z6 z11 z12 z13 z14 z15 z19 z20 z21 z22 z25 z36 z37 z40 z41) (by decide) ?_
                                    refine lv_bipush (v := (-3)) hx hb dX10_hearStatement_279 (by decide) ?_
                                    refine W.widen (k := 1) (n := 2) (by omega) (by omega) ?_
                                    exact r_Iw C0 hP hS h dX10_hearStatement_281
set_option maxRecDepth 100000 in
set_option maxHeartbeats 4000000 in
theorem c_X10_hearStatement (l : Launch) (t : Nat) (u1 : Nat) (ht : isTown t) (hu1 : isRow u1) (a2 : Int32) {D : va_G} {ct : Nat → ClassId} {B : Nat} {Hb : Heap} {S : St} {V : Int32 × St} (h : L_X10_hearStatement t u1 a2 S = some V) : Met l yX10_hearStatement (Cond.code yX10_hearStatement cX10_hearStatement 3 (some .int) :: tG) { frames := 5, cells := 1, slots := 2, locals := 107 } (va_Pc [.ref (B + t), .ref (B + u1), .int a2] (MPK D ct B Hb S)) (qIw D ct B Hb V) 1 2 (AB B) := by
  refine mk_met (by decide +kernel) (Nat.le_of_ble_eq_true rfl) (fun p e s m args below meth c ls C0 hP hl _ => ?_)
  have h := ob_of h
  exact w_X10_hearStatement_0 l C0 t u1 ht hu1 a2 S h hP va_S.rf (lv_sub hl [0, 1, 2] rfl) ⟨by omega, by omega⟩
end WALKS
