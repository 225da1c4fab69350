theorem dX8_init_0 : decode cX8_init 0 = .ok (.aload_n 0, 1) := by decide +kernel
theorem dX8_init_1 : decode cX8_init 1 = .ok (.invokespecial 3, 3) := by decide +kernel
theorem dX8_init_4 : decode cX8_init 4 = .ok (.aload_n 0, 1) := by decide +kernel
theorem dX8_init_5 : decode cX8_init 5 = .ok (.iconst 0, 1) := by decide +kernel
theorem dX8_init_6 : decode cX8_init 6 = .ok (.putfield 9, 3) := by decide +kernel
theorem dX8_init_9 : decode cX8_init 9 = .ok (.aload_n 0, 1) := by decide +kernel
theorem dX8_init_10 : decode cX8_init 10 = .ok (.iconst 0, 1) := by decide +kernel
theorem dX8_init_11 : decode cX8_init 11 = .ok (.putfield 15, 3) := by decide +kernel
theorem dX8_init_14 : decode cX8_init 14 = .ok (.aload_n 0, 1) := by decide +kernel
theorem dX8_init_15 : decode cX8_init 15 = .ok (.bipush 100, 2) := by decide +kernel
theorem dX8_init_17 : decode cX8_init 17 = .ok (.newarray .int, 2) := by decide +kernel
theorem dX8_init_19 : decode cX8_init 19 = .ok (.putfield 18, 3) := by decide +kernel
theorem dX8_init_22 : decode cX8_init 22 = .ok (.return_, 1) := by decide +kernel
theorem dX10_init_0 : decode cX10_init 0 = .ok (.aload_n 0, 1) := by decide +kernel
theorem dX10_init_1 : decode cX10_init 1 = .ok (.invokespecial 3, 3) := by decide +kernel
theorem dX10_init_4 : decode cX10_init 4 = .ok (.aload_n 0, 1) := by decide +kernel
theorem dX10_init_5 : decode cX10_init 5 = .ok (.iconst 0, 1) := by decide +kernel
theorem dX10_init_6 : decode cX10_init 6 = .ok (.putfield 9, 3) := by decide +kernel
theorem dX10_init_9 : decode cX10_init 9 = .ok (.aload_n 0, 1) := by decide +kernel
theorem dX10_init_10 : decode cX10_init 10 = .ok (.bipush 8, 2) := by decide +kernel
theorem dX10_init_12 : decode cX10_init 12 = .ok (.anewarray 15, 3) := by decide +kernel
theorem dX10_init_15 : decode cX10_init 15 = .ok (.putfield 17, 3) := by decide +kernel
theorem dX10_init_18 : decode cX10_init 18 = .ok (.new 15, 3) := by decide +kernel
theorem dX10_init_21 : decode cX10_init 21 = .ok (.dup, 1) := by decide +kernel
theorem dX10_init_22 : decode cX10_init 22 = .ok (.iconst 0, 1) := by decide +kernel
theorem dX10_init_23 : decode cX10_init 23 = .ok (.iconst 0, 1) := by decide +kernel
theorem dX10_init_24 : decode cX10_init 24 = .ok (.invokespecial 21, 3) := by decide +kernel
theorem dX10_init_27 : decode cX10_init 27 = .ok (.astore_n 1, 1) := by decide +kernel
theorem dX10_init_28 : decode cX10_init 28 = .ok (.iconst 0, 1) := by decide +kernel
theorem dX10_init_29 : decode cX10_init 29 = .ok (.istore_n 2, 1) := by decide +kernel
theorem dX10_init_30 : decode cX10_init 30 = .ok (.iload_n 2, 1) := by decide +kernel
theorem dX10_init_31 : decode cX10_init 31 = .ok (.bipush 8, 2) := by decide +kernel
theorem dX10_init_33 : decode cX10_init 33 = .ok (.if_icmp .ge 16, 3) := by decide +kernel
theorem dX10_init_36 : decode cX10_init 36 = .ok (.aload_n 0, 1) := by decide +kernel
theorem dX10_init_37 : decode cX10_init 37 = .ok (.getfield 17, 3) := by decide +kernel
theorem dX10_init_40 : decode cX10_init 40 = .ok (.iload_n 2, 1) := by decide +kernel
theorem dX10_init_41 : decode cX10_init 41 = .ok (.aload_n 1, 1) := by decide +kernel
theorem dX10_init_42 : decode cX10_init 42 = .ok (.aastore, 1) := by decide +kernel
theorem dX10_init_43 : decode cX10_init 43 = .ok (.iinc 2 1, 3) := by decide +kernel
theorem dX10_init_46 : decode cX10_init 46 = .ok (.goto (-16), 3) := by decide +kernel
theorem dX10_init_49 : decode cX10_init 49 = .ok (.aload_n 0, 1) := by decide +kernel
theorem dX10_init_50 : decode cX10_init 50 = .ok (.bipush 8, 2) := by decide +kernel
theorem dX10_init_52 : decode cX10_init 52 = .ok (.newarray .int, 2) := by decide +kernel
theorem dX10_init_54 : decode cX10_init 54 = .ok (.putfield 24, 3) := by decide +kernel
theorem dX10_init_57 : decode cX10_init 57 = .ok (.aload_n 0, 1) := by decide +kernel
theorem dX10_init_58 : decode cX10_init 58 = .ok (.bipush 8, 2) := by decide +kernel
theorem dX10_init_60 : decode cX10_init 60 = .ok (.newarray .int, 2) := by decide +kernel
theorem dX10_init_62 : decode cX10_init 62 = .ok (.putfield 28, 3) := by decide +kernel
theorem dX10_init_65 : decode cX10_init 65 = .ok (.aload_n 0, 1) := by decide +kernel
theorem dX10_init_66 : decode cX10_init 66 = .ok (.bipush 8, 2) := by decide +kernel
theorem dX10_init_68 : decode cX10_init 68 = .ok (.newarray .int, 2) := by decide +kernel
theorem dX10_init_70 : decode cX10_init 70 = .ok (.putfield 31, 3) := by decide +kernel
theorem dX10_init_73 : decode cX10_init 73 = .ok (.aload_n 0, 1) := by decide +kernel
theorem dX10_init_74 : decode cX10_init 74 = .ok (.bipush 8, 2) := by decide +kernel
theorem dX10_init_76 : decode cX10_init 76 = .ok (.newarray .int, 2) := by decide +kernel
theorem dX10_init_78 : decode cX10_init 78 = .ok (.putfield 34, 3) := by decide +kernel
theorem dX10_init_81 : decode cX10_init 81 = .ok (.aload_n 0, 1) := by decide +kernel
theorem dX10_init_82 : decode cX10_init 82 = .ok (.iconst 0, 1) := by decide +kernel
theorem dX10_init_83 : decode cX10_init 83 = .ok (.putfield 37, 3) := by decide +kernel
theorem dX10_init_86 : decode cX10_init 86 = .ok (.aload_n 0, 1) := by decide +kernel
theorem dX10_init_87 : decode cX10_init 87 = .ok (.bipush 6, 2) := by decide +kernel
theorem dX10_init_89 : decode cX10_init 89 = .ok (.newarray .int, 2) := by decide +kernel
theorem dX10_init_91 : decode cX10_init 91 = .ok (.putfield 40, 3) := by decide +kernel
theorem dX10_init_94 : decode cX10_init 94 = .ok (.aload_n 0, 1) := by decide +kernel
theorem dX10_init_95 : decode cX10_init 95 = .ok (.bipush 6, 2) := by decide +kernel
theorem dX10_init_97 : decode cX10_init 97 = .ok (.newarray .int, 2) := by decide +kernel
theorem dX10_init_99 : decode cX10_init 99 = .ok (.putfield 43, 3) := by decide +kernel
theorem dX10_init_102 : decode cX10_init 102 = .ok (.aload_n 0, 1) := by decide +kernel
theorem dX10_init_103 : decode cX10_init 103 = .ok (.bipush 6, 2) := by decide +kernel
theorem dX10_init_105 : decode cX10_init 105 = .ok (.newarray .int, 2) := by decide +kernel
theorem dX10_init_107 : decode cX10_init 107 = .ok (.putfield 46, 3) := by decide +kernel
theorem dX10_init_110 : decode cX10_init 110 = .ok (.aload_n 0, 1) := by decide +kernel
theorem dX10_init_111 : decode cX10_init 111 = .ok (.bipush 6, 2) := by decide +kernel
theorem dX10_init_113 : decode cX10_init 113 = .ok (.newarray .int, 2) := by decide +kernel
theorem dX10_init_115 : decode cX10_init 115 = .ok (.putfield 49, 3) := by decide +kernel
theorem dX10_init_118 : decode cX10_init 118 = .ok (.aload_n 0, 1) := by decide +kernel
theorem dX10_init_119 : decode cX10_init 119 = .ok (.iconst 0, 1) := by decide +kernel
theorem dX10_init_120 : decode cX10_init 120 = .ok (.putfield 52, 3) := by decide +kernel
theorem dX10_init_123 : decode cX10_init 123 = .ok (.aload_n 0, 1) := by decide +kernel
theorem dX10_init_124 : decode cX10_init 124 = .ok (.iconst 3, 1) := by decide +kernel
theorem dX10_init_125 : decode cX10_init 125 = .ok (.newarray .int, 2) := by decide +kernel
theorem dX10_init_127 : decode cX10_init 127 = .ok (.putfield 55, 3) := by decide +kernel
theorem dX10_init_130 : decode cX10_init 130 = .ok (.aload_n 0, 1) := by decide +kernel
theorem dX10_init_131 : decode cX10_init 131 = .ok (.iconst 3, 1) := by decide +kernel
theorem dX10_init_132 : decode cX10_init 132 = .ok (.newarray .int, 2) := by decide +kernel
theorem dX10_init_134 : decode cX10_init 134 = .ok (.putfield 58, 3) := by decide +kernel
theorem dX10_init_137 : decode cX10_init 137 = .ok (.aload_n 0, 1) := by decide +kernel
theorem dX10_init_138 : decode cX10_init 138 = .ok (.iconst 3, 1) := by decide +kernel
theorem dX10_init_139 : decode cX10_init 139 = .ok (.newarray .int, 2) := by decide +kernel
theorem dX10_init_141 : decode cX10_init 141 = .ok (.putfield 61, 3) := by decide +kernel
theorem dX10_init_144 : decode cX10_init 144 = .ok (.aload_n 0, 1) := by decide +kernel
theorem dX10_init_145 : decode cX10_init 145 = .ok (.iconst 3, 1) := by decide +kernel
theorem dX10_init_146 : decode cX10_init 146 = .ok (.newarray .int, 2) := by decide +kernel
theorem dX10_init_148 : decode cX10_init 148 = .ok (.putfield 64, 3) := by decide +kernel
theorem dX10_init_151 : decode cX10_init 151 = .ok (.aload_n 0, 1) := by decide +kernel
theorem dX10_init_152 : decode cX10_init 152 = .ok (.iconst 3, 1) := by decide +kernel
theorem dX10_init_153 : decode cX10_init 153 = .ok (.newarray .int, 2) := by decide +kernel
theorem dX10_init_155 : decode cX10_init 155 = .ok (.putfield 67, 3) := by decide +kernel
theorem dX10_init_158 : decode cX10_init 158 = .ok (.aload_n 0, 1) := by decide +kernel
theorem dX10_init_159 : decode cX10_init 159 = .ok (.iconst 4, 1) := by decide +kernel
theorem dX10_init_160 : decode cX10_init 160 = .ok (.newarray .int, 2) := by decide +kernel
theorem dX10_init_162 : decode cX10_init 162 = .ok (.dup, 1) := by decide +kernel
theorem dX10_init_163 : decode cX10_init 163 = .ok (.iconst 0, 1) := by decide +kernel
theorem dX10_init_164 : decode cX10_init 164 = .ok (.iconst 1, 1) := by decide +kernel
theorem dX10_init_165 : decode cX10_init 165 = .ok (.iastore, 1) := by decide +kernel
theorem dX10_init_166 : decode cX10_init 166 = .ok (.dup, 1) := by decide +kernel
theorem dX10_init_167 : decode cX10_init 167 = .ok (.iconst 1, 1) := by decide +kernel
theorem dX10_init_168 : decode cX10_init 168 = .ok (.iconst 2, 1) := by decide +kernel
theorem dX10_init_169 : decode cX10_init 169 = .ok (.iastore, 1) := by decide +kernel
theorem dX10_init_170 : decode cX10_init 170 = .ok (.dup, 1) := by decide +kernel
theorem dX10_init_171 : decode cX10_init 171 = .ok (.iconst 2, 1) := by decide +kernel
theorem dX10_init_172 : decode cX10_init 172 = .ok (.iconst 4, 1) := by decide +kernel
theorem dX10_init_173 : decode cX10_init 173 = .ok (.iastore, 1) := by decide +kernel
theorem dX10_init_174 : decode cX10_init 174 = .ok (.dup, 1) := by decide +kernel
theorem dX10_init_175 : decode cX10_init 175 = .ok (.iconst 3, 1) := by decide +kernel
theorem dX10_init_176 : decode cX10_init 176 = .ok (.bipush 8, 2) := by decide +kernel
theorem dX10_init_178 : decode cX10_init 178 = .ok (.iastore, 1) := by decide +kernel
theorem dX10_init_179 : decode cX10_init 179 = .ok (.putfield 70, 3) := by decide +kernel
theorem dX10_init_182 : decode cX10_init 182 = .ok (.aload_n 0, 1) := by decide +kernel
theorem dX10_init_183 : decode cX10_init 183 = .ok (.iconst 3, 1) := by decide +kernel
theorem dX10_init_184 : decode cX10_init 184 = .ok (.newarray .int, 2) := by decide +kernel
theorem dX10_init_186 : decode cX10_init 186 = .ok (.dup, 1) := by decide +kernel
theorem dX10_init_187 : decode cX10_init 187 = .ok (.iconst 0, 1) := by decide +kernel
theorem dX10_init_188 : decode cX10_init 188 = .ok (.bipush 15, 2) := by decide +kernel
theorem dX10_init_190 : decode cX10_init 190 = .ok (.iastore, 1) := by decide +kernel
theorem dX10_init_191 : decode cX10_init 191 = .ok (.dup, 1) := by decide +kernel
theorem dX10_init_192 : decode cX10_init 192 = .ok (.iconst 1, 1) := by decide +kernel
theorem dX10_init_193 : decode cX10_init 193 = .ok (.iconst 1, 1) := by decide +kernel
theorem dX10_init_194 : decode cX10_init 194 = .ok (.iastore, 1) := by decide +kernel
theorem dX10_init_195 : decode cX10_init 195 = .ok (.dup, 1) := by decide +kernel
theorem dX10_init_196 : decode cX10_init 196 = .ok (.iconst 2, 1) := by decide +kernel
theorem dX10_init_197 : decode cX10_init 197 = .ok (.iconst 4, 1) := by decide +kernel
theorem dX10_init_198 : decode cX10_init 198 = .ok (.iastore, 1) := by decide +kernel
theorem dX10_init_199 : decode cX10_init 199 = .ok (.putfield 73, 3) := by decide +kernel
theorem dX10_init_202 : decode cX10_init 202 = .ok (.return_, 1) := by decide +kernel
abbrev cells_X8 (ct : Nat → ClassId) (b : Nat) : List va_E := [.inr (8, [.int 0, .int 0, .ref (b + 1)]), .inl (ct 0, 100, .inl (fun _ => 0))]
abbrev cells_X10 (ct : Nat → ClassId) (b : Nat) : List va_E := [.inr (10, [.int 0, .ref (b + 1), .ref (b + 3), .ref (b + 4), .ref (b + 5), .ref (b + 6), .int 0, .ref (b + 7), .ref (b + 8), .ref (b + 9), .ref (b + 10), .int 0, .ref (b + 11), .ref (b + 12), .ref (b + 13), .ref (b + 14), .ref (b + 15), .ref (b + 16), .ref (b + 17)]), .inl (ct 3, 8, .inr (.inr (.inr (.inr (va_up (va_up (va_up (va_up (va_up (va_up (va_up (va_up (fun _ => none) 0 (some (b + 2))) 1 (some (b + 2))) 2 (some (b + 2))) 3 (some (b + 2))) 4 (some (b + 2))) 5 (some (b + 2))) 6 (some (b + 2))) 7 (some (b + 2))))))), .inr (7, [.int 0, .int 0]), .inl (ct 0, 8, .inl (fun _ => 0)), .inl (ct 0, 8, .inl (fun _ => 0)), .inl (ct 0, 8, .inl (fun _ => 0)), .inl (ct 0, 8, .inl (fun _ => 0)), .inl (ct 0, 6, .inl (fun _ => 0)), .inl (ct 0, 6, .inl (fun _ => 0)), .inl (ct 0, 6, .inl (fun _ => 0)), .inl (ct 0, 6, .inl (fun _ => 0)), .inl (ct 0, 3, .inl (fun _ => 0)), .inl (ct 0, 3, .inl (fun _ => 0)), .inl (ct 0, 3, .inl (fun _ => 0)), .inl (ct 0, 3, .inl (fun _ => 0)), .inl (ct 0, 3, .inl (fun _ => 0)), .inl (ct 0, 4, .inl (upd (upd (upd (upd (fun _ => 0) 0 1) 1 2) 2 4) 3 8)), .inl (ct 0, 3, .inl (upd (upd (upd (fun _ => 0) 0 15) 1 1) 2 4))]
section CTORS
variable {D : va_G} {ct : Nat → ClassId}
set_option maxRecDepth 100000 in
set_option maxHeartbeats 4000000 in
theorem n_X8 (l : Launch) (b : Nat) : Met l yX8_init (Cond.code yX8_init cX8_init 1 none :: tG) { frames := 1, cells := 1, slots := 100, locals := 20 } (va_Pc [.ref b] (RPK D ct b [.inr (8, [.int 0, .int 0, .null])])) (va_Qv (fun (_ : Unit) => True) (fun _ t => RPK D ct b [.inr (8, [.int 0, .int 0, .ref (b + 1)]), .inl (ct 0, 100, .inl (fun _ => 0))] t) (AB b)) 1 100 (AB b) := by
  refine mk_metR (by decide +kernel) (Nat.le_of_ble_eq_true rfl) (fun p e s m args below meth c ls C0 hP hl hin => ?_)
  have hS : va_S (AB b) s.heap s.heap [] := va_S.rf
  have hl : lv_has ls 1 [(0, .ref (b + 0))] := hl
  have hin : meth.name = "<init>" := hin
  obtain ⟨hx, hb, hr, hml, hown, hts, hK, hlocks, hNs⟩ := id C0
  refine lv_aload_n hx hb dX8_init_0 rfl (lv_at hl 0 rfl) ?_
  refine W.objInit hx hb hown (hts _ wd_197) (hts _ wd_27) (hts _ wd_28) rfl (by rw [hml]; exact hl.1) rfl dX8_init_1 (Nat.le_of_ble_eq_true rfl) (Nat.le_of_ble_eq_true rfl) ?_
  refine W.eq (g2 := F0 m 4 ls []) rfl ?_
  refine lv_aload_n hx hb dX8_init_4 rfl (lv_at hl 0 rfl) ?_
  refine lv_iconst (v := 0) hx hb dX8_init_5 (by decide) ?_
  refine y_put (k := 0) C0 hP hS rfl rfl inG8 tyX8 tyX8_ok nmX8 0 (by decide) wd_198 (Or.inl rfl) rfl rfl (Nat.le_of_ble_eq_true rfl) dX8_init_6 (fun H locs hP hS => ?_)
  have hP : RP D b [.inr (8, [.int 0, .int 0, .null])] _ := hP
  refine lv_aload_n hx hb dX8_init_9 rfl (lv_at hl 0 rfl) ?_
  refine lv_iconst (v := 0) hx hb dX8_init_10 (by decide) ?_
  refine y_put (k := 0) C0 hP hS rfl rfl inG8 tyX8 tyX8_ok nmX8 1 (by decide) wd_200 (Or.inl rfl) rfl rfl (Nat.le_of_ble_eq_true rfl) dX8_init_11 (fun H locs hP hS => ?_)
  have hP : RP D b [.inr (8, [.int 0, .int 0, .null])] _ := hP
  refine lv_aload_n hx hb dX8_init_14 rfl (lv_at hl 0 rfl) ?_
  refine lv_bipush (v := 100) hx hb dX8_init_15 (by decide) ?_
  refine y_newa (atype := .int) (ty := .int) (q := 0) (N := 100) (a0 := (100, .inl (fun _ => 0))) C0 hP hS rfl wd_142 rfl (by simp) (fun _ => rfl) (by decide) (by decide) (Nat.le_of_ble_eq_true rfl) (Nat.le_of_ble_eq_true rfl) (Nat.le_of_ble_eq_true rfl) (n := 1) rfl dX8_init_17 (fun H hP hS => ?_)
  refine y_put (k := 0) C0 hP hS rfl rfl inG8 tyX8 tyX8_ok nmX8 2 (by decide) wd_202 (Or.inr ⟨hin, rfl⟩) rfl rfl (Nat.le_of_ble_eq_true rfl) dX8_init_19 (fun H locs hP hS => ?_)
  have hP : RP D b [.inr (8, [.int 0, .int 0, .ref (b + 1)]), .inl (ct 0, 100, .inl (fun _ => 0))] _ := hP
  exact y_ret C0 hP hS dX8_init_22
set_option maxRecDepth 100000 in
set_option maxHeartbeats 4000000 in
theorem n_X10 (l : Launch) (b : Nat) : Met l yX10_init (Cond.code yX10_init cX10_init 3 none :: tG) { frames := 2, cells := 17, slots := 88, locals := 42 } (va_Pc [.ref b] (RPK D ct b [.inr (10, [.int 0, .null, .null, .null, .null, .null, .int 0, .null, .null, .null, .null, .int 0, .null, .null, .null, .null, .null, .null, .null])])) (va_Qv (fun (_ : Unit) => True) (fun _ t => RPK D ct b [.inr (10, [.int 0, .ref (b + 1), .ref (b + 3), .ref (b + 4), .ref (b + 5), .ref (b + 6), .int 0, .ref (b + 7), .ref (b + 8), .ref (b + 9), .ref (b + 10), .int 0, .ref (b + 11), .ref (b + 12), .ref (b + 13), .ref (b + 14), .ref (b + 15), .ref (b + 16), .ref (b + 17)]), .inl (ct 3, 8, .inr (.inr (.inr (.inr (va_up (va_up (va_up (va_up (va_up (va_up (va_up (va_up (fun _ => none) 0 (some (b + 2))) 1 (some (b + 2))) 2 (some (b + 2))) 3 (some (b + 2))) 4 (some (b + 2))) 5 (some (b + 2))) 6 (some (b + 2))) 7 (some (b + 2))))))), .inr (7, [.int 0, .int 0]), .inl (ct 0, 8, .inl (fun _ => 0)), .inl (ct 0, 8, .inl (fun _ => 0)), .inl (ct 0, 8, .inl (fun _ => 0)), .inl (ct 0, 8, .inl (fun _ => 0)), .inl (ct 0, 6, .inl (fun _ => 0)), .inl (ct 0, 6, .inl (fun _ => 0)), .inl (ct 0, 6, .inl (fun _ => 0)), .inl (ct 0, 6, .inl (fun _ => 0)), .inl (ct 0, 3, .inl (fun _ => 0)), .inl (ct 0, 3, .inl (fun _ => 0)), .inl (ct 0, 3, .inl (fun _ => 0)), .inl (ct 0, 3, .inl (fun _ => 0)), .inl (ct 0, 3, .inl (fun _ => 0)), .inl (ct 0, 4, .inl (upd (upd (upd (upd (fun _ => 0) 0 1) 1 2) 2 4) 3 8)), .inl (ct 0, 3, .inl (upd (upd (upd (fun _ => 0) 0 15) 1 1) 2 4))] t) (AB b)) 17 88 (AB b) := by
  refine mk_metR (by decide +kernel) (Nat.le_of_ble_eq_true rfl) (fun p e s m args below meth c ls C0 hP hl hin => ?_)
  have hS : va_S (AB b) s.heap s.heap [] := va_S.rf
  have hl : lv_has ls 3 [(0, .ref (b + 0))] := hl
  have hin : meth.name = "<init>" := hin
  obtain ⟨hx, hb, hr, hml, hown, hts, hK, hlocks, hNs⟩ := id C0
  refine lv_aload_n hx hb dX10_init_0 rfl (lv_at hl 0 rfl) ?_
  refine W.objInit hx hb hown (hts _ wd_40) (hts _ wd_27) (hts _ wd_28) rfl (by rw [hml]; exact hl.1) rfl dX10_init_1 (Nat.le_of_ble_eq_true rfl) (Nat.le_of_ble_eq_true rfl) ?_
  refine W.eq (g2 := F0 m 4 ls []) rfl ?_
  refine lv_aload_n hx hb dX10_init_4 rfl (lv_at hl 0 rfl) ?_
  refine lv_iconst (v := 0) hx hb dX10_init_5 (by decide) ?_
  refine y_put (k := 0) C0 hP hS rfl rfl inG10 tyX10 tyX10_ok nmX10 0 (by decide) wd_59 (Or.inl rfl) rfl rfl (Nat.le_of_ble_eq_true rfl) dX10_init_6 (fun H locs hP hS => ?_)
  have hP : RP D b [.inr (10, [.int 0, .null, .null, .null, .null, .null, .int 0, .null, .null, .null, .null, .int 0, .null, .null, .null, .null, .null, .null, .null])] _ := hP
  refine lv_aload_n hx hb dX10_init_9 rfl (lv_at hl 0 rfl) ?_
  refine lv_bipush (v := 8) hx hb dX10_init_10 (by decide) ?_
  refine y_newq (q := 3) (N := 8) (C := RX7) C0 hP hS wd_41 hNs.2.1 rfl (by decide) (by decide) (Nat.le_of_ble_eq_true rfl) (Nat.le_of_ble_eq_true rfl) (Nat.le_of_ble_eq_true rfl) (n := 1) rfl dX10_init_12 (fun H hP hS => ?_)
  refine y_put (k := 0) C0 hP hS rfl rfl inG10 tyX10 tyX10_ok nmX10 1 (by decide) wd_62 (Or.inr ⟨hin, rfl⟩) rfl rfl (Nat.le_of_ble_eq_true rfl) dX10_init_15 (fun H locs hP hS => ?_)
  have hP : RP D b [.inr (10, [.int 0, .ref (b + 1), .null, .null, .null, .null, .int 0, .null, .null, .null, .null, .int 0, .null, .null, .null, .null, .null, .null, .null]), .inl (ct 3, 8, .inr (.inr (.inr (.inr (fun _ => none)))))] _ := hP
  refine y_new (ci := 7) (fs := [.int 0, .int 0]) C0 hP hS rfl inG7 tyX7 tyX7_ok ⟨wd_41, wd_43, wd_3⟩ (fun j hj => by rcases (show j = 0 ∨ j = 1 by omega) with rfl | rfl <;> rfl) (Nat.le_of_ble_eq_true rfl) (Nat.le_of_ble_eq_true rfl) (n := 2) rfl dX10_init_18 (fun H hP hS => ?_)
  refine lv_dup hx hb dX10_init_21 rfl ?_
  refine lv_iconst (v := 0) hx hb dX10_init_22 (by decide) ?_
  refine lv_iconst (v := 0) hx hb dX10_init_23 (by decide) ?_
  have hP : RP D b ([.inr (10, [.int 0, .ref (b + 1), .null, .null, .null, .null, .int 0, .null, .null, .null, .null, .int 0, .null, .null, .null, .null, .null, .null, .null]), .inl (ct 3, 8, .inr (.inr (.inr (.inr (fun _ => none)))))] ++ [.inr (7, [.int 0, .int 0])]) _ := hP
  refine y_ctor (k := 2) (Y1 := [.inr (10, [.int 0, .ref (b + 1), .null, .null, .null, .null, .int 0, .null, .null, .null, .null, .int 0, .null, .null, .null, .null, .null, .null, .null]), .inl (ct 3, 8, .inr (.inr (.inr (.inr (fun _ => none)))))]) (As := [.int 0, .int 0]) C0 (n_X7_on_7 l (b + 2) 0 0) ⟨wd_46, wd_44, wd_45, wd_3⟩ ⟨rfl, kd_X7_init.2⟩ ⟨Nat.le_of_ble_eq_true rfl, Nat.le_of_ble_eq_true rfl⟩ hP rfl rfl hl.1 rfl (Nat.le_of_ble_eq_true rfl) dX10_init_24 ⟨Nat.le_of_ble_eq_true rfl, Nat.le_of_ble_eq_true rfl⟩ hS (fun H locs hP hS => ?_)
  have hP : RP D b [.inr (10, [.int 0, .ref (b + 1), .null, .null, .null, .null, .int 0, .null, .null, .null, .null, .int 0, .null, .null, .null, .null, .null, .null, .null]), .inl (ct 3, 8, .inr (.inr (.inr (.inr (fun _ => none))))), .inr (7, [.int 0, .int 0])] _ := hP
  refine lv_astore_n (lv' := [(1, .ref (b + 2)), (0, .ref (b + 0))]) hx hb dX10_init_27 rfl hl (by decide) rfl (fun ls hl => ?_)
  refine lv_iconst (v := 0) hx hb dX10_init_28 (by decide) ?_
  refine lv_istore_n (lv' := [(2, .int 0), (1, .ref (b + 2)), (0, .ref (b + 0))]) hx hb dX10_init_29 rfl hl (by decide) rfl (fun ls hl => ?_)
  refine lv_iload_n hx hb dX10_init_30 rfl (lv_at hl 0 rfl) ?_
  refine lv_bipush (v := 8) hx hb dX10_init_31 (by decide) ?_
  refine lv_icmp_ge (tgt := 49) hx hb dX10_init_33 (by decide) (fun z => absurd z (by decide)) (fun _ => ?_)
  refine lv_aload_n hx hb dX10_init_36 rfl (lv_at hl 2 rfl) ?_
  refine y_get (k := 0) C0 hP rfl rfl inG10 1 (by decide) wd_62 rfl dX10_init_37 ?_
  refine lv_iload_n hx hb dX10_init_40 rfl (lv_at hl 0 rfl) ?_
  refine lv_aload_n hx hb dX10_init_41 rfl (lv_at hl 1 rfl) ?_
  refine y_aast (k := 1) (q := 2) (t0 := 3) C0 hP hS rfl rfl rfl rfl (by decide) dX10_init_42 (fun H locs hP hS => ?_)
  have hP : RP D b [.inr (10, [.int 0, .ref (b + 1), .null, .null, .null, .null, .int 0, .null, .null, .null, .null, .int 0, .null, .null, .null, .null, .null, .null, .null]), .inl (ct 3, 8, .inr (.inr (.inr (.inr (va_up (fun _ => none) 0 (some (b + 2))))))), .inr (7, [.int 0, .int 0])] _ := hP
  refine lv_iinc (v := 1) (lv' := [(2, .int 1), (1, .ref (b + 2)), (0, .ref (b + 0))]) hx hb dX10_init_43 hl (k := 0) rfl (by decide) (by decide) rfl (fun ls hl => ?_)
  refine lv_goto (tgt := 30) hx hb dX10_init_46 (by decide) ?_
  refine lv_iload_n hx hb dX10_init_30 rfl (lv_at hl 0 rfl) ?_
  refine lv_bipush (v := 8) hx hb dX10_init_31 (by decide) ?_
  refine lv_icmp_ge (tgt := 49) hx hb dX10_init_33 (by decide) (fun z => absurd z (by decide)) (fun _ => ?_)
  refine lv_aload_n hx hb dX10_init_36 rfl (lv_at hl 2 rfl) ?_
  refine y_get (k := 0) C0 hP rfl rfl inG10 1 (by decide) wd_62 rfl dX10_init_37 ?_
  refine lv_iload_n hx hb dX10_init_40 rfl (lv_at hl 0 rfl) ?_
  refine lv_aload_n hx hb dX10_init_41 rfl (lv_at hl 1 rfl) ?_
  refine y_aast (k := 1) (q := 2) (t0 := 3) C0 hP hS rfl rfl rfl rfl (by decide) dX10_init_42 (fun H locs hP hS => ?_)
  have hP : RP D b [.inr (10, [.int 0, .ref (b + 1), .null, .null, .null, .null, .int 0, .null, .null, .null, .null, .int 0, .null, .null, .null, .null, .null, .null, .null]), .inl (ct 3, 8, .inr (.inr (.inr (.inr (va_up (va_up (fun _ => none) 0 (some (b + 2))) 1 (some (b + 2))))))), .inr (7, [.int 0, .int 0])] _ := hP
  refine lv_iinc (v := 2) (lv' := [(2, .int 2), (1, .ref (b + 2)), (0, .ref (b + 0))]) hx hb dX10_init_43 hl (k := 0) rfl (by decide) (by decide) rfl (fun ls hl => ?_)
  refine lv_goto (tgt := 30) hx hb dX10_init_46 (by decide) ?_
  refine lv_iload_n hx hb dX10_init_30 rfl (lv_at hl 0 rfl) ?_
  refine lv_bipush (v := 8) hx hb dX10_init_31 (by decide) ?_
  refine lv_icmp_ge (tgt := 49) hx hb dX10_init_33 (by decide) (fun z => absurd z (by decide)) (fun _ => ?_)
  refine lv_aload_n hx hb dX10_init_36 rfl (lv_at hl 2 rfl) ?_
  refine y_get (k := 0) C0 hP rfl rfl inG10 1 (by decide) wd_62 rfl dX10_init_37 ?_
  refine lv_iload_n hx hb dX10_init_40 rfl (lv_at hl 0 rfl) ?_
  refine lv_aload_n hx hb dX10_init_41 rfl (lv_at hl 1 rfl) ?_
  refine y_aast (k := 1) (q := 2) (t0 := 3) C0 hP hS rfl rfl rfl rfl (by decide) dX10_init_42 (fun H locs hP hS => ?_)
  have hP : RP D b [.inr (10, [.int 0, .ref (b + 1), .null, .null, .null, .null, .int 0, .null, .null, .null, .null, .int 0, .null, .null, .null, .null, .null, .null, .null]), .inl (ct 3, 8, .inr (.inr (.inr (.inr (va_up (va_up (va_up (fun _ => none) 0 (some (b + 2))) 1 (some (b + 2))) 2 (some (b + 2))))))), .inr (7, [.int 0, .int 0])] _ := hP
  refine lv_iinc (v := 3) (lv' := [(2, .int 3), (1, .ref (b + 2)), (0, .ref (b + 0))]) hx hb dX10_init_43 hl (k := 0) rfl (by decide) (by decide) rfl (fun ls hl => ?_)
  refine lv_goto (tgt := 30) hx hb dX10_init_46 (by decide) ?_
  refine lv_iload_n hx hb dX10_init_30 rfl (lv_at hl 0 rfl) ?_
  refine lv_bipush (v := 8) hx hb dX10_init_31 (by decide) ?_
  refine lv_icmp_ge (tgt := 49) hx hb dX10_init_33 (by decide) (fun z => absurd z (by decide)) (fun _ => ?_)
  refine lv_aload_n hx hb dX10_init_36 rfl (lv_at hl 2 rfl) ?_
  refine y_get (k := 0) C0 hP rfl rfl inG10 1 (by decide) wd_62 rfl dX10_init_37 ?_
  refine lv_iload_n hx hb dX10_init_40 rfl (lv_at hl 0 rfl) ?_
  refine lv_aload_n hx hb dX10_init_41 rfl (lv_at hl 1 rfl) ?_
  refine y_aast (k := 1) (q := 2) (t0 := 3) C0 hP hS rfl rfl rfl rfl (by decide) dX10_init_42 (fun H locs hP hS => ?_)
  have hP : RP D b [.inr (10, [.int 0, .ref (b + 1), .null, .null, .null, .null, .int 0, .null, .null, .null, .null, .int 0, .null, .null, .null, .null, .null, .null, .null]), .inl (ct 3, 8, .inr (.inr (.inr (.inr (va_up (va_up (va_up (va_up (fun _ => none) 0 (some (b + 2))) 1 (some (b + 2))) 2 (some (b + 2))) 3 (some (b + 2))))))), .inr (7, [.int 0, .int 0])] _ := hP
  refine lv_iinc (v := 4) (lv' := [(2, .int 4), (1, .ref (b + 2)), (0, .ref (b + 0))]) hx hb dX10_init_43 hl (k := 0) rfl (by decide) (by decide) rfl (fun ls hl => ?_)
  refine lv_goto (tgt := 30) hx hb dX10_init_46 (by decide) ?_
  refine lv_iload_n hx hb dX10_init_30 rfl (lv_at hl 0 rfl) ?_
  refine lv_bipush (v := 8) hx hb dX10_init_31 (by decide) ?_
  refine lv_icmp_ge (tgt := 49) hx hb dX10_init_33 (by decide) (fun z => absurd z (by decide)) (fun _ => ?_)
  refine lv_aload_n hx hb dX10_init_36 rfl (lv_at hl 2 rfl) ?_
  refine y_get (k := 0) C0 hP rfl rfl inG10 1 (by decide) wd_62 rfl dX10_init_37 ?_
  refine lv_iload_n hx hb dX10_init_40 rfl (lv_at hl 0 rfl) ?_
  refine lv_aload_n hx hb dX10_init_41 rfl (lv_at hl 1 rfl) ?_
  refine y_aast (k := 1) (q := 2) (t0 := 3) C0 hP hS rfl rfl rfl rfl (by decide) dX10_init_42 (fun H locs hP hS => ?_)
  have hP : RP D b [.inr (10, [.int 0, .ref (b + 1), .null, .null, .null, .null, .int 0, .null, .null, .null, .null, .int 0, .null, .null, .null, .null, .null, .null, .null]), .inl (ct 3, 8, .inr (.inr (.inr (.inr (va_up (va_up (va_up (va_up (va_up (fun _ => none) 0 (some (b + 2))) 1 (some (b + 2))) 2 (some (b + 2))) 3 (some (b + 2))) 4 (some (b + 2))))))), .inr (7, [.int 0, .int 0])] _ := hP
  refine lv_iinc (v := 5) (lv' := [(2, .int 5), (1, .ref (b + 2)), (0, .ref (b + 0))]) hx hb dX10_init_43 hl (k := 0) rfl (by decide) (by decide) rfl (fun ls hl => ?_)
  refine lv_goto (tgt := 30) hx hb dX10_init_46 (by decide) ?_
  refine lv_iload_n hx hb dX10_init_30 rfl (lv_at hl 0 rfl) ?_
  refine lv_bipush (v := 8) hx hb dX10_init_31 (by decide) ?_
  refine lv_icmp_ge (tgt := 49) hx hb dX10_init_33 (by decide) (fun z => absurd z (by decide)) (fun _ => ?_)
  refine lv_aload_n hx hb dX10_init_36 rfl (lv_at hl 2 rfl) ?_
  refine y_get (k := 0) C0 hP rfl rfl inG10 1 (by decide) wd_62 rfl dX10_init_37 ?_
  refine lv_iload_n hx hb dX10_init_40 rfl (lv_at hl 0 rfl) ?_
  refine lv_aload_n hx hb dX10_init_41 rfl (lv_at hl 1 rfl) ?_
  refine y_aast (k := 1) (q := 2) (t0 := 3) C0 hP hS rfl rfl rfl rfl (by decide) dX10_init_42 (fun H locs hP hS => ?_)
  have hP : RP D b [.inr (10, [.int 0, .ref (b + 1), .null, .null, .null, .null, .int 0, .null, .null, .null, .null, .int 0, .null, .null, .null, .null, .null, .null, .null]), .inl (ct 3, 8, .inr (.inr (.inr (.inr (va_up (va_up (va_up (va_up (va_up (va_up (fun _ => none) 0 (some (b + 2))) 1 (some (b + 2))) 2 (some (b + 2))) 3 (some (b + 2))) 4 (some (b + 2))) 5 (some (b + 2))))))), .inr (7, [.int 0, .int 0])] _ := hP
  refine lv_iinc (v := 6) (lv' := [(2, .int 6), (1, .ref (b + 2)), (0, .ref (b + 0))]) hx hb dX10_init_43 hl (k := 0) rfl (by decide) (by decide) rfl (fun ls hl => ?_)
  refine lv_goto (tgt := 30) hx hb dX10_init_46 (by decide) ?_
  refine lv_iload_n hx hb dX10_init_30 rfl (lv_at hl 0 rfl) ?_
  refine lv_bipush (v := 8) hx hb dX10_init_31 (by decide) ?_
  refine lv_icmp_ge (tgt := 49) hx hb dX10_init_33 (by decide) (fun z => absurd z (by decide)) (fun _ => ?_)
  refine lv_aload_n hx hb dX10_init_36 rfl (lv_at hl 2 rfl) ?_
  refine y_get (k := 0) C0 hP rfl rfl inG10 1 (by decide) wd_62 rfl dX10_init_37 ?_
  refine lv_iload_n hx hb dX10_init_40 rfl (lv_at hl 0 rfl) ?_
  refine lv_aload_n hx hb dX10_init_41 rfl (lv_at hl 1 rfl) ?_
  refine y_aast (k := 1) (q := 2) (t0 := 3) C0 hP hS rfl rfl rfl rfl (by decide) dX10_init_42 (fun H locs hP hS => ?_)
  have hP : RP D b [.inr (10, [.int 0, .ref (b + 1), .null, .null, .null, .null, .int 0, .null, .null, .null, .null, .int 0, .null, .null, .null, .null, .null, .null, .null]), .inl (ct 3, 8, .inr (.inr (.inr (.inr (va_up (va_up (va_up (va_up (va_up (va_up (va_up (fun _ => none) 0 (some (b + 2))) 1 (some (b + 2))) 2 (some (b + 2))) 3 (some (b + 2))) 4 (some (b + 2))) 5 (some (b + 2))) 6 (some (b + 2))))))), .inr (7, [.int 0, .int 0])] _ := hP
  refine lv_iinc (v := 7) (lv' := [(2, .int 7), (1, .ref (b + 2)), (0, .ref (b + 0))]) hx hb dX10_init_43 hl (k := 0) rfl (by decide) (by decide) rfl (fun ls hl => ?_)
  refine lv_goto (tgt := 30) hx hb dX10_init_46 (by decide) ?_
  refine lv_iload_n hx hb dX10_init_30 rfl (lv_at hl 0 rfl) ?_
  refine lv_bipush (v := 8) hx hb dX10_init_31 (by decide) ?_
  refine lv_icmp_ge (tgt := 49) hx hb dX10_init_33 (by decide) (fun z => absurd z (by decide)) (fun _ => ?_)
  refine lv_aload_n hx hb dX10_init_36 rfl (lv_at hl 2 rfl) ?_
  refine y_get (k := 0) C0 hP rfl rfl inG10 1 (by decide) wd_62 rfl dX10_init_37 ?_
  refine lv_iload_n hx hb dX10_init_40 rfl (lv_at hl 0 rfl) ?_
  refine lv_aload_n hx hb dX10_init_41 rfl (lv_at hl 1 rfl) ?_
  refine y_aast (k := 1) (q := 2) (t0 := 3) C0 hP hS rfl rfl rfl rfl (by decide) dX10_init_42 (fun H locs hP hS => ?_)
  have hP : RP D b [.inr (10, [.int 0, .ref (b + 1), .null, .null, .null, .null, .int 0, .null, .null, .null, .null, .int 0, .null, .null, .null, .null, .null, .null, .null]), .inl (ct 3, 8, .inr (.inr (.inr (.inr (va_up (va_up (va_up (va_up (va_up (va_up (va_up (va_up (fun _ => none) 0 (some (b + 2))) 1 (some (b + 2))) 2 (some (b + 2))) 3 (some (b + 2))) 4 (some (b + 2))) 5 (some (b + 2))) 6 (some (b + 2))) 7 (some (b + 2))))))), .inr (7, [.int 0, .int 0])] _ := hP
  refine lv_iinc (v := 8) (lv' := [(2, .int 8), (1, .ref (b + 2)), (0, .ref (b + 0))]) hx hb dX10_init_43 hl (k := 0) rfl (by decide) (by decide) rfl (fun ls hl => ?_)
  refine lv_goto (tgt := 30) hx hb dX10_init_46 (by decide) ?_
  refine lv_iload_n hx hb dX10_init_30 rfl (lv_at hl 0 rfl) ?_
  refine lv_bipush (v := 8) hx hb dX10_init_31 (by decide) ?_
  refine lv_icmp_ge (tgt := 49) hx hb dX10_init_33 (by decide) (fun _ => ?_) (fun z => absurd (by decide) z)
  refine lv_aload_n hx hb dX10_init_49 rfl (lv_at hl 2 rfl) ?_
  refine lv_bipush (v := 8) hx hb dX10_init_50 (by decide) ?_
  refine y_newa (atype := .int) (ty := .int) (q := 0) (N := 8) (a0 := (8, .inl (fun _ => 0))) C0 hP hS rfl wd_142 rfl (by simp) (fun _ => rfl) (by decide) (by decide) (Nat.le_of_ble_eq_true rfl) (Nat.le_of_ble_eq_true rfl) (Nat.le_of_ble_eq_true rfl) (n := 3) rfl dX10_init_52 (fun H hP hS => ?_)
  refine y_put (k := 0) C0 hP hS rfl rfl inG10 tyX10 tyX10_ok nmX10 2 (by decide) wd_65 (Or.inr ⟨hin, rfl⟩) rfl rfl (Nat.le_of_ble_eq_true rfl) dX10_init_54 (fun H locs hP hS => ?_)
  have hP : RP D b [.inr (10, [.int 0, .ref (b + 1), .ref (b + 3), .null, .null, .null, .int 0, .null, .null, .null, .null, .int 0, .null, .null, .null, .null, .null, .null, .null]), .inl (ct 3, 8, .inr (.inr (.inr (.inr (va_up (va_up (va_up (va_up (va_up (va_up (va_up (va_up (fun _ => none) 0 (some (b + 2))) 1 (some (b + 2))) 2 (some (b + 2))) 3 (some (b + 2))) 4 (some (b + 2))) 5 (some (b + 2))) 6 (some (b + 2))) 7 (some (b + 2))))))), .inr (7, [.int 0, .int 0]), .inl (ct 0, 8, .inl (fun _ => 0))] _ := hP
  refine lv_aload_n hx hb dX10_init_57 rfl (lv_at hl 2 rfl) ?_
  refine lv_bipush (v := 8) hx hb dX10_init_58 (by decide) ?_
  refine y_newa (atype := .int) (ty := .int) (q := 0) (N := 8) (a0 := (8, .inl (fun _ => 0))) C0 hP hS rfl wd_142 rfl (by simp) (fun _ => rfl) (by decide) (by decide) (Nat.le_of_ble_eq_true rfl) (Nat.le_of_ble_eq_true rfl) (Nat.le_of_ble_eq_true rfl) (n := 4) rfl dX10_init_60 (fun H hP hS => ?_)
  refine y_put (k := 0) C0 hP hS rfl rfl inG10 tyX10 tyX10_ok nmX10 3 (by decide) wd_68 (Or.inr ⟨hin, rfl⟩) rfl rfl (Nat.le_of_ble_eq_true rfl) dX10_init_62 (fun H locs hP hS => ?_)
  have hP : RP D b [.inr (10, [.int 0, .ref (b + 1), .ref (b + 3), .ref (b + 4), .null, .null, .int 0, .null, .null, .null, .null, .int 0, .null, .null, .null, .null, .null, .null, .null]), .inl (ct 3, 8, .inr (.inr (.inr (.inr (va_up (va_up (va_up (va_up (va_up (va_up (va_up (va_up (fun _ => none) 0 (some (b + 2))) 1 (some (b + 2))) 2 (some (b + 2))) 3 (some (b + 2))) 4 (some (b + 2))) 5 (some (b + 2))) 6 (some (b + 2))) 7 (some (b + 2))))))), .inr (7, [.int 0, .int 0]), .inl (ct 0, 8, .inl (fun _ => 0)), .inl (ct 0, 8, .inl (fun _ => 0))] _ := hP
  refine lv_aload_n hx hb dX10_init_65 rfl (lv_at hl 2 rfl) ?_
  refine lv_bipush (v := 8) hx hb dX10_init_66 (by decide) ?_
  refine y_newa (atype := .int) (ty := .int) (q := 0) (N := 8) (a0 := (8, .inl (fun _ => 0))) C0 hP hS rfl wd_142 rfl (by simp) (fun _ => rfl) (by decide) (by decide) (Nat.le_of_ble_eq_true rfl) (Nat.le_of_ble_eq_true rfl) (Nat.le_of_ble_eq_true rfl) (n := 5) rfl dX10_init_68 (fun H hP hS => ?_)
  refine y_put (k := 0) C0 hP hS rfl rfl inG10 tyX10 tyX10_ok nmX10 4 (by decide) wd_71 (Or.inr ⟨hin, rfl⟩) rfl rfl (Nat.le_of_ble_eq_true rfl) dX10_init_70 (fun H locs hP hS => ?_)
  have hP : RP D b [.inr (10, [.int 0, .ref (b + 1), .ref (b + 3), .ref (b + 4), .ref (b + 5), .null, .int 0, .null, .null, .null, .null, .int 0, .null, .null, .null, .null, .null, .null, .null]), .inl (ct 3, 8, .inr (.inr (.inr (.inr (va_up (va_up (va_up (va_up (va_up (va_up (va_up (va_up (fun _ => none) 0 (some (b + 2))) 1 (some (b + 2))) 2 (some (b + 2))) 3 (some (b + 2))) 4 (some (b + 2))) 5 (some (b + 2))) 6 (some (b + 2))) 7 (some (b + 2))))))), .inr (7, [.int 0, .int 0]), .inl (ct 0, 8, .inl (fun _ => 0)), .inl (ct 0, 8, .inl (fun _ => 0)), .inl (ct 0, 8, .inl (fun _ => 0))] _ := hP
  refine lv_aload_n hx hb dX10_init_73 rfl (lv_at hl 2 rfl) ?_
  refine lv_bipush (v := 8) hx hb dX10_init_74 (by decide) ?_
  refine y_newa (atype := .int) (ty := .int) (q := 0) (N := 8) (a0 := (8, .inl (fun _ => 0))) C0 hP hS rfl wd_142 rfl (by simp) (fun _ => rfl) (by decide) (by decide) (Nat.le_of_ble_eq_true rfl) (Nat.le_of_ble_eq_true rfl) (Nat.le_of_ble_eq_true rfl) (n := 6) rfl dX10_init_76 (fun H hP hS => ?_)
  refine y_put (k := 0) C0 hP hS rfl rfl inG10 tyX10 tyX10_ok nmX10 5 (by decide) wd_74 (Or.inr ⟨hin, rfl⟩) rfl rfl (Nat.le_of_ble_eq_true rfl) dX10_init_78 (fun H locs hP hS => ?_)
  have hP : RP D b [.inr (10, [.int 0, .ref (b + 1), .ref (b + 3), .ref (b + 4), .ref (b + 5), .ref (b + 6), .int 0, .null, .null, .null, .null, .int 0, .null, .null, .null, .null, .null, .null, .null]), .inl (ct 3, 8, .inr (.inr (.inr (.inr (va_up (va_up (va_up (va_up (va_up (va_up (va_up (va_up (fun _ => none) 0 (some (b + 2))) 1 (some (b + 2))) 2 (some (b + 2))) 3 (some (b + 2))) 4 (some (b + 2))) 5 (some (b + 2))) 6 (some (b + 2))) 7 (some (b + 2))))))), .inr (7, [.int 0, .int 0]), .inl (ct 0, 8, .inl (fun _ => 0)), .inl (ct 0, 8, .inl (fun _ => 0)), .inl (ct 0, 8, .inl (fun _ => 0)), .inl (ct 0, 8, .inl (fun _ => 0))] _ := hP
  refine lv_aload_n hx hb dX10_init_81 rfl (lv_at hl 2 rfl) ?_
  refine lv_iconst (v := 0) hx hb dX10_init_82 (by decide) ?_
  refine y_put (k := 0) C0 hP hS rfl rfl inG10 tyX10 tyX10_ok nmX10 6 (by decide) wd_77 (Or.inl rfl) rfl rfl (Nat.le_of_ble_eq_true rfl) dX10_init_83 (fun H locs hP hS => ?_)
  have hP : RP D b [.inr (10, [.int 0, .ref (b + 1), .ref (b + 3), .ref (b + 4), .ref (b + 5), .ref (b + 6), .int 0, .null, .null, .null, .null, .int 0, .null, .null, .null, .null, .null, .null, .null]), .inl (ct 3, 8, .inr (.inr (.inr (.inr (va_up (va_up (va_up (va_up (va_up (va_up (va_up (va_up (fun _ => none) 0 (some (b + 2))) 1 (some (b + 2))) 2 (some (b + 2))) 3 (some (b + 2))) 4 (some (b + 2))) 5 (some (b + 2))) 6 (some (b + 2))) 7 (some (b + 2))))))), .inr (7, [.int 0, .int 0]), .inl (ct 0, 8, .inl (fun _ => 0)), .inl (ct 0, 8, .inl (fun _ => 0)), .inl (ct 0, 8, .inl (fun _ => 0)), .inl (ct 0, 8, .inl (fun _ => 0))] _ := hP
  refine lv_aload_n hx hb dX10_init_86 rfl (lv_at hl 2 rfl) ?_
  refine lv_bipush (v := 6) hx hb dX10_init_87 (by decide) ?_
  refine y_newa (atype := .int) (ty := .int) (q := 0) (N := 6) (a0 := (6, .inl (fun _ => 0))) C0 hP hS rfl wd_142 rfl (by simp) (fun _ => rfl) (by decide) (by decide) (Nat.le_of_ble_eq_true rfl) (Nat.le_of_ble_eq_true rfl) (Nat.le_of_ble_eq_true rfl) (n := 7) rfl dX10_init_89 (fun H hP hS => ?_)
  refine y_put (k := 0) C0 hP hS rfl rfl inG10 tyX10 tyX10_ok nmX10 7 (by decide) wd_79 (Or.inr ⟨hin, rfl⟩) rfl rfl (Nat.le_of_ble_eq_true rfl) dX10_init_91 (fun H locs hP hS => ?_)
  have hP : RP D b [.inr (10, [.int 0, .ref (b + 1), .ref (b + 3), .ref (b + 4), .ref (b + 5), .ref (b + 6), .int 0, .ref (b + 7), .null, .null, .null, .int 0, .null, .null, .null, .null, .null, .null, .null]), .inl (ct 3, 8, .inr (.inr (.inr (.inr (va_up (va_up (va_up (va_up (va_up (va_up (va_up (va_up (fun _ => none) 0 (some (b + 2))) 1 (some (b + 2))) 2 (some (b + 2))) 3 (some (b + 2))) 4 (some (b + 2))) 5 (some (b + 2))) 6 (some (b + 2))) 7 (some (b + 2))))))), .inr (7, [.int 0, .int 0]), .inl (ct 0, 8, .inl (fun _ => 0)), .inl (ct 0, 8, .inl (fun _ => 0)), .inl (ct 0, 8, .inl (fun _ => 0)), .inl (ct 0, 8, .inl (fun _ => 0)), .inl (ct 0, 6, .inl (fun _ => 0))] _ := hP
  refine lv_aload_n hx hb dX10_init_94 rfl (lv_at hl 2 rfl) ?_
  refine lv_bipush (v := 6) hx hb dX10_init_95 (by decide) ?_
  refine y_newa (atype := .int) (ty := .int) (q := 0) (N := 6) (a0 := (6, .inl (fun _ => 0))) C0 hP hS rfl wd_142 rfl (by simp) (fun _ => rfl) (by decide) (by decide) (Nat.le_of_ble_eq_true rfl) (Nat.le_of_ble_eq_true rfl) (Nat.le_of_ble_eq_true rfl) (n := 8) rfl dX10_init_97 (fun H hP hS => ?_)
  refine y_put (k := 0) C0 hP hS rfl rfl inG10 tyX10 tyX10_ok nmX10 8 (by decide) wd_80 (Or.inr ⟨hin, rfl⟩) rfl rfl (Nat.le_of_ble_eq_true rfl) dX10_init_99 (fun H locs hP hS => ?_)
  have hP : RP D b [.inr (10, [.int 0, .ref (b + 1), .ref (b + 3), .ref (b + 4), .ref (b + 5), .ref (b + 6), .int 0, .ref (b + 7), .ref (b + 8), .null, .null, .int 0, .null, .null, .null, .null, .null, .null, .null]), .inl (ct 3, 8, .inr (.inr (.inr (.inr (va_up (va_up (va_up (va_up (va_up (va_up (va_up (va_up (fun _ => none) 0 (some (b + 2))) 1 (some (b + 2))) 2 (some (b + 2))) 3 (some (b + 2))) 4 (some (b + 2))) 5 (some (b + 2))) 6 (some (b + 2))) 7 (some (b + 2))))))), .inr (7, [.int 0, .int 0]), .inl (ct 0, 8, .inl (fun _ => 0)), .inl (ct 0, 8, .inl (fun _ => 0)), .inl (ct 0, 8, .inl (fun _ => 0)), .inl (ct 0, 8, .inl (fun _ => 0)), .inl (ct 0, 6, .inl (fun _ => 0)), .inl (ct 0, 6, .inl (fun _ => 0))] _ := hP
  refine lv_aload_n hx hb dX10_init_102 rfl (lv_at hl 2 rfl) ?_
  refine lv_bipush (v := 6) hx hb dX10_init_103 (by decide) ?_
  refine y_newa (atype := .int) (ty := .int) (q := 0) (N := 6) (a0 := (6, .inl (fun _ => 0))) C0 hP hS rfl wd_142 rfl (by simp) (fun _ => rfl) (by decide) (by decide) (Nat.le_of_ble_eq_true rfl) (Nat.le_of_ble_eq_true rfl) (Nat.le_of_ble_eq_true rfl) (n := 9) rfl dX10_init_105 (fun H hP hS => ?_)
  refine y_put (k := 0) C0 hP hS rfl rfl inG10 tyX10 tyX10_ok nmX10 9 (by decide) wd_81 (Or.inr ⟨hin, rfl⟩) rfl rfl (Nat.le_of_ble_eq_true rfl) dX10_init_107 (fun H locs hP hS => ?_)
  have hP : RP D b [.inr (10, [.int 0, .ref (b + 1), .ref (b + 3), .ref (b + 4), .ref (b + 5), .ref (b + 6), .int 0, .ref (b + 7), .ref (b + 8), .ref (b + 9), .null, .int 0, .null, .null, .null, .null, .null, .null, .null]), .inl (ct 3, 8, .inr (.inr (.inr (.inr (va_up (va_up (va_up (va_up (va_up (va_up (va_up (va_up (fun _ => none) 0 (some (b + 2))) 1 (some (b + 2))) 2 (some (b + 2))) 3 (some (b + 2))) 4 (some (b + 2))) 5 (some (b + 2))) 6 (some (b + 2))) 7 (some (b + 2))))))), .inr (7, [.int 0, .int 0]), .inl (ct 0, 8, .inl (fun _ => 0)), .inl (ct 0, 8, .inl (fun _ => 0)), .inl (ct 0, 8, .inl (fun _ => 0)), .inl (ct 0, 8, .inl (fun _ => 0)), .inl (ct 0, 6, .inl (fun _ => 0)), .inl (ct 0, 6, .inl (fun _ => 0)), .inl (ct 0, 6, .inl (fun _ => 0))] _ := hP
  refine lv_aload_n hx hb dX10_init_110 rfl (lv_at hl 2 rfl) ?_
  refine lv_bipush (v := 6) hx hb dX10_init_111 (by decide) ?_
  refine y_newa (atype := .int) (ty := .int) (q := 0) (N := 6) (a0 := (6, .inl (fun _ => 0))) C0 hP hS rfl wd_142 rfl (by simp) (fun _ => rfl) (by decide) (by decide) (Nat.le_of_ble_eq_true rfl) (Nat.le_of_ble_eq_true rfl) (Nat.le_of_ble_eq_true rfl) (n := 10) rfl dX10_init_113 (fun H hP hS => ?_)
  refine y_put (k := 0) C0 hP hS rfl rfl inG10 tyX10 tyX10_ok nmX10 10 (by decide) wd_82 (Or.inr ⟨hin, rfl⟩) rfl rfl (Nat.le_of_ble_eq_true rfl) dX10_init_115 (fun H locs hP hS => ?_)
  have hP : RP D b [.inr (10, [.int 0, .ref (b + 1), .ref (b + 3), .ref (b + 4), .ref (b + 5), .ref (b + 6), .int 0, .ref (b + 7), .ref (b + 8), .ref (b + 9), .ref (b + 10), .int 0, .null, .null, .null, .null, .null, .null, .null]), .inl (ct 3, 8, .inr (.inr (.inr (.inr (va_up (va_up (va_up (va_up (va_up (va_up (va_up (va_up (fun _ => none) 0 (some (b + 2))) 1 (some (b + 2))) 2 (some (b + 2))) 3 (some (b + 2))) 4 (some (b + 2))) 5 (some (b + 2))) 6 (some (b + 2))) 7 (some (b + 2))))))), .inr (7, [.int 0, .int 0]), .inl (ct 0, 8, .inl (fun _ => 0)), .inl (ct 0, 8, .inl (fun _ => 0)), .inl (ct 0, 8, .inl (fun _ => 0)), .inl (ct 0, 8, .inl (fun _ => 0)), .inl (ct 0, 6, .inl (fun _ => 0)), .inl (ct 0, 6, .inl (fun _ => 0)), .inl (ct 0, 6, .inl (fun _ => 0)), .inl (ct 0, 6, .inl (fun _ => 0))] _ := hP
  refine lv_aload_n hx hb dX10_init_118 rfl (lv_at hl 2 rfl) ?_
  refine lv_iconst (v := 0) hx hb dX10_init_119 (by decide) ?_
  refine y_put (k := 0) C0 hP hS rfl rfl inG10 tyX10 tyX10_ok nmX10 11 (by decide) wd_84 (Or.inl rfl) rfl rfl (Nat.le_of_ble_eq_true rfl) dX10_init_120 (fun H locs hP hS => ?_)
  have hP : RP D b [.inr (10, [.int 0, .ref (b + 1), .ref (b + 3), .ref (b + 4), .ref (b + 5), .ref (b + 6), .int 0, .ref (b + 7), .ref (b + 8), .ref (b + 9), .ref (b + 10), .int 0, .null, .null, .null, .null, .null, .null, .null]), .inl (ct 3, 8, .inr (.inr (.inr (.inr (va_up (va_up (va_up (va_up (va_up (va_up (va_up (va_up (fun _ => none) 0 (some (b + 2))) 1 (some (b + 2))) 2 (some (b + 2))) 3 (some (b + 2))) 4 (some (b + 2))) 5 (some (b + 2))) 6 (some (b + 2))) 7 (some (b + 2))))))), .inr (7, [.int 0, .int 0]), .inl (ct 0, 8, .inl (fun _ => 0)), .inl (ct 0, 8, .inl (fun _ => 0)), .inl (ct 0, 8, .inl (fun _ => 0)), .inl (ct 0, 8, .inl (fun _ => 0)), .inl (ct 0, 6, .inl (fun _ => 0)), .inl (ct 0, 6, .inl (fun _ => 0)), .inl (ct 0, 6, .inl (fun _ => 0)), .inl (ct 0, 6, .inl (fun _ => 0))] _ := hP
  refine lv_aload_n hx hb dX10_init_123 rfl (lv_at hl 2 rfl) ?_
  refine lv_iconst (v := 3) hx hb dX10_init_124 (by decide) ?_
  refine y_newa (atype := .int) (ty := .int) (q := 0) (N := 3) (a0 := (3, .inl (fun _ => 0))) C0 hP hS rfl wd_142 rfl (by simp) (fun _ => rfl) (by decide) (by decide) (Nat.le_of_ble_eq_true rfl) (Nat.le_of_ble_eq_true rfl) (Nat.le_of_ble_eq_true rfl) (n := 11) rfl dX10_init_125 (fun H hP hS => ?_)
  refine y_put (k := 0) C0 hP hS rfl rfl inG10 tyX10 tyX10_ok nmX10 12 (by decide) wd_87 (Or.inr ⟨hin, rfl⟩) rfl rfl (Nat.le_of_ble_eq_true rfl) dX10_init_127 (fun H locs hP hS => ?_)
  have hP : RP D b [.inr (10, [.int 0, .ref (b + 1), .ref (b + 3), .ref (b + 4), .ref (b + 5), .ref (b + 6), .int 0, .ref (b + 7), .ref (b + 8), .ref (b + 9), .ref (b + 10), .int 0, .ref (b + 11), .null, .null, .null, .null, .null, .null]), .inl (ct 3, 8, .inr (.inr (.inr (.inr (va_up (va_up (va_up (va_up (va_up (va_up (va_up (va_up (fun _ => none) 0 (some (b + 2))) 1 (some (b + 2))) 2 (some (b + 2))) 3 (some (b + 2))) 4 (some (b + 2))) 5 (some (b + 2))) 6 (some (b + 2))) 7 (some (b + 2))))))), .inr (7, [.int 0, .int 0]), .inl (ct 0, 8, .inl (fun _ => 0)), .inl (ct 0, 8, .inl (fun _ => 0)), .inl (ct 0, 8, .inl (fun _ => 0)), .inl (ct 0, 8, .inl (fun _ => 0)), .inl (ct 0, 6, .inl (fun _ => 0)), .inl (ct 0, 6, .inl (fun _ => 0)), .inl (ct 0, 6, .inl (fun _ => 0)), .inl (ct 0, 6, .inl (fun _ => 0)), .inl (ct 0, 3, .inl (fun _ => 0))] _ := hP
  refine lv_aload_n hx hb dX10_init_130 rfl (lv_at hl 2 rfl) ?_
  refine lv_iconst (v := 3) hx hb dX10_init_131 (by decide) ?_
  refine y_newa (atype := .int) (ty := .int) (q := 0) (N := 3) (a0 := (3, .inl (fun _ => 0))) C0 hP hS rfl wd_142 rfl (by simp) (fun _ => rfl) (by decide) (by decide) (Nat.le_of_ble_eq_true rfl) (Nat.le_of_ble_eq_true rfl) (Nat.le_of_ble_eq_true rfl) (n := 12) rfl dX10_init_132 (fun H hP hS => ?_)
  refine y_put (k := 0) C0 hP hS rfl rfl inG10 tyX10 tyX10_ok nmX10 13 (by decide) wd_90 (Or.inr ⟨hin, rfl⟩) rfl rfl (Nat.le_of_ble_eq_true rfl) dX10_init_134 (fun H locs hP hS => ?_)
  have hP : RP D b [.inr (10, [.int 0, .ref (b + 1), .ref (b + 3), .ref (b + 4), .ref (b + 5), .ref (b + 6), .int 0, .ref (b + 7), .ref (b + 8), .ref (b + 9), .ref (b + 10), .int 0, .ref (b + 11), .ref (b + 12), .null, .null, .null, .null, .null]), .inl (ct 3, 8, .inr (.inr (.inr (.inr (va_up (va_up (va_up (va_up (va_up (va_up (va_up (va_up (fun _ => none) 0 (some (b + 2))) 1 (some (b + 2))) 2 (some (b + 2))) 3 (some (b + 2))) 4 (some (b + 2))) 5 (some (b + 2))) 6 (some (b + 2))) 7 (some (b + 2))))))), .inr (7, [.int 0, .int 0]), .inl (ct 0, 8, .inl (fun _ => 0)), .inl (ct 0, 8, .inl (fun _ => 0)), .inl (ct 0, 8, .inl (fun _ => 0)), .inl (ct 0, 8, .inl (fun _ => 0)), .inl (ct 0, 6, .inl (fun _ => 0)), .inl (ct 0, 6, .inl (fun _ => 0)), .inl (ct 0, 6, .inl (fun _ => 0)), .inl (ct 0, 6, .inl (fun _ => 0)), .inl (ct 0, 3, .inl (fun _ => 0)), .inl (ct 0, 3, .inl (fun _ => 0))] _ := hP
  refine lv_aload_n hx hb dX10_init_137 rfl (lv_at hl 2 rfl) ?_
  refine lv_iconst (v := 3) hx hb dX10_init_138 (by decide) ?_
  refine y_newa (atype := .int) (ty := .int) (q := 0) (N := 3) (a0 := (3, .inl (fun _ => 0))) C0 hP hS rfl wd_142 rfl (by simp) (fun _ => rfl) (by decide) (by decide) (Nat.le_of_ble_eq_true rfl) (Nat.le_of_ble_eq_true rfl) (Nat.le_of_ble_eq_true rfl) (n := 13) rfl dX10_init_139 (fun H hP hS => ?_)
  refine y_put (k := 0) C0 hP hS rfl rfl inG10 tyX10 tyX10_ok nmX10 14 (by decide) wd_92 (Or.inr ⟨hin, rfl⟩) rfl rfl (Nat.le_of_ble_eq_true rfl) dX10_init_141 (fun H locs hP hS => ?_)
  have hP : RP D b [.inr (10, [.int 0, .ref (b + 1), .ref (b + 3), .ref (b + 4), .ref (b + 5), .ref (b + 6), .int 0, .ref (b + 7), .ref (b + 8), .ref (b + 9), .ref (b + 10), .int 0, .ref (b + 11), .ref (b + 12), .ref (b + 13), .null, .null, .null, .null]), .inl (ct 3, 8, .inr (.inr (.inr (.inr (va_up (va_up (va_up (va_up (va_up (va_up (va_up (va_up (fun _ => none) 0 (some (b + 2))) 1 (some (b + 2))) 2 (some (b + 2))) 3 (some (b + 2))) 4 (some (b + 2))) 5 (some (b + 2))) 6 (some (b + 2))) 7 (some (b + 2))))))), .inr (7, [.int 0, .int 0]), .inl (ct 0, 8, .inl (fun _ => 0)), .inl (ct 0, 8, .inl (fun _ => 0)), .inl (ct 0, 8, .inl (fun _ => 0)), .inl (ct 0, 8, .inl (fun _ => 0)), .inl (ct 0, 6, .inl (fun _ => 0)), .inl (ct 0, 6, .inl (fun _ => 0)), .inl (ct 0, 6, .inl (fun _ => 0)), .inl (ct 0, 6, .inl (fun _ => 0)), .inl (ct 0, 3, .inl (fun _ => 0)), .inl (ct 0, 3, .inl (fun _ => 0)), .inl (ct 0, 3, .inl (fun _ => 0))] _ := hP
  refine lv_aload_n hx hb dX10_init_144 rfl (lv_at hl 2 rfl) ?_
  refine lv_iconst (v := 3) hx hb dX10_init_145 (by decide) ?_
  refine y_newa (atype := .int) (ty := .int) (q := 0) (N := 3) (a0 := (3, .inl (fun _ => 0))) C0 hP hS rfl wd_142 rfl (by simp) (fun _ => rfl) (by decide) (by decide) (Nat.le_of_ble_eq_true rfl) (Nat.le_of_ble_eq_true rfl) (Nat.le_of_ble_eq_true rfl) (n := 14) rfl dX10_init_146 (fun H hP hS => ?_)
  refine y_put (k := 0) C0 hP hS rfl rfl inG10 tyX10 tyX10_ok nmX10 15 (by decide) wd_95 (Or.inr ⟨hin, rfl⟩) rfl rfl (Nat.le_of_ble_eq_true rfl) dX10_init_148 (fun H locs hP hS => ?_)
  have hP : RP D b [.inr (10, [.int 0, .ref (b + 1), .ref (b + 3), .ref (b + 4), .ref (b + 5), .ref (b + 6), .int 0, .ref (b + 7), .ref (b + 8), .ref (b + 9), .ref (b + 10), .int 0, .ref (b + 11), .ref (b + 12), .ref (b + 13), .ref (b + 14), .null, .null, .null]), .inl (ct 3, 8, .inr (.inr (.inr (.inr (va_up (va_up (va_up (va_up (va_up (va_up (va_up (va_up (fun _ => none) 0 (some (b + 2))) 1 (some (b + 2))) 2 (some (b + 2))) 3 (some (b + 2))) 4 (some (b + 2))) 5 (some (b + 2))) 6 (some (b + 2))) 7 (some (b + 2))))))), .inr (7, [.int 0, .int 0]), .inl (ct 0, 8, .inl (fun _ => 0)), .inl (ct 0, 8, .inl (fun _ => 0)), .inl (ct 0, 8, .inl (fun _ => 0)), .inl (ct 0, 8, .inl (fun _ => 0)), .inl (ct 0, 6, .inl (fun _ => 0)), .inl (ct 0, 6, .inl (fun _ => 0)), .inl (ct 0, 6, .inl (fun _ => 0)), .inl (ct 0, 6, .inl (fun _ => 0)), .inl (ct 0, 3, .inl (fun _ => 0)), .inl (ct 0, 3, .inl (fun _ => 0)), .inl (ct 0, 3, .inl (fun _ => 0)), .inl (ct 0, 3, .inl (fun _ => 0))] _ := hP
  refine lv_aload_n hx hb dX10_init_151 rfl (lv_at hl 2 rfl) ?_
  refine lv_iconst (v := 3) hx hb dX10_init_152 (by decide) ?_
  refine y_newa (atype := .int) (ty := .int) (q := 0) (N := 3) (a0 := (3, .inl (fun _ => 0))) C0 hP hS rfl wd_142 rfl (by simp) (fun _ => rfl) (by decide) (by decide) (Nat.le_of_ble_eq_true rfl) (Nat.le_of_ble_eq_true rfl) (Nat.le_of_ble_eq_true rfl) (n := 15) rfl dX10_init_153 (fun H hP hS => ?_)
  refine y_put (k := 0) C0 hP hS rfl rfl inG10 tyX10 tyX10_ok nmX10 16 (by decide) wd_97 (Or.inr ⟨hin, rfl⟩) rfl rfl (Nat.le_of_ble_eq_true rfl) dX10_init_155 (fun H locs hP hS => ?_)
  have hP : RP D b [.inr (10, [.int 0, .ref (b + 1), .ref (b + 3), .ref (b + 4), .ref (b + 5), .ref (b + 6), .int 0, .ref (b + 7), .ref (b + 8), .ref (b + 9), .ref (b + 10), .int 0, .ref (b + 11), .ref (b + 12), .ref (b + 13), .ref (b + 14), .ref (b + 15), .null, .null]), .inl (ct 3, 8, .inr (.inr (.inr (.inr (va_up (va_up (va_up (va_up (va_up (va_up (va_up (va_up (fun _ => none) 0 (some (b + 2))) 1 (some (b + 2))) 2 (some (b + 2))) 3 (some (b + 2))) 4 (some (b + 2))) 5 (some (b + 2))) 6 (some (b + 2))) 7 (some (b + 2))))))), .inr (7, [.int 0, .int 0]), .inl (ct 0, 8, .inl (fun _ => 0)), .inl (ct 0, 8, .inl (fun _ => 0)), .inl (ct 0, 8, .inl (fun _ => 0)), .inl (ct 0, 8, .inl (fun _ => 0)), .inl (ct 0, 6, .inl (fun _ => 0)), .inl (ct 0, 6, .inl (fun _ => 0)), .inl (ct 0, 6, .inl (fun _ => 0)), .inl (ct 0, 6, .inl (fun _ => 0)), .inl (ct 0, 3, .inl (fun _ => 0)), .inl (ct 0, 3, .inl (fun _ => 0)), .inl (ct 0, 3, .inl (fun _ => 0)), .inl (ct 0, 3, .inl (fun _ => 0)), .inl (ct 0, 3, .inl (fun _ => 0))] _ := hP
  refine lv_aload_n hx hb dX10_init_158 rfl (lv_at hl 2 rfl) ?_
  refine lv_iconst (v := 4) hx hb dX10_init_159 (by decide) ?_
  refine y_newa (atype := .int) (ty := .int) (q := 0) (N := 4) (a0 := (4, .inl (fun _ => 0))) C0 hP hS rfl wd_142 rfl (by simp) (fun _ => rfl) (by decide) (by decide) (Nat.le_of_ble_eq_true rfl) (Nat.le_of_ble_eq_true rfl) (Nat.le_of_ble_eq_true rfl) (n := 16) rfl dX10_init_160 (fun H hP hS => ?_)
  refine lv_dup hx hb dX10_init_162 rfl ?_
  refine lv_iconst (v := 0) hx hb dX10_init_163 (by decide) ?_
  refine lv_iconst (v := 1) hx hb dX10_init_164 (by decide) ?_
  refine y_iast (k := 16) C0 hP hS rfl (by decide) dX10_init_165 (fun H locs hP hS => ?_)
  have hP : RP D b [.inr (10, [.int 0, .ref (b + 1), .ref (b + 3), .ref (b + 4), .ref (b + 5), .ref (b + 6), .int 0, .ref (b + 7), .ref (b + 8), .ref (b + 9), .ref (b + 10), .int 0, .ref (b + 11), .ref (b + 12), .ref (b + 13), .ref (b + 14), .ref (b + 15), .null, .null]), .inl (ct 3, 8, .inr (.inr (.inr (.inr (va_up (va_up (va_up (va_up (va_up (va_up (va_up (va_up (fun _ => none) 0 (some (b + 2))) 1 (some (b + 2))) 2 (some (b + 2))) 3 (some (b + 2))) 4 (some (b + 2))) 5 (some (b + 2))) 6 (some (b + 2))) 7 (some (b + 2))))))), .inr (7, [.int 0, .int 0]), .inl (ct 0, 8, .inl (fun _ => 0)), .inl (ct 0, 8, .inl (fun _ => 0)), .inl (ct 0, 8, .inl (fun _ => 0)), .inl (ct 0, 8, .inl (fun _ => 0)), .inl (ct 0, 6, .inl (fun _ => 0)), .inl (ct 0, 6, .inl (fun _ => 0)), .inl (ct 0, 6, .inl (fun _ => 0)), .inl (ct 0, 6, .inl (fun _ => 0)), .inl (ct 0, 3, .inl (fun _ => 0)), .inl (ct 0, 3, .inl (fun _ => 0)), .inl (ct 0, 3, .inl (fun _ => 0)), .inl (ct 0, 3, .inl (fun _ => 0)), .inl (ct 0, 3, .inl (fun _ => 0)), .inl (ct 0, 4, .inl (upd (fun _ => 0) 0 1))] _ := hP
  refine lv_dup hx hb dX10_init_166 rfl ?_
  refine lv_iconst (v := 1) hx hb dX10_init_167 (by decide) ?_
  refine lv_iconst (v := 2) hx hb dX10_init_168 (by decide) ?_
  refine y_iast (k := 16) C0 hP hS rfl (by decide) dX10_init_169 (fun H locs hP hS => ?_)
  have hP : RP D b [.inr (10, [.int 0, .ref (b + 1), .ref (b + 3), .ref (b + 4), .ref (b + 5), .ref (b + 6), .int 0, .ref (b + 7), .ref (b + 8), .ref (b + 9), .ref (b + 10), .int 0, .ref (b + 11), .ref (b + 12), .ref (b + 13), .ref (b + 14), .ref (b + 15), .null, .null]), .inl (ct 3, 8, .inr (.inr (.inr (.inr (va_up (va_up (va_up (va_up (va_up (va_up (va_up (va_up (fun _ => none) 0 (some (b + 2))) 1 (some (b + 2))) 2 (some (b + 2))) 3 (some (b + 2))) 4 (some (b + 2))) 5 (some (b + 2))) 6 (some (b + 2))) 7 (some (b + 2))))))), .inr (7, [.int 0, .int 0]), .inl (ct 0, 8, .inl (fun _ => 0)), .inl (ct 0, 8, .inl (fun _ => 0)), .inl (ct 0, 8, .inl (fun _ => 0)), .inl (ct 0, 8, .inl (fun _ => 0)), .inl (ct 0, 6, .inl (fun _ => 0)), .inl (ct 0, 6, .inl (fun _ => 0)), .inl (ct 0, 6, .inl (fun _ => 0)), .inl (ct 0, 6, .inl (fun _ => 0)), .inl (ct 0, 3, .inl (fun _ => 0)), .inl (ct 0, 3, .inl (fun _ => 0)), .inl (ct 0, 3, .inl (fun _ => 0)), .inl (ct 0, 3, .inl (fun _ => 0)), .inl (ct 0, 3, .inl (fun _ => 0)), .inl (ct 0, 4, .inl (upd (upd (fun _ => 0) 0 1) 1 2))] _ := hP
  refine lv_dup hx hb dX10_init_170 rfl ?_
  refine lv_iconst (v := 2) hx hb dX10_init_171 (by decide) ?_
  refine lv_iconst (v := 4) hx hb dX10_init_172 (by decide) ?_
  refine y_iast (k := 16) C0 hP hS rfl (by decide) dX10_init_173 (fun H locs hP hS => ?_)
  have hP : RP D b [.inr (10, [.int 0, .ref (b + 1), .ref (b + 3), .ref (b + 4), .ref (b + 5), .ref (b + 6), .int 0, .ref (b + 7), .ref (b + 8), .ref (b + 9), .ref (b + 10), .int 0, .ref (b + 11), .ref (b + 12), .ref (b + 13), .ref (b + 14), .ref (b + 15), .null, .null]), .inl (ct 3, 8, .inr (.inr (.inr (.inr (va_up (va_up (va_up (va_up (va_up (va_up (va_up (va_up (fun _ => none) 0 (some (b + 2))) 1 (some (b + 2))) 2 (some (b + 2))) 3 (some (b + 2))) 4 (some (b + 2))) 5 (some (b + 2))) 6 (some (b + 2))) 7 (some (b + 2))))))), .inr (7, [.int 0, .int 0]), .inl (ct 0, 8, .inl (fun _ => 0)), .inl (ct 0, 8, .inl (fun _ => 0)), .inl (ct 0, 8, .inl (fun _ => 0)), .inl (ct 0, 8, .inl (fun _ => 0)), .inl (ct 0, 6, .inl (fun _ => 0)), .inl (ct 0, 6, .inl (fun _ => 0)), .inl (ct 0, 6, .inl (fun _ => 0)), .inl (ct 0, 6, .inl (fun _ => 0)), .inl (ct 0, 3, .inl (fun _ => 0)), .inl (ct 0, 3, .inl (fun _ => 0)), .inl (ct 0, 3, .inl (fun _ => 0)), .inl (ct 0, 3, .inl (fun _ => 0)), .inl (ct 0, 3, .inl (fun _ => 0)), .inl (ct 0, 4, .inl (upd (upd (upd (fun _ => 0) 0 1) 1 2) 2 4))] _ := hP
  refine lv_dup hx hb dX10_init_174 rfl ?_
  refine lv_iconst (v := 3) hx hb dX10_init_175 (by decide) ?_
  refine lv_bipush (v := 8) hx hb dX10_init_176 (by decide) ?_
  refine y_iast (k := 16) C0 hP hS rfl (by decide) dX10_init_178 (fun H locs hP hS => ?_)
  have hP : RP D b [.inr (10, [.int 0, .ref (b + 1), .ref (b + 3), .ref (b + 4), .ref (b + 5), .ref (b + 6), .int 0, .ref (b + 7), .ref (b + 8), .ref (b + 9), .ref (b + 10), .int 0, .ref (b + 11), .ref (b + 12), .ref (b + 13), .ref (b + 14), .ref (b + 15), .null, .null]), .inl (ct 3, 8, .inr (.inr (.inr (.inr (va_up (va_up (va_up (va_up (va_up (va_up (va_up (va_up (fun _ => none) 0 (some (b + 2))) 1 (some (b + 2))) 2 (some (b + 2))) 3 (some (b + 2))) 4 (some (b + 2))) 5 (some (b + 2))) 6 (some (b + 2))) 7 (some (b + 2))))))), .inr (7, [.int 0, .int 0]), .inl (ct 0, 8, .inl (fun _ => 0)), .inl (ct 0, 8, .inl (fun _ => 0)), .inl (ct 0, 8, .inl (fun _ => 0)), .inl (ct 0, 8, .inl (fun _ => 0)), .inl (ct 0, 6, .inl (fun _ => 0)), .inl (ct 0, 6, .inl (fun _ => 0)), .inl (ct 0, 6, .inl (fun _ => 0)), .inl (ct 0, 6, .inl (fun _ => 0)), .inl (ct 0, 3, .inl (fun _ => 0)), .inl (ct 0, 3, .inl (fun _ => 0)), .inl (ct 0, 3, .inl (fun _ => 0)), .inl (ct 0, 3, .inl (fun _ => 0)), .inl (ct 0, 3, .inl (fun _ => 0)), .inl (ct 0, 4, .inl (upd (upd (upd (upd (fun _ => 0) 0 1) 1 2) 2 4) 3 8))] _ := hP
  refine y_put (k := 0) C0 hP hS rfl rfl inG10 tyX10 tyX10_ok nmX10 17 (by decide) wd_99 (Or.inr ⟨hin, rfl⟩) rfl rfl (Nat.le_of_ble_eq_true rfl) dX10_init_179 (fun H locs hP hS => ?_)
  have hP : RP D b [.inr (10, [.int 0, .ref (b + 1), .ref (b + 3), .ref (b + 4), .ref (b + 5), .ref (b + 6), .int 0, .ref (b + 7), .ref (b + 8), .ref (b + 9), .ref (b + 10), .int 0, .ref (b + 11), .ref (b + 12), .ref (b + 13), .ref (b + 14), .ref (b + 15), .ref (b + 16), .null]), .inl (ct 3, 8, .inr (.inr (.inr (.inr (va_up (va_up (va_up (va_up (va_up (va_up (va_up (va_up (fun _ => none) 0 (some (b + 2))) 1 (some (b + 2))) 2 (some (b + 2))) 3 (some (b + 2))) 4 (some (b + 2))) 5 (some (b + 2))) 6 (some (b + 2))) 7 (some (b + 2))))))), .inr (7, [.int 0, .int 0]), .inl (ct 0, 8, .inl (fun _ => 0)), .inl (ct 0, 8, .inl (fun _ => 0)), .inl (ct 0, 8, .inl (fun _ => 0)), .inl (ct 0, 8, .inl (fun _ => 0)), .inl (ct 0, 6, .inl (fun _ => 0)), .inl (ct 0, 6, .inl (fun _ => 0)), .inl (ct 0, 6, .inl (fun _ => 0)), .inl (ct 0, 6, .inl (fun _ => 0)), .inl (ct 0, 3, .inl (fun _ => 0)), .inl (ct 0, 3, .inl (fun _ => 0)), .inl (ct 0, 3, .inl (fun _ => 0)), .inl (ct 0, 3, .inl (fun _ => 0)), .inl (ct 0, 3, .inl (fun _ => 0)), .inl (ct 0, 4, .inl (upd (upd (upd (upd (fun _ => 0) 0 1) 1 2) 2 4) 3 8))] _ := hP
  refine lv_aload_n hx hb dX10_init_182 rfl (lv_at hl 2 rfl) ?_
  refine lv_iconst (v := 3) hx hb dX10_init_183 (by decide) ?_
  refine y_newa (atype := .int) (ty := .int) (q := 0) (N := 3) (a0 := (3, .inl (fun _ => 0))) C0 hP hS rfl wd_142 rfl (by simp) (fun _ => rfl) (by decide) (by decide) (Nat.le_of_ble_eq_true rfl) (Nat.le_of_ble_eq_true rfl) (Nat.le_of_ble_eq_true rfl) (n := 17) rfl dX10_init_184 (fun H hP hS => ?_)
  refine lv_dup hx hb dX10_init_186 rfl ?_
  refine lv_iconst (v := 0) hx hb dX10_init_187 (by decide) ?_
  refine lv_bipush (v := 15) hx hb dX10_init_188 (by decide) ?_
  refine y_iast (k := 17) C0 hP hS rfl (by decide) dX10_init_190 (fun H locs hP hS => ?_)
  have hP : RP D b [.inr (10, [.int 0, .ref (b + 1), .ref (b + 3), .ref (b + 4), .ref (b + 5), .ref (b + 6), .int 0, .ref (b + 7), .ref (b + 8), .ref (b + 9), .ref (b + 10), .int 0, .ref (b + 11), .ref (b + 12), .ref (b + 13), .ref (b + 14), .ref (b + 15), .ref (b + 16), .null]), .inl (ct 3, 8, .inr (.inr (.inr (.inr (va_up (va_up (va_up (va_up (va_up (va_up (va_up (va_up (fun _ => none) 0 (some (b + 2))) 1 (some (b + 2))) 2 (some (b + 2))) 3 (some (b + 2))) 4 (some (b + 2))) 5 (some (b + 2))) 6 (some (b + 2))) 7 (some (b + 2))))))), .inr (7, [.int 0, .int 0]), .inl (ct 0, 8, .inl (fun _ => 0)), .inl (ct 0, 8, .inl (fun _ => 0)), .inl (ct 0, 8, .inl (fun _ => 0)), .inl (ct 0, 8, .inl (fun _ => 0)), .inl (ct 0, 6, .inl (fun _ => 0)), .inl (ct 0, 6, .inl (fun _ => 0)), .inl (ct 0, 6, .inl (fun _ => 0)), .inl (ct 0, 6, .inl (fun _ => 0)), .inl (ct 0, 3, .inl (fun _ => 0)), .inl (ct 0, 3, .inl (fun _ => 0)), .inl (ct 0, 3, .inl (fun _ => 0)), .inl (ct 0, 3, .inl (fun _ => 0)), .inl (ct 0, 3, .inl (fun _ => 0)), .inl (ct 0, 4, .inl (upd (upd (upd (upd (fun _ => 0) 0 1) 1 2) 2 4) 3 8)), .inl (ct 0, 3, .inl (upd (fun _ => 0) 0 15))] _ := hP
  refine lv_dup hx hb dX10_init_191 rfl ?_
  refine lv_iconst (v := 1) hx hb dX10_init_192 (by decide) ?_
  refine lv_iconst (v := 1) hx hb dX10_init_193 (by decide) ?_
  refine y_iast (k := 17) C0 hP hS rfl (by decide) dX10_init_194 (fun H locs hP hS => ?_)
  have hP : RP D b [.inr (10, [.int 0, .ref (b + 1), .ref (b + 3), .ref (b + 4), .ref (b + 5), .ref (b + 6), .int 0, .ref (b + 7), .ref (b + 8), .ref (b + 9), .ref (b + 10), .int 0, .ref (b + 11), .ref (b + 12), .ref (b + 13), .ref (b + 14), .ref (b + 15), .ref (b + 16), .null]), .inl (ct 3, 8, .inr (.inr (.inr (.inr (va_up (va_up (va_up (va_up (va_up (va_up (va_up (va_up (fun _ => none) 0 (some (b + 2))) 1 (some (b + 2))) 2 (some (b + 2))) 3 (some (b + 2))) 4 (some (b + 2))) 5 (some (b + 2))) 6 (some (b + 2))) 7 (some (b + 2))))))), .inr (7, [.int 0, .int 0]), .inl (ct 0, 8, .inl (fun _ => 0)), .inl (ct 0, 8, .inl (fun _ => 0)), .inl (ct 0, 8, .inl (fun _ => 0)), .inl (ct 0, 8, .inl (fun _ => 0)), .inl (ct 0, 6, .inl (fun _ => 0)), .inl (ct 0, 6, .inl (fun _ => 0)), .inl (ct 0, 6, .inl (fun _ => 0)), .inl (ct 0, 6, .inl (fun _ => 0)), .inl (ct 0, 3, .inl (fun _ => 0)), .inl (ct 0, 3, .inl (fun _ => 0)), .inl (ct 0, 3, .inl (fun _ => 0)), .inl (ct 0, 3, .inl (fun _ => 0)), .inl (ct 0, 3, .inl (fun _ => 0)), .inl (ct 0, 4, .inl (upd (upd (upd (upd (fun _ => 0) 0 1) 1 2) 2 4) 3 8)), .inl (ct 0, 3, .inl (upd (upd (fun _ => 0) 0 15) 1 1))] _ := hP
  refine lv_dup hx hb dX10_init_195 rfl ?_
  refine lv_iconst (v := 2) hx hb dX10_init_196 (by decide) ?_
  refine lv_iconst (v := 4) hx hb dX10_init_197 (by decide) ?_
  refine y_iast (k := 17) C0 hP hS rfl (by decide) dX10_init_198 (fun H locs hP hS => ?_)
  have hP : RP D b [.inr (10, [.int 0, .ref (b + 1), .ref (b + 3), .ref (b + 4), .ref (b + 5), .ref (b + 6), .int 0, .ref (b + 7), .ref (b + 8), .ref (b + 9), .ref (b + 10), .int 0, .ref (b + 11), .ref (b + 12), .ref (b + 13), .ref (b + 14), .ref (b + 15), .ref (b + 16), .null]), .inl (ct 3, 8, .inr (.inr (.inr (.inr (va_up (va_up (va_up (va_up (va_up (va_up (va_up (va_up (fun _ => none) 0 (some (b + 2))) 1 (some (b + 2))) 2 (some (b + 2))) 3 (some (b + 2))) 4 (some (b + 2))) 5 (some (b + 2))) 6 (some (b + 2))) 7 (some (b + 2))))))), .inr (7, [.int 0, .int 0]), .inl (ct 0, 8, .inl (fun _ => 0)), .inl (ct 0, 8, .inl (fun _ => 0)), .inl (ct 0, 8, .inl (fun _ => 0)), .inl (ct 0, 8, .inl (fun _ => 0)), .inl (ct 0, 6, .inl (fun _ => 0)), .inl (ct 0, 6, .inl (fun _ => 0)), .inl (ct 0, 6, .inl (fun _ => 0)), .inl (ct 0, 6, .inl (fun _ => 0)), .inl (ct 0, 3, .inl (fun _ => 0)), .inl (ct 0, 3, .inl (fun _ => 0)), .inl (ct 0, 3, .inl (fun _ => 0)), .inl (ct 0, 3, .inl (fun _ => 0)), .inl (ct 0, 3, .inl (fun _ => 0)), .inl (ct 0, 4, .inl (upd (upd (upd (upd (fun _ => 0) 0 1) 1 2) 2 4) 3 8)), .inl (ct 0, 3, .inl (upd (upd (upd (fun _ => 0) 0 15) 1 1) 2 4))] _ := hP
  refine y_put (k := 0) C0 hP hS rfl rfl inG10 tyX10 tyX10_ok nmX10 18 (by decide) wd_100 (Or.inr ⟨hin, rfl⟩) rfl rfl (Nat.le_of_ble_eq_true rfl) dX10_init_199 (fun H locs hP hS => ?_)
  have hP : RP D b [.inr (10, [.int 0, .ref (b + 1), .ref (b + 3), .ref (b + 4), .ref (b + 5), .ref (b + 6), .int 0, .ref (b + 7), .ref (b + 8), .ref (b + 9), .ref (b + 10), .int 0, .ref (b + 11), .ref (b + 12), .ref (b + 13), .ref (b + 14), .ref (b + 15), .ref (b + 16), .ref (b + 17)]), .inl (ct 3, 8, .inr (.inr (.inr (.inr (va_up (va_up (va_up (va_up (va_up (va_up (va_up (va_up (fun _ => none) 0 (some (b + 2))) 1 (some (b + 2))) 2 (some (b + 2))) 3 (some (b + 2))) 4 (some (b + 2))) 5 (some (b + 2))) 6 (some (b + 2))) 7 (some (b + 2))))))), .inr (7, [.int 0, .int 0]), .inl (ct 0, 8, .inl (fun _ => 0)), .inl (ct 0, 8, .inl (fun _ => 0)), .inl (ct 0, 8, .inl (fun _ => 0)), .inl (ct 0, 8, .inl (fun _ => 0)), .inl (ct 0, 6, .inl (fun _ => 0)), .inl (ct 0, 6, .inl (fun _ => 0)), .inl (ct 0, 6, .inl (fun _ => 0)), .inl (ct 0, 6, .inl (fun _ => 0)), .inl (ct 0, 3, .inl (fun _ => 0)), .inl (ct 0, 3, .inl (fun _ => 0)), .inl (ct 0, 3, .inl (fun _ => 0)), .inl (ct 0, 3, .inl (fun _ => 0)), .inl (ct 0, 3, .inl (fun _ => 0)), .inl (ct 0, 4, .inl (upd (upd (upd (upd (fun _ => 0) 0 1) 1 2) 2 4) 3 8)), .inl (ct 0, 3, .inl (upd (upd (upd (fun _ => 0) 0 15) 1 1) 2 4))] _ := hP
  exact y_ret C0 hP hS dX10_init_202
end CTORS
