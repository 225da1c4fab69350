/-! The law: <init>. -/
theorem dL_init_0 : decode cL_init 0 = .ok (.aload_n 0, 1) := by decide +kernel
theorem dL_init_1 : decode cL_init 1 = .ok (.invokespecial 1, 3) := by decide +kernel
theorem dL_init_4 : decode cL_init 4 = .ok (.aload_n 0, 1) := by decide +kernel
theorem dL_init_5 : decode cL_init 5 = .ok (.new 7, 3) := by decide +kernel
theorem dL_init_8 : decode cL_init 8 = .ok (.dup, 1) := by decide +kernel
theorem dL_init_9 : decode cL_init 9 = .ok (.invokespecial 9, 3) := by decide +kernel
theorem dL_init_12 : decode cL_init 12 = .ok (.putfield 10, 3) := by decide +kernel
theorem dL_init_15 : decode cL_init 15 = .ok (.aload_n 0, 1) := by decide +kernel
theorem dL_init_16 : decode cL_init 16 = .ok (.bipush 8, 2) := by decide +kernel
theorem dL_init_18 : decode cL_init 18 = .ok (.bipush 6, 2) := by decide +kernel
theorem dL_init_20 : decode cL_init 20 = .ok (.multianewarray 16 2, 4) := by decide +kernel
theorem dL_init_24 : decode cL_init 24 = .ok (.putfield 18, 3) := by decide +kernel
theorem dL_init_27 : decode cL_init 27 = .ok (.aload_n 0, 1) := by decide +kernel
theorem dL_init_28 : decode cL_init 28 = .ok (.bipush 6, 2) := by decide +kernel
theorem dL_init_30 : decode cL_init 30 = .ok (.iconst 4, 1) := by decide +kernel
theorem dL_init_31 : decode cL_init 31 = .ok (.multianewarray 16 2, 4) := by decide +kernel
theorem dL_init_35 : decode cL_init 35 = .ok (.putfield 21, 3) := by decide +kernel
theorem dL_init_38 : decode cL_init 38 = .ok (.aload_n 0, 1) := by decide +kernel
theorem dL_init_39 : decode cL_init 39 = .ok (.iconst 4, 1) := by decide +kernel
theorem dL_init_40 : decode cL_init 40 = .ok (.iconst 5, 1) := by decide +kernel
theorem dL_init_41 : decode cL_init 41 = .ok (.multianewarray 16 2, 4) := by decide +kernel
theorem dL_init_45 : decode cL_init 45 = .ok (.putfield 24, 3) := by decide +kernel
theorem dL_init_48 : decode cL_init 48 = .ok (.aload_n 0, 1) := by decide +kernel
theorem dL_init_49 : decode cL_init 49 = .ok (.iconst 4, 1) := by decide +kernel
theorem dL_init_50 : decode cL_init 50 = .ok (.anewarray 27, 3) := by decide +kernel
theorem dL_init_53 : decode cL_init 53 = .ok (.dup, 1) := by decide +kernel
theorem dL_init_54 : decode cL_init 54 = .ok (.iconst 0, 1) := by decide +kernel
theorem dL_init_55 : decode cL_init 55 = .ok (.iconst 4, 1) := by decide +kernel
theorem dL_init_56 : decode cL_init 56 = .ok (.newarray .boolean, 2) := by decide +kernel
theorem dL_init_58 : decode cL_init 58 = .ok (.dup, 1) := by decide +kernel
theorem dL_init_59 : decode cL_init 59 = .ok (.iconst 0, 1) := by decide +kernel
theorem dL_init_60 : decode cL_init 60 = .ok (.iconst 1, 1) := by decide +kernel
theorem dL_init_61 : decode cL_init 61 = .ok (.bastore, 1) := by decide +kernel
theorem dL_init_62 : decode cL_init 62 = .ok (.dup, 1) := by decide +kernel
theorem dL_init_63 : decode cL_init 63 = .ok (.iconst 1, 1) := by decide +kernel
theorem dL_init_64 : decode cL_init 64 = .ok (.iconst 0, 1) := by decide +kernel
theorem dL_init_65 : decode cL_init 65 = .ok (.bastore, 1) := by decide +kernel
theorem dL_init_66 : decode cL_init 66 = .ok (.dup, 1) := by decide +kernel
theorem dL_init_67 : decode cL_init 67 = .ok (.iconst 2, 1) := by decide +kernel
theorem dL_init_68 : decode cL_init 68 = .ok (.iconst 0, 1) := by decide +kernel
theorem dL_init_69 : decode cL_init 69 = .ok (.bastore, 1) := by decide +kernel
theorem dL_init_70 : decode cL_init 70 = .ok (.dup, 1) := by decide +kernel
theorem dL_init_71 : decode cL_init 71 = .ok (.iconst 3, 1) := by decide +kernel
theorem dL_init_72 : decode cL_init 72 = .ok (.iconst 0, 1) := by decide +kernel
theorem dL_init_73 : decode cL_init 73 = .ok (.bastore, 1) := by decide +kernel
theorem dL_init_74 : decode cL_init 74 = .ok (.aastore, 1) := by decide +kernel
theorem dL_init_75 : decode cL_init 75 = .ok (.dup, 1) := by decide +kernel
theorem dL_init_76 : decode cL_init 76 = .ok (.iconst 1, 1) := by decide +kernel
theorem dL_init_77 : decode cL_init 77 = .ok (.iconst 4, 1) := by decide +kernel
theorem dL_init_78 : decode cL_init 78 = .ok (.newarray .boolean, 2) := by decide +kernel
theorem dL_init_80 : decode cL_init 80 = .ok (.dup, 1) := by decide +kernel
theorem dL_init_81 : decode cL_init 81 = .ok (.iconst 0, 1) := by decide +kernel
theorem dL_init_82 : decode cL_init 82 = .ok (.iconst 0, 1) := by decide +kernel
theorem dL_init_83 : decode cL_init 83 = .ok (.bastore, 1) := by decide +kernel
theorem dL_init_84 : decode cL_init 84 = .ok (.dup, 1) := by decide +kernel
theorem dL_init_85 : decode cL_init 85 = .ok (.iconst 1, 1) := by decide +kernel
theorem dL_init_86 : decode cL_init 86 = .ok (.iconst 1, 1) := by decide +kernel
theorem dL_init_87 : decode cL_init 87 = .ok (.bastore, 1) := by decide +kernel
theorem dL_init_88 : decode cL_init 88 = .ok (.dup, 1) := by decide +kernel
theorem dL_init_89 : decode cL_init 89 = .ok (.iconst 2, 1) := by decide +kernel
theorem dL_init_90 : decode cL_init 90 = .ok (.iconst 0, 1) := by decide +kernel
theorem dL_init_91 : decode cL_init 91 = .ok (.bastore, 1) := by decide +kernel
theorem dL_init_92 : decode cL_init 92 = .ok (.dup, 1) := by decide +kernel
theorem dL_init_93 : decode cL_init 93 = .ok (.iconst 3, 1) := by decide +kernel
theorem dL_init_94 : decode cL_init 94 = .ok (.iconst 0, 1) := by decide +kernel
theorem dL_init_95 : decode cL_init 95 = .ok (.bastore, 1) := by decide +kernel
theorem dL_init_96 : decode cL_init 96 = .ok (.aastore, 1) := by decide +kernel
theorem dL_init_97 : decode cL_init 97 = .ok (.dup, 1) := by decide +kernel
theorem dL_init_98 : decode cL_init 98 = .ok (.iconst 2, 1) := by decide +kernel
theorem dL_init_99 : decode cL_init 99 = .ok (.iconst 4, 1) := by decide +kernel
theorem dL_init_100 : decode cL_init 100 = .ok (.newarray .boolean, 2) := by decide +kernel
theorem dL_init_102 : decode cL_init 102 = .ok (.dup, 1) := by decide +kernel
theorem dL_init_103 : decode cL_init 103 = .ok (.iconst 0, 1) := by decide +kernel
theorem dL_init_104 : decode cL_init 104 = .ok (.iconst 0, 1) := by decide +kernel
theorem dL_init_105 : decode cL_init 105 = .ok (.bastore, 1) := by decide +kernel
theorem dL_init_106 : decode cL_init 106 = .ok (.dup, 1) := by decide +kernel
theorem dL_init_107 : decode cL_init 107 = .ok (.iconst 1, 1) := by decide +kernel
theorem dL_init_108 : decode cL_init 108 = .ok (.iconst 0, 1) := by decide +kernel
theorem dL_init_109 : decode cL_init 109 = .ok (.bastore, 1) := by decide +kernel
theorem dL_init_110 : decode cL_init 110 = .ok (.dup, 1) := by decide +kernel
theorem dL_init_111 : decode cL_init 111 = .ok (.iconst 2, 1) := by decide +kernel
theorem dL_init_112 : decode cL_init 112 = .ok (.iconst 1, 1) := by decide +kernel
theorem dL_init_113 : decode cL_init 113 = .ok (.bastore, 1) := by decide +kernel
theorem dL_init_114 : decode cL_init 114 = .ok (.dup, 1) := by decide +kernel
theorem dL_init_115 : decode cL_init 115 = .ok (.iconst 3, 1) := by decide +kernel
theorem dL_init_116 : decode cL_init 116 = .ok (.iconst 0, 1) := by decide +kernel
theorem dL_init_117 : decode cL_init 117 = .ok (.bastore, 1) := by decide +kernel
theorem dL_init_118 : decode cL_init 118 = .ok (.aastore, 1) := by decide +kernel
theorem dL_init_119 : decode cL_init 119 = .ok (.dup, 1) := by decide +kernel
theorem dL_init_120 : decode cL_init 120 = .ok (.iconst 3, 1) := by decide +kernel
theorem dL_init_121 : decode cL_init 121 = .ok (.iconst 4, 1) := by decide +kernel
theorem dL_init_122 : decode cL_init 122 = .ok (.newarray .boolean, 2) := by decide +kernel
theorem dL_init_124 : decode cL_init 124 = .ok (.dup, 1) := by decide +kernel
theorem dL_init_125 : decode cL_init 125 = .ok (.iconst 0, 1) := by decide +kernel
theorem dL_init_126 : decode cL_init 126 = .ok (.iconst 0, 1) := by decide +kernel
theorem dL_init_127 : decode cL_init 127 = .ok (.bastore, 1) := by decide +kernel
theorem dL_init_128 : decode cL_init 128 = .ok (.dup, 1) := by decide +kernel
theorem dL_init_129 : decode cL_init 129 = .ok (.iconst 1, 1) := by decide +kernel
theorem dL_init_130 : decode cL_init 130 = .ok (.iconst 0, 1) := by decide +kernel
theorem dL_init_131 : decode cL_init 131 = .ok (.bastore, 1) := by decide +kernel
theorem dL_init_132 : decode cL_init 132 = .ok (.dup, 1) := by decide +kernel
theorem dL_init_133 : decode cL_init 133 = .ok (.iconst 2, 1) := by decide +kernel
theorem dL_init_134 : decode cL_init 134 = .ok (.iconst 0, 1) := by decide +kernel
theorem dL_init_135 : decode cL_init 135 = .ok (.bastore, 1) := by decide +kernel
theorem dL_init_136 : decode cL_init 136 = .ok (.dup, 1) := by decide +kernel
theorem dL_init_137 : decode cL_init 137 = .ok (.iconst 3, 1) := by decide +kernel
theorem dL_init_138 : decode cL_init 138 = .ok (.iconst 1, 1) := by decide +kernel
theorem dL_init_139 : decode cL_init 139 = .ok (.bastore, 1) := by decide +kernel
theorem dL_init_140 : decode cL_init 140 = .ok (.aastore, 1) := by decide +kernel
theorem dL_init_141 : decode cL_init 141 = .ok (.putfield 29, 3) := by decide +kernel
theorem dL_init_144 : decode cL_init 144 = .ok (.aload_n 0, 1) := by decide +kernel
theorem dL_init_145 : decode cL_init 145 = .ok (.bipush 15, 2) := by decide +kernel
theorem dL_init_147 : decode cL_init 147 = .ok (.putfield 33, 3) := by decide +kernel
theorem dL_init_150 : decode cL_init 150 = .ok (.aload_n 0, 1) := by decide +kernel
theorem dL_init_151 : decode cL_init 151 = .ok (.iconst 1, 1) := by decide +kernel
theorem dL_init_152 : decode cL_init 152 = .ok (.putfield 37, 3) := by decide +kernel
theorem dL_init_155 : decode cL_init 155 = .ok (.aload_n 0, 1) := by decide +kernel
theorem dL_init_156 : decode cL_init 156 = .ok (.iconst 4, 1) := by decide +kernel
theorem dL_init_157 : decode cL_init 157 = .ok (.putfield 40, 3) := by decide +kernel
theorem dL_init_160 : decode cL_init 160 = .ok (.aload_n 0, 1) := by decide +kernel
theorem dL_init_161 : decode cL_init 161 = .ok (.bipush 63, 2) := by decide +kernel
theorem dL_init_163 : decode cL_init 163 = .ok (.putfield 43, 3) := by decide +kernel
theorem dL_init_166 : decode cL_init 166 = .ok (.aload_n 0, 1) := by decide +kernel
theorem dL_init_167 : decode cL_init 167 = .ok (.bipush 24, 2) := by decide +kernel
theorem dL_init_169 : decode cL_init 169 = .ok (.bipush 8, 2) := by decide +kernel
theorem dL_init_171 : decode cL_init 171 = .ok (.multianewarray 16 2, 4) := by decide +kernel
theorem dL_init_175 : decode cL_init 175 = .ok (.putfield 46, 3) := by decide +kernel
theorem dL_init_178 : decode cL_init 178 = .ok (.return_, 1) := by decide +kernel
set_option maxRecDepth 100000 in
theorem len_11 (ct : Nat → ClassId) (B : Nat) : (cells_X11 ct B).length = 136 := rfl
def Z0 (ct : Nat → ClassId) (b : Nat) : List va_E := ((.inl (ct 5, 8, .inr (.inr (.inr (.inr (fun i => some (b + ((137 + 1) + 1 * i))))))) : va_E) :: List.replicate 8 (.inl (ct 0, 6, .inl (fun _ => 0))))
def Z1 (ct : Nat → ClassId) (b : Nat) : List va_E := ((.inl (ct 5, 6, .inr (.inr (.inr (.inr (fun i => some (b + ((146 + 1) + 1 * i))))))) : va_E) :: List.replicate 6 (.inl (ct 0, 4, .inl (fun _ => 0))))
def Z2 (ct : Nat → ClassId) (b : Nat) : List va_E := ((.inl (ct 5, 4, .inr (.inr (.inr (.inr (fun i => some (b + ((153 + 1) + 1 * i))))))) : va_E) :: List.replicate 4 (.inl (ct 0, 5, .inl (fun _ => 0))))
def ZK (ct : Nat → ClassId) (b : Nat) : List va_E := [(.inl (ct 6, 4, .inr (.inr (.inr (.inr (va_up (va_up (va_up (va_up (fun _ => none) ((0 : Int32).toNatClampNeg) (some (b + 159))) ((1 : Int32).toNatClampNeg) (some (b + 160))) ((2 : Int32).toNatClampNeg) (some (b + 161))) ((3 : Int32).toNatClampNeg) (some (b + 162))))))) : va_E), .inl (ct 2, 4, .inl (upd (upd (upd (upd (fun _ => 0) ((0 : Int32).toNatClampNeg) 1) ((1 : Int32).toNatClampNeg) 0) ((2 : Int32).toNatClampNeg) 0) ((3 : Int32).toNatClampNeg) 0)), .inl (ct 2, 4, .inl (upd (upd (upd (upd (fun _ => 0) ((0 : Int32).toNatClampNeg) 0) ((1 : Int32).toNatClampNeg) 1) ((2 : Int32).toNatClampNeg) 0) ((3 : Int32).toNatClampNeg) 0)), .inl (ct 2, 4, .inl (upd (upd (upd (upd (fun _ => 0) ((0 : Int32).toNatClampNeg) 0) ((1 : Int32).toNatClampNeg) 0) ((2 : Int32).toNatClampNeg) 1) ((3 : Int32).toNatClampNeg) 0)), .inl (ct 2, 4, .inl (upd (upd (upd (upd (fun _ => 0) ((0 : Int32).toNatClampNeg) 0) ((1 : Int32).toNatClampNeg) 0) ((2 : Int32).toNatClampNeg) 0) ((3 : Int32).toNatClampNeg) 1))]
def Z4 (ct : Nat → ClassId) (b : Nat) : List va_E := ((.inl (ct 5, 24, .inr (.inr (.inr (.inr (fun i => some (b + ((163 + 1) + 1 * i))))))) : va_E) :: List.replicate 24 (.inl (ct 0, 8, .inl (fun _ => 0))))
def cells_L (ct : Nat → ClassId) (b : Nat) : List va_E := ((((((cells_X11 ct (b + 1)) ++ Z0 ct b) ++ Z1 ct b) ++ Z2 ct b) ++ ZK ct b) ++ Z4 ct b)
abbrev oL (b : Nat) : va_E := .inr (12, [.ref (b + 1), .int 0, .ref (b + 137), .int 0, .ref (b + 146), .int 0, .ref (b + 153), .ref (b + 158), .int 15, .int 1, .int 4, .int 63, .int 0, .null, .null, .null, .null, .null, .null, .null, .null, .null, .null, .ref (b + 163)])
abbrev nfL : List Value := [.null, .int 0, .null, .int 0, .null, .int 0, .null, .null, .int 0, .int 0, .int 0, .int 0, .int 0, .null, .null, .null, .null, .null, .null, .null, .null, .null, .null, .null]
section CTORL
variable {D : va_G} {ct : Nat → ClassId}
set_option maxRecDepth 100000 in
set_option maxHeartbeats 8000000 in
theorem n_Linit (l : Launch) (b : Nat) : Met l yL_init (Cond.code yL_init cL_init 1 none :: tG) { frames := 4, cells := 187, slots := 2028, locals := 86 } (va_Pc [.ref (b + 0)] (fun U => RPK D ct b [.inr (12, nfL)] U ∧ AZ U)) (va_Qv (fun (_ : Unit) => True) (fun _ t => RPK D ct b (oL b :: cells_L ct b) t) (AB b)) 187 2028 (AB b) := by
  refine mk_metRZ (by decide +kernel) (Nat.le_of_ble_eq_true rfl) (fun p e s m args below meth c ls C0 hP hl hin hZ => ?_)
  have hS : va_S (AB b) s.heap s.heap [] := va_S.rf
  have hl : lv_has ls 1 [(0, .ref (b + 0))] := hl
  have hin : meth.name = "<init>" := hin
  obtain ⟨hx, hb, hr, hml, hown, hts, hK, hlocks, hNs⟩ := id C0
  refine lv_aload_n hx hb dL_init_0 rfl (lv_at hl 0 rfl) ?_
  refine W.objInit hx hb hown (hts _ wd_26) (hts _ wd_27) (hts _ wd_28) rfl (by rw [hml]; exact hl.1) rfl dL_init_1 (Nat.le_of_ble_eq_true rfl) (Nat.le_of_ble_eq_true rfl) ?_
  refine W.eq (g2 := F0 m 4 ls []) rfl ?_
  refine lv_aload_n hx hb dL_init_4 rfl (lv_at hl 0 rfl) ?_
  refine z_new (X := []) (ci := 11) (fs := [.null, .null, .null, .int 0, .null, .null, .null, .null, .null, .null, .null]) C0 hP hS rfl inG11 tyX11 tyX11_ok ⟨wd_29, wd_30, wd_1⟩ (fun j hj => by rcases (show j = 0 ∨ j = 1 ∨ j = 2 ∨ j = 3 ∨ j = 4 ∨ j = 5 ∨ j = 6 ∨ j = 7 ∨ j = 8 ∨ j = 9 ∨ j = 10 by omega) with rfl | rfl | rfl | rfl | rfl | rfl | rfl | rfl | rfl | rfl | rfl <;> rfl) (Nat.le_of_ble_eq_true rfl) (Nat.le_of_ble_eq_true rfl) (n := 1) rfl dL_init_5 (fun H hP hS => ?_)
  refine lv_dup hx hb dL_init_8 rfl ?_
  refine z_ctor (k := 1) (As := []) C0 (n_X11 l (b + 1)) ⟨wd_33, wd_31, wd_32, wd_1⟩ ⟨rfl, kd_X11_init.2⟩ ⟨Nat.le_of_ble_eq_true rfl, Nat.le_of_ble_eq_true rfl⟩ hP rfl rfl hl.1 rfl (Nat.le_of_ble_eq_true rfl) dL_init_9 ⟨Nat.le_of_ble_eq_true rfl, Nat.le_of_ble_eq_true rfl⟩ hS (fun H locs hP hS => ?_)
  obtain ⟨Y0, eY0⟩ : ∃ Y, Y = cells_X11 ct (b + 1) := ⟨_, rfl⟩
  have lY0 : Y0.length + 1 = 137 := by rw [eY0, len_11 ct (b + 1)]
  have hP : RP D b (.inr (12, [.null, .int 0, .null, .int 0, .null, .int 0, .null, .null, .int 0, .int 0, .int 0, .int 0, .int 0, .null, .null, .null, .null, .null, .null, .null, .null, .null, .null, .null]) :: (Y0 ++ ([] : List va_E))) H := by rw [List.append_nil, eY0]; exact hP
  refine z_put (fs1 := [.ref (b + 1), .int 0, .null, .int 0, .null, .int 0, .null, .null, .int 0, .int 0, .int 0, .int 0, .int 0, .null, .null, .null, .null, .null, .null, .null, .null, .null, .null, .null]) C0 hP hS rfl inGL tyL tyL_ok nmL 0 (by decide) wd_249 (Or.inr ⟨hin, rfl⟩) rfl rfl (Nat.le_of_ble_eq_true rfl) rfl dL_init_12 (fun H locs hP hS => ?_)
  refine lv_aload_n hx hb dL_init_15 rfl (lv_at hl 0 rfl) ?_
  refine lv_bipush (v := 8) hx hb dL_init_16 (by decide) ?_
  refine lv_bipush (v := 6) hx hb dL_init_18 (by decide) ?_
  refine w_mna (N' := 8) (K' := 6) C0 lY0 hP hS ⟨wd_246, wd_142⟩ (by decide) (by decide) (by decide) (by decide) (Nat.le_of_ble_eq_true rfl) (Nat.le_of_ble_eq_true rfl) (Nat.le_of_ble_eq_true rfl) (Nat.le_of_ble_eq_true rfl) (Nat.le_of_ble_eq_true rfl) (n := 137) rfl dL_init_20 (fun H hP hS => ?_)
  obtain ⟨Y1, eY1⟩ : ∃ Y, Y = Y0 ++ ((.inl (ct 5, 8, .inr (.inr (.inr (.inr (fun i => some (b + ((137 + 1) + 1 * i))))))) : va_E) :: List.replicate 8 (.inl (ct 0, 6, .inl (fun _ => 0)))) := ⟨_, rfl⟩
  have lY1 : Y1.length + 1 = 146 := by rw [eY1, List.length_append, show (((.inl (ct 5, 8, .inr (.inr (.inr (.inr (fun i => some (b + ((137 + 1) + 1 * i))))))) : va_E) :: List.replicate 8 (.inl (ct 0, 6, .inl (fun _ => 0))))).length = 9 from rfl]; omega
  have hP : RP D b ((.inr (12, [.ref (b + 1), .int 0, .null, .int 0, .null, .int 0, .null, .null, .int 0, .int 0, .int 0, .int 0, .int 0, .null, .null, .null, .null, .null, .null, .null, .null, .null, .null, .null]) : va_E) :: (Y1 ++ ([] : List va_E))) H := by rw [List.append_nil, eY1]; exact hP
  refine z_put (fs1 := [.ref (b + 1), .int 0, .ref (b + 137), .int 0, .null, .int 0, .null, .null, .int 0, .int 0, .int 0, .int 0, .int 0, .null, .null, .null, .null, .null, .null, .null, .null, .null, .null, .null]) C0 hP hS rfl inGL tyL tyL_ok nmL 2 (by decide) wd_251 (Or.inl rfl) rfl rfl (Nat.le_of_ble_eq_true rfl) rfl dL_init_24 (fun H locs hP hS => ?_)
  refine lv_aload_n hx hb dL_init_27 rfl (lv_at hl 0 rfl) ?_
  refine lv_bipush (v := 6) hx hb dL_init_28 (by decide) ?_
  refine lv_iconst (v := 4) hx hb dL_init_30 (by decide) ?_
  refine w_mna (N' := 6) (K' := 4) C0 lY1 hP hS ⟨wd_246, wd_142⟩ (by decide) (by decide) (by decide) (by decide) (Nat.le_of_ble_eq_true rfl) (Nat.le_of_ble_eq_true rfl) (Nat.le_of_ble_eq_true rfl) (Nat.le_of_ble_eq_true rfl) (Nat.le_of_ble_eq_true rfl) (n := 146) rfl dL_init_31 (fun H hP hS => ?_)
  obtain ⟨Y2, eY2⟩ : ∃ Y, Y = Y1 ++ ((.inl (ct 5, 6, .inr (.inr (.inr (.inr (fun i => some (b + ((146 + 1) + 1 * i))))))) : va_E) :: List.replicate 6 (.inl (ct 0, 4, .inl (fun _ => 0)))) := ⟨_, rfl⟩
  have lY2 : Y2.length + 1 = 153 := by rw [eY2, List.length_append, show (((.inl (ct 5, 6, .inr (.inr (.inr (.inr (fun i => some (b + ((146 + 1) + 1 * i))))))) : va_E) :: List.replicate 6 (.inl (ct 0, 4, .inl (fun _ => 0))))).length = 7 from rfl]; omega
  have hP : RP D b ((.inr (12, [.ref (b + 1), .int 0, .ref (b + 137), .int 0, .null, .int 0, .null, .null, .int 0, .int 0, .int 0, .int 0, .int 0, .null, .null, .null, .null, .null, .null, .null, .null, .null, .null, .null]) : va_E) :: (Y2 ++ ([] : List va_E))) H := by rw [List.append_nil, eY2]; exact hP
  refine z_put (fs1 := [.ref (b + 1), .int 0, .ref (b + 137), .int 0, .ref (b + 146), .int 0, .null, .null, .int 0, .int 0, .int 0, .int 0, .int 0, .null, .null, .null, .null, .null, .null, .null, .null, .null, .null, .null]) C0 hP hS rfl inGL tyL tyL_ok nmL 4 (by decide) wd_253 (Or.inr ⟨hin, rfl⟩) rfl rfl (Nat.le_of_ble_eq_true rfl) rfl dL_init_35 (fun H locs hP hS => ?_)
  refine lv_aload_n hx hb dL_init_38 rfl (lv_at hl 0 rfl) ?_
  refine lv_iconst (v := 4) hx hb dL_init_39 (by decide) ?_
  refine lv_iconst (v := 5) hx hb dL_init_40 (by decide) ?_
  refine w_mna (N' := 4) (K' := 5) C0 lY2 hP hS ⟨wd_246, wd_142⟩ (by decide) (by decide) (by decide) (by decide) (Nat.le_of_ble_eq_true rfl) (Nat.le_of_ble_eq_true rfl) (Nat.le_of_ble_eq_true rfl) (Nat.le_of_ble_eq_true rfl) (Nat.le_of_ble_eq_true rfl) (n := 153) rfl dL_init_41 (fun H hP hS => ?_)
  obtain ⟨Y3, eY3⟩ : ∃ Y, Y = Y2 ++ ((.inl (ct 5, 4, .inr (.inr (.inr (.inr (fun i => some (b + ((153 + 1) + 1 * i))))))) : va_E) :: List.replicate 4 (.inl (ct 0, 5, .inl (fun _ => 0)))) := ⟨_, rfl⟩
  have lY3 : Y3.length + 1 = 158 := by rw [eY3, List.length_append, show (((.inl (ct 5, 4, .inr (.inr (.inr (.inr (fun i => some (b + ((153 + 1) + 1 * i))))))) : va_E) :: List.replicate 4 (.inl (ct 0, 5, .inl (fun _ => 0))))).length = 5 from rfl]; omega
  have hP : RP D b ((.inr (12, [.ref (b + 1), .int 0, .ref (b + 137), .int 0, .ref (b + 146), .int 0, .null, .null, .int 0, .int 0, .int 0, .int 0, .int 0, .null, .null, .null, .null, .null, .null, .null, .null, .null, .null, .null]) : va_E) :: (Y3 ++ ([] : List va_E))) H := by rw [List.append_nil, eY3]; exact hP
  refine z_put (fs1 := [.ref (b + 1), .int 0, .ref (b + 137), .int 0, .ref (b + 146), .int 0, .ref (b + 153), .null, .int 0, .int 0, .int 0, .int 0, .int 0, .null, .null, .null, .null, .null, .null, .null, .null, .null, .null, .null]) C0 hP hS rfl inGL tyL tyL_ok nmL 6 (by decide) wd_255 (Or.inr ⟨hin, rfl⟩) rfl rfl (Nat.le_of_ble_eq_true rfl) rfl dL_init_45 (fun H locs hP hS => ?_)
  refine lv_aload_n hx hb dL_init_48 rfl (lv_at hl 0 rfl) ?_
  refine lv_iconst (v := 4) hx hb dL_init_49 (by decide) ?_
  refine w_newA (N := 4) C0 hZ lY3 hP hS wd_247 (by decide) (by decide) (Nat.le_of_ble_eq_true rfl) (Nat.le_of_ble_eq_true rfl) (Nat.le_of_ble_eq_true rfl) (n := 158) rfl dL_init_50 (fun H hP hS => ?_)
  have hP : RP D b ((.inr (12, [.ref (b + 1), .int 0, .ref (b + 137), .int 0, .ref (b + 146), .int 0, .ref (b + 153), .null, .int 0, .int 0, .int 0, .int 0, .int 0, .null, .null, .null, .null, .null, .null, .null, .null, .null, .null, .null]) : va_E) :: (Y3 ++ [(.inl (ct 6, 4, .inr (.inr (.inr (.inr (fun _ => none))))) : va_E)])) H := hP
  refine lv_dup hx hb dL_init_53 rfl ?_
  refine lv_iconst (v := 0) hx hb dL_init_54 (by decide) ?_
  refine lv_iconst (v := 4) hx hb dL_init_55 (by decide) ?_
  refine w_newa (N := 4) C0 lY3 hP hS wd_311 (by decide) (by decide) (by decide) (Nat.le_of_ble_eq_true rfl) (Nat.le_of_ble_eq_true rfl) (n := 159) rfl dL_init_56 (fun H hP hS => ?_)
  have hP : RP D b ((.inr (12, [.ref (b + 1), .int 0, .ref (b + 137), .int 0, .ref (b + 146), .int 0, .ref (b + 153), .null, .int 0, .int 0, .int 0, .int 0, .int 0, .null, .null, .null, .null, .null, .null, .null, .null, .null, .null, .null]) : va_E) :: (Y3 ++ [(.inl (ct 6, 4, .inr (.inr (.inr (.inr (fun _ => none))))) : va_E), .inl (ct 2, 4, .inl (fun _ => 0))])) H := hP
  refine lv_dup hx hb dL_init_58 rfl ?_
  refine lv_iconst (v := 0) hx hb dL_init_59 (by decide) ?_
  refine lv_iconst (v := 1) hx hb dL_init_60 (by decide) ?_
  refine w_bast (i0 := 1) (n := 4) C0 lY3 hP hS rfl rfl (by decide) (by decide) dL_init_61 (fun H locs hP hS => ?_)
  have hP : RP D b ((.inr (12, [.ref (b + 1), .int 0, .ref (b + 137), .int 0, .ref (b + 146), .int 0, .ref (b + 153), .null, .int 0, .int 0, .int 0, .int 0, .int 0, .null, .null, .null, .null, .null, .null, .null, .null, .null, .null, .null]) : va_E) :: (Y3 ++ [(.inl (ct 6, 4, .inr (.inr (.inr (.inr (fun _ => none))))) : va_E), .inl (ct 2, 4, .inl (upd (fun _ => 0) ((0 : Int32).toNatClampNeg) 1))])) H := hP
  refine lv_dup hx hb dL_init_62 rfl ?_
  refine lv_iconst (v := 1) hx hb dL_init_63 (by decide) ?_
  refine lv_iconst (v := 0) hx hb dL_init_64 (by decide) ?_
  refine w_bast (i0 := 1) (n := 4) C0 lY3 hP hS rfl rfl (by decide) (by decide) dL_init_65 (fun H locs hP hS => ?_)
  have hP : RP D b ((.inr (12, [.ref (b + 1), .int 0, .ref (b + 137), .int 0, .ref (b + 146), .int 0, .ref (b + 153), .null, .int 0, .int 0, .int 0, .int 0, .int 0, .null, .null, .null, .null, .null, .null, .null, .null, .null, .null, .null]) : va_E) :: (Y3 ++ [(.inl (ct 6, 4, .inr (.inr (.inr (.inr (fun _ => none))))) : va_E), .inl (ct 2, 4, .inl (upd (upd (fun _ => 0) ((0 : Int32).toNatClampNeg) 1) ((1 : Int32).toNatClampNeg) 0))])) H := hP
  refine lv_dup hx hb dL_init_66 rfl ?_
  refine lv_iconst (v := 2) hx hb dL_init_67 (by decide) ?_
  refine lv_iconst (v := 0) hx hb dL_init_68 (by decide) ?_
  refine w_bast (i0 := 1) (n := 4) C0 lY3 hP hS rfl rfl (by decide) (by decide) dL_init_69 (fun H locs hP hS => ?_)
  have hP : RP D b ((.inr (12, [.ref (b + 1), .int 0, .ref (b + 137), .int 0, .ref (b + 146), .int 0, .ref (b + 153), .null, .int 0, .int 0, .int 0, .int 0, .int 0, .null, .null, .null, .null, .null, .null, .null, .null, .null, .null, .null]) : va_E) :: (Y3 ++ [(.inl (ct 6, 4, .inr (.inr (.inr (.inr (fun _ => none))))) : va_E), .inl (ct 2, 4, .inl (upd (upd (upd (fun _ => 0) ((0 : Int32).toNatClampNeg) 1) ((1 : Int32).toNatClampNeg) 0) ((2 : Int32).toNatClampNeg) 0))])) H := hP
  refine lv_dup hx hb dL_init_70 rfl ?_
  refine lv_iconst (v := 3) hx hb dL_init_71 (by decide) ?_
  refine lv_iconst (v := 0) hx hb dL_init_72 (by decide) ?_
  refine w_bast (i0 := 1) (n := 4) C0 lY3 hP hS rfl rfl (by decide) (by decide) dL_init_73 (fun H locs hP hS => ?_)
  have hP : RP D b ((.inr (12, [.ref (b + 1), .int 0, .ref (b + 137), .int 0, .ref (b + 146), .int 0, .ref (b + 153), .null, .int 0, .int 0, .int 0, .int 0, .int 0, .null, .null, .null, .null, .null, .null, .null, .null, .null, .null, .null]) : va_E) :: (Y3 ++ [(.inl (ct 6, 4, .inr (.inr (.inr (.inr (fun _ => none))))) : va_E), .inl (ct 2, 4, .inl (upd (upd (upd (upd (fun _ => 0) ((0 : Int32).toNatClampNeg) 1) ((1 : Int32).toNatClampNeg) 0) ((2 : Int32).toNatClampNeg) 0) ((3 : Int32).toNatClampNeg) 0))])) H := hP
  refine w_aastA (i0 := 0) (j0 := 1) C0 hZ lY3 hP hS rfl rfl rfl rfl (by decide) dL_init_74 (fun H locs hP hS => ?_)
  have hP : RP D b ((.inr (12, [.ref (b + 1), .int 0, .ref (b + 137), .int 0, .ref (b + 146), .int 0, .ref (b + 153), .null, .int 0, .int 0, .int 0, .int 0, .int 0, .null, .null, .null, .null, .null, .null, .null, .null, .null, .null, .null]) : va_E) :: (Y3 ++ [(.inl (ct 6, 4, .inr (.inr (.inr (.inr (va_up (fun _ => none) ((0 : Int32).toNatClampNeg) (some (b + 159))))))) : va_E), .inl (ct 2, 4, .inl (upd (upd (upd (upd (fun _ => 0) ((0 : Int32).toNatClampNeg) 1) ((1 : Int32).toNatClampNeg) 0) ((2 : Int32).toNatClampNeg) 0) ((3 : Int32).toNatClampNeg) 0))])) H := hP
  refine lv_dup hx hb dL_init_75 rfl ?_
  refine lv_iconst (v := 1) hx hb dL_init_76 (by decide) ?_
  refine lv_iconst (v := 4) hx hb dL_init_77 (by decide) ?_
  refine w_newa (N := 4) C0 lY3 hP hS wd_311 (by decide) (by decide) (by decide) (Nat.le_of_ble_eq_true rfl) (Nat.le_of_ble_eq_true rfl) (n := 160) rfl dL_init_78 (fun H hP hS => ?_)
  have hP : RP D b ((.inr (12, [.ref (b + 1), .int 0, .ref (b + 137), .int 0, .ref (b + 146), .int 0, .ref (b + 153), .null, .int 0, .int 0, .int 0, .int 0, .int 0, .null, .null, .null, .null, .null, .null, .null, .null, .null, .null, .null]) : va_E) :: (Y3 ++ [(.inl (ct 6, 4, .inr (.inr (.inr (.inr (va_up (fun _ => none) ((0 : Int32).toNatClampNeg) (some (b + 159))))))) : va_E), .inl (ct 2, 4, .inl (upd (upd (upd (upd (fun _ => 0) ((0 : Int32).toNatClampNeg) 1) ((1 : Int32).toNatClampNeg) 0) ((2 : Int32).toNatClampNeg) 0) ((3 : Int32).toNatClampNeg) 0)), .inl (ct 2, 4, .inl (fun _ => 0))])) H := hP
  refine lv_dup hx hb dL_init_80 rfl ?_
  refine lv_iconst (v := 0) hx hb dL_init_81 (by decide) ?_
  refine lv_iconst (v := 0) hx hb dL_init_82 (by decide) ?_
  refine w_bast (i0 := 2) (n := 4) C0 lY3 hP hS rfl rfl (by decide) (by decide) dL_init_83 (fun H locs hP hS => ?_)
  have hP : RP D b ((.inr (12, [.ref (b + 1), .int 0, .ref (b + 137), .int 0, .ref (b + 146), .int 0, .ref (b + 153), .null, .int 0, .int 0, .int 0, .int 0, .int 0, .null, .null, .null, .null, .null, .null, .null, .null, .null, .null, .null]) : va_E) :: (Y3 ++ [(.inl (ct 6, 4, .inr (.inr (.inr (.inr (va_up (fun _ => none) ((0 : Int32).toNatClampNeg) (some (b + 159))))))) : va_E), .inl (ct 2, 4, .inl (upd (upd (upd (upd (fun _ => 0) ((0 : Int32).toNatClampNeg) 1) ((1 : Int32).toNatClampNeg) 0) ((2 : Int32).toNatClampNeg) 0) ((3 : Int32).toNatClampNeg) 0)), .inl (ct 2, 4, .inl (upd (fun _ => 0) ((0 : Int32).toNatClampNeg) 0))])) H := hP
  refine lv_dup hx hb dL_init_84 rfl ?_
  refine lv_iconst (v := 1) hx hb dL_init_85 (by decide) ?_
  refine lv_iconst (v := 1) hx hb dL_init_86 (by decide) ?_
  refine w_bast (i0 := 2) (n := 4) C0 lY3 hP hS rfl rfl (by decide) (by decide) dL_init_87 (fun H locs hP hS => ?_)
  have hP : RP D b ((.inr (12, [.ref (b + 1), .int 0, .ref (b + 137), .int 0, .ref (b + 146), .int 0, .ref (b + 153), .null, .int 0, .int 0, .int 0, .int 0, .int 0, .null, .null, .null, .null, .null, .null, .null, .null, .null, .null, .null]) : va_E) :: (Y3 ++ [(.inl (ct 6, 4, .inr (.inr (.inr (.inr (va_up (fun _ => none) ((0 : Int32).toNatClampNeg) (some (b + 159))))))) : va_E), .inl (ct 2, 4, .inl (upd (upd (upd (upd (fun _ => 0) ((0 : Int32).toNatClampNeg) 1) ((1 : Int32).toNatClampNeg) 0) ((2 : Int32).toNatClampNeg) 0) ((3 : Int32).toNatClampNeg) 0)), .inl (ct 2, 4, .inl (upd (upd (fun _ => 0) ((0 : Int32).toNatClampNeg) 0) ((1 : Int32).toNatClampNeg) 1))])) H := hP
  refine lv_dup hx hb dL_init_88 rfl ?_
  refine lv_iconst (v := 2) hx hb dL_init_89 (by decide) ?_
  refine lv_iconst (v := 0) hx hb dL_init_90 (by decide) ?_
  refine w_bast (i0 := 2) (n := 4) C0 lY3 hP hS rfl rfl (by decide) (by decide) dL_init_91 (fun H locs hP hS => ?_)
  have hP : RP D b ((.inr (12, [.ref (b + 1), .int 0, .ref (b + 137), .int 0, .ref (b + 146), .int 0, .ref (b + 153), .null, .int 0, .int 0, .int 0, .int 0, .int 0, .null, .null, .null, .null, .null, .null, .null, .null, .null, .null, .null]) : va_E) :: (Y3 ++ [(.inl (ct 6, 4, .inr (.inr (.inr (.inr (va_up (fun _ => none) ((0 : Int32).toNatClampNeg) (some (b + 159))))))) : va_E), .inl (ct 2, 4, .inl (upd (upd (upd (upd (fun _ => 0) ((0 : Int32).toNatClampNeg) 1) ((1 : Int32).toNatClampNeg) 0) ((2 : Int32).toNatClampNeg) 0) ((3 : Int32).toNatClampNeg) 0)), .inl (ct 2, 4, .inl (upd (upd (upd (fun _ => 0) ((0 : Int32).toNatClampNeg) 0) ((1 : Int32).toNatClampNeg) 1) ((2 : Int32).toNatClampNeg) 0))])) H := hP
  refine lv_dup hx hb dL_init_92 rfl ?_
  refine lv_iconst (v := 3) hx hb dL_init_93 (by decide) ?_
  refine lv_iconst (v := 0) hx hb dL_init_94 (by decide) ?_
  refine w_bast (i0 := 2) (n := 4) C0 lY3 hP hS rfl rfl (by decide) (by decide) dL_init_95 (fun H locs hP hS => ?_)
  have hP : RP D b ((.inr (12, [.ref (b + 1), .int 0, .ref (b + 137), .int 0, .ref (b + 146), .int 0, .ref (b + 153), .null, .int 0, .int 0, .int 0, .int 0, .int 0, .null, .null, .null, .null, .null, .null, .null, .null, .null, .null, .null]) : va_E) :: (Y3 ++ [(.inl (ct 6, 4, .inr (.inr (.inr (.inr (va_up (fun _ => none) ((0 : Int32).toNatClampNeg) (some (b + 159))))))) : va_E), .inl (ct 2, 4, .inl (upd (upd (upd (upd (fun _ => 0) ((0 : Int32).toNatClampNeg) 1) ((1 : Int32).toNatClampNeg) 0) ((2 : Int32).toNatClampNeg) 0) ((3 : Int32).toNatClampNeg) 0)), .inl (ct 2, 4, .inl (upd (upd (upd (upd (fun _ => 0) ((0 : Int32).toNatClampNeg) 0) ((1 : Int32).toNatClampNeg) 1) ((2 : Int32).toNatClampNeg) 0) ((3 : Int32).toNatClampNeg) 0))])) H := hP
  refine w_aastA (i0 := 0) (j0 := 2) C0 hZ lY3 hP hS rfl rfl rfl rfl (by decide) dL_init_96 (fun H locs hP hS => ?_)
  have hP : RP D b ((.inr (12, [.ref (b + 1), .int 0, .ref (b + 137), .int 0, .ref (b + 146), .int 0, .ref (b + 153), .null, .int 0, .int 0, .int 0, .int 0, .int 0, .null, .null, .null, .null, .null, .null, .null, .null, .null, .null, .null]) : va_E) :: (Y3 ++ [(.inl (ct 6, 4, .inr (.inr (.inr (.inr (va_up (va_up (fun _ => none) ((0 : Int32).toNatClampNeg) (some (b + 159))) ((1 : Int32).toNatClampNeg) (some (b + 160))))))) : va_E), .inl (ct 2, 4, .inl (upd (upd (upd (upd (fun _ => 0) ((0 : Int32).toNatClampNeg) 1) ((1 : Int32).toNatClampNeg) 0) ((2 : Int32).toNatClampNeg) 0) ((3 : Int32).toNatClampNeg) 0)), .inl (ct 2, 4, .inl (upd (upd (upd (upd (fun _ => 0) ((0 : Int32).toNatClampNeg) 0) ((1 : Int32).toNatClampNeg) 1) ((2 : Int32).toNatClampNeg) 0) ((3 : Int32).toNatClampNeg) 0))])) H := hP
  refine lv_dup hx hb dL_init_97 rfl ?_
  refine lv_iconst (v := 2) hx hb dL_init_98 (by decide) ?_
  refine lv_iconst (v := 4) hx hb dL_init_99 (by decide) ?_
  refine w_newa (N := 4) C0 lY3 hP hS wd_311 (by decide) (by decide) (by decide) (Nat.le_of_ble_eq_true rfl) (Nat.le_of_ble_eq_true rfl) (n := 161) rfl dL_init_100 (fun H hP hS => ?_)
  have hP : RP D b ((.inr (12, [.ref (b + 1), .int 0, .ref (b + 137), .int 0, .ref (b + 146), .int 0, .ref (b + 153), .null, .int 0, .int 0, .int 0, .int 0, .int 0, .null, .null, .null, .null, .null, .null, .null, .null, .null, .null, .null]) : va_E) :: (Y3 ++ [(.inl (ct 6, 4, .inr (.inr (.inr (.inr (va_up (va_up (fun _ => none) ((0 : Int32).toNatClampNeg) (some (b + 159))) ((1 : Int32).toNatClampNeg) (some (b + 160))))))) : va_E), .inl (ct 2, 4, .inl (upd (upd (upd (upd (fun _ => 0) ((0 : Int32).toNatClampNeg) 1) ((1 : Int32).toNatClampNeg) 0) ((2 : Int32).toNatClampNeg) 0) ((3 : Int32).toNatClampNeg) 0)), .inl (ct 2, 4, .inl (upd (upd (upd (upd (fun _ => 0) ((0 : Int32).toNatClampNeg) 0) ((1 : Int32).toNatClampNeg) 1) ((2 : Int32).toNatClampNeg) 0) ((3 : Int32).toNatClampNeg) 0)), .inl (ct 2, 4, .inl (fun _ => 0))])) H := hP
  refine lv_dup hx hb dL_init_102 rfl ?_
  refine lv_iconst (v := 0) hx hb dL_init_103 (by decide) ?_
  refine lv_iconst (v := 0) hx hb dL_init_104 (by decide) ?_
  refine w_bast (i0 := 3) (n := 4) C0 lY3 hP hS rfl rfl (by decide) (by decide) dL_init_105 (fun H locs hP hS => ?_)
  have hP : RP D b ((.inr (12, [.ref (b + 1), .int 0, .ref (b + 137), .int 0, .ref (b + 146), .int 0, .ref (b + 153), .null, .int 0, .int 0, .int 0, .int 0, .int 0, .null, .null, .null, .null, .null, .null, .null, .null, .null, .null, .null]) : va_E) :: (Y3 ++ [(.inl (ct 6, 4, .inr (.inr (.inr (.inr (va_up (va_up (fun _ => none) ((0 : Int32).toNatClampNeg) (some (b + 159))) ((1 : Int32).toNatClampNeg) (some (b + 160))))))) : va_E), .inl (ct 2, 4, .inl (upd (upd (upd (upd (fun _ => 0) ((0 : Int32).toNatClampNeg) 1) ((1 : Int32).toNatClampNeg) 0) ((2 : Int32).toNatClampNeg) 0) ((3 : Int32).toNatClampNeg) 0)), .inl (ct 2, 4, .inl (upd (upd (upd (upd (fun _ => 0) ((0 : Int32).toNatClampNeg) 0) ((1 : Int32).toNatClampNeg) 1) ((2 : Int32).toNatClampNeg) 0) ((3 : Int32).toNatClampNeg) 0)), .inl (ct 2, 4, .inl (upd (fun _ => 0) ((0 : Int32).toNatClampNeg) 0))])) H := hP
  refine lv_dup hx hb dL_init_106 rfl ?_
  refine lv_iconst (v := 1) hx hb dL_init_107 (by decide) ?_
  refine lv_iconst (v := 0) hx hb dL_init_108 (by decide) ?_
  refine w_bast (i0 := 3) (n := 4) C0 lY3 hP hS rfl rfl (by decide) (by decide) dL_init_109 (fun H locs hP hS => ?_)
  have hP : RP D b ((.inr (12, [.ref (b + 1), .int 0, .ref (b + 137), .int 0, .ref (b + 146), .int 0, .ref (b + 153), .null, .int 0, .int 0, .int 0, .int 0, .int 0, .null, .null, .null, .null, .null, .null, .null, .null, .null, .null, .null]) : va_E) :: (Y3 ++ [(.inl (ct 6, 4, .inr (.inr (.inr (.inr (va_up (va_up (fun _ => none) ((0 : Int32).toNatClampNeg) (some (b + 159))) ((1 : Int32).toNatClampNeg) (some (b + 160))))))) : va_E), .inl (ct 2, 4, .inl (upd (upd (upd (upd (fun _ => 0) ((0 : Int32).toNatClampNeg) 1) ((1 : Int32).toNatClampNeg) 0) ((2 : Int32).toNatClampNeg) 0) ((3 : Int32).toNatClampNeg) 0)), .inl (ct 2, 4, .inl (upd (upd (upd (upd (fun _ => 0) ((0 : Int32).toNatClampNeg) 0) ((1 : Int32).toNatClampNeg) 1) ((2 : Int32).toNatClampNeg) 0) ((3 : Int32).toNatClampNeg) 0)), .inl (ct 2, 4, .inl (upd (upd (fun _ => 0) ((0 : Int32).toNatClampNeg) 0) ((1 : Int32).toNatClampNeg) 0))])) H := hP
  refine lv_dup hx hb dL_init_110 rfl ?_
  refine lv_iconst (v := 2) hx hb dL_init_111 (by decide) ?_
  refine lv_iconst (v := 1) hx hb dL_init_112 (by decide) ?_
  refine w_bast (i0 := 3) (n := 4) C0 lY3 hP hS rfl rfl (by decide) (by decide) dL_init_113 (fun H locs hP hS => ?_)
  have hP : RP D b ((.inr (12, [.ref (b + 1), .int 0, .ref (b + 137), .int 0, .ref (b + 146), .int 0, .ref (b + 153), .null, .int 0, .int 0, .int 0, .int 0, .int 0, .null, .null, .null, .null, .null, .null, .null, .null, .null, .null, .null]) : va_E) :: (Y3 ++ [(.inl (ct 6, 4, .inr (.inr (.inr (.inr (va_up (va_up (fun _ => none) ((0 : Int32).toNatClampNeg) (some (b + 159))) ((1 : Int32).toNatClampNeg) (some (b + 160))))))) : va_E), .inl (ct 2, 4, .inl (upd (upd (upd (upd (fun _ => 0) ((0 : Int32).toNatClampNeg) 1) ((1 : Int32).toNatClampNeg) 0) ((2 : Int32).toNatClampNeg) 0) ((3 : Int32).toNatClampNeg) 0)), .inl (ct 2, 4, .inl (upd (upd (upd (upd (fun _ => 0) ((0 : Int32).toNatClampNeg) 0) ((1 : Int32).toNatClampNeg) 1) ((2 : Int32).toNatClampNeg) 0) ((3 : Int32).toNatClampNeg) 0)), .inl (ct 2, 4, .inl (upd (upd (upd (fun _ => 0) ((0 : Int32).toNatClampNeg) 0) ((1 : Int32).toNatClampNeg) 0) ((2 : Int32).toNatClampNeg) 1))])) H := hP
  refine lv_dup hx hb dL_init_114 rfl ?_
  refine lv_iconst (v := 3) hx hb dL_init_115 (by decide) ?_
  refine lv_iconst (v := 0) hx hb dL_init_116 (by decide) ?_
  refine w_bast (i0 := 3) (n := 4) C0 lY3 hP hS rfl rfl (by decide) (by decide) dL_init_117 (fun H locs hP hS => ?_)
  have hP : RP D b ((.inr (12, [.ref (b + 1), .int 0, .ref (b + 137), .int 0, .ref (b + 146), .int 0, .ref (b + 153), .null, .int 0, .int 0, .int 0, .int 0, .int 0, .null, .null, .null, .null, .null, .null, .null, .null, .null, .null, .null]) : va_E) :: (Y3 ++ [(.inl (ct 6, 4, .inr (.inr (.inr (.inr (va_up (va_up (fun _ => none) ((0 : Int32).toNatClampNeg) (some (b + 159))) ((1 : Int32).toNatClampNeg) (some (b + 160))))))) : va_E), .inl (ct 2, 4, .inl (upd (upd (upd (upd (fun _ => 0) ((0 : Int32).toNatClampNeg) 1) ((1 : Int32).toNatClampNeg) 0) ((2 : Int32).toNatClampNeg) 0) ((3 : Int32).toNatClampNeg) 0)), .inl (ct 2, 4, .inl (upd (upd (upd (upd (fun _ => 0) ((0 : Int32).toNatClampNeg) 0) ((1 : Int32).toNatClampNeg) 1) ((2 : Int32).toNatClampNeg) 0) ((3 : Int32).toNatClampNeg) 0)), .inl (ct 2, 4, .inl (upd (upd (upd (upd (fun _ => 0) ((0 : Int32).toNatClampNeg) 0) ((1 : Int32).toNatClampNeg) 0) ((2 : Int32).toNatClampNeg) 1) ((3 : Int32).toNatClampNeg) 0))])) H := hP
  refine w_aastA (i0 := 0) (j0 := 3) C0 hZ lY3 hP hS rfl rfl rfl rfl (by decide) dL_init_118 (fun H locs hP hS => ?_)
  have hP : RP D b ((.inr (12, [.ref (b + 1), .int 0, .ref (b + 137), .int 0, .ref (b + 146), .int 0, .ref (b + 153), .null, .int 0, .int 0, .int 0, .int 0, .int 0, .null, .null, .null, .null, .null, .null, .null, .null, .null, .null, .null]) : va_E) :: (Y3 ++ [(.inl (ct 6, 4, .inr (.inr (.inr (.inr (va_up (va_up (va_up (fun _ => none) ((0 : Int32).toNatClampNeg) (some (b + 159))) ((1 : Int32).toNatClampNeg) (some (b + 160))) ((2 : Int32).toNatClampNeg) (some (b + 161))))))) : va_E), .inl (ct 2, 4, .inl (upd (upd (upd (upd (fun _ => 0) ((0 : Int32).toNatClampNeg) 1) ((1 : Int32).toNatClampNeg) 0) ((2 : Int32).toNatClampNeg) 0) ((3 : Int32).toNatClampNeg) 0)), .inl (ct 2, 4, .inl (upd (upd (upd (upd (fun _ => 0) ((0 : Int32).toNatClampNeg) 0) ((1 : Int32).toNatClampNeg) 1) ((2 : Int32).toNatClampNeg) 0) ((3 : Int32).toNatClampNeg) 0)), .inl (ct 2, 4, .inl (upd (upd (upd (upd (fun _ => 0) ((0 : Int32).toNatClampNeg) 0) ((1 : Int32).toNatClampNeg) 0) ((2 : Int32).toNatClampNeg) 1) ((3 : Int32).toNatClampNeg) 0))])) H := hP
  refine lv_dup hx hb dL_init_119 rfl ?_
  refine lv_iconst (v := 3) hx hb dL_init_120 (by decide) ?_
  refine lv_iconst (v := 4) hx hb dL_init_121 (by decide) ?_
  refine w_newa (N := 4) C0 lY3 hP hS wd_311 (by decide) (by decide) (by decide) (Nat.le_of_ble_eq_true rfl) (Nat.le_of_ble_eq_true rfl) (n := 162) rfl dL_init_122 (fun H hP hS => ?_)
  have hP : RP D b ((.inr (12, [.ref (b + 1), .int 0, .ref (b + 137), .int 0, .ref (b + 146), .int 0, .ref (b + 153), .null, .int 0, .int 0, .int 0, .int 0, .int 0, .null, .null, .null, .null, .null, .null, .null, .null, .null, .null, .null]) : va_E) :: (Y3 ++ [(.inl (ct 6, 4, .inr (.inr (.inr (.inr (va_up (va_up (va_up (fun _ => none) ((0 : Int32).toNatClampNeg) (some (b + 159))) ((1 : Int32).toNatClampNeg) (some (b + 160))) ((2 : Int32).toNatClampNeg) (some (b + 161))))))) : va_E), .inl (ct 2, 4, .inl (upd (upd (upd (upd (fun _ => 0) ((0 : Int32).toNatClampNeg) 1) ((1 : Int32).toNatClampNeg) 0) ((2 : Int32).toNatClampNeg) 0) ((3 : Int32).toNatClampNeg) 0)), .inl (ct 2, 4, .inl (upd (upd (upd (upd (fun _ => 0) ((0 : Int32).toNatClampNeg) 0) ((1 : Int32).toNatClampNeg) 1) ((2 : Int32).toNatClampNeg) 0) ((3 : Int32).toNatClampNeg) 0)), .inl (ct 2, 4, .inl (upd (upd (upd (upd (fun _ => 0) ((0 : Int32).toNatClampNeg) 0) ((1 : Int32).toNatClampNeg) 0) ((2 : Int32).toNatClampNeg) 1) ((3 : Int32).toNatClampNeg) 0)), .inl (ct 2, 4, .inl (fun _ => 0))])) H := hP
  refine lv_dup hx hb dL_init_124 rfl ?_
  refine lv_iconst (v := 0) hx hb dL_init_125 (by decide) ?_
  refine lv_iconst (v := 0) hx hb dL_init_126 (by decide) ?_
  refine w_bast (i0 := 4) (n := 4) C0 lY3 hP hS rfl rfl (by decide) (by decide) dL_init_127 (fun H locs hP hS => ?_)
  have hP : RP D b ((.inr (12, [.ref (b + 1), .int 0, .ref (b + 137), .int 0, .ref (b + 146), .int 0, .ref (b + 153), .null, .int 0, .int 0, .int 0, .int 0, .int 0, .null, .null, .null, .null, .null, .null, .null, .null, .null, .null, .null]) : va_E) :: (Y3 ++ [(.inl (ct 6, 4, .inr (.inr (.inr (.inr (va_up (va_up (va_up (fun _ => none) ((0 : Int32).toNatClampNeg) (some (b + 159))) ((1 : Int32).toNatClampNeg) (some (b + 160))) ((2 : Int32).toNatClampNeg) (some (b + 161))))))) : va_E), .inl (ct 2, 4, .inl (upd (upd (upd (upd (fun _ => 0) ((0 : Int32).toNatClampNeg) 1) ((1 : Int32).toNatClampNeg) 0) ((2 : Int32).toNatClampNeg) 0) ((3 : Int32).toNatClampNeg) 0)), .inl (ct 2, 4, .inl (upd (upd (upd (upd (fun _ => 0) ((0 : Int32).toNatClampNeg) 0) ((1 : Int32).toNatClampNeg) 1) ((2 : Int32).toNatClampNeg) 0) ((3 : Int32).toNatClampNeg) 0)), .inl (ct 2, 4, .inl (upd (upd (upd (upd (fun _ => 0) ((0 : Int32).toNatClampNeg) 0) ((1 : Int32).toNatClampNeg) 0) ((2 : Int32).toNatClampNeg) 1) ((3 : Int32).toNatClampNeg) 0)), .inl (ct 2, 4, .inl (upd (fun _ => 0) ((0 : Int32).toNatClampNeg) 0))])) H := hP
  refine lv_dup hx hb dL_init_128 rfl ?_
  refine lv_iconst (v := 1) hx hb dL_init_129 (by decide) ?_
  refine lv_iconst (v := 0) hx hb dL_init_130 (by decide) ?_
  refine w_bast (i0 := 4) (n := 4) C0 lY3 hP hS rfl rfl (by decide) (by decide) dL_init_131 (fun H locs hP hS => ?_)
  have hP : RP D b ((.inr (12, [.ref (b + 1), .int 0, .ref (b + 137), .int 0, .ref (b + 146), .int 0, .ref (b + 153), .null, .int 0, .int 0, .int 0, .int 0, .int 0, .null, .null, .null, .null, .null, .null, .null, .null, .null, .null, .null]) : va_E) :: (Y3 ++ [(.inl (ct 6, 4, .inr (.inr (.inr (.inr (va_up (va_up (va_up (fun _ => none) ((0 : Int32).toNatClampNeg) (some (b + 159))) ((1 : Int32).toNatClampNeg) (some (b + 160))) ((2 : Int32).toNatClampNeg) (some (b + 161))))))) : va_E), .inl (ct 2, 4, .inl (upd (upd (upd (upd (fun _ => 0) ((0 : Int32).toNatClampNeg) 1) ((1 : Int32).toNatClampNeg) 0) ((2 : Int32).toNatClampNeg) 0) ((3 : Int32).toNatClampNeg) 0)), .inl (ct 2, 4, .inl (upd (upd (upd (upd (fun _ => 0) ((0 : Int32).toNatClampNeg) 0) ((1 : Int32).toNatClampNeg) 1) ((2 : Int32).toNatClampNeg) 0) ((3 : Int32).toNatClampNeg) 0)), .inl (ct 2, 4, .inl (upd (upd (upd (upd (fun _ => 0) ((0 : Int32).toNatClampNeg) 0) ((1 : Int32).toNatClampNeg) 0) ((2 : Int32).toNatClampNeg) 1) ((3 : Int32).toNatClampNeg) 0)), .inl (ct 2, 4, .inl (upd (upd (fun _ => 0) ((0 : Int32).toNatClampNeg) 0) ((1 : Int32).toNatClampNeg) 0))])) H := hP
  refine lv_dup hx hb dL_init_132 rfl ?_
  refine lv_iconst (v := 2) hx hb dL_init_133 (by decide) ?_
  refine lv_iconst (v := 0) hx hb dL_init_134 (by decide) ?_
  refine w_bast (i0 := 4) (n := 4) C0 lY3 hP hS rfl rfl (by decide) (by decide) dL_init_135 (fun H locs hP hS => ?_)
  have hP : RP D b ((.inr (12, [.ref (b + 1), .int 0, .ref (b + 137), .int 0, .ref (b + 146), .int 0, .ref (b + 153), .null, .int 0, .int 0, .int 0, .int 0, .int 0, .null, .null, .null, .null, .null, .null, .null, .null, .null, .null, .null]) : va_E) :: (Y3 ++ [(.inl (ct 6, 4, .inr (.inr (.inr (.inr (va_up (va_up (va_up (fun _ => none) ((0 : Int32).toNatClampNeg) (some (b + 159))) ((1 : Int32).toNatClampNeg) (some (b + 160))) ((2 : Int32).toNatClampNeg) (some (b + 161))))))) : va_E), .inl (ct 2, 4, .inl (upd (upd (upd (upd (fun _ => 0) ((0 : Int32).toNatClampNeg) 1) ((1 : Int32).toNatClampNeg) 0) ((2 : Int32).toNatClampNeg) 0) ((3 : Int32).toNatClampNeg) 0)), .inl (ct 2, 4, .inl (upd (upd (upd (upd (fun _ => 0) ((0 : Int32).toNatClampNeg) 0) ((1 : Int32).toNatClampNeg) 1) ((2 : Int32).toNatClampNeg) 0) ((3 : Int32).toNatClampNeg) 0)), .inl (ct 2, 4, .inl (upd (upd (upd (upd (fun _ => 0) ((0 : Int32).toNatClampNeg) 0) ((1 : Int32).toNatClampNeg) 0) ((2 : Int32).toNatClampNeg) 1) ((3 : Int32).toNatClampNeg) 0)), .inl (ct 2, 4, .inl (upd (upd (upd (fun _ => 0) ((0 : Int32).toNatClampNeg) 0) ((1 : Int32).toNatClampNeg) 0) ((2 : Int32).toNatClampNeg) 0))])) H := hP
  refine lv_dup hx hb dL_init_136 rfl ?_
  refine lv_iconst (v := 3) hx hb dL_init_137 (by decide) ?_
  refine lv_iconst (v := 1) hx hb dL_init_138 (by decide) ?_
  refine w_bast (i0 := 4) (n := 4) C0 lY3 hP hS rfl rfl (by decide) (by decide) dL_init_139 (fun H locs hP hS => ?_)
  have hP : RP D b ((.inr (12, [.ref (b + 1), .int 0, .ref (b + 137), .int 0, .ref (b + 146), .int 0, .ref (b + 153), .null, .int 0, .int 0, .int 0, .int 0, .int 0, .null, .null, .null, .null, .null, .null, .null, .null, .null, .null, .null]) : va_E) :: (Y3 ++ [(.inl (ct 6, 4, .inr (.inr (.inr (.inr (va_up (va_up (va_up (fun _ => none) ((0 : Int32).toNatClampNeg) (some (b + 159))) ((1 : Int32).toNatClampNeg) (some (b + 160))) ((2 : Int32).toNatClampNeg) (some (b + 161))))))) : va_E), .inl (ct 2, 4, .inl (upd (upd (upd (upd (fun _ => 0) ((0 : Int32).toNatClampNeg) 1) ((1 : Int32).toNatClampNeg) 0) ((2 : Int32).toNatClampNeg) 0) ((3 : Int32).toNatClampNeg) 0)), .inl (ct 2, 4, .inl (upd (upd (upd (upd (fun _ => 0) ((0 : Int32).toNatClampNeg) 0) ((1 : Int32).toNatClampNeg) 1) ((2 : Int32).toNatClampNeg) 0) ((3 : Int32).toNatClampNeg) 0)), .inl (ct 2, 4, .inl (upd (upd (upd (upd (fun _ => 0) ((0 : Int32).toNatClampNeg) 0) ((1 : Int32).toNatClampNeg) 0) ((2 : Int32).toNatClampNeg) 1) ((3 : Int32).toNatClampNeg) 0)), .inl (ct 2, 4, .inl (upd (upd (upd (upd (fun _ => 0) ((0 : Int32).toNatClampNeg) 0) ((1 : Int32).toNatClampNeg) 0) ((2 : Int32).toNatClampNeg) 0) ((3 : Int32).toNatClampNeg) 1))])) H := hP
  refine w_aastA (i0 := 0) (j0 := 4) C0 hZ lY3 hP hS rfl rfl rfl rfl (by decide) dL_init_140 (fun H locs hP hS => ?_)
  have hP : RP D b ((.inr (12, [.ref (b + 1), .int 0, .ref (b + 137), .int 0, .ref (b + 146), .int 0, .ref (b + 153), .null, .int 0, .int 0, .int 0, .int 0, .int 0, .null, .null, .null, .null, .null, .null, .null, .null, .null, .null, .null]) : va_E) :: (Y3 ++ [(.inl (ct 6, 4, .inr (.inr (.inr (.inr (va_up (va_up (va_up (va_up (fun _ => none) ((0 : Int32).toNatClampNeg) (some (b + 159))) ((1 : Int32).toNatClampNeg) (some (b + 160))) ((2 : Int32).toNatClampNeg) (some (b + 161))) ((3 : Int32).toNatClampNeg) (some (b + 162))))))) : va_E), .inl (ct 2, 4, .inl (upd (upd (upd (upd (fun _ => 0) ((0 : Int32).toNatClampNeg) 1) ((1 : Int32).toNatClampNeg) 0) ((2 : Int32).toNatClampNeg) 0) ((3 : Int32).toNatClampNeg) 0)), .inl (ct 2, 4, .inl (upd (upd (upd (upd (fun _ => 0) ((0 : Int32).toNatClampNeg) 0) ((1 : Int32).toNatClampNeg) 1) ((2 : Int32).toNatClampNeg) 0) ((3 : Int32).toNatClampNeg) 0)), .inl (ct 2, 4, .inl (upd (upd (upd (upd (fun _ => 0) ((0 : Int32).toNatClampNeg) 0) ((1 : Int32).toNatClampNeg) 0) ((2 : Int32).toNatClampNeg) 1) ((3 : Int32).toNatClampNeg) 0)), .inl (ct 2, 4, .inl (upd (upd (upd (upd (fun _ => 0) ((0 : Int32).toNatClampNeg) 0) ((1 : Int32).toNatClampNeg) 0) ((2 : Int32).toNatClampNeg) 0) ((3 : Int32).toNatClampNeg) 1))])) H := hP
  obtain ⟨Y4, eY4⟩ : ∃ Y, Y = Y3 ++ [(.inl (ct 6, 4, .inr (.inr (.inr (.inr (va_up (va_up (va_up (va_up (fun _ => none) ((0 : Int32).toNatClampNeg) (some (b + 159))) ((1 : Int32).toNatClampNeg) (some (b + 160))) ((2 : Int32).toNatClampNeg) (some (b + 161))) ((3 : Int32).toNatClampNeg) (some (b + 162))))))) : va_E), .inl (ct 2, 4, .inl (upd (upd (upd (upd (fun _ => 0) ((0 : Int32).toNatClampNeg) 1) ((1 : Int32).toNatClampNeg) 0) ((2 : Int32).toNatClampNeg) 0) ((3 : Int32).toNatClampNeg) 0)), .inl (ct 2, 4, .inl (upd (upd (upd (upd (fun _ => 0) ((0 : Int32).toNatClampNeg) 0) ((1 : Int32).toNatClampNeg) 1) ((2 : Int32).toNatClampNeg) 0) ((3 : Int32).toNatClampNeg) 0)), .inl (ct 2, 4, .inl (upd (upd (upd (upd (fun _ => 0) ((0 : Int32).toNatClampNeg) 0) ((1 : Int32).toNatClampNeg) 0) ((2 : Int32).toNatClampNeg) 1) ((3 : Int32).toNatClampNeg) 0)), .inl (ct 2, 4, .inl (upd (upd (upd (upd (fun _ => 0) ((0 : Int32).toNatClampNeg) 0) ((1 : Int32).toNatClampNeg) 0) ((2 : Int32).toNatClampNeg) 0) ((3 : Int32).toNatClampNeg) 1))] := ⟨_, rfl⟩
  have lY4 : Y4.length + 1 = 163 := by rw [eY4, List.length_append, show ([(.inl (ct 6, 4, .inr (.inr (.inr (.inr (va_up (va_up (va_up (va_up (fun _ => none) ((0 : Int32).toNatClampNeg) (some (b + 159))) ((1 : Int32).toNatClampNeg) (some (b + 160))) ((2 : Int32).toNatClampNeg) (some (b + 161))) ((3 : Int32).toNatClampNeg) (some (b + 162))))))) : va_E), .inl (ct 2, 4, .inl (upd (upd (upd (upd (fun _ => 0) ((0 : Int32).toNatClampNeg) 1) ((1 : Int32).toNatClampNeg) 0) ((2 : Int32).toNatClampNeg) 0) ((3 : Int32).toNatClampNeg) 0)), .inl (ct 2, 4, .inl (upd (upd (upd (upd (fun _ => 0) ((0 : Int32).toNatClampNeg) 0) ((1 : Int32).toNatClampNeg) 1) ((2 : Int32).toNatClampNeg) 0) ((3 : Int32).toNatClampNeg) 0)), .inl (ct 2, 4, .inl (upd (upd (upd (upd (fun _ => 0) ((0 : Int32).toNatClampNeg) 0) ((1 : Int32).toNatClampNeg) 0) ((2 : Int32).toNatClampNeg) 1) ((3 : Int32).toNatClampNeg) 0)), .inl (ct 2, 4, .inl (upd (upd (upd (upd (fun _ => 0) ((0 : Int32).toNatClampNeg) 0) ((1 : Int32).toNatClampNeg) 0) ((2 : Int32).toNatClampNeg) 0) ((3 : Int32).toNatClampNeg) 1))]).length = 5 from rfl]; omega
  have hP : RP D b ((.inr (12, [.ref (b + 1), .int 0, .ref (b + 137), .int 0, .ref (b + 146), .int 0, .ref (b + 153), .null, .int 0, .int 0, .int 0, .int 0, .int 0, .null, .null, .null, .null, .null, .null, .null, .null, .null, .null, .null]) : va_E) :: (Y4 ++ ([] : List va_E))) H := by rw [List.append_nil, eY4]; exact hP
  refine z_put (fs1 := [.ref (b + 1), .int 0, .ref (b + 137), .int 0, .ref (b + 146), .int 0, .ref (b + 153), .ref (b + 158), .int 0, .int 0, .int 0, .int 0, .int 0, .null, .null, .null, .null, .null, .null, .null, .null, .null, .null, .null]) C0 hP hS rfl inGL tyL tyL_ok nmL 7 (by decide) wd_256 (Or.inr ⟨hin, rfl⟩) rfl rfl (Nat.le_of_ble_eq_true rfl) rfl dL_init_141 (fun H locs hP hS => ?_)
  refine lv_aload_n hx hb dL_init_144 rfl (lv_at hl 0 rfl) ?_
  refine lv_bipush (v := 15) hx hb dL_init_145 (by decide) ?_
  refine z_put (fs1 := [.ref (b + 1), .int 0, .ref (b + 137), .int 0, .ref (b + 146), .int 0, .ref (b + 153), .ref (b + 158), .int 15, .int 0, .int 0, .int 0, .int 0, .null, .null, .null, .null, .null, .null, .null, .null, .null, .null, .null]) C0 hP hS rfl inGL tyL tyL_ok nmL 8 (by decide) wd_257 (Or.inl rfl) rfl rfl (Nat.le_of_ble_eq_true rfl) rfl dL_init_147 (fun H locs hP hS => ?_)
  refine lv_aload_n hx hb dL_init_150 rfl (lv_at hl 0 rfl) ?_
  refine lv_iconst (v := 1) hx hb dL_init_151 (by decide) ?_
  refine z_put (fs1 := [.ref (b + 1), .int 0, .ref (b + 137), .int 0, .ref (b + 146), .int 0, .ref (b + 153), .ref (b + 158), .int 15, .int 1, .int 0, .int 0, .int 0, .null, .null, .null, .null, .null, .null, .null, .null, .null, .null, .null]) C0 hP hS rfl inGL tyL tyL_ok nmL 9 (by decide) wd_258 (Or.inl rfl) rfl rfl (Nat.le_of_ble_eq_true rfl) rfl dL_init_152 (fun H locs hP hS => ?_)
  refine lv_aload_n hx hb dL_init_155 rfl (lv_at hl 0 rfl) ?_
  refine lv_iconst (v := 4) hx hb dL_init_156 (by decide) ?_
  refine z_put (fs1 := [.ref (b + 1), .int 0, .ref (b + 137), .int 0, .ref (b + 146), .int 0, .ref (b + 153), .ref (b + 158), .int 15, .int 1, .int 4, .int 0, .int 0, .null, .null, .null, .null, .null, .null, .null, .null, .null, .null, .null]) C0 hP hS rfl inGL tyL tyL_ok nmL 10 (by decide) wd_259 (Or.inl rfl) rfl rfl (Nat.le_of_ble_eq_true rfl) rfl dL_init_157 (fun H locs hP hS => ?_)
  refine lv_aload_n hx hb dL_init_160 rfl (lv_at hl 0 rfl) ?_
  refine lv_bipush (v := 63) hx hb dL_init_161 (by decide) ?_
  refine z_put (fs1 := [.ref (b + 1), .int 0, .ref (b + 137), .int 0, .ref (b + 146), .int 0, .ref (b + 153), .ref (b + 158), .int 15, .int 1, .int 4, .int 63, .int 0, .null, .null, .null, .null, .null, .null, .null, .null, .null, .null, .null]) C0 hP hS rfl inGL tyL tyL_ok nmL 11 (by decide) wd_260 (Or.inl rfl) rfl rfl (Nat.le_of_ble_eq_true rfl) rfl dL_init_163 (fun H locs hP hS => ?_)
  refine lv_aload_n hx hb dL_init_166 rfl (lv_at hl 0 rfl) ?_
  refine lv_bipush (v := 24) hx hb dL_init_167 (by decide) ?_
  refine lv_bipush (v := 8) hx hb dL_init_169 (by decide) ?_
  refine w_mna (N' := 24) (K' := 8) C0 lY4 hP hS ⟨wd_246, wd_142⟩ (by decide) (by decide) (by decide) (by decide) (Nat.le_of_ble_eq_true rfl) (Nat.le_of_ble_eq_true rfl) (Nat.le_of_ble_eq_true rfl) (Nat.le_of_ble_eq_true rfl) (Nat.le_of_ble_eq_true rfl) (n := 163) rfl dL_init_171 (fun H hP hS => ?_)
  obtain ⟨Y5, eY5⟩ : ∃ Y, Y = Y4 ++ ((.inl (ct 5, 24, .inr (.inr (.inr (.inr (fun i => some (b + ((163 + 1) + 1 * i))))))) : va_E) :: List.replicate 24 (.inl (ct 0, 8, .inl (fun _ => 0)))) := ⟨_, rfl⟩
  have lY5 : Y5.length + 1 = 188 := by rw [eY5, List.length_append, show (((.inl (ct 5, 24, .inr (.inr (.inr (.inr (fun i => some (b + ((163 + 1) + 1 * i))))))) : va_E) :: List.replicate 24 (.inl (ct 0, 8, .inl (fun _ => 0))))).length = 25 from rfl]; omega
  have hP : RP D b ((.inr (12, [.ref (b + 1), .int 0, .ref (b + 137), .int 0, .ref (b + 146), .int 0, .ref (b + 153), .ref (b + 158), .int 15, .int 1, .int 4, .int 63, .int 0, .null, .null, .null, .null, .null, .null, .null, .null, .null, .null, .null]) : va_E) :: (Y5 ++ ([] : List va_E))) H := by rw [List.append_nil, eY5]; exact hP
  refine z_put (fs1 := [.ref (b + 1), .int 0, .ref (b + 137), .int 0, .ref (b + 146), .int 0, .ref (b + 153), .ref (b + 158), .int 15, .int 1, .int 4, .int 63, .int 0, .null, .null, .null, .null, .null, .null, .null, .null, .null, .null, .ref (b + 163)]) C0 hP hS rfl inGL tyL tyL_ok nmL 23 (by decide) wd_261 (Or.inr ⟨hin, rfl⟩) rfl rfl (Nat.le_of_ble_eq_true rfl) rfl dL_init_175 (fun H locs hP hS => ?_)
  have eL : Y5 = cells_L ct b := by rw [eY5, eY4, eY3, eY2, eY1, eY0]; rfl
  have hP : RP D b (oL b :: cells_L ct b) H := by rw [← eL]; rw [List.append_nil] at hP; exact hP
  exact y_ret C0 hP hS dL_init_178
end CTORL
