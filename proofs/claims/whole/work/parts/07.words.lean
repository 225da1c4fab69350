theorem tG_s1 {w : Cond} (i : Nat) (h : tables_1_1[i]? = some w) (g : goodWord w = true) : w ∈ tG := tG_in (List.mem_append_right _ (List.mem_append_left _ (List.mem_of_getElem? h))) g
theorem tG_s2 {w : Cond} (i : Nat) (h : tables_1_2[i]? = some w) (g : goodWord w = true) : w ∈ tG := tG_in (List.mem_append_right _ (List.mem_append_right _ (List.mem_append_left _ (List.mem_of_getElem? h)))) g
theorem tG_s3 {w : Cond} (i : Nat) (h : tables_1_3[i]? = some w) (g : goodWord w = true) : w ∈ tG := tG_in (List.mem_append_right _ (List.mem_append_right _ (List.mem_append_right _ (List.mem_append_left _ (List.mem_of_getElem? h))))) g
theorem tG_s4 {w : Cond} (i : Nat) (h : tables_1_4[i]? = some w) (g : goodWord w = true) : w ∈ tG := tG_in (List.mem_append_right _ (List.mem_append_right _ (List.mem_append_right _ (List.mem_append_right _ (List.mem_append_left _ (List.mem_of_getElem? h)))))) g
theorem tG_s5 {w : Cond} (i : Nat) (h : tables_1_5[i]? = some w) (g : goodWord w = true) : w ∈ tG := tG_in (List.mem_append_right _ (List.mem_append_right _ (List.mem_append_right _ (List.mem_append_right _ (List.mem_append_right _ (List.mem_append_left _ (List.mem_of_getElem? h))))))) g
theorem tG_s6 {w : Cond} (i : Nat) (h : tables_1_6[i]? = some w) (g : goodWord w = true) : w ∈ tG := tG_in (List.mem_append_right _ (List.mem_append_right _ (List.mem_append_right _ (List.mem_append_right _ (List.mem_append_right _ (List.mem_append_right _ (List.mem_append_left _ (List.mem_of_getElem? h)))))))) g
theorem tG_s7 {w : Cond} (i : Nat) (h : tables_1_7[i]? = some w) (g : goodWord w = true) : w ∈ tG := tG_in (List.mem_append_right _ (List.mem_append_right _ (List.mem_append_right _ (List.mem_append_right _ (List.mem_append_right _ (List.mem_append_right _ (List.mem_append_right _ (List.mem_append_left _ (List.mem_of_getElem? h))))))))) g
theorem tG_s8 {w : Cond} (i : Nat) (h : tables_1_8[i]? = some w) (g : goodWord w = true) : w ∈ tG := tG_in (List.mem_append_right _ (List.mem_append_right _ (List.mem_append_right _ (List.mem_append_right _ (List.mem_append_right _ (List.mem_append_right _ (List.mem_append_right _ (List.mem_append_right _ (List.mem_of_getElem? h))))))))) g
theorem tG_pv {w : Cond} (i : Nat) (h : (k2_sels lw_privs)[i]? = some w) (g : goodWord w = true) : w ∈ tG := tG_in (List.mem_append_left _ (List.mem_of_getElem? h)) g
theorem wd_0 : Cond.initialized RL ∈ tG := tG_s1 0 rfl rfl
theorem wd_1 : Cond.initialized RX11 ∈ tG := tG_s1 1 rfl rfl
theorem wd_2 : Cond.initialized RX10 ∈ tG := tG_s1 2 rfl rfl
theorem wd_3 : Cond.initialized RX7 ∈ tG := tG_s1 3 rfl rfl
theorem wd_4 : Cond.initialized RX2 ∈ tG := tG_s1 4 rfl rfl
theorem wd_5 : Cond.initialized RX8 ∈ tG := tG_s1 5 rfl rfl
theorem wd_6 : Cond.initialized RX12 ∈ tG := tG_s1 6 rfl rfl
theorem wd_7 : Cond.initialized "java/lang/System" ∈ tG := tG_s1 7 rfl rfl
theorem wd_8 : Cond.initialized "java/lang/String" ∈ tG := tG_s1 8 rfl rfl
theorem wd_9 : Cond.initialized "java/lang/StringLatin1" ∈ tG := tG_s1 9 rfl rfl
theorem wd_10 : Cond.initialized "jdk/internal/util/Preconditions" ∈ tG := tG_s1 10 rfl rfl
theorem wd_11 : Cond.initialized "java/lang/StringUTF16" ∈ tG := tG_s1 11 rfl rfl
theorem wd_12 : Cond.initialized RX0 ∈ tG := tG_s1 12 rfl rfl
theorem wd_13 : Cond.initialized RX4 ∈ tG := tG_s1 13 rfl rfl
theorem wd_14 : Cond.initialized RX9 ∈ tG := tG_s1 14 rfl rfl
theorem wd_15 : Cond.initialized RX5 ∈ tG := tG_s1 15 rfl rfl
theorem wd_16 : Cond.initialized RX6 ∈ tG := tG_s1 16 rfl rfl
theorem wd_17 : Cond.initialized RX1 ∈ tG := tG_s1 17 rfl rfl
theorem wd_18 : Cond.initialized RX3 ∈ tG := tG_s1 18 rfl rfl
theorem wd_19 : Cond.initialized "java/lang/Math" ∈ tG := tG_s1 19 rfl rfl
theorem wd_20 : Cond.initialized RJ6 ∈ tG := tG_s1 20 rfl rfl
theorem wd_21 : Cond.initialized "java/lang/Throwable" ∈ tG := tG_s1 21 rfl rfl
theorem wd_22 : Cond.initialized "java/lang/Exception" ∈ tG := tG_s1 22 rfl rfl
theorem wd_23 : Cond.initialized "java/lang/RuntimeException" ∈ tG := tG_s1 23 rfl rfl
theorem wd_24 : Cond.initialized "java/lang/IllegalArgumentException" ∈ tG := tG_s1 24 rfl rfl
theorem wd_25 : Cond.initialized "java/lang/IllegalStateException" ∈ tG := tG_s1 25 rfl rfl
theorem wd_26 : Cond.initialized "java/lang/UnsupportedOperationException" ∈ tG := tG_s1 26 rfl rfl
theorem wd_27 : Cond.classLink RL 8 RX11 ∈ tG := tG_s1 27 rfl rfl
theorem wd_28 : Cond.instantiable RX11 11 ∈ tG := tG_s1 28 rfl rfl
theorem wd_29 : Cond.methodLink RL 17 yX11_init ∈ tG := tG_s1 29 rfl rfl
theorem wd_30 : Cond.instanceMethod yX11_init ∈ tG := tG_s1 30 rfl rfl
theorem wd_31 : Cond.code yX11_init cX11_init 3 none ∈ tG := tG_s1 31 rfl rfl
theorem wd_32 : Cond.methodLink RX11 3 objectInit ∈ tG := tG_s1 32 rfl rfl
theorem wd_33 : Cond.instanceMethod objectInit ∈ tG := tG_s1 33 rfl rfl
theorem wd_34 : Cond.code objectInit ⟨#[0xb1]⟩ 1 none ∈ tG := tG_s1 34 rfl rfl
theorem wd_35 : Cond.classLink RX11 9 RX10 ∈ tG := tG_s1 35 rfl rfl
theorem wd_36 : Cond.instantiable RX10 19 ∈ tG := tG_s1 36 rfl rfl
theorem wd_37 : Cond.methodLink RX11 11 yX10_init ∈ tG := tG_s1 37 rfl rfl
theorem wd_38 : Cond.instanceMethod yX10_init ∈ tG := tG_s1 38 rfl rfl
theorem wd_39 : Cond.code yX10_init cX10_init 3 none ∈ tG := tG_s1 39 rfl rfl
theorem wd_40 : Cond.methodLink RX10 3 objectInit ∈ tG := tG_s1 40 rfl rfl
theorem wd_41 : Cond.classLink RX10 15 RX7 ∈ tG := tG_s1 41 rfl rfl
theorem wd_43 : Cond.instantiable RX7 2 ∈ tG := tG_s1 43 rfl rfl
theorem wd_44 : Cond.methodLink RX10 21 yX7_init ∈ tG := tG_s1 44 rfl rfl
theorem wd_45 : Cond.instanceMethod yX7_init ∈ tG := tG_s1 45 rfl rfl
theorem wd_46 : Cond.code yX7_init cX7_init 3 none ∈ tG := tG_s1 46 rfl rfl
theorem wd_47 : Cond.methodLink RX7 1 objectInit ∈ tG := tG_s1 47 rfl rfl
theorem wd_48 : Cond.fieldLink RX7 7 "ThoughtBetterOf$Plain" "kind" "I" ∈ tG := tG_s1 48 rfl rfl
theorem wd_49 : Cond.fieldLink RX11 88 "ThoughtBetterOf$Plain" "kind" "I" ∈ tG := tG_s1 49 rfl rfl
theorem wd_50 : Cond.fieldLink RX7 13 "ThoughtBetterOf$Plain" "figure" "I" ∈ tG := tG_s1 50 rfl rfl
theorem wd_51 : Cond.fieldLink RX4 11 "ThoughtBetterOf$Firm" "figure" "I" ∈ tG := tG_s1 51 rfl rfl
theorem wd_52 : Cond.sameField "ThoughtBetterOf$Firm" "ThoughtBetterOf$Plain" "figure" "I" ∈ tG := tG_s1 52 rfl rfl
theorem wd_53 : Cond.fieldLink RX6 15 "ThoughtBetterOf$King" "figure" "I" ∈ tG := tG_s1 53 rfl rfl
theorem wd_54 : Cond.sameField "ThoughtBetterOf$King" "ThoughtBetterOf$Plain" "figure" "I" ∈ tG := tG_s1 54 rfl rfl
theorem wd_55 : Cond.fieldLink RX11 91 "ThoughtBetterOf$Plain" "figure" "I" ∈ tG := tG_s1 55 rfl rfl
theorem wd_60 : Cond.superclass RX7 "java/lang/Object" ∈ tG := tG_s1 60 rfl rfl
theorem wd_61 : Cond.fieldLink RX10 9 "ThoughtBetterOf$Town" "people" "I" ∈ tG := tG_s1 61 rfl rfl
theorem wd_62 : Cond.fieldLink RX2 50 "ThoughtBetterOf$Town" "people" "I" ∈ tG := tG_s1 62 rfl rfl
theorem wd_63 : Cond.fieldLink RX11 185 "ThoughtBetterOf$Town" "people" "I" ∈ tG := tG_s1 63 rfl rfl
theorem wd_64 : Cond.fieldLink RX10 17 "ThoughtBetterOf$Town" "who" "[LThoughtBetterOf$Plain;" ∈ tG := tG_s1 64 rfl rfl
theorem wd_65 : Cond.fieldLink RX2 55 "ThoughtBetterOf$Town" "who" "[LThoughtBetterOf$Plain;" ∈ tG := tG_s1 65 rfl rfl
theorem wd_66 : Cond.fieldLink RX11 85 "ThoughtBetterOf$Town" "who" "[LThoughtBetterOf$Plain;" ∈ tG := tG_s1 66 rfl rfl
theorem wd_67 : Cond.fieldLink RX10 24 "ThoughtBetterOf$Town" "kase" "[I" ∈ tG := tG_s1 67 rfl rfl
theorem wd_68 : Cond.fieldLink RX11 94 "ThoughtBetterOf$Town" "kase" "[I" ∈ tG := tG_s1 68 rfl rfl
theorem wd_69 : Cond.fieldLink RX2 103 "ThoughtBetterOf$Town" "kase" "[I" ∈ tG := tG_s1 69 rfl rfl
theorem wd_70 : Cond.fieldLink RX10 28 "ThoughtBetterOf$Town" "hour" "[I" ∈ tG := tG_s1 70 rfl rfl
theorem wd_71 : Cond.fieldLink RX2 59 "ThoughtBetterOf$Town" "hour" "[I" ∈ tG := tG_s1 71 rfl rfl
theorem wd_72 : Cond.fieldLink RX11 97 "ThoughtBetterOf$Town" "hour" "[I" ∈ tG := tG_s1 72 rfl rfl
theorem wd_73 : Cond.fieldLink RX10 31 "ThoughtBetterOf$Town" "mood" "[I" ∈ tG := tG_s1 73 rfl rfl
theorem wd_74 : Cond.fieldLink RX11 107 "ThoughtBetterOf$Town" "mood" "[I" ∈ tG := tG_s1 74 rfl rfl
theorem wd_75 : Cond.fieldLink RX2 100 "ThoughtBetterOf$Town" "mood" "[I" ∈ tG := tG_s1 75 rfl rfl
theorem wd_76 : Cond.fieldLink RX10 34 "ThoughtBetterOf$Town" "coins" "[I" ∈ tG := tG_s1 76 rfl rfl
theorem wd_77 : Cond.fieldLink RX11 104 "ThoughtBetterOf$Town" "coins" "[I" ∈ tG := tG_s1 77 rfl rfl
theorem wd_78 : Cond.fieldLink RX2 150 "ThoughtBetterOf$Town" "coins" "[I" ∈ tG := tG_s1 78 rfl rfl
theorem wd_79 : Cond.fieldLink RX10 37 "ThoughtBetterOf$Town" "facts" "I" ∈ tG := tG_s1 79 rfl rfl
theorem wd_80 : Cond.fieldLink RX11 196 "ThoughtBetterOf$Town" "facts" "I" ∈ tG := tG_s1 80 rfl rfl
theorem wd_81 : Cond.fieldLink RX10 40 "ThoughtBetterOf$Town" "factCase" "[I" ∈ tG := tG_s1 81 rfl rfl
theorem wd_82 : Cond.fieldLink RX11 148 "ThoughtBetterOf$Town" "factCase" "[I" ∈ tG := tG_s1 82 rfl rfl
theorem wd_83 : Cond.fieldLink RX10 43 "ThoughtBetterOf$Town" "factWeight" "[I" ∈ tG := tG_s1 83 rfl rfl
theorem wd_84 : Cond.fieldLink RX11 151 "ThoughtBetterOf$Town" "factWeight" "[I" ∈ tG := tG_s1 84 rfl rfl
theorem wd_85 : Cond.fieldLink RX10 46 "ThoughtBetterOf$Town" "factHour" "[I" ∈ tG := tG_s1 85 rfl rfl
theorem wd_86 : Cond.fieldLink RX11 154 "ThoughtBetterOf$Town" "factHour" "[I" ∈ tG := tG_s1 86 rfl rfl
theorem wd_87 : Cond.fieldLink RX10 49 "ThoughtBetterOf$Town" "factChance" "[I" ∈ tG := tG_s1 87 rfl rfl
theorem wd_88 : Cond.fieldLink RX11 157 "ThoughtBetterOf$Town" "factChance" "[I" ∈ tG := tG_s1 88 rfl rfl
theorem wd_89 : Cond.fieldLink RX10 52 "ThoughtBetterOf$Town" "plants" "I" ∈ tG := tG_s1 89 rfl rfl
theorem wd_90 : Cond.fieldLink RX2 68 "ThoughtBetterOf$Town" "plants" "I" ∈ tG := tG_s1 90 rfl rfl
theorem wd_91 : Cond.fieldLink RX11 222 "ThoughtBetterOf$Town" "plants" "I" ∈ tG := tG_s1 91 rfl rfl
theorem wd_92 : Cond.fieldLink RX10 55 "ThoughtBetterOf$Town" "plantCase" "[I" ∈ tG := tG_s1 92 rfl rfl
theorem wd_93 : Cond.fieldLink RX2 153 "ThoughtBetterOf$Town" "plantCase" "[I" ∈ tG := tG_s1 93 rfl rfl
theorem wd_94 : Cond.fieldLink RX11 219 "ThoughtBetterOf$Town" "plantCase" "[I" ∈ tG := tG_s1 94 rfl rfl
theorem wd_95 : Cond.fieldLink RX10 58 "ThoughtBetterOf$Town" "plantSide" "[I" ∈ tG := tG_s1 95 rfl rfl
theorem wd_96 : Cond.fieldLink RX2 71 "ThoughtBetterOf$Town" "plantSide" "[I" ∈ tG := tG_s1 96 rfl rfl
theorem wd_97 : Cond.fieldLink RX10 61 "ThoughtBetterOf$Town" "plantStrength" "[I" ∈ tG := tG_s1 97 rfl rfl
theorem wd_98 : Cond.fieldLink RX2 74 "ThoughtBetterOf$Town" "plantStrength" "[I" ∈ tG := tG_s1 98 rfl rfl
theorem wd_99 : Cond.fieldLink RX11 216 "ThoughtBetterOf$Town" "plantStrength" "[I" ∈ tG := tG_s1 99 rfl rfl
theorem wd_100 : Cond.fieldLink RX10 64 "ThoughtBetterOf$Town" "plantPrice" "[I" ∈ tG := tG_s1 100 rfl rfl
theorem wd_101 : Cond.fieldLink RX2 144 "ThoughtBetterOf$Town" "plantPrice" "[I" ∈ tG := tG_s1 101 rfl rfl
theorem wd_102 : Cond.fieldLink RX10 67 "ThoughtBetterOf$Town" "plantHour" "[I" ∈ tG := tG_s1 102 rfl rfl
theorem wd_103 : Cond.fieldLink RX2 77 "ThoughtBetterOf$Town" "plantHour" "[I" ∈ tG := tG_s1 103 rfl rfl
theorem wd_104 : Cond.fieldLink RX10 70 "ThoughtBetterOf$Town" "kinBits" "[I" ∈ tG := tG_s1 104 rfl rfl
theorem wd_105 : Cond.fieldLink RX10 73 "ThoughtBetterOf$Town" "rule" "[I" ∈ tG := tG_s1 105 rfl rfl
theorem wd_106 : Cond.fieldLink RX2 80 "ThoughtBetterOf$Town" "rule" "[I" ∈ tG := tG_s1 106 rfl rfl
theorem wd_107 : Cond.fieldLink RX11 121 "ThoughtBetterOf$Town" "rule" "[I" ∈ tG := tG_s1 107 rfl rfl
theorem wd_146 : Cond.superclass RX10 "java/lang/Object" ∈ tG := tG_s1 146 rfl rfl
theorem wd_147 : Cond.arrayClass .int ∈ tG := tG_s1 147 rfl rfl
theorem wd_148 : Cond.classLink RX11 26 RX2 ∈ tG := tG_s1 148 rfl rfl
theorem wd_149 : Cond.instantiable RX2 12 ∈ tG := tG_s1 149 rfl rfl
theorem wd_150 : Cond.methodLink RX11 28 yX2_init ∈ tG := tG_s1 150 rfl rfl
theorem wd_151 : Cond.instanceMethod yX2_init ∈ tG := tG_s1 151 rfl rfl
theorem wd_152 : Cond.code yX2_init cX2_init 2 none ∈ tG := tG_s1 152 rfl rfl
theorem wd_153 : Cond.methodLink RX2 3 objectInit ∈ tG := tG_s1 153 rfl rfl
theorem wd_154 : Cond.fieldLink RX2 9 "ThoughtBetterOf$Day" "town" "LThoughtBetterOf$Town;" ∈ tG := tG_s1 154 rfl rfl
theorem wd_155 : Cond.fieldLink RX2 15 "ThoughtBetterOf$Day" "there" "I" ∈ tG := tG_s1 155 rfl rfl
theorem wd_156 : Cond.fieldLink RX2 19 "ThoughtBetterOf$Day" "due" "[I" ∈ tG := tG_s1 156 rfl rfl
theorem wd_157 : Cond.fieldLink RX2 23 "ThoughtBetterOf$Day" "firstSum" "[I" ∈ tG := tG_s1 157 rfl rfl
theorem wd_158 : Cond.fieldLink RX11 173 "ThoughtBetterOf$Day" "firstSum" "[I" ∈ tG := tG_s1 158 rfl rfl
theorem wd_159 : Cond.fieldLink RX2 26 "ThoughtBetterOf$Day" "choice" "[I" ∈ tG := tG_s1 159 rfl rfl
theorem wd_160 : Cond.fieldLink RX11 193 "ThoughtBetterOf$Day" "choice" "[I" ∈ tG := tG_s1 160 rfl rfl
theorem wd_161 : Cond.fieldLink RX2 29 "ThoughtBetterOf$Day" "bought" "[I" ∈ tG := tG_s1 161 rfl rfl
theorem wd_162 : Cond.fieldLink RX2 32 "ThoughtBetterOf$Day" "paid" "[I" ∈ tG := tG_s1 162 rfl rfl
theorem wd_163 : Cond.fieldLink RX2 35 "ThoughtBetterOf$Day" "side" "[I" ∈ tG := tG_s1 163 rfl rfl
theorem wd_164 : Cond.fieldLink RX11 264 "ThoughtBetterOf$Day" "side" "[I" ∈ tG := tG_s1 164 rfl rfl
theorem wd_165 : Cond.fieldLink RX2 38 "ThoughtBetterOf$Day" "strength" "[I" ∈ tG := tG_s1 165 rfl rfl
theorem wd_166 : Cond.fieldLink RX2 41 "ThoughtBetterOf$Day" "from" "[I" ∈ tG := tG_s1 166 rfl rfl
theorem wd_167 : Cond.fieldLink RX2 44 "ThoughtBetterOf$Day" "fades" "[I" ∈ tG := tG_s1 167 rfl rfl
theorem wd_168 : Cond.fieldLink RX2 47 "ThoughtBetterOf$Day" "buyer" "[I" ∈ tG := tG_s1 168 rfl rfl
theorem wd_193 : Cond.superclass RX2 "java/lang/Object" ∈ tG := tG_s1 193 rfl rfl
theorem wd_194 : Cond.classLink RX11 39 RX7 ∈ tG := tG_s1 194 rfl rfl
theorem wd_195 : Cond.classLink RX11 45 RX8 ∈ tG := tG_s1 195 rfl rfl
theorem wd_197 : Cond.methodLink RX11 51 yX7_init ∈ tG := tG_s1 197 rfl rfl
theorem wd_198 : Cond.instantiable RX8 3 ∈ tG := tG_s1 198 rfl rfl
theorem wd_199 : Cond.methodLink RX11 54 yX8_init ∈ tG := tG_s1 199 rfl rfl
theorem wd_200 : Cond.instanceMethod yX8_init ∈ tG := tG_s1 200 rfl rfl
theorem wd_201 : Cond.code yX8_init cX8_init 1 none ∈ tG := tG_s1 201 rfl rfl
theorem wd_202 : Cond.methodLink RX8 3 objectInit ∈ tG := tG_s1 202 rfl rfl
theorem wd_203 : Cond.fieldLink RX8 9 "ThoughtBetterOf$Row" "sort" "I" ∈ tG := tG_s1 203 rfl rfl
theorem wd_204 : Cond.fieldLink RX11 70 "ThoughtBetterOf$Row" "sort" "I" ∈ tG := tG_s1 204 rfl rfl
theorem wd_205 : Cond.fieldLink RX8 15 "ThoughtBetterOf$Row" "size" "I" ∈ tG := tG_s1 205 rfl rfl
theorem wd_206 : Cond.fieldLink RX10 98 "ThoughtBetterOf$Row" "size" "I" ∈ tG := tG_s1 206 rfl rfl
theorem wd_207 : Cond.fieldLink RX11 274 "ThoughtBetterOf$Row" "size" "I" ∈ tG := tG_s1 207 rfl rfl
theorem wd_208 : Cond.fieldLink RX8 18 "ThoughtBetterOf$Row" "cells" "[I" ∈ tG := tG_s1 208 rfl rfl
theorem wd_209 : Cond.fieldLink RX11 323 "ThoughtBetterOf$Row" "cells" "[I" ∈ tG := tG_s1 209 rfl rfl
theorem wd_216 : Cond.superclass RX8 "java/lang/Object" ∈ tG := tG_s1 216 rfl rfl
theorem wd_217 : Cond.classLink RX11 55 "[[I" ∈ tG := tG_s1 217 rfl rfl
theorem wd_219 : Cond.fieldLink RX11 12 "ThoughtBetterOf" "town" "LThoughtBetterOf$Town;" ∈ tG := tG_s1 219 rfl rfl
theorem wd_220 : Cond.fieldLink RX11 16 "ThoughtBetterOf" "trial" "LThoughtBetterOf$Town;" ∈ tG := tG_s1 220 rfl rfl
theorem wd_221 : Cond.fieldLink RX11 19 "ThoughtBetterOf" "pictured" "LThoughtBetterOf$Town;" ∈ tG := tG_s1 221 rfl rfl
theorem wd_222 : Cond.fieldLink RX11 22 "ThoughtBetterOf" "hasImage" "Z" ∈ tG := tG_s1 222 rfl rfl
theorem wd_223 : Cond.fieldLink RX11 31 "ThoughtBetterOf" "day" "LThoughtBetterOf$Day;" ∈ tG := tG_s1 223 rfl rfl
theorem wd_224 : Cond.fieldLink RX11 35 "ThoughtBetterOf" "holds" "[I" ∈ tG := tG_s1 224 rfl rfl
theorem wd_225 : Cond.fieldLink RX11 41 "ThoughtBetterOf" "kept" "[LThoughtBetterOf$Plain;" ∈ tG := tG_s1 225 rfl rfl
theorem wd_226 : Cond.fieldLink RX11 47 "ThoughtBetterOf" "rows" "[LThoughtBetterOf$Row;" ∈ tG := tG_s1 226 rfl rfl
theorem wd_227 : Cond.fieldLink RX11 57 "ThoughtBetterOf" "begun" "[[I" ∈ tG := tG_s1 227 rfl rfl
theorem wd_228 : Cond.fieldLink RX11 60 "ThoughtBetterOf" "coinsOfFirst" "[[I" ∈ tG := tG_s1 228 rfl rfl
theorem wd_229 : Cond.fieldLink RX11 63 "ThoughtBetterOf" "coinsOfOther" "[[I" ∈ tG := tG_s1 229 rfl rfl
theorem wd_252 : Cond.superclass RX11 "java/lang/Object" ∈ tG := tG_s2 12 rfl rfl
theorem wd_253 : Cond.methodLink RL 21 yX11_town ∈ tG := tG_s2 13 rfl rfl
theorem wd_254 : Cond.instanceMethod yX11_town ∈ tG := tG_s2 14 rfl rfl
theorem wd_255 : Cond.selects RX11 yX11_town yX11_town ∈ tG := tG_s2 15 rfl rfl
theorem wd_256 : Cond.code yX11_town cX11_town 4 (some .int) ∈ tG := tG_s2 16 rfl rfl
theorem wd_257 : Cond.methodLink RX11 66 yX11_shelfRefusal ∈ tG := tG_s2 17 rfl rfl
theorem wd_259 : Cond.instanceMethod yX11_shelfRefusal ∈ tG := tG_s2 19 rfl rfl
theorem wd_260 : Cond.code yX11_shelfRefusal cX11_shelfRefusal 3 (some .int) ∈ tG := tG_s2 20 rfl rfl
theorem wd_261 : Cond.methodLink RX11 127 yX11_isNoShelf ∈ tG := tG_s2 21 rfl rfl
theorem wd_262 : Cond.static yX11_isNoShelf ∈ tG := tG_s2 22 rfl rfl
theorem wd_263 : Cond.code yX11_isNoShelf cX11_isNoShelf 1 (some .boolean) ∈ tG := tG_s2 23 rfl rfl
theorem wd_264 : Cond.methodLink RX11 74 yX10_become ∈ tG := tG_s2 24 rfl rfl
theorem wd_265 : Cond.instanceMethod yX10_become ∈ tG := tG_s2 25 rfl rfl
theorem wd_266 : Cond.selects RX10 yX10_become yX10_become ∈ tG := tG_s2 26 rfl rfl
theorem wd_267 : Cond.code yX10_become cX10_become 3 none ∈ tG := tG_s2 27 rfl rfl
theorem wd_268 : Cond.methodLink RX10 76 arraycopyName ∈ tG := tG_s2 28 rfl rfl
theorem wd_269 : Cond.static arraycopyName ∈ tG := tG_s2 29 rfl rfl
theorem wd_270 : Cond.native arraycopyName ∈ tG := tG_s2 30 rfl rfl
theorem wd_271 : Cond.methodLink RX11 77 yX10_hear ∈ tG := tG_s2 31 rfl rfl
theorem wd_272 : Cond.instanceMethod yX10_hear ∈ tG := tG_s2 32 rfl rfl
theorem wd_273 : Cond.selects RX10 yX10_hear yX10_hear ∈ tG := tG_s2 33 rfl rfl
theorem wd_274 : Cond.code yX10_hear cX10_hear 5 (some .int) ∈ tG := tG_s2 34 rfl rfl
theorem wd_275 : Cond.methodLink RX10 94 yX10_firstWrong ∈ tG := tG_s2 35 rfl rfl
theorem wd_276 : Cond.static yX10_firstWrong ∈ tG := tG_s2 36 rfl rfl
theorem wd_277 : Cond.code yX10_firstWrong cX10_firstWrong 4 (some .int) ∈ tG := tG_s2 37 rfl rfl
theorem wd_278 : Cond.methodLink RX10 107 yX8_at ∈ tG := tG_s2 38 rfl rfl
theorem wd_279 : Cond.instanceMethod yX8_at ∈ tG := tG_s2 39 rfl rfl
theorem wd_280 : Cond.selects RX8 yX8_at yX8_at ∈ tG := tG_s2 40 rfl rfl
theorem wd_281 : Cond.code yX8_at cX8_at 2 (some .int) ∈ tG := tG_s2 41 rfl rfl
theorem wd_282 : Cond.methodLink RX8 22 yX8_hasPlaces ∈ tG := tG_s2 42 rfl rfl
theorem wd_283 : Cond.instanceMethod yX8_hasPlaces ∈ tG := tG_s2 43 rfl rfl
theorem wd_284 : Cond.selects RX8 yX8_hasPlaces yX8_hasPlaces ∈ tG := tG_s2 44 rfl rfl
theorem wd_285 : Cond.code yX8_hasPlaces cX8_hasPlaces 3 (some .boolean) ∈ tG := tG_s2 45 rfl rfl
theorem wd_286 : Cond.methodLink RX10 111 yX10_shapeBehind ∈ tG := tG_s2 46 rfl rfl
theorem wd_287 : Cond.static yX10_shapeBehind ∈ tG := tG_s2 47 rfl rfl
theorem wd_288 : Cond.code yX10_shapeBehind cX10_shapeBehind 1 (some (.object "java/lang/String")) ∈ tG := tG_s2 48 rfl rfl
theorem wd_347 : Cond.methodLink RX10 141 yX10_fitsShape ∈ tG := tG_s2 107 rfl rfl
theorem wd_348 : Cond.static yX10_fitsShape ∈ tG := tG_s2 108 rfl rfl
theorem wd_349 : Cond.code yX10_fitsShape cX10_fitsShape 2 (some .boolean) ∈ tG := tG_s2 109 rfl rfl
theorem wd_350 : Cond.methodLink RX10 103 yX10_hearStatement ∈ tG := tG_s2 110 rfl rfl
theorem wd_352 : Cond.instanceMethod yX10_hearStatement ∈ tG := tG_s2 112 rfl rfl
theorem wd_353 : Cond.code yX10_hearStatement cX10_hearStatement 3 (some .int) ∈ tG := tG_s2 113 rfl rfl
theorem wd_354 : Cond.methodLink RX10 145 yX8_digitAt ∈ tG := tG_s2 114 rfl rfl
theorem wd_355 : Cond.instanceMethod yX8_digitAt ∈ tG := tG_s2 115 rfl rfl
theorem wd_356 : Cond.selects RX8 yX8_digitAt yX8_digitAt ∈ tG := tG_s2 116 rfl rfl
theorem wd_357 : Cond.code yX8_digitAt cX8_digitAt 2 (some .int) ∈ tG := tG_s2 117 rfl rfl
theorem wd_358 : Cond.methodLink RX8 27 yX8_at ∈ tG := tG_s2 118 rfl rfl
theorem wd_359 : Cond.methodLink RX10 148 yX8_signedAt ∈ tG := tG_s2 119 rfl rfl
theorem wd_360 : Cond.instanceMethod yX8_signedAt ∈ tG := tG_s2 120 rfl rfl
theorem wd_361 : Cond.selects RX8 yX8_signedAt yX8_signedAt ∈ tG := tG_s2 121 rfl rfl
theorem wd_362 : Cond.code yX8_signedAt cX8_signedAt 2 (some .int) ∈ tG := tG_s2 122 rfl rfl
theorem wd_363 : Cond.methodLink RX8 34 yX8_signAt ∈ tG := tG_s2 123 rfl rfl
theorem wd_364 : Cond.instanceMethod yX8_signAt ∈ tG := tG_s2 124 rfl rfl
theorem wd_365 : Cond.selects RX8 yX8_signAt yX8_signAt ∈ tG := tG_s2 125 rfl rfl
theorem wd_366 : Cond.code yX8_signAt cX8_signAt 2 (some .int) ∈ tG := tG_s2 126 rfl rfl
theorem wd_367 : Cond.methodLink RX8 31 yX8_digitAt ∈ tG := tG_s2 127 rfl rfl
theorem wd_368 : Cond.methodLink RX10 151 yX8_pairAt ∈ tG := tG_s2 128 rfl rfl
theorem wd_369 : Cond.instanceMethod yX8_pairAt ∈ tG := tG_s2 129 rfl rfl
theorem wd_370 : Cond.selects RX8 yX8_pairAt yX8_pairAt ∈ tG := tG_s2 130 rfl rfl
theorem wd_371 : Cond.code yX8_pairAt cX8_pairAt 2 (some .int) ∈ tG := tG_s2 131 rfl rfl
theorem wd_372 : Cond.methodLink RX10 154 yX10_addFact ∈ tG := tG_s2 132 rfl rfl
theorem wd_373 : Cond.instanceMethod yX10_addFact ∈ tG := tG_s2 133 rfl rfl
theorem wd_374 : Cond.selects RX10 yX10_addFact yX10_addFact ∈ tG := tG_s2 134 rfl rfl
theorem wd_375 : Cond.code yX10_addFact cX10_addFact 4 (some .int) ∈ tG := tG_s2 135 rfl rfl
theorem wd_377 : Cond.static yX11_isOut ∈ tG := tG_s2 137 rfl rfl
theorem wd_378 : Cond.code yX11_isOut cX11_isOut 3 (some .boolean) ∈ tG := tG_s2 138 rfl rfl
theorem wd_380 : Cond.static yX11_oneOfKind ∈ tG := tG_s2 140 rfl rfl
theorem wd_381 : Cond.code yX11_oneOfKind cX11_oneOfKind 2 (some (.object "ThoughtBetterOf$Plain")) ∈ tG := tG_s2 141 rfl rfl
theorem wd_382 : Cond.classLink RX11 350 RX0 ∈ tG := tG_s2 142 rfl rfl
theorem wd_383 : Cond.instantiable RX0 2 ∈ tG := tG_s2 143 rfl rfl
theorem wd_384 : Cond.methodLink RX11 352 yX0_init ∈ tG := tG_s2 144 rfl rfl
theorem wd_385 : Cond.instanceMethod yX0_init ∈ tG := tG_s2 145 rfl rfl
theorem wd_386 : Cond.code yX0_init cX0_init 3 none ∈ tG := tG_s2 146 rfl rfl
theorem wd_387 : Cond.methodLink RX0 1 yX7_init ∈ tG := tG_s2 147 rfl rfl
theorem wd_390 : Cond.superclass RX0 RX7 ∈ tG := tG_s2 150 rfl rfl
theorem wd_391 : Cond.arrayClass .byte ∈ tG := tG_s2 151 rfl rfl
theorem wd_392 : Cond.classLink RX11 353 RX4 ∈ tG := tG_s2 152 rfl rfl
theorem wd_393 : Cond.instantiable RX4 2 ∈ tG := tG_s2 153 rfl rfl
theorem wd_394 : Cond.methodLink RX11 355 yX4_init ∈ tG := tG_s2 154 rfl rfl
theorem wd_395 : Cond.instanceMethod yX4_init ∈ tG := tG_s2 155 rfl rfl
theorem wd_396 : Cond.code yX4_init cX4_init 3 none ∈ tG := tG_s2 156 rfl rfl
theorem wd_397 : Cond.methodLink RX4 1 yX7_init ∈ tG := tG_s2 157 rfl rfl
theorem wd_400 : Cond.superclass RX4 RX7 ∈ tG := tG_s2 160 rfl rfl
theorem wd_401 : Cond.classLink RX11 356 RX9 ∈ tG := tG_s2 161 rfl rfl
theorem wd_402 : Cond.instantiable RX9 2 ∈ tG := tG_s2 162 rfl rfl
theorem wd_403 : Cond.methodLink RX11 358 yX9_init ∈ tG := tG_s2 163 rfl rfl
theorem wd_404 : Cond.instanceMethod yX9_init ∈ tG := tG_s2 164 rfl rfl
theorem wd_405 : Cond.code yX9_init cX9_init 3 none ∈ tG := tG_s2 165 rfl rfl
theorem wd_406 : Cond.methodLink RX9 1 yX4_init ∈ tG := tG_s2 166 rfl rfl
theorem wd_409 : Cond.superclass RX9 RX4 ∈ tG := tG_s2 169 rfl rfl
theorem wd_410 : Cond.classLink RX11 359 RX5 ∈ tG := tG_s2 170 rfl rfl
theorem wd_411 : Cond.instantiable RX5 2 ∈ tG := tG_s2 171 rfl rfl
theorem wd_412 : Cond.methodLink RX11 361 yX5_init ∈ tG := tG_s2 172 rfl rfl
theorem wd_413 : Cond.instanceMethod yX5_init ∈ tG := tG_s2 173 rfl rfl
theorem wd_414 : Cond.code yX5_init cX5_init 3 none ∈ tG := tG_s2 174 rfl rfl
theorem wd_415 : Cond.methodLink RX5 1 yX7_init ∈ tG := tG_s2 175 rfl rfl
theorem wd_418 : Cond.superclass RX5 RX7 ∈ tG := tG_s2 178 rfl rfl
theorem wd_419 : Cond.classLink RX11 362 RX6 ∈ tG := tG_s2 179 rfl rfl
theorem wd_420 : Cond.instantiable RX6 2 ∈ tG := tG_s2 180 rfl rfl
theorem wd_421 : Cond.methodLink RX11 364 yX6_init ∈ tG := tG_s2 181 rfl rfl
theorem wd_422 : Cond.instanceMethod yX6_init ∈ tG := tG_s2 182 rfl rfl
theorem wd_423 : Cond.code yX6_init cX6_init 3 none ∈ tG := tG_s2 183 rfl rfl
theorem wd_424 : Cond.methodLink RX6 1 yX5_init ∈ tG := tG_s2 184 rfl rfl
theorem wd_427 : Cond.superclass RX6 RX5 ∈ tG := tG_s2 187 rfl rfl
theorem wd_428 : Cond.classLink RX11 365 RX1 ∈ tG := tG_s2 188 rfl rfl
theorem wd_429 : Cond.instantiable RX1 2 ∈ tG := tG_s2 189 rfl rfl
theorem wd_430 : Cond.methodLink RX11 367 yX1_init ∈ tG := tG_s2 190 rfl rfl
theorem wd_431 : Cond.instanceMethod yX1_init ∈ tG := tG_s2 191 rfl rfl
theorem wd_432 : Cond.code yX1_init cX1_init 3 none ∈ tG := tG_s2 192 rfl rfl
theorem wd_433 : Cond.methodLink RX1 1 yX7_init ∈ tG := tG_s2 193 rfl rfl
theorem wd_436 : Cond.superclass RX1 RX7 ∈ tG := tG_s2 196 rfl rfl
theorem wd_437 : Cond.classLink RX11 368 RX3 ∈ tG := tG_s2 197 rfl rfl
theorem wd_438 : Cond.instantiable RX3 2 ∈ tG := tG_s2 198 rfl rfl
theorem wd_439 : Cond.methodLink RX11 370 yX3_init ∈ tG := tG_s2 199 rfl rfl
theorem wd_440 : Cond.instanceMethod yX3_init ∈ tG := tG_s2 200 rfl rfl
theorem wd_441 : Cond.code yX3_init cX3_init 3 none ∈ tG := tG_s2 201 rfl rfl
theorem wd_442 : Cond.methodLink RX3 1 yX1_init ∈ tG := tG_s2 202 rfl rfl
theorem wd_445 : Cond.superclass RX3 RX1 ∈ tG := tG_s2 205 rfl rfl
theorem wd_446 : Cond.methodLink RX10 162 yX10_addOne ∈ tG := tG_s2 206 rfl rfl
theorem wd_447 : Cond.instanceMethod yX10_addOne ∈ tG := tG_s2 207 rfl rfl
theorem wd_448 : Cond.selects RX10 yX10_addOne yX10_addOne ∈ tG := tG_s2 208 rfl rfl
theorem wd_449 : Cond.code yX10_addOne cX10_addOne 6 (some .int) ∈ tG := tG_s2 209 rfl rfl
theorem wd_450 : Cond.methodLink RX10 86 yX10_isNoOne ∈ tG := tG_s2 210 rfl rfl
theorem wd_451 : Cond.static yX10_isNoOne ∈ tG := tG_s2 211 rfl rfl
theorem wd_452 : Cond.code yX10_isNoOne cX10_isNoOne 4 (some .boolean) ∈ tG := tG_s2 212 rfl rfl
theorem wd_453 : Cond.methodLink RX10 166 yX10_turnKin ∈ tG := tG_s2 213 rfl rfl
theorem wd_454 : Cond.instanceMethod yX10_turnKin ∈ tG := tG_s2 214 rfl rfl
theorem wd_455 : Cond.selects RX10 yX10_turnKin yX10_turnKin ∈ tG := tG_s2 215 rfl rfl
theorem wd_456 : Cond.code yX10_turnKin cX10_turnKin 3 (some .int) ∈ tG := tG_s2 216 rfl rfl
theorem wd_457 : Cond.methodLink RX10 90 yX10_areKin ∈ tG := tG_s2 217 rfl rfl
theorem wd_458 : Cond.instanceMethod yX10_areKin ∈ tG := tG_s2 218 rfl rfl
theorem wd_459 : Cond.selects RX10 yX10_areKin yX10_areKin ∈ tG := tG_s2 219 rfl rfl
theorem wd_460 : Cond.code yX10_areKin cX10_areKin 3 (some .boolean) ∈ tG := tG_s2 220 rfl rfl
theorem wd_461 : Cond.methodLink RX10 170 yX8_signAt ∈ tG := tG_s2 221 rfl rfl
theorem wd_462 : Cond.methodLink RX10 173 yX10_addPlant ∈ tG := tG_s2 222 rfl rfl
theorem wd_463 : Cond.instanceMethod yX10_addPlant ∈ tG := tG_s2 223 rfl rfl
theorem wd_464 : Cond.selects RX10 yX10_addPlant yX10_addPlant ∈ tG := tG_s2 224 rfl rfl
theorem wd_465 : Cond.code yX10_addPlant cX10_addPlant 6 (some .int) ∈ tG := tG_s2 225 rfl rfl
theorem wd_466 : Cond.methodLink RX10 177 yX10_changeRule ∈ tG := tG_s2 226 rfl rfl
theorem wd_467 : Cond.instanceMethod yX10_changeRule ∈ tG := tG_s2 227 rfl rfl
theorem wd_468 : Cond.selects RX10 yX10_changeRule yX10_changeRule ∈ tG := tG_s2 228 rfl rfl
theorem wd_469 : Cond.code yX10_changeRule cX10_changeRule 5 (some .int) ∈ tG := tG_s2 229 rfl rfl
theorem wd_470 : Cond.methodLink RL 26 yX11_person ∈ tG := tG_s2 230 rfl rfl
theorem wd_471 : Cond.instanceMethod yX11_person ∈ tG := tG_s2 231 rfl rfl
theorem wd_472 : Cond.selects RX11 yX11_person yX11_person ∈ tG := tG_s2 232 rfl rfl
theorem wd_473 : Cond.code yX11_person cX11_person 3 (some .int) ∈ tG := tG_s2 233 rfl rfl
theorem wd_474 : Cond.methodLink RX11 81 yX11_isNobody ∈ tG := tG_s2 234 rfl rfl
theorem wd_476 : Cond.instanceMethod yX11_isNobody ∈ tG := tG_s2 236 rfl rfl
theorem wd_477 : Cond.code yX11_isNobody cX11_isNobody 2 (some .boolean) ∈ tG := tG_s2 237 rfl rfl
theorem wd_478 : Cond.methodLink RX11 100 yX7_dueWhenTold ∈ tG := tG_s2 238 rfl rfl
theorem wd_479 : Cond.instanceMethod yX7_dueWhenTold ∈ tG := tG_s2 239 rfl rfl
theorem wd_480 : Cond.selects RX7 yX7_dueWhenTold yX7_dueWhenTold ∈ tG := tG_s3 0 rfl rfl
theorem wd_481 : Cond.sameMethod "ThoughtBetterOf$Plain" "ThoughtBetterOf$Plain" "dueWhenTold" "(I)I" ∈ tG := tG_s3 1 rfl rfl
theorem wd_482 : Cond.selects RX0 yX7_dueWhenTold yX0_dueWhenTold ∈ tG := tG_s3 2 rfl rfl
theorem wd_483 : Cond.instanceMethod yX0_dueWhenTold ∈ tG := tG_s3 3 rfl rfl
theorem wd_484 : Cond.code yX0_dueWhenTold cX0_dueWhenTold 2 (some .int) ∈ tG := tG_s3 4 rfl rfl
theorem wd_485 : Cond.methodLink RX0 7 yX7_dueWhenTold ∈ tG := tG_s3 5 rfl rfl
theorem wd_486 : Cond.methodLink RX0 11 Lib.Math.min.name ∈ tG := tG_s3 6 rfl rfl
theorem wd_487 : Cond.static Lib.Math.min.name ∈ tG := tG_s3 7 rfl rfl
theorem wd_488 : Cond.code Lib.Math.min.name Lib.Math.min.code 2 (some .int) ∈ tG := tG_s3 8 rfl rfl
theorem wd_489 : Cond.selects RX1 yX7_dueWhenTold yX7_dueWhenTold ∈ tG := tG_s3 9 rfl rfl
theorem wd_490 : Cond.selects RX3 yX7_dueWhenTold yX7_dueWhenTold ∈ tG := tG_s3 10 rfl rfl
theorem wd_491 : Cond.selects RX4 yX7_dueWhenTold yX7_dueWhenTold ∈ tG := tG_s3 11 rfl rfl
theorem wd_492 : Cond.selects RX5 yX7_dueWhenTold yX7_dueWhenTold ∈ tG := tG_s3 12 rfl rfl
theorem wd_493 : Cond.selects RX6 yX7_dueWhenTold yX7_dueWhenTold ∈ tG := tG_s3 13 rfl rfl
theorem wd_494 : Cond.selects RX9 yX7_dueWhenTold yX7_dueWhenTold ∈ tG := tG_s3 14 rfl rfl
theorem wd_495 : Cond.code yX7_dueWhenTold cX7_dueWhenTold 2 (some .int) ∈ tG := tG_s3 15 rfl rfl
theorem wd_496 : Cond.methodLink RL 31 yX11_weighs ∈ tG := tG_s3 16 rfl rfl
theorem wd_497 : Cond.instanceMethod yX11_weighs ∈ tG := tG_s3 17 rfl rfl
theorem wd_498 : Cond.selects RX11 yX11_weighs yX11_weighs ∈ tG := tG_s3 18 rfl rfl
theorem wd_499 : Cond.code yX11_weighs cX11_weighs 4 (some .int) ∈ tG := tG_s3 19 rfl rfl
theorem wd_500 : Cond.methodLink RX11 110 yX11_isOut ∈ tG := tG_s3 20 rfl rfl
theorem wd_501 : Cond.constant RX11 114 (-1000000001) ∈ tG := tG_s3 21 rfl rfl
theorem wd_502 : Cond.methodLink RX11 115 yX7_sumOf ∈ tG := tG_s3 22 rfl rfl
theorem wd_503 : Cond.instanceMethod yX7_sumOf ∈ tG := tG_s3 23 rfl rfl
theorem wd_504 : Cond.selects RX7 yX7_sumOf yX7_sumOf ∈ tG := tG_s3 24 rfl rfl
theorem wd_505 : Cond.sameMethod "ThoughtBetterOf$Plain" "ThoughtBetterOf$Plain" "sumOf" "(II)I" ∈ tG := tG_s3 25 rfl rfl
theorem wd_506 : Cond.selects RX0 yX7_sumOf yX7_sumOf ∈ tG := tG_s3 26 rfl rfl
theorem wd_507 : Cond.selects RX1 yX7_sumOf yX7_sumOf ∈ tG := tG_s3 27 rfl rfl
theorem wd_508 : Cond.selects RX3 yX7_sumOf yX3_sumOf ∈ tG := tG_s3 28 rfl rfl
theorem wd_509 : Cond.instanceMethod yX3_sumOf ∈ tG := tG_s3 29 rfl rfl
theorem wd_510 : Cond.code yX3_sumOf cX3_sumOf 3 (some .int) ∈ tG := tG_s3 30 rfl rfl
theorem wd_511 : Cond.methodLink RX3 7 ⟨RX1, "sumOf", "(II)I"⟩ ∈ tG := tG_s3 31 rfl rfl
theorem wd_512 : Cond.sameMethod "ThoughtBetterOf$Child" "ThoughtBetterOf$Plain" "sumOf" "(II)I" ∈ tG := tG_s3 32 rfl rfl
theorem wd_514 : Cond.selects RX4 yX7_sumOf yX7_sumOf ∈ tG := tG_s3 34 rfl rfl
theorem wd_515 : Cond.selects RX5 yX7_sumOf yX5_sumOf ∈ tG := tG_s3 35 rfl rfl
theorem wd_516 : Cond.instanceMethod yX5_sumOf ∈ tG := tG_s3 36 rfl rfl
theorem wd_517 : Cond.code yX5_sumOf cX5_sumOf 3 (some .int) ∈ tG := tG_s3 37 rfl rfl
theorem wd_518 : Cond.methodLink RX5 7 yX7_sumOf ∈ tG := tG_s3 38 rfl rfl
theorem wd_519 : Cond.selects RX6 yX7_sumOf yX6_sumOf ∈ tG := tG_s3 39 rfl rfl
theorem wd_520 : Cond.instanceMethod yX6_sumOf ∈ tG := tG_s3 40 rfl rfl
theorem wd_521 : Cond.code yX6_sumOf cX6_sumOf 3 (some .int) ∈ tG := tG_s3 41 rfl rfl
theorem wd_522 : Cond.methodLink RX6 7 yX5_sumOf ∈ tG := tG_s3 42 rfl rfl
theorem wd_523 : Cond.selects RX9 yX7_sumOf yX7_sumOf ∈ tG := tG_s3 43 rfl rfl
theorem wd_524 : Cond.code yX7_sumOf cX7_sumOf 3 (some .int) ∈ tG := tG_s3 44 rfl rfl
theorem wd_525 : Cond.methodLink RL 36 yX11_strength ∈ tG := tG_s3 45 rfl rfl
theorem wd_526 : Cond.instanceMethod yX11_strength ∈ tG := tG_s3 46 rfl rfl
theorem wd_527 : Cond.selects RX11 yX11_strength yX11_strength ∈ tG := tG_s3 47 rfl rfl
theorem wd_528 : Cond.code yX11_strength cX11_strength 3 (some .int) ∈ tG := tG_s3 48 rfl rfl
theorem wd_529 : Cond.methodLink RX11 118 yX7_strengthOf ∈ tG := tG_s3 49 rfl rfl
theorem wd_530 : Cond.instanceMethod yX7_strengthOf ∈ tG := tG_s3 50 rfl rfl
theorem wd_531 : Cond.selects RX7 yX7_strengthOf yX7_strengthOf ∈ tG := tG_s3 51 rfl rfl
theorem wd_532 : Cond.sameMethod "ThoughtBetterOf$Plain" "ThoughtBetterOf$Plain" "strengthOf" "(I)I" ∈ tG := tG_s3 52 rfl rfl
theorem wd_533 : Cond.selects RX0 yX7_strengthOf yX7_strengthOf ∈ tG := tG_s3 53 rfl rfl
theorem wd_534 : Cond.selects RX1 yX7_strengthOf yX7_strengthOf ∈ tG := tG_s3 54 rfl rfl
theorem wd_535 : Cond.selects RX3 yX7_strengthOf yX7_strengthOf ∈ tG := tG_s3 55 rfl rfl
theorem wd_536 : Cond.selects RX4 yX7_strengthOf yX4_strengthOf ∈ tG := tG_s3 56 rfl rfl
theorem wd_537 : Cond.instanceMethod yX4_strengthOf ∈ tG := tG_s3 57 rfl rfl
theorem wd_538 : Cond.code yX4_strengthOf cX4_strengthOf 2 (some .int) ∈ tG := tG_s3 58 rfl rfl
theorem wd_539 : Cond.methodLink RX4 7 yX7_strengthOf ∈ tG := tG_s3 59 rfl rfl
theorem wd_540 : Cond.selects RX5 yX7_strengthOf yX7_strengthOf ∈ tG := tG_s3 60 rfl rfl
theorem wd_541 : Cond.selects RX6 yX7_strengthOf yX7_strengthOf ∈ tG := tG_s3 61 rfl rfl
theorem wd_542 : Cond.selects RX9 yX7_strengthOf yX9_strengthOf ∈ tG := tG_s3 62 rfl rfl
theorem wd_543 : Cond.instanceMethod yX9_strengthOf ∈ tG := tG_s3 63 rfl rfl
theorem wd_544 : Cond.code yX9_strengthOf cX9_strengthOf 2 (some .int) ∈ tG := tG_s3 64 rfl rfl
theorem wd_545 : Cond.methodLink RX9 7 yX4_strengthOf ∈ tG := tG_s3 65 rfl rfl
theorem wd_546 : Cond.code yX7_strengthOf cX7_strengthOf 2 (some .int) ∈ tG := tG_s3 66 rfl rfl
theorem wd_547 : Cond.methodLink RL 40 yX11_price ∈ tG := tG_s3 67 rfl rfl
theorem wd_548 : Cond.instanceMethod yX11_price ∈ tG := tG_s3 68 rfl rfl
theorem wd_549 : Cond.selects RX11 yX11_price yX11_price ∈ tG := tG_s3 69 rfl rfl
theorem wd_550 : Cond.code yX11_price cX11_price 3 (some .int) ∈ tG := tG_s3 70 rfl rfl
theorem wd_551 : Cond.methodLink RX11 124 yX7_priceOf ∈ tG := tG_s3 71 rfl rfl
theorem wd_552 : Cond.instanceMethod yX7_priceOf ∈ tG := tG_s3 72 rfl rfl
theorem wd_553 : Cond.selects RX7 yX7_priceOf yX7_priceOf ∈ tG := tG_s3 73 rfl rfl
theorem wd_554 : Cond.sameMethod "ThoughtBetterOf$Plain" "ThoughtBetterOf$Plain" "priceOf" "(II)I" ∈ tG := tG_s3 74 rfl rfl
theorem wd_555 : Cond.selects RX0 yX7_priceOf yX7_priceOf ∈ tG := tG_s3 75 rfl rfl
theorem wd_556 : Cond.selects RX1 yX7_priceOf yX1_priceOf ∈ tG := tG_s3 76 rfl rfl
theorem wd_557 : Cond.instanceMethod yX1_priceOf ∈ tG := tG_s3 77 rfl rfl
theorem wd_558 : Cond.code yX1_priceOf cX1_priceOf 3 (some .int) ∈ tG := tG_s3 78 rfl rfl
theorem wd_559 : Cond.methodLink RX1 7 yX7_priceOf ∈ tG := tG_s3 79 rfl rfl
theorem wd_560 : Cond.selects RX3 yX7_priceOf yX3_priceOf ∈ tG := tG_s3 80 rfl rfl
theorem wd_561 : Cond.instanceMethod yX3_priceOf ∈ tG := tG_s3 81 rfl rfl
theorem wd_562 : Cond.code yX3_priceOf cX3_priceOf 3 (some .int) ∈ tG := tG_s3 82 rfl rfl
theorem wd_563 : Cond.methodLink RX3 11 yX1_priceOf ∈ tG := tG_s3 83 rfl rfl
theorem wd_564 : Cond.methodLink RX3 14 Lib.Math.max.name ∈ tG := tG_s3 84 rfl rfl
theorem wd_565 : Cond.static Lib.Math.max.name ∈ tG := tG_s3 85 rfl rfl
theorem wd_566 : Cond.code Lib.Math.max.name Lib.Math.max.code 2 (some .int) ∈ tG := tG_s3 86 rfl rfl
theorem wd_567 : Cond.selects RX4 yX7_priceOf yX7_priceOf ∈ tG := tG_s3 87 rfl rfl
theorem wd_568 : Cond.selects RX5 yX7_priceOf yX7_priceOf ∈ tG := tG_s3 88 rfl rfl
theorem wd_569 : Cond.selects RX6 yX7_priceOf yX7_priceOf ∈ tG := tG_s3 89 rfl rfl
theorem wd_570 : Cond.selects RX9 yX7_priceOf yX7_priceOf ∈ tG := tG_s3 90 rfl rfl
theorem wd_571 : Cond.code yX7_priceOf cX7_priceOf 3 (some .int) ∈ tG := tG_s3 91 rfl rfl
theorem wd_572 : Cond.methodLink RL 44 yX11_comes ∈ tG := tG_s3 92 rfl rfl
theorem wd_573 : Cond.instanceMethod yX11_comes ∈ tG := tG_s3 93 rfl rfl
theorem wd_574 : Cond.selects RX11 yX11_comes yX11_comes ∈ tG := tG_s3 94 rfl rfl
theorem wd_575 : Cond.code yX11_comes cX11_comes 7 (some .int) ∈ tG := tG_s3 95 rfl rfl
theorem wd_576 : Cond.methodLink RX11 130 yX10_isNoOne ∈ tG := tG_s3 96 rfl rfl
theorem wd_577 : Cond.methodLink RX11 134 yX10_addOne ∈ tG := tG_s3 97 rfl rfl
theorem wd_578 : Cond.methodLink RL 49 yX11_leaves ∈ tG := tG_s3 98 rfl rfl
theorem wd_579 : Cond.instanceMethod yX11_leaves ∈ tG := tG_s3 99 rfl rfl
theorem wd_580 : Cond.selects RX11 yX11_leaves yX11_leaves ∈ tG := tG_s3 100 rfl rfl
theorem wd_581 : Cond.code yX11_leaves cX11_leaves 2 (some .int) ∈ tG := tG_s3 101 rfl rfl
theorem wd_582 : Cond.methodLink RX11 138 yX10_dropOne ∈ tG := tG_s3 102 rfl rfl
theorem wd_583 : Cond.instanceMethod yX10_dropOne ∈ tG := tG_s3 103 rfl rfl
theorem wd_584 : Cond.selects RX10 yX10_dropOne yX10_dropOne ∈ tG := tG_s3 104 rfl rfl
theorem wd_585 : Cond.code yX10_dropOne cX10_dropOne 3 (some .int) ∈ tG := tG_s3 105 rfl rfl
theorem wd_586 : Cond.methodLink RL 53 yX11_mood ∈ tG := tG_s3 106 rfl rfl
theorem wd_587 : Cond.instanceMethod yX11_mood ∈ tG := tG_s3 107 rfl rfl
theorem wd_588 : Cond.selects RX11 yX11_mood yX11_mood ∈ tG := tG_s3 108 rfl rfl
theorem wd_589 : Cond.code yX11_mood cX11_mood 4 (some .int) ∈ tG := tG_s3 109 rfl rfl
theorem wd_590 : Cond.methodLink RL 57 yX11_coins ∈ tG := tG_s3 110 rfl rfl
theorem wd_591 : Cond.instanceMethod yX11_coins ∈ tG := tG_s3 111 rfl rfl
theorem wd_592 : Cond.selects RX11 yX11_coins yX11_coins ∈ tG := tG_s3 112 rfl rfl
theorem wd_593 : Cond.code yX11_coins cX11_coins 4 (some .int) ∈ tG := tG_s3 113 rfl rfl
theorem wd_594 : Cond.methodLink RL 61 yX11_fact ∈ tG := tG_s3 114 rfl rfl
theorem wd_595 : Cond.instanceMethod yX11_fact ∈ tG := tG_s3 115 rfl rfl
theorem wd_596 : Cond.selects RX11 yX11_fact yX11_fact ∈ tG := tG_s3 116 rfl rfl
theorem wd_597 : Cond.code yX11_fact cX11_fact 4 (some .int) ∈ tG := tG_s3 117 rfl rfl
theorem wd_598 : Cond.methodLink RX11 141 yX10_addFact ∈ tG := tG_s3 118 rfl rfl
theorem wd_599 : Cond.methodLink RL 65 yX11_about ∈ tG := tG_s3 119 rfl rfl
theorem wd_600 : Cond.instanceMethod yX11_about ∈ tG := tG_s3 120 rfl rfl
theorem wd_601 : Cond.selects RX11 yX11_about yX11_about ∈ tG := tG_s3 121 rfl rfl
theorem wd_602 : Cond.code yX11_about cX11_about 3 (some .int) ∈ tG := tG_s3 122 rfl rfl
theorem wd_603 : Cond.methodLink RX11 145 yX11_isNoFact ∈ tG := tG_s3 123 rfl rfl
theorem wd_605 : Cond.instanceMethod yX11_isNoFact ∈ tG := tG_s3 125 rfl rfl
theorem wd_606 : Cond.code yX11_isNoFact cX11_isNoFact 2 (some .boolean) ∈ tG := tG_s3 126 rfl rfl
theorem wd_607 : Cond.methodLink RL 69 yX11_chance ∈ tG := tG_s3 127 rfl rfl
theorem wd_608 : Cond.instanceMethod yX11_chance ∈ tG := tG_s3 128 rfl rfl
theorem wd_609 : Cond.selects RX11 yX11_chance yX11_chance ∈ tG := tG_s3 129 rfl rfl
theorem wd_610 : Cond.code yX11_chance cX11_chance 4 (some .int) ∈ tG := tG_s3 130 rfl rfl
theorem wd_611 : Cond.methodLink RL 73 yX11_kin ∈ tG := tG_s3 131 rfl rfl
theorem wd_612 : Cond.instanceMethod yX11_kin ∈ tG := tG_s3 132 rfl rfl
theorem wd_613 : Cond.selects RX11 yX11_kin yX11_kin ∈ tG := tG_s3 133 rfl rfl
theorem wd_614 : Cond.code yX11_kin cX11_kin 3 (some .int) ∈ tG := tG_s3 134 rfl rfl
theorem wd_615 : Cond.methodLink RX11 160 yX10_turnKin ∈ tG := tG_s3 135 rfl rfl
theorem wd_616 : Cond.methodLink RL 77 yX11_set ∈ tG := tG_s3 136 rfl rfl
theorem wd_617 : Cond.instanceMethod yX11_set ∈ tG := tG_s3 137 rfl rfl
theorem wd_618 : Cond.selects RX11 yX11_set yX11_set ∈ tG := tG_s3 138 rfl rfl
theorem wd_619 : Cond.code yX11_set cX11_set 3 (some .int) ∈ tG := tG_s3 139 rfl rfl
theorem wd_620 : Cond.methodLink RX11 163 yX10_changeRule ∈ tG := tG_s3 140 rfl rfl
theorem wd_621 : Cond.methodLink RL 81 yX11_fate ∈ tG := tG_s3 141 rfl rfl
theorem wd_622 : Cond.instanceMethod yX11_fate ∈ tG := tG_s3 142 rfl rfl
theorem wd_623 : Cond.selects RX11 yX11_fate yX11_fate ∈ tG := tG_s3 143 rfl rfl
theorem wd_624 : Cond.code yX11_fate cX11_fate 3 (some .int) ∈ tG := tG_s3 144 rfl rfl
theorem wd_625 : Cond.methodLink RX11 166 yX2_run ∈ tG := tG_s3 145 rfl rfl
theorem wd_626 : Cond.instanceMethod yX2_run ∈ tG := tG_s3 146 rfl rfl
theorem wd_627 : Cond.selects RX2 yX2_run yX2_run ∈ tG := tG_s3 147 rfl rfl
theorem wd_628 : Cond.code yX2_run cX2_run 5 none ∈ tG := tG_s3 148 rfl rfl
theorem wd_629 : Cond.methodLink RX2 62 yX7_dueWhenTold ∈ tG := tG_s3 149 rfl rfl
theorem wd_630 : Cond.methodLink RX2 83 yX2_offer ∈ tG := tG_s3 150 rfl rfl
theorem wd_632 : Cond.instanceMethod yX2_offer ∈ tG := tG_s3 152 rfl rfl
theorem wd_633 : Cond.code yX2_offer cX2_offer 6 none ∈ tG := tG_s3 153 rfl rfl
theorem wd_634 : Cond.methodLink RX2 87 yX2_thinkFirst ∈ tG := tG_s3 154 rfl rfl
theorem wd_636 : Cond.instanceMethod yX2_thinkFirst ∈ tG := tG_s3 156 rfl rfl
theorem wd_637 : Cond.code yX2_thinkFirst cX2_thinkFirst 2 none ∈ tG := tG_s3 157 rfl rfl
theorem wd_638 : Cond.methodLink RX2 106 yX10_weightOf ∈ tG := tG_s3 158 rfl rfl
theorem wd_639 : Cond.instanceMethod yX10_weightOf ∈ tG := tG_s3 159 rfl rfl
theorem wd_640 : Cond.selects RX10 yX10_weightOf yX10_weightOf ∈ tG := tG_s3 160 rfl rfl
theorem wd_641 : Cond.code yX10_weightOf cX10_weightOf 6 (some .int) ∈ tG := tG_s3 161 rfl rfl
theorem wd_642 : Cond.methodLink RX2 110 yX7_sumOf ∈ tG := tG_s3 162 rfl rfl
theorem wd_643 : Cond.methodLink RX2 91 yX2_buyBest ∈ tG := tG_s3 163 rfl rfl
theorem wd_645 : Cond.instanceMethod yX2_buyBest ∈ tG := tG_s3 165 rfl rfl
theorem wd_646 : Cond.code yX2_buyBest cX2_buyBest 8 none ∈ tG := tG_s3 166 rfl rfl
theorem wd_647 : Cond.methodLink RX2 122 yX7_strengthOf ∈ tG := tG_s3 167 rfl rfl
theorem wd_648 : Cond.methodLink RX2 128 yX2_isForSale ∈ tG := tG_s3 168 rfl rfl
theorem wd_650 : Cond.instanceMethod yX2_isForSale ∈ tG := tG_s3 170 rfl rfl
theorem wd_651 : Cond.code yX2_isForSale cX2_isForSale 4 (some .boolean) ∈ tG := tG_s3 171 rfl rfl
theorem wd_652 : Cond.methodLink RX2 138 yX2_leftOf ∈ tG := tG_s3 172 rfl rfl
theorem wd_654 : Cond.instanceMethod yX2_leftOf ∈ tG := tG_s3 174 rfl rfl
theorem wd_655 : Cond.code yX2_leftOf cX2_leftOf 3 (some .int) ∈ tG := tG_s3 175 rfl rfl
theorem wd_656 : Cond.methodLink RX2 117 Lib.Math.max.name ∈ tG := tG_s3 176 rfl rfl
theorem wd_657 : Cond.methodLink RX2 132 yX2_caseOf ∈ tG := tG_s3 177 rfl rfl
theorem wd_659 : Cond.instanceMethod yX2_caseOf ∈ tG := tG_s3 179 rfl rfl
theorem wd_660 : Cond.code yX2_caseOf cX2_caseOf 2 (some .int) ∈ tG := tG_s3 180 rfl rfl
theorem wd_661 : Cond.methodLink RX2 135 yX10_areKin ∈ tG := tG_s3 181 rfl rfl
theorem wd_662 : Cond.methodLink RX2 141 yX7_priceOf ∈ tG := tG_s3 182 rfl rfl
theorem wd_663 : Cond.methodLink RX2 147 yX7_buysOf ∈ tG := tG_s3 183 rfl rfl
theorem wd_664 : Cond.instanceMethod yX7_buysOf ∈ tG := tG_s3 184 rfl rfl
theorem wd_665 : Cond.selects RX7 yX7_buysOf yX7_buysOf ∈ tG := tG_s3 185 rfl rfl
theorem wd_666 : Cond.sameMethod "ThoughtBetterOf$Plain" "ThoughtBetterOf$Plain" "buysOf" "(II)Z" ∈ tG := tG_s3 186 rfl rfl
theorem wd_667 : Cond.selects RX0 yX7_buysOf yX7_buysOf ∈ tG := tG_s3 187 rfl rfl
theorem wd_668 : Cond.selects RX1 yX7_buysOf yX1_buysOf ∈ tG := tG_s3 188 rfl rfl
theorem wd_669 : Cond.instanceMethod yX1_buysOf ∈ tG := tG_s3 189 rfl rfl
theorem wd_670 : Cond.code yX1_buysOf cX1_buysOf 3 (some .boolean) ∈ tG := tG_s3 190 rfl rfl
theorem wd_671 : Cond.selects RX3 yX7_buysOf yX1_buysOf ∈ tG := tG_s3 191 rfl rfl
theorem wd_672 : Cond.selects RX4 yX7_buysOf yX7_buysOf ∈ tG := tG_s3 192 rfl rfl
theorem wd_673 : Cond.selects RX5 yX7_buysOf yX7_buysOf ∈ tG := tG_s3 193 rfl rfl
theorem wd_674 : Cond.selects RX6 yX7_buysOf yX7_buysOf ∈ tG := tG_s3 194 rfl rfl
theorem wd_675 : Cond.selects RX9 yX7_buysOf yX9_buysOf ∈ tG := tG_s3 195 rfl rfl
theorem wd_676 : Cond.instanceMethod yX9_buysOf ∈ tG := tG_s3 196 rfl rfl
theorem wd_677 : Cond.code yX9_buysOf cX9_buysOf 3 (some .boolean) ∈ tG := tG_s3 197 rfl rfl
theorem wd_678 : Cond.code yX7_buysOf cX7_buysOf 3 (some .boolean) ∈ tG := tG_s3 198 rfl rfl
theorem wd_679 : Cond.methodLink RX2 94 yX2_choose ∈ tG := tG_s3 199 rfl rfl
theorem wd_681 : Cond.instanceMethod yX2_choose ∈ tG := tG_s3 201 rfl rfl
theorem wd_682 : Cond.code yX2_choose cX2_choose 3 none ∈ tG := tG_s3 202 rfl rfl
theorem wd_684 : Cond.static yX11_sideOf ∈ tG := tG_s3 204 rfl rfl
theorem wd_685 : Cond.code yX11_sideOf cX11_sideOf 1 (some .int) ∈ tG := tG_s3 205 rfl rfl
theorem wd_686 : Cond.methodLink RX11 334 yJ6_compare_7cf53 ∈ tG := tG_s3 206 rfl rfl
theorem wd_687 : Cond.static yJ6_compare_7cf53 ∈ tG := tG_s3 207 rfl rfl
theorem wd_688 : Cond.code yJ6_compare_7cf53 cJ6_compare_7cf53 2 (some .int) ∈ tG := tG_s3 208 rfl rfl
theorem wd_689 : Cond.methodLink RX2 97 yX2_thinkAgain ∈ tG := tG_s3 209 rfl rfl
theorem wd_691 : Cond.instanceMethod yX2_thinkAgain ∈ tG := tG_s3 211 rfl rfl
theorem wd_692 : Cond.code yX2_thinkAgain cX2_thinkAgain 5 none ∈ tG := tG_s3 212 rfl rfl
theorem wd_693 : Cond.methodLink RX2 125 yX7_fadeBy ∈ tG := tG_s3 213 rfl rfl
theorem wd_694 : Cond.instanceMethod yX7_fadeBy ∈ tG := tG_s3 214 rfl rfl
theorem wd_695 : Cond.selects RX7 yX7_fadeBy yX7_fadeBy ∈ tG := tG_s3 215 rfl rfl
theorem wd_696 : Cond.sameMethod "ThoughtBetterOf$Plain" "ThoughtBetterOf$Plain" "fadeBy" "(I)I" ∈ tG := tG_s3 216 rfl rfl
theorem wd_697 : Cond.selects RX0 yX7_fadeBy yX7_fadeBy ∈ tG := tG_s3 217 rfl rfl
theorem wd_698 : Cond.selects RX1 yX7_fadeBy yX7_fadeBy ∈ tG := tG_s3 218 rfl rfl
theorem wd_699 : Cond.selects RX3 yX7_fadeBy yX3_fadeBy ∈ tG := tG_s3 219 rfl rfl
theorem wd_700 : Cond.instanceMethod yX3_fadeBy ∈ tG := tG_s3 220 rfl rfl
theorem wd_701 : Cond.code yX3_fadeBy cX3_fadeBy 2 (some .int) ∈ tG := tG_s3 221 rfl rfl
theorem wd_702 : Cond.methodLink RX3 19 ⟨RX1, "fadeBy", "(I)I"⟩ ∈ tG := tG_s3 222 rfl rfl
theorem wd_703 : Cond.sameMethod "ThoughtBetterOf$Child" "ThoughtBetterOf$Plain" "fadeBy" "(I)I" ∈ tG := tG_s3 223 rfl rfl
theorem wd_705 : Cond.selects RX4 yX7_fadeBy yX4_fadeBy ∈ tG := tG_s3 225 rfl rfl
theorem wd_706 : Cond.instanceMethod yX4_fadeBy ∈ tG := tG_s3 226 rfl rfl
theorem wd_707 : Cond.code yX4_fadeBy cX4_fadeBy 2 (some .int) ∈ tG := tG_s3 227 rfl rfl
theorem wd_708 : Cond.methodLink RX4 17 yX7_fadeBy ∈ tG := tG_s3 228 rfl rfl
theorem wd_709 : Cond.methodLink RX4 20 Lib.Math.max.name ∈ tG := tG_s3 229 rfl rfl
theorem wd_710 : Cond.selects RX5 yX7_fadeBy yX7_fadeBy ∈ tG := tG_s3 230 rfl rfl
theorem wd_711 : Cond.selects RX6 yX7_fadeBy yX7_fadeBy ∈ tG := tG_s3 231 rfl rfl
theorem wd_712 : Cond.selects RX9 yX7_fadeBy yX4_fadeBy ∈ tG := tG_s3 232 rfl rfl
theorem wd_713 : Cond.code yX7_fadeBy cX7_fadeBy 2 (some .int) ∈ tG := tG_s3 233 rfl rfl
theorem wd_714 : Cond.methodLink RX11 170 yX2_fateOf ∈ tG := tG_s3 234 rfl rfl
theorem wd_715 : Cond.instanceMethod yX2_fateOf ∈ tG := tG_s3 235 rfl rfl
theorem wd_716 : Cond.selects RX2 yX2_fateOf yX2_fateOf ∈ tG := tG_s3 236 rfl rfl
theorem wd_717 : Cond.code yX2_fateOf cX2_fateOf 4 (some .int) ∈ tG := tG_s3 237 rfl rfl
theorem wd_718 : Cond.methodLink RX2 156 yX2_toldChoice ∈ tG := tG_s3 238 rfl rfl
theorem wd_719 : Cond.instanceMethod yX2_toldChoice ∈ tG := tG_s3 239 rfl rfl
theorem wd_720 : Cond.selects RX2 yX2_toldChoice yX2_toldChoice ∈ tG := tG_s4 0 rfl rfl
theorem wd_721 : Cond.code yX2_toldChoice cX2_toldChoice 2 (some .int) ∈ tG := tG_s4 1 rfl rfl
theorem wd_722 : Cond.methodLink RX2 159 yX2_coinsAt ∈ tG := tG_s4 2 rfl rfl
theorem wd_723 : Cond.instanceMethod yX2_coinsAt ∈ tG := tG_s4 3 rfl rfl
theorem wd_724 : Cond.selects RX2 yX2_coinsAt yX2_coinsAt ∈ tG := tG_s4 4 rfl rfl
theorem wd_725 : Cond.code yX2_coinsAt cX2_coinsAt 5 (some .int) ∈ tG := tG_s4 5 rfl rfl
theorem wd_726 : Cond.methodLink RL 85 yX11_sum ∈ tG := tG_s4 6 rfl rfl
theorem wd_727 : Cond.instanceMethod yX11_sum ∈ tG := tG_s4 7 rfl rfl
theorem wd_728 : Cond.selects RX11 yX11_sum yX11_sum ∈ tG := tG_s4 8 rfl rfl
theorem wd_729 : Cond.code yX11_sum cX11_sum 2 (some .int) ∈ tG := tG_s4 9 rfl rfl
theorem wd_730 : Cond.methodLink RL 89 yX11_sums ∈ tG := tG_s4 10 rfl rfl
theorem wd_731 : Cond.instanceMethod yX11_sums ∈ tG := tG_s4 11 rfl rfl
theorem wd_732 : Cond.selects RX11 yX11_sums yX11_sums ∈ tG := tG_s4 12 rfl rfl
theorem wd_733 : Cond.code yX11_sums cX11_sums 2 (some .int) ∈ tG := tG_s4 13 rfl rfl
theorem wd_734 : Cond.methodLink RX11 176 yX2_countOf ∈ tG := tG_s4 14 rfl rfl
theorem wd_735 : Cond.instanceMethod yX2_countOf ∈ tG := tG_s4 15 rfl rfl
theorem wd_736 : Cond.selects RX2 yX2_countOf yX2_countOf ∈ tG := tG_s4 16 rfl rfl
theorem wd_737 : Cond.code yX2_countOf cX2_countOf 2 (some .int) ∈ tG := tG_s4 17 rfl rfl
theorem wd_738 : Cond.methodLink RX2 162 yX2_howManyChoose ∈ tG := tG_s4 18 rfl rfl
theorem wd_740 : Cond.instanceMethod yX2_howManyChoose ∈ tG := tG_s4 20 rfl rfl
theorem wd_741 : Cond.code yX2_howManyChoose cX2_howManyChoose 4 (some .int) ∈ tG := tG_s4 21 rfl rfl
theorem wd_742 : Cond.methodLink RX2 165 yX2_howManySold ∈ tG := tG_s4 22 rfl rfl
theorem wd_743 : Cond.instanceMethod yX2_howManySold ∈ tG := tG_s4 23 rfl rfl
theorem wd_744 : Cond.selects RX2 yX2_howManySold yX2_howManySold ∈ tG := tG_s4 24 rfl rfl
theorem wd_745 : Cond.code yX2_howManySold cX2_howManySold 3 (some .int) ∈ tG := tG_s4 25 rfl rfl
theorem wd_746 : Cond.methodLink RX2 169 yX2_allPaid ∈ tG := tG_s4 26 rfl rfl
theorem wd_747 : Cond.instanceMethod yX2_allPaid ∈ tG := tG_s4 27 rfl rfl
theorem wd_748 : Cond.selects RX2 yX2_allPaid yX2_allPaid ∈ tG := tG_s4 28 rfl rfl
theorem wd_749 : Cond.code yX2_allPaid cX2_allPaid 3 (some .int) ∈ tG := tG_s4 29 rfl rfl
theorem wd_750 : Cond.methodLink RX2 172 yX2_howManyRegret ∈ tG := tG_s4 30 rfl rfl
theorem wd_751 : Cond.instanceMethod yX2_howManyRegret ∈ tG := tG_s4 31 rfl rfl
theorem wd_752 : Cond.selects RX2 yX2_howManyRegret yX2_howManyRegret ∈ tG := tG_s4 32 rfl rfl
theorem wd_753 : Cond.code yX2_howManyRegret cX2_howManyRegret 3 (some .int) ∈ tG := tG_s4 33 rfl rfl
theorem wd_754 : Cond.methodLink RL 93 yX11_market ∈ tG := tG_s4 34 rfl rfl
theorem wd_755 : Cond.instanceMethod yX11_market ∈ tG := tG_s4 35 rfl rfl
theorem wd_756 : Cond.selects RX11 yX11_market yX11_market ∈ tG := tG_s4 36 rfl rfl
theorem wd_757 : Cond.code yX11_market cX11_market 2 (some .int) ∈ tG := tG_s4 37 rfl rfl
theorem wd_758 : Cond.methodLink RX11 179 yX2_marketAt ∈ tG := tG_s4 38 rfl rfl
theorem wd_759 : Cond.instanceMethod yX2_marketAt ∈ tG := tG_s4 39 rfl rfl
theorem wd_760 : Cond.selects RX2 yX2_marketAt yX2_marketAt ∈ tG := tG_s4 40 rfl rfl
theorem wd_761 : Cond.code yX2_marketAt cX2_marketAt 4 (some .int) ∈ tG := tG_s4 41 rfl rfl
theorem wd_762 : Cond.methodLink RL 97 yX11_chain ∈ tG := tG_s4 42 rfl rfl
theorem wd_763 : Cond.instanceMethod yX11_chain ∈ tG := tG_s4 43 rfl rfl
theorem wd_764 : Cond.selects RX11 yX11_chain yX11_chain ∈ tG := tG_s4 44 rfl rfl
theorem wd_765 : Cond.code yX11_chain cX11_chain 2 (some .int) ∈ tG := tG_s4 45 rfl rfl
theorem wd_766 : Cond.methodLink RX11 182 yX2_chainOf ∈ tG := tG_s4 46 rfl rfl
theorem wd_767 : Cond.instanceMethod yX2_chainOf ∈ tG := tG_s4 47 rfl rfl
theorem wd_768 : Cond.selects RX2 yX2_chainOf yX2_chainOf ∈ tG := tG_s4 48 rfl rfl
theorem wd_769 : Cond.code yX2_chainOf cX2_chainOf 5 (some .int) ∈ tG := tG_s4 49 rfl rfl
theorem wd_770 : Cond.methodLink RL 101 yX11_longest ∈ tG := tG_s4 50 rfl rfl
theorem wd_771 : Cond.instanceMethod yX11_longest ∈ tG := tG_s4 51 rfl rfl
theorem wd_772 : Cond.selects RX11 yX11_longest yX11_longest ∈ tG := tG_s4 52 rfl rfl
theorem wd_773 : Cond.code yX11_longest cX11_longest 3 (some .int) ∈ tG := tG_s4 53 rfl rfl
theorem wd_774 : Cond.methodLink RX11 188 Lib.Math.max.name ∈ tG := tG_s4 54 rfl rfl
theorem wd_775 : Cond.methodLink RL 106 yX11_turners ∈ tG := tG_s4 55 rfl rfl
theorem wd_776 : Cond.instanceMethod yX11_turners ∈ tG := tG_s4 56 rfl rfl
theorem wd_777 : Cond.selects RX11 yX11_turners yX11_turners ∈ tG := tG_s4 57 rfl rfl
theorem wd_778 : Cond.code yX11_turners cX11_turners 5 (some .int) ∈ tG := tG_s4 58 rfl rfl
theorem wd_779 : Cond.methodLink RL 110 yX11_yes ∈ tG := tG_s4 59 rfl rfl
theorem wd_780 : Cond.instanceMethod yX11_yes ∈ tG := tG_s4 60 rfl rfl
theorem wd_781 : Cond.selects RX11 yX11_yes yX11_yes ∈ tG := tG_s4 61 rfl rfl
theorem wd_782 : Cond.code yX11_yes cX11_yes 4 (some .int) ∈ tG := tG_s4 62 rfl rfl
theorem wd_783 : Cond.methodLink RL 114 yX11_moods ∈ tG := tG_s4 63 rfl rfl
theorem wd_784 : Cond.instanceMethod yX11_moods ∈ tG := tG_s4 64 rfl rfl
theorem wd_785 : Cond.selects RX11 yX11_moods yX11_moods ∈ tG := tG_s4 65 rfl rfl
theorem wd_786 : Cond.code yX11_moods cX11_moods 6 (some .int) ∈ tG := tG_s4 66 rfl rfl
theorem wd_787 : Cond.methodLink RL 118 yX11_likely ∈ tG := tG_s4 67 rfl rfl
theorem wd_788 : Cond.instanceMethod yX11_likely ∈ tG := tG_s4 68 rfl rfl
theorem wd_789 : Cond.selects RX11 yX11_likely yX11_likely ∈ tG := tG_s4 69 rfl rfl
theorem wd_790 : Cond.code yX11_likely cX11_likely 3 (some .long) ∈ tG := tG_s4 70 rfl rfl
theorem wd_791 : Cond.constantLong RX11 199 (-1000000001) ∈ tG := tG_s4 71 rfl rfl
theorem wd_792 : Cond.methodLink RX11 201 yX11_expectedYes ∈ tG := tG_s4 72 rfl rfl
theorem wd_794 : Cond.instanceMethod yX11_expectedYes ∈ tG := tG_s4 74 rfl rfl
theorem wd_795 : Cond.code yX11_expectedYes cX11_expectedYes 10 (some .long) ∈ tG := tG_s4 75 rfl rfl
theorem wd_796 : Cond.constantLong RX11 337 (10) ∈ tG := tG_s4 76 rfl rfl
theorem wd_797 : Cond.methodLink RX11 339 yX11_oddsOf ∈ tG := tG_s4 77 rfl rfl
theorem wd_799 : Cond.instanceMethod yX11_oddsOf ∈ tG := tG_s4 79 rfl rfl
theorem wd_800 : Cond.code yX11_oddsOf cX11_oddsOf 6 (some .long) ∈ tG := tG_s4 80 rfl rfl
theorem wd_801 : Cond.methodLink RX11 209 yX2_sayYes ∈ tG := tG_s4 81 rfl rfl
theorem wd_802 : Cond.instanceMethod yX2_sayYes ∈ tG := tG_s4 82 rfl rfl
theorem wd_803 : Cond.selects RX2 yX2_sayYes yX2_sayYes ∈ tG := tG_s4 83 rfl rfl
theorem wd_804 : Cond.code yX2_sayYes cX2_sayYes 3 (some .int) ∈ tG := tG_s4 84 rfl rfl
theorem wd_805 : Cond.methodLink RX11 231 yJ6_bitCount_0f7a4 ∈ tG := tG_s4 85 rfl rfl
theorem wd_806 : Cond.static yJ6_bitCount_0f7a4 ∈ tG := tG_s4 86 rfl rfl
theorem wd_807 : Cond.code yJ6_bitCount_0f7a4 cJ6_bitCount_0f7a4 1 (some .int) ∈ tG := tG_s4 87 rfl rfl
theorem wd_808 : Cond.constant RJ6 265 (1431655765) ∈ tG := tG_s4 88 rfl rfl
theorem wd_809 : Cond.constant RJ6 266 (858993459) ∈ tG := tG_s4 89 rfl rfl
theorem wd_810 : Cond.constant RJ6 267 (252645135) ∈ tG := tG_s4 90 rfl rfl
theorem wd_811 : Cond.methodLink RX11 343 yX11_commonDivisor ∈ tG := tG_s4 91 rfl rfl
theorem wd_812 : Cond.static yX11_commonDivisor ∈ tG := tG_s4 92 rfl rfl
theorem wd_813 : Cond.code yX11_commonDivisor cX11_commonDivisor 11 (some .long) ∈ tG := tG_s4 93 rfl rfl
theorem wd_814 : Cond.methodLink RL 122 yX11_mean ∈ tG := tG_s4 94 rfl rfl
theorem wd_815 : Cond.instanceMethod yX11_mean ∈ tG := tG_s4 95 rfl rfl
theorem wd_816 : Cond.selects RX11 yX11_mean yX11_mean ∈ tG := tG_s4 96 rfl rfl
theorem wd_817 : Cond.code yX11_mean cX11_mean 2 (some .long) ∈ tG := tG_s4 97 rfl rfl
theorem wd_818 : Cond.methodLink RX11 205 yX11_everybody ∈ tG := tG_s4 98 rfl rfl
theorem wd_820 : Cond.instanceMethod yX11_everybody ∈ tG := tG_s4 100 rfl rfl
theorem wd_821 : Cond.code yX11_everybody cX11_everybody 1 (some .int) ∈ tG := tG_s4 101 rfl rfl
theorem wd_822 : Cond.methodLink RL 127 yX11_turn ∈ tG := tG_s4 102 rfl rfl
theorem wd_823 : Cond.instanceMethod yX11_turn ∈ tG := tG_s4 103 rfl rfl
theorem wd_824 : Cond.selects RX11 yX11_turn yX11_turn ∈ tG := tG_s4 104 rfl rfl
theorem wd_825 : Cond.code yX11_turn cX11_turn 6 (some .int) ∈ tG := tG_s4 105 rfl rfl
theorem wd_826 : Cond.methodLink RX11 212 yX10_addPlant ∈ tG := tG_s4 106 rfl rfl
theorem wd_827 : Cond.methodLink RL 131 yX11_guard ∈ tG := tG_s4 107 rfl rfl
theorem wd_828 : Cond.instanceMethod yX11_guard ∈ tG := tG_s4 108 rfl rfl
theorem wd_829 : Cond.selects RX11 yX11_guard yX11_guard ∈ tG := tG_s4 109 rfl rfl
theorem wd_830 : Cond.code yX11_guard cX11_guard 4 (some .int) ∈ tG := tG_s4 110 rfl rfl
theorem wd_831 : Cond.methodLink RX11 225 yX2_choices ∈ tG := tG_s4 111 rfl rfl
theorem wd_832 : Cond.instanceMethod yX2_choices ∈ tG := tG_s4 112 rfl rfl
theorem wd_833 : Cond.selects RX2 yX2_choices yX2_choices ∈ tG := tG_s4 113 rfl rfl
theorem wd_834 : Cond.code yX2_choices cX2_choices 3 (some .int) ∈ tG := tG_s4 114 rfl rfl
theorem wd_835 : Cond.methodLink RX11 228 yX11_whoDiffers ∈ tG := tG_s4 115 rfl rfl
theorem wd_836 : Cond.static yX11_whoDiffers ∈ tG := tG_s4 116 rfl rfl
theorem wd_837 : Cond.code yX11_whoDiffers cX11_whoDiffers 4 (some .int) ∈ tG := tG_s4 117 rfl rfl
theorem wd_838 : Cond.methodLink RL 135 yX11_law ∈ tG := tG_s4 118 rfl rfl
theorem wd_839 : Cond.instanceMethod yX11_law ∈ tG := tG_s4 119 rfl rfl
theorem wd_840 : Cond.selects RX11 yX11_law yX11_law ∈ tG := tG_s4 120 rfl rfl
theorem wd_841 : Cond.code yX11_law cX11_law 3 (some .int) ∈ tG := tG_s4 121 rfl rfl
theorem wd_842 : Cond.methodLink RL 139 yX11_bestRate ∈ tG := tG_s4 122 rfl rfl
theorem wd_843 : Cond.instanceMethod yX11_bestRate ∈ tG := tG_s4 123 rfl rfl
theorem wd_844 : Cond.selects RX11 yX11_bestRate yX11_bestRate ∈ tG := tG_s4 124 rfl rfl
theorem wd_845 : Cond.code yX11_bestRate cX11_bestRate 5 (some .int) ∈ tG := tG_s4 125 rfl rfl
theorem wd_846 : Cond.methodLink RX11 236 yX2_allPaid ∈ tG := tG_s4 126 rfl rfl
theorem wd_847 : Cond.methodLink RL 143 yX11_bestOpen ∈ tG := tG_s4 127 rfl rfl
theorem wd_848 : Cond.instanceMethod yX11_bestOpen ∈ tG := tG_s4 128 rfl rfl
theorem wd_849 : Cond.selects RX11 yX11_bestOpen yX11_bestOpen ∈ tG := tG_s4 129 rfl rfl
theorem wd_850 : Cond.code yX11_bestOpen cX11_bestOpen 5 (some .int) ∈ tG := tG_s4 130 rfl rfl
theorem wd_851 : Cond.methodLink RX11 239 yX2_howManyRegret ∈ tG := tG_s4 131 rfl rfl
theorem wd_852 : Cond.methodLink RL 147 yX11_purse ∈ tG := tG_s4 132 rfl rfl
theorem wd_853 : Cond.instanceMethod yX11_purse ∈ tG := tG_s4 133 rfl rfl
theorem wd_854 : Cond.selects RX11 yX11_purse yX11_purse ∈ tG := tG_s4 134 rfl rfl
theorem wd_855 : Cond.code yX11_purse cX11_purse 4 (some .int) ∈ tG := tG_s4 135 rfl rfl
theorem wd_856 : Cond.methodLink RL 151 yX11_two ∈ tG := tG_s4 136 rfl rfl
theorem wd_857 : Cond.instanceMethod yX11_two ∈ tG := tG_s4 137 rfl rfl
theorem wd_858 : Cond.selects RX11 yX11_two yX11_two ∈ tG := tG_s4 138 rfl rfl
theorem wd_859 : Cond.code yX11_two cX11_two 5 (some .int) ∈ tG := tG_s4 139 rfl rfl
theorem wd_860 : Cond.methodLink RX11 242 Lib.Math.min.name ∈ tG := tG_s4 140 rfl rfl
theorem wd_861 : Cond.methodLink RX11 245 yX2_coinsAt ∈ tG := tG_s4 141 rfl rfl
theorem wd_862 : Cond.methodLink RX11 248 yX11_isBestWait ∈ tG := tG_s4 142 rfl rfl
theorem wd_863 : Cond.static yX11_isBestWait ∈ tG := tG_s4 143 rfl rfl
theorem wd_864 : Cond.code yX11_isBestWait cX11_isBestWait 4 (some .boolean) ∈ tG := tG_s4 144 rfl rfl
theorem wd_865 : Cond.methodLink RL 155 yX11_without ∈ tG := tG_s4 145 rfl rfl
theorem wd_866 : Cond.instanceMethod yX11_without ∈ tG := tG_s4 146 rfl rfl
theorem wd_867 : Cond.selects RX11 yX11_without yX11_without ∈ tG := tG_s4 147 rfl rfl
theorem wd_868 : Cond.code yX11_without cX11_without 3 (some .int) ∈ tG := tG_s4 148 rfl rfl
theorem wd_869 : Cond.methodLink RX11 252 yX11_sideOf ∈ tG := tG_s4 149 rfl rfl
theorem wd_870 : Cond.methodLink RL 159 yX11_again ∈ tG := tG_s4 150 rfl rfl
theorem wd_871 : Cond.instanceMethod yX11_again ∈ tG := tG_s4 151 rfl rfl
theorem wd_872 : Cond.selects RX11 yX11_again yX11_again ∈ tG := tG_s4 152 rfl rfl
theorem wd_873 : Cond.code yX11_again cX11_again 6 (some .int) ∈ tG := tG_s4 153 rfl rfl
theorem wd_874 : Cond.methodLink RX11 255 arraycopyName ∈ tG := tG_s4 154 rfl rfl
theorem wd_875 : Cond.methodLink RX11 261 yX11_dayBegunAlike ∈ tG := tG_s4 155 rfl rfl
theorem wd_877 : Cond.instanceMethod yX11_dayBegunAlike ∈ tG := tG_s4 157 rfl rfl
theorem wd_878 : Cond.code yX11_dayBegunAlike cX11_dayBegunAlike 5 (some .int) ∈ tG := tG_s4 158 rfl rfl
theorem wd_879 : Cond.methodLink RL 163 yX11_explained ∈ tG := tG_s4 159 rfl rfl
theorem wd_880 : Cond.instanceMethod yX11_explained ∈ tG := tG_s4 160 rfl rfl
theorem wd_881 : Cond.selects RX11 yX11_explained yX11_explained ∈ tG := tG_s4 161 rfl rfl
theorem wd_882 : Cond.code yX11_explained cX11_explained 8 (some .int) ∈ tG := tG_s4 162 rfl rfl
theorem wd_883 : Cond.methodLink RX11 267 yX11_toldChoicesRefusal ∈ tG := tG_s4 163 rfl rfl
theorem wd_885 : Cond.instanceMethod yX11_toldChoicesRefusal ∈ tG := tG_s4 165 rfl rfl
theorem wd_886 : Cond.code yX11_toldChoicesRefusal cX11_toldChoicesRefusal 3 (some .int) ∈ tG := tG_s4 166 rfl rfl
theorem wd_887 : Cond.methodLink RX11 270 yX11_firstMisfit ∈ tG := tG_s4 167 rfl rfl
theorem wd_889 : Cond.instanceMethod yX11_firstMisfit ∈ tG := tG_s4 169 rfl rfl
theorem wd_890 : Cond.code yX11_firstMisfit cX11_firstMisfit 5 (some .int) ∈ tG := tG_s4 170 rfl rfl
theorem wd_891 : Cond.methodLink RX11 277 yX8_isSkipped ∈ tG := tG_s4 171 rfl rfl
theorem wd_892 : Cond.instanceMethod yX8_isSkipped ∈ tG := tG_s4 172 rfl rfl
theorem wd_893 : Cond.selects RX8 yX8_isSkipped yX8_isSkipped ∈ tG := tG_s4 173 rfl rfl
theorem wd_894 : Cond.code yX8_isSkipped cX8_isSkipped 3 (some .boolean) ∈ tG := tG_s4 174 rfl rfl
theorem wd_895 : Cond.constant RX8 26 (-2147483648) ∈ tG := tG_s4 175 rfl rfl
theorem wd_896 : Cond.methodLink RX11 280 yX8_at ∈ tG := tG_s4 176 rfl rfl
theorem wd_897 : Cond.methodLink RX11 347 yX2_toldChoice ∈ tG := tG_s4 177 rfl rfl
theorem wd_898 : Cond.methodLink RL 167 yX11_forged ∈ tG := tG_s4 178 rfl rfl
theorem wd_899 : Cond.instanceMethod yX11_forged ∈ tG := tG_s4 179 rfl rfl
theorem wd_900 : Cond.selects RX11 yX11_forged yX11_forged ∈ tG := tG_s4 180 rfl rfl
theorem wd_901 : Cond.code yX11_forged cX11_forged 6 (some .int) ∈ tG := tG_s4 181 rfl rfl
theorem wd_902 : Cond.methodLink RL 171 yX11_judge ∈ tG := tG_s4 182 rfl rfl
theorem wd_903 : Cond.instanceMethod yX11_judge ∈ tG := tG_s4 183 rfl rfl
theorem wd_904 : Cond.selects RX11 yX11_judge yX11_judge ∈ tG := tG_s4 184 rfl rfl
theorem wd_905 : Cond.code yX11_judge cX11_judge 6 (some .int) ∈ tG := tG_s4 185 rfl rfl
theorem wd_906 : Cond.methodLink RL 175 yX11_seeds ∈ tG := tG_s4 186 rfl rfl
theorem wd_907 : Cond.instanceMethod yX11_seeds ∈ tG := tG_s4 187 rfl rfl
theorem wd_908 : Cond.selects RX11 yX11_seeds yX11_seeds ∈ tG := tG_s4 188 rfl rfl
theorem wd_909 : Cond.code yX11_seeds cX11_seeds 9 (some .int) ∈ tG := tG_s4 189 rfl rfl
theorem wd_910 : Cond.constant RX11 283 (1103515245) ∈ tG := tG_s4 190 rfl rfl
theorem wd_911 : Cond.constant RX11 284 (2147483647) ∈ tG := tG_s4 191 rfl rfl
theorem wd_912 : Cond.constant RX11 285 (65536) ∈ tG := tG_s4 192 rfl rfl
theorem wd_913 : Cond.methodLink RX11 286 yX2_howManySold ∈ tG := tG_s4 193 rfl rfl
theorem wd_914 : Cond.methodLink RL 179 yX11_image ∈ tG := tG_s4 194 rfl rfl
theorem wd_915 : Cond.instanceMethod yX11_image ∈ tG := tG_s4 195 rfl rfl
theorem wd_916 : Cond.selects RX11 yX11_image yX11_image ∈ tG := tG_s4 196 rfl rfl
theorem wd_917 : Cond.code yX11_image cX11_image 1 (some .int) ∈ tG := tG_s4 197 rfl rfl
theorem wd_918 : Cond.methodLink RL 183 yX11_restore ∈ tG := tG_s4 198 rfl rfl
theorem wd_919 : Cond.instanceMethod yX11_restore ∈ tG := tG_s4 199 rfl rfl
theorem wd_920 : Cond.selects RX11 yX11_restore yX11_restore ∈ tG := tG_s4 200 rfl rfl
theorem wd_921 : Cond.code yX11_restore cX11_restore 1 (some .int) ∈ tG := tG_s4 201 rfl rfl
theorem wd_922 : Cond.methodLink RL 187 yX11_count ∈ tG := tG_s4 202 rfl rfl
theorem wd_923 : Cond.instanceMethod yX11_count ∈ tG := tG_s4 203 rfl rfl
theorem wd_924 : Cond.selects RX11 yX11_count yX11_count ∈ tG := tG_s4 204 rfl rfl
theorem wd_925 : Cond.code yX11_count cX11_count 2 (some .int) ∈ tG := tG_s4 205 rfl rfl
theorem wd_926 : Cond.methodLink RX11 289 yX10_allCoins ∈ tG := tG_s4 206 rfl rfl
theorem wd_927 : Cond.instanceMethod yX10_allCoins ∈ tG := tG_s4 207 rfl rfl
theorem wd_928 : Cond.selects RX10 yX10_allCoins yX10_allCoins ∈ tG := tG_s4 208 rfl rfl
theorem wd_929 : Cond.code yX10_allCoins cX10_allCoins 3 (some .int) ∈ tG := tG_s4 209 rfl rfl
theorem wd_930 : Cond.methodLink RX11 292 yX10_pairsOfKin ∈ tG := tG_s4 210 rfl rfl
theorem wd_931 : Cond.instanceMethod yX10_pairsOfKin ∈ tG := tG_s4 211 rfl rfl
theorem wd_932 : Cond.selects RX10 yX10_pairsOfKin yX10_pairsOfKin ∈ tG := tG_s4 212 rfl rfl
theorem wd_933 : Cond.code yX10_pairsOfKin cX10_pairsOfKin 4 (some .int) ∈ tG := tG_s4 213 rfl rfl
theorem wd_934 : Cond.methodLink RL 191 yX11_keep ∈ tG := tG_s4 214 rfl rfl
theorem wd_935 : Cond.instanceMethod yX11_keep ∈ tG := tG_s4 215 rfl rfl
theorem wd_936 : Cond.selects RX11 yX11_keep yX11_keep ∈ tG := tG_s4 216 rfl rfl
theorem wd_937 : Cond.code yX11_keep cX11_keep 5 (some .int) ∈ tG := tG_s4 217 rfl rfl
theorem wd_938 : Cond.methodLink RX11 295 yX11_oneOfKind ∈ tG := tG_s4 218 rfl rfl
theorem wd_939 : Cond.methodLink RL 196 yX11_row ∈ tG := tG_s4 219 rfl rfl
theorem wd_940 : Cond.instanceMethod yX11_row ∈ tG := tG_s4 220 rfl rfl
theorem wd_941 : Cond.selects RX11 yX11_row yX11_row ∈ tG := tG_s4 221 rfl rfl
theorem wd_942 : Cond.code yX11_row cX11_row 4 (some .int) ∈ tG := tG_s4 222 rfl rfl
theorem wd_943 : Cond.methodLink RX11 299 yX8_begin ∈ tG := tG_s4 223 rfl rfl
theorem wd_944 : Cond.instanceMethod yX8_begin ∈ tG := tG_s4 224 rfl rfl
theorem wd_945 : Cond.selects RX8 yX8_begin yX8_begin ∈ tG := tG_s4 225 rfl rfl
theorem wd_946 : Cond.code yX8_begin cX8_begin 4 none ∈ tG := tG_s4 226 rfl rfl
theorem wd_947 : Cond.methodLink RL 200 yX11_put ∈ tG := tG_s4 227 rfl rfl
theorem wd_948 : Cond.instanceMethod yX11_put ∈ tG := tG_s4 228 rfl rfl
theorem wd_949 : Cond.selects RX11 yX11_put yX11_put ∈ tG := tG_s4 229 rfl rfl
theorem wd_950 : Cond.code yX11_put cX11_put 5 (some .int) ∈ tG := tG_s4 230 rfl rfl
theorem wd_951 : Cond.methodLink RX11 302 yX8_hasPlaces ∈ tG := tG_s4 231 rfl rfl
theorem wd_952 : Cond.methodLink RX11 306 yX8_write ∈ tG := tG_s4 232 rfl rfl
theorem wd_953 : Cond.instanceMethod yX8_write ∈ tG := tG_s4 233 rfl rfl
theorem wd_954 : Cond.selects RX8 yX8_write yX8_write ∈ tG := tG_s4 234 rfl rfl
theorem wd_955 : Cond.code yX8_write cX8_write 3 none ∈ tG := tG_s4 235 rfl rfl
theorem wd_956 : Cond.methodLink RL 213 yX11_copy ∈ tG := tG_s4 236 rfl rfl
theorem wd_957 : Cond.instanceMethod yX11_copy ∈ tG := tG_s4 237 rfl rfl
theorem wd_958 : Cond.selects RX11 yX11_copy yX11_copy ∈ tG := tG_s4 238 rfl rfl
theorem wd_959 : Cond.code yX11_copy cX11_copy 6 (some .int) ∈ tG := tG_s4 239 rfl rfl
theorem wd_960 : Cond.methodLink RL 217 yX11_cost ∈ tG := tG_s5 0 rfl rfl
theorem wd_961 : Cond.instanceMethod yX11_cost ∈ tG := tG_s5 1 rfl rfl
theorem wd_962 : Cond.selects RX11 yX11_cost yX11_cost ∈ tG := tG_s5 2 rfl rfl
theorem wd_963 : Cond.code yX11_cost cX11_cost 3 (some .int) ∈ tG := tG_s5 3 rfl rfl
theorem wd_964 : Cond.methodLink RX11 326 yX7_costOf ∈ tG := tG_s5 4 rfl rfl
theorem wd_965 : Cond.instanceMethod yX7_costOf ∈ tG := tG_s5 5 rfl rfl
theorem wd_966 : Cond.selects RX7 yX7_costOf yX7_costOf ∈ tG := tG_s5 6 rfl rfl
theorem wd_967 : Cond.sameMethod "ThoughtBetterOf$Plain" "ThoughtBetterOf$Plain" "costOf" "()I" ∈ tG := tG_s5 7 rfl rfl
theorem wd_968 : Cond.selects RX0 yX7_costOf yX0_costOf ∈ tG := tG_s5 8 rfl rfl
theorem wd_969 : Cond.instanceMethod yX0_costOf ∈ tG := tG_s5 9 rfl rfl
theorem wd_970 : Cond.code yX0_costOf cX0_costOf 1 (some .int) ∈ tG := tG_s5 10 rfl rfl
theorem wd_971 : Cond.methodLink RX0 17 yX7_costOf ∈ tG := tG_s5 11 rfl rfl
theorem wd_972 : Cond.selects RX1 yX7_costOf yX1_costOf ∈ tG := tG_s5 12 rfl rfl
theorem wd_973 : Cond.instanceMethod yX1_costOf ∈ tG := tG_s5 13 rfl rfl
theorem wd_974 : Cond.code yX1_costOf cX1_costOf 1 (some .int) ∈ tG := tG_s5 14 rfl rfl
theorem wd_975 : Cond.methodLink RX1 11 yX7_costOf ∈ tG := tG_s5 15 rfl rfl
theorem wd_976 : Cond.selects RX3 yX7_costOf yX3_costOf ∈ tG := tG_s5 16 rfl rfl
theorem wd_977 : Cond.instanceMethod yX3_costOf ∈ tG := tG_s5 17 rfl rfl
theorem wd_978 : Cond.code yX3_costOf cX3_costOf 1 (some .int) ∈ tG := tG_s5 18 rfl rfl
theorem wd_979 : Cond.methodLink RX3 23 yX1_costOf ∈ tG := tG_s5 19 rfl rfl
theorem wd_980 : Cond.selects RX4 yX7_costOf yX4_costOf ∈ tG := tG_s5 20 rfl rfl
theorem wd_981 : Cond.instanceMethod yX4_costOf ∈ tG := tG_s5 21 rfl rfl
theorem wd_982 : Cond.code yX4_costOf cX4_costOf 1 (some .int) ∈ tG := tG_s5 22 rfl rfl
theorem wd_983 : Cond.methodLink RX4 26 yX7_costOf ∈ tG := tG_s5 23 rfl rfl
theorem wd_984 : Cond.selects RX5 yX7_costOf yX5_costOf ∈ tG := tG_s5 24 rfl rfl
theorem wd_985 : Cond.instanceMethod yX5_costOf ∈ tG := tG_s5 25 rfl rfl
theorem wd_986 : Cond.code yX5_costOf cX5_costOf 1 (some .int) ∈ tG := tG_s5 26 rfl rfl
theorem wd_987 : Cond.methodLink RX5 11 yX7_costOf ∈ tG := tG_s5 27 rfl rfl
theorem wd_988 : Cond.selects RX6 yX7_costOf yX6_costOf ∈ tG := tG_s5 28 rfl rfl
theorem wd_989 : Cond.instanceMethod yX6_costOf ∈ tG := tG_s5 29 rfl rfl
theorem wd_990 : Cond.code yX6_costOf cX6_costOf 1 (some .int) ∈ tG := tG_s5 30 rfl rfl
theorem wd_991 : Cond.methodLink RX6 11 yX5_costOf ∈ tG := tG_s5 31 rfl rfl
theorem wd_992 : Cond.selects RX9 yX7_costOf yX9_costOf ∈ tG := tG_s5 32 rfl rfl
theorem wd_993 : Cond.instanceMethod yX9_costOf ∈ tG := tG_s5 33 rfl rfl
theorem wd_994 : Cond.code yX9_costOf cX9_costOf 1 (some .int) ∈ tG := tG_s5 34 rfl rfl
theorem wd_995 : Cond.methodLink RX9 11 yX4_costOf ∈ tG := tG_s5 35 rfl rfl
theorem wd_996 : Cond.code yX7_costOf cX7_costOf 1 (some .int) ∈ tG := tG_s5 36 rfl rfl
theorem wd_997 : Cond.methodLink RL 221 yX11_toss ∈ tG := tG_s5 37 rfl rfl
theorem wd_998 : Cond.instanceMethod yX11_toss ∈ tG := tG_s5 38 rfl rfl
theorem wd_999 : Cond.selects RX11 yX11_toss yX11_toss ∈ tG := tG_s5 39 rfl rfl
theorem wd_1001 : Cond.classLink RX11 316 "java/lang/IllegalStateException" ∈ tG := tG_s5 41 rfl rfl
theorem wd_1002 : Cond.classLink RX11 309 "java/lang/IllegalArgumentException" ∈ tG := tG_s5 42 rfl rfl
theorem wd_1003 : Cond.classLink RX11 332 "java/lang/UnsupportedOperationException" ∈ tG := tG_s5 43 rfl rfl
theorem wd_1004 : Cond.methodLink RX11 329 yX7_fail ∈ tG := tG_s5 44 rfl rfl
theorem wd_1005 : Cond.instanceMethod yX7_fail ∈ tG := tG_s5 45 rfl rfl
theorem wd_1006 : Cond.selects RX7 yX7_fail yX7_fail ∈ tG := tG_s5 46 rfl rfl
theorem wd_1007 : Cond.sameMethod "ThoughtBetterOf$Plain" "ThoughtBetterOf$Plain" "fail" "()V" ∈ tG := tG_s5 47 rfl rfl
theorem wd_1008 : Cond.selects RX0 yX7_fail yX7_fail ∈ tG := tG_s5 48 rfl rfl
theorem wd_1009 : Cond.selects RX1 yX7_fail yX1_fail ∈ tG := tG_s5 49 rfl rfl
theorem wd_1010 : Cond.instanceMethod yX1_fail ∈ tG := tG_s5 50 rfl rfl
theorem wd_1011 : Cond.code yX1_fail cX1_fail 1 none ∈ tG := tG_s5 51 rfl rfl
theorem wd_1012 : Cond.selects RX3 yX7_fail yX1_fail ∈ tG := tG_s5 52 rfl rfl
theorem wd_1013 : Cond.selects RX4 yX7_fail yX4_fail ∈ tG := tG_s5 53 rfl rfl
theorem wd_1014 : Cond.instanceMethod yX4_fail ∈ tG := tG_s5 54 rfl rfl
theorem wd_1015 : Cond.code yX4_fail cX4_fail 1 none ∈ tG := tG_s5 55 rfl rfl
theorem wd_1016 : Cond.classLink RX4 30 "java/lang/IllegalArgumentException" ∈ tG := tG_s5 56 rfl rfl
theorem wd_1048 : Cond.sameMethod "java/lang/Throwable" "java/lang/Throwable" "fillInStackTrace" "()Ljava/lang/Throwable;" ∈ tG := tG_s5 88 rfl rfl
theorem wd_1083 : Cond.selects RX5 yX7_fail yX7_fail ∈ tG := tG_s5 123 rfl rfl
theorem wd_1084 : Cond.selects RX6 yX7_fail yX6_fail ∈ tG := tG_s5 124 rfl rfl
theorem wd_1085 : Cond.instanceMethod yX6_fail ∈ tG := tG_s5 125 rfl rfl
theorem wd_1086 : Cond.code yX6_fail cX6_fail 1 none ∈ tG := tG_s5 126 rfl rfl
theorem wd_1087 : Cond.classLink RX6 21 "java/lang/UnsupportedOperationException" ∈ tG := tG_s5 127 rfl rfl
theorem wd_1103 : Cond.selects RX9 yX7_fail yX4_fail ∈ tG := tG_s5 143 rfl rfl
theorem wd_1104 : Cond.code yX7_fail cX7_fail 1 none ∈ tG := tG_s5 144 rfl rfl
theorem wd_1105 : Cond.classLink RX7 16 "java/lang/IllegalStateException" ∈ tG := tG_s5 145 rfl rfl
theorem wd_1121 : Cond.methodLink RL 204 yL_element ∈ tG := tG_s5 161 rfl rfl
theorem wd_1122 : Cond.static yL_element ∈ tG := tG_s5 162 rfl rfl
theorem wd_1124 : Cond.classLink RL 13 "java/lang/IllegalArgumentException" ∈ tG := tG_s5 164 rfl rfl
theorem wd_1125 : Cond.classLink RL 15 "java/lang/IllegalStateException" ∈ tG := tG_s5 165 rfl rfl
theorem wd_1126 : Cond.methodLink RL 7 yX11_element ∈ tG := tG_s5 166 rfl rfl
theorem wd_1127 : Cond.instanceMethod yX11_element ∈ tG := tG_s5 167 rfl rfl
theorem wd_1128 : Cond.selects RX11 yX11_element yX11_element ∈ tG := tG_s5 168 rfl rfl
theorem wd_1129 : Cond.code yX11_element cX11_element 3 (some .long) ∈ tG := tG_s5 169 rfl rfl
theorem wd_1135 : Cond.classLink RL 18 RX12 ∈ tG := tG_s5 175 rfl rfl
theorem wd_1136 : Cond.instantiable RX12 65 ∈ tG := tG_s5 176 rfl rfl
theorem wd_1137 : Cond.methodLink RL 20 yX12_init ∈ tG := tG_s5 177 rfl rfl
theorem wd_1138 : Cond.instanceMethod yX12_init ∈ tG := tG_s5 178 rfl rfl
theorem wd_1139 : Cond.code yX12_init cX12_init 2 none ∈ tG := tG_s5 179 rfl rfl
theorem wd_1140 : Cond.methodLink RX12 1 objectInit ∈ tG := tG_s5 180 rfl rfl
theorem wd_1141 : Cond.fieldLink RX12 7 "ThoughtBetterOfModel" "kins" "[I" ∈ tG := tG_s5 181 rfl rfl
theorem wd_1142 : Cond.fieldLink RX12 181 "ThoughtBetterOfModel" "facts" "I" ∈ tG := tG_s5 182 rfl rfl
theorem wd_1143 : Cond.fieldLink RX12 13 "ThoughtBetterOfModel" "factCase" "[I" ∈ tG := tG_s5 183 rfl rfl
theorem wd_1144 : Cond.fieldLink RX12 16 "ThoughtBetterOfModel" "factWeight" "[I" ∈ tG := tG_s5 184 rfl rfl
theorem wd_1145 : Cond.fieldLink RX12 19 "ThoughtBetterOfModel" "factHour" "[I" ∈ tG := tG_s5 185 rfl rfl
theorem wd_1146 : Cond.fieldLink RX12 22 "ThoughtBetterOfModel" "factChance" "[I" ∈ tG := tG_s5 186 rfl rfl
theorem wd_1147 : Cond.fieldLink RX12 25 "ThoughtBetterOfModel" "opens" "I" ∈ tG := tG_s5 187 rfl rfl
theorem wd_1148 : Cond.fieldLink RX12 29 "ThoughtBetterOfModel" "fades" "I" ∈ tG := tG_s5 188 rfl rfl
theorem wd_1149 : Cond.fieldLink RX12 32 "ThoughtBetterOfModel" "rates" "I" ∈ tG := tG_s5 189 rfl rfl
theorem wd_1150 : Cond.fieldLink RX12 232 "ThoughtBetterOfModel" "plants" "I" ∈ tG := tG_s5 190 rfl rfl
theorem wd_1151 : Cond.fieldLink RX12 35 "ThoughtBetterOfModel" "plantCase" "[I" ∈ tG := tG_s5 191 rfl rfl
theorem wd_1152 : Cond.fieldLink RX12 38 "ThoughtBetterOfModel" "plantSide" "[I" ∈ tG := tG_s5 192 rfl rfl
theorem wd_1153 : Cond.fieldLink RX12 41 "ThoughtBetterOfModel" "plantStrength" "[I" ∈ tG := tG_s5 193 rfl rfl
theorem wd_1154 : Cond.fieldLink RX12 44 "ThoughtBetterOfModel" "plantPrice" "[I" ∈ tG := tG_s5 194 rfl rfl
theorem wd_1155 : Cond.fieldLink RX12 47 "ThoughtBetterOfModel" "plantHour" "[I" ∈ tG := tG_s5 195 rfl rfl
theorem wd_1156 : Cond.fieldLink RX12 171 "ThoughtBetterOfModel" "people" "I" ∈ tG := tG_s5 196 rfl rfl
theorem wd_1157 : Cond.fieldLink RX12 50 "ThoughtBetterOfModel" "kinds" "[I" ∈ tG := tG_s5 197 rfl rfl
theorem wd_1158 : Cond.fieldLink RX12 53 "ThoughtBetterOfModel" "figures" "[I" ∈ tG := tG_s5 198 rfl rfl
theorem wd_1159 : Cond.fieldLink RX12 56 "ThoughtBetterOfModel" "cases" "[I" ∈ tG := tG_s5 199 rfl rfl
theorem wd_1160 : Cond.fieldLink RX12 59 "ThoughtBetterOfModel" "hours" "[I" ∈ tG := tG_s5 200 rfl rfl
theorem wd_1161 : Cond.fieldLink RX12 62 "ThoughtBetterOfModel" "moods0" "[I" ∈ tG := tG_s5 201 rfl rfl
theorem wd_1162 : Cond.fieldLink RX12 65 "ThoughtBetterOfModel" "coins0" "[I" ∈ tG := tG_s5 202 rfl rfl
theorem wd_1163 : Cond.fieldLink RX12 68 "ThoughtBetterOfModel" "holdsWhat" "[I" ∈ tG := tG_s5 203 rfl rfl
theorem wd_1164 : Cond.fieldLink RX12 71 "ThoughtBetterOfModel" "keptKind" "[I" ∈ tG := tG_s5 204 rfl rfl
theorem wd_1165 : Cond.fieldLink RX12 74 "ThoughtBetterOfModel" "keptFigure" "[I" ∈ tG := tG_s5 205 rfl rfl
theorem wd_1166 : Cond.fieldLink RX12 77 "ThoughtBetterOfModel" "rowSort" "[I" ∈ tG := tG_s5 206 rfl rfl
theorem wd_1167 : Cond.fieldLink RX12 80 "ThoughtBetterOfModel" "rowMany" "[I" ∈ tG := tG_s5 207 rfl rfl
theorem wd_1168 : Cond.fieldLink RX12 83 "ThoughtBetterOfModel" "rows" "[J" ∈ tG := tG_s5 208 rfl rfl
theorem wd_1169 : Cond.fieldLink RX12 160 "ThoughtBetterOfModel" "thrown" "I" ∈ tG := tG_s5 209 rfl rfl
theorem wd_1170 : Cond.fieldLink RX12 87 "ThoughtBetterOfModel" "factBits" "I" ∈ tG := tG_s5 210 rfl rfl
theorem wd_1171 : Cond.fieldLink RX12 210 "ThoughtBetterOfModel" "isShut" "Z" ∈ tG := tG_s5 211 rfl rfl
theorem wd_1172 : Cond.fieldLink RX12 90 "ThoughtBetterOfModel" "chosen" "[Z" ∈ tG := tG_s5 212 rfl rfl
theorem wd_1173 : Cond.fieldLink RX12 94 "ThoughtBetterOfModel" "choices" "[I" ∈ tG := tG_s5 213 rfl rfl
theorem wd_1174 : Cond.fieldLink RX12 97 "ThoughtBetterOfModel" "firsts" "[I" ∈ tG := tG_s5 214 rfl rfl
theorem wd_1175 : Cond.fieldLink RX12 100 "ThoughtBetterOfModel" "boughtFrom" "[I" ∈ tG := tG_s5 215 rfl rfl
theorem wd_1176 : Cond.fieldLink RX12 103 "ThoughtBetterOfModel" "paid" "[I" ∈ tG := tG_s5 216 rfl rfl
theorem wd_1177 : Cond.fieldLink RX12 106 "ThoughtBetterOfModel" "purses" "[I" ∈ tG := tG_s5 217 rfl rfl
theorem wd_1178 : Cond.fieldLink RX12 109 "ThoughtBetterOfModel" "regrets" "[Z" ∈ tG := tG_s5 218 rfl rfl
theorem wd_1179 : Cond.fieldLink RX12 112 "ThoughtBetterOfModel" "saleHour" "[I" ∈ tG := tG_s5 219 rfl rfl
theorem wd_1180 : Cond.fieldLink RX12 115 "ThoughtBetterOfModel" "saleStrength" "[I" ∈ tG := tG_s5 220 rfl rfl
theorem wd_1181 : Cond.fieldLink RX12 118 "ThoughtBetterOfModel" "saleSide" "[I" ∈ tG := tG_s5 221 rfl rfl
theorem wd_1182 : Cond.fieldLink RX12 121 "ThoughtBetterOfModel" "soldTo" "[I" ∈ tG := tG_s5 222 rfl rfl
theorem wd_1183 : Cond.fieldLink RX12 124 "ThoughtBetterOfModel" "soldHour" "[I" ∈ tG := tG_s5 223 rfl rfl
theorem wd_1184 : Cond.fieldLink RX12 127 "ThoughtBetterOfModel" "purseAt" "[I" ∈ tG := tG_s5 224 rfl rfl
theorem wd_1185 : Cond.fieldLink RX12 130 "ThoughtBetterOfModel" "kept" "[I" ∈ tG := tG_s5 225 rfl rfl
theorem wd_1186 : Cond.fieldLink RX12 133 "ThoughtBetterOfModel" "imaged" "[I" ∈ tG := tG_s5 226 rfl rfl
theorem wd_1187 : Cond.fieldLink RX12 258 "ThoughtBetterOfModel" "hasImage" "Z" ∈ tG := tG_s5 227 rfl rfl
theorem wd_1188 : Cond.fieldLink RX12 248 "ThoughtBetterOfModel" "place0" "I" ∈ tG := tG_s5 228 rfl rfl
theorem wd_1189 : Cond.fieldLink RX12 242 "ThoughtBetterOfModel" "isTaking" "Z" ∈ tG := tG_s5 229 rfl rfl
theorem wd_1190 : Cond.fieldLink RX12 245 "ThoughtBetterOfModel" "keptIn" "[I" ∈ tG := tG_s5 230 rfl rfl
theorem wd_1191 : Cond.fieldLink RX12 264 "ThoughtBetterOfModel" "reading" "I" ∈ tG := tG_s5 231 rfl rfl
theorem wd_1192 : Cond.fieldLink RX12 261 "ThoughtBetterOfModel" "at" "I" ∈ tG := tG_s5 232 rfl rfl
theorem wd_1193 : Cond.fieldLink RX12 267 "ThoughtBetterOfModel" "isBad" "Z" ∈ tG := tG_s5 233 rfl rfl
theorem wd_1194 : Cond.fieldLink RX12 284 "ThoughtBetterOfModel" "statements" "I" ∈ tG := tG_s5 234 rfl rfl
theorem wd_1195 : Cond.fieldLink RX12 136 "ThoughtBetterOfModel" "placeIn" "[I" ∈ tG := tG_s5 235 rfl rfl
theorem wd_1196 : Cond.fieldLink RX12 139 "ThoughtBetterOfModel" "letterOf" "[I" ∈ tG := tG_s5 236 rfl rfl
theorem wd_1197 : Cond.fieldLink RX12 142 "ThoughtBetterOfModel" "toldOf" "[I" ∈ tG := tG_s5 237 rfl rfl
theorem wd_1198 : Cond.fieldLink RX12 145 "ThoughtBetterOfModel" "aside" "[I" ∈ tG := tG_s5 238 rfl rfl
theorem wd_1199 : Cond.fieldLink RX12 148 "ThoughtBetterOfModel" "endOne" "[I" ∈ tG := tG_s5 239 rfl rfl
theorem wd_1200 : Cond.fieldLink RX12 151 "ThoughtBetterOfModel" "endOther" "[I" ∈ tG := tG_s6 0 rfl rfl
theorem wd_1201 : Cond.fieldLink RX12 154 "ThoughtBetterOfModel" "began" "[I" ∈ tG := tG_s6 1 rfl rfl
theorem wd_1202 : Cond.fieldLink RX12 429 "ThoughtBetterOfModel" "fitMany" "I" ∈ tG := tG_s6 2 rfl rfl
theorem wd_1203 : Cond.fieldLink RX12 432 "ThoughtBetterOfModel" "fitLeast" "I" ∈ tG := tG_s6 3 rfl rfl
theorem wd_1204 : Cond.fieldLink RX12 435 "ThoughtBetterOfModel" "fitLongest" "I" ∈ tG := tG_s6 4 rfl rfl
theorem wd_1205 : Cond.fieldLink RX12 157 "ThoughtBetterOfModel" "between" "[J" ∈ tG := tG_s6 5 rfl rfl
theorem wd_1336 : Cond.superclass RX12 "java/lang/Object" ∈ tG := tG_s6 136 rfl rfl
theorem wd_1337 : Cond.arrayClass .long ∈ tG := tG_s6 137 rfl rfl
theorem wd_1338 : Cond.arrayClass .boolean ∈ tG := tG_s6 138 rfl rfl
theorem wd_1339 : Cond.methodLink RL 210 yX12_thrown ∈ tG := tG_s6 139 rfl rfl
theorem wd_1340 : Cond.instanceMethod yX12_thrown ∈ tG := tG_s6 140 rfl rfl
theorem wd_1341 : Cond.selects RX12 yX12_thrown yX12_thrown ∈ tG := tG_s6 141 rfl rfl
theorem wd_1342 : Cond.code yX12_thrown cX12_thrown 1 (some .int) ∈ tG := tG_s6 142 rfl rfl
theorem wd_1343 : Cond.methodLink RL 182 yX12_image ∈ tG := tG_s6 143 rfl rfl
theorem wd_1344 : Cond.instanceMethod yX12_image ∈ tG := tG_s6 144 rfl rfl
theorem wd_1345 : Cond.selects RX12 yX12_image yX12_image ∈ tG := tG_s6 145 rfl rfl
theorem wd_1346 : Cond.code yX12_image cX12_image 1 (some .int) ∈ tG := tG_s6 146 rfl rfl
theorem wd_1347 : Cond.methodLink RX12 254 yX12_carryAll ∈ tG := tG_s6 147 rfl rfl
theorem wd_1349 : Cond.instanceMethod yX12_carryAll ∈ tG := tG_s6 149 rfl rfl
theorem wd_1350 : Cond.code yX12_carryAll cX12_carryAll 4 none ∈ tG := tG_s6 150 rfl rfl
theorem wd_1351 : Cond.methodLink RX12 251 yX12_carry ∈ tG := tG_s6 151 rfl rfl
theorem wd_1353 : Cond.instanceMethod yX12_carry ∈ tG := tG_s6 153 rfl rfl
theorem wd_1354 : Cond.code yX12_carry cX12_carry 2 (some .int) ∈ tG := tG_s6 154 rfl rfl
theorem wd_1355 : Cond.methodLink RL 186 yX12_restore ∈ tG := tG_s6 155 rfl rfl
theorem wd_1356 : Cond.instanceMethod yX12_restore ∈ tG := tG_s6 156 rfl rfl
theorem wd_1357 : Cond.selects RX12 yX12_restore yX12_restore ∈ tG := tG_s6 157 rfl rfl
theorem wd_1358 : Cond.code yX12_restore cX12_restore 1 (some .int) ∈ tG := tG_s6 158 rfl rfl
theorem wd_1359 : Cond.methodLink RL 25 yX12_town ∈ tG := tG_s6 159 rfl rfl
theorem wd_1360 : Cond.instanceMethod yX12_town ∈ tG := tG_s6 160 rfl rfl
theorem wd_1361 : Cond.selects RX12 yX12_town yX12_town ∈ tG := tG_s6 161 rfl rfl
theorem wd_1362 : Cond.code yX12_town cX12_town 4 (some .int) ∈ tG := tG_s6 162 rfl rfl
theorem wd_1363 : Cond.methodLink RX12 322 yX12_wrongRow ∈ tG := tG_s6 163 rfl rfl
theorem wd_1365 : Cond.instanceMethod yX12_wrongRow ∈ tG := tG_s6 165 rfl rfl
theorem wd_1366 : Cond.code yX12_wrongRow cX12_wrongRow 2 (some .int) ∈ tG := tG_s6 166 rfl rfl
theorem wd_1367 : Cond.constantLong RX12 353 (7) ∈ tG := tG_s6 167 rfl rfl
theorem wd_1368 : Cond.methodLink RX12 165 yX12_in ∈ tG := tG_s6 168 rfl rfl
theorem wd_1369 : Cond.static yX12_in ∈ tG := tG_s6 169 rfl rfl
theorem wd_1370 : Cond.code yX12_in cX12_in 6 (some .boolean) ∈ tG := tG_s6 170 rfl rfl
theorem wd_1371 : Cond.methodLink RX12 325 yX12_readStatement ∈ tG := tG_s6 171 rfl rfl
theorem wd_1373 : Cond.instanceMethod yX12_readStatement ∈ tG := tG_s6 173 rfl rfl
theorem wd_1374 : Cond.code yX12_readStatement cX12_readStatement 3 none ∈ tG := tG_s6 174 rfl rfl
theorem wd_1375 : Cond.methodLink RX12 270 yX12_here ∈ tG := tG_s6 175 rfl rfl
theorem wd_1377 : Cond.instanceMethod yX12_here ∈ tG := tG_s6 177 rfl rfl
theorem wd_1378 : Cond.code yX12_here cX12_here 1 (some .int) ∈ tG := tG_s6 178 rfl rfl
theorem wd_1379 : Cond.methodLink RX12 287 yX12_isLetter ∈ tG := tG_s6 179 rfl rfl
theorem wd_1380 : Cond.static yX12_isLetter ∈ tG := tG_s6 180 rfl rfl
theorem wd_1381 : Cond.code yX12_isLetter cX12_isLetter 1 (some .boolean) ∈ tG := tG_s6 181 rfl rfl
theorem wd_1382 : Cond.methodLink RX12 291 yX12_readNumbers ∈ tG := tG_s6 182 rfl rfl
theorem wd_1384 : Cond.instanceMethod yX12_readNumbers ∈ tG := tG_s6 184 rfl rfl
theorem wd_1385 : Cond.code yX12_readNumbers cX12_readNumbers 3 none ∈ tG := tG_s6 185 rfl rfl
theorem wd_1386 : Cond.methodLink RX12 278 yX12_readDigits ∈ tG := tG_s6 186 rfl rfl
theorem wd_1388 : Cond.instanceMethod yX12_readDigits ∈ tG := tG_s6 188 rfl rfl
theorem wd_1389 : Cond.code yX12_readDigits cX12_readDigits 4 (some .int) ∈ tG := tG_s6 189 rfl rfl
theorem wd_1390 : Cond.constantLong RX12 274 (48) ∈ tG := tG_s6 190 rfl rfl
theorem wd_1391 : Cond.constantLong RX12 276 (57) ∈ tG := tG_s6 191 rfl rfl
theorem wd_1392 : Cond.methodLink RX12 281 yX12_readSign ∈ tG := tG_s6 192 rfl rfl
theorem wd_1394 : Cond.instanceMethod yX12_readSign ∈ tG := tG_s6 194 rfl rfl
theorem wd_1395 : Cond.code yX12_readSign cX12_readSign 2 (some .int) ∈ tG := tG_s6 195 rfl rfl
theorem wd_1396 : Cond.methodLink RX12 328 yX12_open ∈ tG := tG_s6 196 rfl rfl
theorem wd_1398 : Cond.instanceMethod yX12_open ∈ tG := tG_s6 198 rfl rfl
theorem wd_1399 : Cond.code yX12_open cX12_open 1 none ∈ tG := tG_s6 199 rfl rfl
theorem wd_1400 : Cond.methodLink RX12 331 yX12_comesTold ∈ tG := tG_s6 200 rfl rfl
theorem wd_1402 : Cond.instanceMethod yX12_comesTold ∈ tG := tG_s6 202 rfl rfl
theorem wd_1403 : Cond.code yX12_comesTold cX12_comesTold 5 (some .boolean) ∈ tG := tG_s6 203 rfl rfl
theorem wd_1404 : Cond.methodLink RX12 310 yX12_factComes ∈ tG := tG_s6 204 rfl rfl
theorem wd_1406 : Cond.instanceMethod yX12_factComes ∈ tG := tG_s6 206 rfl rfl
theorem wd_1407 : Cond.code yX12_factComes cX12_factComes 5 (some .boolean) ∈ tG := tG_s6 207 rfl rfl
theorem wd_1408 : Cond.methodLink RX12 294 yX12_isCase ∈ tG := tG_s6 208 rfl rfl
theorem wd_1409 : Cond.static yX12_isCase ∈ tG := tG_s6 209 rfl rfl
theorem wd_1410 : Cond.code yX12_isCase cX12_isCase 1 (some .boolean) ∈ tG := tG_s6 210 rfl rfl
theorem wd_1411 : Cond.constantLong RX12 163 (3) ∈ tG := tG_s6 211 rfl rfl
theorem wd_1412 : Cond.methodLink RX12 297 yX12_isHour ∈ tG := tG_s6 212 rfl rfl
theorem wd_1413 : Cond.static yX12_isHour ∈ tG := tG_s6 213 rfl rfl
theorem wd_1414 : Cond.code yX12_isHour cX12_isHour 1 (some .boolean) ∈ tG := tG_s6 214 rfl rfl
theorem wd_1415 : Cond.constantLong RX12 169 (23) ∈ tG := tG_s6 215 rfl rfl
theorem wd_1416 : Cond.methodLink RX12 313 yX12_oneTold ∈ tG := tG_s6 216 rfl rfl
theorem wd_1418 : Cond.instanceMethod yX12_oneTold ∈ tG := tG_s6 218 rfl rfl
theorem wd_1419 : Cond.code yX12_oneTold cX12_oneTold 3 (some .boolean) ∈ tG := tG_s6 219 rfl rfl
theorem wd_1420 : Cond.methodLink RX12 300 yX12_oneComes ∈ tG := tG_s6 220 rfl rfl
theorem wd_1422 : Cond.instanceMethod yX12_oneComes ∈ tG := tG_s6 222 rfl rfl
theorem wd_1423 : Cond.code yX12_oneComes cX12_oneComes 7 none ∈ tG := tG_s6 223 rfl rfl
theorem wd_1424 : Cond.methodLink RX12 316 yX12_turnKin ∈ tG := tG_s6 224 rfl rfl
theorem wd_1426 : Cond.instanceMethod yX12_turnKin ∈ tG := tG_s6 226 rfl rfl
theorem wd_1427 : Cond.code yX12_turnKin cX12_turnKin 3 none ∈ tG := tG_s6 227 rfl rfl
theorem wd_1428 : Cond.methodLink RX12 319 yX12_plantTold ∈ tG := tG_s6 228 rfl rfl
theorem wd_1430 : Cond.instanceMethod yX12_plantTold ∈ tG := tG_s6 230 rfl rfl
theorem wd_1431 : Cond.code yX12_plantTold cX12_plantTold 3 (some .boolean) ∈ tG := tG_s6 231 rfl rfl
theorem wd_1432 : Cond.constantLong RX12 304 (60) ∈ tG := tG_s6 232 rfl rfl
theorem wd_1433 : Cond.methodLink RX12 306 yX12_plantComes ∈ tG := tG_s6 233 rfl rfl
theorem wd_1435 : Cond.instanceMethod yX12_plantComes ∈ tG := tG_s6 235 rfl rfl
theorem wd_1436 : Cond.code yX12_plantComes cX12_plantComes 6 none ∈ tG := tG_s6 236 rfl rfl
theorem wd_1437 : Cond.methodLink RX12 334 yX12_close ∈ tG := tG_s6 237 rfl rfl
theorem wd_1439 : Cond.instanceMethod yX12_close ∈ tG := tG_s6 239 rfl rfl
theorem wd_1440 : Cond.code yX12_close cX12_close 1 none ∈ tG := tG_s7 0 rfl rfl
theorem wd_1441 : Cond.methodLink RL 30 yX12_person ∈ tG := tG_s7 1 rfl rfl
theorem wd_1442 : Cond.instanceMethod yX12_person ∈ tG := tG_s7 2 rfl rfl
theorem wd_1443 : Cond.selects RX12 yX12_person yX12_person ∈ tG := tG_s7 3 rfl rfl
theorem wd_1444 : Cond.code yX12_person cX12_person 3 (some .int) ∈ tG := tG_s7 4 rfl rfl
theorem wd_1445 : Cond.methodLink RX12 337 yX12_isOne ∈ tG := tG_s7 5 rfl rfl
theorem wd_1447 : Cond.instanceMethod yX12_isOne ∈ tG := tG_s7 7 rfl rfl
theorem wd_1448 : Cond.code yX12_isOne cX12_isOne 2 (some .boolean) ∈ tG := tG_s7 8 rfl rfl
theorem wd_1449 : Cond.methodLink RX12 187 yX12_dueOf ∈ tG := tG_s7 9 rfl rfl
theorem wd_1451 : Cond.instanceMethod yX12_dueOf ∈ tG := tG_s7 11 rfl rfl
theorem wd_1452 : Cond.code yX12_dueOf cX12_dueOf 2 (some .int) ∈ tG := tG_s7 12 rfl rfl
theorem wd_1453 : Cond.methodLink RL 35 yX12_weighs ∈ tG := tG_s7 13 rfl rfl
theorem wd_1454 : Cond.instanceMethod yX12_weighs ∈ tG := tG_s7 14 rfl rfl
theorem wd_1455 : Cond.selects RX12 yX12_weighs yX12_weighs ∈ tG := tG_s7 15 rfl rfl
theorem wd_1456 : Cond.code yX12_weighs cX12_weighs 4 (some .int) ∈ tG := tG_s7 16 rfl rfl
theorem wd_1457 : Cond.constantLong RX12 340 (-9) ∈ tG := tG_s7 17 rfl rfl
theorem wd_1458 : Cond.constantLong RX12 342 (9) ∈ tG := tG_s7 18 rfl rfl
theorem wd_1459 : Cond.constantLong RX12 344 (-99) ∈ tG := tG_s7 19 rfl rfl
theorem wd_1460 : Cond.constantLong RX12 346 (99) ∈ tG := tG_s7 20 rfl rfl
theorem wd_1461 : Cond.methodLink RX12 194 yX12_sumOf ∈ tG := tG_s7 21 rfl rfl
theorem wd_1463 : Cond.instanceMethod yX12_sumOf ∈ tG := tG_s7 23 rfl rfl
theorem wd_1464 : Cond.code yX12_sumOf cX12_sumOf 4 (some .int) ∈ tG := tG_s7 24 rfl rfl
theorem wd_1465 : Cond.constant RX12 348 (-1000000001) ∈ tG := tG_s7 25 rfl rfl
theorem wd_1466 : Cond.methodLink RL 39 yX12_strength ∈ tG := tG_s7 26 rfl rfl
theorem wd_1467 : Cond.instanceMethod yX12_strength ∈ tG := tG_s7 27 rfl rfl
theorem wd_1468 : Cond.selects RX12 yX12_strength yX12_strength ∈ tG := tG_s7 28 rfl rfl
theorem wd_1469 : Cond.code yX12_strength cX12_strength 3 (some .int) ∈ tG := tG_s7 29 rfl rfl
theorem wd_1470 : Cond.constantLong RX12 349 (-999) ∈ tG := tG_s7 30 rfl rfl
theorem wd_1471 : Cond.constantLong RX12 351 (999) ∈ tG := tG_s7 31 rfl rfl
theorem wd_1472 : Cond.methodLink RX12 201 yX12_strengthOf ∈ tG := tG_s7 32 rfl rfl
theorem wd_1474 : Cond.instanceMethod yX12_strengthOf ∈ tG := tG_s7 34 rfl rfl
theorem wd_1475 : Cond.code yX12_strengthOf cX12_strengthOf 4 (some .int) ∈ tG := tG_s7 35 rfl rfl
theorem wd_1476 : Cond.methodLink RX12 174 yX12_plainly ∈ tG := tG_s7 36 rfl rfl
theorem wd_1477 : Cond.static yX12_plainly ∈ tG := tG_s7 37 rfl rfl
theorem wd_1478 : Cond.code yX12_plainly cX12_plainly 1 (some .int) ∈ tG := tG_s7 38 rfl rfl
theorem wd_1479 : Cond.methodLink RL 43 yX12_price ∈ tG := tG_s7 39 rfl rfl
theorem wd_1480 : Cond.instanceMethod yX12_price ∈ tG := tG_s7 40 rfl rfl
theorem wd_1481 : Cond.selects RX12 yX12_price yX12_price ∈ tG := tG_s7 41 rfl rfl
theorem wd_1482 : Cond.code yX12_price cX12_price 3 (some .int) ∈ tG := tG_s7 42 rfl rfl
theorem wd_1483 : Cond.methodLink RX12 207 yX12_priceOf ∈ tG := tG_s7 43 rfl rfl
theorem wd_1485 : Cond.instanceMethod yX12_priceOf ∈ tG := tG_s7 45 rfl rfl
theorem wd_1486 : Cond.code yX12_priceOf cX12_priceOf 4 (some .int) ∈ tG := tG_s7 46 rfl rfl
theorem wd_1487 : Cond.methodLink RX12 178 yX12_atLeast ∈ tG := tG_s7 47 rfl rfl
theorem wd_1488 : Cond.static yX12_atLeast ∈ tG := tG_s7 48 rfl rfl
theorem wd_1489 : Cond.code yX12_atLeast cX12_atLeast 1 (some .int) ∈ tG := tG_s7 49 rfl rfl
theorem wd_1490 : Cond.methodLink RL 48 yX12_comes ∈ tG := tG_s7 50 rfl rfl
theorem wd_1491 : Cond.instanceMethod yX12_comes ∈ tG := tG_s7 51 rfl rfl
theorem wd_1492 : Cond.selects RX12 yX12_comes yX12_comes ∈ tG := tG_s7 52 rfl rfl
theorem wd_1493 : Cond.code yX12_comes cX12_comes 8 (some .int) ∈ tG := tG_s7 53 rfl rfl
theorem wd_1494 : Cond.methodLink RX12 355 yX12_wrongKept ∈ tG := tG_s7 54 rfl rfl
theorem wd_1496 : Cond.instanceMethod yX12_wrongKept ∈ tG := tG_s7 56 rfl rfl
theorem wd_1497 : Cond.code yX12_wrongKept cX12_wrongKept 2 (some .int) ∈ tG := tG_s7 57 rfl rfl
theorem wd_1498 : Cond.methodLink RL 52 yX12_leaves ∈ tG := tG_s7 58 rfl rfl
theorem wd_1499 : Cond.instanceMethod yX12_leaves ∈ tG := tG_s7 59 rfl rfl
theorem wd_1500 : Cond.selects RX12 yX12_leaves yX12_leaves ∈ tG := tG_s7 60 rfl rfl
theorem wd_1501 : Cond.code yX12_leaves cX12_leaves 3 (some .int) ∈ tG := tG_s7 61 rfl rfl
theorem wd_1502 : Cond.methodLink RL 56 yX12_mood ∈ tG := tG_s7 62 rfl rfl
theorem wd_1503 : Cond.instanceMethod yX12_mood ∈ tG := tG_s7 63 rfl rfl
theorem wd_1504 : Cond.selects RX12 yX12_mood yX12_mood ∈ tG := tG_s7 64 rfl rfl
theorem wd_1505 : Cond.code yX12_mood cX12_mood 4 (some .int) ∈ tG := tG_s7 65 rfl rfl
theorem wd_1506 : Cond.methodLink RL 60 yX12_coins ∈ tG := tG_s7 66 rfl rfl
theorem wd_1507 : Cond.instanceMethod yX12_coins ∈ tG := tG_s7 67 rfl rfl
theorem wd_1508 : Cond.selects RX12 yX12_coins yX12_coins ∈ tG := tG_s7 68 rfl rfl
theorem wd_1509 : Cond.code yX12_coins cX12_coins 4 (some .int) ∈ tG := tG_s7 69 rfl rfl
theorem wd_1510 : Cond.methodLink RL 64 yX12_fact ∈ tG := tG_s7 70 rfl rfl
theorem wd_1511 : Cond.instanceMethod yX12_fact ∈ tG := tG_s7 71 rfl rfl
theorem wd_1512 : Cond.selects RX12 yX12_fact yX12_fact ∈ tG := tG_s7 72 rfl rfl
theorem wd_1513 : Cond.code yX12_fact cX12_fact 4 (some .int) ∈ tG := tG_s7 73 rfl rfl
theorem wd_1514 : Cond.methodLink RL 68 yX12_about ∈ tG := tG_s7 74 rfl rfl
theorem wd_1515 : Cond.instanceMethod yX12_about ∈ tG := tG_s7 75 rfl rfl
theorem wd_1516 : Cond.selects RX12 yX12_about yX12_about ∈ tG := tG_s7 76 rfl rfl
theorem wd_1517 : Cond.code yX12_about cX12_about 3 (some .int) ∈ tG := tG_s7 77 rfl rfl
theorem wd_1518 : Cond.methodLink RL 72 yX12_chance ∈ tG := tG_s7 78 rfl rfl
theorem wd_1519 : Cond.instanceMethod yX12_chance ∈ tG := tG_s7 79 rfl rfl
theorem wd_1520 : Cond.selects RX12 yX12_chance yX12_chance ∈ tG := tG_s7 80 rfl rfl
theorem wd_1521 : Cond.code yX12_chance cX12_chance 4 (some .int) ∈ tG := tG_s7 81 rfl rfl
theorem wd_1522 : Cond.constantLong RX12 358 (10) ∈ tG := tG_s7 82 rfl rfl
theorem wd_1523 : Cond.methodLink RL 76 yX12_kin ∈ tG := tG_s7 83 rfl rfl
theorem wd_1524 : Cond.instanceMethod yX12_kin ∈ tG := tG_s7 84 rfl rfl
theorem wd_1525 : Cond.selects RX12 yX12_kin yX12_kin ∈ tG := tG_s7 85 rfl rfl
theorem wd_1526 : Cond.code yX12_kin cX12_kin 3 (some .int) ∈ tG := tG_s7 86 rfl rfl
theorem wd_1527 : Cond.methodLink RL 80 yX12_set ∈ tG := tG_s7 87 rfl rfl
theorem wd_1528 : Cond.instanceMethod yX12_set ∈ tG := tG_s7 88 rfl rfl
theorem wd_1529 : Cond.selects RX12 yX12_set yX12_set ∈ tG := tG_s7 89 rfl rfl
theorem wd_1530 : Cond.code yX12_set cX12_set 5 (some .int) ∈ tG := tG_s7 90 rfl rfl
theorem wd_1531 : Cond.methodLink RL 84 yX12_fate ∈ tG := tG_s7 91 rfl rfl
theorem wd_1532 : Cond.instanceMethod yX12_fate ∈ tG := tG_s7 92 rfl rfl
theorem wd_1533 : Cond.selects RX12 yX12_fate yX12_fate ∈ tG := tG_s7 93 rfl rfl
theorem wd_1534 : Cond.code yX12_fate cX12_fate 3 (some .int) ∈ tG := tG_s7 94 rfl rfl
theorem wd_1535 : Cond.constantLong RX12 360 (8) ∈ tG := tG_s7 95 rfl rfl
theorem wd_1536 : Cond.methodLink RX12 362 yX12_day ∈ tG := tG_s7 96 rfl rfl
theorem wd_1538 : Cond.instanceMethod yX12_day ∈ tG := tG_s7 98 rfl rfl
theorem wd_1539 : Cond.code yX12_day cX12_day 3 none ∈ tG := tG_s7 99 rfl rfl
theorem wd_1540 : Cond.methodLink RX12 235 yX12_comeForSale ∈ tG := tG_s7 100 rfl rfl
theorem wd_1542 : Cond.instanceMethod yX12_comeForSale ∈ tG := tG_s7 102 rfl rfl
theorem wd_1543 : Cond.code yX12_comeForSale cX12_comeForSale 6 none ∈ tG := tG_s7 103 rfl rfl
theorem wd_1544 : Cond.methodLink RX12 190 yX12_factsBy ∈ tG := tG_s7 104 rfl rfl
theorem wd_1546 : Cond.instanceMethod yX12_factsBy ∈ tG := tG_s7 106 rfl rfl
theorem wd_1547 : Cond.code yX12_factsBy cX12_factsBy 6 (some .int) ∈ tG := tG_s7 107 rfl rfl
theorem wd_1548 : Cond.methodLink RX12 198 yX12_sideOf ∈ tG := tG_s7 108 rfl rfl
theorem wd_1549 : Cond.static yX12_sideOf ∈ tG := tG_s7 109 rfl rfl
theorem wd_1550 : Cond.code yX12_sideOf cX12_sideOf 1 (some .int) ∈ tG := tG_s7 110 rfl rfl
theorem wd_1551 : Cond.methodLink RX12 239 yX12_choose ∈ tG := tG_s7 111 rfl rfl
theorem wd_1553 : Cond.instanceMethod yX12_choose ∈ tG := tG_s7 113 rfl rfl
theorem wd_1554 : Cond.code yX12_choose cX12_choose 8 none ∈ tG := tG_s7 114 rfl rfl
theorem wd_1555 : Cond.methodLink RX12 228 yX12_mayBuy ∈ tG := tG_s7 115 rfl rfl
theorem wd_1557 : Cond.instanceMethod yX12_mayBuy ∈ tG := tG_s7 117 rfl rfl
theorem wd_1558 : Cond.code yX12_mayBuy cX12_mayBuy 6 (some .boolean) ∈ tG := tG_s7 118 rfl rfl
theorem wd_1559 : Cond.methodLink RX12 214 yX12_isThere ∈ tG := tG_s7 119 rfl rfl
theorem wd_1561 : Cond.instanceMethod yX12_isThere ∈ tG := tG_s7 121 rfl rfl
theorem wd_1562 : Cond.code yX12_isThere cX12_isThere 3 (some .boolean) ∈ tG := tG_s7 122 rfl rfl
theorem wd_1563 : Cond.methodLink RX12 218 yX12_caseOf ∈ tG := tG_s7 123 rfl rfl
theorem wd_1565 : Cond.instanceMethod yX12_caseOf ∈ tG := tG_s7 125 rfl rfl
theorem wd_1566 : Cond.code yX12_caseOf cX12_caseOf 2 (some .int) ∈ tG := tG_s7 126 rfl rfl
theorem wd_1567 : Cond.methodLink RX12 204 yX12_leftOf ∈ tG := tG_s7 127 rfl rfl
theorem wd_1569 : Cond.instanceMethod yX12_leftOf ∈ tG := tG_s7 129 rfl rfl
theorem wd_1570 : Cond.code yX12_leftOf cX12_leftOf 4 (some .int) ∈ tG := tG_s7 130 rfl rfl
theorem wd_1571 : Cond.methodLink RX12 184 yX12_fadeOf ∈ tG := tG_s7 131 rfl rfl
theorem wd_1573 : Cond.instanceMethod yX12_fadeOf ∈ tG := tG_s7 133 rfl rfl
theorem wd_1574 : Cond.code yX12_fadeOf cX12_fadeOf 2 (some .int) ∈ tG := tG_s7 134 rfl rfl
theorem wd_1575 : Cond.methodLink RX12 221 yX12_buys ∈ tG := tG_s7 135 rfl rfl
theorem wd_1577 : Cond.instanceMethod yX12_buys ∈ tG := tG_s7 137 rfl rfl
theorem wd_1578 : Cond.code yX12_buys cX12_buys 4 (some .boolean) ∈ tG := tG_s7 138 rfl rfl
theorem wd_1579 : Cond.methodLink RX12 225 yX12_askedFor ∈ tG := tG_s7 139 rfl rfl
theorem wd_1581 : Cond.instanceMethod yX12_askedFor ∈ tG := tG_s7 141 rfl rfl
theorem wd_1582 : Cond.code yX12_askedFor cX12_askedFor 3 (some .int) ∈ tG := tG_s7 142 rfl rfl
theorem wd_1583 : Cond.methodLink RX12 365 yX12_told ∈ tG := tG_s7 143 rfl rfl
theorem wd_1584 : Cond.static yX12_told ∈ tG := tG_s7 144 rfl rfl
theorem wd_1585 : Cond.code yX12_told cX12_told 1 (some .int) ∈ tG := tG_s7 145 rfl rfl
theorem wd_1586 : Cond.methodLink RL 88 yX12_sum ∈ tG := tG_s7 146 rfl rfl
theorem wd_1587 : Cond.instanceMethod yX12_sum ∈ tG := tG_s7 147 rfl rfl
theorem wd_1588 : Cond.selects RX12 yX12_sum yX12_sum ∈ tG := tG_s7 148 rfl rfl
theorem wd_1589 : Cond.code yX12_sum cX12_sum 2 (some .int) ∈ tG := tG_s7 149 rfl rfl
theorem wd_1590 : Cond.methodLink RL 92 yX12_sums ∈ tG := tG_s7 150 rfl rfl
theorem wd_1591 : Cond.instanceMethod yX12_sums ∈ tG := tG_s7 151 rfl rfl
theorem wd_1592 : Cond.selects RX12 yX12_sums yX12_sums ∈ tG := tG_s7 152 rfl rfl
theorem wd_1593 : Cond.code yX12_sums cX12_sums 2 (some .int) ∈ tG := tG_s7 153 rfl rfl
theorem wd_1594 : Cond.methodLink RX12 368 yX12_chose ∈ tG := tG_s7 154 rfl rfl
theorem wd_1596 : Cond.instanceMethod yX12_chose ∈ tG := tG_s7 156 rfl rfl
theorem wd_1597 : Cond.code yX12_chose cX12_chose 4 (some .int) ∈ tG := tG_s7 157 rfl rfl
theorem wd_1598 : Cond.methodLink RX12 371 yX12_soldMany ∈ tG := tG_s7 158 rfl rfl
theorem wd_1600 : Cond.instanceMethod yX12_soldMany ∈ tG := tG_s7 160 rfl rfl
theorem wd_1601 : Cond.code yX12_soldMany cX12_soldMany 3 (some .int) ∈ tG := tG_s7 161 rfl rfl
theorem wd_1602 : Cond.methodLink RX12 374 yX12_paidInAll ∈ tG := tG_s7 162 rfl rfl
theorem wd_1604 : Cond.instanceMethod yX12_paidInAll ∈ tG := tG_s7 164 rfl rfl
theorem wd_1605 : Cond.code yX12_paidInAll cX12_paidInAll 3 (some .int) ∈ tG := tG_s7 165 rfl rfl
theorem wd_1606 : Cond.methodLink RX12 377 yX12_regretMany ∈ tG := tG_s7 166 rfl rfl
theorem wd_1608 : Cond.instanceMethod yX12_regretMany ∈ tG := tG_s7 168 rfl rfl
theorem wd_1609 : Cond.code yX12_regretMany cX12_regretMany 3 (some .int) ∈ tG := tG_s7 169 rfl rfl
theorem wd_1610 : Cond.methodLink RL 96 yX12_market ∈ tG := tG_s7 170 rfl rfl
theorem wd_1611 : Cond.instanceMethod yX12_market ∈ tG := tG_s7 171 rfl rfl
theorem wd_1612 : Cond.selects RX12 yX12_market yX12_market ∈ tG := tG_s7 172 rfl rfl
theorem wd_1613 : Cond.code yX12_market cX12_market 5 (some .int) ∈ tG := tG_s7 173 rfl rfl
theorem wd_1614 : Cond.methodLink RL 100 yX12_chain ∈ tG := tG_s7 174 rfl rfl
theorem wd_1615 : Cond.instanceMethod yX12_chain ∈ tG := tG_s7 175 rfl rfl
theorem wd_1616 : Cond.selects RX12 yX12_chain yX12_chain ∈ tG := tG_s7 176 rfl rfl
theorem wd_1617 : Cond.code yX12_chain cX12_chain 2 (some .int) ∈ tG := tG_s7 177 rfl rfl
theorem wd_1618 : Cond.methodLink RX12 380 yX12_chainOf ∈ tG := tG_s7 178 rfl rfl
theorem wd_1620 : Cond.instanceMethod yX12_chainOf ∈ tG := tG_s7 180 rfl rfl
theorem wd_1621 : Cond.code yX12_chainOf cX12_chainOf 4 (some .int) ∈ tG := tG_s7 181 rfl rfl
theorem wd_1622 : Cond.methodLink RL 105 yX12_longest ∈ tG := tG_s7 182 rfl rfl
theorem wd_1623 : Cond.instanceMethod yX12_longest ∈ tG := tG_s7 183 rfl rfl
theorem wd_1624 : Cond.selects RX12 yX12_longest yX12_longest ∈ tG := tG_s7 184 rfl rfl
theorem wd_1625 : Cond.code yX12_longest cX12_longest 3 (some .int) ∈ tG := tG_s7 185 rfl rfl
theorem wd_1626 : Cond.methodLink RL 109 yX12_turners ∈ tG := tG_s7 186 rfl rfl
theorem wd_1627 : Cond.instanceMethod yX12_turners ∈ tG := tG_s7 187 rfl rfl
theorem wd_1628 : Cond.selects RX12 yX12_turners yX12_turners ∈ tG := tG_s7 188 rfl rfl
theorem wd_1629 : Cond.code yX12_turners cX12_turners 5 (some .int) ∈ tG := tG_s7 189 rfl rfl
theorem wd_1630 : Cond.methodLink RX12 383 yX12_choiceOf ∈ tG := tG_s7 190 rfl rfl
theorem wd_1632 : Cond.instanceMethod yX12_choiceOf ∈ tG := tG_s7 192 rfl rfl
theorem wd_1633 : Cond.code yX12_choiceOf cX12_choiceOf 2 (some .int) ∈ tG := tG_s7 193 rfl rfl
theorem wd_1634 : Cond.methodLink RL 113 yX12_yes ∈ tG := tG_s7 194 rfl rfl
theorem wd_1635 : Cond.instanceMethod yX12_yes ∈ tG := tG_s7 195 rfl rfl
theorem wd_1636 : Cond.selects RX12 yX12_yes yX12_yes ∈ tG := tG_s7 196 rfl rfl
theorem wd_1637 : Cond.code yX12_yes cX12_yes 5 (some .int) ∈ tG := tG_s7 197 rfl rfl
theorem wd_1638 : Cond.methodLink RL 117 yX12_moods ∈ tG := tG_s7 198 rfl rfl
theorem wd_1639 : Cond.instanceMethod yX12_moods ∈ tG := tG_s7 199 rfl rfl
theorem wd_1640 : Cond.selects RX12 yX12_moods yX12_moods ∈ tG := tG_s7 200 rfl rfl
theorem wd_1641 : Cond.code yX12_moods cX12_moods 8 (some .int) ∈ tG := tG_s7 201 rfl rfl
theorem wd_1642 : Cond.methodLink RL 121 yX12_likely ∈ tG := tG_s7 202 rfl rfl
theorem wd_1643 : Cond.instanceMethod yX12_likely ∈ tG := tG_s7 203 rfl rfl
theorem wd_1644 : Cond.selects RX12 yX12_likely yX12_likely ∈ tG := tG_s7 204 rfl rfl
theorem wd_1645 : Cond.code yX12_likely cX12_likely 3 (some .long) ∈ tG := tG_s7 205 rfl rfl
theorem wd_1646 : Cond.methodLink RX12 394 yX12_likelyPart ∈ tG := tG_s7 206 rfl rfl
theorem wd_1648 : Cond.instanceMethod yX12_likelyPart ∈ tG := tG_s7 208 rfl rfl
theorem wd_1649 : Cond.code yX12_likelyPart cX12_likelyPart 11 (some .long) ∈ tG := tG_s7 209 rfl rfl
theorem wd_1650 : Cond.methodLink RX12 390 yX12_partOf ∈ tG := tG_s7 210 rfl rfl
theorem wd_1651 : Cond.static yX12_partOf ∈ tG := tG_s7 211 rfl rfl
theorem wd_1652 : Cond.code yX12_partOf cX12_partOf 7 (some .long) ∈ tG := tG_s7 212 rfl rfl
theorem wd_1653 : Cond.methodLink RX12 386 yX12_divisor ∈ tG := tG_s7 213 rfl rfl
theorem wd_1654 : Cond.static yX12_divisor ∈ tG := tG_s7 214 rfl rfl
theorem wd_1655 : Cond.code yX12_divisor cX12_divisor 10 (some .long) ∈ tG := tG_s7 215 rfl rfl
theorem wd_1656 : Cond.constantLong RX12 398 (-1000000001) ∈ tG := tG_s7 216 rfl rfl
theorem wd_1657 : Cond.methodLink RL 126 yX12_mean ∈ tG := tG_s7 217 rfl rfl
theorem wd_1658 : Cond.instanceMethod yX12_mean ∈ tG := tG_s7 218 rfl rfl
theorem wd_1659 : Cond.selects RX12 yX12_mean yX12_mean ∈ tG := tG_s7 219 rfl rfl
theorem wd_1660 : Cond.code yX12_mean cX12_mean 2 (some .long) ∈ tG := tG_s7 220 rfl rfl
theorem wd_1661 : Cond.methodLink RL 130 yX12_turn ∈ tG := tG_s7 221 rfl rfl
theorem wd_1662 : Cond.instanceMethod yX12_turn ∈ tG := tG_s7 222 rfl rfl
theorem wd_1663 : Cond.selects RX12 yX12_turn yX12_turn ∈ tG := tG_s7 223 rfl rfl
theorem wd_1664 : Cond.code yX12_turn cX12_turn 7 (some .int) ∈ tG := tG_s7 224 rfl rfl
theorem wd_1665 : Cond.methodLink RX12 400 yX12_allYes ∈ tG := tG_s7 225 rfl rfl
theorem wd_1667 : Cond.instanceMethod yX12_allYes ∈ tG := tG_s7 227 rfl rfl
theorem wd_1668 : Cond.code yX12_allYes cX12_allYes 4 (some .boolean) ∈ tG := tG_s7 228 rfl rfl
theorem wd_1669 : Cond.methodLink RL 134 yX12_guard ∈ tG := tG_s7 229 rfl rfl
theorem wd_1670 : Cond.instanceMethod yX12_guard ∈ tG := tG_s7 230 rfl rfl
theorem wd_1671 : Cond.selects RX12 yX12_guard yX12_guard ∈ tG := tG_s7 231 rfl rfl
theorem wd_1672 : Cond.code yX12_guard cX12_guard 6 (some .int) ∈ tG := tG_s7 232 rfl rfl
theorem wd_1673 : Cond.methodLink RX12 403 yX12_takeChoices ∈ tG := tG_s7 233 rfl rfl
theorem wd_1675 : Cond.instanceMethod yX12_takeChoices ∈ tG := tG_s7 235 rfl rfl
theorem wd_1676 : Cond.code yX12_takeChoices cX12_takeChoices 2 none ∈ tG := tG_s7 236 rfl rfl
theorem wd_1677 : Cond.methodLink RX12 406 yX12_otherMany ∈ tG := tG_s7 237 rfl rfl
theorem wd_1679 : Cond.instanceMethod yX12_otherMany ∈ tG := tG_s7 239 rfl rfl
theorem wd_1680 : Cond.code yX12_otherMany cX12_otherMany 4 (some .int) ∈ tG := tG_s8 0 rfl rfl
theorem wd_1681 : Cond.methodLink RL 138 yX12_law ∈ tG := tG_s8 1 rfl rfl
theorem wd_1682 : Cond.instanceMethod yX12_law ∈ tG := tG_s8 2 rfl rfl
theorem wd_1683 : Cond.selects RX12 yX12_law yX12_law ∈ tG := tG_s8 3 rfl rfl
theorem wd_1684 : Cond.code yX12_law cX12_law 4 (some .int) ∈ tG := tG_s8 4 rfl rfl
theorem wd_1685 : Cond.methodLink RL 142 yX12_bestRate ∈ tG := tG_s8 5 rfl rfl
theorem wd_1686 : Cond.instanceMethod yX12_bestRate ∈ tG := tG_s8 6 rfl rfl
theorem wd_1687 : Cond.selects RX12 yX12_bestRate yX12_bestRate ∈ tG := tG_s8 7 rfl rfl
theorem wd_1688 : Cond.code yX12_bestRate cX12_bestRate 6 (some .int) ∈ tG := tG_s8 8 rfl rfl
theorem wd_1689 : Cond.methodLink RL 146 yX12_bestOpen ∈ tG := tG_s8 9 rfl rfl
theorem wd_1690 : Cond.instanceMethod yX12_bestOpen ∈ tG := tG_s8 10 rfl rfl
theorem wd_1691 : Cond.selects RX12 yX12_bestOpen yX12_bestOpen ∈ tG := tG_s8 11 rfl rfl
theorem wd_1692 : Cond.code yX12_bestOpen cX12_bestOpen 6 (some .int) ∈ tG := tG_s8 12 rfl rfl
theorem wd_1693 : Cond.methodLink RL 150 yX12_purse ∈ tG := tG_s8 13 rfl rfl
theorem wd_1694 : Cond.instanceMethod yX12_purse ∈ tG := tG_s8 14 rfl rfl
theorem wd_1695 : Cond.selects RX12 yX12_purse yX12_purse ∈ tG := tG_s8 15 rfl rfl
theorem wd_1696 : Cond.code yX12_purse cX12_purse 6 (some .int) ∈ tG := tG_s8 16 rfl rfl
theorem wd_1697 : Cond.methodLink RL 154 yX12_two ∈ tG := tG_s8 17 rfl rfl
theorem wd_1698 : Cond.instanceMethod yX12_two ∈ tG := tG_s8 18 rfl rfl
theorem wd_1699 : Cond.selects RX12 yX12_two yX12_two ∈ tG := tG_s8 19 rfl rfl
theorem wd_1700 : Cond.code yX12_two cX12_two 8 (some .int) ∈ tG := tG_s8 20 rfl rfl
theorem wd_1701 : Cond.methodLink RX12 409 yX12_later ∈ tG := tG_s8 21 rfl rfl
theorem wd_1702 : Cond.static yX12_later ∈ tG := tG_s8 22 rfl rfl
theorem wd_1703 : Cond.code yX12_later cX12_later 2 (some .int) ∈ tG := tG_s8 23 rfl rfl
theorem wd_1704 : Cond.methodLink RL 158 yX12_without ∈ tG := tG_s8 24 rfl rfl
theorem wd_1705 : Cond.instanceMethod yX12_without ∈ tG := tG_s8 25 rfl rfl
theorem wd_1706 : Cond.selects RX12 yX12_without yX12_without ∈ tG := tG_s8 26 rfl rfl
theorem wd_1707 : Cond.code yX12_without cX12_without 2 (some .int) ∈ tG := tG_s8 27 rfl rfl
theorem wd_1708 : Cond.methodLink RL 162 yX12_again ∈ tG := tG_s8 28 rfl rfl
theorem wd_1709 : Cond.instanceMethod yX12_again ∈ tG := tG_s8 29 rfl rfl
theorem wd_1710 : Cond.selects RX12 yX12_again yX12_again ∈ tG := tG_s8 30 rfl rfl
theorem wd_1711 : Cond.code yX12_again cX12_again 7 (some .int) ∈ tG := tG_s8 31 rfl rfl
theorem wd_1712 : Cond.methodLink RX12 412 yX12_keepMoods ∈ tG := tG_s8 32 rfl rfl
theorem wd_1714 : Cond.instanceMethod yX12_keepMoods ∈ tG := tG_s8 34 rfl rfl
theorem wd_1715 : Cond.code yX12_keepMoods cX12_keepMoods 3 none ∈ tG := tG_s8 35 rfl rfl
theorem wd_1716 : Cond.methodLink RX12 416 yX12_likeAhead ∈ tG := tG_s8 36 rfl rfl
theorem wd_1718 : Cond.instanceMethod yX12_likeAhead ∈ tG := tG_s8 38 rfl rfl
theorem wd_1719 : Cond.code yX12_likeAhead cX12_likeAhead 5 (some .int) ∈ tG := tG_s8 39 rfl rfl
theorem wd_1720 : Cond.methodLink RL 166 yX12_explained ∈ tG := tG_s8 40 rfl rfl
theorem wd_1721 : Cond.instanceMethod yX12_explained ∈ tG := tG_s8 41 rfl rfl
theorem wd_1722 : Cond.selects RX12 yX12_explained yX12_explained ∈ tG := tG_s8 42 rfl rfl
theorem wd_1723 : Cond.code yX12_explained cX12_explained 4 (some .int) ∈ tG := tG_s8 43 rfl rfl
theorem wd_1724 : Cond.methodLink RX12 441 yX12_wrongChoices ∈ tG := tG_s8 44 rfl rfl
theorem wd_1726 : Cond.instanceMethod yX12_wrongChoices ∈ tG := tG_s8 46 rfl rfl
theorem wd_1727 : Cond.code yX12_wrongChoices cX12_wrongChoices 3 (some .int) ∈ tG := tG_s8 47 rfl rfl
theorem wd_1728 : Cond.methodLink RX12 444 yX12_explain ∈ tG := tG_s8 48 rfl rfl
theorem wd_1730 : Cond.instanceMethod yX12_explain ∈ tG := tG_s8 50 rfl rfl
theorem wd_1731 : Cond.code yX12_explain cX12_explain 6 none ∈ tG := tG_s8 51 rfl rfl
theorem wd_1732 : Cond.methodLink RX12 438 yX12_fitsUpTo ∈ tG := tG_s8 52 rfl rfl
theorem wd_1734 : Cond.instanceMethod yX12_fitsUpTo ∈ tG := tG_s8 54 rfl rfl
theorem wd_1735 : Cond.code yX12_fitsUpTo cX12_fitsUpTo 3 (some .int) ∈ tG := tG_s8 55 rfl rfl
theorem wd_1736 : Cond.methodLink RX12 425 yX12_skipped ∈ tG := tG_s8 56 rfl rfl
theorem wd_1738 : Cond.instanceMethod yX12_skipped ∈ tG := tG_s8 58 rfl rfl
theorem wd_1739 : Cond.code yX12_skipped cX12_skipped 2 (some .long) ∈ tG := tG_s8 59 rfl rfl
theorem wd_1740 : Cond.constantLong RX12 419 (-128) ∈ tG := tG_s8 60 rfl rfl
theorem wd_1741 : Cond.constantLong RX12 421 (-32768) ∈ tG := tG_s8 61 rfl rfl
theorem wd_1742 : Cond.constantLong RX12 423 (-2147483648) ∈ tG := tG_s8 62 rfl rfl
theorem wd_1743 : Cond.methodLink RL 170 yX12_forged ∈ tG := tG_s8 63 rfl rfl
theorem wd_1744 : Cond.instanceMethod yX12_forged ∈ tG := tG_s8 64 rfl rfl
theorem wd_1745 : Cond.selects RX12 yX12_forged yX12_forged ∈ tG := tG_s8 65 rfl rfl
theorem wd_1746 : Cond.code yX12_forged cX12_forged 3 (some .int) ∈ tG := tG_s8 66 rfl rfl
theorem wd_1747 : Cond.methodLink RL 174 yX12_judge ∈ tG := tG_s8 67 rfl rfl
theorem wd_1748 : Cond.instanceMethod yX12_judge ∈ tG := tG_s8 68 rfl rfl
theorem wd_1749 : Cond.selects RX12 yX12_judge yX12_judge ∈ tG := tG_s8 69 rfl rfl
theorem wd_1750 : Cond.code yX12_judge cX12_judge 7 (some .int) ∈ tG := tG_s8 70 rfl rfl
theorem wd_1751 : Cond.methodLink RL 178 yX12_seeds ∈ tG := tG_s8 71 rfl rfl
theorem wd_1752 : Cond.instanceMethod yX12_seeds ∈ tG := tG_s8 72 rfl rfl
theorem wd_1753 : Cond.selects RX12 yX12_seeds yX12_seeds ∈ tG := tG_s8 73 rfl rfl
theorem wd_1754 : Cond.code yX12_seeds cX12_seeds 9 (some .int) ∈ tG := tG_s8 74 rfl rfl
theorem wd_1755 : Cond.constantLong RX12 447 (20) ∈ tG := tG_s8 75 rfl rfl
theorem wd_1756 : Cond.constant RX12 449 (1103515245) ∈ tG := tG_s8 76 rfl rfl
theorem wd_1757 : Cond.constant RX12 450 (2147483647) ∈ tG := tG_s8 77 rfl rfl
theorem wd_1758 : Cond.constant RX12 451 (65536) ∈ tG := tG_s8 78 rfl rfl
theorem wd_1759 : Cond.methodLink RL 190 yX12_count ∈ tG := tG_s8 79 rfl rfl
theorem wd_1760 : Cond.instanceMethod yX12_count ∈ tG := tG_s8 80 rfl rfl
theorem wd_1761 : Cond.selects RX12 yX12_count yX12_count ∈ tG := tG_s8 81 rfl rfl
theorem wd_1762 : Cond.code yX12_count cX12_count 4 (some .int) ∈ tG := tG_s8 82 rfl rfl
theorem wd_1763 : Cond.methodLink RL 195 yX12_keep ∈ tG := tG_s8 83 rfl rfl
theorem wd_1764 : Cond.instanceMethod yX12_keep ∈ tG := tG_s8 84 rfl rfl
theorem wd_1765 : Cond.selects RX12 yX12_keep yX12_keep ∈ tG := tG_s8 85 rfl rfl
theorem wd_1766 : Cond.code yX12_keep cX12_keep 5 (some .int) ∈ tG := tG_s8 86 rfl rfl
theorem wd_1767 : Cond.methodLink RL 199 yX12_row ∈ tG := tG_s8 87 rfl rfl
theorem wd_1768 : Cond.instanceMethod yX12_row ∈ tG := tG_s8 88 rfl rfl
theorem wd_1769 : Cond.selects RX12 yX12_row yX12_row ∈ tG := tG_s8 89 rfl rfl
theorem wd_1770 : Cond.code yX12_row cX12_row 5 (some .int) ∈ tG := tG_s8 90 rfl rfl
theorem wd_1771 : Cond.constantLong RX12 452 (2) ∈ tG := tG_s8 91 rfl rfl
theorem wd_1772 : Cond.methodLink RL 203 yX12_put ∈ tG := tG_s8 92 rfl rfl
theorem wd_1773 : Cond.instanceMethod yX12_put ∈ tG := tG_s8 93 rfl rfl
theorem wd_1774 : Cond.selects RX12 yX12_put yX12_put ∈ tG := tG_s8 94 rfl rfl
theorem wd_1775 : Cond.code yX12_put cX12_put 5 (some .int) ∈ tG := tG_s8 95 rfl rfl
theorem wd_1776 : Cond.methodLink RX12 454 yX12_narrowed ∈ tG := tG_s8 96 rfl rfl
theorem wd_1777 : Cond.static yX12_narrowed ∈ tG := tG_s8 97 rfl rfl
theorem wd_1778 : Cond.code yX12_narrowed cX12_narrowed 2 (some .long) ∈ tG := tG_s8 98 rfl rfl
theorem wd_1779 : Cond.methodLink RL 209 yX12_element ∈ tG := tG_s8 99 rfl rfl
theorem wd_1780 : Cond.instanceMethod yX12_element ∈ tG := tG_s8 100 rfl rfl
theorem wd_1781 : Cond.selects RX12 yX12_element yX12_element ∈ tG := tG_s8 101 rfl rfl
theorem wd_1782 : Cond.code yX12_element cX12_element 4 (some .long) ∈ tG := tG_s8 102 rfl rfl
theorem wd_1783 : Cond.methodLink RL 216 yX12_copy ∈ tG := tG_s8 103 rfl rfl
theorem wd_1784 : Cond.instanceMethod yX12_copy ∈ tG := tG_s8 104 rfl rfl
theorem wd_1785 : Cond.selects RX12 yX12_copy yX12_copy ∈ tG := tG_s8 105 rfl rfl
theorem wd_1786 : Cond.code yX12_copy cX12_copy 7 (some .int) ∈ tG := tG_s8 106 rfl rfl
theorem wd_1787 : Cond.methodLink RL 220 yX12_cost ∈ tG := tG_s8 107 rfl rfl
theorem wd_1788 : Cond.instanceMethod yX12_cost ∈ tG := tG_s8 108 rfl rfl
theorem wd_1789 : Cond.selects RX12 yX12_cost yX12_cost ∈ tG := tG_s8 109 rfl rfl
theorem wd_1790 : Cond.code yX12_cost cX12_cost 2 (some .int) ∈ tG := tG_s8 110 rfl rfl
theorem wd_1791 : Cond.methodLink RX12 457 yX12_costOf ∈ tG := tG_s8 111 rfl rfl
theorem wd_1792 : Cond.static yX12_costOf ∈ tG := tG_s8 112 rfl rfl
theorem wd_1793 : Cond.code yX12_costOf cX12_costOf 2 (some .int) ∈ tG := tG_s8 113 rfl rfl
theorem wd_1794 : Cond.methodLink RL 224 yX12_toss ∈ tG := tG_s8 114 rfl rfl
theorem wd_1795 : Cond.instanceMethod yX12_toss ∈ tG := tG_s8 115 rfl rfl
theorem wd_1796 : Cond.selects RX12 yX12_toss yX12_toss ∈ tG := tG_s8 116 rfl rfl
theorem wd_1797 : Cond.code yX12_toss cX12_toss 4 (some .int) ∈ tG := tG_s8 117 rfl rfl
theorem wd_1798 : Cond.sameMethod "ThoughtBetterOf$General" "ThoughtBetterOf$General" "sumOf" "(II)I" ∈ tG := tG_s8 118 rfl rfl
theorem wd_1799 : Cond.sameMethod "ThoughtBetterOf$Firm" "ThoughtBetterOf$Firm" "strengthOf" "(I)I" ∈ tG := tG_s8 119 rfl rfl
theorem wd_1800 : Cond.sameMethod "ThoughtBetterOf$Child" "ThoughtBetterOf$Child" "priceOf" "(II)I" ∈ tG := tG_s8 120 rfl rfl
theorem wd_1801 : Cond.sameMethod "ThoughtBetterOf$Child" "ThoughtBetterOf$Child" "costOf" "()I" ∈ tG := tG_s8 121 rfl rfl
theorem wd_1802 : Cond.sameMethod "ThoughtBetterOf$General" "ThoughtBetterOf$General" "costOf" "()I" ∈ tG := tG_s8 122 rfl rfl
theorem wd_1803 : Cond.sameMethod "ThoughtBetterOf$Firm" "ThoughtBetterOf$Firm" "costOf" "()I" ∈ tG := tG_s8 123 rfl rfl
theorem wd_1804 : Cond.sameMethod "java/lang/Throwable" "java/lang/Throwable" "fillInStackTrace" "(I)Ljava/lang/Throwable;" ∈ tG := tG_s8 124 rfl rfl
theorem wp_0 : Cond.selects RX11 yX11_shelfRefusal yX11_shelfRefusal ∈ tG := tG_pv 0 rfl rfl
theorem wp_1 : Cond.selects RX10 yX10_hearStatement yX10_hearStatement ∈ tG := tG_pv 1 rfl rfl
theorem wp_2 : Cond.selects RX11 yX11_isNobody yX11_isNobody ∈ tG := tG_pv 2 rfl rfl
theorem wp_3 : Cond.selects RX11 yX11_isNoFact yX11_isNoFact ∈ tG := tG_pv 3 rfl rfl
theorem wp_4 : Cond.selects RX2 yX2_offer yX2_offer ∈ tG := tG_pv 4 rfl rfl
theorem wp_5 : Cond.selects RX2 yX2_thinkFirst yX2_thinkFirst ∈ tG := tG_pv 5 rfl rfl
theorem wp_6 : Cond.selects RX2 yX2_buyBest yX2_buyBest ∈ tG := tG_pv 6 rfl rfl
theorem wp_7 : Cond.selects RX2 yX2_isForSale yX2_isForSale ∈ tG := tG_pv 7 rfl rfl
theorem wp_8 : Cond.selects RX2 yX2_leftOf yX2_leftOf ∈ tG := tG_pv 8 rfl rfl
theorem wp_9 : Cond.selects RX2 yX2_caseOf yX2_caseOf ∈ tG := tG_pv 9 rfl rfl
theorem wp_10 : Cond.selects RX2 yX2_choose yX2_choose ∈ tG := tG_pv 10 rfl rfl
theorem wp_11 : Cond.selects RX2 yX2_thinkAgain yX2_thinkAgain ∈ tG := tG_pv 11 rfl rfl
theorem wp_12 : Cond.selects RX2 yX2_howManyChoose yX2_howManyChoose ∈ tG := tG_pv 12 rfl rfl
theorem wp_13 : Cond.selects RX11 yX11_expectedYes yX11_expectedYes ∈ tG := tG_pv 13 rfl rfl
theorem wp_14 : Cond.selects RX11 yX11_oddsOf yX11_oddsOf ∈ tG := tG_pv 14 rfl rfl
theorem wp_15 : Cond.selects RX11 yX11_everybody yX11_everybody ∈ tG := tG_pv 15 rfl rfl
theorem wp_16 : Cond.selects RX11 yX11_dayBegunAlike yX11_dayBegunAlike ∈ tG := tG_pv 16 rfl rfl
theorem wp_17 : Cond.selects RX11 yX11_toldChoicesRefusal yX11_toldChoicesRefusal ∈ tG := tG_pv 17 rfl rfl
theorem wp_18 : Cond.selects RX11 yX11_firstMisfit yX11_firstMisfit ∈ tG := tG_pv 18 rfl rfl
theorem wp_20 : Cond.selects RX12 yX12_carryAll yX12_carryAll ∈ tG := tG_pv 20 rfl rfl
theorem wp_21 : Cond.selects RX12 yX12_carry yX12_carry ∈ tG := tG_pv 21 rfl rfl
theorem wp_22 : Cond.selects RX12 yX12_wrongRow yX12_wrongRow ∈ tG := tG_pv 22 rfl rfl
theorem wp_23 : Cond.selects RX12 yX12_readStatement yX12_readStatement ∈ tG := tG_pv 23 rfl rfl
theorem wp_24 : Cond.selects RX12 yX12_here yX12_here ∈ tG := tG_pv 24 rfl rfl
theorem wp_25 : Cond.selects RX12 yX12_readNumbers yX12_readNumbers ∈ tG := tG_pv 25 rfl rfl
theorem wp_26 : Cond.selects RX12 yX12_readDigits yX12_readDigits ∈ tG := tG_pv 26 rfl rfl
theorem wp_27 : Cond.selects RX12 yX12_readSign yX12_readSign ∈ tG := tG_pv 27 rfl rfl
theorem wp_28 : Cond.selects RX12 yX12_open yX12_open ∈ tG := tG_pv 28 rfl rfl
theorem wp_29 : Cond.selects RX12 yX12_comesTold yX12_comesTold ∈ tG := tG_pv 29 rfl rfl
theorem wp_30 : Cond.selects RX12 yX12_factComes yX12_factComes ∈ tG := tG_pv 30 rfl rfl
theorem wp_31 : Cond.selects RX12 yX12_oneTold yX12_oneTold ∈ tG := tG_pv 31 rfl rfl
theorem wp_32 : Cond.selects RX12 yX12_oneComes yX12_oneComes ∈ tG := tG_pv 32 rfl rfl
theorem wp_33 : Cond.selects RX12 yX12_turnKin yX12_turnKin ∈ tG := tG_pv 33 rfl rfl
theorem wp_34 : Cond.selects RX12 yX12_plantTold yX12_plantTold ∈ tG := tG_pv 34 rfl rfl
theorem wp_35 : Cond.selects RX12 yX12_plantComes yX12_plantComes ∈ tG := tG_pv 35 rfl rfl
theorem wp_36 : Cond.selects RX12 yX12_close yX12_close ∈ tG := tG_pv 36 rfl rfl
theorem wp_37 : Cond.selects RX12 yX12_isOne yX12_isOne ∈ tG := tG_pv 37 rfl rfl
theorem wp_38 : Cond.selects RX12 yX12_dueOf yX12_dueOf ∈ tG := tG_pv 38 rfl rfl
theorem wp_39 : Cond.selects RX12 yX12_sumOf yX12_sumOf ∈ tG := tG_pv 39 rfl rfl
theorem wp_40 : Cond.selects RX12 yX12_strengthOf yX12_strengthOf ∈ tG := tG_pv 40 rfl rfl
theorem wp_41 : Cond.selects RX12 yX12_priceOf yX12_priceOf ∈ tG := tG_pv 41 rfl rfl
theorem wp_42 : Cond.selects RX12 yX12_wrongKept yX12_wrongKept ∈ tG := tG_pv 42 rfl rfl
theorem wp_43 : Cond.selects RX12 yX12_day yX12_day ∈ tG := tG_pv 43 rfl rfl
theorem wp_44 : Cond.selects RX12 yX12_comeForSale yX12_comeForSale ∈ tG := tG_pv 44 rfl rfl
theorem wp_45 : Cond.selects RX12 yX12_factsBy yX12_factsBy ∈ tG := tG_pv 45 rfl rfl
theorem wp_46 : Cond.selects RX12 yX12_choose yX12_choose ∈ tG := tG_pv 46 rfl rfl
theorem wp_47 : Cond.selects RX12 yX12_mayBuy yX12_mayBuy ∈ tG := tG_pv 47 rfl rfl
theorem wp_48 : Cond.selects RX12 yX12_isThere yX12_isThere ∈ tG := tG_pv 48 rfl rfl
theorem wp_49 : Cond.selects RX12 yX12_caseOf yX12_caseOf ∈ tG := tG_pv 49 rfl rfl
theorem wp_50 : Cond.selects RX12 yX12_leftOf yX12_leftOf ∈ tG := tG_pv 50 rfl rfl
theorem wp_51 : Cond.selects RX12 yX12_fadeOf yX12_fadeOf ∈ tG := tG_pv 51 rfl rfl
theorem wp_52 : Cond.selects RX12 yX12_buys yX12_buys ∈ tG := tG_pv 52 rfl rfl
theorem wp_53 : Cond.selects RX12 yX12_askedFor yX12_askedFor ∈ tG := tG_pv 53 rfl rfl
theorem wp_54 : Cond.selects RX12 yX12_chose yX12_chose ∈ tG := tG_pv 54 rfl rfl
theorem wp_55 : Cond.selects RX12 yX12_soldMany yX12_soldMany ∈ tG := tG_pv 55 rfl rfl
theorem wp_56 : Cond.selects RX12 yX12_paidInAll yX12_paidInAll ∈ tG := tG_pv 56 rfl rfl
theorem wp_57 : Cond.selects RX12 yX12_regretMany yX12_regretMany ∈ tG := tG_pv 57 rfl rfl
theorem wp_58 : Cond.selects RX12 yX12_chainOf yX12_chainOf ∈ tG := tG_pv 58 rfl rfl
theorem wp_59 : Cond.selects RX12 yX12_choiceOf yX12_choiceOf ∈ tG := tG_pv 59 rfl rfl
theorem wp_60 : Cond.selects RX12 yX12_likelyPart yX12_likelyPart ∈ tG := tG_pv 60 rfl rfl
theorem wp_61 : Cond.selects RX12 yX12_allYes yX12_allYes ∈ tG := tG_pv 61 rfl rfl
theorem wp_62 : Cond.selects RX12 yX12_takeChoices yX12_takeChoices ∈ tG := tG_pv 62 rfl rfl
theorem wp_63 : Cond.selects RX12 yX12_otherMany yX12_otherMany ∈ tG := tG_pv 63 rfl rfl
theorem wp_64 : Cond.selects RX12 yX12_keepMoods yX12_keepMoods ∈ tG := tG_pv 64 rfl rfl
theorem wp_65 : Cond.selects RX12 yX12_likeAhead yX12_likeAhead ∈ tG := tG_pv 65 rfl rfl
theorem wp_66 : Cond.selects RX12 yX12_wrongChoices yX12_wrongChoices ∈ tG := tG_pv 66 rfl rfl
theorem wp_67 : Cond.selects RX12 yX12_explain yX12_explain ∈ tG := tG_pv 67 rfl rfl
theorem wp_68 : Cond.selects RX12 yX12_fitsUpTo yX12_fitsUpTo ∈ tG := tG_pv 68 rfl rfl
theorem wp_69 : Cond.selects RX12 yX12_skipped yX12_skipped ∈ tG := tG_pv 69 rfl rfl
theorem kd_X0_init : yX0_init.cls = RX0 ∧ yX0_init.cls ≠ "java/lang/invoke/MethodHandle" ∧ yX0_init.cls ≠ "java/lang/invoke/VarHandle" ∧ (parseMethodDescriptor yX0_init.desc).map (fun d => d.parameters.length) = some 2 := by decide +kernel
theorem kd_X0_dueWhenTold : yX0_dueWhenTold.cls = RX0 ∧ yX0_dueWhenTold.cls ≠ "java/lang/invoke/MethodHandle" ∧ yX0_dueWhenTold.cls ≠ "java/lang/invoke/VarHandle" ∧ (parseMethodDescriptor yX0_dueWhenTold.desc).map (fun d => d.parameters.length) = some 1 := by decide +kernel
theorem kd_X0_costOf : yX0_costOf.cls = RX0 ∧ yX0_costOf.cls ≠ "java/lang/invoke/MethodHandle" ∧ yX0_costOf.cls ≠ "java/lang/invoke/VarHandle" ∧ (parseMethodDescriptor yX0_costOf.desc).map (fun d => d.parameters.length) = some 0 := by decide +kernel
theorem kd_X1_init : yX1_init.cls = RX1 ∧ yX1_init.cls ≠ "java/lang/invoke/MethodHandle" ∧ yX1_init.cls ≠ "java/lang/invoke/VarHandle" ∧ (parseMethodDescriptor yX1_init.desc).map (fun d => d.parameters.length) = some 2 := by decide +kernel
theorem kd_X1_buysOf : yX1_buysOf.cls = RX1 ∧ yX1_buysOf.cls ≠ "java/lang/invoke/MethodHandle" ∧ yX1_buysOf.cls ≠ "java/lang/invoke/VarHandle" ∧ (parseMethodDescriptor yX1_buysOf.desc).map (fun d => d.parameters.length) = some 2 := by decide +kernel
theorem kd_X1_priceOf : yX1_priceOf.cls = RX1 ∧ yX1_priceOf.cls ≠ "java/lang/invoke/MethodHandle" ∧ yX1_priceOf.cls ≠ "java/lang/invoke/VarHandle" ∧ (parseMethodDescriptor yX1_priceOf.desc).map (fun d => d.parameters.length) = some 2 := by decide +kernel
theorem kd_X1_costOf : yX1_costOf.cls = RX1 ∧ yX1_costOf.cls ≠ "java/lang/invoke/MethodHandle" ∧ yX1_costOf.cls ≠ "java/lang/invoke/VarHandle" ∧ (parseMethodDescriptor yX1_costOf.desc).map (fun d => d.parameters.length) = some 0 := by decide +kernel
theorem kd_X1_fail : yX1_fail.cls = RX1 ∧ yX1_fail.cls ≠ "java/lang/invoke/MethodHandle" ∧ yX1_fail.cls ≠ "java/lang/invoke/VarHandle" ∧ (parseMethodDescriptor yX1_fail.desc).map (fun d => d.parameters.length) = some 0 := by decide +kernel
theorem kd_X2_init : yX2_init.cls = RX2 ∧ yX2_init.cls ≠ "java/lang/invoke/MethodHandle" ∧ yX2_init.cls ≠ "java/lang/invoke/VarHandle" ∧ (parseMethodDescriptor yX2_init.desc).map (fun d => d.parameters.length) = some 1 := by decide +kernel
theorem kd_X2_run : yX2_run.cls = RX2 ∧ yX2_run.cls ≠ "java/lang/invoke/MethodHandle" ∧ yX2_run.cls ≠ "java/lang/invoke/VarHandle" ∧ (parseMethodDescriptor yX2_run.desc).map (fun d => d.parameters.length) = some 2 := by decide +kernel
theorem kd_X2_offer : yX2_offer.cls = RX2 ∧ yX2_offer.cls ≠ "java/lang/invoke/MethodHandle" ∧ yX2_offer.cls ≠ "java/lang/invoke/VarHandle" ∧ (parseMethodDescriptor yX2_offer.desc).map (fun d => d.parameters.length) = some 5 := by decide +kernel
theorem kd_X2_thinkFirst : yX2_thinkFirst.cls = RX2 ∧ yX2_thinkFirst.cls ≠ "java/lang/invoke/MethodHandle" ∧ yX2_thinkFirst.cls ≠ "java/lang/invoke/VarHandle" ∧ (parseMethodDescriptor yX2_thinkFirst.desc).map (fun d => d.parameters.length) = some 1 := by decide +kernel
theorem kd_X2_choose : yX2_choose.cls = RX2 ∧ yX2_choose.cls ≠ "java/lang/invoke/MethodHandle" ∧ yX2_choose.cls ≠ "java/lang/invoke/VarHandle" ∧ (parseMethodDescriptor yX2_choose.desc).map (fun d => d.parameters.length) = some 1 := by decide +kernel
theorem kd_X2_thinkAgain : yX2_thinkAgain.cls = RX2 ∧ yX2_thinkAgain.cls ≠ "java/lang/invoke/MethodHandle" ∧ yX2_thinkAgain.cls ≠ "java/lang/invoke/VarHandle" ∧ (parseMethodDescriptor yX2_thinkAgain.desc).map (fun d => d.parameters.length) = some 1 := by decide +kernel
theorem kd_X2_buyBest : yX2_buyBest.cls = RX2 ∧ yX2_buyBest.cls ≠ "java/lang/invoke/MethodHandle" ∧ yX2_buyBest.cls ≠ "java/lang/invoke/VarHandle" ∧ (parseMethodDescriptor yX2_buyBest.desc).map (fun d => d.parameters.length) = some 1 := by decide +kernel
theorem kd_X2_caseOf : yX2_caseOf.cls = RX2 ∧ yX2_caseOf.cls ≠ "java/lang/invoke/MethodHandle" ∧ yX2_caseOf.cls ≠ "java/lang/invoke/VarHandle" ∧ (parseMethodDescriptor yX2_caseOf.desc).map (fun d => d.parameters.length) = some 1 := by decide +kernel
theorem kd_X2_leftOf : yX2_leftOf.cls = RX2 ∧ yX2_leftOf.cls ≠ "java/lang/invoke/MethodHandle" ∧ yX2_leftOf.cls ≠ "java/lang/invoke/VarHandle" ∧ (parseMethodDescriptor yX2_leftOf.desc).map (fun d => d.parameters.length) = some 2 := by decide +kernel
theorem kd_X2_isForSale : yX2_isForSale.cls = RX2 ∧ yX2_isForSale.cls ≠ "java/lang/invoke/MethodHandle" ∧ yX2_isForSale.cls ≠ "java/lang/invoke/VarHandle" ∧ (parseMethodDescriptor yX2_isForSale.desc).map (fun d => d.parameters.length) = some 2 := by decide +kernel
theorem kd_X2_toldChoice : yX2_toldChoice.cls = RX2 ∧ yX2_toldChoice.cls ≠ "java/lang/invoke/MethodHandle" ∧ yX2_toldChoice.cls ≠ "java/lang/invoke/VarHandle" ∧ (parseMethodDescriptor yX2_toldChoice.desc).map (fun d => d.parameters.length) = some 1 := by decide +kernel
theorem kd_X2_choices : yX2_choices.cls = RX2 ∧ yX2_choices.cls ≠ "java/lang/invoke/MethodHandle" ∧ yX2_choices.cls ≠ "java/lang/invoke/VarHandle" ∧ (parseMethodDescriptor yX2_choices.desc).map (fun d => d.parameters.length) = some 0 := by decide +kernel
theorem kd_X2_sayYes : yX2_sayYes.cls = RX2 ∧ yX2_sayYes.cls ≠ "java/lang/invoke/MethodHandle" ∧ yX2_sayYes.cls ≠ "java/lang/invoke/VarHandle" ∧ (parseMethodDescriptor yX2_sayYes.desc).map (fun d => d.parameters.length) = some 0 := by decide +kernel
theorem kd_X2_coinsAt : yX2_coinsAt.cls = RX2 ∧ yX2_coinsAt.cls ≠ "java/lang/invoke/MethodHandle" ∧ yX2_coinsAt.cls ≠ "java/lang/invoke/VarHandle" ∧ (parseMethodDescriptor yX2_coinsAt.desc).map (fun d => d.parameters.length) = some 2 := by decide +kernel
theorem kd_X2_fateOf : yX2_fateOf.cls = RX2 ∧ yX2_fateOf.cls ≠ "java/lang/invoke/MethodHandle" ∧ yX2_fateOf.cls ≠ "java/lang/invoke/VarHandle" ∧ (parseMethodDescriptor yX2_fateOf.desc).map (fun d => d.parameters.length) = some 2 := by decide +kernel
theorem kd_X2_countOf : yX2_countOf.cls = RX2 ∧ yX2_countOf.cls ≠ "java/lang/invoke/MethodHandle" ∧ yX2_countOf.cls ≠ "java/lang/invoke/VarHandle" ∧ (parseMethodDescriptor yX2_countOf.desc).map (fun d => d.parameters.length) = some 1 := by decide +kernel
theorem kd_X2_howManyChoose : yX2_howManyChoose.cls = RX2 ∧ yX2_howManyChoose.cls ≠ "java/lang/invoke/MethodHandle" ∧ yX2_howManyChoose.cls ≠ "java/lang/invoke/VarHandle" ∧ (parseMethodDescriptor yX2_howManyChoose.desc).map (fun d => d.parameters.length) = some 1 := by decide +kernel
theorem kd_X2_howManySold : yX2_howManySold.cls = RX2 ∧ yX2_howManySold.cls ≠ "java/lang/invoke/MethodHandle" ∧ yX2_howManySold.cls ≠ "java/lang/invoke/VarHandle" ∧ (parseMethodDescriptor yX2_howManySold.desc).map (fun d => d.parameters.length) = some 0 := by decide +kernel
theorem kd_X2_allPaid : yX2_allPaid.cls = RX2 ∧ yX2_allPaid.cls ≠ "java/lang/invoke/MethodHandle" ∧ yX2_allPaid.cls ≠ "java/lang/invoke/VarHandle" ∧ (parseMethodDescriptor yX2_allPaid.desc).map (fun d => d.parameters.length) = some 0 := by decide +kernel
theorem kd_X2_howManyRegret : yX2_howManyRegret.cls = RX2 ∧ yX2_howManyRegret.cls ≠ "java/lang/invoke/MethodHandle" ∧ yX2_howManyRegret.cls ≠ "java/lang/invoke/VarHandle" ∧ (parseMethodDescriptor yX2_howManyRegret.desc).map (fun d => d.parameters.length) = some 0 := by decide +kernel
theorem kd_X2_marketAt : yX2_marketAt.cls = RX2 ∧ yX2_marketAt.cls ≠ "java/lang/invoke/MethodHandle" ∧ yX2_marketAt.cls ≠ "java/lang/invoke/VarHandle" ∧ (parseMethodDescriptor yX2_marketAt.desc).map (fun d => d.parameters.length) = some 1 := by decide +kernel
theorem kd_X2_chainOf : yX2_chainOf.cls = RX2 ∧ yX2_chainOf.cls ≠ "java/lang/invoke/MethodHandle" ∧ yX2_chainOf.cls ≠ "java/lang/invoke/VarHandle" ∧ (parseMethodDescriptor yX2_chainOf.desc).map (fun d => d.parameters.length) = some 1 := by decide +kernel
theorem kd_X3_init : yX3_init.cls = RX3 ∧ yX3_init.cls ≠ "java/lang/invoke/MethodHandle" ∧ yX3_init.cls ≠ "java/lang/invoke/VarHandle" ∧ (parseMethodDescriptor yX3_init.desc).map (fun d => d.parameters.length) = some 2 := by decide +kernel
theorem kd_X3_sumOf : yX3_sumOf.cls = RX3 ∧ yX3_sumOf.cls ≠ "java/lang/invoke/MethodHandle" ∧ yX3_sumOf.cls ≠ "java/lang/invoke/VarHandle" ∧ (parseMethodDescriptor yX3_sumOf.desc).map (fun d => d.parameters.length) = some 2 := by decide +kernel
theorem kd_X3_priceOf : yX3_priceOf.cls = RX3 ∧ yX3_priceOf.cls ≠ "java/lang/invoke/MethodHandle" ∧ yX3_priceOf.cls ≠ "java/lang/invoke/VarHandle" ∧ (parseMethodDescriptor yX3_priceOf.desc).map (fun d => d.parameters.length) = some 2 := by decide +kernel
theorem kd_X3_fadeBy : yX3_fadeBy.cls = RX3 ∧ yX3_fadeBy.cls ≠ "java/lang/invoke/MethodHandle" ∧ yX3_fadeBy.cls ≠ "java/lang/invoke/VarHandle" ∧ (parseMethodDescriptor yX3_fadeBy.desc).map (fun d => d.parameters.length) = some 1 := by decide +kernel
theorem kd_X3_costOf : yX3_costOf.cls = RX3 ∧ yX3_costOf.cls ≠ "java/lang/invoke/MethodHandle" ∧ yX3_costOf.cls ≠ "java/lang/invoke/VarHandle" ∧ (parseMethodDescriptor yX3_costOf.desc).map (fun d => d.parameters.length) = some 0 := by decide +kernel
theorem kd_X4_init : yX4_init.cls = RX4 ∧ yX4_init.cls ≠ "java/lang/invoke/MethodHandle" ∧ yX4_init.cls ≠ "java/lang/invoke/VarHandle" ∧ (parseMethodDescriptor yX4_init.desc).map (fun d => d.parameters.length) = some 2 := by decide +kernel
theorem kd_X4_strengthOf : yX4_strengthOf.cls = RX4 ∧ yX4_strengthOf.cls ≠ "java/lang/invoke/MethodHandle" ∧ yX4_strengthOf.cls ≠ "java/lang/invoke/VarHandle" ∧ (parseMethodDescriptor yX4_strengthOf.desc).map (fun d => d.parameters.length) = some 1 := by decide +kernel
theorem kd_X4_fadeBy : yX4_fadeBy.cls = RX4 ∧ yX4_fadeBy.cls ≠ "java/lang/invoke/MethodHandle" ∧ yX4_fadeBy.cls ≠ "java/lang/invoke/VarHandle" ∧ (parseMethodDescriptor yX4_fadeBy.desc).map (fun d => d.parameters.length) = some 1 := by decide +kernel
theorem kd_X4_costOf : yX4_costOf.cls = RX4 ∧ yX4_costOf.cls ≠ "java/lang/invoke/MethodHandle" ∧ yX4_costOf.cls ≠ "java/lang/invoke/VarHandle" ∧ (parseMethodDescriptor yX4_costOf.desc).map (fun d => d.parameters.length) = some 0 := by decide +kernel
theorem kd_X4_fail : yX4_fail.cls = RX4 ∧ yX4_fail.cls ≠ "java/lang/invoke/MethodHandle" ∧ yX4_fail.cls ≠ "java/lang/invoke/VarHandle" ∧ (parseMethodDescriptor yX4_fail.desc).map (fun d => d.parameters.length) = some 0 := by decide +kernel
theorem kd_X5_init : yX5_init.cls = RX5 ∧ yX5_init.cls ≠ "java/lang/invoke/MethodHandle" ∧ yX5_init.cls ≠ "java/lang/invoke/VarHandle" ∧ (parseMethodDescriptor yX5_init.desc).map (fun d => d.parameters.length) = some 2 := by decide +kernel
theorem kd_X5_sumOf : yX5_sumOf.cls = RX5 ∧ yX5_sumOf.cls ≠ "java/lang/invoke/MethodHandle" ∧ yX5_sumOf.cls ≠ "java/lang/invoke/VarHandle" ∧ (parseMethodDescriptor yX5_sumOf.desc).map (fun d => d.parameters.length) = some 2 := by decide +kernel
theorem kd_X5_costOf : yX5_costOf.cls = RX5 ∧ yX5_costOf.cls ≠ "java/lang/invoke/MethodHandle" ∧ yX5_costOf.cls ≠ "java/lang/invoke/VarHandle" ∧ (parseMethodDescriptor yX5_costOf.desc).map (fun d => d.parameters.length) = some 0 := by decide +kernel
theorem kd_X6_init : yX6_init.cls = RX6 ∧ yX6_init.cls ≠ "java/lang/invoke/MethodHandle" ∧ yX6_init.cls ≠ "java/lang/invoke/VarHandle" ∧ (parseMethodDescriptor yX6_init.desc).map (fun d => d.parameters.length) = some 2 := by decide +kernel
theorem kd_X6_sumOf : yX6_sumOf.cls = RX6 ∧ yX6_sumOf.cls ≠ "java/lang/invoke/MethodHandle" ∧ yX6_sumOf.cls ≠ "java/lang/invoke/VarHandle" ∧ (parseMethodDescriptor yX6_sumOf.desc).map (fun d => d.parameters.length) = some 2 := by decide +kernel
theorem kd_X6_costOf : yX6_costOf.cls = RX6 ∧ yX6_costOf.cls ≠ "java/lang/invoke/MethodHandle" ∧ yX6_costOf.cls ≠ "java/lang/invoke/VarHandle" ∧ (parseMethodDescriptor yX6_costOf.desc).map (fun d => d.parameters.length) = some 0 := by decide +kernel
theorem kd_X6_fail : yX6_fail.cls = RX6 ∧ yX6_fail.cls ≠ "java/lang/invoke/MethodHandle" ∧ yX6_fail.cls ≠ "java/lang/invoke/VarHandle" ∧ (parseMethodDescriptor yX6_fail.desc).map (fun d => d.parameters.length) = some 0 := by decide +kernel
theorem kd_X7_init : yX7_init.cls = RX7 ∧ yX7_init.cls ≠ "java/lang/invoke/MethodHandle" ∧ yX7_init.cls ≠ "java/lang/invoke/VarHandle" ∧ (parseMethodDescriptor yX7_init.desc).map (fun d => d.parameters.length) = some 2 := by decide +kernel
theorem kd_X7_dueWhenTold : yX7_dueWhenTold.cls = RX7 ∧ yX7_dueWhenTold.cls ≠ "java/lang/invoke/MethodHandle" ∧ yX7_dueWhenTold.cls ≠ "java/lang/invoke/VarHandle" ∧ (parseMethodDescriptor yX7_dueWhenTold.desc).map (fun d => d.parameters.length) = some 1 := by decide +kernel
theorem kd_X7_sumOf : yX7_sumOf.cls = RX7 ∧ yX7_sumOf.cls ≠ "java/lang/invoke/MethodHandle" ∧ yX7_sumOf.cls ≠ "java/lang/invoke/VarHandle" ∧ (parseMethodDescriptor yX7_sumOf.desc).map (fun d => d.parameters.length) = some 2 := by decide +kernel
theorem kd_X7_strengthOf : yX7_strengthOf.cls = RX7 ∧ yX7_strengthOf.cls ≠ "java/lang/invoke/MethodHandle" ∧ yX7_strengthOf.cls ≠ "java/lang/invoke/VarHandle" ∧ (parseMethodDescriptor yX7_strengthOf.desc).map (fun d => d.parameters.length) = some 1 := by decide +kernel
theorem kd_X7_buysOf : yX7_buysOf.cls = RX7 ∧ yX7_buysOf.cls ≠ "java/lang/invoke/MethodHandle" ∧ yX7_buysOf.cls ≠ "java/lang/invoke/VarHandle" ∧ (parseMethodDescriptor yX7_buysOf.desc).map (fun d => d.parameters.length) = some 2 := by decide +kernel
theorem kd_X7_priceOf : yX7_priceOf.cls = RX7 ∧ yX7_priceOf.cls ≠ "java/lang/invoke/MethodHandle" ∧ yX7_priceOf.cls ≠ "java/lang/invoke/VarHandle" ∧ (parseMethodDescriptor yX7_priceOf.desc).map (fun d => d.parameters.length) = some 2 := by decide +kernel
theorem kd_X7_fadeBy : yX7_fadeBy.cls = RX7 ∧ yX7_fadeBy.cls ≠ "java/lang/invoke/MethodHandle" ∧ yX7_fadeBy.cls ≠ "java/lang/invoke/VarHandle" ∧ (parseMethodDescriptor yX7_fadeBy.desc).map (fun d => d.parameters.length) = some 1 := by decide +kernel
theorem kd_X7_costOf : yX7_costOf.cls = RX7 ∧ yX7_costOf.cls ≠ "java/lang/invoke/MethodHandle" ∧ yX7_costOf.cls ≠ "java/lang/invoke/VarHandle" ∧ (parseMethodDescriptor yX7_costOf.desc).map (fun d => d.parameters.length) = some 0 := by decide +kernel
theorem kd_X7_fail : yX7_fail.cls = RX7 ∧ yX7_fail.cls ≠ "java/lang/invoke/MethodHandle" ∧ yX7_fail.cls ≠ "java/lang/invoke/VarHandle" ∧ (parseMethodDescriptor yX7_fail.desc).map (fun d => d.parameters.length) = some 0 := by decide +kernel
theorem kd_X8_init : yX8_init.cls = RX8 ∧ yX8_init.cls ≠ "java/lang/invoke/MethodHandle" ∧ yX8_init.cls ≠ "java/lang/invoke/VarHandle" ∧ (parseMethodDescriptor yX8_init.desc).map (fun d => d.parameters.length) = some 0 := by decide +kernel
theorem kd_X8_begin : yX8_begin.cls = RX8 ∧ yX8_begin.cls ≠ "java/lang/invoke/MethodHandle" ∧ yX8_begin.cls ≠ "java/lang/invoke/VarHandle" ∧ (parseMethodDescriptor yX8_begin.desc).map (fun d => d.parameters.length) = some 2 := by decide +kernel
theorem kd_X8_hasPlaces : yX8_hasPlaces.cls = RX8 ∧ yX8_hasPlaces.cls ≠ "java/lang/invoke/MethodHandle" ∧ yX8_hasPlaces.cls ≠ "java/lang/invoke/VarHandle" ∧ (parseMethodDescriptor yX8_hasPlaces.desc).map (fun d => d.parameters.length) = some 2 := by decide +kernel
theorem kd_X8_at : yX8_at.cls = RX8 ∧ yX8_at.cls ≠ "java/lang/invoke/MethodHandle" ∧ yX8_at.cls ≠ "java/lang/invoke/VarHandle" ∧ (parseMethodDescriptor yX8_at.desc).map (fun d => d.parameters.length) = some 1 := by decide +kernel
theorem kd_X8_write : yX8_write.cls = RX8 ∧ yX8_write.cls ≠ "java/lang/invoke/MethodHandle" ∧ yX8_write.cls ≠ "java/lang/invoke/VarHandle" ∧ (parseMethodDescriptor yX8_write.desc).map (fun d => d.parameters.length) = some 2 := by decide +kernel
theorem kd_X8_isSkipped : yX8_isSkipped.cls = RX8 ∧ yX8_isSkipped.cls ≠ "java/lang/invoke/MethodHandle" ∧ yX8_isSkipped.cls ≠ "java/lang/invoke/VarHandle" ∧ (parseMethodDescriptor yX8_isSkipped.desc).map (fun d => d.parameters.length) = some 1 := by decide +kernel
theorem kd_X8_digitAt : yX8_digitAt.cls = RX8 ∧ yX8_digitAt.cls ≠ "java/lang/invoke/MethodHandle" ∧ yX8_digitAt.cls ≠ "java/lang/invoke/VarHandle" ∧ (parseMethodDescriptor yX8_digitAt.desc).map (fun d => d.parameters.length) = some 1 := by decide +kernel
theorem kd_X8_pairAt : yX8_pairAt.cls = RX8 ∧ yX8_pairAt.cls ≠ "java/lang/invoke/MethodHandle" ∧ yX8_pairAt.cls ≠ "java/lang/invoke/VarHandle" ∧ (parseMethodDescriptor yX8_pairAt.desc).map (fun d => d.parameters.length) = some 1 := by decide +kernel
theorem kd_X8_signAt : yX8_signAt.cls = RX8 ∧ yX8_signAt.cls ≠ "java/lang/invoke/MethodHandle" ∧ yX8_signAt.cls ≠ "java/lang/invoke/VarHandle" ∧ (parseMethodDescriptor yX8_signAt.desc).map (fun d => d.parameters.length) = some 1 := by decide +kernel
theorem kd_X8_signedAt : yX8_signedAt.cls = RX8 ∧ yX8_signedAt.cls ≠ "java/lang/invoke/MethodHandle" ∧ yX8_signedAt.cls ≠ "java/lang/invoke/VarHandle" ∧ (parseMethodDescriptor yX8_signedAt.desc).map (fun d => d.parameters.length) = some 1 := by decide +kernel
theorem kd_X9_init : yX9_init.cls = RX9 ∧ yX9_init.cls ≠ "java/lang/invoke/MethodHandle" ∧ yX9_init.cls ≠ "java/lang/invoke/VarHandle" ∧ (parseMethodDescriptor yX9_init.desc).map (fun d => d.parameters.length) = some 2 := by decide +kernel
theorem kd_X9_strengthOf : yX9_strengthOf.cls = RX9 ∧ yX9_strengthOf.cls ≠ "java/lang/invoke/MethodHandle" ∧ yX9_strengthOf.cls ≠ "java/lang/invoke/VarHandle" ∧ (parseMethodDescriptor yX9_strengthOf.desc).map (fun d => d.parameters.length) = some 1 := by decide +kernel
theorem kd_X9_buysOf : yX9_buysOf.cls = RX9 ∧ yX9_buysOf.cls ≠ "java/lang/invoke/MethodHandle" ∧ yX9_buysOf.cls ≠ "java/lang/invoke/VarHandle" ∧ (parseMethodDescriptor yX9_buysOf.desc).map (fun d => d.parameters.length) = some 2 := by decide +kernel
theorem kd_X9_costOf : yX9_costOf.cls = RX9 ∧ yX9_costOf.cls ≠ "java/lang/invoke/MethodHandle" ∧ yX9_costOf.cls ≠ "java/lang/invoke/VarHandle" ∧ (parseMethodDescriptor yX9_costOf.desc).map (fun d => d.parameters.length) = some 0 := by decide +kernel
theorem kd_X10_init : yX10_init.cls = RX10 ∧ yX10_init.cls ≠ "java/lang/invoke/MethodHandle" ∧ yX10_init.cls ≠ "java/lang/invoke/VarHandle" ∧ (parseMethodDescriptor yX10_init.desc).map (fun d => d.parameters.length) = some 0 := by decide +kernel
theorem kd_X10_become : yX10_become.cls = RX10 ∧ yX10_become.cls ≠ "java/lang/invoke/MethodHandle" ∧ yX10_become.cls ≠ "java/lang/invoke/VarHandle" ∧ (parseMethodDescriptor yX10_become.desc).map (fun d => d.parameters.length) = some 1 := by decide +kernel
theorem kd_X10_isNoOne : yX10_isNoOne.cls ≠ "java/lang/invoke/MethodHandle" ∧ yX10_isNoOne.cls ≠ "java/lang/invoke/VarHandle" ∧ (parseMethodDescriptor yX10_isNoOne.desc).map (fun d => d.parameters.length) = some 4 := by decide +kernel
theorem kd_X10_addOne : yX10_addOne.cls = RX10 ∧ yX10_addOne.cls ≠ "java/lang/invoke/MethodHandle" ∧ yX10_addOne.cls ≠ "java/lang/invoke/VarHandle" ∧ (parseMethodDescriptor yX10_addOne.desc).map (fun d => d.parameters.length) = some 5 := by decide +kernel
theorem kd_X10_dropOne : yX10_dropOne.cls = RX10 ∧ yX10_dropOne.cls ≠ "java/lang/invoke/MethodHandle" ∧ yX10_dropOne.cls ≠ "java/lang/invoke/VarHandle" ∧ (parseMethodDescriptor yX10_dropOne.desc).map (fun d => d.parameters.length) = some 1 := by decide +kernel
theorem kd_X10_addFact : yX10_addFact.cls = RX10 ∧ yX10_addFact.cls ≠ "java/lang/invoke/MethodHandle" ∧ yX10_addFact.cls ≠ "java/lang/invoke/VarHandle" ∧ (parseMethodDescriptor yX10_addFact.desc).map (fun d => d.parameters.length) = some 3 := by decide +kernel
theorem kd_X10_addPlant : yX10_addPlant.cls = RX10 ∧ yX10_addPlant.cls ≠ "java/lang/invoke/MethodHandle" ∧ yX10_addPlant.cls ≠ "java/lang/invoke/VarHandle" ∧ (parseMethodDescriptor yX10_addPlant.desc).map (fun d => d.parameters.length) = some 5 := by decide +kernel
theorem kd_X10_turnKin : yX10_turnKin.cls = RX10 ∧ yX10_turnKin.cls ≠ "java/lang/invoke/MethodHandle" ∧ yX10_turnKin.cls ≠ "java/lang/invoke/VarHandle" ∧ (parseMethodDescriptor yX10_turnKin.desc).map (fun d => d.parameters.length) = some 2 := by decide +kernel
theorem kd_X10_areKin : yX10_areKin.cls = RX10 ∧ yX10_areKin.cls ≠ "java/lang/invoke/MethodHandle" ∧ yX10_areKin.cls ≠ "java/lang/invoke/VarHandle" ∧ (parseMethodDescriptor yX10_areKin.desc).map (fun d => d.parameters.length) = some 2 := by decide +kernel
theorem kd_X10_pairsOfKin : yX10_pairsOfKin.cls = RX10 ∧ yX10_pairsOfKin.cls ≠ "java/lang/invoke/MethodHandle" ∧ yX10_pairsOfKin.cls ≠ "java/lang/invoke/VarHandle" ∧ (parseMethodDescriptor yX10_pairsOfKin.desc).map (fun d => d.parameters.length) = some 0 := by decide +kernel
theorem kd_X10_changeRule : yX10_changeRule.cls = RX10 ∧ yX10_changeRule.cls ≠ "java/lang/invoke/MethodHandle" ∧ yX10_changeRule.cls ≠ "java/lang/invoke/VarHandle" ∧ (parseMethodDescriptor yX10_changeRule.desc).map (fun d => d.parameters.length) = some 2 := by decide +kernel
theorem kd_X10_allCoins : yX10_allCoins.cls = RX10 ∧ yX10_allCoins.cls ≠ "java/lang/invoke/MethodHandle" ∧ yX10_allCoins.cls ≠ "java/lang/invoke/VarHandle" ∧ (parseMethodDescriptor yX10_allCoins.desc).map (fun d => d.parameters.length) = some 0 := by decide +kernel
theorem kd_X10_weightOf : yX10_weightOf.cls = RX10 ∧ yX10_weightOf.cls ≠ "java/lang/invoke/MethodHandle" ∧ yX10_weightOf.cls ≠ "java/lang/invoke/VarHandle" ∧ (parseMethodDescriptor yX10_weightOf.desc).map (fun d => d.parameters.length) = some 3 := by decide +kernel
theorem kd_X10_hear : yX10_hear.cls = RX10 ∧ yX10_hear.cls ≠ "java/lang/invoke/MethodHandle" ∧ yX10_hear.cls ≠ "java/lang/invoke/VarHandle" ∧ (parseMethodDescriptor yX10_hear.desc).map (fun d => d.parameters.length) = some 1 := by decide +kernel
theorem kd_X10_shapeBehind : yX10_shapeBehind.cls ≠ "java/lang/invoke/MethodHandle" ∧ yX10_shapeBehind.cls ≠ "java/lang/invoke/VarHandle" ∧ (parseMethodDescriptor yX10_shapeBehind.desc).map (fun d => d.parameters.length) = some 1 := by decide +kernel
theorem kd_X10_firstWrong : yX10_firstWrong.cls ≠ "java/lang/invoke/MethodHandle" ∧ yX10_firstWrong.cls ≠ "java/lang/invoke/VarHandle" ∧ (parseMethodDescriptor yX10_firstWrong.desc).map (fun d => d.parameters.length) = some 1 := by decide +kernel
theorem kd_X10_fitsShape : yX10_fitsShape.cls ≠ "java/lang/invoke/MethodHandle" ∧ yX10_fitsShape.cls ≠ "java/lang/invoke/VarHandle" ∧ (parseMethodDescriptor yX10_fitsShape.desc).map (fun d => d.parameters.length) = some 2 := by decide +kernel
theorem kd_X10_hearStatement : yX10_hearStatement.cls = RX10 ∧ yX10_hearStatement.cls ≠ "java/lang/invoke/MethodHandle" ∧ yX10_hearStatement.cls ≠ "java/lang/invoke/VarHandle" ∧ (parseMethodDescriptor yX10_hearStatement.desc).map (fun d => d.parameters.length) = some 2 := by decide +kernel
theorem kd_X11_init : yX11_init.cls = RX11 ∧ yX11_init.cls ≠ "java/lang/invoke/MethodHandle" ∧ yX11_init.cls ≠ "java/lang/invoke/VarHandle" ∧ (parseMethodDescriptor yX11_init.desc).map (fun d => d.parameters.length) = some 0 := by decide +kernel
theorem kd_X11_town : yX11_town.cls = RX11 ∧ yX11_town.cls ≠ "java/lang/invoke/MethodHandle" ∧ yX11_town.cls ≠ "java/lang/invoke/VarHandle" ∧ (parseMethodDescriptor yX11_town.desc).map (fun d => d.parameters.length) = some 1 := by decide +kernel
theorem kd_X11_person : yX11_person.cls = RX11 ∧ yX11_person.cls ≠ "java/lang/invoke/MethodHandle" ∧ yX11_person.cls ≠ "java/lang/invoke/VarHandle" ∧ (parseMethodDescriptor yX11_person.desc).map (fun d => d.parameters.length) = some 2 := by decide +kernel
theorem kd_X11_weighs : yX11_weighs.cls = RX11 ∧ yX11_weighs.cls ≠ "java/lang/invoke/MethodHandle" ∧ yX11_weighs.cls ≠ "java/lang/invoke/VarHandle" ∧ (parseMethodDescriptor yX11_weighs.desc).map (fun d => d.parameters.length) = some 3 := by decide +kernel
theorem kd_X11_strength : yX11_strength.cls = RX11 ∧ yX11_strength.cls ≠ "java/lang/invoke/MethodHandle" ∧ yX11_strength.cls ≠ "java/lang/invoke/VarHandle" ∧ (parseMethodDescriptor yX11_strength.desc).map (fun d => d.parameters.length) = some 2 := by decide +kernel
theorem kd_X11_price : yX11_price.cls = RX11 ∧ yX11_price.cls ≠ "java/lang/invoke/MethodHandle" ∧ yX11_price.cls ≠ "java/lang/invoke/VarHandle" ∧ (parseMethodDescriptor yX11_price.desc).map (fun d => d.parameters.length) = some 2 := by decide +kernel
theorem kd_X11_comes : yX11_comes.cls = RX11 ∧ yX11_comes.cls ≠ "java/lang/invoke/MethodHandle" ∧ yX11_comes.cls ≠ "java/lang/invoke/VarHandle" ∧ (parseMethodDescriptor yX11_comes.desc).map (fun d => d.parameters.length) = some 5 := by decide +kernel
theorem kd_X11_leaves : yX11_leaves.cls = RX11 ∧ yX11_leaves.cls ≠ "java/lang/invoke/MethodHandle" ∧ yX11_leaves.cls ≠ "java/lang/invoke/VarHandle" ∧ (parseMethodDescriptor yX11_leaves.desc).map (fun d => d.parameters.length) = some 1 := by decide +kernel
theorem kd_X11_mood : yX11_mood.cls = RX11 ∧ yX11_mood.cls ≠ "java/lang/invoke/MethodHandle" ∧ yX11_mood.cls ≠ "java/lang/invoke/VarHandle" ∧ (parseMethodDescriptor yX11_mood.desc).map (fun d => d.parameters.length) = some 2 := by decide +kernel
theorem kd_X11_coins : yX11_coins.cls = RX11 ∧ yX11_coins.cls ≠ "java/lang/invoke/MethodHandle" ∧ yX11_coins.cls ≠ "java/lang/invoke/VarHandle" ∧ (parseMethodDescriptor yX11_coins.desc).map (fun d => d.parameters.length) = some 2 := by decide +kernel
theorem kd_X11_fact : yX11_fact.cls = RX11 ∧ yX11_fact.cls ≠ "java/lang/invoke/MethodHandle" ∧ yX11_fact.cls ≠ "java/lang/invoke/VarHandle" ∧ (parseMethodDescriptor yX11_fact.desc).map (fun d => d.parameters.length) = some 3 := by decide +kernel
theorem kd_X11_about : yX11_about.cls = RX11 ∧ yX11_about.cls ≠ "java/lang/invoke/MethodHandle" ∧ yX11_about.cls ≠ "java/lang/invoke/VarHandle" ∧ (parseMethodDescriptor yX11_about.desc).map (fun d => d.parameters.length) = some 2 := by decide +kernel
theorem kd_X11_chance : yX11_chance.cls = RX11 ∧ yX11_chance.cls ≠ "java/lang/invoke/MethodHandle" ∧ yX11_chance.cls ≠ "java/lang/invoke/VarHandle" ∧ (parseMethodDescriptor yX11_chance.desc).map (fun d => d.parameters.length) = some 2 := by decide +kernel
theorem kd_X11_kin : yX11_kin.cls = RX11 ∧ yX11_kin.cls ≠ "java/lang/invoke/MethodHandle" ∧ yX11_kin.cls ≠ "java/lang/invoke/VarHandle" ∧ (parseMethodDescriptor yX11_kin.desc).map (fun d => d.parameters.length) = some 2 := by decide +kernel
theorem kd_X11_set : yX11_set.cls = RX11 ∧ yX11_set.cls ≠ "java/lang/invoke/MethodHandle" ∧ yX11_set.cls ≠ "java/lang/invoke/VarHandle" ∧ (parseMethodDescriptor yX11_set.desc).map (fun d => d.parameters.length) = some 2 := by decide +kernel
theorem kd_X11_fate : yX11_fate.cls = RX11 ∧ yX11_fate.cls ≠ "java/lang/invoke/MethodHandle" ∧ yX11_fate.cls ≠ "java/lang/invoke/VarHandle" ∧ (parseMethodDescriptor yX11_fate.desc).map (fun d => d.parameters.length) = some 2 := by decide +kernel
theorem kd_X11_sum : yX11_sum.cls = RX11 ∧ yX11_sum.cls ≠ "java/lang/invoke/MethodHandle" ∧ yX11_sum.cls ≠ "java/lang/invoke/VarHandle" ∧ (parseMethodDescriptor yX11_sum.desc).map (fun d => d.parameters.length) = some 1 := by decide +kernel
theorem kd_X11_sums : yX11_sums.cls = RX11 ∧ yX11_sums.cls ≠ "java/lang/invoke/MethodHandle" ∧ yX11_sums.cls ≠ "java/lang/invoke/VarHandle" ∧ (parseMethodDescriptor yX11_sums.desc).map (fun d => d.parameters.length) = some 1 := by decide +kernel
theorem kd_X11_market : yX11_market.cls = RX11 ∧ yX11_market.cls ≠ "java/lang/invoke/MethodHandle" ∧ yX11_market.cls ≠ "java/lang/invoke/VarHandle" ∧ (parseMethodDescriptor yX11_market.desc).map (fun d => d.parameters.length) = some 1 := by decide +kernel
theorem kd_X11_chain : yX11_chain.cls = RX11 ∧ yX11_chain.cls ≠ "java/lang/invoke/MethodHandle" ∧ yX11_chain.cls ≠ "java/lang/invoke/VarHandle" ∧ (parseMethodDescriptor yX11_chain.desc).map (fun d => d.parameters.length) = some 1 := by decide +kernel
theorem kd_X11_longest : yX11_longest.cls = RX11 ∧ yX11_longest.cls ≠ "java/lang/invoke/MethodHandle" ∧ yX11_longest.cls ≠ "java/lang/invoke/VarHandle" ∧ (parseMethodDescriptor yX11_longest.desc).map (fun d => d.parameters.length) = some 0 := by decide +kernel
theorem kd_X11_turners : yX11_turners.cls = RX11 ∧ yX11_turners.cls ≠ "java/lang/invoke/MethodHandle" ∧ yX11_turners.cls ≠ "java/lang/invoke/VarHandle" ∧ (parseMethodDescriptor yX11_turners.desc).map (fun d => d.parameters.length) = some 1 := by decide +kernel
theorem kd_X11_yes : yX11_yes.cls = RX11 ∧ yX11_yes.cls ≠ "java/lang/invoke/MethodHandle" ∧ yX11_yes.cls ≠ "java/lang/invoke/VarHandle" ∧ (parseMethodDescriptor yX11_yes.desc).map (fun d => d.parameters.length) = some 1 := by decide +kernel
theorem kd_X11_moods : yX11_moods.cls = RX11 ∧ yX11_moods.cls ≠ "java/lang/invoke/MethodHandle" ∧ yX11_moods.cls ≠ "java/lang/invoke/VarHandle" ∧ (parseMethodDescriptor yX11_moods.desc).map (fun d => d.parameters.length) = some 2 := by decide +kernel
theorem kd_X11_likely : yX11_likely.cls = RX11 ∧ yX11_likely.cls ≠ "java/lang/invoke/MethodHandle" ∧ yX11_likely.cls ≠ "java/lang/invoke/VarHandle" ∧ (parseMethodDescriptor yX11_likely.desc).map (fun d => d.parameters.length) = some 2 := by decide +kernel
theorem kd_X11_mean : yX11_mean.cls = RX11 ∧ yX11_mean.cls ≠ "java/lang/invoke/MethodHandle" ∧ yX11_mean.cls ≠ "java/lang/invoke/VarHandle" ∧ (parseMethodDescriptor yX11_mean.desc).map (fun d => d.parameters.length) = some 1 := by decide +kernel
theorem kd_X11_turn : yX11_turn.cls = RX11 ∧ yX11_turn.cls ≠ "java/lang/invoke/MethodHandle" ∧ yX11_turn.cls ≠ "java/lang/invoke/VarHandle" ∧ (parseMethodDescriptor yX11_turn.desc).map (fun d => d.parameters.length) = some 2 := by decide +kernel
theorem kd_X11_guard : yX11_guard.cls = RX11 ∧ yX11_guard.cls ≠ "java/lang/invoke/MethodHandle" ∧ yX11_guard.cls ≠ "java/lang/invoke/VarHandle" ∧ (parseMethodDescriptor yX11_guard.desc).map (fun d => d.parameters.length) = some 1 := by decide +kernel
theorem kd_X11_law : yX11_law.cls = RX11 ∧ yX11_law.cls ≠ "java/lang/invoke/MethodHandle" ∧ yX11_law.cls ≠ "java/lang/invoke/VarHandle" ∧ (parseMethodDescriptor yX11_law.desc).map (fun d => d.parameters.length) = some 1 := by decide +kernel
theorem kd_X11_bestRate : yX11_bestRate.cls = RX11 ∧ yX11_bestRate.cls ≠ "java/lang/invoke/MethodHandle" ∧ yX11_bestRate.cls ≠ "java/lang/invoke/VarHandle" ∧ (parseMethodDescriptor yX11_bestRate.desc).map (fun d => d.parameters.length) = some 0 := by decide +kernel
theorem kd_X11_bestOpen : yX11_bestOpen.cls = RX11 ∧ yX11_bestOpen.cls ≠ "java/lang/invoke/MethodHandle" ∧ yX11_bestOpen.cls ≠ "java/lang/invoke/VarHandle" ∧ (parseMethodDescriptor yX11_bestOpen.desc).map (fun d => d.parameters.length) = some 0 := by decide +kernel
theorem kd_X11_purse : yX11_purse.cls = RX11 ∧ yX11_purse.cls ≠ "java/lang/invoke/MethodHandle" ∧ yX11_purse.cls ≠ "java/lang/invoke/VarHandle" ∧ (parseMethodDescriptor yX11_purse.desc).map (fun d => d.parameters.length) = some 1 := by decide +kernel
theorem kd_X11_two : yX11_two.cls = RX11 ∧ yX11_two.cls ≠ "java/lang/invoke/MethodHandle" ∧ yX11_two.cls ≠ "java/lang/invoke/VarHandle" ∧ (parseMethodDescriptor yX11_two.desc).map (fun d => d.parameters.length) = some 2 := by decide +kernel
theorem kd_X11_without : yX11_without.cls = RX11 ∧ yX11_without.cls ≠ "java/lang/invoke/MethodHandle" ∧ yX11_without.cls ≠ "java/lang/invoke/VarHandle" ∧ (parseMethodDescriptor yX11_without.desc).map (fun d => d.parameters.length) = some 0 := by decide +kernel
theorem kd_X11_again : yX11_again.cls = RX11 ∧ yX11_again.cls ≠ "java/lang/invoke/MethodHandle" ∧ yX11_again.cls ≠ "java/lang/invoke/VarHandle" ∧ (parseMethodDescriptor yX11_again.desc).map (fun d => d.parameters.length) = some 1 := by decide +kernel
theorem kd_X11_explained : yX11_explained.cls = RX11 ∧ yX11_explained.cls ≠ "java/lang/invoke/MethodHandle" ∧ yX11_explained.cls ≠ "java/lang/invoke/VarHandle" ∧ (parseMethodDescriptor yX11_explained.desc).map (fun d => d.parameters.length) = some 2 := by decide +kernel
theorem kd_X11_forged : yX11_forged.cls = RX11 ∧ yX11_forged.cls ≠ "java/lang/invoke/MethodHandle" ∧ yX11_forged.cls ≠ "java/lang/invoke/VarHandle" ∧ (parseMethodDescriptor yX11_forged.desc).map (fun d => d.parameters.length) = some 1 := by decide +kernel
theorem kd_X11_judge : yX11_judge.cls = RX11 ∧ yX11_judge.cls ≠ "java/lang/invoke/MethodHandle" ∧ yX11_judge.cls ≠ "java/lang/invoke/VarHandle" ∧ (parseMethodDescriptor yX11_judge.desc).map (fun d => d.parameters.length) = some 2 := by decide +kernel
theorem kd_X11_seeds : yX11_seeds.cls = RX11 ∧ yX11_seeds.cls ≠ "java/lang/invoke/MethodHandle" ∧ yX11_seeds.cls ≠ "java/lang/invoke/VarHandle" ∧ (parseMethodDescriptor yX11_seeds.desc).map (fun d => d.parameters.length) = some 3 := by decide +kernel
theorem kd_X11_image : yX11_image.cls = RX11 ∧ yX11_image.cls ≠ "java/lang/invoke/MethodHandle" ∧ yX11_image.cls ≠ "java/lang/invoke/VarHandle" ∧ (parseMethodDescriptor yX11_image.desc).map (fun d => d.parameters.length) = some 0 := by decide +kernel
theorem kd_X11_restore : yX11_restore.cls = RX11 ∧ yX11_restore.cls ≠ "java/lang/invoke/MethodHandle" ∧ yX11_restore.cls ≠ "java/lang/invoke/VarHandle" ∧ (parseMethodDescriptor yX11_restore.desc).map (fun d => d.parameters.length) = some 0 := by decide +kernel
theorem kd_X11_count : yX11_count.cls = RX11 ∧ yX11_count.cls ≠ "java/lang/invoke/MethodHandle" ∧ yX11_count.cls ≠ "java/lang/invoke/VarHandle" ∧ (parseMethodDescriptor yX11_count.desc).map (fun d => d.parameters.length) = some 1 := by decide +kernel
theorem kd_X11_keep : yX11_keep.cls = RX11 ∧ yX11_keep.cls ≠ "java/lang/invoke/MethodHandle" ∧ yX11_keep.cls ≠ "java/lang/invoke/VarHandle" ∧ (parseMethodDescriptor yX11_keep.desc).map (fun d => d.parameters.length) = some 4 := by decide +kernel
theorem kd_X11_row : yX11_row.cls = RX11 ∧ yX11_row.cls ≠ "java/lang/invoke/MethodHandle" ∧ yX11_row.cls ≠ "java/lang/invoke/VarHandle" ∧ (parseMethodDescriptor yX11_row.desc).map (fun d => d.parameters.length) = some 3 := by decide +kernel
theorem kd_X11_put : yX11_put.cls = RX11 ∧ yX11_put.cls ≠ "java/lang/invoke/MethodHandle" ∧ yX11_put.cls ≠ "java/lang/invoke/VarHandle" ∧ (parseMethodDescriptor yX11_put.desc).map (fun d => d.parameters.length) = some 3 := by decide +kernel
theorem kd_X11_element : yX11_element.cls = RX11 ∧ yX11_element.cls ≠ "java/lang/invoke/MethodHandle" ∧ yX11_element.cls ≠ "java/lang/invoke/VarHandle" ∧ (parseMethodDescriptor yX11_element.desc).map (fun d => d.parameters.length) = some 2 := by decide +kernel
theorem kd_X11_copy : yX11_copy.cls = RX11 ∧ yX11_copy.cls ≠ "java/lang/invoke/MethodHandle" ∧ yX11_copy.cls ≠ "java/lang/invoke/VarHandle" ∧ (parseMethodDescriptor yX11_copy.desc).map (fun d => d.parameters.length) = some 5 := by decide +kernel
theorem kd_X11_cost : yX11_cost.cls = RX11 ∧ yX11_cost.cls ≠ "java/lang/invoke/MethodHandle" ∧ yX11_cost.cls ≠ "java/lang/invoke/VarHandle" ∧ (parseMethodDescriptor yX11_cost.desc).map (fun d => d.parameters.length) = some 1 := by decide +kernel
theorem kd_X11_toss : yX11_toss.cls = RX11 ∧ yX11_toss.cls ≠ "java/lang/invoke/MethodHandle" ∧ yX11_toss.cls ≠ "java/lang/invoke/VarHandle" ∧ (parseMethodDescriptor yX11_toss.desc).map (fun d => d.parameters.length) = some 1 := by decide +kernel
theorem kd_X11_isOut : yX11_isOut.cls ≠ "java/lang/invoke/MethodHandle" ∧ yX11_isOut.cls ≠ "java/lang/invoke/VarHandle" ∧ (parseMethodDescriptor yX11_isOut.desc).map (fun d => d.parameters.length) = some 3 := by decide +kernel
theorem kd_X11_sideOf : yX11_sideOf.cls ≠ "java/lang/invoke/MethodHandle" ∧ yX11_sideOf.cls ≠ "java/lang/invoke/VarHandle" ∧ (parseMethodDescriptor yX11_sideOf.desc).map (fun d => d.parameters.length) = some 1 := by decide +kernel
theorem kd_X11_isNobody : yX11_isNobody.cls = RX11 ∧ yX11_isNobody.cls ≠ "java/lang/invoke/MethodHandle" ∧ yX11_isNobody.cls ≠ "java/lang/invoke/VarHandle" ∧ (parseMethodDescriptor yX11_isNobody.desc).map (fun d => d.parameters.length) = some 1 := by decide +kernel
theorem kd_X11_isNoFact : yX11_isNoFact.cls = RX11 ∧ yX11_isNoFact.cls ≠ "java/lang/invoke/MethodHandle" ∧ yX11_isNoFact.cls ≠ "java/lang/invoke/VarHandle" ∧ (parseMethodDescriptor yX11_isNoFact.desc).map (fun d => d.parameters.length) = some 1 := by decide +kernel
theorem kd_X11_isNoShelf : yX11_isNoShelf.cls ≠ "java/lang/invoke/MethodHandle" ∧ yX11_isNoShelf.cls ≠ "java/lang/invoke/VarHandle" ∧ (parseMethodDescriptor yX11_isNoShelf.desc).map (fun d => d.parameters.length) = some 1 := by decide +kernel
theorem kd_X11_everybody : yX11_everybody.cls = RX11 ∧ yX11_everybody.cls ≠ "java/lang/invoke/MethodHandle" ∧ yX11_everybody.cls ≠ "java/lang/invoke/VarHandle" ∧ (parseMethodDescriptor yX11_everybody.desc).map (fun d => d.parameters.length) = some 0 := by decide +kernel
theorem kd_X11_shelfRefusal : yX11_shelfRefusal.cls = RX11 ∧ yX11_shelfRefusal.cls ≠ "java/lang/invoke/MethodHandle" ∧ yX11_shelfRefusal.cls ≠ "java/lang/invoke/VarHandle" ∧ (parseMethodDescriptor yX11_shelfRefusal.desc).map (fun d => d.parameters.length) = some 2 := by decide +kernel
theorem kd_X11_toldChoicesRefusal : yX11_toldChoicesRefusal.cls = RX11 ∧ yX11_toldChoicesRefusal.cls ≠ "java/lang/invoke/MethodHandle" ∧ yX11_toldChoicesRefusal.cls ≠ "java/lang/invoke/VarHandle" ∧ (parseMethodDescriptor yX11_toldChoicesRefusal.desc).map (fun d => d.parameters.length) = some 1 := by decide +kernel
theorem kd_X11_whoDiffers : yX11_whoDiffers.cls ≠ "java/lang/invoke/MethodHandle" ∧ yX11_whoDiffers.cls ≠ "java/lang/invoke/VarHandle" ∧ (parseMethodDescriptor yX11_whoDiffers.desc).map (fun d => d.parameters.length) = some 2 := by decide +kernel
theorem kd_X11_expectedYes : yX11_expectedYes.cls = RX11 ∧ yX11_expectedYes.cls ≠ "java/lang/invoke/MethodHandle" ∧ yX11_expectedYes.cls ≠ "java/lang/invoke/VarHandle" ∧ (parseMethodDescriptor yX11_expectedYes.desc).map (fun d => d.parameters.length) = some 2 := by decide +kernel
theorem kd_X11_oddsOf : yX11_oddsOf.cls = RX11 ∧ yX11_oddsOf.cls ≠ "java/lang/invoke/MethodHandle" ∧ yX11_oddsOf.cls ≠ "java/lang/invoke/VarHandle" ∧ (parseMethodDescriptor yX11_oddsOf.desc).map (fun d => d.parameters.length) = some 1 := by decide +kernel
theorem kd_X11_commonDivisor : yX11_commonDivisor.cls ≠ "java/lang/invoke/MethodHandle" ∧ yX11_commonDivisor.cls ≠ "java/lang/invoke/VarHandle" ∧ (parseMethodDescriptor yX11_commonDivisor.desc).map (fun d => d.parameters.length) = some 2 := by decide +kernel
theorem kd_X11_isBestWait : yX11_isBestWait.cls ≠ "java/lang/invoke/MethodHandle" ∧ yX11_isBestWait.cls ≠ "java/lang/invoke/VarHandle" ∧ (parseMethodDescriptor yX11_isBestWait.desc).map (fun d => d.parameters.length) = some 3 := by decide +kernel
theorem kd_X11_dayBegunAlike : yX11_dayBegunAlike.cls = RX11 ∧ yX11_dayBegunAlike.cls ≠ "java/lang/invoke/MethodHandle" ∧ yX11_dayBegunAlike.cls ≠ "java/lang/invoke/VarHandle" ∧ (parseMethodDescriptor yX11_dayBegunAlike.desc).map (fun d => d.parameters.length) = some 1 := by decide +kernel
theorem kd_X11_firstMisfit : yX11_firstMisfit.cls = RX11 ∧ yX11_firstMisfit.cls ≠ "java/lang/invoke/MethodHandle" ∧ yX11_firstMisfit.cls ≠ "java/lang/invoke/VarHandle" ∧ (parseMethodDescriptor yX11_firstMisfit.desc).map (fun d => d.parameters.length) = some 3 := by decide +kernel
theorem kd_X11_oneOfKind : yX11_oneOfKind.cls ≠ "java/lang/invoke/MethodHandle" ∧ yX11_oneOfKind.cls ≠ "java/lang/invoke/VarHandle" ∧ (parseMethodDescriptor yX11_oneOfKind.desc).map (fun d => d.parameters.length) = some 2 := by decide +kernel
theorem kd_X12_init : yX12_init.cls = RX12 ∧ yX12_init.cls ≠ "java/lang/invoke/MethodHandle" ∧ yX12_init.cls ≠ "java/lang/invoke/VarHandle" ∧ (parseMethodDescriptor yX12_init.desc).map (fun d => d.parameters.length) = some 0 := by decide +kernel
theorem kd_X12_thrown : yX12_thrown.cls = RX12 ∧ yX12_thrown.cls ≠ "java/lang/invoke/MethodHandle" ∧ yX12_thrown.cls ≠ "java/lang/invoke/VarHandle" ∧ (parseMethodDescriptor yX12_thrown.desc).map (fun d => d.parameters.length) = some 0 := by decide +kernel
theorem kd_X12_in : yX12_in.cls ≠ "java/lang/invoke/MethodHandle" ∧ yX12_in.cls ≠ "java/lang/invoke/VarHandle" ∧ (parseMethodDescriptor yX12_in.desc).map (fun d => d.parameters.length) = some 3 := by decide +kernel
theorem kd_X12_isCase : yX12_isCase.cls ≠ "java/lang/invoke/MethodHandle" ∧ yX12_isCase.cls ≠ "java/lang/invoke/VarHandle" ∧ (parseMethodDescriptor yX12_isCase.desc).map (fun d => d.parameters.length) = some 1 := by decide +kernel
theorem kd_X12_isHour : yX12_isHour.cls ≠ "java/lang/invoke/MethodHandle" ∧ yX12_isHour.cls ≠ "java/lang/invoke/VarHandle" ∧ (parseMethodDescriptor yX12_isHour.desc).map (fun d => d.parameters.length) = some 1 := by decide +kernel
theorem kd_X12_isOne : yX12_isOne.cls = RX12 ∧ yX12_isOne.cls ≠ "java/lang/invoke/MethodHandle" ∧ yX12_isOne.cls ≠ "java/lang/invoke/VarHandle" ∧ (parseMethodDescriptor yX12_isOne.desc).map (fun d => d.parameters.length) = some 1 := by decide +kernel
theorem kd_X12_plainly : yX12_plainly.cls ≠ "java/lang/invoke/MethodHandle" ∧ yX12_plainly.cls ≠ "java/lang/invoke/VarHandle" ∧ (parseMethodDescriptor yX12_plainly.desc).map (fun d => d.parameters.length) = some 1 := by decide +kernel
theorem kd_X12_atLeast : yX12_atLeast.cls ≠ "java/lang/invoke/MethodHandle" ∧ yX12_atLeast.cls ≠ "java/lang/invoke/VarHandle" ∧ (parseMethodDescriptor yX12_atLeast.desc).map (fun d => d.parameters.length) = some 1 := by decide +kernel
theorem kd_X12_dueOf : yX12_dueOf.cls = RX12 ∧ yX12_dueOf.cls ≠ "java/lang/invoke/MethodHandle" ∧ yX12_dueOf.cls ≠ "java/lang/invoke/VarHandle" ∧ (parseMethodDescriptor yX12_dueOf.desc).map (fun d => d.parameters.length) = some 1 := by decide +kernel
theorem kd_X12_sumOf : yX12_sumOf.cls = RX12 ∧ yX12_sumOf.cls ≠ "java/lang/invoke/MethodHandle" ∧ yX12_sumOf.cls ≠ "java/lang/invoke/VarHandle" ∧ (parseMethodDescriptor yX12_sumOf.desc).map (fun d => d.parameters.length) = some 3 := by decide +kernel
theorem kd_X12_strengthOf : yX12_strengthOf.cls = RX12 ∧ yX12_strengthOf.cls ≠ "java/lang/invoke/MethodHandle" ∧ yX12_strengthOf.cls ≠ "java/lang/invoke/VarHandle" ∧ (parseMethodDescriptor yX12_strengthOf.desc).map (fun d => d.parameters.length) = some 2 := by decide +kernel
theorem kd_X12_priceOf : yX12_priceOf.cls = RX12 ∧ yX12_priceOf.cls ≠ "java/lang/invoke/MethodHandle" ∧ yX12_priceOf.cls ≠ "java/lang/invoke/VarHandle" ∧ (parseMethodDescriptor yX12_priceOf.desc).map (fun d => d.parameters.length) = some 2 := by decide +kernel
theorem kd_X12_buys : yX12_buys.cls = RX12 ∧ yX12_buys.cls ≠ "java/lang/invoke/MethodHandle" ∧ yX12_buys.cls ≠ "java/lang/invoke/VarHandle" ∧ (parseMethodDescriptor yX12_buys.desc).map (fun d => d.parameters.length) = some 3 := by decide +kernel
theorem kd_X12_fadeOf : yX12_fadeOf.cls = RX12 ∧ yX12_fadeOf.cls ≠ "java/lang/invoke/MethodHandle" ∧ yX12_fadeOf.cls ≠ "java/lang/invoke/VarHandle" ∧ (parseMethodDescriptor yX12_fadeOf.desc).map (fun d => d.parameters.length) = some 1 := by decide +kernel
theorem kd_X12_sideOf : yX12_sideOf.cls ≠ "java/lang/invoke/MethodHandle" ∧ yX12_sideOf.cls ≠ "java/lang/invoke/VarHandle" ∧ (parseMethodDescriptor yX12_sideOf.desc).map (fun d => d.parameters.length) = some 1 := by decide +kernel
theorem kd_X12_factsBy : yX12_factsBy.cls = RX12 ∧ yX12_factsBy.cls ≠ "java/lang/invoke/MethodHandle" ∧ yX12_factsBy.cls ≠ "java/lang/invoke/VarHandle" ∧ (parseMethodDescriptor yX12_factsBy.desc).map (fun d => d.parameters.length) = some 2 := by decide +kernel
theorem kd_X12_caseOf : yX12_caseOf.cls = RX12 ∧ yX12_caseOf.cls ≠ "java/lang/invoke/MethodHandle" ∧ yX12_caseOf.cls ≠ "java/lang/invoke/VarHandle" ∧ (parseMethodDescriptor yX12_caseOf.desc).map (fun d => d.parameters.length) = some 1 := by decide +kernel
theorem kd_X12_leftOf : yX12_leftOf.cls = RX12 ∧ yX12_leftOf.cls ≠ "java/lang/invoke/MethodHandle" ∧ yX12_leftOf.cls ≠ "java/lang/invoke/VarHandle" ∧ (parseMethodDescriptor yX12_leftOf.desc).map (fun d => d.parameters.length) = some 2 := by decide +kernel
theorem kd_X12_isThere : yX12_isThere.cls = RX12 ∧ yX12_isThere.cls ≠ "java/lang/invoke/MethodHandle" ∧ yX12_isThere.cls ≠ "java/lang/invoke/VarHandle" ∧ (parseMethodDescriptor yX12_isThere.desc).map (fun d => d.parameters.length) = some 2 := by decide +kernel
theorem kd_X12_comeForSale : yX12_comeForSale.cls = RX12 ∧ yX12_comeForSale.cls ≠ "java/lang/invoke/MethodHandle" ∧ yX12_comeForSale.cls ≠ "java/lang/invoke/VarHandle" ∧ (parseMethodDescriptor yX12_comeForSale.desc).map (fun d => d.parameters.length) = some 2 := by decide +kernel
theorem kd_X12_askedFor : yX12_askedFor.cls = RX12 ∧ yX12_askedFor.cls ≠ "java/lang/invoke/MethodHandle" ∧ yX12_askedFor.cls ≠ "java/lang/invoke/VarHandle" ∧ (parseMethodDescriptor yX12_askedFor.desc).map (fun d => d.parameters.length) = some 2 := by decide +kernel
theorem kd_X12_mayBuy : yX12_mayBuy.cls = RX12 ∧ yX12_mayBuy.cls ≠ "java/lang/invoke/MethodHandle" ∧ yX12_mayBuy.cls ≠ "java/lang/invoke/VarHandle" ∧ (parseMethodDescriptor yX12_mayBuy.desc).map (fun d => d.parameters.length) = some 4 := by decide +kernel
theorem kd_X12_choose : yX12_choose.cls = RX12 ∧ yX12_choose.cls ≠ "java/lang/invoke/MethodHandle" ∧ yX12_choose.cls ≠ "java/lang/invoke/VarHandle" ∧ (parseMethodDescriptor yX12_choose.desc).map (fun d => d.parameters.length) = some 2 := by decide +kernel
theorem kd_X12_day : yX12_day.cls = RX12 ∧ yX12_day.cls ≠ "java/lang/invoke/MethodHandle" ∧ yX12_day.cls ≠ "java/lang/invoke/VarHandle" ∧ (parseMethodDescriptor yX12_day.desc).map (fun d => d.parameters.length) = some 0 := by decide +kernel
theorem kd_X12_told : yX12_told.cls ≠ "java/lang/invoke/MethodHandle" ∧ yX12_told.cls ≠ "java/lang/invoke/VarHandle" ∧ (parseMethodDescriptor yX12_told.desc).map (fun d => d.parameters.length) = some 1 := by decide +kernel
theorem kd_X12_carry : yX12_carry.cls = RX12 ∧ yX12_carry.cls ≠ "java/lang/invoke/MethodHandle" ∧ yX12_carry.cls ≠ "java/lang/invoke/VarHandle" ∧ (parseMethodDescriptor yX12_carry.desc).map (fun d => d.parameters.length) = some 1 := by decide +kernel
theorem kd_X12_carryAll : yX12_carryAll.cls = RX12 ∧ yX12_carryAll.cls ≠ "java/lang/invoke/MethodHandle" ∧ yX12_carryAll.cls ≠ "java/lang/invoke/VarHandle" ∧ (parseMethodDescriptor yX12_carryAll.desc).map (fun d => d.parameters.length) = some 2 := by decide +kernel
theorem kd_X12_open : yX12_open.cls = RX12 ∧ yX12_open.cls ≠ "java/lang/invoke/MethodHandle" ∧ yX12_open.cls ≠ "java/lang/invoke/VarHandle" ∧ (parseMethodDescriptor yX12_open.desc).map (fun d => d.parameters.length) = some 0 := by decide +kernel
theorem kd_X12_close : yX12_close.cls = RX12 ∧ yX12_close.cls ≠ "java/lang/invoke/MethodHandle" ∧ yX12_close.cls ≠ "java/lang/invoke/VarHandle" ∧ (parseMethodDescriptor yX12_close.desc).map (fun d => d.parameters.length) = some 0 := by decide +kernel
theorem kd_X12_image : yX12_image.cls = RX12 ∧ yX12_image.cls ≠ "java/lang/invoke/MethodHandle" ∧ yX12_image.cls ≠ "java/lang/invoke/VarHandle" ∧ (parseMethodDescriptor yX12_image.desc).map (fun d => d.parameters.length) = some 0 := by decide +kernel
theorem kd_X12_restore : yX12_restore.cls = RX12 ∧ yX12_restore.cls ≠ "java/lang/invoke/MethodHandle" ∧ yX12_restore.cls ≠ "java/lang/invoke/VarHandle" ∧ (parseMethodDescriptor yX12_restore.desc).map (fun d => d.parameters.length) = some 0 := by decide +kernel
theorem kd_X12_here : yX12_here.cls = RX12 ∧ yX12_here.cls ≠ "java/lang/invoke/MethodHandle" ∧ yX12_here.cls ≠ "java/lang/invoke/VarHandle" ∧ (parseMethodDescriptor yX12_here.desc).map (fun d => d.parameters.length) = some 0 := by decide +kernel
theorem kd_X12_readDigits : yX12_readDigits.cls = RX12 ∧ yX12_readDigits.cls ≠ "java/lang/invoke/MethodHandle" ∧ yX12_readDigits.cls ≠ "java/lang/invoke/VarHandle" ∧ (parseMethodDescriptor yX12_readDigits.desc).map (fun d => d.parameters.length) = some 1 := by decide +kernel
theorem kd_X12_readSign : yX12_readSign.cls = RX12 ∧ yX12_readSign.cls ≠ "java/lang/invoke/MethodHandle" ∧ yX12_readSign.cls ≠ "java/lang/invoke/VarHandle" ∧ (parseMethodDescriptor yX12_readSign.desc).map (fun d => d.parameters.length) = some 0 := by decide +kernel
theorem kd_X12_isLetter : yX12_isLetter.cls ≠ "java/lang/invoke/MethodHandle" ∧ yX12_isLetter.cls ≠ "java/lang/invoke/VarHandle" ∧ (parseMethodDescriptor yX12_isLetter.desc).map (fun d => d.parameters.length) = some 1 := by decide +kernel
theorem kd_X12_readNumbers : yX12_readNumbers.cls = RX12 ∧ yX12_readNumbers.cls ≠ "java/lang/invoke/MethodHandle" ∧ yX12_readNumbers.cls ≠ "java/lang/invoke/VarHandle" ∧ (parseMethodDescriptor yX12_readNumbers.desc).map (fun d => d.parameters.length) = some 2 := by decide +kernel
theorem kd_X12_readStatement : yX12_readStatement.cls = RX12 ∧ yX12_readStatement.cls ≠ "java/lang/invoke/MethodHandle" ∧ yX12_readStatement.cls ≠ "java/lang/invoke/VarHandle" ∧ (parseMethodDescriptor yX12_readStatement.desc).map (fun d => d.parameters.length) = some 0 := by decide +kernel
theorem kd_X12_factComes : yX12_factComes.cls = RX12 ∧ yX12_factComes.cls ≠ "java/lang/invoke/MethodHandle" ∧ yX12_factComes.cls ≠ "java/lang/invoke/VarHandle" ∧ (parseMethodDescriptor yX12_factComes.desc).map (fun d => d.parameters.length) = some 3 := by decide +kernel
theorem kd_X12_oneComes : yX12_oneComes.cls = RX12 ∧ yX12_oneComes.cls ≠ "java/lang/invoke/MethodHandle" ∧ yX12_oneComes.cls ≠ "java/lang/invoke/VarHandle" ∧ (parseMethodDescriptor yX12_oneComes.desc).map (fun d => d.parameters.length) = some 6 := by decide +kernel
theorem kd_X12_turnKin : yX12_turnKin.cls = RX12 ∧ yX12_turnKin.cls ≠ "java/lang/invoke/MethodHandle" ∧ yX12_turnKin.cls ≠ "java/lang/invoke/VarHandle" ∧ (parseMethodDescriptor yX12_turnKin.desc).map (fun d => d.parameters.length) = some 2 := by decide +kernel
theorem kd_X12_plantComes : yX12_plantComes.cls = RX12 ∧ yX12_plantComes.cls ≠ "java/lang/invoke/MethodHandle" ∧ yX12_plantComes.cls ≠ "java/lang/invoke/VarHandle" ∧ (parseMethodDescriptor yX12_plantComes.desc).map (fun d => d.parameters.length) = some 5 := by decide +kernel
theorem kd_X12_oneTold : yX12_oneTold.cls = RX12 ∧ yX12_oneTold.cls ≠ "java/lang/invoke/MethodHandle" ∧ yX12_oneTold.cls ≠ "java/lang/invoke/VarHandle" ∧ (parseMethodDescriptor yX12_oneTold.desc).map (fun d => d.parameters.length) = some 1 := by decide +kernel
theorem kd_X12_plantTold : yX12_plantTold.cls = RX12 ∧ yX12_plantTold.cls ≠ "java/lang/invoke/MethodHandle" ∧ yX12_plantTold.cls ≠ "java/lang/invoke/VarHandle" ∧ (parseMethodDescriptor yX12_plantTold.desc).map (fun d => d.parameters.length) = some 1 := by decide +kernel
theorem kd_X12_comesTold : yX12_comesTold.cls = RX12 ∧ yX12_comesTold.cls ≠ "java/lang/invoke/MethodHandle" ∧ yX12_comesTold.cls ≠ "java/lang/invoke/VarHandle" ∧ (parseMethodDescriptor yX12_comesTold.desc).map (fun d => d.parameters.length) = some 1 := by decide +kernel
theorem kd_X12_town : yX12_town.cls = RX12 ∧ yX12_town.cls ≠ "java/lang/invoke/MethodHandle" ∧ yX12_town.cls ≠ "java/lang/invoke/VarHandle" ∧ (parseMethodDescriptor yX12_town.desc).map (fun d => d.parameters.length) = some 1 := by decide +kernel
theorem kd_X12_person : yX12_person.cls = RX12 ∧ yX12_person.cls ≠ "java/lang/invoke/MethodHandle" ∧ yX12_person.cls ≠ "java/lang/invoke/VarHandle" ∧ (parseMethodDescriptor yX12_person.desc).map (fun d => d.parameters.length) = some 2 := by decide +kernel
theorem kd_X12_weighs : yX12_weighs.cls = RX12 ∧ yX12_weighs.cls ≠ "java/lang/invoke/MethodHandle" ∧ yX12_weighs.cls ≠ "java/lang/invoke/VarHandle" ∧ (parseMethodDescriptor yX12_weighs.desc).map (fun d => d.parameters.length) = some 3 := by decide +kernel
theorem kd_X12_strength : yX12_strength.cls = RX12 ∧ yX12_strength.cls ≠ "java/lang/invoke/MethodHandle" ∧ yX12_strength.cls ≠ "java/lang/invoke/VarHandle" ∧ (parseMethodDescriptor yX12_strength.desc).map (fun d => d.parameters.length) = some 2 := by decide +kernel
theorem kd_X12_price : yX12_price.cls = RX12 ∧ yX12_price.cls ≠ "java/lang/invoke/MethodHandle" ∧ yX12_price.cls ≠ "java/lang/invoke/VarHandle" ∧ (parseMethodDescriptor yX12_price.desc).map (fun d => d.parameters.length) = some 2 := by decide +kernel
theorem kd_X12_wrongKept : yX12_wrongKept.cls = RX12 ∧ yX12_wrongKept.cls ≠ "java/lang/invoke/MethodHandle" ∧ yX12_wrongKept.cls ≠ "java/lang/invoke/VarHandle" ∧ (parseMethodDescriptor yX12_wrongKept.desc).map (fun d => d.parameters.length) = some 1 := by decide +kernel
theorem kd_X12_comes : yX12_comes.cls = RX12 ∧ yX12_comes.cls ≠ "java/lang/invoke/MethodHandle" ∧ yX12_comes.cls ≠ "java/lang/invoke/VarHandle" ∧ (parseMethodDescriptor yX12_comes.desc).map (fun d => d.parameters.length) = some 5 := by decide +kernel
theorem kd_X12_leaves : yX12_leaves.cls = RX12 ∧ yX12_leaves.cls ≠ "java/lang/invoke/MethodHandle" ∧ yX12_leaves.cls ≠ "java/lang/invoke/VarHandle" ∧ (parseMethodDescriptor yX12_leaves.desc).map (fun d => d.parameters.length) = some 1 := by decide +kernel
theorem kd_X12_mood : yX12_mood.cls = RX12 ∧ yX12_mood.cls ≠ "java/lang/invoke/MethodHandle" ∧ yX12_mood.cls ≠ "java/lang/invoke/VarHandle" ∧ (parseMethodDescriptor yX12_mood.desc).map (fun d => d.parameters.length) = some 2 := by decide +kernel
theorem kd_X12_coins : yX12_coins.cls = RX12 ∧ yX12_coins.cls ≠ "java/lang/invoke/MethodHandle" ∧ yX12_coins.cls ≠ "java/lang/invoke/VarHandle" ∧ (parseMethodDescriptor yX12_coins.desc).map (fun d => d.parameters.length) = some 2 := by decide +kernel
theorem kd_X12_fact : yX12_fact.cls = RX12 ∧ yX12_fact.cls ≠ "java/lang/invoke/MethodHandle" ∧ yX12_fact.cls ≠ "java/lang/invoke/VarHandle" ∧ (parseMethodDescriptor yX12_fact.desc).map (fun d => d.parameters.length) = some 3 := by decide +kernel
theorem kd_X12_about : yX12_about.cls = RX12 ∧ yX12_about.cls ≠ "java/lang/invoke/MethodHandle" ∧ yX12_about.cls ≠ "java/lang/invoke/VarHandle" ∧ (parseMethodDescriptor yX12_about.desc).map (fun d => d.parameters.length) = some 2 := by decide +kernel
theorem kd_X12_chance : yX12_chance.cls = RX12 ∧ yX12_chance.cls ≠ "java/lang/invoke/MethodHandle" ∧ yX12_chance.cls ≠ "java/lang/invoke/VarHandle" ∧ (parseMethodDescriptor yX12_chance.desc).map (fun d => d.parameters.length) = some 2 := by decide +kernel
theorem kd_X12_kin : yX12_kin.cls = RX12 ∧ yX12_kin.cls ≠ "java/lang/invoke/MethodHandle" ∧ yX12_kin.cls ≠ "java/lang/invoke/VarHandle" ∧ (parseMethodDescriptor yX12_kin.desc).map (fun d => d.parameters.length) = some 2 := by decide +kernel
theorem kd_X12_set : yX12_set.cls = RX12 ∧ yX12_set.cls ≠ "java/lang/invoke/MethodHandle" ∧ yX12_set.cls ≠ "java/lang/invoke/VarHandle" ∧ (parseMethodDescriptor yX12_set.desc).map (fun d => d.parameters.length) = some 2 := by decide +kernel
theorem kd_X12_fate : yX12_fate.cls = RX12 ∧ yX12_fate.cls ≠ "java/lang/invoke/MethodHandle" ∧ yX12_fate.cls ≠ "java/lang/invoke/VarHandle" ∧ (parseMethodDescriptor yX12_fate.desc).map (fun d => d.parameters.length) = some 2 := by decide +kernel
theorem kd_X12_sum : yX12_sum.cls = RX12 ∧ yX12_sum.cls ≠ "java/lang/invoke/MethodHandle" ∧ yX12_sum.cls ≠ "java/lang/invoke/VarHandle" ∧ (parseMethodDescriptor yX12_sum.desc).map (fun d => d.parameters.length) = some 1 := by decide +kernel
theorem kd_X12_chose : yX12_chose.cls = RX12 ∧ yX12_chose.cls ≠ "java/lang/invoke/MethodHandle" ∧ yX12_chose.cls ≠ "java/lang/invoke/VarHandle" ∧ (parseMethodDescriptor yX12_chose.desc).map (fun d => d.parameters.length) = some 1 := by decide +kernel
theorem kd_X12_soldMany : yX12_soldMany.cls = RX12 ∧ yX12_soldMany.cls ≠ "java/lang/invoke/MethodHandle" ∧ yX12_soldMany.cls ≠ "java/lang/invoke/VarHandle" ∧ (parseMethodDescriptor yX12_soldMany.desc).map (fun d => d.parameters.length) = some 0 := by decide +kernel
theorem kd_X12_paidInAll : yX12_paidInAll.cls = RX12 ∧ yX12_paidInAll.cls ≠ "java/lang/invoke/MethodHandle" ∧ yX12_paidInAll.cls ≠ "java/lang/invoke/VarHandle" ∧ (parseMethodDescriptor yX12_paidInAll.desc).map (fun d => d.parameters.length) = some 0 := by decide +kernel
theorem kd_X12_regretMany : yX12_regretMany.cls = RX12 ∧ yX12_regretMany.cls ≠ "java/lang/invoke/MethodHandle" ∧ yX12_regretMany.cls ≠ "java/lang/invoke/VarHandle" ∧ (parseMethodDescriptor yX12_regretMany.desc).map (fun d => d.parameters.length) = some 0 := by decide +kernel
theorem kd_X12_sums : yX12_sums.cls = RX12 ∧ yX12_sums.cls ≠ "java/lang/invoke/MethodHandle" ∧ yX12_sums.cls ≠ "java/lang/invoke/VarHandle" ∧ (parseMethodDescriptor yX12_sums.desc).map (fun d => d.parameters.length) = some 1 := by decide +kernel
theorem kd_X12_market : yX12_market.cls = RX12 ∧ yX12_market.cls ≠ "java/lang/invoke/MethodHandle" ∧ yX12_market.cls ≠ "java/lang/invoke/VarHandle" ∧ (parseMethodDescriptor yX12_market.desc).map (fun d => d.parameters.length) = some 1 := by decide +kernel
theorem kd_X12_chainOf : yX12_chainOf.cls = RX12 ∧ yX12_chainOf.cls ≠ "java/lang/invoke/MethodHandle" ∧ yX12_chainOf.cls ≠ "java/lang/invoke/VarHandle" ∧ (parseMethodDescriptor yX12_chainOf.desc).map (fun d => d.parameters.length) = some 1 := by decide +kernel
theorem kd_X12_chain : yX12_chain.cls = RX12 ∧ yX12_chain.cls ≠ "java/lang/invoke/MethodHandle" ∧ yX12_chain.cls ≠ "java/lang/invoke/VarHandle" ∧ (parseMethodDescriptor yX12_chain.desc).map (fun d => d.parameters.length) = some 1 := by decide +kernel
theorem kd_X12_longest : yX12_longest.cls = RX12 ∧ yX12_longest.cls ≠ "java/lang/invoke/MethodHandle" ∧ yX12_longest.cls ≠ "java/lang/invoke/VarHandle" ∧ (parseMethodDescriptor yX12_longest.desc).map (fun d => d.parameters.length) = some 0 := by decide +kernel
theorem kd_X12_choiceOf : yX12_choiceOf.cls = RX12 ∧ yX12_choiceOf.cls ≠ "java/lang/invoke/MethodHandle" ∧ yX12_choiceOf.cls ≠ "java/lang/invoke/VarHandle" ∧ (parseMethodDescriptor yX12_choiceOf.desc).map (fun d => d.parameters.length) = some 1 := by decide +kernel
theorem kd_X12_turners : yX12_turners.cls = RX12 ∧ yX12_turners.cls ≠ "java/lang/invoke/MethodHandle" ∧ yX12_turners.cls ≠ "java/lang/invoke/VarHandle" ∧ (parseMethodDescriptor yX12_turners.desc).map (fun d => d.parameters.length) = some 1 := by decide +kernel
theorem kd_X12_yes : yX12_yes.cls = RX12 ∧ yX12_yes.cls ≠ "java/lang/invoke/MethodHandle" ∧ yX12_yes.cls ≠ "java/lang/invoke/VarHandle" ∧ (parseMethodDescriptor yX12_yes.desc).map (fun d => d.parameters.length) = some 1 := by decide +kernel
theorem kd_X12_moods : yX12_moods.cls = RX12 ∧ yX12_moods.cls ≠ "java/lang/invoke/MethodHandle" ∧ yX12_moods.cls ≠ "java/lang/invoke/VarHandle" ∧ (parseMethodDescriptor yX12_moods.desc).map (fun d => d.parameters.length) = some 2 := by decide +kernel
theorem kd_X12_divisor : yX12_divisor.cls ≠ "java/lang/invoke/MethodHandle" ∧ yX12_divisor.cls ≠ "java/lang/invoke/VarHandle" ∧ (parseMethodDescriptor yX12_divisor.desc).map (fun d => d.parameters.length) = some 2 := by decide +kernel
theorem kd_X12_partOf : yX12_partOf.cls ≠ "java/lang/invoke/MethodHandle" ∧ yX12_partOf.cls ≠ "java/lang/invoke/VarHandle" ∧ (parseMethodDescriptor yX12_partOf.desc).map (fun d => d.parameters.length) = some 3 := by decide +kernel
theorem kd_X12_likelyPart : yX12_likelyPart.cls = RX12 ∧ yX12_likelyPart.cls ≠ "java/lang/invoke/MethodHandle" ∧ yX12_likelyPart.cls ≠ "java/lang/invoke/VarHandle" ∧ (parseMethodDescriptor yX12_likelyPart.desc).map (fun d => d.parameters.length) = some 2 := by decide +kernel
theorem kd_X12_likely : yX12_likely.cls = RX12 ∧ yX12_likely.cls ≠ "java/lang/invoke/MethodHandle" ∧ yX12_likely.cls ≠ "java/lang/invoke/VarHandle" ∧ (parseMethodDescriptor yX12_likely.desc).map (fun d => d.parameters.length) = some 2 := by decide +kernel
theorem kd_X12_mean : yX12_mean.cls = RX12 ∧ yX12_mean.cls ≠ "java/lang/invoke/MethodHandle" ∧ yX12_mean.cls ≠ "java/lang/invoke/VarHandle" ∧ (parseMethodDescriptor yX12_mean.desc).map (fun d => d.parameters.length) = some 1 := by decide +kernel
theorem kd_X12_allYes : yX12_allYes.cls = RX12 ∧ yX12_allYes.cls ≠ "java/lang/invoke/MethodHandle" ∧ yX12_allYes.cls ≠ "java/lang/invoke/VarHandle" ∧ (parseMethodDescriptor yX12_allYes.desc).map (fun d => d.parameters.length) = some 1 := by decide +kernel
theorem kd_X12_turn : yX12_turn.cls = RX12 ∧ yX12_turn.cls ≠ "java/lang/invoke/MethodHandle" ∧ yX12_turn.cls ≠ "java/lang/invoke/VarHandle" ∧ (parseMethodDescriptor yX12_turn.desc).map (fun d => d.parameters.length) = some 2 := by decide +kernel
theorem kd_X12_takeChoices : yX12_takeChoices.cls = RX12 ∧ yX12_takeChoices.cls ≠ "java/lang/invoke/MethodHandle" ∧ yX12_takeChoices.cls ≠ "java/lang/invoke/VarHandle" ∧ (parseMethodDescriptor yX12_takeChoices.desc).map (fun d => d.parameters.length) = some 0 := by decide +kernel
theorem kd_X12_otherMany : yX12_otherMany.cls = RX12 ∧ yX12_otherMany.cls ≠ "java/lang/invoke/MethodHandle" ∧ yX12_otherMany.cls ≠ "java/lang/invoke/VarHandle" ∧ (parseMethodDescriptor yX12_otherMany.desc).map (fun d => d.parameters.length) = some 1 := by decide +kernel
theorem kd_X12_guard : yX12_guard.cls = RX12 ∧ yX12_guard.cls ≠ "java/lang/invoke/MethodHandle" ∧ yX12_guard.cls ≠ "java/lang/invoke/VarHandle" ∧ (parseMethodDescriptor yX12_guard.desc).map (fun d => d.parameters.length) = some 1 := by decide +kernel
theorem kd_X12_law : yX12_law.cls = RX12 ∧ yX12_law.cls ≠ "java/lang/invoke/MethodHandle" ∧ yX12_law.cls ≠ "java/lang/invoke/VarHandle" ∧ (parseMethodDescriptor yX12_law.desc).map (fun d => d.parameters.length) = some 1 := by decide +kernel
theorem kd_X12_bestRate : yX12_bestRate.cls = RX12 ∧ yX12_bestRate.cls ≠ "java/lang/invoke/MethodHandle" ∧ yX12_bestRate.cls ≠ "java/lang/invoke/VarHandle" ∧ (parseMethodDescriptor yX12_bestRate.desc).map (fun d => d.parameters.length) = some 0 := by decide +kernel
theorem kd_X12_bestOpen : yX12_bestOpen.cls = RX12 ∧ yX12_bestOpen.cls ≠ "java/lang/invoke/MethodHandle" ∧ yX12_bestOpen.cls ≠ "java/lang/invoke/VarHandle" ∧ (parseMethodDescriptor yX12_bestOpen.desc).map (fun d => d.parameters.length) = some 0 := by decide +kernel
theorem kd_X12_purse : yX12_purse.cls = RX12 ∧ yX12_purse.cls ≠ "java/lang/invoke/MethodHandle" ∧ yX12_purse.cls ≠ "java/lang/invoke/VarHandle" ∧ (parseMethodDescriptor yX12_purse.desc).map (fun d => d.parameters.length) = some 1 := by decide +kernel
theorem kd_X12_later : yX12_later.cls ≠ "java/lang/invoke/MethodHandle" ∧ yX12_later.cls ≠ "java/lang/invoke/VarHandle" ∧ (parseMethodDescriptor yX12_later.desc).map (fun d => d.parameters.length) = some 2 := by decide +kernel
theorem kd_X12_two : yX12_two.cls = RX12 ∧ yX12_two.cls ≠ "java/lang/invoke/MethodHandle" ∧ yX12_two.cls ≠ "java/lang/invoke/VarHandle" ∧ (parseMethodDescriptor yX12_two.desc).map (fun d => d.parameters.length) = some 2 := by decide +kernel
theorem kd_X12_without : yX12_without.cls = RX12 ∧ yX12_without.cls ≠ "java/lang/invoke/MethodHandle" ∧ yX12_without.cls ≠ "java/lang/invoke/VarHandle" ∧ (parseMethodDescriptor yX12_without.desc).map (fun d => d.parameters.length) = some 0 := by decide +kernel
theorem kd_X12_keepMoods : yX12_keepMoods.cls = RX12 ∧ yX12_keepMoods.cls ≠ "java/lang/invoke/MethodHandle" ∧ yX12_keepMoods.cls ≠ "java/lang/invoke/VarHandle" ∧ (parseMethodDescriptor yX12_keepMoods.desc).map (fun d => d.parameters.length) = some 1 := by decide +kernel
theorem kd_X12_likeAhead : yX12_likeAhead.cls = RX12 ∧ yX12_likeAhead.cls ≠ "java/lang/invoke/MethodHandle" ∧ yX12_likeAhead.cls ≠ "java/lang/invoke/VarHandle" ∧ (parseMethodDescriptor yX12_likeAhead.desc).map (fun d => d.parameters.length) = some 1 := by decide +kernel
theorem kd_X12_again : yX12_again.cls = RX12 ∧ yX12_again.cls ≠ "java/lang/invoke/MethodHandle" ∧ yX12_again.cls ≠ "java/lang/invoke/VarHandle" ∧ (parseMethodDescriptor yX12_again.desc).map (fun d => d.parameters.length) = some 1 := by decide +kernel
theorem kd_X12_skipped : yX12_skipped.cls = RX12 ∧ yX12_skipped.cls ≠ "java/lang/invoke/MethodHandle" ∧ yX12_skipped.cls ≠ "java/lang/invoke/VarHandle" ∧ (parseMethodDescriptor yX12_skipped.desc).map (fun d => d.parameters.length) = some 1 := by decide +kernel
theorem kd_X12_fitsUpTo : yX12_fitsUpTo.cls = RX12 ∧ yX12_fitsUpTo.cls ≠ "java/lang/invoke/MethodHandle" ∧ yX12_fitsUpTo.cls ≠ "java/lang/invoke/VarHandle" ∧ (parseMethodDescriptor yX12_fitsUpTo.desc).map (fun d => d.parameters.length) = some 1 := by decide +kernel
theorem kd_X12_wrongChoices : yX12_wrongChoices.cls = RX12 ∧ yX12_wrongChoices.cls ≠ "java/lang/invoke/MethodHandle" ∧ yX12_wrongChoices.cls ≠ "java/lang/invoke/VarHandle" ∧ (parseMethodDescriptor yX12_wrongChoices.desc).map (fun d => d.parameters.length) = some 1 := by decide +kernel
theorem kd_X12_explain : yX12_explain.cls = RX12 ∧ yX12_explain.cls ≠ "java/lang/invoke/MethodHandle" ∧ yX12_explain.cls ≠ "java/lang/invoke/VarHandle" ∧ (parseMethodDescriptor yX12_explain.desc).map (fun d => d.parameters.length) = some 1 := by decide +kernel
theorem kd_X12_explained : yX12_explained.cls = RX12 ∧ yX12_explained.cls ≠ "java/lang/invoke/MethodHandle" ∧ yX12_explained.cls ≠ "java/lang/invoke/VarHandle" ∧ (parseMethodDescriptor yX12_explained.desc).map (fun d => d.parameters.length) = some 2 := by decide +kernel
theorem kd_X12_forged : yX12_forged.cls = RX12 ∧ yX12_forged.cls ≠ "java/lang/invoke/MethodHandle" ∧ yX12_forged.cls ≠ "java/lang/invoke/VarHandle" ∧ (parseMethodDescriptor yX12_forged.desc).map (fun d => d.parameters.length) = some 1 := by decide +kernel
theorem kd_X12_judge : yX12_judge.cls = RX12 ∧ yX12_judge.cls ≠ "java/lang/invoke/MethodHandle" ∧ yX12_judge.cls ≠ "java/lang/invoke/VarHandle" ∧ (parseMethodDescriptor yX12_judge.desc).map (fun d => d.parameters.length) = some 2 := by decide +kernel
theorem kd_X12_seeds : yX12_seeds.cls = RX12 ∧ yX12_seeds.cls ≠ "java/lang/invoke/MethodHandle" ∧ yX12_seeds.cls ≠ "java/lang/invoke/VarHandle" ∧ (parseMethodDescriptor yX12_seeds.desc).map (fun d => d.parameters.length) = some 3 := by decide +kernel
theorem kd_X12_count : yX12_count.cls = RX12 ∧ yX12_count.cls ≠ "java/lang/invoke/MethodHandle" ∧ yX12_count.cls ≠ "java/lang/invoke/VarHandle" ∧ (parseMethodDescriptor yX12_count.desc).map (fun d => d.parameters.length) = some 1 := by decide +kernel
theorem kd_X12_keep : yX12_keep.cls = RX12 ∧ yX12_keep.cls ≠ "java/lang/invoke/MethodHandle" ∧ yX12_keep.cls ≠ "java/lang/invoke/VarHandle" ∧ (parseMethodDescriptor yX12_keep.desc).map (fun d => d.parameters.length) = some 4 := by decide +kernel
theorem kd_X12_wrongRow : yX12_wrongRow.cls = RX12 ∧ yX12_wrongRow.cls ≠ "java/lang/invoke/MethodHandle" ∧ yX12_wrongRow.cls ≠ "java/lang/invoke/VarHandle" ∧ (parseMethodDescriptor yX12_wrongRow.desc).map (fun d => d.parameters.length) = some 1 := by decide +kernel
theorem kd_X12_narrowed : yX12_narrowed.cls ≠ "java/lang/invoke/MethodHandle" ∧ yX12_narrowed.cls ≠ "java/lang/invoke/VarHandle" ∧ (parseMethodDescriptor yX12_narrowed.desc).map (fun d => d.parameters.length) = some 2 := by decide +kernel
theorem kd_X12_row : yX12_row.cls = RX12 ∧ yX12_row.cls ≠ "java/lang/invoke/MethodHandle" ∧ yX12_row.cls ≠ "java/lang/invoke/VarHandle" ∧ (parseMethodDescriptor yX12_row.desc).map (fun d => d.parameters.length) = some 3 := by decide +kernel
theorem kd_X12_put : yX12_put.cls = RX12 ∧ yX12_put.cls ≠ "java/lang/invoke/MethodHandle" ∧ yX12_put.cls ≠ "java/lang/invoke/VarHandle" ∧ (parseMethodDescriptor yX12_put.desc).map (fun d => d.parameters.length) = some 3 := by decide +kernel
theorem kd_X12_element : yX12_element.cls = RX12 ∧ yX12_element.cls ≠ "java/lang/invoke/MethodHandle" ∧ yX12_element.cls ≠ "java/lang/invoke/VarHandle" ∧ (parseMethodDescriptor yX12_element.desc).map (fun d => d.parameters.length) = some 2 := by decide +kernel
theorem kd_X12_copy : yX12_copy.cls = RX12 ∧ yX12_copy.cls ≠ "java/lang/invoke/MethodHandle" ∧ yX12_copy.cls ≠ "java/lang/invoke/VarHandle" ∧ (parseMethodDescriptor yX12_copy.desc).map (fun d => d.parameters.length) = some 5 := by decide +kernel
theorem kd_X12_costOf : yX12_costOf.cls ≠ "java/lang/invoke/MethodHandle" ∧ yX12_costOf.cls ≠ "java/lang/invoke/VarHandle" ∧ (parseMethodDescriptor yX12_costOf.desc).map (fun d => d.parameters.length) = some 2 := by decide +kernel
theorem kd_X12_cost : yX12_cost.cls = RX12 ∧ yX12_cost.cls ≠ "java/lang/invoke/MethodHandle" ∧ yX12_cost.cls ≠ "java/lang/invoke/VarHandle" ∧ (parseMethodDescriptor yX12_cost.desc).map (fun d => d.parameters.length) = some 1 := by decide +kernel
theorem kd_X12_toss : yX12_toss.cls = RX12 ∧ yX12_toss.cls ≠ "java/lang/invoke/MethodHandle" ∧ yX12_toss.cls ≠ "java/lang/invoke/VarHandle" ∧ (parseMethodDescriptor yX12_toss.desc).map (fun d => d.parameters.length) = some 1 := by decide +kernel
theorem kd_J6_compare_7cf53 : yJ6_compare_7cf53.cls ≠ "java/lang/invoke/MethodHandle" ∧ yJ6_compare_7cf53.cls ≠ "java/lang/invoke/VarHandle" ∧ (parseMethodDescriptor yJ6_compare_7cf53.desc).map (fun d => d.parameters.length) = some 2 := by decide +kernel
theorem kd_J6_bitCount_0f7a4 : yJ6_bitCount_0f7a4.cls ≠ "java/lang/invoke/MethodHandle" ∧ yJ6_bitCount_0f7a4.cls ≠ "java/lang/invoke/VarHandle" ∧ (parseMethodDescriptor yJ6_bitCount_0f7a4.desc).map (fun d => d.parameters.length) = some 1 := by decide +kernel
theorem kd_L_element : yL_element.cls ≠ "java/lang/invoke/MethodHandle" ∧ yL_element.cls ≠ "java/lang/invoke/VarHandle" ∧ (parseMethodDescriptor yL_element.desc).map (fun d => d.parameters.length) = some 4 := by decide +kernel
