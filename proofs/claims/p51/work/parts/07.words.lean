theorem tG_s1 {w : Cond} (i : Nat) (h : tables_1_1[i]? = some w) (g : goodWord w = true) : w ∈ tG := tG_in (List.mem_append_right _ (List.mem_append_left _ (List.mem_of_getElem? h))) g
theorem tG_s2 {w : Cond} (i : Nat) (h : tables_1_2[i]? = some w) (g : goodWord w = true) : w ∈ tG := tG_in (List.mem_append_right _ (List.mem_append_right _ (List.mem_append_left _ (List.mem_of_getElem? h)))) g
theorem tG_s3 {w : Cond} (i : Nat) (h : tables_1_3[i]? = some w) (g : goodWord w = true) : w ∈ tG := tG_in (List.mem_append_right _ (List.mem_append_right _ (List.mem_append_right _ (List.mem_append_left _ (List.mem_of_getElem? h))))) g
theorem tG_s4 {w : Cond} (i : Nat) (h : tables_1_4[i]? = some w) (g : goodWord w = true) : w ∈ tG := tG_in (List.mem_append_right _ (List.mem_append_right _ (List.mem_append_right _ (List.mem_append_right _ (List.mem_of_getElem? h))))) g
theorem tG_pv {w : Cond} (i : Nat) (h : (k2_sels lw_privs)[i]? = some w) (g : goodWord w = true) : w ∈ tG := tG_in (List.mem_append_left _ (List.mem_of_getElem? h)) g
theorem wd_0 : Cond.initialized RL ∈ tG := tG_s1 0 rfl rfl
theorem wd_1 : Cond.initialized RX11 ∈ tG := tG_s1 1 rfl rfl
theorem wd_2 : Cond.initialized RX10 ∈ tG := tG_s1 2 rfl rfl
theorem wd_3 : Cond.initialized RX7 ∈ tG := tG_s1 3 rfl rfl
theorem wd_4 : Cond.initialized RX2 ∈ tG := tG_s1 4 rfl rfl
theorem wd_5 : Cond.initialized RX8 ∈ tG := tG_s1 5 rfl rfl
theorem wd_6 : Cond.initialized RX0 ∈ tG := tG_s1 6 rfl rfl
theorem wd_7 : Cond.initialized RX4 ∈ tG := tG_s1 7 rfl rfl
theorem wd_8 : Cond.initialized RX9 ∈ tG := tG_s1 8 rfl rfl
theorem wd_9 : Cond.initialized RX5 ∈ tG := tG_s1 9 rfl rfl
theorem wd_10 : Cond.initialized RX6 ∈ tG := tG_s1 10 rfl rfl
theorem wd_11 : Cond.initialized RX1 ∈ tG := tG_s1 11 rfl rfl
theorem wd_12 : Cond.initialized RX3 ∈ tG := tG_s1 12 rfl rfl
theorem wd_13 : Cond.initialized "java/lang/System" ∈ tG := tG_s1 13 rfl rfl
theorem wd_14 : Cond.initialized "java/lang/String" ∈ tG := tG_s1 14 rfl rfl
theorem wd_15 : Cond.initialized "java/lang/StringLatin1" ∈ tG := tG_s1 15 rfl rfl
theorem wd_16 : Cond.initialized "jdk/internal/util/Preconditions" ∈ tG := tG_s1 16 rfl rfl
theorem wd_17 : Cond.initialized "java/lang/StringUTF16" ∈ tG := tG_s1 17 rfl rfl
theorem wd_18 : Cond.initialized "java/lang/Math" ∈ tG := tG_s1 18 rfl rfl
theorem wd_19 : Cond.initialized RJ6 ∈ tG := tG_s1 19 rfl rfl
theorem wd_20 : Cond.initialized "java/lang/Double" ∈ tG := tG_s1 20 rfl rfl
theorem wd_21 : Cond.classLink RL 11 RL ∈ tG := tG_s1 21 rfl rfl
theorem wd_22 : Cond.instantiable RL 24 ∈ tG := tG_s1 22 rfl rfl
theorem wd_23 : Cond.methodLink RL 191 yL_init ∈ tG := tG_s1 23 rfl rfl
theorem wd_24 : Cond.instanceMethod yL_init ∈ tG := tG_s1 24 rfl rfl
theorem wd_25 : Cond.code yL_init cL_init 1 none ∈ tG := tG_s1 25 rfl rfl
theorem wd_26 : Cond.methodLink RL 1 objectInit ∈ tG := tG_s1 26 rfl rfl
theorem wd_27 : Cond.instanceMethod objectInit ∈ tG := tG_s1 27 rfl rfl
theorem wd_28 : Cond.code objectInit ⟨#[0xb1]⟩ 1 none ∈ tG := tG_s1 28 rfl rfl
theorem wd_29 : Cond.classLink RL 7 RX11 ∈ tG := tG_s1 29 rfl rfl
theorem wd_30 : Cond.instantiable RX11 11 ∈ tG := tG_s1 30 rfl rfl
theorem wd_31 : Cond.methodLink RL 9 yX11_init ∈ tG := tG_s1 31 rfl rfl
theorem wd_32 : Cond.instanceMethod yX11_init ∈ tG := tG_s1 32 rfl rfl
theorem wd_33 : Cond.code yX11_init cX11_init 3 none ∈ tG := tG_s1 33 rfl rfl
theorem wd_34 : Cond.methodLink RX11 3 objectInit ∈ tG := tG_s1 34 rfl rfl
theorem wd_35 : Cond.classLink RX11 9 RX10 ∈ tG := tG_s1 35 rfl rfl
theorem wd_36 : Cond.instantiable RX10 19 ∈ tG := tG_s1 36 rfl rfl
theorem wd_37 : Cond.methodLink RX11 11 yX10_init ∈ tG := tG_s1 37 rfl rfl
theorem wd_38 : Cond.instanceMethod yX10_init ∈ tG := tG_s1 38 rfl rfl
theorem wd_39 : Cond.code yX10_init cX10_init 3 none ∈ tG := tG_s1 39 rfl rfl
theorem wd_40 : Cond.methodLink RX10 3 objectInit ∈ tG := tG_s1 40 rfl rfl
theorem wd_41 : Cond.classLink RX10 15 RX7 ∈ tG := tG_s1 41 rfl rfl
theorem wd_43 : Cond.instantiable RX7 2 ∈ tG := tG_s1 43 rfl rfl
theorem wd_44 : Cond.methodLink RX10 21 yX7_init ∈ tG := tG_s1 44 rfl rfl
theorem wd_45 : Cond.instanceMethod yX7_init ∈ tG := tG_s1 45 rfl rfl
theorem wd_46 : Cond.code yX7_init cX7_init 3 none ∈ tG := tG_s1 46 rfl rfl
theorem wd_47 : Cond.methodLink RX7 1 objectInit ∈ tG := tG_s1 47 rfl rfl
theorem wd_48 : Cond.fieldLink RX7 7 "ThoughtBetterOf$Plain" "kind" "I" ∈ tG := tG_s1 48 rfl rfl
theorem wd_49 : Cond.fieldLink RX11 88 "ThoughtBetterOf$Plain" "kind" "I" ∈ tG := tG_s1 49 rfl rfl
theorem wd_50 : Cond.fieldLink RX7 13 "ThoughtBetterOf$Plain" "figure" "I" ∈ tG := tG_s1 50 rfl rfl
theorem wd_51 : Cond.fieldLink RX4 11 "ThoughtBetterOf$Firm" "figure" "I" ∈ tG := tG_s1 51 rfl rfl
theorem wd_52 : Cond.sameField "ThoughtBetterOf$Firm" "ThoughtBetterOf$Plain" "figure" "I" ∈ tG := tG_s1 52 rfl rfl
theorem wd_53 : Cond.fieldLink RX11 91 "ThoughtBetterOf$Plain" "figure" "I" ∈ tG := tG_s1 53 rfl rfl
theorem wd_58 : Cond.superclass RX7 "java/lang/Object" ∈ tG := tG_s1 58 rfl rfl
theorem wd_59 : Cond.fieldLink RX10 9 "ThoughtBetterOf$Town" "people" "I" ∈ tG := tG_s1 59 rfl rfl
theorem wd_60 : Cond.fieldLink RX2 50 "ThoughtBetterOf$Town" "people" "I" ∈ tG := tG_s1 60 rfl rfl
theorem wd_61 : Cond.fieldLink RX11 185 "ThoughtBetterOf$Town" "people" "I" ∈ tG := tG_s1 61 rfl rfl
theorem wd_62 : Cond.fieldLink RX10 17 "ThoughtBetterOf$Town" "who" "[LThoughtBetterOf$Plain;" ∈ tG := tG_s1 62 rfl rfl
theorem wd_63 : Cond.fieldLink RX2 55 "ThoughtBetterOf$Town" "who" "[LThoughtBetterOf$Plain;" ∈ tG := tG_s1 63 rfl rfl
theorem wd_64 : Cond.fieldLink RX11 85 "ThoughtBetterOf$Town" "who" "[LThoughtBetterOf$Plain;" ∈ tG := tG_s1 64 rfl rfl
theorem wd_65 : Cond.fieldLink RX10 24 "ThoughtBetterOf$Town" "kase" "[I" ∈ tG := tG_s1 65 rfl rfl
theorem wd_66 : Cond.fieldLink RX11 94 "ThoughtBetterOf$Town" "kase" "[I" ∈ tG := tG_s1 66 rfl rfl
theorem wd_67 : Cond.fieldLink RX2 103 "ThoughtBetterOf$Town" "kase" "[I" ∈ tG := tG_s1 67 rfl rfl
theorem wd_68 : Cond.fieldLink RX10 28 "ThoughtBetterOf$Town" "hour" "[I" ∈ tG := tG_s1 68 rfl rfl
theorem wd_69 : Cond.fieldLink RX2 59 "ThoughtBetterOf$Town" "hour" "[I" ∈ tG := tG_s1 69 rfl rfl
theorem wd_70 : Cond.fieldLink RX11 97 "ThoughtBetterOf$Town" "hour" "[I" ∈ tG := tG_s1 70 rfl rfl
theorem wd_71 : Cond.fieldLink RX10 31 "ThoughtBetterOf$Town" "mood" "[I" ∈ tG := tG_s1 71 rfl rfl
theorem wd_72 : Cond.fieldLink RX11 107 "ThoughtBetterOf$Town" "mood" "[I" ∈ tG := tG_s1 72 rfl rfl
theorem wd_73 : Cond.fieldLink RX2 100 "ThoughtBetterOf$Town" "mood" "[I" ∈ tG := tG_s1 73 rfl rfl
theorem wd_74 : Cond.fieldLink RX10 34 "ThoughtBetterOf$Town" "coins" "[I" ∈ tG := tG_s1 74 rfl rfl
theorem wd_75 : Cond.fieldLink RX11 104 "ThoughtBetterOf$Town" "coins" "[I" ∈ tG := tG_s1 75 rfl rfl
theorem wd_76 : Cond.fieldLink RX2 150 "ThoughtBetterOf$Town" "coins" "[I" ∈ tG := tG_s1 76 rfl rfl
theorem wd_77 : Cond.fieldLink RX10 37 "ThoughtBetterOf$Town" "facts" "I" ∈ tG := tG_s1 77 rfl rfl
theorem wd_78 : Cond.fieldLink RX11 196 "ThoughtBetterOf$Town" "facts" "I" ∈ tG := tG_s1 78 rfl rfl
theorem wd_79 : Cond.fieldLink RX10 40 "ThoughtBetterOf$Town" "factCase" "[I" ∈ tG := tG_s1 79 rfl rfl
theorem wd_80 : Cond.fieldLink RX10 43 "ThoughtBetterOf$Town" "factWeight" "[I" ∈ tG := tG_s1 80 rfl rfl
theorem wd_81 : Cond.fieldLink RX10 46 "ThoughtBetterOf$Town" "factHour" "[I" ∈ tG := tG_s1 81 rfl rfl
theorem wd_82 : Cond.fieldLink RX10 49 "ThoughtBetterOf$Town" "factChance" "[I" ∈ tG := tG_s1 82 rfl rfl
theorem wd_83 : Cond.fieldLink RX11 157 "ThoughtBetterOf$Town" "factChance" "[I" ∈ tG := tG_s1 83 rfl rfl
theorem wd_84 : Cond.fieldLink RX10 52 "ThoughtBetterOf$Town" "plants" "I" ∈ tG := tG_s1 84 rfl rfl
theorem wd_85 : Cond.fieldLink RX2 68 "ThoughtBetterOf$Town" "plants" "I" ∈ tG := tG_s1 85 rfl rfl
theorem wd_86 : Cond.fieldLink RX11 222 "ThoughtBetterOf$Town" "plants" "I" ∈ tG := tG_s1 86 rfl rfl
theorem wd_87 : Cond.fieldLink RX10 55 "ThoughtBetterOf$Town" "plantCase" "[I" ∈ tG := tG_s1 87 rfl rfl
theorem wd_88 : Cond.fieldLink RX2 153 "ThoughtBetterOf$Town" "plantCase" "[I" ∈ tG := tG_s1 88 rfl rfl
theorem wd_89 : Cond.fieldLink RX11 219 "ThoughtBetterOf$Town" "plantCase" "[I" ∈ tG := tG_s1 89 rfl rfl
theorem wd_90 : Cond.fieldLink RX10 58 "ThoughtBetterOf$Town" "plantSide" "[I" ∈ tG := tG_s1 90 rfl rfl
theorem wd_91 : Cond.fieldLink RX2 71 "ThoughtBetterOf$Town" "plantSide" "[I" ∈ tG := tG_s1 91 rfl rfl
theorem wd_92 : Cond.fieldLink RX10 61 "ThoughtBetterOf$Town" "plantStrength" "[I" ∈ tG := tG_s1 92 rfl rfl
theorem wd_93 : Cond.fieldLink RX2 74 "ThoughtBetterOf$Town" "plantStrength" "[I" ∈ tG := tG_s1 93 rfl rfl
theorem wd_94 : Cond.fieldLink RX11 216 "ThoughtBetterOf$Town" "plantStrength" "[I" ∈ tG := tG_s1 94 rfl rfl
theorem wd_95 : Cond.fieldLink RX10 64 "ThoughtBetterOf$Town" "plantPrice" "[I" ∈ tG := tG_s1 95 rfl rfl
theorem wd_96 : Cond.fieldLink RX2 144 "ThoughtBetterOf$Town" "plantPrice" "[I" ∈ tG := tG_s1 96 rfl rfl
theorem wd_97 : Cond.fieldLink RX10 67 "ThoughtBetterOf$Town" "plantHour" "[I" ∈ tG := tG_s1 97 rfl rfl
theorem wd_98 : Cond.fieldLink RX2 77 "ThoughtBetterOf$Town" "plantHour" "[I" ∈ tG := tG_s1 98 rfl rfl
theorem wd_99 : Cond.fieldLink RX10 70 "ThoughtBetterOf$Town" "kinBits" "[I" ∈ tG := tG_s1 99 rfl rfl
theorem wd_100 : Cond.fieldLink RX10 73 "ThoughtBetterOf$Town" "rule" "[I" ∈ tG := tG_s1 100 rfl rfl
theorem wd_101 : Cond.fieldLink RX2 80 "ThoughtBetterOf$Town" "rule" "[I" ∈ tG := tG_s1 101 rfl rfl
theorem wd_102 : Cond.fieldLink RX11 121 "ThoughtBetterOf$Town" "rule" "[I" ∈ tG := tG_s1 102 rfl rfl
theorem wd_141 : Cond.superclass RX10 "java/lang/Object" ∈ tG := tG_s1 141 rfl rfl
theorem wd_142 : Cond.arrayClass .int ∈ tG := tG_s1 142 rfl rfl
theorem wd_143 : Cond.classLink RX11 26 RX2 ∈ tG := tG_s1 143 rfl rfl
theorem wd_144 : Cond.instantiable RX2 12 ∈ tG := tG_s1 144 rfl rfl
theorem wd_145 : Cond.methodLink RX11 28 yX2_init ∈ tG := tG_s1 145 rfl rfl
theorem wd_146 : Cond.instanceMethod yX2_init ∈ tG := tG_s1 146 rfl rfl
theorem wd_147 : Cond.code yX2_init cX2_init 2 none ∈ tG := tG_s1 147 rfl rfl
theorem wd_148 : Cond.methodLink RX2 3 objectInit ∈ tG := tG_s1 148 rfl rfl
theorem wd_149 : Cond.fieldLink RX2 9 "ThoughtBetterOf$Day" "town" "LThoughtBetterOf$Town;" ∈ tG := tG_s1 149 rfl rfl
theorem wd_150 : Cond.fieldLink RX2 15 "ThoughtBetterOf$Day" "there" "I" ∈ tG := tG_s1 150 rfl rfl
theorem wd_151 : Cond.fieldLink RX2 19 "ThoughtBetterOf$Day" "due" "[I" ∈ tG := tG_s1 151 rfl rfl
theorem wd_152 : Cond.fieldLink RX2 23 "ThoughtBetterOf$Day" "firstSum" "[I" ∈ tG := tG_s1 152 rfl rfl
theorem wd_153 : Cond.fieldLink RX11 173 "ThoughtBetterOf$Day" "firstSum" "[I" ∈ tG := tG_s1 153 rfl rfl
theorem wd_154 : Cond.fieldLink RX2 26 "ThoughtBetterOf$Day" "choice" "[I" ∈ tG := tG_s1 154 rfl rfl
theorem wd_155 : Cond.fieldLink RX11 193 "ThoughtBetterOf$Day" "choice" "[I" ∈ tG := tG_s1 155 rfl rfl
theorem wd_156 : Cond.fieldLink RX2 29 "ThoughtBetterOf$Day" "bought" "[I" ∈ tG := tG_s1 156 rfl rfl
theorem wd_157 : Cond.fieldLink RX2 32 "ThoughtBetterOf$Day" "paid" "[I" ∈ tG := tG_s1 157 rfl rfl
theorem wd_158 : Cond.fieldLink RX2 35 "ThoughtBetterOf$Day" "side" "[I" ∈ tG := tG_s1 158 rfl rfl
theorem wd_159 : Cond.fieldLink RX11 264 "ThoughtBetterOf$Day" "side" "[I" ∈ tG := tG_s1 159 rfl rfl
theorem wd_160 : Cond.fieldLink RX2 38 "ThoughtBetterOf$Day" "strength" "[I" ∈ tG := tG_s1 160 rfl rfl
theorem wd_161 : Cond.fieldLink RX2 41 "ThoughtBetterOf$Day" "from" "[I" ∈ tG := tG_s1 161 rfl rfl
theorem wd_162 : Cond.fieldLink RX2 44 "ThoughtBetterOf$Day" "fades" "[I" ∈ tG := tG_s1 162 rfl rfl
theorem wd_163 : Cond.fieldLink RX2 47 "ThoughtBetterOf$Day" "buyer" "[I" ∈ tG := tG_s1 163 rfl rfl
theorem wd_188 : Cond.superclass RX2 "java/lang/Object" ∈ tG := tG_s1 188 rfl rfl
theorem wd_189 : Cond.classLink RX11 39 RX7 ∈ tG := tG_s1 189 rfl rfl
theorem wd_190 : Cond.classLink RX11 45 RX8 ∈ tG := tG_s1 190 rfl rfl
theorem wd_192 : Cond.methodLink RX11 51 yX7_init ∈ tG := tG_s1 192 rfl rfl
theorem wd_193 : Cond.instantiable RX8 3 ∈ tG := tG_s1 193 rfl rfl
theorem wd_194 : Cond.methodLink RX11 54 yX8_init ∈ tG := tG_s1 194 rfl rfl
theorem wd_195 : Cond.instanceMethod yX8_init ∈ tG := tG_s1 195 rfl rfl
theorem wd_196 : Cond.code yX8_init cX8_init 1 none ∈ tG := tG_s1 196 rfl rfl
theorem wd_197 : Cond.methodLink RX8 3 objectInit ∈ tG := tG_s1 197 rfl rfl
theorem wd_198 : Cond.fieldLink RX8 9 "ThoughtBetterOf$Row" "sort" "I" ∈ tG := tG_s1 198 rfl rfl
theorem wd_199 : Cond.fieldLink RX11 70 "ThoughtBetterOf$Row" "sort" "I" ∈ tG := tG_s1 199 rfl rfl
theorem wd_200 : Cond.fieldLink RX8 15 "ThoughtBetterOf$Row" "size" "I" ∈ tG := tG_s1 200 rfl rfl
theorem wd_201 : Cond.fieldLink RX10 98 "ThoughtBetterOf$Row" "size" "I" ∈ tG := tG_s1 201 rfl rfl
theorem wd_202 : Cond.fieldLink RX8 18 "ThoughtBetterOf$Row" "cells" "[I" ∈ tG := tG_s1 202 rfl rfl
theorem wd_209 : Cond.superclass RX8 "java/lang/Object" ∈ tG := tG_s1 209 rfl rfl
theorem wd_210 : Cond.classLink RX11 55 "[[I" ∈ tG := tG_s1 210 rfl rfl
theorem wd_212 : Cond.fieldLink RX11 12 "ThoughtBetterOf" "town" "LThoughtBetterOf$Town;" ∈ tG := tG_s1 212 rfl rfl
theorem wd_213 : Cond.fieldLink RX11 16 "ThoughtBetterOf" "trial" "LThoughtBetterOf$Town;" ∈ tG := tG_s1 213 rfl rfl
theorem wd_214 : Cond.fieldLink RX11 19 "ThoughtBetterOf" "pictured" "LThoughtBetterOf$Town;" ∈ tG := tG_s1 214 rfl rfl
theorem wd_215 : Cond.fieldLink RX11 22 "ThoughtBetterOf" "hasImage" "Z" ∈ tG := tG_s1 215 rfl rfl
theorem wd_216 : Cond.fieldLink RX11 31 "ThoughtBetterOf" "day" "LThoughtBetterOf$Day;" ∈ tG := tG_s1 216 rfl rfl
theorem wd_217 : Cond.fieldLink RX11 35 "ThoughtBetterOf" "holds" "[I" ∈ tG := tG_s1 217 rfl rfl
theorem wd_218 : Cond.fieldLink RX11 41 "ThoughtBetterOf" "kept" "[LThoughtBetterOf$Plain;" ∈ tG := tG_s1 218 rfl rfl
theorem wd_219 : Cond.fieldLink RX11 47 "ThoughtBetterOf" "rows" "[LThoughtBetterOf$Row;" ∈ tG := tG_s1 219 rfl rfl
theorem wd_220 : Cond.fieldLink RX11 57 "ThoughtBetterOf" "begun" "[[I" ∈ tG := tG_s1 220 rfl rfl
theorem wd_221 : Cond.fieldLink RX11 60 "ThoughtBetterOf" "coinsOfFirst" "[[I" ∈ tG := tG_s1 221 rfl rfl
theorem wd_222 : Cond.fieldLink RX11 63 "ThoughtBetterOf" "coinsOfOther" "[[I" ∈ tG := tG_s1 222 rfl rfl
theorem wd_245 : Cond.superclass RX11 "java/lang/Object" ∈ tG := tG_s2 5 rfl rfl
theorem wd_246 : Cond.classLink RL 16 "[[I" ∈ tG := tG_s2 6 rfl rfl
theorem wd_247 : Cond.classLink RL 27 "[Z" ∈ tG := tG_s2 7 rfl rfl
theorem wd_249 : Cond.fieldLink RL 10 "ThoughtBetterOfLaw" "o" "LThoughtBetterOf;" ∈ tG := tG_s2 9 rfl rfl
theorem wd_250 : Cond.fieldLink RL 128 "ThoughtBetterOfLaw" "people" "I" ∈ tG := tG_s2 10 rfl rfl
theorem wd_251 : Cond.fieldLink RL 18 "ThoughtBetterOfLaw" "one" "[[I" ∈ tG := tG_s2 11 rfl rfl
theorem wd_252 : Cond.fieldLink RL 78 "ThoughtBetterOfLaw" "facts" "I" ∈ tG := tG_s2 12 rfl rfl
theorem wd_253 : Cond.fieldLink RL 21 "ThoughtBetterOfLaw" "fact" "[[I" ∈ tG := tG_s2 13 rfl rfl
theorem wd_254 : Cond.fieldLink RL 131 "ThoughtBetterOfLaw" "plants" "I" ∈ tG := tG_s2 14 rfl rfl
theorem wd_255 : Cond.fieldLink RL 24 "ThoughtBetterOfLaw" "plant" "[[I" ∈ tG := tG_s2 15 rfl rfl
theorem wd_256 : Cond.fieldLink RL 29 "ThoughtBetterOfLaw" "kin" "[[Z" ∈ tG := tG_s2 16 rfl rfl
theorem wd_257 : Cond.fieldLink RL 33 "ThoughtBetterOfLaw" "open" "I" ∈ tG := tG_s2 17 rfl rfl
theorem wd_258 : Cond.fieldLink RL 37 "ThoughtBetterOfLaw" "fade" "I" ∈ tG := tG_s2 18 rfl rfl
theorem wd_259 : Cond.fieldLink RL 40 "ThoughtBetterOfLaw" "rate" "I" ∈ tG := tG_s2 19 rfl rfl
theorem wd_260 : Cond.fieldLink RL 43 "ThoughtBetterOfLaw" "known" "I" ∈ tG := tG_s2 20 rfl rfl
theorem wd_261 : Cond.fieldLink RL 46 "ThoughtBetterOfLaw" "purses" "[[I" ∈ tG := tG_s2 21 rfl rfl
theorem wd_310 : Cond.superclass RL "java/lang/Object" ∈ tG := tG_s2 70 rfl rfl
theorem wd_311 : Cond.arrayClass .boolean ∈ tG := tG_s2 71 rfl rfl
theorem wd_312 : Cond.methodLink RL 192 yL_holds ∈ tG := tG_s2 72 rfl rfl
theorem wd_314 : Cond.instanceMethod yL_holds ∈ tG := tG_s2 74 rfl rfl
theorem wd_315 : Cond.code yL_holds cL_holds 15 (some .boolean) ∈ tG := tG_s2 75 rfl rfl
theorem wd_316 : Cond.methodLink RL 196 yL_begin ∈ tG := tG_s2 76 rfl rfl
theorem wd_318 : Cond.instanceMethod yL_begin ∈ tG := tG_s2 78 rfl rfl
theorem wd_319 : Cond.code yL_begin cL_begin 10 (some .boolean) ∈ tG := tG_s2 79 rfl rfl
theorem wd_320 : Cond.methodLink RL 147 yL_some ∈ tG := tG_s2 80 rfl rfl
theorem wd_321 : Cond.static yL_some ∈ tG := tG_s2 81 rfl rfl
theorem wd_322 : Cond.code yL_some cL_some 3 (some .int) ∈ tG := tG_s2 82 rfl rfl
theorem wd_323 : Cond.methodLink RL 50 yL_cell ∈ tG := tG_s2 83 rfl rfl
theorem wd_324 : Cond.static yL_cell ∈ tG := tG_s2 84 rfl rfl
theorem wd_325 : Cond.code yL_cell cL_cell 2 (some .int) ∈ tG := tG_s2 85 rfl rfl
theorem wd_326 : Cond.constant RL 49 (790386105) ∈ tG := tG_s2 86 rfl rfl
theorem wd_327 : Cond.constant RL 54 (2147483647) ∈ tG := tG_s2 87 rfl rfl
theorem wd_328 : Cond.methodLink RL 151 yX11_fact ∈ tG := tG_s2 88 rfl rfl
theorem wd_329 : Cond.instanceMethod yX11_fact ∈ tG := tG_s2 89 rfl rfl
theorem wd_330 : Cond.selects RX11 yX11_fact yX11_fact ∈ tG := tG_s2 90 rfl rfl
theorem wd_331 : Cond.code yX11_fact cX11_fact 4 (some .int) ∈ tG := tG_s2 91 rfl rfl
theorem wd_332 : Cond.methodLink RX11 141 yX10_addFact ∈ tG := tG_s2 92 rfl rfl
theorem wd_333 : Cond.instanceMethod yX10_addFact ∈ tG := tG_s2 93 rfl rfl
theorem wd_334 : Cond.selects RX10 yX10_addFact yX10_addFact ∈ tG := tG_s2 94 rfl rfl
theorem wd_335 : Cond.code yX10_addFact cX10_addFact 4 (some .int) ∈ tG := tG_s2 95 rfl rfl
theorem wd_337 : Cond.static yX11_isOut ∈ tG := tG_s2 97 rfl rfl
theorem wd_338 : Cond.code yX11_isOut cX11_isOut 3 (some .boolean) ∈ tG := tG_s2 98 rfl rfl
theorem wd_339 : Cond.methodLink RL 153 yX11_chance ∈ tG := tG_s2 99 rfl rfl
theorem wd_340 : Cond.instanceMethod yX11_chance ∈ tG := tG_s2 100 rfl rfl
theorem wd_341 : Cond.selects RX11 yX11_chance yX11_chance ∈ tG := tG_s2 101 rfl rfl
theorem wd_342 : Cond.code yX11_chance cX11_chance 4 (some .int) ∈ tG := tG_s2 102 rfl rfl
theorem wd_343 : Cond.methodLink RX11 145 yX11_isNoFact ∈ tG := tG_s2 103 rfl rfl
theorem wd_345 : Cond.instanceMethod yX11_isNoFact ∈ tG := tG_s2 105 rfl rfl
theorem wd_346 : Cond.code yX11_isNoFact cX11_isNoFact 2 (some .boolean) ∈ tG := tG_s2 106 rfl rfl
theorem wd_347 : Cond.methodLink RX11 110 yX11_isOut ∈ tG := tG_s2 107 rfl rfl
theorem wd_348 : Cond.methodLink RL 156 yX11_keep ∈ tG := tG_s2 108 rfl rfl
theorem wd_349 : Cond.instanceMethod yX11_keep ∈ tG := tG_s2 109 rfl rfl
theorem wd_350 : Cond.selects RX11 yX11_keep yX11_keep ∈ tG := tG_s2 110 rfl rfl
theorem wd_351 : Cond.code yX11_keep cX11_keep 5 (some .int) ∈ tG := tG_s2 111 rfl rfl
theorem wd_352 : Cond.methodLink RX11 127 yX11_isNoShelf ∈ tG := tG_s2 112 rfl rfl
theorem wd_353 : Cond.static yX11_isNoShelf ∈ tG := tG_s2 113 rfl rfl
theorem wd_354 : Cond.code yX11_isNoShelf cX11_isNoShelf 1 (some .boolean) ∈ tG := tG_s2 114 rfl rfl
theorem wd_355 : Cond.methodLink RX11 295 yX11_oneOfKind ∈ tG := tG_s2 115 rfl rfl
theorem wd_356 : Cond.static yX11_oneOfKind ∈ tG := tG_s2 116 rfl rfl
theorem wd_357 : Cond.code yX11_oneOfKind cX11_oneOfKind 2 (some (.object "ThoughtBetterOf$Plain")) ∈ tG := tG_s2 117 rfl rfl
theorem wd_358 : Cond.classLink RX11 350 RX0 ∈ tG := tG_s2 118 rfl rfl
theorem wd_359 : Cond.instantiable RX0 2 ∈ tG := tG_s2 119 rfl rfl
theorem wd_360 : Cond.methodLink RX11 352 yX0_init ∈ tG := tG_s2 120 rfl rfl
theorem wd_361 : Cond.instanceMethod yX0_init ∈ tG := tG_s2 121 rfl rfl
theorem wd_362 : Cond.code yX0_init cX0_init 3 none ∈ tG := tG_s2 122 rfl rfl
theorem wd_363 : Cond.methodLink RX0 1 yX7_init ∈ tG := tG_s2 123 rfl rfl
theorem wd_366 : Cond.superclass RX0 RX7 ∈ tG := tG_s2 126 rfl rfl
theorem wd_367 : Cond.classLink RX11 353 RX4 ∈ tG := tG_s2 127 rfl rfl
theorem wd_368 : Cond.instantiable RX4 2 ∈ tG := tG_s2 128 rfl rfl
theorem wd_369 : Cond.methodLink RX11 355 yX4_init ∈ tG := tG_s2 129 rfl rfl
theorem wd_370 : Cond.instanceMethod yX4_init ∈ tG := tG_s2 130 rfl rfl
theorem wd_371 : Cond.code yX4_init cX4_init 3 none ∈ tG := tG_s2 131 rfl rfl
theorem wd_372 : Cond.methodLink RX4 1 yX7_init ∈ tG := tG_s2 132 rfl rfl
theorem wd_375 : Cond.superclass RX4 RX7 ∈ tG := tG_s2 135 rfl rfl
theorem wd_376 : Cond.classLink RX11 356 RX9 ∈ tG := tG_s2 136 rfl rfl
theorem wd_377 : Cond.instantiable RX9 2 ∈ tG := tG_s2 137 rfl rfl
theorem wd_378 : Cond.methodLink RX11 358 yX9_init ∈ tG := tG_s2 138 rfl rfl
theorem wd_379 : Cond.instanceMethod yX9_init ∈ tG := tG_s2 139 rfl rfl
theorem wd_380 : Cond.code yX9_init cX9_init 3 none ∈ tG := tG_s2 140 rfl rfl
theorem wd_381 : Cond.methodLink RX9 1 yX4_init ∈ tG := tG_s2 141 rfl rfl
theorem wd_384 : Cond.superclass RX9 RX4 ∈ tG := tG_s2 144 rfl rfl
theorem wd_385 : Cond.classLink RX11 359 RX5 ∈ tG := tG_s2 145 rfl rfl
theorem wd_386 : Cond.instantiable RX5 2 ∈ tG := tG_s2 146 rfl rfl
theorem wd_387 : Cond.methodLink RX11 361 yX5_init ∈ tG := tG_s2 147 rfl rfl
theorem wd_388 : Cond.instanceMethod yX5_init ∈ tG := tG_s2 148 rfl rfl
theorem wd_389 : Cond.code yX5_init cX5_init 3 none ∈ tG := tG_s2 149 rfl rfl
theorem wd_390 : Cond.methodLink RX5 1 yX7_init ∈ tG := tG_s2 150 rfl rfl
theorem wd_393 : Cond.superclass RX5 RX7 ∈ tG := tG_s2 153 rfl rfl
theorem wd_394 : Cond.classLink RX11 362 RX6 ∈ tG := tG_s2 154 rfl rfl
theorem wd_395 : Cond.instantiable RX6 2 ∈ tG := tG_s2 155 rfl rfl
theorem wd_396 : Cond.methodLink RX11 364 yX6_init ∈ tG := tG_s2 156 rfl rfl
theorem wd_397 : Cond.instanceMethod yX6_init ∈ tG := tG_s2 157 rfl rfl
theorem wd_398 : Cond.code yX6_init cX6_init 3 none ∈ tG := tG_s2 158 rfl rfl
theorem wd_399 : Cond.methodLink RX6 1 yX5_init ∈ tG := tG_s2 159 rfl rfl
theorem wd_402 : Cond.superclass RX6 RX5 ∈ tG := tG_s2 162 rfl rfl
theorem wd_403 : Cond.classLink RX11 365 RX1 ∈ tG := tG_s2 163 rfl rfl
theorem wd_404 : Cond.instantiable RX1 2 ∈ tG := tG_s2 164 rfl rfl
theorem wd_405 : Cond.methodLink RX11 367 yX1_init ∈ tG := tG_s2 165 rfl rfl
theorem wd_406 : Cond.instanceMethod yX1_init ∈ tG := tG_s2 166 rfl rfl
theorem wd_407 : Cond.code yX1_init cX1_init 3 none ∈ tG := tG_s2 167 rfl rfl
theorem wd_408 : Cond.methodLink RX1 1 yX7_init ∈ tG := tG_s2 168 rfl rfl
theorem wd_411 : Cond.superclass RX1 RX7 ∈ tG := tG_s2 171 rfl rfl
theorem wd_412 : Cond.classLink RX11 368 RX3 ∈ tG := tG_s2 172 rfl rfl
theorem wd_413 : Cond.instantiable RX3 2 ∈ tG := tG_s2 173 rfl rfl
theorem wd_414 : Cond.methodLink RX11 370 yX3_init ∈ tG := tG_s2 174 rfl rfl
theorem wd_415 : Cond.instanceMethod yX3_init ∈ tG := tG_s2 175 rfl rfl
theorem wd_416 : Cond.code yX3_init cX3_init 3 none ∈ tG := tG_s2 176 rfl rfl
theorem wd_417 : Cond.methodLink RX3 1 yX1_init ∈ tG := tG_s2 177 rfl rfl
theorem wd_420 : Cond.superclass RX3 RX1 ∈ tG := tG_s2 180 rfl rfl
theorem wd_421 : Cond.methodLink RL 160 yX11_comes ∈ tG := tG_s2 181 rfl rfl
theorem wd_422 : Cond.instanceMethod yX11_comes ∈ tG := tG_s2 182 rfl rfl
theorem wd_423 : Cond.selects RX11 yX11_comes yX11_comes ∈ tG := tG_s2 183 rfl rfl
theorem wd_424 : Cond.code yX11_comes cX11_comes 7 (some .int) ∈ tG := tG_s2 184 rfl rfl
theorem wd_425 : Cond.methodLink RX11 130 yX10_isNoOne ∈ tG := tG_s2 185 rfl rfl
theorem wd_426 : Cond.static yX10_isNoOne ∈ tG := tG_s2 186 rfl rfl
theorem wd_427 : Cond.code yX10_isNoOne cX10_isNoOne 4 (some .boolean) ∈ tG := tG_s2 187 rfl rfl
theorem wd_428 : Cond.methodLink RX11 66 yX11_shelfRefusal ∈ tG := tG_s2 188 rfl rfl
theorem wd_430 : Cond.instanceMethod yX11_shelfRefusal ∈ tG := tG_s2 190 rfl rfl
theorem wd_431 : Cond.code yX11_shelfRefusal cX11_shelfRefusal 3 (some .int) ∈ tG := tG_s2 191 rfl rfl
theorem wd_432 : Cond.methodLink RX11 134 yX10_addOne ∈ tG := tG_s2 192 rfl rfl
theorem wd_433 : Cond.instanceMethod yX10_addOne ∈ tG := tG_s2 193 rfl rfl
theorem wd_434 : Cond.selects RX10 yX10_addOne yX10_addOne ∈ tG := tG_s2 194 rfl rfl
theorem wd_435 : Cond.code yX10_addOne cX10_addOne 6 (some .int) ∈ tG := tG_s2 195 rfl rfl
theorem wd_436 : Cond.methodLink RX10 86 yX10_isNoOne ∈ tG := tG_s2 196 rfl rfl
theorem wd_437 : Cond.methodLink RL 164 yX11_kin ∈ tG := tG_s2 197 rfl rfl
theorem wd_438 : Cond.instanceMethod yX11_kin ∈ tG := tG_s2 198 rfl rfl
theorem wd_439 : Cond.selects RX11 yX11_kin yX11_kin ∈ tG := tG_s2 199 rfl rfl
theorem wd_440 : Cond.code yX11_kin cX11_kin 3 (some .int) ∈ tG := tG_s2 200 rfl rfl
theorem wd_441 : Cond.methodLink RX11 160 yX10_turnKin ∈ tG := tG_s2 201 rfl rfl
theorem wd_442 : Cond.instanceMethod yX10_turnKin ∈ tG := tG_s2 202 rfl rfl
theorem wd_443 : Cond.selects RX10 yX10_turnKin yX10_turnKin ∈ tG := tG_s2 203 rfl rfl
theorem wd_444 : Cond.code yX10_turnKin cX10_turnKin 3 (some .int) ∈ tG := tG_s2 204 rfl rfl
theorem wd_445 : Cond.methodLink RX10 90 yX10_areKin ∈ tG := tG_s2 205 rfl rfl
theorem wd_446 : Cond.instanceMethod yX10_areKin ∈ tG := tG_s2 206 rfl rfl
theorem wd_447 : Cond.selects RX10 yX10_areKin yX10_areKin ∈ tG := tG_s2 207 rfl rfl
theorem wd_448 : Cond.code yX10_areKin cX10_areKin 3 (some .boolean) ∈ tG := tG_s2 208 rfl rfl
theorem wd_449 : Cond.methodLink RL 166 yX11_set ∈ tG := tG_s2 209 rfl rfl
theorem wd_450 : Cond.instanceMethod yX11_set ∈ tG := tG_s2 210 rfl rfl
theorem wd_451 : Cond.selects RX11 yX11_set yX11_set ∈ tG := tG_s2 211 rfl rfl
theorem wd_452 : Cond.code yX11_set cX11_set 3 (some .int) ∈ tG := tG_s2 212 rfl rfl
theorem wd_453 : Cond.methodLink RX11 163 yX10_changeRule ∈ tG := tG_s2 213 rfl rfl
theorem wd_454 : Cond.instanceMethod yX10_changeRule ∈ tG := tG_s2 214 rfl rfl
theorem wd_455 : Cond.selects RX10 yX10_changeRule yX10_changeRule ∈ tG := tG_s2 215 rfl rfl
theorem wd_456 : Cond.code yX10_changeRule cX10_changeRule 5 (some .int) ∈ tG := tG_s2 216 rfl rfl
theorem wd_457 : Cond.constant RL 169 (108000) ∈ tG := tG_s2 217 rfl rfl
theorem wd_458 : Cond.methodLink RL 170 yL_tell ∈ tG := tG_s2 218 rfl rfl
theorem wd_460 : Cond.instanceMethod yL_tell ∈ tG := tG_s2 220 rfl rfl
theorem wd_461 : Cond.code yL_tell cL_tell 4 (some .int) ∈ tG := tG_s2 221 rfl rfl
theorem wd_462 : Cond.methodLink RL 55 yX11_row ∈ tG := tG_s2 222 rfl rfl
theorem wd_463 : Cond.instanceMethod yX11_row ∈ tG := tG_s2 223 rfl rfl
theorem wd_464 : Cond.selects RX11 yX11_row yX11_row ∈ tG := tG_s2 224 rfl rfl
theorem wd_465 : Cond.code yX11_row cX11_row 4 (some .int) ∈ tG := tG_s2 225 rfl rfl
theorem wd_466 : Cond.methodLink RX11 299 yX8_begin ∈ tG := tG_s2 226 rfl rfl
theorem wd_467 : Cond.instanceMethod yX8_begin ∈ tG := tG_s2 227 rfl rfl
theorem wd_468 : Cond.selects RX8 yX8_begin yX8_begin ∈ tG := tG_s2 228 rfl rfl
theorem wd_469 : Cond.code yX8_begin cX8_begin 4 none ∈ tG := tG_s2 229 rfl rfl
theorem wd_470 : Cond.methodLink RL 59 yX11_put ∈ tG := tG_s2 230 rfl rfl
theorem wd_471 : Cond.instanceMethod yX11_put ∈ tG := tG_s2 231 rfl rfl
theorem wd_472 : Cond.selects RX11 yX11_put yX11_put ∈ tG := tG_s2 232 rfl rfl
theorem wd_473 : Cond.code yX11_put cX11_put 5 (some .int) ∈ tG := tG_s2 233 rfl rfl
theorem wd_474 : Cond.methodLink RX11 302 yX8_hasPlaces ∈ tG := tG_s2 234 rfl rfl
theorem wd_475 : Cond.instanceMethod yX8_hasPlaces ∈ tG := tG_s2 235 rfl rfl
theorem wd_476 : Cond.selects RX8 yX8_hasPlaces yX8_hasPlaces ∈ tG := tG_s2 236 rfl rfl
theorem wd_477 : Cond.code yX8_hasPlaces cX8_hasPlaces 3 (some .boolean) ∈ tG := tG_s2 237 rfl rfl
theorem wd_478 : Cond.methodLink RX11 306 yX8_write ∈ tG := tG_s2 238 rfl rfl
theorem wd_479 : Cond.instanceMethod yX8_write ∈ tG := tG_s2 239 rfl rfl
theorem wd_480 : Cond.selects RX8 yX8_write yX8_write ∈ tG := tG_s3 0 rfl rfl
theorem wd_481 : Cond.code yX8_write cX8_write 3 none ∈ tG := tG_s3 1 rfl rfl
theorem wd_482 : Cond.methodLink RX8 22 yX8_hasPlaces ∈ tG := tG_s3 2 rfl rfl
theorem wd_483 : Cond.methodLink RL 62 yX11_town ∈ tG := tG_s3 3 rfl rfl
theorem wd_484 : Cond.instanceMethod yX11_town ∈ tG := tG_s3 4 rfl rfl
theorem wd_485 : Cond.selects RX11 yX11_town yX11_town ∈ tG := tG_s3 5 rfl rfl
theorem wd_486 : Cond.code yX11_town cX11_town 4 (some .int) ∈ tG := tG_s3 6 rfl rfl
theorem wd_487 : Cond.methodLink RX11 74 yX10_become ∈ tG := tG_s3 7 rfl rfl
theorem wd_488 : Cond.instanceMethod yX10_become ∈ tG := tG_s3 8 rfl rfl
theorem wd_489 : Cond.selects RX10 yX10_become yX10_become ∈ tG := tG_s3 9 rfl rfl
theorem wd_490 : Cond.code yX10_become cX10_become 3 none ∈ tG := tG_s3 10 rfl rfl
theorem wd_491 : Cond.methodLink RX10 76 arraycopyName ∈ tG := tG_s3 11 rfl rfl
theorem wd_492 : Cond.static arraycopyName ∈ tG := tG_s3 12 rfl rfl
theorem wd_493 : Cond.native arraycopyName ∈ tG := tG_s3 13 rfl rfl
theorem wd_494 : Cond.methodLink RX11 77 yX10_hear ∈ tG := tG_s3 14 rfl rfl
theorem wd_495 : Cond.instanceMethod yX10_hear ∈ tG := tG_s3 15 rfl rfl
theorem wd_496 : Cond.selects RX10 yX10_hear yX10_hear ∈ tG := tG_s3 16 rfl rfl
theorem wd_497 : Cond.code yX10_hear cX10_hear 5 (some .int) ∈ tG := tG_s3 17 rfl rfl
theorem wd_498 : Cond.methodLink RX10 94 yX10_firstWrong ∈ tG := tG_s3 18 rfl rfl
theorem wd_499 : Cond.static yX10_firstWrong ∈ tG := tG_s3 19 rfl rfl
theorem wd_500 : Cond.code yX10_firstWrong cX10_firstWrong 4 (some .int) ∈ tG := tG_s3 20 rfl rfl
theorem wd_501 : Cond.methodLink RX10 107 yX8_at ∈ tG := tG_s3 21 rfl rfl
theorem wd_502 : Cond.instanceMethod yX8_at ∈ tG := tG_s3 22 rfl rfl
theorem wd_503 : Cond.selects RX8 yX8_at yX8_at ∈ tG := tG_s3 23 rfl rfl
theorem wd_504 : Cond.code yX8_at cX8_at 2 (some .int) ∈ tG := tG_s3 24 rfl rfl
theorem wd_505 : Cond.methodLink RX10 111 yX10_shapeBehind ∈ tG := tG_s3 25 rfl rfl
theorem wd_506 : Cond.static yX10_shapeBehind ∈ tG := tG_s3 26 rfl rfl
theorem wd_507 : Cond.code yX10_shapeBehind cX10_shapeBehind 1 (some (.object "java/lang/String")) ∈ tG := tG_s3 27 rfl rfl
theorem wd_566 : Cond.methodLink RX10 141 yX10_fitsShape ∈ tG := tG_s3 86 rfl rfl
theorem wd_567 : Cond.static yX10_fitsShape ∈ tG := tG_s3 87 rfl rfl
theorem wd_568 : Cond.code yX10_fitsShape cX10_fitsShape 2 (some .boolean) ∈ tG := tG_s3 88 rfl rfl
theorem wd_569 : Cond.methodLink RX10 103 yX10_hearStatement ∈ tG := tG_s3 89 rfl rfl
theorem wd_571 : Cond.instanceMethod yX10_hearStatement ∈ tG := tG_s3 91 rfl rfl
theorem wd_572 : Cond.code yX10_hearStatement cX10_hearStatement 3 (some .int) ∈ tG := tG_s3 92 rfl rfl
theorem wd_573 : Cond.methodLink RX10 145 yX8_digitAt ∈ tG := tG_s3 93 rfl rfl
theorem wd_574 : Cond.instanceMethod yX8_digitAt ∈ tG := tG_s3 94 rfl rfl
theorem wd_575 : Cond.selects RX8 yX8_digitAt yX8_digitAt ∈ tG := tG_s3 95 rfl rfl
theorem wd_576 : Cond.code yX8_digitAt cX8_digitAt 2 (some .int) ∈ tG := tG_s3 96 rfl rfl
theorem wd_577 : Cond.methodLink RX8 27 yX8_at ∈ tG := tG_s3 97 rfl rfl
theorem wd_578 : Cond.methodLink RX10 148 yX8_signedAt ∈ tG := tG_s3 98 rfl rfl
theorem wd_579 : Cond.instanceMethod yX8_signedAt ∈ tG := tG_s3 99 rfl rfl
theorem wd_580 : Cond.selects RX8 yX8_signedAt yX8_signedAt ∈ tG := tG_s3 100 rfl rfl
theorem wd_581 : Cond.code yX8_signedAt cX8_signedAt 2 (some .int) ∈ tG := tG_s3 101 rfl rfl
theorem wd_582 : Cond.methodLink RX8 34 yX8_signAt ∈ tG := tG_s3 102 rfl rfl
theorem wd_583 : Cond.instanceMethod yX8_signAt ∈ tG := tG_s3 103 rfl rfl
theorem wd_584 : Cond.selects RX8 yX8_signAt yX8_signAt ∈ tG := tG_s3 104 rfl rfl
theorem wd_585 : Cond.code yX8_signAt cX8_signAt 2 (some .int) ∈ tG := tG_s3 105 rfl rfl
theorem wd_586 : Cond.methodLink RX8 31 yX8_digitAt ∈ tG := tG_s3 106 rfl rfl
theorem wd_587 : Cond.methodLink RX10 151 yX8_pairAt ∈ tG := tG_s3 107 rfl rfl
theorem wd_588 : Cond.instanceMethod yX8_pairAt ∈ tG := tG_s3 108 rfl rfl
theorem wd_589 : Cond.selects RX8 yX8_pairAt yX8_pairAt ∈ tG := tG_s3 109 rfl rfl
theorem wd_590 : Cond.code yX8_pairAt cX8_pairAt 2 (some .int) ∈ tG := tG_s3 110 rfl rfl
theorem wd_591 : Cond.methodLink RX10 154 yX10_addFact ∈ tG := tG_s3 111 rfl rfl
theorem wd_593 : Cond.methodLink RX10 162 yX10_addOne ∈ tG := tG_s3 113 rfl rfl
theorem wd_594 : Cond.methodLink RX10 166 yX10_turnKin ∈ tG := tG_s3 114 rfl rfl
theorem wd_595 : Cond.methodLink RX10 170 yX8_signAt ∈ tG := tG_s3 115 rfl rfl
theorem wd_596 : Cond.methodLink RX10 173 yX10_addPlant ∈ tG := tG_s3 116 rfl rfl
theorem wd_597 : Cond.instanceMethod yX10_addPlant ∈ tG := tG_s3 117 rfl rfl
theorem wd_598 : Cond.selects RX10 yX10_addPlant yX10_addPlant ∈ tG := tG_s3 118 rfl rfl
theorem wd_599 : Cond.code yX10_addPlant cX10_addPlant 6 (some .int) ∈ tG := tG_s3 119 rfl rfl
theorem wd_600 : Cond.methodLink RX10 177 yX10_changeRule ∈ tG := tG_s3 120 rfl rfl
theorem wd_601 : Cond.methodLink RL 188 yX11_count ∈ tG := tG_s3 121 rfl rfl
theorem wd_602 : Cond.instanceMethod yX11_count ∈ tG := tG_s3 122 rfl rfl
theorem wd_603 : Cond.selects RX11 yX11_count yX11_count ∈ tG := tG_s3 123 rfl rfl
theorem wd_604 : Cond.code yX11_count cX11_count 2 (some .int) ∈ tG := tG_s3 124 rfl rfl
theorem wd_605 : Cond.methodLink RX11 289 yX10_allCoins ∈ tG := tG_s3 125 rfl rfl
theorem wd_606 : Cond.instanceMethod yX10_allCoins ∈ tG := tG_s3 126 rfl rfl
theorem wd_607 : Cond.selects RX10 yX10_allCoins yX10_allCoins ∈ tG := tG_s3 127 rfl rfl
theorem wd_608 : Cond.code yX10_allCoins cX10_allCoins 3 (some .int) ∈ tG := tG_s3 128 rfl rfl
theorem wd_609 : Cond.methodLink RX11 292 yX10_pairsOfKin ∈ tG := tG_s3 129 rfl rfl
theorem wd_610 : Cond.instanceMethod yX10_pairsOfKin ∈ tG := tG_s3 130 rfl rfl
theorem wd_611 : Cond.selects RX10 yX10_pairsOfKin yX10_pairsOfKin ∈ tG := tG_s3 131 rfl rfl
theorem wd_612 : Cond.code yX10_pairsOfKin cX10_pairsOfKin 4 (some .int) ∈ tG := tG_s3 132 rfl rfl
theorem wd_613 : Cond.methodLink RL 179 yX11_fate ∈ tG := tG_s3 133 rfl rfl
theorem wd_614 : Cond.instanceMethod yX11_fate ∈ tG := tG_s3 134 rfl rfl
theorem wd_615 : Cond.selects RX11 yX11_fate yX11_fate ∈ tG := tG_s3 135 rfl rfl
theorem wd_616 : Cond.code yX11_fate cX11_fate 3 (some .int) ∈ tG := tG_s3 136 rfl rfl
theorem wd_617 : Cond.methodLink RX11 81 yX11_isNobody ∈ tG := tG_s3 137 rfl rfl
theorem wd_619 : Cond.instanceMethod yX11_isNobody ∈ tG := tG_s3 139 rfl rfl
theorem wd_620 : Cond.code yX11_isNobody cX11_isNobody 2 (some .boolean) ∈ tG := tG_s3 140 rfl rfl
theorem wd_621 : Cond.methodLink RX11 166 yX2_run ∈ tG := tG_s3 141 rfl rfl
theorem wd_622 : Cond.instanceMethod yX2_run ∈ tG := tG_s3 142 rfl rfl
theorem wd_623 : Cond.selects RX2 yX2_run yX2_run ∈ tG := tG_s3 143 rfl rfl
theorem wd_624 : Cond.code yX2_run cX2_run 5 none ∈ tG := tG_s3 144 rfl rfl
theorem wd_625 : Cond.methodLink RX2 62 yX7_dueWhenTold ∈ tG := tG_s3 145 rfl rfl
theorem wd_626 : Cond.instanceMethod yX7_dueWhenTold ∈ tG := tG_s3 146 rfl rfl
theorem wd_627 : Cond.selects RX7 yX7_dueWhenTold yX7_dueWhenTold ∈ tG := tG_s3 147 rfl rfl
theorem wd_628 : Cond.sameMethod "ThoughtBetterOf$Plain" "ThoughtBetterOf$Plain" "dueWhenTold" "(I)I" ∈ tG := tG_s3 148 rfl rfl
theorem wd_629 : Cond.selects RX0 yX7_dueWhenTold yX0_dueWhenTold ∈ tG := tG_s3 149 rfl rfl
theorem wd_630 : Cond.instanceMethod yX0_dueWhenTold ∈ tG := tG_s3 150 rfl rfl
theorem wd_631 : Cond.code yX0_dueWhenTold cX0_dueWhenTold 2 (some .int) ∈ tG := tG_s3 151 rfl rfl
theorem wd_632 : Cond.methodLink RX0 7 yX7_dueWhenTold ∈ tG := tG_s3 152 rfl rfl
theorem wd_633 : Cond.methodLink RX0 11 Lib.Math.min.name ∈ tG := tG_s3 153 rfl rfl
theorem wd_634 : Cond.static Lib.Math.min.name ∈ tG := tG_s3 154 rfl rfl
theorem wd_635 : Cond.code Lib.Math.min.name Lib.Math.min.code 2 (some .int) ∈ tG := tG_s3 155 rfl rfl
theorem wd_636 : Cond.selects RX1 yX7_dueWhenTold yX7_dueWhenTold ∈ tG := tG_s3 156 rfl rfl
theorem wd_637 : Cond.selects RX3 yX7_dueWhenTold yX7_dueWhenTold ∈ tG := tG_s3 157 rfl rfl
theorem wd_638 : Cond.selects RX4 yX7_dueWhenTold yX7_dueWhenTold ∈ tG := tG_s3 158 rfl rfl
theorem wd_639 : Cond.selects RX5 yX7_dueWhenTold yX7_dueWhenTold ∈ tG := tG_s3 159 rfl rfl
theorem wd_640 : Cond.selects RX6 yX7_dueWhenTold yX7_dueWhenTold ∈ tG := tG_s3 160 rfl rfl
theorem wd_641 : Cond.selects RX9 yX7_dueWhenTold yX7_dueWhenTold ∈ tG := tG_s3 161 rfl rfl
theorem wd_642 : Cond.code yX7_dueWhenTold cX7_dueWhenTold 2 (some .int) ∈ tG := tG_s3 162 rfl rfl
theorem wd_643 : Cond.methodLink RX2 83 yX2_offer ∈ tG := tG_s3 163 rfl rfl
theorem wd_645 : Cond.instanceMethod yX2_offer ∈ tG := tG_s3 165 rfl rfl
theorem wd_646 : Cond.code yX2_offer cX2_offer 6 none ∈ tG := tG_s3 166 rfl rfl
theorem wd_647 : Cond.methodLink RX2 87 yX2_thinkFirst ∈ tG := tG_s3 167 rfl rfl
theorem wd_649 : Cond.instanceMethod yX2_thinkFirst ∈ tG := tG_s3 169 rfl rfl
theorem wd_650 : Cond.code yX2_thinkFirst cX2_thinkFirst 2 none ∈ tG := tG_s3 170 rfl rfl
theorem wd_651 : Cond.methodLink RX2 106 yX10_weightOf ∈ tG := tG_s3 171 rfl rfl
theorem wd_652 : Cond.instanceMethod yX10_weightOf ∈ tG := tG_s3 172 rfl rfl
theorem wd_653 : Cond.selects RX10 yX10_weightOf yX10_weightOf ∈ tG := tG_s3 173 rfl rfl
theorem wd_654 : Cond.code yX10_weightOf cX10_weightOf 6 (some .int) ∈ tG := tG_s3 174 rfl rfl
theorem wd_655 : Cond.methodLink RX2 110 yX7_sumOf ∈ tG := tG_s3 175 rfl rfl
theorem wd_656 : Cond.instanceMethod yX7_sumOf ∈ tG := tG_s3 176 rfl rfl
theorem wd_657 : Cond.selects RX7 yX7_sumOf yX7_sumOf ∈ tG := tG_s3 177 rfl rfl
theorem wd_658 : Cond.sameMethod "ThoughtBetterOf$Plain" "ThoughtBetterOf$Plain" "sumOf" "(II)I" ∈ tG := tG_s3 178 rfl rfl
theorem wd_659 : Cond.selects RX0 yX7_sumOf yX7_sumOf ∈ tG := tG_s3 179 rfl rfl
theorem wd_660 : Cond.selects RX1 yX7_sumOf yX7_sumOf ∈ tG := tG_s3 180 rfl rfl
theorem wd_661 : Cond.selects RX3 yX7_sumOf yX3_sumOf ∈ tG := tG_s3 181 rfl rfl
theorem wd_662 : Cond.instanceMethod yX3_sumOf ∈ tG := tG_s3 182 rfl rfl
theorem wd_663 : Cond.code yX3_sumOf cX3_sumOf 3 (some .int) ∈ tG := tG_s3 183 rfl rfl
theorem wd_664 : Cond.methodLink RX3 7 ⟨RX1, "sumOf", "(II)I"⟩ ∈ tG := tG_s3 184 rfl rfl
theorem wd_665 : Cond.sameMethod "ThoughtBetterOf$Child" "ThoughtBetterOf$Plain" "sumOf" "(II)I" ∈ tG := tG_s3 185 rfl rfl
theorem wd_667 : Cond.selects RX4 yX7_sumOf yX7_sumOf ∈ tG := tG_s3 187 rfl rfl
theorem wd_668 : Cond.selects RX5 yX7_sumOf yX5_sumOf ∈ tG := tG_s3 188 rfl rfl
theorem wd_669 : Cond.instanceMethod yX5_sumOf ∈ tG := tG_s3 189 rfl rfl
theorem wd_670 : Cond.code yX5_sumOf cX5_sumOf 3 (some .int) ∈ tG := tG_s3 190 rfl rfl
theorem wd_671 : Cond.methodLink RX5 7 yX7_sumOf ∈ tG := tG_s3 191 rfl rfl
theorem wd_672 : Cond.selects RX6 yX7_sumOf yX6_sumOf ∈ tG := tG_s3 192 rfl rfl
theorem wd_673 : Cond.instanceMethod yX6_sumOf ∈ tG := tG_s3 193 rfl rfl
theorem wd_674 : Cond.code yX6_sumOf cX6_sumOf 3 (some .int) ∈ tG := tG_s3 194 rfl rfl
theorem wd_675 : Cond.methodLink RX6 7 yX5_sumOf ∈ tG := tG_s3 195 rfl rfl
theorem wd_676 : Cond.selects RX9 yX7_sumOf yX7_sumOf ∈ tG := tG_s3 196 rfl rfl
theorem wd_677 : Cond.code yX7_sumOf cX7_sumOf 3 (some .int) ∈ tG := tG_s3 197 rfl rfl
theorem wd_678 : Cond.methodLink RX2 91 yX2_buyBest ∈ tG := tG_s3 198 rfl rfl
theorem wd_680 : Cond.instanceMethod yX2_buyBest ∈ tG := tG_s3 200 rfl rfl
theorem wd_681 : Cond.code yX2_buyBest cX2_buyBest 8 none ∈ tG := tG_s3 201 rfl rfl
theorem wd_682 : Cond.methodLink RX2 122 yX7_strengthOf ∈ tG := tG_s3 202 rfl rfl
theorem wd_683 : Cond.instanceMethod yX7_strengthOf ∈ tG := tG_s3 203 rfl rfl
theorem wd_684 : Cond.selects RX7 yX7_strengthOf yX7_strengthOf ∈ tG := tG_s3 204 rfl rfl
theorem wd_685 : Cond.sameMethod "ThoughtBetterOf$Plain" "ThoughtBetterOf$Plain" "strengthOf" "(I)I" ∈ tG := tG_s3 205 rfl rfl
theorem wd_686 : Cond.selects RX0 yX7_strengthOf yX7_strengthOf ∈ tG := tG_s3 206 rfl rfl
theorem wd_687 : Cond.selects RX1 yX7_strengthOf yX7_strengthOf ∈ tG := tG_s3 207 rfl rfl
theorem wd_688 : Cond.selects RX3 yX7_strengthOf yX7_strengthOf ∈ tG := tG_s3 208 rfl rfl
theorem wd_689 : Cond.selects RX4 yX7_strengthOf yX4_strengthOf ∈ tG := tG_s3 209 rfl rfl
theorem wd_690 : Cond.instanceMethod yX4_strengthOf ∈ tG := tG_s3 210 rfl rfl
theorem wd_691 : Cond.code yX4_strengthOf cX4_strengthOf 2 (some .int) ∈ tG := tG_s3 211 rfl rfl
theorem wd_692 : Cond.methodLink RX4 7 yX7_strengthOf ∈ tG := tG_s3 212 rfl rfl
theorem wd_693 : Cond.selects RX5 yX7_strengthOf yX7_strengthOf ∈ tG := tG_s3 213 rfl rfl
theorem wd_694 : Cond.selects RX6 yX7_strengthOf yX7_strengthOf ∈ tG := tG_s3 214 rfl rfl
theorem wd_695 : Cond.selects RX9 yX7_strengthOf yX9_strengthOf ∈ tG := tG_s3 215 rfl rfl
theorem wd_696 : Cond.instanceMethod yX9_strengthOf ∈ tG := tG_s3 216 rfl rfl
theorem wd_697 : Cond.code yX9_strengthOf cX9_strengthOf 2 (some .int) ∈ tG := tG_s3 217 rfl rfl
theorem wd_698 : Cond.methodLink RX9 7 yX4_strengthOf ∈ tG := tG_s3 218 rfl rfl
theorem wd_699 : Cond.code yX7_strengthOf cX7_strengthOf 2 (some .int) ∈ tG := tG_s3 219 rfl rfl
theorem wd_700 : Cond.methodLink RX2 128 yX2_isForSale ∈ tG := tG_s3 220 rfl rfl
theorem wd_702 : Cond.instanceMethod yX2_isForSale ∈ tG := tG_s3 222 rfl rfl
theorem wd_703 : Cond.code yX2_isForSale cX2_isForSale 4 (some .boolean) ∈ tG := tG_s3 223 rfl rfl
theorem wd_704 : Cond.methodLink RX2 138 yX2_leftOf ∈ tG := tG_s3 224 rfl rfl
theorem wd_706 : Cond.instanceMethod yX2_leftOf ∈ tG := tG_s3 226 rfl rfl
theorem wd_707 : Cond.code yX2_leftOf cX2_leftOf 3 (some .int) ∈ tG := tG_s3 227 rfl rfl
theorem wd_708 : Cond.methodLink RX2 117 Lib.Math.max.name ∈ tG := tG_s3 228 rfl rfl
theorem wd_709 : Cond.static Lib.Math.max.name ∈ tG := tG_s3 229 rfl rfl
theorem wd_710 : Cond.code Lib.Math.max.name Lib.Math.max.code 2 (some .int) ∈ tG := tG_s3 230 rfl rfl
theorem wd_711 : Cond.methodLink RX2 132 yX2_caseOf ∈ tG := tG_s3 231 rfl rfl
theorem wd_713 : Cond.instanceMethod yX2_caseOf ∈ tG := tG_s3 233 rfl rfl
theorem wd_714 : Cond.code yX2_caseOf cX2_caseOf 2 (some .int) ∈ tG := tG_s3 234 rfl rfl
theorem wd_715 : Cond.methodLink RX2 135 yX10_areKin ∈ tG := tG_s3 235 rfl rfl
theorem wd_716 : Cond.methodLink RX2 141 yX7_priceOf ∈ tG := tG_s3 236 rfl rfl
theorem wd_717 : Cond.instanceMethod yX7_priceOf ∈ tG := tG_s3 237 rfl rfl
theorem wd_718 : Cond.selects RX7 yX7_priceOf yX7_priceOf ∈ tG := tG_s3 238 rfl rfl
theorem wd_719 : Cond.sameMethod "ThoughtBetterOf$Plain" "ThoughtBetterOf$Plain" "priceOf" "(II)I" ∈ tG := tG_s3 239 rfl rfl
theorem wd_720 : Cond.selects RX0 yX7_priceOf yX7_priceOf ∈ tG := tG_s4 0 rfl rfl
theorem wd_721 : Cond.selects RX1 yX7_priceOf yX1_priceOf ∈ tG := tG_s4 1 rfl rfl
theorem wd_722 : Cond.instanceMethod yX1_priceOf ∈ tG := tG_s4 2 rfl rfl
theorem wd_723 : Cond.code yX1_priceOf cX1_priceOf 3 (some .int) ∈ tG := tG_s4 3 rfl rfl
theorem wd_724 : Cond.methodLink RX1 7 yX7_priceOf ∈ tG := tG_s4 4 rfl rfl
theorem wd_725 : Cond.selects RX3 yX7_priceOf yX3_priceOf ∈ tG := tG_s4 5 rfl rfl
theorem wd_726 : Cond.instanceMethod yX3_priceOf ∈ tG := tG_s4 6 rfl rfl
theorem wd_727 : Cond.code yX3_priceOf cX3_priceOf 3 (some .int) ∈ tG := tG_s4 7 rfl rfl
theorem wd_728 : Cond.methodLink RX3 11 yX1_priceOf ∈ tG := tG_s4 8 rfl rfl
theorem wd_729 : Cond.methodLink RX3 14 Lib.Math.max.name ∈ tG := tG_s4 9 rfl rfl
theorem wd_730 : Cond.selects RX4 yX7_priceOf yX7_priceOf ∈ tG := tG_s4 10 rfl rfl
theorem wd_731 : Cond.selects RX5 yX7_priceOf yX7_priceOf ∈ tG := tG_s4 11 rfl rfl
theorem wd_732 : Cond.selects RX6 yX7_priceOf yX7_priceOf ∈ tG := tG_s4 12 rfl rfl
theorem wd_733 : Cond.selects RX9 yX7_priceOf yX7_priceOf ∈ tG := tG_s4 13 rfl rfl
theorem wd_734 : Cond.code yX7_priceOf cX7_priceOf 3 (some .int) ∈ tG := tG_s4 14 rfl rfl
theorem wd_735 : Cond.methodLink RX2 147 yX7_buysOf ∈ tG := tG_s4 15 rfl rfl
theorem wd_736 : Cond.instanceMethod yX7_buysOf ∈ tG := tG_s4 16 rfl rfl
theorem wd_737 : Cond.selects RX7 yX7_buysOf yX7_buysOf ∈ tG := tG_s4 17 rfl rfl
theorem wd_738 : Cond.sameMethod "ThoughtBetterOf$Plain" "ThoughtBetterOf$Plain" "buysOf" "(II)Z" ∈ tG := tG_s4 18 rfl rfl
theorem wd_739 : Cond.selects RX0 yX7_buysOf yX7_buysOf ∈ tG := tG_s4 19 rfl rfl
theorem wd_740 : Cond.selects RX1 yX7_buysOf yX1_buysOf ∈ tG := tG_s4 20 rfl rfl
theorem wd_741 : Cond.instanceMethod yX1_buysOf ∈ tG := tG_s4 21 rfl rfl
theorem wd_742 : Cond.code yX1_buysOf cX1_buysOf 3 (some .boolean) ∈ tG := tG_s4 22 rfl rfl
theorem wd_743 : Cond.selects RX3 yX7_buysOf yX1_buysOf ∈ tG := tG_s4 23 rfl rfl
theorem wd_744 : Cond.selects RX4 yX7_buysOf yX7_buysOf ∈ tG := tG_s4 24 rfl rfl
theorem wd_745 : Cond.selects RX5 yX7_buysOf yX7_buysOf ∈ tG := tG_s4 25 rfl rfl
theorem wd_746 : Cond.selects RX6 yX7_buysOf yX7_buysOf ∈ tG := tG_s4 26 rfl rfl
theorem wd_747 : Cond.selects RX9 yX7_buysOf yX9_buysOf ∈ tG := tG_s4 27 rfl rfl
theorem wd_748 : Cond.instanceMethod yX9_buysOf ∈ tG := tG_s4 28 rfl rfl
theorem wd_749 : Cond.code yX9_buysOf cX9_buysOf 3 (some .boolean) ∈ tG := tG_s4 29 rfl rfl
theorem wd_750 : Cond.code yX7_buysOf cX7_buysOf 3 (some .boolean) ∈ tG := tG_s4 30 rfl rfl
theorem wd_751 : Cond.methodLink RX2 94 yX2_choose ∈ tG := tG_s4 31 rfl rfl
theorem wd_753 : Cond.instanceMethod yX2_choose ∈ tG := tG_s4 33 rfl rfl
theorem wd_754 : Cond.code yX2_choose cX2_choose 3 none ∈ tG := tG_s4 34 rfl rfl
theorem wd_756 : Cond.static yX11_sideOf ∈ tG := tG_s4 36 rfl rfl
theorem wd_757 : Cond.code yX11_sideOf cX11_sideOf 1 (some .int) ∈ tG := tG_s4 37 rfl rfl
theorem wd_758 : Cond.methodLink RX11 334 yJ6_compare_7cf53 ∈ tG := tG_s4 38 rfl rfl
theorem wd_759 : Cond.static yJ6_compare_7cf53 ∈ tG := tG_s4 39 rfl rfl
theorem wd_760 : Cond.code yJ6_compare_7cf53 cJ6_compare_7cf53 2 (some .int) ∈ tG := tG_s4 40 rfl rfl
theorem wd_761 : Cond.methodLink RX2 97 yX2_thinkAgain ∈ tG := tG_s4 41 rfl rfl
theorem wd_763 : Cond.instanceMethod yX2_thinkAgain ∈ tG := tG_s4 43 rfl rfl
theorem wd_764 : Cond.code yX2_thinkAgain cX2_thinkAgain 5 none ∈ tG := tG_s4 44 rfl rfl
theorem wd_765 : Cond.methodLink RX2 125 yX7_fadeBy ∈ tG := tG_s4 45 rfl rfl
theorem wd_766 : Cond.instanceMethod yX7_fadeBy ∈ tG := tG_s4 46 rfl rfl
theorem wd_767 : Cond.selects RX7 yX7_fadeBy yX7_fadeBy ∈ tG := tG_s4 47 rfl rfl
theorem wd_768 : Cond.sameMethod "ThoughtBetterOf$Plain" "ThoughtBetterOf$Plain" "fadeBy" "(I)I" ∈ tG := tG_s4 48 rfl rfl
theorem wd_769 : Cond.selects RX0 yX7_fadeBy yX7_fadeBy ∈ tG := tG_s4 49 rfl rfl
theorem wd_770 : Cond.selects RX1 yX7_fadeBy yX7_fadeBy ∈ tG := tG_s4 50 rfl rfl
theorem wd_771 : Cond.selects RX3 yX7_fadeBy yX3_fadeBy ∈ tG := tG_s4 51 rfl rfl
theorem wd_772 : Cond.instanceMethod yX3_fadeBy ∈ tG := tG_s4 52 rfl rfl
theorem wd_773 : Cond.code yX3_fadeBy cX3_fadeBy 2 (some .int) ∈ tG := tG_s4 53 rfl rfl
theorem wd_774 : Cond.methodLink RX3 19 ⟨RX1, "fadeBy", "(I)I"⟩ ∈ tG := tG_s4 54 rfl rfl
theorem wd_775 : Cond.sameMethod "ThoughtBetterOf$Child" "ThoughtBetterOf$Plain" "fadeBy" "(I)I" ∈ tG := tG_s4 55 rfl rfl
theorem wd_777 : Cond.selects RX4 yX7_fadeBy yX4_fadeBy ∈ tG := tG_s4 57 rfl rfl
theorem wd_778 : Cond.instanceMethod yX4_fadeBy ∈ tG := tG_s4 58 rfl rfl
theorem wd_779 : Cond.code yX4_fadeBy cX4_fadeBy 2 (some .int) ∈ tG := tG_s4 59 rfl rfl
theorem wd_780 : Cond.methodLink RX4 17 yX7_fadeBy ∈ tG := tG_s4 60 rfl rfl
theorem wd_781 : Cond.methodLink RX4 20 Lib.Math.max.name ∈ tG := tG_s4 61 rfl rfl
theorem wd_782 : Cond.selects RX5 yX7_fadeBy yX7_fadeBy ∈ tG := tG_s4 62 rfl rfl
theorem wd_783 : Cond.selects RX6 yX7_fadeBy yX7_fadeBy ∈ tG := tG_s4 63 rfl rfl
theorem wd_784 : Cond.selects RX9 yX7_fadeBy yX4_fadeBy ∈ tG := tG_s4 64 rfl rfl
theorem wd_785 : Cond.code yX7_fadeBy cX7_fadeBy 2 (some .int) ∈ tG := tG_s4 65 rfl rfl
theorem wd_786 : Cond.methodLink RX11 170 yX2_fateOf ∈ tG := tG_s4 66 rfl rfl
theorem wd_787 : Cond.instanceMethod yX2_fateOf ∈ tG := tG_s4 67 rfl rfl
theorem wd_788 : Cond.selects RX2 yX2_fateOf yX2_fateOf ∈ tG := tG_s4 68 rfl rfl
theorem wd_789 : Cond.code yX2_fateOf cX2_fateOf 4 (some .int) ∈ tG := tG_s4 69 rfl rfl
theorem wd_790 : Cond.methodLink RX2 156 yX2_toldChoice ∈ tG := tG_s4 70 rfl rfl
theorem wd_791 : Cond.instanceMethod yX2_toldChoice ∈ tG := tG_s4 71 rfl rfl
theorem wd_792 : Cond.selects RX2 yX2_toldChoice yX2_toldChoice ∈ tG := tG_s4 72 rfl rfl
theorem wd_793 : Cond.code yX2_toldChoice cX2_toldChoice 2 (some .int) ∈ tG := tG_s4 73 rfl rfl
theorem wd_794 : Cond.methodLink RX2 159 yX2_coinsAt ∈ tG := tG_s4 74 rfl rfl
theorem wd_795 : Cond.instanceMethod yX2_coinsAt ∈ tG := tG_s4 75 rfl rfl
theorem wd_796 : Cond.selects RX2 yX2_coinsAt yX2_coinsAt ∈ tG := tG_s4 76 rfl rfl
theorem wd_797 : Cond.code yX2_coinsAt cX2_coinsAt 5 (some .int) ∈ tG := tG_s4 77 rfl rfl
theorem wd_798 : Cond.methodLink RL 200 yX11_chain ∈ tG := tG_s4 78 rfl rfl
theorem wd_799 : Cond.instanceMethod yX11_chain ∈ tG := tG_s4 79 rfl rfl
theorem wd_800 : Cond.selects RX11 yX11_chain yX11_chain ∈ tG := tG_s4 80 rfl rfl
theorem wd_801 : Cond.code yX11_chain cX11_chain 2 (some .int) ∈ tG := tG_s4 81 rfl rfl
theorem wd_802 : Cond.methodLink RX11 182 yX2_chainOf ∈ tG := tG_s4 82 rfl rfl
theorem wd_803 : Cond.instanceMethod yX2_chainOf ∈ tG := tG_s4 83 rfl rfl
theorem wd_804 : Cond.selects RX2 yX2_chainOf yX2_chainOf ∈ tG := tG_s4 84 rfl rfl
theorem wd_805 : Cond.code yX2_chainOf cX2_chainOf 5 (some .int) ∈ tG := tG_s4 85 rfl rfl
theorem wd_806 : Cond.methodLink RL 203 yX11_sum ∈ tG := tG_s4 86 rfl rfl
theorem wd_807 : Cond.instanceMethod yX11_sum ∈ tG := tG_s4 87 rfl rfl
theorem wd_808 : Cond.selects RX11 yX11_sum yX11_sum ∈ tG := tG_s4 88 rfl rfl
theorem wd_809 : Cond.code yX11_sum cX11_sum 2 (some .int) ∈ tG := tG_s4 89 rfl rfl
theorem wd_810 : Cond.constant RX11 114 (-1000000001) ∈ tG := tG_s4 90 rfl rfl
theorem wd_811 : Cond.methodLink RL 182 yL_told ∈ tG := tG_s4 91 rfl rfl
theorem wd_812 : Cond.static yL_told ∈ tG := tG_s4 92 rfl rfl
theorem wd_813 : Cond.code yL_told cL_told 1 (some .int) ∈ tG := tG_s4 93 rfl rfl
theorem wd_814 : Cond.methodLink RL 176 yX11_person ∈ tG := tG_s4 94 rfl rfl
theorem wd_815 : Cond.instanceMethod yX11_person ∈ tG := tG_s4 95 rfl rfl
theorem wd_816 : Cond.selects RX11 yX11_person yX11_person ∈ tG := tG_s4 96 rfl rfl
theorem wd_817 : Cond.code yX11_person cX11_person 3 (some .int) ∈ tG := tG_s4 97 rfl rfl
theorem wd_818 : Cond.methodLink RX11 100 yX7_dueWhenTold ∈ tG := tG_s4 98 rfl rfl
theorem wd_819 : Cond.methodLink RL 205 yX11_strength ∈ tG := tG_s4 99 rfl rfl
theorem wd_820 : Cond.instanceMethod yX11_strength ∈ tG := tG_s4 100 rfl rfl
theorem wd_821 : Cond.selects RX11 yX11_strength yX11_strength ∈ tG := tG_s4 101 rfl rfl
theorem wd_822 : Cond.code yX11_strength cX11_strength 3 (some .int) ∈ tG := tG_s4 102 rfl rfl
theorem wd_823 : Cond.methodLink RX11 118 yX7_strengthOf ∈ tG := tG_s4 103 rfl rfl
theorem wd_824 : Cond.methodLink RL 206 yX11_purse ∈ tG := tG_s4 104 rfl rfl
theorem wd_825 : Cond.instanceMethod yX11_purse ∈ tG := tG_s4 105 rfl rfl
theorem wd_826 : Cond.selects RX11 yX11_purse yX11_purse ∈ tG := tG_s4 106 rfl rfl
theorem wd_827 : Cond.code yX11_purse cX11_purse 4 (some .int) ∈ tG := tG_s4 107 rfl rfl
theorem wd_828 : Cond.methodLink RL 208 yX11_sums ∈ tG := tG_s4 108 rfl rfl
theorem wd_829 : Cond.instanceMethod yX11_sums ∈ tG := tG_s4 109 rfl rfl
theorem wd_830 : Cond.selects RX11 yX11_sums yX11_sums ∈ tG := tG_s4 110 rfl rfl
theorem wd_831 : Cond.code yX11_sums cX11_sums 2 (some .int) ∈ tG := tG_s4 111 rfl rfl
theorem wd_832 : Cond.methodLink RX11 176 yX2_countOf ∈ tG := tG_s4 112 rfl rfl
theorem wd_833 : Cond.instanceMethod yX2_countOf ∈ tG := tG_s4 113 rfl rfl
theorem wd_834 : Cond.selects RX2 yX2_countOf yX2_countOf ∈ tG := tG_s4 114 rfl rfl
theorem wd_835 : Cond.code yX2_countOf cX2_countOf 2 (some .int) ∈ tG := tG_s4 115 rfl rfl
theorem wd_836 : Cond.methodLink RX2 162 yX2_howManyChoose ∈ tG := tG_s4 116 rfl rfl
theorem wd_838 : Cond.instanceMethod yX2_howManyChoose ∈ tG := tG_s4 118 rfl rfl
theorem wd_839 : Cond.code yX2_howManyChoose cX2_howManyChoose 4 (some .int) ∈ tG := tG_s4 119 rfl rfl
theorem wd_840 : Cond.methodLink RX2 165 yX2_howManySold ∈ tG := tG_s4 120 rfl rfl
theorem wd_841 : Cond.instanceMethod yX2_howManySold ∈ tG := tG_s4 121 rfl rfl
theorem wd_842 : Cond.selects RX2 yX2_howManySold yX2_howManySold ∈ tG := tG_s4 122 rfl rfl
theorem wd_843 : Cond.code yX2_howManySold cX2_howManySold 3 (some .int) ∈ tG := tG_s4 123 rfl rfl
theorem wd_844 : Cond.methodLink RX2 169 yX2_allPaid ∈ tG := tG_s4 124 rfl rfl
theorem wd_845 : Cond.instanceMethod yX2_allPaid ∈ tG := tG_s4 125 rfl rfl
theorem wd_846 : Cond.selects RX2 yX2_allPaid yX2_allPaid ∈ tG := tG_s4 126 rfl rfl
theorem wd_847 : Cond.code yX2_allPaid cX2_allPaid 3 (some .int) ∈ tG := tG_s4 127 rfl rfl
theorem wd_848 : Cond.methodLink RX2 172 yX2_howManyRegret ∈ tG := tG_s4 128 rfl rfl
theorem wd_849 : Cond.instanceMethod yX2_howManyRegret ∈ tG := tG_s4 129 rfl rfl
theorem wd_850 : Cond.selects RX2 yX2_howManyRegret yX2_howManyRegret ∈ tG := tG_s4 130 rfl rfl
theorem wd_851 : Cond.code yX2_howManyRegret cX2_howManyRegret 3 (some .int) ∈ tG := tG_s4 131 rfl rfl
theorem wd_852 : Cond.methodLink RL 211 yX11_longest ∈ tG := tG_s4 132 rfl rfl
theorem wd_853 : Cond.instanceMethod yX11_longest ∈ tG := tG_s4 133 rfl rfl
theorem wd_854 : Cond.selects RX11 yX11_longest yX11_longest ∈ tG := tG_s4 134 rfl rfl
theorem wd_855 : Cond.code yX11_longest cX11_longest 3 (some .int) ∈ tG := tG_s4 135 rfl rfl
theorem wd_856 : Cond.methodLink RX11 188 Lib.Math.max.name ∈ tG := tG_s4 136 rfl rfl
theorem wd_857 : Cond.methodLink RL 215 yX11_law ∈ tG := tG_s4 137 rfl rfl
theorem wd_858 : Cond.instanceMethod yX11_law ∈ tG := tG_s4 138 rfl rfl
theorem wd_859 : Cond.selects RX11 yX11_law yX11_law ∈ tG := tG_s4 139 rfl rfl
theorem wd_860 : Cond.code yX11_law cX11_law 3 (some .int) ∈ tG := tG_s4 140 rfl rfl
theorem wd_861 : Cond.methodLink RX11 225 yX2_choices ∈ tG := tG_s4 141 rfl rfl
theorem wd_862 : Cond.instanceMethod yX2_choices ∈ tG := tG_s4 142 rfl rfl
theorem wd_863 : Cond.selects RX2 yX2_choices yX2_choices ∈ tG := tG_s4 143 rfl rfl
theorem wd_864 : Cond.code yX2_choices cX2_choices 3 (some .int) ∈ tG := tG_s4 144 rfl rfl
theorem wd_865 : Cond.methodLink RX11 228 yX11_whoDiffers ∈ tG := tG_s4 145 rfl rfl
theorem wd_866 : Cond.static yX11_whoDiffers ∈ tG := tG_s4 146 rfl rfl
theorem wd_867 : Cond.code yX11_whoDiffers cX11_whoDiffers 4 (some .int) ∈ tG := tG_s4 147 rfl rfl
theorem wd_868 : Cond.methodLink RX11 231 yJ6_bitCount_0f7a4 ∈ tG := tG_s4 148 rfl rfl
theorem wd_869 : Cond.static yJ6_bitCount_0f7a4 ∈ tG := tG_s4 149 rfl rfl
theorem wd_870 : Cond.code yJ6_bitCount_0f7a4 cJ6_bitCount_0f7a4 1 (some .int) ∈ tG := tG_s4 150 rfl rfl
theorem wd_871 : Cond.constant RJ6 265 (1431655765) ∈ tG := tG_s4 151 rfl rfl
theorem wd_872 : Cond.constant RJ6 266 (858993459) ∈ tG := tG_s4 152 rfl rfl
theorem wd_873 : Cond.constant RJ6 267 (252645135) ∈ tG := tG_s4 153 rfl rfl
theorem wd_874 : Cond.methodLink RL 218 yX11_likely ∈ tG := tG_s4 154 rfl rfl
theorem wd_875 : Cond.instanceMethod yX11_likely ∈ tG := tG_s4 155 rfl rfl
theorem wd_876 : Cond.selects RX11 yX11_likely yX11_likely ∈ tG := tG_s4 156 rfl rfl
theorem wd_877 : Cond.code yX11_likely cX11_likely 3 (some .long) ∈ tG := tG_s4 157 rfl rfl
theorem wd_878 : Cond.constantLong RX11 199 (-1000000001) ∈ tG := tG_s4 158 rfl rfl
theorem wd_879 : Cond.methodLink RX11 201 yX11_expectedYes ∈ tG := tG_s4 159 rfl rfl
theorem wd_881 : Cond.instanceMethod yX11_expectedYes ∈ tG := tG_s4 161 rfl rfl
theorem wd_882 : Cond.code yX11_expectedYes cX11_expectedYes 10 (some .long) ∈ tG := tG_s4 162 rfl rfl
theorem wd_883 : Cond.constantLong RX11 337 (10) ∈ tG := tG_s4 163 rfl rfl
theorem wd_884 : Cond.methodLink RX11 339 yX11_oddsOf ∈ tG := tG_s4 164 rfl rfl
theorem wd_886 : Cond.instanceMethod yX11_oddsOf ∈ tG := tG_s4 166 rfl rfl
theorem wd_887 : Cond.code yX11_oddsOf cX11_oddsOf 6 (some .long) ∈ tG := tG_s4 167 rfl rfl
theorem wd_888 : Cond.methodLink RX11 209 yX2_sayYes ∈ tG := tG_s4 168 rfl rfl
theorem wd_889 : Cond.instanceMethod yX2_sayYes ∈ tG := tG_s4 169 rfl rfl
theorem wd_890 : Cond.selects RX2 yX2_sayYes yX2_sayYes ∈ tG := tG_s4 170 rfl rfl
theorem wd_891 : Cond.code yX2_sayYes cX2_sayYes 3 (some .int) ∈ tG := tG_s4 171 rfl rfl
theorem wd_892 : Cond.methodLink RX11 343 yX11_commonDivisor ∈ tG := tG_s4 172 rfl rfl
theorem wd_893 : Cond.static yX11_commonDivisor ∈ tG := tG_s4 173 rfl rfl
theorem wd_894 : Cond.code yX11_commonDivisor cX11_commonDivisor 11 (some .long) ∈ tG := tG_s4 174 rfl rfl
theorem wd_895 : Cond.methodLink RL 222 yX11_moods ∈ tG := tG_s4 175 rfl rfl
theorem wd_896 : Cond.instanceMethod yX11_moods ∈ tG := tG_s4 176 rfl rfl
theorem wd_897 : Cond.selects RX11 yX11_moods yX11_moods ∈ tG := tG_s4 177 rfl rfl
theorem wd_898 : Cond.code yX11_moods cX11_moods 6 (some .int) ∈ tG := tG_s4 178 rfl rfl
theorem wd_899 : Cond.methodLink RL 225 yX11_yes ∈ tG := tG_s4 179 rfl rfl
theorem wd_900 : Cond.instanceMethod yX11_yes ∈ tG := tG_s4 180 rfl rfl
theorem wd_901 : Cond.selects RX11 yX11_yes yX11_yes ∈ tG := tG_s4 181 rfl rfl
theorem wd_902 : Cond.code yX11_yes cX11_yes 4 (some .int) ∈ tG := tG_s4 182 rfl rfl
theorem wd_903 : Cond.methodLink RL 228 yX11_mean ∈ tG := tG_s4 183 rfl rfl
theorem wd_904 : Cond.instanceMethod yX11_mean ∈ tG := tG_s4 184 rfl rfl
theorem wd_905 : Cond.selects RX11 yX11_mean yX11_mean ∈ tG := tG_s4 185 rfl rfl
theorem wd_906 : Cond.code yX11_mean cX11_mean 2 (some .long) ∈ tG := tG_s4 186 rfl rfl
theorem wd_907 : Cond.methodLink RX11 205 yX11_everybody ∈ tG := tG_s4 187 rfl rfl
theorem wd_909 : Cond.instanceMethod yX11_everybody ∈ tG := tG_s4 189 rfl rfl
theorem wd_910 : Cond.code yX11_everybody cX11_everybody 1 (some .int) ∈ tG := tG_s4 190 rfl rfl
theorem wd_922 : Cond.methodLink RL 237 yX11_turn ∈ tG := tG_s4 202 rfl rfl
theorem wd_923 : Cond.instanceMethod yX11_turn ∈ tG := tG_s4 203 rfl rfl
theorem wd_924 : Cond.selects RX11 yX11_turn yX11_turn ∈ tG := tG_s4 204 rfl rfl
theorem wd_925 : Cond.code yX11_turn cX11_turn 6 (some .int) ∈ tG := tG_s4 205 rfl rfl
theorem wd_926 : Cond.methodLink RX11 212 yX10_addPlant ∈ tG := tG_s4 206 rfl rfl
theorem wd_927 : Cond.methodLink RL 240 yX11_guard ∈ tG := tG_s4 207 rfl rfl
theorem wd_928 : Cond.instanceMethod yX11_guard ∈ tG := tG_s4 208 rfl rfl
theorem wd_929 : Cond.selects RX11 yX11_guard yX11_guard ∈ tG := tG_s4 209 rfl rfl
theorem wd_930 : Cond.code yX11_guard cX11_guard 4 (some .int) ∈ tG := tG_s4 210 rfl rfl
theorem wd_931 : Cond.methodLink RL 243 yX11_again ∈ tG := tG_s4 211 rfl rfl
theorem wd_932 : Cond.instanceMethod yX11_again ∈ tG := tG_s4 212 rfl rfl
theorem wd_933 : Cond.selects RX11 yX11_again yX11_again ∈ tG := tG_s4 213 rfl rfl
theorem wd_934 : Cond.code yX11_again cX11_again 6 (some .int) ∈ tG := tG_s4 214 rfl rfl
theorem wd_935 : Cond.methodLink RX11 255 arraycopyName ∈ tG := tG_s4 215 rfl rfl
theorem wd_936 : Cond.methodLink RX11 261 yX11_dayBegunAlike ∈ tG := tG_s4 216 rfl rfl
theorem wd_938 : Cond.instanceMethod yX11_dayBegunAlike ∈ tG := tG_s4 218 rfl rfl
theorem wd_939 : Cond.code yX11_dayBegunAlike cX11_dayBegunAlike 5 (some .int) ∈ tG := tG_s4 219 rfl rfl
theorem wd_940 : Cond.methodLink RX11 242 Lib.Math.min.name ∈ tG := tG_s4 220 rfl rfl
theorem wd_941 : Cond.arrayClass .byte ∈ tG := tG_s4 221 rfl rfl
theorem wd_942 : Cond.sameMethod "ThoughtBetterOf$General" "ThoughtBetterOf$General" "sumOf" "(II)I" ∈ tG := tG_s4 222 rfl rfl
theorem wd_943 : Cond.sameMethod "ThoughtBetterOf$Firm" "ThoughtBetterOf$Firm" "strengthOf" "(I)I" ∈ tG := tG_s4 223 rfl rfl
theorem wd_944 : Cond.sameMethod "ThoughtBetterOf$Child" "ThoughtBetterOf$Child" "priceOf" "(II)I" ∈ tG := tG_s4 224 rfl rfl
theorem wp_0 : Cond.selects RL yL_holds yL_holds ∈ tG := tG_pv 0 rfl rfl
theorem wp_1 : Cond.selects RL yL_begin yL_begin ∈ tG := tG_pv 1 rfl rfl
theorem wp_2 : Cond.selects RX11 yX11_isNoFact yX11_isNoFact ∈ tG := tG_pv 2 rfl rfl
theorem wp_3 : Cond.selects RX11 yX11_shelfRefusal yX11_shelfRefusal ∈ tG := tG_pv 3 rfl rfl
theorem wp_4 : Cond.selects RL yL_tell yL_tell ∈ tG := tG_pv 4 rfl rfl
theorem wp_5 : Cond.selects RX10 yX10_hearStatement yX10_hearStatement ∈ tG := tG_pv 5 rfl rfl
theorem wp_6 : Cond.selects RX11 yX11_isNobody yX11_isNobody ∈ tG := tG_pv 6 rfl rfl
theorem wp_7 : Cond.selects RX2 yX2_offer yX2_offer ∈ tG := tG_pv 7 rfl rfl
theorem wp_8 : Cond.selects RX2 yX2_thinkFirst yX2_thinkFirst ∈ tG := tG_pv 8 rfl rfl
theorem wp_9 : Cond.selects RX2 yX2_buyBest yX2_buyBest ∈ tG := tG_pv 9 rfl rfl
theorem wp_10 : Cond.selects RX2 yX2_isForSale yX2_isForSale ∈ tG := tG_pv 10 rfl rfl
theorem wp_11 : Cond.selects RX2 yX2_leftOf yX2_leftOf ∈ tG := tG_pv 11 rfl rfl
theorem wp_12 : Cond.selects RX2 yX2_caseOf yX2_caseOf ∈ tG := tG_pv 12 rfl rfl
theorem wp_13 : Cond.selects RX2 yX2_choose yX2_choose ∈ tG := tG_pv 13 rfl rfl
theorem wp_14 : Cond.selects RX2 yX2_thinkAgain yX2_thinkAgain ∈ tG := tG_pv 14 rfl rfl
theorem wp_15 : Cond.selects RX2 yX2_howManyChoose yX2_howManyChoose ∈ tG := tG_pv 15 rfl rfl
theorem wp_16 : Cond.selects RX11 yX11_expectedYes yX11_expectedYes ∈ tG := tG_pv 16 rfl rfl
theorem wp_17 : Cond.selects RX11 yX11_oddsOf yX11_oddsOf ∈ tG := tG_pv 17 rfl rfl
theorem wp_18 : Cond.selects RX11 yX11_everybody yX11_everybody ∈ tG := tG_pv 18 rfl rfl
theorem wp_19 : Cond.selects RX11 yX11_dayBegunAlike yX11_dayBegunAlike ∈ tG := tG_pv 19 rfl rfl
theorem kd_X0_init : yX0_init.cls = RX0 ∧ yX0_init.cls ≠ "java/lang/invoke/MethodHandle" ∧ yX0_init.cls ≠ "java/lang/invoke/VarHandle" ∧ (parseMethodDescriptor yX0_init.desc).map (fun d => d.parameters.length) = some 2 := by decide +kernel
theorem kd_X0_dueWhenTold : yX0_dueWhenTold.cls = RX0 ∧ yX0_dueWhenTold.cls ≠ "java/lang/invoke/MethodHandle" ∧ yX0_dueWhenTold.cls ≠ "java/lang/invoke/VarHandle" ∧ (parseMethodDescriptor yX0_dueWhenTold.desc).map (fun d => d.parameters.length) = some 1 := by decide +kernel
theorem kd_X1_init : yX1_init.cls = RX1 ∧ yX1_init.cls ≠ "java/lang/invoke/MethodHandle" ∧ yX1_init.cls ≠ "java/lang/invoke/VarHandle" ∧ (parseMethodDescriptor yX1_init.desc).map (fun d => d.parameters.length) = some 2 := by decide +kernel
theorem kd_X1_buysOf : yX1_buysOf.cls = RX1 ∧ yX1_buysOf.cls ≠ "java/lang/invoke/MethodHandle" ∧ yX1_buysOf.cls ≠ "java/lang/invoke/VarHandle" ∧ (parseMethodDescriptor yX1_buysOf.desc).map (fun d => d.parameters.length) = some 2 := by decide +kernel
theorem kd_X1_priceOf : yX1_priceOf.cls = RX1 ∧ yX1_priceOf.cls ≠ "java/lang/invoke/MethodHandle" ∧ yX1_priceOf.cls ≠ "java/lang/invoke/VarHandle" ∧ (parseMethodDescriptor yX1_priceOf.desc).map (fun d => d.parameters.length) = some 2 := by decide +kernel
theorem kd_X2_init : yX2_init.cls = RX2 ∧ yX2_init.cls ≠ "java/lang/invoke/MethodHandle" ∧ yX2_init.cls ≠ "java/lang/invoke/VarHandle" ∧ (parseMethodDescriptor yX2_init.desc).map (fun d => d.parameters.length) = some 1 := by decide +kernel
theorem kd_X2_run : yX2_run.cls = RX2 ∧ yX2_run.cls ≠ "java/lang/invoke/MethodHandle" ∧ yX2_run.cls ≠ "java/lang/invoke/VarHandle" ∧ (parseMethodDescriptor yX2_run.desc).map (fun d => d.parameters.length) = some 2 := by decide +kernel
theorem kd_X2_offer : yX2_offer.cls = RX2 ∧ yX2_offer.cls ≠ "java/lang/invoke/MethodHandle" ∧ yX2_offer.cls ≠ "java/lang/invoke/VarHandle" ∧ (parseMethodDescriptor yX2_offer.desc).map (fun d => d.parameters.length) = some 5 := by decide +kernel
theorem kd_X2_thinkFirst : yX2_thinkFirst.cls = RX2 ∧ yX2_thinkFirst.cls ≠ "java/lang/invoke/MethodHandle" ∧ yX2_thinkFirst.cls ≠ "java/lang/invoke/VarHandle" ∧ (parseMethodDescriptor yX2_thinkFirst.desc).map (fun d => d.parameters.length) = some 1 := by decide +kernel
theorem kd_X2_choose : yX2_choose.cls = RX2 ∧ yX2_choose.cls ≠ "java/lang/invoke/MethodHandle" ∧ yX2_choose.cls ≠ "java/lang/invoke/VarHandle" ∧ (parseMethodDescriptor yX2_choose.desc).map (fun d => d.parameters.length) = some 1 := by decide +kernel
theorem kd_X2_thinkAgain : yX2_thinkAgain.cls = RX2 ∧ yX2_thinkAgain.cls ≠ "java/lang/invoke/MethodHandle" ∧ yX2_thinkAgain.cls ≠ "java/lang/invoke/VarHandle" ∧ (parseMethodDescriptor yX2_thinkAgain.desc).map (fun d => d.parameters.length) = some 1 := by decide +kernel
theorem kd_X2_buyBest : yX2_buyBest.cls = RX2 ∧ yX2_buyBest.cls ≠ "java/lang/invoke/MethodHandle" ∧ yX2_buyBest.cls ≠ "java/lang/invoke/VarHandle" ∧ (parseMethodDescriptor yX2_buyBest.desc).map (fun d => d.parameters.length) = some 1 := by decide +kernel
theorem kd_X2_caseOf : yX2_caseOf.cls = RX2 ∧ yX2_caseOf.cls ≠ "java/lang/invoke/MethodHandle" ∧ yX2_caseOf.cls ≠ "java/lang/invoke/VarHandle" ∧ (parseMethodDescriptor yX2_caseOf.desc).map (fun d => d.parameters.length) = some 1 := by decide +kernel
theorem kd_X2_leftOf : yX2_leftOf.cls = RX2 ∧ yX2_leftOf.cls ≠ "java/lang/invoke/MethodHandle" ∧ yX2_leftOf.cls ≠ "java/lang/invoke/VarHandle" ∧ (parseMethodDescriptor yX2_leftOf.desc).map (fun d => d.parameters.length) = some 2 := by decide +kernel
theorem kd_X2_isForSale : yX2_isForSale.cls = RX2 ∧ yX2_isForSale.cls ≠ "java/lang/invoke/MethodHandle" ∧ yX2_isForSale.cls ≠ "java/lang/invoke/VarHandle" ∧ (parseMethodDescriptor yX2_isForSale.desc).map (fun d => d.parameters.length) = some 2 := by decide +kernel
theorem kd_X2_toldChoice : yX2_toldChoice.cls = RX2 ∧ yX2_toldChoice.cls ≠ "java/lang/invoke/MethodHandle" ∧ yX2_toldChoice.cls ≠ "java/lang/invoke/VarHandle" ∧ (parseMethodDescriptor yX2_toldChoice.desc).map (fun d => d.parameters.length) = some 1 := by decide +kernel
theorem kd_X2_choices : yX2_choices.cls = RX2 ∧ yX2_choices.cls ≠ "java/lang/invoke/MethodHandle" ∧ yX2_choices.cls ≠ "java/lang/invoke/VarHandle" ∧ (parseMethodDescriptor yX2_choices.desc).map (fun d => d.parameters.length) = some 0 := by decide +kernel
theorem kd_X2_sayYes : yX2_sayYes.cls = RX2 ∧ yX2_sayYes.cls ≠ "java/lang/invoke/MethodHandle" ∧ yX2_sayYes.cls ≠ "java/lang/invoke/VarHandle" ∧ (parseMethodDescriptor yX2_sayYes.desc).map (fun d => d.parameters.length) = some 0 := by decide +kernel
theorem kd_X2_coinsAt : yX2_coinsAt.cls = RX2 ∧ yX2_coinsAt.cls ≠ "java/lang/invoke/MethodHandle" ∧ yX2_coinsAt.cls ≠ "java/lang/invoke/VarHandle" ∧ (parseMethodDescriptor yX2_coinsAt.desc).map (fun d => d.parameters.length) = some 2 := by decide +kernel
theorem kd_X2_fateOf : yX2_fateOf.cls = RX2 ∧ yX2_fateOf.cls ≠ "java/lang/invoke/MethodHandle" ∧ yX2_fateOf.cls ≠ "java/lang/invoke/VarHandle" ∧ (parseMethodDescriptor yX2_fateOf.desc).map (fun d => d.parameters.length) = some 2 := by decide +kernel
theorem kd_X2_countOf : yX2_countOf.cls = RX2 ∧ yX2_countOf.cls ≠ "java/lang/invoke/MethodHandle" ∧ yX2_countOf.cls ≠ "java/lang/invoke/VarHandle" ∧ (parseMethodDescriptor yX2_countOf.desc).map (fun d => d.parameters.length) = some 1 := by decide +kernel
theorem kd_X2_howManyChoose : yX2_howManyChoose.cls = RX2 ∧ yX2_howManyChoose.cls ≠ "java/lang/invoke/MethodHandle" ∧ yX2_howManyChoose.cls ≠ "java/lang/invoke/VarHandle" ∧ (parseMethodDescriptor yX2_howManyChoose.desc).map (fun d => d.parameters.length) = some 1 := by decide +kernel
theorem kd_X2_howManySold : yX2_howManySold.cls = RX2 ∧ yX2_howManySold.cls ≠ "java/lang/invoke/MethodHandle" ∧ yX2_howManySold.cls ≠ "java/lang/invoke/VarHandle" ∧ (parseMethodDescriptor yX2_howManySold.desc).map (fun d => d.parameters.length) = some 0 := by decide +kernel
theorem kd_X2_allPaid : yX2_allPaid.cls = RX2 ∧ yX2_allPaid.cls ≠ "java/lang/invoke/MethodHandle" ∧ yX2_allPaid.cls ≠ "java/lang/invoke/VarHandle" ∧ (parseMethodDescriptor yX2_allPaid.desc).map (fun d => d.parameters.length) = some 0 := by decide +kernel
theorem kd_X2_howManyRegret : yX2_howManyRegret.cls = RX2 ∧ yX2_howManyRegret.cls ≠ "java/lang/invoke/MethodHandle" ∧ yX2_howManyRegret.cls ≠ "java/lang/invoke/VarHandle" ∧ (parseMethodDescriptor yX2_howManyRegret.desc).map (fun d => d.parameters.length) = some 0 := by decide +kernel
theorem kd_X2_chainOf : yX2_chainOf.cls = RX2 ∧ yX2_chainOf.cls ≠ "java/lang/invoke/MethodHandle" ∧ yX2_chainOf.cls ≠ "java/lang/invoke/VarHandle" ∧ (parseMethodDescriptor yX2_chainOf.desc).map (fun d => d.parameters.length) = some 1 := by decide +kernel
theorem kd_X3_init : yX3_init.cls = RX3 ∧ yX3_init.cls ≠ "java/lang/invoke/MethodHandle" ∧ yX3_init.cls ≠ "java/lang/invoke/VarHandle" ∧ (parseMethodDescriptor yX3_init.desc).map (fun d => d.parameters.length) = some 2 := by decide +kernel
theorem kd_X3_sumOf : yX3_sumOf.cls = RX3 ∧ yX3_sumOf.cls ≠ "java/lang/invoke/MethodHandle" ∧ yX3_sumOf.cls ≠ "java/lang/invoke/VarHandle" ∧ (parseMethodDescriptor yX3_sumOf.desc).map (fun d => d.parameters.length) = some 2 := by decide +kernel
theorem kd_X3_priceOf : yX3_priceOf.cls = RX3 ∧ yX3_priceOf.cls ≠ "java/lang/invoke/MethodHandle" ∧ yX3_priceOf.cls ≠ "java/lang/invoke/VarHandle" ∧ (parseMethodDescriptor yX3_priceOf.desc).map (fun d => d.parameters.length) = some 2 := by decide +kernel
theorem kd_X3_fadeBy : yX3_fadeBy.cls = RX3 ∧ yX3_fadeBy.cls ≠ "java/lang/invoke/MethodHandle" ∧ yX3_fadeBy.cls ≠ "java/lang/invoke/VarHandle" ∧ (parseMethodDescriptor yX3_fadeBy.desc).map (fun d => d.parameters.length) = some 1 := by decide +kernel
theorem kd_X4_init : yX4_init.cls = RX4 ∧ yX4_init.cls ≠ "java/lang/invoke/MethodHandle" ∧ yX4_init.cls ≠ "java/lang/invoke/VarHandle" ∧ (parseMethodDescriptor yX4_init.desc).map (fun d => d.parameters.length) = some 2 := by decide +kernel
theorem kd_X4_strengthOf : yX4_strengthOf.cls = RX4 ∧ yX4_strengthOf.cls ≠ "java/lang/invoke/MethodHandle" ∧ yX4_strengthOf.cls ≠ "java/lang/invoke/VarHandle" ∧ (parseMethodDescriptor yX4_strengthOf.desc).map (fun d => d.parameters.length) = some 1 := by decide +kernel
theorem kd_X4_fadeBy : yX4_fadeBy.cls = RX4 ∧ yX4_fadeBy.cls ≠ "java/lang/invoke/MethodHandle" ∧ yX4_fadeBy.cls ≠ "java/lang/invoke/VarHandle" ∧ (parseMethodDescriptor yX4_fadeBy.desc).map (fun d => d.parameters.length) = some 1 := by decide +kernel
theorem kd_X5_init : yX5_init.cls = RX5 ∧ yX5_init.cls ≠ "java/lang/invoke/MethodHandle" ∧ yX5_init.cls ≠ "java/lang/invoke/VarHandle" ∧ (parseMethodDescriptor yX5_init.desc).map (fun d => d.parameters.length) = some 2 := by decide +kernel
theorem kd_X5_sumOf : yX5_sumOf.cls = RX5 ∧ yX5_sumOf.cls ≠ "java/lang/invoke/MethodHandle" ∧ yX5_sumOf.cls ≠ "java/lang/invoke/VarHandle" ∧ (parseMethodDescriptor yX5_sumOf.desc).map (fun d => d.parameters.length) = some 2 := by decide +kernel
theorem kd_X6_init : yX6_init.cls = RX6 ∧ yX6_init.cls ≠ "java/lang/invoke/MethodHandle" ∧ yX6_init.cls ≠ "java/lang/invoke/VarHandle" ∧ (parseMethodDescriptor yX6_init.desc).map (fun d => d.parameters.length) = some 2 := by decide +kernel
theorem kd_X6_sumOf : yX6_sumOf.cls = RX6 ∧ yX6_sumOf.cls ≠ "java/lang/invoke/MethodHandle" ∧ yX6_sumOf.cls ≠ "java/lang/invoke/VarHandle" ∧ (parseMethodDescriptor yX6_sumOf.desc).map (fun d => d.parameters.length) = some 2 := by decide +kernel
theorem kd_X7_init : yX7_init.cls = RX7 ∧ yX7_init.cls ≠ "java/lang/invoke/MethodHandle" ∧ yX7_init.cls ≠ "java/lang/invoke/VarHandle" ∧ (parseMethodDescriptor yX7_init.desc).map (fun d => d.parameters.length) = some 2 := by decide +kernel
theorem kd_X7_dueWhenTold : yX7_dueWhenTold.cls = RX7 ∧ yX7_dueWhenTold.cls ≠ "java/lang/invoke/MethodHandle" ∧ yX7_dueWhenTold.cls ≠ "java/lang/invoke/VarHandle" ∧ (parseMethodDescriptor yX7_dueWhenTold.desc).map (fun d => d.parameters.length) = some 1 := by decide +kernel
theorem kd_X7_sumOf : yX7_sumOf.cls = RX7 ∧ yX7_sumOf.cls ≠ "java/lang/invoke/MethodHandle" ∧ yX7_sumOf.cls ≠ "java/lang/invoke/VarHandle" ∧ (parseMethodDescriptor yX7_sumOf.desc).map (fun d => d.parameters.length) = some 2 := by decide +kernel
theorem kd_X7_strengthOf : yX7_strengthOf.cls = RX7 ∧ yX7_strengthOf.cls ≠ "java/lang/invoke/MethodHandle" ∧ yX7_strengthOf.cls ≠ "java/lang/invoke/VarHandle" ∧ (parseMethodDescriptor yX7_strengthOf.desc).map (fun d => d.parameters.length) = some 1 := by decide +kernel
theorem kd_X7_buysOf : yX7_buysOf.cls = RX7 ∧ yX7_buysOf.cls ≠ "java/lang/invoke/MethodHandle" ∧ yX7_buysOf.cls ≠ "java/lang/invoke/VarHandle" ∧ (parseMethodDescriptor yX7_buysOf.desc).map (fun d => d.parameters.length) = some 2 := by decide +kernel
theorem kd_X7_priceOf : yX7_priceOf.cls = RX7 ∧ yX7_priceOf.cls ≠ "java/lang/invoke/MethodHandle" ∧ yX7_priceOf.cls ≠ "java/lang/invoke/VarHandle" ∧ (parseMethodDescriptor yX7_priceOf.desc).map (fun d => d.parameters.length) = some 2 := by decide +kernel
theorem kd_X7_fadeBy : yX7_fadeBy.cls = RX7 ∧ yX7_fadeBy.cls ≠ "java/lang/invoke/MethodHandle" ∧ yX7_fadeBy.cls ≠ "java/lang/invoke/VarHandle" ∧ (parseMethodDescriptor yX7_fadeBy.desc).map (fun d => d.parameters.length) = some 1 := by decide +kernel
theorem kd_X8_init : yX8_init.cls = RX8 ∧ yX8_init.cls ≠ "java/lang/invoke/MethodHandle" ∧ yX8_init.cls ≠ "java/lang/invoke/VarHandle" ∧ (parseMethodDescriptor yX8_init.desc).map (fun d => d.parameters.length) = some 0 := by decide +kernel
theorem kd_X8_begin : yX8_begin.cls = RX8 ∧ yX8_begin.cls ≠ "java/lang/invoke/MethodHandle" ∧ yX8_begin.cls ≠ "java/lang/invoke/VarHandle" ∧ (parseMethodDescriptor yX8_begin.desc).map (fun d => d.parameters.length) = some 2 := by decide +kernel
theorem kd_X8_hasPlaces : yX8_hasPlaces.cls = RX8 ∧ yX8_hasPlaces.cls ≠ "java/lang/invoke/MethodHandle" ∧ yX8_hasPlaces.cls ≠ "java/lang/invoke/VarHandle" ∧ (parseMethodDescriptor yX8_hasPlaces.desc).map (fun d => d.parameters.length) = some 2 := by decide +kernel
theorem kd_X8_at : yX8_at.cls = RX8 ∧ yX8_at.cls ≠ "java/lang/invoke/MethodHandle" ∧ yX8_at.cls ≠ "java/lang/invoke/VarHandle" ∧ (parseMethodDescriptor yX8_at.desc).map (fun d => d.parameters.length) = some 1 := by decide +kernel
theorem kd_X8_write : yX8_write.cls = RX8 ∧ yX8_write.cls ≠ "java/lang/invoke/MethodHandle" ∧ yX8_write.cls ≠ "java/lang/invoke/VarHandle" ∧ (parseMethodDescriptor yX8_write.desc).map (fun d => d.parameters.length) = some 2 := by decide +kernel
theorem kd_X8_digitAt : yX8_digitAt.cls = RX8 ∧ yX8_digitAt.cls ≠ "java/lang/invoke/MethodHandle" ∧ yX8_digitAt.cls ≠ "java/lang/invoke/VarHandle" ∧ (parseMethodDescriptor yX8_digitAt.desc).map (fun d => d.parameters.length) = some 1 := by decide +kernel
theorem kd_X8_pairAt : yX8_pairAt.cls = RX8 ∧ yX8_pairAt.cls ≠ "java/lang/invoke/MethodHandle" ∧ yX8_pairAt.cls ≠ "java/lang/invoke/VarHandle" ∧ (parseMethodDescriptor yX8_pairAt.desc).map (fun d => d.parameters.length) = some 1 := by decide +kernel
theorem kd_X8_signAt : yX8_signAt.cls = RX8 ∧ yX8_signAt.cls ≠ "java/lang/invoke/MethodHandle" ∧ yX8_signAt.cls ≠ "java/lang/invoke/VarHandle" ∧ (parseMethodDescriptor yX8_signAt.desc).map (fun d => d.parameters.length) = some 1 := by decide +kernel
theorem kd_X8_signedAt : yX8_signedAt.cls = RX8 ∧ yX8_signedAt.cls ≠ "java/lang/invoke/MethodHandle" ∧ yX8_signedAt.cls ≠ "java/lang/invoke/VarHandle" ∧ (parseMethodDescriptor yX8_signedAt.desc).map (fun d => d.parameters.length) = some 1 := by decide +kernel
theorem kd_X9_init : yX9_init.cls = RX9 ∧ yX9_init.cls ≠ "java/lang/invoke/MethodHandle" ∧ yX9_init.cls ≠ "java/lang/invoke/VarHandle" ∧ (parseMethodDescriptor yX9_init.desc).map (fun d => d.parameters.length) = some 2 := by decide +kernel
theorem kd_X9_strengthOf : yX9_strengthOf.cls = RX9 ∧ yX9_strengthOf.cls ≠ "java/lang/invoke/MethodHandle" ∧ yX9_strengthOf.cls ≠ "java/lang/invoke/VarHandle" ∧ (parseMethodDescriptor yX9_strengthOf.desc).map (fun d => d.parameters.length) = some 1 := by decide +kernel
theorem kd_X9_buysOf : yX9_buysOf.cls = RX9 ∧ yX9_buysOf.cls ≠ "java/lang/invoke/MethodHandle" ∧ yX9_buysOf.cls ≠ "java/lang/invoke/VarHandle" ∧ (parseMethodDescriptor yX9_buysOf.desc).map (fun d => d.parameters.length) = some 2 := by decide +kernel
theorem kd_X10_init : yX10_init.cls = RX10 ∧ yX10_init.cls ≠ "java/lang/invoke/MethodHandle" ∧ yX10_init.cls ≠ "java/lang/invoke/VarHandle" ∧ (parseMethodDescriptor yX10_init.desc).map (fun d => d.parameters.length) = some 0 := by decide +kernel
theorem kd_X10_become : yX10_become.cls = RX10 ∧ yX10_become.cls ≠ "java/lang/invoke/MethodHandle" ∧ yX10_become.cls ≠ "java/lang/invoke/VarHandle" ∧ (parseMethodDescriptor yX10_become.desc).map (fun d => d.parameters.length) = some 1 := by decide +kernel
theorem kd_X10_isNoOne : yX10_isNoOne.cls ≠ "java/lang/invoke/MethodHandle" ∧ yX10_isNoOne.cls ≠ "java/lang/invoke/VarHandle" ∧ (parseMethodDescriptor yX10_isNoOne.desc).map (fun d => d.parameters.length) = some 4 := by decide +kernel
theorem kd_X10_addOne : yX10_addOne.cls = RX10 ∧ yX10_addOne.cls ≠ "java/lang/invoke/MethodHandle" ∧ yX10_addOne.cls ≠ "java/lang/invoke/VarHandle" ∧ (parseMethodDescriptor yX10_addOne.desc).map (fun d => d.parameters.length) = some 5 := by decide +kernel
theorem kd_X10_addFact : yX10_addFact.cls = RX10 ∧ yX10_addFact.cls ≠ "java/lang/invoke/MethodHandle" ∧ yX10_addFact.cls ≠ "java/lang/invoke/VarHandle" ∧ (parseMethodDescriptor yX10_addFact.desc).map (fun d => d.parameters.length) = some 3 := by decide +kernel
theorem kd_X10_addPlant : yX10_addPlant.cls = RX10 ∧ yX10_addPlant.cls ≠ "java/lang/invoke/MethodHandle" ∧ yX10_addPlant.cls ≠ "java/lang/invoke/VarHandle" ∧ (parseMethodDescriptor yX10_addPlant.desc).map (fun d => d.parameters.length) = some 5 := by decide +kernel
theorem kd_X10_turnKin : yX10_turnKin.cls = RX10 ∧ yX10_turnKin.cls ≠ "java/lang/invoke/MethodHandle" ∧ yX10_turnKin.cls ≠ "java/lang/invoke/VarHandle" ∧ (parseMethodDescriptor yX10_turnKin.desc).map (fun d => d.parameters.length) = some 2 := by decide +kernel
theorem kd_X10_areKin : yX10_areKin.cls = RX10 ∧ yX10_areKin.cls ≠ "java/lang/invoke/MethodHandle" ∧ yX10_areKin.cls ≠ "java/lang/invoke/VarHandle" ∧ (parseMethodDescriptor yX10_areKin.desc).map (fun d => d.parameters.length) = some 2 := by decide +kernel
theorem kd_X10_pairsOfKin : yX10_pairsOfKin.cls = RX10 ∧ yX10_pairsOfKin.cls ≠ "java/lang/invoke/MethodHandle" ∧ yX10_pairsOfKin.cls ≠ "java/lang/invoke/VarHandle" ∧ (parseMethodDescriptor yX10_pairsOfKin.desc).map (fun d => d.parameters.length) = some 0 := by decide +kernel
theorem kd_X10_changeRule : yX10_changeRule.cls = RX10 ∧ yX10_changeRule.cls ≠ "java/lang/invoke/MethodHandle" ∧ yX10_changeRule.cls ≠ "java/lang/invoke/VarHandle" ∧ (parseMethodDescriptor yX10_changeRule.desc).map (fun d => d.parameters.length) = some 2 := by decide +kernel
theorem kd_X10_allCoins : yX10_allCoins.cls = RX10 ∧ yX10_allCoins.cls ≠ "java/lang/invoke/MethodHandle" ∧ yX10_allCoins.cls ≠ "java/lang/invoke/VarHandle" ∧ (parseMethodDescriptor yX10_allCoins.desc).map (fun d => d.parameters.length) = some 0 := by decide +kernel
theorem kd_X10_weightOf : yX10_weightOf.cls = RX10 ∧ yX10_weightOf.cls ≠ "java/lang/invoke/MethodHandle" ∧ yX10_weightOf.cls ≠ "java/lang/invoke/VarHandle" ∧ (parseMethodDescriptor yX10_weightOf.desc).map (fun d => d.parameters.length) = some 3 := by decide +kernel
theorem kd_X10_hear : yX10_hear.cls = RX10 ∧ yX10_hear.cls ≠ "java/lang/invoke/MethodHandle" ∧ yX10_hear.cls ≠ "java/lang/invoke/VarHandle" ∧ (parseMethodDescriptor yX10_hear.desc).map (fun d => d.parameters.length) = some 1 := by decide +kernel
theorem kd_X10_shapeBehind : yX10_shapeBehind.cls ≠ "java/lang/invoke/MethodHandle" ∧ yX10_shapeBehind.cls ≠ "java/lang/invoke/VarHandle" ∧ (parseMethodDescriptor yX10_shapeBehind.desc).map (fun d => d.parameters.length) = some 1 := by decide +kernel
theorem kd_X10_firstWrong : yX10_firstWrong.cls ≠ "java/lang/invoke/MethodHandle" ∧ yX10_firstWrong.cls ≠ "java/lang/invoke/VarHandle" ∧ (parseMethodDescriptor yX10_firstWrong.desc).map (fun d => d.parameters.length) = some 1 := by decide +kernel
theorem kd_X10_fitsShape : yX10_fitsShape.cls ≠ "java/lang/invoke/MethodHandle" ∧ yX10_fitsShape.cls ≠ "java/lang/invoke/VarHandle" ∧ (parseMethodDescriptor yX10_fitsShape.desc).map (fun d => d.parameters.length) = some 2 := by decide +kernel
theorem kd_X10_hearStatement : yX10_hearStatement.cls = RX10 ∧ yX10_hearStatement.cls ≠ "java/lang/invoke/MethodHandle" ∧ yX10_hearStatement.cls ≠ "java/lang/invoke/VarHandle" ∧ (parseMethodDescriptor yX10_hearStatement.desc).map (fun d => d.parameters.length) = some 2 := by decide +kernel
theorem kd_X11_init : yX11_init.cls = RX11 ∧ yX11_init.cls ≠ "java/lang/invoke/MethodHandle" ∧ yX11_init.cls ≠ "java/lang/invoke/VarHandle" ∧ (parseMethodDescriptor yX11_init.desc).map (fun d => d.parameters.length) = some 0 := by decide +kernel
theorem kd_X11_town : yX11_town.cls = RX11 ∧ yX11_town.cls ≠ "java/lang/invoke/MethodHandle" ∧ yX11_town.cls ≠ "java/lang/invoke/VarHandle" ∧ (parseMethodDescriptor yX11_town.desc).map (fun d => d.parameters.length) = some 1 := by decide +kernel
theorem kd_X11_person : yX11_person.cls = RX11 ∧ yX11_person.cls ≠ "java/lang/invoke/MethodHandle" ∧ yX11_person.cls ≠ "java/lang/invoke/VarHandle" ∧ (parseMethodDescriptor yX11_person.desc).map (fun d => d.parameters.length) = some 2 := by decide +kernel
theorem kd_X11_strength : yX11_strength.cls = RX11 ∧ yX11_strength.cls ≠ "java/lang/invoke/MethodHandle" ∧ yX11_strength.cls ≠ "java/lang/invoke/VarHandle" ∧ (parseMethodDescriptor yX11_strength.desc).map (fun d => d.parameters.length) = some 2 := by decide +kernel
theorem kd_X11_comes : yX11_comes.cls = RX11 ∧ yX11_comes.cls ≠ "java/lang/invoke/MethodHandle" ∧ yX11_comes.cls ≠ "java/lang/invoke/VarHandle" ∧ (parseMethodDescriptor yX11_comes.desc).map (fun d => d.parameters.length) = some 5 := by decide +kernel
theorem kd_X11_fact : yX11_fact.cls = RX11 ∧ yX11_fact.cls ≠ "java/lang/invoke/MethodHandle" ∧ yX11_fact.cls ≠ "java/lang/invoke/VarHandle" ∧ (parseMethodDescriptor yX11_fact.desc).map (fun d => d.parameters.length) = some 3 := by decide +kernel
theorem kd_X11_chance : yX11_chance.cls = RX11 ∧ yX11_chance.cls ≠ "java/lang/invoke/MethodHandle" ∧ yX11_chance.cls ≠ "java/lang/invoke/VarHandle" ∧ (parseMethodDescriptor yX11_chance.desc).map (fun d => d.parameters.length) = some 2 := by decide +kernel
theorem kd_X11_kin : yX11_kin.cls = RX11 ∧ yX11_kin.cls ≠ "java/lang/invoke/MethodHandle" ∧ yX11_kin.cls ≠ "java/lang/invoke/VarHandle" ∧ (parseMethodDescriptor yX11_kin.desc).map (fun d => d.parameters.length) = some 2 := by decide +kernel
theorem kd_X11_set : yX11_set.cls = RX11 ∧ yX11_set.cls ≠ "java/lang/invoke/MethodHandle" ∧ yX11_set.cls ≠ "java/lang/invoke/VarHandle" ∧ (parseMethodDescriptor yX11_set.desc).map (fun d => d.parameters.length) = some 2 := by decide +kernel
theorem kd_X11_fate : yX11_fate.cls = RX11 ∧ yX11_fate.cls ≠ "java/lang/invoke/MethodHandle" ∧ yX11_fate.cls ≠ "java/lang/invoke/VarHandle" ∧ (parseMethodDescriptor yX11_fate.desc).map (fun d => d.parameters.length) = some 2 := by decide +kernel
theorem kd_X11_sum : yX11_sum.cls = RX11 ∧ yX11_sum.cls ≠ "java/lang/invoke/MethodHandle" ∧ yX11_sum.cls ≠ "java/lang/invoke/VarHandle" ∧ (parseMethodDescriptor yX11_sum.desc).map (fun d => d.parameters.length) = some 1 := by decide +kernel
theorem kd_X11_sums : yX11_sums.cls = RX11 ∧ yX11_sums.cls ≠ "java/lang/invoke/MethodHandle" ∧ yX11_sums.cls ≠ "java/lang/invoke/VarHandle" ∧ (parseMethodDescriptor yX11_sums.desc).map (fun d => d.parameters.length) = some 1 := by decide +kernel
theorem kd_X11_chain : yX11_chain.cls = RX11 ∧ yX11_chain.cls ≠ "java/lang/invoke/MethodHandle" ∧ yX11_chain.cls ≠ "java/lang/invoke/VarHandle" ∧ (parseMethodDescriptor yX11_chain.desc).map (fun d => d.parameters.length) = some 1 := by decide +kernel
theorem kd_X11_longest : yX11_longest.cls = RX11 ∧ yX11_longest.cls ≠ "java/lang/invoke/MethodHandle" ∧ yX11_longest.cls ≠ "java/lang/invoke/VarHandle" ∧ (parseMethodDescriptor yX11_longest.desc).map (fun d => d.parameters.length) = some 0 := by decide +kernel
theorem kd_X11_yes : yX11_yes.cls = RX11 ∧ yX11_yes.cls ≠ "java/lang/invoke/MethodHandle" ∧ yX11_yes.cls ≠ "java/lang/invoke/VarHandle" ∧ (parseMethodDescriptor yX11_yes.desc).map (fun d => d.parameters.length) = some 1 := by decide +kernel
theorem kd_X11_moods : yX11_moods.cls = RX11 ∧ yX11_moods.cls ≠ "java/lang/invoke/MethodHandle" ∧ yX11_moods.cls ≠ "java/lang/invoke/VarHandle" ∧ (parseMethodDescriptor yX11_moods.desc).map (fun d => d.parameters.length) = some 2 := by decide +kernel
theorem kd_X11_likely : yX11_likely.cls = RX11 ∧ yX11_likely.cls ≠ "java/lang/invoke/MethodHandle" ∧ yX11_likely.cls ≠ "java/lang/invoke/VarHandle" ∧ (parseMethodDescriptor yX11_likely.desc).map (fun d => d.parameters.length) = some 2 := by decide +kernel
theorem kd_X11_mean : yX11_mean.cls = RX11 ∧ yX11_mean.cls ≠ "java/lang/invoke/MethodHandle" ∧ yX11_mean.cls ≠ "java/lang/invoke/VarHandle" ∧ (parseMethodDescriptor yX11_mean.desc).map (fun d => d.parameters.length) = some 1 := by decide +kernel
theorem kd_X11_turn : yX11_turn.cls = RX11 ∧ yX11_turn.cls ≠ "java/lang/invoke/MethodHandle" ∧ yX11_turn.cls ≠ "java/lang/invoke/VarHandle" ∧ (parseMethodDescriptor yX11_turn.desc).map (fun d => d.parameters.length) = some 2 := by decide +kernel
theorem kd_X11_guard : yX11_guard.cls = RX11 ∧ yX11_guard.cls ≠ "java/lang/invoke/MethodHandle" ∧ yX11_guard.cls ≠ "java/lang/invoke/VarHandle" ∧ (parseMethodDescriptor yX11_guard.desc).map (fun d => d.parameters.length) = some 1 := by decide +kernel
theorem kd_X11_law : yX11_law.cls = RX11 ∧ yX11_law.cls ≠ "java/lang/invoke/MethodHandle" ∧ yX11_law.cls ≠ "java/lang/invoke/VarHandle" ∧ (parseMethodDescriptor yX11_law.desc).map (fun d => d.parameters.length) = some 1 := by decide +kernel
theorem kd_X11_purse : yX11_purse.cls = RX11 ∧ yX11_purse.cls ≠ "java/lang/invoke/MethodHandle" ∧ yX11_purse.cls ≠ "java/lang/invoke/VarHandle" ∧ (parseMethodDescriptor yX11_purse.desc).map (fun d => d.parameters.length) = some 1 := by decide +kernel
theorem kd_X11_again : yX11_again.cls = RX11 ∧ yX11_again.cls ≠ "java/lang/invoke/MethodHandle" ∧ yX11_again.cls ≠ "java/lang/invoke/VarHandle" ∧ (parseMethodDescriptor yX11_again.desc).map (fun d => d.parameters.length) = some 1 := by decide +kernel
theorem kd_X11_count : yX11_count.cls = RX11 ∧ yX11_count.cls ≠ "java/lang/invoke/MethodHandle" ∧ yX11_count.cls ≠ "java/lang/invoke/VarHandle" ∧ (parseMethodDescriptor yX11_count.desc).map (fun d => d.parameters.length) = some 1 := by decide +kernel
theorem kd_X11_keep : yX11_keep.cls = RX11 ∧ yX11_keep.cls ≠ "java/lang/invoke/MethodHandle" ∧ yX11_keep.cls ≠ "java/lang/invoke/VarHandle" ∧ (parseMethodDescriptor yX11_keep.desc).map (fun d => d.parameters.length) = some 4 := by decide +kernel
theorem kd_X11_row : yX11_row.cls = RX11 ∧ yX11_row.cls ≠ "java/lang/invoke/MethodHandle" ∧ yX11_row.cls ≠ "java/lang/invoke/VarHandle" ∧ (parseMethodDescriptor yX11_row.desc).map (fun d => d.parameters.length) = some 3 := by decide +kernel
theorem kd_X11_put : yX11_put.cls = RX11 ∧ yX11_put.cls ≠ "java/lang/invoke/MethodHandle" ∧ yX11_put.cls ≠ "java/lang/invoke/VarHandle" ∧ (parseMethodDescriptor yX11_put.desc).map (fun d => d.parameters.length) = some 3 := by decide +kernel
theorem kd_X11_isOut : yX11_isOut.cls ≠ "java/lang/invoke/MethodHandle" ∧ yX11_isOut.cls ≠ "java/lang/invoke/VarHandle" ∧ (parseMethodDescriptor yX11_isOut.desc).map (fun d => d.parameters.length) = some 3 := by decide +kernel
theorem kd_X11_sideOf : yX11_sideOf.cls ≠ "java/lang/invoke/MethodHandle" ∧ yX11_sideOf.cls ≠ "java/lang/invoke/VarHandle" ∧ (parseMethodDescriptor yX11_sideOf.desc).map (fun d => d.parameters.length) = some 1 := by decide +kernel
theorem kd_X11_isNobody : yX11_isNobody.cls = RX11 ∧ yX11_isNobody.cls ≠ "java/lang/invoke/MethodHandle" ∧ yX11_isNobody.cls ≠ "java/lang/invoke/VarHandle" ∧ (parseMethodDescriptor yX11_isNobody.desc).map (fun d => d.parameters.length) = some 1 := by decide +kernel
theorem kd_X11_isNoFact : yX11_isNoFact.cls = RX11 ∧ yX11_isNoFact.cls ≠ "java/lang/invoke/MethodHandle" ∧ yX11_isNoFact.cls ≠ "java/lang/invoke/VarHandle" ∧ (parseMethodDescriptor yX11_isNoFact.desc).map (fun d => d.parameters.length) = some 1 := by decide +kernel
theorem kd_X11_isNoShelf : yX11_isNoShelf.cls ≠ "java/lang/invoke/MethodHandle" ∧ yX11_isNoShelf.cls ≠ "java/lang/invoke/VarHandle" ∧ (parseMethodDescriptor yX11_isNoShelf.desc).map (fun d => d.parameters.length) = some 1 := by decide +kernel
theorem kd_X11_everybody : yX11_everybody.cls = RX11 ∧ yX11_everybody.cls ≠ "java/lang/invoke/MethodHandle" ∧ yX11_everybody.cls ≠ "java/lang/invoke/VarHandle" ∧ (parseMethodDescriptor yX11_everybody.desc).map (fun d => d.parameters.length) = some 0 := by decide +kernel
theorem kd_X11_shelfRefusal : yX11_shelfRefusal.cls = RX11 ∧ yX11_shelfRefusal.cls ≠ "java/lang/invoke/MethodHandle" ∧ yX11_shelfRefusal.cls ≠ "java/lang/invoke/VarHandle" ∧ (parseMethodDescriptor yX11_shelfRefusal.desc).map (fun d => d.parameters.length) = some 2 := by decide +kernel
theorem kd_X11_whoDiffers : yX11_whoDiffers.cls ≠ "java/lang/invoke/MethodHandle" ∧ yX11_whoDiffers.cls ≠ "java/lang/invoke/VarHandle" ∧ (parseMethodDescriptor yX11_whoDiffers.desc).map (fun d => d.parameters.length) = some 2 := by decide +kernel
theorem kd_X11_expectedYes : yX11_expectedYes.cls = RX11 ∧ yX11_expectedYes.cls ≠ "java/lang/invoke/MethodHandle" ∧ yX11_expectedYes.cls ≠ "java/lang/invoke/VarHandle" ∧ (parseMethodDescriptor yX11_expectedYes.desc).map (fun d => d.parameters.length) = some 2 := by decide +kernel
theorem kd_X11_oddsOf : yX11_oddsOf.cls = RX11 ∧ yX11_oddsOf.cls ≠ "java/lang/invoke/MethodHandle" ∧ yX11_oddsOf.cls ≠ "java/lang/invoke/VarHandle" ∧ (parseMethodDescriptor yX11_oddsOf.desc).map (fun d => d.parameters.length) = some 1 := by decide +kernel
theorem kd_X11_commonDivisor : yX11_commonDivisor.cls ≠ "java/lang/invoke/MethodHandle" ∧ yX11_commonDivisor.cls ≠ "java/lang/invoke/VarHandle" ∧ (parseMethodDescriptor yX11_commonDivisor.desc).map (fun d => d.parameters.length) = some 2 := by decide +kernel
theorem kd_X11_dayBegunAlike : yX11_dayBegunAlike.cls = RX11 ∧ yX11_dayBegunAlike.cls ≠ "java/lang/invoke/MethodHandle" ∧ yX11_dayBegunAlike.cls ≠ "java/lang/invoke/VarHandle" ∧ (parseMethodDescriptor yX11_dayBegunAlike.desc).map (fun d => d.parameters.length) = some 1 := by decide +kernel
theorem kd_X11_oneOfKind : yX11_oneOfKind.cls ≠ "java/lang/invoke/MethodHandle" ∧ yX11_oneOfKind.cls ≠ "java/lang/invoke/VarHandle" ∧ (parseMethodDescriptor yX11_oneOfKind.desc).map (fun d => d.parameters.length) = some 2 := by decide +kernel
theorem kd_J6_compare_7cf53 : yJ6_compare_7cf53.cls ≠ "java/lang/invoke/MethodHandle" ∧ yJ6_compare_7cf53.cls ≠ "java/lang/invoke/VarHandle" ∧ (parseMethodDescriptor yJ6_compare_7cf53.desc).map (fun d => d.parameters.length) = some 2 := by decide +kernel
theorem kd_J6_bitCount_0f7a4 : yJ6_bitCount_0f7a4.cls ≠ "java/lang/invoke/MethodHandle" ∧ yJ6_bitCount_0f7a4.cls ≠ "java/lang/invoke/VarHandle" ∧ (parseMethodDescriptor yJ6_bitCount_0f7a4.desc).map (fun d => d.parameters.length) = some 1 := by decide +kernel
theorem kd_L_init : yL_init.cls = RL ∧ yL_init.cls ≠ "java/lang/invoke/MethodHandle" ∧ yL_init.cls ≠ "java/lang/invoke/VarHandle" ∧ (parseMethodDescriptor yL_init.desc).map (fun d => d.parameters.length) = some 0 := by decide +kernel
theorem kd_L_cell : yL_cell.cls ≠ "java/lang/invoke/MethodHandle" ∧ yL_cell.cls ≠ "java/lang/invoke/VarHandle" ∧ (parseMethodDescriptor yL_cell.desc).map (fun d => d.parameters.length) = some 2 := by decide +kernel
theorem kd_L_some : yL_some.cls ≠ "java/lang/invoke/MethodHandle" ∧ yL_some.cls ≠ "java/lang/invoke/VarHandle" ∧ (parseMethodDescriptor yL_some.desc).map (fun d => d.parameters.length) = some 3 := by decide +kernel
theorem kd_L_tell : yL_tell.cls = RL ∧ yL_tell.cls ≠ "java/lang/invoke/MethodHandle" ∧ yL_tell.cls ≠ "java/lang/invoke/VarHandle" ∧ (parseMethodDescriptor yL_tell.desc).map (fun d => d.parameters.length) = some 2 := by decide +kernel
theorem kd_L_told : yL_told.cls ≠ "java/lang/invoke/MethodHandle" ∧ yL_told.cls ≠ "java/lang/invoke/VarHandle" ∧ (parseMethodDescriptor yL_told.desc).map (fun d => d.parameters.length) = some 1 := by decide +kernel
theorem kd_L_begin : yL_begin.cls = RL ∧ yL_begin.cls ≠ "java/lang/invoke/MethodHandle" ∧ yL_begin.cls ≠ "java/lang/invoke/VarHandle" ∧ (parseMethodDescriptor yL_begin.desc).map (fun d => d.parameters.length) = some 2 := by decide +kernel
theorem kd_L_holds : yL_holds.cls = RL ∧ yL_holds.cls ≠ "java/lang/invoke/MethodHandle" ∧ yL_holds.cls ≠ "java/lang/invoke/VarHandle" ∧ (parseMethodDescriptor yL_holds.desc).map (fun d => d.parameters.length) = some 1 := by decide +kernel
