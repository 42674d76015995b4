def TT : List Cond := lw_tbl.filter goodWord
theorem TT_law : ∀ w ∈ TT, w ∈ lw_tbl := fun _ h => (List.mem_filter.mp h).1
theorem TT_good : ∀ w ∈ TT, goodWord w = true := fun _ h => (List.mem_filter.mp h).2
theorem TT_at {w : Cond} (i : Nat) (h : lw_tbl[i]? = some w) (hg : goodWord w = true) : w ∈ TT := List.mem_filter.mpr ⟨List.mem_of_getElem? h, hg⟩
theorem TT_in {w : Cond} (h : w ∈ tables_1) (hg : goodWord w = true) : w ∈ TT := List.mem_filter.mpr ⟨List.mem_append_right _ h, hg⟩
theorem tm_1 : ∀ w ∈ tables_1_1, w ∈ tables_1 := fun _ h => List.mem_append_left _ h
theorem tm_2 : ∀ w ∈ tables_1_2, w ∈ tables_1 := fun _ h => List.mem_append_right _ (List.mem_append_left _ h)
theorem tm_3 : ∀ w ∈ tables_1_3, w ∈ tables_1 := fun _ h => List.mem_append_right _ (List.mem_append_right _ (List.mem_append_left _ h))
theorem tm_4 : ∀ w ∈ tables_1_4, w ∈ tables_1 := fun _ h => List.mem_append_right _ (List.mem_append_right _ (List.mem_append_right _ (List.mem_append_left _ h)))
theorem tm_5 : ∀ w ∈ tables_1_5, w ∈ tables_1 := fun _ h => List.mem_append_right _ (List.mem_append_right _ (List.mem_append_right _ (List.mem_append_right _ (List.mem_append_left _ h))))
theorem tm_6 : ∀ w ∈ tables_1_6, w ∈ tables_1 := fun _ h => List.mem_append_right _ (List.mem_append_right _ (List.mem_append_right _ (List.mem_append_right _ (List.mem_append_right _ (List.mem_append_left _ h)))))
theorem tm_7 : ∀ w ∈ tables_1_7, w ∈ tables_1 := fun _ h => List.mem_append_right _ (List.mem_append_right _ (List.mem_append_right _ (List.mem_append_right _ (List.mem_append_right _ (List.mem_append_right _ (List.mem_append_left _ h))))))
theorem tm_8 : ∀ w ∈ tables_1_8, w ∈ tables_1 := fun _ h => List.mem_append_right _ (List.mem_append_right _ (List.mem_append_right _ (List.mem_append_right _ (List.mem_append_right _ (List.mem_append_right _ (List.mem_append_right _ (h)))))))
theorem tw_85 : Cond.initialized RL ∈ TT := TT_in (tm_1 _ (List.mem_of_getElem? (i := 0) rfl)) rfl
theorem tw_86 : Cond.initialized RX8 ∈ TT := TT_in (tm_1 _ (List.mem_of_getElem? (i := 1) rfl)) rfl
theorem tw_87 : Cond.initialized RX6 ∈ TT := TT_in (tm_1 _ (List.mem_of_getElem? (i := 2) rfl)) rfl
theorem tw_88 : Cond.initialized RX0 ∈ TT := TT_in (tm_1 _ (List.mem_of_getElem? (i := 3) rfl)) rfl
theorem tw_89 : Cond.initialized RX1 ∈ TT := TT_in (tm_1 _ (List.mem_of_getElem? (i := 4) rfl)) rfl
theorem tw_90 : Cond.initialized RX2 ∈ TT := TT_in (tm_1 _ (List.mem_of_getElem? (i := 5) rfl)) rfl
theorem tw_91 : Cond.initialized RX3 ∈ TT := TT_in (tm_1 _ (List.mem_of_getElem? (i := 6) rfl)) rfl
theorem tw_92 : Cond.initialized RX5 ∈ TT := TT_in (tm_1 _ (List.mem_of_getElem? (i := 7) rfl)) rfl
theorem tw_93 : Cond.initialized RX4 ∈ TT := TT_in (tm_1 _ (List.mem_of_getElem? (i := 8) rfl)) rfl
theorem tw_94 : Cond.initialized RX7 ∈ TT := TT_in (tm_1 _ (List.mem_of_getElem? (i := 9) rfl)) rfl
theorem tw_95 : Cond.initialized RX9 ∈ TT := TT_in (tm_1 _ (List.mem_of_getElem? (i := 10) rfl)) rfl
theorem tw_96 : Cond.initialized "java/lang/Throwable" ∈ TT := TT_in (tm_1 _ (List.mem_of_getElem? (i := 11) rfl)) rfl
theorem tw_97 : Cond.initialized "java/lang/Exception" ∈ TT := TT_in (tm_1 _ (List.mem_of_getElem? (i := 12) rfl)) rfl
theorem tw_98 : Cond.initialized "java/lang/RuntimeException" ∈ TT := TT_in (tm_1 _ (List.mem_of_getElem? (i := 13) rfl)) rfl
theorem tw_99 : Cond.initialized "java/lang/IllegalArgumentException" ∈ TT := TT_in (tm_1 _ (List.mem_of_getElem? (i := 14) rfl)) rfl
theorem tw_100 : Cond.initialized "java/lang/IllegalStateException" ∈ TT := TT_in (tm_1 _ (List.mem_of_getElem? (i := 15) rfl)) rfl
theorem tw_101 : Cond.initialized "java/lang/UnsupportedOperationException" ∈ TT := TT_in (tm_1 _ (List.mem_of_getElem? (i := 16) rfl)) rfl
theorem tw_102 : Cond.initialized "java/lang/IndexOutOfBoundsException" ∈ TT := TT_in (tm_1 _ (List.mem_of_getElem? (i := 17) rfl)) rfl
theorem tw_103 : Cond.initialized RJx00060 ∈ TT := TT_in (tm_1 _ (List.mem_of_getElem? (i := 18) rfl)) rfl
theorem tw_104 : Cond.initialized RJ0 ∈ TT := TT_in (tm_1 _ (List.mem_of_getElem? (i := 19) rfl)) rfl
theorem tw_105 : Cond.initialized "java/util/NoSuchElementException" ∈ TT := TT_in (tm_1 _ (List.mem_of_getElem? (i := 20) rfl)) rfl
theorem tw_106 : Cond.initialized RJ1 ∈ TT := TT_in (tm_1 _ (List.mem_of_getElem? (i := 21) rfl)) rfl
theorem tw_107 : Cond.initialized RJ9 ∈ TT := TT_in (tm_1 _ (List.mem_of_getElem? (i := 22) rfl)) rfl
theorem tw_108 : Cond.initialized RJ2 ∈ TT := TT_in (tm_1 _ (List.mem_of_getElem? (i := 23) rfl)) rfl
theorem tw_109 : Cond.initialized RJ3 ∈ TT := TT_in (tm_1 _ (List.mem_of_getElem? (i := 24) rfl)) rfl
theorem tw_110 : Cond.initialized RJ11 ∈ TT := TT_in (tm_1 _ (List.mem_of_getElem? (i := 25) rfl)) rfl
theorem tw_111 : Cond.initialized "java/lang/ArithmeticException" ∈ TT := TT_in (tm_1 _ (List.mem_of_getElem? (i := 26) rfl)) rfl
theorem tw_112 : Cond.classLink RL 8 RX8 ∈ TT := TT_in (tm_1 _ (List.mem_of_getElem? (i := 27) rfl)) rfl
theorem tw_113 : Cond.instantiable RX8 19 ∈ TT := TT_in (tm_1 _ (List.mem_of_getElem? (i := 28) rfl)) rfl
theorem tw_114 : Cond.methodLink RL 116 yX8_init ∈ TT := TT_in (tm_1 _ (List.mem_of_getElem? (i := 29) rfl)) rfl
theorem tw_115 : Cond.instanceMethod yX8_init ∈ TT := TT_in (tm_1 _ (List.mem_of_getElem? (i := 30) rfl)) rfl
theorem tw_116 : Cond.code yX8_init cX8_init 1 none ∈ TT := TT_in (tm_1 _ (List.mem_of_getElem? (i := 31) rfl)) rfl
theorem tw_120 : Cond.classLink RX8 7 RX6 ∈ TT := TT_in (tm_1 _ (List.mem_of_getElem? (i := 35) rfl)) rfl
theorem tw_121 : Cond.instantiable RX6 3 ∈ TT := TT_in (tm_1 _ (List.mem_of_getElem? (i := 36) rfl)) rfl
theorem tw_122 : Cond.methodLink RX8 11 yX6_init ∈ TT := TT_in (tm_1 _ (List.mem_of_getElem? (i := 37) rfl)) rfl
theorem tw_123 : Cond.instanceMethod yX6_init ∈ TT := TT_in (tm_1 _ (List.mem_of_getElem? (i := 38) rfl)) rfl
theorem tw_124 : Cond.code yX6_init cX6_init 3 none ∈ TT := TT_in (tm_1 _ (List.mem_of_getElem? (i := 39) rfl)) rfl
theorem tw_126 : Cond.fieldLink RX6 9 "SnowbolFold$Rows" "width" "I" ∈ TT := TT_in (tm_1 _ (List.mem_of_getElem? (i := 41) rfl)) rfl
theorem tw_127 : Cond.fieldLink RX6 15 "SnowbolFold$Rows" "signs" "[I" ∈ TT := TT_in (tm_1 _ (List.mem_of_getElem? (i := 42) rfl)) rfl
theorem tw_128 : Cond.fieldLink RX6 19 "SnowbolFold$Rows" "sizes" "[I" ∈ TT := TT_in (tm_1 _ (List.mem_of_getElem? (i := 43) rfl)) rfl
theorem tw_136 : Cond.arrayClass .int ∈ TT := TT_in (tm_1 _ (List.mem_of_getElem? (i := 51) rfl)) rfl
theorem tw_137 : Cond.classLink RX8 27 RX0 ∈ TT := TT_in (tm_1 _ (List.mem_of_getElem? (i := 52) rfl)) rfl
theorem tw_138 : Cond.instantiable RX0 5 ∈ TT := TT_in (tm_1 _ (List.mem_of_getElem? (i := 53) rfl)) rfl
theorem tw_139 : Cond.methodLink RX8 29 yX0_init ∈ TT := TT_in (tm_1 _ (List.mem_of_getElem? (i := 54) rfl)) rfl
theorem tw_140 : Cond.instanceMethod yX0_init ∈ TT := TT_in (tm_1 _ (List.mem_of_getElem? (i := 55) rfl)) rfl
theorem tw_141 : Cond.code yX0_init cX0_init 2 none ∈ TT := TT_in (tm_1 _ (List.mem_of_getElem? (i := 56) rfl)) rfl
theorem tw_143 : Cond.classLink RX0 13 RX1 ∈ TT := TT_in (tm_1 _ (List.mem_of_getElem? (i := 58) rfl)) rfl
theorem tw_144 : Cond.instantiable RX1 1 ∈ TT := TT_in (tm_1 _ (List.mem_of_getElem? (i := 59) rfl)) rfl
theorem tw_145 : Cond.methodLink RX0 15 yX1_init ∈ TT := TT_in (tm_1 _ (List.mem_of_getElem? (i := 60) rfl)) rfl
theorem tw_146 : Cond.instanceMethod yX1_init ∈ TT := TT_in (tm_1 _ (List.mem_of_getElem? (i := 61) rfl)) rfl
theorem tw_147 : Cond.code yX1_init cX1_init 2 none ∈ TT := TT_in (tm_1 _ (List.mem_of_getElem? (i := 62) rfl)) rfl
theorem tw_149 : Cond.fieldLink RX1 7 "SnowbolFold$Cells" "cells" "[I" ∈ TT := TT_in (tm_1 _ (List.mem_of_getElem? (i := 64) rfl)) rfl
theorem tw_153 : Cond.fieldLink RX0 7 "SnowbolFold$Book" "most" "I" ∈ TT := TT_in (tm_1 _ (List.mem_of_getElem? (i := 68) rfl)) rfl
theorem tw_154 : Cond.fieldLink RX0 18 "SnowbolFold$Book" "kinds" "LSnowbolFold$Cells;" ∈ TT := TT_in (tm_1 _ (List.mem_of_getElem? (i := 69) rfl)) rfl
theorem tw_157 : Cond.fieldLink RX0 22 "SnowbolFold$Book" "firsts" "LSnowbolFold$Cells;" ∈ TT := TT_in (tm_1 _ (List.mem_of_getElem? (i := 72) rfl)) rfl
theorem tw_160 : Cond.fieldLink RX0 25 "SnowbolFold$Book" "seconds" "LSnowbolFold$Cells;" ∈ TT := TT_in (tm_1 _ (List.mem_of_getElem? (i := 75) rfl)) rfl
theorem tw_163 : Cond.fieldLink RX0 28 "SnowbolFold$Book" "count" "I" ∈ TT := TT_in (tm_1 _ (List.mem_of_getElem? (i := 78) rfl)) rfl
theorem tw_176 : Cond.classLink RX8 39 RX2 ∈ TT := TT_in (tm_1 _ (List.mem_of_getElem? (i := 91) rfl)) rfl
theorem tw_177 : Cond.instantiable RX2 16 ∈ TT := TT_in (tm_1 _ (List.mem_of_getElem? (i := 92) rfl)) rfl
theorem tw_178 : Cond.methodLink RX8 41 yX2_init ∈ TT := TT_in (tm_1 _ (List.mem_of_getElem? (i := 93) rfl)) rfl
theorem tw_179 : Cond.instanceMethod yX2_init ∈ TT := TT_in (tm_1 _ (List.mem_of_getElem? (i := 94) rfl)) rfl
theorem tw_180 : Cond.code yX2_init cX2_init 4 none ∈ TT := TT_in (tm_1 _ (List.mem_of_getElem? (i := 95) rfl)) rfl
theorem tw_182 : Cond.classLink RX2 9 RX6 ∈ TT := TT_in (tm_1 _ (List.mem_of_getElem? (i := 97) rfl)) rfl
theorem tw_183 : Cond.methodLink RX2 11 yX6_init ∈ TT := TT_in (tm_1 _ (List.mem_of_getElem? (i := 98) rfl)) rfl
theorem tw_184 : Cond.classLink RX2 20 RX3 ∈ TT := TT_in (tm_1 _ (List.mem_of_getElem? (i := 99) rfl)) rfl
theorem tw_185 : Cond.instantiable RX3 4 ∈ TT := TT_in (tm_1 _ (List.mem_of_getElem? (i := 100) rfl)) rfl
theorem tw_186 : Cond.methodLink RX2 22 yX3_init ∈ TT := TT_in (tm_1 _ (List.mem_of_getElem? (i := 101) rfl)) rfl
theorem tw_187 : Cond.instanceMethod yX3_init ∈ TT := TT_in (tm_1 _ (List.mem_of_getElem? (i := 102) rfl)) rfl
theorem tw_188 : Cond.code yX3_init cX3_init 2 none ∈ TT := TT_in (tm_1 _ (List.mem_of_getElem? (i := 103) rfl)) rfl
theorem tw_190 : Cond.fieldLink RX3 7 "SnowbolFold$Pile" "firsts" "[I" ∈ TT := TT_in (tm_1 _ (List.mem_of_getElem? (i := 105) rfl)) rfl
theorem tw_191 : Cond.fieldLink RX3 13 "SnowbolFold$Pile" "seconds" "[I" ∈ TT := TT_in (tm_1 _ (List.mem_of_getElem? (i := 106) rfl)) rfl
theorem tw_192 : Cond.fieldLink RX3 16 "SnowbolFold$Pile" "thirds" "[I" ∈ TT := TT_in (tm_1 _ (List.mem_of_getElem? (i := 107) rfl)) rfl
theorem tw_193 : Cond.fieldLink RX3 19 "SnowbolFold$Pile" "count" "I" ∈ TT := TT_in (tm_1 _ (List.mem_of_getElem? (i := 108) rfl)) rfl
theorem tw_204 : Cond.classLink RX2 32 RX1 ∈ TT := TT_in (tm_1 _ (List.mem_of_getElem? (i := 119) rfl)) rfl
theorem tw_205 : Cond.methodLink RX2 34 yX1_init ∈ TT := TT_in (tm_1 _ (List.mem_of_getElem? (i := 120) rfl)) rfl
theorem tw_206 : Cond.fieldLink RX2 42 "SnowbolFold$Matcher" "patterns" "LSnowbolFold$Book;" ∈ TT := TT_in (tm_1 _ (List.mem_of_getElem? (i := 121) rfl)) rfl
theorem tw_207 : Cond.fieldLink RX2 46 "SnowbolFold$Matcher" "texts" "LSnowbolFold$Rows;" ∈ TT := TT_in (tm_1 _ (List.mem_of_getElem? (i := 122) rfl)) rfl
theorem tw_208 : Cond.fieldLink RX2 49 "SnowbolFold$Matcher" "variables" "LSnowbolFold$Rows;" ∈ TT := TT_in (tm_1 _ (List.mem_of_getElem? (i := 123) rfl)) rfl
theorem tw_209 : Cond.fieldLink RX2 14 "SnowbolFold$Matcher" "subject" "LSnowbolFold$Rows;" ∈ TT := TT_in (tm_1 _ (List.mem_of_getElem? (i := 124) rfl)) rfl
theorem tw_210 : Cond.fieldLink RX2 25 "SnowbolFold$Matcher" "nodes" "LSnowbolFold$Pile;" ∈ TT := TT_in (tm_1 _ (List.mem_of_getElem? (i := 125) rfl)) rfl
theorem tw_211 : Cond.fieldLink RX2 29 "SnowbolFold$Matcher" "choices" "LSnowbolFold$Pile;" ∈ TT := TT_in (tm_1 _ (List.mem_of_getElem? (i := 126) rfl)) rfl
theorem tw_212 : Cond.fieldLink RX2 35 "SnowbolFold$Matcher" "takenThen" "LSnowbolFold$Cells;" ∈ TT := TT_in (tm_1 _ (List.mem_of_getElem? (i := 127) rfl)) rfl
theorem tw_213 : Cond.fieldLink RX2 39 "SnowbolFold$Matcher" "taken" "LSnowbolFold$Pile;" ∈ TT := TT_in (tm_1 _ (List.mem_of_getElem? (i := 128) rfl)) rfl
theorem tw_214 : Cond.fieldLink RX2 63 "SnowbolFold$Matcher" "top" "I" ∈ TT := TT_in (tm_1 _ (List.mem_of_getElem? (i := 129) rfl)) rfl
theorem tw_215 : Cond.fieldLink RX2 66 "SnowbolFold$Matcher" "onlyFirst" "Z" ∈ TT := TT_in (tm_1 _ (List.mem_of_getElem? (i := 130) rfl)) rfl
theorem tw_216 : Cond.fieldLink RX2 60 "SnowbolFold$Matcher" "length" "I" ∈ TT := TT_in (tm_1 _ (List.mem_of_getElem? (i := 131) rfl)) rfl
theorem tw_217 : Cond.fieldLink RX2 70 "SnowbolFold$Matcher" "start" "I" ∈ TT := TT_in (tm_1 _ (List.mem_of_getElem? (i := 132) rfl)) rfl
theorem tw_219 : Cond.fieldLink RX2 73 "SnowbolFold$Matcher" "begunCount" "I" ∈ TT := TT_in (tm_1 _ (List.mem_of_getElem? (i := 134) rfl)) rfl
theorem tw_221 : Cond.fieldLink RX2 140 "SnowbolFold$Matcher" "goal" "I" ∈ TT := TT_in (tm_1 _ (List.mem_of_getElem? (i := 136) rfl)) rfl
theorem tw_222 : Cond.fieldLink RX2 126 "SnowbolFold$Matcher" "cursor" "I" ∈ TT := TT_in (tm_1 _ (List.mem_of_getElem? (i := 137) rfl)) rfl
theorem tw_224 : Cond.fieldLink RX2 129 "SnowbolFold$Matcher" "rest" "I" ∈ TT := TT_in (tm_1 _ (List.mem_of_getElem? (i := 139) rfl)) rfl
theorem tw_258 : Cond.classLink RX8 48 RX5 ∈ TT := TT_in (tm_1 _ (List.mem_of_getElem? (i := 173) rfl)) rfl
theorem tw_259 : Cond.instantiable RX5 5 ∈ TT := TT_in (tm_1 _ (List.mem_of_getElem? (i := 174) rfl)) rfl
theorem tw_260 : Cond.methodLink RX8 50 yX5_init ∈ TT := TT_in (tm_1 _ (List.mem_of_getElem? (i := 175) rfl)) rfl
theorem tw_261 : Cond.instanceMethod yX5_init ∈ TT := TT_in (tm_1 _ (List.mem_of_getElem? (i := 176) rfl)) rfl
theorem tw_262 : Cond.code yX5_init cX5_init 4 none ∈ TT := TT_in (tm_1 _ (List.mem_of_getElem? (i := 177) rfl)) rfl
theorem tw_264 : Cond.classLink RX5 9 RX6 ∈ TT := TT_in (tm_1 _ (List.mem_of_getElem? (i := 179) rfl)) rfl
theorem tw_265 : Cond.methodLink RX5 11 yX6_init ∈ TT := TT_in (tm_1 _ (List.mem_of_getElem? (i := 180) rfl)) rfl
theorem tw_266 : Cond.classLink RX5 20 RX1 ∈ TT := TT_in (tm_1 _ (List.mem_of_getElem? (i := 181) rfl)) rfl
theorem tw_267 : Cond.methodLink RX5 22 yX1_init ∈ TT := TT_in (tm_1 _ (List.mem_of_getElem? (i := 182) rfl)) rfl
theorem tw_268 : Cond.fieldLink RX5 29 "SnowbolFold$Reckoner" "terms" "LSnowbolFold$Book;" ∈ TT := TT_in (tm_1 _ (List.mem_of_getElem? (i := 183) rfl)) rfl
theorem tw_269 : Cond.fieldLink RX5 33 "SnowbolFold$Reckoner" "texts" "LSnowbolFold$Rows;" ∈ TT := TT_in (tm_1 _ (List.mem_of_getElem? (i := 184) rfl)) rfl
theorem tw_270 : Cond.fieldLink RX5 36 "SnowbolFold$Reckoner" "variables" "LSnowbolFold$Rows;" ∈ TT := TT_in (tm_1 _ (List.mem_of_getElem? (i := 185) rfl)) rfl
theorem tw_271 : Cond.fieldLink RX5 14 "SnowbolFold$Reckoner" "values" "LSnowbolFold$Rows;" ∈ TT := TT_in (tm_1 _ (List.mem_of_getElem? (i := 186) rfl)) rfl
theorem tw_274 : Cond.fieldLink RX5 25 "SnowbolFold$Reckoner" "needed" "LSnowbolFold$Cells;" ∈ TT := TT_in (tm_1 _ (List.mem_of_getElem? (i := 189) rfl)) rfl
theorem tw_286 : Cond.classLink RX8 55 RX4 ∈ TT := TT_in (tm_1 _ (List.mem_of_getElem? (i := 201) rfl)) rfl
theorem tw_287 : Cond.instantiable RX4 10 ∈ TT := TT_in (tm_1 _ (List.mem_of_getElem? (i := 202) rfl)) rfl
theorem tw_289 : Cond.instanceMethod yX4_init ∈ TT := TT_in (tm_1 _ (List.mem_of_getElem? (i := 204) rfl)) rfl
theorem tw_290 : Cond.code yX4_init cX4_init 1 none ∈ TT := TT_in (tm_1 _ (List.mem_of_getElem? (i := 205) rfl)) rfl
theorem tw_292 : Cond.classLink RX4 9 RX1 ∈ TT := TT_in (tm_1 _ (List.mem_of_getElem? (i := 207) rfl)) rfl
theorem tw_293 : Cond.methodLink RX4 11 yX1_init ∈ TT := TT_in (tm_1 _ (List.mem_of_getElem? (i := 208) rfl)) rfl
theorem tw_294 : Cond.fieldLink RX4 14 "SnowbolFold$Program" "kinds" "LSnowbolFold$Cells;" ∈ TT := TT_in (tm_1 _ (List.mem_of_getElem? (i := 209) rfl)) rfl
theorem tw_296 : Cond.fieldLink RX4 20 "SnowbolFold$Program" "variables" "LSnowbolFold$Cells;" ∈ TT := TT_in (tm_1 _ (List.mem_of_getElem? (i := 211) rfl)) rfl
theorem tw_298 : Cond.fieldLink RX4 23 "SnowbolFold$Program" "parts" "LSnowbolFold$Cells;" ∈ TT := TT_in (tm_1 _ (List.mem_of_getElem? (i := 213) rfl)) rfl
theorem tw_300 : Cond.fieldLink RX4 26 "SnowbolFold$Program" "terms" "LSnowbolFold$Cells;" ∈ TT := TT_in (tm_1 _ (List.mem_of_getElem? (i := 215) rfl)) rfl
theorem tw_302 : Cond.fieldLink RX4 29 "SnowbolFold$Program" "yes" "LSnowbolFold$Cells;" ∈ TT := TT_in (tm_1 _ (List.mem_of_getElem? (i := 217) rfl)) rfl
theorem tw_304 : Cond.fieldLink RX4 32 "SnowbolFold$Program" "no" "LSnowbolFold$Cells;" ∈ TT := TT_in (tm_1 _ (List.mem_of_getElem? (i := 219) rfl)) rfl
theorem tw_306 : Cond.fieldLink RX4 44 "SnowbolFold$Program" "count" "I" ∈ TT := TT_in (tm_1 _ (List.mem_of_getElem? (i := 221) rfl)) rfl
theorem tw_309 : Cond.fieldLink RX4 35 "SnowbolFold$Program" "isTold" "LSnowbolFold$Cells;" ∈ TT := TT_in (tm_1 _ (List.mem_of_getElem? (i := 224) rfl)) rfl
theorem tw_311 : Cond.fieldLink RX4 38 "SnowbolFold$Program" "entries" "LSnowbolFold$Cells;" ∈ TT := TT_in (tm_1 _ (List.mem_of_getElem? (i := 226) rfl)) rfl
theorem tw_313 : Cond.fieldLink RX4 41 "SnowbolFold$Program" "names" "LSnowbolFold$Cells;" ∈ TT := TT_in (tm_1 _ (List.mem_of_getElem? (i := 228) rfl)) rfl
theorem tw_336 : Cond.classLink RX8 62 RX7 ∈ TT := TT_in (tm_2 _ (List.mem_of_getElem? (i := 11) rfl)) rfl
theorem tw_337 : Cond.instantiable RX7 15 ∈ TT := TT_in (tm_2 _ (List.mem_of_getElem? (i := 12) rfl)) rfl
theorem tw_338 : Cond.methodLink RX8 64 yX7_init ∈ TT := TT_in (tm_2 _ (List.mem_of_getElem? (i := 13) rfl)) rfl
theorem tw_339 : Cond.instanceMethod yX7_init ∈ TT := TT_in (tm_2 _ (List.mem_of_getElem? (i := 14) rfl)) rfl
theorem tw_340 : Cond.code yX7_init cX7_init 5 none ∈ TT := TT_in (tm_2 _ (List.mem_of_getElem? (i := 15) rfl)) rfl
theorem tw_342 : Cond.classLink RX7 9 RX6 ∈ TT := TT_in (tm_2 _ (List.mem_of_getElem? (i := 17) rfl)) rfl
theorem tw_343 : Cond.methodLink RX7 11 yX6_init ∈ TT := TT_in (tm_2 _ (List.mem_of_getElem? (i := 18) rfl)) rfl
theorem tw_344 : Cond.classLink RX7 20 RX1 ∈ TT := TT_in (tm_2 _ (List.mem_of_getElem? (i := 19) rfl)) rfl
theorem tw_345 : Cond.methodLink RX7 22 yX1_init ∈ TT := TT_in (tm_2 _ (List.mem_of_getElem? (i := 20) rfl)) rfl
theorem tw_346 : Cond.fieldLink RX7 38 "SnowbolFold$Runner" "program" "LSnowbolFold$Program;" ∈ TT := TT_in (tm_2 _ (List.mem_of_getElem? (i := 21) rfl)) rfl
theorem tw_347 : Cond.fieldLink RX7 42 "SnowbolFold$Runner" "matcher" "LSnowbolFold$Matcher;" ∈ TT := TT_in (tm_2 _ (List.mem_of_getElem? (i := 22) rfl)) rfl
theorem tw_348 : Cond.fieldLink RX7 46 "SnowbolFold$Runner" "reckoner" "LSnowbolFold$Reckoner;" ∈ TT := TT_in (tm_2 _ (List.mem_of_getElem? (i := 23) rfl)) rfl
theorem tw_349 : Cond.fieldLink RX7 50 "SnowbolFold$Runner" "variables" "LSnowbolFold$Rows;" ∈ TT := TT_in (tm_2 _ (List.mem_of_getElem? (i := 24) rfl)) rfl
theorem tw_350 : Cond.fieldLink RX7 14 "SnowbolFold$Runner" "scratch" "LSnowbolFold$Rows;" ∈ TT := TT_in (tm_2 _ (List.mem_of_getElem? (i := 25) rfl)) rfl
theorem tw_351 : Cond.fieldLink RX7 25 "SnowbolFold$Runner" "callers" "LSnowbolFold$Cells;" ∈ TT := TT_in (tm_2 _ (List.mem_of_getElem? (i := 26) rfl)) rfl
theorem tw_352 : Cond.fieldLink RX7 29 "SnowbolFold$Runner" "saved" "LSnowbolFold$Rows;" ∈ TT := TT_in (tm_2 _ (List.mem_of_getElem? (i := 27) rfl)) rfl
theorem tw_353 : Cond.fieldLink RX7 32 "SnowbolFold$Runner" "doneOften" "LSnowbolFold$Cells;" ∈ TT := TT_in (tm_2 _ (List.mem_of_getElem? (i := 28) rfl)) rfl
theorem tw_355 : Cond.fieldLink RX7 35 "SnowbolFold$Runner" "failedOften" "LSnowbolFold$Cells;" ∈ TT := TT_in (tm_2 _ (List.mem_of_getElem? (i := 30) rfl)) rfl
theorem tw_357 : Cond.fieldLink RX7 57 "SnowbolFold$Runner" "anchored" "Z" ∈ TT := TT_in (tm_2 _ (List.mem_of_getElem? (i := 32) rfl)) rfl
theorem tw_358 : Cond.fieldLink RX7 53 "SnowbolFold$Runner" "ever" "Z" ∈ TT := TT_in (tm_2 _ (List.mem_of_getElem? (i := 33) rfl)) rfl
theorem tw_360 : Cond.fieldLink RX7 60 "SnowbolFold$Runner" "error" "I" ∈ TT := TT_in (tm_2 _ (List.mem_of_getElem? (i := 35) rfl)) rfl
theorem tw_362 : Cond.fieldLink RX7 73 "SnowbolFold$Runner" "last" "I" ∈ TT := TT_in (tm_2 _ (List.mem_of_getElem? (i := 37) rfl)) rfl
theorem tw_364 : Cond.fieldLink RX7 64 "SnowbolFold$Runner" "steps" "I" ∈ TT := TT_in (tm_2 _ (List.mem_of_getElem? (i := 39) rfl)) rfl
theorem tw_366 : Cond.fieldLink RX7 67 "SnowbolFold$Runner" "depth" "I" ∈ TT := TT_in (tm_2 _ (List.mem_of_getElem? (i := 41) rfl)) rfl
theorem tw_399 : Cond.classLink RX8 71 RX1 ∈ TT := TT_in (tm_2 _ (List.mem_of_getElem? (i := 74) rfl)) rfl
theorem tw_400 : Cond.methodLink RX8 73 yX1_init ∈ TT := TT_in (tm_2 _ (List.mem_of_getElem? (i := 75) rfl)) rfl
theorem tw_401 : Cond.fieldLink RX8 14 "SnowbolFold" "typed" "LSnowbolFold$Rows;" ∈ TT := TT_in (tm_2 _ (List.mem_of_getElem? (i := 76) rfl)) rfl
theorem tw_402 : Cond.fieldLink RX8 18 "SnowbolFold" "texts" "LSnowbolFold$Rows;" ∈ TT := TT_in (tm_2 _ (List.mem_of_getElem? (i := 77) rfl)) rfl
theorem tw_403 : Cond.fieldLink RX8 109 "SnowbolFold" "textCount" "I" ∈ TT := TT_in (tm_2 _ (List.mem_of_getElem? (i := 78) rfl)) rfl
theorem tw_404 : Cond.fieldLink RX8 21 "SnowbolFold" "variables" "LSnowbolFold$Rows;" ∈ TT := TT_in (tm_2 _ (List.mem_of_getElem? (i := 79) rfl)) rfl
theorem tw_405 : Cond.fieldLink RX8 24 "SnowbolFold" "kept" "LSnowbolFold$Rows;" ∈ TT := TT_in (tm_2 _ (List.mem_of_getElem? (i := 80) rfl)) rfl
theorem tw_406 : Cond.fieldLink RX8 32 "SnowbolFold" "patterns" "LSnowbolFold$Book;" ∈ TT := TT_in (tm_2 _ (List.mem_of_getElem? (i := 81) rfl)) rfl
theorem tw_407 : Cond.fieldLink RX8 36 "SnowbolFold" "terms" "LSnowbolFold$Book;" ∈ TT := TT_in (tm_2 _ (List.mem_of_getElem? (i := 82) rfl)) rfl
theorem tw_408 : Cond.fieldLink RX8 44 "SnowbolFold" "matcher" "LSnowbolFold$Matcher;" ∈ TT := TT_in (tm_2 _ (List.mem_of_getElem? (i := 83) rfl)) rfl
theorem tw_409 : Cond.fieldLink RX8 51 "SnowbolFold" "reckoner" "LSnowbolFold$Reckoner;" ∈ TT := TT_in (tm_2 _ (List.mem_of_getElem? (i := 84) rfl)) rfl
theorem tw_410 : Cond.fieldLink RX8 58 "SnowbolFold" "program" "LSnowbolFold$Program;" ∈ TT := TT_in (tm_2 _ (List.mem_of_getElem? (i := 85) rfl)) rfl
theorem tw_411 : Cond.fieldLink RX8 67 "SnowbolFold" "runner" "LSnowbolFold$Runner;" ∈ TT := TT_in (tm_2 _ (List.mem_of_getElem? (i := 86) rfl)) rfl
theorem tw_412 : Cond.fieldLink RX8 74 "SnowbolFold" "found" "LSnowbolFold$Cells;" ∈ TT := TT_in (tm_2 _ (List.mem_of_getElem? (i := 87) rfl)) rfl
theorem tw_413 : Cond.fieldLink RX8 201 "SnowbolFold" "anchored" "Z" ∈ TT := TT_in (tm_2 _ (List.mem_of_getElem? (i := 88) rfl)) rfl
theorem tw_414 : Cond.fieldLink RX8 257 "SnowbolFold" "everMatched" "Z" ∈ TT := TT_in (tm_2 _ (List.mem_of_getElem? (i := 89) rfl)) rfl
theorem tw_415 : Cond.fieldLink RX8 260 "SnowbolFold" "matched" "Z" ∈ TT := TT_in (tm_2 _ (List.mem_of_getElem? (i := 90) rfl)) rfl
theorem tw_416 : Cond.fieldLink RX8 272 "SnowbolFold" "matchFrom" "I" ∈ TT := TT_in (tm_2 _ (List.mem_of_getElem? (i := 91) rfl)) rfl
theorem tw_417 : Cond.fieldLink RX8 278 "SnowbolFold" "matchTo" "I" ∈ TT := TT_in (tm_2 _ (List.mem_of_getElem? (i := 92) rfl)) rfl
theorem tw_418 : Cond.fieldLink RX8 266 "SnowbolFold" "matchBegun" "I" ∈ TT := TT_in (tm_2 _ (List.mem_of_getElem? (i := 93) rfl)) rfl
theorem tw_419 : Cond.fieldLink RX8 281 "SnowbolFold" "matchLength" "I" ∈ TT := TT_in (tm_2 _ (List.mem_of_getElem? (i := 94) rfl)) rfl
theorem tw_459 : Cond.methodLink RL 129 yX8_wipe ∈ TT := TT_in (tm_2 _ (List.mem_of_getElem? (i := 134) rfl)) rfl
theorem tw_460 : Cond.instanceMethod yX8_wipe ∈ TT := TT_in (tm_2 _ (List.mem_of_getElem? (i := 135) rfl)) rfl
theorem tw_461 : Cond.selects RX8 yX8_wipe yX8_wipe ∈ TT := TT_in (tm_2 _ (List.mem_of_getElem? (i := 136) rfl)) rfl
theorem tw_462 : Cond.code yX8_wipe cX8_wipe 2 (some .int) ∈ TT := TT_in (tm_2 _ (List.mem_of_getElem? (i := 137) rfl)) rfl
theorem tw_463 : Cond.methodLink RX8 89 yX6_length ∈ TT := TT_in (tm_2 _ (List.mem_of_getElem? (i := 138) rfl)) rfl
theorem tw_464 : Cond.instanceMethod yX6_length ∈ TT := TT_in (tm_2 _ (List.mem_of_getElem? (i := 139) rfl)) rfl
theorem tw_465 : Cond.selects RX6 yX6_length yX6_length ∈ TT := TT_in (tm_2 _ (List.mem_of_getElem? (i := 140) rfl)) rfl
theorem tw_466 : Cond.code yX6_length cX6_length 2 (some .int) ∈ TT := TT_in (tm_2 _ (List.mem_of_getElem? (i := 141) rfl)) rfl
theorem tw_467 : Cond.methodLink RX8 101 yX6_clear ∈ TT := TT_in (tm_2 _ (List.mem_of_getElem? (i := 142) rfl)) rfl
theorem tw_468 : Cond.instanceMethod yX6_clear ∈ TT := TT_in (tm_2 _ (List.mem_of_getElem? (i := 143) rfl)) rfl
theorem tw_469 : Cond.selects RX6 yX6_clear yX6_clear ∈ TT := TT_in (tm_2 _ (List.mem_of_getElem? (i := 144) rfl)) rfl
theorem tw_470 : Cond.code yX6_clear cX6_clear 2 none ∈ TT := TT_in (tm_2 _ (List.mem_of_getElem? (i := 145) rfl)) rfl
theorem tw_471 : Cond.methodLink RL 168 yX8_anchor ∈ TT := TT_in (tm_2 _ (List.mem_of_getElem? (i := 146) rfl)) rfl
theorem tw_472 : Cond.instanceMethod yX8_anchor ∈ TT := TT_in (tm_2 _ (List.mem_of_getElem? (i := 147) rfl)) rfl
theorem tw_473 : Cond.selects RX8 yX8_anchor yX8_anchor ∈ TT := TT_in (tm_2 _ (List.mem_of_getElem? (i := 148) rfl)) rfl
theorem tw_474 : Cond.code yX8_anchor cX8_anchor 3 (some .boolean) ∈ TT := TT_in (tm_2 _ (List.mem_of_getElem? (i := 149) rfl)) rfl
theorem tw_475 : Cond.methodLink RL 218 yX8_statements ∈ TT := TT_in (tm_2 _ (List.mem_of_getElem? (i := 150) rfl)) rfl
theorem tw_476 : Cond.instanceMethod yX8_statements ∈ TT := TT_in (tm_2 _ (List.mem_of_getElem? (i := 151) rfl)) rfl
theorem tw_477 : Cond.selects RX8 yX8_statements yX8_statements ∈ TT := TT_in (tm_2 _ (List.mem_of_getElem? (i := 152) rfl)) rfl
theorem tw_478 : Cond.code yX8_statements cX8_statements 1 (some .int) ∈ TT := TT_in (tm_2 _ (List.mem_of_getElem? (i := 153) rfl)) rfl
theorem tw_479 : Cond.methodLink RL 229 yX8_checksum ∈ TT := TT_in (tm_2 _ (List.mem_of_getElem? (i := 154) rfl)) rfl
theorem tw_480 : Cond.instanceMethod yX8_checksum ∈ TT := TT_in (tm_2 _ (List.mem_of_getElem? (i := 155) rfl)) rfl
theorem tw_481 : Cond.selects RX8 yX8_checksum yX8_checksum ∈ TT := TT_in (tm_2 _ (List.mem_of_getElem? (i := 156) rfl)) rfl
theorem tw_482 : Cond.code yX8_checksum cX8_checksum 6 (some .long) ∈ TT := TT_in (tm_2 _ (List.mem_of_getElem? (i := 157) rfl)) rfl
theorem tw_483 : Cond.constantLong RX8 316 (7) ∈ TT := TT_in (tm_2 _ (List.mem_of_getElem? (i := 158) rfl)) rfl
theorem tw_484 : Cond.constantLong RX8 318 (31) ∈ TT := TT_in (tm_2 _ (List.mem_of_getElem? (i := 159) rfl)) rfl
theorem tw_485 : Cond.methodLink RX8 131 yX6_sign ∈ TT := TT_in (tm_2 _ (List.mem_of_getElem? (i := 160) rfl)) rfl
theorem tw_486 : Cond.instanceMethod yX6_sign ∈ TT := TT_in (tm_2 _ (List.mem_of_getElem? (i := 161) rfl)) rfl
theorem tw_487 : Cond.selects RX6 yX6_sign yX6_sign ∈ TT := TT_in (tm_2 _ (List.mem_of_getElem? (i := 162) rfl)) rfl
theorem tw_488 : Cond.code yX6_sign cX6_sign 4 (some .int) ∈ TT := TT_in (tm_2 _ (List.mem_of_getElem? (i := 163) rfl)) rfl
theorem tw_489 : Cond.methodLink RL 234 yX8_isSound ∈ TT := TT_in (tm_2 _ (List.mem_of_getElem? (i := 164) rfl)) rfl
theorem tw_490 : Cond.instanceMethod yX8_isSound ∈ TT := TT_in (tm_2 _ (List.mem_of_getElem? (i := 165) rfl)) rfl
theorem tw_491 : Cond.selects RX8 yX8_isSound yX8_isSound ∈ TT := TT_in (tm_2 _ (List.mem_of_getElem? (i := 166) rfl)) rfl
theorem tw_492 : Cond.code yX8_isSound cX8_isSound 2 (some .boolean) ∈ TT := TT_in (tm_2 _ (List.mem_of_getElem? (i := 167) rfl)) rfl
theorem tw_493 : Cond.methodLink RX8 311 yX1_sum ∈ TT := TT_in (tm_2 _ (List.mem_of_getElem? (i := 168) rfl)) rfl
theorem tw_494 : Cond.instanceMethod yX1_sum ∈ TT := TT_in (tm_2 _ (List.mem_of_getElem? (i := 169) rfl)) rfl
theorem tw_495 : Cond.selects RX1 yX1_sum yX1_sum ∈ TT := TT_in (tm_2 _ (List.mem_of_getElem? (i := 170) rfl)) rfl
theorem tw_496 : Cond.code yX1_sum cX1_sum 4 (some .int) ∈ TT := TT_in (tm_2 _ (List.mem_of_getElem? (i := 171) rfl)) rfl
theorem tw_497 : Cond.methodLink RX1 13 yX1_get ∈ TT := TT_in (tm_2 _ (List.mem_of_getElem? (i := 172) rfl)) rfl
theorem tw_498 : Cond.instanceMethod yX1_get ∈ TT := TT_in (tm_2 _ (List.mem_of_getElem? (i := 173) rfl)) rfl
theorem tw_499 : Cond.selects RX1 yX1_get yX1_get ∈ TT := TT_in (tm_2 _ (List.mem_of_getElem? (i := 174) rfl)) rfl
theorem tw_500 : Cond.code yX1_get cX1_get 2 (some .int) ∈ TT := TT_in (tm_2 _ (List.mem_of_getElem? (i := 175) rfl)) rfl
theorem tw_501 : Cond.methodLink RL 120 yL_type ∈ TT := TT_in (tm_2 _ (List.mem_of_getElem? (i := 176) rfl)) rfl
theorem tw_502 : Cond.static yL_type ∈ TT := TT_in (tm_2 _ (List.mem_of_getElem? (i := 177) rfl)) rfl
theorem tw_503 : Cond.codeWith yL_type cL_type 4 (some .int) [(0, 9, 12, 13), (0, 9, 15, 15)] ∈ TT := TT_in (tm_2 _ (List.mem_of_getElem? (i := 178) rfl)) rfl
theorem tw_504 : Cond.classLink RL 13 "java/lang/IllegalArgumentException" ∈ TT := TT_in (tm_2 _ (List.mem_of_getElem? (i := 179) rfl)) rfl
theorem tw_505 : Cond.classLink RL 15 "java/lang/IllegalStateException" ∈ TT := TT_in (tm_2 _ (List.mem_of_getElem? (i := 180) rfl)) rfl
theorem tw_506 : Cond.methodLink RL 7 yX8_type ∈ TT := TT_in (tm_2 _ (List.mem_of_getElem? (i := 181) rfl)) rfl
theorem tw_507 : Cond.instanceMethod yX8_type ∈ TT := TT_in (tm_2 _ (List.mem_of_getElem? (i := 182) rfl)) rfl
theorem tw_508 : Cond.selects RX8 yX8_type yX8_type ∈ TT := TT_in (tm_2 _ (List.mem_of_getElem? (i := 183) rfl)) rfl
theorem tw_509 : Cond.code yX8_type cX8_type 2 (some .int) ∈ TT := TT_in (tm_2 _ (List.mem_of_getElem? (i := 184) rfl)) rfl
theorem tw_510 : Cond.methodLink RX8 78 yX8_isSign ∈ TT := TT_in (tm_2 _ (List.mem_of_getElem? (i := 185) rfl)) rfl
theorem tw_511 : Cond.static yX8_isSign ∈ TT := TT_in (tm_2 _ (List.mem_of_getElem? (i := 186) rfl)) rfl
theorem tw_512 : Cond.code yX8_isSign cX8_isSign 1 (some .boolean) ∈ TT := TT_in (tm_2 _ (List.mem_of_getElem? (i := 187) rfl)) rfl
theorem tw_513 : Cond.constant RX8 323 (128512) ∈ TT := TT_in (tm_2 _ (List.mem_of_getElem? (i := 188) rfl)) rfl
theorem tw_514 : Cond.constant RX8 324 (128591) ∈ TT := TT_in (tm_2 _ (List.mem_of_getElem? (i := 189) rfl)) rfl
theorem tw_515 : Cond.classLink RX8 82 "java/lang/IllegalArgumentException" ∈ TT := TT_in (tm_2 _ (List.mem_of_getElem? (i := 190) rfl)) rfl
theorem tw_586 : Cond.arrayClass .byte ∈ TT := TT_in (tm_3 _ (List.mem_of_getElem? (i := 21) rfl)) rfl
theorem tw_587 : Cond.classLink RX8 93 "java/lang/IllegalStateException" ∈ TT := TT_in (tm_3 _ (List.mem_of_getElem? (i := 22) rfl)) rfl
theorem tw_603 : Cond.methodLink RX8 98 yX6_add ∈ TT := TT_in (tm_3 _ (List.mem_of_getElem? (i := 38) rfl)) rfl
theorem tw_604 : Cond.instanceMethod yX6_add ∈ TT := TT_in (tm_3 _ (List.mem_of_getElem? (i := 39) rfl)) rfl
theorem tw_605 : Cond.selects RX6 yX6_add yX6_add ∈ TT := TT_in (tm_3 _ (List.mem_of_getElem? (i := 40) rfl)) rfl
theorem tw_606 : Cond.code yX6_add cX6_add 4 none ∈ TT := TT_in (tm_3 _ (List.mem_of_getElem? (i := 41) rfl)) rfl
theorem tw_607 : Cond.methodLink RL 133 yL_text ∈ TT := TT_in (tm_3 _ (List.mem_of_getElem? (i := 42) rfl)) rfl
theorem tw_608 : Cond.static yL_text ∈ TT := TT_in (tm_3 _ (List.mem_of_getElem? (i := 43) rfl)) rfl
theorem tw_609 : Cond.codeWith yL_text cL_text 3 (some .int) [(0, 8, 11, 21), (0, 8, 14, 15)] ∈ TT := TT_in (tm_3 _ (List.mem_of_getElem? (i := 44) rfl)) rfl
theorem tw_610 : Cond.classLink RL 21 "java/lang/UnsupportedOperationException" ∈ TT := TT_in (tm_3 _ (List.mem_of_getElem? (i := 45) rfl)) rfl
theorem tw_611 : Cond.methodLink RL 17 yX8_text ∈ TT := TT_in (tm_3 _ (List.mem_of_getElem? (i := 46) rfl)) rfl
theorem tw_612 : Cond.instanceMethod yX8_text ∈ TT := TT_in (tm_3 _ (List.mem_of_getElem? (i := 47) rfl)) rfl
theorem tw_613 : Cond.selects RX8 yX8_text yX8_text ∈ TT := TT_in (tm_3 _ (List.mem_of_getElem? (i := 48) rfl)) rfl
theorem tw_614 : Cond.code yX8_text cX8_text 2 (some .int) ∈ TT := TT_in (tm_3 _ (List.mem_of_getElem? (i := 49) rfl)) rfl
theorem tw_615 : Cond.classLink RX8 104 "java/lang/UnsupportedOperationException" ∈ TT := TT_in (tm_3 _ (List.mem_of_getElem? (i := 50) rfl)) rfl
theorem tw_632 : Cond.methodLink RX8 115 yX6_copy ∈ TT := TT_in (tm_3 _ (List.mem_of_getElem? (i := 67) rfl)) rfl
theorem tw_633 : Cond.instanceMethod yX6_copy ∈ TT := TT_in (tm_3 _ (List.mem_of_getElem? (i := 68) rfl)) rfl
theorem tw_634 : Cond.selects RX6 yX6_copy yX6_copy ∈ TT := TT_in (tm_3 _ (List.mem_of_getElem? (i := 69) rfl)) rfl
theorem tw_635 : Cond.code yX6_copy cX6_copy 4 none ∈ TT := TT_in (tm_3 _ (List.mem_of_getElem? (i := 70) rfl)) rfl
theorem tw_636 : Cond.methodLink RX6 30 yX6_clear ∈ TT := TT_in (tm_3 _ (List.mem_of_getElem? (i := 71) rfl)) rfl
theorem tw_637 : Cond.methodLink RX6 22 yX6_length ∈ TT := TT_in (tm_3 _ (List.mem_of_getElem? (i := 72) rfl)) rfl
theorem tw_638 : Cond.methodLink RX6 26 yX6_append ∈ TT := TT_in (tm_3 _ (List.mem_of_getElem? (i := 73) rfl)) rfl
theorem tw_639 : Cond.instanceMethod yX6_append ∈ TT := TT_in (tm_3 _ (List.mem_of_getElem? (i := 74) rfl)) rfl
theorem tw_640 : Cond.selects RX6 yX6_append yX6_append ∈ TT := TT_in (tm_3 _ (List.mem_of_getElem? (i := 75) rfl)) rfl
theorem tw_641 : Cond.code yX6_append cX6_append 12 (some .boolean) ∈ TT := TT_in (tm_3 _ (List.mem_of_getElem? (i := 76) rfl)) rfl
theorem tw_642 : Cond.methodLink RL 137 yL_set ∈ TT := TT_in (tm_3 _ (List.mem_of_getElem? (i := 77) rfl)) rfl
theorem tw_643 : Cond.static yL_set ∈ TT := TT_in (tm_3 _ (List.mem_of_getElem? (i := 78) rfl)) rfl
theorem tw_644 : Cond.codeWith yL_set cL_set 4 (some .int) [(0, 9, 12, 26)] ∈ TT := TT_in (tm_3 _ (List.mem_of_getElem? (i := 79) rfl)) rfl
theorem tw_645 : Cond.classLink RL 26 "java/lang/IndexOutOfBoundsException" ∈ TT := TT_in (tm_3 _ (List.mem_of_getElem? (i := 80) rfl)) rfl
theorem tw_669 : Cond.methodLink RL 23 yX8_set ∈ TT := TT_in (tm_3 _ (List.mem_of_getElem? (i := 104) rfl)) rfl
theorem tw_670 : Cond.instanceMethod yX8_set ∈ TT := TT_in (tm_3 _ (List.mem_of_getElem? (i := 105) rfl)) rfl
theorem tw_671 : Cond.selects RX8 yX8_set yX8_set ∈ TT := TT_in (tm_3 _ (List.mem_of_getElem? (i := 106) rfl)) rfl
theorem tw_672 : Cond.code yX8_set cX8_set 3 (some .int) ∈ TT := TT_in (tm_3 _ (List.mem_of_getElem? (i := 107) rfl)) rfl
theorem tw_673 : Cond.methodLink RX8 119 yX8_needVariable ∈ TT := TT_in (tm_3 _ (List.mem_of_getElem? (i := 108) rfl)) rfl
theorem tw_674 : Cond.static yX8_needVariable ∈ TT := TT_in (tm_3 _ (List.mem_of_getElem? (i := 109) rfl)) rfl
theorem tw_675 : Cond.code yX8_needVariable cX8_needVariable 1 none ∈ TT := TT_in (tm_3 _ (List.mem_of_getElem? (i := 110) rfl)) rfl
theorem tw_676 : Cond.methodLink RX8 188 yX8_isBelow ∈ TT := TT_in (tm_3 _ (List.mem_of_getElem? (i := 111) rfl)) rfl
theorem tw_677 : Cond.static yX8_isBelow ∈ TT := TT_in (tm_3 _ (List.mem_of_getElem? (i := 112) rfl)) rfl
theorem tw_678 : Cond.code yX8_isBelow cX8_isBelow 2 (some .boolean) ∈ TT := TT_in (tm_3 _ (List.mem_of_getElem? (i := 113) rfl)) rfl
theorem tw_679 : Cond.classLink RX8 148 "java/lang/IndexOutOfBoundsException" ∈ TT := TT_in (tm_3 _ (List.mem_of_getElem? (i := 114) rfl)) rfl
theorem tw_692 : Cond.methodLink RL 140 yL_size ∈ TT := TT_in (tm_3 _ (List.mem_of_getElem? (i := 127) rfl)) rfl
theorem tw_693 : Cond.static yL_size ∈ TT := TT_in (tm_3 _ (List.mem_of_getElem? (i := 128) rfl)) rfl
theorem tw_694 : Cond.codeWith yL_size cL_size 4 (some .int) [(0, 9, 12, 26)] ∈ TT := TT_in (tm_3 _ (List.mem_of_getElem? (i := 129) rfl)) rfl
theorem tw_695 : Cond.methodLink RL 28 yX8_size ∈ TT := TT_in (tm_3 _ (List.mem_of_getElem? (i := 130) rfl)) rfl
theorem tw_696 : Cond.instanceMethod yX8_size ∈ TT := TT_in (tm_3 _ (List.mem_of_getElem? (i := 131) rfl)) rfl
theorem tw_697 : Cond.selects RX8 yX8_size yX8_size ∈ TT := TT_in (tm_3 _ (List.mem_of_getElem? (i := 132) rfl)) rfl
theorem tw_698 : Cond.code yX8_size cX8_size 2 (some .int) ∈ TT := TT_in (tm_3 _ (List.mem_of_getElem? (i := 133) rfl)) rfl
theorem tw_699 : Cond.methodLink RL 143 yL_at ∈ TT := TT_in (tm_3 _ (List.mem_of_getElem? (i := 134) rfl)) rfl
theorem tw_700 : Cond.static yL_at ∈ TT := TT_in (tm_3 _ (List.mem_of_getElem? (i := 135) rfl)) rfl
theorem tw_701 : Cond.codeWith yL_at cL_at 5 (some .int) [(0, 10, 13, 26), (0, 10, 17, 35)] ∈ TT := TT_in (tm_3 _ (List.mem_of_getElem? (i := 136) rfl)) rfl
theorem tw_702 : Cond.classLink RL 35 "java/util/NoSuchElementException" ∈ TT := TT_in (tm_3 _ (List.mem_of_getElem? (i := 137) rfl)) rfl
theorem tw_703 : Cond.methodLink RL 31 yX8_at ∈ TT := TT_in (tm_3 _ (List.mem_of_getElem? (i := 138) rfl)) rfl
theorem tw_704 : Cond.instanceMethod yX8_at ∈ TT := TT_in (tm_3 _ (List.mem_of_getElem? (i := 139) rfl)) rfl
theorem tw_705 : Cond.selects RX8 yX8_at yX8_at ∈ TT := TT_in (tm_3 _ (List.mem_of_getElem? (i := 140) rfl)) rfl
theorem tw_706 : Cond.code yX8_at cX8_at 3 (some .int) ∈ TT := TT_in (tm_3 _ (List.mem_of_getElem? (i := 141) rfl)) rfl
theorem tw_707 : Cond.methodLink RX8 122 yX6_holds ∈ TT := TT_in (tm_3 _ (List.mem_of_getElem? (i := 142) rfl)) rfl
theorem tw_708 : Cond.instanceMethod yX6_holds ∈ TT := TT_in (tm_3 _ (List.mem_of_getElem? (i := 143) rfl)) rfl
theorem tw_709 : Cond.selects RX6 yX6_holds yX6_holds ∈ TT := TT_in (tm_3 _ (List.mem_of_getElem? (i := 144) rfl)) rfl
theorem tw_710 : Cond.code yX6_holds cX6_holds 3 (some .boolean) ∈ TT := TT_in (tm_3 _ (List.mem_of_getElem? (i := 145) rfl)) rfl
theorem tw_711 : Cond.classLink RX8 126 "java/util/NoSuchElementException" ∈ TT := TT_in (tm_3 _ (List.mem_of_getElem? (i := 146) rfl)) rfl
theorem tw_727 : Cond.methodLink RL 147 yL_pattern ∈ TT := TT_in (tm_3 _ (List.mem_of_getElem? (i := 162) rfl)) rfl
theorem tw_728 : Cond.static yL_pattern ∈ TT := TT_in (tm_3 _ (List.mem_of_getElem? (i := 163) rfl)) rfl
theorem tw_729 : Cond.codeWith yL_pattern cL_pattern 6 (some .int) [(0, 12, 15, 13), (0, 12, 19, 26), (0, 12, 23, 15)] ∈ TT := TT_in (tm_3 _ (List.mem_of_getElem? (i := 164) rfl)) rfl
theorem tw_730 : Cond.methodLink RL 37 yX8_pattern ∈ TT := TT_in (tm_3 _ (List.mem_of_getElem? (i := 165) rfl)) rfl
theorem tw_731 : Cond.instanceMethod yX8_pattern ∈ TT := TT_in (tm_3 _ (List.mem_of_getElem? (i := 166) rfl)) rfl
theorem tw_732 : Cond.selects RX8 yX8_pattern yX8_pattern ∈ TT := TT_in (tm_3 _ (List.mem_of_getElem? (i := 167) rfl)) rfl
theorem tw_733 : Cond.code yX8_pattern cX8_pattern 4 (some .int) ∈ TT := TT_in (tm_3 _ (List.mem_of_getElem? (i := 168) rfl)) rfl
theorem tw_822 : Cond.methodLink RX8 144 yX8_patternPartsExist ∈ TT := TT_in (tm_4 _ (List.mem_of_getElem? (i := 17) rfl)) rfl
theorem tw_824 : Cond.instanceMethod yX8_patternPartsExist ∈ TT := TT_in (tm_4 _ (List.mem_of_getElem? (i := 19) rfl)) rfl
theorem tw_825 : Cond.code yX8_patternPartsExist cX8_patternPartsExist 4 (some .boolean) ∈ TT := TT_in (tm_4 _ (List.mem_of_getElem? (i := 20) rfl)) rfl
theorem tw_827 : Cond.methodLink RX8 153 yX0_isFull ∈ TT := TT_in (tm_4 _ (List.mem_of_getElem? (i := 22) rfl)) rfl
theorem tw_828 : Cond.instanceMethod yX0_isFull ∈ TT := TT_in (tm_4 _ (List.mem_of_getElem? (i := 23) rfl)) rfl
theorem tw_829 : Cond.selects RX0 yX0_isFull yX0_isFull ∈ TT := TT_in (tm_4 _ (List.mem_of_getElem? (i := 24) rfl)) rfl
theorem tw_830 : Cond.code yX0_isFull cX0_isFull 1 (some .boolean) ∈ TT := TT_in (tm_4 _ (List.mem_of_getElem? (i := 25) rfl)) rfl
theorem tw_832 : Cond.methodLink RX8 159 yX0_add ∈ TT := TT_in (tm_4 _ (List.mem_of_getElem? (i := 27) rfl)) rfl
theorem tw_833 : Cond.instanceMethod yX0_add ∈ TT := TT_in (tm_4 _ (List.mem_of_getElem? (i := 28) rfl)) rfl
theorem tw_834 : Cond.selects RX0 yX0_add yX0_add ∈ TT := TT_in (tm_4 _ (List.mem_of_getElem? (i := 29) rfl)) rfl
theorem tw_835 : Cond.code yX0_add cX0_add 5 (some .int) ∈ TT := TT_in (tm_4 _ (List.mem_of_getElem? (i := 30) rfl)) rfl
theorem tw_836 : Cond.methodLink RX0 31 yX1_put ∈ TT := TT_in (tm_4 _ (List.mem_of_getElem? (i := 31) rfl)) rfl
theorem tw_837 : Cond.instanceMethod yX1_put ∈ TT := TT_in (tm_4 _ (List.mem_of_getElem? (i := 32) rfl)) rfl
theorem tw_838 : Cond.selects RX1 yX1_put yX1_put ∈ TT := TT_in (tm_4 _ (List.mem_of_getElem? (i := 33) rfl)) rfl
theorem tw_839 : Cond.code yX1_put cX1_put 3 none ∈ TT := TT_in (tm_4 _ (List.mem_of_getElem? (i := 34) rfl)) rfl
theorem tw_840 : Cond.methodLink RL 151 yL_term ∈ TT := TT_in (tm_4 _ (List.mem_of_getElem? (i := 35) rfl)) rfl
theorem tw_841 : Cond.static yL_term ∈ TT := TT_in (tm_4 _ (List.mem_of_getElem? (i := 36) rfl)) rfl
theorem tw_842 : Cond.codeWith yL_term cL_term 6 (some .int) [(0, 12, 15, 13), (0, 12, 19, 26), (0, 12, 23, 15)] ∈ TT := TT_in (tm_4 _ (List.mem_of_getElem? (i := 37) rfl)) rfl
theorem tw_843 : Cond.methodLink RL 41 yX8_term ∈ TT := TT_in (tm_4 _ (List.mem_of_getElem? (i := 38) rfl)) rfl
theorem tw_844 : Cond.instanceMethod yX8_term ∈ TT := TT_in (tm_4 _ (List.mem_of_getElem? (i := 39) rfl)) rfl
theorem tw_845 : Cond.selects RX8 yX8_term yX8_term ∈ TT := TT_in (tm_4 _ (List.mem_of_getElem? (i := 40) rfl)) rfl
theorem tw_846 : Cond.code yX8_term cX8_term 4 (some .int) ∈ TT := TT_in (tm_4 _ (List.mem_of_getElem? (i := 41) rfl)) rfl
theorem tw_849 : Cond.methodLink RX8 166 yX8_termPartsExist ∈ TT := TT_in (tm_4 _ (List.mem_of_getElem? (i := 44) rfl)) rfl
theorem tw_851 : Cond.instanceMethod yX8_termPartsExist ∈ TT := TT_in (tm_4 _ (List.mem_of_getElem? (i := 46) rfl)) rfl
theorem tw_852 : Cond.code yX8_termPartsExist cX8_termPartsExist 4 (some .boolean) ∈ TT := TT_in (tm_4 _ (List.mem_of_getElem? (i := 47) rfl)) rfl
theorem tw_855 : Cond.methodLink RL 154 yL_assign ∈ TT := TT_in (tm_4 _ (List.mem_of_getElem? (i := 50) rfl)) rfl
theorem tw_856 : Cond.static yL_assign ∈ TT := TT_in (tm_4 _ (List.mem_of_getElem? (i := 51) rfl)) rfl
theorem tw_857 : Cond.codeWith yL_assign cL_assign 7 (some .int) [(0, 14, 17, 26), (0, 14, 21, 13), (0, 14, 25, 15)] ∈ TT := TT_in (tm_4 _ (List.mem_of_getElem? (i := 52) rfl)) rfl
theorem tw_858 : Cond.methodLink RL 44 yX8_assign ∈ TT := TT_in (tm_4 _ (List.mem_of_getElem? (i := 53) rfl)) rfl
theorem tw_859 : Cond.instanceMethod yX8_assign ∈ TT := TT_in (tm_4 _ (List.mem_of_getElem? (i := 54) rfl)) rfl
theorem tw_860 : Cond.selects RX8 yX8_assign yX8_assign ∈ TT := TT_in (tm_4 _ (List.mem_of_getElem? (i := 55) rfl)) rfl
theorem tw_861 : Cond.code yX8_assign cX8_assign 5 (some .int) ∈ TT := TT_in (tm_4 _ (List.mem_of_getElem? (i := 56) rfl)) rfl
theorem tw_862 : Cond.methodLink RX8 173 yX8_needTerm ∈ TT := TT_in (tm_4 _ (List.mem_of_getElem? (i := 57) rfl)) rfl
theorem tw_864 : Cond.instanceMethod yX8_needTerm ∈ TT := TT_in (tm_4 _ (List.mem_of_getElem? (i := 59) rfl)) rfl
theorem tw_865 : Cond.code yX8_needTerm cX8_needTerm 2 none ∈ TT := TT_in (tm_4 _ (List.mem_of_getElem? (i := 60) rfl)) rfl
theorem tw_867 : Cond.methodLink RX8 176 yX8_needWays ∈ TT := TT_in (tm_4 _ (List.mem_of_getElem? (i := 62) rfl)) rfl
theorem tw_868 : Cond.static yX8_needWays ∈ TT := TT_in (tm_4 _ (List.mem_of_getElem? (i := 63) rfl)) rfl
theorem tw_869 : Cond.code yX8_needWays cX8_needWays 2 none ∈ TT := TT_in (tm_4 _ (List.mem_of_getElem? (i := 64) rfl)) rfl
theorem tw_870 : Cond.methodLink RX8 337 yX4_isWay ∈ TT := TT_in (tm_4 _ (List.mem_of_getElem? (i := 65) rfl)) rfl
theorem tw_871 : Cond.static yX4_isWay ∈ TT := TT_in (tm_4 _ (List.mem_of_getElem? (i := 66) rfl)) rfl
theorem tw_872 : Cond.code yX4_isWay cX4_isWay 1 (some .boolean) ∈ TT := TT_in (tm_4 _ (List.mem_of_getElem? (i := 67) rfl)) rfl
theorem tw_874 : Cond.methodLink RX8 179 yX8_needRoomForStatement ∈ TT := TT_in (tm_4 _ (List.mem_of_getElem? (i := 69) rfl)) rfl
theorem tw_876 : Cond.instanceMethod yX8_needRoomForStatement ∈ TT := TT_in (tm_4 _ (List.mem_of_getElem? (i := 71) rfl)) rfl
theorem tw_877 : Cond.code yX8_needRoomForStatement cX8_needRoomForStatement 1 none ∈ TT := TT_in (tm_4 _ (List.mem_of_getElem? (i := 72) rfl)) rfl
theorem tw_879 : Cond.methodLink RX8 182 yX4_add ∈ TT := TT_in (tm_4 _ (List.mem_of_getElem? (i := 74) rfl)) rfl
theorem tw_880 : Cond.instanceMethod yX4_add ∈ TT := TT_in (tm_4 _ (List.mem_of_getElem? (i := 75) rfl)) rfl
theorem tw_881 : Cond.selects RX4 yX4_add yX4_add ∈ TT := TT_in (tm_4 _ (List.mem_of_getElem? (i := 76) rfl)) rfl
theorem tw_882 : Cond.code yX4_add cX4_add 8 (some .int) ∈ TT := TT_in (tm_4 _ (List.mem_of_getElem? (i := 77) rfl)) rfl
theorem tw_883 : Cond.methodLink RX4 48 yX1_put ∈ TT := TT_in (tm_4 _ (List.mem_of_getElem? (i := 78) rfl)) rfl
theorem tw_884 : Cond.methodLink RL 158 yL_scan ∈ TT := TT_in (tm_4 _ (List.mem_of_getElem? (i := 79) rfl)) rfl
theorem tw_885 : Cond.static yL_scan ∈ TT := TT_in (tm_4 _ (List.mem_of_getElem? (i := 80) rfl)) rfl
theorem tw_886 : Cond.codeWith yL_scan cL_scan 8 (some .int) [(0, 16, 19, 26), (0, 16, 23, 13), (0, 16, 27, 15)] ∈ TT := TT_in (tm_4 _ (List.mem_of_getElem? (i := 81) rfl)) rfl
theorem tw_887 : Cond.methodLink RL 48 yX8_scan ∈ TT := TT_in (tm_4 _ (List.mem_of_getElem? (i := 82) rfl)) rfl
theorem tw_888 : Cond.instanceMethod yX8_scan ∈ TT := TT_in (tm_4 _ (List.mem_of_getElem? (i := 83) rfl)) rfl
theorem tw_889 : Cond.selects RX8 yX8_scan yX8_scan ∈ TT := TT_in (tm_4 _ (List.mem_of_getElem? (i := 84) rfl)) rfl
theorem tw_890 : Cond.code yX8_scan cX8_scan 6 (some .int) ∈ TT := TT_in (tm_4 _ (List.mem_of_getElem? (i := 85) rfl)) rfl
theorem tw_891 : Cond.methodLink RX8 185 yX8_needPattern ∈ TT := TT_in (tm_4 _ (List.mem_of_getElem? (i := 86) rfl)) rfl
theorem tw_893 : Cond.instanceMethod yX8_needPattern ∈ TT := TT_in (tm_4 _ (List.mem_of_getElem? (i := 88) rfl)) rfl
theorem tw_894 : Cond.code yX8_needPattern cX8_needPattern 2 none ∈ TT := TT_in (tm_4 _ (List.mem_of_getElem? (i := 89) rfl)) rfl
theorem tw_896 : Cond.methodLink RL 162 yL_call ∈ TT := TT_in (tm_4 _ (List.mem_of_getElem? (i := 91) rfl)) rfl
theorem tw_897 : Cond.static yL_call ∈ TT := TT_in (tm_4 _ (List.mem_of_getElem? (i := 92) rfl)) rfl
theorem tw_898 : Cond.codeWith yL_call cL_call 8 (some .int) [(0, 16, 19, 26), (0, 16, 23, 13), (0, 16, 27, 15)] ∈ TT := TT_in (tm_4 _ (List.mem_of_getElem? (i := 93) rfl)) rfl
theorem tw_899 : Cond.methodLink RL 52 yX8_call ∈ TT := TT_in (tm_4 _ (List.mem_of_getElem? (i := 94) rfl)) rfl
theorem tw_900 : Cond.instanceMethod yX8_call ∈ TT := TT_in (tm_4 _ (List.mem_of_getElem? (i := 95) rfl)) rfl
theorem tw_901 : Cond.selects RX8 yX8_call yX8_call ∈ TT := TT_in (tm_4 _ (List.mem_of_getElem? (i := 96) rfl)) rfl
theorem tw_902 : Cond.code yX8_call cX8_call 6 (some .int) ∈ TT := TT_in (tm_4 _ (List.mem_of_getElem? (i := 97) rfl)) rfl
theorem tw_904 : Cond.methodLink RL 165 yL_define ∈ TT := TT_in (tm_4 _ (List.mem_of_getElem? (i := 99) rfl)) rfl
theorem tw_905 : Cond.static yL_define ∈ TT := TT_in (tm_4 _ (List.mem_of_getElem? (i := 100) rfl)) rfl
theorem tw_906 : Cond.codeWith yL_define cL_define 8 (some .int) [(0, 23, 26, 13), (0, 23, 30, 26)] ∈ TT := TT_in (tm_4 _ (List.mem_of_getElem? (i := 101) rfl)) rfl
theorem tw_907 : Cond.methodLink RL 55 yX8_define ∈ TT := TT_in (tm_4 _ (List.mem_of_getElem? (i := 102) rfl)) rfl
theorem tw_908 : Cond.instanceMethod yX8_define ∈ TT := TT_in (tm_4 _ (List.mem_of_getElem? (i := 103) rfl)) rfl
theorem tw_909 : Cond.selects RX8 yX8_define yX8_define ∈ TT := TT_in (tm_4 _ (List.mem_of_getElem? (i := 104) rfl)) rfl
theorem tw_910 : Cond.code yX8_define cX8_define 6 (some .boolean) ∈ TT := TT_in (tm_4 _ (List.mem_of_getElem? (i := 105) rfl)) rfl
theorem tw_913 : Cond.methodLink RX8 197 yX4_tell ∈ TT := TT_in (tm_4 _ (List.mem_of_getElem? (i := 108) rfl)) rfl
theorem tw_914 : Cond.instanceMethod yX4_tell ∈ TT := TT_in (tm_4 _ (List.mem_of_getElem? (i := 109) rfl)) rfl
theorem tw_915 : Cond.selects RX4 yX4_tell yX4_tell ∈ TT := TT_in (tm_4 _ (List.mem_of_getElem? (i := 110) rfl)) rfl
theorem tw_916 : Cond.code yX4_tell cX4_tell 7 (some .boolean) ∈ TT := TT_in (tm_4 _ (List.mem_of_getElem? (i := 111) rfl)) rfl
theorem tw_917 : Cond.methodLink RX4 52 yX1_get ∈ TT := TT_in (tm_4 _ (List.mem_of_getElem? (i := 112) rfl)) rfl
theorem tw_918 : Cond.methodLink RL 173 yL_run ∈ TT := TT_in (tm_4 _ (List.mem_of_getElem? (i := 113) rfl)) rfl
theorem tw_919 : Cond.static yL_run ∈ TT := TT_in (tm_4 _ (List.mem_of_getElem? (i := 114) rfl)) rfl
theorem tw_920 : Cond.codeWith yL_run cL_run 5 (some .int) [(0, 10, 13, 13), (0, 10, 17, 26)] ∈ TT := TT_in (tm_4 _ (List.mem_of_getElem? (i := 115) rfl)) rfl
theorem tw_921 : Cond.methodLink RL 59 yX8_run ∈ TT := TT_in (tm_4 _ (List.mem_of_getElem? (i := 116) rfl)) rfl
theorem tw_922 : Cond.instanceMethod yX8_run ∈ TT := TT_in (tm_4 _ (List.mem_of_getElem? (i := 117) rfl)) rfl
theorem tw_923 : Cond.selects RX8 yX8_run yX8_run ∈ TT := TT_in (tm_4 _ (List.mem_of_getElem? (i := 118) rfl)) rfl
theorem tw_924 : Cond.code yX8_run cX8_run 3 (some .char) ∈ TT := TT_in (tm_4 _ (List.mem_of_getElem? (i := 119) rfl)) rfl
theorem tw_926 : Cond.methodLink RX8 207 yX8_needStatement ∈ TT := TT_in (tm_4 _ (List.mem_of_getElem? (i := 121) rfl)) rfl
theorem tw_928 : Cond.instanceMethod yX8_needStatement ∈ TT := TT_in (tm_4 _ (List.mem_of_getElem? (i := 123) rfl)) rfl
theorem tw_929 : Cond.code yX8_needStatement cX8_needStatement 2 none ∈ TT := TT_in (tm_4 _ (List.mem_of_getElem? (i := 124) rfl)) rfl
theorem tw_931 : Cond.methodLink RX8 210 yX7_go ∈ TT := TT_in (tm_4 _ (List.mem_of_getElem? (i := 126) rfl)) rfl
theorem tw_932 : Cond.instanceMethod yX7_go ∈ TT := TT_in (tm_4 _ (List.mem_of_getElem? (i := 127) rfl)) rfl
theorem tw_933 : Cond.selects RX7 yX7_go yX7_go ∈ TT := TT_in (tm_4 _ (List.mem_of_getElem? (i := 128) rfl)) rfl
theorem tw_934 : Cond.code yX7_go cX7_go 7 (some .char) ∈ TT := TT_in (tm_4 _ (List.mem_of_getElem? (i := 129) rfl)) rfl
theorem tw_935 : Cond.methodLink RX7 70 yX1_clearAll ∈ TT := TT_in (tm_4 _ (List.mem_of_getElem? (i := 130) rfl)) rfl
theorem tw_936 : Cond.instanceMethod yX1_clearAll ∈ TT := TT_in (tm_4 _ (List.mem_of_getElem? (i := 131) rfl)) rfl
theorem tw_937 : Cond.selects RX1 yX1_clearAll yX1_clearAll ∈ TT := TT_in (tm_4 _ (List.mem_of_getElem? (i := 132) rfl)) rfl
theorem tw_938 : Cond.code yX1_clearAll cX1_clearAll 2 none ∈ TT := TT_in (tm_4 _ (List.mem_of_getElem? (i := 133) rfl)) rfl
theorem tw_939 : Cond.methodLink RX7 76 yX1_increase ∈ TT := TT_in (tm_4 _ (List.mem_of_getElem? (i := 134) rfl)) rfl
theorem tw_940 : Cond.instanceMethod yX1_increase ∈ TT := TT_in (tm_4 _ (List.mem_of_getElem? (i := 135) rfl)) rfl
theorem tw_941 : Cond.selects RX1 yX1_increase yX1_increase ∈ TT := TT_in (tm_4 _ (List.mem_of_getElem? (i := 136) rfl)) rfl
theorem tw_942 : Cond.code yX1_increase cX1_increase 2 none ∈ TT := TT_in (tm_4 _ (List.mem_of_getElem? (i := 137) rfl)) rfl
theorem tw_943 : Cond.methodLink RX1 17 yX1_put ∈ TT := TT_in (tm_4 _ (List.mem_of_getElem? (i := 138) rfl)) rfl
theorem tw_944 : Cond.methodLink RX7 84 yX1_get ∈ TT := TT_in (tm_4 _ (List.mem_of_getElem? (i := 139) rfl)) rfl
theorem tw_945 : Cond.methodLink RX7 88 yX7_doAssignment ∈ TT := TT_in (tm_4 _ (List.mem_of_getElem? (i := 140) rfl)) rfl
theorem tw_947 : Cond.instanceMethod yX7_doAssignment ∈ TT := TT_in (tm_4 _ (List.mem_of_getElem? (i := 142) rfl)) rfl
theorem tw_948 : Cond.code yX7_doAssignment cX7_doAssignment 4 (some .int) ∈ TT := TT_in (tm_4 _ (List.mem_of_getElem? (i := 143) rfl)) rfl
theorem tw_949 : Cond.methodLink RX7 120 yX5_workOut ∈ TT := TT_in (tm_4 _ (List.mem_of_getElem? (i := 144) rfl)) rfl
theorem tw_950 : Cond.instanceMethod yX5_workOut ∈ TT := TT_in (tm_4 _ (List.mem_of_getElem? (i := 145) rfl)) rfl
theorem tw_951 : Cond.selects RX5 yX5_workOut yX5_workOut ∈ TT := TT_in (tm_4 _ (List.mem_of_getElem? (i := 146) rfl)) rfl
theorem tw_952 : Cond.code yX5_workOut cX5_workOut 4 (some .int) ∈ TT := TT_in (tm_4 _ (List.mem_of_getElem? (i := 147) rfl)) rfl
theorem tw_953 : Cond.methodLink RX5 39 yX5_markNeeded ∈ TT := TT_in (tm_4 _ (List.mem_of_getElem? (i := 148) rfl)) rfl
theorem tw_955 : Cond.instanceMethod yX5_markNeeded ∈ TT := TT_in (tm_4 _ (List.mem_of_getElem? (i := 150) rfl)) rfl
theorem tw_956 : Cond.code yX5_markNeeded cX5_markNeeded 4 none ∈ TT := TT_in (tm_4 _ (List.mem_of_getElem? (i := 151) rfl)) rfl
theorem tw_957 : Cond.methodLink RX5 64 yX1_clearAll ∈ TT := TT_in (tm_4 _ (List.mem_of_getElem? (i := 152) rfl)) rfl
theorem tw_958 : Cond.methodLink RX5 67 yX1_put ∈ TT := TT_in (tm_4 _ (List.mem_of_getElem? (i := 153) rfl)) rfl
theorem tw_959 : Cond.methodLink RX5 42 yX1_get ∈ TT := TT_in (tm_4 _ (List.mem_of_getElem? (i := 154) rfl)) rfl
theorem tw_960 : Cond.methodLink RX5 46 yX6_clear ∈ TT := TT_in (tm_4 _ (List.mem_of_getElem? (i := 155) rfl)) rfl
theorem tw_961 : Cond.methodLink RX5 54 yX5_isOfNumbers ∈ TT := TT_in (tm_4 _ (List.mem_of_getElem? (i := 156) rfl)) rfl
theorem tw_962 : Cond.static yX5_isOfNumbers ∈ TT := TT_in (tm_4 _ (List.mem_of_getElem? (i := 157) rfl)) rfl
theorem tw_963 : Cond.code yX5_isOfNumbers cX5_isOfNumbers 1 (some .boolean) ∈ TT := TT_in (tm_4 _ (List.mem_of_getElem? (i := 158) rfl)) rfl
theorem tw_964 : Cond.methodLink RX5 58 yX5_reckon ∈ TT := TT_in (tm_4 _ (List.mem_of_getElem? (i := 159) rfl)) rfl
theorem tw_966 : Cond.instanceMethod yX5_reckon ∈ TT := TT_in (tm_4 _ (List.mem_of_getElem? (i := 161) rfl)) rfl
theorem tw_967 : Cond.code yX5_reckon cX5_reckon 10 (some .int) ∈ TT := TT_in (tm_4 _ (List.mem_of_getElem? (i := 162) rfl)) rfl
theorem tw_968 : Cond.methodLink RX5 76 yX6_readNumber ∈ TT := TT_in (tm_4 _ (List.mem_of_getElem? (i := 163) rfl)) rfl
theorem tw_969 : Cond.instanceMethod yX6_readNumber ∈ TT := TT_in (tm_4 _ (List.mem_of_getElem? (i := 164) rfl)) rfl
theorem tw_970 : Cond.selects RX6 yX6_readNumber yX6_readNumber ∈ TT := TT_in (tm_4 _ (List.mem_of_getElem? (i := 165) rfl)) rfl
theorem tw_971 : Cond.code yX6_readNumber cX6_readNumber 8 (some .long) ∈ TT := TT_in (tm_4 _ (List.mem_of_getElem? (i := 166) rfl)) rfl
theorem tw_972 : Cond.methodLink RX6 38 yX6_sign ∈ TT := TT_in (tm_4 _ (List.mem_of_getElem? (i := 167) rfl)) rfl
theorem tw_973 : Cond.constantLong RX6 42 (-1000000000000) ∈ TT := TT_in (tm_4 _ (List.mem_of_getElem? (i := 168) rfl)) rfl
theorem tw_974 : Cond.constantLong RX6 44 (10) ∈ TT := TT_in (tm_4 _ (List.mem_of_getElem? (i := 169) rfl)) rfl
theorem tw_975 : Cond.constantLong RX5 80 (-1000000000000) ∈ TT := TT_in (tm_4 _ (List.mem_of_getElem? (i := 170) rfl)) rfl
theorem tw_976 : Cond.methodLink RX5 82 yX5_formRepeated ∈ TT := TT_in (tm_4 _ (List.mem_of_getElem? (i := 171) rfl)) rfl
theorem tw_978 : Cond.instanceMethod yX5_formRepeated ∈ TT := TT_in (tm_4 _ (List.mem_of_getElem? (i := 173) rfl)) rfl
theorem tw_979 : Cond.code yX5_formRepeated cX5_formRepeated 6 (some .int) ∈ TT := TT_in (tm_4 _ (List.mem_of_getElem? (i := 174) rfl)) rfl
theorem tw_980 : Cond.constantLong RX5 94 (60) ∈ TT := TT_in (tm_4 _ (List.mem_of_getElem? (i := 175) rfl)) rfl
theorem tw_981 : Cond.methodLink RX5 96 yX6_length ∈ TT := TT_in (tm_4 _ (List.mem_of_getElem? (i := 176) rfl)) rfl
theorem tw_982 : Cond.methodLink RX5 99 yX6_append ∈ TT := TT_in (tm_4 _ (List.mem_of_getElem? (i := 177) rfl)) rfl
theorem tw_983 : Cond.constantLong RX5 86 (999999999) ∈ TT := TT_in (tm_4 _ (List.mem_of_getElem? (i := 178) rfl)) rfl
theorem tw_984 : Cond.constantLong RX5 88 (-999999999) ∈ TT := TT_in (tm_4 _ (List.mem_of_getElem? (i := 179) rfl)) rfl
theorem tw_985 : Cond.methodLink RX5 90 yX6_writeNumber ∈ TT := TT_in (tm_4 _ (List.mem_of_getElem? (i := 180) rfl)) rfl
theorem tw_986 : Cond.instanceMethod yX6_writeNumber ∈ TT := TT_in (tm_4 _ (List.mem_of_getElem? (i := 181) rfl)) rfl
theorem tw_987 : Cond.selects RX6 yX6_writeNumber yX6_writeNumber ∈ TT := TT_in (tm_4 _ (List.mem_of_getElem? (i := 182) rfl)) rfl
theorem tw_988 : Cond.code yX6_writeNumber cX6_writeNumber 10 none ∈ TT := TT_in (tm_4 _ (List.mem_of_getElem? (i := 183) rfl)) rfl
theorem tw_989 : Cond.methodLink RX6 46 yX6_add ∈ TT := TT_in (tm_4 _ (List.mem_of_getElem? (i := 184) rfl)) rfl
theorem tw_990 : Cond.constantLong RX6 50 (100000000) ∈ TT := TT_in (tm_4 _ (List.mem_of_getElem? (i := 185) rfl)) rfl
theorem tw_991 : Cond.methodLink RX5 61 yX5_form ∈ TT := TT_in (tm_4 _ (List.mem_of_getElem? (i := 186) rfl)) rfl
theorem tw_993 : Cond.instanceMethod yX5_form ∈ TT := TT_in (tm_4 _ (List.mem_of_getElem? (i := 188) rfl)) rfl
theorem tw_994 : Cond.code yX5_form cX5_form 5 (some .int) ∈ TT := TT_in (tm_4 _ (List.mem_of_getElem? (i := 189) rfl)) rfl
theorem tw_995 : Cond.methodLink RX5 103 yX6_copy ∈ TT := TT_in (tm_4 _ (List.mem_of_getElem? (i := 190) rfl)) rfl
theorem tw_996 : Cond.methodLink RX5 107 yX5_variableNamed ∈ TT := TT_in (tm_4 _ (List.mem_of_getElem? (i := 191) rfl)) rfl
theorem tw_998 : Cond.instanceMethod yX5_variableNamed ∈ TT := TT_in (tm_4 _ (List.mem_of_getElem? (i := 193) rfl)) rfl
theorem tw_999 : Cond.code yX5_variableNamed cX5_variableNamed 3 (some .int) ∈ TT := TT_in (tm_4 _ (List.mem_of_getElem? (i := 194) rfl)) rfl
theorem tw_1000 : Cond.methodLink RX5 121 yX6_sign ∈ TT := TT_in (tm_4 _ (List.mem_of_getElem? (i := 195) rfl)) rfl
theorem tw_1002 : Cond.methodLink RX5 110 yX6_appendAll ∈ TT := TT_in (tm_4 _ (List.mem_of_getElem? (i := 197) rfl)) rfl
theorem tw_1003 : Cond.instanceMethod yX6_appendAll ∈ TT := TT_in (tm_4 _ (List.mem_of_getElem? (i := 198) rfl)) rfl
theorem tw_1004 : Cond.selects RX6 yX6_appendAll yX6_appendAll ∈ TT := TT_in (tm_4 _ (List.mem_of_getElem? (i := 199) rfl)) rfl
theorem tw_1005 : Cond.code yX6_appendAll cX6_appendAll 4 (some .boolean) ∈ TT := TT_in (tm_4 _ (List.mem_of_getElem? (i := 200) rfl)) rfl
theorem tw_1006 : Cond.methodLink RX5 114 yX5_formBackward ∈ TT := TT_in (tm_4 _ (List.mem_of_getElem? (i := 201) rfl)) rfl
theorem tw_1008 : Cond.instanceMethod yX5_formBackward ∈ TT := TT_in (tm_4 _ (List.mem_of_getElem? (i := 203) rfl)) rfl
theorem tw_1009 : Cond.code yX5_formBackward cX5_formBackward 4 none ∈ TT := TT_in (tm_4 _ (List.mem_of_getElem? (i := 204) rfl)) rfl
theorem tw_1010 : Cond.methodLink RX5 129 yX6_add ∈ TT := TT_in (tm_4 _ (List.mem_of_getElem? (i := 205) rfl)) rfl
theorem tw_1011 : Cond.methodLink RX5 117 yX6_hasThere ∈ TT := TT_in (tm_4 _ (List.mem_of_getElem? (i := 206) rfl)) rfl
theorem tw_1012 : Cond.instanceMethod yX6_hasThere ∈ TT := TT_in (tm_4 _ (List.mem_of_getElem? (i := 207) rfl)) rfl
theorem tw_1013 : Cond.selects RX6 yX6_hasThere yX6_hasThere ∈ TT := TT_in (tm_4 _ (List.mem_of_getElem? (i := 208) rfl)) rfl
theorem tw_1014 : Cond.code yX6_hasThere cX6_hasThere 7 (some .boolean) ∈ TT := TT_in (tm_4 _ (List.mem_of_getElem? (i := 209) rfl)) rfl
theorem tw_1015 : Cond.methodLink RX7 130 yX6_copy ∈ TT := TT_in (tm_4 _ (List.mem_of_getElem? (i := 210) rfl)) rfl
theorem tw_1016 : Cond.methodLink RX7 91 yX7_doScan ∈ TT := TT_in (tm_4 _ (List.mem_of_getElem? (i := 211) rfl)) rfl
theorem tw_1018 : Cond.instanceMethod yX7_doScan ∈ TT := TT_in (tm_4 _ (List.mem_of_getElem? (i := 213) rfl)) rfl
theorem tw_1019 : Cond.code yX7_doScan cX7_doScan 6 (some .int) ∈ TT := TT_in (tm_4 _ (List.mem_of_getElem? (i := 214) rfl)) rfl
theorem tw_1020 : Cond.methodLink RX7 134 yX2_prepare ∈ TT := TT_in (tm_4 _ (List.mem_of_getElem? (i := 215) rfl)) rfl
theorem tw_1021 : Cond.instanceMethod yX2_prepare ∈ TT := TT_in (tm_4 _ (List.mem_of_getElem? (i := 216) rfl)) rfl
theorem tw_1022 : Cond.selects RX2 yX2_prepare yX2_prepare ∈ TT := TT_in (tm_4 _ (List.mem_of_getElem? (i := 217) rfl)) rfl
theorem tw_1023 : Cond.code yX2_prepare cX2_prepare 5 none ∈ TT := TT_in (tm_4 _ (List.mem_of_getElem? (i := 218) rfl)) rfl
theorem tw_1024 : Cond.methodLink RX2 52 yX6_copy ∈ TT := TT_in (tm_4 _ (List.mem_of_getElem? (i := 219) rfl)) rfl
theorem tw_1025 : Cond.methodLink RX2 56 yX6_length ∈ TT := TT_in (tm_4 _ (List.mem_of_getElem? (i := 220) rfl)) rfl
theorem tw_1026 : Cond.methodLink RX7 140 yX2_seek ∈ TT := TT_in (tm_4 _ (List.mem_of_getElem? (i := 221) rfl)) rfl
theorem tw_1027 : Cond.instanceMethod yX2_seek ∈ TT := TT_in (tm_4 _ (List.mem_of_getElem? (i := 222) rfl)) rfl
theorem tw_1028 : Cond.selects RX2 yX2_seek yX2_seek ∈ TT := TT_in (tm_4 _ (List.mem_of_getElem? (i := 223) rfl)) rfl
theorem tw_1029 : Cond.code yX2_seek cX2_seek 3 (some .int) ∈ TT := TT_in (tm_4 _ (List.mem_of_getElem? (i := 224) rfl)) rfl
theorem tw_1030 : Cond.constant RX2 79 (10000000) ∈ TT := TT_in (tm_4 _ (List.mem_of_getElem? (i := 225) rfl)) rfl
theorem tw_1031 : Cond.methodLink RX2 80 yX2_begin ∈ TT := TT_in (tm_4 _ (List.mem_of_getElem? (i := 226) rfl)) rfl
theorem tw_1033 : Cond.instanceMethod yX2_begin ∈ TT := TT_in (tm_4 _ (List.mem_of_getElem? (i := 228) rfl)) rfl
theorem tw_1034 : Cond.code yX2_begin cX2_begin 1 (some .int) ∈ TT := TT_in (tm_4 _ (List.mem_of_getElem? (i := 229) rfl)) rfl
theorem tw_1035 : Cond.methodLink RX2 143 yX1_get ∈ TT := TT_in (tm_4 _ (List.mem_of_getElem? (i := 230) rfl)) rfl
theorem tw_1036 : Cond.methodLink RX2 146 yX2_addNode ∈ TT := TT_in (tm_4 _ (List.mem_of_getElem? (i := 231) rfl)) rfl
theorem tw_1038 : Cond.instanceMethod yX2_addNode ∈ TT := TT_in (tm_4 _ (List.mem_of_getElem? (i := 233) rfl)) rfl
theorem tw_1039 : Cond.code yX2_addNode cX2_addNode 1 none ∈ TT := TT_in (tm_4 _ (List.mem_of_getElem? (i := 234) rfl)) rfl
theorem tw_1040 : Cond.methodLink RX2 159 yX3_push ∈ TT := TT_in (tm_4 _ (List.mem_of_getElem? (i := 235) rfl)) rfl
theorem tw_1041 : Cond.instanceMethod yX3_push ∈ TT := TT_in (tm_4 _ (List.mem_of_getElem? (i := 236) rfl)) rfl
theorem tw_1042 : Cond.selects RX3 yX3_push yX3_push ∈ TT := TT_in (tm_4 _ (List.mem_of_getElem? (i := 237) rfl)) rfl
theorem tw_1043 : Cond.code yX3_push cX3_push 4 none ∈ TT := TT_in (tm_4 _ (List.mem_of_getElem? (i := 238) rfl)) rfl
theorem tw_1044 : Cond.methodLink RX2 132 yX2_beginPart ∈ TT := TT_in (tm_4 _ (List.mem_of_getElem? (i := 239) rfl)) rfl
theorem tw_1046 : Cond.instanceMethod yX2_beginPart ∈ TT := TT_in (tm_5 _ (List.mem_of_getElem? (i := 1) rfl)) rfl
theorem tw_1047 : Cond.code yX2_beginPart cX2_beginPart 2 (some .int) ∈ TT := TT_in (tm_5 _ (List.mem_of_getElem? (i := 2) rfl)) rfl
theorem tw_1048 : Cond.methodLink RX2 93 yX2_addChoice ∈ TT := TT_in (tm_5 _ (List.mem_of_getElem? (i := 3) rfl)) rfl
theorem tw_1050 : Cond.instanceMethod yX2_addChoice ∈ TT := TT_in (tm_5 _ (List.mem_of_getElem? (i := 5) rfl)) rfl
theorem tw_1051 : Cond.code yX2_addChoice cX2_addChoice 1 none ∈ TT := TT_in (tm_5 _ (List.mem_of_getElem? (i := 6) rfl)) rfl
theorem tw_1052 : Cond.methodLink RX2 165 yX1_put ∈ TT := TT_in (tm_5 _ (List.mem_of_getElem? (i := 7) rfl)) rfl
theorem tw_1053 : Cond.methodLink RX2 152 yX6_writeNumber ∈ TT := TT_in (tm_5 _ (List.mem_of_getElem? (i := 8) rfl)) rfl
theorem tw_1054 : Cond.methodLink RX2 84 yX2_endOfSingle ∈ TT := TT_in (tm_5 _ (List.mem_of_getElem? (i := 9) rfl)) rfl
theorem tw_1056 : Cond.instanceMethod yX2_endOfSingle ∈ TT := TT_in (tm_5 _ (List.mem_of_getElem? (i := 11) rfl)) rfl
theorem tw_1057 : Cond.code yX2_endOfSingle cX2_endOfSingle 2 (some .int) ∈ TT := TT_in (tm_5 _ (List.mem_of_getElem? (i := 12) rfl)) rfl
theorem tw_1058 : Cond.methodLink RX2 172 yX6_hasThere ∈ TT := TT_in (tm_5 _ (List.mem_of_getElem? (i := 13) rfl)) rfl
theorem tw_1059 : Cond.methodLink RX2 168 yX6_sign ∈ TT := TT_in (tm_5 _ (List.mem_of_getElem? (i := 14) rfl)) rfl
theorem tw_1060 : Cond.methodLink RX2 176 yX6_contains ∈ TT := TT_in (tm_5 _ (List.mem_of_getElem? (i := 15) rfl)) rfl
theorem tw_1061 : Cond.instanceMethod yX6_contains ∈ TT := TT_in (tm_5 _ (List.mem_of_getElem? (i := 16) rfl)) rfl
theorem tw_1062 : Cond.selects RX6 yX6_contains yX6_contains ∈ TT := TT_in (tm_5 _ (List.mem_of_getElem? (i := 17) rfl)) rfl
theorem tw_1063 : Cond.code yX6_contains cX6_contains 6 (some .boolean) ∈ TT := TT_in (tm_5 _ (List.mem_of_getElem? (i := 18) rfl)) rfl
theorem tw_1064 : Cond.methodLink RX2 180 yX2_endOfSpan ∈ TT := TT_in (tm_5 _ (List.mem_of_getElem? (i := 19) rfl)) rfl
theorem tw_1066 : Cond.instanceMethod yX2_endOfSpan ∈ TT := TT_in (tm_5 _ (List.mem_of_getElem? (i := 21) rfl)) rfl
theorem tw_1067 : Cond.code yX2_endOfSpan cX2_endOfSpan 3 (some .int) ∈ TT := TT_in (tm_5 _ (List.mem_of_getElem? (i := 22) rfl)) rfl
theorem tw_1068 : Cond.methodLink RX2 183 yX2_endOfBreak ∈ TT := TT_in (tm_5 _ (List.mem_of_getElem? (i := 23) rfl)) rfl
theorem tw_1070 : Cond.instanceMethod yX2_endOfBreak ∈ TT := TT_in (tm_5 _ (List.mem_of_getElem? (i := 25) rfl)) rfl
theorem tw_1071 : Cond.code yX2_endOfBreak cX2_endOfBreak 3 (some .int) ∈ TT := TT_in (tm_5 _ (List.mem_of_getElem? (i := 26) rfl)) rfl
theorem tw_1072 : Cond.methodLink RX2 87 yX2_goTo ∈ TT := TT_in (tm_5 _ (List.mem_of_getElem? (i := 27) rfl)) rfl
theorem tw_1074 : Cond.instanceMethod yX2_goTo ∈ TT := TT_in (tm_5 _ (List.mem_of_getElem? (i := 29) rfl)) rfl
theorem tw_1075 : Cond.code yX2_goTo cX2_goTo 2 (some .int) ∈ TT := TT_in (tm_5 _ (List.mem_of_getElem? (i := 30) rfl)) rfl
theorem tw_1076 : Cond.methodLink RX2 90 yX2_balance ∈ TT := TT_in (tm_5 _ (List.mem_of_getElem? (i := 31) rfl)) rfl
theorem tw_1078 : Cond.instanceMethod yX2_balance ∈ TT := TT_in (tm_5 _ (List.mem_of_getElem? (i := 33) rfl)) rfl
theorem tw_1079 : Cond.code yX2_balance cX2_balance 4 (some .int) ∈ TT := TT_in (tm_5 _ (List.mem_of_getElem? (i := 34) rfl)) rfl
theorem tw_1080 : Cond.methodLink RX2 96 yX2_goOn ∈ TT := TT_in (tm_5 _ (List.mem_of_getElem? (i := 35) rfl)) rfl
theorem tw_1082 : Cond.instanceMethod yX2_goOn ∈ TT := TT_in (tm_5 _ (List.mem_of_getElem? (i := 37) rfl)) rfl
theorem tw_1083 : Cond.code yX2_goOn cX2_goOn 2 (some .int) ∈ TT := TT_in (tm_5 _ (List.mem_of_getElem? (i := 38) rfl)) rfl
theorem tw_1084 : Cond.methodLink RX2 102 yX3_first ∈ TT := TT_in (tm_5 _ (List.mem_of_getElem? (i := 39) rfl)) rfl
theorem tw_1085 : Cond.instanceMethod yX3_first ∈ TT := TT_in (tm_5 _ (List.mem_of_getElem? (i := 40) rfl)) rfl
theorem tw_1086 : Cond.selects RX3 yX3_first yX3_first ∈ TT := TT_in (tm_5 _ (List.mem_of_getElem? (i := 41) rfl)) rfl
theorem tw_1087 : Cond.code yX3_first cX3_first 2 (some .int) ∈ TT := TT_in (tm_5 _ (List.mem_of_getElem? (i := 42) rfl)) rfl
theorem tw_1088 : Cond.methodLink RX2 105 yX3_second ∈ TT := TT_in (tm_5 _ (List.mem_of_getElem? (i := 43) rfl)) rfl
theorem tw_1089 : Cond.instanceMethod yX3_second ∈ TT := TT_in (tm_5 _ (List.mem_of_getElem? (i := 44) rfl)) rfl
theorem tw_1090 : Cond.selects RX3 yX3_second yX3_second ∈ TT := TT_in (tm_5 _ (List.mem_of_getElem? (i := 45) rfl)) rfl
theorem tw_1091 : Cond.code yX3_second cX3_second 2 (some .int) ∈ TT := TT_in (tm_5 _ (List.mem_of_getElem? (i := 46) rfl)) rfl
theorem tw_1092 : Cond.methodLink RX2 108 yX3_third ∈ TT := TT_in (tm_5 _ (List.mem_of_getElem? (i := 47) rfl)) rfl
theorem tw_1093 : Cond.instanceMethod yX3_third ∈ TT := TT_in (tm_5 _ (List.mem_of_getElem? (i := 48) rfl)) rfl
theorem tw_1094 : Cond.selects RX3 yX3_third yX3_third ∈ TT := TT_in (tm_5 _ (List.mem_of_getElem? (i := 49) rfl)) rfl
theorem tw_1095 : Cond.code yX3_third cX3_third 2 (some .int) ∈ TT := TT_in (tm_5 _ (List.mem_of_getElem? (i := 50) rfl)) rfl
theorem tw_1096 : Cond.methodLink RX2 111 yX2_capture ∈ TT := TT_in (tm_5 _ (List.mem_of_getElem? (i := 51) rfl)) rfl
theorem tw_1098 : Cond.instanceMethod yX2_capture ∈ TT := TT_in (tm_5 _ (List.mem_of_getElem? (i := 53) rfl)) rfl
theorem tw_1099 : Cond.code yX2_capture cX2_capture 4 none ∈ TT := TT_in (tm_5 _ (List.mem_of_getElem? (i := 54) rfl)) rfl
theorem tw_1100 : Cond.methodLink RX2 115 yX6_clear ∈ TT := TT_in (tm_5 _ (List.mem_of_getElem? (i := 55) rfl)) rfl
theorem tw_1101 : Cond.methodLink RX2 118 yX6_append ∈ TT := TT_in (tm_5 _ (List.mem_of_getElem? (i := 56) rfl)) rfl
theorem tw_1102 : Cond.methodLink RX2 99 yX2_goBack ∈ TT := TT_in (tm_5 _ (List.mem_of_getElem? (i := 57) rfl)) rfl
theorem tw_1104 : Cond.instanceMethod yX2_goBack ∈ TT := TT_in (tm_5 _ (List.mem_of_getElem? (i := 59) rfl)) rfl
theorem tw_1105 : Cond.code yX2_goBack cX2_goBack 1 (some .int) ∈ TT := TT_in (tm_5 _ (List.mem_of_getElem? (i := 60) rfl)) rfl
theorem tw_1106 : Cond.methodLink RX2 162 yX2_beginAtNextCursor ∈ TT := TT_in (tm_5 _ (List.mem_of_getElem? (i := 61) rfl)) rfl
theorem tw_1108 : Cond.instanceMethod yX2_beginAtNextCursor ∈ TT := TT_in (tm_5 _ (List.mem_of_getElem? (i := 63) rfl)) rfl
theorem tw_1109 : Cond.code yX2_beginAtNextCursor cX2_beginAtNextCursor 1 (some .int) ∈ TT := TT_in (tm_5 _ (List.mem_of_getElem? (i := 64) rfl)) rfl
theorem tw_1110 : Cond.methodLink RX7 144 yX2_assignTaken ∈ TT := TT_in (tm_5 _ (List.mem_of_getElem? (i := 65) rfl)) rfl
theorem tw_1111 : Cond.instanceMethod yX2_assignTaken ∈ TT := TT_in (tm_5 _ (List.mem_of_getElem? (i := 66) rfl)) rfl
theorem tw_1112 : Cond.selects RX2 yX2_assignTaken yX2_assignTaken ∈ TT := TT_in (tm_5 _ (List.mem_of_getElem? (i := 67) rfl)) rfl
theorem tw_1113 : Cond.code yX2_assignTaken cX2_assignTaken 2 none ∈ TT := TT_in (tm_5 _ (List.mem_of_getElem? (i := 68) rfl)) rfl
theorem tw_1114 : Cond.methodLink RX7 147 yX2_replace ∈ TT := TT_in (tm_5 _ (List.mem_of_getElem? (i := 69) rfl)) rfl
theorem tw_1115 : Cond.instanceMethod yX2_replace ∈ TT := TT_in (tm_5 _ (List.mem_of_getElem? (i := 70) rfl)) rfl
theorem tw_1116 : Cond.selects RX2 yX2_replace yX2_replace ∈ TT := TT_in (tm_5 _ (List.mem_of_getElem? (i := 71) rfl)) rfl
theorem tw_1117 : Cond.code yX2_replace cX2_replace 5 (some .boolean) ∈ TT := TT_in (tm_5 _ (List.mem_of_getElem? (i := 72) rfl)) rfl
theorem tw_1118 : Cond.methodLink RX2 122 yX6_appendAll ∈ TT := TT_in (tm_5 _ (List.mem_of_getElem? (i := 73) rfl)) rfl
theorem tw_1119 : Cond.methodLink RX7 94 yX7_doCall ∈ TT := TT_in (tm_5 _ (List.mem_of_getElem? (i := 74) rfl)) rfl
theorem tw_1121 : Cond.instanceMethod yX7_doCall ∈ TT := TT_in (tm_5 _ (List.mem_of_getElem? (i := 76) rfl)) rfl
theorem tw_1122 : Cond.code yX7_doCall cX7_doCall 7 (some .int) ∈ TT := TT_in (tm_5 _ (List.mem_of_getElem? (i := 77) rfl)) rfl
theorem tw_1123 : Cond.methodLink RX7 157 yX6_clear ∈ TT := TT_in (tm_5 _ (List.mem_of_getElem? (i := 78) rfl)) rfl
theorem tw_1124 : Cond.methodLink RX7 160 yX1_put ∈ TT := TT_in (tm_5 _ (List.mem_of_getElem? (i := 79) rfl)) rfl
theorem tw_1125 : Cond.methodLink RX7 97 yX7_placeBehind ∈ TT := TT_in (tm_5 _ (List.mem_of_getElem? (i := 80) rfl)) rfl
theorem tw_1127 : Cond.instanceMethod yX7_placeBehind ∈ TT := TT_in (tm_5 _ (List.mem_of_getElem? (i := 82) rfl)) rfl
theorem tw_1128 : Cond.code yX7_placeBehind cX7_placeBehind 3 (some .int) ∈ TT := TT_in (tm_5 _ (List.mem_of_getElem? (i := 83) rfl)) rfl
theorem tw_1129 : Cond.methodLink RX7 101 yX7_breakOff ∈ TT := TT_in (tm_5 _ (List.mem_of_getElem? (i := 84) rfl)) rfl
theorem tw_1131 : Cond.instanceMethod yX7_breakOff ∈ TT := TT_in (tm_5 _ (List.mem_of_getElem? (i := 86) rfl)) rfl
theorem tw_1132 : Cond.code yX7_breakOff cX7_breakOff 2 (some .int) ∈ TT := TT_in (tm_5 _ (List.mem_of_getElem? (i := 87) rfl)) rfl
theorem tw_1133 : Cond.methodLink RX7 110 yX7_placeOf ∈ TT := TT_in (tm_5 _ (List.mem_of_getElem? (i := 88) rfl)) rfl
theorem tw_1135 : Cond.instanceMethod yX7_placeOf ∈ TT := TT_in (tm_5 _ (List.mem_of_getElem? (i := 90) rfl)) rfl
theorem tw_1136 : Cond.code yX7_placeOf cX7_placeOf 2 (some .int) ∈ TT := TT_in (tm_5 _ (List.mem_of_getElem? (i := 91) rfl)) rfl
theorem tw_1138 : Cond.methodLink RX7 113 yX7_leave ∈ TT := TT_in (tm_5 _ (List.mem_of_getElem? (i := 93) rfl)) rfl
theorem tw_1140 : Cond.instanceMethod yX7_leave ∈ TT := TT_in (tm_5 _ (List.mem_of_getElem? (i := 95) rfl)) rfl
theorem tw_1141 : Cond.code yX7_leave cX7_leave 7 (some .int) ∈ TT := TT_in (tm_5 _ (List.mem_of_getElem? (i := 96) rfl)) rfl
theorem tw_1142 : Cond.methodLink RX7 172 yX7_comeBack ∈ TT := TT_in (tm_5 _ (List.mem_of_getElem? (i := 97) rfl)) rfl
theorem tw_1144 : Cond.instanceMethod yX7_comeBack ∈ TT := TT_in (tm_5 _ (List.mem_of_getElem? (i := 99) rfl)) rfl
theorem tw_1145 : Cond.code yX7_comeBack cX7_comeBack 5 (some .int) ∈ TT := TT_in (tm_5 _ (List.mem_of_getElem? (i := 100) rfl)) rfl
theorem tw_1146 : Cond.methodLink RL 176 yL_error ∈ TT := TT_in (tm_5 _ (List.mem_of_getElem? (i := 101) rfl)) rfl
theorem tw_1147 : Cond.static yL_error ∈ TT := TT_in (tm_5 _ (List.mem_of_getElem? (i := 102) rfl)) rfl
theorem tw_1148 : Cond.codeWith yL_error cL_error 3 (some .int) [(0, 8, 11, 15), (0, 8, 14, 35)] ∈ TT := TT_in (tm_5 _ (List.mem_of_getElem? (i := 103) rfl)) rfl
theorem tw_1149 : Cond.methodLink RL 63 yX8_error ∈ TT := TT_in (tm_5 _ (List.mem_of_getElem? (i := 104) rfl)) rfl
theorem tw_1150 : Cond.instanceMethod yX8_error ∈ TT := TT_in (tm_5 _ (List.mem_of_getElem? (i := 105) rfl)) rfl
theorem tw_1151 : Cond.selects RX8 yX8_error yX8_error ∈ TT := TT_in (tm_5 _ (List.mem_of_getElem? (i := 106) rfl)) rfl
theorem tw_1152 : Cond.code yX8_error cX8_error 1 (some .int) ∈ TT := TT_in (tm_5 _ (List.mem_of_getElem? (i := 107) rfl)) rfl
theorem tw_1153 : Cond.methodLink RX8 214 yX8_needRun ∈ TT := TT_in (tm_5 _ (List.mem_of_getElem? (i := 108) rfl)) rfl
theorem tw_1155 : Cond.instanceMethod yX8_needRun ∈ TT := TT_in (tm_5 _ (List.mem_of_getElem? (i := 110) rfl)) rfl
theorem tw_1156 : Cond.code yX8_needRun cX8_needRun 1 none ∈ TT := TT_in (tm_5 _ (List.mem_of_getElem? (i := 111) rfl)) rfl
theorem tw_1159 : Cond.methodLink RL 179 yL_last ∈ TT := TT_in (tm_5 _ (List.mem_of_getElem? (i := 114) rfl)) rfl
theorem tw_1160 : Cond.static yL_last ∈ TT := TT_in (tm_5 _ (List.mem_of_getElem? (i := 115) rfl)) rfl
theorem tw_1161 : Cond.codeWith yL_last cL_last 3 (some .int) [(0, 8, 11, 15)] ∈ TT := TT_in (tm_5 _ (List.mem_of_getElem? (i := 116) rfl)) rfl
theorem tw_1162 : Cond.methodLink RL 66 yX8_last ∈ TT := TT_in (tm_5 _ (List.mem_of_getElem? (i := 117) rfl)) rfl
theorem tw_1163 : Cond.instanceMethod yX8_last ∈ TT := TT_in (tm_5 _ (List.mem_of_getElem? (i := 118) rfl)) rfl
theorem tw_1164 : Cond.selects RX8 yX8_last yX8_last ∈ TT := TT_in (tm_5 _ (List.mem_of_getElem? (i := 119) rfl)) rfl
theorem tw_1165 : Cond.code yX8_last cX8_last 1 (some .int) ∈ TT := TT_in (tm_5 _ (List.mem_of_getElem? (i := 120) rfl)) rfl
theorem tw_1166 : Cond.methodLink RL 182 yL_steps ∈ TT := TT_in (tm_5 _ (List.mem_of_getElem? (i := 121) rfl)) rfl
theorem tw_1167 : Cond.static yL_steps ∈ TT := TT_in (tm_5 _ (List.mem_of_getElem? (i := 122) rfl)) rfl
theorem tw_1168 : Cond.codeWith yL_steps cL_steps 3 (some .int) [(0, 8, 11, 15)] ∈ TT := TT_in (tm_5 _ (List.mem_of_getElem? (i := 123) rfl)) rfl
theorem tw_1169 : Cond.methodLink RL 69 yX8_steps ∈ TT := TT_in (tm_5 _ (List.mem_of_getElem? (i := 124) rfl)) rfl
theorem tw_1170 : Cond.instanceMethod yX8_steps ∈ TT := TT_in (tm_5 _ (List.mem_of_getElem? (i := 125) rfl)) rfl
theorem tw_1171 : Cond.selects RX8 yX8_steps yX8_steps ∈ TT := TT_in (tm_5 _ (List.mem_of_getElem? (i := 126) rfl)) rfl
theorem tw_1172 : Cond.code yX8_steps cX8_steps 1 (some .int) ∈ TT := TT_in (tm_5 _ (List.mem_of_getElem? (i := 127) rfl)) rfl
theorem tw_1173 : Cond.methodLink RL 185 yL_done ∈ TT := TT_in (tm_5 _ (List.mem_of_getElem? (i := 128) rfl)) rfl
theorem tw_1174 : Cond.static yL_done ∈ TT := TT_in (tm_5 _ (List.mem_of_getElem? (i := 129) rfl)) rfl
theorem tw_1175 : Cond.codeWith yL_done cL_done 4 (some .int) [(0, 9, 12, 15), (0, 9, 15, 26)] ∈ TT := TT_in (tm_5 _ (List.mem_of_getElem? (i := 130) rfl)) rfl
theorem tw_1176 : Cond.methodLink RL 72 yX8_done ∈ TT := TT_in (tm_5 _ (List.mem_of_getElem? (i := 131) rfl)) rfl
theorem tw_1177 : Cond.instanceMethod yX8_done ∈ TT := TT_in (tm_5 _ (List.mem_of_getElem? (i := 132) rfl)) rfl
theorem tw_1178 : Cond.selects RX8 yX8_done yX8_done ∈ TT := TT_in (tm_5 _ (List.mem_of_getElem? (i := 133) rfl)) rfl
theorem tw_1179 : Cond.code yX8_done cX8_done 2 (some .int) ∈ TT := TT_in (tm_5 _ (List.mem_of_getElem? (i := 134) rfl)) rfl
theorem tw_1180 : Cond.methodLink RX8 231 yX1_get ∈ TT := TT_in (tm_5 _ (List.mem_of_getElem? (i := 135) rfl)) rfl
theorem tw_1181 : Cond.methodLink RL 188 yL_failed ∈ TT := TT_in (tm_5 _ (List.mem_of_getElem? (i := 136) rfl)) rfl
theorem tw_1182 : Cond.static yL_failed ∈ TT := TT_in (tm_5 _ (List.mem_of_getElem? (i := 137) rfl)) rfl
theorem tw_1183 : Cond.codeWith yL_failed cL_failed 4 (some .int) [(0, 9, 12, 15), (0, 9, 15, 26)] ∈ TT := TT_in (tm_5 _ (List.mem_of_getElem? (i := 138) rfl)) rfl
theorem tw_1184 : Cond.methodLink RL 75 yX8_failed ∈ TT := TT_in (tm_5 _ (List.mem_of_getElem? (i := 139) rfl)) rfl
theorem tw_1185 : Cond.instanceMethod yX8_failed ∈ TT := TT_in (tm_5 _ (List.mem_of_getElem? (i := 140) rfl)) rfl
theorem tw_1186 : Cond.selects RX8 yX8_failed yX8_failed ∈ TT := TT_in (tm_5 _ (List.mem_of_getElem? (i := 141) rfl)) rfl
theorem tw_1187 : Cond.code yX8_failed cX8_failed 2 (some .int) ∈ TT := TT_in (tm_5 _ (List.mem_of_getElem? (i := 142) rfl)) rfl
theorem tw_1188 : Cond.methodLink RL 191 yL_depth ∈ TT := TT_in (tm_5 _ (List.mem_of_getElem? (i := 143) rfl)) rfl
theorem tw_1189 : Cond.static yL_depth ∈ TT := TT_in (tm_5 _ (List.mem_of_getElem? (i := 144) rfl)) rfl
theorem tw_1190 : Cond.codeWith yL_depth cL_depth 3 (some .int) [(0, 8, 11, 15)] ∈ TT := TT_in (tm_5 _ (List.mem_of_getElem? (i := 145) rfl)) rfl
theorem tw_1191 : Cond.methodLink RL 78 yX8_depth ∈ TT := TT_in (tm_5 _ (List.mem_of_getElem? (i := 146) rfl)) rfl
theorem tw_1192 : Cond.instanceMethod yX8_depth ∈ TT := TT_in (tm_5 _ (List.mem_of_getElem? (i := 147) rfl)) rfl
theorem tw_1193 : Cond.selects RX8 yX8_depth yX8_depth ∈ TT := TT_in (tm_5 _ (List.mem_of_getElem? (i := 148) rfl)) rfl
theorem tw_1194 : Cond.code yX8_depth cX8_depth 1 (some .int) ∈ TT := TT_in (tm_5 _ (List.mem_of_getElem? (i := 149) rfl)) rfl
theorem tw_1195 : Cond.methodLink RL 194 yL_match ∈ TT := TT_in (tm_5 _ (List.mem_of_getElem? (i := 150) rfl)) rfl
theorem tw_1196 : Cond.static yL_match ∈ TT := TT_in (tm_5 _ (List.mem_of_getElem? (i := 151) rfl)) rfl
theorem tw_1197 : Cond.codeWith yL_match cL_match 4 (some .int) [(0, 16, 19, 26), (0, 16, 22, 85)] ∈ TT := TT_in (tm_5 _ (List.mem_of_getElem? (i := 152) rfl)) rfl
theorem tw_1198 : Cond.classLink RL 85 "java/lang/ArithmeticException" ∈ TT := TT_in (tm_5 _ (List.mem_of_getElem? (i := 153) rfl)) rfl
theorem tw_1212 : Cond.methodLink RL 81 yX8_match ∈ TT := TT_in (tm_5 _ (List.mem_of_getElem? (i := 167) rfl)) rfl
theorem tw_1213 : Cond.instanceMethod yX8_match ∈ TT := TT_in (tm_5 _ (List.mem_of_getElem? (i := 168) rfl)) rfl
theorem tw_1214 : Cond.selects RX8 yX8_match yX8_match ∈ TT := TT_in (tm_5 _ (List.mem_of_getElem? (i := 169) rfl)) rfl
theorem tw_1215 : Cond.code yX8_match cX8_match 3 (some .boolean) ∈ TT := TT_in (tm_5 _ (List.mem_of_getElem? (i := 170) rfl)) rfl
theorem tw_1216 : Cond.methodLink RX8 240 yX6_copyAll ∈ TT := TT_in (tm_5 _ (List.mem_of_getElem? (i := 171) rfl)) rfl
theorem tw_1217 : Cond.instanceMethod yX6_copyAll ∈ TT := TT_in (tm_5 _ (List.mem_of_getElem? (i := 172) rfl)) rfl
theorem tw_1218 : Cond.selects RX6 yX6_copyAll yX6_copyAll ∈ TT := TT_in (tm_5 _ (List.mem_of_getElem? (i := 173) rfl)) rfl
theorem tw_1219 : Cond.code yX6_copyAll cX6_copyAll 3 none ∈ TT := TT_in (tm_5 _ (List.mem_of_getElem? (i := 174) rfl)) rfl
theorem tw_1220 : Cond.methodLink RX6 34 yX6_copy ∈ TT := TT_in (tm_5 _ (List.mem_of_getElem? (i := 175) rfl)) rfl
theorem tw_1221 : Cond.methodLink RX8 244 yX2_prepare ∈ TT := TT_in (tm_5 _ (List.mem_of_getElem? (i := 176) rfl)) rfl
theorem tw_1222 : Cond.methodLink RX8 248 yX2_seek ∈ TT := TT_in (tm_5 _ (List.mem_of_getElem? (i := 177) rfl)) rfl
theorem tw_1223 : Cond.classLink RX8 252 "java/lang/ArithmeticException" ∈ TT := TT_in (tm_5 _ (List.mem_of_getElem? (i := 178) rfl)) rfl
theorem tw_1226 : Cond.methodLink RX8 284 yX2_assignTaken ∈ TT := TT_in (tm_5 _ (List.mem_of_getElem? (i := 181) rfl)) rfl
theorem tw_1227 : Cond.methodLink RL 197 yL_from ∈ TT := TT_in (tm_5 _ (List.mem_of_getElem? (i := 182) rfl)) rfl
theorem tw_1228 : Cond.static yL_from ∈ TT := TT_in (tm_5 _ (List.mem_of_getElem? (i := 183) rfl)) rfl
theorem tw_1229 : Cond.codeWith yL_from cL_from 3 (some .int) [(0, 8, 11, 15), (0, 8, 14, 35)] ∈ TT := TT_in (tm_5 _ (List.mem_of_getElem? (i := 184) rfl)) rfl
theorem tw_1230 : Cond.methodLink RL 87 yX8_from ∈ TT := TT_in (tm_5 _ (List.mem_of_getElem? (i := 185) rfl)) rfl
theorem tw_1231 : Cond.instanceMethod yX8_from ∈ TT := TT_in (tm_5 _ (List.mem_of_getElem? (i := 186) rfl)) rfl
theorem tw_1232 : Cond.selects RX8 yX8_from yX8_from ∈ TT := TT_in (tm_5 _ (List.mem_of_getElem? (i := 187) rfl)) rfl
theorem tw_1233 : Cond.code yX8_from cX8_from 1 (some .int) ∈ TT := TT_in (tm_5 _ (List.mem_of_getElem? (i := 188) rfl)) rfl
theorem tw_1234 : Cond.methodLink RX8 287 yX8_needMatch ∈ TT := TT_in (tm_5 _ (List.mem_of_getElem? (i := 189) rfl)) rfl
theorem tw_1236 : Cond.instanceMethod yX8_needMatch ∈ TT := TT_in (tm_5 _ (List.mem_of_getElem? (i := 191) rfl)) rfl
theorem tw_1237 : Cond.code yX8_needMatch cX8_needMatch 1 none ∈ TT := TT_in (tm_5 _ (List.mem_of_getElem? (i := 192) rfl)) rfl
theorem tw_1239 : Cond.methodLink RX8 290 yX8_needMatched ∈ TT := TT_in (tm_5 _ (List.mem_of_getElem? (i := 194) rfl)) rfl
theorem tw_1241 : Cond.instanceMethod yX8_needMatched ∈ TT := TT_in (tm_5 _ (List.mem_of_getElem? (i := 196) rfl)) rfl
theorem tw_1242 : Cond.code yX8_needMatched cX8_needMatched 1 none ∈ TT := TT_in (tm_5 _ (List.mem_of_getElem? (i := 197) rfl)) rfl
theorem tw_1244 : Cond.methodLink RL 200 yL_to ∈ TT := TT_in (tm_5 _ (List.mem_of_getElem? (i := 199) rfl)) rfl
theorem tw_1245 : Cond.static yL_to ∈ TT := TT_in (tm_5 _ (List.mem_of_getElem? (i := 200) rfl)) rfl
theorem tw_1246 : Cond.codeWith yL_to cL_to 3 (some .int) [(0, 8, 11, 15), (0, 8, 14, 35)] ∈ TT := TT_in (tm_5 _ (List.mem_of_getElem? (i := 201) rfl)) rfl
theorem tw_1247 : Cond.methodLink RL 90 yX8_to ∈ TT := TT_in (tm_5 _ (List.mem_of_getElem? (i := 202) rfl)) rfl
theorem tw_1248 : Cond.instanceMethod yX8_to ∈ TT := TT_in (tm_5 _ (List.mem_of_getElem? (i := 203) rfl)) rfl
theorem tw_1249 : Cond.selects RX8 yX8_to yX8_to ∈ TT := TT_in (tm_5 _ (List.mem_of_getElem? (i := 204) rfl)) rfl
theorem tw_1250 : Cond.code yX8_to cX8_to 1 (some .int) ∈ TT := TT_in (tm_5 _ (List.mem_of_getElem? (i := 205) rfl)) rfl
theorem tw_1251 : Cond.methodLink RL 203 yL_begun ∈ TT := TT_in (tm_5 _ (List.mem_of_getElem? (i := 206) rfl)) rfl
theorem tw_1252 : Cond.static yL_begun ∈ TT := TT_in (tm_5 _ (List.mem_of_getElem? (i := 207) rfl)) rfl
theorem tw_1253 : Cond.codeWith yL_begun cL_begun 3 (some .int) [(0, 8, 11, 15)] ∈ TT := TT_in (tm_5 _ (List.mem_of_getElem? (i := 208) rfl)) rfl
theorem tw_1254 : Cond.methodLink RL 93 yX8_begun ∈ TT := TT_in (tm_5 _ (List.mem_of_getElem? (i := 209) rfl)) rfl
theorem tw_1255 : Cond.instanceMethod yX8_begun ∈ TT := TT_in (tm_5 _ (List.mem_of_getElem? (i := 210) rfl)) rfl
theorem tw_1256 : Cond.selects RX8 yX8_begun yX8_begun ∈ TT := TT_in (tm_5 _ (List.mem_of_getElem? (i := 211) rfl)) rfl
theorem tw_1257 : Cond.code yX8_begun cX8_begun 1 (some .int) ∈ TT := TT_in (tm_5 _ (List.mem_of_getElem? (i := 212) rfl)) rfl
theorem tw_1258 : Cond.methodLink RL 206 yL_ways ∈ TT := TT_in (tm_5 _ (List.mem_of_getElem? (i := 213) rfl)) rfl
theorem tw_1259 : Cond.static yL_ways ∈ TT := TT_in (tm_5 _ (List.mem_of_getElem? (i := 214) rfl)) rfl
theorem tw_1260 : Cond.codeWith yL_ways cL_ways 4 (some .int) [(0, 9, 12, 26), (0, 9, 15, 85)] ∈ TT := TT_in (tm_5 _ (List.mem_of_getElem? (i := 215) rfl)) rfl
theorem tw_1261 : Cond.methodLink RL 96 yX8_ways ∈ TT := TT_in (tm_5 _ (List.mem_of_getElem? (i := 216) rfl)) rfl
theorem tw_1262 : Cond.instanceMethod yX8_ways ∈ TT := TT_in (tm_5 _ (List.mem_of_getElem? (i := 217) rfl)) rfl
theorem tw_1263 : Cond.selects RX8 yX8_ways yX8_ways ∈ TT := TT_in (tm_5 _ (List.mem_of_getElem? (i := 218) rfl)) rfl
theorem tw_1264 : Cond.code yX8_ways cX8_ways 3 (some .int) ∈ TT := TT_in (tm_5 _ (List.mem_of_getElem? (i := 219) rfl)) rfl
theorem tw_1265 : Cond.methodLink RX8 293 yX8_findWays ∈ TT := TT_in (tm_5 _ (List.mem_of_getElem? (i := 220) rfl)) rfl
theorem tw_1267 : Cond.instanceMethod yX8_findWays ∈ TT := TT_in (tm_5 _ (List.mem_of_getElem? (i := 222) rfl)) rfl
theorem tw_1268 : Cond.code yX8_findWays cX8_findWays 4 (some .int) ∈ TT := TT_in (tm_5 _ (List.mem_of_getElem? (i := 223) rfl)) rfl
theorem tw_1269 : Cond.methodLink RX8 326 yX1_put ∈ TT := TT_in (tm_5 _ (List.mem_of_getElem? (i := 224) rfl)) rfl
theorem tw_1270 : Cond.methodLink RL 209 yL_way ∈ TT := TT_in (tm_5 _ (List.mem_of_getElem? (i := 225) rfl)) rfl
theorem tw_1271 : Cond.static yL_way ∈ TT := TT_in (tm_5 _ (List.mem_of_getElem? (i := 226) rfl)) rfl
theorem tw_1272 : Cond.codeWith yL_way cL_way 5 (some .int) [(0, 10, 13, 26), (0, 10, 17, 85), (0, 10, 21, 35)] ∈ TT := TT_in (tm_5 _ (List.mem_of_getElem? (i := 227) rfl)) rfl
theorem tw_1273 : Cond.methodLink RL 99 yX8_way ∈ TT := TT_in (tm_5 _ (List.mem_of_getElem? (i := 228) rfl)) rfl
theorem tw_1274 : Cond.instanceMethod yX8_way ∈ TT := TT_in (tm_5 _ (List.mem_of_getElem? (i := 229) rfl)) rfl
theorem tw_1275 : Cond.selects RX8 yX8_way yX8_way ∈ TT := TT_in (tm_5 _ (List.mem_of_getElem? (i := 230) rfl)) rfl
theorem tw_1276 : Cond.code yX8_way cX8_way 4 (some .int) ∈ TT := TT_in (tm_5 _ (List.mem_of_getElem? (i := 231) rfl)) rfl
theorem tw_1278 : Cond.methodLink RL 212 yL_work ∈ TT := TT_in (tm_5 _ (List.mem_of_getElem? (i := 233) rfl)) rfl
theorem tw_1279 : Cond.static yL_work ∈ TT := TT_in (tm_5 _ (List.mem_of_getElem? (i := 234) rfl)) rfl
theorem tw_1280 : Cond.codeWith yL_work cL_work 4 (some .int) [(0, 16, 19, 26), (0, 16, 22, 85)] ∈ TT := TT_in (tm_5 _ (List.mem_of_getElem? (i := 235) rfl)) rfl
theorem tw_1281 : Cond.methodLink RL 102 yX8_work ∈ TT := TT_in (tm_5 _ (List.mem_of_getElem? (i := 236) rfl)) rfl
theorem tw_1282 : Cond.instanceMethod yX8_work ∈ TT := TT_in (tm_5 _ (List.mem_of_getElem? (i := 237) rfl)) rfl
theorem tw_1283 : Cond.selects RX8 yX8_work yX8_work ∈ TT := TT_in (tm_5 _ (List.mem_of_getElem? (i := 238) rfl)) rfl
theorem tw_1284 : Cond.code yX8_work cX8_work 3 (some .boolean) ∈ TT := TT_in (tm_5 _ (List.mem_of_getElem? (i := 239) rfl)) rfl
theorem tw_1285 : Cond.methodLink RX8 298 yX5_workOut ∈ TT := TT_in (tm_6 _ (List.mem_of_getElem? (i := 0) rfl)) rfl
theorem tw_1287 : Cond.methodLink RL 215 yL_typed ∈ TT := TT_in (tm_6 _ (List.mem_of_getElem? (i := 2) rfl)) rfl
theorem tw_1288 : Cond.static yL_typed ∈ TT := TT_in (tm_6 _ (List.mem_of_getElem? (i := 3) rfl)) rfl
theorem tw_1289 : Cond.codeWith yL_typed cL_typed 4 (some .int) [(0, 9, 12, 35)] ∈ TT := TT_in (tm_6 _ (List.mem_of_getElem? (i := 4) rfl)) rfl
theorem tw_1290 : Cond.methodLink RL 105 yX8_typed ∈ TT := TT_in (tm_6 _ (List.mem_of_getElem? (i := 5) rfl)) rfl
theorem tw_1291 : Cond.instanceMethod yX8_typed ∈ TT := TT_in (tm_6 _ (List.mem_of_getElem? (i := 6) rfl)) rfl
theorem tw_1292 : Cond.selects RX8 yX8_typed yX8_typed ∈ TT := TT_in (tm_6 _ (List.mem_of_getElem? (i := 7) rfl)) rfl
theorem tw_1293 : Cond.code yX8_typed cX8_typed 2 (some .int) ∈ TT := TT_in (tm_6 _ (List.mem_of_getElem? (i := 8) rfl)) rfl
theorem tw_1295 : Cond.methodLink RL 222 yL_failShare ∈ TT := TT_in (tm_6 _ (List.mem_of_getElem? (i := 10) rfl)) rfl
theorem tw_1296 : Cond.static yL_failShare ∈ TT := TT_in (tm_6 _ (List.mem_of_getElem? (i := 11) rfl)) rfl
theorem tw_1297 : Cond.codeWith yL_failShare cL_failShare 3 (some .int) [(0, 8, 11, 15)] ∈ TT := TT_in (tm_6 _ (List.mem_of_getElem? (i := 12) rfl)) rfl
theorem tw_1298 : Cond.methodLink RL 108 yX8_failShare ∈ TT := TT_in (tm_6 _ (List.mem_of_getElem? (i := 13) rfl)) rfl
theorem tw_1299 : Cond.instanceMethod yX8_failShare ∈ TT := TT_in (tm_6 _ (List.mem_of_getElem? (i := 14) rfl)) rfl
theorem tw_1300 : Cond.selects RX8 yX8_failShare yX8_failShare ∈ TT := TT_in (tm_6 _ (List.mem_of_getElem? (i := 15) rfl)) rfl
theorem tw_1301 : Cond.code yX8_failShare cX8_failShare 3 (some .float) ∈ TT := TT_in (tm_6 _ (List.mem_of_getElem? (i := 16) rfl)) rfl
theorem tw_1302 : Cond.methodLink RL 226 yL_meanSize ∈ TT := TT_in (tm_6 _ (List.mem_of_getElem? (i := 17) rfl)) rfl
theorem tw_1303 : Cond.static yL_meanSize ∈ TT := TT_in (tm_6 _ (List.mem_of_getElem? (i := 18) rfl)) rfl
theorem tw_1304 : Cond.codeWith yL_meanSize cL_meanSize 3 (some .int) [(0, 7, 10, 85)] ∈ TT := TT_in (tm_6 _ (List.mem_of_getElem? (i := 19) rfl)) rfl
theorem tw_1305 : Cond.methodLink RL 112 yX8_meanSize ∈ TT := TT_in (tm_6 _ (List.mem_of_getElem? (i := 20) rfl)) rfl
theorem tw_1306 : Cond.instanceMethod yX8_meanSize ∈ TT := TT_in (tm_6 _ (List.mem_of_getElem? (i := 21) rfl)) rfl
theorem tw_1307 : Cond.selects RX8 yX8_meanSize yX8_meanSize ∈ TT := TT_in (tm_6 _ (List.mem_of_getElem? (i := 22) rfl)) rfl
theorem tw_1308 : Cond.code yX8_meanSize cX8_meanSize 5 (some .double) ∈ TT := TT_in (tm_6 _ (List.mem_of_getElem? (i := 23) rfl)) rfl
theorem tw_1310 : Cond.classLink RL 117 RX9 ∈ TT := TT_in (tm_6 _ (List.mem_of_getElem? (i := 25) rfl)) rfl
theorem tw_1311 : Cond.instantiable RX9 81 ∈ TT := TT_in (tm_6 _ (List.mem_of_getElem? (i := 26) rfl)) rfl
theorem tw_1312 : Cond.methodLink RL 119 yX9_init ∈ TT := TT_in (tm_6 _ (List.mem_of_getElem? (i := 27) rfl)) rfl
theorem tw_1313 : Cond.instanceMethod yX9_init ∈ TT := TT_in (tm_6 _ (List.mem_of_getElem? (i := 28) rfl)) rfl
theorem tw_1314 : Cond.code yX9_init cX9_init 1 none ∈ TT := TT_in (tm_6 _ (List.mem_of_getElem? (i := 29) rfl)) rfl
theorem tw_1316 : Cond.fieldLink RX9 159 "SnowbolFoldModel" "thrown" "I" ∈ TT := TT_in (tm_6 _ (List.mem_of_getElem? (i := 31) rfl)) rfl
theorem tw_1317 : Cond.fieldLink RX9 7 "SnowbolFoldModel" "typed" "[I" ∈ TT := TT_in (tm_6 _ (List.mem_of_getElem? (i := 32) rfl)) rfl
theorem tw_1318 : Cond.fieldLink RX9 179 "SnowbolFoldModel" "typing" "I" ∈ TT := TT_in (tm_6 _ (List.mem_of_getElem? (i := 33) rfl)) rfl
theorem tw_1319 : Cond.fieldLink RX9 13 "SnowbolFoldModel" "texts" "[I" ∈ TT := TT_in (tm_6 _ (List.mem_of_getElem? (i := 34) rfl)) rfl
theorem tw_1320 : Cond.fieldLink RX9 16 "SnowbolFoldModel" "textSizes" "[I" ∈ TT := TT_in (tm_6 _ (List.mem_of_getElem? (i := 35) rfl)) rfl
theorem tw_1321 : Cond.fieldLink RX9 182 "SnowbolFoldModel" "textCount" "I" ∈ TT := TT_in (tm_6 _ (List.mem_of_getElem? (i := 36) rfl)) rfl
theorem tw_1322 : Cond.fieldLink RX9 19 "SnowbolFoldModel" "values" "[I" ∈ TT := TT_in (tm_6 _ (List.mem_of_getElem? (i := 37) rfl)) rfl
theorem tw_1323 : Cond.fieldLink RX9 22 "SnowbolFoldModel" "sizes" "[I" ∈ TT := TT_in (tm_6 _ (List.mem_of_getElem? (i := 38) rfl)) rfl
theorem tw_1324 : Cond.fieldLink RX9 25 "SnowbolFoldModel" "kinds" "[C" ∈ TT := TT_in (tm_6 _ (List.mem_of_getElem? (i := 39) rfl)) rfl
theorem tw_1325 : Cond.fieldLink RX9 29 "SnowbolFoldModel" "firsts" "[I" ∈ TT := TT_in (tm_6 _ (List.mem_of_getElem? (i := 40) rfl)) rfl
theorem tw_1326 : Cond.fieldLink RX9 32 "SnowbolFoldModel" "seconds" "[I" ∈ TT := TT_in (tm_6 _ (List.mem_of_getElem? (i := 41) rfl)) rfl
theorem tw_1327 : Cond.fieldLink RX9 191 "SnowbolFoldModel" "patternCount" "I" ∈ TT := TT_in (tm_6 _ (List.mem_of_getElem? (i := 42) rfl)) rfl
theorem tw_1328 : Cond.fieldLink RX9 35 "SnowbolFoldModel" "termKinds" "[C" ∈ TT := TT_in (tm_6 _ (List.mem_of_getElem? (i := 43) rfl)) rfl
theorem tw_1329 : Cond.fieldLink RX9 38 "SnowbolFoldModel" "termFirsts" "[I" ∈ TT := TT_in (tm_6 _ (List.mem_of_getElem? (i := 44) rfl)) rfl
theorem tw_1330 : Cond.fieldLink RX9 41 "SnowbolFoldModel" "termSeconds" "[I" ∈ TT := TT_in (tm_6 _ (List.mem_of_getElem? (i := 45) rfl)) rfl
theorem tw_1331 : Cond.fieldLink RX9 206 "SnowbolFoldModel" "termCount" "I" ∈ TT := TT_in (tm_6 _ (List.mem_of_getElem? (i := 46) rfl)) rfl
theorem tw_1332 : Cond.fieldLink RX9 44 "SnowbolFoldModel" "needed" "[Z" ∈ TT := TT_in (tm_6 _ (List.mem_of_getElem? (i := 47) rfl)) rfl
theorem tw_1333 : Cond.fieldLink RX9 48 "SnowbolFoldModel" "worked" "[I" ∈ TT := TT_in (tm_6 _ (List.mem_of_getElem? (i := 48) rfl)) rfl
theorem tw_1334 : Cond.fieldLink RX9 51 "SnowbolFoldModel" "workedSizes" "[I" ∈ TT := TT_in (tm_6 _ (List.mem_of_getElem? (i := 49) rfl)) rfl
theorem tw_1335 : Cond.fieldLink RX9 54 "SnowbolFoldModel" "subject" "[I" ∈ TT := TT_in (tm_6 _ (List.mem_of_getElem? (i := 50) rfl)) rfl
theorem tw_1336 : Cond.fieldLink RX9 271 "SnowbolFoldModel" "length" "I" ∈ TT := TT_in (tm_6 _ (List.mem_of_getElem? (i := 51) rfl)) rfl
theorem tw_1337 : Cond.fieldLink RX9 342 "SnowbolFoldModel" "anchored" "Z" ∈ TT := TT_in (tm_6 _ (List.mem_of_getElem? (i := 52) rfl)) rfl
theorem tw_1338 : Cond.fieldLink RX9 312 "SnowbolFoldModel" "begun" "I" ∈ TT := TT_in (tm_6 _ (List.mem_of_getElem? (i := 53) rfl)) rfl
theorem tw_1339 : Cond.fieldLink RX9 57 "SnowbolFoldModel" "goalKinds" "[I" ∈ TT := TT_in (tm_6 _ (List.mem_of_getElem? (i := 54) rfl)) rfl
theorem tw_1340 : Cond.fieldLink RX9 60 "SnowbolFoldModel" "goalOf" "[I" ∈ TT := TT_in (tm_6 _ (List.mem_of_getElem? (i := 55) rfl)) rfl
theorem tw_1341 : Cond.fieldLink RX9 63 "SnowbolFoldModel" "goalFrom" "[I" ∈ TT := TT_in (tm_6 _ (List.mem_of_getElem? (i := 56) rfl)) rfl
theorem tw_1342 : Cond.fieldLink RX9 66 "SnowbolFoldModel" "goalNext" "[I" ∈ TT := TT_in (tm_6 _ (List.mem_of_getElem? (i := 57) rfl)) rfl
theorem tw_1343 : Cond.fieldLink RX9 259 "SnowbolFoldModel" "goals" "I" ∈ TT := TT_in (tm_6 _ (List.mem_of_getElem? (i := 58) rfl)) rfl
theorem tw_1344 : Cond.fieldLink RX9 69 "SnowbolFoldModel" "choiceOf" "[I" ∈ TT := TT_in (tm_6 _ (List.mem_of_getElem? (i := 59) rfl)) rfl
theorem tw_1345 : Cond.fieldLink RX9 72 "SnowbolFoldModel" "choiceAt" "[I" ∈ TT := TT_in (tm_6 _ (List.mem_of_getElem? (i := 60) rfl)) rfl
theorem tw_1346 : Cond.fieldLink RX9 75 "SnowbolFoldModel" "choiceNext" "[I" ∈ TT := TT_in (tm_6 _ (List.mem_of_getElem? (i := 61) rfl)) rfl
theorem tw_1347 : Cond.fieldLink RX9 78 "SnowbolFoldModel" "choiceFar" "[I" ∈ TT := TT_in (tm_6 _ (List.mem_of_getElem? (i := 62) rfl)) rfl
theorem tw_1348 : Cond.fieldLink RX9 81 "SnowbolFoldModel" "choiceKept" "[I" ∈ TT := TT_in (tm_6 _ (List.mem_of_getElem? (i := 63) rfl)) rfl
theorem tw_1349 : Cond.fieldLink RX9 84 "SnowbolFoldModel" "choiceGoals" "[I" ∈ TT := TT_in (tm_6 _ (List.mem_of_getElem? (i := 64) rfl)) rfl
theorem tw_1350 : Cond.fieldLink RX9 262 "SnowbolFoldModel" "choices" "I" ∈ TT := TT_in (tm_6 _ (List.mem_of_getElem? (i := 65) rfl)) rfl
theorem tw_1351 : Cond.fieldLink RX9 87 "SnowbolFoldModel" "keptOf" "[I" ∈ TT := TT_in (tm_6 _ (List.mem_of_getElem? (i := 66) rfl)) rfl
theorem tw_1352 : Cond.fieldLink RX9 90 "SnowbolFoldModel" "keptFrom" "[I" ∈ TT := TT_in (tm_6 _ (List.mem_of_getElem? (i := 67) rfl)) rfl
theorem tw_1353 : Cond.fieldLink RX9 93 "SnowbolFoldModel" "keptTo" "[I" ∈ TT := TT_in (tm_6 _ (List.mem_of_getElem? (i := 68) rfl)) rfl
theorem tw_1354 : Cond.fieldLink RX9 265 "SnowbolFoldModel" "keptCount" "I" ∈ TT := TT_in (tm_6 _ (List.mem_of_getElem? (i := 69) rfl)) rfl
theorem tw_1355 : Cond.fieldLink RX9 268 "SnowbolFoldModel" "cursor" "I" ∈ TT := TT_in (tm_6 _ (List.mem_of_getElem? (i := 70) rfl)) rfl
theorem tw_1356 : Cond.fieldLink RX9 287 "SnowbolFoldModel" "goal" "I" ∈ TT := TT_in (tm_6 _ (List.mem_of_getElem? (i := 71) rfl)) rfl
theorem tw_1357 : Cond.fieldLink RX9 283 "SnowbolFoldModel" "isOver" "Z" ∈ TT := TT_in (tm_6 _ (List.mem_of_getElem? (i := 72) rfl)) rfl
theorem tw_1358 : Cond.fieldLink RX9 315 "SnowbolFoldModel" "tooMany" "Z" ∈ TT := TT_in (tm_6 _ (List.mem_of_getElem? (i := 73) rfl)) rfl
theorem tw_1359 : Cond.fieldLink RX9 339 "SnowbolFoldModel" "start" "I" ∈ TT := TT_in (tm_6 _ (List.mem_of_getElem? (i := 74) rfl)) rfl
theorem tw_1360 : Cond.fieldLink RX9 306 "SnowbolFoldModel" "again" "Z" ∈ TT := TT_in (tm_6 _ (List.mem_of_getElem? (i := 75) rfl)) rfl
theorem tw_1361 : Cond.fieldLink RX9 96 "SnowbolFoldModel" "doing" "[C" ∈ TT := TT_in (tm_6 _ (List.mem_of_getElem? (i := 76) rfl)) rfl
theorem tw_1362 : Cond.fieldLink RX9 99 "SnowbolFoldModel" "doVariable" "[I" ∈ TT := TT_in (tm_6 _ (List.mem_of_getElem? (i := 77) rfl)) rfl
theorem tw_1363 : Cond.fieldLink RX9 102 "SnowbolFoldModel" "doOf" "[I" ∈ TT := TT_in (tm_6 _ (List.mem_of_getElem? (i := 78) rfl)) rfl
theorem tw_1364 : Cond.fieldLink RX9 105 "SnowbolFoldModel" "doTerm" "[I" ∈ TT := TT_in (tm_6 _ (List.mem_of_getElem? (i := 79) rfl)) rfl
theorem tw_1365 : Cond.fieldLink RX9 108 "SnowbolFoldModel" "doYes" "[I" ∈ TT := TT_in (tm_6 _ (List.mem_of_getElem? (i := 80) rfl)) rfl
theorem tw_1366 : Cond.fieldLink RX9 111 "SnowbolFoldModel" "doNo" "[I" ∈ TT := TT_in (tm_6 _ (List.mem_of_getElem? (i := 81) rfl)) rfl
theorem tw_1367 : Cond.fieldLink RX9 356 "SnowbolFoldModel" "count" "I" ∈ TT := TT_in (tm_6 _ (List.mem_of_getElem? (i := 82) rfl)) rfl
theorem tw_1368 : Cond.fieldLink RX9 114 "SnowbolFoldModel" "told" "[Z" ∈ TT := TT_in (tm_6 _ (List.mem_of_getElem? (i := 83) rfl)) rfl
theorem tw_1369 : Cond.fieldLink RX9 117 "SnowbolFoldModel" "entries" "[I" ∈ TT := TT_in (tm_6 _ (List.mem_of_getElem? (i := 84) rfl)) rfl
theorem tw_1370 : Cond.fieldLink RX9 120 "SnowbolFoldModel" "parameters" "[I" ∈ TT := TT_in (tm_6 _ (List.mem_of_getElem? (i := 85) rfl)) rfl
theorem tw_1371 : Cond.fieldLink RX9 123 "SnowbolFoldModel" "locals" "[I" ∈ TT := TT_in (tm_6 _ (List.mem_of_getElem? (i := 86) rfl)) rfl
theorem tw_1372 : Cond.fieldLink RX9 126 "SnowbolFoldModel" "results" "[I" ∈ TT := TT_in (tm_6 _ (List.mem_of_getElem? (i := 87) rfl)) rfl
theorem tw_1373 : Cond.fieldLink RX9 129 "SnowbolFoldModel" "done" "[I" ∈ TT := TT_in (tm_6 _ (List.mem_of_getElem? (i := 88) rfl)) rfl
theorem tw_1374 : Cond.fieldLink RX9 132 "SnowbolFoldModel" "failed" "[I" ∈ TT := TT_in (tm_6 _ (List.mem_of_getElem? (i := 89) rfl)) rfl
theorem tw_1375 : Cond.fieldLink RX9 429 "SnowbolFoldModel" "ran" "Z" ∈ TT := TT_in (tm_6 _ (List.mem_of_getElem? (i := 90) rfl)) rfl
theorem tw_1376 : Cond.fieldLink RX9 412 "SnowbolFoldModel" "made" "I" ∈ TT := TT_in (tm_6 _ (List.mem_of_getElem? (i := 91) rfl)) rfl
theorem tw_1377 : Cond.fieldLink RX9 399 "SnowbolFoldModel" "error" "I" ∈ TT := TT_in (tm_6 _ (List.mem_of_getElem? (i := 92) rfl)) rfl
theorem tw_1378 : Cond.fieldLink RX9 415 "SnowbolFoldModel" "last" "I" ∈ TT := TT_in (tm_6 _ (List.mem_of_getElem? (i := 93) rfl)) rfl
theorem tw_1379 : Cond.fieldLink RX9 384 "SnowbolFoldModel" "depth" "I" ∈ TT := TT_in (tm_6 _ (List.mem_of_getElem? (i := 94) rfl)) rfl
theorem tw_1380 : Cond.fieldLink RX9 135 "SnowbolFoldModel" "calls" "[I" ∈ TT := TT_in (tm_6 _ (List.mem_of_getElem? (i := 95) rfl)) rfl
theorem tw_1381 : Cond.fieldLink RX9 138 "SnowbolFoldModel" "savedFunctions" "[I" ∈ TT := TT_in (tm_6 _ (List.mem_of_getElem? (i := 96) rfl)) rfl
theorem tw_1382 : Cond.fieldLink RX9 141 "SnowbolFoldModel" "saved" "[I" ∈ TT := TT_in (tm_6 _ (List.mem_of_getElem? (i := 97) rfl)) rfl
theorem tw_1383 : Cond.fieldLink RX9 144 "SnowbolFoldModel" "savedSizes" "[I" ∈ TT := TT_in (tm_6 _ (List.mem_of_getElem? (i := 98) rfl)) rfl
theorem tw_1384 : Cond.fieldLink RX9 147 "SnowbolFoldModel" "kept" "[I" ∈ TT := TT_in (tm_6 _ (List.mem_of_getElem? (i := 99) rfl)) rfl
theorem tw_1385 : Cond.fieldLink RX9 393 "SnowbolFoldModel" "keptSize" "I" ∈ TT := TT_in (tm_6 _ (List.mem_of_getElem? (i := 100) rfl)) rfl
theorem tw_1386 : Cond.fieldLink RX9 409 "SnowbolFoldModel" "now" "I" ∈ TT := TT_in (tm_6 _ (List.mem_of_getElem? (i := 101) rfl)) rfl
theorem tw_1387 : Cond.fieldLink RX9 406 "SnowbolFoldModel" "ended" "Z" ∈ TT := TT_in (tm_6 _ (List.mem_of_getElem? (i := 102) rfl)) rfl
theorem tw_1388 : Cond.fieldLink RX9 447 "SnowbolFoldModel" "matched" "Z" ∈ TT := TT_in (tm_6 _ (List.mem_of_getElem? (i := 103) rfl)) rfl
theorem tw_1389 : Cond.fieldLink RX9 450 "SnowbolFoldModel" "good" "Z" ∈ TT := TT_in (tm_6 _ (List.mem_of_getElem? (i := 104) rfl)) rfl
theorem tw_1390 : Cond.fieldLink RX9 456 "SnowbolFoldModel" "goodFrom" "I" ∈ TT := TT_in (tm_6 _ (List.mem_of_getElem? (i := 105) rfl)) rfl
theorem tw_1391 : Cond.fieldLink RX9 459 "SnowbolFoldModel" "goodTo" "I" ∈ TT := TT_in (tm_6 _ (List.mem_of_getElem? (i := 106) rfl)) rfl
theorem tw_1392 : Cond.fieldLink RX9 453 "SnowbolFoldModel" "goodBegun" "I" ∈ TT := TT_in (tm_6 _ (List.mem_of_getElem? (i := 107) rfl)) rfl
theorem tw_1393 : Cond.fieldLink RX9 150 "SnowbolFoldModel" "spareValues" "[I" ∈ TT := TT_in (tm_6 _ (List.mem_of_getElem? (i := 108) rfl)) rfl
theorem tw_1394 : Cond.fieldLink RX9 153 "SnowbolFoldModel" "spareSizes" "[I" ∈ TT := TT_in (tm_6 _ (List.mem_of_getElem? (i := 109) rfl)) rfl
theorem tw_1395 : Cond.fieldLink RX9 156 "SnowbolFoldModel" "ways" "[I" ∈ TT := TT_in (tm_6 _ (List.mem_of_getElem? (i := 110) rfl)) rfl
theorem tw_1396 : Cond.fieldLink RX9 462 "SnowbolFoldModel" "wayCount" "I" ∈ TT := TT_in (tm_6 _ (List.mem_of_getElem? (i := 111) rfl)) rfl
theorem tw_1560 : Cond.arrayClass .char ∈ TT := TT_in (tm_7 _ (List.mem_of_getElem? (i := 35) rfl)) rfl
theorem tw_1561 : Cond.arrayClass .boolean ∈ TT := TT_in (tm_7 _ (List.mem_of_getElem? (i := 36) rfl)) rfl
theorem tw_1562 : Cond.methodLink RL 126 yX9_thrown ∈ TT := TT_in (tm_7 _ (List.mem_of_getElem? (i := 37) rfl)) rfl
theorem tw_1563 : Cond.instanceMethod yX9_thrown ∈ TT := TT_in (tm_7 _ (List.mem_of_getElem? (i := 38) rfl)) rfl
theorem tw_1564 : Cond.selects RX9 yX9_thrown yX9_thrown ∈ TT := TT_in (tm_7 _ (List.mem_of_getElem? (i := 39) rfl)) rfl
theorem tw_1565 : Cond.code yX9_thrown cX9_thrown 1 (some .int) ∈ TT := TT_in (tm_7 _ (List.mem_of_getElem? (i := 40) rfl)) rfl
theorem tw_1566 : Cond.methodLink RL 125 yX9_type ∈ TT := TT_in (tm_7 _ (List.mem_of_getElem? (i := 41) rfl)) rfl
theorem tw_1567 : Cond.instanceMethod yX9_type ∈ TT := TT_in (tm_7 _ (List.mem_of_getElem? (i := 42) rfl)) rfl
theorem tw_1568 : Cond.selects RX9 yX9_type yX9_type ∈ TT := TT_in (tm_7 _ (List.mem_of_getElem? (i := 43) rfl)) rfl
theorem tw_1569 : Cond.code yX9_type cX9_type 2 (some .int) ∈ TT := TT_in (tm_7 _ (List.mem_of_getElem? (i := 44) rfl)) rfl
theorem tw_1570 : Cond.constantLong RX9 163 (32) ∈ TT := TT_in (tm_7 _ (List.mem_of_getElem? (i := 45) rfl)) rfl
theorem tw_1571 : Cond.constantLong RX9 165 (126) ∈ TT := TT_in (tm_7 _ (List.mem_of_getElem? (i := 46) rfl)) rfl
theorem tw_1572 : Cond.methodLink RX9 167 yX9_in ∈ TT := TT_in (tm_7 _ (List.mem_of_getElem? (i := 47) rfl)) rfl
theorem tw_1573 : Cond.static yX9_in ∈ TT := TT_in (tm_7 _ (List.mem_of_getElem? (i := 48) rfl)) rfl
theorem tw_1574 : Cond.code yX9_in cX9_in 6 (some .boolean) ∈ TT := TT_in (tm_7 _ (List.mem_of_getElem? (i := 49) rfl)) rfl
theorem tw_1575 : Cond.constantLong RX9 171 (128512) ∈ TT := TT_in (tm_7 _ (List.mem_of_getElem? (i := 50) rfl)) rfl
theorem tw_1576 : Cond.constantLong RX9 173 (128591) ∈ TT := TT_in (tm_7 _ (List.mem_of_getElem? (i := 51) rfl)) rfl
theorem tw_1577 : Cond.methodLink RX9 175 yX9_fails ∈ TT := TT_in (tm_7 _ (List.mem_of_getElem? (i := 52) rfl)) rfl
theorem tw_1579 : Cond.instanceMethod yX9_fails ∈ TT := TT_in (tm_7 _ (List.mem_of_getElem? (i := 54) rfl)) rfl
theorem tw_1580 : Cond.code yX9_fails cX9_fails 3 (some .boolean) ∈ TT := TT_in (tm_7 _ (List.mem_of_getElem? (i := 55) rfl)) rfl
theorem tw_1581 : Cond.methodLink RL 132 yX9_wipe ∈ TT := TT_in (tm_7 _ (List.mem_of_getElem? (i := 56) rfl)) rfl
theorem tw_1582 : Cond.instanceMethod yX9_wipe ∈ TT := TT_in (tm_7 _ (List.mem_of_getElem? (i := 57) rfl)) rfl
theorem tw_1583 : Cond.selects RX9 yX9_wipe yX9_wipe ∈ TT := TT_in (tm_7 _ (List.mem_of_getElem? (i := 58) rfl)) rfl
theorem tw_1584 : Cond.code yX9_wipe cX9_wipe 2 (some .int) ∈ TT := TT_in (tm_7 _ (List.mem_of_getElem? (i := 59) rfl)) rfl
theorem tw_1585 : Cond.methodLink RL 136 yX9_text ∈ TT := TT_in (tm_7 _ (List.mem_of_getElem? (i := 60) rfl)) rfl
theorem tw_1586 : Cond.instanceMethod yX9_text ∈ TT := TT_in (tm_7 _ (List.mem_of_getElem? (i := 61) rfl)) rfl
theorem tw_1587 : Cond.selects RX9 yX9_text yX9_text ∈ TT := TT_in (tm_7 _ (List.mem_of_getElem? (i := 62) rfl)) rfl
theorem tw_1588 : Cond.code yX9_text cX9_text 2 (some .int) ∈ TT := TT_in (tm_7 _ (List.mem_of_getElem? (i := 63) rfl)) rfl
theorem tw_1589 : Cond.methodLink RL 139 yX9_set ∈ TT := TT_in (tm_7 _ (List.mem_of_getElem? (i := 64) rfl)) rfl
theorem tw_1590 : Cond.instanceMethod yX9_set ∈ TT := TT_in (tm_7 _ (List.mem_of_getElem? (i := 65) rfl)) rfl
theorem tw_1591 : Cond.selects RX9 yX9_set yX9_set ∈ TT := TT_in (tm_7 _ (List.mem_of_getElem? (i := 66) rfl)) rfl
theorem tw_1592 : Cond.code yX9_set cX9_set 4 (some .int) ∈ TT := TT_in (tm_7 _ (List.mem_of_getElem? (i := 67) rfl)) rfl
theorem tw_1593 : Cond.methodLink RX9 187 yX9_isVariable ∈ TT := TT_in (tm_7 _ (List.mem_of_getElem? (i := 68) rfl)) rfl
theorem tw_1594 : Cond.static yX9_isVariable ∈ TT := TT_in (tm_7 _ (List.mem_of_getElem? (i := 69) rfl)) rfl
theorem tw_1595 : Cond.code yX9_isVariable cX9_isVariable 1 (some .boolean) ∈ TT := TT_in (tm_7 _ (List.mem_of_getElem? (i := 70) rfl)) rfl
theorem tw_1596 : Cond.constantLong RX9 185 (25) ∈ TT := TT_in (tm_7 _ (List.mem_of_getElem? (i := 71) rfl)) rfl
theorem tw_1597 : Cond.methodLink RL 142 yX9_size ∈ TT := TT_in (tm_7 _ (List.mem_of_getElem? (i := 72) rfl)) rfl
theorem tw_1598 : Cond.instanceMethod yX9_size ∈ TT := TT_in (tm_7 _ (List.mem_of_getElem? (i := 73) rfl)) rfl
theorem tw_1599 : Cond.selects RX9 yX9_size yX9_size ∈ TT := TT_in (tm_7 _ (List.mem_of_getElem? (i := 74) rfl)) rfl
theorem tw_1600 : Cond.code yX9_size cX9_size 2 (some .int) ∈ TT := TT_in (tm_7 _ (List.mem_of_getElem? (i := 75) rfl)) rfl
theorem tw_1601 : Cond.methodLink RL 146 yX9_at ∈ TT := TT_in (tm_7 _ (List.mem_of_getElem? (i := 76) rfl)) rfl
theorem tw_1602 : Cond.instanceMethod yX9_at ∈ TT := TT_in (tm_7 _ (List.mem_of_getElem? (i := 77) rfl)) rfl
theorem tw_1603 : Cond.selects RX9 yX9_at yX9_at ∈ TT := TT_in (tm_7 _ (List.mem_of_getElem? (i := 78) rfl)) rfl
theorem tw_1604 : Cond.code yX9_at cX9_at 3 (some .int) ∈ TT := TT_in (tm_7 _ (List.mem_of_getElem? (i := 79) rfl)) rfl
theorem tw_1605 : Cond.methodLink RL 150 yX9_pattern ∈ TT := TT_in (tm_7 _ (List.mem_of_getElem? (i := 80) rfl)) rfl
theorem tw_1606 : Cond.instanceMethod yX9_pattern ∈ TT := TT_in (tm_7 _ (List.mem_of_getElem? (i := 81) rfl)) rfl
theorem tw_1607 : Cond.selects RX9 yX9_pattern yX9_pattern ∈ TT := TT_in (tm_7 _ (List.mem_of_getElem? (i := 82) rfl)) rfl
theorem tw_1608 : Cond.code yX9_pattern cX9_pattern 6 (some .int) ∈ TT := TT_in (tm_7 _ (List.mem_of_getElem? (i := 83) rfl)) rfl
theorem tw_1609 : Cond.methodLink RX9 194 yX9_sortOf ∈ TT := TT_in (tm_7 _ (List.mem_of_getElem? (i := 84) rfl)) rfl
theorem tw_1610 : Cond.static yX9_sortOf ∈ TT := TT_in (tm_7 _ (List.mem_of_getElem? (i := 85) rfl)) rfl
theorem tw_1611 : Cond.code yX9_sortOf cX9_sortOf 1 (some .int) ∈ TT := TT_in (tm_7 _ (List.mem_of_getElem? (i := 86) rfl)) rfl
theorem tw_1612 : Cond.methodLink RX9 198 yX9_isText ∈ TT := TT_in (tm_7 _ (List.mem_of_getElem? (i := 87) rfl)) rfl
theorem tw_1614 : Cond.instanceMethod yX9_isText ∈ TT := TT_in (tm_7 _ (List.mem_of_getElem? (i := 89) rfl)) rfl
theorem tw_1615 : Cond.code yX9_isText cX9_isText 2 (some .boolean) ∈ TT := TT_in (tm_7 _ (List.mem_of_getElem? (i := 90) rfl)) rfl
theorem tw_1616 : Cond.methodLink RX9 201 yX9_isPattern ∈ TT := TT_in (tm_7 _ (List.mem_of_getElem? (i := 91) rfl)) rfl
theorem tw_1618 : Cond.instanceMethod yX9_isPattern ∈ TT := TT_in (tm_7 _ (List.mem_of_getElem? (i := 93) rfl)) rfl
theorem tw_1619 : Cond.code yX9_isPattern cX9_isPattern 2 (some .boolean) ∈ TT := TT_in (tm_7 _ (List.mem_of_getElem? (i := 94) rfl)) rfl
theorem tw_1620 : Cond.constantLong RX9 204 (60) ∈ TT := TT_in (tm_7 _ (List.mem_of_getElem? (i := 95) rfl)) rfl
theorem tw_1621 : Cond.methodLink RL 153 yX9_term ∈ TT := TT_in (tm_7 _ (List.mem_of_getElem? (i := 96) rfl)) rfl
theorem tw_1622 : Cond.instanceMethod yX9_term ∈ TT := TT_in (tm_7 _ (List.mem_of_getElem? (i := 97) rfl)) rfl
theorem tw_1623 : Cond.selects RX9 yX9_term yX9_term ∈ TT := TT_in (tm_7 _ (List.mem_of_getElem? (i := 98) rfl)) rfl
theorem tw_1624 : Cond.code yX9_term cX9_term 6 (some .int) ∈ TT := TT_in (tm_7 _ (List.mem_of_getElem? (i := 99) rfl)) rfl
theorem tw_1625 : Cond.methodLink RX9 209 yX9_termSort ∈ TT := TT_in (tm_7 _ (List.mem_of_getElem? (i := 100) rfl)) rfl
theorem tw_1626 : Cond.static yX9_termSort ∈ TT := TT_in (tm_7 _ (List.mem_of_getElem? (i := 101) rfl)) rfl
theorem tw_1627 : Cond.code yX9_termSort cX9_termSort 1 (some .int) ∈ TT := TT_in (tm_7 _ (List.mem_of_getElem? (i := 102) rfl)) rfl
theorem tw_1628 : Cond.methodLink RX9 212 yX9_isTerm ∈ TT := TT_in (tm_7 _ (List.mem_of_getElem? (i := 103) rfl)) rfl
theorem tw_1630 : Cond.instanceMethod yX9_isTerm ∈ TT := TT_in (tm_7 _ (List.mem_of_getElem? (i := 105) rfl)) rfl
theorem tw_1631 : Cond.code yX9_isTerm cX9_isTerm 2 (some .boolean) ∈ TT := TT_in (tm_7 _ (List.mem_of_getElem? (i := 106) rfl)) rfl
theorem tw_1632 : Cond.methodLink RL 157 yX9_assign_ ∈ TT := TT_in (tm_7 _ (List.mem_of_getElem? (i := 107) rfl)) rfl
theorem tw_1633 : Cond.instanceMethod yX9_assign_ ∈ TT := TT_in (tm_7 _ (List.mem_of_getElem? (i := 108) rfl)) rfl
theorem tw_1634 : Cond.selects RX9 yX9_assign_ yX9_assign_ ∈ TT := TT_in (tm_7 _ (List.mem_of_getElem? (i := 109) rfl)) rfl
theorem tw_1635 : Cond.code yX9_assign_ cX9_assign_ 5 (some .int) ∈ TT := TT_in (tm_7 _ (List.mem_of_getElem? (i := 110) rfl)) rfl
theorem tw_1636 : Cond.methodLink RX9 359 yX9_isWay ∈ TT := TT_in (tm_7 _ (List.mem_of_getElem? (i := 111) rfl)) rfl
theorem tw_1637 : Cond.static yX9_isWay ∈ TT := TT_in (tm_7 _ (List.mem_of_getElem? (i := 112) rfl)) rfl
theorem tw_1638 : Cond.code yX9_isWay cX9_isWay 1 (some .boolean) ∈ TT := TT_in (tm_7 _ (List.mem_of_getElem? (i := 113) rfl)) rfl
theorem tw_1639 : Cond.constantLong RX9 352 (-4) ∈ TT := TT_in (tm_7 _ (List.mem_of_getElem? (i := 114) rfl)) rfl
theorem tw_1640 : Cond.constantLong RX9 354 (39) ∈ TT := TT_in (tm_7 _ (List.mem_of_getElem? (i := 115) rfl)) rfl
theorem tw_1641 : Cond.methodLink RX9 362 yX9_add ∈ TT := TT_in (tm_7 _ (List.mem_of_getElem? (i := 116) rfl)) rfl
theorem tw_1643 : Cond.instanceMethod yX9_add ∈ TT := TT_in (tm_7 _ (List.mem_of_getElem? (i := 118) rfl)) rfl
theorem tw_1644 : Cond.code yX9_add cX9_add 7 (some .int) ∈ TT := TT_in (tm_7 _ (List.mem_of_getElem? (i := 119) rfl)) rfl
theorem tw_1645 : Cond.methodLink RL 161 yX9_scan ∈ TT := TT_in (tm_7 _ (List.mem_of_getElem? (i := 120) rfl)) rfl
theorem tw_1646 : Cond.instanceMethod yX9_scan ∈ TT := TT_in (tm_7 _ (List.mem_of_getElem? (i := 121) rfl)) rfl
theorem tw_1647 : Cond.selects RX9 yX9_scan yX9_scan ∈ TT := TT_in (tm_7 _ (List.mem_of_getElem? (i := 122) rfl)) rfl
theorem tw_1648 : Cond.code yX9_scan cX9_scan 6 (some .int) ∈ TT := TT_in (tm_7 _ (List.mem_of_getElem? (i := 123) rfl)) rfl
theorem tw_1649 : Cond.methodLink RL 164 yX9_call ∈ TT := TT_in (tm_7 _ (List.mem_of_getElem? (i := 124) rfl)) rfl
theorem tw_1650 : Cond.instanceMethod yX9_call ∈ TT := TT_in (tm_7 _ (List.mem_of_getElem? (i := 125) rfl)) rfl
theorem tw_1651 : Cond.selects RX9 yX9_call yX9_call ∈ TT := TT_in (tm_7 _ (List.mem_of_getElem? (i := 126) rfl)) rfl
theorem tw_1652 : Cond.code yX9_call cX9_call 6 (some .int) ∈ TT := TT_in (tm_7 _ (List.mem_of_getElem? (i := 127) rfl)) rfl
theorem tw_1653 : Cond.constantLong RX9 366 (4) ∈ TT := TT_in (tm_7 _ (List.mem_of_getElem? (i := 128) rfl)) rfl
theorem tw_1654 : Cond.methodLink RL 167 yX9_define ∈ TT := TT_in (tm_7 _ (List.mem_of_getElem? (i := 129) rfl)) rfl
theorem tw_1655 : Cond.instanceMethod yX9_define ∈ TT := TT_in (tm_7 _ (List.mem_of_getElem? (i := 130) rfl)) rfl
theorem tw_1656 : Cond.selects RX9 yX9_define yX9_define ∈ TT := TT_in (tm_7 _ (List.mem_of_getElem? (i := 131) rfl)) rfl
theorem tw_1657 : Cond.code yX9_define cX9_define 8 (some .boolean) ∈ TT := TT_in (tm_7 _ (List.mem_of_getElem? (i := 132) rfl)) rfl
theorem tw_1658 : Cond.methodLink RL 172 yX9_anchor ∈ TT := TT_in (tm_7 _ (List.mem_of_getElem? (i := 133) rfl)) rfl
theorem tw_1659 : Cond.instanceMethod yX9_anchor ∈ TT := TT_in (tm_7 _ (List.mem_of_getElem? (i := 134) rfl)) rfl
theorem tw_1660 : Cond.selects RX9 yX9_anchor yX9_anchor ∈ TT := TT_in (tm_7 _ (List.mem_of_getElem? (i := 135) rfl)) rfl
theorem tw_1661 : Cond.code yX9_anchor cX9_anchor 3 (some .boolean) ∈ TT := TT_in (tm_7 _ (List.mem_of_getElem? (i := 136) rfl)) rfl
theorem tw_1662 : Cond.methodLink RL 175 yX9_run ∈ TT := TT_in (tm_7 _ (List.mem_of_getElem? (i := 137) rfl)) rfl
theorem tw_1663 : Cond.instanceMethod yX9_run ∈ TT := TT_in (tm_7 _ (List.mem_of_getElem? (i := 138) rfl)) rfl
theorem tw_1664 : Cond.selects RX9 yX9_run yX9_run ∈ TT := TT_in (tm_7 _ (List.mem_of_getElem? (i := 139) rfl)) rfl
theorem tw_1665 : Cond.code yX9_run cX9_run 4 (some .char) ∈ TT := TT_in (tm_7 _ (List.mem_of_getElem? (i := 140) rfl)) rfl
theorem tw_1666 : Cond.constantLong RX9 427 (1000) ∈ TT := TT_in (tm_7 _ (List.mem_of_getElem? (i := 141) rfl)) rfl
theorem tw_1667 : Cond.methodLink RX9 432 yX9_doStatement ∈ TT := TT_in (tm_7 _ (List.mem_of_getElem? (i := 142) rfl)) rfl
theorem tw_1669 : Cond.instanceMethod yX9_doStatement ∈ TT := TT_in (tm_7 _ (List.mem_of_getElem? (i := 144) rfl)) rfl
theorem tw_1670 : Cond.code yX9_doStatement cX9_doStatement 4 none ∈ TT := TT_in (tm_7 _ (List.mem_of_getElem? (i := 145) rfl)) rfl
theorem tw_1671 : Cond.methodLink RX9 377 yX9_workOut ∈ TT := TT_in (tm_7 _ (List.mem_of_getElem? (i := 146) rfl)) rfl
theorem tw_1673 : Cond.instanceMethod yX9_workOut ∈ TT := TT_in (tm_7 _ (List.mem_of_getElem? (i := 148) rfl)) rfl
theorem tw_1674 : Cond.code yX9_workOut cX9_workOut 4 (some .int) ∈ TT := TT_in (tm_7 _ (List.mem_of_getElem? (i := 149) rfl)) rfl
theorem tw_1675 : Cond.methodLink RX9 255 yX9_workOne ∈ TT := TT_in (tm_7 _ (List.mem_of_getElem? (i := 150) rfl)) rfl
theorem tw_1677 : Cond.instanceMethod yX9_workOne ∈ TT := TT_in (tm_7 _ (List.mem_of_getElem? (i := 152) rfl)) rfl
theorem tw_1678 : Cond.code yX9_workOne cX9_workOne 7 (some .int) ∈ TT := TT_in (tm_7 _ (List.mem_of_getElem? (i := 153) rfl)) rfl
theorem tw_1679 : Cond.methodLink RX9 236 yX9_takeVariable ∈ TT := TT_in (tm_7 _ (List.mem_of_getElem? (i := 154) rfl)) rfl
theorem tw_1681 : Cond.instanceMethod yX9_takeVariable ∈ TT := TT_in (tm_7 _ (List.mem_of_getElem? (i := 156) rfl)) rfl
theorem tw_1682 : Cond.code yX9_takeVariable cX9_takeVariable 4 none ∈ TT := TT_in (tm_7 _ (List.mem_of_getElem? (i := 157) rfl)) rfl
theorem tw_1683 : Cond.constantLong RX9 240 (97) ∈ TT := TT_in (tm_7 _ (List.mem_of_getElem? (i := 158) rfl)) rfl
theorem tw_1684 : Cond.constantLong RX9 242 (122) ∈ TT := TT_in (tm_7 _ (List.mem_of_getElem? (i := 159) rfl)) rfl
theorem tw_1685 : Cond.methodLink RX9 244 yX9_append ∈ TT := TT_in (tm_7 _ (List.mem_of_getElem? (i := 160) rfl)) rfl
theorem tw_1687 : Cond.instanceMethod yX9_append ∈ TT := TT_in (tm_7 _ (List.mem_of_getElem? (i := 162) rfl)) rfl
theorem tw_1688 : Cond.code yX9_append cX9_append 4 none ∈ TT := TT_in (tm_7 _ (List.mem_of_getElem? (i := 163) rfl)) rfl
theorem tw_1689 : Cond.methodLink RX9 232 yX9_putNumber ∈ TT := TT_in (tm_7 _ (List.mem_of_getElem? (i := 164) rfl)) rfl
theorem tw_1691 : Cond.instanceMethod yX9_putNumber ∈ TT := TT_in (tm_7 _ (List.mem_of_getElem? (i := 166) rfl)) rfl
theorem tw_1692 : Cond.code yX9_putNumber cX9_putNumber 9 (some .int) ∈ TT := TT_in (tm_7 _ (List.mem_of_getElem? (i := 167) rfl)) rfl
theorem tw_1693 : Cond.constantLong RX9 223 (999999999) ∈ TT := TT_in (tm_7 _ (List.mem_of_getElem? (i := 168) rfl)) rfl
theorem tw_1694 : Cond.constantLong RX9 215 (9) ∈ TT := TT_in (tm_7 _ (List.mem_of_getElem? (i := 169) rfl)) rfl
theorem tw_1695 : Cond.constantLong RX9 221 (10) ∈ TT := TT_in (tm_7 _ (List.mem_of_getElem? (i := 170) rfl)) rfl
theorem tw_1696 : Cond.methodLink RX9 225 yX9_isNumber ∈ TT := TT_in (tm_7 _ (List.mem_of_getElem? (i := 171) rfl)) rfl
theorem tw_1698 : Cond.instanceMethod yX9_isNumber ∈ TT := TT_in (tm_7 _ (List.mem_of_getElem? (i := 173) rfl)) rfl
theorem tw_1699 : Cond.code yX9_isNumber cX9_isNumber 5 (some .boolean) ∈ TT := TT_in (tm_7 _ (List.mem_of_getElem? (i := 174) rfl)) rfl
theorem tw_1700 : Cond.constantLong RX9 217 (48) ∈ TT := TT_in (tm_7 _ (List.mem_of_getElem? (i := 175) rfl)) rfl
theorem tw_1701 : Cond.constantLong RX9 219 (57) ∈ TT := TT_in (tm_7 _ (List.mem_of_getElem? (i := 176) rfl)) rfl
theorem tw_1702 : Cond.methodLink RX9 228 yX9_numberOf ∈ TT := TT_in (tm_7 _ (List.mem_of_getElem? (i := 177) rfl)) rfl
theorem tw_1704 : Cond.instanceMethod yX9_numberOf ∈ TT := TT_in (tm_7 _ (List.mem_of_getElem? (i := 179) rfl)) rfl
theorem tw_1705 : Cond.code yX9_numberOf cX9_numberOf 6 (some .long) ∈ TT := TT_in (tm_7 _ (List.mem_of_getElem? (i := 180) rfl)) rfl
theorem tw_1706 : Cond.methodLink RX9 247 yX9_isSame ∈ TT := TT_in (tm_7 _ (List.mem_of_getElem? (i := 181) rfl)) rfl
theorem tw_1708 : Cond.instanceMethod yX9_isSame ∈ TT := TT_in (tm_7 _ (List.mem_of_getElem? (i := 183) rfl)) rfl
theorem tw_1709 : Cond.code yX9_isSame cX9_isSame 5 (some .boolean) ∈ TT := TT_in (tm_7 _ (List.mem_of_getElem? (i := 184) rfl)) rfl
theorem tw_1710 : Cond.methodLink RX9 251 yX9_reckon ∈ TT := TT_in (tm_7 _ (List.mem_of_getElem? (i := 185) rfl)) rfl
theorem tw_1712 : Cond.instanceMethod yX9_reckon ∈ TT := TT_in (tm_7 _ (List.mem_of_getElem? (i := 187) rfl)) rfl
theorem tw_1713 : Cond.code yX9_reckon cX9_reckon 9 (some .int) ∈ TT := TT_in (tm_7 _ (List.mem_of_getElem? (i := 188) rfl)) rfl
theorem tw_1714 : Cond.methodLink RX9 418 yX9_doScan ∈ TT := TT_in (tm_7 _ (List.mem_of_getElem? (i := 189) rfl)) rfl
theorem tw_1716 : Cond.instanceMethod yX9_doScan ∈ TT := TT_in (tm_7 _ (List.mem_of_getElem? (i := 191) rfl)) rfl
theorem tw_1717 : Cond.code yX9_doScan cX9_doScan 7 (some .int) ∈ TT := TT_in (tm_7 _ (List.mem_of_getElem? (i := 192) rfl)) rfl
theorem tw_1718 : Cond.methodLink RX9 368 yX9_takeSubject ∈ TT := TT_in (tm_7 _ (List.mem_of_getElem? (i := 193) rfl)) rfl
theorem tw_1720 : Cond.instanceMethod yX9_takeSubject ∈ TT := TT_in (tm_7 _ (List.mem_of_getElem? (i := 195) rfl)) rfl
theorem tw_1721 : Cond.code yX9_takeSubject cX9_takeSubject 3 none ∈ TT := TT_in (tm_7 _ (List.mem_of_getElem? (i := 196) rfl)) rfl
theorem tw_1722 : Cond.methodLink RX9 371 yX9_matches ∈ TT := TT_in (tm_7 _ (List.mem_of_getElem? (i := 197) rfl)) rfl
theorem tw_1724 : Cond.instanceMethod yX9_matches ∈ TT := TT_in (tm_7 _ (List.mem_of_getElem? (i := 199) rfl)) rfl
theorem tw_1725 : Cond.code yX9_matches cX9_matches 5 (some .int) ∈ TT := TT_in (tm_7 _ (List.mem_of_getElem? (i := 200) rfl)) rfl
theorem tw_1726 : Cond.methodLink RX9 345 yX9_beginAt ∈ TT := TT_in (tm_7 _ (List.mem_of_getElem? (i := 201) rfl)) rfl
theorem tw_1728 : Cond.instanceMethod yX9_beginAt ∈ TT := TT_in (tm_7 _ (List.mem_of_getElem? (i := 203) rfl)) rfl
theorem tw_1729 : Cond.code yX9_beginAt cX9_beginAt 3 none ∈ TT := TT_in (tm_7 _ (List.mem_of_getElem? (i := 204) rfl)) rfl
theorem tw_1730 : Cond.methodLink RX9 290 yX9_addGoal ∈ TT := TT_in (tm_7 _ (List.mem_of_getElem? (i := 205) rfl)) rfl
theorem tw_1732 : Cond.instanceMethod yX9_addGoal ∈ TT := TT_in (tm_7 _ (List.mem_of_getElem? (i := 207) rfl)) rfl
theorem tw_1733 : Cond.code yX9_addGoal cX9_addGoal 5 (some .int) ∈ TT := TT_in (tm_7 _ (List.mem_of_getElem? (i := 208) rfl)) rfl
theorem tw_1734 : Cond.methodLink RX9 348 yX9_reaches ∈ TT := TT_in (tm_7 _ (List.mem_of_getElem? (i := 209) rfl)) rfl
theorem tw_1736 : Cond.instanceMethod yX9_reaches ∈ TT := TT_in (tm_7 _ (List.mem_of_getElem? (i := 211) rfl)) rfl
theorem tw_1737 : Cond.code yX9_reaches cX9_reaches 4 (some .boolean) ∈ TT := TT_in (tm_7 _ (List.mem_of_getElem? (i := 212) rfl)) rfl
theorem tw_1738 : Cond.methodLink RX9 333 yX9_back ∈ TT := TT_in (tm_7 _ (List.mem_of_getElem? (i := 213) rfl)) rfl
theorem tw_1740 : Cond.instanceMethod yX9_back ∈ TT := TT_in (tm_7 _ (List.mem_of_getElem? (i := 215) rfl)) rfl
theorem tw_1741 : Cond.code yX9_back cX9_back 2 (some .boolean) ∈ TT := TT_in (tm_7 _ (List.mem_of_getElem? (i := 216) rfl)) rfl
theorem tw_1742 : Cond.methodLink RX9 309 yX9_goesBack ∈ TT := TT_in (tm_7 _ (List.mem_of_getElem? (i := 217) rfl)) rfl
theorem tw_1744 : Cond.instanceMethod yX9_goesBack ∈ TT := TT_in (tm_7 _ (List.mem_of_getElem? (i := 219) rfl)) rfl
theorem tw_1745 : Cond.code yX9_goesBack cX9_goesBack 6 (some .boolean) ∈ TT := TT_in (tm_7 _ (List.mem_of_getElem? (i := 220) rfl)) rfl
theorem tw_1746 : Cond.methodLink RX9 294 yX9_backAgain ∈ TT := TT_in (tm_7 _ (List.mem_of_getElem? (i := 221) rfl)) rfl
theorem tw_1748 : Cond.instanceMethod yX9_backAgain ∈ TT := TT_in (tm_7 _ (List.mem_of_getElem? (i := 223) rfl)) rfl
theorem tw_1749 : Cond.code yX9_backAgain cX9_backAgain 1 (some .boolean) ∈ TT := TT_in (tm_7 _ (List.mem_of_getElem? (i := 224) rfl)) rfl
theorem tw_1750 : Cond.methodLink RX9 298 yX9_addChoice ∈ TT := TT_in (tm_7 _ (List.mem_of_getElem? (i := 225) rfl)) rfl
theorem tw_1752 : Cond.instanceMethod yX9_addChoice ∈ TT := TT_in (tm_7 _ (List.mem_of_getElem? (i := 227) rfl)) rfl
theorem tw_1753 : Cond.code yX9_addChoice cX9_addChoice 5 none ∈ TT := TT_in (tm_7 _ (List.mem_of_getElem? (i := 228) rfl)) rfl
theorem tw_1754 : Cond.methodLink RX9 302 yX9_balanced ∈ TT := TT_in (tm_7 _ (List.mem_of_getElem? (i := 229) rfl)) rfl
theorem tw_1756 : Cond.instanceMethod yX9_balanced ∈ TT := TT_in (tm_7 _ (List.mem_of_getElem? (i := 231) rfl)) rfl
theorem tw_1757 : Cond.code yX9_balanced cX9_balanced 5 (some .int) ∈ TT := TT_in (tm_7 _ (List.mem_of_getElem? (i := 232) rfl)) rfl
theorem tw_1758 : Cond.methodLink RX9 336 yX9_goesOn ∈ TT := TT_in (tm_7 _ (List.mem_of_getElem? (i := 233) rfl)) rfl
theorem tw_1760 : Cond.instanceMethod yX9_goesOn ∈ TT := TT_in (tm_7 _ (List.mem_of_getElem? (i := 235) rfl)) rfl
theorem tw_1761 : Cond.code yX9_goesOn cX9_goesOn 4 (some .boolean) ∈ TT := TT_in (tm_7 _ (List.mem_of_getElem? (i := 236) rfl)) rfl
theorem tw_1762 : Cond.methodLink RX9 326 yX9_begin ∈ TT := TT_in (tm_7 _ (List.mem_of_getElem? (i := 237) rfl)) rfl
theorem tw_1764 : Cond.instanceMethod yX9_begin ∈ TT := TT_in (tm_7 _ (List.mem_of_getElem? (i := 239) rfl)) rfl
theorem tw_1765 : Cond.code yX9_begin cX9_begin 8 (some .boolean) ∈ TT := TT_in (tm_8 _ (List.mem_of_getElem? (i := 0) rfl)) rfl
theorem tw_1766 : Cond.methodLink RX9 318 yX9_assignCursor ∈ TT := TT_in (tm_8 _ (List.mem_of_getElem? (i := 1) rfl)) rfl
theorem tw_1768 : Cond.instanceMethod yX9_assignCursor ∈ TT := TT_in (tm_8 _ (List.mem_of_getElem? (i := 3) rfl)) rfl
theorem tw_1769 : Cond.code yX9_assignCursor cX9_assignCursor 2 none ∈ TT := TT_in (tm_8 _ (List.mem_of_getElem? (i := 4) rfl)) rfl
theorem tw_1770 : Cond.methodLink RX9 322 yX9_takes ∈ TT := TT_in (tm_8 _ (List.mem_of_getElem? (i := 5) rfl)) rfl
theorem tw_1772 : Cond.instanceMethod yX9_takes ∈ TT := TT_in (tm_8 _ (List.mem_of_getElem? (i := 7) rfl)) rfl
theorem tw_1773 : Cond.code yX9_takes cX9_takes 4 (some .int) ∈ TT := TT_in (tm_8 _ (List.mem_of_getElem? (i := 8) rfl)) rfl
theorem tw_1774 : Cond.methodLink RX9 274 yX9_textTakes ∈ TT := TT_in (tm_8 _ (List.mem_of_getElem? (i := 9) rfl)) rfl
theorem tw_1776 : Cond.instanceMethod yX9_textTakes ∈ TT := TT_in (tm_8 _ (List.mem_of_getElem? (i := 11) rfl)) rfl
theorem tw_1777 : Cond.code yX9_textTakes cX9_textTakes 4 (some .int) ∈ TT := TT_in (tm_8 _ (List.mem_of_getElem? (i := 12) rfl)) rfl
theorem tw_1778 : Cond.methodLink RX9 277 yX9_valueTakes ∈ TT := TT_in (tm_8 _ (List.mem_of_getElem? (i := 13) rfl)) rfl
theorem tw_1780 : Cond.instanceMethod yX9_valueTakes ∈ TT := TT_in (tm_8 _ (List.mem_of_getElem? (i := 15) rfl)) rfl
theorem tw_1781 : Cond.code yX9_valueTakes cX9_valueTakes 4 (some .int) ∈ TT := TT_in (tm_8 _ (List.mem_of_getElem? (i := 16) rfl)) rfl
theorem tw_1782 : Cond.methodLink RX9 280 yX9_isIn ∈ TT := TT_in (tm_8 _ (List.mem_of_getElem? (i := 17) rfl)) rfl
theorem tw_1784 : Cond.instanceMethod yX9_isIn ∈ TT := TT_in (tm_8 _ (List.mem_of_getElem? (i := 19) rfl)) rfl
theorem tw_1785 : Cond.code yX9_isIn cX9_isIn 5 (some .boolean) ∈ TT := TT_in (tm_8 _ (List.mem_of_getElem? (i := 20) rfl)) rfl
theorem tw_1786 : Cond.methodLink RX9 329 yX9_assign ∈ TT := TT_in (tm_8 _ (List.mem_of_getElem? (i := 21) rfl)) rfl
theorem tw_1788 : Cond.instanceMethod yX9_assign ∈ TT := TT_in (tm_8 _ (List.mem_of_getElem? (i := 23) rfl)) rfl
theorem tw_1789 : Cond.code yX9_assign cX9_assign 5 none ∈ TT := TT_in (tm_8 _ (List.mem_of_getElem? (i := 24) rfl)) rfl
theorem tw_1790 : Cond.methodLink RX9 374 yX9_assignKept ∈ TT := TT_in (tm_8 _ (List.mem_of_getElem? (i := 25) rfl)) rfl
theorem tw_1792 : Cond.instanceMethod yX9_assignKept ∈ TT := TT_in (tm_8 _ (List.mem_of_getElem? (i := 27) rfl)) rfl
theorem tw_1793 : Cond.code yX9_assignKept cX9_assignKept 2 none ∈ TT := TT_in (tm_8 _ (List.mem_of_getElem? (i := 28) rfl)) rfl
theorem tw_1794 : Cond.methodLink RX9 380 yX9_replace ∈ TT := TT_in (tm_8 _ (List.mem_of_getElem? (i := 29) rfl)) rfl
theorem tw_1796 : Cond.instanceMethod yX9_replace ∈ TT := TT_in (tm_8 _ (List.mem_of_getElem? (i := 31) rfl)) rfl
theorem tw_1797 : Cond.code yX9_replace cX9_replace 7 (some .boolean) ∈ TT := TT_in (tm_8 _ (List.mem_of_getElem? (i := 32) rfl)) rfl
theorem tw_1798 : Cond.methodLink RX9 421 yX9_doCall ∈ TT := TT_in (tm_8 _ (List.mem_of_getElem? (i := 33) rfl)) rfl
theorem tw_1800 : Cond.instanceMethod yX9_doCall ∈ TT := TT_in (tm_8 _ (List.mem_of_getElem? (i := 35) rfl)) rfl
theorem tw_1801 : Cond.code yX9_doCall cX9_doCall 4 (some .int) ∈ TT := TT_in (tm_8 _ (List.mem_of_getElem? (i := 36) rfl)) rfl
theorem tw_1802 : Cond.methodLink RX9 387 yX9_save ∈ TT := TT_in (tm_8 _ (List.mem_of_getElem? (i := 37) rfl)) rfl
theorem tw_1804 : Cond.instanceMethod yX9_save ∈ TT := TT_in (tm_8 _ (List.mem_of_getElem? (i := 39) rfl)) rfl
theorem tw_1805 : Cond.code yX9_save cX9_save 4 none ∈ TT := TT_in (tm_8 _ (List.mem_of_getElem? (i := 40) rfl)) rfl
theorem tw_1806 : Cond.methodLink RX9 390 yX9_setTo ∈ TT := TT_in (tm_8 _ (List.mem_of_getElem? (i := 41) rfl)) rfl
theorem tw_1808 : Cond.instanceMethod yX9_setTo ∈ TT := TT_in (tm_8 _ (List.mem_of_getElem? (i := 43) rfl)) rfl
theorem tw_1809 : Cond.code yX9_setTo cX9_setTo 4 none ∈ TT := TT_in (tm_8 _ (List.mem_of_getElem? (i := 44) rfl)) rfl
theorem tw_1810 : Cond.methodLink RX9 424 yX9_goOn ∈ TT := TT_in (tm_8 _ (List.mem_of_getElem? (i := 45) rfl)) rfl
theorem tw_1812 : Cond.instanceMethod yX9_goOn ∈ TT := TT_in (tm_8 _ (List.mem_of_getElem? (i := 47) rfl)) rfl
theorem tw_1813 : Cond.code yX9_goOn cX9_goOn 6 none ∈ TT := TT_in (tm_8 _ (List.mem_of_getElem? (i := 48) rfl)) rfl
theorem tw_1814 : Cond.methodLink RX9 402 yX9_comeBack ∈ TT := TT_in (tm_8 _ (List.mem_of_getElem? (i := 49) rfl)) rfl
theorem tw_1816 : Cond.instanceMethod yX9_comeBack ∈ TT := TT_in (tm_8 _ (List.mem_of_getElem? (i := 51) rfl)) rfl
theorem tw_1817 : Cond.code yX9_comeBack cX9_comeBack 7 (some .int) ∈ TT := TT_in (tm_8 _ (List.mem_of_getElem? (i := 52) rfl)) rfl
theorem tw_1818 : Cond.methodLink RX9 396 yX9_putBack ∈ TT := TT_in (tm_8 _ (List.mem_of_getElem? (i := 53) rfl)) rfl
theorem tw_1820 : Cond.instanceMethod yX9_putBack ∈ TT := TT_in (tm_8 _ (List.mem_of_getElem? (i := 55) rfl)) rfl
theorem tw_1821 : Cond.code yX9_putBack cX9_putBack 4 none ∈ TT := TT_in (tm_8 _ (List.mem_of_getElem? (i := 56) rfl)) rfl
theorem tw_1822 : Cond.methodLink RL 178 yX9_error ∈ TT := TT_in (tm_8 _ (List.mem_of_getElem? (i := 57) rfl)) rfl
theorem tw_1823 : Cond.instanceMethod yX9_error ∈ TT := TT_in (tm_8 _ (List.mem_of_getElem? (i := 58) rfl)) rfl
theorem tw_1824 : Cond.selects RX9 yX9_error yX9_error ∈ TT := TT_in (tm_8 _ (List.mem_of_getElem? (i := 59) rfl)) rfl
theorem tw_1825 : Cond.code yX9_error cX9_error 1 (some .int) ∈ TT := TT_in (tm_8 _ (List.mem_of_getElem? (i := 60) rfl)) rfl
theorem tw_1826 : Cond.methodLink RX9 435 yX9_noRun ∈ TT := TT_in (tm_8 _ (List.mem_of_getElem? (i := 61) rfl)) rfl
theorem tw_1828 : Cond.instanceMethod yX9_noRun ∈ TT := TT_in (tm_8 _ (List.mem_of_getElem? (i := 63) rfl)) rfl
theorem tw_1829 : Cond.code yX9_noRun cX9_noRun 1 (some .boolean) ∈ TT := TT_in (tm_8 _ (List.mem_of_getElem? (i := 64) rfl)) rfl
theorem tw_1830 : Cond.methodLink RL 181 yX9_last ∈ TT := TT_in (tm_8 _ (List.mem_of_getElem? (i := 65) rfl)) rfl
theorem tw_1831 : Cond.instanceMethod yX9_last ∈ TT := TT_in (tm_8 _ (List.mem_of_getElem? (i := 66) rfl)) rfl
theorem tw_1832 : Cond.selects RX9 yX9_last yX9_last ∈ TT := TT_in (tm_8 _ (List.mem_of_getElem? (i := 67) rfl)) rfl
theorem tw_1833 : Cond.code yX9_last cX9_last 1 (some .int) ∈ TT := TT_in (tm_8 _ (List.mem_of_getElem? (i := 68) rfl)) rfl
theorem tw_1834 : Cond.methodLink RL 184 yX9_steps ∈ TT := TT_in (tm_8 _ (List.mem_of_getElem? (i := 69) rfl)) rfl
theorem tw_1835 : Cond.instanceMethod yX9_steps ∈ TT := TT_in (tm_8 _ (List.mem_of_getElem? (i := 70) rfl)) rfl
theorem tw_1836 : Cond.selects RX9 yX9_steps yX9_steps ∈ TT := TT_in (tm_8 _ (List.mem_of_getElem? (i := 71) rfl)) rfl
theorem tw_1837 : Cond.code yX9_steps cX9_steps 1 (some .int) ∈ TT := TT_in (tm_8 _ (List.mem_of_getElem? (i := 72) rfl)) rfl
theorem tw_1838 : Cond.methodLink RL 187 yX9_done ∈ TT := TT_in (tm_8 _ (List.mem_of_getElem? (i := 73) rfl)) rfl
theorem tw_1839 : Cond.instanceMethod yX9_done ∈ TT := TT_in (tm_8 _ (List.mem_of_getElem? (i := 74) rfl)) rfl
theorem tw_1840 : Cond.selects RX9 yX9_done yX9_done ∈ TT := TT_in (tm_8 _ (List.mem_of_getElem? (i := 75) rfl)) rfl
theorem tw_1841 : Cond.code yX9_done cX9_done 2 (some .int) ∈ TT := TT_in (tm_8 _ (List.mem_of_getElem? (i := 76) rfl)) rfl
theorem tw_1842 : Cond.methodLink RL 190 yX9_failed ∈ TT := TT_in (tm_8 _ (List.mem_of_getElem? (i := 77) rfl)) rfl
theorem tw_1843 : Cond.instanceMethod yX9_failed ∈ TT := TT_in (tm_8 _ (List.mem_of_getElem? (i := 78) rfl)) rfl
theorem tw_1844 : Cond.selects RX9 yX9_failed yX9_failed ∈ TT := TT_in (tm_8 _ (List.mem_of_getElem? (i := 79) rfl)) rfl
theorem tw_1845 : Cond.code yX9_failed cX9_failed 2 (some .int) ∈ TT := TT_in (tm_8 _ (List.mem_of_getElem? (i := 80) rfl)) rfl
theorem tw_1846 : Cond.methodLink RL 193 yX9_depth ∈ TT := TT_in (tm_8 _ (List.mem_of_getElem? (i := 81) rfl)) rfl
theorem tw_1847 : Cond.instanceMethod yX9_depth ∈ TT := TT_in (tm_8 _ (List.mem_of_getElem? (i := 82) rfl)) rfl
theorem tw_1848 : Cond.selects RX9 yX9_depth yX9_depth ∈ TT := TT_in (tm_8 _ (List.mem_of_getElem? (i := 83) rfl)) rfl
theorem tw_1849 : Cond.code yX9_depth cX9_depth 1 (some .int) ∈ TT := TT_in (tm_8 _ (List.mem_of_getElem? (i := 84) rfl)) rfl
theorem tw_1850 : Cond.methodLink RL 196 yX9_match ∈ TT := TT_in (tm_8 _ (List.mem_of_getElem? (i := 85) rfl)) rfl
theorem tw_1851 : Cond.instanceMethod yX9_match ∈ TT := TT_in (tm_8 _ (List.mem_of_getElem? (i := 86) rfl)) rfl
theorem tw_1852 : Cond.selects RX9 yX9_match yX9_match ∈ TT := TT_in (tm_8 _ (List.mem_of_getElem? (i := 87) rfl)) rfl
theorem tw_1853 : Cond.code yX9_match cX9_match 3 (some .boolean) ∈ TT := TT_in (tm_8 _ (List.mem_of_getElem? (i := 88) rfl)) rfl
theorem tw_1854 : Cond.methodLink RX9 438 yX9_spare ∈ TT := TT_in (tm_8 _ (List.mem_of_getElem? (i := 89) rfl)) rfl
theorem tw_1856 : Cond.instanceMethod yX9_spare ∈ TT := TT_in (tm_8 _ (List.mem_of_getElem? (i := 91) rfl)) rfl
theorem tw_1857 : Cond.code yX9_spare cX9_spare 2 none ∈ TT := TT_in (tm_8 _ (List.mem_of_getElem? (i := 92) rfl)) rfl
theorem tw_1858 : Cond.methodLink RX9 441 yX9_takeTyped ∈ TT := TT_in (tm_8 _ (List.mem_of_getElem? (i := 93) rfl)) rfl
theorem tw_1860 : Cond.instanceMethod yX9_takeTyped ∈ TT := TT_in (tm_8 _ (List.mem_of_getElem? (i := 95) rfl)) rfl
theorem tw_1861 : Cond.code yX9_takeTyped cX9_takeTyped 2 none ∈ TT := TT_in (tm_8 _ (List.mem_of_getElem? (i := 96) rfl)) rfl
theorem tw_1862 : Cond.methodLink RX9 444 yX9_unspare ∈ TT := TT_in (tm_8 _ (List.mem_of_getElem? (i := 97) rfl)) rfl
theorem tw_1864 : Cond.instanceMethod yX9_unspare ∈ TT := TT_in (tm_8 _ (List.mem_of_getElem? (i := 99) rfl)) rfl
theorem tw_1865 : Cond.code yX9_unspare cX9_unspare 2 none ∈ TT := TT_in (tm_8 _ (List.mem_of_getElem? (i := 100) rfl)) rfl
theorem tw_1866 : Cond.methodLink RL 199 yX9_from ∈ TT := TT_in (tm_8 _ (List.mem_of_getElem? (i := 101) rfl)) rfl
theorem tw_1867 : Cond.instanceMethod yX9_from ∈ TT := TT_in (tm_8 _ (List.mem_of_getElem? (i := 102) rfl)) rfl
theorem tw_1868 : Cond.selects RX9 yX9_from yX9_from ∈ TT := TT_in (tm_8 _ (List.mem_of_getElem? (i := 103) rfl)) rfl
theorem tw_1869 : Cond.code yX9_from cX9_from 1 (some .int) ∈ TT := TT_in (tm_8 _ (List.mem_of_getElem? (i := 104) rfl)) rfl
theorem tw_1870 : Cond.methodLink RL 202 yX9_to ∈ TT := TT_in (tm_8 _ (List.mem_of_getElem? (i := 105) rfl)) rfl
theorem tw_1871 : Cond.instanceMethod yX9_to ∈ TT := TT_in (tm_8 _ (List.mem_of_getElem? (i := 106) rfl)) rfl
theorem tw_1872 : Cond.selects RX9 yX9_to yX9_to ∈ TT := TT_in (tm_8 _ (List.mem_of_getElem? (i := 107) rfl)) rfl
theorem tw_1873 : Cond.code yX9_to cX9_to 1 (some .int) ∈ TT := TT_in (tm_8 _ (List.mem_of_getElem? (i := 108) rfl)) rfl
theorem tw_1874 : Cond.methodLink RL 205 yX9_begun ∈ TT := TT_in (tm_8 _ (List.mem_of_getElem? (i := 109) rfl)) rfl
theorem tw_1875 : Cond.instanceMethod yX9_begun ∈ TT := TT_in (tm_8 _ (List.mem_of_getElem? (i := 110) rfl)) rfl
theorem tw_1876 : Cond.selects RX9 yX9_begun yX9_begun ∈ TT := TT_in (tm_8 _ (List.mem_of_getElem? (i := 111) rfl)) rfl
theorem tw_1877 : Cond.code yX9_begun cX9_begun 1 (some .int) ∈ TT := TT_in (tm_8 _ (List.mem_of_getElem? (i := 112) rfl)) rfl
theorem tw_1878 : Cond.methodLink RL 208 yX9_ways ∈ TT := TT_in (tm_8 _ (List.mem_of_getElem? (i := 113) rfl)) rfl
theorem tw_1879 : Cond.instanceMethod yX9_ways ∈ TT := TT_in (tm_8 _ (List.mem_of_getElem? (i := 114) rfl)) rfl
theorem tw_1880 : Cond.selects RX9 yX9_ways yX9_ways ∈ TT := TT_in (tm_8 _ (List.mem_of_getElem? (i := 115) rfl)) rfl
theorem tw_1881 : Cond.code yX9_ways cX9_ways 2 (some .int) ∈ TT := TT_in (tm_8 _ (List.mem_of_getElem? (i := 116) rfl)) rfl
theorem tw_1882 : Cond.methodLink RX9 465 yX9_findWays ∈ TT := TT_in (tm_8 _ (List.mem_of_getElem? (i := 117) rfl)) rfl
theorem tw_1884 : Cond.instanceMethod yX9_findWays ∈ TT := TT_in (tm_8 _ (List.mem_of_getElem? (i := 119) rfl)) rfl
theorem tw_1885 : Cond.code yX9_findWays cX9_findWays 5 (some .boolean) ∈ TT := TT_in (tm_8 _ (List.mem_of_getElem? (i := 120) rfl)) rfl
theorem tw_1886 : Cond.methodLink RL 211 yX9_way ∈ TT := TT_in (tm_8 _ (List.mem_of_getElem? (i := 121) rfl)) rfl
theorem tw_1887 : Cond.instanceMethod yX9_way ∈ TT := TT_in (tm_8 _ (List.mem_of_getElem? (i := 122) rfl)) rfl
theorem tw_1888 : Cond.selects RX9 yX9_way yX9_way ∈ TT := TT_in (tm_8 _ (List.mem_of_getElem? (i := 123) rfl)) rfl
theorem tw_1889 : Cond.code yX9_way cX9_way 3 (some .int) ∈ TT := TT_in (tm_8 _ (List.mem_of_getElem? (i := 124) rfl)) rfl
theorem tw_1890 : Cond.methodLink RL 214 yX9_work ∈ TT := TT_in (tm_8 _ (List.mem_of_getElem? (i := 125) rfl)) rfl
theorem tw_1891 : Cond.instanceMethod yX9_work ∈ TT := TT_in (tm_8 _ (List.mem_of_getElem? (i := 126) rfl)) rfl
theorem tw_1892 : Cond.selects RX9 yX9_work yX9_work ∈ TT := TT_in (tm_8 _ (List.mem_of_getElem? (i := 127) rfl)) rfl
theorem tw_1893 : Cond.code yX9_work cX9_work 4 (some .boolean) ∈ TT := TT_in (tm_8 _ (List.mem_of_getElem? (i := 128) rfl)) rfl
theorem tw_1894 : Cond.methodLink RL 217 yX9_typed ∈ TT := TT_in (tm_8 _ (List.mem_of_getElem? (i := 129) rfl)) rfl
theorem tw_1895 : Cond.instanceMethod yX9_typed ∈ TT := TT_in (tm_8 _ (List.mem_of_getElem? (i := 130) rfl)) rfl
theorem tw_1896 : Cond.selects RX9 yX9_typed yX9_typed ∈ TT := TT_in (tm_8 _ (List.mem_of_getElem? (i := 131) rfl)) rfl
theorem tw_1897 : Cond.code yX9_typed cX9_typed 2 (some .int) ∈ TT := TT_in (tm_8 _ (List.mem_of_getElem? (i := 132) rfl)) rfl
theorem tw_1898 : Cond.methodLink RL 221 yX9_statements ∈ TT := TT_in (tm_8 _ (List.mem_of_getElem? (i := 133) rfl)) rfl
theorem tw_1899 : Cond.instanceMethod yX9_statements ∈ TT := TT_in (tm_8 _ (List.mem_of_getElem? (i := 134) rfl)) rfl
theorem tw_1900 : Cond.selects RX9 yX9_statements yX9_statements ∈ TT := TT_in (tm_8 _ (List.mem_of_getElem? (i := 135) rfl)) rfl
theorem tw_1901 : Cond.code yX9_statements cX9_statements 1 (some .int) ∈ TT := TT_in (tm_8 _ (List.mem_of_getElem? (i := 136) rfl)) rfl
theorem tw_1902 : Cond.methodLink RL 225 yX9_failShare ∈ TT := TT_in (tm_8 _ (List.mem_of_getElem? (i := 137) rfl)) rfl
theorem tw_1903 : Cond.instanceMethod yX9_failShare ∈ TT := TT_in (tm_8 _ (List.mem_of_getElem? (i := 138) rfl)) rfl
theorem tw_1904 : Cond.selects RX9 yX9_failShare yX9_failShare ∈ TT := TT_in (tm_8 _ (List.mem_of_getElem? (i := 139) rfl)) rfl
theorem tw_1905 : Cond.code yX9_failShare cX9_failShare 3 (some .float) ∈ TT := TT_in (tm_8 _ (List.mem_of_getElem? (i := 140) rfl)) rfl
theorem tw_1906 : Cond.methodLink RL 228 yX9_meanSize ∈ TT := TT_in (tm_8 _ (List.mem_of_getElem? (i := 141) rfl)) rfl
theorem tw_1907 : Cond.instanceMethod yX9_meanSize ∈ TT := TT_in (tm_8 _ (List.mem_of_getElem? (i := 142) rfl)) rfl
theorem tw_1908 : Cond.selects RX9 yX9_meanSize yX9_meanSize ∈ TT := TT_in (tm_8 _ (List.mem_of_getElem? (i := 143) rfl)) rfl
theorem tw_1909 : Cond.code yX9_meanSize cX9_meanSize 4 (some .double) ∈ TT := TT_in (tm_8 _ (List.mem_of_getElem? (i := 144) rfl)) rfl
theorem tw_1910 : Cond.methodLink RL 233 yX9_checksum ∈ TT := TT_in (tm_8 _ (List.mem_of_getElem? (i := 145) rfl)) rfl
theorem tw_1911 : Cond.instanceMethod yX9_checksum ∈ TT := TT_in (tm_8 _ (List.mem_of_getElem? (i := 146) rfl)) rfl
theorem tw_1912 : Cond.selects RX9 yX9_checksum yX9_checksum ∈ TT := TT_in (tm_8 _ (List.mem_of_getElem? (i := 147) rfl)) rfl
theorem tw_1913 : Cond.code yX9_checksum cX9_checksum 5 (some .long) ∈ TT := TT_in (tm_8 _ (List.mem_of_getElem? (i := 148) rfl)) rfl
theorem tw_1914 : Cond.constantLong RX9 468 (7) ∈ TT := TT_in (tm_8 _ (List.mem_of_getElem? (i := 149) rfl)) rfl
theorem tw_1915 : Cond.constantLong RX9 470 (31) ∈ TT := TT_in (tm_8 _ (List.mem_of_getElem? (i := 150) rfl)) rfl
theorem tw_1916 : Cond.methodLink RL 238 yX9_isSound ∈ TT := TT_in (tm_8 _ (List.mem_of_getElem? (i := 151) rfl)) rfl
theorem tw_1917 : Cond.instanceMethod yX9_isSound ∈ TT := TT_in (tm_8 _ (List.mem_of_getElem? (i := 152) rfl)) rfl
theorem tw_1918 : Cond.selects RX9 yX9_isSound yX9_isSound ∈ TT := TT_in (tm_8 _ (List.mem_of_getElem? (i := 153) rfl)) rfl
theorem tw_1919 : Cond.code yX9_isSound cX9_isSound 1 (some .boolean) ∈ TT := TT_in (tm_8 _ (List.mem_of_getElem? (i := 154) rfl)) rfl
theorem tw_1920 : Cond.arrayClass .long ∈ TT := TT_in (tm_8 _ (List.mem_of_getElem? (i := 155) rfl)) rfl
theorem tw_1921 : Cond.arrayClass .double ∈ TT := TT_in (tm_8 _ (List.mem_of_getElem? (i := 156) rfl)) rfl
theorem tw_1 : Cond.selects RX8 yX8_patternPartsExist yX8_patternPartsExist ∈ TT := TT_at 1 (by decide +kernel) rfl
theorem tw_2 : Cond.selects RX8 yX8_termPartsExist yX8_termPartsExist ∈ TT := TT_at 2 (by decide +kernel) rfl
theorem tw_3 : Cond.selects RX8 yX8_needTerm yX8_needTerm ∈ TT := TT_at 3 (by decide +kernel) rfl
theorem tw_4 : Cond.selects RX8 yX8_needRoomForStatement yX8_needRoomForStatement ∈ TT := TT_at 4 (by decide +kernel) rfl
theorem tw_5 : Cond.selects RX8 yX8_needPattern yX8_needPattern ∈ TT := TT_at 5 (by decide +kernel) rfl
theorem tw_6 : Cond.selects RX8 yX8_needStatement yX8_needStatement ∈ TT := TT_at 6 (by decide +kernel) rfl
theorem tw_7 : Cond.selects RX7 yX7_doAssignment yX7_doAssignment ∈ TT := TT_at 7 (by decide +kernel) rfl
theorem tw_8 : Cond.selects RX5 yX5_markNeeded yX5_markNeeded ∈ TT := TT_at 8 (by decide +kernel) rfl
theorem tw_9 : Cond.selects RX5 yX5_reckon yX5_reckon ∈ TT := TT_at 9 (by decide +kernel) rfl
theorem tw_10 : Cond.selects RX5 yX5_formRepeated yX5_formRepeated ∈ TT := TT_at 10 (by decide +kernel) rfl
theorem tw_11 : Cond.selects RX5 yX5_form yX5_form ∈ TT := TT_at 11 (by decide +kernel) rfl
theorem tw_12 : Cond.selects RX5 yX5_variableNamed yX5_variableNamed ∈ TT := TT_at 12 (by decide +kernel) rfl
theorem tw_13 : Cond.selects RX5 yX5_formBackward yX5_formBackward ∈ TT := TT_at 13 (by decide +kernel) rfl
theorem tw_14 : Cond.selects RX7 yX7_doScan yX7_doScan ∈ TT := TT_at 14 (by decide +kernel) rfl
theorem tw_15 : Cond.selects RX2 yX2_begin yX2_begin ∈ TT := TT_at 15 (by decide +kernel) rfl
theorem tw_16 : Cond.selects RX2 yX2_addNode yX2_addNode ∈ TT := TT_at 16 (by decide +kernel) rfl
theorem tw_17 : Cond.selects RX2 yX2_beginPart yX2_beginPart ∈ TT := TT_at 17 (by decide +kernel) rfl
theorem tw_18 : Cond.selects RX2 yX2_addChoice yX2_addChoice ∈ TT := TT_at 18 (by decide +kernel) rfl
theorem tw_19 : Cond.selects RX2 yX2_endOfSingle yX2_endOfSingle ∈ TT := TT_at 19 (by decide +kernel) rfl
theorem tw_20 : Cond.selects RX2 yX2_endOfSpan yX2_endOfSpan ∈ TT := TT_at 20 (by decide +kernel) rfl
theorem tw_21 : Cond.selects RX2 yX2_endOfBreak yX2_endOfBreak ∈ TT := TT_at 21 (by decide +kernel) rfl
theorem tw_22 : Cond.selects RX2 yX2_goTo yX2_goTo ∈ TT := TT_at 22 (by decide +kernel) rfl
theorem tw_23 : Cond.selects RX2 yX2_balance yX2_balance ∈ TT := TT_at 23 (by decide +kernel) rfl
theorem tw_24 : Cond.selects RX2 yX2_goOn yX2_goOn ∈ TT := TT_at 24 (by decide +kernel) rfl
theorem tw_25 : Cond.selects RX2 yX2_capture yX2_capture ∈ TT := TT_at 25 (by decide +kernel) rfl
theorem tw_26 : Cond.selects RX2 yX2_goBack yX2_goBack ∈ TT := TT_at 26 (by decide +kernel) rfl
theorem tw_27 : Cond.selects RX2 yX2_beginAtNextCursor yX2_beginAtNextCursor ∈ TT := TT_at 27 (by decide +kernel) rfl
theorem tw_28 : Cond.selects RX7 yX7_doCall yX7_doCall ∈ TT := TT_at 28 (by decide +kernel) rfl
theorem tw_29 : Cond.selects RX7 yX7_placeBehind yX7_placeBehind ∈ TT := TT_at 29 (by decide +kernel) rfl
theorem tw_30 : Cond.selects RX7 yX7_breakOff yX7_breakOff ∈ TT := TT_at 30 (by decide +kernel) rfl
theorem tw_31 : Cond.selects RX7 yX7_placeOf yX7_placeOf ∈ TT := TT_at 31 (by decide +kernel) rfl
theorem tw_32 : Cond.selects RX7 yX7_leave yX7_leave ∈ TT := TT_at 32 (by decide +kernel) rfl
theorem tw_33 : Cond.selects RX7 yX7_comeBack yX7_comeBack ∈ TT := TT_at 33 (by decide +kernel) rfl
theorem tw_34 : Cond.selects RX8 yX8_needRun yX8_needRun ∈ TT := TT_at 34 (by decide +kernel) rfl
theorem tw_35 : Cond.selects RX8 yX8_needMatch yX8_needMatch ∈ TT := TT_at 35 (by decide +kernel) rfl
theorem tw_36 : Cond.selects RX8 yX8_needMatched yX8_needMatched ∈ TT := TT_at 36 (by decide +kernel) rfl
theorem tw_37 : Cond.selects RX8 yX8_findWays yX8_findWays ∈ TT := TT_at 37 (by decide +kernel) rfl
theorem tw_38 : Cond.selects RX9 yX9_fails yX9_fails ∈ TT := TT_at 38 (by decide +kernel) rfl
theorem tw_39 : Cond.selects RX9 yX9_isText yX9_isText ∈ TT := TT_at 39 (by decide +kernel) rfl
theorem tw_40 : Cond.selects RX9 yX9_isPattern yX9_isPattern ∈ TT := TT_at 40 (by decide +kernel) rfl
theorem tw_41 : Cond.selects RX9 yX9_isTerm yX9_isTerm ∈ TT := TT_at 41 (by decide +kernel) rfl
theorem tw_42 : Cond.selects RX9 yX9_add yX9_add ∈ TT := TT_at 42 (by decide +kernel) rfl
theorem tw_43 : Cond.selects RX9 yX9_doStatement yX9_doStatement ∈ TT := TT_at 43 (by decide +kernel) rfl
theorem tw_44 : Cond.selects RX9 yX9_workOut yX9_workOut ∈ TT := TT_at 44 (by decide +kernel) rfl
theorem tw_45 : Cond.selects RX9 yX9_workOne yX9_workOne ∈ TT := TT_at 45 (by decide +kernel) rfl
theorem tw_46 : Cond.selects RX9 yX9_takeVariable yX9_takeVariable ∈ TT := TT_at 46 (by decide +kernel) rfl
theorem tw_47 : Cond.selects RX9 yX9_append yX9_append ∈ TT := TT_at 47 (by decide +kernel) rfl
theorem tw_48 : Cond.selects RX9 yX9_putNumber yX9_putNumber ∈ TT := TT_at 48 (by decide +kernel) rfl
theorem tw_49 : Cond.selects RX9 yX9_isNumber yX9_isNumber ∈ TT := TT_at 49 (by decide +kernel) rfl
theorem tw_50 : Cond.selects RX9 yX9_numberOf yX9_numberOf ∈ TT := TT_at 50 (by decide +kernel) rfl
theorem tw_51 : Cond.selects RX9 yX9_isSame yX9_isSame ∈ TT := TT_at 51 (by decide +kernel) rfl
theorem tw_52 : Cond.selects RX9 yX9_reckon yX9_reckon ∈ TT := TT_at 52 (by decide +kernel) rfl
theorem tw_53 : Cond.selects RX9 yX9_doScan yX9_doScan ∈ TT := TT_at 53 (by decide +kernel) rfl
theorem tw_54 : Cond.selects RX9 yX9_takeSubject yX9_takeSubject ∈ TT := TT_at 54 (by decide +kernel) rfl
theorem tw_55 : Cond.selects RX9 yX9_matches yX9_matches ∈ TT := TT_at 55 (by decide +kernel) rfl
theorem tw_56 : Cond.selects RX9 yX9_beginAt yX9_beginAt ∈ TT := TT_at 56 (by decide +kernel) rfl
theorem tw_57 : Cond.selects RX9 yX9_addGoal yX9_addGoal ∈ TT := TT_at 57 (by decide +kernel) rfl
theorem tw_58 : Cond.selects RX9 yX9_reaches yX9_reaches ∈ TT := TT_at 58 (by decide +kernel) rfl
theorem tw_59 : Cond.selects RX9 yX9_back yX9_back ∈ TT := TT_at 59 (by decide +kernel) rfl
theorem tw_60 : Cond.selects RX9 yX9_goesBack yX9_goesBack ∈ TT := TT_at 60 (by decide +kernel) rfl
theorem tw_61 : Cond.selects RX9 yX9_backAgain yX9_backAgain ∈ TT := TT_at 61 (by decide +kernel) rfl
theorem tw_62 : Cond.selects RX9 yX9_addChoice yX9_addChoice ∈ TT := TT_at 62 (by decide +kernel) rfl
theorem tw_63 : Cond.selects RX9 yX9_balanced yX9_balanced ∈ TT := TT_at 63 (by decide +kernel) rfl
theorem tw_64 : Cond.selects RX9 yX9_goesOn yX9_goesOn ∈ TT := TT_at 64 (by decide +kernel) rfl
theorem tw_65 : Cond.selects RX9 yX9_begin yX9_begin ∈ TT := TT_at 65 (by decide +kernel) rfl
theorem tw_66 : Cond.selects RX9 yX9_assignCursor yX9_assignCursor ∈ TT := TT_at 66 (by decide +kernel) rfl
theorem tw_67 : Cond.selects RX9 yX9_takes yX9_takes ∈ TT := TT_at 67 (by decide +kernel) rfl
theorem tw_68 : Cond.selects RX9 yX9_textTakes yX9_textTakes ∈ TT := TT_at 68 (by decide +kernel) rfl
theorem tw_69 : Cond.selects RX9 yX9_valueTakes yX9_valueTakes ∈ TT := TT_at 69 (by decide +kernel) rfl
theorem tw_70 : Cond.selects RX9 yX9_isIn yX9_isIn ∈ TT := TT_at 70 (by decide +kernel) rfl
theorem tw_71 : Cond.selects RX9 yX9_assign yX9_assign ∈ TT := TT_at 71 (by decide +kernel) rfl
theorem tw_72 : Cond.selects RX9 yX9_assignKept yX9_assignKept ∈ TT := TT_at 72 (by decide +kernel) rfl
theorem tw_73 : Cond.selects RX9 yX9_replace yX9_replace ∈ TT := TT_at 73 (by decide +kernel) rfl
theorem tw_74 : Cond.selects RX9 yX9_doCall yX9_doCall ∈ TT := TT_at 74 (by decide +kernel) rfl
theorem tw_75 : Cond.selects RX9 yX9_save yX9_save ∈ TT := TT_at 75 (by decide +kernel) rfl
theorem tw_76 : Cond.selects RX9 yX9_setTo yX9_setTo ∈ TT := TT_at 76 (by decide +kernel) rfl
theorem tw_77 : Cond.selects RX9 yX9_goOn yX9_goOn ∈ TT := TT_at 77 (by decide +kernel) rfl
theorem tw_78 : Cond.selects RX9 yX9_comeBack yX9_comeBack ∈ TT := TT_at 78 (by decide +kernel) rfl
theorem tw_79 : Cond.selects RX9 yX9_putBack yX9_putBack ∈ TT := TT_at 79 (by decide +kernel) rfl
theorem tw_80 : Cond.selects RX9 yX9_noRun yX9_noRun ∈ TT := TT_at 80 (by decide +kernel) rfl
theorem tw_81 : Cond.selects RX9 yX9_spare yX9_spare ∈ TT := TT_at 81 (by decide +kernel) rfl
theorem tw_82 : Cond.selects RX9 yX9_takeTyped yX9_takeTyped ∈ TT := TT_at 82 (by decide +kernel) rfl
theorem tw_83 : Cond.selects RX9 yX9_unspare yX9_unspare ∈ TT := TT_at 83 (by decide +kernel) rfl
theorem tw_84 : Cond.selects RX9 yX9_findWays yX9_findWays ∈ TT := TT_at 84 (by decide +kernel) rfl
theorem hin_X0 : ∀ w ∈ wsX00, w ∈ TT := fun w h => List.mem_filter.mpr ⟨(goodIn_r wsX00 [165, 167, 169, 171, 173] (by decide +kernel) (by decide +kernel) w h).1, List.all_eq_true.mp (show wsX00.all goodWord = true by decide +kernel) w h⟩
theorem hin_X1 : ∀ w ∈ wsX10, w ∈ TT := fun w h => List.mem_filter.mpr ⟨(goodIn_r wsX10 [150] (by decide +kernel) (by decide +kernel) w h).1, List.all_eq_true.mp (show wsX10.all goodWord = true by decide +kernel) w h⟩
theorem hin_X2 : ∀ w ∈ wsX20, w ∈ TT := fun w h => List.mem_filter.mpr ⟨(goodIn_r wsX20 [225, 227, 229, 231, 233, 235, 237, 239, 241, 243, 245, 247, 249, 251, 253, 255] (by decide +kernel) (by decide +kernel) w h).1, List.all_eq_true.mp (show wsX20.all goodWord = true by decide +kernel) w h⟩
theorem hin_X3 : ∀ w ∈ wsX30, w ∈ TT := fun w h => List.mem_filter.mpr ⟨(goodIn_r wsX30 [195, 197, 199, 201] (by decide +kernel) (by decide +kernel) w h).1, List.all_eq_true.mp (show wsX30.all goodWord = true by decide +kernel) w h⟩
theorem hin_X4 : ∀ w ∈ wsX40, w ∈ TT := fun w h => List.mem_filter.mpr ⟨(goodIn_r wsX40 [315, 317, 319, 321, 323, 325, 327, 329, 331, 333] (by decide +kernel) (by decide +kernel) w h).1, List.all_eq_true.mp (show wsX40.all goodWord = true by decide +kernel) w h⟩
theorem hin_X5 : ∀ w ∈ wsX50, w ∈ TT := fun w h => List.mem_filter.mpr ⟨(goodIn_r wsX50 [275, 277, 279, 281, 283] (by decide +kernel) (by decide +kernel) w h).1, List.all_eq_true.mp (show wsX50.all goodWord = true by decide +kernel) w h⟩
theorem hin_X6 : ∀ w ∈ wsX60, w ∈ TT := fun w h => List.mem_filter.mpr ⟨(goodIn_r wsX60 [129, 131, 133] (by decide +kernel) (by decide +kernel) w h).1, List.all_eq_true.mp (show wsX60.all goodWord = true by decide +kernel) w h⟩
theorem hin_X7 : ∀ w ∈ wsX70, w ∈ TT := fun w h => List.mem_filter.mpr ⟨(goodIn_r wsX70 [368, 370, 372, 374, 376, 378, 380, 382, 384, 386, 388, 390, 392, 394, 396] (by decide +kernel) (by decide +kernel) w h).1, List.all_eq_true.mp (show wsX70.all goodWord = true by decide +kernel) w h⟩
theorem hin_X8 : ∀ w ∈ wsX80, w ∈ TT := fun w h => List.mem_filter.mpr ⟨(goodIn_r wsX80 [420, 422, 424, 426, 428, 430, 432, 434, 436, 438, 440, 442, 444, 446, 448, 450, 452, 454, 456] (by decide +kernel) (by decide +kernel) w h).1, List.all_eq_true.mp (show wsX80.all goodWord = true by decide +kernel) w h⟩
theorem hin_X9 : ∀ w ∈ wsX90, w ∈ TT := fun w h => List.mem_filter.mpr ⟨(goodIn_r wsX90 [1397, 1399, 1401, 1403, 1405, 1407, 1409, 1411, 1413, 1415, 1417, 1419, 1421, 1423, 1425, 1427, 1429, 1431, 1433, 1435, 1437, 1439, 1441, 1443, 1445, 1447, 1449, 1451, 1453, 1455, 1457, 1459, 1461, 1463, 1465, 1467, 1469, 1471, 1473, 1475, 1477, 1479, 1481, 1483, 1485, 1487, 1489, 1491, 1493, 1495, 1497, 1499, 1501, 1503, 1505, 1507, 1509, 1511, 1513, 1515, 1517, 1519, 1521, 1523, 1525, 1527, 1529, 1531, 1533, 1535, 1537, 1539, 1541, 1543, 1545, 1547, 1549, 1551, 1553, 1555, 1557] (by decide +kernel) (by decide +kernel) w h).1, List.all_eq_true.mp (show wsX90.all goodWord = true by decide +kernel) w h⟩
def NT : List Cond := [Cond.fieldLinkNest RX5 49 "SnowbolFold$Book" "kinds" "LSnowbolFold$Cells;" "SnowbolFold", Cond.fieldLinkNest RX2 135 "SnowbolFold$Book" "kinds" "LSnowbolFold$Cells;" "SnowbolFold", Cond.fieldLinkNest RX5 70 "SnowbolFold$Book" "firsts" "LSnowbolFold$Cells;" "SnowbolFold", Cond.fieldLinkNest RX2 149 "SnowbolFold$Book" "firsts" "LSnowbolFold$Cells;" "SnowbolFold", Cond.fieldLinkNest RX5 73 "SnowbolFold$Book" "seconds" "LSnowbolFold$Cells;" "SnowbolFold", Cond.fieldLinkNest RX2 156 "SnowbolFold$Book" "seconds" "LSnowbolFold$Cells;" "SnowbolFold", Cond.fieldLinkNest RX8 325 "SnowbolFold$Book" "count" "I" "SnowbolFold", Cond.fieldLinkNest RX2 76 "SnowbolFold$Pile" "count" "I" "SnowbolFold", Cond.fieldLinkNest RX8 269 "SnowbolFold$Matcher" "start" "I" "SnowbolFold", Cond.fieldLinkNest RX8 263 "SnowbolFold$Matcher" "begunCount" "I" "SnowbolFold", Cond.fieldLinkNest RX8 275 "SnowbolFold$Matcher" "cursor" "I" "SnowbolFold", Cond.fieldLinkNest RX7 127 "SnowbolFold$Reckoner" "values" "LSnowbolFold$Rows;" "SnowbolFold", Cond.fieldLinkNest RX8 303 "SnowbolFold$Reckoner" "values" "LSnowbolFold$Rows;" "SnowbolFold", Cond.methodLinkNest RX8 57 yX4_init "SnowbolFold", Cond.fieldLinkNest RX7 79 "SnowbolFold$Program" "kinds" "LSnowbolFold$Cells;" "SnowbolFold", Cond.fieldLinkNest RX7 125 "SnowbolFold$Program" "variables" "LSnowbolFold$Cells;" "SnowbolFold", Cond.fieldLinkNest RX7 107 "SnowbolFold$Program" "parts" "LSnowbolFold$Cells;" "SnowbolFold", Cond.fieldLinkNest RX7 117 "SnowbolFold$Program" "terms" "LSnowbolFold$Cells;" "SnowbolFold", Cond.fieldLinkNest RX7 163 "SnowbolFold$Program" "yes" "LSnowbolFold$Cells;" "SnowbolFold", Cond.fieldLinkNest RX7 166 "SnowbolFold$Program" "no" "LSnowbolFold$Cells;" "SnowbolFold", Cond.fieldLinkNest RX7 169 "SnowbolFold$Program" "count" "I" "SnowbolFold", Cond.fieldLinkNest RX8 308 "SnowbolFold$Program" "count" "I" "SnowbolFold", Cond.fieldLinkNest RX7 151 "SnowbolFold$Program" "isTold" "LSnowbolFold$Cells;" "SnowbolFold", Cond.fieldLinkNest RX7 104 "SnowbolFold$Program" "entries" "LSnowbolFold$Cells;" "SnowbolFold", Cond.fieldLinkNest RX7 154 "SnowbolFold$Program" "names" "LSnowbolFold$Cells;" "SnowbolFold", Cond.fieldLinkNest RX8 228 "SnowbolFold$Runner" "doneOften" "LSnowbolFold$Cells;" "SnowbolFold", Cond.fieldLinkNest RX8 234 "SnowbolFold$Runner" "failedOften" "LSnowbolFold$Cells;" "SnowbolFold", Cond.fieldLinkNest RX8 320 "SnowbolFold$Runner" "ever" "Z" "SnowbolFold", Cond.fieldLinkNest RX8 217 "SnowbolFold$Runner" "error" "I" "SnowbolFold", Cond.fieldLinkNest RX8 222 "SnowbolFold$Runner" "last" "I" "SnowbolFold", Cond.fieldLinkNest RX8 225 "SnowbolFold$Runner" "steps" "I" "SnowbolFold", Cond.fieldLinkNest RX8 237 "SnowbolFold$Runner" "depth" "I" "SnowbolFold", Cond.methodLinkNest RX5 125 yX8_isBelow "SnowbolFold", Cond.methodLinkNest RX7 176 yX8_isBelow "SnowbolFold", Cond.castable "java/lang/IllegalArgumentException" "java/lang/IllegalArgumentException", Cond.declares ⟨"java/lang/RuntimeException", "<init>", "(Ljava/lang/String;)V"⟩, Cond.declares ⟨"java/lang/Exception", "<init>", "(Ljava/lang/String;)V"⟩, Cond.declares ⟨"java/lang/Throwable", "<init>", "(Ljava/lang/String;)V"⟩, Cond.castable "java/lang/IllegalStateException" "java/lang/IllegalStateException", Cond.castable "java/lang/UnsupportedOperationException" "java/lang/UnsupportedOperationException", Cond.castable "java/lang/ArrayIndexOutOfBoundsException" "java/lang/ArrayIndexOutOfBoundsException", Cond.declares ⟨"java/lang/IndexOutOfBoundsException", "<init>", "(Ljava/lang/String;)V"⟩, Cond.castable "java/lang/IndexOutOfBoundsException" "java/lang/IndexOutOfBoundsException", Cond.castable "java/util/NoSuchElementException" "java/util/NoSuchElementException", Cond.castable "java/lang/ArithmeticException" "java/lang/ArithmeticException", Cond.castable "java/lang/ArrayIndexOutOfBoundsException" "java/lang/IndexOutOfBoundsException"]
theorem nw_0 : Cond.fieldLinkNest RX5 49 "SnowbolFold$Book" "kinds" "LSnowbolFold$Cells;" "SnowbolFold" ∈ NT := List.mem_of_getElem? (i := 0) rfl
theorem nw_1 : Cond.fieldLinkNest RX2 135 "SnowbolFold$Book" "kinds" "LSnowbolFold$Cells;" "SnowbolFold" ∈ NT := List.mem_of_getElem? (i := 1) rfl
theorem nw_2 : Cond.fieldLinkNest RX5 70 "SnowbolFold$Book" "firsts" "LSnowbolFold$Cells;" "SnowbolFold" ∈ NT := List.mem_of_getElem? (i := 2) rfl
theorem nw_3 : Cond.fieldLinkNest RX2 149 "SnowbolFold$Book" "firsts" "LSnowbolFold$Cells;" "SnowbolFold" ∈ NT := List.mem_of_getElem? (i := 3) rfl
theorem nw_4 : Cond.fieldLinkNest RX5 73 "SnowbolFold$Book" "seconds" "LSnowbolFold$Cells;" "SnowbolFold" ∈ NT := List.mem_of_getElem? (i := 4) rfl
theorem nw_5 : Cond.fieldLinkNest RX2 156 "SnowbolFold$Book" "seconds" "LSnowbolFold$Cells;" "SnowbolFold" ∈ NT := List.mem_of_getElem? (i := 5) rfl
theorem nw_6 : Cond.fieldLinkNest RX8 325 "SnowbolFold$Book" "count" "I" "SnowbolFold" ∈ NT := List.mem_of_getElem? (i := 6) rfl
theorem nw_7 : Cond.fieldLinkNest RX2 76 "SnowbolFold$Pile" "count" "I" "SnowbolFold" ∈ NT := List.mem_of_getElem? (i := 7) rfl
theorem nw_8 : Cond.fieldLinkNest RX8 269 "SnowbolFold$Matcher" "start" "I" "SnowbolFold" ∈ NT := List.mem_of_getElem? (i := 8) rfl
theorem nw_9 : Cond.fieldLinkNest RX8 263 "SnowbolFold$Matcher" "begunCount" "I" "SnowbolFold" ∈ NT := List.mem_of_getElem? (i := 9) rfl
theorem nw_10 : Cond.fieldLinkNest RX8 275 "SnowbolFold$Matcher" "cursor" "I" "SnowbolFold" ∈ NT := List.mem_of_getElem? (i := 10) rfl
theorem nw_11 : Cond.fieldLinkNest RX7 127 "SnowbolFold$Reckoner" "values" "LSnowbolFold$Rows;" "SnowbolFold" ∈ NT := List.mem_of_getElem? (i := 11) rfl
theorem nw_12 : Cond.fieldLinkNest RX8 303 "SnowbolFold$Reckoner" "values" "LSnowbolFold$Rows;" "SnowbolFold" ∈ NT := List.mem_of_getElem? (i := 12) rfl
theorem nw_13 : Cond.methodLinkNest RX8 57 yX4_init "SnowbolFold" ∈ NT := List.mem_of_getElem? (i := 13) rfl
theorem nw_14 : Cond.fieldLinkNest RX7 79 "SnowbolFold$Program" "kinds" "LSnowbolFold$Cells;" "SnowbolFold" ∈ NT := List.mem_of_getElem? (i := 14) rfl
theorem nw_15 : Cond.fieldLinkNest RX7 125 "SnowbolFold$Program" "variables" "LSnowbolFold$Cells;" "SnowbolFold" ∈ NT := List.mem_of_getElem? (i := 15) rfl
theorem nw_16 : Cond.fieldLinkNest RX7 107 "SnowbolFold$Program" "parts" "LSnowbolFold$Cells;" "SnowbolFold" ∈ NT := List.mem_of_getElem? (i := 16) rfl
theorem nw_17 : Cond.fieldLinkNest RX7 117 "SnowbolFold$Program" "terms" "LSnowbolFold$Cells;" "SnowbolFold" ∈ NT := List.mem_of_getElem? (i := 17) rfl
theorem nw_18 : Cond.fieldLinkNest RX7 163 "SnowbolFold$Program" "yes" "LSnowbolFold$Cells;" "SnowbolFold" ∈ NT := List.mem_of_getElem? (i := 18) rfl
theorem nw_19 : Cond.fieldLinkNest RX7 166 "SnowbolFold$Program" "no" "LSnowbolFold$Cells;" "SnowbolFold" ∈ NT := List.mem_of_getElem? (i := 19) rfl
theorem nw_20 : Cond.fieldLinkNest RX7 169 "SnowbolFold$Program" "count" "I" "SnowbolFold" ∈ NT := List.mem_of_getElem? (i := 20) rfl
theorem nw_21 : Cond.fieldLinkNest RX8 308 "SnowbolFold$Program" "count" "I" "SnowbolFold" ∈ NT := List.mem_of_getElem? (i := 21) rfl
theorem nw_22 : Cond.fieldLinkNest RX7 151 "SnowbolFold$Program" "isTold" "LSnowbolFold$Cells;" "SnowbolFold" ∈ NT := List.mem_of_getElem? (i := 22) rfl
theorem nw_23 : Cond.fieldLinkNest RX7 104 "SnowbolFold$Program" "entries" "LSnowbolFold$Cells;" "SnowbolFold" ∈ NT := List.mem_of_getElem? (i := 23) rfl
theorem nw_24 : Cond.fieldLinkNest RX7 154 "SnowbolFold$Program" "names" "LSnowbolFold$Cells;" "SnowbolFold" ∈ NT := List.mem_of_getElem? (i := 24) rfl
theorem nw_25 : Cond.fieldLinkNest RX8 228 "SnowbolFold$Runner" "doneOften" "LSnowbolFold$Cells;" "SnowbolFold" ∈ NT := List.mem_of_getElem? (i := 25) rfl
theorem nw_26 : Cond.fieldLinkNest RX8 234 "SnowbolFold$Runner" "failedOften" "LSnowbolFold$Cells;" "SnowbolFold" ∈ NT := List.mem_of_getElem? (i := 26) rfl
theorem nw_27 : Cond.fieldLinkNest RX8 320 "SnowbolFold$Runner" "ever" "Z" "SnowbolFold" ∈ NT := List.mem_of_getElem? (i := 27) rfl
theorem nw_28 : Cond.fieldLinkNest RX8 217 "SnowbolFold$Runner" "error" "I" "SnowbolFold" ∈ NT := List.mem_of_getElem? (i := 28) rfl
theorem nw_29 : Cond.fieldLinkNest RX8 222 "SnowbolFold$Runner" "last" "I" "SnowbolFold" ∈ NT := List.mem_of_getElem? (i := 29) rfl
theorem nw_30 : Cond.fieldLinkNest RX8 225 "SnowbolFold$Runner" "steps" "I" "SnowbolFold" ∈ NT := List.mem_of_getElem? (i := 30) rfl
theorem nw_31 : Cond.fieldLinkNest RX8 237 "SnowbolFold$Runner" "depth" "I" "SnowbolFold" ∈ NT := List.mem_of_getElem? (i := 31) rfl
theorem nw_32 : Cond.methodLinkNest RX5 125 yX8_isBelow "SnowbolFold" ∈ NT := List.mem_of_getElem? (i := 32) rfl
theorem nw_33 : Cond.methodLinkNest RX7 176 yX8_isBelow "SnowbolFold" ∈ NT := List.mem_of_getElem? (i := 33) rfl
theorem nw_34 : Cond.castable "java/lang/IllegalArgumentException" "java/lang/IllegalArgumentException" ∈ NT := List.mem_of_getElem? (i := 34) rfl
theorem nw_35 : Cond.declares ⟨"java/lang/RuntimeException", "<init>", "(Ljava/lang/String;)V"⟩ ∈ NT := List.mem_of_getElem? (i := 35) rfl
theorem nw_36 : Cond.declares ⟨"java/lang/Exception", "<init>", "(Ljava/lang/String;)V"⟩ ∈ NT := List.mem_of_getElem? (i := 36) rfl
theorem nw_37 : Cond.declares ⟨"java/lang/Throwable", "<init>", "(Ljava/lang/String;)V"⟩ ∈ NT := List.mem_of_getElem? (i := 37) rfl
theorem nw_38 : Cond.castable "java/lang/IllegalStateException" "java/lang/IllegalStateException" ∈ NT := List.mem_of_getElem? (i := 38) rfl
theorem nw_39 : Cond.castable "java/lang/UnsupportedOperationException" "java/lang/UnsupportedOperationException" ∈ NT := List.mem_of_getElem? (i := 39) rfl
theorem nw_40 : Cond.castable "java/lang/ArrayIndexOutOfBoundsException" "java/lang/ArrayIndexOutOfBoundsException" ∈ NT := List.mem_of_getElem? (i := 40) rfl
theorem nw_41 : Cond.declares ⟨"java/lang/IndexOutOfBoundsException", "<init>", "(Ljava/lang/String;)V"⟩ ∈ NT := List.mem_of_getElem? (i := 41) rfl
theorem nw_42 : Cond.castable "java/lang/IndexOutOfBoundsException" "java/lang/IndexOutOfBoundsException" ∈ NT := List.mem_of_getElem? (i := 42) rfl
theorem nw_43 : Cond.castable "java/util/NoSuchElementException" "java/util/NoSuchElementException" ∈ NT := List.mem_of_getElem? (i := 43) rfl
theorem nw_44 : Cond.castable "java/lang/ArithmeticException" "java/lang/ArithmeticException" ∈ NT := List.mem_of_getElem? (i := 44) rfl
theorem nw_45 : Cond.castable "java/lang/ArrayIndexOutOfBoundsException" "java/lang/IndexOutOfBoundsException" ∈ NT := List.mem_of_getElem? (i := 45) rfl
theorem NT_law : ∀ w ∈ NT, w ∈ lw_tbl := fun w h => by
  have e : NT = [155, 156, 158, 159, 161, 162, 164, 194, 218, 220, 223, 272, 273, 288, 295, 297, 299, 301, 303, 305, 307, 308, 310, 312, 314, 354, 356, 359, 361, 363, 365, 367, 1001, 1137, 517, 519, 521, 523, 589, 617, 660, 662, 681, 713, 1210, 1923].filterMap (fun i => lw_tbl[i]?) := by decide +kernel
  rw [e] at h
  obtain ⟨i, -, hi⟩ := List.mem_filterMap.mp h
  exact List.mem_of_getElem? hi
abbrev vwCl : List vw_C := [(RJ0, TJ0, 2), (RJx00060, TJx00060, 6), (RX0, TX0, 5), (RX1, TX1, 1), (RX2, TX2, 16), (RX3, TX3, 4), (RX4, TX4, 10), (RX5, TX5, 5), (RX6, TX6, 3), (RX7, TX7, 15), (RX8, TX8, 19), (RX9, TX9, 81)]
