/-! constructors: words, decoding (printed by gen68.py) -/
set_option maxRecDepth 100000 in
theorem kw_54 : (.initialized RX7 : Cond) ∈ jTb := jtb (i := 54) (by decide +kernel) rfl
set_option maxRecDepth 100000 in
theorem kw_55 : (.initialized RX6 : Cond) ∈ jTb := jtb (i := 55) (by decide +kernel) rfl
set_option maxRecDepth 100000 in
theorem kw_56 : (.initialized RX3 : Cond) ∈ jTb := jtb (i := 56) (by decide +kernel) rfl
set_option maxRecDepth 100000 in
theorem kw_57 : (.initialized RX0 : Cond) ∈ jTb := jtb (i := 57) (by decide +kernel) rfl
set_option maxRecDepth 100000 in
theorem kw_58 : (.initialized RX5 : Cond) ∈ jTb := jtb (i := 58) (by decide +kernel) rfl
set_option maxRecDepth 100000 in
theorem kw_59 : (.initialized RX2 : Cond) ∈ jTb := jtb (i := 59) (by decide +kernel) rfl
set_option maxRecDepth 100000 in
theorem kw_60 : (.initialized RX1 : Cond) ∈ jTb := jtb (i := 60) (by decide +kernel) rfl
set_option maxRecDepth 100000 in
theorem kw_61 : (.initialized RX4 : Cond) ∈ jTb := jtb (i := 61) (by decide +kernel) rfl
set_option maxRecDepth 100000 in
theorem kw_63 : (.initialized RX8 : Cond) ∈ jTb := jtb (i := 63) (by decide +kernel) rfl
set_option maxRecDepth 100000 in
theorem kw_67 : (.instantiable RX7 12 : Cond) ∈ jTb := jtb (i := 67) (by decide +kernel) rfl
set_option maxRecDepth 100000 in
theorem kw_71 : (.methodLink RX7 3 Lib.objectInit : Cond) ∈ jTb := jtb (i := 71) (by decide +kernel) rfl
set_option maxRecDepth 100000 in
theorem kw_74 : (.classLink RX7 9 RX6 : Cond) ∈ jTb := jtb (i := 74) (by decide +kernel) rfl
set_option maxRecDepth 100000 in
theorem kw_75 : (.instantiable RX6 6 : Cond) ∈ jTb := jtb (i := 75) (by decide +kernel) rfl
set_option maxRecDepth 100000 in
theorem kw_77 : (.instanceMethod yX6_init : Cond) ∈ jTb := jtb (i := 77) (by decide +kernel) rfl
set_option maxRecDepth 100000 in
theorem kw_78 : (.code yX6_init cX6_init 1 none : Cond) ∈ jTb := jtb (i := 78) (by decide +kernel) rfl
set_option maxRecDepth 100000 in
theorem kw_79 : (.methodLink RX6 3 Lib.objectInit : Cond) ∈ jTb := jtb (i := 79) (by decide +kernel) rfl
set_option maxRecDepth 100000 in
theorem kw_80 : (.fieldLink RX6 9 "JumpLengths$Tokens" "bytes" "[I" : Cond) ∈ jTb := jtb (i := 80) (by decide +kernel) rfl
set_option maxRecDepth 100000 in
theorem kw_81 : (.fieldLink RX6 15 "JumpLengths$Tokens" "length" "I" : Cond) ∈ jTb := jtb (i := 81) (by decide +kernel) rfl
set_option maxRecDepth 100000 in
theorem kw_84 : (.fieldLink RX6 19 "JumpLengths$Tokens" "start" "I" : Cond) ∈ jTb := jtb (i := 84) (by decide +kernel) rfl
set_option maxRecDepth 100000 in
theorem kw_86 : (.fieldLink RX6 22 "JumpLengths$Tokens" "kind" "I" : Cond) ∈ jTb := jtb (i := 86) (by decide +kernel) rfl
set_option maxRecDepth 100000 in
theorem kw_88 : (.fieldLink RX6 25 "JumpLengths$Tokens" "place" "I" : Cond) ∈ jTb := jtb (i := 88) (by decide +kernel) rfl
set_option maxRecDepth 100000 in
theorem kw_89 : (.fieldLink RX6 28 "JumpLengths$Tokens" "value" "I" : Cond) ∈ jTb := jtb (i := 89) (by decide +kernel) rfl
set_option maxRecDepth 100000 in
theorem kw_105 : (.classLink RX7 16 RX3 : Cond) ∈ jTb := jtb (i := 105) (by decide +kernel) rfl
set_option maxRecDepth 100000 in
theorem kw_106 : (.instantiable RX3 14 : Cond) ∈ jTb := jtb (i := 106) (by decide +kernel) rfl
set_option maxRecDepth 100000 in
theorem kw_107 : (.methodLink RX7 18 yX3_init : Cond) ∈ jTb := jtb (i := 107) (by decide +kernel) rfl
set_option maxRecDepth 100000 in
theorem kw_108 : (.instanceMethod yX3_init : Cond) ∈ jTb := jtb (i := 108) (by decide +kernel) rfl
set_option maxRecDepth 100000 in
theorem kw_109 : (.code yX3_init cX3_init 1 none : Cond) ∈ jTb := jtb (i := 109) (by decide +kernel) rfl
set_option maxRecDepth 100000 in
theorem kw_110 : (.methodLink RX3 3 Lib.objectInit : Cond) ∈ jTb := jtb (i := 110) (by decide +kernel) rfl
set_option maxRecDepth 100000 in
theorem kw_115 : (.fieldLink RX3 9 "JumpLengths$Program" "sorts" "[I" : Cond) ∈ jTb := jtb (i := 115) (by decide +kernel) rfl
set_option maxRecDepth 100000 in
theorem kw_119 : (.fieldLink RX3 15 "JumpLengths$Program" "values" "[I" : Cond) ∈ jTb := jtb (i := 119) (by decide +kernel) rfl
set_option maxRecDepth 100000 in
theorem kw_123 : (.fieldLink RX3 18 "JumpLengths$Program" "numbers" "[I" : Cond) ∈ jTb := jtb (i := 123) (by decide +kernel) rfl
set_option maxRecDepth 100000 in
theorem kw_126 : (.fieldLink RX3 21 "JumpLengths$Program" "targets" "[I" : Cond) ∈ jTb := jtb (i := 126) (by decide +kernel) rfl
set_option maxRecDepth 100000 in
theorem kw_128 : (.fieldLink RX3 24 "JumpLengths$Program" "labelItems" "[I" : Cond) ∈ jTb := jtb (i := 128) (by decide +kernel) rfl
set_option maxRecDepth 100000 in
theorem kw_130 : (.fieldLink RX3 27 "JumpLengths$Program" "jumpItems" "[I" : Cond) ∈ jTb := jtb (i := 130) (by decide +kernel) rfl
set_option maxRecDepth 100000 in
theorem kw_132 : (.fieldLink RX3 30 "JumpLengths$Program" "callItems" "[I" : Cond) ∈ jTb := jtb (i := 132) (by decide +kernel) rfl
set_option maxRecDepth 100000 in
theorem kw_134 : (.fieldLink RX3 33 "JumpLengths$Program" "spotItems" "[I" : Cond) ∈ jTb := jtb (i := 134) (by decide +kernel) rfl
set_option maxRecDepth 100000 in
theorem kw_136 : (.fieldLink RX3 36 "JumpLengths$Program" "items" "I" : Cond) ∈ jTb := jtb (i := 136) (by decide +kernel) rfl
set_option maxRecDepth 100000 in
theorem kw_140 : (.fieldLink RX3 40 "JumpLengths$Program" "ops" "I" : Cond) ∈ jTb := jtb (i := 140) (by decide +kernel) rfl
set_option maxRecDepth 100000 in
theorem kw_143 : (.fieldLink RX3 43 "JumpLengths$Program" "jumps" "I" : Cond) ∈ jTb := jtb (i := 143) (by decide +kernel) rfl
set_option maxRecDepth 100000 in
theorem kw_146 : (.fieldLink RX3 46 "JumpLengths$Program" "calls" "I" : Cond) ∈ jTb := jtb (i := 146) (by decide +kernel) rfl
set_option maxRecDepth 100000 in
theorem kw_149 : (.fieldLink RX3 49 "JumpLengths$Program" "spots" "I" : Cond) ∈ jTb := jtb (i := 149) (by decide +kernel) rfl
set_option maxRecDepth 100000 in
theorem kw_153 : (.fieldLink RX3 52 "JumpLengths$Program" "reach" "I" : Cond) ∈ jTb := jtb (i := 153) (by decide +kernel) rfl
set_option maxRecDepth 100000 in
theorem kw_185 : (.classLink RX7 26 RX0 : Cond) ∈ jTb := jtb (i := 185) (by decide +kernel) rfl
set_option maxRecDepth 100000 in
theorem kw_186 : (.instantiable RX0 3 : Cond) ∈ jTb := jtb (i := 186) (by decide +kernel) rfl
set_option maxRecDepth 100000 in
theorem kw_188 : (.instanceMethod yX0_init : Cond) ∈ jTb := jtb (i := 188) (by decide +kernel) rfl
set_option maxRecDepth 100000 in
theorem kw_189 : (.code yX0_init cX0_init 1 none : Cond) ∈ jTb := jtb (i := 189) (by decide +kernel) rfl
set_option maxRecDepth 100000 in
theorem kw_190 : (.methodLink RX0 1 Lib.objectInit : Cond) ∈ jTb := jtb (i := 190) (by decide +kernel) rfl
set_option maxRecDepth 100000 in
theorem kw_191 : (.classLink RX0 7 RX5 : Cond) ∈ jTb := jtb (i := 191) (by decide +kernel) rfl
set_option maxRecDepth 100000 in
theorem kw_192 : (.instantiable RX5 4 : Cond) ∈ jTb := jtb (i := 192) (by decide +kernel) rfl
set_option maxRecDepth 100000 in
theorem kw_194 : (.instanceMethod yX5_init : Cond) ∈ jTb := jtb (i := 194) (by decide +kernel) rfl
set_option maxRecDepth 100000 in
theorem kw_195 : (.code yX5_init cX5_init 1 none : Cond) ∈ jTb := jtb (i := 195) (by decide +kernel) rfl
set_option maxRecDepth 100000 in
theorem kw_196 : (.methodLink RX5 3 Lib.objectInit : Cond) ∈ jTb := jtb (i := 196) (by decide +kernel) rfl
set_option maxRecDepth 100000 in
theorem kw_197 : (.fieldLink RX5 9 "JumpLengths$Shape" "sizes" "[I" : Cond) ∈ jTb := jtb (i := 197) (by decide +kernel) rfl
set_option maxRecDepth 100000 in
theorem kw_202 : (.fieldLink RX5 15 "JumpLengths$Shape" "pins" "I" : Cond) ∈ jTb := jtb (i := 202) (by decide +kernel) rfl
set_option maxRecDepth 100000 in
theorem kw_207 : (.fieldLink RX5 19 "JumpLengths$Shape" "islands" "I" : Cond) ∈ jTb := jtb (i := 207) (by decide +kernel) rfl
set_option maxRecDepth 100000 in
theorem kw_211 : (.fieldLink RX5 22 "JumpLengths$Shape" "reach" "I" : Cond) ∈ jTb := jtb (i := 211) (by decide +kernel) rfl
set_option maxRecDepth 100000 in
theorem kw_222 : (.classLink RX0 16 RX2 : Cond) ∈ jTb := jtb (i := 222) (by decide +kernel) rfl
set_option maxRecDepth 100000 in
theorem kw_223 : (.instantiable RX2 4 : Cond) ∈ jTb := jtb (i := 223) (by decide +kernel) rfl
set_option maxRecDepth 100000 in
theorem kw_225 : (.instanceMethod yX2_init : Cond) ∈ jTb := jtb (i := 225) (by decide +kernel) rfl
set_option maxRecDepth 100000 in
theorem kw_226 : (.code yX2_init cX2_init 1 none : Cond) ∈ jTb := jtb (i := 226) (by decide +kernel) rfl
set_option maxRecDepth 100000 in
theorem kw_227 : (.methodLink RX2 3 Lib.objectInit : Cond) ∈ jTb := jtb (i := 227) (by decide +kernel) rfl
set_option maxRecDepth 100000 in
theorem kw_228 : (.fieldLink RX2 9 "JumpLengths$Past" "deeds" "[I" : Cond) ∈ jTb := jtb (i := 228) (by decide +kernel) rfl
set_option maxRecDepth 100000 in
theorem kw_229 : (.fieldLink RX2 15 "JumpLengths$Past" "wheres" "[I" : Cond) ∈ jTb := jtb (i := 229) (by decide +kernel) rfl
set_option maxRecDepth 100000 in
theorem kw_230 : (.fieldLink RX2 18 "JumpLengths$Past" "befores" "[I" : Cond) ∈ jTb := jtb (i := 230) (by decide +kernel) rfl
set_option maxRecDepth 100000 in
theorem kw_231 : (.fieldLink RX2 21 "JumpLengths$Past" "known" "I" : Cond) ∈ jTb := jtb (i := 231) (by decide +kernel) rfl
set_option maxRecDepth 100000 in
theorem kw_242 : (.fieldLink RX0 10 "JumpLengths$Image" "shape" "LJumpLengths$Shape;" : Cond) ∈ jTb := jtb (i := 242) (by decide +kernel) rfl
set_option maxRecDepth 100000 in
theorem kw_243 : (.fieldLink RX7 68 "JumpLengths$Image" "shape" "LJumpLengths$Shape;" : Cond) ∈ jTb := jtb (i := 243) (by decide +kernel) rfl
set_option maxRecDepth 100000 in
theorem kw_244 : (.fieldLink RX0 19 "JumpLengths$Image" "past" "LJumpLengths$Past;" : Cond) ∈ jTb := jtb (i := 244) (by decide +kernel) rfl
set_option maxRecDepth 100000 in
theorem kw_246 : (.fieldLink RX0 23 "JumpLengths$Image" "kept" "Z" : Cond) ∈ jTb := jtb (i := 246) (by decide +kernel) rfl
set_option maxRecDepth 100000 in
theorem kw_255 : (.classLink RX7 39 RX1 : Cond) ∈ jTb := jtb (i := 255) (by decide +kernel) rfl
set_option maxRecDepth 100000 in
theorem kw_256 : (.instantiable RX1 4 : Cond) ∈ jTb := jtb (i := 256) (by decide +kernel) rfl
set_option maxRecDepth 100000 in
theorem kw_257 : (.methodLink RX7 41 yX1_init : Cond) ∈ jTb := jtb (i := 257) (by decide +kernel) rfl
set_option maxRecDepth 100000 in
theorem kw_258 : (.instanceMethod yX1_init : Cond) ∈ jTb := jtb (i := 258) (by decide +kernel) rfl
set_option maxRecDepth 100000 in
theorem kw_259 : (.code yX1_init cX1_init 2 none : Cond) ∈ jTb := jtb (i := 259) (by decide +kernel) rfl
set_option maxRecDepth 100000 in
theorem kw_260 : (.methodLink RX1 3 Lib.objectInit : Cond) ∈ jTb := jtb (i := 260) (by decide +kernel) rfl
set_option maxRecDepth 100000 in
theorem kw_261 : (.fieldLink RX1 22 "JumpLengths$Layout" "program" "LJumpLengths$Program;" : Cond) ∈ jTb := jtb (i := 261) (by decide +kernel) rfl
set_option maxRecDepth 100000 in
theorem kw_262 : (.fieldLink RX1 9 "JumpLengths$Layout" "at" "[I" : Cond) ∈ jTb := jtb (i := 262) (by decide +kernel) rfl
set_option maxRecDepth 100000 in
theorem kw_264 : (.fieldLink RX1 15 "JumpLengths$Layout" "longs" "I" : Cond) ∈ jTb := jtb (i := 264) (by decide +kernel) rfl
set_option maxRecDepth 100000 in
theorem kw_267 : (.fieldLink RX1 19 "JumpLengths$Layout" "rounds" "I" : Cond) ∈ jTb := jtb (i := 267) (by decide +kernel) rfl
set_option maxRecDepth 100000 in
theorem kw_278 : (.classLink RX7 54 RX4 : Cond) ∈ jTb := jtb (i := 278) (by decide +kernel) rfl
set_option maxRecDepth 100000 in
theorem kw_279 : (.instantiable RX4 5 : Cond) ∈ jTb := jtb (i := 279) (by decide +kernel) rfl
set_option maxRecDepth 100000 in
theorem kw_280 : (.methodLink RX7 56 yX4_init : Cond) ∈ jTb := jtb (i := 280) (by decide +kernel) rfl
set_option maxRecDepth 100000 in
theorem kw_281 : (.instanceMethod yX4_init : Cond) ∈ jTb := jtb (i := 281) (by decide +kernel) rfl
set_option maxRecDepth 100000 in
theorem kw_282 : (.code yX4_init cX4_init 2 none : Cond) ∈ jTb := jtb (i := 282) (by decide +kernel) rfl
set_option maxRecDepth 100000 in
theorem kw_283 : (.methodLink RX4 3 Lib.objectInit : Cond) ∈ jTb := jtb (i := 283) (by decide +kernel) rfl
set_option maxRecDepth 100000 in
theorem kw_284 : (.classLink RX4 9 RX5 : Cond) ∈ jTb := jtb (i := 284) (by decide +kernel) rfl
set_option maxRecDepth 100000 in
theorem kw_286 : (.classLink RX4 30 RX1 : Cond) ∈ jTb := jtb (i := 286) (by decide +kernel) rfl
set_option maxRecDepth 100000 in
theorem kw_287 : (.methodLink RX4 32 yX1_init : Cond) ∈ jTb := jtb (i := 287) (by decide +kernel) rfl
set_option maxRecDepth 100000 in
theorem kw_288 : (.fieldLink RX4 26 "JumpLengths$Search" "program" "LJumpLengths$Program;" : Cond) ∈ jTb := jtb (i := 288) (by decide +kernel) rfl
set_option maxRecDepth 100000 in
theorem kw_289 : (.fieldLink RX4 12 "JumpLengths$Search" "tried" "LJumpLengths$Shape;" : Cond) ∈ jTb := jtb (i := 289) (by decide +kernel) rfl
set_option maxRecDepth 100000 in
theorem kw_290 : (.fieldLink RX4 35 "JumpLengths$Search" "layout" "LJumpLengths$Layout;" : Cond) ∈ jTb := jtb (i := 290) (by decide +kernel) rfl
set_option maxRecDepth 100000 in
theorem kw_291 : (.fieldLink RX4 18 "JumpLengths$Search" "firstOps" "[I" : Cond) ∈ jTb := jtb (i := 291) (by decide +kernel) rfl
set_option maxRecDepth 100000 in
theorem kw_292 : (.fieldLink RX4 22 "JumpLengths$Search" "laidFor" "I" : Cond) ∈ jTb := jtb (i := 292) (by decide +kernel) rfl
set_option maxRecDepth 100000 in
theorem kw_311 : (.fieldLink RX7 12 "JumpLengths" "text" "LJumpLengths$Tokens;" : Cond) ∈ jTb := jtb (i := 311) (by decide +kernel) rfl
set_option maxRecDepth 100000 in
theorem kw_312 : (.fieldLink RX7 19 "JumpLengths" "draft" "LJumpLengths$Program;" : Cond) ∈ jTb := jtb (i := 312) (by decide +kernel) rfl
set_option maxRecDepth 100000 in
theorem kw_313 : (.fieldLink RX7 23 "JumpLengths" "program" "LJumpLengths$Program;" : Cond) ∈ jTb := jtb (i := 313) (by decide +kernel) rfl
set_option maxRecDepth 100000 in
theorem kw_314 : (.fieldLink RX7 29 "JumpLengths" "now" "LJumpLengths$Image;" : Cond) ∈ jTb := jtb (i := 314) (by decide +kernel) rfl
set_option maxRecDepth 100000 in
theorem kw_315 : (.fieldLink RX7 33 "JumpLengths" "firstImage" "LJumpLengths$Image;" : Cond) ∈ jTb := jtb (i := 315) (by decide +kernel) rfl
set_option maxRecDepth 100000 in
theorem kw_316 : (.fieldLink RX7 36 "JumpLengths" "secondImage" "LJumpLengths$Image;" : Cond) ∈ jTb := jtb (i := 316) (by decide +kernel) rfl
set_option maxRecDepth 100000 in
theorem kw_317 : (.fieldLink RX7 44 "JumpLengths" "grown" "LJumpLengths$Layout;" : Cond) ∈ jTb := jtb (i := 317) (by decide +kernel) rfl
set_option maxRecDepth 100000 in
theorem kw_318 : (.fieldLink RX7 48 "JumpLengths" "shrunk" "LJumpLengths$Layout;" : Cond) ∈ jTb := jtb (i := 318) (by decide +kernel) rfl
set_option maxRecDepth 100000 in
theorem kw_319 : (.fieldLink RX7 51 "JumpLengths" "least" "LJumpLengths$Layout;" : Cond) ∈ jTb := jtb (i := 319) (by decide +kernel) rfl
set_option maxRecDepth 100000 in
theorem kw_320 : (.fieldLink RX7 57 "JumpLengths" "search" "LJumpLengths$Search;" : Cond) ∈ jTb := jtb (i := 320) (by decide +kernel) rfl
set_option maxRecDepth 100000 in
theorem kw_321 : (.fieldLink RX7 61 "JumpLengths" "fewestFound" "I" : Cond) ∈ jTb := jtb (i := 321) (by decide +kernel) rfl
set_option maxRecDepth 100000 in
theorem kw_322 : (.fieldLink RX7 65 "JumpLengths" "found" "I" : Cond) ∈ jTb := jtb (i := 322) (by decide +kernel) rfl
set_option maxRecDepth 100000 in
theorem kw_720 : (.instantiable RX8 33 : Cond) ∈ jTb := jtb (i := 720) (by decide +kernel) rfl
set_option maxRecDepth 100000 in
theorem kw_724 : (.methodLink RX8 1 Lib.objectInit : Cond) ∈ jTb := jtb (i := 724) (by decide +kernel) rfl
set_option maxRecDepth 100000 in
theorem kw_726 : (.fieldLink RX8 7 "JumpLengthsModel" "text" "[I" : Cond) ∈ jTb := jtb (i := 726) (by decide +kernel) rfl
set_option maxRecDepth 100000 in
theorem kw_733 : (.fieldLink RX8 13 "JumpLengthsModel" "reach" "I" : Cond) ∈ jTb := jtb (i := 733) (by decide +kernel) rfl
set_option maxRecDepth 100000 in
theorem kw_734 : (.fieldLink RX8 17 "JumpLengthsModel" "sort" "[I" : Cond) ∈ jTb := jtb (i := 734) (by decide +kernel) rfl
set_option maxRecDepth 100000 in
theorem kw_735 : (.fieldLink RX8 20 "JumpLengthsModel" "now" "[I" : Cond) ∈ jTb := jtb (i := 735) (by decide +kernel) rfl
set_option maxRecDepth 100000 in
theorem kw_736 : (.fieldLink RX8 23 "JumpLengthsModel" "jump" "[I" : Cond) ∈ jTb := jtb (i := 736) (by decide +kernel) rfl
set_option maxRecDepth 100000 in
theorem kw_738 : (.fieldLink RX8 26 "JumpLengthsModel" "call" "[I" : Cond) ∈ jTb := jtb (i := 738) (by decide +kernel) rfl
set_option maxRecDepth 100000 in
theorem kw_740 : (.fieldLink RX8 29 "JumpLengthsModel" "spot" "[I" : Cond) ∈ jTb := jtb (i := 740) (by decide +kernel) rfl
set_option maxRecDepth 100000 in
theorem kw_742 : (.fieldLink RX8 32 "JumpLengthsModel" "label" "[I" : Cond) ∈ jTb := jtb (i := 742) (by decide +kernel) rfl
set_option maxRecDepth 100000 in
theorem kw_744 : (.fieldLink RX8 35 "JumpLengthsModel" "was" "[I" : Cond) ∈ jTb := jtb (i := 744) (by decide +kernel) rfl
set_option maxRecDepth 100000 in
theorem kw_746 : (.fieldLink RX8 38 "JumpLengthsModel" "isKept" "[Z" : Cond) ∈ jTb := jtb (i := 746) (by decide +kernel) rfl
set_option maxRecDepth 100000 in
theorem kw_747 : (.fieldLink RX8 42 "JumpLengthsModel" "kept" "[I" : Cond) ∈ jTb := jtb (i := 747) (by decide +kernel) rfl
set_option maxRecDepth 100000 in
theorem kw_748 : (.fieldLink RX8 45 "JumpLengthsModel" "keptWas" "[I" : Cond) ∈ jTb := jtb (i := 748) (by decide +kernel) rfl
set_option maxRecDepth 100000 in
theorem kw_749 : (.fieldLink RX8 48 "JumpLengthsModel" "keptActs" "[I" : Cond) ∈ jTb := jtb (i := 749) (by decide +kernel) rfl
set_option maxRecDepth 100000 in
theorem kw_750 : (.fieldLink RX8 51 "JumpLengthsModel" "newSort" "[I" : Cond) ∈ jTb := jtb (i := 750) (by decide +kernel) rfl
set_option maxRecDepth 100000 in
theorem kw_751 : (.fieldLink RX8 54 "JumpLengthsModel" "newNumber" "[I" : Cond) ∈ jTb := jtb (i := 751) (by decide +kernel) rfl
set_option maxRecDepth 100000 in
theorem kw_754 : (.fieldLink RX8 57 "JumpLengthsModel" "at" "[I" : Cond) ∈ jTb := jtb (i := 754) (by decide +kernel) rfl
set_option maxRecDepth 100000 in
theorem kw_757 : (.fieldLink RX8 60 "JumpLengthsModel" "others" "[I" : Cond) ∈ jTb := jtb (i := 757) (by decide +kernel) rfl
set_option maxRecDepth 100000 in
theorem kcf_0 : kCf 0 RX0 TX0 3 := ⟨rfl, tyX0, jcw_0, tyX0_ok, kw_186, kw_57, by decide +kernel⟩
set_option maxRecDepth 100000 in
theorem kcf_1 : kCf 1 RX1 TX1 4 := ⟨rfl, tyX1, jcw_1, tyX1_ok, kw_256, kw_60, by decide +kernel⟩
set_option maxRecDepth 100000 in
theorem kcf_2 : kCf 2 RX2 TX2 4 := ⟨rfl, tyX2, jcw_2, tyX2_ok, kw_223, kw_59, by decide +kernel⟩
set_option maxRecDepth 100000 in
theorem kcf_3 : kCf 3 RX3 TX3 14 := ⟨rfl, tyX3, jcw_3, tyX3_ok, kw_106, kw_56, by decide +kernel⟩
set_option maxRecDepth 100000 in
theorem kcf_4 : kCf 4 RX4 TX4 5 := ⟨rfl, tyX4, jcw_4, tyX4_ok, kw_279, kw_61, by decide +kernel⟩
set_option maxRecDepth 100000 in
theorem kcf_5 : kCf 5 RX5 TX5 4 := ⟨rfl, tyX5, jcw_5, tyX5_ok, kw_192, kw_58, by decide +kernel⟩
set_option maxRecDepth 100000 in
theorem kcf_6 : kCf 6 RX6 TX6 6 := ⟨rfl, tyX6, jcw_6, tyX6_ok, kw_75, kw_55, by decide +kernel⟩
set_option maxRecDepth 100000 in
theorem kcf_7 : kCf 7 RX7 TX7 12 := ⟨rfl, tyX7, jcw_7, tyX7_ok, kw_67, kw_54, by decide +kernel⟩
set_option maxRecDepth 100000 in
theorem kcf_8 : kCf 8 RX8 TX8 33 := ⟨rfl, tyX8, jcw_8, tyX8_ok, kw_720, kw_63, by decide +kernel⟩
theorem kd_X0_init_0 : decode cX0_init 0 = .ok (.aload_n 0, 1) := by decide +kernel
theorem kd_X0_init_1 : decode cX0_init 1 = .ok (.invokespecial 1, 3) := by decide +kernel
theorem kd_X0_init_4 : decode cX0_init 4 = .ok (.aload_n 0, 1) := by decide +kernel
theorem kd_X0_init_5 : decode cX0_init 5 = .ok (.new 7, 3) := by decide +kernel
theorem kd_X0_init_8 : decode cX0_init 8 = .ok (.dup, 1) := by decide +kernel
theorem kd_X0_init_9 : decode cX0_init 9 = .ok (.invokespecial 9, 3) := by decide +kernel
theorem kd_X0_init_12 : decode cX0_init 12 = .ok (.putfield 10, 3) := by decide +kernel
theorem kd_X0_init_15 : decode cX0_init 15 = .ok (.aload_n 0, 1) := by decide +kernel
theorem kd_X0_init_16 : decode cX0_init 16 = .ok (.new 16, 3) := by decide +kernel
theorem kd_X0_init_19 : decode cX0_init 19 = .ok (.dup, 1) := by decide +kernel
theorem kd_X0_init_20 : decode cX0_init 20 = .ok (.invokespecial 18, 3) := by decide +kernel
theorem kd_X0_init_23 : decode cX0_init 23 = .ok (.putfield 19, 3) := by decide +kernel
theorem kd_X0_init_26 : decode cX0_init 26 = .ok (.aload_n 0, 1) := by decide +kernel
theorem kd_X0_init_27 : decode cX0_init 27 = .ok (.iconst 0, 1) := by decide +kernel
theorem kd_X0_init_28 : decode cX0_init 28 = .ok (.putfield 23, 3) := by decide +kernel
theorem kd_X0_init_31 : decode cX0_init 31 = .ok (.return_, 1) := by decide +kernel
theorem kd_X1_init_0 : decode cX1_init 0 = .ok (.aload_n 0, 1) := by decide +kernel
theorem kd_X1_init_1 : decode cX1_init 1 = .ok (.invokespecial 3, 3) := by decide +kernel
theorem kd_X1_init_4 : decode cX1_init 4 = .ok (.aload_n 0, 1) := by decide +kernel
theorem kd_X1_init_5 : decode cX1_init 5 = .ok (.bipush 33, 2) := by decide +kernel
theorem kd_X1_init_7 : decode cX1_init 7 = .ok (.newarray .int, 2) := by decide +kernel
theorem kd_X1_init_9 : decode cX1_init 9 = .ok (.putfield 9, 3) := by decide +kernel
theorem kd_X1_init_12 : decode cX1_init 12 = .ok (.aload_n 0, 1) := by decide +kernel
theorem kd_X1_init_13 : decode cX1_init 13 = .ok (.iconst 0, 1) := by decide +kernel
theorem kd_X1_init_14 : decode cX1_init 14 = .ok (.putfield 15, 3) := by decide +kernel
theorem kd_X1_init_17 : decode cX1_init 17 = .ok (.aload_n 0, 1) := by decide +kernel
theorem kd_X1_init_18 : decode cX1_init 18 = .ok (.iconst 0, 1) := by decide +kernel
theorem kd_X1_init_19 : decode cX1_init 19 = .ok (.putfield 19, 3) := by decide +kernel
theorem kd_X1_init_22 : decode cX1_init 22 = .ok (.aload_n 0, 1) := by decide +kernel
theorem kd_X1_init_23 : decode cX1_init 23 = .ok (.aload_n 1, 1) := by decide +kernel
theorem kd_X1_init_24 : decode cX1_init 24 = .ok (.putfield 22, 3) := by decide +kernel
theorem kd_X1_init_27 : decode cX1_init 27 = .ok (.return_, 1) := by decide +kernel
theorem kd_X2_init_0 : decode cX2_init 0 = .ok (.aload_n 0, 1) := by decide +kernel
theorem kd_X2_init_1 : decode cX2_init 1 = .ok (.invokespecial 3, 3) := by decide +kernel
theorem kd_X2_init_4 : decode cX2_init 4 = .ok (.aload_n 0, 1) := by decide +kernel
theorem kd_X2_init_5 : decode cX2_init 5 = .ok (.bipush 10, 2) := by decide +kernel
theorem kd_X2_init_7 : decode cX2_init 7 = .ok (.newarray .int, 2) := by decide +kernel
theorem kd_X2_init_9 : decode cX2_init 9 = .ok (.putfield 9, 3) := by decide +kernel
theorem kd_X2_init_12 : decode cX2_init 12 = .ok (.aload_n 0, 1) := by decide +kernel
theorem kd_X2_init_13 : decode cX2_init 13 = .ok (.bipush 10, 2) := by decide +kernel
theorem kd_X2_init_15 : decode cX2_init 15 = .ok (.newarray .int, 2) := by decide +kernel
theorem kd_X2_init_17 : decode cX2_init 17 = .ok (.putfield 15, 3) := by decide +kernel
theorem kd_X2_init_20 : decode cX2_init 20 = .ok (.aload_n 0, 1) := by decide +kernel
theorem kd_X2_init_21 : decode cX2_init 21 = .ok (.bipush 10, 2) := by decide +kernel
theorem kd_X2_init_23 : decode cX2_init 23 = .ok (.newarray .int, 2) := by decide +kernel
theorem kd_X2_init_25 : decode cX2_init 25 = .ok (.putfield 18, 3) := by decide +kernel
theorem kd_X2_init_28 : decode cX2_init 28 = .ok (.aload_n 0, 1) := by decide +kernel
theorem kd_X2_init_29 : decode cX2_init 29 = .ok (.iconst 0, 1) := by decide +kernel
theorem kd_X2_init_30 : decode cX2_init 30 = .ok (.putfield 21, 3) := by decide +kernel
theorem kd_X2_init_33 : decode cX2_init 33 = .ok (.return_, 1) := by decide +kernel
theorem kd_X3_init_0 : decode cX3_init 0 = .ok (.aload_n 0, 1) := by decide +kernel
theorem kd_X3_init_1 : decode cX3_init 1 = .ok (.invokespecial 3, 3) := by decide +kernel
theorem kd_X3_init_4 : decode cX3_init 4 = .ok (.aload_n 0, 1) := by decide +kernel
theorem kd_X3_init_5 : decode cX3_init 5 = .ok (.bipush 32, 2) := by decide +kernel
theorem kd_X3_init_7 : decode cX3_init 7 = .ok (.newarray .int, 2) := by decide +kernel
theorem kd_X3_init_9 : decode cX3_init 9 = .ok (.putfield 9, 3) := by decide +kernel
theorem kd_X3_init_12 : decode cX3_init 12 = .ok (.aload_n 0, 1) := by decide +kernel
theorem kd_X3_init_13 : decode cX3_init 13 = .ok (.bipush 32, 2) := by decide +kernel
theorem kd_X3_init_15 : decode cX3_init 15 = .ok (.newarray .int, 2) := by decide +kernel
theorem kd_X3_init_17 : decode cX3_init 17 = .ok (.putfield 15, 3) := by decide +kernel
theorem kd_X3_init_20 : decode cX3_init 20 = .ok (.aload_n 0, 1) := by decide +kernel
theorem kd_X3_init_21 : decode cX3_init 21 = .ok (.bipush 32, 2) := by decide +kernel
theorem kd_X3_init_23 : decode cX3_init 23 = .ok (.newarray .int, 2) := by decide +kernel
theorem kd_X3_init_25 : decode cX3_init 25 = .ok (.putfield 18, 3) := by decide +kernel
theorem kd_X3_init_28 : decode cX3_init 28 = .ok (.aload_n 0, 1) := by decide +kernel
theorem kd_X3_init_29 : decode cX3_init 29 = .ok (.bipush 32, 2) := by decide +kernel
theorem kd_X3_init_31 : decode cX3_init 31 = .ok (.newarray .int, 2) := by decide +kernel
theorem kd_X3_init_33 : decode cX3_init 33 = .ok (.putfield 21, 3) := by decide +kernel
theorem kd_X3_init_36 : decode cX3_init 36 = .ok (.aload_n 0, 1) := by decide +kernel
theorem kd_X3_init_37 : decode cX3_init 37 = .ok (.bipush 8, 2) := by decide +kernel
theorem kd_X3_init_39 : decode cX3_init 39 = .ok (.newarray .int, 2) := by decide +kernel
theorem kd_X3_init_41 : decode cX3_init 41 = .ok (.putfield 24, 3) := by decide +kernel
theorem kd_X3_init_44 : decode cX3_init 44 = .ok (.aload_n 0, 1) := by decide +kernel
theorem kd_X3_init_45 : decode cX3_init 45 = .ok (.bipush 10, 2) := by decide +kernel
theorem kd_X3_init_47 : decode cX3_init 47 = .ok (.newarray .int, 2) := by decide +kernel
theorem kd_X3_init_49 : decode cX3_init 49 = .ok (.putfield 27, 3) := by decide +kernel
theorem kd_X3_init_52 : decode cX3_init 52 = .ok (.aload_n 0, 1) := by decide +kernel
theorem kd_X3_init_53 : decode cX3_init 53 = .ok (.bipush 6, 2) := by decide +kernel
theorem kd_X3_init_55 : decode cX3_init 55 = .ok (.newarray .int, 2) := by decide +kernel
theorem kd_X3_init_57 : decode cX3_init 57 = .ok (.putfield 30, 3) := by decide +kernel
theorem kd_X3_init_60 : decode cX3_init 60 = .ok (.aload_n 0, 1) := by decide +kernel
theorem kd_X3_init_61 : decode cX3_init 61 = .ok (.iconst 3, 1) := by decide +kernel
theorem kd_X3_init_62 : decode cX3_init 62 = .ok (.newarray .int, 2) := by decide +kernel
theorem kd_X3_init_64 : decode cX3_init 64 = .ok (.putfield 33, 3) := by decide +kernel
theorem kd_X3_init_67 : decode cX3_init 67 = .ok (.aload_n 0, 1) := by decide +kernel
theorem kd_X3_init_68 : decode cX3_init 68 = .ok (.iconst 0, 1) := by decide +kernel
theorem kd_X3_init_69 : decode cX3_init 69 = .ok (.putfield 36, 3) := by decide +kernel
theorem kd_X3_init_72 : decode cX3_init 72 = .ok (.aload_n 0, 1) := by decide +kernel
theorem kd_X3_init_73 : decode cX3_init 73 = .ok (.iconst 0, 1) := by decide +kernel
theorem kd_X3_init_74 : decode cX3_init 74 = .ok (.putfield 40, 3) := by decide +kernel
theorem kd_X3_init_77 : decode cX3_init 77 = .ok (.aload_n 0, 1) := by decide +kernel
theorem kd_X3_init_78 : decode cX3_init 78 = .ok (.iconst 0, 1) := by decide +kernel
theorem kd_X3_init_79 : decode cX3_init 79 = .ok (.putfield 43, 3) := by decide +kernel
theorem kd_X3_init_82 : decode cX3_init 82 = .ok (.aload_n 0, 1) := by decide +kernel
theorem kd_X3_init_83 : decode cX3_init 83 = .ok (.iconst 0, 1) := by decide +kernel
theorem kd_X3_init_84 : decode cX3_init 84 = .ok (.putfield 46, 3) := by decide +kernel
theorem kd_X3_init_87 : decode cX3_init 87 = .ok (.aload_n 0, 1) := by decide +kernel
theorem kd_X3_init_88 : decode cX3_init 88 = .ok (.iconst 0, 1) := by decide +kernel
theorem kd_X3_init_89 : decode cX3_init 89 = .ok (.putfield 49, 3) := by decide +kernel
theorem kd_X3_init_92 : decode cX3_init 92 = .ok (.aload_n 0, 1) := by decide +kernel
theorem kd_X3_init_93 : decode cX3_init 93 = .ok (.bipush 20, 2) := by decide +kernel
theorem kd_X3_init_95 : decode cX3_init 95 = .ok (.putfield 52, 3) := by decide +kernel
theorem kd_X3_init_98 : decode cX3_init 98 = .ok (.aload_n 0, 1) := by decide +kernel
theorem kd_X3_init_99 : decode cX3_init 99 = .ok (.invokevirtual 55, 3) := by decide +kernel
theorem kd_X3_init_102 : decode cX3_init 102 = .ok (.return_, 1) := by decide +kernel
theorem kd_X4_init_0 : decode cX4_init 0 = .ok (.aload_n 0, 1) := by decide +kernel
theorem kd_X4_init_1 : decode cX4_init 1 = .ok (.invokespecial 3, 3) := by decide +kernel
theorem kd_X4_init_4 : decode cX4_init 4 = .ok (.aload_n 0, 1) := by decide +kernel
theorem kd_X4_init_5 : decode cX4_init 5 = .ok (.new 9, 3) := by decide +kernel
theorem kd_X4_init_8 : decode cX4_init 8 = .ok (.dup, 1) := by decide +kernel
theorem kd_X4_init_9 : decode cX4_init 9 = .ok (.invokespecial 11, 3) := by decide +kernel
theorem kd_X4_init_12 : decode cX4_init 12 = .ok (.putfield 12, 3) := by decide +kernel
theorem kd_X4_init_15 : decode cX4_init 15 = .ok (.aload_n 0, 1) := by decide +kernel
theorem kd_X4_init_16 : decode cX4_init 16 = .ok (.bipush 6, 2) := by decide +kernel
theorem kd_X4_init_18 : decode cX4_init 18 = .ok (.newarray .int, 2) := by decide +kernel
theorem kd_X4_init_20 : decode cX4_init 20 = .ok (.putfield 18, 3) := by decide +kernel
theorem kd_X4_init_23 : decode cX4_init 23 = .ok (.aload_n 0, 1) := by decide +kernel
theorem kd_X4_init_24 : decode cX4_init 24 = .ok (.iconst (-1), 1) := by decide +kernel
theorem kd_X4_init_25 : decode cX4_init 25 = .ok (.putfield 22, 3) := by decide +kernel
theorem kd_X4_init_28 : decode cX4_init 28 = .ok (.aload_n 0, 1) := by decide +kernel
theorem kd_X4_init_29 : decode cX4_init 29 = .ok (.aload_n 1, 1) := by decide +kernel
theorem kd_X4_init_30 : decode cX4_init 30 = .ok (.putfield 26, 3) := by decide +kernel
theorem kd_X4_init_33 : decode cX4_init 33 = .ok (.aload_n 0, 1) := by decide +kernel
theorem kd_X4_init_34 : decode cX4_init 34 = .ok (.new 30, 3) := by decide +kernel
theorem kd_X4_init_37 : decode cX4_init 37 = .ok (.dup, 1) := by decide +kernel
theorem kd_X4_init_38 : decode cX4_init 38 = .ok (.aload_n 1, 1) := by decide +kernel
theorem kd_X4_init_39 : decode cX4_init 39 = .ok (.invokespecial 32, 3) := by decide +kernel
theorem kd_X4_init_42 : decode cX4_init 42 = .ok (.putfield 35, 3) := by decide +kernel
theorem kd_X4_init_45 : decode cX4_init 45 = .ok (.return_, 1) := by decide +kernel
theorem kd_X5_init_0 : decode cX5_init 0 = .ok (.aload_n 0, 1) := by decide +kernel
theorem kd_X5_init_1 : decode cX5_init 1 = .ok (.invokespecial 3, 3) := by decide +kernel
theorem kd_X5_init_4 : decode cX5_init 4 = .ok (.aload_n 0, 1) := by decide +kernel
theorem kd_X5_init_5 : decode cX5_init 5 = .ok (.bipush 32, 2) := by decide +kernel
theorem kd_X5_init_7 : decode cX5_init 7 = .ok (.newarray .int, 2) := by decide +kernel
theorem kd_X5_init_9 : decode cX5_init 9 = .ok (.putfield 9, 3) := by decide +kernel
theorem kd_X5_init_12 : decode cX5_init 12 = .ok (.aload_n 0, 1) := by decide +kernel
theorem kd_X5_init_13 : decode cX5_init 13 = .ok (.iconst 0, 1) := by decide +kernel
theorem kd_X5_init_14 : decode cX5_init 14 = .ok (.putfield 15, 3) := by decide +kernel
theorem kd_X5_init_17 : decode cX5_init 17 = .ok (.aload_n 0, 1) := by decide +kernel
theorem kd_X5_init_18 : decode cX5_init 18 = .ok (.iconst 0, 1) := by decide +kernel
theorem kd_X5_init_19 : decode cX5_init 19 = .ok (.putfield 19, 3) := by decide +kernel
theorem kd_X5_init_22 : decode cX5_init 22 = .ok (.aload_n 0, 1) := by decide +kernel
theorem kd_X5_init_23 : decode cX5_init 23 = .ok (.bipush 20, 2) := by decide +kernel
theorem kd_X5_init_25 : decode cX5_init 25 = .ok (.putfield 22, 3) := by decide +kernel
theorem kd_X5_init_28 : decode cX5_init 28 = .ok (.return_, 1) := by decide +kernel
theorem kd_X6_init_0 : decode cX6_init 0 = .ok (.aload_n 0, 1) := by decide +kernel
theorem kd_X6_init_1 : decode cX6_init 1 = .ok (.invokespecial 3, 3) := by decide +kernel
theorem kd_X6_init_4 : decode cX6_init 4 = .ok (.aload_n 0, 1) := by decide +kernel
theorem kd_X6_init_5 : decode cX6_init 5 = .ok (.sipush 150, 3) := by decide +kernel
theorem kd_X6_init_8 : decode cX6_init 8 = .ok (.newarray .int, 2) := by decide +kernel
theorem kd_X6_init_10 : decode cX6_init 10 = .ok (.putfield 9, 3) := by decide +kernel
theorem kd_X6_init_13 : decode cX6_init 13 = .ok (.aload_n 0, 1) := by decide +kernel
theorem kd_X6_init_14 : decode cX6_init 14 = .ok (.iconst 0, 1) := by decide +kernel
theorem kd_X6_init_15 : decode cX6_init 15 = .ok (.putfield 15, 3) := by decide +kernel
theorem kd_X6_init_18 : decode cX6_init 18 = .ok (.aload_n 0, 1) := by decide +kernel
theorem kd_X6_init_19 : decode cX6_init 19 = .ok (.iconst 0, 1) := by decide +kernel
theorem kd_X6_init_20 : decode cX6_init 20 = .ok (.putfield 19, 3) := by decide +kernel
theorem kd_X6_init_23 : decode cX6_init 23 = .ok (.aload_n 0, 1) := by decide +kernel
theorem kd_X6_init_24 : decode cX6_init 24 = .ok (.iconst 0, 1) := by decide +kernel
theorem kd_X6_init_25 : decode cX6_init 25 = .ok (.putfield 22, 3) := by decide +kernel
theorem kd_X6_init_28 : decode cX6_init 28 = .ok (.aload_n 0, 1) := by decide +kernel
theorem kd_X6_init_29 : decode cX6_init 29 = .ok (.iconst 0, 1) := by decide +kernel
theorem kd_X6_init_30 : decode cX6_init 30 = .ok (.putfield 25, 3) := by decide +kernel
theorem kd_X6_init_33 : decode cX6_init 33 = .ok (.aload_n 0, 1) := by decide +kernel
theorem kd_X6_init_34 : decode cX6_init 34 = .ok (.iconst 0, 1) := by decide +kernel
theorem kd_X6_init_35 : decode cX6_init 35 = .ok (.putfield 28, 3) := by decide +kernel
theorem kd_X6_init_38 : decode cX6_init 38 = .ok (.return_, 1) := by decide +kernel
theorem kd_X7_init_0 : decode cX7_init 0 = .ok (.aload_n 0, 1) := by decide +kernel
theorem kd_X7_init_1 : decode cX7_init 1 = .ok (.invokespecial 3, 3) := by decide +kernel
theorem kd_X7_init_4 : decode cX7_init 4 = .ok (.aload_n 0, 1) := by decide +kernel
theorem kd_X7_init_5 : decode cX7_init 5 = .ok (.new 9, 3) := by decide +kernel
theorem kd_X7_init_8 : decode cX7_init 8 = .ok (.dup, 1) := by decide +kernel
theorem kd_X7_init_9 : decode cX7_init 9 = .ok (.invokespecial 11, 3) := by decide +kernel
theorem kd_X7_init_12 : decode cX7_init 12 = .ok (.putfield 12, 3) := by decide +kernel
theorem kd_X7_init_15 : decode cX7_init 15 = .ok (.aload_n 0, 1) := by decide +kernel
theorem kd_X7_init_16 : decode cX7_init 16 = .ok (.new 16, 3) := by decide +kernel
theorem kd_X7_init_19 : decode cX7_init 19 = .ok (.dup, 1) := by decide +kernel
theorem kd_X7_init_20 : decode cX7_init 20 = .ok (.invokespecial 18, 3) := by decide +kernel
theorem kd_X7_init_23 : decode cX7_init 23 = .ok (.putfield 19, 3) := by decide +kernel
theorem kd_X7_init_26 : decode cX7_init 26 = .ok (.aload_n 0, 1) := by decide +kernel
theorem kd_X7_init_27 : decode cX7_init 27 = .ok (.new 16, 3) := by decide +kernel
theorem kd_X7_init_30 : decode cX7_init 30 = .ok (.dup, 1) := by decide +kernel
theorem kd_X7_init_31 : decode cX7_init 31 = .ok (.invokespecial 18, 3) := by decide +kernel
theorem kd_X7_init_34 : decode cX7_init 34 = .ok (.putfield 23, 3) := by decide +kernel
theorem kd_X7_init_37 : decode cX7_init 37 = .ok (.aload_n 0, 1) := by decide +kernel
theorem kd_X7_init_38 : decode cX7_init 38 = .ok (.new 26, 3) := by decide +kernel
theorem kd_X7_init_41 : decode cX7_init 41 = .ok (.dup, 1) := by decide +kernel
theorem kd_X7_init_42 : decode cX7_init 42 = .ok (.invokespecial 28, 3) := by decide +kernel
theorem kd_X7_init_45 : decode cX7_init 45 = .ok (.putfield 29, 3) := by decide +kernel
theorem kd_X7_init_48 : decode cX7_init 48 = .ok (.aload_n 0, 1) := by decide +kernel
theorem kd_X7_init_49 : decode cX7_init 49 = .ok (.new 26, 3) := by decide +kernel
theorem kd_X7_init_52 : decode cX7_init 52 = .ok (.dup, 1) := by decide +kernel
theorem kd_X7_init_53 : decode cX7_init 53 = .ok (.invokespecial 28, 3) := by decide +kernel
theorem kd_X7_init_56 : decode cX7_init 56 = .ok (.putfield 33, 3) := by decide +kernel
theorem kd_X7_init_59 : decode cX7_init 59 = .ok (.aload_n 0, 1) := by decide +kernel
theorem kd_X7_init_60 : decode cX7_init 60 = .ok (.new 26, 3) := by decide +kernel
theorem kd_X7_init_63 : decode cX7_init 63 = .ok (.dup, 1) := by decide +kernel
theorem kd_X7_init_64 : decode cX7_init 64 = .ok (.invokespecial 28, 3) := by decide +kernel
theorem kd_X7_init_67 : decode cX7_init 67 = .ok (.putfield 36, 3) := by decide +kernel
theorem kd_X7_init_70 : decode cX7_init 70 = .ok (.aload_n 0, 1) := by decide +kernel
theorem kd_X7_init_71 : decode cX7_init 71 = .ok (.new 39, 3) := by decide +kernel
theorem kd_X7_init_74 : decode cX7_init 74 = .ok (.dup, 1) := by decide +kernel
theorem kd_X7_init_75 : decode cX7_init 75 = .ok (.aload_n 0, 1) := by decide +kernel
theorem kd_X7_init_76 : decode cX7_init 76 = .ok (.getfield 23, 3) := by decide +kernel
theorem kd_X7_init_79 : decode cX7_init 79 = .ok (.invokespecial 41, 3) := by decide +kernel
theorem kd_X7_init_82 : decode cX7_init 82 = .ok (.putfield 44, 3) := by decide +kernel
theorem kd_X7_init_85 : decode cX7_init 85 = .ok (.aload_n 0, 1) := by decide +kernel
theorem kd_X7_init_86 : decode cX7_init 86 = .ok (.new 39, 3) := by decide +kernel
theorem kd_X7_init_89 : decode cX7_init 89 = .ok (.dup, 1) := by decide +kernel
theorem kd_X7_init_90 : decode cX7_init 90 = .ok (.aload_n 0, 1) := by decide +kernel
theorem kd_X7_init_91 : decode cX7_init 91 = .ok (.getfield 23, 3) := by decide +kernel
theorem kd_X7_init_94 : decode cX7_init 94 = .ok (.invokespecial 41, 3) := by decide +kernel
theorem kd_X7_init_97 : decode cX7_init 97 = .ok (.putfield 48, 3) := by decide +kernel
theorem kd_X7_init_100 : decode cX7_init 100 = .ok (.aload_n 0, 1) := by decide +kernel
theorem kd_X7_init_101 : decode cX7_init 101 = .ok (.new 39, 3) := by decide +kernel
theorem kd_X7_init_104 : decode cX7_init 104 = .ok (.dup, 1) := by decide +kernel
theorem kd_X7_init_105 : decode cX7_init 105 = .ok (.aload_n 0, 1) := by decide +kernel
theorem kd_X7_init_106 : decode cX7_init 106 = .ok (.getfield 23, 3) := by decide +kernel
theorem kd_X7_init_109 : decode cX7_init 109 = .ok (.invokespecial 41, 3) := by decide +kernel
theorem kd_X7_init_112 : decode cX7_init 112 = .ok (.putfield 51, 3) := by decide +kernel
theorem kd_X7_init_115 : decode cX7_init 115 = .ok (.aload_n 0, 1) := by decide +kernel
theorem kd_X7_init_116 : decode cX7_init 116 = .ok (.new 54, 3) := by decide +kernel
theorem kd_X7_init_119 : decode cX7_init 119 = .ok (.dup, 1) := by decide +kernel
theorem kd_X7_init_120 : decode cX7_init 120 = .ok (.aload_n 0, 1) := by decide +kernel
theorem kd_X7_init_121 : decode cX7_init 121 = .ok (.getfield 23, 3) := by decide +kernel
theorem kd_X7_init_124 : decode cX7_init 124 = .ok (.invokespecial 56, 3) := by decide +kernel
theorem kd_X7_init_127 : decode cX7_init 127 = .ok (.putfield 57, 3) := by decide +kernel
theorem kd_X7_init_130 : decode cX7_init 130 = .ok (.aload_n 0, 1) := by decide +kernel
theorem kd_X7_init_131 : decode cX7_init 131 = .ok (.bipush (-9), 2) := by decide +kernel
theorem kd_X7_init_133 : decode cX7_init 133 = .ok (.putfield 61, 3) := by decide +kernel
theorem kd_X7_init_136 : decode cX7_init 136 = .ok (.aload_n 0, 1) := by decide +kernel
theorem kd_X7_init_137 : decode cX7_init 137 = .ok (.iconst 0, 1) := by decide +kernel
theorem kd_X7_init_138 : decode cX7_init 138 = .ok (.putfield 65, 3) := by decide +kernel
theorem kd_X7_init_141 : decode cX7_init 141 = .ok (.aload_n 0, 1) := by decide +kernel
theorem kd_X7_init_142 : decode cX7_init 142 = .ok (.getfield 29, 3) := by decide +kernel
theorem kd_X7_init_145 : decode cX7_init 145 = .ok (.getfield 68, 3) := by decide +kernel
theorem kd_X7_init_148 : decode cX7_init 148 = .ok (.aload_n 0, 1) := by decide +kernel
theorem kd_X7_init_149 : decode cX7_init 149 = .ok (.getfield 23, 3) := by decide +kernel
theorem kd_X7_init_152 : decode cX7_init 152 = .ok (.invokevirtual 72, 3) := by decide +kernel
theorem kd_X7_init_155 : decode cX7_init 155 = .ok (.return_, 1) := by decide +kernel
theorem kd_X8_init_0 : decode cX8_init 0 = .ok (.aload_n 0, 1) := by decide +kernel
theorem kd_X8_init_1 : decode cX8_init 1 = .ok (.invokespecial 1, 3) := by decide +kernel
theorem kd_X8_init_4 : decode cX8_init 4 = .ok (.aload_n 0, 1) := by decide +kernel
theorem kd_X8_init_5 : decode cX8_init 5 = .ok (.sipush 150, 3) := by decide +kernel
theorem kd_X8_init_8 : decode cX8_init 8 = .ok (.newarray .int, 2) := by decide +kernel
theorem kd_X8_init_10 : decode cX8_init 10 = .ok (.putfield 7, 3) := by decide +kernel
theorem kd_X8_init_13 : decode cX8_init 13 = .ok (.aload_n 0, 1) := by decide +kernel
theorem kd_X8_init_14 : decode cX8_init 14 = .ok (.bipush 20, 2) := by decide +kernel
theorem kd_X8_init_16 : decode cX8_init 16 = .ok (.putfield 13, 3) := by decide +kernel
theorem kd_X8_init_19 : decode cX8_init 19 = .ok (.aload_n 0, 1) := by decide +kernel
theorem kd_X8_init_20 : decode cX8_init 20 = .ok (.bipush 32, 2) := by decide +kernel
theorem kd_X8_init_22 : decode cX8_init 22 = .ok (.newarray .int, 2) := by decide +kernel
theorem kd_X8_init_24 : decode cX8_init 24 = .ok (.putfield 17, 3) := by decide +kernel
theorem kd_X8_init_27 : decode cX8_init 27 = .ok (.aload_n 0, 1) := by decide +kernel
theorem kd_X8_init_28 : decode cX8_init 28 = .ok (.bipush 36, 2) := by decide +kernel
theorem kd_X8_init_30 : decode cX8_init 30 = .ok (.newarray .int, 2) := by decide +kernel
theorem kd_X8_init_32 : decode cX8_init 32 = .ok (.putfield 20, 3) := by decide +kernel
theorem kd_X8_init_35 : decode cX8_init 35 = .ok (.aload_n 0, 1) := by decide +kernel
theorem kd_X8_init_36 : decode cX8_init 36 = .ok (.bipush 10, 2) := by decide +kernel
theorem kd_X8_init_38 : decode cX8_init 38 = .ok (.newarray .int, 2) := by decide +kernel
theorem kd_X8_init_40 : decode cX8_init 40 = .ok (.putfield 23, 3) := by decide +kernel
theorem kd_X8_init_43 : decode cX8_init 43 = .ok (.aload_n 0, 1) := by decide +kernel
theorem kd_X8_init_44 : decode cX8_init 44 = .ok (.bipush 6, 2) := by decide +kernel
theorem kd_X8_init_46 : decode cX8_init 46 = .ok (.newarray .int, 2) := by decide +kernel
theorem kd_X8_init_48 : decode cX8_init 48 = .ok (.putfield 26, 3) := by decide +kernel
theorem kd_X8_init_51 : decode cX8_init 51 = .ok (.aload_n 0, 1) := by decide +kernel
theorem kd_X8_init_52 : decode cX8_init 52 = .ok (.iconst 3, 1) := by decide +kernel
theorem kd_X8_init_53 : decode cX8_init 53 = .ok (.newarray .int, 2) := by decide +kernel
theorem kd_X8_init_55 : decode cX8_init 55 = .ok (.putfield 29, 3) := by decide +kernel
theorem kd_X8_init_58 : decode cX8_init 58 = .ok (.aload_n 0, 1) := by decide +kernel
theorem kd_X8_init_59 : decode cX8_init 59 = .ok (.bipush 8, 2) := by decide +kernel
theorem kd_X8_init_61 : decode cX8_init 61 = .ok (.newarray .int, 2) := by decide +kernel
theorem kd_X8_init_63 : decode cX8_init 63 = .ok (.putfield 32, 3) := by decide +kernel
theorem kd_X8_init_66 : decode cX8_init 66 = .ok (.aload_n 0, 1) := by decide +kernel
theorem kd_X8_init_67 : decode cX8_init 67 = .ok (.sipush 360, 3) := by decide +kernel
theorem kd_X8_init_70 : decode cX8_init 70 = .ok (.newarray .int, 2) := by decide +kernel
theorem kd_X8_init_72 : decode cX8_init 72 = .ok (.putfield 35, 3) := by decide +kernel
theorem kd_X8_init_75 : decode cX8_init 75 = .ok (.aload_n 0, 1) := by decide +kernel
theorem kd_X8_init_76 : decode cX8_init 76 = .ok (.iconst 2, 1) := by decide +kernel
theorem kd_X8_init_77 : decode cX8_init 77 = .ok (.newarray .boolean, 2) := by decide +kernel
theorem kd_X8_init_79 : decode cX8_init 79 = .ok (.putfield 38, 3) := by decide +kernel
theorem kd_X8_init_82 : decode cX8_init 82 = .ok (.aload_n 0, 1) := by decide +kernel
theorem kd_X8_init_83 : decode cX8_init 83 = .ok (.bipush 72, 2) := by decide +kernel
theorem kd_X8_init_85 : decode cX8_init 85 = .ok (.newarray .int, 2) := by decide +kernel
theorem kd_X8_init_87 : decode cX8_init 87 = .ok (.putfield 42, 3) := by decide +kernel
theorem kd_X8_init_90 : decode cX8_init 90 = .ok (.aload_n 0, 1) := by decide +kernel
theorem kd_X8_init_91 : decode cX8_init 91 = .ok (.sipush 720, 3) := by decide +kernel
theorem kd_X8_init_94 : decode cX8_init 94 = .ok (.newarray .int, 2) := by decide +kernel
theorem kd_X8_init_96 : decode cX8_init 96 = .ok (.putfield 45, 3) := by decide +kernel
theorem kd_X8_init_99 : decode cX8_init 99 = .ok (.aload_n 0, 1) := by decide +kernel
theorem kd_X8_init_100 : decode cX8_init 100 = .ok (.iconst 2, 1) := by decide +kernel
theorem kd_X8_init_101 : decode cX8_init 101 = .ok (.newarray .int, 2) := by decide +kernel
theorem kd_X8_init_103 : decode cX8_init 103 = .ok (.putfield 48, 3) := by decide +kernel
theorem kd_X8_init_106 : decode cX8_init 106 = .ok (.aload_n 0, 1) := by decide +kernel
theorem kd_X8_init_107 : decode cX8_init 107 = .ok (.bipush 32, 2) := by decide +kernel
theorem kd_X8_init_109 : decode cX8_init 109 = .ok (.newarray .int, 2) := by decide +kernel
theorem kd_X8_init_111 : decode cX8_init 111 = .ok (.putfield 51, 3) := by decide +kernel
theorem kd_X8_init_114 : decode cX8_init 114 = .ok (.aload_n 0, 1) := by decide +kernel
theorem kd_X8_init_115 : decode cX8_init 115 = .ok (.bipush 32, 2) := by decide +kernel
theorem kd_X8_init_117 : decode cX8_init 117 = .ok (.newarray .int, 2) := by decide +kernel
theorem kd_X8_init_119 : decode cX8_init 119 = .ok (.putfield 54, 3) := by decide +kernel
theorem kd_X8_init_122 : decode cX8_init 122 = .ok (.aload_n 0, 1) := by decide +kernel
theorem kd_X8_init_123 : decode cX8_init 123 = .ok (.bipush 33, 2) := by decide +kernel
theorem kd_X8_init_125 : decode cX8_init 125 = .ok (.newarray .int, 2) := by decide +kernel
theorem kd_X8_init_127 : decode cX8_init 127 = .ok (.putfield 57, 3) := by decide +kernel
theorem kd_X8_init_130 : decode cX8_init 130 = .ok (.aload_n 0, 1) := by decide +kernel
theorem kd_X8_init_131 : decode cX8_init 131 = .ok (.iconst 3, 1) := by decide +kernel
theorem kd_X8_init_132 : decode cX8_init 132 = .ok (.newarray .int, 2) := by decide +kernel
theorem kd_X8_init_134 : decode cX8_init 134 = .ok (.putfield 60, 3) := by decide +kernel
theorem kd_X8_init_137 : decode cX8_init 137 = .ok (.return_, 1) := by decide +kernel
