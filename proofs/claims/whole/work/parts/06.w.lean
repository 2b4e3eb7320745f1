set_option maxRecDepth 100000 in
theorem w_127 : (Jvm.Cond.fieldLink "UnreadScript$Forms" (11 : Nat) "UnreadScript$Forms" "features" "[I") ∈ TB := lw_in (i := 127) (by decide +kernel) rfl
set_option maxRecDepth 100000 in
theorem w_128 : (Jvm.Cond.fieldLink "UnreadScript$Forms" (15 : Nat) "UnreadScript$Forms" "signs" "[I") ∈ TB := lw_in (i := 128) (by decide +kernel) rfl
set_option maxRecDepth 100000 in
theorem w_129 : (Jvm.Cond.fieldLink "UnreadScript$Forms" (18 : Nat) "UnreadScript$Forms" "trial" "[I") ∈ TB := lw_in (i := 129) (by decide +kernel) rfl
set_option maxRecDepth 100000 in
theorem w_130 : (Jvm.Cond.fieldLink "UnreadScript$Forms" (25 : Nat) "UnreadScript$Forms" "size" "I") ∈ TB := lw_in (i := 130) (by decide +kernel) rfl
set_option maxRecDepth 100000 in
theorem w_131 : (Jvm.Cond.fieldLink "UnreadScript$Forms" (21 : Nat) "UnreadScript$Forms" "limit" "I") ∈ TB := lw_in (i := 131) (by decide +kernel) rfl
set_option maxRecDepth 100000 in
theorem w_152 : (Jvm.Cond.fieldLink "UnreadScript$Texts" (41 : Nat) "UnreadScript$Texts" "forms" "LUnreadScript$Forms;") ∈ TB := lw_in (i := 152) (by decide +kernel) rfl
set_option maxRecDepth 100000 in
theorem w_153 : (Jvm.Cond.fieldLink "UnreadScript$Texts" (11 : Nat) "UnreadScript$Texts" "draft" "[I") ∈ TB := lw_in (i := 153) (by decide +kernel) rfl
set_option maxRecDepth 100000 in
theorem w_154 : (Jvm.Cond.fieldLink "UnreadScript$Texts" (17 : Nat) "UnreadScript$Texts" "cells" "[[I") ∈ TB := lw_in (i := 154) (by decide +kernel) rfl
set_option maxRecDepth 100000 in
theorem w_155 : (Jvm.Cond.fieldLink "UnreadScript$Texts" (20 : Nat) "UnreadScript$Texts" "lengths" "[I") ∈ TB := lw_in (i := 155) (by decide +kernel) rfl
set_option maxRecDepth 100000 in
theorem w_156 : (Jvm.Cond.fieldLink "UnreadScript$Texts" (45 : Nat) "UnreadScript$Texts" "size" "I") ∈ TB := lw_in (i := 156) (by decide +kernel) rfl
set_option maxRecDepth 100000 in
theorem w_157 : (Jvm.Cond.fieldLink "UnreadScript$Texts" (23 : Nat) "UnreadScript$Texts" "wordTexts" "[I") ∈ TB := lw_in (i := 157) (by decide +kernel) rfl
set_option maxRecDepth 100000 in
theorem w_158 : (Jvm.Cond.fieldLink "UnreadScript$Texts" (26 : Nat) "UnreadScript$Texts" "wordStarts" "[I") ∈ TB := lw_in (i := 158) (by decide +kernel) rfl
set_option maxRecDepth 100000 in
theorem w_159 : (Jvm.Cond.fieldLink "UnreadScript$Texts" (29 : Nat) "UnreadScript$Texts" "wordLengths" "[I") ∈ TB := lw_in (i := 159) (by decide +kernel) rfl
set_option maxRecDepth 100000 in
theorem w_160 : (Jvm.Cond.fieldLink "UnreadScript$Texts" (32 : Nat) "UnreadScript$Texts" "wholes" "[Z") ∈ TB := lw_in (i := 160) (by decide +kernel) rfl
set_option maxRecDepth 100000 in
theorem w_161 : (Jvm.Cond.fieldLink "UnreadScript$Texts" (60 : Nat) "UnreadScript$Texts" "words" "I") ∈ TB := lw_in (i := 161) (by decide +kernel) rfl
set_option maxRecDepth 100000 in
theorem w_162 : (Jvm.Cond.fieldLink "UnreadScript$Texts" (38 : Nat) "UnreadScript$Texts" "edges" "[I") ∈ TB := lw_in (i := 162) (by decide +kernel) rfl
set_option maxRecDepth 100000 in
theorem w_193 : (Jvm.Cond.fieldLink "UnreadScript$Tape" (11 : Nat) "UnreadScript$Tape" "bytes" "[B") ∈ TB := lw_in (i := 193) (by decide +kernel) rfl
set_option maxRecDepth 100000 in
theorem w_194 : (Jvm.Cond.fieldLink "UnreadScript$Tape" (15 : Nat) "UnreadScript$Tape" "length" "I") ∈ TB := lw_in (i := 194) (by decide +kernel) rfl
set_option maxRecDepth 100000 in
theorem w_195 : (Jvm.Cond.fieldLink "UnreadScript$Tape" (19 : Nat) "UnreadScript$Tape" "place" "I") ∈ TB := lw_in (i := 195) (by decide +kernel) rfl
set_option maxRecDepth 100000 in
theorem w_196 : (Jvm.Cond.fieldLink "UnreadScript$Tape" (22 : Nat) "UnreadScript$Tape" "start" "I") ∈ TB := lw_in (i := 196) (by decide +kernel) rfl
set_option maxRecDepth 100000 in
theorem w_197 : (Jvm.Cond.fieldLink "UnreadScript$Tape" (25 : Nat) "UnreadScript$Tape" "value" "I") ∈ TB := lw_in (i := 197) (by decide +kernel) rfl
set_option maxRecDepth 100000 in
theorem w_217 : (Jvm.Cond.fieldLink "UnreadScript$Kinship" (39 : Nat) "UnreadScript$Kinship" "forms" "LUnreadScript$Forms;") ∈ TB := lw_in (i := 217) (by decide +kernel) rfl
set_option maxRecDepth 100000 in
theorem w_218 : (Jvm.Cond.fieldLink "UnreadScript$Kinship" (43 : Nat) "UnreadScript$Kinship" "texts" "LUnreadScript$Texts;") ∈ TB := lw_in (i := 218) (by decide +kernel) rfl
set_option maxRecDepth 100000 in
theorem w_219 : (Jvm.Cond.fieldLink "UnreadScript$Kinship" (13 : Nat) "UnreadScript$Kinship" "told" "[[I") ∈ TB := lw_in (i := 219) (by decide +kernel) rfl
set_option maxRecDepth 100000 in
theorem w_220 : (Jvm.Cond.fieldLink "UnreadScript$Kinship" (18 : Nat) "UnreadScript$Kinship" "akin" "[[I") ∈ TB := lw_in (i := 220) (by decide +kernel) rfl
set_option maxRecDepth 100000 in
theorem w_221 : (Jvm.Cond.fieldLink "UnreadScript$Kinship" (21 : Nat) "UnreadScript$Kinship" "apart" "[[I") ∈ TB := lw_in (i := 221) (by decide +kernel) rfl
set_option maxRecDepth 100000 in
theorem w_222 : (Jvm.Cond.fieldLink "UnreadScript$Kinship" (26 : Nat) "UnreadScript$Kinship" "endings" "[I") ∈ TB := lw_in (i := 222) (by decide +kernel) rfl
set_option maxRecDepth 100000 in
theorem w_223 : (Jvm.Cond.fieldLink "UnreadScript$Kinship" (30 : Nat) "UnreadScript$Kinship" "seated" "[I") ∈ TB := lw_in (i := 223) (by decide +kernel) rfl
set_option maxRecDepth 100000 in
theorem w_224 : (Jvm.Cond.fieldLink "UnreadScript$Kinship" (33 : Nat) "UnreadScript$Kinship" "row" "[I") ∈ TB := lw_in (i := 224) (by decide +kernel) rfl
set_option maxRecDepth 100000 in
theorem w_225 : (Jvm.Cond.fieldLink "UnreadScript$Kinship" (36 : Nat) "UnreadScript$Kinship" "leastRow" "[I") ∈ TB := lw_in (i := 225) (by decide +kernel) rfl
set_option maxRecDepth 100000 in
theorem w_226 : (Jvm.Cond.fieldLink "UnreadScript$Kinship" (76 : Nat) "UnreadScript$Kinship" "size" "I") ∈ TB := lw_in (i := 226) (by decide +kernel) rfl
set_option maxRecDepth 100000 in
theorem w_227 : (Jvm.Cond.fieldLink "UnreadScript$Kinship" (68 : Nat) "UnreadScript$Kinship" "least" "I") ∈ TB := lw_in (i := 227) (by decide +kernel) rfl
set_option maxRecDepth 100000 in
theorem w_258 : (Jvm.Cond.fieldLink "UnreadScript$Accounts" (13 : Nat) "UnreadScript$Accounts" "excess" "[[I") ∈ TB := lw_in (i := 258) (by decide +kernel) rfl
set_option maxRecDepth 100000 in
theorem w_259 : (Jvm.Cond.fieldLink "UnreadScript$Accounts" (26 : Nat) "UnreadScript$Accounts" "size" "I") ∈ TB := lw_in (i := 259) (by decide +kernel) rfl
set_option maxRecDepth 100000 in
theorem w_260 : (Jvm.Cond.fieldLink "UnreadScript$Accounts" (16 : Nat) "UnreadScript$Accounts" "picks" "[I") ∈ TB := lw_in (i := 260) (by decide +kernel) rfl
set_option maxRecDepth 100000 in
theorem w_261 : (Jvm.Cond.fieldLink "UnreadScript$Accounts" (20 : Nat) "UnreadScript$Accounts" "firstPicks" "[I") ∈ TB := lw_in (i := 261) (by decide +kernel) rfl
set_option maxRecDepth 100000 in
theorem w_262 : (Jvm.Cond.fieldLink "UnreadScript$Accounts" (23 : Nat) "UnreadScript$Accounts" "seen" "[I") ∈ TB := lw_in (i := 262) (by decide +kernel) rfl
set_option maxRecDepth 100000 in
theorem w_263 : (Jvm.Cond.fieldLink "UnreadScript$Accounts" (41 : Nat) "UnreadScript$Accounts" "fitting" "I") ∈ TB := lw_in (i := 263) (by decide +kernel) rfl
set_option maxRecDepth 100000 in
theorem w_284 : (Jvm.Cond.fieldLink "UnreadScript$Names" (20 : Nat) "UnreadScript$Names" "texts" "LUnreadScript$Texts;") ∈ TB := lw_in (i := 284) (by decide +kernel) rfl
set_option maxRecDepth 100000 in
theorem w_285 : (Jvm.Cond.fieldLink "UnreadScript$Names" (13 : Nat) "UnreadScript$Names" "sounds" "[[I") ∈ TB := lw_in (i := 285) (by decide +kernel) rfl
set_option maxRecDepth 100000 in
theorem w_286 : (Jvm.Cond.fieldLink "UnreadScript$Names" (16 : Nat) "UnreadScript$Names" "lengths" "[I") ∈ TB := lw_in (i := 286) (by decide +kernel) rfl
set_option maxRecDepth 100000 in
theorem w_287 : (Jvm.Cond.fieldLink "UnreadScript$Names" (24 : Nat) "UnreadScript$Names" "size" "I") ∈ TB := lw_in (i := 287) (by decide +kernel) rfl
set_option maxRecDepth 100000 in
theorem w_304 : (Jvm.Cond.fieldLink "UnreadScript$Tongue" (46 : Nat) "UnreadScript$Tongue" "texts" "LUnreadScript$Texts;") ∈ TB := lw_in (i := 304) (by decide +kernel) rfl
set_option maxRecDepth 100000 in
theorem w_305 : (Jvm.Cond.fieldLink "UnreadScript$Tongue" (11 : Nat) "UnreadScript$Tongue" "words" "[J") ∈ TB := lw_in (i := 305) (by decide +kernel) rfl
set_option maxRecDepth 100000 in
theorem w_306 : (Jvm.Cond.fieldLink "UnreadScript$Tongue" (50 : Nat) "UnreadScript$Tongue" "size" "I") ∈ TB := lw_in (i := 306) (by decide +kernel) rfl
set_option maxRecDepth 100000 in
theorem w_307 : (Jvm.Cond.fieldLink "UnreadScript$Tongue" (15 : Nat) "UnreadScript$Tongue" "tabled" "[I") ∈ TB := lw_in (i := 307) (by decide +kernel) rfl
set_option maxRecDepth 100000 in
theorem w_308 : (Jvm.Cond.fieldLink "UnreadScript$Tongue" (71 : Nat) "UnreadScript$Tongue" "tabledSize" "I") ∈ TB := lw_in (i := 308) (by decide +kernel) rfl
set_option maxRecDepth 100000 in
theorem w_309 : (Jvm.Cond.fieldLink "UnreadScript$Tongue" (21 : Nat) "UnreadScript$Tongue" "times" "[I") ∈ TB := lw_in (i := 309) (by decide +kernel) rfl
set_option maxRecDepth 100000 in
theorem w_310 : (Jvm.Cond.fieldLink "UnreadScript$Tongue" (24 : Nat) "UnreadScript$Tongue" "places" "[I") ∈ TB := lw_in (i := 310) (by decide +kernel) rfl
set_option maxRecDepth 100000 in
theorem w_311 : (Jvm.Cond.fieldLink "UnreadScript$Tongue" (31 : Nat) "UnreadScript$Tongue" "rows" "[[I") ∈ TB := lw_in (i := 311) (by decide +kernel) rfl
set_option maxRecDepth 100000 in
theorem w_312 : (Jvm.Cond.fieldLink "UnreadScript$Tongue" (34 : Nat) "UnreadScript$Tongue" "rowLengths" "[I") ∈ TB := lw_in (i := 312) (by decide +kernel) rfl
set_option maxRecDepth 100000 in
theorem w_313 : (Jvm.Cond.fieldLink "UnreadScript$Tongue" (113 : Nat) "UnreadScript$Tongue" "rowSize" "I") ∈ TB := lw_in (i := 313) (by decide +kernel) rfl
set_option maxRecDepth 100000 in
theorem w_314 : (Jvm.Cond.fieldLink "UnreadScript$Tongue" (37 : Nat) "UnreadScript$Tongue" "sounds" "[I") ∈ TB := lw_in (i := 314) (by decide +kernel) rfl
set_option maxRecDepth 100000 in
theorem w_315 : (Jvm.Cond.fieldLink "UnreadScript$Tongue" (40 : Nat) "UnreadScript$Tongue" "bestSounds" "[I") ∈ TB := lw_in (i := 315) (by decide +kernel) rfl
set_option maxRecDepth 100000 in
theorem w_316 : (Jvm.Cond.fieldLink "UnreadScript$Tongue" (97 : Nat) "UnreadScript$Tongue" "bestRead" "I") ∈ TB := lw_in (i := 316) (by decide +kernel) rfl
set_option maxRecDepth 100000 in
theorem w_317 : (Jvm.Cond.fieldLink "UnreadScript$Tongue" (100 : Nat) "UnreadScript$Tongue" "bestTables" "I") ∈ TB := lw_in (i := 317) (by decide +kernel) rfl
set_option maxRecDepth 100000 in
theorem w_318 : (Jvm.Cond.fieldLink "UnreadScript$Tongue" (43 : Nat) "UnreadScript$Tongue" "order" "[I") ∈ TB := lw_in (i := 318) (by decide +kernel) rfl
set_option maxRecDepth 100000 in
theorem w_357 : (Jvm.Cond.fieldLink "UnreadScript$Claims" (30 : Nat) "UnreadScript$Claims" "tape" "LUnreadScript$Tape;") ∈ TB := lw_in (i := 357) (by decide +kernel) rfl
set_option maxRecDepth 100000 in
theorem w_358 : (Jvm.Cond.fieldLink "UnreadScript$Claims" (11 : Nat) "UnreadScript$Claims" "kinds" "[I") ∈ TB := lw_in (i := 358) (by decide +kernel) rfl
set_option maxRecDepth 100000 in
theorem w_359 : (Jvm.Cond.fieldLink "UnreadScript$Claims" (15 : Nat) "UnreadScript$Claims" "numbers" "[I") ∈ TB := lw_in (i := 359) (by decide +kernel) rfl
set_option maxRecDepth 100000 in
theorem w_360 : (Jvm.Cond.fieldLink "UnreadScript$Claims" (18 : Nat) "UnreadScript$Claims" "came" "[I") ∈ TB := lw_in (i := 360) (by decide +kernel) rfl
set_option maxRecDepth 100000 in
theorem w_361 : (Jvm.Cond.fieldLink "UnreadScript$Claims" (21 : Nat) "UnreadScript$Claims" "gone" "[I") ∈ TB := lw_in (i := 361) (by decide +kernel) rfl
set_option maxRecDepth 100000 in
theorem w_362 : (Jvm.Cond.fieldLink "UnreadScript$Claims" (24 : Nat) "UnreadScript$Claims" "hangsOn" "[I") ∈ TB := lw_in (i := 362) (by decide +kernel) rfl
set_option maxRecDepth 100000 in
theorem w_363 : (Jvm.Cond.fieldLink "UnreadScript$Claims" (27 : Nat) "UnreadScript$Claims" "depths" "[I") ∈ TB := lw_in (i := 363) (by decide +kernel) rfl
set_option maxRecDepth 100000 in
theorem w_364 : (Jvm.Cond.fieldLink "UnreadScript$Claims" (34 : Nat) "UnreadScript$Claims" "size" "I") ∈ TB := lw_in (i := 364) (by decide +kernel) rfl
set_option maxRecDepth 100000 in
theorem w_365 : (Jvm.Cond.fieldLink "UnreadScript$Claims" (49 : Nat) "UnreadScript$Claims" "told" "I") ∈ TB := lw_in (i := 365) (by decide +kernel) rfl
set_option maxRecDepth 100000 in
theorem w_366 : (Jvm.Cond.fieldLink "UnreadScript$Claims" (52 : Nat) "UnreadScript$Claims" "awaited" "I") ∈ TB := lw_in (i := 366) (by decide +kernel) rfl
set_option maxRecDepth 100000 in
theorem w_367 : (Jvm.Cond.fieldLink "UnreadScript$Claims" (38 : Nat) "UnreadScript$Claims" "fault" "I") ∈ TB := lw_in (i := 367) (by decide +kernel) rfl
set_option maxRecDepth 100000 in
theorem w_368 : (Jvm.Cond.fieldLink "UnreadScript$Claims" (41 : Nat) "UnreadScript$Claims" "day" "I") ∈ TB := lw_in (i := 368) (by decide +kernel) rfl
set_option maxRecDepth 100000 in
theorem w_401 : (Jvm.Cond.fieldLink "UnreadScript$Sheets" (11 : Nat) "UnreadScript$Sheets" "lanes" "[I") ∈ TB := lw_in (i := 401) (by decide +kernel) rfl
set_option maxRecDepth 100000 in
theorem w_402 : (Jvm.Cond.fieldLink "UnreadScript$Sheets" (15 : Nat) "UnreadScript$Sheets" "lengths" "[I") ∈ TB := lw_in (i := 402) (by decide +kernel) rfl
set_option maxRecDepth 100000 in
theorem w_403 : (Jvm.Cond.fieldLink "UnreadScript$Sheets" (20 : Nat) "UnreadScript$Sheets" "cells" "[[I") ∈ TB := lw_in (i := 403) (by decide +kernel) rfl
set_option maxRecDepth 100000 in
theorem w_411 : (Jvm.Cond.fieldLink "UnreadScript" (18 : Nat) "UnreadScript" "formRows" "LUnreadScript$Forms;") ∈ TB := lw_in (i := 411) (by decide +kernel) rfl
set_option maxRecDepth 100000 in
theorem w_412 : (Jvm.Cond.fieldLink "UnreadScript" (24 : Nat) "UnreadScript" "textRows" "LUnreadScript$Texts;") ∈ TB := lw_in (i := 412) (by decide +kernel) rfl
set_option maxRecDepth 100000 in
theorem w_413 : (Jvm.Cond.fieldLink "UnreadScript" (33 : Nat) "UnreadScript" "kinship" "LUnreadScript$Kinship;") ∈ TB := lw_in (i := 413) (by decide +kernel) rfl
set_option maxRecDepth 100000 in
theorem w_414 : (Jvm.Cond.fieldLink "UnreadScript" (40 : Nat) "UnreadScript" "accountRows" "LUnreadScript$Accounts;") ∈ TB := lw_in (i := 414) (by decide +kernel) rfl
set_option maxRecDepth 100000 in
theorem w_415 : (Jvm.Cond.fieldLink "UnreadScript" (49 : Nat) "UnreadScript" "nameRows" "LUnreadScript$Names;") ∈ TB := lw_in (i := 415) (by decide +kernel) rfl
set_option maxRecDepth 100000 in
theorem w_416 : (Jvm.Cond.fieldLink "UnreadScript" (56 : Nat) "UnreadScript" "tongue" "LUnreadScript$Tongue;") ∈ TB := lw_in (i := 416) (by decide +kernel) rfl
set_option maxRecDepth 100000 in
theorem w_417 : (Jvm.Cond.fieldLink "UnreadScript" (60 : Nat) "UnreadScript" "tape" "LUnreadScript$Tape;") ∈ TB := lw_in (i := 417) (by decide +kernel) rfl
set_option maxRecDepth 100000 in
theorem w_418 : (Jvm.Cond.fieldLink "UnreadScript" (69 : Nat) "UnreadScript" "claimRows" "LUnreadScript$Claims;") ∈ TB := lw_in (i := 418) (by decide +kernel) rfl
set_option maxRecDepth 100000 in
theorem w_419 : (Jvm.Cond.fieldLink "UnreadScript" (76 : Nat) "UnreadScript" "sheetRows" "LUnreadScript$Sheets;") ∈ TB := lw_in (i := 419) (by decide +kernel) rfl
set_option maxRecDepth 100000 in
theorem w_443 : (Jvm.Cond.methodLink "UnreadScript" (80 : Nat) ({ cls := "UnreadScript$Forms", name := "add", desc := "(I)I" } : Jvm.MethodName)) ∈ TB := lw_in (i := 443) (by decide +kernel) rfl
set_option maxRecDepth 100000 in
theorem w_447 : (Jvm.Cond.methodLink "UnreadScript$Forms" (28 : Nat) ({ cls := "UnreadScript$Forms", name := "group", desc := "(I[I)V" } : Jvm.MethodName)) ∈ TB := lw_in (i := 447) (by decide +kernel) rfl
set_option maxRecDepth 100000 in
theorem w_451 : (Jvm.Cond.methodLink "UnreadScript$Forms" (44 : Nat) ({ cls := "java/lang/Integer", name := "bitCount", desc := "(I)I" } : Jvm.MethodName)) ∈ TB := lw_in (i := 451) (by decide +kernel) rfl
set_option maxRecDepth 100000 in
theorem w_454 : (Jvm.Cond.constant "java/lang/Integer" (265 : Nat) (1431655765 : Int32)) ∈ TB := lw_in (i := 454) (by decide +kernel) rfl
set_option maxRecDepth 100000 in
theorem w_455 : (Jvm.Cond.constant "java/lang/Integer" (266 : Nat) (858993459 : Int32)) ∈ TB := lw_in (i := 455) (by decide +kernel) rfl
set_option maxRecDepth 100000 in
theorem w_456 : (Jvm.Cond.constant "java/lang/Integer" (267 : Nat) (252645135 : Int32)) ∈ TB := lw_in (i := 456) (by decide +kernel) rfl
set_option maxRecDepth 100000 in
theorem w_457 : (Jvm.Cond.methodLink "UnreadScript$Forms" (49 : Nat) ({ cls := "UnreadScript$Forms", name := "join", desc := "([III)V" } : Jvm.MethodName)) ∈ TB := lw_in (i := 457) (by decide +kernel) rfl
set_option maxRecDepth 100000 in
theorem w_460 : (Jvm.Cond.methodLink "UnreadScript$Forms" (53 : Nat) ({ cls := "java/lang/Math", name := "min", desc := "(II)I" } : Jvm.MethodName)) ∈ TB := lw_in (i := 460) (by decide +kernel) rfl
set_option maxRecDepth 100000 in
theorem w_463 : (Jvm.Cond.methodLink "UnreadScript$Forms" (59 : Nat) ({ cls := "java/lang/Math", name := "max", desc := "(II)I" } : Jvm.MethodName)) ∈ TB := lw_in (i := 463) (by decide +kernel) rfl
set_option maxRecDepth 100000 in
theorem w_470 : (Jvm.Cond.methodLink "UnreadScript" (84 : Nat) ({ cls := "UnreadScript$Forms", name := "limitTo", desc := "(I)I" } : Jvm.MethodName)) ∈ TB := lw_in (i := 470) (by decide +kernel) rfl
set_option maxRecDepth 100000 in
theorem w_478 : (Jvm.Cond.methodLink "UnreadScript" (87 : Nat) ({ cls := "UnreadScript$Forms", name := "signOf", desc := "(I)I" } : Jvm.MethodName)) ∈ TB := lw_in (i := 478) (by decide +kernel) rfl
set_option maxRecDepth 100000 in
theorem w_486 : (Jvm.Cond.methodLink "UnreadScript" (90 : Nat) ({ cls := "UnreadScript$Forms", name := "groups", desc := "()I" } : Jvm.MethodName)) ∈ TB := lw_in (i := 486) (by decide +kernel) rfl
set_option maxRecDepth 100000 in
theorem w_490 : (Jvm.Cond.methodLink "UnreadScript" (94 : Nat) ({ cls := "UnreadScript$Forms", name := "greatest", desc := "()I" } : Jvm.MethodName)) ∈ TB := lw_in (i := 490) (by decide +kernel) rfl
set_option maxRecDepth 100000 in
theorem w_494 : (Jvm.Cond.methodLink "UnreadScript$Forms" (36 : Nat) ({ cls := "UnreadScript$Forms", name := "membersOf", desc := "(I)I" } : Jvm.MethodName)) ∈ TB := lw_in (i := 494) (by decide +kernel) rfl
set_option maxRecDepth 100000 in
theorem w_498 : (Jvm.Cond.methodLink "UnreadScript" (97 : Nat) ({ cls := "UnreadScript$Forms", name := "membersOf", desc := "(I)I" } : Jvm.MethodName)) ∈ TB := lw_in (i := 498) (by decide +kernel) rfl
set_option maxRecDepth 100000 in
theorem w_499 : (Jvm.Cond.methodLink "UnreadScript" (100 : Nat) ({ cls := "UnreadScript$Forms", name := "leastLimit", desc := "()I" } : Jvm.MethodName)) ∈ TB := lw_in (i := 499) (by decide +kernel) rfl
set_option maxRecDepth 100000 in
theorem w_503 : (Jvm.Cond.methodLink "UnreadScript$Forms" (40 : Nat) ({ cls := "UnreadScript$Forms", name := "isOneGroup", desc := "([I)Z" } : Jvm.MethodName)) ∈ TB := lw_in (i := 503) (by decide +kernel) rfl
set_option maxRecDepth 100000 in
theorem w_511 : (Jvm.Cond.methodLink "UnreadScript" (103 : Nat) ({ cls := "UnreadScript$Sheets", name := "isSheet", desc := "(I)Z" } : Jvm.MethodName)) ∈ TB := lw_in (i := 511) (by decide +kernel) rfl
set_option maxRecDepth 100000 in
theorem w_514 : (Jvm.Cond.methodLink "UnreadScript" (107 : Nat) ({ cls := "UnreadScript$Sheets", name := "isLane", desc := "(I)Z" } : Jvm.MethodName)) ∈ TB := lw_in (i := 514) (by decide +kernel) rfl
set_option maxRecDepth 100000 in
theorem w_517 : (Jvm.Cond.methodLink "UnreadScript" (110 : Nat) ({ cls := "UnreadScript$Sheets", name := "faultAs", desc := "(II)I" } : Jvm.MethodName)) ∈ TB := lw_in (i := 517) (by decide +kernel) rfl
set_option maxRecDepth 100000 in
theorem w_521 : (Jvm.Cond.methodLink "UnreadScript$Sheets" (38 : Nat) ({ cls := "UnreadScript$Sheets", name := "lengthOf", desc := "(I)I" } : Jvm.MethodName)) ∈ TB := lw_in (i := 521) (by decide +kernel) rfl
set_option maxRecDepth 100000 in
theorem w_525 : (Jvm.Cond.methodLink "UnreadScript$Sheets" (23 : Nat) ({ cls := "UnreadScript$Sheets", name := "isSheet", desc := "(I)Z" } : Jvm.MethodName)) ∈ TB := lw_in (i := 525) (by decide +kernel) rfl
set_option maxRecDepth 100000 in
theorem w_526 : (Jvm.Cond.methodLink "UnreadScript" (114 : Nat) ({ cls := "UnreadScript$Sheets", name := "hasCell", desc := "(II)Z" } : Jvm.MethodName)) ∈ TB := lw_in (i := 526) (by decide +kernel) rfl
set_option maxRecDepth 100000 in
theorem w_530 : (Jvm.Cond.methodLink "UnreadScript" (118 : Nat) ({ cls := "UnreadScript$Sheets", name := "cellOf", desc := "(II)I" } : Jvm.MethodName)) ∈ TB := lw_in (i := 530) (by decide +kernel) rfl
set_option maxRecDepth 100000 in
theorem w_534 : (Jvm.Cond.methodLink "UnreadScript$Sheets" (30 : Nat) ({ cls := "UnreadScript$Sheets", name := "hasCell", desc := "(II)Z" } : Jvm.MethodName)) ∈ TB := lw_in (i := 534) (by decide +kernel) rfl
set_option maxRecDepth 100000 in
theorem w_535 : (Jvm.Cond.methodLink "UnreadScript" (121 : Nat) ({ cls := "UnreadScript$Texts", name := "draftCell", desc := "(II)Z" } : Jvm.MethodName)) ∈ TB := lw_in (i := 535) (by decide +kernel) rfl
set_option maxRecDepth 100000 in
theorem w_539 : (Jvm.Cond.methodLink "UnreadScript$Texts" (53 : Nat) ({ cls := "UnreadScript$Forms", name := "isForm", desc := "(I)Z" } : Jvm.MethodName)) ∈ TB := lw_in (i := 539) (by decide +kernel) rfl
set_option maxRecDepth 100000 in
theorem w_543 : (Jvm.Cond.methodLink "UnreadScript" (124 : Nat) ({ cls := "UnreadScript$Texts", name := "addDraft", desc := "(I)I" } : Jvm.MethodName)) ∈ TB := lw_in (i := 543) (by decide +kernel) rfl
set_option maxRecDepth 100000 in
theorem w_547 : (Jvm.Cond.methodLink "UnreadScript$Texts" (56 : Nat) ({ cls := "UnreadScript$Texts", name := "findWords", desc := "(I)V" } : Jvm.MethodName)) ∈ TB := lw_in (i := 547) (by decide +kernel) rfl
set_option maxRecDepth 100000 in
theorem w_551 : (Jvm.Cond.methodLink "UnreadScript$Texts" (67 : Nat) ({ cls := "UnreadScript$Texts", name := "signAt", desc := "(II)I" } : Jvm.MethodName)) ∈ TB := lw_in (i := 551) (by decide +kernel) rfl
set_option maxRecDepth 100000 in
theorem w_555 : (Jvm.Cond.methodLink "UnreadScript$Texts" (63 : Nat) ({ cls := "UnreadScript$Forms", name := "signOf", desc := "(I)I" } : Jvm.MethodName)) ∈ TB := lw_in (i := 555) (by decide +kernel) rfl
set_option maxRecDepth 100000 in
theorem w_556 : (Jvm.Cond.methodLink "UnreadScript$Texts" (71 : Nat) ({ cls := "UnreadScript$Texts", name := "addWord", desc := "(III)V" } : Jvm.MethodName)) ∈ TB := lw_in (i := 556) (by decide +kernel) rfl
set_option maxRecDepth 100000 in
theorem w_564 : (Jvm.Cond.methodLink "UnreadScript" (127 : Nat) ({ cls := "UnreadScript$Texts", name := "dropLatest", desc := "()I" } : Jvm.MethodName)) ∈ TB := lw_in (i := 564) (by decide +kernel) rfl
set_option maxRecDepth 100000 in
theorem w_572 : (Jvm.Cond.methodLink "UnreadScript" (130 : Nat) ({ cls := "UnreadScript$Texts", name := "tell", desc := "(II)I" } : Jvm.MethodName)) ∈ TB := lw_in (i := 572) (by decide +kernel) rfl
set_option maxRecDepth 100000 in
theorem w_576 : (Jvm.Cond.methodLink "UnreadScript$Texts" (49 : Nat) ({ cls := "UnreadScript$Texts", name := "isText", desc := "(I)Z" } : Jvm.MethodName)) ∈ TB := lw_in (i := 576) (by decide +kernel) rfl
set_option maxRecDepth 100000 in
theorem w_580 : (Jvm.Cond.methodLink "UnreadScript$Texts" (84 : Nat) ({ cls := "UnreadScript$Texts", name := "cellsLike", desc := "(II)I" } : Jvm.MethodName)) ∈ TB := lw_in (i := 580) (by decide +kernel) rfl
set_option maxRecDepth 100000 in
theorem w_584 : (Jvm.Cond.methodLink "UnreadScript$Texts" (94 : Nat) ({ cls := "UnreadScript$Texts", name := "lengthOf", desc := "(I)I" } : Jvm.MethodName)) ∈ TB := lw_in (i := 584) (by decide +kernel) rfl
set_option maxRecDepth 100000 in
theorem w_588 : (Jvm.Cond.methodLink "UnreadScript$Texts" (87 : Nat) ({ cls := "UnreadScript$Texts", name := "wordsIn", desc := "(IZ)I" } : Jvm.MethodName)) ∈ TB := lw_in (i := 588) (by decide +kernel) rfl
set_option maxRecDepth 100000 in
theorem w_592 : (Jvm.Cond.methodLink "UnreadScript$Texts" (97 : Nat) ({ cls := "UnreadScript$Texts", name := "isWhole", desc := "(I)Z" } : Jvm.MethodName)) ∈ TB := lw_in (i := 592) (by decide +kernel) rfl
set_option maxRecDepth 100000 in
theorem w_596 : (Jvm.Cond.methodLink "UnreadScript$Texts" (75 : Nat) ({ cls := "UnreadScript$Texts", name := "isWord", desc := "(I)Z" } : Jvm.MethodName)) ∈ TB := lw_in (i := 596) (by decide +kernel) rfl
set_option maxRecDepth 100000 in
theorem w_600 : (Jvm.Cond.methodLink "UnreadScript$Texts" (91 : Nat) ({ cls := "UnreadScript$Texts", name := "longestWhole", desc := "(I)I" } : Jvm.MethodName)) ∈ TB := lw_in (i := 600) (by decide +kernel) rfl
set_option maxRecDepth 100000 in
theorem w_604 : (Jvm.Cond.methodLink "UnreadScript$Texts" (100 : Nat) ({ cls := "java/lang/Math", name := "max", desc := "(II)I" } : Jvm.MethodName)) ∈ TB := lw_in (i := 604) (by decide +kernel) rfl
set_option maxRecDepth 100000 in
theorem w_609 : (Jvm.Cond.methodLink "UnreadScript" (133 : Nat) ({ cls := "UnreadScript$Forms", name := "isSign", desc := "(I)Z" } : Jvm.MethodName)) ∈ TB := lw_in (i := 609) (by decide +kernel) rfl
set_option maxRecDepth 100000 in
theorem w_613 : (Jvm.Cond.methodLink "UnreadScript$Forms" (32 : Nat) ({ cls := "UnreadScript$Forms", name := "isForm", desc := "(I)Z" } : Jvm.MethodName)) ∈ TB := lw_in (i := 613) (by decide +kernel) rfl
set_option maxRecDepth 100000 in
theorem w_614 : (Jvm.Cond.methodLink "UnreadScript" (136 : Nat) ({ cls := "UnreadScript$Texts", name := "timesOf", desc := "(I)I" } : Jvm.MethodName)) ∈ TB := lw_in (i := 614) (by decide +kernel) rfl
set_option maxRecDepth 100000 in
theorem w_622 : (Jvm.Cond.methodLink "UnreadScript" (139 : Nat) ({ cls := "UnreadScript$Texts", name := "timesBeside", desc := "(II)I" } : Jvm.MethodName)) ∈ TB := lw_in (i := 622) (by decide +kernel) rfl
set_option maxRecDepth 100000 in
theorem w_630 : (Jvm.Cond.constantLong "UnreadScript" (142 : Nat) (-1 : Int64)) ∈ TB := lw_in (i := 630) (by decide +kernel) rfl
set_option maxRecDepth 100000 in
theorem w_631 : (Jvm.Cond.methodLink "UnreadScript" (144 : Nat) ({ cls := "UnreadScript$Texts", name := "chanceAbove", desc := "(II)J" } : Jvm.MethodName)) ∈ TB := lw_in (i := 631) (by decide +kernel) rfl
set_option maxRecDepth 100000 in
theorem w_635 : (Jvm.Cond.methodLink "UnreadScript$Texts" (105 : Nat) ({ cls := "UnreadScript$Texts", name := "timesOfAll", desc := "()I" } : Jvm.MethodName)) ∈ TB := lw_in (i := 635) (by decide +kernel) rfl
set_option maxRecDepth 100000 in
theorem w_639 : (Jvm.Cond.methodLink "UnreadScript$Texts" (109 : Nat) ({ cls := "UnreadScript$Texts", name := "timesOf", desc := "(I)I" } : Jvm.MethodName)) ∈ TB := lw_in (i := 639) (by decide +kernel) rfl
set_option maxRecDepth 100000 in
theorem w_640 : (Jvm.Cond.methodLink "UnreadScript$Texts" (112 : Nat) ({ cls := "UnreadScript$Texts", name := "placesBeside", desc := "()I" } : Jvm.MethodName)) ∈ TB := lw_in (i := 640) (by decide +kernel) rfl
set_option maxRecDepth 100000 in
theorem w_644 : (Jvm.Cond.methodLink "UnreadScript" (148 : Nat) ({ cls := "UnreadScript$Texts", name := "chanceBelow", desc := "()J" } : Jvm.MethodName)) ∈ TB := lw_in (i := 644) (by decide +kernel) rfl
set_option maxRecDepth 100000 in
theorem w_648 : (Jvm.Cond.constantLong "UnreadScript$Texts" (115 : Nat) (2 : Int64)) ∈ TB := lw_in (i := 648) (by decide +kernel) rfl
set_option maxRecDepth 100000 in
theorem w_649 : (Jvm.Cond.methodLink "UnreadScript" (152 : Nat) ({ cls := "UnreadScript$Texts", name := "greatestShared", desc := "(JJ)J" } : Jvm.MethodName)) ∈ TB := lw_in (i := 649) (by decide +kernel) rfl
set_option maxRecDepth 100000 in
theorem w_656 : (Jvm.Cond.methodLink "UnreadScript" (156 : Nat) ({ cls := "UnreadScript$Texts", name := "likeEdges", desc := "(Z)I" } : Jvm.MethodName)) ∈ TB := lw_in (i := 656) (by decide +kernel) rfl
set_option maxRecDepth 100000 in
theorem w_660 : (Jvm.Cond.methodLink "UnreadScript$Texts" (117 : Nat) ({ cls := "UnreadScript$Texts", name := "lastSignOfWord", desc := "(I)I" } : Jvm.MethodName)) ∈ TB := lw_in (i := 660) (by decide +kernel) rfl
set_option maxRecDepth 100000 in
theorem w_664 : (Jvm.Cond.methodLink "UnreadScript$Texts" (78 : Nat) ({ cls := "UnreadScript$Texts", name := "lengthOfWord", desc := "(I)I" } : Jvm.MethodName)) ∈ TB := lw_in (i := 664) (by decide +kernel) rfl
set_option maxRecDepth 100000 in
theorem w_668 : (Jvm.Cond.methodLink "UnreadScript$Texts" (81 : Nat) ({ cls := "UnreadScript$Texts", name := "signOfWord", desc := "(II)I" } : Jvm.MethodName)) ∈ TB := lw_in (i := 668) (by decide +kernel) rfl
set_option maxRecDepth 100000 in
theorem w_672 : (Jvm.Cond.methodLink "UnreadScript" (160 : Nat) ({ cls := "java/lang/Integer", name := "compare", desc := "(II)I" } : Jvm.MethodName)) ∈ TB := lw_in (i := 672) (by decide +kernel) rfl
set_option maxRecDepth 100000 in
theorem w_679 : (Jvm.Cond.methodLink "UnreadScript" (165 : Nat) ({ cls := "UnreadScript$Kinship", name := "akinOf", desc := "(II)I" } : Jvm.MethodName)) ∈ TB := lw_in (i := 679) (by decide +kernel) rfl
set_option maxRecDepth 100000 in
theorem w_683 : (Jvm.Cond.methodLink "UnreadScript$Kinship" (51 : Nat) ({ cls := "UnreadScript$Kinship", name := "gatherEndings", desc := "()V" } : Jvm.MethodName)) ∈ TB := lw_in (i := 683) (by decide +kernel) rfl
set_option maxRecDepth 100000 in
theorem w_687 : (Jvm.Cond.methodLink "UnreadScript$Kinship" (79 : Nat) ({ cls := "UnreadScript$Texts", name := "words", desc := "()I" } : Jvm.MethodName)) ∈ TB := lw_in (i := 687) (by decide +kernel) rfl
set_option maxRecDepth 100000 in
theorem w_691 : (Jvm.Cond.methodLink "UnreadScript$Kinship" (83 : Nat) ({ cls := "UnreadScript$Kinship", name := "firstOfStem", desc := "(I)I" } : Jvm.MethodName)) ∈ TB := lw_in (i := 691) (by decide +kernel) rfl
set_option maxRecDepth 100000 in
theorem w_695 : (Jvm.Cond.methodLink "UnreadScript$Kinship" (90 : Nat) ({ cls := "UnreadScript$Texts", name := "isWhole", desc := "(I)Z" } : Jvm.MethodName)) ∈ TB := lw_in (i := 695) (by decide +kernel) rfl
set_option maxRecDepth 100000 in
theorem w_696 : (Jvm.Cond.methodLink "UnreadScript$Kinship" (93 : Nat) ({ cls := "UnreadScript$Texts", name := "lengthOfWord", desc := "(I)I" } : Jvm.MethodName)) ∈ TB := lw_in (i := 696) (by decide +kernel) rfl
set_option maxRecDepth 100000 in
theorem w_697 : (Jvm.Cond.methodLink "UnreadScript$Kinship" (96 : Nat) ({ cls := "UnreadScript$Texts", name := "haveOneStem", desc := "(II)Z" } : Jvm.MethodName)) ∈ TB := lw_in (i := 697) (by decide +kernel) rfl
set_option maxRecDepth 100000 in
theorem w_701 : (Jvm.Cond.methodLink "UnreadScript$Kinship" (87 : Nat) ({ cls := "UnreadScript$Texts", name := "lastSignOfWord", desc := "(I)I" } : Jvm.MethodName)) ∈ TB := lw_in (i := 701) (by decide +kernel) rfl
set_option maxRecDepth 100000 in
theorem w_702 : (Jvm.Cond.methodLink "UnreadScript$Kinship" (54 : Nat) ({ cls := "UnreadScript$Kinship", name := "stemsOfBoth", desc := "(II)I" } : Jvm.MethodName)) ∈ TB := lw_in (i := 702) (by decide +kernel) rfl
set_option maxRecDepth 100000 in
theorem w_710 : (Jvm.Cond.methodLink "UnreadScript" (168 : Nat) ({ cls := "UnreadScript$Kinship", name := "tellApart", desc := "(III)I" } : Jvm.MethodName)) ∈ TB := lw_in (i := 710) (by decide +kernel) rfl
set_option maxRecDepth 100000 in
theorem w_714 : (Jvm.Cond.methodLink "UnreadScript$Kinship" (47 : Nat) ({ cls := "UnreadScript$Forms", name := "isForm", desc := "(I)Z" } : Jvm.MethodName)) ∈ TB := lw_in (i := 714) (by decide +kernel) rfl
set_option maxRecDepth 100000 in
theorem w_719 : (Jvm.Cond.methodLink "UnreadScript" (172 : Nat) ({ cls := "UnreadScript$Kinship", name := "tell", desc := "(II)I" } : Jvm.MethodName)) ∈ TB := lw_in (i := 719) (by decide +kernel) rfl
set_option maxRecDepth 100000 in
theorem w_723 : (Jvm.Cond.methodLink "UnreadScript$Kinship" (58 : Nat) ({ cls := "UnreadScript$Kinship", name := "measureAkin", desc := "()V" } : Jvm.MethodName)) ∈ TB := lw_in (i := 723) (by decide +kernel) rfl
set_option maxRecDepth 100000 in
theorem w_727 : (Jvm.Cond.methodLink "UnreadScript$Kinship" (61 : Nat) ({ cls := "UnreadScript$Kinship", name := "measureApart", desc := "()V" } : Jvm.MethodName)) ∈ TB := lw_in (i := 727) (by decide +kernel) rfl
set_option maxRecDepth 100000 in
theorem w_731 : (Jvm.Cond.methodLink "UnreadScript$Kinship" (100 : Nat) ({ cls := "UnreadScript$Forms", name := "size", desc := "()I" } : Jvm.MethodName)) ∈ TB := lw_in (i := 731) (by decide +kernel) rfl
set_option maxRecDepth 100000 in
theorem w_735 : (Jvm.Cond.methodLink "UnreadScript$Kinship" (102 : Nat) ({ cls := "UnreadScript$Forms", name := "signOf", desc := "(I)I" } : Jvm.MethodName)) ∈ TB := lw_in (i := 735) (by decide +kernel) rfl
set_option maxRecDepth 100000 in
theorem w_736 : (Jvm.Cond.methodLink "UnreadScript$Kinship" (105 : Nat) ({ cls := "java/lang/Math", name := "max", desc := "(II)I" } : Jvm.MethodName)) ∈ TB := lw_in (i := 736) (by decide +kernel) rfl
set_option maxRecDepth 100000 in
theorem w_737 : (Jvm.Cond.methodLink "UnreadScript$Kinship" (64 : Nat) ({ cls := "UnreadScript$Kinship", name := "seatBound", desc := "()V" } : Jvm.MethodName)) ∈ TB := lw_in (i := 737) (by decide +kernel) rfl
set_option maxRecDepth 100000 in
theorem w_741 : (Jvm.Cond.methodLink "UnreadScript$Kinship" (110 : Nat) ({ cls := "UnreadScript$Kinship", name := "isBound", desc := "(I)Z" } : Jvm.MethodName)) ∈ TB := lw_in (i := 741) (by decide +kernel) rfl
set_option maxRecDepth 100000 in
theorem w_745 : (Jvm.Cond.constant "UnreadScript$Kinship" (67 : Nat) (1073741824 : Int32)) ∈ TB := lw_in (i := 745) (by decide +kernel) rfl
set_option maxRecDepth 100000 in
theorem w_746 : (Jvm.Cond.methodLink "UnreadScript$Kinship" (72 : Nat) ({ cls := "UnreadScript$Kinship", name := "seat", desc := "(LUnreadScript$Kinship;III)V" } : Jvm.MethodName)) ∈ TB := lw_in (i := 746) (by decide +kernel) rfl
set_option maxRecDepth 100000 in
theorem w_761 : (Jvm.Cond.methodLink "UnreadScript" (173 : Nat) ({ cls := "UnreadScript$Accounts", name := "add", desc := "(II)I" } : Jvm.MethodName)) ∈ TB := lw_in (i := 761) (by decide +kernel) rfl
set_option maxRecDepth 100000 in
theorem w_765 : (Jvm.Cond.methodLink "UnreadScript$Accounts" (30 : Nat) ({ cls := "UnreadScript$Accounts", name := "areStanding", desc := "(I)Z" } : Jvm.MethodName)) ∈ TB := lw_in (i := 765) (by decide +kernel) rfl
set_option maxRecDepth 100000 in
theorem w_768 : (Jvm.Cond.methodLink "UnreadScript$Accounts" (34 : Nat) ({ cls := "UnreadScript$Accounts", name := "standing", desc := "(II)I" } : Jvm.MethodName)) ∈ TB := lw_in (i := 768) (by decide +kernel) rfl
set_option maxRecDepth 100000 in
theorem w_775 : (Jvm.Cond.methodLink "UnreadScript" (175 : Nat) ({ cls := "UnreadScript$Accounts", name := "tellFits", desc := "(I)I" } : Jvm.MethodName)) ∈ TB := lw_in (i := 775) (by decide +kernel) rfl
set_option maxRecDepth 100000 in
theorem w_779 : (Jvm.Cond.methodLink "UnreadScript$Accounts" (38 : Nat) ({ cls := "UnreadScript$Accounts", name := "search", desc := "()V" } : Jvm.MethodName)) ∈ TB := lw_in (i := 779) (by decide +kernel) rfl
set_option maxRecDepth 100000 in
theorem w_783 : (Jvm.Cond.methodLink "UnreadScript$Accounts" (56 : Nat) ({ cls := "UnreadScript$Accounts", name := "areUnlike", desc := "()Z" } : Jvm.MethodName)) ∈ TB := lw_in (i := 783) (by decide +kernel) rfl
set_option maxRecDepth 100000 in
theorem w_787 : (Jvm.Cond.methodLink "UnreadScript$Accounts" (48 : Nat) ({ cls := "java/lang/Integer", name := "bitCount", desc := "(I)I" } : Jvm.MethodName)) ∈ TB := lw_in (i := 787) (by decide +kernel) rfl
set_option maxRecDepth 100000 in
theorem w_788 : (Jvm.Cond.methodLink "UnreadScript$Accounts" (60 : Nat) ({ cls := "UnreadScript$Accounts", name := "doAddUp", desc := "()Z" } : Jvm.MethodName)) ∈ TB := lw_in (i := 788) (by decide +kernel) rfl
set_option maxRecDepth 100000 in
theorem w_792 : (Jvm.Cond.methodLink "UnreadScript$Accounts" (44 : Nat) ({ cls := "UnreadScript$Accounts", name := "valueOf", desc := "(I)I" } : Jvm.MethodName)) ∈ TB := lw_in (i := 792) (by decide +kernel) rfl
set_option maxRecDepth 100000 in
theorem w_795 : (Jvm.Cond.fieldLink "UnreadScript$Accounts" (53 : Nat) "UnreadScript$Accounts" "LIST" "[I") ∈ TB := lw_in (i := 795) (by decide +kernel) rfl
set_option maxRecDepth 100000 in
theorem w_797 : (Jvm.Cond.methodLink "UnreadScript$Accounts" (63 : Nat) ({ cls := "UnreadScript$Accounts", name := "keep", desc := "()V" } : Jvm.MethodName)) ∈ TB := lw_in (i := 797) (by decide +kernel) rfl
set_option maxRecDepth 100000 in
theorem w_805 : (Jvm.Cond.methodLink "UnreadScript" (178 : Nat) ({ cls := "UnreadScript$Accounts", name := "valuesSeen", desc := "(I)I" } : Jvm.MethodName)) ∈ TB := lw_in (i := 805) (by decide +kernel) rfl
set_option maxRecDepth 100000 in
theorem w_813 : (Jvm.Cond.methodLink "UnreadScript" (181 : Nat) ({ cls := "UnreadScript$Names", name := "add", desc := "(II)I" } : Jvm.MethodName)) ∈ TB := lw_in (i := 813) (by decide +kernel) rfl
set_option maxRecDepth 100000 in
theorem w_817 : (Jvm.Cond.methodLink "UnreadScript$Names" (28 : Nat) ({ cls := "UnreadScript$Names", name := "areSounds", desc := "(III)Z" } : Jvm.MethodName)) ∈ TB := lw_in (i := 817) (by decide +kernel) rfl
set_option maxRecDepth 100000 in
theorem w_824 : (Jvm.Cond.methodLink "UnreadScript" (182 : Nat) ({ cls := "UnreadScript$Names", name := "drag", desc := "(III)I" } : Jvm.MethodName)) ∈ TB := lw_in (i := 824) (by decide +kernel) rfl
set_option maxRecDepth 100000 in
theorem w_828 : (Jvm.Cond.methodLink "UnreadScript$Names" (32 : Nat) ({ cls := "UnreadScript$Names", name := "isName", desc := "(I)Z" } : Jvm.MethodName)) ∈ TB := lw_in (i := 828) (by decide +kernel) rfl
set_option maxRecDepth 100000 in
theorem w_832 : (Jvm.Cond.methodLink "UnreadScript$Names" (36 : Nat) ({ cls := "UnreadScript$Texts", name := "isText", desc := "(I)Z" } : Jvm.MethodName)) ∈ TB := lw_in (i := 832) (by decide +kernel) rfl
set_option maxRecDepth 100000 in
theorem w_833 : (Jvm.Cond.methodLink "UnreadScript$Names" (41 : Nat) ({ cls := "UnreadScript$Texts", name := "lengthOf", desc := "(I)I" } : Jvm.MethodName)) ∈ TB := lw_in (i := 833) (by decide +kernel) rfl
set_option maxRecDepth 100000 in
theorem w_834 : (Jvm.Cond.methodLink "UnreadScript$Names" (45 : Nat) ({ cls := "UnreadScript$Names", name := "fits", desc := "(III)Z" } : Jvm.MethodName)) ∈ TB := lw_in (i := 834) (by decide +kernel) rfl
set_option maxRecDepth 100000 in
theorem w_838 : (Jvm.Cond.methodLink "UnreadScript$Names" (52 : Nat) ({ cls := "UnreadScript$Texts", name := "signAt", desc := "(II)I" } : Jvm.MethodName)) ∈ TB := lw_in (i := 838) (by decide +kernel) rfl
set_option maxRecDepth 100000 in
theorem w_839 : (Jvm.Cond.methodLink "UnreadScript$Names" (48 : Nat) ({ cls := "UnreadScript$Names", name := "agree", desc := "(IIIIII)Z" } : Jvm.MethodName)) ∈ TB := lw_in (i := 839) (by decide +kernel) rfl
set_option maxRecDepth 100000 in
theorem w_847 : (Jvm.Cond.methodLink "UnreadScript" (185 : Nat) ({ cls := "UnreadScript$Names", name := "pairs", desc := "(IIII)I" } : Jvm.MethodName)) ∈ TB := lw_in (i := 847) (by decide +kernel) rfl
set_option maxRecDepth 100000 in
theorem w_855 : (Jvm.Cond.methodLink "UnreadScript" (189 : Nat) ({ cls := "UnreadScript$Tongue", name := "add", desc := "(II)I" } : Jvm.MethodName)) ∈ TB := lw_in (i := 855) (by decide +kernel) rfl
set_option maxRecDepth 100000 in
theorem w_859 : (Jvm.Cond.methodLink "UnreadScript$Tongue" (54 : Nat) ({ cls := "UnreadScript$Names", name := "areSounds", desc := "(III)Z" } : Jvm.MethodName)) ∈ TB := lw_in (i := 859) (by decide +kernel) rfl
set_option maxRecDepth 100000 in
theorem w_860 : (Jvm.Cond.methodLink "UnreadScript$Tongue" (60 : Nat) ({ cls := "UnreadScript$Tongue", name := "keyOf", desc := "(II)I" } : Jvm.MethodName)) ∈ TB := lw_in (i := 860) (by decide +kernel) rfl
set_option maxRecDepth 100000 in
theorem w_863 : (Jvm.Cond.methodLink "UnreadScript$Tongue" (64 : Nat) ({ cls := "UnreadScript$Tongue", name := "isWord", desc := "(I)Z" } : Jvm.MethodName)) ∈ TB := lw_in (i := 863) (by decide +kernel) rfl
set_option maxRecDepth 100000 in
theorem w_871 : (Jvm.Cond.methodLink "UnreadScript" (190 : Nat) ({ cls := "UnreadScript$Tongue", name := "signAt", desc := "(I)I" } : Jvm.MethodName)) ∈ TB := lw_in (i := 871) (by decide +kernel) rfl
set_option maxRecDepth 100000 in
theorem w_875 : (Jvm.Cond.methodLink "UnreadScript$Tongue" (68 : Nat) ({ cls := "UnreadScript$Tongue", name := "rank", desc := "()V" } : Jvm.MethodName)) ∈ TB := lw_in (i := 875) (by decide +kernel) rfl
set_option maxRecDepth 100000 in
theorem w_879 : (Jvm.Cond.methodLink "UnreadScript$Tongue" (106 : Nat) ({ cls := "UnreadScript$Texts", name := "timesOf", desc := "(I)I" } : Jvm.MethodName)) ∈ TB := lw_in (i := 879) (by decide +kernel) rfl
set_option maxRecDepth 100000 in
theorem w_880 : (Jvm.Cond.methodLink "UnreadScript$Tongue" (110 : Nat) ({ cls := "UnreadScript$Tongue", name := "mostFrequentLeft", desc := "()I" } : Jvm.MethodName)) ∈ TB := lw_in (i := 880) (by decide +kernel) rfl
set_option maxRecDepth 100000 in
theorem w_888 : (Jvm.Cond.methodLink "UnreadScript" (193 : Nat) ({ cls := "UnreadScript$Tongue", name := "readWith", desc := "(II)I" } : Jvm.MethodName)) ∈ TB := lw_in (i := 888) (by decide +kernel) rfl
set_option maxRecDepth 100000 in
theorem w_892 : (Jvm.Cond.methodLink "UnreadScript$Tongue" (74 : Nat) ({ cls := "UnreadScript$Texts", name := "areTexts", desc := "(I)Z" } : Jvm.MethodName)) ∈ TB := lw_in (i := 892) (by decide +kernel) rfl
set_option maxRecDepth 100000 in
theorem w_896 : (Jvm.Cond.methodLink "UnreadScript$Tongue" (77 : Nat) ({ cls := "UnreadScript$Tongue", name := "tables", desc := "()I" } : Jvm.MethodName)) ∈ TB := lw_in (i := 896) (by decide +kernel) rfl
set_option maxRecDepth 100000 in
theorem w_900 : (Jvm.Cond.methodLink "UnreadScript$Tongue" (81 : Nat) ({ cls := "UnreadScript$Tongue", name := "collect", desc := "(I)V" } : Jvm.MethodName)) ∈ TB := lw_in (i := 900) (by decide +kernel) rfl
set_option maxRecDepth 100000 in
theorem w_904 : (Jvm.Cond.methodLink "UnreadScript$Tongue" (116 : Nat) ({ cls := "UnreadScript$Texts", name := "words", desc := "()I" } : Jvm.MethodName)) ∈ TB := lw_in (i := 904) (by decide +kernel) rfl
set_option maxRecDepth 100000 in
theorem w_905 : (Jvm.Cond.methodLink "UnreadScript$Tongue" (118 : Nat) ({ cls := "UnreadScript$Texts", name := "textOfWord", desc := "(I)I" } : Jvm.MethodName)) ∈ TB := lw_in (i := 905) (by decide +kernel) rfl
set_option maxRecDepth 100000 in
theorem w_909 : (Jvm.Cond.methodLink "UnreadScript$Tongue" (121 : Nat) ({ cls := "UnreadScript$Tongue", name := "collectWord", desc := "(I)V" } : Jvm.MethodName)) ∈ TB := lw_in (i := 909) (by decide +kernel) rfl
set_option maxRecDepth 100000 in
theorem w_913 : (Jvm.Cond.methodLink "UnreadScript$Tongue" (124 : Nat) ({ cls := "UnreadScript$Texts", name := "lengthOfWord", desc := "(I)I" } : Jvm.MethodName)) ∈ TB := lw_in (i := 913) (by decide +kernel) rfl
set_option maxRecDepth 100000 in
theorem w_914 : (Jvm.Cond.methodLink "UnreadScript$Tongue" (127 : Nat) ({ cls := "UnreadScript$Texts", name := "signOfWord", desc := "(II)I" } : Jvm.MethodName)) ∈ TB := lw_in (i := 914) (by decide +kernel) rfl
set_option maxRecDepth 100000 in
theorem w_915 : (Jvm.Cond.methodLink "UnreadScript$Tongue" (130 : Nat) ({ cls := "UnreadScript$Tongue", name := "placeOf", desc := "(I)I" } : Jvm.MethodName)) ∈ TB := lw_in (i := 915) (by decide +kernel) rfl
set_option maxRecDepth 100000 in
theorem w_919 : (Jvm.Cond.methodLink "UnreadScript$Tongue" (85 : Nat) ({ cls := "UnreadScript$Tongue", name := "spread", desc := "(I)V" } : Jvm.MethodName)) ∈ TB := lw_in (i := 919) (by decide +kernel) rfl
set_option maxRecDepth 100000 in
theorem w_923 : (Jvm.Cond.methodLink "UnreadScript$Tongue" (88 : Nat) ({ cls := "UnreadScript$Tongue", name := "readNow", desc := "()I" } : Jvm.MethodName)) ∈ TB := lw_in (i := 923) (by decide +kernel) rfl
set_option maxRecDepth 100000 in
theorem w_931 : (Jvm.Cond.methodLink "UnreadScript" (196 : Nat) ({ cls := "UnreadScript$Tongue", name := "tellBest", desc := "(II)I" } : Jvm.MethodName)) ∈ TB := lw_in (i := 931) (by decide +kernel) rfl
set_option maxRecDepth 100000 in
theorem w_935 : (Jvm.Cond.methodLink "UnreadScript$Tongue" (91 : Nat) ({ cls := "UnreadScript$Tongue", name := "searchBest", desc := "()V" } : Jvm.MethodName)) ∈ TB := lw_in (i := 935) (by decide +kernel) rfl
set_option maxRecDepth 100000 in
theorem w_939 : (Jvm.Cond.methodLink "UnreadScript$Tongue" (133 : Nat) ({ cls := "UnreadScript$Tongue", name := "weigh", desc := "(I)V" } : Jvm.MethodName)) ∈ TB := lw_in (i := 939) (by decide +kernel) rfl
set_option maxRecDepth 100000 in
theorem w_943 : (Jvm.Cond.methodLink "UnreadScript$Tongue" (94 : Nat) ({ cls := "UnreadScript$Tongue", name := "packBest", desc := "()I" } : Jvm.MethodName)) ∈ TB := lw_in (i := 943) (by decide +kernel) rfl
set_option maxRecDepth 100000 in
theorem w_951 : (Jvm.Cond.methodLink "UnreadScript" (199 : Nat) ({ cls := "UnreadScript$Tongue", name := "holdAgainst", desc := "(III)I" } : Jvm.MethodName)) ∈ TB := lw_in (i := 951) (by decide +kernel) rfl
set_option maxRecDepth 100000 in
theorem w_955 : (Jvm.Cond.methodLink "UnreadScript$Tongue" (103 : Nat) ({ cls := "UnreadScript$Tongue", name := "tellShuffles", desc := "(II)I" } : Jvm.MethodName)) ∈ TB := lw_in (i := 955) (by decide +kernel) rfl
set_option maxRecDepth 100000 in
theorem w_959 : (Jvm.Cond.methodLink "UnreadScript$Tongue" (136 : Nat) ({ cls := "UnreadScript$Tongue", name := "nextOrder", desc := "()Z" } : Jvm.MethodName)) ∈ TB := lw_in (i := 959) (by decide +kernel) rfl
set_option maxRecDepth 100000 in
theorem w_963 : (Jvm.Cond.methodLink "UnreadScript$Tongue" (140 : Nat) ({ cls := "UnreadScript$Tongue", name := "exchange", desc := "(II)V" } : Jvm.MethodName)) ∈ TB := lw_in (i := 963) (by decide +kernel) rfl
set_option maxRecDepth 100000 in
theorem w_971 : (Jvm.Cond.methodLink "UnreadScript" (202 : Nat) ({ cls := "UnreadScript$Tape", name := "append", desc := "(J)I" } : Jvm.MethodName)) ∈ TB := lw_in (i := 971) (by decide +kernel) rfl
set_option maxRecDepth 100000 in
theorem w_979 : (Jvm.Cond.methodLink "UnreadScript" (206 : Nat) ({ cls := "UnreadScript$Tape", name := "cut", desc := "(I)I" } : Jvm.MethodName)) ∈ TB := lw_in (i := 979) (by decide +kernel) rfl
set_option maxRecDepth 100000 in
theorem w_987 : (Jvm.Cond.methodLink "UnreadScript" (209 : Nat) ({ cls := "UnreadScript$Claims", name := "take", desc := "()I" } : Jvm.MethodName)) ∈ TB := lw_in (i := 987) (by decide +kernel) rfl
set_option maxRecDepth 100000 in
theorem w_991 : (Jvm.Cond.methodLink "UnreadScript$Claims" (44 : Nat) ({ cls := "UnreadScript$Tape", name := "rewind", desc := "()V" } : Jvm.MethodName)) ∈ TB := lw_in (i := 991) (by decide +kernel) rfl
set_option maxRecDepth 100000 in
theorem w_995 : (Jvm.Cond.methodLink "UnreadScript$Claims" (55 : Nat) ({ cls := "UnreadScript$Tape", name := "nextToken", desc := "()I" } : Jvm.MethodName)) ∈ TB := lw_in (i := 995) (by decide +kernel) rfl
set_option maxRecDepth 100000 in
theorem w_999 : (Jvm.Cond.methodLink "UnreadScript$Tape" (28 : Nat) ({ cls := "UnreadScript$Tape", name := "isLetter", desc := "(B)Z" } : Jvm.MethodName)) ∈ TB := lw_in (i := 999) (by decide +kernel) rfl
set_option maxRecDepth 100000 in
theorem w_1002 : (Jvm.Cond.methodLink "UnreadScript$Tape" (32 : Nat) ({ cls := "UnreadScript$Tape", name := "takeName", desc := "()I" } : Jvm.MethodName)) ∈ TB := lw_in (i := 1002) (by decide +kernel) rfl
set_option maxRecDepth 100000 in
theorem w_1007 : (Jvm.Cond.methodLink "UnreadScript$Tape" (44 : Nat) ({ cls := "UnreadScript$Tape", name := "reads", desc := "(Ljava/lang/String;)Z" } : Jvm.MethodName)) ∈ TB := lw_in (i := 1007) (by decide +kernel) rfl
set_option maxRecDepth 100000 in
theorem w_1059 : (Jvm.Cond.methodLink "UnreadScript$Tape" (48 : Nat) ({ cls := "UnreadScript$Tape", name := "kindName", desc := "(I)Ljava/lang/String;" } : Jvm.MethodName)) ∈ TB := lw_in (i := 1059) (by decide +kernel) rfl
set_option maxRecDepth 100000 in
theorem w_1067 : (Jvm.Cond.methodLink "UnreadScript$Tape" (36 : Nat) ({ cls := "UnreadScript$Tape", name := "isFigure", desc := "(B)Z" } : Jvm.MethodName)) ∈ TB := lw_in (i := 1067) (by decide +kernel) rfl
set_option maxRecDepth 100000 in
theorem w_1070 : (Jvm.Cond.methodLink "UnreadScript$Tape" (39 : Nat) ({ cls := "UnreadScript$Tape", name := "takeNumber", desc := "()I" } : Jvm.MethodName)) ∈ TB := lw_in (i := 1070) (by decide +kernel) rfl
set_option maxRecDepth 100000 in
theorem w_1074 : (Jvm.Cond.methodLink "UnreadScript$Claims" (59 : Nat) ({ cls := "UnreadScript$Tape", name := "value", desc := "()I" } : Jvm.MethodName)) ∈ TB := lw_in (i := 1074) (by decide +kernel) rfl
set_option maxRecDepth 100000 in
theorem w_1078 : (Jvm.Cond.methodLink "UnreadScript$Claims" (62 : Nat) ({ cls := "UnreadScript$Claims", name := "follow", desc := "(II)I" } : Jvm.MethodName)) ∈ TB := lw_in (i := 1078) (by decide +kernel) rfl
set_option maxRecDepth 100000 in
theorem w_1082 : (Jvm.Cond.methodLink "UnreadScript$Claims" (73 : Nat) ({ cls := "UnreadScript$Claims", name := "open", desc := "(I)I" } : Jvm.MethodName)) ∈ TB := lw_in (i := 1082) (by decide +kernel) rfl
set_option maxRecDepth 100000 in
theorem w_1086 : (Jvm.Cond.methodLink "UnreadScript$Claims" (76 : Nat) ({ cls := "UnreadScript$Claims", name := "tellAbout", desc := "(I)I" } : Jvm.MethodName)) ∈ TB := lw_in (i := 1086) (by decide +kernel) rfl
set_option maxRecDepth 100000 in
theorem w_1090 : (Jvm.Cond.methodLink "UnreadScript$Claims" (79 : Nat) ({ cls := "UnreadScript$Claims", name := "hang", desc := "(I)I" } : Jvm.MethodName)) ∈ TB := lw_in (i := 1090) (by decide +kernel) rfl
set_option maxRecDepth 100000 in
theorem w_1094 : (Jvm.Cond.methodLink "UnreadScript$Claims" (85 : Nat) ({ cls := "UnreadScript$Claims", name := "hangs", desc := "(II)Z" } : Jvm.MethodName)) ∈ TB := lw_in (i := 1094) (by decide +kernel) rfl
set_option maxRecDepth 100000 in
theorem w_1098 : (Jvm.Cond.methodLink "UnreadScript$Claims" (89 : Nat) ({ cls := "java/lang/Math", name := "max", desc := "(II)I" } : Jvm.MethodName)) ∈ TB := lw_in (i := 1098) (by decide +kernel) rfl
set_option maxRecDepth 100000 in
theorem w_1099 : (Jvm.Cond.methodLink "UnreadScript$Claims" (82 : Nat) ({ cls := "UnreadScript$Claims", name := "goOnOrStop", desc := "(I)I" } : Jvm.MethodName)) ∈ TB := lw_in (i := 1099) (by decide +kernel) rfl
set_option maxRecDepth 100000 in
theorem w_1103 : (Jvm.Cond.methodLink "UnreadScript$Claims" (66 : Nat) ({ cls := "UnreadScript$Tape", name := "cut", desc := "(I)I" } : Jvm.MethodName)) ∈ TB := lw_in (i := 1103) (by decide +kernel) rfl
set_option maxRecDepth 100000 in
theorem w_1104 : (Jvm.Cond.methodLink "UnreadScript$Claims" (70 : Nat) ({ cls := "UnreadScript$Tape", name := "start", desc := "()I" } : Jvm.MethodName)) ∈ TB := lw_in (i := 1104) (by decide +kernel) rfl
set_option maxRecDepth 100000 in
theorem w_1112 : (Jvm.Cond.methodLink "UnreadScript" (212 : Nat) ({ cls := "UnreadScript$Claims", name := "latestFault", desc := "()I" } : Jvm.MethodName)) ∈ TB := lw_in (i := 1112) (by decide +kernel) rfl
set_option maxRecDepth 100000 in
theorem w_1120 : (Jvm.Cond.methodLink "UnreadScript" (215 : Nat) ({ cls := "UnreadScript$Claims", name := "tell", desc := "(II)I" } : Jvm.MethodName)) ∈ TB := lw_in (i := 1120) (by decide +kernel) rfl
set_option maxRecDepth 100000 in
theorem w_1124 : (Jvm.Cond.methodLink "UnreadScript$Claims" (94 : Nat) ({ cls := "UnreadScript$Claims", name := "isClaim", desc := "(I)Z" } : Jvm.MethodName)) ∈ TB := lw_in (i := 1124) (by decide +kernel) rfl
set_option maxRecDepth 100000 in
theorem w_1128 : (Jvm.Cond.methodLink "UnreadScript$Claims" (98 : Nat) ({ cls := "java/lang/Integer", name := "bitCount", desc := "(I)I" } : Jvm.MethodName)) ∈ TB := lw_in (i := 1128) (by decide +kernel) rfl
set_option maxRecDepth 100000 in
theorem w_1129 : (Jvm.Cond.methodLink "UnreadScript$Claims" (103 : Nat) ({ cls := "UnreadScript$Claims", name := "hangingOn", desc := "(I)I" } : Jvm.MethodName)) ∈ TB := lw_in (i := 1129) (by decide +kernel) rfl
set_option maxRecDepth 100000 in
theorem w_1137 : (Jvm.Cond.methodLink "UnreadScript" (216 : Nat) ({ cls := "UnreadScript$Claims", name := "takeBack", desc := "(I)I" } : Jvm.MethodName)) ∈ TB := lw_in (i := 1137) (by decide +kernel) rfl
set_option maxRecDepth 100000 in
theorem w_1145 : (Jvm.Cond.methodLink "UnreadScript" (219 : Nat) ({ cls := "UnreadScript$Claims", name := "moveDay", desc := "(I)I" } : Jvm.MethodName)) ∈ TB := lw_in (i := 1145) (by decide +kernel) rfl
set_option maxRecDepth 100000 in
theorem w_1153 : (Jvm.Cond.methodLink "UnreadScript" (222 : Nat) ({ cls := "UnreadScript$Claims", name := "knownOn", desc := "(II)I" } : Jvm.MethodName)) ∈ TB := lw_in (i := 1153) (by decide +kernel) rfl
set_option maxRecDepth 100000 in
theorem w_1157 : (Jvm.Cond.methodLink "UnreadScript$Claims" (106 : Nat) ({ cls := "UnreadScript$Claims", name := "isKnown", desc := "(II)Z" } : Jvm.MethodName)) ∈ TB := lw_in (i := 1157) (by decide +kernel) rfl
set_option maxRecDepth 100000 in
theorem w_1165 : (Jvm.Cond.methodLink "UnreadScript" (225 : Nat) ({ cls := "UnreadScript$Sheets", name := "renew", desc := "(III)I" } : Jvm.MethodName)) ∈ TB := lw_in (i := 1165) (by decide +kernel) rfl
set_option maxRecDepth 100000 in
theorem w_1169 : (Jvm.Cond.methodLink "UnreadScript$Sheets" (27 : Nat) ({ cls := "UnreadScript$Sheets", name := "isLane", desc := "(I)Z" } : Jvm.MethodName)) ∈ TB := lw_in (i := 1169) (by decide +kernel) rfl
set_option maxRecDepth 100000 in
theorem w_1174 : (Jvm.Cond.methodLink "UnreadScript" (228 : Nat) ({ cls := "UnreadScript$Sheets", name := "put", desc := "(III)I" } : Jvm.MethodName)) ∈ TB := lw_in (i := 1174) (by decide +kernel) rfl
set_option maxRecDepth 100000 in
theorem w_1178 : (Jvm.Cond.methodLink "UnreadScript$Sheets" (34 : Nat) ({ cls := "UnreadScript$Sheets", name := "lowestBits", desc := "(II)I" } : Jvm.MethodName)) ∈ TB := lw_in (i := 1178) (by decide +kernel) rfl
set_option maxRecDepth 100000 in
theorem w_1185 : (Jvm.Cond.methodLink "UnreadScript" (231 : Nat) ({ cls := "UnreadScript$Forms", name := "size", desc := "()I" } : Jvm.MethodName)) ∈ TB := lw_in (i := 1185) (by decide +kernel) rfl
set_option maxRecDepth 100000 in
theorem w_1186 : (Jvm.Cond.methodLink "UnreadScript" (234 : Nat) ({ cls := "UnreadScript$Texts", name := "size", desc := "()I" } : Jvm.MethodName)) ∈ TB := lw_in (i := 1186) (by decide +kernel) rfl
set_option maxRecDepth 100000 in
theorem w_1190 : (Jvm.Cond.methodLink "UnreadScript" (235 : Nat) ({ cls := "UnreadScript$Texts", name := "timesOfAll", desc := "()I" } : Jvm.MethodName)) ∈ TB := lw_in (i := 1190) (by decide +kernel) rfl
set_option maxRecDepth 100000 in
theorem w_1191 : (Jvm.Cond.methodLink "UnreadScript" (238 : Nat) ({ cls := "UnreadScript$Accounts", name := "size", desc := "()I" } : Jvm.MethodName)) ∈ TB := lw_in (i := 1191) (by decide +kernel) rfl
set_option maxRecDepth 100000 in
theorem w_1195 : (Jvm.Cond.methodLink "UnreadScript" (239 : Nat) ({ cls := "UnreadScript$Names", name := "size", desc := "()I" } : Jvm.MethodName)) ∈ TB := lw_in (i := 1195) (by decide +kernel) rfl
set_option maxRecDepth 100000 in
theorem w_1199 : (Jvm.Cond.methodLink "UnreadScript" (240 : Nat) ({ cls := "UnreadScript$Tongue", name := "size", desc := "()I" } : Jvm.MethodName)) ∈ TB := lw_in (i := 1199) (by decide +kernel) rfl
set_option maxRecDepth 100000 in
theorem w_1203 : (Jvm.Cond.methodLink "UnreadScript" (241 : Nat) ({ cls := "UnreadScript$Claims", name := "size", desc := "()I" } : Jvm.MethodName)) ∈ TB := lw_in (i := 1203) (by decide +kernel) rfl
set_option maxRecDepth 100000 in
theorem w_1207 : (Jvm.Cond.methodLink "UnreadScript" (242 : Nat) ({ cls := "UnreadScript$Claims", name := "withdrawn", desc := "()I" } : Jvm.MethodName)) ∈ TB := lw_in (i := 1207) (by decide +kernel) rfl
set_option maxRecDepth 100000 in
theorem w_1211 : (Jvm.Cond.methodLink "UnreadScript" (245 : Nat) ({ cls := "UnreadScript$Claims", name := "today", desc := "()I" } : Jvm.MethodName)) ∈ TB := lw_in (i := 1211) (by decide +kernel) rfl
set_option maxRecDepth 100000 in
theorem w_1215 : (Jvm.Cond.methodLink "UnreadScript" (248 : Nat) ({ cls := "UnreadScript$Tape", name := "length", desc := "()I" } : Jvm.MethodName)) ∈ TB := lw_in (i := 1215) (by decide +kernel) rfl
set_option maxRecDepth 100000 in
theorem w_1219 : (Jvm.Cond.methodLink "UnreadScript" (251 : Nat) ({ cls := "UnreadScript$Sheets", name := "lengthOf", desc := "(I)I" } : Jvm.MethodName)) ∈ TB := lw_in (i := 1219) (by decide +kernel) rfl
set_option maxRecDepth 100000 in
theorem w_1226 : (Jvm.Cond.fieldLink "UnreadScriptModel" (135 : Nat) "UnreadScriptModel" "forms" "I") ∈ TB := lw_in (i := 1226) (by decide +kernel) rfl
set_option maxRecDepth 100000 in
theorem w_1227 : (Jvm.Cond.fieldLink "UnreadScriptModel" (7 : Nat) "UnreadScriptModel" "features" "[I") ∈ TB := lw_in (i := 1227) (by decide +kernel) rfl
set_option maxRecDepth 100000 in
theorem w_1228 : (Jvm.Cond.fieldLink "UnreadScriptModel" (13 : Nat) "UnreadScriptModel" "likeness" "I") ∈ TB := lw_in (i := 1228) (by decide +kernel) rfl
set_option maxRecDepth 100000 in
theorem w_1229 : (Jvm.Cond.fieldLink "UnreadScriptModel" (17 : Nat) "UnreadScriptModel" "signOf" "[I") ∈ TB := lw_in (i := 1229) (by decide +kernel) rfl
set_option maxRecDepth 100000 in
theorem w_1230 : (Jvm.Cond.fieldLink "UnreadScriptModel" (164 : Nat) "UnreadScriptModel" "texts" "I") ∈ TB := lw_in (i := 1230) (by decide +kernel) rfl
set_option maxRecDepth 100000 in
theorem w_1231 : (Jvm.Cond.fieldLink "UnreadScriptModel" (20 : Nat) "UnreadScriptModel" "tMany" "[I") ∈ TB := lw_in (i := 1231) (by decide +kernel) rfl
set_option maxRecDepth 100000 in
theorem w_1232 : (Jvm.Cond.fieldLink "UnreadScriptModel" (23 : Nat) "UnreadScriptModel" "tCells" "[I") ∈ TB := lw_in (i := 1232) (by decide +kernel) rfl
set_option maxRecDepth 100000 in
theorem w_1233 : (Jvm.Cond.fieldLink "UnreadScriptModel" (167 : Nat) "UnreadScriptModel" "words" "I") ∈ TB := lw_in (i := 1233) (by decide +kernel) rfl
set_option maxRecDepth 100000 in
theorem w_1234 : (Jvm.Cond.fieldLink "UnreadScriptModel" (26 : Nat) "UnreadScriptModel" "wText" "[I") ∈ TB := lw_in (i := 1234) (by decide +kernel) rfl
set_option maxRecDepth 100000 in
theorem w_1235 : (Jvm.Cond.fieldLink "UnreadScriptModel" (29 : Nat) "UnreadScriptModel" "wFrom" "[I") ∈ TB := lw_in (i := 1235) (by decide +kernel) rfl
set_option maxRecDepth 100000 in
theorem w_1236 : (Jvm.Cond.fieldLink "UnreadScriptModel" (32 : Nat) "UnreadScriptModel" "wMany" "[I") ∈ TB := lw_in (i := 1236) (by decide +kernel) rfl
set_option maxRecDepth 100000 in
theorem w_1237 : (Jvm.Cond.fieldLink "UnreadScriptModel" (35 : Nat) "UnreadScriptModel" "isWhole" "[Z") ∈ TB := lw_in (i := 1237) (by decide +kernel) rfl
set_option maxRecDepth 100000 in
theorem w_1238 : (Jvm.Cond.fieldLink "UnreadScriptModel" (39 : Nat) "UnreadScriptModel" "edges" "[I") ∈ TB := lw_in (i := 1238) (by decide +kernel) rfl
set_option maxRecDepth 100000 in
theorem w_1239 : (Jvm.Cond.fieldLink "UnreadScriptModel" (42 : Nat) "UnreadScriptModel" "aparts" "[I") ∈ TB := lw_in (i := 1239) (by decide +kernel) rfl
set_option maxRecDepth 100000 in
theorem w_1240 : (Jvm.Cond.fieldLink "UnreadScriptModel" (45 : Nat) "UnreadScriptModel" "akins" "[I") ∈ TB := lw_in (i := 1240) (by decide +kernel) rfl
set_option maxRecDepth 100000 in
theorem w_1241 : (Jvm.Cond.fieldLink "UnreadScriptModel" (218 : Nat) "UnreadScriptModel" "gridMany" "I") ∈ TB := lw_in (i := 1241) (by decide +kernel) rfl
set_option maxRecDepth 100000 in
theorem w_1242 : (Jvm.Cond.fieldLink "UnreadScriptModel" (48 : Nat) "UnreadScriptModel" "gSign" "[I") ∈ TB := lw_in (i := 1242) (by decide +kernel) rfl
set_option maxRecDepth 100000 in
theorem w_1243 : (Jvm.Cond.fieldLink "UnreadScriptModel" (51 : Nat) "UnreadScriptModel" "gApart" "[I") ∈ TB := lw_in (i := 1243) (by decide +kernel) rfl
set_option maxRecDepth 100000 in
theorem w_1244 : (Jvm.Cond.fieldLink "UnreadScriptModel" (54 : Nat) "UnreadScriptModel" "gRow" "[I") ∈ TB := lw_in (i := 1244) (by decide +kernel) rfl
set_option maxRecDepth 100000 in
theorem w_1245 : (Jvm.Cond.fieldLink "UnreadScriptModel" (57 : Nat) "UnreadScriptModel" "bestRow" "[I") ∈ TB := lw_in (i := 1245) (by decide +kernel) rfl
set_option maxRecDepth 100000 in
theorem w_1246 : (Jvm.Cond.fieldLink "UnreadScriptModel" (240 : Nat) "UnreadScriptModel" "accounts" "I") ∈ TB := lw_in (i := 1246) (by decide +kernel) rfl
set_option maxRecDepth 100000 in
theorem w_1247 : (Jvm.Cond.fieldLink "UnreadScriptModel" (60 : Nat) "UnreadScriptModel" "items" "[I") ∈ TB := lw_in (i := 1247) (by decide +kernel) rfl
set_option maxRecDepth 100000 in
theorem w_1248 : (Jvm.Cond.fieldLink "UnreadScriptModel" (63 : Nat) "UnreadScriptModel" "totals" "[I") ∈ TB := lw_in (i := 1248) (by decide +kernel) rfl
set_option maxRecDepth 100000 in
theorem w_1249 : (Jvm.Cond.fieldLink "UnreadScriptModel" (66 : Nat) "UnreadScriptModel" "valued" "[I") ∈ TB := lw_in (i := 1249) (by decide +kernel) rfl
set_option maxRecDepth 100000 in
theorem w_1250 : (Jvm.Cond.fieldLink "UnreadScriptModel" (246 : Nat) "UnreadScriptModel" "fitting" "I") ∈ TB := lw_in (i := 1250) (by decide +kernel) rfl
set_option maxRecDepth 100000 in
theorem w_1251 : (Jvm.Cond.fieldLink "UnreadScriptModel" (69 : Nat) "UnreadScriptModel" "firstFit" "[I") ∈ TB := lw_in (i := 1251) (by decide +kernel) rfl
set_option maxRecDepth 100000 in
theorem w_1252 : (Jvm.Cond.fieldLink "UnreadScriptModel" (72 : Nat) "UnreadScriptModel" "isHad" "[Z") ∈ TB := lw_in (i := 1252) (by decide +kernel) rfl
set_option maxRecDepth 100000 in
theorem w_1253 : (Jvm.Cond.fieldLink "UnreadScriptModel" (260 : Nat) "UnreadScriptModel" "names" "I") ∈ TB := lw_in (i := 1253) (by decide +kernel) rfl
set_option maxRecDepth 100000 in
theorem w_1254 : (Jvm.Cond.fieldLink "UnreadScriptModel" (75 : Nat) "UnreadScriptModel" "nMany" "[I") ∈ TB := lw_in (i := 1254) (by decide +kernel) rfl
set_option maxRecDepth 100000 in
theorem w_1255 : (Jvm.Cond.fieldLink "UnreadScriptModel" (78 : Nat) "UnreadScriptModel" "nSounds" "[I") ∈ TB := lw_in (i := 1255) (by decide +kernel) rfl
set_option maxRecDepth 100000 in
theorem w_1256 : (Jvm.Cond.fieldLink "UnreadScriptModel" (279 : Nat) "UnreadScriptModel" "tongue" "I") ∈ TB := lw_in (i := 1256) (by decide +kernel) rfl
set_option maxRecDepth 100000 in
theorem w_1257 : (Jvm.Cond.fieldLink "UnreadScriptModel" (81 : Nat) "UnreadScriptModel" "tongueMany" "[I") ∈ TB := lw_in (i := 1257) (by decide +kernel) rfl
set_option maxRecDepth 100000 in
theorem w_1258 : (Jvm.Cond.fieldLink "UnreadScriptModel" (84 : Nat) "UnreadScriptModel" "tongueSounds" "[I") ∈ TB := lw_in (i := 1258) (by decide +kernel) rfl
set_option maxRecDepth 100000 in
theorem w_1259 : (Jvm.Cond.fieldLink "UnreadScriptModel" (282 : Nat) "UnreadScriptModel" "tabled" "I") ∈ TB := lw_in (i := 1259) (by decide +kernel) rfl
set_option maxRecDepth 100000 in
theorem w_1260 : (Jvm.Cond.fieldLink "UnreadScriptModel" (87 : Nat) "UnreadScriptModel" "table" "[I") ∈ TB := lw_in (i := 1260) (by decide +kernel) rfl
set_option maxRecDepth 100000 in
theorem w_1261 : (Jvm.Cond.fieldLink "UnreadScriptModel" (90 : Nat) "UnreadScriptModel" "spot" "[I") ∈ TB := lw_in (i := 1261) (by decide +kernel) rfl
set_option maxRecDepth 100000 in
theorem w_1262 : (Jvm.Cond.fieldLink "UnreadScriptModel" (288 : Nat) "UnreadScriptModel" "readable" "I") ∈ TB := lw_in (i := 1262) (by decide +kernel) rfl
set_option maxRecDepth 100000 in
theorem w_1263 : (Jvm.Cond.fieldLink "UnreadScriptModel" (93 : Nat) "UnreadScriptModel" "rMany" "[I") ∈ TB := lw_in (i := 1263) (by decide +kernel) rfl
set_option maxRecDepth 100000 in
theorem w_1264 : (Jvm.Cond.fieldLink "UnreadScriptModel" (96 : Nat) "UnreadScriptModel" "rPlaces" "[I") ∈ TB := lw_in (i := 1264) (by decide +kernel) rfl
set_option maxRecDepth 100000 in
theorem w_1265 : (Jvm.Cond.fieldLink "UnreadScriptModel" (99 : Nat) "UnreadScriptModel" "isWord" "[Z") ∈ TB := lw_in (i := 1265) (by decide +kernel) rfl
set_option maxRecDepth 100000 in
theorem w_1266 : (Jvm.Cond.fieldLink "UnreadScriptModel" (312 : Nat) "UnreadScriptModel" "best" "I") ∈ TB := lw_in (i := 1266) (by decide +kernel) rfl
set_option maxRecDepth 100000 in
theorem w_1267 : (Jvm.Cond.fieldLink "UnreadScriptModel" (303 : Nat) "UnreadScriptModel" "bestRead" "I") ∈ TB := lw_in (i := 1267) (by decide +kernel) rfl
set_option maxRecDepth 100000 in
theorem w_1268 : (Jvm.Cond.fieldLink "UnreadScriptModel" (306 : Nat) "UnreadScriptModel" "bestMany" "I") ∈ TB := lw_in (i := 1268) (by decide +kernel) rfl
set_option maxRecDepth 100000 in
theorem w_1269 : (Jvm.Cond.fieldLink "UnreadScriptModel" (102 : Nat) "UnreadScriptModel" "order" "[I") ∈ TB := lw_in (i := 1269) (by decide +kernel) rfl
set_option maxRecDepth 100000 in
theorem w_1270 : (Jvm.Cond.fieldLink "UnreadScriptModel" (105 : Nat) "UnreadScriptModel" "tape" "[I") ∈ TB := lw_in (i := 1270) (by decide +kernel) rfl
set_option maxRecDepth 100000 in
theorem w_1271 : (Jvm.Cond.fieldLink "UnreadScriptModel" (321 : Nat) "UnreadScriptModel" "taped" "I") ∈ TB := lw_in (i := 1271) (by decide +kernel) rfl
set_option maxRecDepth 100000 in
theorem w_1272 : (Jvm.Cond.fieldLink "UnreadScriptModel" (335 : Nat) "UnreadScriptModel" "pos" "I") ∈ TB := lw_in (i := 1272) (by decide +kernel) rfl
set_option maxRecDepth 100000 in
theorem w_1273 : (Jvm.Cond.fieldLink "UnreadScriptModel" (329 : Nat) "UnreadScriptModel" "from" "I") ∈ TB := lw_in (i := 1273) (by decide +kernel) rfl
set_option maxRecDepth 100000 in
theorem w_1274 : (Jvm.Cond.fieldLink "UnreadScriptModel" (344 : Nat) "UnreadScriptModel" "sort" "I") ∈ TB := lw_in (i := 1274) (by decide +kernel) rfl
set_option maxRecDepth 100000 in
theorem w_1275 : (Jvm.Cond.fieldLink "UnreadScriptModel" (354 : Nat) "UnreadScriptModel" "value" "I") ∈ TB := lw_in (i := 1275) (by decide +kernel) rfl
set_option maxRecDepth 100000 in
theorem w_1276 : (Jvm.Cond.fieldLink "UnreadScriptModel" (326 : Nat) "UnreadScriptModel" "fault" "I") ∈ TB := lw_in (i := 1276) (by decide +kernel) rfl
set_option maxRecDepth 100000 in
theorem w_1277 : (Jvm.Cond.fieldLink "UnreadScriptModel" (332 : Nat) "UnreadScriptModel" "wrongAt" "I") ∈ TB := lw_in (i := 1277) (by decide +kernel) rfl
set_option maxRecDepth 100000 in
theorem w_1278 : (Jvm.Cond.fieldLink "UnreadScriptModel" (374 : Nat) "UnreadScriptModel" "claims" "I") ∈ TB := lw_in (i := 1278) (by decide +kernel) rfl
set_option maxRecDepth 100000 in
theorem w_1279 : (Jvm.Cond.fieldLink "UnreadScriptModel" (108 : Nat) "UnreadScriptModel" "cKind" "[I") ∈ TB := lw_in (i := 1279) (by decide +kernel) rfl
set_option maxRecDepth 100000 in
theorem w_1280 : (Jvm.Cond.fieldLink "UnreadScriptModel" (111 : Nat) "UnreadScriptModel" "cNumber" "[I") ∈ TB := lw_in (i := 1280) (by decide +kernel) rfl
set_option maxRecDepth 100000 in
theorem w_1281 : (Jvm.Cond.fieldLink "UnreadScriptModel" (114 : Nat) "UnreadScriptModel" "cCame" "[I") ∈ TB := lw_in (i := 1281) (by decide +kernel) rfl
set_option maxRecDepth 100000 in
theorem w_1282 : (Jvm.Cond.fieldLink "UnreadScriptModel" (117 : Nat) "UnreadScriptModel" "cGone" "[I") ∈ TB := lw_in (i := 1282) (by decide +kernel) rfl
set_option maxRecDepth 100000 in
theorem w_1283 : (Jvm.Cond.fieldLink "UnreadScriptModel" (120 : Nat) "UnreadScriptModel" "cOn" "[I") ∈ TB := lw_in (i := 1283) (by decide +kernel) rfl
set_option maxRecDepth 100000 in
theorem w_1284 : (Jvm.Cond.fieldLink "UnreadScriptModel" (371 : Nat) "UnreadScriptModel" "today" "I") ∈ TB := lw_in (i := 1284) (by decide +kernel) rfl
set_option maxRecDepth 100000 in
theorem w_1285 : (Jvm.Cond.fieldLink "UnreadScriptModel" (123 : Nat) "UnreadScriptModel" "deep" "[I") ∈ TB := lw_in (i := 1285) (by decide +kernel) rfl
set_option maxRecDepth 100000 in
theorem w_1286 : (Jvm.Cond.fieldLink "UnreadScriptModel" (126 : Nat) "UnreadScriptModel" "lanes" "[I") ∈ TB := lw_in (i := 1286) (by decide +kernel) rfl
set_option maxRecDepth 100000 in
theorem w_1287 : (Jvm.Cond.fieldLink "UnreadScriptModel" (129 : Nat) "UnreadScriptModel" "sizes" "[I") ∈ TB := lw_in (i := 1287) (by decide +kernel) rfl
set_option maxRecDepth 100000 in
theorem w_1288 : (Jvm.Cond.fieldLink "UnreadScriptModel" (132 : Nat) "UnreadScriptModel" "cells" "[I") ∈ TB := lw_in (i := 1288) (by decide +kernel) rfl
set_option maxRecDepth 100000 in
theorem w_1420 : (Jvm.Cond.constantLong "UnreadScriptModel" (142 : Nat) (4095 : Int64)) ∈ TB := lw_in (i := 1420) (by decide +kernel) rfl
set_option maxRecDepth 100000 in
theorem w_1421 : (Jvm.Cond.methodLink "UnreadScriptModel" (138 : Nat) ({ cls := "UnreadScriptModel", name := "in", desc := "(JJJ)Z" } : Jvm.MethodName)) ∈ TB := lw_in (i := 1421) (by decide +kernel) rfl
set_option maxRecDepth 100000 in
theorem w_1428 : (Jvm.Cond.constantLong "UnreadScriptModel" (144 : Nat) (12 : Int64)) ∈ TB := lw_in (i := 1428) (by decide +kernel) rfl
set_option maxRecDepth 100000 in
theorem w_1433 : (Jvm.Cond.methodLink "UnreadScriptModel" (150 : Nat) ({ cls := "UnreadScriptModel", name := "findSigns", desc := "(I)V" } : Jvm.MethodName)) ∈ TB := lw_in (i := 1433) (by decide +kernel) rfl
set_option maxRecDepth 100000 in
theorem w_1437 : (Jvm.Cond.methodLink "UnreadScriptModel" (146 : Nat) ({ cls := "UnreadScriptModel", name := "bits", desc := "(I)I" } : Jvm.MethodName)) ∈ TB := lw_in (i := 1437) (by decide +kernel) rfl
set_option maxRecDepth 100000 in
theorem w_1440 : (Jvm.Cond.methodLink "UnreadScriptModel" (154 : Nat) ({ cls := "UnreadScriptModel", name := "isForm", desc := "(I)Z" } : Jvm.MethodName)) ∈ TB := lw_in (i := 1440) (by decide +kernel) rfl
set_option maxRecDepth 100000 in
theorem w_1448 : (Jvm.Cond.constantLong "UnreadScriptModel" (158 : Nat) (3 : Int64)) ∈ TB := lw_in (i := 1448) (by decide +kernel) rfl
set_option maxRecDepth 100000 in
theorem w_1449 : (Jvm.Cond.methodLink "UnreadScriptModel" (160 : Nat) ({ cls := "UnreadScriptModel", name := "signMany", desc := "()I" } : Jvm.MethodName)) ∈ TB := lw_in (i := 1449) (by decide +kernel) rfl
set_option maxRecDepth 100000 in
theorem w_1461 : (Jvm.Cond.methodLink "UnreadScriptModel" (174 : Nat) ({ cls := "UnreadScriptModel", name := "isText", desc := "(I)Z" } : Jvm.MethodName)) ∈ TB := lw_in (i := 1461) (by decide +kernel) rfl
set_option maxRecDepth 100000 in
theorem w_1465 : (Jvm.Cond.constantLong "UnreadScriptModel" (177 : Nat) (5 : Int64)) ∈ TB := lw_in (i := 1465) (by decide +kernel) rfl
set_option maxRecDepth 100000 in
theorem w_1466 : (Jvm.Cond.constantLong "UnreadScriptModel" (179 : Nat) (10 : Int64)) ∈ TB := lw_in (i := 1466) (by decide +kernel) rfl
set_option maxRecDepth 100000 in
theorem w_1467 : (Jvm.Cond.methodLink "UnreadScriptModel" (181 : Nat) ({ cls := "UnreadScriptModel", name := "findWords", desc := "()V" } : Jvm.MethodName)) ∈ TB := lw_in (i := 1467) (by decide +kernel) rfl
set_option maxRecDepth 100000 in
theorem w_1471 : (Jvm.Cond.methodLink "UnreadScriptModel" (170 : Nat) ({ cls := "UnreadScriptModel", name := "at", desc := "(II)I" } : Jvm.MethodName)) ∈ TB := lw_in (i := 1471) (by decide +kernel) rfl
set_option maxRecDepth 100000 in
theorem w_1479 : (Jvm.Cond.methodLink "UnreadScriptModel" (184 : Nat) ({ cls := "UnreadScriptModel", name := "isSign", desc := "(I)Z" } : Jvm.MethodName)) ∈ TB := lw_in (i := 1479) (by decide +kernel) rfl
set_option maxRecDepth 100000 in
theorem w_1483 : (Jvm.Cond.methodLink "UnreadScriptModel" (187 : Nat) ({ cls := "UnreadScriptModel", name := "countOf", desc := "(I)I" } : Jvm.MethodName)) ∈ TB := lw_in (i := 1483) (by decide +kernel) rfl
set_option maxRecDepth 100000 in
theorem w_1491 : (Jvm.Cond.methodLink "UnreadScriptModel" (190 : Nat) ({ cls := "UnreadScriptModel", name := "besides", desc := "(II)I" } : Jvm.MethodName)) ∈ TB := lw_in (i := 1491) (by decide +kernel) rfl
set_option maxRecDepth 100000 in
theorem w_1499 : (Jvm.Cond.constantLong "UnreadScriptModel" (193 : Nat) (-1 : Int64)) ∈ TB := lw_in (i := 1499) (by decide +kernel) rfl
set_option maxRecDepth 100000 in
theorem w_1500 : (Jvm.Cond.methodLink "UnreadScriptModel" (195 : Nat) ({ cls := "UnreadScriptModel", name := "allSigns", desc := "()I" } : Jvm.MethodName)) ∈ TB := lw_in (i := 1500) (by decide +kernel) rfl
set_option maxRecDepth 100000 in
theorem w_1504 : (Jvm.Cond.constantLong "UnreadScriptModel" (198 : Nat) (2 : Int64)) ∈ TB := lw_in (i := 1504) (by decide +kernel) rfl
set_option maxRecDepth 100000 in
theorem w_1509 : (Jvm.Cond.methodLink "UnreadScriptModel" (203 : Nat) ({ cls := "UnreadScriptModel", name := "edgeSum", desc := "(Z)I" } : Jvm.MethodName)) ∈ TB := lw_in (i := 1509) (by decide +kernel) rfl
set_option maxRecDepth 100000 in
theorem w_1513 : (Jvm.Cond.methodLink "UnreadScriptModel" (200 : Nat) ({ cls := "UnreadScriptModel", name := "wordAt", desc := "(II)I" } : Jvm.MethodName)) ∈ TB := lw_in (i := 1513) (by decide +kernel) rfl
set_option maxRecDepth 100000 in
theorem w_1521 : (Jvm.Cond.methodLink "UnreadScriptModel" (213 : Nat) ({ cls := "UnreadScriptModel", name := "findAkins", desc := "()V" } : Jvm.MethodName)) ∈ TB := lw_in (i := 1521) (by decide +kernel) rfl
set_option maxRecDepth 100000 in
theorem w_1525 : (Jvm.Cond.methodLink "UnreadScriptModel" (207 : Nat) ({ cls := "UnreadScriptModel", name := "alikeTo", desc := "(II)I" } : Jvm.MethodName)) ∈ TB := lw_in (i := 1525) (by decide +kernel) rfl
set_option maxRecDepth 100000 in
theorem w_1529 : (Jvm.Cond.methodLink "UnreadScriptModel" (210 : Nat) ({ cls := "UnreadScriptModel", name := "isFirstOfItsRow", desc := "(I)Z" } : Jvm.MethodName)) ∈ TB := lw_in (i := 1529) (by decide +kernel) rfl
set_option maxRecDepth 100000 in
theorem w_1537 : (Jvm.Cond.constantLong "UnreadScriptModel" (216 : Nat) (9 : Int64)) ∈ TB := lw_in (i := 1537) (by decide +kernel) rfl
set_option maxRecDepth 100000 in
theorem w_1542 : (Jvm.Cond.methodLink "UnreadScriptModel" (230 : Nat) ({ cls := "UnreadScriptModel", name := "findGrid", desc := "(I)I" } : Jvm.MethodName)) ∈ TB := lw_in (i := 1542) (by decide +kernel) rfl
set_option maxRecDepth 100000 in
theorem w_1546 : (Jvm.Cond.methodLink "UnreadScriptModel" (224 : Nat) ({ cls := "UnreadScriptModel", name := "findGridSigns", desc := "()V" } : Jvm.MethodName)) ∈ TB := lw_in (i := 1546) (by decide +kernel) rfl
set_option maxRecDepth 100000 in
theorem w_1550 : (Jvm.Cond.methodLink "UnreadScriptModel" (221 : Nat) ({ cls := "UnreadScriptModel", name := "apartOf", desc := "(II)I" } : Jvm.MethodName)) ∈ TB := lw_in (i := 1550) (by decide +kernel) rfl
set_option maxRecDepth 100000 in
theorem w_1554 : (Jvm.Cond.methodLink "UnreadScriptModel" (227 : Nat) ({ cls := "UnreadScriptModel", name := "quarrel", desc := "()I" } : Jvm.MethodName)) ∈ TB := lw_in (i := 1554) (by decide +kernel) rfl
set_option maxRecDepth 100000 in
theorem w_1558 : (Jvm.Cond.constantLong "UnreadScriptModel" (233 : Nat) (30 : Int64)) ∈ TB := lw_in (i := 1558) (by decide +kernel) rfl
set_option maxRecDepth 100000 in
theorem w_1563 : (Jvm.Cond.methodLink "UnreadScriptModel" (237 : Nat) ({ cls := "UnreadScriptModel", name := "isMarks", desc := "(I)Z" } : Jvm.MethodName)) ∈ TB := lw_in (i := 1563) (by decide +kernel) rfl
set_option maxRecDepth 100000 in
theorem w_1566 : (Jvm.Cond.constantLong "UnreadScriptModel" (235 : Nat) (1048575 : Int64)) ∈ TB := lw_in (i := 1566) (by decide +kernel) rfl
set_option maxRecDepth 100000 in
theorem w_1571 : (Jvm.Cond.constantLong "UnreadScriptModel" (253 : Nat) (4 : Int64)) ∈ TB := lw_in (i := 1571) (by decide +kernel) rfl
set_option maxRecDepth 100000 in
theorem w_1572 : (Jvm.Cond.methodLink "UnreadScriptModel" (255 : Nat) ({ cls := "UnreadScriptModel", name := "findValues", desc := "()V" } : Jvm.MethodName)) ∈ TB := lw_in (i := 1572) (by decide +kernel) rfl
set_option maxRecDepth 100000 in
theorem w_1576 : (Jvm.Cond.methodLink "UnreadScriptModel" (249 : Nat) ({ cls := "UnreadScriptModel", name := "doAddUp", desc := "()Z" } : Jvm.MethodName)) ∈ TB := lw_in (i := 1576) (by decide +kernel) rfl
set_option maxRecDepth 100000 in
theorem w_1580 : (Jvm.Cond.methodLink "UnreadScriptModel" (243 : Nat) ({ cls := "UnreadScriptModel", name := "listed", desc := "(I)I" } : Jvm.MethodName)) ∈ TB := lw_in (i := 1580) (by decide +kernel) rfl
set_option maxRecDepth 100000 in
theorem w_1591 : (Jvm.Cond.constantLong "UnreadScriptModel" (258 : Nat) (8 : Int64)) ∈ TB := lw_in (i := 1591) (by decide +kernel) rfl
set_option maxRecDepth 100000 in
theorem w_1596 : (Jvm.Cond.methodLink "UnreadScriptModel" (270 : Nat) ({ cls := "UnreadScriptModel", name := "isName", desc := "(I)Z" } : Jvm.MethodName)) ∈ TB := lw_in (i := 1596) (by decide +kernel) rfl
set_option maxRecDepth 100000 in
theorem w_1600 : (Jvm.Cond.methodLink "UnreadScriptModel" (273 : Nat) ({ cls := "UnreadScriptModel", name := "doesFit", desc := "(III)Z" } : Jvm.MethodName)) ∈ TB := lw_in (i := 1600) (by decide +kernel) rfl
set_option maxRecDepth 100000 in
theorem w_1604 : (Jvm.Cond.methodLink "UnreadScriptModel" (266 : Nat) ({ cls := "UnreadScriptModel", name := "doAgree", desc := "(IIIIII)Z" } : Jvm.MethodName)) ∈ TB := lw_in (i := 1604) (by decide +kernel) rfl
set_option maxRecDepth 100000 in
theorem w_1608 : (Jvm.Cond.methodLink "UnreadScriptModel" (263 : Nat) ({ cls := "UnreadScriptModel", name := "soundAt", desc := "(II)I" } : Jvm.MethodName)) ∈ TB := lw_in (i := 1608) (by decide +kernel) rfl
set_option maxRecDepth 100000 in
theorem w_1620 : (Jvm.Cond.constantLong "UnreadScriptModel" (277 : Nat) (6 : Int64)) ∈ TB := lw_in (i := 1620) (by decide +kernel) rfl
set_option maxRecDepth 100000 in
theorem w_1625 : (Jvm.Cond.methodLink "UnreadScriptModel" (285 : Nat) ({ cls := "UnreadScriptModel", name := "findTable", desc := "()V" } : Jvm.MethodName)) ∈ TB := lw_in (i := 1625) (by decide +kernel) rfl
set_option maxRecDepth 100000 in
theorem w_1633 : (Jvm.Cond.methodLink "UnreadScriptModel" (291 : Nat) ({ cls := "UnreadScriptModel", name := "areTexts", desc := "(I)Z" } : Jvm.MethodName)) ∈ TB := lw_in (i := 1633) (by decide +kernel) rfl
set_option maxRecDepth 100000 in
theorem w_1637 : (Jvm.Cond.methodLink "UnreadScriptModel" (294 : Nat) ({ cls := "UnreadScriptModel", name := "findTongue", desc := "()V" } : Jvm.MethodName)) ∈ TB := lw_in (i := 1637) (by decide +kernel) rfl
set_option maxRecDepth 100000 in
theorem w_1641 : (Jvm.Cond.methodLink "UnreadScriptModel" (297 : Nat) ({ cls := "UnreadScriptModel", name := "findReadable", desc := "(I)V" } : Jvm.MethodName)) ∈ TB := lw_in (i := 1641) (by decide +kernel) rfl
set_option maxRecDepth 100000 in
theorem w_1645 : (Jvm.Cond.methodLink "UnreadScriptModel" (300 : Nat) ({ cls := "UnreadScriptModel", name := "readBy", desc := "(I)I" } : Jvm.MethodName)) ∈ TB := lw_in (i := 1645) (by decide +kernel) rfl
set_option maxRecDepth 100000 in
theorem w_1653 : (Jvm.Cond.methodLink "UnreadScriptModel" (315 : Nat) ({ cls := "UnreadScriptModel", name := "findBest", desc := "(I)V" } : Jvm.MethodName)) ∈ TB := lw_in (i := 1653) (by decide +kernel) rfl
set_option maxRecDepth 100000 in
theorem w_1657 : (Jvm.Cond.methodLink "UnreadScriptModel" (309 : Nat) ({ cls := "UnreadScriptModel", name := "turned", desc := "(I)I" } : Jvm.MethodName)) ∈ TB := lw_in (i := 1657) (by decide +kernel) rfl
set_option maxRecDepth 100000 in
theorem w_1665 : (Jvm.Cond.methodLink "UnreadScriptModel" (318 : Nat) ({ cls := "UnreadScriptModel", name := "goesOn", desc := "()Z" } : Jvm.MethodName)) ∈ TB := lw_in (i := 1665) (by decide +kernel) rfl
set_option maxRecDepth 100000 in
theorem w_1673 : (Jvm.Cond.constantLong "UnreadScriptModel" (324 : Nat) (255 : Int64)) ∈ TB := lw_in (i := 1673) (by decide +kernel) rfl
set_option maxRecDepth 100000 in
theorem w_1682 : (Jvm.Cond.methodLink "UnreadScriptModel" (365 : Nat) ({ cls := "UnreadScriptModel", name := "next", desc := "()V" } : Jvm.MethodName)) ∈ TB := lw_in (i := 1682) (by decide +kernel) rfl
set_option maxRecDepth 100000 in
theorem w_1686 : (Jvm.Cond.methodLink "UnreadScriptModel" (338 : Nat) ({ cls := "UnreadScriptModel", name := "look", desc := "(I)I" } : Jvm.MethodName)) ∈ TB := lw_in (i := 1686) (by decide +kernel) rfl
set_option maxRecDepth 100000 in
theorem w_1690 : (Jvm.Cond.constantLong "UnreadScriptModel" (347 : Nat) (97 : Int64)) ∈ TB := lw_in (i := 1690) (by decide +kernel) rfl
set_option maxRecDepth 100000 in
theorem w_1691 : (Jvm.Cond.constantLong "UnreadScriptModel" (349 : Nat) (122 : Int64)) ∈ TB := lw_in (i := 1691) (by decide +kernel) rfl
set_option maxRecDepth 100000 in
theorem w_1692 : (Jvm.Cond.methodLink "UnreadScriptModel" (351 : Nat) ({ cls := "UnreadScriptModel", name := "nameNow", desc := "()I" } : Jvm.MethodName)) ∈ TB := lw_in (i := 1692) (by decide +kernel) rfl
set_option maxRecDepth 100000 in
theorem w_1696 : (Jvm.Cond.methodLink "UnreadScriptModel" (341 : Nat) ({ cls := "UnreadScriptModel", name := "is", desc := "(IIIIII)Z" } : Jvm.MethodName)) ∈ TB := lw_in (i := 1696) (by decide +kernel) rfl
set_option maxRecDepth 100000 in
theorem w_1700 : (Jvm.Cond.methodLink "UnreadScriptModel" (357 : Nat) ({ cls := "UnreadScriptModel", name := "wants", desc := "(ZI)V" } : Jvm.MethodName)) ∈ TB := lw_in (i := 1700) (by decide +kernel) rfl
set_option maxRecDepth 100000 in
theorem w_1704 : (Jvm.Cond.constantLong "UnreadScriptModel" (361 : Nat) (48 : Int64)) ∈ TB := lw_in (i := 1704) (by decide +kernel) rfl
set_option maxRecDepth 100000 in
theorem w_1705 : (Jvm.Cond.constantLong "UnreadScriptModel" (363 : Nat) (57 : Int64)) ∈ TB := lw_in (i := 1705) (by decide +kernel) rfl
set_option maxRecDepth 100000 in
theorem w_1706 : (Jvm.Cond.methodLink "UnreadScriptModel" (377 : Nat) ({ cls := "UnreadScriptModel", name := "readClaim", desc := "(I)I" } : Jvm.MethodName)) ∈ TB := lw_in (i := 1706) (by decide +kernel) rfl
set_option maxRecDepth 100000 in
theorem w_1710 : (Jvm.Cond.methodLink "UnreadScriptModel" (368 : Nat) ({ cls := "UnreadScriptModel", name := "readOn", desc := "(I)I" } : Jvm.MethodName)) ∈ TB := lw_in (i := 1710) (by decide +kernel) rfl
set_option maxRecDepth 100000 in
theorem w_1722 : (Jvm.Cond.methodLink "UnreadScriptModel" (380 : Nat) ({ cls := "UnreadScriptModel", name := "isClaim", desc := "(I)Z" } : Jvm.MethodName)) ∈ TB := lw_in (i := 1722) (by decide +kernel) rfl
set_option maxRecDepth 100000 in
theorem w_1726 : (Jvm.Cond.methodLink "UnreadScriptModel" (383 : Nat) ({ cls := "UnreadScriptModel", name := "hanging", desc := "(I)I" } : Jvm.MethodName)) ∈ TB := lw_in (i := 1726) (by decide +kernel) rfl
set_option maxRecDepth 100000 in
theorem w_1730 : (Jvm.Cond.methodLink "UnreadScriptModel" (386 : Nat) ({ cls := "UnreadScriptModel", name := "deepOf", desc := "(I)I" } : Jvm.MethodName)) ∈ TB := lw_in (i := 1730) (by decide +kernel) rfl
set_option maxRecDepth 100000 in
theorem w_1742 : (Jvm.Cond.constantLong "UnreadScriptModel" (389 : Nat) (99 : Int64)) ∈ TB := lw_in (i := 1742) (by decide +kernel) rfl
set_option maxRecDepth 100000 in
theorem w_1751 : (Jvm.Cond.methodLink "UnreadScriptModel" (391 : Nat) ({ cls := "UnreadScriptModel", name := "isSheet", desc := "(II)Z" } : Jvm.MethodName)) ∈ TB := lw_in (i := 1751) (by decide +kernel) rfl
set_option maxRecDepth 100000 in
theorem w_1762 : (Jvm.Cond.constantLong "UnreadScriptModel" (395 : Nat) (24 : Int64)) ∈ TB := lw_in (i := 1762) (by decide +kernel) rfl
set_option maxRecDepth 100000 in
theorem w_1763 : (Jvm.Cond.constantLong "UnreadScriptModel" (397 : Nat) (-2 : Int64)) ∈ TB := lw_in (i := 1763) (by decide +kernel) rfl
