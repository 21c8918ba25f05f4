theorem q_101 : Cond.fieldLink RX5 9 "ToolDays$Town" "round" "I" ∈ wsA := wA 101 (by decide +kernel) rfl
theorem q_102 : Cond.fieldLink RX0 24 "ToolDays$Town" "round" "I" ∈ wsA := wA 102 (by decide +kernel) rfl
theorem q_103 : Cond.fieldLink RX2 77 "ToolDays$Town" "round" "I" ∈ wsA := wA 103 (by decide +kernel) rfl
theorem q_104 : Cond.fieldLink RX4 75 "ToolDays$Town" "round" "I" ∈ wsA := wA 104 (by decide +kernel) rfl
theorem q_105 : Cond.fieldLink RX6 94 "ToolDays$Town" "round" "I" ∈ wsA := wA 105 (by decide +kernel) rfl
theorem q_106 : Cond.fieldLink RX5 15 "ToolDays$Town" "near" "I" ∈ wsA := wA 106 (by decide +kernel) rfl
theorem q_107 : Cond.fieldLink RX4 79 "ToolDays$Town" "near" "I" ∈ wsA := wA 107 (by decide +kernel) rfl
theorem q_108 : Cond.fieldLink RX0 56 "ToolDays$Town" "near" "I" ∈ wsA := wA 108 (by decide +kernel) rfl
theorem q_109 : Cond.fieldLink RX6 97 "ToolDays$Town" "near" "I" ∈ wsA := wA 109 (by decide +kernel) rfl
theorem q_110 : Cond.fieldLink RX5 18 "ToolDays$Town" "z" "I" ∈ wsA := wA 110 (by decide +kernel) rfl
theorem q_111 : Cond.fieldLink RX6 239 "ToolDays$Town" "z" "I" ∈ wsA := wA 111 (by decide +kernel) rfl
theorem q_112 : Cond.fieldLink RX5 21 "ToolDays$Town" "tools" "I" ∈ wsA := wA 112 (by decide +kernel) rfl
theorem q_113 : Cond.fieldLink RX4 81 "ToolDays$Town" "tools" "I" ∈ wsA := wA 113 (by decide +kernel) rfl
theorem q_114 : Cond.fieldLink RX6 100 "ToolDays$Town" "tools" "I" ∈ wsA := wA 114 (by decide +kernel) rfl
theorem q_115 : Cond.fieldLink RX5 24 "ToolDays$Town" "things" "I" ∈ wsA := wA 115 (by decide +kernel) rfl
theorem q_116 : Cond.fieldLink RX4 88 "ToolDays$Town" "things" "I" ∈ wsA := wA 116 (by decide +kernel) rfl
theorem q_117 : Cond.fieldLink RX6 117 "ToolDays$Town" "things" "I" ∈ wsA := wA 117 (by decide +kernel) rfl
theorem q_118 : Cond.fieldLink RX5 27 "ToolDays$Town" "orders" "I" ∈ wsA := wA 118 (by decide +kernel) rfl
theorem q_119 : Cond.fieldLink RX2 65 "ToolDays$Town" "orders" "I" ∈ wsA := wA 119 (by decide +kernel) rfl
theorem q_120 : Cond.fieldLink RX4 103 "ToolDays$Town" "orders" "I" ∈ wsA := wA 120 (by decide +kernel) rfl
theorem q_121 : Cond.fieldLink RX6 175 "ToolDays$Town" "orders" "I" ∈ wsA := wA 121 (by decide +kernel) rfl
theorem q_122 : Cond.fieldLink RX5 30 "ToolDays$Town" "toolDays" "[I" ∈ wsA := wA 122 (by decide +kernel) rfl
theorem q_123 : Cond.fieldLink RX0 19 "ToolDays$Town" "toolDays" "[I" ∈ wsA := wA 123 (by decide +kernel) rfl
theorem q_124 : Cond.fieldLink RX6 110 "ToolDays$Town" "toolDays" "[I" ∈ wsA := wA 124 (by decide +kernel) rfl
theorem q_125 : Cond.fieldLink RX5 34 "ToolDays$Town" "kinds" "[I" ∈ wsA := wA 125 (by decide +kernel) rfl
theorem q_126 : Cond.fieldLink RX0 32 "ToolDays$Town" "kinds" "[I" ∈ wsA := wA 126 (by decide +kernel) rfl
theorem q_127 : Cond.fieldLink RX6 133 "ToolDays$Town" "kinds" "[I" ∈ wsA := wA 127 (by decide +kernel) rfl
theorem q_128 : Cond.fieldLink RX5 37 "ToolDays$Town" "stepCounts" "[I" ∈ wsA := wA 128 (by decide +kernel) rfl
theorem q_129 : Cond.fieldLink RX0 49 "ToolDays$Town" "stepCounts" "[I" ∈ wsA := wA 129 (by decide +kernel) rfl
theorem q_130 : Cond.fieldLink RX2 106 "ToolDays$Town" "stepCounts" "[I" ∈ wsA := wA 130 (by decide +kernel) rfl
theorem q_131 : Cond.fieldLink RX6 130 "ToolDays$Town" "stepCounts" "[I" ∈ wsA := wA 131 (by decide +kernel) rfl
theorem q_132 : Cond.fieldLink RX5 40 "ToolDays$Town" "stepNumbers" "[I" ∈ wsA := wA 132 (by decide +kernel) rfl
theorem q_133 : Cond.fieldLink RX5 43 "ToolDays$Town" "orderNumbers" "[I" ∈ wsA := wA 133 (by decide +kernel) rfl
theorem q_134 : Cond.fieldLink RX5 46 "ToolDays$Town" "spots" "[I" ∈ wsA := wA 134 (by decide +kernel) rfl
theorem q_135 : Cond.fieldLink RX6 242 "ToolDays$Town" "spots" "[I" ∈ wsA := wA 135 (by decide +kernel) rfl
theorem q_168 : Cond.fieldLink RX3 9 "ToolDays$Tape" "bytes" "[I" ∈ wsA := wA 168 (by decide +kernel) rfl
theorem q_169 : Cond.fieldLink RX4 127 "ToolDays$Tape" "bytes" "[I" ∈ wsA := wA 169 (by decide +kernel) rfl
theorem q_170 : Cond.fieldLink RX3 15 "ToolDays$Tape" "size" "I" ∈ wsA := wA 170 (by decide +kernel) rfl
theorem q_171 : Cond.fieldLink RX6 79 "ToolDays$Tape" "size" "I" ∈ wsA := wA 171 (by decide +kernel) rfl
theorem q_172 : Cond.fieldLink RX4 155 "ToolDays$Tape" "size" "I" ∈ wsA := wA 172 (by decide +kernel) rfl
theorem q_184 : Cond.fieldLink RX0 15 "ToolDays$Almanac" "town" "LToolDays$Town;" ∈ wsA := wA 184 (by decide +kernel) rfl
theorem q_185 : Cond.fieldLink RX0 9 "ToolDays$Almanac" "runDays" "[I" ∈ wsA := wA 185 (by decide +kernel) rfl
theorem q_186 : Cond.fieldLink RX2 85 "ToolDays$Almanac" "runDays" "[I" ∈ wsA := wA 186 (by decide +kernel) rfl
theorem q_187 : Cond.fieldLink RX6 160 "ToolDays$Almanac" "runDays" "[I" ∈ wsA := wA 187 (by decide +kernel) rfl
theorem q_199 : Cond.fieldLink RX2 53 "ToolDays$Shop" "town" "LToolDays$Town;" ∈ wsA := wA 199 (by decide +kernel) rfl
theorem q_200 : Cond.fieldLink RX2 57 "ToolDays$Shop" "almanac" "LToolDays$Almanac;" ∈ wsA := wA 200 (by decide +kernel) rfl
theorem q_201 : Cond.fieldLink RX2 9 "ToolDays$Shop" "isGood" "[Z" ∈ wsA := wA 201 (by decide +kernel) rfl
theorem q_202 : Cond.fieldLink RX2 15 "ToolDays$Shop" "plotted" "[I" ∈ wsA := wA 202 (by decide +kernel) rfl
theorem q_203 : Cond.fieldLink RX2 19 "ToolDays$Shop" "hoursOn" "[I" ∈ wsA := wA 203 (by decide +kernel) rfl
theorem q_204 : Cond.fieldLink RX2 22 "ToolDays$Shop" "inUse" "[I" ∈ wsA := wA 204 (by decide +kernel) rfl
theorem q_205 : Cond.fieldLink RX2 25 "ToolDays$Shop" "uses" "I" ∈ wsA := wA 205 (by decide +kernel) rfl
theorem q_206 : Cond.fieldLink RX2 29 "ToolDays$Shop" "sequence" "[I" ∈ wsA := wA 206 (by decide +kernel) rfl
theorem q_207 : Cond.fieldLink RX2 32 "ToolDays$Shop" "toolHours" "[I" ∈ wsA := wA 207 (by decide +kernel) rfl
theorem q_208 : Cond.fieldLink RX6 203 "ToolDays$Shop" "toolHours" "[I" ∈ wsA := wA 208 (by decide +kernel) rfl
theorem q_209 : Cond.fieldLink RX2 35 "ToolDays$Shop" "worth" "I" ∈ wsA := wA 209 (by decide +kernel) rfl
theorem q_210 : Cond.fieldLink RX6 194 "ToolDays$Shop" "worth" "I" ∈ wsA := wA 210 (by decide +kernel) rfl
theorem q_211 : Cond.fieldLink RX2 38 "ToolDays$Shop" "inTime" "I" ∈ wsA := wA 211 (by decide +kernel) rfl
theorem q_212 : Cond.fieldLink RX6 197 "ToolDays$Shop" "inTime" "I" ∈ wsA := wA 212 (by decide +kernel) rfl
theorem q_213 : Cond.fieldLink RX2 41 "ToolDays$Shop" "lastDay" "I" ∈ wsA := wA 213 (by decide +kernel) rfl
theorem q_214 : Cond.fieldLink RX6 200 "ToolDays$Shop" "lastDay" "I" ∈ wsA := wA 214 (by decide +kernel) rfl
theorem q_215 : Cond.fieldLink RX2 44 "ToolDays$Shop" "bestWorth" "I" ∈ wsA := wA 215 (by decide +kernel) rfl
theorem q_216 : Cond.fieldLink RX6 209 "ToolDays$Shop" "bestWorth" "I" ∈ wsA := wA 216 (by decide +kernel) rfl
theorem q_217 : Cond.fieldLink RX2 47 "ToolDays$Shop" "bestInTime" "I" ∈ wsA := wA 217 (by decide +kernel) rfl
theorem q_218 : Cond.fieldLink RX6 212 "ToolDays$Shop" "bestInTime" "I" ∈ wsA := wA 218 (by decide +kernel) rfl
theorem q_219 : Cond.fieldLink RX2 50 "ToolDays$Shop" "bestDigits" "I" ∈ wsA := wA 219 (by decide +kernel) rfl
theorem q_220 : Cond.fieldLink RX6 215 "ToolDays$Shop" "bestDigits" "I" ∈ wsA := wA 220 (by decide +kernel) rfl
theorem q_259 : Cond.fieldLink RX4 24 "ToolDays$TextReader" "tape" "LToolDays$Tape;" ∈ wsA := wA 259 (by decide +kernel) rfl
theorem q_260 : Cond.fieldLink RX4 28 "ToolDays$TextReader" "town" "LToolDays$Town;" ∈ wsA := wA 260 (by decide +kernel) rfl
theorem q_261 : Cond.fieldLink RX4 11 "ToolDays$TextReader" "token" "I" ∈ wsA := wA 261 (by decide +kernel) rfl
theorem q_262 : Cond.fieldLink RX4 15 "ToolDays$TextReader" "start" "I" ∈ wsA := wA 262 (by decide +kernel) rfl
theorem q_263 : Cond.fieldLink RX4 18 "ToolDays$TextReader" "end" "I" ∈ wsA := wA 263 (by decide +kernel) rfl
theorem q_264 : Cond.fieldLink RX4 21 "ToolDays$TextReader" "value" "I" ∈ wsA := wA 264 (by decide +kernel) rfl
theorem q_285 : Cond.fieldLink RX1 9 "ToolDays$Sheet" "bits" "I" ∈ wsA := wA 285 (by decide +kernel) rfl
theorem q_286 : Cond.fieldLink RX6 255 "ToolDays$Sheet" "bits" "I" ∈ wsA := wA 286 (by decide +kernel) rfl
theorem q_287 : Cond.fieldLink RX1 15 "ToolDays$Sheet" "size" "I" ∈ wsA := wA 287 (by decide +kernel) rfl
theorem q_288 : Cond.fieldLink RX0 83 "ToolDays$Sheet" "size" "I" ∈ wsA := wA 288 (by decide +kernel) rfl
theorem q_289 : Cond.fieldLink RX6 254 "ToolDays$Sheet" "size" "I" ∈ wsA := wA 289 (by decide +kernel) rfl
theorem q_290 : Cond.fieldLink RX1 18 "ToolDays$Sheet" "numbers" "[I" ∈ wsA := wA 290 (by decide +kernel) rfl
theorem q_291 : Cond.fieldLink RX0 88 "ToolDays$Sheet" "numbers" "[I" ∈ wsA := wA 291 (by decide +kernel) rfl
theorem q_292 : Cond.fieldLink RX6 264 "ToolDays$Sheet" "numbers" "[I" ∈ wsA := wA 292 (by decide +kernel) rfl
theorem q_300 : Cond.fieldLink RX6 10 "ToolDays" "town" "LToolDays$Town;" ∈ wsA := wA 300 (by decide +kernel) rfl
theorem q_301 : Cond.fieldLink RX6 16 "ToolDays" "kept" "LToolDays$Town;" ∈ wsA := wA 301 (by decide +kernel) rfl
theorem q_302 : Cond.fieldLink RX6 19 "ToolDays" "spare" "LToolDays$Town;" ∈ wsA := wA 302 (by decide +kernel) rfl
theorem q_303 : Cond.fieldLink RX6 25 "ToolDays" "tape" "LToolDays$Tape;" ∈ wsA := wA 303 (by decide +kernel) rfl
theorem q_304 : Cond.fieldLink RX6 34 "ToolDays" "almanac" "LToolDays$Almanac;" ∈ wsA := wA 304 (by decide +kernel) rfl
theorem q_305 : Cond.fieldLink RX6 43 "ToolDays" "shop" "LToolDays$Shop;" ∈ wsA := wA 305 (by decide +kernel) rfl
theorem q_306 : Cond.fieldLink RX6 52 "ToolDays" "reader" "LToolDays$TextReader;" ∈ wsA := wA 306 (by decide +kernel) rfl
theorem q_307 : Cond.fieldLink RX6 58 "ToolDays" "sheets" "[LToolDays$Sheet;" ∈ wsA := wA 307 (by decide +kernel) rfl
theorem q_308 : Cond.fieldLink RX6 62 "ToolDays" "findings" "[I" ∈ wsA := wA 308 (by decide +kernel) rfl
theorem q_309 : Cond.fieldLink RX6 66 "ToolDays" "isKept" "Z" ∈ wsA := wA 309 (by decide +kernel) rfl
theorem q_395 : Cond.fieldLink RJ0 38 "java/lang/String" "COMPACT_STRINGS" "Z" ∈ wsA := wA 395 (by decide +kernel) rfl
theorem q_411 : Cond.fieldLink RJ0 1053 "jdk/internal/util/Preconditions" "SIOOBE_FORMATTER" "Ljava/util/function/BiFunction;" ∈ wsA := wA 411 (by decide +kernel) rfl
theorem q_429 : Cond.fieldLink RJ2 44 "java/lang/StringUTF16" "$assertionsDisabled" "Z" ∈ wsA := wA 429 (by decide +kernel) rfl
theorem q_431 : Cond.fieldLink RJ2 59 "java/lang/StringUTF16" "HI_BYTE_SHIFT" "I" ∈ wsA := wA 431 (by decide +kernel) rfl
theorem q_433 : Cond.fieldLink RJ2 63 "java/lang/StringUTF16" "LO_BYTE_SHIFT" "I" ∈ wsA := wA 433 (by decide +kernel) rfl
theorem q_906 : Cond.fieldLink RX7 9 "ToolDaysModel" "m" "[I" ∈ wsA := wA 906 (by decide +kernel) rfl
theorem q_907 : Cond.fieldLink RX7 13 "ToolDaysModel" "kept" "[I" ∈ wsA := wA 907 (by decide +kernel) rfl
theorem q_908 : Cond.fieldLink RX7 312 "ToolDaysModel" "isKept" "Z" ∈ wsA := wA 908 (by decide +kernel) rfl
theorem q_909 : Cond.fieldLink RX7 16 "ToolDaysModel" "found" "[I" ∈ wsA := wA 909 (by decide +kernel) rfl
theorem q_910 : Cond.fieldLink RX7 19 "ToolDaysModel" "tape" "[I" ∈ wsA := wA 910 (by decide +kernel) rfl
theorem q_911 : Cond.fieldLink RX7 67 "ToolDaysModel" "taped" "I" ∈ wsA := wA 911 (by decide +kernel) rfl
theorem q_912 : Cond.fieldLink RX7 85 "ToolDaysModel" "sort" "I" ∈ wsA := wA 912 (by decide +kernel) rfl
theorem q_913 : Cond.fieldLink RX7 75 "ToolDaysModel" "from" "I" ∈ wsA := wA 913 (by decide +kernel) rfl
theorem q_914 : Cond.fieldLink RX7 72 "ToolDaysModel" "to" "I" ∈ wsA := wA 914 (by decide +kernel) rfl
theorem q_915 : Cond.fieldLink RX7 82 "ToolDaysModel" "value" "I" ∈ wsA := wA 915 (by decide +kernel) rfl
theorem q_916 : Cond.fieldLink RX7 88 "ToolDaysModel" "bad" "Z" ∈ wsA := wA 916 (by decide +kernel) rfl
theorem q_917 : Cond.fieldLink RX7 22 "ToolDaysModel" "ahead" "[I" ∈ wsA := wA 917 (by decide +kernel) rfl
theorem q_918 : Cond.fieldLink RX7 25 "ToolDaysModel" "on" "[I" ∈ wsA := wA 918 (by decide +kernel) rfl
theorem q_919 : Cond.fieldLink RX7 28 "ToolDaysModel" "hours" "[I" ∈ wsA := wA 919 (by decide +kernel) rfl
theorem q_920 : Cond.fieldLink RX7 247 "ToolDaysModel" "worth" "I" ∈ wsA := wA 920 (by decide +kernel) rfl
theorem q_921 : Cond.fieldLink RX7 249 "ToolDaysModel" "inTime" "I" ∈ wsA := wA 921 (by decide +kernel) rfl
theorem q_922 : Cond.fieldLink RX7 252 "ToolDaysModel" "lastOf" "I" ∈ wsA := wA 922 (by decide +kernel) rfl
theorem q_923 : Cond.fieldLink RX7 31 "ToolDaysModel" "bits" "[I" ∈ wsA := wA 923 (by decide +kernel) rfl
theorem q_924 : Cond.fieldLink RX7 34 "ToolDaysModel" "size" "[I" ∈ wsA := wA 924 (by decide +kernel) rfl
theorem q_925 : Cond.fieldLink RX7 37 "ToolDaysModel" "number" "[I" ∈ wsA := wA 925 (by decide +kernel) rfl
theorem q_1382 : Cond.fieldLink RJ0 9 "java/lang/String" "value" "[B" ∈ wsA := wA 1382 (by decide +kernel) rfl
theorem q_1383 : Cond.fieldLink RJ0 15 "java/lang/String" "coder" "B" ∈ wsA := wA 1383 (by decide +kernel) rfl
theorem q_89 : Cond.methodLink RL 9 yX6_init ∈ wsA := wA 89 (by decide +kernel) rfl
theorem q_92 : Cond.methodLink RX6 1 objectInit ∈ wsA := wA 92 (by decide +kernel) rfl
theorem q_97 : Cond.methodLink RX6 9 yX5_init ∈ wsA := wA 97 (by decide +kernel) rfl
theorem q_100 : Cond.methodLink RX5 3 objectInit ∈ wsA := wA 100 (by decide +kernel) rfl
theorem q_167 : Cond.methodLink RX3 3 objectInit ∈ wsA := wA 167 (by decide +kernel) rfl
theorem q_180 : Cond.methodLink RX6 31 yX0_init ∈ wsA := wA 180 (by decide +kernel) rfl
theorem q_183 : Cond.methodLink RX0 3 objectInit ∈ wsA := wA 183 (by decide +kernel) rfl
theorem q_195 : Cond.methodLink RX6 40 yX2_init ∈ wsA := wA 195 (by decide +kernel) rfl
theorem q_198 : Cond.methodLink RX2 3 objectInit ∈ wsA := wA 198 (by decide +kernel) rfl
theorem q_255 : Cond.methodLink RX6 49 yX4_init ∈ wsA := wA 255 (by decide +kernel) rfl
theorem q_258 : Cond.methodLink RX4 3 objectInit ∈ wsA := wA 258 (by decide +kernel) rfl
theorem q_284 : Cond.methodLink RX1 3 objectInit ∈ wsA := wA 284 (by decide +kernel) rfl
theorem q_331 : Cond.methodLink RL 13 yX6_feed ∈ wsA := wA 331 (by decide +kernel) rfl
theorem q_335 : Cond.methodLink RX6 71 yX6_within ∈ wsA := wA 335 (by decide +kernel) rfl
theorem q_338 : Cond.methodLink RX6 75 yX6_found ∈ wsA := wA 338 (by decide +kernel) rfl
theorem q_343 : Cond.methodLink RX6 83 yX3_append ∈ wsA := wA 343 (by decide +kernel) rfl
theorem q_347 : Cond.methodLink RL 18 yX6_wipe ∈ wsA := wA 347 (by decide +kernel) rfl
theorem q_351 : Cond.methodLink RL 23 yX6_town ∈ wsA := wA 351 (by decide +kernel) rfl
theorem q_355 : Cond.methodLink RX6 87 yX5_takeFrom ∈ wsA := wA 355 (by decide +kernel) rfl
theorem q_359 : Cond.methodLink RX5 49 arraycopyName ∈ wsA := wA 359 (by decide +kernel) rfl
theorem q_362 : Cond.methodLink RX6 90 yX4_readText ∈ wsA := wA 362 (by decide +kernel) rfl
theorem q_366 : Cond.methodLink RX4 32 yX4_goOn ∈ wsA := wA 366 (by decide +kernel) rfl
theorem q_370 : Cond.methodLink RX4 158 yX4_tokenAt ∈ wsA := wA 370 (by decide +kernel) rfl
theorem q_374 : Cond.methodLink RX4 161 yX4_numberAtHand ∈ wsA := wA 374 (by decide +kernel) rfl
theorem q_378 : Cond.methodLink RX4 35 yX4_readItem ∈ wsA := wA 378 (by decide +kernel) rfl
theorem q_383 : Cond.methodLink RX4 41 yX4_isWord ∈ wsA := wA 383 (by decide +kernel) rfl
theorem q_387 : Cond.methodLink RX4 122 yJ0_length_8abf5 ∈ wsA := wA 387 (by decide +kernel) rfl
theorem q_391 : Cond.methodLink RJ0 335 yJ0_coder_7d493 ∈ wsA := wA 391 (by decide +kernel) rfl
theorem q_397 : Cond.methodLink RX4 133 yJ0_charAt_5068e ∈ wsA := wA 397 (by decide +kernel) rfl
theorem q_401 : Cond.methodLink RJ0 492 yJ0_isLatin1_aae02 ∈ wsA := wA 401 (by decide +kernel) rfl
theorem q_405 : Cond.methodLink RJ0 495 yJ1_charAt_3b067 ∈ wsA := wA 405 (by decide +kernel) rfl
theorem q_408 : Cond.methodLink RJ1 9 yJ0_checkIndex_df160 ∈ wsA := wA 408 (by decide +kernel) rfl
theorem q_413 : Cond.methodLink RJ0 1059 yJ3_checkIndex_8e157 ∈ wsA := wA 413 (by decide +kernel) rfl
theorem q_416 : Cond.methodLink RJ0 498 yJ2_charAt_3b067 ∈ wsA := wA 416 (by decide +kernel) rfl
theorem q_419 : Cond.methodLink RJ2 67 yJ2_checkIndex_2214a ∈ wsA := wA 419 (by decide +kernel) rfl
theorem q_422 : Cond.methodLink RJ2 48 yJ2_length_9d52b ∈ wsA := wA 422 (by decide +kernel) rfl
theorem q_425 : Cond.methodLink RJ2 414 yJ0_checkIndex_df160 ∈ wsA := wA 425 (by decide +kernel) rfl
theorem q_426 : Cond.methodLink RJ2 71 yJ2_getChar_3b067 ∈ wsA := wA 426 (by decide +kernel) rfl
theorem q_435 : Cond.methodLink RX4 45 yX4_readRound ∈ wsA := wA 435 (by decide +kernel) rfl
theorem q_439 : Cond.methodLink RX4 71 yX4_isNumber ∈ wsA := wA 439 (by decide +kernel) rfl
theorem q_445 : Cond.methodLink RX4 50 yX4_readNear ∈ wsA := wA 445 (by decide +kernel) rfl
theorem q_450 : Cond.methodLink RX4 55 yX4_readTool ∈ wsA := wA 450 (by decide +kernel) rfl
theorem q_454 : Cond.methodLink RX4 84 yX5_addTool ∈ wsA := wA 454 (by decide +kernel) rfl
theorem q_459 : Cond.methodLink RX4 60 yX4_readOrder ∈ wsA := wA 459 (by decide +kernel) rfl
theorem q_464 : Cond.methodLink RX4 108 yX4_readBehindWord ∈ wsA := wA 464 (by decide +kernel) rfl
theorem q_469 : Cond.methodLink RX4 114 yX5_addOrder ∈ wsA := wA 469 (by decide +kernel) rfl
theorem q_473 : Cond.methodLink RX4 63 yX4_kindOfWord ∈ wsA := wA 473 (by decide +kernel) rfl
theorem q_477 : Cond.methodLink RX4 137 yX4_nameOfKind ∈ wsA := wA 477 (by decide +kernel) rfl
theorem q_487 : Cond.methodLink RX4 67 yX4_readThing ∈ wsA := wA 487 (by decide +kernel) rfl
theorem q_491 : Cond.methodLink RX4 91 yX5_addThing ∈ wsA := wA 491 (by decide +kernel) rfl
theorem q_495 : Cond.methodLink RX4 94 yX4_readStep ∈ wsA := wA 495 (by decide +kernel) rfl
theorem q_500 : Cond.methodLink RX4 99 yX5_addStep ∈ wsA := wA 500 (by decide +kernel) rfl
theorem q_504 : Cond.methodLink RX5 59 yX5_hasThing ∈ wsA := wA 504 (by decide +kernel) rfl
theorem q_509 : Cond.methodLink RX5 66 yX5_putStepNumber ∈ wsA := wA 509 (by decide +kernel) rfl
theorem q_514 : Cond.methodLink RL 27 yX6_round ∈ wsA := wA 514 (by decide +kernel) rfl
theorem q_518 : Cond.methodLink RL 32 yX6_near ∈ wsA := wA 518 (by decide +kernel) rfl
theorem q_522 : Cond.methodLink RL 36 yX6_tool ∈ wsA := wA 522 (by decide +kernel) rfl
theorem q_526 : Cond.methodLink RX6 103 yX5_addTool ∈ wsA := wA 526 (by decide +kernel) rfl
theorem q_527 : Cond.methodLink RL 40 yX6_days ∈ wsA := wA 527 (by decide +kernel) rfl
theorem q_531 : Cond.methodLink RX6 106 yX5_hasTool ∈ wsA := wA 531 (by decide +kernel) rfl
theorem q_535 : Cond.methodLink RL 44 yX6_may ∈ wsA := wA 535 (by decide +kernel) rfl
theorem q_539 : Cond.methodLink RX6 113 yX0_firstDay ∈ wsA := wA 539 (by decide +kernel) rfl
theorem q_543 : Cond.methodLink RL 48 yX6_thing ∈ wsA := wA 543 (by decide +kernel) rfl
theorem q_547 : Cond.methodLink RX6 120 yX5_addThing ∈ wsA := wA 547 (by decide +kernel) rfl
theorem q_548 : Cond.methodLink RX6 123 yX5_addStep ∈ wsA := wA 548 (by decide +kernel) rfl
theorem q_549 : Cond.methodLink RL 53 yX6_step ∈ wsA := wA 549 (by decide +kernel) rfl
theorem q_553 : Cond.methodLink RX6 127 yX5_hasThing ∈ wsA := wA 553 (by decide +kernel) rfl
theorem q_554 : Cond.methodLink RL 58 yX6_thingOf ∈ wsA := wA 554 (by decide +kernel) rfl
theorem q_558 : Cond.methodLink RX6 136 yX5_hasStep ∈ wsA := wA 558 (by decide +kernel) rfl
theorem q_562 : Cond.methodLink RX6 140 yX5_stepNumber ∈ wsA := wA 562 (by decide +kernel) rfl
theorem q_566 : Cond.methodLink RL 62 yX6_turn ∈ wsA := wA 566 (by decide +kernel) rfl
theorem q_570 : Cond.methodLink RL 66 yX6_change ∈ wsA := wA 570 (by decide +kernel) rfl
theorem q_574 : Cond.methodLink RX6 143 yX5_allowsInStep ∈ wsA := wA 574 (by decide +kernel) rfl
theorem q_578 : Cond.methodLink RX5 63 yX5_hasTool ∈ wsA := wA 578 (by decide +kernel) rfl
theorem q_579 : Cond.methodLink RX6 146 yX5_putStepNumber ∈ wsA := wA 579 (by decide +kernel) rfl
theorem q_580 : Cond.methodLink RL 70 yX6_next ∈ wsA := wA 580 (by decide +kernel) rfl
theorem q_584 : Cond.methodLink RX6 150 yX0_dayBehind ∈ wsA := wA 584 (by decide +kernel) rfl
theorem q_588 : Cond.methodLink RX0 28 yX5_stepNumber ∈ wsA := wA 588 (by decide +kernel) rfl
theorem q_589 : Cond.methodLink RX0 35 yX0_firstDay ∈ wsA := wA 589 (by decide +kernel) rfl
theorem q_590 : Cond.methodLink RX0 38 yX0_zeroFrom ∈ wsA := wA 590 (by decide +kernel) rfl
theorem q_594 : Cond.methodLink RX0 42 yX0_plannedFrom ∈ wsA := wA 594 (by decide +kernel) rfl
theorem q_598 : Cond.methodLink RX0 45 yX0_walkedFrom ∈ wsA := wA 598 (by decide +kernel) rfl
theorem q_602 : Cond.methodLink RX0 59 yJ9_min_7cf53 ∈ wsA := wA 602 (by decide +kernel) rfl
theorem q_605 : Cond.methodLink RX0 52 yX0_bestOf ∈ wsA := wA 605 (by decide +kernel) rfl
theorem q_612 : Cond.methodLink RX6 153 yX6_dayOrNone ∈ wsA := wA 612 (by decide +kernel) rfl
theorem q_616 : Cond.methodLink RL 74 yX6_run ∈ wsA := wA 616 (by decide +kernel) rfl
theorem q_620 : Cond.methodLink RX6 156 yX0_goThrough ∈ wsA := wA 620 (by decide +kernel) rfl
theorem q_624 : Cond.methodLink RX0 68 yX0_dayBehind ∈ wsA := wA 624 (by decide +kernel) rfl
theorem q_625 : Cond.methodLink RL 78 yX6_spoils ∈ wsA := wA 625 (by decide +kernel) rfl
theorem q_629 : Cond.methodLink RL 82 yX6_ready ∈ wsA := wA 629 (by decide +kernel) rfl
theorem q_633 : Cond.methodLink RX6 163 yX0_readyFrom ∈ wsA := wA 633 (by decide +kernel) rfl
theorem q_637 : Cond.methodLink RX0 74 yX0_begunFrom ∈ wsA := wA 637 (by decide +kernel) rfl
theorem q_641 : Cond.methodLink RX0 71 yX0_goThrough ∈ wsA := wA 641 (by decide +kernel) rfl
theorem q_642 : Cond.methodLink RX0 77 yX0_lastRunDay ∈ wsA := wA 642 (by decide +kernel) rfl
theorem q_646 : Cond.methodLink RL 86 yX6_begun ∈ wsA := wA 646 (by decide +kernel) rfl
theorem q_650 : Cond.methodLink RX6 166 yX0_begunFrom ∈ wsA := wA 650 (by decide +kernel) rfl
theorem q_651 : Cond.methodLink RL 90 yX6_latest ∈ wsA := wA 651 (by decide +kernel) rfl
theorem q_655 : Cond.methodLink RX6 169 yX0_latestFor ∈ wsA := wA 655 (by decide +kernel) rfl
theorem q_659 : Cond.methodLink RL 94 yX6_waits ∈ wsA := wA 659 (by decide +kernel) rfl
theorem q_663 : Cond.methodLink RX6 172 yX0_longestWait ∈ wsA := wA 663 (by decide +kernel) rfl
theorem q_667 : Cond.methodLink RX0 80 yJ9_max_7cf53 ∈ wsA := wA 667 (by decide +kernel) rfl
theorem q_670 : Cond.methodLink RL 98 yX6_order ∈ wsA := wA 670 (by decide +kernel) rfl
theorem q_674 : Cond.methodLink RX6 178 yX5_addOrder ∈ wsA := wA 674 (by decide +kernel) rfl
theorem q_675 : Cond.methodLink RL 102 yX6_orderOf ∈ wsA := wA 675 (by decide +kernel) rfl
theorem q_679 : Cond.methodLink RX6 181 yX5_orderNumber ∈ wsA := wA 679 (by decide +kernel) rfl
theorem q_683 : Cond.methodLink RL 106 yX6_clear ∈ wsA := wA 683 (by decide +kernel) rfl
theorem q_687 : Cond.methodLink RL 110 yX6_taken ∈ wsA := wA 687 (by decide +kernel) rfl
theorem q_691 : Cond.methodLink RX6 184 yX2_readSequence ∈ wsA := wA 691 (by decide +kernel) rfl
theorem q_696 : Cond.methodLink RX6 187 yX2_plotRuns ∈ wsA := wA 696 (by decide +kernel) rfl
theorem q_700 : Cond.methodLink RX2 70 yX2_forget ∈ wsA := wA 700 (by decide +kernel) rfl
theorem q_704 : Cond.methodLink RX2 73 yX5_orderNumber ∈ wsA := wA 704 (by decide +kernel) rfl
theorem q_705 : Cond.methodLink RX2 80 yX0_goThrough ∈ wsA := wA 705 (by decide +kernel) rfl
theorem q_706 : Cond.methodLink RX2 88 arraycopyName ∈ wsA := wA 706 (by decide +kernel) rfl
theorem q_707 : Cond.methodLink RX2 94 yX2_hasHours ∈ wsA := wA 707 (by decide +kernel) rfl
theorem q_711 : Cond.methodLink RX2 113 yX2_placeOf ∈ wsA := wA 711 (by decide +kernel) rfl
theorem q_715 : Cond.methodLink RX2 117 yX5_stepNumber ∈ wsA := wA 715 (by decide +kernel) rfl
theorem q_716 : Cond.methodLink RX6 190 yX2_takeInSequence ∈ wsA := wA 716 (by decide +kernel) rfl
theorem q_720 : Cond.methodLink RX2 97 yX2_make ∈ wsA := wA 720 (by decide +kernel) rfl
theorem q_724 : Cond.methodLink RX2 109 yX2_takeHours ∈ wsA := wA 724 (by decide +kernel) rfl
theorem q_728 : Cond.methodLink RX2 101 yJ9_max_7cf53 ∈ wsA := wA 728 (by decide +kernel) rfl
theorem q_729 : Cond.methodLink RL 114 yX6_best ∈ wsA := wA 729 (by decide +kernel) rfl
theorem q_733 : Cond.methodLink RX6 206 yX2_findBest ∈ wsA := wA 733 (by decide +kernel) rfl
theorem q_737 : Cond.methodLink RX2 121 yX2_allWorths ∈ wsA := wA 737 (by decide +kernel) rfl
theorem q_741 : Cond.methodLink RX2 125 yX2_takeInSequence ∈ wsA := wA 741 (by decide +kernel) rfl
theorem q_742 : Cond.methodLink RX2 129 yX2_sequenceDigits ∈ wsA := wA 742 (by decide +kernel) rfl
theorem q_746 : Cond.methodLink RX2 132 yX2_goToNextSequence ∈ wsA := wA 746 (by decide +kernel) rfl
theorem q_750 : Cond.methodLink RX2 136 yX2_swap ∈ wsA := wA 750 (by decide +kernel) rfl
theorem q_754 : Cond.methodLink RL 118 yX6_most ∈ wsA := wA 754 (by decide +kernel) rfl
theorem q_758 : Cond.methodLink RX6 218 yX5_chokingTool ∈ wsA := wA 758 (by decide +kernel) rfl
theorem q_762 : Cond.methodLink RX5 78 yX5_hoursWith ∈ wsA := wA 762 (by decide +kernel) rfl
theorem q_766 : Cond.methodLink RX5 74 yX5_stepNumber ∈ wsA := wA 766 (by decide +kernel) rfl
theorem q_767 : Cond.methodLink RX5 88 yX5_mostBy ∈ wsA := wA 767 (by decide +kernel) rfl
theorem q_771 : Cond.methodLink RX5 70 yX5_wholeRound ∈ wsA := wA 771 (by decide +kernel) rfl
theorem q_775 : Cond.methodLink RX5 82 yJ6_bitCount_0f7a4 ∈ wsA := wA 775 (by decide +kernel) rfl
theorem q_781 : Cond.methodLink RX6 221 yX5_mostBy ∈ wsA := wA 781 (by decide +kernel) rfl
theorem q_782 : Cond.methodLink RL 122 yX6_chokes ∈ wsA := wA 782 (by decide +kernel) rfl
theorem q_786 : Cond.methodLink RL 126 yX6_idle ∈ wsA := wA 786 (by decide +kernel) rfl
theorem q_790 : Cond.methodLink RX6 224 yX5_wholeRound ∈ wsA := wA 790 (by decide +kernel) rfl
theorem q_791 : Cond.methodLink RL 130 yX6_turned ∈ wsA := wA 791 (by decide +kernel) rfl
theorem q_795 : Cond.methodLink RX6 227 yX5_hoursWith ∈ wsA := wA 795 (by decide +kernel) rfl
theorem q_796 : Cond.methodLink RX6 230 yX5_goneOn ∈ wsA := wA 796 (by decide +kernel) rfl
theorem q_800 : Cond.methodLink RX6 233 yX6_isSooner ∈ wsA := wA 800 (by decide +kernel) rfl
theorem q_801 : Cond.methodLink RL 134 yX6_roundFor ∈ wsA := wA 801 (by decide +kernel) rfl
theorem q_805 : Cond.methodLink RL 138 yX6_nearFor ∈ wsA := wA 805 (by decide +kernel) rfl
theorem q_809 : Cond.methodLink RL 142 yX6_chance ∈ wsA := wA 809 (by decide +kernel) rfl
theorem q_813 : Cond.methodLink RX6 236 yX5_draw ∈ wsA := wA 813 (by decide +kernel) rfl
theorem q_818 : Cond.methodLink RL 146 yX6_seed ∈ wsA := wA 818 (by decide +kernel) rfl
theorem q_822 : Cond.methodLink RL 150 yX6_hold ∈ wsA := wA 822 (by decide +kernel) rfl
theorem q_826 : Cond.methodLink RL 154 yX6_as ∈ wsA := wA 826 (by decide +kernel) rfl
theorem q_830 : Cond.methodLink RX6 245 yX6_isUnder ∈ wsA := wA 830 (by decide +kernel) rfl
theorem q_833 : Cond.methodLink RX6 281 yX6_kindAbove ∈ wsA := wA 833 (by decide +kernel) rfl
theorem q_836 : Cond.methodLink RL 158 yX6_sheet ∈ wsA := wA 836 (by decide +kernel) rfl
theorem q_840 : Cond.methodLink RX6 248 yX6_isSheet ∈ wsA := wA 840 (by decide +kernel) rfl
theorem q_843 : Cond.methodLink RX6 251 yX1_layOut ∈ wsA := wA 843 (by decide +kernel) rfl
theorem q_847 : Cond.methodLink RL 162 yX6_write ∈ wsA := wA 847 (by decide +kernel) rfl
theorem q_851 : Cond.methodLink RX6 258 yX1_put ∈ wsA := wA 851 (by decide +kernel) rfl
theorem q_855 : Cond.methodLink RL 166 yX6_copy ∈ wsA := wA 855 (by decide +kernel) rfl
theorem q_859 : Cond.methodLink RX6 261 yX1_hasStretch ∈ wsA := wA 859 (by decide +kernel) rfl
theorem q_863 : Cond.methodLink RX6 267 arraycopyName ∈ wsA := wA 863 (by decide +kernel) rfl
theorem q_864 : Cond.methodLink RL 171 yX6_load ∈ wsA := wA 864 (by decide +kernel) rfl
theorem q_868 : Cond.methodLink RL 175 yX6_judge ∈ wsA := wA 868 (by decide +kernel) rfl
theorem q_872 : Cond.methodLink RX6 273 yX0_rightDays ∈ wsA := wA 872 (by decide +kernel) rfl
theorem q_876 : Cond.methodLink RL 179 yX6_image ∈ wsA := wA 876 (by decide +kernel) rfl
theorem q_880 : Cond.methodLink RL 183 yX6_undo ∈ wsA := wA 880 (by decide +kernel) rfl
theorem q_884 : Cond.methodLink RL 187 yX6_tear ∈ wsA := wA 884 (by decide +kernel) rfl
theorem q_888 : Cond.methodLink RL 191 yX6_count ∈ wsA := wA 888 (by decide +kernel) rfl
theorem q_892 : Cond.methodLink RX6 277 yX5_heldSpots ∈ wsA := wA 892 (by decide +kernel) rfl
theorem q_896 : Cond.methodLink RL 195 yX6_status ∈ wsA := wA 896 (by decide +kernel) rfl
theorem q_902 : Cond.methodLink RL 12 yX7_init ∈ wsA := wA 902 (by decide +kernel) rfl
theorem q_905 : Cond.methodLink RX7 3 objectInit ∈ wsA := wA 905 (by decide +kernel) rfl
theorem q_967 : Cond.methodLink RL 17 yX7_feed ∈ wsA := wA 967 (by decide +kernel) rfl
theorem q_972 : Cond.methodLink RX7 46 yX7_in ∈ wsA := wA 972 (by decide +kernel) rfl
theorem q_976 : Cond.methodLink RX7 42 yX7_finds ∈ wsA := wA 976 (by decide +kernel) rfl
theorem q_981 : Cond.methodLink RL 22 yX7_wipe ∈ wsA := wA 981 (by decide +kernel) rfl
theorem q_985 : Cond.methodLink RL 26 yX7_town ∈ wsA := wA 985 (by decide +kernel) rfl
theorem q_989 : Cond.methodLink RX7 106 yX7_token ∈ wsA := wA 989 (by decide +kernel) rfl
theorem q_993 : Cond.methodLink RX7 78 yX7_isByte ∈ wsA := wA 993 (by decide +kernel) rfl
theorem q_997 : Cond.methodLink RX7 163 yX7_item ∈ wsA := wA 997 (by decide +kernel) rfl
theorem q_1002 : Cond.methodLink RX7 128 yX7_takes ∈ wsA := wA 1002 (by decide +kernel) rfl
theorem q_1006 : Cond.methodLink RX7 102 yX7_isWord ∈ wsA := wA 1006 (by decide +kernel) rfl
theorem q_1010 : Cond.methodLink RX7 92 yJ0_length_8abf5 ∈ wsA := wA 1010 (by decide +kernel) rfl
theorem q_1011 : Cond.methodLink RX7 98 yJ0_charAt_5068e ∈ wsA := wA 1011 (by decide +kernel) rfl
theorem q_1012 : Cond.methodLink RX7 123 yX7_number ∈ wsA := wA 1012 (by decide +kernel) rfl
theorem q_1018 : Cond.methodLink RX7 148 yX7_toolItem ∈ wsA := wA 1018 (by decide +kernel) rfl
theorem q_1023 : Cond.methodLink RX7 153 yX7_orderItem ∈ wsA := wA 1023 (by decide +kernel) rfl
theorem q_1028 : Cond.methodLink RX7 136 yX7_word ∈ wsA := wA 1028 (by decide +kernel) rfl
theorem q_1033 : Cond.methodLink RX7 156 yX7_kindHere ∈ wsA := wA 1033 (by decide +kernel) rfl
theorem q_1044 : Cond.methodLink RX7 159 yX7_thingItem ∈ wsA := wA 1044 (by decide +kernel) rfl
theorem q_1048 : Cond.methodLink RX7 54 yX7_at ∈ wsA := wA 1048 (by decide +kernel) rfl
theorem q_1052 : Cond.methodLink RX7 131 yX7_isSign ∈ wsA := wA 1052 (by decide +kernel) rfl
theorem q_1056 : Cond.methodLink RL 31 yX7_round ∈ wsA := wA 1056 (by decide +kernel) rfl
theorem q_1061 : Cond.methodLink RX7 168 yX7_becomes ∈ wsA := wA 1061 (by decide +kernel) rfl
theorem q_1065 : Cond.methodLink RL 35 yX7_near ∈ wsA := wA 1065 (by decide +kernel) rfl
theorem q_1071 : Cond.methodLink RL 39 yX7_tool ∈ wsA := wA 1071 (by decide +kernel) rfl
theorem q_1076 : Cond.methodLink RL 43 yX7_days ∈ wsA := wA 1076 (by decide +kernel) rfl
theorem q_1080 : Cond.methodLink RX7 177 yX7_isTool ∈ wsA := wA 1080 (by decide +kernel) rfl
theorem q_1084 : Cond.methodLink RL 47 yX7_may ∈ wsA := wA 1084 (by decide +kernel) rfl
theorem q_1088 : Cond.methodLink RX7 187 yX7_isDay ∈ wsA := wA 1088 (by decide +kernel) rfl
theorem q_1092 : Cond.methodLink RX7 184 yX7_mayBe ∈ wsA := wA 1092 (by decide +kernel) rfl
theorem q_1096 : Cond.methodLink RX7 180 yX7_has ∈ wsA := wA 1096 (by decide +kernel) rfl
theorem q_1099 : Cond.methodLink RX7 190 yX7_mayNear ∈ wsA := wA 1099 (by decide +kernel) rfl
theorem q_1103 : Cond.methodLink RL 52 yX7_thing ∈ wsA := wA 1103 (by decide +kernel) rfl
theorem q_1107 : Cond.methodLink RX7 193 yX7_isKind ∈ wsA := wA 1107 (by decide +kernel) rfl
theorem q_1112 : Cond.methodLink RL 57 yX7_step ∈ wsA := wA 1112 (by decide +kernel) rfl
theorem q_1116 : Cond.methodLink RX7 58 yX7_isThing ∈ wsA := wA 1116 (by decide +kernel) rfl
theorem q_1121 : Cond.methodLink RX7 62 yX7_steps ∈ wsA := wA 1121 (by decide +kernel) rfl
theorem q_1125 : Cond.methodLink RL 61 yX7_thingOf ∈ wsA := wA 1125 (by decide +kernel) rfl
theorem q_1130 : Cond.methodLink RX7 202 yX7_kindOf ∈ wsA := wA 1130 (by decide +kernel) rfl
theorem q_1134 : Cond.methodLink RX7 205 yX7_isStep ∈ wsA := wA 1134 (by decide +kernel) rfl
theorem q_1139 : Cond.methodLink RX7 210 yX7_of ∈ wsA := wA 1139 (by decide +kernel) rfl
theorem q_1143 : Cond.methodLink RL 65 yX7_turn ∈ wsA := wA 1143 (by decide +kernel) rfl
theorem q_1147 : Cond.methodLink RL 69 yX7_change ∈ wsA := wA 1147 (by decide +kernel) rfl
theorem q_1151 : Cond.methodLink RL 73 yX7_next ∈ wsA := wA 1151 (by decide +kernel) rfl
theorem q_1155 : Cond.methodLink RX7 225 yX7_nextOf ∈ wsA := wA 1155 (by decide +kernel) rfl
theorem q_1159 : Cond.methodLink RX7 213 yX7_firstFrom ∈ wsA := wA 1159 (by decide +kernel) rfl
theorem q_1163 : Cond.methodLink RX7 216 yX7_firstNear ∈ wsA := wA 1163 (by decide +kernel) rfl
theorem q_1167 : Cond.methodLink RX7 219 yX7_lesser ∈ wsA := wA 1167 (by decide +kernel) rfl
theorem q_1170 : Cond.methodLink RX7 222 yX7_begin ∈ wsA := wA 1170 (by decide +kernel) rfl
theorem q_1174 : Cond.methodLink RX7 228 yX7_orNone ∈ wsA := wA 1174 (by decide +kernel) rfl
theorem q_1179 : Cond.methodLink RL 77 yX7_run ∈ wsA := wA 1179 (by decide +kernel) rfl
theorem q_1183 : Cond.methodLink RX7 231 yX7_runs ∈ wsA := wA 1183 (by decide +kernel) rfl
theorem q_1187 : Cond.methodLink RL 81 yX7_spoils ∈ wsA := wA 1187 (by decide +kernel) rfl
theorem q_1191 : Cond.methodLink RL 85 yX7_ready ∈ wsA := wA 1191 (by decide +kernel) rfl
theorem q_1195 : Cond.methodLink RX7 240 yX7_readyAt ∈ wsA := wA 1195 (by decide +kernel) rfl
theorem q_1199 : Cond.methodLink RX7 234 yX7_beginsAt ∈ wsA := wA 1199 (by decide +kernel) rfl
theorem q_1203 : Cond.methodLink RX7 237 yX7_lastDay ∈ wsA := wA 1203 (by decide +kernel) rfl
theorem q_1207 : Cond.methodLink RL 89 yX7_begun ∈ wsA := wA 1207 (by decide +kernel) rfl
theorem q_1211 : Cond.methodLink RL 93 yX7_latest ∈ wsA := wA 1211 (by decide +kernel) rfl
theorem q_1216 : Cond.methodLink RL 97 yX7_waits ∈ wsA := wA 1216 (by decide +kernel) rfl
theorem q_1220 : Cond.methodLink RL 101 yX7_order ∈ wsA := wA 1220 (by decide +kernel) rfl
theorem q_1225 : Cond.methodLink RL 105 yX7_orderOf ∈ wsA := wA 1225 (by decide +kernel) rfl
theorem q_1229 : Cond.methodLink RL 109 yX7_clear ∈ wsA := wA 1229 (by decide +kernel) rfl
theorem q_1233 : Cond.methodLink RL 113 yX7_taken ∈ wsA := wA 1233 (by decide +kernel) rfl
theorem q_1238 : Cond.methodLink RX7 273 yX7_areOrders ∈ wsA := wA 1238 (by decide +kernel) rfl
theorem q_1242 : Cond.methodLink RX7 276 yX7_takesAll ∈ wsA := wA 1242 (by decide +kernel) rfl
theorem q_1246 : Cond.methodLink RX7 265 yX7_noOrders ∈ wsA := wA 1246 (by decide +kernel) rfl
theorem q_1250 : Cond.methodLink RX7 268 yX7_takesOrder ∈ wsA := wA 1250 (by decide +kernel) rfl
theorem q_1254 : Cond.methodLink RX7 262 yX7_areFree ∈ wsA := wA 1254 (by decide +kernel) rfl
theorem q_1258 : Cond.methodLink RX7 258 yX7_gets ∈ wsA := wA 1258 (by decide +kernel) rfl
theorem q_1262 : Cond.methodLink RX7 255 yX7_slot ∈ wsA := wA 1262 (by decide +kernel) rfl
theorem q_1265 : Cond.methodLink RL 117 yX7_best ∈ wsA := wA 1265 (by decide +kernel) rfl
theorem q_1269 : Cond.methodLink RL 121 yX7_most ∈ wsA := wA 1269 (by decide +kernel) rfl
theorem q_1273 : Cond.methodLink RX7 282 yX7_chokesAt ∈ wsA := wA 1273 (by decide +kernel) rfl
theorem q_1277 : Cond.methodLink RX7 279 yX7_mostOf ∈ wsA := wA 1277 (by decide +kernel) rfl
theorem q_1281 : Cond.methodLink RL 125 yX7_chokes ∈ wsA := wA 1281 (by decide +kernel) rfl
theorem q_1285 : Cond.methodLink RL 129 yX7_idle ∈ wsA := wA 1285 (by decide +kernel) rfl
theorem q_1289 : Cond.methodLink RL 133 yX7_turned ∈ wsA := wA 1289 (by decide +kernel) rfl
theorem q_1293 : Cond.methodLink RX7 285 yX7_turnedBy ∈ wsA := wA 1293 (by decide +kernel) rfl
theorem q_1297 : Cond.methodLink RL 137 yX7_roundFor ∈ wsA := wA 1297 (by decide +kernel) rfl
theorem q_1301 : Cond.methodLink RX7 288 yX7_soonest ∈ wsA := wA 1301 (by decide +kernel) rfl
theorem q_1305 : Cond.methodLink RL 141 yX7_nearFor ∈ wsA := wA 1305 (by decide +kernel) rfl
theorem q_1309 : Cond.methodLink RL 145 yX7_chance ∈ wsA := wA 1309 (by decide +kernel) rfl
theorem q_1315 : Cond.methodLink RL 149 yX7_seed ∈ wsA := wA 1315 (by decide +kernel) rfl
theorem q_1319 : Cond.methodLink RL 153 yX7_hold ∈ wsA := wA 1319 (by decide +kernel) rfl
theorem q_1324 : Cond.methodLink RL 157 yX7_as ∈ wsA := wA 1324 (by decide +kernel) rfl
theorem q_1329 : Cond.methodLink RX7 298 yX7_above ∈ wsA := wA 1329 (by decide +kernel) rfl
theorem q_1333 : Cond.methodLink RL 161 yX7_sheet ∈ wsA := wA 1333 (by decide +kernel) rfl
theorem q_1337 : Cond.methodLink RX7 304 yX7_isSheet ∈ wsA := wA 1337 (by decide +kernel) rfl
theorem q_1342 : Cond.methodLink RL 165 yX7_write ∈ wsA := wA 1342 (by decide +kernel) rfl
theorem q_1346 : Cond.methodLink RL 170 yX7_copy ∈ wsA := wA 1346 (by decide +kernel) rfl
theorem q_1350 : Cond.methodLink RL 174 yX7_load ∈ wsA := wA 1350 (by decide +kernel) rfl
theorem q_1354 : Cond.methodLink RL 178 yX7_judge ∈ wsA := wA 1354 (by decide +kernel) rfl
theorem q_1358 : Cond.methodLink RX7 308 yX7_isRight ∈ wsA := wA 1358 (by decide +kernel) rfl
theorem q_1362 : Cond.methodLink RL 182 yX7_image ∈ wsA := wA 1362 (by decide +kernel) rfl
theorem q_1366 : Cond.methodLink RL 186 yX7_undo ∈ wsA := wA 1366 (by decide +kernel) rfl
theorem q_1370 : Cond.methodLink RL 190 yX7_tear ∈ wsA := wA 1370 (by decide +kernel) rfl
theorem q_1374 : Cond.methodLink RL 194 yX7_count ∈ wsA := wA 1374 (by decide +kernel) rfl
theorem q_1378 : Cond.methodLink RL 198 yX7_status ∈ wsA := wA 1378 (by decide +kernel) rfl
theorem q_342 : Cond.constant RX6 280 (-1000001) ∈ wsA := wA 342 (by decide +kernel) rfl
theorem q_778 : Cond.constant RJ6 265 (1431655765) ∈ wsA := wA 778 (by decide +kernel) rfl
theorem q_779 : Cond.constant RJ6 266 (858993459) ∈ wsA := wA 779 (by decide +kernel) rfl
theorem q_780 : Cond.constant RJ6 267 (252645135) ∈ wsA := wA 780 (by decide +kernel) rfl
theorem q_817 : Cond.constant RX5 91 (1103515245) ∈ wsA := wA 817 (by decide +kernel) rfl
theorem q_975 : Cond.constant RX7 40 (-1000001) ∈ wsA := wA 975 (by decide +kernel) rfl
theorem q_980 : Cond.constant RX7 71 (-1000002) ∈ wsA := wA 980 (by decide +kernel) rfl
theorem q_1178 : Cond.constant RX7 41 (-1000004) ∈ wsA := wA 1178 (by decide +kernel) rfl
theorem q_1314 : Cond.constant RX7 294 (1103515245) ∈ wsA := wA 1314 (by decide +kernel) rfl
theorem q_1328 : Cond.constant RX7 297 (-1000006) ∈ wsA := wA 1328 (by decide +kernel) rfl
theorem q_1332 : Cond.constant RX7 301 (-1000003) ∈ wsA := wA 1332 (by decide +kernel) rfl
theorem q_1341 : Cond.constant RX7 307 (-1000007) ∈ wsA := wA 1341 (by decide +kernel) rfl
theorem q_971 : Cond.constantLong RX7 65 (4) ∈ wsA := wA 971 (by decide +kernel) rfl
theorem q_1060 : Cond.constantLong RX7 166 (12) ∈ wsA := wA 1060 (by decide +kernel) rfl
theorem q_1069 : Cond.constantLong RX7 171 (-1) ∈ wsA := wA 1069 (by decide +kernel) rfl
theorem q_1070 : Cond.constantLong RX7 173 (11) ∈ wsA := wA 1070 (by decide +kernel) rfl
theorem q_1075 : Cond.constantLong RX7 175 (4095) ∈ wsA := wA 1075 (by decide +kernel) rfl
theorem q_1091 : Cond.constantLong RX7 50 (999) ∈ wsA := wA 1091 (by decide +kernel) rfl
theorem q_1110 : Cond.constantLong RX7 52 (6) ∈ wsA := wA 1110 (by decide +kernel) rfl
theorem q_1111 : Cond.constantLong RX7 196 (8) ∈ wsA := wA 1111 (by decide +kernel) rfl
theorem q_1120 : Cond.constantLong RX7 198 (99) ∈ wsA := wA 1120 (by decide +kernel) rfl
theorem q_1129 : Cond.constantLong RX7 200 (-2) ∈ wsA := wA 1129 (by decide +kernel) rfl
theorem q_1138 : Cond.constantLong RX7 208 (2) ∈ wsA := wA 1138 (by decide +kernel) rfl
theorem q_1215 : Cond.constantLong RX7 243 (400) ∈ wsA := wA 1215 (by decide +kernel) rfl
theorem q_1224 : Cond.constantLong RX7 245 (399) ∈ wsA := wA 1224 (by decide +kernel) rfl
theorem q_1237 : Cond.constantLong RX7 271 (5) ∈ wsA := wA 1237 (by decide +kernel) rfl
theorem q_1313 : Cond.constantLong RX7 292 (40) ∈ wsA := wA 1313 (by decide +kernel) rfl
theorem q_1323 : Cond.constantLong RX7 295 (9) ∈ wsA := wA 1323 (by decide +kernel) rfl
theorem q_1340 : Cond.constantLong RX7 302 (3) ∈ wsA := wA 1340 (by decide +kernel) rfl
theorem q_71 : Cond.initialized RL ∈ wsA := wA 71 (by decide +kernel) rfl
theorem q_72 : Cond.initialized RX6 ∈ wsA := wA 72 (by decide +kernel) rfl
theorem q_73 : Cond.initialized RX5 ∈ wsA := wA 73 (by decide +kernel) rfl
theorem q_74 : Cond.initialized RX3 ∈ wsA := wA 74 (by decide +kernel) rfl
theorem q_75 : Cond.initialized RX0 ∈ wsA := wA 75 (by decide +kernel) rfl
theorem q_76 : Cond.initialized RX2 ∈ wsA := wA 76 (by decide +kernel) rfl
theorem q_77 : Cond.initialized RX4 ∈ wsA := wA 77 (by decide +kernel) rfl
theorem q_78 : Cond.initialized RX1 ∈ wsA := wA 78 (by decide +kernel) rfl
theorem q_79 : Cond.initialized RX7 ∈ wsA := wA 79 (by decide +kernel) rfl
theorem q_80 : Cond.initialized RJ10 ∈ wsA := wA 80 (by decide +kernel) rfl
theorem q_81 : Cond.initialized RJ0 ∈ wsA := wA 81 (by decide +kernel) rfl
theorem q_82 : Cond.initialized RJ1 ∈ wsA := wA 82 (by decide +kernel) rfl
theorem q_83 : Cond.initialized RJ3 ∈ wsA := wA 83 (by decide +kernel) rfl
theorem q_84 : Cond.initialized RJ2 ∈ wsA := wA 84 (by decide +kernel) rfl
theorem q_85 : Cond.initialized RJ9 ∈ wsA := wA 85 (by decide +kernel) rfl
theorem q_86 : Cond.initialized RJ6 ∈ wsA := wA 86 (by decide +kernel) rfl
theorem q_87 : Cond.classLink RL 7 RX6 ∈ wsA := wA 87 (by decide +kernel) rfl
theorem q_95 : Cond.classLink RX6 7 RX5 ∈ wsA := wA 95 (by decide +kernel) rfl
theorem q_162 : Cond.classLink RX6 22 RX3 ∈ wsA := wA 162 (by decide +kernel) rfl
theorem q_178 : Cond.classLink RX6 29 RX0 ∈ wsA := wA 178 (by decide +kernel) rfl
theorem q_193 : Cond.classLink RX6 38 RX2 ∈ wsA := wA 193 (by decide +kernel) rfl
theorem q_253 : Cond.classLink RX6 47 RX4 ∈ wsA := wA 253 (by decide +kernel) rfl
theorem q_278 : Cond.classLink RX6 56 RX1 ∈ wsA := wA 278 (by decide +kernel) rfl
theorem q_900 : Cond.classLink RL 10 RX7 ∈ wsA := wA 900 (by decide +kernel) rfl
theorem q_88 : Cond.instantiable RX6 10 ∈ wsA := wA 88 (by decide +kernel) rfl
theorem q_96 : Cond.instantiable RX5 12 ∈ wsA := wA 96 (by decide +kernel) rfl
theorem q_163 : Cond.instantiable RX3 2 ∈ wsA := wA 163 (by decide +kernel) rfl
theorem q_179 : Cond.instantiable RX0 2 ∈ wsA := wA 179 (by decide +kernel) rfl
theorem q_194 : Cond.instantiable RX2 15 ∈ wsA := wA 194 (by decide +kernel) rfl
theorem q_254 : Cond.instantiable RX4 6 ∈ wsA := wA 254 (by decide +kernel) rfl
theorem q_280 : Cond.instantiable RX1 3 ∈ wsA := wA 280 (by decide +kernel) rfl
theorem q_901 : Cond.instantiable RX7 20 ∈ wsA := wA 901 (by decide +kernel) rfl
theorem mi_X0_init : Cond.instanceMethod yX0_init ∈ wsA := wA 181 (by decide +kernel) rfl
theorem mc_X0_init : Cond.code yX0_init cX0_init 2 none ∈ wsA := wA 182 (by decide +kernel) rfl
theorem my_X0_firstDay : myV yX0_firstDay RX0 cX0_firstDay 8 (some .int) 3 := ⟨wA 540 (by decide +kernel) rfl, wA 541 (by decide +kernel) rfl, q_75, wA 542 (by decide +kernel) rfl, by decide +kernel⟩
theorem my_X0_zeroFrom : myV yX0_zeroFrom RX0 cX0_zeroFrom 3 (some .int) 1 := ⟨wA 592 (by decide +kernel) rfl, wA 15 (by decide +kernel) rfl, q_75, wA 593 (by decide +kernel) rfl, by decide +kernel⟩
theorem my_X0_dayBehind : myV yX0_dayBehind RX0 cX0_dayBehind 5 (some .int) 3 := ⟨wA 585 (by decide +kernel) rfl, wA 586 (by decide +kernel) rfl, q_75, wA 587 (by decide +kernel) rfl, by decide +kernel⟩
theorem my_X0_plannedFrom : myV yX0_plannedFrom RX0 cX0_plannedFrom 4 (some .int) 3 := ⟨wA 596 (by decide +kernel) rfl, wA 16 (by decide +kernel) rfl, q_75, wA 597 (by decide +kernel) rfl, by decide +kernel⟩
theorem my_X0_walkedFrom : myV yX0_walkedFrom RX0 cX0_walkedFrom 4 (some .int) 2 := ⟨wA 600 (by decide +kernel) rfl, wA 17 (by decide +kernel) rfl, q_75, wA 601 (by decide +kernel) rfl, by decide +kernel⟩
theorem my_X0_bestOf : myV yX0_bestOf RX0 cX0_bestOf 5 (some .int) 3 := ⟨wA 607 (by decide +kernel) rfl, wA 18 (by decide +kernel) rfl, q_75, wA 608 (by decide +kernel) rfl, by decide +kernel⟩
theorem my_X0_goThrough : myV yX0_goThrough RX0 cX0_goThrough 7 (some .int) 2 := ⟨wA 621 (by decide +kernel) rfl, wA 622 (by decide +kernel) rfl, q_75, wA 623 (by decide +kernel) rfl, by decide +kernel⟩
theorem my_X0_lastRunDay : myV yX0_lastRunDay RX0 cX0_lastRunDay 3 (some .int) 1 := ⟨wA 643 (by decide +kernel) rfl, wA 644 (by decide +kernel) rfl, q_75, wA 645 (by decide +kernel) rfl, by decide +kernel⟩
theorem my_X0_begunFrom : myV yX0_begunFrom RX0 cX0_begunFrom 4 (some .int) 2 := ⟨wA 638 (by decide +kernel) rfl, wA 639 (by decide +kernel) rfl, q_75, wA 640 (by decide +kernel) rfl, by decide +kernel⟩
theorem my_X0_readyFrom : myV yX0_readyFrom RX0 cX0_readyFrom 3 (some .int) 2 := ⟨wA 634 (by decide +kernel) rfl, wA 635 (by decide +kernel) rfl, q_75, wA 636 (by decide +kernel) rfl, by decide +kernel⟩
theorem my_X0_latestFor : myV yX0_latestFor RX0 cX0_latestFor 4 (some .int) 2 := ⟨wA 656 (by decide +kernel) rfl, wA 657 (by decide +kernel) rfl, q_75, wA 658 (by decide +kernel) rfl, by decide +kernel⟩
theorem my_X0_longestWait : myV yX0_longestWait RX0 cX0_longestWait 4 (some .int) 1 := ⟨wA 664 (by decide +kernel) rfl, wA 665 (by decide +kernel) rfl, q_75, wA 666 (by decide +kernel) rfl, by decide +kernel⟩
theorem my_X0_rightDays : myV yX0_rightDays RX0 cX0_rightDays 7 (some .int) 2 := ⟨wA 873 (by decide +kernel) rfl, wA 874 (by decide +kernel) rfl, q_75, wA 875 (by decide +kernel) rfl, by decide +kernel⟩
theorem mi_X1_init : Cond.instanceMethod yX1_init ∈ wsA := wA 282 (by decide +kernel) rfl
theorem mc_X1_init : Cond.code yX1_init cX1_init 1 none ∈ wsA := wA 283 (by decide +kernel) rfl
theorem my_X1_layOut : myV yX1_layOut RX1 cX1_layOut 4 none 2 := ⟨wA 844 (by decide +kernel) rfl, wA 845 (by decide +kernel) rfl, q_78, wA 846 (by decide +kernel) rfl, by decide +kernel⟩
theorem my_X1_put : myV yX1_put RX1 cX1_put 4 none 2 := ⟨wA 852 (by decide +kernel) rfl, wA 853 (by decide +kernel) rfl, q_78, wA 854 (by decide +kernel) rfl, by decide +kernel⟩
theorem my_X1_hasStretch : myV yX1_hasStretch RX1 cX1_hasStretch 3 (some .boolean) 2 := ⟨wA 860 (by decide +kernel) rfl, wA 861 (by decide +kernel) rfl, q_78, wA 862 (by decide +kernel) rfl, by decide +kernel⟩
theorem mi_X2_init : Cond.instanceMethod yX2_init ∈ wsA := wA 196 (by decide +kernel) rfl
theorem mc_X2_init : Cond.code yX2_init cX2_init 3 none ∈ wsA := wA 197 (by decide +kernel) rfl
theorem my_X2_readSequence : myV yX2_readSequence RX2 cX2_readSequence 7 (some .boolean) 2 := ⟨wA 692 (by decide +kernel) rfl, wA 693 (by decide +kernel) rfl, q_76, wA 694 (by decide +kernel) rfl, by decide +kernel⟩
theorem my_X2_plotRuns : myV yX2_plotRuns RX2 cX2_plotRuns 6 none 0 := ⟨wA 697 (by decide +kernel) rfl, wA 698 (by decide +kernel) rfl, q_76, wA 699 (by decide +kernel) rfl, by decide +kernel⟩
theorem my_X2_takeInSequence : myV yX2_takeInSequence RX2 cX2_takeInSequence 5 none 1 := ⟨wA 717 (by decide +kernel) rfl, wA 718 (by decide +kernel) rfl, q_76, wA 719 (by decide +kernel) rfl, by decide +kernel⟩
theorem my_X2_forget : myV yX2_forget RX2 cX2_forget 2 none 0 := ⟨wA 702 (by decide +kernel) rfl, wA 20 (by decide +kernel) rfl, q_76, wA 703 (by decide +kernel) rfl, by decide +kernel⟩
theorem my_X2_make : myV yX2_make RX2 cX2_make 8 (some .int) 1 := ⟨wA 722 (by decide +kernel) rfl, wA 23 (by decide +kernel) rfl, q_76, wA 723 (by decide +kernel) rfl, by decide +kernel⟩
theorem my_X2_hasHours : myV yX2_hasHours RX2 cX2_hasHours 9 (some .boolean) 3 := ⟨wA 709 (by decide +kernel) rfl, wA 21 (by decide +kernel) rfl, q_76, wA 710 (by decide +kernel) rfl, by decide +kernel⟩
theorem my_X2_takeHours : myV yX2_takeHours RX2 cX2_takeHours 8 none 3 := ⟨wA 726 (by decide +kernel) rfl, wA 24 (by decide +kernel) rfl, q_76, wA 727 (by decide +kernel) rfl, by decide +kernel⟩
theorem my_X2_placeOf : myV yX2_placeOf RX2 cX2_placeOf 5 (some .int) 4 := ⟨wA 713 (by decide +kernel) rfl, wA 22 (by decide +kernel) rfl, q_76, wA 714 (by decide +kernel) rfl, by decide +kernel⟩
theorem my_X2_findBest : myV yX2_findBest RX2 cX2_findBest 3 none 0 := ⟨wA 734 (by decide +kernel) rfl, wA 735 (by decide +kernel) rfl, q_76, wA 736 (by decide +kernel) rfl, by decide +kernel⟩
theorem my_X2_allWorths : myV yX2_allWorths RX2 cX2_allWorths 3 (some .int) 0 := ⟨wA 739 (by decide +kernel) rfl, wA 25 (by decide +kernel) rfl, q_76, wA 740 (by decide +kernel) rfl, by decide +kernel⟩
theorem my_X2_sequenceDigits : myV yX2_sequenceDigits RX2 cX2_sequenceDigits 3 (some .int) 0 := ⟨wA 744 (by decide +kernel) rfl, wA 26 (by decide +kernel) rfl, q_76, wA 745 (by decide +kernel) rfl, by decide +kernel⟩
theorem my_X2_goToNextSequence : myV yX2_goToNextSequence RX2 cX2_goToNextSequence 5 (some .boolean) 0 := ⟨wA 748 (by decide +kernel) rfl, wA 27 (by decide +kernel) rfl, q_76, wA 749 (by decide +kernel) rfl, by decide +kernel⟩
theorem my_X2_swap : myV yX2_swap RX2 cX2_swap 4 none 2 := ⟨wA 752 (by decide +kernel) rfl, wA 28 (by decide +kernel) rfl, q_76, wA 753 (by decide +kernel) rfl, by decide +kernel⟩
theorem mi_X3_init : Cond.instanceMethod yX3_init ∈ wsA := wA 165 (by decide +kernel) rfl
theorem mc_X3_init : Cond.code yX3_init cX3_init 1 none ∈ wsA := wA 166 (by decide +kernel) rfl
theorem my_X3_append : myV yX3_append RX3 cX3_append 4 none 2 := ⟨wA 344 (by decide +kernel) rfl, wA 345 (by decide +kernel) rfl, q_74, wA 346 (by decide +kernel) rfl, by decide +kernel⟩
theorem mi_X4_init : Cond.instanceMethod yX4_init ∈ wsA := wA 256 (by decide +kernel) rfl
theorem mc_X4_init : Cond.code yX4_init cX4_init 3 none ∈ wsA := wA 257 (by decide +kernel) rfl
theorem my_X4_readText : myV yX4_readText RX4 cX4_readText 3 (some .int) 0 := ⟨wA 363 (by decide +kernel) rfl, wA 364 (by decide +kernel) rfl, q_77, wA 365 (by decide +kernel) rfl, by decide +kernel⟩
theorem my_X4_readItem : myV yX4_readItem RX4 cX4_readItem 1 (some .boolean) 0 := ⟨wA 380 (by decide +kernel) rfl, wA 4 (by decide +kernel) rfl, q_77, wA 381 (by decide +kernel) rfl, by decide +kernel⟩
theorem my_X4_readRound : myV yX4_readRound RX4 cX4_readRound 1 (some .boolean) 0 := ⟨wA 437 (by decide +kernel) rfl, wA 6 (by decide +kernel) rfl, q_77, wA 438 (by decide +kernel) rfl, by decide +kernel⟩
theorem my_X4_readNear : myV yX4_readNear RX4 cX4_readNear 1 (some .boolean) 0 := ⟨wA 447 (by decide +kernel) rfl, wA 8 (by decide +kernel) rfl, q_77, wA 448 (by decide +kernel) rfl, by decide +kernel⟩
theorem my_X4_readTool : myV yX4_readTool RX4 cX4_readTool 4 (some .boolean) 0 := ⟨wA 452 (by decide +kernel) rfl, wA 9 (by decide +kernel) rfl, q_77, wA 453 (by decide +kernel) rfl, by decide +kernel⟩
theorem my_X4_readThing : myV yX4_readThing RX4 cX4_readThing 4 (some .boolean) 1 := ⟨wA 489 (by decide +kernel) rfl, wA 13 (by decide +kernel) rfl, q_77, wA 490 (by decide +kernel) rfl, by decide +kernel⟩
theorem my_X4_readStep : myV yX4_readStep RX4 cX4_readStep 5 (some .boolean) 1 := ⟨wA 497 (by decide +kernel) rfl, wA 14 (by decide +kernel) rfl, q_77, wA 498 (by decide +kernel) rfl, by decide +kernel⟩
theorem my_X4_readOrder : myV yX4_readOrder RX4 cX4_readOrder 3 (some .boolean) 0 := ⟨wA 461 (by decide +kernel) rfl, wA 10 (by decide +kernel) rfl, q_77, wA 462 (by decide +kernel) rfl, by decide +kernel⟩
theorem my_X4_readBehindWord : myV yX4_readBehindWord RX4 cX4_readBehindWord 4 (some .boolean) 3 := ⟨wA 466 (by decide +kernel) rfl, wA 11 (by decide +kernel) rfl, q_77, wA 467 (by decide +kernel) rfl, by decide +kernel⟩
theorem my_X4_isNumber : myV yX4_isNumber RX4 cX4_isNumber 3 (some .boolean) 2 := ⟨wA 441 (by decide +kernel) rfl, wA 7 (by decide +kernel) rfl, q_77, wA 442 (by decide +kernel) rfl, by decide +kernel⟩
theorem my_X4_isWord : myV yX4_isWord RX4 cX4_isWord 3 (some .boolean) 1 := ⟨wA 385 (by decide +kernel) rfl, wA 5 (by decide +kernel) rfl, q_77, wA 386 (by decide +kernel) rfl, by decide +kernel⟩
theorem my_X4_kindOfWord : myV yX4_kindOfWord RX4 cX4_kindOfWord 2 (some .int) 0 := ⟨wA 475 (by decide +kernel) rfl, wA 12 (by decide +kernel) rfl, q_77, wA 476 (by decide +kernel) rfl, by decide +kernel⟩
theorem my_X4_nameOfKind : myS yX4_nameOfKind cX4_nameOfKind 1 (some (.object "java/lang/String")) 1 := ⟨wA 478 (by decide +kernel) rfl, q_77, wA 479 (by decide +kernel) rfl, by decide +kernel⟩
theorem my_X4_goOn : myV yX4_goOn RX4 cX4_goOn 1 none 0 := ⟨wA 368 (by decide +kernel) rfl, wA 1 (by decide +kernel) rfl, q_77, wA 369 (by decide +kernel) rfl, by decide +kernel⟩
theorem my_X4_tokenAt : myV yX4_tokenAt RX4 cX4_tokenAt 3 (some .int) 1 := ⟨wA 372 (by decide +kernel) rfl, wA 2 (by decide +kernel) rfl, q_77, wA 373 (by decide +kernel) rfl, by decide +kernel⟩
theorem my_X4_numberAtHand : myV yX4_numberAtHand RX4 cX4_numberAtHand 3 (some .int) 0 := ⟨wA 376 (by decide +kernel) rfl, wA 3 (by decide +kernel) rfl, q_77, wA 377 (by decide +kernel) rfl, by decide +kernel⟩
theorem mi_X5_init : Cond.instanceMethod yX5_init ∈ wsA := wA 98 (by decide +kernel) rfl
theorem mc_X5_init : Cond.code yX5_init cX5_init 2 none ∈ wsA := wA 99 (by decide +kernel) rfl
theorem my_X5_takeFrom : myV yX5_takeFrom RX5 cX5_takeFrom 2 none 1 := ⟨wA 356 (by decide +kernel) rfl, wA 357 (by decide +kernel) rfl, q_73, wA 358 (by decide +kernel) rfl, by decide +kernel⟩
theorem my_X5_hasTool : myV yX5_hasTool RX5 cX5_hasTool 2 (some .boolean) 1 := ⟨wA 532 (by decide +kernel) rfl, wA 533 (by decide +kernel) rfl, q_73, wA 534 (by decide +kernel) rfl, by decide +kernel⟩
theorem my_X5_hasThing : myV yX5_hasThing RX5 cX5_hasThing 2 (some .boolean) 1 := ⟨wA 505 (by decide +kernel) rfl, wA 506 (by decide +kernel) rfl, q_73, wA 507 (by decide +kernel) rfl, by decide +kernel⟩
theorem my_X5_hasStep : myV yX5_hasStep RX5 cX5_hasStep 3 (some .boolean) 2 := ⟨wA 559 (by decide +kernel) rfl, wA 560 (by decide +kernel) rfl, q_73, wA 561 (by decide +kernel) rfl, by decide +kernel⟩
theorem my_X5_allowsInStep : myV yX5_allowsInStep RX5 cX5_allowsInStep 3 (some .boolean) 2 := ⟨wA 575 (by decide +kernel) rfl, wA 576 (by decide +kernel) rfl, q_73, wA 577 (by decide +kernel) rfl, by decide +kernel⟩
theorem my_X5_addTool : myV yX5_addTool RX5 cX5_addTool 2 (some .int) 1 := ⟨wA 455 (by decide +kernel) rfl, wA 456 (by decide +kernel) rfl, q_73, wA 457 (by decide +kernel) rfl, by decide +kernel⟩
theorem my_X5_addThing : myV yX5_addThing RX5 cX5_addThing 2 (some .int) 1 := ⟨wA 492 (by decide +kernel) rfl, wA 493 (by decide +kernel) rfl, q_73, wA 494 (by decide +kernel) rfl, by decide +kernel⟩
theorem my_X5_addStep : myV yX5_addStep RX5 cX5_addStep 6 (some .int) 4 := ⟨wA 501 (by decide +kernel) rfl, wA 502 (by decide +kernel) rfl, q_73, wA 503 (by decide +kernel) rfl, by decide +kernel⟩
theorem my_X5_addOrder : myV yX5_addOrder RX5 cX5_addOrder 5 (some .int) 3 := ⟨wA 470 (by decide +kernel) rfl, wA 471 (by decide +kernel) rfl, q_73, wA 472 (by decide +kernel) rfl, by decide +kernel⟩
theorem my_X5_stepNumber : myV yX5_stepNumber RX5 cX5_stepNumber 4 (some .int) 3 := ⟨wA 563 (by decide +kernel) rfl, wA 564 (by decide +kernel) rfl, q_73, wA 565 (by decide +kernel) rfl, by decide +kernel⟩
theorem my_X5_putStepNumber : myV yX5_putStepNumber RX5 cX5_putStepNumber 5 none 4 := ⟨wA 510 (by decide +kernel) rfl, wA 511 (by decide +kernel) rfl, q_73, wA 512 (by decide +kernel) rfl, by decide +kernel⟩
theorem my_X5_orderNumber : myV yX5_orderNumber RX5 cX5_orderNumber 3 (some .int) 2 := ⟨wA 680 (by decide +kernel) rfl, wA 681 (by decide +kernel) rfl, q_73, wA 682 (by decide +kernel) rfl, by decide +kernel⟩
theorem my_X5_wholeRound : myV yX5_wholeRound RX5 cX5_wholeRound 1 (some .int) 0 := ⟨wA 772 (by decide +kernel) rfl, wA 773 (by decide +kernel) rfl, q_73, wA 774 (by decide +kernel) rfl, by decide +kernel⟩
theorem my_X5_goneOn : myV yX5_goneOn RX5 cX5_goneOn 4 (some .int) 2 := ⟨wA 797 (by decide +kernel) rfl, wA 798 (by decide +kernel) rfl, q_73, wA 799 (by decide +kernel) rfl, by decide +kernel⟩
theorem my_X5_hoursWith : myV yX5_hoursWith RX5 cX5_hoursWith 5 (some .int) 2 := ⟨wA 763 (by decide +kernel) rfl, wA 764 (by decide +kernel) rfl, q_73, wA 765 (by decide +kernel) rfl, by decide +kernel⟩
theorem my_X5_mostBy : myV yX5_mostBy RX5 cX5_mostBy 4 (some .int) 2 := ⟨wA 768 (by decide +kernel) rfl, wA 769 (by decide +kernel) rfl, q_73, wA 770 (by decide +kernel) rfl, by decide +kernel⟩
theorem my_X5_chokingTool : myV yX5_chokingTool RX5 cX5_chokingTool 6 (some .int) 1 := ⟨wA 759 (by decide +kernel) rfl, wA 760 (by decide +kernel) rfl, q_73, wA 761 (by decide +kernel) rfl, by decide +kernel⟩
theorem my_X5_heldSpots : myV yX5_heldSpots RX5 cX5_heldSpots 3 (some .int) 0 := ⟨wA 893 (by decide +kernel) rfl, wA 894 (by decide +kernel) rfl, q_73, wA 895 (by decide +kernel) rfl, by decide +kernel⟩
theorem my_X5_draw : myV yX5_draw RX5 cX5_draw 1 (some .int) 0 := ⟨wA 814 (by decide +kernel) rfl, wA 815 (by decide +kernel) rfl, q_73, wA 816 (by decide +kernel) rfl, by decide +kernel⟩
theorem mi_X6_init : Cond.instanceMethod yX6_init ∈ wsA := wA 90 (by decide +kernel) rfl
theorem mc_X6_init : Cond.code yX6_init cX6_init 2 none ∈ wsA := wA 91 (by decide +kernel) rfl
theorem my_X6_feed : myV yX6_feed RX6 cX6_feed 3 (some .int) 2 := ⟨wA 332 (by decide +kernel) rfl, wA 333 (by decide +kernel) rfl, q_72, wA 334 (by decide +kernel) rfl, by decide +kernel⟩
theorem my_X6_wipe : myV yX6_wipe RX6 cX6_wipe 2 (some .int) 0 := ⟨wA 348 (by decide +kernel) rfl, wA 349 (by decide +kernel) rfl, q_72, wA 350 (by decide +kernel) rfl, by decide +kernel⟩
theorem my_X6_town : myV yX6_town RX6 cX6_town 2 (some .int) 0 := ⟨wA 352 (by decide +kernel) rfl, wA 353 (by decide +kernel) rfl, q_72, wA 354 (by decide +kernel) rfl, by decide +kernel⟩
theorem my_X6_round : myV yX6_round RX6 cX6_round 3 (some .int) 1 := ⟨wA 515 (by decide +kernel) rfl, wA 516 (by decide +kernel) rfl, q_72, wA 517 (by decide +kernel) rfl, by decide +kernel⟩
theorem my_X6_near : myV yX6_near RX6 cX6_near 3 (some .int) 1 := ⟨wA 519 (by decide +kernel) rfl, wA 520 (by decide +kernel) rfl, q_72, wA 521 (by decide +kernel) rfl, by decide +kernel⟩
theorem my_X6_tool : myV yX6_tool RX6 cX6_tool 2 (some .int) 1 := ⟨wA 523 (by decide +kernel) rfl, wA 524 (by decide +kernel) rfl, q_72, wA 525 (by decide +kernel) rfl, by decide +kernel⟩
theorem my_X6_days : myV yX6_days RX6 cX6_days 4 (some .int) 2 := ⟨wA 528 (by decide +kernel) rfl, wA 529 (by decide +kernel) rfl, q_72, wA 530 (by decide +kernel) rfl, by decide +kernel⟩
theorem my_X6_may : myV yX6_may RX6 cX6_may 3 (some .int) 2 := ⟨wA 536 (by decide +kernel) rfl, wA 537 (by decide +kernel) rfl, q_72, wA 538 (by decide +kernel) rfl, by decide +kernel⟩
theorem my_X6_thing : myV yX6_thing RX6 cX6_thing 5 (some .int) 3 := ⟨wA 544 (by decide +kernel) rfl, wA 545 (by decide +kernel) rfl, q_72, wA 546 (by decide +kernel) rfl, by decide +kernel⟩
theorem my_X6_step : myV yX6_step RX6 cX6_step 5 (some .int) 4 := ⟨wA 550 (by decide +kernel) rfl, wA 551 (by decide +kernel) rfl, q_72, wA 552 (by decide +kernel) rfl, by decide +kernel⟩
theorem my_X6_thingOf : myV yX6_thingOf RX6 cX6_thingOf 4 (some .int) 3 := ⟨wA 555 (by decide +kernel) rfl, wA 556 (by decide +kernel) rfl, q_72, wA 557 (by decide +kernel) rfl, by decide +kernel⟩
theorem my_X6_turn : myV yX6_turn RX6 cX6_turn 4 (some .int) 2 := ⟨wA 567 (by decide +kernel) rfl, wA 568 (by decide +kernel) rfl, q_72, wA 569 (by decide +kernel) rfl, by decide +kernel⟩
theorem my_X6_change : myV yX6_change RX6 cX6_change 6 (some .int) 4 := ⟨wA 571 (by decide +kernel) rfl, wA 572 (by decide +kernel) rfl, q_72, wA 573 (by decide +kernel) rfl, by decide +kernel⟩
theorem my_X6_next : myV yX6_next RX6 cX6_next 4 (some .int) 3 := ⟨wA 581 (by decide +kernel) rfl, wA 582 (by decide +kernel) rfl, q_72, wA 583 (by decide +kernel) rfl, by decide +kernel⟩
theorem my_X6_run : myV yX6_run RX6 cX6_run 4 (some .int) 3 := ⟨wA 617 (by decide +kernel) rfl, wA 618 (by decide +kernel) rfl, q_72, wA 619 (by decide +kernel) rfl, by decide +kernel⟩
theorem my_X6_spoils : myV yX6_spoils RX6 cX6_spoils 3 (some .int) 2 := ⟨wA 626 (by decide +kernel) rfl, wA 627 (by decide +kernel) rfl, q_72, wA 628 (by decide +kernel) rfl, by decide +kernel⟩
theorem my_X6_ready : myV yX6_ready RX6 cX6_ready 3 (some .int) 2 := ⟨wA 630 (by decide +kernel) rfl, wA 631 (by decide +kernel) rfl, q_72, wA 632 (by decide +kernel) rfl, by decide +kernel⟩
theorem my_X6_begun : myV yX6_begun RX6 cX6_begun 3 (some .int) 2 := ⟨wA 647 (by decide +kernel) rfl, wA 648 (by decide +kernel) rfl, q_72, wA 649 (by decide +kernel) rfl, by decide +kernel⟩
theorem my_X6_latest : myV yX6_latest RX6 cX6_latest 3 (some .int) 2 := ⟨wA 652 (by decide +kernel) rfl, wA 653 (by decide +kernel) rfl, q_72, wA 654 (by decide +kernel) rfl, by decide +kernel⟩
theorem my_X6_waits : myV yX6_waits RX6 cX6_waits 3 (some .int) 2 := ⟨wA 660 (by decide +kernel) rfl, wA 661 (by decide +kernel) rfl, q_72, wA 662 (by decide +kernel) rfl, by decide +kernel⟩
theorem my_X6_order : myV yX6_order RX6 cX6_order 4 (some .int) 3 := ⟨wA 671 (by decide +kernel) rfl, wA 672 (by decide +kernel) rfl, q_72, wA 673 (by decide +kernel) rfl, by decide +kernel⟩
theorem my_X6_orderOf : myV yX6_orderOf RX6 cX6_orderOf 3 (some .int) 2 := ⟨wA 676 (by decide +kernel) rfl, wA 677 (by decide +kernel) rfl, q_72, wA 678 (by decide +kernel) rfl, by decide +kernel⟩
theorem my_X6_clear : myV yX6_clear RX6 cX6_clear 2 (some .int) 0 := ⟨wA 684 (by decide +kernel) rfl, wA 685 (by decide +kernel) rfl, q_72, wA 686 (by decide +kernel) rfl, by decide +kernel⟩
theorem my_X6_taken : myV yX6_taken RX6 cX6_taken 4 (some .int) 3 := ⟨wA 688 (by decide +kernel) rfl, wA 689 (by decide +kernel) rfl, q_72, wA 690 (by decide +kernel) rfl, by decide +kernel⟩
theorem my_X6_best : myV yX6_best RX6 cX6_best 2 (some .int) 1 := ⟨wA 730 (by decide +kernel) rfl, wA 731 (by decide +kernel) rfl, q_72, wA 732 (by decide +kernel) rfl, by decide +kernel⟩
theorem my_X6_most : myV yX6_most RX6 cX6_most 3 (some .int) 1 := ⟨wA 755 (by decide +kernel) rfl, wA 756 (by decide +kernel) rfl, q_72, wA 757 (by decide +kernel) rfl, by decide +kernel⟩
theorem my_X6_chokes : myV yX6_chokes RX6 cX6_chokes 2 (some .int) 1 := ⟨wA 783 (by decide +kernel) rfl, wA 784 (by decide +kernel) rfl, q_72, wA 785 (by decide +kernel) rfl, by decide +kernel⟩
theorem my_X6_idle : myV yX6_idle RX6 cX6_idle 4 (some .int) 1 := ⟨wA 787 (by decide +kernel) rfl, wA 788 (by decide +kernel) rfl, q_72, wA 789 (by decide +kernel) rfl, by decide +kernel⟩
theorem my_X6_turned : myV yX6_turned RX6 cX6_turned 8 (some .int) 1 := ⟨wA 792 (by decide +kernel) rfl, wA 793 (by decide +kernel) rfl, q_72, wA 794 (by decide +kernel) rfl, by decide +kernel⟩
theorem my_X6_roundFor : myV yX6_roundFor RX6 cX6_roundFor 8 (some .int) 2 := ⟨wA 802 (by decide +kernel) rfl, wA 803 (by decide +kernel) rfl, q_72, wA 804 (by decide +kernel) rfl, by decide +kernel⟩
theorem my_X6_nearFor : myV yX6_nearFor RX6 cX6_nearFor 8 (some .int) 2 := ⟨wA 806 (by decide +kernel) rfl, wA 807 (by decide +kernel) rfl, q_72, wA 808 (by decide +kernel) rfl, by decide +kernel⟩
theorem my_X6_chance : myV yX6_chance RX6 cX6_chance 5 (some .int) 2 := ⟨wA 810 (by decide +kernel) rfl, wA 811 (by decide +kernel) rfl, q_72, wA 812 (by decide +kernel) rfl, by decide +kernel⟩
theorem my_X6_seed : myV yX6_seed RX6 cX6_seed 3 (some .int) 1 := ⟨wA 819 (by decide +kernel) rfl, wA 820 (by decide +kernel) rfl, q_72, wA 821 (by decide +kernel) rfl, by decide +kernel⟩
theorem my_X6_hold : myV yX6_hold RX6 cX6_hold 3 (some .int) 2 := ⟨wA 823 (by decide +kernel) rfl, wA 824 (by decide +kernel) rfl, q_72, wA 825 (by decide +kernel) rfl, by decide +kernel⟩
theorem my_X6_as : myV yX6_as RX6 cX6_as 4 (some .int) 2 := ⟨wA 827 (by decide +kernel) rfl, wA 828 (by decide +kernel) rfl, q_72, wA 829 (by decide +kernel) rfl, by decide +kernel⟩
theorem my_X6_sheet : myV yX6_sheet RX6 cX6_sheet 4 (some .int) 3 := ⟨wA 837 (by decide +kernel) rfl, wA 838 (by decide +kernel) rfl, q_72, wA 839 (by decide +kernel) rfl, by decide +kernel⟩
theorem my_X6_write : myV yX6_write RX6 cX6_write 4 (some .int) 3 := ⟨wA 848 (by decide +kernel) rfl, wA 849 (by decide +kernel) rfl, q_72, wA 850 (by decide +kernel) rfl, by decide +kernel⟩
theorem my_X6_copy : myV yX6_copy RX6 cX6_copy 6 (some .int) 5 := ⟨wA 856 (by decide +kernel) rfl, wA 857 (by decide +kernel) rfl, q_72, wA 858 (by decide +kernel) rfl, by decide +kernel⟩
theorem my_X6_load : myV yX6_load RX6 cX6_load 4 (some .int) 1 := ⟨wA 865 (by decide +kernel) rfl, wA 866 (by decide +kernel) rfl, q_72, wA 867 (by decide +kernel) rfl, by decide +kernel⟩
theorem my_X6_judge : myV yX6_judge RX6 cX6_judge 5 (some .int) 2 := ⟨wA 869 (by decide +kernel) rfl, wA 870 (by decide +kernel) rfl, q_72, wA 871 (by decide +kernel) rfl, by decide +kernel⟩
theorem my_X6_image : myV yX6_image RX6 cX6_image 1 (some .int) 0 := ⟨wA 877 (by decide +kernel) rfl, wA 878 (by decide +kernel) rfl, q_72, wA 879 (by decide +kernel) rfl, by decide +kernel⟩
theorem my_X6_undo : myV yX6_undo RX6 cX6_undo 1 (some .int) 0 := ⟨wA 881 (by decide +kernel) rfl, wA 882 (by decide +kernel) rfl, q_72, wA 883 (by decide +kernel) rfl, by decide +kernel⟩
theorem my_X6_tear : myV yX6_tear RX6 cX6_tear 2 (some .int) 0 := ⟨wA 885 (by decide +kernel) rfl, wA 886 (by decide +kernel) rfl, q_72, wA 887 (by decide +kernel) rfl, by decide +kernel⟩
theorem my_X6_count : myV yX6_count RX6 cX6_count 2 (some .int) 1 := ⟨wA 889 (by decide +kernel) rfl, wA 890 (by decide +kernel) rfl, q_72, wA 891 (by decide +kernel) rfl, by decide +kernel⟩
theorem my_X6_status : myV yX6_status RX6 cX6_status 4 (some .int) 1 := ⟨wA 897 (by decide +kernel) rfl, wA 898 (by decide +kernel) rfl, q_72, wA 899 (by decide +kernel) rfl, by decide +kernel⟩
theorem my_X6_found : myV yX6_found RX6 cX6_found 2 (some .int) 1 := ⟨wA 340 (by decide +kernel) rfl, wA 0 (by decide +kernel) rfl, q_72, wA 341 (by decide +kernel) rfl, by decide +kernel⟩
theorem my_X6_dayOrNone : myV yX6_dayOrNone RX6 cX6_dayOrNone 2 (some .int) 1 := ⟨wA 614 (by decide +kernel) rfl, wA 19 (by decide +kernel) rfl, q_72, wA 615 (by decide +kernel) rfl, by decide +kernel⟩
theorem my_X6_within : myS yX6_within cX6_within 3 (some .boolean) 3 := ⟨wA 336 (by decide +kernel) rfl, q_72, wA 337 (by decide +kernel) rfl, by decide +kernel⟩
theorem my_X6_isSheet : myS yX6_isSheet cX6_isSheet 1 (some .boolean) 1 := ⟨wA 841 (by decide +kernel) rfl, q_72, wA 842 (by decide +kernel) rfl, by decide +kernel⟩
theorem my_X6_isSooner : myS yX6_isSooner cX6_isSooner 2 (some .boolean) 2 := ⟨wA 610 (by decide +kernel) rfl, q_72, wA 611 (by decide +kernel) rfl, by decide +kernel⟩
theorem my_X6_isUnder : myS yX6_isUnder cX6_isUnder 4 (some .boolean) 2 := ⟨wA 831 (by decide +kernel) rfl, q_72, wA 832 (by decide +kernel) rfl, by decide +kernel⟩
theorem my_X6_kindAbove : myS yX6_kindAbove cX6_kindAbove 1 (some .int) 1 := ⟨wA 834 (by decide +kernel) rfl, q_72, wA 835 (by decide +kernel) rfl, by decide +kernel⟩
theorem mi_X7_init : Cond.instanceMethod yX7_init ∈ wsA := wA 903 (by decide +kernel) rfl
theorem mc_X7_init : Cond.code yX7_init cX7_init 2 none ∈ wsA := wA 904 (by decide +kernel) rfl
theorem my_X7_finds : myV yX7_finds RX7 cX7_finds 2 (some .int) 1 := ⟨wA 978 (by decide +kernel) rfl, wA 29 (by decide +kernel) rfl, q_79, wA 979 (by decide +kernel) rfl, by decide +kernel⟩
theorem my_X7_orNone : myV yX7_orNone RX7 cX7_orNone 2 (some .int) 1 := ⟨wA 1176 (by decide +kernel) rfl, wA 55 (by decide +kernel) rfl, q_79, wA 1177 (by decide +kernel) rfl, by decide +kernel⟩
theorem my_X7_in : myS yX7_in cX7_in 6 (some .boolean) 3 := ⟨wA 973 (by decide +kernel) rfl, q_79, wA 974 (by decide +kernel) rfl, by decide +kernel⟩
theorem my_X7_has : myS yX7_has cX7_has 2 (some .boolean) 2 := ⟨wA 1097 (by decide +kernel) rfl, q_79, wA 1098 (by decide +kernel) rfl, by decide +kernel⟩
theorem my_X7_isTool : myV yX7_isTool RX7 cX7_isTool 2 (some .boolean) 1 := ⟨wA 1082 (by decide +kernel) rfl, wA 43 (by decide +kernel) rfl, q_79, wA 1083 (by decide +kernel) rfl, by decide +kernel⟩
theorem my_X7_isThing : myV yX7_isThing RX7 cX7_isThing 2 (some .boolean) 1 := ⟨wA 1118 (by decide +kernel) rfl, wA 46 (by decide +kernel) rfl, q_79, wA 1119 (by decide +kernel) rfl, by decide +kernel⟩
theorem my_X7_isDay : myS yX7_isDay cX7_isDay 1 (some .boolean) 1 := ⟨wA 1089 (by decide +kernel) rfl, q_79, wA 1090 (by decide +kernel) rfl, by decide +kernel⟩
theorem my_X7_isKind : myS yX7_isKind cX7_isKind 1 (some .boolean) 1 := ⟨wA 1108 (by decide +kernel) rfl, q_79, wA 1109 (by decide +kernel) rfl, by decide +kernel⟩
theorem my_X7_becomes : myV yX7_becomes RX7 cX7_becomes 4 (some .int) 2 := ⟨wA 1063 (by decide +kernel) rfl, wA 42 (by decide +kernel) rfl, q_79, wA 1064 (by decide +kernel) rfl, by decide +kernel⟩
theorem my_X7_kindOf : myV yX7_kindOf RX7 cX7_kindOf 2 (some .int) 1 := ⟨wA 1132 (by decide +kernel) rfl, wA 48 (by decide +kernel) rfl, q_79, wA 1133 (by decide +kernel) rfl, by decide +kernel⟩
theorem my_X7_steps : myV yX7_steps RX7 cX7_steps 2 (some .int) 1 := ⟨wA 1123 (by decide +kernel) rfl, wA 47 (by decide +kernel) rfl, q_79, wA 1124 (by decide +kernel) rfl, by decide +kernel⟩
theorem my_X7_at : myS yX7_at cX7_at 3 (some .int) 3 := ⟨wA 1049 (by decide +kernel) rfl, q_79, wA 1050 (by decide +kernel) rfl, by decide +kernel⟩
theorem my_X7_of : myV yX7_of RX7 cX7_of 4 (some .int) 3 := ⟨wA 1141 (by decide +kernel) rfl, wA 50 (by decide +kernel) rfl, q_79, wA 1142 (by decide +kernel) rfl, by decide +kernel⟩
theorem my_X7_isStep : myV yX7_isStep RX7 cX7_isStep 3 (some .boolean) 2 := ⟨wA 1136 (by decide +kernel) rfl, wA 49 (by decide +kernel) rfl, q_79, wA 1137 (by decide +kernel) rfl, by decide +kernel⟩
theorem my_X7_feed : myV yX7_feed RX7 cX7_feed 4 (some .int) 2 := ⟨wA 968 (by decide +kernel) rfl, wA 969 (by decide +kernel) rfl, q_79, wA 970 (by decide +kernel) rfl, by decide +kernel⟩
theorem my_X7_wipe : myV yX7_wipe RX7 cX7_wipe 2 (some .int) 0 := ⟨wA 982 (by decide +kernel) rfl, wA 983 (by decide +kernel) rfl, q_79, wA 984 (by decide +kernel) rfl, by decide +kernel⟩
theorem my_X7_isByte : myV yX7_isByte RX7 cX7_isByte 4 (some .boolean) 3 := ⟨wA 995 (by decide +kernel) rfl, wA 31 (by decide +kernel) rfl, q_79, wA 996 (by decide +kernel) rfl, by decide +kernel⟩
theorem my_X7_token : myV yX7_token RX7 cX7_token 1 none 0 := ⟨wA 991 (by decide +kernel) rfl, wA 30 (by decide +kernel) rfl, q_79, wA 992 (by decide +kernel) rfl, by decide +kernel⟩
theorem my_X7_isWord : myV yX7_isWord RX7 cX7_isWord 4 (some .boolean) 1 := ⟨wA 1008 (by decide +kernel) rfl, wA 34 (by decide +kernel) rfl, q_79, wA 1009 (by decide +kernel) rfl, by decide +kernel⟩
theorem my_X7_takes : myV yX7_takes RX7 cX7_takes 2 (some .boolean) 1 := ⟨wA 1004 (by decide +kernel) rfl, wA 33 (by decide +kernel) rfl, q_79, wA 1005 (by decide +kernel) rfl, by decide +kernel⟩
theorem my_X7_isSign : myV yX7_isSign RX7 cX7_isSign 2 (some .boolean) 1 := ⟨wA 1054 (by decide +kernel) rfl, wA 41 (by decide +kernel) rfl, q_79, wA 1055 (by decide +kernel) rfl, by decide +kernel⟩
theorem my_X7_number : myV yX7_number RX7 cX7_number 4 (some .int) 2 := ⟨wA 1014 (by decide +kernel) rfl, wA 35 (by decide +kernel) rfl, q_79, wA 1015 (by decide +kernel) rfl, by decide +kernel⟩
theorem my_X7_word : myV yX7_word RX7 cX7_word 2 none 1 := ⟨wA 1030 (by decide +kernel) rfl, wA 38 (by decide +kernel) rfl, q_79, wA 1031 (by decide +kernel) rfl, by decide +kernel⟩
theorem my_X7_kindHere : myV yX7_kindHere RX7 cX7_kindHere 1 (some .int) 0 := ⟨wA 1035 (by decide +kernel) rfl, wA 39 (by decide +kernel) rfl, q_79, wA 1036 (by decide +kernel) rfl, by decide +kernel⟩
theorem my_X7_toolItem : myV yX7_toolItem RX7 cX7_toolItem 4 none 0 := ⟨wA 1020 (by decide +kernel) rfl, wA 36 (by decide +kernel) rfl, q_79, wA 1021 (by decide +kernel) rfl, by decide +kernel⟩
theorem my_X7_thingItem : myV yX7_thingItem RX7 cX7_thingItem 5 none 1 := ⟨wA 1046 (by decide +kernel) rfl, wA 40 (by decide +kernel) rfl, q_79, wA 1047 (by decide +kernel) rfl, by decide +kernel⟩
theorem my_X7_orderItem : myV yX7_orderItem RX7 cX7_orderItem 2 none 0 := ⟨wA 1025 (by decide +kernel) rfl, wA 37 (by decide +kernel) rfl, q_79, wA 1026 (by decide +kernel) rfl, by decide +kernel⟩
theorem my_X7_item : myV yX7_item RX7 cX7_item 1 none 0 := ⟨wA 999 (by decide +kernel) rfl, wA 32 (by decide +kernel) rfl, q_79, wA 1000 (by decide +kernel) rfl, by decide +kernel⟩
theorem my_X7_town : myV yX7_town RX7 cX7_town 5 (some .int) 0 := ⟨wA 986 (by decide +kernel) rfl, wA 987 (by decide +kernel) rfl, q_79, wA 988 (by decide +kernel) rfl, by decide +kernel⟩
theorem my_X7_round : myV yX7_round RX7 cX7_round 2 (some .int) 1 := ⟨wA 1057 (by decide +kernel) rfl, wA 1058 (by decide +kernel) rfl, q_79, wA 1059 (by decide +kernel) rfl, by decide +kernel⟩
theorem my_X7_near : myV yX7_near RX7 cX7_near 2 (some .int) 1 := ⟨wA 1066 (by decide +kernel) rfl, wA 1067 (by decide +kernel) rfl, q_79, wA 1068 (by decide +kernel) rfl, by decide +kernel⟩
theorem my_X7_tool : myV yX7_tool RX7 cX7_tool 2 (some .int) 1 := ⟨wA 1072 (by decide +kernel) rfl, wA 1073 (by decide +kernel) rfl, q_79, wA 1074 (by decide +kernel) rfl, by decide +kernel⟩
theorem my_X7_days : myV yX7_days RX7 cX7_days 3 (some .int) 2 := ⟨wA 1077 (by decide +kernel) rfl, wA 1078 (by decide +kernel) rfl, q_79, wA 1079 (by decide +kernel) rfl, by decide +kernel⟩
theorem my_X7_mayBe : myV yX7_mayBe RX7 cX7_mayBe 3 (some .boolean) 2 := ⟨wA 1094 (by decide +kernel) rfl, wA 44 (by decide +kernel) rfl, q_79, wA 1095 (by decide +kernel) rfl, by decide +kernel⟩
theorem my_X7_mayNear : myV yX7_mayNear RX7 cX7_mayNear 3 (some .boolean) 2 := ⟨wA 1101 (by decide +kernel) rfl, wA 45 (by decide +kernel) rfl, q_79, wA 1102 (by decide +kernel) rfl, by decide +kernel⟩
theorem my_X7_may : myV yX7_may RX7 cX7_may 3 (some .int) 2 := ⟨wA 1085 (by decide +kernel) rfl, wA 1086 (by decide +kernel) rfl, q_79, wA 1087 (by decide +kernel) rfl, by decide +kernel⟩
theorem my_X7_thing : myV yX7_thing RX7 cX7_thing 5 (some .int) 3 := ⟨wA 1104 (by decide +kernel) rfl, wA 1105 (by decide +kernel) rfl, q_79, wA 1106 (by decide +kernel) rfl, by decide +kernel⟩
theorem my_X7_step : myV yX7_step RX7 cX7_step 6 (some .int) 4 := ⟨wA 1113 (by decide +kernel) rfl, wA 1114 (by decide +kernel) rfl, q_79, wA 1115 (by decide +kernel) rfl, by decide +kernel⟩
theorem my_X7_thingOf : myV yX7_thingOf RX7 cX7_thingOf 4 (some .int) 3 := ⟨wA 1126 (by decide +kernel) rfl, wA 1127 (by decide +kernel) rfl, q_79, wA 1128 (by decide +kernel) rfl, by decide +kernel⟩
theorem my_X7_turn : myV yX7_turn RX7 cX7_turn 3 (some .int) 2 := ⟨wA 1144 (by decide +kernel) rfl, wA 1145 (by decide +kernel) rfl, q_79, wA 1146 (by decide +kernel) rfl, by decide +kernel⟩
theorem my_X7_change : myV yX7_change RX7 cX7_change 6 (some .int) 4 := ⟨wA 1148 (by decide +kernel) rfl, wA 1149 (by decide +kernel) rfl, q_79, wA 1150 (by decide +kernel) rfl, by decide +kernel⟩
theorem my_X7_firstFrom : myV yX7_firstFrom RX7 cX7_firstFrom 4 (some .int) 2 := ⟨wA 1161 (by decide +kernel) rfl, wA 52 (by decide +kernel) rfl, q_79, wA 1162 (by decide +kernel) rfl, by decide +kernel⟩
theorem my_X7_firstNear : myV yX7_firstNear RX7 cX7_firstNear 4 (some .int) 2 := ⟨wA 1165 (by decide +kernel) rfl, wA 53 (by decide +kernel) rfl, q_79, wA 1166 (by decide +kernel) rfl, by decide +kernel⟩
theorem my_X7_begin : myV yX7_begin RX7 cX7_begin 2 (some .int) 1 := ⟨wA 1172 (by decide +kernel) rfl, wA 54 (by decide +kernel) rfl, q_79, wA 1173 (by decide +kernel) rfl, by decide +kernel⟩
theorem my_X7_lesser : myS yX7_lesser cX7_lesser 2 (some .int) 2 := ⟨wA 1168 (by decide +kernel) rfl, q_79, wA 1169 (by decide +kernel) rfl, by decide +kernel⟩
theorem my_X7_nextOf : myV yX7_nextOf RX7 cX7_nextOf 7 (some .int) 3 := ⟨wA 1157 (by decide +kernel) rfl, wA 51 (by decide +kernel) rfl, q_79, wA 1158 (by decide +kernel) rfl, by decide +kernel⟩
theorem my_X7_next : myV yX7_next RX7 cX7_next 4 (some .int) 3 := ⟨wA 1152 (by decide +kernel) rfl, wA 1153 (by decide +kernel) rfl, q_79, wA 1154 (by decide +kernel) rfl, by decide +kernel⟩
theorem my_X7_runs : myV yX7_runs RX7 cX7_runs 6 (some .int) 2 := ⟨wA 1185 (by decide +kernel) rfl, wA 56 (by decide +kernel) rfl, q_79, wA 1186 (by decide +kernel) rfl, by decide +kernel⟩
theorem my_X7_lastDay : myV yX7_lastDay RX7 cX7_lastDay 2 (some .int) 1 := ⟨wA 1205 (by decide +kernel) rfl, wA 59 (by decide +kernel) rfl, q_79, wA 1206 (by decide +kernel) rfl, by decide +kernel⟩
theorem my_X7_run : myV yX7_run RX7 cX7_run 4 (some .int) 3 := ⟨wA 1180 (by decide +kernel) rfl, wA 1181 (by decide +kernel) rfl, q_79, wA 1182 (by decide +kernel) rfl, by decide +kernel⟩
theorem my_X7_spoils : myV yX7_spoils RX7 cX7_spoils 3 (some .int) 2 := ⟨wA 1188 (by decide +kernel) rfl, wA 1189 (by decide +kernel) rfl, q_79, wA 1190 (by decide +kernel) rfl, by decide +kernel⟩
theorem my_X7_beginsAt : myV yX7_beginsAt RX7 cX7_beginsAt 4 (some .int) 2 := ⟨wA 1201 (by decide +kernel) rfl, wA 58 (by decide +kernel) rfl, q_79, wA 1202 (by decide +kernel) rfl, by decide +kernel⟩
theorem my_X7_readyAt : myV yX7_readyAt RX7 cX7_readyAt 3 (some .int) 2 := ⟨wA 1197 (by decide +kernel) rfl, wA 57 (by decide +kernel) rfl, q_79, wA 1198 (by decide +kernel) rfl, by decide +kernel⟩
theorem my_X7_ready : myV yX7_ready RX7 cX7_ready 3 (some .int) 2 := ⟨wA 1192 (by decide +kernel) rfl, wA 1193 (by decide +kernel) rfl, q_79, wA 1194 (by decide +kernel) rfl, by decide +kernel⟩
theorem my_X7_begun : myV yX7_begun RX7 cX7_begun 3 (some .int) 2 := ⟨wA 1208 (by decide +kernel) rfl, wA 1209 (by decide +kernel) rfl, q_79, wA 1210 (by decide +kernel) rfl, by decide +kernel⟩
theorem my_X7_latest : myV yX7_latest RX7 cX7_latest 5 (some .int) 2 := ⟨wA 1212 (by decide +kernel) rfl, wA 1213 (by decide +kernel) rfl, q_79, wA 1214 (by decide +kernel) rfl, by decide +kernel⟩
theorem my_X7_waits : myV yX7_waits RX7 cX7_waits 5 (some .int) 2 := ⟨wA 1217 (by decide +kernel) rfl, wA 1218 (by decide +kernel) rfl, q_79, wA 1219 (by decide +kernel) rfl, by decide +kernel⟩
theorem my_X7_order : myV yX7_order RX7 cX7_order 5 (some .int) 3 := ⟨wA 1221 (by decide +kernel) rfl, wA 1222 (by decide +kernel) rfl, q_79, wA 1223 (by decide +kernel) rfl, by decide +kernel⟩
theorem my_X7_orderOf : myV yX7_orderOf RX7 cX7_orderOf 3 (some .int) 2 := ⟨wA 1226 (by decide +kernel) rfl, wA 1227 (by decide +kernel) rfl, q_79, wA 1228 (by decide +kernel) rfl, by decide +kernel⟩
theorem my_X7_clear : myV yX7_clear RX7 cX7_clear 1 (some .int) 0 := ⟨wA 1230 (by decide +kernel) rfl, wA 1231 (by decide +kernel) rfl, q_79, wA 1232 (by decide +kernel) rfl, by decide +kernel⟩
theorem my_X7_noOrders : myV yX7_noOrders RX7 cX7_noOrders 2 none 0 := ⟨wA 1248 (by decide +kernel) rfl, wA 62 (by decide +kernel) rfl, q_79, wA 1249 (by decide +kernel) rfl, by decide +kernel⟩
theorem my_X7_slot : myS yX7_slot cX7_slot 2 (some .int) 2 := ⟨wA 1263 (by decide +kernel) rfl, q_79, wA 1264 (by decide +kernel) rfl, by decide +kernel⟩
theorem my_X7_gets : myV yX7_gets RX7 cX7_gets 4 none 2 := ⟨wA 1260 (by decide +kernel) rfl, wA 65 (by decide +kernel) rfl, q_79, wA 1261 (by decide +kernel) rfl, by decide +kernel⟩
theorem my_X7_areFree : myV yX7_areFree RX7 cX7_areFree 4 (some .boolean) 1 := ⟨wA 1256 (by decide +kernel) rfl, wA 64 (by decide +kernel) rfl, q_79, wA 1257 (by decide +kernel) rfl, by decide +kernel⟩
theorem my_X7_takesOrder : myV yX7_takesOrder RX7 cX7_takesOrder 4 none 1 := ⟨wA 1252 (by decide +kernel) rfl, wA 63 (by decide +kernel) rfl, q_79, wA 1253 (by decide +kernel) rfl, by decide +kernel⟩
theorem my_X7_areOrders : myV yX7_areOrders RX7 cX7_areOrders 7 (some .boolean) 2 := ⟨wA 1240 (by decide +kernel) rfl, wA 60 (by decide +kernel) rfl, q_79, wA 1241 (by decide +kernel) rfl, by decide +kernel⟩
theorem my_X7_takesAll : myV yX7_takesAll RX7 cX7_takesAll 5 none 2 := ⟨wA 1244 (by decide +kernel) rfl, wA 61 (by decide +kernel) rfl, q_79, wA 1245 (by decide +kernel) rfl, by decide +kernel⟩
theorem my_X7_taken : myV yX7_taken RX7 cX7_taken 6 (some .int) 3 := ⟨wA 1234 (by decide +kernel) rfl, wA 1235 (by decide +kernel) rfl, q_79, wA 1236 (by decide +kernel) rfl, by decide +kernel⟩
theorem my_X7_best : myV yX7_best RX7 cX7_best 8 (some .int) 1 := ⟨wA 1266 (by decide +kernel) rfl, wA 1267 (by decide +kernel) rfl, q_79, wA 1268 (by decide +kernel) rfl, by decide +kernel⟩
theorem my_X7_mostOf : myV yX7_mostOf RX7 cX7_mostOf 6 (some .int) 2 := ⟨wA 1279 (by decide +kernel) rfl, wA 67 (by decide +kernel) rfl, q_79, wA 1280 (by decide +kernel) rfl, by decide +kernel⟩
theorem my_X7_chokesAt : myV yX7_chokesAt RX7 cX7_chokesAt 5 (some .int) 1 := ⟨wA 1275 (by decide +kernel) rfl, wA 66 (by decide +kernel) rfl, q_79, wA 1276 (by decide +kernel) rfl, by decide +kernel⟩
theorem my_X7_most : myV yX7_most RX7 cX7_most 2 (some .int) 1 := ⟨wA 1270 (by decide +kernel) rfl, wA 1271 (by decide +kernel) rfl, q_79, wA 1272 (by decide +kernel) rfl, by decide +kernel⟩
theorem my_X7_chokes : myV yX7_chokes RX7 cX7_chokes 2 (some .int) 1 := ⟨wA 1282 (by decide +kernel) rfl, wA 1283 (by decide +kernel) rfl, q_79, wA 1284 (by decide +kernel) rfl, by decide +kernel⟩
theorem my_X7_idle : myV yX7_idle RX7 cX7_idle 4 (some .int) 1 := ⟨wA 1286 (by decide +kernel) rfl, wA 1287 (by decide +kernel) rfl, q_79, wA 1288 (by decide +kernel) rfl, by decide +kernel⟩
theorem my_X7_turnedBy : myV yX7_turnedBy RX7 cX7_turnedBy 5 (some .int) 2 := ⟨wA 1295 (by decide +kernel) rfl, wA 68 (by decide +kernel) rfl, q_79, wA 1296 (by decide +kernel) rfl, by decide +kernel⟩
theorem my_X7_turned : myV yX7_turned RX7 cX7_turned 8 (some .int) 1 := ⟨wA 1290 (by decide +kernel) rfl, wA 1291 (by decide +kernel) rfl, q_79, wA 1292 (by decide +kernel) rfl, by decide +kernel⟩
theorem my_X7_soonest : myV yX7_soonest RX7 cX7_soonest 11 (some .int) 5 := ⟨wA 1303 (by decide +kernel) rfl, wA 69 (by decide +kernel) rfl, q_79, wA 1304 (by decide +kernel) rfl, by decide +kernel⟩
theorem my_X7_roundFor : myV yX7_roundFor RX7 cX7_roundFor 3 (some .int) 2 := ⟨wA 1298 (by decide +kernel) rfl, wA 1299 (by decide +kernel) rfl, q_79, wA 1300 (by decide +kernel) rfl, by decide +kernel⟩
theorem my_X7_nearFor : myV yX7_nearFor RX7 cX7_nearFor 3 (some .int) 2 := ⟨wA 1306 (by decide +kernel) rfl, wA 1307 (by decide +kernel) rfl, q_79, wA 1308 (by decide +kernel) rfl, by decide +kernel⟩
theorem my_X7_chance : myV yX7_chance RX7 cX7_chance 5 (some .int) 2 := ⟨wA 1310 (by decide +kernel) rfl, wA 1311 (by decide +kernel) rfl, q_79, wA 1312 (by decide +kernel) rfl, by decide +kernel⟩
theorem my_X7_seed : myV yX7_seed RX7 cX7_seed 2 (some .int) 1 := ⟨wA 1316 (by decide +kernel) rfl, wA 1317 (by decide +kernel) rfl, q_79, wA 1318 (by decide +kernel) rfl, by decide +kernel⟩
theorem my_X7_hold : myV yX7_hold RX7 cX7_hold 3 (some .int) 2 := ⟨wA 1320 (by decide +kernel) rfl, wA 1321 (by decide +kernel) rfl, q_79, wA 1322 (by decide +kernel) rfl, by decide +kernel⟩
theorem my_X7_above : myS yX7_above cX7_above 1 (some .int) 1 := ⟨wA 1330 (by decide +kernel) rfl, q_79, wA 1331 (by decide +kernel) rfl, by decide +kernel⟩
theorem my_X7_as : myV yX7_as RX7 cX7_as 5 (some .int) 2 := ⟨wA 1325 (by decide +kernel) rfl, wA 1326 (by decide +kernel) rfl, q_79, wA 1327 (by decide +kernel) rfl, by decide +kernel⟩
theorem my_X7_isSheet : myS yX7_isSheet cX7_isSheet 1 (some .boolean) 1 := ⟨wA 1338 (by decide +kernel) rfl, q_79, wA 1339 (by decide +kernel) rfl, by decide +kernel⟩
theorem my_X7_sheet : myV yX7_sheet RX7 cX7_sheet 5 (some .int) 3 := ⟨wA 1334 (by decide +kernel) rfl, wA 1335 (by decide +kernel) rfl, q_79, wA 1336 (by decide +kernel) rfl, by decide +kernel⟩
theorem my_X7_write : myV yX7_write RX7 cX7_write 4 (some .int) 3 := ⟨wA 1343 (by decide +kernel) rfl, wA 1344 (by decide +kernel) rfl, q_79, wA 1345 (by decide +kernel) rfl, by decide +kernel⟩
theorem my_X7_copy : myV yX7_copy RX7 cX7_copy 9 (some .int) 5 := ⟨wA 1347 (by decide +kernel) rfl, wA 1348 (by decide +kernel) rfl, q_79, wA 1349 (by decide +kernel) rfl, by decide +kernel⟩
theorem my_X7_load : myV yX7_load RX7 cX7_load 3 (some .int) 1 := ⟨wA 1351 (by decide +kernel) rfl, wA 1352 (by decide +kernel) rfl, q_79, wA 1353 (by decide +kernel) rfl, by decide +kernel⟩
theorem my_X7_isRight : myV yX7_isRight RX7 cX7_isRight 5 (some .boolean) 4 := ⟨wA 1360 (by decide +kernel) rfl, wA 70 (by decide +kernel) rfl, q_79, wA 1361 (by decide +kernel) rfl, by decide +kernel⟩
theorem my_X7_judge : myV yX7_judge RX7 cX7_judge 4 (some .int) 2 := ⟨wA 1355 (by decide +kernel) rfl, wA 1356 (by decide +kernel) rfl, q_79, wA 1357 (by decide +kernel) rfl, by decide +kernel⟩
theorem my_X7_image : myV yX7_image RX7 cX7_image 2 (some .int) 0 := ⟨wA 1363 (by decide +kernel) rfl, wA 1364 (by decide +kernel) rfl, q_79, wA 1365 (by decide +kernel) rfl, by decide +kernel⟩
theorem my_X7_undo : myV yX7_undo RX7 cX7_undo 2 (some .int) 0 := ⟨wA 1367 (by decide +kernel) rfl, wA 1368 (by decide +kernel) rfl, q_79, wA 1369 (by decide +kernel) rfl, by decide +kernel⟩
theorem my_X7_tear : myV yX7_tear RX7 cX7_tear 2 (some .int) 0 := ⟨wA 1371 (by decide +kernel) rfl, wA 1372 (by decide +kernel) rfl, q_79, wA 1373 (by decide +kernel) rfl, by decide +kernel⟩
theorem my_X7_count : myV yX7_count RX7 cX7_count 4 (some .int) 1 := ⟨wA 1375 (by decide +kernel) rfl, wA 1376 (by decide +kernel) rfl, q_79, wA 1377 (by decide +kernel) rfl, by decide +kernel⟩
theorem my_X7_status : myV yX7_status RX7 cX7_status 4 (some .int) 1 := ⟨wA 1379 (by decide +kernel) rfl, wA 1380 (by decide +kernel) rfl, q_79, wA 1381 (by decide +kernel) rfl, by decide +kernel⟩
theorem my_J6_bitCount_0f7a4 : myS yJ6_bitCount_0f7a4 cJ6_bitCount_0f7a4 1 (some .int) 1 := ⟨wA 776 (by decide +kernel) rfl, q_86, wA 777 (by decide +kernel) rfl, by decide +kernel⟩
theorem my_J9_max_7cf53 : myS yJ9_max_7cf53 cJ9_max_7cf53 2 (some .int) 2 := ⟨wA 668 (by decide +kernel) rfl, q_85, wA 669 (by decide +kernel) rfl, by decide +kernel⟩
theorem my_J9_min_7cf53 : myS yJ9_min_7cf53 cJ9_min_7cf53 2 (some .int) 2 := ⟨wA 603 (by decide +kernel) rfl, q_85, wA 604 (by decide +kernel) rfl, by decide +kernel⟩
theorem my_J0_length_8abf5 : myV yJ0_length_8abf5 RJ0 cJ0_length_8abf5 1 (some .int) 0 := ⟨wA 388 (by decide +kernel) rfl, wA 389 (by decide +kernel) rfl, q_81, wA 390 (by decide +kernel) rfl, by decide +kernel⟩
theorem my_J0_charAt_5068e : myV yJ0_charAt_5068e RJ0 cJ0_charAt_5068e 2 (some .char) 1 := ⟨wA 398 (by decide +kernel) rfl, wA 399 (by decide +kernel) rfl, q_81, wA 400 (by decide +kernel) rfl, by decide +kernel⟩
theorem my_J0_coder_7d493 : myV yJ0_coder_7d493 RJ0 cJ0_coder_7d493 1 (some .byte) 0 := ⟨wA 392 (by decide +kernel) rfl, wA 393 (by decide +kernel) rfl, q_81, wA 394 (by decide +kernel) rfl, by decide +kernel⟩
theorem my_J0_isLatin1_aae02 : myV yJ0_isLatin1_aae02 RJ0 cJ0_isLatin1_aae02 1 (some .boolean) 0 := ⟨wA 402 (by decide +kernel) rfl, wA 403 (by decide +kernel) rfl, q_81, wA 404 (by decide +kernel) rfl, by decide +kernel⟩
theorem my_J0_checkIndex_df160 : myS yJ0_checkIndex_df160 cJ0_checkIndex_df160 2 none 2 := ⟨wA 409 (by decide +kernel) rfl, q_81, wA 410 (by decide +kernel) rfl, by decide +kernel⟩
theorem my_J1_charAt_3b067 : myS yJ1_charAt_3b067 cJ1_charAt_3b067 2 (some .char) 2 := ⟨wA 406 (by decide +kernel) rfl, q_82, wA 407 (by decide +kernel) rfl, by decide +kernel⟩
theorem my_J2_getChar_3b067 : myS yJ2_getChar_3b067 cJ2_getChar_3b067 2 (some .char) 2 := ⟨wA 427 (by decide +kernel) rfl, q_84, wA 428 (by decide +kernel) rfl, by decide +kernel⟩
theorem my_J2_length_9d52b : myS yJ2_length_9d52b cJ2_length_9d52b 1 (some .int) 1 := ⟨wA 423 (by decide +kernel) rfl, q_84, wA 424 (by decide +kernel) rfl, by decide +kernel⟩
theorem my_J2_charAt_3b067 : myS yJ2_charAt_3b067 cJ2_charAt_3b067 2 (some .char) 2 := ⟨wA 417 (by decide +kernel) rfl, q_84, wA 418 (by decide +kernel) rfl, by decide +kernel⟩
theorem my_J2_checkIndex_2214a : myS yJ2_checkIndex_2214a cJ2_checkIndex_2214a 2 none 2 := ⟨wA 420 (by decide +kernel) rfl, q_84, wA 421 (by decide +kernel) rfl, by decide +kernel⟩
theorem my_J3_checkIndex_8e157 : myS yJ3_checkIndex_8e157 cJ3_checkIndex_8e157 3 (some .int) 3 := ⟨wA 414 (by decide +kernel) rfl, q_83, wA 415 (by decide +kernel) rfl, by decide +kernel⟩
theorem inX0 : ∀ w ∈ u_ws RX0 TX0 2, w ∈ wsA := by
  intro w hw
  obtain ⟨k, hk, rfl⟩ := List.mem_map.mp hw
  have hk := List.mem_range.mp hk
  rcases (show k = 0 ∨ k = 1 by omega) with rfl | rfl
  · exact wA 188 (by decide +kernel) (by decide +kernel)
  · exact wA 190 (by decide +kernel) (by decide +kernel)
theorem inX1 : ∀ w ∈ u_ws RX1 TX1 3, w ∈ wsA := by
  intro w hw
  obtain ⟨k, hk, rfl⟩ := List.mem_map.mp hw
  have hk := List.mem_range.mp hk
  rcases (show k = 0 ∨ k = 1 ∨ k = 2 by omega) with rfl | rfl | rfl
  · exact wA 293 (by decide +kernel) (by decide +kernel)
  · exact wA 295 (by decide +kernel) (by decide +kernel)
  · exact wA 297 (by decide +kernel) (by decide +kernel)
theorem inX2 : ∀ w ∈ u_ws RX2 TX2 15, w ∈ wsA := by
  intro w hw
  obtain ⟨k, hk, rfl⟩ := List.mem_map.mp hw
  have hk := List.mem_range.mp hk
  rcases (show k = 0 ∨ k = 1 ∨ k = 2 ∨ k = 3 ∨ k = 4 ∨ k = 5 ∨ k = 6 ∨ k = 7 ∨ k = 8 ∨ k = 9 ∨ k = 10 ∨ k = 11 ∨ k = 12 ∨ k = 13 ∨ k = 14 by omega) with rfl | rfl | rfl | rfl | rfl | rfl | rfl | rfl | rfl | rfl | rfl | rfl | rfl | rfl | rfl
  · exact wA 221 (by decide +kernel) (by decide +kernel)
  · exact wA 223 (by decide +kernel) (by decide +kernel)
  · exact wA 225 (by decide +kernel) (by decide +kernel)
  · exact wA 227 (by decide +kernel) (by decide +kernel)
  · exact wA 229 (by decide +kernel) (by decide +kernel)
  · exact wA 231 (by decide +kernel) (by decide +kernel)
  · exact wA 233 (by decide +kernel) (by decide +kernel)
  · exact wA 235 (by decide +kernel) (by decide +kernel)
  · exact wA 237 (by decide +kernel) (by decide +kernel)
  · exact wA 239 (by decide +kernel) (by decide +kernel)
  · exact wA 241 (by decide +kernel) (by decide +kernel)
  · exact wA 243 (by decide +kernel) (by decide +kernel)
  · exact wA 245 (by decide +kernel) (by decide +kernel)
  · exact wA 247 (by decide +kernel) (by decide +kernel)
  · exact wA 249 (by decide +kernel) (by decide +kernel)
theorem inX3 : ∀ w ∈ u_ws RX3 TX3 2, w ∈ wsA := by
  intro w hw
  obtain ⟨k, hk, rfl⟩ := List.mem_map.mp hw
  have hk := List.mem_range.mp hk
  rcases (show k = 0 ∨ k = 1 by omega) with rfl | rfl
  · exact wA 173 (by decide +kernel) (by decide +kernel)
  · exact wA 175 (by decide +kernel) (by decide +kernel)
theorem inX4 : ∀ w ∈ u_ws RX4 TX4 6, w ∈ wsA := by
  intro w hw
  obtain ⟨k, hk, rfl⟩ := List.mem_map.mp hw
  have hk := List.mem_range.mp hk
  rcases (show k = 0 ∨ k = 1 ∨ k = 2 ∨ k = 3 ∨ k = 4 ∨ k = 5 by omega) with rfl | rfl | rfl | rfl | rfl | rfl
  · exact wA 265 (by decide +kernel) (by decide +kernel)
  · exact wA 267 (by decide +kernel) (by decide +kernel)
  · exact wA 269 (by decide +kernel) (by decide +kernel)
  · exact wA 271 (by decide +kernel) (by decide +kernel)
  · exact wA 273 (by decide +kernel) (by decide +kernel)
  · exact wA 275 (by decide +kernel) (by decide +kernel)
theorem inX5 : ∀ w ∈ u_ws RX5 TX5 12, w ∈ wsA := by
  intro w hw
  obtain ⟨k, hk, rfl⟩ := List.mem_map.mp hw
  have hk := List.mem_range.mp hk
  rcases (show k = 0 ∨ k = 1 ∨ k = 2 ∨ k = 3 ∨ k = 4 ∨ k = 5 ∨ k = 6 ∨ k = 7 ∨ k = 8 ∨ k = 9 ∨ k = 10 ∨ k = 11 by omega) with rfl | rfl | rfl | rfl | rfl | rfl | rfl | rfl | rfl | rfl | rfl | rfl
  · exact wA 136 (by decide +kernel) (by decide +kernel)
  · exact wA 138 (by decide +kernel) (by decide +kernel)
  · exact wA 140 (by decide +kernel) (by decide +kernel)
  · exact wA 142 (by decide +kernel) (by decide +kernel)
  · exact wA 144 (by decide +kernel) (by decide +kernel)
  · exact wA 146 (by decide +kernel) (by decide +kernel)
  · exact wA 148 (by decide +kernel) (by decide +kernel)
  · exact wA 150 (by decide +kernel) (by decide +kernel)
  · exact wA 152 (by decide +kernel) (by decide +kernel)
  · exact wA 154 (by decide +kernel) (by decide +kernel)
  · exact wA 156 (by decide +kernel) (by decide +kernel)
  · exact wA 158 (by decide +kernel) (by decide +kernel)
theorem inX6 : ∀ w ∈ u_ws RX6 TX6 10, w ∈ wsA := by
  intro w hw
  obtain ⟨k, hk, rfl⟩ := List.mem_map.mp hw
  have hk := List.mem_range.mp hk
  rcases (show k = 0 ∨ k = 1 ∨ k = 2 ∨ k = 3 ∨ k = 4 ∨ k = 5 ∨ k = 6 ∨ k = 7 ∨ k = 8 ∨ k = 9 by omega) with rfl | rfl | rfl | rfl | rfl | rfl | rfl | rfl | rfl | rfl
  · exact wA 310 (by decide +kernel) (by decide +kernel)
  · exact wA 312 (by decide +kernel) (by decide +kernel)
  · exact wA 314 (by decide +kernel) (by decide +kernel)
  · exact wA 316 (by decide +kernel) (by decide +kernel)
  · exact wA 318 (by decide +kernel) (by decide +kernel)
  · exact wA 320 (by decide +kernel) (by decide +kernel)
  · exact wA 322 (by decide +kernel) (by decide +kernel)
  · exact wA 324 (by decide +kernel) (by decide +kernel)
  · exact wA 326 (by decide +kernel) (by decide +kernel)
  · exact wA 328 (by decide +kernel) (by decide +kernel)
theorem inX7 : ∀ w ∈ u_ws RX7 TX7 20, w ∈ wsA := by
  intro w hw
  obtain ⟨k, hk, rfl⟩ := List.mem_map.mp hw
  have hk := List.mem_range.mp hk
  rcases (show k = 0 ∨ k = 1 ∨ k = 2 ∨ k = 3 ∨ k = 4 ∨ k = 5 ∨ k = 6 ∨ k = 7 ∨ k = 8 ∨ k = 9 ∨ k = 10 ∨ k = 11 ∨ k = 12 ∨ k = 13 ∨ k = 14 ∨ k = 15 ∨ k = 16 ∨ k = 17 ∨ k = 18 ∨ k = 19 by omega) with rfl | rfl | rfl | rfl | rfl | rfl | rfl | rfl | rfl | rfl | rfl | rfl | rfl | rfl | rfl | rfl | rfl | rfl | rfl | rfl
  · exact wA 926 (by decide +kernel) (by decide +kernel)
  · exact wA 928 (by decide +kernel) (by decide +kernel)
  · exact wA 930 (by decide +kernel) (by decide +kernel)
  · exact wA 932 (by decide +kernel) (by decide +kernel)
  · exact wA 934 (by decide +kernel) (by decide +kernel)
  · exact wA 936 (by decide +kernel) (by decide +kernel)
  · exact wA 938 (by decide +kernel) (by decide +kernel)
  · exact wA 940 (by decide +kernel) (by decide +kernel)
  · exact wA 942 (by decide +kernel) (by decide +kernel)
  · exact wA 944 (by decide +kernel) (by decide +kernel)
  · exact wA 946 (by decide +kernel) (by decide +kernel)
  · exact wA 948 (by decide +kernel) (by decide +kernel)
  · exact wA 950 (by decide +kernel) (by decide +kernel)
  · exact wA 952 (by decide +kernel) (by decide +kernel)
  · exact wA 954 (by decide +kernel) (by decide +kernel)
  · exact wA 956 (by decide +kernel) (by decide +kernel)
  · exact wA 958 (by decide +kernel) (by decide +kernel)
  · exact wA 960 (by decide +kernel) (by decide +kernel)
  · exact wA 962 (by decide +kernel) (by decide +kernel)
  · exact wA 964 (by decide +kernel) (by decide +kernel)
