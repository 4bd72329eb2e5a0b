theorem dX7_readsDraft_112 : decode cX7_readsDraft 112 = .ok (.bipush 48, 2) := by decide +kernel
theorem dX7_readsDraft_114 : decode cX7_readsDraft 114 = .ok (.isub, 1) := by decide +kernel
theorem dX7_readsDraft_115 : decode cX7_readsDraft 115 = .ok (.goto 4, 3) := by decide +kernel
theorem dX7_readsDraft_118 : decode cX7_readsDraft 118 = .ok (.iconst 1, 1) := by decide +kernel
theorem dX7_readsDraft_119 : decode cX7_readsDraft 119 = .ok (.istore 4, 2) := by decide +kernel
theorem dX7_readsDraft_121 : decode cX7_readsDraft 121 = .ok (.aload_n 0, 1) := by decide +kernel
theorem dX7_readsDraft_122 : decode cX7_readsDraft 122 = .ok (.getfield 116, 3) := by decide +kernel
theorem dX7_readsDraft_125 : decode cX7_readsDraft 125 = .ok (.iload_n 1, 1) := by decide +kernel
theorem dX7_readsDraft_126 : decode cX7_readsDraft 126 = .ok (.iaload, 1) := by decide +kernel
theorem dX7_readsDraft_127 : decode cX7_readsDraft 127 = .ok (.istore 5, 2) := by decide +kernel
theorem dX7_readsDraft_129 : decode cX7_readsDraft 129 = .ok (.iload 5, 2) := by decide +kernel
theorem dX7_readsDraft_131 : decode cX7_readsDraft 131 = .ok (.aload_n 0, 1) := by decide +kernel
theorem dX7_readsDraft_132 : decode cX7_readsDraft 132 = .ok (.getfield 167, 3) := by decide +kernel
theorem dX7_readsDraft_135 : decode cX7_readsDraft 135 = .ok (.if_icmp .ge 21, 3) := by decide +kernel
theorem dX7_readsDraft_138 : decode cX7_readsDraft 138 = .ok (.aload_n 0, 1) := by decide +kernel
theorem dX7_readsDraft_139 : decode cX7_readsDraft 139 = .ok (.getfield 83, 3) := by decide +kernel
theorem dX7_readsDraft_142 : decode cX7_readsDraft 142 = .ok (.iload 5, 2) := by decide +kernel
theorem dX7_readsDraft_144 : decode cX7_readsDraft 144 = .ok (.dup2, 1) := by decide +kernel
theorem dX7_readsDraft_145 : decode cX7_readsDraft 145 = .ok (.iaload, 1) := by decide +kernel
theorem dX7_readsDraft_146 : decode cX7_readsDraft 146 = .ok (.iload 4, 2) := by decide +kernel
theorem dX7_readsDraft_148 : decode cX7_readsDraft 148 = .ok (.imul, 1) := by decide +kernel
theorem dX7_readsDraft_149 : decode cX7_readsDraft 149 = .ok (.iastore, 1) := by decide +kernel
theorem dX7_readsDraft_150 : decode cX7_readsDraft 150 = .ok (.iinc 5 1, 3) := by decide +kernel
theorem dX7_readsDraft_153 : decode cX7_readsDraft 153 = .ok (.goto (-24), 3) := by decide +kernel
theorem dX7_readsDraft_156 : decode cX7_readsDraft 156 = .ok (.aload_n 0, 1) := by decide +kernel
theorem dX7_readsDraft_157 : decode cX7_readsDraft 157 = .ok (.iload_n 1, 1) := by decide +kernel
theorem dX7_readsDraft_158 : decode cX7_readsDraft 158 = .ok (.iload 4, 2) := by decide +kernel
theorem dX7_readsDraft_160 : decode cX7_readsDraft 160 = .ok (.invokevirtual 170, 3) := by decide +kernel
theorem dX7_readsDraft_163 : decode cX7_readsDraft 163 = .ok (.iinc 1 (-1), 3) := by decide +kernel
theorem dX7_readsDraft_166 : decode cX7_readsDraft 166 = .ok (.goto 20, 3) := by decide +kernel
theorem dX7_readsDraft_169 : decode cX7_readsDraft 169 = .ok (.iload_n 3, 1) := by decide +kernel
theorem dX7_readsDraft_170 : decode cX7_readsDraft 170 = .ok (.bipush 97, 2) := by decide +kernel
theorem dX7_readsDraft_172 : decode cX7_readsDraft 172 = .ok (.bipush 104, 2) := by decide +kernel
theorem dX7_readsDraft_174 : decode cX7_readsDraft 174 = .ok (.invokestatic 129, 3) := by decide +kernel
theorem dX7_readsDraft_177 : decode cX7_readsDraft 177 = .ok (.ifCond .eq 9, 3) := by decide +kernel
theorem dX7_readsDraft_180 : decode cX7_readsDraft 180 = .ok (.aload_n 0, 1) := by decide +kernel
theorem dX7_readsDraft_181 : decode cX7_readsDraft 181 = .ok (.iload_n 2, 1) := by decide +kernel
theorem dX7_readsDraft_182 : decode cX7_readsDraft 182 = .ok (.iload_n 1, 1) := by decide +kernel
theorem dX7_readsDraft_183 : decode cX7_readsDraft 183 = .ok (.invokevirtual 173, 3) := by decide +kernel
theorem dX7_readsDraft_186 : decode cX7_readsDraft 186 = .ok (.iinc 2 1, 3) := by decide +kernel
theorem dX7_readsDraft_189 : decode cX7_readsDraft 189 = .ok (.goto (-158), 3) := by decide +kernel
theorem dX7_readsDraft_192 : decode cX7_readsDraft 192 = .ok (.aload_n 0, 1) := by decide +kernel
theorem dX7_readsDraft_193 : decode cX7_readsDraft 193 = .ok (.iconst 0, 1) := by decide +kernel
theorem dX7_readsDraft_194 : decode cX7_readsDraft 194 = .ok (.putfield 176, 3) := by decide +kernel
theorem dX7_readsDraft_197 : decode cX7_readsDraft 197 = .ok (.iconst 0, 1) := by decide +kernel
theorem dX7_readsDraft_198 : decode cX7_readsDraft 198 = .ok (.istore_n 2, 1) := by decide +kernel
theorem dX7_readsDraft_199 : decode cX7_readsDraft 199 = .ok (.iload_n 2, 1) := by decide +kernel
theorem dX7_readsDraft_200 : decode cX7_readsDraft 200 = .ok (.aload_n 0, 1) := by decide +kernel
theorem dX7_readsDraft_201 : decode cX7_readsDraft 201 = .ok (.getfield 110, 3) := by decide +kernel
theorem dX7_readsDraft_204 : decode cX7_readsDraft 204 = .ok (.iconst 0, 1) := by decide +kernel
theorem dX7_readsDraft_205 : decode cX7_readsDraft 205 = .ok (.iaload, 1) := by decide +kernel
theorem dX7_readsDraft_206 : decode cX7_readsDraft 206 = .ok (.if_icmp .ge 94, 3) := by decide +kernel
theorem dX7_readsDraft_209 : decode cX7_readsDraft 209 = .ok (.aload_n 0, 1) := by decide +kernel
theorem dX7_readsDraft_210 : decode cX7_readsDraft 210 = .ok (.getfield 113, 3) := by decide +kernel
theorem dX7_readsDraft_213 : decode cX7_readsDraft 213 = .ok (.iload_n 2, 1) := by decide +kernel
theorem dX7_readsDraft_214 : decode cX7_readsDraft 214 = .ok (.iaload, 1) := by decide +kernel
theorem dX7_readsDraft_215 : decode cX7_readsDraft 215 = .ok (.istore_n 3, 1) := by decide +kernel
theorem dX7_readsDraft_216 : decode cX7_readsDraft 216 = .ok (.iload_n 2, 1) := by decide +kernel
theorem dX7_readsDraft_217 : decode cX7_readsDraft 217 = .ok (.ifCond .le 24, 3) := by decide +kernel
theorem dX7_readsDraft_220 : decode cX7_readsDraft 220 = .ok (.aload_n 0, 1) := by decide +kernel
theorem dX7_readsDraft_221 : decode cX7_readsDraft 221 = .ok (.getfield 119, 3) := by decide +kernel
theorem dX7_readsDraft_224 : decode cX7_readsDraft 224 = .ok (.aload_n 0, 1) := by decide +kernel
theorem dX7_readsDraft_225 : decode cX7_readsDraft 225 = .ok (.getfield 176, 3) := by decide +kernel
theorem dX7_readsDraft_228 : decode cX7_readsDraft 228 = .ok (.bipush 32, 2) := by decide +kernel
theorem dX7_readsDraft_230 : decode cX7_readsDraft 230 = .ok (.iastore, 1) := by decide +kernel
theorem dX7_readsDraft_231 : decode cX7_readsDraft 231 = .ok (.aload_n 0, 1) := by decide +kernel
theorem dX7_readsDraft_232 : decode cX7_readsDraft 232 = .ok (.dup, 1) := by decide +kernel
theorem dX7_readsDraft_233 : decode cX7_readsDraft 233 = .ok (.getfield 176, 3) := by decide +kernel
theorem dX7_readsDraft_236 : decode cX7_readsDraft 236 = .ok (.iconst 1, 1) := by decide +kernel
theorem dX7_readsDraft_237 : decode cX7_readsDraft 237 = .ok (.iadd, 1) := by decide +kernel
theorem dX7_readsDraft_238 : decode cX7_readsDraft 238 = .ok (.putfield 176, 3) := by decide +kernel
theorem dX7_readsDraft_241 : decode cX7_readsDraft 241 = .ok (.iconst 0, 1) := by decide +kernel
theorem dX7_readsDraft_242 : decode cX7_readsDraft 242 = .ok (.istore 4, 2) := by decide +kernel
theorem dX7_readsDraft_244 : decode cX7_readsDraft 244 = .ok (.iload 4, 2) := by decide +kernel
theorem dX7_readsDraft_246 : decode cX7_readsDraft 246 = .ok (.aload_n 0, 1) := by decide +kernel
theorem dX7_readsDraft_247 : decode cX7_readsDraft 247 = .ok (.getfield 95, 3) := by decide +kernel
theorem dX7_readsDraft_250 : decode cX7_readsDraft 250 = .ok (.iload_n 3, 1) := by decide +kernel
theorem dX7_readsDraft_251 : decode cX7_readsDraft 251 = .ok (.iaload, 1) := by decide +kernel
theorem dX7_readsDraft_252 : decode cX7_readsDraft 252 = .ok (.if_icmp .ge 42, 3) := by decide +kernel
theorem dX7_readsDraft_255 : decode cX7_readsDraft 255 = .ok (.aload_n 0, 1) := by decide +kernel
theorem dX7_readsDraft_256 : decode cX7_readsDraft 256 = .ok (.getfield 119, 3) := by decide +kernel
theorem dX7_readsDraft_259 : decode cX7_readsDraft 259 = .ok (.aload_n 0, 1) := by decide +kernel
theorem dX7_readsDraft_260 : decode cX7_readsDraft 260 = .ok (.getfield 176, 3) := by decide +kernel
theorem dX7_readsDraft_263 : decode cX7_readsDraft 263 = .ok (.aload_n 0, 1) := by decide +kernel
theorem dX7_readsDraft_264 : decode cX7_readsDraft 264 = .ok (.getfield 107, 3) := by decide +kernel
theorem dX7_readsDraft_267 : decode cX7_readsDraft 267 = .ok (.aload_n 0, 1) := by decide +kernel
theorem dX7_readsDraft_268 : decode cX7_readsDraft 268 = .ok (.getfield 92, 3) := by decide +kernel
theorem dX7_readsDraft_271 : decode cX7_readsDraft 271 = .ok (.iload_n 3, 1) := by decide +kernel
theorem dX7_readsDraft_272 : decode cX7_readsDraft 272 = .ok (.iaload, 1) := by decide +kernel
theorem dX7_readsDraft_273 : decode cX7_readsDraft 273 = .ok (.iload 4, 2) := by decide +kernel
theorem dX7_readsDraft_275 : decode cX7_readsDraft 275 = .ok (.iadd, 1) := by decide +kernel
theorem dX7_readsDraft_276 : decode cX7_readsDraft 276 = .ok (.iaload, 1) := by decide +kernel
theorem dX7_readsDraft_277 : decode cX7_readsDraft 277 = .ok (.iastore, 1) := by decide +kernel
theorem dX7_readsDraft_278 : decode cX7_readsDraft 278 = .ok (.aload_n 0, 1) := by decide +kernel
theorem dX7_readsDraft_279 : decode cX7_readsDraft 279 = .ok (.dup, 1) := by decide +kernel
theorem dX7_readsDraft_280 : decode cX7_readsDraft 280 = .ok (.getfield 176, 3) := by decide +kernel
theorem dX7_readsDraft_283 : decode cX7_readsDraft 283 = .ok (.iconst 1, 1) := by decide +kernel
theorem dX7_readsDraft_284 : decode cX7_readsDraft 284 = .ok (.iadd, 1) := by decide +kernel
theorem dX7_readsDraft_285 : decode cX7_readsDraft 285 = .ok (.putfield 176, 3) := by decide +kernel
theorem dX7_readsDraft_288 : decode cX7_readsDraft 288 = .ok (.iinc 4 1, 3) := by decide +kernel
theorem dX7_readsDraft_291 : decode cX7_readsDraft 291 = .ok (.goto (-47), 3) := by decide +kernel
theorem dX7_readsDraft_294 : decode cX7_readsDraft 294 = .ok (.iinc 2 1, 3) := by decide +kernel
theorem dX7_readsDraft_297 : decode cX7_readsDraft 297 = .ok (.goto (-98), 3) := by decide +kernel
theorem dX7_readsDraft_300 : decode cX7_readsDraft 300 = .ok (.return_, 1) := by decide +kernel
set_option maxRecDepth 20000 in
theorem ggX7_readsPosting_X7_isIn : GoodIn wsX7_readsPosting wsX7_isIn := goodIn_r _ [14] (by decide +kernel) (by decide +kernel)
set_option maxRecDepth 20000 in
theorem gX7_readsPosting_X7_isIn : GoodIn wsX7_readsPosting (va_wsS RX7 129 yX7_isIn wsX7_isIn) := goodIn_app (goodIn_of _ (by decide +kernel)) ggX7_readsPosting_X7_isIn
set_option maxRecDepth 20000 in
theorem ggX7_readsPosting_X7_begins_c0 : GoodIn wsX7_readsPosting ([.code yX7_begins cX7_begins 4 (some .int)]) := goodIn_r _ [18] (by decide +kernel) (by decide +kernel)
set_option maxRecDepth 20000 in
theorem ggX7_readsPosting_X7_begins_c1 : GoodIn wsX7_readsPosting ([.fieldLink RX7 147 "PostlintModel" "items" "I", .fieldLink RX7 86 "PostlintModel" "isGroup" "[Z", .fieldLink RX7 89 "PostlintModel" "itemTimes" "[I", .fieldLink RX7 92 "PostlintModel" "itemFrom" "[I", .fieldLink RX7 140 "PostlintModel" "signs" "I", .fieldLink RX7 95 "PostlintModel" "itemLong" "[I", .fieldLink RX7 98 "PostlintModel" "firstPart" "[I", .fieldLink RX7 150 "PostlintModel" "parts" "I", .fieldLink RX7 101 "PostlintModel" "partMany" "[I", .methodLink RX7 153 yX7_joins, .instanceMethod yX7_joins, .selects RX7 yX7_joins yX7_joins, .initialized RX7, .code yX7_joins cX7_joins 3 none, .fieldLink RX7 113 "PostlintModel" "level" "[I", .fieldLink RX7 110 "PostlintModel" "levelMany" "[I"]) := goodIn_r _ [19, 20, 21, 10, 9, 8, 22, 23, 24, 25, 26, 27, 13, 28, 29, 30] (by decide +kernel) (by decide +kernel)
set_option maxRecDepth 20000 in
theorem ggX7_readsPosting_X7_begins_c2 : GoodIn wsX7_readsPosting (wsX70) := goodIn_r _ [40, 41, 42, 43, 44, 45, 46, 47, 48, 49, 50, 51, 52, 53, 54, 55, 56, 57, 58, 59, 60, 61, 62, 63, 64, 65, 66, 67, 68, 69, 70, 71, 72, 73, 74, 75, 76, 77, 78, 79, 80, 81, 82, 83, 84, 85, 86] (by decide +kernel) (by decide +kernel)
set_option maxRecDepth 20000 in
theorem ggX7_readsPosting_X7_begins : GoodIn wsX7_readsPosting wsX7_begins := (goodIn_c1 ggX7_readsPosting_X7_begins_c0 (goodIn_app ggX7_readsPosting_X7_begins_c1 ggX7_readsPosting_X7_begins_c2))
set_option maxRecDepth 20000 in
theorem gX7_readsPosting_X7_begins : GoodIn wsX7_readsPosting (wsV RX7 157 RX7 yX7_begins wsX7_begins) := goodIn_app (goodIn_of _ (by decide +kernel)) ggX7_readsPosting_X7_begins
set_option maxRecDepth 20000 in
theorem ggX7_readsPosting_X7_putsSign_c0 : GoodIn wsX7_readsPosting ([.code yX7_putsSign cX7_putsSign 2 none]) := goodIn_r _ [34] (by decide +kernel) (by decide +kernel)
set_option maxRecDepth 20000 in
theorem ggX7_readsPosting_X7_putsSign_c1 : GoodIn wsX7_readsPosting ([.fieldLink RX7 107 "PostlintModel" "sign" "[I", .fieldLink RX7 140 "PostlintModel" "signs" "I"]) := goodIn_r _ [35, 9] (by decide +kernel) (by decide +kernel)
set_option maxRecDepth 20000 in
theorem ggX7_readsPosting_X7_putsSign_c2 : GoodIn wsX7_readsPosting (wsX70) := goodIn_r _ [40, 41, 42, 43, 44, 45, 46, 47, 48, 49, 50, 51, 52, 53, 54, 55, 56, 57, 58, 59, 60, 61, 62, 63, 64, 65, 66, 67, 68, 69, 70, 71, 72, 73, 74, 75, 76, 77, 78, 79, 80, 81, 82, 83, 84, 85, 86] (by decide +kernel) (by decide +kernel)
set_option maxRecDepth 20000 in
theorem ggX7_readsPosting_X7_putsSign : GoodIn wsX7_readsPosting wsX7_putsSign := (goodIn_c1 ggX7_readsPosting_X7_putsSign_c0 (goodIn_app ggX7_readsPosting_X7_putsSign_c1 ggX7_readsPosting_X7_putsSign_c2))
set_option maxRecDepth 20000 in
theorem gX7_readsPosting_X7_putsSign : GoodIn wsX7_readsPosting (wsV RX7 143 RX7 yX7_putsSign wsX7_putsSign) := goodIn_app (goodIn_of _ (by decide +kernel)) ggX7_readsPosting_X7_putsSign
set_option maxRecDepth 20000 in
theorem ggX7_readsPosting_X7_putsNumber_c0 : GoodIn wsX7_readsPosting ([.code yX7_putsNumber cX7_putsNumber 2 none]) := goodIn_r _ [39] (by decide +kernel) (by decide +kernel)
set_option maxRecDepth 20000 in
theorem ggX7_readsPosting_X7_putsNumber_c1 : GoodIn wsX7_readsPosting ([.methodLink RX7 143 yX7_putsSign, .instanceMethod yX7_putsSign, .selects RX7 yX7_putsSign yX7_putsSign, .initialized RX7, .code yX7_putsSign cX7_putsSign 2 none, .fieldLink RX7 107 "PostlintModel" "sign" "[I", .fieldLink RX7 140 "PostlintModel" "signs" "I"]) := goodIn_r _ [31, 32, 33, 13, 34, 35, 9] (by decide +kernel) (by decide +kernel)
set_option maxRecDepth 20000 in
theorem ggX7_readsPosting_X7_putsNumber_c2 : GoodIn wsX7_readsPosting (wsX70) := goodIn_r _ [40, 41, 42, 43, 44, 45, 46, 47, 48, 49, 50, 51, 52, 53, 54, 55, 56, 57, 58, 59, 60, 61, 62, 63, 64, 65, 66, 67, 68, 69, 70, 71, 72, 73, 74, 75, 76, 77, 78, 79, 80, 81, 82, 83, 84, 85, 86] (by decide +kernel) (by decide +kernel)
set_option maxRecDepth 20000 in
theorem ggX7_readsPosting_X7_putsNumber : GoodIn wsX7_readsPosting wsX7_putsNumber := (goodIn_c1 ggX7_readsPosting_X7_putsNumber_c0 (goodIn_app ggX7_readsPosting_X7_putsNumber_c1 ggX7_readsPosting_X7_putsNumber_c2))
set_option maxRecDepth 20000 in
theorem gX7_readsPosting_X7_putsNumber : GoodIn wsX7_readsPosting (wsV RX7 164 RX7 yX7_putsNumber wsX7_putsNumber) := goodIn_app (goodIn_of _ (by decide +kernel)) ggX7_readsPosting_X7_putsNumber
theorem dX7_readsPosting_0 : decode cX7_readsPosting 0 = .ok (.iconst 0, 1) := by decide +kernel
theorem dX7_readsPosting_1 : decode cX7_readsPosting 1 = .ok (.istore_n 3, 1) := by decide +kernel
theorem dX7_readsPosting_2 : decode cX7_readsPosting 2 = .ok (.iload_n 1, 1) := by decide +kernel
theorem dX7_readsPosting_3 : decode cX7_readsPosting 3 = .ok (.iconst 2, 1) := by decide +kernel
theorem dX7_readsPosting_4 : decode cX7_readsPosting 4 = .ok (.iadd, 1) := by decide +kernel
theorem dX7_readsPosting_5 : decode cX7_readsPosting 5 = .ok (.istore 4, 2) := by decide +kernel
theorem dX7_readsPosting_7 : decode cX7_readsPosting 7 = .ok (.iload 4, 2) := by decide +kernel
theorem dX7_readsPosting_9 : decode cX7_readsPosting 9 = .ok (.aload_n 0, 1) := by decide +kernel
theorem dX7_readsPosting_10 : decode cX7_readsPosting 10 = .ok (.getfield 133, 3) := by decide +kernel
theorem dX7_readsPosting_13 : decode cX7_readsPosting 13 = .ok (.if_icmp .ge 42, 3) := by decide +kernel
theorem dX7_readsPosting_16 : decode cX7_readsPosting 16 = .ok (.aload_n 0, 1) := by decide +kernel
theorem dX7_readsPosting_17 : decode cX7_readsPosting 17 = .ok (.getfield 7, 3) := by decide +kernel
theorem dX7_readsPosting_20 : decode cX7_readsPosting 20 = .ok (.iload 4, 2) := by decide +kernel
theorem dX7_readsPosting_22 : decode cX7_readsPosting 22 = .ok (.iaload, 1) := by decide +kernel
theorem dX7_readsPosting_23 : decode cX7_readsPosting 23 = .ok (.bipush 48, 2) := by decide +kernel
theorem dX7_readsPosting_25 : decode cX7_readsPosting 25 = .ok (.bipush 57, 2) := by decide +kernel
theorem dX7_readsPosting_27 : decode cX7_readsPosting 27 = .ok (.invokestatic 129, 3) := by decide +kernel
theorem dX7_readsPosting_30 : decode cX7_readsPosting 30 = .ok (.ifCond .eq 25, 3) := by decide +kernel
theorem dX7_readsPosting_33 : decode cX7_readsPosting 33 = .ok (.bipush 10, 2) := by decide +kernel
theorem dX7_readsPosting_35 : decode cX7_readsPosting 35 = .ok (.iload_n 3, 1) := by decide +kernel
theorem dX7_readsPosting_36 : decode cX7_readsPosting 36 = .ok (.imul, 1) := by decide +kernel
theorem dX7_readsPosting_37 : decode cX7_readsPosting 37 = .ok (.aload_n 0, 1) := by decide +kernel
theorem dX7_readsPosting_38 : decode cX7_readsPosting 38 = .ok (.getfield 7, 3) := by decide +kernel
theorem dX7_readsPosting_41 : decode cX7_readsPosting 41 = .ok (.iload 4, 2) := by decide +kernel
theorem dX7_readsPosting_43 : decode cX7_readsPosting 43 = .ok (.iaload, 1) := by decide +kernel
theorem dX7_readsPosting_44 : decode cX7_readsPosting 44 = .ok (.iadd, 1) := by decide +kernel
theorem dX7_readsPosting_45 : decode cX7_readsPosting 45 = .ok (.bipush 48, 2) := by decide +kernel
theorem dX7_readsPosting_47 : decode cX7_readsPosting 47 = .ok (.isub, 1) := by decide +kernel
theorem dX7_readsPosting_48 : decode cX7_readsPosting 48 = .ok (.istore_n 3, 1) := by decide +kernel
theorem dX7_readsPosting_49 : decode cX7_readsPosting 49 = .ok (.iinc 4 1, 3) := by decide +kernel
theorem dX7_readsPosting_52 : decode cX7_readsPosting 52 = .ok (.goto (-45), 3) := by decide +kernel
theorem dX7_readsPosting_55 : decode cX7_readsPosting 55 = .ok (.aload_n 0, 1) := by decide +kernel
theorem dX7_readsPosting_56 : decode cX7_readsPosting 56 = .ok (.getfield 74, 3) := by decide +kernel
theorem dX7_readsPosting_59 : decode cX7_readsPosting 59 = .ok (.aload_n 0, 1) := by decide +kernel
theorem dX7_readsPosting_60 : decode cX7_readsPosting 60 = .ok (.getfield 167, 3) := by decide +kernel
theorem dX7_readsPosting_63 : decode cX7_readsPosting 63 = .ok (.aload_n 0, 1) := by decide +kernel
theorem dX7_readsPosting_64 : decode cX7_readsPosting 64 = .ok (.getfield 7, 3) := by decide +kernel
theorem dX7_readsPosting_67 : decode cX7_readsPosting 67 = .ok (.iload_n 1, 1) := by decide +kernel
theorem dX7_readsPosting_68 : decode cX7_readsPosting 68 = .ok (.iaload, 1) := by decide +kernel
theorem dX7_readsPosting_69 : decode cX7_readsPosting 69 = .ok (.bipush 97, 2) := by decide +kernel
theorem dX7_readsPosting_71 : decode cX7_readsPosting 71 = .ok (.isub, 1) := by decide +kernel
theorem dX7_readsPosting_72 : decode cX7_readsPosting 72 = .ok (.iastore, 1) := by decide +kernel
theorem dX7_readsPosting_73 : decode cX7_readsPosting 73 = .ok (.aload_n 0, 1) := by decide +kernel
theorem dX7_readsPosting_74 : decode cX7_readsPosting 74 = .ok (.getfield 77, 3) := by decide +kernel
theorem dX7_readsPosting_77 : decode cX7_readsPosting 77 = .ok (.aload_n 0, 1) := by decide +kernel
theorem dX7_readsPosting_78 : decode cX7_readsPosting 78 = .ok (.getfield 167, 3) := by decide +kernel
theorem dX7_readsPosting_81 : decode cX7_readsPosting 81 = .ok (.aload_n 0, 1) := by decide +kernel
theorem dX7_readsPosting_82 : decode cX7_readsPosting 82 = .ok (.getfield 7, 3) := by decide +kernel
theorem dX7_readsPosting_85 : decode cX7_readsPosting 85 = .ok (.iload_n 1, 1) := by decide +kernel
theorem dX7_readsPosting_86 : decode cX7_readsPosting 86 = .ok (.iconst 1, 1) := by decide +kernel
theorem dX7_readsPosting_87 : decode cX7_readsPosting 87 = .ok (.iadd, 1) := by decide +kernel
theorem dX7_readsPosting_88 : decode cX7_readsPosting 88 = .ok (.iaload, 1) := by decide +kernel
theorem dX7_readsPosting_89 : decode cX7_readsPosting 89 = .ok (.bipush 45, 2) := by decide +kernel
theorem dX7_readsPosting_91 : decode cX7_readsPosting 91 = .ok (.if_icmp .ne 7, 3) := by decide +kernel
theorem dX7_readsPosting_94 : decode cX7_readsPosting 94 = .ok (.iconst 1, 1) := by decide +kernel
theorem dX7_readsPosting_95 : decode cX7_readsPosting 95 = .ok (.goto 4, 3) := by decide +kernel
theorem dX7_readsPosting_98 : decode cX7_readsPosting 98 = .ok (.iconst 0, 1) := by decide +kernel
theorem dX7_readsPosting_99 : decode cX7_readsPosting 99 = .ok (.bastore, 1) := by decide +kernel
theorem dX7_readsPosting_100 : decode cX7_readsPosting 100 = .ok (.aload_n 0, 1) := by decide +kernel
theorem dX7_readsPosting_101 : decode cX7_readsPosting 101 = .ok (.getfield 80, 3) := by decide +kernel
theorem dX7_readsPosting_104 : decode cX7_readsPosting 104 = .ok (.aload_n 0, 1) := by decide +kernel
theorem dX7_readsPosting_105 : decode cX7_readsPosting 105 = .ok (.getfield 167, 3) := by decide +kernel
theorem dX7_readsPosting_108 : decode cX7_readsPosting 108 = .ok (.iload_n 3, 1) := by decide +kernel
theorem dX7_readsPosting_109 : decode cX7_readsPosting 109 = .ok (.iastore, 1) := by decide +kernel
theorem dX7_readsPosting_110 : decode cX7_readsPosting 110 = .ok (.aload_n 0, 1) := by decide +kernel
theorem dX7_readsPosting_111 : decode cX7_readsPosting 111 = .ok (.getfield 83, 3) := by decide +kernel
theorem dX7_readsPosting_114 : decode cX7_readsPosting 114 = .ok (.aload_n 0, 1) := by decide +kernel
theorem dX7_readsPosting_115 : decode cX7_readsPosting 115 = .ok (.getfield 167, 3) := by decide +kernel
theorem dX7_readsPosting_118 : decode cX7_readsPosting 118 = .ok (.iconst 1, 1) := by decide +kernel
theorem dX7_readsPosting_119 : decode cX7_readsPosting 119 = .ok (.iastore, 1) := by decide +kernel
theorem dX7_readsPosting_120 : decode cX7_readsPosting 120 = .ok (.aload_n 0, 1) := by decide +kernel
theorem dX7_readsPosting_121 : decode cX7_readsPosting 121 = .ok (.dup, 1) := by decide +kernel
theorem dX7_readsPosting_122 : decode cX7_readsPosting 122 = .ok (.getfield 167, 3) := by decide +kernel
theorem dX7_readsPosting_125 : decode cX7_readsPosting 125 = .ok (.iconst 1, 1) := by decide +kernel
theorem dX7_readsPosting_126 : decode cX7_readsPosting 126 = .ok (.iadd, 1) := by decide +kernel
theorem dX7_readsPosting_127 : decode cX7_readsPosting 127 = .ok (.putfield 167, 3) := by decide +kernel
theorem dX7_readsPosting_130 : decode cX7_readsPosting 130 = .ok (.aload_n 0, 1) := by decide +kernel
theorem dX7_readsPosting_131 : decode cX7_readsPosting 131 = .ok (.iload_n 2, 1) := by decide +kernel
theorem dX7_readsPosting_132 : decode cX7_readsPosting 132 = .ok (.iconst 0, 1) := by decide +kernel
theorem dX7_readsPosting_133 : decode cX7_readsPosting 133 = .ok (.invokevirtual 157, 3) := by decide +kernel
theorem dX7_readsPosting_136 : decode cX7_readsPosting 136 = .ok (.istore 4, 2) := by decide +kernel
theorem dX7_readsPosting_138 : decode cX7_readsPosting 138 = .ok (.aload_n 0, 1) := by decide +kernel
theorem dX7_readsPosting_139 : decode cX7_readsPosting 139 = .ok (.aload_n 0, 1) := by decide +kernel
theorem dX7_readsPosting_140 : decode cX7_readsPosting 140 = .ok (.getfield 7, 3) := by decide +kernel
theorem dX7_readsPosting_143 : decode cX7_readsPosting 143 = .ok (.iload_n 1, 1) := by decide +kernel
theorem dX7_readsPosting_144 : decode cX7_readsPosting 144 = .ok (.iaload, 1) := by decide +kernel
theorem dX7_readsPosting_145 : decode cX7_readsPosting 145 = .ok (.invokevirtual 143, 3) := by decide +kernel
theorem dX7_readsPosting_148 : decode cX7_readsPosting 148 = .ok (.aload_n 0, 1) := by decide +kernel
theorem dX7_readsPosting_149 : decode cX7_readsPosting 149 = .ok (.aload_n 0, 1) := by decide +kernel
theorem dX7_readsPosting_150 : decode cX7_readsPosting 150 = .ok (.getfield 7, 3) := by decide +kernel
theorem dX7_readsPosting_153 : decode cX7_readsPosting 153 = .ok (.iload_n 1, 1) := by decide +kernel
theorem dX7_readsPosting_154 : decode cX7_readsPosting 154 = .ok (.iconst 1, 1) := by decide +kernel
theorem dX7_readsPosting_155 : decode cX7_readsPosting 155 = .ok (.iadd, 1) := by decide +kernel
theorem dX7_readsPosting_156 : decode cX7_readsPosting 156 = .ok (.iaload, 1) := by decide +kernel
theorem dX7_readsPosting_157 : decode cX7_readsPosting 157 = .ok (.invokevirtual 143, 3) := by decide +kernel
theorem dX7_readsPosting_160 : decode cX7_readsPosting 160 = .ok (.aload_n 0, 1) := by decide +kernel
theorem dX7_readsPosting_161 : decode cX7_readsPosting 161 = .ok (.iload_n 3, 1) := by decide +kernel
theorem dX7_readsPosting_162 : decode cX7_readsPosting 162 = .ok (.invokevirtual 164, 3) := by decide +kernel
theorem dX7_readsPosting_165 : decode cX7_readsPosting 165 = .ok (.aload_n 0, 1) := by decide +kernel
theorem dX7_readsPosting_166 : decode cX7_readsPosting 166 = .ok (.getfield 95, 3) := by decide +kernel
theorem dX7_readsPosting_169 : decode cX7_readsPosting 169 = .ok (.iload 4, 2) := by decide +kernel
theorem dX7_readsPosting_171 : decode cX7_readsPosting 171 = .ok (.aload_n 0, 1) := by decide +kernel
theorem dX7_readsPosting_172 : decode cX7_readsPosting 172 = .ok (.getfield 140, 3) := by decide +kernel
theorem dX7_readsPosting_175 : decode cX7_readsPosting 175 = .ok (.aload_n 0, 1) := by decide +kernel
theorem dX7_readsPosting_176 : decode cX7_readsPosting 176 = .ok (.getfield 92, 3) := by decide +kernel
theorem dX7_readsPosting_179 : decode cX7_readsPosting 179 = .ok (.iload 4, 2) := by decide +kernel
theorem dX7_readsPosting_181 : decode cX7_readsPosting 181 = .ok (.iaload, 1) := by decide +kernel
theorem dX7_readsPosting_182 : decode cX7_readsPosting 182 = .ok (.isub, 1) := by decide +kernel
theorem dX7_readsPosting_183 : decode cX7_readsPosting 183 = .ok (.iastore, 1) := by decide +kernel
theorem dX7_readsPosting_184 : decode cX7_readsPosting 184 = .ok (.return_, 1) := by decide +kernel
theorem dX7_readCount_0 : decode cX7_readCount 0 = .ok (.iconst 0, 1) := by decide +kernel
theorem dX7_readCount_1 : decode cX7_readCount 1 = .ok (.istore_n 1, 1) := by decide +kernel
theorem dX7_readCount_2 : decode cX7_readCount 2 = .ok (.iconst 0, 1) := by decide +kernel
theorem dX7_readCount_3 : decode cX7_readCount 3 = .ok (.istore_n 2, 1) := by decide +kernel
theorem dX7_readCount_4 : decode cX7_readCount 4 = .ok (.iload_n 2, 1) := by decide +kernel
theorem dX7_readCount_5 : decode cX7_readCount 5 = .ok (.aload_n 0, 1) := by decide +kernel
theorem dX7_readCount_6 : decode cX7_readCount 6 = .ok (.getfield 167, 3) := by decide +kernel
theorem dX7_readCount_9 : decode cX7_readCount 9 = .ok (.if_icmp .ge 18, 3) := by decide +kernel
theorem dX7_readCount_12 : decode cX7_readCount 12 = .ok (.iload_n 1, 1) := by decide +kernel
theorem dX7_readCount_13 : decode cX7_readCount 13 = .ok (.aload_n 0, 1) := by decide +kernel
theorem dX7_readCount_14 : decode cX7_readCount 14 = .ok (.getfield 83, 3) := by decide +kernel
theorem dX7_readCount_17 : decode cX7_readCount 17 = .ok (.iload_n 2, 1) := by decide +kernel
theorem dX7_readCount_18 : decode cX7_readCount 18 = .ok (.iaload, 1) := by decide +kernel
theorem dX7_readCount_19 : decode cX7_readCount 19 = .ok (.iadd, 1) := by decide +kernel
theorem dX7_readCount_20 : decode cX7_readCount 20 = .ok (.istore_n 1, 1) := by decide +kernel
theorem dX7_readCount_21 : decode cX7_readCount 21 = .ok (.iinc 2 1, 3) := by decide +kernel
theorem dX7_readCount_24 : decode cX7_readCount 24 = .ok (.goto (-20), 3) := by decide +kernel
theorem dX7_readCount_27 : decode cX7_readCount 27 = .ok (.iload_n 1, 1) := by decide +kernel
theorem dX7_readCount_28 : decode cX7_readCount 28 = .ok (.ireturn, 1) := by decide +kernel
set_option maxRecDepth 20000 in
theorem ggX7_canBe_X7_draftFault_c0 : GoodIn wsX7_canBe ([.code yX7_draftFault cX7_draftFault 7 (some .int)]) := goodIn_r _ [5] (by decide +kernel) (by decide +kernel)
set_option maxRecDepth 20000 in
theorem ggX7_canBe_X7_draftFault_c1 : GoodIn wsX7_canBe ([.fieldLink RX7 133 "PostlintModel" "drafted" "I", .fieldLink RX7 7 "PostlintModel" "draft" "[I", .methodLink RX7 136 yX7_next, .static yX7_next, .initialized RX7, .code yX7_next cX7_next 6 (some .int), .methodLink RX7 129 yX7_isIn, .static yX7_isIn, .code yX7_isIn cX7_isIn 3 (some .boolean)]) := goodIn_r _ [6, 7, 8, 9, 4, 10, 11, 12, 13] (by decide +kernel) (by decide +kernel)
set_option maxRecDepth 20000 in
theorem ggX7_canBe_X7_draftFault_c2 : GoodIn wsX7_canBe (wsX70) := goodIn_r _ [71, 72, 73, 74, 75, 76, 77, 78, 79, 80, 81, 82, 83, 84, 85, 86, 87, 88, 89, 90, 91, 92, 93, 94, 95, 96, 97, 98, 99, 100, 101, 102, 103, 104, 105, 106, 107, 108, 109, 110, 111, 112, 113, 114, 115, 116, 117] (by decide +kernel) (by decide +kernel)
set_option maxRecDepth 20000 in
theorem ggX7_canBe_X7_draftFault : GoodIn wsX7_canBe wsX7_draftFault := (goodIn_c1 ggX7_canBe_X7_draftFault_c0 (goodIn_app ggX7_canBe_X7_draftFault_c1 ggX7_canBe_X7_draftFault_c2))
set_option maxRecDepth 20000 in
theorem gX7_canBe_X7_draftFault : GoodIn wsX7_canBe (wsV RX7 179 RX7 yX7_draftFault wsX7_draftFault) := goodIn_app (goodIn_of _ (by decide +kernel)) ggX7_canBe_X7_draftFault
set_option maxRecDepth 20000 in
theorem ggX7_canBe_X7_readsDraft_c0 : GoodIn wsX7_canBe ([.code yX7_readsDraft cX7_readsDraft 6 none]) := goodIn_r _ [17] (by decide +kernel) (by decide +kernel)
set_option maxRecDepth 20000 in
theorem ggX7_canBe_X7_readsDraft_c1 : GoodIn wsX7_canBe (wsX7_readsDraft_r1) := goodIn_r _ [18, 19, 20, 21, 22, 6, 7, 23, 24, 25, 26, 27, 28, 29, 30, 31, 32, 33, 4, 34, 35, 36, 37, 38] (by decide +kernel) (by decide +kernel)
set_option maxRecDepth 20000 in
theorem ggX7_canBe_X7_readsDraft_c2 : GoodIn wsX7_canBe (wsX7_readsDraft_r2) := goodIn_r _ [39, 40, 41, 42, 43, 44, 45, 46, 47, 48, 49, 50, 51, 52, 53, 54, 55, 56, 57, 58, 59, 11, 12, 13] (by decide +kernel) (by decide +kernel)
set_option maxRecDepth 20000 in
theorem ggX7_canBe_X7_readsDraft_c3 : GoodIn wsX7_canBe (wsX7_readsDraft_r3) := goodIn_r _ [60, 61, 62, 63, 64, 65, 66] (by decide +kernel) (by decide +kernel)
set_option maxRecDepth 20000 in
theorem ggX7_canBe_X7_readsDraft_c4 : GoodIn wsX7_canBe (wsX70) := goodIn_r _ [71, 72, 73, 74, 75, 76, 77, 78, 79, 80, 81, 82, 83, 84, 85, 86, 87, 88, 89, 90, 91, 92, 93, 94, 95, 96, 97, 98, 99, 100, 101, 102, 103, 104, 105, 106, 107, 108, 109, 110, 111, 112, 113, 114, 115, 116, 117] (by decide +kernel) (by decide +kernel)
set_option maxRecDepth 20000 in
theorem ggX7_canBe_X7_readsDraft : GoodIn wsX7_canBe wsX7_readsDraft := (goodIn_c1 ggX7_canBe_X7_readsDraft_c0 (goodIn_app (goodIn_app ggX7_canBe_X7_readsDraft_c1 (goodIn_app ggX7_canBe_X7_readsDraft_c2 ggX7_canBe_X7_readsDraft_c3)) ggX7_canBe_X7_readsDraft_c4))
set_option maxRecDepth 20000 in
theorem gX7_canBe_X7_readsDraft : GoodIn wsX7_canBe (wsV RX7 183 RX7 yX7_readsDraft wsX7_readsDraft) := goodIn_app (goodIn_of _ (by decide +kernel)) ggX7_canBe_X7_readsDraft
set_option maxRecDepth 20000 in
theorem ggX7_canBe_X7_readCount_c0 : GoodIn wsX7_canBe ([.code yX7_readCount cX7_readCount 3 (some .int)]) := goodIn_r _ [70] (by decide +kernel) (by decide +kernel)
set_option maxRecDepth 20000 in
theorem ggX7_canBe_X7_readCount_c1 : GoodIn wsX7_canBe ([.fieldLink RX7 167 "PostlintModel" "read" "I", .fieldLink RX7 83 "PostlintModel" "readTimes" "[I"]) := goodIn_r _ [18, 24] (by decide +kernel) (by decide +kernel)
set_option maxRecDepth 20000 in
theorem ggX7_canBe_X7_readCount_c2 : GoodIn wsX7_canBe (wsX70) := goodIn_r _ [71, 72, 73, 74, 75, 76, 77, 78, 79, 80, 81, 82, 83, 84, 85, 86, 87, 88, 89, 90, 91, 92, 93, 94, 95, 96, 97, 98, 99, 100, 101, 102, 103, 104, 105, 106, 107, 108, 109, 110, 111, 112, 113, 114, 115, 116, 117] (by decide +kernel) (by decide +kernel)
set_option maxRecDepth 20000 in
theorem ggX7_canBe_X7_readCount : GoodIn wsX7_canBe wsX7_readCount := (goodIn_c1 ggX7_canBe_X7_readCount_c0 (goodIn_app ggX7_canBe_X7_readCount_c1 ggX7_canBe_X7_readCount_c2))
set_option maxRecDepth 20000 in
theorem gX7_canBe_X7_readCount : GoodIn wsX7_canBe (wsV RX7 186 RX7 yX7_readCount wsX7_readCount) := goodIn_app (goodIn_of _ (by decide +kernel)) ggX7_canBe_X7_readCount
theorem dX7_canBe_0 : decode cX7_canBe 0 = .ok (.aload_n 0, 1) := by decide +kernel
theorem dX7_canBe_1 : decode cX7_canBe 1 = .ok (.invokevirtual 179, 3) := by decide +kernel
theorem dX7_canBe_4 : decode cX7_canBe 4 = .ok (.iconst (-1), 1) := by decide +kernel
theorem dX7_canBe_5 : decode cX7_canBe 5 = .ok (.if_icmp .eq 5, 3) := by decide +kernel
theorem dX7_canBe_8 : decode cX7_canBe 8 = .ok (.iconst 0, 1) := by decide +kernel
theorem dX7_canBe_9 : decode cX7_canBe 9 = .ok (.ireturn, 1) := by decide +kernel
theorem dX7_canBe_10 : decode cX7_canBe 10 = .ok (.aload_n 0, 1) := by decide +kernel
theorem dX7_canBe_11 : decode cX7_canBe 11 = .ok (.invokevirtual 183, 3) := by decide +kernel
theorem dX7_canBe_14 : decode cX7_canBe 14 = .ok (.aload_n 0, 1) := by decide +kernel
theorem dX7_canBe_15 : decode cX7_canBe 15 = .ok (.invokevirtual 186, 3) := by decide +kernel
theorem dX7_canBe_18 : decode cX7_canBe 18 = .ok (.bipush 60, 2) := by decide +kernel
theorem dX7_canBe_20 : decode cX7_canBe 20 = .ok (.if_icmp .gt 7, 3) := by decide +kernel
theorem dX7_canBe_23 : decode cX7_canBe 23 = .ok (.iconst 1, 1) := by decide +kernel
theorem dX7_canBe_24 : decode cX7_canBe 24 = .ok (.goto 4, 3) := by decide +kernel
theorem dX7_canBe_27 : decode cX7_canBe 27 = .ok (.iconst 0, 1) := by decide +kernel
theorem dX7_canBe_28 : decode cX7_canBe 28 = .ok (.ireturn, 1) := by decide +kernel
theorem dX7_lays_0 : decode cX7_lays 0 = .ok (.aload_n 0, 1) := by decide +kernel
theorem dX7_lays_1 : decode cX7_lays 1 = .ok (.getfield 13, 3) := by decide +kernel
theorem dX7_lays_4 : decode cX7_lays 4 = .ok (.iload_n 1, 1) := by decide +kernel
theorem dX7_lays_5 : decode cX7_lays 5 = .ok (.iconst 0, 1) := by decide +kernel
theorem dX7_lays_6 : decode cX7_lays 6 = .ok (.bastore, 1) := by decide +kernel
theorem dX7_lays_7 : decode cX7_lays 7 = .ok (.aload_n 0, 1) := by decide +kernel
theorem dX7_lays_8 : decode cX7_lays 8 = .ok (.getfield 17, 3) := by decide +kernel
theorem dX7_lays_11 : decode cX7_lays 11 = .ok (.iload_n 1, 1) := by decide +kernel
theorem dX7_lays_12 : decode cX7_lays 12 = .ok (.aload_n 0, 1) := by decide +kernel
theorem dX7_lays_13 : decode cX7_lays 13 = .ok (.getfield 133, 3) := by decide +kernel
theorem dX7_lays_16 : decode cX7_lays 16 = .ok (.iastore, 1) := by decide +kernel
theorem dX7_lays_17 : decode cX7_lays 17 = .ok (.iconst 0, 1) := by decide +kernel
theorem dX7_lays_18 : decode cX7_lays 18 = .ok (.istore_n 2, 1) := by decide +kernel
theorem dX7_lays_19 : decode cX7_lays 19 = .ok (.iload_n 2, 1) := by decide +kernel
theorem dX7_lays_20 : decode cX7_lays 20 = .ok (.aload_n 0, 1) := by decide +kernel
theorem dX7_lays_21 : decode cX7_lays 21 = .ok (.getfield 133, 3) := by decide +kernel
theorem dX7_lays_24 : decode cX7_lays 24 = .ok (.if_icmp .ge 26, 3) := by decide +kernel
theorem dX7_lays_27 : decode cX7_lays 27 = .ok (.aload_n 0, 1) := by decide +kernel
theorem dX7_lays_28 : decode cX7_lays 28 = .ok (.getfield 20, 3) := by decide +kernel
theorem dX7_lays_31 : decode cX7_lays 31 = .ok (.bipush 60, 2) := by decide +kernel
theorem dX7_lays_33 : decode cX7_lays 33 = .ok (.iload_n 1, 1) := by decide +kernel
theorem dX7_lays_34 : decode cX7_lays 34 = .ok (.imul, 1) := by decide +kernel
theorem dX7_lays_35 : decode cX7_lays 35 = .ok (.iload_n 2, 1) := by decide +kernel
theorem dX7_lays_36 : decode cX7_lays 36 = .ok (.iadd, 1) := by decide +kernel
theorem dX7_lays_37 : decode cX7_lays 37 = .ok (.aload_n 0, 1) := by decide +kernel
theorem dX7_lays_38 : decode cX7_lays 38 = .ok (.getfield 7, 3) := by decide +kernel
theorem dX7_lays_41 : decode cX7_lays 41 = .ok (.iload_n 2, 1) := by decide +kernel
theorem dX7_lays_42 : decode cX7_lays 42 = .ok (.iaload, 1) := by decide +kernel
theorem dX7_lays_43 : decode cX7_lays 43 = .ok (.iastore, 1) := by decide +kernel
theorem dX7_lays_44 : decode cX7_lays 44 = .ok (.iinc 2 1, 3) := by decide +kernel
theorem dX7_lays_47 : decode cX7_lays 47 = .ok (.goto (-28), 3) := by decide +kernel
theorem dX7_lays_50 : decode cX7_lays 50 = .ok (.aload_n 0, 1) := by decide +kernel
theorem dX7_lays_51 : decode cX7_lays 51 = .ok (.getfield 23, 3) := by decide +kernel
theorem dX7_lays_54 : decode cX7_lays 54 = .ok (.iload_n 1, 1) := by decide +kernel
theorem dX7_lays_55 : decode cX7_lays 55 = .ok (.aload_n 0, 1) := by decide +kernel
theorem dX7_lays_56 : decode cX7_lays 56 = .ok (.getfield 176, 3) := by decide +kernel
theorem dX7_lays_59 : decode cX7_lays 59 = .ok (.iastore, 1) := by decide +kernel
theorem dX7_lays_60 : decode cX7_lays 60 = .ok (.iconst 0, 1) := by decide +kernel
theorem dX7_lays_61 : decode cX7_lays 61 = .ok (.istore_n 2, 1) := by decide +kernel
theorem dX7_lays_62 : decode cX7_lays 62 = .ok (.iload_n 2, 1) := by decide +kernel
theorem dX7_lays_63 : decode cX7_lays 63 = .ok (.aload_n 0, 1) := by decide +kernel
theorem dX7_lays_64 : decode cX7_lays 64 = .ok (.getfield 176, 3) := by decide +kernel
theorem dX7_lays_67 : decode cX7_lays 67 = .ok (.if_icmp .ge 26, 3) := by decide +kernel
theorem dX7_lays_70 : decode cX7_lays 70 = .ok (.aload_n 0, 1) := by decide +kernel
theorem dX7_lays_71 : decode cX7_lays 71 = .ok (.getfield 26, 3) := by decide +kernel
theorem dX7_lays_74 : decode cX7_lays 74 = .ok (.bipush 60, 2) := by decide +kernel
theorem dX7_lays_76 : decode cX7_lays 76 = .ok (.iload_n 1, 1) := by decide +kernel
theorem dX7_lays_77 : decode cX7_lays 77 = .ok (.imul, 1) := by decide +kernel
theorem dX7_lays_78 : decode cX7_lays 78 = .ok (.iload_n 2, 1) := by decide +kernel
theorem dX7_lays_79 : decode cX7_lays 79 = .ok (.iadd, 1) := by decide +kernel
theorem dX7_lays_80 : decode cX7_lays 80 = .ok (.aload_n 0, 1) := by decide +kernel
theorem dX7_lays_81 : decode cX7_lays 81 = .ok (.getfield 119, 3) := by decide +kernel
theorem dX7_lays_84 : decode cX7_lays 84 = .ok (.iload_n 2, 1) := by decide +kernel
theorem dX7_lays_85 : decode cX7_lays 85 = .ok (.iaload, 1) := by decide +kernel
theorem dX7_lays_86 : decode cX7_lays 86 = .ok (.iastore, 1) := by decide +kernel
theorem dX7_lays_87 : decode cX7_lays 87 = .ok (.iinc 2 1, 3) := by decide +kernel
theorem dX7_lays_90 : decode cX7_lays 90 = .ok (.goto (-28), 3) := by decide +kernel
theorem dX7_lays_93 : decode cX7_lays 93 = .ok (.aload_n 0, 1) := by decide +kernel
theorem dX7_lays_94 : decode cX7_lays 94 = .ok (.getfield 29, 3) := by decide +kernel
theorem dX7_lays_97 : decode cX7_lays 97 = .ok (.iload_n 1, 1) := by decide +kernel
theorem dX7_lays_98 : decode cX7_lays 98 = .ok (.aload_n 0, 1) := by decide +kernel
theorem dX7_lays_99 : decode cX7_lays 99 = .ok (.getfield 167, 3) := by decide +kernel
theorem dX7_lays_102 : decode cX7_lays 102 = .ok (.iastore, 1) := by decide +kernel
theorem dX7_lays_103 : decode cX7_lays 103 = .ok (.iconst 0, 1) := by decide +kernel
theorem dX7_lays_104 : decode cX7_lays 104 = .ok (.istore_n 2, 1) := by decide +kernel
theorem dX7_lays_105 : decode cX7_lays 105 = .ok (.iload_n 2, 1) := by decide +kernel
theorem dX7_lays_106 : decode cX7_lays 106 = .ok (.aload_n 0, 1) := by decide +kernel
theorem dX7_lays_107 : decode cX7_lays 107 = .ok (.getfield 167, 3) := by decide +kernel
theorem dX7_lays_110 : decode cX7_lays 110 = .ok (.if_icmp .ge 77, 3) := by decide +kernel
theorem dX7_lays_113 : decode cX7_lays 113 = .ok (.aload_n 0, 1) := by decide +kernel
theorem dX7_lays_114 : decode cX7_lays 114 = .ok (.getfield 32, 3) := by decide +kernel
theorem dX7_lays_117 : decode cX7_lays 117 = .ok (.bipush 16, 2) := by decide +kernel
theorem dX7_lays_119 : decode cX7_lays 119 = .ok (.iload_n 1, 1) := by decide +kernel
theorem dX7_lays_120 : decode cX7_lays 120 = .ok (.imul, 1) := by decide +kernel
theorem dX7_lays_121 : decode cX7_lays 121 = .ok (.iload_n 2, 1) := by decide +kernel
theorem dX7_lays_122 : decode cX7_lays 122 = .ok (.iadd, 1) := by decide +kernel
theorem dX7_lays_123 : decode cX7_lays 123 = .ok (.aload_n 0, 1) := by decide +kernel
theorem dX7_lays_124 : decode cX7_lays 124 = .ok (.getfield 74, 3) := by decide +kernel
theorem dX7_lays_127 : decode cX7_lays 127 = .ok (.iload_n 2, 1) := by decide +kernel
theorem dX7_lays_128 : decode cX7_lays 128 = .ok (.iaload, 1) := by decide +kernel
theorem dX7_lays_129 : decode cX7_lays 129 = .ok (.iastore, 1) := by decide +kernel
theorem dX7_lays_130 : decode cX7_lays 130 = .ok (.aload_n 0, 1) := by decide +kernel
theorem dX7_lays_131 : decode cX7_lays 131 = .ok (.getfield 35, 3) := by decide +kernel
theorem dX7_lays_134 : decode cX7_lays 134 = .ok (.bipush 16, 2) := by decide +kernel
theorem dX7_lays_136 : decode cX7_lays 136 = .ok (.iload_n 1, 1) := by decide +kernel
theorem dX7_lays_137 : decode cX7_lays 137 = .ok (.imul, 1) := by decide +kernel
theorem dX7_lays_138 : decode cX7_lays 138 = .ok (.iload_n 2, 1) := by decide +kernel
theorem dX7_lays_139 : decode cX7_lays 139 = .ok (.iadd, 1) := by decide +kernel
theorem dX7_lays_140 : decode cX7_lays 140 = .ok (.aload_n 0, 1) := by decide +kernel
theorem dX7_lays_141 : decode cX7_lays 141 = .ok (.getfield 77, 3) := by decide +kernel
theorem dX7_lays_144 : decode cX7_lays 144 = .ok (.iload_n 2, 1) := by decide +kernel
theorem dX7_lays_145 : decode cX7_lays 145 = .ok (.baload, 1) := by decide +kernel
theorem dX7_lays_146 : decode cX7_lays 146 = .ok (.bastore, 1) := by decide +kernel
theorem dX7_lays_147 : decode cX7_lays 147 = .ok (.aload_n 0, 1) := by decide +kernel
theorem dX7_lays_148 : decode cX7_lays 148 = .ok (.getfield 38, 3) := by decide +kernel
theorem dX7_lays_151 : decode cX7_lays 151 = .ok (.bipush 16, 2) := by decide +kernel
theorem dX7_lays_153 : decode cX7_lays 153 = .ok (.iload_n 1, 1) := by decide +kernel
theorem dX7_lays_154 : decode cX7_lays 154 = .ok (.imul, 1) := by decide +kernel
theorem dX7_lays_155 : decode cX7_lays 155 = .ok (.iload_n 2, 1) := by decide +kernel
theorem dX7_lays_156 : decode cX7_lays 156 = .ok (.iadd, 1) := by decide +kernel
theorem dX7_lays_157 : decode cX7_lays 157 = .ok (.aload_n 0, 1) := by decide +kernel
theorem dX7_lays_158 : decode cX7_lays 158 = .ok (.getfield 80, 3) := by decide +kernel
theorem dX7_lays_161 : decode cX7_lays 161 = .ok (.iload_n 2, 1) := by decide +kernel
theorem dX7_lays_162 : decode cX7_lays 162 = .ok (.iaload, 1) := by decide +kernel
theorem dX7_lays_163 : decode cX7_lays 163 = .ok (.iastore, 1) := by decide +kernel
theorem dX7_lays_164 : decode cX7_lays 164 = .ok (.aload_n 0, 1) := by decide +kernel
theorem dX7_lays_165 : decode cX7_lays 165 = .ok (.getfield 41, 3) := by decide +kernel
theorem dX7_lays_168 : decode cX7_lays 168 = .ok (.bipush 16, 2) := by decide +kernel
theorem dX7_lays_170 : decode cX7_lays 170 = .ok (.iload_n 1, 1) := by decide +kernel
theorem dX7_lays_171 : decode cX7_lays 171 = .ok (.imul, 1) := by decide +kernel
theorem dX7_lays_172 : decode cX7_lays 172 = .ok (.iload_n 2, 1) := by decide +kernel
theorem dX7_lays_173 : decode cX7_lays 173 = .ok (.iadd, 1) := by decide +kernel
theorem dX7_lays_174 : decode cX7_lays 174 = .ok (.aload_n 0, 1) := by decide +kernel
theorem dX7_lays_175 : decode cX7_lays 175 = .ok (.getfield 83, 3) := by decide +kernel
theorem dX7_lays_178 : decode cX7_lays 178 = .ok (.iload_n 2, 1) := by decide +kernel
theorem dX7_lays_179 : decode cX7_lays 179 = .ok (.iaload, 1) := by decide +kernel
theorem dX7_lays_180 : decode cX7_lays 180 = .ok (.iastore, 1) := by decide +kernel
theorem dX7_lays_181 : decode cX7_lays 181 = .ok (.iinc 2 1, 3) := by decide +kernel
theorem dX7_lays_184 : decode cX7_lays 184 = .ok (.goto (-79), 3) := by decide +kernel
theorem dX7_lays_187 : decode cX7_lays 187 = .ok (.aload_n 0, 1) := by decide +kernel
theorem dX7_lays_188 : decode cX7_lays 188 = .ok (.iconst 0, 1) := by decide +kernel
theorem dX7_lays_189 : decode cX7_lays 189 = .ok (.putfield 133, 3) := by decide +kernel
theorem dX7_lays_192 : decode cX7_lays 192 = .ok (.return_, 1) := by decide +kernel
theorem dX7_proves_0 : decode cX7_proves 0 = .ok (.iconst 0, 1) := by decide +kernel
theorem dX7_proves_1 : decode cX7_proves 1 = .ok (.istore_n 1, 1) := by decide +kernel
theorem dX7_proves_2 : decode cX7_proves 2 = .ok (.iload_n 1, 1) := by decide +kernel
theorem dX7_proves_3 : decode cX7_proves 3 = .ok (.aload_n 0, 1) := by decide +kernel
theorem dX7_proves_4 : decode cX7_proves 4 = .ok (.getfield 126, 3) := by decide +kernel
theorem dX7_proves_7 : decode cX7_proves 7 = .ok (.if_icmp .ge 71, 3) := by decide +kernel
theorem dX7_proves_10 : decode cX7_proves 10 = .ok (.iload_n 1, 1) := by decide +kernel
theorem dX7_proves_11 : decode cX7_proves 11 = .ok (.ifCond .ne 7, 3) := by decide +kernel
theorem dX7_proves_14 : decode cX7_proves 14 = .ok (.iconst 0, 1) := by decide +kernel
theorem dX7_proves_15 : decode cX7_proves 15 = .ok (.goto 11, 3) := by decide +kernel
theorem dX7_proves_18 : decode cX7_proves 18 = .ok (.aload_n 0, 1) := by decide +kernel
theorem dX7_proves_19 : decode cX7_proves 19 = .ok (.getfield 44, 3) := by decide +kernel
theorem dX7_proves_22 : decode cX7_proves 22 = .ok (.iload_n 1, 1) := by decide +kernel
theorem dX7_proves_23 : decode cX7_proves 23 = .ok (.iconst 1, 1) := by decide +kernel
theorem dX7_proves_24 : decode cX7_proves 24 = .ok (.isub, 1) := by decide +kernel
theorem dX7_proves_25 : decode cX7_proves 25 = .ok (.iaload, 1) := by decide +kernel
theorem dX7_proves_26 : decode cX7_proves 26 = .ok (.bipush 17, 2) := by decide +kernel
theorem dX7_proves_28 : decode cX7_proves 28 = .ok (.iadd, 1) := by decide +kernel
theorem dX7_proves_29 : decode cX7_proves 29 = .ok (.istore_n 2, 1) := by decide +kernel
theorem dX7_proves_30 : decode cX7_proves 30 = .ok (.iconst 0, 1) := by decide +kernel
theorem dX7_proves_31 : decode cX7_proves 31 = .ok (.istore_n 3, 1) := by decide +kernel
theorem dX7_proves_32 : decode cX7_proves 32 = .ok (.iload_n 3, 1) := by decide +kernel
theorem dX7_proves_33 : decode cX7_proves 33 = .ok (.aload_n 0, 1) := by decide +kernel
theorem dX7_proves_34 : decode cX7_proves 34 = .ok (.getfield 23, 3) := by decide +kernel
theorem dX7_proves_37 : decode cX7_proves 37 = .ok (.iload_n 1, 1) := by decide +kernel
theorem dX7_proves_38 : decode cX7_proves 38 = .ok (.iaload, 1) := by decide +kernel
theorem dX7_proves_39 : decode cX7_proves 39 = .ok (.if_icmp .ge 26, 3) := by decide +kernel
theorem dX7_proves_42 : decode cX7_proves 42 = .ok (.bipush 31, 2) := by decide +kernel
theorem dX7_proves_44 : decode cX7_proves 44 = .ok (.iload_n 2, 1) := by decide +kernel
theorem dX7_proves_45 : decode cX7_proves 45 = .ok (.imul, 1) := by decide +kernel
theorem dX7_proves_46 : decode cX7_proves 46 = .ok (.aload_n 0, 1) := by decide +kernel
theorem dX7_proves_47 : decode cX7_proves 47 = .ok (.getfield 26, 3) := by decide +kernel
theorem dX7_proves_50 : decode cX7_proves 50 = .ok (.bipush 60, 2) := by decide +kernel
theorem dX7_proves_52 : decode cX7_proves 52 = .ok (.iload_n 1, 1) := by decide +kernel
theorem dX7_proves_53 : decode cX7_proves 53 = .ok (.imul, 1) := by decide +kernel
theorem dX7_proves_54 : decode cX7_proves 54 = .ok (.iload_n 3, 1) := by decide +kernel
theorem dX7_proves_55 : decode cX7_proves 55 = .ok (.iadd, 1) := by decide +kernel
theorem dX7_proves_56 : decode cX7_proves 56 = .ok (.iaload, 1) := by decide +kernel
theorem dX7_proves_57 : decode cX7_proves 57 = .ok (.iadd, 1) := by decide +kernel
theorem dX7_proves_58 : decode cX7_proves 58 = .ok (.istore_n 2, 1) := by decide +kernel
theorem dX7_proves_59 : decode cX7_proves 59 = .ok (.iinc 3 1, 3) := by decide +kernel
theorem dX7_proves_62 : decode cX7_proves 62 = .ok (.goto (-30), 3) := by decide +kernel
theorem dX7_proves_65 : decode cX7_proves 65 = .ok (.aload_n 0, 1) := by decide +kernel
theorem dX7_proves_66 : decode cX7_proves 66 = .ok (.getfield 44, 3) := by decide +kernel
theorem dX7_proves_69 : decode cX7_proves 69 = .ok (.iload_n 1, 1) := by decide +kernel
theorem dX7_proves_70 : decode cX7_proves 70 = .ok (.iload_n 2, 1) := by decide +kernel
theorem dX7_proves_71 : decode cX7_proves 71 = .ok (.iastore, 1) := by decide +kernel
theorem dX7_proves_72 : decode cX7_proves 72 = .ok (.iinc 1 1, 3) := by decide +kernel
theorem dX7_proves_75 : decode cX7_proves 75 = .ok (.goto (-73), 3) := by decide +kernel
theorem dX7_proves_78 : decode cX7_proves 78 = .ok (.return_, 1) := by decide +kernel
set_option maxRecDepth 20000 in
theorem ggX7_type_X7_isIn : GoodIn wsX7_type wsX7_isIn := goodIn_r _ [6] (by decide +kernel) (by decide +kernel)
set_option maxRecDepth 20000 in
theorem gX7_type_X7_isIn : GoodIn wsX7_type (va_wsS RX7 129 yX7_isIn wsX7_isIn) := goodIn_app (goodIn_of _ (by decide +kernel)) ggX7_type_X7_isIn
set_option maxRecDepth 20000 in
theorem ggX7_type_X7_isOf_c0 : GoodIn wsX7_type ([.code yX7_isOf cX7_isOf 2 (some .boolean)]) := goodIn_r _ [10] (by decide +kernel) (by decide +kernel)
set_option maxRecDepth 20000 in
theorem ggX7_type_X7_isOf_c1 : GoodIn wsX7_type ([.fieldLink RX7 122 "PostlintModel" "thrown" "I"]) := goodIn_r _ [11] (by decide +kernel) (by decide +kernel)
set_option maxRecDepth 20000 in
theorem ggX7_type_X7_isOf_c2 : GoodIn wsX7_type (wsX70) := goodIn_r _ [12, 13, 14, 15, 16, 17, 18, 19, 20, 21, 22, 23, 24, 25, 26, 27, 28, 29, 30, 31, 32, 33, 34, 35, 36, 37, 38, 39, 40, 41, 42, 43, 44, 45, 46, 47, 48, 49, 50, 51, 52, 53, 54, 55, 56, 57, 58] (by decide +kernel) (by decide +kernel)
set_option maxRecDepth 20000 in
theorem ggX7_type_X7_isOf : GoodIn wsX7_type wsX7_isOf := (goodIn_c1 ggX7_type_X7_isOf_c0 (goodIn_app ggX7_type_X7_isOf_c1 ggX7_type_X7_isOf_c2))
set_option maxRecDepth 20000 in
theorem gX7_type_X7_isOf : GoodIn wsX7_type (wsV RX7 189 RX7 yX7_isOf wsX7_isOf) := goodIn_app (goodIn_of _ (by decide +kernel)) ggX7_type_X7_isOf
theorem dX7_type_0 : decode cX7_type 0 = .ok (.aload_n 0, 1) := by decide +kernel
theorem dX7_type_1 : decode cX7_type 1 = .ok (.iload_n 1, 1) := by decide +kernel
theorem dX7_type_2 : decode cX7_type 2 = .ok (.bipush 32, 2) := by decide +kernel
theorem dX7_type_4 : decode cX7_type 4 = .ok (.bipush 126, 2) := by decide +kernel
theorem dX7_type_6 : decode cX7_type 6 = .ok (.invokestatic 129, 3) := by decide +kernel
theorem dX7_type_9 : decode cX7_type 9 = .ok (.ifCond .ne 7, 3) := by decide +kernel
theorem dX7_type_12 : decode cX7_type 12 = .ok (.iconst 1, 1) := by decide +kernel
theorem dX7_type_13 : decode cX7_type 13 = .ok (.goto 17, 3) := by decide +kernel
theorem dX7_type_16 : decode cX7_type 16 = .ok (.aload_n 0, 1) := by decide +kernel
theorem dX7_type_17 : decode cX7_type 17 = .ok (.getfield 133, 3) := by decide +kernel
theorem dX7_type_20 : decode cX7_type 20 = .ok (.bipush 60, 2) := by decide +kernel
theorem dX7_type_22 : decode cX7_type 22 = .ok (.if_icmp .ne 7, 3) := by decide +kernel
theorem dX7_type_25 : decode cX7_type 25 = .ok (.iconst 2, 1) := by decide +kernel
theorem dX7_type_26 : decode cX7_type 26 = .ok (.goto 4, 3) := by decide +kernel
theorem dX7_type_29 : decode cX7_type 29 = .ok (.iconst 0, 1) := by decide +kernel
theorem dX7_type_30 : decode cX7_type 30 = .ok (.invokevirtual 189, 3) := by decide +kernel
theorem dX7_type_33 : decode cX7_type 33 = .ok (.ifCond .ne 5, 3) := by decide +kernel
theorem dX7_type_36 : decode cX7_type 36 = .ok (.iconst 0, 1) := by decide +kernel
theorem dX7_type_37 : decode cX7_type 37 = .ok (.ireturn, 1) := by decide +kernel
theorem dX7_type_38 : decode cX7_type 38 = .ok (.aload_n 0, 1) := by decide +kernel
theorem dX7_type_39 : decode cX7_type 39 = .ok (.getfield 7, 3) := by decide +kernel
theorem dX7_type_42 : decode cX7_type 42 = .ok (.aload_n 0, 1) := by decide +kernel
theorem dX7_type_43 : decode cX7_type 43 = .ok (.getfield 133, 3) := by decide +kernel
theorem dX7_type_46 : decode cX7_type 46 = .ok (.iload_n 1, 1) := by decide +kernel
theorem dX7_type_47 : decode cX7_type 47 = .ok (.iastore, 1) := by decide +kernel
theorem dX7_type_48 : decode cX7_type 48 = .ok (.aload_n 0, 1) := by decide +kernel
theorem dX7_type_49 : decode cX7_type 49 = .ok (.dup, 1) := by decide +kernel
theorem dX7_type_50 : decode cX7_type 50 = .ok (.getfield 133, 3) := by decide +kernel
theorem dX7_type_53 : decode cX7_type 53 = .ok (.iconst 1, 1) := by decide +kernel
theorem dX7_type_54 : decode cX7_type 54 = .ok (.iadd, 1) := by decide +kernel
theorem dX7_type_55 : decode cX7_type 55 = .ok (.putfield 133, 3) := by decide +kernel
theorem dX7_type_58 : decode cX7_type 58 = .ok (.aload_n 0, 1) := by decide +kernel
theorem dX7_type_59 : decode cX7_type 59 = .ok (.getfield 133, 3) := by decide +kernel
theorem dX7_type_62 : decode cX7_type 62 = .ok (.ireturn, 1) := by decide +kernel
theorem dX7_clear_0 : decode cX7_clear 0 = .ok (.aload_n 0, 1) := by decide +kernel
theorem dX7_clear_1 : decode cX7_clear 1 = .ok (.iconst 0, 1) := by decide +kernel
theorem dX7_clear_2 : decode cX7_clear 2 = .ok (.putfield 122, 3) := by decide +kernel
theorem dX7_clear_5 : decode cX7_clear 5 = .ok (.aload_n 0, 1) := by decide +kernel
theorem dX7_clear_6 : decode cX7_clear 6 = .ok (.getfield 133, 3) := by decide +kernel
theorem dX7_clear_9 : decode cX7_clear 9 = .ok (.istore_n 1, 1) := by decide +kernel
theorem dX7_clear_10 : decode cX7_clear 10 = .ok (.aload_n 0, 1) := by decide +kernel
theorem dX7_clear_11 : decode cX7_clear 11 = .ok (.iconst 0, 1) := by decide +kernel
theorem dX7_clear_12 : decode cX7_clear 12 = .ok (.putfield 133, 3) := by decide +kernel
theorem dX7_clear_15 : decode cX7_clear 15 = .ok (.iload_n 1, 1) := by decide +kernel
theorem dX7_clear_16 : decode cX7_clear 16 = .ok (.ireturn, 1) := by decide +kernel
set_option maxRecDepth 20000 in
theorem ggX7_fault_X7_draftFault_c0 : GoodIn wsX7_fault ([.code yX7_draftFault cX7_draftFault 7 (some .int)]) := goodIn_r _ [6] (by decide +kernel) (by decide +kernel)
set_option maxRecDepth 20000 in
theorem ggX7_fault_X7_draftFault_c1 : GoodIn wsX7_fault ([.fieldLink RX7 133 "PostlintModel" "drafted" "I", .fieldLink RX7 7 "PostlintModel" "draft" "[I", .methodLink RX7 136 yX7_next, .static yX7_next, .initialized RX7, .code yX7_next cX7_next 6 (some .int), .methodLink RX7 129 yX7_isIn, .static yX7_isIn, .code yX7_isIn cX7_isIn 3 (some .boolean)]) := goodIn_r _ [7, 8, 9, 10, 5, 11, 12, 13, 14] (by decide +kernel) (by decide +kernel)
set_option maxRecDepth 20000 in
theorem ggX7_fault_X7_draftFault_c2 : GoodIn wsX7_fault (wsX70) := goodIn_r _ [15, 16, 17, 18, 19, 20, 21, 22, 23, 24, 25, 26, 27, 28, 29, 30, 31, 32, 33, 34, 35, 36, 37, 38, 39, 40, 41, 42, 43, 44, 45, 46, 47, 48, 49, 50, 51, 52, 53, 54, 55, 56, 57, 58, 59, 60, 61] (by decide +kernel) (by decide +kernel)
set_option maxRecDepth 20000 in
theorem ggX7_fault_X7_draftFault : GoodIn wsX7_fault wsX7_draftFault := (goodIn_c1 ggX7_fault_X7_draftFault_c0 (goodIn_app ggX7_fault_X7_draftFault_c1 ggX7_fault_X7_draftFault_c2))
set_option maxRecDepth 20000 in
theorem gX7_fault_X7_draftFault : GoodIn wsX7_fault (wsV RX7 179 RX7 yX7_draftFault wsX7_draftFault) := goodIn_app (goodIn_of _ (by decide +kernel)) ggX7_fault_X7_draftFault
theorem dX7_fault_0 : decode cX7_fault 0 = .ok (.aload_n 0, 1) := by decide +kernel
theorem dX7_fault_1 : decode cX7_fault 1 = .ok (.iconst 0, 1) := by decide +kernel
theorem dX7_fault_2 : decode cX7_fault 2 = .ok (.putfield 122, 3) := by decide +kernel
theorem dX7_fault_5 : decode cX7_fault 5 = .ok (.aload_n 0, 1) := by decide +kernel
theorem dX7_fault_6 : decode cX7_fault 6 = .ok (.invokevirtual 179, 3) := by decide +kernel
theorem dX7_fault_9 : decode cX7_fault 9 = .ok (.ireturn, 1) := by decide +kernel
set_option maxRecDepth 20000 in
theorem ggX7_post_X7_canBe_c0 : GoodIn wsX7_post ([.code yX7_canBe cX7_canBe 1 (some .boolean)]) := goodIn_r _ [6] (by decide +kernel) (by decide +kernel)
set_option maxRecDepth 20000 in
theorem ggX7_post_X7_canBe_c1 : GoodIn wsX7_post (wsX7_canBe_r1) := goodIn_r _ [7, 8, 9, 5, 10, 11, 12, 13, 14, 15, 16, 17, 18, 19, 20, 21, 22, 23, 24, 25, 26, 27, 28, 29] (by decide +kernel) (by decide +kernel)
set_option maxRecDepth 20000 in
theorem ggX7_post_X7_canBe_c2 : GoodIn wsX7_post (wsX7_canBe_r2) := goodIn_r _ [30, 31, 32, 33, 34, 35, 36, 37, 38, 39, 40, 41, 42, 43, 44, 45, 46, 47, 48, 49, 50, 51, 52, 53] (by decide +kernel) (by decide +kernel)
set_option maxRecDepth 20000 in
theorem ggX7_post_X7_canBe_c3 : GoodIn wsX7_post (wsX7_canBe_r3) := goodIn_r _ [54, 55, 56, 57, 58, 59, 60, 61, 62, 63, 64, 65, 66, 67, 68, 69, 70, 71, 72, 73, 74, 75] (by decide +kernel) (by decide +kernel)
set_option maxRecDepth 20000 in
theorem ggX7_post_X7_canBe_c4 : GoodIn wsX7_post (wsX70) := goodIn_r _ [100, 101, 102, 103, 104, 105, 106, 107, 108, 109, 110, 111, 112, 113, 114, 115, 116, 117, 118, 119, 120, 121, 122, 123, 124, 125, 126, 127, 128, 129, 130, 131, 132, 133, 134, 135, 136, 137, 138, 139, 140, 141, 142, 143, 144, 145, 146] (by decide +kernel) (by decide +kernel)
set_option maxRecDepth 20000 in
theorem ggX7_post_X7_canBe : GoodIn wsX7_post wsX7_canBe := (goodIn_c1 ggX7_post_X7_canBe_c0 (goodIn_app (goodIn_app ggX7_post_X7_canBe_c1 (goodIn_app ggX7_post_X7_canBe_c2 ggX7_post_X7_canBe_c3)) ggX7_post_X7_canBe_c4))
set_option maxRecDepth 20000 in
theorem gX7_post_X7_canBe : GoodIn wsX7_post (wsV RX7 193 RX7 yX7_canBe wsX7_canBe) := goodIn_app (goodIn_of _ (by decide +kernel)) ggX7_post_X7_canBe
set_option maxRecDepth 20000 in
theorem ggX7_post_X7_isOf_c0 : GoodIn wsX7_post ([.code yX7_isOf cX7_isOf 2 (some .boolean)]) := goodIn_r _ [79] (by decide +kernel) (by decide +kernel)
set_option maxRecDepth 20000 in
theorem ggX7_post_X7_isOf_c1 : GoodIn wsX7_post ([.fieldLink RX7 122 "PostlintModel" "thrown" "I"]) := goodIn_r _ [80] (by decide +kernel) (by decide +kernel)
set_option maxRecDepth 20000 in
theorem ggX7_post_X7_isOf_c2 : GoodIn wsX7_post (wsX70) := goodIn_r _ [100, 101, 102, 103, 104, 105, 106, 107, 108, 109, 110, 111, 112, 113, 114, 115, 116, 117, 118, 119, 120, 121, 122, 123, 124, 125, 126, 127, 128, 129, 130, 131, 132, 133, 134, 135, 136, 137, 138, 139, 140, 141, 142, 143, 144, 145, 146] (by decide +kernel) (by decide +kernel)
set_option maxRecDepth 20000 in
theorem ggX7_post_X7_isOf : GoodIn wsX7_post wsX7_isOf := (goodIn_c1 ggX7_post_X7_isOf_c0 (goodIn_app ggX7_post_X7_isOf_c1 ggX7_post_X7_isOf_c2))
set_option maxRecDepth 20000 in
theorem gX7_post_X7_isOf : GoodIn wsX7_post (wsV RX7 189 RX7 yX7_isOf wsX7_isOf) := goodIn_app (goodIn_of _ (by decide +kernel)) ggX7_post_X7_isOf
set_option maxRecDepth 20000 in
theorem ggX7_post_X7_lays_c0 : GoodIn wsX7_post ([.code yX7_lays cX7_lays 3 none]) := goodIn_r _ [84] (by decide +kernel) (by decide +kernel)
set_option maxRecDepth 20000 in
theorem ggX7_post_X7_lays_c1 : GoodIn wsX7_post ([.fieldLink RX7 13 "PostlintModel" "isStruck" "[Z", .fieldLink RX7 17 "PostlintModel" "typed" "[I", .fieldLink RX7 133 "PostlintModel" "drafted" "I", .fieldLink RX7 20 "PostlintModel" "typedSign" "[I", .fieldLink RX7 7 "PostlintModel" "draft" "[I", .fieldLink RX7 23 "PostlintModel" "written" "[I", .fieldLink RX7 176 "PostlintModel" "newLong" "I", .fieldLink RX7 26 "PostlintModel" "writtenSign" "[I", .fieldLink RX7 119 "PostlintModel" "newSign" "[I", .fieldLink RX7 29 "PostlintModel" "posts" "[I", .fieldLink RX7 167 "PostlintModel" "read" "I", .fieldLink RX7 32 "PostlintModel" "account" "[I", .fieldLink RX7 74 "PostlintModel" "readOf" "[I", .fieldLink RX7 35 "PostlintModel" "isLess" "[Z", .fieldLink RX7 77 "PostlintModel" "readLess" "[Z", .fieldLink RX7 38 "PostlintModel" "amount" "[I", .fieldLink RX7 80 "PostlintModel" "readAmount" "[I", .fieldLink RX7 41 "PostlintModel" "times" "[I", .fieldLink RX7 83 "PostlintModel" "readTimes" "[I"]) := goodIn_r _ [85, 86, 11, 87, 12, 88, 30, 89, 32, 90, 23, 91, 69, 92, 70, 93, 71, 94, 29] (by decide +kernel) (by decide +kernel)
set_option maxRecDepth 20000 in
theorem ggX7_post_X7_lays_c2 : GoodIn wsX7_post (wsX70) := goodIn_r _ [100, 101, 102, 103, 104, 105, 106, 107, 108, 109, 110, 111, 112, 113, 114, 115, 116, 117, 118, 119, 120, 121, 122, 123, 124, 125, 126, 127, 128, 129, 130, 131, 132, 133, 134, 135, 136, 137, 138, 139, 140, 141, 142, 143, 144, 145, 146] (by decide +kernel) (by decide +kernel)
set_option maxRecDepth 20000 in
theorem ggX7_post_X7_lays : GoodIn wsX7_post wsX7_lays := (goodIn_c1 ggX7_post_X7_lays_c0 (goodIn_app ggX7_post_X7_lays_c1 ggX7_post_X7_lays_c2))
set_option maxRecDepth 20000 in
theorem gX7_post_X7_lays : GoodIn wsX7_post (wsV RX7 197 RX7 yX7_lays wsX7_lays) := goodIn_app (goodIn_of _ (by decide +kernel)) ggX7_post_X7_lays
set_option maxRecDepth 20000 in
theorem ggX7_post_X7_proves_c0 : GoodIn wsX7_post ([.code yX7_proves cX7_proves 4 none]) := goodIn_r _ [98] (by decide +kernel) (by decide +kernel)
set_option maxRecDepth 20000 in
theorem ggX7_post_X7_proves_c1 : GoodIn wsX7_post ([.fieldLink RX7 126 "PostlintModel" "entries" "I", .fieldLink RX7 44 "PostlintModel" "proof" "[I", .fieldLink RX7 23 "PostlintModel" "written" "[I", .fieldLink RX7 26 "PostlintModel" "writtenSign" "[I"]) := goodIn_r _ [1, 99, 88, 89] (by decide +kernel) (by decide +kernel)
set_option maxRecDepth 20000 in
theorem ggX7_post_X7_proves_c2 : GoodIn wsX7_post (wsX70) := goodIn_r _ [100, 101, 102, 103, 104, 105, 106, 107, 108, 109, 110, 111, 112, 113, 114, 115, 116, 117, 118, 119, 120, 121, 122, 123, 124, 125, 126, 127, 128, 129, 130, 131, 132, 133, 134, 135, 136, 137, 138, 139, 140, 141, 142, 143, 144, 145, 146] (by decide +kernel) (by decide +kernel)
set_option maxRecDepth 20000 in
theorem ggX7_post_X7_proves : GoodIn wsX7_post wsX7_proves := (goodIn_c1 ggX7_post_X7_proves_c0 (goodIn_app ggX7_post_X7_proves_c1 ggX7_post_X7_proves_c2))
set_option maxRecDepth 20000 in
theorem gX7_post_X7_proves : GoodIn wsX7_post (wsV RX7 200 RX7 yX7_proves wsX7_proves) := goodIn_app (goodIn_of _ (by decide +kernel)) ggX7_post_X7_proves
theorem dX7_post_0 : decode cX7_post 0 = .ok (.aload_n 0, 1) := by decide +kernel
theorem dX7_post_1 : decode cX7_post 1 = .ok (.aload_n 0, 1) := by decide +kernel
theorem dX7_post_2 : decode cX7_post 2 = .ok (.invokevirtual 193, 3) := by decide +kernel
theorem dX7_post_5 : decode cX7_post 5 = .ok (.ifCond .eq 16, 3) := by decide +kernel
theorem dX7_post_8 : decode cX7_post 8 = .ok (.aload_n 0, 1) := by decide +kernel
theorem dX7_post_9 : decode cX7_post 9 = .ok (.getfield 126, 3) := by decide +kernel
theorem dX7_post_12 : decode cX7_post 12 = .ok (.bipush 24, 2) := by decide +kernel
theorem dX7_post_14 : decode cX7_post 14 = .ok (.if_icmp .ge 7, 3) := by decide +kernel
theorem dX7_post_17 : decode cX7_post 17 = .ok (.iconst 0, 1) := by decide +kernel
theorem dX7_post_18 : decode cX7_post 18 = .ok (.goto 4, 3) := by decide +kernel
theorem dX7_post_21 : decode cX7_post 21 = .ok (.iconst 1, 1) := by decide +kernel
theorem dX7_post_22 : decode cX7_post 22 = .ok (.invokevirtual 189, 3) := by decide +kernel
theorem dX7_post_25 : decode cX7_post 25 = .ok (.ifCond .ne 5, 3) := by decide +kernel
theorem dX7_post_28 : decode cX7_post 28 = .ok (.iconst 0, 1) := by decide +kernel
theorem dX7_post_29 : decode cX7_post 29 = .ok (.ireturn, 1) := by decide +kernel
theorem dX7_post_30 : decode cX7_post 30 = .ok (.aload_n 0, 1) := by decide +kernel
theorem dX7_post_31 : decode cX7_post 31 = .ok (.dup, 1) := by decide +kernel
theorem dX7_post_32 : decode cX7_post 32 = .ok (.getfield 126, 3) := by decide +kernel
theorem dX7_post_35 : decode cX7_post 35 = .ok (.iconst 1, 1) := by decide +kernel
theorem dX7_post_36 : decode cX7_post 36 = .ok (.iadd, 1) := by decide +kernel
theorem dX7_post_37 : decode cX7_post 37 = .ok (.putfield 126, 3) := by decide +kernel
theorem dX7_post_40 : decode cX7_post 40 = .ok (.aload_n 0, 1) := by decide +kernel
theorem dX7_post_41 : decode cX7_post 41 = .ok (.aload_n 0, 1) := by decide +kernel
theorem dX7_post_42 : decode cX7_post 42 = .ok (.getfield 126, 3) := by decide +kernel
theorem dX7_post_45 : decode cX7_post 45 = .ok (.iconst 1, 1) := by decide +kernel
theorem dX7_post_46 : decode cX7_post 46 = .ok (.isub, 1) := by decide +kernel
theorem dX7_post_47 : decode cX7_post 47 = .ok (.invokevirtual 197, 3) := by decide +kernel
theorem dX7_post_50 : decode cX7_post 50 = .ok (.aload_n 0, 1) := by decide +kernel
theorem dX7_post_51 : decode cX7_post 51 = .ok (.invokevirtual 200, 3) := by decide +kernel
theorem dX7_post_54 : decode cX7_post 54 = .ok (.aload_n 0, 1) := by decide +kernel
theorem dX7_post_55 : decode cX7_post 55 = .ok (.getfield 126, 3) := by decide +kernel
theorem dX7_post_58 : decode cX7_post 58 = .ok (.iconst 1, 1) := by decide +kernel
theorem dX7_post_59 : decode cX7_post 59 = .ok (.isub, 1) := by decide +kernel
theorem dX7_post_60 : decode cX7_post 60 = .ok (.ireturn, 1) := by decide +kernel
theorem dX7_isOther_0 : decode cX7_isOther 0 = .ok (.aload_n 0, 1) := by decide +kernel
theorem dX7_isOther_1 : decode cX7_isOther 1 = .ok (.getfield 176, 3) := by decide +kernel
theorem dX7_isOther_4 : decode cX7_isOther 4 = .ok (.aload_n 0, 1) := by decide +kernel
theorem dX7_isOther_5 : decode cX7_isOther 5 = .ok (.getfield 23, 3) := by decide +kernel
theorem dX7_isOther_8 : decode cX7_isOther 8 = .ok (.iload_n 1, 1) := by decide +kernel
theorem dX7_isOther_9 : decode cX7_isOther 9 = .ok (.iaload, 1) := by decide +kernel
theorem dX7_isOther_10 : decode cX7_isOther 10 = .ok (.if_icmp .eq 7, 3) := by decide +kernel
theorem dX7_isOther_13 : decode cX7_isOther 13 = .ok (.iconst 1, 1) := by decide +kernel
theorem dX7_isOther_14 : decode cX7_isOther 14 = .ok (.goto 4, 3) := by decide +kernel
theorem dX7_isOther_17 : decode cX7_isOther 17 = .ok (.iconst 0, 1) := by decide +kernel
theorem dX7_isOther_18 : decode cX7_isOther 18 = .ok (.istore_n 2, 1) := by decide +kernel
theorem dX7_isOther_19 : decode cX7_isOther 19 = .ok (.iconst 0, 1) := by decide +kernel
theorem dX7_isOther_20 : decode cX7_isOther 20 = .ok (.istore_n 3, 1) := by decide +kernel
theorem dX7_isOther_21 : decode cX7_isOther 21 = .ok (.iload_n 3, 1) := by decide +kernel
theorem dX7_isOther_22 : decode cX7_isOther 22 = .ok (.aload_n 0, 1) := by decide +kernel
theorem dX7_isOther_23 : decode cX7_isOther 23 = .ok (.getfield 176, 3) := by decide +kernel
theorem dX7_isOther_26 : decode cX7_isOther 26 = .ok (.if_icmp .ge 39, 3) := by decide +kernel
theorem dX7_isOther_29 : decode cX7_isOther 29 = .ok (.iload_n 2, 1) := by decide +kernel
theorem dX7_isOther_30 : decode cX7_isOther 30 = .ok (.ifCond .ne 35, 3) := by decide +kernel
theorem dX7_isOther_33 : decode cX7_isOther 33 = .ok (.aload_n 0, 1) := by decide +kernel
theorem dX7_isOther_34 : decode cX7_isOther 34 = .ok (.getfield 119, 3) := by decide +kernel
theorem dX7_isOther_37 : decode cX7_isOther 37 = .ok (.iload_n 3, 1) := by decide +kernel
theorem dX7_isOther_38 : decode cX7_isOther 38 = .ok (.iaload, 1) := by decide +kernel
theorem dX7_isOther_39 : decode cX7_isOther 39 = .ok (.aload_n 0, 1) := by decide +kernel
theorem dX7_isOther_40 : decode cX7_isOther 40 = .ok (.getfield 26, 3) := by decide +kernel
theorem dX7_isOther_43 : decode cX7_isOther 43 = .ok (.bipush 60, 2) := by decide +kernel
theorem dX7_isOther_45 : decode cX7_isOther 45 = .ok (.iload_n 1, 1) := by decide +kernel
theorem dX7_isOther_46 : decode cX7_isOther 46 = .ok (.imul, 1) := by decide +kernel
theorem dX7_isOther_47 : decode cX7_isOther 47 = .ok (.iload_n 3, 1) := by decide +kernel
theorem dX7_isOther_48 : decode cX7_isOther 48 = .ok (.iadd, 1) := by decide +kernel
theorem dX7_isOther_49 : decode cX7_isOther 49 = .ok (.iaload, 1) := by decide +kernel
theorem dX7_isOther_50 : decode cX7_isOther 50 = .ok (.if_icmp .eq 7, 3) := by decide +kernel
theorem dX7_isOther_53 : decode cX7_isOther 53 = .ok (.iconst 1, 1) := by decide +kernel
theorem dX7_isOther_54 : decode cX7_isOther 54 = .ok (.goto 4, 3) := by decide +kernel
theorem dX7_isOther_57 : decode cX7_isOther 57 = .ok (.iconst 0, 1) := by decide +kernel
theorem dX7_isOther_58 : decode cX7_isOther 58 = .ok (.istore_n 2, 1) := by decide +kernel
theorem dX7_isOther_59 : decode cX7_isOther 59 = .ok (.iinc 3 1, 3) := by decide +kernel
theorem dX7_isOther_62 : decode cX7_isOther 62 = .ok (.goto (-41), 3) := by decide +kernel
theorem dX7_isOther_65 : decode cX7_isOther 65 = .ok (.iload_n 2, 1) := by decide +kernel
theorem dX7_isOther_66 : decode cX7_isOther 66 = .ok (.ireturn, 1) := by decide +kernel
set_option maxRecDepth 20000 in
theorem ggX7_frozen_X7_isIn : GoodIn wsX7_frozen wsX7_isIn := goodIn_r _ [8] (by decide +kernel) (by decide +kernel)
set_option maxRecDepth 20000 in
theorem gX7_frozen_X7_isIn : GoodIn wsX7_frozen (va_wsS RX7 129 yX7_isIn wsX7_isIn) := goodIn_app (goodIn_of _ (by decide +kernel)) ggX7_frozen_X7_isIn
theorem dX7_frozen_0 : decode cX7_frozen 0 = .ok (.iconst 0, 1) := by decide +kernel
theorem dX7_frozen_1 : decode cX7_frozen 1 = .ok (.istore_n 2, 1) := by decide +kernel
theorem dX7_frozen_2 : decode cX7_frozen 2 = .ok (.iconst 0, 1) := by decide +kernel
theorem dX7_frozen_3 : decode cX7_frozen 3 = .ok (.istore_n 3, 1) := by decide +kernel
theorem dX7_frozen_4 : decode cX7_frozen 4 = .ok (.iload_n 3, 1) := by decide +kernel
theorem dX7_frozen_5 : decode cX7_frozen 5 = .ok (.aload_n 0, 1) := by decide +kernel
theorem dX7_frozen_6 : decode cX7_frozen 6 = .ok (.getfield 203, 3) := by decide +kernel
theorem dX7_frozen_9 : decode cX7_frozen 9 = .ok (.if_icmp .ge 47, 3) := by decide +kernel
theorem dX7_frozen_12 : decode cX7_frozen 12 = .ok (.iload_n 2, 1) := by decide +kernel
theorem dX7_frozen_13 : decode cX7_frozen 13 = .ok (.ifCond .ne 31, 3) := by decide +kernel
theorem dX7_frozen_16 : decode cX7_frozen 16 = .ok (.aload_n 0, 1) := by decide +kernel
theorem dX7_frozen_17 : decode cX7_frozen 17 = .ok (.getfield 71, 3) := by decide +kernel
theorem dX7_frozen_20 : decode cX7_frozen 20 = .ok (.iload_n 3, 1) := by decide +kernel
theorem dX7_frozen_21 : decode cX7_frozen 21 = .ok (.baload, 1) := by decide +kernel
theorem dX7_frozen_22 : decode cX7_frozen 22 = .ok (.ifCond .ne 26, 3) := by decide +kernel
theorem dX7_frozen_25 : decode cX7_frozen 25 = .ok (.iload_n 1, 1) := by decide +kernel
theorem dX7_frozen_26 : decode cX7_frozen 26 = .ok (.aload_n 0, 1) := by decide +kernel
theorem dX7_frozen_27 : decode cX7_frozen 27 = .ok (.getfield 62, 3) := by decide +kernel
theorem dX7_frozen_30 : decode cX7_frozen 30 = .ok (.iload_n 3, 1) := by decide +kernel
theorem dX7_frozen_31 : decode cX7_frozen 31 = .ok (.iaload, 1) := by decide +kernel
theorem dX7_frozen_32 : decode cX7_frozen 32 = .ok (.aload_n 0, 1) := by decide +kernel
theorem dX7_frozen_33 : decode cX7_frozen 33 = .ok (.getfield 65, 3) := by decide +kernel
theorem dX7_frozen_36 : decode cX7_frozen 36 = .ok (.iload_n 3, 1) := by decide +kernel
theorem dX7_frozen_37 : decode cX7_frozen 37 = .ok (.iaload, 1) := by decide +kernel
theorem dX7_frozen_38 : decode cX7_frozen 38 = .ok (.invokestatic 129, 3) := by decide +kernel
theorem dX7_frozen_41 : decode cX7_frozen 41 = .ok (.ifCond .eq 7, 3) := by decide +kernel
theorem dX7_frozen_44 : decode cX7_frozen 44 = .ok (.iconst 1, 1) := by decide +kernel
theorem dX7_frozen_45 : decode cX7_frozen 45 = .ok (.goto 4, 3) := by decide +kernel
theorem dX7_frozen_48 : decode cX7_frozen 48 = .ok (.iconst 0, 1) := by decide +kernel
theorem dX7_frozen_49 : decode cX7_frozen 49 = .ok (.istore_n 2, 1) := by decide +kernel
theorem dX7_frozen_50 : decode cX7_frozen 50 = .ok (.iinc 3 1, 3) := by decide +kernel
theorem dX7_frozen_53 : decode cX7_frozen 53 = .ok (.goto (-49), 3) := by decide +kernel
theorem dX7_frozen_56 : decode cX7_frozen 56 = .ok (.iload_n 2, 1) := by decide +kernel
theorem dX7_frozen_57 : decode cX7_frozen 57 = .ok (.ireturn, 1) := by decide +kernel
set_option maxRecDepth 20000 in
theorem ggX7_write_X7_isEntry_c0 : GoodIn wsX7_write ([.code yX7_isEntry cX7_isEntry 2 (some .boolean)]) := goodIn_r _ [5] (by decide +kernel) (by decide +kernel)
set_option maxRecDepth 20000 in
theorem ggX7_write_X7_isEntry_c1 : GoodIn wsX7_write ([.fieldLink RX7 126 "PostlintModel" "entries" "I", .methodLink RX7 129 yX7_isIn, .static yX7_isIn, .initialized RX7, .code yX7_isIn cX7_isIn 3 (some .boolean)]) := goodIn_r _ [6, 7, 8, 4, 9] (by decide +kernel) (by decide +kernel)
set_option maxRecDepth 20000 in
theorem ggX7_write_X7_isEntry_c2 : GoodIn wsX7_write (wsX70) := goodIn_r _ [116, 117, 118, 119, 120, 121, 122, 123, 124, 125, 126, 127, 128, 129, 130, 131, 132, 133, 134, 135, 136, 137, 138, 139, 140, 141, 142, 143, 144, 145, 146, 147, 148, 149, 150, 151, 152, 153, 154, 155, 156, 157, 158, 159, 160, 161, 162] (by decide +kernel) (by decide +kernel)
set_option maxRecDepth 20000 in
theorem ggX7_write_X7_isEntry : GoodIn wsX7_write wsX7_isEntry := (goodIn_c1 ggX7_write_X7_isEntry_c0 (goodIn_app ggX7_write_X7_isEntry_c1 ggX7_write_X7_isEntry_c2))
set_option maxRecDepth 20000 in
theorem gX7_write_X7_isEntry : GoodIn wsX7_write (wsV RX7 206 RX7 yX7_isEntry wsX7_isEntry) := goodIn_app (goodIn_of _ (by decide +kernel)) ggX7_write_X7_isEntry
set_option maxRecDepth 20000 in
theorem ggX7_write_X7_canBe_c0 : GoodIn wsX7_write ([.code yX7_canBe cX7_canBe 1 (some .boolean)]) := goodIn_r _ [13] (by decide +kernel) (by decide +kernel)
set_option maxRecDepth 20000 in
theorem ggX7_write_X7_canBe_c1 : GoodIn wsX7_write (wsX7_canBe_r1) := goodIn_r _ [14, 15, 16, 4, 17, 18, 19, 20, 21, 22, 7, 8, 9, 23, 24, 25, 26, 27, 28, 29, 30, 31, 32, 33] (by decide +kernel) (by decide +kernel)
set_option maxRecDepth 20000 in
theorem ggX7_write_X7_canBe_c2 : GoodIn wsX7_write (wsX7_canBe_r2) := goodIn_r _ [34, 35, 36, 37, 38, 39, 40, 41, 42, 43, 44, 45, 46, 47, 48, 49, 50, 51, 52, 53, 54, 55, 56, 57] (by decide +kernel) (by decide +kernel)
set_option maxRecDepth 20000 in
theorem ggX7_write_X7_canBe_c3 : GoodIn wsX7_write (wsX7_canBe_r3) := goodIn_r _ [58, 59, 60, 61, 62, 63, 64, 65, 66, 67, 68, 69, 70, 71, 72, 73, 74, 75, 76, 77, 78, 79] (by decide +kernel) (by decide +kernel)
set_option maxRecDepth 20000 in
theorem ggX7_write_X7_canBe_c4 : GoodIn wsX7_write (wsX70) := goodIn_r _ [116, 117, 118, 119, 120, 121, 122, 123, 124, 125, 126, 127, 128, 129, 130, 131, 132, 133, 134, 135, 136, 137, 138, 139, 140, 141, 142, 143, 144, 145, 146, 147, 148, 149, 150, 151, 152, 153, 154, 155, 156, 157, 158, 159, 160, 161, 162] (by decide +kernel) (by decide +kernel)
set_option maxRecDepth 20000 in
theorem ggX7_write_X7_canBe : GoodIn wsX7_write wsX7_canBe := (goodIn_c1 ggX7_write_X7_canBe_c0 (goodIn_app (goodIn_app ggX7_write_X7_canBe_c1 (goodIn_app ggX7_write_X7_canBe_c2 ggX7_write_X7_canBe_c3)) ggX7_write_X7_canBe_c4))
set_option maxRecDepth 20000 in
theorem gX7_write_X7_canBe : GoodIn wsX7_write (wsV RX7 193 RX7 yX7_canBe wsX7_canBe) := goodIn_app (goodIn_of _ (by decide +kernel)) ggX7_write_X7_canBe
set_option maxRecDepth 20000 in
theorem ggX7_write_X7_isOther_c0 : GoodIn wsX7_write ([.code yX7_isOther cX7_isOther 4 (some .boolean)]) := goodIn_r _ [83] (by decide +kernel) (by decide +kernel)
set_option maxRecDepth 20000 in
theorem ggX7_write_X7_isOther_c1 : GoodIn wsX7_write ([.fieldLink RX7 176 "PostlintModel" "newLong" "I", .fieldLink RX7 23 "PostlintModel" "written" "[I", .fieldLink RX7 119 "PostlintModel" "newSign" "[I", .fieldLink RX7 26 "PostlintModel" "writtenSign" "[I"]) := goodIn_r _ [34, 84, 36, 85] (by decide +kernel) (by decide +kernel)
set_option maxRecDepth 20000 in
theorem ggX7_write_X7_isOther_c2 : GoodIn wsX7_write (wsX70) := goodIn_r _ [116, 117, 118, 119, 120, 121, 122, 123, 124, 125, 126, 127, 128, 129, 130, 131, 132, 133, 134, 135, 136, 137, 138, 139, 140, 141, 142, 143, 144, 145, 146, 147, 148, 149, 150, 151, 152, 153, 154, 155, 156, 157, 158, 159, 160, 161, 162] (by decide +kernel) (by decide +kernel)
set_option maxRecDepth 20000 in
theorem ggX7_write_X7_isOther : GoodIn wsX7_write wsX7_isOther := (goodIn_c1 ggX7_write_X7_isOther_c0 (goodIn_app ggX7_write_X7_isOther_c1 ggX7_write_X7_isOther_c2))
set_option maxRecDepth 20000 in
theorem gX7_write_X7_isOther : GoodIn wsX7_write (wsV RX7 209 RX7 yX7_isOther wsX7_isOther) := goodIn_app (goodIn_of _ (by decide +kernel)) ggX7_write_X7_isOther
set_option maxRecDepth 20000 in
theorem ggX7_write_X7_frozen_c0 : GoodIn wsX7_write ([.code yX7_frozen cX7_frozen 4 (some .boolean)]) := goodIn_r _ [89] (by decide +kernel) (by decide +kernel)
set_option maxRecDepth 20000 in
theorem ggX7_write_X7_frozen_c1 : GoodIn wsX7_write ([.fieldLink RX7 203 "PostlintModel" "audits" "I", .fieldLink RX7 71 "PostlintModel" "hasEnded" "[Z", .fieldLink RX7 62 "PostlintModel" "auditFrom" "[I", .fieldLink RX7 65 "PostlintModel" "auditTo" "[I", .methodLink RX7 129 yX7_isIn, .static yX7_isIn, .initialized RX7, .code yX7_isIn cX7_isIn 3 (some .boolean)]) := goodIn_r _ [90, 91, 92, 93, 7, 8, 4, 9] (by decide +kernel) (by decide +kernel)
set_option maxRecDepth 20000 in
theorem ggX7_write_X7_frozen_c2 : GoodIn wsX7_write (wsX70) := goodIn_r _ [116, 117, 118, 119, 120, 121, 122, 123, 124, 125, 126, 127, 128, 129, 130, 131, 132, 133, 134, 135, 136, 137, 138, 139, 140, 141, 142, 143, 144, 145, 146, 147, 148, 149, 150, 151, 152, 153, 154, 155, 156, 157, 158, 159, 160, 161, 162] (by decide +kernel) (by decide +kernel)
set_option maxRecDepth 20000 in
theorem ggX7_write_X7_frozen : GoodIn wsX7_write wsX7_frozen := (goodIn_c1 ggX7_write_X7_frozen_c0 (goodIn_app ggX7_write_X7_frozen_c1 ggX7_write_X7_frozen_c2))
set_option maxRecDepth 20000 in
theorem gX7_write_X7_frozen : GoodIn wsX7_write (wsV RX7 212 RX7 yX7_frozen wsX7_frozen) := goodIn_app (goodIn_of _ (by decide +kernel)) ggX7_write_X7_frozen
set_option maxRecDepth 20000 in
theorem ggX7_write_X7_isOf_c0 : GoodIn wsX7_write ([.code yX7_isOf cX7_isOf 2 (some .boolean)]) := goodIn_r _ [97] (by decide +kernel) (by decide +kernel)
set_option maxRecDepth 20000 in
theorem ggX7_write_X7_isOf_c1 : GoodIn wsX7_write ([.fieldLink RX7 122 "PostlintModel" "thrown" "I"]) := goodIn_r _ [98] (by decide +kernel) (by decide +kernel)
set_option maxRecDepth 20000 in
theorem ggX7_write_X7_isOf_c2 : GoodIn wsX7_write (wsX70) := goodIn_r _ [116, 117, 118, 119, 120, 121, 122, 123, 124, 125, 126, 127, 128, 129, 130, 131, 132, 133, 134, 135, 136, 137, 138, 139, 140, 141, 142, 143, 144, 145, 146, 147, 148, 149, 150, 151, 152, 153, 154, 155, 156, 157, 158, 159, 160, 161, 162] (by decide +kernel) (by decide +kernel)
set_option maxRecDepth 20000 in
theorem ggX7_write_X7_isOf : GoodIn wsX7_write wsX7_isOf := (goodIn_c1 ggX7_write_X7_isOf_c0 (goodIn_app ggX7_write_X7_isOf_c1 ggX7_write_X7_isOf_c2))
set_option maxRecDepth 20000 in
theorem gX7_write_X7_isOf : GoodIn wsX7_write (wsV RX7 189 RX7 yX7_isOf wsX7_isOf) := goodIn_app (goodIn_of _ (by decide +kernel)) ggX7_write_X7_isOf
set_option maxRecDepth 20000 in
theorem ggX7_write_X7_lays_c0 : GoodIn wsX7_write ([.code yX7_lays cX7_lays 3 none]) := goodIn_r _ [102] (by decide +kernel) (by decide +kernel)
set_option maxRecDepth 20000 in
theorem ggX7_write_X7_lays_c1 : GoodIn wsX7_write ([.fieldLink RX7 13 "PostlintModel" "isStruck" "[Z", .fieldLink RX7 17 "PostlintModel" "typed" "[I", .fieldLink RX7 133 "PostlintModel" "drafted" "I", .fieldLink RX7 20 "PostlintModel" "typedSign" "[I", .fieldLink RX7 7 "PostlintModel" "draft" "[I", .fieldLink RX7 23 "PostlintModel" "written" "[I", .fieldLink RX7 176 "PostlintModel" "newLong" "I", .fieldLink RX7 26 "PostlintModel" "writtenSign" "[I", .fieldLink RX7 119 "PostlintModel" "newSign" "[I", .fieldLink RX7 29 "PostlintModel" "posts" "[I", .fieldLink RX7 167 "PostlintModel" "read" "I", .fieldLink RX7 32 "PostlintModel" "account" "[I", .fieldLink RX7 74 "PostlintModel" "readOf" "[I", .fieldLink RX7 35 "PostlintModel" "isLess" "[Z", .fieldLink RX7 77 "PostlintModel" "readLess" "[Z", .fieldLink RX7 38 "PostlintModel" "amount" "[I", .fieldLink RX7 80 "PostlintModel" "readAmount" "[I", .fieldLink RX7 41 "PostlintModel" "times" "[I", .fieldLink RX7 83 "PostlintModel" "readTimes" "[I"]) := goodIn_r _ [103, 104, 18, 105, 19, 84, 34, 85, 36, 106, 27, 107, 73, 108, 74, 109, 75, 110, 33] (by decide +kernel) (by decide +kernel)
set_option maxRecDepth 20000 in
theorem ggX7_write_X7_lays_c2 : GoodIn wsX7_write (wsX70) := goodIn_r _ [116, 117, 118, 119, 120, 121, 122, 123, 124, 125, 126, 127, 128, 129, 130, 131, 132, 133, 134, 135, 136, 137, 138, 139, 140, 141, 142, 143, 144, 145, 146, 147, 148, 149, 150, 151, 152, 153, 154, 155, 156, 157, 158, 159, 160, 161, 162] (by decide +kernel) (by decide +kernel)
set_option maxRecDepth 20000 in
theorem ggX7_write_X7_lays : GoodIn wsX7_write wsX7_lays := (goodIn_c1 ggX7_write_X7_lays_c0 (goodIn_app ggX7_write_X7_lays_c1 ggX7_write_X7_lays_c2))
set_option maxRecDepth 20000 in
theorem gX7_write_X7_lays : GoodIn wsX7_write (wsV RX7 197 RX7 yX7_lays wsX7_lays) := goodIn_app (goodIn_of _ (by decide +kernel)) ggX7_write_X7_lays
set_option maxRecDepth 20000 in
theorem ggX7_write_X7_proves_c0 : GoodIn wsX7_write ([.code yX7_proves cX7_proves 4 none]) := goodIn_r _ [114] (by decide +kernel) (by decide +kernel)
set_option maxRecDepth 20000 in
theorem ggX7_write_X7_proves_c1 : GoodIn wsX7_write ([.fieldLink RX7 126 "PostlintModel" "entries" "I", .fieldLink RX7 44 "PostlintModel" "proof" "[I", .fieldLink RX7 23 "PostlintModel" "written" "[I", .fieldLink RX7 26 "PostlintModel" "writtenSign" "[I"]) := goodIn_r _ [6, 115, 84, 85] (by decide +kernel) (by decide +kernel)
set_option maxRecDepth 20000 in
theorem ggX7_write_X7_proves_c2 : GoodIn wsX7_write (wsX70) := goodIn_r _ [116, 117, 118, 119, 120, 121, 122, 123, 124, 125, 126, 127, 128, 129, 130, 131, 132, 133, 134, 135, 136, 137, 138, 139, 140, 141, 142, 143, 144, 145, 146, 147, 148, 149, 150, 151, 152, 153, 154, 155, 156, 157, 158, 159, 160, 161, 162] (by decide +kernel) (by decide +kernel)
set_option maxRecDepth 20000 in
theorem ggX7_write_X7_proves : GoodIn wsX7_write wsX7_proves := (goodIn_c1 ggX7_write_X7_proves_c0 (goodIn_app ggX7_write_X7_proves_c1 ggX7_write_X7_proves_c2))
set_option maxRecDepth 20000 in
theorem gX7_write_X7_proves : GoodIn wsX7_write (wsV RX7 200 RX7 yX7_proves wsX7_proves) := goodIn_app (goodIn_of _ (by decide +kernel)) ggX7_write_X7_proves
theorem dX7_write_0 : decode cX7_write 0 = .ok (.aload_n 0, 1) := by decide +kernel
theorem dX7_write_1 : decode cX7_write 1 = .ok (.iload_n 1, 1) := by decide +kernel
theorem dX7_write_2 : decode cX7_write 2 = .ok (.invokevirtual 206, 3) := by decide +kernel
theorem dX7_write_5 : decode cX7_write 5 = .ok (.istore_n 2, 1) := by decide +kernel
theorem dX7_write_6 : decode cX7_write 6 = .ok (.iload_n 2, 1) := by decide +kernel
theorem dX7_write_7 : decode cX7_write 7 = .ok (.ifCond .eq 14, 3) := by decide +kernel
theorem dX7_write_10 : decode cX7_write 10 = .ok (.aload_n 0, 1) := by decide +kernel
theorem dX7_write_11 : decode cX7_write 11 = .ok (.invokevirtual 193, 3) := by decide +kernel
theorem dX7_write_14 : decode cX7_write 14 = .ok (.ifCond .eq 7, 3) := by decide +kernel
theorem dX7_write_17 : decode cX7_write 17 = .ok (.iconst 1, 1) := by decide +kernel
theorem dX7_write_18 : decode cX7_write 18 = .ok (.goto 4, 3) := by decide +kernel
theorem dX7_write_21 : decode cX7_write 21 = .ok (.iconst 0, 1) := by decide +kernel
theorem dX7_write_22 : decode cX7_write 22 = .ok (.istore_n 3, 1) := by decide +kernel
theorem dX7_write_23 : decode cX7_write 23 = .ok (.iload_n 3, 1) := by decide +kernel
theorem dX7_write_24 : decode cX7_write 24 = .ok (.ifCond .eq 15, 3) := by decide +kernel
theorem dX7_write_27 : decode cX7_write 27 = .ok (.aload_n 0, 1) := by decide +kernel
theorem dX7_write_28 : decode cX7_write 28 = .ok (.iload_n 1, 1) := by decide +kernel
theorem dX7_write_29 : decode cX7_write 29 = .ok (.invokevirtual 209, 3) := by decide +kernel
theorem dX7_write_32 : decode cX7_write 32 = .ok (.ifCond .eq 7, 3) := by decide +kernel
theorem dX7_write_35 : decode cX7_write 35 = .ok (.iconst 1, 1) := by decide +kernel
theorem dX7_write_36 : decode cX7_write 36 = .ok (.goto 4, 3) := by decide +kernel
theorem dX7_write_39 : decode cX7_write 39 = .ok (.iconst 0, 1) := by decide +kernel
theorem dX7_write_40 : decode cX7_write 40 = .ok (.istore 4, 2) := by decide +kernel
theorem dX7_write_42 : decode cX7_write 42 = .ok (.aload_n 0, 1) := by decide +kernel
theorem dX7_write_43 : decode cX7_write 43 = .ok (.iload_n 2, 1) := by decide +kernel
theorem dX7_write_44 : decode cX7_write 44 = .ok (.ifCond .ne 7, 3) := by decide +kernel
theorem dX7_write_47 : decode cX7_write 47 = .ok (.iconst 1, 1) := by decide +kernel
theorem dX7_write_48 : decode cX7_write 48 = .ok (.goto 25, 3) := by decide +kernel
theorem dX7_write_51 : decode cX7_write 51 = .ok (.iload_n 3, 1) := by decide +kernel
theorem dX7_write_52 : decode cX7_write 52 = .ok (.ifCond .eq 16, 3) := by decide +kernel
theorem dX7_write_55 : decode cX7_write 55 = .ok (.iload 4, 2) := by decide +kernel
theorem dX7_write_57 : decode cX7_write 57 = .ok (.ifCond .eq 15, 3) := by decide +kernel
theorem dX7_write_60 : decode cX7_write 60 = .ok (.aload_n 0, 1) := by decide +kernel
theorem dX7_write_61 : decode cX7_write 61 = .ok (.iload_n 1, 1) := by decide +kernel
theorem dX7_write_62 : decode cX7_write 62 = .ok (.invokevirtual 212, 3) := by decide +kernel
theorem dX7_write_65 : decode cX7_write 65 = .ok (.ifCond .eq 7, 3) := by decide +kernel
theorem dX7_write_68 : decode cX7_write 68 = .ok (.iconst 2, 1) := by decide +kernel
theorem dX7_write_69 : decode cX7_write 69 = .ok (.goto 4, 3) := by decide +kernel
theorem dX7_write_72 : decode cX7_write 72 = .ok (.iconst 0, 1) := by decide +kernel
theorem dX7_write_73 : decode cX7_write 73 = .ok (.invokevirtual 189, 3) := by decide +kernel
theorem dX7_write_76 : decode cX7_write 76 = .ok (.ifCond .ne 5, 3) := by decide +kernel
theorem dX7_write_79 : decode cX7_write 79 = .ok (.iconst 0, 1) := by decide +kernel
theorem dX7_write_80 : decode cX7_write 80 = .ok (.ireturn, 1) := by decide +kernel
theorem dX7_write_81 : decode cX7_write 81 = .ok (.aload_n 0, 1) := by decide +kernel
theorem dX7_write_82 : decode cX7_write 82 = .ok (.iload_n 1, 1) := by decide +kernel
theorem dX7_write_83 : decode cX7_write 83 = .ok (.invokevirtual 197, 3) := by decide +kernel
theorem dX7_write_86 : decode cX7_write 86 = .ok (.aload_n 0, 1) := by decide +kernel
theorem dX7_write_87 : decode cX7_write 87 = .ok (.invokevirtual 200, 3) := by decide +kernel
theorem dX7_write_90 : decode cX7_write 90 = .ok (.iload 4, 2) := by decide +kernel
theorem dX7_write_92 : decode cX7_write 92 = .ok (.ireturn, 1) := by decide +kernel
set_option maxRecDepth 20000 in
theorem ggX7_strike_X7_isEntry_c0 : GoodIn wsX7_strike ([.code yX7_isEntry cX7_isEntry 2 (some .boolean)]) := goodIn_r _ [12] (by decide +kernel) (by decide +kernel)
set_option maxRecDepth 20000 in
theorem ggX7_strike_X7_isEntry_c1 : GoodIn wsX7_strike ([.fieldLink RX7 126 "PostlintModel" "entries" "I", .methodLink RX7 129 yX7_isIn, .static yX7_isIn, .initialized RX7, .code yX7_isIn cX7_isIn 3 (some .boolean)]) := goodIn_r _ [7, 13, 14, 11, 15] (by decide +kernel) (by decide +kernel)
set_option maxRecDepth 20000 in
theorem ggX7_strike_X7_isEntry_c2 : GoodIn wsX7_strike (wsX70) := goodIn_r _ [34, 35, 36, 37, 38, 39, 40, 41, 42, 43, 44, 45, 46, 47, 48, 49, 50, 51, 52, 53, 54, 55, 56, 57, 58, 59, 60, 61, 62, 63, 64, 65, 66, 67, 68, 69, 70, 71, 72, 73, 74, 75, 76, 77, 78, 79, 80] (by decide +kernel) (by decide +kernel)
set_option maxRecDepth 20000 in
theorem ggX7_strike_X7_isEntry : GoodIn wsX7_strike wsX7_isEntry := (goodIn_c1 ggX7_strike_X7_isEntry_c0 (goodIn_app ggX7_strike_X7_isEntry_c1 ggX7_strike_X7_isEntry_c2))
set_option maxRecDepth 20000 in
theorem gX7_strike_X7_isEntry : GoodIn wsX7_strike (wsV RX7 206 RX7 yX7_isEntry wsX7_isEntry) := goodIn_app (goodIn_of _ (by decide +kernel)) ggX7_strike_X7_isEntry
set_option maxRecDepth 20000 in
theorem ggX7_strike_X7_frozen_c0 : GoodIn wsX7_strike ([.code yX7_frozen cX7_frozen 4 (some .boolean)]) := goodIn_r _ [19] (by decide +kernel) (by decide +kernel)
set_option maxRecDepth 20000 in
theorem ggX7_strike_X7_frozen_c1 : GoodIn wsX7_strike ([.fieldLink RX7 203 "PostlintModel" "audits" "I", .fieldLink RX7 71 "PostlintModel" "hasEnded" "[Z", .fieldLink RX7 62 "PostlintModel" "auditFrom" "[I", .fieldLink RX7 65 "PostlintModel" "auditTo" "[I", .methodLink RX7 129 yX7_isIn, .static yX7_isIn, .initialized RX7, .code yX7_isIn cX7_isIn 3 (some .boolean)]) := goodIn_r _ [20, 21, 22, 23, 13, 14, 11, 15] (by decide +kernel) (by decide +kernel)
set_option maxRecDepth 20000 in
theorem ggX7_strike_X7_frozen_c2 : GoodIn wsX7_strike (wsX70) := goodIn_r _ [34, 35, 36, 37, 38, 39, 40, 41, 42, 43, 44, 45, 46, 47, 48, 49, 50, 51, 52, 53, 54, 55, 56, 57, 58, 59, 60, 61, 62, 63, 64, 65, 66, 67, 68, 69, 70, 71, 72, 73, 74, 75, 76, 77, 78, 79, 80] (by decide +kernel) (by decide +kernel)
set_option maxRecDepth 20000 in
theorem ggX7_strike_X7_frozen : GoodIn wsX7_strike wsX7_frozen := (goodIn_c1 ggX7_strike_X7_frozen_c0 (goodIn_app ggX7_strike_X7_frozen_c1 ggX7_strike_X7_frozen_c2))
set_option maxRecDepth 20000 in
theorem gX7_strike_X7_frozen : GoodIn wsX7_strike (wsV RX7 212 RX7 yX7_frozen wsX7_frozen) := goodIn_app (goodIn_of _ (by decide +kernel)) ggX7_strike_X7_frozen
set_option maxRecDepth 20000 in
theorem ggX7_strike_X7_isOf_c0 : GoodIn wsX7_strike ([.code yX7_isOf cX7_isOf 2 (some .boolean)]) := goodIn_r _ [27] (by decide +kernel) (by decide +kernel)
set_option maxRecDepth 20000 in
theorem ggX7_strike_X7_isOf_c1 : GoodIn wsX7_strike ([.fieldLink RX7 122 "PostlintModel" "thrown" "I"]) := goodIn_r _ [28] (by decide +kernel) (by decide +kernel)
set_option maxRecDepth 20000 in
theorem ggX7_strike_X7_isOf_c2 : GoodIn wsX7_strike (wsX70) := goodIn_r _ [34, 35, 36, 37, 38, 39, 40, 41, 42, 43, 44, 45, 46, 47, 48, 49, 50, 51, 52, 53, 54, 55, 56, 57, 58, 59, 60, 61, 62, 63, 64, 65, 66, 67, 68, 69, 70, 71, 72, 73, 74, 75, 76, 77, 78, 79, 80] (by decide +kernel) (by decide +kernel)
set_option maxRecDepth 20000 in
theorem ggX7_strike_X7_isOf : GoodIn wsX7_strike wsX7_isOf := (goodIn_c1 ggX7_strike_X7_isOf_c0 (goodIn_app ggX7_strike_X7_isOf_c1 ggX7_strike_X7_isOf_c2))
set_option maxRecDepth 20000 in
theorem gX7_strike_X7_isOf : GoodIn wsX7_strike (wsV RX7 189 RX7 yX7_isOf wsX7_isOf) := goodIn_app (goodIn_of _ (by decide +kernel)) ggX7_strike_X7_isOf
set_option maxRecDepth 20000 in
theorem ggX7_strike_X7_proves_c0 : GoodIn wsX7_strike ([.code yX7_proves cX7_proves 4 none]) := goodIn_r _ [32] (by decide +kernel) (by decide +kernel)
set_option maxRecDepth 20000 in
theorem ggX7_strike_X7_proves_c1 : GoodIn wsX7_strike ([.fieldLink RX7 126 "PostlintModel" "entries" "I", .fieldLink RX7 44 "PostlintModel" "proof" "[I", .fieldLink RX7 23 "PostlintModel" "written" "[I", .fieldLink RX7 26 "PostlintModel" "writtenSign" "[I"]) := goodIn_r _ [7, 33, 4, 5] (by decide +kernel) (by decide +kernel)
set_option maxRecDepth 20000 in
theorem ggX7_strike_X7_proves_c2 : GoodIn wsX7_strike (wsX70) := goodIn_r _ [34, 35, 36, 37, 38, 39, 40, 41, 42, 43, 44, 45, 46, 47, 48, 49, 50, 51, 52, 53, 54, 55, 56, 57, 58, 59, 60, 61, 62, 63, 64, 65, 66, 67, 68, 69, 70, 71, 72, 73, 74, 75, 76, 77, 78, 79, 80] (by decide +kernel) (by decide +kernel)
set_option maxRecDepth 20000 in
theorem ggX7_strike_X7_proves : GoodIn wsX7_strike wsX7_proves := (goodIn_c1 ggX7_strike_X7_proves_c0 (goodIn_app ggX7_strike_X7_proves_c1 ggX7_strike_X7_proves_c2))
set_option maxRecDepth 20000 in
theorem gX7_strike_X7_proves : GoodIn wsX7_strike (wsV RX7 200 RX7 yX7_proves wsX7_proves) := goodIn_app (goodIn_of _ (by decide +kernel)) ggX7_strike_X7_proves
theorem dX7_strike_0 : decode cX7_strike 0 = .ok (.aload_n 0, 1) := by decide +kernel
theorem dX7_strike_1 : decode cX7_strike 1 = .ok (.iload_n 1, 1) := by decide +kernel
theorem dX7_strike_2 : decode cX7_strike 2 = .ok (.invokevirtual 206, 3) := by decide +kernel
theorem dX7_strike_5 : decode cX7_strike 5 = .ok (.istore_n 2, 1) := by decide +kernel
theorem dX7_strike_6 : decode cX7_strike 6 = .ok (.aload_n 0, 1) := by decide +kernel
theorem dX7_strike_7 : decode cX7_strike 7 = .ok (.iload_n 2, 1) := by decide +kernel
theorem dX7_strike_8 : decode cX7_strike 8 = .ok (.ifCond .ne 7, 3) := by decide +kernel
theorem dX7_strike_11 : decode cX7_strike 11 = .ok (.iconst 1, 1) := by decide +kernel
theorem dX7_strike_12 : decode cX7_strike 12 = .ok (.goto 25, 3) := by decide +kernel
theorem dX7_strike_15 : decode cX7_strike 15 = .ok (.aload_n 0, 1) := by decide +kernel
theorem dX7_strike_16 : decode cX7_strike 16 = .ok (.getfield 13, 3) := by decide +kernel
theorem dX7_strike_19 : decode cX7_strike 19 = .ok (.iload_n 1, 1) := by decide +kernel
theorem dX7_strike_20 : decode cX7_strike 20 = .ok (.baload, 1) := by decide +kernel
theorem dX7_strike_21 : decode cX7_strike 21 = .ok (.ifCond .ne 11, 3) := by decide +kernel
theorem dX7_strike_24 : decode cX7_strike 24 = .ok (.aload_n 0, 1) := by decide +kernel
theorem dX7_strike_25 : decode cX7_strike 25 = .ok (.iload_n 1, 1) := by decide +kernel
theorem dX7_strike_26 : decode cX7_strike 26 = .ok (.invokevirtual 212, 3) := by decide +kernel
theorem dX7_strike_29 : decode cX7_strike 29 = .ok (.ifCond .eq 7, 3) := by decide +kernel
theorem dX7_strike_32 : decode cX7_strike 32 = .ok (.iconst 2, 1) := by decide +kernel
theorem dX7_strike_33 : decode cX7_strike 33 = .ok (.goto 4, 3) := by decide +kernel
theorem dX7_strike_36 : decode cX7_strike 36 = .ok (.iconst 0, 1) := by decide +kernel
theorem dX7_strike_37 : decode cX7_strike 37 = .ok (.invokevirtual 189, 3) := by decide +kernel
theorem dX7_strike_40 : decode cX7_strike 40 = .ok (.ifCond .ne 5, 3) := by decide +kernel
theorem dX7_strike_43 : decode cX7_strike 43 = .ok (.iconst 0, 1) := by decide +kernel
theorem dX7_strike_44 : decode cX7_strike 44 = .ok (.ireturn, 1) := by decide +kernel
theorem dX7_strike_45 : decode cX7_strike 45 = .ok (.aload_n 0, 1) := by decide +kernel
theorem dX7_strike_46 : decode cX7_strike 46 = .ok (.getfield 13, 3) := by decide +kernel
theorem dX7_strike_49 : decode cX7_strike 49 = .ok (.iload_n 1, 1) := by decide +kernel
theorem dX7_strike_50 : decode cX7_strike 50 = .ok (.iconst 1, 1) := by decide +kernel
theorem dX7_strike_51 : decode cX7_strike 51 = .ok (.bastore, 1) := by decide +kernel
theorem dX7_strike_52 : decode cX7_strike 52 = .ok (.aload_n 0, 1) := by decide +kernel
theorem dX7_strike_53 : decode cX7_strike 53 = .ok (.getfield 17, 3) := by decide +kernel
theorem dX7_strike_56 : decode cX7_strike 56 = .ok (.iload_n 1, 1) := by decide +kernel
theorem dX7_strike_57 : decode cX7_strike 57 = .ok (.iconst 1, 1) := by decide +kernel
theorem dX7_strike_58 : decode cX7_strike 58 = .ok (.iastore, 1) := by decide +kernel
theorem dX7_strike_59 : decode cX7_strike 59 = .ok (.aload_n 0, 1) := by decide +kernel
theorem dX7_strike_60 : decode cX7_strike 60 = .ok (.getfield 20, 3) := by decide +kernel
theorem dX7_strike_63 : decode cX7_strike 63 = .ok (.bipush 60, 2) := by decide +kernel
theorem dX7_strike_65 : decode cX7_strike 65 = .ok (.iload_n 1, 1) := by decide +kernel
theorem dX7_strike_66 : decode cX7_strike 66 = .ok (.imul, 1) := by decide +kernel
theorem dX7_strike_67 : decode cX7_strike 67 = .ok (.bipush 45, 2) := by decide +kernel
theorem dX7_strike_69 : decode cX7_strike 69 = .ok (.iastore, 1) := by decide +kernel
theorem dX7_strike_70 : decode cX7_strike 70 = .ok (.aload_n 0, 1) := by decide +kernel
theorem dX7_strike_71 : decode cX7_strike 71 = .ok (.getfield 23, 3) := by decide +kernel
theorem dX7_strike_74 : decode cX7_strike 74 = .ok (.iload_n 1, 1) := by decide +kernel
theorem dX7_strike_75 : decode cX7_strike 75 = .ok (.iconst 1, 1) := by decide +kernel
theorem dX7_strike_76 : decode cX7_strike 76 = .ok (.iastore, 1) := by decide +kernel
theorem dX7_strike_77 : decode cX7_strike 77 = .ok (.aload_n 0, 1) := by decide +kernel
theorem dX7_strike_78 : decode cX7_strike 78 = .ok (.getfield 26, 3) := by decide +kernel
theorem dX7_strike_81 : decode cX7_strike 81 = .ok (.bipush 60, 2) := by decide +kernel
theorem dX7_strike_83 : decode cX7_strike 83 = .ok (.iload_n 1, 1) := by decide +kernel
theorem dX7_strike_84 : decode cX7_strike 84 = .ok (.imul, 1) := by decide +kernel
theorem dX7_strike_85 : decode cX7_strike 85 = .ok (.bipush 45, 2) := by decide +kernel
theorem dX7_strike_87 : decode cX7_strike 87 = .ok (.iastore, 1) := by decide +kernel
theorem dX7_strike_88 : decode cX7_strike 88 = .ok (.aload_n 0, 1) := by decide +kernel
theorem dX7_strike_89 : decode cX7_strike 89 = .ok (.getfield 29, 3) := by decide +kernel
theorem dX7_strike_92 : decode cX7_strike 92 = .ok (.iload_n 1, 1) := by decide +kernel
theorem dX7_strike_93 : decode cX7_strike 93 = .ok (.iconst 0, 1) := by decide +kernel
theorem dX7_strike_94 : decode cX7_strike 94 = .ok (.iastore, 1) := by decide +kernel
theorem dX7_strike_95 : decode cX7_strike 95 = .ok (.aload_n 0, 1) := by decide +kernel
theorem dX7_strike_96 : decode cX7_strike 96 = .ok (.invokevirtual 200, 3) := by decide +kernel
theorem dX7_strike_99 : decode cX7_strike 99 = .ok (.iconst 0, 1) := by decide +kernel
theorem dX7_strike_100 : decode cX7_strike 100 = .ok (.istore_n 3, 1) := by decide +kernel
theorem dX7_strike_101 : decode cX7_strike 101 = .ok (.iconst 0, 1) := by decide +kernel
theorem dX7_strike_102 : decode cX7_strike 102 = .ok (.istore 4, 2) := by decide +kernel
theorem dX7_strike_104 : decode cX7_strike 104 = .ok (.iload 4, 2) := by decide +kernel
theorem dX7_strike_106 : decode cX7_strike 106 = .ok (.aload_n 0, 1) := by decide +kernel
theorem dX7_strike_107 : decode cX7_strike 107 = .ok (.getfield 126, 3) := by decide +kernel
theorem dX7_strike_110 : decode cX7_strike 110 = .ok (.if_icmp .ge 27, 3) := by decide +kernel
theorem dX7_strike_113 : decode cX7_strike 113 = .ok (.iload_n 3, 1) := by decide +kernel
theorem dX7_strike_114 : decode cX7_strike 114 = .ok (.aload_n 0, 1) := by decide +kernel
theorem dX7_strike_115 : decode cX7_strike 115 = .ok (.getfield 13, 3) := by decide +kernel
theorem dX7_strike_118 : decode cX7_strike 118 = .ok (.iload 4, 2) := by decide +kernel
theorem dX7_strike_120 : decode cX7_strike 120 = .ok (.baload, 1) := by decide +kernel
theorem dX7_strike_121 : decode cX7_strike 121 = .ok (.ifCond .eq 7, 3) := by decide +kernel
theorem dX7_strike_124 : decode cX7_strike 124 = .ok (.iconst 0, 1) := by decide +kernel
theorem dX7_strike_125 : decode cX7_strike 125 = .ok (.goto 4, 3) := by decide +kernel
theorem dX7_strike_128 : decode cX7_strike 128 = .ok (.iconst 1, 1) := by decide +kernel
theorem dX7_strike_129 : decode cX7_strike 129 = .ok (.iadd, 1) := by decide +kernel
theorem dX7_strike_130 : decode cX7_strike 130 = .ok (.istore_n 3, 1) := by decide +kernel
theorem dX7_strike_131 : decode cX7_strike 131 = .ok (.iinc 4 1, 3) := by decide +kernel
theorem dX7_strike_134 : decode cX7_strike 134 = .ok (.goto (-30), 3) := by decide +kernel
theorem dX7_strike_137 : decode cX7_strike 137 = .ok (.iload_n 3, 1) := by decide +kernel
theorem dX7_strike_138 : decode cX7_strike 138 = .ok (.ireturn, 1) := by decide +kernel
set_option maxRecDepth 20000 in
theorem ggX7_rule_X7_isIn : GoodIn wsX7_rule wsX7_isIn := goodIn_r _ [10] (by decide +kernel) (by decide +kernel)
set_option maxRecDepth 20000 in
theorem gX7_rule_X7_isIn : GoodIn wsX7_rule (va_wsS RX7 129 yX7_isIn wsX7_isIn) := goodIn_app (goodIn_of _ (by decide +kernel)) ggX7_rule_X7_isIn
set_option maxRecDepth 20000 in
theorem ggX7_rule_X7_isOf_c0 : GoodIn wsX7_rule ([.code yX7_isOf cX7_isOf 2 (some .boolean)]) := goodIn_r _ [14] (by decide +kernel) (by decide +kernel)
set_option maxRecDepth 20000 in
theorem ggX7_rule_X7_isOf_c1 : GoodIn wsX7_rule ([.fieldLink RX7 122 "PostlintModel" "thrown" "I"]) := goodIn_r _ [15] (by decide +kernel) (by decide +kernel)
set_option maxRecDepth 20000 in
theorem ggX7_rule_X7_isOf_c2 : GoodIn wsX7_rule (wsX70) := goodIn_r _ [16, 17, 18, 19, 20, 21, 22, 23, 24, 25, 26, 27, 28, 29, 30, 31, 32, 33, 34, 35, 36, 37, 38, 39, 40, 41, 42, 43, 44, 45, 46, 47, 48, 49, 50, 51, 52, 53, 54, 55, 56, 57, 58, 59, 60, 61, 62] (by decide +kernel) (by decide +kernel)
set_option maxRecDepth 20000 in
theorem ggX7_rule_X7_isOf : GoodIn wsX7_rule wsX7_isOf := (goodIn_c1 ggX7_rule_X7_isOf_c0 (goodIn_app ggX7_rule_X7_isOf_c1 ggX7_rule_X7_isOf_c2))
set_option maxRecDepth 20000 in
theorem gX7_rule_X7_isOf : GoodIn wsX7_rule (wsV RX7 189 RX7 yX7_isOf wsX7_isOf) := goodIn_app (goodIn_of _ (by decide +kernel)) ggX7_rule_X7_isOf
theorem dX7_rule_0 : decode cX7_rule 0 = .ok (.iload_n 1, 1) := by decide +kernel
theorem dX7_rule_1 : decode cX7_rule 1 = .ok (.iconst 0, 1) := by decide +kernel
theorem dX7_rule_2 : decode cX7_rule 2 = .ok (.iconst 3, 1) := by decide +kernel
theorem dX7_rule_3 : decode cX7_rule 3 = .ok (.invokestatic 129, 3) := by decide +kernel
theorem dX7_rule_6 : decode cX7_rule 6 = .ok (.ifCond .eq 61, 3) := by decide +kernel
theorem dX7_rule_9 : decode cX7_rule 9 = .ok (.iload_n 2, 1) := by decide +kernel
theorem dX7_rule_10 : decode cX7_rule 10 = .ok (.iconst 0, 1) := by decide +kernel
theorem dX7_rule_11 : decode cX7_rule 11 = .ok (.bipush 7, 2) := by decide +kernel
theorem dX7_rule_13 : decode cX7_rule 13 = .ok (.invokestatic 129, 3) := by decide +kernel
theorem dX7_rule_16 : decode cX7_rule 16 = .ok (.ifCond .eq 51, 3) := by decide +kernel
theorem dX7_rule_19 : decode cX7_rule 19 = .ok (.iload_n 3, 1) := by decide +kernel
theorem dX7_rule_20 : decode cX7_rule 20 = .ok (.iconst 0, 1) := by decide +kernel
theorem dX7_rule_21 : decode cX7_rule 21 = .ok (.bipush 7, 2) := by decide +kernel
theorem dX7_rule_23 : decode cX7_rule 23 = .ok (.invokestatic 129, 3) := by decide +kernel
theorem dX7_rule_26 : decode cX7_rule 26 = .ok (.ifCond .eq 41, 3) := by decide +kernel
theorem dX7_rule_29 : decode cX7_rule 29 = .ok (.iload 4, 2) := by decide +kernel
theorem dX7_rule_31 : decode cX7_rule 31 = .ok (.sipush (-999), 3) := by decide +kernel
theorem dX7_rule_34 : decode cX7_rule 34 = .ok (.sipush 999, 3) := by decide +kernel
theorem dX7_rule_37 : decode cX7_rule 37 = .ok (.invokestatic 129, 3) := by decide +kernel
theorem dX7_rule_40 : decode cX7_rule 40 = .ok (.ifCond .eq 27, 3) := by decide +kernel
theorem dX7_rule_43 : decode cX7_rule 43 = .ok (.iload_n 1, 1) := by decide +kernel
theorem dX7_rule_44 : decode cX7_rule 44 = .ok (.iconst 1, 1) := by decide +kernel
theorem dX7_rule_45 : decode cX7_rule 45 = .ok (.if_icmp .ne 8, 3) := by decide +kernel
theorem dX7_rule_48 : decode cX7_rule 48 = .ok (.iload 4, 2) := by decide +kernel
theorem dX7_rule_50 : decode cX7_rule 50 = .ok (.ifCond .lt 17, 3) := by decide +kernel
theorem dX7_rule_53 : decode cX7_rule 53 = .ok (.iload_n 1, 1) := by decide +kernel
theorem dX7_rule_54 : decode cX7_rule 54 = .ok (.iconst 2, 1) := by decide +kernel
theorem dX7_rule_55 : decode cX7_rule 55 = .ok (.if_icmp .ne 8, 3) := by decide +kernel
theorem dX7_rule_58 : decode cX7_rule 58 = .ok (.iload_n 2, 1) := by decide +kernel
theorem dX7_rule_59 : decode cX7_rule 59 = .ok (.iload_n 3, 1) := by decide +kernel
theorem dX7_rule_60 : decode cX7_rule 60 = .ok (.if_icmp .eq 7, 3) := by decide +kernel
theorem dX7_rule_63 : decode cX7_rule 63 = .ok (.iconst 1, 1) := by decide +kernel
theorem dX7_rule_64 : decode cX7_rule 64 = .ok (.goto 4, 3) := by decide +kernel
theorem dX7_rule_67 : decode cX7_rule 67 = .ok (.iconst 0, 1) := by decide +kernel
theorem dX7_rule_68 : decode cX7_rule 68 = .ok (.istore 5, 2) := by decide +kernel
theorem dX7_rule_70 : decode cX7_rule 70 = .ok (.aload_n 0, 1) := by decide +kernel
theorem dX7_rule_71 : decode cX7_rule 71 = .ok (.iload 5, 2) := by decide +kernel
theorem dX7_rule_73 : decode cX7_rule 73 = .ok (.ifCond .ne 7, 3) := by decide +kernel
theorem dX7_rule_76 : decode cX7_rule 76 = .ok (.iconst 1, 1) := by decide +kernel
theorem dX7_rule_77 : decode cX7_rule 77 = .ok (.goto 17, 3) := by decide +kernel
theorem dX7_rule_80 : decode cX7_rule 80 = .ok (.aload_n 0, 1) := by decide +kernel
theorem dX7_rule_81 : decode cX7_rule 81 = .ok (.getfield 215, 3) := by decide +kernel
theorem dX7_rule_84 : decode cX7_rule 84 = .ok (.bipush 8, 2) := by decide +kernel
theorem dX7_rule_86 : decode cX7_rule 86 = .ok (.if_icmp .ne 7, 3) := by decide +kernel
theorem dX7_rule_89 : decode cX7_rule 89 = .ok (.iconst 2, 1) := by decide +kernel
theorem dX7_rule_90 : decode cX7_rule 90 = .ok (.goto 4, 3) := by decide +kernel
theorem dX7_rule_93 : decode cX7_rule 93 = .ok (.iconst 0, 1) := by decide +kernel
theorem dX7_rule_94 : decode cX7_rule 94 = .ok (.invokevirtual 189, 3) := by decide +kernel
theorem dX7_rule_97 : decode cX7_rule 97 = .ok (.ifCond .ne 5, 3) := by decide +kernel
theorem dX7_rule_100 : decode cX7_rule 100 = .ok (.iconst 0, 1) := by decide +kernel
theorem dX7_rule_101 : decode cX7_rule 101 = .ok (.ireturn, 1) := by decide +kernel
theorem dX7_rule_102 : decode cX7_rule 102 = .ok (.aload_n 0, 1) := by decide +kernel
theorem dX7_rule_103 : decode cX7_rule 103 = .ok (.getfield 47, 3) := by decide +kernel
theorem dX7_rule_106 : decode cX7_rule 106 = .ok (.aload_n 0, 1) := by decide +kernel
theorem dX7_rule_107 : decode cX7_rule 107 = .ok (.getfield 215, 3) := by decide +kernel
theorem dX7_rule_110 : decode cX7_rule 110 = .ok (.iload_n 1, 1) := by decide +kernel
theorem dX7_rule_111 : decode cX7_rule 111 = .ok (.iastore, 1) := by decide +kernel
theorem dX7_rule_112 : decode cX7_rule 112 = .ok (.aload_n 0, 1) := by decide +kernel
theorem dX7_rule_113 : decode cX7_rule 113 = .ok (.getfield 50, 3) := by decide +kernel
theorem dX7_rule_116 : decode cX7_rule 116 = .ok (.aload_n 0, 1) := by decide +kernel
theorem dX7_rule_117 : decode cX7_rule 117 = .ok (.getfield 215, 3) := by decide +kernel
theorem dX7_rule_120 : decode cX7_rule 120 = .ok (.iload_n 2, 1) := by decide +kernel
theorem dX7_rule_121 : decode cX7_rule 121 = .ok (.iastore, 1) := by decide +kernel
theorem dX7_rule_122 : decode cX7_rule 122 = .ok (.aload_n 0, 1) := by decide +kernel
