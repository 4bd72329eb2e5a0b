theorem dX6_isDoubtedBy_16 : decode cX6_isDoubtedBy 16 = .ok (.invokevirtual 67, 3) := by decide +kernel
theorem dX6_isDoubtedBy_19 : decode cX6_isDoubtedBy 19 = .ok (.if_icmp .lt 5, 3) := by decide +kernel
theorem dX6_isDoubtedBy_22 : decode cX6_isDoubtedBy 22 = .ok (.iconst 0, 1) := by decide +kernel
theorem dX6_isDoubtedBy_23 : decode cX6_isDoubtedBy 23 = .ok (.ireturn, 1) := by decide +kernel
theorem dX6_isDoubtedBy_24 : decode cX6_isDoubtedBy 24 = .ok (.aload_n 2, 1) := by decide +kernel
theorem dX6_isDoubtedBy_25 : decode cX6_isDoubtedBy 25 = .ok (.getfield 245, 3) := by decide +kernel
theorem dX6_isDoubtedBy_28 : decode cX6_isDoubtedBy 28 = .ok (.iconst 3, 1) := by decide +kernel
theorem dX6_isDoubtedBy_29 : decode cX6_isDoubtedBy 29 = .ok (.if_icmp .ne 25, 3) := by decide +kernel
theorem dX6_isDoubtedBy_32 : decode cX6_isDoubtedBy 32 = .ok (.aload_n 0, 1) := by decide +kernel
theorem dX6_isDoubtedBy_33 : decode cX6_isDoubtedBy 33 = .ok (.iload_n 1, 1) := by decide +kernel
theorem dX6_isDoubtedBy_34 : decode cX6_isDoubtedBy 34 = .ok (.aload_n 2, 1) := by decide +kernel
theorem dX6_isDoubtedBy_35 : decode cX6_isDoubtedBy 35 = .ok (.getfield 248, 3) := by decide +kernel
theorem dX6_isDoubtedBy_38 : decode cX6_isDoubtedBy 38 = .ok (.invokevirtual 190, 3) := by decide +kernel
theorem dX6_isDoubtedBy_41 : decode cX6_isDoubtedBy 41 = .ok (.aload_n 2, 1) := by decide +kernel
theorem dX6_isDoubtedBy_42 : decode cX6_isDoubtedBy 42 = .ok (.getfield 251, 3) := by decide +kernel
theorem dX6_isDoubtedBy_45 : decode cX6_isDoubtedBy 45 = .ok (.if_icmp .ge 7, 3) := by decide +kernel
theorem dX6_isDoubtedBy_48 : decode cX6_isDoubtedBy 48 = .ok (.iconst 1, 1) := by decide +kernel
theorem dX6_isDoubtedBy_49 : decode cX6_isDoubtedBy 49 = .ok (.goto 4, 3) := by decide +kernel
theorem dX6_isDoubtedBy_52 : decode cX6_isDoubtedBy 52 = .ok (.iconst 0, 1) := by decide +kernel
theorem dX6_isDoubtedBy_53 : decode cX6_isDoubtedBy 53 = .ok (.ireturn, 1) := by decide +kernel
theorem dX6_isDoubtedBy_54 : decode cX6_isDoubtedBy 54 = .ok (.aload_n 2, 1) := by decide +kernel
theorem dX6_isDoubtedBy_55 : decode cX6_isDoubtedBy 55 = .ok (.aload_n 0, 1) := by decide +kernel
theorem dX6_isDoubtedBy_56 : decode cX6_isDoubtedBy 56 = .ok (.getfield 31, 3) := by decide +kernel
theorem dX6_isDoubtedBy_59 : decode cX6_isDoubtedBy 59 = .ok (.iload_n 1, 1) := by decide +kernel
theorem dX6_isDoubtedBy_60 : decode cX6_isDoubtedBy 60 = .ok (.invokevirtual 109, 3) := by decide +kernel
theorem dX6_isDoubtedBy_63 : decode cX6_isDoubtedBy 63 = .ok (.checkcast 82, 3) := by decide +kernel
theorem dX6_isDoubtedBy_66 : decode cX6_isDoubtedBy 66 = .ok (.invokevirtual 254, 3) := by decide +kernel
theorem dX6_isDoubtedBy_69 : decode cX6_isDoubtedBy 69 = .ok (.ireturn, 1) := by decide +kernel
theorem dX6_isAccount_0 : decode cX6_isAccount 0 = .ok (.iload_n 0, 1) := by decide +kernel
theorem dX6_isAccount_1 : decode cX6_isAccount 1 = .ok (.bipush 97, 2) := by decide +kernel
theorem dX6_isAccount_3 : decode cX6_isAccount 3 = .ok (.if_icmp .lt 13, 3) := by decide +kernel
theorem dX6_isAccount_6 : decode cX6_isAccount 6 = .ok (.iload_n 0, 1) := by decide +kernel
theorem dX6_isAccount_7 : decode cX6_isAccount 7 = .ok (.bipush 105, 2) := by decide +kernel
theorem dX6_isAccount_9 : decode cX6_isAccount 9 = .ok (.if_icmp .ge 7, 3) := by decide +kernel
theorem dX6_isAccount_12 : decode cX6_isAccount 12 = .ok (.iconst 1, 1) := by decide +kernel
theorem dX6_isAccount_13 : decode cX6_isAccount 13 = .ok (.goto 4, 3) := by decide +kernel
theorem dX6_isAccount_16 : decode cX6_isAccount 16 = .ok (.iconst 0, 1) := by decide +kernel
theorem dX6_isAccount_17 : decode cX6_isAccount 17 = .ok (.ireturn, 1) := by decide +kernel
theorem dX6_isDigit_0 : decode cX6_isDigit 0 = .ok (.iload_n 0, 1) := by decide +kernel
theorem dX6_isDigit_1 : decode cX6_isDigit 1 = .ok (.bipush 48, 2) := by decide +kernel
theorem dX6_isDigit_3 : decode cX6_isDigit 3 = .ok (.if_icmp .lt 13, 3) := by decide +kernel
theorem dX6_isDigit_6 : decode cX6_isDigit 6 = .ok (.iload_n 0, 1) := by decide +kernel
theorem dX6_isDigit_7 : decode cX6_isDigit 7 = .ok (.bipush 57, 2) := by decide +kernel
theorem dX6_isDigit_9 : decode cX6_isDigit 9 = .ok (.if_icmp .gt 7, 3) := by decide +kernel
theorem dX6_isDigit_12 : decode cX6_isDigit 12 = .ok (.iconst 1, 1) := by decide +kernel
theorem dX6_isDigit_13 : decode cX6_isDigit 13 = .ok (.goto 4, 3) := by decide +kernel
theorem dX6_isDigit_16 : decode cX6_isDigit 16 = .ok (.iconst 0, 1) := by decide +kernel
theorem dX6_isDigit_17 : decode cX6_isDigit 17 = .ok (.ireturn, 1) := by decide +kernel
theorem dX7_init_0 : decode cX7_init 0 = .ok (.aload_n 0, 1) := by decide +kernel
theorem dX7_init_1 : decode cX7_init 1 = .ok (.invokespecial 1, 3) := by decide +kernel
theorem dX7_init_4 : decode cX7_init 4 = .ok (.aload_n 0, 1) := by decide +kernel
theorem dX7_init_5 : decode cX7_init 5 = .ok (.bipush 60, 2) := by decide +kernel
theorem dX7_init_7 : decode cX7_init 7 = .ok (.newarray .int, 2) := by decide +kernel
theorem dX7_init_9 : decode cX7_init 9 = .ok (.putfield 7, 3) := by decide +kernel
theorem dX7_init_12 : decode cX7_init 12 = .ok (.aload_n 0, 1) := by decide +kernel
theorem dX7_init_13 : decode cX7_init 13 = .ok (.bipush 24, 2) := by decide +kernel
theorem dX7_init_15 : decode cX7_init 15 = .ok (.newarray .boolean, 2) := by decide +kernel
theorem dX7_init_17 : decode cX7_init 17 = .ok (.putfield 13, 3) := by decide +kernel
theorem dX7_init_20 : decode cX7_init 20 = .ok (.aload_n 0, 1) := by decide +kernel
theorem dX7_init_21 : decode cX7_init 21 = .ok (.bipush 24, 2) := by decide +kernel
theorem dX7_init_23 : decode cX7_init 23 = .ok (.newarray .int, 2) := by decide +kernel
theorem dX7_init_25 : decode cX7_init 25 = .ok (.putfield 17, 3) := by decide +kernel
theorem dX7_init_28 : decode cX7_init 28 = .ok (.aload_n 0, 1) := by decide +kernel
theorem dX7_init_29 : decode cX7_init 29 = .ok (.sipush 1440, 3) := by decide +kernel
theorem dX7_init_32 : decode cX7_init 32 = .ok (.newarray .int, 2) := by decide +kernel
theorem dX7_init_34 : decode cX7_init 34 = .ok (.putfield 20, 3) := by decide +kernel
theorem dX7_init_37 : decode cX7_init 37 = .ok (.aload_n 0, 1) := by decide +kernel
theorem dX7_init_38 : decode cX7_init 38 = .ok (.bipush 24, 2) := by decide +kernel
theorem dX7_init_40 : decode cX7_init 40 = .ok (.newarray .int, 2) := by decide +kernel
theorem dX7_init_42 : decode cX7_init 42 = .ok (.putfield 23, 3) := by decide +kernel
theorem dX7_init_45 : decode cX7_init 45 = .ok (.aload_n 0, 1) := by decide +kernel
theorem dX7_init_46 : decode cX7_init 46 = .ok (.sipush 1440, 3) := by decide +kernel
theorem dX7_init_49 : decode cX7_init 49 = .ok (.newarray .int, 2) := by decide +kernel
theorem dX7_init_51 : decode cX7_init 51 = .ok (.putfield 26, 3) := by decide +kernel
theorem dX7_init_54 : decode cX7_init 54 = .ok (.aload_n 0, 1) := by decide +kernel
theorem dX7_init_55 : decode cX7_init 55 = .ok (.bipush 24, 2) := by decide +kernel
theorem dX7_init_57 : decode cX7_init 57 = .ok (.newarray .int, 2) := by decide +kernel
theorem dX7_init_59 : decode cX7_init 59 = .ok (.putfield 29, 3) := by decide +kernel
theorem dX7_init_62 : decode cX7_init 62 = .ok (.aload_n 0, 1) := by decide +kernel
theorem dX7_init_63 : decode cX7_init 63 = .ok (.sipush 384, 3) := by decide +kernel
theorem dX7_init_66 : decode cX7_init 66 = .ok (.newarray .int, 2) := by decide +kernel
theorem dX7_init_68 : decode cX7_init 68 = .ok (.putfield 32, 3) := by decide +kernel
theorem dX7_init_71 : decode cX7_init 71 = .ok (.aload_n 0, 1) := by decide +kernel
theorem dX7_init_72 : decode cX7_init 72 = .ok (.sipush 384, 3) := by decide +kernel
theorem dX7_init_75 : decode cX7_init 75 = .ok (.newarray .boolean, 2) := by decide +kernel
theorem dX7_init_77 : decode cX7_init 77 = .ok (.putfield 35, 3) := by decide +kernel
theorem dX7_init_80 : decode cX7_init 80 = .ok (.aload_n 0, 1) := by decide +kernel
theorem dX7_init_81 : decode cX7_init 81 = .ok (.sipush 384, 3) := by decide +kernel
theorem dX7_init_84 : decode cX7_init 84 = .ok (.newarray .int, 2) := by decide +kernel
theorem dX7_init_86 : decode cX7_init 86 = .ok (.putfield 38, 3) := by decide +kernel
theorem dX7_init_89 : decode cX7_init 89 = .ok (.aload_n 0, 1) := by decide +kernel
theorem dX7_init_90 : decode cX7_init 90 = .ok (.sipush 384, 3) := by decide +kernel
theorem dX7_init_93 : decode cX7_init 93 = .ok (.newarray .int, 2) := by decide +kernel
theorem dX7_init_95 : decode cX7_init 95 = .ok (.putfield 41, 3) := by decide +kernel
theorem dX7_init_98 : decode cX7_init 98 = .ok (.aload_n 0, 1) := by decide +kernel
theorem dX7_init_99 : decode cX7_init 99 = .ok (.bipush 24, 2) := by decide +kernel
theorem dX7_init_101 : decode cX7_init 101 = .ok (.newarray .int, 2) := by decide +kernel
theorem dX7_init_103 : decode cX7_init 103 = .ok (.putfield 44, 3) := by decide +kernel
theorem dX7_init_106 : decode cX7_init 106 = .ok (.aload_n 0, 1) := by decide +kernel
theorem dX7_init_107 : decode cX7_init 107 = .ok (.bipush 8, 2) := by decide +kernel
theorem dX7_init_109 : decode cX7_init 109 = .ok (.newarray .int, 2) := by decide +kernel
theorem dX7_init_111 : decode cX7_init 111 = .ok (.putfield 47, 3) := by decide +kernel
theorem dX7_init_114 : decode cX7_init 114 = .ok (.aload_n 0, 1) := by decide +kernel
theorem dX7_init_115 : decode cX7_init 115 = .ok (.bipush 8, 2) := by decide +kernel
theorem dX7_init_117 : decode cX7_init 117 = .ok (.newarray .int, 2) := by decide +kernel
theorem dX7_init_119 : decode cX7_init 119 = .ok (.putfield 50, 3) := by decide +kernel
theorem dX7_init_122 : decode cX7_init 122 = .ok (.aload_n 0, 1) := by decide +kernel
theorem dX7_init_123 : decode cX7_init 123 = .ok (.bipush 8, 2) := by decide +kernel
theorem dX7_init_125 : decode cX7_init 125 = .ok (.newarray .int, 2) := by decide +kernel
theorem dX7_init_127 : decode cX7_init 127 = .ok (.putfield 53, 3) := by decide +kernel
theorem dX7_init_130 : decode cX7_init 130 = .ok (.aload_n 0, 1) := by decide +kernel
theorem dX7_init_131 : decode cX7_init 131 = .ok (.bipush 8, 2) := by decide +kernel
theorem dX7_init_133 : decode cX7_init 133 = .ok (.newarray .int, 2) := by decide +kernel
theorem dX7_init_135 : decode cX7_init 135 = .ok (.putfield 56, 3) := by decide +kernel
theorem dX7_init_138 : decode cX7_init 138 = .ok (.aload_n 0, 1) := by decide +kernel
theorem dX7_init_139 : decode cX7_init 139 = .ok (.bipush 8, 2) := by decide +kernel
theorem dX7_init_141 : decode cX7_init 141 = .ok (.newarray .boolean, 2) := by decide +kernel
theorem dX7_init_143 : decode cX7_init 143 = .ok (.putfield 59, 3) := by decide +kernel
theorem dX7_init_146 : decode cX7_init 146 = .ok (.aload_n 0, 1) := by decide +kernel
theorem dX7_init_147 : decode cX7_init 147 = .ok (.bipush 6, 2) := by decide +kernel
theorem dX7_init_149 : decode cX7_init 149 = .ok (.newarray .int, 2) := by decide +kernel
theorem dX7_init_151 : decode cX7_init 151 = .ok (.putfield 62, 3) := by decide +kernel
theorem dX7_init_154 : decode cX7_init 154 = .ok (.aload_n 0, 1) := by decide +kernel
theorem dX7_init_155 : decode cX7_init 155 = .ok (.bipush 6, 2) := by decide +kernel
theorem dX7_init_157 : decode cX7_init 157 = .ok (.newarray .int, 2) := by decide +kernel
theorem dX7_init_159 : decode cX7_init 159 = .ok (.putfield 65, 3) := by decide +kernel
theorem dX7_init_162 : decode cX7_init 162 = .ok (.aload_n 0, 1) := by decide +kernel
theorem dX7_init_163 : decode cX7_init 163 = .ok (.bipush 6, 2) := by decide +kernel
theorem dX7_init_165 : decode cX7_init 165 = .ok (.newarray .int, 2) := by decide +kernel
theorem dX7_init_167 : decode cX7_init 167 = .ok (.putfield 68, 3) := by decide +kernel
theorem dX7_init_170 : decode cX7_init 170 = .ok (.aload_n 0, 1) := by decide +kernel
theorem dX7_init_171 : decode cX7_init 171 = .ok (.bipush 6, 2) := by decide +kernel
theorem dX7_init_173 : decode cX7_init 173 = .ok (.newarray .boolean, 2) := by decide +kernel
theorem dX7_init_175 : decode cX7_init 175 = .ok (.putfield 71, 3) := by decide +kernel
theorem dX7_init_178 : decode cX7_init 178 = .ok (.aload_n 0, 1) := by decide +kernel
theorem dX7_init_179 : decode cX7_init 179 = .ok (.bipush 16, 2) := by decide +kernel
theorem dX7_init_181 : decode cX7_init 181 = .ok (.newarray .int, 2) := by decide +kernel
theorem dX7_init_183 : decode cX7_init 183 = .ok (.putfield 74, 3) := by decide +kernel
theorem dX7_init_186 : decode cX7_init 186 = .ok (.aload_n 0, 1) := by decide +kernel
theorem dX7_init_187 : decode cX7_init 187 = .ok (.bipush 16, 2) := by decide +kernel
theorem dX7_init_189 : decode cX7_init 189 = .ok (.newarray .boolean, 2) := by decide +kernel
theorem dX7_init_191 : decode cX7_init 191 = .ok (.putfield 77, 3) := by decide +kernel
theorem dX7_init_194 : decode cX7_init 194 = .ok (.aload_n 0, 1) := by decide +kernel
theorem dX7_init_195 : decode cX7_init 195 = .ok (.bipush 16, 2) := by decide +kernel
theorem dX7_init_197 : decode cX7_init 197 = .ok (.newarray .int, 2) := by decide +kernel
theorem dX7_init_199 : decode cX7_init 199 = .ok (.putfield 80, 3) := by decide +kernel
theorem dX7_init_202 : decode cX7_init 202 = .ok (.aload_n 0, 1) := by decide +kernel
theorem dX7_init_203 : decode cX7_init 203 = .ok (.bipush 16, 2) := by decide +kernel
theorem dX7_init_205 : decode cX7_init 205 = .ok (.newarray .int, 2) := by decide +kernel
theorem dX7_init_207 : decode cX7_init 207 = .ok (.putfield 83, 3) := by decide +kernel
theorem dX7_init_210 : decode cX7_init 210 = .ok (.aload_n 0, 1) := by decide +kernel
theorem dX7_init_211 : decode cX7_init 211 = .ok (.bipush 64, 2) := by decide +kernel
theorem dX7_init_213 : decode cX7_init 213 = .ok (.newarray .boolean, 2) := by decide +kernel
theorem dX7_init_215 : decode cX7_init 215 = .ok (.putfield 86, 3) := by decide +kernel
theorem dX7_init_218 : decode cX7_init 218 = .ok (.aload_n 0, 1) := by decide +kernel
theorem dX7_init_219 : decode cX7_init 219 = .ok (.bipush 64, 2) := by decide +kernel
theorem dX7_init_221 : decode cX7_init 221 = .ok (.newarray .int, 2) := by decide +kernel
theorem dX7_init_223 : decode cX7_init 223 = .ok (.putfield 89, 3) := by decide +kernel
theorem dX7_init_226 : decode cX7_init 226 = .ok (.aload_n 0, 1) := by decide +kernel
theorem dX7_init_227 : decode cX7_init 227 = .ok (.bipush 64, 2) := by decide +kernel
theorem dX7_init_229 : decode cX7_init 229 = .ok (.newarray .int, 2) := by decide +kernel
theorem dX7_init_231 : decode cX7_init 231 = .ok (.putfield 92, 3) := by decide +kernel
theorem dX7_init_234 : decode cX7_init 234 = .ok (.aload_n 0, 1) := by decide +kernel
theorem dX7_init_235 : decode cX7_init 235 = .ok (.bipush 64, 2) := by decide +kernel
theorem dX7_init_237 : decode cX7_init 237 = .ok (.newarray .int, 2) := by decide +kernel
theorem dX7_init_239 : decode cX7_init 239 = .ok (.putfield 95, 3) := by decide +kernel
theorem dX7_init_242 : decode cX7_init 242 = .ok (.aload_n 0, 1) := by decide +kernel
theorem dX7_init_243 : decode cX7_init 243 = .ok (.bipush 64, 2) := by decide +kernel
theorem dX7_init_245 : decode cX7_init 245 = .ok (.newarray .int, 2) := by decide +kernel
theorem dX7_init_247 : decode cX7_init 247 = .ok (.putfield 98, 3) := by decide +kernel
theorem dX7_init_250 : decode cX7_init 250 = .ok (.aload_n 0, 1) := by decide +kernel
theorem dX7_init_251 : decode cX7_init 251 = .ok (.bipush 64, 2) := by decide +kernel
theorem dX7_init_253 : decode cX7_init 253 = .ok (.newarray .int, 2) := by decide +kernel
theorem dX7_init_255 : decode cX7_init 255 = .ok (.putfield 101, 3) := by decide +kernel
theorem dX7_init_258 : decode cX7_init 258 = .ok (.aload_n 0, 1) := by decide +kernel
theorem dX7_init_259 : decode cX7_init 259 = .ok (.sipush 512, 3) := by decide +kernel
theorem dX7_init_262 : decode cX7_init 262 = .ok (.newarray .int, 2) := by decide +kernel
theorem dX7_init_264 : decode cX7_init 264 = .ok (.putfield 104, 3) := by decide +kernel
theorem dX7_init_267 : decode cX7_init 267 = .ok (.aload_n 0, 1) := by decide +kernel
theorem dX7_init_268 : decode cX7_init 268 = .ok (.sipush 4096, 3) := by decide +kernel
theorem dX7_init_271 : decode cX7_init 271 = .ok (.newarray .int, 2) := by decide +kernel
theorem dX7_init_273 : decode cX7_init 273 = .ok (.putfield 107, 3) := by decide +kernel
theorem dX7_init_276 : decode cX7_init 276 = .ok (.aload_n 0, 1) := by decide +kernel
theorem dX7_init_277 : decode cX7_init 277 = .ok (.bipush 6, 2) := by decide +kernel
theorem dX7_init_279 : decode cX7_init 279 = .ok (.newarray .int, 2) := by decide +kernel
theorem dX7_init_281 : decode cX7_init 281 = .ok (.putfield 110, 3) := by decide +kernel
theorem dX7_init_284 : decode cX7_init 284 = .ok (.aload_n 0, 1) := by decide +kernel
theorem dX7_init_285 : decode cX7_init 285 = .ok (.sipush 192, 3) := by decide +kernel
theorem dX7_init_288 : decode cX7_init 288 = .ok (.newarray .int, 2) := by decide +kernel
theorem dX7_init_290 : decode cX7_init 290 = .ok (.putfield 113, 3) := by decide +kernel
theorem dX7_init_293 : decode cX7_init 293 = .ok (.aload_n 0, 1) := by decide +kernel
theorem dX7_init_294 : decode cX7_init 294 = .ok (.bipush 6, 2) := by decide +kernel
theorem dX7_init_296 : decode cX7_init 296 = .ok (.newarray .int, 2) := by decide +kernel
theorem dX7_init_298 : decode cX7_init 298 = .ok (.putfield 116, 3) := by decide +kernel
theorem dX7_init_301 : decode cX7_init 301 = .ok (.aload_n 0, 1) := by decide +kernel
theorem dX7_init_302 : decode cX7_init 302 = .ok (.bipush 60, 2) := by decide +kernel
theorem dX7_init_304 : decode cX7_init 304 = .ok (.newarray .int, 2) := by decide +kernel
theorem dX7_init_306 : decode cX7_init 306 = .ok (.putfield 119, 3) := by decide +kernel
theorem dX7_init_309 : decode cX7_init 309 = .ok (.return_, 1) := by decide +kernel
theorem dX7_thrown_0 : decode cX7_thrown 0 = .ok (.aload_n 0, 1) := by decide +kernel
theorem dX7_thrown_1 : decode cX7_thrown 1 = .ok (.getfield 122, 3) := by decide +kernel
theorem dX7_thrown_4 : decode cX7_thrown 4 = .ok (.ireturn, 1) := by decide +kernel
theorem dX7_isOf_0 : decode cX7_isOf 0 = .ok (.aload_n 0, 1) := by decide +kernel
theorem dX7_isOf_1 : decode cX7_isOf 1 = .ok (.iload_n 1, 1) := by decide +kernel
theorem dX7_isOf_2 : decode cX7_isOf 2 = .ok (.putfield 122, 3) := by decide +kernel
theorem dX7_isOf_5 : decode cX7_isOf 5 = .ok (.iload_n 1, 1) := by decide +kernel
theorem dX7_isOf_6 : decode cX7_isOf 6 = .ok (.ifCond .ne 7, 3) := by decide +kernel
theorem dX7_isOf_9 : decode cX7_isOf 9 = .ok (.iconst 1, 1) := by decide +kernel
theorem dX7_isOf_10 : decode cX7_isOf 10 = .ok (.goto 4, 3) := by decide +kernel
theorem dX7_isOf_13 : decode cX7_isOf 13 = .ok (.iconst 0, 1) := by decide +kernel
theorem dX7_isOf_14 : decode cX7_isOf 14 = .ok (.ireturn, 1) := by decide +kernel
theorem dX7_isIn_0 : decode cX7_isIn 0 = .ok (.iload_n 0, 1) := by decide +kernel
theorem dX7_isIn_1 : decode cX7_isIn 1 = .ok (.iload_n 1, 1) := by decide +kernel
theorem dX7_isIn_2 : decode cX7_isIn 2 = .ok (.if_icmp .lt 12, 3) := by decide +kernel
theorem dX7_isIn_5 : decode cX7_isIn 5 = .ok (.iload_n 0, 1) := by decide +kernel
theorem dX7_isIn_6 : decode cX7_isIn 6 = .ok (.iload_n 2, 1) := by decide +kernel
theorem dX7_isIn_7 : decode cX7_isIn 7 = .ok (.if_icmp .gt 7, 3) := by decide +kernel
theorem dX7_isIn_10 : decode cX7_isIn 10 = .ok (.iconst 1, 1) := by decide +kernel
theorem dX7_isIn_11 : decode cX7_isIn 11 = .ok (.goto 4, 3) := by decide +kernel
theorem dX7_isIn_14 : decode cX7_isIn 14 = .ok (.iconst 0, 1) := by decide +kernel
theorem dX7_isIn_15 : decode cX7_isIn 15 = .ok (.ireturn, 1) := by decide +kernel
set_option maxRecDepth 20000 in
theorem ggX7_isEntry_X7_isIn : GoodIn wsX7_isEntry wsX7_isIn := goodIn_r _ [5] (by decide +kernel) (by decide +kernel)
set_option maxRecDepth 20000 in
theorem gX7_isEntry_X7_isIn : GoodIn wsX7_isEntry (va_wsS RX7 129 yX7_isIn wsX7_isIn) := goodIn_app (goodIn_of _ (by decide +kernel)) ggX7_isEntry_X7_isIn
theorem dX7_isEntry_0 : decode cX7_isEntry 0 = .ok (.iload_n 1, 1) := by decide +kernel
theorem dX7_isEntry_1 : decode cX7_isEntry 1 = .ok (.iconst 0, 1) := by decide +kernel
theorem dX7_isEntry_2 : decode cX7_isEntry 2 = .ok (.aload_n 0, 1) := by decide +kernel
theorem dX7_isEntry_3 : decode cX7_isEntry 3 = .ok (.getfield 126, 3) := by decide +kernel
theorem dX7_isEntry_6 : decode cX7_isEntry 6 = .ok (.iconst 1, 1) := by decide +kernel
theorem dX7_isEntry_7 : decode cX7_isEntry 7 = .ok (.isub, 1) := by decide +kernel
theorem dX7_isEntry_8 : decode cX7_isEntry 8 = .ok (.invokestatic 129, 3) := by decide +kernel
theorem dX7_isEntry_11 : decode cX7_isEntry 11 = .ok (.ireturn, 1) := by decide +kernel
set_option maxRecDepth 20000 in
theorem ggX7_next_X7_isIn : GoodIn wsX7_next wsX7_isIn := goodIn_r _ [4] (by decide +kernel) (by decide +kernel)
set_option maxRecDepth 20000 in
theorem gX7_next_X7_isIn : GoodIn wsX7_next (va_wsS RX7 129 yX7_isIn wsX7_isIn) := goodIn_app (goodIn_of _ (by decide +kernel)) ggX7_next_X7_isIn
theorem dX7_next_0 : decode cX7_next 0 = .ok (.iload_n 1, 1) := by decide +kernel
theorem dX7_next_1 : decode cX7_next 1 = .ok (.bipush 97, 2) := by decide +kernel
theorem dX7_next_3 : decode cX7_next 3 = .ok (.bipush 104, 2) := by decide +kernel
theorem dX7_next_5 : decode cX7_next 5 = .ok (.invokestatic 129, 3) := by decide +kernel
theorem dX7_next_8 : decode cX7_next 8 = .ok (.ifCond .ne 14, 3) := by decide +kernel
theorem dX7_next_11 : decode cX7_next 11 = .ok (.iload_n 1, 1) := by decide +kernel
theorem dX7_next_12 : decode cX7_next 12 = .ok (.bipush 40, 2) := by decide +kernel
theorem dX7_next_14 : decode cX7_next 14 = .ok (.if_icmp .ne 12, 3) := by decide +kernel
theorem dX7_next_17 : decode cX7_next 17 = .ok (.iload_n 3, 1) := by decide +kernel
theorem dX7_next_18 : decode cX7_next 18 = .ok (.iconst 5, 1) := by decide +kernel
theorem dX7_next_19 : decode cX7_next 19 = .ok (.if_icmp .ge 7, 3) := by decide +kernel
theorem dX7_next_22 : decode cX7_next 22 = .ok (.iconst 1, 1) := by decide +kernel
theorem dX7_next_23 : decode cX7_next 23 = .ok (.goto 4, 3) := by decide +kernel
theorem dX7_next_26 : decode cX7_next 26 = .ok (.iconst 0, 1) := by decide +kernel
theorem dX7_next_27 : decode cX7_next 27 = .ok (.istore 4, 2) := by decide +kernel
theorem dX7_next_29 : decode cX7_next 29 = .ok (.iload_n 1, 1) := by decide +kernel
theorem dX7_next_30 : decode cX7_next 30 = .ok (.bipush 41, 2) := by decide +kernel
theorem dX7_next_32 : decode cX7_next 32 = .ok (.if_icmp .ne 11, 3) := by decide +kernel
theorem dX7_next_35 : decode cX7_next 35 = .ok (.iload_n 3, 1) := by decide +kernel
theorem dX7_next_36 : decode cX7_next 36 = .ok (.ifCond .le 7, 3) := by decide +kernel
theorem dX7_next_39 : decode cX7_next 39 = .ok (.iconst 1, 1) := by decide +kernel
theorem dX7_next_40 : decode cX7_next 40 = .ok (.goto 4, 3) := by decide +kernel
theorem dX7_next_43 : decode cX7_next 43 = .ok (.iconst 0, 1) := by decide +kernel
theorem dX7_next_44 : decode cX7_next 44 = .ok (.istore 5, 2) := by decide +kernel
theorem dX7_next_46 : decode cX7_next 46 = .ok (.iload_n 0, 1) := by decide +kernel
theorem dX7_next_47 : decode cX7_next 47 = .ok (.tableswitch 244 0 6 #[41, 73, 91, 108, 149, 194, 226], 41) := by decide +kernel
theorem dX7_next_88 : decode cX7_next 88 = .ok (.iload_n 1, 1) := by decide +kernel
theorem dX7_next_89 : decode cX7_next 89 = .ok (.bipush 32, 2) := by decide +kernel
theorem dX7_next_91 : decode cX7_next 91 = .ok (.if_icmp .eq 14, 3) := by decide +kernel
theorem dX7_next_94 : decode cX7_next 94 = .ok (.iload_n 1, 1) := by decide +kernel
theorem dX7_next_95 : decode cX7_next 95 = .ok (.bipush 40, 2) := by decide +kernel
theorem dX7_next_97 : decode cX7_next 97 = .ok (.if_icmp .ne 12, 3) := by decide +kernel
theorem dX7_next_100 : decode cX7_next 100 = .ok (.iload 4, 2) := by decide +kernel
theorem dX7_next_102 : decode cX7_next 102 = .ok (.ifCond .eq 7, 3) := by decide +kernel
theorem dX7_next_105 : decode cX7_next 105 = .ok (.iconst 0, 1) := by decide +kernel
theorem dX7_next_106 : decode cX7_next 106 = .ok (.goto 13, 3) := by decide +kernel
theorem dX7_next_109 : decode cX7_next 109 = .ok (.iload 4, 2) := by decide +kernel
theorem dX7_next_111 : decode cX7_next 111 = .ok (.ifCond .eq 7, 3) := by decide +kernel
theorem dX7_next_114 : decode cX7_next 114 = .ok (.iconst 1, 1) := by decide +kernel
theorem dX7_next_115 : decode cX7_next 115 = .ok (.goto 4, 3) := by decide +kernel
theorem dX7_next_118 : decode cX7_next 118 = .ok (.iconst (-1), 1) := by decide +kernel
theorem dX7_next_119 : decode cX7_next 119 = .ok (.ireturn, 1) := by decide +kernel
theorem dX7_next_120 : decode cX7_next 120 = .ok (.iload_n 1, 1) := by decide +kernel
theorem dX7_next_121 : decode cX7_next 121 = .ok (.bipush 43, 2) := by decide +kernel
theorem dX7_next_123 : decode cX7_next 123 = .ok (.if_icmp .eq 9, 3) := by decide +kernel
theorem dX7_next_126 : decode cX7_next 126 = .ok (.iload_n 1, 1) := by decide +kernel
theorem dX7_next_127 : decode cX7_next 127 = .ok (.bipush 45, 2) := by decide +kernel
theorem dX7_next_129 : decode cX7_next 129 = .ok (.if_icmp .ne 7, 3) := by decide +kernel
theorem dX7_next_132 : decode cX7_next 132 = .ok (.iconst 2, 1) := by decide +kernel
theorem dX7_next_133 : decode cX7_next 133 = .ok (.goto 4, 3) := by decide +kernel
theorem dX7_next_136 : decode cX7_next 136 = .ok (.iconst (-1), 1) := by decide +kernel
theorem dX7_next_137 : decode cX7_next 137 = .ok (.ireturn, 1) := by decide +kernel
theorem dX7_next_138 : decode cX7_next 138 = .ok (.iload_n 1, 1) := by decide +kernel
theorem dX7_next_139 : decode cX7_next 139 = .ok (.bipush 48, 2) := by decide +kernel
theorem dX7_next_141 : decode cX7_next 141 = .ok (.bipush 57, 2) := by decide +kernel
theorem dX7_next_143 : decode cX7_next 143 = .ok (.invokestatic 129, 3) := by decide +kernel
theorem dX7_next_146 : decode cX7_next 146 = .ok (.ifCond .eq 7, 3) := by decide +kernel
theorem dX7_next_149 : decode cX7_next 149 = .ok (.iconst 3, 1) := by decide +kernel
theorem dX7_next_150 : decode cX7_next 150 = .ok (.goto 4, 3) := by decide +kernel
theorem dX7_next_153 : decode cX7_next 153 = .ok (.iconst (-1), 1) := by decide +kernel
theorem dX7_next_154 : decode cX7_next 154 = .ok (.ireturn, 1) := by decide +kernel
theorem dX7_next_155 : decode cX7_next 155 = .ok (.iload_n 1, 1) := by decide +kernel
theorem dX7_next_156 : decode cX7_next 156 = .ok (.bipush 48, 2) := by decide +kernel
theorem dX7_next_158 : decode cX7_next 158 = .ok (.bipush 57, 2) := by decide +kernel
theorem dX7_next_160 : decode cX7_next 160 = .ok (.invokestatic 129, 3) := by decide +kernel
theorem dX7_next_163 : decode cX7_next 163 = .ok (.ifCond .eq 12, 3) := by decide +kernel
theorem dX7_next_166 : decode cX7_next 166 = .ok (.iload_n 2, 1) := by decide +kernel
theorem dX7_next_167 : decode cX7_next 167 = .ok (.iconst 3, 1) := by decide +kernel
theorem dX7_next_168 : decode cX7_next 168 = .ok (.if_icmp .ge 7, 3) := by decide +kernel
theorem dX7_next_171 : decode cX7_next 171 = .ok (.iconst 3, 1) := by decide +kernel
theorem dX7_next_172 : decode cX7_next 172 = .ok (.goto 23, 3) := by decide +kernel
theorem dX7_next_175 : decode cX7_next 175 = .ok (.iload_n 1, 1) := by decide +kernel
theorem dX7_next_176 : decode cX7_next 176 = .ok (.bipush 32, 2) := by decide +kernel
theorem dX7_next_178 : decode cX7_next 178 = .ok (.if_icmp .ne 7, 3) := by decide +kernel
theorem dX7_next_181 : decode cX7_next 181 = .ok (.iconst 4, 1) := by decide +kernel
theorem dX7_next_182 : decode cX7_next 182 = .ok (.goto 13, 3) := by decide +kernel
theorem dX7_next_185 : decode cX7_next 185 = .ok (.iload 5, 2) := by decide +kernel
theorem dX7_next_187 : decode cX7_next 187 = .ok (.ifCond .eq 7, 3) := by decide +kernel
theorem dX7_next_190 : decode cX7_next 190 = .ok (.iconst 5, 1) := by decide +kernel
theorem dX7_next_191 : decode cX7_next 191 = .ok (.goto 4, 3) := by decide +kernel
theorem dX7_next_194 : decode cX7_next 194 = .ok (.iconst (-1), 1) := by decide +kernel
theorem dX7_next_195 : decode cX7_next 195 = .ok (.ireturn, 1) := by decide +kernel
theorem dX7_next_196 : decode cX7_next 196 = .ok (.iload_n 1, 1) := by decide +kernel
theorem dX7_next_197 : decode cX7_next 197 = .ok (.bipush 32, 2) := by decide +kernel
theorem dX7_next_199 : decode cX7_next 199 = .ok (.if_icmp .ne 7, 3) := by decide +kernel
theorem dX7_next_202 : decode cX7_next 202 = .ok (.iconst 4, 1) := by decide +kernel
theorem dX7_next_203 : decode cX7_next 203 = .ok (.goto 37, 3) := by decide +kernel
theorem dX7_next_206 : decode cX7_next 206 = .ok (.iload 5, 2) := by decide +kernel
theorem dX7_next_208 : decode cX7_next 208 = .ok (.ifCond .eq 7, 3) := by decide +kernel
theorem dX7_next_211 : decode cX7_next 211 = .ok (.iconst 5, 1) := by decide +kernel
theorem dX7_next_212 : decode cX7_next 212 = .ok (.goto 28, 3) := by decide +kernel
theorem dX7_next_215 : decode cX7_next 215 = .ok (.iload_n 1, 1) := by decide +kernel
theorem dX7_next_216 : decode cX7_next 216 = .ok (.bipush 40, 2) := by decide +kernel
theorem dX7_next_218 : decode cX7_next 218 = .ok (.if_icmp .ne 12, 3) := by decide +kernel
theorem dX7_next_221 : decode cX7_next 221 = .ok (.iload 4, 2) := by decide +kernel
theorem dX7_next_223 : decode cX7_next 223 = .ok (.ifCond .eq 7, 3) := by decide +kernel
theorem dX7_next_226 : decode cX7_next 226 = .ok (.iconst 0, 1) := by decide +kernel
theorem dX7_next_227 : decode cX7_next 227 = .ok (.goto 13, 3) := by decide +kernel
theorem dX7_next_230 : decode cX7_next 230 = .ok (.iload 4, 2) := by decide +kernel
theorem dX7_next_232 : decode cX7_next 232 = .ok (.ifCond .eq 7, 3) := by decide +kernel
theorem dX7_next_235 : decode cX7_next 235 = .ok (.iconst 1, 1) := by decide +kernel
theorem dX7_next_236 : decode cX7_next 236 = .ok (.goto 4, 3) := by decide +kernel
theorem dX7_next_239 : decode cX7_next 239 = .ok (.iconst (-1), 1) := by decide +kernel
theorem dX7_next_240 : decode cX7_next 240 = .ok (.ireturn, 1) := by decide +kernel
theorem dX7_next_241 : decode cX7_next 241 = .ok (.iload_n 1, 1) := by decide +kernel
theorem dX7_next_242 : decode cX7_next 242 = .ok (.bipush 120, 2) := by decide +kernel
theorem dX7_next_244 : decode cX7_next 244 = .ok (.if_icmp .ne 8, 3) := by decide +kernel
theorem dX7_next_247 : decode cX7_next 247 = .ok (.bipush 6, 2) := by decide +kernel
theorem dX7_next_249 : decode cX7_next 249 = .ok (.goto 23, 3) := by decide +kernel
theorem dX7_next_252 : decode cX7_next 252 = .ok (.iload_n 1, 1) := by decide +kernel
theorem dX7_next_253 : decode cX7_next 253 = .ok (.bipush 32, 2) := by decide +kernel
theorem dX7_next_255 : decode cX7_next 255 = .ok (.if_icmp .ne 7, 3) := by decide +kernel
theorem dX7_next_258 : decode cX7_next 258 = .ok (.iconst 4, 1) := by decide +kernel
theorem dX7_next_259 : decode cX7_next 259 = .ok (.goto 13, 3) := by decide +kernel
theorem dX7_next_262 : decode cX7_next 262 = .ok (.iload 5, 2) := by decide +kernel
theorem dX7_next_264 : decode cX7_next 264 = .ok (.ifCond .eq 7, 3) := by decide +kernel
theorem dX7_next_267 : decode cX7_next 267 = .ok (.iconst 5, 1) := by decide +kernel
theorem dX7_next_268 : decode cX7_next 268 = .ok (.goto 4, 3) := by decide +kernel
theorem dX7_next_271 : decode cX7_next 271 = .ok (.iconst (-1), 1) := by decide +kernel
theorem dX7_next_272 : decode cX7_next 272 = .ok (.ireturn, 1) := by decide +kernel
theorem dX7_next_273 : decode cX7_next 273 = .ok (.iload_n 1, 1) := by decide +kernel
theorem dX7_next_274 : decode cX7_next 274 = .ok (.bipush 49, 2) := by decide +kernel
theorem dX7_next_276 : decode cX7_next 276 = .ok (.bipush 57, 2) := by decide +kernel
theorem dX7_next_278 : decode cX7_next 278 = .ok (.invokestatic 129, 3) := by decide +kernel
theorem dX7_next_281 : decode cX7_next 281 = .ok (.ifCond .eq 8, 3) := by decide +kernel
theorem dX7_next_284 : decode cX7_next 284 = .ok (.bipush 7, 2) := by decide +kernel
theorem dX7_next_286 : decode cX7_next 286 = .ok (.goto 4, 3) := by decide +kernel
theorem dX7_next_289 : decode cX7_next 289 = .ok (.iconst (-1), 1) := by decide +kernel
theorem dX7_next_290 : decode cX7_next 290 = .ok (.ireturn, 1) := by decide +kernel
theorem dX7_next_291 : decode cX7_next 291 = .ok (.iload_n 1, 1) := by decide +kernel
theorem dX7_next_292 : decode cX7_next 292 = .ok (.bipush 32, 2) := by decide +kernel
theorem dX7_next_294 : decode cX7_next 294 = .ok (.if_icmp .ne 7, 3) := by decide +kernel
theorem dX7_next_297 : decode cX7_next 297 = .ok (.iconst 4, 1) := by decide +kernel
theorem dX7_next_298 : decode cX7_next 298 = .ok (.goto 13, 3) := by decide +kernel
theorem dX7_next_301 : decode cX7_next 301 = .ok (.iload 5, 2) := by decide +kernel
theorem dX7_next_303 : decode cX7_next 303 = .ok (.ifCond .eq 7, 3) := by decide +kernel
theorem dX7_next_306 : decode cX7_next 306 = .ok (.iconst 5, 1) := by decide +kernel
theorem dX7_next_307 : decode cX7_next 307 = .ok (.goto 4, 3) := by decide +kernel
theorem dX7_next_310 : decode cX7_next 310 = .ok (.iconst (-1), 1) := by decide +kernel
theorem dX7_next_311 : decode cX7_next 311 = .ok (.ireturn, 1) := by decide +kernel
set_option maxRecDepth 20000 in
theorem ggX7_draftFault_X7_next : GoodIn wsX7_draftFault wsX7_next := goodIn_r _ [6, 7, 8, 5, 9] (by decide +kernel) (by decide +kernel)
set_option maxRecDepth 20000 in
theorem gX7_draftFault_X7_next : GoodIn wsX7_draftFault (va_wsS RX7 136 yX7_next wsX7_next) := goodIn_app (goodIn_of _ (by decide +kernel)) ggX7_draftFault_X7_next
theorem dX7_draftFault_0 : decode cX7_draftFault 0 = .ok (.iconst 0, 1) := by decide +kernel
theorem dX7_draftFault_1 : decode cX7_draftFault 1 = .ok (.istore_n 1, 1) := by decide +kernel
theorem dX7_draftFault_2 : decode cX7_draftFault 2 = .ok (.iconst 0, 1) := by decide +kernel
theorem dX7_draftFault_3 : decode cX7_draftFault 3 = .ok (.istore_n 2, 1) := by decide +kernel
theorem dX7_draftFault_4 : decode cX7_draftFault 4 = .ok (.iconst 0, 1) := by decide +kernel
theorem dX7_draftFault_5 : decode cX7_draftFault 5 = .ok (.istore_n 3, 1) := by decide +kernel
theorem dX7_draftFault_6 : decode cX7_draftFault 6 = .ok (.iconst 0, 1) := by decide +kernel
theorem dX7_draftFault_7 : decode cX7_draftFault 7 = .ok (.istore 4, 2) := by decide +kernel
theorem dX7_draftFault_9 : decode cX7_draftFault 9 = .ok (.iload 4, 2) := by decide +kernel
theorem dX7_draftFault_11 : decode cX7_draftFault 11 = .ok (.aload_n 0, 1) := by decide +kernel
theorem dX7_draftFault_12 : decode cX7_draftFault 12 = .ok (.getfield 133, 3) := by decide +kernel
theorem dX7_draftFault_15 : decode cX7_draftFault 15 = .ok (.if_icmp .ge 80, 3) := by decide +kernel
theorem dX7_draftFault_18 : decode cX7_draftFault 18 = .ok (.aload_n 0, 1) := by decide +kernel
theorem dX7_draftFault_19 : decode cX7_draftFault 19 = .ok (.getfield 7, 3) := by decide +kernel
theorem dX7_draftFault_22 : decode cX7_draftFault 22 = .ok (.iload 4, 2) := by decide +kernel
theorem dX7_draftFault_24 : decode cX7_draftFault 24 = .ok (.iaload, 1) := by decide +kernel
theorem dX7_draftFault_25 : decode cX7_draftFault 25 = .ok (.istore 5, 2) := by decide +kernel
theorem dX7_draftFault_27 : decode cX7_draftFault 27 = .ok (.iload_n 1, 1) := by decide +kernel
theorem dX7_draftFault_28 : decode cX7_draftFault 28 = .ok (.iload 5, 2) := by decide +kernel
theorem dX7_draftFault_30 : decode cX7_draftFault 30 = .ok (.iload_n 3, 1) := by decide +kernel
theorem dX7_draftFault_31 : decode cX7_draftFault 31 = .ok (.iload_n 2, 1) := by decide +kernel
theorem dX7_draftFault_32 : decode cX7_draftFault 32 = .ok (.invokestatic 136, 3) := by decide +kernel
theorem dX7_draftFault_35 : decode cX7_draftFault 35 = .ok (.istore 6, 2) := by decide +kernel
theorem dX7_draftFault_37 : decode cX7_draftFault 37 = .ok (.iload 6, 2) := by decide +kernel
theorem dX7_draftFault_39 : decode cX7_draftFault 39 = .ok (.iconst (-1), 1) := by decide +kernel
theorem dX7_draftFault_40 : decode cX7_draftFault 40 = .ok (.if_icmp .ne 6, 3) := by decide +kernel
theorem dX7_draftFault_43 : decode cX7_draftFault 43 = .ok (.iload 4, 2) := by decide +kernel
theorem dX7_draftFault_45 : decode cX7_draftFault 45 = .ok (.ireturn, 1) := by decide +kernel
theorem dX7_draftFault_46 : decode cX7_draftFault 46 = .ok (.iload_n 2, 1) := by decide +kernel
theorem dX7_draftFault_47 : decode cX7_draftFault 47 = .ok (.iload 5, 2) := by decide +kernel
theorem dX7_draftFault_49 : decode cX7_draftFault 49 = .ok (.bipush 40, 2) := by decide +kernel
theorem dX7_draftFault_51 : decode cX7_draftFault 51 = .ok (.if_icmp .ne 7, 3) := by decide +kernel
theorem dX7_draftFault_54 : decode cX7_draftFault 54 = .ok (.iconst 1, 1) := by decide +kernel
theorem dX7_draftFault_55 : decode cX7_draftFault 55 = .ok (.goto 15, 3) := by decide +kernel
theorem dX7_draftFault_58 : decode cX7_draftFault 58 = .ok (.iload 5, 2) := by decide +kernel
theorem dX7_draftFault_60 : decode cX7_draftFault 60 = .ok (.bipush 41, 2) := by decide +kernel
theorem dX7_draftFault_62 : decode cX7_draftFault 62 = .ok (.if_icmp .ne 7, 3) := by decide +kernel
theorem dX7_draftFault_65 : decode cX7_draftFault 65 = .ok (.iconst (-1), 1) := by decide +kernel
theorem dX7_draftFault_66 : decode cX7_draftFault 66 = .ok (.goto 4, 3) := by decide +kernel
theorem dX7_draftFault_69 : decode cX7_draftFault 69 = .ok (.iconst 0, 1) := by decide +kernel
theorem dX7_draftFault_70 : decode cX7_draftFault 70 = .ok (.iadd, 1) := by decide +kernel
theorem dX7_draftFault_71 : decode cX7_draftFault 71 = .ok (.istore_n 2, 1) := by decide +kernel
theorem dX7_draftFault_72 : decode cX7_draftFault 72 = .ok (.iload 6, 2) := by decide +kernel
theorem dX7_draftFault_74 : decode cX7_draftFault 74 = .ok (.iconst 3, 1) := by decide +kernel
theorem dX7_draftFault_75 : decode cX7_draftFault 75 = .ok (.if_icmp .ne 9, 3) := by decide +kernel
theorem dX7_draftFault_78 : decode cX7_draftFault 78 = .ok (.iload_n 3, 1) := by decide +kernel
theorem dX7_draftFault_79 : decode cX7_draftFault 79 = .ok (.iconst 1, 1) := by decide +kernel
theorem dX7_draftFault_80 : decode cX7_draftFault 80 = .ok (.iadd, 1) := by decide +kernel
theorem dX7_draftFault_81 : decode cX7_draftFault 81 = .ok (.goto 4, 3) := by decide +kernel
theorem dX7_draftFault_84 : decode cX7_draftFault 84 = .ok (.iconst 0, 1) := by decide +kernel
theorem dX7_draftFault_85 : decode cX7_draftFault 85 = .ok (.istore_n 3, 1) := by decide +kernel
theorem dX7_draftFault_86 : decode cX7_draftFault 86 = .ok (.iload 6, 2) := by decide +kernel
theorem dX7_draftFault_88 : decode cX7_draftFault 88 = .ok (.istore_n 1, 1) := by decide +kernel
theorem dX7_draftFault_89 : decode cX7_draftFault 89 = .ok (.iinc 4 1, 3) := by decide +kernel
theorem dX7_draftFault_92 : decode cX7_draftFault 92 = .ok (.goto (-83), 3) := by decide +kernel
theorem dX7_draftFault_95 : decode cX7_draftFault 95 = .ok (.iload_n 1, 1) := by decide +kernel
theorem dX7_draftFault_96 : decode cX7_draftFault 96 = .ok (.iconst 3, 1) := by decide +kernel
theorem dX7_draftFault_97 : decode cX7_draftFault 97 = .ok (.if_icmp .eq 19, 3) := by decide +kernel
theorem dX7_draftFault_100 : decode cX7_draftFault 100 = .ok (.iload_n 1, 1) := by decide +kernel
theorem dX7_draftFault_101 : decode cX7_draftFault 101 = .ok (.iconst 4, 1) := by decide +kernel
theorem dX7_draftFault_102 : decode cX7_draftFault 102 = .ok (.if_icmp .eq 14, 3) := by decide +kernel
theorem dX7_draftFault_105 : decode cX7_draftFault 105 = .ok (.iload_n 1, 1) := by decide +kernel
theorem dX7_draftFault_106 : decode cX7_draftFault 106 = .ok (.iconst 5, 1) := by decide +kernel
theorem dX7_draftFault_107 : decode cX7_draftFault 107 = .ok (.if_icmp .eq 9, 3) := by decide +kernel
theorem dX7_draftFault_110 : decode cX7_draftFault 110 = .ok (.iload_n 1, 1) := by decide +kernel
theorem dX7_draftFault_111 : decode cX7_draftFault 111 = .ok (.bipush 7, 2) := by decide +kernel
theorem dX7_draftFault_113 : decode cX7_draftFault 113 = .ok (.if_icmp .ne 7, 3) := by decide +kernel
theorem dX7_draftFault_116 : decode cX7_draftFault 116 = .ok (.iconst 1, 1) := by decide +kernel
theorem dX7_draftFault_117 : decode cX7_draftFault 117 = .ok (.goto 4, 3) := by decide +kernel
theorem dX7_draftFault_120 : decode cX7_draftFault 120 = .ok (.iconst 0, 1) := by decide +kernel
theorem dX7_draftFault_121 : decode cX7_draftFault 121 = .ok (.istore 4, 2) := by decide +kernel
theorem dX7_draftFault_123 : decode cX7_draftFault 123 = .ok (.iload 4, 2) := by decide +kernel
theorem dX7_draftFault_125 : decode cX7_draftFault 125 = .ok (.ifCond .eq 11, 3) := by decide +kernel
theorem dX7_draftFault_128 : decode cX7_draftFault 128 = .ok (.iload_n 2, 1) := by decide +kernel
theorem dX7_draftFault_129 : decode cX7_draftFault 129 = .ok (.ifCond .ne 7, 3) := by decide +kernel
theorem dX7_draftFault_132 : decode cX7_draftFault 132 = .ok (.iconst (-1), 1) := by decide +kernel
theorem dX7_draftFault_133 : decode cX7_draftFault 133 = .ok (.goto 7, 3) := by decide +kernel
theorem dX7_draftFault_136 : decode cX7_draftFault 136 = .ok (.aload_n 0, 1) := by decide +kernel
theorem dX7_draftFault_137 : decode cX7_draftFault 137 = .ok (.getfield 133, 3) := by decide +kernel
theorem dX7_draftFault_140 : decode cX7_draftFault 140 = .ok (.ireturn, 1) := by decide +kernel
theorem dX7_putsSign_0 : decode cX7_putsSign 0 = .ok (.aload_n 0, 1) := by decide +kernel
theorem dX7_putsSign_1 : decode cX7_putsSign 1 = .ok (.getfield 107, 3) := by decide +kernel
theorem dX7_putsSign_4 : decode cX7_putsSign 4 = .ok (.aload_n 0, 1) := by decide +kernel
theorem dX7_putsSign_5 : decode cX7_putsSign 5 = .ok (.getfield 140, 3) := by decide +kernel
theorem dX7_putsSign_8 : decode cX7_putsSign 8 = .ok (.iload_n 1, 1) := by decide +kernel
theorem dX7_putsSign_9 : decode cX7_putsSign 9 = .ok (.iastore, 1) := by decide +kernel
theorem dX7_putsSign_10 : decode cX7_putsSign 10 = .ok (.aload_n 0, 1) := by decide +kernel
theorem dX7_putsSign_11 : decode cX7_putsSign 11 = .ok (.dup, 1) := by decide +kernel
theorem dX7_putsSign_12 : decode cX7_putsSign 12 = .ok (.getfield 140, 3) := by decide +kernel
theorem dX7_putsSign_15 : decode cX7_putsSign 15 = .ok (.iconst 1, 1) := by decide +kernel
theorem dX7_putsSign_16 : decode cX7_putsSign 16 = .ok (.iadd, 1) := by decide +kernel
theorem dX7_putsSign_17 : decode cX7_putsSign 17 = .ok (.putfield 140, 3) := by decide +kernel
theorem dX7_putsSign_20 : decode cX7_putsSign 20 = .ok (.return_, 1) := by decide +kernel
set_option maxRecDepth 20000 in
theorem ggX7_putsNumber_X7_putsSign_c0 : GoodIn wsX7_putsNumber ([.code yX7_putsSign cX7_putsSign 2 none]) := goodIn_r _ [5] (by decide +kernel) (by decide +kernel)
set_option maxRecDepth 20000 in
theorem ggX7_putsNumber_X7_putsSign_c1 : GoodIn wsX7_putsNumber ([.fieldLink RX7 107 "PostlintModel" "sign" "[I", .fieldLink RX7 140 "PostlintModel" "signs" "I"]) := goodIn_r _ [6, 7] (by decide +kernel) (by decide +kernel)
set_option maxRecDepth 20000 in
theorem ggX7_putsNumber_X7_putsSign_c2 : GoodIn wsX7_putsNumber (wsX70) := goodIn_r _ [8, 9, 10, 11, 12, 13, 14, 15, 16, 17, 18, 19, 20, 21, 22, 23, 24, 25, 26, 27, 28, 29, 30, 31, 32, 33, 34, 35, 36, 37, 38, 39, 40, 41, 42, 43, 44, 45, 46, 47, 48, 49, 50, 51, 52, 53, 54] (by decide +kernel) (by decide +kernel)
set_option maxRecDepth 20000 in
theorem ggX7_putsNumber_X7_putsSign : GoodIn wsX7_putsNumber wsX7_putsSign := (goodIn_c1 ggX7_putsNumber_X7_putsSign_c0 (goodIn_app ggX7_putsNumber_X7_putsSign_c1 ggX7_putsNumber_X7_putsSign_c2))
set_option maxRecDepth 20000 in
theorem gX7_putsNumber_X7_putsSign : GoodIn wsX7_putsNumber (wsV RX7 143 RX7 yX7_putsSign wsX7_putsSign) := goodIn_app (goodIn_of _ (by decide +kernel)) ggX7_putsNumber_X7_putsSign
theorem dX7_putsNumber_0 : decode cX7_putsNumber 0 = .ok (.iload_n 1, 1) := by decide +kernel
theorem dX7_putsNumber_1 : decode cX7_putsNumber 1 = .ok (.bipush 99, 2) := by decide +kernel
theorem dX7_putsNumber_3 : decode cX7_putsNumber 3 = .ok (.if_icmp .le 14, 3) := by decide +kernel
theorem dX7_putsNumber_6 : decode cX7_putsNumber 6 = .ok (.aload_n 0, 1) := by decide +kernel
theorem dX7_putsNumber_7 : decode cX7_putsNumber 7 = .ok (.bipush 48, 2) := by decide +kernel
theorem dX7_putsNumber_9 : decode cX7_putsNumber 9 = .ok (.iload_n 1, 1) := by decide +kernel
theorem dX7_putsNumber_10 : decode cX7_putsNumber 10 = .ok (.bipush 100, 2) := by decide +kernel
theorem dX7_putsNumber_12 : decode cX7_putsNumber 12 = .ok (.idiv, 1) := by decide +kernel
theorem dX7_putsNumber_13 : decode cX7_putsNumber 13 = .ok (.iadd, 1) := by decide +kernel
theorem dX7_putsNumber_14 : decode cX7_putsNumber 14 = .ok (.invokevirtual 143, 3) := by decide +kernel
theorem dX7_putsNumber_17 : decode cX7_putsNumber 17 = .ok (.iload_n 1, 1) := by decide +kernel
theorem dX7_putsNumber_18 : decode cX7_putsNumber 18 = .ok (.bipush 9, 2) := by decide +kernel
theorem dX7_putsNumber_20 : decode cX7_putsNumber 20 = .ok (.if_icmp .le 17, 3) := by decide +kernel
theorem dX7_putsNumber_23 : decode cX7_putsNumber 23 = .ok (.aload_n 0, 1) := by decide +kernel
theorem dX7_putsNumber_24 : decode cX7_putsNumber 24 = .ok (.bipush 48, 2) := by decide +kernel
theorem dX7_putsNumber_26 : decode cX7_putsNumber 26 = .ok (.iload_n 1, 1) := by decide +kernel
theorem dX7_putsNumber_27 : decode cX7_putsNumber 27 = .ok (.bipush 10, 2) := by decide +kernel
theorem dX7_putsNumber_29 : decode cX7_putsNumber 29 = .ok (.idiv, 1) := by decide +kernel
theorem dX7_putsNumber_30 : decode cX7_putsNumber 30 = .ok (.bipush 10, 2) := by decide +kernel
theorem dX7_putsNumber_32 : decode cX7_putsNumber 32 = .ok (.irem, 1) := by decide +kernel
theorem dX7_putsNumber_33 : decode cX7_putsNumber 33 = .ok (.iadd, 1) := by decide +kernel
theorem dX7_putsNumber_34 : decode cX7_putsNumber 34 = .ok (.invokevirtual 143, 3) := by decide +kernel
theorem dX7_putsNumber_37 : decode cX7_putsNumber 37 = .ok (.aload_n 0, 1) := by decide +kernel
theorem dX7_putsNumber_38 : decode cX7_putsNumber 38 = .ok (.bipush 48, 2) := by decide +kernel
theorem dX7_putsNumber_40 : decode cX7_putsNumber 40 = .ok (.iload_n 1, 1) := by decide +kernel
theorem dX7_putsNumber_41 : decode cX7_putsNumber 41 = .ok (.bipush 10, 2) := by decide +kernel
theorem dX7_putsNumber_43 : decode cX7_putsNumber 43 = .ok (.irem, 1) := by decide +kernel
theorem dX7_putsNumber_44 : decode cX7_putsNumber 44 = .ok (.iadd, 1) := by decide +kernel
theorem dX7_putsNumber_45 : decode cX7_putsNumber 45 = .ok (.invokevirtual 143, 3) := by decide +kernel
theorem dX7_putsNumber_48 : decode cX7_putsNumber 48 = .ok (.return_, 1) := by decide +kernel
set_option maxRecDepth 20000 in
theorem ggX7_begins_X7_joins_c0 : GoodIn wsX7_begins ([.code yX7_joins cX7_joins 3 none]) := goodIn_r _ [14] (by decide +kernel) (by decide +kernel)
set_option maxRecDepth 20000 in
theorem ggX7_begins_X7_joins_c1 : GoodIn wsX7_begins ([.fieldLink RX7 113 "PostlintModel" "level" "[I", .fieldLink RX7 110 "PostlintModel" "levelMany" "[I"]) := goodIn_r _ [15, 16] (by decide +kernel) (by decide +kernel)
set_option maxRecDepth 20000 in
theorem ggX7_begins_X7_joins_c2 : GoodIn wsX7_begins (wsX70) := goodIn_r _ [17, 18, 19, 20, 21, 22, 23, 24, 25, 26, 27, 28, 29, 30, 31, 32, 33, 34, 35, 36, 37, 38, 39, 40, 41, 42, 43, 44, 45, 46, 47, 48, 49, 50, 51, 52, 53, 54, 55, 56, 57, 58, 59, 60, 61, 62, 63] (by decide +kernel) (by decide +kernel)
set_option maxRecDepth 20000 in
theorem ggX7_begins_X7_joins : GoodIn wsX7_begins wsX7_joins := (goodIn_c1 ggX7_begins_X7_joins_c0 (goodIn_app ggX7_begins_X7_joins_c1 ggX7_begins_X7_joins_c2))
set_option maxRecDepth 20000 in
theorem gX7_begins_X7_joins : GoodIn wsX7_begins (wsV RX7 153 RX7 yX7_joins wsX7_joins) := goodIn_app (goodIn_of _ (by decide +kernel)) ggX7_begins_X7_joins
theorem dX7_begins_0 : decode cX7_begins 0 = .ok (.aload_n 0, 1) := by decide +kernel
theorem dX7_begins_1 : decode cX7_begins 1 = .ok (.getfield 147, 3) := by decide +kernel
theorem dX7_begins_4 : decode cX7_begins 4 = .ok (.istore_n 3, 1) := by decide +kernel
theorem dX7_begins_5 : decode cX7_begins 5 = .ok (.aload_n 0, 1) := by decide +kernel
theorem dX7_begins_6 : decode cX7_begins 6 = .ok (.dup, 1) := by decide +kernel
theorem dX7_begins_7 : decode cX7_begins 7 = .ok (.getfield 147, 3) := by decide +kernel
theorem dX7_begins_10 : decode cX7_begins 10 = .ok (.iconst 1, 1) := by decide +kernel
theorem dX7_begins_11 : decode cX7_begins 11 = .ok (.iadd, 1) := by decide +kernel
theorem dX7_begins_12 : decode cX7_begins 12 = .ok (.putfield 147, 3) := by decide +kernel
theorem dX7_begins_15 : decode cX7_begins 15 = .ok (.aload_n 0, 1) := by decide +kernel
theorem dX7_begins_16 : decode cX7_begins 16 = .ok (.getfield 86, 3) := by decide +kernel
theorem dX7_begins_19 : decode cX7_begins 19 = .ok (.iload_n 3, 1) := by decide +kernel
theorem dX7_begins_20 : decode cX7_begins 20 = .ok (.iload_n 2, 1) := by decide +kernel
theorem dX7_begins_21 : decode cX7_begins 21 = .ok (.bastore, 1) := by decide +kernel
theorem dX7_begins_22 : decode cX7_begins 22 = .ok (.aload_n 0, 1) := by decide +kernel
theorem dX7_begins_23 : decode cX7_begins 23 = .ok (.getfield 89, 3) := by decide +kernel
theorem dX7_begins_26 : decode cX7_begins 26 = .ok (.iload_n 3, 1) := by decide +kernel
theorem dX7_begins_27 : decode cX7_begins 27 = .ok (.iconst 1, 1) := by decide +kernel
theorem dX7_begins_28 : decode cX7_begins 28 = .ok (.iastore, 1) := by decide +kernel
theorem dX7_begins_29 : decode cX7_begins 29 = .ok (.aload_n 0, 1) := by decide +kernel
theorem dX7_begins_30 : decode cX7_begins 30 = .ok (.getfield 92, 3) := by decide +kernel
theorem dX7_begins_33 : decode cX7_begins 33 = .ok (.iload_n 3, 1) := by decide +kernel
theorem dX7_begins_34 : decode cX7_begins 34 = .ok (.aload_n 0, 1) := by decide +kernel
theorem dX7_begins_35 : decode cX7_begins 35 = .ok (.getfield 140, 3) := by decide +kernel
theorem dX7_begins_38 : decode cX7_begins 38 = .ok (.iastore, 1) := by decide +kernel
theorem dX7_begins_39 : decode cX7_begins 39 = .ok (.aload_n 0, 1) := by decide +kernel
theorem dX7_begins_40 : decode cX7_begins 40 = .ok (.getfield 95, 3) := by decide +kernel
theorem dX7_begins_43 : decode cX7_begins 43 = .ok (.iload_n 3, 1) := by decide +kernel
theorem dX7_begins_44 : decode cX7_begins 44 = .ok (.iconst 0, 1) := by decide +kernel
theorem dX7_begins_45 : decode cX7_begins 45 = .ok (.iastore, 1) := by decide +kernel
theorem dX7_begins_46 : decode cX7_begins 46 = .ok (.aload_n 0, 1) := by decide +kernel
theorem dX7_begins_47 : decode cX7_begins 47 = .ok (.getfield 98, 3) := by decide +kernel
theorem dX7_begins_50 : decode cX7_begins 50 = .ok (.iload_n 3, 1) := by decide +kernel
theorem dX7_begins_51 : decode cX7_begins 51 = .ok (.aload_n 0, 1) := by decide +kernel
theorem dX7_begins_52 : decode cX7_begins 52 = .ok (.getfield 150, 3) := by decide +kernel
theorem dX7_begins_55 : decode cX7_begins 55 = .ok (.iastore, 1) := by decide +kernel
theorem dX7_begins_56 : decode cX7_begins 56 = .ok (.aload_n 0, 1) := by decide +kernel
theorem dX7_begins_57 : decode cX7_begins 57 = .ok (.getfield 101, 3) := by decide +kernel
theorem dX7_begins_60 : decode cX7_begins 60 = .ok (.iload_n 3, 1) := by decide +kernel
theorem dX7_begins_61 : decode cX7_begins 61 = .ok (.iconst 0, 1) := by decide +kernel
theorem dX7_begins_62 : decode cX7_begins 62 = .ok (.iastore, 1) := by decide +kernel
theorem dX7_begins_63 : decode cX7_begins 63 = .ok (.aload_n 0, 1) := by decide +kernel
theorem dX7_begins_64 : decode cX7_begins 64 = .ok (.iload_n 1, 1) := by decide +kernel
theorem dX7_begins_65 : decode cX7_begins 65 = .ok (.iload_n 3, 1) := by decide +kernel
theorem dX7_begins_66 : decode cX7_begins 66 = .ok (.invokevirtual 153, 3) := by decide +kernel
theorem dX7_begins_69 : decode cX7_begins 69 = .ok (.iload_n 3, 1) := by decide +kernel
theorem dX7_begins_70 : decode cX7_begins 70 = .ok (.ireturn, 1) := by decide +kernel
theorem dX7_joins_0 : decode cX7_joins 0 = .ok (.aload_n 0, 1) := by decide +kernel
theorem dX7_joins_1 : decode cX7_joins 1 = .ok (.getfield 113, 3) := by decide +kernel
theorem dX7_joins_4 : decode cX7_joins 4 = .ok (.bipush 32, 2) := by decide +kernel
theorem dX7_joins_6 : decode cX7_joins 6 = .ok (.iload_n 1, 1) := by decide +kernel
theorem dX7_joins_7 : decode cX7_joins 7 = .ok (.imul, 1) := by decide +kernel
theorem dX7_joins_8 : decode cX7_joins 8 = .ok (.aload_n 0, 1) := by decide +kernel
theorem dX7_joins_9 : decode cX7_joins 9 = .ok (.getfield 110, 3) := by decide +kernel
theorem dX7_joins_12 : decode cX7_joins 12 = .ok (.iload_n 1, 1) := by decide +kernel
theorem dX7_joins_13 : decode cX7_joins 13 = .ok (.iaload, 1) := by decide +kernel
theorem dX7_joins_14 : decode cX7_joins 14 = .ok (.iadd, 1) := by decide +kernel
theorem dX7_joins_15 : decode cX7_joins 15 = .ok (.iload_n 2, 1) := by decide +kernel
theorem dX7_joins_16 : decode cX7_joins 16 = .ok (.iastore, 1) := by decide +kernel
theorem dX7_joins_17 : decode cX7_joins 17 = .ok (.aload_n 0, 1) := by decide +kernel
theorem dX7_joins_18 : decode cX7_joins 18 = .ok (.getfield 110, 3) := by decide +kernel
theorem dX7_joins_21 : decode cX7_joins 21 = .ok (.iload_n 1, 1) := by decide +kernel
theorem dX7_joins_22 : decode cX7_joins 22 = .ok (.dup2, 1) := by decide +kernel
theorem dX7_joins_23 : decode cX7_joins 23 = .ok (.iaload, 1) := by decide +kernel
theorem dX7_joins_24 : decode cX7_joins 24 = .ok (.iconst 1, 1) := by decide +kernel
theorem dX7_joins_25 : decode cX7_joins 25 = .ok (.iadd, 1) := by decide +kernel
theorem dX7_joins_26 : decode cX7_joins 26 = .ok (.iastore, 1) := by decide +kernel
theorem dX7_joins_27 : decode cX7_joins 27 = .ok (.return_, 1) := by decide +kernel
set_option maxRecDepth 20000 in
theorem ggX7_putsItem_X7_putsSign_c0 : GoodIn wsX7_putsItem ([.code yX7_putsSign cX7_putsSign 2 none]) := goodIn_r _ [8] (by decide +kernel) (by decide +kernel)
set_option maxRecDepth 20000 in
theorem ggX7_putsItem_X7_putsSign_c1 : GoodIn wsX7_putsItem ([.fieldLink RX7 107 "PostlintModel" "sign" "[I", .fieldLink RX7 140 "PostlintModel" "signs" "I"]) := goodIn_r _ [2, 9] (by decide +kernel) (by decide +kernel)
set_option maxRecDepth 20000 in
theorem ggX7_putsItem_X7_putsSign_c2 : GoodIn wsX7_putsItem (wsX70) := goodIn_r _ [10, 11, 12, 13, 14, 15, 16, 17, 18, 19, 20, 21, 22, 23, 24, 25, 26, 27, 28, 29, 30, 31, 32, 33, 34, 35, 36, 37, 38, 39, 40, 41, 42, 43, 44, 45, 46, 47, 48, 49, 50, 51, 52, 53, 54, 55, 56] (by decide +kernel) (by decide +kernel)
set_option maxRecDepth 20000 in
theorem ggX7_putsItem_X7_putsSign : GoodIn wsX7_putsItem wsX7_putsSign := (goodIn_c1 ggX7_putsItem_X7_putsSign_c0 (goodIn_app ggX7_putsItem_X7_putsSign_c1 ggX7_putsItem_X7_putsSign_c2))
set_option maxRecDepth 20000 in
theorem gX7_putsItem_X7_putsSign : GoodIn wsX7_putsItem (wsV RX7 143 RX7 yX7_putsSign wsX7_putsSign) := goodIn_app (goodIn_of _ (by decide +kernel)) ggX7_putsItem_X7_putsSign
theorem dX7_putsItem_0 : decode cX7_putsItem 0 = .ok (.iconst 0, 1) := by decide +kernel
theorem dX7_putsItem_1 : decode cX7_putsItem 1 = .ok (.istore_n 2, 1) := by decide +kernel
theorem dX7_putsItem_2 : decode cX7_putsItem 2 = .ok (.iload_n 2, 1) := by decide +kernel
theorem dX7_putsItem_3 : decode cX7_putsItem 3 = .ok (.aload_n 0, 1) := by decide +kernel
theorem dX7_putsItem_4 : decode cX7_putsItem 4 = .ok (.getfield 95, 3) := by decide +kernel
theorem dX7_putsItem_7 : decode cX7_putsItem 7 = .ok (.iload_n 1, 1) := by decide +kernel
theorem dX7_putsItem_8 : decode cX7_putsItem 8 = .ok (.iaload, 1) := by decide +kernel
theorem dX7_putsItem_9 : decode cX7_putsItem 9 = .ok (.if_icmp .ge 26, 3) := by decide +kernel
theorem dX7_putsItem_12 : decode cX7_putsItem 12 = .ok (.aload_n 0, 1) := by decide +kernel
theorem dX7_putsItem_13 : decode cX7_putsItem 13 = .ok (.aload_n 0, 1) := by decide +kernel
theorem dX7_putsItem_14 : decode cX7_putsItem 14 = .ok (.getfield 107, 3) := by decide +kernel
theorem dX7_putsItem_17 : decode cX7_putsItem 17 = .ok (.aload_n 0, 1) := by decide +kernel
theorem dX7_putsItem_18 : decode cX7_putsItem 18 = .ok (.getfield 92, 3) := by decide +kernel
theorem dX7_putsItem_21 : decode cX7_putsItem 21 = .ok (.iload_n 1, 1) := by decide +kernel
theorem dX7_putsItem_22 : decode cX7_putsItem 22 = .ok (.iaload, 1) := by decide +kernel
theorem dX7_putsItem_23 : decode cX7_putsItem 23 = .ok (.iload_n 2, 1) := by decide +kernel
theorem dX7_putsItem_24 : decode cX7_putsItem 24 = .ok (.iadd, 1) := by decide +kernel
theorem dX7_putsItem_25 : decode cX7_putsItem 25 = .ok (.iaload, 1) := by decide +kernel
theorem dX7_putsItem_26 : decode cX7_putsItem 26 = .ok (.invokevirtual 143, 3) := by decide +kernel
theorem dX7_putsItem_29 : decode cX7_putsItem 29 = .ok (.iinc 2 1, 3) := by decide +kernel
theorem dX7_putsItem_32 : decode cX7_putsItem 32 = .ok (.goto (-30), 3) := by decide +kernel
theorem dX7_putsItem_35 : decode cX7_putsItem 35 = .ok (.return_, 1) := by decide +kernel
set_option maxRecDepth 20000 in
theorem ggX7_closes_X7_joins_c0 : GoodIn wsX7_closes ([.code yX7_joins cX7_joins 3 none]) := goodIn_r _ [16] (by decide +kernel) (by decide +kernel)
set_option maxRecDepth 20000 in
theorem ggX7_closes_X7_joins_c1 : GoodIn wsX7_closes ([.fieldLink RX7 113 "PostlintModel" "level" "[I", .fieldLink RX7 110 "PostlintModel" "levelMany" "[I"]) := goodIn_r _ [2, 1] (by decide +kernel) (by decide +kernel)
set_option maxRecDepth 20000 in
theorem ggX7_closes_X7_joins_c2 : GoodIn wsX7_closes (wsX70) := goodIn_r _ [35, 36, 37, 38, 39, 40, 41, 42, 43, 44, 45, 46, 47, 48, 49, 50, 51, 52, 53, 54, 55, 56, 57, 58, 59, 60, 61, 62, 63, 64, 65, 66, 67, 68, 69, 70, 71, 72, 73, 74, 75, 76, 77, 78, 79, 80, 81] (by decide +kernel) (by decide +kernel)
set_option maxRecDepth 20000 in
theorem ggX7_closes_X7_joins : GoodIn wsX7_closes wsX7_joins := (goodIn_c1 ggX7_closes_X7_joins_c0 (goodIn_app ggX7_closes_X7_joins_c1 ggX7_closes_X7_joins_c2))
set_option maxRecDepth 20000 in
theorem gX7_closes_X7_joins : GoodIn wsX7_closes (wsV RX7 153 RX7 yX7_joins wsX7_joins) := goodIn_app (goodIn_of _ (by decide +kernel)) ggX7_closes_X7_joins
set_option maxRecDepth 20000 in
theorem ggX7_closes_X7_begins_c0 : GoodIn wsX7_closes ([.code yX7_begins cX7_begins 4 (some .int)]) := goodIn_r _ [20] (by decide +kernel) (by decide +kernel)
set_option maxRecDepth 20000 in
theorem ggX7_closes_X7_begins_c1 : GoodIn wsX7_closes ([.fieldLink RX7 147 "PostlintModel" "items" "I", .fieldLink RX7 86 "PostlintModel" "isGroup" "[Z", .fieldLink RX7 89 "PostlintModel" "itemTimes" "[I", .fieldLink RX7 92 "PostlintModel" "itemFrom" "[I", .fieldLink RX7 140 "PostlintModel" "signs" "I", .fieldLink RX7 95 "PostlintModel" "itemLong" "[I", .fieldLink RX7 98 "PostlintModel" "firstPart" "[I", .fieldLink RX7 150 "PostlintModel" "parts" "I", .fieldLink RX7 101 "PostlintModel" "partMany" "[I", .methodLink RX7 153 yX7_joins, .instanceMethod yX7_joins, .selects RX7 yX7_joins yX7_joins, .initialized RX7, .code yX7_joins cX7_joins 3 none, .fieldLink RX7 113 "PostlintModel" "level" "[I", .fieldLink RX7 110 "PostlintModel" "levelMany" "[I"]) := goodIn_r _ [21, 3, 4, 11, 10, 9, 8, 5, 6, 12, 13, 14, 15, 16, 2, 1] (by decide +kernel) (by decide +kernel)
set_option maxRecDepth 20000 in
theorem ggX7_closes_X7_begins_c2 : GoodIn wsX7_closes (wsX70) := goodIn_r _ [35, 36, 37, 38, 39, 40, 41, 42, 43, 44, 45, 46, 47, 48, 49, 50, 51, 52, 53, 54, 55, 56, 57, 58, 59, 60, 61, 62, 63, 64, 65, 66, 67, 68, 69, 70, 71, 72, 73, 74, 75, 76, 77, 78, 79, 80, 81] (by decide +kernel) (by decide +kernel)
set_option maxRecDepth 20000 in
theorem ggX7_closes_X7_begins : GoodIn wsX7_closes wsX7_begins := (goodIn_c1 ggX7_closes_X7_begins_c0 (goodIn_app ggX7_closes_X7_begins_c1 ggX7_closes_X7_begins_c2))
set_option maxRecDepth 20000 in
theorem gX7_closes_X7_begins : GoodIn wsX7_closes (wsV RX7 157 RX7 yX7_begins wsX7_begins) := goodIn_app (goodIn_of _ (by decide +kernel)) ggX7_closes_X7_begins
set_option maxRecDepth 20000 in
theorem ggX7_closes_X7_putsSign_c0 : GoodIn wsX7_closes ([.code yX7_putsSign cX7_putsSign 2 none]) := goodIn_r _ [25] (by decide +kernel) (by decide +kernel)
set_option maxRecDepth 20000 in
theorem ggX7_closes_X7_putsSign_c1 : GoodIn wsX7_closes ([.fieldLink RX7 107 "PostlintModel" "sign" "[I", .fieldLink RX7 140 "PostlintModel" "signs" "I"]) := goodIn_r _ [26, 10] (by decide +kernel) (by decide +kernel)
set_option maxRecDepth 20000 in
theorem ggX7_closes_X7_putsSign_c2 : GoodIn wsX7_closes (wsX70) := goodIn_r _ [35, 36, 37, 38, 39, 40, 41, 42, 43, 44, 45, 46, 47, 48, 49, 50, 51, 52, 53, 54, 55, 56, 57, 58, 59, 60, 61, 62, 63, 64, 65, 66, 67, 68, 69, 70, 71, 72, 73, 74, 75, 76, 77, 78, 79, 80, 81] (by decide +kernel) (by decide +kernel)
set_option maxRecDepth 20000 in
theorem ggX7_closes_X7_putsSign : GoodIn wsX7_closes wsX7_putsSign := (goodIn_c1 ggX7_closes_X7_putsSign_c0 (goodIn_app ggX7_closes_X7_putsSign_c1 ggX7_closes_X7_putsSign_c2))
set_option maxRecDepth 20000 in
theorem gX7_closes_X7_putsSign : GoodIn wsX7_closes (wsV RX7 143 RX7 yX7_putsSign wsX7_putsSign) := goodIn_app (goodIn_of _ (by decide +kernel)) ggX7_closes_X7_putsSign
set_option maxRecDepth 20000 in
theorem ggX7_closes_X7_putsItem_c0 : GoodIn wsX7_closes ([.code yX7_putsItem cX7_putsItem 3 none]) := goodIn_r _ [30] (by decide +kernel) (by decide +kernel)
set_option maxRecDepth 20000 in
theorem ggX7_closes_X7_putsItem_c1 : GoodIn wsX7_closes ([.fieldLink RX7 95 "PostlintModel" "itemLong" "[I", .fieldLink RX7 107 "PostlintModel" "sign" "[I", .fieldLink RX7 92 "PostlintModel" "itemFrom" "[I", .methodLink RX7 143 yX7_putsSign, .instanceMethod yX7_putsSign, .selects RX7 yX7_putsSign yX7_putsSign, .initialized RX7, .code yX7_putsSign cX7_putsSign 2 none, .fieldLink RX7 140 "PostlintModel" "signs" "I"]) := goodIn_r _ [9, 26, 11, 22, 23, 24, 15, 25, 10] (by decide +kernel) (by decide +kernel)
set_option maxRecDepth 20000 in
theorem ggX7_closes_X7_putsItem_c2 : GoodIn wsX7_closes (wsX70) := goodIn_r _ [35, 36, 37, 38, 39, 40, 41, 42, 43, 44, 45, 46, 47, 48, 49, 50, 51, 52, 53, 54, 55, 56, 57, 58, 59, 60, 61, 62, 63, 64, 65, 66, 67, 68, 69, 70, 71, 72, 73, 74, 75, 76, 77, 78, 79, 80, 81] (by decide +kernel) (by decide +kernel)
set_option maxRecDepth 20000 in
theorem ggX7_closes_X7_putsItem : GoodIn wsX7_closes wsX7_putsItem := (goodIn_c1 ggX7_closes_X7_putsItem_c0 (goodIn_app ggX7_closes_X7_putsItem_c1 ggX7_closes_X7_putsItem_c2))
set_option maxRecDepth 20000 in
theorem gX7_closes_X7_putsItem : GoodIn wsX7_closes (wsV RX7 161 RX7 yX7_putsItem wsX7_putsItem) := goodIn_app (goodIn_of _ (by decide +kernel)) ggX7_closes_X7_putsItem
set_option maxRecDepth 20000 in
theorem ggX7_closes_X7_putsNumber_c0 : GoodIn wsX7_closes ([.code yX7_putsNumber cX7_putsNumber 2 none]) := goodIn_r _ [34] (by decide +kernel) (by decide +kernel)
set_option maxRecDepth 20000 in
theorem ggX7_closes_X7_putsNumber_c1 : GoodIn wsX7_closes ([.methodLink RX7 143 yX7_putsSign, .instanceMethod yX7_putsSign, .selects RX7 yX7_putsSign yX7_putsSign, .initialized RX7, .code yX7_putsSign cX7_putsSign 2 none, .fieldLink RX7 107 "PostlintModel" "sign" "[I", .fieldLink RX7 140 "PostlintModel" "signs" "I"]) := goodIn_r _ [22, 23, 24, 15, 25, 26, 10] (by decide +kernel) (by decide +kernel)
set_option maxRecDepth 20000 in
theorem ggX7_closes_X7_putsNumber_c2 : GoodIn wsX7_closes (wsX70) := goodIn_r _ [35, 36, 37, 38, 39, 40, 41, 42, 43, 44, 45, 46, 47, 48, 49, 50, 51, 52, 53, 54, 55, 56, 57, 58, 59, 60, 61, 62, 63, 64, 65, 66, 67, 68, 69, 70, 71, 72, 73, 74, 75, 76, 77, 78, 79, 80, 81] (by decide +kernel) (by decide +kernel)
set_option maxRecDepth 20000 in
theorem ggX7_closes_X7_putsNumber : GoodIn wsX7_closes wsX7_putsNumber := (goodIn_c1 ggX7_closes_X7_putsNumber_c0 (goodIn_app ggX7_closes_X7_putsNumber_c1 ggX7_closes_X7_putsNumber_c2))
set_option maxRecDepth 20000 in
theorem gX7_closes_X7_putsNumber : GoodIn wsX7_closes (wsV RX7 164 RX7 yX7_putsNumber wsX7_putsNumber) := goodIn_app (goodIn_of _ (by decide +kernel)) ggX7_closes_X7_putsNumber
theorem dX7_closes_0 : decode cX7_closes 0 = .ok (.aload_n 0, 1) := by decide +kernel
theorem dX7_closes_1 : decode cX7_closes 1 = .ok (.getfield 110, 3) := by decide +kernel
theorem dX7_closes_4 : decode cX7_closes 4 = .ok (.iload_n 1, 1) := by decide +kernel
theorem dX7_closes_5 : decode cX7_closes 5 = .ok (.iaload, 1) := by decide +kernel
theorem dX7_closes_6 : decode cX7_closes 6 = .ok (.istore_n 3, 1) := by decide +kernel
theorem dX7_closes_7 : decode cX7_closes 7 = .ok (.aload_n 0, 1) := by decide +kernel
theorem dX7_closes_8 : decode cX7_closes 8 = .ok (.getfield 113, 3) := by decide +kernel
theorem dX7_closes_11 : decode cX7_closes 11 = .ok (.bipush 32, 2) := by decide +kernel
theorem dX7_closes_13 : decode cX7_closes 13 = .ok (.iload_n 1, 1) := by decide +kernel
theorem dX7_closes_14 : decode cX7_closes 14 = .ok (.imul, 1) := by decide +kernel
theorem dX7_closes_15 : decode cX7_closes 15 = .ok (.iaload, 1) := by decide +kernel
theorem dX7_closes_16 : decode cX7_closes 16 = .ok (.istore 4, 2) := by decide +kernel
theorem dX7_closes_18 : decode cX7_closes 18 = .ok (.iload_n 2, 1) := by decide +kernel
theorem dX7_closes_19 : decode cX7_closes 19 = .ok (.iconst 1, 1) := by decide +kernel
theorem dX7_closes_20 : decode cX7_closes 20 = .ok (.if_icmp .ne 38, 3) := by decide +kernel
theorem dX7_closes_23 : decode cX7_closes 23 = .ok (.iconst 0, 1) := by decide +kernel
theorem dX7_closes_24 : decode cX7_closes 24 = .ok (.istore 5, 2) := by decide +kernel
theorem dX7_closes_26 : decode cX7_closes 26 = .ok (.iload 5, 2) := by decide +kernel
theorem dX7_closes_28 : decode cX7_closes 28 = .ok (.iload_n 3, 1) := by decide +kernel
theorem dX7_closes_29 : decode cX7_closes 29 = .ok (.if_icmp .ge 28, 3) := by decide +kernel
theorem dX7_closes_32 : decode cX7_closes 32 = .ok (.aload_n 0, 1) := by decide +kernel
theorem dX7_closes_33 : decode cX7_closes 33 = .ok (.iload_n 1, 1) := by decide +kernel
theorem dX7_closes_34 : decode cX7_closes 34 = .ok (.iconst 1, 1) := by decide +kernel
theorem dX7_closes_35 : decode cX7_closes 35 = .ok (.isub, 1) := by decide +kernel
theorem dX7_closes_36 : decode cX7_closes 36 = .ok (.aload_n 0, 1) := by decide +kernel
theorem dX7_closes_37 : decode cX7_closes 37 = .ok (.getfield 113, 3) := by decide +kernel
theorem dX7_closes_40 : decode cX7_closes 40 = .ok (.bipush 32, 2) := by decide +kernel
theorem dX7_closes_42 : decode cX7_closes 42 = .ok (.iload_n 1, 1) := by decide +kernel
theorem dX7_closes_43 : decode cX7_closes 43 = .ok (.imul, 1) := by decide +kernel
theorem dX7_closes_44 : decode cX7_closes 44 = .ok (.iload 5, 2) := by decide +kernel
theorem dX7_closes_46 : decode cX7_closes 46 = .ok (.iadd, 1) := by decide +kernel
theorem dX7_closes_47 : decode cX7_closes 47 = .ok (.iaload, 1) := by decide +kernel
theorem dX7_closes_48 : decode cX7_closes 48 = .ok (.invokevirtual 153, 3) := by decide +kernel
theorem dX7_closes_51 : decode cX7_closes 51 = .ok (.iinc 5 1, 3) := by decide +kernel
theorem dX7_closes_54 : decode cX7_closes 54 = .ok (.goto (-28), 3) := by decide +kernel
theorem dX7_closes_57 : decode cX7_closes 57 = .ok (.return_, 1) := by decide +kernel
theorem dX7_closes_58 : decode cX7_closes 58 = .ok (.iload_n 3, 1) := by decide +kernel
theorem dX7_closes_59 : decode cX7_closes 59 = .ok (.iconst 1, 1) := by decide +kernel
theorem dX7_closes_60 : decode cX7_closes 60 = .ok (.if_icmp .ne 31, 3) := by decide +kernel
theorem dX7_closes_63 : decode cX7_closes 63 = .ok (.aload_n 0, 1) := by decide +kernel
theorem dX7_closes_64 : decode cX7_closes 64 = .ok (.getfield 86, 3) := by decide +kernel
theorem dX7_closes_67 : decode cX7_closes 67 = .ok (.iload 4, 2) := by decide +kernel
theorem dX7_closes_69 : decode cX7_closes 69 = .ok (.baload, 1) := by decide +kernel
theorem dX7_closes_70 : decode cX7_closes 70 = .ok (.ifCond .eq 21, 3) := by decide +kernel
theorem dX7_closes_73 : decode cX7_closes 73 = .ok (.aload_n 0, 1) := by decide +kernel
theorem dX7_closes_74 : decode cX7_closes 74 = .ok (.getfield 89, 3) := by decide +kernel
theorem dX7_closes_77 : decode cX7_closes 77 = .ok (.iload 4, 2) := by decide +kernel
theorem dX7_closes_79 : decode cX7_closes 79 = .ok (.iaload, 1) := by decide +kernel
theorem dX7_closes_80 : decode cX7_closes 80 = .ok (.iload_n 2, 1) := by decide +kernel
theorem dX7_closes_81 : decode cX7_closes 81 = .ok (.imul, 1) := by decide +kernel
theorem dX7_closes_82 : decode cX7_closes 82 = .ok (.bipush 9, 2) := by decide +kernel
theorem dX7_closes_84 : decode cX7_closes 84 = .ok (.if_icmp .gt 7, 3) := by decide +kernel
theorem dX7_closes_87 : decode cX7_closes 87 = .ok (.iconst 1, 1) := by decide +kernel
theorem dX7_closes_88 : decode cX7_closes 88 = .ok (.goto 4, 3) := by decide +kernel
theorem dX7_closes_91 : decode cX7_closes 91 = .ok (.iconst 0, 1) := by decide +kernel
theorem dX7_closes_92 : decode cX7_closes 92 = .ok (.istore 5, 2) := by decide +kernel
theorem dX7_closes_94 : decode cX7_closes 94 = .ok (.aload_n 0, 1) := by decide +kernel
theorem dX7_closes_95 : decode cX7_closes 95 = .ok (.getfield 150, 3) := by decide +kernel
theorem dX7_closes_98 : decode cX7_closes 98 = .ok (.istore 6, 2) := by decide +kernel
theorem dX7_closes_100 : decode cX7_closes 100 = .ok (.iload 5, 2) := by decide +kernel
theorem dX7_closes_102 : decode cX7_closes 102 = .ok (.ifCond .eq 13, 3) := by decide +kernel
theorem dX7_closes_105 : decode cX7_closes 105 = .ok (.aload_n 0, 1) := by decide +kernel
theorem dX7_closes_106 : decode cX7_closes 106 = .ok (.getfield 101, 3) := by decide +kernel
theorem dX7_closes_109 : decode cX7_closes 109 = .ok (.iload 4, 2) := by decide +kernel
theorem dX7_closes_111 : decode cX7_closes 111 = .ok (.iaload, 1) := by decide +kernel
theorem dX7_closes_112 : decode cX7_closes 112 = .ok (.goto 4, 3) := by decide +kernel
theorem dX7_closes_115 : decode cX7_closes 115 = .ok (.iload_n 3, 1) := by decide +kernel
theorem dX7_closes_116 : decode cX7_closes 116 = .ok (.istore 7, 2) := by decide +kernel
theorem dX7_closes_118 : decode cX7_closes 118 = .ok (.iconst 0, 1) := by decide +kernel
theorem dX7_closes_119 : decode cX7_closes 119 = .ok (.istore 8, 2) := by decide +kernel
theorem dX7_closes_121 : decode cX7_closes 121 = .ok (.iload 8, 2) := by decide +kernel
theorem dX7_closes_123 : decode cX7_closes 123 = .ok (.iload 7, 2) := by decide +kernel
theorem dX7_closes_125 : decode cX7_closes 125 = .ok (.if_icmp .ge 63, 3) := by decide +kernel
theorem dX7_closes_128 : decode cX7_closes 128 = .ok (.aload_n 0, 1) := by decide +kernel
theorem dX7_closes_129 : decode cX7_closes 129 = .ok (.getfield 104, 3) := by decide +kernel
theorem dX7_closes_132 : decode cX7_closes 132 = .ok (.aload_n 0, 1) := by decide +kernel
theorem dX7_closes_133 : decode cX7_closes 133 = .ok (.getfield 150, 3) := by decide +kernel
theorem dX7_closes_136 : decode cX7_closes 136 = .ok (.iload 5, 2) := by decide +kernel
theorem dX7_closes_138 : decode cX7_closes 138 = .ok (.ifCond .eq 21, 3) := by decide +kernel
theorem dX7_closes_141 : decode cX7_closes 141 = .ok (.aload_n 0, 1) := by decide +kernel
theorem dX7_closes_142 : decode cX7_closes 142 = .ok (.getfield 104, 3) := by decide +kernel
theorem dX7_closes_145 : decode cX7_closes 145 = .ok (.aload_n 0, 1) := by decide +kernel
theorem dX7_closes_146 : decode cX7_closes 146 = .ok (.getfield 98, 3) := by decide +kernel
theorem dX7_closes_149 : decode cX7_closes 149 = .ok (.iload 4, 2) := by decide +kernel
theorem dX7_closes_151 : decode cX7_closes 151 = .ok (.iaload, 1) := by decide +kernel
theorem dX7_closes_152 : decode cX7_closes 152 = .ok (.iload 8, 2) := by decide +kernel
theorem dX7_closes_154 : decode cX7_closes 154 = .ok (.iadd, 1) := by decide +kernel
theorem dX7_closes_155 : decode cX7_closes 155 = .ok (.iaload, 1) := by decide +kernel
theorem dX7_closes_156 : decode cX7_closes 156 = .ok (.goto 15, 3) := by decide +kernel
theorem dX7_closes_159 : decode cX7_closes 159 = .ok (.aload_n 0, 1) := by decide +kernel
theorem dX7_closes_160 : decode cX7_closes 160 = .ok (.getfield 113, 3) := by decide +kernel
theorem dX7_closes_163 : decode cX7_closes 163 = .ok (.bipush 32, 2) := by decide +kernel
theorem dX7_closes_165 : decode cX7_closes 165 = .ok (.iload_n 1, 1) := by decide +kernel
theorem dX7_closes_166 : decode cX7_closes 166 = .ok (.imul, 1) := by decide +kernel
theorem dX7_closes_167 : decode cX7_closes 167 = .ok (.iload 8, 2) := by decide +kernel
theorem dX7_closes_169 : decode cX7_closes 169 = .ok (.iadd, 1) := by decide +kernel
theorem dX7_closes_170 : decode cX7_closes 170 = .ok (.iaload, 1) := by decide +kernel
theorem dX7_closes_171 : decode cX7_closes 171 = .ok (.iastore, 1) := by decide +kernel
theorem dX7_closes_172 : decode cX7_closes 172 = .ok (.aload_n 0, 1) := by decide +kernel
theorem dX7_closes_173 : decode cX7_closes 173 = .ok (.dup, 1) := by decide +kernel
theorem dX7_closes_174 : decode cX7_closes 174 = .ok (.getfield 150, 3) := by decide +kernel
theorem dX7_closes_177 : decode cX7_closes 177 = .ok (.iconst 1, 1) := by decide +kernel
theorem dX7_closes_178 : decode cX7_closes 178 = .ok (.iadd, 1) := by decide +kernel
theorem dX7_closes_179 : decode cX7_closes 179 = .ok (.putfield 150, 3) := by decide +kernel
theorem dX7_closes_182 : decode cX7_closes 182 = .ok (.iinc 8 1, 3) := by decide +kernel
theorem dX7_closes_185 : decode cX7_closes 185 = .ok (.goto (-64), 3) := by decide +kernel
theorem dX7_closes_188 : decode cX7_closes 188 = .ok (.aload_n 0, 1) := by decide +kernel
theorem dX7_closes_189 : decode cX7_closes 189 = .ok (.iload_n 1, 1) := by decide +kernel
theorem dX7_closes_190 : decode cX7_closes 190 = .ok (.iconst 1, 1) := by decide +kernel
theorem dX7_closes_191 : decode cX7_closes 191 = .ok (.isub, 1) := by decide +kernel
theorem dX7_closes_192 : decode cX7_closes 192 = .ok (.iconst 1, 1) := by decide +kernel
theorem dX7_closes_193 : decode cX7_closes 193 = .ok (.invokevirtual 157, 3) := by decide +kernel
theorem dX7_closes_196 : decode cX7_closes 196 = .ok (.istore 8, 2) := by decide +kernel
theorem dX7_closes_198 : decode cX7_closes 198 = .ok (.aload_n 0, 1) := by decide +kernel
theorem dX7_closes_199 : decode cX7_closes 199 = .ok (.getfield 98, 3) := by decide +kernel
theorem dX7_closes_202 : decode cX7_closes 202 = .ok (.iload 8, 2) := by decide +kernel
theorem dX7_closes_204 : decode cX7_closes 204 = .ok (.iload 6, 2) := by decide +kernel
theorem dX7_closes_206 : decode cX7_closes 206 = .ok (.iastore, 1) := by decide +kernel
theorem dX7_closes_207 : decode cX7_closes 207 = .ok (.aload_n 0, 1) := by decide +kernel
theorem dX7_closes_208 : decode cX7_closes 208 = .ok (.getfield 101, 3) := by decide +kernel
theorem dX7_closes_211 : decode cX7_closes 211 = .ok (.iload 8, 2) := by decide +kernel
theorem dX7_closes_213 : decode cX7_closes 213 = .ok (.iload 7, 2) := by decide +kernel
theorem dX7_closes_215 : decode cX7_closes 215 = .ok (.iastore, 1) := by decide +kernel
theorem dX7_closes_216 : decode cX7_closes 216 = .ok (.aload_n 0, 1) := by decide +kernel
theorem dX7_closes_217 : decode cX7_closes 217 = .ok (.getfield 89, 3) := by decide +kernel
theorem dX7_closes_220 : decode cX7_closes 220 = .ok (.iload 8, 2) := by decide +kernel
theorem dX7_closes_222 : decode cX7_closes 222 = .ok (.iload 5, 2) := by decide +kernel
theorem dX7_closes_224 : decode cX7_closes 224 = .ok (.ifCond .eq 15, 3) := by decide +kernel
theorem dX7_closes_227 : decode cX7_closes 227 = .ok (.aload_n 0, 1) := by decide +kernel
theorem dX7_closes_228 : decode cX7_closes 228 = .ok (.getfield 89, 3) := by decide +kernel
theorem dX7_closes_231 : decode cX7_closes 231 = .ok (.iload 4, 2) := by decide +kernel
theorem dX7_closes_233 : decode cX7_closes 233 = .ok (.iaload, 1) := by decide +kernel
theorem dX7_closes_234 : decode cX7_closes 234 = .ok (.iload_n 2, 1) := by decide +kernel
theorem dX7_closes_235 : decode cX7_closes 235 = .ok (.imul, 1) := by decide +kernel
theorem dX7_closes_236 : decode cX7_closes 236 = .ok (.goto 4, 3) := by decide +kernel
theorem dX7_closes_239 : decode cX7_closes 239 = .ok (.iload_n 2, 1) := by decide +kernel
theorem dX7_closes_240 : decode cX7_closes 240 = .ok (.iastore, 1) := by decide +kernel
theorem dX7_closes_241 : decode cX7_closes 241 = .ok (.aload_n 0, 1) := by decide +kernel
theorem dX7_closes_242 : decode cX7_closes 242 = .ok (.bipush 40, 2) := by decide +kernel
theorem dX7_closes_244 : decode cX7_closes 244 = .ok (.invokevirtual 143, 3) := by decide +kernel
theorem dX7_closes_247 : decode cX7_closes 247 = .ok (.iconst 0, 1) := by decide +kernel
theorem dX7_closes_248 : decode cX7_closes 248 = .ok (.istore 9, 2) := by decide +kernel
theorem dX7_closes_250 : decode cX7_closes 250 = .ok (.iload 9, 2) := by decide +kernel
theorem dX7_closes_252 : decode cX7_closes 252 = .ok (.iload 7, 2) := by decide +kernel
theorem dX7_closes_254 : decode cX7_closes 254 = .ok (.if_icmp .ge 34, 3) := by decide +kernel
theorem dX7_closes_257 : decode cX7_closes 257 = .ok (.iload 9, 2) := by decide +kernel
theorem dX7_closes_259 : decode cX7_closes 259 = .ok (.ifCond .le 9, 3) := by decide +kernel
theorem dX7_closes_262 : decode cX7_closes 262 = .ok (.aload_n 0, 1) := by decide +kernel
theorem dX7_closes_263 : decode cX7_closes 263 = .ok (.bipush 32, 2) := by decide +kernel
theorem dX7_closes_265 : decode cX7_closes 265 = .ok (.invokevirtual 143, 3) := by decide +kernel
theorem dX7_closes_268 : decode cX7_closes 268 = .ok (.aload_n 0, 1) := by decide +kernel
theorem dX7_closes_269 : decode cX7_closes 269 = .ok (.aload_n 0, 1) := by decide +kernel
theorem dX7_closes_270 : decode cX7_closes 270 = .ok (.getfield 104, 3) := by decide +kernel
theorem dX7_closes_273 : decode cX7_closes 273 = .ok (.iload 6, 2) := by decide +kernel
theorem dX7_closes_275 : decode cX7_closes 275 = .ok (.iload 9, 2) := by decide +kernel
theorem dX7_closes_277 : decode cX7_closes 277 = .ok (.iadd, 1) := by decide +kernel
theorem dX7_closes_278 : decode cX7_closes 278 = .ok (.iaload, 1) := by decide +kernel
theorem dX7_closes_279 : decode cX7_closes 279 = .ok (.invokevirtual 161, 3) := by decide +kernel
theorem dX7_closes_282 : decode cX7_closes 282 = .ok (.iinc 9 1, 3) := by decide +kernel
theorem dX7_closes_285 : decode cX7_closes 285 = .ok (.goto (-35), 3) := by decide +kernel
theorem dX7_closes_288 : decode cX7_closes 288 = .ok (.aload_n 0, 1) := by decide +kernel
theorem dX7_closes_289 : decode cX7_closes 289 = .ok (.bipush 41, 2) := by decide +kernel
theorem dX7_closes_291 : decode cX7_closes 291 = .ok (.invokevirtual 143, 3) := by decide +kernel
theorem dX7_closes_294 : decode cX7_closes 294 = .ok (.aload_n 0, 1) := by decide +kernel
theorem dX7_closes_295 : decode cX7_closes 295 = .ok (.bipush 120, 2) := by decide +kernel
theorem dX7_closes_297 : decode cX7_closes 297 = .ok (.invokevirtual 143, 3) := by decide +kernel
theorem dX7_closes_300 : decode cX7_closes 300 = .ok (.aload_n 0, 1) := by decide +kernel
theorem dX7_closes_301 : decode cX7_closes 301 = .ok (.aload_n 0, 1) := by decide +kernel
theorem dX7_closes_302 : decode cX7_closes 302 = .ok (.getfield 89, 3) := by decide +kernel
theorem dX7_closes_305 : decode cX7_closes 305 = .ok (.iload 8, 2) := by decide +kernel
theorem dX7_closes_307 : decode cX7_closes 307 = .ok (.iaload, 1) := by decide +kernel
theorem dX7_closes_308 : decode cX7_closes 308 = .ok (.invokevirtual 164, 3) := by decide +kernel
theorem dX7_closes_311 : decode cX7_closes 311 = .ok (.aload_n 0, 1) := by decide +kernel
theorem dX7_closes_312 : decode cX7_closes 312 = .ok (.getfield 95, 3) := by decide +kernel
theorem dX7_closes_315 : decode cX7_closes 315 = .ok (.iload 8, 2) := by decide +kernel
theorem dX7_closes_317 : decode cX7_closes 317 = .ok (.aload_n 0, 1) := by decide +kernel
theorem dX7_closes_318 : decode cX7_closes 318 = .ok (.getfield 140, 3) := by decide +kernel
theorem dX7_closes_321 : decode cX7_closes 321 = .ok (.aload_n 0, 1) := by decide +kernel
theorem dX7_closes_322 : decode cX7_closes 322 = .ok (.getfield 92, 3) := by decide +kernel
theorem dX7_closes_325 : decode cX7_closes 325 = .ok (.iload 8, 2) := by decide +kernel
theorem dX7_closes_327 : decode cX7_closes 327 = .ok (.iaload, 1) := by decide +kernel
theorem dX7_closes_328 : decode cX7_closes 328 = .ok (.isub, 1) := by decide +kernel
theorem dX7_closes_329 : decode cX7_closes 329 = .ok (.iastore, 1) := by decide +kernel
theorem dX7_closes_330 : decode cX7_closes 330 = .ok (.return_, 1) := by decide +kernel
set_option maxRecDepth 20000 in
theorem ggX7_readsDraft_X7_closes_c0 : GoodIn wsX7_readsDraft ([.code yX7_closes cX7_closes 10 none]) := goodIn_r _ [20] (by decide +kernel) (by decide +kernel)
set_option maxRecDepth 20000 in
theorem ggX7_readsDraft_X7_closes_c1 : GoodIn wsX7_readsDraft (wsX7_closes_r1) := goodIn_r _ [5, 11, 21, 22, 3, 23, 24, 25, 13, 4, 15, 26, 27, 28, 19, 29, 30, 31, 32, 33, 2, 34, 35, 36] (by decide +kernel) (by decide +kernel)
set_option maxRecDepth 20000 in
theorem ggX7_readsDraft_X7_closes_c2 : GoodIn wsX7_readsDraft (wsX7_closes_r2) := goodIn_r _ [37, 14, 38, 39, 40, 41, 42, 43, 44, 45] (by decide +kernel) (by decide +kernel)
set_option maxRecDepth 20000 in
theorem ggX7_readsDraft_X7_closes_c3 : GoodIn wsX7_readsDraft (wsX70) := goodIn_r _ [56, 57, 58, 59, 60, 61, 62, 63, 64, 65, 66, 67, 68, 69, 70, 71, 72, 73, 74, 75, 76, 77, 78, 79, 80, 81, 82, 83, 84, 85, 86, 87, 88, 89, 90, 91, 92, 93, 94, 95, 96, 97, 98, 99, 100, 101, 102] (by decide +kernel) (by decide +kernel)
set_option maxRecDepth 20000 in
theorem ggX7_readsDraft_X7_closes : GoodIn wsX7_readsDraft wsX7_closes := (goodIn_c1 ggX7_readsDraft_X7_closes_c0 (goodIn_app (goodIn_app ggX7_readsDraft_X7_closes_c1 ggX7_readsDraft_X7_closes_c2) ggX7_readsDraft_X7_closes_c3))
set_option maxRecDepth 20000 in
theorem gX7_readsDraft_X7_closes : GoodIn wsX7_readsDraft (wsV RX7 170 RX7 yX7_closes wsX7_closes) := goodIn_app (goodIn_of _ (by decide +kernel)) ggX7_readsDraft_X7_closes
set_option maxRecDepth 20000 in
theorem ggX7_readsDraft_X7_isIn : GoodIn wsX7_readsDraft wsX7_isIn := goodIn_r _ [48] (by decide +kernel) (by decide +kernel)
set_option maxRecDepth 20000 in
theorem gX7_readsDraft_X7_isIn : GoodIn wsX7_readsDraft (va_wsS RX7 129 yX7_isIn wsX7_isIn) := goodIn_app (goodIn_of _ (by decide +kernel)) ggX7_readsDraft_X7_isIn
set_option maxRecDepth 20000 in
theorem ggX7_readsDraft_X7_readsPosting_c0 : GoodIn wsX7_readsDraft ([.code yX7_readsPosting cX7_readsPosting 5 none]) := goodIn_r _ [52] (by decide +kernel) (by decide +kernel)
set_option maxRecDepth 20000 in
theorem ggX7_readsDraft_X7_readsPosting_c1 : GoodIn wsX7_readsDraft (wsX7_readsPosting_r1) := goodIn_r _ [6, 7, 53, 1, 54, 55, 9, 13, 4, 15, 46, 47, 19, 48, 30, 31, 32, 33, 2, 21, 22, 25, 3, 23] (by decide +kernel) (by decide +kernel)
set_option maxRecDepth 20000 in
theorem ggX7_readsDraft_X7_readsPosting_c2 : GoodIn wsX7_readsDraft (wsX7_readsPosting_r2) := goodIn_r _ [26, 27, 28, 29, 11, 5, 34, 35, 36, 37, 14, 42, 43, 44, 45] (by decide +kernel) (by decide +kernel)
set_option maxRecDepth 20000 in
theorem ggX7_readsDraft_X7_readsPosting_c3 : GoodIn wsX7_readsDraft (wsX70) := goodIn_r _ [56, 57, 58, 59, 60, 61, 62, 63, 64, 65, 66, 67, 68, 69, 70, 71, 72, 73, 74, 75, 76, 77, 78, 79, 80, 81, 82, 83, 84, 85, 86, 87, 88, 89, 90, 91, 92, 93, 94, 95, 96, 97, 98, 99, 100, 101, 102] (by decide +kernel) (by decide +kernel)
set_option maxRecDepth 20000 in
theorem ggX7_readsDraft_X7_readsPosting : GoodIn wsX7_readsDraft wsX7_readsPosting := (goodIn_c1 ggX7_readsDraft_X7_readsPosting_c0 (goodIn_app (goodIn_app ggX7_readsDraft_X7_readsPosting_c1 ggX7_readsDraft_X7_readsPosting_c2) ggX7_readsDraft_X7_readsPosting_c3))
set_option maxRecDepth 20000 in
theorem gX7_readsDraft_X7_readsPosting : GoodIn wsX7_readsDraft (wsV RX7 173 RX7 yX7_readsPosting wsX7_readsPosting) := goodIn_app (goodIn_of _ (by decide +kernel)) ggX7_readsDraft_X7_readsPosting
theorem dX7_readsDraft_0 : decode cX7_readsDraft 0 = .ok (.aload_n 0, 1) := by decide +kernel
theorem dX7_readsDraft_1 : decode cX7_readsDraft 1 = .ok (.iconst 0, 1) := by decide +kernel
theorem dX7_readsDraft_2 : decode cX7_readsDraft 2 = .ok (.putfield 167, 3) := by decide +kernel
theorem dX7_readsDraft_5 : decode cX7_readsDraft 5 = .ok (.aload_n 0, 1) := by decide +kernel
theorem dX7_readsDraft_6 : decode cX7_readsDraft 6 = .ok (.iconst 0, 1) := by decide +kernel
theorem dX7_readsDraft_7 : decode cX7_readsDraft 7 = .ok (.putfield 147, 3) := by decide +kernel
theorem dX7_readsDraft_10 : decode cX7_readsDraft 10 = .ok (.aload_n 0, 1) := by decide +kernel
theorem dX7_readsDraft_11 : decode cX7_readsDraft 11 = .ok (.iconst 0, 1) := by decide +kernel
theorem dX7_readsDraft_12 : decode cX7_readsDraft 12 = .ok (.putfield 150, 3) := by decide +kernel
theorem dX7_readsDraft_15 : decode cX7_readsDraft 15 = .ok (.aload_n 0, 1) := by decide +kernel
theorem dX7_readsDraft_16 : decode cX7_readsDraft 16 = .ok (.iconst 0, 1) := by decide +kernel
theorem dX7_readsDraft_17 : decode cX7_readsDraft 17 = .ok (.putfield 140, 3) := by decide +kernel
theorem dX7_readsDraft_20 : decode cX7_readsDraft 20 = .ok (.iconst 0, 1) := by decide +kernel
theorem dX7_readsDraft_21 : decode cX7_readsDraft 21 = .ok (.istore_n 1, 1) := by decide +kernel
theorem dX7_readsDraft_22 : decode cX7_readsDraft 22 = .ok (.aload_n 0, 1) := by decide +kernel
theorem dX7_readsDraft_23 : decode cX7_readsDraft 23 = .ok (.getfield 110, 3) := by decide +kernel
theorem dX7_readsDraft_26 : decode cX7_readsDraft 26 = .ok (.iconst 0, 1) := by decide +kernel
theorem dX7_readsDraft_27 : decode cX7_readsDraft 27 = .ok (.iconst 0, 1) := by decide +kernel
theorem dX7_readsDraft_28 : decode cX7_readsDraft 28 = .ok (.iastore, 1) := by decide +kernel
theorem dX7_readsDraft_29 : decode cX7_readsDraft 29 = .ok (.iconst 0, 1) := by decide +kernel
theorem dX7_readsDraft_30 : decode cX7_readsDraft 30 = .ok (.istore_n 2, 1) := by decide +kernel
theorem dX7_readsDraft_31 : decode cX7_readsDraft 31 = .ok (.iload_n 2, 1) := by decide +kernel
theorem dX7_readsDraft_32 : decode cX7_readsDraft 32 = .ok (.aload_n 0, 1) := by decide +kernel
theorem dX7_readsDraft_33 : decode cX7_readsDraft 33 = .ok (.getfield 133, 3) := by decide +kernel
theorem dX7_readsDraft_36 : decode cX7_readsDraft 36 = .ok (.if_icmp .ge 156, 3) := by decide +kernel
theorem dX7_readsDraft_39 : decode cX7_readsDraft 39 = .ok (.aload_n 0, 1) := by decide +kernel
theorem dX7_readsDraft_40 : decode cX7_readsDraft 40 = .ok (.getfield 7, 3) := by decide +kernel
theorem dX7_readsDraft_43 : decode cX7_readsDraft 43 = .ok (.iload_n 2, 1) := by decide +kernel
theorem dX7_readsDraft_44 : decode cX7_readsDraft 44 = .ok (.iaload, 1) := by decide +kernel
theorem dX7_readsDraft_45 : decode cX7_readsDraft 45 = .ok (.istore_n 3, 1) := by decide +kernel
theorem dX7_readsDraft_46 : decode cX7_readsDraft 46 = .ok (.iload_n 3, 1) := by decide +kernel
theorem dX7_readsDraft_47 : decode cX7_readsDraft 47 = .ok (.bipush 40, 2) := by decide +kernel
theorem dX7_readsDraft_49 : decode cX7_readsDraft 49 = .ok (.if_icmp .ne 26, 3) := by decide +kernel
theorem dX7_readsDraft_52 : decode cX7_readsDraft 52 = .ok (.iinc 1 1, 3) := by decide +kernel
theorem dX7_readsDraft_55 : decode cX7_readsDraft 55 = .ok (.aload_n 0, 1) := by decide +kernel
theorem dX7_readsDraft_56 : decode cX7_readsDraft 56 = .ok (.getfield 110, 3) := by decide +kernel
theorem dX7_readsDraft_59 : decode cX7_readsDraft 59 = .ok (.iload_n 1, 1) := by decide +kernel
theorem dX7_readsDraft_60 : decode cX7_readsDraft 60 = .ok (.iconst 0, 1) := by decide +kernel
theorem dX7_readsDraft_61 : decode cX7_readsDraft 61 = .ok (.iastore, 1) := by decide +kernel
theorem dX7_readsDraft_62 : decode cX7_readsDraft 62 = .ok (.aload_n 0, 1) := by decide +kernel
theorem dX7_readsDraft_63 : decode cX7_readsDraft 63 = .ok (.getfield 116, 3) := by decide +kernel
theorem dX7_readsDraft_66 : decode cX7_readsDraft 66 = .ok (.iload_n 1, 1) := by decide +kernel
theorem dX7_readsDraft_67 : decode cX7_readsDraft 67 = .ok (.aload_n 0, 1) := by decide +kernel
theorem dX7_readsDraft_68 : decode cX7_readsDraft 68 = .ok (.getfield 167, 3) := by decide +kernel
theorem dX7_readsDraft_71 : decode cX7_readsDraft 71 = .ok (.iastore, 1) := by decide +kernel
theorem dX7_readsDraft_72 : decode cX7_readsDraft 72 = .ok (.goto 114, 3) := by decide +kernel
theorem dX7_readsDraft_75 : decode cX7_readsDraft 75 = .ok (.iload_n 3, 1) := by decide +kernel
theorem dX7_readsDraft_76 : decode cX7_readsDraft 76 = .ok (.bipush 41, 2) := by decide +kernel
theorem dX7_readsDraft_78 : decode cX7_readsDraft 78 = .ok (.if_icmp .ne 91, 3) := by decide +kernel
theorem dX7_readsDraft_81 : decode cX7_readsDraft 81 = .ok (.iload_n 2, 1) := by decide +kernel
theorem dX7_readsDraft_82 : decode cX7_readsDraft 82 = .ok (.iconst 1, 1) := by decide +kernel
theorem dX7_readsDraft_83 : decode cX7_readsDraft 83 = .ok (.iadd, 1) := by decide +kernel
theorem dX7_readsDraft_84 : decode cX7_readsDraft 84 = .ok (.aload_n 0, 1) := by decide +kernel
theorem dX7_readsDraft_85 : decode cX7_readsDraft 85 = .ok (.getfield 133, 3) := by decide +kernel
theorem dX7_readsDraft_88 : decode cX7_readsDraft 88 = .ok (.if_icmp .ge 30, 3) := by decide +kernel
theorem dX7_readsDraft_91 : decode cX7_readsDraft 91 = .ok (.aload_n 0, 1) := by decide +kernel
theorem dX7_readsDraft_92 : decode cX7_readsDraft 92 = .ok (.getfield 7, 3) := by decide +kernel
theorem dX7_readsDraft_95 : decode cX7_readsDraft 95 = .ok (.iload_n 2, 1) := by decide +kernel
theorem dX7_readsDraft_96 : decode cX7_readsDraft 96 = .ok (.iconst 1, 1) := by decide +kernel
theorem dX7_readsDraft_97 : decode cX7_readsDraft 97 = .ok (.iadd, 1) := by decide +kernel
theorem dX7_readsDraft_98 : decode cX7_readsDraft 98 = .ok (.iaload, 1) := by decide +kernel
theorem dX7_readsDraft_99 : decode cX7_readsDraft 99 = .ok (.bipush 120, 2) := by decide +kernel
theorem dX7_readsDraft_101 : decode cX7_readsDraft 101 = .ok (.if_icmp .ne 17, 3) := by decide +kernel
theorem dX7_readsDraft_104 : decode cX7_readsDraft 104 = .ok (.aload_n 0, 1) := by decide +kernel
theorem dX7_readsDraft_105 : decode cX7_readsDraft 105 = .ok (.getfield 7, 3) := by decide +kernel
theorem dX7_readsDraft_108 : decode cX7_readsDraft 108 = .ok (.iload_n 2, 1) := by decide +kernel
theorem dX7_readsDraft_109 : decode cX7_readsDraft 109 = .ok (.iconst 2, 1) := by decide +kernel
theorem dX7_readsDraft_110 : decode cX7_readsDraft 110 = .ok (.iadd, 1) := by decide +kernel
theorem dX7_readsDraft_111 : decode cX7_readsDraft 111 = .ok (.iaload, 1) := by decide +kernel
