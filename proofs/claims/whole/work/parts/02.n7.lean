theorem dX7_rule_123 : decode cX7_rule 123 = .ok (.getfield 53, 3) := by decide +kernel
theorem dX7_rule_126 : decode cX7_rule 126 = .ok (.aload_n 0, 1) := by decide +kernel
theorem dX7_rule_127 : decode cX7_rule 127 = .ok (.getfield 215, 3) := by decide +kernel
theorem dX7_rule_130 : decode cX7_rule 130 = .ok (.iload_n 3, 1) := by decide +kernel
theorem dX7_rule_131 : decode cX7_rule 131 = .ok (.iastore, 1) := by decide +kernel
theorem dX7_rule_132 : decode cX7_rule 132 = .ok (.aload_n 0, 1) := by decide +kernel
theorem dX7_rule_133 : decode cX7_rule 133 = .ok (.getfield 56, 3) := by decide +kernel
theorem dX7_rule_136 : decode cX7_rule 136 = .ok (.aload_n 0, 1) := by decide +kernel
theorem dX7_rule_137 : decode cX7_rule 137 = .ok (.getfield 215, 3) := by decide +kernel
theorem dX7_rule_140 : decode cX7_rule 140 = .ok (.iload 4, 2) := by decide +kernel
theorem dX7_rule_142 : decode cX7_rule 142 = .ok (.iastore, 1) := by decide +kernel
theorem dX7_rule_143 : decode cX7_rule 143 = .ok (.aload_n 0, 1) := by decide +kernel
theorem dX7_rule_144 : decode cX7_rule 144 = .ok (.getfield 59, 3) := by decide +kernel
theorem dX7_rule_147 : decode cX7_rule 147 = .ok (.aload_n 0, 1) := by decide +kernel
theorem dX7_rule_148 : decode cX7_rule 148 = .ok (.getfield 215, 3) := by decide +kernel
theorem dX7_rule_151 : decode cX7_rule 151 = .ok (.iconst 0, 1) := by decide +kernel
theorem dX7_rule_152 : decode cX7_rule 152 = .ok (.bastore, 1) := by decide +kernel
theorem dX7_rule_153 : decode cX7_rule 153 = .ok (.aload_n 0, 1) := by decide +kernel
theorem dX7_rule_154 : decode cX7_rule 154 = .ok (.dup, 1) := by decide +kernel
theorem dX7_rule_155 : decode cX7_rule 155 = .ok (.getfield 215, 3) := by decide +kernel
theorem dX7_rule_158 : decode cX7_rule 158 = .ok (.iconst 1, 1) := by decide +kernel
theorem dX7_rule_159 : decode cX7_rule 159 = .ok (.iadd, 1) := by decide +kernel
theorem dX7_rule_160 : decode cX7_rule 160 = .ok (.putfield 215, 3) := by decide +kernel
theorem dX7_rule_163 : decode cX7_rule 163 = .ok (.aload_n 0, 1) := by decide +kernel
theorem dX7_rule_164 : decode cX7_rule 164 = .ok (.getfield 215, 3) := by decide +kernel
theorem dX7_rule_167 : decode cX7_rule 167 = .ok (.iconst 1, 1) := by decide +kernel
theorem dX7_rule_168 : decode cX7_rule 168 = .ok (.isub, 1) := by decide +kernel
theorem dX7_rule_169 : decode cX7_rule 169 = .ok (.ireturn, 1) := by decide +kernel
set_option maxRecDepth 20000 in
theorem ggX7_isRule_X7_isIn : GoodIn wsX7_isRule wsX7_isIn := goodIn_r _ [5] (by decide +kernel) (by decide +kernel)
set_option maxRecDepth 20000 in
theorem gX7_isRule_X7_isIn : GoodIn wsX7_isRule (va_wsS RX7 129 yX7_isIn wsX7_isIn) := goodIn_app (goodIn_of _ (by decide +kernel)) ggX7_isRule_X7_isIn
theorem dX7_isRule_0 : decode cX7_isRule 0 = .ok (.iload_n 1, 1) := by decide +kernel
theorem dX7_isRule_1 : decode cX7_isRule 1 = .ok (.iconst 0, 1) := by decide +kernel
theorem dX7_isRule_2 : decode cX7_isRule 2 = .ok (.aload_n 0, 1) := by decide +kernel
theorem dX7_isRule_3 : decode cX7_isRule 3 = .ok (.getfield 215, 3) := by decide +kernel
theorem dX7_isRule_6 : decode cX7_isRule 6 = .ok (.iconst 1, 1) := by decide +kernel
theorem dX7_isRule_7 : decode cX7_isRule 7 = .ok (.isub, 1) := by decide +kernel
theorem dX7_isRule_8 : decode cX7_isRule 8 = .ok (.invokestatic 129, 3) := by decide +kernel
theorem dX7_isRule_11 : decode cX7_isRule 11 = .ok (.ireturn, 1) := by decide +kernel
theorem dX7_amountOf_0 : decode cX7_amountOf 0 = .ok (.aload_n 0, 1) := by decide +kernel
theorem dX7_amountOf_1 : decode cX7_amountOf 1 = .ok (.getfield 35, 3) := by decide +kernel
theorem dX7_amountOf_4 : decode cX7_amountOf 4 = .ok (.iload_n 1, 1) := by decide +kernel
theorem dX7_amountOf_5 : decode cX7_amountOf 5 = .ok (.baload, 1) := by decide +kernel
theorem dX7_amountOf_6 : decode cX7_amountOf 6 = .ok (.ifCond .eq 13, 3) := by decide +kernel
theorem dX7_amountOf_9 : decode cX7_amountOf 9 = .ok (.aload_n 0, 1) := by decide +kernel
theorem dX7_amountOf_10 : decode cX7_amountOf 10 = .ok (.getfield 38, 3) := by decide +kernel
theorem dX7_amountOf_13 : decode cX7_amountOf 13 = .ok (.iload_n 1, 1) := by decide +kernel
theorem dX7_amountOf_14 : decode cX7_amountOf 14 = .ok (.iaload, 1) := by decide +kernel
theorem dX7_amountOf_15 : decode cX7_amountOf 15 = .ok (.ineg, 1) := by decide +kernel
theorem dX7_amountOf_16 : decode cX7_amountOf 16 = .ok (.goto 9, 3) := by decide +kernel
theorem dX7_amountOf_19 : decode cX7_amountOf 19 = .ok (.aload_n 0, 1) := by decide +kernel
theorem dX7_amountOf_20 : decode cX7_amountOf 20 = .ok (.getfield 38, 3) := by decide +kernel
theorem dX7_amountOf_23 : decode cX7_amountOf 23 = .ok (.iload_n 1, 1) := by decide +kernel
theorem dX7_amountOf_24 : decode cX7_amountOf 24 = .ok (.iaload, 1) := by decide +kernel
theorem dX7_amountOf_25 : decode cX7_amountOf 25 = .ok (.aload_n 0, 1) := by decide +kernel
theorem dX7_amountOf_26 : decode cX7_amountOf 26 = .ok (.getfield 41, 3) := by decide +kernel
theorem dX7_amountOf_29 : decode cX7_amountOf 29 = .ok (.iload_n 1, 1) := by decide +kernel
theorem dX7_amountOf_30 : decode cX7_amountOf 30 = .ok (.iaload, 1) := by decide +kernel
theorem dX7_amountOf_31 : decode cX7_amountOf 31 = .ok (.imul, 1) := by decide +kernel
theorem dX7_amountOf_32 : decode cX7_amountOf 32 = .ok (.ireturn, 1) := by decide +kernel
set_option maxRecDepth 20000 in
theorem ggX7_got_X7_amountOf_c0 : GoodIn wsX7_got ([.code yX7_amountOf cX7_amountOf 2 (some .int)]) := goodIn_r _ [7] (by decide +kernel) (by decide +kernel)
set_option maxRecDepth 20000 in
theorem ggX7_got_X7_amountOf_c1 : GoodIn wsX7_got ([.fieldLink RX7 35 "PostlintModel" "isLess" "[Z", .fieldLink RX7 38 "PostlintModel" "amount" "[I", .fieldLink RX7 41 "PostlintModel" "times" "[I"]) := goodIn_r _ [8, 9, 10] (by decide +kernel) (by decide +kernel)
set_option maxRecDepth 20000 in
theorem ggX7_got_X7_amountOf_c2 : GoodIn wsX7_got (wsX70) := goodIn_r _ [11, 12, 13, 14, 15, 16, 17, 18, 19, 20, 21, 22, 23, 24, 25, 26, 27, 28, 29, 30, 31, 32, 33, 34, 35, 36, 37, 38, 39, 40, 41, 42, 43, 44, 45, 46, 47, 48, 49, 50, 51, 52, 53, 54, 55, 56, 57] (by decide +kernel) (by decide +kernel)
set_option maxRecDepth 20000 in
theorem ggX7_got_X7_amountOf : GoodIn wsX7_got wsX7_amountOf := (goodIn_c1 ggX7_got_X7_amountOf_c0 (goodIn_app ggX7_got_X7_amountOf_c1 ggX7_got_X7_amountOf_c2))
set_option maxRecDepth 20000 in
theorem gX7_got_X7_amountOf : GoodIn wsX7_got (wsV RX7 218 RX7 yX7_amountOf wsX7_amountOf) := goodIn_app (goodIn_of _ (by decide +kernel)) ggX7_got_X7_amountOf
theorem dX7_got_0 : decode cX7_got 0 = .ok (.iconst 0, 1) := by decide +kernel
theorem dX7_got_1 : decode cX7_got 1 = .ok (.istore_n 3, 1) := by decide +kernel
theorem dX7_got_2 : decode cX7_got 2 = .ok (.bipush 16, 2) := by decide +kernel
theorem dX7_got_4 : decode cX7_got 4 = .ok (.iload_n 1, 1) := by decide +kernel
theorem dX7_got_5 : decode cX7_got 5 = .ok (.imul, 1) := by decide +kernel
theorem dX7_got_6 : decode cX7_got 6 = .ok (.istore 4, 2) := by decide +kernel
theorem dX7_got_8 : decode cX7_got 8 = .ok (.iload 4, 2) := by decide +kernel
theorem dX7_got_10 : decode cX7_got 10 = .ok (.bipush 16, 2) := by decide +kernel
theorem dX7_got_12 : decode cX7_got 12 = .ok (.iload_n 1, 1) := by decide +kernel
theorem dX7_got_13 : decode cX7_got 13 = .ok (.imul, 1) := by decide +kernel
theorem dX7_got_14 : decode cX7_got 14 = .ok (.aload_n 0, 1) := by decide +kernel
theorem dX7_got_15 : decode cX7_got 15 = .ok (.getfield 29, 3) := by decide +kernel
theorem dX7_got_18 : decode cX7_got 18 = .ok (.iload_n 1, 1) := by decide +kernel
theorem dX7_got_19 : decode cX7_got 19 = .ok (.iaload, 1) := by decide +kernel
theorem dX7_got_20 : decode cX7_got 20 = .ok (.iadd, 1) := by decide +kernel
theorem dX7_got_21 : decode cX7_got 21 = .ok (.if_icmp .ge 33, 3) := by decide +kernel
theorem dX7_got_24 : decode cX7_got 24 = .ok (.iload_n 3, 1) := by decide +kernel
theorem dX7_got_25 : decode cX7_got 25 = .ok (.aload_n 0, 1) := by decide +kernel
theorem dX7_got_26 : decode cX7_got 26 = .ok (.getfield 32, 3) := by decide +kernel
theorem dX7_got_29 : decode cX7_got 29 = .ok (.iload 4, 2) := by decide +kernel
theorem dX7_got_31 : decode cX7_got 31 = .ok (.iaload, 1) := by decide +kernel
theorem dX7_got_32 : decode cX7_got 32 = .ok (.iload_n 2, 1) := by decide +kernel
theorem dX7_got_33 : decode cX7_got 33 = .ok (.if_icmp .ne 12, 3) := by decide +kernel
theorem dX7_got_36 : decode cX7_got 36 = .ok (.aload_n 0, 1) := by decide +kernel
theorem dX7_got_37 : decode cX7_got 37 = .ok (.iload 4, 2) := by decide +kernel
theorem dX7_got_39 : decode cX7_got 39 = .ok (.invokevirtual 218, 3) := by decide +kernel
theorem dX7_got_42 : decode cX7_got 42 = .ok (.goto 4, 3) := by decide +kernel
theorem dX7_got_45 : decode cX7_got 45 = .ok (.iconst 0, 1) := by decide +kernel
theorem dX7_got_46 : decode cX7_got 46 = .ok (.iadd, 1) := by decide +kernel
theorem dX7_got_47 : decode cX7_got 47 = .ok (.istore_n 3, 1) := by decide +kernel
theorem dX7_got_48 : decode cX7_got 48 = .ok (.iinc 4 1, 3) := by decide +kernel
theorem dX7_got_51 : decode cX7_got 51 = .ok (.goto (-43), 3) := by decide +kernel
theorem dX7_got_54 : decode cX7_got 54 = .ok (.iload_n 3, 1) := by decide +kernel
theorem dX7_got_55 : decode cX7_got 55 = .ok (.ireturn, 1) := by decide +kernel
theorem dX7_has_0 : decode cX7_has 0 = .ok (.iconst 0, 1) := by decide +kernel
theorem dX7_has_1 : decode cX7_has 1 = .ok (.istore_n 3, 1) := by decide +kernel
theorem dX7_has_2 : decode cX7_has 2 = .ok (.bipush 16, 2) := by decide +kernel
theorem dX7_has_4 : decode cX7_has 4 = .ok (.iload_n 1, 1) := by decide +kernel
theorem dX7_has_5 : decode cX7_has 5 = .ok (.imul, 1) := by decide +kernel
theorem dX7_has_6 : decode cX7_has 6 = .ok (.istore 4, 2) := by decide +kernel
theorem dX7_has_8 : decode cX7_has 8 = .ok (.iload 4, 2) := by decide +kernel
theorem dX7_has_10 : decode cX7_has 10 = .ok (.bipush 16, 2) := by decide +kernel
theorem dX7_has_12 : decode cX7_has 12 = .ok (.iload_n 1, 1) := by decide +kernel
theorem dX7_has_13 : decode cX7_has 13 = .ok (.imul, 1) := by decide +kernel
theorem dX7_has_14 : decode cX7_has 14 = .ok (.aload_n 0, 1) := by decide +kernel
theorem dX7_has_15 : decode cX7_has 15 = .ok (.getfield 29, 3) := by decide +kernel
theorem dX7_has_18 : decode cX7_has 18 = .ok (.iload_n 1, 1) := by decide +kernel
theorem dX7_has_19 : decode cX7_has 19 = .ok (.iaload, 1) := by decide +kernel
theorem dX7_has_20 : decode cX7_has 20 = .ok (.iadd, 1) := by decide +kernel
theorem dX7_has_21 : decode cX7_has 21 = .ok (.if_icmp .ge 30, 3) := by decide +kernel
theorem dX7_has_24 : decode cX7_has 24 = .ok (.iload_n 3, 1) := by decide +kernel
theorem dX7_has_25 : decode cX7_has 25 = .ok (.ifCond .ne 14, 3) := by decide +kernel
theorem dX7_has_28 : decode cX7_has 28 = .ok (.aload_n 0, 1) := by decide +kernel
theorem dX7_has_29 : decode cX7_has 29 = .ok (.getfield 32, 3) := by decide +kernel
theorem dX7_has_32 : decode cX7_has 32 = .ok (.iload 4, 2) := by decide +kernel
theorem dX7_has_34 : decode cX7_has 34 = .ok (.iaload, 1) := by decide +kernel
theorem dX7_has_35 : decode cX7_has 35 = .ok (.iload_n 2, 1) := by decide +kernel
theorem dX7_has_36 : decode cX7_has 36 = .ok (.if_icmp .ne 7, 3) := by decide +kernel
theorem dX7_has_39 : decode cX7_has 39 = .ok (.iconst 1, 1) := by decide +kernel
theorem dX7_has_40 : decode cX7_has 40 = .ok (.goto 4, 3) := by decide +kernel
theorem dX7_has_43 : decode cX7_has 43 = .ok (.iconst 0, 1) := by decide +kernel
theorem dX7_has_44 : decode cX7_has 44 = .ok (.istore_n 3, 1) := by decide +kernel
theorem dX7_has_45 : decode cX7_has 45 = .ok (.iinc 4 1, 3) := by decide +kernel
theorem dX7_has_48 : decode cX7_has 48 = .ok (.goto (-40), 3) := by decide +kernel
theorem dX7_has_51 : decode cX7_has 51 = .ok (.iload_n 3, 1) := by decide +kernel
theorem dX7_has_52 : decode cX7_has 52 = .ok (.ireturn, 1) := by decide +kernel
set_option maxRecDepth 20000 in
theorem ggX7_upTo_X7_got_c0 : GoodIn wsX7_upTo ([.code yX7_got cX7_got 5 (some .int)]) := goodIn_r _ [5] (by decide +kernel) (by decide +kernel)
set_option maxRecDepth 20000 in
theorem ggX7_upTo_X7_got_c1 : GoodIn wsX7_upTo ([.fieldLink RX7 29 "PostlintModel" "posts" "[I", .fieldLink RX7 32 "PostlintModel" "account" "[I", .methodLink RX7 218 yX7_amountOf, .instanceMethod yX7_amountOf, .selects RX7 yX7_amountOf yX7_amountOf, .initialized RX7, .code yX7_amountOf cX7_amountOf 2 (some .int), .fieldLink RX7 35 "PostlintModel" "isLess" "[Z", .fieldLink RX7 38 "PostlintModel" "amount" "[I", .fieldLink RX7 41 "PostlintModel" "times" "[I"]) := goodIn_r _ [6, 7, 8, 9, 10, 4, 11, 12, 13, 14] (by decide +kernel) (by decide +kernel)
set_option maxRecDepth 20000 in
theorem ggX7_upTo_X7_got_c2 : GoodIn wsX7_upTo (wsX70) := goodIn_r _ [15, 16, 17, 18, 19, 20, 21, 22, 23, 24, 25, 26, 27, 28, 29, 30, 31, 32, 33, 34, 35, 36, 37, 38, 39, 40, 41, 42, 43, 44, 45, 46, 47, 48, 49, 50, 51, 52, 53, 54, 55, 56, 57, 58, 59, 60, 61] (by decide +kernel) (by decide +kernel)
set_option maxRecDepth 20000 in
theorem ggX7_upTo_X7_got : GoodIn wsX7_upTo wsX7_got := (goodIn_c1 ggX7_upTo_X7_got_c0 (goodIn_app ggX7_upTo_X7_got_c1 ggX7_upTo_X7_got_c2))
set_option maxRecDepth 20000 in
theorem gX7_upTo_X7_got : GoodIn wsX7_upTo (wsV RX7 222 RX7 yX7_got wsX7_got) := goodIn_app (goodIn_of _ (by decide +kernel)) ggX7_upTo_X7_got
theorem dX7_upTo_0 : decode cX7_upTo 0 = .ok (.iconst 0, 1) := by decide +kernel
theorem dX7_upTo_1 : decode cX7_upTo 1 = .ok (.istore_n 3, 1) := by decide +kernel
theorem dX7_upTo_2 : decode cX7_upTo 2 = .ok (.iconst 0, 1) := by decide +kernel
theorem dX7_upTo_3 : decode cX7_upTo 3 = .ok (.istore 4, 2) := by decide +kernel
theorem dX7_upTo_5 : decode cX7_upTo 5 = .ok (.iload 4, 2) := by decide +kernel
theorem dX7_upTo_7 : decode cX7_upTo 7 = .ok (.iload_n 1, 1) := by decide +kernel
theorem dX7_upTo_8 : decode cX7_upTo 8 = .ok (.if_icmp .gt 19, 3) := by decide +kernel
theorem dX7_upTo_11 : decode cX7_upTo 11 = .ok (.iload_n 3, 1) := by decide +kernel
theorem dX7_upTo_12 : decode cX7_upTo 12 = .ok (.aload_n 0, 1) := by decide +kernel
theorem dX7_upTo_13 : decode cX7_upTo 13 = .ok (.iload 4, 2) := by decide +kernel
theorem dX7_upTo_15 : decode cX7_upTo 15 = .ok (.iload_n 2, 1) := by decide +kernel
theorem dX7_upTo_16 : decode cX7_upTo 16 = .ok (.invokevirtual 222, 3) := by decide +kernel
theorem dX7_upTo_19 : decode cX7_upTo 19 = .ok (.iadd, 1) := by decide +kernel
theorem dX7_upTo_20 : decode cX7_upTo 20 = .ok (.istore_n 3, 1) := by decide +kernel
theorem dX7_upTo_21 : decode cX7_upTo 21 = .ok (.iinc 4 1, 3) := by decide +kernel
theorem dX7_upTo_24 : decode cX7_upTo 24 = .ok (.goto (-19), 3) := by decide +kernel
theorem dX7_upTo_27 : decode cX7_upTo 27 = .ok (.iload_n 3, 1) := by decide +kernel
theorem dX7_upTo_28 : decode cX7_upTo 28 = .ok (.ireturn, 1) := by decide +kernel
set_option maxRecDepth 20000 in
theorem ggX7_isDoubted_X7_upTo_c0 : GoodIn wsX7_isDoubted ([.code yX7_upTo cX7_upTo 5 (some .int)]) := goodIn_r _ [11] (by decide +kernel) (by decide +kernel)
set_option maxRecDepth 20000 in
theorem ggX7_isDoubted_X7_upTo_c1 : GoodIn wsX7_isDoubted ([.methodLink RX7 222 yX7_got, .instanceMethod yX7_got, .selects RX7 yX7_got yX7_got, .initialized RX7, .code yX7_got cX7_got 5 (some .int), .fieldLink RX7 29 "PostlintModel" "posts" "[I", .fieldLink RX7 32 "PostlintModel" "account" "[I", .methodLink RX7 218 yX7_amountOf, .instanceMethod yX7_amountOf, .selects RX7 yX7_amountOf yX7_amountOf, .code yX7_amountOf cX7_amountOf 2 (some .int), .fieldLink RX7 35 "PostlintModel" "isLess" "[Z", .fieldLink RX7 38 "PostlintModel" "amount" "[I", .fieldLink RX7 41 "PostlintModel" "times" "[I"]) := goodIn_r _ [12, 13, 14, 10, 15, 16, 17, 18, 19, 20, 21, 22, 23, 24] (by decide +kernel) (by decide +kernel)
set_option maxRecDepth 20000 in
theorem ggX7_isDoubted_X7_upTo_c2 : GoodIn wsX7_isDoubted (wsX70) := goodIn_r _ [29, 30, 31, 32, 33, 34, 35, 36, 37, 38, 39, 40, 41, 42, 43, 44, 45, 46, 47, 48, 49, 50, 51, 52, 53, 54, 55, 56, 57, 58, 59, 60, 61, 62, 63, 64, 65, 66, 67, 68, 69, 70, 71, 72, 73, 74, 75] (by decide +kernel) (by decide +kernel)
set_option maxRecDepth 20000 in
theorem ggX7_isDoubted_X7_upTo : GoodIn wsX7_isDoubted wsX7_upTo := (goodIn_c1 ggX7_isDoubted_X7_upTo_c0 (goodIn_app ggX7_isDoubted_X7_upTo_c1 ggX7_isDoubted_X7_upTo_c2))
set_option maxRecDepth 20000 in
theorem gX7_isDoubted_X7_upTo : GoodIn wsX7_isDoubted (wsV RX7 226 RX7 yX7_upTo wsX7_upTo) := goodIn_app (goodIn_of _ (by decide +kernel)) ggX7_isDoubted_X7_upTo
set_option maxRecDepth 20000 in
theorem ggX7_isDoubted_X7_has_c0 : GoodIn wsX7_isDoubted ([.code yX7_has cX7_has 5 (some .boolean)]) := goodIn_r _ [28] (by decide +kernel) (by decide +kernel)
set_option maxRecDepth 20000 in
theorem ggX7_isDoubted_X7_has_c1 : GoodIn wsX7_isDoubted ([.fieldLink RX7 29 "PostlintModel" "posts" "[I", .fieldLink RX7 32 "PostlintModel" "account" "[I"]) := goodIn_r _ [16, 17] (by decide +kernel) (by decide +kernel)
set_option maxRecDepth 20000 in
theorem ggX7_isDoubted_X7_has_c2 : GoodIn wsX7_isDoubted (wsX70) := goodIn_r _ [29, 30, 31, 32, 33, 34, 35, 36, 37, 38, 39, 40, 41, 42, 43, 44, 45, 46, 47, 48, 49, 50, 51, 52, 53, 54, 55, 56, 57, 58, 59, 60, 61, 62, 63, 64, 65, 66, 67, 68, 69, 70, 71, 72, 73, 74, 75] (by decide +kernel) (by decide +kernel)
set_option maxRecDepth 20000 in
theorem ggX7_isDoubted_X7_has : GoodIn wsX7_isDoubted wsX7_has := (goodIn_c1 ggX7_isDoubted_X7_has_c0 (goodIn_app ggX7_isDoubted_X7_has_c1 ggX7_isDoubted_X7_has_c2))
set_option maxRecDepth 20000 in
theorem gX7_isDoubted_X7_has : GoodIn wsX7_isDoubted (wsV RX7 229 RX7 yX7_has wsX7_has) := goodIn_app (goodIn_of _ (by decide +kernel)) ggX7_isDoubted_X7_has
set_option maxRecDepth 20000 in
theorem ggX7_isDoubted_X7_got_c0 : GoodIn wsX7_isDoubted ([.code yX7_got cX7_got 5 (some .int)]) := goodIn_r _ [15] (by decide +kernel) (by decide +kernel)
set_option maxRecDepth 20000 in
theorem ggX7_isDoubted_X7_got_c1 : GoodIn wsX7_isDoubted ([.fieldLink RX7 29 "PostlintModel" "posts" "[I", .fieldLink RX7 32 "PostlintModel" "account" "[I", .methodLink RX7 218 yX7_amountOf, .instanceMethod yX7_amountOf, .selects RX7 yX7_amountOf yX7_amountOf, .initialized RX7, .code yX7_amountOf cX7_amountOf 2 (some .int), .fieldLink RX7 35 "PostlintModel" "isLess" "[Z", .fieldLink RX7 38 "PostlintModel" "amount" "[I", .fieldLink RX7 41 "PostlintModel" "times" "[I"]) := goodIn_r _ [16, 17, 18, 19, 20, 10, 21, 22, 23, 24] (by decide +kernel) (by decide +kernel)
set_option maxRecDepth 20000 in
theorem ggX7_isDoubted_X7_got_c2 : GoodIn wsX7_isDoubted (wsX70) := goodIn_r _ [29, 30, 31, 32, 33, 34, 35, 36, 37, 38, 39, 40, 41, 42, 43, 44, 45, 46, 47, 48, 49, 50, 51, 52, 53, 54, 55, 56, 57, 58, 59, 60, 61, 62, 63, 64, 65, 66, 67, 68, 69, 70, 71, 72, 73, 74, 75] (by decide +kernel) (by decide +kernel)
set_option maxRecDepth 20000 in
theorem ggX7_isDoubted_X7_got : GoodIn wsX7_isDoubted wsX7_got := (goodIn_c1 ggX7_isDoubted_X7_got_c0 (goodIn_app ggX7_isDoubted_X7_got_c1 ggX7_isDoubted_X7_got_c2))
set_option maxRecDepth 20000 in
theorem gX7_isDoubted_X7_got : GoodIn wsX7_isDoubted (wsV RX7 222 RX7 yX7_got wsX7_got) := goodIn_app (goodIn_of _ (by decide +kernel)) ggX7_isDoubted_X7_got
theorem dX7_isDoubted_0 : decode cX7_isDoubted 0 = .ok (.aload_n 0, 1) := by decide +kernel
theorem dX7_isDoubted_1 : decode cX7_isDoubted 1 = .ok (.getfield 59, 3) := by decide +kernel
theorem dX7_isDoubted_4 : decode cX7_isDoubted 4 = .ok (.iload_n 2, 1) := by decide +kernel
theorem dX7_isDoubted_5 : decode cX7_isDoubted 5 = .ok (.baload, 1) := by decide +kernel
theorem dX7_isDoubted_6 : decode cX7_isDoubted 6 = .ok (.ifCond .eq 5, 3) := by decide +kernel
theorem dX7_isDoubted_9 : decode cX7_isDoubted 9 = .ok (.iconst 0, 1) := by decide +kernel
theorem dX7_isDoubted_10 : decode cX7_isDoubted 10 = .ok (.ireturn, 1) := by decide +kernel
theorem dX7_isDoubted_11 : decode cX7_isDoubted 11 = .ok (.aload_n 0, 1) := by decide +kernel
theorem dX7_isDoubted_12 : decode cX7_isDoubted 12 = .ok (.getfield 47, 3) := by decide +kernel
theorem dX7_isDoubted_15 : decode cX7_isDoubted 15 = .ok (.iload_n 2, 1) := by decide +kernel
theorem dX7_isDoubted_16 : decode cX7_isDoubted 16 = .ok (.iaload, 1) := by decide +kernel
theorem dX7_isDoubted_17 : decode cX7_isDoubted 17 = .ok (.iconst 3, 1) := by decide +kernel
theorem dX7_isDoubted_18 : decode cX7_isDoubted 18 = .ok (.if_icmp .ne 29, 3) := by decide +kernel
theorem dX7_isDoubted_21 : decode cX7_isDoubted 21 = .ok (.aload_n 0, 1) := by decide +kernel
theorem dX7_isDoubted_22 : decode cX7_isDoubted 22 = .ok (.iload_n 1, 1) := by decide +kernel
theorem dX7_isDoubted_23 : decode cX7_isDoubted 23 = .ok (.aload_n 0, 1) := by decide +kernel
theorem dX7_isDoubted_24 : decode cX7_isDoubted 24 = .ok (.getfield 50, 3) := by decide +kernel
theorem dX7_isDoubted_27 : decode cX7_isDoubted 27 = .ok (.iload_n 2, 1) := by decide +kernel
theorem dX7_isDoubted_28 : decode cX7_isDoubted 28 = .ok (.iaload, 1) := by decide +kernel
theorem dX7_isDoubted_29 : decode cX7_isDoubted 29 = .ok (.invokevirtual 226, 3) := by decide +kernel
theorem dX7_isDoubted_32 : decode cX7_isDoubted 32 = .ok (.aload_n 0, 1) := by decide +kernel
theorem dX7_isDoubted_33 : decode cX7_isDoubted 33 = .ok (.getfield 56, 3) := by decide +kernel
theorem dX7_isDoubted_36 : decode cX7_isDoubted 36 = .ok (.iload_n 2, 1) := by decide +kernel
theorem dX7_isDoubted_37 : decode cX7_isDoubted 37 = .ok (.iaload, 1) := by decide +kernel
theorem dX7_isDoubted_38 : decode cX7_isDoubted 38 = .ok (.if_icmp .ge 7, 3) := by decide +kernel
theorem dX7_isDoubted_41 : decode cX7_isDoubted 41 = .ok (.iconst 1, 1) := by decide +kernel
theorem dX7_isDoubted_42 : decode cX7_isDoubted 42 = .ok (.goto 4, 3) := by decide +kernel
theorem dX7_isDoubted_45 : decode cX7_isDoubted 45 = .ok (.iconst 0, 1) := by decide +kernel
theorem dX7_isDoubted_46 : decode cX7_isDoubted 46 = .ok (.ireturn, 1) := by decide +kernel
theorem dX7_isDoubted_47 : decode cX7_isDoubted 47 = .ok (.aload_n 0, 1) := by decide +kernel
theorem dX7_isDoubted_48 : decode cX7_isDoubted 48 = .ok (.getfield 13, 3) := by decide +kernel
theorem dX7_isDoubted_51 : decode cX7_isDoubted 51 = .ok (.iload_n 1, 1) := by decide +kernel
theorem dX7_isDoubted_52 : decode cX7_isDoubted 52 = .ok (.baload, 1) := by decide +kernel
theorem dX7_isDoubted_53 : decode cX7_isDoubted 53 = .ok (.ifCond .eq 5, 3) := by decide +kernel
theorem dX7_isDoubted_56 : decode cX7_isDoubted 56 = .ok (.iconst 0, 1) := by decide +kernel
theorem dX7_isDoubted_57 : decode cX7_isDoubted 57 = .ok (.ireturn, 1) := by decide +kernel
theorem dX7_isDoubted_58 : decode cX7_isDoubted 58 = .ok (.aload_n 0, 1) := by decide +kernel
theorem dX7_isDoubted_59 : decode cX7_isDoubted 59 = .ok (.getfield 47, 3) := by decide +kernel
theorem dX7_isDoubted_62 : decode cX7_isDoubted 62 = .ok (.iload_n 2, 1) := by decide +kernel
theorem dX7_isDoubted_63 : decode cX7_isDoubted 63 = .ok (.iaload, 1) := by decide +kernel
theorem dX7_isDoubted_64 : decode cX7_isDoubted 64 = .ok (.iconst 2, 1) := by decide +kernel
theorem dX7_isDoubted_65 : decode cX7_isDoubted 65 = .ok (.if_icmp .ne 37, 3) := by decide +kernel
theorem dX7_isDoubted_68 : decode cX7_isDoubted 68 = .ok (.aload_n 0, 1) := by decide +kernel
theorem dX7_isDoubted_69 : decode cX7_isDoubted 69 = .ok (.iload_n 1, 1) := by decide +kernel
theorem dX7_isDoubted_70 : decode cX7_isDoubted 70 = .ok (.aload_n 0, 1) := by decide +kernel
theorem dX7_isDoubted_71 : decode cX7_isDoubted 71 = .ok (.getfield 50, 3) := by decide +kernel
theorem dX7_isDoubted_74 : decode cX7_isDoubted 74 = .ok (.iload_n 2, 1) := by decide +kernel
theorem dX7_isDoubted_75 : decode cX7_isDoubted 75 = .ok (.iaload, 1) := by decide +kernel
theorem dX7_isDoubted_76 : decode cX7_isDoubted 76 = .ok (.invokevirtual 229, 3) := by decide +kernel
theorem dX7_isDoubted_79 : decode cX7_isDoubted 79 = .ok (.ifCond .eq 21, 3) := by decide +kernel
theorem dX7_isDoubted_82 : decode cX7_isDoubted 82 = .ok (.aload_n 0, 1) := by decide +kernel
theorem dX7_isDoubted_83 : decode cX7_isDoubted 83 = .ok (.iload_n 1, 1) := by decide +kernel
theorem dX7_isDoubted_84 : decode cX7_isDoubted 84 = .ok (.aload_n 0, 1) := by decide +kernel
theorem dX7_isDoubted_85 : decode cX7_isDoubted 85 = .ok (.getfield 53, 3) := by decide +kernel
theorem dX7_isDoubted_88 : decode cX7_isDoubted 88 = .ok (.iload_n 2, 1) := by decide +kernel
theorem dX7_isDoubted_89 : decode cX7_isDoubted 89 = .ok (.iaload, 1) := by decide +kernel
theorem dX7_isDoubted_90 : decode cX7_isDoubted 90 = .ok (.invokevirtual 229, 3) := by decide +kernel
theorem dX7_isDoubted_93 : decode cX7_isDoubted 93 = .ok (.ifCond .ne 7, 3) := by decide +kernel
theorem dX7_isDoubted_96 : decode cX7_isDoubted 96 = .ok (.iconst 1, 1) := by decide +kernel
theorem dX7_isDoubted_97 : decode cX7_isDoubted 97 = .ok (.goto 4, 3) := by decide +kernel
theorem dX7_isDoubted_100 : decode cX7_isDoubted 100 = .ok (.iconst 0, 1) := by decide +kernel
theorem dX7_isDoubted_101 : decode cX7_isDoubted 101 = .ok (.ireturn, 1) := by decide +kernel
theorem dX7_isDoubted_102 : decode cX7_isDoubted 102 = .ok (.aload_n 0, 1) := by decide +kernel
theorem dX7_isDoubted_103 : decode cX7_isDoubted 103 = .ok (.getfield 47, 3) := by decide +kernel
theorem dX7_isDoubted_106 : decode cX7_isDoubted 106 = .ok (.iload_n 2, 1) := by decide +kernel
theorem dX7_isDoubted_107 : decode cX7_isDoubted 107 = .ok (.iaload, 1) := by decide +kernel
theorem dX7_isDoubted_108 : decode cX7_isDoubted 108 = .ok (.iconst 1, 1) := by decide +kernel
theorem dX7_isDoubted_109 : decode cX7_isDoubted 109 = .ok (.if_icmp .ne 42, 3) := by decide +kernel
theorem dX7_isDoubted_112 : decode cX7_isDoubted 112 = .ok (.aload_n 0, 1) := by decide +kernel
theorem dX7_isDoubted_113 : decode cX7_isDoubted 113 = .ok (.iload_n 1, 1) := by decide +kernel
theorem dX7_isDoubted_114 : decode cX7_isDoubted 114 = .ok (.aload_n 0, 1) := by decide +kernel
theorem dX7_isDoubted_115 : decode cX7_isDoubted 115 = .ok (.getfield 50, 3) := by decide +kernel
theorem dX7_isDoubted_118 : decode cX7_isDoubted 118 = .ok (.iload_n 2, 1) := by decide +kernel
theorem dX7_isDoubted_119 : decode cX7_isDoubted 119 = .ok (.iaload, 1) := by decide +kernel
theorem dX7_isDoubted_120 : decode cX7_isDoubted 120 = .ok (.invokevirtual 222, 3) := by decide +kernel
theorem dX7_isDoubted_123 : decode cX7_isDoubted 123 = .ok (.istore_n 3, 1) := by decide +kernel
theorem dX7_isDoubted_124 : decode cX7_isDoubted 124 = .ok (.iload_n 3, 1) := by decide +kernel
theorem dX7_isDoubted_125 : decode cX7_isDoubted 125 = .ok (.aload_n 0, 1) := by decide +kernel
theorem dX7_isDoubted_126 : decode cX7_isDoubted 126 = .ok (.getfield 56, 3) := by decide +kernel
theorem dX7_isDoubted_129 : decode cX7_isDoubted 129 = .ok (.iload_n 2, 1) := by decide +kernel
theorem dX7_isDoubted_130 : decode cX7_isDoubted 130 = .ok (.iaload, 1) := by decide +kernel
theorem dX7_isDoubted_131 : decode cX7_isDoubted 131 = .ok (.if_icmp .gt 14, 3) := by decide +kernel
theorem dX7_isDoubted_134 : decode cX7_isDoubted 134 = .ok (.iload_n 3, 1) := by decide +kernel
theorem dX7_isDoubted_135 : decode cX7_isDoubted 135 = .ok (.aload_n 0, 1) := by decide +kernel
theorem dX7_isDoubted_136 : decode cX7_isDoubted 136 = .ok (.getfield 56, 3) := by decide +kernel
theorem dX7_isDoubted_139 : decode cX7_isDoubted 139 = .ok (.iload_n 2, 1) := by decide +kernel
theorem dX7_isDoubted_140 : decode cX7_isDoubted 140 = .ok (.iaload, 1) := by decide +kernel
theorem dX7_isDoubted_141 : decode cX7_isDoubted 141 = .ok (.ineg, 1) := by decide +kernel
theorem dX7_isDoubted_142 : decode cX7_isDoubted 142 = .ok (.if_icmp .ge 7, 3) := by decide +kernel
theorem dX7_isDoubted_145 : decode cX7_isDoubted 145 = .ok (.iconst 1, 1) := by decide +kernel
theorem dX7_isDoubted_146 : decode cX7_isDoubted 146 = .ok (.goto 4, 3) := by decide +kernel
theorem dX7_isDoubted_149 : decode cX7_isDoubted 149 = .ok (.iconst 0, 1) := by decide +kernel
theorem dX7_isDoubted_150 : decode cX7_isDoubted 150 = .ok (.ireturn, 1) := by decide +kernel
theorem dX7_isDoubted_151 : decode cX7_isDoubted 151 = .ok (.iconst 0, 1) := by decide +kernel
theorem dX7_isDoubted_152 : decode cX7_isDoubted 152 = .ok (.istore_n 3, 1) := by decide +kernel
theorem dX7_isDoubted_153 : decode cX7_isDoubted 153 = .ok (.iconst 0, 1) := by decide +kernel
theorem dX7_isDoubted_154 : decode cX7_isDoubted 154 = .ok (.istore 4, 2) := by decide +kernel
theorem dX7_isDoubted_156 : decode cX7_isDoubted 156 = .ok (.iload 4, 2) := by decide +kernel
theorem dX7_isDoubted_158 : decode cX7_isDoubted 158 = .ok (.bipush 8, 2) := by decide +kernel
theorem dX7_isDoubted_160 : decode cX7_isDoubted 160 = .ok (.if_icmp .ge 19, 3) := by decide +kernel
theorem dX7_isDoubted_163 : decode cX7_isDoubted 163 = .ok (.iload_n 3, 1) := by decide +kernel
theorem dX7_isDoubted_164 : decode cX7_isDoubted 164 = .ok (.aload_n 0, 1) := by decide +kernel
theorem dX7_isDoubted_165 : decode cX7_isDoubted 165 = .ok (.iload_n 1, 1) := by decide +kernel
theorem dX7_isDoubted_166 : decode cX7_isDoubted 166 = .ok (.iload 4, 2) := by decide +kernel
theorem dX7_isDoubted_168 : decode cX7_isDoubted 168 = .ok (.invokevirtual 222, 3) := by decide +kernel
theorem dX7_isDoubted_171 : decode cX7_isDoubted 171 = .ok (.iadd, 1) := by decide +kernel
theorem dX7_isDoubted_172 : decode cX7_isDoubted 172 = .ok (.istore_n 3, 1) := by decide +kernel
theorem dX7_isDoubted_173 : decode cX7_isDoubted 173 = .ok (.iinc 4 1, 3) := by decide +kernel
theorem dX7_isDoubted_176 : decode cX7_isDoubted 176 = .ok (.goto (-20), 3) := by decide +kernel
theorem dX7_isDoubted_179 : decode cX7_isDoubted 179 = .ok (.iload_n 3, 1) := by decide +kernel
theorem dX7_isDoubted_180 : decode cX7_isDoubted 180 = .ok (.ifCond .eq 7, 3) := by decide +kernel
theorem dX7_isDoubted_183 : decode cX7_isDoubted 183 = .ok (.iconst 1, 1) := by decide +kernel
theorem dX7_isDoubted_184 : decode cX7_isDoubted 184 = .ok (.goto 4, 3) := by decide +kernel
theorem dX7_isDoubted_187 : decode cX7_isDoubted 187 = .ok (.iconst 0, 1) := by decide +kernel
theorem dX7_isDoubted_188 : decode cX7_isDoubted 188 = .ok (.ireturn, 1) := by decide +kernel
set_option maxRecDepth 20000 in
theorem ggX7_doubtedBy_X7_isDoubted_c0 : GoodIn wsX7_doubtedBy ([.code yX7_isDoubted cX7_isDoubted 5 (some .boolean)]) := goodIn_r _ [6] (by decide +kernel) (by decide +kernel)
set_option maxRecDepth 20000 in
theorem ggX7_doubtedBy_X7_isDoubted_c1 : GoodIn wsX7_doubtedBy (wsX7_isDoubted_r1) := goodIn_r _ [7, 8, 9, 10, 11, 12, 13, 14, 15, 5, 16, 17, 18, 19, 20, 21, 22, 23, 24, 25, 26, 27, 28, 29] (by decide +kernel) (by decide +kernel)
set_option maxRecDepth 20000 in
theorem ggX7_doubtedBy_X7_isDoubted_c2 : GoodIn wsX7_doubtedBy (wsX7_isDoubted_r2) := goodIn_r _ [30, 31, 32, 33] (by decide +kernel) (by decide +kernel)
set_option maxRecDepth 20000 in
theorem ggX7_doubtedBy_X7_isDoubted_c3 : GoodIn wsX7_doubtedBy (wsX70) := goodIn_r _ [34, 35, 36, 37, 38, 39, 40, 41, 42, 43, 44, 45, 46, 47, 48, 49, 50, 51, 52, 53, 54, 55, 56, 57, 58, 59, 60, 61, 62, 63, 64, 65, 66, 67, 68, 69, 70, 71, 72, 73, 74, 75, 76, 77, 78, 79, 80] (by decide +kernel) (by decide +kernel)
set_option maxRecDepth 20000 in
theorem ggX7_doubtedBy_X7_isDoubted : GoodIn wsX7_doubtedBy wsX7_isDoubted := (goodIn_c1 ggX7_doubtedBy_X7_isDoubted_c0 (goodIn_app (goodIn_app ggX7_doubtedBy_X7_isDoubted_c1 ggX7_doubtedBy_X7_isDoubted_c2) ggX7_doubtedBy_X7_isDoubted_c3))
set_option maxRecDepth 20000 in
theorem gX7_doubtedBy_X7_isDoubted : GoodIn wsX7_doubtedBy (wsV RX7 233 RX7 yX7_isDoubted wsX7_isDoubted) := goodIn_app (goodIn_of _ (by decide +kernel)) ggX7_doubtedBy_X7_isDoubted
theorem dX7_doubtedBy_0 : decode cX7_doubtedBy 0 = .ok (.iconst 0, 1) := by decide +kernel
theorem dX7_doubtedBy_1 : decode cX7_doubtedBy 1 = .ok (.istore_n 2, 1) := by decide +kernel
theorem dX7_doubtedBy_2 : decode cX7_doubtedBy 2 = .ok (.iconst 0, 1) := by decide +kernel
theorem dX7_doubtedBy_3 : decode cX7_doubtedBy 3 = .ok (.istore_n 3, 1) := by decide +kernel
theorem dX7_doubtedBy_4 : decode cX7_doubtedBy 4 = .ok (.iload_n 3, 1) := by decide +kernel
theorem dX7_doubtedBy_5 : decode cX7_doubtedBy 5 = .ok (.aload_n 0, 1) := by decide +kernel
theorem dX7_doubtedBy_6 : decode cX7_doubtedBy 6 = .ok (.getfield 126, 3) := by decide +kernel
theorem dX7_doubtedBy_9 : decode cX7_doubtedBy 9 = .ok (.if_icmp .ge 26, 3) := by decide +kernel
theorem dX7_doubtedBy_12 : decode cX7_doubtedBy 12 = .ok (.iload_n 2, 1) := by decide +kernel
theorem dX7_doubtedBy_13 : decode cX7_doubtedBy 13 = .ok (.aload_n 0, 1) := by decide +kernel
theorem dX7_doubtedBy_14 : decode cX7_doubtedBy 14 = .ok (.iload_n 3, 1) := by decide +kernel
theorem dX7_doubtedBy_15 : decode cX7_doubtedBy 15 = .ok (.iload_n 1, 1) := by decide +kernel
theorem dX7_doubtedBy_16 : decode cX7_doubtedBy 16 = .ok (.invokevirtual 233, 3) := by decide +kernel
theorem dX7_doubtedBy_19 : decode cX7_doubtedBy 19 = .ok (.ifCond .eq 7, 3) := by decide +kernel
theorem dX7_doubtedBy_22 : decode cX7_doubtedBy 22 = .ok (.iconst 1, 1) := by decide +kernel
theorem dX7_doubtedBy_23 : decode cX7_doubtedBy 23 = .ok (.goto 4, 3) := by decide +kernel
theorem dX7_doubtedBy_26 : decode cX7_doubtedBy 26 = .ok (.iconst 0, 1) := by decide +kernel
theorem dX7_doubtedBy_27 : decode cX7_doubtedBy 27 = .ok (.iadd, 1) := by decide +kernel
theorem dX7_doubtedBy_28 : decode cX7_doubtedBy 28 = .ok (.istore_n 2, 1) := by decide +kernel
theorem dX7_doubtedBy_29 : decode cX7_doubtedBy 29 = .ok (.iinc 3 1, 3) := by decide +kernel
theorem dX7_doubtedBy_32 : decode cX7_doubtedBy 32 = .ok (.goto (-28), 3) := by decide +kernel
theorem dX7_doubtedBy_35 : decode cX7_doubtedBy 35 = .ok (.iload_n 2, 1) := by decide +kernel
theorem dX7_doubtedBy_36 : decode cX7_doubtedBy 36 = .ok (.ireturn, 1) := by decide +kernel
set_option maxRecDepth 20000 in
theorem ggX7_takeBack_X7_isRule_c0 : GoodIn wsX7_takeBack ([.code yX7_isRule cX7_isRule 2 (some .boolean)]) := goodIn_r _ [6] (by decide +kernel) (by decide +kernel)
set_option maxRecDepth 20000 in
theorem ggX7_takeBack_X7_isRule_c1 : GoodIn wsX7_takeBack ([.fieldLink RX7 215 "PostlintModel" "rules" "I", .methodLink RX7 129 yX7_isIn, .static yX7_isIn, .initialized RX7, .code yX7_isIn cX7_isIn 3 (some .boolean)]) := goodIn_r _ [7, 8, 9, 5, 10] (by decide +kernel) (by decide +kernel)
set_option maxRecDepth 20000 in
theorem ggX7_takeBack_X7_isRule_c2 : GoodIn wsX7_takeBack (wsX70) := goodIn_r _ [51, 52, 53, 54, 55, 56, 57, 58, 59, 60, 61, 62, 63, 64, 65, 66, 67, 68, 69, 70, 71, 72, 73, 74, 75, 76, 77, 78, 79, 80, 81, 82, 83, 84, 85, 86, 87, 88, 89, 90, 91, 92, 93, 94, 95, 96, 97] (by decide +kernel) (by decide +kernel)
set_option maxRecDepth 20000 in
theorem ggX7_takeBack_X7_isRule : GoodIn wsX7_takeBack wsX7_isRule := (goodIn_c1 ggX7_takeBack_X7_isRule_c0 (goodIn_app ggX7_takeBack_X7_isRule_c1 ggX7_takeBack_X7_isRule_c2))
set_option maxRecDepth 20000 in
theorem gX7_takeBack_X7_isRule : GoodIn wsX7_takeBack (wsV RX7 236 RX7 yX7_isRule wsX7_isRule) := goodIn_app (goodIn_of _ (by decide +kernel)) ggX7_takeBack_X7_isRule
set_option maxRecDepth 20000 in
theorem ggX7_takeBack_X7_isOf_c0 : GoodIn wsX7_takeBack ([.code yX7_isOf cX7_isOf 2 (some .boolean)]) := goodIn_r _ [14] (by decide +kernel) (by decide +kernel)
set_option maxRecDepth 20000 in
theorem ggX7_takeBack_X7_isOf_c1 : GoodIn wsX7_takeBack ([.fieldLink RX7 122 "PostlintModel" "thrown" "I"]) := goodIn_r _ [15] (by decide +kernel) (by decide +kernel)
set_option maxRecDepth 20000 in
theorem ggX7_takeBack_X7_isOf_c2 : GoodIn wsX7_takeBack (wsX70) := goodIn_r _ [51, 52, 53, 54, 55, 56, 57, 58, 59, 60, 61, 62, 63, 64, 65, 66, 67, 68, 69, 70, 71, 72, 73, 74, 75, 76, 77, 78, 79, 80, 81, 82, 83, 84, 85, 86, 87, 88, 89, 90, 91, 92, 93, 94, 95, 96, 97] (by decide +kernel) (by decide +kernel)
set_option maxRecDepth 20000 in
theorem ggX7_takeBack_X7_isOf : GoodIn wsX7_takeBack wsX7_isOf := (goodIn_c1 ggX7_takeBack_X7_isOf_c0 (goodIn_app ggX7_takeBack_X7_isOf_c1 ggX7_takeBack_X7_isOf_c2))
set_option maxRecDepth 20000 in
theorem gX7_takeBack_X7_isOf : GoodIn wsX7_takeBack (wsV RX7 189 RX7 yX7_isOf wsX7_isOf) := goodIn_app (goodIn_of _ (by decide +kernel)) ggX7_takeBack_X7_isOf
set_option maxRecDepth 20000 in
theorem ggX7_takeBack_X7_doubtedBy_c0 : GoodIn wsX7_takeBack ([.code yX7_doubtedBy cX7_doubtedBy 4 (some .int)]) := goodIn_r _ [19] (by decide +kernel) (by decide +kernel)
set_option maxRecDepth 20000 in
theorem ggX7_takeBack_X7_doubtedBy_c1 : GoodIn wsX7_takeBack (wsX7_doubtedBy_r1) := goodIn_r _ [20, 21, 22, 23, 5, 24, 1, 25, 26, 27, 28, 29, 30, 31, 32, 33, 34, 35, 36, 37, 38, 39, 40, 41] (by decide +kernel) (by decide +kernel)
set_option maxRecDepth 20000 in
theorem ggX7_takeBack_X7_doubtedBy_c2 : GoodIn wsX7_takeBack (wsX7_doubtedBy_r2) := goodIn_r _ [42, 43, 44, 45, 46, 47, 48, 49, 50] (by decide +kernel) (by decide +kernel)
set_option maxRecDepth 20000 in
theorem ggX7_takeBack_X7_doubtedBy_c3 : GoodIn wsX7_takeBack (wsX70) := goodIn_r _ [51, 52, 53, 54, 55, 56, 57, 58, 59, 60, 61, 62, 63, 64, 65, 66, 67, 68, 69, 70, 71, 72, 73, 74, 75, 76, 77, 78, 79, 80, 81, 82, 83, 84, 85, 86, 87, 88, 89, 90, 91, 92, 93, 94, 95, 96, 97] (by decide +kernel) (by decide +kernel)
set_option maxRecDepth 20000 in
theorem ggX7_takeBack_X7_doubtedBy : GoodIn wsX7_takeBack wsX7_doubtedBy := (goodIn_c1 ggX7_takeBack_X7_doubtedBy_c0 (goodIn_app (goodIn_app ggX7_takeBack_X7_doubtedBy_c1 ggX7_takeBack_X7_doubtedBy_c2) ggX7_takeBack_X7_doubtedBy_c3))
set_option maxRecDepth 20000 in
theorem gX7_takeBack_X7_doubtedBy : GoodIn wsX7_takeBack (wsV RX7 239 RX7 yX7_doubtedBy wsX7_doubtedBy) := goodIn_app (goodIn_of _ (by decide +kernel)) ggX7_takeBack_X7_doubtedBy
theorem dX7_takeBack_0 : decode cX7_takeBack 0 = .ok (.aload_n 0, 1) := by decide +kernel
theorem dX7_takeBack_1 : decode cX7_takeBack 1 = .ok (.iload_n 1, 1) := by decide +kernel
theorem dX7_takeBack_2 : decode cX7_takeBack 2 = .ok (.invokevirtual 236, 3) := by decide +kernel
theorem dX7_takeBack_5 : decode cX7_takeBack 5 = .ok (.istore_n 2, 1) := by decide +kernel
theorem dX7_takeBack_6 : decode cX7_takeBack 6 = .ok (.aload_n 0, 1) := by decide +kernel
theorem dX7_takeBack_7 : decode cX7_takeBack 7 = .ok (.iload_n 2, 1) := by decide +kernel
theorem dX7_takeBack_8 : decode cX7_takeBack 8 = .ok (.ifCond .ne 7, 3) := by decide +kernel
theorem dX7_takeBack_11 : decode cX7_takeBack 11 = .ok (.iconst 1, 1) := by decide +kernel
theorem dX7_takeBack_12 : decode cX7_takeBack 12 = .ok (.goto 17, 3) := by decide +kernel
theorem dX7_takeBack_15 : decode cX7_takeBack 15 = .ok (.aload_n 0, 1) := by decide +kernel
theorem dX7_takeBack_16 : decode cX7_takeBack 16 = .ok (.getfield 59, 3) := by decide +kernel
theorem dX7_takeBack_19 : decode cX7_takeBack 19 = .ok (.iload_n 1, 1) := by decide +kernel
theorem dX7_takeBack_20 : decode cX7_takeBack 20 = .ok (.baload, 1) := by decide +kernel
theorem dX7_takeBack_21 : decode cX7_takeBack 21 = .ok (.ifCond .eq 7, 3) := by decide +kernel
theorem dX7_takeBack_24 : decode cX7_takeBack 24 = .ok (.iconst 2, 1) := by decide +kernel
theorem dX7_takeBack_25 : decode cX7_takeBack 25 = .ok (.goto 4, 3) := by decide +kernel
theorem dX7_takeBack_28 : decode cX7_takeBack 28 = .ok (.iconst 0, 1) := by decide +kernel
theorem dX7_takeBack_29 : decode cX7_takeBack 29 = .ok (.invokevirtual 189, 3) := by decide +kernel
theorem dX7_takeBack_32 : decode cX7_takeBack 32 = .ok (.ifCond .ne 5, 3) := by decide +kernel
theorem dX7_takeBack_35 : decode cX7_takeBack 35 = .ok (.iconst 0, 1) := by decide +kernel
theorem dX7_takeBack_36 : decode cX7_takeBack 36 = .ok (.ireturn, 1) := by decide +kernel
theorem dX7_takeBack_37 : decode cX7_takeBack 37 = .ok (.aload_n 0, 1) := by decide +kernel
theorem dX7_takeBack_38 : decode cX7_takeBack 38 = .ok (.iload_n 1, 1) := by decide +kernel
theorem dX7_takeBack_39 : decode cX7_takeBack 39 = .ok (.invokevirtual 239, 3) := by decide +kernel
theorem dX7_takeBack_42 : decode cX7_takeBack 42 = .ok (.istore_n 3, 1) := by decide +kernel
theorem dX7_takeBack_43 : decode cX7_takeBack 43 = .ok (.aload_n 0, 1) := by decide +kernel
theorem dX7_takeBack_44 : decode cX7_takeBack 44 = .ok (.getfield 59, 3) := by decide +kernel
theorem dX7_takeBack_47 : decode cX7_takeBack 47 = .ok (.iload_n 1, 1) := by decide +kernel
theorem dX7_takeBack_48 : decode cX7_takeBack 48 = .ok (.iconst 1, 1) := by decide +kernel
theorem dX7_takeBack_49 : decode cX7_takeBack 49 = .ok (.bastore, 1) := by decide +kernel
theorem dX7_takeBack_50 : decode cX7_takeBack 50 = .ok (.iload_n 3, 1) := by decide +kernel
theorem dX7_takeBack_51 : decode cX7_takeBack 51 = .ok (.ireturn, 1) := by decide +kernel
set_option maxRecDepth 20000 in
theorem ggX7_audit_X7_isEntry_c0 : GoodIn wsX7_audit ([.code yX7_isEntry cX7_isEntry 2 (some .boolean)]) := goodIn_r _ [11] (by decide +kernel) (by decide +kernel)
set_option maxRecDepth 20000 in
theorem ggX7_audit_X7_isEntry_c1 : GoodIn wsX7_audit ([.fieldLink RX7 126 "PostlintModel" "entries" "I", .methodLink RX7 129 yX7_isIn, .static yX7_isIn, .initialized RX7, .code yX7_isIn cX7_isIn 3 (some .boolean)]) := goodIn_r _ [12, 13, 14, 10, 15] (by decide +kernel) (by decide +kernel)
set_option maxRecDepth 20000 in
theorem ggX7_audit_X7_isEntry_c2 : GoodIn wsX7_audit (wsX70) := goodIn_r _ [21, 22, 23, 24, 25, 26, 27, 28, 29, 30, 31, 32, 33, 34, 35, 36, 37, 38, 39, 40, 41, 42, 43, 44, 45, 46, 47, 48, 49, 50, 51, 52, 53, 54, 55, 56, 57, 58, 59, 60, 61, 62, 63, 64, 65, 66, 67] (by decide +kernel) (by decide +kernel)
set_option maxRecDepth 20000 in
theorem ggX7_audit_X7_isEntry : GoodIn wsX7_audit wsX7_isEntry := (goodIn_c1 ggX7_audit_X7_isEntry_c0 (goodIn_app ggX7_audit_X7_isEntry_c1 ggX7_audit_X7_isEntry_c2))
set_option maxRecDepth 20000 in
theorem gX7_audit_X7_isEntry : GoodIn wsX7_audit (wsV RX7 206 RX7 yX7_isEntry wsX7_isEntry) := goodIn_app (goodIn_of _ (by decide +kernel)) ggX7_audit_X7_isEntry
set_option maxRecDepth 20000 in
theorem ggX7_audit_X7_isOf_c0 : GoodIn wsX7_audit ([.code yX7_isOf cX7_isOf 2 (some .boolean)]) := goodIn_r _ [19] (by decide +kernel) (by decide +kernel)
set_option maxRecDepth 20000 in
theorem ggX7_audit_X7_isOf_c1 : GoodIn wsX7_audit ([.fieldLink RX7 122 "PostlintModel" "thrown" "I"]) := goodIn_r _ [20] (by decide +kernel) (by decide +kernel)
set_option maxRecDepth 20000 in
theorem ggX7_audit_X7_isOf_c2 : GoodIn wsX7_audit (wsX70) := goodIn_r _ [21, 22, 23, 24, 25, 26, 27, 28, 29, 30, 31, 32, 33, 34, 35, 36, 37, 38, 39, 40, 41, 42, 43, 44, 45, 46, 47, 48, 49, 50, 51, 52, 53, 54, 55, 56, 57, 58, 59, 60, 61, 62, 63, 64, 65, 66, 67] (by decide +kernel) (by decide +kernel)
set_option maxRecDepth 20000 in
theorem ggX7_audit_X7_isOf : GoodIn wsX7_audit wsX7_isOf := (goodIn_c1 ggX7_audit_X7_isOf_c0 (goodIn_app ggX7_audit_X7_isOf_c1 ggX7_audit_X7_isOf_c2))
set_option maxRecDepth 20000 in
theorem gX7_audit_X7_isOf : GoodIn wsX7_audit (wsV RX7 189 RX7 yX7_isOf wsX7_isOf) := goodIn_app (goodIn_of _ (by decide +kernel)) ggX7_audit_X7_isOf
theorem dX7_audit_0 : decode cX7_audit 0 = .ok (.aload_n 0, 1) := by decide +kernel
theorem dX7_audit_1 : decode cX7_audit 1 = .ok (.aload_n 0, 1) := by decide +kernel
theorem dX7_audit_2 : decode cX7_audit 2 = .ok (.iload_n 1, 1) := by decide +kernel
theorem dX7_audit_3 : decode cX7_audit 3 = .ok (.invokevirtual 206, 3) := by decide +kernel
theorem dX7_audit_6 : decode cX7_audit 6 = .ok (.ifCond .eq 11, 3) := by decide +kernel
theorem dX7_audit_9 : decode cX7_audit 9 = .ok (.aload_n 0, 1) := by decide +kernel
theorem dX7_audit_10 : decode cX7_audit 10 = .ok (.iload_n 2, 1) := by decide +kernel
theorem dX7_audit_11 : decode cX7_audit 11 = .ok (.invokevirtual 206, 3) := by decide +kernel
theorem dX7_audit_14 : decode cX7_audit 14 = .ok (.ifCond .ne 7, 3) := by decide +kernel
theorem dX7_audit_17 : decode cX7_audit 17 = .ok (.iconst 1, 1) := by decide +kernel
theorem dX7_audit_18 : decode cX7_audit 18 = .ok (.goto 26, 3) := by decide +kernel
theorem dX7_audit_21 : decode cX7_audit 21 = .ok (.iload_n 2, 1) := by decide +kernel
theorem dX7_audit_22 : decode cX7_audit 22 = .ok (.iload_n 1, 1) := by decide +kernel
theorem dX7_audit_23 : decode cX7_audit 23 = .ok (.if_icmp .ge 7, 3) := by decide +kernel
theorem dX7_audit_26 : decode cX7_audit 26 = .ok (.iconst 2, 1) := by decide +kernel
theorem dX7_audit_27 : decode cX7_audit 27 = .ok (.goto 17, 3) := by decide +kernel
theorem dX7_audit_30 : decode cX7_audit 30 = .ok (.aload_n 0, 1) := by decide +kernel
theorem dX7_audit_31 : decode cX7_audit 31 = .ok (.getfield 203, 3) := by decide +kernel
theorem dX7_audit_34 : decode cX7_audit 34 = .ok (.bipush 6, 2) := by decide +kernel
theorem dX7_audit_36 : decode cX7_audit 36 = .ok (.if_icmp .ne 7, 3) := by decide +kernel
theorem dX7_audit_39 : decode cX7_audit 39 = .ok (.iconst 3, 1) := by decide +kernel
theorem dX7_audit_40 : decode cX7_audit 40 = .ok (.goto 4, 3) := by decide +kernel
theorem dX7_audit_43 : decode cX7_audit 43 = .ok (.iconst 0, 1) := by decide +kernel
theorem dX7_audit_44 : decode cX7_audit 44 = .ok (.invokevirtual 189, 3) := by decide +kernel
theorem dX7_audit_47 : decode cX7_audit 47 = .ok (.ifCond .ne 5, 3) := by decide +kernel
theorem dX7_audit_50 : decode cX7_audit 50 = .ok (.iconst 0, 1) := by decide +kernel
theorem dX7_audit_51 : decode cX7_audit 51 = .ok (.ireturn, 1) := by decide +kernel
theorem dX7_audit_52 : decode cX7_audit 52 = .ok (.aload_n 0, 1) := by decide +kernel
theorem dX7_audit_53 : decode cX7_audit 53 = .ok (.getfield 62, 3) := by decide +kernel
theorem dX7_audit_56 : decode cX7_audit 56 = .ok (.aload_n 0, 1) := by decide +kernel
theorem dX7_audit_57 : decode cX7_audit 57 = .ok (.getfield 203, 3) := by decide +kernel
theorem dX7_audit_60 : decode cX7_audit 60 = .ok (.iload_n 1, 1) := by decide +kernel
theorem dX7_audit_61 : decode cX7_audit 61 = .ok (.iastore, 1) := by decide +kernel
theorem dX7_audit_62 : decode cX7_audit 62 = .ok (.aload_n 0, 1) := by decide +kernel
theorem dX7_audit_63 : decode cX7_audit 63 = .ok (.getfield 65, 3) := by decide +kernel
theorem dX7_audit_66 : decode cX7_audit 66 = .ok (.aload_n 0, 1) := by decide +kernel
theorem dX7_audit_67 : decode cX7_audit 67 = .ok (.getfield 203, 3) := by decide +kernel
theorem dX7_audit_70 : decode cX7_audit 70 = .ok (.iload_n 2, 1) := by decide +kernel
theorem dX7_audit_71 : decode cX7_audit 71 = .ok (.iastore, 1) := by decide +kernel
theorem dX7_audit_72 : decode cX7_audit 72 = .ok (.aload_n 0, 1) := by decide +kernel
theorem dX7_audit_73 : decode cX7_audit 73 = .ok (.getfield 68, 3) := by decide +kernel
theorem dX7_audit_76 : decode cX7_audit 76 = .ok (.aload_n 0, 1) := by decide +kernel
theorem dX7_audit_77 : decode cX7_audit 77 = .ok (.getfield 203, 3) := by decide +kernel
theorem dX7_audit_80 : decode cX7_audit 80 = .ok (.aload_n 0, 1) := by decide +kernel
theorem dX7_audit_81 : decode cX7_audit 81 = .ok (.getfield 44, 3) := by decide +kernel
theorem dX7_audit_84 : decode cX7_audit 84 = .ok (.iload_n 2, 1) := by decide +kernel
theorem dX7_audit_85 : decode cX7_audit 85 = .ok (.iaload, 1) := by decide +kernel
theorem dX7_audit_86 : decode cX7_audit 86 = .ok (.iastore, 1) := by decide +kernel
theorem dX7_audit_87 : decode cX7_audit 87 = .ok (.aload_n 0, 1) := by decide +kernel
theorem dX7_audit_88 : decode cX7_audit 88 = .ok (.getfield 71, 3) := by decide +kernel
theorem dX7_audit_91 : decode cX7_audit 91 = .ok (.aload_n 0, 1) := by decide +kernel
theorem dX7_audit_92 : decode cX7_audit 92 = .ok (.getfield 203, 3) := by decide +kernel
theorem dX7_audit_95 : decode cX7_audit 95 = .ok (.iconst 0, 1) := by decide +kernel
theorem dX7_audit_96 : decode cX7_audit 96 = .ok (.bastore, 1) := by decide +kernel
theorem dX7_audit_97 : decode cX7_audit 97 = .ok (.aload_n 0, 1) := by decide +kernel
theorem dX7_audit_98 : decode cX7_audit 98 = .ok (.dup, 1) := by decide +kernel
theorem dX7_audit_99 : decode cX7_audit 99 = .ok (.getfield 203, 3) := by decide +kernel
theorem dX7_audit_102 : decode cX7_audit 102 = .ok (.iconst 1, 1) := by decide +kernel
theorem dX7_audit_103 : decode cX7_audit 103 = .ok (.iadd, 1) := by decide +kernel
theorem dX7_audit_104 : decode cX7_audit 104 = .ok (.putfield 203, 3) := by decide +kernel
theorem dX7_audit_107 : decode cX7_audit 107 = .ok (.aload_n 0, 1) := by decide +kernel
theorem dX7_audit_108 : decode cX7_audit 108 = .ok (.getfield 203, 3) := by decide +kernel
theorem dX7_audit_111 : decode cX7_audit 111 = .ok (.iconst 1, 1) := by decide +kernel
theorem dX7_audit_112 : decode cX7_audit 112 = .ok (.isub, 1) := by decide +kernel
theorem dX7_audit_113 : decode cX7_audit 113 = .ok (.ireturn, 1) := by decide +kernel
set_option maxRecDepth 20000 in
theorem ggX7_isAudit_X7_isIn : GoodIn wsX7_isAudit wsX7_isIn := goodIn_r _ [5] (by decide +kernel) (by decide +kernel)
set_option maxRecDepth 20000 in
theorem gX7_isAudit_X7_isIn : GoodIn wsX7_isAudit (va_wsS RX7 129 yX7_isIn wsX7_isIn) := goodIn_app (goodIn_of _ (by decide +kernel)) ggX7_isAudit_X7_isIn
theorem dX7_isAudit_0 : decode cX7_isAudit 0 = .ok (.iload_n 1, 1) := by decide +kernel
theorem dX7_isAudit_1 : decode cX7_isAudit 1 = .ok (.iconst 0, 1) := by decide +kernel
theorem dX7_isAudit_2 : decode cX7_isAudit 2 = .ok (.aload_n 0, 1) := by decide +kernel
theorem dX7_isAudit_3 : decode cX7_isAudit 3 = .ok (.getfield 203, 3) := by decide +kernel
theorem dX7_isAudit_6 : decode cX7_isAudit 6 = .ok (.iconst 1, 1) := by decide +kernel
theorem dX7_isAudit_7 : decode cX7_isAudit 7 = .ok (.isub, 1) := by decide +kernel
theorem dX7_isAudit_8 : decode cX7_isAudit 8 = .ok (.invokestatic 129, 3) := by decide +kernel
theorem dX7_isAudit_11 : decode cX7_isAudit 11 = .ok (.ireturn, 1) := by decide +kernel
set_option maxRecDepth 20000 in
theorem ggX7_end_X7_isAudit_c0 : GoodIn wsX7_end ([.code yX7_isAudit cX7_isAudit 2 (some .boolean)]) := goodIn_r _ [9] (by decide +kernel) (by decide +kernel)
set_option maxRecDepth 20000 in
theorem ggX7_end_X7_isAudit_c1 : GoodIn wsX7_end ([.fieldLink RX7 203 "PostlintModel" "audits" "I", .methodLink RX7 129 yX7_isIn, .static yX7_isIn, .initialized RX7, .code yX7_isIn cX7_isIn 3 (some .boolean)]) := goodIn_r _ [10, 11, 12, 8, 13] (by decide +kernel) (by decide +kernel)
set_option maxRecDepth 20000 in
theorem ggX7_end_X7_isAudit_c2 : GoodIn wsX7_end (wsX70) := goodIn_r _ [19, 20, 21, 22, 23, 24, 25, 26, 27, 28, 29, 30, 31, 32, 33, 34, 35, 36, 37, 38, 39, 40, 41, 42, 43, 44, 45, 46, 47, 48, 49, 50, 51, 52, 53, 54, 55, 56, 57, 58, 59, 60, 61, 62, 63, 64, 65] (by decide +kernel) (by decide +kernel)
set_option maxRecDepth 20000 in
theorem ggX7_end_X7_isAudit : GoodIn wsX7_end wsX7_isAudit := (goodIn_c1 ggX7_end_X7_isAudit_c0 (goodIn_app ggX7_end_X7_isAudit_c1 ggX7_end_X7_isAudit_c2))
set_option maxRecDepth 20000 in
theorem gX7_end_X7_isAudit : GoodIn wsX7_end (wsV RX7 242 RX7 yX7_isAudit wsX7_isAudit) := goodIn_app (goodIn_of _ (by decide +kernel)) ggX7_end_X7_isAudit
set_option maxRecDepth 20000 in
theorem ggX7_end_X7_isOf_c0 : GoodIn wsX7_end ([.code yX7_isOf cX7_isOf 2 (some .boolean)]) := goodIn_r _ [17] (by decide +kernel) (by decide +kernel)
set_option maxRecDepth 20000 in
theorem ggX7_end_X7_isOf_c1 : GoodIn wsX7_end ([.fieldLink RX7 122 "PostlintModel" "thrown" "I"]) := goodIn_r _ [18] (by decide +kernel) (by decide +kernel)
set_option maxRecDepth 20000 in
theorem ggX7_end_X7_isOf_c2 : GoodIn wsX7_end (wsX70) := goodIn_r _ [19, 20, 21, 22, 23, 24, 25, 26, 27, 28, 29, 30, 31, 32, 33, 34, 35, 36, 37, 38, 39, 40, 41, 42, 43, 44, 45, 46, 47, 48, 49, 50, 51, 52, 53, 54, 55, 56, 57, 58, 59, 60, 61, 62, 63, 64, 65] (by decide +kernel) (by decide +kernel)
set_option maxRecDepth 20000 in
theorem ggX7_end_X7_isOf : GoodIn wsX7_end wsX7_isOf := (goodIn_c1 ggX7_end_X7_isOf_c0 (goodIn_app ggX7_end_X7_isOf_c1 ggX7_end_X7_isOf_c2))
set_option maxRecDepth 20000 in
theorem gX7_end_X7_isOf : GoodIn wsX7_end (wsV RX7 189 RX7 yX7_isOf wsX7_isOf) := goodIn_app (goodIn_of _ (by decide +kernel)) ggX7_end_X7_isOf
theorem dX7_end_0 : decode cX7_end 0 = .ok (.aload_n 0, 1) := by decide +kernel
theorem dX7_end_1 : decode cX7_end 1 = .ok (.iload_n 1, 1) := by decide +kernel
theorem dX7_end_2 : decode cX7_end 2 = .ok (.invokevirtual 242, 3) := by decide +kernel
theorem dX7_end_5 : decode cX7_end 5 = .ok (.istore_n 2, 1) := by decide +kernel
theorem dX7_end_6 : decode cX7_end 6 = .ok (.aload_n 0, 1) := by decide +kernel
theorem dX7_end_7 : decode cX7_end 7 = .ok (.iload_n 2, 1) := by decide +kernel
theorem dX7_end_8 : decode cX7_end 8 = .ok (.ifCond .ne 7, 3) := by decide +kernel
theorem dX7_end_11 : decode cX7_end 11 = .ok (.iconst 1, 1) := by decide +kernel
theorem dX7_end_12 : decode cX7_end 12 = .ok (.goto 17, 3) := by decide +kernel
theorem dX7_end_15 : decode cX7_end 15 = .ok (.aload_n 0, 1) := by decide +kernel
theorem dX7_end_16 : decode cX7_end 16 = .ok (.getfield 71, 3) := by decide +kernel
theorem dX7_end_19 : decode cX7_end 19 = .ok (.iload_n 1, 1) := by decide +kernel
theorem dX7_end_20 : decode cX7_end 20 = .ok (.baload, 1) := by decide +kernel
theorem dX7_end_21 : decode cX7_end 21 = .ok (.ifCond .eq 7, 3) := by decide +kernel
theorem dX7_end_24 : decode cX7_end 24 = .ok (.iconst 2, 1) := by decide +kernel
theorem dX7_end_25 : decode cX7_end 25 = .ok (.goto 4, 3) := by decide +kernel
theorem dX7_end_28 : decode cX7_end 28 = .ok (.iconst 0, 1) := by decide +kernel
theorem dX7_end_29 : decode cX7_end 29 = .ok (.invokevirtual 189, 3) := by decide +kernel
theorem dX7_end_32 : decode cX7_end 32 = .ok (.ifCond .ne 5, 3) := by decide +kernel
theorem dX7_end_35 : decode cX7_end 35 = .ok (.iconst 0, 1) := by decide +kernel
theorem dX7_end_36 : decode cX7_end 36 = .ok (.ireturn, 1) := by decide +kernel
theorem dX7_end_37 : decode cX7_end 37 = .ok (.aload_n 0, 1) := by decide +kernel
theorem dX7_end_38 : decode cX7_end 38 = .ok (.getfield 71, 3) := by decide +kernel
theorem dX7_end_41 : decode cX7_end 41 = .ok (.iload_n 1, 1) := by decide +kernel
theorem dX7_end_42 : decode cX7_end 42 = .ok (.iconst 1, 1) := by decide +kernel
theorem dX7_end_43 : decode cX7_end 43 = .ok (.bastore, 1) := by decide +kernel
theorem dX7_end_44 : decode cX7_end 44 = .ok (.aload_n 0, 1) := by decide +kernel
theorem dX7_end_45 : decode cX7_end 45 = .ok (.getfield 44, 3) := by decide +kernel
theorem dX7_end_48 : decode cX7_end 48 = .ok (.aload_n 0, 1) := by decide +kernel
theorem dX7_end_49 : decode cX7_end 49 = .ok (.getfield 65, 3) := by decide +kernel
theorem dX7_end_52 : decode cX7_end 52 = .ok (.iload_n 1, 1) := by decide +kernel
theorem dX7_end_53 : decode cX7_end 53 = .ok (.iaload, 1) := by decide +kernel
theorem dX7_end_54 : decode cX7_end 54 = .ok (.iaload, 1) := by decide +kernel
theorem dX7_end_55 : decode cX7_end 55 = .ok (.aload_n 0, 1) := by decide +kernel
theorem dX7_end_56 : decode cX7_end 56 = .ok (.getfield 68, 3) := by decide +kernel
theorem dX7_end_59 : decode cX7_end 59 = .ok (.iload_n 1, 1) := by decide +kernel
theorem dX7_end_60 : decode cX7_end 60 = .ok (.iaload, 1) := by decide +kernel
theorem dX7_end_61 : decode cX7_end 61 = .ok (.if_icmp .ne 7, 3) := by decide +kernel
theorem dX7_end_64 : decode cX7_end 64 = .ok (.iconst 1, 1) := by decide +kernel
theorem dX7_end_65 : decode cX7_end 65 = .ok (.goto 4, 3) := by decide +kernel
theorem dX7_end_68 : decode cX7_end 68 = .ok (.iconst 0, 1) := by decide +kernel
theorem dX7_end_69 : decode cX7_end 69 = .ok (.ireturn, 1) := by decide +kernel
theorem dX7_entries_0 : decode cX7_entries 0 = .ok (.aload_n 0, 1) := by decide +kernel
theorem dX7_entries_1 : decode cX7_entries 1 = .ok (.iconst 0, 1) := by decide +kernel
theorem dX7_entries_2 : decode cX7_entries 2 = .ok (.putfield 122, 3) := by decide +kernel
theorem dX7_entries_5 : decode cX7_entries 5 = .ok (.aload_n 0, 1) := by decide +kernel
theorem dX7_entries_6 : decode cX7_entries 6 = .ok (.getfield 126, 3) := by decide +kernel
theorem dX7_entries_9 : decode cX7_entries 9 = .ok (.ireturn, 1) := by decide +kernel
theorem dX7_numberLong_0 : decode cX7_numberLong 0 = .ok (.iload_n 0, 1) := by decide +kernel
theorem dX7_numberLong_1 : decode cX7_numberLong 1 = .ok (.bipush 99, 2) := by decide +kernel
theorem dX7_numberLong_3 : decode cX7_numberLong 3 = .ok (.if_icmp .le 7, 3) := by decide +kernel
theorem dX7_numberLong_6 : decode cX7_numberLong 6 = .ok (.iconst 3, 1) := by decide +kernel
theorem dX7_numberLong_7 : decode cX7_numberLong 7 = .ok (.goto 14, 3) := by decide +kernel
theorem dX7_numberLong_10 : decode cX7_numberLong 10 = .ok (.iload_n 0, 1) := by decide +kernel
theorem dX7_numberLong_11 : decode cX7_numberLong 11 = .ok (.bipush 9, 2) := by decide +kernel
theorem dX7_numberLong_13 : decode cX7_numberLong 13 = .ok (.if_icmp .le 7, 3) := by decide +kernel
theorem dX7_numberLong_16 : decode cX7_numberLong 16 = .ok (.iconst 2, 1) := by decide +kernel
theorem dX7_numberLong_17 : decode cX7_numberLong 17 = .ok (.goto 4, 3) := by decide +kernel
theorem dX7_numberLong_20 : decode cX7_numberLong 20 = .ok (.iconst 1, 1) := by decide +kernel
theorem dX7_numberLong_21 : decode cX7_numberLong 21 = .ok (.ireturn, 1) := by decide +kernel
set_option maxRecDepth 20000 in
theorem ggX7_spreadLong_X7_numberLong : GoodIn wsX7_spreadLong wsX7_numberLong := goodIn_r _ [8] (by decide +kernel) (by decide +kernel)
set_option maxRecDepth 20000 in
theorem gX7_spreadLong_X7_numberLong : GoodIn wsX7_spreadLong (va_wsS RX7 245 yX7_numberLong wsX7_numberLong) := goodIn_app (goodIn_of _ (by decide +kernel)) ggX7_spreadLong_X7_numberLong
theorem dX7_spreadLong_0 : decode cX7_spreadLong 0 = .ok (.aload_n 0, 1) := by decide +kernel
theorem dX7_spreadLong_1 : decode cX7_spreadLong 1 = .ok (.getfield 13, 3) := by decide +kernel
theorem dX7_spreadLong_4 : decode cX7_spreadLong 4 = .ok (.iload_n 1, 1) := by decide +kernel
theorem dX7_spreadLong_5 : decode cX7_spreadLong 5 = .ok (.baload, 1) := by decide +kernel
theorem dX7_spreadLong_6 : decode cX7_spreadLong 6 = .ok (.ifCond .eq 5, 3) := by decide +kernel
theorem dX7_spreadLong_9 : decode cX7_spreadLong 9 = .ok (.iconst 1, 1) := by decide +kernel
theorem dX7_spreadLong_10 : decode cX7_spreadLong 10 = .ok (.ireturn, 1) := by decide +kernel
theorem dX7_spreadLong_11 : decode cX7_spreadLong 11 = .ok (.iconst (-1), 1) := by decide +kernel
theorem dX7_spreadLong_12 : decode cX7_spreadLong 12 = .ok (.istore_n 2, 1) := by decide +kernel
theorem dX7_spreadLong_13 : decode cX7_spreadLong 13 = .ok (.bipush 16, 2) := by decide +kernel
theorem dX7_spreadLong_15 : decode cX7_spreadLong 15 = .ok (.iload_n 1, 1) := by decide +kernel
theorem dX7_spreadLong_16 : decode cX7_spreadLong 16 = .ok (.imul, 1) := by decide +kernel
theorem dX7_spreadLong_17 : decode cX7_spreadLong 17 = .ok (.istore_n 3, 1) := by decide +kernel
theorem dX7_spreadLong_18 : decode cX7_spreadLong 18 = .ok (.iload_n 3, 1) := by decide +kernel
theorem dX7_spreadLong_19 : decode cX7_spreadLong 19 = .ok (.bipush 16, 2) := by decide +kernel
theorem dX7_spreadLong_21 : decode cX7_spreadLong 21 = .ok (.iload_n 1, 1) := by decide +kernel
theorem dX7_spreadLong_22 : decode cX7_spreadLong 22 = .ok (.imul, 1) := by decide +kernel
theorem dX7_spreadLong_23 : decode cX7_spreadLong 23 = .ok (.aload_n 0, 1) := by decide +kernel
theorem dX7_spreadLong_24 : decode cX7_spreadLong 24 = .ok (.getfield 29, 3) := by decide +kernel
theorem dX7_spreadLong_27 : decode cX7_spreadLong 27 = .ok (.iload_n 1, 1) := by decide +kernel
theorem dX7_spreadLong_28 : decode cX7_spreadLong 28 = .ok (.iaload, 1) := by decide +kernel
theorem dX7_spreadLong_29 : decode cX7_spreadLong 29 = .ok (.iadd, 1) := by decide +kernel
theorem dX7_spreadLong_30 : decode cX7_spreadLong 30 = .ok (.if_icmp .ge 30, 3) := by decide +kernel
theorem dX7_spreadLong_33 : decode cX7_spreadLong 33 = .ok (.iload_n 2, 1) := by decide +kernel
theorem dX7_spreadLong_34 : decode cX7_spreadLong 34 = .ok (.aload_n 0, 1) := by decide +kernel
theorem dX7_spreadLong_35 : decode cX7_spreadLong 35 = .ok (.getfield 41, 3) := by decide +kernel
theorem dX7_spreadLong_38 : decode cX7_spreadLong 38 = .ok (.iload_n 3, 1) := by decide +kernel
theorem dX7_spreadLong_39 : decode cX7_spreadLong 39 = .ok (.iaload, 1) := by decide +kernel
theorem dX7_spreadLong_40 : decode cX7_spreadLong 40 = .ok (.iconst 3, 1) := by decide +kernel
theorem dX7_spreadLong_41 : decode cX7_spreadLong 41 = .ok (.aload_n 0, 1) := by decide +kernel
theorem dX7_spreadLong_42 : decode cX7_spreadLong 42 = .ok (.getfield 38, 3) := by decide +kernel
theorem dX7_spreadLong_45 : decode cX7_spreadLong 45 = .ok (.iload_n 3, 1) := by decide +kernel
theorem dX7_spreadLong_46 : decode cX7_spreadLong 46 = .ok (.iaload, 1) := by decide +kernel
theorem dX7_spreadLong_47 : decode cX7_spreadLong 47 = .ok (.invokestatic 245, 3) := by decide +kernel
theorem dX7_spreadLong_50 : decode cX7_spreadLong 50 = .ok (.iadd, 1) := by decide +kernel
theorem dX7_spreadLong_51 : decode cX7_spreadLong 51 = .ok (.imul, 1) := by decide +kernel
theorem dX7_spreadLong_52 : decode cX7_spreadLong 52 = .ok (.iadd, 1) := by decide +kernel
theorem dX7_spreadLong_53 : decode cX7_spreadLong 53 = .ok (.istore_n 2, 1) := by decide +kernel
theorem dX7_spreadLong_54 : decode cX7_spreadLong 54 = .ok (.iinc 3 1, 3) := by decide +kernel
theorem dX7_spreadLong_57 : decode cX7_spreadLong 57 = .ok (.goto (-39), 3) := by decide +kernel
theorem dX7_spreadLong_60 : decode cX7_spreadLong 60 = .ok (.iload_n 2, 1) := by decide +kernel
theorem dX7_spreadLong_61 : decode cX7_spreadLong 61 = .ok (.ireturn, 1) := by decide +kernel
set_option maxRecDepth 20000 in
theorem ggX7_spreadAt_X7_numberLong : GoodIn wsX7_spreadAt wsX7_numberLong := goodIn_r _ [9] (by decide +kernel) (by decide +kernel)
set_option maxRecDepth 20000 in
theorem gX7_spreadAt_X7_numberLong : GoodIn wsX7_spreadAt (va_wsS RX7 245 yX7_numberLong wsX7_numberLong) := goodIn_app (goodIn_of _ (by decide +kernel)) ggX7_spreadAt_X7_numberLong
theorem dX7_spreadAt_0 : decode cX7_spreadAt 0 = .ok (.aload_n 0, 1) := by decide +kernel
theorem dX7_spreadAt_1 : decode cX7_spreadAt 1 = .ok (.getfield 13, 3) := by decide +kernel
theorem dX7_spreadAt_4 : decode cX7_spreadAt 4 = .ok (.iload_n 1, 1) := by decide +kernel
theorem dX7_spreadAt_5 : decode cX7_spreadAt 5 = .ok (.baload, 1) := by decide +kernel
theorem dX7_spreadAt_6 : decode cX7_spreadAt 6 = .ok (.ifCond .eq 6, 3) := by decide +kernel
theorem dX7_spreadAt_9 : decode cX7_spreadAt 9 = .ok (.bipush 45, 2) := by decide +kernel
theorem dX7_spreadAt_11 : decode cX7_spreadAt 11 = .ok (.ireturn, 1) := by decide +kernel
theorem dX7_spreadAt_12 : decode cX7_spreadAt 12 = .ok (.iload_n 2, 1) := by decide +kernel
theorem dX7_spreadAt_13 : decode cX7_spreadAt 13 = .ok (.istore_n 3, 1) := by decide +kernel
theorem dX7_spreadAt_14 : decode cX7_spreadAt 14 = .ok (.bipush 16, 2) := by decide +kernel
theorem dX7_spreadAt_16 : decode cX7_spreadAt 16 = .ok (.iload_n 1, 1) := by decide +kernel
theorem dX7_spreadAt_17 : decode cX7_spreadAt 17 = .ok (.imul, 1) := by decide +kernel
theorem dX7_spreadAt_18 : decode cX7_spreadAt 18 = .ok (.istore 4, 2) := by decide +kernel
theorem dX7_spreadAt_20 : decode cX7_spreadAt 20 = .ok (.iload_n 3, 1) := by decide +kernel
theorem dX7_spreadAt_21 : decode cX7_spreadAt 21 = .ok (.aload_n 0, 1) := by decide +kernel
theorem dX7_spreadAt_22 : decode cX7_spreadAt 22 = .ok (.getfield 41, 3) := by decide +kernel
theorem dX7_spreadAt_25 : decode cX7_spreadAt 25 = .ok (.iload 4, 2) := by decide +kernel
theorem dX7_spreadAt_27 : decode cX7_spreadAt 27 = .ok (.iaload, 1) := by decide +kernel
theorem dX7_spreadAt_28 : decode cX7_spreadAt 28 = .ok (.iconst 3, 1) := by decide +kernel
theorem dX7_spreadAt_29 : decode cX7_spreadAt 29 = .ok (.aload_n 0, 1) := by decide +kernel
theorem dX7_spreadAt_30 : decode cX7_spreadAt 30 = .ok (.getfield 38, 3) := by decide +kernel
theorem dX7_spreadAt_33 : decode cX7_spreadAt 33 = .ok (.iload 4, 2) := by decide +kernel
theorem dX7_spreadAt_35 : decode cX7_spreadAt 35 = .ok (.iaload, 1) := by decide +kernel
theorem dX7_spreadAt_36 : decode cX7_spreadAt 36 = .ok (.invokestatic 245, 3) := by decide +kernel
theorem dX7_spreadAt_39 : decode cX7_spreadAt 39 = .ok (.iadd, 1) := by decide +kernel
theorem dX7_spreadAt_40 : decode cX7_spreadAt 40 = .ok (.imul, 1) := by decide +kernel
theorem dX7_spreadAt_41 : decode cX7_spreadAt 41 = .ok (.if_icmp .lt 32, 3) := by decide +kernel
theorem dX7_spreadAt_44 : decode cX7_spreadAt 44 = .ok (.iload_n 3, 1) := by decide +kernel
theorem dX7_spreadAt_45 : decode cX7_spreadAt 45 = .ok (.aload_n 0, 1) := by decide +kernel
theorem dX7_spreadAt_46 : decode cX7_spreadAt 46 = .ok (.getfield 41, 3) := by decide +kernel
theorem dX7_spreadAt_49 : decode cX7_spreadAt 49 = .ok (.iload 4, 2) := by decide +kernel
theorem dX7_spreadAt_51 : decode cX7_spreadAt 51 = .ok (.iaload, 1) := by decide +kernel
theorem dX7_spreadAt_52 : decode cX7_spreadAt 52 = .ok (.iconst 3, 1) := by decide +kernel
theorem dX7_spreadAt_53 : decode cX7_spreadAt 53 = .ok (.aload_n 0, 1) := by decide +kernel
theorem dX7_spreadAt_54 : decode cX7_spreadAt 54 = .ok (.getfield 38, 3) := by decide +kernel
theorem dX7_spreadAt_57 : decode cX7_spreadAt 57 = .ok (.iload 4, 2) := by decide +kernel
theorem dX7_spreadAt_59 : decode cX7_spreadAt 59 = .ok (.iaload, 1) := by decide +kernel
theorem dX7_spreadAt_60 : decode cX7_spreadAt 60 = .ok (.invokestatic 245, 3) := by decide +kernel
theorem dX7_spreadAt_63 : decode cX7_spreadAt 63 = .ok (.iadd, 1) := by decide +kernel
theorem dX7_spreadAt_64 : decode cX7_spreadAt 64 = .ok (.imul, 1) := by decide +kernel
theorem dX7_spreadAt_65 : decode cX7_spreadAt 65 = .ok (.isub, 1) := by decide +kernel
theorem dX7_spreadAt_66 : decode cX7_spreadAt 66 = .ok (.istore_n 3, 1) := by decide +kernel
theorem dX7_spreadAt_67 : decode cX7_spreadAt 67 = .ok (.iinc 4 1, 3) := by decide +kernel
theorem dX7_spreadAt_70 : decode cX7_spreadAt 70 = .ok (.goto (-50), 3) := by decide +kernel
theorem dX7_spreadAt_73 : decode cX7_spreadAt 73 = .ok (.aload_n 0, 1) := by decide +kernel
theorem dX7_spreadAt_74 : decode cX7_spreadAt 74 = .ok (.getfield 38, 3) := by decide +kernel
theorem dX7_spreadAt_77 : decode cX7_spreadAt 77 = .ok (.iload 4, 2) := by decide +kernel
theorem dX7_spreadAt_79 : decode cX7_spreadAt 79 = .ok (.iaload, 1) := by decide +kernel
theorem dX7_spreadAt_80 : decode cX7_spreadAt 80 = .ok (.invokestatic 245, 3) := by decide +kernel
theorem dX7_spreadAt_83 : decode cX7_spreadAt 83 = .ok (.istore 5, 2) := by decide +kernel
theorem dX7_spreadAt_85 : decode cX7_spreadAt 85 = .ok (.iload_n 3, 1) := by decide +kernel
theorem dX7_spreadAt_86 : decode cX7_spreadAt 86 = .ok (.iconst 3, 1) := by decide +kernel
theorem dX7_spreadAt_87 : decode cX7_spreadAt 87 = .ok (.iload 5, 2) := by decide +kernel
theorem dX7_spreadAt_89 : decode cX7_spreadAt 89 = .ok (.iadd, 1) := by decide +kernel
theorem dX7_spreadAt_90 : decode cX7_spreadAt 90 = .ok (.irem, 1) := by decide +kernel
theorem dX7_spreadAt_91 : decode cX7_spreadAt 91 = .ok (.istore_n 3, 1) := by decide +kernel
theorem dX7_spreadAt_92 : decode cX7_spreadAt 92 = .ok (.iload_n 3, 1) := by decide +kernel
theorem dX7_spreadAt_93 : decode cX7_spreadAt 93 = .ok (.ifCond .ne 14, 3) := by decide +kernel
theorem dX7_spreadAt_96 : decode cX7_spreadAt 96 = .ok (.bipush 97, 2) := by decide +kernel
theorem dX7_spreadAt_98 : decode cX7_spreadAt 98 = .ok (.aload_n 0, 1) := by decide +kernel
theorem dX7_spreadAt_99 : decode cX7_spreadAt 99 = .ok (.getfield 32, 3) := by decide +kernel
theorem dX7_spreadAt_102 : decode cX7_spreadAt 102 = .ok (.iload 4, 2) := by decide +kernel
theorem dX7_spreadAt_104 : decode cX7_spreadAt 104 = .ok (.iaload, 1) := by decide +kernel
theorem dX7_spreadAt_105 : decode cX7_spreadAt 105 = .ok (.iadd, 1) := by decide +kernel
theorem dX7_spreadAt_106 : decode cX7_spreadAt 106 = .ok (.ireturn, 1) := by decide +kernel
theorem dX7_spreadAt_107 : decode cX7_spreadAt 107 = .ok (.iload_n 3, 1) := by decide +kernel
theorem dX7_spreadAt_108 : decode cX7_spreadAt 108 = .ok (.iconst 1, 1) := by decide +kernel
theorem dX7_spreadAt_109 : decode cX7_spreadAt 109 = .ok (.if_icmp .ne 21, 3) := by decide +kernel
theorem dX7_spreadAt_112 : decode cX7_spreadAt 112 = .ok (.aload_n 0, 1) := by decide +kernel
theorem dX7_spreadAt_113 : decode cX7_spreadAt 113 = .ok (.getfield 35, 3) := by decide +kernel
theorem dX7_spreadAt_116 : decode cX7_spreadAt 116 = .ok (.iload 4, 2) := by decide +kernel
theorem dX7_spreadAt_118 : decode cX7_spreadAt 118 = .ok (.baload, 1) := by decide +kernel
theorem dX7_spreadAt_119 : decode cX7_spreadAt 119 = .ok (.ifCond .eq 8, 3) := by decide +kernel
theorem dX7_spreadAt_122 : decode cX7_spreadAt 122 = .ok (.bipush 45, 2) := by decide +kernel
theorem dX7_spreadAt_124 : decode cX7_spreadAt 124 = .ok (.goto 5, 3) := by decide +kernel
theorem dX7_spreadAt_127 : decode cX7_spreadAt 127 = .ok (.bipush 43, 2) := by decide +kernel
theorem dX7_spreadAt_129 : decode cX7_spreadAt 129 = .ok (.ireturn, 1) := by decide +kernel
theorem dX7_spreadAt_130 : decode cX7_spreadAt 130 = .ok (.iload_n 3, 1) := by decide +kernel
theorem dX7_spreadAt_131 : decode cX7_spreadAt 131 = .ok (.iconst 2, 1) := by decide +kernel
theorem dX7_spreadAt_132 : decode cX7_spreadAt 132 = .ok (.iload 5, 2) := by decide +kernel
theorem dX7_spreadAt_134 : decode cX7_spreadAt 134 = .ok (.iadd, 1) := by decide +kernel
theorem dX7_spreadAt_135 : decode cX7_spreadAt 135 = .ok (.if_icmp .ne 6, 3) := by decide +kernel
theorem dX7_spreadAt_138 : decode cX7_spreadAt 138 = .ok (.bipush 32, 2) := by decide +kernel
theorem dX7_spreadAt_140 : decode cX7_spreadAt 140 = .ok (.ireturn, 1) := by decide +kernel
theorem dX7_spreadAt_141 : decode cX7_spreadAt 141 = .ok (.aload_n 0, 1) := by decide +kernel
theorem dX7_spreadAt_142 : decode cX7_spreadAt 142 = .ok (.getfield 38, 3) := by decide +kernel
theorem dX7_spreadAt_145 : decode cX7_spreadAt 145 = .ok (.iload 4, 2) := by decide +kernel
theorem dX7_spreadAt_147 : decode cX7_spreadAt 147 = .ok (.iaload, 1) := by decide +kernel
theorem dX7_spreadAt_148 : decode cX7_spreadAt 148 = .ok (.istore 6, 2) := by decide +kernel
theorem dX7_spreadAt_150 : decode cX7_spreadAt 150 = .ok (.iload 5, 2) := by decide +kernel
theorem dX7_spreadAt_152 : decode cX7_spreadAt 152 = .ok (.iconst 1, 1) := by decide +kernel
theorem dX7_spreadAt_153 : decode cX7_spreadAt 153 = .ok (.isub, 1) := by decide +kernel
theorem dX7_spreadAt_154 : decode cX7_spreadAt 154 = .ok (.istore 7, 2) := by decide +kernel
theorem dX7_spreadAt_156 : decode cX7_spreadAt 156 = .ok (.iload 7, 2) := by decide +kernel
theorem dX7_spreadAt_158 : decode cX7_spreadAt 158 = .ok (.iload_n 3, 1) := by decide +kernel
theorem dX7_spreadAt_159 : decode cX7_spreadAt 159 = .ok (.iconst 2, 1) := by decide +kernel
theorem dX7_spreadAt_160 : decode cX7_spreadAt 160 = .ok (.isub, 1) := by decide +kernel
theorem dX7_spreadAt_161 : decode cX7_spreadAt 161 = .ok (.if_icmp .le 16, 3) := by decide +kernel
theorem dX7_spreadAt_164 : decode cX7_spreadAt 164 = .ok (.iload 6, 2) := by decide +kernel
theorem dX7_spreadAt_166 : decode cX7_spreadAt 166 = .ok (.bipush 10, 2) := by decide +kernel
theorem dX7_spreadAt_168 : decode cX7_spreadAt 168 = .ok (.idiv, 1) := by decide +kernel
theorem dX7_spreadAt_169 : decode cX7_spreadAt 169 = .ok (.istore 6, 2) := by decide +kernel
theorem dX7_spreadAt_171 : decode cX7_spreadAt 171 = .ok (.iinc 7 (-1), 3) := by decide +kernel
theorem dX7_spreadAt_174 : decode cX7_spreadAt 174 = .ok (.goto (-18), 3) := by decide +kernel
theorem dX7_spreadAt_177 : decode cX7_spreadAt 177 = .ok (.bipush 48, 2) := by decide +kernel
theorem dX7_spreadAt_179 : decode cX7_spreadAt 179 = .ok (.iload 6, 2) := by decide +kernel
theorem dX7_spreadAt_181 : decode cX7_spreadAt 181 = .ok (.bipush 10, 2) := by decide +kernel
theorem dX7_spreadAt_183 : decode cX7_spreadAt 183 = .ok (.irem, 1) := by decide +kernel
theorem dX7_spreadAt_184 : decode cX7_spreadAt 184 = .ok (.iadd, 1) := by decide +kernel
theorem dX7_spreadAt_185 : decode cX7_spreadAt 185 = .ok (.ireturn, 1) := by decide +kernel
set_option maxRecDepth 20000 in
theorem ggX7_longOf_X7_spreadLong_c0 : GoodIn wsX7_longOf ([.code yX7_spreadLong cX7_spreadLong 4 (some .int)]) := goodIn_r _ [7] (by decide +kernel) (by decide +kernel)
set_option maxRecDepth 20000 in
theorem ggX7_longOf_X7_spreadLong_c1 : GoodIn wsX7_longOf ([.fieldLink RX7 13 "PostlintModel" "isStruck" "[Z", .fieldLink RX7 29 "PostlintModel" "posts" "[I", .fieldLink RX7 41 "PostlintModel" "times" "[I", .fieldLink RX7 38 "PostlintModel" "amount" "[I", .methodLink RX7 245 yX7_numberLong, .static yX7_numberLong, .initialized RX7, .code yX7_numberLong cX7_numberLong 1 (some .int)]) := goodIn_r _ [8, 9, 10, 11, 12, 13, 6, 14] (by decide +kernel) (by decide +kernel)
set_option maxRecDepth 20000 in
theorem ggX7_longOf_X7_spreadLong_c2 : GoodIn wsX7_longOf (wsX70) := goodIn_r _ [15, 16, 17, 18, 19, 20, 21, 22, 23, 24, 25, 26, 27, 28, 29, 30, 31, 32, 33, 34, 35, 36, 37, 38, 39, 40, 41, 42, 43, 44, 45, 46, 47, 48, 49, 50, 51, 52, 53, 54, 55, 56, 57, 58, 59, 60, 61] (by decide +kernel) (by decide +kernel)
set_option maxRecDepth 20000 in
theorem ggX7_longOf_X7_spreadLong : GoodIn wsX7_longOf wsX7_spreadLong := (goodIn_c1 ggX7_longOf_X7_spreadLong_c0 (goodIn_app ggX7_longOf_X7_spreadLong_c1 ggX7_longOf_X7_spreadLong_c2))
set_option maxRecDepth 20000 in
theorem gX7_longOf_X7_spreadLong : GoodIn wsX7_longOf (wsV RX7 248 RX7 yX7_spreadLong wsX7_spreadLong) := goodIn_app (goodIn_of _ (by decide +kernel)) ggX7_longOf_X7_spreadLong
theorem dX7_longOf_0 : decode cX7_longOf 0 = .ok (.iload_n 2, 1) := by decide +kernel
theorem dX7_longOf_1 : decode cX7_longOf 1 = .ok (.ifCond .ne 12, 3) := by decide +kernel
theorem dX7_longOf_4 : decode cX7_longOf 4 = .ok (.aload_n 0, 1) := by decide +kernel
theorem dX7_longOf_5 : decode cX7_longOf 5 = .ok (.getfield 17, 3) := by decide +kernel
theorem dX7_longOf_8 : decode cX7_longOf 8 = .ok (.iload_n 1, 1) := by decide +kernel
theorem dX7_longOf_9 : decode cX7_longOf 9 = .ok (.iaload, 1) := by decide +kernel
theorem dX7_longOf_10 : decode cX7_longOf 10 = .ok (.goto 22, 3) := by decide +kernel
theorem dX7_longOf_13 : decode cX7_longOf 13 = .ok (.iload_n 2, 1) := by decide +kernel
theorem dX7_longOf_14 : decode cX7_longOf 14 = .ok (.iconst 1, 1) := by decide +kernel
theorem dX7_longOf_15 : decode cX7_longOf 15 = .ok (.if_icmp .ne 12, 3) := by decide +kernel
theorem dX7_longOf_18 : decode cX7_longOf 18 = .ok (.aload_n 0, 1) := by decide +kernel
theorem dX7_longOf_19 : decode cX7_longOf 19 = .ok (.getfield 23, 3) := by decide +kernel
theorem dX7_longOf_22 : decode cX7_longOf 22 = .ok (.iload_n 1, 1) := by decide +kernel
theorem dX7_longOf_23 : decode cX7_longOf 23 = .ok (.iaload, 1) := by decide +kernel
theorem dX7_longOf_24 : decode cX7_longOf 24 = .ok (.goto 8, 3) := by decide +kernel
theorem dX7_longOf_27 : decode cX7_longOf 27 = .ok (.aload_n 0, 1) := by decide +kernel
theorem dX7_longOf_28 : decode cX7_longOf 28 = .ok (.iload_n 1, 1) := by decide +kernel
theorem dX7_longOf_29 : decode cX7_longOf 29 = .ok (.invokevirtual 248, 3) := by decide +kernel
theorem dX7_longOf_32 : decode cX7_longOf 32 = .ok (.ireturn, 1) := by decide +kernel
set_option maxRecDepth 20000 in
theorem ggX7_signAt_X7_isEntry_c0 : GoodIn wsX7_signAt ([.code yX7_isEntry cX7_isEntry 2 (some .boolean)]) := goodIn_r _ [7] (by decide +kernel) (by decide +kernel)
set_option maxRecDepth 20000 in
theorem ggX7_signAt_X7_isEntry_c1 : GoodIn wsX7_signAt ([.fieldLink RX7 126 "PostlintModel" "entries" "I", .methodLink RX7 129 yX7_isIn, .static yX7_isIn, .initialized RX7, .code yX7_isIn cX7_isIn 3 (some .boolean)]) := goodIn_r _ [8, 9, 10, 6, 11] (by decide +kernel) (by decide +kernel)
set_option maxRecDepth 20000 in
theorem ggX7_signAt_X7_isEntry_c2 : GoodIn wsX7_signAt (wsX70) := goodIn_r _ [40, 41, 42, 43, 44, 45, 46, 47, 48, 49, 50, 51, 52, 53, 54, 55, 56, 57, 58, 59, 60, 61, 62, 63, 64, 65, 66, 67, 68, 69, 70, 71, 72, 73, 74, 75, 76, 77, 78, 79, 80, 81, 82, 83, 84, 85, 86] (by decide +kernel) (by decide +kernel)
set_option maxRecDepth 20000 in
theorem ggX7_signAt_X7_isEntry : GoodIn wsX7_signAt wsX7_isEntry := (goodIn_c1 ggX7_signAt_X7_isEntry_c0 (goodIn_app ggX7_signAt_X7_isEntry_c1 ggX7_signAt_X7_isEntry_c2))
set_option maxRecDepth 20000 in
theorem gX7_signAt_X7_isEntry : GoodIn wsX7_signAt (wsV RX7 206 RX7 yX7_isEntry wsX7_isEntry) := goodIn_app (goodIn_of _ (by decide +kernel)) ggX7_signAt_X7_isEntry
set_option maxRecDepth 20000 in
theorem ggX7_signAt_X7_isIn : GoodIn wsX7_signAt wsX7_isIn := goodIn_r _ [11] (by decide +kernel) (by decide +kernel)
set_option maxRecDepth 20000 in
theorem gX7_signAt_X7_isIn : GoodIn wsX7_signAt (va_wsS RX7 129 yX7_isIn wsX7_isIn) := goodIn_app (goodIn_of _ (by decide +kernel)) ggX7_signAt_X7_isIn
set_option maxRecDepth 20000 in
theorem ggX7_signAt_X7_isOf_c0 : GoodIn wsX7_signAt ([.code yX7_isOf cX7_isOf 2 (some .boolean)]) := goodIn_r _ [15] (by decide +kernel) (by decide +kernel)
set_option maxRecDepth 20000 in
theorem ggX7_signAt_X7_isOf_c1 : GoodIn wsX7_signAt ([.fieldLink RX7 122 "PostlintModel" "thrown" "I"]) := goodIn_r _ [16] (by decide +kernel) (by decide +kernel)
set_option maxRecDepth 20000 in
theorem ggX7_signAt_X7_isOf_c2 : GoodIn wsX7_signAt (wsX70) := goodIn_r _ [40, 41, 42, 43, 44, 45, 46, 47, 48, 49, 50, 51, 52, 53, 54, 55, 56, 57, 58, 59, 60, 61, 62, 63, 64, 65, 66, 67, 68, 69, 70, 71, 72, 73, 74, 75, 76, 77, 78, 79, 80, 81, 82, 83, 84, 85, 86] (by decide +kernel) (by decide +kernel)
set_option maxRecDepth 20000 in
theorem ggX7_signAt_X7_isOf : GoodIn wsX7_signAt wsX7_isOf := (goodIn_c1 ggX7_signAt_X7_isOf_c0 (goodIn_app ggX7_signAt_X7_isOf_c1 ggX7_signAt_X7_isOf_c2))
set_option maxRecDepth 20000 in
theorem gX7_signAt_X7_isOf : GoodIn wsX7_signAt (wsV RX7 189 RX7 yX7_isOf wsX7_isOf) := goodIn_app (goodIn_of _ (by decide +kernel)) ggX7_signAt_X7_isOf
set_option maxRecDepth 20000 in
theorem ggX7_signAt_X7_longOf_c0 : GoodIn wsX7_signAt ([.code yX7_longOf cX7_longOf 3 (some .int)]) := goodIn_r _ [20] (by decide +kernel) (by decide +kernel)
set_option maxRecDepth 20000 in
theorem ggX7_signAt_X7_longOf_c1 : GoodIn wsX7_signAt ([.fieldLink RX7 17 "PostlintModel" "typed" "[I", .fieldLink RX7 23 "PostlintModel" "written" "[I", .methodLink RX7 248 yX7_spreadLong, .instanceMethod yX7_spreadLong, .selects RX7 yX7_spreadLong yX7_spreadLong, .initialized RX7, .code yX7_spreadLong cX7_spreadLong 4 (some .int), .fieldLink RX7 13 "PostlintModel" "isStruck" "[Z", .fieldLink RX7 29 "PostlintModel" "posts" "[I", .fieldLink RX7 41 "PostlintModel" "times" "[I", .fieldLink RX7 38 "PostlintModel" "amount" "[I", .methodLink RX7 245 yX7_numberLong, .static yX7_numberLong, .code yX7_numberLong cX7_numberLong 1 (some .int)]) := goodIn_r _ [21, 22, 23, 24, 25, 6, 26, 27, 28, 29, 30, 31, 32, 33] (by decide +kernel) (by decide +kernel)
set_option maxRecDepth 20000 in
theorem ggX7_signAt_X7_longOf_c2 : GoodIn wsX7_signAt (wsX70) := goodIn_r _ [40, 41, 42, 43, 44, 45, 46, 47, 48, 49, 50, 51, 52, 53, 54, 55, 56, 57, 58, 59, 60, 61, 62, 63, 64, 65, 66, 67, 68, 69, 70, 71, 72, 73, 74, 75, 76, 77, 78, 79, 80, 81, 82, 83, 84, 85, 86] (by decide +kernel) (by decide +kernel)
set_option maxRecDepth 20000 in
theorem ggX7_signAt_X7_longOf : GoodIn wsX7_signAt wsX7_longOf := (goodIn_c1 ggX7_signAt_X7_longOf_c0 (goodIn_app ggX7_signAt_X7_longOf_c1 ggX7_signAt_X7_longOf_c2))
set_option maxRecDepth 20000 in
theorem gX7_signAt_X7_longOf : GoodIn wsX7_signAt (wsV RX7 251 RX7 yX7_longOf wsX7_longOf) := goodIn_app (goodIn_of _ (by decide +kernel)) ggX7_signAt_X7_longOf
set_option maxRecDepth 20000 in
theorem ggX7_signAt_X7_spreadAt_c0 : GoodIn wsX7_signAt ([.code yX7_spreadAt cX7_spreadAt 8 (some .int)]) := goodIn_r _ [37] (by decide +kernel) (by decide +kernel)
set_option maxRecDepth 20000 in
theorem ggX7_signAt_X7_spreadAt_c1 : GoodIn wsX7_signAt ([.fieldLink RX7 13 "PostlintModel" "isStruck" "[Z", .fieldLink RX7 41 "PostlintModel" "times" "[I", .fieldLink RX7 38 "PostlintModel" "amount" "[I", .fieldLink RX7 32 "PostlintModel" "account" "[I", .fieldLink RX7 35 "PostlintModel" "isLess" "[Z", .methodLink RX7 245 yX7_numberLong, .static yX7_numberLong, .initialized RX7, .code yX7_numberLong cX7_numberLong 1 (some .int)]) := goodIn_r _ [27, 29, 30, 38, 39, 31, 32, 6, 33] (by decide +kernel) (by decide +kernel)
set_option maxRecDepth 20000 in
theorem ggX7_signAt_X7_spreadAt_c2 : GoodIn wsX7_signAt (wsX70) := goodIn_r _ [40, 41, 42, 43, 44, 45, 46, 47, 48, 49, 50, 51, 52, 53, 54, 55, 56, 57, 58, 59, 60, 61, 62, 63, 64, 65, 66, 67, 68, 69, 70, 71, 72, 73, 74, 75, 76, 77, 78, 79, 80, 81, 82, 83, 84, 85, 86] (by decide +kernel) (by decide +kernel)
set_option maxRecDepth 20000 in
theorem ggX7_signAt_X7_spreadAt : GoodIn wsX7_signAt wsX7_spreadAt := (goodIn_c1 ggX7_signAt_X7_spreadAt_c0 (goodIn_app ggX7_signAt_X7_spreadAt_c1 ggX7_signAt_X7_spreadAt_c2))
set_option maxRecDepth 20000 in
theorem gX7_signAt_X7_spreadAt : GoodIn wsX7_signAt (wsV RX7 254 RX7 yX7_spreadAt wsX7_spreadAt) := goodIn_app (goodIn_of _ (by decide +kernel)) ggX7_signAt_X7_spreadAt
theorem dX7_signAt_0 : decode cX7_signAt 0 = .ok (.aload_n 0, 1) := by decide +kernel
theorem dX7_signAt_1 : decode cX7_signAt 1 = .ok (.aload_n 0, 1) := by decide +kernel
theorem dX7_signAt_2 : decode cX7_signAt 2 = .ok (.iload_n 1, 1) := by decide +kernel
theorem dX7_signAt_3 : decode cX7_signAt 3 = .ok (.invokevirtual 206, 3) := by decide +kernel
theorem dX7_signAt_6 : decode cX7_signAt 6 = .ok (.ifCond .eq 7, 3) := by decide +kernel
theorem dX7_signAt_9 : decode cX7_signAt 9 = .ok (.iload_n 3, 1) := by decide +kernel
theorem dX7_signAt_10 : decode cX7_signAt 10 = .ok (.ifCond .ge 7, 3) := by decide +kernel
theorem dX7_signAt_13 : decode cX7_signAt 13 = .ok (.iconst 1, 1) := by decide +kernel
theorem dX7_signAt_14 : decode cX7_signAt 14 = .ok (.goto 17, 3) := by decide +kernel
theorem dX7_signAt_17 : decode cX7_signAt 17 = .ok (.iload_n 2, 1) := by decide +kernel
theorem dX7_signAt_18 : decode cX7_signAt 18 = .ok (.iconst 0, 1) := by decide +kernel
theorem dX7_signAt_19 : decode cX7_signAt 19 = .ok (.iconst 2, 1) := by decide +kernel
theorem dX7_signAt_20 : decode cX7_signAt 20 = .ok (.invokestatic 129, 3) := by decide +kernel
theorem dX7_signAt_23 : decode cX7_signAt 23 = .ok (.ifCond .eq 7, 3) := by decide +kernel
theorem dX7_signAt_26 : decode cX7_signAt 26 = .ok (.iconst 0, 1) := by decide +kernel
theorem dX7_signAt_27 : decode cX7_signAt 27 = .ok (.goto 4, 3) := by decide +kernel
theorem dX7_signAt_30 : decode cX7_signAt 30 = .ok (.iconst 2, 1) := by decide +kernel
theorem dX7_signAt_31 : decode cX7_signAt 31 = .ok (.invokevirtual 189, 3) := by decide +kernel
theorem dX7_signAt_34 : decode cX7_signAt 34 = .ok (.ifCond .ne 5, 3) := by decide +kernel
theorem dX7_signAt_37 : decode cX7_signAt 37 = .ok (.iconst 0, 1) := by decide +kernel
theorem dX7_signAt_38 : decode cX7_signAt 38 = .ok (.ireturn, 1) := by decide +kernel
theorem dX7_signAt_39 : decode cX7_signAt 39 = .ok (.iload_n 3, 1) := by decide +kernel
theorem dX7_signAt_40 : decode cX7_signAt 40 = .ok (.aload_n 0, 1) := by decide +kernel
theorem dX7_signAt_41 : decode cX7_signAt 41 = .ok (.iload_n 1, 1) := by decide +kernel
theorem dX7_signAt_42 : decode cX7_signAt 42 = .ok (.iload_n 2, 1) := by decide +kernel
theorem dX7_signAt_43 : decode cX7_signAt 43 = .ok (.invokevirtual 251, 3) := by decide +kernel
theorem dX7_signAt_46 : decode cX7_signAt 46 = .ok (.if_icmp .lt 5, 3) := by decide +kernel
theorem dX7_signAt_49 : decode cX7_signAt 49 = .ok (.iconst (-1), 1) := by decide +kernel
theorem dX7_signAt_50 : decode cX7_signAt 50 = .ok (.ireturn, 1) := by decide +kernel
theorem dX7_signAt_51 : decode cX7_signAt 51 = .ok (.iload_n 2, 1) := by decide +kernel
theorem dX7_signAt_52 : decode cX7_signAt 52 = .ok (.ifCond .ne 17, 3) := by decide +kernel
theorem dX7_signAt_55 : decode cX7_signAt 55 = .ok (.aload_n 0, 1) := by decide +kernel
theorem dX7_signAt_56 : decode cX7_signAt 56 = .ok (.getfield 20, 3) := by decide +kernel
theorem dX7_signAt_59 : decode cX7_signAt 59 = .ok (.bipush 60, 2) := by decide +kernel
theorem dX7_signAt_61 : decode cX7_signAt 61 = .ok (.iload_n 1, 1) := by decide +kernel
theorem dX7_signAt_62 : decode cX7_signAt 62 = .ok (.imul, 1) := by decide +kernel
theorem dX7_signAt_63 : decode cX7_signAt 63 = .ok (.iload_n 3, 1) := by decide +kernel
theorem dX7_signAt_64 : decode cX7_signAt 64 = .ok (.iadd, 1) := by decide +kernel
theorem dX7_signAt_65 : decode cX7_signAt 65 = .ok (.iaload, 1) := by decide +kernel
theorem dX7_signAt_66 : decode cX7_signAt 66 = .ok (.goto 28, 3) := by decide +kernel
theorem dX7_signAt_69 : decode cX7_signAt 69 = .ok (.iload_n 2, 1) := by decide +kernel
theorem dX7_signAt_70 : decode cX7_signAt 70 = .ok (.iconst 1, 1) := by decide +kernel
theorem dX7_signAt_71 : decode cX7_signAt 71 = .ok (.if_icmp .ne 17, 3) := by decide +kernel
theorem dX7_signAt_74 : decode cX7_signAt 74 = .ok (.aload_n 0, 1) := by decide +kernel
theorem dX7_signAt_75 : decode cX7_signAt 75 = .ok (.getfield 26, 3) := by decide +kernel
theorem dX7_signAt_78 : decode cX7_signAt 78 = .ok (.bipush 60, 2) := by decide +kernel
theorem dX7_signAt_80 : decode cX7_signAt 80 = .ok (.iload_n 1, 1) := by decide +kernel
theorem dX7_signAt_81 : decode cX7_signAt 81 = .ok (.imul, 1) := by decide +kernel
theorem dX7_signAt_82 : decode cX7_signAt 82 = .ok (.iload_n 3, 1) := by decide +kernel
theorem dX7_signAt_83 : decode cX7_signAt 83 = .ok (.iadd, 1) := by decide +kernel
theorem dX7_signAt_84 : decode cX7_signAt 84 = .ok (.iaload, 1) := by decide +kernel
theorem dX7_signAt_85 : decode cX7_signAt 85 = .ok (.goto 9, 3) := by decide +kernel
theorem dX7_signAt_88 : decode cX7_signAt 88 = .ok (.aload_n 0, 1) := by decide +kernel
theorem dX7_signAt_89 : decode cX7_signAt 89 = .ok (.iload_n 1, 1) := by decide +kernel
theorem dX7_signAt_90 : decode cX7_signAt 90 = .ok (.iload_n 3, 1) := by decide +kernel
theorem dX7_signAt_91 : decode cX7_signAt 91 = .ok (.invokevirtual 254, 3) := by decide +kernel
theorem dX7_signAt_94 : decode cX7_signAt 94 = .ok (.ireturn, 1) := by decide +kernel
set_option maxRecDepth 20000 in
theorem ggX7_length_X7_isEntry_c0 : GoodIn wsX7_length ([.code yX7_isEntry cX7_isEntry 2 (some .boolean)]) := goodIn_r _ [5] (by decide +kernel) (by decide +kernel)
set_option maxRecDepth 20000 in
theorem ggX7_length_X7_isEntry_c1 : GoodIn wsX7_length ([.fieldLink RX7 126 "PostlintModel" "entries" "I", .methodLink RX7 129 yX7_isIn, .static yX7_isIn, .initialized RX7, .code yX7_isIn cX7_isIn 3 (some .boolean)]) := goodIn_r _ [6, 7, 8, 4, 9] (by decide +kernel) (by decide +kernel)
set_option maxRecDepth 20000 in
theorem ggX7_length_X7_isEntry_c2 : GoodIn wsX7_length (wsX70) := goodIn_r _ [32, 33, 34, 35, 36, 37, 38, 39, 40, 41, 42, 43, 44, 45, 46, 47, 48, 49, 50, 51, 52, 53, 54, 55, 56, 57, 58, 59, 60, 61, 62, 63, 64, 65, 66, 67, 68, 69, 70, 71, 72, 73, 74, 75, 76, 77, 78] (by decide +kernel) (by decide +kernel)
set_option maxRecDepth 20000 in
theorem ggX7_length_X7_isEntry : GoodIn wsX7_length wsX7_isEntry := (goodIn_c1 ggX7_length_X7_isEntry_c0 (goodIn_app ggX7_length_X7_isEntry_c1 ggX7_length_X7_isEntry_c2))
set_option maxRecDepth 20000 in
theorem gX7_length_X7_isEntry : GoodIn wsX7_length (wsV RX7 206 RX7 yX7_isEntry wsX7_isEntry) := goodIn_app (goodIn_of _ (by decide +kernel)) ggX7_length_X7_isEntry
set_option maxRecDepth 20000 in
theorem ggX7_length_X7_isIn : GoodIn wsX7_length wsX7_isIn := goodIn_r _ [9] (by decide +kernel) (by decide +kernel)
set_option maxRecDepth 20000 in
theorem gX7_length_X7_isIn : GoodIn wsX7_length (va_wsS RX7 129 yX7_isIn wsX7_isIn) := goodIn_app (goodIn_of _ (by decide +kernel)) ggX7_length_X7_isIn
set_option maxRecDepth 20000 in
theorem ggX7_length_X7_isOf_c0 : GoodIn wsX7_length ([.code yX7_isOf cX7_isOf 2 (some .boolean)]) := goodIn_r _ [13] (by decide +kernel) (by decide +kernel)
set_option maxRecDepth 20000 in
theorem ggX7_length_X7_isOf_c1 : GoodIn wsX7_length ([.fieldLink RX7 122 "PostlintModel" "thrown" "I"]) := goodIn_r _ [14] (by decide +kernel) (by decide +kernel)
set_option maxRecDepth 20000 in
theorem ggX7_length_X7_isOf_c2 : GoodIn wsX7_length (wsX70) := goodIn_r _ [32, 33, 34, 35, 36, 37, 38, 39, 40, 41, 42, 43, 44, 45, 46, 47, 48, 49, 50, 51, 52, 53, 54, 55, 56, 57, 58, 59, 60, 61, 62, 63, 64, 65, 66, 67, 68, 69, 70, 71, 72, 73, 74, 75, 76, 77, 78] (by decide +kernel) (by decide +kernel)
set_option maxRecDepth 20000 in
theorem ggX7_length_X7_isOf : GoodIn wsX7_length wsX7_isOf := (goodIn_c1 ggX7_length_X7_isOf_c0 (goodIn_app ggX7_length_X7_isOf_c1 ggX7_length_X7_isOf_c2))
set_option maxRecDepth 20000 in
theorem gX7_length_X7_isOf : GoodIn wsX7_length (wsV RX7 189 RX7 yX7_isOf wsX7_isOf) := goodIn_app (goodIn_of _ (by decide +kernel)) ggX7_length_X7_isOf
set_option maxRecDepth 20000 in
theorem ggX7_length_X7_longOf_c0 : GoodIn wsX7_length ([.code yX7_longOf cX7_longOf 3 (some .int)]) := goodIn_r _ [18] (by decide +kernel) (by decide +kernel)
set_option maxRecDepth 20000 in
theorem ggX7_length_X7_longOf_c1 : GoodIn wsX7_length ([.fieldLink RX7 17 "PostlintModel" "typed" "[I", .fieldLink RX7 23 "PostlintModel" "written" "[I", .methodLink RX7 248 yX7_spreadLong, .instanceMethod yX7_spreadLong, .selects RX7 yX7_spreadLong yX7_spreadLong, .initialized RX7, .code yX7_spreadLong cX7_spreadLong 4 (some .int), .fieldLink RX7 13 "PostlintModel" "isStruck" "[Z", .fieldLink RX7 29 "PostlintModel" "posts" "[I", .fieldLink RX7 41 "PostlintModel" "times" "[I", .fieldLink RX7 38 "PostlintModel" "amount" "[I", .methodLink RX7 245 yX7_numberLong, .static yX7_numberLong, .code yX7_numberLong cX7_numberLong 1 (some .int)]) := goodIn_r _ [19, 20, 21, 22, 23, 4, 24, 25, 26, 27, 28, 29, 30, 31] (by decide +kernel) (by decide +kernel)
set_option maxRecDepth 20000 in
theorem ggX7_length_X7_longOf_c2 : GoodIn wsX7_length (wsX70) := goodIn_r _ [32, 33, 34, 35, 36, 37, 38, 39, 40, 41, 42, 43, 44, 45, 46, 47, 48, 49, 50, 51, 52, 53, 54, 55, 56, 57, 58, 59, 60, 61, 62, 63, 64, 65, 66, 67, 68, 69, 70, 71, 72, 73, 74, 75, 76, 77, 78] (by decide +kernel) (by decide +kernel)
set_option maxRecDepth 20000 in
theorem ggX7_length_X7_longOf : GoodIn wsX7_length wsX7_longOf := (goodIn_c1 ggX7_length_X7_longOf_c0 (goodIn_app ggX7_length_X7_longOf_c1 ggX7_length_X7_longOf_c2))
set_option maxRecDepth 20000 in
theorem gX7_length_X7_longOf : GoodIn wsX7_length (wsV RX7 251 RX7 yX7_longOf wsX7_longOf) := goodIn_app (goodIn_of _ (by decide +kernel)) ggX7_length_X7_longOf
theorem dX7_length_0 : decode cX7_length 0 = .ok (.aload_n 0, 1) := by decide +kernel
theorem dX7_length_1 : decode cX7_length 1 = .ok (.aload_n 0, 1) := by decide +kernel
theorem dX7_length_2 : decode cX7_length 2 = .ok (.iload_n 1, 1) := by decide +kernel
theorem dX7_length_3 : decode cX7_length 3 = .ok (.invokevirtual 206, 3) := by decide +kernel
theorem dX7_length_6 : decode cX7_length 6 = .ok (.ifCond .ne 7, 3) := by decide +kernel
theorem dX7_length_9 : decode cX7_length 9 = .ok (.iconst 1, 1) := by decide +kernel
theorem dX7_length_10 : decode cX7_length 10 = .ok (.goto 17, 3) := by decide +kernel
theorem dX7_length_13 : decode cX7_length 13 = .ok (.iload_n 2, 1) := by decide +kernel
theorem dX7_length_14 : decode cX7_length 14 = .ok (.iconst 0, 1) := by decide +kernel
theorem dX7_length_15 : decode cX7_length 15 = .ok (.iconst 2, 1) := by decide +kernel
theorem dX7_length_16 : decode cX7_length 16 = .ok (.invokestatic 129, 3) := by decide +kernel
theorem dX7_length_19 : decode cX7_length 19 = .ok (.ifCond .eq 7, 3) := by decide +kernel
theorem dX7_length_22 : decode cX7_length 22 = .ok (.iconst 0, 1) := by decide +kernel
theorem dX7_length_23 : decode cX7_length 23 = .ok (.goto 4, 3) := by decide +kernel
theorem dX7_length_26 : decode cX7_length 26 = .ok (.iconst 2, 1) := by decide +kernel
theorem dX7_length_27 : decode cX7_length 27 = .ok (.invokevirtual 189, 3) := by decide +kernel
theorem dX7_length_30 : decode cX7_length 30 = .ok (.ifCond .eq 12, 3) := by decide +kernel
theorem dX7_length_33 : decode cX7_length 33 = .ok (.aload_n 0, 1) := by decide +kernel
theorem dX7_length_34 : decode cX7_length 34 = .ok (.iload_n 1, 1) := by decide +kernel
theorem dX7_length_35 : decode cX7_length 35 = .ok (.iload_n 2, 1) := by decide +kernel
theorem dX7_length_36 : decode cX7_length 36 = .ok (.invokevirtual 251, 3) := by decide +kernel
theorem dX7_length_39 : decode cX7_length 39 = .ok (.goto 4, 3) := by decide +kernel
theorem dX7_length_42 : decode cX7_length 42 = .ok (.iconst 0, 1) := by decide +kernel
theorem dX7_length_43 : decode cX7_length 43 = .ok (.ireturn, 1) := by decide +kernel
set_option maxRecDepth 20000 in
theorem ggX7_proof_X7_isEntry_c0 : GoodIn wsX7_proof ([.code yX7_isEntry cX7_isEntry 2 (some .boolean)]) := goodIn_r _ [6] (by decide +kernel) (by decide +kernel)
set_option maxRecDepth 20000 in
theorem ggX7_proof_X7_isEntry_c1 : GoodIn wsX7_proof ([.fieldLink RX7 126 "PostlintModel" "entries" "I", .methodLink RX7 129 yX7_isIn, .static yX7_isIn, .initialized RX7, .code yX7_isIn cX7_isIn 3 (some .boolean)]) := goodIn_r _ [7, 8, 9, 5, 10] (by decide +kernel) (by decide +kernel)
set_option maxRecDepth 20000 in
theorem ggX7_proof_X7_isEntry_c2 : GoodIn wsX7_proof (wsX70) := goodIn_r _ [16, 17, 18, 19, 20, 21, 22, 23, 24, 25, 26, 27, 28, 29, 30, 31, 32, 33, 34, 35, 36, 37, 38, 39, 40, 41, 42, 43, 44, 45, 46, 47, 48, 49, 50, 51, 52, 53, 54, 55, 56, 57, 58, 59, 60, 61, 62] (by decide +kernel) (by decide +kernel)
set_option maxRecDepth 20000 in
theorem ggX7_proof_X7_isEntry : GoodIn wsX7_proof wsX7_isEntry := (goodIn_c1 ggX7_proof_X7_isEntry_c0 (goodIn_app ggX7_proof_X7_isEntry_c1 ggX7_proof_X7_isEntry_c2))
set_option maxRecDepth 20000 in
theorem gX7_proof_X7_isEntry : GoodIn wsX7_proof (wsV RX7 206 RX7 yX7_isEntry wsX7_isEntry) := goodIn_app (goodIn_of _ (by decide +kernel)) ggX7_proof_X7_isEntry
set_option maxRecDepth 20000 in
theorem ggX7_proof_X7_isOf_c0 : GoodIn wsX7_proof ([.code yX7_isOf cX7_isOf 2 (some .boolean)]) := goodIn_r _ [14] (by decide +kernel) (by decide +kernel)
set_option maxRecDepth 20000 in
theorem ggX7_proof_X7_isOf_c1 : GoodIn wsX7_proof ([.fieldLink RX7 122 "PostlintModel" "thrown" "I"]) := goodIn_r _ [15] (by decide +kernel) (by decide +kernel)
set_option maxRecDepth 20000 in
theorem ggX7_proof_X7_isOf_c2 : GoodIn wsX7_proof (wsX70) := goodIn_r _ [16, 17, 18, 19, 20, 21, 22, 23, 24, 25, 26, 27, 28, 29, 30, 31, 32, 33, 34, 35, 36, 37, 38, 39, 40, 41, 42, 43, 44, 45, 46, 47, 48, 49, 50, 51, 52, 53, 54, 55, 56, 57, 58, 59, 60, 61, 62] (by decide +kernel) (by decide +kernel)
set_option maxRecDepth 20000 in
theorem ggX7_proof_X7_isOf : GoodIn wsX7_proof wsX7_isOf := (goodIn_c1 ggX7_proof_X7_isOf_c0 (goodIn_app ggX7_proof_X7_isOf_c1 ggX7_proof_X7_isOf_c2))
set_option maxRecDepth 20000 in
theorem gX7_proof_X7_isOf : GoodIn wsX7_proof (wsV RX7 189 RX7 yX7_isOf wsX7_isOf) := goodIn_app (goodIn_of _ (by decide +kernel)) ggX7_proof_X7_isOf
theorem dX7_proof_0 : decode cX7_proof 0 = .ok (.aload_n 0, 1) := by decide +kernel
theorem dX7_proof_1 : decode cX7_proof 1 = .ok (.aload_n 0, 1) := by decide +kernel
theorem dX7_proof_2 : decode cX7_proof 2 = .ok (.iload_n 1, 1) := by decide +kernel
theorem dX7_proof_3 : decode cX7_proof 3 = .ok (.invokevirtual 206, 3) := by decide +kernel
theorem dX7_proof_6 : decode cX7_proof 6 = .ok (.ifCond .eq 7, 3) := by decide +kernel
theorem dX7_proof_9 : decode cX7_proof 9 = .ok (.iconst 0, 1) := by decide +kernel
theorem dX7_proof_10 : decode cX7_proof 10 = .ok (.goto 4, 3) := by decide +kernel
theorem dX7_proof_13 : decode cX7_proof 13 = .ok (.iconst 1, 1) := by decide +kernel
theorem dX7_proof_14 : decode cX7_proof 14 = .ok (.invokevirtual 189, 3) := by decide +kernel
theorem dX7_proof_17 : decode cX7_proof 17 = .ok (.ifCond .eq 12, 3) := by decide +kernel
theorem dX7_proof_20 : decode cX7_proof 20 = .ok (.aload_n 0, 1) := by decide +kernel
theorem dX7_proof_21 : decode cX7_proof 21 = .ok (.getfield 44, 3) := by decide +kernel
theorem dX7_proof_24 : decode cX7_proof 24 = .ok (.iload_n 1, 1) := by decide +kernel
theorem dX7_proof_25 : decode cX7_proof 25 = .ok (.iaload, 1) := by decide +kernel
theorem dX7_proof_26 : decode cX7_proof 26 = .ok (.goto 4, 3) := by decide +kernel
theorem dX7_proof_29 : decode cX7_proof 29 = .ok (.iconst 0, 1) := by decide +kernel
theorem dX7_proof_30 : decode cX7_proof 30 = .ok (.ireturn, 1) := by decide +kernel
set_option maxRecDepth 20000 in
theorem ggX7_proofAnew_X7_proof_c0 : GoodIn wsX7_proofAnew ([.code yX7_proof cX7_proof 2 (some .int)]) := goodIn_r _ [5] (by decide +kernel) (by decide +kernel)
set_option maxRecDepth 20000 in
theorem ggX7_proofAnew_X7_proof_c1 : GoodIn wsX7_proofAnew ([.fieldLink RX7 44 "PostlintModel" "proof" "[I", .methodLink RX7 206 yX7_isEntry, .instanceMethod yX7_isEntry, .selects RX7 yX7_isEntry yX7_isEntry, .initialized RX7, .code yX7_isEntry cX7_isEntry 2 (some .boolean), .fieldLink RX7 126 "PostlintModel" "entries" "I", .methodLink RX7 129 yX7_isIn, .static yX7_isIn, .code yX7_isIn cX7_isIn 3 (some .boolean), .methodLink RX7 189 yX7_isOf, .instanceMethod yX7_isOf, .selects RX7 yX7_isOf yX7_isOf, .code yX7_isOf cX7_isOf 2 (some .boolean), .fieldLink RX7 122 "PostlintModel" "thrown" "I"]) := goodIn_r _ [6, 7, 8, 9, 4, 10, 11, 12, 13, 14, 15, 16, 17, 18, 19] (by decide +kernel) (by decide +kernel)
set_option maxRecDepth 20000 in
theorem ggX7_proofAnew_X7_proof_c2 : GoodIn wsX7_proofAnew (wsX70) := goodIn_r _ [20, 21, 22, 23, 24, 25, 26, 27, 28, 29, 30, 31, 32, 33, 34, 35, 36, 37, 38, 39, 40, 41, 42, 43, 44, 45, 46, 47, 48, 49, 50, 51, 52, 53, 54, 55, 56, 57, 58, 59, 60, 61, 62, 63, 64, 65, 66] (by decide +kernel) (by decide +kernel)
set_option maxRecDepth 20000 in
theorem ggX7_proofAnew_X7_proof : GoodIn wsX7_proofAnew wsX7_proof := (goodIn_c1 ggX7_proofAnew_X7_proof_c0 (goodIn_app ggX7_proofAnew_X7_proof_c1 ggX7_proofAnew_X7_proof_c2))
set_option maxRecDepth 20000 in
theorem gX7_proofAnew_X7_proof : GoodIn wsX7_proofAnew (wsV RX7 257 RX7 yX7_proof wsX7_proof) := goodIn_app (goodIn_of _ (by decide +kernel)) ggX7_proofAnew_X7_proof
theorem dX7_proofAnew_0 : decode cX7_proofAnew 0 = .ok (.aload_n 0, 1) := by decide +kernel
theorem dX7_proofAnew_1 : decode cX7_proofAnew 1 = .ok (.iload_n 1, 1) := by decide +kernel
theorem dX7_proofAnew_2 : decode cX7_proofAnew 2 = .ok (.invokevirtual 257, 3) := by decide +kernel
theorem dX7_proofAnew_5 : decode cX7_proofAnew 5 = .ok (.ireturn, 1) := by decide +kernel
set_option maxRecDepth 20000 in
theorem ggX7_gets_X7_isEntry_c0 : GoodIn wsX7_gets ([.code yX7_isEntry cX7_isEntry 2 (some .boolean)]) := goodIn_r _ [5] (by decide +kernel) (by decide +kernel)
set_option maxRecDepth 20000 in
theorem ggX7_gets_X7_isEntry_c1 : GoodIn wsX7_gets ([.fieldLink RX7 126 "PostlintModel" "entries" "I", .methodLink RX7 129 yX7_isIn, .static yX7_isIn, .initialized RX7, .code yX7_isIn cX7_isIn 3 (some .boolean)]) := goodIn_r _ [6, 7, 8, 4, 9] (by decide +kernel) (by decide +kernel)
set_option maxRecDepth 20000 in
theorem ggX7_gets_X7_isEntry_c2 : GoodIn wsX7_gets (wsX70) := goodIn_r _ [28, 29, 30, 31, 32, 33, 34, 35, 36, 37, 38, 39, 40, 41, 42, 43, 44, 45, 46, 47, 48, 49, 50, 51, 52, 53, 54, 55, 56, 57, 58, 59, 60, 61, 62, 63, 64, 65, 66, 67, 68, 69, 70, 71, 72, 73, 74] (by decide +kernel) (by decide +kernel)
set_option maxRecDepth 20000 in
theorem ggX7_gets_X7_isEntry : GoodIn wsX7_gets wsX7_isEntry := (goodIn_c1 ggX7_gets_X7_isEntry_c0 (goodIn_app ggX7_gets_X7_isEntry_c1 ggX7_gets_X7_isEntry_c2))
set_option maxRecDepth 20000 in
theorem gX7_gets_X7_isEntry : GoodIn wsX7_gets (wsV RX7 206 RX7 yX7_isEntry wsX7_isEntry) := goodIn_app (goodIn_of _ (by decide +kernel)) ggX7_gets_X7_isEntry
set_option maxRecDepth 20000 in
theorem ggX7_gets_X7_isIn : GoodIn wsX7_gets wsX7_isIn := goodIn_r _ [9] (by decide +kernel) (by decide +kernel)
set_option maxRecDepth 20000 in
theorem gX7_gets_X7_isIn : GoodIn wsX7_gets (va_wsS RX7 129 yX7_isIn wsX7_isIn) := goodIn_app (goodIn_of _ (by decide +kernel)) ggX7_gets_X7_isIn
set_option maxRecDepth 20000 in
theorem ggX7_gets_X7_isOf_c0 : GoodIn wsX7_gets ([.code yX7_isOf cX7_isOf 2 (some .boolean)]) := goodIn_r _ [13] (by decide +kernel) (by decide +kernel)
set_option maxRecDepth 20000 in
theorem ggX7_gets_X7_isOf_c1 : GoodIn wsX7_gets ([.fieldLink RX7 122 "PostlintModel" "thrown" "I"]) := goodIn_r _ [14] (by decide +kernel) (by decide +kernel)
set_option maxRecDepth 20000 in
theorem ggX7_gets_X7_isOf_c2 : GoodIn wsX7_gets (wsX70) := goodIn_r _ [28, 29, 30, 31, 32, 33, 34, 35, 36, 37, 38, 39, 40, 41, 42, 43, 44, 45, 46, 47, 48, 49, 50, 51, 52, 53, 54, 55, 56, 57, 58, 59, 60, 61, 62, 63, 64, 65, 66, 67, 68, 69, 70, 71, 72, 73, 74] (by decide +kernel) (by decide +kernel)
set_option maxRecDepth 20000 in
theorem ggX7_gets_X7_isOf : GoodIn wsX7_gets wsX7_isOf := (goodIn_c1 ggX7_gets_X7_isOf_c0 (goodIn_app ggX7_gets_X7_isOf_c1 ggX7_gets_X7_isOf_c2))
set_option maxRecDepth 20000 in
theorem gX7_gets_X7_isOf : GoodIn wsX7_gets (wsV RX7 189 RX7 yX7_isOf wsX7_isOf) := goodIn_app (goodIn_of _ (by decide +kernel)) ggX7_gets_X7_isOf
set_option maxRecDepth 20000 in
theorem ggX7_gets_X7_got_c0 : GoodIn wsX7_gets ([.code yX7_got cX7_got 5 (some .int)]) := goodIn_r _ [18] (by decide +kernel) (by decide +kernel)
set_option maxRecDepth 20000 in
theorem ggX7_gets_X7_got_c1 : GoodIn wsX7_gets ([.fieldLink RX7 29 "PostlintModel" "posts" "[I", .fieldLink RX7 32 "PostlintModel" "account" "[I", .methodLink RX7 218 yX7_amountOf, .instanceMethod yX7_amountOf, .selects RX7 yX7_amountOf yX7_amountOf, .initialized RX7, .code yX7_amountOf cX7_amountOf 2 (some .int), .fieldLink RX7 35 "PostlintModel" "isLess" "[Z", .fieldLink RX7 38 "PostlintModel" "amount" "[I", .fieldLink RX7 41 "PostlintModel" "times" "[I"]) := goodIn_r _ [19, 20, 21, 22, 23, 4, 24, 25, 26, 27] (by decide +kernel) (by decide +kernel)
set_option maxRecDepth 20000 in
theorem ggX7_gets_X7_got_c2 : GoodIn wsX7_gets (wsX70) := goodIn_r _ [28, 29, 30, 31, 32, 33, 34, 35, 36, 37, 38, 39, 40, 41, 42, 43, 44, 45, 46, 47, 48, 49, 50, 51, 52, 53, 54, 55, 56, 57, 58, 59, 60, 61, 62, 63, 64, 65, 66, 67, 68, 69, 70, 71, 72, 73, 74] (by decide +kernel) (by decide +kernel)
set_option maxRecDepth 20000 in
theorem ggX7_gets_X7_got : GoodIn wsX7_gets wsX7_got := (goodIn_c1 ggX7_gets_X7_got_c0 (goodIn_app ggX7_gets_X7_got_c1 ggX7_gets_X7_got_c2))
set_option maxRecDepth 20000 in
theorem gX7_gets_X7_got : GoodIn wsX7_gets (wsV RX7 222 RX7 yX7_got wsX7_got) := goodIn_app (goodIn_of _ (by decide +kernel)) ggX7_gets_X7_got
theorem dX7_gets_0 : decode cX7_gets 0 = .ok (.aload_n 0, 1) := by decide +kernel
theorem dX7_gets_1 : decode cX7_gets 1 = .ok (.aload_n 0, 1) := by decide +kernel
theorem dX7_gets_2 : decode cX7_gets 2 = .ok (.iload_n 1, 1) := by decide +kernel
theorem dX7_gets_3 : decode cX7_gets 3 = .ok (.invokevirtual 206, 3) := by decide +kernel
theorem dX7_gets_6 : decode cX7_gets 6 = .ok (.ifCond .ne 7, 3) := by decide +kernel
theorem dX7_gets_9 : decode cX7_gets 9 = .ok (.iconst 1, 1) := by decide +kernel
theorem dX7_gets_10 : decode cX7_gets 10 = .ok (.goto 18, 3) := by decide +kernel
theorem dX7_gets_13 : decode cX7_gets 13 = .ok (.iload_n 2, 1) := by decide +kernel
theorem dX7_gets_14 : decode cX7_gets 14 = .ok (.iconst 0, 1) := by decide +kernel
theorem dX7_gets_15 : decode cX7_gets 15 = .ok (.bipush 7, 2) := by decide +kernel
theorem dX7_gets_17 : decode cX7_gets 17 = .ok (.invokestatic 129, 3) := by decide +kernel
theorem dX7_gets_20 : decode cX7_gets 20 = .ok (.ifCond .eq 7, 3) := by decide +kernel
theorem dX7_gets_23 : decode cX7_gets 23 = .ok (.iconst 0, 1) := by decide +kernel
theorem dX7_gets_24 : decode cX7_gets 24 = .ok (.goto 4, 3) := by decide +kernel
theorem dX7_gets_27 : decode cX7_gets 27 = .ok (.iconst 2, 1) := by decide +kernel
theorem dX7_gets_28 : decode cX7_gets 28 = .ok (.invokevirtual 189, 3) := by decide +kernel
theorem dX7_gets_31 : decode cX7_gets 31 = .ok (.ifCond .eq 12, 3) := by decide +kernel
theorem dX7_gets_34 : decode cX7_gets 34 = .ok (.aload_n 0, 1) := by decide +kernel
theorem dX7_gets_35 : decode cX7_gets 35 = .ok (.iload_n 1, 1) := by decide +kernel
theorem dX7_gets_36 : decode cX7_gets 36 = .ok (.iload_n 2, 1) := by decide +kernel
theorem dX7_gets_37 : decode cX7_gets 37 = .ok (.invokevirtual 222, 3) := by decide +kernel
theorem dX7_gets_40 : decode cX7_gets 40 = .ok (.goto 4, 3) := by decide +kernel
theorem dX7_gets_43 : decode cX7_gets 43 = .ok (.iconst 0, 1) := by decide +kernel
theorem dX7_gets_44 : decode cX7_gets 44 = .ok (.ireturn, 1) := by decide +kernel
set_option maxRecDepth 20000 in
theorem ggX7_sum_X7_isEntry_c0 : GoodIn wsX7_sum ([.code yX7_isEntry cX7_isEntry 2 (some .boolean)]) := goodIn_r _ [5] (by decide +kernel) (by decide +kernel)
set_option maxRecDepth 20000 in
theorem ggX7_sum_X7_isEntry_c1 : GoodIn wsX7_sum ([.fieldLink RX7 126 "PostlintModel" "entries" "I", .methodLink RX7 129 yX7_isIn, .static yX7_isIn, .initialized RX7, .code yX7_isIn cX7_isIn 3 (some .boolean)]) := goodIn_r _ [6, 7, 8, 4, 9] (by decide +kernel) (by decide +kernel)
set_option maxRecDepth 20000 in
theorem ggX7_sum_X7_isEntry_c2 : GoodIn wsX7_sum (wsX70) := goodIn_r _ [32, 33, 34, 35, 36, 37, 38, 39, 40, 41, 42, 43, 44, 45, 46, 47, 48, 49, 50, 51, 52, 53, 54, 55, 56, 57, 58, 59, 60, 61, 62, 63, 64, 65, 66, 67, 68, 69, 70, 71, 72, 73, 74, 75, 76, 77, 78] (by decide +kernel) (by decide +kernel)
set_option maxRecDepth 20000 in
theorem ggX7_sum_X7_isEntry : GoodIn wsX7_sum wsX7_isEntry := (goodIn_c1 ggX7_sum_X7_isEntry_c0 (goodIn_app ggX7_sum_X7_isEntry_c1 ggX7_sum_X7_isEntry_c2))
set_option maxRecDepth 20000 in
theorem gX7_sum_X7_isEntry : GoodIn wsX7_sum (wsV RX7 206 RX7 yX7_isEntry wsX7_isEntry) := goodIn_app (goodIn_of _ (by decide +kernel)) ggX7_sum_X7_isEntry
set_option maxRecDepth 20000 in
theorem ggX7_sum_X7_isIn : GoodIn wsX7_sum wsX7_isIn := goodIn_r _ [9] (by decide +kernel) (by decide +kernel)
set_option maxRecDepth 20000 in
theorem gX7_sum_X7_isIn : GoodIn wsX7_sum (va_wsS RX7 129 yX7_isIn wsX7_isIn) := goodIn_app (goodIn_of _ (by decide +kernel)) ggX7_sum_X7_isIn
set_option maxRecDepth 20000 in
theorem ggX7_sum_X7_isOf_c0 : GoodIn wsX7_sum ([.code yX7_isOf cX7_isOf 2 (some .boolean)]) := goodIn_r _ [13] (by decide +kernel) (by decide +kernel)
set_option maxRecDepth 20000 in
theorem ggX7_sum_X7_isOf_c1 : GoodIn wsX7_sum ([.fieldLink RX7 122 "PostlintModel" "thrown" "I"]) := goodIn_r _ [14] (by decide +kernel) (by decide +kernel)
set_option maxRecDepth 20000 in
theorem ggX7_sum_X7_isOf_c2 : GoodIn wsX7_sum (wsX70) := goodIn_r _ [32, 33, 34, 35, 36, 37, 38, 39, 40, 41, 42, 43, 44, 45, 46, 47, 48, 49, 50, 51, 52, 53, 54, 55, 56, 57, 58, 59, 60, 61, 62, 63, 64, 65, 66, 67, 68, 69, 70, 71, 72, 73, 74, 75, 76, 77, 78] (by decide +kernel) (by decide +kernel)
set_option maxRecDepth 20000 in
theorem ggX7_sum_X7_isOf : GoodIn wsX7_sum wsX7_isOf := (goodIn_c1 ggX7_sum_X7_isOf_c0 (goodIn_app ggX7_sum_X7_isOf_c1 ggX7_sum_X7_isOf_c2))
set_option maxRecDepth 20000 in
theorem gX7_sum_X7_isOf : GoodIn wsX7_sum (wsV RX7 189 RX7 yX7_isOf wsX7_isOf) := goodIn_app (goodIn_of _ (by decide +kernel)) ggX7_sum_X7_isOf
set_option maxRecDepth 20000 in
theorem ggX7_sum_X7_upTo_c0 : GoodIn wsX7_sum ([.code yX7_upTo cX7_upTo 5 (some .int)]) := goodIn_r _ [18] (by decide +kernel) (by decide +kernel)
set_option maxRecDepth 20000 in
theorem ggX7_sum_X7_upTo_c1 : GoodIn wsX7_sum ([.methodLink RX7 222 yX7_got, .instanceMethod yX7_got, .selects RX7 yX7_got yX7_got, .initialized RX7, .code yX7_got cX7_got 5 (some .int), .fieldLink RX7 29 "PostlintModel" "posts" "[I", .fieldLink RX7 32 "PostlintModel" "account" "[I", .methodLink RX7 218 yX7_amountOf, .instanceMethod yX7_amountOf, .selects RX7 yX7_amountOf yX7_amountOf, .code yX7_amountOf cX7_amountOf 2 (some .int), .fieldLink RX7 35 "PostlintModel" "isLess" "[Z", .fieldLink RX7 38 "PostlintModel" "amount" "[I", .fieldLink RX7 41 "PostlintModel" "times" "[I"]) := goodIn_r _ [19, 20, 21, 4, 22, 23, 24, 25, 26, 27, 28, 29, 30, 31] (by decide +kernel) (by decide +kernel)
set_option maxRecDepth 20000 in
theorem ggX7_sum_X7_upTo_c2 : GoodIn wsX7_sum (wsX70) := goodIn_r _ [32, 33, 34, 35, 36, 37, 38, 39, 40, 41, 42, 43, 44, 45, 46, 47, 48, 49, 50, 51, 52, 53, 54, 55, 56, 57, 58, 59, 60, 61, 62, 63, 64, 65, 66, 67, 68, 69, 70, 71, 72, 73, 74, 75, 76, 77, 78] (by decide +kernel) (by decide +kernel)
set_option maxRecDepth 20000 in
theorem ggX7_sum_X7_upTo : GoodIn wsX7_sum wsX7_upTo := (goodIn_c1 ggX7_sum_X7_upTo_c0 (goodIn_app ggX7_sum_X7_upTo_c1 ggX7_sum_X7_upTo_c2))
