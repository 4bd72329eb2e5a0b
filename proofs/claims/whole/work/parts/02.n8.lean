set_option maxRecDepth 20000 in
theorem gX7_sum_X7_upTo : GoodIn wsX7_sum (wsV RX7 226 RX7 yX7_upTo wsX7_upTo) := goodIn_app (goodIn_of _ (by decide +kernel)) ggX7_sum_X7_upTo
theorem dX7_sum_0 : decode cX7_sum 0 = .ok (.aload_n 0, 1) := by decide +kernel
theorem dX7_sum_1 : decode cX7_sum 1 = .ok (.iload_n 1, 1) := by decide +kernel
theorem dX7_sum_2 : decode cX7_sum 2 = .ok (.iconst (-1), 1) := by decide +kernel
theorem dX7_sum_3 : decode cX7_sum 3 = .ok (.if_icmp .eq 15, 3) := by decide +kernel
theorem dX7_sum_6 : decode cX7_sum 6 = .ok (.aload_n 0, 1) := by decide +kernel
theorem dX7_sum_7 : decode cX7_sum 7 = .ok (.iload_n 1, 1) := by decide +kernel
theorem dX7_sum_8 : decode cX7_sum 8 = .ok (.invokevirtual 206, 3) := by decide +kernel
theorem dX7_sum_11 : decode cX7_sum 11 = .ok (.ifCond .ne 7, 3) := by decide +kernel
theorem dX7_sum_14 : decode cX7_sum 14 = .ok (.iconst 1, 1) := by decide +kernel
theorem dX7_sum_15 : decode cX7_sum 15 = .ok (.goto 18, 3) := by decide +kernel
theorem dX7_sum_18 : decode cX7_sum 18 = .ok (.iload_n 2, 1) := by decide +kernel
theorem dX7_sum_19 : decode cX7_sum 19 = .ok (.iconst 0, 1) := by decide +kernel
theorem dX7_sum_20 : decode cX7_sum 20 = .ok (.bipush 7, 2) := by decide +kernel
theorem dX7_sum_22 : decode cX7_sum 22 = .ok (.invokestatic 129, 3) := by decide +kernel
theorem dX7_sum_25 : decode cX7_sum 25 = .ok (.ifCond .eq 7, 3) := by decide +kernel
theorem dX7_sum_28 : decode cX7_sum 28 = .ok (.iconst 0, 1) := by decide +kernel
theorem dX7_sum_29 : decode cX7_sum 29 = .ok (.goto 4, 3) := by decide +kernel
theorem dX7_sum_32 : decode cX7_sum 32 = .ok (.iconst 2, 1) := by decide +kernel
theorem dX7_sum_33 : decode cX7_sum 33 = .ok (.invokevirtual 189, 3) := by decide +kernel
theorem dX7_sum_36 : decode cX7_sum 36 = .ok (.ifCond .eq 12, 3) := by decide +kernel
theorem dX7_sum_39 : decode cX7_sum 39 = .ok (.aload_n 0, 1) := by decide +kernel
theorem dX7_sum_40 : decode cX7_sum 40 = .ok (.iload_n 1, 1) := by decide +kernel
theorem dX7_sum_41 : decode cX7_sum 41 = .ok (.iload_n 2, 1) := by decide +kernel
theorem dX7_sum_42 : decode cX7_sum 42 = .ok (.invokevirtual 226, 3) := by decide +kernel
theorem dX7_sum_45 : decode cX7_sum 45 = .ok (.goto 4, 3) := by decide +kernel
theorem dX7_sum_48 : decode cX7_sum 48 = .ok (.iconst 0, 1) := by decide +kernel
theorem dX7_sum_49 : decode cX7_sum 49 = .ok (.ireturn, 1) := by decide +kernel
set_option maxRecDepth 20000 in
theorem ggX7_doubts_X7_isEntry_c0 : GoodIn wsX7_doubts ([.code yX7_isEntry cX7_isEntry 2 (some .boolean)]) := goodIn_r _ [6] (by decide +kernel) (by decide +kernel)
set_option maxRecDepth 20000 in
theorem ggX7_doubts_X7_isEntry_c1 : GoodIn wsX7_doubts ([.fieldLink RX7 126 "PostlintModel" "entries" "I", .methodLink RX7 129 yX7_isIn, .static yX7_isIn, .initialized RX7, .code yX7_isIn cX7_isIn 3 (some .boolean)]) := goodIn_r _ [7, 8, 9, 5, 10] (by decide +kernel) (by decide +kernel)
set_option maxRecDepth 20000 in
theorem ggX7_doubts_X7_isEntry_c2 : GoodIn wsX7_doubts (wsX70) := goodIn_r _ [47, 48, 49, 50, 51, 52, 53, 54, 55, 56, 57, 58, 59, 60, 61, 62, 63, 64, 65, 66, 67, 68, 69, 70, 71, 72, 73, 74, 75, 76, 77, 78, 79, 80, 81, 82, 83, 84, 85, 86, 87, 88, 89, 90, 91, 92, 93] (by decide +kernel) (by decide +kernel)
set_option maxRecDepth 20000 in
theorem ggX7_doubts_X7_isEntry : GoodIn wsX7_doubts wsX7_isEntry := (goodIn_c1 ggX7_doubts_X7_isEntry_c0 (goodIn_app ggX7_doubts_X7_isEntry_c1 ggX7_doubts_X7_isEntry_c2))
set_option maxRecDepth 20000 in
theorem gX7_doubts_X7_isEntry : GoodIn wsX7_doubts (wsV RX7 206 RX7 yX7_isEntry wsX7_isEntry) := goodIn_app (goodIn_of _ (by decide +kernel)) ggX7_doubts_X7_isEntry
set_option maxRecDepth 20000 in
theorem ggX7_doubts_X7_isOf_c0 : GoodIn wsX7_doubts ([.code yX7_isOf cX7_isOf 2 (some .boolean)]) := goodIn_r _ [14] (by decide +kernel) (by decide +kernel)
set_option maxRecDepth 20000 in
theorem ggX7_doubts_X7_isOf_c1 : GoodIn wsX7_doubts ([.fieldLink RX7 122 "PostlintModel" "thrown" "I"]) := goodIn_r _ [15] (by decide +kernel) (by decide +kernel)
set_option maxRecDepth 20000 in
theorem ggX7_doubts_X7_isOf_c2 : GoodIn wsX7_doubts (wsX70) := goodIn_r _ [47, 48, 49, 50, 51, 52, 53, 54, 55, 56, 57, 58, 59, 60, 61, 62, 63, 64, 65, 66, 67, 68, 69, 70, 71, 72, 73, 74, 75, 76, 77, 78, 79, 80, 81, 82, 83, 84, 85, 86, 87, 88, 89, 90, 91, 92, 93] (by decide +kernel) (by decide +kernel)
set_option maxRecDepth 20000 in
theorem ggX7_doubts_X7_isOf : GoodIn wsX7_doubts wsX7_isOf := (goodIn_c1 ggX7_doubts_X7_isOf_c0 (goodIn_app ggX7_doubts_X7_isOf_c1 ggX7_doubts_X7_isOf_c2))
set_option maxRecDepth 20000 in
theorem gX7_doubts_X7_isOf : GoodIn wsX7_doubts (wsV RX7 189 RX7 yX7_isOf wsX7_isOf) := goodIn_app (goodIn_of _ (by decide +kernel)) ggX7_doubts_X7_isOf
set_option maxRecDepth 20000 in
theorem ggX7_doubts_X7_isDoubted_c0 : GoodIn wsX7_doubts ([.code yX7_isDoubted cX7_isDoubted 5 (some .boolean)]) := goodIn_r _ [19] (by decide +kernel) (by decide +kernel)
set_option maxRecDepth 20000 in
theorem ggX7_doubts_X7_isDoubted_c1 : GoodIn wsX7_doubts (wsX7_isDoubted_r1) := goodIn_r _ [20, 21, 22, 23, 24, 25, 26, 27, 28, 5, 29, 30, 31, 32, 33, 34, 35, 36, 37, 38, 39, 40, 41, 42] (by decide +kernel) (by decide +kernel)
set_option maxRecDepth 20000 in
theorem ggX7_doubts_X7_isDoubted_c2 : GoodIn wsX7_doubts (wsX7_isDoubted_r2) := goodIn_r _ [43, 44, 45, 46] (by decide +kernel) (by decide +kernel)
set_option maxRecDepth 20000 in
theorem ggX7_doubts_X7_isDoubted_c3 : GoodIn wsX7_doubts (wsX70) := goodIn_r _ [47, 48, 49, 50, 51, 52, 53, 54, 55, 56, 57, 58, 59, 60, 61, 62, 63, 64, 65, 66, 67, 68, 69, 70, 71, 72, 73, 74, 75, 76, 77, 78, 79, 80, 81, 82, 83, 84, 85, 86, 87, 88, 89, 90, 91, 92, 93] (by decide +kernel) (by decide +kernel)
set_option maxRecDepth 20000 in
theorem ggX7_doubts_X7_isDoubted : GoodIn wsX7_doubts wsX7_isDoubted := (goodIn_c1 ggX7_doubts_X7_isDoubted_c0 (goodIn_app (goodIn_app ggX7_doubts_X7_isDoubted_c1 ggX7_doubts_X7_isDoubted_c2) ggX7_doubts_X7_isDoubted_c3))
set_option maxRecDepth 20000 in
theorem gX7_doubts_X7_isDoubted : GoodIn wsX7_doubts (wsV RX7 233 RX7 yX7_isDoubted wsX7_isDoubted) := goodIn_app (goodIn_of _ (by decide +kernel)) ggX7_doubts_X7_isDoubted
theorem dX7_doubts_0 : decode cX7_doubts 0 = .ok (.aload_n 0, 1) := by decide +kernel
theorem dX7_doubts_1 : decode cX7_doubts 1 = .ok (.aload_n 0, 1) := by decide +kernel
theorem dX7_doubts_2 : decode cX7_doubts 2 = .ok (.iload_n 1, 1) := by decide +kernel
theorem dX7_doubts_3 : decode cX7_doubts 3 = .ok (.invokevirtual 206, 3) := by decide +kernel
theorem dX7_doubts_6 : decode cX7_doubts 6 = .ok (.ifCond .eq 7, 3) := by decide +kernel
theorem dX7_doubts_9 : decode cX7_doubts 9 = .ok (.iconst 0, 1) := by decide +kernel
theorem dX7_doubts_10 : decode cX7_doubts 10 = .ok (.goto 4, 3) := by decide +kernel
theorem dX7_doubts_13 : decode cX7_doubts 13 = .ok (.iconst 1, 1) := by decide +kernel
theorem dX7_doubts_14 : decode cX7_doubts 14 = .ok (.invokevirtual 189, 3) := by decide +kernel
theorem dX7_doubts_17 : decode cX7_doubts 17 = .ok (.ifCond .ne 5, 3) := by decide +kernel
theorem dX7_doubts_20 : decode cX7_doubts 20 = .ok (.iconst 0, 1) := by decide +kernel
theorem dX7_doubts_21 : decode cX7_doubts 21 = .ok (.ireturn, 1) := by decide +kernel
theorem dX7_doubts_22 : decode cX7_doubts 22 = .ok (.iconst 0, 1) := by decide +kernel
theorem dX7_doubts_23 : decode cX7_doubts 23 = .ok (.istore_n 2, 1) := by decide +kernel
theorem dX7_doubts_24 : decode cX7_doubts 24 = .ok (.iconst 0, 1) := by decide +kernel
theorem dX7_doubts_25 : decode cX7_doubts 25 = .ok (.istore_n 3, 1) := by decide +kernel
theorem dX7_doubts_26 : decode cX7_doubts 26 = .ok (.iload_n 3, 1) := by decide +kernel
theorem dX7_doubts_27 : decode cX7_doubts 27 = .ok (.aload_n 0, 1) := by decide +kernel
theorem dX7_doubts_28 : decode cX7_doubts 28 = .ok (.getfield 215, 3) := by decide +kernel
theorem dX7_doubts_31 : decode cX7_doubts 31 = .ok (.if_icmp .ge 28, 3) := by decide +kernel
theorem dX7_doubts_34 : decode cX7_doubts 34 = .ok (.iload_n 2, 1) := by decide +kernel
theorem dX7_doubts_35 : decode cX7_doubts 35 = .ok (.aload_n 0, 1) := by decide +kernel
theorem dX7_doubts_36 : decode cX7_doubts 36 = .ok (.iload_n 1, 1) := by decide +kernel
theorem dX7_doubts_37 : decode cX7_doubts 37 = .ok (.iload_n 3, 1) := by decide +kernel
theorem dX7_doubts_38 : decode cX7_doubts 38 = .ok (.invokevirtual 233, 3) := by decide +kernel
theorem dX7_doubts_41 : decode cX7_doubts 41 = .ok (.ifCond .eq 9, 3) := by decide +kernel
theorem dX7_doubts_44 : decode cX7_doubts 44 = .ok (.iconst 1, 1) := by decide +kernel
theorem dX7_doubts_45 : decode cX7_doubts 45 = .ok (.iload_n 3, 1) := by decide +kernel
theorem dX7_doubts_46 : decode cX7_doubts 46 = .ok (.ishl, 1) := by decide +kernel
theorem dX7_doubts_47 : decode cX7_doubts 47 = .ok (.goto 4, 3) := by decide +kernel
theorem dX7_doubts_50 : decode cX7_doubts 50 = .ok (.iconst 0, 1) := by decide +kernel
theorem dX7_doubts_51 : decode cX7_doubts 51 = .ok (.ior, 1) := by decide +kernel
theorem dX7_doubts_52 : decode cX7_doubts 52 = .ok (.istore_n 2, 1) := by decide +kernel
theorem dX7_doubts_53 : decode cX7_doubts 53 = .ok (.iinc 3 1, 3) := by decide +kernel
theorem dX7_doubts_56 : decode cX7_doubts 56 = .ok (.goto (-30), 3) := by decide +kernel
theorem dX7_doubts_59 : decode cX7_doubts 59 = .ok (.iload_n 2, 1) := by decide +kernel
theorem dX7_doubts_60 : decode cX7_doubts 60 = .ok (.ireturn, 1) := by decide +kernel
set_option maxRecDepth 20000 in
theorem ggX7_doubted_X7_isRule_c0 : GoodIn wsX7_doubted ([.code yX7_isRule cX7_isRule 2 (some .boolean)]) := goodIn_r _ [5] (by decide +kernel) (by decide +kernel)
set_option maxRecDepth 20000 in
theorem ggX7_doubted_X7_isRule_c1 : GoodIn wsX7_doubted ([.fieldLink RX7 215 "PostlintModel" "rules" "I", .methodLink RX7 129 yX7_isIn, .static yX7_isIn, .initialized RX7, .code yX7_isIn cX7_isIn 3 (some .boolean)]) := goodIn_r _ [6, 7, 8, 4, 9] (by decide +kernel) (by decide +kernel)
set_option maxRecDepth 20000 in
theorem ggX7_doubted_X7_isRule_c2 : GoodIn wsX7_doubted (wsX70) := goodIn_r _ [51, 52, 53, 54, 55, 56, 57, 58, 59, 60, 61, 62, 63, 64, 65, 66, 67, 68, 69, 70, 71, 72, 73, 74, 75, 76, 77, 78, 79, 80, 81, 82, 83, 84, 85, 86, 87, 88, 89, 90, 91, 92, 93, 94, 95, 96, 97] (by decide +kernel) (by decide +kernel)
set_option maxRecDepth 20000 in
theorem ggX7_doubted_X7_isRule : GoodIn wsX7_doubted wsX7_isRule := (goodIn_c1 ggX7_doubted_X7_isRule_c0 (goodIn_app ggX7_doubted_X7_isRule_c1 ggX7_doubted_X7_isRule_c2))
set_option maxRecDepth 20000 in
theorem gX7_doubted_X7_isRule : GoodIn wsX7_doubted (wsV RX7 236 RX7 yX7_isRule wsX7_isRule) := goodIn_app (goodIn_of _ (by decide +kernel)) ggX7_doubted_X7_isRule
set_option maxRecDepth 20000 in
theorem ggX7_doubted_X7_isOf_c0 : GoodIn wsX7_doubted ([.code yX7_isOf cX7_isOf 2 (some .boolean)]) := goodIn_r _ [13] (by decide +kernel) (by decide +kernel)
set_option maxRecDepth 20000 in
theorem ggX7_doubted_X7_isOf_c1 : GoodIn wsX7_doubted ([.fieldLink RX7 122 "PostlintModel" "thrown" "I"]) := goodIn_r _ [14] (by decide +kernel) (by decide +kernel)
set_option maxRecDepth 20000 in
theorem ggX7_doubted_X7_isOf_c2 : GoodIn wsX7_doubted (wsX70) := goodIn_r _ [51, 52, 53, 54, 55, 56, 57, 58, 59, 60, 61, 62, 63, 64, 65, 66, 67, 68, 69, 70, 71, 72, 73, 74, 75, 76, 77, 78, 79, 80, 81, 82, 83, 84, 85, 86, 87, 88, 89, 90, 91, 92, 93, 94, 95, 96, 97] (by decide +kernel) (by decide +kernel)
set_option maxRecDepth 20000 in
theorem ggX7_doubted_X7_isOf : GoodIn wsX7_doubted wsX7_isOf := (goodIn_c1 ggX7_doubted_X7_isOf_c0 (goodIn_app ggX7_doubted_X7_isOf_c1 ggX7_doubted_X7_isOf_c2))
set_option maxRecDepth 20000 in
theorem gX7_doubted_X7_isOf : GoodIn wsX7_doubted (wsV RX7 189 RX7 yX7_isOf wsX7_isOf) := goodIn_app (goodIn_of _ (by decide +kernel)) ggX7_doubted_X7_isOf
set_option maxRecDepth 20000 in
theorem ggX7_doubted_X7_doubtedBy_c0 : GoodIn wsX7_doubted ([.code yX7_doubtedBy cX7_doubtedBy 4 (some .int)]) := goodIn_r _ [18] (by decide +kernel) (by decide +kernel)
set_option maxRecDepth 20000 in
theorem ggX7_doubted_X7_doubtedBy_c1 : GoodIn wsX7_doubted (wsX7_doubtedBy_r1) := goodIn_r _ [19, 20, 21, 22, 4, 23, 24, 25, 26, 27, 28, 29, 30, 31, 32, 33, 34, 35, 36, 37, 38, 39, 40, 41] (by decide +kernel) (by decide +kernel)
set_option maxRecDepth 20000 in
theorem ggX7_doubted_X7_doubtedBy_c2 : GoodIn wsX7_doubted (wsX7_doubtedBy_r2) := goodIn_r _ [42, 43, 44, 45, 46, 47, 48, 49, 50] (by decide +kernel) (by decide +kernel)
set_option maxRecDepth 20000 in
theorem ggX7_doubted_X7_doubtedBy_c3 : GoodIn wsX7_doubted (wsX70) := goodIn_r _ [51, 52, 53, 54, 55, 56, 57, 58, 59, 60, 61, 62, 63, 64, 65, 66, 67, 68, 69, 70, 71, 72, 73, 74, 75, 76, 77, 78, 79, 80, 81, 82, 83, 84, 85, 86, 87, 88, 89, 90, 91, 92, 93, 94, 95, 96, 97] (by decide +kernel) (by decide +kernel)
set_option maxRecDepth 20000 in
theorem ggX7_doubted_X7_doubtedBy : GoodIn wsX7_doubted wsX7_doubtedBy := (goodIn_c1 ggX7_doubted_X7_doubtedBy_c0 (goodIn_app (goodIn_app ggX7_doubted_X7_doubtedBy_c1 ggX7_doubted_X7_doubtedBy_c2) ggX7_doubted_X7_doubtedBy_c3))
set_option maxRecDepth 20000 in
theorem gX7_doubted_X7_doubtedBy : GoodIn wsX7_doubted (wsV RX7 239 RX7 yX7_doubtedBy wsX7_doubtedBy) := goodIn_app (goodIn_of _ (by decide +kernel)) ggX7_doubted_X7_doubtedBy
theorem dX7_doubted_0 : decode cX7_doubted 0 = .ok (.aload_n 0, 1) := by decide +kernel
theorem dX7_doubted_1 : decode cX7_doubted 1 = .ok (.aload_n 0, 1) := by decide +kernel
theorem dX7_doubted_2 : decode cX7_doubted 2 = .ok (.iload_n 1, 1) := by decide +kernel
theorem dX7_doubted_3 : decode cX7_doubted 3 = .ok (.invokevirtual 236, 3) := by decide +kernel
theorem dX7_doubted_6 : decode cX7_doubted 6 = .ok (.ifCond .eq 7, 3) := by decide +kernel
theorem dX7_doubted_9 : decode cX7_doubted 9 = .ok (.iconst 0, 1) := by decide +kernel
theorem dX7_doubted_10 : decode cX7_doubted 10 = .ok (.goto 4, 3) := by decide +kernel
theorem dX7_doubted_13 : decode cX7_doubted 13 = .ok (.iconst 1, 1) := by decide +kernel
theorem dX7_doubted_14 : decode cX7_doubted 14 = .ok (.invokevirtual 189, 3) := by decide +kernel
theorem dX7_doubted_17 : decode cX7_doubted 17 = .ok (.ifCond .eq 11, 3) := by decide +kernel
theorem dX7_doubted_20 : decode cX7_doubted 20 = .ok (.aload_n 0, 1) := by decide +kernel
theorem dX7_doubted_21 : decode cX7_doubted 21 = .ok (.iload_n 1, 1) := by decide +kernel
theorem dX7_doubted_22 : decode cX7_doubted 22 = .ok (.invokevirtual 239, 3) := by decide +kernel
theorem dX7_doubted_25 : decode cX7_doubted 25 = .ok (.goto 4, 3) := by decide +kernel
theorem dX7_doubted_28 : decode cX7_doubted 28 = .ok (.iconst 0, 1) := by decide +kernel
theorem dX7_doubted_29 : decode cX7_doubted 29 = .ok (.ireturn, 1) := by decide +kernel
set_option maxRecDepth 20000 in
theorem ggX7_isFrozen_X7_isEntry_c0 : GoodIn wsX7_isFrozen ([.code yX7_isEntry cX7_isEntry 2 (some .boolean)]) := goodIn_r _ [5] (by decide +kernel) (by decide +kernel)
set_option maxRecDepth 20000 in
theorem ggX7_isFrozen_X7_isEntry_c1 : GoodIn wsX7_isFrozen ([.fieldLink RX7 126 "PostlintModel" "entries" "I", .methodLink RX7 129 yX7_isIn, .static yX7_isIn, .initialized RX7, .code yX7_isIn cX7_isIn 3 (some .boolean)]) := goodIn_r _ [6, 7, 8, 4, 9] (by decide +kernel) (by decide +kernel)
set_option maxRecDepth 20000 in
theorem ggX7_isFrozen_X7_isEntry_c2 : GoodIn wsX7_isFrozen (wsX70) := goodIn_r _ [23, 24, 25, 26, 27, 28, 29, 30, 31, 32, 33, 34, 35, 36, 37, 38, 39, 40, 41, 42, 43, 44, 45, 46, 47, 48, 49, 50, 51, 52, 53, 54, 55, 56, 57, 58, 59, 60, 61, 62, 63, 64, 65, 66, 67, 68, 69] (by decide +kernel) (by decide +kernel)
set_option maxRecDepth 20000 in
theorem ggX7_isFrozen_X7_isEntry : GoodIn wsX7_isFrozen wsX7_isEntry := (goodIn_c1 ggX7_isFrozen_X7_isEntry_c0 (goodIn_app ggX7_isFrozen_X7_isEntry_c1 ggX7_isFrozen_X7_isEntry_c2))
set_option maxRecDepth 20000 in
theorem gX7_isFrozen_X7_isEntry : GoodIn wsX7_isFrozen (wsV RX7 206 RX7 yX7_isEntry wsX7_isEntry) := goodIn_app (goodIn_of _ (by decide +kernel)) ggX7_isFrozen_X7_isEntry
set_option maxRecDepth 20000 in
theorem ggX7_isFrozen_X7_isOf_c0 : GoodIn wsX7_isFrozen ([.code yX7_isOf cX7_isOf 2 (some .boolean)]) := goodIn_r _ [13] (by decide +kernel) (by decide +kernel)
set_option maxRecDepth 20000 in
theorem ggX7_isFrozen_X7_isOf_c1 : GoodIn wsX7_isFrozen ([.fieldLink RX7 122 "PostlintModel" "thrown" "I"]) := goodIn_r _ [14] (by decide +kernel) (by decide +kernel)
set_option maxRecDepth 20000 in
theorem ggX7_isFrozen_X7_isOf_c2 : GoodIn wsX7_isFrozen (wsX70) := goodIn_r _ [23, 24, 25, 26, 27, 28, 29, 30, 31, 32, 33, 34, 35, 36, 37, 38, 39, 40, 41, 42, 43, 44, 45, 46, 47, 48, 49, 50, 51, 52, 53, 54, 55, 56, 57, 58, 59, 60, 61, 62, 63, 64, 65, 66, 67, 68, 69] (by decide +kernel) (by decide +kernel)
set_option maxRecDepth 20000 in
theorem ggX7_isFrozen_X7_isOf : GoodIn wsX7_isFrozen wsX7_isOf := (goodIn_c1 ggX7_isFrozen_X7_isOf_c0 (goodIn_app ggX7_isFrozen_X7_isOf_c1 ggX7_isFrozen_X7_isOf_c2))
set_option maxRecDepth 20000 in
theorem gX7_isFrozen_X7_isOf : GoodIn wsX7_isFrozen (wsV RX7 189 RX7 yX7_isOf wsX7_isOf) := goodIn_app (goodIn_of _ (by decide +kernel)) ggX7_isFrozen_X7_isOf
set_option maxRecDepth 20000 in
theorem ggX7_isFrozen_X7_frozen_c0 : GoodIn wsX7_isFrozen ([.code yX7_frozen cX7_frozen 4 (some .boolean)]) := goodIn_r _ [18] (by decide +kernel) (by decide +kernel)
set_option maxRecDepth 20000 in
theorem ggX7_isFrozen_X7_frozen_c1 : GoodIn wsX7_isFrozen ([.fieldLink RX7 203 "PostlintModel" "audits" "I", .fieldLink RX7 71 "PostlintModel" "hasEnded" "[Z", .fieldLink RX7 62 "PostlintModel" "auditFrom" "[I", .fieldLink RX7 65 "PostlintModel" "auditTo" "[I", .methodLink RX7 129 yX7_isIn, .static yX7_isIn, .initialized RX7, .code yX7_isIn cX7_isIn 3 (some .boolean)]) := goodIn_r _ [19, 20, 21, 22, 7, 8, 4, 9] (by decide +kernel) (by decide +kernel)
set_option maxRecDepth 20000 in
theorem ggX7_isFrozen_X7_frozen_c2 : GoodIn wsX7_isFrozen (wsX70) := goodIn_r _ [23, 24, 25, 26, 27, 28, 29, 30, 31, 32, 33, 34, 35, 36, 37, 38, 39, 40, 41, 42, 43, 44, 45, 46, 47, 48, 49, 50, 51, 52, 53, 54, 55, 56, 57, 58, 59, 60, 61, 62, 63, 64, 65, 66, 67, 68, 69] (by decide +kernel) (by decide +kernel)
set_option maxRecDepth 20000 in
theorem ggX7_isFrozen_X7_frozen : GoodIn wsX7_isFrozen wsX7_frozen := (goodIn_c1 ggX7_isFrozen_X7_frozen_c0 (goodIn_app ggX7_isFrozen_X7_frozen_c1 ggX7_isFrozen_X7_frozen_c2))
set_option maxRecDepth 20000 in
theorem gX7_isFrozen_X7_frozen : GoodIn wsX7_isFrozen (wsV RX7 212 RX7 yX7_frozen wsX7_frozen) := goodIn_app (goodIn_of _ (by decide +kernel)) ggX7_isFrozen_X7_frozen
theorem dX7_isFrozen_0 : decode cX7_isFrozen 0 = .ok (.aload_n 0, 1) := by decide +kernel
theorem dX7_isFrozen_1 : decode cX7_isFrozen 1 = .ok (.aload_n 0, 1) := by decide +kernel
theorem dX7_isFrozen_2 : decode cX7_isFrozen 2 = .ok (.iload_n 1, 1) := by decide +kernel
theorem dX7_isFrozen_3 : decode cX7_isFrozen 3 = .ok (.invokevirtual 206, 3) := by decide +kernel
theorem dX7_isFrozen_6 : decode cX7_isFrozen 6 = .ok (.ifCond .eq 7, 3) := by decide +kernel
theorem dX7_isFrozen_9 : decode cX7_isFrozen 9 = .ok (.iconst 0, 1) := by decide +kernel
theorem dX7_isFrozen_10 : decode cX7_isFrozen 10 = .ok (.goto 4, 3) := by decide +kernel
theorem dX7_isFrozen_13 : decode cX7_isFrozen 13 = .ok (.iconst 1, 1) := by decide +kernel
theorem dX7_isFrozen_14 : decode cX7_isFrozen 14 = .ok (.invokevirtual 189, 3) := by decide +kernel
theorem dX7_isFrozen_17 : decode cX7_isFrozen 17 = .ok (.ifCond .eq 15, 3) := by decide +kernel
theorem dX7_isFrozen_20 : decode cX7_isFrozen 20 = .ok (.aload_n 0, 1) := by decide +kernel
theorem dX7_isFrozen_21 : decode cX7_isFrozen 21 = .ok (.iload_n 1, 1) := by decide +kernel
theorem dX7_isFrozen_22 : decode cX7_isFrozen 22 = .ok (.invokevirtual 212, 3) := by decide +kernel
theorem dX7_isFrozen_25 : decode cX7_isFrozen 25 = .ok (.ifCond .eq 7, 3) := by decide +kernel
theorem dX7_isFrozen_28 : decode cX7_isFrozen 28 = .ok (.iconst 1, 1) := by decide +kernel
theorem dX7_isFrozen_29 : decode cX7_isFrozen 29 = .ok (.goto 4, 3) := by decide +kernel
theorem dX7_isFrozen_32 : decode cX7_isFrozen 32 = .ok (.iconst 0, 1) := by decide +kernel
theorem dX7_isFrozen_33 : decode cX7_isFrozen 33 = .ok (.ireturn, 1) := by decide +kernel
set_option maxRecDepth 20000 in
theorem ggX7_holds_X7_isAudit_c0 : GoodIn wsX7_holds ([.code yX7_isAudit cX7_isAudit 2 (some .boolean)]) := goodIn_r _ [8] (by decide +kernel) (by decide +kernel)
set_option maxRecDepth 20000 in
theorem ggX7_holds_X7_isAudit_c1 : GoodIn wsX7_holds ([.fieldLink RX7 203 "PostlintModel" "audits" "I", .methodLink RX7 129 yX7_isIn, .static yX7_isIn, .initialized RX7, .code yX7_isIn cX7_isIn 3 (some .boolean)]) := goodIn_r _ [9, 10, 11, 7, 12] (by decide +kernel) (by decide +kernel)
set_option maxRecDepth 20000 in
theorem ggX7_holds_X7_isAudit_c2 : GoodIn wsX7_holds (wsX70) := goodIn_r _ [18, 19, 20, 21, 22, 23, 24, 25, 26, 27, 28, 29, 30, 31, 32, 33, 34, 35, 36, 37, 38, 39, 40, 41, 42, 43, 44, 45, 46, 47, 48, 49, 50, 51, 52, 53, 54, 55, 56, 57, 58, 59, 60, 61, 62, 63, 64] (by decide +kernel) (by decide +kernel)
set_option maxRecDepth 20000 in
theorem ggX7_holds_X7_isAudit : GoodIn wsX7_holds wsX7_isAudit := (goodIn_c1 ggX7_holds_X7_isAudit_c0 (goodIn_app ggX7_holds_X7_isAudit_c1 ggX7_holds_X7_isAudit_c2))
set_option maxRecDepth 20000 in
theorem gX7_holds_X7_isAudit : GoodIn wsX7_holds (wsV RX7 242 RX7 yX7_isAudit wsX7_isAudit) := goodIn_app (goodIn_of _ (by decide +kernel)) ggX7_holds_X7_isAudit
set_option maxRecDepth 20000 in
theorem ggX7_holds_X7_isOf_c0 : GoodIn wsX7_holds ([.code yX7_isOf cX7_isOf 2 (some .boolean)]) := goodIn_r _ [16] (by decide +kernel) (by decide +kernel)
set_option maxRecDepth 20000 in
theorem ggX7_holds_X7_isOf_c1 : GoodIn wsX7_holds ([.fieldLink RX7 122 "PostlintModel" "thrown" "I"]) := goodIn_r _ [17] (by decide +kernel) (by decide +kernel)
set_option maxRecDepth 20000 in
theorem ggX7_holds_X7_isOf_c2 : GoodIn wsX7_holds (wsX70) := goodIn_r _ [18, 19, 20, 21, 22, 23, 24, 25, 26, 27, 28, 29, 30, 31, 32, 33, 34, 35, 36, 37, 38, 39, 40, 41, 42, 43, 44, 45, 46, 47, 48, 49, 50, 51, 52, 53, 54, 55, 56, 57, 58, 59, 60, 61, 62, 63, 64] (by decide +kernel) (by decide +kernel)
set_option maxRecDepth 20000 in
theorem ggX7_holds_X7_isOf : GoodIn wsX7_holds wsX7_isOf := (goodIn_c1 ggX7_holds_X7_isOf_c0 (goodIn_app ggX7_holds_X7_isOf_c1 ggX7_holds_X7_isOf_c2))
set_option maxRecDepth 20000 in
theorem gX7_holds_X7_isOf : GoodIn wsX7_holds (wsV RX7 189 RX7 yX7_isOf wsX7_isOf) := goodIn_app (goodIn_of _ (by decide +kernel)) ggX7_holds_X7_isOf
theorem dX7_holds_0 : decode cX7_holds 0 = .ok (.aload_n 0, 1) := by decide +kernel
theorem dX7_holds_1 : decode cX7_holds 1 = .ok (.aload_n 0, 1) := by decide +kernel
theorem dX7_holds_2 : decode cX7_holds 2 = .ok (.iload_n 1, 1) := by decide +kernel
theorem dX7_holds_3 : decode cX7_holds 3 = .ok (.invokevirtual 242, 3) := by decide +kernel
theorem dX7_holds_6 : decode cX7_holds 6 = .ok (.ifCond .eq 7, 3) := by decide +kernel
theorem dX7_holds_9 : decode cX7_holds 9 = .ok (.iconst 0, 1) := by decide +kernel
theorem dX7_holds_10 : decode cX7_holds 10 = .ok (.goto 4, 3) := by decide +kernel
theorem dX7_holds_13 : decode cX7_holds 13 = .ok (.iconst 1, 1) := by decide +kernel
theorem dX7_holds_14 : decode cX7_holds 14 = .ok (.invokevirtual 189, 3) := by decide +kernel
theorem dX7_holds_17 : decode cX7_holds 17 = .ok (.ifCond .eq 27, 3) := by decide +kernel
theorem dX7_holds_20 : decode cX7_holds 20 = .ok (.aload_n 0, 1) := by decide +kernel
theorem dX7_holds_21 : decode cX7_holds 21 = .ok (.getfield 44, 3) := by decide +kernel
theorem dX7_holds_24 : decode cX7_holds 24 = .ok (.aload_n 0, 1) := by decide +kernel
theorem dX7_holds_25 : decode cX7_holds 25 = .ok (.getfield 65, 3) := by decide +kernel
theorem dX7_holds_28 : decode cX7_holds 28 = .ok (.iload_n 1, 1) := by decide +kernel
theorem dX7_holds_29 : decode cX7_holds 29 = .ok (.iaload, 1) := by decide +kernel
theorem dX7_holds_30 : decode cX7_holds 30 = .ok (.iaload, 1) := by decide +kernel
theorem dX7_holds_31 : decode cX7_holds 31 = .ok (.aload_n 0, 1) := by decide +kernel
theorem dX7_holds_32 : decode cX7_holds 32 = .ok (.getfield 68, 3) := by decide +kernel
theorem dX7_holds_35 : decode cX7_holds 35 = .ok (.iload_n 1, 1) := by decide +kernel
theorem dX7_holds_36 : decode cX7_holds 36 = .ok (.iaload, 1) := by decide +kernel
theorem dX7_holds_37 : decode cX7_holds 37 = .ok (.if_icmp .ne 7, 3) := by decide +kernel
theorem dX7_holds_40 : decode cX7_holds 40 = .ok (.iconst 1, 1) := by decide +kernel
theorem dX7_holds_41 : decode cX7_holds 41 = .ok (.goto 4, 3) := by decide +kernel
theorem dX7_holds_44 : decode cX7_holds 44 = .ok (.iconst 0, 1) := by decide +kernel
theorem dX7_holds_45 : decode cX7_holds 45 = .ok (.ireturn, 1) := by decide +kernel
theorem dJ9_abs_0f7a4_0 : decode cJ9_abs_0f7a4 0 = .ok (.iload_n 0, 1) := by decide +kernel
theorem dJ9_abs_0f7a4_1 : decode cJ9_abs_0f7a4 1 = .ok (.ifCond .ge 8, 3) := by decide +kernel
theorem dJ9_abs_0f7a4_4 : decode cJ9_abs_0f7a4 4 = .ok (.iload_n 0, 1) := by decide +kernel
theorem dJ9_abs_0f7a4_5 : decode cJ9_abs_0f7a4 5 = .ok (.ineg, 1) := by decide +kernel
theorem dJ9_abs_0f7a4_6 : decode cJ9_abs_0f7a4 6 = .ok (.goto 4, 3) := by decide +kernel
theorem dJ9_abs_0f7a4_9 : decode cJ9_abs_0f7a4 9 = .ok (.iload_n 0, 1) := by decide +kernel
theorem dJ9_abs_0f7a4_10 : decode cJ9_abs_0f7a4 10 = .ok (.ireturn, 1) := by decide +kernel
theorem dJ9_max_7cf53_0 : decode cJ9_max_7cf53 0 = .ok (.iload_n 0, 1) := by decide +kernel
theorem dJ9_max_7cf53_1 : decode cJ9_max_7cf53 1 = .ok (.iload_n 1, 1) := by decide +kernel
theorem dJ9_max_7cf53_2 : decode cJ9_max_7cf53 2 = .ok (.if_icmp .lt 7, 3) := by decide +kernel
theorem dJ9_max_7cf53_5 : decode cJ9_max_7cf53 5 = .ok (.iload_n 0, 1) := by decide +kernel
theorem dJ9_max_7cf53_6 : decode cJ9_max_7cf53 6 = .ok (.goto 4, 3) := by decide +kernel
theorem dJ9_max_7cf53_9 : decode cJ9_max_7cf53 9 = .ok (.iload_n 1, 1) := by decide +kernel
theorem dJ9_max_7cf53_10 : decode cJ9_max_7cf53 10 = .ok (.ireturn, 1) := by decide +kernel
theorem dJ9_min_7cf53_0 : decode cJ9_min_7cf53 0 = .ok (.iload_n 0, 1) := by decide +kernel
theorem dJ9_min_7cf53_1 : decode cJ9_min_7cf53 1 = .ok (.iload_n 1, 1) := by decide +kernel
theorem dJ9_min_7cf53_2 : decode cJ9_min_7cf53 2 = .ok (.if_icmp .gt 7, 3) := by decide +kernel
theorem dJ9_min_7cf53_5 : decode cJ9_min_7cf53 5 = .ok (.iload_n 0, 1) := by decide +kernel
theorem dJ9_min_7cf53_6 : decode cJ9_min_7cf53 6 = .ok (.goto 4, 3) := by decide +kernel
theorem dJ9_min_7cf53_9 : decode cJ9_min_7cf53 9 = .ok (.iload_n 1, 1) := by decide +kernel
theorem dJ9_min_7cf53_10 : decode cJ9_min_7cf53 10 = .ok (.ireturn, 1) := by decide +kernel
theorem dJxa1e45_init_da8c8_0 : decode cJxa1e45_init_da8c8 0 = .ok (.aload_n 0, 1) := by decide +kernel
theorem dJxa1e45_init_da8c8_1 : decode cJxa1e45_init_da8c8 1 = .ok (.invokespecial 1, 3) := by decide +kernel
theorem dJxa1e45_init_da8c8_4 : decode cJxa1e45_init_da8c8 4 = .ok (.return_, 1) := by decide +kernel
set_option maxRecDepth 20000 in
theorem ggJxc12de_init_da8c8_Jxa1e45_init_da8c8 : GoodIn wsJxc12de_init_da8c8 wsJxa1e45_init_da8c8 := goodIn_r _ [5, 6, 7, 8] (by decide +kernel) (by decide +kernel)
set_option maxRecDepth 20000 in
theorem gJxc12de_init_da8c8_Jxa1e45_init_da8c8 : GoodIn wsJxc12de_init_da8c8 (wsJxa1e45_init_da8c8) := ggJxc12de_init_da8c8_Jxa1e45_init_da8c8
theorem dJxc12de_init_da8c8_0 : decode cJxc12de_init_da8c8 0 = .ok (.aload_n 0, 1) := by decide +kernel
theorem dJxc12de_init_da8c8_1 : decode cJxc12de_init_da8c8 1 = .ok (.invokespecial 1, 3) := by decide +kernel
theorem dJxc12de_init_da8c8_4 : decode cJxc12de_init_da8c8 4 = .ok (.aload_n 0, 1) := by decide +kernel
theorem dJxc12de_init_da8c8_5 : decode cJxc12de_init_da8c8 5 = .ok (.iconst 0, 1) := by decide +kernel
theorem dJxc12de_init_da8c8_6 : decode cJxc12de_init_da8c8 6 = .ok (.putfield 7, 3) := by decide +kernel
theorem dJxc12de_init_da8c8_9 : decode cJxc12de_init_da8c8 9 = .ok (.return_, 1) := by decide +kernel
set_option maxRecDepth 20000 in
theorem ggJx4a65c_init_da8c8_Jxc12de_init_da8c8 : GoodIn wsJx4a65c_init_da8c8 wsJxc12de_init_da8c8 := goodIn_r _ [6, 7, 8, 9, 10, 11, 12, 13, 14, 15, 16, 17] (by decide +kernel) (by decide +kernel)
set_option maxRecDepth 20000 in
theorem gJx4a65c_init_da8c8_Jxc12de_init_da8c8 : GoodIn wsJx4a65c_init_da8c8 (wsJxc12de_init_da8c8) := ggJx4a65c_init_da8c8_Jxc12de_init_da8c8
theorem dJx4a65c_init_da8c8_0 : decode cJx4a65c_init_da8c8 0 = .ok (.aload_n 0, 1) := by decide +kernel
theorem dJx4a65c_init_da8c8_1 : decode cJx4a65c_init_da8c8 1 = .ok (.invokespecial 1, 3) := by decide +kernel
theorem dJx4a65c_init_da8c8_4 : decode cJx4a65c_init_da8c8 4 = .ok (.aload_n 0, 1) := by decide +kernel
theorem dJx4a65c_init_da8c8_5 : decode cJx4a65c_init_da8c8 5 = .ok (.getstatic 39, 3) := by decide +kernel
theorem dJx4a65c_init_da8c8_8 : decode cJx4a65c_init_da8c8 8 = .ok (.putfield 9, 3) := by decide +kernel
theorem dJx4a65c_init_da8c8_11 : decode cJx4a65c_init_da8c8 11 = .ok (.return_, 1) := by decide +kernel
set_option maxRecDepth 20000 in
theorem ggJx4a65c_grow_92f84_J8_newLength_cabcc : GoodIn wsJx4a65c_grow_92f84 wsJ8_newLength_cabcc := goodIn_r _ [11, 12, 4, 5, 6, 13, 14, 15, 10, 16] (by decide +kernel) (by decide +kernel)
set_option maxRecDepth 20000 in
theorem gJx4a65c_grow_92f84_J8_newLength_cabcc : GoodIn wsJx4a65c_grow_92f84 (va_wsS RJx4a65c 73 yJ8_newLength_cabcc wsJ8_newLength_cabcc) := goodIn_app (goodIn_of _ (by decide +kernel)) ggJx4a65c_grow_92f84_J8_newLength_cabcc
set_option maxRecDepth 20000 in
theorem ggJx4a65c_grow_92f84_J7_copyOf_1904c : GoodIn wsJx4a65c_grow_92f84 wsJ7_copyOf_1904c := goodIn_r _ [20, 21, 22, 23, 24, 25, 26, 19, 27, 28, 29, 30, 31, 5, 32, 33, 34, 35, 36] (by decide +kernel) (by decide +kernel)
set_option maxRecDepth 20000 in
theorem gJx4a65c_grow_92f84_J7_copyOf_1904c : GoodIn wsJx4a65c_grow_92f84 (va_wsS RJx4a65c 66 yJ7_copyOf_1904c wsJ7_copyOf_1904c) := goodIn_app (goodIn_of _ (by decide +kernel)) ggJx4a65c_grow_92f84_J7_copyOf_1904c
theorem dJx4a65c_grow_92f84_0 : decode cJx4a65c_grow_92f84 0 = .ok (.aload_n 0, 1) := by decide +kernel
theorem dJx4a65c_grow_92f84_1 : decode cJx4a65c_grow_92f84 1 = .ok (.getfield 9, 3) := by decide +kernel
theorem dJx4a65c_grow_92f84_4 : decode cJx4a65c_grow_92f84 4 = .ok (.arraylength, 1) := by decide +kernel
theorem dJx4a65c_grow_92f84_5 : decode cJx4a65c_grow_92f84 5 = .ok (.istore_n 2, 1) := by decide +kernel
theorem dJx4a65c_grow_92f84_6 : decode cJx4a65c_grow_92f84 6 = .ok (.iload_n 2, 1) := by decide +kernel
theorem dJx4a65c_grow_92f84_7 : decode cJx4a65c_grow_92f84 7 = .ok (.ifCond .gt 13, 3) := by decide +kernel
theorem dJx4a65c_grow_92f84_10 : decode cJx4a65c_grow_92f84 10 = .ok (.aload_n 0, 1) := by decide +kernel
theorem dJx4a65c_grow_92f84_11 : decode cJx4a65c_grow_92f84 11 = .ok (.getfield 9, 3) := by decide +kernel
theorem dJx4a65c_grow_92f84_14 : decode cJx4a65c_grow_92f84 14 = .ok (.getstatic 39, 3) := by decide +kernel
theorem dJx4a65c_grow_92f84_17 : decode cJx4a65c_grow_92f84 17 = .ok (.if_acmp .eq 28, 3) := by decide +kernel
theorem dJx4a65c_grow_92f84_20 : decode cJx4a65c_grow_92f84 20 = .ok (.iload_n 2, 1) := by decide +kernel
theorem dJx4a65c_grow_92f84_21 : decode cJx4a65c_grow_92f84 21 = .ok (.iload_n 1, 1) := by decide +kernel
theorem dJx4a65c_grow_92f84_22 : decode cJx4a65c_grow_92f84 22 = .ok (.iload_n 2, 1) := by decide +kernel
theorem dJx4a65c_grow_92f84_23 : decode cJx4a65c_grow_92f84 23 = .ok (.isub, 1) := by decide +kernel
theorem dJx4a65c_grow_92f84_24 : decode cJx4a65c_grow_92f84 24 = .ok (.iload_n 2, 1) := by decide +kernel
theorem dJx4a65c_grow_92f84_25 : decode cJx4a65c_grow_92f84 25 = .ok (.iconst 1, 1) := by decide +kernel
theorem dJx4a65c_grow_92f84_26 : decode cJx4a65c_grow_92f84 26 = .ok (.ishr, 1) := by decide +kernel
theorem dJx4a65c_grow_92f84_27 : decode cJx4a65c_grow_92f84 27 = .ok (.invokestatic 73, 3) := by decide +kernel
theorem dJx4a65c_grow_92f84_30 : decode cJx4a65c_grow_92f84 30 = .ok (.istore_n 3, 1) := by decide +kernel
theorem dJx4a65c_grow_92f84_31 : decode cJx4a65c_grow_92f84 31 = .ok (.aload_n 0, 1) := by decide +kernel
theorem dJx4a65c_grow_92f84_32 : decode cJx4a65c_grow_92f84 32 = .ok (.aload_n 0, 1) := by decide +kernel
theorem dJx4a65c_grow_92f84_33 : decode cJx4a65c_grow_92f84 33 = .ok (.getfield 9, 3) := by decide +kernel
theorem dJx4a65c_grow_92f84_36 : decode cJx4a65c_grow_92f84 36 = .ok (.iload_n 3, 1) := by decide +kernel
theorem dJx4a65c_grow_92f84_37 : decode cJx4a65c_grow_92f84 37 = .ok (.invokestatic 66, 3) := by decide +kernel
theorem dJx4a65c_grow_92f84_40 : decode cJx4a65c_grow_92f84 40 = .ok (.dup_x1, 1) := by decide +kernel
theorem dJx4a65c_grow_92f84_41 : decode cJx4a65c_grow_92f84 41 = .ok (.putfield 9, 3) := by decide +kernel
theorem dJx4a65c_grow_92f84_44 : decode cJx4a65c_grow_92f84 44 = .ok (.areturn, 1) := by decide +kernel
theorem dJx4a65c_grow_92f84_45 : decode cJx4a65c_grow_92f84 45 = .ok (.aload_n 0, 1) := by decide +kernel
theorem dJx4a65c_grow_92f84_46 : decode cJx4a65c_grow_92f84 46 = .ok (.bipush 10, 2) := by decide +kernel
theorem dJx4a65c_grow_92f84_48 : decode cJx4a65c_grow_92f84 48 = .ok (.iload_n 1, 1) := by decide +kernel
theorem dJx4a65c_grow_92f84_49 : decode cJx4a65c_grow_92f84 49 = .ok (.invokestatic 79, 3) := by decide +kernel
theorem dJx4a65c_grow_92f84_52 : decode cJx4a65c_grow_92f84 52 = .ok (.anewarray 7, 3) := by decide +kernel
theorem dJx4a65c_grow_92f84_55 : decode cJx4a65c_grow_92f84 55 = .ok (.dup_x1, 1) := by decide +kernel
theorem dJx4a65c_grow_92f84_56 : decode cJx4a65c_grow_92f84 56 = .ok (.putfield 9, 3) := by decide +kernel
theorem dJx4a65c_grow_92f84_59 : decode cJx4a65c_grow_92f84 59 = .ok (.areturn, 1) := by decide +kernel
set_option maxRecDepth 20000 in
theorem ggJx4a65c_grow_d5877_Jx4a65c_grow_92f84_c0 : GoodIn wsJx4a65c_grow_d5877 ([.code yJx4a65c_grow_92f84 cJx4a65c_grow_92f84 4 (some (.array (.object "java/lang/Object")))]) := goodIn_r _ [6] (by decide +kernel) (by decide +kernel)
set_option maxRecDepth 20000 in
theorem ggJx4a65c_grow_d5877_Jx4a65c_grow_92f84_c1 : GoodIn wsJx4a65c_grow_d5877 (wsJx4a65c_grow_92f84_r1) := goodIn_r _ [7, 8, 9, 10, 11, 12, 13, 14, 15, 16, 17, 18, 19, 20, 21, 22, 23, 24, 25, 26, 27, 28, 29, 30] (by decide +kernel) (by decide +kernel)
set_option maxRecDepth 20000 in
theorem ggJx4a65c_grow_d5877_Jx4a65c_grow_92f84_c2 : GoodIn wsJx4a65c_grow_d5877 (wsJx4a65c_grow_92f84_r2) := goodIn_r _ [31, 32, 33, 34, 35, 36, 37, 38, 39, 40, 41, 42] (by decide +kernel) (by decide +kernel)
set_option maxRecDepth 20000 in
theorem ggJx4a65c_grow_d5877_Jx4a65c_grow_92f84_c3 : GoodIn wsJx4a65c_grow_d5877 (wsJx4a65c0) := goodIn_r _ [43, 44, 45] (by decide +kernel) (by decide +kernel)
set_option maxRecDepth 20000 in
theorem ggJx4a65c_grow_d5877_Jx4a65c_grow_92f84 : GoodIn wsJx4a65c_grow_d5877 wsJx4a65c_grow_92f84 := (goodIn_c1 ggJx4a65c_grow_d5877_Jx4a65c_grow_92f84_c0 (goodIn_app (goodIn_app ggJx4a65c_grow_d5877_Jx4a65c_grow_92f84_c1 ggJx4a65c_grow_d5877_Jx4a65c_grow_92f84_c2) ggJx4a65c_grow_d5877_Jx4a65c_grow_92f84_c3))
set_option maxRecDepth 20000 in
theorem gJx4a65c_grow_d5877_Jx4a65c_grow_92f84 : GoodIn wsJx4a65c_grow_d5877 (wsV RJx4a65c 69 RJx4a65c yJx4a65c_grow_92f84 wsJx4a65c_grow_92f84) := goodIn_app (goodIn_of _ (by decide +kernel)) ggJx4a65c_grow_d5877_Jx4a65c_grow_92f84
theorem dJx4a65c_grow_d5877_0 : decode cJx4a65c_grow_d5877 0 = .ok (.aload_n 0, 1) := by decide +kernel
theorem dJx4a65c_grow_d5877_1 : decode cJx4a65c_grow_d5877 1 = .ok (.aload_n 0, 1) := by decide +kernel
theorem dJx4a65c_grow_d5877_2 : decode cJx4a65c_grow_d5877 2 = .ok (.getfield 48, 3) := by decide +kernel
theorem dJx4a65c_grow_d5877_5 : decode cJx4a65c_grow_d5877 5 = .ok (.iconst 1, 1) := by decide +kernel
theorem dJx4a65c_grow_d5877_6 : decode cJx4a65c_grow_d5877 6 = .ok (.iadd, 1) := by decide +kernel
theorem dJx4a65c_grow_d5877_7 : decode cJx4a65c_grow_d5877 7 = .ok (.invokevirtual 69, 3) := by decide +kernel
theorem dJx4a65c_grow_d5877_10 : decode cJx4a65c_grow_d5877 10 = .ok (.areturn, 1) := by decide +kernel
theorem dJx4a65c_size_8abf5_0 : decode cJx4a65c_size_8abf5 0 = .ok (.aload_n 0, 1) := by decide +kernel
theorem dJx4a65c_size_8abf5_1 : decode cJx4a65c_size_8abf5 1 = .ok (.getfield 48, 3) := by decide +kernel
theorem dJx4a65c_size_8abf5_4 : decode cJx4a65c_size_8abf5 4 = .ok (.ireturn, 1) := by decide +kernel
theorem dJx4a65c_elementData_915e3_0 : decode cJx4a65c_elementData_915e3 0 = .ok (.aload_n 0, 1) := by decide +kernel
theorem dJx4a65c_elementData_915e3_1 : decode cJx4a65c_elementData_915e3 1 = .ok (.getfield 9, 3) := by decide +kernel
theorem dJx4a65c_elementData_915e3_4 : decode cJx4a65c_elementData_915e3 4 = .ok (.iload_n 1, 1) := by decide +kernel
theorem dJx4a65c_elementData_915e3_5 : decode cJx4a65c_elementData_915e3 5 = .ok (.aaload, 1) := by decide +kernel
theorem dJx4a65c_elementData_915e3_6 : decode cJx4a65c_elementData_915e3 6 = .ok (.areturn, 1) := by decide +kernel
set_option maxRecDepth 20000 in
theorem ggJx4a65c_get_915e3_J15_checkIndex_7cf53 : GoodIn wsJx4a65c_get_915e3 wsJ15_checkIndex_7cf53 := goodIn_r _ [5, 6, 7, 8, 9] (by decide +kernel) (by decide +kernel)
set_option maxRecDepth 20000 in
theorem gJx4a65c_get_915e3_J15_checkIndex_7cf53 : GoodIn wsJx4a65c_get_915e3 (va_wsS RJx4a65c 118 yJ15_checkIndex_7cf53 wsJ15_checkIndex_7cf53) := goodIn_app (goodIn_of _ (by decide +kernel)) ggJx4a65c_get_915e3_J15_checkIndex_7cf53
set_option maxRecDepth 20000 in
theorem ggJx4a65c_get_915e3_Jx4a65c_elementData_915e3 : GoodIn wsJx4a65c_get_915e3 wsJx4a65c_elementData_915e3 := goodIn_r _ [14, 15, 16, 17, 18] (by decide +kernel) (by decide +kernel)
set_option maxRecDepth 20000 in
theorem gJx4a65c_get_915e3_Jx4a65c_elementData_915e3 : GoodIn wsJx4a65c_get_915e3 (wsV RJx4a65c 123 RJx4a65c yJx4a65c_elementData_915e3 wsJx4a65c_elementData_915e3) := goodIn_app (goodIn_of _ (by decide +kernel)) ggJx4a65c_get_915e3_Jx4a65c_elementData_915e3
theorem dJx4a65c_get_915e3_0 : decode cJx4a65c_get_915e3 0 = .ok (.iload_n 1, 1) := by decide +kernel
theorem dJx4a65c_get_915e3_1 : decode cJx4a65c_get_915e3 1 = .ok (.aload_n 0, 1) := by decide +kernel
theorem dJx4a65c_get_915e3_2 : decode cJx4a65c_get_915e3 2 = .ok (.getfield 48, 3) := by decide +kernel
theorem dJx4a65c_get_915e3_5 : decode cJx4a65c_get_915e3 5 = .ok (.invokestatic 118, 3) := by decide +kernel
theorem dJx4a65c_get_915e3_8 : decode cJx4a65c_get_915e3 8 = .ok (.pop, 1) := by decide +kernel
theorem dJx4a65c_get_915e3_9 : decode cJx4a65c_get_915e3 9 = .ok (.aload_n 0, 1) := by decide +kernel
theorem dJx4a65c_get_915e3_10 : decode cJx4a65c_get_915e3 10 = .ok (.iload_n 1, 1) := by decide +kernel
theorem dJx4a65c_get_915e3_11 : decode cJx4a65c_get_915e3 11 = .ok (.invokevirtual 123, 3) := by decide +kernel
theorem dJx4a65c_get_915e3_14 : decode cJx4a65c_get_915e3 14 = .ok (.areturn, 1) := by decide +kernel
set_option maxRecDepth 20000 in
theorem ggJx4a65c_set_bcc79_J15_checkIndex_7cf53 : GoodIn wsJx4a65c_set_bcc79 wsJ15_checkIndex_7cf53 := goodIn_r _ [6, 7, 8, 9, 10] (by decide +kernel) (by decide +kernel)
set_option maxRecDepth 20000 in
theorem gJx4a65c_set_bcc79_J15_checkIndex_7cf53 : GoodIn wsJx4a65c_set_bcc79 (va_wsS RJx4a65c 118 yJ15_checkIndex_7cf53 wsJ15_checkIndex_7cf53) := goodIn_app (goodIn_of _ (by decide +kernel)) ggJx4a65c_set_bcc79_J15_checkIndex_7cf53
set_option maxRecDepth 20000 in
theorem ggJx4a65c_set_bcc79_Jx4a65c_elementData_915e3 : GoodIn wsJx4a65c_set_bcc79 wsJx4a65c_elementData_915e3 := goodIn_r _ [15, 2, 16, 17, 18] (by decide +kernel) (by decide +kernel)
set_option maxRecDepth 20000 in
theorem gJx4a65c_set_bcc79_Jx4a65c_elementData_915e3 : GoodIn wsJx4a65c_set_bcc79 (wsV RJx4a65c 123 RJx4a65c yJx4a65c_elementData_915e3 wsJx4a65c_elementData_915e3) := goodIn_app (goodIn_of _ (by decide +kernel)) ggJx4a65c_set_bcc79_Jx4a65c_elementData_915e3
theorem dJx4a65c_set_bcc79_0 : decode cJx4a65c_set_bcc79 0 = .ok (.iload_n 1, 1) := by decide +kernel
theorem dJx4a65c_set_bcc79_1 : decode cJx4a65c_set_bcc79 1 = .ok (.aload_n 0, 1) := by decide +kernel
theorem dJx4a65c_set_bcc79_2 : decode cJx4a65c_set_bcc79 2 = .ok (.getfield 48, 3) := by decide +kernel
theorem dJx4a65c_set_bcc79_5 : decode cJx4a65c_set_bcc79 5 = .ok (.invokestatic 118, 3) := by decide +kernel
theorem dJx4a65c_set_bcc79_8 : decode cJx4a65c_set_bcc79 8 = .ok (.pop, 1) := by decide +kernel
theorem dJx4a65c_set_bcc79_9 : decode cJx4a65c_set_bcc79 9 = .ok (.aload_n 0, 1) := by decide +kernel
theorem dJx4a65c_set_bcc79_10 : decode cJx4a65c_set_bcc79 10 = .ok (.iload_n 1, 1) := by decide +kernel
theorem dJx4a65c_set_bcc79_11 : decode cJx4a65c_set_bcc79 11 = .ok (.invokevirtual 123, 3) := by decide +kernel
theorem dJx4a65c_set_bcc79_14 : decode cJx4a65c_set_bcc79 14 = .ok (.astore_n 3, 1) := by decide +kernel
theorem dJx4a65c_set_bcc79_15 : decode cJx4a65c_set_bcc79 15 = .ok (.aload_n 0, 1) := by decide +kernel
theorem dJx4a65c_set_bcc79_16 : decode cJx4a65c_set_bcc79 16 = .ok (.getfield 9, 3) := by decide +kernel
theorem dJx4a65c_set_bcc79_19 : decode cJx4a65c_set_bcc79 19 = .ok (.iload_n 1, 1) := by decide +kernel
theorem dJx4a65c_set_bcc79_20 : decode cJx4a65c_set_bcc79 20 = .ok (.aload_n 2, 1) := by decide +kernel
theorem dJx4a65c_set_bcc79_21 : decode cJx4a65c_set_bcc79 21 = .ok (.aastore, 1) := by decide +kernel
theorem dJx4a65c_set_bcc79_22 : decode cJx4a65c_set_bcc79 22 = .ok (.aload_n 3, 1) := by decide +kernel
theorem dJx4a65c_set_bcc79_23 : decode cJx4a65c_set_bcc79 23 = .ok (.areturn, 1) := by decide +kernel
set_option maxRecDepth 20000 in
theorem ggJx4a65c_add_72be8_Jx4a65c_grow_d5877_c0 : GoodIn wsJx4a65c_add_72be8 ([.code yJx4a65c_grow_d5877 cJx4a65c_grow_d5877 1 (some (.array (.object "java/lang/Object")))]) := goodIn_r _ [6] (by decide +kernel) (by decide +kernel)
set_option maxRecDepth 20000 in
theorem ggJx4a65c_add_72be8_Jx4a65c_grow_d5877_c1 : GoodIn wsJx4a65c_add_72be8 (wsJx4a65c_grow_d5877_r1) := goodIn_r _ [1, 7, 8, 9, 5, 10, 11, 12, 13, 14, 15, 16, 17, 18, 19, 20, 21, 22, 23, 24, 25, 26, 27, 28] (by decide +kernel) (by decide +kernel)
set_option maxRecDepth 20000 in
theorem ggJx4a65c_add_72be8_Jx4a65c_grow_d5877_c2 : GoodIn wsJx4a65c_add_72be8 (wsJx4a65c_grow_d5877_r2) := goodIn_r _ [29, 30, 31, 32, 33, 34, 35, 36, 37, 38, 39, 40, 41, 42, 43, 44, 45, 46] (by decide +kernel) (by decide +kernel)
set_option maxRecDepth 20000 in
theorem ggJx4a65c_add_72be8_Jx4a65c_grow_d5877_c3 : GoodIn wsJx4a65c_add_72be8 (wsJx4a65c0) := goodIn_r _ [47, 48, 49] (by decide +kernel) (by decide +kernel)
set_option maxRecDepth 20000 in
theorem ggJx4a65c_add_72be8_Jx4a65c_grow_d5877 : GoodIn wsJx4a65c_add_72be8 wsJx4a65c_grow_d5877 := (goodIn_c1 ggJx4a65c_add_72be8_Jx4a65c_grow_d5877_c0 (goodIn_app (goodIn_app ggJx4a65c_add_72be8_Jx4a65c_grow_d5877_c1 ggJx4a65c_add_72be8_Jx4a65c_grow_d5877_c2) ggJx4a65c_add_72be8_Jx4a65c_grow_d5877_c3))
set_option maxRecDepth 20000 in
theorem gJx4a65c_add_72be8_Jx4a65c_grow_d5877 : GoodIn wsJx4a65c_add_72be8 (wsV RJx4a65c 129 RJx4a65c yJx4a65c_grow_d5877 wsJx4a65c_grow_d5877) := goodIn_app (goodIn_of _ (by decide +kernel)) ggJx4a65c_add_72be8_Jx4a65c_grow_d5877
theorem dJx4a65c_add_72be8_0 : decode cJx4a65c_add_72be8 0 = .ok (.iload_n 3, 1) := by decide +kernel
theorem dJx4a65c_add_72be8_1 : decode cJx4a65c_add_72be8 1 = .ok (.aload_n 2, 1) := by decide +kernel
theorem dJx4a65c_add_72be8_2 : decode cJx4a65c_add_72be8 2 = .ok (.arraylength, 1) := by decide +kernel
theorem dJx4a65c_add_72be8_3 : decode cJx4a65c_add_72be8 3 = .ok (.if_icmp .ne 8, 3) := by decide +kernel
theorem dJx4a65c_add_72be8_6 : decode cJx4a65c_add_72be8 6 = .ok (.aload_n 0, 1) := by decide +kernel
theorem dJx4a65c_add_72be8_7 : decode cJx4a65c_add_72be8 7 = .ok (.invokevirtual 129, 3) := by decide +kernel
theorem dJx4a65c_add_72be8_10 : decode cJx4a65c_add_72be8 10 = .ok (.astore_n 2, 1) := by decide +kernel
theorem dJx4a65c_add_72be8_11 : decode cJx4a65c_add_72be8 11 = .ok (.aload_n 2, 1) := by decide +kernel
theorem dJx4a65c_add_72be8_12 : decode cJx4a65c_add_72be8 12 = .ok (.iload_n 3, 1) := by decide +kernel
theorem dJx4a65c_add_72be8_13 : decode cJx4a65c_add_72be8 13 = .ok (.aload_n 1, 1) := by decide +kernel
theorem dJx4a65c_add_72be8_14 : decode cJx4a65c_add_72be8 14 = .ok (.aastore, 1) := by decide +kernel
theorem dJx4a65c_add_72be8_15 : decode cJx4a65c_add_72be8 15 = .ok (.aload_n 0, 1) := by decide +kernel
theorem dJx4a65c_add_72be8_16 : decode cJx4a65c_add_72be8 16 = .ok (.iload_n 3, 1) := by decide +kernel
theorem dJx4a65c_add_72be8_17 : decode cJx4a65c_add_72be8 17 = .ok (.iconst 1, 1) := by decide +kernel
theorem dJx4a65c_add_72be8_18 : decode cJx4a65c_add_72be8 18 = .ok (.iadd, 1) := by decide +kernel
theorem dJx4a65c_add_72be8_19 : decode cJx4a65c_add_72be8 19 = .ok (.putfield 48, 3) := by decide +kernel
theorem dJx4a65c_add_72be8_22 : decode cJx4a65c_add_72be8 22 = .ok (.return_, 1) := by decide +kernel
set_option maxRecDepth 20000 in
theorem ggJx4a65c_add_9ea2d_Jx4a65c_add_72be8_c0 : GoodIn wsJx4a65c_add_9ea2d ([.code yJx4a65c_add_72be8 cJx4a65c_add_72be8 4 none]) := goodIn_r _ [9] (by decide +kernel) (by decide +kernel)
set_option maxRecDepth 20000 in
theorem ggJx4a65c_add_9ea2d_Jx4a65c_add_72be8_c1 : GoodIn wsJx4a65c_add_9ea2d (wsJx4a65c_add_72be8_r1) := goodIn_r _ [4, 10, 11, 12, 8, 13, 14, 15, 16, 17, 3, 18, 19, 20, 21, 22, 23, 24, 25, 26, 27, 28, 29, 30] (by decide +kernel) (by decide +kernel)
set_option maxRecDepth 20000 in
theorem ggJx4a65c_add_9ea2d_Jx4a65c_add_72be8_c2 : GoodIn wsJx4a65c_add_9ea2d (wsJx4a65c_add_72be8_r2) := goodIn_r _ [31, 32, 33, 34, 35, 36, 37, 38, 39, 40, 41, 42, 43, 44, 45, 46, 47, 48, 49, 50, 51, 52] (by decide +kernel) (by decide +kernel)
set_option maxRecDepth 20000 in
theorem ggJx4a65c_add_9ea2d_Jx4a65c_add_72be8_c3 : GoodIn wsJx4a65c_add_9ea2d (wsJx4a65c0) := goodIn_r _ [53, 54, 55] (by decide +kernel) (by decide +kernel)
set_option maxRecDepth 20000 in
theorem ggJx4a65c_add_9ea2d_Jx4a65c_add_72be8 : GoodIn wsJx4a65c_add_9ea2d wsJx4a65c_add_72be8 := (goodIn_c1 ggJx4a65c_add_9ea2d_Jx4a65c_add_72be8_c0 (goodIn_app (goodIn_app ggJx4a65c_add_9ea2d_Jx4a65c_add_72be8_c1 ggJx4a65c_add_9ea2d_Jx4a65c_add_72be8_c2) ggJx4a65c_add_9ea2d_Jx4a65c_add_72be8_c3))
set_option maxRecDepth 20000 in
theorem gJx4a65c_add_9ea2d_Jx4a65c_add_72be8 : GoodIn wsJx4a65c_add_9ea2d (wsV RJx4a65c 131 RJx4a65c yJx4a65c_add_72be8 wsJx4a65c_add_72be8) := goodIn_app (goodIn_of _ (by decide +kernel)) ggJx4a65c_add_9ea2d_Jx4a65c_add_72be8
theorem dJx4a65c_add_9ea2d_0 : decode cJx4a65c_add_9ea2d 0 = .ok (.aload_n 0, 1) := by decide +kernel
theorem dJx4a65c_add_9ea2d_1 : decode cJx4a65c_add_9ea2d 1 = .ok (.dup, 1) := by decide +kernel
theorem dJx4a65c_add_9ea2d_2 : decode cJx4a65c_add_9ea2d 2 = .ok (.getfield 63, 3) := by decide +kernel
theorem dJx4a65c_add_9ea2d_5 : decode cJx4a65c_add_9ea2d 5 = .ok (.iconst 1, 1) := by decide +kernel
theorem dJx4a65c_add_9ea2d_6 : decode cJx4a65c_add_9ea2d 6 = .ok (.iadd, 1) := by decide +kernel
theorem dJx4a65c_add_9ea2d_7 : decode cJx4a65c_add_9ea2d 7 = .ok (.putfield 63, 3) := by decide +kernel
theorem dJx4a65c_add_9ea2d_10 : decode cJx4a65c_add_9ea2d 10 = .ok (.aload_n 0, 1) := by decide +kernel
theorem dJx4a65c_add_9ea2d_11 : decode cJx4a65c_add_9ea2d 11 = .ok (.aload_n 1, 1) := by decide +kernel
theorem dJx4a65c_add_9ea2d_12 : decode cJx4a65c_add_9ea2d 12 = .ok (.aload_n 0, 1) := by decide +kernel
theorem dJx4a65c_add_9ea2d_13 : decode cJx4a65c_add_9ea2d 13 = .ok (.getfield 9, 3) := by decide +kernel
theorem dJx4a65c_add_9ea2d_16 : decode cJx4a65c_add_9ea2d 16 = .ok (.aload_n 0, 1) := by decide +kernel
theorem dJx4a65c_add_9ea2d_17 : decode cJx4a65c_add_9ea2d 17 = .ok (.getfield 48, 3) := by decide +kernel
theorem dJx4a65c_add_9ea2d_20 : decode cJx4a65c_add_9ea2d 20 = .ok (.invokevirtual 131, 3) := by decide +kernel
theorem dJx4a65c_add_9ea2d_23 : decode cJx4a65c_add_9ea2d 23 = .ok (.iconst 1, 1) := by decide +kernel
theorem dJx4a65c_add_9ea2d_24 : decode cJx4a65c_add_9ea2d 24 = .ok (.ireturn, 1) := by decide +kernel
set_option maxRecDepth 20000 in
theorem ggJ7_copyOf_1904c_J7_copyOf_6403c : GoodIn wsJ7_copyOf_1904c wsJ7_copyOf_6403c := goodIn_r _ [8, 9, 10, 11, 12, 13, 14, 15, 16, 17, 18] (by decide +kernel) (by decide +kernel)
set_option maxRecDepth 20000 in
theorem gJ7_copyOf_1904c_J7_copyOf_6403c : GoodIn wsJ7_copyOf_1904c (va_wsS RJ7 300 yJ7_copyOf_6403c wsJ7_copyOf_6403c) := goodIn_app (goodIn_of _ (by decide +kernel)) ggJ7_copyOf_1904c_J7_copyOf_6403c
theorem dJ7_copyOf_1904c_0 : decode cJ7_copyOf_1904c 0 = .ok (.aload_n 0, 1) := by decide +kernel
theorem dJ7_copyOf_1904c_1 : decode cJ7_copyOf_1904c 1 = .ok (.iload_n 1, 1) := by decide +kernel
theorem dJ7_copyOf_1904c_2 : decode cJ7_copyOf_1904c 2 = .ok (.aload_n 0, 1) := by decide +kernel
theorem dJ7_copyOf_1904c_3 : decode cJ7_copyOf_1904c 3 = .ok (.invokevirtual 86, 3) := by decide +kernel
theorem dJ7_copyOf_1904c_6 : decode cJ7_copyOf_1904c 6 = .ok (.invokestatic 300, 3) := by decide +kernel
theorem dJ7_copyOf_1904c_9 : decode cJ7_copyOf_1904c 9 = .ok (.areturn, 1) := by decide +kernel
theorem dJ7_copyOf_6403c_0 : decode cJ7_copyOf_6403c 0 = .ok (.aload_n 2, 1) := by decide +kernel
theorem dJ7_copyOf_6403c_1 : decode cJ7_copyOf_6403c 1 = .ok (.ldc 110, 2) := by decide +kernel
theorem dJ7_copyOf_6403c_3 : decode cJ7_copyOf_6403c 3 = .ok (.if_acmp .ne 10, 3) := by decide +kernel
theorem dJ7_copyOf_6403c_6 : decode cJ7_copyOf_6403c 6 = .ok (.iload_n 1, 1) := by decide +kernel
theorem dJ7_copyOf_6403c_7 : decode cJ7_copyOf_6403c 7 = .ok (.anewarray 2, 3) := by decide +kernel
theorem dJ7_copyOf_6403c_10 : decode cJ7_copyOf_6403c 10 = .ok (.goto 14, 3) := by decide +kernel
theorem dJ7_copyOf_6403c_13 : decode cJ7_copyOf_6403c 13 = .ok (.aload_n 2, 1) := by decide +kernel
theorem dJ7_copyOf_6403c_14 : decode cJ7_copyOf_6403c 14 = .ok (.invokevirtual 90, 3) := by decide +kernel
theorem dJ7_copyOf_6403c_17 : decode cJ7_copyOf_6403c 17 = .ok (.iload_n 1, 1) := by decide +kernel
theorem dJ7_copyOf_6403c_18 : decode cJ7_copyOf_6403c 18 = .ok (.invokestatic 95, 3) := by decide +kernel
theorem dJ7_copyOf_6403c_21 : decode cJ7_copyOf_6403c 21 = .ok (.checkcast 110, 3) := by decide +kernel
theorem dJ7_copyOf_6403c_24 : decode cJ7_copyOf_6403c 24 = .ok (.astore_n 3, 1) := by decide +kernel
theorem dJ7_copyOf_6403c_25 : decode cJ7_copyOf_6403c 25 = .ok (.aload_n 0, 1) := by decide +kernel
theorem dJ7_copyOf_6403c_26 : decode cJ7_copyOf_6403c 26 = .ok (.iconst 0, 1) := by decide +kernel
theorem dJ7_copyOf_6403c_27 : decode cJ7_copyOf_6403c 27 = .ok (.aload_n 3, 1) := by decide +kernel
theorem dJ7_copyOf_6403c_28 : decode cJ7_copyOf_6403c 28 = .ok (.iconst 0, 1) := by decide +kernel
theorem dJ7_copyOf_6403c_29 : decode cJ7_copyOf_6403c 29 = .ok (.aload_n 0, 1) := by decide +kernel
theorem dJ7_copyOf_6403c_30 : decode cJ7_copyOf_6403c 30 = .ok (.arraylength, 1) := by decide +kernel
theorem dJ7_copyOf_6403c_31 : decode cJ7_copyOf_6403c 31 = .ok (.iload_n 1, 1) := by decide +kernel
theorem dJ7_copyOf_6403c_32 : decode cJ7_copyOf_6403c 32 = .ok (.invokestatic 304, 3) := by decide +kernel
theorem dJ7_copyOf_6403c_35 : decode cJ7_copyOf_6403c 35 = .ok (.invokestatic 150, 3) := by decide +kernel
theorem dJ7_copyOf_6403c_38 : decode cJ7_copyOf_6403c 38 = .ok (.aload_n 3, 1) := by decide +kernel
theorem dJ7_copyOf_6403c_39 : decode cJ7_copyOf_6403c 39 = .ok (.areturn, 1) := by decide +kernel
set_option maxRecDepth 20000 in
theorem ggJ15_checkIndex_7cf53_J3_checkIndex_8e157 : GoodIn wsJ15_checkIndex_7cf53 wsJ3_checkIndex_8e157 := goodIn_r _ [4] (by decide +kernel) (by decide +kernel)
set_option maxRecDepth 20000 in
theorem gJ15_checkIndex_7cf53_J3_checkIndex_8e157 : GoodIn wsJ15_checkIndex_7cf53 (va_wsS RJ15 105 yJ3_checkIndex_8e157 wsJ3_checkIndex_8e157) := goodIn_app (goodIn_of _ (by decide +kernel)) ggJ15_checkIndex_7cf53_J3_checkIndex_8e157
theorem dJ15_checkIndex_7cf53_0 : decode cJ15_checkIndex_7cf53 0 = .ok (.iload_n 0, 1) := by decide +kernel
theorem dJ15_checkIndex_7cf53_1 : decode cJ15_checkIndex_7cf53 1 = .ok (.iload_n 1, 1) := by decide +kernel
theorem dJ15_checkIndex_7cf53_2 : decode cJ15_checkIndex_7cf53 2 = .ok (.aconst_null, 1) := by decide +kernel
theorem dJ15_checkIndex_7cf53_3 : decode cJ15_checkIndex_7cf53 3 = .ok (.invokestatic 105, 3) := by decide +kernel
theorem dJ15_checkIndex_7cf53_6 : decode cJ15_checkIndex_7cf53 6 = .ok (.ireturn, 1) := by decide +kernel
set_option maxRecDepth 20000 in
theorem ggJ8_newLength_cabcc_J8_hugeLength_7cf53 : GoodIn wsJ8_newLength_cabcc wsJ8_hugeLength_7cf53 := goodIn_r _ [9, 5] (by decide +kernel) (by decide +kernel)
set_option maxRecDepth 20000 in
theorem gJ8_newLength_cabcc_J8_hugeLength_7cf53 : GoodIn wsJ8_newLength_cabcc (va_wsS RJ8 201 yJ8_hugeLength_7cf53 wsJ8_hugeLength_7cf53) := goodIn_app (goodIn_of _ (by decide +kernel)) ggJ8_newLength_cabcc_J8_hugeLength_7cf53
theorem dJ8_newLength_cabcc_0 : decode cJ8_newLength_cabcc 0 = .ok (.iload_n 0, 1) := by decide +kernel
theorem dJ8_newLength_cabcc_1 : decode cJ8_newLength_cabcc 1 = .ok (.iload_n 1, 1) := by decide +kernel
theorem dJ8_newLength_cabcc_2 : decode cJ8_newLength_cabcc 2 = .ok (.iload_n 2, 1) := by decide +kernel
theorem dJ8_newLength_cabcc_3 : decode cJ8_newLength_cabcc 3 = .ok (.invokestatic 194, 3) := by decide +kernel
theorem dJ8_newLength_cabcc_6 : decode cJ8_newLength_cabcc 6 = .ok (.iadd, 1) := by decide +kernel
theorem dJ8_newLength_cabcc_7 : decode cJ8_newLength_cabcc 7 = .ok (.istore_n 3, 1) := by decide +kernel
theorem dJ8_newLength_cabcc_8 : decode cJ8_newLength_cabcc 8 = .ok (.iconst 0, 1) := by decide +kernel
theorem dJ8_newLength_cabcc_9 : decode cJ8_newLength_cabcc 9 = .ok (.iload_n 3, 1) := by decide +kernel
theorem dJ8_newLength_cabcc_10 : decode cJ8_newLength_cabcc 10 = .ok (.if_icmp .ge 11, 3) := by decide +kernel
theorem dJ8_newLength_cabcc_13 : decode cJ8_newLength_cabcc 13 = .ok (.iload_n 3, 1) := by decide +kernel
theorem dJ8_newLength_cabcc_14 : decode cJ8_newLength_cabcc 14 = .ok (.ldc 200, 2) := by decide +kernel
theorem dJ8_newLength_cabcc_16 : decode cJ8_newLength_cabcc 16 = .ok (.if_icmp .gt 5, 3) := by decide +kernel
theorem dJ8_newLength_cabcc_19 : decode cJ8_newLength_cabcc 19 = .ok (.iload_n 3, 1) := by decide +kernel
theorem dJ8_newLength_cabcc_20 : decode cJ8_newLength_cabcc 20 = .ok (.ireturn, 1) := by decide +kernel
theorem dJ8_newLength_cabcc_21 : decode cJ8_newLength_cabcc 21 = .ok (.iload_n 0, 1) := by decide +kernel
theorem dJ8_newLength_cabcc_22 : decode cJ8_newLength_cabcc 22 = .ok (.iload_n 1, 1) := by decide +kernel
theorem dJ8_newLength_cabcc_23 : decode cJ8_newLength_cabcc 23 = .ok (.invokestatic 201, 3) := by decide +kernel
theorem dJ8_newLength_cabcc_26 : decode cJ8_newLength_cabcc 26 = .ok (.ireturn, 1) := by decide +kernel
theorem dJ8_hugeLength_7cf53_0 : decode cJ8_hugeLength_7cf53 0 = .ok (.iload_n 0, 1) := by decide +kernel
theorem dJ8_hugeLength_7cf53_1 : decode cJ8_hugeLength_7cf53 1 = .ok (.iload_n 1, 1) := by decide +kernel
theorem dJ8_hugeLength_7cf53_2 : decode cJ8_hugeLength_7cf53 2 = .ok (.iadd, 1) := by decide +kernel
theorem dJ8_hugeLength_7cf53_3 : decode cJ8_hugeLength_7cf53 3 = .ok (.istore_n 2, 1) := by decide +kernel
theorem dJ8_hugeLength_7cf53_4 : decode cJ8_hugeLength_7cf53 4 = .ok (.iload_n 2, 1) := by decide +kernel
theorem dJ8_hugeLength_7cf53_5 : decode cJ8_hugeLength_7cf53 5 = .ok (.ifCond .ge 44, 3) := by decide +kernel
theorem dJ8_hugeLength_7cf53_8 : decode cJ8_hugeLength_7cf53 8 = .ok (.new 204, 3) := by decide +kernel
theorem dJ8_hugeLength_7cf53_11 : decode cJ8_hugeLength_7cf53 11 = .ok (.dup, 1) := by decide +kernel
theorem dJ8_hugeLength_7cf53_12 : decode cJ8_hugeLength_7cf53 12 = .ok (.new 89, 3) := by decide +kernel
theorem dJ8_hugeLength_7cf53_15 : decode cJ8_hugeLength_7cf53 15 = .ok (.dup, 1) := by decide +kernel
theorem dJ8_hugeLength_7cf53_16 : decode cJ8_hugeLength_7cf53 16 = .ok (.invokespecial 91, 3) := by decide +kernel
theorem dJ8_hugeLength_7cf53_19 : decode cJ8_hugeLength_7cf53 19 = .ok (.ldc 206, 2) := by decide +kernel
theorem dJ8_hugeLength_7cf53_21 : decode cJ8_hugeLength_7cf53 21 = .ok (.invokevirtual 94, 3) := by decide +kernel
theorem dJ8_hugeLength_7cf53_24 : decode cJ8_hugeLength_7cf53 24 = .ok (.iload_n 0, 1) := by decide +kernel
theorem dJ8_hugeLength_7cf53_25 : decode cJ8_hugeLength_7cf53 25 = .ok (.invokevirtual 98, 3) := by decide +kernel
theorem dJ8_hugeLength_7cf53_28 : decode cJ8_hugeLength_7cf53 28 = .ok (.ldc 208, 2) := by decide +kernel
theorem dJ8_hugeLength_7cf53_30 : decode cJ8_hugeLength_7cf53 30 = .ok (.invokevirtual 94, 3) := by decide +kernel
theorem dJ8_hugeLength_7cf53_33 : decode cJ8_hugeLength_7cf53 33 = .ok (.iload_n 1, 1) := by decide +kernel
theorem dJ8_hugeLength_7cf53_34 : decode cJ8_hugeLength_7cf53 34 = .ok (.invokevirtual 98, 3) := by decide +kernel
theorem dJ8_hugeLength_7cf53_37 : decode cJ8_hugeLength_7cf53 37 = .ok (.ldc 210, 2) := by decide +kernel
theorem dJ8_hugeLength_7cf53_39 : decode cJ8_hugeLength_7cf53 39 = .ok (.invokevirtual 94, 3) := by decide +kernel
theorem dJ8_hugeLength_7cf53_42 : decode cJ8_hugeLength_7cf53 42 = .ok (.invokevirtual 101, 3) := by decide +kernel
theorem dJ8_hugeLength_7cf53_45 : decode cJ8_hugeLength_7cf53 45 = .ok (.invokespecial 212, 3) := by decide +kernel
theorem dJ8_hugeLength_7cf53_48 : decode cJ8_hugeLength_7cf53 48 = .ok (.athrow, 1) := by decide +kernel
theorem dJ8_hugeLength_7cf53_49 : decode cJ8_hugeLength_7cf53 49 = .ok (.iload_n 2, 1) := by decide +kernel
theorem dJ8_hugeLength_7cf53_50 : decode cJ8_hugeLength_7cf53 50 = .ok (.ldc 200, 2) := by decide +kernel
theorem dJ8_hugeLength_7cf53_52 : decode cJ8_hugeLength_7cf53 52 = .ok (.if_icmp .gt 6, 3) := by decide +kernel
theorem dJ8_hugeLength_7cf53_55 : decode cJ8_hugeLength_7cf53 55 = .ok (.ldc 200, 2) := by decide +kernel
theorem dJ8_hugeLength_7cf53_57 : decode cJ8_hugeLength_7cf53 57 = .ok (.ireturn, 1) := by decide +kernel
theorem dJ8_hugeLength_7cf53_58 : decode cJ8_hugeLength_7cf53 58 = .ok (.iload_n 2, 1) := by decide +kernel
theorem dJ8_hugeLength_7cf53_59 : decode cJ8_hugeLength_7cf53 59 = .ok (.ireturn, 1) := by decide +kernel
theorem dJ3_checkIndex_8e157_0 : decode cJ3_checkIndex_8e157 0 = .ok (.iload_n 0, 1) := by decide +kernel
theorem dJ3_checkIndex_8e157_1 : decode cJ3_checkIndex_8e157 1 = .ok (.ifCond .lt 8, 3) := by decide +kernel
theorem dJ3_checkIndex_8e157_4 : decode cJ3_checkIndex_8e157 4 = .ok (.iload_n 0, 1) := by decide +kernel
theorem dJ3_checkIndex_8e157_5 : decode cJ3_checkIndex_8e157 5 = .ok (.iload_n 1, 1) := by decide +kernel
theorem dJ3_checkIndex_8e157_6 : decode cJ3_checkIndex_8e157 6 = .ok (.if_icmp .lt 10, 3) := by decide +kernel
theorem dJ3_checkIndex_8e157_9 : decode cJ3_checkIndex_8e157 9 = .ok (.aload_n 2, 1) := by decide +kernel
theorem dJ3_checkIndex_8e157_10 : decode cJ3_checkIndex_8e157 10 = .ok (.iload_n 0, 1) := by decide +kernel
theorem dJ3_checkIndex_8e157_11 : decode cJ3_checkIndex_8e157 11 = .ok (.iload_n 1, 1) := by decide +kernel
theorem dJ3_checkIndex_8e157_12 : decode cJ3_checkIndex_8e157 12 = .ok (.invokestatic 95, 3) := by decide +kernel
theorem dJ3_checkIndex_8e157_15 : decode cJ3_checkIndex_8e157 15 = .ok (.athrow, 1) := by decide +kernel
theorem dJ3_checkIndex_8e157_16 : decode cJ3_checkIndex_8e157 16 = .ok (.iload_n 0, 1) := by decide +kernel
theorem dJ3_checkIndex_8e157_17 : decode cJ3_checkIndex_8e157 17 = .ok (.ireturn, 1) := by decide +kernel
theorem dL_type_0 : decode cL_type 0 = .ok (.aload_n 2, 1) := by decide +kernel
theorem dL_type_1 : decode cL_type 1 = .ok (.iconst 0, 1) := by decide +kernel
theorem dL_type_2 : decode cL_type 2 = .ok (.aload_n 0, 1) := by decide +kernel
theorem dL_type_3 : decode cL_type 3 = .ok (.iload_n 1, 1) := by decide +kernel
theorem dL_type_4 : decode cL_type 4 = .ok (.invokevirtual 7, 3) := by decide +kernel
theorem dL_type_7 : decode cL_type 7 = .ok (.i2l, 1) := by decide +kernel
theorem dL_type_8 : decode cL_type 8 = .ok (.lastore, 1) := by decide +kernel
theorem dL_type_9 : decode cL_type 9 = .ok (.goto 9, 3) := by decide +kernel
theorem dL_type_12 : decode cL_type 12 = .ok (.astore_n 3, 1) := by decide +kernel
theorem dL_type_13 : decode cL_type 13 = .ok (.iconst 1, 1) := by decide +kernel
theorem dL_type_14 : decode cL_type 14 = .ok (.ireturn, 1) := by decide +kernel
theorem dL_type_15 : decode cL_type 15 = .ok (.astore_n 3, 1) := by decide +kernel
theorem dL_type_16 : decode cL_type 16 = .ok (.iconst 2, 1) := by decide +kernel
theorem dL_type_17 : decode cL_type 17 = .ok (.ireturn, 1) := by decide +kernel
theorem dL_type_18 : decode cL_type 18 = .ok (.iconst 0, 1) := by decide +kernel
theorem dL_type_19 : decode cL_type 19 = .ok (.ireturn, 1) := by decide +kernel
theorem dL_post_0 : decode cL_post 0 = .ok (.aload_n 1, 1) := by decide +kernel
theorem dL_post_1 : decode cL_post 1 = .ok (.iconst 0, 1) := by decide +kernel
theorem dL_post_2 : decode cL_post 2 = .ok (.aload_n 0, 1) := by decide +kernel
theorem dL_post_3 : decode cL_post 3 = .ok (.invokevirtual 17, 3) := by decide +kernel
theorem dL_post_6 : decode cL_post 6 = .ok (.i2l, 1) := by decide +kernel
theorem dL_post_7 : decode cL_post 7 = .ok (.lastore, 1) := by decide +kernel
theorem dL_post_8 : decode cL_post 8 = .ok (.goto 6, 3) := by decide +kernel
theorem dL_post_11 : decode cL_post 11 = .ok (.astore_n 2, 1) := by decide +kernel
theorem dL_post_12 : decode cL_post 12 = .ok (.iconst 1, 1) := by decide +kernel
theorem dL_post_13 : decode cL_post 13 = .ok (.ireturn, 1) := by decide +kernel
theorem dL_post_14 : decode cL_post 14 = .ok (.iconst 0, 1) := by decide +kernel
theorem dL_post_15 : decode cL_post 15 = .ok (.ireturn, 1) := by decide +kernel
theorem dL_write_0 : decode cL_write 0 = .ok (.aload_n 2, 1) := by decide +kernel
theorem dL_write_1 : decode cL_write 1 = .ok (.iconst 0, 1) := by decide +kernel
theorem dL_write_2 : decode cL_write 2 = .ok (.aload_n 0, 1) := by decide +kernel
theorem dL_write_3 : decode cL_write 3 = .ok (.iload_n 1, 1) := by decide +kernel
theorem dL_write_4 : decode cL_write 4 = .ok (.invokevirtual 21, 3) := by decide +kernel
theorem dL_write_7 : decode cL_write 7 = .ok (.ifCond .eq 7, 3) := by decide +kernel
theorem dL_write_10 : decode cL_write 10 = .ok (.lconst 1, 1) := by decide +kernel
theorem dL_write_11 : decode cL_write 11 = .ok (.goto 4, 3) := by decide +kernel
theorem dL_write_14 : decode cL_write 14 = .ok (.lconst 0, 1) := by decide +kernel
theorem dL_write_15 : decode cL_write 15 = .ok (.lastore, 1) := by decide +kernel
theorem dL_write_16 : decode cL_write 16 = .ok (.goto 9, 3) := by decide +kernel
theorem dL_write_19 : decode cL_write 19 = .ok (.astore_n 3, 1) := by decide +kernel
theorem dL_write_20 : decode cL_write 20 = .ok (.iconst 1, 1) := by decide +kernel
theorem dL_write_21 : decode cL_write 21 = .ok (.ireturn, 1) := by decide +kernel
theorem dL_write_22 : decode cL_write 22 = .ok (.astore_n 3, 1) := by decide +kernel
theorem dL_write_23 : decode cL_write 23 = .ok (.iconst 2, 1) := by decide +kernel
theorem dL_write_24 : decode cL_write 24 = .ok (.ireturn, 1) := by decide +kernel
theorem dL_write_25 : decode cL_write 25 = .ok (.iconst 0, 1) := by decide +kernel
theorem dL_write_26 : decode cL_write 26 = .ok (.ireturn, 1) := by decide +kernel
theorem dL_strike_0 : decode cL_strike 0 = .ok (.aload_n 2, 1) := by decide +kernel
theorem dL_strike_1 : decode cL_strike 1 = .ok (.iconst 0, 1) := by decide +kernel
theorem dL_strike_2 : decode cL_strike 2 = .ok (.aload_n 0, 1) := by decide +kernel
theorem dL_strike_3 : decode cL_strike 3 = .ok (.iload_n 1, 1) := by decide +kernel
theorem dL_strike_4 : decode cL_strike 4 = .ok (.invokevirtual 27, 3) := by decide +kernel
theorem dL_strike_7 : decode cL_strike 7 = .ok (.i2l, 1) := by decide +kernel
theorem dL_strike_8 : decode cL_strike 8 = .ok (.lastore, 1) := by decide +kernel
theorem dL_strike_9 : decode cL_strike 9 = .ok (.goto 9, 3) := by decide +kernel
theorem dL_strike_12 : decode cL_strike 12 = .ok (.astore_n 3, 1) := by decide +kernel
theorem dL_strike_13 : decode cL_strike 13 = .ok (.iconst 1, 1) := by decide +kernel
theorem dL_strike_14 : decode cL_strike 14 = .ok (.ireturn, 1) := by decide +kernel
theorem dL_strike_15 : decode cL_strike 15 = .ok (.astore_n 3, 1) := by decide +kernel
theorem dL_strike_16 : decode cL_strike 16 = .ok (.iconst 2, 1) := by decide +kernel
theorem dL_strike_17 : decode cL_strike 17 = .ok (.ireturn, 1) := by decide +kernel
theorem dL_strike_18 : decode cL_strike 18 = .ok (.iconst 0, 1) := by decide +kernel
theorem dL_strike_19 : decode cL_strike 19 = .ok (.ireturn, 1) := by decide +kernel
theorem dL_rule_0 : decode cL_rule 0 = .ok (.aload 5, 2) := by decide +kernel
theorem dL_rule_2 : decode cL_rule 2 = .ok (.iconst 0, 1) := by decide +kernel
theorem dL_rule_3 : decode cL_rule 3 = .ok (.aload_n 0, 1) := by decide +kernel
theorem dL_rule_4 : decode cL_rule 4 = .ok (.iload_n 1, 1) := by decide +kernel
theorem dL_rule_5 : decode cL_rule 5 = .ok (.iload_n 2, 1) := by decide +kernel
theorem dL_rule_6 : decode cL_rule 6 = .ok (.iload_n 3, 1) := by decide +kernel
theorem dL_rule_7 : decode cL_rule 7 = .ok (.iload 4, 2) := by decide +kernel
theorem dL_rule_9 : decode cL_rule 9 = .ok (.invokevirtual 30, 3) := by decide +kernel
theorem dL_rule_12 : decode cL_rule 12 = .ok (.i2l, 1) := by decide +kernel
theorem dL_rule_13 : decode cL_rule 13 = .ok (.lastore, 1) := by decide +kernel
theorem dL_rule_14 : decode cL_rule 14 = .ok (.goto 11, 3) := by decide +kernel
theorem dL_rule_17 : decode cL_rule 17 = .ok (.astore 6, 2) := by decide +kernel
theorem dL_rule_19 : decode cL_rule 19 = .ok (.iconst 1, 1) := by decide +kernel
theorem dL_rule_20 : decode cL_rule 20 = .ok (.ireturn, 1) := by decide +kernel
theorem dL_rule_21 : decode cL_rule 21 = .ok (.astore 6, 2) := by decide +kernel
theorem dL_rule_23 : decode cL_rule 23 = .ok (.iconst 2, 1) := by decide +kernel
theorem dL_rule_24 : decode cL_rule 24 = .ok (.ireturn, 1) := by decide +kernel
theorem dL_rule_25 : decode cL_rule 25 = .ok (.iconst 0, 1) := by decide +kernel
theorem dL_rule_26 : decode cL_rule 26 = .ok (.ireturn, 1) := by decide +kernel
theorem dL_takeBack_0 : decode cL_takeBack 0 = .ok (.aload_n 2, 1) := by decide +kernel
theorem dL_takeBack_1 : decode cL_takeBack 1 = .ok (.iconst 0, 1) := by decide +kernel
theorem dL_takeBack_2 : decode cL_takeBack 2 = .ok (.aload_n 0, 1) := by decide +kernel
theorem dL_takeBack_3 : decode cL_takeBack 3 = .ok (.iload_n 1, 1) := by decide +kernel
theorem dL_takeBack_4 : decode cL_takeBack 4 = .ok (.invokevirtual 34, 3) := by decide +kernel
theorem dL_takeBack_7 : decode cL_takeBack 7 = .ok (.i2l, 1) := by decide +kernel
theorem dL_takeBack_8 : decode cL_takeBack 8 = .ok (.lastore, 1) := by decide +kernel
theorem dL_takeBack_9 : decode cL_takeBack 9 = .ok (.goto 9, 3) := by decide +kernel
theorem dL_takeBack_12 : decode cL_takeBack 12 = .ok (.astore_n 3, 1) := by decide +kernel
theorem dL_takeBack_13 : decode cL_takeBack 13 = .ok (.iconst 1, 1) := by decide +kernel
theorem dL_takeBack_14 : decode cL_takeBack 14 = .ok (.ireturn, 1) := by decide +kernel
theorem dL_takeBack_15 : decode cL_takeBack 15 = .ok (.astore_n 3, 1) := by decide +kernel
theorem dL_takeBack_16 : decode cL_takeBack 16 = .ok (.iconst 2, 1) := by decide +kernel
theorem dL_takeBack_17 : decode cL_takeBack 17 = .ok (.ireturn, 1) := by decide +kernel
theorem dL_takeBack_18 : decode cL_takeBack 18 = .ok (.iconst 0, 1) := by decide +kernel
theorem dL_takeBack_19 : decode cL_takeBack 19 = .ok (.ireturn, 1) := by decide +kernel
theorem dL_audit_0 : decode cL_audit 0 = .ok (.aload_n 3, 1) := by decide +kernel
theorem dL_audit_1 : decode cL_audit 1 = .ok (.iconst 0, 1) := by decide +kernel
theorem dL_audit_2 : decode cL_audit 2 = .ok (.aload_n 0, 1) := by decide +kernel
theorem dL_audit_3 : decode cL_audit 3 = .ok (.iload_n 1, 1) := by decide +kernel
theorem dL_audit_4 : decode cL_audit 4 = .ok (.iload_n 2, 1) := by decide +kernel
theorem dL_audit_5 : decode cL_audit 5 = .ok (.invokevirtual 37, 3) := by decide +kernel
theorem dL_audit_8 : decode cL_audit 8 = .ok (.i2l, 1) := by decide +kernel
theorem dL_audit_9 : decode cL_audit 9 = .ok (.lastore, 1) := by decide +kernel
theorem dL_audit_10 : decode cL_audit 10 = .ok (.goto 15, 3) := by decide +kernel
theorem dL_audit_13 : decode cL_audit 13 = .ok (.astore 4, 2) := by decide +kernel
theorem dL_audit_15 : decode cL_audit 15 = .ok (.iconst 1, 1) := by decide +kernel
theorem dL_audit_16 : decode cL_audit 16 = .ok (.ireturn, 1) := by decide +kernel
theorem dL_audit_17 : decode cL_audit 17 = .ok (.astore 4, 2) := by decide +kernel
theorem dL_audit_19 : decode cL_audit 19 = .ok (.iconst 2, 1) := by decide +kernel
theorem dL_audit_20 : decode cL_audit 20 = .ok (.ireturn, 1) := by decide +kernel
theorem dL_audit_21 : decode cL_audit 21 = .ok (.astore 4, 2) := by decide +kernel
theorem dL_audit_23 : decode cL_audit 23 = .ok (.iconst 3, 1) := by decide +kernel
theorem dL_audit_24 : decode cL_audit 24 = .ok (.ireturn, 1) := by decide +kernel
theorem dL_audit_25 : decode cL_audit 25 = .ok (.iconst 0, 1) := by decide +kernel
theorem dL_audit_26 : decode cL_audit 26 = .ok (.ireturn, 1) := by decide +kernel
theorem dL_end_0 : decode cL_end 0 = .ok (.aload_n 2, 1) := by decide +kernel
theorem dL_end_1 : decode cL_end 1 = .ok (.iconst 0, 1) := by decide +kernel
theorem dL_end_2 : decode cL_end 2 = .ok (.aload_n 0, 1) := by decide +kernel
theorem dL_end_3 : decode cL_end 3 = .ok (.iload_n 1, 1) := by decide +kernel
theorem dL_end_4 : decode cL_end 4 = .ok (.invokevirtual 41, 3) := by decide +kernel
theorem dL_end_7 : decode cL_end 7 = .ok (.ifCond .eq 7, 3) := by decide +kernel
theorem dL_end_10 : decode cL_end 10 = .ok (.lconst 1, 1) := by decide +kernel
theorem dL_end_11 : decode cL_end 11 = .ok (.goto 4, 3) := by decide +kernel
theorem dL_end_14 : decode cL_end 14 = .ok (.lconst 0, 1) := by decide +kernel
theorem dL_end_15 : decode cL_end 15 = .ok (.lastore, 1) := by decide +kernel
theorem dL_end_16 : decode cL_end 16 = .ok (.goto 9, 3) := by decide +kernel
theorem dL_end_19 : decode cL_end 19 = .ok (.astore_n 3, 1) := by decide +kernel
theorem dL_end_20 : decode cL_end 20 = .ok (.iconst 1, 1) := by decide +kernel
theorem dL_end_21 : decode cL_end 21 = .ok (.ireturn, 1) := by decide +kernel
theorem dL_end_22 : decode cL_end 22 = .ok (.astore_n 3, 1) := by decide +kernel
theorem dL_end_23 : decode cL_end 23 = .ok (.iconst 2, 1) := by decide +kernel
theorem dL_end_24 : decode cL_end 24 = .ok (.ireturn, 1) := by decide +kernel
theorem dL_end_25 : decode cL_end 25 = .ok (.iconst 0, 1) := by decide +kernel
theorem dL_end_26 : decode cL_end 26 = .ok (.ireturn, 1) := by decide +kernel
theorem dL_signAt_0 : decode cL_signAt 0 = .ok (.aload 4, 2) := by decide +kernel
theorem dL_signAt_2 : decode cL_signAt 2 = .ok (.iconst 0, 1) := by decide +kernel
theorem dL_signAt_3 : decode cL_signAt 3 = .ok (.aload_n 0, 1) := by decide +kernel
theorem dL_signAt_4 : decode cL_signAt 4 = .ok (.iload_n 1, 1) := by decide +kernel
theorem dL_signAt_5 : decode cL_signAt 5 = .ok (.iload_n 2, 1) := by decide +kernel
theorem dL_signAt_6 : decode cL_signAt 6 = .ok (.iload_n 3, 1) := by decide +kernel
theorem dL_signAt_7 : decode cL_signAt 7 = .ok (.invokevirtual 44, 3) := by decide +kernel
theorem dL_signAt_10 : decode cL_signAt 10 = .ok (.i2l, 1) := by decide +kernel
theorem dL_signAt_11 : decode cL_signAt 11 = .ok (.lastore, 1) := by decide +kernel
theorem dL_signAt_12 : decode cL_signAt 12 = .ok (.goto 11, 3) := by decide +kernel
theorem dL_signAt_15 : decode cL_signAt 15 = .ok (.astore 5, 2) := by decide +kernel
theorem dL_signAt_17 : decode cL_signAt 17 = .ok (.iconst 1, 1) := by decide +kernel
theorem dL_signAt_18 : decode cL_signAt 18 = .ok (.ireturn, 1) := by decide +kernel
theorem dL_signAt_19 : decode cL_signAt 19 = .ok (.astore 5, 2) := by decide +kernel
theorem dL_signAt_21 : decode cL_signAt 21 = .ok (.iconst 2, 1) := by decide +kernel
theorem dL_signAt_22 : decode cL_signAt 22 = .ok (.ireturn, 1) := by decide +kernel
theorem dL_signAt_23 : decode cL_signAt 23 = .ok (.iconst 0, 1) := by decide +kernel
theorem dL_signAt_24 : decode cL_signAt 24 = .ok (.ireturn, 1) := by decide +kernel
theorem dL_length_0 : decode cL_length 0 = .ok (.aload_n 3, 1) := by decide +kernel
theorem dL_length_1 : decode cL_length 1 = .ok (.iconst 0, 1) := by decide +kernel
theorem dL_length_2 : decode cL_length 2 = .ok (.aload_n 0, 1) := by decide +kernel
theorem dL_length_3 : decode cL_length 3 = .ok (.iload_n 1, 1) := by decide +kernel
theorem dL_length_4 : decode cL_length 4 = .ok (.iload_n 2, 1) := by decide +kernel
theorem dL_length_5 : decode cL_length 5 = .ok (.invokevirtual 48, 3) := by decide +kernel
theorem dL_length_8 : decode cL_length 8 = .ok (.i2l, 1) := by decide +kernel
theorem dL_length_9 : decode cL_length 9 = .ok (.lastore, 1) := by decide +kernel
theorem dL_length_10 : decode cL_length 10 = .ok (.goto 11, 3) := by decide +kernel
theorem dL_length_13 : decode cL_length 13 = .ok (.astore 4, 2) := by decide +kernel
theorem dL_length_15 : decode cL_length 15 = .ok (.iconst 1, 1) := by decide +kernel
theorem dL_length_16 : decode cL_length 16 = .ok (.ireturn, 1) := by decide +kernel
theorem dL_length_17 : decode cL_length 17 = .ok (.astore 4, 2) := by decide +kernel
theorem dL_length_19 : decode cL_length 19 = .ok (.iconst 2, 1) := by decide +kernel
theorem dL_length_20 : decode cL_length 20 = .ok (.ireturn, 1) := by decide +kernel
theorem dL_length_21 : decode cL_length 21 = .ok (.iconst 0, 1) := by decide +kernel
theorem dL_length_22 : decode cL_length 22 = .ok (.ireturn, 1) := by decide +kernel
theorem dL_proof_0 : decode cL_proof 0 = .ok (.aload_n 2, 1) := by decide +kernel
theorem dL_proof_1 : decode cL_proof 1 = .ok (.iconst 0, 1) := by decide +kernel
theorem dL_proof_2 : decode cL_proof 2 = .ok (.aload_n 0, 1) := by decide +kernel
theorem dL_proof_3 : decode cL_proof 3 = .ok (.iload_n 1, 1) := by decide +kernel
theorem dL_proof_4 : decode cL_proof 4 = .ok (.invokevirtual 51, 3) := by decide +kernel
theorem dL_proof_7 : decode cL_proof 7 = .ok (.i2l, 1) := by decide +kernel
theorem dL_proof_8 : decode cL_proof 8 = .ok (.lastore, 1) := by decide +kernel
theorem dL_proof_9 : decode cL_proof 9 = .ok (.goto 6, 3) := by decide +kernel
theorem dL_proof_12 : decode cL_proof 12 = .ok (.astore_n 3, 1) := by decide +kernel
theorem dL_proof_13 : decode cL_proof 13 = .ok (.iconst 1, 1) := by decide +kernel
theorem dL_proof_14 : decode cL_proof 14 = .ok (.ireturn, 1) := by decide +kernel
theorem dL_proof_15 : decode cL_proof 15 = .ok (.iconst 0, 1) := by decide +kernel
theorem dL_proof_16 : decode cL_proof 16 = .ok (.ireturn, 1) := by decide +kernel
theorem dL_proofAnew_0 : decode cL_proofAnew 0 = .ok (.aload_n 2, 1) := by decide +kernel
theorem dL_proofAnew_1 : decode cL_proofAnew 1 = .ok (.iconst 0, 1) := by decide +kernel
theorem dL_proofAnew_2 : decode cL_proofAnew 2 = .ok (.aload_n 0, 1) := by decide +kernel
theorem dL_proofAnew_3 : decode cL_proofAnew 3 = .ok (.iload_n 1, 1) := by decide +kernel
theorem dL_proofAnew_4 : decode cL_proofAnew 4 = .ok (.invokevirtual 54, 3) := by decide +kernel
theorem dL_proofAnew_7 : decode cL_proofAnew 7 = .ok (.i2l, 1) := by decide +kernel
theorem dL_proofAnew_8 : decode cL_proofAnew 8 = .ok (.lastore, 1) := by decide +kernel
theorem dL_proofAnew_9 : decode cL_proofAnew 9 = .ok (.goto 6, 3) := by decide +kernel
theorem dL_proofAnew_12 : decode cL_proofAnew 12 = .ok (.astore_n 3, 1) := by decide +kernel
theorem dL_proofAnew_13 : decode cL_proofAnew 13 = .ok (.iconst 1, 1) := by decide +kernel
theorem dL_proofAnew_14 : decode cL_proofAnew 14 = .ok (.ireturn, 1) := by decide +kernel
theorem dL_proofAnew_15 : decode cL_proofAnew 15 = .ok (.iconst 0, 1) := by decide +kernel
theorem dL_proofAnew_16 : decode cL_proofAnew 16 = .ok (.ireturn, 1) := by decide +kernel
theorem dL_gets_0 : decode cL_gets 0 = .ok (.aload_n 3, 1) := by decide +kernel
theorem dL_gets_1 : decode cL_gets 1 = .ok (.iconst 0, 1) := by decide +kernel
theorem dL_gets_2 : decode cL_gets 2 = .ok (.aload_n 0, 1) := by decide +kernel
theorem dL_gets_3 : decode cL_gets 3 = .ok (.iload_n 1, 1) := by decide +kernel
theorem dL_gets_4 : decode cL_gets 4 = .ok (.iload_n 2, 1) := by decide +kernel
theorem dL_gets_5 : decode cL_gets 5 = .ok (.invokevirtual 57, 3) := by decide +kernel
theorem dL_gets_8 : decode cL_gets 8 = .ok (.i2l, 1) := by decide +kernel
theorem dL_gets_9 : decode cL_gets 9 = .ok (.lastore, 1) := by decide +kernel
theorem dL_gets_10 : decode cL_gets 10 = .ok (.goto 11, 3) := by decide +kernel
theorem dL_gets_13 : decode cL_gets 13 = .ok (.astore 4, 2) := by decide +kernel
theorem dL_gets_15 : decode cL_gets 15 = .ok (.iconst 1, 1) := by decide +kernel
theorem dL_gets_16 : decode cL_gets 16 = .ok (.ireturn, 1) := by decide +kernel
theorem dL_gets_17 : decode cL_gets 17 = .ok (.astore 4, 2) := by decide +kernel
theorem dL_gets_19 : decode cL_gets 19 = .ok (.iconst 2, 1) := by decide +kernel
theorem dL_gets_20 : decode cL_gets 20 = .ok (.ireturn, 1) := by decide +kernel
theorem dL_gets_21 : decode cL_gets 21 = .ok (.iconst 0, 1) := by decide +kernel
theorem dL_gets_22 : decode cL_gets 22 = .ok (.ireturn, 1) := by decide +kernel
theorem dL_sum_0 : decode cL_sum 0 = .ok (.aload_n 3, 1) := by decide +kernel
theorem dL_sum_1 : decode cL_sum 1 = .ok (.iconst 0, 1) := by decide +kernel
theorem dL_sum_2 : decode cL_sum 2 = .ok (.aload_n 0, 1) := by decide +kernel
theorem dL_sum_3 : decode cL_sum 3 = .ok (.iload_n 1, 1) := by decide +kernel
theorem dL_sum_4 : decode cL_sum 4 = .ok (.iload_n 2, 1) := by decide +kernel
theorem dL_sum_5 : decode cL_sum 5 = .ok (.invokevirtual 60, 3) := by decide +kernel
theorem dL_sum_8 : decode cL_sum 8 = .ok (.i2l, 1) := by decide +kernel
theorem dL_sum_9 : decode cL_sum 9 = .ok (.lastore, 1) := by decide +kernel
theorem dL_sum_10 : decode cL_sum 10 = .ok (.goto 11, 3) := by decide +kernel
theorem dL_sum_13 : decode cL_sum 13 = .ok (.astore 4, 2) := by decide +kernel
theorem dL_sum_15 : decode cL_sum 15 = .ok (.iconst 1, 1) := by decide +kernel
theorem dL_sum_16 : decode cL_sum 16 = .ok (.ireturn, 1) := by decide +kernel
theorem dL_sum_17 : decode cL_sum 17 = .ok (.astore 4, 2) := by decide +kernel
theorem dL_sum_19 : decode cL_sum 19 = .ok (.iconst 2, 1) := by decide +kernel
theorem dL_sum_20 : decode cL_sum 20 = .ok (.ireturn, 1) := by decide +kernel
theorem dL_sum_21 : decode cL_sum 21 = .ok (.iconst 0, 1) := by decide +kernel
theorem dL_sum_22 : decode cL_sum 22 = .ok (.ireturn, 1) := by decide +kernel
theorem dL_doubts_0 : decode cL_doubts 0 = .ok (.aload_n 2, 1) := by decide +kernel
theorem dL_doubts_1 : decode cL_doubts 1 = .ok (.iconst 0, 1) := by decide +kernel
theorem dL_doubts_2 : decode cL_doubts 2 = .ok (.aload_n 0, 1) := by decide +kernel
theorem dL_doubts_3 : decode cL_doubts 3 = .ok (.iload_n 1, 1) := by decide +kernel
theorem dL_doubts_4 : decode cL_doubts 4 = .ok (.invokevirtual 63, 3) := by decide +kernel
theorem dL_doubts_7 : decode cL_doubts 7 = .ok (.i2l, 1) := by decide +kernel
theorem dL_doubts_8 : decode cL_doubts 8 = .ok (.lastore, 1) := by decide +kernel
theorem dL_doubts_9 : decode cL_doubts 9 = .ok (.goto 6, 3) := by decide +kernel
theorem dL_doubts_12 : decode cL_doubts 12 = .ok (.astore_n 3, 1) := by decide +kernel
theorem dL_doubts_13 : decode cL_doubts 13 = .ok (.iconst 1, 1) := by decide +kernel
theorem dL_doubts_14 : decode cL_doubts 14 = .ok (.ireturn, 1) := by decide +kernel
theorem dL_doubts_15 : decode cL_doubts 15 = .ok (.iconst 0, 1) := by decide +kernel
theorem dL_doubts_16 : decode cL_doubts 16 = .ok (.ireturn, 1) := by decide +kernel
theorem dL_doubted_0 : decode cL_doubted 0 = .ok (.aload_n 2, 1) := by decide +kernel
theorem dL_doubted_1 : decode cL_doubted 1 = .ok (.iconst 0, 1) := by decide +kernel
theorem dL_doubted_2 : decode cL_doubted 2 = .ok (.aload_n 0, 1) := by decide +kernel
theorem dL_doubted_3 : decode cL_doubted 3 = .ok (.iload_n 1, 1) := by decide +kernel
theorem dL_doubted_4 : decode cL_doubted 4 = .ok (.invokevirtual 66, 3) := by decide +kernel
theorem dL_doubted_7 : decode cL_doubted 7 = .ok (.i2l, 1) := by decide +kernel
theorem dL_doubted_8 : decode cL_doubted 8 = .ok (.lastore, 1) := by decide +kernel
theorem dL_doubted_9 : decode cL_doubted 9 = .ok (.goto 6, 3) := by decide +kernel
theorem dL_doubted_12 : decode cL_doubted 12 = .ok (.astore_n 3, 1) := by decide +kernel
theorem dL_doubted_13 : decode cL_doubted 13 = .ok (.iconst 1, 1) := by decide +kernel
theorem dL_doubted_14 : decode cL_doubted 14 = .ok (.ireturn, 1) := by decide +kernel
theorem dL_doubted_15 : decode cL_doubted 15 = .ok (.iconst 0, 1) := by decide +kernel
theorem dL_doubted_16 : decode cL_doubted 16 = .ok (.ireturn, 1) := by decide +kernel
theorem dL_isFrozen_0 : decode cL_isFrozen 0 = .ok (.aload_n 2, 1) := by decide +kernel
theorem dL_isFrozen_1 : decode cL_isFrozen 1 = .ok (.iconst 0, 1) := by decide +kernel
theorem dL_isFrozen_2 : decode cL_isFrozen 2 = .ok (.aload_n 0, 1) := by decide +kernel
theorem dL_isFrozen_3 : decode cL_isFrozen 3 = .ok (.iload_n 1, 1) := by decide +kernel
theorem dL_isFrozen_4 : decode cL_isFrozen 4 = .ok (.invokevirtual 69, 3) := by decide +kernel
theorem dL_isFrozen_7 : decode cL_isFrozen 7 = .ok (.ifCond .eq 7, 3) := by decide +kernel
theorem dL_isFrozen_10 : decode cL_isFrozen 10 = .ok (.lconst 1, 1) := by decide +kernel
theorem dL_isFrozen_11 : decode cL_isFrozen 11 = .ok (.goto 4, 3) := by decide +kernel
theorem dL_isFrozen_14 : decode cL_isFrozen 14 = .ok (.lconst 0, 1) := by decide +kernel
theorem dL_isFrozen_15 : decode cL_isFrozen 15 = .ok (.lastore, 1) := by decide +kernel
theorem dL_isFrozen_16 : decode cL_isFrozen 16 = .ok (.goto 6, 3) := by decide +kernel
theorem dL_isFrozen_19 : decode cL_isFrozen 19 = .ok (.astore_n 3, 1) := by decide +kernel
theorem dL_isFrozen_20 : decode cL_isFrozen 20 = .ok (.iconst 1, 1) := by decide +kernel
theorem dL_isFrozen_21 : decode cL_isFrozen 21 = .ok (.ireturn, 1) := by decide +kernel
theorem dL_isFrozen_22 : decode cL_isFrozen 22 = .ok (.iconst 0, 1) := by decide +kernel
theorem dL_isFrozen_23 : decode cL_isFrozen 23 = .ok (.ireturn, 1) := by decide +kernel
theorem dL_holds_0 : decode cL_holds 0 = .ok (.aload_n 2, 1) := by decide +kernel
theorem dL_holds_1 : decode cL_holds 1 = .ok (.iconst 0, 1) := by decide +kernel
theorem dL_holds_2 : decode cL_holds 2 = .ok (.aload_n 0, 1) := by decide +kernel
theorem dL_holds_3 : decode cL_holds 3 = .ok (.iload_n 1, 1) := by decide +kernel
theorem dL_holds_4 : decode cL_holds 4 = .ok (.invokevirtual 72, 3) := by decide +kernel
theorem dL_holds_7 : decode cL_holds 7 = .ok (.ifCond .eq 7, 3) := by decide +kernel
theorem dL_holds_10 : decode cL_holds 10 = .ok (.lconst 1, 1) := by decide +kernel
theorem dL_holds_11 : decode cL_holds 11 = .ok (.goto 4, 3) := by decide +kernel
theorem dL_holds_14 : decode cL_holds 14 = .ok (.lconst 0, 1) := by decide +kernel
theorem dL_holds_15 : decode cL_holds 15 = .ok (.lastore, 1) := by decide +kernel
theorem dL_holds_16 : decode cL_holds 16 = .ok (.goto 6, 3) := by decide +kernel
theorem dL_holds_19 : decode cL_holds 19 = .ok (.astore_n 3, 1) := by decide +kernel
theorem dL_holds_20 : decode cL_holds 20 = .ok (.iconst 1, 1) := by decide +kernel
theorem dL_holds_21 : decode cL_holds 21 = .ok (.ireturn, 1) := by decide +kernel
theorem dL_holds_22 : decode cL_holds 22 = .ok (.iconst 0, 1) := by decide +kernel
theorem dL_holds_23 : decode cL_holds 23 = .ok (.ireturn, 1) := by decide +kernel
