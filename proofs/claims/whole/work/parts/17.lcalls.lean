set_option maxRecDepth 20000 in
theorem ggL_type_c0 : GoodIn wsL_type ([.code yX6_type cX6_type 2 (some .int)]) := goodIn_r _ [7] (by decide +kernel) (by decide +kernel)
set_option maxRecDepth 20000 in
theorem ggL_type_c1 : GoodIn wsL_type ([.classLink RX6 41 "java/lang/IllegalArgumentException", .initialized "java/lang/IllegalArgumentException", .classLink RX6 52 "java/lang/IllegalStateException", .initialized "java/lang/IllegalStateException", .fieldLink RX6 14 "Postlint" "draft" "LPostlint$Signs;", .methodLink RX6 48 yX4_size, .instanceMethod yX4_size, .selects RX4 yX4_size yX4_size, .initialized RX4, .code yX4_size cX4_size 1 (some .int), .fieldLink RX4 21 "Postlint$Signs" "count" "I", .methodLink RX6 57 yX4_add, .instanceMethod yX4_add, .selects RX4 yX4_add yX4_add, .code yX4_add cX4_add 2 none, .fieldLink RX4 15 "Postlint$Signs" "codes" "[I"]) := goodIn_r _ [8, 9, 10, 11, 12, 13, 14, 15, 16, 17, 18, 19, 20, 21, 22, 23] (by decide +kernel) (by decide +kernel)
set_option maxRecDepth 20000 in
theorem ggL_type_c2 : GoodIn wsL_type (wsX60) := goodIn_r _ [24, 25, 26, 27, 28, 29] (by decide +kernel) (by decide +kernel)
set_option maxRecDepth 20000 in
theorem ggL_type_c3 : GoodIn wsL_type (wsX40) := goodIn_r _ [30, 31] (by decide +kernel) (by decide +kernel)
set_option maxRecDepth 20000 in
theorem ggL_type_X6_type : GoodIn wsL_type wsX6_type := (goodIn_c1 ggL_type_c0 (goodIn_app (goodIn_app (goodIn_app (goodIn_app ggL_type_c1 ggL_type_c2) ggL_type_c3) (goodIn_sub (fun _ h => List.mem_cons_of_mem _ (List.mem_append_left _ (List.mem_append_right _ h))) (by decide +kernel))) (goodIn_sub (fun _ h => List.mem_cons_of_mem _ (List.mem_append_right _ h)) (by decide +kernel))))
theorem gL_type_X6_type : GoodIn wsL_type (wsV RL 7 RX6 yX6_type wsX6_type) := goodIn_app (goodIn_of _ (by decide +kernel)) ggL_type_X6_type
set_option maxRecDepth 20000 in
theorem ggL_post_c0 : GoodIn wsL_post ([.code yX6_post cX6_post 1 (some .int)]) := goodIn_r _ [6] (by decide +kernel) (by decide +kernel)
set_option maxRecDepth 20000 in
theorem ggL_post_c1 : GoodIn wsL_post (wsX6_post_r1) := goodIn_r _ [7, 8, 9, 10, 11, 12, 13, 14, 15, 16, 17, 18, 19, 5, 20, 21, 22, 23, 24, 25, 26, 27, 28, 29] (by decide +kernel) (by decide +kernel)
set_option maxRecDepth 20000 in
theorem ggL_post_c2 : GoodIn wsL_post (wsX6_post_r2) := goodIn_r _ [30, 31, 32, 33, 34, 35, 36, 37, 38, 39, 40, 41, 42, 43, 44, 45, 46, 47, 48, 49, 50, 51, 52, 53] (by decide +kernel) (by decide +kernel)
set_option maxRecDepth 20000 in
theorem ggL_post_c3 : GoodIn wsL_post (wsX6_post_r3) := goodIn_r _ [54, 55, 56, 57, 58, 59, 60, 61, 62, 63, 64, 65, 66, 67, 68, 69, 70, 71, 72, 73, 74, 75, 76, 77] (by decide +kernel) (by decide +kernel)
set_option maxRecDepth 20000 in
theorem ggL_post_c4 : GoodIn wsL_post (wsX6_post_r4) := goodIn_r _ [78, 79, 80, 81, 82, 83, 84, 85, 86, 87, 88, 89, 90, 91, 92, 93, 94, 95, 96, 97, 98, 99, 100, 101] (by decide +kernel) (by decide +kernel)
set_option maxRecDepth 20000 in
theorem ggL_post_c5 : GoodIn wsL_post (wsX6_post_r5) := goodIn_r _ [102, 103, 104, 105, 106, 107, 108, 109, 110, 111, 112, 113, 114, 115, 116, 117, 118, 119, 120, 121, 122, 123, 124, 125] (by decide +kernel) (by decide +kernel)
set_option maxRecDepth 20000 in
theorem ggL_post_c6 : GoodIn wsL_post (wsX6_post_r6) := goodIn_r _ [126, 127, 128, 129, 130, 131, 132, 133, 134, 135, 136, 137, 138, 139, 140, 141, 142, 143, 144, 145, 146, 147, 148, 149] (by decide +kernel) (by decide +kernel)
set_option maxRecDepth 20000 in
theorem ggL_post_c7 : GoodIn wsL_post (wsX6_post_r7) := goodIn_r _ [150, 151, 152, 153, 154, 155, 156, 157, 158, 159, 160, 161, 162, 163, 164, 165, 166, 167, 168, 169, 170, 171, 172, 173] (by decide +kernel) (by decide +kernel)
set_option maxRecDepth 20000 in
theorem ggL_post_c8 : GoodIn wsL_post (wsX6_post_r8) := goodIn_r _ [174, 175, 176, 177, 178, 179, 180, 181, 182, 183, 184, 185, 186, 187, 188, 189, 190, 191, 192, 193, 194, 195, 196, 197] (by decide +kernel) (by decide +kernel)
set_option maxRecDepth 20000 in
theorem ggL_post_c9 : GoodIn wsL_post (wsX6_post_r9) := goodIn_r _ [198, 199, 200, 201, 202] (by decide +kernel) (by decide +kernel)
set_option maxRecDepth 20000 in
theorem ggL_post_c10 : GoodIn wsL_post (wsX60) := goodIn_r _ [203, 204, 205, 206, 207, 208] (by decide +kernel) (by decide +kernel)
set_option maxRecDepth 20000 in
theorem ggL_post_c11 : GoodIn wsL_post (wsJx4a65c0) := goodIn_r _ [209, 210, 211] (by decide +kernel) (by decide +kernel)
set_option maxRecDepth 20000 in
theorem ggL_post_c12 : GoodIn wsL_post (wsX10) := goodIn_r _ [212, 213, 214, 215, 216, 217] (by decide +kernel) (by decide +kernel)
set_option maxRecDepth 20000 in
theorem ggL_post_c13 : GoodIn wsL_post (wsX20) := goodIn_r _ [218, 219] (by decide +kernel) (by decide +kernel)
set_option maxRecDepth 20000 in
theorem ggL_post_c14 : GoodIn wsL_post (wsX40) := goodIn_r _ [220, 221] (by decide +kernel) (by decide +kernel)
set_option maxRecDepth 20000 in
theorem ggL_post_X6_post : GoodIn wsL_post wsX6_post := (goodIn_c1 ggL_post_c0 (goodIn_app (goodIn_app (goodIn_app (goodIn_app (goodIn_app (goodIn_app (goodIn_app ggL_post_c1 (goodIn_app ggL_post_c2 (goodIn_app ggL_post_c3 (goodIn_app ggL_post_c4 (goodIn_app ggL_post_c5 (goodIn_app ggL_post_c6 (goodIn_app ggL_post_c7 (goodIn_app ggL_post_c8 ggL_post_c9)))))))) ggL_post_c10) ggL_post_c11) ggL_post_c12) ggL_post_c13) ggL_post_c14) (goodIn_sub (fun _ h => List.mem_cons_of_mem _ (List.mem_append_right _ h)) (by decide +kernel))))
theorem gL_post_X6_post : GoodIn wsL_post (wsV RL 17 RX6 yX6_post wsX6_post) := goodIn_app (goodIn_of _ (by decide +kernel)) ggL_post_X6_post
set_option maxRecDepth 20000 in
theorem ggL_write_c0 : GoodIn wsL_write ([.code yX6_write cX6_write 5 (some .boolean)]) := goodIn_r _ [7] (by decide +kernel) (by decide +kernel)
set_option maxRecDepth 20000 in
theorem ggL_write_c1 : GoodIn wsL_write (wsX6_write_r1) := goodIn_r _ [8, 9, 10, 11, 12, 13, 14, 6, 15, 16, 17, 18, 19, 20, 21, 22, 23, 24, 25, 26, 27, 28, 29, 30] (by decide +kernel) (by decide +kernel)
set_option maxRecDepth 20000 in
theorem ggL_write_c2 : GoodIn wsL_write (wsX6_write_r2) := goodIn_r _ [31, 32, 33, 34, 35, 36, 37, 38, 39, 40, 41, 42, 43, 44, 45, 46, 47, 48, 49, 50, 51, 52, 53, 54] (by decide +kernel) (by decide +kernel)
set_option maxRecDepth 20000 in
theorem ggL_write_c3 : GoodIn wsL_write (wsX6_write_r3) := goodIn_r _ [55, 56, 57, 58, 59, 60, 61, 62, 63, 64, 65, 66, 67, 68, 69, 70, 71, 72, 73, 74, 75, 76, 77, 78] (by decide +kernel) (by decide +kernel)
set_option maxRecDepth 20000 in
theorem ggL_write_c4 : GoodIn wsL_write (wsX6_write_r4) := goodIn_r _ [79, 80, 81, 82, 83, 84, 85, 86, 87, 88, 89, 90, 91, 92, 93, 94, 95, 96, 97, 98, 99, 100, 101, 102] (by decide +kernel) (by decide +kernel)
set_option maxRecDepth 20000 in
theorem ggL_write_c5 : GoodIn wsL_write (wsX6_write_r5) := goodIn_r _ [103, 104, 105, 106, 107, 108, 109, 110, 111, 112, 113, 114, 115, 116, 117, 118, 119, 120, 121, 122, 123, 124, 125, 126] (by decide +kernel) (by decide +kernel)
set_option maxRecDepth 20000 in
theorem ggL_write_c6 : GoodIn wsL_write (wsX6_write_r6) := goodIn_r _ [127, 128, 129, 130, 131, 132, 133, 134, 135, 136, 137, 138, 139, 140, 141, 142, 143, 144, 145, 146, 147, 148, 149, 150] (by decide +kernel) (by decide +kernel)
set_option maxRecDepth 20000 in
theorem ggL_write_c7 : GoodIn wsL_write (wsX6_write_r7) := goodIn_r _ [151, 152, 153, 154, 155, 156, 157, 158, 159, 160, 161, 162, 163, 164, 165, 166, 167, 168, 169, 170, 171, 172, 173, 174] (by decide +kernel) (by decide +kernel)
set_option maxRecDepth 20000 in
theorem ggL_write_c8 : GoodIn wsL_write (wsX6_write_r8) := goodIn_r _ [175, 176, 177, 178, 179, 180, 181, 182, 183, 184, 185, 186, 187, 188, 189, 190] (by decide +kernel) (by decide +kernel)
set_option maxRecDepth 20000 in
theorem ggL_write_c9 : GoodIn wsL_write (wsX10) := goodIn_r _ [191, 192, 193, 194, 195, 196] (by decide +kernel) (by decide +kernel)
set_option maxRecDepth 20000 in
theorem ggL_write_c10 : GoodIn wsL_write (wsX60) := goodIn_r _ [197, 198, 199, 200, 201, 202] (by decide +kernel) (by decide +kernel)
set_option maxRecDepth 20000 in
theorem ggL_write_c11 : GoodIn wsL_write (wsJx4a65c0) := goodIn_r _ [203, 204, 205] (by decide +kernel) (by decide +kernel)
set_option maxRecDepth 20000 in
theorem ggL_write_c12 : GoodIn wsL_write (wsX20) := goodIn_r _ [206, 207] (by decide +kernel) (by decide +kernel)
set_option maxRecDepth 20000 in
theorem ggL_write_c13 : GoodIn wsL_write (wsX40) := goodIn_r _ [208, 209] (by decide +kernel) (by decide +kernel)
set_option maxRecDepth 20000 in
theorem ggL_write_c14 : GoodIn wsL_write (wsX00) := goodIn_r _ [210, 211, 212, 213] (by decide +kernel) (by decide +kernel)
set_option maxRecDepth 20000 in
theorem ggL_write_X6_write : GoodIn wsL_write wsX6_write := (goodIn_c1 ggL_write_c0 (goodIn_app (goodIn_app (goodIn_app (goodIn_app (goodIn_app (goodIn_app (goodIn_app (goodIn_app (goodIn_app ggL_write_c1 (goodIn_app ggL_write_c2 (goodIn_app ggL_write_c3 (goodIn_app ggL_write_c4 (goodIn_app ggL_write_c5 (goodIn_app ggL_write_c6 (goodIn_app ggL_write_c7 ggL_write_c8))))))) ggL_write_c9) ggL_write_c10) ggL_write_c11) ggL_write_c12) ggL_write_c13) ggL_write_c14) (goodIn_sub (fun _ h => List.mem_cons_of_mem _ (List.mem_append_left _ (List.mem_append_right _ h))) (by decide +kernel))) (goodIn_sub (fun _ h => List.mem_cons_of_mem _ (List.mem_append_right _ h)) (by decide +kernel))))
theorem gL_write_X6_write : GoodIn wsL_write (wsV RL 21 RX6 yX6_write wsX6_write) := goodIn_app (goodIn_of _ (by decide +kernel)) ggL_write_X6_write
set_option maxRecDepth 20000 in
theorem ggL_strike_c0 : GoodIn wsL_strike ([.code yX6_strike cX6_strike 5 (some .int)]) := goodIn_r _ [7] (by decide +kernel) (by decide +kernel)
set_option maxRecDepth 20000 in
theorem ggL_strike_c1 : GoodIn wsL_strike (wsX6_strike_r1) := goodIn_r _ [8, 9, 10, 11, 12, 13, 14, 6, 15, 16, 17, 18, 19, 20, 21, 22, 23, 24, 25, 26, 27, 28, 29, 30] (by decide +kernel) (by decide +kernel)
set_option maxRecDepth 20000 in
theorem ggL_strike_c2 : GoodIn wsL_strike (wsX6_strike_r2) := goodIn_r _ [31, 32, 33, 34, 35, 36, 37, 38, 39, 40, 41, 42, 43, 44, 45, 46, 47, 48, 49, 50, 51, 52, 53, 54] (by decide +kernel) (by decide +kernel)
set_option maxRecDepth 20000 in
theorem ggL_strike_c3 : GoodIn wsL_strike (wsX6_strike_r3) := goodIn_r _ [55, 56, 57, 58, 59, 60, 61, 62, 63, 64, 65, 66, 67, 68, 69, 70, 71] (by decide +kernel) (by decide +kernel)
set_option maxRecDepth 20000 in
theorem ggL_strike_c4 : GoodIn wsL_strike (wsX10) := goodIn_r _ [72, 73, 74, 75, 76, 77] (by decide +kernel) (by decide +kernel)
set_option maxRecDepth 20000 in
theorem ggL_strike_c5 : GoodIn wsL_strike (wsX60) := goodIn_r _ [78, 79, 80, 81, 82, 83] (by decide +kernel) (by decide +kernel)
set_option maxRecDepth 20000 in
theorem ggL_strike_c6 : GoodIn wsL_strike (wsJx4a65c0) := goodIn_r _ [84, 85, 86] (by decide +kernel) (by decide +kernel)
set_option maxRecDepth 20000 in
theorem ggL_strike_c7 : GoodIn wsL_strike (wsX00) := goodIn_r _ [87, 88, 89, 90] (by decide +kernel) (by decide +kernel)
set_option maxRecDepth 20000 in
theorem ggL_strike_c8 : GoodIn wsL_strike (wsX40) := goodIn_r _ [91, 92] (by decide +kernel) (by decide +kernel)
set_option maxRecDepth 20000 in
theorem ggL_strike_X6_strike : GoodIn wsL_strike wsX6_strike := (goodIn_c1 ggL_strike_c0 (goodIn_app (goodIn_app (goodIn_app (goodIn_app (goodIn_app (goodIn_app (goodIn_app (goodIn_app ggL_strike_c1 (goodIn_app ggL_strike_c2 ggL_strike_c3)) ggL_strike_c4) ggL_strike_c5) ggL_strike_c6) ggL_strike_c7) ggL_strike_c8) (goodIn_sub (fun _ h => List.mem_cons_of_mem _ (List.mem_append_left _ (List.mem_append_right _ h))) (by decide +kernel))) (goodIn_sub (fun _ h => List.mem_cons_of_mem _ (List.mem_append_right _ h)) (by decide +kernel))))
theorem gL_strike_X6_strike : GoodIn wsL_strike (wsV RL 27 RX6 yX6_strike wsX6_strike) := goodIn_app (goodIn_of _ (by decide +kernel)) ggL_strike_X6_strike
set_option maxRecDepth 20000 in
theorem ggL_rule_c0 : GoodIn wsL_rule ([.code yX6_rule cX6_rule 5 (some .int)]) := goodIn_r _ [7] (by decide +kernel) (by decide +kernel)
set_option maxRecDepth 20000 in
theorem ggL_rule_c1 : GoodIn wsL_rule (wsX6_rule_r1) := goodIn_r _ [8, 9, 10, 11, 12, 13, 14, 15, 6, 16, 17, 18, 19, 20, 21, 22, 23, 24, 25, 26, 27, 28, 29, 30] (by decide +kernel) (by decide +kernel)
set_option maxRecDepth 20000 in
theorem ggL_rule_c2 : GoodIn wsL_rule (wsX6_rule_r2) := goodIn_r _ [31, 32, 33, 34, 35, 36, 37, 38, 39, 40, 41, 42, 43, 44, 45, 46, 47, 48, 49, 50, 51, 52, 53, 54] (by decide +kernel) (by decide +kernel)
set_option maxRecDepth 20000 in
theorem ggL_rule_c3 : GoodIn wsL_rule (wsX6_rule_r3) := goodIn_r _ [55, 56, 57, 58, 59, 60, 61, 62, 63, 64, 65, 66, 67, 68, 69, 70, 71, 72, 73, 74, 75, 76, 77, 78] (by decide +kernel) (by decide +kernel)
set_option maxRecDepth 20000 in
theorem ggL_rule_c4 : GoodIn wsL_rule (wsX6_rule_r4) := goodIn_r _ [79, 80, 81, 82, 83, 84, 85, 86, 87, 88, 89, 90, 91, 92, 93, 94] (by decide +kernel) (by decide +kernel)
set_option maxRecDepth 20000 in
theorem ggL_rule_c5 : GoodIn wsL_rule (wsX60) := goodIn_r _ [95, 96, 97, 98, 99, 100] (by decide +kernel) (by decide +kernel)
set_option maxRecDepth 20000 in
theorem ggL_rule_c6 : GoodIn wsL_rule (wsX30) := goodIn_r _ [101, 102, 103, 104, 105] (by decide +kernel) (by decide +kernel)
set_option maxRecDepth 20000 in
theorem ggL_rule_c7 : GoodIn wsL_rule (wsJx4a65c0) := goodIn_r _ [106, 107, 108] (by decide +kernel) (by decide +kernel)
set_option maxRecDepth 20000 in
theorem ggL_rule_X6_rule : GoodIn wsL_rule wsX6_rule := (goodIn_c1 ggL_rule_c0 (goodIn_app (goodIn_app (goodIn_app (goodIn_app (goodIn_app (goodIn_app ggL_rule_c1 (goodIn_app ggL_rule_c2 (goodIn_app ggL_rule_c3 ggL_rule_c4))) ggL_rule_c5) ggL_rule_c6) ggL_rule_c7) (goodIn_sub (fun _ h => List.mem_cons_of_mem _ (List.mem_append_left _ (List.mem_append_right _ h))) (by decide +kernel))) (goodIn_sub (fun _ h => List.mem_cons_of_mem _ (List.mem_append_right _ h)) (by decide +kernel))))
theorem gL_rule_X6_rule : GoodIn wsL_rule (wsV RL 30 RX6 yX6_rule wsX6_rule) := goodIn_app (goodIn_of _ (by decide +kernel)) ggL_rule_X6_rule
set_option maxRecDepth 20000 in
theorem ggL_takeBack_c0 : GoodIn wsL_takeBack ([.code yX6_takeBack cX6_takeBack 4 (some .int)]) := goodIn_r _ [7] (by decide +kernel) (by decide +kernel)
set_option maxRecDepth 20000 in
theorem ggL_takeBack_c1 : GoodIn wsL_takeBack (wsX6_takeBack_r1) := goodIn_r _ [8, 9, 10, 11, 12, 6, 13, 14, 15, 16, 17, 18, 19, 20, 21, 22, 23, 24, 25, 26, 27, 28, 29, 30] (by decide +kernel) (by decide +kernel)
set_option maxRecDepth 20000 in
theorem ggL_takeBack_c2 : GoodIn wsL_takeBack (wsX6_takeBack_r2) := goodIn_r _ [31, 32, 33, 34, 35, 36, 37, 38, 39, 40, 41, 42, 43, 44, 45, 46, 47, 48, 49, 50, 51, 52, 53, 54] (by decide +kernel) (by decide +kernel)
set_option maxRecDepth 20000 in
theorem ggL_takeBack_c3 : GoodIn wsL_takeBack (wsX6_takeBack_r3) := goodIn_r _ [55, 56, 57, 58, 59, 60, 61, 62, 63, 64, 65, 66, 67, 68, 69, 70, 71, 72, 73, 74, 75, 76, 77, 78] (by decide +kernel) (by decide +kernel)
set_option maxRecDepth 20000 in
theorem ggL_takeBack_c4 : GoodIn wsL_takeBack (wsX6_takeBack_r4) := goodIn_r _ [79, 80, 81, 82, 83] (by decide +kernel) (by decide +kernel)
set_option maxRecDepth 20000 in
theorem ggL_takeBack_c5 : GoodIn wsL_takeBack (wsX30) := goodIn_r _ [84, 85, 86, 87, 88] (by decide +kernel) (by decide +kernel)
set_option maxRecDepth 20000 in
theorem ggL_takeBack_c6 : GoodIn wsL_takeBack (wsX60) := goodIn_r _ [89, 90, 91, 92, 93, 94] (by decide +kernel) (by decide +kernel)
set_option maxRecDepth 20000 in
theorem ggL_takeBack_c7 : GoodIn wsL_takeBack (wsJx4a65c0) := goodIn_r _ [95, 96, 97] (by decide +kernel) (by decide +kernel)
set_option maxRecDepth 20000 in
theorem ggL_takeBack_c8 : GoodIn wsL_takeBack (wsX10) := goodIn_r _ [98, 99, 100, 101, 102, 103] (by decide +kernel) (by decide +kernel)
set_option maxRecDepth 20000 in
theorem ggL_takeBack_X6_takeBack : GoodIn wsL_takeBack wsX6_takeBack := (goodIn_c1 ggL_takeBack_c0 (goodIn_app (goodIn_app (goodIn_app (goodIn_app (goodIn_app (goodIn_app (goodIn_app ggL_takeBack_c1 (goodIn_app ggL_takeBack_c2 (goodIn_app ggL_takeBack_c3 ggL_takeBack_c4))) ggL_takeBack_c5) ggL_takeBack_c6) ggL_takeBack_c7) ggL_takeBack_c8) (goodIn_sub (fun _ h => List.mem_cons_of_mem _ (List.mem_append_left _ (List.mem_append_right _ h))) (by decide +kernel))) (goodIn_sub (fun _ h => List.mem_cons_of_mem _ (List.mem_append_right _ h)) (by decide +kernel))))
theorem gL_takeBack_X6_takeBack : GoodIn wsL_takeBack (wsV RL 34 RX6 yX6_takeBack wsX6_takeBack) := goodIn_app (goodIn_of _ (by decide +kernel)) ggL_takeBack_X6_takeBack
set_option maxRecDepth 20000 in
theorem ggL_audit_c0 : GoodIn wsL_audit ([.code yX6_audit cX6_audit 3 (some .int)]) := goodIn_r _ [8] (by decide +kernel) (by decide +kernel)
set_option maxRecDepth 20000 in
theorem ggL_audit_c1 : GoodIn wsL_audit (wsX6_audit_r1) := goodIn_r _ [9, 10, 11, 12, 13, 14, 15, 16, 17, 18, 19, 7, 20, 21, 22, 23, 24, 25, 26, 27, 28, 29, 30, 31] (by decide +kernel) (by decide +kernel)
set_option maxRecDepth 20000 in
theorem ggL_audit_c2 : GoodIn wsL_audit (wsX6_audit_r2) := goodIn_r _ [32, 33, 34, 35, 36, 37, 38, 39, 40, 41, 42, 43, 44, 45, 46, 47, 48, 49, 50, 51, 52, 53, 54, 55] (by decide +kernel) (by decide +kernel)
set_option maxRecDepth 20000 in
theorem ggL_audit_c3 : GoodIn wsL_audit (wsX6_audit_r3) := goodIn_r _ [56, 57, 58, 59, 60, 61, 62, 63, 64, 65, 66, 67, 68, 69, 70, 71, 72, 73, 74, 75, 76, 77, 78, 79] (by decide +kernel) (by decide +kernel)
set_option maxRecDepth 20000 in
theorem ggL_audit_c4 : GoodIn wsL_audit (wsX6_audit_r4) := goodIn_r _ [80, 81, 82, 83, 84, 85, 86, 87, 88, 89, 90, 91, 92, 93, 94, 95, 96, 97, 98, 99, 100, 101, 102, 103] (by decide +kernel) (by decide +kernel)
set_option maxRecDepth 20000 in
theorem ggL_audit_c5 : GoodIn wsL_audit (wsX6_audit_r5) := goodIn_r _ [104, 105, 106, 107, 108, 109, 110, 111, 112, 113, 114, 115, 116, 117, 118, 119, 120, 121, 122, 123, 124] (by decide +kernel) (by decide +kernel)
set_option maxRecDepth 20000 in
theorem ggL_audit_c6 : GoodIn wsL_audit (wsX60) := goodIn_r _ [125, 126, 127, 128, 129, 130] (by decide +kernel) (by decide +kernel)
set_option maxRecDepth 20000 in
theorem ggL_audit_c7 : GoodIn wsL_audit (wsX00) := goodIn_r _ [131, 132, 133, 134] (by decide +kernel) (by decide +kernel)
set_option maxRecDepth 20000 in
theorem ggL_audit_c8 : GoodIn wsL_audit (wsJx4a65c0) := goodIn_r _ [135, 136, 137] (by decide +kernel) (by decide +kernel)
set_option maxRecDepth 20000 in
theorem ggL_audit_c9 : GoodIn wsL_audit (wsX10) := goodIn_r _ [138, 139, 140, 141, 142, 143] (by decide +kernel) (by decide +kernel)
set_option maxRecDepth 20000 in
theorem ggL_audit_c10 : GoodIn wsL_audit (wsX40) := goodIn_r _ [144, 145] (by decide +kernel) (by decide +kernel)
set_option maxRecDepth 20000 in
theorem ggL_audit_X6_audit : GoodIn wsL_audit wsX6_audit := (goodIn_c1 ggL_audit_c0 (goodIn_app (goodIn_app (goodIn_app (goodIn_app (goodIn_app (goodIn_app (goodIn_app (goodIn_app (goodIn_app ggL_audit_c1 (goodIn_app ggL_audit_c2 (goodIn_app ggL_audit_c3 (goodIn_app ggL_audit_c4 ggL_audit_c5)))) ggL_audit_c6) ggL_audit_c7) ggL_audit_c8) ggL_audit_c9) ggL_audit_c10) (goodIn_sub (fun _ h => List.mem_cons_of_mem _ (List.mem_append_left _ (List.mem_append_left _ (List.mem_append_right _ h)))) (by decide +kernel))) (goodIn_sub (fun _ h => List.mem_cons_of_mem _ (List.mem_append_left _ (List.mem_append_right _ h))) (by decide +kernel))) (goodIn_sub (fun _ h => List.mem_cons_of_mem _ (List.mem_append_right _ h)) (by decide +kernel))))
theorem gL_audit_X6_audit : GoodIn wsL_audit (wsV RL 37 RX6 yX6_audit wsX6_audit) := goodIn_app (goodIn_of _ (by decide +kernel)) ggL_audit_X6_audit
set_option maxRecDepth 20000 in
theorem ggL_end_c0 : GoodIn wsL_end ([.code yX6_end cX6_end 3 (some .boolean)]) := goodIn_r _ [7] (by decide +kernel) (by decide +kernel)
set_option maxRecDepth 20000 in
theorem ggL_end_c1 : GoodIn wsL_end (wsX6_end_r1) := goodIn_r _ [8, 9, 10, 11, 12, 6, 13, 14, 15, 16, 17, 18, 19, 20, 21, 22, 23, 24, 25, 26, 27, 28, 29, 30] (by decide +kernel) (by decide +kernel)
set_option maxRecDepth 20000 in
theorem ggL_end_c2 : GoodIn wsL_end (wsX6_end_r2) := goodIn_r _ [31, 32, 33, 34, 35, 36, 37, 38, 39, 40, 41, 42, 43, 44, 45, 46, 47, 48, 49, 50, 51, 52, 53, 54] (by decide +kernel) (by decide +kernel)
set_option maxRecDepth 20000 in
theorem ggL_end_c3 : GoodIn wsL_end (wsX6_end_r3) := goodIn_r _ [55, 56, 57, 58, 59, 60, 61] (by decide +kernel) (by decide +kernel)
set_option maxRecDepth 20000 in
theorem ggL_end_c4 : GoodIn wsL_end (wsX00) := goodIn_r _ [62, 63, 64, 65] (by decide +kernel) (by decide +kernel)
set_option maxRecDepth 20000 in
theorem ggL_end_c5 : GoodIn wsL_end (wsX60) := goodIn_r _ [66, 67, 68, 69, 70, 71] (by decide +kernel) (by decide +kernel)
set_option maxRecDepth 20000 in
theorem ggL_end_c6 : GoodIn wsL_end (wsJx4a65c0) := goodIn_r _ [72, 73, 74] (by decide +kernel) (by decide +kernel)
set_option maxRecDepth 20000 in
theorem ggL_end_c7 : GoodIn wsL_end (wsX10) := goodIn_r _ [75, 76, 77, 78, 79, 80] (by decide +kernel) (by decide +kernel)
set_option maxRecDepth 20000 in
theorem ggL_end_c8 : GoodIn wsL_end (wsX40) := goodIn_r _ [81, 82] (by decide +kernel) (by decide +kernel)
set_option maxRecDepth 20000 in
theorem ggL_end_X6_end : GoodIn wsL_end wsX6_end := (goodIn_c1 ggL_end_c0 (goodIn_app (goodIn_app (goodIn_app (goodIn_app (goodIn_app (goodIn_app (goodIn_app (goodIn_app ggL_end_c1 (goodIn_app ggL_end_c2 ggL_end_c3)) ggL_end_c4) ggL_end_c5) ggL_end_c6) ggL_end_c7) ggL_end_c8) (goodIn_sub (fun _ h => List.mem_cons_of_mem _ (List.mem_append_left _ (List.mem_append_right _ h))) (by decide +kernel))) (goodIn_sub (fun _ h => List.mem_cons_of_mem _ (List.mem_append_right _ h)) (by decide +kernel))))
theorem gL_end_X6_end : GoodIn wsL_end (wsV RL 41 RX6 yX6_end wsX6_end) := goodIn_app (goodIn_of _ (by decide +kernel)) ggL_end_X6_end
set_option maxRecDepth 20000 in
theorem ggL_signAt_c0 : GoodIn wsL_signAt ([.code yX6_signAt cX6_signAt 5 (some .int)]) := goodIn_r _ [7] (by decide +kernel) (by decide +kernel)
set_option maxRecDepth 20000 in
theorem ggL_signAt_c1 : GoodIn wsL_signAt (wsX6_signAt_r1) := goodIn_r _ [8, 9, 10, 11, 12, 6, 13, 14, 15, 16, 17, 18, 19, 20, 21, 22, 23, 24, 25, 26, 27, 28, 29, 30] (by decide +kernel) (by decide +kernel)
set_option maxRecDepth 20000 in
theorem ggL_signAt_c2 : GoodIn wsL_signAt (wsX6_signAt_r2) := goodIn_r _ [31, 32, 33, 34, 35, 36, 37, 38, 39, 40, 41, 42, 43, 44, 45, 46, 47, 48, 49, 50, 51, 52, 53, 54] (by decide +kernel) (by decide +kernel)
set_option maxRecDepth 20000 in
theorem ggL_signAt_c3 : GoodIn wsL_signAt (wsX6_signAt_r3) := goodIn_r _ [55, 56, 57, 58, 59, 60, 61, 62, 63, 64, 65, 66, 67, 68, 69, 70, 71, 72, 73, 74, 75, 76, 77, 78] (by decide +kernel) (by decide +kernel)
set_option maxRecDepth 20000 in
theorem ggL_signAt_c4 : GoodIn wsL_signAt (wsX6_signAt_r4) := goodIn_r _ [79, 80, 81, 82, 83, 84, 85, 86] (by decide +kernel) (by decide +kernel)
set_option maxRecDepth 20000 in
theorem ggL_signAt_c5 : GoodIn wsL_signAt (wsX60) := goodIn_r _ [87, 88, 89, 90, 91, 92] (by decide +kernel) (by decide +kernel)
set_option maxRecDepth 20000 in
theorem ggL_signAt_c6 : GoodIn wsL_signAt (wsJx4a65c0) := goodIn_r _ [93, 94, 95] (by decide +kernel) (by decide +kernel)
set_option maxRecDepth 20000 in
theorem ggL_signAt_c7 : GoodIn wsL_signAt (wsX10) := goodIn_r _ [96, 97, 98, 99, 100, 101] (by decide +kernel) (by decide +kernel)
set_option maxRecDepth 20000 in
theorem ggL_signAt_c8 : GoodIn wsL_signAt (wsX40) := goodIn_r _ [102, 103] (by decide +kernel) (by decide +kernel)
set_option maxRecDepth 20000 in
theorem ggL_signAt_X6_signAt : GoodIn wsL_signAt wsX6_signAt := (goodIn_c1 ggL_signAt_c0 (goodIn_app (goodIn_app (goodIn_app (goodIn_app (goodIn_app (goodIn_app (goodIn_app ggL_signAt_c1 (goodIn_app ggL_signAt_c2 (goodIn_app ggL_signAt_c3 ggL_signAt_c4))) ggL_signAt_c5) ggL_signAt_c6) ggL_signAt_c7) ggL_signAt_c8) (goodIn_sub (fun _ h => List.mem_cons_of_mem _ (List.mem_append_left _ (List.mem_append_right _ h))) (by decide +kernel))) (goodIn_sub (fun _ h => List.mem_cons_of_mem _ (List.mem_append_right _ h)) (by decide +kernel))))
theorem gL_signAt_X6_signAt : GoodIn wsL_signAt (wsV RL 44 RX6 yX6_signAt wsX6_signAt) := goodIn_app (goodIn_of _ (by decide +kernel)) ggL_signAt_X6_signAt
set_option maxRecDepth 20000 in
theorem ggL_length_c0 : GoodIn wsL_length ([.code yX6_length cX6_length 4 (some .int)]) := goodIn_r _ [7] (by decide +kernel) (by decide +kernel)
set_option maxRecDepth 20000 in
theorem ggL_length_c1 : GoodIn wsL_length (wsX6_length_r1) := goodIn_r _ [8, 9, 10, 6, 11, 12, 13, 14, 15, 16, 17, 18, 19, 20, 21, 22, 23, 24, 25, 26, 27, 28, 29, 30] (by decide +kernel) (by decide +kernel)
set_option maxRecDepth 20000 in
theorem ggL_length_c2 : GoodIn wsL_length (wsX6_length_r2) := goodIn_r _ [31, 32, 33, 34, 35, 36, 37, 38, 39, 40, 41, 42, 43, 44, 45, 46, 47, 48, 49, 50, 51, 52, 53, 54] (by decide +kernel) (by decide +kernel)
set_option maxRecDepth 20000 in
theorem ggL_length_c3 : GoodIn wsL_length (wsX6_length_r3) := goodIn_r _ [55, 56, 57, 58, 59, 60, 61, 62, 63, 64, 65, 66, 67, 68, 69, 70, 71, 72, 73, 74, 75, 76, 77, 78] (by decide +kernel) (by decide +kernel)
set_option maxRecDepth 20000 in
theorem ggL_length_c4 : GoodIn wsL_length (wsX6_length_r4) := goodIn_r _ [79, 80, 81, 82, 83, 84, 85, 86] (by decide +kernel) (by decide +kernel)
set_option maxRecDepth 20000 in
theorem ggL_length_c5 : GoodIn wsL_length (wsX60) := goodIn_r _ [87, 88, 89, 90, 91, 92] (by decide +kernel) (by decide +kernel)
set_option maxRecDepth 20000 in
theorem ggL_length_c6 : GoodIn wsL_length (wsJx4a65c0) := goodIn_r _ [93, 94, 95] (by decide +kernel) (by decide +kernel)
set_option maxRecDepth 20000 in
theorem ggL_length_c7 : GoodIn wsL_length (wsX10) := goodIn_r _ [96, 97, 98, 99, 100, 101] (by decide +kernel) (by decide +kernel)
set_option maxRecDepth 20000 in
theorem ggL_length_c8 : GoodIn wsL_length (wsX40) := goodIn_r _ [102, 103] (by decide +kernel) (by decide +kernel)
set_option maxRecDepth 20000 in
theorem ggL_length_X6_length : GoodIn wsL_length wsX6_length := (goodIn_c1 ggL_length_c0 (goodIn_app (goodIn_app (goodIn_app (goodIn_app (goodIn_app (goodIn_app (goodIn_app ggL_length_c1 (goodIn_app ggL_length_c2 (goodIn_app ggL_length_c3 ggL_length_c4))) ggL_length_c5) ggL_length_c6) ggL_length_c7) ggL_length_c8) (goodIn_sub (fun _ h => List.mem_cons_of_mem _ (List.mem_append_left _ (List.mem_append_right _ h))) (by decide +kernel))) (goodIn_sub (fun _ h => List.mem_cons_of_mem _ (List.mem_append_right _ h)) (by decide +kernel))))
theorem gL_length_X6_length : GoodIn wsL_length (wsV RL 48 RX6 yX6_length wsX6_length) := goodIn_app (goodIn_of _ (by decide +kernel)) ggL_length_X6_length
set_option maxRecDepth 20000 in
theorem ggL_proof_c0 : GoodIn wsL_proof ([.code yX6_proof cX6_proof 2 (some .int)]) := goodIn_r _ [6] (by decide +kernel) (by decide +kernel)
set_option maxRecDepth 20000 in
theorem ggL_proof_c1 : GoodIn wsL_proof (wsX6_proof_r1) := goodIn_r _ [7, 8, 9, 5, 10, 11, 12, 13, 14, 15, 16, 17, 18, 19, 20, 21, 22, 23, 24, 25, 26, 27, 28, 29] (by decide +kernel) (by decide +kernel)
set_option maxRecDepth 20000 in
theorem ggL_proof_c2 : GoodIn wsL_proof (wsX6_proof_r2) := goodIn_r _ [30, 31, 32, 33, 34, 35, 36, 37, 38, 39, 40, 41, 42, 43, 44, 45, 46, 47, 48, 49, 50, 51, 52] (by decide +kernel) (by decide +kernel)
set_option maxRecDepth 20000 in
theorem ggL_proof_c3 : GoodIn wsL_proof (wsX60) := goodIn_r _ [53, 54, 55, 56, 57, 58] (by decide +kernel) (by decide +kernel)
set_option maxRecDepth 20000 in
theorem ggL_proof_c4 : GoodIn wsL_proof (wsJx4a65c0) := goodIn_r _ [59, 60, 61] (by decide +kernel) (by decide +kernel)
set_option maxRecDepth 20000 in
theorem ggL_proof_c5 : GoodIn wsL_proof (wsX10) := goodIn_r _ [62, 63, 64, 65, 66, 67] (by decide +kernel) (by decide +kernel)
set_option maxRecDepth 20000 in
theorem ggL_proof_c6 : GoodIn wsL_proof (wsX40) := goodIn_r _ [68, 69] (by decide +kernel) (by decide +kernel)
set_option maxRecDepth 20000 in
theorem ggL_proof_X6_proof : GoodIn wsL_proof wsX6_proof := (goodIn_c1 ggL_proof_c0 (goodIn_app (goodIn_app (goodIn_app (goodIn_app (goodIn_app (goodIn_app ggL_proof_c1 ggL_proof_c2) ggL_proof_c3) ggL_proof_c4) ggL_proof_c5) ggL_proof_c6) (goodIn_sub (fun _ h => List.mem_cons_of_mem _ (List.mem_append_right _ h)) (by decide +kernel))))
theorem gL_proof_X6_proof : GoodIn wsL_proof (wsV RL 51 RX6 yX6_proof wsX6_proof) := goodIn_app (goodIn_of _ (by decide +kernel)) ggL_proof_X6_proof
set_option maxRecDepth 20000 in
theorem ggL_proofAnew_c0 : GoodIn wsL_proofAnew ([.code yX6_proofAnew cX6_proofAnew 2 (some .int)]) := goodIn_r _ [6] (by decide +kernel) (by decide +kernel)
set_option maxRecDepth 20000 in
theorem ggL_proofAnew_c1 : GoodIn wsL_proofAnew (wsX6_proofAnew_r1) := goodIn_r _ [7, 8, 9, 5, 10, 11, 12, 13, 14, 15, 16, 17, 18, 19, 20, 21, 22, 23, 24, 25, 26, 27, 28, 29] (by decide +kernel) (by decide +kernel)
set_option maxRecDepth 20000 in
theorem ggL_proofAnew_c2 : GoodIn wsL_proofAnew (wsX6_proofAnew_r2) := goodIn_r _ [30, 31, 32, 33, 34, 35, 36, 37, 38, 39, 40, 41, 42, 43, 44, 45, 46, 47, 48, 49, 50, 51, 52] (by decide +kernel) (by decide +kernel)
set_option maxRecDepth 20000 in
theorem ggL_proofAnew_c3 : GoodIn wsL_proofAnew (wsX60) := goodIn_r _ [53, 54, 55, 56, 57, 58] (by decide +kernel) (by decide +kernel)
set_option maxRecDepth 20000 in
theorem ggL_proofAnew_c4 : GoodIn wsL_proofAnew (wsJx4a65c0) := goodIn_r _ [59, 60, 61] (by decide +kernel) (by decide +kernel)
set_option maxRecDepth 20000 in
theorem ggL_proofAnew_c5 : GoodIn wsL_proofAnew (wsX10) := goodIn_r _ [62, 63, 64, 65, 66, 67] (by decide +kernel) (by decide +kernel)
set_option maxRecDepth 20000 in
theorem ggL_proofAnew_c6 : GoodIn wsL_proofAnew (wsX40) := goodIn_r _ [68, 69] (by decide +kernel) (by decide +kernel)
set_option maxRecDepth 20000 in
theorem ggL_proofAnew_X6_proofAnew : GoodIn wsL_proofAnew wsX6_proofAnew := (goodIn_c1 ggL_proofAnew_c0 (goodIn_app (goodIn_app (goodIn_app (goodIn_app (goodIn_app (goodIn_app ggL_proofAnew_c1 ggL_proofAnew_c2) ggL_proofAnew_c3) ggL_proofAnew_c4) ggL_proofAnew_c5) ggL_proofAnew_c6) (goodIn_sub (fun _ h => List.mem_cons_of_mem _ (List.mem_append_right _ h)) (by decide +kernel))))
theorem gL_proofAnew_X6_proofAnew : GoodIn wsL_proofAnew (wsV RL 54 RX6 yX6_proofAnew wsX6_proofAnew) := goodIn_app (goodIn_of _ (by decide +kernel)) ggL_proofAnew_X6_proofAnew
set_option maxRecDepth 20000 in
theorem ggL_gets_c0 : GoodIn wsL_gets ([.code yX6_gets cX6_gets 4 (some .int)]) := goodIn_r _ [7] (by decide +kernel) (by decide +kernel)
set_option maxRecDepth 20000 in
theorem ggL_gets_c1 : GoodIn wsL_gets (wsX6_gets_r1) := goodIn_r _ [8, 9, 10, 6, 11, 12, 13, 14, 15, 16, 17, 18, 19, 20, 21, 22, 23, 24, 25, 26, 27, 28, 29, 30] (by decide +kernel) (by decide +kernel)
set_option maxRecDepth 20000 in
theorem ggL_gets_c2 : GoodIn wsL_gets (wsX6_gets_r2) := goodIn_r _ [31, 32, 33, 34, 35, 36, 37, 38, 39, 40, 41, 42, 43, 44, 45, 46, 47, 48, 49] (by decide +kernel) (by decide +kernel)
set_option maxRecDepth 20000 in
theorem ggL_gets_c3 : GoodIn wsL_gets (wsX60) := goodIn_r _ [50, 51, 52, 53, 54, 55] (by decide +kernel) (by decide +kernel)
set_option maxRecDepth 20000 in
theorem ggL_gets_c4 : GoodIn wsL_gets (wsJx4a65c0) := goodIn_r _ [56, 57, 58] (by decide +kernel) (by decide +kernel)
set_option maxRecDepth 20000 in
theorem ggL_gets_c5 : GoodIn wsL_gets (wsX10) := goodIn_r _ [59, 60, 61, 62, 63, 64] (by decide +kernel) (by decide +kernel)
set_option maxRecDepth 20000 in
theorem ggL_gets_X6_gets : GoodIn wsL_gets wsX6_gets := (goodIn_c1 ggL_gets_c0 (goodIn_app (goodIn_app (goodIn_app (goodIn_app (goodIn_app (goodIn_app ggL_gets_c1 ggL_gets_c2) ggL_gets_c3) ggL_gets_c4) ggL_gets_c5) (goodIn_sub (fun _ h => List.mem_cons_of_mem _ (List.mem_append_left _ (List.mem_append_right _ h))) (by decide +kernel))) (goodIn_sub (fun _ h => List.mem_cons_of_mem _ (List.mem_append_right _ h)) (by decide +kernel))))
theorem gL_gets_X6_gets : GoodIn wsL_gets (wsV RL 57 RX6 yX6_gets wsX6_gets) := goodIn_app (goodIn_of _ (by decide +kernel)) ggL_gets_X6_gets
set_option maxRecDepth 20000 in
theorem ggL_sum_c0 : GoodIn wsL_sum ([.code yX6_sum cX6_sum 3 (some .int)]) := goodIn_r _ [7] (by decide +kernel) (by decide +kernel)
set_option maxRecDepth 20000 in
theorem ggL_sum_c1 : GoodIn wsL_sum (wsX6_sum_r1) := goodIn_r _ [8, 9, 10, 6, 11, 12, 13, 14, 15, 16, 17, 18, 19, 20, 21, 22, 23, 24, 25, 26, 27, 28, 29, 30] (by decide +kernel) (by decide +kernel)
set_option maxRecDepth 20000 in
theorem ggL_sum_c2 : GoodIn wsL_sum (wsX6_sum_r2) := goodIn_r _ [31, 32, 33, 34, 35, 36, 37, 38, 39, 40, 41, 42, 43, 44, 45, 46, 47, 48, 49, 50, 51, 52, 53] (by decide +kernel) (by decide +kernel)
set_option maxRecDepth 20000 in
theorem ggL_sum_c3 : GoodIn wsL_sum (wsX60) := goodIn_r _ [54, 55, 56, 57, 58, 59] (by decide +kernel) (by decide +kernel)
set_option maxRecDepth 20000 in
theorem ggL_sum_c4 : GoodIn wsL_sum (wsJx4a65c0) := goodIn_r _ [60, 61, 62] (by decide +kernel) (by decide +kernel)
set_option maxRecDepth 20000 in
theorem ggL_sum_c5 : GoodIn wsL_sum (wsX10) := goodIn_r _ [63, 64, 65, 66, 67, 68] (by decide +kernel) (by decide +kernel)
set_option maxRecDepth 20000 in
theorem ggL_sum_X6_sum : GoodIn wsL_sum wsX6_sum := (goodIn_c1 ggL_sum_c0 (goodIn_app (goodIn_app (goodIn_app (goodIn_app (goodIn_app (goodIn_app ggL_sum_c1 ggL_sum_c2) ggL_sum_c3) ggL_sum_c4) ggL_sum_c5) (goodIn_sub (fun _ h => List.mem_cons_of_mem _ (List.mem_append_left _ (List.mem_append_right _ h))) (by decide +kernel))) (goodIn_sub (fun _ h => List.mem_cons_of_mem _ (List.mem_append_right _ h)) (by decide +kernel))))
theorem gL_sum_X6_sum : GoodIn wsL_sum (wsV RL 60 RX6 yX6_sum wsX6_sum) := goodIn_app (goodIn_of _ (by decide +kernel)) ggL_sum_X6_sum
set_option maxRecDepth 20000 in
theorem ggL_doubts_c0 : GoodIn wsL_doubts ([.code yX6_doubts cX6_doubts 4 (some .int)]) := goodIn_r _ [6] (by decide +kernel) (by decide +kernel)
set_option maxRecDepth 20000 in
theorem ggL_doubts_c1 : GoodIn wsL_doubts (wsX6_doubts_r1) := goodIn_r _ [7, 8, 9, 10, 11, 5, 12, 13, 14, 15, 16, 17, 18, 19, 20, 21, 22, 23, 24, 25, 26, 27, 28, 29] (by decide +kernel) (by decide +kernel)
set_option maxRecDepth 20000 in
theorem ggL_doubts_c2 : GoodIn wsL_doubts (wsX6_doubts_r2) := goodIn_r _ [30, 31, 32, 33, 34, 35, 36, 37, 38, 39, 40, 41, 42, 43, 44, 45, 46, 47, 48, 49, 50, 51, 52, 53] (by decide +kernel) (by decide +kernel)
set_option maxRecDepth 20000 in
theorem ggL_doubts_c3 : GoodIn wsL_doubts (wsX6_doubts_r3) := goodIn_r _ [54, 55, 56, 57, 58, 59, 60, 61, 62, 63, 64, 65, 66, 67, 68, 69, 70, 71, 72, 73, 74, 75, 76] (by decide +kernel) (by decide +kernel)
set_option maxRecDepth 20000 in
theorem ggL_doubts_c4 : GoodIn wsL_doubts (wsX60) := goodIn_r _ [77, 78, 79, 80, 81, 82] (by decide +kernel) (by decide +kernel)
set_option maxRecDepth 20000 in
theorem ggL_doubts_c5 : GoodIn wsL_doubts (wsJx4a65c0) := goodIn_r _ [83, 84, 85] (by decide +kernel) (by decide +kernel)
set_option maxRecDepth 20000 in
theorem ggL_doubts_c6 : GoodIn wsL_doubts (wsX30) := goodIn_r _ [86, 87, 88, 89, 90] (by decide +kernel) (by decide +kernel)
set_option maxRecDepth 20000 in
theorem ggL_doubts_c7 : GoodIn wsL_doubts (wsX10) := goodIn_r _ [91, 92, 93, 94, 95, 96] (by decide +kernel) (by decide +kernel)
set_option maxRecDepth 20000 in
theorem ggL_doubts_X6_doubts : GoodIn wsL_doubts wsX6_doubts := (goodIn_c1 ggL_doubts_c0 (goodIn_app (goodIn_app (goodIn_app (goodIn_app (goodIn_app (goodIn_app ggL_doubts_c1 (goodIn_app ggL_doubts_c2 ggL_doubts_c3)) ggL_doubts_c4) ggL_doubts_c5) ggL_doubts_c6) ggL_doubts_c7) (goodIn_sub (fun _ h => List.mem_cons_of_mem _ (List.mem_append_right _ h)) (by decide +kernel))))
theorem gL_doubts_X6_doubts : GoodIn wsL_doubts (wsV RL 63 RX6 yX6_doubts wsX6_doubts) := goodIn_app (goodIn_of _ (by decide +kernel)) ggL_doubts_X6_doubts
set_option maxRecDepth 20000 in
theorem ggL_doubted_c0 : GoodIn wsL_doubted ([.code yX6_doubted cX6_doubted 2 (some .int)]) := goodIn_r _ [6] (by decide +kernel) (by decide +kernel)
set_option maxRecDepth 20000 in
theorem ggL_doubted_c1 : GoodIn wsL_doubted (wsX6_doubted_r1) := goodIn_r _ [7, 8, 9, 5, 10, 11, 12, 13, 14, 15, 16, 17, 18, 19, 20, 21, 22, 23, 24, 25, 26, 27, 28, 29] (by decide +kernel) (by decide +kernel)
set_option maxRecDepth 20000 in
theorem ggL_doubted_c2 : GoodIn wsL_doubted (wsX6_doubted_r2) := goodIn_r _ [30, 31, 32, 33, 34, 35, 36, 37, 38, 39, 40, 41, 42, 43, 44, 45, 46, 47, 48, 49, 50, 51, 52, 53] (by decide +kernel) (by decide +kernel)
set_option maxRecDepth 20000 in
theorem ggL_doubted_c3 : GoodIn wsL_doubted (wsX6_doubted_r3) := goodIn_r _ [54, 55, 56, 57, 58, 59, 60, 61, 62, 63, 64, 65, 66, 67, 68, 69, 70, 71, 72, 73, 74, 75, 76, 77] (by decide +kernel) (by decide +kernel)
set_option maxRecDepth 20000 in
theorem ggL_doubted_c4 : GoodIn wsL_doubted (wsX6_doubted_r4) := goodIn_r _ [78, 79, 80] (by decide +kernel) (by decide +kernel)
set_option maxRecDepth 20000 in
theorem ggL_doubted_c5 : GoodIn wsL_doubted (wsX60) := goodIn_r _ [81, 82, 83, 84, 85, 86] (by decide +kernel) (by decide +kernel)
set_option maxRecDepth 20000 in
theorem ggL_doubted_c6 : GoodIn wsL_doubted (wsJx4a65c0) := goodIn_r _ [87, 88, 89] (by decide +kernel) (by decide +kernel)
set_option maxRecDepth 20000 in
theorem ggL_doubted_c7 : GoodIn wsL_doubted (wsX30) := goodIn_r _ [90, 91, 92, 93, 94] (by decide +kernel) (by decide +kernel)
set_option maxRecDepth 20000 in
theorem ggL_doubted_c8 : GoodIn wsL_doubted (wsX10) := goodIn_r _ [95, 96, 97, 98, 99, 100] (by decide +kernel) (by decide +kernel)
set_option maxRecDepth 20000 in
theorem ggL_doubted_X6_doubted : GoodIn wsL_doubted wsX6_doubted := (goodIn_c1 ggL_doubted_c0 (goodIn_app (goodIn_app (goodIn_app (goodIn_app (goodIn_app (goodIn_app ggL_doubted_c1 (goodIn_app ggL_doubted_c2 (goodIn_app ggL_doubted_c3 ggL_doubted_c4))) ggL_doubted_c5) ggL_doubted_c6) ggL_doubted_c7) ggL_doubted_c8) (goodIn_sub (fun _ h => List.mem_cons_of_mem _ (List.mem_append_right _ h)) (by decide +kernel))))
theorem gL_doubted_X6_doubted : GoodIn wsL_doubted (wsV RL 66 RX6 yX6_doubted wsX6_doubted) := goodIn_app (goodIn_of _ (by decide +kernel)) ggL_doubted_X6_doubted
set_option maxRecDepth 20000 in
theorem ggL_isFrozen_c0 : GoodIn wsL_isFrozen ([.code yX6_isFrozen cX6_isFrozen 2 (some .boolean)]) := goodIn_r _ [6] (by decide +kernel) (by decide +kernel)
set_option maxRecDepth 20000 in
theorem ggL_isFrozen_c1 : GoodIn wsL_isFrozen (wsX6_isFrozen_r1) := goodIn_r _ [7, 8, 9, 5, 10, 11, 12, 13, 14, 15, 16, 17, 18, 19, 20, 21, 22, 23, 24, 25, 26, 27, 28, 29] (by decide +kernel) (by decide +kernel)
set_option maxRecDepth 20000 in
theorem ggL_isFrozen_c2 : GoodIn wsL_isFrozen (wsX6_isFrozen_r2) := goodIn_r _ [30, 31, 32, 33, 34, 35, 36, 37, 38, 39, 40, 41, 42] (by decide +kernel) (by decide +kernel)
set_option maxRecDepth 20000 in
theorem ggL_isFrozen_c3 : GoodIn wsL_isFrozen (wsX60) := goodIn_r _ [43, 44, 45, 46, 47, 48] (by decide +kernel) (by decide +kernel)
set_option maxRecDepth 20000 in
theorem ggL_isFrozen_c4 : GoodIn wsL_isFrozen (wsJx4a65c0) := goodIn_r _ [49, 50, 51] (by decide +kernel) (by decide +kernel)
set_option maxRecDepth 20000 in
theorem ggL_isFrozen_c5 : GoodIn wsL_isFrozen (wsX00) := goodIn_r _ [52, 53, 54, 55] (by decide +kernel) (by decide +kernel)
set_option maxRecDepth 20000 in
theorem ggL_isFrozen_X6_isFrozen : GoodIn wsL_isFrozen wsX6_isFrozen := (goodIn_c1 ggL_isFrozen_c0 (goodIn_app (goodIn_app (goodIn_app (goodIn_app (goodIn_app ggL_isFrozen_c1 ggL_isFrozen_c2) ggL_isFrozen_c3) ggL_isFrozen_c4) ggL_isFrozen_c5) (goodIn_sub (fun _ h => List.mem_cons_of_mem _ (List.mem_append_right _ h)) (by decide +kernel))))
theorem gL_isFrozen_X6_isFrozen : GoodIn wsL_isFrozen (wsV RL 69 RX6 yX6_isFrozen wsX6_isFrozen) := goodIn_app (goodIn_of _ (by decide +kernel)) ggL_isFrozen_X6_isFrozen
set_option maxRecDepth 20000 in
theorem ggL_holds_c0 : GoodIn wsL_holds ([.code yX6_holds cX6_holds 2 (some .boolean)]) := goodIn_r _ [6] (by decide +kernel) (by decide +kernel)
set_option maxRecDepth 20000 in
theorem ggL_holds_c1 : GoodIn wsL_holds (wsX6_holds_r1) := goodIn_r _ [7, 8, 9, 5, 10, 11, 12, 13, 14, 15, 16, 17, 18, 19, 20, 21, 22, 23, 24, 25, 26, 27, 28, 29] (by decide +kernel) (by decide +kernel)
set_option maxRecDepth 20000 in
theorem ggL_holds_c2 : GoodIn wsL_holds (wsX6_holds_r2) := goodIn_r _ [30, 31, 32, 33, 34, 35, 36, 37, 38, 39, 40, 41, 42, 43, 44, 45, 46, 47, 48, 49, 50, 51, 52, 53] (by decide +kernel) (by decide +kernel)
set_option maxRecDepth 20000 in
theorem ggL_holds_c3 : GoodIn wsL_holds (wsX6_holds_r3) := goodIn_r _ [54, 55, 56, 57, 58] (by decide +kernel) (by decide +kernel)
set_option maxRecDepth 20000 in
theorem ggL_holds_c4 : GoodIn wsL_holds (wsX60) := goodIn_r _ [59, 60, 61, 62, 63, 64] (by decide +kernel) (by decide +kernel)
set_option maxRecDepth 20000 in
theorem ggL_holds_c5 : GoodIn wsL_holds (wsJx4a65c0) := goodIn_r _ [65, 66, 67] (by decide +kernel) (by decide +kernel)
set_option maxRecDepth 20000 in
theorem ggL_holds_c6 : GoodIn wsL_holds (wsX00) := goodIn_r _ [68, 69, 70, 71] (by decide +kernel) (by decide +kernel)
set_option maxRecDepth 20000 in
theorem ggL_holds_c7 : GoodIn wsL_holds (wsX10) := goodIn_r _ [72, 73, 74, 75, 76, 77] (by decide +kernel) (by decide +kernel)
set_option maxRecDepth 20000 in
theorem ggL_holds_c8 : GoodIn wsL_holds (wsX40) := goodIn_r _ [78, 79] (by decide +kernel) (by decide +kernel)
set_option maxRecDepth 20000 in
theorem ggL_holds_X6_holds : GoodIn wsL_holds wsX6_holds := (goodIn_c1 ggL_holds_c0 (goodIn_app (goodIn_app (goodIn_app (goodIn_app (goodIn_app (goodIn_app (goodIn_app ggL_holds_c1 (goodIn_app ggL_holds_c2 ggL_holds_c3)) ggL_holds_c4) ggL_holds_c5) ggL_holds_c6) ggL_holds_c7) ggL_holds_c8) (goodIn_sub (fun _ h => List.mem_cons_of_mem _ (List.mem_append_right _ h)) (by decide +kernel))))
theorem gL_holds_X6_holds : GoodIn wsL_holds (wsV RL 72 RX6 yX6_holds wsX6_holds) := goodIn_app (goodIn_of _ (by decide +kernel)) ggL_holds_X6_holds
