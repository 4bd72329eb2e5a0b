set_option maxRecDepth 20000 in
theorem ggL_law_X6_init_c0 : GoodIn wsL_law ([.code yX6_init cX6_init 1 none]) := goodIn_r _ [9] (by decide +kernel) (by decide +kernel)
set_option maxRecDepth 20000 in
theorem ggL_law_X6_init_c1 : GoodIn wsL_law (wsX6_init_r1) := goodIn_r _ [10, 11, 12, 13, 14, 15, 16, 17, 18, 19, 20, 21, 22, 23, 24, 25, 26, 27, 28, 29, 30, 31, 32, 33] (by decide +kernel) (by decide +kernel)
set_option maxRecDepth 20000 in
theorem ggL_law_X6_init_c2 : GoodIn wsL_law (wsX6_init_r2) := goodIn_r _ [34, 35, 36, 37, 38, 39, 40, 41, 42, 43, 44, 45, 46, 47, 48, 49, 50, 51, 52, 53, 54, 55] (by decide +kernel) (by decide +kernel)
set_option maxRecDepth 20000 in
theorem ggL_law_X6_init_c3 : GoodIn wsL_law (wsX40) := goodIn_r _ [843, 844] (by decide +kernel) (by decide +kernel)
set_option maxRecDepth 20000 in
theorem ggL_law_X6_init_c4 : GoodIn wsL_law (wsX60) := goodIn_r _ [790, 791, 792, 793, 794, 795] (by decide +kernel) (by decide +kernel)
set_option maxRecDepth 20000 in
theorem ggL_law_X6_init_c5 : GoodIn wsL_law (wsX20) := goodIn_r _ [845, 846] (by decide +kernel) (by decide +kernel)
set_option maxRecDepth 20000 in
theorem ggL_law_X6_init_c6 : GoodIn wsL_law (wsJx4a65c0) := goodIn_r _ [847, 848, 849] (by decide +kernel) (by decide +kernel)
set_option maxRecDepth 20000 in
theorem ggL_law_X6_init : GoodIn wsL_law wsX6_init := (goodIn_c1 ggL_law_X6_init_c0 (goodIn_app (goodIn_app (goodIn_app (goodIn_app (goodIn_app ggL_law_X6_init_c1 ggL_law_X6_init_c2) ggL_law_X6_init_c3) ggL_law_X6_init_c4) ggL_law_X6_init_c5) ggL_law_X6_init_c6))
set_option maxRecDepth 20000 in
theorem ggL_law_X7_init_c0 : GoodIn wsL_law ([.code yX7_init cX7_init 1 none]) := goodIn_r _ [58] (by decide +kernel) (by decide +kernel)
set_option maxRecDepth 20000 in
theorem ggL_law_X7_init_c1 : GoodIn wsL_law (wsX7_init_r1) := goodIn_r _ [59, 11, 12, 36, 60, 61, 62, 63, 64, 65, 66, 67, 68, 69, 70, 71, 72, 73, 74, 75, 76, 77, 78, 79] (by decide +kernel) (by decide +kernel)
set_option maxRecDepth 20000 in
theorem ggL_law_X7_init_c2 : GoodIn wsL_law (wsX7_init_r2) := goodIn_r _ [80, 81, 82, 83, 84, 85, 86, 87, 88, 89, 90, 91, 92, 93, 94, 95, 96, 97] (by decide +kernel) (by decide +kernel)
set_option maxRecDepth 20000 in
theorem ggL_law_X7_init_c3 : GoodIn wsL_law (wsX70) := goodIn_r _ [796, 797, 798, 799, 800, 801, 802, 803, 804, 805, 806, 807, 808, 809, 810, 811, 812, 813, 814, 815, 816, 817, 818, 819, 820, 821, 822, 823, 824, 825, 826, 827, 828, 829, 830, 831, 832, 833, 834, 835, 836, 837, 838, 839, 840, 841, 842] (by decide +kernel) (by decide +kernel)
set_option maxRecDepth 20000 in
theorem ggL_law_X7_init : GoodIn wsL_law wsX7_init := (goodIn_c1 ggL_law_X7_init_c0 (goodIn_app (goodIn_app ggL_law_X7_init_c1 ggL_law_X7_init_c2) ggL_law_X7_init_c3))
set_option maxRecDepth 20000 in
theorem ggL_law_L_type_c0 : GoodIn wsL_law ([.codeWith yL_type cL_type 4 (some .int) [(0, 9, 12, 13), (0, 9, 15, 15)]]) := goodIn_r _ [101] (by decide +kernel) (by decide +kernel)
set_option maxRecDepth 20000 in
theorem ggL_law_L_type_c1 : GoodIn wsL_law ([.classLink RL 13 "java/lang/IllegalArgumentException", .classLink RL 15 "java/lang/IllegalStateException", .methodLink RL 7 yX6_type, .instanceMethod yX6_type, .selects RX6 yX6_type yX6_type, .initialized RX6, .code yX6_type cX6_type 2 (some .int), .classLink RX6 41 "java/lang/IllegalArgumentException", .initialized "java/lang/IllegalArgumentException", .classLink RX6 52 "java/lang/IllegalStateException", .initialized "java/lang/IllegalStateException", .fieldLink RX6 14 "Postlint" "draft" "LPostlint$Signs;", .methodLink RX6 48 yX4_size, .instanceMethod yX4_size, .selects RX4 yX4_size yX4_size, .initialized RX4, .code yX4_size cX4_size 1 (some .int), .fieldLink RX4 21 "Postlint$Signs" "count" "I", .methodLink RX6 57 yX4_add, .instanceMethod yX4_add, .selects RX4 yX4_add yX4_add, .code yX4_add cX4_add 2 none, .fieldLink RX4 15 "Postlint$Signs" "codes" "[I"]) := goodIn_r _ [102, 103, 104, 105, 106, 2, 107, 108, 109, 110, 111, 16, 112, 113, 114, 15, 115, 116, 117, 118, 119, 120, 37] (by decide +kernel) (by decide +kernel)
set_option maxRecDepth 20000 in
theorem ggL_law_L_type_c2 : GoodIn wsL_law (wsX60) := goodIn_r _ [790, 791, 792, 793, 794, 795] (by decide +kernel) (by decide +kernel)
set_option maxRecDepth 20000 in
theorem ggL_law_L_type_c3 : GoodIn wsL_law (wsX40) := goodIn_r _ [843, 844] (by decide +kernel) (by decide +kernel)
set_option maxRecDepth 20000 in
theorem ggL_law_L_type : GoodIn wsL_law wsL_type := (goodIn_c1 ggL_law_L_type_c0 (goodIn_app (goodIn_app (goodIn_app (goodIn_app ggL_law_L_type_c1 ggL_law_L_type_c2) ggL_law_L_type_c3) (goodIn_sub (fun _ h => (List.mem_append_left _ (List.mem_append_left _ (List.mem_append_right _ h)))) (by decide +kernel))) (goodIn_sub (fun _ h => (List.mem_append_left _ (List.mem_append_right _ h))) (by decide +kernel))))
set_option maxRecDepth 20000 in
theorem ggL_law_X7_type_c0 : GoodIn wsL_law ([.code yX7_type cX7_type 2 (some .int)]) := goodIn_r _ [124] (by decide +kernel) (by decide +kernel)
set_option maxRecDepth 20000 in
theorem ggL_law_X7_type_c1 : GoodIn wsL_law ([.fieldLink RX7 133 "PostlintModel" "drafted" "I", .fieldLink RX7 7 "PostlintModel" "draft" "[I", .methodLink RX7 129 yX7_isIn, .static yX7_isIn, .initialized RX7, .code yX7_isIn cX7_isIn 3 (some .boolean), .methodLink RX7 189 yX7_isOf, .instanceMethod yX7_isOf, .selects RX7 yX7_isOf yX7_isOf, .code yX7_isOf cX7_isOf 2 (some .boolean), .fieldLink RX7 122 "PostlintModel" "thrown" "I"]) := goodIn_r _ [125, 60, 126, 127, 5, 128, 129, 130, 131, 132, 133] (by decide +kernel) (by decide +kernel)
set_option maxRecDepth 20000 in
theorem ggL_law_X7_type_c2 : GoodIn wsL_law (wsX70) := goodIn_r _ [796, 797, 798, 799, 800, 801, 802, 803, 804, 805, 806, 807, 808, 809, 810, 811, 812, 813, 814, 815, 816, 817, 818, 819, 820, 821, 822, 823, 824, 825, 826, 827, 828, 829, 830, 831, 832, 833, 834, 835, 836, 837, 838, 839, 840, 841, 842] (by decide +kernel) (by decide +kernel)
set_option maxRecDepth 20000 in
theorem ggL_law_X7_type : GoodIn wsL_law wsX7_type := (goodIn_c1 ggL_law_X7_type_c0 (goodIn_app ggL_law_X7_type_c1 ggL_law_X7_type_c2))
set_option maxRecDepth 20000 in
theorem ggL_law_X7_thrown_c0 : GoodIn wsL_law ([.code yX7_thrown cX7_thrown 1 (some .int)]) := goodIn_r _ [137] (by decide +kernel) (by decide +kernel)
set_option maxRecDepth 20000 in
theorem ggL_law_X7_thrown_c1 : GoodIn wsL_law ([.fieldLink RX7 122 "PostlintModel" "thrown" "I"]) := goodIn_r _ [133] (by decide +kernel) (by decide +kernel)
set_option maxRecDepth 20000 in
theorem ggL_law_X7_thrown_c2 : GoodIn wsL_law (wsX70) := goodIn_r _ [796, 797, 798, 799, 800, 801, 802, 803, 804, 805, 806, 807, 808, 809, 810, 811, 812, 813, 814, 815, 816, 817, 818, 819, 820, 821, 822, 823, 824, 825, 826, 827, 828, 829, 830, 831, 832, 833, 834, 835, 836, 837, 838, 839, 840, 841, 842] (by decide +kernel) (by decide +kernel)
set_option maxRecDepth 20000 in
theorem ggL_law_X7_thrown : GoodIn wsL_law wsX7_thrown := (goodIn_c1 ggL_law_X7_thrown_c0 (goodIn_app ggL_law_X7_thrown_c1 ggL_law_X7_thrown_c2))
set_option maxRecDepth 20000 in
theorem ggL_law_X6_clear_c0 : GoodIn wsL_law ([.code yX6_clear cX6_clear 2 (some .int)]) := goodIn_r _ [141] (by decide +kernel) (by decide +kernel)
set_option maxRecDepth 20000 in
theorem ggL_law_X6_clear_c1 : GoodIn wsL_law ([.fieldLink RX6 14 "Postlint" "draft" "LPostlint$Signs;", .methodLink RX6 48 yX4_size, .instanceMethod yX4_size, .selects RX4 yX4_size yX4_size, .initialized RX4, .code yX4_size cX4_size 1 (some .int), .fieldLink RX4 21 "Postlint$Signs" "count" "I", .methodLink RX6 60 yX4_empty, .instanceMethod yX4_empty, .selects RX4 yX4_empty yX4_empty, .code yX4_empty cX4_empty 1 none]) := goodIn_r _ [16, 112, 113, 114, 15, 115, 116, 142, 143, 144, 145] (by decide +kernel) (by decide +kernel)
set_option maxRecDepth 20000 in
theorem ggL_law_X6_clear_c2 : GoodIn wsL_law (wsX60) := goodIn_r _ [790, 791, 792, 793, 794, 795] (by decide +kernel) (by decide +kernel)
set_option maxRecDepth 20000 in
theorem ggL_law_X6_clear_c3 : GoodIn wsL_law (wsX40) := goodIn_r _ [843, 844] (by decide +kernel) (by decide +kernel)
set_option maxRecDepth 20000 in
theorem ggL_law_X6_clear : GoodIn wsL_law wsX6_clear := (goodIn_c1 ggL_law_X6_clear_c0 (goodIn_app (goodIn_app ggL_law_X6_clear_c1 ggL_law_X6_clear_c2) ggL_law_X6_clear_c3))
set_option maxRecDepth 20000 in
theorem ggL_law_X7_clear_c0 : GoodIn wsL_law ([.code yX7_clear cX7_clear 2 (some .int)]) := goodIn_r _ [149] (by decide +kernel) (by decide +kernel)
set_option maxRecDepth 20000 in
theorem ggL_law_X7_clear_c1 : GoodIn wsL_law ([.fieldLink RX7 122 "PostlintModel" "thrown" "I", .fieldLink RX7 133 "PostlintModel" "drafted" "I"]) := goodIn_r _ [133, 125] (by decide +kernel) (by decide +kernel)
set_option maxRecDepth 20000 in
theorem ggL_law_X7_clear_c2 : GoodIn wsL_law (wsX70) := goodIn_r _ [796, 797, 798, 799, 800, 801, 802, 803, 804, 805, 806, 807, 808, 809, 810, 811, 812, 813, 814, 815, 816, 817, 818, 819, 820, 821, 822, 823, 824, 825, 826, 827, 828, 829, 830, 831, 832, 833, 834, 835, 836, 837, 838, 839, 840, 841, 842] (by decide +kernel) (by decide +kernel)
set_option maxRecDepth 20000 in
theorem ggL_law_X7_clear : GoodIn wsL_law wsX7_clear := (goodIn_c1 ggL_law_X7_clear_c0 (goodIn_app ggL_law_X7_clear_c1 ggL_law_X7_clear_c2))
set_option maxRecDepth 20000 in
theorem ggL_law_X6_fault_c0 : GoodIn wsL_law ([.code yX6_fault cX6_fault 1 (some .int)]) := goodIn_r _ [153] (by decide +kernel) (by decide +kernel)
set_option maxRecDepth 20000 in
theorem ggL_law_X6_fault_c1 : GoodIn wsL_law (wsX6_fault_r1) := goodIn_r _ [21, 16, 154, 155, 156, 20, 157, 158, 159, 160, 113, 114, 15, 115, 116, 161, 162, 163, 164, 37, 165, 166, 167, 168] (by decide +kernel) (by decide +kernel)
set_option maxRecDepth 20000 in
theorem ggL_law_X6_fault_c2 : GoodIn wsL_law (wsX6_fault_r2) := goodIn_r _ [169, 170, 171, 172, 173, 2, 174, 175, 176, 177, 178, 179, 180] (by decide +kernel) (by decide +kernel)
set_option maxRecDepth 20000 in
theorem ggL_law_X6_fault_c3 : GoodIn wsL_law (wsX60) := goodIn_r _ [790, 791, 792, 793, 794, 795] (by decide +kernel) (by decide +kernel)
set_option maxRecDepth 20000 in
theorem ggL_law_X6_fault_c4 : GoodIn wsL_law (wsX20) := goodIn_r _ [845, 846] (by decide +kernel) (by decide +kernel)
set_option maxRecDepth 20000 in
theorem ggL_law_X6_fault_c5 : GoodIn wsL_law (wsX40) := goodIn_r _ [843, 844] (by decide +kernel) (by decide +kernel)
set_option maxRecDepth 20000 in
theorem ggL_law_X6_fault : GoodIn wsL_law wsX6_fault := (goodIn_c1 ggL_law_X6_fault_c0 (goodIn_app (goodIn_app (goodIn_app (goodIn_app ggL_law_X6_fault_c1 ggL_law_X6_fault_c2) ggL_law_X6_fault_c3) ggL_law_X6_fault_c4) ggL_law_X6_fault_c5))
set_option maxRecDepth 20000 in
theorem ggL_law_X7_fault_c0 : GoodIn wsL_law ([.code yX7_fault cX7_fault 1 (some .int)]) := goodIn_r _ [184] (by decide +kernel) (by decide +kernel)
set_option maxRecDepth 20000 in
theorem ggL_law_X7_fault_c1 : GoodIn wsL_law ([.fieldLink RX7 122 "PostlintModel" "thrown" "I", .methodLink RX7 179 yX7_draftFault, .instanceMethod yX7_draftFault, .selects RX7 yX7_draftFault yX7_draftFault, .initialized RX7, .code yX7_draftFault cX7_draftFault 7 (some .int), .fieldLink RX7 133 "PostlintModel" "drafted" "I", .fieldLink RX7 7 "PostlintModel" "draft" "[I", .methodLink RX7 136 yX7_next, .static yX7_next, .code yX7_next cX7_next 6 (some .int), .methodLink RX7 129 yX7_isIn, .static yX7_isIn, .code yX7_isIn cX7_isIn 3 (some .boolean)]) := goodIn_r _ [133, 185, 186, 187, 5, 188, 125, 60, 189, 190, 191, 126, 127, 128] (by decide +kernel) (by decide +kernel)
set_option maxRecDepth 20000 in
theorem ggL_law_X7_fault_c2 : GoodIn wsL_law (wsX70) := goodIn_r _ [796, 797, 798, 799, 800, 801, 802, 803, 804, 805, 806, 807, 808, 809, 810, 811, 812, 813, 814, 815, 816, 817, 818, 819, 820, 821, 822, 823, 824, 825, 826, 827, 828, 829, 830, 831, 832, 833, 834, 835, 836, 837, 838, 839, 840, 841, 842] (by decide +kernel) (by decide +kernel)
set_option maxRecDepth 20000 in
theorem ggL_law_X7_fault : GoodIn wsL_law wsX7_fault := (goodIn_c1 ggL_law_X7_fault_c0 (goodIn_app ggL_law_X7_fault_c1 ggL_law_X7_fault_c2))
set_option maxRecDepth 20000 in
theorem ggL_law_L_post_c0 : GoodIn wsL_law ([.codeWith yL_post cL_post 3 (some .int) [(0, 8, 11, 15)]]) := goodIn_r _ [194] (by decide +kernel) (by decide +kernel)
set_option maxRecDepth 20000 in
theorem ggL_law_L_post_c1 : GoodIn wsL_law (wsL_post_r1) := goodIn_r _ [103, 195, 196, 197, 2, 198, 110, 111, 25, 16, 199, 200, 201, 24, 202, 203, 204, 205, 206, 207, 21, 208, 209, 210] (by decide +kernel) (by decide +kernel)
set_option maxRecDepth 20000 in
theorem ggL_law_L_post_c2 : GoodIn wsL_law (wsL_post_r2) := goodIn_r _ [154, 155, 156, 20, 157, 158, 159, 160, 113, 114, 15, 115, 116, 161, 162, 163, 164, 37, 165, 166, 167, 168, 169, 170] (by decide +kernel) (by decide +kernel)
set_option maxRecDepth 20000 in
theorem ggL_law_L_post_c3 : GoodIn wsL_law (wsL_post_r3) := goodIn_r _ [171, 172, 173, 174, 175, 176, 177, 178, 179, 180, 211, 212, 213, 214, 11, 12, 215, 14, 216, 217, 36, 218, 219, 29] (by decide +kernel) (by decide +kernel)
set_option maxRecDepth 20000 in
theorem ggL_law_L_post_c4 : GoodIn wsL_law (wsL_post_r4) := goodIn_r _ [30, 31, 32, 33, 34, 35, 220, 221, 222, 223, 224, 225, 226, 227, 228, 143, 144, 145, 229, 230, 231, 118, 119, 120] (by decide +kernel) (by decide +kernel)
set_option maxRecDepth 20000 in
theorem ggL_law_L_post_c5 : GoodIn wsL_law (wsL_post_r5) := goodIn_r _ [232, 233, 234, 235, 236, 237, 238, 239, 240, 241, 242, 243, 244, 245, 246, 247, 248, 249, 250, 251, 252, 253, 254, 255] (by decide +kernel) (by decide +kernel)
set_option maxRecDepth 20000 in
theorem ggL_law_L_post_c6 : GoodIn wsL_law (wsL_post_r6) := goodIn_r _ [256, 257, 258, 259, 260, 261, 262, 263, 264, 265, 266, 267, 268, 269, 270, 271, 272, 273, 274, 275, 276, 277, 278, 279] (by decide +kernel) (by decide +kernel)
set_option maxRecDepth 20000 in
theorem ggL_law_L_post_c7 : GoodIn wsL_law (wsL_post_r7) := goodIn_r _ [280, 281, 282, 283, 284, 285, 286, 287, 288, 289, 290, 291, 45, 292, 293, 294, 295, 296, 297, 298, 299, 300, 301, 302] (by decide +kernel) (by decide +kernel)
set_option maxRecDepth 20000 in
theorem ggL_law_L_post_c8 : GoodIn wsL_law (wsL_post_r8) := goodIn_r _ [303, 44, 304, 305, 306, 307, 308, 309, 310, 311, 312, 313, 314, 315, 316, 317, 318, 319, 320, 321, 322, 323, 324, 325] (by decide +kernel) (by decide +kernel)
set_option maxRecDepth 20000 in
theorem ggL_law_L_post_c9 : GoodIn wsL_law (wsL_post_r9) := goodIn_r _ [326, 327, 328, 329, 330, 331, 332, 333, 334, 142] (by decide +kernel) (by decide +kernel)
set_option maxRecDepth 20000 in
theorem ggL_law_L_post_c10 : GoodIn wsL_law (wsX60) := goodIn_r _ [790, 791, 792, 793, 794, 795] (by decide +kernel) (by decide +kernel)
set_option maxRecDepth 20000 in
theorem ggL_law_L_post_c11 : GoodIn wsL_law (wsJx4a65c0) := goodIn_r _ [847, 848, 849] (by decide +kernel) (by decide +kernel)
set_option maxRecDepth 20000 in
theorem ggL_law_L_post_c12 : GoodIn wsL_law (wsX10) := goodIn_r _ [850, 851, 852, 853, 854, 855] (by decide +kernel) (by decide +kernel)
set_option maxRecDepth 20000 in
theorem ggL_law_L_post_c13 : GoodIn wsL_law (wsX20) := goodIn_r _ [845, 846] (by decide +kernel) (by decide +kernel)
set_option maxRecDepth 20000 in
theorem ggL_law_L_post_c14 : GoodIn wsL_law (wsX40) := goodIn_r _ [843, 844] (by decide +kernel) (by decide +kernel)
set_option maxRecDepth 20000 in
theorem ggL_law_L_post : GoodIn wsL_law wsL_post := (goodIn_c1 ggL_law_L_post_c0 (goodIn_app (goodIn_app (goodIn_app (goodIn_app (goodIn_app (goodIn_app (goodIn_app ggL_law_L_post_c1 (goodIn_app ggL_law_L_post_c2 (goodIn_app ggL_law_L_post_c3 (goodIn_app ggL_law_L_post_c4 (goodIn_app ggL_law_L_post_c5 (goodIn_app ggL_law_L_post_c6 (goodIn_app ggL_law_L_post_c7 (goodIn_app ggL_law_L_post_c8 ggL_law_L_post_c9)))))))) ggL_law_L_post_c10) ggL_law_L_post_c11) ggL_law_L_post_c12) ggL_law_L_post_c13) ggL_law_L_post_c14) (goodIn_sub (fun _ h => (List.mem_append_left _ (List.mem_append_right _ h))) (by decide +kernel))))
set_option maxRecDepth 20000 in
theorem ggL_law_X7_post_c0 : GoodIn wsL_law ([.code yX7_post cX7_post 1 (some .int)]) := goodIn_r _ [338] (by decide +kernel) (by decide +kernel)
set_option maxRecDepth 20000 in
theorem ggL_law_X7_post_c1 : GoodIn wsL_law (wsX7_post_r1) := goodIn_r _ [339, 340, 341, 342, 5, 343, 185, 186, 187, 188, 125, 60, 189, 190, 191, 126, 127, 128, 344, 345, 346, 347, 348, 349] (by decide +kernel) (by decide +kernel)
set_option maxRecDepth 20000 in
theorem ggL_law_X7_post_c2 : GoodIn wsL_law (wsX7_post_r2) := goodIn_r _ [350, 351, 94, 96, 85, 352, 95, 97, 89, 93, 88, 353, 354, 355, 356, 86, 87, 91, 92, 90, 357, 358, 359, 360] (by decide +kernel) (by decide +kernel)
set_option maxRecDepth 20000 in
theorem ggL_law_X7_post_c3 : GoodIn wsL_law (wsX7_post_r3) := goodIn_r _ [361, 362, 363, 364, 365, 366, 367, 368, 369, 370, 371, 372, 373, 374, 375, 376, 377, 378, 379, 380, 82, 83, 84, 381] (by decide +kernel) (by decide +kernel)
set_option maxRecDepth 20000 in
theorem ggL_law_X7_post_c4 : GoodIn wsL_law (wsX7_post_r4) := goodIn_r _ [382, 383, 384, 129, 130, 131, 132, 133, 385, 386, 387, 388, 62, 63, 64, 65, 66, 67, 68, 69, 70, 71, 389, 390] (by decide +kernel) (by decide +kernel)
set_option maxRecDepth 20000 in
theorem ggL_law_X7_post_c5 : GoodIn wsL_law (wsX7_post_r5) := goodIn_r _ [391, 392, 72] (by decide +kernel) (by decide +kernel)
set_option maxRecDepth 20000 in
theorem ggL_law_X7_post_c6 : GoodIn wsL_law (wsX70) := goodIn_r _ [796, 797, 798, 799, 800, 801, 802, 803, 804, 805, 806, 807, 808, 809, 810, 811, 812, 813, 814, 815, 816, 817, 818, 819, 820, 821, 822, 823, 824, 825, 826, 827, 828, 829, 830, 831, 832, 833, 834, 835, 836, 837, 838, 839, 840, 841, 842] (by decide +kernel) (by decide +kernel)
set_option maxRecDepth 20000 in
theorem ggL_law_X7_post : GoodIn wsL_law wsX7_post := (goodIn_c1 ggL_law_X7_post_c0 (goodIn_app (goodIn_app ggL_law_X7_post_c1 (goodIn_app ggL_law_X7_post_c2 (goodIn_app ggL_law_X7_post_c3 (goodIn_app ggL_law_X7_post_c4 ggL_law_X7_post_c5)))) ggL_law_X7_post_c6))
set_option maxRecDepth 20000 in
theorem ggL_law_L_write_c0 : GoodIn wsL_law ([.codeWith yL_write cL_write 4 (some .int) [(0, 16, 19, 25), (0, 16, 22, 15)]]) := goodIn_r _ [395] (by decide +kernel) (by decide +kernel)
set_option maxRecDepth 20000 in
theorem ggL_law_L_write_c1 : GoodIn wsL_law (wsL_write_r1) := goodIn_r _ [396, 103, 397, 398, 399, 2, 400, 110, 111, 25, 16, 401, 402, 403, 404, 405, 406, 407, 199, 200, 201, 24, 202, 203] (by decide +kernel) (by decide +kernel)
set_option maxRecDepth 20000 in
theorem ggL_law_L_write_c2 : GoodIn wsL_law (wsL_write_r2) := goodIn_r _ [408, 409, 410, 411, 412, 413, 414, 415, 416, 417, 418, 419, 420, 421, 422, 423, 45, 204, 205, 206, 207, 21, 208, 209] (by decide +kernel) (by decide +kernel)
set_option maxRecDepth 20000 in
theorem ggL_law_L_write_c3 : GoodIn wsL_law (wsL_write_r3) := goodIn_r _ [210, 154, 155, 156, 20, 157, 158, 159, 160, 113, 114, 15, 115, 116, 161, 162, 163, 164, 37, 165, 166, 167, 168, 169] (by decide +kernel) (by decide +kernel)
set_option maxRecDepth 20000 in
theorem ggL_law_L_write_c4 : GoodIn wsL_law (wsL_write_r4) := goodIn_r _ [170, 171, 172, 173, 174, 175, 176, 177, 178, 179, 180, 211, 212, 213, 214, 11, 12, 215, 14, 216, 217, 36, 218, 219] (by decide +kernel) (by decide +kernel)
set_option maxRecDepth 20000 in
theorem ggL_law_L_write_c5 : GoodIn wsL_law (wsL_write_r5) := goodIn_r _ [29, 30, 31, 32, 33, 34, 35, 220, 221, 222, 223, 224, 225, 226, 227, 228, 143, 144, 145, 229, 230, 231, 118, 119] (by decide +kernel) (by decide +kernel)
set_option maxRecDepth 20000 in
theorem ggL_law_L_write_c6 : GoodIn wsL_law (wsL_write_r6) := goodIn_r _ [120, 232, 233, 234, 235, 236, 237, 238, 239, 240, 241, 242, 243, 244, 245, 246, 247, 248, 249, 250, 251, 252, 253, 254] (by decide +kernel) (by decide +kernel)
set_option maxRecDepth 20000 in
theorem ggL_law_L_write_c7 : GoodIn wsL_law (wsL_write_r7) := goodIn_r _ [255, 256, 257, 258, 259, 260, 261, 262, 263, 264, 265, 266, 267, 268, 269, 270, 271, 272, 273, 274, 275, 276, 277, 278] (by decide +kernel) (by decide +kernel)
set_option maxRecDepth 20000 in
theorem ggL_law_L_write_c8 : GoodIn wsL_law (wsL_write_r8) := goodIn_r _ [279, 280, 281, 282, 283, 284, 285, 424, 425, 426, 427, 428, 429, 430, 431, 27, 432, 433, 434, 435, 436, 142] (by decide +kernel) (by decide +kernel)
set_option maxRecDepth 20000 in
theorem ggL_law_L_write_c9 : GoodIn wsL_law (wsX10) := goodIn_r _ [850, 851, 852, 853, 854, 855] (by decide +kernel) (by decide +kernel)
set_option maxRecDepth 20000 in
theorem ggL_law_L_write_c10 : GoodIn wsL_law (wsX60) := goodIn_r _ [790, 791, 792, 793, 794, 795] (by decide +kernel) (by decide +kernel)
set_option maxRecDepth 20000 in
theorem ggL_law_L_write_c11 : GoodIn wsL_law (wsJx4a65c0) := goodIn_r _ [847, 848, 849] (by decide +kernel) (by decide +kernel)
set_option maxRecDepth 20000 in
theorem ggL_law_L_write_c12 : GoodIn wsL_law (wsX20) := goodIn_r _ [845, 846] (by decide +kernel) (by decide +kernel)
set_option maxRecDepth 20000 in
theorem ggL_law_L_write_c13 : GoodIn wsL_law (wsX40) := goodIn_r _ [843, 844] (by decide +kernel) (by decide +kernel)
set_option maxRecDepth 20000 in
theorem ggL_law_L_write_c14 : GoodIn wsL_law (wsX00) := goodIn_r _ [856, 857, 858, 859] (by decide +kernel) (by decide +kernel)
set_option maxRecDepth 20000 in
theorem ggL_law_L_write : GoodIn wsL_law wsL_write := (goodIn_c1 ggL_law_L_write_c0 (goodIn_app (goodIn_app (goodIn_app (goodIn_app (goodIn_app (goodIn_app (goodIn_app (goodIn_app (goodIn_app ggL_law_L_write_c1 (goodIn_app ggL_law_L_write_c2 (goodIn_app ggL_law_L_write_c3 (goodIn_app ggL_law_L_write_c4 (goodIn_app ggL_law_L_write_c5 (goodIn_app ggL_law_L_write_c6 (goodIn_app ggL_law_L_write_c7 ggL_law_L_write_c8))))))) ggL_law_L_write_c9) ggL_law_L_write_c10) ggL_law_L_write_c11) ggL_law_L_write_c12) ggL_law_L_write_c13) ggL_law_L_write_c14) (goodIn_sub (fun _ h => (List.mem_append_left _ (List.mem_append_right _ h))) (by decide +kernel))) (goodIn_sub (fun _ h => (List.mem_append_right _ h)) (by decide +kernel))))
set_option maxRecDepth 20000 in
theorem ggL_law_X7_write_c0 : GoodIn wsL_law ([.code yX7_write cX7_write 5 (some .boolean)]) := goodIn_r _ [440] (by decide +kernel) (by decide +kernel)
set_option maxRecDepth 20000 in
theorem ggL_law_X7_write_c1 : GoodIn wsL_law (wsX7_write_r1) := goodIn_r _ [441, 442, 443, 5, 444, 339, 126, 127, 128, 340, 341, 342, 343, 185, 186, 187, 188, 125, 60, 189, 190, 191, 344, 345] (by decide +kernel) (by decide +kernel)
set_option maxRecDepth 20000 in
theorem ggL_law_X7_write_c2 : GoodIn wsL_law (wsX7_write_r2) := goodIn_r _ [346, 347, 348, 349, 350, 351, 94, 96, 85, 352, 95, 97, 89, 93, 88, 353, 354, 355, 356, 86, 87, 91, 92, 90] (by decide +kernel) (by decide +kernel)
set_option maxRecDepth 20000 in
theorem ggL_law_X7_write_c3 : GoodIn wsL_law (wsX7_write_r3) := goodIn_r _ [357, 358, 359, 360, 361, 362, 363, 364, 365, 366, 367, 368, 369, 370, 371, 372, 373, 374, 375, 376, 377, 378, 379, 380] (by decide +kernel) (by decide +kernel)
set_option maxRecDepth 20000 in
theorem ggL_law_X7_write_c4 : GoodIn wsL_law (wsX7_write_r4) := goodIn_r _ [82, 83, 84, 381, 382, 383, 384, 445, 446, 447, 448, 65, 66, 449, 450, 451, 452, 453, 81, 78, 79, 129, 130, 131] (by decide +kernel) (by decide +kernel)
set_option maxRecDepth 20000 in
theorem ggL_law_X7_write_c5 : GoodIn wsL_law (wsX7_write_r5) := goodIn_r _ [132, 133, 385, 386, 387, 388, 62, 63, 64, 67, 68, 69, 70, 71, 389, 390, 391, 392, 72] (by decide +kernel) (by decide +kernel)
set_option maxRecDepth 20000 in
theorem ggL_law_X7_write_c6 : GoodIn wsL_law (wsX70) := goodIn_r _ [796, 797, 798, 799, 800, 801, 802, 803, 804, 805, 806, 807, 808, 809, 810, 811, 812, 813, 814, 815, 816, 817, 818, 819, 820, 821, 822, 823, 824, 825, 826, 827, 828, 829, 830, 831, 832, 833, 834, 835, 836, 837, 838, 839, 840, 841, 842] (by decide +kernel) (by decide +kernel)
set_option maxRecDepth 20000 in
theorem ggL_law_X7_write : GoodIn wsL_law wsX7_write := (goodIn_c1 ggL_law_X7_write_c0 (goodIn_app (goodIn_app ggL_law_X7_write_c1 (goodIn_app ggL_law_X7_write_c2 (goodIn_app ggL_law_X7_write_c3 (goodIn_app ggL_law_X7_write_c4 ggL_law_X7_write_c5)))) ggL_law_X7_write_c6))
set_option maxRecDepth 20000 in
theorem ggL_law_L_strike_c0 : GoodIn wsL_law ([.codeWith yL_strike cL_strike 4 (some .int) [(0, 9, 12, 25), (0, 9, 15, 15)]]) := goodIn_r _ [456] (by decide +kernel) (by decide +kernel)
set_option maxRecDepth 20000 in
theorem ggL_law_L_strike_c1 : GoodIn wsL_law (wsL_strike_r1) := goodIn_r _ [396, 103, 457, 458, 459, 2, 460, 110, 111, 25, 407, 401, 402, 403, 404, 405, 406, 199, 200, 201, 24, 202, 203, 408] (by decide +kernel) (by decide +kernel)
set_option maxRecDepth 20000 in
theorem ggL_law_L_strike_c2 : GoodIn wsL_law (wsL_strike_r2) := goodIn_r _ [409, 410, 411, 412, 413, 414, 415, 416, 417, 418, 419, 420, 421, 422, 423, 45, 428, 429, 430, 431, 27, 432, 461, 462] (by decide +kernel) (by decide +kernel)
set_option maxRecDepth 20000 in
theorem ggL_law_L_strike_c3 : GoodIn wsL_law (wsL_strike_r3) := goodIn_r _ [463, 210, 464, 216, 217, 218, 277, 465, 466, 467, 468, 15, 469, 228, 143, 144, 145, 116, 231, 118, 119, 120, 37] (by decide +kernel) (by decide +kernel)
set_option maxRecDepth 20000 in
theorem ggL_law_L_strike_c4 : GoodIn wsL_law (wsX10) := goodIn_r _ [850, 851, 852, 853, 854, 855] (by decide +kernel) (by decide +kernel)
set_option maxRecDepth 20000 in
theorem ggL_law_L_strike_c5 : GoodIn wsL_law (wsX60) := goodIn_r _ [790, 791, 792, 793, 794, 795] (by decide +kernel) (by decide +kernel)
set_option maxRecDepth 20000 in
theorem ggL_law_L_strike_c6 : GoodIn wsL_law (wsJx4a65c0) := goodIn_r _ [847, 848, 849] (by decide +kernel) (by decide +kernel)
set_option maxRecDepth 20000 in
theorem ggL_law_L_strike_c7 : GoodIn wsL_law (wsX00) := goodIn_r _ [856, 857, 858, 859] (by decide +kernel) (by decide +kernel)
set_option maxRecDepth 20000 in
theorem ggL_law_L_strike_c8 : GoodIn wsL_law (wsX40) := goodIn_r _ [843, 844] (by decide +kernel) (by decide +kernel)
set_option maxRecDepth 20000 in
theorem ggL_law_L_strike : GoodIn wsL_law wsL_strike := (goodIn_c1 ggL_law_L_strike_c0 (goodIn_app (goodIn_app (goodIn_app (goodIn_app (goodIn_app (goodIn_app (goodIn_app (goodIn_app ggL_law_L_strike_c1 (goodIn_app ggL_law_L_strike_c2 ggL_law_L_strike_c3)) ggL_law_L_strike_c4) ggL_law_L_strike_c5) ggL_law_L_strike_c6) ggL_law_L_strike_c7) ggL_law_L_strike_c8) (goodIn_sub (fun _ h => (List.mem_append_left _ (List.mem_append_right _ h))) (by decide +kernel))) (goodIn_sub (fun _ h => (List.mem_append_right _ h)) (by decide +kernel))))
set_option maxRecDepth 20000 in
theorem ggL_law_X7_strike_c0 : GoodIn wsL_law ([.code yX7_strike cX7_strike 5 (some .int)]) := goodIn_r _ [473] (by decide +kernel) (by decide +kernel)
set_option maxRecDepth 20000 in
theorem ggL_law_X7_strike_c1 : GoodIn wsL_law (wsX7_strike_r1) := goodIn_r _ [62, 63, 64, 65, 66, 67, 339, 441, 442, 443, 5, 444, 126, 127, 128, 449, 450, 451, 452, 453, 81, 78, 79, 129] (by decide +kernel) (by decide +kernel)
set_option maxRecDepth 20000 in
theorem ggL_law_X7_strike_c2 : GoodIn wsL_law (wsX7_strike_r2) := goodIn_r _ [130, 131, 132, 133, 389, 390, 391, 392, 72] (by decide +kernel) (by decide +kernel)
set_option maxRecDepth 20000 in
theorem ggL_law_X7_strike_c3 : GoodIn wsL_law (wsX70) := goodIn_r _ [796, 797, 798, 799, 800, 801, 802, 803, 804, 805, 806, 807, 808, 809, 810, 811, 812, 813, 814, 815, 816, 817, 818, 819, 820, 821, 822, 823, 824, 825, 826, 827, 828, 829, 830, 831, 832, 833, 834, 835, 836, 837, 838, 839, 840, 841, 842] (by decide +kernel) (by decide +kernel)
set_option maxRecDepth 20000 in
theorem ggL_law_X7_strike : GoodIn wsL_law wsX7_strike := (goodIn_c1 ggL_law_X7_strike_c0 (goodIn_app (goodIn_app ggL_law_X7_strike_c1 ggL_law_X7_strike_c2) ggL_law_X7_strike_c3))
set_option maxRecDepth 20000 in
theorem ggL_law_L_rule_c0 : GoodIn wsL_law ([.codeWith yL_rule cL_rule 7 (some .int) [(0, 14, 17, 13), (0, 14, 21, 15)]]) := goodIn_r _ [476] (by decide +kernel) (by decide +kernel)
set_option maxRecDepth 20000 in
theorem ggL_law_L_rule_c1 : GoodIn wsL_law (wsL_rule_r1) := goodIn_r _ [102, 103, 477, 478, 479, 2, 480, 110, 111, 26, 481, 482, 483, 484, 485, 486, 108, 109, 487, 488, 489, 490, 491, 492] (by decide +kernel) (by decide +kernel)
set_option maxRecDepth 20000 in
theorem ggL_law_L_rule_c2 : GoodIn wsL_law (wsL_rule_r2) := goodIn_r _ [199, 200, 201, 24, 202, 203, 493, 494, 495, 496, 11, 12, 497, 498, 499, 500, 286, 287, 288, 289, 290, 291, 45, 292] (by decide +kernel) (by decide +kernel)
set_option maxRecDepth 20000 in
theorem ggL_law_L_rule_c3 : GoodIn wsL_law (wsL_rule_r3) := goodIn_r _ [293, 294, 295, 296, 297, 298, 299, 300, 301, 302, 303, 44, 304, 33, 34, 35, 305, 306, 307, 308, 309, 310, 311, 312] (by decide +kernel) (by decide +kernel)
set_option maxRecDepth 20000 in
theorem ggL_law_L_rule_c4 : GoodIn wsL_law (wsL_rule_r4) := goodIn_r _ [313, 314, 315, 316, 317, 318, 319, 320, 321, 322, 323, 324, 325, 326, 327, 328, 329, 330, 331, 332, 333, 334] (by decide +kernel) (by decide +kernel)
set_option maxRecDepth 20000 in
theorem ggL_law_L_rule_c5 : GoodIn wsL_law (wsX60) := goodIn_r _ [790, 791, 792, 793, 794, 795] (by decide +kernel) (by decide +kernel)
set_option maxRecDepth 20000 in
theorem ggL_law_L_rule_c6 : GoodIn wsL_law (wsX30) := goodIn_r _ [860, 861, 862, 863, 864] (by decide +kernel) (by decide +kernel)
set_option maxRecDepth 20000 in
theorem ggL_law_L_rule_c7 : GoodIn wsL_law (wsJx4a65c0) := goodIn_r _ [847, 848, 849] (by decide +kernel) (by decide +kernel)
set_option maxRecDepth 20000 in
theorem ggL_law_L_rule : GoodIn wsL_law wsL_rule := (goodIn_c1 ggL_law_L_rule_c0 (goodIn_app (goodIn_app (goodIn_app (goodIn_app (goodIn_app (goodIn_app ggL_law_L_rule_c1 (goodIn_app ggL_law_L_rule_c2 (goodIn_app ggL_law_L_rule_c3 ggL_law_L_rule_c4))) ggL_law_L_rule_c5) ggL_law_L_rule_c6) ggL_law_L_rule_c7) (goodIn_sub (fun _ h => (List.mem_append_left _ (List.mem_append_right _ h))) (by decide +kernel))) (goodIn_sub (fun _ h => (List.mem_append_left _ (List.mem_append_left _ (List.mem_append_right _ h)))) (by decide +kernel))))
set_option maxRecDepth 20000 in
theorem ggL_law_X7_rule_c0 : GoodIn wsL_law ([.code yX7_rule cX7_rule 6 (some .int)]) := goodIn_r _ [504] (by decide +kernel) (by decide +kernel)
set_option maxRecDepth 20000 in
theorem ggL_law_X7_rule_c1 : GoodIn wsL_law ([.fieldLink RX7 215 "PostlintModel" "rules" "I", .fieldLink RX7 47 "PostlintModel" "ruleKind" "[I", .fieldLink RX7 50 "PostlintModel" "ruleOf" "[I", .fieldLink RX7 53 "PostlintModel" "ruleOther" "[I", .fieldLink RX7 56 "PostlintModel" "ruleNumber" "[I", .fieldLink RX7 59 "PostlintModel" "isBack" "[Z", .methodLink RX7 129 yX7_isIn, .static yX7_isIn, .initialized RX7, .code yX7_isIn cX7_isIn 3 (some .boolean), .methodLink RX7 189 yX7_isOf, .instanceMethod yX7_isOf, .selects RX7 yX7_isOf yX7_isOf, .code yX7_isOf cX7_isOf 2 (some .boolean), .fieldLink RX7 122 "PostlintModel" "thrown" "I"]) := goodIn_r _ [505, 73, 74, 75, 76, 77, 126, 127, 5, 128, 129, 130, 131, 132, 133] (by decide +kernel) (by decide +kernel)
set_option maxRecDepth 20000 in
theorem ggL_law_X7_rule_c2 : GoodIn wsL_law (wsX70) := goodIn_r _ [796, 797, 798, 799, 800, 801, 802, 803, 804, 805, 806, 807, 808, 809, 810, 811, 812, 813, 814, 815, 816, 817, 818, 819, 820, 821, 822, 823, 824, 825, 826, 827, 828, 829, 830, 831, 832, 833, 834, 835, 836, 837, 838, 839, 840, 841, 842] (by decide +kernel) (by decide +kernel)
set_option maxRecDepth 20000 in
theorem ggL_law_X7_rule : GoodIn wsL_law wsX7_rule := (goodIn_c1 ggL_law_X7_rule_c0 (goodIn_app ggL_law_X7_rule_c1 ggL_law_X7_rule_c2))
set_option maxRecDepth 20000 in
theorem ggL_law_L_takeBack_c0 : GoodIn wsL_law ([.codeWith yL_takeBack cL_takeBack 4 (some .int) [(0, 9, 12, 25), (0, 9, 15, 15)]]) := goodIn_r _ [508] (by decide +kernel) (by decide +kernel)
set_option maxRecDepth 20000 in
theorem ggL_law_L_takeBack_c1 : GoodIn wsL_law (wsL_takeBack_r1) := goodIn_r _ [396, 103, 509, 510, 511, 2, 512, 110, 111, 513, 514, 515, 516, 405, 406, 26, 517, 199, 200, 201, 24, 202, 203, 408] (by decide +kernel) (by decide +kernel)
set_option maxRecDepth 20000 in
theorem ggL_law_L_takeBack_c2 : GoodIn wsL_law (wsL_takeBack_r2) := goodIn_r _ [409, 410, 411, 412, 413, 414, 415, 416, 417, 418, 419, 420, 421, 422, 423, 45, 518, 519, 520, 521, 25, 522, 523, 524] (by decide +kernel) (by decide +kernel)
set_option maxRecDepth 20000 in
theorem ggL_law_L_takeBack_c3 : GoodIn wsL_law (wsL_takeBack_r3) := goodIn_r _ [525, 407, 526, 527, 528, 529, 530, 531, 532, 210, 533, 218, 534, 535, 536, 483, 537, 497, 498, 538, 539, 34, 540, 500] (by decide +kernel) (by decide +kernel)
set_option maxRecDepth 20000 in
theorem ggL_law_L_takeBack_c4 : GoodIn wsL_law (wsL_takeBack_r4) := goodIn_r _ [499, 541, 542, 543, 544, 545, 546, 547, 548, 549, 277] (by decide +kernel) (by decide +kernel)
set_option maxRecDepth 20000 in
theorem ggL_law_L_takeBack_c5 : GoodIn wsL_law (wsX30) := goodIn_r _ [860, 861, 862, 863, 864] (by decide +kernel) (by decide +kernel)
set_option maxRecDepth 20000 in
theorem ggL_law_L_takeBack_c6 : GoodIn wsL_law (wsX60) := goodIn_r _ [790, 791, 792, 793, 794, 795] (by decide +kernel) (by decide +kernel)
set_option maxRecDepth 20000 in
theorem ggL_law_L_takeBack_c7 : GoodIn wsL_law (wsJx4a65c0) := goodIn_r _ [847, 848, 849] (by decide +kernel) (by decide +kernel)
set_option maxRecDepth 20000 in
theorem ggL_law_L_takeBack_c8 : GoodIn wsL_law (wsX10) := goodIn_r _ [850, 851, 852, 853, 854, 855] (by decide +kernel) (by decide +kernel)
set_option maxRecDepth 20000 in
theorem ggL_law_L_takeBack : GoodIn wsL_law wsL_takeBack := (goodIn_c1 ggL_law_L_takeBack_c0 (goodIn_app (goodIn_app (goodIn_app (goodIn_app (goodIn_app (goodIn_app (goodIn_app ggL_law_L_takeBack_c1 (goodIn_app ggL_law_L_takeBack_c2 (goodIn_app ggL_law_L_takeBack_c3 ggL_law_L_takeBack_c4))) ggL_law_L_takeBack_c5) ggL_law_L_takeBack_c6) ggL_law_L_takeBack_c7) ggL_law_L_takeBack_c8) (goodIn_sub (fun _ h => (List.mem_append_left _ (List.mem_append_right _ h))) (by decide +kernel))) (goodIn_sub (fun _ h => (List.mem_append_right _ h)) (by decide +kernel))))
set_option maxRecDepth 20000 in
theorem ggL_law_X7_takeBack_c0 : GoodIn wsL_law ([.code yX7_takeBack cX7_takeBack 4 (some .int)]) := goodIn_r _ [553] (by decide +kernel) (by decide +kernel)
set_option maxRecDepth 20000 in
theorem ggL_law_X7_takeBack_c1 : GoodIn wsL_law (wsX7_takeBack_r1) := goodIn_r _ [77, 554, 555, 556, 5, 557, 505, 126, 127, 128, 129, 130, 131, 132, 133, 558, 559, 560, 561, 339, 562, 563, 564, 565] (by decide +kernel) (by decide +kernel)
set_option maxRecDepth 20000 in
theorem ggL_law_X7_takeBack_c2 : GoodIn wsL_law (wsX7_takeBack_r2) := goodIn_r _ [73, 74, 76, 62, 75, 566, 567, 568, 569, 570, 571, 572, 573, 67, 68, 574, 575, 576, 577, 69, 70, 71, 578, 579] (by decide +kernel) (by decide +kernel)
set_option maxRecDepth 20000 in
theorem ggL_law_X7_takeBack_c3 : GoodIn wsL_law (wsX7_takeBack_r3) := goodIn_r _ [580, 581] (by decide +kernel) (by decide +kernel)
set_option maxRecDepth 20000 in
theorem ggL_law_X7_takeBack_c4 : GoodIn wsL_law (wsX70) := goodIn_r _ [796, 797, 798, 799, 800, 801, 802, 803, 804, 805, 806, 807, 808, 809, 810, 811, 812, 813, 814, 815, 816, 817, 818, 819, 820, 821, 822, 823, 824, 825, 826, 827, 828, 829, 830, 831, 832, 833, 834, 835, 836, 837, 838, 839, 840, 841, 842] (by decide +kernel) (by decide +kernel)
set_option maxRecDepth 20000 in
theorem ggL_law_X7_takeBack : GoodIn wsL_law wsX7_takeBack := (goodIn_c1 ggL_law_X7_takeBack_c0 (goodIn_app (goodIn_app ggL_law_X7_takeBack_c1 (goodIn_app ggL_law_X7_takeBack_c2 ggL_law_X7_takeBack_c3)) ggL_law_X7_takeBack_c4))
set_option maxRecDepth 20000 in
theorem ggL_law_L_audit_c0 : GoodIn wsL_law ([.codeWith yL_audit cL_audit 5 (some .int) [(0, 10, 13, 25), (0, 10, 17, 13), (0, 10, 21, 15)]]) := goodIn_r _ [584] (by decide +kernel) (by decide +kernel)
set_option maxRecDepth 20000 in
theorem ggL_law_L_audit_c1 : GoodIn wsL_law (wsL_audit_r1) := goodIn_r _ [396, 102, 103, 585, 586, 587, 2, 588, 108, 109, 110, 111, 27, 589, 590, 591, 592, 593, 594, 595, 405, 406, 25, 199] (by decide +kernel) (by decide +kernel)
set_option maxRecDepth 20000 in
theorem ggL_law_L_audit_c2 : GoodIn wsL_law (wsL_audit_r2) := goodIn_r _ [200, 201, 24, 202, 203, 596, 597, 598, 599, 407, 408, 409, 410, 411, 412, 413, 414, 415, 416, 417, 418, 419, 420, 421] (by decide +kernel) (by decide +kernel)
set_option maxRecDepth 20000 in
theorem ggL_law_L_audit_c3 : GoodIn wsL_law (wsL_audit_r3) := goodIn_r _ [422, 423, 45, 600, 601, 602, 15, 603, 116, 230, 162, 163, 164, 37, 604, 605, 606, 607, 11, 12, 608, 609, 610, 286] (by decide +kernel) (by decide +kernel)
set_option maxRecDepth 20000 in
theorem ggL_law_L_audit_c4 : GoodIn wsL_law (wsL_audit_r4) := goodIn_r _ [287, 288, 289, 290, 291, 292, 293, 294, 295, 296, 297, 298, 299, 300, 301, 302, 303, 44, 304, 33, 34, 35, 305, 306] (by decide +kernel) (by decide +kernel)
set_option maxRecDepth 20000 in
theorem ggL_law_L_audit_c5 : GoodIn wsL_law (wsL_audit_r5) := goodIn_r _ [307, 308, 309, 310, 311, 312, 313, 314, 315, 316, 317, 318, 319, 320, 321, 322, 323, 324, 325, 326, 327, 328, 329, 330] (by decide +kernel) (by decide +kernel)
set_option maxRecDepth 20000 in
theorem ggL_law_L_audit_c6 : GoodIn wsL_law (wsL_audit_r6) := goodIn_r _ [331, 332, 333, 334] (by decide +kernel) (by decide +kernel)
set_option maxRecDepth 20000 in
theorem ggL_law_L_audit_c7 : GoodIn wsL_law (wsX60) := goodIn_r _ [790, 791, 792, 793, 794, 795] (by decide +kernel) (by decide +kernel)
set_option maxRecDepth 20000 in
theorem ggL_law_L_audit_c8 : GoodIn wsL_law (wsX00) := goodIn_r _ [856, 857, 858, 859] (by decide +kernel) (by decide +kernel)
set_option maxRecDepth 20000 in
theorem ggL_law_L_audit_c9 : GoodIn wsL_law (wsJx4a65c0) := goodIn_r _ [847, 848, 849] (by decide +kernel) (by decide +kernel)
set_option maxRecDepth 20000 in
theorem ggL_law_L_audit_c10 : GoodIn wsL_law (wsX10) := goodIn_r _ [850, 851, 852, 853, 854, 855] (by decide +kernel) (by decide +kernel)
set_option maxRecDepth 20000 in
theorem ggL_law_L_audit_c11 : GoodIn wsL_law (wsX40) := goodIn_r _ [843, 844] (by decide +kernel) (by decide +kernel)
set_option maxRecDepth 20000 in
theorem ggL_law_L_audit : GoodIn wsL_law wsL_audit := (goodIn_c1 ggL_law_L_audit_c0 (goodIn_app (goodIn_app (goodIn_app (goodIn_app (goodIn_app (goodIn_app (goodIn_app (goodIn_app (goodIn_app ggL_law_L_audit_c1 (goodIn_app ggL_law_L_audit_c2 (goodIn_app ggL_law_L_audit_c3 (goodIn_app ggL_law_L_audit_c4 (goodIn_app ggL_law_L_audit_c5 ggL_law_L_audit_c6))))) ggL_law_L_audit_c7) ggL_law_L_audit_c8) ggL_law_L_audit_c9) ggL_law_L_audit_c10) ggL_law_L_audit_c11) (goodIn_sub (fun _ h => (List.mem_append_left _ (List.mem_append_left _ (List.mem_append_right _ h)))) (by decide +kernel))) (goodIn_sub (fun _ h => (List.mem_append_left _ (List.mem_append_right _ h))) (by decide +kernel))) (goodIn_sub (fun _ h => (List.mem_append_right _ h)) (by decide +kernel))))
set_option maxRecDepth 20000 in
theorem ggL_law_X7_audit_c0 : GoodIn wsL_law ([.code yX7_audit cX7_audit 3 (some .int)]) := goodIn_r _ [614] (by decide +kernel) (by decide +kernel)
set_option maxRecDepth 20000 in
theorem ggL_law_X7_audit_c1 : GoodIn wsL_law ([.fieldLink RX7 203 "PostlintModel" "audits" "I", .fieldLink RX7 62 "PostlintModel" "auditFrom" "[I", .fieldLink RX7 65 "PostlintModel" "auditTo" "[I", .fieldLink RX7 68 "PostlintModel" "auditProof" "[I", .fieldLink RX7 44 "PostlintModel" "proof" "[I", .fieldLink RX7 71 "PostlintModel" "hasEnded" "[Z", .methodLink RX7 206 yX7_isEntry, .instanceMethod yX7_isEntry, .selects RX7 yX7_isEntry yX7_isEntry, .initialized RX7, .code yX7_isEntry cX7_isEntry 2 (some .boolean), .fieldLink RX7 126 "PostlintModel" "entries" "I", .methodLink RX7 129 yX7_isIn, .static yX7_isIn, .code yX7_isIn cX7_isIn 3 (some .boolean), .methodLink RX7 189 yX7_isOf, .instanceMethod yX7_isOf, .selects RX7 yX7_isOf yX7_isOf, .code yX7_isOf cX7_isOf 2 (some .boolean), .fieldLink RX7 122 "PostlintModel" "thrown" "I"]) := goodIn_r _ [453, 78, 79, 80, 72, 81, 441, 442, 443, 5, 444, 339, 126, 127, 128, 129, 130, 131, 132, 133] (by decide +kernel) (by decide +kernel)
set_option maxRecDepth 20000 in
theorem ggL_law_X7_audit_c2 : GoodIn wsL_law (wsX70) := goodIn_r _ [796, 797, 798, 799, 800, 801, 802, 803, 804, 805, 806, 807, 808, 809, 810, 811, 812, 813, 814, 815, 816, 817, 818, 819, 820, 821, 822, 823, 824, 825, 826, 827, 828, 829, 830, 831, 832, 833, 834, 835, 836, 837, 838, 839, 840, 841, 842] (by decide +kernel) (by decide +kernel)
set_option maxRecDepth 20000 in
theorem ggL_law_X7_audit : GoodIn wsL_law wsX7_audit := (goodIn_c1 ggL_law_X7_audit_c0 (goodIn_app ggL_law_X7_audit_c1 ggL_law_X7_audit_c2))
set_option maxRecDepth 20000 in
theorem ggL_law_L_end_c0 : GoodIn wsL_law ([.codeWith yL_end cL_end 4 (some .int) [(0, 16, 19, 25), (0, 16, 22, 15)]]) := goodIn_r _ [617] (by decide +kernel) (by decide +kernel)
set_option maxRecDepth 20000 in
theorem ggL_law_L_end_c1 : GoodIn wsL_law (wsL_end_r1) := goodIn_r _ [396, 103, 618, 619, 620, 2, 621, 110, 111, 622, 623, 624, 625, 405, 406, 27, 432, 199, 200, 201, 24, 202, 203, 408] (by decide +kernel) (by decide +kernel)
set_option maxRecDepth 20000 in
theorem ggL_law_L_end_c2 : GoodIn wsL_law (wsL_end_r2) := goodIn_r _ [409, 410, 411, 412, 413, 414, 415, 416, 417, 418, 419, 420, 421, 422, 423, 45, 626, 627, 628, 629, 596, 597, 598, 599] (by decide +kernel) (by decide +kernel)
set_option maxRecDepth 20000 in
theorem ggL_law_L_end_c3 : GoodIn wsL_law (wsL_end_r3) := goodIn_r _ [25, 407, 600, 601, 602, 15, 603, 116, 230, 162, 163, 164, 37] (by decide +kernel) (by decide +kernel)
set_option maxRecDepth 20000 in
theorem ggL_law_L_end_c4 : GoodIn wsL_law (wsX00) := goodIn_r _ [856, 857, 858, 859] (by decide +kernel) (by decide +kernel)
set_option maxRecDepth 20000 in
theorem ggL_law_L_end_c5 : GoodIn wsL_law (wsX60) := goodIn_r _ [790, 791, 792, 793, 794, 795] (by decide +kernel) (by decide +kernel)
set_option maxRecDepth 20000 in
theorem ggL_law_L_end_c6 : GoodIn wsL_law (wsJx4a65c0) := goodIn_r _ [847, 848, 849] (by decide +kernel) (by decide +kernel)
set_option maxRecDepth 20000 in
theorem ggL_law_L_end_c7 : GoodIn wsL_law (wsX10) := goodIn_r _ [850, 851, 852, 853, 854, 855] (by decide +kernel) (by decide +kernel)
set_option maxRecDepth 20000 in
theorem ggL_law_L_end_c8 : GoodIn wsL_law (wsX40) := goodIn_r _ [843, 844] (by decide +kernel) (by decide +kernel)
set_option maxRecDepth 20000 in
theorem ggL_law_L_end : GoodIn wsL_law wsL_end := (goodIn_c1 ggL_law_L_end_c0 (goodIn_app (goodIn_app (goodIn_app (goodIn_app (goodIn_app (goodIn_app (goodIn_app (goodIn_app ggL_law_L_end_c1 (goodIn_app ggL_law_L_end_c2 ggL_law_L_end_c3)) ggL_law_L_end_c4) ggL_law_L_end_c5) ggL_law_L_end_c6) ggL_law_L_end_c7) ggL_law_L_end_c8) (goodIn_sub (fun _ h => (List.mem_append_left _ (List.mem_append_right _ h))) (by decide +kernel))) (goodIn_sub (fun _ h => (List.mem_append_right _ h)) (by decide +kernel))))
set_option maxRecDepth 20000 in
theorem ggL_law_X7_end_c0 : GoodIn wsL_law ([.code yX7_end cX7_end 3 (some .boolean)]) := goodIn_r _ [633] (by decide +kernel) (by decide +kernel)
set_option maxRecDepth 20000 in
theorem ggL_law_X7_end_c1 : GoodIn wsL_law ([.fieldLink RX7 71 "PostlintModel" "hasEnded" "[Z", .fieldLink RX7 44 "PostlintModel" "proof" "[I", .fieldLink RX7 65 "PostlintModel" "auditTo" "[I", .fieldLink RX7 68 "PostlintModel" "auditProof" "[I", .methodLink RX7 242 yX7_isAudit, .instanceMethod yX7_isAudit, .selects RX7 yX7_isAudit yX7_isAudit, .initialized RX7, .code yX7_isAudit cX7_isAudit 2 (some .boolean), .fieldLink RX7 203 "PostlintModel" "audits" "I", .methodLink RX7 129 yX7_isIn, .static yX7_isIn, .code yX7_isIn cX7_isIn 3 (some .boolean), .methodLink RX7 189 yX7_isOf, .instanceMethod yX7_isOf, .selects RX7 yX7_isOf yX7_isOf, .code yX7_isOf cX7_isOf 2 (some .boolean), .fieldLink RX7 122 "PostlintModel" "thrown" "I"]) := goodIn_r _ [81, 72, 79, 80, 634, 635, 636, 5, 637, 453, 126, 127, 128, 129, 130, 131, 132, 133] (by decide +kernel) (by decide +kernel)
set_option maxRecDepth 20000 in
theorem ggL_law_X7_end_c2 : GoodIn wsL_law (wsX70) := goodIn_r _ [796, 797, 798, 799, 800, 801, 802, 803, 804, 805, 806, 807, 808, 809, 810, 811, 812, 813, 814, 815, 816, 817, 818, 819, 820, 821, 822, 823, 824, 825, 826, 827, 828, 829, 830, 831, 832, 833, 834, 835, 836, 837, 838, 839, 840, 841, 842] (by decide +kernel) (by decide +kernel)
set_option maxRecDepth 20000 in
theorem ggL_law_X7_end : GoodIn wsL_law wsX7_end := (goodIn_c1 ggL_law_X7_end_c0 (goodIn_app ggL_law_X7_end_c1 ggL_law_X7_end_c2))
set_option maxRecDepth 20000 in
theorem ggL_law_X6_entries_c0 : GoodIn wsL_law ([.code yX6_entries cX6_entries 1 (some .int)]) := goodIn_r _ [641] (by decide +kernel) (by decide +kernel)
set_option maxRecDepth 20000 in
theorem ggL_law_X6_entries_c1 : GoodIn wsL_law ([.fieldLink RX6 31 "Postlint" "ledger" "Ljava/util/ArrayList;", .methodLink RX6 67 yJx4a65c_size_8abf5, .instanceMethod yJx4a65c_size_8abf5, .selects RJx4a65c yJx4a65c_size_8abf5 yJx4a65c_size_8abf5, .initialized RJx4a65c, .code yJx4a65c_size_8abf5 cJx4a65c_size_8abf5 1 (some .int), .fieldLink RJx4a65c 48 "java/util/ArrayList" "size" "I"]) := goodIn_r _ [25, 199, 200, 201, 24, 202, 203] (by decide +kernel) (by decide +kernel)
set_option maxRecDepth 20000 in
theorem ggL_law_X6_entries_c2 : GoodIn wsL_law (wsX60) := goodIn_r _ [790, 791, 792, 793, 794, 795] (by decide +kernel) (by decide +kernel)
set_option maxRecDepth 20000 in
theorem ggL_law_X6_entries_c3 : GoodIn wsL_law (wsJx4a65c0) := goodIn_r _ [847, 848, 849] (by decide +kernel) (by decide +kernel)
set_option maxRecDepth 20000 in
theorem ggL_law_X6_entries : GoodIn wsL_law wsX6_entries := (goodIn_c1 ggL_law_X6_entries_c0 (goodIn_app (goodIn_app ggL_law_X6_entries_c1 ggL_law_X6_entries_c2) ggL_law_X6_entries_c3))
set_option maxRecDepth 20000 in
theorem ggL_law_X7_entries_c0 : GoodIn wsL_law ([.code yX7_entries cX7_entries 1 (some .int)]) := goodIn_r _ [645] (by decide +kernel) (by decide +kernel)
set_option maxRecDepth 20000 in
theorem ggL_law_X7_entries_c1 : GoodIn wsL_law ([.fieldLink RX7 122 "PostlintModel" "thrown" "I", .fieldLink RX7 126 "PostlintModel" "entries" "I"]) := goodIn_r _ [133, 339] (by decide +kernel) (by decide +kernel)
set_option maxRecDepth 20000 in
theorem ggL_law_X7_entries_c2 : GoodIn wsL_law (wsX70) := goodIn_r _ [796, 797, 798, 799, 800, 801, 802, 803, 804, 805, 806, 807, 808, 809, 810, 811, 812, 813, 814, 815, 816, 817, 818, 819, 820, 821, 822, 823, 824, 825, 826, 827, 828, 829, 830, 831, 832, 833, 834, 835, 836, 837, 838, 839, 840, 841, 842] (by decide +kernel) (by decide +kernel)
set_option maxRecDepth 20000 in
theorem ggL_law_X7_entries : GoodIn wsL_law wsX7_entries := (goodIn_c1 ggL_law_X7_entries_c0 (goodIn_app ggL_law_X7_entries_c1 ggL_law_X7_entries_c2))
set_option maxRecDepth 20000 in
theorem ggL_law_L_signAt_c0 : GoodIn wsL_law ([.codeWith yL_signAt cL_signAt 6 (some .int) [(0, 12, 15, 25), (0, 12, 19, 13)]]) := goodIn_r _ [648] (by decide +kernel) (by decide +kernel)
set_option maxRecDepth 20000 in
theorem ggL_law_L_signAt_c1 : GoodIn wsL_law (wsL_signAt_r1) := goodIn_r _ [396, 102, 649, 650, 651, 2, 652, 405, 406, 401, 402, 403, 404, 25, 407, 199, 200, 201, 24, 202, 203, 408, 409, 410] (by decide +kernel) (by decide +kernel)
set_option maxRecDepth 20000 in
theorem ggL_law_L_signAt_c2 : GoodIn wsL_law (wsL_signAt_r2) := goodIn_r _ [411, 412, 413, 414, 415, 416, 417, 418, 419, 420, 421, 422, 423, 45, 653, 654, 655, 108, 109, 656, 657, 658, 659, 17] (by decide +kernel) (by decide +kernel)
set_option maxRecDepth 20000 in
theorem ggL_law_L_signAt_c3 : GoodIn wsL_law (wsL_signAt_r3) := goodIn_r _ [660, 661, 662, 210, 663, 217, 664, 143, 144, 15, 145, 116, 270, 113, 114, 115, 271, 162, 163, 164, 37, 173, 174, 665] (by decide +kernel) (by decide +kernel)
set_option maxRecDepth 20000 in
theorem ggL_law_L_signAt_c4 : GoodIn wsL_law (wsL_signAt_r4) := goodIn_r _ [666, 667, 668, 278, 279, 280, 281, 669, 118, 119, 120, 175, 176, 670] (by decide +kernel) (by decide +kernel)
set_option maxRecDepth 20000 in
theorem ggL_law_L_signAt_c5 : GoodIn wsL_law (wsX60) := goodIn_r _ [790, 791, 792, 793, 794, 795] (by decide +kernel) (by decide +kernel)
set_option maxRecDepth 20000 in
theorem ggL_law_L_signAt_c6 : GoodIn wsL_law (wsJx4a65c0) := goodIn_r _ [847, 848, 849] (by decide +kernel) (by decide +kernel)
set_option maxRecDepth 20000 in
theorem ggL_law_L_signAt_c7 : GoodIn wsL_law (wsX10) := goodIn_r _ [850, 851, 852, 853, 854, 855] (by decide +kernel) (by decide +kernel)
set_option maxRecDepth 20000 in
theorem ggL_law_L_signAt_c8 : GoodIn wsL_law (wsX40) := goodIn_r _ [843, 844] (by decide +kernel) (by decide +kernel)
set_option maxRecDepth 20000 in
theorem ggL_law_L_signAt : GoodIn wsL_law wsL_signAt := (goodIn_c1 ggL_law_L_signAt_c0 (goodIn_app (goodIn_app (goodIn_app (goodIn_app (goodIn_app (goodIn_app (goodIn_app ggL_law_L_signAt_c1 (goodIn_app ggL_law_L_signAt_c2 (goodIn_app ggL_law_L_signAt_c3 ggL_law_L_signAt_c4))) ggL_law_L_signAt_c5) ggL_law_L_signAt_c6) ggL_law_L_signAt_c7) ggL_law_L_signAt_c8) (goodIn_sub (fun _ h => (List.mem_append_right _ h)) (by decide +kernel))) (goodIn_sub (fun _ h => (List.mem_append_left _ (List.mem_append_left _ (List.mem_append_right _ h)))) (by decide +kernel))))
set_option maxRecDepth 20000 in
theorem ggL_law_X7_signAt_c0 : GoodIn wsL_law ([.code yX7_signAt cX7_signAt 4 (some .int)]) := goodIn_r _ [674] (by decide +kernel) (by decide +kernel)
set_option maxRecDepth 20000 in
theorem ggL_law_X7_signAt_c1 : GoodIn wsL_law (wsX7_signAt_r1) := goodIn_r _ [64, 66, 441, 442, 443, 5, 444, 339, 126, 127, 128, 129, 130, 131, 132, 133, 675, 676, 677, 678, 63, 65, 679, 680] (by decide +kernel) (by decide +kernel)
set_option maxRecDepth 20000 in
theorem ggL_law_X7_signAt_c2 : GoodIn wsL_law (wsX7_signAt_r2) := goodIn_r _ [681, 682, 62, 67, 71, 70, 683, 684, 685, 686, 687, 688, 689, 68, 69] (by decide +kernel) (by decide +kernel)
set_option maxRecDepth 20000 in
theorem ggL_law_X7_signAt_c3 : GoodIn wsL_law (wsX70) := goodIn_r _ [796, 797, 798, 799, 800, 801, 802, 803, 804, 805, 806, 807, 808, 809, 810, 811, 812, 813, 814, 815, 816, 817, 818, 819, 820, 821, 822, 823, 824, 825, 826, 827, 828, 829, 830, 831, 832, 833, 834, 835, 836, 837, 838, 839, 840, 841, 842] (by decide +kernel) (by decide +kernel)
set_option maxRecDepth 20000 in
theorem ggL_law_X7_signAt : GoodIn wsL_law wsX7_signAt := (goodIn_c1 ggL_law_X7_signAt_c0 (goodIn_app (goodIn_app ggL_law_X7_signAt_c1 ggL_law_X7_signAt_c2) ggL_law_X7_signAt_c3))
set_option maxRecDepth 20000 in
theorem ggL_law_L_length_c0 : GoodIn wsL_law ([.codeWith yL_length cL_length 5 (some .int) [(0, 10, 13, 25), (0, 10, 17, 13)]]) := goodIn_r _ [692] (by decide +kernel) (by decide +kernel)
set_option maxRecDepth 20000 in
theorem ggL_law_L_length_c1 : GoodIn wsL_law (wsL_length_r1) := goodIn_r _ [396, 102, 693, 694, 695, 2, 696, 401, 402, 403, 404, 405, 406, 25, 407, 199, 200, 201, 24, 202, 203, 408, 409, 410] (by decide +kernel) (by decide +kernel)
set_option maxRecDepth 20000 in
theorem ggL_law_L_length_c2 : GoodIn wsL_law (wsL_length_r2) := goodIn_r _ [411, 412, 413, 414, 415, 416, 417, 418, 419, 420, 421, 422, 423, 45, 653, 654, 655, 108, 109, 656, 657, 658, 659, 17] (by decide +kernel) (by decide +kernel)
set_option maxRecDepth 20000 in
theorem ggL_law_L_length_c3 : GoodIn wsL_law (wsL_length_r3) := goodIn_r _ [660, 661, 662, 210, 663, 217, 664, 143, 144, 15, 145, 116, 270, 113, 114, 115, 271, 162, 163, 164, 37, 173, 174, 665] (by decide +kernel) (by decide +kernel)
set_option maxRecDepth 20000 in
theorem ggL_law_L_length_c4 : GoodIn wsL_law (wsL_length_r4) := goodIn_r _ [666, 667, 668, 278, 279, 280, 281, 669, 118, 119, 120, 175, 176, 112] (by decide +kernel) (by decide +kernel)
set_option maxRecDepth 20000 in
theorem ggL_law_L_length_c5 : GoodIn wsL_law (wsX60) := goodIn_r _ [790, 791, 792, 793, 794, 795] (by decide +kernel) (by decide +kernel)
set_option maxRecDepth 20000 in
theorem ggL_law_L_length_c6 : GoodIn wsL_law (wsJx4a65c0) := goodIn_r _ [847, 848, 849] (by decide +kernel) (by decide +kernel)
set_option maxRecDepth 20000 in
theorem ggL_law_L_length_c7 : GoodIn wsL_law (wsX10) := goodIn_r _ [850, 851, 852, 853, 854, 855] (by decide +kernel) (by decide +kernel)
set_option maxRecDepth 20000 in
theorem ggL_law_L_length_c8 : GoodIn wsL_law (wsX40) := goodIn_r _ [843, 844] (by decide +kernel) (by decide +kernel)
set_option maxRecDepth 20000 in
theorem ggL_law_L_length : GoodIn wsL_law wsL_length := (goodIn_c1 ggL_law_L_length_c0 (goodIn_app (goodIn_app (goodIn_app (goodIn_app (goodIn_app (goodIn_app (goodIn_app ggL_law_L_length_c1 (goodIn_app ggL_law_L_length_c2 (goodIn_app ggL_law_L_length_c3 ggL_law_L_length_c4))) ggL_law_L_length_c5) ggL_law_L_length_c6) ggL_law_L_length_c7) ggL_law_L_length_c8) (goodIn_sub (fun _ h => (List.mem_append_right _ h)) (by decide +kernel))) (goodIn_sub (fun _ h => (List.mem_append_left _ (List.mem_append_left _ (List.mem_append_right _ h)))) (by decide +kernel))))
set_option maxRecDepth 20000 in
theorem ggL_law_X7_length_c0 : GoodIn wsL_law ([.code yX7_length cX7_length 3 (some .int)]) := goodIn_r _ [700] (by decide +kernel) (by decide +kernel)
set_option maxRecDepth 20000 in
theorem ggL_law_X7_length_c1 : GoodIn wsL_law (wsX7_length_r1) := goodIn_r _ [441, 442, 443, 5, 444, 339, 126, 127, 128, 129, 130, 131, 132, 133, 675, 676, 677, 678, 63, 65, 679, 680, 681, 682] (by decide +kernel) (by decide +kernel)
set_option maxRecDepth 20000 in
theorem ggL_law_X7_length_c2 : GoodIn wsL_law (wsX7_length_r2) := goodIn_r _ [62, 67, 71, 70, 683, 684, 685] (by decide +kernel) (by decide +kernel)
set_option maxRecDepth 20000 in
theorem ggL_law_X7_length_c3 : GoodIn wsL_law (wsX70) := goodIn_r _ [796, 797, 798, 799, 800, 801, 802, 803, 804, 805, 806, 807, 808, 809, 810, 811, 812, 813, 814, 815, 816, 817, 818, 819, 820, 821, 822, 823, 824, 825, 826, 827, 828, 829, 830, 831, 832, 833, 834, 835, 836, 837, 838, 839, 840, 841, 842] (by decide +kernel) (by decide +kernel)
set_option maxRecDepth 20000 in
theorem ggL_law_X7_length : GoodIn wsL_law wsX7_length := (goodIn_c1 ggL_law_X7_length_c0 (goodIn_app (goodIn_app ggL_law_X7_length_c1 ggL_law_X7_length_c2) ggL_law_X7_length_c3))
set_option maxRecDepth 20000 in
theorem ggL_law_L_proof_c0 : GoodIn wsL_law ([.codeWith yL_proof cL_proof 4 (some .int) [(0, 9, 12, 25)]]) := goodIn_r _ [703] (by decide +kernel) (by decide +kernel)
set_option maxRecDepth 20000 in
theorem ggL_law_L_proof_c1 : GoodIn wsL_law (wsL_proof_r1) := goodIn_r _ [396, 704, 705, 706, 2, 707, 592, 593, 594, 595, 405, 406, 25, 199, 200, 201, 24, 202, 203, 596, 597, 598, 599, 407] (by decide +kernel) (by decide +kernel)
set_option maxRecDepth 20000 in
theorem ggL_law_L_proof_c2 : GoodIn wsL_law (wsL_proof_r2) := goodIn_r _ [408, 409, 410, 411, 412, 413, 414, 415, 416, 417, 418, 419, 420, 421, 422, 423, 45, 600, 601, 602, 15, 603, 116, 230] (by decide +kernel) (by decide +kernel)
set_option maxRecDepth 20000 in
theorem ggL_law_L_proof_c3 : GoodIn wsL_law (wsL_proof_r3) := goodIn_r _ [162, 163, 164, 37] (by decide +kernel) (by decide +kernel)
set_option maxRecDepth 20000 in
theorem ggL_law_L_proof_c4 : GoodIn wsL_law (wsX60) := goodIn_r _ [790, 791, 792, 793, 794, 795] (by decide +kernel) (by decide +kernel)
set_option maxRecDepth 20000 in
theorem ggL_law_L_proof_c5 : GoodIn wsL_law (wsJx4a65c0) := goodIn_r _ [847, 848, 849] (by decide +kernel) (by decide +kernel)
set_option maxRecDepth 20000 in
theorem ggL_law_L_proof_c6 : GoodIn wsL_law (wsX10) := goodIn_r _ [850, 851, 852, 853, 854, 855] (by decide +kernel) (by decide +kernel)
set_option maxRecDepth 20000 in
theorem ggL_law_L_proof_c7 : GoodIn wsL_law (wsX40) := goodIn_r _ [843, 844] (by decide +kernel) (by decide +kernel)
set_option maxRecDepth 20000 in
theorem ggL_law_L_proof : GoodIn wsL_law wsL_proof := (goodIn_c1 ggL_law_L_proof_c0 (goodIn_app (goodIn_app (goodIn_app (goodIn_app (goodIn_app (goodIn_app ggL_law_L_proof_c1 (goodIn_app ggL_law_L_proof_c2 ggL_law_L_proof_c3)) ggL_law_L_proof_c4) ggL_law_L_proof_c5) ggL_law_L_proof_c6) ggL_law_L_proof_c7) (goodIn_sub (fun _ h => (List.mem_append_right _ h)) (by decide +kernel))))
set_option maxRecDepth 20000 in
theorem ggL_law_X7_proof_c0 : GoodIn wsL_law ([.code yX7_proof cX7_proof 2 (some .int)]) := goodIn_r _ [711] (by decide +kernel) (by decide +kernel)
set_option maxRecDepth 20000 in
theorem ggL_law_X7_proof_c1 : GoodIn wsL_law ([.fieldLink RX7 44 "PostlintModel" "proof" "[I", .methodLink RX7 206 yX7_isEntry, .instanceMethod yX7_isEntry, .selects RX7 yX7_isEntry yX7_isEntry, .initialized RX7, .code yX7_isEntry cX7_isEntry 2 (some .boolean), .fieldLink RX7 126 "PostlintModel" "entries" "I", .methodLink RX7 129 yX7_isIn, .static yX7_isIn, .code yX7_isIn cX7_isIn 3 (some .boolean), .methodLink RX7 189 yX7_isOf, .instanceMethod yX7_isOf, .selects RX7 yX7_isOf yX7_isOf, .code yX7_isOf cX7_isOf 2 (some .boolean), .fieldLink RX7 122 "PostlintModel" "thrown" "I"]) := goodIn_r _ [72, 441, 442, 443, 5, 444, 339, 126, 127, 128, 129, 130, 131, 132, 133] (by decide +kernel) (by decide +kernel)
set_option maxRecDepth 20000 in
theorem ggL_law_X7_proof_c2 : GoodIn wsL_law (wsX70) := goodIn_r _ [796, 797, 798, 799, 800, 801, 802, 803, 804, 805, 806, 807, 808, 809, 810, 811, 812, 813, 814, 815, 816, 817, 818, 819, 820, 821, 822, 823, 824, 825, 826, 827, 828, 829, 830, 831, 832, 833, 834, 835, 836, 837, 838, 839, 840, 841, 842] (by decide +kernel) (by decide +kernel)
set_option maxRecDepth 20000 in
theorem ggL_law_X7_proof : GoodIn wsL_law wsX7_proof := (goodIn_c1 ggL_law_X7_proof_c0 (goodIn_app ggL_law_X7_proof_c1 ggL_law_X7_proof_c2))
set_option maxRecDepth 20000 in
theorem ggL_law_L_proofAnew_c0 : GoodIn wsL_law ([.codeWith yL_proofAnew cL_proofAnew 4 (some .int) [(0, 9, 12, 25)]]) := goodIn_r _ [714] (by decide +kernel) (by decide +kernel)
set_option maxRecDepth 20000 in
theorem ggL_law_L_proofAnew_c1 : GoodIn wsL_law (wsL_proofAnew_r1) := goodIn_r _ [396, 715, 716, 717, 2, 718, 592, 593, 594, 595, 405, 406, 25, 199, 200, 201, 24, 202, 203, 596, 597, 598, 599, 407] (by decide +kernel) (by decide +kernel)
set_option maxRecDepth 20000 in
theorem ggL_law_L_proofAnew_c2 : GoodIn wsL_law (wsL_proofAnew_r2) := goodIn_r _ [408, 409, 410, 411, 412, 413, 414, 415, 416, 417, 418, 419, 420, 421, 422, 423, 45, 600, 601, 602, 15, 603, 116, 230] (by decide +kernel) (by decide +kernel)
set_option maxRecDepth 20000 in
theorem ggL_law_L_proofAnew_c3 : GoodIn wsL_law (wsL_proofAnew_r3) := goodIn_r _ [162, 163, 164, 37] (by decide +kernel) (by decide +kernel)
set_option maxRecDepth 20000 in
theorem ggL_law_L_proofAnew_c4 : GoodIn wsL_law (wsX60) := goodIn_r _ [790, 791, 792, 793, 794, 795] (by decide +kernel) (by decide +kernel)
set_option maxRecDepth 20000 in
theorem ggL_law_L_proofAnew_c5 : GoodIn wsL_law (wsJx4a65c0) := goodIn_r _ [847, 848, 849] (by decide +kernel) (by decide +kernel)
set_option maxRecDepth 20000 in
theorem ggL_law_L_proofAnew_c6 : GoodIn wsL_law (wsX10) := goodIn_r _ [850, 851, 852, 853, 854, 855] (by decide +kernel) (by decide +kernel)
set_option maxRecDepth 20000 in
theorem ggL_law_L_proofAnew_c7 : GoodIn wsL_law (wsX40) := goodIn_r _ [843, 844] (by decide +kernel) (by decide +kernel)
set_option maxRecDepth 20000 in
theorem ggL_law_L_proofAnew : GoodIn wsL_law wsL_proofAnew := (goodIn_c1 ggL_law_L_proofAnew_c0 (goodIn_app (goodIn_app (goodIn_app (goodIn_app (goodIn_app (goodIn_app ggL_law_L_proofAnew_c1 (goodIn_app ggL_law_L_proofAnew_c2 ggL_law_L_proofAnew_c3)) ggL_law_L_proofAnew_c4) ggL_law_L_proofAnew_c5) ggL_law_L_proofAnew_c6) ggL_law_L_proofAnew_c7) (goodIn_sub (fun _ h => (List.mem_append_right _ h)) (by decide +kernel))))
set_option maxRecDepth 20000 in
theorem ggL_law_X7_proofAnew_c0 : GoodIn wsL_law ([.code yX7_proofAnew cX7_proofAnew 2 (some .int)]) := goodIn_r _ [722] (by decide +kernel) (by decide +kernel)
set_option maxRecDepth 20000 in
theorem ggL_law_X7_proofAnew_c1 : GoodIn wsL_law ([.methodLink RX7 257 yX7_proof, .instanceMethod yX7_proof, .selects RX7 yX7_proof yX7_proof, .initialized RX7, .code yX7_proof cX7_proof 2 (some .int), .fieldLink RX7 44 "PostlintModel" "proof" "[I", .methodLink RX7 206 yX7_isEntry, .instanceMethod yX7_isEntry, .selects RX7 yX7_isEntry yX7_isEntry, .code yX7_isEntry cX7_isEntry 2 (some .boolean), .fieldLink RX7 126 "PostlintModel" "entries" "I", .methodLink RX7 129 yX7_isIn, .static yX7_isIn, .code yX7_isIn cX7_isIn 3 (some .boolean), .methodLink RX7 189 yX7_isOf, .instanceMethod yX7_isOf, .selects RX7 yX7_isOf yX7_isOf, .code yX7_isOf cX7_isOf 2 (some .boolean), .fieldLink RX7 122 "PostlintModel" "thrown" "I"]) := goodIn_r _ [723, 709, 710, 5, 711, 72, 441, 442, 443, 444, 339, 126, 127, 128, 129, 130, 131, 132, 133] (by decide +kernel) (by decide +kernel)
set_option maxRecDepth 20000 in
theorem ggL_law_X7_proofAnew_c2 : GoodIn wsL_law (wsX70) := goodIn_r _ [796, 797, 798, 799, 800, 801, 802, 803, 804, 805, 806, 807, 808, 809, 810, 811, 812, 813, 814, 815, 816, 817, 818, 819, 820, 821, 822, 823, 824, 825, 826, 827, 828, 829, 830, 831, 832, 833, 834, 835, 836, 837, 838, 839, 840, 841, 842] (by decide +kernel) (by decide +kernel)
set_option maxRecDepth 20000 in
theorem ggL_law_X7_proofAnew : GoodIn wsL_law wsX7_proofAnew := (goodIn_c1 ggL_law_X7_proofAnew_c0 (goodIn_app ggL_law_X7_proofAnew_c1 ggL_law_X7_proofAnew_c2))
set_option maxRecDepth 20000 in
theorem ggL_law_L_gets_c0 : GoodIn wsL_law ([.codeWith yL_gets cL_gets 5 (some .int) [(0, 10, 13, 25), (0, 10, 17, 13)]]) := goodIn_r _ [726] (by decide +kernel) (by decide +kernel)
set_option maxRecDepth 20000 in
theorem ggL_law_L_gets_c1 : GoodIn wsL_law (wsL_gets_r1) := goodIn_r _ [396, 102, 727, 728, 729, 2, 730, 401, 402, 403, 404, 405, 406, 25, 407, 199, 200, 201, 24, 202, 203, 408, 409, 410] (by decide +kernel) (by decide +kernel)
set_option maxRecDepth 20000 in
theorem ggL_law_L_gets_c2 : GoodIn wsL_law (wsL_gets_r2) := goodIn_r _ [411, 412, 413, 414, 415, 416, 417, 418, 419, 420, 421, 422, 423, 45, 487, 488, 489, 108, 109, 530, 531, 532, 210, 533] (by decide +kernel) (by decide +kernel)
set_option maxRecDepth 20000 in
theorem ggL_law_L_gets_c3 : GoodIn wsL_law (wsL_gets_r3) := goodIn_r _ [218] (by decide +kernel) (by decide +kernel)
set_option maxRecDepth 20000 in
theorem ggL_law_L_gets_c4 : GoodIn wsL_law (wsX60) := goodIn_r _ [790, 791, 792, 793, 794, 795] (by decide +kernel) (by decide +kernel)
set_option maxRecDepth 20000 in
theorem ggL_law_L_gets_c5 : GoodIn wsL_law (wsJx4a65c0) := goodIn_r _ [847, 848, 849] (by decide +kernel) (by decide +kernel)
set_option maxRecDepth 20000 in
theorem ggL_law_L_gets_c6 : GoodIn wsL_law (wsX10) := goodIn_r _ [850, 851, 852, 853, 854, 855] (by decide +kernel) (by decide +kernel)
set_option maxRecDepth 20000 in
theorem ggL_law_L_gets : GoodIn wsL_law wsL_gets := (goodIn_c1 ggL_law_L_gets_c0 (goodIn_app (goodIn_app (goodIn_app (goodIn_app (goodIn_app (goodIn_app ggL_law_L_gets_c1 (goodIn_app ggL_law_L_gets_c2 ggL_law_L_gets_c3)) ggL_law_L_gets_c4) ggL_law_L_gets_c5) ggL_law_L_gets_c6) (goodIn_sub (fun _ h => (List.mem_append_right _ h)) (by decide +kernel))) (goodIn_sub (fun _ h => (List.mem_append_left _ (List.mem_append_left _ (List.mem_append_right _ h)))) (by decide +kernel))))
set_option maxRecDepth 20000 in
theorem ggL_law_X7_gets_c0 : GoodIn wsL_law ([.code yX7_gets cX7_gets 3 (some .int)]) := goodIn_r _ [734] (by decide +kernel) (by decide +kernel)
set_option maxRecDepth 20000 in
theorem ggL_law_X7_gets_c1 : GoodIn wsL_law (wsX7_gets_r1) := goodIn_r _ [441, 442, 443, 5, 444, 339, 126, 127, 128, 129, 130, 131, 132, 133, 570, 571, 572, 573, 67, 68, 574, 575, 576, 577] (by decide +kernel) (by decide +kernel)
set_option maxRecDepth 20000 in
theorem ggL_law_X7_gets_c2 : GoodIn wsL_law (wsX7_gets_r2) := goodIn_r _ [69, 70, 71] (by decide +kernel) (by decide +kernel)
set_option maxRecDepth 20000 in
theorem ggL_law_X7_gets_c3 : GoodIn wsL_law (wsX70) := goodIn_r _ [796, 797, 798, 799, 800, 801, 802, 803, 804, 805, 806, 807, 808, 809, 810, 811, 812, 813, 814, 815, 816, 817, 818, 819, 820, 821, 822, 823, 824, 825, 826, 827, 828, 829, 830, 831, 832, 833, 834, 835, 836, 837, 838, 839, 840, 841, 842] (by decide +kernel) (by decide +kernel)
set_option maxRecDepth 20000 in
theorem ggL_law_X7_gets : GoodIn wsL_law wsX7_gets := (goodIn_c1 ggL_law_X7_gets_c0 (goodIn_app (goodIn_app ggL_law_X7_gets_c1 ggL_law_X7_gets_c2) ggL_law_X7_gets_c3))
set_option maxRecDepth 20000 in
theorem ggL_law_L_sum_c0 : GoodIn wsL_law ([.codeWith yL_sum cL_sum 5 (some .int) [(0, 10, 13, 25), (0, 10, 17, 13)]]) := goodIn_r _ [737] (by decide +kernel) (by decide +kernel)
set_option maxRecDepth 20000 in
theorem ggL_law_L_sum_c1 : GoodIn wsL_law (wsL_sum_r1) := goodIn_r _ [396, 102, 738, 739, 740, 2, 741, 592, 593, 594, 595, 405, 406, 25, 199, 200, 201, 24, 202, 203, 487, 488, 489, 108] (by decide +kernel) (by decide +kernel)
set_option maxRecDepth 20000 in
theorem ggL_law_L_sum_c2 : GoodIn wsL_law (wsL_sum_r2) := goodIn_r _ [109, 526, 527, 528, 529, 407, 408, 409, 410, 411, 412, 413, 414, 415, 416, 417, 418, 419, 420, 421, 422, 423, 45, 530] (by decide +kernel) (by decide +kernel)
set_option maxRecDepth 20000 in
theorem ggL_law_L_sum_c3 : GoodIn wsL_law (wsL_sum_r3) := goodIn_r _ [531, 532, 210, 533, 218] (by decide +kernel) (by decide +kernel)
set_option maxRecDepth 20000 in
theorem ggL_law_L_sum_c4 : GoodIn wsL_law (wsX60) := goodIn_r _ [790, 791, 792, 793, 794, 795] (by decide +kernel) (by decide +kernel)
set_option maxRecDepth 20000 in
theorem ggL_law_L_sum_c5 : GoodIn wsL_law (wsJx4a65c0) := goodIn_r _ [847, 848, 849] (by decide +kernel) (by decide +kernel)
set_option maxRecDepth 20000 in
theorem ggL_law_L_sum_c6 : GoodIn wsL_law (wsX10) := goodIn_r _ [850, 851, 852, 853, 854, 855] (by decide +kernel) (by decide +kernel)
set_option maxRecDepth 20000 in
theorem ggL_law_L_sum : GoodIn wsL_law wsL_sum := (goodIn_c1 ggL_law_L_sum_c0 (goodIn_app (goodIn_app (goodIn_app (goodIn_app (goodIn_app (goodIn_app ggL_law_L_sum_c1 (goodIn_app ggL_law_L_sum_c2 ggL_law_L_sum_c3)) ggL_law_L_sum_c4) ggL_law_L_sum_c5) ggL_law_L_sum_c6) (goodIn_sub (fun _ h => (List.mem_append_right _ h)) (by decide +kernel))) (goodIn_sub (fun _ h => (List.mem_append_left _ (List.mem_append_left _ (List.mem_append_right _ h)))) (by decide +kernel))))
set_option maxRecDepth 20000 in
theorem ggL_law_X7_sum_c0 : GoodIn wsL_law ([.code yX7_sum cX7_sum 3 (some .int)]) := goodIn_r _ [745] (by decide +kernel) (by decide +kernel)
set_option maxRecDepth 20000 in
theorem ggL_law_X7_sum_c1 : GoodIn wsL_law (wsX7_sum_r1) := goodIn_r _ [441, 442, 443, 5, 444, 339, 126, 127, 128, 129, 130, 131, 132, 133, 566, 567, 568, 569, 570, 571, 572, 573, 67, 68] (by decide +kernel) (by decide +kernel)
set_option maxRecDepth 20000 in
theorem ggL_law_X7_sum_c2 : GoodIn wsL_law (wsX7_sum_r2) := goodIn_r _ [574, 575, 576, 577, 69, 70, 71] (by decide +kernel) (by decide +kernel)
set_option maxRecDepth 20000 in
theorem ggL_law_X7_sum_c3 : GoodIn wsL_law (wsX70) := goodIn_r _ [796, 797, 798, 799, 800, 801, 802, 803, 804, 805, 806, 807, 808, 809, 810, 811, 812, 813, 814, 815, 816, 817, 818, 819, 820, 821, 822, 823, 824, 825, 826, 827, 828, 829, 830, 831, 832, 833, 834, 835, 836, 837, 838, 839, 840, 841, 842] (by decide +kernel) (by decide +kernel)
set_option maxRecDepth 20000 in
theorem ggL_law_X7_sum : GoodIn wsL_law wsX7_sum := (goodIn_c1 ggL_law_X7_sum_c0 (goodIn_app (goodIn_app ggL_law_X7_sum_c1 ggL_law_X7_sum_c2) ggL_law_X7_sum_c3))
set_option maxRecDepth 20000 in
theorem ggL_law_L_doubts_c0 : GoodIn wsL_law ([.codeWith yL_doubts cL_doubts 4 (some .int) [(0, 9, 12, 25)]]) := goodIn_r _ [748] (by decide +kernel) (by decide +kernel)
set_option maxRecDepth 20000 in
theorem ggL_law_L_doubts_c1 : GoodIn wsL_law (wsL_doubts_r1) := goodIn_r _ [396, 749, 750, 751, 2, 752, 26, 517, 592, 593, 594, 595, 405, 406, 25, 199, 200, 201, 24, 202, 203, 408, 409, 410] (by decide +kernel) (by decide +kernel)
set_option maxRecDepth 20000 in
theorem ggL_law_L_doubts_c2 : GoodIn wsL_law (wsL_doubts_r2) := goodIn_r _ [411, 412, 413, 414, 415, 416, 417, 418, 419, 420, 421, 422, 423, 45, 522, 523, 524, 525, 407, 526, 527, 528, 529, 530] (by decide +kernel) (by decide +kernel)
set_option maxRecDepth 20000 in
theorem ggL_law_L_doubts_c3 : GoodIn wsL_law (wsL_doubts_r3) := goodIn_r _ [531, 532, 210, 533, 218, 534, 535, 536, 483, 537, 497, 498, 538, 539, 34, 540, 500, 499, 541, 542, 543, 544, 545, 546] (by decide +kernel) (by decide +kernel)
set_option maxRecDepth 20000 in
theorem ggL_law_L_doubts_c4 : GoodIn wsL_law (wsL_doubts_r4) := goodIn_r _ [547, 548, 549, 277] (by decide +kernel) (by decide +kernel)
set_option maxRecDepth 20000 in
theorem ggL_law_L_doubts_c5 : GoodIn wsL_law (wsX60) := goodIn_r _ [790, 791, 792, 793, 794, 795] (by decide +kernel) (by decide +kernel)
set_option maxRecDepth 20000 in
theorem ggL_law_L_doubts_c6 : GoodIn wsL_law (wsJx4a65c0) := goodIn_r _ [847, 848, 849] (by decide +kernel) (by decide +kernel)
set_option maxRecDepth 20000 in
theorem ggL_law_L_doubts_c7 : GoodIn wsL_law (wsX30) := goodIn_r _ [860, 861, 862, 863, 864] (by decide +kernel) (by decide +kernel)
set_option maxRecDepth 20000 in
theorem ggL_law_L_doubts_c8 : GoodIn wsL_law (wsX10) := goodIn_r _ [850, 851, 852, 853, 854, 855] (by decide +kernel) (by decide +kernel)
set_option maxRecDepth 20000 in
theorem ggL_law_L_doubts : GoodIn wsL_law wsL_doubts := (goodIn_c1 ggL_law_L_doubts_c0 (goodIn_app (goodIn_app (goodIn_app (goodIn_app (goodIn_app (goodIn_app ggL_law_L_doubts_c1 (goodIn_app ggL_law_L_doubts_c2 (goodIn_app ggL_law_L_doubts_c3 ggL_law_L_doubts_c4))) ggL_law_L_doubts_c5) ggL_law_L_doubts_c6) ggL_law_L_doubts_c7) ggL_law_L_doubts_c8) (goodIn_sub (fun _ h => (List.mem_append_right _ h)) (by decide +kernel))))
set_option maxRecDepth 20000 in
theorem ggL_law_X7_doubts_c0 : GoodIn wsL_law ([.code yX7_doubts cX7_doubts 4 (some .int)]) := goodIn_r _ [756] (by decide +kernel) (by decide +kernel)
set_option maxRecDepth 20000 in
theorem ggL_law_X7_doubts_c1 : GoodIn wsL_law (wsX7_doubts_r1) := goodIn_r _ [505, 441, 442, 443, 5, 444, 339, 126, 127, 128, 129, 130, 131, 132, 133, 562, 563, 564, 565, 77, 73, 74, 76, 62] (by decide +kernel) (by decide +kernel)
set_option maxRecDepth 20000 in
theorem ggL_law_X7_doubts_c2 : GoodIn wsL_law (wsX7_doubts_r2) := goodIn_r _ [75, 566, 567, 568, 569, 570, 571, 572, 573, 67, 68, 574, 575, 576, 577, 69, 70, 71, 578, 579, 580, 581] (by decide +kernel) (by decide +kernel)
set_option maxRecDepth 20000 in
theorem ggL_law_X7_doubts_c3 : GoodIn wsL_law (wsX70) := goodIn_r _ [796, 797, 798, 799, 800, 801, 802, 803, 804, 805, 806, 807, 808, 809, 810, 811, 812, 813, 814, 815, 816, 817, 818, 819, 820, 821, 822, 823, 824, 825, 826, 827, 828, 829, 830, 831, 832, 833, 834, 835, 836, 837, 838, 839, 840, 841, 842] (by decide +kernel) (by decide +kernel)
set_option maxRecDepth 20000 in
theorem ggL_law_X7_doubts : GoodIn wsL_law wsX7_doubts := (goodIn_c1 ggL_law_X7_doubts_c0 (goodIn_app (goodIn_app ggL_law_X7_doubts_c1 ggL_law_X7_doubts_c2) ggL_law_X7_doubts_c3))
set_option maxRecDepth 20000 in
theorem ggL_law_L_doubted_c0 : GoodIn wsL_law ([.codeWith yL_doubted cL_doubted 4 (some .int) [(0, 9, 12, 25)]]) := goodIn_r _ [759] (by decide +kernel) (by decide +kernel)
set_option maxRecDepth 20000 in
theorem ggL_law_L_doubted_c1 : GoodIn wsL_law (wsL_doubted_r1) := goodIn_r _ [396, 760, 761, 762, 2, 763, 513, 514, 515, 516, 405, 406, 26, 517, 199, 200, 201, 24, 202, 203, 408, 409, 410, 411] (by decide +kernel) (by decide +kernel)
set_option maxRecDepth 20000 in
theorem ggL_law_L_doubted_c2 : GoodIn wsL_law (wsL_doubted_r2) := goodIn_r _ [412, 413, 414, 415, 416, 417, 418, 419, 420, 421, 422, 423, 45, 518, 519, 520, 521, 25, 522, 523, 524, 525, 407, 526] (by decide +kernel) (by decide +kernel)
set_option maxRecDepth 20000 in
theorem ggL_law_L_doubted_c3 : GoodIn wsL_law (wsL_doubted_r3) := goodIn_r _ [527, 528, 529, 530, 531, 532, 210, 533, 218, 534, 535, 536, 483, 537, 497, 498, 538, 539, 34, 540, 500, 499, 541, 542] (by decide +kernel) (by decide +kernel)
set_option maxRecDepth 20000 in
theorem ggL_law_L_doubted_c4 : GoodIn wsL_law (wsL_doubted_r4) := goodIn_r _ [543, 544, 545, 546, 547, 548, 549, 277] (by decide +kernel) (by decide +kernel)
set_option maxRecDepth 20000 in
theorem ggL_law_L_doubted_c5 : GoodIn wsL_law (wsX60) := goodIn_r _ [790, 791, 792, 793, 794, 795] (by decide +kernel) (by decide +kernel)
set_option maxRecDepth 20000 in
theorem ggL_law_L_doubted_c6 : GoodIn wsL_law (wsJx4a65c0) := goodIn_r _ [847, 848, 849] (by decide +kernel) (by decide +kernel)
set_option maxRecDepth 20000 in
theorem ggL_law_L_doubted_c7 : GoodIn wsL_law (wsX30) := goodIn_r _ [860, 861, 862, 863, 864] (by decide +kernel) (by decide +kernel)
set_option maxRecDepth 20000 in
theorem ggL_law_L_doubted_c8 : GoodIn wsL_law (wsX10) := goodIn_r _ [850, 851, 852, 853, 854, 855] (by decide +kernel) (by decide +kernel)
set_option maxRecDepth 20000 in
theorem ggL_law_L_doubted : GoodIn wsL_law wsL_doubted := (goodIn_c1 ggL_law_L_doubted_c0 (goodIn_app (goodIn_app (goodIn_app (goodIn_app (goodIn_app (goodIn_app ggL_law_L_doubted_c1 (goodIn_app ggL_law_L_doubted_c2 (goodIn_app ggL_law_L_doubted_c3 ggL_law_L_doubted_c4))) ggL_law_L_doubted_c5) ggL_law_L_doubted_c6) ggL_law_L_doubted_c7) ggL_law_L_doubted_c8) (goodIn_sub (fun _ h => (List.mem_append_right _ h)) (by decide +kernel))))
set_option maxRecDepth 20000 in
theorem ggL_law_X7_doubted_c0 : GoodIn wsL_law ([.code yX7_doubted cX7_doubted 2 (some .int)]) := goodIn_r _ [767] (by decide +kernel) (by decide +kernel)
set_option maxRecDepth 20000 in
theorem ggL_law_X7_doubted_c1 : GoodIn wsL_law (wsX7_doubted_r1) := goodIn_r _ [554, 555, 556, 5, 557, 505, 126, 127, 128, 129, 130, 131, 132, 133, 558, 559, 560, 561, 339, 562, 563, 564, 565, 77] (by decide +kernel) (by decide +kernel)
set_option maxRecDepth 20000 in
theorem ggL_law_X7_doubted_c2 : GoodIn wsL_law (wsX7_doubted_r2) := goodIn_r _ [73, 74, 76, 62, 75, 566, 567, 568, 569, 570, 571, 572, 573, 67, 68, 574, 575, 576, 577, 69, 70, 71, 578, 579] (by decide +kernel) (by decide +kernel)
set_option maxRecDepth 20000 in
theorem ggL_law_X7_doubted_c3 : GoodIn wsL_law (wsX7_doubted_r3) := goodIn_r _ [580, 581] (by decide +kernel) (by decide +kernel)
set_option maxRecDepth 20000 in
theorem ggL_law_X7_doubted_c4 : GoodIn wsL_law (wsX70) := goodIn_r _ [796, 797, 798, 799, 800, 801, 802, 803, 804, 805, 806, 807, 808, 809, 810, 811, 812, 813, 814, 815, 816, 817, 818, 819, 820, 821, 822, 823, 824, 825, 826, 827, 828, 829, 830, 831, 832, 833, 834, 835, 836, 837, 838, 839, 840, 841, 842] (by decide +kernel) (by decide +kernel)
set_option maxRecDepth 20000 in
theorem ggL_law_X7_doubted : GoodIn wsL_law wsX7_doubted := (goodIn_c1 ggL_law_X7_doubted_c0 (goodIn_app (goodIn_app ggL_law_X7_doubted_c1 (goodIn_app ggL_law_X7_doubted_c2 ggL_law_X7_doubted_c3)) ggL_law_X7_doubted_c4))
set_option maxRecDepth 20000 in
theorem ggL_law_L_isFrozen_c0 : GoodIn wsL_law ([.codeWith yL_isFrozen cL_isFrozen 4 (some .int) [(0, 16, 19, 25)]]) := goodIn_r _ [770] (by decide +kernel) (by decide +kernel)
set_option maxRecDepth 20000 in
theorem ggL_law_L_isFrozen_c1 : GoodIn wsL_law (wsL_isFrozen_r1) := goodIn_r _ [396, 771, 772, 773, 2, 774, 592, 593, 594, 595, 405, 406, 25, 199, 200, 201, 24, 202, 203, 428, 429, 430, 431, 27] (by decide +kernel) (by decide +kernel)
set_option maxRecDepth 20000 in
theorem ggL_law_L_isFrozen_c2 : GoodIn wsL_law (wsL_isFrozen_r2) := goodIn_r _ [432, 408, 409, 410, 411, 412, 413, 414, 415, 416, 417, 418, 419, 420, 421, 422, 423, 45] (by decide +kernel) (by decide +kernel)
set_option maxRecDepth 20000 in
theorem ggL_law_L_isFrozen_c3 : GoodIn wsL_law (wsX60) := goodIn_r _ [790, 791, 792, 793, 794, 795] (by decide +kernel) (by decide +kernel)
set_option maxRecDepth 20000 in
theorem ggL_law_L_isFrozen_c4 : GoodIn wsL_law (wsJx4a65c0) := goodIn_r _ [847, 848, 849] (by decide +kernel) (by decide +kernel)
set_option maxRecDepth 20000 in
theorem ggL_law_L_isFrozen_c5 : GoodIn wsL_law (wsX00) := goodIn_r _ [856, 857, 858, 859] (by decide +kernel) (by decide +kernel)
set_option maxRecDepth 20000 in
theorem ggL_law_L_isFrozen : GoodIn wsL_law wsL_isFrozen := (goodIn_c1 ggL_law_L_isFrozen_c0 (goodIn_app (goodIn_app (goodIn_app (goodIn_app (goodIn_app ggL_law_L_isFrozen_c1 ggL_law_L_isFrozen_c2) ggL_law_L_isFrozen_c3) ggL_law_L_isFrozen_c4) ggL_law_L_isFrozen_c5) (goodIn_sub (fun _ h => (List.mem_append_right _ h)) (by decide +kernel))))
set_option maxRecDepth 20000 in
theorem ggL_law_X7_isFrozen_c0 : GoodIn wsL_law ([.code yX7_isFrozen cX7_isFrozen 2 (some .boolean)]) := goodIn_r _ [778] (by decide +kernel) (by decide +kernel)
set_option maxRecDepth 20000 in
theorem ggL_law_X7_isFrozen_c1 : GoodIn wsL_law ([.methodLink RX7 206 yX7_isEntry, .instanceMethod yX7_isEntry, .selects RX7 yX7_isEntry yX7_isEntry, .initialized RX7, .code yX7_isEntry cX7_isEntry 2 (some .boolean), .fieldLink RX7 126 "PostlintModel" "entries" "I", .methodLink RX7 129 yX7_isIn, .static yX7_isIn, .code yX7_isIn cX7_isIn 3 (some .boolean), .methodLink RX7 189 yX7_isOf, .instanceMethod yX7_isOf, .selects RX7 yX7_isOf yX7_isOf, .code yX7_isOf cX7_isOf 2 (some .boolean), .fieldLink RX7 122 "PostlintModel" "thrown" "I", .methodLink RX7 212 yX7_frozen, .instanceMethod yX7_frozen, .selects RX7 yX7_frozen yX7_frozen, .code yX7_frozen cX7_frozen 4 (some .boolean), .fieldLink RX7 203 "PostlintModel" "audits" "I", .fieldLink RX7 71 "PostlintModel" "hasEnded" "[Z", .fieldLink RX7 62 "PostlintModel" "auditFrom" "[I", .fieldLink RX7 65 "PostlintModel" "auditTo" "[I"]) := goodIn_r _ [441, 442, 443, 5, 444, 339, 126, 127, 128, 129, 130, 131, 132, 133, 449, 450, 451, 452, 453, 81, 78, 79] (by decide +kernel) (by decide +kernel)
set_option maxRecDepth 20000 in
theorem ggL_law_X7_isFrozen_c2 : GoodIn wsL_law (wsX70) := goodIn_r _ [796, 797, 798, 799, 800, 801, 802, 803, 804, 805, 806, 807, 808, 809, 810, 811, 812, 813, 814, 815, 816, 817, 818, 819, 820, 821, 822, 823, 824, 825, 826, 827, 828, 829, 830, 831, 832, 833, 834, 835, 836, 837, 838, 839, 840, 841, 842] (by decide +kernel) (by decide +kernel)
set_option maxRecDepth 20000 in
theorem ggL_law_X7_isFrozen : GoodIn wsL_law wsX7_isFrozen := (goodIn_c1 ggL_law_X7_isFrozen_c0 (goodIn_app ggL_law_X7_isFrozen_c1 ggL_law_X7_isFrozen_c2))
set_option maxRecDepth 20000 in
theorem ggL_law_L_holds_c0 : GoodIn wsL_law ([.codeWith yL_holds cL_holds 4 (some .int) [(0, 16, 19, 25)]]) := goodIn_r _ [781] (by decide +kernel) (by decide +kernel)
set_option maxRecDepth 20000 in
theorem ggL_law_L_holds_c1 : GoodIn wsL_law (wsL_holds_r1) := goodIn_r _ [396, 782, 783, 784, 2, 785, 622, 623, 624, 625, 405, 406, 27, 432, 199, 200, 201, 24, 202, 203, 408, 409, 410, 411] (by decide +kernel) (by decide +kernel)
set_option maxRecDepth 20000 in
theorem ggL_law_L_holds_c2 : GoodIn wsL_law (wsL_holds_r2) := goodIn_r _ [412, 413, 414, 415, 416, 417, 418, 419, 420, 421, 422, 423, 45, 626, 627, 628, 629, 596, 597, 598, 599, 25, 407, 600] (by decide +kernel) (by decide +kernel)
set_option maxRecDepth 20000 in
theorem ggL_law_L_holds_c3 : GoodIn wsL_law (wsL_holds_r3) := goodIn_r _ [601, 602, 15, 603, 116, 230, 162, 163, 164, 37] (by decide +kernel) (by decide +kernel)
set_option maxRecDepth 20000 in
theorem ggL_law_L_holds_c4 : GoodIn wsL_law (wsX60) := goodIn_r _ [790, 791, 792, 793, 794, 795] (by decide +kernel) (by decide +kernel)
set_option maxRecDepth 20000 in
theorem ggL_law_L_holds_c5 : GoodIn wsL_law (wsJx4a65c0) := goodIn_r _ [847, 848, 849] (by decide +kernel) (by decide +kernel)
set_option maxRecDepth 20000 in
theorem ggL_law_L_holds_c6 : GoodIn wsL_law (wsX00) := goodIn_r _ [856, 857, 858, 859] (by decide +kernel) (by decide +kernel)
set_option maxRecDepth 20000 in
theorem ggL_law_L_holds_c7 : GoodIn wsL_law (wsX10) := goodIn_r _ [850, 851, 852, 853, 854, 855] (by decide +kernel) (by decide +kernel)
set_option maxRecDepth 20000 in
theorem ggL_law_L_holds_c8 : GoodIn wsL_law (wsX40) := goodIn_r _ [843, 844] (by decide +kernel) (by decide +kernel)
set_option maxRecDepth 20000 in
theorem ggL_law_L_holds : GoodIn wsL_law wsL_holds := (goodIn_c1 ggL_law_L_holds_c0 (goodIn_app (goodIn_app (goodIn_app (goodIn_app (goodIn_app (goodIn_app (goodIn_app ggL_law_L_holds_c1 (goodIn_app ggL_law_L_holds_c2 ggL_law_L_holds_c3)) ggL_law_L_holds_c4) ggL_law_L_holds_c5) ggL_law_L_holds_c6) ggL_law_L_holds_c7) ggL_law_L_holds_c8) (goodIn_sub (fun _ h => (List.mem_append_right _ h)) (by decide +kernel))))
set_option maxRecDepth 20000 in
theorem ggL_law_X7_holds_c0 : GoodIn wsL_law ([.code yX7_holds cX7_holds 2 (some .boolean)]) := goodIn_r _ [789] (by decide +kernel) (by decide +kernel)
set_option maxRecDepth 20000 in
theorem ggL_law_X7_holds_c1 : GoodIn wsL_law ([.fieldLink RX7 44 "PostlintModel" "proof" "[I", .fieldLink RX7 65 "PostlintModel" "auditTo" "[I", .fieldLink RX7 68 "PostlintModel" "auditProof" "[I", .methodLink RX7 242 yX7_isAudit, .instanceMethod yX7_isAudit, .selects RX7 yX7_isAudit yX7_isAudit, .initialized RX7, .code yX7_isAudit cX7_isAudit 2 (some .boolean), .fieldLink RX7 203 "PostlintModel" "audits" "I", .methodLink RX7 129 yX7_isIn, .static yX7_isIn, .code yX7_isIn cX7_isIn 3 (some .boolean), .methodLink RX7 189 yX7_isOf, .instanceMethod yX7_isOf, .selects RX7 yX7_isOf yX7_isOf, .code yX7_isOf cX7_isOf 2 (some .boolean), .fieldLink RX7 122 "PostlintModel" "thrown" "I"]) := goodIn_r _ [72, 79, 80, 634, 635, 636, 5, 637, 453, 126, 127, 128, 129, 130, 131, 132, 133] (by decide +kernel) (by decide +kernel)
set_option maxRecDepth 20000 in
theorem ggL_law_X7_holds_c2 : GoodIn wsL_law (wsX70) := goodIn_r _ [796, 797, 798, 799, 800, 801, 802, 803, 804, 805, 806, 807, 808, 809, 810, 811, 812, 813, 814, 815, 816, 817, 818, 819, 820, 821, 822, 823, 824, 825, 826, 827, 828, 829, 830, 831, 832, 833, 834, 835, 836, 837, 838, 839, 840, 841, 842] (by decide +kernel) (by decide +kernel)
set_option maxRecDepth 20000 in
theorem ggL_law_X7_holds : GoodIn wsL_law wsX7_holds := (goodIn_c1 ggL_law_X7_holds_c0 (goodIn_app ggL_law_X7_holds_c1 ggL_law_X7_holds_c2))
set_option maxRecDepth 20000 in
theorem gL_law_X6_init : GoodIn wsL_law (wsX6_init) := ggL_law_X6_init
set_option maxRecDepth 20000 in
theorem gL_law_X7_init : GoodIn wsL_law (wsX7_init) := ggL_law_X7_init
set_option maxRecDepth 20000 in
theorem gL_law_L_type : GoodIn wsL_law (va_wsS RL 79 yL_type wsL_type) := goodIn_app (goodIn_of _ (by decide +kernel)) ggL_law_L_type
set_option maxRecDepth 20000 in
theorem gL_law_X7_type : GoodIn wsL_law (wsV RL 84 RX7 yX7_type wsX7_type) := goodIn_app (goodIn_of _ (by decide +kernel)) ggL_law_X7_type
set_option maxRecDepth 20000 in
theorem gL_law_X7_thrown : GoodIn wsL_law (wsV RL 85 RX7 yX7_thrown wsX7_thrown) := goodIn_app (goodIn_of _ (by decide +kernel)) ggL_law_X7_thrown
set_option maxRecDepth 20000 in
theorem gL_law_X6_clear : GoodIn wsL_law (wsV RL 88 RX6 yX6_clear wsX6_clear) := goodIn_app (goodIn_of _ (by decide +kernel)) ggL_law_X6_clear
set_option maxRecDepth 20000 in
theorem gL_law_X7_clear : GoodIn wsL_law (wsV RL 91 RX7 yX7_clear wsX7_clear) := goodIn_app (goodIn_of _ (by decide +kernel)) ggL_law_X7_clear
set_option maxRecDepth 20000 in
theorem gL_law_X6_fault : GoodIn wsL_law (wsV RL 92 RX6 yX6_fault wsX6_fault) := goodIn_app (goodIn_of _ (by decide +kernel)) ggL_law_X6_fault
set_option maxRecDepth 20000 in
theorem gL_law_X7_fault : GoodIn wsL_law (wsV RL 95 RX7 yX7_fault wsX7_fault) := goodIn_app (goodIn_of _ (by decide +kernel)) ggL_law_X7_fault
set_option maxRecDepth 20000 in
theorem gL_law_L_post : GoodIn wsL_law (va_wsS RL 96 yL_post wsL_post) := goodIn_app (goodIn_of _ (by decide +kernel)) ggL_law_L_post
set_option maxRecDepth 20000 in
theorem gL_law_X7_post : GoodIn wsL_law (wsV RL 99 RX7 yX7_post wsX7_post) := goodIn_app (goodIn_of _ (by decide +kernel)) ggL_law_X7_post
set_option maxRecDepth 20000 in
theorem gL_law_L_write : GoodIn wsL_law (va_wsS RL 100 yL_write wsL_write) := goodIn_app (goodIn_of _ (by decide +kernel)) ggL_law_L_write
set_option maxRecDepth 20000 in
theorem gL_law_X7_write : GoodIn wsL_law (wsV RL 102 RX7 yX7_write wsX7_write) := goodIn_app (goodIn_of _ (by decide +kernel)) ggL_law_X7_write
set_option maxRecDepth 20000 in
theorem gL_law_L_strike : GoodIn wsL_law (va_wsS RL 103 yL_strike wsL_strike) := goodIn_app (goodIn_of _ (by decide +kernel)) ggL_law_L_strike
set_option maxRecDepth 20000 in
theorem gL_law_X7_strike : GoodIn wsL_law (wsV RL 105 RX7 yX7_strike wsX7_strike) := goodIn_app (goodIn_of _ (by decide +kernel)) ggL_law_X7_strike
set_option maxRecDepth 20000 in
theorem gL_law_L_rule : GoodIn wsL_law (va_wsS RL 106 yL_rule wsL_rule) := goodIn_app (goodIn_of _ (by decide +kernel)) ggL_law_L_rule
set_option maxRecDepth 20000 in
theorem gL_law_X7_rule : GoodIn wsL_law (wsV RL 109 RX7 yX7_rule wsX7_rule) := goodIn_app (goodIn_of _ (by decide +kernel)) ggL_law_X7_rule
set_option maxRecDepth 20000 in
theorem gL_law_L_takeBack : GoodIn wsL_law (va_wsS RL 110 yL_takeBack wsL_takeBack) := goodIn_app (goodIn_of _ (by decide +kernel)) ggL_law_L_takeBack
set_option maxRecDepth 20000 in
theorem gL_law_X7_takeBack : GoodIn wsL_law (wsV RL 112 RX7 yX7_takeBack wsX7_takeBack) := goodIn_app (goodIn_of _ (by decide +kernel)) ggL_law_X7_takeBack
set_option maxRecDepth 20000 in
theorem gL_law_L_audit : GoodIn wsL_law (va_wsS RL 113 yL_audit wsL_audit) := goodIn_app (goodIn_of _ (by decide +kernel)) ggL_law_L_audit
set_option maxRecDepth 20000 in
theorem gL_law_X7_audit : GoodIn wsL_law (wsV RL 116 RX7 yX7_audit wsX7_audit) := goodIn_app (goodIn_of _ (by decide +kernel)) ggL_law_X7_audit
set_option maxRecDepth 20000 in
theorem gL_law_L_end : GoodIn wsL_law (va_wsS RL 117 yL_end wsL_end) := goodIn_app (goodIn_of _ (by decide +kernel)) ggL_law_L_end
set_option maxRecDepth 20000 in
theorem gL_law_X7_end : GoodIn wsL_law (wsV RL 119 RX7 yX7_end wsX7_end) := goodIn_app (goodIn_of _ (by decide +kernel)) ggL_law_X7_end
set_option maxRecDepth 20000 in
theorem gL_law_X6_entries : GoodIn wsL_law (wsV RL 120 RX6 yX6_entries wsX6_entries) := goodIn_app (goodIn_of _ (by decide +kernel)) ggL_law_X6_entries
set_option maxRecDepth 20000 in
theorem gL_law_X7_entries : GoodIn wsL_law (wsV RL 123 RX7 yX7_entries wsX7_entries) := goodIn_app (goodIn_of _ (by decide +kernel)) ggL_law_X7_entries
set_option maxRecDepth 20000 in
theorem gL_law_L_signAt : GoodIn wsL_law (va_wsS RL 124 yL_signAt wsL_signAt) := goodIn_app (goodIn_of _ (by decide +kernel)) ggL_law_L_signAt
set_option maxRecDepth 20000 in
theorem gL_law_X7_signAt : GoodIn wsL_law (wsV RL 127 RX7 yX7_signAt wsX7_signAt) := goodIn_app (goodIn_of _ (by decide +kernel)) ggL_law_X7_signAt
set_option maxRecDepth 20000 in
theorem gL_law_L_length : GoodIn wsL_law (va_wsS RL 128 yL_length wsL_length) := goodIn_app (goodIn_of _ (by decide +kernel)) ggL_law_L_length
set_option maxRecDepth 20000 in
theorem gL_law_X7_length : GoodIn wsL_law (wsV RL 130 RX7 yX7_length wsX7_length) := goodIn_app (goodIn_of _ (by decide +kernel)) ggL_law_X7_length
set_option maxRecDepth 20000 in
theorem gL_law_L_proof : GoodIn wsL_law (va_wsS RL 131 yL_proof wsL_proof) := goodIn_app (goodIn_of _ (by decide +kernel)) ggL_law_L_proof
set_option maxRecDepth 20000 in
theorem gL_law_X7_proof : GoodIn wsL_law (wsV RL 133 RX7 yX7_proof wsX7_proof) := goodIn_app (goodIn_of _ (by decide +kernel)) ggL_law_X7_proof
set_option maxRecDepth 20000 in
theorem gL_law_L_proofAnew : GoodIn wsL_law (va_wsS RL 134 yL_proofAnew wsL_proofAnew) := goodIn_app (goodIn_of _ (by decide +kernel)) ggL_law_L_proofAnew
set_option maxRecDepth 20000 in
theorem gL_law_X7_proofAnew : GoodIn wsL_law (wsV RL 136 RX7 yX7_proofAnew wsX7_proofAnew) := goodIn_app (goodIn_of _ (by decide +kernel)) ggL_law_X7_proofAnew
set_option maxRecDepth 20000 in
theorem gL_law_L_gets : GoodIn wsL_law (va_wsS RL 137 yL_gets wsL_gets) := goodIn_app (goodIn_of _ (by decide +kernel)) ggL_law_L_gets
set_option maxRecDepth 20000 in
theorem gL_law_X7_gets : GoodIn wsL_law (wsV RL 139 RX7 yX7_gets wsX7_gets) := goodIn_app (goodIn_of _ (by decide +kernel)) ggL_law_X7_gets
set_option maxRecDepth 20000 in
theorem gL_law_L_sum : GoodIn wsL_law (va_wsS RL 140 yL_sum wsL_sum) := goodIn_app (goodIn_of _ (by decide +kernel)) ggL_law_L_sum
set_option maxRecDepth 20000 in
theorem gL_law_X7_sum : GoodIn wsL_law (wsV RL 142 RX7 yX7_sum wsX7_sum) := goodIn_app (goodIn_of _ (by decide +kernel)) ggL_law_X7_sum
set_option maxRecDepth 20000 in
theorem gL_law_L_doubts : GoodIn wsL_law (va_wsS RL 143 yL_doubts wsL_doubts) := goodIn_app (goodIn_of _ (by decide +kernel)) ggL_law_L_doubts
set_option maxRecDepth 20000 in
theorem gL_law_X7_doubts : GoodIn wsL_law (wsV RL 145 RX7 yX7_doubts wsX7_doubts) := goodIn_app (goodIn_of _ (by decide +kernel)) ggL_law_X7_doubts
set_option maxRecDepth 20000 in
theorem gL_law_L_doubted : GoodIn wsL_law (va_wsS RL 146 yL_doubted wsL_doubted) := goodIn_app (goodIn_of _ (by decide +kernel)) ggL_law_L_doubted
set_option maxRecDepth 20000 in
theorem gL_law_X7_doubted : GoodIn wsL_law (wsV RL 148 RX7 yX7_doubted wsX7_doubted) := goodIn_app (goodIn_of _ (by decide +kernel)) ggL_law_X7_doubted
set_option maxRecDepth 20000 in
theorem gL_law_L_isFrozen : GoodIn wsL_law (va_wsS RL 149 yL_isFrozen wsL_isFrozen) := goodIn_app (goodIn_of _ (by decide +kernel)) ggL_law_L_isFrozen
set_option maxRecDepth 20000 in
theorem gL_law_X7_isFrozen : GoodIn wsL_law (wsV RL 151 RX7 yX7_isFrozen wsX7_isFrozen) := goodIn_app (goodIn_of _ (by decide +kernel)) ggL_law_X7_isFrozen
set_option maxRecDepth 20000 in
theorem gL_law_L_holds : GoodIn wsL_law (va_wsS RL 152 yL_holds wsL_holds) := goodIn_app (goodIn_of _ (by decide +kernel)) ggL_law_L_holds
set_option maxRecDepth 20000 in
theorem gL_law_X7_holds : GoodIn wsL_law (wsV RL 154 RX7 yX7_holds wsX7_holds) := goodIn_app (goodIn_of _ (by decide +kernel)) ggL_law_X7_holds
