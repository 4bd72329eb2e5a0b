theorem dX6_write_64 : decode cX6_write 64 = .ok (.pop, 1) := by decide +kernel
theorem dX6_write_65 : decode cX6_write 65 = .ok (.aload_n 0, 1) := by decide +kernel
theorem dX6_write_66 : decode cX6_write 66 = .ok (.getfield 14, 3) := by decide +kernel
theorem dX6_write_69 : decode cX6_write 69 = .ok (.invokevirtual 60, 3) := by decide +kernel
theorem dX6_write_72 : decode cX6_write 72 = .ok (.iload 4, 2) := by decide +kernel
theorem dX6_write_74 : decode cX6_write 74 = .ok (.ireturn, 1) := by decide +kernel
set_option maxRecDepth 20000 in
theorem ggX6_strike_X6_entryAt : GoodIn wsX6_strike wsX6_entryAt := goodIn_ca (goodIn_r _ [9, 10, 11, 3, 4, 12, 13, 14, 15, 16, 17, 18, 19, 20, 21, 22, 23, 24, 25, 26, 27, 28, 29, 30, 31, 32, 33, 34, 72, 73, 74, 75, 76, 77, 78, 79, 80] (by decide +kernel) (by decide +kernel)) (goodIn_sub (fun _ h => List.mem_cons_of_mem _ (List.mem_append_right _ h)) (by decide +kernel))
set_option maxRecDepth 20000 in
theorem gX6_strike_X6_entryAt : GoodIn wsX6_strike (wsV RX6 77 RX6 yX6_entryAt wsX6_entryAt) := goodIn_app (goodIn_of _ (by decide +kernel)) ggX6_strike_X6_entryAt
set_option maxRecDepth 20000 in
theorem ggX6_strike_X6_freezes_c0 : GoodIn wsX6_strike ([.code yX6_freezes cX6_freezes 4 (some .boolean)]) := goodIn_r _ [38] (by decide +kernel) (by decide +kernel)
set_option maxRecDepth 20000 in
theorem ggX6_strike_X6_freezes_c1 : GoodIn wsX6_strike (wsX6_freezes_r1) := goodIn_r _ [39, 40, 12, 13, 14, 15, 16, 17, 18, 19, 20, 21, 22, 23, 24, 25, 26, 27, 28, 29, 30, 31, 32, 33] (by decide +kernel) (by decide +kernel)
set_option maxRecDepth 20000 in
theorem ggX6_strike_X6_freezes_c2 : GoodIn wsX6_strike (wsX6_freezes_r2) := goodIn_r _ [34] (by decide +kernel) (by decide +kernel)
set_option maxRecDepth 20000 in
theorem ggX6_strike_X6_freezes_c3 : GoodIn wsX6_strike (wsX60) := goodIn_r _ [72, 73, 74, 75, 76, 77] (by decide +kernel) (by decide +kernel)
set_option maxRecDepth 20000 in
theorem ggX6_strike_X6_freezes_c4 : GoodIn wsX6_strike (wsX00) := goodIn_r _ [81, 82, 83, 84] (by decide +kernel) (by decide +kernel)
set_option maxRecDepth 20000 in
theorem ggX6_strike_X6_freezes_c5 : GoodIn wsX6_strike (wsJx4a65c0) := goodIn_r _ [78, 79, 80] (by decide +kernel) (by decide +kernel)
set_option maxRecDepth 20000 in
theorem ggX6_strike_X6_freezes : GoodIn wsX6_strike wsX6_freezes := (goodIn_c1 ggX6_strike_X6_freezes_c0 (goodIn_app (goodIn_app (goodIn_app (goodIn_app ggX6_strike_X6_freezes_c1 ggX6_strike_X6_freezes_c2) ggX6_strike_X6_freezes_c3) ggX6_strike_X6_freezes_c4) ggX6_strike_X6_freezes_c5))
set_option maxRecDepth 20000 in
theorem gX6_strike_X6_freezes : GoodIn wsX6_strike (wsV RX6 90 RX6 yX6_freezes wsX6_freezes) := goodIn_app (goodIn_of _ (by decide +kernel)) ggX6_strike_X6_freezes
set_option maxRecDepth 20000 in
theorem ggX6_strike_X1_strikeOut : GoodIn wsX6_strike wsX1_strikeOut := goodIn_r _ [45, 46, 47, 48, 49, 50, 51, 52, 53, 54, 55, 56, 57, 58, 59, 60, 61, 62, 63, 64, 65, 66, 67, 68, 69, 70, 71, 85, 86] (by decide +kernel) (by decide +kernel)
set_option maxRecDepth 20000 in
theorem gX6_strike_X1_strikeOut : GoodIn wsX6_strike (wsV RX6 106 RX1 yX1_strikeOut wsX1_strikeOut) := goodIn_app (goodIn_of _ (by decide +kernel)) ggX6_strike_X1_strikeOut
set_option maxRecDepth 20000 in
theorem ggX6_strike_Jx4a65c_size_8abf5 : GoodIn wsX6_strike wsJx4a65c_size_8abf5 := goodIn_r _ [16, 17, 78, 79, 80] (by decide +kernel) (by decide +kernel)
set_option maxRecDepth 20000 in
theorem gX6_strike_Jx4a65c_size_8abf5 : GoodIn wsX6_strike (wsV RX6 67 RJx4a65c yJx4a65c_size_8abf5 wsJx4a65c_size_8abf5) := goodIn_app (goodIn_of _ (by decide +kernel)) ggX6_strike_Jx4a65c_size_8abf5
set_option maxRecDepth 20000 in
theorem ggX6_strike_Jx4a65c_get_915e3 : GoodIn wsX6_strike wsJx4a65c_get_915e3 := goodIn_r _ [21, 17, 22, 23, 24, 25, 26, 27, 28, 29, 30, 31, 32, 15, 33, 34, 78, 79, 80] (by decide +kernel) (by decide +kernel)
set_option maxRecDepth 20000 in
theorem gX6_strike_Jx4a65c_get_915e3 : GoodIn wsX6_strike (wsV RX6 109 RJx4a65c yJx4a65c_get_915e3 wsJx4a65c_get_915e3) := goodIn_app (goodIn_of _ (by decide +kernel)) ggX6_strike_Jx4a65c_get_915e3
theorem dX6_strike_0 : decode cX6_strike 0 = .ok (.aload_n 0, 1) := by decide +kernel
theorem dX6_strike_1 : decode cX6_strike 1 = .ok (.iload_n 1, 1) := by decide +kernel
theorem dX6_strike_2 : decode cX6_strike 2 = .ok (.invokevirtual 77, 3) := by decide +kernel
theorem dX6_strike_5 : decode cX6_strike 5 = .ok (.astore_n 2, 1) := by decide +kernel
theorem dX6_strike_6 : decode cX6_strike 6 = .ok (.aload_n 2, 1) := by decide +kernel
theorem dX6_strike_7 : decode cX6_strike 7 = .ok (.getfield 100, 3) := by decide +kernel
theorem dX6_strike_10 : decode cX6_strike 10 = .ok (.ifCond .ne 11, 3) := by decide +kernel
theorem dX6_strike_13 : decode cX6_strike 13 = .ok (.aload_n 0, 1) := by decide +kernel
theorem dX6_strike_14 : decode cX6_strike 14 = .ok (.iload_n 1, 1) := by decide +kernel
theorem dX6_strike_15 : decode cX6_strike 15 = .ok (.invokevirtual 90, 3) := by decide +kernel
theorem dX6_strike_18 : decode cX6_strike 18 = .ok (.ifCond .eq 13, 3) := by decide +kernel
theorem dX6_strike_21 : decode cX6_strike 21 = .ok (.new 52, 3) := by decide +kernel
theorem dX6_strike_24 : decode cX6_strike 24 = .ok (.dup, 1) := by decide +kernel
theorem dX6_strike_25 : decode cX6_strike 25 = .ok (.ldc 104, 2) := by decide +kernel
theorem dX6_strike_27 : decode cX6_strike 27 = .ok (.invokespecial 56, 3) := by decide +kernel
theorem dX6_strike_30 : decode cX6_strike 30 = .ok (.athrow, 1) := by decide +kernel
theorem dX6_strike_31 : decode cX6_strike 31 = .ok (.aload_n 2, 1) := by decide +kernel
theorem dX6_strike_32 : decode cX6_strike 32 = .ok (.invokevirtual 106, 3) := by decide +kernel
theorem dX6_strike_35 : decode cX6_strike 35 = .ok (.iconst 0, 1) := by decide +kernel
theorem dX6_strike_36 : decode cX6_strike 36 = .ok (.istore_n 3, 1) := by decide +kernel
theorem dX6_strike_37 : decode cX6_strike 37 = .ok (.iconst 0, 1) := by decide +kernel
theorem dX6_strike_38 : decode cX6_strike 38 = .ok (.istore 4, 2) := by decide +kernel
theorem dX6_strike_40 : decode cX6_strike 40 = .ok (.iload 4, 2) := by decide +kernel
theorem dX6_strike_42 : decode cX6_strike 42 = .ok (.aload_n 0, 1) := by decide +kernel
theorem dX6_strike_43 : decode cX6_strike 43 = .ok (.getfield 31, 3) := by decide +kernel
theorem dX6_strike_46 : decode cX6_strike 46 = .ok (.invokevirtual 67, 3) := by decide +kernel
theorem dX6_strike_49 : decode cX6_strike 49 = .ok (.if_icmp .ge 30, 3) := by decide +kernel
theorem dX6_strike_52 : decode cX6_strike 52 = .ok (.aload_n 0, 1) := by decide +kernel
theorem dX6_strike_53 : decode cX6_strike 53 = .ok (.getfield 31, 3) := by decide +kernel
theorem dX6_strike_56 : decode cX6_strike 56 = .ok (.iload 4, 2) := by decide +kernel
theorem dX6_strike_58 : decode cX6_strike 58 = .ok (.invokevirtual 109, 3) := by decide +kernel
theorem dX6_strike_61 : decode cX6_strike 61 = .ok (.checkcast 82, 3) := by decide +kernel
theorem dX6_strike_64 : decode cX6_strike 64 = .ok (.getfield 100, 3) := by decide +kernel
theorem dX6_strike_67 : decode cX6_strike 67 = .ok (.ifCond .ne 6, 3) := by decide +kernel
theorem dX6_strike_70 : decode cX6_strike 70 = .ok (.iinc 3 1, 3) := by decide +kernel
theorem dX6_strike_73 : decode cX6_strike 73 = .ok (.iinc 4 1, 3) := by decide +kernel
theorem dX6_strike_76 : decode cX6_strike 76 = .ok (.goto (-36), 3) := by decide +kernel
theorem dX6_strike_79 : decode cX6_strike 79 = .ok (.iload_n 3, 1) := by decide +kernel
theorem dX6_strike_80 : decode cX6_strike 80 = .ok (.ireturn, 1) := by decide +kernel
set_option maxRecDepth 20000 in
theorem ggX6_rule_X6_needRuleKind : GoodIn wsX6_rule wsX6_needRuleKind := goodIn_ca (goodIn_r _ [10, 11, 12] (by decide +kernel) (by decide +kernel)) (goodIn_sub (fun _ h => List.mem_cons_of_mem _ (List.mem_append_right _ h)) (by decide +kernel))
set_option maxRecDepth 20000 in
theorem gX6_rule_X6_needRuleKind : GoodIn wsX6_rule (va_wsS RX6 113 yX6_needRuleKind wsX6_needRuleKind) := goodIn_app (goodIn_of _ (by decide +kernel)) ggX6_rule_X6_needRuleKind
set_option maxRecDepth 20000 in
theorem ggX6_rule_X6_needAccount : GoodIn wsX6_rule wsX6_needAccount := goodIn_ca (goodIn_r _ [15, 11, 12] (by decide +kernel) (by decide +kernel)) (goodIn_sub (fun _ h => List.mem_cons_of_mem _ (List.mem_append_right _ h)) (by decide +kernel))
set_option maxRecDepth 20000 in
theorem gX6_rule_X6_needAccount : GoodIn wsX6_rule (va_wsS RX6 117 yX6_needAccount wsX6_needAccount) := goodIn_app (goodIn_of _ (by decide +kernel)) ggX6_rule_X6_needAccount
set_option maxRecDepth 20000 in
theorem ggX6_rule_X6_needRuleNumber : GoodIn wsX6_rule wsX6_needRuleNumber := goodIn_ca (goodIn_r _ [18, 11, 12] (by decide +kernel) (by decide +kernel)) (goodIn_sub (fun _ h => List.mem_cons_of_mem _ (List.mem_append_right _ h)) (by decide +kernel))
set_option maxRecDepth 20000 in
theorem gX6_rule_X6_needRuleNumber : GoodIn wsX6_rule (va_wsS RX6 120 yX6_needRuleNumber wsX6_needRuleNumber) := goodIn_app (goodIn_of _ (by decide +kernel)) ggX6_rule_X6_needRuleNumber
set_option maxRecDepth 20000 in
theorem ggX6_rule_Jx4a65c_size_8abf5 : GoodIn wsX6_rule wsJx4a65c_size_8abf5 := goodIn_r _ [23, 24, 100, 101, 102] (by decide +kernel) (by decide +kernel)
set_option maxRecDepth 20000 in
theorem gX6_rule_Jx4a65c_size_8abf5 : GoodIn wsX6_rule (wsV RX6 67 RJx4a65c yJx4a65c_size_8abf5 wsJx4a65c_size_8abf5) := goodIn_app (goodIn_of _ (by decide +kernel)) ggX6_rule_Jx4a65c_size_8abf5
set_option maxRecDepth 20000 in
theorem ggX6_rule_X3_init : GoodIn wsX6_rule wsX3_init := goodIn_r _ [27, 28, 29, 30, 31, 32, 33, 34, 95, 96, 97, 98, 99] (by decide +kernel) (by decide +kernel)
set_option maxRecDepth 20000 in
theorem gX6_rule_X3_init : GoodIn wsX6_rule (wsX3_init) := ggX6_rule_X3_init
set_option maxRecDepth 20000 in
theorem ggX6_rule_Jx4a65c_add_9ea2d_c0 : GoodIn wsX6_rule ([.code yJx4a65c_add_9ea2d cJx4a65c_add_9ea2d 2 (some .boolean)]) := goodIn_r _ [38] (by decide +kernel) (by decide +kernel)
set_option maxRecDepth 20000 in
theorem ggX6_rule_Jx4a65c_add_9ea2d_c1 : GoodIn wsX6_rule (wsJx4a65c_add_9ea2d_r1) := goodIn_r _ [39, 40, 41, 24, 42, 43, 44, 22, 45, 46, 47, 48, 49, 50, 51, 52, 53, 54, 55, 56, 57, 58, 59, 60] (by decide +kernel) (by decide +kernel)
set_option maxRecDepth 20000 in
theorem ggX6_rule_Jx4a65c_add_9ea2d_c2 : GoodIn wsX6_rule (wsJx4a65c_add_9ea2d_r2) := goodIn_r _ [61, 62, 63, 64, 65, 66, 67, 68, 69, 70, 71, 72, 73, 74, 75, 76, 77, 78, 79, 80, 81, 82, 83, 84] (by decide +kernel) (by decide +kernel)
set_option maxRecDepth 20000 in
theorem ggX6_rule_Jx4a65c_add_9ea2d_c3 : GoodIn wsX6_rule (wsJx4a65c_add_9ea2d_r3) := goodIn_r _ [85, 86, 87, 88] (by decide +kernel) (by decide +kernel)
set_option maxRecDepth 20000 in
theorem ggX6_rule_Jx4a65c_add_9ea2d_c4 : GoodIn wsX6_rule (wsJx4a65c0) := goodIn_r _ [100, 101, 102] (by decide +kernel) (by decide +kernel)
set_option maxRecDepth 20000 in
theorem ggX6_rule_Jx4a65c_add_9ea2d : GoodIn wsX6_rule wsJx4a65c_add_9ea2d := (goodIn_c1 ggX6_rule_Jx4a65c_add_9ea2d_c0 (goodIn_app (goodIn_app ggX6_rule_Jx4a65c_add_9ea2d_c1 (goodIn_app ggX6_rule_Jx4a65c_add_9ea2d_c2 ggX6_rule_Jx4a65c_add_9ea2d_c3)) ggX6_rule_Jx4a65c_add_9ea2d_c4))
set_option maxRecDepth 20000 in
theorem gX6_rule_Jx4a65c_add_9ea2d : GoodIn wsX6_rule (wsV RX6 74 RJx4a65c yJx4a65c_add_9ea2d wsJx4a65c_add_9ea2d) := goodIn_app (goodIn_of _ (by decide +kernel)) ggX6_rule_Jx4a65c_add_9ea2d
theorem dX6_rule_0 : decode cX6_rule 0 = .ok (.iload_n 1, 1) := by decide +kernel
theorem dX6_rule_1 : decode cX6_rule 1 = .ok (.iload_n 2, 1) := by decide +kernel
theorem dX6_rule_2 : decode cX6_rule 2 = .ok (.iload_n 3, 1) := by decide +kernel
theorem dX6_rule_3 : decode cX6_rule 3 = .ok (.invokestatic 113, 3) := by decide +kernel
theorem dX6_rule_6 : decode cX6_rule 6 = .ok (.iload_n 2, 1) := by decide +kernel
theorem dX6_rule_7 : decode cX6_rule 7 = .ok (.invokestatic 117, 3) := by decide +kernel
theorem dX6_rule_10 : decode cX6_rule 10 = .ok (.iload_n 3, 1) := by decide +kernel
theorem dX6_rule_11 : decode cX6_rule 11 = .ok (.invokestatic 117, 3) := by decide +kernel
theorem dX6_rule_14 : decode cX6_rule 14 = .ok (.iload_n 1, 1) := by decide +kernel
theorem dX6_rule_15 : decode cX6_rule 15 = .ok (.iload 4, 2) := by decide +kernel
theorem dX6_rule_17 : decode cX6_rule 17 = .ok (.invokestatic 120, 3) := by decide +kernel
theorem dX6_rule_20 : decode cX6_rule 20 = .ok (.aload_n 0, 1) := by decide +kernel
theorem dX6_rule_21 : decode cX6_rule 21 = .ok (.getfield 35, 3) := by decide +kernel
theorem dX6_rule_24 : decode cX6_rule 24 = .ok (.invokevirtual 67, 3) := by decide +kernel
theorem dX6_rule_27 : decode cX6_rule 27 = .ok (.bipush 8, 2) := by decide +kernel
theorem dX6_rule_29 : decode cX6_rule 29 = .ok (.if_icmp .lt 13, 3) := by decide +kernel
theorem dX6_rule_32 : decode cX6_rule 32 = .ok (.new 52, 3) := by decide +kernel
theorem dX6_rule_35 : decode cX6_rule 35 = .ok (.dup, 1) := by decide +kernel
theorem dX6_rule_36 : decode cX6_rule 36 = .ok (.ldc 124, 2) := by decide +kernel
theorem dX6_rule_38 : decode cX6_rule 38 = .ok (.invokespecial 56, 3) := by decide +kernel
theorem dX6_rule_41 : decode cX6_rule 41 = .ok (.athrow, 1) := by decide +kernel
theorem dX6_rule_42 : decode cX6_rule 42 = .ok (.aload_n 0, 1) := by decide +kernel
theorem dX6_rule_43 : decode cX6_rule 43 = .ok (.getfield 35, 3) := by decide +kernel
theorem dX6_rule_46 : decode cX6_rule 46 = .ok (.new 126, 3) := by decide +kernel
theorem dX6_rule_49 : decode cX6_rule 49 = .ok (.dup, 1) := by decide +kernel
theorem dX6_rule_50 : decode cX6_rule 50 = .ok (.iload_n 1, 1) := by decide +kernel
theorem dX6_rule_51 : decode cX6_rule 51 = .ok (.iload_n 2, 1) := by decide +kernel
theorem dX6_rule_52 : decode cX6_rule 52 = .ok (.iload_n 3, 1) := by decide +kernel
theorem dX6_rule_53 : decode cX6_rule 53 = .ok (.iload 4, 2) := by decide +kernel
theorem dX6_rule_55 : decode cX6_rule 55 = .ok (.invokespecial 128, 3) := by decide +kernel
theorem dX6_rule_58 : decode cX6_rule 58 = .ok (.invokevirtual 74, 3) := by decide +kernel
theorem dX6_rule_61 : decode cX6_rule 61 = .ok (.pop, 1) := by decide +kernel
theorem dX6_rule_62 : decode cX6_rule 62 = .ok (.aload_n 0, 1) := by decide +kernel
theorem dX6_rule_63 : decode cX6_rule 63 = .ok (.getfield 35, 3) := by decide +kernel
theorem dX6_rule_66 : decode cX6_rule 66 = .ok (.invokevirtual 67, 3) := by decide +kernel
theorem dX6_rule_69 : decode cX6_rule 69 = .ok (.iconst 1, 1) := by decide +kernel
theorem dX6_rule_70 : decode cX6_rule 70 = .ok (.isub, 1) := by decide +kernel
theorem dX6_rule_71 : decode cX6_rule 71 = .ok (.ireturn, 1) := by decide +kernel
set_option maxRecDepth 20000 in
theorem ggX6_takeBack_X6_ruleAt : GoodIn wsX6_takeBack wsX6_ruleAt := goodIn_ca (goodIn_r _ [7, 8, 9, 10, 11, 12, 13, 14, 15, 16, 17, 18, 19, 20, 21, 22, 23, 24, 25, 26, 27, 28, 29, 30, 31, 32, 33, 34, 83, 84, 85, 86, 87, 88, 89, 90, 91] (by decide +kernel) (by decide +kernel)) (goodIn_sub (fun _ h => List.mem_cons_of_mem _ (List.mem_append_right _ h)) (by decide +kernel))
set_option maxRecDepth 20000 in
theorem gX6_takeBack_X6_ruleAt : GoodIn wsX6_takeBack (wsV RX6 131 RX6 yX6_ruleAt wsX6_ruleAt) := goodIn_app (goodIn_of _ (by decide +kernel)) ggX6_takeBack_X6_ruleAt
set_option maxRecDepth 20000 in
theorem ggX6_takeBack_X6_countDoubtedBy_c0 : GoodIn wsX6_takeBack ([.code yX6_countDoubtedBy cX6_countDoubtedBy 4 (some .int)]) := goodIn_r _ [38] (by decide +kernel) (by decide +kernel)
set_option maxRecDepth 20000 in
theorem ggX6_takeBack_X6_countDoubtedBy_c1 : GoodIn wsX6_takeBack (wsX6_countDoubtedBy_r1) := goodIn_r _ [39, 12, 13, 14, 15, 16, 17, 40, 41, 42, 6, 43, 44, 45, 46, 47, 48, 18, 19, 20, 21, 22, 23, 24] (by decide +kernel) (by decide +kernel)
set_option maxRecDepth 20000 in
theorem ggX6_takeBack_X6_countDoubtedBy_c2 : GoodIn wsX6_takeBack (wsX6_countDoubtedBy_r2) := goodIn_r _ [25, 26, 27, 28, 29, 30, 31, 32, 33, 34, 49, 50, 51, 52, 53, 54, 55, 56, 57, 58, 59, 60, 61, 62] (by decide +kernel) (by decide +kernel)
set_option maxRecDepth 20000 in
theorem ggX6_takeBack_X6_countDoubtedBy_c3 : GoodIn wsX6_takeBack (wsX6_countDoubtedBy_r3) := goodIn_r _ [63, 64, 65, 66, 67, 68, 69, 70, 71, 72, 73, 74, 75, 76, 77] (by decide +kernel) (by decide +kernel)
set_option maxRecDepth 20000 in
theorem ggX6_takeBack_X6_countDoubtedBy_c4 : GoodIn wsX6_takeBack (wsX60) := goodIn_r _ [83, 84, 85, 86, 87, 88] (by decide +kernel) (by decide +kernel)
set_option maxRecDepth 20000 in
theorem ggX6_takeBack_X6_countDoubtedBy_c5 : GoodIn wsX6_takeBack (wsJx4a65c0) := goodIn_r _ [89, 90, 91] (by decide +kernel) (by decide +kernel)
set_option maxRecDepth 20000 in
theorem ggX6_takeBack_X6_countDoubtedBy_c6 : GoodIn wsX6_takeBack (wsX30) := goodIn_r _ [78, 79, 80, 81, 82] (by decide +kernel) (by decide +kernel)
set_option maxRecDepth 20000 in
theorem ggX6_takeBack_X6_countDoubtedBy_c7 : GoodIn wsX6_takeBack (wsX10) := goodIn_r _ [92, 93, 94, 95, 96, 97] (by decide +kernel) (by decide +kernel)
set_option maxRecDepth 20000 in
theorem ggX6_takeBack_X6_countDoubtedBy : GoodIn wsX6_takeBack wsX6_countDoubtedBy := (goodIn_c1 ggX6_takeBack_X6_countDoubtedBy_c0 (goodIn_app (goodIn_app (goodIn_app (goodIn_app (goodIn_app ggX6_takeBack_X6_countDoubtedBy_c1 (goodIn_app ggX6_takeBack_X6_countDoubtedBy_c2 ggX6_takeBack_X6_countDoubtedBy_c3)) ggX6_takeBack_X6_countDoubtedBy_c4) ggX6_takeBack_X6_countDoubtedBy_c5) ggX6_takeBack_X6_countDoubtedBy_c6) ggX6_takeBack_X6_countDoubtedBy_c7))
set_option maxRecDepth 20000 in
theorem gX6_takeBack_X6_countDoubtedBy : GoodIn wsX6_takeBack (wsV RX6 140 RX6 yX6_countDoubtedBy wsX6_countDoubtedBy) := goodIn_app (goodIn_of _ (by decide +kernel)) ggX6_takeBack_X6_countDoubtedBy
theorem dX6_takeBack_0 : decode cX6_takeBack 0 = .ok (.aload_n 0, 1) := by decide +kernel
theorem dX6_takeBack_1 : decode cX6_takeBack 1 = .ok (.iload_n 1, 1) := by decide +kernel
theorem dX6_takeBack_2 : decode cX6_takeBack 2 = .ok (.invokevirtual 131, 3) := by decide +kernel
theorem dX6_takeBack_5 : decode cX6_takeBack 5 = .ok (.astore_n 2, 1) := by decide +kernel
theorem dX6_takeBack_6 : decode cX6_takeBack 6 = .ok (.aload_n 2, 1) := by decide +kernel
theorem dX6_takeBack_7 : decode cX6_takeBack 7 = .ok (.getfield 135, 3) := by decide +kernel
theorem dX6_takeBack_10 : decode cX6_takeBack 10 = .ok (.ifCond .eq 13, 3) := by decide +kernel
theorem dX6_takeBack_13 : decode cX6_takeBack 13 = .ok (.new 52, 3) := by decide +kernel
theorem dX6_takeBack_16 : decode cX6_takeBack 16 = .ok (.dup, 1) := by decide +kernel
theorem dX6_takeBack_17 : decode cX6_takeBack 17 = .ok (.ldc 138, 2) := by decide +kernel
theorem dX6_takeBack_19 : decode cX6_takeBack 19 = .ok (.invokespecial 56, 3) := by decide +kernel
theorem dX6_takeBack_22 : decode cX6_takeBack 22 = .ok (.athrow, 1) := by decide +kernel
theorem dX6_takeBack_23 : decode cX6_takeBack 23 = .ok (.aload_n 0, 1) := by decide +kernel
theorem dX6_takeBack_24 : decode cX6_takeBack 24 = .ok (.aload_n 2, 1) := by decide +kernel
theorem dX6_takeBack_25 : decode cX6_takeBack 25 = .ok (.invokevirtual 140, 3) := by decide +kernel
theorem dX6_takeBack_28 : decode cX6_takeBack 28 = .ok (.istore_n 3, 1) := by decide +kernel
theorem dX6_takeBack_29 : decode cX6_takeBack 29 = .ok (.aload_n 2, 1) := by decide +kernel
theorem dX6_takeBack_30 : decode cX6_takeBack 30 = .ok (.iconst 1, 1) := by decide +kernel
theorem dX6_takeBack_31 : decode cX6_takeBack 31 = .ok (.putfield 135, 3) := by decide +kernel
theorem dX6_takeBack_34 : decode cX6_takeBack 34 = .ok (.iload_n 3, 1) := by decide +kernel
theorem dX6_takeBack_35 : decode cX6_takeBack 35 = .ok (.ireturn, 1) := by decide +kernel
set_option maxRecDepth 20000 in
theorem ggX6_audit_X6_needEntry : GoodIn wsX6_audit wsX6_needEntry := goodIn_ca (goodIn_r _ [13, 14, 15, 16, 17, 18, 19, 20, 21, 22, 118, 119, 120, 121, 122, 123, 128, 129, 130] (by decide +kernel) (by decide +kernel)) (goodIn_sub (fun _ h => List.mem_cons_of_mem _ (List.mem_append_right _ h)) (by decide +kernel))
set_option maxRecDepth 20000 in
theorem gX6_audit_X6_needEntry : GoodIn wsX6_audit (wsV RX6 144 RX6 yX6_needEntry wsX6_needEntry) := goodIn_app (goodIn_of _ (by decide +kernel)) ggX6_audit_X6_needEntry
set_option maxRecDepth 20000 in
theorem ggX6_audit_Jx4a65c_size_8abf5 : GoodIn wsX6_audit wsJx4a65c_size_8abf5 := goodIn_r _ [21, 22, 128, 129, 130] (by decide +kernel) (by decide +kernel)
set_option maxRecDepth 20000 in
theorem gX6_audit_Jx4a65c_size_8abf5 : GoodIn wsX6_audit (wsV RX6 67 RJx4a65c yJx4a65c_size_8abf5 wsJx4a65c_size_8abf5) := goodIn_app (goodIn_of _ (by decide +kernel)) ggX6_audit_Jx4a65c_size_8abf5
set_option maxRecDepth 20000 in
theorem ggX6_audit_X6_chainUpTo_c0 : GoodIn wsX6_audit ([.code yX6_chainUpTo cX6_chainUpTo 4 (some .int)]) := goodIn_r _ [26] (by decide +kernel) (by decide +kernel)
set_option maxRecDepth 20000 in
theorem ggX6_audit_X6_chainUpTo_c1 : GoodIn wsX6_audit (wsX6_chainUpTo_r1) := goodIn_r _ [16, 27, 17, 18, 19, 20, 21, 22, 28, 29, 30, 31, 32, 33, 34, 35, 36, 37, 38, 39, 40, 41, 42, 43] (by decide +kernel) (by decide +kernel)
set_option maxRecDepth 20000 in
theorem ggX6_audit_X6_chainUpTo_c2 : GoodIn wsX6_audit (wsX6_chainUpTo_r2) := goodIn_r _ [44, 45, 46, 47, 48, 49, 50, 51, 52, 53, 54, 55] (by decide +kernel) (by decide +kernel)
set_option maxRecDepth 20000 in
theorem ggX6_audit_X6_chainUpTo_c3 : GoodIn wsX6_audit (wsX60) := goodIn_r _ [118, 119, 120, 121, 122, 123] (by decide +kernel) (by decide +kernel)
set_option maxRecDepth 20000 in
theorem ggX6_audit_X6_chainUpTo_c4 : GoodIn wsX6_audit (wsX10) := goodIn_r _ [131, 132, 133, 134, 135, 136] (by decide +kernel) (by decide +kernel)
set_option maxRecDepth 20000 in
theorem ggX6_audit_X6_chainUpTo_c5 : GoodIn wsX6_audit (wsJx4a65c0) := goodIn_r _ [128, 129, 130] (by decide +kernel) (by decide +kernel)
set_option maxRecDepth 20000 in
theorem ggX6_audit_X6_chainUpTo_c6 : GoodIn wsX6_audit (wsX40) := goodIn_r _ [137, 138] (by decide +kernel) (by decide +kernel)
set_option maxRecDepth 20000 in
theorem ggX6_audit_X6_chainUpTo : GoodIn wsX6_audit wsX6_chainUpTo := (goodIn_c1 ggX6_audit_X6_chainUpTo_c0 (goodIn_app (goodIn_app (goodIn_app (goodIn_app (goodIn_app ggX6_audit_X6_chainUpTo_c1 ggX6_audit_X6_chainUpTo_c2) ggX6_audit_X6_chainUpTo_c3) ggX6_audit_X6_chainUpTo_c4) ggX6_audit_X6_chainUpTo_c5) ggX6_audit_X6_chainUpTo_c6))
set_option maxRecDepth 20000 in
theorem gX6_audit_X6_chainUpTo : GoodIn wsX6_audit (wsV RX6 153 RX6 yX6_chainUpTo wsX6_chainUpTo) := goodIn_app (goodIn_of _ (by decide +kernel)) ggX6_audit_X6_chainUpTo
set_option maxRecDepth 20000 in
theorem ggX6_audit_X0_init : GoodIn wsX6_audit wsX0_init := goodIn_r _ [58, 59, 60, 61, 62, 63, 64, 124, 125, 126, 127] (by decide +kernel) (by decide +kernel)
set_option maxRecDepth 20000 in
theorem gX6_audit_X0_init : GoodIn wsX6_audit (wsX0_init) := ggX6_audit_X0_init
set_option maxRecDepth 20000 in
theorem ggX6_audit_Jx4a65c_add_9ea2d_c0 : GoodIn wsX6_audit ([.code yJx4a65c_add_9ea2d cJx4a65c_add_9ea2d 2 (some .boolean)]) := goodIn_r _ [68] (by decide +kernel) (by decide +kernel)
set_option maxRecDepth 20000 in
theorem ggX6_audit_Jx4a65c_add_9ea2d_c1 : GoodIn wsX6_audit (wsJx4a65c_add_9ea2d_r1) := goodIn_r _ [69, 70, 44, 22, 71, 72, 73, 20, 74, 75, 76, 77, 78, 79, 80, 81, 82, 83, 84, 85, 86, 87, 88, 89] (by decide +kernel) (by decide +kernel)
set_option maxRecDepth 20000 in
theorem ggX6_audit_Jx4a65c_add_9ea2d_c2 : GoodIn wsX6_audit (wsJx4a65c_add_9ea2d_r2) := goodIn_r _ [90, 91, 92, 93, 94, 95, 96, 97, 98, 99, 100, 101, 102, 103, 104, 105, 106, 107, 108, 109, 110, 111, 112, 113] (by decide +kernel) (by decide +kernel)
set_option maxRecDepth 20000 in
theorem ggX6_audit_Jx4a65c_add_9ea2d_c3 : GoodIn wsX6_audit (wsJx4a65c_add_9ea2d_r3) := goodIn_r _ [114, 115, 116, 117] (by decide +kernel) (by decide +kernel)
set_option maxRecDepth 20000 in
theorem ggX6_audit_Jx4a65c_add_9ea2d_c4 : GoodIn wsX6_audit (wsJx4a65c0) := goodIn_r _ [128, 129, 130] (by decide +kernel) (by decide +kernel)
set_option maxRecDepth 20000 in
theorem ggX6_audit_Jx4a65c_add_9ea2d : GoodIn wsX6_audit wsJx4a65c_add_9ea2d := (goodIn_c1 ggX6_audit_Jx4a65c_add_9ea2d_c0 (goodIn_app (goodIn_app ggX6_audit_Jx4a65c_add_9ea2d_c1 (goodIn_app ggX6_audit_Jx4a65c_add_9ea2d_c2 ggX6_audit_Jx4a65c_add_9ea2d_c3)) ggX6_audit_Jx4a65c_add_9ea2d_c4))
set_option maxRecDepth 20000 in
theorem gX6_audit_Jx4a65c_add_9ea2d : GoodIn wsX6_audit (wsV RX6 74 RJx4a65c yJx4a65c_add_9ea2d wsJx4a65c_add_9ea2d) := goodIn_app (goodIn_of _ (by decide +kernel)) ggX6_audit_Jx4a65c_add_9ea2d
theorem dX6_audit_0 : decode cX6_audit 0 = .ok (.aload_n 0, 1) := by decide +kernel
theorem dX6_audit_1 : decode cX6_audit 1 = .ok (.iload_n 1, 1) := by decide +kernel
theorem dX6_audit_2 : decode cX6_audit 2 = .ok (.invokevirtual 144, 3) := by decide +kernel
theorem dX6_audit_5 : decode cX6_audit 5 = .ok (.aload_n 0, 1) := by decide +kernel
theorem dX6_audit_6 : decode cX6_audit 6 = .ok (.iload_n 2, 1) := by decide +kernel
theorem dX6_audit_7 : decode cX6_audit 7 = .ok (.invokevirtual 144, 3) := by decide +kernel
theorem dX6_audit_10 : decode cX6_audit 10 = .ok (.iload_n 2, 1) := by decide +kernel
theorem dX6_audit_11 : decode cX6_audit 11 = .ok (.iload_n 1, 1) := by decide +kernel
theorem dX6_audit_12 : decode cX6_audit 12 = .ok (.if_icmp .ge 13, 3) := by decide +kernel
theorem dX6_audit_15 : decode cX6_audit 15 = .ok (.new 41, 3) := by decide +kernel
theorem dX6_audit_18 : decode cX6_audit 18 = .ok (.dup, 1) := by decide +kernel
theorem dX6_audit_19 : decode cX6_audit 19 = .ok (.ldc 147, 2) := by decide +kernel
theorem dX6_audit_21 : decode cX6_audit 21 = .ok (.invokespecial 45, 3) := by decide +kernel
theorem dX6_audit_24 : decode cX6_audit 24 = .ok (.athrow, 1) := by decide +kernel
theorem dX6_audit_25 : decode cX6_audit 25 = .ok (.aload_n 0, 1) := by decide +kernel
theorem dX6_audit_26 : decode cX6_audit 26 = .ok (.getfield 38, 3) := by decide +kernel
theorem dX6_audit_29 : decode cX6_audit 29 = .ok (.invokevirtual 67, 3) := by decide +kernel
theorem dX6_audit_32 : decode cX6_audit 32 = .ok (.bipush 6, 2) := by decide +kernel
theorem dX6_audit_34 : decode cX6_audit 34 = .ok (.if_icmp .lt 13, 3) := by decide +kernel
theorem dX6_audit_37 : decode cX6_audit 37 = .ok (.new 52, 3) := by decide +kernel
theorem dX6_audit_40 : decode cX6_audit 40 = .ok (.dup, 1) := by decide +kernel
theorem dX6_audit_41 : decode cX6_audit 41 = .ok (.ldc 149, 2) := by decide +kernel
theorem dX6_audit_43 : decode cX6_audit 43 = .ok (.invokespecial 56, 3) := by decide +kernel
theorem dX6_audit_46 : decode cX6_audit 46 = .ok (.athrow, 1) := by decide +kernel
theorem dX6_audit_47 : decode cX6_audit 47 = .ok (.aload_n 0, 1) := by decide +kernel
theorem dX6_audit_48 : decode cX6_audit 48 = .ok (.getfield 38, 3) := by decide +kernel
theorem dX6_audit_51 : decode cX6_audit 51 = .ok (.new 151, 3) := by decide +kernel
theorem dX6_audit_54 : decode cX6_audit 54 = .ok (.dup, 1) := by decide +kernel
theorem dX6_audit_55 : decode cX6_audit 55 = .ok (.iload_n 1, 1) := by decide +kernel
theorem dX6_audit_56 : decode cX6_audit 56 = .ok (.iload_n 2, 1) := by decide +kernel
theorem dX6_audit_57 : decode cX6_audit 57 = .ok (.aload_n 0, 1) := by decide +kernel
theorem dX6_audit_58 : decode cX6_audit 58 = .ok (.iload_n 2, 1) := by decide +kernel
theorem dX6_audit_59 : decode cX6_audit 59 = .ok (.invokevirtual 153, 3) := by decide +kernel
theorem dX6_audit_62 : decode cX6_audit 62 = .ok (.invokespecial 157, 3) := by decide +kernel
theorem dX6_audit_65 : decode cX6_audit 65 = .ok (.invokevirtual 74, 3) := by decide +kernel
theorem dX6_audit_68 : decode cX6_audit 68 = .ok (.pop, 1) := by decide +kernel
theorem dX6_audit_69 : decode cX6_audit 69 = .ok (.aload_n 0, 1) := by decide +kernel
theorem dX6_audit_70 : decode cX6_audit 70 = .ok (.getfield 38, 3) := by decide +kernel
theorem dX6_audit_73 : decode cX6_audit 73 = .ok (.invokevirtual 67, 3) := by decide +kernel
theorem dX6_audit_76 : decode cX6_audit 76 = .ok (.iconst 1, 1) := by decide +kernel
theorem dX6_audit_77 : decode cX6_audit 77 = .ok (.isub, 1) := by decide +kernel
theorem dX6_audit_78 : decode cX6_audit 78 = .ok (.ireturn, 1) := by decide +kernel
set_option maxRecDepth 20000 in
theorem ggX6_end_X6_auditAt : GoodIn wsX6_end wsX6_auditAt := goodIn_ca (goodIn_r _ [7, 8, 9, 10, 11, 12, 13, 14, 15, 16, 17, 18, 19, 20, 21, 22, 23, 24, 25, 26, 27, 28, 29, 30, 31, 32, 33, 34, 60, 61, 62, 63, 64, 65, 66, 67, 68] (by decide +kernel) (by decide +kernel)) (goodIn_sub (fun _ h => List.mem_cons_of_mem _ (List.mem_append_right _ h)) (by decide +kernel))
set_option maxRecDepth 20000 in
theorem gX6_end_X6_auditAt : GoodIn wsX6_end (wsV RX6 159 RX6 yX6_auditAt wsX6_auditAt) := goodIn_app (goodIn_of _ (by decide +kernel)) ggX6_end_X6_auditAt
set_option maxRecDepth 20000 in
theorem ggX6_end_X6_isProofKept_c0 : GoodIn wsX6_end ([.code yX6_isProofKept cX6_isProofKept 2 (some .boolean)]) := goodIn_r _ [38] (by decide +kernel) (by decide +kernel)
set_option maxRecDepth 20000 in
theorem ggX6_end_X6_isProofKept_c1 : GoodIn wsX6_end (wsX6_isProofKept_r1) := goodIn_r _ [39, 40, 41, 6, 42, 43, 44, 12, 13, 14, 15, 16, 17, 18, 19, 20, 21, 22, 23, 24, 25, 26, 27, 28] (by decide +kernel) (by decide +kernel)
set_option maxRecDepth 20000 in
theorem ggX6_end_X6_isProofKept_c2 : GoodIn wsX6_end (wsX6_isProofKept_r2) := goodIn_r _ [29, 30, 31, 32, 33, 34, 45, 46, 47, 48, 49, 50, 51, 52, 53, 54, 55] (by decide +kernel) (by decide +kernel)
set_option maxRecDepth 20000 in
theorem ggX6_end_X6_isProofKept_c3 : GoodIn wsX6_end (wsX00) := goodIn_r _ [56, 57, 58, 59] (by decide +kernel) (by decide +kernel)
set_option maxRecDepth 20000 in
theorem ggX6_end_X6_isProofKept_c4 : GoodIn wsX6_end (wsX60) := goodIn_r _ [60, 61, 62, 63, 64, 65] (by decide +kernel) (by decide +kernel)
set_option maxRecDepth 20000 in
theorem ggX6_end_X6_isProofKept_c5 : GoodIn wsX6_end (wsX10) := goodIn_r _ [69, 70, 71, 72, 73, 74] (by decide +kernel) (by decide +kernel)
set_option maxRecDepth 20000 in
theorem ggX6_end_X6_isProofKept_c6 : GoodIn wsX6_end (wsJx4a65c0) := goodIn_r _ [66, 67, 68] (by decide +kernel) (by decide +kernel)
set_option maxRecDepth 20000 in
theorem ggX6_end_X6_isProofKept_c7 : GoodIn wsX6_end (wsX40) := goodIn_r _ [75, 76] (by decide +kernel) (by decide +kernel)
set_option maxRecDepth 20000 in
theorem ggX6_end_X6_isProofKept : GoodIn wsX6_end wsX6_isProofKept := (goodIn_c1 ggX6_end_X6_isProofKept_c0 (goodIn_app (goodIn_app (goodIn_app (goodIn_app (goodIn_app (goodIn_app ggX6_end_X6_isProofKept_c1 ggX6_end_X6_isProofKept_c2) ggX6_end_X6_isProofKept_c3) ggX6_end_X6_isProofKept_c4) ggX6_end_X6_isProofKept_c5) ggX6_end_X6_isProofKept_c6) ggX6_end_X6_isProofKept_c7))
set_option maxRecDepth 20000 in
theorem gX6_end_X6_isProofKept : GoodIn wsX6_end (wsV RX6 168 RX6 yX6_isProofKept wsX6_isProofKept) := goodIn_app (goodIn_of _ (by decide +kernel)) ggX6_end_X6_isProofKept
theorem dX6_end_0 : decode cX6_end 0 = .ok (.aload_n 0, 1) := by decide +kernel
theorem dX6_end_1 : decode cX6_end 1 = .ok (.iload_n 1, 1) := by decide +kernel
theorem dX6_end_2 : decode cX6_end 2 = .ok (.invokevirtual 159, 3) := by decide +kernel
theorem dX6_end_5 : decode cX6_end 5 = .ok (.astore_n 2, 1) := by decide +kernel
theorem dX6_end_6 : decode cX6_end 6 = .ok (.aload_n 2, 1) := by decide +kernel
theorem dX6_end_7 : decode cX6_end 7 = .ok (.getfield 163, 3) := by decide +kernel
theorem dX6_end_10 : decode cX6_end 10 = .ok (.ifCond .eq 13, 3) := by decide +kernel
theorem dX6_end_13 : decode cX6_end 13 = .ok (.new 52, 3) := by decide +kernel
theorem dX6_end_16 : decode cX6_end 16 = .ok (.dup, 1) := by decide +kernel
theorem dX6_end_17 : decode cX6_end 17 = .ok (.ldc 166, 2) := by decide +kernel
theorem dX6_end_19 : decode cX6_end 19 = .ok (.invokespecial 56, 3) := by decide +kernel
theorem dX6_end_22 : decode cX6_end 22 = .ok (.athrow, 1) := by decide +kernel
theorem dX6_end_23 : decode cX6_end 23 = .ok (.aload_n 2, 1) := by decide +kernel
theorem dX6_end_24 : decode cX6_end 24 = .ok (.iconst 1, 1) := by decide +kernel
theorem dX6_end_25 : decode cX6_end 25 = .ok (.putfield 163, 3) := by decide +kernel
theorem dX6_end_28 : decode cX6_end 28 = .ok (.aload_n 0, 1) := by decide +kernel
theorem dX6_end_29 : decode cX6_end 29 = .ok (.aload_n 2, 1) := by decide +kernel
theorem dX6_end_30 : decode cX6_end 30 = .ok (.invokevirtual 168, 3) := by decide +kernel
theorem dX6_end_33 : decode cX6_end 33 = .ok (.ireturn, 1) := by decide +kernel
set_option maxRecDepth 20000 in
theorem ggX6_entries_Jx4a65c_size_8abf5 : GoodIn wsX6_entries wsJx4a65c_size_8abf5 := goodIn_r _ [6, 7, 14, 15, 16] (by decide +kernel) (by decide +kernel)
set_option maxRecDepth 20000 in
theorem gX6_entries_Jx4a65c_size_8abf5 : GoodIn wsX6_entries (wsV RX6 67 RJx4a65c yJx4a65c_size_8abf5 wsJx4a65c_size_8abf5) := goodIn_app (goodIn_of _ (by decide +kernel)) ggX6_entries_Jx4a65c_size_8abf5
theorem dX6_entries_0 : decode cX6_entries 0 = .ok (.aload_n 0, 1) := by decide +kernel
theorem dX6_entries_1 : decode cX6_entries 1 = .ok (.getfield 31, 3) := by decide +kernel
theorem dX6_entries_4 : decode cX6_entries 4 = .ok (.invokevirtual 67, 3) := by decide +kernel
theorem dX6_entries_7 : decode cX6_entries 7 = .ok (.ireturn, 1) := by decide +kernel
set_option maxRecDepth 20000 in
theorem ggX6_signAt_X6_entryAt : GoodIn wsX6_signAt wsX6_entryAt := goodIn_ca (goodIn_r _ [7, 1, 2, 8, 9, 10, 11, 12, 13, 14, 15, 16, 17, 18, 19, 20, 21, 22, 23, 24, 25, 26, 27, 28, 29, 30, 31, 32, 81, 82, 83, 84, 85, 86, 87, 88, 89] (by decide +kernel) (by decide +kernel)) (goodIn_sub (fun _ h => List.mem_cons_of_mem _ (List.mem_append_left _ (List.mem_append_right _ h))) (by decide +kernel))
set_option maxRecDepth 20000 in
theorem gX6_signAt_X6_entryAt : GoodIn wsX6_signAt (wsV RX6 77 RX6 yX6_entryAt wsX6_entryAt) := goodIn_app (goodIn_of _ (by decide +kernel)) ggX6_signAt_X6_entryAt
set_option maxRecDepth 20000 in
theorem ggX6_signAt_X6_needForm : GoodIn wsX6_signAt wsX6_needForm := goodIn_ca (goodIn_r _ [35, 36, 37] (by decide +kernel) (by decide +kernel)) (goodIn_sub (fun _ h => List.mem_cons_of_mem _ (List.mem_append_right _ h)) (by decide +kernel))
set_option maxRecDepth 20000 in
theorem gX6_signAt_X6_needForm : GoodIn wsX6_signAt (va_wsS RX6 177 yX6_needForm wsX6_needForm) := goodIn_app (goodIn_of _ (by decide +kernel)) ggX6_signAt_X6_needForm
set_option maxRecDepth 20000 in
theorem ggX6_signAt_X6_textOf_c0 : GoodIn wsX6_signAt ([.code yX6_textOf cX6_textOf 3 (some (.object "Postlint$Signs"))]) := goodIn_r _ [41] (by decide +kernel) (by decide +kernel)
set_option maxRecDepth 20000 in
theorem ggX6_signAt_X6_textOf_c1 : GoodIn wsX6_signAt (wsX6_textOf_r1) := goodIn_r _ [42, 43, 44, 45, 46, 47, 48, 49, 50, 51, 52, 53, 54, 55, 56, 57, 58, 59, 60, 61, 62, 63, 64, 6] (by decide +kernel) (by decide +kernel)
set_option maxRecDepth 20000 in
theorem ggX6_signAt_X6_textOf_c2 : GoodIn wsX6_signAt (wsX6_textOf_r2) := goodIn_r _ [65, 66, 67, 68, 69, 70, 71, 72, 73, 74, 75, 76, 77, 78, 79] (by decide +kernel) (by decide +kernel)
set_option maxRecDepth 20000 in
theorem ggX6_signAt_X6_textOf_c3 : GoodIn wsX6_signAt (wsX10) := goodIn_r _ [90, 91, 92, 93, 94, 95] (by decide +kernel) (by decide +kernel)
set_option maxRecDepth 20000 in
theorem ggX6_signAt_X6_textOf_c4 : GoodIn wsX6_signAt (wsX60) := goodIn_r _ [81, 82, 83, 84, 85, 86] (by decide +kernel) (by decide +kernel)
set_option maxRecDepth 20000 in
theorem ggX6_signAt_X6_textOf_c5 : GoodIn wsX6_signAt (wsX40) := goodIn_r _ [96, 97] (by decide +kernel) (by decide +kernel)
set_option maxRecDepth 20000 in
theorem ggX6_signAt_X6_textOf : GoodIn wsX6_signAt wsX6_textOf := (goodIn_c1 ggX6_signAt_X6_textOf_c0 (goodIn_app (goodIn_app (goodIn_app (goodIn_app ggX6_signAt_X6_textOf_c1 ggX6_signAt_X6_textOf_c2) ggX6_signAt_X6_textOf_c3) ggX6_signAt_X6_textOf_c4) ggX6_signAt_X6_textOf_c5))
set_option maxRecDepth 20000 in
theorem gX6_signAt_X6_textOf : GoodIn wsX6_signAt (wsV RX6 180 RX6 yX6_textOf wsX6_textOf) := goodIn_app (goodIn_of _ (by decide +kernel)) ggX6_signAt_X6_textOf
set_option maxRecDepth 20000 in
theorem ggX6_signAt_X4_at : GoodIn wsX6_signAt wsX4_at := goodIn_r _ [62, 54, 63, 96, 97] (by decide +kernel) (by decide +kernel)
set_option maxRecDepth 20000 in
theorem gX6_signAt_X4_at : GoodIn wsX6_signAt (wsV RX6 184 RX4 yX4_at wsX4_at) := goodIn_app (goodIn_of _ (by decide +kernel)) ggX6_signAt_X4_at
theorem dX6_signAt_0 : decode cX6_signAt 0 = .ok (.aload_n 0, 1) := by decide +kernel
theorem dX6_signAt_1 : decode cX6_signAt 1 = .ok (.iload_n 1, 1) := by decide +kernel
theorem dX6_signAt_2 : decode cX6_signAt 2 = .ok (.invokevirtual 77, 3) := by decide +kernel
theorem dX6_signAt_5 : decode cX6_signAt 5 = .ok (.astore 4, 2) := by decide +kernel
theorem dX6_signAt_7 : decode cX6_signAt 7 = .ok (.iload_n 3, 1) := by decide +kernel
theorem dX6_signAt_8 : decode cX6_signAt 8 = .ok (.ifCond .ge 13, 3) := by decide +kernel
theorem dX6_signAt_11 : decode cX6_signAt 11 = .ok (.new 172, 3) := by decide +kernel
theorem dX6_signAt_14 : decode cX6_signAt 14 = .ok (.dup, 1) := by decide +kernel
theorem dX6_signAt_15 : decode cX6_signAt 15 = .ok (.ldc 174, 2) := by decide +kernel
theorem dX6_signAt_17 : decode cX6_signAt 17 = .ok (.invokespecial 176, 3) := by decide +kernel
theorem dX6_signAt_20 : decode cX6_signAt 20 = .ok (.athrow, 1) := by decide +kernel
theorem dX6_signAt_21 : decode cX6_signAt 21 = .ok (.iload_n 2, 1) := by decide +kernel
theorem dX6_signAt_22 : decode cX6_signAt 22 = .ok (.invokestatic 177, 3) := by decide +kernel
theorem dX6_signAt_25 : decode cX6_signAt 25 = .ok (.aload_n 0, 1) := by decide +kernel
theorem dX6_signAt_26 : decode cX6_signAt 26 = .ok (.aload 4, 2) := by decide +kernel
theorem dX6_signAt_28 : decode cX6_signAt 28 = .ok (.iload_n 2, 1) := by decide +kernel
theorem dX6_signAt_29 : decode cX6_signAt 29 = .ok (.invokevirtual 180, 3) := by decide +kernel
theorem dX6_signAt_32 : decode cX6_signAt 32 = .ok (.iload_n 3, 1) := by decide +kernel
theorem dX6_signAt_33 : decode cX6_signAt 33 = .ok (.invokevirtual 184, 3) := by decide +kernel
theorem dX6_signAt_36 : decode cX6_signAt 36 = .ok (.ireturn, 1) := by decide +kernel
set_option maxRecDepth 20000 in
theorem ggX6_length_X6_entryAt : GoodIn wsX6_length wsX6_entryAt := goodIn_ca (goodIn_r _ [5, 6, 7, 8, 9, 10, 11, 12, 13, 14, 15, 16, 17, 18, 19, 20, 21, 22, 23, 24, 25, 26, 27, 28, 29, 30, 31, 32, 81, 82, 83, 84, 85, 86, 87, 88, 89] (by decide +kernel) (by decide +kernel)) (goodIn_sub (fun _ h => List.mem_cons_of_mem _ (List.mem_append_left _ (List.mem_append_right _ h))) (by decide +kernel))
set_option maxRecDepth 20000 in
theorem gX6_length_X6_entryAt : GoodIn wsX6_length (wsV RX6 77 RX6 yX6_entryAt wsX6_entryAt) := goodIn_app (goodIn_of _ (by decide +kernel)) ggX6_length_X6_entryAt
set_option maxRecDepth 20000 in
theorem ggX6_length_X6_needForm : GoodIn wsX6_length wsX6_needForm := goodIn_ca (goodIn_r _ [35, 36, 37] (by decide +kernel) (by decide +kernel)) (goodIn_sub (fun _ h => List.mem_cons_of_mem _ (List.mem_append_right _ h)) (by decide +kernel))
set_option maxRecDepth 20000 in
theorem gX6_length_X6_needForm : GoodIn wsX6_length (va_wsS RX6 177 yX6_needForm wsX6_needForm) := goodIn_app (goodIn_of _ (by decide +kernel)) ggX6_length_X6_needForm
set_option maxRecDepth 20000 in
theorem ggX6_length_X6_textOf_c0 : GoodIn wsX6_length ([.code yX6_textOf cX6_textOf 3 (some (.object "Postlint$Signs"))]) := goodIn_r _ [41] (by decide +kernel) (by decide +kernel)
set_option maxRecDepth 20000 in
theorem ggX6_length_X6_textOf_c1 : GoodIn wsX6_length (wsX6_textOf_r1) := goodIn_r _ [42, 43, 44, 45, 46, 47, 48, 49, 50, 51, 52, 53, 54, 55, 56, 57, 58, 59, 60, 61, 62, 63, 64, 4] (by decide +kernel) (by decide +kernel)
set_option maxRecDepth 20000 in
theorem ggX6_length_X6_textOf_c2 : GoodIn wsX6_length (wsX6_textOf_r2) := goodIn_r _ [65, 66, 67, 68, 69, 70, 71, 72, 73, 74, 75, 76, 77, 78, 79] (by decide +kernel) (by decide +kernel)
set_option maxRecDepth 20000 in
theorem ggX6_length_X6_textOf_c3 : GoodIn wsX6_length (wsX10) := goodIn_r _ [90, 91, 92, 93, 94, 95] (by decide +kernel) (by decide +kernel)
set_option maxRecDepth 20000 in
theorem ggX6_length_X6_textOf_c4 : GoodIn wsX6_length (wsX60) := goodIn_r _ [81, 82, 83, 84, 85, 86] (by decide +kernel) (by decide +kernel)
set_option maxRecDepth 20000 in
theorem ggX6_length_X6_textOf_c5 : GoodIn wsX6_length (wsX40) := goodIn_r _ [96, 97] (by decide +kernel) (by decide +kernel)
set_option maxRecDepth 20000 in
theorem ggX6_length_X6_textOf : GoodIn wsX6_length wsX6_textOf := (goodIn_c1 ggX6_length_X6_textOf_c0 (goodIn_app (goodIn_app (goodIn_app (goodIn_app ggX6_length_X6_textOf_c1 ggX6_length_X6_textOf_c2) ggX6_length_X6_textOf_c3) ggX6_length_X6_textOf_c4) ggX6_length_X6_textOf_c5))
set_option maxRecDepth 20000 in
theorem gX6_length_X6_textOf : GoodIn wsX6_length (wsV RX6 180 RX6 yX6_textOf wsX6_textOf) := goodIn_app (goodIn_of _ (by decide +kernel)) ggX6_length_X6_textOf
set_option maxRecDepth 20000 in
theorem ggX6_length_X4_size : GoodIn wsX6_length wsX4_size := goodIn_r _ [58, 54, 96, 97] (by decide +kernel) (by decide +kernel)
set_option maxRecDepth 20000 in
theorem gX6_length_X4_size : GoodIn wsX6_length (wsV RX6 48 RX4 yX4_size wsX4_size) := goodIn_app (goodIn_of _ (by decide +kernel)) ggX6_length_X4_size
theorem dX6_length_0 : decode cX6_length 0 = .ok (.aload_n 0, 1) := by decide +kernel
theorem dX6_length_1 : decode cX6_length 1 = .ok (.iload_n 1, 1) := by decide +kernel
theorem dX6_length_2 : decode cX6_length 2 = .ok (.invokevirtual 77, 3) := by decide +kernel
theorem dX6_length_5 : decode cX6_length 5 = .ok (.astore_n 3, 1) := by decide +kernel
theorem dX6_length_6 : decode cX6_length 6 = .ok (.iload_n 2, 1) := by decide +kernel
theorem dX6_length_7 : decode cX6_length 7 = .ok (.invokestatic 177, 3) := by decide +kernel
theorem dX6_length_10 : decode cX6_length 10 = .ok (.aload_n 0, 1) := by decide +kernel
theorem dX6_length_11 : decode cX6_length 11 = .ok (.aload_n 3, 1) := by decide +kernel
theorem dX6_length_12 : decode cX6_length 12 = .ok (.iload_n 2, 1) := by decide +kernel
theorem dX6_length_13 : decode cX6_length 13 = .ok (.invokevirtual 180, 3) := by decide +kernel
theorem dX6_length_16 : decode cX6_length 16 = .ok (.invokevirtual 48, 3) := by decide +kernel
theorem dX6_length_19 : decode cX6_length 19 = .ok (.ireturn, 1) := by decide +kernel
set_option maxRecDepth 20000 in
theorem ggX6_proof_X6_needEntry : GoodIn wsX6_proof wsX6_needEntry := goodIn_ca (goodIn_r _ [5, 6, 7, 8, 9, 10, 11, 12, 13, 14, 48, 49, 50, 51, 52, 53, 54, 55, 56] (by decide +kernel) (by decide +kernel)) (goodIn_sub (fun _ h => List.mem_cons_of_mem _ (List.mem_append_right _ h)) (by decide +kernel))
set_option maxRecDepth 20000 in
theorem gX6_proof_X6_needEntry : GoodIn wsX6_proof (wsV RX6 144 RX6 yX6_needEntry wsX6_needEntry) := goodIn_app (goodIn_of _ (by decide +kernel)) ggX6_proof_X6_needEntry
set_option maxRecDepth 20000 in
theorem ggX6_proof_X6_chainUpTo_c0 : GoodIn wsX6_proof ([.code yX6_chainUpTo cX6_chainUpTo 4 (some .int)]) := goodIn_r _ [18] (by decide +kernel) (by decide +kernel)
set_option maxRecDepth 20000 in
theorem ggX6_proof_X6_chainUpTo_c1 : GoodIn wsX6_proof (wsX6_chainUpTo_r1) := goodIn_r _ [8, 19, 9, 10, 11, 12, 13, 14, 20, 21, 22, 23, 24, 25, 26, 27, 28, 29, 30, 31, 32, 33, 34, 35] (by decide +kernel) (by decide +kernel)
set_option maxRecDepth 20000 in
theorem ggX6_proof_X6_chainUpTo_c2 : GoodIn wsX6_proof (wsX6_chainUpTo_r2) := goodIn_r _ [36, 37, 38, 39, 40, 41, 42, 43, 44, 45, 46, 47] (by decide +kernel) (by decide +kernel)
set_option maxRecDepth 20000 in
theorem ggX6_proof_X6_chainUpTo_c3 : GoodIn wsX6_proof (wsX60) := goodIn_r _ [48, 49, 50, 51, 52, 53] (by decide +kernel) (by decide +kernel)
set_option maxRecDepth 20000 in
theorem ggX6_proof_X6_chainUpTo_c4 : GoodIn wsX6_proof (wsX10) := goodIn_r _ [57, 58, 59, 60, 61, 62] (by decide +kernel) (by decide +kernel)
set_option maxRecDepth 20000 in
theorem ggX6_proof_X6_chainUpTo_c5 : GoodIn wsX6_proof (wsJx4a65c0) := goodIn_r _ [54, 55, 56] (by decide +kernel) (by decide +kernel)
set_option maxRecDepth 20000 in
theorem ggX6_proof_X6_chainUpTo_c6 : GoodIn wsX6_proof (wsX40) := goodIn_r _ [63, 64] (by decide +kernel) (by decide +kernel)
set_option maxRecDepth 20000 in
theorem ggX6_proof_X6_chainUpTo : GoodIn wsX6_proof wsX6_chainUpTo := (goodIn_c1 ggX6_proof_X6_chainUpTo_c0 (goodIn_app (goodIn_app (goodIn_app (goodIn_app (goodIn_app ggX6_proof_X6_chainUpTo_c1 ggX6_proof_X6_chainUpTo_c2) ggX6_proof_X6_chainUpTo_c3) ggX6_proof_X6_chainUpTo_c4) ggX6_proof_X6_chainUpTo_c5) ggX6_proof_X6_chainUpTo_c6))
set_option maxRecDepth 20000 in
theorem gX6_proof_X6_chainUpTo : GoodIn wsX6_proof (wsV RX6 153 RX6 yX6_chainUpTo wsX6_chainUpTo) := goodIn_app (goodIn_of _ (by decide +kernel)) ggX6_proof_X6_chainUpTo
theorem dX6_proof_0 : decode cX6_proof 0 = .ok (.aload_n 0, 1) := by decide +kernel
theorem dX6_proof_1 : decode cX6_proof 1 = .ok (.iload_n 1, 1) := by decide +kernel
theorem dX6_proof_2 : decode cX6_proof 2 = .ok (.invokevirtual 144, 3) := by decide +kernel
theorem dX6_proof_5 : decode cX6_proof 5 = .ok (.aload_n 0, 1) := by decide +kernel
theorem dX6_proof_6 : decode cX6_proof 6 = .ok (.iload_n 1, 1) := by decide +kernel
theorem dX6_proof_7 : decode cX6_proof 7 = .ok (.invokevirtual 153, 3) := by decide +kernel
theorem dX6_proof_10 : decode cX6_proof 10 = .ok (.ireturn, 1) := by decide +kernel
set_option maxRecDepth 20000 in
theorem ggX6_proofAnew_X6_needEntry : GoodIn wsX6_proofAnew wsX6_needEntry := goodIn_ca (goodIn_r _ [5, 6, 7, 8, 9, 10, 11, 12, 13, 14, 48, 49, 50, 51, 52, 53, 54, 55, 56] (by decide +kernel) (by decide +kernel)) (goodIn_sub (fun _ h => List.mem_cons_of_mem _ (List.mem_append_right _ h)) (by decide +kernel))
set_option maxRecDepth 20000 in
theorem gX6_proofAnew_X6_needEntry : GoodIn wsX6_proofAnew (wsV RX6 144 RX6 yX6_needEntry wsX6_needEntry) := goodIn_app (goodIn_of _ (by decide +kernel)) ggX6_proofAnew_X6_needEntry
set_option maxRecDepth 20000 in
theorem ggX6_proofAnew_X6_chainUpTo_c0 : GoodIn wsX6_proofAnew ([.code yX6_chainUpTo cX6_chainUpTo 4 (some .int)]) := goodIn_r _ [18] (by decide +kernel) (by decide +kernel)
set_option maxRecDepth 20000 in
theorem ggX6_proofAnew_X6_chainUpTo_c1 : GoodIn wsX6_proofAnew (wsX6_chainUpTo_r1) := goodIn_r _ [8, 19, 9, 10, 11, 12, 13, 14, 20, 21, 22, 23, 24, 25, 26, 27, 28, 29, 30, 31, 32, 33, 34, 35] (by decide +kernel) (by decide +kernel)
set_option maxRecDepth 20000 in
theorem ggX6_proofAnew_X6_chainUpTo_c2 : GoodIn wsX6_proofAnew (wsX6_chainUpTo_r2) := goodIn_r _ [36, 37, 38, 39, 40, 41, 42, 43, 44, 45, 46, 47] (by decide +kernel) (by decide +kernel)
set_option maxRecDepth 20000 in
theorem ggX6_proofAnew_X6_chainUpTo_c3 : GoodIn wsX6_proofAnew (wsX60) := goodIn_r _ [48, 49, 50, 51, 52, 53] (by decide +kernel) (by decide +kernel)
set_option maxRecDepth 20000 in
theorem ggX6_proofAnew_X6_chainUpTo_c4 : GoodIn wsX6_proofAnew (wsX10) := goodIn_r _ [57, 58, 59, 60, 61, 62] (by decide +kernel) (by decide +kernel)
set_option maxRecDepth 20000 in
theorem ggX6_proofAnew_X6_chainUpTo_c5 : GoodIn wsX6_proofAnew (wsJx4a65c0) := goodIn_r _ [54, 55, 56] (by decide +kernel) (by decide +kernel)
set_option maxRecDepth 20000 in
theorem ggX6_proofAnew_X6_chainUpTo_c6 : GoodIn wsX6_proofAnew (wsX40) := goodIn_r _ [63, 64] (by decide +kernel) (by decide +kernel)
set_option maxRecDepth 20000 in
theorem ggX6_proofAnew_X6_chainUpTo : GoodIn wsX6_proofAnew wsX6_chainUpTo := (goodIn_c1 ggX6_proofAnew_X6_chainUpTo_c0 (goodIn_app (goodIn_app (goodIn_app (goodIn_app (goodIn_app ggX6_proofAnew_X6_chainUpTo_c1 ggX6_proofAnew_X6_chainUpTo_c2) ggX6_proofAnew_X6_chainUpTo_c3) ggX6_proofAnew_X6_chainUpTo_c4) ggX6_proofAnew_X6_chainUpTo_c5) ggX6_proofAnew_X6_chainUpTo_c6))
set_option maxRecDepth 20000 in
theorem gX6_proofAnew_X6_chainUpTo : GoodIn wsX6_proofAnew (wsV RX6 153 RX6 yX6_chainUpTo wsX6_chainUpTo) := goodIn_app (goodIn_of _ (by decide +kernel)) ggX6_proofAnew_X6_chainUpTo
theorem dX6_proofAnew_0 : decode cX6_proofAnew 0 = .ok (.aload_n 0, 1) := by decide +kernel
theorem dX6_proofAnew_1 : decode cX6_proofAnew 1 = .ok (.iload_n 1, 1) := by decide +kernel
theorem dX6_proofAnew_2 : decode cX6_proofAnew 2 = .ok (.invokevirtual 144, 3) := by decide +kernel
theorem dX6_proofAnew_5 : decode cX6_proofAnew 5 = .ok (.aload_n 0, 1) := by decide +kernel
theorem dX6_proofAnew_6 : decode cX6_proofAnew 6 = .ok (.iload_n 1, 1) := by decide +kernel
theorem dX6_proofAnew_7 : decode cX6_proofAnew 7 = .ok (.invokevirtual 153, 3) := by decide +kernel
theorem dX6_proofAnew_10 : decode cX6_proofAnew 10 = .ok (.ireturn, 1) := by decide +kernel
set_option maxRecDepth 20000 in
theorem ggX6_gets_X6_entryAt : GoodIn wsX6_gets wsX6_entryAt := goodIn_ca (goodIn_r _ [5, 6, 7, 8, 9, 10, 11, 12, 13, 14, 15, 16, 17, 18, 19, 20, 21, 22, 23, 24, 25, 26, 27, 28, 29, 30, 31, 32, 44, 45, 46, 47, 48, 49, 50, 51, 52] (by decide +kernel) (by decide +kernel)) (goodIn_sub (fun _ h => List.mem_cons_of_mem _ (List.mem_append_left _ (List.mem_append_right _ h))) (by decide +kernel))
set_option maxRecDepth 20000 in
theorem gX6_gets_X6_entryAt : GoodIn wsX6_gets (wsV RX6 77 RX6 yX6_entryAt wsX6_entryAt) := goodIn_app (goodIn_of _ (by decide +kernel)) ggX6_gets_X6_entryAt
set_option maxRecDepth 20000 in
theorem ggX6_gets_X6_needAccount : GoodIn wsX6_gets wsX6_needAccount := goodIn_ca (goodIn_r _ [35, 36, 37] (by decide +kernel) (by decide +kernel)) (goodIn_sub (fun _ h => List.mem_cons_of_mem _ (List.mem_append_right _ h)) (by decide +kernel))
set_option maxRecDepth 20000 in
theorem gX6_gets_X6_needAccount : GoodIn wsX6_gets (va_wsS RX6 117 yX6_needAccount wsX6_needAccount) := goodIn_app (goodIn_of _ (by decide +kernel)) ggX6_gets_X6_needAccount
set_option maxRecDepth 20000 in
theorem ggX6_gets_X1_amountOf : GoodIn wsX6_gets wsX1_amountOf := goodIn_r _ [42, 43, 53, 54, 55, 56, 57, 58] (by decide +kernel) (by decide +kernel)
set_option maxRecDepth 20000 in
theorem gX6_gets_X1_amountOf : GoodIn wsX6_gets (wsV RX6 187 RX1 yX1_amountOf wsX1_amountOf) := goodIn_app (goodIn_of _ (by decide +kernel)) ggX6_gets_X1_amountOf
theorem dX6_gets_0 : decode cX6_gets 0 = .ok (.aload_n 0, 1) := by decide +kernel
theorem dX6_gets_1 : decode cX6_gets 1 = .ok (.iload_n 1, 1) := by decide +kernel
theorem dX6_gets_2 : decode cX6_gets 2 = .ok (.invokevirtual 77, 3) := by decide +kernel
theorem dX6_gets_5 : decode cX6_gets 5 = .ok (.astore_n 3, 1) := by decide +kernel
theorem dX6_gets_6 : decode cX6_gets 6 = .ok (.iload_n 2, 1) := by decide +kernel
theorem dX6_gets_7 : decode cX6_gets 7 = .ok (.invokestatic 117, 3) := by decide +kernel
theorem dX6_gets_10 : decode cX6_gets 10 = .ok (.aload_n 3, 1) := by decide +kernel
theorem dX6_gets_11 : decode cX6_gets 11 = .ok (.iload_n 2, 1) := by decide +kernel
theorem dX6_gets_12 : decode cX6_gets 12 = .ok (.invokevirtual 187, 3) := by decide +kernel
theorem dX6_gets_15 : decode cX6_gets 15 = .ok (.ireturn, 1) := by decide +kernel
set_option maxRecDepth 20000 in
theorem ggX6_sum_X6_needEntry : GoodIn wsX6_sum wsX6_needEntry := goodIn_ca (goodIn_r _ [5, 6, 7, 8, 9, 10, 11, 12, 13, 14, 48, 49, 50, 51, 52, 53, 54, 55, 56] (by decide +kernel) (by decide +kernel)) (goodIn_sub (fun _ h => List.mem_cons_of_mem _ (List.mem_append_left _ (List.mem_append_right _ h))) (by decide +kernel))
set_option maxRecDepth 20000 in
theorem gX6_sum_X6_needEntry : GoodIn wsX6_sum (wsV RX6 144 RX6 yX6_needEntry wsX6_needEntry) := goodIn_app (goodIn_of _ (by decide +kernel)) ggX6_sum_X6_needEntry
set_option maxRecDepth 20000 in
theorem ggX6_sum_X6_needAccount : GoodIn wsX6_sum wsX6_needAccount := goodIn_ca (goodIn_r _ [17, 18, 19] (by decide +kernel) (by decide +kernel)) (goodIn_sub (fun _ h => List.mem_cons_of_mem _ (List.mem_append_right _ h)) (by decide +kernel))
set_option maxRecDepth 20000 in
theorem gX6_sum_X6_needAccount : GoodIn wsX6_sum (va_wsS RX6 117 yX6_needAccount wsX6_needAccount) := goodIn_app (goodIn_of _ (by decide +kernel)) ggX6_sum_X6_needAccount
set_option maxRecDepth 20000 in
theorem ggX6_sum_X6_sumUpTo_c0 : GoodIn wsX6_sum ([.code yX6_sumUpTo cX6_sumUpTo 5 (some .int)]) := goodIn_r _ [23] (by decide +kernel) (by decide +kernel)
set_option maxRecDepth 20000 in
theorem ggX6_sum_X6_sumUpTo_c1 : GoodIn wsX6_sum (wsX6_sumUpTo_r1) := goodIn_r _ [8, 24, 9, 10, 11, 12, 13, 14, 25, 26, 27, 28, 29, 30, 31, 32, 33, 34, 35, 36, 37, 38, 39, 40] (by decide +kernel) (by decide +kernel)
set_option maxRecDepth 20000 in
theorem ggX6_sum_X6_sumUpTo_c2 : GoodIn wsX6_sum (wsX6_sumUpTo_r2) := goodIn_r _ [41, 42, 43, 44, 45, 46, 47] (by decide +kernel) (by decide +kernel)
set_option maxRecDepth 20000 in
theorem ggX6_sum_X6_sumUpTo_c3 : GoodIn wsX6_sum (wsX60) := goodIn_r _ [48, 49, 50, 51, 52, 53] (by decide +kernel) (by decide +kernel)
set_option maxRecDepth 20000 in
theorem ggX6_sum_X6_sumUpTo_c4 : GoodIn wsX6_sum (wsJx4a65c0) := goodIn_r _ [54, 55, 56] (by decide +kernel) (by decide +kernel)
set_option maxRecDepth 20000 in
theorem ggX6_sum_X6_sumUpTo_c5 : GoodIn wsX6_sum (wsX10) := goodIn_r _ [57, 58, 59, 60, 61, 62] (by decide +kernel) (by decide +kernel)
set_option maxRecDepth 20000 in
theorem ggX6_sum_X6_sumUpTo : GoodIn wsX6_sum wsX6_sumUpTo := (goodIn_c1 ggX6_sum_X6_sumUpTo_c0 (goodIn_app (goodIn_app (goodIn_app (goodIn_app ggX6_sum_X6_sumUpTo_c1 ggX6_sum_X6_sumUpTo_c2) ggX6_sum_X6_sumUpTo_c3) ggX6_sum_X6_sumUpTo_c4) ggX6_sum_X6_sumUpTo_c5))
set_option maxRecDepth 20000 in
theorem gX6_sum_X6_sumUpTo : GoodIn wsX6_sum (wsV RX6 190 RX6 yX6_sumUpTo wsX6_sumUpTo) := goodIn_app (goodIn_of _ (by decide +kernel)) ggX6_sum_X6_sumUpTo
theorem dX6_sum_0 : decode cX6_sum 0 = .ok (.iload_n 1, 1) := by decide +kernel
theorem dX6_sum_1 : decode cX6_sum 1 = .ok (.iconst (-1), 1) := by decide +kernel
theorem dX6_sum_2 : decode cX6_sum 2 = .ok (.if_icmp .eq 8, 3) := by decide +kernel
theorem dX6_sum_5 : decode cX6_sum 5 = .ok (.aload_n 0, 1) := by decide +kernel
theorem dX6_sum_6 : decode cX6_sum 6 = .ok (.iload_n 1, 1) := by decide +kernel
theorem dX6_sum_7 : decode cX6_sum 7 = .ok (.invokevirtual 144, 3) := by decide +kernel
theorem dX6_sum_10 : decode cX6_sum 10 = .ok (.iload_n 2, 1) := by decide +kernel
theorem dX6_sum_11 : decode cX6_sum 11 = .ok (.invokestatic 117, 3) := by decide +kernel
theorem dX6_sum_14 : decode cX6_sum 14 = .ok (.aload_n 0, 1) := by decide +kernel
theorem dX6_sum_15 : decode cX6_sum 15 = .ok (.iload_n 1, 1) := by decide +kernel
theorem dX6_sum_16 : decode cX6_sum 16 = .ok (.iload_n 2, 1) := by decide +kernel
theorem dX6_sum_17 : decode cX6_sum 17 = .ok (.invokevirtual 190, 3) := by decide +kernel
theorem dX6_sum_20 : decode cX6_sum 20 = .ok (.ireturn, 1) := by decide +kernel
set_option maxRecDepth 20000 in
theorem ggX6_doubts_X6_needEntry : GoodIn wsX6_doubts wsX6_needEntry := goodIn_ca (goodIn_r _ [7, 8, 9, 10, 11, 12, 13, 14, 15, 16, 72, 73, 74, 75, 76, 77, 78, 79, 80] (by decide +kernel) (by decide +kernel)) (goodIn_sub (fun _ h => List.mem_cons_of_mem _ (List.mem_append_right _ h)) (by decide +kernel))
set_option maxRecDepth 20000 in
theorem gX6_doubts_X6_needEntry : GoodIn wsX6_doubts (wsV RX6 144 RX6 yX6_needEntry wsX6_needEntry) := goodIn_app (goodIn_of _ (by decide +kernel)) ggX6_doubts_X6_needEntry
set_option maxRecDepth 20000 in
theorem ggX6_doubts_Jx4a65c_size_8abf5 : GoodIn wsX6_doubts wsJx4a65c_size_8abf5 := goodIn_r _ [15, 16, 78, 79, 80] (by decide +kernel) (by decide +kernel)
set_option maxRecDepth 20000 in
theorem gX6_doubts_Jx4a65c_size_8abf5 : GoodIn wsX6_doubts (wsV RX6 67 RJx4a65c yJx4a65c_size_8abf5 wsJx4a65c_size_8abf5) := goodIn_app (goodIn_of _ (by decide +kernel)) ggX6_doubts_Jx4a65c_size_8abf5
set_option maxRecDepth 20000 in
theorem ggX6_doubts_Jx4a65c_get_915e3 : GoodIn wsX6_doubts wsJx4a65c_get_915e3 := goodIn_r _ [20, 16, 21, 22, 23, 24, 25, 26, 27, 28, 29, 30, 31, 14, 32, 33, 78, 79, 80] (by decide +kernel) (by decide +kernel)
set_option maxRecDepth 20000 in
theorem gX6_doubts_Jx4a65c_get_915e3 : GoodIn wsX6_doubts (wsV RX6 109 RJx4a65c yJx4a65c_get_915e3 wsJx4a65c_get_915e3) := goodIn_app (goodIn_of _ (by decide +kernel)) ggX6_doubts_Jx4a65c_get_915e3
set_option maxRecDepth 20000 in
theorem ggX6_doubts_X6_isDoubtedBy_c0 : GoodIn wsX6_doubts ([.code yX6_isDoubtedBy cX6_isDoubtedBy 3 (some .boolean)]) := goodIn_r _ [37] (by decide +kernel) (by decide +kernel)
set_option maxRecDepth 20000 in
theorem ggX6_doubts_X6_isDoubtedBy_c1 : GoodIn wsX6_doubts (wsX6_isDoubtedBy_r1) := goodIn_r _ [10, 38, 11, 12, 13, 14, 15, 16, 39, 40, 41, 6, 42, 17, 18, 19, 20, 21, 22, 23, 24, 25, 26, 27] (by decide +kernel) (by decide +kernel)
set_option maxRecDepth 20000 in
theorem ggX6_doubts_X6_isDoubtedBy_c2 : GoodIn wsX6_doubts (wsX6_isDoubtedBy_r2) := goodIn_r _ [28, 29, 30, 31, 32, 33, 43, 44, 45, 46, 47, 48, 49, 50, 51, 52, 53, 54, 55, 56, 57, 58, 59, 60] (by decide +kernel) (by decide +kernel)
set_option maxRecDepth 20000 in
theorem ggX6_doubts_X6_isDoubtedBy_c3 : GoodIn wsX6_doubts (wsX6_isDoubtedBy_r3) := goodIn_r _ [61, 62, 63, 64, 65, 66, 67, 68, 69, 70, 71] (by decide +kernel) (by decide +kernel)
set_option maxRecDepth 20000 in
theorem ggX6_doubts_X6_isDoubtedBy_c4 : GoodIn wsX6_doubts (wsX30) := goodIn_r _ [81, 82, 83, 84, 85] (by decide +kernel) (by decide +kernel)
set_option maxRecDepth 20000 in
theorem ggX6_doubts_X6_isDoubtedBy_c5 : GoodIn wsX6_doubts (wsX60) := goodIn_r _ [72, 73, 74, 75, 76, 77] (by decide +kernel) (by decide +kernel)
set_option maxRecDepth 20000 in
theorem ggX6_doubts_X6_isDoubtedBy_c6 : GoodIn wsX6_doubts (wsJx4a65c0) := goodIn_r _ [78, 79, 80] (by decide +kernel) (by decide +kernel)
set_option maxRecDepth 20000 in
theorem ggX6_doubts_X6_isDoubtedBy_c7 : GoodIn wsX6_doubts (wsX10) := goodIn_r _ [86, 87, 88, 89, 90, 91] (by decide +kernel) (by decide +kernel)
set_option maxRecDepth 20000 in
theorem ggX6_doubts_X6_isDoubtedBy : GoodIn wsX6_doubts wsX6_isDoubtedBy := (goodIn_c1 ggX6_doubts_X6_isDoubtedBy_c0 (goodIn_app (goodIn_app (goodIn_app (goodIn_app (goodIn_app ggX6_doubts_X6_isDoubtedBy_c1 (goodIn_app ggX6_doubts_X6_isDoubtedBy_c2 ggX6_doubts_X6_isDoubtedBy_c3)) ggX6_doubts_X6_isDoubtedBy_c4) ggX6_doubts_X6_isDoubtedBy_c5) ggX6_doubts_X6_isDoubtedBy_c6) ggX6_doubts_X6_isDoubtedBy_c7))
set_option maxRecDepth 20000 in
theorem gX6_doubts_X6_isDoubtedBy : GoodIn wsX6_doubts (wsV RX6 194 RX6 yX6_isDoubtedBy wsX6_isDoubtedBy) := goodIn_app (goodIn_of _ (by decide +kernel)) ggX6_doubts_X6_isDoubtedBy
theorem dX6_doubts_0 : decode cX6_doubts 0 = .ok (.aload_n 0, 1) := by decide +kernel
theorem dX6_doubts_1 : decode cX6_doubts 1 = .ok (.iload_n 1, 1) := by decide +kernel
theorem dX6_doubts_2 : decode cX6_doubts 2 = .ok (.invokevirtual 144, 3) := by decide +kernel
theorem dX6_doubts_5 : decode cX6_doubts 5 = .ok (.iconst 0, 1) := by decide +kernel
theorem dX6_doubts_6 : decode cX6_doubts 6 = .ok (.istore_n 2, 1) := by decide +kernel
theorem dX6_doubts_7 : decode cX6_doubts 7 = .ok (.iconst 0, 1) := by decide +kernel
theorem dX6_doubts_8 : decode cX6_doubts 8 = .ok (.istore_n 3, 1) := by decide +kernel
theorem dX6_doubts_9 : decode cX6_doubts 9 = .ok (.iload_n 3, 1) := by decide +kernel
theorem dX6_doubts_10 : decode cX6_doubts 10 = .ok (.aload_n 0, 1) := by decide +kernel
theorem dX6_doubts_11 : decode cX6_doubts 11 = .ok (.getfield 35, 3) := by decide +kernel
theorem dX6_doubts_14 : decode cX6_doubts 14 = .ok (.invokevirtual 67, 3) := by decide +kernel
theorem dX6_doubts_17 : decode cX6_doubts 17 = .ok (.if_icmp .ge 34, 3) := by decide +kernel
theorem dX6_doubts_20 : decode cX6_doubts 20 = .ok (.aload_n 0, 1) := by decide +kernel
theorem dX6_doubts_21 : decode cX6_doubts 21 = .ok (.iload_n 1, 1) := by decide +kernel
theorem dX6_doubts_22 : decode cX6_doubts 22 = .ok (.aload_n 0, 1) := by decide +kernel
theorem dX6_doubts_23 : decode cX6_doubts 23 = .ok (.getfield 35, 3) := by decide +kernel
theorem dX6_doubts_26 : decode cX6_doubts 26 = .ok (.iload_n 3, 1) := by decide +kernel
theorem dX6_doubts_27 : decode cX6_doubts 27 = .ok (.invokevirtual 109, 3) := by decide +kernel
theorem dX6_doubts_30 : decode cX6_doubts 30 = .ok (.checkcast 126, 3) := by decide +kernel
theorem dX6_doubts_33 : decode cX6_doubts 33 = .ok (.invokevirtual 194, 3) := by decide +kernel
theorem dX6_doubts_36 : decode cX6_doubts 36 = .ok (.ifCond .eq 9, 3) := by decide +kernel
theorem dX6_doubts_39 : decode cX6_doubts 39 = .ok (.iload_n 2, 1) := by decide +kernel
theorem dX6_doubts_40 : decode cX6_doubts 40 = .ok (.iconst 1, 1) := by decide +kernel
theorem dX6_doubts_41 : decode cX6_doubts 41 = .ok (.iload_n 3, 1) := by decide +kernel
theorem dX6_doubts_42 : decode cX6_doubts 42 = .ok (.ishl, 1) := by decide +kernel
theorem dX6_doubts_43 : decode cX6_doubts 43 = .ok (.ior, 1) := by decide +kernel
theorem dX6_doubts_44 : decode cX6_doubts 44 = .ok (.istore_n 2, 1) := by decide +kernel
theorem dX6_doubts_45 : decode cX6_doubts 45 = .ok (.iinc 3 1, 3) := by decide +kernel
theorem dX6_doubts_48 : decode cX6_doubts 48 = .ok (.goto (-39), 3) := by decide +kernel
theorem dX6_doubts_51 : decode cX6_doubts 51 = .ok (.iload_n 2, 1) := by decide +kernel
theorem dX6_doubts_52 : decode cX6_doubts 52 = .ok (.ireturn, 1) := by decide +kernel
set_option maxRecDepth 20000 in
theorem ggX6_doubted_X6_ruleAt : GoodIn wsX6_doubted wsX6_ruleAt := goodIn_ca (goodIn_r _ [5, 6, 7, 8, 9, 10, 11, 12, 13, 14, 15, 16, 17, 18, 19, 20, 21, 22, 23, 24, 25, 26, 27, 28, 29, 30, 31, 32, 76, 77, 78, 79, 80, 81, 82, 83, 84] (by decide +kernel) (by decide +kernel)) (goodIn_sub (fun _ h => List.mem_cons_of_mem _ (List.mem_append_right _ h)) (by decide +kernel))
set_option maxRecDepth 20000 in
theorem gX6_doubted_X6_ruleAt : GoodIn wsX6_doubted (wsV RX6 131 RX6 yX6_ruleAt wsX6_ruleAt) := goodIn_app (goodIn_of _ (by decide +kernel)) ggX6_doubted_X6_ruleAt
set_option maxRecDepth 20000 in
theorem ggX6_doubted_X6_countDoubtedBy_c0 : GoodIn wsX6_doubted ([.code yX6_countDoubtedBy cX6_countDoubtedBy 4 (some .int)]) := goodIn_r _ [36] (by decide +kernel) (by decide +kernel)
set_option maxRecDepth 20000 in
theorem ggX6_doubted_X6_countDoubtedBy_c1 : GoodIn wsX6_doubted (wsX6_countDoubtedBy_r1) := goodIn_r _ [37, 10, 11, 12, 13, 14, 15, 38, 39, 40, 4, 41, 42, 43, 44, 45, 46, 16, 17, 18, 19, 20, 21, 22] (by decide +kernel) (by decide +kernel)
set_option maxRecDepth 20000 in
theorem ggX6_doubted_X6_countDoubtedBy_c2 : GoodIn wsX6_doubted (wsX6_countDoubtedBy_r2) := goodIn_r _ [23, 24, 25, 26, 27, 28, 29, 30, 31, 32, 47, 48, 49, 50, 51, 52, 53, 54, 55, 56, 57, 58, 59, 60] (by decide +kernel) (by decide +kernel)
set_option maxRecDepth 20000 in
theorem ggX6_doubted_X6_countDoubtedBy_c3 : GoodIn wsX6_doubted (wsX6_countDoubtedBy_r3) := goodIn_r _ [61, 62, 63, 64, 65, 66, 67, 68, 69, 70, 71, 72, 73, 74, 75] (by decide +kernel) (by decide +kernel)
set_option maxRecDepth 20000 in
theorem ggX6_doubted_X6_countDoubtedBy_c4 : GoodIn wsX6_doubted (wsX60) := goodIn_r _ [76, 77, 78, 79, 80, 81] (by decide +kernel) (by decide +kernel)
set_option maxRecDepth 20000 in
theorem ggX6_doubted_X6_countDoubtedBy_c5 : GoodIn wsX6_doubted (wsJx4a65c0) := goodIn_r _ [82, 83, 84] (by decide +kernel) (by decide +kernel)
set_option maxRecDepth 20000 in
theorem ggX6_doubted_X6_countDoubtedBy_c6 : GoodIn wsX6_doubted (wsX30) := goodIn_r _ [85, 86, 87, 88, 89] (by decide +kernel) (by decide +kernel)
set_option maxRecDepth 20000 in
theorem ggX6_doubted_X6_countDoubtedBy_c7 : GoodIn wsX6_doubted (wsX10) := goodIn_r _ [90, 91, 92, 93, 94, 95] (by decide +kernel) (by decide +kernel)
set_option maxRecDepth 20000 in
theorem ggX6_doubted_X6_countDoubtedBy : GoodIn wsX6_doubted wsX6_countDoubtedBy := (goodIn_c1 ggX6_doubted_X6_countDoubtedBy_c0 (goodIn_app (goodIn_app (goodIn_app (goodIn_app (goodIn_app ggX6_doubted_X6_countDoubtedBy_c1 (goodIn_app ggX6_doubted_X6_countDoubtedBy_c2 ggX6_doubted_X6_countDoubtedBy_c3)) ggX6_doubted_X6_countDoubtedBy_c4) ggX6_doubted_X6_countDoubtedBy_c5) ggX6_doubted_X6_countDoubtedBy_c6) ggX6_doubted_X6_countDoubtedBy_c7))
set_option maxRecDepth 20000 in
theorem gX6_doubted_X6_countDoubtedBy : GoodIn wsX6_doubted (wsV RX6 140 RX6 yX6_countDoubtedBy wsX6_countDoubtedBy) := goodIn_app (goodIn_of _ (by decide +kernel)) ggX6_doubted_X6_countDoubtedBy
theorem dX6_doubted_0 : decode cX6_doubted 0 = .ok (.aload_n 0, 1) := by decide +kernel
theorem dX6_doubted_1 : decode cX6_doubted 1 = .ok (.aload_n 0, 1) := by decide +kernel
theorem dX6_doubted_2 : decode cX6_doubted 2 = .ok (.iload_n 1, 1) := by decide +kernel
theorem dX6_doubted_3 : decode cX6_doubted 3 = .ok (.invokevirtual 131, 3) := by decide +kernel
theorem dX6_doubted_6 : decode cX6_doubted 6 = .ok (.invokevirtual 140, 3) := by decide +kernel
theorem dX6_doubted_9 : decode cX6_doubted 9 = .ok (.ireturn, 1) := by decide +kernel
set_option maxRecDepth 20000 in
theorem ggX6_isFrozen_X6_needEntry : GoodIn wsX6_isFrozen wsX6_needEntry := goodIn_ca (goodIn_r _ [5, 6, 7, 8, 9, 10, 11, 12, 13, 14, 38, 39, 40, 41, 42, 43, 44, 45, 46] (by decide +kernel) (by decide +kernel)) (goodIn_sub (fun _ h => List.mem_cons_of_mem _ (List.mem_append_right _ h)) (by decide +kernel))
set_option maxRecDepth 20000 in
theorem gX6_isFrozen_X6_needEntry : GoodIn wsX6_isFrozen (wsV RX6 144 RX6 yX6_needEntry wsX6_needEntry) := goodIn_app (goodIn_of _ (by decide +kernel)) ggX6_isFrozen_X6_needEntry
set_option maxRecDepth 20000 in
theorem ggX6_isFrozen_X6_freezes_c0 : GoodIn wsX6_isFrozen ([.code yX6_freezes cX6_freezes 4 (some .boolean)]) := goodIn_r _ [18] (by decide +kernel) (by decide +kernel)
set_option maxRecDepth 20000 in
theorem ggX6_isFrozen_X6_freezes_c1 : GoodIn wsX6_isFrozen (wsX6_freezes_r1) := goodIn_r _ [19, 20, 9, 10, 11, 12, 13, 14, 21, 22, 23, 24, 25, 26, 27, 28, 29, 30, 31, 32, 33, 34, 35, 36] (by decide +kernel) (by decide +kernel)
set_option maxRecDepth 20000 in
theorem ggX6_isFrozen_X6_freezes_c2 : GoodIn wsX6_isFrozen (wsX6_freezes_r2) := goodIn_r _ [37] (by decide +kernel) (by decide +kernel)
set_option maxRecDepth 20000 in
theorem ggX6_isFrozen_X6_freezes_c3 : GoodIn wsX6_isFrozen (wsX60) := goodIn_r _ [38, 39, 40, 41, 42, 43] (by decide +kernel) (by decide +kernel)
set_option maxRecDepth 20000 in
theorem ggX6_isFrozen_X6_freezes_c4 : GoodIn wsX6_isFrozen (wsX00) := goodIn_r _ [47, 48, 49, 50] (by decide +kernel) (by decide +kernel)
set_option maxRecDepth 20000 in
theorem ggX6_isFrozen_X6_freezes_c5 : GoodIn wsX6_isFrozen (wsJx4a65c0) := goodIn_r _ [44, 45, 46] (by decide +kernel) (by decide +kernel)
set_option maxRecDepth 20000 in
theorem ggX6_isFrozen_X6_freezes : GoodIn wsX6_isFrozen wsX6_freezes := (goodIn_c1 ggX6_isFrozen_X6_freezes_c0 (goodIn_app (goodIn_app (goodIn_app (goodIn_app ggX6_isFrozen_X6_freezes_c1 ggX6_isFrozen_X6_freezes_c2) ggX6_isFrozen_X6_freezes_c3) ggX6_isFrozen_X6_freezes_c4) ggX6_isFrozen_X6_freezes_c5))
set_option maxRecDepth 20000 in
theorem gX6_isFrozen_X6_freezes : GoodIn wsX6_isFrozen (wsV RX6 90 RX6 yX6_freezes wsX6_freezes) := goodIn_app (goodIn_of _ (by decide +kernel)) ggX6_isFrozen_X6_freezes
theorem dX6_isFrozen_0 : decode cX6_isFrozen 0 = .ok (.aload_n 0, 1) := by decide +kernel
theorem dX6_isFrozen_1 : decode cX6_isFrozen 1 = .ok (.iload_n 1, 1) := by decide +kernel
theorem dX6_isFrozen_2 : decode cX6_isFrozen 2 = .ok (.invokevirtual 144, 3) := by decide +kernel
theorem dX6_isFrozen_5 : decode cX6_isFrozen 5 = .ok (.aload_n 0, 1) := by decide +kernel
theorem dX6_isFrozen_6 : decode cX6_isFrozen 6 = .ok (.iload_n 1, 1) := by decide +kernel
theorem dX6_isFrozen_7 : decode cX6_isFrozen 7 = .ok (.invokevirtual 90, 3) := by decide +kernel
theorem dX6_isFrozen_10 : decode cX6_isFrozen 10 = .ok (.ireturn, 1) := by decide +kernel
set_option maxRecDepth 20000 in
theorem ggX6_holds_X6_auditAt : GoodIn wsX6_holds wsX6_auditAt := goodIn_ca (goodIn_r _ [5, 6, 7, 8, 9, 10, 11, 12, 13, 14, 15, 16, 17, 18, 19, 20, 21, 22, 23, 24, 25, 26, 27, 28, 29, 30, 31, 32, 54, 55, 56, 57, 58, 59, 60, 61, 62] (by decide +kernel) (by decide +kernel)) (goodIn_sub (fun _ h => List.mem_cons_of_mem _ (List.mem_append_right _ h)) (by decide +kernel))
set_option maxRecDepth 20000 in
theorem gX6_holds_X6_auditAt : GoodIn wsX6_holds (wsV RX6 159 RX6 yX6_auditAt wsX6_auditAt) := goodIn_app (goodIn_of _ (by decide +kernel)) ggX6_holds_X6_auditAt
set_option maxRecDepth 20000 in
theorem ggX6_holds_X6_isProofKept_c0 : GoodIn wsX6_holds ([.code yX6_isProofKept cX6_isProofKept 2 (some .boolean)]) := goodIn_r _ [36] (by decide +kernel) (by decide +kernel)
set_option maxRecDepth 20000 in
theorem ggX6_holds_X6_isProofKept_c1 : GoodIn wsX6_holds (wsX6_isProofKept_r1) := goodIn_r _ [37, 38, 39, 4, 40, 41, 42, 10, 11, 12, 13, 14, 15, 16, 17, 18, 19, 20, 21, 22, 23, 24, 25, 26] (by decide +kernel) (by decide +kernel)
set_option maxRecDepth 20000 in
theorem ggX6_holds_X6_isProofKept_c2 : GoodIn wsX6_holds (wsX6_isProofKept_r2) := goodIn_r _ [27, 28, 29, 30, 31, 32, 43, 44, 45, 46, 47, 48, 49, 50, 51, 52, 53] (by decide +kernel) (by decide +kernel)
set_option maxRecDepth 20000 in
theorem ggX6_holds_X6_isProofKept_c3 : GoodIn wsX6_holds (wsX00) := goodIn_r _ [63, 64, 65, 66] (by decide +kernel) (by decide +kernel)
set_option maxRecDepth 20000 in
theorem ggX6_holds_X6_isProofKept_c4 : GoodIn wsX6_holds (wsX60) := goodIn_r _ [54, 55, 56, 57, 58, 59] (by decide +kernel) (by decide +kernel)
set_option maxRecDepth 20000 in
theorem ggX6_holds_X6_isProofKept_c5 : GoodIn wsX6_holds (wsX10) := goodIn_r _ [67, 68, 69, 70, 71, 72] (by decide +kernel) (by decide +kernel)
set_option maxRecDepth 20000 in
theorem ggX6_holds_X6_isProofKept_c6 : GoodIn wsX6_holds (wsJx4a65c0) := goodIn_r _ [60, 61, 62] (by decide +kernel) (by decide +kernel)
set_option maxRecDepth 20000 in
theorem ggX6_holds_X6_isProofKept_c7 : GoodIn wsX6_holds (wsX40) := goodIn_r _ [73, 74] (by decide +kernel) (by decide +kernel)
set_option maxRecDepth 20000 in
theorem ggX6_holds_X6_isProofKept : GoodIn wsX6_holds wsX6_isProofKept := (goodIn_c1 ggX6_holds_X6_isProofKept_c0 (goodIn_app (goodIn_app (goodIn_app (goodIn_app (goodIn_app (goodIn_app ggX6_holds_X6_isProofKept_c1 ggX6_holds_X6_isProofKept_c2) ggX6_holds_X6_isProofKept_c3) ggX6_holds_X6_isProofKept_c4) ggX6_holds_X6_isProofKept_c5) ggX6_holds_X6_isProofKept_c6) ggX6_holds_X6_isProofKept_c7))
set_option maxRecDepth 20000 in
theorem gX6_holds_X6_isProofKept : GoodIn wsX6_holds (wsV RX6 168 RX6 yX6_isProofKept wsX6_isProofKept) := goodIn_app (goodIn_of _ (by decide +kernel)) ggX6_holds_X6_isProofKept
theorem dX6_holds_0 : decode cX6_holds 0 = .ok (.aload_n 0, 1) := by decide +kernel
theorem dX6_holds_1 : decode cX6_holds 1 = .ok (.aload_n 0, 1) := by decide +kernel
theorem dX6_holds_2 : decode cX6_holds 2 = .ok (.iload_n 1, 1) := by decide +kernel
theorem dX6_holds_3 : decode cX6_holds 3 = .ok (.invokevirtual 159, 3) := by decide +kernel
theorem dX6_holds_6 : decode cX6_holds 6 = .ok (.invokevirtual 168, 3) := by decide +kernel
theorem dX6_holds_9 : decode cX6_holds 9 = .ok (.ireturn, 1) := by decide +kernel
set_option maxRecDepth 20000 in
theorem ggX6_needEntry_Jx4a65c_size_8abf5 : GoodIn wsX6_needEntry wsJx4a65c_size_8abf5 := goodIn_r _ [8, 9, 16, 17, 18] (by decide +kernel) (by decide +kernel)
set_option maxRecDepth 20000 in
theorem gX6_needEntry_Jx4a65c_size_8abf5 : GoodIn wsX6_needEntry (wsV RX6 67 RJx4a65c yJx4a65c_size_8abf5 wsJx4a65c_size_8abf5) := goodIn_app (goodIn_of _ (by decide +kernel)) ggX6_needEntry_Jx4a65c_size_8abf5
theorem dX6_needEntry_0 : decode cX6_needEntry 0 = .ok (.iload_n 1, 1) := by decide +kernel
theorem dX6_needEntry_1 : decode cX6_needEntry 1 = .ok (.ifCond .lt 14, 3) := by decide +kernel
theorem dX6_needEntry_4 : decode cX6_needEntry 4 = .ok (.iload_n 1, 1) := by decide +kernel
theorem dX6_needEntry_5 : decode cX6_needEntry 5 = .ok (.aload_n 0, 1) := by decide +kernel
theorem dX6_needEntry_6 : decode cX6_needEntry 6 = .ok (.getfield 31, 3) := by decide +kernel
theorem dX6_needEntry_9 : decode cX6_needEntry 9 = .ok (.invokevirtual 67, 3) := by decide +kernel
theorem dX6_needEntry_12 : decode cX6_needEntry 12 = .ok (.if_icmp .lt 13, 3) := by decide +kernel
theorem dX6_needEntry_15 : decode cX6_needEntry 15 = .ok (.new 172, 3) := by decide +kernel
theorem dX6_needEntry_18 : decode cX6_needEntry 18 = .ok (.dup, 1) := by decide +kernel
theorem dX6_needEntry_19 : decode cX6_needEntry 19 = .ok (.ldc 198, 2) := by decide +kernel
theorem dX6_needEntry_21 : decode cX6_needEntry 21 = .ok (.invokespecial 176, 3) := by decide +kernel
theorem dX6_needEntry_24 : decode cX6_needEntry 24 = .ok (.athrow, 1) := by decide +kernel
theorem dX6_needEntry_25 : decode cX6_needEntry 25 = .ok (.return_, 1) := by decide +kernel
set_option maxRecDepth 20000 in
theorem ggX6_entryAt_Jx4a65c_size_8abf5 : GoodIn wsX6_entryAt wsJx4a65c_size_8abf5 := goodIn_r _ [9, 10, 34, 35, 36] (by decide +kernel) (by decide +kernel)
set_option maxRecDepth 20000 in
theorem gX6_entryAt_Jx4a65c_size_8abf5 : GoodIn wsX6_entryAt (wsV RX6 67 RJx4a65c yJx4a65c_size_8abf5 wsJx4a65c_size_8abf5) := goodIn_app (goodIn_of _ (by decide +kernel)) ggX6_entryAt_Jx4a65c_size_8abf5
set_option maxRecDepth 20000 in
theorem ggX6_entryAt_Jx4a65c_get_915e3 : GoodIn wsX6_entryAt wsJx4a65c_get_915e3 := goodIn_r _ [14, 10, 15, 16, 17, 18, 19, 20, 21, 22, 23, 24, 25, 8, 26, 27, 34, 35, 36] (by decide +kernel) (by decide +kernel)
set_option maxRecDepth 20000 in
theorem gX6_entryAt_Jx4a65c_get_915e3 : GoodIn wsX6_entryAt (wsV RX6 109 RJx4a65c yJx4a65c_get_915e3 wsJx4a65c_get_915e3) := goodIn_app (goodIn_of _ (by decide +kernel)) ggX6_entryAt_Jx4a65c_get_915e3
theorem dX6_entryAt_0 : decode cX6_entryAt 0 = .ok (.iload_n 1, 1) := by decide +kernel
theorem dX6_entryAt_1 : decode cX6_entryAt 1 = .ok (.ifCond .lt 14, 3) := by decide +kernel
theorem dX6_entryAt_4 : decode cX6_entryAt 4 = .ok (.iload_n 1, 1) := by decide +kernel
theorem dX6_entryAt_5 : decode cX6_entryAt 5 = .ok (.aload_n 0, 1) := by decide +kernel
theorem dX6_entryAt_6 : decode cX6_entryAt 6 = .ok (.getfield 31, 3) := by decide +kernel
theorem dX6_entryAt_9 : decode cX6_entryAt 9 = .ok (.invokevirtual 67, 3) := by decide +kernel
theorem dX6_entryAt_12 : decode cX6_entryAt 12 = .ok (.if_icmp .lt 13, 3) := by decide +kernel
theorem dX6_entryAt_15 : decode cX6_entryAt 15 = .ok (.new 172, 3) := by decide +kernel
theorem dX6_entryAt_18 : decode cX6_entryAt 18 = .ok (.dup, 1) := by decide +kernel
theorem dX6_entryAt_19 : decode cX6_entryAt 19 = .ok (.ldc 198, 2) := by decide +kernel
theorem dX6_entryAt_21 : decode cX6_entryAt 21 = .ok (.invokespecial 176, 3) := by decide +kernel
theorem dX6_entryAt_24 : decode cX6_entryAt 24 = .ok (.athrow, 1) := by decide +kernel
theorem dX6_entryAt_25 : decode cX6_entryAt 25 = .ok (.aload_n 0, 1) := by decide +kernel
theorem dX6_entryAt_26 : decode cX6_entryAt 26 = .ok (.getfield 31, 3) := by decide +kernel
theorem dX6_entryAt_29 : decode cX6_entryAt 29 = .ok (.iload_n 1, 1) := by decide +kernel
theorem dX6_entryAt_30 : decode cX6_entryAt 30 = .ok (.invokevirtual 109, 3) := by decide +kernel
theorem dX6_entryAt_33 : decode cX6_entryAt 33 = .ok (.checkcast 82, 3) := by decide +kernel
theorem dX6_entryAt_36 : decode cX6_entryAt 36 = .ok (.areturn, 1) := by decide +kernel
set_option maxRecDepth 20000 in
theorem ggX6_ruleAt_Jx4a65c_size_8abf5 : GoodIn wsX6_ruleAt wsJx4a65c_size_8abf5 := goodIn_r _ [9, 10, 34, 35, 36] (by decide +kernel) (by decide +kernel)
set_option maxRecDepth 20000 in
theorem gX6_ruleAt_Jx4a65c_size_8abf5 : GoodIn wsX6_ruleAt (wsV RX6 67 RJx4a65c yJx4a65c_size_8abf5 wsJx4a65c_size_8abf5) := goodIn_app (goodIn_of _ (by decide +kernel)) ggX6_ruleAt_Jx4a65c_size_8abf5
set_option maxRecDepth 20000 in
theorem ggX6_ruleAt_Jx4a65c_get_915e3 : GoodIn wsX6_ruleAt wsJx4a65c_get_915e3 := goodIn_r _ [14, 10, 15, 16, 17, 18, 19, 20, 21, 22, 23, 24, 25, 8, 26, 27, 34, 35, 36] (by decide +kernel) (by decide +kernel)
set_option maxRecDepth 20000 in
theorem gX6_ruleAt_Jx4a65c_get_915e3 : GoodIn wsX6_ruleAt (wsV RX6 109 RJx4a65c yJx4a65c_get_915e3 wsJx4a65c_get_915e3) := goodIn_app (goodIn_of _ (by decide +kernel)) ggX6_ruleAt_Jx4a65c_get_915e3
theorem dX6_ruleAt_0 : decode cX6_ruleAt 0 = .ok (.iload_n 1, 1) := by decide +kernel
theorem dX6_ruleAt_1 : decode cX6_ruleAt 1 = .ok (.ifCond .lt 14, 3) := by decide +kernel
theorem dX6_ruleAt_4 : decode cX6_ruleAt 4 = .ok (.iload_n 1, 1) := by decide +kernel
theorem dX6_ruleAt_5 : decode cX6_ruleAt 5 = .ok (.aload_n 0, 1) := by decide +kernel
theorem dX6_ruleAt_6 : decode cX6_ruleAt 6 = .ok (.getfield 35, 3) := by decide +kernel
theorem dX6_ruleAt_9 : decode cX6_ruleAt 9 = .ok (.invokevirtual 67, 3) := by decide +kernel
theorem dX6_ruleAt_12 : decode cX6_ruleAt 12 = .ok (.if_icmp .lt 13, 3) := by decide +kernel
theorem dX6_ruleAt_15 : decode cX6_ruleAt 15 = .ok (.new 172, 3) := by decide +kernel
theorem dX6_ruleAt_18 : decode cX6_ruleAt 18 = .ok (.dup, 1) := by decide +kernel
theorem dX6_ruleAt_19 : decode cX6_ruleAt 19 = .ok (.ldc 200, 2) := by decide +kernel
theorem dX6_ruleAt_21 : decode cX6_ruleAt 21 = .ok (.invokespecial 176, 3) := by decide +kernel
theorem dX6_ruleAt_24 : decode cX6_ruleAt 24 = .ok (.athrow, 1) := by decide +kernel
theorem dX6_ruleAt_25 : decode cX6_ruleAt 25 = .ok (.aload_n 0, 1) := by decide +kernel
theorem dX6_ruleAt_26 : decode cX6_ruleAt 26 = .ok (.getfield 35, 3) := by decide +kernel
theorem dX6_ruleAt_29 : decode cX6_ruleAt 29 = .ok (.iload_n 1, 1) := by decide +kernel
theorem dX6_ruleAt_30 : decode cX6_ruleAt 30 = .ok (.invokevirtual 109, 3) := by decide +kernel
theorem dX6_ruleAt_33 : decode cX6_ruleAt 33 = .ok (.checkcast 126, 3) := by decide +kernel
theorem dX6_ruleAt_36 : decode cX6_ruleAt 36 = .ok (.areturn, 1) := by decide +kernel
set_option maxRecDepth 20000 in
theorem ggX6_auditAt_Jx4a65c_size_8abf5 : GoodIn wsX6_auditAt wsJx4a65c_size_8abf5 := goodIn_r _ [9, 10, 34, 35, 36] (by decide +kernel) (by decide +kernel)
set_option maxRecDepth 20000 in
theorem gX6_auditAt_Jx4a65c_size_8abf5 : GoodIn wsX6_auditAt (wsV RX6 67 RJx4a65c yJx4a65c_size_8abf5 wsJx4a65c_size_8abf5) := goodIn_app (goodIn_of _ (by decide +kernel)) ggX6_auditAt_Jx4a65c_size_8abf5
set_option maxRecDepth 20000 in
theorem ggX6_auditAt_Jx4a65c_get_915e3 : GoodIn wsX6_auditAt wsJx4a65c_get_915e3 := goodIn_r _ [14, 10, 15, 16, 17, 18, 19, 20, 21, 22, 23, 24, 25, 8, 26, 27, 34, 35, 36] (by decide +kernel) (by decide +kernel)
set_option maxRecDepth 20000 in
theorem gX6_auditAt_Jx4a65c_get_915e3 : GoodIn wsX6_auditAt (wsV RX6 109 RJx4a65c yJx4a65c_get_915e3 wsJx4a65c_get_915e3) := goodIn_app (goodIn_of _ (by decide +kernel)) ggX6_auditAt_Jx4a65c_get_915e3
theorem dX6_auditAt_0 : decode cX6_auditAt 0 = .ok (.iload_n 1, 1) := by decide +kernel
theorem dX6_auditAt_1 : decode cX6_auditAt 1 = .ok (.ifCond .lt 14, 3) := by decide +kernel
theorem dX6_auditAt_4 : decode cX6_auditAt 4 = .ok (.iload_n 1, 1) := by decide +kernel
theorem dX6_auditAt_5 : decode cX6_auditAt 5 = .ok (.aload_n 0, 1) := by decide +kernel
theorem dX6_auditAt_6 : decode cX6_auditAt 6 = .ok (.getfield 38, 3) := by decide +kernel
theorem dX6_auditAt_9 : decode cX6_auditAt 9 = .ok (.invokevirtual 67, 3) := by decide +kernel
theorem dX6_auditAt_12 : decode cX6_auditAt 12 = .ok (.if_icmp .lt 13, 3) := by decide +kernel
theorem dX6_auditAt_15 : decode cX6_auditAt 15 = .ok (.new 172, 3) := by decide +kernel
theorem dX6_auditAt_18 : decode cX6_auditAt 18 = .ok (.dup, 1) := by decide +kernel
theorem dX6_auditAt_19 : decode cX6_auditAt 19 = .ok (.ldc 202, 2) := by decide +kernel
theorem dX6_auditAt_21 : decode cX6_auditAt 21 = .ok (.invokespecial 176, 3) := by decide +kernel
theorem dX6_auditAt_24 : decode cX6_auditAt 24 = .ok (.athrow, 1) := by decide +kernel
theorem dX6_auditAt_25 : decode cX6_auditAt 25 = .ok (.aload_n 0, 1) := by decide +kernel
theorem dX6_auditAt_26 : decode cX6_auditAt 26 = .ok (.getfield 38, 3) := by decide +kernel
theorem dX6_auditAt_29 : decode cX6_auditAt 29 = .ok (.iload_n 1, 1) := by decide +kernel
theorem dX6_auditAt_30 : decode cX6_auditAt 30 = .ok (.invokevirtual 109, 3) := by decide +kernel
theorem dX6_auditAt_33 : decode cX6_auditAt 33 = .ok (.checkcast 151, 3) := by decide +kernel
theorem dX6_auditAt_36 : decode cX6_auditAt 36 = .ok (.areturn, 1) := by decide +kernel
theorem dX6_needAccount_0 : decode cX6_needAccount 0 = .ok (.iload_n 0, 1) := by decide +kernel
theorem dX6_needAccount_1 : decode cX6_needAccount 1 = .ok (.ifCond .lt 9, 3) := by decide +kernel
theorem dX6_needAccount_4 : decode cX6_needAccount 4 = .ok (.iload_n 0, 1) := by decide +kernel
theorem dX6_needAccount_5 : decode cX6_needAccount 5 = .ok (.bipush 8, 2) := by decide +kernel
theorem dX6_needAccount_7 : decode cX6_needAccount 7 = .ok (.if_icmp .lt 13, 3) := by decide +kernel
theorem dX6_needAccount_10 : decode cX6_needAccount 10 = .ok (.new 41, 3) := by decide +kernel
theorem dX6_needAccount_13 : decode cX6_needAccount 13 = .ok (.dup, 1) := by decide +kernel
theorem dX6_needAccount_14 : decode cX6_needAccount 14 = .ok (.ldc 204, 2) := by decide +kernel
theorem dX6_needAccount_16 : decode cX6_needAccount 16 = .ok (.invokespecial 45, 3) := by decide +kernel
theorem dX6_needAccount_19 : decode cX6_needAccount 19 = .ok (.athrow, 1) := by decide +kernel
theorem dX6_needAccount_20 : decode cX6_needAccount 20 = .ok (.return_, 1) := by decide +kernel
theorem dX6_needForm_0 : decode cX6_needForm 0 = .ok (.iload_n 0, 1) := by decide +kernel
theorem dX6_needForm_1 : decode cX6_needForm 1 = .ok (.ifCond .lt 8, 3) := by decide +kernel
theorem dX6_needForm_4 : decode cX6_needForm 4 = .ok (.iload_n 0, 1) := by decide +kernel
theorem dX6_needForm_5 : decode cX6_needForm 5 = .ok (.iconst 2, 1) := by decide +kernel
theorem dX6_needForm_6 : decode cX6_needForm 6 = .ok (.if_icmp .le 13, 3) := by decide +kernel
theorem dX6_needForm_9 : decode cX6_needForm 9 = .ok (.new 41, 3) := by decide +kernel
theorem dX6_needForm_12 : decode cX6_needForm 12 = .ok (.dup, 1) := by decide +kernel
theorem dX6_needForm_13 : decode cX6_needForm 13 = .ok (.ldc 206, 2) := by decide +kernel
theorem dX6_needForm_15 : decode cX6_needForm 15 = .ok (.invokespecial 45, 3) := by decide +kernel
theorem dX6_needForm_18 : decode cX6_needForm 18 = .ok (.athrow, 1) := by decide +kernel
theorem dX6_needForm_19 : decode cX6_needForm 19 = .ok (.return_, 1) := by decide +kernel
theorem dX6_needRuleKind_0 : decode cX6_needRuleKind 0 = .ok (.iload_n 0, 1) := by decide +kernel
theorem dX6_needRuleKind_1 : decode cX6_needRuleKind 1 = .ok (.ifCond .lt 8, 3) := by decide +kernel
theorem dX6_needRuleKind_4 : decode cX6_needRuleKind 4 = .ok (.iload_n 0, 1) := by decide +kernel
theorem dX6_needRuleKind_5 : decode cX6_needRuleKind 5 = .ok (.iconst 3, 1) := by decide +kernel
theorem dX6_needRuleKind_6 : decode cX6_needRuleKind 6 = .ok (.if_icmp .le 13, 3) := by decide +kernel
theorem dX6_needRuleKind_9 : decode cX6_needRuleKind 9 = .ok (.new 41, 3) := by decide +kernel
theorem dX6_needRuleKind_12 : decode cX6_needRuleKind 12 = .ok (.dup, 1) := by decide +kernel
theorem dX6_needRuleKind_13 : decode cX6_needRuleKind 13 = .ok (.ldc 208, 2) := by decide +kernel
theorem dX6_needRuleKind_15 : decode cX6_needRuleKind 15 = .ok (.invokespecial 45, 3) := by decide +kernel
theorem dX6_needRuleKind_18 : decode cX6_needRuleKind 18 = .ok (.athrow, 1) := by decide +kernel
theorem dX6_needRuleKind_19 : decode cX6_needRuleKind 19 = .ok (.iload_n 0, 1) := by decide +kernel
theorem dX6_needRuleKind_20 : decode cX6_needRuleKind 20 = .ok (.iconst 2, 1) := by decide +kernel
theorem dX6_needRuleKind_21 : decode cX6_needRuleKind 21 = .ok (.if_icmp .ne 18, 3) := by decide +kernel
theorem dX6_needRuleKind_24 : decode cX6_needRuleKind 24 = .ok (.iload_n 1, 1) := by decide +kernel
theorem dX6_needRuleKind_25 : decode cX6_needRuleKind 25 = .ok (.iload_n 2, 1) := by decide +kernel
theorem dX6_needRuleKind_26 : decode cX6_needRuleKind 26 = .ok (.if_icmp .ne 13, 3) := by decide +kernel
theorem dX6_needRuleKind_29 : decode cX6_needRuleKind 29 = .ok (.new 41, 3) := by decide +kernel
theorem dX6_needRuleKind_32 : decode cX6_needRuleKind 32 = .ok (.dup, 1) := by decide +kernel
theorem dX6_needRuleKind_33 : decode cX6_needRuleKind 33 = .ok (.ldc 210, 2) := by decide +kernel
theorem dX6_needRuleKind_35 : decode cX6_needRuleKind 35 = .ok (.invokespecial 45, 3) := by decide +kernel
theorem dX6_needRuleKind_38 : decode cX6_needRuleKind 38 = .ok (.athrow, 1) := by decide +kernel
theorem dX6_needRuleKind_39 : decode cX6_needRuleKind 39 = .ok (.return_, 1) := by decide +kernel
theorem dX6_needRuleNumber_0 : decode cX6_needRuleNumber 0 = .ok (.iload_n 0, 1) := by decide +kernel
theorem dX6_needRuleNumber_1 : decode cX6_needRuleNumber 1 = .ok (.iconst 1, 1) := by decide +kernel
theorem dX6_needRuleNumber_2 : decode cX6_needRuleNumber 2 = .ok (.if_icmp .ne 7, 3) := by decide +kernel
theorem dX6_needRuleNumber_5 : decode cX6_needRuleNumber 5 = .ok (.iconst 0, 1) := by decide +kernel
theorem dX6_needRuleNumber_6 : decode cX6_needRuleNumber 6 = .ok (.goto 6, 3) := by decide +kernel
theorem dX6_needRuleNumber_9 : decode cX6_needRuleNumber 9 = .ok (.sipush (-999), 3) := by decide +kernel
theorem dX6_needRuleNumber_12 : decode cX6_needRuleNumber 12 = .ok (.istore_n 2, 1) := by decide +kernel
theorem dX6_needRuleNumber_13 : decode cX6_needRuleNumber 13 = .ok (.iload_n 1, 1) := by decide +kernel
theorem dX6_needRuleNumber_14 : decode cX6_needRuleNumber 14 = .ok (.iload_n 2, 1) := by decide +kernel
theorem dX6_needRuleNumber_15 : decode cX6_needRuleNumber 15 = .ok (.if_icmp .lt 10, 3) := by decide +kernel
theorem dX6_needRuleNumber_18 : decode cX6_needRuleNumber 18 = .ok (.iload_n 1, 1) := by decide +kernel
theorem dX6_needRuleNumber_19 : decode cX6_needRuleNumber 19 = .ok (.sipush 999, 3) := by decide +kernel
theorem dX6_needRuleNumber_22 : decode cX6_needRuleNumber 22 = .ok (.if_icmp .le 13, 3) := by decide +kernel
theorem dX6_needRuleNumber_25 : decode cX6_needRuleNumber 25 = .ok (.new 41, 3) := by decide +kernel
theorem dX6_needRuleNumber_28 : decode cX6_needRuleNumber 28 = .ok (.dup, 1) := by decide +kernel
theorem dX6_needRuleNumber_29 : decode cX6_needRuleNumber 29 = .ok (.ldc 212, 2) := by decide +kernel
theorem dX6_needRuleNumber_31 : decode cX6_needRuleNumber 31 = .ok (.invokespecial 45, 3) := by decide +kernel
theorem dX6_needRuleNumber_34 : decode cX6_needRuleNumber 34 = .ok (.athrow, 1) := by decide +kernel
theorem dX6_needRuleNumber_35 : decode cX6_needRuleNumber 35 = .ok (.return_, 1) := by decide +kernel
set_option maxRecDepth 20000 in
theorem ggX6_entryOfDraft_X2_faultOf_c0 : GoodIn wsX6_entryOfDraft ([.code yX2_faultOf cX2_faultOf 3 (some .int)]) := goodIn_r _ [12] (by decide +kernel) (by decide +kernel)
set_option maxRecDepth 20000 in
theorem ggX6_entryOfDraft_X2_faultOf_c1 : GoodIn wsX6_entryOfDraft (wsX2_faultOf_r1) := goodIn_r _ [13, 14, 15, 16, 17, 18, 19, 20, 21, 22, 23, 24, 25, 26, 27, 28, 11, 29, 30, 31, 32, 33, 34, 35] (by decide +kernel) (by decide +kernel)
set_option maxRecDepth 20000 in
theorem ggX6_entryOfDraft_X2_faultOf_c2 : GoodIn wsX6_entryOfDraft (wsX2_faultOf_r2) := goodIn_r _ [36, 37, 38, 39, 40, 41, 42] (by decide +kernel) (by decide +kernel)
set_option maxRecDepth 20000 in
theorem ggX6_entryOfDraft_X2_faultOf_c3 : GoodIn wsX6_entryOfDraft (wsX20) := goodIn_r _ [147, 148] (by decide +kernel) (by decide +kernel)
set_option maxRecDepth 20000 in
theorem ggX6_entryOfDraft_X2_faultOf_c4 : GoodIn wsX6_entryOfDraft (wsX40) := goodIn_r _ [149, 150] (by decide +kernel) (by decide +kernel)
set_option maxRecDepth 20000 in
theorem ggX6_entryOfDraft_X2_faultOf : GoodIn wsX6_entryOfDraft wsX2_faultOf := (goodIn_c1 ggX6_entryOfDraft_X2_faultOf_c0 (goodIn_app (goodIn_app (goodIn_app ggX6_entryOfDraft_X2_faultOf_c1 ggX6_entryOfDraft_X2_faultOf_c2) ggX6_entryOfDraft_X2_faultOf_c3) ggX6_entryOfDraft_X2_faultOf_c4))
set_option maxRecDepth 20000 in
theorem gX6_entryOfDraft_X2_faultOf : GoodIn wsX6_entryOfDraft (wsV RX6 63 RX2 yX2_faultOf wsX2_faultOf) := goodIn_app (goodIn_of _ (by decide +kernel)) ggX6_entryOfDraft_X2_faultOf
set_option maxRecDepth 20000 in
theorem ggX6_entryOfDraft_X1_init : GoodIn wsX6_entryOfDraft wsX1_init := goodIn_r _ [45, 46, 47, 48, 49, 50, 18, 51, 52, 53, 54, 55, 56, 57, 58, 59, 60, 61, 62, 25, 149, 150, 141, 142, 143, 144, 145, 146] (by decide +kernel) (by decide +kernel)
set_option maxRecDepth 20000 in
theorem gX6_entryOfDraft_X1_init : GoodIn wsX6_entryOfDraft (wsX1_init) := ggX6_entryOfDraft_X1_init
set_option maxRecDepth 20000 in
theorem ggX6_entryOfDraft_X1_take_c0 : GoodIn wsX6_entryOfDraft ([.code yX1_take cX1_take 3 none]) := goodIn_r _ [66] (by decide +kernel) (by decide +kernel)
set_option maxRecDepth 20000 in
theorem ggX6_entryOfDraft_X1_take_c1 : GoodIn wsX6_entryOfDraft (wsX1_take_r1) := goodIn_r _ [51, 52, 67, 68, 69, 18, 70, 71, 72, 73, 74, 20, 75, 16, 17, 19, 76, 22, 23, 24, 25, 77, 78, 79] (by decide +kernel) (by decide +kernel)
set_option maxRecDepth 20000 in
theorem ggX6_entryOfDraft_X1_take_c2 : GoodIn wsX6_entryOfDraft (wsX1_take_r2) := goodIn_r _ [80, 81, 82, 83, 84, 85, 86, 87, 34, 35, 36, 88, 89, 90, 91, 92, 93, 94, 95, 96, 97, 98, 37, 38] (by decide +kernel) (by decide +kernel)
set_option maxRecDepth 20000 in
theorem ggX6_entryOfDraft_X1_take_c3 : GoodIn wsX6_entryOfDraft (wsX1_take_r3) := goodIn_r _ [99, 100, 101, 102, 103, 104, 105, 106, 107, 108, 109, 110, 111, 112, 113, 114, 115, 116, 117, 118, 119, 120, 121, 122] (by decide +kernel) (by decide +kernel)
set_option maxRecDepth 20000 in
theorem ggX6_entryOfDraft_X1_take_c4 : GoodIn wsX6_entryOfDraft (wsX1_take_r4) := goodIn_r _ [123, 7, 124, 125, 126, 54, 127, 128, 129, 130, 131, 132, 133, 134] (by decide +kernel) (by decide +kernel)
set_option maxRecDepth 20000 in
theorem ggX6_entryOfDraft_X1_take_c5 : GoodIn wsX6_entryOfDraft (wsX10) := goodIn_r _ [141, 142, 143, 144, 145, 146] (by decide +kernel) (by decide +kernel)
set_option maxRecDepth 20000 in
theorem ggX6_entryOfDraft_X1_take_c6 : GoodIn wsX6_entryOfDraft (wsX40) := goodIn_r _ [149, 150] (by decide +kernel) (by decide +kernel)
set_option maxRecDepth 20000 in
theorem ggX6_entryOfDraft_X1_take : GoodIn wsX6_entryOfDraft wsX1_take := (goodIn_c1 ggX6_entryOfDraft_X1_take_c0 (goodIn_app (goodIn_app (goodIn_app ggX6_entryOfDraft_X1_take_c1 (goodIn_app ggX6_entryOfDraft_X1_take_c2 (goodIn_app ggX6_entryOfDraft_X1_take_c3 ggX6_entryOfDraft_X1_take_c4))) ggX6_entryOfDraft_X1_take_c5) ggX6_entryOfDraft_X1_take_c6))
set_option maxRecDepth 20000 in
theorem gX6_entryOfDraft_X1_take : GoodIn wsX6_entryOfDraft (wsV RX6 217 RX1 yX1_take wsX1_take) := goodIn_app (goodIn_of _ (by decide +kernel)) ggX6_entryOfDraft_X1_take
theorem dX6_entryOfDraft_0 : decode cX6_entryOfDraft 0 = .ok (.aload_n 0, 1) := by decide +kernel
theorem dX6_entryOfDraft_1 : decode cX6_entryOfDraft 1 = .ok (.getfield 24, 3) := by decide +kernel
theorem dX6_entryOfDraft_4 : decode cX6_entryOfDraft 4 = .ok (.aload_n 0, 1) := by decide +kernel
theorem dX6_entryOfDraft_5 : decode cX6_entryOfDraft 5 = .ok (.getfield 14, 3) := by decide +kernel
theorem dX6_entryOfDraft_8 : decode cX6_entryOfDraft 8 = .ok (.invokevirtual 63, 3) := by decide +kernel
theorem dX6_entryOfDraft_11 : decode cX6_entryOfDraft 11 = .ok (.iconst (-1), 1) := by decide +kernel
theorem dX6_entryOfDraft_12 : decode cX6_entryOfDraft 12 = .ok (.if_icmp .eq 13, 3) := by decide +kernel
theorem dX6_entryOfDraft_15 : decode cX6_entryOfDraft 15 = .ok (.new 52, 3) := by decide +kernel
theorem dX6_entryOfDraft_18 : decode cX6_entryOfDraft 18 = .ok (.dup, 1) := by decide +kernel
theorem dX6_entryOfDraft_19 : decode cX6_entryOfDraft 19 = .ok (.ldc 214, 2) := by decide +kernel
theorem dX6_entryOfDraft_21 : decode cX6_entryOfDraft 21 = .ok (.invokespecial 56, 3) := by decide +kernel
theorem dX6_entryOfDraft_24 : decode cX6_entryOfDraft 24 = .ok (.athrow, 1) := by decide +kernel
theorem dX6_entryOfDraft_25 : decode cX6_entryOfDraft 25 = .ok (.new 82, 3) := by decide +kernel
theorem dX6_entryOfDraft_28 : decode cX6_entryOfDraft 28 = .ok (.dup, 1) := by decide +kernel
theorem dX6_entryOfDraft_29 : decode cX6_entryOfDraft 29 = .ok (.invokespecial 216, 3) := by decide +kernel
theorem dX6_entryOfDraft_32 : decode cX6_entryOfDraft 32 = .ok (.astore_n 1, 1) := by decide +kernel
theorem dX6_entryOfDraft_33 : decode cX6_entryOfDraft 33 = .ok (.aload_n 1, 1) := by decide +kernel
theorem dX6_entryOfDraft_34 : decode cX6_entryOfDraft 34 = .ok (.aload_n 0, 1) := by decide +kernel
theorem dX6_entryOfDraft_35 : decode cX6_entryOfDraft 35 = .ok (.getfield 14, 3) := by decide +kernel
theorem dX6_entryOfDraft_38 : decode cX6_entryOfDraft 38 = .ok (.invokevirtual 217, 3) := by decide +kernel
theorem dX6_entryOfDraft_41 : decode cX6_entryOfDraft 41 = .ok (.aload_n 1, 1) := by decide +kernel
theorem dX6_entryOfDraft_42 : decode cX6_entryOfDraft 42 = .ok (.getfield 221, 3) := by decide +kernel
theorem dX6_entryOfDraft_45 : decode cX6_entryOfDraft 45 = .ok (.bipush 60, 2) := by decide +kernel
theorem dX6_entryOfDraft_47 : decode cX6_entryOfDraft 47 = .ok (.if_icmp .le 13, 3) := by decide +kernel
theorem dX6_entryOfDraft_50 : decode cX6_entryOfDraft 50 = .ok (.new 52, 3) := by decide +kernel
theorem dX6_entryOfDraft_53 : decode cX6_entryOfDraft 53 = .ok (.dup, 1) := by decide +kernel
theorem dX6_entryOfDraft_54 : decode cX6_entryOfDraft 54 = .ok (.ldc 225, 2) := by decide +kernel
theorem dX6_entryOfDraft_56 : decode cX6_entryOfDraft 56 = .ok (.invokespecial 56, 3) := by decide +kernel
theorem dX6_entryOfDraft_59 : decode cX6_entryOfDraft 59 = .ok (.athrow, 1) := by decide +kernel
theorem dX6_entryOfDraft_60 : decode cX6_entryOfDraft 60 = .ok (.aload_n 1, 1) := by decide +kernel
theorem dX6_entryOfDraft_61 : decode cX6_entryOfDraft 61 = .ok (.areturn, 1) := by decide +kernel
set_option maxRecDepth 20000 in
theorem ggX6_textOf_X1_spreadInto_c0 : GoodIn wsX6_textOf ([.code yX1_spreadInto cX1_spreadInto 3 none]) := goodIn_r _ [6] (by decide +kernel) (by decide +kernel)
set_option maxRecDepth 20000 in
theorem ggX6_textOf_X1_spreadInto_c1 : GoodIn wsX6_textOf (wsX1_spreadInto_r1) := goodIn_r _ [7, 8, 9, 10, 11, 12, 13, 14, 15, 16, 17, 18, 19, 20, 21, 22, 23, 24, 25, 26, 27, 28, 5, 29] (by decide +kernel) (by decide +kernel)
set_option maxRecDepth 20000 in
theorem ggX6_textOf_X1_spreadInto_c2 : GoodIn wsX6_textOf (wsX1_spreadInto_r2) := goodIn_r _ [30, 31, 32, 33, 34, 35, 36, 37, 38, 39] (by decide +kernel) (by decide +kernel)
set_option maxRecDepth 20000 in
theorem ggX6_textOf_X1_spreadInto_c3 : GoodIn wsX6_textOf (wsX10) := goodIn_r _ [40, 41, 42, 43, 44, 45] (by decide +kernel) (by decide +kernel)
set_option maxRecDepth 20000 in
theorem ggX6_textOf_X1_spreadInto_c4 : GoodIn wsX6_textOf (wsX40) := goodIn_r _ [52, 53] (by decide +kernel) (by decide +kernel)
set_option maxRecDepth 20000 in
theorem ggX6_textOf_X1_spreadInto : GoodIn wsX6_textOf wsX1_spreadInto := (goodIn_c1 ggX6_textOf_X1_spreadInto_c0 (goodIn_app (goodIn_app (goodIn_app ggX6_textOf_X1_spreadInto_c1 ggX6_textOf_X1_spreadInto_c2) ggX6_textOf_X1_spreadInto_c3) ggX6_textOf_X1_spreadInto_c4))
set_option maxRecDepth 20000 in
theorem gX6_textOf_X1_spreadInto : GoodIn wsX6_textOf (wsV RX6 230 RX1 yX1_spreadInto wsX1_spreadInto) := goodIn_app (goodIn_of _ (by decide +kernel)) ggX6_textOf_X1_spreadInto
theorem dX6_textOf_0 : decode cX6_textOf 0 = .ok (.iload_n 2, 1) := by decide +kernel
theorem dX6_textOf_1 : decode cX6_textOf 1 = .ok (.ifCond .ne 8, 3) := by decide +kernel
theorem dX6_textOf_4 : decode cX6_textOf 4 = .ok (.aload_n 1, 1) := by decide +kernel
theorem dX6_textOf_5 : decode cX6_textOf 5 = .ok (.getfield 227, 3) := by decide +kernel
theorem dX6_textOf_8 : decode cX6_textOf 8 = .ok (.areturn, 1) := by decide +kernel
theorem dX6_textOf_9 : decode cX6_textOf 9 = .ok (.iload_n 2, 1) := by decide +kernel
theorem dX6_textOf_10 : decode cX6_textOf 10 = .ok (.iconst 1, 1) := by decide +kernel
theorem dX6_textOf_11 : decode cX6_textOf 11 = .ok (.if_icmp .eq 10, 3) := by decide +kernel
theorem dX6_textOf_14 : decode cX6_textOf 14 = .ok (.aload_n 1, 1) := by decide +kernel
theorem dX6_textOf_15 : decode cX6_textOf 15 = .ok (.getfield 100, 3) := by decide +kernel
theorem dX6_textOf_18 : decode cX6_textOf 18 = .ok (.ifCond .eq 8, 3) := by decide +kernel
theorem dX6_textOf_21 : decode cX6_textOf 21 = .ok (.aload_n 1, 1) := by decide +kernel
theorem dX6_textOf_22 : decode cX6_textOf 22 = .ok (.getfield 81, 3) := by decide +kernel
theorem dX6_textOf_25 : decode cX6_textOf 25 = .ok (.areturn, 1) := by decide +kernel
theorem dX6_textOf_26 : decode cX6_textOf 26 = .ok (.aload_n 1, 1) := by decide +kernel
theorem dX6_textOf_27 : decode cX6_textOf 27 = .ok (.aload_n 0, 1) := by decide +kernel
theorem dX6_textOf_28 : decode cX6_textOf 28 = .ok (.getfield 18, 3) := by decide +kernel
theorem dX6_textOf_31 : decode cX6_textOf 31 = .ok (.invokevirtual 230, 3) := by decide +kernel
theorem dX6_textOf_34 : decode cX6_textOf 34 = .ok (.aload_n 0, 1) := by decide +kernel
theorem dX6_textOf_35 : decode cX6_textOf 35 = .ok (.getfield 18, 3) := by decide +kernel
theorem dX6_textOf_38 : decode cX6_textOf 38 = .ok (.areturn, 1) := by decide +kernel
set_option maxRecDepth 20000 in
theorem ggX6_chainUpTo_Jx4a65c_size_8abf5 : GoodIn wsX6_chainUpTo wsJx4a65c_size_8abf5 := goodIn_r _ [7, 8, 49, 50, 51] (by decide +kernel) (by decide +kernel)
set_option maxRecDepth 20000 in
theorem gX6_chainUpTo_Jx4a65c_size_8abf5 : GoodIn wsX6_chainUpTo (wsV RX6 67 RJx4a65c yJx4a65c_size_8abf5 wsJx4a65c_size_8abf5) := goodIn_app (goodIn_of _ (by decide +kernel)) ggX6_chainUpTo_Jx4a65c_size_8abf5
set_option maxRecDepth 20000 in
theorem ggX6_chainUpTo_Jx4a65c_get_915e3 : GoodIn wsX6_chainUpTo wsJx4a65c_get_915e3 := goodIn_r _ [12, 8, 13, 14, 15, 16, 17, 18, 19, 20, 21, 22, 23, 6, 24, 25, 49, 50, 51] (by decide +kernel) (by decide +kernel)
set_option maxRecDepth 20000 in
theorem gX6_chainUpTo_Jx4a65c_get_915e3 : GoodIn wsX6_chainUpTo (wsV RX6 109 RJx4a65c yJx4a65c_get_915e3 wsJx4a65c_get_915e3) := goodIn_app (goodIn_of _ (by decide +kernel)) ggX6_chainUpTo_Jx4a65c_get_915e3
set_option maxRecDepth 20000 in
theorem ggX6_chainUpTo_X4_chainedTo : GoodIn wsX6_chainUpTo wsX4_chainedTo := goodIn_r _ [30, 31, 32, 33, 34, 29, 35, 36, 52, 53] (by decide +kernel) (by decide +kernel)
set_option maxRecDepth 20000 in
theorem gX6_chainUpTo_X4_chainedTo : GoodIn wsX6_chainUpTo (wsV RX6 233 RX4 yX4_chainedTo wsX4_chainedTo) := goodIn_app (goodIn_of _ (by decide +kernel)) ggX6_chainUpTo_X4_chainedTo
theorem dX6_chainUpTo_0 : decode cX6_chainUpTo 0 = .ok (.iconst 0, 1) := by decide +kernel
theorem dX6_chainUpTo_1 : decode cX6_chainUpTo 1 = .ok (.istore_n 2, 1) := by decide +kernel
theorem dX6_chainUpTo_2 : decode cX6_chainUpTo 2 = .ok (.iconst 0, 1) := by decide +kernel
theorem dX6_chainUpTo_3 : decode cX6_chainUpTo 3 = .ok (.istore_n 3, 1) := by decide +kernel
theorem dX6_chainUpTo_4 : decode cX6_chainUpTo 4 = .ok (.iload_n 3, 1) := by decide +kernel
theorem dX6_chainUpTo_5 : decode cX6_chainUpTo 5 = .ok (.iload_n 1, 1) := by decide +kernel
theorem dX6_chainUpTo_6 : decode cX6_chainUpTo 6 = .ok (.if_icmp .gt 42, 3) := by decide +kernel
theorem dX6_chainUpTo_9 : decode cX6_chainUpTo 9 = .ok (.iload_n 3, 1) := by decide +kernel
theorem dX6_chainUpTo_10 : decode cX6_chainUpTo 10 = .ok (.aload_n 0, 1) := by decide +kernel
theorem dX6_chainUpTo_11 : decode cX6_chainUpTo 11 = .ok (.getfield 31, 3) := by decide +kernel
theorem dX6_chainUpTo_14 : decode cX6_chainUpTo 14 = .ok (.invokevirtual 67, 3) := by decide +kernel
theorem dX6_chainUpTo_17 : decode cX6_chainUpTo 17 = .ok (.if_icmp .ge 31, 3) := by decide +kernel
theorem dX6_chainUpTo_20 : decode cX6_chainUpTo 20 = .ok (.aload_n 0, 1) := by decide +kernel
theorem dX6_chainUpTo_21 : decode cX6_chainUpTo 21 = .ok (.getfield 31, 3) := by decide +kernel
theorem dX6_chainUpTo_24 : decode cX6_chainUpTo 24 = .ok (.iload_n 3, 1) := by decide +kernel
theorem dX6_chainUpTo_25 : decode cX6_chainUpTo 25 = .ok (.invokevirtual 109, 3) := by decide +kernel
theorem dX6_chainUpTo_28 : decode cX6_chainUpTo 28 = .ok (.checkcast 82, 3) := by decide +kernel
theorem dX6_chainUpTo_31 : decode cX6_chainUpTo 31 = .ok (.getfield 81, 3) := by decide +kernel
theorem dX6_chainUpTo_34 : decode cX6_chainUpTo 34 = .ok (.iload_n 2, 1) := by decide +kernel
theorem dX6_chainUpTo_35 : decode cX6_chainUpTo 35 = .ok (.bipush 17, 2) := by decide +kernel
theorem dX6_chainUpTo_37 : decode cX6_chainUpTo 37 = .ok (.iadd, 1) := by decide +kernel
theorem dX6_chainUpTo_38 : decode cX6_chainUpTo 38 = .ok (.invokevirtual 233, 3) := by decide +kernel
theorem dX6_chainUpTo_41 : decode cX6_chainUpTo 41 = .ok (.istore_n 2, 1) := by decide +kernel
theorem dX6_chainUpTo_42 : decode cX6_chainUpTo 42 = .ok (.iinc 3 1, 3) := by decide +kernel
theorem dX6_chainUpTo_45 : decode cX6_chainUpTo 45 = .ok (.goto (-41), 3) := by decide +kernel
theorem dX6_chainUpTo_48 : decode cX6_chainUpTo 48 = .ok (.iload_n 2, 1) := by decide +kernel
theorem dX6_chainUpTo_49 : decode cX6_chainUpTo 49 = .ok (.ireturn, 1) := by decide +kernel
set_option maxRecDepth 20000 in
theorem ggX6_sumUpTo_Jx4a65c_size_8abf5 : GoodIn wsX6_sumUpTo wsJx4a65c_size_8abf5 := goodIn_r _ [7, 8, 38, 39, 40] (by decide +kernel) (by decide +kernel)
set_option maxRecDepth 20000 in
theorem gX6_sumUpTo_Jx4a65c_size_8abf5 : GoodIn wsX6_sumUpTo (wsV RX6 67 RJx4a65c yJx4a65c_size_8abf5 wsJx4a65c_size_8abf5) := goodIn_app (goodIn_of _ (by decide +kernel)) ggX6_sumUpTo_Jx4a65c_size_8abf5
set_option maxRecDepth 20000 in
theorem ggX6_sumUpTo_Jx4a65c_get_915e3 : GoodIn wsX6_sumUpTo wsJx4a65c_get_915e3 := goodIn_r _ [12, 8, 13, 14, 15, 16, 17, 18, 19, 20, 21, 22, 23, 6, 24, 25, 38, 39, 40] (by decide +kernel) (by decide +kernel)
set_option maxRecDepth 20000 in
theorem gX6_sumUpTo_Jx4a65c_get_915e3 : GoodIn wsX6_sumUpTo (wsV RX6 109 RJx4a65c yJx4a65c_get_915e3 wsJx4a65c_get_915e3) := goodIn_app (goodIn_of _ (by decide +kernel)) ggX6_sumUpTo_Jx4a65c_get_915e3
set_option maxRecDepth 20000 in
theorem ggX6_sumUpTo_X1_amountOf : GoodIn wsX6_sumUpTo wsX1_amountOf := goodIn_r _ [30, 31, 41, 42, 43, 44, 45, 46] (by decide +kernel) (by decide +kernel)
set_option maxRecDepth 20000 in
theorem gX6_sumUpTo_X1_amountOf : GoodIn wsX6_sumUpTo (wsV RX6 187 RX1 yX1_amountOf wsX1_amountOf) := goodIn_app (goodIn_of _ (by decide +kernel)) ggX6_sumUpTo_X1_amountOf
theorem dX6_sumUpTo_0 : decode cX6_sumUpTo 0 = .ok (.iconst 0, 1) := by decide +kernel
theorem dX6_sumUpTo_1 : decode cX6_sumUpTo 1 = .ok (.istore_n 3, 1) := by decide +kernel
theorem dX6_sumUpTo_2 : decode cX6_sumUpTo 2 = .ok (.iconst 0, 1) := by decide +kernel
theorem dX6_sumUpTo_3 : decode cX6_sumUpTo 3 = .ok (.istore 4, 2) := by decide +kernel
theorem dX6_sumUpTo_5 : decode cX6_sumUpTo 5 = .ok (.iload 4, 2) := by decide +kernel
theorem dX6_sumUpTo_7 : decode cX6_sumUpTo 7 = .ok (.iload_n 1, 1) := by decide +kernel
theorem dX6_sumUpTo_8 : decode cX6_sumUpTo 8 = .ok (.if_icmp .gt 40, 3) := by decide +kernel
theorem dX6_sumUpTo_11 : decode cX6_sumUpTo 11 = .ok (.iload 4, 2) := by decide +kernel
theorem dX6_sumUpTo_13 : decode cX6_sumUpTo 13 = .ok (.aload_n 0, 1) := by decide +kernel
theorem dX6_sumUpTo_14 : decode cX6_sumUpTo 14 = .ok (.getfield 31, 3) := by decide +kernel
theorem dX6_sumUpTo_17 : decode cX6_sumUpTo 17 = .ok (.invokevirtual 67, 3) := by decide +kernel
theorem dX6_sumUpTo_20 : decode cX6_sumUpTo 20 = .ok (.if_icmp .ge 28, 3) := by decide +kernel
theorem dX6_sumUpTo_23 : decode cX6_sumUpTo 23 = .ok (.iload_n 3, 1) := by decide +kernel
theorem dX6_sumUpTo_24 : decode cX6_sumUpTo 24 = .ok (.aload_n 0, 1) := by decide +kernel
theorem dX6_sumUpTo_25 : decode cX6_sumUpTo 25 = .ok (.getfield 31, 3) := by decide +kernel
theorem dX6_sumUpTo_28 : decode cX6_sumUpTo 28 = .ok (.iload 4, 2) := by decide +kernel
theorem dX6_sumUpTo_30 : decode cX6_sumUpTo 30 = .ok (.invokevirtual 109, 3) := by decide +kernel
theorem dX6_sumUpTo_33 : decode cX6_sumUpTo 33 = .ok (.checkcast 82, 3) := by decide +kernel
theorem dX6_sumUpTo_36 : decode cX6_sumUpTo 36 = .ok (.iload_n 2, 1) := by decide +kernel
theorem dX6_sumUpTo_37 : decode cX6_sumUpTo 37 = .ok (.invokevirtual 187, 3) := by decide +kernel
theorem dX6_sumUpTo_40 : decode cX6_sumUpTo 40 = .ok (.iadd, 1) := by decide +kernel
theorem dX6_sumUpTo_41 : decode cX6_sumUpTo 41 = .ok (.istore_n 3, 1) := by decide +kernel
theorem dX6_sumUpTo_42 : decode cX6_sumUpTo 42 = .ok (.iinc 4 1, 3) := by decide +kernel
theorem dX6_sumUpTo_45 : decode cX6_sumUpTo 45 = .ok (.goto (-40), 3) := by decide +kernel
theorem dX6_sumUpTo_48 : decode cX6_sumUpTo 48 = .ok (.iload_n 3, 1) := by decide +kernel
theorem dX6_sumUpTo_49 : decode cX6_sumUpTo 49 = .ok (.ireturn, 1) := by decide +kernel
set_option maxRecDepth 20000 in
theorem ggX6_freezes_Jx4a65c_size_8abf5 : GoodIn wsX6_freezes wsJx4a65c_size_8abf5 := goodIn_r _ [7, 8, 36, 37, 38] (by decide +kernel) (by decide +kernel)
set_option maxRecDepth 20000 in
theorem gX6_freezes_Jx4a65c_size_8abf5 : GoodIn wsX6_freezes (wsV RX6 67 RJx4a65c yJx4a65c_size_8abf5 wsJx4a65c_size_8abf5) := goodIn_app (goodIn_of _ (by decide +kernel)) ggX6_freezes_Jx4a65c_size_8abf5
set_option maxRecDepth 20000 in
theorem ggX6_freezes_Jx4a65c_get_915e3 : GoodIn wsX6_freezes wsJx4a65c_get_915e3 := goodIn_r _ [12, 8, 13, 14, 15, 16, 17, 18, 19, 20, 21, 22, 23, 6, 24, 25, 36, 37, 38] (by decide +kernel) (by decide +kernel)
set_option maxRecDepth 20000 in
theorem gX6_freezes_Jx4a65c_get_915e3 : GoodIn wsX6_freezes (wsV RX6 109 RJx4a65c yJx4a65c_get_915e3 wsJx4a65c_get_915e3) := goodIn_app (goodIn_of _ (by decide +kernel)) ggX6_freezes_Jx4a65c_get_915e3
theorem dX6_freezes_0 : decode cX6_freezes 0 = .ok (.iconst 0, 1) := by decide +kernel
theorem dX6_freezes_1 : decode cX6_freezes 1 = .ok (.istore_n 2, 1) := by decide +kernel
theorem dX6_freezes_2 : decode cX6_freezes 2 = .ok (.iload_n 2, 1) := by decide +kernel
theorem dX6_freezes_3 : decode cX6_freezes 3 = .ok (.aload_n 0, 1) := by decide +kernel
theorem dX6_freezes_4 : decode cX6_freezes 4 = .ok (.getfield 38, 3) := by decide +kernel
theorem dX6_freezes_7 : decode cX6_freezes 7 = .ok (.invokevirtual 67, 3) := by decide +kernel
theorem dX6_freezes_10 : decode cX6_freezes 10 = .ok (.if_icmp .ge 46, 3) := by decide +kernel
theorem dX6_freezes_13 : decode cX6_freezes 13 = .ok (.aload_n 0, 1) := by decide +kernel
theorem dX6_freezes_14 : decode cX6_freezes 14 = .ok (.getfield 38, 3) := by decide +kernel
theorem dX6_freezes_17 : decode cX6_freezes 17 = .ok (.iload_n 2, 1) := by decide +kernel
theorem dX6_freezes_18 : decode cX6_freezes 18 = .ok (.invokevirtual 109, 3) := by decide +kernel
theorem dX6_freezes_21 : decode cX6_freezes 21 = .ok (.checkcast 151, 3) := by decide +kernel
theorem dX6_freezes_24 : decode cX6_freezes 24 = .ok (.astore_n 3, 1) := by decide +kernel
theorem dX6_freezes_25 : decode cX6_freezes 25 = .ok (.aload_n 3, 1) := by decide +kernel
theorem dX6_freezes_26 : decode cX6_freezes 26 = .ok (.getfield 163, 3) := by decide +kernel
theorem dX6_freezes_29 : decode cX6_freezes 29 = .ok (.ifCond .ne 21, 3) := by decide +kernel
theorem dX6_freezes_32 : decode cX6_freezes 32 = .ok (.aload_n 3, 1) := by decide +kernel
theorem dX6_freezes_33 : decode cX6_freezes 33 = .ok (.getfield 236, 3) := by decide +kernel
theorem dX6_freezes_36 : decode cX6_freezes 36 = .ok (.iload_n 1, 1) := by decide +kernel
theorem dX6_freezes_37 : decode cX6_freezes 37 = .ok (.if_icmp .gt 13, 3) := by decide +kernel
theorem dX6_freezes_40 : decode cX6_freezes 40 = .ok (.iload_n 1, 1) := by decide +kernel
theorem dX6_freezes_41 : decode cX6_freezes 41 = .ok (.aload_n 3, 1) := by decide +kernel
theorem dX6_freezes_42 : decode cX6_freezes 42 = .ok (.getfield 239, 3) := by decide +kernel
theorem dX6_freezes_45 : decode cX6_freezes 45 = .ok (.if_icmp .gt 5, 3) := by decide +kernel
theorem dX6_freezes_48 : decode cX6_freezes 48 = .ok (.iconst 1, 1) := by decide +kernel
theorem dX6_freezes_49 : decode cX6_freezes 49 = .ok (.ireturn, 1) := by decide +kernel
theorem dX6_freezes_50 : decode cX6_freezes 50 = .ok (.iinc 2 1, 3) := by decide +kernel
theorem dX6_freezes_53 : decode cX6_freezes 53 = .ok (.goto (-51), 3) := by decide +kernel
theorem dX6_freezes_56 : decode cX6_freezes 56 = .ok (.iconst 0, 1) := by decide +kernel
theorem dX6_freezes_57 : decode cX6_freezes 57 = .ok (.ireturn, 1) := by decide +kernel
set_option maxRecDepth 20000 in
theorem ggX6_isProofKept_X6_chainUpTo_c0 : GoodIn wsX6_isProofKept ([.code yX6_chainUpTo cX6_chainUpTo 4 (some .int)]) := goodIn_r _ [5] (by decide +kernel) (by decide +kernel)
set_option maxRecDepth 20000 in
theorem ggX6_isProofKept_X6_chainUpTo_c1 : GoodIn wsX6_isProofKept (wsX6_chainUpTo_r1) := goodIn_r _ [6, 7, 8, 9, 10, 11, 12, 13, 14, 15, 16, 17, 18, 19, 20, 21, 22, 23, 24, 25, 26, 27, 28, 29] (by decide +kernel) (by decide +kernel)
set_option maxRecDepth 20000 in
theorem ggX6_isProofKept_X6_chainUpTo_c2 : GoodIn wsX6_isProofKept (wsX6_chainUpTo_r2) := goodIn_r _ [30, 31, 32, 33, 34, 35, 36, 37, 38, 39, 40, 41] (by decide +kernel) (by decide +kernel)
set_option maxRecDepth 20000 in
theorem ggX6_isProofKept_X6_chainUpTo_c3 : GoodIn wsX6_isProofKept (wsX60) := goodIn_r _ [46, 47, 48, 49, 50, 51] (by decide +kernel) (by decide +kernel)
set_option maxRecDepth 20000 in
theorem ggX6_isProofKept_X6_chainUpTo_c4 : GoodIn wsX6_isProofKept (wsX10) := goodIn_r _ [52, 53, 54, 55, 56, 57] (by decide +kernel) (by decide +kernel)
set_option maxRecDepth 20000 in
theorem ggX6_isProofKept_X6_chainUpTo_c5 : GoodIn wsX6_isProofKept (wsJx4a65c0) := goodIn_r _ [58, 59, 60] (by decide +kernel) (by decide +kernel)
set_option maxRecDepth 20000 in
theorem ggX6_isProofKept_X6_chainUpTo_c6 : GoodIn wsX6_isProofKept (wsX40) := goodIn_r _ [61, 62] (by decide +kernel) (by decide +kernel)
set_option maxRecDepth 20000 in
theorem ggX6_isProofKept_X6_chainUpTo : GoodIn wsX6_isProofKept wsX6_chainUpTo := (goodIn_c1 ggX6_isProofKept_X6_chainUpTo_c0 (goodIn_app (goodIn_app (goodIn_app (goodIn_app (goodIn_app ggX6_isProofKept_X6_chainUpTo_c1 ggX6_isProofKept_X6_chainUpTo_c2) ggX6_isProofKept_X6_chainUpTo_c3) ggX6_isProofKept_X6_chainUpTo_c4) ggX6_isProofKept_X6_chainUpTo_c5) ggX6_isProofKept_X6_chainUpTo_c6))
set_option maxRecDepth 20000 in
theorem gX6_isProofKept_X6_chainUpTo : GoodIn wsX6_isProofKept (wsV RX6 153 RX6 yX6_chainUpTo wsX6_chainUpTo) := goodIn_app (goodIn_of _ (by decide +kernel)) ggX6_isProofKept_X6_chainUpTo
theorem dX6_isProofKept_0 : decode cX6_isProofKept 0 = .ok (.aload_n 0, 1) := by decide +kernel
theorem dX6_isProofKept_1 : decode cX6_isProofKept 1 = .ok (.aload_n 1, 1) := by decide +kernel
theorem dX6_isProofKept_2 : decode cX6_isProofKept 2 = .ok (.getfield 239, 3) := by decide +kernel
theorem dX6_isProofKept_5 : decode cX6_isProofKept 5 = .ok (.invokevirtual 153, 3) := by decide +kernel
theorem dX6_isProofKept_8 : decode cX6_isProofKept 8 = .ok (.aload_n 1, 1) := by decide +kernel
theorem dX6_isProofKept_9 : decode cX6_isProofKept 9 = .ok (.getfield 242, 3) := by decide +kernel
theorem dX6_isProofKept_12 : decode cX6_isProofKept 12 = .ok (.if_icmp .ne 7, 3) := by decide +kernel
theorem dX6_isProofKept_15 : decode cX6_isProofKept 15 = .ok (.iconst 1, 1) := by decide +kernel
theorem dX6_isProofKept_16 : decode cX6_isProofKept 16 = .ok (.goto 4, 3) := by decide +kernel
theorem dX6_isProofKept_19 : decode cX6_isProofKept 19 = .ok (.iconst 0, 1) := by decide +kernel
theorem dX6_isProofKept_20 : decode cX6_isProofKept 20 = .ok (.ireturn, 1) := by decide +kernel
set_option maxRecDepth 20000 in
theorem ggX6_countDoubtedBy_Jx4a65c_size_8abf5 : GoodIn wsX6_countDoubtedBy wsJx4a65c_size_8abf5 := goodIn_r _ [6, 7, 70, 71, 72] (by decide +kernel) (by decide +kernel)
set_option maxRecDepth 20000 in
theorem gX6_countDoubtedBy_Jx4a65c_size_8abf5 : GoodIn wsX6_countDoubtedBy (wsV RX6 67 RJx4a65c yJx4a65c_size_8abf5 wsJx4a65c_size_8abf5) := goodIn_app (goodIn_of _ (by decide +kernel)) ggX6_countDoubtedBy_Jx4a65c_size_8abf5
set_option maxRecDepth 20000 in
theorem ggX6_countDoubtedBy_X6_isDoubtedBy_c0 : GoodIn wsX6_countDoubtedBy ([.code yX6_isDoubtedBy cX6_isDoubtedBy 3 (some .boolean)]) := goodIn_r _ [12] (by decide +kernel) (by decide +kernel)
set_option maxRecDepth 20000 in
theorem ggX6_countDoubtedBy_X6_isDoubtedBy_c1 : GoodIn wsX6_countDoubtedBy (wsX6_isDoubtedBy_r1) := goodIn_r _ [1, 13, 2, 3, 4, 5, 6, 7, 14, 15, 16, 11, 17, 18, 19, 20, 21, 22, 23, 24, 25, 26, 27, 28] (by decide +kernel) (by decide +kernel)
set_option maxRecDepth 20000 in
theorem ggX6_countDoubtedBy_X6_isDoubtedBy_c2 : GoodIn wsX6_countDoubtedBy (wsX6_isDoubtedBy_r2) := goodIn_r _ [29, 30, 31, 32, 33, 34, 35, 36, 37, 38, 39, 40, 41, 42, 43, 44, 45, 46, 47, 48, 49, 50, 51, 52] (by decide +kernel) (by decide +kernel)
set_option maxRecDepth 20000 in
theorem ggX6_countDoubtedBy_X6_isDoubtedBy_c3 : GoodIn wsX6_countDoubtedBy (wsX6_isDoubtedBy_r3) := goodIn_r _ [53, 54, 55, 56, 57, 58, 59, 60, 61, 62, 63] (by decide +kernel) (by decide +kernel)
set_option maxRecDepth 20000 in
theorem ggX6_countDoubtedBy_X6_isDoubtedBy_c4 : GoodIn wsX6_countDoubtedBy (wsX30) := goodIn_r _ [73, 74, 75, 76, 77] (by decide +kernel) (by decide +kernel)
set_option maxRecDepth 20000 in
theorem ggX6_countDoubtedBy_X6_isDoubtedBy_c5 : GoodIn wsX6_countDoubtedBy (wsX60) := goodIn_r _ [64, 65, 66, 67, 68, 69] (by decide +kernel) (by decide +kernel)
set_option maxRecDepth 20000 in
theorem ggX6_countDoubtedBy_X6_isDoubtedBy_c6 : GoodIn wsX6_countDoubtedBy (wsJx4a65c0) := goodIn_r _ [70, 71, 72] (by decide +kernel) (by decide +kernel)
set_option maxRecDepth 20000 in
theorem ggX6_countDoubtedBy_X6_isDoubtedBy_c7 : GoodIn wsX6_countDoubtedBy (wsX10) := goodIn_r _ [78, 79, 80, 81, 82, 83] (by decide +kernel) (by decide +kernel)
set_option maxRecDepth 20000 in
theorem ggX6_countDoubtedBy_X6_isDoubtedBy : GoodIn wsX6_countDoubtedBy wsX6_isDoubtedBy := (goodIn_c1 ggX6_countDoubtedBy_X6_isDoubtedBy_c0 (goodIn_app (goodIn_app (goodIn_app (goodIn_app (goodIn_app ggX6_countDoubtedBy_X6_isDoubtedBy_c1 (goodIn_app ggX6_countDoubtedBy_X6_isDoubtedBy_c2 ggX6_countDoubtedBy_X6_isDoubtedBy_c3)) ggX6_countDoubtedBy_X6_isDoubtedBy_c4) ggX6_countDoubtedBy_X6_isDoubtedBy_c5) ggX6_countDoubtedBy_X6_isDoubtedBy_c6) ggX6_countDoubtedBy_X6_isDoubtedBy_c7))
set_option maxRecDepth 20000 in
theorem gX6_countDoubtedBy_X6_isDoubtedBy : GoodIn wsX6_countDoubtedBy (wsV RX6 194 RX6 yX6_isDoubtedBy wsX6_isDoubtedBy) := goodIn_app (goodIn_of _ (by decide +kernel)) ggX6_countDoubtedBy_X6_isDoubtedBy
theorem dX6_countDoubtedBy_0 : decode cX6_countDoubtedBy 0 = .ok (.iconst 0, 1) := by decide +kernel
theorem dX6_countDoubtedBy_1 : decode cX6_countDoubtedBy 1 = .ok (.istore_n 2, 1) := by decide +kernel
theorem dX6_countDoubtedBy_2 : decode cX6_countDoubtedBy 2 = .ok (.iconst 0, 1) := by decide +kernel
theorem dX6_countDoubtedBy_3 : decode cX6_countDoubtedBy 3 = .ok (.istore_n 3, 1) := by decide +kernel
theorem dX6_countDoubtedBy_4 : decode cX6_countDoubtedBy 4 = .ok (.iload_n 3, 1) := by decide +kernel
theorem dX6_countDoubtedBy_5 : decode cX6_countDoubtedBy 5 = .ok (.aload_n 0, 1) := by decide +kernel
theorem dX6_countDoubtedBy_6 : decode cX6_countDoubtedBy 6 = .ok (.getfield 31, 3) := by decide +kernel
theorem dX6_countDoubtedBy_9 : decode cX6_countDoubtedBy 9 = .ok (.invokevirtual 67, 3) := by decide +kernel
theorem dX6_countDoubtedBy_12 : decode cX6_countDoubtedBy 12 = .ok (.if_icmp .ge 21, 3) := by decide +kernel
theorem dX6_countDoubtedBy_15 : decode cX6_countDoubtedBy 15 = .ok (.aload_n 0, 1) := by decide +kernel
theorem dX6_countDoubtedBy_16 : decode cX6_countDoubtedBy 16 = .ok (.iload_n 3, 1) := by decide +kernel
theorem dX6_countDoubtedBy_17 : decode cX6_countDoubtedBy 17 = .ok (.aload_n 1, 1) := by decide +kernel
theorem dX6_countDoubtedBy_18 : decode cX6_countDoubtedBy 18 = .ok (.invokevirtual 194, 3) := by decide +kernel
theorem dX6_countDoubtedBy_21 : decode cX6_countDoubtedBy 21 = .ok (.ifCond .eq 6, 3) := by decide +kernel
theorem dX6_countDoubtedBy_24 : decode cX6_countDoubtedBy 24 = .ok (.iinc 2 1, 3) := by decide +kernel
theorem dX6_countDoubtedBy_27 : decode cX6_countDoubtedBy 27 = .ok (.iinc 3 1, 3) := by decide +kernel
theorem dX6_countDoubtedBy_30 : decode cX6_countDoubtedBy 30 = .ok (.goto (-26), 3) := by decide +kernel
theorem dX6_countDoubtedBy_33 : decode cX6_countDoubtedBy 33 = .ok (.iload_n 2, 1) := by decide +kernel
theorem dX6_countDoubtedBy_34 : decode cX6_countDoubtedBy 34 = .ok (.ireturn, 1) := by decide +kernel
set_option maxRecDepth 20000 in
theorem ggX6_isDoubtedBy_Jx4a65c_size_8abf5 : GoodIn wsX6_isDoubtedBy wsJx4a65c_size_8abf5 := goodIn_r _ [7, 8, 71, 72, 73] (by decide +kernel) (by decide +kernel)
set_option maxRecDepth 20000 in
theorem gX6_isDoubtedBy_Jx4a65c_size_8abf5 : GoodIn wsX6_isDoubtedBy (wsV RX6 67 RJx4a65c yJx4a65c_size_8abf5 wsJx4a65c_size_8abf5) := goodIn_app (goodIn_of _ (by decide +kernel)) ggX6_isDoubtedBy_Jx4a65c_size_8abf5
set_option maxRecDepth 20000 in
theorem ggX6_isDoubtedBy_X6_sumUpTo_c0 : GoodIn wsX6_isDoubtedBy ([.code yX6_sumUpTo cX6_sumUpTo 5 (some .int)]) := goodIn_r _ [13] (by decide +kernel) (by decide +kernel)
set_option maxRecDepth 20000 in
theorem ggX6_isDoubtedBy_X6_sumUpTo_c1 : GoodIn wsX6_isDoubtedBy (wsX6_sumUpTo_r1) := goodIn_r _ [1, 2, 3, 4, 5, 6, 7, 8, 14, 15, 16, 17, 18, 19, 20, 21, 22, 23, 24, 25, 26, 27, 28, 29] (by decide +kernel) (by decide +kernel)
set_option maxRecDepth 20000 in
theorem ggX6_isDoubtedBy_X6_sumUpTo_c2 : GoodIn wsX6_isDoubtedBy (wsX6_sumUpTo_r2) := goodIn_r _ [30, 31, 32, 33, 34, 35, 36] (by decide +kernel) (by decide +kernel)
set_option maxRecDepth 20000 in
theorem ggX6_isDoubtedBy_X6_sumUpTo_c3 : GoodIn wsX6_isDoubtedBy (wsX60) := goodIn_r _ [65, 66, 67, 68, 69, 70] (by decide +kernel) (by decide +kernel)
set_option maxRecDepth 20000 in
theorem ggX6_isDoubtedBy_X6_sumUpTo_c4 : GoodIn wsX6_isDoubtedBy (wsJx4a65c0) := goodIn_r _ [71, 72, 73] (by decide +kernel) (by decide +kernel)
set_option maxRecDepth 20000 in
theorem ggX6_isDoubtedBy_X6_sumUpTo_c5 : GoodIn wsX6_isDoubtedBy (wsX10) := goodIn_r _ [74, 75, 76, 77, 78, 79] (by decide +kernel) (by decide +kernel)
set_option maxRecDepth 20000 in
theorem ggX6_isDoubtedBy_X6_sumUpTo : GoodIn wsX6_isDoubtedBy wsX6_sumUpTo := (goodIn_c1 ggX6_isDoubtedBy_X6_sumUpTo_c0 (goodIn_app (goodIn_app (goodIn_app (goodIn_app ggX6_isDoubtedBy_X6_sumUpTo_c1 ggX6_isDoubtedBy_X6_sumUpTo_c2) ggX6_isDoubtedBy_X6_sumUpTo_c3) ggX6_isDoubtedBy_X6_sumUpTo_c4) ggX6_isDoubtedBy_X6_sumUpTo_c5))
set_option maxRecDepth 20000 in
theorem gX6_isDoubtedBy_X6_sumUpTo : GoodIn wsX6_isDoubtedBy (wsV RX6 190 RX6 yX6_sumUpTo wsX6_sumUpTo) := goodIn_app (goodIn_of _ (by decide +kernel)) ggX6_isDoubtedBy_X6_sumUpTo
set_option maxRecDepth 20000 in
theorem ggX6_isDoubtedBy_Jx4a65c_get_915e3 : GoodIn wsX6_isDoubtedBy wsJx4a65c_get_915e3 := goodIn_r _ [17, 8, 18, 19, 20, 21, 22, 23, 24, 25, 26, 27, 28, 6, 29, 30, 71, 72, 73] (by decide +kernel) (by decide +kernel)
set_option maxRecDepth 20000 in
theorem gX6_isDoubtedBy_Jx4a65c_get_915e3 : GoodIn wsX6_isDoubtedBy (wsV RX6 109 RJx4a65c yJx4a65c_get_915e3 wsJx4a65c_get_915e3) := goodIn_app (goodIn_of _ (by decide +kernel)) ggX6_isDoubtedBy_Jx4a65c_get_915e3
set_option maxRecDepth 20000 in
theorem ggX6_isDoubtedBy_X3_doubtsAlone_c0 : GoodIn wsX6_isDoubtedBy ([.code yX3_doubtsAlone cX3_doubtsAlone 2 (some .boolean)]) := goodIn_r _ [41] (by decide +kernel) (by decide +kernel)
set_option maxRecDepth 20000 in
theorem ggX6_isDoubtedBy_X3_doubtsAlone_c1 : GoodIn wsX6_isDoubtedBy ([.fieldLink RX3 9 "Postlint$Rule" "kind" "I", .fieldLink RX3 15 "Postlint$Rule" "account" "I", .methodLink RX3 34 Lib.Math.abs.name, .static Lib.Math.abs.name, .initialized "java/lang/Math", .code Lib.Math.abs.name Lib.Math.abs.code 1 (some .int), .fieldLink RX3 21 "Postlint$Rule" "number" "I", .fieldLink RX3 18 "Postlint$Rule" "other" "I", .methodLink RX3 24 yX1_allAmounts, .instanceMethod yX1_allAmounts, .selects RX1 yX1_allAmounts yX1_allAmounts, .initialized RX1, .code yX1_allAmounts cX1_allAmounts 3 (some .int), .fieldLink RX1 23 "Postlint$Entry" "amounts" "[I", .methodLink RX3 30 yX1_amountOf, .instanceMethod yX1_amountOf, .selects RX1 yX1_amountOf yX1_amountOf, .code yX1_amountOf cX1_amountOf 2 (some .int), .methodLink RX3 39 yX1_has, .instanceMethod yX1_has, .selects RX1 yX1_has yX1_has, .code yX1_has cX1_has 2 (some .boolean), .fieldLink RX1 55 "Postlint$Entry" "accountBits" "I"]) := goodIn_r _ [42, 43, 44, 45, 46, 47, 48, 49, 50, 51, 52, 34, 53, 36, 54, 32, 33, 35, 55, 56, 57, 58, 59] (by decide +kernel) (by decide +kernel)
set_option maxRecDepth 20000 in
theorem ggX6_isDoubtedBy_X3_doubtsAlone_c2 : GoodIn wsX6_isDoubtedBy (wsX30) := goodIn_r _ [60, 61, 62, 63, 64] (by decide +kernel) (by decide +kernel)
set_option maxRecDepth 20000 in
theorem ggX6_isDoubtedBy_X3_doubtsAlone_c3 : GoodIn wsX6_isDoubtedBy (wsX10) := goodIn_r _ [74, 75, 76, 77, 78, 79] (by decide +kernel) (by decide +kernel)
set_option maxRecDepth 20000 in
theorem ggX6_isDoubtedBy_X3_doubtsAlone : GoodIn wsX6_isDoubtedBy wsX3_doubtsAlone := (goodIn_c1 ggX6_isDoubtedBy_X3_doubtsAlone_c0 (goodIn_app (goodIn_app ggX6_isDoubtedBy_X3_doubtsAlone_c1 ggX6_isDoubtedBy_X3_doubtsAlone_c2) ggX6_isDoubtedBy_X3_doubtsAlone_c3))
set_option maxRecDepth 20000 in
theorem gX6_isDoubtedBy_X3_doubtsAlone : GoodIn wsX6_isDoubtedBy (wsV RX6 254 RX3 yX3_doubtsAlone wsX3_doubtsAlone) := goodIn_app (goodIn_of _ (by decide +kernel)) ggX6_isDoubtedBy_X3_doubtsAlone
theorem dX6_isDoubtedBy_0 : decode cX6_isDoubtedBy 0 = .ok (.aload_n 2, 1) := by decide +kernel
theorem dX6_isDoubtedBy_1 : decode cX6_isDoubtedBy 1 = .ok (.getfield 135, 3) := by decide +kernel
theorem dX6_isDoubtedBy_4 : decode cX6_isDoubtedBy 4 = .ok (.ifCond .ne 18, 3) := by decide +kernel
theorem dX6_isDoubtedBy_7 : decode cX6_isDoubtedBy 7 = .ok (.iload_n 1, 1) := by decide +kernel
theorem dX6_isDoubtedBy_8 : decode cX6_isDoubtedBy 8 = .ok (.ifCond .lt 14, 3) := by decide +kernel
theorem dX6_isDoubtedBy_11 : decode cX6_isDoubtedBy 11 = .ok (.iload_n 1, 1) := by decide +kernel
theorem dX6_isDoubtedBy_12 : decode cX6_isDoubtedBy 12 = .ok (.aload_n 0, 1) := by decide +kernel
theorem dX6_isDoubtedBy_13 : decode cX6_isDoubtedBy 13 = .ok (.getfield 31, 3) := by decide +kernel
