theorem dX2_stateBehindStart_30 : decode cX2_stateBehindStart 30 = .ok (.putfield 15, 3) := by decide +kernel
theorem dX2_stateBehindStart_33 : decode cX2_stateBehindStart 33 = .ok (.iconst 0, 1) := by decide +kernel
theorem dX2_stateBehindStart_34 : decode cX2_stateBehindStart 34 = .ok (.ireturn, 1) := by decide +kernel
theorem dX2_stateBehindStart_35 : decode cX2_stateBehindStart 35 = .ok (.iconst (-1), 1) := by decide +kernel
theorem dX2_stateBehindStart_36 : decode cX2_stateBehindStart 36 = .ok (.ireturn, 1) := by decide +kernel
theorem dX2_stateBehindItem_0 : decode cX2_stateBehindItem 0 = .ok (.iload_n 1, 1) := by decide +kernel
theorem dX2_stateBehindItem_1 : decode cX2_stateBehindItem 1 = .ok (.bipush 32, 2) := by decide +kernel
theorem dX2_stateBehindItem_3 : decode cX2_stateBehindItem 3 = .ok (.if_icmp .ne 6, 3) := by decide +kernel
theorem dX2_stateBehindItem_6 : decode cX2_stateBehindItem 6 = .ok (.bipush 9, 2) := by decide +kernel
theorem dX2_stateBehindItem_8 : decode cX2_stateBehindItem 8 = .ok (.ireturn, 1) := by decide +kernel
theorem dX2_stateBehindItem_9 : decode cX2_stateBehindItem 9 = .ok (.iload_n 1, 1) := by decide +kernel
theorem dX2_stateBehindItem_10 : decode cX2_stateBehindItem 10 = .ok (.bipush 41, 2) := by decide +kernel
theorem dX2_stateBehindItem_12 : decode cX2_stateBehindItem 12 = .ok (.if_icmp .ne 23, 3) := by decide +kernel
theorem dX2_stateBehindItem_15 : decode cX2_stateBehindItem 15 = .ok (.aload_n 0, 1) := by decide +kernel
theorem dX2_stateBehindItem_16 : decode cX2_stateBehindItem 16 = .ok (.getfield 15, 3) := by decide +kernel
theorem dX2_stateBehindItem_19 : decode cX2_stateBehindItem 19 = .ok (.ifCond .le 16, 3) := by decide +kernel
theorem dX2_stateBehindItem_22 : decode cX2_stateBehindItem 22 = .ok (.aload_n 0, 1) := by decide +kernel
theorem dX2_stateBehindItem_23 : decode cX2_stateBehindItem 23 = .ok (.dup, 1) := by decide +kernel
theorem dX2_stateBehindItem_24 : decode cX2_stateBehindItem 24 = .ok (.getfield 15, 3) := by decide +kernel
theorem dX2_stateBehindItem_27 : decode cX2_stateBehindItem 27 = .ok (.iconst 1, 1) := by decide +kernel
theorem dX2_stateBehindItem_28 : decode cX2_stateBehindItem 28 = .ok (.isub, 1) := by decide +kernel
theorem dX2_stateBehindItem_29 : decode cX2_stateBehindItem 29 = .ok (.putfield 15, 3) := by decide +kernel
theorem dX2_stateBehindItem_32 : decode cX2_stateBehindItem 32 = .ok (.bipush 7, 2) := by decide +kernel
theorem dX2_stateBehindItem_34 : decode cX2_stateBehindItem 34 = .ok (.ireturn, 1) := by decide +kernel
theorem dX2_stateBehindItem_35 : decode cX2_stateBehindItem 35 = .ok (.iconst (-1), 1) := by decide +kernel
theorem dX2_stateBehindItem_36 : decode cX2_stateBehindItem 36 = .ok (.ireturn, 1) := by decide +kernel
theorem dX3_init_0 : decode cX3_init 0 = .ok (.aload_n 0, 1) := by decide +kernel
theorem dX3_init_1 : decode cX3_init 1 = .ok (.invokespecial 3, 3) := by decide +kernel
theorem dX3_init_4 : decode cX3_init 4 = .ok (.aload_n 0, 1) := by decide +kernel
theorem dX3_init_5 : decode cX3_init 5 = .ok (.iload_n 1, 1) := by decide +kernel
theorem dX3_init_6 : decode cX3_init 6 = .ok (.putfield 9, 3) := by decide +kernel
theorem dX3_init_9 : decode cX3_init 9 = .ok (.aload_n 0, 1) := by decide +kernel
theorem dX3_init_10 : decode cX3_init 10 = .ok (.iload_n 2, 1) := by decide +kernel
theorem dX3_init_11 : decode cX3_init 11 = .ok (.putfield 15, 3) := by decide +kernel
theorem dX3_init_14 : decode cX3_init 14 = .ok (.aload_n 0, 1) := by decide +kernel
theorem dX3_init_15 : decode cX3_init 15 = .ok (.iload_n 3, 1) := by decide +kernel
theorem dX3_init_16 : decode cX3_init 16 = .ok (.putfield 18, 3) := by decide +kernel
theorem dX3_init_19 : decode cX3_init 19 = .ok (.aload_n 0, 1) := by decide +kernel
theorem dX3_init_20 : decode cX3_init 20 = .ok (.iload 4, 2) := by decide +kernel
theorem dX3_init_22 : decode cX3_init 22 = .ok (.putfield 21, 3) := by decide +kernel
theorem dX3_init_25 : decode cX3_init 25 = .ok (.return_, 1) := by decide +kernel
set_option maxRecDepth 20000 in
theorem ggX3_doubtsAlone_X1_allAmounts : GoodIn wsX3_doubtsAlone wsX1_allAmounts := goodIn_r _ [13, 14, 29, 30, 31, 32, 33, 34] (by decide +kernel) (by decide +kernel)
set_option maxRecDepth 20000 in
theorem gX3_doubtsAlone_X1_allAmounts : GoodIn wsX3_doubtsAlone (wsV RX3 24 RX1 yX1_allAmounts wsX1_allAmounts) := goodIn_app (goodIn_of _ (by decide +kernel)) ggX3_doubtsAlone_X1_allAmounts
set_option maxRecDepth 20000 in
theorem ggX3_doubtsAlone_X1_amountOf : GoodIn wsX3_doubtsAlone wsX1_amountOf := goodIn_r _ [18, 14, 29, 30, 31, 32, 33, 34] (by decide +kernel) (by decide +kernel)
set_option maxRecDepth 20000 in
theorem gX3_doubtsAlone_X1_amountOf : GoodIn wsX3_doubtsAlone (wsV RX3 30 RX1 yX1_amountOf wsX1_amountOf) := goodIn_app (goodIn_of _ (by decide +kernel)) ggX3_doubtsAlone_X1_amountOf
set_option maxRecDepth 20000 in
theorem ggX3_doubtsAlone_X1_has : GoodIn wsX3_doubtsAlone wsX1_has := goodIn_r _ [22, 23, 29, 30, 31, 32, 33, 34] (by decide +kernel) (by decide +kernel)
set_option maxRecDepth 20000 in
theorem gX3_doubtsAlone_X1_has : GoodIn wsX3_doubtsAlone (wsV RX3 39 RX1 yX1_has wsX1_has) := goodIn_app (goodIn_of _ (by decide +kernel)) ggX3_doubtsAlone_X1_has
theorem dX3_doubtsAlone_0 : decode cX3_doubtsAlone 0 = .ok (.aload_n 0, 1) := by decide +kernel
theorem dX3_doubtsAlone_1 : decode cX3_doubtsAlone 1 = .ok (.getfield 9, 3) := by decide +kernel
theorem dX3_doubtsAlone_4 : decode cX3_doubtsAlone 4 = .ok (.tableswitch 93 0 2 #[28, 41, 65], 28) := by decide +kernel
theorem dX3_doubtsAlone_32 : decode cX3_doubtsAlone 32 = .ok (.aload_n 1, 1) := by decide +kernel
theorem dX3_doubtsAlone_33 : decode cX3_doubtsAlone 33 = .ok (.invokevirtual 24, 3) := by decide +kernel
theorem dX3_doubtsAlone_36 : decode cX3_doubtsAlone 36 = .ok (.ifCond .eq 7, 3) := by decide +kernel
theorem dX3_doubtsAlone_39 : decode cX3_doubtsAlone 39 = .ok (.iconst 1, 1) := by decide +kernel
theorem dX3_doubtsAlone_40 : decode cX3_doubtsAlone 40 = .ok (.goto 4, 3) := by decide +kernel
theorem dX3_doubtsAlone_43 : decode cX3_doubtsAlone 43 = .ok (.iconst 0, 1) := by decide +kernel
theorem dX3_doubtsAlone_44 : decode cX3_doubtsAlone 44 = .ok (.ireturn, 1) := by decide +kernel
theorem dX3_doubtsAlone_45 : decode cX3_doubtsAlone 45 = .ok (.aload_n 1, 1) := by decide +kernel
theorem dX3_doubtsAlone_46 : decode cX3_doubtsAlone 46 = .ok (.aload_n 0, 1) := by decide +kernel
theorem dX3_doubtsAlone_47 : decode cX3_doubtsAlone 47 = .ok (.getfield 15, 3) := by decide +kernel
theorem dX3_doubtsAlone_50 : decode cX3_doubtsAlone 50 = .ok (.invokevirtual 30, 3) := by decide +kernel
theorem dX3_doubtsAlone_53 : decode cX3_doubtsAlone 53 = .ok (.invokestatic 34, 3) := by decide +kernel
theorem dX3_doubtsAlone_56 : decode cX3_doubtsAlone 56 = .ok (.aload_n 0, 1) := by decide +kernel
theorem dX3_doubtsAlone_57 : decode cX3_doubtsAlone 57 = .ok (.getfield 21, 3) := by decide +kernel
theorem dX3_doubtsAlone_60 : decode cX3_doubtsAlone 60 = .ok (.if_icmp .le 7, 3) := by decide +kernel
theorem dX3_doubtsAlone_63 : decode cX3_doubtsAlone 63 = .ok (.iconst 1, 1) := by decide +kernel
theorem dX3_doubtsAlone_64 : decode cX3_doubtsAlone 64 = .ok (.goto 4, 3) := by decide +kernel
theorem dX3_doubtsAlone_67 : decode cX3_doubtsAlone 67 = .ok (.iconst 0, 1) := by decide +kernel
theorem dX3_doubtsAlone_68 : decode cX3_doubtsAlone 68 = .ok (.ireturn, 1) := by decide +kernel
theorem dX3_doubtsAlone_69 : decode cX3_doubtsAlone 69 = .ok (.aload_n 1, 1) := by decide +kernel
theorem dX3_doubtsAlone_70 : decode cX3_doubtsAlone 70 = .ok (.aload_n 0, 1) := by decide +kernel
theorem dX3_doubtsAlone_71 : decode cX3_doubtsAlone 71 = .ok (.getfield 15, 3) := by decide +kernel
theorem dX3_doubtsAlone_74 : decode cX3_doubtsAlone 74 = .ok (.invokevirtual 39, 3) := by decide +kernel
theorem dX3_doubtsAlone_77 : decode cX3_doubtsAlone 77 = .ok (.ifCond .eq 18, 3) := by decide +kernel
theorem dX3_doubtsAlone_80 : decode cX3_doubtsAlone 80 = .ok (.aload_n 1, 1) := by decide +kernel
theorem dX3_doubtsAlone_81 : decode cX3_doubtsAlone 81 = .ok (.aload_n 0, 1) := by decide +kernel
theorem dX3_doubtsAlone_82 : decode cX3_doubtsAlone 82 = .ok (.getfield 18, 3) := by decide +kernel
theorem dX3_doubtsAlone_85 : decode cX3_doubtsAlone 85 = .ok (.invokevirtual 39, 3) := by decide +kernel
theorem dX3_doubtsAlone_88 : decode cX3_doubtsAlone 88 = .ok (.ifCond .ne 7, 3) := by decide +kernel
theorem dX3_doubtsAlone_91 : decode cX3_doubtsAlone 91 = .ok (.iconst 1, 1) := by decide +kernel
theorem dX3_doubtsAlone_92 : decode cX3_doubtsAlone 92 = .ok (.goto 4, 3) := by decide +kernel
theorem dX3_doubtsAlone_95 : decode cX3_doubtsAlone 95 = .ok (.iconst 0, 1) := by decide +kernel
theorem dX3_doubtsAlone_96 : decode cX3_doubtsAlone 96 = .ok (.ireturn, 1) := by decide +kernel
theorem dX3_doubtsAlone_97 : decode cX3_doubtsAlone 97 = .ok (.iconst 0, 1) := by decide +kernel
theorem dX3_doubtsAlone_98 : decode cX3_doubtsAlone 98 = .ok (.ireturn, 1) := by decide +kernel
theorem dX4_init_0 : decode cX4_init 0 = .ok (.aload_n 0, 1) := by decide +kernel
theorem dX4_init_1 : decode cX4_init 1 = .ok (.invokespecial 3, 3) := by decide +kernel
theorem dX4_init_4 : decode cX4_init 4 = .ok (.aload_n 0, 1) := by decide +kernel
theorem dX4_init_5 : decode cX4_init 5 = .ok (.iload_n 1, 1) := by decide +kernel
theorem dX4_init_6 : decode cX4_init 6 = .ok (.iconst 0, 1) := by decide +kernel
theorem dX4_init_7 : decode cX4_init 7 = .ok (.invokestatic 9, 3) := by decide +kernel
theorem dX4_init_10 : decode cX4_init 10 = .ok (.newarray .int, 2) := by decide +kernel
theorem dX4_init_12 : decode cX4_init 12 = .ok (.putfield 15, 3) := by decide +kernel
theorem dX4_init_15 : decode cX4_init 15 = .ok (.return_, 1) := by decide +kernel
theorem dX4_size_0 : decode cX4_size 0 = .ok (.aload_n 0, 1) := by decide +kernel
theorem dX4_size_1 : decode cX4_size 1 = .ok (.getfield 21, 3) := by decide +kernel
theorem dX4_size_4 : decode cX4_size 4 = .ok (.ireturn, 1) := by decide +kernel
theorem dX4_at_0 : decode cX4_at 0 = .ok (.iload_n 1, 1) := by decide +kernel
theorem dX4_at_1 : decode cX4_at 1 = .ok (.ifCond .lt 20, 3) := by decide +kernel
theorem dX4_at_4 : decode cX4_at 4 = .ok (.iload_n 1, 1) := by decide +kernel
theorem dX4_at_5 : decode cX4_at 5 = .ok (.aload_n 0, 1) := by decide +kernel
theorem dX4_at_6 : decode cX4_at 6 = .ok (.getfield 21, 3) := by decide +kernel
theorem dX4_at_9 : decode cX4_at 9 = .ok (.if_icmp .ge 12, 3) := by decide +kernel
theorem dX4_at_12 : decode cX4_at 12 = .ok (.iload_n 1, 1) := by decide +kernel
theorem dX4_at_13 : decode cX4_at 13 = .ok (.aload_n 0, 1) := by decide +kernel
theorem dX4_at_14 : decode cX4_at 14 = .ok (.getfield 15, 3) := by decide +kernel
theorem dX4_at_17 : decode cX4_at 17 = .ok (.arraylength, 1) := by decide +kernel
theorem dX4_at_18 : decode cX4_at 18 = .ok (.if_icmp .lt 5, 3) := by decide +kernel
theorem dX4_at_21 : decode cX4_at 21 = .ok (.iconst (-1), 1) := by decide +kernel
theorem dX4_at_22 : decode cX4_at 22 = .ok (.ireturn, 1) := by decide +kernel
theorem dX4_at_23 : decode cX4_at 23 = .ok (.aload_n 0, 1) := by decide +kernel
theorem dX4_at_24 : decode cX4_at 24 = .ok (.getfield 15, 3) := by decide +kernel
theorem dX4_at_27 : decode cX4_at 27 = .ok (.iload_n 1, 1) := by decide +kernel
theorem dX4_at_28 : decode cX4_at 28 = .ok (.iaload, 1) := by decide +kernel
theorem dX4_at_29 : decode cX4_at 29 = .ok (.ireturn, 1) := by decide +kernel
set_option maxRecDepth 20000 in
theorem ggX4_last_X4_at : GoodIn wsX4_last wsX4_at := goodIn_r _ [6, 1, 7, 8, 9] (by decide +kernel) (by decide +kernel)
set_option maxRecDepth 20000 in
theorem gX4_last_X4_at : GoodIn wsX4_last (wsV RX4 25 RX4 yX4_at wsX4_at) := goodIn_app (goodIn_of _ (by decide +kernel)) ggX4_last_X4_at
theorem dX4_last_0 : decode cX4_last 0 = .ok (.aload_n 0, 1) := by decide +kernel
theorem dX4_last_1 : decode cX4_last 1 = .ok (.aload_n 0, 1) := by decide +kernel
theorem dX4_last_2 : decode cX4_last 2 = .ok (.getfield 21, 3) := by decide +kernel
theorem dX4_last_5 : decode cX4_last 5 = .ok (.iconst 1, 1) := by decide +kernel
theorem dX4_last_6 : decode cX4_last 6 = .ok (.isub, 1) := by decide +kernel
theorem dX4_last_7 : decode cX4_last 7 = .ok (.invokevirtual 25, 3) := by decide +kernel
theorem dX4_last_10 : decode cX4_last 10 = .ok (.ireturn, 1) := by decide +kernel
theorem dX4_empty_0 : decode cX4_empty 0 = .ok (.aload_n 0, 1) := by decide +kernel
theorem dX4_empty_1 : decode cX4_empty 1 = .ok (.iconst 0, 1) := by decide +kernel
theorem dX4_empty_2 : decode cX4_empty 2 = .ok (.putfield 21, 3) := by decide +kernel
theorem dX4_empty_5 : decode cX4_empty 5 = .ok (.return_, 1) := by decide +kernel
theorem dX4_add_0 : decode cX4_add 0 = .ok (.aload_n 0, 1) := by decide +kernel
theorem dX4_add_1 : decode cX4_add 1 = .ok (.getfield 21, 3) := by decide +kernel
theorem dX4_add_4 : decode cX4_add 4 = .ok (.ifCond .lt 35, 3) := by decide +kernel
theorem dX4_add_7 : decode cX4_add 7 = .ok (.aload_n 0, 1) := by decide +kernel
theorem dX4_add_8 : decode cX4_add 8 = .ok (.getfield 21, 3) := by decide +kernel
theorem dX4_add_11 : decode cX4_add 11 = .ok (.aload_n 0, 1) := by decide +kernel
theorem dX4_add_12 : decode cX4_add 12 = .ok (.getfield 15, 3) := by decide +kernel
theorem dX4_add_15 : decode cX4_add 15 = .ok (.arraylength, 1) := by decide +kernel
theorem dX4_add_16 : decode cX4_add 16 = .ok (.if_icmp .ge 23, 3) := by decide +kernel
theorem dX4_add_19 : decode cX4_add 19 = .ok (.aload_n 0, 1) := by decide +kernel
theorem dX4_add_20 : decode cX4_add 20 = .ok (.getfield 15, 3) := by decide +kernel
theorem dX4_add_23 : decode cX4_add 23 = .ok (.aload_n 0, 1) := by decide +kernel
theorem dX4_add_24 : decode cX4_add 24 = .ok (.getfield 21, 3) := by decide +kernel
theorem dX4_add_27 : decode cX4_add 27 = .ok (.iload_n 1, 1) := by decide +kernel
theorem dX4_add_28 : decode cX4_add 28 = .ok (.iastore, 1) := by decide +kernel
theorem dX4_add_29 : decode cX4_add 29 = .ok (.aload_n 0, 1) := by decide +kernel
theorem dX4_add_30 : decode cX4_add 30 = .ok (.dup, 1) := by decide +kernel
theorem dX4_add_31 : decode cX4_add 31 = .ok (.getfield 21, 3) := by decide +kernel
theorem dX4_add_34 : decode cX4_add 34 = .ok (.iconst 1, 1) := by decide +kernel
theorem dX4_add_35 : decode cX4_add 35 = .ok (.iadd, 1) := by decide +kernel
theorem dX4_add_36 : decode cX4_add 36 = .ok (.putfield 21, 3) := by decide +kernel
theorem dX4_add_39 : decode cX4_add 39 = .ok (.return_, 1) := by decide +kernel
theorem dX4_replaceLast_0 : decode cX4_replaceLast 0 = .ok (.aload_n 0, 1) := by decide +kernel
theorem dX4_replaceLast_1 : decode cX4_replaceLast 1 = .ok (.getfield 21, 3) := by decide +kernel
theorem dX4_replaceLast_4 : decode cX4_replaceLast 4 = .ok (.iconst 1, 1) := by decide +kernel
theorem dX4_replaceLast_5 : decode cX4_replaceLast 5 = .ok (.isub, 1) := by decide +kernel
theorem dX4_replaceLast_6 : decode cX4_replaceLast 6 = .ok (.istore_n 2, 1) := by decide +kernel
theorem dX4_replaceLast_7 : decode cX4_replaceLast 7 = .ok (.iload_n 2, 1) := by decide +kernel
theorem dX4_replaceLast_8 : decode cX4_replaceLast 8 = .ok (.ifCond .lt 19, 3) := by decide +kernel
theorem dX4_replaceLast_11 : decode cX4_replaceLast 11 = .ok (.iload_n 2, 1) := by decide +kernel
theorem dX4_replaceLast_12 : decode cX4_replaceLast 12 = .ok (.aload_n 0, 1) := by decide +kernel
theorem dX4_replaceLast_13 : decode cX4_replaceLast 13 = .ok (.getfield 15, 3) := by decide +kernel
theorem dX4_replaceLast_16 : decode cX4_replaceLast 16 = .ok (.arraylength, 1) := by decide +kernel
theorem dX4_replaceLast_17 : decode cX4_replaceLast 17 = .ok (.if_icmp .ge 10, 3) := by decide +kernel
theorem dX4_replaceLast_20 : decode cX4_replaceLast 20 = .ok (.aload_n 0, 1) := by decide +kernel
theorem dX4_replaceLast_21 : decode cX4_replaceLast 21 = .ok (.getfield 15, 3) := by decide +kernel
theorem dX4_replaceLast_24 : decode cX4_replaceLast 24 = .ok (.iload_n 2, 1) := by decide +kernel
theorem dX4_replaceLast_25 : decode cX4_replaceLast 25 = .ok (.iload_n 1, 1) := by decide +kernel
theorem dX4_replaceLast_26 : decode cX4_replaceLast 26 = .ok (.iastore, 1) := by decide +kernel
theorem dX4_replaceLast_27 : decode cX4_replaceLast 27 = .ok (.return_, 1) := by decide +kernel
theorem dX4_remove_0 : decode cX4_remove 0 = .ok (.iload_n 1, 1) := by decide +kernel
theorem dX4_remove_1 : decode cX4_remove 1 = .ok (.ifCond .lt 11, 3) := by decide +kernel
theorem dX4_remove_4 : decode cX4_remove 4 = .ok (.iload_n 1, 1) := by decide +kernel
theorem dX4_remove_5 : decode cX4_remove 5 = .ok (.aload_n 0, 1) := by decide +kernel
theorem dX4_remove_6 : decode cX4_remove 6 = .ok (.getfield 21, 3) := by decide +kernel
theorem dX4_remove_9 : decode cX4_remove 9 = .ok (.if_icmp .lt 4, 3) := by decide +kernel
theorem dX4_remove_12 : decode cX4_remove 12 = .ok (.return_, 1) := by decide +kernel
theorem dX4_remove_13 : decode cX4_remove 13 = .ok (.iload_n 1, 1) := by decide +kernel
theorem dX4_remove_14 : decode cX4_remove 14 = .ok (.istore_n 2, 1) := by decide +kernel
theorem dX4_remove_15 : decode cX4_remove 15 = .ok (.iload_n 2, 1) := by decide +kernel
theorem dX4_remove_16 : decode cX4_remove 16 = .ok (.iconst 1, 1) := by decide +kernel
theorem dX4_remove_17 : decode cX4_remove 17 = .ok (.iadd, 1) := by decide +kernel
theorem dX4_remove_18 : decode cX4_remove 18 = .ok (.aload_n 0, 1) := by decide +kernel
theorem dX4_remove_19 : decode cX4_remove 19 = .ok (.getfield 21, 3) := by decide +kernel
theorem dX4_remove_22 : decode cX4_remove 22 = .ok (.if_icmp .ge 34, 3) := by decide +kernel
theorem dX4_remove_25 : decode cX4_remove 25 = .ok (.iload_n 2, 1) := by decide +kernel
theorem dX4_remove_26 : decode cX4_remove 26 = .ok (.iconst 1, 1) := by decide +kernel
theorem dX4_remove_27 : decode cX4_remove 27 = .ok (.iadd, 1) := by decide +kernel
theorem dX4_remove_28 : decode cX4_remove 28 = .ok (.aload_n 0, 1) := by decide +kernel
theorem dX4_remove_29 : decode cX4_remove 29 = .ok (.getfield 15, 3) := by decide +kernel
theorem dX4_remove_32 : decode cX4_remove 32 = .ok (.arraylength, 1) := by decide +kernel
theorem dX4_remove_33 : decode cX4_remove 33 = .ok (.if_icmp .ge 23, 3) := by decide +kernel
theorem dX4_remove_36 : decode cX4_remove 36 = .ok (.aload_n 0, 1) := by decide +kernel
theorem dX4_remove_37 : decode cX4_remove 37 = .ok (.getfield 15, 3) := by decide +kernel
theorem dX4_remove_40 : decode cX4_remove 40 = .ok (.iload_n 2, 1) := by decide +kernel
theorem dX4_remove_41 : decode cX4_remove 41 = .ok (.aload_n 0, 1) := by decide +kernel
theorem dX4_remove_42 : decode cX4_remove 42 = .ok (.getfield 15, 3) := by decide +kernel
theorem dX4_remove_45 : decode cX4_remove 45 = .ok (.iload_n 2, 1) := by decide +kernel
theorem dX4_remove_46 : decode cX4_remove 46 = .ok (.iconst 1, 1) := by decide +kernel
theorem dX4_remove_47 : decode cX4_remove 47 = .ok (.iadd, 1) := by decide +kernel
theorem dX4_remove_48 : decode cX4_remove 48 = .ok (.iaload, 1) := by decide +kernel
theorem dX4_remove_49 : decode cX4_remove 49 = .ok (.iastore, 1) := by decide +kernel
theorem dX4_remove_50 : decode cX4_remove 50 = .ok (.iinc 2 1, 3) := by decide +kernel
theorem dX4_remove_53 : decode cX4_remove 53 = .ok (.goto (-38), 3) := by decide +kernel
theorem dX4_remove_56 : decode cX4_remove 56 = .ok (.aload_n 0, 1) := by decide +kernel
theorem dX4_remove_57 : decode cX4_remove 57 = .ok (.dup, 1) := by decide +kernel
theorem dX4_remove_58 : decode cX4_remove 58 = .ok (.getfield 21, 3) := by decide +kernel
theorem dX4_remove_61 : decode cX4_remove 61 = .ok (.iconst 1, 1) := by decide +kernel
theorem dX4_remove_62 : decode cX4_remove 62 = .ok (.isub, 1) := by decide +kernel
theorem dX4_remove_63 : decode cX4_remove 63 = .ok (.putfield 21, 3) := by decide +kernel
theorem dX4_remove_66 : decode cX4_remove 66 = .ok (.return_, 1) := by decide +kernel
set_option maxRecDepth 20000 in
theorem ggX4_copy_X4_empty : GoodIn wsX4_copy wsX4_empty := goodIn_r _ [5, 6, 20, 21] (by decide +kernel) (by decide +kernel)
set_option maxRecDepth 20000 in
theorem gX4_copy_X4_empty : GoodIn wsX4_copy (wsV RX4 29 RX4 yX4_empty wsX4_empty) := goodIn_app (goodIn_of _ (by decide +kernel)) ggX4_copy_X4_empty
set_option maxRecDepth 20000 in
theorem ggX4_copy_X4_size : GoodIn wsX4_copy wsX4_size := goodIn_r _ [10, 6, 20, 21] (by decide +kernel) (by decide +kernel)
set_option maxRecDepth 20000 in
theorem gX4_copy_X4_size : GoodIn wsX4_copy (wsV RX4 32 RX4 yX4_size wsX4_size) := goodIn_app (goodIn_of _ (by decide +kernel)) ggX4_copy_X4_size
set_option maxRecDepth 20000 in
theorem ggX4_copy_X4_at : GoodIn wsX4_copy wsX4_at := goodIn_r _ [14, 6, 15, 20, 21] (by decide +kernel) (by decide +kernel)
set_option maxRecDepth 20000 in
theorem gX4_copy_X4_at : GoodIn wsX4_copy (wsV RX4 25 RX4 yX4_at wsX4_at) := goodIn_app (goodIn_of _ (by decide +kernel)) ggX4_copy_X4_at
set_option maxRecDepth 20000 in
theorem ggX4_copy_X4_add : GoodIn wsX4_copy wsX4_add := goodIn_r _ [19, 6, 15, 20, 21] (by decide +kernel) (by decide +kernel)
set_option maxRecDepth 20000 in
theorem gX4_copy_X4_add : GoodIn wsX4_copy (wsV RX4 36 RX4 yX4_add wsX4_add) := goodIn_app (goodIn_of _ (by decide +kernel)) ggX4_copy_X4_add
theorem dX4_copy_0 : decode cX4_copy 0 = .ok (.aload_n 0, 1) := by decide +kernel
theorem dX4_copy_1 : decode cX4_copy 1 = .ok (.invokevirtual 29, 3) := by decide +kernel
theorem dX4_copy_4 : decode cX4_copy 4 = .ok (.iconst 0, 1) := by decide +kernel
theorem dX4_copy_5 : decode cX4_copy 5 = .ok (.istore_n 2, 1) := by decide +kernel
theorem dX4_copy_6 : decode cX4_copy 6 = .ok (.iload_n 2, 1) := by decide +kernel
theorem dX4_copy_7 : decode cX4_copy 7 = .ok (.aload_n 1, 1) := by decide +kernel
theorem dX4_copy_8 : decode cX4_copy 8 = .ok (.invokevirtual 32, 3) := by decide +kernel
theorem dX4_copy_11 : decode cX4_copy 11 = .ok (.if_icmp .ge 18, 3) := by decide +kernel
theorem dX4_copy_14 : decode cX4_copy 14 = .ok (.aload_n 0, 1) := by decide +kernel
theorem dX4_copy_15 : decode cX4_copy 15 = .ok (.aload_n 1, 1) := by decide +kernel
theorem dX4_copy_16 : decode cX4_copy 16 = .ok (.iload_n 2, 1) := by decide +kernel
theorem dX4_copy_17 : decode cX4_copy 17 = .ok (.invokevirtual 25, 3) := by decide +kernel
theorem dX4_copy_20 : decode cX4_copy 20 = .ok (.invokevirtual 36, 3) := by decide +kernel
theorem dX4_copy_23 : decode cX4_copy 23 = .ok (.iinc 2 1, 3) := by decide +kernel
theorem dX4_copy_26 : decode cX4_copy 26 = .ok (.goto (-20), 3) := by decide +kernel
theorem dX4_copy_29 : decode cX4_copy 29 = .ok (.return_, 1) := by decide +kernel
set_option maxRecDepth 20000 in
theorem ggX4_becomeOne_X4_empty : GoodIn wsX4_becomeOne wsX4_empty := goodIn_r _ [5, 6, 12, 13] (by decide +kernel) (by decide +kernel)
set_option maxRecDepth 20000 in
theorem gX4_becomeOne_X4_empty : GoodIn wsX4_becomeOne (wsV RX4 29 RX4 yX4_empty wsX4_empty) := goodIn_app (goodIn_of _ (by decide +kernel)) ggX4_becomeOne_X4_empty
set_option maxRecDepth 20000 in
theorem ggX4_becomeOne_X4_add : GoodIn wsX4_becomeOne wsX4_add := goodIn_r _ [10, 6, 11, 12, 13] (by decide +kernel) (by decide +kernel)
set_option maxRecDepth 20000 in
theorem gX4_becomeOne_X4_add : GoodIn wsX4_becomeOne (wsV RX4 36 RX4 yX4_add wsX4_add) := goodIn_app (goodIn_of _ (by decide +kernel)) ggX4_becomeOne_X4_add
theorem dX4_becomeOne_0 : decode cX4_becomeOne 0 = .ok (.aload_n 0, 1) := by decide +kernel
theorem dX4_becomeOne_1 : decode cX4_becomeOne 1 = .ok (.invokevirtual 29, 3) := by decide +kernel
theorem dX4_becomeOne_4 : decode cX4_becomeOne 4 = .ok (.aload_n 0, 1) := by decide +kernel
theorem dX4_becomeOne_5 : decode cX4_becomeOne 5 = .ok (.iload_n 1, 1) := by decide +kernel
theorem dX4_becomeOne_6 : decode cX4_becomeOne 6 = .ok (.invokevirtual 36, 3) := by decide +kernel
theorem dX4_becomeOne_9 : decode cX4_becomeOne 9 = .ok (.return_, 1) := by decide +kernel
set_option maxRecDepth 20000 in
theorem ggX4_isSameAs_X4_size : GoodIn wsX4_isSameAs wsX4_size := goodIn_r _ [6, 1, 12, 13] (by decide +kernel) (by decide +kernel)
set_option maxRecDepth 20000 in
theorem gX4_isSameAs_X4_size : GoodIn wsX4_isSameAs (wsV RX4 32 RX4 yX4_size wsX4_size) := goodIn_app (goodIn_of _ (by decide +kernel)) ggX4_isSameAs_X4_size
set_option maxRecDepth 20000 in
theorem ggX4_isSameAs_X4_at : GoodIn wsX4_isSameAs wsX4_at := goodIn_r _ [10, 1, 11, 12, 13] (by decide +kernel) (by decide +kernel)
set_option maxRecDepth 20000 in
theorem gX4_isSameAs_X4_at : GoodIn wsX4_isSameAs (wsV RX4 25 RX4 yX4_at wsX4_at) := goodIn_app (goodIn_of _ (by decide +kernel)) ggX4_isSameAs_X4_at
theorem dX4_isSameAs_0 : decode cX4_isSameAs 0 = .ok (.aload_n 0, 1) := by decide +kernel
theorem dX4_isSameAs_1 : decode cX4_isSameAs 1 = .ok (.getfield 21, 3) := by decide +kernel
theorem dX4_isSameAs_4 : decode cX4_isSameAs 4 = .ok (.aload_n 1, 1) := by decide +kernel
theorem dX4_isSameAs_5 : decode cX4_isSameAs 5 = .ok (.invokevirtual 32, 3) := by decide +kernel
theorem dX4_isSameAs_8 : decode cX4_isSameAs 8 = .ok (.if_icmp .eq 5, 3) := by decide +kernel
theorem dX4_isSameAs_11 : decode cX4_isSameAs 11 = .ok (.iconst 0, 1) := by decide +kernel
theorem dX4_isSameAs_12 : decode cX4_isSameAs 12 = .ok (.ireturn, 1) := by decide +kernel
theorem dX4_isSameAs_13 : decode cX4_isSameAs 13 = .ok (.iconst 0, 1) := by decide +kernel
theorem dX4_isSameAs_14 : decode cX4_isSameAs 14 = .ok (.istore_n 2, 1) := by decide +kernel
theorem dX4_isSameAs_15 : decode cX4_isSameAs 15 = .ok (.iload_n 2, 1) := by decide +kernel
theorem dX4_isSameAs_16 : decode cX4_isSameAs 16 = .ok (.aload_n 0, 1) := by decide +kernel
theorem dX4_isSameAs_17 : decode cX4_isSameAs 17 = .ok (.getfield 21, 3) := by decide +kernel
theorem dX4_isSameAs_20 : decode cX4_isSameAs 20 = .ok (.if_icmp .ge 24, 3) := by decide +kernel
theorem dX4_isSameAs_23 : decode cX4_isSameAs 23 = .ok (.aload_n 0, 1) := by decide +kernel
theorem dX4_isSameAs_24 : decode cX4_isSameAs 24 = .ok (.iload_n 2, 1) := by decide +kernel
theorem dX4_isSameAs_25 : decode cX4_isSameAs 25 = .ok (.invokevirtual 25, 3) := by decide +kernel
theorem dX4_isSameAs_28 : decode cX4_isSameAs 28 = .ok (.aload_n 1, 1) := by decide +kernel
theorem dX4_isSameAs_29 : decode cX4_isSameAs 29 = .ok (.iload_n 2, 1) := by decide +kernel
theorem dX4_isSameAs_30 : decode cX4_isSameAs 30 = .ok (.invokevirtual 25, 3) := by decide +kernel
theorem dX4_isSameAs_33 : decode cX4_isSameAs 33 = .ok (.if_icmp .eq 5, 3) := by decide +kernel
theorem dX4_isSameAs_36 : decode cX4_isSameAs 36 = .ok (.iconst 0, 1) := by decide +kernel
theorem dX4_isSameAs_37 : decode cX4_isSameAs 37 = .ok (.ireturn, 1) := by decide +kernel
theorem dX4_isSameAs_38 : decode cX4_isSameAs 38 = .ok (.iinc 2 1, 3) := by decide +kernel
theorem dX4_isSameAs_41 : decode cX4_isSameAs 41 = .ok (.goto (-26), 3) := by decide +kernel
theorem dX4_isSameAs_44 : decode cX4_isSameAs 44 = .ok (.iconst 1, 1) := by decide +kernel
theorem dX4_isSameAs_45 : decode cX4_isSameAs 45 = .ok (.ireturn, 1) := by decide +kernel
set_option maxRecDepth 20000 in
theorem ggX4_chainedTo_X4_at : GoodIn wsX4_chainedTo wsX4_at := goodIn_r _ [6, 1, 7, 8, 9] (by decide +kernel) (by decide +kernel)
set_option maxRecDepth 20000 in
theorem gX4_chainedTo_X4_at : GoodIn wsX4_chainedTo (wsV RX4 25 RX4 yX4_at wsX4_at) := goodIn_app (goodIn_of _ (by decide +kernel)) ggX4_chainedTo_X4_at
theorem dX4_chainedTo_0 : decode cX4_chainedTo 0 = .ok (.iload_n 1, 1) := by decide +kernel
theorem dX4_chainedTo_1 : decode cX4_chainedTo 1 = .ok (.istore_n 2, 1) := by decide +kernel
theorem dX4_chainedTo_2 : decode cX4_chainedTo 2 = .ok (.iconst 0, 1) := by decide +kernel
theorem dX4_chainedTo_3 : decode cX4_chainedTo 3 = .ok (.istore_n 3, 1) := by decide +kernel
theorem dX4_chainedTo_4 : decode cX4_chainedTo 4 = .ok (.iload_n 3, 1) := by decide +kernel
theorem dX4_chainedTo_5 : decode cX4_chainedTo 5 = .ok (.aload_n 0, 1) := by decide +kernel
theorem dX4_chainedTo_6 : decode cX4_chainedTo 6 = .ok (.getfield 21, 3) := by decide +kernel
theorem dX4_chainedTo_9 : decode cX4_chainedTo 9 = .ok (.if_icmp .ge 20, 3) := by decide +kernel
theorem dX4_chainedTo_12 : decode cX4_chainedTo 12 = .ok (.bipush 31, 2) := by decide +kernel
theorem dX4_chainedTo_14 : decode cX4_chainedTo 14 = .ok (.iload_n 2, 1) := by decide +kernel
theorem dX4_chainedTo_15 : decode cX4_chainedTo 15 = .ok (.imul, 1) := by decide +kernel
theorem dX4_chainedTo_16 : decode cX4_chainedTo 16 = .ok (.aload_n 0, 1) := by decide +kernel
theorem dX4_chainedTo_17 : decode cX4_chainedTo 17 = .ok (.iload_n 3, 1) := by decide +kernel
theorem dX4_chainedTo_18 : decode cX4_chainedTo 18 = .ok (.invokevirtual 25, 3) := by decide +kernel
theorem dX4_chainedTo_21 : decode cX4_chainedTo 21 = .ok (.iadd, 1) := by decide +kernel
theorem dX4_chainedTo_22 : decode cX4_chainedTo 22 = .ok (.istore_n 2, 1) := by decide +kernel
theorem dX4_chainedTo_23 : decode cX4_chainedTo 23 = .ok (.iinc 3 1, 3) := by decide +kernel
theorem dX4_chainedTo_26 : decode cX4_chainedTo 26 = .ok (.goto (-22), 3) := by decide +kernel
theorem dX4_chainedTo_29 : decode cX4_chainedTo 29 = .ok (.iload_n 2, 1) := by decide +kernel
theorem dX4_chainedTo_30 : decode cX4_chainedTo 30 = .ok (.ireturn, 1) := by decide +kernel
set_option maxRecDepth 20000 in
theorem ggX5_writeForm_X4_empty : GoodIn wsX5_writeForm wsX4_empty := goodIn_r _ [5, 6, 57, 58] (by decide +kernel) (by decide +kernel)
set_option maxRecDepth 20000 in
theorem gX5_writeForm_X4_empty : GoodIn wsX5_writeForm (wsV RX5 9 RX4 yX4_empty wsX4_empty) := goodIn_app (goodIn_of _ (by decide +kernel)) ggX5_writeForm_X4_empty
set_option maxRecDepth 20000 in
theorem ggX5_writeForm_X4_size : GoodIn wsX5_writeForm wsX4_size := goodIn_r _ [10, 6, 57, 58] (by decide +kernel) (by decide +kernel)
set_option maxRecDepth 20000 in
theorem gX5_writeForm_X4_size : GoodIn wsX5_writeForm (wsV RX5 14 RX4 yX4_size wsX4_size) := goodIn_app (goodIn_of _ (by decide +kernel)) ggX5_writeForm_X4_size
set_option maxRecDepth 20000 in
theorem ggX5_writeForm_X4_at : GoodIn wsX5_writeForm wsX4_at := goodIn_r _ [14, 6, 15, 57, 58] (by decide +kernel) (by decide +kernel)
set_option maxRecDepth 20000 in
theorem gX5_writeForm_X4_at : GoodIn wsX5_writeForm (wsV RX5 18 RX4 yX4_at wsX4_at) := goodIn_app (goodIn_of _ (by decide +kernel)) ggX5_writeForm_X4_at
set_option maxRecDepth 20000 in
theorem ggX5_writeForm_X6_isAccount : GoodIn wsX5_writeForm wsX6_isAccount := goodIn_r _ [18] (by decide +kernel) (by decide +kernel)
set_option maxRecDepth 20000 in
theorem gX5_writeForm_X6_isAccount_n22 : GoodIn wsX5_writeForm (wsX6_isAccount) := ggX5_writeForm_X6_isAccount
set_option maxRecDepth 20000 in
theorem ggX5_writeForm_X5_addBlankBehindItem : GoodIn wsX5_writeForm wsX5_addBlankBehindItem := goodIn_r _ [22, 7, 8, 9, 4, 10, 6, 23, 24, 25, 26, 27, 12, 13, 14, 15, 28, 29, 30, 31, 57, 58] (by decide +kernel) (by decide +kernel)
set_option maxRecDepth 20000 in
theorem gX5_writeForm_X5_addBlankBehindItem : GoodIn wsX5_writeForm (va_wsS RX5 26 yX5_addBlankBehindItem wsX5_addBlankBehindItem) := goodIn_app (goodIn_of _ (by decide +kernel)) ggX5_writeForm_X5_addBlankBehindItem
set_option maxRecDepth 20000 in
theorem ggX5_writeForm_X5_addPosting : GoodIn wsX5_writeForm wsX5_addPosting := goodIn_r _ [34, 11, 12, 13, 4, 14, 6, 15, 28, 29, 30, 31, 7, 8, 9, 10, 35, 17, 36, 57, 58] (by decide +kernel) (by decide +kernel)
set_option maxRecDepth 20000 in
theorem gX5_writeForm_X5_addPosting : GoodIn wsX5_writeForm (va_wsS RX5 32 yX5_addPosting wsX5_addPosting) := goodIn_app (goodIn_of _ (by decide +kernel)) ggX5_writeForm_X5_addPosting
set_option maxRecDepth 20000 in
theorem ggX5_writeForm_X4_add : GoodIn wsX5_writeForm wsX4_add := goodIn_r _ [31, 6, 15, 57, 58] (by decide +kernel) (by decide +kernel)
set_option maxRecDepth 20000 in
theorem gX5_writeForm_X4_add : GoodIn wsX5_writeForm (wsV RX5 36 RX4 yX4_add wsX4_add) := goodIn_app (goodIn_of _ (by decide +kernel)) ggX5_writeForm_X4_add
set_option maxRecDepth 20000 in
theorem ggX5_writeForm_X5_timesBehind : GoodIn wsX5_writeForm wsX5_timesBehind := goodIn_r _ [39, 11, 12, 13, 4, 14, 6, 15, 57, 58] (by decide +kernel) (by decide +kernel)
set_option maxRecDepth 20000 in
theorem gX5_writeForm_X5_timesBehind : GoodIn wsX5_writeForm (va_wsS RX5 40 yX5_timesBehind wsX5_timesBehind) := goodIn_app (goodIn_of _ (by decide +kernel)) ggX5_writeForm_X5_timesBehind
set_option maxRecDepth 20000 in
theorem ggX5_writeForm_X5_closeGroup_c0 : GoodIn wsX5_writeForm ([.code yX5_closeGroup cX5_closeGroup 4 none]) := goodIn_r _ [42] (by decide +kernel) (by decide +kernel)
set_option maxRecDepth 20000 in
theorem ggX5_writeForm_X5_closeGroup_c1 : GoodIn wsX5_writeForm (wsX5_closeGroup_r1) := goodIn_r _ [43, 44, 21, 45, 7, 8, 9, 4, 10, 6, 11, 12, 13, 14, 15, 46, 47, 48, 49, 23, 24, 25, 26, 27] (by decide +kernel) (by decide +kernel)
set_option maxRecDepth 20000 in
theorem ggX5_writeForm_X5_closeGroup_c2 : GoodIn wsX5_writeForm (wsX5_closeGroup_r2) := goodIn_r _ [50, 51, 52, 53, 54, 55, 56, 28, 29, 30, 31] (by decide +kernel) (by decide +kernel)
set_option maxRecDepth 20000 in
theorem ggX5_writeForm_X5_closeGroup_c3 : GoodIn wsX5_writeForm (wsX40) := goodIn_r _ [57, 58] (by decide +kernel) (by decide +kernel)
set_option maxRecDepth 20000 in
theorem ggX5_writeForm_X5_closeGroup : GoodIn wsX5_writeForm wsX5_closeGroup := (goodIn_c1 ggX5_writeForm_X5_closeGroup_c0 (goodIn_app (goodIn_app ggX5_writeForm_X5_closeGroup_c1 ggX5_writeForm_X5_closeGroup_c2) ggX5_writeForm_X5_closeGroup_c3))
set_option maxRecDepth 20000 in
theorem gX5_writeForm_X5_closeGroup : GoodIn wsX5_writeForm (va_wsS RX5 44 yX5_closeGroup wsX5_closeGroup) := goodIn_app (goodIn_of _ (by decide +kernel)) ggX5_writeForm_X5_closeGroup
theorem dX5_writeForm_0 : decode cX5_writeForm 0 = .ok (.aload_n 1, 1) := by decide +kernel
theorem dX5_writeForm_1 : decode cX5_writeForm 1 = .ok (.invokevirtual 9, 3) := by decide +kernel
theorem dX5_writeForm_4 : decode cX5_writeForm 4 = .ok (.iconst 0, 1) := by decide +kernel
theorem dX5_writeForm_5 : decode cX5_writeForm 5 = .ok (.istore_n 2, 1) := by decide +kernel
theorem dX5_writeForm_6 : decode cX5_writeForm 6 = .ok (.iload_n 2, 1) := by decide +kernel
theorem dX5_writeForm_7 : decode cX5_writeForm 7 = .ok (.aload_n 0, 1) := by decide +kernel
theorem dX5_writeForm_8 : decode cX5_writeForm 8 = .ok (.invokevirtual 14, 3) := by decide +kernel
theorem dX5_writeForm_11 : decode cX5_writeForm 11 = .ok (.if_icmp .ge 68, 3) := by decide +kernel
theorem dX5_writeForm_14 : decode cX5_writeForm 14 = .ok (.aload_n 0, 1) := by decide +kernel
theorem dX5_writeForm_15 : decode cX5_writeForm 15 = .ok (.iload_n 2, 1) := by decide +kernel
theorem dX5_writeForm_16 : decode cX5_writeForm 16 = .ok (.invokevirtual 18, 3) := by decide +kernel
theorem dX5_writeForm_19 : decode cX5_writeForm 19 = .ok (.istore_n 3, 1) := by decide +kernel
theorem dX5_writeForm_20 : decode cX5_writeForm 20 = .ok (.iload_n 3, 1) := by decide +kernel
theorem dX5_writeForm_21 : decode cX5_writeForm 21 = .ok (.invokestatic 22, 3) := by decide +kernel
theorem dX5_writeForm_24 : decode cX5_writeForm 24 = .ok (.ifCond .eq 16, 3) := by decide +kernel
theorem dX5_writeForm_27 : decode cX5_writeForm 27 = .ok (.aload_n 1, 1) := by decide +kernel
theorem dX5_writeForm_28 : decode cX5_writeForm 28 = .ok (.invokestatic 26, 3) := by decide +kernel
theorem dX5_writeForm_31 : decode cX5_writeForm 31 = .ok (.aload_n 0, 1) := by decide +kernel
theorem dX5_writeForm_32 : decode cX5_writeForm 32 = .ok (.iload_n 2, 1) := by decide +kernel
theorem dX5_writeForm_33 : decode cX5_writeForm 33 = .ok (.aload_n 1, 1) := by decide +kernel
theorem dX5_writeForm_34 : decode cX5_writeForm 34 = .ok (.invokestatic 32, 3) := by decide +kernel
theorem dX5_writeForm_37 : decode cX5_writeForm 37 = .ok (.goto 36, 3) := by decide +kernel
theorem dX5_writeForm_40 : decode cX5_writeForm 40 = .ok (.iload_n 3, 1) := by decide +kernel
theorem dX5_writeForm_41 : decode cX5_writeForm 41 = .ok (.bipush 40, 2) := by decide +kernel
theorem dX5_writeForm_43 : decode cX5_writeForm 43 = .ok (.if_icmp .ne 15, 3) := by decide +kernel
theorem dX5_writeForm_46 : decode cX5_writeForm 46 = .ok (.aload_n 1, 1) := by decide +kernel
theorem dX5_writeForm_47 : decode cX5_writeForm 47 = .ok (.invokestatic 26, 3) := by decide +kernel
theorem dX5_writeForm_50 : decode cX5_writeForm 50 = .ok (.aload_n 1, 1) := by decide +kernel
theorem dX5_writeForm_51 : decode cX5_writeForm 51 = .ok (.iload_n 3, 1) := by decide +kernel
theorem dX5_writeForm_52 : decode cX5_writeForm 52 = .ok (.invokevirtual 36, 3) := by decide +kernel
theorem dX5_writeForm_55 : decode cX5_writeForm 55 = .ok (.goto 18, 3) := by decide +kernel
theorem dX5_writeForm_58 : decode cX5_writeForm 58 = .ok (.iload_n 3, 1) := by decide +kernel
theorem dX5_writeForm_59 : decode cX5_writeForm 59 = .ok (.bipush 41, 2) := by decide +kernel
theorem dX5_writeForm_61 : decode cX5_writeForm 61 = .ok (.if_icmp .ne 12, 3) := by decide +kernel
theorem dX5_writeForm_64 : decode cX5_writeForm 64 = .ok (.aload_n 1, 1) := by decide +kernel
theorem dX5_writeForm_65 : decode cX5_writeForm 65 = .ok (.aload_n 0, 1) := by decide +kernel
theorem dX5_writeForm_66 : decode cX5_writeForm 66 = .ok (.iload_n 2, 1) := by decide +kernel
theorem dX5_writeForm_67 : decode cX5_writeForm 67 = .ok (.invokestatic 40, 3) := by decide +kernel
theorem dX5_writeForm_70 : decode cX5_writeForm 70 = .ok (.invokestatic 44, 3) := by decide +kernel
theorem dX5_writeForm_73 : decode cX5_writeForm 73 = .ok (.iinc 2 1, 3) := by decide +kernel
theorem dX5_writeForm_76 : decode cX5_writeForm 76 = .ok (.goto (-70), 3) := by decide +kernel
theorem dX5_writeForm_79 : decode cX5_writeForm 79 = .ok (.return_, 1) := by decide +kernel
set_option maxRecDepth 20000 in
theorem ggX5_addBlankBehindItem_X4_size : GoodIn wsX5_addBlankBehindItem wsX4_size := goodIn_r _ [5, 6, 20, 21] (by decide +kernel) (by decide +kernel)
set_option maxRecDepth 20000 in
theorem gX5_addBlankBehindItem_X4_size : GoodIn wsX5_addBlankBehindItem (wsV RX5 14 RX4 yX4_size wsX4_size) := goodIn_app (goodIn_of _ (by decide +kernel)) ggX5_addBlankBehindItem_X4_size
set_option maxRecDepth 20000 in
theorem ggX5_addBlankBehindItem_X4_last : GoodIn wsX5_addBlankBehindItem wsX4_last := goodIn_r _ [10, 6, 11, 12, 13, 4, 14, 15, 20, 21] (by decide +kernel) (by decide +kernel)
set_option maxRecDepth 20000 in
theorem gX5_addBlankBehindItem_X4_last : GoodIn wsX5_addBlankBehindItem (wsV RX5 48 RX4 yX4_last wsX4_last) := goodIn_app (goodIn_of _ (by decide +kernel)) ggX5_addBlankBehindItem_X4_last
set_option maxRecDepth 20000 in
theorem ggX5_addBlankBehindItem_X4_add : GoodIn wsX5_addBlankBehindItem wsX4_add := goodIn_r _ [19, 6, 15, 20, 21] (by decide +kernel) (by decide +kernel)
set_option maxRecDepth 20000 in
theorem gX5_addBlankBehindItem_X4_add : GoodIn wsX5_addBlankBehindItem (wsV RX5 36 RX4 yX4_add wsX4_add) := goodIn_app (goodIn_of _ (by decide +kernel)) ggX5_addBlankBehindItem_X4_add
theorem dX5_addBlankBehindItem_0 : decode cX5_addBlankBehindItem 0 = .ok (.aload_n 0, 1) := by decide +kernel
theorem dX5_addBlankBehindItem_1 : decode cX5_addBlankBehindItem 1 = .ok (.invokevirtual 14, 3) := by decide +kernel
theorem dX5_addBlankBehindItem_4 : decode cX5_addBlankBehindItem 4 = .ok (.ifCond .le 18, 3) := by decide +kernel
theorem dX5_addBlankBehindItem_7 : decode cX5_addBlankBehindItem 7 = .ok (.aload_n 0, 1) := by decide +kernel
theorem dX5_addBlankBehindItem_8 : decode cX5_addBlankBehindItem 8 = .ok (.invokevirtual 48, 3) := by decide +kernel
theorem dX5_addBlankBehindItem_11 : decode cX5_addBlankBehindItem 11 = .ok (.bipush 40, 2) := by decide +kernel
theorem dX5_addBlankBehindItem_13 : decode cX5_addBlankBehindItem 13 = .ok (.if_icmp .eq 9, 3) := by decide +kernel
theorem dX5_addBlankBehindItem_16 : decode cX5_addBlankBehindItem 16 = .ok (.aload_n 0, 1) := by decide +kernel
theorem dX5_addBlankBehindItem_17 : decode cX5_addBlankBehindItem 17 = .ok (.bipush 32, 2) := by decide +kernel
theorem dX5_addBlankBehindItem_19 : decode cX5_addBlankBehindItem 19 = .ok (.invokevirtual 36, 3) := by decide +kernel
theorem dX5_addBlankBehindItem_22 : decode cX5_addBlankBehindItem 22 = .ok (.return_, 1) := by decide +kernel
set_option maxRecDepth 20000 in
theorem ggX5_addPosting_X4_at : GoodIn wsX5_addPosting wsX4_at := goodIn_r _ [5, 6, 7, 19, 20] (by decide +kernel) (by decide +kernel)
set_option maxRecDepth 20000 in
theorem gX5_addPosting_X4_at : GoodIn wsX5_addPosting (wsV RX5 18 RX4 yX4_at wsX4_at) := goodIn_app (goodIn_of _ (by decide +kernel)) ggX5_addPosting_X4_at
set_option maxRecDepth 20000 in
theorem ggX5_addPosting_X4_add : GoodIn wsX5_addPosting wsX4_add := goodIn_r _ [11, 6, 7, 19, 20] (by decide +kernel) (by decide +kernel)
set_option maxRecDepth 20000 in
theorem gX5_addPosting_X4_add : GoodIn wsX5_addPosting (wsV RX5 36 RX4 yX4_add wsX4_add) := goodIn_app (goodIn_of _ (by decide +kernel)) ggX5_addPosting_X4_add
set_option maxRecDepth 20000 in
theorem ggX5_addPosting_X4_size : GoodIn wsX5_addPosting wsX4_size := goodIn_r _ [15, 6, 19, 20] (by decide +kernel) (by decide +kernel)
set_option maxRecDepth 20000 in
theorem gX5_addPosting_X4_size : GoodIn wsX5_addPosting (wsV RX5 14 RX4 yX4_size wsX4_size) := goodIn_app (goodIn_of _ (by decide +kernel)) ggX5_addPosting_X4_size
set_option maxRecDepth 20000 in
theorem ggX5_addPosting_X6_isDigit : GoodIn wsX5_addPosting wsX6_isDigit := goodIn_r _ [18] (by decide +kernel) (by decide +kernel)
set_option maxRecDepth 20000 in
theorem gX5_addPosting_X6_isDigit_n51 : GoodIn wsX5_addPosting (wsX6_isDigit) := ggX5_addPosting_X6_isDigit
theorem dX5_addPosting_0 : decode cX5_addPosting 0 = .ok (.aload_n 2, 1) := by decide +kernel
theorem dX5_addPosting_1 : decode cX5_addPosting 1 = .ok (.aload_n 0, 1) := by decide +kernel
theorem dX5_addPosting_2 : decode cX5_addPosting 2 = .ok (.iload_n 1, 1) := by decide +kernel
theorem dX5_addPosting_3 : decode cX5_addPosting 3 = .ok (.invokevirtual 18, 3) := by decide +kernel
theorem dX5_addPosting_6 : decode cX5_addPosting 6 = .ok (.invokevirtual 36, 3) := by decide +kernel
theorem dX5_addPosting_9 : decode cX5_addPosting 9 = .ok (.aload_n 2, 1) := by decide +kernel
theorem dX5_addPosting_10 : decode cX5_addPosting 10 = .ok (.aload_n 0, 1) := by decide +kernel
theorem dX5_addPosting_11 : decode cX5_addPosting 11 = .ok (.iload_n 1, 1) := by decide +kernel
theorem dX5_addPosting_12 : decode cX5_addPosting 12 = .ok (.iconst 1, 1) := by decide +kernel
theorem dX5_addPosting_13 : decode cX5_addPosting 13 = .ok (.iadd, 1) := by decide +kernel
theorem dX5_addPosting_14 : decode cX5_addPosting 14 = .ok (.invokevirtual 18, 3) := by decide +kernel
theorem dX5_addPosting_17 : decode cX5_addPosting 17 = .ok (.invokevirtual 36, 3) := by decide +kernel
theorem dX5_addPosting_20 : decode cX5_addPosting 20 = .ok (.iconst 0, 1) := by decide +kernel
theorem dX5_addPosting_21 : decode cX5_addPosting 21 = .ok (.istore_n 3, 1) := by decide +kernel
theorem dX5_addPosting_22 : decode cX5_addPosting 22 = .ok (.iload_n 1, 1) := by decide +kernel
theorem dX5_addPosting_23 : decode cX5_addPosting 23 = .ok (.iconst 2, 1) := by decide +kernel
theorem dX5_addPosting_24 : decode cX5_addPosting 24 = .ok (.iadd, 1) := by decide +kernel
theorem dX5_addPosting_25 : decode cX5_addPosting 25 = .ok (.istore 4, 2) := by decide +kernel
theorem dX5_addPosting_27 : decode cX5_addPosting 27 = .ok (.iload 4, 2) := by decide +kernel
theorem dX5_addPosting_29 : decode cX5_addPosting 29 = .ok (.aload_n 0, 1) := by decide +kernel
theorem dX5_addPosting_30 : decode cX5_addPosting 30 = .ok (.invokevirtual 14, 3) := by decide +kernel
theorem dX5_addPosting_33 : decode cX5_addPosting 33 = .ok (.if_icmp .ge 74, 3) := by decide +kernel
theorem dX5_addPosting_36 : decode cX5_addPosting 36 = .ok (.aload_n 0, 1) := by decide +kernel
theorem dX5_addPosting_37 : decode cX5_addPosting 37 = .ok (.iload 4, 2) := by decide +kernel
theorem dX5_addPosting_39 : decode cX5_addPosting 39 = .ok (.invokevirtual 18, 3) := by decide +kernel
theorem dX5_addPosting_42 : decode cX5_addPosting 42 = .ok (.invokestatic 51, 3) := by decide +kernel
theorem dX5_addPosting_45 : decode cX5_addPosting 45 = .ok (.ifCond .eq 62, 3) := by decide +kernel
theorem dX5_addPosting_48 : decode cX5_addPosting 48 = .ok (.aload_n 0, 1) := by decide +kernel
theorem dX5_addPosting_49 : decode cX5_addPosting 49 = .ok (.iload 4, 2) := by decide +kernel
theorem dX5_addPosting_51 : decode cX5_addPosting 51 = .ok (.iconst 1, 1) := by decide +kernel
theorem dX5_addPosting_52 : decode cX5_addPosting 52 = .ok (.iadd, 1) := by decide +kernel
theorem dX5_addPosting_53 : decode cX5_addPosting 53 = .ok (.invokevirtual 18, 3) := by decide +kernel
theorem dX5_addPosting_56 : decode cX5_addPosting 56 = .ok (.invokestatic 51, 3) := by decide +kernel
theorem dX5_addPosting_59 : decode cX5_addPosting 59 = .ok (.ifCond .ne 7, 3) := by decide +kernel
theorem dX5_addPosting_62 : decode cX5_addPosting 62 = .ok (.iconst 1, 1) := by decide +kernel
theorem dX5_addPosting_63 : decode cX5_addPosting 63 = .ok (.goto 4, 3) := by decide +kernel
theorem dX5_addPosting_66 : decode cX5_addPosting 66 = .ok (.iconst 0, 1) := by decide +kernel
theorem dX5_addPosting_67 : decode cX5_addPosting 67 = .ok (.istore 5, 2) := by decide +kernel
theorem dX5_addPosting_69 : decode cX5_addPosting 69 = .ok (.aload_n 0, 1) := by decide +kernel
theorem dX5_addPosting_70 : decode cX5_addPosting 70 = .ok (.iload 4, 2) := by decide +kernel
theorem dX5_addPosting_72 : decode cX5_addPosting 72 = .ok (.invokevirtual 18, 3) := by decide +kernel
theorem dX5_addPosting_75 : decode cX5_addPosting 75 = .ok (.bipush 48, 2) := by decide +kernel
theorem dX5_addPosting_77 : decode cX5_addPosting 77 = .ok (.if_icmp .ne 12, 3) := by decide +kernel
theorem dX5_addPosting_80 : decode cX5_addPosting 80 = .ok (.iload_n 3, 1) := by decide +kernel
theorem dX5_addPosting_81 : decode cX5_addPosting 81 = .ok (.ifCond .ne 8, 3) := by decide +kernel
theorem dX5_addPosting_84 : decode cX5_addPosting 84 = .ok (.iload 5, 2) := by decide +kernel
theorem dX5_addPosting_86 : decode cX5_addPosting 86 = .ok (.ifCond .eq 15, 3) := by decide +kernel
theorem dX5_addPosting_89 : decode cX5_addPosting 89 = .ok (.aload_n 2, 1) := by decide +kernel
theorem dX5_addPosting_90 : decode cX5_addPosting 90 = .ok (.aload_n 0, 1) := by decide +kernel
theorem dX5_addPosting_91 : decode cX5_addPosting 91 = .ok (.iload 4, 2) := by decide +kernel
theorem dX5_addPosting_93 : decode cX5_addPosting 93 = .ok (.invokevirtual 18, 3) := by decide +kernel
theorem dX5_addPosting_96 : decode cX5_addPosting 96 = .ok (.invokevirtual 36, 3) := by decide +kernel
theorem dX5_addPosting_99 : decode cX5_addPosting 99 = .ok (.iconst 1, 1) := by decide +kernel
theorem dX5_addPosting_100 : decode cX5_addPosting 100 = .ok (.istore_n 3, 1) := by decide +kernel
theorem dX5_addPosting_101 : decode cX5_addPosting 101 = .ok (.iinc 4 1, 3) := by decide +kernel
theorem dX5_addPosting_104 : decode cX5_addPosting 104 = .ok (.goto (-77), 3) := by decide +kernel
theorem dX5_addPosting_107 : decode cX5_addPosting 107 = .ok (.return_, 1) := by decide +kernel
set_option maxRecDepth 20000 in
theorem ggX5_timesBehind_X4_at : GoodIn wsX5_timesBehind wsX4_at := goodIn_r _ [5, 6, 7, 8, 9] (by decide +kernel) (by decide +kernel)
set_option maxRecDepth 20000 in
theorem gX5_timesBehind_X4_at : GoodIn wsX5_timesBehind (wsV RX5 18 RX4 yX4_at wsX4_at) := goodIn_app (goodIn_of _ (by decide +kernel)) ggX5_timesBehind_X4_at
theorem dX5_timesBehind_0 : decode cX5_timesBehind 0 = .ok (.aload_n 0, 1) := by decide +kernel
theorem dX5_timesBehind_1 : decode cX5_timesBehind 1 = .ok (.iload_n 1, 1) := by decide +kernel
theorem dX5_timesBehind_2 : decode cX5_timesBehind 2 = .ok (.iconst 1, 1) := by decide +kernel
theorem dX5_timesBehind_3 : decode cX5_timesBehind 3 = .ok (.iadd, 1) := by decide +kernel
theorem dX5_timesBehind_4 : decode cX5_timesBehind 4 = .ok (.invokevirtual 18, 3) := by decide +kernel
theorem dX5_timesBehind_7 : decode cX5_timesBehind 7 = .ok (.bipush 120, 2) := by decide +kernel
theorem dX5_timesBehind_9 : decode cX5_timesBehind 9 = .ok (.if_icmp .ne 16, 3) := by decide +kernel
theorem dX5_timesBehind_12 : decode cX5_timesBehind 12 = .ok (.aload_n 0, 1) := by decide +kernel
theorem dX5_timesBehind_13 : decode cX5_timesBehind 13 = .ok (.iload_n 1, 1) := by decide +kernel
theorem dX5_timesBehind_14 : decode cX5_timesBehind 14 = .ok (.iconst 2, 1) := by decide +kernel
theorem dX5_timesBehind_15 : decode cX5_timesBehind 15 = .ok (.iadd, 1) := by decide +kernel
theorem dX5_timesBehind_16 : decode cX5_timesBehind 16 = .ok (.invokevirtual 18, 3) := by decide +kernel
theorem dX5_timesBehind_19 : decode cX5_timesBehind 19 = .ok (.bipush 48, 2) := by decide +kernel
theorem dX5_timesBehind_21 : decode cX5_timesBehind 21 = .ok (.isub, 1) := by decide +kernel
theorem dX5_timesBehind_22 : decode cX5_timesBehind 22 = .ok (.goto 4, 3) := by decide +kernel
theorem dX5_timesBehind_25 : decode cX5_timesBehind 25 = .ok (.iconst 1, 1) := by decide +kernel
theorem dX5_timesBehind_26 : decode cX5_timesBehind 26 = .ok (.ireturn, 1) := by decide +kernel
set_option maxRecDepth 20000 in
theorem ggX5_closeGroup_X5_lastOpen : GoodIn wsX5_closeGroup wsX5_lastOpen := goodIn_r _ [4, 5, 6, 7, 8, 9, 10, 11, 12, 13, 14, 15, 36, 37] (by decide +kernel) (by decide +kernel)
set_option maxRecDepth 20000 in
theorem gX5_closeGroup_X5_lastOpen : GoodIn wsX5_closeGroup (va_wsS RX5 54 yX5_lastOpen wsX5_lastOpen) := goodIn_app (goodIn_of _ (by decide +kernel)) ggX5_closeGroup_X5_lastOpen
set_option maxRecDepth 20000 in
theorem ggX5_closeGroup_X4_remove : GoodIn wsX5_closeGroup wsX4_remove := goodIn_r _ [19, 10, 15, 36, 37] (by decide +kernel) (by decide +kernel)
set_option maxRecDepth 20000 in
theorem gX5_closeGroup_X4_remove : GoodIn wsX5_closeGroup (wsV RX5 58 RX4 yX4_remove wsX4_remove) := goodIn_app (goodIn_of _ (by decide +kernel)) ggX5_closeGroup_X4_remove
set_option maxRecDepth 20000 in
theorem ggX5_closeGroup_X4_last : GoodIn wsX5_closeGroup wsX4_last := goodIn_r _ [23, 10, 24, 12, 13, 8, 14, 15, 36, 37] (by decide +kernel) (by decide +kernel)
set_option maxRecDepth 20000 in
theorem gX5_closeGroup_X4_last : GoodIn wsX5_closeGroup (wsV RX5 48 RX4 yX4_last wsX4_last) := goodIn_app (goodIn_of _ (by decide +kernel)) ggX5_closeGroup_X4_last
set_option maxRecDepth 20000 in
theorem ggX5_closeGroup_X5_isOneGroupFrom : GoodIn wsX5_closeGroup wsX5_isOneGroupFrom := goodIn_r _ [27, 11, 12, 13, 8, 14, 10, 15, 5, 6, 7, 9, 36, 37] (by decide +kernel) (by decide +kernel)
set_option maxRecDepth 20000 in
theorem gX5_closeGroup_X5_isOneGroupFrom : GoodIn wsX5_closeGroup (va_wsS RX5 61 yX5_isOneGroupFrom wsX5_isOneGroupFrom) := goodIn_app (goodIn_of _ (by decide +kernel)) ggX5_closeGroup_X5_isOneGroupFrom
set_option maxRecDepth 20000 in
theorem ggX5_closeGroup_X4_replaceLast : GoodIn wsX5_closeGroup wsX4_replaceLast := goodIn_r _ [31, 10, 15, 36, 37] (by decide +kernel) (by decide +kernel)
set_option maxRecDepth 20000 in
theorem gX5_closeGroup_X4_replaceLast : GoodIn wsX5_closeGroup (wsV RX5 65 RX4 yX4_replaceLast wsX4_replaceLast) := goodIn_app (goodIn_of _ (by decide +kernel)) ggX5_closeGroup_X4_replaceLast
set_option maxRecDepth 20000 in
theorem ggX5_closeGroup_X4_add : GoodIn wsX5_closeGroup wsX4_add := goodIn_r _ [35, 10, 15, 36, 37] (by decide +kernel) (by decide +kernel)
set_option maxRecDepth 20000 in
theorem gX5_closeGroup_X4_add : GoodIn wsX5_closeGroup (wsV RX5 36 RX4 yX4_add wsX4_add) := goodIn_app (goodIn_of _ (by decide +kernel)) ggX5_closeGroup_X4_add
theorem dX5_closeGroup_0 : decode cX5_closeGroup 0 = .ok (.aload_n 0, 1) := by decide +kernel
theorem dX5_closeGroup_1 : decode cX5_closeGroup 1 = .ok (.invokestatic 54, 3) := by decide +kernel
theorem dX5_closeGroup_4 : decode cX5_closeGroup 4 = .ok (.istore_n 2, 1) := by decide +kernel
theorem dX5_closeGroup_5 : decode cX5_closeGroup 5 = .ok (.iload_n 1, 1) := by decide +kernel
theorem dX5_closeGroup_6 : decode cX5_closeGroup 6 = .ok (.iconst 1, 1) := by decide +kernel
theorem dX5_closeGroup_7 : decode cX5_closeGroup 7 = .ok (.if_icmp .ne 9, 3) := by decide +kernel
theorem dX5_closeGroup_10 : decode cX5_closeGroup 10 = .ok (.aload_n 0, 1) := by decide +kernel
theorem dX5_closeGroup_11 : decode cX5_closeGroup 11 = .ok (.iload_n 2, 1) := by decide +kernel
theorem dX5_closeGroup_12 : decode cX5_closeGroup 12 = .ok (.invokevirtual 58, 3) := by decide +kernel
theorem dX5_closeGroup_15 : decode cX5_closeGroup 15 = .ok (.return_, 1) := by decide +kernel
theorem dX5_closeGroup_16 : decode cX5_closeGroup 16 = .ok (.iload_n 1, 1) := by decide +kernel
theorem dX5_closeGroup_17 : decode cX5_closeGroup 17 = .ok (.aload_n 0, 1) := by decide +kernel
theorem dX5_closeGroup_18 : decode cX5_closeGroup 18 = .ok (.invokevirtual 48, 3) := by decide +kernel
theorem dX5_closeGroup_21 : decode cX5_closeGroup 21 = .ok (.bipush 48, 2) := by decide +kernel
theorem dX5_closeGroup_23 : decode cX5_closeGroup 23 = .ok (.isub, 1) := by decide +kernel
theorem dX5_closeGroup_24 : decode cX5_closeGroup 24 = .ok (.imul, 1) := by decide +kernel
theorem dX5_closeGroup_25 : decode cX5_closeGroup 25 = .ok (.istore_n 3, 1) := by decide +kernel
theorem dX5_closeGroup_26 : decode cX5_closeGroup 26 = .ok (.aload_n 0, 1) := by decide +kernel
theorem dX5_closeGroup_27 : decode cX5_closeGroup 27 = .ok (.iload_n 2, 1) := by decide +kernel
theorem dX5_closeGroup_28 : decode cX5_closeGroup 28 = .ok (.iconst 1, 1) := by decide +kernel
theorem dX5_closeGroup_29 : decode cX5_closeGroup 29 = .ok (.iadd, 1) := by decide +kernel
theorem dX5_closeGroup_30 : decode cX5_closeGroup 30 = .ok (.invokestatic 61, 3) := by decide +kernel
theorem dX5_closeGroup_33 : decode cX5_closeGroup 33 = .ok (.ifCond .eq 23, 3) := by decide +kernel
theorem dX5_closeGroup_36 : decode cX5_closeGroup 36 = .ok (.iload_n 3, 1) := by decide +kernel
theorem dX5_closeGroup_37 : decode cX5_closeGroup 37 = .ok (.bipush 9, 2) := by decide +kernel
theorem dX5_closeGroup_39 : decode cX5_closeGroup 39 = .ok (.if_icmp .gt 17, 3) := by decide +kernel
theorem dX5_closeGroup_42 : decode cX5_closeGroup 42 = .ok (.aload_n 0, 1) := by decide +kernel
theorem dX5_closeGroup_43 : decode cX5_closeGroup 43 = .ok (.iload_n 2, 1) := by decide +kernel
theorem dX5_closeGroup_44 : decode cX5_closeGroup 44 = .ok (.invokevirtual 58, 3) := by decide +kernel
theorem dX5_closeGroup_47 : decode cX5_closeGroup 47 = .ok (.aload_n 0, 1) := by decide +kernel
theorem dX5_closeGroup_48 : decode cX5_closeGroup 48 = .ok (.bipush 48, 2) := by decide +kernel
theorem dX5_closeGroup_50 : decode cX5_closeGroup 50 = .ok (.iload_n 3, 1) := by decide +kernel
theorem dX5_closeGroup_51 : decode cX5_closeGroup 51 = .ok (.iadd, 1) := by decide +kernel
theorem dX5_closeGroup_52 : decode cX5_closeGroup 52 = .ok (.invokevirtual 65, 3) := by decide +kernel
theorem dX5_closeGroup_55 : decode cX5_closeGroup 55 = .ok (.return_, 1) := by decide +kernel
theorem dX5_closeGroup_56 : decode cX5_closeGroup 56 = .ok (.aload_n 0, 1) := by decide +kernel
theorem dX5_closeGroup_57 : decode cX5_closeGroup 57 = .ok (.bipush 41, 2) := by decide +kernel
theorem dX5_closeGroup_59 : decode cX5_closeGroup 59 = .ok (.invokevirtual 36, 3) := by decide +kernel
theorem dX5_closeGroup_62 : decode cX5_closeGroup 62 = .ok (.aload_n 0, 1) := by decide +kernel
theorem dX5_closeGroup_63 : decode cX5_closeGroup 63 = .ok (.bipush 120, 2) := by decide +kernel
theorem dX5_closeGroup_65 : decode cX5_closeGroup 65 = .ok (.invokevirtual 36, 3) := by decide +kernel
theorem dX5_closeGroup_68 : decode cX5_closeGroup 68 = .ok (.aload_n 0, 1) := by decide +kernel
theorem dX5_closeGroup_69 : decode cX5_closeGroup 69 = .ok (.bipush 48, 2) := by decide +kernel
theorem dX5_closeGroup_71 : decode cX5_closeGroup 71 = .ok (.iload_n 1, 1) := by decide +kernel
theorem dX5_closeGroup_72 : decode cX5_closeGroup 72 = .ok (.iadd, 1) := by decide +kernel
theorem dX5_closeGroup_73 : decode cX5_closeGroup 73 = .ok (.invokevirtual 36, 3) := by decide +kernel
theorem dX5_closeGroup_76 : decode cX5_closeGroup 76 = .ok (.return_, 1) := by decide +kernel
set_option maxRecDepth 20000 in
theorem ggX5_lastOpen_X4_size : GoodIn wsX5_lastOpen wsX4_size := goodIn_r _ [5, 6, 12, 13] (by decide +kernel) (by decide +kernel)
set_option maxRecDepth 20000 in
theorem gX5_lastOpen_X4_size : GoodIn wsX5_lastOpen (wsV RX5 14 RX4 yX4_size wsX4_size) := goodIn_app (goodIn_of _ (by decide +kernel)) ggX5_lastOpen_X4_size
set_option maxRecDepth 20000 in
theorem ggX5_lastOpen_X4_at : GoodIn wsX5_lastOpen wsX4_at := goodIn_r _ [10, 6, 11, 12, 13] (by decide +kernel) (by decide +kernel)
set_option maxRecDepth 20000 in
theorem gX5_lastOpen_X4_at : GoodIn wsX5_lastOpen (wsV RX5 18 RX4 yX4_at wsX4_at) := goodIn_app (goodIn_of _ (by decide +kernel)) ggX5_lastOpen_X4_at
theorem dX5_lastOpen_0 : decode cX5_lastOpen 0 = .ok (.iconst 0, 1) := by decide +kernel
theorem dX5_lastOpen_1 : decode cX5_lastOpen 1 = .ok (.istore_n 1, 1) := by decide +kernel
theorem dX5_lastOpen_2 : decode cX5_lastOpen 2 = .ok (.aload_n 0, 1) := by decide +kernel
theorem dX5_lastOpen_3 : decode cX5_lastOpen 3 = .ok (.invokevirtual 14, 3) := by decide +kernel
theorem dX5_lastOpen_6 : decode cX5_lastOpen 6 = .ok (.iconst 1, 1) := by decide +kernel
theorem dX5_lastOpen_7 : decode cX5_lastOpen 7 = .ok (.isub, 1) := by decide +kernel
theorem dX5_lastOpen_8 : decode cX5_lastOpen 8 = .ok (.istore_n 2, 1) := by decide +kernel
theorem dX5_lastOpen_9 : decode cX5_lastOpen 9 = .ok (.iload_n 2, 1) := by decide +kernel
theorem dX5_lastOpen_10 : decode cX5_lastOpen 10 = .ok (.ifCond .lt 54, 3) := by decide +kernel
theorem dX5_lastOpen_13 : decode cX5_lastOpen 13 = .ok (.aload_n 0, 1) := by decide +kernel
theorem dX5_lastOpen_14 : decode cX5_lastOpen 14 = .ok (.iload_n 2, 1) := by decide +kernel
theorem dX5_lastOpen_15 : decode cX5_lastOpen 15 = .ok (.invokevirtual 18, 3) := by decide +kernel
theorem dX5_lastOpen_18 : decode cX5_lastOpen 18 = .ok (.bipush 41, 2) := by decide +kernel
theorem dX5_lastOpen_20 : decode cX5_lastOpen 20 = .ok (.if_icmp .ne 9, 3) := by decide +kernel
theorem dX5_lastOpen_23 : decode cX5_lastOpen 23 = .ok (.iinc 1 1, 3) := by decide +kernel
theorem dX5_lastOpen_26 : decode cX5_lastOpen 26 = .ok (.goto 32, 3) := by decide +kernel
theorem dX5_lastOpen_29 : decode cX5_lastOpen 29 = .ok (.aload_n 0, 1) := by decide +kernel
theorem dX5_lastOpen_30 : decode cX5_lastOpen 30 = .ok (.iload_n 2, 1) := by decide +kernel
theorem dX5_lastOpen_31 : decode cX5_lastOpen 31 = .ok (.invokevirtual 18, 3) := by decide +kernel
theorem dX5_lastOpen_34 : decode cX5_lastOpen 34 = .ok (.bipush 40, 2) := by decide +kernel
theorem dX5_lastOpen_36 : decode cX5_lastOpen 36 = .ok (.if_icmp .ne 9, 3) := by decide +kernel
theorem dX5_lastOpen_39 : decode cX5_lastOpen 39 = .ok (.iload_n 1, 1) := by decide +kernel
theorem dX5_lastOpen_40 : decode cX5_lastOpen 40 = .ok (.ifCond .ne 5, 3) := by decide +kernel
theorem dX5_lastOpen_43 : decode cX5_lastOpen 43 = .ok (.iload_n 2, 1) := by decide +kernel
theorem dX5_lastOpen_44 : decode cX5_lastOpen 44 = .ok (.ireturn, 1) := by decide +kernel
theorem dX5_lastOpen_45 : decode cX5_lastOpen 45 = .ok (.aload_n 0, 1) := by decide +kernel
theorem dX5_lastOpen_46 : decode cX5_lastOpen 46 = .ok (.iload_n 2, 1) := by decide +kernel
theorem dX5_lastOpen_47 : decode cX5_lastOpen 47 = .ok (.invokevirtual 18, 3) := by decide +kernel
theorem dX5_lastOpen_50 : decode cX5_lastOpen 50 = .ok (.bipush 40, 2) := by decide +kernel
theorem dX5_lastOpen_52 : decode cX5_lastOpen 52 = .ok (.if_icmp .ne 6, 3) := by decide +kernel
theorem dX5_lastOpen_55 : decode cX5_lastOpen 55 = .ok (.iinc 1 (-1), 3) := by decide +kernel
theorem dX5_lastOpen_58 : decode cX5_lastOpen 58 = .ok (.iinc 2 (-1), 3) := by decide +kernel
theorem dX5_lastOpen_61 : decode cX5_lastOpen 61 = .ok (.goto (-52), 3) := by decide +kernel
theorem dX5_lastOpen_64 : decode cX5_lastOpen 64 = .ok (.iconst (-1), 1) := by decide +kernel
theorem dX5_lastOpen_65 : decode cX5_lastOpen 65 = .ok (.ireturn, 1) := by decide +kernel
set_option maxRecDepth 20000 in
theorem ggX5_isOneGroupFrom_X4_at : GoodIn wsX5_isOneGroupFrom wsX4_at := goodIn_r _ [5, 6, 7, 12, 13] (by decide +kernel) (by decide +kernel)
set_option maxRecDepth 20000 in
theorem gX5_isOneGroupFrom_X4_at : GoodIn wsX5_isOneGroupFrom (wsV RX5 18 RX4 yX4_at wsX4_at) := goodIn_app (goodIn_of _ (by decide +kernel)) ggX5_isOneGroupFrom_X4_at
set_option maxRecDepth 20000 in
theorem ggX5_isOneGroupFrom_X4_size : GoodIn wsX5_isOneGroupFrom wsX4_size := goodIn_r _ [11, 6, 12, 13] (by decide +kernel) (by decide +kernel)
set_option maxRecDepth 20000 in
theorem gX5_isOneGroupFrom_X4_size : GoodIn wsX5_isOneGroupFrom (wsV RX5 14 RX4 yX4_size wsX4_size) := goodIn_app (goodIn_of _ (by decide +kernel)) ggX5_isOneGroupFrom_X4_size
theorem dX5_isOneGroupFrom_0 : decode cX5_isOneGroupFrom 0 = .ok (.aload_n 0, 1) := by decide +kernel
theorem dX5_isOneGroupFrom_1 : decode cX5_isOneGroupFrom 1 = .ok (.iload_n 1, 1) := by decide +kernel
theorem dX5_isOneGroupFrom_2 : decode cX5_isOneGroupFrom 2 = .ok (.invokevirtual 18, 3) := by decide +kernel
theorem dX5_isOneGroupFrom_5 : decode cX5_isOneGroupFrom 5 = .ok (.bipush 40, 2) := by decide +kernel
theorem dX5_isOneGroupFrom_7 : decode cX5_isOneGroupFrom 7 = .ok (.if_icmp .eq 5, 3) := by decide +kernel
theorem dX5_isOneGroupFrom_10 : decode cX5_isOneGroupFrom 10 = .ok (.iconst 0, 1) := by decide +kernel
theorem dX5_isOneGroupFrom_11 : decode cX5_isOneGroupFrom 11 = .ok (.ireturn, 1) := by decide +kernel
theorem dX5_isOneGroupFrom_12 : decode cX5_isOneGroupFrom 12 = .ok (.iconst 0, 1) := by decide +kernel
theorem dX5_isOneGroupFrom_13 : decode cX5_isOneGroupFrom 13 = .ok (.istore_n 2, 1) := by decide +kernel
theorem dX5_isOneGroupFrom_14 : decode cX5_isOneGroupFrom 14 = .ok (.iload_n 1, 1) := by decide +kernel
theorem dX5_isOneGroupFrom_15 : decode cX5_isOneGroupFrom 15 = .ok (.istore_n 3, 1) := by decide +kernel
theorem dX5_isOneGroupFrom_16 : decode cX5_isOneGroupFrom 16 = .ok (.iload_n 3, 1) := by decide +kernel
theorem dX5_isOneGroupFrom_17 : decode cX5_isOneGroupFrom 17 = .ok (.aload_n 0, 1) := by decide +kernel
theorem dX5_isOneGroupFrom_18 : decode cX5_isOneGroupFrom 18 = .ok (.invokevirtual 14, 3) := by decide +kernel
theorem dX5_isOneGroupFrom_21 : decode cX5_isOneGroupFrom 21 = .ok (.if_icmp .ge 58, 3) := by decide +kernel
theorem dX5_isOneGroupFrom_24 : decode cX5_isOneGroupFrom 24 = .ok (.aload_n 0, 1) := by decide +kernel
theorem dX5_isOneGroupFrom_25 : decode cX5_isOneGroupFrom 25 = .ok (.iload_n 3, 1) := by decide +kernel
theorem dX5_isOneGroupFrom_26 : decode cX5_isOneGroupFrom 26 = .ok (.invokevirtual 18, 3) := by decide +kernel
theorem dX5_isOneGroupFrom_29 : decode cX5_isOneGroupFrom 29 = .ok (.bipush 40, 2) := by decide +kernel
theorem dX5_isOneGroupFrom_31 : decode cX5_isOneGroupFrom 31 = .ok (.if_icmp .ne 9, 3) := by decide +kernel
theorem dX5_isOneGroupFrom_34 : decode cX5_isOneGroupFrom 34 = .ok (.iinc 2 1, 3) := by decide +kernel
theorem dX5_isOneGroupFrom_37 : decode cX5_isOneGroupFrom 37 = .ok (.goto 16, 3) := by decide +kernel
theorem dX5_isOneGroupFrom_40 : decode cX5_isOneGroupFrom 40 = .ok (.aload_n 0, 1) := by decide +kernel
theorem dX5_isOneGroupFrom_41 : decode cX5_isOneGroupFrom 41 = .ok (.iload_n 3, 1) := by decide +kernel
theorem dX5_isOneGroupFrom_42 : decode cX5_isOneGroupFrom 42 = .ok (.invokevirtual 18, 3) := by decide +kernel
theorem dX5_isOneGroupFrom_45 : decode cX5_isOneGroupFrom 45 = .ok (.bipush 41, 2) := by decide +kernel
theorem dX5_isOneGroupFrom_47 : decode cX5_isOneGroupFrom 47 = .ok (.if_icmp .ne 6, 3) := by decide +kernel
theorem dX5_isOneGroupFrom_50 : decode cX5_isOneGroupFrom 50 = .ok (.iinc 2 (-1), 3) := by decide +kernel
theorem dX5_isOneGroupFrom_53 : decode cX5_isOneGroupFrom 53 = .ok (.iload_n 2, 1) := by decide +kernel
theorem dX5_isOneGroupFrom_54 : decode cX5_isOneGroupFrom 54 = .ok (.ifCond .ne 19, 3) := by decide +kernel
theorem dX5_isOneGroupFrom_57 : decode cX5_isOneGroupFrom 57 = .ok (.iload_n 3, 1) := by decide +kernel
theorem dX5_isOneGroupFrom_58 : decode cX5_isOneGroupFrom 58 = .ok (.aload_n 0, 1) := by decide +kernel
theorem dX5_isOneGroupFrom_59 : decode cX5_isOneGroupFrom 59 = .ok (.invokevirtual 14, 3) := by decide +kernel
theorem dX5_isOneGroupFrom_62 : decode cX5_isOneGroupFrom 62 = .ok (.iconst 3, 1) := by decide +kernel
theorem dX5_isOneGroupFrom_63 : decode cX5_isOneGroupFrom 63 = .ok (.isub, 1) := by decide +kernel
theorem dX5_isOneGroupFrom_64 : decode cX5_isOneGroupFrom 64 = .ok (.if_icmp .ne 7, 3) := by decide +kernel
theorem dX5_isOneGroupFrom_67 : decode cX5_isOneGroupFrom 67 = .ok (.iconst 1, 1) := by decide +kernel
theorem dX5_isOneGroupFrom_68 : decode cX5_isOneGroupFrom 68 = .ok (.goto 4, 3) := by decide +kernel
theorem dX5_isOneGroupFrom_71 : decode cX5_isOneGroupFrom 71 = .ok (.iconst 0, 1) := by decide +kernel
theorem dX5_isOneGroupFrom_72 : decode cX5_isOneGroupFrom 72 = .ok (.ireturn, 1) := by decide +kernel
theorem dX5_isOneGroupFrom_73 : decode cX5_isOneGroupFrom 73 = .ok (.iinc 3 1, 3) := by decide +kernel
theorem dX5_isOneGroupFrom_76 : decode cX5_isOneGroupFrom 76 = .ok (.goto (-60), 3) := by decide +kernel
theorem dX5_isOneGroupFrom_79 : decode cX5_isOneGroupFrom 79 = .ok (.iconst 0, 1) := by decide +kernel
theorem dX5_isOneGroupFrom_80 : decode cX5_isOneGroupFrom 80 = .ok (.ireturn, 1) := by decide +kernel
set_option maxRecDepth 20000 in
theorem ggX6_init_X4_init : GoodIn wsX6_init wsX4_init := goodIn_r _ [21, 22, 2, 3, 23, 24, 25, 26, 27, 28, 47, 48] (by decide +kernel) (by decide +kernel)
set_option maxRecDepth 20000 in
theorem gX6_init_X4_init : GoodIn wsX6_init (wsX4_init) := ggX6_init_X4_init
set_option maxRecDepth 20000 in
theorem ggX6_init_X2_init : GoodIn wsX6_init wsX2_init := goodIn_r _ [30, 31, 2, 3] (by decide +kernel) (by decide +kernel)
set_option maxRecDepth 20000 in
theorem gX6_init_X2_init_n23 : GoodIn wsX6_init (wsX2_init) := ggX6_init_X2_init
set_option maxRecDepth 20000 in
theorem ggX6_init_Jx4a65c_init_da8c8 : GoodIn wsX6_init wsJx4a65c_init_da8c8 := goodIn_r _ [34, 35, 36, 37, 38, 39, 40, 41, 42, 43, 44, 45, 46, 2, 3, 57, 58, 59] (by decide +kernel) (by decide +kernel)
set_option maxRecDepth 20000 in
theorem gX6_init_Jx4a65c_init_da8c8 : GoodIn wsX6_init (wsJx4a65c_init_da8c8) := ggX6_init_Jx4a65c_init_da8c8
theorem dX6_init_0 : decode cX6_init 0 = .ok (.aload_n 0, 1) := by decide +kernel
theorem dX6_init_1 : decode cX6_init 1 = .ok (.invokespecial 3, 3) := by decide +kernel
theorem dX6_init_4 : decode cX6_init 4 = .ok (.aload_n 0, 1) := by decide +kernel
theorem dX6_init_5 : decode cX6_init 5 = .ok (.new 9, 3) := by decide +kernel
theorem dX6_init_8 : decode cX6_init 8 = .ok (.dup, 1) := by decide +kernel
theorem dX6_init_9 : decode cX6_init 9 = .ok (.bipush 60, 2) := by decide +kernel
theorem dX6_init_11 : decode cX6_init 11 = .ok (.invokespecial 11, 3) := by decide +kernel
theorem dX6_init_14 : decode cX6_init 14 = .ok (.putfield 14, 3) := by decide +kernel
theorem dX6_init_17 : decode cX6_init 17 = .ok (.aload_n 0, 1) := by decide +kernel
theorem dX6_init_18 : decode cX6_init 18 = .ok (.new 9, 3) := by decide +kernel
theorem dX6_init_21 : decode cX6_init 21 = .ok (.dup, 1) := by decide +kernel
theorem dX6_init_22 : decode cX6_init 22 = .ok (.sipush 360, 3) := by decide +kernel
theorem dX6_init_25 : decode cX6_init 25 = .ok (.invokespecial 11, 3) := by decide +kernel
theorem dX6_init_28 : decode cX6_init 28 = .ok (.putfield 18, 3) := by decide +kernel
theorem dX6_init_31 : decode cX6_init 31 = .ok (.aload_n 0, 1) := by decide +kernel
theorem dX6_init_32 : decode cX6_init 32 = .ok (.new 21, 3) := by decide +kernel
theorem dX6_init_35 : decode cX6_init 35 = .ok (.dup, 1) := by decide +kernel
theorem dX6_init_36 : decode cX6_init 36 = .ok (.invokespecial 23, 3) := by decide +kernel
theorem dX6_init_39 : decode cX6_init 39 = .ok (.putfield 24, 3) := by decide +kernel
theorem dX6_init_42 : decode cX6_init 42 = .ok (.aload_n 0, 1) := by decide +kernel
theorem dX6_init_43 : decode cX6_init 43 = .ok (.new 28, 3) := by decide +kernel
theorem dX6_init_46 : decode cX6_init 46 = .ok (.dup, 1) := by decide +kernel
theorem dX6_init_47 : decode cX6_init 47 = .ok (.invokespecial 30, 3) := by decide +kernel
theorem dX6_init_50 : decode cX6_init 50 = .ok (.putfield 31, 3) := by decide +kernel
theorem dX6_init_53 : decode cX6_init 53 = .ok (.aload_n 0, 1) := by decide +kernel
theorem dX6_init_54 : decode cX6_init 54 = .ok (.new 28, 3) := by decide +kernel
theorem dX6_init_57 : decode cX6_init 57 = .ok (.dup, 1) := by decide +kernel
theorem dX6_init_58 : decode cX6_init 58 = .ok (.invokespecial 30, 3) := by decide +kernel
theorem dX6_init_61 : decode cX6_init 61 = .ok (.putfield 35, 3) := by decide +kernel
theorem dX6_init_64 : decode cX6_init 64 = .ok (.aload_n 0, 1) := by decide +kernel
theorem dX6_init_65 : decode cX6_init 65 = .ok (.new 28, 3) := by decide +kernel
theorem dX6_init_68 : decode cX6_init 68 = .ok (.dup, 1) := by decide +kernel
theorem dX6_init_69 : decode cX6_init 69 = .ok (.invokespecial 30, 3) := by decide +kernel
theorem dX6_init_72 : decode cX6_init 72 = .ok (.putfield 38, 3) := by decide +kernel
theorem dX6_init_75 : decode cX6_init 75 = .ok (.return_, 1) := by decide +kernel
set_option maxRecDepth 20000 in
theorem ggX6_type_X4_size : GoodIn wsX6_type wsX4_size := goodIn_r _ [10, 11, 23, 24] (by decide +kernel) (by decide +kernel)
set_option maxRecDepth 20000 in
theorem gX6_type_X4_size : GoodIn wsX6_type (wsV RX6 48 RX4 yX4_size wsX4_size) := goodIn_app (goodIn_of _ (by decide +kernel)) ggX6_type_X4_size
set_option maxRecDepth 20000 in
theorem ggX6_type_X4_add : GoodIn wsX6_type wsX4_add := goodIn_r _ [15, 11, 16, 23, 24] (by decide +kernel) (by decide +kernel)
set_option maxRecDepth 20000 in
theorem gX6_type_X4_add : GoodIn wsX6_type (wsV RX6 57 RX4 yX4_add wsX4_add) := goodIn_app (goodIn_of _ (by decide +kernel)) ggX6_type_X4_add
theorem dX6_type_0 : decode cX6_type 0 = .ok (.iload_n 1, 1) := by decide +kernel
theorem dX6_type_1 : decode cX6_type 1 = .ok (.bipush 32, 2) := by decide +kernel
theorem dX6_type_3 : decode cX6_type 3 = .ok (.if_icmp .lt 9, 3) := by decide +kernel
theorem dX6_type_6 : decode cX6_type 6 = .ok (.iload_n 1, 1) := by decide +kernel
theorem dX6_type_7 : decode cX6_type 7 = .ok (.bipush 126, 2) := by decide +kernel
theorem dX6_type_9 : decode cX6_type 9 = .ok (.if_icmp .le 13, 3) := by decide +kernel
theorem dX6_type_12 : decode cX6_type 12 = .ok (.new 41, 3) := by decide +kernel
theorem dX6_type_15 : decode cX6_type 15 = .ok (.dup, 1) := by decide +kernel
theorem dX6_type_16 : decode cX6_type 16 = .ok (.ldc 43, 2) := by decide +kernel
theorem dX6_type_18 : decode cX6_type 18 = .ok (.invokespecial 45, 3) := by decide +kernel
theorem dX6_type_21 : decode cX6_type 21 = .ok (.athrow, 1) := by decide +kernel
theorem dX6_type_22 : decode cX6_type 22 = .ok (.aload_n 0, 1) := by decide +kernel
theorem dX6_type_23 : decode cX6_type 23 = .ok (.getfield 14, 3) := by decide +kernel
theorem dX6_type_26 : decode cX6_type 26 = .ok (.invokevirtual 48, 3) := by decide +kernel
theorem dX6_type_29 : decode cX6_type 29 = .ok (.bipush 60, 2) := by decide +kernel
theorem dX6_type_31 : decode cX6_type 31 = .ok (.if_icmp .lt 13, 3) := by decide +kernel
theorem dX6_type_34 : decode cX6_type 34 = .ok (.new 52, 3) := by decide +kernel
theorem dX6_type_37 : decode cX6_type 37 = .ok (.dup, 1) := by decide +kernel
theorem dX6_type_38 : decode cX6_type 38 = .ok (.ldc 54, 2) := by decide +kernel
theorem dX6_type_40 : decode cX6_type 40 = .ok (.invokespecial 56, 3) := by decide +kernel
theorem dX6_type_43 : decode cX6_type 43 = .ok (.athrow, 1) := by decide +kernel
theorem dX6_type_44 : decode cX6_type 44 = .ok (.aload_n 0, 1) := by decide +kernel
theorem dX6_type_45 : decode cX6_type 45 = .ok (.getfield 14, 3) := by decide +kernel
theorem dX6_type_48 : decode cX6_type 48 = .ok (.iload_n 1, 1) := by decide +kernel
theorem dX6_type_49 : decode cX6_type 49 = .ok (.invokevirtual 57, 3) := by decide +kernel
theorem dX6_type_52 : decode cX6_type 52 = .ok (.aload_n 0, 1) := by decide +kernel
theorem dX6_type_53 : decode cX6_type 53 = .ok (.getfield 14, 3) := by decide +kernel
theorem dX6_type_56 : decode cX6_type 56 = .ok (.invokevirtual 48, 3) := by decide +kernel
theorem dX6_type_59 : decode cX6_type 59 = .ok (.ireturn, 1) := by decide +kernel
set_option maxRecDepth 20000 in
theorem ggX6_clear_X4_size : GoodIn wsX6_clear wsX4_size := goodIn_r _ [6, 7, 18, 19] (by decide +kernel) (by decide +kernel)
set_option maxRecDepth 20000 in
theorem gX6_clear_X4_size : GoodIn wsX6_clear (wsV RX6 48 RX4 yX4_size wsX4_size) := goodIn_app (goodIn_of _ (by decide +kernel)) ggX6_clear_X4_size
set_option maxRecDepth 20000 in
theorem ggX6_clear_X4_empty : GoodIn wsX6_clear wsX4_empty := goodIn_r _ [11, 7, 18, 19] (by decide +kernel) (by decide +kernel)
set_option maxRecDepth 20000 in
theorem gX6_clear_X4_empty : GoodIn wsX6_clear (wsV RX6 60 RX4 yX4_empty wsX4_empty) := goodIn_app (goodIn_of _ (by decide +kernel)) ggX6_clear_X4_empty
theorem dX6_clear_0 : decode cX6_clear 0 = .ok (.aload_n 0, 1) := by decide +kernel
theorem dX6_clear_1 : decode cX6_clear 1 = .ok (.getfield 14, 3) := by decide +kernel
theorem dX6_clear_4 : decode cX6_clear 4 = .ok (.invokevirtual 48, 3) := by decide +kernel
theorem dX6_clear_7 : decode cX6_clear 7 = .ok (.istore_n 1, 1) := by decide +kernel
theorem dX6_clear_8 : decode cX6_clear 8 = .ok (.aload_n 0, 1) := by decide +kernel
theorem dX6_clear_9 : decode cX6_clear 9 = .ok (.getfield 14, 3) := by decide +kernel
theorem dX6_clear_12 : decode cX6_clear 12 = .ok (.invokevirtual 60, 3) := by decide +kernel
theorem dX6_clear_15 : decode cX6_clear 15 = .ok (.iload_n 1, 1) := by decide +kernel
theorem dX6_clear_16 : decode cX6_clear 16 = .ok (.ireturn, 1) := by decide +kernel
set_option maxRecDepth 20000 in
theorem ggX6_fault_X2_faultOf_c0 : GoodIn wsX6_fault ([.code yX2_faultOf cX2_faultOf 3 (some .int)]) := goodIn_r _ [7] (by decide +kernel) (by decide +kernel)
set_option maxRecDepth 20000 in
theorem ggX6_fault_X2_faultOf_c1 : GoodIn wsX6_fault (wsX2_faultOf_r1) := goodIn_r _ [8, 9, 10, 11, 12, 13, 14, 15, 16, 17, 18, 19, 20, 21, 22, 23, 6, 24, 25, 26, 27, 28, 29, 30] (by decide +kernel) (by decide +kernel)
set_option maxRecDepth 20000 in
theorem ggX6_fault_X2_faultOf_c2 : GoodIn wsX6_fault (wsX2_faultOf_r2) := goodIn_r _ [31, 32, 33, 34, 35, 36, 37] (by decide +kernel) (by decide +kernel)
set_option maxRecDepth 20000 in
theorem ggX6_fault_X2_faultOf_c3 : GoodIn wsX6_fault (wsX20) := goodIn_r _ [44, 45] (by decide +kernel) (by decide +kernel)
set_option maxRecDepth 20000 in
theorem ggX6_fault_X2_faultOf_c4 : GoodIn wsX6_fault (wsX40) := goodIn_r _ [46, 47] (by decide +kernel) (by decide +kernel)
set_option maxRecDepth 20000 in
theorem ggX6_fault_X2_faultOf : GoodIn wsX6_fault wsX2_faultOf := (goodIn_c1 ggX6_fault_X2_faultOf_c0 (goodIn_app (goodIn_app (goodIn_app ggX6_fault_X2_faultOf_c1 ggX6_fault_X2_faultOf_c2) ggX6_fault_X2_faultOf_c3) ggX6_fault_X2_faultOf_c4))
set_option maxRecDepth 20000 in
theorem gX6_fault_X2_faultOf : GoodIn wsX6_fault (wsV RX6 63 RX2 yX2_faultOf wsX2_faultOf) := goodIn_app (goodIn_of _ (by decide +kernel)) ggX6_fault_X2_faultOf
theorem dX6_fault_0 : decode cX6_fault 0 = .ok (.aload_n 0, 1) := by decide +kernel
theorem dX6_fault_1 : decode cX6_fault 1 = .ok (.getfield 24, 3) := by decide +kernel
theorem dX6_fault_4 : decode cX6_fault 4 = .ok (.aload_n 0, 1) := by decide +kernel
theorem dX6_fault_5 : decode cX6_fault 5 = .ok (.getfield 14, 3) := by decide +kernel
theorem dX6_fault_8 : decode cX6_fault 8 = .ok (.invokevirtual 63, 3) := by decide +kernel
theorem dX6_fault_11 : decode cX6_fault 11 = .ok (.ireturn, 1) := by decide +kernel
set_option maxRecDepth 20000 in
theorem ggX6_post_Jx4a65c_size_8abf5 : GoodIn wsX6_post wsJx4a65c_size_8abf5 := goodIn_r _ [9, 10, 204, 205, 206] (by decide +kernel) (by decide +kernel)
set_option maxRecDepth 20000 in
theorem gX6_post_Jx4a65c_size_8abf5 : GoodIn wsX6_post (wsV RX6 67 RJx4a65c yJx4a65c_size_8abf5 wsJx4a65c_size_8abf5) := goodIn_app (goodIn_of _ (by decide +kernel)) ggX6_post_Jx4a65c_size_8abf5
set_option maxRecDepth 20000 in
theorem ggX6_post_X6_entryOfDraft : GoodIn wsX6_post wsX6_entryOfDraft := goodIn_ca (goodIn_r _ [15, 1, 2, 16, 4, 17, 18, 19, 20, 21, 22, 23, 24, 25, 26, 27, 28, 29, 30, 31, 32, 33, 34, 35, 36, 37, 38, 39, 40, 41, 42, 43, 44, 45, 46, 14, 47, 48, 49, 50, 51, 52, 53, 54, 55, 56, 57, 58, 59, 60, 61, 62, 63, 64, 65, 66, 67, 68, 69, 70, 71, 72, 73, 74, 75, 76, 77, 78, 79, 80, 81, 82, 83, 84, 85, 86, 87, 88, 89, 90, 91, 92, 93, 94, 95, 96, 97, 98, 99, 100, 101, 102, 103, 104, 105, 106, 107, 108, 109, 110, 111, 112, 113, 114, 115, 116, 117, 118, 119, 120, 121, 122, 123, 124, 125, 126, 127, 128, 129, 130, 131, 132, 133, 134, 135, 136, 137, 138, 139, 140, 141, 142, 143, 144, 145, 198, 199, 200, 201, 202, 203, 207, 208, 209, 210, 211, 212, 213, 214, 215, 216] (by decide +kernel) (by decide +kernel)) (goodIn_sub (fun _ h => List.mem_cons_of_mem _ (List.mem_append_right _ h)) (by decide +kernel))
set_option maxRecDepth 20000 in
theorem gX6_post_X6_entryOfDraft : GoodIn wsX6_post (wsV RX6 70 RX6 yX6_entryOfDraft wsX6_entryOfDraft) := goodIn_app (goodIn_of _ (by decide +kernel)) ggX6_post_X6_entryOfDraft
set_option maxRecDepth 20000 in
theorem ggX6_post_Jx4a65c_add_9ea2d_c0 : GoodIn wsX6_post ([.code yJx4a65c_add_9ea2d cJx4a65c_add_9ea2d 2 (some .boolean)]) := goodIn_r _ [149] (by decide +kernel) (by decide +kernel)
set_option maxRecDepth 20000 in
theorem ggX6_post_Jx4a65c_add_9ea2d_c1 : GoodIn wsX6_post (wsJx4a65c_add_9ea2d_r1) := goodIn_r _ [150, 151, 152, 10, 153, 154, 155, 8, 156, 157, 158, 159, 160, 161, 162, 163, 164, 165, 166, 71, 72, 73, 167, 168] (by decide +kernel) (by decide +kernel)
set_option maxRecDepth 20000 in
theorem ggX6_post_Jx4a65c_add_9ea2d_c2 : GoodIn wsX6_post (wsJx4a65c_add_9ea2d_r2) := goodIn_r _ [169, 170, 171, 172, 173, 174, 175, 176, 177, 178, 179, 180, 181, 182, 183, 184, 185, 186, 187, 188, 189, 190, 191, 192] (by decide +kernel) (by decide +kernel)
set_option maxRecDepth 20000 in
theorem ggX6_post_Jx4a65c_add_9ea2d_c3 : GoodIn wsX6_post (wsJx4a65c_add_9ea2d_r3) := goodIn_r _ [193, 194, 195, 196] (by decide +kernel) (by decide +kernel)
set_option maxRecDepth 20000 in
theorem ggX6_post_Jx4a65c_add_9ea2d_c4 : GoodIn wsX6_post (wsJx4a65c0) := goodIn_r _ [204, 205, 206] (by decide +kernel) (by decide +kernel)
set_option maxRecDepth 20000 in
theorem ggX6_post_Jx4a65c_add_9ea2d : GoodIn wsX6_post wsJx4a65c_add_9ea2d := (goodIn_c1 ggX6_post_Jx4a65c_add_9ea2d_c0 (goodIn_app (goodIn_app ggX6_post_Jx4a65c_add_9ea2d_c1 (goodIn_app ggX6_post_Jx4a65c_add_9ea2d_c2 ggX6_post_Jx4a65c_add_9ea2d_c3)) ggX6_post_Jx4a65c_add_9ea2d_c4))
set_option maxRecDepth 20000 in
theorem gX6_post_Jx4a65c_add_9ea2d : GoodIn wsX6_post (wsV RX6 74 RJx4a65c yJx4a65c_add_9ea2d wsJx4a65c_add_9ea2d) := goodIn_app (goodIn_of _ (by decide +kernel)) ggX6_post_Jx4a65c_add_9ea2d
set_option maxRecDepth 20000 in
theorem ggX6_post_X4_empty : GoodIn wsX6_post wsX4_empty := goodIn_r _ [85, 32, 215, 216] (by decide +kernel) (by decide +kernel)
set_option maxRecDepth 20000 in
theorem gX6_post_X4_empty : GoodIn wsX6_post (wsV RX6 60 RX4 yX4_empty wsX4_empty) := goodIn_app (goodIn_of _ (by decide +kernel)) ggX6_post_X4_empty
theorem dX6_post_0 : decode cX6_post 0 = .ok (.aload_n 0, 1) := by decide +kernel
theorem dX6_post_1 : decode cX6_post 1 = .ok (.getfield 31, 3) := by decide +kernel
theorem dX6_post_4 : decode cX6_post 4 = .ok (.invokevirtual 67, 3) := by decide +kernel
theorem dX6_post_7 : decode cX6_post 7 = .ok (.bipush 24, 2) := by decide +kernel
theorem dX6_post_9 : decode cX6_post 9 = .ok (.if_icmp .lt 13, 3) := by decide +kernel
theorem dX6_post_12 : decode cX6_post 12 = .ok (.new 52, 3) := by decide +kernel
theorem dX6_post_15 : decode cX6_post 15 = .ok (.dup, 1) := by decide +kernel
theorem dX6_post_16 : decode cX6_post 16 = .ok (.ldc 68, 2) := by decide +kernel
theorem dX6_post_18 : decode cX6_post 18 = .ok (.invokespecial 56, 3) := by decide +kernel
theorem dX6_post_21 : decode cX6_post 21 = .ok (.athrow, 1) := by decide +kernel
theorem dX6_post_22 : decode cX6_post 22 = .ok (.aload_n 0, 1) := by decide +kernel
theorem dX6_post_23 : decode cX6_post 23 = .ok (.getfield 31, 3) := by decide +kernel
theorem dX6_post_26 : decode cX6_post 26 = .ok (.aload_n 0, 1) := by decide +kernel
theorem dX6_post_27 : decode cX6_post 27 = .ok (.invokevirtual 70, 3) := by decide +kernel
theorem dX6_post_30 : decode cX6_post 30 = .ok (.invokevirtual 74, 3) := by decide +kernel
theorem dX6_post_33 : decode cX6_post 33 = .ok (.pop, 1) := by decide +kernel
theorem dX6_post_34 : decode cX6_post 34 = .ok (.aload_n 0, 1) := by decide +kernel
theorem dX6_post_35 : decode cX6_post 35 = .ok (.getfield 14, 3) := by decide +kernel
theorem dX6_post_38 : decode cX6_post 38 = .ok (.invokevirtual 60, 3) := by decide +kernel
theorem dX6_post_41 : decode cX6_post 41 = .ok (.aload_n 0, 1) := by decide +kernel
theorem dX6_post_42 : decode cX6_post 42 = .ok (.getfield 31, 3) := by decide +kernel
theorem dX6_post_45 : decode cX6_post 45 = .ok (.invokevirtual 67, 3) := by decide +kernel
theorem dX6_post_48 : decode cX6_post 48 = .ok (.iconst 1, 1) := by decide +kernel
theorem dX6_post_49 : decode cX6_post 49 = .ok (.isub, 1) := by decide +kernel
theorem dX6_post_50 : decode cX6_post 50 = .ok (.ireturn, 1) := by decide +kernel
set_option maxRecDepth 20000 in
theorem ggX6_write_X6_entryAt : GoodIn wsX6_write wsX6_entryAt := goodIn_ca (goodIn_r _ [9, 10, 11, 3, 12, 13, 14, 15, 16, 17, 18, 19, 20, 21, 22, 23, 24, 25, 26, 27, 28, 29, 30, 31, 32, 33, 34, 35, 191, 192, 193, 194, 195, 196, 197, 198, 199] (by decide +kernel) (by decide +kernel)) (goodIn_sub (fun _ h => List.mem_cons_of_mem _ (List.mem_append_right _ h)) (by decide +kernel))
set_option maxRecDepth 20000 in
theorem gX6_write_X6_entryAt : GoodIn wsX6_write (wsV RX6 77 RX6 yX6_entryAt wsX6_entryAt) := goodIn_app (goodIn_of _ (by decide +kernel)) ggX6_write_X6_entryAt
set_option maxRecDepth 20000 in
theorem ggX6_write_X6_entryOfDraft : GoodIn wsX6_write wsX6_entryOfDraft := goodIn_ca (goodIn_r _ [39, 1, 2, 40, 4, 41, 42, 43, 44, 45, 46, 47, 48, 49, 50, 51, 52, 53, 54, 55, 56, 57, 58, 59, 60, 61, 62, 63, 64, 65, 66, 67, 68, 69, 70, 8, 71, 72, 73, 74, 75, 76, 77, 78, 79, 80, 81, 82, 83, 84, 85, 86, 87, 88, 89, 90, 91, 92, 93, 94, 95, 96, 97, 98, 99, 100, 101, 102, 103, 104, 105, 106, 107, 108, 109, 110, 111, 112, 113, 114, 115, 116, 117, 118, 119, 120, 121, 122, 123, 124, 125, 126, 127, 128, 129, 130, 131, 132, 133, 134, 135, 136, 137, 138, 139, 140, 141, 142, 143, 144, 145, 146, 147, 148, 149, 150, 151, 152, 153, 154, 155, 156, 157, 158, 159, 160, 161, 162, 163, 164, 165, 166, 167, 168, 169, 191, 192, 193, 194, 195, 196, 185, 186, 187, 188, 189, 190, 200, 201, 202, 203] (by decide +kernel) (by decide +kernel)) (goodIn_sub (fun _ h => List.mem_cons_of_mem _ (List.mem_append_left _ (List.mem_append_right _ h))) (by decide +kernel))
set_option maxRecDepth 20000 in
theorem gX6_write_X6_entryOfDraft : GoodIn wsX6_write (wsV RX6 70 RX6 yX6_entryOfDraft wsX6_entryOfDraft) := goodIn_app (goodIn_of _ (by decide +kernel)) ggX6_write_X6_entryOfDraft
set_option maxRecDepth 20000 in
theorem ggX6_write_X4_isSameAs : GoodIn wsX6_write wsX4_isSameAs := goodIn_r _ [173, 56, 110, 52, 53, 54, 55, 111, 58, 59, 60, 61, 202, 203] (by decide +kernel) (by decide +kernel)
set_option maxRecDepth 20000 in
theorem gX6_write_X4_isSameAs : GoodIn wsX6_write (wsV RX6 86 RX4 yX4_isSameAs wsX4_isSameAs) := goodIn_app (goodIn_of _ (by decide +kernel)) ggX6_write_X4_isSameAs
set_option maxRecDepth 20000 in
theorem ggX6_write_X6_freezes_c0 : GoodIn wsX6_write ([.code yX6_freezes cX6_freezes 4 (some .boolean)]) := goodIn_r _ [177] (by decide +kernel) (by decide +kernel)
set_option maxRecDepth 20000 in
theorem ggX6_write_X6_freezes_c1 : GoodIn wsX6_write (wsX6_freezes_r1) := goodIn_r _ [178, 179, 13, 14, 15, 16, 17, 18, 19, 20, 21, 22, 23, 24, 25, 26, 27, 28, 29, 30, 31, 32, 33, 34] (by decide +kernel) (by decide +kernel)
set_option maxRecDepth 20000 in
theorem ggX6_write_X6_freezes_c2 : GoodIn wsX6_write (wsX6_freezes_r2) := goodIn_r _ [35] (by decide +kernel) (by decide +kernel)
set_option maxRecDepth 20000 in
theorem ggX6_write_X6_freezes_c3 : GoodIn wsX6_write (wsX60) := goodIn_r _ [191, 192, 193, 194, 195, 196] (by decide +kernel) (by decide +kernel)
set_option maxRecDepth 20000 in
theorem ggX6_write_X6_freezes_c4 : GoodIn wsX6_write (wsX00) := goodIn_r _ [204, 205, 206, 207] (by decide +kernel) (by decide +kernel)
set_option maxRecDepth 20000 in
theorem ggX6_write_X6_freezes_c5 : GoodIn wsX6_write (wsJx4a65c0) := goodIn_r _ [197, 198, 199] (by decide +kernel) (by decide +kernel)
set_option maxRecDepth 20000 in
theorem ggX6_write_X6_freezes : GoodIn wsX6_write wsX6_freezes := (goodIn_c1 ggX6_write_X6_freezes_c0 (goodIn_app (goodIn_app (goodIn_app (goodIn_app ggX6_write_X6_freezes_c1 ggX6_write_X6_freezes_c2) ggX6_write_X6_freezes_c3) ggX6_write_X6_freezes_c4) ggX6_write_X6_freezes_c5))
set_option maxRecDepth 20000 in
theorem gX6_write_X6_freezes : GoodIn wsX6_write (wsV RX6 90 RX6 yX6_freezes wsX6_freezes) := goodIn_app (goodIn_of _ (by decide +kernel)) ggX6_write_X6_freezes
set_option maxRecDepth 20000 in
theorem ggX6_write_Jx4a65c_set_bcc79 : GoodIn wsX6_write wsJx4a65c_set_bcc79 := goodIn_r _ [183, 18, 35, 23, 24, 25, 26, 27, 28, 29, 30, 31, 32, 33, 16, 34, 197, 198, 199] (by decide +kernel) (by decide +kernel)
set_option maxRecDepth 20000 in
theorem gX6_write_Jx4a65c_set_bcc79 : GoodIn wsX6_write (wsV RX6 96 RJx4a65c yJx4a65c_set_bcc79 wsJx4a65c_set_bcc79) := goodIn_app (goodIn_of _ (by decide +kernel)) ggX6_write_Jx4a65c_set_bcc79
set_option maxRecDepth 20000 in
theorem ggX6_write_X4_empty : GoodIn wsX6_write wsX4_empty := goodIn_r _ [109, 56, 202, 203] (by decide +kernel) (by decide +kernel)
set_option maxRecDepth 20000 in
theorem gX6_write_X4_empty : GoodIn wsX6_write (wsV RX6 60 RX4 yX4_empty wsX4_empty) := goodIn_app (goodIn_of _ (by decide +kernel)) ggX6_write_X4_empty
theorem dX6_write_0 : decode cX6_write 0 = .ok (.aload_n 0, 1) := by decide +kernel
theorem dX6_write_1 : decode cX6_write 1 = .ok (.iload_n 1, 1) := by decide +kernel
theorem dX6_write_2 : decode cX6_write 2 = .ok (.invokevirtual 77, 3) := by decide +kernel
theorem dX6_write_5 : decode cX6_write 5 = .ok (.astore_n 2, 1) := by decide +kernel
theorem dX6_write_6 : decode cX6_write 6 = .ok (.aload_n 0, 1) := by decide +kernel
theorem dX6_write_7 : decode cX6_write 7 = .ok (.invokevirtual 70, 3) := by decide +kernel
theorem dX6_write_10 : decode cX6_write 10 = .ok (.astore_n 3, 1) := by decide +kernel
theorem dX6_write_11 : decode cX6_write 11 = .ok (.aload_n 3, 1) := by decide +kernel
theorem dX6_write_12 : decode cX6_write 12 = .ok (.getfield 81, 3) := by decide +kernel
theorem dX6_write_15 : decode cX6_write 15 = .ok (.aload_n 2, 1) := by decide +kernel
theorem dX6_write_16 : decode cX6_write 16 = .ok (.getfield 81, 3) := by decide +kernel
theorem dX6_write_19 : decode cX6_write 19 = .ok (.invokevirtual 86, 3) := by decide +kernel
theorem dX6_write_22 : decode cX6_write 22 = .ok (.ifCond .ne 7, 3) := by decide +kernel
theorem dX6_write_25 : decode cX6_write 25 = .ok (.iconst 1, 1) := by decide +kernel
theorem dX6_write_26 : decode cX6_write 26 = .ok (.goto 4, 3) := by decide +kernel
theorem dX6_write_29 : decode cX6_write 29 = .ok (.iconst 0, 1) := by decide +kernel
theorem dX6_write_30 : decode cX6_write 30 = .ok (.istore 4, 2) := by decide +kernel
theorem dX6_write_32 : decode cX6_write 32 = .ok (.iload 4, 2) := by decide +kernel
theorem dX6_write_34 : decode cX6_write 34 = .ok (.ifCond .eq 21, 3) := by decide +kernel
theorem dX6_write_37 : decode cX6_write 37 = .ok (.aload_n 0, 1) := by decide +kernel
theorem dX6_write_38 : decode cX6_write 38 = .ok (.iload_n 1, 1) := by decide +kernel
theorem dX6_write_39 : decode cX6_write 39 = .ok (.invokevirtual 90, 3) := by decide +kernel
theorem dX6_write_42 : decode cX6_write 42 = .ok (.ifCond .eq 13, 3) := by decide +kernel
theorem dX6_write_45 : decode cX6_write 45 = .ok (.new 52, 3) := by decide +kernel
theorem dX6_write_48 : decode cX6_write 48 = .ok (.dup, 1) := by decide +kernel
theorem dX6_write_49 : decode cX6_write 49 = .ok (.ldc 94, 2) := by decide +kernel
theorem dX6_write_51 : decode cX6_write 51 = .ok (.invokespecial 56, 3) := by decide +kernel
theorem dX6_write_54 : decode cX6_write 54 = .ok (.athrow, 1) := by decide +kernel
theorem dX6_write_55 : decode cX6_write 55 = .ok (.aload_n 0, 1) := by decide +kernel
theorem dX6_write_56 : decode cX6_write 56 = .ok (.getfield 31, 3) := by decide +kernel
theorem dX6_write_59 : decode cX6_write 59 = .ok (.iload_n 1, 1) := by decide +kernel
theorem dX6_write_60 : decode cX6_write 60 = .ok (.aload_n 3, 1) := by decide +kernel
theorem dX6_write_61 : decode cX6_write 61 = .ok (.invokevirtual 96, 3) := by decide +kernel
