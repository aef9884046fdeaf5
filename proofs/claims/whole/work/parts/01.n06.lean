theorem dX4_within_61 : decode cX4_within 61 = .ok (.iload_n 1, 1) := by decide +kernel
theorem dX4_within_62 : decode cX4_within 62 = .ok (.imul, 1) := by decide +kernel
theorem dX4_within_63 : decode cX4_within 63 = .ok (.iload_n 2, 1) := by decide +kernel
theorem dX4_within_64 : decode cX4_within 64 = .ok (.iadd, 1) := by decide +kernel
theorem dX4_within_65 : decode cX4_within 65 = .ok (.laload, 1) := by decide +kernel
theorem dX4_within_66 : decode cX4_within 66 = .ok (.l2i, 1) := by decide +kernel
theorem dX4_within_67 : decode cX4_within 67 = .ok (.goto 5, 3) := by decide +kernel
theorem dX4_within_70 : decode cX4_within 70 = .ok (.ldc 75, 2) := by decide +kernel
theorem dX4_within_72 : decode cX4_within 72 = .ok (.ireturn, 1) := by decide +kernel
set_option maxRecDepth 20000 in
theorem ggX4_rounds_X4_isNode : GoodIn wsX4_rounds wsX4_isNode := goodIn_r _ [9, 2, 10, 11, 8, 12, 46, 47, 48, 49, 50, 51, 52, 53, 54, 55, 56, 57, 58, 59] (by decide +kernel) (by decide +kernel)
set_option maxRecDepth 20000 in
theorem gX4_rounds_X4_isNode : GoodIn wsX4_rounds (wsV RX4 57 RX4 yX4_isNode wsX4_isNode) := goodIn_app (goodIn_of _ (by decide +kernel)) ggX4_rounds_X4_isNode
set_option maxRecDepth 20000 in
theorem ggX4_rounds_X4_findBest : GoodIn wsX4_rounds wsX4_findBest := goodIn_r _ [16, 2, 3, 4, 17, 18, 19, 20, 21, 22, 23, 46, 47, 48, 49, 50, 51, 52, 53, 54, 55, 56, 57, 58, 59] (by decide +kernel) (by decide +kernel)
set_option maxRecDepth 20000 in
theorem gX4_rounds_X4_findBest : GoodIn wsX4_rounds (wsV RX4 72 RX4 yX4_findBest wsX4_findBest) := goodIn_app (goodIn_of _ (by decide +kernel)) ggX4_rounds_X4_findBest
set_option maxRecDepth 20000 in
theorem ggX4_rounds_X4_isAtRest : GoodIn wsX4_rounds wsX4_isAtRest := goodIn_r _ [27, 2, 3, 28, 4, 29, 30, 31, 8, 32, 33, 17, 18, 19, 22, 21, 34, 35, 36, 37, 38, 39, 40, 41, 42, 43, 44, 45, 20, 46, 47, 48, 49, 50, 51, 52, 53, 54, 55, 56, 57, 58, 59] (by decide +kernel) (by decide +kernel)
set_option maxRecDepth 20000 in
theorem gX4_rounds_X4_isAtRest : GoodIn wsX4_rounds (wsV RX4 97 RX4 yX4_isAtRest wsX4_isAtRest) := goodIn_app (goodIn_of _ (by decide +kernel)) ggX4_rounds_X4_isAtRest
theorem dX4_rounds_0 : decode cX4_rounds 0 = .ok (.aload_n 0, 1) := by decide +kernel
theorem dX4_rounds_1 : decode cX4_rounds 1 = .ok (.iload_n 1, 1) := by decide +kernel
theorem dX4_rounds_2 : decode cX4_rounds 2 = .ok (.invokevirtual 57, 3) := by decide +kernel
theorem dX4_rounds_5 : decode cX4_rounds 5 = .ok (.ifCond .ne 6, 3) := by decide +kernel
theorem dX4_rounds_8 : decode cX4_rounds 8 = .ok (.ldc 61, 2) := by decide +kernel
theorem dX4_rounds_10 : decode cX4_rounds 10 = .ok (.ireturn, 1) := by decide +kernel
theorem dX4_rounds_11 : decode cX4_rounds 11 = .ok (.aload_n 0, 1) := by decide +kernel
theorem dX4_rounds_12 : decode cX4_rounds 12 = .ok (.invokevirtual 72, 3) := by decide +kernel
theorem dX4_rounds_15 : decode cX4_rounds 15 = .ok (.iconst 1, 1) := by decide +kernel
theorem dX4_rounds_16 : decode cX4_rounds 16 = .ok (.istore_n 2, 1) := by decide +kernel
theorem dX4_rounds_17 : decode cX4_rounds 17 = .ok (.iconst 0, 1) := by decide +kernel
theorem dX4_rounds_18 : decode cX4_rounds 18 = .ok (.istore_n 3, 1) := by decide +kernel
theorem dX4_rounds_19 : decode cX4_rounds 19 = .ok (.iload_n 3, 1) := by decide +kernel
theorem dX4_rounds_20 : decode cX4_rounds 20 = .ok (.aload_n 0, 1) := by decide +kernel
theorem dX4_rounds_21 : decode cX4_rounds 21 = .ok (.getfield 45, 3) := by decide +kernel
theorem dX4_rounds_24 : decode cX4_rounds 24 = .ok (.if_icmp .ge 53, 3) := by decide +kernel
theorem dX4_rounds_27 : decode cX4_rounds 27 = .ok (.iload_n 2, 1) := by decide +kernel
theorem dX4_rounds_28 : decode cX4_rounds 28 = .ok (.ifCond .eq 41, 3) := by decide +kernel
theorem dX4_rounds_31 : decode cX4_rounds 31 = .ok (.aload_n 0, 1) := by decide +kernel
theorem dX4_rounds_32 : decode cX4_rounds 32 = .ok (.getfield 23, 3) := by decide +kernel
theorem dX4_rounds_35 : decode cX4_rounds 35 = .ok (.bipush 12, 2) := by decide +kernel
theorem dX4_rounds_37 : decode cX4_rounds 37 = .ok (.iload_n 1, 1) := by decide +kernel
theorem dX4_rounds_38 : decode cX4_rounds 38 = .ok (.imul, 1) := by decide +kernel
theorem dX4_rounds_39 : decode cX4_rounds 39 = .ok (.iload_n 3, 1) := by decide +kernel
theorem dX4_rounds_40 : decode cX4_rounds 40 = .ok (.iadd, 1) := by decide +kernel
theorem dX4_rounds_41 : decode cX4_rounds 41 = .ok (.laload, 1) := by decide +kernel
theorem dX4_rounds_42 : decode cX4_rounds 42 = .ok (.ldc2_w 66, 3) := by decide +kernel
theorem dX4_rounds_45 : decode cX4_rounds 45 = .ok (.lcmp, 1) := by decide +kernel
theorem dX4_rounds_46 : decode cX4_rounds 46 = .ok (.ifCond .ge 19, 3) := by decide +kernel
theorem dX4_rounds_49 : decode cX4_rounds 49 = .ok (.aload_n 0, 1) := by decide +kernel
theorem dX4_rounds_50 : decode cX4_rounds 50 = .ok (.getfield 23, 3) := by decide +kernel
theorem dX4_rounds_53 : decode cX4_rounds 53 = .ok (.bipush 12, 2) := by decide +kernel
theorem dX4_rounds_55 : decode cX4_rounds 55 = .ok (.iload_n 3, 1) := by decide +kernel
theorem dX4_rounds_56 : decode cX4_rounds 56 = .ok (.imul, 1) := by decide +kernel
theorem dX4_rounds_57 : decode cX4_rounds 57 = .ok (.iload_n 3, 1) := by decide +kernel
theorem dX4_rounds_58 : decode cX4_rounds 58 = .ok (.iadd, 1) := by decide +kernel
theorem dX4_rounds_59 : decode cX4_rounds 59 = .ok (.laload, 1) := by decide +kernel
theorem dX4_rounds_60 : decode cX4_rounds 60 = .ok (.lconst 0, 1) := by decide +kernel
theorem dX4_rounds_61 : decode cX4_rounds 61 = .ok (.lcmp, 1) := by decide +kernel
theorem dX4_rounds_62 : decode cX4_rounds 62 = .ok (.ifCond .lt 7, 3) := by decide +kernel
theorem dX4_rounds_65 : decode cX4_rounds 65 = .ok (.iconst 1, 1) := by decide +kernel
theorem dX4_rounds_66 : decode cX4_rounds 66 = .ok (.goto 4, 3) := by decide +kernel
theorem dX4_rounds_69 : decode cX4_rounds 69 = .ok (.iconst 0, 1) := by decide +kernel
theorem dX4_rounds_70 : decode cX4_rounds 70 = .ok (.istore_n 2, 1) := by decide +kernel
theorem dX4_rounds_71 : decode cX4_rounds 71 = .ok (.iinc 3 1, 3) := by decide +kernel
theorem dX4_rounds_74 : decode cX4_rounds 74 = .ok (.goto (-55), 3) := by decide +kernel
theorem dX4_rounds_77 : decode cX4_rounds 77 = .ok (.iload_n 2, 1) := by decide +kernel
theorem dX4_rounds_78 : decode cX4_rounds 78 = .ok (.ifCond .ne 5, 3) := by decide +kernel
theorem dX4_rounds_81 : decode cX4_rounds 81 = .ok (.iconst (-1), 1) := by decide +kernel
theorem dX4_rounds_82 : decode cX4_rounds 82 = .ok (.ireturn, 1) := by decide +kernel
theorem dX4_rounds_83 : decode cX4_rounds 83 = .ok (.iconst 0, 1) := by decide +kernel
theorem dX4_rounds_84 : decode cX4_rounds 84 = .ok (.istore_n 3, 1) := by decide +kernel
theorem dX4_rounds_85 : decode cX4_rounds 85 = .ok (.aload_n 0, 1) := by decide +kernel
theorem dX4_rounds_86 : decode cX4_rounds 86 = .ok (.iload_n 1, 1) := by decide +kernel
theorem dX4_rounds_87 : decode cX4_rounds 87 = .ok (.iload_n 3, 1) := by decide +kernel
theorem dX4_rounds_88 : decode cX4_rounds 88 = .ok (.invokevirtual 97, 3) := by decide +kernel
theorem dX4_rounds_91 : decode cX4_rounds 91 = .ok (.ifCond .ne 9, 3) := by decide +kernel
theorem dX4_rounds_94 : decode cX4_rounds 94 = .ok (.iinc 3 1, 3) := by decide +kernel
theorem dX4_rounds_97 : decode cX4_rounds 97 = .ok (.goto (-12), 3) := by decide +kernel
theorem dX4_rounds_100 : decode cX4_rounds 100 = .ok (.iload_n 3, 1) := by decide +kernel
theorem dX4_rounds_101 : decode cX4_rounds 101 = .ok (.ireturn, 1) := by decide +kernel
set_option maxRecDepth 20000 in
theorem ggX4_isAtRest_X4_findAll : GoodIn wsX4_isAtRest wsX4_findAll := goodIn_r _ [9, 1, 3, 4, 10, 11, 12, 13, 14, 15, 16, 17, 18, 8, 19, 20, 21, 22, 23, 24, 29, 30, 31, 32, 33, 34, 35, 36, 37, 38, 39, 40, 41, 42] (by decide +kernel) (by decide +kernel)
set_option maxRecDepth 20000 in
theorem gX4_isAtRest_X4_findAll : GoodIn wsX4_isAtRest (wsV RX4 93 RX4 yX4_findAll wsX4_findAll) := goodIn_app (goodIn_of _ (by decide +kernel)) ggX4_isAtRest_X4_findAll
set_option maxRecDepth 20000 in
theorem ggX4_isAtRest_X4_weightIn : GoodIn wsX4_isAtRest wsX4_weightIn := goodIn_r _ [27, 28] (by decide +kernel) (by decide +kernel)
set_option maxRecDepth 20000 in
theorem gX4_isAtRest_X4_weightIn : GoodIn wsX4_isAtRest (va_wsS RX4 81 yX4_weightIn wsX4_weightIn) := goodIn_app (goodIn_of _ (by decide +kernel)) ggX4_isAtRest_X4_weightIn
theorem dX4_isAtRest_0 : decode cX4_isAtRest 0 = .ok (.aload_n 0, 1) := by decide +kernel
theorem dX4_isAtRest_1 : decode cX4_isAtRest 1 = .ok (.iload_n 2, 1) := by decide +kernel
theorem dX4_isAtRest_2 : decode cX4_isAtRest 2 = .ok (.invokevirtual 93, 3) := by decide +kernel
theorem dX4_isAtRest_5 : decode cX4_isAtRest 5 = .ok (.iconst 1, 1) := by decide +kernel
theorem dX4_isAtRest_6 : decode cX4_isAtRest 6 = .ok (.istore_n 3, 1) := by decide +kernel
theorem dX4_isAtRest_7 : decode cX4_isAtRest 7 = .ok (.iconst 0, 1) := by decide +kernel
theorem dX4_isAtRest_8 : decode cX4_isAtRest 8 = .ok (.istore 4, 2) := by decide +kernel
theorem dX4_isAtRest_10 : decode cX4_isAtRest 10 = .ok (.iload 4, 2) := by decide +kernel
theorem dX4_isAtRest_12 : decode cX4_isAtRest 12 = .ok (.aload_n 0, 1) := by decide +kernel
theorem dX4_isAtRest_13 : decode cX4_isAtRest 13 = .ok (.getfield 45, 3) := by decide +kernel
theorem dX4_isAtRest_16 : decode cX4_isAtRest 16 = .ok (.if_icmp .ge 89, 3) := by decide +kernel
theorem dX4_isAtRest_19 : decode cX4_isAtRest 19 = .ok (.aload_n 0, 1) := by decide +kernel
theorem dX4_isAtRest_20 : decode cX4_isAtRest 20 = .ok (.getfield 23, 3) := by decide +kernel
theorem dX4_isAtRest_23 : decode cX4_isAtRest 23 = .ok (.bipush 12, 2) := by decide +kernel
theorem dX4_isAtRest_25 : decode cX4_isAtRest 25 = .ok (.iload_n 1, 1) := by decide +kernel
theorem dX4_isAtRest_26 : decode cX4_isAtRest 26 = .ok (.imul, 1) := by decide +kernel
theorem dX4_isAtRest_27 : decode cX4_isAtRest 27 = .ok (.iload 4, 2) := by decide +kernel
theorem dX4_isAtRest_29 : decode cX4_isAtRest 29 = .ok (.iadd, 1) := by decide +kernel
theorem dX4_isAtRest_30 : decode cX4_isAtRest 30 = .ok (.laload, 1) := by decide +kernel
theorem dX4_isAtRest_31 : decode cX4_isAtRest 31 = .ok (.lstore 5, 2) := by decide +kernel
theorem dX4_isAtRest_33 : decode cX4_isAtRest 33 = .ok (.aload_n 0, 1) := by decide +kernel
theorem dX4_isAtRest_34 : decode cX4_isAtRest 34 = .ok (.getfield 30, 3) := by decide +kernel
theorem dX4_isAtRest_37 : decode cX4_isAtRest 37 = .ok (.bipush 12, 2) := by decide +kernel
theorem dX4_isAtRest_39 : decode cX4_isAtRest 39 = .ok (.iload_n 1, 1) := by decide +kernel
theorem dX4_isAtRest_40 : decode cX4_isAtRest 40 = .ok (.imul, 1) := by decide +kernel
theorem dX4_isAtRest_41 : decode cX4_isAtRest 41 = .ok (.iload 4, 2) := by decide +kernel
theorem dX4_isAtRest_43 : decode cX4_isAtRest 43 = .ok (.iadd, 1) := by decide +kernel
theorem dX4_isAtRest_44 : decode cX4_isAtRest 44 = .ok (.laload, 1) := by decide +kernel
theorem dX4_isAtRest_45 : decode cX4_isAtRest 45 = .ok (.lstore 7, 2) := by decide +kernel
theorem dX4_isAtRest_47 : decode cX4_isAtRest 47 = .ok (.iload_n 3, 1) := by decide +kernel
theorem dX4_isAtRest_48 : decode cX4_isAtRest 48 = .ok (.ifCond .eq 49, 3) := by decide +kernel
theorem dX4_isAtRest_51 : decode cX4_isAtRest 51 = .ok (.lload 5, 2) := by decide +kernel
theorem dX4_isAtRest_53 : decode cX4_isAtRest 53 = .ok (.ldc2_w 66, 3) := by decide +kernel
theorem dX4_isAtRest_56 : decode cX4_isAtRest 56 = .ok (.lcmp, 1) := by decide +kernel
theorem dX4_isAtRest_57 : decode cX4_isAtRest 57 = .ok (.ifCond .lt 15, 3) := by decide +kernel
theorem dX4_isAtRest_60 : decode cX4_isAtRest 60 = .ok (.lload 7, 2) := by decide +kernel
theorem dX4_isAtRest_62 : decode cX4_isAtRest 62 = .ok (.ldc2_w 66, 3) := by decide +kernel
theorem dX4_isAtRest_65 : decode cX4_isAtRest 65 = .ok (.lcmp, 1) := by decide +kernel
theorem dX4_isAtRest_66 : decode cX4_isAtRest 66 = .ok (.ifCond .lt 31, 3) := by decide +kernel
theorem dX4_isAtRest_69 : decode cX4_isAtRest 69 = .ok (.goto 24, 3) := by decide +kernel
theorem dX4_isAtRest_72 : decode cX4_isAtRest 72 = .ok (.lload 7, 2) := by decide +kernel
theorem dX4_isAtRest_74 : decode cX4_isAtRest 74 = .ok (.ldc2_w 66, 3) := by decide +kernel
theorem dX4_isAtRest_77 : decode cX4_isAtRest 77 = .ok (.lcmp, 1) := by decide +kernel
theorem dX4_isAtRest_78 : decode cX4_isAtRest 78 = .ok (.ifCond .ge 19, 3) := by decide +kernel
theorem dX4_isAtRest_81 : decode cX4_isAtRest 81 = .ok (.lload 7, 2) := by decide +kernel
theorem dX4_isAtRest_83 : decode cX4_isAtRest 83 = .ok (.lload 5, 2) := by decide +kernel
theorem dX4_isAtRest_85 : decode cX4_isAtRest 85 = .ok (.invokestatic 81, 3) := by decide +kernel
theorem dX4_isAtRest_88 : decode cX4_isAtRest 88 = .ok (.i2l, 1) := by decide +kernel
theorem dX4_isAtRest_89 : decode cX4_isAtRest 89 = .ok (.lcmp, 1) := by decide +kernel
theorem dX4_isAtRest_90 : decode cX4_isAtRest 90 = .ok (.ifCond .ne 7, 3) := by decide +kernel
theorem dX4_isAtRest_93 : decode cX4_isAtRest 93 = .ok (.iconst 1, 1) := by decide +kernel
theorem dX4_isAtRest_94 : decode cX4_isAtRest 94 = .ok (.goto 4, 3) := by decide +kernel
theorem dX4_isAtRest_97 : decode cX4_isAtRest 97 = .ok (.iconst 0, 1) := by decide +kernel
theorem dX4_isAtRest_98 : decode cX4_isAtRest 98 = .ok (.istore_n 3, 1) := by decide +kernel
theorem dX4_isAtRest_99 : decode cX4_isAtRest 99 = .ok (.iinc 4 1, 3) := by decide +kernel
theorem dX4_isAtRest_102 : decode cX4_isAtRest 102 = .ok (.goto (-92), 3) := by decide +kernel
theorem dX4_isAtRest_105 : decode cX4_isAtRest 105 = .ok (.iload_n 3, 1) := by decide +kernel
theorem dX4_isAtRest_106 : decode cX4_isAtRest 106 = .ok (.ireturn, 1) := by decide +kernel
set_option maxRecDepth 20000 in
theorem ggX4_fewest_X4_findAll : GoodIn wsX4_fewest wsX4_findAll := goodIn_r _ [7, 1, 2, 8, 9, 10, 11, 12, 13, 14, 15, 16, 17, 6, 18, 19, 20, 21, 22, 23, 24, 25, 26, 27, 28, 29, 30, 31, 32, 33, 34, 35, 36, 37] (by decide +kernel) (by decide +kernel)
set_option maxRecDepth 20000 in
theorem gX4_fewest_X4_findAll : GoodIn wsX4_fewest (wsV RX4 93 RX4 yX4_findAll wsX4_findAll) := goodIn_app (goodIn_of _ (by decide +kernel)) ggX4_fewest_X4_findAll
theorem dX4_fewest_0 : decode cX4_fewest 0 = .ok (.iconst 1, 1) := by decide +kernel
theorem dX4_fewest_1 : decode cX4_fewest 1 = .ok (.istore_n 1, 1) := by decide +kernel
theorem dX4_fewest_2 : decode cX4_fewest 2 = .ok (.iload_n 1, 1) := by decide +kernel
theorem dX4_fewest_3 : decode cX4_fewest 3 = .ok (.aload_n 0, 1) := by decide +kernel
theorem dX4_fewest_4 : decode cX4_fewest 4 = .ok (.getfield 45, 3) := by decide +kernel
theorem dX4_fewest_7 : decode cX4_fewest 7 = .ok (.if_icmp .gt 48, 3) := by decide +kernel
theorem dX4_fewest_10 : decode cX4_fewest 10 = .ok (.aload_n 0, 1) := by decide +kernel
theorem dX4_fewest_11 : decode cX4_fewest 11 = .ok (.iload_n 1, 1) := by decide +kernel
theorem dX4_fewest_12 : decode cX4_fewest 12 = .ok (.invokevirtual 93, 3) := by decide +kernel
theorem dX4_fewest_15 : decode cX4_fewest 15 = .ok (.iconst 0, 1) := by decide +kernel
theorem dX4_fewest_16 : decode cX4_fewest 16 = .ok (.istore_n 2, 1) := by decide +kernel
theorem dX4_fewest_17 : decode cX4_fewest 17 = .ok (.iload_n 2, 1) := by decide +kernel
theorem dX4_fewest_18 : decode cX4_fewest 18 = .ok (.aload_n 0, 1) := by decide +kernel
theorem dX4_fewest_19 : decode cX4_fewest 19 = .ok (.getfield 45, 3) := by decide +kernel
theorem dX4_fewest_22 : decode cX4_fewest 22 = .ok (.if_icmp .ge 27, 3) := by decide +kernel
theorem dX4_fewest_25 : decode cX4_fewest 25 = .ok (.aload_n 0, 1) := by decide +kernel
theorem dX4_fewest_26 : decode cX4_fewest 26 = .ok (.getfield 30, 3) := by decide +kernel
theorem dX4_fewest_29 : decode cX4_fewest 29 = .ok (.bipush 12, 2) := by decide +kernel
theorem dX4_fewest_31 : decode cX4_fewest 31 = .ok (.iload_n 2, 1) := by decide +kernel
theorem dX4_fewest_32 : decode cX4_fewest 32 = .ok (.imul, 1) := by decide +kernel
theorem dX4_fewest_33 : decode cX4_fewest 33 = .ok (.iload_n 2, 1) := by decide +kernel
theorem dX4_fewest_34 : decode cX4_fewest 34 = .ok (.iadd, 1) := by decide +kernel
theorem dX4_fewest_35 : decode cX4_fewest 35 = .ok (.laload, 1) := by decide +kernel
theorem dX4_fewest_36 : decode cX4_fewest 36 = .ok (.lconst 0, 1) := by decide +kernel
theorem dX4_fewest_37 : decode cX4_fewest 37 = .ok (.lcmp, 1) := by decide +kernel
theorem dX4_fewest_38 : decode cX4_fewest 38 = .ok (.ifCond .ge 5, 3) := by decide +kernel
theorem dX4_fewest_41 : decode cX4_fewest 41 = .ok (.iload_n 1, 1) := by decide +kernel
theorem dX4_fewest_42 : decode cX4_fewest 42 = .ok (.ireturn, 1) := by decide +kernel
theorem dX4_fewest_43 : decode cX4_fewest 43 = .ok (.iinc 2 1, 3) := by decide +kernel
theorem dX4_fewest_46 : decode cX4_fewest 46 = .ok (.goto (-29), 3) := by decide +kernel
theorem dX4_fewest_49 : decode cX4_fewest 49 = .ok (.iinc 1 1, 3) := by decide +kernel
theorem dX4_fewest_52 : decode cX4_fewest 52 = .ok (.goto (-50), 3) := by decide +kernel
theorem dX4_fewest_55 : decode cX4_fewest 55 = .ok (.iconst 0, 1) := by decide +kernel
theorem dX4_fewest_56 : decode cX4_fewest 56 = .ok (.ireturn, 1) := by decide +kernel
set_option maxRecDepth 20000 in
theorem ggX4_findRing_X4_fewest : GoodIn wsX4_findRing wsX4_fewest := goodIn_r _ [10, 11, 12, 13, 14, 15, 9, 16, 17, 18, 19, 3, 5, 20, 4, 21, 22, 23, 24, 25, 26, 27, 28, 29, 34, 35, 36, 37, 38, 39, 40, 41, 42, 43, 44, 45, 46, 47] (by decide +kernel) (by decide +kernel)
set_option maxRecDepth 20000 in
theorem gX4_findRing_X4_fewest : GoodIn wsX4_findRing (wsV RX4 100 RX4 yX4_fewest wsX4_fewest) := goodIn_app (goodIn_of _ (by decide +kernel)) ggX4_findRing_X4_fewest
set_option maxRecDepth 20000 in
theorem ggX4_findRing_X4_findAll : GoodIn wsX4_findRing wsX4_findAll := goodIn_r _ [16, 11, 12, 17, 18, 19, 3, 5, 20, 4, 21, 22, 23, 9, 24, 25, 26, 27, 28, 29, 34, 35, 36, 37, 38, 39, 40, 41, 42, 43, 44, 45, 46, 47] (by decide +kernel) (by decide +kernel)
set_option maxRecDepth 20000 in
theorem gX4_findRing_X4_findAll : GoodIn wsX4_findRing (wsV RX4 93 RX4 yX4_findAll wsX4_findAll) := goodIn_app (goodIn_of _ (by decide +kernel)) ggX4_findRing_X4_findAll
set_option maxRecDepth 20000 in
theorem ggX4_findRing_X4_goesOn : GoodIn wsX4_findRing wsX4_goesOn := goodIn_r _ [33, 20, 3, 12, 5, 17, 4, 34, 35, 36, 37, 38, 39, 40, 41, 42, 43, 44, 45, 46, 47] (by decide +kernel) (by decide +kernel)
set_option maxRecDepth 20000 in
theorem gX4_findRing_X4_goesOn : GoodIn wsX4_findRing (wsV RX4 107 RX4 yX4_goesOn wsX4_goesOn) := goodIn_app (goodIn_of _ (by decide +kernel)) ggX4_findRing_X4_goesOn
theorem dX4_findRing_0 : decode cX4_findRing 0 = .ok (.aload_n 0, 1) := by decide +kernel
theorem dX4_findRing_1 : decode cX4_findRing 1 = .ok (.aload_n 0, 1) := by decide +kernel
theorem dX4_findRing_2 : decode cX4_findRing 2 = .ok (.invokevirtual 100, 3) := by decide +kernel
theorem dX4_findRing_5 : decode cX4_findRing 5 = .ok (.putfield 104, 3) := by decide +kernel
theorem dX4_findRing_8 : decode cX4_findRing 8 = .ok (.iconst (-1), 1) := by decide +kernel
theorem dX4_findRing_9 : decode cX4_findRing 9 = .ok (.istore_n 1, 1) := by decide +kernel
theorem dX4_findRing_10 : decode cX4_findRing 10 = .ok (.iconst (-1), 1) := by decide +kernel
theorem dX4_findRing_11 : decode cX4_findRing 11 = .ok (.istore_n 2, 1) := by decide +kernel
theorem dX4_findRing_12 : decode cX4_findRing 12 = .ok (.lconst 0, 1) := by decide +kernel
theorem dX4_findRing_13 : decode cX4_findRing 13 = .ok (.lstore_n 3, 1) := by decide +kernel
theorem dX4_findRing_14 : decode cX4_findRing 14 = .ok (.iconst 0, 1) := by decide +kernel
theorem dX4_findRing_15 : decode cX4_findRing 15 = .ok (.istore 5, 2) := by decide +kernel
theorem dX4_findRing_17 : decode cX4_findRing 17 = .ok (.iload 5, 2) := by decide +kernel
theorem dX4_findRing_19 : decode cX4_findRing 19 = .ok (.aload_n 0, 1) := by decide +kernel
theorem dX4_findRing_20 : decode cX4_findRing 20 = .ok (.getfield 104, 3) := by decide +kernel
theorem dX4_findRing_23 : decode cX4_findRing 23 = .ok (.if_icmp .ge 88, 3) := by decide +kernel
theorem dX4_findRing_26 : decode cX4_findRing 26 = .ok (.aload_n 0, 1) := by decide +kernel
theorem dX4_findRing_27 : decode cX4_findRing 27 = .ok (.aload_n 0, 1) := by decide +kernel
theorem dX4_findRing_28 : decode cX4_findRing 28 = .ok (.getfield 104, 3) := by decide +kernel
theorem dX4_findRing_31 : decode cX4_findRing 31 = .ok (.iconst 1, 1) := by decide +kernel
theorem dX4_findRing_32 : decode cX4_findRing 32 = .ok (.isub, 1) := by decide +kernel
theorem dX4_findRing_33 : decode cX4_findRing 33 = .ok (.iload 5, 2) := by decide +kernel
theorem dX4_findRing_35 : decode cX4_findRing 35 = .ok (.isub, 1) := by decide +kernel
theorem dX4_findRing_36 : decode cX4_findRing 36 = .ok (.invokevirtual 93, 3) := by decide +kernel
theorem dX4_findRing_39 : decode cX4_findRing 39 = .ok (.iconst 0, 1) := by decide +kernel
theorem dX4_findRing_40 : decode cX4_findRing 40 = .ok (.istore 6, 2) := by decide +kernel
theorem dX4_findRing_42 : decode cX4_findRing 42 = .ok (.aload_n 0, 1) := by decide +kernel
theorem dX4_findRing_43 : decode cX4_findRing 43 = .ok (.iload 6, 2) := by decide +kernel
theorem dX4_findRing_45 : decode cX4_findRing 45 = .ok (.iload_n 1, 1) := by decide +kernel
theorem dX4_findRing_46 : decode cX4_findRing 46 = .ok (.iload_n 2, 1) := by decide +kernel
theorem dX4_findRing_47 : decode cX4_findRing 47 = .ok (.lload_n 3, 1) := by decide +kernel
theorem dX4_findRing_48 : decode cX4_findRing 48 = .ok (.invokevirtual 107, 3) := by decide +kernel
theorem dX4_findRing_51 : decode cX4_findRing 51 = .ok (.ifCond .ne 9, 3) := by decide +kernel
theorem dX4_findRing_54 : decode cX4_findRing 54 = .ok (.iinc 6 1, 3) := by decide +kernel
theorem dX4_findRing_57 : decode cX4_findRing 57 = .ok (.goto (-15), 3) := by decide +kernel
theorem dX4_findRing_60 : decode cX4_findRing 60 = .ok (.aload_n 0, 1) := by decide +kernel
theorem dX4_findRing_61 : decode cX4_findRing 61 = .ok (.getfield 39, 3) := by decide +kernel
theorem dX4_findRing_64 : decode cX4_findRing 64 = .ok (.iload 5, 2) := by decide +kernel
theorem dX4_findRing_66 : decode cX4_findRing 66 = .ok (.iload 6, 2) := by decide +kernel
theorem dX4_findRing_68 : decode cX4_findRing 68 = .ok (.iastore, 1) := by decide +kernel
theorem dX4_findRing_69 : decode cX4_findRing 69 = .ok (.iload_n 1, 1) := by decide +kernel
theorem dX4_findRing_70 : decode cX4_findRing 70 = .ok (.iconst (-1), 1) := by decide +kernel
theorem dX4_findRing_71 : decode cX4_findRing 71 = .ok (.if_icmp .ne 13, 3) := by decide +kernel
theorem dX4_findRing_74 : decode cX4_findRing 74 = .ok (.aload_n 0, 1) := by decide +kernel
theorem dX4_findRing_75 : decode cX4_findRing 75 = .ok (.getfield 7, 3) := by decide +kernel
theorem dX4_findRing_78 : decode cX4_findRing 78 = .ok (.iload 6, 2) := by decide +kernel
theorem dX4_findRing_80 : decode cX4_findRing 80 = .ok (.iaload, 1) := by decide +kernel
theorem dX4_findRing_81 : decode cX4_findRing 81 = .ok (.goto 4, 3) := by decide +kernel
theorem dX4_findRing_84 : decode cX4_findRing 84 = .ok (.iload_n 1, 1) := by decide +kernel
theorem dX4_findRing_85 : decode cX4_findRing 85 = .ok (.istore_n 1, 1) := by decide +kernel
theorem dX4_findRing_86 : decode cX4_findRing 86 = .ok (.lload_n 3, 1) := by decide +kernel
theorem dX4_findRing_87 : decode cX4_findRing 87 = .ok (.aload_n 0, 1) := by decide +kernel
theorem dX4_findRing_88 : decode cX4_findRing 88 = .ok (.getfield 16, 3) := by decide +kernel
theorem dX4_findRing_91 : decode cX4_findRing 91 = .ok (.iload 6, 2) := by decide +kernel
theorem dX4_findRing_93 : decode cX4_findRing 93 = .ok (.iaload, 1) := by decide +kernel
theorem dX4_findRing_94 : decode cX4_findRing 94 = .ok (.i2l, 1) := by decide +kernel
theorem dX4_findRing_95 : decode cX4_findRing 95 = .ok (.ladd, 1) := by decide +kernel
theorem dX4_findRing_96 : decode cX4_findRing 96 = .ok (.lstore_n 3, 1) := by decide +kernel
theorem dX4_findRing_97 : decode cX4_findRing 97 = .ok (.aload_n 0, 1) := by decide +kernel
theorem dX4_findRing_98 : decode cX4_findRing 98 = .ok (.getfield 13, 3) := by decide +kernel
theorem dX4_findRing_101 : decode cX4_findRing 101 = .ok (.iload 6, 2) := by decide +kernel
theorem dX4_findRing_103 : decode cX4_findRing 103 = .ok (.iaload, 1) := by decide +kernel
theorem dX4_findRing_104 : decode cX4_findRing 104 = .ok (.istore_n 2, 1) := by decide +kernel
theorem dX4_findRing_105 : decode cX4_findRing 105 = .ok (.iinc 5 1, 3) := by decide +kernel
theorem dX4_findRing_108 : decode cX4_findRing 108 = .ok (.goto (-91), 3) := by decide +kernel
theorem dX4_findRing_111 : decode cX4_findRing 111 = .ok (.return_, 1) := by decide +kernel
theorem dX4_goesOn_0 : decode cX4_goesOn 0 = .ok (.aload_n 0, 1) := by decide +kernel
theorem dX4_goesOn_1 : decode cX4_goesOn 1 = .ok (.getfield 19, 3) := by decide +kernel
theorem dX4_goesOn_4 : decode cX4_goesOn 4 = .ok (.iload_n 1, 1) := by decide +kernel
theorem dX4_goesOn_5 : decode cX4_goesOn 5 = .ok (.baload, 1) := by decide +kernel
theorem dX4_goesOn_6 : decode cX4_goesOn 6 = .ok (.ifCond .eq 18, 3) := by decide +kernel
theorem dX4_goesOn_9 : decode cX4_goesOn 9 = .ok (.iload_n 3, 1) := by decide +kernel
theorem dX4_goesOn_10 : decode cX4_goesOn 10 = .ok (.iconst (-1), 1) := by decide +kernel
theorem dX4_goesOn_11 : decode cX4_goesOn 11 = .ok (.if_icmp .eq 15, 3) := by decide +kernel
theorem dX4_goesOn_14 : decode cX4_goesOn 14 = .ok (.aload_n 0, 1) := by decide +kernel
theorem dX4_goesOn_15 : decode cX4_goesOn 15 = .ok (.getfield 7, 3) := by decide +kernel
theorem dX4_goesOn_18 : decode cX4_goesOn 18 = .ok (.iload_n 1, 1) := by decide +kernel
theorem dX4_goesOn_19 : decode cX4_goesOn 19 = .ok (.iaload, 1) := by decide +kernel
theorem dX4_goesOn_20 : decode cX4_goesOn 20 = .ok (.iload_n 3, 1) := by decide +kernel
theorem dX4_goesOn_21 : decode cX4_goesOn 21 = .ok (.if_icmp .eq 5, 3) := by decide +kernel
theorem dX4_goesOn_24 : decode cX4_goesOn 24 = .ok (.iconst 0, 1) := by decide +kernel
theorem dX4_goesOn_25 : decode cX4_goesOn 25 = .ok (.ireturn, 1) := by decide +kernel
theorem dX4_goesOn_26 : decode cX4_goesOn 26 = .ok (.aload_n 0, 1) := by decide +kernel
theorem dX4_goesOn_27 : decode cX4_goesOn 27 = .ok (.getfield 30, 3) := by decide +kernel
theorem dX4_goesOn_30 : decode cX4_goesOn 30 = .ok (.bipush 12, 2) := by decide +kernel
theorem dX4_goesOn_32 : decode cX4_goesOn 32 = .ok (.aload_n 0, 1) := by decide +kernel
theorem dX4_goesOn_33 : decode cX4_goesOn 33 = .ok (.getfield 13, 3) := by decide +kernel
theorem dX4_goesOn_36 : decode cX4_goesOn 36 = .ok (.iload_n 1, 1) := by decide +kernel
theorem dX4_goesOn_37 : decode cX4_goesOn 37 = .ok (.iaload, 1) := by decide +kernel
theorem dX4_goesOn_38 : decode cX4_goesOn 38 = .ok (.imul, 1) := by decide +kernel
theorem dX4_goesOn_39 : decode cX4_goesOn 39 = .ok (.iload_n 2, 1) := by decide +kernel
theorem dX4_goesOn_40 : decode cX4_goesOn 40 = .ok (.iconst (-1), 1) := by decide +kernel
theorem dX4_goesOn_41 : decode cX4_goesOn 41 = .ok (.if_icmp .ne 12, 3) := by decide +kernel
theorem dX4_goesOn_44 : decode cX4_goesOn 44 = .ok (.aload_n 0, 1) := by decide +kernel
theorem dX4_goesOn_45 : decode cX4_goesOn 45 = .ok (.getfield 7, 3) := by decide +kernel
theorem dX4_goesOn_48 : decode cX4_goesOn 48 = .ok (.iload_n 1, 1) := by decide +kernel
theorem dX4_goesOn_49 : decode cX4_goesOn 49 = .ok (.iaload, 1) := by decide +kernel
theorem dX4_goesOn_50 : decode cX4_goesOn 50 = .ok (.goto 4, 3) := by decide +kernel
theorem dX4_goesOn_53 : decode cX4_goesOn 53 = .ok (.iload_n 2, 1) := by decide +kernel
theorem dX4_goesOn_54 : decode cX4_goesOn 54 = .ok (.iadd, 1) := by decide +kernel
theorem dX4_goesOn_55 : decode cX4_goesOn 55 = .ok (.laload, 1) := by decide +kernel
theorem dX4_goesOn_56 : decode cX4_goesOn 56 = .ok (.lstore 6, 2) := by decide +kernel
theorem dX4_goesOn_58 : decode cX4_goesOn 58 = .ok (.lload 6, 2) := by decide +kernel
theorem dX4_goesOn_60 : decode cX4_goesOn 60 = .ok (.ldc2_w 66, 3) := by decide +kernel
theorem dX4_goesOn_63 : decode cX4_goesOn 63 = .ok (.lcmp, 1) := by decide +kernel
theorem dX4_goesOn_64 : decode cX4_goesOn 64 = .ok (.ifCond .ge 25, 3) := by decide +kernel
theorem dX4_goesOn_67 : decode cX4_goesOn 67 = .ok (.lload 4, 2) := by decide +kernel
theorem dX4_goesOn_69 : decode cX4_goesOn 69 = .ok (.aload_n 0, 1) := by decide +kernel
theorem dX4_goesOn_70 : decode cX4_goesOn 70 = .ok (.getfield 16, 3) := by decide +kernel
theorem dX4_goesOn_73 : decode cX4_goesOn 73 = .ok (.iload_n 1, 1) := by decide +kernel
theorem dX4_goesOn_74 : decode cX4_goesOn 74 = .ok (.iaload, 1) := by decide +kernel
theorem dX4_goesOn_75 : decode cX4_goesOn 75 = .ok (.i2l, 1) := by decide +kernel
theorem dX4_goesOn_76 : decode cX4_goesOn 76 = .ok (.ladd, 1) := by decide +kernel
theorem dX4_goesOn_77 : decode cX4_goesOn 77 = .ok (.lload 6, 2) := by decide +kernel
theorem dX4_goesOn_79 : decode cX4_goesOn 79 = .ok (.ladd, 1) := by decide +kernel
theorem dX4_goesOn_80 : decode cX4_goesOn 80 = .ok (.lconst 0, 1) := by decide +kernel
theorem dX4_goesOn_81 : decode cX4_goesOn 81 = .ok (.lcmp, 1) := by decide +kernel
theorem dX4_goesOn_82 : decode cX4_goesOn 82 = .ok (.ifCond .ge 7, 3) := by decide +kernel
theorem dX4_goesOn_85 : decode cX4_goesOn 85 = .ok (.iconst 1, 1) := by decide +kernel
theorem dX4_goesOn_86 : decode cX4_goesOn 86 = .ok (.goto 4, 3) := by decide +kernel
theorem dX4_goesOn_89 : decode cX4_goesOn 89 = .ok (.iconst 0, 1) := by decide +kernel
theorem dX4_goesOn_90 : decode cX4_goesOn 90 = .ok (.ireturn, 1) := by decide +kernel
set_option maxRecDepth 20000 in
theorem ggX4_falling_X4_findRing : GoodIn wsX4_falling wsX4_findRing := goodIn_r _ [6, 1, 7, 8, 9, 10, 11, 12, 13, 5, 14, 15, 16, 17, 18, 19, 20, 21, 22, 23, 24, 25, 26, 27, 28, 29, 30, 31, 32, 33, 34, 35, 36, 37, 38, 39, 40, 41, 42, 43, 44, 45, 46, 47, 48, 49, 50, 51] (by decide +kernel) (by decide +kernel)
set_option maxRecDepth 20000 in
theorem gX4_falling_X4_findRing : GoodIn wsX4_falling (wsV RX4 111 RX4 yX4_findRing wsX4_findRing) := goodIn_app (goodIn_of _ (by decide +kernel)) ggX4_falling_X4_findRing
theorem dX4_falling_0 : decode cX4_falling 0 = .ok (.aload_n 0, 1) := by decide +kernel
theorem dX4_falling_1 : decode cX4_falling 1 = .ok (.invokevirtual 111, 3) := by decide +kernel
theorem dX4_falling_4 : decode cX4_falling 4 = .ok (.aload_n 0, 1) := by decide +kernel
theorem dX4_falling_5 : decode cX4_falling 5 = .ok (.getfield 104, 3) := by decide +kernel
theorem dX4_falling_8 : decode cX4_falling 8 = .ok (.ireturn, 1) := by decide +kernel
set_option maxRecDepth 20000 in
theorem ggX4_ring_X4_findRing : GoodIn wsX4_ring wsX4_findRing := goodIn_r _ [7, 1, 2, 8, 9, 10, 11, 12, 13, 6, 14, 15, 16, 17, 18, 19, 20, 21, 22, 23, 24, 25, 26, 27, 28, 29, 30, 31, 32, 33, 34, 35, 36, 37, 41, 42, 43, 44, 45, 46, 47, 48, 49, 50, 51, 52, 53, 54] (by decide +kernel) (by decide +kernel)
set_option maxRecDepth 20000 in
theorem gX4_ring_X4_findRing : GoodIn wsX4_ring (wsV RX4 111 RX4 yX4_findRing wsX4_findRing) := goodIn_app (goodIn_of _ (by decide +kernel)) ggX4_ring_X4_findRing
set_option maxRecDepth 20000 in
theorem ggX4_ring_X4_isIn : GoodIn wsX4_ring wsX4_isIn := goodIn_r _ [40] (by decide +kernel) (by decide +kernel)
set_option maxRecDepth 20000 in
theorem gX4_ring_X4_isIn : GoodIn wsX4_ring (va_wsS RX4 49 yX4_isIn wsX4_isIn) := goodIn_app (goodIn_of _ (by decide +kernel)) ggX4_ring_X4_isIn
theorem dX4_ring_0 : decode cX4_ring 0 = .ok (.aload_n 0, 1) := by decide +kernel
theorem dX4_ring_1 : decode cX4_ring 1 = .ok (.invokevirtual 111, 3) := by decide +kernel
theorem dX4_ring_4 : decode cX4_ring 4 = .ok (.iload_n 1, 1) := by decide +kernel
theorem dX4_ring_5 : decode cX4_ring 5 = .ok (.iconst 0, 1) := by decide +kernel
theorem dX4_ring_6 : decode cX4_ring 6 = .ok (.aload_n 0, 1) := by decide +kernel
theorem dX4_ring_7 : decode cX4_ring 7 = .ok (.getfield 104, 3) := by decide +kernel
theorem dX4_ring_10 : decode cX4_ring 10 = .ok (.iconst 1, 1) := by decide +kernel
theorem dX4_ring_11 : decode cX4_ring 11 = .ok (.isub, 1) := by decide +kernel
theorem dX4_ring_12 : decode cX4_ring 12 = .ok (.invokestatic 49, 3) := by decide +kernel
theorem dX4_ring_15 : decode cX4_ring 15 = .ok (.ifCond .eq 12, 3) := by decide +kernel
theorem dX4_ring_18 : decode cX4_ring 18 = .ok (.aload_n 0, 1) := by decide +kernel
theorem dX4_ring_19 : decode cX4_ring 19 = .ok (.getfield 39, 3) := by decide +kernel
theorem dX4_ring_22 : decode cX4_ring 22 = .ok (.iload_n 1, 1) := by decide +kernel
theorem dX4_ring_23 : decode cX4_ring 23 = .ok (.iaload, 1) := by decide +kernel
theorem dX4_ring_24 : decode cX4_ring 24 = .ok (.goto 4, 3) := by decide +kernel
theorem dX4_ring_27 : decode cX4_ring 27 = .ok (.iconst (-1), 1) := by decide +kernel
theorem dX4_ring_28 : decode cX4_ring 28 = .ok (.ireturn, 1) := by decide +kernel
set_option maxRecDepth 20000 in
theorem ggX4_heightOf_X4_weightIn : GoodIn wsX4_heightOf wsX4_weightIn := goodIn_r _ [6, 7] (by decide +kernel) (by decide +kernel)
set_option maxRecDepth 20000 in
theorem gX4_heightOf_X4_weightIn : GoodIn wsX4_heightOf (va_wsS RX4 81 yX4_weightIn wsX4_weightIn) := goodIn_app (goodIn_of _ (by decide +kernel)) ggX4_heightOf_X4_weightIn
theorem dX4_heightOf_0 : decode cX4_heightOf 0 = .ok (.lconst 0, 1) := by decide +kernel
theorem dX4_heightOf_1 : decode cX4_heightOf 1 = .ok (.lstore_n 2, 1) := by decide +kernel
theorem dX4_heightOf_2 : decode cX4_heightOf 2 = .ok (.iconst 0, 1) := by decide +kernel
theorem dX4_heightOf_3 : decode cX4_heightOf 3 = .ok (.istore 4, 2) := by decide +kernel
theorem dX4_heightOf_5 : decode cX4_heightOf 5 = .ok (.iload 4, 2) := by decide +kernel
theorem dX4_heightOf_7 : decode cX4_heightOf 7 = .ok (.aload_n 0, 1) := by decide +kernel
theorem dX4_heightOf_8 : decode cX4_heightOf 8 = .ok (.getfield 45, 3) := by decide +kernel
theorem dX4_heightOf_11 : decode cX4_heightOf 11 = .ok (.if_icmp .ge 43, 3) := by decide +kernel
theorem dX4_heightOf_14 : decode cX4_heightOf 14 = .ok (.aload_n 0, 1) := by decide +kernel
theorem dX4_heightOf_15 : decode cX4_heightOf 15 = .ok (.getfield 23, 3) := by decide +kernel
theorem dX4_heightOf_18 : decode cX4_heightOf 18 = .ok (.bipush 12, 2) := by decide +kernel
theorem dX4_heightOf_20 : decode cX4_heightOf 20 = .ok (.iload 4, 2) := by decide +kernel
theorem dX4_heightOf_22 : decode cX4_heightOf 22 = .ok (.imul, 1) := by decide +kernel
theorem dX4_heightOf_23 : decode cX4_heightOf 23 = .ok (.iload_n 1, 1) := by decide +kernel
theorem dX4_heightOf_24 : decode cX4_heightOf 24 = .ok (.iadd, 1) := by decide +kernel
theorem dX4_heightOf_25 : decode cX4_heightOf 25 = .ok (.laload, 1) := by decide +kernel
theorem dX4_heightOf_26 : decode cX4_heightOf 26 = .ok (.lload_n 2, 1) := by decide +kernel
theorem dX4_heightOf_27 : decode cX4_heightOf 27 = .ok (.lcmp, 1) := by decide +kernel
theorem dX4_heightOf_28 : decode cX4_heightOf 28 = .ok (.ifCond .ge 18, 3) := by decide +kernel
theorem dX4_heightOf_31 : decode cX4_heightOf 31 = .ok (.aload_n 0, 1) := by decide +kernel
theorem dX4_heightOf_32 : decode cX4_heightOf 32 = .ok (.getfield 23, 3) := by decide +kernel
theorem dX4_heightOf_35 : decode cX4_heightOf 35 = .ok (.bipush 12, 2) := by decide +kernel
theorem dX4_heightOf_37 : decode cX4_heightOf 37 = .ok (.iload 4, 2) := by decide +kernel
theorem dX4_heightOf_39 : decode cX4_heightOf 39 = .ok (.imul, 1) := by decide +kernel
theorem dX4_heightOf_40 : decode cX4_heightOf 40 = .ok (.iload_n 1, 1) := by decide +kernel
theorem dX4_heightOf_41 : decode cX4_heightOf 41 = .ok (.iadd, 1) := by decide +kernel
theorem dX4_heightOf_42 : decode cX4_heightOf 42 = .ok (.laload, 1) := by decide +kernel
theorem dX4_heightOf_43 : decode cX4_heightOf 43 = .ok (.goto 4, 3) := by decide +kernel
theorem dX4_heightOf_46 : decode cX4_heightOf 46 = .ok (.lload_n 2, 1) := by decide +kernel
theorem dX4_heightOf_47 : decode cX4_heightOf 47 = .ok (.lstore_n 2, 1) := by decide +kernel
theorem dX4_heightOf_48 : decode cX4_heightOf 48 = .ok (.iinc 4 1, 3) := by decide +kernel
theorem dX4_heightOf_51 : decode cX4_heightOf 51 = .ok (.goto (-46), 3) := by decide +kernel
theorem dX4_heightOf_54 : decode cX4_heightOf 54 = .ok (.lload_n 2, 1) := by decide +kernel
theorem dX4_heightOf_55 : decode cX4_heightOf 55 = .ok (.invokestatic 81, 3) := by decide +kernel
theorem dX4_heightOf_58 : decode cX4_heightOf 58 = .ok (.ireturn, 1) := by decide +kernel
set_option maxRecDepth 20000 in
theorem ggX4_height_X4_isNode : GoodIn wsX4_height wsX4_isNode := goodIn_r _ [7, 8, 9, 10, 6, 11, 36, 37, 38, 39, 40, 41, 42, 43, 44, 45, 46, 47, 48, 49] (by decide +kernel) (by decide +kernel)
set_option maxRecDepth 20000 in
theorem gX4_height_X4_isNode : GoodIn wsX4_height (wsV RX4 57 RX4 yX4_isNode wsX4_isNode) := goodIn_app (goodIn_of _ (by decide +kernel)) ggX4_height_X4_isNode
set_option maxRecDepth 20000 in
theorem ggX4_height_X4_isFalling : GoodIn wsX4_height wsX4_isFalling := goodIn_r _ [15, 8, 16, 17, 18, 19, 6, 20, 21, 22, 23, 24, 25, 26, 27, 28, 36, 37, 38, 39, 40, 41, 42, 43, 44, 45, 46, 47, 48, 49] (by decide +kernel) (by decide +kernel)
set_option maxRecDepth 20000 in
theorem gX4_height_X4_isFalling : GoodIn wsX4_height (wsV RX4 114 RX4 yX4_isFalling wsX4_isFalling) := goodIn_app (goodIn_of _ (by decide +kernel)) ggX4_height_X4_isFalling
set_option maxRecDepth 20000 in
theorem ggX4_height_X4_heightOf : GoodIn wsX4_height wsX4_heightOf := goodIn_r _ [32, 8, 16, 33, 34, 6, 35, 25, 36, 37, 38, 39, 40, 41, 42, 43, 44, 45, 46, 47, 48, 49] (by decide +kernel) (by decide +kernel)
set_option maxRecDepth 20000 in
theorem gX4_height_X4_heightOf : GoodIn wsX4_height (wsV RX4 119 RX4 yX4_heightOf wsX4_heightOf) := goodIn_app (goodIn_of _ (by decide +kernel)) ggX4_height_X4_heightOf
theorem dX4_height_0 : decode cX4_height 0 = .ok (.aload_n 0, 1) := by decide +kernel
theorem dX4_height_1 : decode cX4_height 1 = .ok (.iload_n 1, 1) := by decide +kernel
theorem dX4_height_2 : decode cX4_height 2 = .ok (.invokevirtual 57, 3) := by decide +kernel
theorem dX4_height_5 : decode cX4_height 5 = .ok (.ifCond .ne 6, 3) := by decide +kernel
theorem dX4_height_8 : decode cX4_height 8 = .ok (.ldc 61, 2) := by decide +kernel
theorem dX4_height_10 : decode cX4_height 10 = .ok (.ireturn, 1) := by decide +kernel
theorem dX4_height_11 : decode cX4_height 11 = .ok (.aload_n 0, 1) := by decide +kernel
theorem dX4_height_12 : decode cX4_height 12 = .ok (.invokevirtual 114, 3) := by decide +kernel
theorem dX4_height_15 : decode cX4_height 15 = .ok (.ifCond .eq 8, 3) := by decide +kernel
theorem dX4_height_18 : decode cX4_height 18 = .ok (.ldc 118, 2) := by decide +kernel
theorem dX4_height_20 : decode cX4_height 20 = .ok (.goto 8, 3) := by decide +kernel
theorem dX4_height_23 : decode cX4_height 23 = .ok (.aload_n 0, 1) := by decide +kernel
theorem dX4_height_24 : decode cX4_height 24 = .ok (.iload_n 1, 1) := by decide +kernel
theorem dX4_height_25 : decode cX4_height 25 = .ok (.invokevirtual 119, 3) := by decide +kernel
theorem dX4_height_28 : decode cX4_height 28 = .ok (.ireturn, 1) := by decide +kernel
set_option maxRecDepth 20000 in
theorem ggX4_lifted_X4_isArc : GoodIn wsX4_lifted wsX4_isArc := goodIn_r _ [11, 12, 13, 14, 10, 15, 36, 37, 38, 39, 40, 41, 42, 43, 44, 45, 46, 47, 48, 49] (by decide +kernel) (by decide +kernel)
set_option maxRecDepth 20000 in
theorem gX4_lifted_X4_isArc : GoodIn wsX4_lifted (wsV RX4 63 RX4 yX4_isArc wsX4_isArc) := goodIn_app (goodIn_of _ (by decide +kernel)) ggX4_lifted_X4_isArc
set_option maxRecDepth 20000 in
theorem ggX4_lifted_X4_isFalling : GoodIn wsX4_lifted wsX4_isFalling := goodIn_r _ [19, 20, 21, 22, 23, 24, 10, 25, 26, 12, 5, 6, 27, 4, 2, 28, 36, 37, 38, 39, 40, 41, 42, 43, 44, 45, 46, 47, 48, 49] (by decide +kernel) (by decide +kernel)
set_option maxRecDepth 20000 in
theorem gX4_lifted_X4_isFalling : GoodIn wsX4_lifted (wsV RX4 114 RX4 yX4_isFalling wsX4_isFalling) := goodIn_app (goodIn_of _ (by decide +kernel)) ggX4_lifted_X4_isFalling
set_option maxRecDepth 20000 in
theorem ggX4_lifted_X4_heightOf : GoodIn wsX4_lifted wsX4_heightOf := goodIn_r _ [32, 20, 21, 33, 34, 10, 35, 27, 36, 37, 38, 39, 40, 41, 42, 43, 44, 45, 46, 47, 48, 49] (by decide +kernel) (by decide +kernel)
set_option maxRecDepth 20000 in
theorem gX4_lifted_X4_heightOf : GoodIn wsX4_lifted (wsV RX4 119 RX4 yX4_heightOf wsX4_heightOf) := goodIn_app (goodIn_of _ (by decide +kernel)) ggX4_lifted_X4_heightOf
theorem dX4_lifted_0 : decode cX4_lifted 0 = .ok (.aload_n 0, 1) := by decide +kernel
theorem dX4_lifted_1 : decode cX4_lifted 1 = .ok (.iload_n 1, 1) := by decide +kernel
theorem dX4_lifted_2 : decode cX4_lifted 2 = .ok (.invokevirtual 63, 3) := by decide +kernel
theorem dX4_lifted_5 : decode cX4_lifted 5 = .ok (.ifCond .ne 6, 3) := by decide +kernel
theorem dX4_lifted_8 : decode cX4_lifted 8 = .ok (.ldc 61, 2) := by decide +kernel
theorem dX4_lifted_10 : decode cX4_lifted 10 = .ok (.ireturn, 1) := by decide +kernel
theorem dX4_lifted_11 : decode cX4_lifted 11 = .ok (.aload_n 0, 1) := by decide +kernel
theorem dX4_lifted_12 : decode cX4_lifted 12 = .ok (.invokevirtual 114, 3) := by decide +kernel
theorem dX4_lifted_15 : decode cX4_lifted 15 = .ok (.ifCond .ne 12, 3) := by decide +kernel
theorem dX4_lifted_18 : decode cX4_lifted 18 = .ok (.aload_n 0, 1) := by decide +kernel
theorem dX4_lifted_19 : decode cX4_lifted 19 = .ok (.getfield 19, 3) := by decide +kernel
theorem dX4_lifted_22 : decode cX4_lifted 22 = .ok (.iload_n 1, 1) := by decide +kernel
theorem dX4_lifted_23 : decode cX4_lifted 23 = .ok (.baload, 1) := by decide +kernel
theorem dX4_lifted_24 : decode cX4_lifted 24 = .ok (.ifCond .ne 8, 3) := by decide +kernel
theorem dX4_lifted_27 : decode cX4_lifted 27 = .ok (.ldc 118, 2) := by decide +kernel
theorem dX4_lifted_29 : decode cX4_lifted 29 = .ok (.goto 31, 3) := by decide +kernel
theorem dX4_lifted_32 : decode cX4_lifted 32 = .ok (.aload_n 0, 1) := by decide +kernel
theorem dX4_lifted_33 : decode cX4_lifted 33 = .ok (.getfield 16, 3) := by decide +kernel
theorem dX4_lifted_36 : decode cX4_lifted 36 = .ok (.iload_n 1, 1) := by decide +kernel
theorem dX4_lifted_37 : decode cX4_lifted 37 = .ok (.iaload, 1) := by decide +kernel
theorem dX4_lifted_38 : decode cX4_lifted 38 = .ok (.aload_n 0, 1) := by decide +kernel
theorem dX4_lifted_39 : decode cX4_lifted 39 = .ok (.aload_n 0, 1) := by decide +kernel
theorem dX4_lifted_40 : decode cX4_lifted 40 = .ok (.getfield 7, 3) := by decide +kernel
theorem dX4_lifted_43 : decode cX4_lifted 43 = .ok (.iload_n 1, 1) := by decide +kernel
theorem dX4_lifted_44 : decode cX4_lifted 44 = .ok (.iaload, 1) := by decide +kernel
theorem dX4_lifted_45 : decode cX4_lifted 45 = .ok (.invokevirtual 119, 3) := by decide +kernel
theorem dX4_lifted_48 : decode cX4_lifted 48 = .ok (.iadd, 1) := by decide +kernel
theorem dX4_lifted_49 : decode cX4_lifted 49 = .ok (.aload_n 0, 1) := by decide +kernel
theorem dX4_lifted_50 : decode cX4_lifted 50 = .ok (.aload_n 0, 1) := by decide +kernel
theorem dX4_lifted_51 : decode cX4_lifted 51 = .ok (.getfield 13, 3) := by decide +kernel
theorem dX4_lifted_54 : decode cX4_lifted 54 = .ok (.iload_n 1, 1) := by decide +kernel
theorem dX4_lifted_55 : decode cX4_lifted 55 = .ok (.iaload, 1) := by decide +kernel
theorem dX4_lifted_56 : decode cX4_lifted 56 = .ok (.invokevirtual 119, 3) := by decide +kernel
theorem dX4_lifted_59 : decode cX4_lifted 59 = .ok (.isub, 1) := by decide +kernel
theorem dX4_lifted_60 : decode cX4_lifted 60 = .ok (.ireturn, 1) := by decide +kernel
set_option maxRecDepth 20000 in
theorem ggX4_spare_X4_isArc : GoodIn wsX4_spare wsX4_isArc := goodIn_r _ [14, 15, 16, 17, 13, 18, 33, 34, 35, 36, 37, 38, 39, 40, 41, 42, 43, 44, 45, 46] (by decide +kernel) (by decide +kernel)
set_option maxRecDepth 20000 in
theorem gX4_spare_X4_isArc : GoodIn wsX4_spare (wsV RX4 63 RX4 yX4_isArc wsX4_isArc) := goodIn_app (goodIn_of _ (by decide +kernel)) ggX4_spare_X4_isArc
set_option maxRecDepth 20000 in
theorem ggX4_spare_X4_isFalling : GoodIn wsX4_spare wsX4_isFalling := goodIn_r _ [22, 23, 4, 24, 25, 26, 13, 27, 7, 15, 6, 5, 28, 9, 2, 29, 33, 34, 35, 36, 37, 38, 39, 40, 41, 42, 43, 44, 45, 46] (by decide +kernel) (by decide +kernel)
set_option maxRecDepth 20000 in
theorem gX4_spare_X4_isFalling : GoodIn wsX4_spare (wsV RX4 114 RX4 yX4_isFalling wsX4_isFalling) := goodIn_app (goodIn_of _ (by decide +kernel)) ggX4_spare_X4_isFalling
set_option maxRecDepth 20000 in
theorem ggX4_spare_X4_weightIn : GoodIn wsX4_spare wsX4_weightIn := goodIn_r _ [32, 28] (by decide +kernel) (by decide +kernel)
set_option maxRecDepth 20000 in
theorem gX4_spare_X4_weightIn : GoodIn wsX4_spare (va_wsS RX4 81 yX4_weightIn wsX4_weightIn) := goodIn_app (goodIn_of _ (by decide +kernel)) ggX4_spare_X4_weightIn
theorem dX4_spare_0 : decode cX4_spare 0 = .ok (.aload_n 0, 1) := by decide +kernel
theorem dX4_spare_1 : decode cX4_spare 1 = .ok (.iload_n 1, 1) := by decide +kernel
theorem dX4_spare_2 : decode cX4_spare 2 = .ok (.invokevirtual 63, 3) := by decide +kernel
theorem dX4_spare_5 : decode cX4_spare 5 = .ok (.ifCond .ne 6, 3) := by decide +kernel
theorem dX4_spare_8 : decode cX4_spare 8 = .ok (.ldc 61, 2) := by decide +kernel
theorem dX4_spare_10 : decode cX4_spare 10 = .ok (.ireturn, 1) := by decide +kernel
theorem dX4_spare_11 : decode cX4_spare 11 = .ok (.aload_n 0, 1) := by decide +kernel
theorem dX4_spare_12 : decode cX4_spare 12 = .ok (.invokevirtual 114, 3) := by decide +kernel
theorem dX4_spare_15 : decode cX4_spare 15 = .ok (.ifCond .ne 12, 3) := by decide +kernel
theorem dX4_spare_18 : decode cX4_spare 18 = .ok (.aload_n 0, 1) := by decide +kernel
theorem dX4_spare_19 : decode cX4_spare 19 = .ok (.getfield 19, 3) := by decide +kernel
theorem dX4_spare_22 : decode cX4_spare 22 = .ok (.iload_n 1, 1) := by decide +kernel
theorem dX4_spare_23 : decode cX4_spare 23 = .ok (.baload, 1) := by decide +kernel
theorem dX4_spare_24 : decode cX4_spare 24 = .ok (.ifCond .ne 6, 3) := by decide +kernel
theorem dX4_spare_27 : decode cX4_spare 27 = .ok (.ldc 118, 2) := by decide +kernel
theorem dX4_spare_29 : decode cX4_spare 29 = .ok (.ireturn, 1) := by decide +kernel
theorem dX4_spare_30 : decode cX4_spare 30 = .ok (.aload_n 0, 1) := by decide +kernel
theorem dX4_spare_31 : decode cX4_spare 31 = .ok (.getfield 23, 3) := by decide +kernel
theorem dX4_spare_34 : decode cX4_spare 34 = .ok (.bipush 12, 2) := by decide +kernel
theorem dX4_spare_36 : decode cX4_spare 36 = .ok (.aload_n 0, 1) := by decide +kernel
theorem dX4_spare_37 : decode cX4_spare 37 = .ok (.getfield 13, 3) := by decide +kernel
theorem dX4_spare_40 : decode cX4_spare 40 = .ok (.iload_n 1, 1) := by decide +kernel
theorem dX4_spare_41 : decode cX4_spare 41 = .ok (.iaload, 1) := by decide +kernel
theorem dX4_spare_42 : decode cX4_spare 42 = .ok (.imul, 1) := by decide +kernel
theorem dX4_spare_43 : decode cX4_spare 43 = .ok (.aload_n 0, 1) := by decide +kernel
theorem dX4_spare_44 : decode cX4_spare 44 = .ok (.getfield 7, 3) := by decide +kernel
theorem dX4_spare_47 : decode cX4_spare 47 = .ok (.iload_n 1, 1) := by decide +kernel
theorem dX4_spare_48 : decode cX4_spare 48 = .ok (.iaload, 1) := by decide +kernel
theorem dX4_spare_49 : decode cX4_spare 49 = .ok (.iadd, 1) := by decide +kernel
theorem dX4_spare_50 : decode cX4_spare 50 = .ok (.laload, 1) := by decide +kernel
theorem dX4_spare_51 : decode cX4_spare 51 = .ok (.lstore_n 2, 1) := by decide +kernel
theorem dX4_spare_52 : decode cX4_spare 52 = .ok (.lload_n 2, 1) := by decide +kernel
theorem dX4_spare_53 : decode cX4_spare 53 = .ok (.ldc2_w 66, 3) := by decide +kernel
theorem dX4_spare_56 : decode cX4_spare 56 = .ok (.lcmp, 1) := by decide +kernel
theorem dX4_spare_57 : decode cX4_spare 57 = .ok (.ifCond .lt 8, 3) := by decide +kernel
theorem dX4_spare_60 : decode cX4_spare 60 = .ok (.ldc 75, 2) := by decide +kernel
theorem dX4_spare_62 : decode cX4_spare 62 = .ok (.goto 14, 3) := by decide +kernel
theorem dX4_spare_65 : decode cX4_spare 65 = .ok (.aload_n 0, 1) := by decide +kernel
theorem dX4_spare_66 : decode cX4_spare 66 = .ok (.getfield 16, 3) := by decide +kernel
theorem dX4_spare_69 : decode cX4_spare 69 = .ok (.iload_n 1, 1) := by decide +kernel
theorem dX4_spare_70 : decode cX4_spare 70 = .ok (.iaload, 1) := by decide +kernel
theorem dX4_spare_71 : decode cX4_spare 71 = .ok (.lload_n 2, 1) := by decide +kernel
theorem dX4_spare_72 : decode cX4_spare 72 = .ok (.invokestatic 81, 3) := by decide +kernel
theorem dX4_spare_75 : decode cX4_spare 75 = .ok (.iadd, 1) := by decide +kernel
theorem dX4_spare_76 : decode cX4_spare 76 = .ok (.ireturn, 1) := by decide +kernel
theorem dX4_isFree_0 : decode cX4_isFree 0 = .ok (.iconst 1, 1) := by decide +kernel
theorem dX4_isFree_1 : decode cX4_isFree 1 = .ok (.istore_n 1, 1) := by decide +kernel
theorem dX4_isFree_2 : decode cX4_isFree 2 = .ok (.iconst 0, 1) := by decide +kernel
theorem dX4_isFree_3 : decode cX4_isFree 3 = .ok (.istore_n 2, 1) := by decide +kernel
theorem dX4_isFree_4 : decode cX4_isFree 4 = .ok (.iload_n 2, 1) := by decide +kernel
theorem dX4_isFree_5 : decode cX4_isFree 5 = .ok (.aload_n 0, 1) := by decide +kernel
theorem dX4_isFree_6 : decode cX4_isFree 6 = .ok (.getfield 45, 3) := by decide +kernel
theorem dX4_isFree_9 : decode cX4_isFree 9 = .ok (.bipush 12, 2) := by decide +kernel
theorem dX4_isFree_11 : decode cX4_isFree 11 = .ok (.imul, 1) := by decide +kernel
theorem dX4_isFree_12 : decode cX4_isFree 12 = .ok (.if_icmp .ge 18, 3) := by decide +kernel
theorem dX4_isFree_15 : decode cX4_isFree 15 = .ok (.aload_n 0, 1) := by decide +kernel
theorem dX4_isFree_16 : decode cX4_isFree 16 = .ok (.getfield 42, 3) := by decide +kernel
theorem dX4_isFree_19 : decode cX4_isFree 19 = .ok (.iload_n 2, 1) := by decide +kernel
theorem dX4_isFree_20 : decode cX4_isFree 20 = .ok (.ldc2_w 70, 3) := by decide +kernel
theorem dX4_isFree_23 : decode cX4_isFree 23 = .ok (.lastore, 1) := by decide +kernel
theorem dX4_isFree_24 : decode cX4_isFree 24 = .ok (.iinc 2 1, 3) := by decide +kernel
theorem dX4_isFree_27 : decode cX4_isFree 27 = .ok (.goto (-23), 3) := by decide +kernel
theorem dX4_isFree_30 : decode cX4_isFree 30 = .ok (.iconst 0, 1) := by decide +kernel
theorem dX4_isFree_31 : decode cX4_isFree 31 = .ok (.istore_n 2, 1) := by decide +kernel
theorem dX4_isFree_32 : decode cX4_isFree 32 = .ok (.iload_n 2, 1) := by decide +kernel
theorem dX4_isFree_33 : decode cX4_isFree 33 = .ok (.aload_n 0, 1) := by decide +kernel
theorem dX4_isFree_34 : decode cX4_isFree 34 = .ok (.getfield 53, 3) := by decide +kernel
theorem dX4_isFree_37 : decode cX4_isFree 37 = .ok (.if_icmp .ge 79, 3) := by decide +kernel
theorem dX4_isFree_40 : decode cX4_isFree 40 = .ok (.bipush 12, 2) := by decide +kernel
theorem dX4_isFree_42 : decode cX4_isFree 42 = .ok (.aload_n 0, 1) := by decide +kernel
theorem dX4_isFree_43 : decode cX4_isFree 43 = .ok (.getfield 7, 3) := by decide +kernel
theorem dX4_isFree_46 : decode cX4_isFree 46 = .ok (.iload_n 2, 1) := by decide +kernel
theorem dX4_isFree_47 : decode cX4_isFree 47 = .ok (.iaload, 1) := by decide +kernel
theorem dX4_isFree_48 : decode cX4_isFree 48 = .ok (.imul, 1) := by decide +kernel
theorem dX4_isFree_49 : decode cX4_isFree 49 = .ok (.aload_n 0, 1) := by decide +kernel
theorem dX4_isFree_50 : decode cX4_isFree 50 = .ok (.getfield 13, 3) := by decide +kernel
theorem dX4_isFree_53 : decode cX4_isFree 53 = .ok (.iload_n 2, 1) := by decide +kernel
theorem dX4_isFree_54 : decode cX4_isFree 54 = .ok (.iaload, 1) := by decide +kernel
theorem dX4_isFree_55 : decode cX4_isFree 55 = .ok (.iadd, 1) := by decide +kernel
theorem dX4_isFree_56 : decode cX4_isFree 56 = .ok (.istore_n 3, 1) := by decide +kernel
theorem dX4_isFree_57 : decode cX4_isFree 57 = .ok (.ldc2_w 68, 3) := by decide +kernel
theorem dX4_isFree_60 : decode cX4_isFree 60 = .ok (.aload_n 0, 1) := by decide +kernel
theorem dX4_isFree_61 : decode cX4_isFree 61 = .ok (.getfield 16, 3) := by decide +kernel
theorem dX4_isFree_64 : decode cX4_isFree 64 = .ok (.iload_n 2, 1) := by decide +kernel
theorem dX4_isFree_65 : decode cX4_isFree 65 = .ok (.iaload, 1) := by decide +kernel
theorem dX4_isFree_66 : decode cX4_isFree 66 = .ok (.i2l, 1) := by decide +kernel
theorem dX4_isFree_67 : decode cX4_isFree 67 = .ok (.lmul, 1) := by decide +kernel
theorem dX4_isFree_68 : decode cX4_isFree 68 = .ok (.lconst 1, 1) := by decide +kernel
theorem dX4_isFree_69 : decode cX4_isFree 69 = .ok (.lsub, 1) := by decide +kernel
theorem dX4_isFree_70 : decode cX4_isFree 70 = .ok (.lstore 4, 2) := by decide +kernel
theorem dX4_isFree_72 : decode cX4_isFree 72 = .ok (.aload_n 0, 1) := by decide +kernel
theorem dX4_isFree_73 : decode cX4_isFree 73 = .ok (.getfield 42, 3) := by decide +kernel
theorem dX4_isFree_76 : decode cX4_isFree 76 = .ok (.iload_n 3, 1) := by decide +kernel
theorem dX4_isFree_77 : decode cX4_isFree 77 = .ok (.aload_n 0, 1) := by decide +kernel
theorem dX4_isFree_78 : decode cX4_isFree 78 = .ok (.getfield 19, 3) := by decide +kernel
theorem dX4_isFree_81 : decode cX4_isFree 81 = .ok (.iload_n 2, 1) := by decide +kernel
theorem dX4_isFree_82 : decode cX4_isFree 82 = .ok (.baload, 1) := by decide +kernel
theorem dX4_isFree_83 : decode cX4_isFree 83 = .ok (.ifCond .eq 20, 3) := by decide +kernel
theorem dX4_isFree_86 : decode cX4_isFree 86 = .ok (.lload 4, 2) := by decide +kernel
theorem dX4_isFree_88 : decode cX4_isFree 88 = .ok (.aload_n 0, 1) := by decide +kernel
theorem dX4_isFree_89 : decode cX4_isFree 89 = .ok (.getfield 42, 3) := by decide +kernel
theorem dX4_isFree_92 : decode cX4_isFree 92 = .ok (.iload_n 3, 1) := by decide +kernel
theorem dX4_isFree_93 : decode cX4_isFree 93 = .ok (.laload, 1) := by decide +kernel
theorem dX4_isFree_94 : decode cX4_isFree 94 = .ok (.lcmp, 1) := by decide +kernel
theorem dX4_isFree_95 : decode cX4_isFree 95 = .ok (.ifCond .le 8, 3) := by decide +kernel
theorem dX4_isFree_98 : decode cX4_isFree 98 = .ok (.lload 4, 2) := by decide +kernel
theorem dX4_isFree_100 : decode cX4_isFree 100 = .ok (.goto 9, 3) := by decide +kernel
theorem dX4_isFree_103 : decode cX4_isFree 103 = .ok (.aload_n 0, 1) := by decide +kernel
theorem dX4_isFree_104 : decode cX4_isFree 104 = .ok (.getfield 42, 3) := by decide +kernel
theorem dX4_isFree_107 : decode cX4_isFree 107 = .ok (.iload_n 3, 1) := by decide +kernel
theorem dX4_isFree_108 : decode cX4_isFree 108 = .ok (.laload, 1) := by decide +kernel
theorem dX4_isFree_109 : decode cX4_isFree 109 = .ok (.lastore, 1) := by decide +kernel
theorem dX4_isFree_110 : decode cX4_isFree 110 = .ok (.iinc 2 1, 3) := by decide +kernel
theorem dX4_isFree_113 : decode cX4_isFree 113 = .ok (.goto (-81), 3) := by decide +kernel
theorem dX4_isFree_116 : decode cX4_isFree 116 = .ok (.iconst 0, 1) := by decide +kernel
theorem dX4_isFree_117 : decode cX4_isFree 117 = .ok (.istore_n 2, 1) := by decide +kernel
theorem dX4_isFree_118 : decode cX4_isFree 118 = .ok (.iload_n 2, 1) := by decide +kernel
theorem dX4_isFree_119 : decode cX4_isFree 119 = .ok (.aload_n 0, 1) := by decide +kernel
theorem dX4_isFree_120 : decode cX4_isFree 120 = .ok (.getfield 45, 3) := by decide +kernel
theorem dX4_isFree_123 : decode cX4_isFree 123 = .ok (.if_icmp .ge 173, 3) := by decide +kernel
theorem dX4_isFree_126 : decode cX4_isFree 126 = .ok (.iload_n 1, 1) := by decide +kernel
theorem dX4_isFree_127 : decode cX4_isFree 127 = .ok (.ifCond .eq 25, 3) := by decide +kernel
theorem dX4_isFree_130 : decode cX4_isFree 130 = .ok (.aload_n 0, 1) := by decide +kernel
theorem dX4_isFree_131 : decode cX4_isFree 131 = .ok (.getfield 42, 3) := by decide +kernel
theorem dX4_isFree_134 : decode cX4_isFree 134 = .ok (.bipush 12, 2) := by decide +kernel
theorem dX4_isFree_136 : decode cX4_isFree 136 = .ok (.iload_n 2, 1) := by decide +kernel
theorem dX4_isFree_137 : decode cX4_isFree 137 = .ok (.imul, 1) := by decide +kernel
theorem dX4_isFree_138 : decode cX4_isFree 138 = .ok (.iload_n 2, 1) := by decide +kernel
theorem dX4_isFree_139 : decode cX4_isFree 139 = .ok (.iadd, 1) := by decide +kernel
theorem dX4_isFree_140 : decode cX4_isFree 140 = .ok (.laload, 1) := by decide +kernel
theorem dX4_isFree_141 : decode cX4_isFree 141 = .ok (.ldc2_w 70, 3) := by decide +kernel
theorem dX4_isFree_144 : decode cX4_isFree 144 = .ok (.lcmp, 1) := by decide +kernel
theorem dX4_isFree_145 : decode cX4_isFree 145 = .ok (.ifCond .gt 7, 3) := by decide +kernel
theorem dX4_isFree_148 : decode cX4_isFree 148 = .ok (.iconst 1, 1) := by decide +kernel
theorem dX4_isFree_149 : decode cX4_isFree 149 = .ok (.goto 4, 3) := by decide +kernel
theorem dX4_isFree_152 : decode cX4_isFree 152 = .ok (.iconst 0, 1) := by decide +kernel
theorem dX4_isFree_153 : decode cX4_isFree 153 = .ok (.istore_n 1, 1) := by decide +kernel
theorem dX4_isFree_154 : decode cX4_isFree 154 = .ok (.iconst 0, 1) := by decide +kernel
theorem dX4_isFree_155 : decode cX4_isFree 155 = .ok (.istore_n 3, 1) := by decide +kernel
theorem dX4_isFree_156 : decode cX4_isFree 156 = .ok (.iload_n 3, 1) := by decide +kernel
theorem dX4_isFree_157 : decode cX4_isFree 157 = .ok (.aload_n 0, 1) := by decide +kernel
