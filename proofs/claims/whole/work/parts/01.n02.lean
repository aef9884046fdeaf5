set_option maxRecDepth 20000 in
theorem ggX1_criticalArc_X1_firstCriticalArc : GoodIn wsX1_criticalArc wsX1_firstCriticalArc := goodIn_r _ [19, 2, 20, 21, 22, 3, 15, 4, 23, 24, 25, 26, 27, 28, 29, 30, 31, 32, 33, 34, 35, 36, 37] (by decide +kernel) (by decide +kernel)
set_option maxRecDepth 20000 in
theorem gX1_criticalArc_X1_firstCriticalArc : GoodIn wsX1_criticalArc (wsV RX1 111 RX1 yX1_firstCriticalArc wsX1_firstCriticalArc) := goodIn_app (goodIn_of _ (by decide +kernel)) ggX1_criticalArc_X1_firstCriticalArc
theorem dX1_criticalArc_0 : decode cX1_criticalArc 0 = .ok (.aload_n 0, 1) := by decide +kernel
theorem dX1_criticalArc_1 : decode cX1_criticalArc 1 = .ok (.invokevirtual 108, 3) := by decide +kernel
theorem dX1_criticalArc_4 : decode cX1_criticalArc 4 = .ok (.istore_n 2, 1) := by decide +kernel
theorem dX1_criticalArc_5 : decode cX1_criticalArc 5 = .ok (.iload_n 1, 1) := by decide +kernel
theorem dX1_criticalArc_6 : decode cX1_criticalArc 6 = .ok (.ifCond .lt 8, 3) := by decide +kernel
theorem dX1_criticalArc_9 : decode cX1_criticalArc 9 = .ok (.iload_n 1, 1) := by decide +kernel
theorem dX1_criticalArc_10 : decode cX1_criticalArc 10 = .ok (.iload_n 2, 1) := by decide +kernel
theorem dX1_criticalArc_11 : decode cX1_criticalArc 11 = .ok (.if_icmp .lt 5, 3) := by decide +kernel
theorem dX1_criticalArc_14 : decode cX1_criticalArc 14 = .ok (.iconst (-1), 1) := by decide +kernel
theorem dX1_criticalArc_15 : decode cX1_criticalArc 15 = .ok (.ireturn, 1) := by decide +kernel
theorem dX1_criticalArc_16 : decode cX1_criticalArc 16 = .ok (.iconst (-1), 1) := by decide +kernel
theorem dX1_criticalArc_17 : decode cX1_criticalArc 17 = .ok (.istore_n 3, 1) := by decide +kernel
theorem dX1_criticalArc_18 : decode cX1_criticalArc 18 = .ok (.aload_n 0, 1) := by decide +kernel
theorem dX1_criticalArc_19 : decode cX1_criticalArc 19 = .ok (.getfield 35, 3) := by decide +kernel
theorem dX1_criticalArc_22 : decode cX1_criticalArc 22 = .ok (.istore 4, 2) := by decide +kernel
theorem dX1_criticalArc_24 : decode cX1_criticalArc 24 = .ok (.iconst (-1), 1) := by decide +kernel
theorem dX1_criticalArc_25 : decode cX1_criticalArc 25 = .ok (.istore 5, 2) := by decide +kernel
theorem dX1_criticalArc_27 : decode cX1_criticalArc 27 = .ok (.iconst 0, 1) := by decide +kernel
theorem dX1_criticalArc_28 : decode cX1_criticalArc 28 = .ok (.istore 6, 2) := by decide +kernel
theorem dX1_criticalArc_30 : decode cX1_criticalArc 30 = .ok (.iload 6, 2) := by decide +kernel
theorem dX1_criticalArc_32 : decode cX1_criticalArc 32 = .ok (.iload_n 1, 1) := by decide +kernel
theorem dX1_criticalArc_33 : decode cX1_criticalArc 33 = .ok (.if_icmp .gt 58, 3) := by decide +kernel
theorem dX1_criticalArc_36 : decode cX1_criticalArc 36 = .ok (.aload_n 0, 1) := by decide +kernel
theorem dX1_criticalArc_37 : decode cX1_criticalArc 37 = .ok (.iload_n 3, 1) := by decide +kernel
theorem dX1_criticalArc_38 : decode cX1_criticalArc 38 = .ok (.iload_n 2, 1) := by decide +kernel
theorem dX1_criticalArc_39 : decode cX1_criticalArc 39 = .ok (.iload 6, 2) := by decide +kernel
theorem dX1_criticalArc_41 : decode cX1_criticalArc 41 = .ok (.isub, 1) := by decide +kernel
theorem dX1_criticalArc_42 : decode cX1_criticalArc 42 = .ok (.iconst 1, 1) := by decide +kernel
theorem dX1_criticalArc_43 : decode cX1_criticalArc 43 = .ok (.isub, 1) := by decide +kernel
theorem dX1_criticalArc_44 : decode cX1_criticalArc 44 = .ok (.iload 4, 2) := by decide +kernel
theorem dX1_criticalArc_46 : decode cX1_criticalArc 46 = .ok (.invokevirtual 111, 3) := by decide +kernel
theorem dX1_criticalArc_49 : decode cX1_criticalArc 49 = .ok (.istore 5, 2) := by decide +kernel
theorem dX1_criticalArc_51 : decode cX1_criticalArc 51 = .ok (.iload 5, 2) := by decide +kernel
theorem dX1_criticalArc_53 : decode cX1_criticalArc 53 = .ok (.iconst (-1), 1) := by decide +kernel
theorem dX1_criticalArc_54 : decode cX1_criticalArc 54 = .ok (.if_icmp .ne 5, 3) := by decide +kernel
theorem dX1_criticalArc_57 : decode cX1_criticalArc 57 = .ok (.iconst (-1), 1) := by decide +kernel
theorem dX1_criticalArc_58 : decode cX1_criticalArc 58 = .ok (.ireturn, 1) := by decide +kernel
theorem dX1_criticalArc_59 : decode cX1_criticalArc 59 = .ok (.iload 4, 2) := by decide +kernel
theorem dX1_criticalArc_61 : decode cX1_criticalArc 61 = .ok (.aload_n 0, 1) := by decide +kernel
theorem dX1_criticalArc_62 : decode cX1_criticalArc 62 = .ok (.getfield 9, 3) := by decide +kernel
theorem dX1_criticalArc_65 : decode cX1_criticalArc 65 = .ok (.getfield 89, 3) := by decide +kernel
theorem dX1_criticalArc_68 : decode cX1_criticalArc 68 = .ok (.iload 5, 2) := by decide +kernel
theorem dX1_criticalArc_70 : decode cX1_criticalArc 70 = .ok (.iaload, 1) := by decide +kernel
theorem dX1_criticalArc_71 : decode cX1_criticalArc 71 = .ok (.isub, 1) := by decide +kernel
theorem dX1_criticalArc_72 : decode cX1_criticalArc 72 = .ok (.istore 4, 2) := by decide +kernel
theorem dX1_criticalArc_74 : decode cX1_criticalArc 74 = .ok (.aload_n 0, 1) := by decide +kernel
theorem dX1_criticalArc_75 : decode cX1_criticalArc 75 = .ok (.getfield 9, 3) := by decide +kernel
theorem dX1_criticalArc_78 : decode cX1_criticalArc 78 = .ok (.getfield 79, 3) := by decide +kernel
theorem dX1_criticalArc_81 : decode cX1_criticalArc 81 = .ok (.iload 5, 2) := by decide +kernel
theorem dX1_criticalArc_83 : decode cX1_criticalArc 83 = .ok (.iaload, 1) := by decide +kernel
theorem dX1_criticalArc_84 : decode cX1_criticalArc 84 = .ok (.istore_n 3, 1) := by decide +kernel
theorem dX1_criticalArc_85 : decode cX1_criticalArc 85 = .ok (.iinc 6 1, 3) := by decide +kernel
theorem dX1_criticalArc_88 : decode cX1_criticalArc 88 = .ok (.goto (-58), 3) := by decide +kernel
theorem dX1_criticalArc_91 : decode cX1_criticalArc 91 = .ok (.iload 5, 2) := by decide +kernel
theorem dX1_criticalArc_93 : decode cX1_criticalArc 93 = .ok (.ireturn, 1) := by decide +kernel
set_option maxRecDepth 20000 in
theorem ggX1_criticalLength_X1_isGreatestWithin : GoodIn wsX1_criticalLength wsX1_isGreatestWithin := goodIn_r _ [5, 6, 7, 8, 9, 10, 11, 12, 13, 14, 15, 16, 17, 18, 19, 20, 21, 22, 23, 24] (by decide +kernel) (by decide +kernel)
set_option maxRecDepth 20000 in
theorem gX1_criticalLength_X1_isGreatestWithin : GoodIn wsX1_criticalLength (wsV RX1 115 RX1 yX1_isGreatestWithin wsX1_isGreatestWithin) := goodIn_app (goodIn_of _ (by decide +kernel)) ggX1_criticalLength_X1_isGreatestWithin
theorem dX1_criticalLength_0 : decode cX1_criticalLength 0 = .ok (.iconst 0, 1) := by decide +kernel
theorem dX1_criticalLength_1 : decode cX1_criticalLength 1 = .ok (.istore_n 1, 1) := by decide +kernel
theorem dX1_criticalLength_2 : decode cX1_criticalLength 2 = .ok (.iload_n 1, 1) := by decide +kernel
theorem dX1_criticalLength_3 : decode cX1_criticalLength 3 = .ok (.bipush 12, 2) := by decide +kernel
theorem dX1_criticalLength_5 : decode cX1_criticalLength 5 = .ok (.if_icmp .ge 19, 3) := by decide +kernel
theorem dX1_criticalLength_8 : decode cX1_criticalLength 8 = .ok (.aload_n 0, 1) := by decide +kernel
theorem dX1_criticalLength_9 : decode cX1_criticalLength 9 = .ok (.iload_n 1, 1) := by decide +kernel
theorem dX1_criticalLength_10 : decode cX1_criticalLength 10 = .ok (.invokevirtual 115, 3) := by decide +kernel
theorem dX1_criticalLength_13 : decode cX1_criticalLength 13 = .ok (.ifCond .eq 5, 3) := by decide +kernel
theorem dX1_criticalLength_16 : decode cX1_criticalLength 16 = .ok (.iload_n 1, 1) := by decide +kernel
theorem dX1_criticalLength_17 : decode cX1_criticalLength 17 = .ok (.ireturn, 1) := by decide +kernel
theorem dX1_criticalLength_18 : decode cX1_criticalLength 18 = .ok (.iinc 1 1, 3) := by decide +kernel
theorem dX1_criticalLength_21 : decode cX1_criticalLength 21 = .ok (.goto (-19), 3) := by decide +kernel
theorem dX1_criticalLength_24 : decode cX1_criticalLength 24 = .ok (.iconst 0, 1) := by decide +kernel
theorem dX1_criticalLength_25 : decode cX1_criticalLength 25 = .ok (.ireturn, 1) := by decide +kernel
theorem dX1_isGreatestWithin_0 : decode cX1_isGreatestWithin 0 = .ok (.iconst 0, 1) := by decide +kernel
theorem dX1_isGreatestWithin_1 : decode cX1_isGreatestWithin 1 = .ok (.istore_n 2, 1) := by decide +kernel
theorem dX1_isGreatestWithin_2 : decode cX1_isGreatestWithin 2 = .ok (.iload_n 2, 1) := by decide +kernel
theorem dX1_isGreatestWithin_3 : decode cX1_isGreatestWithin 3 = .ok (.aload_n 0, 1) := by decide +kernel
theorem dX1_isGreatestWithin_4 : decode cX1_isGreatestWithin 4 = .ok (.getfield 9, 3) := by decide +kernel
theorem dX1_isGreatestWithin_7 : decode cX1_isGreatestWithin 7 = .ok (.getfield 62, 3) := by decide +kernel
theorem dX1_isGreatestWithin_10 : decode cX1_isGreatestWithin 10 = .ok (.if_icmp .ge 26, 3) := by decide +kernel
theorem dX1_isGreatestWithin_13 : decode cX1_isGreatestWithin 13 = .ok (.aload_n 0, 1) := by decide +kernel
theorem dX1_isGreatestWithin_14 : decode cX1_isGreatestWithin 14 = .ok (.getfield 32, 3) := by decide +kernel
theorem dX1_isGreatestWithin_17 : decode cX1_isGreatestWithin 17 = .ok (.iload_n 1, 1) := by decide +kernel
theorem dX1_isGreatestWithin_18 : decode cX1_isGreatestWithin 18 = .ok (.aaload, 1) := by decide +kernel
theorem dX1_isGreatestWithin_19 : decode cX1_isGreatestWithin 19 = .ok (.iload_n 2, 1) := by decide +kernel
theorem dX1_isGreatestWithin_20 : decode cX1_isGreatestWithin 20 = .ok (.iaload, 1) := by decide +kernel
theorem dX1_isGreatestWithin_21 : decode cX1_isGreatestWithin 21 = .ok (.aload_n 0, 1) := by decide +kernel
theorem dX1_isGreatestWithin_22 : decode cX1_isGreatestWithin 22 = .ok (.getfield 35, 3) := by decide +kernel
theorem dX1_isGreatestWithin_25 : decode cX1_isGreatestWithin 25 = .ok (.if_icmp .ne 5, 3) := by decide +kernel
theorem dX1_isGreatestWithin_28 : decode cX1_isGreatestWithin 28 = .ok (.iconst 1, 1) := by decide +kernel
theorem dX1_isGreatestWithin_29 : decode cX1_isGreatestWithin 29 = .ok (.ireturn, 1) := by decide +kernel
theorem dX1_isGreatestWithin_30 : decode cX1_isGreatestWithin 30 = .ok (.iinc 2 1, 3) := by decide +kernel
theorem dX1_isGreatestWithin_33 : decode cX1_isGreatestWithin 33 = .ok (.goto (-31), 3) := by decide +kernel
theorem dX1_isGreatestWithin_36 : decode cX1_isGreatestWithin 36 = .ok (.iconst 0, 1) := by decide +kernel
theorem dX1_isGreatestWithin_37 : decode cX1_isGreatestWithin 37 = .ok (.ireturn, 1) := by decide +kernel
theorem dX1_firstCriticalArc_0 : decode cX1_firstCriticalArc 0 = .ok (.iconst 0, 1) := by decide +kernel
theorem dX1_firstCriticalArc_1 : decode cX1_firstCriticalArc 1 = .ok (.istore 4, 2) := by decide +kernel
theorem dX1_firstCriticalArc_3 : decode cX1_firstCriticalArc 3 = .ok (.iload 4, 2) := by decide +kernel
theorem dX1_firstCriticalArc_5 : decode cX1_firstCriticalArc 5 = .ok (.aload_n 0, 1) := by decide +kernel
theorem dX1_firstCriticalArc_6 : decode cX1_firstCriticalArc 6 = .ok (.getfield 9, 3) := by decide +kernel
theorem dX1_firstCriticalArc_9 : decode cX1_firstCriticalArc 9 = .ok (.getfield 73, 3) := by decide +kernel
theorem dX1_firstCriticalArc_12 : decode cX1_firstCriticalArc 12 = .ok (.if_icmp .ge 88, 3) := by decide +kernel
theorem dX1_firstCriticalArc_15 : decode cX1_firstCriticalArc 15 = .ok (.iload_n 1, 1) := by decide +kernel
theorem dX1_firstCriticalArc_16 : decode cX1_firstCriticalArc 16 = .ok (.iconst (-1), 1) := by decide +kernel
theorem dX1_firstCriticalArc_17 : decode cX1_firstCriticalArc 17 = .ok (.if_icmp .eq 17, 3) := by decide +kernel
theorem dX1_firstCriticalArc_20 : decode cX1_firstCriticalArc 20 = .ok (.aload_n 0, 1) := by decide +kernel
theorem dX1_firstCriticalArc_21 : decode cX1_firstCriticalArc 21 = .ok (.getfield 9, 3) := by decide +kernel
theorem dX1_firstCriticalArc_24 : decode cX1_firstCriticalArc 24 = .ok (.getfield 82, 3) := by decide +kernel
theorem dX1_firstCriticalArc_27 : decode cX1_firstCriticalArc 27 = .ok (.iload 4, 2) := by decide +kernel
theorem dX1_firstCriticalArc_29 : decode cX1_firstCriticalArc 29 = .ok (.iaload, 1) := by decide +kernel
theorem dX1_firstCriticalArc_30 : decode cX1_firstCriticalArc 30 = .ok (.iload_n 1, 1) := by decide +kernel
theorem dX1_firstCriticalArc_31 : decode cX1_firstCriticalArc 31 = .ok (.if_icmp .ne 7, 3) := by decide +kernel
theorem dX1_firstCriticalArc_34 : decode cX1_firstCriticalArc 34 = .ok (.iconst 1, 1) := by decide +kernel
theorem dX1_firstCriticalArc_35 : decode cX1_firstCriticalArc 35 = .ok (.goto 4, 3) := by decide +kernel
theorem dX1_firstCriticalArc_38 : decode cX1_firstCriticalArc 38 = .ok (.iconst 0, 1) := by decide +kernel
theorem dX1_firstCriticalArc_39 : decode cX1_firstCriticalArc 39 = .ok (.istore 5, 2) := by decide +kernel
theorem dX1_firstCriticalArc_41 : decode cX1_firstCriticalArc 41 = .ok (.aload_n 0, 1) := by decide +kernel
theorem dX1_firstCriticalArc_42 : decode cX1_firstCriticalArc 42 = .ok (.getfield 9, 3) := by decide +kernel
theorem dX1_firstCriticalArc_45 : decode cX1_firstCriticalArc 45 = .ok (.getfield 76, 3) := by decide +kernel
theorem dX1_firstCriticalArc_48 : decode cX1_firstCriticalArc 48 = .ok (.iload 4, 2) := by decide +kernel
theorem dX1_firstCriticalArc_50 : decode cX1_firstCriticalArc 50 = .ok (.baload, 1) := by decide +kernel
theorem dX1_firstCriticalArc_51 : decode cX1_firstCriticalArc 51 = .ok (.ifCond .eq 43, 3) := by decide +kernel
theorem dX1_firstCriticalArc_54 : decode cX1_firstCriticalArc 54 = .ok (.iload 5, 2) := by decide +kernel
theorem dX1_firstCriticalArc_56 : decode cX1_firstCriticalArc 56 = .ok (.ifCond .eq 38, 3) := by decide +kernel
theorem dX1_firstCriticalArc_59 : decode cX1_firstCriticalArc 59 = .ok (.aload_n 0, 1) := by decide +kernel
theorem dX1_firstCriticalArc_60 : decode cX1_firstCriticalArc 60 = .ok (.getfield 9, 3) := by decide +kernel
theorem dX1_firstCriticalArc_63 : decode cX1_firstCriticalArc 63 = .ok (.getfield 89, 3) := by decide +kernel
theorem dX1_firstCriticalArc_66 : decode cX1_firstCriticalArc 66 = .ok (.iload 4, 2) := by decide +kernel
theorem dX1_firstCriticalArc_68 : decode cX1_firstCriticalArc 68 = .ok (.iaload, 1) := by decide +kernel
theorem dX1_firstCriticalArc_69 : decode cX1_firstCriticalArc 69 = .ok (.aload_n 0, 1) := by decide +kernel
theorem dX1_firstCriticalArc_70 : decode cX1_firstCriticalArc 70 = .ok (.getfield 32, 3) := by decide +kernel
theorem dX1_firstCriticalArc_73 : decode cX1_firstCriticalArc 73 = .ok (.iload_n 2, 1) := by decide +kernel
theorem dX1_firstCriticalArc_74 : decode cX1_firstCriticalArc 74 = .ok (.aaload, 1) := by decide +kernel
theorem dX1_firstCriticalArc_75 : decode cX1_firstCriticalArc 75 = .ok (.aload_n 0, 1) := by decide +kernel
theorem dX1_firstCriticalArc_76 : decode cX1_firstCriticalArc 76 = .ok (.getfield 9, 3) := by decide +kernel
theorem dX1_firstCriticalArc_79 : decode cX1_firstCriticalArc 79 = .ok (.getfield 79, 3) := by decide +kernel
theorem dX1_firstCriticalArc_82 : decode cX1_firstCriticalArc 82 = .ok (.iload 4, 2) := by decide +kernel
theorem dX1_firstCriticalArc_84 : decode cX1_firstCriticalArc 84 = .ok (.iaload, 1) := by decide +kernel
theorem dX1_firstCriticalArc_85 : decode cX1_firstCriticalArc 85 = .ok (.iaload, 1) := by decide +kernel
theorem dX1_firstCriticalArc_86 : decode cX1_firstCriticalArc 86 = .ok (.iadd, 1) := by decide +kernel
theorem dX1_firstCriticalArc_87 : decode cX1_firstCriticalArc 87 = .ok (.iload_n 3, 1) := by decide +kernel
theorem dX1_firstCriticalArc_88 : decode cX1_firstCriticalArc 88 = .ok (.if_icmp .ne 6, 3) := by decide +kernel
theorem dX1_firstCriticalArc_91 : decode cX1_firstCriticalArc 91 = .ok (.iload 4, 2) := by decide +kernel
theorem dX1_firstCriticalArc_93 : decode cX1_firstCriticalArc 93 = .ok (.ireturn, 1) := by decide +kernel
theorem dX1_firstCriticalArc_94 : decode cX1_firstCriticalArc 94 = .ok (.iinc 4 1, 3) := by decide +kernel
theorem dX1_firstCriticalArc_97 : decode cX1_firstCriticalArc 97 = .ok (.goto (-94), 3) := by decide +kernel
theorem dX1_firstCriticalArc_100 : decode cX1_firstCriticalArc 100 = .ok (.iconst (-1), 1) := by decide +kernel
theorem dX1_firstCriticalArc_101 : decode cX1_firstCriticalArc 101 = .ok (.ireturn, 1) := by decide +kernel
theorem dX2_init_0 : decode cX2_init 0 = .ok (.aload_n 0, 1) := by decide +kernel
theorem dX2_init_1 : decode cX2_init 1 = .ok (.invokespecial 3, 3) := by decide +kernel
theorem dX2_init_4 : decode cX2_init 4 = .ok (.aload_n 0, 1) := by decide +kernel
theorem dX2_init_5 : decode cX2_init 5 = .ok (.aload_n 1, 1) := by decide +kernel
theorem dX2_init_6 : decode cX2_init 6 = .ok (.putfield 9, 3) := by decide +kernel
theorem dX2_init_9 : decode cX2_init 9 = .ok (.aload_n 0, 1) := by decide +kernel
theorem dX2_init_10 : decode cX2_init 10 = .ok (.bipush 21, 2) := by decide +kernel
theorem dX2_init_12 : decode cX2_init 12 = .ok (.sipush 144, 3) := by decide +kernel
theorem dX2_init_15 : decode cX2_init 15 = .ok (.multianewarray 15 2, 4) := by decide +kernel
theorem dX2_init_19 : decode cX2_init 19 = .ok (.putfield 17, 3) := by decide +kernel
theorem dX2_init_22 : decode cX2_init 22 = .ok (.aload_n 0, 1) := by decide +kernel
theorem dX2_init_23 : decode cX2_init 23 = .ok (.iconst 0, 1) := by decide +kernel
theorem dX2_init_24 : decode cX2_init 24 = .ok (.putfield 20, 3) := by decide +kernel
theorem dX2_init_27 : decode cX2_init 27 = .ok (.aload_n 0, 1) := by decide +kernel
theorem dX2_init_28 : decode cX2_init 28 = .ok (.iconst (-1), 1) := by decide +kernel
theorem dX2_init_29 : decode cX2_init 29 = .ok (.putfield 24, 3) := by decide +kernel
theorem dX2_init_32 : decode cX2_init 32 = .ok (.return_, 1) := by decide +kernel
set_option maxRecDepth 20000 in
theorem ggX2_workOut_X2_fillFirstLayer : GoodIn wsX2_workOut wsX2_fillFirstLayer := goodIn_r _ [9, 10, 2, 11, 12, 30, 31, 32, 33, 34, 35, 36, 37, 38, 39, 40] (by decide +kernel) (by decide +kernel)
set_option maxRecDepth 20000 in
theorem gX2_workOut_X2_fillFirstLayer : GoodIn wsX2_workOut (wsV RX2 32 RX2 yX2_fillFirstLayer wsX2_fillFirstLayer) := goodIn_app (goodIn_of _ (by decide +kernel)) ggX2_workOut_X2_fillFirstLayer
set_option maxRecDepth 20000 in
theorem ggX2_workOut_X2_fillLayer : GoodIn wsX2_workOut wsX2_fillLayer := goodIn_r _ [16, 10, 17, 18, 19, 20, 2, 21, 22, 23, 24, 25, 8, 26, 27, 28, 29, 11, 12, 30, 31, 32, 33, 34, 35, 36, 37, 38, 39, 40] (by decide +kernel) (by decide +kernel)
set_option maxRecDepth 20000 in
theorem gX2_workOut_X2_fillLayer : GoodIn wsX2_workOut (wsV RX2 35 RX2 yX2_fillLayer wsX2_fillLayer) := goodIn_app (goodIn_of _ (by decide +kernel)) ggX2_workOut_X2_fillLayer
theorem dX2_workOut_0 : decode cX2_workOut 0 = .ok (.aload_n 0, 1) := by decide +kernel
theorem dX2_workOut_1 : decode cX2_workOut 1 = .ok (.getfield 24, 3) := by decide +kernel
theorem dX2_workOut_4 : decode cX2_workOut 4 = .ok (.aload_n 0, 1) := by decide +kernel
theorem dX2_workOut_5 : decode cX2_workOut 5 = .ok (.getfield 9, 3) := by decide +kernel
theorem dX2_workOut_8 : decode cX2_workOut 8 = .ok (.getfield 27, 3) := by decide +kernel
theorem dX2_workOut_11 : decode cX2_workOut 11 = .ok (.if_icmp .eq 23, 3) := by decide +kernel
theorem dX2_workOut_14 : decode cX2_workOut 14 = .ok (.aload_n 0, 1) := by decide +kernel
theorem dX2_workOut_15 : decode cX2_workOut 15 = .ok (.aload_n 0, 1) := by decide +kernel
theorem dX2_workOut_16 : decode cX2_workOut 16 = .ok (.getfield 9, 3) := by decide +kernel
theorem dX2_workOut_19 : decode cX2_workOut 19 = .ok (.getfield 27, 3) := by decide +kernel
theorem dX2_workOut_22 : decode cX2_workOut 22 = .ok (.putfield 24, 3) := by decide +kernel
theorem dX2_workOut_25 : decode cX2_workOut 25 = .ok (.aload_n 0, 1) := by decide +kernel
theorem dX2_workOut_26 : decode cX2_workOut 26 = .ok (.invokevirtual 32, 3) := by decide +kernel
theorem dX2_workOut_29 : decode cX2_workOut 29 = .ok (.aload_n 0, 1) := by decide +kernel
theorem dX2_workOut_30 : decode cX2_workOut 30 = .ok (.iconst 0, 1) := by decide +kernel
theorem dX2_workOut_31 : decode cX2_workOut 31 = .ok (.putfield 20, 3) := by decide +kernel
theorem dX2_workOut_34 : decode cX2_workOut 34 = .ok (.aload_n 0, 1) := by decide +kernel
theorem dX2_workOut_35 : decode cX2_workOut 35 = .ok (.getfield 20, 3) := by decide +kernel
theorem dX2_workOut_38 : decode cX2_workOut 38 = .ok (.iconst 1, 1) := by decide +kernel
theorem dX2_workOut_39 : decode cX2_workOut 39 = .ok (.iadd, 1) := by decide +kernel
theorem dX2_workOut_40 : decode cX2_workOut 40 = .ok (.istore_n 2, 1) := by decide +kernel
theorem dX2_workOut_41 : decode cX2_workOut 41 = .ok (.iload_n 2, 1) := by decide +kernel
theorem dX2_workOut_42 : decode cX2_workOut 42 = .ok (.iload_n 1, 1) := by decide +kernel
theorem dX2_workOut_43 : decode cX2_workOut 43 = .ok (.if_icmp .gt 19, 3) := by decide +kernel
theorem dX2_workOut_46 : decode cX2_workOut 46 = .ok (.aload_n 0, 1) := by decide +kernel
theorem dX2_workOut_47 : decode cX2_workOut 47 = .ok (.iload_n 2, 1) := by decide +kernel
theorem dX2_workOut_48 : decode cX2_workOut 48 = .ok (.invokevirtual 35, 3) := by decide +kernel
theorem dX2_workOut_51 : decode cX2_workOut 51 = .ok (.aload_n 0, 1) := by decide +kernel
theorem dX2_workOut_52 : decode cX2_workOut 52 = .ok (.iload_n 2, 1) := by decide +kernel
theorem dX2_workOut_53 : decode cX2_workOut 53 = .ok (.putfield 20, 3) := by decide +kernel
theorem dX2_workOut_56 : decode cX2_workOut 56 = .ok (.iinc 2 1, 3) := by decide +kernel
theorem dX2_workOut_59 : decode cX2_workOut 59 = .ok (.goto (-18), 3) := by decide +kernel
theorem dX2_workOut_62 : decode cX2_workOut 62 = .ok (.return_, 1) := by decide +kernel
theorem dX2_fillFirstLayer_0 : decode cX2_fillFirstLayer 0 = .ok (.aload_n 0, 1) := by decide +kernel
theorem dX2_fillFirstLayer_1 : decode cX2_fillFirstLayer 1 = .ok (.getfield 17, 3) := by decide +kernel
theorem dX2_fillFirstLayer_4 : decode cX2_fillFirstLayer 4 = .ok (.iconst 0, 1) := by decide +kernel
theorem dX2_fillFirstLayer_5 : decode cX2_fillFirstLayer 5 = .ok (.aaload, 1) := by decide +kernel
theorem dX2_fillFirstLayer_6 : decode cX2_fillFirstLayer 6 = .ok (.astore_n 1, 1) := by decide +kernel
theorem dX2_fillFirstLayer_7 : decode cX2_fillFirstLayer 7 = .ok (.iconst 0, 1) := by decide +kernel
theorem dX2_fillFirstLayer_8 : decode cX2_fillFirstLayer 8 = .ok (.istore_n 2, 1) := by decide +kernel
theorem dX2_fillFirstLayer_9 : decode cX2_fillFirstLayer 9 = .ok (.iload_n 2, 1) := by decide +kernel
theorem dX2_fillFirstLayer_10 : decode cX2_fillFirstLayer 10 = .ok (.aload_n 0, 1) := by decide +kernel
theorem dX2_fillFirstLayer_11 : decode cX2_fillFirstLayer 11 = .ok (.getfield 9, 3) := by decide +kernel
theorem dX2_fillFirstLayer_14 : decode cX2_fillFirstLayer 14 = .ok (.getfield 39, 3) := by decide +kernel
theorem dX2_fillFirstLayer_17 : decode cX2_fillFirstLayer 17 = .ok (.if_icmp .ge 47, 3) := by decide +kernel
theorem dX2_fillFirstLayer_20 : decode cX2_fillFirstLayer 20 = .ok (.iconst 0, 1) := by decide +kernel
theorem dX2_fillFirstLayer_21 : decode cX2_fillFirstLayer 21 = .ok (.istore_n 3, 1) := by decide +kernel
theorem dX2_fillFirstLayer_22 : decode cX2_fillFirstLayer 22 = .ok (.iload_n 3, 1) := by decide +kernel
theorem dX2_fillFirstLayer_23 : decode cX2_fillFirstLayer 23 = .ok (.aload_n 0, 1) := by decide +kernel
theorem dX2_fillFirstLayer_24 : decode cX2_fillFirstLayer 24 = .ok (.getfield 9, 3) := by decide +kernel
theorem dX2_fillFirstLayer_27 : decode cX2_fillFirstLayer 27 = .ok (.getfield 39, 3) := by decide +kernel
theorem dX2_fillFirstLayer_30 : decode cX2_fillFirstLayer 30 = .ok (.if_icmp .ge 28, 3) := by decide +kernel
theorem dX2_fillFirstLayer_33 : decode cX2_fillFirstLayer 33 = .ok (.aload_n 1, 1) := by decide +kernel
theorem dX2_fillFirstLayer_34 : decode cX2_fillFirstLayer 34 = .ok (.iload_n 2, 1) := by decide +kernel
theorem dX2_fillFirstLayer_35 : decode cX2_fillFirstLayer 35 = .ok (.bipush 12, 2) := by decide +kernel
theorem dX2_fillFirstLayer_37 : decode cX2_fillFirstLayer 37 = .ok (.imul, 1) := by decide +kernel
theorem dX2_fillFirstLayer_38 : decode cX2_fillFirstLayer 38 = .ok (.iload_n 3, 1) := by decide +kernel
theorem dX2_fillFirstLayer_39 : decode cX2_fillFirstLayer 39 = .ok (.iadd, 1) := by decide +kernel
theorem dX2_fillFirstLayer_40 : decode cX2_fillFirstLayer 40 = .ok (.iload_n 2, 1) := by decide +kernel
theorem dX2_fillFirstLayer_41 : decode cX2_fillFirstLayer 41 = .ok (.iload_n 3, 1) := by decide +kernel
theorem dX2_fillFirstLayer_42 : decode cX2_fillFirstLayer 42 = .ok (.if_icmp .ne 7, 3) := by decide +kernel
theorem dX2_fillFirstLayer_45 : decode cX2_fillFirstLayer 45 = .ok (.iconst 0, 1) := by decide +kernel
theorem dX2_fillFirstLayer_46 : decode cX2_fillFirstLayer 46 = .ok (.goto 5, 3) := by decide +kernel
theorem dX2_fillFirstLayer_49 : decode cX2_fillFirstLayer 49 = .ok (.ldc 42, 2) := by decide +kernel
theorem dX2_fillFirstLayer_51 : decode cX2_fillFirstLayer 51 = .ok (.iastore, 1) := by decide +kernel
theorem dX2_fillFirstLayer_52 : decode cX2_fillFirstLayer 52 = .ok (.iinc 3 1, 3) := by decide +kernel
theorem dX2_fillFirstLayer_55 : decode cX2_fillFirstLayer 55 = .ok (.goto (-33), 3) := by decide +kernel
theorem dX2_fillFirstLayer_58 : decode cX2_fillFirstLayer 58 = .ok (.iinc 2 1, 3) := by decide +kernel
theorem dX2_fillFirstLayer_61 : decode cX2_fillFirstLayer 61 = .ok (.goto (-52), 3) := by decide +kernel
theorem dX2_fillFirstLayer_64 : decode cX2_fillFirstLayer 64 = .ok (.return_, 1) := by decide +kernel
set_option maxRecDepth 20000 in
theorem ggX2_fillLayer_X2_lengthenBy : GoodIn wsX2_fillLayer wsX2_lengthenBy := goodIn_r _ [13, 6, 14, 15, 16, 17, 18, 19, 20, 21, 22, 23, 24, 25, 26, 27, 28, 29] (by decide +kernel) (by decide +kernel)
set_option maxRecDepth 20000 in
theorem gX2_fillLayer_X2_lengthenBy : GoodIn wsX2_fillLayer (wsV RX2 56 RX2 yX2_lengthenBy wsX2_lengthenBy) := goodIn_app (goodIn_of _ (by decide +kernel)) ggX2_fillLayer_X2_lengthenBy
theorem dX2_fillLayer_0 : decode cX2_fillLayer 0 = .ok (.aload_n 0, 1) := by decide +kernel
theorem dX2_fillLayer_1 : decode cX2_fillLayer 1 = .ok (.getfield 17, 3) := by decide +kernel
theorem dX2_fillLayer_4 : decode cX2_fillLayer 4 = .ok (.iload_n 1, 1) := by decide +kernel
theorem dX2_fillLayer_5 : decode cX2_fillLayer 5 = .ok (.iconst 1, 1) := by decide +kernel
theorem dX2_fillLayer_6 : decode cX2_fillLayer 6 = .ok (.isub, 1) := by decide +kernel
theorem dX2_fillLayer_7 : decode cX2_fillLayer 7 = .ok (.aaload, 1) := by decide +kernel
theorem dX2_fillLayer_8 : decode cX2_fillLayer 8 = .ok (.astore_n 2, 1) := by decide +kernel
theorem dX2_fillLayer_9 : decode cX2_fillLayer 9 = .ok (.aload_n 0, 1) := by decide +kernel
theorem dX2_fillLayer_10 : decode cX2_fillLayer 10 = .ok (.getfield 17, 3) := by decide +kernel
theorem dX2_fillLayer_13 : decode cX2_fillLayer 13 = .ok (.iload_n 1, 1) := by decide +kernel
theorem dX2_fillLayer_14 : decode cX2_fillLayer 14 = .ok (.aaload, 1) := by decide +kernel
theorem dX2_fillLayer_15 : decode cX2_fillLayer 15 = .ok (.astore_n 3, 1) := by decide +kernel
theorem dX2_fillLayer_16 : decode cX2_fillLayer 16 = .ok (.aload_n 2, 1) := by decide +kernel
theorem dX2_fillLayer_17 : decode cX2_fillLayer 17 = .ok (.iconst 0, 1) := by decide +kernel
theorem dX2_fillLayer_18 : decode cX2_fillLayer 18 = .ok (.aload_n 3, 1) := by decide +kernel
theorem dX2_fillLayer_19 : decode cX2_fillLayer 19 = .ok (.iconst 0, 1) := by decide +kernel
theorem dX2_fillLayer_20 : decode cX2_fillLayer 20 = .ok (.aload_n 2, 1) := by decide +kernel
theorem dX2_fillLayer_21 : decode cX2_fillLayer 21 = .ok (.arraylength, 1) := by decide +kernel
theorem dX2_fillLayer_22 : decode cX2_fillLayer 22 = .ok (.invokestatic 43, 3) := by decide +kernel
theorem dX2_fillLayer_25 : decode cX2_fillLayer 25 = .ok (.iconst 0, 1) := by decide +kernel
theorem dX2_fillLayer_26 : decode cX2_fillLayer 26 = .ok (.istore 4, 2) := by decide +kernel
theorem dX2_fillLayer_28 : decode cX2_fillLayer 28 = .ok (.iload 4, 2) := by decide +kernel
theorem dX2_fillLayer_30 : decode cX2_fillLayer 30 = .ok (.aload_n 0, 1) := by decide +kernel
theorem dX2_fillLayer_31 : decode cX2_fillLayer 31 = .ok (.getfield 9, 3) := by decide +kernel
theorem dX2_fillLayer_34 : decode cX2_fillLayer 34 = .ok (.getfield 49, 3) := by decide +kernel
theorem dX2_fillLayer_37 : decode cX2_fillLayer 37 = .ok (.if_icmp .ge 30, 3) := by decide +kernel
theorem dX2_fillLayer_40 : decode cX2_fillLayer 40 = .ok (.aload_n 0, 1) := by decide +kernel
theorem dX2_fillLayer_41 : decode cX2_fillLayer 41 = .ok (.getfield 9, 3) := by decide +kernel
theorem dX2_fillLayer_44 : decode cX2_fillLayer 44 = .ok (.getfield 52, 3) := by decide +kernel
theorem dX2_fillLayer_47 : decode cX2_fillLayer 47 = .ok (.iload 4, 2) := by decide +kernel
theorem dX2_fillLayer_49 : decode cX2_fillLayer 49 = .ok (.baload, 1) := by decide +kernel
theorem dX2_fillLayer_50 : decode cX2_fillLayer 50 = .ok (.ifCond .eq 11, 3) := by decide +kernel
theorem dX2_fillLayer_53 : decode cX2_fillLayer 53 = .ok (.aload_n 0, 1) := by decide +kernel
theorem dX2_fillLayer_54 : decode cX2_fillLayer 54 = .ok (.iload 4, 2) := by decide +kernel
theorem dX2_fillLayer_56 : decode cX2_fillLayer 56 = .ok (.aload_n 2, 1) := by decide +kernel
theorem dX2_fillLayer_57 : decode cX2_fillLayer 57 = .ok (.aload_n 3, 1) := by decide +kernel
theorem dX2_fillLayer_58 : decode cX2_fillLayer 58 = .ok (.invokevirtual 56, 3) := by decide +kernel
theorem dX2_fillLayer_61 : decode cX2_fillLayer 61 = .ok (.iinc 4 1, 3) := by decide +kernel
theorem dX2_fillLayer_64 : decode cX2_fillLayer 64 = .ok (.goto (-36), 3) := by decide +kernel
theorem dX2_fillLayer_67 : decode cX2_fillLayer 67 = .ok (.return_, 1) := by decide +kernel
theorem dX2_lengthenBy_0 : decode cX2_lengthenBy 0 = .ok (.aload_n 0, 1) := by decide +kernel
theorem dX2_lengthenBy_1 : decode cX2_lengthenBy 1 = .ok (.getfield 9, 3) := by decide +kernel
theorem dX2_lengthenBy_4 : decode cX2_lengthenBy 4 = .ok (.getfield 60, 3) := by decide +kernel
theorem dX2_lengthenBy_7 : decode cX2_lengthenBy 7 = .ok (.iload_n 1, 1) := by decide +kernel
theorem dX2_lengthenBy_8 : decode cX2_lengthenBy 8 = .ok (.iaload, 1) := by decide +kernel
theorem dX2_lengthenBy_9 : decode cX2_lengthenBy 9 = .ok (.istore 4, 2) := by decide +kernel
theorem dX2_lengthenBy_11 : decode cX2_lengthenBy 11 = .ok (.aload_n 0, 1) := by decide +kernel
theorem dX2_lengthenBy_12 : decode cX2_lengthenBy 12 = .ok (.getfield 9, 3) := by decide +kernel
theorem dX2_lengthenBy_15 : decode cX2_lengthenBy 15 = .ok (.getfield 64, 3) := by decide +kernel
theorem dX2_lengthenBy_18 : decode cX2_lengthenBy 18 = .ok (.iload_n 1, 1) := by decide +kernel
theorem dX2_lengthenBy_19 : decode cX2_lengthenBy 19 = .ok (.iaload, 1) := by decide +kernel
theorem dX2_lengthenBy_20 : decode cX2_lengthenBy 20 = .ok (.istore 5, 2) := by decide +kernel
theorem dX2_lengthenBy_22 : decode cX2_lengthenBy 22 = .ok (.aload_n 0, 1) := by decide +kernel
theorem dX2_lengthenBy_23 : decode cX2_lengthenBy 23 = .ok (.getfield 9, 3) := by decide +kernel
theorem dX2_lengthenBy_26 : decode cX2_lengthenBy 26 = .ok (.getfield 67, 3) := by decide +kernel
theorem dX2_lengthenBy_29 : decode cX2_lengthenBy 29 = .ok (.iload_n 1, 1) := by decide +kernel
theorem dX2_lengthenBy_30 : decode cX2_lengthenBy 30 = .ok (.iaload, 1) := by decide +kernel
theorem dX2_lengthenBy_31 : decode cX2_lengthenBy 31 = .ok (.istore 6, 2) := by decide +kernel
theorem dX2_lengthenBy_33 : decode cX2_lengthenBy 33 = .ok (.iconst 0, 1) := by decide +kernel
theorem dX2_lengthenBy_34 : decode cX2_lengthenBy 34 = .ok (.istore 7, 2) := by decide +kernel
theorem dX2_lengthenBy_36 : decode cX2_lengthenBy 36 = .ok (.iload 7, 2) := by decide +kernel
theorem dX2_lengthenBy_38 : decode cX2_lengthenBy 38 = .ok (.aload_n 0, 1) := by decide +kernel
theorem dX2_lengthenBy_39 : decode cX2_lengthenBy 39 = .ok (.getfield 9, 3) := by decide +kernel
theorem dX2_lengthenBy_42 : decode cX2_lengthenBy 42 = .ok (.getfield 39, 3) := by decide +kernel
theorem dX2_lengthenBy_45 : decode cX2_lengthenBy 45 = .ok (.if_icmp .ge 59, 3) := by decide +kernel
theorem dX2_lengthenBy_48 : decode cX2_lengthenBy 48 = .ok (.iload 7, 2) := by decide +kernel
theorem dX2_lengthenBy_50 : decode cX2_lengthenBy 50 = .ok (.bipush 12, 2) := by decide +kernel
theorem dX2_lengthenBy_52 : decode cX2_lengthenBy 52 = .ok (.imul, 1) := by decide +kernel
theorem dX2_lengthenBy_53 : decode cX2_lengthenBy 53 = .ok (.istore 8, 2) := by decide +kernel
theorem dX2_lengthenBy_55 : decode cX2_lengthenBy 55 = .ok (.aload_n 2, 1) := by decide +kernel
theorem dX2_lengthenBy_56 : decode cX2_lengthenBy 56 = .ok (.iload 8, 2) := by decide +kernel
theorem dX2_lengthenBy_58 : decode cX2_lengthenBy 58 = .ok (.iload 4, 2) := by decide +kernel
theorem dX2_lengthenBy_60 : decode cX2_lengthenBy 60 = .ok (.iadd, 1) := by decide +kernel
theorem dX2_lengthenBy_61 : decode cX2_lengthenBy 61 = .ok (.iaload, 1) := by decide +kernel
theorem dX2_lengthenBy_62 : decode cX2_lengthenBy 62 = .ok (.istore 9, 2) := by decide +kernel
theorem dX2_lengthenBy_64 : decode cX2_lengthenBy 64 = .ok (.iload 9, 2) := by decide +kernel
theorem dX2_lengthenBy_66 : decode cX2_lengthenBy 66 = .ok (.ldc 42, 2) := by decide +kernel
theorem dX2_lengthenBy_68 : decode cX2_lengthenBy 68 = .ok (.if_icmp .eq 30, 3) := by decide +kernel
theorem dX2_lengthenBy_71 : decode cX2_lengthenBy 71 = .ok (.iload 9, 2) := by decide +kernel
theorem dX2_lengthenBy_73 : decode cX2_lengthenBy 73 = .ok (.iload 6, 2) := by decide +kernel
theorem dX2_lengthenBy_75 : decode cX2_lengthenBy 75 = .ok (.iadd, 1) := by decide +kernel
theorem dX2_lengthenBy_76 : decode cX2_lengthenBy 76 = .ok (.aload_n 3, 1) := by decide +kernel
theorem dX2_lengthenBy_77 : decode cX2_lengthenBy 77 = .ok (.iload 8, 2) := by decide +kernel
theorem dX2_lengthenBy_79 : decode cX2_lengthenBy 79 = .ok (.iload 5, 2) := by decide +kernel
theorem dX2_lengthenBy_81 : decode cX2_lengthenBy 81 = .ok (.iadd, 1) := by decide +kernel
theorem dX2_lengthenBy_82 : decode cX2_lengthenBy 82 = .ok (.iaload, 1) := by decide +kernel
theorem dX2_lengthenBy_83 : decode cX2_lengthenBy 83 = .ok (.if_icmp .ge 15, 3) := by decide +kernel
theorem dX2_lengthenBy_86 : decode cX2_lengthenBy 86 = .ok (.aload_n 3, 1) := by decide +kernel
theorem dX2_lengthenBy_87 : decode cX2_lengthenBy 87 = .ok (.iload 8, 2) := by decide +kernel
theorem dX2_lengthenBy_89 : decode cX2_lengthenBy 89 = .ok (.iload 5, 2) := by decide +kernel
theorem dX2_lengthenBy_91 : decode cX2_lengthenBy 91 = .ok (.iadd, 1) := by decide +kernel
theorem dX2_lengthenBy_92 : decode cX2_lengthenBy 92 = .ok (.iload 9, 2) := by decide +kernel
theorem dX2_lengthenBy_94 : decode cX2_lengthenBy 94 = .ok (.iload 6, 2) := by decide +kernel
theorem dX2_lengthenBy_96 : decode cX2_lengthenBy 96 = .ok (.iadd, 1) := by decide +kernel
theorem dX2_lengthenBy_97 : decode cX2_lengthenBy 97 = .ok (.iastore, 1) := by decide +kernel
theorem dX2_lengthenBy_98 : decode cX2_lengthenBy 98 = .ok (.iinc 7 1, 3) := by decide +kernel
theorem dX2_lengthenBy_101 : decode cX2_lengthenBy 101 = .ok (.goto (-65), 3) := by decide +kernel
theorem dX2_lengthenBy_104 : decode cX2_lengthenBy 104 = .ok (.return_, 1) := by decide +kernel
theorem dX2_lightest_0 : decode cX2_lightest 0 = .ok (.aload_n 0, 1) := by decide +kernel
theorem dX2_lightest_1 : decode cX2_lightest 1 = .ok (.getfield 17, 3) := by decide +kernel
theorem dX2_lightest_4 : decode cX2_lightest 4 = .ok (.iload_n 1, 1) := by decide +kernel
theorem dX2_lightest_5 : decode cX2_lightest 5 = .ok (.aaload, 1) := by decide +kernel
theorem dX2_lightest_6 : decode cX2_lightest 6 = .ok (.iload_n 2, 1) := by decide +kernel
theorem dX2_lightest_7 : decode cX2_lightest 7 = .ok (.bipush 12, 2) := by decide +kernel
theorem dX2_lightest_9 : decode cX2_lightest 9 = .ok (.imul, 1) := by decide +kernel
theorem dX2_lightest_10 : decode cX2_lightest 10 = .ok (.iload_n 3, 1) := by decide +kernel
theorem dX2_lightest_11 : decode cX2_lightest 11 = .ok (.iadd, 1) := by decide +kernel
theorem dX2_lightest_12 : decode cX2_lightest 12 = .ok (.iaload, 1) := by decide +kernel
theorem dX2_lightest_13 : decode cX2_lightest 13 = .ok (.ireturn, 1) := by decide +kernel
set_option maxRecDepth 20000 in
theorem ggX2_isWalk_X2_lightest : GoodIn wsX2_isWalk wsX2_lightest := goodIn_r _ [6, 7, 8, 9, 10, 11] (by decide +kernel) (by decide +kernel)
set_option maxRecDepth 20000 in
theorem gX2_isWalk_X2_lightest : GoodIn wsX2_isWalk (wsV RX2 70 RX2 yX2_lightest wsX2_lightest) := goodIn_app (goodIn_of _ (by decide +kernel)) ggX2_isWalk_X2_lightest
theorem dX2_isWalk_0 : decode cX2_isWalk 0 = .ok (.aload_n 0, 1) := by decide +kernel
theorem dX2_isWalk_1 : decode cX2_isWalk 1 = .ok (.bipush 12, 2) := by decide +kernel
theorem dX2_isWalk_3 : decode cX2_isWalk 3 = .ok (.iload_n 1, 1) := by decide +kernel
theorem dX2_isWalk_4 : decode cX2_isWalk 4 = .ok (.iload_n 2, 1) := by decide +kernel
theorem dX2_isWalk_5 : decode cX2_isWalk 5 = .ok (.invokevirtual 70, 3) := by decide +kernel
theorem dX2_isWalk_8 : decode cX2_isWalk 8 = .ok (.ldc 42, 2) := by decide +kernel
theorem dX2_isWalk_10 : decode cX2_isWalk 10 = .ok (.if_icmp .eq 7, 3) := by decide +kernel
theorem dX2_isWalk_13 : decode cX2_isWalk 13 = .ok (.iconst 1, 1) := by decide +kernel
theorem dX2_isWalk_14 : decode cX2_isWalk 14 = .ok (.goto 4, 3) := by decide +kernel
theorem dX2_isWalk_17 : decode cX2_isWalk 17 = .ok (.iconst 0, 1) := by decide +kernel
theorem dX2_isWalk_18 : decode cX2_isWalk 18 = .ok (.ireturn, 1) := by decide +kernel
set_option maxRecDepth 20000 in
theorem ggX2_fallsAt_X2_lightest : GoodIn wsX2_fallsAt wsX2_lightest := goodIn_r _ [5, 6, 7, 8, 9, 10] (by decide +kernel) (by decide +kernel)
set_option maxRecDepth 20000 in
theorem gX2_fallsAt_X2_lightest : GoodIn wsX2_fallsAt (wsV RX2 70 RX2 yX2_lightest wsX2_lightest) := goodIn_app (goodIn_of _ (by decide +kernel)) ggX2_fallsAt_X2_lightest
theorem dX2_fallsAt_0 : decode cX2_fallsAt 0 = .ok (.aload_n 0, 1) := by decide +kernel
theorem dX2_fallsAt_1 : decode cX2_fallsAt 1 = .ok (.bipush 12, 2) := by decide +kernel
theorem dX2_fallsAt_3 : decode cX2_fallsAt 3 = .ok (.iload_n 1, 1) := by decide +kernel
theorem dX2_fallsAt_4 : decode cX2_fallsAt 4 = .ok (.iload_n 1, 1) := by decide +kernel
theorem dX2_fallsAt_5 : decode cX2_fallsAt 5 = .ok (.invokevirtual 70, 3) := by decide +kernel
theorem dX2_fallsAt_8 : decode cX2_fallsAt 8 = .ok (.ifCond .ge 7, 3) := by decide +kernel
theorem dX2_fallsAt_11 : decode cX2_fallsAt 11 = .ok (.iconst 1, 1) := by decide +kernel
theorem dX2_fallsAt_12 : decode cX2_fallsAt 12 = .ok (.goto 4, 3) := by decide +kernel
theorem dX2_fallsAt_15 : decode cX2_fallsAt 15 = .ok (.iconst 0, 1) := by decide +kernel
theorem dX2_fallsAt_16 : decode cX2_fallsAt 16 = .ok (.ireturn, 1) := by decide +kernel
set_option maxRecDepth 20000 in
theorem ggX2_someRingFalls_X2_fallsAt : GoodIn wsX2_someRingFalls wsX2_fallsAt := goodIn_r _ [7, 8, 9, 10, 6, 11, 12, 13, 14, 15, 16] (by decide +kernel) (by decide +kernel)
set_option maxRecDepth 20000 in
theorem gX2_someRingFalls_X2_fallsAt : GoodIn wsX2_someRingFalls (wsV RX2 74 RX2 yX2_fallsAt wsX2_fallsAt) := goodIn_app (goodIn_of _ (by decide +kernel)) ggX2_someRingFalls_X2_fallsAt
theorem dX2_someRingFalls_0 : decode cX2_someRingFalls 0 = .ok (.iconst 0, 1) := by decide +kernel
theorem dX2_someRingFalls_1 : decode cX2_someRingFalls 1 = .ok (.istore_n 1, 1) := by decide +kernel
theorem dX2_someRingFalls_2 : decode cX2_someRingFalls 2 = .ok (.iload_n 1, 1) := by decide +kernel
theorem dX2_someRingFalls_3 : decode cX2_someRingFalls 3 = .ok (.aload_n 0, 1) := by decide +kernel
theorem dX2_someRingFalls_4 : decode cX2_someRingFalls 4 = .ok (.getfield 9, 3) := by decide +kernel
theorem dX2_someRingFalls_7 : decode cX2_someRingFalls 7 = .ok (.getfield 39, 3) := by decide +kernel
theorem dX2_someRingFalls_10 : decode cX2_someRingFalls 10 = .ok (.if_icmp .ge 19, 3) := by decide +kernel
theorem dX2_someRingFalls_13 : decode cX2_someRingFalls 13 = .ok (.aload_n 0, 1) := by decide +kernel
theorem dX2_someRingFalls_14 : decode cX2_someRingFalls 14 = .ok (.iload_n 1, 1) := by decide +kernel
theorem dX2_someRingFalls_15 : decode cX2_someRingFalls 15 = .ok (.invokevirtual 74, 3) := by decide +kernel
theorem dX2_someRingFalls_18 : decode cX2_someRingFalls 18 = .ok (.ifCond .eq 5, 3) := by decide +kernel
theorem dX2_someRingFalls_21 : decode cX2_someRingFalls 21 = .ok (.iconst 1, 1) := by decide +kernel
theorem dX2_someRingFalls_22 : decode cX2_someRingFalls 22 = .ok (.ireturn, 1) := by decide +kernel
theorem dX2_someRingFalls_23 : decode cX2_someRingFalls 23 = .ok (.iinc 1 1, 3) := by decide +kernel
theorem dX2_someRingFalls_26 : decode cX2_someRingFalls 26 = .ok (.goto (-24), 3) := by decide +kernel
theorem dX2_someRingFalls_29 : decode cX2_someRingFalls 29 = .ok (.iconst 0, 1) := by decide +kernel
theorem dX2_someRingFalls_30 : decode cX2_someRingFalls 30 = .ok (.ireturn, 1) := by decide +kernel
set_option maxRecDepth 20000 in
theorem ggX2_isBottomless_X2_fallsAt : GoodIn wsX2_isBottomless wsX2_fallsAt := goodIn_r _ [7, 8, 9, 10, 6, 11, 12, 18, 19, 20, 21] (by decide +kernel) (by decide +kernel)
set_option maxRecDepth 20000 in
theorem gX2_isBottomless_X2_fallsAt : GoodIn wsX2_isBottomless (wsV RX2 74 RX2 yX2_fallsAt wsX2_fallsAt) := goodIn_app (goodIn_of _ (by decide +kernel)) ggX2_isBottomless_X2_fallsAt
set_option maxRecDepth 20000 in
theorem ggX2_isBottomless_X2_isWalk : GoodIn wsX2_isBottomless wsX2_isWalk := goodIn_r _ [16, 17, 8, 9, 10, 6, 11, 12, 18, 19, 20, 21] (by decide +kernel) (by decide +kernel)
set_option maxRecDepth 20000 in
theorem gX2_isBottomless_X2_isWalk : GoodIn wsX2_isBottomless (wsV RX2 78 RX2 yX2_isWalk wsX2_isWalk) := goodIn_app (goodIn_of _ (by decide +kernel)) ggX2_isBottomless_X2_isWalk
theorem dX2_isBottomless_0 : decode cX2_isBottomless 0 = .ok (.iconst 0, 1) := by decide +kernel
theorem dX2_isBottomless_1 : decode cX2_isBottomless 1 = .ok (.istore_n 3, 1) := by decide +kernel
theorem dX2_isBottomless_2 : decode cX2_isBottomless 2 = .ok (.iload_n 3, 1) := by decide +kernel
theorem dX2_isBottomless_3 : decode cX2_isBottomless 3 = .ok (.aload_n 0, 1) := by decide +kernel
theorem dX2_isBottomless_4 : decode cX2_isBottomless 4 = .ok (.getfield 9, 3) := by decide +kernel
theorem dX2_isBottomless_7 : decode cX2_isBottomless 7 = .ok (.getfield 39, 3) := by decide +kernel
theorem dX2_isBottomless_10 : decode cX2_isBottomless 10 = .ok (.if_icmp .ge 37, 3) := by decide +kernel
theorem dX2_isBottomless_13 : decode cX2_isBottomless 13 = .ok (.aload_n 0, 1) := by decide +kernel
theorem dX2_isBottomless_14 : decode cX2_isBottomless 14 = .ok (.iload_n 3, 1) := by decide +kernel
theorem dX2_isBottomless_15 : decode cX2_isBottomless 15 = .ok (.invokevirtual 74, 3) := by decide +kernel
theorem dX2_isBottomless_18 : decode cX2_isBottomless 18 = .ok (.ifCond .eq 23, 3) := by decide +kernel
theorem dX2_isBottomless_21 : decode cX2_isBottomless 21 = .ok (.aload_n 0, 1) := by decide +kernel
theorem dX2_isBottomless_22 : decode cX2_isBottomless 22 = .ok (.iload_n 1, 1) := by decide +kernel
theorem dX2_isBottomless_23 : decode cX2_isBottomless 23 = .ok (.iload_n 3, 1) := by decide +kernel
theorem dX2_isBottomless_24 : decode cX2_isBottomless 24 = .ok (.invokevirtual 78, 3) := by decide +kernel
theorem dX2_isBottomless_27 : decode cX2_isBottomless 27 = .ok (.ifCond .eq 14, 3) := by decide +kernel
theorem dX2_isBottomless_30 : decode cX2_isBottomless 30 = .ok (.aload_n 0, 1) := by decide +kernel
theorem dX2_isBottomless_31 : decode cX2_isBottomless 31 = .ok (.iload_n 3, 1) := by decide +kernel
theorem dX2_isBottomless_32 : decode cX2_isBottomless 32 = .ok (.iload_n 2, 1) := by decide +kernel
theorem dX2_isBottomless_33 : decode cX2_isBottomless 33 = .ok (.invokevirtual 78, 3) := by decide +kernel
theorem dX2_isBottomless_36 : decode cX2_isBottomless 36 = .ok (.ifCond .eq 5, 3) := by decide +kernel
theorem dX2_isBottomless_39 : decode cX2_isBottomless 39 = .ok (.iconst 1, 1) := by decide +kernel
theorem dX2_isBottomless_40 : decode cX2_isBottomless 40 = .ok (.ireturn, 1) := by decide +kernel
theorem dX2_isBottomless_41 : decode cX2_isBottomless 41 = .ok (.iinc 3 1, 3) := by decide +kernel
theorem dX2_isBottomless_44 : decode cX2_isBottomless 44 = .ok (.goto (-42), 3) := by decide +kernel
theorem dX2_isBottomless_47 : decode cX2_isBottomless 47 = .ok (.iconst 0, 1) := by decide +kernel
theorem dX2_isBottomless_48 : decode cX2_isBottomless 48 = .ok (.ireturn, 1) := by decide +kernel
set_option maxRecDepth 20000 in
theorem ggX2_leastWeight_X2_isBottomless : GoodIn wsX2_leastWeight wsX2_isBottomless := goodIn_r _ [6, 7, 8, 9, 10, 11, 5, 12, 13, 14, 15, 16, 17, 18, 19, 20, 21, 22, 23, 24, 25, 26, 27, 28, 29, 30, 31, 32, 33] (by decide +kernel) (by decide +kernel)
set_option maxRecDepth 20000 in
theorem gX2_leastWeight_X2_isBottomless : GoodIn wsX2_leastWeight (wsV RX2 82 RX2 yX2_isBottomless wsX2_isBottomless) := goodIn_app (goodIn_of _ (by decide +kernel)) ggX2_leastWeight_X2_isBottomless
set_option maxRecDepth 20000 in
theorem ggX2_leastWeight_X2_lightest : GoodIn wsX2_leastWeight wsX2_lightest := goodIn_r _ [16, 17, 23, 24, 25, 26] (by decide +kernel) (by decide +kernel)
set_option maxRecDepth 20000 in
theorem gX2_leastWeight_X2_lightest : GoodIn wsX2_leastWeight (wsV RX2 70 RX2 yX2_lightest wsX2_lightest) := goodIn_app (goodIn_of _ (by decide +kernel)) ggX2_leastWeight_X2_lightest
theorem dX2_leastWeight_0 : decode cX2_leastWeight 0 = .ok (.aload_n 0, 1) := by decide +kernel
theorem dX2_leastWeight_1 : decode cX2_leastWeight 1 = .ok (.iload_n 1, 1) := by decide +kernel
theorem dX2_leastWeight_2 : decode cX2_leastWeight 2 = .ok (.iload_n 2, 1) := by decide +kernel
theorem dX2_leastWeight_3 : decode cX2_leastWeight 3 = .ok (.invokevirtual 82, 3) := by decide +kernel
theorem dX2_leastWeight_6 : decode cX2_leastWeight 6 = .ok (.ifCond .eq 8, 3) := by decide +kernel
theorem dX2_leastWeight_9 : decode cX2_leastWeight 9 = .ok (.ldc 85, 2) := by decide +kernel
theorem dX2_leastWeight_11 : decode cX2_leastWeight 11 = .ok (.goto 11, 3) := by decide +kernel
theorem dX2_leastWeight_14 : decode cX2_leastWeight 14 = .ok (.aload_n 0, 1) := by decide +kernel
theorem dX2_leastWeight_15 : decode cX2_leastWeight 15 = .ok (.bipush 12, 2) := by decide +kernel
theorem dX2_leastWeight_17 : decode cX2_leastWeight 17 = .ok (.iload_n 1, 1) := by decide +kernel
theorem dX2_leastWeight_18 : decode cX2_leastWeight 18 = .ok (.iload_n 2, 1) := by decide +kernel
theorem dX2_leastWeight_19 : decode cX2_leastWeight 19 = .ok (.invokevirtual 70, 3) := by decide +kernel
theorem dX2_leastWeight_22 : decode cX2_leastWeight 22 = .ok (.ireturn, 1) := by decide +kernel
set_option maxRecDepth 20000 in
theorem ggX2_wayArc_X2_leastWeight : GoodIn wsX2_wayArc wsX2_leastWeight := goodIn_r _ [7, 2, 8, 9, 10, 6, 11, 12, 13, 14, 15, 16, 17, 18, 19, 20, 21, 22, 23, 24, 25, 26, 1, 48, 49, 50, 51, 52, 53, 54, 55, 56, 57, 58] (by decide +kernel) (by decide +kernel)
set_option maxRecDepth 20000 in
theorem gX2_wayArc_X2_leastWeight : GoodIn wsX2_wayArc (wsV RX2 86 RX2 yX2_leastWeight wsX2_leastWeight) := goodIn_app (goodIn_of _ (by decide +kernel)) ggX2_wayArc_X2_leastWeight
set_option maxRecDepth 20000 in
theorem ggX2_wayArc_X2_fewestArcs : GoodIn wsX2_wayArc wsX2_fewestArcs := goodIn_r _ [30, 18, 19, 20, 6, 21, 22, 48, 49, 50, 51] (by decide +kernel) (by decide +kernel)
set_option maxRecDepth 20000 in
theorem gX2_wayArc_X2_fewestArcs : GoodIn wsX2_wayArc (wsV RX2 90 RX2 yX2_fewestArcs wsX2_fewestArcs) := goodIn_app (goodIn_of _ (by decide +kernel)) ggX2_wayArc_X2_fewestArcs
set_option maxRecDepth 20000 in
theorem ggX2_wayArc_X2_rowArc : GoodIn wsX2_wayArc wsX2_rowArc := goodIn_r _ [34, 12, 35, 36, 37, 38, 39, 6, 40, 41, 42, 43, 44, 45, 46, 47, 1, 18, 19, 20, 21, 22, 48, 49, 50, 51, 52, 53, 54, 55, 56, 57, 58] (by decide +kernel) (by decide +kernel)
set_option maxRecDepth 20000 in
theorem gX2_wayArc_X2_rowArc : GoodIn wsX2_wayArc (wsV RX2 93 RX2 yX2_rowArc wsX2_rowArc) := goodIn_app (goodIn_of _ (by decide +kernel)) ggX2_wayArc_X2_rowArc
theorem dX2_wayArc_0 : decode cX2_wayArc 0 = .ok (.aload_n 0, 1) := by decide +kernel
theorem dX2_wayArc_1 : decode cX2_wayArc 1 = .ok (.iload_n 1, 1) := by decide +kernel
theorem dX2_wayArc_2 : decode cX2_wayArc 2 = .ok (.iload_n 2, 1) := by decide +kernel
theorem dX2_wayArc_3 : decode cX2_wayArc 3 = .ok (.invokevirtual 86, 3) := by decide +kernel
theorem dX2_wayArc_6 : decode cX2_wayArc 6 = .ok (.istore 4, 2) := by decide +kernel
theorem dX2_wayArc_8 : decode cX2_wayArc 8 = .ok (.iload 4, 2) := by decide +kernel
theorem dX2_wayArc_10 : decode cX2_wayArc 10 = .ok (.ldc 42, 2) := by decide +kernel
theorem dX2_wayArc_12 : decode cX2_wayArc 12 = .ok (.if_icmp .eq 10, 3) := by decide +kernel
theorem dX2_wayArc_15 : decode cX2_wayArc 15 = .ok (.iload 4, 2) := by decide +kernel
theorem dX2_wayArc_17 : decode cX2_wayArc 17 = .ok (.ldc 85, 2) := by decide +kernel
theorem dX2_wayArc_19 : decode cX2_wayArc 19 = .ok (.if_icmp .ne 5, 3) := by decide +kernel
theorem dX2_wayArc_22 : decode cX2_wayArc 22 = .ok (.iconst (-1), 1) := by decide +kernel
theorem dX2_wayArc_23 : decode cX2_wayArc 23 = .ok (.ireturn, 1) := by decide +kernel
theorem dX2_wayArc_24 : decode cX2_wayArc 24 = .ok (.aload_n 0, 1) := by decide +kernel
theorem dX2_wayArc_25 : decode cX2_wayArc 25 = .ok (.iload_n 1, 1) := by decide +kernel
theorem dX2_wayArc_26 : decode cX2_wayArc 26 = .ok (.iload_n 2, 1) := by decide +kernel
theorem dX2_wayArc_27 : decode cX2_wayArc 27 = .ok (.aload_n 0, 1) := by decide +kernel
theorem dX2_wayArc_28 : decode cX2_wayArc 28 = .ok (.iload_n 1, 1) := by decide +kernel
theorem dX2_wayArc_29 : decode cX2_wayArc 29 = .ok (.iload_n 2, 1) := by decide +kernel
theorem dX2_wayArc_30 : decode cX2_wayArc 30 = .ok (.iload 4, 2) := by decide +kernel
theorem dX2_wayArc_32 : decode cX2_wayArc 32 = .ok (.invokevirtual 90, 3) := by decide +kernel
theorem dX2_wayArc_35 : decode cX2_wayArc 35 = .ok (.iload 4, 2) := by decide +kernel
theorem dX2_wayArc_37 : decode cX2_wayArc 37 = .ok (.iload_n 3, 1) := by decide +kernel
theorem dX2_wayArc_38 : decode cX2_wayArc 38 = .ok (.invokevirtual 93, 3) := by decide +kernel
theorem dX2_wayArc_41 : decode cX2_wayArc 41 = .ok (.ireturn, 1) := by decide +kernel
set_option maxRecDepth 20000 in
theorem ggX2_fewestArcs_X2_lightest : GoodIn wsX2_fewestArcs wsX2_lightest := goodIn_r _ [5, 6, 7, 8, 9, 10] (by decide +kernel) (by decide +kernel)
set_option maxRecDepth 20000 in
theorem gX2_fewestArcs_X2_lightest : GoodIn wsX2_fewestArcs (wsV RX2 70 RX2 yX2_lightest wsX2_lightest) := goodIn_app (goodIn_of _ (by decide +kernel)) ggX2_fewestArcs_X2_lightest
theorem dX2_fewestArcs_0 : decode cX2_fewestArcs 0 = .ok (.iconst 0, 1) := by decide +kernel
theorem dX2_fewestArcs_1 : decode cX2_fewestArcs 1 = .ok (.istore 4, 2) := by decide +kernel
theorem dX2_fewestArcs_3 : decode cX2_fewestArcs 3 = .ok (.iload 4, 2) := by decide +kernel
theorem dX2_fewestArcs_5 : decode cX2_fewestArcs 5 = .ok (.bipush 12, 2) := by decide +kernel
theorem dX2_fewestArcs_7 : decode cX2_fewestArcs 7 = .ok (.if_icmp .ge 21, 3) := by decide +kernel
theorem dX2_fewestArcs_10 : decode cX2_fewestArcs 10 = .ok (.aload_n 0, 1) := by decide +kernel
theorem dX2_fewestArcs_11 : decode cX2_fewestArcs 11 = .ok (.iload 4, 2) := by decide +kernel
theorem dX2_fewestArcs_13 : decode cX2_fewestArcs 13 = .ok (.iload_n 1, 1) := by decide +kernel
theorem dX2_fewestArcs_14 : decode cX2_fewestArcs 14 = .ok (.iload_n 2, 1) := by decide +kernel
theorem dX2_fewestArcs_15 : decode cX2_fewestArcs 15 = .ok (.invokevirtual 70, 3) := by decide +kernel
theorem dX2_fewestArcs_18 : decode cX2_fewestArcs 18 = .ok (.iload_n 3, 1) := by decide +kernel
theorem dX2_fewestArcs_19 : decode cX2_fewestArcs 19 = .ok (.if_icmp .le 9, 3) := by decide +kernel
theorem dX2_fewestArcs_22 : decode cX2_fewestArcs 22 = .ok (.iinc 4 1, 3) := by decide +kernel
theorem dX2_fewestArcs_25 : decode cX2_fewestArcs 25 = .ok (.goto (-22), 3) := by decide +kernel
theorem dX2_fewestArcs_28 : decode cX2_fewestArcs 28 = .ok (.iload 4, 2) := by decide +kernel
theorem dX2_fewestArcs_30 : decode cX2_fewestArcs 30 = .ok (.ireturn, 1) := by decide +kernel
set_option maxRecDepth 20000 in
theorem ggX2_rowArc_X2_firstArc : GoodIn wsX2_rowArc wsX2_firstArc := goodIn_r _ [8, 1, 9, 10, 11, 12, 13, 7, 14, 15, 3, 16, 2, 17, 18, 19, 20, 21, 22, 23, 24, 25, 26, 27, 28, 29, 30, 31, 32] (by decide +kernel) (by decide +kernel)
set_option maxRecDepth 20000 in
theorem gX2_rowArc_X2_firstArc : GoodIn wsX2_rowArc (wsV RX2 97 RX2 yX2_firstArc wsX2_firstArc) := goodIn_app (goodIn_of _ (by decide +kernel)) ggX2_rowArc_X2_firstArc
theorem dX2_rowArc_0 : decode cX2_rowArc 0 = .ok (.iload 5, 2) := by decide +kernel
theorem dX2_rowArc_2 : decode cX2_rowArc 2 = .ok (.ifCond .lt 9, 3) := by decide +kernel
theorem dX2_rowArc_5 : decode cX2_rowArc 5 = .ok (.iload 5, 2) := by decide +kernel
theorem dX2_rowArc_7 : decode cX2_rowArc 7 = .ok (.iload_n 3, 1) := by decide +kernel
theorem dX2_rowArc_8 : decode cX2_rowArc 8 = .ok (.if_icmp .lt 5, 3) := by decide +kernel
theorem dX2_rowArc_11 : decode cX2_rowArc 11 = .ok (.iconst (-1), 1) := by decide +kernel
theorem dX2_rowArc_12 : decode cX2_rowArc 12 = .ok (.ireturn, 1) := by decide +kernel
theorem dX2_rowArc_13 : decode cX2_rowArc 13 = .ok (.iload_n 1, 1) := by decide +kernel
theorem dX2_rowArc_14 : decode cX2_rowArc 14 = .ok (.istore 6, 2) := by decide +kernel
theorem dX2_rowArc_16 : decode cX2_rowArc 16 = .ok (.iload 4, 2) := by decide +kernel
theorem dX2_rowArc_18 : decode cX2_rowArc 18 = .ok (.istore 7, 2) := by decide +kernel
theorem dX2_rowArc_20 : decode cX2_rowArc 20 = .ok (.iconst (-1), 1) := by decide +kernel
theorem dX2_rowArc_21 : decode cX2_rowArc 21 = .ok (.istore 8, 2) := by decide +kernel
theorem dX2_rowArc_23 : decode cX2_rowArc 23 = .ok (.iconst 0, 1) := by decide +kernel
theorem dX2_rowArc_24 : decode cX2_rowArc 24 = .ok (.istore 9, 2) := by decide +kernel
theorem dX2_rowArc_26 : decode cX2_rowArc 26 = .ok (.iload 9, 2) := by decide +kernel
theorem dX2_rowArc_28 : decode cX2_rowArc 28 = .ok (.iload 5, 2) := by decide +kernel
theorem dX2_rowArc_30 : decode cX2_rowArc 30 = .ok (.if_icmp .gt 61, 3) := by decide +kernel
theorem dX2_rowArc_33 : decode cX2_rowArc 33 = .ok (.aload_n 0, 1) := by decide +kernel
theorem dX2_rowArc_34 : decode cX2_rowArc 34 = .ok (.iload 6, 2) := by decide +kernel
theorem dX2_rowArc_36 : decode cX2_rowArc 36 = .ok (.iload_n 2, 1) := by decide +kernel
theorem dX2_rowArc_37 : decode cX2_rowArc 37 = .ok (.iload_n 3, 1) := by decide +kernel
theorem dX2_rowArc_38 : decode cX2_rowArc 38 = .ok (.iload 9, 2) := by decide +kernel
theorem dX2_rowArc_40 : decode cX2_rowArc 40 = .ok (.isub, 1) := by decide +kernel
theorem dX2_rowArc_41 : decode cX2_rowArc 41 = .ok (.iconst 1, 1) := by decide +kernel
theorem dX2_rowArc_42 : decode cX2_rowArc 42 = .ok (.isub, 1) := by decide +kernel
theorem dX2_rowArc_43 : decode cX2_rowArc 43 = .ok (.iload 7, 2) := by decide +kernel
theorem dX2_rowArc_45 : decode cX2_rowArc 45 = .ok (.invokevirtual 97, 3) := by decide +kernel
theorem dX2_rowArc_48 : decode cX2_rowArc 48 = .ok (.istore 8, 2) := by decide +kernel
theorem dX2_rowArc_50 : decode cX2_rowArc 50 = .ok (.iload 8, 2) := by decide +kernel
theorem dX2_rowArc_52 : decode cX2_rowArc 52 = .ok (.iconst (-1), 1) := by decide +kernel
theorem dX2_rowArc_53 : decode cX2_rowArc 53 = .ok (.if_icmp .ne 5, 3) := by decide +kernel
theorem dX2_rowArc_56 : decode cX2_rowArc 56 = .ok (.iconst (-1), 1) := by decide +kernel
theorem dX2_rowArc_57 : decode cX2_rowArc 57 = .ok (.ireturn, 1) := by decide +kernel
theorem dX2_rowArc_58 : decode cX2_rowArc 58 = .ok (.iload 7, 2) := by decide +kernel
theorem dX2_rowArc_60 : decode cX2_rowArc 60 = .ok (.aload_n 0, 1) := by decide +kernel
theorem dX2_rowArc_61 : decode cX2_rowArc 61 = .ok (.getfield 9, 3) := by decide +kernel
theorem dX2_rowArc_64 : decode cX2_rowArc 64 = .ok (.getfield 67, 3) := by decide +kernel
theorem dX2_rowArc_67 : decode cX2_rowArc 67 = .ok (.iload 8, 2) := by decide +kernel
theorem dX2_rowArc_69 : decode cX2_rowArc 69 = .ok (.iaload, 1) := by decide +kernel
theorem dX2_rowArc_70 : decode cX2_rowArc 70 = .ok (.isub, 1) := by decide +kernel
theorem dX2_rowArc_71 : decode cX2_rowArc 71 = .ok (.istore 7, 2) := by decide +kernel
theorem dX2_rowArc_73 : decode cX2_rowArc 73 = .ok (.aload_n 0, 1) := by decide +kernel
theorem dX2_rowArc_74 : decode cX2_rowArc 74 = .ok (.getfield 9, 3) := by decide +kernel
theorem dX2_rowArc_77 : decode cX2_rowArc 77 = .ok (.getfield 64, 3) := by decide +kernel
theorem dX2_rowArc_80 : decode cX2_rowArc 80 = .ok (.iload 8, 2) := by decide +kernel
theorem dX2_rowArc_82 : decode cX2_rowArc 82 = .ok (.iaload, 1) := by decide +kernel
theorem dX2_rowArc_83 : decode cX2_rowArc 83 = .ok (.istore 6, 2) := by decide +kernel
theorem dX2_rowArc_85 : decode cX2_rowArc 85 = .ok (.iinc 9 1, 3) := by decide +kernel
theorem dX2_rowArc_88 : decode cX2_rowArc 88 = .ok (.goto (-62), 3) := by decide +kernel
theorem dX2_rowArc_91 : decode cX2_rowArc 91 = .ok (.iload 8, 2) := by decide +kernel
theorem dX2_rowArc_93 : decode cX2_rowArc 93 = .ok (.ireturn, 1) := by decide +kernel
set_option maxRecDepth 20000 in
theorem ggX2_firstArc_X2_canEnd : GoodIn wsX2_firstArc wsX2_canEnd := goodIn_r _ [8, 1, 9, 10, 11, 12, 13, 14, 15, 7, 16, 17, 18, 19, 20, 21, 22, 23, 24, 25, 26, 27, 28] (by decide +kernel) (by decide +kernel)
set_option maxRecDepth 20000 in
theorem gX2_firstArc_X2_canEnd : GoodIn wsX2_firstArc (wsV RX2 101 RX2 yX2_canEnd wsX2_canEnd) := goodIn_app (goodIn_of _ (by decide +kernel)) ggX2_firstArc_X2_canEnd
theorem dX2_firstArc_0 : decode cX2_firstArc 0 = .ok (.iconst 0, 1) := by decide +kernel
theorem dX2_firstArc_1 : decode cX2_firstArc 1 = .ok (.istore 5, 2) := by decide +kernel
theorem dX2_firstArc_3 : decode cX2_firstArc 3 = .ok (.iload 5, 2) := by decide +kernel
theorem dX2_firstArc_5 : decode cX2_firstArc 5 = .ok (.aload_n 0, 1) := by decide +kernel
theorem dX2_firstArc_6 : decode cX2_firstArc 6 = .ok (.getfield 9, 3) := by decide +kernel
theorem dX2_firstArc_9 : decode cX2_firstArc 9 = .ok (.getfield 49, 3) := by decide +kernel
theorem dX2_firstArc_12 : decode cX2_firstArc 12 = .ok (.if_icmp .ge 39, 3) := by decide +kernel
theorem dX2_firstArc_15 : decode cX2_firstArc 15 = .ok (.aload_n 0, 1) := by decide +kernel
theorem dX2_firstArc_16 : decode cX2_firstArc 16 = .ok (.getfield 9, 3) := by decide +kernel
theorem dX2_firstArc_19 : decode cX2_firstArc 19 = .ok (.getfield 60, 3) := by decide +kernel
theorem dX2_firstArc_22 : decode cX2_firstArc 22 = .ok (.iload 5, 2) := by decide +kernel
theorem dX2_firstArc_24 : decode cX2_firstArc 24 = .ok (.iaload, 1) := by decide +kernel
theorem dX2_firstArc_25 : decode cX2_firstArc 25 = .ok (.iload_n 1, 1) := by decide +kernel
theorem dX2_firstArc_26 : decode cX2_firstArc 26 = .ok (.if_icmp .ne 19, 3) := by decide +kernel
theorem dX2_firstArc_29 : decode cX2_firstArc 29 = .ok (.aload_n 0, 1) := by decide +kernel
theorem dX2_firstArc_30 : decode cX2_firstArc 30 = .ok (.iload 5, 2) := by decide +kernel
theorem dX2_firstArc_32 : decode cX2_firstArc 32 = .ok (.iload_n 2, 1) := by decide +kernel
theorem dX2_firstArc_33 : decode cX2_firstArc 33 = .ok (.iload_n 3, 1) := by decide +kernel
theorem dX2_firstArc_34 : decode cX2_firstArc 34 = .ok (.iload 4, 2) := by decide +kernel
theorem dX2_firstArc_36 : decode cX2_firstArc 36 = .ok (.invokevirtual 101, 3) := by decide +kernel
theorem dX2_firstArc_39 : decode cX2_firstArc 39 = .ok (.ifCond .eq 6, 3) := by decide +kernel
theorem dX2_firstArc_42 : decode cX2_firstArc 42 = .ok (.iload 5, 2) := by decide +kernel
theorem dX2_firstArc_44 : decode cX2_firstArc 44 = .ok (.ireturn, 1) := by decide +kernel
theorem dX2_firstArc_45 : decode cX2_firstArc 45 = .ok (.iinc 5 1, 3) := by decide +kernel
theorem dX2_firstArc_48 : decode cX2_firstArc 48 = .ok (.goto (-45), 3) := by decide +kernel
theorem dX2_firstArc_51 : decode cX2_firstArc 51 = .ok (.iconst (-1), 1) := by decide +kernel
theorem dX2_firstArc_52 : decode cX2_firstArc 52 = .ok (.ireturn, 1) := by decide +kernel
set_option maxRecDepth 20000 in
theorem ggX2_canEnd_X2_lightest : GoodIn wsX2_canEnd wsX2_lightest := goodIn_r _ [10, 11, 12, 13, 14, 15] (by decide +kernel) (by decide +kernel)
set_option maxRecDepth 20000 in
theorem gX2_canEnd_X2_lightest : GoodIn wsX2_canEnd (wsV RX2 70 RX2 yX2_lightest wsX2_lightest) := goodIn_app (goodIn_of _ (by decide +kernel)) ggX2_canEnd_X2_lightest
theorem dX2_canEnd_0 : decode cX2_canEnd 0 = .ok (.aload_n 0, 1) := by decide +kernel
theorem dX2_canEnd_1 : decode cX2_canEnd 1 = .ok (.getfield 9, 3) := by decide +kernel
theorem dX2_canEnd_4 : decode cX2_canEnd 4 = .ok (.getfield 52, 3) := by decide +kernel
theorem dX2_canEnd_7 : decode cX2_canEnd 7 = .ok (.iload_n 1, 1) := by decide +kernel
theorem dX2_canEnd_8 : decode cX2_canEnd 8 = .ok (.baload, 1) := by decide +kernel
