theorem dX3_lifted_61 : decode cX3_lifted 61 = .ok (.iload_n 1, 1) := by decide +kernel
theorem dX3_lifted_62 : decode cX3_lifted 62 = .ok (.iaload, 1) := by decide +kernel
theorem dX3_lifted_63 : decode cX3_lifted 63 = .ok (.invokevirtual 106, 3) := by decide +kernel
theorem dX3_lifted_66 : decode cX3_lifted 66 = .ok (.iadd, 1) := by decide +kernel
theorem dX3_lifted_67 : decode cX3_lifted 67 = .ok (.aload_n 0, 1) := by decide +kernel
theorem dX3_lifted_68 : decode cX3_lifted 68 = .ok (.getfield 21, 3) := by decide +kernel
theorem dX3_lifted_71 : decode cX3_lifted 71 = .ok (.aload_n 0, 1) := by decide +kernel
theorem dX3_lifted_72 : decode cX3_lifted 72 = .ok (.getfield 12, 3) := by decide +kernel
theorem dX3_lifted_75 : decode cX3_lifted 75 = .ok (.getfield 120, 3) := by decide +kernel
theorem dX3_lifted_78 : decode cX3_lifted 78 = .ok (.iload_n 1, 1) := by decide +kernel
theorem dX3_lifted_79 : decode cX3_lifted 79 = .ok (.iaload, 1) := by decide +kernel
theorem dX3_lifted_80 : decode cX3_lifted 80 = .ok (.invokevirtual 106, 3) := by decide +kernel
theorem dX3_lifted_83 : decode cX3_lifted 83 = .ok (.isub, 1) := by decide +kernel
theorem dX3_lifted_84 : decode cX3_lifted 84 = .ok (.ireturn, 1) := by decide +kernel
set_option maxRecDepth 20000 in
theorem ggX3_spare_X0_hasArc : GoodIn wsX3_spare wsX0_hasArc := goodIn_r _ [14, 15, 70, 71, 72, 73, 74, 75, 76] (by decide +kernel) (by decide +kernel)
set_option maxRecDepth 20000 in
theorem gX3_spare_X0_hasArc : GoodIn wsX3_spare (wsV RX3 58 RX0 yX0_hasArc wsX0_hasArc) := goodIn_app (goodIn_of _ (by decide +kernel)) ggX3_spare_X0_hasArc
set_option maxRecDepth 20000 in
theorem ggX3_spare_X3_walksUpTo : GoodIn wsX3_spare wsX3_walksUpTo := goodIn_r _ [20, 5, 21, 22, 23, 24, 25, 26, 27, 28, 29, 30, 31, 32, 33, 34, 35, 36, 37, 38, 39, 40, 41, 42, 43, 44, 45, 46, 47, 48, 49, 50, 51, 52, 53, 67, 68, 69, 77, 78, 79, 80, 70, 71, 72, 73, 74, 75, 76] (by decide +kernel) (by decide +kernel)
set_option maxRecDepth 20000 in
theorem gX3_spare_X3_walksUpTo : GoodIn wsX3_spare (wsV RX3 76 RX3 yX3_walksUpTo wsX3_walksUpTo) := goodIn_app (goodIn_of _ (by decide +kernel)) ggX3_spare_X3_walksUpTo
set_option maxRecDepth 20000 in
theorem ggX3_spare_X2_someRingFalls : GoodIn wsX3_spare wsX2_someRingFalls := goodIn_r _ [57, 27, 35, 58, 59, 60, 24, 61, 62, 63, 64, 65, 34, 77, 78, 79, 80, 70, 71, 72, 73, 74, 75, 76] (by decide +kernel) (by decide +kernel)
set_option maxRecDepth 20000 in
theorem gX3_spare_X2_someRingFalls : GoodIn wsX3_spare (wsV RX3 101 RX2 yX2_someRingFalls wsX2_someRingFalls) := goodIn_app (goodIn_of _ (by decide +kernel)) ggX3_spare_X2_someRingFalls
set_option maxRecDepth 20000 in
theorem ggX3_spare_X2_lightest : GoodIn wsX3_spare wsX2_lightest := goodIn_r _ [65, 34, 77, 78, 79, 80] (by decide +kernel) (by decide +kernel)
set_option maxRecDepth 20000 in
theorem gX3_spare_X2_lightest : GoodIn wsX3_spare (wsV RX3 86 RX2 yX2_lightest wsX2_lightest) := goodIn_app (goodIn_of _ (by decide +kernel)) ggX3_spare_X2_lightest
theorem dX3_spare_0 : decode cX3_spare 0 = .ok (.aload_n 0, 1) := by decide +kernel
theorem dX3_spare_1 : decode cX3_spare 1 = .ok (.getfield 12, 3) := by decide +kernel
theorem dX3_spare_4 : decode cX3_spare 4 = .ok (.iload_n 1, 1) := by decide +kernel
theorem dX3_spare_5 : decode cX3_spare 5 = .ok (.invokevirtual 58, 3) := by decide +kernel
theorem dX3_spare_8 : decode cX3_spare 8 = .ok (.ifCond .ne 6, 3) := by decide +kernel
theorem dX3_spare_11 : decode cX3_spare 11 = .ok (.ldc 45, 2) := by decide +kernel
theorem dX3_spare_13 : decode cX3_spare 13 = .ok (.ireturn, 1) := by decide +kernel
theorem dX3_spare_14 : decode cX3_spare 14 = .ok (.aload_n 0, 1) := by decide +kernel
theorem dX3_spare_15 : decode cX3_spare 15 = .ok (.getfield 12, 3) := by decide +kernel
theorem dX3_spare_18 : decode cX3_spare 18 = .ok (.getfield 109, 3) := by decide +kernel
theorem dX3_spare_21 : decode cX3_spare 21 = .ok (.iload_n 1, 1) := by decide +kernel
theorem dX3_spare_22 : decode cX3_spare 22 = .ok (.baload, 1) := by decide +kernel
theorem dX3_spare_23 : decode cX3_spare 23 = .ok (.ifCond .eq 15, 3) := by decide +kernel
theorem dX3_spare_26 : decode cX3_spare 26 = .ok (.aload_n 0, 1) := by decide +kernel
theorem dX3_spare_27 : decode cX3_spare 27 = .ok (.bipush 12, 2) := by decide +kernel
theorem dX3_spare_29 : decode cX3_spare 29 = .ok (.invokevirtual 76, 3) := by decide +kernel
theorem dX3_spare_32 : decode cX3_spare 32 = .ok (.invokevirtual 101, 3) := by decide +kernel
theorem dX3_spare_35 : decode cX3_spare 35 = .ok (.ifCond .eq 6, 3) := by decide +kernel
theorem dX3_spare_38 : decode cX3_spare 38 = .ok (.ldc 105, 2) := by decide +kernel
theorem dX3_spare_40 : decode cX3_spare 40 = .ok (.ireturn, 1) := by decide +kernel
theorem dX3_spare_41 : decode cX3_spare 41 = .ok (.aload_n 0, 1) := by decide +kernel
theorem dX3_spare_42 : decode cX3_spare 42 = .ok (.getfield 21, 3) := by decide +kernel
theorem dX3_spare_45 : decode cX3_spare 45 = .ok (.bipush 12, 2) := by decide +kernel
theorem dX3_spare_47 : decode cX3_spare 47 = .ok (.aload_n 0, 1) := by decide +kernel
theorem dX3_spare_48 : decode cX3_spare 48 = .ok (.getfield 12, 3) := by decide +kernel
theorem dX3_spare_51 : decode cX3_spare 51 = .ok (.getfield 120, 3) := by decide +kernel
theorem dX3_spare_54 : decode cX3_spare 54 = .ok (.iload_n 1, 1) := by decide +kernel
theorem dX3_spare_55 : decode cX3_spare 55 = .ok (.iaload, 1) := by decide +kernel
theorem dX3_spare_56 : decode cX3_spare 56 = .ok (.aload_n 0, 1) := by decide +kernel
theorem dX3_spare_57 : decode cX3_spare 57 = .ok (.getfield 12, 3) := by decide +kernel
theorem dX3_spare_60 : decode cX3_spare 60 = .ok (.getfield 117, 3) := by decide +kernel
theorem dX3_spare_63 : decode cX3_spare 63 = .ok (.iload_n 1, 1) := by decide +kernel
theorem dX3_spare_64 : decode cX3_spare 64 = .ok (.iaload, 1) := by decide +kernel
theorem dX3_spare_65 : decode cX3_spare 65 = .ok (.invokevirtual 86, 3) := by decide +kernel
theorem dX3_spare_68 : decode cX3_spare 68 = .ok (.istore_n 2, 1) := by decide +kernel
theorem dX3_spare_69 : decode cX3_spare 69 = .ok (.iload_n 2, 1) := by decide +kernel
theorem dX3_spare_70 : decode cX3_spare 70 = .ok (.ldc 123, 2) := by decide +kernel
theorem dX3_spare_72 : decode cX3_spare 72 = .ok (.if_icmp .ne 8, 3) := by decide +kernel
theorem dX3_spare_75 : decode cX3_spare 75 = .ok (.ldc 123, 2) := by decide +kernel
theorem dX3_spare_77 : decode cX3_spare 77 = .ok (.goto 14, 3) := by decide +kernel
theorem dX3_spare_80 : decode cX3_spare 80 = .ok (.aload_n 0, 1) := by decide +kernel
theorem dX3_spare_81 : decode cX3_spare 81 = .ok (.getfield 12, 3) := by decide +kernel
theorem dX3_spare_84 : decode cX3_spare 84 = .ok (.getfield 113, 3) := by decide +kernel
theorem dX3_spare_87 : decode cX3_spare 87 = .ok (.iload_n 1, 1) := by decide +kernel
theorem dX3_spare_88 : decode cX3_spare 88 = .ok (.iaload, 1) := by decide +kernel
theorem dX3_spare_89 : decode cX3_spare 89 = .ok (.iload_n 2, 1) := by decide +kernel
theorem dX3_spare_90 : decode cX3_spare 90 = .ok (.iadd, 1) := by decide +kernel
theorem dX3_spare_91 : decode cX3_spare 91 = .ok (.ireturn, 1) := by decide +kernel
set_option maxRecDepth 20000 in
theorem ggX3_order_X3_ringlessNow : GoodIn wsX3_order wsX3_ringlessNow := goodIn_r _ [7, 2, 8, 9, 10, 11, 12, 13, 14, 15, 16, 17, 18, 19, 20, 21, 22, 23, 24, 25, 26, 27, 28, 29, 30, 31, 32, 33, 34, 35, 36, 37, 38, 39, 40, 41, 42, 43, 44, 45, 46, 47, 48, 49, 50, 51, 52, 53, 54, 55, 56, 57, 58, 59, 60, 61, 62, 63, 64, 65, 66, 67, 68, 69, 70, 71, 77, 78, 79, 80, 81, 82, 83, 84, 85, 86, 87, 88, 89, 90, 91, 92, 93, 94] (by decide +kernel) (by decide +kernel)
set_option maxRecDepth 20000 in
theorem gX3_order_X3_ringlessNow : GoodIn wsX3_order (wsV RX3 124 RX3 yX3_ringlessNow wsX3_ringlessNow) := goodIn_app (goodIn_of _ (by decide +kernel)) ggX3_order_X3_ringlessNow
set_option maxRecDepth 20000 in
theorem ggX3_order_X1_hasRing : GoodIn wsX3_order wsX1_hasRing := goodIn_r _ [39, 20, 14, 21, 80, 81, 82, 83, 84, 85, 86, 87, 88, 89, 90, 91, 92, 93, 94] (by decide +kernel) (by decide +kernel)
set_option maxRecDepth 20000 in
theorem gX3_order_X1_hasRing : GoodIn wsX3_order (wsV RX3 128 RX1 yX1_hasRing wsX1_hasRing) := goodIn_app (goodIn_of _ (by decide +kernel)) ggX3_order_X1_hasRing
set_option maxRecDepth 20000 in
theorem ggX3_order_X1_nodeAt : GoodIn wsX3_order wsX1_nodeAt := goodIn_r _ [76, 20, 23, 80, 81, 82, 83, 84, 85, 86, 87] (by decide +kernel) (by decide +kernel)
set_option maxRecDepth 20000 in
theorem gX3_order_X1_nodeAt : GoodIn wsX3_order (wsV RX3 131 RX1 yX1_nodeAt wsX1_nodeAt) := goodIn_app (goodIn_of _ (by decide +kernel)) ggX3_order_X1_nodeAt
theorem dX3_order_0 : decode cX3_order 0 = .ok (.aload_n 0, 1) := by decide +kernel
theorem dX3_order_1 : decode cX3_order 1 = .ok (.invokevirtual 124, 3) := by decide +kernel
theorem dX3_order_4 : decode cX3_order 4 = .ok (.invokevirtual 128, 3) := by decide +kernel
theorem dX3_order_7 : decode cX3_order 7 = .ok (.ifCond .eq 6, 3) := by decide +kernel
theorem dX3_order_10 : decode cX3_order 10 = .ok (.ldc 105, 2) := by decide +kernel
theorem dX3_order_12 : decode cX3_order 12 = .ok (.ireturn, 1) := by decide +kernel
theorem dX3_order_13 : decode cX3_order 13 = .ok (.aload_n 0, 1) := by decide +kernel
theorem dX3_order_14 : decode cX3_order 14 = .ok (.getfield 28, 3) := by decide +kernel
theorem dX3_order_17 : decode cX3_order 17 = .ok (.iload_n 1, 1) := by decide +kernel
theorem dX3_order_18 : decode cX3_order 18 = .ok (.invokevirtual 131, 3) := by decide +kernel
theorem dX3_order_21 : decode cX3_order 21 = .ok (.ireturn, 1) := by decide +kernel
set_option maxRecDepth 20000 in
theorem ggX3_far_X0_hasNode : GoodIn wsX3_far wsX0_hasNode := goodIn_r _ [10, 11, 93, 94, 95, 96, 97, 98, 99] (by decide +kernel) (by decide +kernel)
set_option maxRecDepth 20000 in
theorem gX3_far_X0_hasNode : GoodIn wsX3_far (wsV RX3 89 RX0 yX0_hasNode wsX0_hasNode) := goodIn_app (goodIn_of _ (by decide +kernel)) ggX3_far_X0_hasNode
set_option maxRecDepth 20000 in
theorem ggX3_far_X3_ringlessNow : GoodIn wsX3_far wsX3_ringlessNow := goodIn_r _ [16, 4, 17, 18, 19, 20, 21, 22, 23, 24, 25, 26, 27, 28, 29, 30, 31, 32, 33, 34, 35, 36, 37, 38, 39, 40, 41, 42, 43, 44, 45, 46, 47, 48, 49, 50, 51, 52, 53, 54, 55, 56, 57, 58, 59, 60, 61, 62, 63, 64, 65, 66, 67, 68, 69, 70, 71, 72, 73, 74, 75, 76, 77, 78, 79, 80, 82, 83, 84, 85, 86, 87, 88, 89, 90, 91, 92, 93, 94, 95, 96, 97, 98, 99] (by decide +kernel) (by decide +kernel)
set_option maxRecDepth 20000 in
theorem gX3_far_X3_ringlessNow : GoodIn wsX3_far (wsV RX3 124 RX3 yX3_ringlessNow wsX3_ringlessNow) := goodIn_app (goodIn_of _ (by decide +kernel)) ggX3_far_X3_ringlessNow
set_option maxRecDepth 20000 in
theorem ggX3_far_X1_hasRing : GoodIn wsX3_far wsX1_hasRing := goodIn_r _ [48, 29, 23, 30, 85, 86, 87, 88, 89, 90, 91, 92, 93, 94, 95, 96, 97, 98, 99] (by decide +kernel) (by decide +kernel)
set_option maxRecDepth 20000 in
theorem gX3_far_X1_hasRing : GoodIn wsX3_far (wsV RX3 128 RX1 yX1_hasRing wsX1_hasRing) := goodIn_app (goodIn_of _ (by decide +kernel)) ggX3_far_X1_hasRing
theorem dX3_far_0 : decode cX3_far 0 = .ok (.aload_n 0, 1) := by decide +kernel
theorem dX3_far_1 : decode cX3_far 1 = .ok (.getfield 12, 3) := by decide +kernel
theorem dX3_far_4 : decode cX3_far 4 = .ok (.iload_n 1, 1) := by decide +kernel
theorem dX3_far_5 : decode cX3_far 5 = .ok (.invokevirtual 89, 3) := by decide +kernel
theorem dX3_far_8 : decode cX3_far 8 = .ok (.ifCond .ne 6, 3) := by decide +kernel
theorem dX3_far_11 : decode cX3_far 11 = .ok (.ldc 45, 2) := by decide +kernel
theorem dX3_far_13 : decode cX3_far 13 = .ok (.ireturn, 1) := by decide +kernel
theorem dX3_far_14 : decode cX3_far 14 = .ok (.aload_n 0, 1) := by decide +kernel
theorem dX3_far_15 : decode cX3_far 15 = .ok (.invokevirtual 124, 3) := by decide +kernel
theorem dX3_far_18 : decode cX3_far 18 = .ok (.invokevirtual 128, 3) := by decide +kernel
theorem dX3_far_21 : decode cX3_far 21 = .ok (.ifCond .eq 6, 3) := by decide +kernel
theorem dX3_far_24 : decode cX3_far 24 = .ok (.ldc 105, 2) := by decide +kernel
theorem dX3_far_26 : decode cX3_far 26 = .ok (.ireturn, 1) := by decide +kernel
theorem dX3_far_27 : decode cX3_far 27 = .ok (.aload_n 0, 1) := by decide +kernel
theorem dX3_far_28 : decode cX3_far 28 = .ok (.getfield 28, 3) := by decide +kernel
theorem dX3_far_31 : decode cX3_far 31 = .ok (.getfield 134, 3) := by decide +kernel
theorem dX3_far_34 : decode cX3_far 34 = .ok (.iload_n 1, 1) := by decide +kernel
theorem dX3_far_35 : decode cX3_far 35 = .ok (.iaload, 1) := by decide +kernel
theorem dX3_far_36 : decode cX3_far 36 = .ok (.ireturn, 1) := by decide +kernel
set_option maxRecDepth 20000 in
theorem ggX3_late_X0_hasNode : GoodIn wsX3_late wsX0_hasNode := goodIn_r _ [9, 10, 88, 89, 90, 91, 92, 93, 94] (by decide +kernel) (by decide +kernel)
set_option maxRecDepth 20000 in
theorem gX3_late_X0_hasNode : GoodIn wsX3_late (wsV RX3 89 RX0 yX0_hasNode wsX0_hasNode) := goodIn_app (goodIn_of _ (by decide +kernel)) ggX3_late_X0_hasNode
set_option maxRecDepth 20000 in
theorem ggX3_late_X3_ringlessNow : GoodIn wsX3_late wsX3_ringlessNow := goodIn_r _ [15, 4, 16, 17, 18, 19, 20, 21, 22, 23, 24, 25, 26, 27, 28, 29, 30, 31, 32, 33, 34, 35, 36, 37, 38, 39, 40, 41, 42, 43, 44, 45, 46, 47, 48, 49, 50, 51, 52, 53, 54, 55, 56, 57, 58, 59, 60, 61, 62, 63, 64, 65, 66, 67, 68, 69, 70, 71, 72, 73, 74, 75, 76, 77, 78, 79, 85, 86, 87, 95, 96, 97, 98, 99, 100, 101, 102, 88, 89, 90, 91, 92, 93, 94] (by decide +kernel) (by decide +kernel)
set_option maxRecDepth 20000 in
theorem gX3_late_X3_ringlessNow : GoodIn wsX3_late (wsV RX3 124 RX3 yX3_ringlessNow wsX3_ringlessNow) := goodIn_app (goodIn_of _ (by decide +kernel)) ggX3_late_X3_ringlessNow
set_option maxRecDepth 20000 in
theorem ggX3_late_X1_hasRing : GoodIn wsX3_late wsX1_hasRing := goodIn_r _ [47, 28, 22, 29, 95, 96, 97, 98, 99, 100, 101, 102, 88, 89, 90, 91, 92, 93, 94] (by decide +kernel) (by decide +kernel)
set_option maxRecDepth 20000 in
theorem gX3_late_X1_hasRing : GoodIn wsX3_late (wsV RX3 128 RX1 yX1_hasRing wsX1_hasRing) := goodIn_app (goodIn_of _ (by decide +kernel)) ggX3_late_X1_hasRing
set_option maxRecDepth 20000 in
theorem ggX3_late_X1_latest : GoodIn wsX3_late wsX1_latest := goodIn_r _ [84, 66, 71, 95, 96, 97, 98, 99, 100, 101, 102] (by decide +kernel) (by decide +kernel)
set_option maxRecDepth 20000 in
theorem gX3_late_X1_latest : GoodIn wsX3_late (wsV RX3 137 RX1 yX1_latest wsX1_latest) := goodIn_app (goodIn_of _ (by decide +kernel)) ggX3_late_X1_latest
theorem dX3_late_0 : decode cX3_late 0 = .ok (.aload_n 0, 1) := by decide +kernel
theorem dX3_late_1 : decode cX3_late 1 = .ok (.getfield 12, 3) := by decide +kernel
theorem dX3_late_4 : decode cX3_late 4 = .ok (.iload_n 1, 1) := by decide +kernel
theorem dX3_late_5 : decode cX3_late 5 = .ok (.invokevirtual 89, 3) := by decide +kernel
theorem dX3_late_8 : decode cX3_late 8 = .ok (.ifCond .ne 6, 3) := by decide +kernel
theorem dX3_late_11 : decode cX3_late 11 = .ok (.ldc 45, 2) := by decide +kernel
theorem dX3_late_13 : decode cX3_late 13 = .ok (.ireturn, 1) := by decide +kernel
theorem dX3_late_14 : decode cX3_late 14 = .ok (.aload_n 0, 1) := by decide +kernel
theorem dX3_late_15 : decode cX3_late 15 = .ok (.invokevirtual 124, 3) := by decide +kernel
theorem dX3_late_18 : decode cX3_late 18 = .ok (.invokevirtual 128, 3) := by decide +kernel
theorem dX3_late_21 : decode cX3_late 21 = .ok (.ifCond .eq 6, 3) := by decide +kernel
theorem dX3_late_24 : decode cX3_late 24 = .ok (.ldc 105, 2) := by decide +kernel
theorem dX3_late_26 : decode cX3_late 26 = .ok (.ireturn, 1) := by decide +kernel
theorem dX3_late_27 : decode cX3_late 27 = .ok (.aload_n 0, 1) := by decide +kernel
theorem dX3_late_28 : decode cX3_late 28 = .ok (.getfield 28, 3) := by decide +kernel
theorem dX3_late_31 : decode cX3_late 31 = .ok (.iload_n 1, 1) := by decide +kernel
theorem dX3_late_32 : decode cX3_late 32 = .ok (.invokevirtual 137, 3) := by decide +kernel
theorem dX3_late_35 : decode cX3_late 35 = .ok (.ireturn, 1) := by decide +kernel
set_option maxRecDepth 20000 in
theorem ggX3_whole_X3_ringlessNow : GoodIn wsX3_whole wsX3_ringlessNow := goodIn_r _ [8, 2, 9, 10, 11, 12, 13, 14, 15, 16, 17, 18, 19, 20, 21, 22, 23, 24, 25, 26, 27, 28, 29, 30, 31, 32, 33, 34, 35, 36, 37, 38, 39, 40, 41, 42, 43, 44, 45, 46, 47, 48, 49, 50, 51, 52, 53, 54, 55, 56, 57, 58, 59, 60, 61, 62, 63, 64, 65, 66, 67, 68, 69, 70, 71, 72, 74, 75, 76, 77, 78, 79, 80, 81, 82, 83, 84, 85, 86, 87, 88, 89, 90, 91] (by decide +kernel) (by decide +kernel)
set_option maxRecDepth 20000 in
theorem gX3_whole_X3_ringlessNow : GoodIn wsX3_whole (wsV RX3 124 RX3 yX3_ringlessNow wsX3_ringlessNow) := goodIn_app (goodIn_of _ (by decide +kernel)) ggX3_whole_X3_ringlessNow
set_option maxRecDepth 20000 in
theorem ggX3_whole_X1_hasRing : GoodIn wsX3_whole wsX1_hasRing := goodIn_r _ [40, 21, 15, 22, 77, 78, 79, 80, 81, 82, 83, 84, 85, 86, 87, 88, 89, 90, 91] (by decide +kernel) (by decide +kernel)
set_option maxRecDepth 20000 in
theorem gX3_whole_X1_hasRing : GoodIn wsX3_whole (wsV RX3 128 RX1 yX1_hasRing wsX1_hasRing) := goodIn_app (goodIn_of _ (by decide +kernel)) ggX3_whole_X1_hasRing
theorem dX3_whole_0 : decode cX3_whole 0 = .ok (.aload_n 0, 1) := by decide +kernel
theorem dX3_whole_1 : decode cX3_whole 1 = .ok (.invokevirtual 124, 3) := by decide +kernel
theorem dX3_whole_4 : decode cX3_whole 4 = .ok (.invokevirtual 128, 3) := by decide +kernel
theorem dX3_whole_7 : decode cX3_whole 7 = .ok (.ifCond .eq 6, 3) := by decide +kernel
theorem dX3_whole_10 : decode cX3_whole 10 = .ok (.ldc 105, 2) := by decide +kernel
theorem dX3_whole_12 : decode cX3_whole 12 = .ok (.ireturn, 1) := by decide +kernel
theorem dX3_whole_13 : decode cX3_whole 13 = .ok (.aload_n 0, 1) := by decide +kernel
theorem dX3_whole_14 : decode cX3_whole 14 = .ok (.getfield 28, 3) := by decide +kernel
theorem dX3_whole_17 : decode cX3_whole 17 = .ok (.getfield 140, 3) := by decide +kernel
theorem dX3_whole_20 : decode cX3_whole 20 = .ok (.ireturn, 1) := by decide +kernel
set_option maxRecDepth 20000 in
theorem ggX3_critical_X3_ringlessNow : GoodIn wsX3_critical wsX3_ringlessNow := goodIn_r _ [7, 2, 8, 9, 10, 11, 12, 13, 14, 15, 16, 17, 18, 19, 20, 21, 22, 23, 24, 25, 26, 27, 28, 29, 30, 31, 32, 33, 34, 35, 36, 37, 38, 39, 40, 41, 42, 43, 44, 45, 46, 47, 48, 49, 50, 51, 52, 53, 54, 55, 56, 57, 58, 59, 60, 61, 62, 63, 64, 65, 66, 67, 68, 69, 70, 71, 89, 90, 91, 92, 93, 94, 95, 96, 97, 98, 99, 100, 101, 102, 103, 104, 105, 106] (by decide +kernel) (by decide +kernel)
set_option maxRecDepth 20000 in
theorem gX3_critical_X3_ringlessNow : GoodIn wsX3_critical (wsV RX3 124 RX3 yX3_ringlessNow wsX3_ringlessNow) := goodIn_app (goodIn_of _ (by decide +kernel)) ggX3_critical_X3_ringlessNow
set_option maxRecDepth 20000 in
theorem ggX3_critical_X1_hasRing : GoodIn wsX3_critical wsX1_hasRing := goodIn_r _ [39, 20, 14, 21, 92, 93, 94, 95, 96, 97, 98, 99, 100, 101, 102, 103, 104, 105, 106] (by decide +kernel) (by decide +kernel)
set_option maxRecDepth 20000 in
theorem gX3_critical_X1_hasRing : GoodIn wsX3_critical (wsV RX3 128 RX1 yX1_hasRing wsX1_hasRing) := goodIn_app (goodIn_of _ (by decide +kernel)) ggX3_critical_X1_hasRing
set_option maxRecDepth 20000 in
theorem ggX3_critical_X1_criticalArc : GoodIn wsX3_critical wsX1_criticalArc := goodIn_r _ [76, 58, 14, 49, 34, 77, 78, 79, 11, 80, 81, 82, 83, 84, 21, 63, 85, 86, 87, 88, 32, 35, 33, 92, 93, 94, 95, 96, 97, 98, 99, 100, 101, 102, 103, 104, 105, 106] (by decide +kernel) (by decide +kernel)
set_option maxRecDepth 20000 in
theorem gX3_critical_X1_criticalArc : GoodIn wsX3_critical (wsV RX3 143 RX1 yX1_criticalArc wsX1_criticalArc) := goodIn_app (goodIn_of _ (by decide +kernel)) ggX3_critical_X1_criticalArc
theorem dX3_critical_0 : decode cX3_critical 0 = .ok (.aload_n 0, 1) := by decide +kernel
theorem dX3_critical_1 : decode cX3_critical 1 = .ok (.invokevirtual 124, 3) := by decide +kernel
theorem dX3_critical_4 : decode cX3_critical 4 = .ok (.invokevirtual 128, 3) := by decide +kernel
theorem dX3_critical_7 : decode cX3_critical 7 = .ok (.ifCond .eq 6, 3) := by decide +kernel
theorem dX3_critical_10 : decode cX3_critical 10 = .ok (.ldc 105, 2) := by decide +kernel
theorem dX3_critical_12 : decode cX3_critical 12 = .ok (.ireturn, 1) := by decide +kernel
theorem dX3_critical_13 : decode cX3_critical 13 = .ok (.aload_n 0, 1) := by decide +kernel
theorem dX3_critical_14 : decode cX3_critical 14 = .ok (.getfield 28, 3) := by decide +kernel
theorem dX3_critical_17 : decode cX3_critical 17 = .ok (.iload_n 1, 1) := by decide +kernel
theorem dX3_critical_18 : decode cX3_critical 18 = .ok (.invokevirtual 143, 3) := by decide +kernel
theorem dX3_critical_21 : decode cX3_critical 21 = .ok (.ireturn, 1) := by decide +kernel
theorem dX3_isOutside_0 : decode cX3_isOutside 0 = .ok (.iload_n 0, 1) := by decide +kernel
theorem dX3_isOutside_1 : decode cX3_isOutside 1 = .ok (.iload_n 1, 1) := by decide +kernel
theorem dX3_isOutside_2 : decode cX3_isOutside 2 = .ok (.if_icmp .lt 8, 3) := by decide +kernel
theorem dX3_isOutside_5 : decode cX3_isOutside 5 = .ok (.iload_n 0, 1) := by decide +kernel
theorem dX3_isOutside_6 : decode cX3_isOutside 6 = .ok (.iload_n 2, 1) := by decide +kernel
theorem dX3_isOutside_7 : decode cX3_isOutside 7 = .ok (.if_icmp .le 7, 3) := by decide +kernel
theorem dX3_isOutside_10 : decode cX3_isOutside 10 = .ok (.iconst 1, 1) := by decide +kernel
theorem dX3_isOutside_11 : decode cX3_isOutside 11 = .ok (.goto 4, 3) := by decide +kernel
theorem dX3_isOutside_14 : decode cX3_isOutside 14 = .ok (.iconst 0, 1) := by decide +kernel
theorem dX3_isOutside_15 : decode cX3_isOutside 15 = .ok (.ireturn, 1) := by decide +kernel
set_option maxRecDepth 20000 in
theorem ggX3_walksUpTo_X2_workOut : GoodIn wsX3_walksUpTo wsX2_workOut := goodIn_r _ [6, 7, 8, 9, 10, 11, 12, 13, 5, 14, 15, 16, 17, 18, 19, 20, 21, 22, 23, 24, 25, 26, 27, 28, 29, 30, 31, 32, 33, 34, 38, 39, 40, 41, 42, 43, 44, 45, 46, 47, 48] (by decide +kernel) (by decide +kernel)
set_option maxRecDepth 20000 in
theorem gX3_walksUpTo_X2_workOut : GoodIn wsX3_walksUpTo (wsV RX3 146 RX2 yX2_workOut wsX2_workOut) := goodIn_app (goodIn_of _ (by decide +kernel)) ggX3_walksUpTo_X2_workOut
theorem dX3_walksUpTo_0 : decode cX3_walksUpTo 0 = .ok (.aload_n 0, 1) := by decide +kernel
theorem dX3_walksUpTo_1 : decode cX3_walksUpTo 1 = .ok (.getfield 21, 3) := by decide +kernel
theorem dX3_walksUpTo_4 : decode cX3_walksUpTo 4 = .ok (.iload_n 1, 1) := by decide +kernel
theorem dX3_walksUpTo_5 : decode cX3_walksUpTo 5 = .ok (.invokevirtual 146, 3) := by decide +kernel
theorem dX3_walksUpTo_8 : decode cX3_walksUpTo 8 = .ok (.aload_n 0, 1) := by decide +kernel
theorem dX3_walksUpTo_9 : decode cX3_walksUpTo 9 = .ok (.getfield 21, 3) := by decide +kernel
theorem dX3_walksUpTo_12 : decode cX3_walksUpTo 12 = .ok (.areturn, 1) := by decide +kernel
set_option maxRecDepth 20000 in
theorem ggX3_ringlessNow_X1_workOut : GoodIn wsX3_ringlessNow wsX1_workOut := goodIn_r _ [6, 7, 8, 9, 10, 11, 12, 5, 13, 14, 15, 16, 17, 18, 19, 20, 21, 22, 23, 24, 25, 26, 27, 28, 29, 30, 31, 32, 33, 34, 35, 36, 37, 38, 39, 40, 41, 42, 43, 44, 45, 46, 47, 48, 49, 50, 51, 52, 53, 54, 55, 56, 57, 58, 59, 60, 61, 62, 63, 64, 65, 69, 70, 71, 72, 73, 74, 75, 76, 77, 78, 79, 80, 81, 82, 83] (by decide +kernel) (by decide +kernel)
set_option maxRecDepth 20000 in
theorem gX3_ringlessNow_X1_workOut : GoodIn wsX3_ringlessNow (wsV RX3 150 RX1 yX1_workOut wsX1_workOut) := goodIn_app (goodIn_of _ (by decide +kernel)) ggX3_ringlessNow_X1_workOut
theorem dX3_ringlessNow_0 : decode cX3_ringlessNow 0 = .ok (.aload_n 0, 1) := by decide +kernel
theorem dX3_ringlessNow_1 : decode cX3_ringlessNow 1 = .ok (.getfield 28, 3) := by decide +kernel
theorem dX3_ringlessNow_4 : decode cX3_ringlessNow 4 = .ok (.invokevirtual 150, 3) := by decide +kernel
theorem dX3_ringlessNow_7 : decode cX3_ringlessNow 7 = .ok (.aload_n 0, 1) := by decide +kernel
theorem dX3_ringlessNow_8 : decode cX3_ringlessNow 8 = .ok (.getfield 28, 3) := by decide +kernel
theorem dX3_ringlessNow_11 : decode cX3_ringlessNow 11 = .ok (.areturn, 1) := by decide +kernel
theorem dX4_init_0 : decode cX4_init 0 = .ok (.aload_n 0, 1) := by decide +kernel
theorem dX4_init_1 : decode cX4_init 1 = .ok (.invokespecial 1, 3) := by decide +kernel
theorem dX4_init_4 : decode cX4_init 4 = .ok (.aload_n 0, 1) := by decide +kernel
theorem dX4_init_5 : decode cX4_init 5 = .ok (.bipush 40, 2) := by decide +kernel
theorem dX4_init_7 : decode cX4_init 7 = .ok (.newarray .int, 2) := by decide +kernel
theorem dX4_init_9 : decode cX4_init 9 = .ok (.putfield 7, 3) := by decide +kernel
theorem dX4_init_12 : decode cX4_init 12 = .ok (.aload_n 0, 1) := by decide +kernel
theorem dX4_init_13 : decode cX4_init 13 = .ok (.bipush 40, 2) := by decide +kernel
theorem dX4_init_15 : decode cX4_init 15 = .ok (.newarray .int, 2) := by decide +kernel
theorem dX4_init_17 : decode cX4_init 17 = .ok (.putfield 13, 3) := by decide +kernel
theorem dX4_init_20 : decode cX4_init 20 = .ok (.aload_n 0, 1) := by decide +kernel
theorem dX4_init_21 : decode cX4_init 21 = .ok (.bipush 40, 2) := by decide +kernel
theorem dX4_init_23 : decode cX4_init 23 = .ok (.newarray .int, 2) := by decide +kernel
theorem dX4_init_25 : decode cX4_init 25 = .ok (.putfield 16, 3) := by decide +kernel
theorem dX4_init_28 : decode cX4_init 28 = .ok (.aload_n 0, 1) := by decide +kernel
theorem dX4_init_29 : decode cX4_init 29 = .ok (.bipush 40, 2) := by decide +kernel
theorem dX4_init_31 : decode cX4_init 31 = .ok (.newarray .boolean, 2) := by decide +kernel
theorem dX4_init_33 : decode cX4_init 33 = .ok (.putfield 19, 3) := by decide +kernel
theorem dX4_init_36 : decode cX4_init 36 = .ok (.aload_n 0, 1) := by decide +kernel
theorem dX4_init_37 : decode cX4_init 37 = .ok (.sipush 144, 3) := by decide +kernel
theorem dX4_init_40 : decode cX4_init 40 = .ok (.newarray .long, 2) := by decide +kernel
theorem dX4_init_42 : decode cX4_init 42 = .ok (.putfield 23, 3) := by decide +kernel
theorem dX4_init_45 : decode cX4_init 45 = .ok (.aload_n 0, 1) := by decide +kernel
theorem dX4_init_46 : decode cX4_init 46 = .ok (.sipush 144, 3) := by decide +kernel
theorem dX4_init_49 : decode cX4_init 49 = .ok (.newarray .long, 2) := by decide +kernel
theorem dX4_init_51 : decode cX4_init 51 = .ok (.putfield 27, 3) := by decide +kernel
theorem dX4_init_54 : decode cX4_init 54 = .ok (.aload_n 0, 1) := by decide +kernel
theorem dX4_init_55 : decode cX4_init 55 = .ok (.sipush 144, 3) := by decide +kernel
theorem dX4_init_58 : decode cX4_init 58 = .ok (.newarray .long, 2) := by decide +kernel
theorem dX4_init_60 : decode cX4_init 60 = .ok (.putfield 30, 3) := by decide +kernel
theorem dX4_init_63 : decode cX4_init 63 = .ok (.aload_n 0, 1) := by decide +kernel
theorem dX4_init_64 : decode cX4_init 64 = .ok (.sipush 144, 3) := by decide +kernel
theorem dX4_init_67 : decode cX4_init 67 = .ok (.newarray .long, 2) := by decide +kernel
theorem dX4_init_69 : decode cX4_init 69 = .ok (.putfield 33, 3) := by decide +kernel
theorem dX4_init_72 : decode cX4_init 72 = .ok (.aload_n 0, 1) := by decide +kernel
theorem dX4_init_73 : decode cX4_init 73 = .ok (.sipush 144, 3) := by decide +kernel
theorem dX4_init_76 : decode cX4_init 76 = .ok (.newarray .long, 2) := by decide +kernel
theorem dX4_init_78 : decode cX4_init 78 = .ok (.putfield 36, 3) := by decide +kernel
theorem dX4_init_81 : decode cX4_init 81 = .ok (.aload_n 0, 1) := by decide +kernel
theorem dX4_init_82 : decode cX4_init 82 = .ok (.bipush 12, 2) := by decide +kernel
theorem dX4_init_84 : decode cX4_init 84 = .ok (.newarray .int, 2) := by decide +kernel
theorem dX4_init_86 : decode cX4_init 86 = .ok (.putfield 39, 3) := by decide +kernel
theorem dX4_init_89 : decode cX4_init 89 = .ok (.aload_n 0, 1) := by decide +kernel
theorem dX4_init_90 : decode cX4_init 90 = .ok (.sipush 144, 3) := by decide +kernel
theorem dX4_init_93 : decode cX4_init 93 = .ok (.newarray .long, 2) := by decide +kernel
theorem dX4_init_95 : decode cX4_init 95 = .ok (.putfield 42, 3) := by decide +kernel
theorem dX4_init_98 : decode cX4_init 98 = .ok (.return_, 1) := by decide +kernel
theorem dX4_isIn_0 : decode cX4_isIn 0 = .ok (.iload_n 0, 1) := by decide +kernel
theorem dX4_isIn_1 : decode cX4_isIn 1 = .ok (.iload_n 1, 1) := by decide +kernel
theorem dX4_isIn_2 : decode cX4_isIn 2 = .ok (.if_icmp .lt 12, 3) := by decide +kernel
theorem dX4_isIn_5 : decode cX4_isIn 5 = .ok (.iload_n 0, 1) := by decide +kernel
theorem dX4_isIn_6 : decode cX4_isIn 6 = .ok (.iload_n 2, 1) := by decide +kernel
theorem dX4_isIn_7 : decode cX4_isIn 7 = .ok (.if_icmp .gt 7, 3) := by decide +kernel
theorem dX4_isIn_10 : decode cX4_isIn 10 = .ok (.iconst 1, 1) := by decide +kernel
theorem dX4_isIn_11 : decode cX4_isIn 11 = .ok (.goto 4, 3) := by decide +kernel
theorem dX4_isIn_14 : decode cX4_isIn 14 = .ok (.iconst 0, 1) := by decide +kernel
theorem dX4_isIn_15 : decode cX4_isIn 15 = .ok (.ireturn, 1) := by decide +kernel
set_option maxRecDepth 20000 in
theorem ggX4_isNode_X4_isIn : GoodIn wsX4_isNode wsX4_isIn := goodIn_r _ [5] (by decide +kernel) (by decide +kernel)
set_option maxRecDepth 20000 in
theorem gX4_isNode_X4_isIn : GoodIn wsX4_isNode (va_wsS RX4 49 yX4_isIn wsX4_isIn) := goodIn_app (goodIn_of _ (by decide +kernel)) ggX4_isNode_X4_isIn
theorem dX4_isNode_0 : decode cX4_isNode 0 = .ok (.iload_n 1, 1) := by decide +kernel
theorem dX4_isNode_1 : decode cX4_isNode 1 = .ok (.iconst 0, 1) := by decide +kernel
theorem dX4_isNode_2 : decode cX4_isNode 2 = .ok (.aload_n 0, 1) := by decide +kernel
theorem dX4_isNode_3 : decode cX4_isNode 3 = .ok (.getfield 45, 3) := by decide +kernel
theorem dX4_isNode_6 : decode cX4_isNode 6 = .ok (.iconst 1, 1) := by decide +kernel
theorem dX4_isNode_7 : decode cX4_isNode 7 = .ok (.isub, 1) := by decide +kernel
theorem dX4_isNode_8 : decode cX4_isNode 8 = .ok (.invokestatic 49, 3) := by decide +kernel
theorem dX4_isNode_11 : decode cX4_isNode 11 = .ok (.ireturn, 1) := by decide +kernel
set_option maxRecDepth 20000 in
theorem ggX4_isArc_X4_isIn : GoodIn wsX4_isArc wsX4_isIn := goodIn_r _ [5] (by decide +kernel) (by decide +kernel)
set_option maxRecDepth 20000 in
theorem gX4_isArc_X4_isIn : GoodIn wsX4_isArc (va_wsS RX4 49 yX4_isIn wsX4_isIn) := goodIn_app (goodIn_of _ (by decide +kernel)) ggX4_isArc_X4_isIn
theorem dX4_isArc_0 : decode cX4_isArc 0 = .ok (.iload_n 1, 1) := by decide +kernel
theorem dX4_isArc_1 : decode cX4_isArc 1 = .ok (.iconst 0, 1) := by decide +kernel
theorem dX4_isArc_2 : decode cX4_isArc 2 = .ok (.aload_n 0, 1) := by decide +kernel
theorem dX4_isArc_3 : decode cX4_isArc 3 = .ok (.getfield 53, 3) := by decide +kernel
theorem dX4_isArc_6 : decode cX4_isArc 6 = .ok (.iconst 1, 1) := by decide +kernel
theorem dX4_isArc_7 : decode cX4_isArc 7 = .ok (.isub, 1) := by decide +kernel
theorem dX4_isArc_8 : decode cX4_isArc 8 = .ok (.invokestatic 49, 3) := by decide +kernel
theorem dX4_isArc_11 : decode cX4_isArc 11 = .ok (.ireturn, 1) := by decide +kernel
theorem dX4_node_0 : decode cX4_node 0 = .ok (.aload_n 0, 1) := by decide +kernel
theorem dX4_node_1 : decode cX4_node 1 = .ok (.getfield 45, 3) := by decide +kernel
theorem dX4_node_4 : decode cX4_node 4 = .ok (.bipush 12, 2) := by decide +kernel
theorem dX4_node_6 : decode cX4_node 6 = .ok (.if_icmp .ne 6, 3) := by decide +kernel
theorem dX4_node_9 : decode cX4_node 9 = .ok (.ldc 56, 2) := by decide +kernel
theorem dX4_node_11 : decode cX4_node 11 = .ok (.ireturn, 1) := by decide +kernel
theorem dX4_node_12 : decode cX4_node 12 = .ok (.aload_n 0, 1) := by decide +kernel
theorem dX4_node_13 : decode cX4_node 13 = .ok (.dup, 1) := by decide +kernel
theorem dX4_node_14 : decode cX4_node 14 = .ok (.getfield 45, 3) := by decide +kernel
theorem dX4_node_17 : decode cX4_node 17 = .ok (.iconst 1, 1) := by decide +kernel
theorem dX4_node_18 : decode cX4_node 18 = .ok (.iadd, 1) := by decide +kernel
theorem dX4_node_19 : decode cX4_node 19 = .ok (.putfield 45, 3) := by decide +kernel
theorem dX4_node_22 : decode cX4_node 22 = .ok (.aload_n 0, 1) := by decide +kernel
theorem dX4_node_23 : decode cX4_node 23 = .ok (.getfield 45, 3) := by decide +kernel
theorem dX4_node_26 : decode cX4_node 26 = .ok (.iconst 1, 1) := by decide +kernel
theorem dX4_node_27 : decode cX4_node 27 = .ok (.isub, 1) := by decide +kernel
theorem dX4_node_28 : decode cX4_node 28 = .ok (.ireturn, 1) := by decide +kernel
set_option maxRecDepth 20000 in
theorem ggX4_arc_X4_isNode : GoodIn wsX4_arc wsX4_isNode := goodIn_r _ [13, 14, 15, 16, 12, 17, 18, 19, 20, 21, 22, 23, 24, 25, 26, 27, 28, 29, 30, 31] (by decide +kernel) (by decide +kernel)
set_option maxRecDepth 20000 in
theorem gX4_arc_X4_isNode : GoodIn wsX4_arc (wsV RX4 57 RX4 yX4_isNode wsX4_isNode) := goodIn_app (goodIn_of _ (by decide +kernel)) ggX4_arc_X4_isNode
set_option maxRecDepth 20000 in
theorem ggX4_arc_X4_isIn : GoodIn wsX4_arc wsX4_isIn := goodIn_r _ [17] (by decide +kernel) (by decide +kernel)
set_option maxRecDepth 20000 in
theorem gX4_arc_X4_isIn : GoodIn wsX4_arc (va_wsS RX4 49 yX4_isIn wsX4_isIn) := goodIn_app (goodIn_of _ (by decide +kernel)) ggX4_arc_X4_isIn
theorem dX4_arc_0 : decode cX4_arc 0 = .ok (.aload_n 0, 1) := by decide +kernel
theorem dX4_arc_1 : decode cX4_arc 1 = .ok (.iload_n 1, 1) := by decide +kernel
theorem dX4_arc_2 : decode cX4_arc 2 = .ok (.invokevirtual 57, 3) := by decide +kernel
theorem dX4_arc_5 : decode cX4_arc 5 = .ok (.ifCond .eq 11, 3) := by decide +kernel
theorem dX4_arc_8 : decode cX4_arc 8 = .ok (.aload_n 0, 1) := by decide +kernel
theorem dX4_arc_9 : decode cX4_arc 9 = .ok (.iload_n 2, 1) := by decide +kernel
theorem dX4_arc_10 : decode cX4_arc 10 = .ok (.invokevirtual 57, 3) := by decide +kernel
theorem dX4_arc_13 : decode cX4_arc 13 = .ok (.ifCond .ne 6, 3) := by decide +kernel
theorem dX4_arc_16 : decode cX4_arc 16 = .ok (.ldc 61, 2) := by decide +kernel
theorem dX4_arc_18 : decode cX4_arc 18 = .ok (.ireturn, 1) := by decide +kernel
theorem dX4_arc_19 : decode cX4_arc 19 = .ok (.iload_n 3, 1) := by decide +kernel
theorem dX4_arc_20 : decode cX4_arc 20 = .ok (.sipush (-1000), 3) := by decide +kernel
theorem dX4_arc_23 : decode cX4_arc 23 = .ok (.sipush 1000, 3) := by decide +kernel
theorem dX4_arc_26 : decode cX4_arc 26 = .ok (.invokestatic 49, 3) := by decide +kernel
theorem dX4_arc_29 : decode cX4_arc 29 = .ok (.ifCond .ne 6, 3) := by decide +kernel
theorem dX4_arc_32 : decode cX4_arc 32 = .ok (.ldc 62, 2) := by decide +kernel
theorem dX4_arc_34 : decode cX4_arc 34 = .ok (.ireturn, 1) := by decide +kernel
theorem dX4_arc_35 : decode cX4_arc 35 = .ok (.aload_n 0, 1) := by decide +kernel
theorem dX4_arc_36 : decode cX4_arc 36 = .ok (.getfield 53, 3) := by decide +kernel
theorem dX4_arc_39 : decode cX4_arc 39 = .ok (.bipush 40, 2) := by decide +kernel
theorem dX4_arc_41 : decode cX4_arc 41 = .ok (.if_icmp .ne 6, 3) := by decide +kernel
theorem dX4_arc_44 : decode cX4_arc 44 = .ok (.ldc 56, 2) := by decide +kernel
theorem dX4_arc_46 : decode cX4_arc 46 = .ok (.ireturn, 1) := by decide +kernel
theorem dX4_arc_47 : decode cX4_arc 47 = .ok (.aload_n 0, 1) := by decide +kernel
theorem dX4_arc_48 : decode cX4_arc 48 = .ok (.getfield 7, 3) := by decide +kernel
theorem dX4_arc_51 : decode cX4_arc 51 = .ok (.aload_n 0, 1) := by decide +kernel
theorem dX4_arc_52 : decode cX4_arc 52 = .ok (.getfield 53, 3) := by decide +kernel
theorem dX4_arc_55 : decode cX4_arc 55 = .ok (.iload_n 1, 1) := by decide +kernel
theorem dX4_arc_56 : decode cX4_arc 56 = .ok (.iastore, 1) := by decide +kernel
theorem dX4_arc_57 : decode cX4_arc 57 = .ok (.aload_n 0, 1) := by decide +kernel
theorem dX4_arc_58 : decode cX4_arc 58 = .ok (.getfield 13, 3) := by decide +kernel
theorem dX4_arc_61 : decode cX4_arc 61 = .ok (.aload_n 0, 1) := by decide +kernel
theorem dX4_arc_62 : decode cX4_arc 62 = .ok (.getfield 53, 3) := by decide +kernel
theorem dX4_arc_65 : decode cX4_arc 65 = .ok (.iload_n 2, 1) := by decide +kernel
theorem dX4_arc_66 : decode cX4_arc 66 = .ok (.iastore, 1) := by decide +kernel
theorem dX4_arc_67 : decode cX4_arc 67 = .ok (.aload_n 0, 1) := by decide +kernel
theorem dX4_arc_68 : decode cX4_arc 68 = .ok (.getfield 16, 3) := by decide +kernel
theorem dX4_arc_71 : decode cX4_arc 71 = .ok (.aload_n 0, 1) := by decide +kernel
theorem dX4_arc_72 : decode cX4_arc 72 = .ok (.getfield 53, 3) := by decide +kernel
theorem dX4_arc_75 : decode cX4_arc 75 = .ok (.iload_n 3, 1) := by decide +kernel
theorem dX4_arc_76 : decode cX4_arc 76 = .ok (.iastore, 1) := by decide +kernel
theorem dX4_arc_77 : decode cX4_arc 77 = .ok (.aload_n 0, 1) := by decide +kernel
theorem dX4_arc_78 : decode cX4_arc 78 = .ok (.getfield 19, 3) := by decide +kernel
theorem dX4_arc_81 : decode cX4_arc 81 = .ok (.aload_n 0, 1) := by decide +kernel
theorem dX4_arc_82 : decode cX4_arc 82 = .ok (.getfield 53, 3) := by decide +kernel
theorem dX4_arc_85 : decode cX4_arc 85 = .ok (.iconst 1, 1) := by decide +kernel
theorem dX4_arc_86 : decode cX4_arc 86 = .ok (.bastore, 1) := by decide +kernel
theorem dX4_arc_87 : decode cX4_arc 87 = .ok (.aload_n 0, 1) := by decide +kernel
theorem dX4_arc_88 : decode cX4_arc 88 = .ok (.dup, 1) := by decide +kernel
theorem dX4_arc_89 : decode cX4_arc 89 = .ok (.getfield 53, 3) := by decide +kernel
theorem dX4_arc_92 : decode cX4_arc 92 = .ok (.iconst 1, 1) := by decide +kernel
theorem dX4_arc_93 : decode cX4_arc 93 = .ok (.iadd, 1) := by decide +kernel
theorem dX4_arc_94 : decode cX4_arc 94 = .ok (.putfield 53, 3) := by decide +kernel
theorem dX4_arc_97 : decode cX4_arc 97 = .ok (.aload_n 0, 1) := by decide +kernel
theorem dX4_arc_98 : decode cX4_arc 98 = .ok (.getfield 53, 3) := by decide +kernel
theorem dX4_arc_101 : decode cX4_arc 101 = .ok (.iconst 1, 1) := by decide +kernel
theorem dX4_arc_102 : decode cX4_arc 102 = .ok (.isub, 1) := by decide +kernel
theorem dX4_arc_103 : decode cX4_arc 103 = .ok (.ireturn, 1) := by decide +kernel
set_option maxRecDepth 20000 in
theorem ggX4_weight_X4_isArc : GoodIn wsX4_weight wsX4_isArc := goodIn_r _ [8, 9, 10, 11, 7, 12, 13, 14, 15, 16, 17, 18, 19, 20, 21, 22, 23, 24, 25, 26] (by decide +kernel) (by decide +kernel)
set_option maxRecDepth 20000 in
theorem gX4_weight_X4_isArc : GoodIn wsX4_weight (wsV RX4 63 RX4 yX4_isArc wsX4_isArc) := goodIn_app (goodIn_of _ (by decide +kernel)) ggX4_weight_X4_isArc
set_option maxRecDepth 20000 in
theorem ggX4_weight_X4_isIn : GoodIn wsX4_weight wsX4_isIn := goodIn_r _ [12] (by decide +kernel) (by decide +kernel)
set_option maxRecDepth 20000 in
theorem gX4_weight_X4_isIn : GoodIn wsX4_weight (va_wsS RX4 49 yX4_isIn wsX4_isIn) := goodIn_app (goodIn_of _ (by decide +kernel)) ggX4_weight_X4_isIn
theorem dX4_weight_0 : decode cX4_weight 0 = .ok (.aload_n 0, 1) := by decide +kernel
theorem dX4_weight_1 : decode cX4_weight 1 = .ok (.iload_n 1, 1) := by decide +kernel
theorem dX4_weight_2 : decode cX4_weight 2 = .ok (.invokevirtual 63, 3) := by decide +kernel
theorem dX4_weight_5 : decode cX4_weight 5 = .ok (.ifCond .ne 6, 3) := by decide +kernel
theorem dX4_weight_8 : decode cX4_weight 8 = .ok (.ldc 61, 2) := by decide +kernel
theorem dX4_weight_10 : decode cX4_weight 10 = .ok (.ireturn, 1) := by decide +kernel
theorem dX4_weight_11 : decode cX4_weight 11 = .ok (.iload_n 2, 1) := by decide +kernel
theorem dX4_weight_12 : decode cX4_weight 12 = .ok (.sipush (-1000), 3) := by decide +kernel
theorem dX4_weight_15 : decode cX4_weight 15 = .ok (.sipush 1000, 3) := by decide +kernel
theorem dX4_weight_18 : decode cX4_weight 18 = .ok (.invokestatic 49, 3) := by decide +kernel
theorem dX4_weight_21 : decode cX4_weight 21 = .ok (.ifCond .ne 6, 3) := by decide +kernel
theorem dX4_weight_24 : decode cX4_weight 24 = .ok (.ldc 62, 2) := by decide +kernel
theorem dX4_weight_26 : decode cX4_weight 26 = .ok (.ireturn, 1) := by decide +kernel
theorem dX4_weight_27 : decode cX4_weight 27 = .ok (.aload_n 0, 1) := by decide +kernel
theorem dX4_weight_28 : decode cX4_weight 28 = .ok (.getfield 16, 3) := by decide +kernel
theorem dX4_weight_31 : decode cX4_weight 31 = .ok (.iload_n 1, 1) := by decide +kernel
theorem dX4_weight_32 : decode cX4_weight 32 = .ok (.iaload, 1) := by decide +kernel
theorem dX4_weight_33 : decode cX4_weight 33 = .ok (.istore_n 3, 1) := by decide +kernel
theorem dX4_weight_34 : decode cX4_weight 34 = .ok (.aload_n 0, 1) := by decide +kernel
theorem dX4_weight_35 : decode cX4_weight 35 = .ok (.getfield 16, 3) := by decide +kernel
theorem dX4_weight_38 : decode cX4_weight 38 = .ok (.iload_n 1, 1) := by decide +kernel
theorem dX4_weight_39 : decode cX4_weight 39 = .ok (.iload_n 2, 1) := by decide +kernel
theorem dX4_weight_40 : decode cX4_weight 40 = .ok (.iastore, 1) := by decide +kernel
theorem dX4_weight_41 : decode cX4_weight 41 = .ok (.iload_n 3, 1) := by decide +kernel
theorem dX4_weight_42 : decode cX4_weight 42 = .ok (.ireturn, 1) := by decide +kernel
set_option maxRecDepth 20000 in
theorem ggX4_turn_X4_isArc : GoodIn wsX4_turn wsX4_isArc := goodIn_r _ [7, 8, 9, 10, 6, 11, 12, 13, 14, 15, 16, 17, 18, 19, 20, 21, 22, 23, 24, 25] (by decide +kernel) (by decide +kernel)
set_option maxRecDepth 20000 in
theorem gX4_turn_X4_isArc : GoodIn wsX4_turn (wsV RX4 63 RX4 yX4_isArc wsX4_isArc) := goodIn_app (goodIn_of _ (by decide +kernel)) ggX4_turn_X4_isArc
theorem dX4_turn_0 : decode cX4_turn 0 = .ok (.aload_n 0, 1) := by decide +kernel
theorem dX4_turn_1 : decode cX4_turn 1 = .ok (.iload_n 1, 1) := by decide +kernel
theorem dX4_turn_2 : decode cX4_turn 2 = .ok (.invokevirtual 63, 3) := by decide +kernel
theorem dX4_turn_5 : decode cX4_turn 5 = .ok (.ifCond .ne 6, 3) := by decide +kernel
theorem dX4_turn_8 : decode cX4_turn 8 = .ok (.ldc 61, 2) := by decide +kernel
theorem dX4_turn_10 : decode cX4_turn 10 = .ok (.ireturn, 1) := by decide +kernel
theorem dX4_turn_11 : decode cX4_turn 11 = .ok (.aload_n 0, 1) := by decide +kernel
theorem dX4_turn_12 : decode cX4_turn 12 = .ok (.getfield 19, 3) := by decide +kernel
theorem dX4_turn_15 : decode cX4_turn 15 = .ok (.iload_n 1, 1) := by decide +kernel
theorem dX4_turn_16 : decode cX4_turn 16 = .ok (.aload_n 0, 1) := by decide +kernel
theorem dX4_turn_17 : decode cX4_turn 17 = .ok (.getfield 19, 3) := by decide +kernel
theorem dX4_turn_20 : decode cX4_turn 20 = .ok (.iload_n 1, 1) := by decide +kernel
theorem dX4_turn_21 : decode cX4_turn 21 = .ok (.baload, 1) := by decide +kernel
theorem dX4_turn_22 : decode cX4_turn 22 = .ok (.ifCond .ne 7, 3) := by decide +kernel
theorem dX4_turn_25 : decode cX4_turn 25 = .ok (.iconst 1, 1) := by decide +kernel
theorem dX4_turn_26 : decode cX4_turn 26 = .ok (.goto 4, 3) := by decide +kernel
theorem dX4_turn_29 : decode cX4_turn 29 = .ok (.iconst 0, 1) := by decide +kernel
theorem dX4_turn_30 : decode cX4_turn 30 = .ok (.bastore, 1) := by decide +kernel
theorem dX4_turn_31 : decode cX4_turn 31 = .ok (.aload_n 0, 1) := by decide +kernel
theorem dX4_turn_32 : decode cX4_turn 32 = .ok (.getfield 19, 3) := by decide +kernel
theorem dX4_turn_35 : decode cX4_turn 35 = .ok (.iload_n 1, 1) := by decide +kernel
theorem dX4_turn_36 : decode cX4_turn 36 = .ok (.baload, 1) := by decide +kernel
theorem dX4_turn_37 : decode cX4_turn 37 = .ok (.ifCond .eq 7, 3) := by decide +kernel
theorem dX4_turn_40 : decode cX4_turn 40 = .ok (.iconst 1, 1) := by decide +kernel
theorem dX4_turn_41 : decode cX4_turn 41 = .ok (.goto 4, 3) := by decide +kernel
theorem dX4_turn_44 : decode cX4_turn 44 = .ok (.iconst 0, 1) := by decide +kernel
theorem dX4_turn_45 : decode cX4_turn 45 = .ok (.ireturn, 1) := by decide +kernel
theorem dX4_clear_0 : decode cX4_clear 0 = .ok (.aload_n 0, 1) := by decide +kernel
theorem dX4_clear_1 : decode cX4_clear 1 = .ok (.getfield 53, 3) := by decide +kernel
theorem dX4_clear_4 : decode cX4_clear 4 = .ok (.istore_n 1, 1) := by decide +kernel
theorem dX4_clear_5 : decode cX4_clear 5 = .ok (.aload_n 0, 1) := by decide +kernel
theorem dX4_clear_6 : decode cX4_clear 6 = .ok (.iconst 0, 1) := by decide +kernel
theorem dX4_clear_7 : decode cX4_clear 7 = .ok (.putfield 45, 3) := by decide +kernel
theorem dX4_clear_10 : decode cX4_clear 10 = .ok (.aload_n 0, 1) := by decide +kernel
theorem dX4_clear_11 : decode cX4_clear 11 = .ok (.iconst 0, 1) := by decide +kernel
theorem dX4_clear_12 : decode cX4_clear 12 = .ok (.putfield 53, 3) := by decide +kernel
theorem dX4_clear_15 : decode cX4_clear 15 = .ok (.iload_n 1, 1) := by decide +kernel
theorem dX4_clear_16 : decode cX4_clear 16 = .ok (.ireturn, 1) := by decide +kernel
theorem dX4_told_0 : decode cX4_told 0 = .ok (.iconst 0, 1) := by decide +kernel
theorem dX4_told_1 : decode cX4_told 1 = .ok (.istore_n 2, 1) := by decide +kernel
theorem dX4_told_2 : decode cX4_told 2 = .ok (.iconst 0, 1) := by decide +kernel
theorem dX4_told_3 : decode cX4_told 3 = .ok (.istore_n 3, 1) := by decide +kernel
theorem dX4_told_4 : decode cX4_told 4 = .ok (.iload_n 3, 1) := by decide +kernel
theorem dX4_told_5 : decode cX4_told 5 = .ok (.aload_n 0, 1) := by decide +kernel
theorem dX4_told_6 : decode cX4_told 6 = .ok (.getfield 53, 3) := by decide +kernel
theorem dX4_told_9 : decode cX4_told 9 = .ok (.if_icmp .ge 26, 3) := by decide +kernel
theorem dX4_told_12 : decode cX4_told 12 = .ok (.iload_n 2, 1) := by decide +kernel
theorem dX4_told_13 : decode cX4_told 13 = .ok (.aload_n 0, 1) := by decide +kernel
theorem dX4_told_14 : decode cX4_told 14 = .ok (.getfield 19, 3) := by decide +kernel
theorem dX4_told_17 : decode cX4_told 17 = .ok (.iload_n 3, 1) := by decide +kernel
theorem dX4_told_18 : decode cX4_told 18 = .ok (.baload, 1) := by decide +kernel
theorem dX4_told_19 : decode cX4_told 19 = .ok (.ifCond .eq 7, 3) := by decide +kernel
theorem dX4_told_22 : decode cX4_told 22 = .ok (.iconst 1, 1) := by decide +kernel
theorem dX4_told_23 : decode cX4_told 23 = .ok (.goto 4, 3) := by decide +kernel
theorem dX4_told_26 : decode cX4_told 26 = .ok (.iconst 0, 1) := by decide +kernel
theorem dX4_told_27 : decode cX4_told 27 = .ok (.iadd, 1) := by decide +kernel
theorem dX4_told_28 : decode cX4_told 28 = .ok (.istore_n 2, 1) := by decide +kernel
theorem dX4_told_29 : decode cX4_told 29 = .ok (.iinc 3 1, 3) := by decide +kernel
theorem dX4_told_32 : decode cX4_told 32 = .ok (.goto (-28), 3) := by decide +kernel
theorem dX4_told_35 : decode cX4_told 35 = .ok (.iload_n 1, 1) := by decide +kernel
theorem dX4_told_36 : decode cX4_told 36 = .ok (.ifCond .ne 10, 3) := by decide +kernel
theorem dX4_told_39 : decode cX4_told 39 = .ok (.aload_n 0, 1) := by decide +kernel
theorem dX4_told_40 : decode cX4_told 40 = .ok (.getfield 45, 3) := by decide +kernel
theorem dX4_told_43 : decode cX4_told 43 = .ok (.goto 26, 3) := by decide +kernel
theorem dX4_told_46 : decode cX4_told 46 = .ok (.iload_n 1, 1) := by decide +kernel
theorem dX4_told_47 : decode cX4_told 47 = .ok (.iconst 1, 1) := by decide +kernel
theorem dX4_told_48 : decode cX4_told 48 = .ok (.if_icmp .ne 10, 3) := by decide +kernel
theorem dX4_told_51 : decode cX4_told 51 = .ok (.aload_n 0, 1) := by decide +kernel
theorem dX4_told_52 : decode cX4_told 52 = .ok (.getfield 53, 3) := by decide +kernel
theorem dX4_told_55 : decode cX4_told 55 = .ok (.goto 14, 3) := by decide +kernel
theorem dX4_told_58 : decode cX4_told 58 = .ok (.iload_n 1, 1) := by decide +kernel
theorem dX4_told_59 : decode cX4_told 59 = .ok (.iconst 2, 1) := by decide +kernel
theorem dX4_told_60 : decode cX4_told 60 = .ok (.if_icmp .ne 7, 3) := by decide +kernel
theorem dX4_told_63 : decode cX4_told 63 = .ok (.iload_n 2, 1) := by decide +kernel
theorem dX4_told_64 : decode cX4_told 64 = .ok (.goto 5, 3) := by decide +kernel
theorem dX4_told_67 : decode cX4_told 67 = .ok (.ldc 62, 2) := by decide +kernel
theorem dX4_told_69 : decode cX4_told 69 = .ok (.ireturn, 1) := by decide +kernel
theorem dX4_findBest_0 : decode cX4_findBest 0 = .ok (.iconst 0, 1) := by decide +kernel
theorem dX4_findBest_1 : decode cX4_findBest 1 = .ok (.istore_n 1, 1) := by decide +kernel
theorem dX4_findBest_2 : decode cX4_findBest 2 = .ok (.iload_n 1, 1) := by decide +kernel
theorem dX4_findBest_3 : decode cX4_findBest 3 = .ok (.aload_n 0, 1) := by decide +kernel
theorem dX4_findBest_4 : decode cX4_findBest 4 = .ok (.getfield 45, 3) := by decide +kernel
theorem dX4_findBest_7 : decode cX4_findBest 7 = .ok (.bipush 12, 2) := by decide +kernel
theorem dX4_findBest_9 : decode cX4_findBest 9 = .ok (.imul, 1) := by decide +kernel
theorem dX4_findBest_10 : decode cX4_findBest 10 = .ok (.if_icmp .ge 33, 3) := by decide +kernel
theorem dX4_findBest_13 : decode cX4_findBest 13 = .ok (.aload_n 0, 1) := by decide +kernel
theorem dX4_findBest_14 : decode cX4_findBest 14 = .ok (.getfield 23, 3) := by decide +kernel
theorem dX4_findBest_17 : decode cX4_findBest 17 = .ok (.iload_n 1, 1) := by decide +kernel
theorem dX4_findBest_18 : decode cX4_findBest 18 = .ok (.iload_n 1, 1) := by decide +kernel
theorem dX4_findBest_19 : decode cX4_findBest 19 = .ok (.bipush 12, 2) := by decide +kernel
theorem dX4_findBest_21 : decode cX4_findBest 21 = .ok (.idiv, 1) := by decide +kernel
theorem dX4_findBest_22 : decode cX4_findBest 22 = .ok (.iload_n 1, 1) := by decide +kernel
theorem dX4_findBest_23 : decode cX4_findBest 23 = .ok (.bipush 12, 2) := by decide +kernel
theorem dX4_findBest_25 : decode cX4_findBest 25 = .ok (.irem, 1) := by decide +kernel
theorem dX4_findBest_26 : decode cX4_findBest 26 = .ok (.if_icmp .ne 7, 3) := by decide +kernel
theorem dX4_findBest_29 : decode cX4_findBest 29 = .ok (.lconst 0, 1) := by decide +kernel
theorem dX4_findBest_30 : decode cX4_findBest 30 = .ok (.goto 6, 3) := by decide +kernel
theorem dX4_findBest_33 : decode cX4_findBest 33 = .ok (.ldc2_w 66, 3) := by decide +kernel
theorem dX4_findBest_36 : decode cX4_findBest 36 = .ok (.lastore, 1) := by decide +kernel
theorem dX4_findBest_37 : decode cX4_findBest 37 = .ok (.iinc 1 1, 3) := by decide +kernel
theorem dX4_findBest_40 : decode cX4_findBest 40 = .ok (.goto (-38), 3) := by decide +kernel
theorem dX4_findBest_43 : decode cX4_findBest 43 = .ok (.iconst 0, 1) := by decide +kernel
theorem dX4_findBest_44 : decode cX4_findBest 44 = .ok (.istore_n 1, 1) := by decide +kernel
theorem dX4_findBest_45 : decode cX4_findBest 45 = .ok (.iload_n 1, 1) := by decide +kernel
theorem dX4_findBest_46 : decode cX4_findBest 46 = .ok (.aload_n 0, 1) := by decide +kernel
theorem dX4_findBest_47 : decode cX4_findBest 47 = .ok (.getfield 53, 3) := by decide +kernel
theorem dX4_findBest_50 : decode cX4_findBest 50 = .ok (.if_icmp .ge 76, 3) := by decide +kernel
theorem dX4_findBest_53 : decode cX4_findBest 53 = .ok (.bipush 12, 2) := by decide +kernel
theorem dX4_findBest_55 : decode cX4_findBest 55 = .ok (.aload_n 0, 1) := by decide +kernel
theorem dX4_findBest_56 : decode cX4_findBest 56 = .ok (.getfield 7, 3) := by decide +kernel
theorem dX4_findBest_59 : decode cX4_findBest 59 = .ok (.iload_n 1, 1) := by decide +kernel
theorem dX4_findBest_60 : decode cX4_findBest 60 = .ok (.iaload, 1) := by decide +kernel
theorem dX4_findBest_61 : decode cX4_findBest 61 = .ok (.imul, 1) := by decide +kernel
theorem dX4_findBest_62 : decode cX4_findBest 62 = .ok (.aload_n 0, 1) := by decide +kernel
theorem dX4_findBest_63 : decode cX4_findBest 63 = .ok (.getfield 13, 3) := by decide +kernel
theorem dX4_findBest_66 : decode cX4_findBest 66 = .ok (.iload_n 1, 1) := by decide +kernel
theorem dX4_findBest_67 : decode cX4_findBest 67 = .ok (.iaload, 1) := by decide +kernel
theorem dX4_findBest_68 : decode cX4_findBest 68 = .ok (.iadd, 1) := by decide +kernel
theorem dX4_findBest_69 : decode cX4_findBest 69 = .ok (.istore_n 2, 1) := by decide +kernel
theorem dX4_findBest_70 : decode cX4_findBest 70 = .ok (.ldc2_w 68, 3) := by decide +kernel
theorem dX4_findBest_73 : decode cX4_findBest 73 = .ok (.aload_n 0, 1) := by decide +kernel
theorem dX4_findBest_74 : decode cX4_findBest 74 = .ok (.getfield 16, 3) := by decide +kernel
theorem dX4_findBest_77 : decode cX4_findBest 77 = .ok (.iload_n 1, 1) := by decide +kernel
theorem dX4_findBest_78 : decode cX4_findBest 78 = .ok (.iaload, 1) := by decide +kernel
theorem dX4_findBest_79 : decode cX4_findBest 79 = .ok (.i2l, 1) := by decide +kernel
theorem dX4_findBest_80 : decode cX4_findBest 80 = .ok (.lmul, 1) := by decide +kernel
theorem dX4_findBest_81 : decode cX4_findBest 81 = .ok (.lconst 1, 1) := by decide +kernel
theorem dX4_findBest_82 : decode cX4_findBest 82 = .ok (.ladd, 1) := by decide +kernel
theorem dX4_findBest_83 : decode cX4_findBest 83 = .ok (.lstore_n 3, 1) := by decide +kernel
theorem dX4_findBest_84 : decode cX4_findBest 84 = .ok (.aload_n 0, 1) := by decide +kernel
theorem dX4_findBest_85 : decode cX4_findBest 85 = .ok (.getfield 23, 3) := by decide +kernel
theorem dX4_findBest_88 : decode cX4_findBest 88 = .ok (.iload_n 2, 1) := by decide +kernel
theorem dX4_findBest_89 : decode cX4_findBest 89 = .ok (.aload_n 0, 1) := by decide +kernel
theorem dX4_findBest_90 : decode cX4_findBest 90 = .ok (.getfield 19, 3) := by decide +kernel
theorem dX4_findBest_93 : decode cX4_findBest 93 = .ok (.iload_n 1, 1) := by decide +kernel
theorem dX4_findBest_94 : decode cX4_findBest 94 = .ok (.baload, 1) := by decide +kernel
theorem dX4_findBest_95 : decode cX4_findBest 95 = .ok (.ifCond .eq 18, 3) := by decide +kernel
theorem dX4_findBest_98 : decode cX4_findBest 98 = .ok (.lload_n 3, 1) := by decide +kernel
theorem dX4_findBest_99 : decode cX4_findBest 99 = .ok (.aload_n 0, 1) := by decide +kernel
theorem dX4_findBest_100 : decode cX4_findBest 100 = .ok (.getfield 23, 3) := by decide +kernel
theorem dX4_findBest_103 : decode cX4_findBest 103 = .ok (.iload_n 2, 1) := by decide +kernel
theorem dX4_findBest_104 : decode cX4_findBest 104 = .ok (.laload, 1) := by decide +kernel
theorem dX4_findBest_105 : decode cX4_findBest 105 = .ok (.lcmp, 1) := by decide +kernel
theorem dX4_findBest_106 : decode cX4_findBest 106 = .ok (.ifCond .ge 7, 3) := by decide +kernel
theorem dX4_findBest_109 : decode cX4_findBest 109 = .ok (.lload_n 3, 1) := by decide +kernel
theorem dX4_findBest_110 : decode cX4_findBest 110 = .ok (.goto 9, 3) := by decide +kernel
theorem dX4_findBest_113 : decode cX4_findBest 113 = .ok (.aload_n 0, 1) := by decide +kernel
theorem dX4_findBest_114 : decode cX4_findBest 114 = .ok (.getfield 23, 3) := by decide +kernel
theorem dX4_findBest_117 : decode cX4_findBest 117 = .ok (.iload_n 2, 1) := by decide +kernel
theorem dX4_findBest_118 : decode cX4_findBest 118 = .ok (.laload, 1) := by decide +kernel
theorem dX4_findBest_119 : decode cX4_findBest 119 = .ok (.lastore, 1) := by decide +kernel
theorem dX4_findBest_120 : decode cX4_findBest 120 = .ok (.iinc 1 1, 3) := by decide +kernel
theorem dX4_findBest_123 : decode cX4_findBest 123 = .ok (.goto (-78), 3) := by decide +kernel
theorem dX4_findBest_126 : decode cX4_findBest 126 = .ok (.iconst 0, 1) := by decide +kernel
theorem dX4_findBest_127 : decode cX4_findBest 127 = .ok (.istore_n 1, 1) := by decide +kernel
theorem dX4_findBest_128 : decode cX4_findBest 128 = .ok (.iload_n 1, 1) := by decide +kernel
theorem dX4_findBest_129 : decode cX4_findBest 129 = .ok (.aload_n 0, 1) := by decide +kernel
theorem dX4_findBest_130 : decode cX4_findBest 130 = .ok (.getfield 45, 3) := by decide +kernel
theorem dX4_findBest_133 : decode cX4_findBest 133 = .ok (.if_icmp .ge 173, 3) := by decide +kernel
theorem dX4_findBest_136 : decode cX4_findBest 136 = .ok (.iconst 0, 1) := by decide +kernel
theorem dX4_findBest_137 : decode cX4_findBest 137 = .ok (.istore_n 2, 1) := by decide +kernel
theorem dX4_findBest_138 : decode cX4_findBest 138 = .ok (.iload_n 2, 1) := by decide +kernel
theorem dX4_findBest_139 : decode cX4_findBest 139 = .ok (.aload_n 0, 1) := by decide +kernel
theorem dX4_findBest_140 : decode cX4_findBest 140 = .ok (.getfield 45, 3) := by decide +kernel
theorem dX4_findBest_143 : decode cX4_findBest 143 = .ok (.if_icmp .ge 157, 3) := by decide +kernel
theorem dX4_findBest_146 : decode cX4_findBest 146 = .ok (.iconst 0, 1) := by decide +kernel
theorem dX4_findBest_147 : decode cX4_findBest 147 = .ok (.istore_n 3, 1) := by decide +kernel
theorem dX4_findBest_148 : decode cX4_findBest 148 = .ok (.iload_n 3, 1) := by decide +kernel
theorem dX4_findBest_149 : decode cX4_findBest 149 = .ok (.aload_n 0, 1) := by decide +kernel
theorem dX4_findBest_150 : decode cX4_findBest 150 = .ok (.getfield 45, 3) := by decide +kernel
theorem dX4_findBest_153 : decode cX4_findBest 153 = .ok (.if_icmp .ge 141, 3) := by decide +kernel
theorem dX4_findBest_156 : decode cX4_findBest 156 = .ok (.aload_n 0, 1) := by decide +kernel
theorem dX4_findBest_157 : decode cX4_findBest 157 = .ok (.getfield 23, 3) := by decide +kernel
theorem dX4_findBest_160 : decode cX4_findBest 160 = .ok (.bipush 12, 2) := by decide +kernel
theorem dX4_findBest_162 : decode cX4_findBest 162 = .ok (.iload_n 2, 1) := by decide +kernel
theorem dX4_findBest_163 : decode cX4_findBest 163 = .ok (.imul, 1) := by decide +kernel
theorem dX4_findBest_164 : decode cX4_findBest 164 = .ok (.iload_n 1, 1) := by decide +kernel
theorem dX4_findBest_165 : decode cX4_findBest 165 = .ok (.iadd, 1) := by decide +kernel
theorem dX4_findBest_166 : decode cX4_findBest 166 = .ok (.laload, 1) := by decide +kernel
theorem dX4_findBest_167 : decode cX4_findBest 167 = .ok (.aload_n 0, 1) := by decide +kernel
theorem dX4_findBest_168 : decode cX4_findBest 168 = .ok (.getfield 23, 3) := by decide +kernel
