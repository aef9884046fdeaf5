theorem dX2_canEnd_9 : decode cX2_canEnd 9 = .ok (.ifCond .ne 5, 3) := by decide +kernel
theorem dX2_canEnd_12 : decode cX2_canEnd 12 = .ok (.iconst 0, 1) := by decide +kernel
theorem dX2_canEnd_13 : decode cX2_canEnd 13 = .ok (.ireturn, 1) := by decide +kernel
theorem dX2_canEnd_14 : decode cX2_canEnd 14 = .ok (.aload_n 0, 1) := by decide +kernel
theorem dX2_canEnd_15 : decode cX2_canEnd 15 = .ok (.iload_n 3, 1) := by decide +kernel
theorem dX2_canEnd_16 : decode cX2_canEnd 16 = .ok (.aload_n 0, 1) := by decide +kernel
theorem dX2_canEnd_17 : decode cX2_canEnd 17 = .ok (.getfield 9, 3) := by decide +kernel
theorem dX2_canEnd_20 : decode cX2_canEnd 20 = .ok (.getfield 64, 3) := by decide +kernel
theorem dX2_canEnd_23 : decode cX2_canEnd 23 = .ok (.iload_n 1, 1) := by decide +kernel
theorem dX2_canEnd_24 : decode cX2_canEnd 24 = .ok (.iaload, 1) := by decide +kernel
theorem dX2_canEnd_25 : decode cX2_canEnd 25 = .ok (.iload_n 2, 1) := by decide +kernel
theorem dX2_canEnd_26 : decode cX2_canEnd 26 = .ok (.invokevirtual 70, 3) := by decide +kernel
theorem dX2_canEnd_29 : decode cX2_canEnd 29 = .ok (.istore 5, 2) := by decide +kernel
theorem dX2_canEnd_31 : decode cX2_canEnd 31 = .ok (.iload 5, 2) := by decide +kernel
theorem dX2_canEnd_33 : decode cX2_canEnd 33 = .ok (.ldc 42, 2) := by decide +kernel
theorem dX2_canEnd_35 : decode cX2_canEnd 35 = .ok (.if_icmp .eq 24, 3) := by decide +kernel
theorem dX2_canEnd_38 : decode cX2_canEnd 38 = .ok (.aload_n 0, 1) := by decide +kernel
theorem dX2_canEnd_39 : decode cX2_canEnd 39 = .ok (.getfield 9, 3) := by decide +kernel
theorem dX2_canEnd_42 : decode cX2_canEnd 42 = .ok (.getfield 67, 3) := by decide +kernel
theorem dX2_canEnd_45 : decode cX2_canEnd 45 = .ok (.iload_n 1, 1) := by decide +kernel
theorem dX2_canEnd_46 : decode cX2_canEnd 46 = .ok (.iaload, 1) := by decide +kernel
theorem dX2_canEnd_47 : decode cX2_canEnd 47 = .ok (.iload 5, 2) := by decide +kernel
theorem dX2_canEnd_49 : decode cX2_canEnd 49 = .ok (.iadd, 1) := by decide +kernel
theorem dX2_canEnd_50 : decode cX2_canEnd 50 = .ok (.iload 4, 2) := by decide +kernel
theorem dX2_canEnd_52 : decode cX2_canEnd 52 = .ok (.if_icmp .gt 7, 3) := by decide +kernel
theorem dX2_canEnd_55 : decode cX2_canEnd 55 = .ok (.iconst 1, 1) := by decide +kernel
theorem dX2_canEnd_56 : decode cX2_canEnd 56 = .ok (.goto 4, 3) := by decide +kernel
theorem dX2_canEnd_59 : decode cX2_canEnd 59 = .ok (.iconst 0, 1) := by decide +kernel
theorem dX2_canEnd_60 : decode cX2_canEnd 60 = .ok (.ireturn, 1) := by decide +kernel
set_option maxRecDepth 20000 in
theorem ggX2_roundsToRest_X2_restsAfter : GoodIn wsX2_roundsToRest wsX2_restsAfter := goodIn_r _ [5, 6, 7, 8, 9, 10, 4, 11, 12, 13, 14, 15, 16, 17, 18, 19, 20, 21, 22, 23] (by decide +kernel) (by decide +kernel)
set_option maxRecDepth 20000 in
theorem gX2_roundsToRest_X2_restsAfter : GoodIn wsX2_roundsToRest (wsV RX2 105 RX2 yX2_restsAfter wsX2_restsAfter) := goodIn_app (goodIn_of _ (by decide +kernel)) ggX2_roundsToRest_X2_restsAfter
theorem dX2_roundsToRest_0 : decode cX2_roundsToRest 0 = .ok (.iconst 0, 1) := by decide +kernel
theorem dX2_roundsToRest_1 : decode cX2_roundsToRest 1 = .ok (.istore_n 2, 1) := by decide +kernel
theorem dX2_roundsToRest_2 : decode cX2_roundsToRest 2 = .ok (.iload_n 2, 1) := by decide +kernel
theorem dX2_roundsToRest_3 : decode cX2_roundsToRest 3 = .ok (.bipush 12, 2) := by decide +kernel
theorem dX2_roundsToRest_5 : decode cX2_roundsToRest 5 = .ok (.if_icmp .ge 20, 3) := by decide +kernel
theorem dX2_roundsToRest_8 : decode cX2_roundsToRest 8 = .ok (.aload_n 0, 1) := by decide +kernel
theorem dX2_roundsToRest_9 : decode cX2_roundsToRest 9 = .ok (.iload_n 2, 1) := by decide +kernel
theorem dX2_roundsToRest_10 : decode cX2_roundsToRest 10 = .ok (.iload_n 1, 1) := by decide +kernel
theorem dX2_roundsToRest_11 : decode cX2_roundsToRest 11 = .ok (.invokevirtual 105, 3) := by decide +kernel
theorem dX2_roundsToRest_14 : decode cX2_roundsToRest 14 = .ok (.ifCond .eq 5, 3) := by decide +kernel
theorem dX2_roundsToRest_17 : decode cX2_roundsToRest 17 = .ok (.iload_n 2, 1) := by decide +kernel
theorem dX2_roundsToRest_18 : decode cX2_roundsToRest 18 = .ok (.ireturn, 1) := by decide +kernel
theorem dX2_roundsToRest_19 : decode cX2_roundsToRest 19 = .ok (.iinc 2 1, 3) := by decide +kernel
theorem dX2_roundsToRest_22 : decode cX2_roundsToRest 22 = .ok (.goto (-20), 3) := by decide +kernel
theorem dX2_roundsToRest_25 : decode cX2_roundsToRest 25 = .ok (.iconst (-1), 1) := by decide +kernel
theorem dX2_roundsToRest_26 : decode cX2_roundsToRest 26 = .ok (.ireturn, 1) := by decide +kernel
set_option maxRecDepth 20000 in
theorem ggX2_restsAfter_X2_lightest : GoodIn wsX2_restsAfter wsX2_lightest := goodIn_r _ [7, 8, 9, 10, 11, 12] (by decide +kernel) (by decide +kernel)
set_option maxRecDepth 20000 in
theorem gX2_restsAfter_X2_lightest : GoodIn wsX2_restsAfter (wsV RX2 70 RX2 yX2_lightest wsX2_lightest) := goodIn_app (goodIn_of _ (by decide +kernel)) ggX2_restsAfter_X2_lightest
theorem dX2_restsAfter_0 : decode cX2_restsAfter 0 = .ok (.iconst 0, 1) := by decide +kernel
theorem dX2_restsAfter_1 : decode cX2_restsAfter 1 = .ok (.istore_n 3, 1) := by decide +kernel
theorem dX2_restsAfter_2 : decode cX2_restsAfter 2 = .ok (.iload_n 3, 1) := by decide +kernel
theorem dX2_restsAfter_3 : decode cX2_restsAfter 3 = .ok (.aload_n 0, 1) := by decide +kernel
theorem dX2_restsAfter_4 : decode cX2_restsAfter 4 = .ok (.getfield 9, 3) := by decide +kernel
theorem dX2_restsAfter_7 : decode cX2_restsAfter 7 = .ok (.getfield 39, 3) := by decide +kernel
theorem dX2_restsAfter_10 : decode cX2_restsAfter 10 = .ok (.if_icmp .ge 30, 3) := by decide +kernel
theorem dX2_restsAfter_13 : decode cX2_restsAfter 13 = .ok (.aload_n 0, 1) := by decide +kernel
theorem dX2_restsAfter_14 : decode cX2_restsAfter 14 = .ok (.iload_n 1, 1) := by decide +kernel
theorem dX2_restsAfter_15 : decode cX2_restsAfter 15 = .ok (.iload_n 2, 1) := by decide +kernel
theorem dX2_restsAfter_16 : decode cX2_restsAfter 16 = .ok (.iload_n 3, 1) := by decide +kernel
theorem dX2_restsAfter_17 : decode cX2_restsAfter 17 = .ok (.invokevirtual 70, 3) := by decide +kernel
theorem dX2_restsAfter_20 : decode cX2_restsAfter 20 = .ok (.aload_n 0, 1) := by decide +kernel
theorem dX2_restsAfter_21 : decode cX2_restsAfter 21 = .ok (.iload_n 1, 1) := by decide +kernel
theorem dX2_restsAfter_22 : decode cX2_restsAfter 22 = .ok (.iconst 1, 1) := by decide +kernel
theorem dX2_restsAfter_23 : decode cX2_restsAfter 23 = .ok (.iadd, 1) := by decide +kernel
theorem dX2_restsAfter_24 : decode cX2_restsAfter 24 = .ok (.iload_n 2, 1) := by decide +kernel
theorem dX2_restsAfter_25 : decode cX2_restsAfter 25 = .ok (.iload_n 3, 1) := by decide +kernel
theorem dX2_restsAfter_26 : decode cX2_restsAfter 26 = .ok (.invokevirtual 70, 3) := by decide +kernel
theorem dX2_restsAfter_29 : decode cX2_restsAfter 29 = .ok (.if_icmp .eq 5, 3) := by decide +kernel
theorem dX2_restsAfter_32 : decode cX2_restsAfter 32 = .ok (.iconst 0, 1) := by decide +kernel
theorem dX2_restsAfter_33 : decode cX2_restsAfter 33 = .ok (.ireturn, 1) := by decide +kernel
theorem dX2_restsAfter_34 : decode cX2_restsAfter 34 = .ok (.iinc 3 1, 3) := by decide +kernel
theorem dX2_restsAfter_37 : decode cX2_restsAfter 37 = .ok (.goto (-35), 3) := by decide +kernel
theorem dX2_restsAfter_40 : decode cX2_restsAfter 40 = .ok (.iconst 1, 1) := by decide +kernel
theorem dX2_restsAfter_41 : decode cX2_restsAfter 41 = .ok (.ireturn, 1) := by decide +kernel
set_option maxRecDepth 20000 in
theorem ggX2_shownLength_X2_lightest : GoodIn wsX2_shownLength wsX2_lightest := goodIn_r _ [7, 8, 9, 10, 11, 12] (by decide +kernel) (by decide +kernel)
set_option maxRecDepth 20000 in
theorem gX2_shownLength_X2_lightest : GoodIn wsX2_shownLength (wsV RX2 70 RX2 yX2_lightest wsX2_lightest) := goodIn_app (goodIn_of _ (by decide +kernel)) ggX2_shownLength_X2_lightest
theorem dX2_shownLength_0 : decode cX2_shownLength 0 = .ok (.iconst 1, 1) := by decide +kernel
theorem dX2_shownLength_1 : decode cX2_shownLength 1 = .ok (.istore_n 1, 1) := by decide +kernel
theorem dX2_shownLength_2 : decode cX2_shownLength 2 = .ok (.iload_n 1, 1) := by decide +kernel
theorem dX2_shownLength_3 : decode cX2_shownLength 3 = .ok (.bipush 12, 2) := by decide +kernel
theorem dX2_shownLength_5 : decode cX2_shownLength 5 = .ok (.if_icmp .gt 40, 3) := by decide +kernel
theorem dX2_shownLength_8 : decode cX2_shownLength 8 = .ok (.iconst 0, 1) := by decide +kernel
theorem dX2_shownLength_9 : decode cX2_shownLength 9 = .ok (.istore_n 2, 1) := by decide +kernel
theorem dX2_shownLength_10 : decode cX2_shownLength 10 = .ok (.iload_n 2, 1) := by decide +kernel
theorem dX2_shownLength_11 : decode cX2_shownLength 11 = .ok (.aload_n 0, 1) := by decide +kernel
theorem dX2_shownLength_12 : decode cX2_shownLength 12 = .ok (.getfield 9, 3) := by decide +kernel
theorem dX2_shownLength_15 : decode cX2_shownLength 15 = .ok (.getfield 39, 3) := by decide +kernel
theorem dX2_shownLength_18 : decode cX2_shownLength 18 = .ok (.if_icmp .ge 21, 3) := by decide +kernel
theorem dX2_shownLength_21 : decode cX2_shownLength 21 = .ok (.aload_n 0, 1) := by decide +kernel
theorem dX2_shownLength_22 : decode cX2_shownLength 22 = .ok (.iload_n 1, 1) := by decide +kernel
theorem dX2_shownLength_23 : decode cX2_shownLength 23 = .ok (.iload_n 2, 1) := by decide +kernel
theorem dX2_shownLength_24 : decode cX2_shownLength 24 = .ok (.iload_n 2, 1) := by decide +kernel
theorem dX2_shownLength_25 : decode cX2_shownLength 25 = .ok (.invokevirtual 70, 3) := by decide +kernel
theorem dX2_shownLength_28 : decode cX2_shownLength 28 = .ok (.ifCond .ge 5, 3) := by decide +kernel
theorem dX2_shownLength_31 : decode cX2_shownLength 31 = .ok (.iload_n 1, 1) := by decide +kernel
theorem dX2_shownLength_32 : decode cX2_shownLength 32 = .ok (.ireturn, 1) := by decide +kernel
theorem dX2_shownLength_33 : decode cX2_shownLength 33 = .ok (.iinc 2 1, 3) := by decide +kernel
theorem dX2_shownLength_36 : decode cX2_shownLength 36 = .ok (.goto (-26), 3) := by decide +kernel
theorem dX2_shownLength_39 : decode cX2_shownLength 39 = .ok (.iinc 1 1, 3) := by decide +kernel
theorem dX2_shownLength_42 : decode cX2_shownLength 42 = .ok (.goto (-40), 3) := by decide +kernel
theorem dX2_shownLength_45 : decode cX2_shownLength 45 = .ok (.iconst 0, 1) := by decide +kernel
theorem dX2_shownLength_46 : decode cX2_shownLength 46 = .ok (.ireturn, 1) := by decide +kernel
set_option maxRecDepth 20000 in
theorem ggX2_shownArc_X2_shownLength : GoodIn wsX2_shownArc wsX2_shownLength := goodIn_r _ [9, 1, 10, 11, 12, 13, 8, 14, 15, 35, 36, 37, 38, 39, 40, 41, 42, 43, 44, 45] (by decide +kernel) (by decide +kernel)
set_option maxRecDepth 20000 in
theorem gX2_shownArc_X2_shownLength : GoodIn wsX2_shownArc (wsV RX2 108 RX2 yX2_shownLength wsX2_shownLength) := goodIn_app (goodIn_of _ (by decide +kernel)) ggX2_shownArc_X2_shownLength
set_option maxRecDepth 20000 in
theorem ggX2_shownArc_X2_firstShownArc : GoodIn wsX2_shownArc wsX2_firstShownArc := goodIn_r _ [19, 1, 20, 3, 21, 22, 23, 8, 24, 25, 2, 26, 4, 11, 12, 13, 14, 15, 35, 36, 37, 38, 39, 40, 41, 42, 43, 44, 45] (by decide +kernel) (by decide +kernel)
set_option maxRecDepth 20000 in
theorem gX2_shownArc_X2_firstShownArc : GoodIn wsX2_shownArc (wsV RX2 112 RX2 yX2_firstShownArc wsX2_firstShownArc) := goodIn_app (goodIn_of _ (by decide +kernel)) ggX2_shownArc_X2_firstShownArc
set_option maxRecDepth 20000 in
theorem ggX2_shownArc_X2_rowArc : GoodIn wsX2_shownArc wsX2_rowArc := goodIn_r _ [30, 1, 4, 2, 31, 32, 33, 8, 34, 20, 3, 21, 22, 23, 24, 25, 26, 11, 12, 13, 14, 15, 35, 36, 37, 38, 39, 40, 41, 42, 43, 44, 45] (by decide +kernel) (by decide +kernel)
set_option maxRecDepth 20000 in
theorem gX2_shownArc_X2_rowArc : GoodIn wsX2_shownArc (wsV RX2 93 RX2 yX2_rowArc wsX2_rowArc) := goodIn_app (goodIn_of _ (by decide +kernel)) ggX2_shownArc_X2_rowArc
theorem dX2_shownArc_0 : decode cX2_shownArc 0 = .ok (.aload_n 0, 1) := by decide +kernel
theorem dX2_shownArc_1 : decode cX2_shownArc 1 = .ok (.invokevirtual 108, 3) := by decide +kernel
theorem dX2_shownArc_4 : decode cX2_shownArc 4 = .ok (.istore_n 2, 1) := by decide +kernel
theorem dX2_shownArc_5 : decode cX2_shownArc 5 = .ok (.iload_n 1, 1) := by decide +kernel
theorem dX2_shownArc_6 : decode cX2_shownArc 6 = .ok (.ifCond .lt 8, 3) := by decide +kernel
theorem dX2_shownArc_9 : decode cX2_shownArc 9 = .ok (.iload_n 1, 1) := by decide +kernel
theorem dX2_shownArc_10 : decode cX2_shownArc 10 = .ok (.iload_n 2, 1) := by decide +kernel
theorem dX2_shownArc_11 : decode cX2_shownArc 11 = .ok (.if_icmp .lt 5, 3) := by decide +kernel
theorem dX2_shownArc_14 : decode cX2_shownArc 14 = .ok (.iconst (-1), 1) := by decide +kernel
theorem dX2_shownArc_15 : decode cX2_shownArc 15 = .ok (.ireturn, 1) := by decide +kernel
theorem dX2_shownArc_16 : decode cX2_shownArc 16 = .ok (.aload_n 0, 1) := by decide +kernel
theorem dX2_shownArc_17 : decode cX2_shownArc 17 = .ok (.iload_n 2, 1) := by decide +kernel
theorem dX2_shownArc_18 : decode cX2_shownArc 18 = .ok (.invokevirtual 112, 3) := by decide +kernel
theorem dX2_shownArc_21 : decode cX2_shownArc 21 = .ok (.istore_n 3, 1) := by decide +kernel
theorem dX2_shownArc_22 : decode cX2_shownArc 22 = .ok (.iload_n 1, 1) := by decide +kernel
theorem dX2_shownArc_23 : decode cX2_shownArc 23 = .ok (.ifCond .eq 8, 3) := by decide +kernel
theorem dX2_shownArc_26 : decode cX2_shownArc 26 = .ok (.iload_n 3, 1) := by decide +kernel
theorem dX2_shownArc_27 : decode cX2_shownArc 27 = .ok (.iconst (-1), 1) := by decide +kernel
theorem dX2_shownArc_28 : decode cX2_shownArc 28 = .ok (.if_icmp .ne 5, 3) := by decide +kernel
theorem dX2_shownArc_31 : decode cX2_shownArc 31 = .ok (.iload_n 3, 1) := by decide +kernel
theorem dX2_shownArc_32 : decode cX2_shownArc 32 = .ok (.ireturn, 1) := by decide +kernel
theorem dX2_shownArc_33 : decode cX2_shownArc 33 = .ok (.aload_n 0, 1) := by decide +kernel
theorem dX2_shownArc_34 : decode cX2_shownArc 34 = .ok (.aload_n 0, 1) := by decide +kernel
theorem dX2_shownArc_35 : decode cX2_shownArc 35 = .ok (.getfield 9, 3) := by decide +kernel
theorem dX2_shownArc_38 : decode cX2_shownArc 38 = .ok (.getfield 64, 3) := by decide +kernel
theorem dX2_shownArc_41 : decode cX2_shownArc 41 = .ok (.iload_n 3, 1) := by decide +kernel
theorem dX2_shownArc_42 : decode cX2_shownArc 42 = .ok (.iaload, 1) := by decide +kernel
theorem dX2_shownArc_43 : decode cX2_shownArc 43 = .ok (.aload_n 0, 1) := by decide +kernel
theorem dX2_shownArc_44 : decode cX2_shownArc 44 = .ok (.getfield 9, 3) := by decide +kernel
theorem dX2_shownArc_47 : decode cX2_shownArc 47 = .ok (.getfield 60, 3) := by decide +kernel
theorem dX2_shownArc_50 : decode cX2_shownArc 50 = .ok (.iload_n 3, 1) := by decide +kernel
theorem dX2_shownArc_51 : decode cX2_shownArc 51 = .ok (.iaload, 1) := by decide +kernel
theorem dX2_shownArc_52 : decode cX2_shownArc 52 = .ok (.iload_n 2, 1) := by decide +kernel
theorem dX2_shownArc_53 : decode cX2_shownArc 53 = .ok (.iconst 1, 1) := by decide +kernel
theorem dX2_shownArc_54 : decode cX2_shownArc 54 = .ok (.isub, 1) := by decide +kernel
theorem dX2_shownArc_55 : decode cX2_shownArc 55 = .ok (.iconst (-1), 1) := by decide +kernel
theorem dX2_shownArc_56 : decode cX2_shownArc 56 = .ok (.aload_n 0, 1) := by decide +kernel
theorem dX2_shownArc_57 : decode cX2_shownArc 57 = .ok (.getfield 9, 3) := by decide +kernel
theorem dX2_shownArc_60 : decode cX2_shownArc 60 = .ok (.getfield 67, 3) := by decide +kernel
theorem dX2_shownArc_63 : decode cX2_shownArc 63 = .ok (.iload_n 3, 1) := by decide +kernel
theorem dX2_shownArc_64 : decode cX2_shownArc 64 = .ok (.iaload, 1) := by decide +kernel
theorem dX2_shownArc_65 : decode cX2_shownArc 65 = .ok (.isub, 1) := by decide +kernel
theorem dX2_shownArc_66 : decode cX2_shownArc 66 = .ok (.iload_n 1, 1) := by decide +kernel
theorem dX2_shownArc_67 : decode cX2_shownArc 67 = .ok (.iconst 1, 1) := by decide +kernel
theorem dX2_shownArc_68 : decode cX2_shownArc 68 = .ok (.isub, 1) := by decide +kernel
theorem dX2_shownArc_69 : decode cX2_shownArc 69 = .ok (.invokevirtual 93, 3) := by decide +kernel
theorem dX2_shownArc_72 : decode cX2_shownArc 72 = .ok (.ireturn, 1) := by decide +kernel
set_option maxRecDepth 20000 in
theorem ggX2_firstShownArc_X2_canEnd : GoodIn wsX2_firstShownArc wsX2_canEnd := goodIn_r _ [8, 1, 9, 10, 11, 12, 13, 14, 15, 7, 16, 17, 18, 19, 20, 21, 22, 23, 24, 25, 26, 27, 28] (by decide +kernel) (by decide +kernel)
set_option maxRecDepth 20000 in
theorem gX2_firstShownArc_X2_canEnd : GoodIn wsX2_firstShownArc (wsV RX2 101 RX2 yX2_canEnd wsX2_canEnd) := goodIn_app (goodIn_of _ (by decide +kernel)) ggX2_firstShownArc_X2_canEnd
theorem dX2_firstShownArc_0 : decode cX2_firstShownArc 0 = .ok (.iconst 0, 1) := by decide +kernel
theorem dX2_firstShownArc_1 : decode cX2_firstShownArc 1 = .ok (.istore_n 2, 1) := by decide +kernel
theorem dX2_firstShownArc_2 : decode cX2_firstShownArc 2 = .ok (.iload_n 2, 1) := by decide +kernel
theorem dX2_firstShownArc_3 : decode cX2_firstShownArc 3 = .ok (.aload_n 0, 1) := by decide +kernel
theorem dX2_firstShownArc_4 : decode cX2_firstShownArc 4 = .ok (.getfield 9, 3) := by decide +kernel
theorem dX2_firstShownArc_7 : decode cX2_firstShownArc 7 = .ok (.getfield 49, 3) := by decide +kernel
theorem dX2_firstShownArc_10 : decode cX2_firstShownArc 10 = .ok (.if_icmp .ge 32, 3) := by decide +kernel
theorem dX2_firstShownArc_13 : decode cX2_firstShownArc 13 = .ok (.aload_n 0, 1) := by decide +kernel
theorem dX2_firstShownArc_14 : decode cX2_firstShownArc 14 = .ok (.iload_n 2, 1) := by decide +kernel
theorem dX2_firstShownArc_15 : decode cX2_firstShownArc 15 = .ok (.aload_n 0, 1) := by decide +kernel
theorem dX2_firstShownArc_16 : decode cX2_firstShownArc 16 = .ok (.getfield 9, 3) := by decide +kernel
theorem dX2_firstShownArc_19 : decode cX2_firstShownArc 19 = .ok (.getfield 60, 3) := by decide +kernel
theorem dX2_firstShownArc_22 : decode cX2_firstShownArc 22 = .ok (.iload_n 2, 1) := by decide +kernel
theorem dX2_firstShownArc_23 : decode cX2_firstShownArc 23 = .ok (.iaload, 1) := by decide +kernel
theorem dX2_firstShownArc_24 : decode cX2_firstShownArc 24 = .ok (.iload_n 1, 1) := by decide +kernel
theorem dX2_firstShownArc_25 : decode cX2_firstShownArc 25 = .ok (.iconst 1, 1) := by decide +kernel
theorem dX2_firstShownArc_26 : decode cX2_firstShownArc 26 = .ok (.isub, 1) := by decide +kernel
theorem dX2_firstShownArc_27 : decode cX2_firstShownArc 27 = .ok (.iconst (-1), 1) := by decide +kernel
theorem dX2_firstShownArc_28 : decode cX2_firstShownArc 28 = .ok (.invokevirtual 101, 3) := by decide +kernel
theorem dX2_firstShownArc_31 : decode cX2_firstShownArc 31 = .ok (.ifCond .eq 5, 3) := by decide +kernel
theorem dX2_firstShownArc_34 : decode cX2_firstShownArc 34 = .ok (.iload_n 2, 1) := by decide +kernel
theorem dX2_firstShownArc_35 : decode cX2_firstShownArc 35 = .ok (.ireturn, 1) := by decide +kernel
theorem dX2_firstShownArc_36 : decode cX2_firstShownArc 36 = .ok (.iinc 2 1, 3) := by decide +kernel
theorem dX2_firstShownArc_39 : decode cX2_firstShownArc 39 = .ok (.goto (-37), 3) := by decide +kernel
theorem dX2_firstShownArc_42 : decode cX2_firstShownArc 42 = .ok (.iconst (-1), 1) := by decide +kernel
theorem dX2_firstShownArc_43 : decode cX2_firstShownArc 43 = .ok (.ireturn, 1) := by decide +kernel
set_option maxRecDepth 20000 in
theorem ggX2_lowest_X2_lightest : GoodIn wsX2_lowest wsX2_lightest := goodIn_r _ [11, 12, 13, 14, 15, 16] (by decide +kernel) (by decide +kernel)
set_option maxRecDepth 20000 in
theorem gX2_lowest_X2_lightest : GoodIn wsX2_lowest (wsV RX2 70 RX2 yX2_lightest wsX2_lightest) := goodIn_app (goodIn_of _ (by decide +kernel)) ggX2_lowest_X2_lightest
theorem dX2_lowest_0 : decode cX2_lowest 0 = .ok (.iconst 0, 1) := by decide +kernel
theorem dX2_lowest_1 : decode cX2_lowest 1 = .ok (.istore_n 2, 1) := by decide +kernel
theorem dX2_lowest_2 : decode cX2_lowest 2 = .ok (.iconst 0, 1) := by decide +kernel
theorem dX2_lowest_3 : decode cX2_lowest 3 = .ok (.istore_n 3, 1) := by decide +kernel
theorem dX2_lowest_4 : decode cX2_lowest 4 = .ok (.iload_n 3, 1) := by decide +kernel
theorem dX2_lowest_5 : decode cX2_lowest 5 = .ok (.aload_n 0, 1) := by decide +kernel
theorem dX2_lowest_6 : decode cX2_lowest 6 = .ok (.getfield 9, 3) := by decide +kernel
theorem dX2_lowest_9 : decode cX2_lowest 9 = .ok (.getfield 39, 3) := by decide +kernel
theorem dX2_lowest_12 : decode cX2_lowest 12 = .ok (.if_icmp .ge 22, 3) := by decide +kernel
theorem dX2_lowest_15 : decode cX2_lowest 15 = .ok (.iload_n 2, 1) := by decide +kernel
theorem dX2_lowest_16 : decode cX2_lowest 16 = .ok (.aload_n 0, 1) := by decide +kernel
theorem dX2_lowest_17 : decode cX2_lowest 17 = .ok (.bipush 12, 2) := by decide +kernel
theorem dX2_lowest_19 : decode cX2_lowest 19 = .ok (.iload_n 3, 1) := by decide +kernel
theorem dX2_lowest_20 : decode cX2_lowest 20 = .ok (.iload_n 1, 1) := by decide +kernel
theorem dX2_lowest_21 : decode cX2_lowest 21 = .ok (.invokevirtual 70, 3) := by decide +kernel
theorem dX2_lowest_24 : decode cX2_lowest 24 = .ok (.invokestatic 116, 3) := by decide +kernel
theorem dX2_lowest_27 : decode cX2_lowest 27 = .ok (.istore_n 2, 1) := by decide +kernel
theorem dX2_lowest_28 : decode cX2_lowest 28 = .ok (.iinc 3 1, 3) := by decide +kernel
theorem dX2_lowest_31 : decode cX2_lowest 31 = .ok (.goto (-27), 3) := by decide +kernel
theorem dX2_lowest_34 : decode cX2_lowest 34 = .ok (.iload_n 2, 1) := by decide +kernel
theorem dX2_lowest_35 : decode cX2_lowest 35 = .ok (.ireturn, 1) := by decide +kernel
set_option maxRecDepth 20000 in
theorem ggX3_init_X0_init : GoodIn wsX3_init wsX0_init := goodIn_r _ [18, 19, 2, 3, 20, 21, 22, 23, 24, 25, 48, 49, 50, 51, 52, 53, 54] (by decide +kernel) (by decide +kernel)
set_option maxRecDepth 20000 in
theorem gX3_init_X0_init : GoodIn wsX3_init (wsX0_init) := ggX3_init_X0_init
set_option maxRecDepth 20000 in
theorem ggX3_init_X2_init : GoodIn wsX3_init wsX2_init := goodIn_r _ [28, 29, 2, 3, 30, 31, 20, 32, 33, 34, 58, 59, 60, 61] (by decide +kernel) (by decide +kernel)
set_option maxRecDepth 20000 in
theorem gX3_init_X2_init : GoodIn wsX3_init (wsX2_init) := ggX3_init_X2_init
set_option maxRecDepth 20000 in
theorem ggX3_init_X1_init : GoodIn wsX3_init wsX1_init := goodIn_r _ [37, 38, 2, 3, 39, 20, 40, 24, 41, 42, 43, 44, 45, 46, 47, 62, 63, 64, 65, 66, 67, 68, 69] (by decide +kernel) (by decide +kernel)
set_option maxRecDepth 20000 in
theorem gX3_init_X1_init : GoodIn wsX3_init (wsX1_init) := ggX3_init_X1_init
theorem dX3_init_0 : decode cX3_init 0 = .ok (.aload_n 0, 1) := by decide +kernel
theorem dX3_init_1 : decode cX3_init 1 = .ok (.invokespecial 3, 3) := by decide +kernel
theorem dX3_init_4 : decode cX3_init 4 = .ok (.aload_n 0, 1) := by decide +kernel
theorem dX3_init_5 : decode cX3_init 5 = .ok (.new 9, 3) := by decide +kernel
theorem dX3_init_8 : decode cX3_init 8 = .ok (.dup, 1) := by decide +kernel
theorem dX3_init_9 : decode cX3_init 9 = .ok (.invokespecial 11, 3) := by decide +kernel
theorem dX3_init_12 : decode cX3_init 12 = .ok (.putfield 12, 3) := by decide +kernel
theorem dX3_init_15 : decode cX3_init 15 = .ok (.aload_n 0, 1) := by decide +kernel
theorem dX3_init_16 : decode cX3_init 16 = .ok (.new 16, 3) := by decide +kernel
theorem dX3_init_19 : decode cX3_init 19 = .ok (.dup, 1) := by decide +kernel
theorem dX3_init_20 : decode cX3_init 20 = .ok (.aload_n 0, 1) := by decide +kernel
theorem dX3_init_21 : decode cX3_init 21 = .ok (.getfield 12, 3) := by decide +kernel
theorem dX3_init_24 : decode cX3_init 24 = .ok (.invokespecial 18, 3) := by decide +kernel
theorem dX3_init_27 : decode cX3_init 27 = .ok (.putfield 21, 3) := by decide +kernel
theorem dX3_init_30 : decode cX3_init 30 = .ok (.aload_n 0, 1) := by decide +kernel
theorem dX3_init_31 : decode cX3_init 31 = .ok (.new 25, 3) := by decide +kernel
theorem dX3_init_34 : decode cX3_init 34 = .ok (.dup, 1) := by decide +kernel
theorem dX3_init_35 : decode cX3_init 35 = .ok (.aload_n 0, 1) := by decide +kernel
theorem dX3_init_36 : decode cX3_init 36 = .ok (.getfield 12, 3) := by decide +kernel
theorem dX3_init_39 : decode cX3_init 39 = .ok (.invokespecial 27, 3) := by decide +kernel
theorem dX3_init_42 : decode cX3_init 42 = .ok (.putfield 28, 3) := by decide +kernel
theorem dX3_init_45 : decode cX3_init 45 = .ok (.return_, 1) := by decide +kernel
set_option maxRecDepth 20000 in
theorem ggX3_node_X0_addNode : GoodIn wsX3_node wsX0_addNode := goodIn_r _ [8, 9, 10, 14, 15, 16, 17, 18, 19, 20] (by decide +kernel) (by decide +kernel)
set_option maxRecDepth 20000 in
theorem gX3_node_X0_addNode : GoodIn wsX3_node (wsV RX3 37 RX0 yX0_addNode wsX0_addNode) := goodIn_app (goodIn_of _ (by decide +kernel)) ggX3_node_X0_addNode
theorem dX3_node_0 : decode cX3_node 0 = .ok (.aload_n 0, 1) := by decide +kernel
theorem dX3_node_1 : decode cX3_node 1 = .ok (.getfield 12, 3) := by decide +kernel
theorem dX3_node_4 : decode cX3_node 4 = .ok (.getfield 32, 3) := by decide +kernel
theorem dX3_node_7 : decode cX3_node 7 = .ok (.bipush 12, 2) := by decide +kernel
theorem dX3_node_9 : decode cX3_node 9 = .ok (.if_icmp .lt 6, 3) := by decide +kernel
theorem dX3_node_12 : decode cX3_node 12 = .ok (.ldc 36, 2) := by decide +kernel
theorem dX3_node_14 : decode cX3_node 14 = .ok (.ireturn, 1) := by decide +kernel
theorem dX3_node_15 : decode cX3_node 15 = .ok (.aload_n 0, 1) := by decide +kernel
theorem dX3_node_16 : decode cX3_node 16 = .ok (.getfield 12, 3) := by decide +kernel
theorem dX3_node_19 : decode cX3_node 19 = .ok (.invokevirtual 37, 3) := by decide +kernel
theorem dX3_node_22 : decode cX3_node 22 = .ok (.ireturn, 1) := by decide +kernel
set_option maxRecDepth 20000 in
theorem ggX3_arc_X0_hasNodes : GoodIn wsX3_arc wsX0_hasNodes := goodIn_r _ [10, 11, 12, 13, 9, 14, 15, 33, 34, 35, 36, 37, 38, 39] (by decide +kernel) (by decide +kernel)
set_option maxRecDepth 20000 in
theorem gX3_arc_X0_hasNodes : GoodIn wsX3_arc (wsV RX3 41 RX0 yX0_hasNodes wsX0_hasNodes) := goodIn_app (goodIn_of _ (by decide +kernel)) ggX3_arc_X0_hasNodes
set_option maxRecDepth 20000 in
theorem ggX3_arc_X3_isOutside : GoodIn wsX3_arc wsX3_isOutside := goodIn_r _ [19] (by decide +kernel) (by decide +kernel)
set_option maxRecDepth 20000 in
theorem gX3_arc_X3_isOutside : GoodIn wsX3_arc (va_wsS RX3 46 yX3_isOutside wsX3_isOutside) := goodIn_app (goodIn_of _ (by decide +kernel)) ggX3_arc_X3_isOutside
set_option maxRecDepth 20000 in
theorem ggX3_arc_X0_addArc : GoodIn wsX3_arc wsX0_addArc := goodIn_r _ [23, 24, 25, 26, 27, 28, 29, 33, 34, 35, 36, 37, 38, 39] (by decide +kernel) (by decide +kernel)
set_option maxRecDepth 20000 in
theorem gX3_arc_X0_addArc : GoodIn wsX3_arc (wsV RX3 54 RX0 yX0_addArc wsX0_addArc) := goodIn_app (goodIn_of _ (by decide +kernel)) ggX3_arc_X0_addArc
theorem dX3_arc_0 : decode cX3_arc 0 = .ok (.aload_n 0, 1) := by decide +kernel
theorem dX3_arc_1 : decode cX3_arc 1 = .ok (.getfield 12, 3) := by decide +kernel
theorem dX3_arc_4 : decode cX3_arc 4 = .ok (.iload_n 1, 1) := by decide +kernel
theorem dX3_arc_5 : decode cX3_arc 5 = .ok (.iload_n 2, 1) := by decide +kernel
theorem dX3_arc_6 : decode cX3_arc 6 = .ok (.invokevirtual 41, 3) := by decide +kernel
theorem dX3_arc_9 : decode cX3_arc 9 = .ok (.ifCond .ne 6, 3) := by decide +kernel
theorem dX3_arc_12 : decode cX3_arc 12 = .ok (.ldc 45, 2) := by decide +kernel
theorem dX3_arc_14 : decode cX3_arc 14 = .ok (.ireturn, 1) := by decide +kernel
theorem dX3_arc_15 : decode cX3_arc 15 = .ok (.iload_n 3, 1) := by decide +kernel
theorem dX3_arc_16 : decode cX3_arc 16 = .ok (.sipush (-1000), 3) := by decide +kernel
theorem dX3_arc_19 : decode cX3_arc 19 = .ok (.sipush 1000, 3) := by decide +kernel
theorem dX3_arc_22 : decode cX3_arc 22 = .ok (.invokestatic 46, 3) := by decide +kernel
theorem dX3_arc_25 : decode cX3_arc 25 = .ok (.ifCond .eq 6, 3) := by decide +kernel
theorem dX3_arc_28 : decode cX3_arc 28 = .ok (.ldc 50, 2) := by decide +kernel
theorem dX3_arc_30 : decode cX3_arc 30 = .ok (.ireturn, 1) := by decide +kernel
theorem dX3_arc_31 : decode cX3_arc 31 = .ok (.aload_n 0, 1) := by decide +kernel
theorem dX3_arc_32 : decode cX3_arc 32 = .ok (.getfield 12, 3) := by decide +kernel
theorem dX3_arc_35 : decode cX3_arc 35 = .ok (.getfield 51, 3) := by decide +kernel
theorem dX3_arc_38 : decode cX3_arc 38 = .ok (.bipush 40, 2) := by decide +kernel
theorem dX3_arc_40 : decode cX3_arc 40 = .ok (.if_icmp .lt 6, 3) := by decide +kernel
theorem dX3_arc_43 : decode cX3_arc 43 = .ok (.ldc 36, 2) := by decide +kernel
theorem dX3_arc_45 : decode cX3_arc 45 = .ok (.ireturn, 1) := by decide +kernel
theorem dX3_arc_46 : decode cX3_arc 46 = .ok (.aload_n 0, 1) := by decide +kernel
theorem dX3_arc_47 : decode cX3_arc 47 = .ok (.getfield 12, 3) := by decide +kernel
theorem dX3_arc_50 : decode cX3_arc 50 = .ok (.iload_n 1, 1) := by decide +kernel
theorem dX3_arc_51 : decode cX3_arc 51 = .ok (.iload_n 2, 1) := by decide +kernel
theorem dX3_arc_52 : decode cX3_arc 52 = .ok (.iload_n 3, 1) := by decide +kernel
theorem dX3_arc_53 : decode cX3_arc 53 = .ok (.invokevirtual 54, 3) := by decide +kernel
theorem dX3_arc_56 : decode cX3_arc 56 = .ok (.ireturn, 1) := by decide +kernel
set_option maxRecDepth 20000 in
theorem ggX3_weight_X0_hasArc : GoodIn wsX3_weight wsX0_hasArc := goodIn_r _ [8, 9, 23, 24, 25, 26, 27, 28, 29] (by decide +kernel) (by decide +kernel)
set_option maxRecDepth 20000 in
theorem gX3_weight_X0_hasArc : GoodIn wsX3_weight (wsV RX3 58 RX0 yX0_hasArc wsX0_hasArc) := goodIn_app (goodIn_of _ (by decide +kernel)) ggX3_weight_X0_hasArc
set_option maxRecDepth 20000 in
theorem ggX3_weight_X3_isOutside : GoodIn wsX3_weight wsX3_isOutside := goodIn_r _ [13] (by decide +kernel) (by decide +kernel)
set_option maxRecDepth 20000 in
theorem gX3_weight_X3_isOutside : GoodIn wsX3_weight (va_wsS RX3 46 yX3_isOutside wsX3_isOutside) := goodIn_app (goodIn_of _ (by decide +kernel)) ggX3_weight_X3_isOutside
set_option maxRecDepth 20000 in
theorem ggX3_weight_X0_changeWeight : GoodIn wsX3_weight wsX0_changeWeight := goodIn_r _ [17, 18, 19, 23, 24, 25, 26, 27, 28, 29] (by decide +kernel) (by decide +kernel)
set_option maxRecDepth 20000 in
theorem gX3_weight_X0_changeWeight : GoodIn wsX3_weight (wsV RX3 62 RX0 yX0_changeWeight wsX0_changeWeight) := goodIn_app (goodIn_of _ (by decide +kernel)) ggX3_weight_X0_changeWeight
theorem dX3_weight_0 : decode cX3_weight 0 = .ok (.aload_n 0, 1) := by decide +kernel
theorem dX3_weight_1 : decode cX3_weight 1 = .ok (.getfield 12, 3) := by decide +kernel
theorem dX3_weight_4 : decode cX3_weight 4 = .ok (.iload_n 1, 1) := by decide +kernel
theorem dX3_weight_5 : decode cX3_weight 5 = .ok (.invokevirtual 58, 3) := by decide +kernel
theorem dX3_weight_8 : decode cX3_weight 8 = .ok (.ifCond .ne 6, 3) := by decide +kernel
theorem dX3_weight_11 : decode cX3_weight 11 = .ok (.ldc 45, 2) := by decide +kernel
theorem dX3_weight_13 : decode cX3_weight 13 = .ok (.ireturn, 1) := by decide +kernel
theorem dX3_weight_14 : decode cX3_weight 14 = .ok (.iload_n 2, 1) := by decide +kernel
theorem dX3_weight_15 : decode cX3_weight 15 = .ok (.sipush (-1000), 3) := by decide +kernel
theorem dX3_weight_18 : decode cX3_weight 18 = .ok (.sipush 1000, 3) := by decide +kernel
theorem dX3_weight_21 : decode cX3_weight 21 = .ok (.invokestatic 46, 3) := by decide +kernel
theorem dX3_weight_24 : decode cX3_weight 24 = .ok (.ifCond .eq 6, 3) := by decide +kernel
theorem dX3_weight_27 : decode cX3_weight 27 = .ok (.ldc 50, 2) := by decide +kernel
theorem dX3_weight_29 : decode cX3_weight 29 = .ok (.ireturn, 1) := by decide +kernel
theorem dX3_weight_30 : decode cX3_weight 30 = .ok (.aload_n 0, 1) := by decide +kernel
theorem dX3_weight_31 : decode cX3_weight 31 = .ok (.getfield 12, 3) := by decide +kernel
theorem dX3_weight_34 : decode cX3_weight 34 = .ok (.iload_n 1, 1) := by decide +kernel
theorem dX3_weight_35 : decode cX3_weight 35 = .ok (.iload_n 2, 1) := by decide +kernel
theorem dX3_weight_36 : decode cX3_weight 36 = .ok (.invokevirtual 62, 3) := by decide +kernel
theorem dX3_weight_39 : decode cX3_weight 39 = .ok (.ireturn, 1) := by decide +kernel
set_option maxRecDepth 20000 in
theorem ggX3_turn_X0_hasArc : GoodIn wsX3_turn wsX0_hasArc := goodIn_r _ [7, 8, 18, 19, 20, 21, 22, 23, 24] (by decide +kernel) (by decide +kernel)
set_option maxRecDepth 20000 in
theorem gX3_turn_X0_hasArc : GoodIn wsX3_turn (wsV RX3 58 RX0 yX0_hasArc wsX0_hasArc) := goodIn_app (goodIn_of _ (by decide +kernel)) ggX3_turn_X0_hasArc
set_option maxRecDepth 20000 in
theorem ggX3_turn_X0_flip : GoodIn wsX3_turn wsX0_flip := goodIn_r _ [12, 13, 14, 18, 19, 20, 21, 22, 23, 24] (by decide +kernel) (by decide +kernel)
set_option maxRecDepth 20000 in
theorem gX3_turn_X0_flip : GoodIn wsX3_turn (wsV RX3 66 RX0 yX0_flip wsX0_flip) := goodIn_app (goodIn_of _ (by decide +kernel)) ggX3_turn_X0_flip
theorem dX3_turn_0 : decode cX3_turn 0 = .ok (.aload_n 0, 1) := by decide +kernel
theorem dX3_turn_1 : decode cX3_turn 1 = .ok (.getfield 12, 3) := by decide +kernel
theorem dX3_turn_4 : decode cX3_turn 4 = .ok (.iload_n 1, 1) := by decide +kernel
theorem dX3_turn_5 : decode cX3_turn 5 = .ok (.invokevirtual 58, 3) := by decide +kernel
theorem dX3_turn_8 : decode cX3_turn 8 = .ok (.ifCond .ne 6, 3) := by decide +kernel
theorem dX3_turn_11 : decode cX3_turn 11 = .ok (.ldc 45, 2) := by decide +kernel
theorem dX3_turn_13 : decode cX3_turn 13 = .ok (.ireturn, 1) := by decide +kernel
theorem dX3_turn_14 : decode cX3_turn 14 = .ok (.aload_n 0, 1) := by decide +kernel
theorem dX3_turn_15 : decode cX3_turn 15 = .ok (.getfield 12, 3) := by decide +kernel
theorem dX3_turn_18 : decode cX3_turn 18 = .ok (.iload_n 1, 1) := by decide +kernel
theorem dX3_turn_19 : decode cX3_turn 19 = .ok (.invokevirtual 66, 3) := by decide +kernel
theorem dX3_turn_22 : decode cX3_turn 22 = .ok (.ireturn, 1) := by decide +kernel
set_option maxRecDepth 20000 in
theorem ggX3_clear_X0_empty : GoodIn wsX3_clear wsX0_empty := goodIn_r _ [6, 7, 8, 9, 13, 14, 15, 16, 17, 18, 19] (by decide +kernel) (by decide +kernel)
set_option maxRecDepth 20000 in
theorem gX3_clear_X0_empty : GoodIn wsX3_clear (wsV RX3 70 RX0 yX0_empty wsX0_empty) := goodIn_app (goodIn_of _ (by decide +kernel)) ggX3_clear_X0_empty
theorem dX3_clear_0 : decode cX3_clear 0 = .ok (.aload_n 0, 1) := by decide +kernel
theorem dX3_clear_1 : decode cX3_clear 1 = .ok (.getfield 12, 3) := by decide +kernel
theorem dX3_clear_4 : decode cX3_clear 4 = .ok (.invokevirtual 70, 3) := by decide +kernel
theorem dX3_clear_7 : decode cX3_clear 7 = .ok (.ireturn, 1) := by decide +kernel
set_option maxRecDepth 20000 in
theorem ggX3_told_X0_countThere : GoodIn wsX3_told wsX0_countThere := goodIn_r _ [9, 10, 11, 15, 16, 17, 18, 19, 20, 21] (by decide +kernel) (by decide +kernel)
set_option maxRecDepth 20000 in
theorem gX3_told_X0_countThere : GoodIn wsX3_told (wsV RX3 73 RX0 yX0_countThere wsX0_countThere) := goodIn_app (goodIn_of _ (by decide +kernel)) ggX3_told_X0_countThere
theorem dX3_told_0 : decode cX3_told 0 = .ok (.iload_n 1, 1) := by decide +kernel
theorem dX3_told_1 : decode cX3_told 1 = .ok (.tableswitch 51 0 2 #[27, 35, 43], 27) := by decide +kernel
theorem dX3_told_28 : decode cX3_told 28 = .ok (.aload_n 0, 1) := by decide +kernel
theorem dX3_told_29 : decode cX3_told 29 = .ok (.getfield 12, 3) := by decide +kernel
theorem dX3_told_32 : decode cX3_told 32 = .ok (.getfield 32, 3) := by decide +kernel
theorem dX3_told_35 : decode cX3_told 35 = .ok (.ireturn, 1) := by decide +kernel
theorem dX3_told_36 : decode cX3_told 36 = .ok (.aload_n 0, 1) := by decide +kernel
theorem dX3_told_37 : decode cX3_told 37 = .ok (.getfield 12, 3) := by decide +kernel
theorem dX3_told_40 : decode cX3_told 40 = .ok (.getfield 51, 3) := by decide +kernel
theorem dX3_told_43 : decode cX3_told 43 = .ok (.ireturn, 1) := by decide +kernel
theorem dX3_told_44 : decode cX3_told 44 = .ok (.aload_n 0, 1) := by decide +kernel
theorem dX3_told_45 : decode cX3_told 45 = .ok (.getfield 12, 3) := by decide +kernel
theorem dX3_told_48 : decode cX3_told 48 = .ok (.invokevirtual 73, 3) := by decide +kernel
theorem dX3_told_51 : decode cX3_told 51 = .ok (.ireturn, 1) := by decide +kernel
theorem dX3_told_52 : decode cX3_told 52 = .ok (.ldc 50, 2) := by decide +kernel
theorem dX3_told_54 : decode cX3_told 54 = .ok (.ireturn, 1) := by decide +kernel
set_option maxRecDepth 20000 in
theorem ggX3_least_X0_hasNodes : GoodIn wsX3_least wsX0_hasNodes := goodIn_r _ [7, 8, 9, 10, 6, 11, 12, 76, 77, 78, 79, 80, 81, 82] (by decide +kernel) (by decide +kernel)
set_option maxRecDepth 20000 in
theorem gX3_least_X0_hasNodes : GoodIn wsX3_least (wsV RX3 41 RX0 yX0_hasNodes wsX0_hasNodes) := goodIn_app (goodIn_of _ (by decide +kernel)) ggX3_least_X0_hasNodes
set_option maxRecDepth 20000 in
theorem ggX3_least_X3_walksUpTo : GoodIn wsX3_least wsX3_walksUpTo := goodIn_r _ [17, 18, 19, 20, 21, 22, 23, 24, 25, 26, 27, 28, 29, 30, 31, 32, 33, 34, 35, 36, 37, 38, 39, 40, 41, 42, 43, 44, 45, 46, 47, 48, 49, 50, 51, 73, 74, 75, 83, 84, 85, 86, 76, 77, 78, 79, 80, 81, 82] (by decide +kernel) (by decide +kernel)
set_option maxRecDepth 20000 in
theorem gX3_least_X3_walksUpTo : GoodIn wsX3_least (wsV RX3 76 RX3 yX3_walksUpTo wsX3_walksUpTo) := goodIn_app (goodIn_of _ (by decide +kernel)) ggX3_least_X3_walksUpTo
set_option maxRecDepth 20000 in
theorem ggX3_least_X2_leastWeight : GoodIn wsX3_least wsX2_leastWeight := goodIn_r _ [55, 56, 57, 58, 59, 22, 60, 25, 33, 61, 62, 63, 64, 65, 66, 67, 68, 32, 69, 70, 71, 72, 34, 83, 84, 85, 86, 76, 77, 78, 79, 80, 81, 82] (by decide +kernel) (by decide +kernel)
set_option maxRecDepth 20000 in
theorem gX3_least_X2_leastWeight : GoodIn wsX3_least (wsV RX3 80 RX2 yX2_leastWeight wsX2_leastWeight) := goodIn_app (goodIn_of _ (by decide +kernel)) ggX3_least_X2_leastWeight
theorem dX3_least_0 : decode cX3_least 0 = .ok (.aload_n 0, 1) := by decide +kernel
theorem dX3_least_1 : decode cX3_least 1 = .ok (.getfield 12, 3) := by decide +kernel
theorem dX3_least_4 : decode cX3_least 4 = .ok (.iload_n 1, 1) := by decide +kernel
theorem dX3_least_5 : decode cX3_least 5 = .ok (.iload_n 2, 1) := by decide +kernel
theorem dX3_least_6 : decode cX3_least 6 = .ok (.invokevirtual 41, 3) := by decide +kernel
theorem dX3_least_9 : decode cX3_least 9 = .ok (.ifCond .ne 6, 3) := by decide +kernel
theorem dX3_least_12 : decode cX3_least 12 = .ok (.ldc 45, 2) := by decide +kernel
theorem dX3_least_14 : decode cX3_least 14 = .ok (.ireturn, 1) := by decide +kernel
theorem dX3_least_15 : decode cX3_least 15 = .ok (.aload_n 0, 1) := by decide +kernel
theorem dX3_least_16 : decode cX3_least 16 = .ok (.bipush 12, 2) := by decide +kernel
theorem dX3_least_18 : decode cX3_least 18 = .ok (.invokevirtual 76, 3) := by decide +kernel
theorem dX3_least_21 : decode cX3_least 21 = .ok (.iload_n 1, 1) := by decide +kernel
theorem dX3_least_22 : decode cX3_least 22 = .ok (.iload_n 2, 1) := by decide +kernel
theorem dX3_least_23 : decode cX3_least 23 = .ok (.invokevirtual 80, 3) := by decide +kernel
theorem dX3_least_26 : decode cX3_least 26 = .ok (.ireturn, 1) := by decide +kernel
set_option maxRecDepth 20000 in
theorem ggX3_way_X0_hasNodes : GoodIn wsX3_way wsX0_hasNodes := goodIn_r _ [7, 8, 9, 10, 6, 11, 12, 96, 97, 98, 99, 100, 101, 102] (by decide +kernel) (by decide +kernel)
set_option maxRecDepth 20000 in
theorem gX3_way_X0_hasNodes : GoodIn wsX3_way (wsV RX3 41 RX0 yX0_hasNodes wsX0_hasNodes) := goodIn_app (goodIn_of _ (by decide +kernel)) ggX3_way_X0_hasNodes
set_option maxRecDepth 20000 in
theorem ggX3_way_X3_walksUpTo : GoodIn wsX3_way wsX3_walksUpTo := goodIn_r _ [17, 18, 19, 20, 21, 22, 23, 24, 25, 26, 27, 28, 29, 30, 31, 32, 33, 34, 35, 36, 37, 38, 39, 40, 41, 42, 43, 44, 45, 46, 47, 48, 49, 50, 51, 93, 94, 95, 103, 104, 105, 106, 96, 97, 98, 99, 100, 101, 102] (by decide +kernel) (by decide +kernel)
set_option maxRecDepth 20000 in
theorem gX3_way_X3_walksUpTo : GoodIn wsX3_way (wsV RX3 76 RX3 yX3_walksUpTo wsX3_walksUpTo) := goodIn_app (goodIn_of _ (by decide +kernel)) ggX3_way_X3_walksUpTo
set_option maxRecDepth 20000 in
theorem ggX3_way_X2_wayArc : GoodIn wsX3_way wsX2_wayArc := goodIn_r _ [55, 34, 56, 57, 58, 59, 22, 60, 61, 62, 63, 64, 25, 33, 65, 66, 67, 68, 69, 70, 71, 72, 32, 73, 74, 75, 76, 77, 78, 79, 80, 81, 82, 83, 84, 51, 50, 85, 86, 87, 88, 43, 49, 89, 90, 91, 92, 44, 103, 104, 105, 106, 96, 97, 98, 99, 100, 101, 102] (by decide +kernel) (by decide +kernel)
set_option maxRecDepth 20000 in
theorem gX3_way_X2_wayArc : GoodIn wsX3_way (wsV RX3 83 RX2 yX2_wayArc wsX2_wayArc) := goodIn_app (goodIn_of _ (by decide +kernel)) ggX3_way_X2_wayArc
theorem dX3_way_0 : decode cX3_way 0 = .ok (.aload_n 0, 1) := by decide +kernel
theorem dX3_way_1 : decode cX3_way 1 = .ok (.getfield 12, 3) := by decide +kernel
theorem dX3_way_4 : decode cX3_way 4 = .ok (.iload_n 1, 1) := by decide +kernel
theorem dX3_way_5 : decode cX3_way 5 = .ok (.iload_n 2, 1) := by decide +kernel
theorem dX3_way_6 : decode cX3_way 6 = .ok (.invokevirtual 41, 3) := by decide +kernel
theorem dX3_way_9 : decode cX3_way 9 = .ok (.ifCond .ne 6, 3) := by decide +kernel
theorem dX3_way_12 : decode cX3_way 12 = .ok (.ldc 45, 2) := by decide +kernel
theorem dX3_way_14 : decode cX3_way 14 = .ok (.ireturn, 1) := by decide +kernel
theorem dX3_way_15 : decode cX3_way 15 = .ok (.aload_n 0, 1) := by decide +kernel
theorem dX3_way_16 : decode cX3_way 16 = .ok (.bipush 12, 2) := by decide +kernel
theorem dX3_way_18 : decode cX3_way 18 = .ok (.invokevirtual 76, 3) := by decide +kernel
theorem dX3_way_21 : decode cX3_way 21 = .ok (.iload_n 1, 1) := by decide +kernel
theorem dX3_way_22 : decode cX3_way 22 = .ok (.iload_n 2, 1) := by decide +kernel
theorem dX3_way_23 : decode cX3_way 23 = .ok (.iload_n 3, 1) := by decide +kernel
theorem dX3_way_24 : decode cX3_way 24 = .ok (.invokevirtual 83, 3) := by decide +kernel
theorem dX3_way_27 : decode cX3_way 27 = .ok (.ireturn, 1) := by decide +kernel
set_option maxRecDepth 20000 in
theorem ggX3_within_X0_hasNodes : GoodIn wsX3_within wsX0_hasNodes := goodIn_r _ [8, 9, 10, 11, 7, 12, 13, 63, 64, 65, 66, 67, 68, 69] (by decide +kernel) (by decide +kernel)
set_option maxRecDepth 20000 in
theorem gX3_within_X0_hasNodes : GoodIn wsX3_within (wsV RX3 41 RX0 yX0_hasNodes wsX0_hasNodes) := goodIn_app (goodIn_of _ (by decide +kernel)) ggX3_within_X0_hasNodes
set_option maxRecDepth 20000 in
theorem ggX3_within_X3_isOutside : GoodIn wsX3_within wsX3_isOutside := goodIn_r _ [17] (by decide +kernel) (by decide +kernel)
set_option maxRecDepth 20000 in
theorem gX3_within_X3_isOutside : GoodIn wsX3_within (va_wsS RX3 46 yX3_isOutside wsX3_isOutside) := goodIn_app (goodIn_of _ (by decide +kernel)) ggX3_within_X3_isOutside
set_option maxRecDepth 20000 in
theorem ggX3_within_X3_walksUpTo : GoodIn wsX3_within wsX3_walksUpTo := goodIn_r _ [21, 22, 23, 24, 25, 26, 27, 28, 29, 30, 31, 32, 33, 34, 35, 36, 37, 38, 39, 40, 41, 42, 43, 44, 45, 46, 47, 48, 49, 50, 51, 52, 53, 54, 55, 60, 61, 62, 70, 71, 72, 73, 63, 64, 65, 66, 67, 68, 69] (by decide +kernel) (by decide +kernel)
set_option maxRecDepth 20000 in
theorem gX3_within_X3_walksUpTo : GoodIn wsX3_within (wsV RX3 76 RX3 yX3_walksUpTo wsX3_walksUpTo) := goodIn_app (goodIn_of _ (by decide +kernel)) ggX3_within_X3_walksUpTo
set_option maxRecDepth 20000 in
theorem ggX3_within_X2_lightest : GoodIn wsX3_within wsX2_lightest := goodIn_r _ [59, 36, 70, 71, 72, 73] (by decide +kernel) (by decide +kernel)
set_option maxRecDepth 20000 in
theorem gX3_within_X2_lightest : GoodIn wsX3_within (wsV RX3 86 RX2 yX2_lightest wsX2_lightest) := goodIn_app (goodIn_of _ (by decide +kernel)) ggX3_within_X2_lightest
theorem dX3_within_0 : decode cX3_within 0 = .ok (.aload_n 0, 1) := by decide +kernel
theorem dX3_within_1 : decode cX3_within 1 = .ok (.getfield 12, 3) := by decide +kernel
theorem dX3_within_4 : decode cX3_within 4 = .ok (.iload_n 1, 1) := by decide +kernel
theorem dX3_within_5 : decode cX3_within 5 = .ok (.iload_n 2, 1) := by decide +kernel
theorem dX3_within_6 : decode cX3_within 6 = .ok (.invokevirtual 41, 3) := by decide +kernel
theorem dX3_within_9 : decode cX3_within 9 = .ok (.ifCond .ne 6, 3) := by decide +kernel
theorem dX3_within_12 : decode cX3_within 12 = .ok (.ldc 45, 2) := by decide +kernel
theorem dX3_within_14 : decode cX3_within 14 = .ok (.ireturn, 1) := by decide +kernel
theorem dX3_within_15 : decode cX3_within 15 = .ok (.iload_n 3, 1) := by decide +kernel
theorem dX3_within_16 : decode cX3_within 16 = .ok (.iconst 0, 1) := by decide +kernel
theorem dX3_within_17 : decode cX3_within 17 = .ok (.bipush 20, 2) := by decide +kernel
theorem dX3_within_19 : decode cX3_within 19 = .ok (.invokestatic 46, 3) := by decide +kernel
theorem dX3_within_22 : decode cX3_within 22 = .ok (.ifCond .eq 6, 3) := by decide +kernel
theorem dX3_within_25 : decode cX3_within 25 = .ok (.ldc 50, 2) := by decide +kernel
theorem dX3_within_27 : decode cX3_within 27 = .ok (.ireturn, 1) := by decide +kernel
theorem dX3_within_28 : decode cX3_within 28 = .ok (.aload_n 0, 1) := by decide +kernel
theorem dX3_within_29 : decode cX3_within 29 = .ok (.iload_n 3, 1) := by decide +kernel
theorem dX3_within_30 : decode cX3_within 30 = .ok (.invokevirtual 76, 3) := by decide +kernel
theorem dX3_within_33 : decode cX3_within 33 = .ok (.iload_n 3, 1) := by decide +kernel
theorem dX3_within_34 : decode cX3_within 34 = .ok (.iload_n 1, 1) := by decide +kernel
theorem dX3_within_35 : decode cX3_within 35 = .ok (.iload_n 2, 1) := by decide +kernel
theorem dX3_within_36 : decode cX3_within 36 = .ok (.invokevirtual 86, 3) := by decide +kernel
theorem dX3_within_39 : decode cX3_within 39 = .ok (.ireturn, 1) := by decide +kernel
set_option maxRecDepth 20000 in
theorem ggX3_rounds_X0_hasNode : GoodIn wsX3_rounds wsX0_hasNode := goodIn_r _ [7, 8, 63, 64, 65, 66, 67, 68, 69] (by decide +kernel) (by decide +kernel)
set_option maxRecDepth 20000 in
theorem gX3_rounds_X0_hasNode : GoodIn wsX3_rounds (wsV RX3 89 RX0 yX0_hasNode wsX0_hasNode) := goodIn_app (goodIn_of _ (by decide +kernel)) ggX3_rounds_X0_hasNode
set_option maxRecDepth 20000 in
theorem ggX3_rounds_X3_walksUpTo : GoodIn wsX3_rounds wsX3_walksUpTo := goodIn_r _ [13, 14, 15, 16, 17, 18, 19, 20, 21, 22, 23, 24, 25, 26, 27, 28, 29, 30, 31, 32, 33, 34, 35, 36, 37, 38, 39, 40, 41, 42, 43, 44, 45, 46, 47, 60, 61, 62, 70, 71, 72, 73, 63, 64, 65, 66, 67, 68, 69] (by decide +kernel) (by decide +kernel)
set_option maxRecDepth 20000 in
theorem gX3_rounds_X3_walksUpTo : GoodIn wsX3_rounds (wsV RX3 76 RX3 yX3_walksUpTo wsX3_walksUpTo) := goodIn_app (goodIn_of _ (by decide +kernel)) ggX3_rounds_X3_walksUpTo
set_option maxRecDepth 20000 in
theorem ggX3_rounds_X2_roundsToRest : GoodIn wsX3_rounds wsX2_roundsToRest := goodIn_r _ [51, 52, 53, 54, 18, 55, 21, 29, 56, 57, 58, 59, 28, 70, 71, 72, 73, 63, 64, 65, 66, 67, 68, 69] (by decide +kernel) (by decide +kernel)
set_option maxRecDepth 20000 in
theorem gX3_rounds_X2_roundsToRest : GoodIn wsX3_rounds (wsV RX3 92 RX2 yX2_roundsToRest wsX2_roundsToRest) := goodIn_app (goodIn_of _ (by decide +kernel)) ggX3_rounds_X2_roundsToRest
theorem dX3_rounds_0 : decode cX3_rounds 0 = .ok (.aload_n 0, 1) := by decide +kernel
theorem dX3_rounds_1 : decode cX3_rounds 1 = .ok (.getfield 12, 3) := by decide +kernel
theorem dX3_rounds_4 : decode cX3_rounds 4 = .ok (.iload_n 1, 1) := by decide +kernel
theorem dX3_rounds_5 : decode cX3_rounds 5 = .ok (.invokevirtual 89, 3) := by decide +kernel
theorem dX3_rounds_8 : decode cX3_rounds 8 = .ok (.ifCond .ne 6, 3) := by decide +kernel
theorem dX3_rounds_11 : decode cX3_rounds 11 = .ok (.ldc 45, 2) := by decide +kernel
theorem dX3_rounds_13 : decode cX3_rounds 13 = .ok (.ireturn, 1) := by decide +kernel
theorem dX3_rounds_14 : decode cX3_rounds 14 = .ok (.aload_n 0, 1) := by decide +kernel
theorem dX3_rounds_15 : decode cX3_rounds 15 = .ok (.bipush 12, 2) := by decide +kernel
theorem dX3_rounds_17 : decode cX3_rounds 17 = .ok (.invokevirtual 76, 3) := by decide +kernel
theorem dX3_rounds_20 : decode cX3_rounds 20 = .ok (.iload_n 1, 1) := by decide +kernel
theorem dX3_rounds_21 : decode cX3_rounds 21 = .ok (.invokevirtual 92, 3) := by decide +kernel
theorem dX3_rounds_24 : decode cX3_rounds 24 = .ok (.ireturn, 1) := by decide +kernel
set_option maxRecDepth 20000 in
theorem ggX3_falling_X3_walksUpTo : GoodIn wsX3_falling wsX3_walksUpTo := goodIn_r _ [5, 6, 7, 8, 9, 10, 11, 12, 13, 14, 15, 16, 17, 18, 19, 20, 21, 22, 23, 24, 25, 26, 27, 28, 29, 30, 31, 32, 33, 34, 35, 36, 37, 38, 39, 48, 49, 50, 51, 52, 53, 54, 55, 56, 57, 58, 59, 60, 61] (by decide +kernel) (by decide +kernel)
set_option maxRecDepth 20000 in
theorem gX3_falling_X3_walksUpTo : GoodIn wsX3_falling (wsV RX3 76 RX3 yX3_walksUpTo wsX3_walksUpTo) := goodIn_app (goodIn_of _ (by decide +kernel)) ggX3_falling_X3_walksUpTo
set_option maxRecDepth 20000 in
theorem ggX3_falling_X2_shownLength : GoodIn wsX3_falling wsX2_shownLength := goodIn_r _ [43, 13, 21, 44, 45, 46, 10, 47, 20, 51, 52, 53, 54, 55, 56, 57, 58, 59, 60, 61] (by decide +kernel) (by decide +kernel)
set_option maxRecDepth 20000 in
theorem gX3_falling_X2_shownLength : GoodIn wsX3_falling (wsV RX3 95 RX2 yX2_shownLength wsX2_shownLength) := goodIn_app (goodIn_of _ (by decide +kernel)) ggX3_falling_X2_shownLength
theorem dX3_falling_0 : decode cX3_falling 0 = .ok (.aload_n 0, 1) := by decide +kernel
theorem dX3_falling_1 : decode cX3_falling 1 = .ok (.bipush 12, 2) := by decide +kernel
theorem dX3_falling_3 : decode cX3_falling 3 = .ok (.invokevirtual 76, 3) := by decide +kernel
theorem dX3_falling_6 : decode cX3_falling 6 = .ok (.invokevirtual 95, 3) := by decide +kernel
theorem dX3_falling_9 : decode cX3_falling 9 = .ok (.ireturn, 1) := by decide +kernel
set_option maxRecDepth 20000 in
theorem ggX3_ring_X3_walksUpTo : GoodIn wsX3_ring wsX3_walksUpTo := goodIn_r _ [5, 6, 7, 8, 9, 10, 11, 12, 13, 14, 15, 16, 17, 18, 19, 20, 21, 22, 23, 24, 25, 26, 27, 28, 29, 30, 31, 32, 33, 34, 35, 36, 37, 38, 39, 68, 69, 70, 71, 72, 73, 74, 75, 76, 77, 78, 79, 80, 81] (by decide +kernel) (by decide +kernel)
set_option maxRecDepth 20000 in
theorem gX3_ring_X3_walksUpTo : GoodIn wsX3_ring (wsV RX3 76 RX3 yX3_walksUpTo wsX3_walksUpTo) := goodIn_app (goodIn_of _ (by decide +kernel)) ggX3_ring_X3_walksUpTo
set_option maxRecDepth 20000 in
theorem ggX3_ring_X2_shownArc : GoodIn wsX3_ring wsX2_shownArc := goodIn_r _ [43, 13, 38, 37, 39, 44, 45, 46, 10, 47, 21, 48, 49, 50, 51, 20, 52, 53, 54, 55, 31, 56, 57, 58, 59, 32, 22, 60, 61, 62, 63, 64, 65, 66, 67, 71, 72, 73, 74, 75, 76, 77, 78, 79, 80, 81] (by decide +kernel) (by decide +kernel)
set_option maxRecDepth 20000 in
theorem gX3_ring_X2_shownArc : GoodIn wsX3_ring (wsV RX3 98 RX2 yX2_shownArc wsX2_shownArc) := goodIn_app (goodIn_of _ (by decide +kernel)) ggX3_ring_X2_shownArc
theorem dX3_ring_0 : decode cX3_ring 0 = .ok (.aload_n 0, 1) := by decide +kernel
theorem dX3_ring_1 : decode cX3_ring 1 = .ok (.bipush 12, 2) := by decide +kernel
theorem dX3_ring_3 : decode cX3_ring 3 = .ok (.invokevirtual 76, 3) := by decide +kernel
theorem dX3_ring_6 : decode cX3_ring 6 = .ok (.iload_n 1, 1) := by decide +kernel
theorem dX3_ring_7 : decode cX3_ring 7 = .ok (.invokevirtual 98, 3) := by decide +kernel
theorem dX3_ring_10 : decode cX3_ring 10 = .ok (.ireturn, 1) := by decide +kernel
set_option maxRecDepth 20000 in
theorem ggX3_height_X0_hasNode : GoodIn wsX3_height wsX0_hasNode := goodIn_r _ [9, 10, 72, 73, 74, 75, 76, 77, 78] (by decide +kernel) (by decide +kernel)
set_option maxRecDepth 20000 in
theorem gX3_height_X0_hasNode : GoodIn wsX3_height (wsV RX3 89 RX0 yX0_hasNode wsX0_hasNode) := goodIn_app (goodIn_of _ (by decide +kernel)) ggX3_height_X0_hasNode
set_option maxRecDepth 20000 in
theorem ggX3_height_X3_walksUpTo : GoodIn wsX3_height wsX3_walksUpTo := goodIn_r _ [15, 4, 16, 17, 18, 19, 20, 21, 22, 23, 24, 25, 26, 27, 28, 29, 30, 31, 32, 33, 34, 35, 36, 37, 38, 39, 40, 41, 42, 43, 44, 45, 46, 47, 48, 69, 70, 71, 79, 80, 81, 82, 72, 73, 74, 75, 76, 77, 78] (by decide +kernel) (by decide +kernel)
set_option maxRecDepth 20000 in
theorem gX3_height_X3_walksUpTo : GoodIn wsX3_height (wsV RX3 76 RX3 yX3_walksUpTo wsX3_walksUpTo) := goodIn_app (goodIn_of _ (by decide +kernel)) ggX3_height_X3_walksUpTo
set_option maxRecDepth 20000 in
theorem ggX3_height_X2_someRingFalls : GoodIn wsX3_height wsX2_someRingFalls := goodIn_r _ [52, 22, 30, 53, 54, 55, 19, 56, 57, 58, 59, 60, 29, 79, 80, 81, 82, 72, 73, 74, 75, 76, 77, 78] (by decide +kernel) (by decide +kernel)
set_option maxRecDepth 20000 in
theorem gX3_height_X2_someRingFalls : GoodIn wsX3_height (wsV RX3 101 RX2 yX2_someRingFalls wsX2_someRingFalls) := goodIn_app (goodIn_of _ (by decide +kernel)) ggX3_height_X2_someRingFalls
set_option maxRecDepth 20000 in
theorem ggX3_height_X2_lowest : GoodIn wsX3_height wsX2_lowest := goodIn_r _ [64, 22, 30, 65, 66, 67, 68, 57, 58, 59, 19, 60, 29, 79, 80, 81, 82, 72, 73, 74, 75, 76, 77, 78] (by decide +kernel) (by decide +kernel)
set_option maxRecDepth 20000 in
theorem gX3_height_X2_lowest : GoodIn wsX3_height (wsV RX3 106 RX2 yX2_lowest wsX2_lowest) := goodIn_app (goodIn_of _ (by decide +kernel)) ggX3_height_X2_lowest
theorem dX3_height_0 : decode cX3_height 0 = .ok (.aload_n 0, 1) := by decide +kernel
theorem dX3_height_1 : decode cX3_height 1 = .ok (.getfield 12, 3) := by decide +kernel
theorem dX3_height_4 : decode cX3_height 4 = .ok (.iload_n 1, 1) := by decide +kernel
theorem dX3_height_5 : decode cX3_height 5 = .ok (.invokevirtual 89, 3) := by decide +kernel
theorem dX3_height_8 : decode cX3_height 8 = .ok (.ifCond .ne 6, 3) := by decide +kernel
theorem dX3_height_11 : decode cX3_height 11 = .ok (.ldc 45, 2) := by decide +kernel
theorem dX3_height_13 : decode cX3_height 13 = .ok (.ireturn, 1) := by decide +kernel
theorem dX3_height_14 : decode cX3_height 14 = .ok (.aload_n 0, 1) := by decide +kernel
theorem dX3_height_15 : decode cX3_height 15 = .ok (.bipush 12, 2) := by decide +kernel
theorem dX3_height_17 : decode cX3_height 17 = .ok (.invokevirtual 76, 3) := by decide +kernel
theorem dX3_height_20 : decode cX3_height 20 = .ok (.invokevirtual 101, 3) := by decide +kernel
theorem dX3_height_23 : decode cX3_height 23 = .ok (.ifCond .eq 6, 3) := by decide +kernel
theorem dX3_height_26 : decode cX3_height 26 = .ok (.ldc 105, 2) := by decide +kernel
theorem dX3_height_28 : decode cX3_height 28 = .ok (.ireturn, 1) := by decide +kernel
theorem dX3_height_29 : decode cX3_height 29 = .ok (.aload_n 0, 1) := by decide +kernel
theorem dX3_height_30 : decode cX3_height 30 = .ok (.getfield 21, 3) := by decide +kernel
theorem dX3_height_33 : decode cX3_height 33 = .ok (.iload_n 1, 1) := by decide +kernel
theorem dX3_height_34 : decode cX3_height 34 = .ok (.invokevirtual 106, 3) := by decide +kernel
theorem dX3_height_37 : decode cX3_height 37 = .ok (.ireturn, 1) := by decide +kernel
set_option maxRecDepth 20000 in
theorem ggX3_lifted_X0_hasArc : GoodIn wsX3_lifted wsX0_hasArc := goodIn_r _ [13, 14, 76, 77, 78, 79, 80, 81, 82] (by decide +kernel) (by decide +kernel)
set_option maxRecDepth 20000 in
theorem gX3_lifted_X0_hasArc : GoodIn wsX3_lifted (wsV RX3 58 RX0 yX0_hasArc wsX0_hasArc) := goodIn_app (goodIn_of _ (by decide +kernel)) ggX3_lifted_X0_hasArc
set_option maxRecDepth 20000 in
theorem ggX3_lifted_X3_walksUpTo : GoodIn wsX3_lifted wsX3_walksUpTo := goodIn_r _ [19, 6, 20, 21, 22, 23, 24, 25, 26, 27, 28, 29, 30, 31, 32, 33, 34, 35, 36, 37, 38, 39, 40, 41, 42, 43, 44, 45, 46, 47, 48, 49, 50, 51, 52, 73, 74, 75, 83, 84, 85, 86, 76, 77, 78, 79, 80, 81, 82] (by decide +kernel) (by decide +kernel)
set_option maxRecDepth 20000 in
theorem gX3_lifted_X3_walksUpTo : GoodIn wsX3_lifted (wsV RX3 76 RX3 yX3_walksUpTo wsX3_walksUpTo) := goodIn_app (goodIn_of _ (by decide +kernel)) ggX3_lifted_X3_walksUpTo
set_option maxRecDepth 20000 in
theorem ggX3_lifted_X2_someRingFalls : GoodIn wsX3_lifted wsX2_someRingFalls := goodIn_r _ [56, 26, 34, 57, 58, 59, 23, 60, 61, 62, 63, 64, 33, 83, 84, 85, 86, 76, 77, 78, 79, 80, 81, 82] (by decide +kernel) (by decide +kernel)
set_option maxRecDepth 20000 in
theorem gX3_lifted_X2_someRingFalls : GoodIn wsX3_lifted (wsV RX3 101 RX2 yX2_someRingFalls wsX2_someRingFalls) := goodIn_app (goodIn_of _ (by decide +kernel)) ggX3_lifted_X2_someRingFalls
set_option maxRecDepth 20000 in
theorem ggX3_lifted_X2_lowest : GoodIn wsX3_lifted wsX2_lowest := goodIn_r _ [68, 26, 34, 69, 70, 71, 72, 61, 62, 63, 23, 64, 33, 83, 84, 85, 86, 76, 77, 78, 79, 80, 81, 82] (by decide +kernel) (by decide +kernel)
set_option maxRecDepth 20000 in
theorem gX3_lifted_X2_lowest : GoodIn wsX3_lifted (wsV RX3 106 RX2 yX2_lowest wsX2_lowest) := goodIn_app (goodIn_of _ (by decide +kernel)) ggX3_lifted_X2_lowest
theorem dX3_lifted_0 : decode cX3_lifted 0 = .ok (.aload_n 0, 1) := by decide +kernel
theorem dX3_lifted_1 : decode cX3_lifted 1 = .ok (.getfield 12, 3) := by decide +kernel
theorem dX3_lifted_4 : decode cX3_lifted 4 = .ok (.iload_n 1, 1) := by decide +kernel
theorem dX3_lifted_5 : decode cX3_lifted 5 = .ok (.invokevirtual 58, 3) := by decide +kernel
theorem dX3_lifted_8 : decode cX3_lifted 8 = .ok (.ifCond .ne 6, 3) := by decide +kernel
theorem dX3_lifted_11 : decode cX3_lifted 11 = .ok (.ldc 45, 2) := by decide +kernel
theorem dX3_lifted_13 : decode cX3_lifted 13 = .ok (.ireturn, 1) := by decide +kernel
theorem dX3_lifted_14 : decode cX3_lifted 14 = .ok (.aload_n 0, 1) := by decide +kernel
theorem dX3_lifted_15 : decode cX3_lifted 15 = .ok (.getfield 12, 3) := by decide +kernel
theorem dX3_lifted_18 : decode cX3_lifted 18 = .ok (.getfield 109, 3) := by decide +kernel
theorem dX3_lifted_21 : decode cX3_lifted 21 = .ok (.iload_n 1, 1) := by decide +kernel
theorem dX3_lifted_22 : decode cX3_lifted 22 = .ok (.baload, 1) := by decide +kernel
theorem dX3_lifted_23 : decode cX3_lifted 23 = .ok (.ifCond .eq 15, 3) := by decide +kernel
theorem dX3_lifted_26 : decode cX3_lifted 26 = .ok (.aload_n 0, 1) := by decide +kernel
theorem dX3_lifted_27 : decode cX3_lifted 27 = .ok (.bipush 12, 2) := by decide +kernel
theorem dX3_lifted_29 : decode cX3_lifted 29 = .ok (.invokevirtual 76, 3) := by decide +kernel
theorem dX3_lifted_32 : decode cX3_lifted 32 = .ok (.invokevirtual 101, 3) := by decide +kernel
theorem dX3_lifted_35 : decode cX3_lifted 35 = .ok (.ifCond .eq 6, 3) := by decide +kernel
theorem dX3_lifted_38 : decode cX3_lifted 38 = .ok (.ldc 105, 2) := by decide +kernel
theorem dX3_lifted_40 : decode cX3_lifted 40 = .ok (.ireturn, 1) := by decide +kernel
theorem dX3_lifted_41 : decode cX3_lifted 41 = .ok (.aload_n 0, 1) := by decide +kernel
theorem dX3_lifted_42 : decode cX3_lifted 42 = .ok (.getfield 12, 3) := by decide +kernel
theorem dX3_lifted_45 : decode cX3_lifted 45 = .ok (.getfield 113, 3) := by decide +kernel
theorem dX3_lifted_48 : decode cX3_lifted 48 = .ok (.iload_n 1, 1) := by decide +kernel
theorem dX3_lifted_49 : decode cX3_lifted 49 = .ok (.iaload, 1) := by decide +kernel
theorem dX3_lifted_50 : decode cX3_lifted 50 = .ok (.aload_n 0, 1) := by decide +kernel
theorem dX3_lifted_51 : decode cX3_lifted 51 = .ok (.getfield 21, 3) := by decide +kernel
theorem dX3_lifted_54 : decode cX3_lifted 54 = .ok (.aload_n 0, 1) := by decide +kernel
theorem dX3_lifted_55 : decode cX3_lifted 55 = .ok (.getfield 12, 3) := by decide +kernel
theorem dX3_lifted_58 : decode cX3_lifted 58 = .ok (.getfield 117, 3) := by decide +kernel
