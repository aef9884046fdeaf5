theorem inlX0 : ∀ w ∈ wsX00, w ∈ wsL_law := fun _ h => List.mem_append_left _ (List.mem_append_left _ (List.mem_append_left _ (List.mem_append_right _ h)))
theorem inX0 : ∀ w ∈ wsX00, w ∈ lw_tbl := fun w h => wsL_law_in w (inlX0 w h)
theorem inlX1 : ∀ w ∈ wsX10, w ∈ wsL_law := fun _ h => List.mem_append_left _ (List.mem_append_right _ h)
theorem inX1 : ∀ w ∈ wsX10, w ∈ lw_tbl := fun w h => wsL_law_in w (inlX1 w h)
theorem inlX2 : ∀ w ∈ wsX20, w ∈ wsL_law := fun _ h => List.mem_append_left _ (List.mem_append_left _ (List.mem_append_right _ h))
theorem inX2 : ∀ w ∈ wsX20, w ∈ lw_tbl := fun w h => wsL_law_in w (inlX2 w h)
theorem inlX3 : ∀ w ∈ wsX30, w ∈ wsL_law := fun _ h => List.mem_append_left _ (List.mem_append_left _ (List.mem_append_left _ (List.mem_append_left _ (List.mem_append_left _ (List.mem_append_right _ h)))))
theorem inX3 : ∀ w ∈ wsX30, w ∈ lw_tbl := fun w h => wsL_law_in w (inlX3 w h)
theorem inlX4 : ∀ w ∈ wsX40, w ∈ wsL_law := fun _ h => List.mem_append_left _ (List.mem_append_left _ (List.mem_append_left _ (List.mem_append_left _ (List.mem_append_right _ h))))
theorem inX4 : ∀ w ∈ wsX40, w ∈ lw_tbl := fun w h => wsL_law_in w (inlX4 w h)
theorem inJ9 : ∀ w ∈ wsJ90, w ∈ lw_tbl := by decide +kernel
theorem inJ10 : ∀ w ∈ wsJ100, w ∈ lw_tbl := by decide +kernel
theorem dX0_init_0 : decode cX0_init 0 = .ok (.aload_n 0, 1) := by decide +kernel
theorem dX0_init_1 : decode cX0_init 1 = .ok (.invokespecial 3, 3) := by decide +kernel
theorem dX0_init_4 : decode cX0_init 4 = .ok (.aload_n 0, 1) := by decide +kernel
theorem dX0_init_5 : decode cX0_init 5 = .ok (.bipush 40, 2) := by decide +kernel
theorem dX0_init_7 : decode cX0_init 7 = .ok (.newarray .int, 2) := by decide +kernel
theorem dX0_init_9 : decode cX0_init 9 = .ok (.putfield 9, 3) := by decide +kernel
theorem dX0_init_12 : decode cX0_init 12 = .ok (.aload_n 0, 1) := by decide +kernel
theorem dX0_init_13 : decode cX0_init 13 = .ok (.bipush 40, 2) := by decide +kernel
theorem dX0_init_15 : decode cX0_init 15 = .ok (.newarray .int, 2) := by decide +kernel
theorem dX0_init_17 : decode cX0_init 17 = .ok (.putfield 15, 3) := by decide +kernel
theorem dX0_init_20 : decode cX0_init 20 = .ok (.aload_n 0, 1) := by decide +kernel
theorem dX0_init_21 : decode cX0_init 21 = .ok (.bipush 40, 2) := by decide +kernel
theorem dX0_init_23 : decode cX0_init 23 = .ok (.newarray .int, 2) := by decide +kernel
theorem dX0_init_25 : decode cX0_init 25 = .ok (.putfield 18, 3) := by decide +kernel
theorem dX0_init_28 : decode cX0_init 28 = .ok (.aload_n 0, 1) := by decide +kernel
theorem dX0_init_29 : decode cX0_init 29 = .ok (.bipush 40, 2) := by decide +kernel
theorem dX0_init_31 : decode cX0_init 31 = .ok (.newarray .boolean, 2) := by decide +kernel
theorem dX0_init_33 : decode cX0_init 33 = .ok (.putfield 21, 3) := by decide +kernel
theorem dX0_init_36 : decode cX0_init 36 = .ok (.return_, 1) := by decide +kernel
theorem dX0_hasNode_0 : decode cX0_hasNode 0 = .ok (.iload_n 1, 1) := by decide +kernel
theorem dX0_hasNode_1 : decode cX0_hasNode 1 = .ok (.ifCond .lt 15, 3) := by decide +kernel
theorem dX0_hasNode_4 : decode cX0_hasNode 4 = .ok (.iload_n 1, 1) := by decide +kernel
theorem dX0_hasNode_5 : decode cX0_hasNode 5 = .ok (.aload_n 0, 1) := by decide +kernel
theorem dX0_hasNode_6 : decode cX0_hasNode 6 = .ok (.getfield 25, 3) := by decide +kernel
theorem dX0_hasNode_9 : decode cX0_hasNode 9 = .ok (.if_icmp .ge 7, 3) := by decide +kernel
theorem dX0_hasNode_12 : decode cX0_hasNode 12 = .ok (.iconst 1, 1) := by decide +kernel
theorem dX0_hasNode_13 : decode cX0_hasNode 13 = .ok (.goto 4, 3) := by decide +kernel
theorem dX0_hasNode_16 : decode cX0_hasNode 16 = .ok (.iconst 0, 1) := by decide +kernel
theorem dX0_hasNode_17 : decode cX0_hasNode 17 = .ok (.ireturn, 1) := by decide +kernel
set_option maxRecDepth 20000 in
theorem ggX0_hasNodes_X0_hasNode : GoodIn wsX0_hasNodes wsX0_hasNode := goodIn_r _ [5, 6, 7, 8, 9, 10, 11, 12, 13] (by decide +kernel) (by decide +kernel)
set_option maxRecDepth 20000 in
theorem gX0_hasNodes_X0_hasNode : GoodIn wsX0_hasNodes (wsV RX0 29 RX0 yX0_hasNode wsX0_hasNode) := goodIn_app (goodIn_of _ (by decide +kernel)) ggX0_hasNodes_X0_hasNode
theorem dX0_hasNodes_0 : decode cX0_hasNodes 0 = .ok (.aload_n 0, 1) := by decide +kernel
theorem dX0_hasNodes_1 : decode cX0_hasNodes 1 = .ok (.iload_n 1, 1) := by decide +kernel
theorem dX0_hasNodes_2 : decode cX0_hasNodes 2 = .ok (.invokevirtual 29, 3) := by decide +kernel
theorem dX0_hasNodes_5 : decode cX0_hasNodes 5 = .ok (.ifCond .eq 15, 3) := by decide +kernel
theorem dX0_hasNodes_8 : decode cX0_hasNodes 8 = .ok (.aload_n 0, 1) := by decide +kernel
theorem dX0_hasNodes_9 : decode cX0_hasNodes 9 = .ok (.iload_n 2, 1) := by decide +kernel
theorem dX0_hasNodes_10 : decode cX0_hasNodes 10 = .ok (.invokevirtual 29, 3) := by decide +kernel
theorem dX0_hasNodes_13 : decode cX0_hasNodes 13 = .ok (.ifCond .eq 7, 3) := by decide +kernel
theorem dX0_hasNodes_16 : decode cX0_hasNodes 16 = .ok (.iconst 1, 1) := by decide +kernel
theorem dX0_hasNodes_17 : decode cX0_hasNodes 17 = .ok (.goto 4, 3) := by decide +kernel
theorem dX0_hasNodes_20 : decode cX0_hasNodes 20 = .ok (.iconst 0, 1) := by decide +kernel
theorem dX0_hasNodes_21 : decode cX0_hasNodes 21 = .ok (.ireturn, 1) := by decide +kernel
theorem dX0_hasArc_0 : decode cX0_hasArc 0 = .ok (.iload_n 1, 1) := by decide +kernel
theorem dX0_hasArc_1 : decode cX0_hasArc 1 = .ok (.ifCond .lt 15, 3) := by decide +kernel
theorem dX0_hasArc_4 : decode cX0_hasArc 4 = .ok (.iload_n 1, 1) := by decide +kernel
theorem dX0_hasArc_5 : decode cX0_hasArc 5 = .ok (.aload_n 0, 1) := by decide +kernel
theorem dX0_hasArc_6 : decode cX0_hasArc 6 = .ok (.getfield 33, 3) := by decide +kernel
theorem dX0_hasArc_9 : decode cX0_hasArc 9 = .ok (.if_icmp .ge 7, 3) := by decide +kernel
theorem dX0_hasArc_12 : decode cX0_hasArc 12 = .ok (.iconst 1, 1) := by decide +kernel
theorem dX0_hasArc_13 : decode cX0_hasArc 13 = .ok (.goto 4, 3) := by decide +kernel
theorem dX0_hasArc_16 : decode cX0_hasArc 16 = .ok (.iconst 0, 1) := by decide +kernel
theorem dX0_hasArc_17 : decode cX0_hasArc 17 = .ok (.ireturn, 1) := by decide +kernel
theorem dX0_addNode_0 : decode cX0_addNode 0 = .ok (.aload_n 0, 1) := by decide +kernel
theorem dX0_addNode_1 : decode cX0_addNode 1 = .ok (.dup, 1) := by decide +kernel
theorem dX0_addNode_2 : decode cX0_addNode 2 = .ok (.getfield 36, 3) := by decide +kernel
theorem dX0_addNode_5 : decode cX0_addNode 5 = .ok (.iconst 1, 1) := by decide +kernel
theorem dX0_addNode_6 : decode cX0_addNode 6 = .ok (.iadd, 1) := by decide +kernel
theorem dX0_addNode_7 : decode cX0_addNode 7 = .ok (.putfield 36, 3) := by decide +kernel
theorem dX0_addNode_10 : decode cX0_addNode 10 = .ok (.aload_n 0, 1) := by decide +kernel
theorem dX0_addNode_11 : decode cX0_addNode 11 = .ok (.dup, 1) := by decide +kernel
theorem dX0_addNode_12 : decode cX0_addNode 12 = .ok (.getfield 25, 3) := by decide +kernel
theorem dX0_addNode_15 : decode cX0_addNode 15 = .ok (.iconst 1, 1) := by decide +kernel
theorem dX0_addNode_16 : decode cX0_addNode 16 = .ok (.iadd, 1) := by decide +kernel
theorem dX0_addNode_17 : decode cX0_addNode 17 = .ok (.putfield 25, 3) := by decide +kernel
theorem dX0_addNode_20 : decode cX0_addNode 20 = .ok (.aload_n 0, 1) := by decide +kernel
theorem dX0_addNode_21 : decode cX0_addNode 21 = .ok (.getfield 25, 3) := by decide +kernel
theorem dX0_addNode_24 : decode cX0_addNode 24 = .ok (.iconst 1, 1) := by decide +kernel
theorem dX0_addNode_25 : decode cX0_addNode 25 = .ok (.isub, 1) := by decide +kernel
theorem dX0_addNode_26 : decode cX0_addNode 26 = .ok (.ireturn, 1) := by decide +kernel
theorem dX0_addArc_0 : decode cX0_addArc 0 = .ok (.aload_n 0, 1) := by decide +kernel
theorem dX0_addArc_1 : decode cX0_addArc 1 = .ok (.dup, 1) := by decide +kernel
theorem dX0_addArc_2 : decode cX0_addArc 2 = .ok (.getfield 36, 3) := by decide +kernel
theorem dX0_addArc_5 : decode cX0_addArc 5 = .ok (.iconst 1, 1) := by decide +kernel
theorem dX0_addArc_6 : decode cX0_addArc 6 = .ok (.iadd, 1) := by decide +kernel
theorem dX0_addArc_7 : decode cX0_addArc 7 = .ok (.putfield 36, 3) := by decide +kernel
theorem dX0_addArc_10 : decode cX0_addArc 10 = .ok (.aload_n 0, 1) := by decide +kernel
theorem dX0_addArc_11 : decode cX0_addArc 11 = .ok (.getfield 33, 3) := by decide +kernel
theorem dX0_addArc_14 : decode cX0_addArc 14 = .ok (.istore 4, 2) := by decide +kernel
theorem dX0_addArc_16 : decode cX0_addArc 16 = .ok (.aload_n 0, 1) := by decide +kernel
theorem dX0_addArc_17 : decode cX0_addArc 17 = .ok (.getfield 9, 3) := by decide +kernel
theorem dX0_addArc_20 : decode cX0_addArc 20 = .ok (.iload 4, 2) := by decide +kernel
theorem dX0_addArc_22 : decode cX0_addArc 22 = .ok (.iload_n 1, 1) := by decide +kernel
theorem dX0_addArc_23 : decode cX0_addArc 23 = .ok (.iastore, 1) := by decide +kernel
theorem dX0_addArc_24 : decode cX0_addArc 24 = .ok (.aload_n 0, 1) := by decide +kernel
theorem dX0_addArc_25 : decode cX0_addArc 25 = .ok (.getfield 15, 3) := by decide +kernel
theorem dX0_addArc_28 : decode cX0_addArc 28 = .ok (.iload 4, 2) := by decide +kernel
theorem dX0_addArc_30 : decode cX0_addArc 30 = .ok (.iload_n 2, 1) := by decide +kernel
theorem dX0_addArc_31 : decode cX0_addArc 31 = .ok (.iastore, 1) := by decide +kernel
theorem dX0_addArc_32 : decode cX0_addArc 32 = .ok (.aload_n 0, 1) := by decide +kernel
theorem dX0_addArc_33 : decode cX0_addArc 33 = .ok (.getfield 18, 3) := by decide +kernel
theorem dX0_addArc_36 : decode cX0_addArc 36 = .ok (.iload 4, 2) := by decide +kernel
theorem dX0_addArc_38 : decode cX0_addArc 38 = .ok (.iload_n 3, 1) := by decide +kernel
theorem dX0_addArc_39 : decode cX0_addArc 39 = .ok (.iastore, 1) := by decide +kernel
theorem dX0_addArc_40 : decode cX0_addArc 40 = .ok (.aload_n 0, 1) := by decide +kernel
theorem dX0_addArc_41 : decode cX0_addArc 41 = .ok (.getfield 21, 3) := by decide +kernel
theorem dX0_addArc_44 : decode cX0_addArc 44 = .ok (.iload 4, 2) := by decide +kernel
theorem dX0_addArc_46 : decode cX0_addArc 46 = .ok (.iconst 1, 1) := by decide +kernel
theorem dX0_addArc_47 : decode cX0_addArc 47 = .ok (.bastore, 1) := by decide +kernel
theorem dX0_addArc_48 : decode cX0_addArc 48 = .ok (.aload_n 0, 1) := by decide +kernel
theorem dX0_addArc_49 : decode cX0_addArc 49 = .ok (.dup, 1) := by decide +kernel
theorem dX0_addArc_50 : decode cX0_addArc 50 = .ok (.getfield 33, 3) := by decide +kernel
theorem dX0_addArc_53 : decode cX0_addArc 53 = .ok (.iconst 1, 1) := by decide +kernel
theorem dX0_addArc_54 : decode cX0_addArc 54 = .ok (.iadd, 1) := by decide +kernel
theorem dX0_addArc_55 : decode cX0_addArc 55 = .ok (.putfield 33, 3) := by decide +kernel
theorem dX0_addArc_58 : decode cX0_addArc 58 = .ok (.iload 4, 2) := by decide +kernel
theorem dX0_addArc_60 : decode cX0_addArc 60 = .ok (.ireturn, 1) := by decide +kernel
theorem dX0_changeWeight_0 : decode cX0_changeWeight 0 = .ok (.aload_n 0, 1) := by decide +kernel
theorem dX0_changeWeight_1 : decode cX0_changeWeight 1 = .ok (.dup, 1) := by decide +kernel
theorem dX0_changeWeight_2 : decode cX0_changeWeight 2 = .ok (.getfield 36, 3) := by decide +kernel
theorem dX0_changeWeight_5 : decode cX0_changeWeight 5 = .ok (.iconst 1, 1) := by decide +kernel
theorem dX0_changeWeight_6 : decode cX0_changeWeight 6 = .ok (.iadd, 1) := by decide +kernel
theorem dX0_changeWeight_7 : decode cX0_changeWeight 7 = .ok (.putfield 36, 3) := by decide +kernel
theorem dX0_changeWeight_10 : decode cX0_changeWeight 10 = .ok (.aload_n 0, 1) := by decide +kernel
theorem dX0_changeWeight_11 : decode cX0_changeWeight 11 = .ok (.getfield 18, 3) := by decide +kernel
theorem dX0_changeWeight_14 : decode cX0_changeWeight 14 = .ok (.iload_n 1, 1) := by decide +kernel
theorem dX0_changeWeight_15 : decode cX0_changeWeight 15 = .ok (.iaload, 1) := by decide +kernel
theorem dX0_changeWeight_16 : decode cX0_changeWeight 16 = .ok (.istore_n 3, 1) := by decide +kernel
theorem dX0_changeWeight_17 : decode cX0_changeWeight 17 = .ok (.aload_n 0, 1) := by decide +kernel
theorem dX0_changeWeight_18 : decode cX0_changeWeight 18 = .ok (.getfield 18, 3) := by decide +kernel
theorem dX0_changeWeight_21 : decode cX0_changeWeight 21 = .ok (.iload_n 1, 1) := by decide +kernel
theorem dX0_changeWeight_22 : decode cX0_changeWeight 22 = .ok (.iload_n 2, 1) := by decide +kernel
theorem dX0_changeWeight_23 : decode cX0_changeWeight 23 = .ok (.iastore, 1) := by decide +kernel
theorem dX0_changeWeight_24 : decode cX0_changeWeight 24 = .ok (.iload_n 3, 1) := by decide +kernel
theorem dX0_changeWeight_25 : decode cX0_changeWeight 25 = .ok (.ireturn, 1) := by decide +kernel
theorem dX0_flip_0 : decode cX0_flip 0 = .ok (.aload_n 0, 1) := by decide +kernel
theorem dX0_flip_1 : decode cX0_flip 1 = .ok (.dup, 1) := by decide +kernel
theorem dX0_flip_2 : decode cX0_flip 2 = .ok (.getfield 36, 3) := by decide +kernel
theorem dX0_flip_5 : decode cX0_flip 5 = .ok (.iconst 1, 1) := by decide +kernel
theorem dX0_flip_6 : decode cX0_flip 6 = .ok (.iadd, 1) := by decide +kernel
theorem dX0_flip_7 : decode cX0_flip 7 = .ok (.putfield 36, 3) := by decide +kernel
theorem dX0_flip_10 : decode cX0_flip 10 = .ok (.aload_n 0, 1) := by decide +kernel
theorem dX0_flip_11 : decode cX0_flip 11 = .ok (.getfield 21, 3) := by decide +kernel
theorem dX0_flip_14 : decode cX0_flip 14 = .ok (.iload_n 1, 1) := by decide +kernel
theorem dX0_flip_15 : decode cX0_flip 15 = .ok (.aload_n 0, 1) := by decide +kernel
theorem dX0_flip_16 : decode cX0_flip 16 = .ok (.getfield 21, 3) := by decide +kernel
theorem dX0_flip_19 : decode cX0_flip 19 = .ok (.iload_n 1, 1) := by decide +kernel
theorem dX0_flip_20 : decode cX0_flip 20 = .ok (.baload, 1) := by decide +kernel
theorem dX0_flip_21 : decode cX0_flip 21 = .ok (.ifCond .ne 7, 3) := by decide +kernel
theorem dX0_flip_24 : decode cX0_flip 24 = .ok (.iconst 1, 1) := by decide +kernel
theorem dX0_flip_25 : decode cX0_flip 25 = .ok (.goto 4, 3) := by decide +kernel
theorem dX0_flip_28 : decode cX0_flip 28 = .ok (.iconst 0, 1) := by decide +kernel
theorem dX0_flip_29 : decode cX0_flip 29 = .ok (.bastore, 1) := by decide +kernel
theorem dX0_flip_30 : decode cX0_flip 30 = .ok (.aload_n 0, 1) := by decide +kernel
theorem dX0_flip_31 : decode cX0_flip 31 = .ok (.getfield 21, 3) := by decide +kernel
theorem dX0_flip_34 : decode cX0_flip 34 = .ok (.iload_n 1, 1) := by decide +kernel
theorem dX0_flip_35 : decode cX0_flip 35 = .ok (.baload, 1) := by decide +kernel
theorem dX0_flip_36 : decode cX0_flip 36 = .ok (.ifCond .eq 7, 3) := by decide +kernel
theorem dX0_flip_39 : decode cX0_flip 39 = .ok (.iconst 1, 1) := by decide +kernel
theorem dX0_flip_40 : decode cX0_flip 40 = .ok (.goto 4, 3) := by decide +kernel
theorem dX0_flip_43 : decode cX0_flip 43 = .ok (.iconst 0, 1) := by decide +kernel
theorem dX0_flip_44 : decode cX0_flip 44 = .ok (.ireturn, 1) := by decide +kernel
theorem dX0_empty_0 : decode cX0_empty 0 = .ok (.aload_n 0, 1) := by decide +kernel
theorem dX0_empty_1 : decode cX0_empty 1 = .ok (.dup, 1) := by decide +kernel
theorem dX0_empty_2 : decode cX0_empty 2 = .ok (.getfield 36, 3) := by decide +kernel
theorem dX0_empty_5 : decode cX0_empty 5 = .ok (.iconst 1, 1) := by decide +kernel
theorem dX0_empty_6 : decode cX0_empty 6 = .ok (.iadd, 1) := by decide +kernel
theorem dX0_empty_7 : decode cX0_empty 7 = .ok (.putfield 36, 3) := by decide +kernel
theorem dX0_empty_10 : decode cX0_empty 10 = .ok (.aload_n 0, 1) := by decide +kernel
theorem dX0_empty_11 : decode cX0_empty 11 = .ok (.getfield 33, 3) := by decide +kernel
theorem dX0_empty_14 : decode cX0_empty 14 = .ok (.istore_n 1, 1) := by decide +kernel
theorem dX0_empty_15 : decode cX0_empty 15 = .ok (.aload_n 0, 1) := by decide +kernel
theorem dX0_empty_16 : decode cX0_empty 16 = .ok (.iconst 0, 1) := by decide +kernel
theorem dX0_empty_17 : decode cX0_empty 17 = .ok (.putfield 25, 3) := by decide +kernel
theorem dX0_empty_20 : decode cX0_empty 20 = .ok (.aload_n 0, 1) := by decide +kernel
theorem dX0_empty_21 : decode cX0_empty 21 = .ok (.iconst 0, 1) := by decide +kernel
theorem dX0_empty_22 : decode cX0_empty 22 = .ok (.putfield 33, 3) := by decide +kernel
theorem dX0_empty_25 : decode cX0_empty 25 = .ok (.iload_n 1, 1) := by decide +kernel
theorem dX0_empty_26 : decode cX0_empty 26 = .ok (.ireturn, 1) := by decide +kernel
theorem dX0_countThere_0 : decode cX0_countThere 0 = .ok (.iconst 0, 1) := by decide +kernel
theorem dX0_countThere_1 : decode cX0_countThere 1 = .ok (.istore_n 1, 1) := by decide +kernel
theorem dX0_countThere_2 : decode cX0_countThere 2 = .ok (.iconst 0, 1) := by decide +kernel
theorem dX0_countThere_3 : decode cX0_countThere 3 = .ok (.istore_n 2, 1) := by decide +kernel
theorem dX0_countThere_4 : decode cX0_countThere 4 = .ok (.iload_n 2, 1) := by decide +kernel
theorem dX0_countThere_5 : decode cX0_countThere 5 = .ok (.aload_n 0, 1) := by decide +kernel
theorem dX0_countThere_6 : decode cX0_countThere 6 = .ok (.getfield 33, 3) := by decide +kernel
theorem dX0_countThere_9 : decode cX0_countThere 9 = .ok (.if_icmp .ge 21, 3) := by decide +kernel
theorem dX0_countThere_12 : decode cX0_countThere 12 = .ok (.aload_n 0, 1) := by decide +kernel
theorem dX0_countThere_13 : decode cX0_countThere 13 = .ok (.getfield 21, 3) := by decide +kernel
theorem dX0_countThere_16 : decode cX0_countThere 16 = .ok (.iload_n 2, 1) := by decide +kernel
theorem dX0_countThere_17 : decode cX0_countThere 17 = .ok (.baload, 1) := by decide +kernel
theorem dX0_countThere_18 : decode cX0_countThere 18 = .ok (.ifCond .eq 6, 3) := by decide +kernel
theorem dX0_countThere_21 : decode cX0_countThere 21 = .ok (.iinc 1 1, 3) := by decide +kernel
theorem dX0_countThere_24 : decode cX0_countThere 24 = .ok (.iinc 2 1, 3) := by decide +kernel
theorem dX0_countThere_27 : decode cX0_countThere 27 = .ok (.goto (-23), 3) := by decide +kernel
theorem dX0_countThere_30 : decode cX0_countThere 30 = .ok (.iload_n 1, 1) := by decide +kernel
theorem dX0_countThere_31 : decode cX0_countThere 31 = .ok (.ireturn, 1) := by decide +kernel
theorem dX1_init_0 : decode cX1_init 0 = .ok (.aload_n 0, 1) := by decide +kernel
theorem dX1_init_1 : decode cX1_init 1 = .ok (.invokespecial 3, 3) := by decide +kernel
theorem dX1_init_4 : decode cX1_init 4 = .ok (.aload_n 0, 1) := by decide +kernel
theorem dX1_init_5 : decode cX1_init 5 = .ok (.aload_n 1, 1) := by decide +kernel
theorem dX1_init_6 : decode cX1_init 6 = .ok (.putfield 9, 3) := by decide +kernel
theorem dX1_init_9 : decode cX1_init 9 = .ok (.aload_n 0, 1) := by decide +kernel
theorem dX1_init_10 : decode cX1_init 10 = .ok (.bipush 12, 2) := by decide +kernel
theorem dX1_init_12 : decode cX1_init 12 = .ok (.newarray .int, 2) := by decide +kernel
theorem dX1_init_14 : decode cX1_init 14 = .ok (.putfield 15, 3) := by decide +kernel
theorem dX1_init_17 : decode cX1_init 17 = .ok (.aload_n 0, 1) := by decide +kernel
theorem dX1_init_18 : decode cX1_init 18 = .ok (.bipush 12, 2) := by decide +kernel
theorem dX1_init_20 : decode cX1_init 20 = .ok (.newarray .boolean, 2) := by decide +kernel
theorem dX1_init_22 : decode cX1_init 22 = .ok (.putfield 19, 3) := by decide +kernel
theorem dX1_init_25 : decode cX1_init 25 = .ok (.aload_n 0, 1) := by decide +kernel
theorem dX1_init_26 : decode cX1_init 26 = .ok (.iconst 0, 1) := by decide +kernel
theorem dX1_init_27 : decode cX1_init 27 = .ok (.putfield 23, 3) := by decide +kernel
theorem dX1_init_30 : decode cX1_init 30 = .ok (.aload_n 0, 1) := by decide +kernel
theorem dX1_init_31 : decode cX1_init 31 = .ok (.bipush 12, 2) := by decide +kernel
theorem dX1_init_33 : decode cX1_init 33 = .ok (.newarray .int, 2) := by decide +kernel
theorem dX1_init_35 : decode cX1_init 35 = .ok (.putfield 27, 3) := by decide +kernel
theorem dX1_init_38 : decode cX1_init 38 = .ok (.aload_n 0, 1) := by decide +kernel
theorem dX1_init_39 : decode cX1_init 39 = .ok (.bipush 12, 2) := by decide +kernel
theorem dX1_init_41 : decode cX1_init 41 = .ok (.bipush 12, 2) := by decide +kernel
theorem dX1_init_43 : decode cX1_init 43 = .ok (.multianewarray 30 2, 4) := by decide +kernel
theorem dX1_init_47 : decode cX1_init 47 = .ok (.putfield 32, 3) := by decide +kernel
theorem dX1_init_50 : decode cX1_init 50 = .ok (.aload_n 0, 1) := by decide +kernel
theorem dX1_init_51 : decode cX1_init 51 = .ok (.iconst 0, 1) := by decide +kernel
theorem dX1_init_52 : decode cX1_init 52 = .ok (.putfield 35, 3) := by decide +kernel
theorem dX1_init_55 : decode cX1_init 55 = .ok (.aload_n 0, 1) := by decide +kernel
theorem dX1_init_56 : decode cX1_init 56 = .ok (.iconst (-1), 1) := by decide +kernel
theorem dX1_init_57 : decode cX1_init 57 = .ok (.putfield 38, 3) := by decide +kernel
theorem dX1_init_60 : decode cX1_init 60 = .ok (.return_, 1) := by decide +kernel
set_option maxRecDepth 20000 in
theorem ggX1_workOut_X1_findOrder : GoodIn wsX1_workOut wsX1_findOrder := goodIn_r _ [8, 9, 2, 10, 11, 12, 13, 14, 15, 7, 16, 17, 18, 19, 20, 21, 22, 23, 24, 61, 62, 63, 64, 65, 66, 67, 68, 69, 70, 71, 72, 73, 74, 75] (by decide +kernel) (by decide +kernel)
set_option maxRecDepth 20000 in
theorem gX1_workOut_X1_findOrder : GoodIn wsX1_workOut (wsV RX1 46 RX1 yX1_findOrder wsX1_findOrder) := goodIn_app (goodIn_of _ (by decide +kernel)) ggX1_workOut_X1_findOrder
set_option maxRecDepth 20000 in
theorem ggX1_workOut_X1_hasRing : GoodIn wsX1_workOut wsX1_hasRing := goodIn_r _ [28, 9, 2, 10, 61, 62, 63, 64, 65, 66, 67, 68, 69, 70, 71, 72, 73, 74, 75] (by decide +kernel) (by decide +kernel)
set_option maxRecDepth 20000 in
theorem gX1_workOut_X1_hasRing : GoodIn wsX1_workOut (wsV RX1 49 RX1 yX1_hasRing wsX1_hasRing) := goodIn_app (goodIn_of _ (by decide +kernel)) ggX1_workOut_X1_hasRing
set_option maxRecDepth 20000 in
theorem ggX1_workOut_X1_findFarthest : GoodIn wsX1_workOut wsX1_findFarthest := goodIn_r _ [32, 2, 10, 33, 9, 12, 34, 35, 36, 7, 37, 21, 22, 24, 23, 38, 39, 40, 41, 42, 61, 62, 63, 64, 65, 66, 67, 68, 69, 70, 71, 72, 73, 74, 75] (by decide +kernel) (by decide +kernel)
set_option maxRecDepth 20000 in
theorem gX1_workOut_X1_findFarthest : GoodIn wsX1_workOut (wsV RX1 53 RX1 yX1_findFarthest wsX1_findFarthest) := goodIn_app (goodIn_of _ (by decide +kernel)) ggX1_workOut_X1_findFarthest
set_option maxRecDepth 20000 in
theorem ggX1_workOut_X1_findGreatest : GoodIn wsX1_workOut wsX1_findGreatest := goodIn_r _ [46, 47, 2, 10, 33, 39, 40, 41, 42, 61, 62, 63, 64, 65, 66, 67, 68, 69, 70, 71, 72, 73, 74, 75] (by decide +kernel) (by decide +kernel)
set_option maxRecDepth 20000 in
theorem gX1_workOut_X1_findGreatest : GoodIn wsX1_workOut (wsV RX1 56 RX1 yX1_findGreatest wsX1_findGreatest) := goodIn_app (goodIn_of _ (by decide +kernel)) ggX1_workOut_X1_findGreatest
set_option maxRecDepth 20000 in
theorem ggX1_workOut_X1_findOnward : GoodIn wsX1_workOut wsX1_findOnward := goodIn_r _ [51, 2, 10, 52, 53, 54, 55, 7, 56, 57, 58, 59, 60, 21, 22, 24, 38, 23, 39, 40, 41, 42, 61, 62, 63, 64, 65, 66, 67, 68, 69, 70, 71, 72, 73, 74, 75] (by decide +kernel) (by decide +kernel)
set_option maxRecDepth 20000 in
theorem gX1_workOut_X1_findOnward : GoodIn wsX1_workOut (wsV RX1 59 RX1 yX1_findOnward wsX1_findOnward) := goodIn_app (goodIn_of _ (by decide +kernel)) ggX1_workOut_X1_findOnward
theorem dX1_workOut_0 : decode cX1_workOut 0 = .ok (.aload_n 0, 1) := by decide +kernel
theorem dX1_workOut_1 : decode cX1_workOut 1 = .ok (.getfield 38, 3) := by decide +kernel
theorem dX1_workOut_4 : decode cX1_workOut 4 = .ok (.aload_n 0, 1) := by decide +kernel
theorem dX1_workOut_5 : decode cX1_workOut 5 = .ok (.getfield 9, 3) := by decide +kernel
theorem dX1_workOut_8 : decode cX1_workOut 8 = .ok (.getfield 41, 3) := by decide +kernel
theorem dX1_workOut_11 : decode cX1_workOut 11 = .ok (.if_icmp .ne 4, 3) := by decide +kernel
theorem dX1_workOut_14 : decode cX1_workOut 14 = .ok (.return_, 1) := by decide +kernel
theorem dX1_workOut_15 : decode cX1_workOut 15 = .ok (.aload_n 0, 1) := by decide +kernel
theorem dX1_workOut_16 : decode cX1_workOut 16 = .ok (.aload_n 0, 1) := by decide +kernel
theorem dX1_workOut_17 : decode cX1_workOut 17 = .ok (.getfield 9, 3) := by decide +kernel
theorem dX1_workOut_20 : decode cX1_workOut 20 = .ok (.getfield 41, 3) := by decide +kernel
theorem dX1_workOut_23 : decode cX1_workOut 23 = .ok (.putfield 38, 3) := by decide +kernel
theorem dX1_workOut_26 : decode cX1_workOut 26 = .ok (.aload_n 0, 1) := by decide +kernel
theorem dX1_workOut_27 : decode cX1_workOut 27 = .ok (.invokevirtual 46, 3) := by decide +kernel
theorem dX1_workOut_30 : decode cX1_workOut 30 = .ok (.aload_n 0, 1) := by decide +kernel
theorem dX1_workOut_31 : decode cX1_workOut 31 = .ok (.invokevirtual 49, 3) := by decide +kernel
theorem dX1_workOut_34 : decode cX1_workOut 34 = .ok (.ifCond .ne 15, 3) := by decide +kernel
theorem dX1_workOut_37 : decode cX1_workOut 37 = .ok (.aload_n 0, 1) := by decide +kernel
theorem dX1_workOut_38 : decode cX1_workOut 38 = .ok (.invokevirtual 53, 3) := by decide +kernel
theorem dX1_workOut_41 : decode cX1_workOut 41 = .ok (.aload_n 0, 1) := by decide +kernel
theorem dX1_workOut_42 : decode cX1_workOut 42 = .ok (.invokevirtual 56, 3) := by decide +kernel
theorem dX1_workOut_45 : decode cX1_workOut 45 = .ok (.aload_n 0, 1) := by decide +kernel
theorem dX1_workOut_46 : decode cX1_workOut 46 = .ok (.invokevirtual 59, 3) := by decide +kernel
theorem dX1_workOut_49 : decode cX1_workOut 49 = .ok (.return_, 1) := by decide +kernel
theorem dX1_hasRing_0 : decode cX1_hasRing 0 = .ok (.aload_n 0, 1) := by decide +kernel
theorem dX1_hasRing_1 : decode cX1_hasRing 1 = .ok (.getfield 23, 3) := by decide +kernel
theorem dX1_hasRing_4 : decode cX1_hasRing 4 = .ok (.aload_n 0, 1) := by decide +kernel
theorem dX1_hasRing_5 : decode cX1_hasRing 5 = .ok (.getfield 9, 3) := by decide +kernel
theorem dX1_hasRing_8 : decode cX1_hasRing 8 = .ok (.getfield 62, 3) := by decide +kernel
theorem dX1_hasRing_11 : decode cX1_hasRing 11 = .ok (.if_icmp .ge 7, 3) := by decide +kernel
theorem dX1_hasRing_14 : decode cX1_hasRing 14 = .ok (.iconst 1, 1) := by decide +kernel
theorem dX1_hasRing_15 : decode cX1_hasRing 15 = .ok (.goto 4, 3) := by decide +kernel
theorem dX1_hasRing_18 : decode cX1_hasRing 18 = .ok (.iconst 0, 1) := by decide +kernel
theorem dX1_hasRing_19 : decode cX1_hasRing 19 = .ok (.ireturn, 1) := by decide +kernel
set_option maxRecDepth 20000 in
theorem ggX1_findOrder_X1_nextNode : GoodIn wsX1_findOrder wsX1_nextNode := goodIn_r _ [10, 2, 3, 4, 11, 12, 13, 9, 14, 15, 16, 17, 18, 19, 20, 21, 22, 23, 24, 25, 26, 27, 28, 29, 30, 31, 32, 33] (by decide +kernel) (by decide +kernel)
set_option maxRecDepth 20000 in
theorem gX1_findOrder_X1_nextNode : GoodIn wsX1_findOrder (wsV RX1 65 RX1 yX1_nextNode wsX1_nextNode) := goodIn_app (goodIn_of _ (by decide +kernel)) ggX1_findOrder_X1_nextNode
theorem dX1_findOrder_0 : decode cX1_findOrder 0 = .ok (.aload_n 0, 1) := by decide +kernel
theorem dX1_findOrder_1 : decode cX1_findOrder 1 = .ok (.iconst 0, 1) := by decide +kernel
theorem dX1_findOrder_2 : decode cX1_findOrder 2 = .ok (.putfield 23, 3) := by decide +kernel
theorem dX1_findOrder_5 : decode cX1_findOrder 5 = .ok (.iconst 0, 1) := by decide +kernel
theorem dX1_findOrder_6 : decode cX1_findOrder 6 = .ok (.istore_n 1, 1) := by decide +kernel
theorem dX1_findOrder_7 : decode cX1_findOrder 7 = .ok (.iload_n 1, 1) := by decide +kernel
theorem dX1_findOrder_8 : decode cX1_findOrder 8 = .ok (.aload_n 0, 1) := by decide +kernel
theorem dX1_findOrder_9 : decode cX1_findOrder 9 = .ok (.getfield 9, 3) := by decide +kernel
theorem dX1_findOrder_12 : decode cX1_findOrder 12 = .ok (.getfield 62, 3) := by decide +kernel
theorem dX1_findOrder_15 : decode cX1_findOrder 15 = .ok (.if_icmp .ge 16, 3) := by decide +kernel
theorem dX1_findOrder_18 : decode cX1_findOrder 18 = .ok (.aload_n 0, 1) := by decide +kernel
theorem dX1_findOrder_19 : decode cX1_findOrder 19 = .ok (.getfield 19, 3) := by decide +kernel
theorem dX1_findOrder_22 : decode cX1_findOrder 22 = .ok (.iload_n 1, 1) := by decide +kernel
theorem dX1_findOrder_23 : decode cX1_findOrder 23 = .ok (.iconst 0, 1) := by decide +kernel
theorem dX1_findOrder_24 : decode cX1_findOrder 24 = .ok (.bastore, 1) := by decide +kernel
theorem dX1_findOrder_25 : decode cX1_findOrder 25 = .ok (.iinc 1 1, 3) := by decide +kernel
theorem dX1_findOrder_28 : decode cX1_findOrder 28 = .ok (.goto (-21), 3) := by decide +kernel
theorem dX1_findOrder_31 : decode cX1_findOrder 31 = .ok (.iconst 0, 1) := by decide +kernel
theorem dX1_findOrder_32 : decode cX1_findOrder 32 = .ok (.istore_n 1, 1) := by decide +kernel
theorem dX1_findOrder_33 : decode cX1_findOrder 33 = .ok (.iload_n 1, 1) := by decide +kernel
theorem dX1_findOrder_34 : decode cX1_findOrder 34 = .ok (.aload_n 0, 1) := by decide +kernel
theorem dX1_findOrder_35 : decode cX1_findOrder 35 = .ok (.getfield 9, 3) := by decide +kernel
theorem dX1_findOrder_38 : decode cX1_findOrder 38 = .ok (.getfield 62, 3) := by decide +kernel
theorem dX1_findOrder_41 : decode cX1_findOrder 41 = .ok (.if_icmp .ge 41, 3) := by decide +kernel
theorem dX1_findOrder_44 : decode cX1_findOrder 44 = .ok (.aload_n 0, 1) := by decide +kernel
theorem dX1_findOrder_45 : decode cX1_findOrder 45 = .ok (.invokevirtual 65, 3) := by decide +kernel
theorem dX1_findOrder_48 : decode cX1_findOrder 48 = .ok (.istore_n 2, 1) := by decide +kernel
theorem dX1_findOrder_49 : decode cX1_findOrder 49 = .ok (.iload_n 2, 1) := by decide +kernel
theorem dX1_findOrder_50 : decode cX1_findOrder 50 = .ok (.iconst (-1), 1) := by decide +kernel
theorem dX1_findOrder_51 : decode cX1_findOrder 51 = .ok (.if_icmp .ne 4, 3) := by decide +kernel
theorem dX1_findOrder_54 : decode cX1_findOrder 54 = .ok (.return_, 1) := by decide +kernel
theorem dX1_findOrder_55 : decode cX1_findOrder 55 = .ok (.aload_n 0, 1) := by decide +kernel
theorem dX1_findOrder_56 : decode cX1_findOrder 56 = .ok (.getfield 15, 3) := by decide +kernel
theorem dX1_findOrder_59 : decode cX1_findOrder 59 = .ok (.iload_n 1, 1) := by decide +kernel
theorem dX1_findOrder_60 : decode cX1_findOrder 60 = .ok (.iload_n 2, 1) := by decide +kernel
theorem dX1_findOrder_61 : decode cX1_findOrder 61 = .ok (.iastore, 1) := by decide +kernel
theorem dX1_findOrder_62 : decode cX1_findOrder 62 = .ok (.aload_n 0, 1) := by decide +kernel
theorem dX1_findOrder_63 : decode cX1_findOrder 63 = .ok (.getfield 19, 3) := by decide +kernel
theorem dX1_findOrder_66 : decode cX1_findOrder 66 = .ok (.iload_n 2, 1) := by decide +kernel
theorem dX1_findOrder_67 : decode cX1_findOrder 67 = .ok (.iconst 1, 1) := by decide +kernel
theorem dX1_findOrder_68 : decode cX1_findOrder 68 = .ok (.bastore, 1) := by decide +kernel
theorem dX1_findOrder_69 : decode cX1_findOrder 69 = .ok (.aload_n 0, 1) := by decide +kernel
theorem dX1_findOrder_70 : decode cX1_findOrder 70 = .ok (.iload_n 1, 1) := by decide +kernel
theorem dX1_findOrder_71 : decode cX1_findOrder 71 = .ok (.iconst 1, 1) := by decide +kernel
theorem dX1_findOrder_72 : decode cX1_findOrder 72 = .ok (.iadd, 1) := by decide +kernel
theorem dX1_findOrder_73 : decode cX1_findOrder 73 = .ok (.putfield 23, 3) := by decide +kernel
theorem dX1_findOrder_76 : decode cX1_findOrder 76 = .ok (.iinc 1 1, 3) := by decide +kernel
theorem dX1_findOrder_79 : decode cX1_findOrder 79 = .ok (.goto (-46), 3) := by decide +kernel
theorem dX1_findOrder_82 : decode cX1_findOrder 82 = .ok (.return_, 1) := by decide +kernel
set_option maxRecDepth 20000 in
theorem ggX1_nextNode_X1_waits : GoodIn wsX1_nextNode wsX1_waits := goodIn_r _ [8, 1, 9, 10, 11, 3, 12, 13, 14, 15, 16, 17, 18, 19, 20, 21, 22, 23, 24, 25, 26, 27] (by decide +kernel) (by decide +kernel)
set_option maxRecDepth 20000 in
theorem gX1_nextNode_X1_waits : GoodIn wsX1_nextNode (wsV RX1 69 RX1 yX1_waits wsX1_waits) := goodIn_app (goodIn_of _ (by decide +kernel)) ggX1_nextNode_X1_waits
theorem dX1_nextNode_0 : decode cX1_nextNode 0 = .ok (.iconst 0, 1) := by decide +kernel
theorem dX1_nextNode_1 : decode cX1_nextNode 1 = .ok (.istore_n 1, 1) := by decide +kernel
theorem dX1_nextNode_2 : decode cX1_nextNode 2 = .ok (.iload_n 1, 1) := by decide +kernel
theorem dX1_nextNode_3 : decode cX1_nextNode 3 = .ok (.aload_n 0, 1) := by decide +kernel
theorem dX1_nextNode_4 : decode cX1_nextNode 4 = .ok (.getfield 9, 3) := by decide +kernel
theorem dX1_nextNode_7 : decode cX1_nextNode 7 = .ok (.getfield 62, 3) := by decide +kernel
theorem dX1_nextNode_10 : decode cX1_nextNode 10 = .ok (.if_icmp .ge 28, 3) := by decide +kernel
theorem dX1_nextNode_13 : decode cX1_nextNode 13 = .ok (.aload_n 0, 1) := by decide +kernel
theorem dX1_nextNode_14 : decode cX1_nextNode 14 = .ok (.getfield 19, 3) := by decide +kernel
theorem dX1_nextNode_17 : decode cX1_nextNode 17 = .ok (.iload_n 1, 1) := by decide +kernel
theorem dX1_nextNode_18 : decode cX1_nextNode 18 = .ok (.baload, 1) := by decide +kernel
theorem dX1_nextNode_19 : decode cX1_nextNode 19 = .ok (.ifCond .ne 13, 3) := by decide +kernel
theorem dX1_nextNode_22 : decode cX1_nextNode 22 = .ok (.aload_n 0, 1) := by decide +kernel
theorem dX1_nextNode_23 : decode cX1_nextNode 23 = .ok (.iload_n 1, 1) := by decide +kernel
theorem dX1_nextNode_24 : decode cX1_nextNode 24 = .ok (.invokevirtual 69, 3) := by decide +kernel
theorem dX1_nextNode_27 : decode cX1_nextNode 27 = .ok (.ifCond .ne 5, 3) := by decide +kernel
theorem dX1_nextNode_30 : decode cX1_nextNode 30 = .ok (.iload_n 1, 1) := by decide +kernel
theorem dX1_nextNode_31 : decode cX1_nextNode 31 = .ok (.ireturn, 1) := by decide +kernel
theorem dX1_nextNode_32 : decode cX1_nextNode 32 = .ok (.iinc 1 1, 3) := by decide +kernel
theorem dX1_nextNode_35 : decode cX1_nextNode 35 = .ok (.goto (-33), 3) := by decide +kernel
theorem dX1_nextNode_38 : decode cX1_nextNode 38 = .ok (.iconst (-1), 1) := by decide +kernel
theorem dX1_nextNode_39 : decode cX1_nextNode 39 = .ok (.ireturn, 1) := by decide +kernel
theorem dX1_waits_0 : decode cX1_waits 0 = .ok (.iconst 0, 1) := by decide +kernel
theorem dX1_waits_1 : decode cX1_waits 1 = .ok (.istore_n 2, 1) := by decide +kernel
theorem dX1_waits_2 : decode cX1_waits 2 = .ok (.iload_n 2, 1) := by decide +kernel
theorem dX1_waits_3 : decode cX1_waits 3 = .ok (.aload_n 0, 1) := by decide +kernel
theorem dX1_waits_4 : decode cX1_waits 4 = .ok (.getfield 9, 3) := by decide +kernel
theorem dX1_waits_7 : decode cX1_waits 7 = .ok (.getfield 73, 3) := by decide +kernel
theorem dX1_waits_10 : decode cX1_waits 10 = .ok (.if_icmp .ge 53, 3) := by decide +kernel
theorem dX1_waits_13 : decode cX1_waits 13 = .ok (.aload_n 0, 1) := by decide +kernel
theorem dX1_waits_14 : decode cX1_waits 14 = .ok (.getfield 9, 3) := by decide +kernel
theorem dX1_waits_17 : decode cX1_waits 17 = .ok (.getfield 76, 3) := by decide +kernel
theorem dX1_waits_20 : decode cX1_waits 20 = .ok (.iload_n 2, 1) := by decide +kernel
theorem dX1_waits_21 : decode cX1_waits 21 = .ok (.baload, 1) := by decide +kernel
theorem dX1_waits_22 : decode cX1_waits 22 = .ok (.ifCond .eq 35, 3) := by decide +kernel
theorem dX1_waits_25 : decode cX1_waits 25 = .ok (.aload_n 0, 1) := by decide +kernel
theorem dX1_waits_26 : decode cX1_waits 26 = .ok (.getfield 9, 3) := by decide +kernel
theorem dX1_waits_29 : decode cX1_waits 29 = .ok (.getfield 79, 3) := by decide +kernel
theorem dX1_waits_32 : decode cX1_waits 32 = .ok (.iload_n 2, 1) := by decide +kernel
theorem dX1_waits_33 : decode cX1_waits 33 = .ok (.iaload, 1) := by decide +kernel
theorem dX1_waits_34 : decode cX1_waits 34 = .ok (.iload_n 1, 1) := by decide +kernel
theorem dX1_waits_35 : decode cX1_waits 35 = .ok (.if_icmp .ne 22, 3) := by decide +kernel
theorem dX1_waits_38 : decode cX1_waits 38 = .ok (.aload_n 0, 1) := by decide +kernel
theorem dX1_waits_39 : decode cX1_waits 39 = .ok (.getfield 19, 3) := by decide +kernel
theorem dX1_waits_42 : decode cX1_waits 42 = .ok (.aload_n 0, 1) := by decide +kernel
theorem dX1_waits_43 : decode cX1_waits 43 = .ok (.getfield 9, 3) := by decide +kernel
theorem dX1_waits_46 : decode cX1_waits 46 = .ok (.getfield 82, 3) := by decide +kernel
theorem dX1_waits_49 : decode cX1_waits 49 = .ok (.iload_n 2, 1) := by decide +kernel
theorem dX1_waits_50 : decode cX1_waits 50 = .ok (.iaload, 1) := by decide +kernel
theorem dX1_waits_51 : decode cX1_waits 51 = .ok (.baload, 1) := by decide +kernel
theorem dX1_waits_52 : decode cX1_waits 52 = .ok (.ifCond .ne 5, 3) := by decide +kernel
theorem dX1_waits_55 : decode cX1_waits 55 = .ok (.iconst 1, 1) := by decide +kernel
theorem dX1_waits_56 : decode cX1_waits 56 = .ok (.ireturn, 1) := by decide +kernel
theorem dX1_waits_57 : decode cX1_waits 57 = .ok (.iinc 2 1, 3) := by decide +kernel
theorem dX1_waits_60 : decode cX1_waits 60 = .ok (.goto (-58), 3) := by decide +kernel
theorem dX1_waits_63 : decode cX1_waits 63 = .ok (.iconst 0, 1) := by decide +kernel
theorem dX1_waits_64 : decode cX1_waits 64 = .ok (.ireturn, 1) := by decide +kernel
set_option maxRecDepth 20000 in
theorem ggX1_findFarthest_X1_handOnFrom : GoodIn wsX1_findFarthest wsX1_handOnFrom := goodIn_r _ [10, 1, 11, 12, 13, 14, 3, 15, 16, 17, 18, 19, 20, 21, 22, 23, 24, 25, 26, 27, 28, 29, 30, 31, 32, 33, 34] (by decide +kernel) (by decide +kernel)
set_option maxRecDepth 20000 in
theorem gX1_findFarthest_X1_handOnFrom : GoodIn wsX1_findFarthest (wsV RX1 85 RX1 yX1_handOnFrom wsX1_handOnFrom) := goodIn_app (goodIn_of _ (by decide +kernel)) ggX1_findFarthest_X1_handOnFrom
theorem dX1_findFarthest_0 : decode cX1_findFarthest 0 = .ok (.iconst 0, 1) := by decide +kernel
theorem dX1_findFarthest_1 : decode cX1_findFarthest 1 = .ok (.istore_n 1, 1) := by decide +kernel
theorem dX1_findFarthest_2 : decode cX1_findFarthest 2 = .ok (.iload_n 1, 1) := by decide +kernel
theorem dX1_findFarthest_3 : decode cX1_findFarthest 3 = .ok (.aload_n 0, 1) := by decide +kernel
theorem dX1_findFarthest_4 : decode cX1_findFarthest 4 = .ok (.getfield 9, 3) := by decide +kernel
theorem dX1_findFarthest_7 : decode cX1_findFarthest 7 = .ok (.getfield 62, 3) := by decide +kernel
theorem dX1_findFarthest_10 : decode cX1_findFarthest 10 = .ok (.if_icmp .ge 16, 3) := by decide +kernel
theorem dX1_findFarthest_13 : decode cX1_findFarthest 13 = .ok (.aload_n 0, 1) := by decide +kernel
theorem dX1_findFarthest_14 : decode cX1_findFarthest 14 = .ok (.getfield 27, 3) := by decide +kernel
theorem dX1_findFarthest_17 : decode cX1_findFarthest 17 = .ok (.iload_n 1, 1) := by decide +kernel
theorem dX1_findFarthest_18 : decode cX1_findFarthest 18 = .ok (.iconst 0, 1) := by decide +kernel
theorem dX1_findFarthest_19 : decode cX1_findFarthest 19 = .ok (.iastore, 1) := by decide +kernel
theorem dX1_findFarthest_20 : decode cX1_findFarthest 20 = .ok (.iinc 1 1, 3) := by decide +kernel
theorem dX1_findFarthest_23 : decode cX1_findFarthest 23 = .ok (.goto (-21), 3) := by decide +kernel
theorem dX1_findFarthest_26 : decode cX1_findFarthest 26 = .ok (.iconst 0, 1) := by decide +kernel
theorem dX1_findFarthest_27 : decode cX1_findFarthest 27 = .ok (.istore_n 1, 1) := by decide +kernel
theorem dX1_findFarthest_28 : decode cX1_findFarthest 28 = .ok (.iload_n 1, 1) := by decide +kernel
theorem dX1_findFarthest_29 : decode cX1_findFarthest 29 = .ok (.aload_n 0, 1) := by decide +kernel
theorem dX1_findFarthest_30 : decode cX1_findFarthest 30 = .ok (.getfield 23, 3) := by decide +kernel
theorem dX1_findFarthest_33 : decode cX1_findFarthest 33 = .ok (.if_icmp .ge 19, 3) := by decide +kernel
theorem dX1_findFarthest_36 : decode cX1_findFarthest 36 = .ok (.aload_n 0, 1) := by decide +kernel
theorem dX1_findFarthest_37 : decode cX1_findFarthest 37 = .ok (.aload_n 0, 1) := by decide +kernel
theorem dX1_findFarthest_38 : decode cX1_findFarthest 38 = .ok (.getfield 15, 3) := by decide +kernel
theorem dX1_findFarthest_41 : decode cX1_findFarthest 41 = .ok (.iload_n 1, 1) := by decide +kernel
theorem dX1_findFarthest_42 : decode cX1_findFarthest 42 = .ok (.iaload, 1) := by decide +kernel
theorem dX1_findFarthest_43 : decode cX1_findFarthest 43 = .ok (.invokevirtual 85, 3) := by decide +kernel
theorem dX1_findFarthest_46 : decode cX1_findFarthest 46 = .ok (.iinc 1 1, 3) := by decide +kernel
theorem dX1_findFarthest_49 : decode cX1_findFarthest 49 = .ok (.goto (-21), 3) := by decide +kernel
theorem dX1_findFarthest_52 : decode cX1_findFarthest 52 = .ok (.return_, 1) := by decide +kernel
theorem dX1_handOnFrom_0 : decode cX1_handOnFrom 0 = .ok (.iconst 0, 1) := by decide +kernel
theorem dX1_handOnFrom_1 : decode cX1_handOnFrom 1 = .ok (.istore_n 2, 1) := by decide +kernel
theorem dX1_handOnFrom_2 : decode cX1_handOnFrom 2 = .ok (.iload_n 2, 1) := by decide +kernel
theorem dX1_handOnFrom_3 : decode cX1_handOnFrom 3 = .ok (.aload_n 0, 1) := by decide +kernel
theorem dX1_handOnFrom_4 : decode cX1_handOnFrom 4 = .ok (.getfield 9, 3) := by decide +kernel
theorem dX1_handOnFrom_7 : decode cX1_handOnFrom 7 = .ok (.getfield 73, 3) := by decide +kernel
theorem dX1_handOnFrom_10 : decode cX1_handOnFrom 10 = .ok (.if_icmp .ge 75, 3) := by decide +kernel
theorem dX1_handOnFrom_13 : decode cX1_handOnFrom 13 = .ok (.aload_n 0, 1) := by decide +kernel
theorem dX1_handOnFrom_14 : decode cX1_handOnFrom 14 = .ok (.getfield 9, 3) := by decide +kernel
theorem dX1_handOnFrom_17 : decode cX1_handOnFrom 17 = .ok (.getfield 76, 3) := by decide +kernel
theorem dX1_handOnFrom_20 : decode cX1_handOnFrom 20 = .ok (.iload_n 2, 1) := by decide +kernel
theorem dX1_handOnFrom_21 : decode cX1_handOnFrom 21 = .ok (.baload, 1) := by decide +kernel
theorem dX1_handOnFrom_22 : decode cX1_handOnFrom 22 = .ok (.ifCond .eq 57, 3) := by decide +kernel
theorem dX1_handOnFrom_25 : decode cX1_handOnFrom 25 = .ok (.aload_n 0, 1) := by decide +kernel
theorem dX1_handOnFrom_26 : decode cX1_handOnFrom 26 = .ok (.getfield 9, 3) := by decide +kernel
theorem dX1_handOnFrom_29 : decode cX1_handOnFrom 29 = .ok (.getfield 82, 3) := by decide +kernel
theorem dX1_handOnFrom_32 : decode cX1_handOnFrom 32 = .ok (.iload_n 2, 1) := by decide +kernel
theorem dX1_handOnFrom_33 : decode cX1_handOnFrom 33 = .ok (.iaload, 1) := by decide +kernel
theorem dX1_handOnFrom_34 : decode cX1_handOnFrom 34 = .ok (.iload_n 1, 1) := by decide +kernel
theorem dX1_handOnFrom_35 : decode cX1_handOnFrom 35 = .ok (.if_icmp .ne 44, 3) := by decide +kernel
theorem dX1_handOnFrom_38 : decode cX1_handOnFrom 38 = .ok (.aload_n 0, 1) := by decide +kernel
theorem dX1_handOnFrom_39 : decode cX1_handOnFrom 39 = .ok (.getfield 9, 3) := by decide +kernel
theorem dX1_handOnFrom_42 : decode cX1_handOnFrom 42 = .ok (.getfield 79, 3) := by decide +kernel
theorem dX1_handOnFrom_45 : decode cX1_handOnFrom 45 = .ok (.iload_n 2, 1) := by decide +kernel
theorem dX1_handOnFrom_46 : decode cX1_handOnFrom 46 = .ok (.iaload, 1) := by decide +kernel
theorem dX1_handOnFrom_47 : decode cX1_handOnFrom 47 = .ok (.istore_n 3, 1) := by decide +kernel
theorem dX1_handOnFrom_48 : decode cX1_handOnFrom 48 = .ok (.aload_n 0, 1) := by decide +kernel
theorem dX1_handOnFrom_49 : decode cX1_handOnFrom 49 = .ok (.getfield 27, 3) := by decide +kernel
theorem dX1_handOnFrom_52 : decode cX1_handOnFrom 52 = .ok (.iload_n 3, 1) := by decide +kernel
theorem dX1_handOnFrom_53 : decode cX1_handOnFrom 53 = .ok (.aload_n 0, 1) := by decide +kernel
theorem dX1_handOnFrom_54 : decode cX1_handOnFrom 54 = .ok (.getfield 27, 3) := by decide +kernel
theorem dX1_handOnFrom_57 : decode cX1_handOnFrom 57 = .ok (.iload_n 3, 1) := by decide +kernel
theorem dX1_handOnFrom_58 : decode cX1_handOnFrom 58 = .ok (.iaload, 1) := by decide +kernel
theorem dX1_handOnFrom_59 : decode cX1_handOnFrom 59 = .ok (.aload_n 0, 1) := by decide +kernel
theorem dX1_handOnFrom_60 : decode cX1_handOnFrom 60 = .ok (.getfield 27, 3) := by decide +kernel
theorem dX1_handOnFrom_63 : decode cX1_handOnFrom 63 = .ok (.iload_n 1, 1) := by decide +kernel
theorem dX1_handOnFrom_64 : decode cX1_handOnFrom 64 = .ok (.iaload, 1) := by decide +kernel
theorem dX1_handOnFrom_65 : decode cX1_handOnFrom 65 = .ok (.aload_n 0, 1) := by decide +kernel
theorem dX1_handOnFrom_66 : decode cX1_handOnFrom 66 = .ok (.getfield 9, 3) := by decide +kernel
theorem dX1_handOnFrom_69 : decode cX1_handOnFrom 69 = .ok (.getfield 89, 3) := by decide +kernel
theorem dX1_handOnFrom_72 : decode cX1_handOnFrom 72 = .ok (.iload_n 2, 1) := by decide +kernel
theorem dX1_handOnFrom_73 : decode cX1_handOnFrom 73 = .ok (.iaload, 1) := by decide +kernel
theorem dX1_handOnFrom_74 : decode cX1_handOnFrom 74 = .ok (.iadd, 1) := by decide +kernel
theorem dX1_handOnFrom_75 : decode cX1_handOnFrom 75 = .ok (.invokestatic 92, 3) := by decide +kernel
theorem dX1_handOnFrom_78 : decode cX1_handOnFrom 78 = .ok (.iastore, 1) := by decide +kernel
theorem dX1_handOnFrom_79 : decode cX1_handOnFrom 79 = .ok (.iinc 2 1, 3) := by decide +kernel
theorem dX1_handOnFrom_82 : decode cX1_handOnFrom 82 = .ok (.goto (-80), 3) := by decide +kernel
theorem dX1_handOnFrom_85 : decode cX1_handOnFrom 85 = .ok (.return_, 1) := by decide +kernel
theorem dX1_findGreatest_0 : decode cX1_findGreatest 0 = .ok (.aload_n 0, 1) := by decide +kernel
theorem dX1_findGreatest_1 : decode cX1_findGreatest 1 = .ok (.iconst 0, 1) := by decide +kernel
theorem dX1_findGreatest_2 : decode cX1_findGreatest 2 = .ok (.putfield 35, 3) := by decide +kernel
theorem dX1_findGreatest_5 : decode cX1_findGreatest 5 = .ok (.iconst 0, 1) := by decide +kernel
theorem dX1_findGreatest_6 : decode cX1_findGreatest 6 = .ok (.istore_n 1, 1) := by decide +kernel
theorem dX1_findGreatest_7 : decode cX1_findGreatest 7 = .ok (.iload_n 1, 1) := by decide +kernel
theorem dX1_findGreatest_8 : decode cX1_findGreatest 8 = .ok (.aload_n 0, 1) := by decide +kernel
theorem dX1_findGreatest_9 : decode cX1_findGreatest 9 = .ok (.getfield 9, 3) := by decide +kernel
theorem dX1_findGreatest_12 : decode cX1_findGreatest 12 = .ok (.getfield 62, 3) := by decide +kernel
theorem dX1_findGreatest_15 : decode cX1_findGreatest 15 = .ok (.if_icmp .ge 26, 3) := by decide +kernel
theorem dX1_findGreatest_18 : decode cX1_findGreatest 18 = .ok (.aload_n 0, 1) := by decide +kernel
theorem dX1_findGreatest_19 : decode cX1_findGreatest 19 = .ok (.aload_n 0, 1) := by decide +kernel
theorem dX1_findGreatest_20 : decode cX1_findGreatest 20 = .ok (.getfield 35, 3) := by decide +kernel
theorem dX1_findGreatest_23 : decode cX1_findGreatest 23 = .ok (.aload_n 0, 1) := by decide +kernel
theorem dX1_findGreatest_24 : decode cX1_findGreatest 24 = .ok (.getfield 27, 3) := by decide +kernel
theorem dX1_findGreatest_27 : decode cX1_findGreatest 27 = .ok (.iload_n 1, 1) := by decide +kernel
theorem dX1_findGreatest_28 : decode cX1_findGreatest 28 = .ok (.iaload, 1) := by decide +kernel
theorem dX1_findGreatest_29 : decode cX1_findGreatest 29 = .ok (.invokestatic 92, 3) := by decide +kernel
theorem dX1_findGreatest_32 : decode cX1_findGreatest 32 = .ok (.putfield 35, 3) := by decide +kernel
theorem dX1_findGreatest_35 : decode cX1_findGreatest 35 = .ok (.iinc 1 1, 3) := by decide +kernel
theorem dX1_findGreatest_38 : decode cX1_findGreatest 38 = .ok (.goto (-31), 3) := by decide +kernel
theorem dX1_findGreatest_41 : decode cX1_findGreatest 41 = .ok (.return_, 1) := by decide +kernel
set_option maxRecDepth 20000 in
theorem ggX1_findOnward_X1_fillOnward : GoodIn wsX1_findOnward wsX1_fillOnward := goodIn_r _ [8, 9, 10, 11, 12, 1, 13, 14, 15, 16, 17, 18, 19, 20, 21, 22, 23, 24, 25, 26, 27, 28, 29, 30, 31, 32, 33, 34, 35, 36] (by decide +kernel) (by decide +kernel)
set_option maxRecDepth 20000 in
theorem gX1_findOnward_X1_fillOnward : GoodIn wsX1_findOnward (wsV RX1 98 RX1 yX1_fillOnward wsX1_fillOnward) := goodIn_app (goodIn_of _ (by decide +kernel)) ggX1_findOnward_X1_fillOnward
theorem dX1_findOnward_0 : decode cX1_findOnward 0 = .ok (.iconst 0, 1) := by decide +kernel
theorem dX1_findOnward_1 : decode cX1_findOnward 1 = .ok (.istore_n 1, 1) := by decide +kernel
theorem dX1_findOnward_2 : decode cX1_findOnward 2 = .ok (.iload_n 1, 1) := by decide +kernel
theorem dX1_findOnward_3 : decode cX1_findOnward 3 = .ok (.aload_n 0, 1) := by decide +kernel
theorem dX1_findOnward_4 : decode cX1_findOnward 4 = .ok (.getfield 9, 3) := by decide +kernel
theorem dX1_findOnward_7 : decode cX1_findOnward 7 = .ok (.getfield 62, 3) := by decide +kernel
theorem dX1_findOnward_10 : decode cX1_findOnward 10 = .ok (.if_icmp .ge 18, 3) := by decide +kernel
theorem dX1_findOnward_13 : decode cX1_findOnward 13 = .ok (.aload_n 0, 1) := by decide +kernel
theorem dX1_findOnward_14 : decode cX1_findOnward 14 = .ok (.getfield 32, 3) := by decide +kernel
theorem dX1_findOnward_17 : decode cX1_findOnward 17 = .ok (.iconst 0, 1) := by decide +kernel
theorem dX1_findOnward_18 : decode cX1_findOnward 18 = .ok (.aaload, 1) := by decide +kernel
theorem dX1_findOnward_19 : decode cX1_findOnward 19 = .ok (.iload_n 1, 1) := by decide +kernel
theorem dX1_findOnward_20 : decode cX1_findOnward 20 = .ok (.iconst 0, 1) := by decide +kernel
theorem dX1_findOnward_21 : decode cX1_findOnward 21 = .ok (.iastore, 1) := by decide +kernel
theorem dX1_findOnward_22 : decode cX1_findOnward 22 = .ok (.iinc 1 1, 3) := by decide +kernel
theorem dX1_findOnward_25 : decode cX1_findOnward 25 = .ok (.goto (-23), 3) := by decide +kernel
theorem dX1_findOnward_28 : decode cX1_findOnward 28 = .ok (.iconst 1, 1) := by decide +kernel
theorem dX1_findOnward_29 : decode cX1_findOnward 29 = .ok (.istore_n 1, 1) := by decide +kernel
theorem dX1_findOnward_30 : decode cX1_findOnward 30 = .ok (.iload_n 1, 1) := by decide +kernel
theorem dX1_findOnward_31 : decode cX1_findOnward 31 = .ok (.bipush 12, 2) := by decide +kernel
theorem dX1_findOnward_33 : decode cX1_findOnward 33 = .ok (.if_icmp .ge 27, 3) := by decide +kernel
theorem dX1_findOnward_36 : decode cX1_findOnward 36 = .ok (.aload_n 0, 1) := by decide +kernel
theorem dX1_findOnward_37 : decode cX1_findOnward 37 = .ok (.aload_n 0, 1) := by decide +kernel
theorem dX1_findOnward_38 : decode cX1_findOnward 38 = .ok (.getfield 32, 3) := by decide +kernel
theorem dX1_findOnward_41 : decode cX1_findOnward 41 = .ok (.iload_n 1, 1) := by decide +kernel
theorem dX1_findOnward_42 : decode cX1_findOnward 42 = .ok (.iconst 1, 1) := by decide +kernel
theorem dX1_findOnward_43 : decode cX1_findOnward 43 = .ok (.isub, 1) := by decide +kernel
theorem dX1_findOnward_44 : decode cX1_findOnward 44 = .ok (.aaload, 1) := by decide +kernel
theorem dX1_findOnward_45 : decode cX1_findOnward 45 = .ok (.aload_n 0, 1) := by decide +kernel
theorem dX1_findOnward_46 : decode cX1_findOnward 46 = .ok (.getfield 32, 3) := by decide +kernel
theorem dX1_findOnward_49 : decode cX1_findOnward 49 = .ok (.iload_n 1, 1) := by decide +kernel
theorem dX1_findOnward_50 : decode cX1_findOnward 50 = .ok (.aaload, 1) := by decide +kernel
theorem dX1_findOnward_51 : decode cX1_findOnward 51 = .ok (.invokevirtual 98, 3) := by decide +kernel
theorem dX1_findOnward_54 : decode cX1_findOnward 54 = .ok (.iinc 1 1, 3) := by decide +kernel
theorem dX1_findOnward_57 : decode cX1_findOnward 57 = .ok (.goto (-27), 3) := by decide +kernel
theorem dX1_findOnward_60 : decode cX1_findOnward 60 = .ok (.return_, 1) := by decide +kernel
theorem dX1_fillOnward_0 : decode cX1_fillOnward 0 = .ok (.aload_n 1, 1) := by decide +kernel
theorem dX1_fillOnward_1 : decode cX1_fillOnward 1 = .ok (.iconst 0, 1) := by decide +kernel
theorem dX1_fillOnward_2 : decode cX1_fillOnward 2 = .ok (.aload_n 2, 1) := by decide +kernel
theorem dX1_fillOnward_3 : decode cX1_fillOnward 3 = .ok (.iconst 0, 1) := by decide +kernel
theorem dX1_fillOnward_4 : decode cX1_fillOnward 4 = .ok (.aload_n 1, 1) := by decide +kernel
theorem dX1_fillOnward_5 : decode cX1_fillOnward 5 = .ok (.arraylength, 1) := by decide +kernel
theorem dX1_fillOnward_6 : decode cX1_fillOnward 6 = .ok (.invokestatic 102, 3) := by decide +kernel
theorem dX1_fillOnward_9 : decode cX1_fillOnward 9 = .ok (.iconst 0, 1) := by decide +kernel
theorem dX1_fillOnward_10 : decode cX1_fillOnward 10 = .ok (.istore_n 3, 1) := by decide +kernel
theorem dX1_fillOnward_11 : decode cX1_fillOnward 11 = .ok (.iload_n 3, 1) := by decide +kernel
theorem dX1_fillOnward_12 : decode cX1_fillOnward 12 = .ok (.aload_n 0, 1) := by decide +kernel
theorem dX1_fillOnward_13 : decode cX1_fillOnward 13 = .ok (.getfield 9, 3) := by decide +kernel
theorem dX1_fillOnward_16 : decode cX1_fillOnward 16 = .ok (.getfield 73, 3) := by decide +kernel
theorem dX1_fillOnward_19 : decode cX1_fillOnward 19 = .ok (.if_icmp .ge 64, 3) := by decide +kernel
theorem dX1_fillOnward_22 : decode cX1_fillOnward 22 = .ok (.aload_n 0, 1) := by decide +kernel
theorem dX1_fillOnward_23 : decode cX1_fillOnward 23 = .ok (.getfield 9, 3) := by decide +kernel
theorem dX1_fillOnward_26 : decode cX1_fillOnward 26 = .ok (.getfield 76, 3) := by decide +kernel
theorem dX1_fillOnward_29 : decode cX1_fillOnward 29 = .ok (.iload_n 3, 1) := by decide +kernel
theorem dX1_fillOnward_30 : decode cX1_fillOnward 30 = .ok (.baload, 1) := by decide +kernel
theorem dX1_fillOnward_31 : decode cX1_fillOnward 31 = .ok (.ifCond .eq 46, 3) := by decide +kernel
theorem dX1_fillOnward_34 : decode cX1_fillOnward 34 = .ok (.aload_n 0, 1) := by decide +kernel
theorem dX1_fillOnward_35 : decode cX1_fillOnward 35 = .ok (.getfield 9, 3) := by decide +kernel
theorem dX1_fillOnward_38 : decode cX1_fillOnward 38 = .ok (.getfield 82, 3) := by decide +kernel
theorem dX1_fillOnward_41 : decode cX1_fillOnward 41 = .ok (.iload_n 3, 1) := by decide +kernel
theorem dX1_fillOnward_42 : decode cX1_fillOnward 42 = .ok (.iaload, 1) := by decide +kernel
theorem dX1_fillOnward_43 : decode cX1_fillOnward 43 = .ok (.istore 4, 2) := by decide +kernel
theorem dX1_fillOnward_45 : decode cX1_fillOnward 45 = .ok (.aload_n 2, 1) := by decide +kernel
theorem dX1_fillOnward_46 : decode cX1_fillOnward 46 = .ok (.iload 4, 2) := by decide +kernel
theorem dX1_fillOnward_48 : decode cX1_fillOnward 48 = .ok (.aload_n 2, 1) := by decide +kernel
theorem dX1_fillOnward_49 : decode cX1_fillOnward 49 = .ok (.iload 4, 2) := by decide +kernel
theorem dX1_fillOnward_51 : decode cX1_fillOnward 51 = .ok (.iaload, 1) := by decide +kernel
theorem dX1_fillOnward_52 : decode cX1_fillOnward 52 = .ok (.aload_n 0, 1) := by decide +kernel
theorem dX1_fillOnward_53 : decode cX1_fillOnward 53 = .ok (.getfield 9, 3) := by decide +kernel
theorem dX1_fillOnward_56 : decode cX1_fillOnward 56 = .ok (.getfield 89, 3) := by decide +kernel
theorem dX1_fillOnward_59 : decode cX1_fillOnward 59 = .ok (.iload_n 3, 1) := by decide +kernel
theorem dX1_fillOnward_60 : decode cX1_fillOnward 60 = .ok (.iaload, 1) := by decide +kernel
theorem dX1_fillOnward_61 : decode cX1_fillOnward 61 = .ok (.aload_n 1, 1) := by decide +kernel
theorem dX1_fillOnward_62 : decode cX1_fillOnward 62 = .ok (.aload_n 0, 1) := by decide +kernel
theorem dX1_fillOnward_63 : decode cX1_fillOnward 63 = .ok (.getfield 9, 3) := by decide +kernel
theorem dX1_fillOnward_66 : decode cX1_fillOnward 66 = .ok (.getfield 79, 3) := by decide +kernel
theorem dX1_fillOnward_69 : decode cX1_fillOnward 69 = .ok (.iload_n 3, 1) := by decide +kernel
theorem dX1_fillOnward_70 : decode cX1_fillOnward 70 = .ok (.iaload, 1) := by decide +kernel
theorem dX1_fillOnward_71 : decode cX1_fillOnward 71 = .ok (.iaload, 1) := by decide +kernel
theorem dX1_fillOnward_72 : decode cX1_fillOnward 72 = .ok (.iadd, 1) := by decide +kernel
theorem dX1_fillOnward_73 : decode cX1_fillOnward 73 = .ok (.invokestatic 92, 3) := by decide +kernel
theorem dX1_fillOnward_76 : decode cX1_fillOnward 76 = .ok (.iastore, 1) := by decide +kernel
theorem dX1_fillOnward_77 : decode cX1_fillOnward 77 = .ok (.iinc 3 1, 3) := by decide +kernel
theorem dX1_fillOnward_80 : decode cX1_fillOnward 80 = .ok (.goto (-69), 3) := by decide +kernel
theorem dX1_fillOnward_83 : decode cX1_fillOnward 83 = .ok (.return_, 1) := by decide +kernel
theorem dX1_nodeAt_0 : decode cX1_nodeAt 0 = .ok (.iload_n 1, 1) := by decide +kernel
theorem dX1_nodeAt_1 : decode cX1_nodeAt 1 = .ok (.ifCond .lt 11, 3) := by decide +kernel
theorem dX1_nodeAt_4 : decode cX1_nodeAt 4 = .ok (.iload_n 1, 1) := by decide +kernel
theorem dX1_nodeAt_5 : decode cX1_nodeAt 5 = .ok (.aload_n 0, 1) := by decide +kernel
theorem dX1_nodeAt_6 : decode cX1_nodeAt 6 = .ok (.getfield 23, 3) := by decide +kernel
theorem dX1_nodeAt_9 : decode cX1_nodeAt 9 = .ok (.if_icmp .lt 7, 3) := by decide +kernel
theorem dX1_nodeAt_12 : decode cX1_nodeAt 12 = .ok (.iconst (-1), 1) := by decide +kernel
theorem dX1_nodeAt_13 : decode cX1_nodeAt 13 = .ok (.goto 9, 3) := by decide +kernel
theorem dX1_nodeAt_16 : decode cX1_nodeAt 16 = .ok (.aload_n 0, 1) := by decide +kernel
theorem dX1_nodeAt_17 : decode cX1_nodeAt 17 = .ok (.getfield 15, 3) := by decide +kernel
theorem dX1_nodeAt_20 : decode cX1_nodeAt 20 = .ok (.iload_n 1, 1) := by decide +kernel
theorem dX1_nodeAt_21 : decode cX1_nodeAt 21 = .ok (.iaload, 1) := by decide +kernel
theorem dX1_nodeAt_22 : decode cX1_nodeAt 22 = .ok (.ireturn, 1) := by decide +kernel
theorem dX1_latest_0 : decode cX1_latest 0 = .ok (.aload_n 0, 1) := by decide +kernel
theorem dX1_latest_1 : decode cX1_latest 1 = .ok (.getfield 35, 3) := by decide +kernel
theorem dX1_latest_4 : decode cX1_latest 4 = .ok (.aload_n 0, 1) := by decide +kernel
theorem dX1_latest_5 : decode cX1_latest 5 = .ok (.getfield 32, 3) := by decide +kernel
theorem dX1_latest_8 : decode cX1_latest 8 = .ok (.bipush 11, 2) := by decide +kernel
theorem dX1_latest_10 : decode cX1_latest 10 = .ok (.aaload, 1) := by decide +kernel
theorem dX1_latest_11 : decode cX1_latest 11 = .ok (.iload_n 1, 1) := by decide +kernel
theorem dX1_latest_12 : decode cX1_latest 12 = .ok (.iaload, 1) := by decide +kernel
theorem dX1_latest_13 : decode cX1_latest 13 = .ok (.isub, 1) := by decide +kernel
theorem dX1_latest_14 : decode cX1_latest 14 = .ok (.ireturn, 1) := by decide +kernel
set_option maxRecDepth 20000 in
theorem ggX1_criticalArc_X1_criticalLength : GoodIn wsX1_criticalArc wsX1_criticalLength := goodIn_r _ [9, 10, 11, 12, 8, 13, 2, 14, 15, 1, 23, 24, 25, 26, 27, 28, 29, 30, 31, 32, 33, 34, 35, 36, 37] (by decide +kernel) (by decide +kernel)
set_option maxRecDepth 20000 in
theorem gX1_criticalArc_X1_criticalLength : GoodIn wsX1_criticalArc (wsV RX1 108 RX1 yX1_criticalLength wsX1_criticalLength) := goodIn_app (goodIn_of _ (by decide +kernel)) ggX1_criticalArc_X1_criticalLength
