theorem dX3_ofMood_22 : decode cX3_ofMood 22 = .ok (.if_icmp .ne 17, 3) := by decide +kernel
theorem dX3_ofMood_25 : decode cX3_ofMood 25 = .ok (.aload_n 0, 1) := by decide +kernel
theorem dX3_ofMood_26 : decode cX3_ofMood 26 = .ok (.getfield 24, 3) := by decide +kernel
theorem dX3_ofMood_29 : decode cX3_ofMood 29 = .ok (.iload 4, 2) := by decide +kernel
theorem dX3_ofMood_31 : decode cX3_ofMood 31 = .ok (.iaload, 1) := by decide +kernel
theorem dX3_ofMood_32 : decode cX3_ofMood 32 = .ok (.iload_n 2, 1) := by decide +kernel
theorem dX3_ofMood_33 : decode cX3_ofMood 33 = .ok (.if_icmp .ne 6, 3) := by decide +kernel
theorem dX3_ofMood_36 : decode cX3_ofMood 36 = .ok (.iinc 3 1, 3) := by decide +kernel
theorem dX3_ofMood_39 : decode cX3_ofMood 39 = .ok (.iinc 4 1, 3) := by decide +kernel
theorem dX3_ofMood_42 : decode cX3_ofMood 42 = .ok (.goto (-37), 3) := by decide +kernel
theorem dX3_ofMood_45 : decode cX3_ofMood 45 = .ok (.iload_n 3, 1) := by decide +kernel
theorem dX3_ofMood_46 : decode cX3_ofMood 46 = .ok (.ireturn, 1) := by decide +kernel
theorem dX3_setOf_0 : decode cX3_setOf 0 = .ok (.lconst 0, 1) := by decide +kernel
theorem dX3_setOf_1 : decode cX3_setOf 1 = .ok (.lstore_n 2, 1) := by decide +kernel
theorem dX3_setOf_2 : decode cX3_setOf 2 = .ok (.iconst 0, 1) := by decide +kernel
theorem dX3_setOf_3 : decode cX3_setOf 3 = .ok (.istore 4, 2) := by decide +kernel
theorem dX3_setOf_5 : decode cX3_setOf 5 = .ok (.iload 4, 2) := by decide +kernel
theorem dX3_setOf_7 : decode cX3_setOf 7 = .ok (.aload_n 0, 1) := by decide +kernel
theorem dX3_setOf_8 : decode cX3_setOf 8 = .ok (.getfield 33, 3) := by decide +kernel
theorem dX3_setOf_11 : decode cX3_setOf 11 = .ok (.if_icmp .ge 27, 3) := by decide +kernel
theorem dX3_setOf_14 : decode cX3_setOf 14 = .ok (.aload_n 0, 1) := by decide +kernel
theorem dX3_setOf_15 : decode cX3_setOf 15 = .ok (.getfield 24, 3) := by decide +kernel
theorem dX3_setOf_18 : decode cX3_setOf 18 = .ok (.iload 4, 2) := by decide +kernel
theorem dX3_setOf_20 : decode cX3_setOf 20 = .ok (.iaload, 1) := by decide +kernel
theorem dX3_setOf_21 : decode cX3_setOf 21 = .ok (.iload_n 1, 1) := by decide +kernel
theorem dX3_setOf_22 : decode cX3_setOf 22 = .ok (.if_icmp .ne 10, 3) := by decide +kernel
theorem dX3_setOf_25 : decode cX3_setOf 25 = .ok (.lload_n 2, 1) := by decide +kernel
theorem dX3_setOf_26 : decode cX3_setOf 26 = .ok (.lconst 1, 1) := by decide +kernel
theorem dX3_setOf_27 : decode cX3_setOf 27 = .ok (.iload 4, 2) := by decide +kernel
theorem dX3_setOf_29 : decode cX3_setOf 29 = .ok (.lshl, 1) := by decide +kernel
theorem dX3_setOf_30 : decode cX3_setOf 30 = .ok (.lor, 1) := by decide +kernel
theorem dX3_setOf_31 : decode cX3_setOf 31 = .ok (.lstore_n 2, 1) := by decide +kernel
theorem dX3_setOf_32 : decode cX3_setOf 32 = .ok (.iinc 4 1, 3) := by decide +kernel
theorem dX3_setOf_35 : decode cX3_setOf 35 = .ok (.goto (-30), 3) := by decide +kernel
theorem dX3_setOf_38 : decode cX3_setOf 38 = .ok (.lload_n 2, 1) := by decide +kernel
theorem dX3_setOf_39 : decode cX3_setOf 39 = .ok (.lreturn, 1) := by decide +kernel
theorem dX3_answersTo_0 : decode cX3_answersTo 0 = .ok (.iconst 0, 1) := by decide +kernel
theorem dX3_answersTo_1 : decode cX3_answersTo 1 = .ok (.istore_n 2, 1) := by decide +kernel
theorem dX3_answersTo_2 : decode cX3_answersTo 2 = .ok (.iconst 0, 1) := by decide +kernel
theorem dX3_answersTo_3 : decode cX3_answersTo 3 = .ok (.istore_n 3, 1) := by decide +kernel
theorem dX3_answersTo_4 : decode cX3_answersTo 4 = .ok (.iload_n 3, 1) := by decide +kernel
theorem dX3_answersTo_5 : decode cX3_answersTo 5 = .ok (.aload_n 0, 1) := by decide +kernel
theorem dX3_answersTo_6 : decode cX3_answersTo 6 = .ok (.getfield 33, 3) := by decide +kernel
theorem dX3_answersTo_9 : decode cX3_answersTo 9 = .ok (.if_icmp .ge 22, 3) := by decide +kernel
theorem dX3_answersTo_12 : decode cX3_answersTo 12 = .ok (.aload_n 0, 1) := by decide +kernel
theorem dX3_answersTo_13 : decode cX3_answersTo 13 = .ok (.getfield 21, 3) := by decide +kernel
theorem dX3_answersTo_16 : decode cX3_answersTo 16 = .ok (.iload_n 3, 1) := by decide +kernel
theorem dX3_answersTo_17 : decode cX3_answersTo 17 = .ok (.iaload, 1) := by decide +kernel
theorem dX3_answersTo_18 : decode cX3_answersTo 18 = .ok (.iload_n 1, 1) := by decide +kernel
theorem dX3_answersTo_19 : decode cX3_answersTo 19 = .ok (.if_icmp .ne 6, 3) := by decide +kernel
theorem dX3_answersTo_22 : decode cX3_answersTo 22 = .ok (.iinc 2 1, 3) := by decide +kernel
theorem dX3_answersTo_25 : decode cX3_answersTo 25 = .ok (.iinc 3 1, 3) := by decide +kernel
theorem dX3_answersTo_28 : decode cX3_answersTo 28 = .ok (.goto (-24), 3) := by decide +kernel
theorem dX3_answersTo_31 : decode cX3_answersTo 31 = .ok (.iload_n 2, 1) := by decide +kernel
theorem dX3_answersTo_32 : decode cX3_answersTo 32 = .ok (.ireturn, 1) := by decide +kernel
set_option maxRecDepth 20000 in
theorem ggX3_depthOf_X3_isLetter : GoodIn wsX3_depthOf wsX3_isLetter := goodIn_r _ [6, 7, 8, 9, 10, 11, 12, 13, 14, 15] (by decide +kernel) (by decide +kernel)
set_option maxRecDepth 20000 in
theorem gX3_depthOf_X3_isLetter : GoodIn wsX3_depthOf (wsV RX3 41 RX3 yX3_isLetter wsX3_isLetter) := goodIn_app (goodIn_of _ (by decide +kernel)) ggX3_depthOf_X3_isLetter
theorem dX3_depthOf_0 : decode cX3_depthOf 0 = .ok (.iconst 0, 1) := by decide +kernel
theorem dX3_depthOf_1 : decode cX3_depthOf 1 = .ok (.istore_n 2, 1) := by decide +kernel
theorem dX3_depthOf_2 : decode cX3_depthOf 2 = .ok (.aload_n 0, 1) := by decide +kernel
theorem dX3_depthOf_3 : decode cX3_depthOf 3 = .ok (.getfield 21, 3) := by decide +kernel
theorem dX3_depthOf_6 : decode cX3_depthOf 6 = .ok (.iload_n 1, 1) := by decide +kernel
theorem dX3_depthOf_7 : decode cX3_depthOf 7 = .ok (.iaload, 1) := by decide +kernel
theorem dX3_depthOf_8 : decode cX3_depthOf 8 = .ok (.istore_n 3, 1) := by decide +kernel
theorem dX3_depthOf_9 : decode cX3_depthOf 9 = .ok (.aload_n 0, 1) := by decide +kernel
theorem dX3_depthOf_10 : decode cX3_depthOf 10 = .ok (.iload_n 3, 1) := by decide +kernel
theorem dX3_depthOf_11 : decode cX3_depthOf 11 = .ok (.invokevirtual 41, 3) := by decide +kernel
theorem dX3_depthOf_14 : decode cX3_depthOf 14 = .ok (.ifCond .eq 22, 3) := by decide +kernel
theorem dX3_depthOf_17 : decode cX3_depthOf 17 = .ok (.iload_n 2, 1) := by decide +kernel
theorem dX3_depthOf_18 : decode cX3_depthOf 18 = .ok (.bipush 30, 2) := by decide +kernel
theorem dX3_depthOf_20 : decode cX3_depthOf 20 = .ok (.if_icmp .ge 16, 3) := by decide +kernel
theorem dX3_depthOf_23 : decode cX3_depthOf 23 = .ok (.iinc 2 1, 3) := by decide +kernel
theorem dX3_depthOf_26 : decode cX3_depthOf 26 = .ok (.aload_n 0, 1) := by decide +kernel
theorem dX3_depthOf_27 : decode cX3_depthOf 27 = .ok (.getfield 21, 3) := by decide +kernel
theorem dX3_depthOf_30 : decode cX3_depthOf 30 = .ok (.iload_n 3, 1) := by decide +kernel
theorem dX3_depthOf_31 : decode cX3_depthOf 31 = .ok (.iaload, 1) := by decide +kernel
theorem dX3_depthOf_32 : decode cX3_depthOf 32 = .ok (.istore_n 3, 1) := by decide +kernel
theorem dX3_depthOf_33 : decode cX3_depthOf 33 = .ok (.goto (-24), 3) := by decide +kernel
theorem dX3_depthOf_36 : decode cX3_depthOf 36 = .ok (.iload_n 2, 1) := by decide +kernel
theorem dX3_depthOf_37 : decode cX3_depthOf 37 = .ok (.ireturn, 1) := by decide +kernel
theorem dX4_init_0 : decode cX4_init 0 = .ok (.aload_n 0, 1) := by decide +kernel
theorem dX4_init_1 : decode cX4_init 1 = .ok (.invokespecial 3, 3) := by decide +kernel
theorem dX4_init_4 : decode cX4_init 4 = .ok (.aload_n 0, 1) := by decide +kernel
theorem dX4_init_5 : decode cX4_init 5 = .ok (.bipush 80, 2) := by decide +kernel
theorem dX4_init_7 : decode cX4_init 7 = .ok (.newarray .char, 2) := by decide +kernel
theorem dX4_init_9 : decode cX4_init 9 = .ok (.putfield 9, 3) := by decide +kernel
theorem dX4_init_12 : decode cX4_init 12 = .ok (.return_, 1) := by decide +kernel
theorem dX5_init_0 : decode cX5_init 0 = .ok (.aload_n 0, 1) := by decide +kernel
theorem dX5_init_1 : decode cX5_init 1 = .ok (.invokespecial 3, 3) := by decide +kernel
theorem dX5_init_4 : decode cX5_init 4 = .ok (.aload_n 0, 1) := by decide +kernel
theorem dX5_init_5 : decode cX5_init 5 = .ok (.bipush 30, 2) := by decide +kernel
theorem dX5_init_7 : decode cX5_init 7 = .ok (.newarray .int, 2) := by decide +kernel
theorem dX5_init_9 : decode cX5_init 9 = .ok (.putfield 9, 3) := by decide +kernel
theorem dX5_init_12 : decode cX5_init 12 = .ok (.return_, 1) := by decide +kernel
set_option maxRecDepth 20000 in
theorem ggX5_ofSent_X5_workOut : GoodIn wsX5_ofSent wsX5_workOut := goodIn_r _ [6, 7, 1, 8, 9, 10, 11, 12, 13, 14, 15, 16, 17, 18, 19, 20, 21, 22, 23, 24, 25, 26, 27, 28, 29, 30, 31, 32, 33, 34, 35, 36, 37, 39, 40, 41, 42, 38, 43, 44, 45, 46, 47, 48, 49, 50] (by decide +kernel) (by decide +kernel)
set_option maxRecDepth 20000 in
theorem gX5_ofSent_X5_workOut : GoodIn wsX5_ofSent (wsV RX5 15 RX5 yX5_workOut wsX5_workOut) := goodIn_app (goodIn_of _ (by decide +kernel)) ggX5_ofSent_X5_workOut
theorem dX5_ofSent_0 : decode cX5_ofSent 0 = .ok (.aload_n 0, 1) := by decide +kernel
theorem dX5_ofSent_1 : decode cX5_ofSent 1 = .ok (.aload_n 1, 1) := by decide +kernel
theorem dX5_ofSent_2 : decode cX5_ofSent 2 = .ok (.bipush (-6), 2) := by decide +kernel
theorem dX5_ofSent_4 : decode cX5_ofSent 4 = .ok (.invokevirtual 15, 3) := by decide +kernel
theorem dX5_ofSent_7 : decode cX5_ofSent 7 = .ok (.aload_n 0, 1) := by decide +kernel
theorem dX5_ofSent_8 : decode cX5_ofSent 8 = .ok (.getfield 9, 3) := by decide +kernel
theorem dX5_ofSent_11 : decode cX5_ofSent 11 = .ok (.iload_n 2, 1) := by decide +kernel
theorem dX5_ofSent_12 : decode cX5_ofSent 12 = .ok (.iaload, 1) := by decide +kernel
theorem dX5_ofSent_13 : decode cX5_ofSent 13 = .ok (.ireturn, 1) := by decide +kernel
set_option maxRecDepth 20000 in
theorem ggX5_withSent_X5_workOut : GoodIn wsX5_withSent wsX5_workOut := goodIn_r _ [6, 7, 1, 8, 9, 10, 11, 12, 13, 14, 15, 16, 17, 18, 19, 20, 21, 22, 23, 24, 25, 26, 27, 28, 29, 30, 31, 32, 33, 34, 35, 36, 37, 39, 40, 41, 42, 38, 43, 44, 45, 46, 47, 48, 49, 50] (by decide +kernel) (by decide +kernel)
set_option maxRecDepth 20000 in
theorem gX5_withSent_X5_workOut : GoodIn wsX5_withSent (wsV RX5 15 RX5 yX5_workOut wsX5_workOut) := goodIn_app (goodIn_of _ (by decide +kernel)) ggX5_withSent_X5_workOut
theorem dX5_withSent_0 : decode cX5_withSent 0 = .ok (.aload_n 0, 1) := by decide +kernel
theorem dX5_withSent_1 : decode cX5_withSent 1 = .ok (.aload_n 1, 1) := by decide +kernel
theorem dX5_withSent_2 : decode cX5_withSent 2 = .ok (.iload_n 3, 1) := by decide +kernel
theorem dX5_withSent_3 : decode cX5_withSent 3 = .ok (.invokevirtual 15, 3) := by decide +kernel
theorem dX5_withSent_6 : decode cX5_withSent 6 = .ok (.aload_n 0, 1) := by decide +kernel
theorem dX5_withSent_7 : decode cX5_withSent 7 = .ok (.getfield 9, 3) := by decide +kernel
theorem dX5_withSent_10 : decode cX5_withSent 10 = .ok (.iload_n 2, 1) := by decide +kernel
theorem dX5_withSent_11 : decode cX5_withSent 11 = .ok (.iaload, 1) := by decide +kernel
theorem dX5_withSent_12 : decode cX5_withSent 12 = .ok (.ireturn, 1) := by decide +kernel
set_option maxRecDepth 20000 in
theorem ggX5_greatest_X5_workOut : GoodIn wsX5_greatest wsX5_workOut := goodIn_r _ [9, 1, 4, 2, 3, 10, 11, 12, 13, 14, 15, 16, 17, 18, 19, 20, 21, 22, 23, 24, 25, 26, 27, 28, 29, 30, 31, 32, 33, 34, 35, 36, 37, 38, 39, 40, 41, 50, 42, 43, 44, 45, 46, 47, 48, 49] (by decide +kernel) (by decide +kernel)
set_option maxRecDepth 20000 in
theorem gX5_greatest_X5_workOut : GoodIn wsX5_greatest (wsV RX5 15 RX5 yX5_workOut wsX5_workOut) := goodIn_app (goodIn_of _ (by decide +kernel)) ggX5_greatest_X5_workOut
theorem dX5_greatest_0 : decode cX5_greatest 0 = .ok (.aload_n 0, 1) := by decide +kernel
theorem dX5_greatest_1 : decode cX5_greatest 1 = .ok (.aload_n 1, 1) := by decide +kernel
theorem dX5_greatest_2 : decode cX5_greatest 2 = .ok (.bipush (-6), 2) := by decide +kernel
theorem dX5_greatest_4 : decode cX5_greatest 4 = .ok (.invokevirtual 15, 3) := by decide +kernel
theorem dX5_greatest_7 : decode cX5_greatest 7 = .ok (.bipush (-6), 2) := by decide +kernel
theorem dX5_greatest_9 : decode cX5_greatest 9 = .ok (.istore_n 2, 1) := by decide +kernel
theorem dX5_greatest_10 : decode cX5_greatest 10 = .ok (.iconst (-1), 1) := by decide +kernel
theorem dX5_greatest_11 : decode cX5_greatest 11 = .ok (.istore_n 3, 1) := by decide +kernel
theorem dX5_greatest_12 : decode cX5_greatest 12 = .ok (.iconst 0, 1) := by decide +kernel
theorem dX5_greatest_13 : decode cX5_greatest 13 = .ok (.istore 4, 2) := by decide +kernel
theorem dX5_greatest_15 : decode cX5_greatest 15 = .ok (.iload 4, 2) := by decide +kernel
theorem dX5_greatest_17 : decode cX5_greatest 17 = .ok (.aload_n 1, 1) := by decide +kernel
theorem dX5_greatest_18 : decode cX5_greatest 18 = .ok (.getfield 19, 3) := by decide +kernel
theorem dX5_greatest_21 : decode cX5_greatest 21 = .ok (.getfield 25, 3) := by decide +kernel
theorem dX5_greatest_24 : decode cX5_greatest 24 = .ok (.if_icmp .ge 45, 3) := by decide +kernel
theorem dX5_greatest_27 : decode cX5_greatest 27 = .ok (.aload_n 1, 1) := by decide +kernel
theorem dX5_greatest_28 : decode cX5_greatest 28 = .ok (.getfield 19, 3) := by decide +kernel
theorem dX5_greatest_31 : decode cX5_greatest 31 = .ok (.getfield 31, 3) := by decide +kernel
theorem dX5_greatest_34 : decode cX5_greatest 34 = .ok (.iload 4, 2) := by decide +kernel
theorem dX5_greatest_36 : decode cX5_greatest 36 = .ok (.iaload, 1) := by decide +kernel
theorem dX5_greatest_37 : decode cX5_greatest 37 = .ok (.iconst 1, 1) := by decide +kernel
theorem dX5_greatest_38 : decode cX5_greatest 38 = .ok (.if_icmp .ne 25, 3) := by decide +kernel
theorem dX5_greatest_41 : decode cX5_greatest 41 = .ok (.aload_n 0, 1) := by decide +kernel
theorem dX5_greatest_42 : decode cX5_greatest 42 = .ok (.getfield 9, 3) := by decide +kernel
theorem dX5_greatest_45 : decode cX5_greatest 45 = .ok (.iload 4, 2) := by decide +kernel
theorem dX5_greatest_47 : decode cX5_greatest 47 = .ok (.iaload, 1) := by decide +kernel
theorem dX5_greatest_48 : decode cX5_greatest 48 = .ok (.iload_n 3, 1) := by decide +kernel
theorem dX5_greatest_49 : decode cX5_greatest 49 = .ok (.if_icmp .le 14, 3) := by decide +kernel
theorem dX5_greatest_52 : decode cX5_greatest 52 = .ok (.iload 4, 2) := by decide +kernel
theorem dX5_greatest_54 : decode cX5_greatest 54 = .ok (.istore_n 2, 1) := by decide +kernel
theorem dX5_greatest_55 : decode cX5_greatest 55 = .ok (.aload_n 0, 1) := by decide +kernel
theorem dX5_greatest_56 : decode cX5_greatest 56 = .ok (.getfield 9, 3) := by decide +kernel
theorem dX5_greatest_59 : decode cX5_greatest 59 = .ok (.iload 4, 2) := by decide +kernel
theorem dX5_greatest_61 : decode cX5_greatest 61 = .ok (.iaload, 1) := by decide +kernel
theorem dX5_greatest_62 : decode cX5_greatest 62 = .ok (.istore_n 3, 1) := by decide +kernel
theorem dX5_greatest_63 : decode cX5_greatest 63 = .ok (.iinc 4 1, 3) := by decide +kernel
theorem dX5_greatest_66 : decode cX5_greatest 66 = .ok (.goto (-51), 3) := by decide +kernel
theorem dX5_greatest_69 : decode cX5_greatest 69 = .ok (.iload_n 2, 1) := by decide +kernel
theorem dX5_greatest_70 : decode cX5_greatest 70 = .ok (.ireturn, 1) := by decide +kernel
set_option maxRecDepth 20000 in
theorem ggX5_workOut_X0_heatNow : GoodIn wsX5_workOut wsX0_heatNow := goodIn_r _ [14, 15, 16, 17, 18, 19, 20, 21, 7, 8, 9, 22, 23, 24, 13, 25, 26, 33, 34, 35, 36, 38, 39, 40, 41, 42, 43, 44, 45] (by decide +kernel) (by decide +kernel)
set_option maxRecDepth 20000 in
theorem gX5_workOut_X0_heatNow : GoodIn wsX5_workOut (wsV RX5 34 RX0 yX0_heatNow wsX0_heatNow) := goodIn_app (goodIn_of _ (by decide +kernel)) ggX5_workOut_X0_heatNow
set_option maxRecDepth 20000 in
theorem ggX5_workOut_X3_isLetter : GoodIn wsX5_workOut wsX3_isLetter := goodIn_r _ [31, 32, 38, 39, 40, 41, 42, 43, 44, 45] (by decide +kernel) (by decide +kernel)
set_option maxRecDepth 20000 in
theorem gX5_workOut_X3_isLetter : GoodIn wsX5_workOut (wsV RX5 41 RX3 yX3_isLetter wsX3_isLetter) := goodIn_app (goodIn_of _ (by decide +kernel)) ggX5_workOut_X3_isLetter
theorem dX5_workOut_0 : decode cX5_workOut 0 = .ok (.aload_n 1, 1) := by decide +kernel
theorem dX5_workOut_1 : decode cX5_workOut 1 = .ok (.getfield 19, 3) := by decide +kernel
theorem dX5_workOut_4 : decode cX5_workOut 4 = .ok (.astore_n 3, 1) := by decide +kernel
theorem dX5_workOut_5 : decode cX5_workOut 5 = .ok (.iconst 0, 1) := by decide +kernel
theorem dX5_workOut_6 : decode cX5_workOut 6 = .ok (.istore 4, 2) := by decide +kernel
theorem dX5_workOut_8 : decode cX5_workOut 8 = .ok (.iload 4, 2) := by decide +kernel
theorem dX5_workOut_10 : decode cX5_workOut 10 = .ok (.bipush 30, 2) := by decide +kernel
theorem dX5_workOut_12 : decode cX5_workOut 12 = .ok (.if_icmp .ge 17, 3) := by decide +kernel
theorem dX5_workOut_15 : decode cX5_workOut 15 = .ok (.aload_n 0, 1) := by decide +kernel
theorem dX5_workOut_16 : decode cX5_workOut 16 = .ok (.getfield 9, 3) := by decide +kernel
theorem dX5_workOut_19 : decode cX5_workOut 19 = .ok (.iload 4, 2) := by decide +kernel
theorem dX5_workOut_21 : decode cX5_workOut 21 = .ok (.iconst 0, 1) := by decide +kernel
theorem dX5_workOut_22 : decode cX5_workOut 22 = .ok (.iastore, 1) := by decide +kernel
theorem dX5_workOut_23 : decode cX5_workOut 23 = .ok (.iinc 4 1, 3) := by decide +kernel
theorem dX5_workOut_26 : decode cX5_workOut 26 = .ok (.goto (-18), 3) := by decide +kernel
theorem dX5_workOut_29 : decode cX5_workOut 29 = .ok (.aload_n 3, 1) := by decide +kernel
theorem dX5_workOut_30 : decode cX5_workOut 30 = .ok (.getfield 25, 3) := by decide +kernel
theorem dX5_workOut_33 : decode cX5_workOut 33 = .ok (.iconst 1, 1) := by decide +kernel
theorem dX5_workOut_34 : decode cX5_workOut 34 = .ok (.isub, 1) := by decide +kernel
theorem dX5_workOut_35 : decode cX5_workOut 35 = .ok (.istore 4, 2) := by decide +kernel
theorem dX5_workOut_37 : decode cX5_workOut 37 = .ok (.iload 4, 2) := by decide +kernel
theorem dX5_workOut_39 : decode cX5_workOut 39 = .ok (.ifCond .lt 91, 3) := by decide +kernel
theorem dX5_workOut_42 : decode cX5_workOut 42 = .ok (.aload_n 3, 1) := by decide +kernel
theorem dX5_workOut_43 : decode cX5_workOut 43 = .ok (.getfield 31, 3) := by decide +kernel
theorem dX5_workOut_46 : decode cX5_workOut 46 = .ok (.iload 4, 2) := by decide +kernel
theorem dX5_workOut_48 : decode cX5_workOut 48 = .ok (.iaload, 1) := by decide +kernel
theorem dX5_workOut_49 : decode cX5_workOut 49 = .ok (.iconst 1, 1) := by decide +kernel
theorem dX5_workOut_50 : decode cX5_workOut 50 = .ok (.if_icmp .eq 9, 3) := by decide +kernel
theorem dX5_workOut_53 : decode cX5_workOut 53 = .ok (.iload 4, 2) := by decide +kernel
theorem dX5_workOut_55 : decode cX5_workOut 55 = .ok (.iload_n 2, 1) := by decide +kernel
theorem dX5_workOut_56 : decode cX5_workOut 56 = .ok (.if_icmp .ne 68, 3) := by decide +kernel
theorem dX5_workOut_59 : decode cX5_workOut 59 = .ok (.aload_n 0, 1) := by decide +kernel
theorem dX5_workOut_60 : decode cX5_workOut 60 = .ok (.getfield 9, 3) := by decide +kernel
theorem dX5_workOut_63 : decode cX5_workOut 63 = .ok (.iload 4, 2) := by decide +kernel
theorem dX5_workOut_65 : decode cX5_workOut 65 = .ok (.aload_n 1, 1) := by decide +kernel
theorem dX5_workOut_66 : decode cX5_workOut 66 = .ok (.iload 4, 2) := by decide +kernel
theorem dX5_workOut_68 : decode cX5_workOut 68 = .ok (.invokevirtual 34, 3) := by decide +kernel
theorem dX5_workOut_71 : decode cX5_workOut 71 = .ok (.aload_n 0, 1) := by decide +kernel
theorem dX5_workOut_72 : decode cX5_workOut 72 = .ok (.getfield 9, 3) := by decide +kernel
theorem dX5_workOut_75 : decode cX5_workOut 75 = .ok (.iload 4, 2) := by decide +kernel
theorem dX5_workOut_77 : decode cX5_workOut 77 = .ok (.iaload, 1) := by decide +kernel
theorem dX5_workOut_78 : decode cX5_workOut 78 = .ok (.iconst 2, 1) := by decide +kernel
theorem dX5_workOut_79 : decode cX5_workOut 79 = .ok (.idiv, 1) := by decide +kernel
theorem dX5_workOut_80 : decode cX5_workOut 80 = .ok (.iadd, 1) := by decide +kernel
theorem dX5_workOut_81 : decode cX5_workOut 81 = .ok (.iastore, 1) := by decide +kernel
theorem dX5_workOut_82 : decode cX5_workOut 82 = .ok (.aload_n 3, 1) := by decide +kernel
theorem dX5_workOut_83 : decode cX5_workOut 83 = .ok (.getfield 38, 3) := by decide +kernel
theorem dX5_workOut_86 : decode cX5_workOut 86 = .ok (.iload 4, 2) := by decide +kernel
theorem dX5_workOut_88 : decode cX5_workOut 88 = .ok (.iaload, 1) := by decide +kernel
theorem dX5_workOut_89 : decode cX5_workOut 89 = .ok (.istore 5, 2) := by decide +kernel
theorem dX5_workOut_91 : decode cX5_workOut 91 = .ok (.aload_n 3, 1) := by decide +kernel
theorem dX5_workOut_92 : decode cX5_workOut 92 = .ok (.iload 5, 2) := by decide +kernel
theorem dX5_workOut_94 : decode cX5_workOut 94 = .ok (.invokevirtual 41, 3) := by decide +kernel
theorem dX5_workOut_97 : decode cX5_workOut 97 = .ok (.ifCond .eq 27, 3) := by decide +kernel
theorem dX5_workOut_100 : decode cX5_workOut 100 = .ok (.aload_n 0, 1) := by decide +kernel
theorem dX5_workOut_101 : decode cX5_workOut 101 = .ok (.getfield 9, 3) := by decide +kernel
theorem dX5_workOut_104 : decode cX5_workOut 104 = .ok (.iload 5, 2) := by decide +kernel
theorem dX5_workOut_106 : decode cX5_workOut 106 = .ok (.aload_n 0, 1) := by decide +kernel
theorem dX5_workOut_107 : decode cX5_workOut 107 = .ok (.getfield 9, 3) := by decide +kernel
theorem dX5_workOut_110 : decode cX5_workOut 110 = .ok (.iload 5, 2) := by decide +kernel
theorem dX5_workOut_112 : decode cX5_workOut 112 = .ok (.iaload, 1) := by decide +kernel
theorem dX5_workOut_113 : decode cX5_workOut 113 = .ok (.aload_n 0, 1) := by decide +kernel
theorem dX5_workOut_114 : decode cX5_workOut 114 = .ok (.getfield 9, 3) := by decide +kernel
theorem dX5_workOut_117 : decode cX5_workOut 117 = .ok (.iload 4, 2) := by decide +kernel
theorem dX5_workOut_119 : decode cX5_workOut 119 = .ok (.iaload, 1) := by decide +kernel
theorem dX5_workOut_120 : decode cX5_workOut 120 = .ok (.invokestatic 45, 3) := by decide +kernel
theorem dX5_workOut_123 : decode cX5_workOut 123 = .ok (.iastore, 1) := by decide +kernel
theorem dX5_workOut_124 : decode cX5_workOut 124 = .ok (.iinc 4 (-1), 3) := by decide +kernel
theorem dX5_workOut_127 : decode cX5_workOut 127 = .ok (.goto (-90), 3) := by decide +kernel
theorem dX5_workOut_130 : decode cX5_workOut 130 = .ok (.return_, 1) := by decide +kernel
set_option maxRecDepth 20000 in
theorem ggX6_init_X0_init : GoodIn wsX6_init wsX0_init := goodIn_r _ [22, 23, 2, 3, 24, 25, 26, 27, 28, 29, 30, 31, 32, 33, 34, 35, 36, 37, 38, 39, 40, 41, 42, 43, 44, 45, 46, 47, 48, 49, 50, 65, 66, 67, 68, 84, 85, 86, 87, 88, 89, 90, 91, 92, 93, 94, 95] (by decide +kernel) (by decide +kernel)
set_option maxRecDepth 20000 in
theorem gX6_init_X0_init_n9 : GoodIn wsX6_init (wsX0_init) := ggX6_init_X0_init
set_option maxRecDepth 20000 in
theorem ggX6_init_X5_init : GoodIn wsX6_init wsX5_init := goodIn_r _ [52, 53, 2, 3, 24, 54, 74] (by decide +kernel) (by decide +kernel)
set_option maxRecDepth 20000 in
theorem gX6_init_X5_init_n18 : GoodIn wsX6_init (wsX5_init) := ggX6_init_X5_init
set_option maxRecDepth 20000 in
theorem ggX6_init_X4_init : GoodIn wsX6_init wsX4_init := goodIn_r _ [56, 57, 2, 3, 58, 59, 75, 76, 77, 78, 79, 80, 81] (by decide +kernel) (by decide +kernel)
set_option maxRecDepth 20000 in
theorem gX6_init_X4_init_n25 : GoodIn wsX6_init (wsX4_init) := ggX6_init_X4_init
set_option maxRecDepth 20000 in
theorem ggX6_init_X2_init : GoodIn wsX6_init wsX2_init := goodIn_r _ [61, 62, 2, 3, 63, 64, 82, 83] (by decide +kernel) (by decide +kernel)
set_option maxRecDepth 20000 in
theorem gX6_init_X2_init_n32 : GoodIn wsX6_init (wsX2_init) := ggX6_init_X2_init
theorem dX6_init_0 : decode cX6_init 0 = .ok (.aload_n 0, 1) := by decide +kernel
theorem dX6_init_1 : decode cX6_init 1 = .ok (.invokespecial 1, 3) := by decide +kernel
theorem dX6_init_4 : decode cX6_init 4 = .ok (.aload_n 0, 1) := by decide +kernel
theorem dX6_init_5 : decode cX6_init 5 = .ok (.new 7, 3) := by decide +kernel
theorem dX6_init_8 : decode cX6_init 8 = .ok (.dup, 1) := by decide +kernel
theorem dX6_init_9 : decode cX6_init 9 = .ok (.invokespecial 9, 3) := by decide +kernel
theorem dX6_init_12 : decode cX6_init 12 = .ok (.putfield 10, 3) := by decide +kernel
theorem dX6_init_15 : decode cX6_init 15 = .ok (.aload_n 0, 1) := by decide +kernel
theorem dX6_init_16 : decode cX6_init 16 = .ok (.new 16, 3) := by decide +kernel
theorem dX6_init_19 : decode cX6_init 19 = .ok (.dup, 1) := by decide +kernel
theorem dX6_init_20 : decode cX6_init 20 = .ok (.invokespecial 18, 3) := by decide +kernel
theorem dX6_init_23 : decode cX6_init 23 = .ok (.putfield 19, 3) := by decide +kernel
theorem dX6_init_26 : decode cX6_init 26 = .ok (.aload_n 0, 1) := by decide +kernel
theorem dX6_init_27 : decode cX6_init 27 = .ok (.new 23, 3) := by decide +kernel
theorem dX6_init_30 : decode cX6_init 30 = .ok (.dup, 1) := by decide +kernel
theorem dX6_init_31 : decode cX6_init 31 = .ok (.invokespecial 25, 3) := by decide +kernel
theorem dX6_init_34 : decode cX6_init 34 = .ok (.putfield 26, 3) := by decide +kernel
theorem dX6_init_37 : decode cX6_init 37 = .ok (.aload_n 0, 1) := by decide +kernel
theorem dX6_init_38 : decode cX6_init 38 = .ok (.new 30, 3) := by decide +kernel
theorem dX6_init_41 : decode cX6_init 41 = .ok (.dup, 1) := by decide +kernel
theorem dX6_init_42 : decode cX6_init 42 = .ok (.invokespecial 32, 3) := by decide +kernel
theorem dX6_init_45 : decode cX6_init 45 = .ok (.putfield 33, 3) := by decide +kernel
theorem dX6_init_48 : decode cX6_init 48 = .ok (.aload_n 0, 1) := by decide +kernel
theorem dX6_init_49 : decode cX6_init 49 = .ok (.iconst 2, 1) := by decide +kernel
theorem dX6_init_50 : decode cX6_init 50 = .ok (.anewarray 7, 3) := by decide +kernel
theorem dX6_init_53 : decode cX6_init 53 = .ok (.putfield 37, 3) := by decide +kernel
theorem dX6_init_56 : decode cX6_init 56 = .ok (.return_, 1) := by decide +kernel
set_option maxRecDepth 20000 in
theorem ggX6_set_X2_prepare : GoodIn wsX6_set wsX2_prepare := goodIn_r _ [7, 8, 9, 10, 11, 12, 13, 14, 15, 16, 17, 18, 19, 20, 21, 22, 23, 24, 25, 26, 27, 28, 29, 30, 31, 32, 33, 34, 35, 36, 37, 38, 39, 40, 41, 42, 43, 44, 45, 46, 47, 48, 49, 50, 51, 52, 53, 54, 55, 56, 57, 58, 59, 60, 61, 62, 63, 64, 65, 66, 67, 68, 69, 87, 88, 89, 90, 91, 92, 93, 94, 95, 96, 97, 98, 99, 100, 101, 102, 103, 104] (by decide +kernel) (by decide +kernel)
set_option maxRecDepth 20000 in
theorem gX6_set_X2_prepare : GoodIn wsX6_set (wsV RX6 41 RX2 yX2_prepare wsX2_prepare) := goodIn_app (goodIn_of _ (by decide +kernel)) ggX6_set_X2_prepare
set_option maxRecDepth 20000 in
theorem ggX6_set_X0_changeSetting : GoodIn wsX6_set wsX0_changeSetting := goodIn_r _ [73, 19, 89, 90, 91, 92] (by decide +kernel) (by decide +kernel)
set_option maxRecDepth 20000 in
theorem gX6_set_X0_changeSetting : GoodIn wsX6_set (wsV RX6 45 RX0 yX0_changeSetting wsX0_changeSetting) := goodIn_app (goodIn_of _ (by decide +kernel)) ggX6_set_X0_changeSetting
set_option maxRecDepth 20000 in
theorem ggX6_set_X6_recorded : GoodIn wsX6_set wsX6_recorded := goodIn_r _ [77, 1, 78, 79, 80, 6, 81, 9, 8, 82, 83, 84, 85, 86, 87, 88] (by decide +kernel) (by decide +kernel)
set_option maxRecDepth 20000 in
theorem gX6_set_X6_recorded : GoodIn wsX6_set (wsV RX6 49 RX6 yX6_recorded wsX6_recorded) := goodIn_app (goodIn_of _ (by decide +kernel)) ggX6_set_X6_recorded
theorem dX6_set_0 : decode cX6_set 0 = .ok (.aload_n 0, 1) := by decide +kernel
theorem dX6_set_1 : decode cX6_set 1 = .ok (.getfield 33, 3) := by decide +kernel
theorem dX6_set_4 : decode cX6_set 4 = .ok (.aload_n 0, 1) := by decide +kernel
theorem dX6_set_5 : decode cX6_set 5 = .ok (.getfield 10, 3) := by decide +kernel
theorem dX6_set_8 : decode cX6_set 8 = .ok (.invokevirtual 41, 3) := by decide +kernel
theorem dX6_set_11 : decode cX6_set 11 = .ok (.aload_n 0, 1) := by decide +kernel
theorem dX6_set_12 : decode cX6_set 12 = .ok (.aload_n 0, 1) := by decide +kernel
theorem dX6_set_13 : decode cX6_set 13 = .ok (.getfield 10, 3) := by decide +kernel
theorem dX6_set_16 : decode cX6_set 16 = .ok (.iload_n 1, 1) := by decide +kernel
theorem dX6_set_17 : decode cX6_set 17 = .ok (.iload_n 2, 1) := by decide +kernel
theorem dX6_set_18 : decode cX6_set 18 = .ok (.invokevirtual 45, 3) := by decide +kernel
theorem dX6_set_21 : decode cX6_set 21 = .ok (.invokevirtual 49, 3) := by decide +kernel
theorem dX6_set_24 : decode cX6_set 24 = .ok (.ireturn, 1) := by decide +kernel
set_option maxRecDepth 20000 in
theorem ggX6_write_X2_prepare : GoodIn wsX6_write wsX2_prepare := goodIn_r _ [7, 8, 9, 10, 11, 12, 13, 14, 15, 16, 17, 18, 19, 20, 21, 22, 23, 24, 25, 26, 27, 28, 29, 30, 31, 32, 33, 34, 35, 36, 37, 38, 39, 40, 41, 42, 43, 44, 45, 46, 47, 48, 49, 50, 51, 52, 53, 54, 55, 56, 57, 58, 59, 60, 61, 62, 63, 64, 65, 66, 67, 68, 69, 108, 109, 110, 111, 112, 113, 114, 115, 116, 117, 118, 119, 120, 121, 122, 123, 124, 125] (by decide +kernel) (by decide +kernel)
set_option maxRecDepth 20000 in
theorem gX6_write_X2_prepare : GoodIn wsX6_write (wsV RX6 41 RX2 yX2_prepare wsX2_prepare) := goodIn_app (goodIn_of _ (by decide +kernel)) ggX6_write_X2_prepare
set_option maxRecDepth 20000 in
theorem ggX6_write_X0_writeLetter : GoodIn wsX6_write wsX0_writeLetter := goodIn_r _ [73, 27, 74, 75, 76, 77, 78, 79, 80, 81, 51, 82, 83, 84, 85, 26, 86, 69, 87, 88, 89, 90, 38, 42, 91, 92, 93, 12, 94, 49, 110, 111, 112, 113, 118, 119, 120, 121, 122, 123, 124, 125] (by decide +kernel) (by decide +kernel)
set_option maxRecDepth 20000 in
theorem gX6_write_X0_writeLetter : GoodIn wsX6_write (wsV RX6 53 RX0 yX0_writeLetter wsX0_writeLetter) := goodIn_app (goodIn_of _ (by decide +kernel)) ggX6_write_X0_writeLetter
set_option maxRecDepth 20000 in
theorem ggX6_write_X6_recorded : GoodIn wsX6_write wsX6_recorded := goodIn_r _ [98, 1, 99, 100, 101, 6, 102, 9, 8, 103, 104, 105, 106, 107, 108, 109] (by decide +kernel) (by decide +kernel)
set_option maxRecDepth 20000 in
theorem gX6_write_X6_recorded : GoodIn wsX6_write (wsV RX6 49 RX6 yX6_recorded wsX6_recorded) := goodIn_app (goodIn_of _ (by decide +kernel)) ggX6_write_X6_recorded
theorem dX6_write_0 : decode cX6_write 0 = .ok (.aload_n 0, 1) := by decide +kernel
theorem dX6_write_1 : decode cX6_write 1 = .ok (.getfield 33, 3) := by decide +kernel
theorem dX6_write_4 : decode cX6_write 4 = .ok (.aload_n 0, 1) := by decide +kernel
theorem dX6_write_5 : decode cX6_write 5 = .ok (.getfield 10, 3) := by decide +kernel
theorem dX6_write_8 : decode cX6_write 8 = .ok (.invokevirtual 41, 3) := by decide +kernel
theorem dX6_write_11 : decode cX6_write 11 = .ok (.aload_n 0, 1) := by decide +kernel
theorem dX6_write_12 : decode cX6_write 12 = .ok (.aload_n 0, 1) := by decide +kernel
theorem dX6_write_13 : decode cX6_write 13 = .ok (.getfield 10, 3) := by decide +kernel
theorem dX6_write_16 : decode cX6_write 16 = .ok (.iload_n 1, 1) := by decide +kernel
theorem dX6_write_17 : decode cX6_write 17 = .ok (.iload_n 2, 1) := by decide +kernel
theorem dX6_write_18 : decode cX6_write 18 = .ok (.iload_n 3, 1) := by decide +kernel
theorem dX6_write_19 : decode cX6_write 19 = .ok (.invokevirtual 53, 3) := by decide +kernel
theorem dX6_write_22 : decode cX6_write 22 = .ok (.invokevirtual 49, 3) := by decide +kernel
theorem dX6_write_25 : decode cX6_write 25 = .ok (.ireturn, 1) := by decide +kernel
set_option maxRecDepth 20000 in
theorem ggX6_turn_X2_prepare : GoodIn wsX6_turn wsX2_prepare := goodIn_r _ [7, 8, 9, 10, 11, 12, 13, 14, 15, 16, 17, 18, 19, 20, 21, 22, 23, 24, 25, 26, 27, 28, 29, 30, 31, 32, 33, 34, 35, 36, 37, 38, 39, 40, 41, 42, 43, 44, 45, 46, 47, 48, 49, 50, 51, 52, 53, 54, 55, 56, 57, 58, 59, 60, 61, 62, 63, 64, 65, 66, 67, 68, 69, 90, 91, 92, 93, 94, 95, 96, 97, 98, 99, 100, 101, 102, 103, 104, 105, 106, 107] (by decide +kernel) (by decide +kernel)
set_option maxRecDepth 20000 in
theorem gX6_turn_X2_prepare : GoodIn wsX6_turn (wsV RX6 41 RX2 yX2_prepare wsX2_prepare) := goodIn_app (goodIn_of _ (by decide +kernel)) ggX6_turn_X2_prepare
set_option maxRecDepth 20000 in
theorem ggX6_turn_X0_turnKey : GoodIn wsX6_turn wsX0_turnKey := goodIn_r _ [73, 23, 74, 75, 51, 76, 92, 93, 94, 95, 96, 97, 98, 99] (by decide +kernel) (by decide +kernel)
set_option maxRecDepth 20000 in
theorem gX6_turn_X0_turnKey : GoodIn wsX6_turn (wsV RX6 57 RX0 yX0_turnKey wsX0_turnKey) := goodIn_app (goodIn_of _ (by decide +kernel)) ggX6_turn_X0_turnKey
set_option maxRecDepth 20000 in
theorem ggX6_turn_X6_recorded : GoodIn wsX6_turn wsX6_recorded := goodIn_r _ [80, 1, 81, 82, 83, 6, 84, 9, 8, 85, 86, 87, 88, 89, 90, 91] (by decide +kernel) (by decide +kernel)
set_option maxRecDepth 20000 in
theorem gX6_turn_X6_recorded : GoodIn wsX6_turn (wsV RX6 49 RX6 yX6_recorded wsX6_recorded) := goodIn_app (goodIn_of _ (by decide +kernel)) ggX6_turn_X6_recorded
theorem dX6_turn_0 : decode cX6_turn 0 = .ok (.aload_n 0, 1) := by decide +kernel
theorem dX6_turn_1 : decode cX6_turn 1 = .ok (.getfield 33, 3) := by decide +kernel
theorem dX6_turn_4 : decode cX6_turn 4 = .ok (.aload_n 0, 1) := by decide +kernel
theorem dX6_turn_5 : decode cX6_turn 5 = .ok (.getfield 10, 3) := by decide +kernel
theorem dX6_turn_8 : decode cX6_turn 8 = .ok (.invokevirtual 41, 3) := by decide +kernel
theorem dX6_turn_11 : decode cX6_turn 11 = .ok (.aload_n 0, 1) := by decide +kernel
theorem dX6_turn_12 : decode cX6_turn 12 = .ok (.aload_n 0, 1) := by decide +kernel
theorem dX6_turn_13 : decode cX6_turn 13 = .ok (.getfield 10, 3) := by decide +kernel
theorem dX6_turn_16 : decode cX6_turn 16 = .ok (.iload_n 1, 1) := by decide +kernel
theorem dX6_turn_17 : decode cX6_turn 17 = .ok (.invokevirtual 57, 3) := by decide +kernel
theorem dX6_turn_20 : decode cX6_turn 20 = .ok (.invokevirtual 49, 3) := by decide +kernel
theorem dX6_turn_23 : decode cX6_turn 23 = .ok (.ireturn, 1) := by decide +kernel
set_option maxRecDepth 20000 in
theorem ggX6_rest_X2_prepare : GoodIn wsX6_rest wsX2_prepare := goodIn_r _ [7, 8, 9, 10, 11, 12, 13, 14, 15, 16, 17, 18, 19, 20, 21, 22, 23, 24, 25, 26, 27, 28, 29, 30, 31, 32, 33, 34, 35, 36, 37, 38, 39, 40, 41, 42, 43, 44, 45, 46, 47, 48, 49, 50, 51, 52, 53, 54, 55, 56, 57, 58, 59, 60, 61, 62, 63, 64, 65, 66, 67, 68, 69, 90, 91, 92, 93, 94, 95, 96, 97, 98, 99, 100, 101, 102, 103, 104, 105, 106, 107] (by decide +kernel) (by decide +kernel)
set_option maxRecDepth 20000 in
theorem gX6_rest_X2_prepare : GoodIn wsX6_rest (wsV RX6 41 RX2 yX2_prepare wsX2_prepare) := goodIn_app (goodIn_of _ (by decide +kernel)) ggX6_rest_X2_prepare
set_option maxRecDepth 20000 in
theorem ggX6_rest_X0_changeRest : GoodIn wsX6_rest wsX0_changeRest := goodIn_r _ [73, 23, 74, 75, 51, 76, 92, 93, 94, 95, 96, 97, 98, 99] (by decide +kernel) (by decide +kernel)
set_option maxRecDepth 20000 in
theorem gX6_rest_X0_changeRest : GoodIn wsX6_rest (wsV RX6 60 RX0 yX0_changeRest wsX0_changeRest) := goodIn_app (goodIn_of _ (by decide +kernel)) ggX6_rest_X0_changeRest
set_option maxRecDepth 20000 in
theorem ggX6_rest_X6_recorded : GoodIn wsX6_rest wsX6_recorded := goodIn_r _ [80, 1, 81, 82, 83, 6, 84, 9, 8, 85, 86, 87, 88, 89, 90, 91] (by decide +kernel) (by decide +kernel)
set_option maxRecDepth 20000 in
theorem gX6_rest_X6_recorded : GoodIn wsX6_rest (wsV RX6 49 RX6 yX6_recorded wsX6_recorded) := goodIn_app (goodIn_of _ (by decide +kernel)) ggX6_rest_X6_recorded
theorem dX6_rest_0 : decode cX6_rest 0 = .ok (.aload_n 0, 1) := by decide +kernel
theorem dX6_rest_1 : decode cX6_rest 1 = .ok (.getfield 33, 3) := by decide +kernel
theorem dX6_rest_4 : decode cX6_rest 4 = .ok (.aload_n 0, 1) := by decide +kernel
theorem dX6_rest_5 : decode cX6_rest 5 = .ok (.getfield 10, 3) := by decide +kernel
theorem dX6_rest_8 : decode cX6_rest 8 = .ok (.invokevirtual 41, 3) := by decide +kernel
theorem dX6_rest_11 : decode cX6_rest 11 = .ok (.aload_n 0, 1) := by decide +kernel
theorem dX6_rest_12 : decode cX6_rest 12 = .ok (.aload_n 0, 1) := by decide +kernel
theorem dX6_rest_13 : decode cX6_rest 13 = .ok (.getfield 10, 3) := by decide +kernel
theorem dX6_rest_16 : decode cX6_rest 16 = .ok (.iload_n 1, 1) := by decide +kernel
theorem dX6_rest_17 : decode cX6_rest 17 = .ok (.iload_n 2, 1) := by decide +kernel
theorem dX6_rest_18 : decode cX6_rest 18 = .ok (.invokevirtual 60, 3) := by decide +kernel
theorem dX6_rest_21 : decode cX6_rest 21 = .ok (.invokevirtual 49, 3) := by decide +kernel
theorem dX6_rest_24 : decode cX6_rest 24 = .ok (.ireturn, 1) := by decide +kernel
set_option maxRecDepth 20000 in
theorem ggX6_hours_X2_prepare : GoodIn wsX6_hours wsX2_prepare := goodIn_r _ [7, 8, 9, 10, 11, 12, 13, 14, 15, 16, 17, 18, 19, 20, 21, 22, 23, 24, 25, 26, 27, 28, 29, 30, 31, 32, 33, 34, 35, 36, 37, 38, 39, 40, 41, 42, 43, 44, 45, 46, 47, 48, 49, 50, 51, 52, 53, 54, 55, 56, 57, 58, 59, 60, 61, 62, 63, 64, 65, 66, 67, 68, 69, 93, 94, 95, 96, 97, 98, 99, 100, 101, 102, 103, 104, 105, 106, 107, 108, 109, 110] (by decide +kernel) (by decide +kernel)
set_option maxRecDepth 20000 in
theorem gX6_hours_X2_prepare : GoodIn wsX6_hours (wsV RX6 41 RX2 yX2_prepare wsX2_prepare) := goodIn_app (goodIn_of _ (by decide +kernel)) ggX6_hours_X2_prepare
set_option maxRecDepth 20000 in
theorem ggX6_hours_X0_changeHours : GoodIn wsX6_hours wsX0_changeHours := goodIn_r _ [73, 23, 74, 75, 76, 51, 77, 78, 79, 95, 96, 97, 98, 99, 100, 101, 102] (by decide +kernel) (by decide +kernel)
set_option maxRecDepth 20000 in
theorem gX6_hours_X0_changeHours : GoodIn wsX6_hours (wsV RX6 63 RX0 yX0_changeHours wsX0_changeHours) := goodIn_app (goodIn_of _ (by decide +kernel)) ggX6_hours_X0_changeHours
set_option maxRecDepth 20000 in
theorem ggX6_hours_X6_recorded : GoodIn wsX6_hours wsX6_recorded := goodIn_r _ [83, 1, 84, 85, 86, 6, 87, 9, 8, 88, 89, 90, 91, 92, 93, 94] (by decide +kernel) (by decide +kernel)
set_option maxRecDepth 20000 in
theorem gX6_hours_X6_recorded : GoodIn wsX6_hours (wsV RX6 49 RX6 yX6_recorded wsX6_recorded) := goodIn_app (goodIn_of _ (by decide +kernel)) ggX6_hours_X6_recorded
theorem dX6_hours_0 : decode cX6_hours 0 = .ok (.aload_n 0, 1) := by decide +kernel
theorem dX6_hours_1 : decode cX6_hours 1 = .ok (.getfield 33, 3) := by decide +kernel
theorem dX6_hours_4 : decode cX6_hours 4 = .ok (.aload_n 0, 1) := by decide +kernel
theorem dX6_hours_5 : decode cX6_hours 5 = .ok (.getfield 10, 3) := by decide +kernel
theorem dX6_hours_8 : decode cX6_hours 8 = .ok (.invokevirtual 41, 3) := by decide +kernel
theorem dX6_hours_11 : decode cX6_hours 11 = .ok (.aload_n 0, 1) := by decide +kernel
theorem dX6_hours_12 : decode cX6_hours 12 = .ok (.aload_n 0, 1) := by decide +kernel
theorem dX6_hours_13 : decode cX6_hours 13 = .ok (.getfield 10, 3) := by decide +kernel
theorem dX6_hours_16 : decode cX6_hours 16 = .ok (.iload_n 1, 1) := by decide +kernel
theorem dX6_hours_17 : decode cX6_hours 17 = .ok (.iload_n 2, 1) := by decide +kernel
theorem dX6_hours_18 : decode cX6_hours 18 = .ok (.iload_n 3, 1) := by decide +kernel
theorem dX6_hours_19 : decode cX6_hours 19 = .ok (.invokevirtual 63, 3) := by decide +kernel
theorem dX6_hours_22 : decode cX6_hours 22 = .ok (.invokevirtual 49, 3) := by decide +kernel
theorem dX6_hours_25 : decode cX6_hours 25 = .ok (.ireturn, 1) := by decide +kernel
set_option maxRecDepth 20000 in
theorem ggX6_burn_X2_prepare : GoodIn wsX6_burn wsX2_prepare := goodIn_r _ [7, 8, 9, 10, 11, 12, 13, 14, 15, 16, 17, 18, 19, 20, 21, 22, 23, 24, 25, 26, 27, 28, 29, 30, 31, 32, 33, 34, 35, 36, 37, 38, 39, 40, 41, 42, 43, 44, 45, 46, 47, 48, 49, 50, 51, 52, 53, 54, 55, 56, 57, 58, 59, 60, 61, 62, 63, 64, 65, 66, 67, 68, 69, 114, 115, 116, 117, 118, 119, 120, 121, 122, 123, 124, 125, 126, 127, 128, 129, 130, 131] (by decide +kernel) (by decide +kernel)
set_option maxRecDepth 20000 in
theorem gX6_burn_X2_prepare : GoodIn wsX6_burn (wsV RX6 41 RX2 yX2_prepare wsX2_prepare) := goodIn_app (goodIn_of _ (by decide +kernel)) ggX6_burn_X2_prepare
set_option maxRecDepth 20000 in
theorem ggX6_burn_X0_burnLetter : GoodIn wsX6_burn wsX0_burnLetter := goodIn_r _ [73, 27, 74, 75, 76, 77, 78, 26, 79, 69, 80, 81, 82, 12, 83, 23, 84, 85, 51, 86, 87, 88, 89, 90, 91, 92, 93, 19, 94, 95, 55, 96, 97, 98, 99, 100, 49, 116, 117, 118, 119, 124, 125, 126, 127, 128, 129, 130, 131, 120, 121, 122, 123] (by decide +kernel) (by decide +kernel)
set_option maxRecDepth 20000 in
theorem gX6_burn_X0_burnLetter : GoodIn wsX6_burn (wsV RX6 66 RX0 yX0_burnLetter wsX0_burnLetter) := goodIn_app (goodIn_of _ (by decide +kernel)) ggX6_burn_X0_burnLetter
set_option maxRecDepth 20000 in
theorem ggX6_burn_X6_recorded : GoodIn wsX6_burn wsX6_recorded := goodIn_r _ [104, 1, 105, 106, 107, 6, 108, 9, 8, 109, 110, 111, 112, 113, 114, 115] (by decide +kernel) (by decide +kernel)
set_option maxRecDepth 20000 in
theorem gX6_burn_X6_recorded : GoodIn wsX6_burn (wsV RX6 49 RX6 yX6_recorded wsX6_recorded) := goodIn_app (goodIn_of _ (by decide +kernel)) ggX6_burn_X6_recorded
theorem dX6_burn_0 : decode cX6_burn 0 = .ok (.aload_n 0, 1) := by decide +kernel
theorem dX6_burn_1 : decode cX6_burn 1 = .ok (.getfield 33, 3) := by decide +kernel
theorem dX6_burn_4 : decode cX6_burn 4 = .ok (.aload_n 0, 1) := by decide +kernel
theorem dX6_burn_5 : decode cX6_burn 5 = .ok (.getfield 10, 3) := by decide +kernel
theorem dX6_burn_8 : decode cX6_burn 8 = .ok (.invokevirtual 41, 3) := by decide +kernel
theorem dX6_burn_11 : decode cX6_burn 11 = .ok (.aload_n 0, 1) := by decide +kernel
theorem dX6_burn_12 : decode cX6_burn 12 = .ok (.aload_n 0, 1) := by decide +kernel
theorem dX6_burn_13 : decode cX6_burn 13 = .ok (.getfield 10, 3) := by decide +kernel
theorem dX6_burn_16 : decode cX6_burn 16 = .ok (.iload_n 1, 1) := by decide +kernel
theorem dX6_burn_17 : decode cX6_burn 17 = .ok (.invokevirtual 66, 3) := by decide +kernel
theorem dX6_burn_20 : decode cX6_burn 20 = .ok (.invokevirtual 49, 3) := by decide +kernel
theorem dX6_burn_23 : decode cX6_burn 23 = .ok (.ireturn, 1) := by decide +kernel
set_option maxRecDepth 20000 in
theorem ggX6_pass_X2_prepare : GoodIn wsX6_pass wsX2_prepare := goodIn_r _ [7, 8, 9, 10, 11, 12, 13, 14, 15, 16, 17, 18, 19, 20, 21, 22, 23, 24, 25, 26, 27, 28, 29, 30, 31, 32, 33, 34, 35, 36, 37, 38, 39, 40, 41, 42, 43, 44, 45, 46, 47, 48, 49, 50, 51, 52, 53, 54, 55, 56, 57, 58, 59, 60, 61, 62, 63, 64, 65, 66, 67, 68, 69, 138, 139, 140, 141, 142, 143, 144, 145, 146, 147, 148, 149, 150, 151, 152, 153, 154, 155] (by decide +kernel) (by decide +kernel)
set_option maxRecDepth 20000 in
theorem gX6_pass_X2_prepare : GoodIn wsX6_pass (wsV RX6 41 RX2 yX2_prepare wsX2_prepare) := goodIn_app (goodIn_of _ (by decide +kernel)) ggX6_pass_X2_prepare
set_option maxRecDepth 20000 in
theorem ggX6_pass_X0_passHours : GoodIn wsX6_pass wsX0_passHours := goodIn_r _ [73, 49, 23, 19, 74, 75, 76, 12, 77, 78, 79, 80, 22, 81, 33, 32, 34, 82, 83, 84, 85, 27, 86, 87, 88, 89, 90, 26, 91, 38, 42, 92, 93, 94, 95, 96, 97, 98, 99, 100, 101, 102, 103, 104, 105, 55, 106, 107, 108, 109, 110, 111, 112, 113, 114, 115, 116, 117, 118, 119, 120, 121, 122, 123, 124, 140, 141, 142, 143, 144, 145, 146, 147, 148, 149, 150, 151, 152, 153, 154, 155] (by decide +kernel) (by decide +kernel)
set_option maxRecDepth 20000 in
theorem gX6_pass_X0_passHours : GoodIn wsX6_pass (wsV RX6 69 RX0 yX0_passHours wsX0_passHours) := goodIn_app (goodIn_of _ (by decide +kernel)) ggX6_pass_X0_passHours
set_option maxRecDepth 20000 in
theorem ggX6_pass_X6_recorded : GoodIn wsX6_pass wsX6_recorded := goodIn_r _ [128, 1, 129, 130, 131, 6, 132, 9, 8, 133, 134, 135, 136, 137, 138, 139] (by decide +kernel) (by decide +kernel)
set_option maxRecDepth 20000 in
theorem gX6_pass_X6_recorded : GoodIn wsX6_pass (wsV RX6 49 RX6 yX6_recorded wsX6_recorded) := goodIn_app (goodIn_of _ (by decide +kernel)) ggX6_pass_X6_recorded
theorem dX6_pass_0 : decode cX6_pass 0 = .ok (.aload_n 0, 1) := by decide +kernel
theorem dX6_pass_1 : decode cX6_pass 1 = .ok (.getfield 33, 3) := by decide +kernel
theorem dX6_pass_4 : decode cX6_pass 4 = .ok (.aload_n 0, 1) := by decide +kernel
theorem dX6_pass_5 : decode cX6_pass 5 = .ok (.getfield 10, 3) := by decide +kernel
theorem dX6_pass_8 : decode cX6_pass 8 = .ok (.invokevirtual 41, 3) := by decide +kernel
theorem dX6_pass_11 : decode cX6_pass 11 = .ok (.aload_n 0, 1) := by decide +kernel
theorem dX6_pass_12 : decode cX6_pass 12 = .ok (.aload_n 0, 1) := by decide +kernel
theorem dX6_pass_13 : decode cX6_pass 13 = .ok (.getfield 10, 3) := by decide +kernel
theorem dX6_pass_16 : decode cX6_pass 16 = .ok (.iload_n 1, 1) := by decide +kernel
theorem dX6_pass_17 : decode cX6_pass 17 = .ok (.invokevirtual 69, 3) := by decide +kernel
theorem dX6_pass_20 : decode cX6_pass 20 = .ok (.invokevirtual 49, 3) := by decide +kernel
theorem dX6_pass_23 : decode cX6_pass 23 = .ok (.ireturn, 1) := by decide +kernel
set_option maxRecDepth 20000 in
theorem ggX6_recorded_X2_keepPrepared : GoodIn wsX6_recorded wsX2_keepPrepared := goodIn_r _ [6, 7, 8, 14, 15] (by decide +kernel) (by decide +kernel)
set_option maxRecDepth 20000 in
theorem gX6_recorded_X2_keepPrepared : GoodIn wsX6_recorded (wsV RX6 72 RX2 yX2_keepPrepared wsX2_keepPrepared) := goodIn_app (goodIn_of _ (by decide +kernel)) ggX6_recorded_X2_keepPrepared
theorem dX6_recorded_0 : decode cX6_recorded 0 = .ok (.iload_n 1, 1) := by decide +kernel
theorem dX6_recorded_1 : decode cX6_recorded 1 = .ok (.ifCond .lt 10, 3) := by decide +kernel
theorem dX6_recorded_4 : decode cX6_recorded 4 = .ok (.aload_n 0, 1) := by decide +kernel
theorem dX6_recorded_5 : decode cX6_recorded 5 = .ok (.getfield 33, 3) := by decide +kernel
theorem dX6_recorded_8 : decode cX6_recorded 8 = .ok (.invokevirtual 72, 3) := by decide +kernel
theorem dX6_recorded_11 : decode cX6_recorded 11 = .ok (.iload_n 1, 1) := by decide +kernel
theorem dX6_recorded_12 : decode cX6_recorded 12 = .ok (.ireturn, 1) := by decide +kernel
set_option maxRecDepth 20000 in
theorem ggX6_ofLetter_X3_isLetter : GoodIn wsX6_ofLetter wsX3_isLetter := goodIn_r _ [14, 15, 72, 73, 74, 75, 76, 77, 78, 79] (by decide +kernel) (by decide +kernel)
set_option maxRecDepth 20000 in
theorem gX6_ofLetter_X3_isLetter : GoodIn wsX6_ofLetter (wsV RX6 79 RX3 yX3_isLetter wsX3_isLetter) := goodIn_app (goodIn_of _ (by decide +kernel)) ggX6_ofLetter_X3_isLetter
set_option maxRecDepth 20000 in
theorem ggX6_ofLetter_X0_heatNow : GoodIn wsX6_ofLetter wsX0_heatNow := goodIn_r _ [20, 21, 22, 23, 24, 25, 26, 27, 28, 29, 30, 31, 32, 33, 19, 34, 35, 68, 69, 70, 71, 72, 73, 74, 75, 76, 77, 78, 79] (by decide +kernel) (by decide +kernel)
set_option maxRecDepth 20000 in
theorem gX6_ofLetter_X0_heatNow : GoodIn wsX6_ofLetter (wsV RX6 92 RX0 yX0_heatNow wsX0_heatNow) := goodIn_app (goodIn_of _ (by decide +kernel)) ggX6_ofLetter_X0_heatNow
set_option maxRecDepth 20000 in
theorem ggX6_ofLetter_X5_ofSent : GoodIn wsX6_ofLetter wsX5_ofSent := goodIn_r _ [40, 41, 42, 43, 44, 39, 45, 46, 47, 48, 49, 50, 28, 29, 30, 51, 17, 18, 19, 20, 21, 22, 23, 24, 25, 26, 27, 31, 32, 33, 34, 35, 52, 11, 12, 13, 14, 15, 80, 68, 69, 70, 71, 72, 73, 74, 75, 76, 77, 78, 79] (by decide +kernel) (by decide +kernel)
set_option maxRecDepth 20000 in
theorem gX6_ofLetter_X5_ofSent : GoodIn wsX6_ofLetter (wsV RX6 107 RX5 yX5_ofSent wsX5_ofSent) := goodIn_app (goodIn_of _ (by decide +kernel)) ggX6_ofLetter_X5_ofSent
set_option maxRecDepth 20000 in
theorem ggX6_ofLetter_X3_answersTo : GoodIn wsX6_ofLetter wsX3_answersTo := goodIn_r _ [56, 15, 57, 72, 73, 74, 75, 76, 77, 78, 79] (by decide +kernel) (by decide +kernel)
set_option maxRecDepth 20000 in
theorem gX6_ofLetter_X3_answersTo : GoodIn wsX6_ofLetter (wsV RX6 111 RX3 yX3_answersTo wsX3_answersTo) := goodIn_app (goodIn_of _ (by decide +kernel)) ggX6_ofLetter_X3_answersTo
set_option maxRecDepth 20000 in
theorem ggX6_ofLetter_X3_depthOf : GoodIn wsX6_ofLetter wsX3_depthOf := goodIn_r _ [61, 57, 62, 11, 12, 13, 14, 15, 72, 73, 74, 75, 76, 77, 78, 79] (by decide +kernel) (by decide +kernel)
set_option maxRecDepth 20000 in
theorem gX6_ofLetter_X3_depthOf : GoodIn wsX6_ofLetter (wsV RX6 114 RX3 yX3_depthOf wsX3_depthOf) := goodIn_app (goodIn_of _ (by decide +kernel)) ggX6_ofLetter_X3_depthOf
theorem dX6_ofLetter_0 : decode cX6_ofLetter 0 = .ok (.aload_n 0, 1) := by decide +kernel
theorem dX6_ofLetter_1 : decode cX6_ofLetter 1 = .ok (.getfield 10, 3) := by decide +kernel
theorem dX6_ofLetter_4 : decode cX6_ofLetter 4 = .ok (.getfield 75, 3) := by decide +kernel
theorem dX6_ofLetter_7 : decode cX6_ofLetter 7 = .ok (.astore_n 3, 1) := by decide +kernel
theorem dX6_ofLetter_8 : decode cX6_ofLetter 8 = .ok (.aload_n 3, 1) := by decide +kernel
theorem dX6_ofLetter_9 : decode cX6_ofLetter 9 = .ok (.iload_n 1, 1) := by decide +kernel
theorem dX6_ofLetter_10 : decode cX6_ofLetter 10 = .ok (.invokevirtual 79, 3) := by decide +kernel
theorem dX6_ofLetter_13 : decode cX6_ofLetter 13 = .ok (.ifCond .ne 5, 3) := by decide +kernel
theorem dX6_ofLetter_16 : decode cX6_ofLetter 16 = .ok (.iconst (-1), 1) := by decide +kernel
theorem dX6_ofLetter_17 : decode cX6_ofLetter 17 = .ok (.ireturn, 1) := by decide +kernel
theorem dX6_ofLetter_18 : decode cX6_ofLetter 18 = .ok (.iload_n 2, 1) := by decide +kernel
theorem dX6_ofLetter_19 : decode cX6_ofLetter 19 = .ok (.tableswitch 129 0 9 #[53, 60, 67, 76, 83, 90, 97, 104, 117, 123], 53) := by decide +kernel
theorem dX6_ofLetter_72 : decode cX6_ofLetter 72 = .ok (.aload_n 3, 1) := by decide +kernel
theorem dX6_ofLetter_73 : decode cX6_ofLetter 73 = .ok (.getfield 85, 3) := by decide +kernel
theorem dX6_ofLetter_76 : decode cX6_ofLetter 76 = .ok (.iload_n 1, 1) := by decide +kernel
theorem dX6_ofLetter_77 : decode cX6_ofLetter 77 = .ok (.iaload, 1) := by decide +kernel
theorem dX6_ofLetter_78 : decode cX6_ofLetter 78 = .ok (.ireturn, 1) := by decide +kernel
theorem dX6_ofLetter_79 : decode cX6_ofLetter 79 = .ok (.aload_n 3, 1) := by decide +kernel
theorem dX6_ofLetter_80 : decode cX6_ofLetter 80 = .ok (.getfield 89, 3) := by decide +kernel
theorem dX6_ofLetter_83 : decode cX6_ofLetter 83 = .ok (.iload_n 1, 1) := by decide +kernel
theorem dX6_ofLetter_84 : decode cX6_ofLetter 84 = .ok (.iaload, 1) := by decide +kernel
theorem dX6_ofLetter_85 : decode cX6_ofLetter 85 = .ok (.ireturn, 1) := by decide +kernel
theorem dX6_ofLetter_86 : decode cX6_ofLetter 86 = .ok (.aload_n 0, 1) := by decide +kernel
theorem dX6_ofLetter_87 : decode cX6_ofLetter 87 = .ok (.getfield 10, 3) := by decide +kernel
theorem dX6_ofLetter_90 : decode cX6_ofLetter 90 = .ok (.iload_n 1, 1) := by decide +kernel
theorem dX6_ofLetter_91 : decode cX6_ofLetter 91 = .ok (.invokevirtual 92, 3) := by decide +kernel
theorem dX6_ofLetter_94 : decode cX6_ofLetter 94 = .ok (.ireturn, 1) := by decide +kernel
theorem dX6_ofLetter_95 : decode cX6_ofLetter 95 = .ok (.aload_n 3, 1) := by decide +kernel
theorem dX6_ofLetter_96 : decode cX6_ofLetter 96 = .ok (.getfield 95, 3) := by decide +kernel
theorem dX6_ofLetter_99 : decode cX6_ofLetter 99 = .ok (.iload_n 1, 1) := by decide +kernel
theorem dX6_ofLetter_100 : decode cX6_ofLetter 100 = .ok (.iaload, 1) := by decide +kernel
theorem dX6_ofLetter_101 : decode cX6_ofLetter 101 = .ok (.ireturn, 1) := by decide +kernel
theorem dX6_ofLetter_102 : decode cX6_ofLetter 102 = .ok (.aload_n 3, 1) := by decide +kernel
theorem dX6_ofLetter_103 : decode cX6_ofLetter 103 = .ok (.getfield 98, 3) := by decide +kernel
theorem dX6_ofLetter_106 : decode cX6_ofLetter 106 = .ok (.iload_n 1, 1) := by decide +kernel
theorem dX6_ofLetter_107 : decode cX6_ofLetter 107 = .ok (.iaload, 1) := by decide +kernel
theorem dX6_ofLetter_108 : decode cX6_ofLetter 108 = .ok (.ireturn, 1) := by decide +kernel
theorem dX6_ofLetter_109 : decode cX6_ofLetter 109 = .ok (.aload_n 3, 1) := by decide +kernel
theorem dX6_ofLetter_110 : decode cX6_ofLetter 110 = .ok (.getfield 101, 3) := by decide +kernel
theorem dX6_ofLetter_113 : decode cX6_ofLetter 113 = .ok (.iload_n 1, 1) := by decide +kernel
theorem dX6_ofLetter_114 : decode cX6_ofLetter 114 = .ok (.iaload, 1) := by decide +kernel
theorem dX6_ofLetter_115 : decode cX6_ofLetter 115 = .ok (.ireturn, 1) := by decide +kernel
theorem dX6_ofLetter_116 : decode cX6_ofLetter 116 = .ok (.aload_n 3, 1) := by decide +kernel
theorem dX6_ofLetter_117 : decode cX6_ofLetter 117 = .ok (.getfield 104, 3) := by decide +kernel
theorem dX6_ofLetter_120 : decode cX6_ofLetter 120 = .ok (.iload_n 1, 1) := by decide +kernel
theorem dX6_ofLetter_121 : decode cX6_ofLetter 121 = .ok (.iaload, 1) := by decide +kernel
theorem dX6_ofLetter_122 : decode cX6_ofLetter 122 = .ok (.ireturn, 1) := by decide +kernel
theorem dX6_ofLetter_123 : decode cX6_ofLetter 123 = .ok (.aload_n 0, 1) := by decide +kernel
theorem dX6_ofLetter_124 : decode cX6_ofLetter 124 = .ok (.getfield 19, 3) := by decide +kernel
theorem dX6_ofLetter_127 : decode cX6_ofLetter 127 = .ok (.aload_n 0, 1) := by decide +kernel
theorem dX6_ofLetter_128 : decode cX6_ofLetter 128 = .ok (.getfield 10, 3) := by decide +kernel
theorem dX6_ofLetter_131 : decode cX6_ofLetter 131 = .ok (.iload_n 1, 1) := by decide +kernel
theorem dX6_ofLetter_132 : decode cX6_ofLetter 132 = .ok (.invokevirtual 107, 3) := by decide +kernel
theorem dX6_ofLetter_135 : decode cX6_ofLetter 135 = .ok (.ireturn, 1) := by decide +kernel
theorem dX6_ofLetter_136 : decode cX6_ofLetter 136 = .ok (.aload_n 3, 1) := by decide +kernel
theorem dX6_ofLetter_137 : decode cX6_ofLetter 137 = .ok (.iload_n 1, 1) := by decide +kernel
theorem dX6_ofLetter_138 : decode cX6_ofLetter 138 = .ok (.invokevirtual 111, 3) := by decide +kernel
theorem dX6_ofLetter_141 : decode cX6_ofLetter 141 = .ok (.ireturn, 1) := by decide +kernel
theorem dX6_ofLetter_142 : decode cX6_ofLetter 142 = .ok (.aload_n 3, 1) := by decide +kernel
theorem dX6_ofLetter_143 : decode cX6_ofLetter 143 = .ok (.iload_n 1, 1) := by decide +kernel
theorem dX6_ofLetter_144 : decode cX6_ofLetter 144 = .ok (.invokevirtual 114, 3) := by decide +kernel
theorem dX6_ofLetter_147 : decode cX6_ofLetter 147 = .ok (.ireturn, 1) := by decide +kernel
theorem dX6_ofLetter_148 : decode cX6_ofLetter 148 = .ok (.bipush (-2), 2) := by decide +kernel
theorem dX6_ofLetter_150 : decode cX6_ofLetter 150 = .ok (.ireturn, 1) := by decide +kernel
set_option maxRecDepth 20000 in
theorem ggX6_ofDrawer_X6_isMood : GoodIn wsX6_ofDrawer wsX6_isMood := goodIn_r _ [11] (by decide +kernel) (by decide +kernel)
set_option maxRecDepth 20000 in
theorem gX6_ofDrawer_X6_isMood : GoodIn wsX6_ofDrawer (va_wsS RX6 117 yX6_isMood wsX6_isMood) := goodIn_app (goodIn_of _ (by decide +kernel)) ggX6_ofDrawer_X6_isMood
set_option maxRecDepth 20000 in
theorem ggX6_ofDrawer_X3_ofMood : GoodIn wsX6_ofDrawer wsX3_ofMood := goodIn_r _ [16, 17, 18, 19, 62, 63, 64, 65, 66, 67, 68, 69] (by decide +kernel) (by decide +kernel)
set_option maxRecDepth 20000 in
theorem gX6_ofDrawer_X3_ofMood : GoodIn wsX6_ofDrawer (wsV RX6 124 RX3 yX3_ofMood wsX3_ofMood) := goodIn_app (goodIn_of _ (by decide +kernel)) ggX6_ofDrawer_X3_ofMood
set_option maxRecDepth 20000 in
theorem ggX6_ofDrawer_X0_heatInDrawer : GoodIn wsX6_ofDrawer wsX0_heatInDrawer := goodIn_r _ [24, 25, 26, 27, 28, 29, 15, 30, 18, 19, 31, 32, 33, 23, 34, 35, 36, 37, 38, 39, 40, 41, 42, 43, 44, 45, 46, 47, 48, 54, 55, 56, 57, 62, 63, 64, 65, 66, 67, 68, 69] (by decide +kernel) (by decide +kernel)
set_option maxRecDepth 20000 in
theorem gX6_ofDrawer_X0_heatInDrawer : GoodIn wsX6_ofDrawer (wsV RX6 141 RX0 yX0_heatInDrawer wsX0_heatInDrawer) := goodIn_app (goodIn_of _ (by decide +kernel)) ggX6_ofDrawer_X0_heatInDrawer
theorem dX6_ofDrawer_0 : decode cX6_ofDrawer 0 = .ok (.iload_n 1, 1) := by decide +kernel
theorem dX6_ofDrawer_1 : decode cX6_ofDrawer 1 = .ok (.invokestatic 117, 3) := by decide +kernel
theorem dX6_ofDrawer_4 : decode cX6_ofDrawer 4 = .ok (.ifCond .ne 5, 3) := by decide +kernel
theorem dX6_ofDrawer_7 : decode cX6_ofDrawer 7 = .ok (.iconst (-1), 1) := by decide +kernel
theorem dX6_ofDrawer_8 : decode cX6_ofDrawer 8 = .ok (.ireturn, 1) := by decide +kernel
theorem dX6_ofDrawer_9 : decode cX6_ofDrawer 9 = .ok (.aload_n 0, 1) := by decide +kernel
theorem dX6_ofDrawer_10 : decode cX6_ofDrawer 10 = .ok (.getfield 10, 3) := by decide +kernel
theorem dX6_ofDrawer_13 : decode cX6_ofDrawer 13 = .ok (.getfield 120, 3) := by decide +kernel
theorem dX6_ofDrawer_16 : decode cX6_ofDrawer 16 = .ok (.astore_n 3, 1) := by decide +kernel
theorem dX6_ofDrawer_17 : decode cX6_ofDrawer 17 = .ok (.iload_n 2, 1) := by decide +kernel
theorem dX6_ofDrawer_18 : decode cX6_ofDrawer 18 = .ok (.tableswitch 122 0 7 #[46, 59, 66, 73, 80, 87, 96, 109], 46) := by decide +kernel
theorem dX6_ofDrawer_64 : decode cX6_ofDrawer 64 = .ok (.aload_n 0, 1) := by decide +kernel
theorem dX6_ofDrawer_65 : decode cX6_ofDrawer 65 = .ok (.getfield 10, 3) := by decide +kernel
theorem dX6_ofDrawer_68 : decode cX6_ofDrawer 68 = .ok (.getfield 75, 3) := by decide +kernel
theorem dX6_ofDrawer_71 : decode cX6_ofDrawer 71 = .ok (.iload_n 1, 1) := by decide +kernel
theorem dX6_ofDrawer_72 : decode cX6_ofDrawer 72 = .ok (.iconst 0, 1) := by decide +kernel
theorem dX6_ofDrawer_73 : decode cX6_ofDrawer 73 = .ok (.invokevirtual 124, 3) := by decide +kernel
theorem dX6_ofDrawer_76 : decode cX6_ofDrawer 76 = .ok (.ireturn, 1) := by decide +kernel
theorem dX6_ofDrawer_77 : decode cX6_ofDrawer 77 = .ok (.aload_n 3, 1) := by decide +kernel
theorem dX6_ofDrawer_78 : decode cX6_ofDrawer 78 = .ok (.getfield 127, 3) := by decide +kernel
theorem dX6_ofDrawer_81 : decode cX6_ofDrawer 81 = .ok (.iload_n 1, 1) := by decide +kernel
theorem dX6_ofDrawer_82 : decode cX6_ofDrawer 82 = .ok (.iaload, 1) := by decide +kernel
theorem dX6_ofDrawer_83 : decode cX6_ofDrawer 83 = .ok (.ireturn, 1) := by decide +kernel
theorem dX6_ofDrawer_84 : decode cX6_ofDrawer 84 = .ok (.aload_n 3, 1) := by decide +kernel
theorem dX6_ofDrawer_85 : decode cX6_ofDrawer 85 = .ok (.getfield 132, 3) := by decide +kernel
theorem dX6_ofDrawer_88 : decode cX6_ofDrawer 88 = .ok (.iload_n 1, 1) := by decide +kernel
theorem dX6_ofDrawer_89 : decode cX6_ofDrawer 89 = .ok (.iaload, 1) := by decide +kernel
theorem dX6_ofDrawer_90 : decode cX6_ofDrawer 90 = .ok (.ireturn, 1) := by decide +kernel
theorem dX6_ofDrawer_91 : decode cX6_ofDrawer 91 = .ok (.aload_n 3, 1) := by decide +kernel
theorem dX6_ofDrawer_92 : decode cX6_ofDrawer 92 = .ok (.getfield 135, 3) := by decide +kernel
theorem dX6_ofDrawer_95 : decode cX6_ofDrawer 95 = .ok (.iload_n 1, 1) := by decide +kernel
theorem dX6_ofDrawer_96 : decode cX6_ofDrawer 96 = .ok (.iaload, 1) := by decide +kernel
theorem dX6_ofDrawer_97 : decode cX6_ofDrawer 97 = .ok (.ireturn, 1) := by decide +kernel
theorem dX6_ofDrawer_98 : decode cX6_ofDrawer 98 = .ok (.aload_n 3, 1) := by decide +kernel
theorem dX6_ofDrawer_99 : decode cX6_ofDrawer 99 = .ok (.getfield 138, 3) := by decide +kernel
theorem dX6_ofDrawer_102 : decode cX6_ofDrawer 102 = .ok (.iload_n 1, 1) := by decide +kernel
theorem dX6_ofDrawer_103 : decode cX6_ofDrawer 103 = .ok (.iaload, 1) := by decide +kernel
theorem dX6_ofDrawer_104 : decode cX6_ofDrawer 104 = .ok (.ireturn, 1) := by decide +kernel
theorem dX6_ofDrawer_105 : decode cX6_ofDrawer 105 = .ok (.aload_n 0, 1) := by decide +kernel
theorem dX6_ofDrawer_106 : decode cX6_ofDrawer 106 = .ok (.getfield 10, 3) := by decide +kernel
theorem dX6_ofDrawer_109 : decode cX6_ofDrawer 109 = .ok (.iload_n 1, 1) := by decide +kernel
theorem dX6_ofDrawer_110 : decode cX6_ofDrawer 110 = .ok (.invokevirtual 141, 3) := by decide +kernel
theorem dX6_ofDrawer_113 : decode cX6_ofDrawer 113 = .ok (.ireturn, 1) := by decide +kernel
theorem dX6_ofDrawer_114 : decode cX6_ofDrawer 114 = .ok (.aload_n 0, 1) := by decide +kernel
theorem dX6_ofDrawer_115 : decode cX6_ofDrawer 115 = .ok (.getfield 10, 3) := by decide +kernel
theorem dX6_ofDrawer_118 : decode cX6_ofDrawer 118 = .ok (.getfield 75, 3) := by decide +kernel
theorem dX6_ofDrawer_121 : decode cX6_ofDrawer 121 = .ok (.iload_n 1, 1) := by decide +kernel
theorem dX6_ofDrawer_122 : decode cX6_ofDrawer 122 = .ok (.iconst 1, 1) := by decide +kernel
theorem dX6_ofDrawer_123 : decode cX6_ofDrawer 123 = .ok (.invokevirtual 124, 3) := by decide +kernel
theorem dX6_ofDrawer_126 : decode cX6_ofDrawer 126 = .ok (.ireturn, 1) := by decide +kernel
theorem dX6_ofDrawer_127 : decode cX6_ofDrawer 127 = .ok (.aload_n 0, 1) := by decide +kernel
theorem dX6_ofDrawer_128 : decode cX6_ofDrawer 128 = .ok (.getfield 10, 3) := by decide +kernel
theorem dX6_ofDrawer_131 : decode cX6_ofDrawer 131 = .ok (.getfield 75, 3) := by decide +kernel
theorem dX6_ofDrawer_134 : decode cX6_ofDrawer 134 = .ok (.iload_n 1, 1) := by decide +kernel
theorem dX6_ofDrawer_135 : decode cX6_ofDrawer 135 = .ok (.iconst 2, 1) := by decide +kernel
theorem dX6_ofDrawer_136 : decode cX6_ofDrawer 136 = .ok (.invokevirtual 124, 3) := by decide +kernel
theorem dX6_ofDrawer_139 : decode cX6_ofDrawer 139 = .ok (.ireturn, 1) := by decide +kernel
theorem dX6_ofDrawer_140 : decode cX6_ofDrawer 140 = .ok (.bipush (-2), 2) := by decide +kernel
theorem dX6_ofDrawer_142 : decode cX6_ofDrawer 142 = .ok (.ireturn, 1) := by decide +kernel
set_option maxRecDepth 20000 in
theorem ggX6_letters_X3_setOf : GoodIn wsX6_letters wsX3_setOf := goodIn_r _ [8, 9, 10, 52, 53, 54, 55, 56, 57, 58, 59] (by decide +kernel) (by decide +kernel)
set_option maxRecDepth 20000 in
theorem gX6_letters_X3_setOf : GoodIn wsX6_letters (wsV RX6 144 RX3 yX3_setOf wsX3_setOf) := goodIn_app (goodIn_of _ (by decide +kernel)) ggX6_letters_X3_setOf
set_option maxRecDepth 20000 in
theorem ggX6_letters_X0_setThatWouldGo : GoodIn wsX6_letters wsX0_setThatWouldGo := goodIn_r _ [15, 16, 17, 18, 19, 20, 21, 22, 7, 23, 24, 10, 25, 26, 27, 14, 28, 29, 30, 31, 32, 33, 34, 35, 36, 37, 38, 39, 40, 41, 42, 48, 49, 50, 51, 52, 53, 54, 55, 56, 57, 58, 59, 60, 61, 62, 63] (by decide +kernel) (by decide +kernel)
set_option maxRecDepth 20000 in
theorem gX6_letters_X0_setThatWouldGo : GoodIn wsX6_letters (wsV RX6 148 RX0 yX0_setThatWouldGo wsX0_setThatWouldGo) := goodIn_app (goodIn_of _ (by decide +kernel)) ggX6_letters_X0_setThatWouldGo
theorem dX6_letters_0 : decode cX6_letters 0 = .ok (.iload_n 1, 1) := by decide +kernel
theorem dX6_letters_1 : decode cX6_letters 1 = .ok (.tableswitch 75 0 3 #[31, 43, 55, 67], 31) := by decide +kernel
theorem dX6_letters_32 : decode cX6_letters 32 = .ok (.aload_n 0, 1) := by decide +kernel
theorem dX6_letters_33 : decode cX6_letters 33 = .ok (.getfield 10, 3) := by decide +kernel
theorem dX6_letters_36 : decode cX6_letters 36 = .ok (.getfield 75, 3) := by decide +kernel
theorem dX6_letters_39 : decode cX6_letters 39 = .ok (.iconst 0, 1) := by decide +kernel
theorem dX6_letters_40 : decode cX6_letters 40 = .ok (.invokevirtual 144, 3) := by decide +kernel
theorem dX6_letters_43 : decode cX6_letters 43 = .ok (.lreturn, 1) := by decide +kernel
theorem dX6_letters_44 : decode cX6_letters 44 = .ok (.aload_n 0, 1) := by decide +kernel
theorem dX6_letters_45 : decode cX6_letters 45 = .ok (.getfield 10, 3) := by decide +kernel
theorem dX6_letters_48 : decode cX6_letters 48 = .ok (.getfield 75, 3) := by decide +kernel
theorem dX6_letters_51 : decode cX6_letters 51 = .ok (.iconst 1, 1) := by decide +kernel
theorem dX6_letters_52 : decode cX6_letters 52 = .ok (.invokevirtual 144, 3) := by decide +kernel
theorem dX6_letters_55 : decode cX6_letters 55 = .ok (.lreturn, 1) := by decide +kernel
theorem dX6_letters_56 : decode cX6_letters 56 = .ok (.aload_n 0, 1) := by decide +kernel
theorem dX6_letters_57 : decode cX6_letters 57 = .ok (.getfield 10, 3) := by decide +kernel
theorem dX6_letters_60 : decode cX6_letters 60 = .ok (.getfield 75, 3) := by decide +kernel
theorem dX6_letters_63 : decode cX6_letters 63 = .ok (.iconst 2, 1) := by decide +kernel
theorem dX6_letters_64 : decode cX6_letters 64 = .ok (.invokevirtual 144, 3) := by decide +kernel
theorem dX6_letters_67 : decode cX6_letters 67 = .ok (.lreturn, 1) := by decide +kernel
theorem dX6_letters_68 : decode cX6_letters 68 = .ok (.aload_n 0, 1) := by decide +kernel
theorem dX6_letters_69 : decode cX6_letters 69 = .ok (.getfield 10, 3) := by decide +kernel
theorem dX6_letters_72 : decode cX6_letters 72 = .ok (.invokevirtual 148, 3) := by decide +kernel
theorem dX6_letters_75 : decode cX6_letters 75 = .ok (.lreturn, 1) := by decide +kernel
theorem dX6_letters_76 : decode cX6_letters 76 = .ok (.ldc2_w 152, 3) := by decide +kernel
theorem dX6_letters_79 : decode cX6_letters 79 = .ok (.lreturn, 1) := by decide +kernel
set_option maxRecDepth 20000 in
theorem ggX6_count_X0_today : GoodIn wsX6_count wsX0_today := goodIn_r _ [14, 15, 45, 46, 47, 48] (by decide +kernel) (by decide +kernel)
set_option maxRecDepth 20000 in
theorem gX6_count_X0_today : GoodIn wsX6_count (wsV RX6 154 RX0 yX0_today wsX0_today) := goodIn_app (goodIn_of _ (by decide +kernel)) ggX6_count_X0_today
set_option maxRecDepth 20000 in
theorem ggX6_count_X0_hourOfDay : GoodIn wsX6_count wsX0_hourOfDay := goodIn_r _ [19, 15, 45, 46, 47, 48] (by decide +kernel) (by decide +kernel)
set_option maxRecDepth 20000 in
theorem gX6_count_X0_hourOfDay : GoodIn wsX6_count (wsV RX6 158 RX0 yX0_hourOfDay wsX0_hourOfDay) := goodIn_app (goodIn_of _ (by decide +kernel)) ggX6_count_X0_hourOfDay
set_option maxRecDepth 20000 in
theorem ggX6_count_X3_setOf : GoodIn wsX6_count wsX3_setOf := goodIn_r _ [24, 25, 26, 49, 50, 51, 52, 53, 54, 55, 56] (by decide +kernel) (by decide +kernel)
set_option maxRecDepth 20000 in
theorem gX6_count_X3_setOf : GoodIn wsX6_count (wsV RX6 144 RX3 yX3_setOf wsX3_setOf) := goodIn_app (goodIn_of _ (by decide +kernel)) ggX6_count_X3_setOf
set_option maxRecDepth 20000 in
theorem ggX6_count_J13_bitCount_95d88 : GoodIn wsX6_count wsJ13_bitCount_95d88 := goodIn_r _ [30, 31, 32, 33] (by decide +kernel) (by decide +kernel)
set_option maxRecDepth 20000 in
theorem gX6_count_J13_bitCount_95d88 : GoodIn wsX6_count (va_wsS RX6 165 yJ13_bitCount_95d88 wsJ13_bitCount_95d88) := goodIn_app (goodIn_of _ (by decide +kernel)) ggX6_count_J13_bitCount_95d88
set_option maxRecDepth 20000 in
theorem ggX6_count_X1_howManyLocked : GoodIn wsX6_count wsX1_howManyLocked := goodIn_r _ [38, 39, 66, 67, 68, 69] (by decide +kernel) (by decide +kernel)
set_option maxRecDepth 20000 in
theorem gX6_count_X1_howManyLocked : GoodIn wsX6_count (wsV RX6 171 RX1 yX1_howManyLocked wsX1_howManyLocked) := goodIn_app (goodIn_of _ (by decide +kernel)) ggX6_count_X1_howManyLocked
theorem dX6_count_0 : decode cX6_count 0 = .ok (.iload_n 1, 1) := by decide +kernel
theorem dX6_count_1 : decode cX6_count 1 = .ok (.tableswitch 192 0 11 #[63, 71, 79, 90, 105, 120, 135, 146, 156, 166, 176, 184], 63) := by decide +kernel
theorem dX6_count_64 : decode cX6_count 64 = .ok (.aload_n 0, 1) := by decide +kernel
theorem dX6_count_65 : decode cX6_count 65 = .ok (.getfield 10, 3) := by decide +kernel
theorem dX6_count_68 : decode cX6_count 68 = .ok (.invokevirtual 154, 3) := by decide +kernel
theorem dX6_count_71 : decode cX6_count 71 = .ok (.ireturn, 1) := by decide +kernel
theorem dX6_count_72 : decode cX6_count 72 = .ok (.aload_n 0, 1) := by decide +kernel
theorem dX6_count_73 : decode cX6_count 73 = .ok (.getfield 10, 3) := by decide +kernel
theorem dX6_count_76 : decode cX6_count 76 = .ok (.invokevirtual 158, 3) := by decide +kernel
theorem dX6_count_79 : decode cX6_count 79 = .ok (.ireturn, 1) := by decide +kernel
theorem dX6_count_80 : decode cX6_count 80 = .ok (.aload_n 0, 1) := by decide +kernel
theorem dX6_count_81 : decode cX6_count 81 = .ok (.getfield 10, 3) := by decide +kernel
theorem dX6_count_84 : decode cX6_count 84 = .ok (.getfield 75, 3) := by decide +kernel
theorem dX6_count_87 : decode cX6_count 87 = .ok (.getfield 161, 3) := by decide +kernel
theorem dX6_count_90 : decode cX6_count 90 = .ok (.ireturn, 1) := by decide +kernel
theorem dX6_count_91 : decode cX6_count 91 = .ok (.aload_n 0, 1) := by decide +kernel
theorem dX6_count_92 : decode cX6_count 92 = .ok (.getfield 10, 3) := by decide +kernel
theorem dX6_count_95 : decode cX6_count 95 = .ok (.getfield 75, 3) := by decide +kernel
theorem dX6_count_98 : decode cX6_count 98 = .ok (.iconst 0, 1) := by decide +kernel
theorem dX6_count_99 : decode cX6_count 99 = .ok (.invokevirtual 144, 3) := by decide +kernel
theorem dX6_count_102 : decode cX6_count 102 = .ok (.invokestatic 165, 3) := by decide +kernel
theorem dX6_count_105 : decode cX6_count 105 = .ok (.ireturn, 1) := by decide +kernel
theorem dX6_count_106 : decode cX6_count 106 = .ok (.aload_n 0, 1) := by decide +kernel
theorem dX6_count_107 : decode cX6_count 107 = .ok (.getfield 10, 3) := by decide +kernel
theorem dX6_count_110 : decode cX6_count 110 = .ok (.getfield 75, 3) := by decide +kernel
theorem dX6_count_113 : decode cX6_count 113 = .ok (.iconst 1, 1) := by decide +kernel
theorem dX6_count_114 : decode cX6_count 114 = .ok (.invokevirtual 144, 3) := by decide +kernel
theorem dX6_count_117 : decode cX6_count 117 = .ok (.invokestatic 165, 3) := by decide +kernel
theorem dX6_count_120 : decode cX6_count 120 = .ok (.ireturn, 1) := by decide +kernel
theorem dX6_count_121 : decode cX6_count 121 = .ok (.aload_n 0, 1) := by decide +kernel
theorem dX6_count_122 : decode cX6_count 122 = .ok (.getfield 10, 3) := by decide +kernel
theorem dX6_count_125 : decode cX6_count 125 = .ok (.getfield 75, 3) := by decide +kernel
theorem dX6_count_128 : decode cX6_count 128 = .ok (.iconst 2, 1) := by decide +kernel
theorem dX6_count_129 : decode cX6_count 129 = .ok (.invokevirtual 144, 3) := by decide +kernel
theorem dX6_count_132 : decode cX6_count 132 = .ok (.invokestatic 165, 3) := by decide +kernel
theorem dX6_count_135 : decode cX6_count 135 = .ok (.ireturn, 1) := by decide +kernel
theorem dX6_count_136 : decode cX6_count 136 = .ok (.aload_n 0, 1) := by decide +kernel
theorem dX6_count_137 : decode cX6_count 137 = .ok (.getfield 10, 3) := by decide +kernel
theorem dX6_count_140 : decode cX6_count 140 = .ok (.getfield 120, 3) := by decide +kernel
theorem dX6_count_143 : decode cX6_count 143 = .ok (.invokevirtual 171, 3) := by decide +kernel
theorem dX6_count_146 : decode cX6_count 146 = .ok (.ireturn, 1) := by decide +kernel
theorem dX6_count_147 : decode cX6_count 147 = .ok (.aload_n 0, 1) := by decide +kernel
theorem dX6_count_148 : decode cX6_count 148 = .ok (.getfield 10, 3) := by decide +kernel
theorem dX6_count_151 : decode cX6_count 151 = .ok (.getfield 174, 3) := by decide +kernel
theorem dX6_count_154 : decode cX6_count 154 = .ok (.iconst 0, 1) := by decide +kernel
theorem dX6_count_155 : decode cX6_count 155 = .ok (.iaload, 1) := by decide +kernel
theorem dX6_count_156 : decode cX6_count 156 = .ok (.ireturn, 1) := by decide +kernel
theorem dX6_count_157 : decode cX6_count 157 = .ok (.aload_n 0, 1) := by decide +kernel
theorem dX6_count_158 : decode cX6_count 158 = .ok (.getfield 10, 3) := by decide +kernel
theorem dX6_count_161 : decode cX6_count 161 = .ok (.getfield 174, 3) := by decide +kernel
theorem dX6_count_164 : decode cX6_count 164 = .ok (.iconst 1, 1) := by decide +kernel
theorem dX6_count_165 : decode cX6_count 165 = .ok (.iaload, 1) := by decide +kernel
theorem dX6_count_166 : decode cX6_count 166 = .ok (.ireturn, 1) := by decide +kernel
theorem dX6_count_167 : decode cX6_count 167 = .ok (.aload_n 0, 1) := by decide +kernel
theorem dX6_count_168 : decode cX6_count 168 = .ok (.getfield 10, 3) := by decide +kernel
theorem dX6_count_171 : decode cX6_count 171 = .ok (.getfield 174, 3) := by decide +kernel
theorem dX6_count_174 : decode cX6_count 174 = .ok (.iconst 2, 1) := by decide +kernel
theorem dX6_count_175 : decode cX6_count 175 = .ok (.iaload, 1) := by decide +kernel
theorem dX6_count_176 : decode cX6_count 176 = .ok (.ireturn, 1) := by decide +kernel
theorem dX6_count_177 : decode cX6_count 177 = .ok (.aload_n 0, 1) := by decide +kernel
theorem dX6_count_178 : decode cX6_count 178 = .ok (.getfield 26, 3) := by decide +kernel
theorem dX6_count_181 : decode cX6_count 181 = .ok (.getfield 177, 3) := by decide +kernel
theorem dX6_count_184 : decode cX6_count 184 = .ok (.ireturn, 1) := by decide +kernel
theorem dX6_count_185 : decode cX6_count 185 = .ok (.aload_n 0, 1) := by decide +kernel
theorem dX6_count_186 : decode cX6_count 186 = .ok (.getfield 33, 3) := by decide +kernel
theorem dX6_count_189 : decode cX6_count 189 = .ok (.getfield 180, 3) := by decide +kernel
theorem dX6_count_192 : decode cX6_count 192 = .ok (.ireturn, 1) := by decide +kernel
theorem dX6_count_193 : decode cX6_count 193 = .ok (.bipush (-2), 2) := by decide +kernel
theorem dX6_count_195 : decode cX6_count 195 = .ok (.ireturn, 1) := by decide +kernel
set_option maxRecDepth 20000 in
theorem ggX6_share_X3_setOf : GoodIn wsX6_share wsX3_setOf := goodIn_r _ [8, 9, 10, 32, 33, 34, 35, 36, 37, 38, 39] (by decide +kernel) (by decide +kernel)
set_option maxRecDepth 20000 in
theorem gX6_share_X3_setOf : GoodIn wsX6_share (wsV RX6 144 RX3 yX3_setOf wsX3_setOf) := goodIn_app (goodIn_of _ (by decide +kernel)) ggX6_share_X3_setOf
set_option maxRecDepth 20000 in
theorem ggX6_share_J13_bitCount_95d88 : GoodIn wsX6_share wsJ13_bitCount_95d88 := goodIn_r _ [14, 15, 16, 17] (by decide +kernel) (by decide +kernel)
set_option maxRecDepth 20000 in
theorem gX6_share_J13_bitCount_95d88 : GoodIn wsX6_share (va_wsS RX6 165 yJ13_bitCount_95d88 wsJ13_bitCount_95d88) := goodIn_app (goodIn_of _ (by decide +kernel)) ggX6_share_J13_bitCount_95d88
set_option maxRecDepth 20000 in
theorem ggX6_share_X6_bitsOf : GoodIn wsX6_share wsX6_bitsOf := goodIn_r _ [21, 22] (by decide +kernel) (by decide +kernel)
set_option maxRecDepth 20000 in
theorem gX6_share_X6_bitsOf : GoodIn wsX6_share (va_wsS RX6 186 yX6_bitsOf wsX6_bitsOf) := goodIn_app (goodIn_of _ (by decide +kernel)) ggX6_share_X6_bitsOf
theorem dX6_share_0 : decode cX6_share 0 = .ok (.aload_n 0, 1) := by decide +kernel
theorem dX6_share_1 : decode cX6_share 1 = .ok (.getfield 10, 3) := by decide +kernel
theorem dX6_share_4 : decode cX6_share 4 = .ok (.getfield 75, 3) := by decide +kernel
theorem dX6_share_7 : decode cX6_share 7 = .ok (.getfield 161, 3) := by decide +kernel
theorem dX6_share_10 : decode cX6_share 10 = .ok (.istore_n 1, 1) := by decide +kernel
theorem dX6_share_11 : decode cX6_share 11 = .ok (.iload_n 1, 1) := by decide +kernel
theorem dX6_share_12 : decode cX6_share 12 = .ok (.ifCond .ne 6, 3) := by decide +kernel
theorem dX6_share_15 : decode cX6_share 15 = .ok (.bipush (-6), 2) := by decide +kernel
theorem dX6_share_17 : decode cX6_share 17 = .ok (.ireturn, 1) := by decide +kernel
theorem dX6_share_18 : decode cX6_share 18 = .ok (.aload_n 0, 1) := by decide +kernel
theorem dX6_share_19 : decode cX6_share 19 = .ok (.getfield 10, 3) := by decide +kernel
theorem dX6_share_22 : decode cX6_share 22 = .ok (.getfield 75, 3) := by decide +kernel
theorem dX6_share_25 : decode cX6_share 25 = .ok (.iconst 1, 1) := by decide +kernel
theorem dX6_share_26 : decode cX6_share 26 = .ok (.invokevirtual 144, 3) := by decide +kernel
theorem dX6_share_29 : decode cX6_share 29 = .ok (.invokestatic 165, 3) := by decide +kernel
theorem dX6_share_32 : decode cX6_share 32 = .ok (.istore_n 2, 1) := by decide +kernel
theorem dX6_share_33 : decode cX6_share 33 = .ok (.iload_n 2, 1) := by decide +kernel
theorem dX6_share_34 : decode cX6_share 34 = .ok (.i2f, 1) := by decide +kernel
theorem dX6_share_35 : decode cX6_share 35 = .ok (.iload_n 1, 1) := by decide +kernel
theorem dX6_share_36 : decode cX6_share 36 = .ok (.i2f, 1) := by decide +kernel
theorem dX6_share_37 : decode cX6_share 37 = .ok (.fdiv, 1) := by decide +kernel
theorem dX6_share_38 : decode cX6_share 38 = .ok (.fstore_n 3, 1) := by decide +kernel
theorem dX6_share_39 : decode cX6_share 39 = .ok (.fload_n 3, 1) := by decide +kernel
theorem dX6_share_40 : decode cX6_share 40 = .ok (.f2d, 1) := by decide +kernel
theorem dX6_share_41 : decode cX6_share 41 = .ok (.bipush 127, 2) := by decide +kernel
theorem dX6_share_43 : decode cX6_share 43 = .ok (.bipush 23, 2) := by decide +kernel
theorem dX6_share_45 : decode cX6_share 45 = .ok (.invokestatic 186, 3) := by decide +kernel
theorem dX6_share_48 : decode cX6_share 48 = .ok (.l2i, 1) := by decide +kernel
theorem dX6_share_49 : decode cX6_share 49 = .ok (.ireturn, 1) := by decide +kernel
set_option maxRecDepth 20000 in
theorem ggX6_goesIn_X3_isLetter : GoodIn wsX6_goesIn wsX3_isLetter := goodIn_r _ [9, 10, 61, 62, 63, 64, 65, 66, 67, 68] (by decide +kernel) (by decide +kernel)
set_option maxRecDepth 20000 in
theorem gX6_goesIn_X3_isLetter : GoodIn wsX6_goesIn (wsV RX6 79 RX3 yX3_isLetter wsX3_isLetter) := goodIn_app (goodIn_of _ (by decide +kernel)) ggX6_goesIn_X3_isLetter
set_option maxRecDepth 20000 in
theorem ggX6_goesIn_X0_hoursTillSent : GoodIn wsX6_goesIn wsX0_hoursTillSent := goodIn_r _ [15, 16, 17, 18, 19, 20, 21, 22, 23, 24, 25, 26, 27, 28, 29, 14, 30, 31, 32, 33, 34, 35, 36, 37, 38, 39, 40, 41, 42, 43, 44, 45, 46, 47, 48, 49, 50, 51, 57, 58, 59, 60, 61, 62, 63, 64, 65, 66, 67, 68, 69, 70, 71, 72] (by decide +kernel) (by decide +kernel)
set_option maxRecDepth 20000 in
theorem gX6_goesIn_X0_hoursTillSent : GoodIn wsX6_goesIn (wsV RX6 190 RX0 yX0_hoursTillSent wsX0_hoursTillSent) := goodIn_app (goodIn_of _ (by decide +kernel)) ggX6_goesIn_X0_hoursTillSent
theorem dX6_goesIn_0 : decode cX6_goesIn 0 = .ok (.aload_n 0, 1) := by decide +kernel
theorem dX6_goesIn_1 : decode cX6_goesIn 1 = .ok (.getfield 10, 3) := by decide +kernel
theorem dX6_goesIn_4 : decode cX6_goesIn 4 = .ok (.getfield 75, 3) := by decide +kernel
theorem dX6_goesIn_7 : decode cX6_goesIn 7 = .ok (.astore_n 2, 1) := by decide +kernel
theorem dX6_goesIn_8 : decode cX6_goesIn 8 = .ok (.aload_n 2, 1) := by decide +kernel
theorem dX6_goesIn_9 : decode cX6_goesIn 9 = .ok (.iload_n 1, 1) := by decide +kernel
theorem dX6_goesIn_10 : decode cX6_goesIn 10 = .ok (.invokevirtual 79, 3) := by decide +kernel
theorem dX6_goesIn_13 : decode cX6_goesIn 13 = .ok (.ifCond .ne 5, 3) := by decide +kernel
theorem dX6_goesIn_16 : decode cX6_goesIn 16 = .ok (.iconst (-1), 1) := by decide +kernel
theorem dX6_goesIn_17 : decode cX6_goesIn 17 = .ok (.ireturn, 1) := by decide +kernel
theorem dX6_goesIn_18 : decode cX6_goesIn 18 = .ok (.aload_n 2, 1) := by decide +kernel
theorem dX6_goesIn_19 : decode cX6_goesIn 19 = .ok (.getfield 98, 3) := by decide +kernel
theorem dX6_goesIn_22 : decode cX6_goesIn 22 = .ok (.iload_n 1, 1) := by decide +kernel
theorem dX6_goesIn_23 : decode cX6_goesIn 23 = .ok (.iaload, 1) := by decide +kernel
theorem dX6_goesIn_24 : decode cX6_goesIn 24 = .ok (.iconst 2, 1) := by decide +kernel
theorem dX6_goesIn_25 : decode cX6_goesIn 25 = .ok (.if_icmp .ne 6, 3) := by decide +kernel
theorem dX6_goesIn_28 : decode cX6_goesIn 28 = .ok (.bipush (-5), 2) := by decide +kernel
theorem dX6_goesIn_30 : decode cX6_goesIn 30 = .ok (.ireturn, 1) := by decide +kernel
theorem dX6_goesIn_31 : decode cX6_goesIn 31 = .ok (.aload_n 2, 1) := by decide +kernel
theorem dX6_goesIn_32 : decode cX6_goesIn 32 = .ok (.getfield 98, 3) := by decide +kernel
theorem dX6_goesIn_35 : decode cX6_goesIn 35 = .ok (.iload_n 1, 1) := by decide +kernel
theorem dX6_goesIn_36 : decode cX6_goesIn 36 = .ok (.iaload, 1) := by decide +kernel
theorem dX6_goesIn_37 : decode cX6_goesIn 37 = .ok (.iconst 1, 1) := by decide +kernel
theorem dX6_goesIn_38 : decode cX6_goesIn 38 = .ok (.if_icmp .ne 5, 3) := by decide +kernel
theorem dX6_goesIn_41 : decode cX6_goesIn 41 = .ok (.iconst 0, 1) := by decide +kernel
theorem dX6_goesIn_42 : decode cX6_goesIn 42 = .ok (.ireturn, 1) := by decide +kernel
theorem dX6_goesIn_43 : decode cX6_goesIn 43 = .ok (.aload_n 0, 1) := by decide +kernel
theorem dX6_goesIn_44 : decode cX6_goesIn 44 = .ok (.getfield 10, 3) := by decide +kernel
theorem dX6_goesIn_47 : decode cX6_goesIn 47 = .ok (.iload_n 1, 1) := by decide +kernel
theorem dX6_goesIn_48 : decode cX6_goesIn 48 = .ok (.aload_n 0, 1) := by decide +kernel
theorem dX6_goesIn_49 : decode cX6_goesIn 49 = .ok (.getfield 10, 3) := by decide +kernel
theorem dX6_goesIn_52 : decode cX6_goesIn 52 = .ok (.getfield 174, 3) := by decide +kernel
theorem dX6_goesIn_55 : decode cX6_goesIn 55 = .ok (.iconst 0, 1) := by decide +kernel
theorem dX6_goesIn_56 : decode cX6_goesIn 56 = .ok (.iaload, 1) := by decide +kernel
theorem dX6_goesIn_57 : decode cX6_goesIn 57 = .ok (.sipush 1200, 3) := by decide +kernel
theorem dX6_goesIn_60 : decode cX6_goesIn 60 = .ok (.invokevirtual 190, 3) := by decide +kernel
theorem dX6_goesIn_63 : decode cX6_goesIn 63 = .ok (.ireturn, 1) := by decide +kernel
set_option maxRecDepth 20000 in
theorem ggX6_bestPost_X0_sentWithin : GoodIn wsX6_bestPost wsX0_sentWithin := goodIn_r _ [6, 7, 8, 9, 10, 11, 12, 5, 13, 14, 15, 16, 17, 18, 19, 20, 21, 22, 23, 24, 25, 26, 27, 28, 29, 30, 31, 32, 33, 34, 35, 36, 37, 38, 39, 40, 41, 42, 43, 44, 45, 46, 47, 48, 54, 55, 56, 57, 58, 59, 60, 61, 62, 63, 64, 65, 66, 67, 68, 69] (by decide +kernel) (by decide +kernel)
set_option maxRecDepth 20000 in
theorem gX6_bestPost_X0_sentWithin : GoodIn wsX6_bestPost (wsV RX6 193 RX0 yX0_sentWithin wsX0_sentWithin) := goodIn_app (goodIn_of _ (by decide +kernel)) ggX6_bestPost_X0_sentWithin
theorem dX6_bestPost_0 : decode cX6_bestPost 0 = .ok (.iload_n 1, 1) := by decide +kernel
theorem dX6_bestPost_1 : decode cX6_bestPost 1 = .ok (.iconst 1, 1) := by decide +kernel
theorem dX6_bestPost_2 : decode cX6_bestPost 2 = .ok (.if_icmp .lt 18, 3) := by decide +kernel
theorem dX6_bestPost_5 : decode cX6_bestPost 5 = .ok (.iload_n 1, 1) := by decide +kernel
theorem dX6_bestPost_6 : decode cX6_bestPost 6 = .ok (.bipush 20, 2) := by decide +kernel
theorem dX6_bestPost_8 : decode cX6_bestPost 8 = .ok (.if_icmp .gt 12, 3) := by decide +kernel
theorem dX6_bestPost_11 : decode cX6_bestPost 11 = .ok (.iload_n 2, 1) := by decide +kernel
theorem dX6_bestPost_12 : decode cX6_bestPost 12 = .ok (.ifCond .lt 8, 3) := by decide +kernel
theorem dX6_bestPost_15 : decode cX6_bestPost 15 = .ok (.iload_n 2, 1) := by decide +kernel
theorem dX6_bestPost_16 : decode cX6_bestPost 16 = .ok (.iconst 1, 1) := by decide +kernel
theorem dX6_bestPost_17 : decode cX6_bestPost 17 = .ok (.if_icmp .le 6, 3) := by decide +kernel
theorem dX6_bestPost_20 : decode cX6_bestPost 20 = .ok (.bipush (-2), 2) := by decide +kernel
theorem dX6_bestPost_22 : decode cX6_bestPost 22 = .ok (.ireturn, 1) := by decide +kernel
theorem dX6_bestPost_23 : decode cX6_bestPost 23 = .ok (.iconst 0, 1) := by decide +kernel
theorem dX6_bestPost_24 : decode cX6_bestPost 24 = .ok (.istore_n 3, 1) := by decide +kernel
theorem dX6_bestPost_25 : decode cX6_bestPost 25 = .ok (.iconst 0, 1) := by decide +kernel
theorem dX6_bestPost_26 : decode cX6_bestPost 26 = .ok (.istore 4, 2) := by decide +kernel
theorem dX6_bestPost_28 : decode cX6_bestPost 28 = .ok (.iconst 0, 1) := by decide +kernel
theorem dX6_bestPost_29 : decode cX6_bestPost 29 = .ok (.istore 5, 2) := by decide +kernel
theorem dX6_bestPost_31 : decode cX6_bestPost 31 = .ok (.iload 5, 2) := by decide +kernel
theorem dX6_bestPost_33 : decode cX6_bestPost 33 = .ok (.bipush 24, 2) := by decide +kernel
theorem dX6_bestPost_35 : decode cX6_bestPost 35 = .ok (.if_icmp .ge 38, 3) := by decide +kernel
theorem dX6_bestPost_38 : decode cX6_bestPost 38 = .ok (.aload_n 0, 1) := by decide +kernel
theorem dX6_bestPost_39 : decode cX6_bestPost 39 = .ok (.getfield 10, 3) := by decide +kernel
theorem dX6_bestPost_42 : decode cX6_bestPost 42 = .ok (.iload 5, 2) := by decide +kernel
theorem dX6_bestPost_44 : decode cX6_bestPost 44 = .ok (.iload_n 1, 1) := by decide +kernel
theorem dX6_bestPost_45 : decode cX6_bestPost 45 = .ok (.bipush 24, 2) := by decide +kernel
theorem dX6_bestPost_47 : decode cX6_bestPost 47 = .ok (.imul, 1) := by decide +kernel
theorem dX6_bestPost_48 : decode cX6_bestPost 48 = .ok (.invokevirtual 193, 3) := by decide +kernel
theorem dX6_bestPost_51 : decode cX6_bestPost 51 = .ok (.istore 6, 2) := by decide +kernel
theorem dX6_bestPost_53 : decode cX6_bestPost 53 = .ok (.iload 6, 2) := by decide +kernel
theorem dX6_bestPost_55 : decode cX6_bestPost 55 = .ok (.iload 4, 2) := by decide +kernel
theorem dX6_bestPost_57 : decode cX6_bestPost 57 = .ok (.if_icmp .le 10, 3) := by decide +kernel
theorem dX6_bestPost_60 : decode cX6_bestPost 60 = .ok (.iload 5, 2) := by decide +kernel
theorem dX6_bestPost_62 : decode cX6_bestPost 62 = .ok (.istore_n 3, 1) := by decide +kernel
theorem dX6_bestPost_63 : decode cX6_bestPost 63 = .ok (.iload 6, 2) := by decide +kernel
theorem dX6_bestPost_65 : decode cX6_bestPost 65 = .ok (.istore 4, 2) := by decide +kernel
theorem dX6_bestPost_67 : decode cX6_bestPost 67 = .ok (.iinc 5 1, 3) := by decide +kernel
theorem dX6_bestPost_70 : decode cX6_bestPost 70 = .ok (.goto (-39), 3) := by decide +kernel
theorem dX6_bestPost_73 : decode cX6_bestPost 73 = .ok (.iload_n 2, 1) := by decide +kernel
theorem dX6_bestPost_74 : decode cX6_bestPost 74 = .ok (.ifCond .ne 7, 3) := by decide +kernel
theorem dX6_bestPost_77 : decode cX6_bestPost 77 = .ok (.iload_n 3, 1) := by decide +kernel
theorem dX6_bestPost_78 : decode cX6_bestPost 78 = .ok (.goto 5, 3) := by decide +kernel
theorem dX6_bestPost_81 : decode cX6_bestPost 81 = .ok (.iload 4, 2) := by decide +kernel
theorem dX6_bestPost_83 : decode cX6_bestPost 83 = .ok (.ireturn, 1) := by decide +kernel
set_option maxRecDepth 20000 in
theorem ggX6_mostRegretted_X5_greatest : GoodIn wsX6_mostRegretted wsX5_greatest := goodIn_r _ [7, 8, 9, 10, 11, 12, 13, 14, 6, 15, 16, 17, 18, 19, 20, 21, 22, 23, 24, 25, 26, 27, 28, 29, 30, 31, 32, 33, 34, 35, 36, 37, 38, 39, 40, 41, 42, 43, 49, 50, 51, 52, 53, 54, 55, 56, 57, 58, 59, 60, 61] (by decide +kernel) (by decide +kernel)
set_option maxRecDepth 20000 in
theorem gX6_mostRegretted_X5_greatest : GoodIn wsX6_mostRegretted (wsV RX6 196 RX5 yX5_greatest wsX5_greatest) := goodIn_app (goodIn_of _ (by decide +kernel)) ggX6_mostRegretted_X5_greatest
theorem dX6_mostRegretted_0 : decode cX6_mostRegretted 0 = .ok (.aload_n 0, 1) := by decide +kernel
theorem dX6_mostRegretted_1 : decode cX6_mostRegretted 1 = .ok (.getfield 19, 3) := by decide +kernel
theorem dX6_mostRegretted_4 : decode cX6_mostRegretted 4 = .ok (.aload_n 0, 1) := by decide +kernel
theorem dX6_mostRegretted_5 : decode cX6_mostRegretted 5 = .ok (.getfield 10, 3) := by decide +kernel
theorem dX6_mostRegretted_8 : decode cX6_mostRegretted 8 = .ok (.invokevirtual 196, 3) := by decide +kernel
theorem dX6_mostRegretted_11 : decode cX6_mostRegretted 11 = .ok (.ireturn, 1) := by decide +kernel
set_option maxRecDepth 20000 in
theorem ggX6_ifSent_X3_isLetter : GoodIn wsX6_ifSent wsX3_isLetter := goodIn_r _ [9, 10, 56, 57, 58, 59, 60, 61, 62, 63] (by decide +kernel) (by decide +kernel)
set_option maxRecDepth 20000 in
theorem gX6_ifSent_X3_isLetter : GoodIn wsX6_ifSent (wsV RX6 79 RX3 yX3_isLetter wsX3_isLetter) := goodIn_app (goodIn_of _ (by decide +kernel)) ggX6_ifSent_X3_isLetter
set_option maxRecDepth 20000 in
theorem ggX6_ifSent_X5_withSent : GoodIn wsX6_ifSent wsX5_withSent := goodIn_r _ [15, 16, 17, 18, 19, 14, 20, 21, 22, 23, 24, 25, 26, 27, 28, 29, 30, 31, 32, 33, 34, 35, 36, 37, 38, 39, 40, 41, 42, 43, 44, 45, 46, 6, 7, 8, 9, 10, 64, 52, 53, 54, 55, 56, 57, 58, 59, 60, 61, 62, 63] (by decide +kernel) (by decide +kernel)
set_option maxRecDepth 20000 in
theorem gX6_ifSent_X5_withSent : GoodIn wsX6_ifSent (wsV RX6 200 RX5 yX5_withSent wsX5_withSent) := goodIn_app (goodIn_of _ (by decide +kernel)) ggX6_ifSent_X5_withSent
theorem dX6_ifSent_0 : decode cX6_ifSent 0 = .ok (.aload_n 0, 1) := by decide +kernel
theorem dX6_ifSent_1 : decode cX6_ifSent 1 = .ok (.getfield 10, 3) := by decide +kernel
theorem dX6_ifSent_4 : decode cX6_ifSent 4 = .ok (.getfield 75, 3) := by decide +kernel
theorem dX6_ifSent_7 : decode cX6_ifSent 7 = .ok (.astore_n 3, 1) := by decide +kernel
theorem dX6_ifSent_8 : decode cX6_ifSent 8 = .ok (.aload_n 3, 1) := by decide +kernel
theorem dX6_ifSent_9 : decode cX6_ifSent 9 = .ok (.iload_n 1, 1) := by decide +kernel
theorem dX6_ifSent_10 : decode cX6_ifSent 10 = .ok (.invokevirtual 79, 3) := by decide +kernel
theorem dX6_ifSent_13 : decode cX6_ifSent 13 = .ok (.ifCond .eq 11, 3) := by decide +kernel
theorem dX6_ifSent_16 : decode cX6_ifSent 16 = .ok (.aload_n 3, 1) := by decide +kernel
theorem dX6_ifSent_17 : decode cX6_ifSent 17 = .ok (.iload_n 2, 1) := by decide +kernel
theorem dX6_ifSent_18 : decode cX6_ifSent 18 = .ok (.invokevirtual 79, 3) := by decide +kernel
theorem dX6_ifSent_21 : decode cX6_ifSent 21 = .ok (.ifCond .ne 5, 3) := by decide +kernel
theorem dX6_ifSent_24 : decode cX6_ifSent 24 = .ok (.iconst (-1), 1) := by decide +kernel
theorem dX6_ifSent_25 : decode cX6_ifSent 25 = .ok (.ireturn, 1) := by decide +kernel
theorem dX6_ifSent_26 : decode cX6_ifSent 26 = .ok (.aload_n 3, 1) := by decide +kernel
theorem dX6_ifSent_27 : decode cX6_ifSent 27 = .ok (.getfield 98, 3) := by decide +kernel
theorem dX6_ifSent_30 : decode cX6_ifSent 30 = .ok (.iload_n 1, 1) := by decide +kernel
theorem dX6_ifSent_31 : decode cX6_ifSent 31 = .ok (.iaload, 1) := by decide +kernel
theorem dX6_ifSent_32 : decode cX6_ifSent 32 = .ok (.iconst 1, 1) := by decide +kernel
theorem dX6_ifSent_33 : decode cX6_ifSent 33 = .ok (.if_icmp .ne 12, 3) := by decide +kernel
theorem dX6_ifSent_36 : decode cX6_ifSent 36 = .ok (.aload_n 3, 1) := by decide +kernel
theorem dX6_ifSent_37 : decode cX6_ifSent 37 = .ok (.getfield 98, 3) := by decide +kernel
theorem dX6_ifSent_40 : decode cX6_ifSent 40 = .ok (.iload_n 2, 1) := by decide +kernel
theorem dX6_ifSent_41 : decode cX6_ifSent 41 = .ok (.iaload, 1) := by decide +kernel
theorem dX6_ifSent_42 : decode cX6_ifSent 42 = .ok (.ifCond .eq 6, 3) := by decide +kernel
theorem dX6_ifSent_45 : decode cX6_ifSent 45 = .ok (.bipush (-5), 2) := by decide +kernel
theorem dX6_ifSent_47 : decode cX6_ifSent 47 = .ok (.ireturn, 1) := by decide +kernel
theorem dX6_ifSent_48 : decode cX6_ifSent 48 = .ok (.aload_n 0, 1) := by decide +kernel
theorem dX6_ifSent_49 : decode cX6_ifSent 49 = .ok (.getfield 19, 3) := by decide +kernel
theorem dX6_ifSent_52 : decode cX6_ifSent 52 = .ok (.aload_n 0, 1) := by decide +kernel
theorem dX6_ifSent_53 : decode cX6_ifSent 53 = .ok (.getfield 10, 3) := by decide +kernel
theorem dX6_ifSent_56 : decode cX6_ifSent 56 = .ok (.iload_n 1, 1) := by decide +kernel
theorem dX6_ifSent_57 : decode cX6_ifSent 57 = .ok (.iload_n 2, 1) := by decide +kernel
theorem dX6_ifSent_58 : decode cX6_ifSent 58 = .ok (.invokevirtual 200, 3) := by decide +kernel
theorem dX6_ifSent_61 : decode cX6_ifSent 61 = .ok (.ireturn, 1) := by decide +kernel
set_option maxRecDepth 20000 in
theorem ggX6_undo_X2_takeBack : GoodIn wsX6_undo wsX2_takeBack := goodIn_r _ [8, 9, 10, 11, 12, 13, 14, 15, 16, 17, 18, 19, 20, 21, 22, 23, 24, 25, 26, 27, 28, 29, 30, 31, 32, 33, 34, 35, 36, 37, 38, 39, 40, 41, 42, 43, 44, 45, 46, 47, 48, 49, 50, 51, 52, 58, 59, 60, 61, 62, 63, 64, 65, 66, 67, 68, 69, 70, 71, 72, 73, 74, 75] (by decide +kernel) (by decide +kernel)
set_option maxRecDepth 20000 in
theorem gX6_undo_X2_takeBack : GoodIn wsX6_undo (wsV RX6 219 RX2 yX2_takeBack wsX2_takeBack) := goodIn_app (goodIn_of _ (by decide +kernel)) ggX6_undo_X2_takeBack
theorem dX6_undo_0 : decode cX6_undo 0 = .ok (.aload_n 0, 1) := by decide +kernel
theorem dX6_undo_1 : decode cX6_undo 1 = .ok (.getfield 33, 3) := by decide +kernel
theorem dX6_undo_4 : decode cX6_undo 4 = .ok (.aload_n 0, 1) := by decide +kernel
theorem dX6_undo_5 : decode cX6_undo 5 = .ok (.getfield 10, 3) := by decide +kernel
theorem dX6_undo_8 : decode cX6_undo 8 = .ok (.invokevirtual 219, 3) := by decide +kernel
theorem dX6_undo_11 : decode cX6_undo 11 = .ok (.ifCond .eq 13, 3) := by decide +kernel
theorem dX6_undo_14 : decode cX6_undo 14 = .ok (.aload_n 0, 1) := by decide +kernel
theorem dX6_undo_15 : decode cX6_undo 15 = .ok (.getfield 33, 3) := by decide +kernel
theorem dX6_undo_18 : decode cX6_undo 18 = .ok (.getfield 180, 3) := by decide +kernel
theorem dX6_undo_21 : decode cX6_undo 21 = .ok (.goto 5, 3) := by decide +kernel
theorem dX6_undo_24 : decode cX6_undo 24 = .ok (.bipush (-5), 2) := by decide +kernel
theorem dX6_undo_26 : decode cX6_undo 26 = .ok (.ireturn, 1) := by decide +kernel
theorem dX6_isMood_0 : decode cX6_isMood 0 = .ok (.iload_n 0, 1) := by decide +kernel
theorem dX6_isMood_1 : decode cX6_isMood 1 = .ok (.ifCond .lt 13, 3) := by decide +kernel
theorem dX6_isMood_4 : decode cX6_isMood 4 = .ok (.iload_n 0, 1) := by decide +kernel
theorem dX6_isMood_5 : decode cX6_isMood 5 = .ok (.bipush 6, 2) := by decide +kernel
theorem dX6_isMood_7 : decode cX6_isMood 7 = .ok (.if_icmp .ge 7, 3) := by decide +kernel
theorem dX6_isMood_10 : decode cX6_isMood 10 = .ok (.iconst 1, 1) := by decide +kernel
theorem dX6_isMood_11 : decode cX6_isMood 11 = .ok (.goto 4, 3) := by decide +kernel
theorem dX6_isMood_14 : decode cX6_isMood 14 = .ok (.iconst 0, 1) := by decide +kernel
theorem dX6_isMood_15 : decode cX6_isMood 15 = .ok (.ireturn, 1) := by decide +kernel
theorem dX6_isHour_0 : decode cX6_isHour 0 = .ok (.iload_n 0, 1) := by decide +kernel
theorem dX6_isHour_1 : decode cX6_isHour 1 = .ok (.ifCond .lt 13, 3) := by decide +kernel
theorem dX6_isHour_4 : decode cX6_isHour 4 = .ok (.iload_n 0, 1) := by decide +kernel
theorem dX6_isHour_5 : decode cX6_isHour 5 = .ok (.bipush 24, 2) := by decide +kernel
theorem dX6_isHour_7 : decode cX6_isHour 7 = .ok (.if_icmp .ge 7, 3) := by decide +kernel
theorem dX6_isHour_10 : decode cX6_isHour 10 = .ok (.iconst 1, 1) := by decide +kernel
theorem dX6_isHour_11 : decode cX6_isHour 11 = .ok (.goto 4, 3) := by decide +kernel
theorem dX6_isHour_14 : decode cX6_isHour 14 = .ok (.iconst 0, 1) := by decide +kernel
theorem dX6_isHour_15 : decode cX6_isHour 15 = .ok (.ireturn, 1) := by decide +kernel
theorem dX6_copy_0 : decode cX6_copy 0 = .ok (.aload_n 0, 1) := by decide +kernel
theorem dX6_copy_1 : decode cX6_copy 1 = .ok (.iconst 0, 1) := by decide +kernel
theorem dX6_copy_2 : decode cX6_copy 2 = .ok (.aload_n 1, 1) := by decide +kernel
theorem dX6_copy_3 : decode cX6_copy 3 = .ok (.iconst 0, 1) := by decide +kernel
theorem dX6_copy_4 : decode cX6_copy 4 = .ok (.aload_n 0, 1) := by decide +kernel
theorem dX6_copy_5 : decode cX6_copy 5 = .ok (.arraylength, 1) := by decide +kernel
theorem dX6_copy_6 : decode cX6_copy 6 = .ok (.aload_n 1, 1) := by decide +kernel
theorem dX6_copy_7 : decode cX6_copy 7 = .ok (.arraylength, 1) := by decide +kernel
theorem dX6_copy_8 : decode cX6_copy 8 = .ok (.invokestatic 251, 3) := by decide +kernel
theorem dX6_copy_11 : decode cX6_copy 11 = .ok (.invokestatic 256, 3) := by decide +kernel
theorem dX6_copy_14 : decode cX6_copy 14 = .ok (.return_, 1) := by decide +kernel
theorem dX6_bitsOf_0 : decode cX6_bitsOf 0 = .ok (.dload_n 0, 1) := by decide +kernel
theorem dX6_bitsOf_1 : decode cX6_bitsOf 1 = .ok (.dconst 0, 1) := by decide +kernel
theorem dX6_bitsOf_2 : decode cX6_bitsOf 2 = .ok (.dcmp .g, 1) := by decide +kernel
theorem dX6_bitsOf_3 : decode cX6_bitsOf 3 = .ok (.ifCond .gt 5, 3) := by decide +kernel
theorem dX6_bitsOf_6 : decode cX6_bitsOf 6 = .ok (.lconst 0, 1) := by decide +kernel
theorem dX6_bitsOf_7 : decode cX6_bitsOf 7 = .ok (.lreturn, 1) := by decide +kernel
theorem dX6_bitsOf_8 : decode cX6_bitsOf 8 = .ok (.iconst 0, 1) := by decide +kernel
theorem dX6_bitsOf_9 : decode cX6_bitsOf 9 = .ok (.istore 4, 2) := by decide +kernel
theorem dX6_bitsOf_11 : decode cX6_bitsOf 11 = .ok (.dload_n 0, 1) := by decide +kernel
theorem dX6_bitsOf_12 : decode cX6_bitsOf 12 = .ok (.dstore 5, 2) := by decide +kernel
theorem dX6_bitsOf_14 : decode cX6_bitsOf 14 = .ok (.dload 5, 2) := by decide +kernel
theorem dX6_bitsOf_16 : decode cX6_bitsOf 16 = .ok (.ldc2_w 266, 3) := by decide +kernel
theorem dX6_bitsOf_19 : decode cX6_bitsOf 19 = .ok (.dcmp .l, 1) := by decide +kernel
theorem dX6_bitsOf_20 : decode cX6_bitsOf 20 = .ok (.ifCond .lt 23, 3) := by decide +kernel
theorem dX6_bitsOf_23 : decode cX6_bitsOf 23 = .ok (.iload 4, 2) := by decide +kernel
theorem dX6_bitsOf_25 : decode cX6_bitsOf 25 = .ok (.iload_n 2, 1) := by decide +kernel
theorem dX6_bitsOf_26 : decode cX6_bitsOf 26 = .ok (.if_icmp .ge 17, 3) := by decide +kernel
theorem dX6_bitsOf_29 : decode cX6_bitsOf 29 = .ok (.dload 5, 2) := by decide +kernel
theorem dX6_bitsOf_31 : decode cX6_bitsOf 31 = .ok (.ldc2_w 266, 3) := by decide +kernel
theorem dX6_bitsOf_34 : decode cX6_bitsOf 34 = .ok (.ddiv, 1) := by decide +kernel
theorem dX6_bitsOf_35 : decode cX6_bitsOf 35 = .ok (.dstore 5, 2) := by decide +kernel
theorem dX6_bitsOf_37 : decode cX6_bitsOf 37 = .ok (.iinc 4 1, 3) := by decide +kernel
theorem dX6_bitsOf_40 : decode cX6_bitsOf 40 = .ok (.goto (-26), 3) := by decide +kernel
theorem dX6_bitsOf_43 : decode cX6_bitsOf 43 = .ok (.dload 5, 2) := by decide +kernel
theorem dX6_bitsOf_45 : decode cX6_bitsOf 45 = .ok (.dconst 1, 1) := by decide +kernel
theorem dX6_bitsOf_46 : decode cX6_bitsOf 46 = .ok (.dcmp .g, 1) := by decide +kernel
theorem dX6_bitsOf_47 : decode cX6_bitsOf 47 = .ok (.ifCond .ge 25, 3) := by decide +kernel
theorem dX6_bitsOf_50 : decode cX6_bitsOf 50 = .ok (.iload 4, 2) := by decide +kernel
theorem dX6_bitsOf_52 : decode cX6_bitsOf 52 = .ok (.iconst 1, 1) := by decide +kernel
theorem dX6_bitsOf_53 : decode cX6_bitsOf 53 = .ok (.iload_n 2, 1) := by decide +kernel
theorem dX6_bitsOf_54 : decode cX6_bitsOf 54 = .ok (.isub, 1) := by decide +kernel
theorem dX6_bitsOf_55 : decode cX6_bitsOf 55 = .ok (.if_icmp .le 17, 3) := by decide +kernel
theorem dX6_bitsOf_58 : decode cX6_bitsOf 58 = .ok (.dload 5, 2) := by decide +kernel
theorem dX6_bitsOf_60 : decode cX6_bitsOf 60 = .ok (.ldc2_w 266, 3) := by decide +kernel
theorem dX6_bitsOf_63 : decode cX6_bitsOf 63 = .ok (.dmul, 1) := by decide +kernel
theorem dX6_bitsOf_64 : decode cX6_bitsOf 64 = .ok (.dstore 5, 2) := by decide +kernel
theorem dX6_bitsOf_66 : decode cX6_bitsOf 66 = .ok (.iinc 4 (-1), 3) := by decide +kernel
theorem dX6_bitsOf_69 : decode cX6_bitsOf 69 = .ok (.goto (-26), 3) := by decide +kernel
theorem dX6_bitsOf_72 : decode cX6_bitsOf 72 = .ok (.dload 5, 2) := by decide +kernel
theorem dX6_bitsOf_74 : decode cX6_bitsOf 74 = .ok (.dconst 1, 1) := by decide +kernel
theorem dX6_bitsOf_75 : decode cX6_bitsOf 75 = .ok (.dsub, 1) := by decide +kernel
theorem dX6_bitsOf_76 : decode cX6_bitsOf 76 = .ok (.lconst 1, 1) := by decide +kernel
theorem dX6_bitsOf_77 : decode cX6_bitsOf 77 = .ok (.iload_n 3, 1) := by decide +kernel
theorem dX6_bitsOf_78 : decode cX6_bitsOf 78 = .ok (.lshl, 1) := by decide +kernel
theorem dX6_bitsOf_79 : decode cX6_bitsOf 79 = .ok (.l2d, 1) := by decide +kernel
theorem dX6_bitsOf_80 : decode cX6_bitsOf 80 = .ok (.dmul, 1) := by decide +kernel
theorem dX6_bitsOf_81 : decode cX6_bitsOf 81 = .ok (.d2l, 1) := by decide +kernel
theorem dX6_bitsOf_82 : decode cX6_bitsOf 82 = .ok (.lstore 7, 2) := by decide +kernel
theorem dX6_bitsOf_84 : decode cX6_bitsOf 84 = .ok (.iload 4, 2) := by decide +kernel
theorem dX6_bitsOf_86 : decode cX6_bitsOf 86 = .ok (.iload_n 2, 1) := by decide +kernel
theorem dX6_bitsOf_87 : decode cX6_bitsOf 87 = .ok (.iadd, 1) := by decide +kernel
theorem dX6_bitsOf_88 : decode cX6_bitsOf 88 = .ok (.i2l, 1) := by decide +kernel
theorem dX6_bitsOf_89 : decode cX6_bitsOf 89 = .ok (.iload_n 3, 1) := by decide +kernel
theorem dX6_bitsOf_90 : decode cX6_bitsOf 90 = .ok (.lshl, 1) := by decide +kernel
theorem dX6_bitsOf_91 : decode cX6_bitsOf 91 = .ok (.lload 7, 2) := by decide +kernel
theorem dX6_bitsOf_93 : decode cX6_bitsOf 93 = .ok (.ladd, 1) := by decide +kernel
theorem dX6_bitsOf_94 : decode cX6_bitsOf 94 = .ok (.lreturn, 1) := by decide +kernel
theorem dJ13_bitCount_95d88_0 : decode cJ13_bitCount_95d88 0 = .ok (.lload_n 0, 1) := by decide +kernel
theorem dJ13_bitCount_95d88_1 : decode cJ13_bitCount_95d88 1 = .ok (.lload_n 0, 1) := by decide +kernel
theorem dJ13_bitCount_95d88_2 : decode cJ13_bitCount_95d88 2 = .ok (.iconst 1, 1) := by decide +kernel
theorem dJ13_bitCount_95d88_3 : decode cJ13_bitCount_95d88 3 = .ok (.lushr, 1) := by decide +kernel
theorem dJ13_bitCount_95d88_4 : decode cJ13_bitCount_95d88 4 = .ok (.ldc2_w 314, 3) := by decide +kernel
theorem dJ13_bitCount_95d88_7 : decode cJ13_bitCount_95d88 7 = .ok (.land, 1) := by decide +kernel
theorem dJ13_bitCount_95d88_8 : decode cJ13_bitCount_95d88 8 = .ok (.lsub, 1) := by decide +kernel
theorem dJ13_bitCount_95d88_9 : decode cJ13_bitCount_95d88 9 = .ok (.lstore_n 0, 1) := by decide +kernel
theorem dJ13_bitCount_95d88_10 : decode cJ13_bitCount_95d88 10 = .ok (.lload_n 0, 1) := by decide +kernel
theorem dJ13_bitCount_95d88_11 : decode cJ13_bitCount_95d88 11 = .ok (.ldc2_w 316, 3) := by decide +kernel
theorem dJ13_bitCount_95d88_14 : decode cJ13_bitCount_95d88 14 = .ok (.land, 1) := by decide +kernel
theorem dJ13_bitCount_95d88_15 : decode cJ13_bitCount_95d88 15 = .ok (.lload_n 0, 1) := by decide +kernel
theorem dJ13_bitCount_95d88_16 : decode cJ13_bitCount_95d88 16 = .ok (.iconst 2, 1) := by decide +kernel
theorem dJ13_bitCount_95d88_17 : decode cJ13_bitCount_95d88 17 = .ok (.lushr, 1) := by decide +kernel
theorem dJ13_bitCount_95d88_18 : decode cJ13_bitCount_95d88 18 = .ok (.ldc2_w 316, 3) := by decide +kernel
theorem dJ13_bitCount_95d88_21 : decode cJ13_bitCount_95d88 21 = .ok (.land, 1) := by decide +kernel
theorem dJ13_bitCount_95d88_22 : decode cJ13_bitCount_95d88 22 = .ok (.ladd, 1) := by decide +kernel
theorem dJ13_bitCount_95d88_23 : decode cJ13_bitCount_95d88 23 = .ok (.lstore_n 0, 1) := by decide +kernel
theorem dJ13_bitCount_95d88_24 : decode cJ13_bitCount_95d88 24 = .ok (.lload_n 0, 1) := by decide +kernel
theorem dJ13_bitCount_95d88_25 : decode cJ13_bitCount_95d88 25 = .ok (.lload_n 0, 1) := by decide +kernel
theorem dJ13_bitCount_95d88_26 : decode cJ13_bitCount_95d88 26 = .ok (.iconst 4, 1) := by decide +kernel
theorem dJ13_bitCount_95d88_27 : decode cJ13_bitCount_95d88 27 = .ok (.lushr, 1) := by decide +kernel
theorem dJ13_bitCount_95d88_28 : decode cJ13_bitCount_95d88 28 = .ok (.ladd, 1) := by decide +kernel
theorem dJ13_bitCount_95d88_29 : decode cJ13_bitCount_95d88 29 = .ok (.ldc2_w 318, 3) := by decide +kernel
theorem dJ13_bitCount_95d88_32 : decode cJ13_bitCount_95d88 32 = .ok (.land, 1) := by decide +kernel
theorem dJ13_bitCount_95d88_33 : decode cJ13_bitCount_95d88 33 = .ok (.lstore_n 0, 1) := by decide +kernel
theorem dJ13_bitCount_95d88_34 : decode cJ13_bitCount_95d88 34 = .ok (.lload_n 0, 1) := by decide +kernel
theorem dJ13_bitCount_95d88_35 : decode cJ13_bitCount_95d88 35 = .ok (.lload_n 0, 1) := by decide +kernel
theorem dJ13_bitCount_95d88_36 : decode cJ13_bitCount_95d88 36 = .ok (.bipush 8, 2) := by decide +kernel
theorem dJ13_bitCount_95d88_38 : decode cJ13_bitCount_95d88 38 = .ok (.lushr, 1) := by decide +kernel
theorem dJ13_bitCount_95d88_39 : decode cJ13_bitCount_95d88 39 = .ok (.ladd, 1) := by decide +kernel
theorem dJ13_bitCount_95d88_40 : decode cJ13_bitCount_95d88 40 = .ok (.lstore_n 0, 1) := by decide +kernel
theorem dJ13_bitCount_95d88_41 : decode cJ13_bitCount_95d88 41 = .ok (.lload_n 0, 1) := by decide +kernel
theorem dJ13_bitCount_95d88_42 : decode cJ13_bitCount_95d88 42 = .ok (.lload_n 0, 1) := by decide +kernel
theorem dJ13_bitCount_95d88_43 : decode cJ13_bitCount_95d88 43 = .ok (.bipush 16, 2) := by decide +kernel
theorem dJ13_bitCount_95d88_45 : decode cJ13_bitCount_95d88 45 = .ok (.lushr, 1) := by decide +kernel
theorem dJ13_bitCount_95d88_46 : decode cJ13_bitCount_95d88 46 = .ok (.ladd, 1) := by decide +kernel
theorem dJ13_bitCount_95d88_47 : decode cJ13_bitCount_95d88 47 = .ok (.lstore_n 0, 1) := by decide +kernel
theorem dJ13_bitCount_95d88_48 : decode cJ13_bitCount_95d88 48 = .ok (.lload_n 0, 1) := by decide +kernel
theorem dJ13_bitCount_95d88_49 : decode cJ13_bitCount_95d88 49 = .ok (.lload_n 0, 1) := by decide +kernel
theorem dJ13_bitCount_95d88_50 : decode cJ13_bitCount_95d88 50 = .ok (.bipush 32, 2) := by decide +kernel
theorem dJ13_bitCount_95d88_52 : decode cJ13_bitCount_95d88 52 = .ok (.lushr, 1) := by decide +kernel
theorem dJ13_bitCount_95d88_53 : decode cJ13_bitCount_95d88 53 = .ok (.ladd, 1) := by decide +kernel
theorem dJ13_bitCount_95d88_54 : decode cJ13_bitCount_95d88 54 = .ok (.lstore_n 0, 1) := by decide +kernel
theorem dJ13_bitCount_95d88_55 : decode cJ13_bitCount_95d88 55 = .ok (.lload_n 0, 1) := by decide +kernel
theorem dJ13_bitCount_95d88_56 : decode cJ13_bitCount_95d88 56 = .ok (.l2i, 1) := by decide +kernel
theorem dJ13_bitCount_95d88_57 : decode cJ13_bitCount_95d88 57 = .ok (.bipush 127, 2) := by decide +kernel
theorem dJ13_bitCount_95d88_59 : decode cJ13_bitCount_95d88 59 = .ok (.iand, 1) := by decide +kernel
theorem dJ13_bitCount_95d88_60 : decode cJ13_bitCount_95d88 60 = .ok (.ireturn, 1) := by decide +kernel
theorem dJ9_floorMod_7cf53_0 : decode cJ9_floorMod_7cf53 0 = .ok (.iload_n 0, 1) := by decide +kernel
theorem dJ9_floorMod_7cf53_1 : decode cJ9_floorMod_7cf53 1 = .ok (.iload_n 1, 1) := by decide +kernel
theorem dJ9_floorMod_7cf53_2 : decode cJ9_floorMod_7cf53 2 = .ok (.irem, 1) := by decide +kernel
theorem dJ9_floorMod_7cf53_3 : decode cJ9_floorMod_7cf53 3 = .ok (.istore_n 2, 1) := by decide +kernel
theorem dJ9_floorMod_7cf53_4 : decode cJ9_floorMod_7cf53 4 = .ok (.iload_n 0, 1) := by decide +kernel
theorem dJ9_floorMod_7cf53_5 : decode cJ9_floorMod_7cf53 5 = .ok (.iload_n 1, 1) := by decide +kernel
theorem dJ9_floorMod_7cf53_6 : decode cJ9_floorMod_7cf53 6 = .ok (.ixor, 1) := by decide +kernel
theorem dJ9_floorMod_7cf53_7 : decode cJ9_floorMod_7cf53 7 = .ok (.ifCond .ge 11, 3) := by decide +kernel
theorem dJ9_floorMod_7cf53_10 : decode cJ9_floorMod_7cf53 10 = .ok (.iload_n 2, 1) := by decide +kernel
theorem dJ9_floorMod_7cf53_11 : decode cJ9_floorMod_7cf53 11 = .ok (.ifCond .eq 7, 3) := by decide +kernel
theorem dJ9_floorMod_7cf53_14 : decode cJ9_floorMod_7cf53 14 = .ok (.iload_n 2, 1) := by decide +kernel
theorem dJ9_floorMod_7cf53_15 : decode cJ9_floorMod_7cf53 15 = .ok (.iload_n 1, 1) := by decide +kernel
theorem dJ9_floorMod_7cf53_16 : decode cJ9_floorMod_7cf53 16 = .ok (.iadd, 1) := by decide +kernel
theorem dJ9_floorMod_7cf53_17 : decode cJ9_floorMod_7cf53 17 = .ok (.ireturn, 1) := by decide +kernel
theorem dJ9_floorMod_7cf53_18 : decode cJ9_floorMod_7cf53 18 = .ok (.iload_n 2, 1) := by decide +kernel
theorem dJ9_floorMod_7cf53_19 : decode cJ9_floorMod_7cf53 19 = .ok (.ireturn, 1) := by decide +kernel
theorem dJ9_max_7cf53_0 : decode cJ9_max_7cf53 0 = .ok (.iload_n 0, 1) := by decide +kernel
theorem dJ9_max_7cf53_1 : decode cJ9_max_7cf53 1 = .ok (.iload_n 1, 1) := by decide +kernel
theorem dJ9_max_7cf53_2 : decode cJ9_max_7cf53 2 = .ok (.if_icmp .lt 7, 3) := by decide +kernel
theorem dJ9_max_7cf53_5 : decode cJ9_max_7cf53 5 = .ok (.iload_n 0, 1) := by decide +kernel
theorem dJ9_max_7cf53_6 : decode cJ9_max_7cf53 6 = .ok (.goto 4, 3) := by decide +kernel
theorem dJ9_max_7cf53_9 : decode cJ9_max_7cf53 9 = .ok (.iload_n 1, 1) := by decide +kernel
theorem dJ9_max_7cf53_10 : decode cJ9_max_7cf53 10 = .ok (.ireturn, 1) := by decide +kernel
theorem dJ9_min_7cf53_0 : decode cJ9_min_7cf53 0 = .ok (.iload_n 0, 1) := by decide +kernel
theorem dJ9_min_7cf53_1 : decode cJ9_min_7cf53 1 = .ok (.iload_n 1, 1) := by decide +kernel
theorem dJ9_min_7cf53_2 : decode cJ9_min_7cf53 2 = .ok (.if_icmp .gt 7, 3) := by decide +kernel
theorem dJ9_min_7cf53_5 : decode cJ9_min_7cf53 5 = .ok (.iload_n 0, 1) := by decide +kernel
theorem dJ9_min_7cf53_6 : decode cJ9_min_7cf53 6 = .ok (.goto 4, 3) := by decide +kernel
theorem dJ9_min_7cf53_9 : decode cJ9_min_7cf53 9 = .ok (.iload_n 1, 1) := by decide +kernel
theorem dJ9_min_7cf53_10 : decode cJ9_min_7cf53 10 = .ok (.ireturn, 1) := by decide +kernel
theorem dL_cell_0 : decode cL_cell 0 = .ok (.iload_n 1, 1) := by decide +kernel
theorem dL_cell_1 : decode cL_cell 1 = .ok (.aload_n 0, 1) := by decide +kernel
theorem dL_cell_2 : decode cL_cell 2 = .ok (.arraylength, 1) := by decide +kernel
theorem dL_cell_3 : decode cL_cell 3 = .ok (.if_icmp .ge 9, 3) := by decide +kernel
theorem dL_cell_6 : decode cL_cell 6 = .ok (.aload_n 0, 1) := by decide +kernel
theorem dL_cell_7 : decode cL_cell 7 = .ok (.iload_n 1, 1) := by decide +kernel
theorem dL_cell_8 : decode cL_cell 8 = .ok (.iaload, 1) := by decide +kernel
theorem dL_cell_9 : decode cL_cell 9 = .ok (.goto 15, 3) := by decide +kernel
theorem dL_cell_12 : decode cL_cell 12 = .ok (.sipush 7919, 3) := by decide +kernel
theorem dL_cell_15 : decode cL_cell 15 = .ok (.iload_n 1, 1) := by decide +kernel
theorem dL_cell_16 : decode cL_cell 16 = .ok (.iconst 3, 1) := by decide +kernel
theorem dL_cell_17 : decode cL_cell 17 = .ok (.iadd, 1) := by decide +kernel
theorem dL_cell_18 : decode cL_cell 18 = .ok (.imul, 1) := by decide +kernel
theorem dL_cell_19 : decode cL_cell 19 = .ok (.iload_n 1, 1) := by decide +kernel
theorem dL_cell_20 : decode cL_cell 20 = .ok (.bipush 11, 2) := by decide +kernel
theorem dL_cell_22 : decode cL_cell 22 = .ok (.iadd, 1) := by decide +kernel
theorem dL_cell_23 : decode cL_cell 23 = .ok (.imul, 1) := by decide +kernel
theorem dL_cell_24 : decode cL_cell 24 = .ok (.ireturn, 1) := by decide +kernel
theorem dL_low_0 : decode cL_low 0 = .ok (.iload_n 0, 1) := by decide +kernel
theorem dL_low_1 : decode cL_low 1 = .ok (.ldc 7, 2) := by decide +kernel
theorem dL_low_3 : decode cL_low 3 = .ok (.iand, 1) := by decide +kernel
theorem dL_low_4 : decode cL_low 4 = .ok (.iload_n 1, 1) := by decide +kernel
theorem dL_low_5 : decode cL_low 5 = .ok (.irem, 1) := by decide +kernel
theorem dL_low_6 : decode cL_low 6 = .ok (.ireturn, 1) := by decide +kernel
set_option maxRecDepth 20000 in
theorem ggL_sent_X6_count : GoodIn wsL_sent wsX6_count := goodIn_r _ [5, 6, 7, 8, 9, 10, 11, 12, 13, 14, 15, 16, 17, 18, 19, 20, 21, 22, 23, 24, 25, 26, 27, 28, 29, 30, 31, 32, 33, 34, 35, 36, 37, 38, 39, 40, 41, 42, 43, 44, 107, 108, 109, 110, 111, 112, 113, 114, 115, 116, 117, 118, 119, 120, 121, 122, 123, 124, 125, 126, 127, 128, 129, 130, 131, 132, 133, 134, 135, 136] (by decide +kernel) (by decide +kernel)
set_option maxRecDepth 20000 in
theorem gL_sent_X6_count : GoodIn wsL_sent (wsV RL 8 RX6 yX6_count wsX6_count) := goodIn_app (goodIn_of _ (by decide +kernel)) ggL_sent_X6_count
set_option maxRecDepth 20000 in
theorem ggL_sent_L_low : GoodIn wsL_sent wsL_low := goodIn_r _ [48, 49] (by decide +kernel) (by decide +kernel)
set_option maxRecDepth 20000 in
theorem gL_sent_L_low : GoodIn wsL_sent (va_wsS RL 14 yL_low wsL_low) := goodIn_app (goodIn_of _ (by decide +kernel)) ggL_sent_L_low
set_option maxRecDepth 20000 in
theorem ggL_sent_X6_ofLetter : GoodIn wsL_sent wsX6_ofLetter := goodIn_r _ [53, 6, 7, 54, 55, 56, 57, 58, 59, 60, 61, 62, 63, 28, 64, 30, 65, 66, 67, 18, 68, 69, 70, 71, 72, 73, 74, 75, 76, 77, 78, 79, 16, 17, 19, 20, 80, 81, 82, 83, 84, 85, 86, 87, 88, 89, 90, 91, 92, 93, 94, 95, 96, 97, 98, 99, 100, 101, 102, 103, 104, 105, 106, 107, 108, 109, 110, 111, 112, 113, 114, 115, 116, 117, 118, 119, 120, 121, 122, 123, 137] (by decide +kernel) (by decide +kernel)
set_option maxRecDepth 20000 in
theorem gL_sent_X6_ofLetter : GoodIn wsL_sent (wsV RL 20 RX6 yX6_ofLetter wsX6_ofLetter) := goodIn_app (goodIn_of _ (by decide +kernel)) ggL_sent_X6_ofLetter
theorem dL_sent_0 : decode cL_sent 0 = .ok (.aload_n 0, 1) := by decide +kernel
theorem dL_sent_1 : decode cL_sent 1 = .ok (.iconst 4, 1) := by decide +kernel
theorem dL_sent_2 : decode cL_sent 2 = .ok (.invokevirtual 8, 3) := by decide +kernel
theorem dL_sent_5 : decode cL_sent 5 = .ok (.ifCond .ne 7, 3) := by decide +kernel
theorem dL_sent_8 : decode cL_sent 8 = .ok (.iconst (-1), 1) := by decide +kernel
theorem dL_sent_9 : decode cL_sent 9 = .ok (.goto 12, 3) := by decide +kernel
theorem dL_sent_12 : decode cL_sent 12 = .ok (.iload_n 1, 1) := by decide +kernel
theorem dL_sent_13 : decode cL_sent 13 = .ok (.aload_n 0, 1) := by decide +kernel
theorem dL_sent_14 : decode cL_sent 14 = .ok (.iconst 4, 1) := by decide +kernel
theorem dL_sent_15 : decode cL_sent 15 = .ok (.invokevirtual 8, 3) := by decide +kernel
theorem dL_sent_18 : decode cL_sent 18 = .ok (.invokestatic 14, 3) := by decide +kernel
theorem dL_sent_21 : decode cL_sent 21 = .ok (.istore_n 2, 1) := by decide +kernel
theorem dL_sent_22 : decode cL_sent 22 = .ok (.iconst 0, 1) := by decide +kernel
theorem dL_sent_23 : decode cL_sent 23 = .ok (.istore_n 3, 1) := by decide +kernel
theorem dL_sent_24 : decode cL_sent 24 = .ok (.iload_n 3, 1) := by decide +kernel
theorem dL_sent_25 : decode cL_sent 25 = .ok (.aload_n 0, 1) := by decide +kernel
theorem dL_sent_26 : decode cL_sent 26 = .ok (.iconst 2, 1) := by decide +kernel
theorem dL_sent_27 : decode cL_sent 27 = .ok (.invokevirtual 8, 3) := by decide +kernel
theorem dL_sent_30 : decode cL_sent 30 = .ok (.if_icmp .ge 37, 3) := by decide +kernel
theorem dL_sent_33 : decode cL_sent 33 = .ok (.iload_n 2, 1) := by decide +kernel
theorem dL_sent_34 : decode cL_sent 34 = .ok (.ifCond .lt 33, 3) := by decide +kernel
theorem dL_sent_37 : decode cL_sent 37 = .ok (.iload_n 2, 1) := by decide +kernel
theorem dL_sent_38 : decode cL_sent 38 = .ok (.aload_n 0, 1) := by decide +kernel
theorem dL_sent_39 : decode cL_sent 39 = .ok (.iload_n 3, 1) := by decide +kernel
theorem dL_sent_40 : decode cL_sent 40 = .ok (.iconst 4, 1) := by decide +kernel
theorem dL_sent_41 : decode cL_sent 41 = .ok (.invokevirtual 20, 3) := by decide +kernel
theorem dL_sent_44 : decode cL_sent 44 = .ok (.iconst 1, 1) := by decide +kernel
theorem dL_sent_45 : decode cL_sent 45 = .ok (.if_icmp .ne 7, 3) := by decide +kernel
theorem dL_sent_48 : decode cL_sent 48 = .ok (.iconst 1, 1) := by decide +kernel
theorem dL_sent_49 : decode cL_sent 49 = .ok (.goto 4, 3) := by decide +kernel
theorem dL_sent_52 : decode cL_sent 52 = .ok (.iconst 0, 1) := by decide +kernel
theorem dL_sent_53 : decode cL_sent 53 = .ok (.isub, 1) := by decide +kernel
theorem dL_sent_54 : decode cL_sent 54 = .ok (.istore_n 2, 1) := by decide +kernel
theorem dL_sent_55 : decode cL_sent 55 = .ok (.iload_n 2, 1) := by decide +kernel
theorem dL_sent_56 : decode cL_sent 56 = .ok (.ifCond .ge 5, 3) := by decide +kernel
theorem dL_sent_59 : decode cL_sent 59 = .ok (.iload_n 3, 1) := by decide +kernel
theorem dL_sent_60 : decode cL_sent 60 = .ok (.ireturn, 1) := by decide +kernel
theorem dL_sent_61 : decode cL_sent 61 = .ok (.iinc 3 1, 3) := by decide +kernel
theorem dL_sent_64 : decode cL_sent 64 = .ok (.goto (-40), 3) := by decide +kernel
theorem dL_sent_67 : decode cL_sent 67 = .ok (.bipush (-6), 2) := by decide +kernel
theorem dL_sent_69 : decode cL_sent 69 = .ok (.ireturn, 1) := by decide +kernel
set_option maxRecDepth 20000 in
theorem ggL_does_L_low : GoodIn wsL_does wsL_low := goodIn_r _ [4, 5] (by decide +kernel) (by decide +kernel)
set_option maxRecDepth 20000 in
theorem gL_does_L_low : GoodIn wsL_does (va_wsS RL 14 yL_low wsL_low) := goodIn_app (goodIn_of _ (by decide +kernel)) ggL_does_L_low
set_option maxRecDepth 20000 in
theorem ggL_does_L_sent : GoodIn wsL_does wsL_sent := goodIn_r _ [8, 9, 10, 11, 12, 13, 14, 15, 16, 17, 18, 19, 20, 21, 22, 23, 24, 25, 26, 27, 28, 29, 30, 31, 32, 33, 34, 35, 36, 37, 38, 39, 40, 41, 42, 43, 44, 45, 46, 47, 48, 49, 50, 51, 52, 1, 2, 3, 4, 5, 53, 54, 55, 56, 57, 58, 59, 60, 61, 62, 63, 64, 65, 66, 67, 68, 69, 70, 71, 72, 73, 74, 75, 76, 77, 78, 79, 80, 81, 82, 83, 84, 85, 86, 87, 88, 89, 90, 91, 92, 93, 94, 95, 96, 97, 98, 99, 100, 101, 102, 103, 104, 105, 106, 107, 108, 109, 274, 275, 276, 277, 278, 279, 280, 281, 282, 283, 284, 285, 286, 287, 288, 289, 290, 291, 292, 293, 294, 295, 296, 297, 298, 299, 300, 301, 302, 303, 304] (by decide +kernel) (by decide +kernel)
set_option maxRecDepth 20000 in
theorem gL_does_L_sent : GoodIn wsL_does (va_wsS RL 23 yL_sent wsL_sent) := goodIn_app (goodIn_of _ (by decide +kernel)) ggL_does_L_sent
set_option maxRecDepth 20000 in
theorem ggL_does_X6_write : GoodIn wsL_does wsX6_write := goodIn_r _ [113, 21, 14, 114, 115, 116, 117, 118, 119, 120, 121, 122, 26, 123, 124, 125, 126, 127, 128, 77, 129, 130, 50, 131, 132, 133, 36, 72, 134, 135, 136, 137, 52, 138, 139, 140, 141, 142, 143, 144, 145, 104, 39, 146, 147, 148, 149, 150, 151, 28, 152, 12, 153, 154, 155, 80, 156, 157, 158, 159, 160, 161, 162, 163, 164, 165, 166, 167, 168, 38, 169, 170, 171, 172, 173, 73, 174, 76, 75, 175, 176, 177, 178, 179, 65, 66, 67, 180, 181, 182, 183, 82, 24, 25, 27, 184, 185, 186, 187, 188, 189, 190, 191, 274, 275, 276, 277, 278, 298, 299, 279, 280, 281, 282, 300, 301, 302, 303, 283, 284, 285, 286, 287, 288, 289, 290] (by decide +kernel) (by decide +kernel)
set_option maxRecDepth 20000 in
theorem gL_does_X6_write : GoodIn wsL_does (wsV RL 27 RX6 yX6_write wsX6_write) := goodIn_app (goodIn_of _ (by decide +kernel)) ggL_does_X6_write
set_option maxRecDepth 20000 in
theorem ggL_does_X6_turn : GoodIn wsL_does wsX6_turn := goodIn_r _ [195, 21, 14, 114, 115, 116, 117, 118, 119, 120, 121, 122, 26, 123, 124, 125, 126, 127, 128, 77, 129, 130, 50, 131, 132, 133, 36, 72, 134, 135, 136, 137, 52, 138, 139, 140, 141, 142, 143, 144, 145, 104, 39, 146, 147, 148, 149, 150, 151, 28, 152, 12, 153, 154, 155, 80, 156, 157, 158, 159, 160, 161, 162, 163, 164, 165, 166, 167, 168, 38, 196, 197, 198, 199, 200, 177, 178, 184, 185, 186, 187, 188, 189, 190, 191, 274, 275, 276, 277, 278, 298, 299, 279, 280, 281, 282, 300, 301, 302, 303, 283, 284, 285, 286, 287, 288, 289, 290] (by decide +kernel) (by decide +kernel)
set_option maxRecDepth 20000 in
theorem gL_does_X6_turn : GoodIn wsL_does (wsV RL 31 RX6 yX6_turn wsX6_turn) := goodIn_app (goodIn_of _ (by decide +kernel)) ggL_does_X6_turn
set_option maxRecDepth 20000 in
theorem ggL_does_X6_rest : GoodIn wsL_does wsX6_rest := goodIn_r _ [204, 21, 14, 114, 115, 116, 117, 118, 119, 120, 121, 122, 26, 123, 124, 125, 126, 127, 128, 77, 129, 130, 50, 131, 132, 133, 36, 72, 134, 135, 136, 137, 52, 138, 139, 140, 141, 142, 143, 144, 145, 104, 39, 146, 147, 148, 149, 150, 151, 28, 152, 12, 153, 154, 155, 80, 156, 157, 158, 159, 160, 161, 162, 163, 164, 165, 166, 167, 168, 38, 205, 206, 207, 208, 209, 177, 178, 184, 185, 186, 187, 188, 189, 190, 191, 274, 275, 276, 277, 278, 298, 299, 279, 280, 281, 282, 300, 301, 302, 303, 283, 284, 285, 286, 287, 288, 289, 290] (by decide +kernel) (by decide +kernel)
set_option maxRecDepth 20000 in
theorem gL_does_X6_rest : GoodIn wsL_does (wsV RL 34 RX6 yX6_rest wsX6_rest) := goodIn_app (goodIn_of _ (by decide +kernel)) ggL_does_X6_rest
