theorem dX7_burns_9 : decode cX7_burns 9 = .ok (.iconst 2, 1) := by decide +kernel
theorem dX7_burns_10 : decode cX7_burns 10 = .ok (.iastore, 1) := by decide +kernel
theorem dX7_burns_11 : decode cX7_burns 11 = .ok (.aload_n 0, 1) := by decide +kernel
theorem dX7_burns_12 : decode cX7_burns 12 = .ok (.iload_n 1, 1) := by decide +kernel
theorem dX7_burns_13 : decode cX7_burns 13 = .ok (.invokevirtual 50, 3) := by decide +kernel
theorem dX7_burns_16 : decode cX7_burns 16 = .ok (.ireturn, 1) := by decide +kernel
set_option maxRecDepth 20000 in
theorem ggX7_passFault_X7_in : GoodIn wsX7_passFault wsX7_in := goodIn_r _ [5] (by decide +kernel) (by decide +kernel)
set_option maxRecDepth 20000 in
theorem gX7_passFault_X7_in : GoodIn wsX7_passFault (va_wsS RX7 39 yX7_in wsX7_in) := goodIn_app (goodIn_of _ (by decide +kernel)) ggX7_passFault_X7_in
theorem dX7_passFault_0 : decode cX7_passFault 0 = .ok (.iload_n 1, 1) := by decide +kernel
theorem dX7_passFault_1 : decode cX7_passFault 1 = .ok (.iconst 1, 1) := by decide +kernel
theorem dX7_passFault_2 : decode cX7_passFault 2 = .ok (.sipush 240, 3) := by decide +kernel
theorem dX7_passFault_5 : decode cX7_passFault 5 = .ok (.invokestatic 39, 3) := by decide +kernel
theorem dX7_passFault_8 : decode cX7_passFault 8 = .ok (.ifCond .ne 8, 3) := by decide +kernel
theorem dX7_passFault_11 : decode cX7_passFault 11 = .ok (.bipush (-2), 2) := by decide +kernel
theorem dX7_passFault_13 : decode cX7_passFault 13 = .ok (.goto 33, 3) := by decide +kernel
theorem dX7_passFault_16 : decode cX7_passFault 16 = .ok (.aload_n 0, 1) := by decide +kernel
theorem dX7_passFault_17 : decode cX7_passFault 17 = .ok (.getfield 7, 3) := by decide +kernel
theorem dX7_passFault_20 : decode cX7_passFault 20 = .ok (.iconst 3, 1) := by decide +kernel
theorem dX7_passFault_21 : decode cX7_passFault 21 = .ok (.iaload, 1) := by decide +kernel
theorem dX7_passFault_22 : decode cX7_passFault 22 = .ok (.aload_n 0, 1) := by decide +kernel
theorem dX7_passFault_23 : decode cX7_passFault 23 = .ok (.getfield 7, 3) := by decide +kernel
theorem dX7_passFault_26 : decode cX7_passFault 26 = .ok (.iconst 4, 1) := by decide +kernel
theorem dX7_passFault_27 : decode cX7_passFault 27 = .ok (.iaload, 1) := by decide +kernel
theorem dX7_passFault_28 : decode cX7_passFault 28 = .ok (.iload_n 1, 1) := by decide +kernel
theorem dX7_passFault_29 : decode cX7_passFault 29 = .ok (.iadd, 1) := by decide +kernel
theorem dX7_passFault_30 : decode cX7_passFault 30 = .ok (.bipush 24, 2) := by decide +kernel
theorem dX7_passFault_32 : decode cX7_passFault 32 = .ok (.idiv, 1) := by decide +kernel
theorem dX7_passFault_33 : decode cX7_passFault 33 = .ok (.iadd, 1) := by decide +kernel
theorem dX7_passFault_34 : decode cX7_passFault 34 = .ok (.sipush 999, 3) := by decide +kernel
theorem dX7_passFault_37 : decode cX7_passFault 37 = .ok (.if_icmp .le 8, 3) := by decide +kernel
theorem dX7_passFault_40 : decode cX7_passFault 40 = .ok (.bipush (-5), 2) := by decide +kernel
theorem dX7_passFault_42 : decode cX7_passFault 42 = .ok (.goto 4, 3) := by decide +kernel
theorem dX7_passFault_45 : decode cX7_passFault 45 = .ok (.iconst 0, 1) := by decide +kernel
theorem dX7_passFault_46 : decode cX7_passFault 46 = .ok (.ireturn, 1) := by decide +kernel
set_option maxRecDepth 20000 in
theorem ggX7_passes_X7_many : GoodIn wsX7_passes wsX7_many := goodIn_r _ [5, 6, 7, 8, 4, 9, 25, 26, 27, 28, 29, 30, 31, 32, 33, 34, 35, 36, 37, 38, 39, 40] (by decide +kernel) (by decide +kernel)
set_option maxRecDepth 20000 in
theorem gX7_passes_X7_many : GoodIn wsX7_passes (wsV RX7 64 RX7 yX7_many wsX7_many) := goodIn_app (goodIn_of _ (by decide +kernel)) ggX7_passes_X7_many
set_option maxRecDepth 20000 in
theorem ggX7_passes_X7_hour : GoodIn wsX7_passes wsX7_hour := goodIn_r _ [13, 6, 14, 15, 4, 16, 17, 18, 19, 20, 7, 8, 9, 21, 22, 23, 24, 25, 26, 27, 28, 29, 30, 31, 32, 33, 34, 35, 36, 37, 38, 39, 40] (by decide +kernel) (by decide +kernel)
set_option maxRecDepth 20000 in
theorem gX7_passes_X7_hour : GoodIn wsX7_passes (wsV RX7 67 RX7 yX7_hour wsX7_hour) := goodIn_app (goodIn_of _ (by decide +kernel)) ggX7_passes_X7_hour
theorem dX7_passes_0 : decode cX7_passes 0 = .ok (.aload_n 0, 1) := by decide +kernel
theorem dX7_passes_1 : decode cX7_passes 1 = .ok (.bipush 6, 2) := by decide +kernel
theorem dX7_passes_3 : decode cX7_passes 3 = .ok (.iconst 1, 1) := by decide +kernel
theorem dX7_passes_4 : decode cX7_passes 4 = .ok (.invokevirtual 64, 3) := by decide +kernel
theorem dX7_passes_7 : decode cX7_passes 7 = .ok (.istore_n 2, 1) := by decide +kernel
theorem dX7_passes_8 : decode cX7_passes 8 = .ok (.iconst 0, 1) := by decide +kernel
theorem dX7_passes_9 : decode cX7_passes 9 = .ok (.istore_n 3, 1) := by decide +kernel
theorem dX7_passes_10 : decode cX7_passes 10 = .ok (.iload_n 3, 1) := by decide +kernel
theorem dX7_passes_11 : decode cX7_passes 11 = .ok (.iload_n 1, 1) := by decide +kernel
theorem dX7_passes_12 : decode cX7_passes 12 = .ok (.if_icmp .ge 13, 3) := by decide +kernel
theorem dX7_passes_15 : decode cX7_passes 15 = .ok (.aload_n 0, 1) := by decide +kernel
theorem dX7_passes_16 : decode cX7_passes 16 = .ok (.invokevirtual 67, 3) := by decide +kernel
theorem dX7_passes_19 : decode cX7_passes 19 = .ok (.iinc 3 1, 3) := by decide +kernel
theorem dX7_passes_22 : decode cX7_passes 22 = .ok (.goto (-12), 3) := by decide +kernel
theorem dX7_passes_25 : decode cX7_passes 25 = .ok (.aload_n 0, 1) := by decide +kernel
theorem dX7_passes_26 : decode cX7_passes 26 = .ok (.bipush 6, 2) := by decide +kernel
theorem dX7_passes_28 : decode cX7_passes 28 = .ok (.iconst 1, 1) := by decide +kernel
theorem dX7_passes_29 : decode cX7_passes 29 = .ok (.invokevirtual 64, 3) := by decide +kernel
theorem dX7_passes_32 : decode cX7_passes 32 = .ok (.iload_n 2, 1) := by decide +kernel
theorem dX7_passes_33 : decode cX7_passes 33 = .ok (.isub, 1) := by decide +kernel
theorem dX7_passes_34 : decode cX7_passes 34 = .ok (.ireturn, 1) := by decide +kernel
set_option maxRecDepth 20000 in
theorem ggX7_set_X7_in : GoodIn wsX7_set wsX7_in := goodIn_r _ [5] (by decide +kernel) (by decide +kernel)
set_option maxRecDepth 20000 in
theorem gX7_set_X7_in : GoodIn wsX7_set (va_wsS RX7 39 yX7_in wsX7_in) := goodIn_app (goodIn_of _ (by decide +kernel)) ggX7_set_X7_in
set_option maxRecDepth 20000 in
theorem ggX7_set_X7_know : GoodIn wsX7_set wsX7_know := goodIn_r _ [9, 10, 11, 1, 12, 13, 14, 15, 16, 17, 18, 19, 20, 21, 22, 23, 24, 25, 26, 27] (by decide +kernel) (by decide +kernel)
set_option maxRecDepth 20000 in
theorem gX7_set_X7_know : GoodIn wsX7_set (wsV RX7 70 RX7 yX7_know wsX7_know) := goodIn_app (goodIn_of _ (by decide +kernel)) ggX7_set_X7_know
theorem dX7_set_0 : decode cX7_set 0 = .ok (.iload_n 1, 1) := by decide +kernel
theorem dX7_set_1 : decode cX7_set 1 = .ok (.ifCond .ne 8, 3) := by decide +kernel
theorem dX7_set_4 : decode cX7_set 4 = .ok (.bipush 23, 2) := by decide +kernel
theorem dX7_set_6 : decode cX7_set 6 = .ok (.goto 15, 3) := by decide +kernel
theorem dX7_set_9 : decode cX7_set 9 = .ok (.iload_n 1, 1) := by decide +kernel
theorem dX7_set_10 : decode cX7_set 10 = .ok (.iconst 1, 1) := by decide +kernel
theorem dX7_set_11 : decode cX7_set 11 = .ok (.if_icmp .ne 8, 3) := by decide +kernel
theorem dX7_set_14 : decode cX7_set 14 = .ok (.bipush 99, 2) := by decide +kernel
theorem dX7_set_16 : decode cX7_set 16 = .ok (.goto 5, 3) := by decide +kernel
theorem dX7_set_19 : decode cX7_set 19 = .ok (.bipush 20, 2) := by decide +kernel
theorem dX7_set_21 : decode cX7_set 21 = .ok (.istore_n 3, 1) := by decide +kernel
theorem dX7_set_22 : decode cX7_set 22 = .ok (.iload_n 1, 1) := by decide +kernel
theorem dX7_set_23 : decode cX7_set 23 = .ok (.iconst 0, 1) := by decide +kernel
theorem dX7_set_24 : decode cX7_set 24 = .ok (.iconst 2, 1) := by decide +kernel
theorem dX7_set_25 : decode cX7_set 25 = .ok (.invokestatic 39, 3) := by decide +kernel
theorem dX7_set_28 : decode cX7_set 28 = .ok (.ifCond .eq 12, 3) := by decide +kernel
theorem dX7_set_31 : decode cX7_set 31 = .ok (.iload_n 2, 1) := by decide +kernel
theorem dX7_set_32 : decode cX7_set 32 = .ok (.iconst 0, 1) := by decide +kernel
theorem dX7_set_33 : decode cX7_set 33 = .ok (.iload_n 3, 1) := by decide +kernel
theorem dX7_set_34 : decode cX7_set 34 = .ok (.invokestatic 39, 3) := by decide +kernel
theorem dX7_set_37 : decode cX7_set 37 = .ok (.ifCond .ne 6, 3) := by decide +kernel
theorem dX7_set_40 : decode cX7_set 40 = .ok (.bipush (-2), 2) := by decide +kernel
theorem dX7_set_42 : decode cX7_set 42 = .ok (.ireturn, 1) := by decide +kernel
theorem dX7_set_43 : decode cX7_set 43 = .ok (.aload_n 0, 1) := by decide +kernel
theorem dX7_set_44 : decode cX7_set 44 = .ok (.invokevirtual 70, 3) := by decide +kernel
theorem dX7_set_47 : decode cX7_set 47 = .ok (.aload_n 0, 1) := by decide +kernel
theorem dX7_set_48 : decode cX7_set 48 = .ok (.getfield 7, 3) := by decide +kernel
theorem dX7_set_51 : decode cX7_set 51 = .ok (.iconst 0, 1) := by decide +kernel
theorem dX7_set_52 : decode cX7_set 52 = .ok (.iload_n 1, 1) := by decide +kernel
theorem dX7_set_53 : decode cX7_set 53 = .ok (.iadd, 1) := by decide +kernel
theorem dX7_set_54 : decode cX7_set 54 = .ok (.iaload, 1) := by decide +kernel
theorem dX7_set_55 : decode cX7_set 55 = .ok (.istore 4, 2) := by decide +kernel
theorem dX7_set_57 : decode cX7_set 57 = .ok (.aload_n 0, 1) := by decide +kernel
theorem dX7_set_58 : decode cX7_set 58 = .ok (.getfield 7, 3) := by decide +kernel
theorem dX7_set_61 : decode cX7_set 61 = .ok (.iconst 0, 1) := by decide +kernel
theorem dX7_set_62 : decode cX7_set 62 = .ok (.iload_n 1, 1) := by decide +kernel
theorem dX7_set_63 : decode cX7_set 63 = .ok (.iadd, 1) := by decide +kernel
theorem dX7_set_64 : decode cX7_set 64 = .ok (.iload_n 2, 1) := by decide +kernel
theorem dX7_set_65 : decode cX7_set 65 = .ok (.iastore, 1) := by decide +kernel
theorem dX7_set_66 : decode cX7_set 66 = .ok (.iload 4, 2) := by decide +kernel
theorem dX7_set_68 : decode cX7_set 68 = .ok (.ireturn, 1) := by decide +kernel
set_option maxRecDepth 20000 in
theorem ggX7_write_X7_writeFault : GoodIn wsX7_write wsX7_writeFault := goodIn_r _ [5, 6, 7, 8, 4, 9, 10, 11, 12, 13, 14, 15, 16, 17, 18, 19, 20, 21, 22, 23, 34, 35, 36, 37, 38, 39, 40, 41, 42, 43, 44, 45, 46, 47, 48, 49] (by decide +kernel) (by decide +kernel)
set_option maxRecDepth 20000 in
theorem gX7_write_X7_writeFault : GoodIn wsX7_write (wsV RX7 73 RX7 yX7_writeFault wsX7_writeFault) := goodIn_app (goodIn_of _ (by decide +kernel)) ggX7_write_X7_writeFault
set_option maxRecDepth 20000 in
theorem ggX7_write_X7_know : GoodIn wsX7_write wsX7_know := goodIn_r _ [27, 28, 29, 6, 34, 35, 36, 37, 38, 39, 40, 41, 42, 43, 44, 45, 46, 47, 48, 49] (by decide +kernel) (by decide +kernel)
set_option maxRecDepth 20000 in
theorem gX7_write_X7_know : GoodIn wsX7_write (wsV RX7 70 RX7 yX7_know wsX7_know) := goodIn_app (goodIn_of _ (by decide +kernel)) ggX7_write_X7_know
set_option maxRecDepth 20000 in
theorem ggX7_write_X7_writes : GoodIn wsX7_write wsX7_writes := goodIn_r _ [33, 6, 21, 22, 4, 23, 34, 35, 36, 37, 38, 39, 40, 41, 42, 43, 44, 45, 46, 47, 48, 49] (by decide +kernel) (by decide +kernel)
set_option maxRecDepth 20000 in
theorem gX7_write_X7_writes : GoodIn wsX7_write (wsV RX7 77 RX7 yX7_writes wsX7_writes) := goodIn_app (goodIn_of _ (by decide +kernel)) ggX7_write_X7_writes
theorem dX7_write_0 : decode cX7_write 0 = .ok (.aload_n 0, 1) := by decide +kernel
theorem dX7_write_1 : decode cX7_write 1 = .ok (.iload_n 1, 1) := by decide +kernel
theorem dX7_write_2 : decode cX7_write 2 = .ok (.iload_n 2, 1) := by decide +kernel
theorem dX7_write_3 : decode cX7_write 3 = .ok (.iload_n 3, 1) := by decide +kernel
theorem dX7_write_4 : decode cX7_write 4 = .ok (.invokevirtual 73, 3) := by decide +kernel
theorem dX7_write_7 : decode cX7_write 7 = .ok (.istore 4, 2) := by decide +kernel
theorem dX7_write_9 : decode cX7_write 9 = .ok (.iload 4, 2) := by decide +kernel
theorem dX7_write_11 : decode cX7_write 11 = .ok (.ifCond .ge 6, 3) := by decide +kernel
theorem dX7_write_14 : decode cX7_write 14 = .ok (.iload 4, 2) := by decide +kernel
theorem dX7_write_16 : decode cX7_write 16 = .ok (.ireturn, 1) := by decide +kernel
theorem dX7_write_17 : decode cX7_write 17 = .ok (.aload_n 0, 1) := by decide +kernel
theorem dX7_write_18 : decode cX7_write 18 = .ok (.invokevirtual 70, 3) := by decide +kernel
theorem dX7_write_21 : decode cX7_write 21 = .ok (.aload_n 0, 1) := by decide +kernel
theorem dX7_write_22 : decode cX7_write 22 = .ok (.iload_n 1, 1) := by decide +kernel
theorem dX7_write_23 : decode cX7_write 23 = .ok (.iload_n 2, 1) := by decide +kernel
theorem dX7_write_24 : decode cX7_write 24 = .ok (.iload_n 3, 1) := by decide +kernel
theorem dX7_write_25 : decode cX7_write 25 = .ok (.invokevirtual 77, 3) := by decide +kernel
theorem dX7_write_28 : decode cX7_write 28 = .ok (.ireturn, 1) := by decide +kernel
set_option maxRecDepth 20000 in
theorem ggX7_turn_X7_isMood : GoodIn wsX7_turn wsX7_isMood := goodIn_r _ [4, 5, 6, 3, 7] (by decide +kernel) (by decide +kernel)
set_option maxRecDepth 20000 in
theorem gX7_turn_X7_isMood : GoodIn wsX7_turn (va_wsS RX7 58 yX7_isMood wsX7_isMood) := goodIn_app (goodIn_of _ (by decide +kernel)) ggX7_turn_X7_isMood
set_option maxRecDepth 20000 in
theorem ggX7_turn_X7_know : GoodIn wsX7_turn wsX7_know := goodIn_r _ [11, 12, 13, 14, 22, 23, 24, 25, 26, 27, 28, 29, 30, 31, 32, 33, 34, 35, 36, 37] (by decide +kernel) (by decide +kernel)
set_option maxRecDepth 20000 in
theorem gX7_turn_X7_know : GoodIn wsX7_turn (wsV RX7 70 RX7 yX7_know wsX7_know) := goodIn_app (goodIn_of _ (by decide +kernel)) ggX7_turn_X7_know
set_option maxRecDepth 20000 in
theorem ggX7_turn_X7_turns : GoodIn wsX7_turn wsX7_turns := goodIn_r _ [18, 14, 19, 20, 3, 21, 22, 23, 24, 25, 26, 27, 28, 29, 30, 31, 32, 33, 34, 35, 36, 37] (by decide +kernel) (by decide +kernel)
set_option maxRecDepth 20000 in
theorem gX7_turn_X7_turns : GoodIn wsX7_turn (wsV RX7 80 RX7 yX7_turns wsX7_turns) := goodIn_app (goodIn_of _ (by decide +kernel)) ggX7_turn_X7_turns
theorem dX7_turn_0 : decode cX7_turn 0 = .ok (.iload_n 1, 1) := by decide +kernel
theorem dX7_turn_1 : decode cX7_turn 1 = .ok (.invokestatic 58, 3) := by decide +kernel
theorem dX7_turn_4 : decode cX7_turn 4 = .ok (.ifCond .ne 5, 3) := by decide +kernel
theorem dX7_turn_7 : decode cX7_turn 7 = .ok (.iconst (-1), 1) := by decide +kernel
theorem dX7_turn_8 : decode cX7_turn 8 = .ok (.ireturn, 1) := by decide +kernel
theorem dX7_turn_9 : decode cX7_turn 9 = .ok (.aload_n 0, 1) := by decide +kernel
theorem dX7_turn_10 : decode cX7_turn 10 = .ok (.invokevirtual 70, 3) := by decide +kernel
theorem dX7_turn_13 : decode cX7_turn 13 = .ok (.aload_n 0, 1) := by decide +kernel
theorem dX7_turn_14 : decode cX7_turn 14 = .ok (.iload_n 1, 1) := by decide +kernel
theorem dX7_turn_15 : decode cX7_turn 15 = .ok (.invokevirtual 80, 3) := by decide +kernel
theorem dX7_turn_18 : decode cX7_turn 18 = .ok (.ireturn, 1) := by decide +kernel
set_option maxRecDepth 20000 in
theorem ggX7_rest_X7_isMood : GoodIn wsX7_rest wsX7_isMood := goodIn_r _ [5, 6, 7, 4, 8] (by decide +kernel) (by decide +kernel)
set_option maxRecDepth 20000 in
theorem gX7_rest_X7_isMood : GoodIn wsX7_rest (va_wsS RX7 58 yX7_isMood wsX7_isMood) := goodIn_app (goodIn_of _ (by decide +kernel)) ggX7_rest_X7_isMood
set_option maxRecDepth 20000 in
theorem ggX7_rest_X7_in : GoodIn wsX7_rest wsX7_in := goodIn_r _ [8] (by decide +kernel) (by decide +kernel)
set_option maxRecDepth 20000 in
theorem gX7_rest_X7_in : GoodIn wsX7_rest (va_wsS RX7 39 yX7_in wsX7_in) := goodIn_app (goodIn_of _ (by decide +kernel)) ggX7_rest_X7_in
set_option maxRecDepth 20000 in
theorem ggX7_rest_X7_know : GoodIn wsX7_rest wsX7_know := goodIn_r _ [12, 13, 14, 1, 18, 19, 20, 21, 22, 23, 24, 25, 26, 27, 28, 29, 30, 31, 32, 33] (by decide +kernel) (by decide +kernel)
set_option maxRecDepth 20000 in
theorem gX7_rest_X7_know : GoodIn wsX7_rest (wsV RX7 70 RX7 yX7_know wsX7_know) := goodIn_app (goodIn_of _ (by decide +kernel)) ggX7_rest_X7_know
set_option maxRecDepth 20000 in
theorem ggX7_rest_X7_ofD : GoodIn wsX7_rest wsX7_ofD := goodIn_r _ [17] (by decide +kernel) (by decide +kernel)
set_option maxRecDepth 20000 in
theorem gX7_rest_X7_ofD : GoodIn wsX7_rest (va_wsS RX7 35 yX7_ofD wsX7_ofD) := goodIn_app (goodIn_of _ (by decide +kernel)) ggX7_rest_X7_ofD
theorem dX7_rest_0 : decode cX7_rest 0 = .ok (.iload_n 1, 1) := by decide +kernel
theorem dX7_rest_1 : decode cX7_rest 1 = .ok (.invokestatic 58, 3) := by decide +kernel
theorem dX7_rest_4 : decode cX7_rest 4 = .ok (.ifCond .ne 5, 3) := by decide +kernel
theorem dX7_rest_7 : decode cX7_rest 7 = .ok (.iconst (-1), 1) := by decide +kernel
theorem dX7_rest_8 : decode cX7_rest 8 = .ok (.ireturn, 1) := by decide +kernel
theorem dX7_rest_9 : decode cX7_rest 9 = .ok (.iload_n 2, 1) := by decide +kernel
theorem dX7_rest_10 : decode cX7_rest 10 = .ok (.iconst 0, 1) := by decide +kernel
theorem dX7_rest_11 : decode cX7_rest 11 = .ok (.bipush 30, 2) := by decide +kernel
theorem dX7_rest_13 : decode cX7_rest 13 = .ok (.invokestatic 39, 3) := by decide +kernel
theorem dX7_rest_16 : decode cX7_rest 16 = .ok (.ifCond .ne 6, 3) := by decide +kernel
theorem dX7_rest_19 : decode cX7_rest 19 = .ok (.bipush (-2), 2) := by decide +kernel
theorem dX7_rest_21 : decode cX7_rest 21 = .ok (.ireturn, 1) := by decide +kernel
theorem dX7_rest_22 : decode cX7_rest 22 = .ok (.aload_n 0, 1) := by decide +kernel
theorem dX7_rest_23 : decode cX7_rest 23 = .ok (.invokevirtual 70, 3) := by decide +kernel
theorem dX7_rest_26 : decode cX7_rest 26 = .ok (.aload_n 0, 1) := by decide +kernel
theorem dX7_rest_27 : decode cX7_rest 27 = .ok (.getfield 7, 3) := by decide +kernel
theorem dX7_rest_30 : decode cX7_rest 30 = .ok (.iload_n 1, 1) := by decide +kernel
theorem dX7_rest_31 : decode cX7_rest 31 = .ok (.iconst 1, 1) := by decide +kernel
theorem dX7_rest_32 : decode cX7_rest 32 = .ok (.invokestatic 35, 3) := by decide +kernel
theorem dX7_rest_35 : decode cX7_rest 35 = .ok (.iaload, 1) := by decide +kernel
theorem dX7_rest_36 : decode cX7_rest 36 = .ok (.istore_n 3, 1) := by decide +kernel
theorem dX7_rest_37 : decode cX7_rest 37 = .ok (.aload_n 0, 1) := by decide +kernel
theorem dX7_rest_38 : decode cX7_rest 38 = .ok (.getfield 7, 3) := by decide +kernel
theorem dX7_rest_41 : decode cX7_rest 41 = .ok (.iload_n 1, 1) := by decide +kernel
theorem dX7_rest_42 : decode cX7_rest 42 = .ok (.iconst 1, 1) := by decide +kernel
theorem dX7_rest_43 : decode cX7_rest 43 = .ok (.invokestatic 35, 3) := by decide +kernel
theorem dX7_rest_46 : decode cX7_rest 46 = .ok (.iload_n 2, 1) := by decide +kernel
theorem dX7_rest_47 : decode cX7_rest 47 = .ok (.iastore, 1) := by decide +kernel
theorem dX7_rest_48 : decode cX7_rest 48 = .ok (.iload_n 3, 1) := by decide +kernel
theorem dX7_rest_49 : decode cX7_rest 49 = .ok (.ireturn, 1) := by decide +kernel
set_option maxRecDepth 20000 in
theorem ggX7_hours_X7_hoursFault : GoodIn wsX7_hours wsX7_hoursFault := goodIn_r _ [5, 6, 7, 4, 8, 9, 10, 11] (by decide +kernel) (by decide +kernel)
set_option maxRecDepth 20000 in
theorem gX7_hours_X7_hoursFault : GoodIn wsX7_hours (wsV RX7 83 RX7 yX7_hoursFault wsX7_hoursFault) := goodIn_app (goodIn_of _ (by decide +kernel)) ggX7_hours_X7_hoursFault
set_option maxRecDepth 20000 in
theorem ggX7_hours_X7_know : GoodIn wsX7_hours wsX7_know := goodIn_r _ [15, 16, 17, 18, 26, 27, 28, 29, 30, 31, 32, 33, 34, 35, 36, 37, 38, 39, 40, 41] (by decide +kernel) (by decide +kernel)
set_option maxRecDepth 20000 in
theorem gX7_hours_X7_know : GoodIn wsX7_hours (wsV RX7 70 RX7 yX7_know wsX7_know) := goodIn_app (goodIn_of _ (by decide +kernel)) ggX7_hours_X7_know
set_option maxRecDepth 20000 in
theorem ggX7_hours_X7_putsHours : GoodIn wsX7_hours wsX7_putsHours := goodIn_r _ [22, 18, 23, 24, 4, 25, 26, 27, 28, 29, 30, 31, 32, 33, 34, 35, 36, 37, 38, 39, 40, 41] (by decide +kernel) (by decide +kernel)
set_option maxRecDepth 20000 in
theorem gX7_hours_X7_putsHours : GoodIn wsX7_hours (wsV RX7 86 RX7 yX7_putsHours wsX7_putsHours) := goodIn_app (goodIn_of _ (by decide +kernel)) ggX7_hours_X7_putsHours
theorem dX7_hours_0 : decode cX7_hours 0 = .ok (.aload_n 0, 1) := by decide +kernel
theorem dX7_hours_1 : decode cX7_hours 1 = .ok (.iload_n 1, 1) := by decide +kernel
theorem dX7_hours_2 : decode cX7_hours 2 = .ok (.iload_n 2, 1) := by decide +kernel
theorem dX7_hours_3 : decode cX7_hours 3 = .ok (.iload_n 3, 1) := by decide +kernel
theorem dX7_hours_4 : decode cX7_hours 4 = .ok (.invokevirtual 83, 3) := by decide +kernel
theorem dX7_hours_7 : decode cX7_hours 7 = .ok (.istore 4, 2) := by decide +kernel
theorem dX7_hours_9 : decode cX7_hours 9 = .ok (.iload 4, 2) := by decide +kernel
theorem dX7_hours_11 : decode cX7_hours 11 = .ok (.ifCond .ge 6, 3) := by decide +kernel
theorem dX7_hours_14 : decode cX7_hours 14 = .ok (.iload 4, 2) := by decide +kernel
theorem dX7_hours_16 : decode cX7_hours 16 = .ok (.ireturn, 1) := by decide +kernel
theorem dX7_hours_17 : decode cX7_hours 17 = .ok (.aload_n 0, 1) := by decide +kernel
theorem dX7_hours_18 : decode cX7_hours 18 = .ok (.invokevirtual 70, 3) := by decide +kernel
theorem dX7_hours_21 : decode cX7_hours 21 = .ok (.aload_n 0, 1) := by decide +kernel
theorem dX7_hours_22 : decode cX7_hours 22 = .ok (.iload_n 1, 1) := by decide +kernel
theorem dX7_hours_23 : decode cX7_hours 23 = .ok (.iload_n 2, 1) := by decide +kernel
theorem dX7_hours_24 : decode cX7_hours 24 = .ok (.iload_n 3, 1) := by decide +kernel
theorem dX7_hours_25 : decode cX7_hours 25 = .ok (.invokevirtual 86, 3) := by decide +kernel
theorem dX7_hours_28 : decode cX7_hours 28 = .ok (.ireturn, 1) := by decide +kernel
set_option maxRecDepth 20000 in
theorem ggX7_burn_X7_burnFault : GoodIn wsX7_burn wsX7_burnFault := goodIn_r _ [5, 6, 7, 8, 9, 4, 10, 11, 12, 13, 14, 15, 16, 17, 18, 19, 34, 35, 36, 37, 38, 39, 40, 41, 42, 43, 44, 45, 46, 47, 48, 49] (by decide +kernel) (by decide +kernel)
set_option maxRecDepth 20000 in
theorem gX7_burn_X7_burnFault : GoodIn wsX7_burn (wsV RX7 89 RX7 yX7_burnFault wsX7_burnFault) := goodIn_app (goodIn_of _ (by decide +kernel)) ggX7_burn_X7_burnFault
set_option maxRecDepth 20000 in
theorem ggX7_burn_X7_know : GoodIn wsX7_burn wsX7_know := goodIn_r _ [23, 24, 25, 6, 34, 35, 36, 37, 38, 39, 40, 41, 42, 43, 44, 45, 46, 47, 48, 49] (by decide +kernel) (by decide +kernel)
set_option maxRecDepth 20000 in
theorem gX7_burn_X7_know : GoodIn wsX7_burn (wsV RX7 70 RX7 yX7_know wsX7_know) := goodIn_app (goodIn_of _ (by decide +kernel)) ggX7_burn_X7_know
set_option maxRecDepth 20000 in
theorem ggX7_burn_X7_burns : GoodIn wsX7_burn wsX7_burns := goodIn_r _ [29, 6, 14, 15, 4, 16, 30, 31, 32, 33, 34, 35, 36, 37, 38, 39, 40, 41, 42, 43, 44, 45, 46, 47, 48, 49] (by decide +kernel) (by decide +kernel)
set_option maxRecDepth 20000 in
theorem gX7_burn_X7_burns : GoodIn wsX7_burn (wsV RX7 92 RX7 yX7_burns wsX7_burns) := goodIn_app (goodIn_of _ (by decide +kernel)) ggX7_burn_X7_burns
theorem dX7_burn_0 : decode cX7_burn 0 = .ok (.aload_n 0, 1) := by decide +kernel
theorem dX7_burn_1 : decode cX7_burn 1 = .ok (.iload_n 1, 1) := by decide +kernel
theorem dX7_burn_2 : decode cX7_burn 2 = .ok (.invokevirtual 89, 3) := by decide +kernel
theorem dX7_burn_5 : decode cX7_burn 5 = .ok (.istore_n 2, 1) := by decide +kernel
theorem dX7_burn_6 : decode cX7_burn 6 = .ok (.iload_n 2, 1) := by decide +kernel
theorem dX7_burn_7 : decode cX7_burn 7 = .ok (.ifCond .ge 5, 3) := by decide +kernel
theorem dX7_burn_10 : decode cX7_burn 10 = .ok (.iload_n 2, 1) := by decide +kernel
theorem dX7_burn_11 : decode cX7_burn 11 = .ok (.ireturn, 1) := by decide +kernel
theorem dX7_burn_12 : decode cX7_burn 12 = .ok (.aload_n 0, 1) := by decide +kernel
theorem dX7_burn_13 : decode cX7_burn 13 = .ok (.invokevirtual 70, 3) := by decide +kernel
theorem dX7_burn_16 : decode cX7_burn 16 = .ok (.aload_n 0, 1) := by decide +kernel
theorem dX7_burn_17 : decode cX7_burn 17 = .ok (.iload_n 1, 1) := by decide +kernel
theorem dX7_burn_18 : decode cX7_burn 18 = .ok (.invokevirtual 92, 3) := by decide +kernel
theorem dX7_burn_21 : decode cX7_burn 21 = .ok (.ireturn, 1) := by decide +kernel
set_option maxRecDepth 20000 in
theorem ggX7_pass_X7_passFault : GoodIn wsX7_pass wsX7_passFault := goodIn_r _ [5, 6, 7, 8, 4, 9, 42, 43, 44, 45, 46, 47, 48, 49, 50, 51, 52, 53, 54, 55, 56, 57] (by decide +kernel) (by decide +kernel)
set_option maxRecDepth 20000 in
theorem gX7_pass_X7_passFault : GoodIn wsX7_pass (wsV RX7 95 RX7 yX7_passFault wsX7_passFault) := goodIn_app (goodIn_of _ (by decide +kernel)) ggX7_pass_X7_passFault
set_option maxRecDepth 20000 in
theorem ggX7_pass_X7_know : GoodIn wsX7_pass wsX7_know := goodIn_r _ [13, 14, 15, 6, 42, 43, 44, 45, 46, 47, 48, 49, 50, 51, 52, 53, 54, 55, 56, 57] (by decide +kernel) (by decide +kernel)
set_option maxRecDepth 20000 in
theorem gX7_pass_X7_know : GoodIn wsX7_pass (wsV RX7 70 RX7 yX7_know wsX7_know) := goodIn_app (goodIn_of _ (by decide +kernel)) ggX7_pass_X7_know
set_option maxRecDepth 20000 in
theorem ggX7_pass_X7_passes : GoodIn wsX7_pass wsX7_passes := goodIn_r _ [19, 20, 21, 22, 4, 23, 6, 24, 25, 26, 27, 28, 29, 30, 31, 32, 33, 34, 35, 36, 37, 38, 39, 40, 41, 42, 43, 44, 45, 46, 47, 48, 49, 50, 51, 52, 53, 54, 55, 56, 57] (by decide +kernel) (by decide +kernel)
set_option maxRecDepth 20000 in
theorem gX7_pass_X7_passes : GoodIn wsX7_pass (wsV RX7 98 RX7 yX7_passes wsX7_passes) := goodIn_app (goodIn_of _ (by decide +kernel)) ggX7_pass_X7_passes
theorem dX7_pass_0 : decode cX7_pass 0 = .ok (.aload_n 0, 1) := by decide +kernel
theorem dX7_pass_1 : decode cX7_pass 1 = .ok (.iload_n 1, 1) := by decide +kernel
theorem dX7_pass_2 : decode cX7_pass 2 = .ok (.invokevirtual 95, 3) := by decide +kernel
theorem dX7_pass_5 : decode cX7_pass 5 = .ok (.istore_n 2, 1) := by decide +kernel
theorem dX7_pass_6 : decode cX7_pass 6 = .ok (.iload_n 2, 1) := by decide +kernel
theorem dX7_pass_7 : decode cX7_pass 7 = .ok (.ifCond .ge 5, 3) := by decide +kernel
theorem dX7_pass_10 : decode cX7_pass 10 = .ok (.iload_n 2, 1) := by decide +kernel
theorem dX7_pass_11 : decode cX7_pass 11 = .ok (.ireturn, 1) := by decide +kernel
theorem dX7_pass_12 : decode cX7_pass 12 = .ok (.aload_n 0, 1) := by decide +kernel
theorem dX7_pass_13 : decode cX7_pass 13 = .ok (.invokevirtual 70, 3) := by decide +kernel
theorem dX7_pass_16 : decode cX7_pass 16 = .ok (.aload_n 0, 1) := by decide +kernel
theorem dX7_pass_17 : decode cX7_pass 17 = .ok (.iload_n 1, 1) := by decide +kernel
theorem dX7_pass_18 : decode cX7_pass 18 = .ok (.invokevirtual 98, 3) := by decide +kernel
theorem dX7_pass_21 : decode cX7_pass 21 = .ok (.ireturn, 1) := by decide +kernel
set_option maxRecDepth 20000 in
theorem ggX7_answering_X7_ofL : GoodIn wsX7_answering wsX7_ofL := goodIn_r _ [5] (by decide +kernel) (by decide +kernel)
set_option maxRecDepth 20000 in
theorem gX7_answering_X7_ofL : GoodIn wsX7_answering (va_wsS RX7 47 yX7_ofL wsX7_ofL) := goodIn_app (goodIn_of _ (by decide +kernel)) ggX7_answering_X7_ofL
theorem dX7_answering_0 : decode cX7_answering 0 = .ok (.iconst 0, 1) := by decide +kernel
theorem dX7_answering_1 : decode cX7_answering 1 = .ok (.istore_n 2, 1) := by decide +kernel
theorem dX7_answering_2 : decode cX7_answering 2 = .ok (.iconst 0, 1) := by decide +kernel
theorem dX7_answering_3 : decode cX7_answering 3 = .ok (.istore_n 3, 1) := by decide +kernel
theorem dX7_answering_4 : decode cX7_answering 4 = .ok (.iload_n 3, 1) := by decide +kernel
theorem dX7_answering_5 : decode cX7_answering 5 = .ok (.aload_n 0, 1) := by decide +kernel
theorem dX7_answering_6 : decode cX7_answering 6 = .ok (.getfield 7, 3) := by decide +kernel
theorem dX7_answering_9 : decode cX7_answering 9 = .ok (.iconst 5, 1) := by decide +kernel
theorem dX7_answering_10 : decode cX7_answering 10 = .ok (.iaload, 1) := by decide +kernel
theorem dX7_answering_11 : decode cX7_answering 11 = .ok (.if_icmp .ge 31, 3) := by decide +kernel
theorem dX7_answering_14 : decode cX7_answering 14 = .ok (.iload_n 2, 1) := by decide +kernel
theorem dX7_answering_15 : decode cX7_answering 15 = .ok (.aload_n 0, 1) := by decide +kernel
theorem dX7_answering_16 : decode cX7_answering 16 = .ok (.getfield 7, 3) := by decide +kernel
theorem dX7_answering_19 : decode cX7_answering 19 = .ok (.iload_n 3, 1) := by decide +kernel
theorem dX7_answering_20 : decode cX7_answering 20 = .ok (.iconst 5, 1) := by decide +kernel
theorem dX7_answering_21 : decode cX7_answering 21 = .ok (.invokestatic 47, 3) := by decide +kernel
theorem dX7_answering_24 : decode cX7_answering 24 = .ok (.iaload, 1) := by decide +kernel
theorem dX7_answering_25 : decode cX7_answering 25 = .ok (.iload_n 1, 1) := by decide +kernel
theorem dX7_answering_26 : decode cX7_answering 26 = .ok (.if_icmp .ne 7, 3) := by decide +kernel
theorem dX7_answering_29 : decode cX7_answering 29 = .ok (.iconst 1, 1) := by decide +kernel
theorem dX7_answering_30 : decode cX7_answering 30 = .ok (.goto 4, 3) := by decide +kernel
theorem dX7_answering_33 : decode cX7_answering 33 = .ok (.iconst 0, 1) := by decide +kernel
theorem dX7_answering_34 : decode cX7_answering 34 = .ok (.iadd, 1) := by decide +kernel
theorem dX7_answering_35 : decode cX7_answering 35 = .ok (.istore_n 2, 1) := by decide +kernel
theorem dX7_answering_36 : decode cX7_answering 36 = .ok (.iinc 3 1, 3) := by decide +kernel
theorem dX7_answering_39 : decode cX7_answering 39 = .ok (.goto (-35), 3) := by decide +kernel
theorem dX7_answering_42 : decode cX7_answering 42 = .ok (.iload_n 2, 1) := by decide +kernel
theorem dX7_answering_43 : decode cX7_answering 43 = .ok (.ireturn, 1) := by decide +kernel
set_option maxRecDepth 20000 in
theorem ggX7_depth_X7_ofL : GoodIn wsX7_depth wsX7_ofL := goodIn_r _ [5] (by decide +kernel) (by decide +kernel)
set_option maxRecDepth 20000 in
theorem gX7_depth_X7_ofL : GoodIn wsX7_depth (va_wsS RX7 47 yX7_ofL wsX7_ofL) := goodIn_app (goodIn_of _ (by decide +kernel)) ggX7_depth_X7_ofL
theorem dX7_depth_0 : decode cX7_depth 0 = .ok (.iconst 0, 1) := by decide +kernel
theorem dX7_depth_1 : decode cX7_depth 1 = .ok (.istore_n 2, 1) := by decide +kernel
theorem dX7_depth_2 : decode cX7_depth 2 = .ok (.iload_n 1, 1) := by decide +kernel
theorem dX7_depth_3 : decode cX7_depth 3 = .ok (.istore_n 3, 1) := by decide +kernel
theorem dX7_depth_4 : decode cX7_depth 4 = .ok (.aload_n 0, 1) := by decide +kernel
theorem dX7_depth_5 : decode cX7_depth 5 = .ok (.getfield 7, 3) := by decide +kernel
theorem dX7_depth_8 : decode cX7_depth 8 = .ok (.iload_n 3, 1) := by decide +kernel
theorem dX7_depth_9 : decode cX7_depth 9 = .ok (.iconst 5, 1) := by decide +kernel
theorem dX7_depth_10 : decode cX7_depth 10 = .ok (.invokestatic 47, 3) := by decide +kernel
theorem dX7_depth_13 : decode cX7_depth 13 = .ok (.iaload, 1) := by decide +kernel
theorem dX7_depth_14 : decode cX7_depth 14 = .ok (.bipush (-6), 2) := by decide +kernel
theorem dX7_depth_16 : decode cX7_depth 16 = .ok (.if_icmp .eq 20, 3) := by decide +kernel
theorem dX7_depth_19 : decode cX7_depth 19 = .ok (.aload_n 0, 1) := by decide +kernel
theorem dX7_depth_20 : decode cX7_depth 20 = .ok (.getfield 7, 3) := by decide +kernel
theorem dX7_depth_23 : decode cX7_depth 23 = .ok (.iload_n 3, 1) := by decide +kernel
theorem dX7_depth_24 : decode cX7_depth 24 = .ok (.iconst 5, 1) := by decide +kernel
theorem dX7_depth_25 : decode cX7_depth 25 = .ok (.invokestatic 47, 3) := by decide +kernel
theorem dX7_depth_28 : decode cX7_depth 28 = .ok (.iaload, 1) := by decide +kernel
theorem dX7_depth_29 : decode cX7_depth 29 = .ok (.istore_n 3, 1) := by decide +kernel
theorem dX7_depth_30 : decode cX7_depth 30 = .ok (.iinc 2 1, 3) := by decide +kernel
theorem dX7_depth_33 : decode cX7_depth 33 = .ok (.goto (-29), 3) := by decide +kernel
theorem dX7_depth_36 : decode cX7_depth 36 = .ok (.iload_n 2, 1) := by decide +kernel
theorem dX7_depth_37 : decode cX7_depth 37 = .ok (.ireturn, 1) := by decide +kernel
set_option maxRecDepth 20000 in
theorem ggX7_ofLetter_X7_isLetter : GoodIn wsX7_ofLetter wsX7_isLetter := goodIn_r _ [7, 1, 8, 9, 6, 10, 31, 32, 33, 34, 35, 36, 37, 38, 39, 40, 41, 42, 43, 44, 45, 46] (by decide +kernel) (by decide +kernel)
set_option maxRecDepth 20000 in
theorem gX7_ofLetter_X7_isLetter : GoodIn wsX7_ofLetter (wsV RX7 61 RX7 yX7_isLetter wsX7_isLetter) := goodIn_app (goodIn_of _ (by decide +kernel)) ggX7_ofLetter_X7_isLetter
set_option maxRecDepth 20000 in
theorem ggX7_ofLetter_X7_ofL : GoodIn wsX7_ofLetter wsX7_ofL := goodIn_r _ [13] (by decide +kernel) (by decide +kernel)
set_option maxRecDepth 20000 in
theorem gX7_ofLetter_X7_ofL : GoodIn wsX7_ofLetter (va_wsS RX7 47 yX7_ofL wsX7_ofL) := goodIn_app (goodIn_of _ (by decide +kernel)) ggX7_ofLetter_X7_ofL
set_option maxRecDepth 20000 in
theorem ggX7_ofLetter_X7_heat : GoodIn wsX7_ofLetter wsX7_heat := goodIn_r _ [17, 1, 11, 12, 6, 13, 31, 32, 33, 34, 35, 36, 37, 38, 39, 40, 41, 42, 43, 44, 45, 46] (by decide +kernel) (by decide +kernel)
set_option maxRecDepth 20000 in
theorem gX7_ofLetter_X7_heat : GoodIn wsX7_ofLetter (wsV RX7 50 RX7 yX7_heat wsX7_heat) := goodIn_app (goodIn_of _ (by decide +kernel)) ggX7_ofLetter_X7_heat
set_option maxRecDepth 20000 in
theorem ggX7_ofLetter_X7_findRegrets : GoodIn wsX7_ofLetter wsX7_findRegrets := goodIn_r _ [21, 22, 2, 1, 11, 12, 6, 13, 14, 15, 16, 17, 31, 32, 33, 34, 35, 36, 37, 38, 39, 40, 41, 42, 43, 44, 45, 46] (by decide +kernel) (by decide +kernel)
set_option maxRecDepth 20000 in
theorem gX7_ofLetter_X7_findRegrets : GoodIn wsX7_ofLetter (wsV RX7 101 RX7 yX7_findRegrets wsX7_findRegrets) := goodIn_app (goodIn_of _ (by decide +kernel)) ggX7_ofLetter_X7_findRegrets
set_option maxRecDepth 20000 in
theorem ggX7_ofLetter_X7_answering : GoodIn wsX7_ofLetter wsX7_answering := goodIn_r _ [26, 1, 11, 12, 6, 13, 31, 32, 33, 34, 35, 36, 37, 38, 39, 40, 41, 42, 43, 44, 45, 46] (by decide +kernel) (by decide +kernel)
set_option maxRecDepth 20000 in
theorem gX7_ofLetter_X7_answering : GoodIn wsX7_ofLetter (wsV RX7 104 RX7 yX7_answering wsX7_answering) := goodIn_app (goodIn_of _ (by decide +kernel)) ggX7_ofLetter_X7_answering
set_option maxRecDepth 20000 in
theorem ggX7_ofLetter_X7_depth : GoodIn wsX7_ofLetter wsX7_depth := goodIn_r _ [30, 1, 11, 12, 6, 13, 31, 32, 33, 34, 35, 36, 37, 38, 39, 40, 41, 42, 43, 44, 45, 46] (by decide +kernel) (by decide +kernel)
set_option maxRecDepth 20000 in
theorem gX7_ofLetter_X7_depth : GoodIn wsX7_ofLetter (wsV RX7 107 RX7 yX7_depth wsX7_depth) := goodIn_app (goodIn_of _ (by decide +kernel)) ggX7_ofLetter_X7_depth
theorem dX7_ofLetter_0 : decode cX7_ofLetter 0 = .ok (.aload_n 0, 1) := by decide +kernel
theorem dX7_ofLetter_1 : decode cX7_ofLetter 1 = .ok (.iload_n 1, 1) := by decide +kernel
theorem dX7_ofLetter_2 : decode cX7_ofLetter 2 = .ok (.invokevirtual 61, 3) := by decide +kernel
theorem dX7_ofLetter_5 : decode cX7_ofLetter 5 = .ok (.ifCond .ne 5, 3) := by decide +kernel
theorem dX7_ofLetter_8 : decode cX7_ofLetter 8 = .ok (.iconst (-1), 1) := by decide +kernel
theorem dX7_ofLetter_9 : decode cX7_ofLetter 9 = .ok (.ireturn, 1) := by decide +kernel
theorem dX7_ofLetter_10 : decode cX7_ofLetter 10 = .ok (.iload_n 2, 1) := by decide +kernel
theorem dX7_ofLetter_11 : decode cX7_ofLetter 11 = .ok (.tableswitch 108 0 9 #[53, 53, 64, 70, 70, 70, 70, 85, 96, 102], 53) := by decide +kernel
theorem dX7_ofLetter_64 : decode cX7_ofLetter 64 = .ok (.aload_n 0, 1) := by decide +kernel
theorem dX7_ofLetter_65 : decode cX7_ofLetter 65 = .ok (.getfield 7, 3) := by decide +kernel
theorem dX7_ofLetter_68 : decode cX7_ofLetter 68 = .ok (.iload_n 1, 1) := by decide +kernel
theorem dX7_ofLetter_69 : decode cX7_ofLetter 69 = .ok (.iload_n 2, 1) := by decide +kernel
theorem dX7_ofLetter_70 : decode cX7_ofLetter 70 = .ok (.invokestatic 47, 3) := by decide +kernel
theorem dX7_ofLetter_73 : decode cX7_ofLetter 73 = .ok (.iaload, 1) := by decide +kernel
theorem dX7_ofLetter_74 : decode cX7_ofLetter 74 = .ok (.ireturn, 1) := by decide +kernel
theorem dX7_ofLetter_75 : decode cX7_ofLetter 75 = .ok (.aload_n 0, 1) := by decide +kernel
theorem dX7_ofLetter_76 : decode cX7_ofLetter 76 = .ok (.iload_n 1, 1) := by decide +kernel
theorem dX7_ofLetter_77 : decode cX7_ofLetter 77 = .ok (.invokevirtual 50, 3) := by decide +kernel
theorem dX7_ofLetter_80 : decode cX7_ofLetter 80 = .ok (.ireturn, 1) := by decide +kernel
theorem dX7_ofLetter_81 : decode cX7_ofLetter 81 = .ok (.aload_n 0, 1) := by decide +kernel
theorem dX7_ofLetter_82 : decode cX7_ofLetter 82 = .ok (.getfield 7, 3) := by decide +kernel
theorem dX7_ofLetter_85 : decode cX7_ofLetter 85 = .ok (.iload_n 1, 1) := by decide +kernel
theorem dX7_ofLetter_86 : decode cX7_ofLetter 86 = .ok (.iconst 2, 1) := by decide +kernel
theorem dX7_ofLetter_87 : decode cX7_ofLetter 87 = .ok (.iload_n 2, 1) := by decide +kernel
theorem dX7_ofLetter_88 : decode cX7_ofLetter 88 = .ok (.iadd, 1) := by decide +kernel
theorem dX7_ofLetter_89 : decode cX7_ofLetter 89 = .ok (.iconst 3, 1) := by decide +kernel
theorem dX7_ofLetter_90 : decode cX7_ofLetter 90 = .ok (.isub, 1) := by decide +kernel
theorem dX7_ofLetter_91 : decode cX7_ofLetter 91 = .ok (.invokestatic 47, 3) := by decide +kernel
theorem dX7_ofLetter_94 : decode cX7_ofLetter 94 = .ok (.iaload, 1) := by decide +kernel
theorem dX7_ofLetter_95 : decode cX7_ofLetter 95 = .ok (.ireturn, 1) := by decide +kernel
theorem dX7_ofLetter_96 : decode cX7_ofLetter 96 = .ok (.aload_n 0, 1) := by decide +kernel
theorem dX7_ofLetter_97 : decode cX7_ofLetter 97 = .ok (.invokevirtual 101, 3) := by decide +kernel
theorem dX7_ofLetter_100 : decode cX7_ofLetter 100 = .ok (.aload_n 0, 1) := by decide +kernel
theorem dX7_ofLetter_101 : decode cX7_ofLetter 101 = .ok (.getfield 29, 3) := by decide +kernel
theorem dX7_ofLetter_104 : decode cX7_ofLetter 104 = .ok (.iload_n 1, 1) := by decide +kernel
theorem dX7_ofLetter_105 : decode cX7_ofLetter 105 = .ok (.iaload, 1) := by decide +kernel
theorem dX7_ofLetter_106 : decode cX7_ofLetter 106 = .ok (.ireturn, 1) := by decide +kernel
theorem dX7_ofLetter_107 : decode cX7_ofLetter 107 = .ok (.aload_n 0, 1) := by decide +kernel
theorem dX7_ofLetter_108 : decode cX7_ofLetter 108 = .ok (.iload_n 1, 1) := by decide +kernel
theorem dX7_ofLetter_109 : decode cX7_ofLetter 109 = .ok (.invokevirtual 104, 3) := by decide +kernel
theorem dX7_ofLetter_112 : decode cX7_ofLetter 112 = .ok (.ireturn, 1) := by decide +kernel
theorem dX7_ofLetter_113 : decode cX7_ofLetter 113 = .ok (.aload_n 0, 1) := by decide +kernel
theorem dX7_ofLetter_114 : decode cX7_ofLetter 114 = .ok (.iload_n 1, 1) := by decide +kernel
theorem dX7_ofLetter_115 : decode cX7_ofLetter 115 = .ok (.invokevirtual 107, 3) := by decide +kernel
theorem dX7_ofLetter_118 : decode cX7_ofLetter 118 = .ok (.ireturn, 1) := by decide +kernel
theorem dX7_ofLetter_119 : decode cX7_ofLetter 119 = .ok (.bipush (-2), 2) := by decide +kernel
theorem dX7_ofLetter_121 : decode cX7_ofLetter 121 = .ok (.ireturn, 1) := by decide +kernel
set_option maxRecDepth 20000 in
theorem ggX7_heatIn_X7_ofL : GoodIn wsX7_heatIn wsX7_ofL := goodIn_r _ [5] (by decide +kernel) (by decide +kernel)
set_option maxRecDepth 20000 in
theorem gX7_heatIn_X7_ofL : GoodIn wsX7_heatIn (va_wsS RX7 47 yX7_ofL wsX7_ofL) := goodIn_app (goodIn_of _ (by decide +kernel)) ggX7_heatIn_X7_ofL
set_option maxRecDepth 20000 in
theorem ggX7_heatIn_X7_heat : GoodIn wsX7_heatIn wsX7_heat := goodIn_r _ [9, 1, 2, 3, 4, 5, 10, 11, 12, 13, 14, 15, 16, 17, 18, 19, 20, 21, 22, 23, 24, 25] (by decide +kernel) (by decide +kernel)
set_option maxRecDepth 20000 in
theorem gX7_heatIn_X7_heat : GoodIn wsX7_heatIn (wsV RX7 50 RX7 yX7_heat wsX7_heat) := goodIn_app (goodIn_of _ (by decide +kernel)) ggX7_heatIn_X7_heat
theorem dX7_heatIn_0 : decode cX7_heatIn 0 = .ok (.iconst 0, 1) := by decide +kernel
theorem dX7_heatIn_1 : decode cX7_heatIn 1 = .ok (.istore_n 2, 1) := by decide +kernel
theorem dX7_heatIn_2 : decode cX7_heatIn 2 = .ok (.iconst 0, 1) := by decide +kernel
theorem dX7_heatIn_3 : decode cX7_heatIn 3 = .ok (.istore_n 3, 1) := by decide +kernel
theorem dX7_heatIn_4 : decode cX7_heatIn 4 = .ok (.iload_n 3, 1) := by decide +kernel
theorem dX7_heatIn_5 : decode cX7_heatIn 5 = .ok (.aload_n 0, 1) := by decide +kernel
theorem dX7_heatIn_6 : decode cX7_heatIn 6 = .ok (.getfield 7, 3) := by decide +kernel
theorem dX7_heatIn_9 : decode cX7_heatIn 9 = .ok (.iconst 5, 1) := by decide +kernel
theorem dX7_heatIn_10 : decode cX7_heatIn 10 = .ok (.iaload, 1) := by decide +kernel
theorem dX7_heatIn_11 : decode cX7_heatIn 11 = .ok (.if_icmp .ge 48, 3) := by decide +kernel
theorem dX7_heatIn_14 : decode cX7_heatIn 14 = .ok (.iload_n 2, 1) := by decide +kernel
theorem dX7_heatIn_15 : decode cX7_heatIn 15 = .ok (.aload_n 0, 1) := by decide +kernel
theorem dX7_heatIn_16 : decode cX7_heatIn 16 = .ok (.getfield 7, 3) := by decide +kernel
theorem dX7_heatIn_19 : decode cX7_heatIn 19 = .ok (.iload_n 3, 1) := by decide +kernel
theorem dX7_heatIn_20 : decode cX7_heatIn 20 = .ok (.iconst 0, 1) := by decide +kernel
theorem dX7_heatIn_21 : decode cX7_heatIn 21 = .ok (.invokestatic 47, 3) := by decide +kernel
theorem dX7_heatIn_24 : decode cX7_heatIn 24 = .ok (.iaload, 1) := by decide +kernel
theorem dX7_heatIn_25 : decode cX7_heatIn 25 = .ok (.iload_n 1, 1) := by decide +kernel
theorem dX7_heatIn_26 : decode cX7_heatIn 26 = .ok (.if_icmp .ne 24, 3) := by decide +kernel
theorem dX7_heatIn_29 : decode cX7_heatIn 29 = .ok (.aload_n 0, 1) := by decide +kernel
theorem dX7_heatIn_30 : decode cX7_heatIn 30 = .ok (.getfield 7, 3) := by decide +kernel
theorem dX7_heatIn_33 : decode cX7_heatIn 33 = .ok (.iload_n 3, 1) := by decide +kernel
theorem dX7_heatIn_34 : decode cX7_heatIn 34 = .ok (.iconst 3, 1) := by decide +kernel
theorem dX7_heatIn_35 : decode cX7_heatIn 35 = .ok (.invokestatic 47, 3) := by decide +kernel
theorem dX7_heatIn_38 : decode cX7_heatIn 38 = .ok (.iaload, 1) := by decide +kernel
theorem dX7_heatIn_39 : decode cX7_heatIn 39 = .ok (.ifCond .ne 11, 3) := by decide +kernel
theorem dX7_heatIn_42 : decode cX7_heatIn 42 = .ok (.aload_n 0, 1) := by decide +kernel
theorem dX7_heatIn_43 : decode cX7_heatIn 43 = .ok (.iload_n 3, 1) := by decide +kernel
theorem dX7_heatIn_44 : decode cX7_heatIn 44 = .ok (.invokevirtual 50, 3) := by decide +kernel
theorem dX7_heatIn_47 : decode cX7_heatIn 47 = .ok (.goto 4, 3) := by decide +kernel
theorem dX7_heatIn_50 : decode cX7_heatIn 50 = .ok (.iconst 0, 1) := by decide +kernel
theorem dX7_heatIn_51 : decode cX7_heatIn 51 = .ok (.iadd, 1) := by decide +kernel
theorem dX7_heatIn_52 : decode cX7_heatIn 52 = .ok (.istore_n 2, 1) := by decide +kernel
theorem dX7_heatIn_53 : decode cX7_heatIn 53 = .ok (.iinc 3 1, 3) := by decide +kernel
theorem dX7_heatIn_56 : decode cX7_heatIn 56 = .ok (.goto (-52), 3) := by decide +kernel
theorem dX7_heatIn_59 : decode cX7_heatIn 59 = .ok (.iload_n 2, 1) := by decide +kernel
theorem dX7_heatIn_60 : decode cX7_heatIn 60 = .ok (.ireturn, 1) := by decide +kernel
set_option maxRecDepth 20000 in
theorem ggX7_ofDrawer_X7_isMood : GoodIn wsX7_ofDrawer wsX7_isMood := goodIn_r _ [5, 6, 7, 4, 8] (by decide +kernel) (by decide +kernel)
set_option maxRecDepth 20000 in
theorem gX7_ofDrawer_X7_isMood : GoodIn wsX7_ofDrawer (va_wsS RX7 58 yX7_isMood wsX7_isMood) := goodIn_app (goodIn_of _ (by decide +kernel)) ggX7_ofDrawer_X7_isMood
set_option maxRecDepth 20000 in
theorem ggX7_ofDrawer_X7_many : GoodIn wsX7_ofDrawer wsX7_many := goodIn_r _ [12, 1, 13, 14, 4, 15, 27, 28, 29, 30, 31, 32, 33, 34, 35, 36, 37, 38, 39, 40, 41, 42] (by decide +kernel) (by decide +kernel)
set_option maxRecDepth 20000 in
theorem gX7_ofDrawer_X7_many : GoodIn wsX7_ofDrawer (wsV RX7 64 RX7 yX7_many wsX7_many) := goodIn_app (goodIn_of _ (by decide +kernel)) ggX7_ofDrawer_X7_many
set_option maxRecDepth 20000 in
theorem ggX7_ofDrawer_X7_ofD : GoodIn wsX7_ofDrawer wsX7_ofD := goodIn_r _ [18] (by decide +kernel) (by decide +kernel)
set_option maxRecDepth 20000 in
theorem gX7_ofDrawer_X7_ofD : GoodIn wsX7_ofDrawer (va_wsS RX7 35 yX7_ofD wsX7_ofD) := goodIn_app (goodIn_of _ (by decide +kernel)) ggX7_ofDrawer_X7_ofD
set_option maxRecDepth 20000 in
theorem ggX7_ofDrawer_X7_heatIn : GoodIn wsX7_ofDrawer wsX7_heatIn := goodIn_r _ [22, 1, 13, 14, 4, 15, 23, 24, 25, 26, 27, 28, 29, 30, 31, 32, 33, 34, 35, 36, 37, 38, 39, 40, 41, 42] (by decide +kernel) (by decide +kernel)
set_option maxRecDepth 20000 in
theorem gX7_ofDrawer_X7_heatIn : GoodIn wsX7_ofDrawer (wsV RX7 110 RX7 yX7_heatIn wsX7_heatIn) := goodIn_app (goodIn_of _ (by decide +kernel)) ggX7_ofDrawer_X7_heatIn
theorem dX7_ofDrawer_0 : decode cX7_ofDrawer 0 = .ok (.iload_n 1, 1) := by decide +kernel
theorem dX7_ofDrawer_1 : decode cX7_ofDrawer 1 = .ok (.invokestatic 58, 3) := by decide +kernel
theorem dX7_ofDrawer_4 : decode cX7_ofDrawer 4 = .ok (.ifCond .ne 5, 3) := by decide +kernel
theorem dX7_ofDrawer_7 : decode cX7_ofDrawer 7 = .ok (.iconst (-1), 1) := by decide +kernel
theorem dX7_ofDrawer_8 : decode cX7_ofDrawer 8 = .ok (.ireturn, 1) := by decide +kernel
theorem dX7_ofDrawer_9 : decode cX7_ofDrawer 9 = .ok (.iload_n 2, 1) := by decide +kernel
theorem dX7_ofDrawer_10 : decode cX7_ofDrawer 10 = .ok (.tableswitch 81 0 7 #[46, 53, 53, 53, 53, 66, 72, 72], 46) := by decide +kernel
theorem dX7_ofDrawer_56 : decode cX7_ofDrawer 56 = .ok (.aload_n 0, 1) := by decide +kernel
theorem dX7_ofDrawer_57 : decode cX7_ofDrawer 57 = .ok (.iload_n 1, 1) := by decide +kernel
theorem dX7_ofDrawer_58 : decode cX7_ofDrawer 58 = .ok (.iconst 0, 1) := by decide +kernel
theorem dX7_ofDrawer_59 : decode cX7_ofDrawer 59 = .ok (.invokevirtual 64, 3) := by decide +kernel
theorem dX7_ofDrawer_62 : decode cX7_ofDrawer 62 = .ok (.ireturn, 1) := by decide +kernel
theorem dX7_ofDrawer_63 : decode cX7_ofDrawer 63 = .ok (.aload_n 0, 1) := by decide +kernel
theorem dX7_ofDrawer_64 : decode cX7_ofDrawer 64 = .ok (.getfield 7, 3) := by decide +kernel
theorem dX7_ofDrawer_67 : decode cX7_ofDrawer 67 = .ok (.iload_n 1, 1) := by decide +kernel
theorem dX7_ofDrawer_68 : decode cX7_ofDrawer 68 = .ok (.iload_n 2, 1) := by decide +kernel
theorem dX7_ofDrawer_69 : decode cX7_ofDrawer 69 = .ok (.iconst 1, 1) := by decide +kernel
theorem dX7_ofDrawer_70 : decode cX7_ofDrawer 70 = .ok (.isub, 1) := by decide +kernel
theorem dX7_ofDrawer_71 : decode cX7_ofDrawer 71 = .ok (.invokestatic 35, 3) := by decide +kernel
theorem dX7_ofDrawer_74 : decode cX7_ofDrawer 74 = .ok (.iaload, 1) := by decide +kernel
theorem dX7_ofDrawer_75 : decode cX7_ofDrawer 75 = .ok (.ireturn, 1) := by decide +kernel
theorem dX7_ofDrawer_76 : decode cX7_ofDrawer 76 = .ok (.aload_n 0, 1) := by decide +kernel
theorem dX7_ofDrawer_77 : decode cX7_ofDrawer 77 = .ok (.iload_n 1, 1) := by decide +kernel
theorem dX7_ofDrawer_78 : decode cX7_ofDrawer 78 = .ok (.invokevirtual 110, 3) := by decide +kernel
theorem dX7_ofDrawer_81 : decode cX7_ofDrawer 81 = .ok (.ireturn, 1) := by decide +kernel
theorem dX7_ofDrawer_82 : decode cX7_ofDrawer 82 = .ok (.aload_n 0, 1) := by decide +kernel
theorem dX7_ofDrawer_83 : decode cX7_ofDrawer 83 = .ok (.iload_n 1, 1) := by decide +kernel
theorem dX7_ofDrawer_84 : decode cX7_ofDrawer 84 = .ok (.iload_n 2, 1) := by decide +kernel
theorem dX7_ofDrawer_85 : decode cX7_ofDrawer 85 = .ok (.iconst 5, 1) := by decide +kernel
theorem dX7_ofDrawer_86 : decode cX7_ofDrawer 86 = .ok (.isub, 1) := by decide +kernel
theorem dX7_ofDrawer_87 : decode cX7_ofDrawer 87 = .ok (.invokevirtual 64, 3) := by decide +kernel
theorem dX7_ofDrawer_90 : decode cX7_ofDrawer 90 = .ok (.ireturn, 1) := by decide +kernel
theorem dX7_ofDrawer_91 : decode cX7_ofDrawer 91 = .ok (.bipush (-2), 2) := by decide +kernel
theorem dX7_ofDrawer_93 : decode cX7_ofDrawer 93 = .ok (.ireturn, 1) := by decide +kernel
set_option maxRecDepth 20000 in
theorem ggX7_letters_X7_in : GoodIn wsX7_letters wsX7_in := goodIn_r _ [6] (by decide +kernel) (by decide +kernel)
set_option maxRecDepth 20000 in
theorem gX7_letters_X7_in : GoodIn wsX7_letters (va_wsS RX7 39 yX7_in wsX7_in) := goodIn_app (goodIn_of _ (by decide +kernel)) ggX7_letters_X7_in
set_option maxRecDepth 20000 in
theorem ggX7_letters_X7_wouldGo : GoodIn wsX7_letters wsX7_wouldGo := goodIn_r _ [10, 2, 11, 12, 5, 13, 14, 15, 16, 17, 18, 19, 20, 21, 22, 23, 24, 25, 26, 27, 28, 29, 30, 31, 32, 33, 34, 35, 36] (by decide +kernel) (by decide +kernel)
set_option maxRecDepth 20000 in
theorem gX7_letters_X7_wouldGo : GoodIn wsX7_letters (wsV RX7 54 RX7 yX7_wouldGo wsX7_wouldGo) := goodIn_app (goodIn_of _ (by decide +kernel)) ggX7_letters_X7_wouldGo
set_option maxRecDepth 20000 in
theorem ggX7_letters_X7_ofL : GoodIn wsX7_letters wsX7_ofL := goodIn_r _ [13] (by decide +kernel) (by decide +kernel)
set_option maxRecDepth 20000 in
theorem gX7_letters_X7_ofL : GoodIn wsX7_letters (va_wsS RX7 47 yX7_ofL wsX7_ofL) := goodIn_app (goodIn_of _ (by decide +kernel)) ggX7_letters_X7_ofL
theorem dX7_letters_0 : decode cX7_letters 0 = .ok (.iload_n 1, 1) := by decide +kernel
theorem dX7_letters_1 : decode cX7_letters 1 = .ok (.iconst 0, 1) := by decide +kernel
theorem dX7_letters_2 : decode cX7_letters 2 = .ok (.iconst 3, 1) := by decide +kernel
theorem dX7_letters_3 : decode cX7_letters 3 = .ok (.invokestatic 39, 3) := by decide +kernel
theorem dX7_letters_6 : decode cX7_letters 6 = .ok (.ifCond .ne 7, 3) := by decide +kernel
theorem dX7_letters_9 : decode cX7_letters 9 = .ok (.ldc2_w 113, 3) := by decide +kernel
theorem dX7_letters_12 : decode cX7_letters 12 = .ok (.lreturn, 1) := by decide +kernel
theorem dX7_letters_13 : decode cX7_letters 13 = .ok (.lconst 0, 1) := by decide +kernel
theorem dX7_letters_14 : decode cX7_letters 14 = .ok (.lstore_n 2, 1) := by decide +kernel
theorem dX7_letters_15 : decode cX7_letters 15 = .ok (.iconst 0, 1) := by decide +kernel
theorem dX7_letters_16 : decode cX7_letters 16 = .ok (.istore 4, 2) := by decide +kernel
theorem dX7_letters_18 : decode cX7_letters 18 = .ok (.iload 4, 2) := by decide +kernel
theorem dX7_letters_20 : decode cX7_letters 20 = .ok (.aload_n 0, 1) := by decide +kernel
theorem dX7_letters_21 : decode cX7_letters 21 = .ok (.getfield 7, 3) := by decide +kernel
theorem dX7_letters_24 : decode cX7_letters 24 = .ok (.iconst 5, 1) := by decide +kernel
theorem dX7_letters_25 : decode cX7_letters 25 = .ok (.iaload, 1) := by decide +kernel
theorem dX7_letters_26 : decode cX7_letters 26 = .ok (.if_icmp .ge 52, 3) := by decide +kernel
theorem dX7_letters_29 : decode cX7_letters 29 = .ok (.lload_n 2, 1) := by decide +kernel
theorem dX7_letters_30 : decode cX7_letters 30 = .ok (.iload_n 1, 1) := by decide +kernel
theorem dX7_letters_31 : decode cX7_letters 31 = .ok (.iconst 3, 1) := by decide +kernel
theorem dX7_letters_32 : decode cX7_letters 32 = .ok (.if_icmp .ne 15, 3) := by decide +kernel
theorem dX7_letters_35 : decode cX7_letters 35 = .ok (.aload_n 0, 1) := by decide +kernel
theorem dX7_letters_36 : decode cX7_letters 36 = .ok (.iload 4, 2) := by decide +kernel
theorem dX7_letters_38 : decode cX7_letters 38 = .ok (.invokevirtual 54, 3) := by decide +kernel
theorem dX7_letters_41 : decode cX7_letters 41 = .ok (.ifCond .eq 28, 3) := by decide +kernel
theorem dX7_letters_44 : decode cX7_letters 44 = .ok (.goto 18, 3) := by decide +kernel
theorem dX7_letters_47 : decode cX7_letters 47 = .ok (.aload_n 0, 1) := by decide +kernel
theorem dX7_letters_48 : decode cX7_letters 48 = .ok (.getfield 7, 3) := by decide +kernel
theorem dX7_letters_51 : decode cX7_letters 51 = .ok (.iload 4, 2) := by decide +kernel
theorem dX7_letters_53 : decode cX7_letters 53 = .ok (.iconst 3, 1) := by decide +kernel
theorem dX7_letters_54 : decode cX7_letters 54 = .ok (.invokestatic 47, 3) := by decide +kernel
theorem dX7_letters_57 : decode cX7_letters 57 = .ok (.iaload, 1) := by decide +kernel
theorem dX7_letters_58 : decode cX7_letters 58 = .ok (.iload_n 1, 1) := by decide +kernel
theorem dX7_letters_59 : decode cX7_letters 59 = .ok (.if_icmp .ne 10, 3) := by decide +kernel
theorem dX7_letters_62 : decode cX7_letters 62 = .ok (.lconst 1, 1) := by decide +kernel
theorem dX7_letters_63 : decode cX7_letters 63 = .ok (.iload 4, 2) := by decide +kernel
theorem dX7_letters_65 : decode cX7_letters 65 = .ok (.lshl, 1) := by decide +kernel
theorem dX7_letters_66 : decode cX7_letters 66 = .ok (.goto 4, 3) := by decide +kernel
theorem dX7_letters_69 : decode cX7_letters 69 = .ok (.lconst 0, 1) := by decide +kernel
theorem dX7_letters_70 : decode cX7_letters 70 = .ok (.lor, 1) := by decide +kernel
theorem dX7_letters_71 : decode cX7_letters 71 = .ok (.lstore_n 2, 1) := by decide +kernel
theorem dX7_letters_72 : decode cX7_letters 72 = .ok (.iinc 4 1, 3) := by decide +kernel
theorem dX7_letters_75 : decode cX7_letters 75 = .ok (.goto (-57), 3) := by decide +kernel
theorem dX7_letters_78 : decode cX7_letters 78 = .ok (.lload_n 2, 1) := by decide +kernel
theorem dX7_letters_79 : decode cX7_letters 79 = .ok (.lreturn, 1) := by decide +kernel
set_option maxRecDepth 20000 in
theorem ggX7_locked_X7_ofD : GoodIn wsX7_locked wsX7_ofD := goodIn_r _ [5] (by decide +kernel) (by decide +kernel)
set_option maxRecDepth 20000 in
theorem gX7_locked_X7_ofD : GoodIn wsX7_locked (va_wsS RX7 35 yX7_ofD wsX7_ofD) := goodIn_app (goodIn_of _ (by decide +kernel)) ggX7_locked_X7_ofD
theorem dX7_locked_0 : decode cX7_locked 0 = .ok (.iconst 0, 1) := by decide +kernel
theorem dX7_locked_1 : decode cX7_locked 1 = .ok (.istore_n 1, 1) := by decide +kernel
theorem dX7_locked_2 : decode cX7_locked 2 = .ok (.iconst 0, 1) := by decide +kernel
theorem dX7_locked_3 : decode cX7_locked 3 = .ok (.istore_n 2, 1) := by decide +kernel
theorem dX7_locked_4 : decode cX7_locked 4 = .ok (.iload_n 2, 1) := by decide +kernel
theorem dX7_locked_5 : decode cX7_locked 5 = .ok (.bipush 6, 2) := by decide +kernel
theorem dX7_locked_7 : decode cX7_locked 7 = .ok (.if_icmp .ge 22, 3) := by decide +kernel
theorem dX7_locked_10 : decode cX7_locked 10 = .ok (.iload_n 1, 1) := by decide +kernel
theorem dX7_locked_11 : decode cX7_locked 11 = .ok (.aload_n 0, 1) := by decide +kernel
theorem dX7_locked_12 : decode cX7_locked 12 = .ok (.getfield 7, 3) := by decide +kernel
theorem dX7_locked_15 : decode cX7_locked 15 = .ok (.iload_n 2, 1) := by decide +kernel
theorem dX7_locked_16 : decode cX7_locked 16 = .ok (.iconst 0, 1) := by decide +kernel
theorem dX7_locked_17 : decode cX7_locked 17 = .ok (.invokestatic 35, 3) := by decide +kernel
theorem dX7_locked_20 : decode cX7_locked 20 = .ok (.iaload, 1) := by decide +kernel
theorem dX7_locked_21 : decode cX7_locked 21 = .ok (.iadd, 1) := by decide +kernel
theorem dX7_locked_22 : decode cX7_locked 22 = .ok (.istore_n 1, 1) := by decide +kernel
theorem dX7_locked_23 : decode cX7_locked 23 = .ok (.iinc 2 1, 3) := by decide +kernel
theorem dX7_locked_26 : decode cX7_locked 26 = .ok (.goto (-22), 3) := by decide +kernel
theorem dX7_locked_29 : decode cX7_locked 29 = .ok (.iload_n 1, 1) := by decide +kernel
theorem dX7_locked_30 : decode cX7_locked 30 = .ok (.ireturn, 1) := by decide +kernel
set_option maxRecDepth 20000 in
theorem ggX7_count_X7_many : GoodIn wsX7_count wsX7_many := goodIn_r _ [8, 1, 9, 10, 7, 11, 19, 20, 21, 22, 23, 24, 25, 26, 27, 28, 29, 30, 31, 32, 33, 34] (by decide +kernel) (by decide +kernel)
set_option maxRecDepth 20000 in
theorem gX7_count_X7_many : GoodIn wsX7_count (wsV RX7 64 RX7 yX7_many wsX7_many) := goodIn_app (goodIn_of _ (by decide +kernel)) ggX7_count_X7_many
set_option maxRecDepth 20000 in
theorem ggX7_count_X7_locked : GoodIn wsX7_count wsX7_locked := goodIn_r _ [15, 1, 16, 17, 7, 18, 19, 20, 21, 22, 23, 24, 25, 26, 27, 28, 29, 30, 31, 32, 33, 34] (by decide +kernel) (by decide +kernel)
set_option maxRecDepth 20000 in
theorem gX7_count_X7_locked : GoodIn wsX7_count (wsV RX7 115 RX7 yX7_locked wsX7_locked) := goodIn_app (goodIn_of _ (by decide +kernel)) ggX7_count_X7_locked
theorem dX7_count_0 : decode cX7_count 0 = .ok (.iload_n 1, 1) := by decide +kernel
theorem dX7_count_1 : decode cX7_count 1 = .ok (.tableswitch 109 0 11 #[63, 63, 63, 72, 72, 72, 82, 87, 87, 87, 99, 104], 63) := by decide +kernel
theorem dX7_count_64 : decode cX7_count 64 = .ok (.aload_n 0, 1) := by decide +kernel
theorem dX7_count_65 : decode cX7_count 65 = .ok (.getfield 7, 3) := by decide +kernel
theorem dX7_count_68 : decode cX7_count 68 = .ok (.iconst 3, 1) := by decide +kernel
theorem dX7_count_69 : decode cX7_count 69 = .ok (.iload_n 1, 1) := by decide +kernel
theorem dX7_count_70 : decode cX7_count 70 = .ok (.iadd, 1) := by decide +kernel
theorem dX7_count_71 : decode cX7_count 71 = .ok (.iaload, 1) := by decide +kernel
theorem dX7_count_72 : decode cX7_count 72 = .ok (.ireturn, 1) := by decide +kernel
theorem dX7_count_73 : decode cX7_count 73 = .ok (.aload_n 0, 1) := by decide +kernel
theorem dX7_count_74 : decode cX7_count 74 = .ok (.bipush 6, 2) := by decide +kernel
theorem dX7_count_76 : decode cX7_count 76 = .ok (.iload_n 1, 1) := by decide +kernel
theorem dX7_count_77 : decode cX7_count 77 = .ok (.iconst 3, 1) := by decide +kernel
theorem dX7_count_78 : decode cX7_count 78 = .ok (.isub, 1) := by decide +kernel
theorem dX7_count_79 : decode cX7_count 79 = .ok (.invokevirtual 64, 3) := by decide +kernel
theorem dX7_count_82 : decode cX7_count 82 = .ok (.ireturn, 1) := by decide +kernel
theorem dX7_count_83 : decode cX7_count 83 = .ok (.aload_n 0, 1) := by decide +kernel
theorem dX7_count_84 : decode cX7_count 84 = .ok (.invokevirtual 115, 3) := by decide +kernel
theorem dX7_count_87 : decode cX7_count 87 = .ok (.ireturn, 1) := by decide +kernel
theorem dX7_count_88 : decode cX7_count 88 = .ok (.aload_n 0, 1) := by decide +kernel
theorem dX7_count_89 : decode cX7_count 89 = .ok (.getfield 7, 3) := by decide +kernel
theorem dX7_count_92 : decode cX7_count 92 = .ok (.iconst 0, 1) := by decide +kernel
theorem dX7_count_93 : decode cX7_count 93 = .ok (.iload_n 1, 1) := by decide +kernel
theorem dX7_count_94 : decode cX7_count 94 = .ok (.iadd, 1) := by decide +kernel
theorem dX7_count_95 : decode cX7_count 95 = .ok (.bipush 7, 2) := by decide +kernel
theorem dX7_count_97 : decode cX7_count 97 = .ok (.isub, 1) := by decide +kernel
theorem dX7_count_98 : decode cX7_count 98 = .ok (.iaload, 1) := by decide +kernel
theorem dX7_count_99 : decode cX7_count 99 = .ok (.ireturn, 1) := by decide +kernel
theorem dX7_count_100 : decode cX7_count 100 = .ok (.aload_n 0, 1) := by decide +kernel
theorem dX7_count_101 : decode cX7_count 101 = .ok (.getfield 119, 3) := by decide +kernel
theorem dX7_count_104 : decode cX7_count 104 = .ok (.ireturn, 1) := by decide +kernel
theorem dX7_count_105 : decode cX7_count 105 = .ok (.aload_n 0, 1) := by decide +kernel
theorem dX7_count_106 : decode cX7_count 106 = .ok (.getfield 43, 3) := by decide +kernel
theorem dX7_count_109 : decode cX7_count 109 = .ok (.ireturn, 1) := by decide +kernel
theorem dX7_count_110 : decode cX7_count 110 = .ok (.bipush (-2), 2) := by decide +kernel
theorem dX7_count_112 : decode cX7_count 112 = .ok (.ireturn, 1) := by decide +kernel
theorem dX7_bitsOf_0 : decode cX7_bitsOf 0 = .ok (.fload_n 0, 1) := by decide +kernel
theorem dX7_bitsOf_1 : decode cX7_bitsOf 1 = .ok (.fconst 0, 1) := by decide +kernel
theorem dX7_bitsOf_2 : decode cX7_bitsOf 2 = .ok (.fcmp .l, 1) := by decide +kernel
theorem dX7_bitsOf_3 : decode cX7_bitsOf 3 = .ok (.ifCond .ne 5, 3) := by decide +kernel
theorem dX7_bitsOf_6 : decode cX7_bitsOf 6 = .ok (.iconst 0, 1) := by decide +kernel
theorem dX7_bitsOf_7 : decode cX7_bitsOf 7 = .ok (.ireturn, 1) := by decide +kernel
theorem dX7_bitsOf_8 : decode cX7_bitsOf 8 = .ok (.bipush 127, 2) := by decide +kernel
theorem dX7_bitsOf_10 : decode cX7_bitsOf 10 = .ok (.istore_n 1, 1) := by decide +kernel
theorem dX7_bitsOf_11 : decode cX7_bitsOf 11 = .ok (.fload_n 0, 1) := by decide +kernel
theorem dX7_bitsOf_12 : decode cX7_bitsOf 12 = .ok (.fstore_n 2, 1) := by decide +kernel
theorem dX7_bitsOf_13 : decode cX7_bitsOf 13 = .ok (.fload_n 2, 1) := by decide +kernel
theorem dX7_bitsOf_14 : decode cX7_bitsOf 14 = .ok (.fconst 1, 1) := by decide +kernel
theorem dX7_bitsOf_15 : decode cX7_bitsOf 15 = .ok (.fcmp .g, 1) := by decide +kernel
theorem dX7_bitsOf_16 : decode cX7_bitsOf 16 = .ok (.ifCond .ge 13, 3) := by decide +kernel
theorem dX7_bitsOf_19 : decode cX7_bitsOf 19 = .ok (.fload_n 2, 1) := by decide +kernel
theorem dX7_bitsOf_20 : decode cX7_bitsOf 20 = .ok (.fconst 2, 1) := by decide +kernel
theorem dX7_bitsOf_21 : decode cX7_bitsOf 21 = .ok (.fmul, 1) := by decide +kernel
theorem dX7_bitsOf_22 : decode cX7_bitsOf 22 = .ok (.fstore_n 2, 1) := by decide +kernel
theorem dX7_bitsOf_23 : decode cX7_bitsOf 23 = .ok (.iinc 1 (-1), 3) := by decide +kernel
theorem dX7_bitsOf_26 : decode cX7_bitsOf 26 = .ok (.goto (-13), 3) := by decide +kernel
theorem dX7_bitsOf_29 : decode cX7_bitsOf 29 = .ok (.iload_n 1, 1) := by decide +kernel
theorem dX7_bitsOf_30 : decode cX7_bitsOf 30 = .ok (.ldc 122, 2) := by decide +kernel
theorem dX7_bitsOf_32 : decode cX7_bitsOf 32 = .ok (.imul, 1) := by decide +kernel
theorem dX7_bitsOf_33 : decode cX7_bitsOf 33 = .ok (.fload_n 2, 1) := by decide +kernel
theorem dX7_bitsOf_34 : decode cX7_bitsOf 34 = .ok (.fconst 1, 1) := by decide +kernel
theorem dX7_bitsOf_35 : decode cX7_bitsOf 35 = .ok (.fsub, 1) := by decide +kernel
theorem dX7_bitsOf_36 : decode cX7_bitsOf 36 = .ok (.ldc 123, 2) := by decide +kernel
theorem dX7_bitsOf_38 : decode cX7_bitsOf 38 = .ok (.fmul, 1) := by decide +kernel
theorem dX7_bitsOf_39 : decode cX7_bitsOf 39 = .ok (.f2i, 1) := by decide +kernel
theorem dX7_bitsOf_40 : decode cX7_bitsOf 40 = .ok (.iadd, 1) := by decide +kernel
theorem dX7_bitsOf_41 : decode cX7_bitsOf 41 = .ok (.ireturn, 1) := by decide +kernel
theorem dX7_bitsOfDouble_0 : decode cX7_bitsOfDouble 0 = .ok (.dload_n 0, 1) := by decide +kernel
theorem dX7_bitsOfDouble_1 : decode cX7_bitsOfDouble 1 = .ok (.dconst 0, 1) := by decide +kernel
theorem dX7_bitsOfDouble_2 : decode cX7_bitsOfDouble 2 = .ok (.dcmp .l, 1) := by decide +kernel
theorem dX7_bitsOfDouble_3 : decode cX7_bitsOfDouble 3 = .ok (.ifCond .ne 5, 3) := by decide +kernel
theorem dX7_bitsOfDouble_6 : decode cX7_bitsOfDouble 6 = .ok (.lconst 0, 1) := by decide +kernel
theorem dX7_bitsOfDouble_7 : decode cX7_bitsOfDouble 7 = .ok (.lreturn, 1) := by decide +kernel
theorem dX7_bitsOfDouble_8 : decode cX7_bitsOfDouble 8 = .ok (.ldc2_w 124, 3) := by decide +kernel
theorem dX7_bitsOfDouble_11 : decode cX7_bitsOfDouble 11 = .ok (.lstore_n 2, 1) := by decide +kernel
theorem dX7_bitsOfDouble_12 : decode cX7_bitsOfDouble 12 = .ok (.dload_n 0, 1) := by decide +kernel
theorem dX7_bitsOfDouble_13 : decode cX7_bitsOfDouble 13 = .ok (.dstore 4, 2) := by decide +kernel
theorem dX7_bitsOfDouble_15 : decode cX7_bitsOfDouble 15 = .ok (.dload 4, 2) := by decide +kernel
theorem dX7_bitsOfDouble_17 : decode cX7_bitsOfDouble 17 = .ok (.dconst 1, 1) := by decide +kernel
theorem dX7_bitsOfDouble_18 : decode cX7_bitsOfDouble 18 = .ok (.dcmp .g, 1) := by decide +kernel
theorem dX7_bitsOfDouble_19 : decode cX7_bitsOfDouble 19 = .ok (.ifCond .ge 18, 3) := by decide +kernel
theorem dX7_bitsOfDouble_22 : decode cX7_bitsOfDouble 22 = .ok (.dload 4, 2) := by decide +kernel
theorem dX7_bitsOfDouble_24 : decode cX7_bitsOfDouble 24 = .ok (.ldc2_w 126, 3) := by decide +kernel
theorem dX7_bitsOfDouble_27 : decode cX7_bitsOfDouble 27 = .ok (.dmul, 1) := by decide +kernel
theorem dX7_bitsOfDouble_28 : decode cX7_bitsOfDouble 28 = .ok (.dstore 4, 2) := by decide +kernel
theorem dX7_bitsOfDouble_30 : decode cX7_bitsOfDouble 30 = .ok (.lload_n 2, 1) := by decide +kernel
theorem dX7_bitsOfDouble_31 : decode cX7_bitsOfDouble 31 = .ok (.lconst 1, 1) := by decide +kernel
theorem dX7_bitsOfDouble_32 : decode cX7_bitsOfDouble 32 = .ok (.lsub, 1) := by decide +kernel
theorem dX7_bitsOfDouble_33 : decode cX7_bitsOfDouble 33 = .ok (.lstore_n 2, 1) := by decide +kernel
theorem dX7_bitsOfDouble_34 : decode cX7_bitsOfDouble 34 = .ok (.goto (-19), 3) := by decide +kernel
theorem dX7_bitsOfDouble_37 : decode cX7_bitsOfDouble 37 = .ok (.dload 4, 2) := by decide +kernel
theorem dX7_bitsOfDouble_39 : decode cX7_bitsOfDouble 39 = .ok (.ldc2_w 126, 3) := by decide +kernel
theorem dX7_bitsOfDouble_42 : decode cX7_bitsOfDouble 42 = .ok (.dcmp .l, 1) := by decide +kernel
theorem dX7_bitsOfDouble_43 : decode cX7_bitsOfDouble 43 = .ok (.ifCond .lt 18, 3) := by decide +kernel
theorem dX7_bitsOfDouble_46 : decode cX7_bitsOfDouble 46 = .ok (.dload 4, 2) := by decide +kernel
theorem dX7_bitsOfDouble_48 : decode cX7_bitsOfDouble 48 = .ok (.ldc2_w 128, 3) := by decide +kernel
theorem dX7_bitsOfDouble_51 : decode cX7_bitsOfDouble 51 = .ok (.dmul, 1) := by decide +kernel
theorem dX7_bitsOfDouble_52 : decode cX7_bitsOfDouble 52 = .ok (.dstore 4, 2) := by decide +kernel
theorem dX7_bitsOfDouble_54 : decode cX7_bitsOfDouble 54 = .ok (.lload_n 2, 1) := by decide +kernel
theorem dX7_bitsOfDouble_55 : decode cX7_bitsOfDouble 55 = .ok (.lconst 1, 1) := by decide +kernel
theorem dX7_bitsOfDouble_56 : decode cX7_bitsOfDouble 56 = .ok (.ladd, 1) := by decide +kernel
theorem dX7_bitsOfDouble_57 : decode cX7_bitsOfDouble 57 = .ok (.lstore_n 2, 1) := by decide +kernel
theorem dX7_bitsOfDouble_58 : decode cX7_bitsOfDouble 58 = .ok (.goto (-21), 3) := by decide +kernel
theorem dX7_bitsOfDouble_61 : decode cX7_bitsOfDouble 61 = .ok (.lload_n 2, 1) := by decide +kernel
theorem dX7_bitsOfDouble_62 : decode cX7_bitsOfDouble 62 = .ok (.ldc2_w 130, 3) := by decide +kernel
theorem dX7_bitsOfDouble_65 : decode cX7_bitsOfDouble 65 = .ok (.lmul, 1) := by decide +kernel
theorem dX7_bitsOfDouble_66 : decode cX7_bitsOfDouble 66 = .ok (.dload 4, 2) := by decide +kernel
theorem dX7_bitsOfDouble_68 : decode cX7_bitsOfDouble 68 = .ok (.dconst 1, 1) := by decide +kernel
theorem dX7_bitsOfDouble_69 : decode cX7_bitsOfDouble 69 = .ok (.dsub, 1) := by decide +kernel
theorem dX7_bitsOfDouble_70 : decode cX7_bitsOfDouble 70 = .ok (.ldc2_w 132, 3) := by decide +kernel
theorem dX7_bitsOfDouble_73 : decode cX7_bitsOfDouble 73 = .ok (.dmul, 1) := by decide +kernel
theorem dX7_bitsOfDouble_74 : decode cX7_bitsOfDouble 74 = .ok (.d2l, 1) := by decide +kernel
theorem dX7_bitsOfDouble_75 : decode cX7_bitsOfDouble 75 = .ok (.ladd, 1) := by decide +kernel
theorem dX7_bitsOfDouble_76 : decode cX7_bitsOfDouble 76 = .ok (.lreturn, 1) := by decide +kernel
set_option maxRecDepth 20000 in
theorem ggX7_meanHeat_X7_ofL : GoodIn wsX7_meanHeat wsX7_ofL := goodIn_r _ [5] (by decide +kernel) (by decide +kernel)
set_option maxRecDepth 20000 in
theorem gX7_meanHeat_X7_ofL : GoodIn wsX7_meanHeat (va_wsS RX7 47 yX7_ofL wsX7_ofL) := goodIn_app (goodIn_of _ (by decide +kernel)) ggX7_meanHeat_X7_ofL
set_option maxRecDepth 20000 in
theorem ggX7_meanHeat_X7_heat : GoodIn wsX7_meanHeat wsX7_heat := goodIn_r _ [9, 1, 2, 3, 4, 5, 22, 23, 24, 25, 26, 27, 28, 29, 30, 31, 32, 33, 34, 35, 36, 37] (by decide +kernel) (by decide +kernel)
set_option maxRecDepth 20000 in
theorem gX7_meanHeat_X7_heat : GoodIn wsX7_meanHeat (wsV RX7 50 RX7 yX7_heat wsX7_heat) := goodIn_app (goodIn_of _ (by decide +kernel)) ggX7_meanHeat_X7_heat
set_option maxRecDepth 20000 in
theorem ggX7_meanHeat_X7_many : GoodIn wsX7_meanHeat wsX7_many := goodIn_r _ [13, 1, 2, 3, 4, 5, 22, 23, 24, 25, 26, 27, 28, 29, 30, 31, 32, 33, 34, 35, 36, 37] (by decide +kernel) (by decide +kernel)
set_option maxRecDepth 20000 in
theorem gX7_meanHeat_X7_many : GoodIn wsX7_meanHeat (wsV RX7 64 RX7 yX7_many wsX7_many) := goodIn_app (goodIn_of _ (by decide +kernel)) ggX7_meanHeat_X7_many
set_option maxRecDepth 20000 in
theorem ggX7_meanHeat_X7_bitsOfDouble : GoodIn wsX7_meanHeat wsX7_bitsOfDouble := goodIn_r _ [16, 17, 18, 19, 20, 21] (by decide +kernel) (by decide +kernel)
set_option maxRecDepth 20000 in
theorem gX7_meanHeat_X7_bitsOfDouble : GoodIn wsX7_meanHeat (va_wsS RX7 134 yX7_bitsOfDouble wsX7_bitsOfDouble) := goodIn_app (goodIn_of _ (by decide +kernel)) ggX7_meanHeat_X7_bitsOfDouble
theorem dX7_meanHeat_0 : decode cX7_meanHeat 0 = .ok (.iconst 0, 1) := by decide +kernel
theorem dX7_meanHeat_1 : decode cX7_meanHeat 1 = .ok (.istore_n 1, 1) := by decide +kernel
theorem dX7_meanHeat_2 : decode cX7_meanHeat 2 = .ok (.iconst 0, 1) := by decide +kernel
theorem dX7_meanHeat_3 : decode cX7_meanHeat 3 = .ok (.istore_n 2, 1) := by decide +kernel
theorem dX7_meanHeat_4 : decode cX7_meanHeat 4 = .ok (.iload_n 2, 1) := by decide +kernel
theorem dX7_meanHeat_5 : decode cX7_meanHeat 5 = .ok (.aload_n 0, 1) := by decide +kernel
theorem dX7_meanHeat_6 : decode cX7_meanHeat 6 = .ok (.getfield 7, 3) := by decide +kernel
theorem dX7_meanHeat_9 : decode cX7_meanHeat 9 = .ok (.iconst 5, 1) := by decide +kernel
theorem dX7_meanHeat_10 : decode cX7_meanHeat 10 = .ok (.iaload, 1) := by decide +kernel
theorem dX7_meanHeat_11 : decode cX7_meanHeat 11 = .ok (.if_icmp .ge 35, 3) := by decide +kernel
theorem dX7_meanHeat_14 : decode cX7_meanHeat 14 = .ok (.iload_n 1, 1) := by decide +kernel
theorem dX7_meanHeat_15 : decode cX7_meanHeat 15 = .ok (.aload_n 0, 1) := by decide +kernel
theorem dX7_meanHeat_16 : decode cX7_meanHeat 16 = .ok (.getfield 7, 3) := by decide +kernel
theorem dX7_meanHeat_19 : decode cX7_meanHeat 19 = .ok (.iload_n 2, 1) := by decide +kernel
theorem dX7_meanHeat_20 : decode cX7_meanHeat 20 = .ok (.iconst 3, 1) := by decide +kernel
theorem dX7_meanHeat_21 : decode cX7_meanHeat 21 = .ok (.invokestatic 47, 3) := by decide +kernel
theorem dX7_meanHeat_24 : decode cX7_meanHeat 24 = .ok (.iaload, 1) := by decide +kernel
theorem dX7_meanHeat_25 : decode cX7_meanHeat 25 = .ok (.iconst 1, 1) := by decide +kernel
theorem dX7_meanHeat_26 : decode cX7_meanHeat 26 = .ok (.if_icmp .ne 11, 3) := by decide +kernel
theorem dX7_meanHeat_29 : decode cX7_meanHeat 29 = .ok (.aload_n 0, 1) := by decide +kernel
theorem dX7_meanHeat_30 : decode cX7_meanHeat 30 = .ok (.iload_n 2, 1) := by decide +kernel
theorem dX7_meanHeat_31 : decode cX7_meanHeat 31 = .ok (.invokevirtual 50, 3) := by decide +kernel
theorem dX7_meanHeat_34 : decode cX7_meanHeat 34 = .ok (.goto 4, 3) := by decide +kernel
theorem dX7_meanHeat_37 : decode cX7_meanHeat 37 = .ok (.iconst 0, 1) := by decide +kernel
theorem dX7_meanHeat_38 : decode cX7_meanHeat 38 = .ok (.iadd, 1) := by decide +kernel
theorem dX7_meanHeat_39 : decode cX7_meanHeat 39 = .ok (.istore_n 1, 1) := by decide +kernel
theorem dX7_meanHeat_40 : decode cX7_meanHeat 40 = .ok (.iinc 2 1, 3) := by decide +kernel
theorem dX7_meanHeat_43 : decode cX7_meanHeat 43 = .ok (.goto (-39), 3) := by decide +kernel
theorem dX7_meanHeat_46 : decode cX7_meanHeat 46 = .ok (.aload_n 0, 1) := by decide +kernel
theorem dX7_meanHeat_47 : decode cX7_meanHeat 47 = .ok (.bipush 6, 2) := by decide +kernel
theorem dX7_meanHeat_49 : decode cX7_meanHeat 49 = .ok (.iconst 1, 1) := by decide +kernel
theorem dX7_meanHeat_50 : decode cX7_meanHeat 50 = .ok (.invokevirtual 64, 3) := by decide +kernel
theorem dX7_meanHeat_53 : decode cX7_meanHeat 53 = .ok (.istore_n 2, 1) := by decide +kernel
theorem dX7_meanHeat_54 : decode cX7_meanHeat 54 = .ok (.iload_n 2, 1) := by decide +kernel
theorem dX7_meanHeat_55 : decode cX7_meanHeat 55 = .ok (.ifCond .ne 7, 3) := by decide +kernel
theorem dX7_meanHeat_58 : decode cX7_meanHeat 58 = .ok (.lconst 0, 1) := by decide +kernel
theorem dX7_meanHeat_59 : decode cX7_meanHeat 59 = .ok (.goto 11, 3) := by decide +kernel
theorem dX7_meanHeat_62 : decode cX7_meanHeat 62 = .ok (.iload_n 1, 1) := by decide +kernel
theorem dX7_meanHeat_63 : decode cX7_meanHeat 63 = .ok (.i2d, 1) := by decide +kernel
theorem dX7_meanHeat_64 : decode cX7_meanHeat 64 = .ok (.iload_n 2, 1) := by decide +kernel
theorem dX7_meanHeat_65 : decode cX7_meanHeat 65 = .ok (.i2d, 1) := by decide +kernel
theorem dX7_meanHeat_66 : decode cX7_meanHeat 66 = .ok (.ddiv, 1) := by decide +kernel
theorem dX7_meanHeat_67 : decode cX7_meanHeat 67 = .ok (.invokestatic 134, 3) := by decide +kernel
theorem dX7_meanHeat_70 : decode cX7_meanHeat 70 = .ok (.lreturn, 1) := by decide +kernel
set_option maxRecDepth 20000 in
theorem ggX7_share_X7_many : GoodIn wsX7_share wsX7_many := goodIn_r _ [6, 1, 7, 8, 5, 9, 15, 16, 17, 18, 19, 20, 21, 22, 23, 24, 25, 26, 27, 28, 29, 30] (by decide +kernel) (by decide +kernel)
set_option maxRecDepth 20000 in
theorem gX7_share_X7_many : GoodIn wsX7_share (wsV RX7 64 RX7 yX7_many wsX7_many) := goodIn_app (goodIn_of _ (by decide +kernel)) ggX7_share_X7_many
set_option maxRecDepth 20000 in
theorem ggX7_share_X7_bitsOf : GoodIn wsX7_share wsX7_bitsOf := goodIn_r _ [12, 13, 14] (by decide +kernel) (by decide +kernel)
set_option maxRecDepth 20000 in
theorem gX7_share_X7_bitsOf : GoodIn wsX7_share (va_wsS RX7 138 yX7_bitsOf wsX7_bitsOf) := goodIn_app (goodIn_of _ (by decide +kernel)) ggX7_share_X7_bitsOf
theorem dX7_share_0 : decode cX7_share 0 = .ok (.aload_n 0, 1) := by decide +kernel
theorem dX7_share_1 : decode cX7_share 1 = .ok (.getfield 7, 3) := by decide +kernel
theorem dX7_share_4 : decode cX7_share 4 = .ok (.iconst 5, 1) := by decide +kernel
theorem dX7_share_5 : decode cX7_share 5 = .ok (.iaload, 1) := by decide +kernel
theorem dX7_share_6 : decode cX7_share 6 = .ok (.ifCond .ne 8, 3) := by decide +kernel
theorem dX7_share_9 : decode cX7_share 9 = .ok (.bipush (-6), 2) := by decide +kernel
theorem dX7_share_11 : decode cX7_share 11 = .ok (.goto 22, 3) := by decide +kernel
theorem dX7_share_14 : decode cX7_share 14 = .ok (.aload_n 0, 1) := by decide +kernel
theorem dX7_share_15 : decode cX7_share 15 = .ok (.bipush 6, 2) := by decide +kernel
theorem dX7_share_17 : decode cX7_share 17 = .ok (.iconst 1, 1) := by decide +kernel
theorem dX7_share_18 : decode cX7_share 18 = .ok (.invokevirtual 64, 3) := by decide +kernel
theorem dX7_share_21 : decode cX7_share 21 = .ok (.i2f, 1) := by decide +kernel
theorem dX7_share_22 : decode cX7_share 22 = .ok (.aload_n 0, 1) := by decide +kernel
theorem dX7_share_23 : decode cX7_share 23 = .ok (.getfield 7, 3) := by decide +kernel
theorem dX7_share_26 : decode cX7_share 26 = .ok (.iconst 5, 1) := by decide +kernel
theorem dX7_share_27 : decode cX7_share 27 = .ok (.iaload, 1) := by decide +kernel
theorem dX7_share_28 : decode cX7_share 28 = .ok (.i2f, 1) := by decide +kernel
theorem dX7_share_29 : decode cX7_share 29 = .ok (.fdiv, 1) := by decide +kernel
theorem dX7_share_30 : decode cX7_share 30 = .ok (.invokestatic 138, 3) := by decide +kernel
theorem dX7_share_33 : decode cX7_share 33 = .ok (.ireturn, 1) := by decide +kernel
set_option maxRecDepth 20000 in
theorem ggX7_goesIn_X7_isLetter : GoodIn wsX7_goesIn wsX7_isLetter := goodIn_r _ [6, 1, 7, 8, 5, 9, 37, 38, 39, 40, 41, 42, 43, 44, 45, 46, 47, 48, 49, 50, 51, 52] (by decide +kernel) (by decide +kernel)
set_option maxRecDepth 20000 in
theorem gX7_goesIn_X7_isLetter : GoodIn wsX7_goesIn (wsV RX7 61 RX7 yX7_isLetter wsX7_isLetter) := goodIn_app (goodIn_of _ (by decide +kernel)) ggX7_goesIn_X7_isLetter
set_option maxRecDepth 20000 in
theorem ggX7_goesIn_X7_ofL : GoodIn wsX7_goesIn wsX7_ofL := goodIn_r _ [12] (by decide +kernel) (by decide +kernel)
set_option maxRecDepth 20000 in
theorem gX7_goesIn_X7_ofL : GoodIn wsX7_goesIn (va_wsS RX7 47 yX7_ofL wsX7_ofL) := goodIn_app (goodIn_of _ (by decide +kernel)) ggX7_goesIn_X7_ofL
set_option maxRecDepth 20000 in
theorem ggX7_goesIn_X7_putAside : GoodIn wsX7_goesIn wsX7_putAside := goodIn_r _ [16, 17, 1, 37, 38, 39, 40, 41, 42, 43, 44, 45, 46, 47, 48, 49, 50, 51, 52] (by decide +kernel) (by decide +kernel)
set_option maxRecDepth 20000 in
theorem gX7_goesIn_X7_putAside : GoodIn wsX7_goesIn (wsV RX7 142 RX7 yX7_putAside wsX7_putAside) := goodIn_app (goodIn_of _ (by decide +kernel)) ggX7_goesIn_X7_putAside
set_option maxRecDepth 20000 in
theorem ggX7_goesIn_X7_hour : GoodIn wsX7_goesIn wsX7_hour := goodIn_r _ [21, 1, 22, 23, 5, 24, 25, 26, 27, 28, 10, 11, 12, 29, 30, 31, 32, 37, 38, 39, 40, 41, 42, 43, 44, 45, 46, 47, 48, 49, 50, 51, 52] (by decide +kernel) (by decide +kernel)
set_option maxRecDepth 20000 in
theorem gX7_goesIn_X7_hour : GoodIn wsX7_goesIn (wsV RX7 67 RX7 yX7_hour wsX7_hour) := goodIn_app (goodIn_of _ (by decide +kernel)) ggX7_goesIn_X7_hour
set_option maxRecDepth 20000 in
theorem ggX7_goesIn_X7_putBack : GoodIn wsX7_goesIn wsX7_putBack := goodIn_r _ [36, 1, 17, 37, 38, 39, 40, 41, 42, 43, 44, 45, 46, 47, 48, 49, 50, 51, 52] (by decide +kernel) (by decide +kernel)
set_option maxRecDepth 20000 in
theorem gX7_goesIn_X7_putBack : GoodIn wsX7_goesIn (wsV RX7 145 RX7 yX7_putBack wsX7_putBack) := goodIn_app (goodIn_of _ (by decide +kernel)) ggX7_goesIn_X7_putBack
theorem dX7_goesIn_0 : decode cX7_goesIn 0 = .ok (.aload_n 0, 1) := by decide +kernel
theorem dX7_goesIn_1 : decode cX7_goesIn 1 = .ok (.iload_n 1, 1) := by decide +kernel
theorem dX7_goesIn_2 : decode cX7_goesIn 2 = .ok (.invokevirtual 61, 3) := by decide +kernel
theorem dX7_goesIn_5 : decode cX7_goesIn 5 = .ok (.ifCond .ne 5, 3) := by decide +kernel
theorem dX7_goesIn_8 : decode cX7_goesIn 8 = .ok (.iconst (-1), 1) := by decide +kernel
theorem dX7_goesIn_9 : decode cX7_goesIn 9 = .ok (.ireturn, 1) := by decide +kernel
theorem dX7_goesIn_10 : decode cX7_goesIn 10 = .ok (.aload_n 0, 1) := by decide +kernel
theorem dX7_goesIn_11 : decode cX7_goesIn 11 = .ok (.getfield 7, 3) := by decide +kernel
theorem dX7_goesIn_14 : decode cX7_goesIn 14 = .ok (.iload_n 1, 1) := by decide +kernel
theorem dX7_goesIn_15 : decode cX7_goesIn 15 = .ok (.iconst 3, 1) := by decide +kernel
theorem dX7_goesIn_16 : decode cX7_goesIn 16 = .ok (.invokestatic 47, 3) := by decide +kernel
theorem dX7_goesIn_19 : decode cX7_goesIn 19 = .ok (.iaload, 1) := by decide +kernel
theorem dX7_goesIn_20 : decode cX7_goesIn 20 = .ok (.iconst 2, 1) := by decide +kernel
theorem dX7_goesIn_21 : decode cX7_goesIn 21 = .ok (.if_icmp .ne 6, 3) := by decide +kernel
theorem dX7_goesIn_24 : decode cX7_goesIn 24 = .ok (.bipush (-5), 2) := by decide +kernel
theorem dX7_goesIn_26 : decode cX7_goesIn 26 = .ok (.ireturn, 1) := by decide +kernel
theorem dX7_goesIn_27 : decode cX7_goesIn 27 = .ok (.aload_n 0, 1) := by decide +kernel
theorem dX7_goesIn_28 : decode cX7_goesIn 28 = .ok (.invokevirtual 142, 3) := by decide +kernel
theorem dX7_goesIn_31 : decode cX7_goesIn 31 = .ok (.iconst 0, 1) := by decide +kernel
theorem dX7_goesIn_32 : decode cX7_goesIn 32 = .ok (.istore_n 2, 1) := by decide +kernel
theorem dX7_goesIn_33 : decode cX7_goesIn 33 = .ok (.iload_n 2, 1) := by decide +kernel
theorem dX7_goesIn_34 : decode cX7_goesIn 34 = .ok (.sipush 1200, 3) := by decide +kernel
theorem dX7_goesIn_37 : decode cX7_goesIn 37 = .ok (.if_icmp .ge 26, 3) := by decide +kernel
theorem dX7_goesIn_40 : decode cX7_goesIn 40 = .ok (.aload_n 0, 1) := by decide +kernel
theorem dX7_goesIn_41 : decode cX7_goesIn 41 = .ok (.getfield 7, 3) := by decide +kernel
theorem dX7_goesIn_44 : decode cX7_goesIn 44 = .ok (.iload_n 1, 1) := by decide +kernel
theorem dX7_goesIn_45 : decode cX7_goesIn 45 = .ok (.iconst 3, 1) := by decide +kernel
theorem dX7_goesIn_46 : decode cX7_goesIn 46 = .ok (.invokestatic 47, 3) := by decide +kernel
theorem dX7_goesIn_49 : decode cX7_goesIn 49 = .ok (.iaload, 1) := by decide +kernel
theorem dX7_goesIn_50 : decode cX7_goesIn 50 = .ok (.ifCond .ne 13, 3) := by decide +kernel
theorem dX7_goesIn_53 : decode cX7_goesIn 53 = .ok (.aload_n 0, 1) := by decide +kernel
theorem dX7_goesIn_54 : decode cX7_goesIn 54 = .ok (.invokevirtual 67, 3) := by decide +kernel
theorem dX7_goesIn_57 : decode cX7_goesIn 57 = .ok (.iinc 2 1, 3) := by decide +kernel
theorem dX7_goesIn_60 : decode cX7_goesIn 60 = .ok (.goto (-27), 3) := by decide +kernel
theorem dX7_goesIn_63 : decode cX7_goesIn 63 = .ok (.aload_n 0, 1) := by decide +kernel
theorem dX7_goesIn_64 : decode cX7_goesIn 64 = .ok (.getfield 7, 3) := by decide +kernel
theorem dX7_goesIn_67 : decode cX7_goesIn 67 = .ok (.iload_n 1, 1) := by decide +kernel
theorem dX7_goesIn_68 : decode cX7_goesIn 68 = .ok (.iconst 3, 1) := by decide +kernel
theorem dX7_goesIn_69 : decode cX7_goesIn 69 = .ok (.invokestatic 47, 3) := by decide +kernel
theorem dX7_goesIn_72 : decode cX7_goesIn 72 = .ok (.iaload, 1) := by decide +kernel
theorem dX7_goesIn_73 : decode cX7_goesIn 73 = .ok (.iconst 1, 1) := by decide +kernel
theorem dX7_goesIn_74 : decode cX7_goesIn 74 = .ok (.if_icmp .ne 7, 3) := by decide +kernel
theorem dX7_goesIn_77 : decode cX7_goesIn 77 = .ok (.iconst 1, 1) := by decide +kernel
theorem dX7_goesIn_78 : decode cX7_goesIn 78 = .ok (.goto 4, 3) := by decide +kernel
theorem dX7_goesIn_81 : decode cX7_goesIn 81 = .ok (.iconst 0, 1) := by decide +kernel
theorem dX7_goesIn_82 : decode cX7_goesIn 82 = .ok (.istore_n 3, 1) := by decide +kernel
theorem dX7_goesIn_83 : decode cX7_goesIn 83 = .ok (.aload_n 0, 1) := by decide +kernel
theorem dX7_goesIn_84 : decode cX7_goesIn 84 = .ok (.invokevirtual 145, 3) := by decide +kernel
theorem dX7_goesIn_87 : decode cX7_goesIn 87 = .ok (.iload_n 3, 1) := by decide +kernel
theorem dX7_goesIn_88 : decode cX7_goesIn 88 = .ok (.ifCond .eq 7, 3) := by decide +kernel
theorem dX7_goesIn_91 : decode cX7_goesIn 91 = .ok (.iload_n 2, 1) := by decide +kernel
theorem dX7_goesIn_92 : decode cX7_goesIn 92 = .ok (.goto 5, 3) := by decide +kernel
theorem dX7_goesIn_95 : decode cX7_goesIn 95 = .ok (.bipush (-6), 2) := by decide +kernel
theorem dX7_goesIn_97 : decode cX7_goesIn 97 = .ok (.ireturn, 1) := by decide +kernel
set_option maxRecDepth 20000 in
theorem ggX7_bestPost_X7_in : GoodIn wsX7_bestPost wsX7_in := goodIn_r _ [5] (by decide +kernel) (by decide +kernel)
set_option maxRecDepth 20000 in
theorem gX7_bestPost_X7_in : GoodIn wsX7_bestPost (va_wsS RX7 39 yX7_in wsX7_in) := goodIn_app (goodIn_of _ (by decide +kernel)) ggX7_bestPost_X7_in
set_option maxRecDepth 20000 in
theorem ggX7_bestPost_X7_putAside : GoodIn wsX7_bestPost wsX7_putAside := goodIn_r _ [9, 10, 1, 41, 42, 43, 44, 45, 46, 47, 48, 49, 50, 51, 52, 53, 54, 55, 56] (by decide +kernel) (by decide +kernel)
set_option maxRecDepth 20000 in
theorem gX7_bestPost_X7_putAside : GoodIn wsX7_bestPost (wsV RX7 142 RX7 yX7_putAside wsX7_putAside) := goodIn_app (goodIn_of _ (by decide +kernel)) ggX7_bestPost_X7_putAside
set_option maxRecDepth 20000 in
theorem ggX7_bestPost_X7_passes : GoodIn wsX7_bestPost wsX7_passes := goodIn_r _ [14, 15, 16, 17, 4, 18, 1, 19, 20, 21, 22, 23, 24, 25, 26, 27, 28, 29, 30, 31, 32, 33, 34, 35, 36, 41, 42, 43, 44, 45, 46, 47, 48, 49, 50, 51, 52, 53, 54, 55, 56] (by decide +kernel) (by decide +kernel)
set_option maxRecDepth 20000 in
theorem gX7_bestPost_X7_passes : GoodIn wsX7_bestPost (wsV RX7 98 RX7 yX7_passes wsX7_passes) := goodIn_app (goodIn_of _ (by decide +kernel)) ggX7_bestPost_X7_passes
set_option maxRecDepth 20000 in
theorem ggX7_bestPost_X7_putBack : GoodIn wsX7_bestPost wsX7_putBack := goodIn_r _ [40, 1, 10, 41, 42, 43, 44, 45, 46, 47, 48, 49, 50, 51, 52, 53, 54, 55, 56] (by decide +kernel) (by decide +kernel)
set_option maxRecDepth 20000 in
theorem gX7_bestPost_X7_putBack : GoodIn wsX7_bestPost (wsV RX7 145 RX7 yX7_putBack wsX7_putBack) := goodIn_app (goodIn_of _ (by decide +kernel)) ggX7_bestPost_X7_putBack
theorem dX7_bestPost_0 : decode cX7_bestPost 0 = .ok (.iload_n 1, 1) := by decide +kernel
theorem dX7_bestPost_1 : decode cX7_bestPost 1 = .ok (.iconst 1, 1) := by decide +kernel
theorem dX7_bestPost_2 : decode cX7_bestPost 2 = .ok (.bipush 20, 2) := by decide +kernel
theorem dX7_bestPost_4 : decode cX7_bestPost 4 = .ok (.invokestatic 39, 3) := by decide +kernel
theorem dX7_bestPost_7 : decode cX7_bestPost 7 = .ok (.ifCond .eq 12, 3) := by decide +kernel
theorem dX7_bestPost_10 : decode cX7_bestPost 10 = .ok (.iload_n 2, 1) := by decide +kernel
theorem dX7_bestPost_11 : decode cX7_bestPost 11 = .ok (.iconst 0, 1) := by decide +kernel
theorem dX7_bestPost_12 : decode cX7_bestPost 12 = .ok (.iconst 1, 1) := by decide +kernel
theorem dX7_bestPost_13 : decode cX7_bestPost 13 = .ok (.invokestatic 39, 3) := by decide +kernel
theorem dX7_bestPost_16 : decode cX7_bestPost 16 = .ok (.ifCond .ne 6, 3) := by decide +kernel
theorem dX7_bestPost_19 : decode cX7_bestPost 19 = .ok (.bipush (-2), 2) := by decide +kernel
theorem dX7_bestPost_21 : decode cX7_bestPost 21 = .ok (.ireturn, 1) := by decide +kernel
theorem dX7_bestPost_22 : decode cX7_bestPost 22 = .ok (.iconst 0, 1) := by decide +kernel
theorem dX7_bestPost_23 : decode cX7_bestPost 23 = .ok (.istore_n 3, 1) := by decide +kernel
theorem dX7_bestPost_24 : decode cX7_bestPost 24 = .ok (.iconst (-1), 1) := by decide +kernel
theorem dX7_bestPost_25 : decode cX7_bestPost 25 = .ok (.istore 4, 2) := by decide +kernel
theorem dX7_bestPost_27 : decode cX7_bestPost 27 = .ok (.aload_n 0, 1) := by decide +kernel
theorem dX7_bestPost_28 : decode cX7_bestPost 28 = .ok (.invokevirtual 142, 3) := by decide +kernel
theorem dX7_bestPost_31 : decode cX7_bestPost 31 = .ok (.iconst 0, 1) := by decide +kernel
theorem dX7_bestPost_32 : decode cX7_bestPost 32 = .ok (.istore 5, 2) := by decide +kernel
theorem dX7_bestPost_34 : decode cX7_bestPost 34 = .ok (.iload 5, 2) := by decide +kernel
theorem dX7_bestPost_36 : decode cX7_bestPost 36 = .ok (.bipush 24, 2) := by decide +kernel
theorem dX7_bestPost_38 : decode cX7_bestPost 38 = .ok (.if_icmp .ge 61, 3) := by decide +kernel
theorem dX7_bestPost_41 : decode cX7_bestPost 41 = .ok (.aload_n 0, 1) := by decide +kernel
theorem dX7_bestPost_42 : decode cX7_bestPost 42 = .ok (.getfield 7, 3) := by decide +kernel
theorem dX7_bestPost_45 : decode cX7_bestPost 45 = .ok (.iconst 0, 1) := by decide +kernel
theorem dX7_bestPost_46 : decode cX7_bestPost 46 = .ok (.iload 5, 2) := by decide +kernel
theorem dX7_bestPost_48 : decode cX7_bestPost 48 = .ok (.iastore, 1) := by decide +kernel
theorem dX7_bestPost_49 : decode cX7_bestPost 49 = .ok (.aload_n 0, 1) := by decide +kernel
theorem dX7_bestPost_50 : decode cX7_bestPost 50 = .ok (.bipush 24, 2) := by decide +kernel
theorem dX7_bestPost_52 : decode cX7_bestPost 52 = .ok (.iload_n 1, 1) := by decide +kernel
theorem dX7_bestPost_53 : decode cX7_bestPost 53 = .ok (.imul, 1) := by decide +kernel
theorem dX7_bestPost_54 : decode cX7_bestPost 54 = .ok (.invokevirtual 98, 3) := by decide +kernel
theorem dX7_bestPost_57 : decode cX7_bestPost 57 = .ok (.istore 6, 2) := by decide +kernel
theorem dX7_bestPost_59 : decode cX7_bestPost 59 = .ok (.iload 6, 2) := by decide +kernel
theorem dX7_bestPost_61 : decode cX7_bestPost 61 = .ok (.iload 4, 2) := by decide +kernel
theorem dX7_bestPost_63 : decode cX7_bestPost 63 = .ok (.if_icmp .le 8, 3) := by decide +kernel
theorem dX7_bestPost_66 : decode cX7_bestPost 66 = .ok (.iload 5, 2) := by decide +kernel
theorem dX7_bestPost_68 : decode cX7_bestPost 68 = .ok (.goto 4, 3) := by decide +kernel
theorem dX7_bestPost_71 : decode cX7_bestPost 71 = .ok (.iload_n 3, 1) := by decide +kernel
theorem dX7_bestPost_72 : decode cX7_bestPost 72 = .ok (.istore_n 3, 1) := by decide +kernel
theorem dX7_bestPost_73 : decode cX7_bestPost 73 = .ok (.iload 6, 2) := by decide +kernel
theorem dX7_bestPost_75 : decode cX7_bestPost 75 = .ok (.iload 4, 2) := by decide +kernel
theorem dX7_bestPost_77 : decode cX7_bestPost 77 = .ok (.if_icmp .le 8, 3) := by decide +kernel
theorem dX7_bestPost_80 : decode cX7_bestPost 80 = .ok (.iload 6, 2) := by decide +kernel
theorem dX7_bestPost_82 : decode cX7_bestPost 82 = .ok (.goto 5, 3) := by decide +kernel
theorem dX7_bestPost_85 : decode cX7_bestPost 85 = .ok (.iload 4, 2) := by decide +kernel
theorem dX7_bestPost_87 : decode cX7_bestPost 87 = .ok (.istore 4, 2) := by decide +kernel
theorem dX7_bestPost_89 : decode cX7_bestPost 89 = .ok (.aload_n 0, 1) := by decide +kernel
theorem dX7_bestPost_90 : decode cX7_bestPost 90 = .ok (.invokevirtual 145, 3) := by decide +kernel
theorem dX7_bestPost_93 : decode cX7_bestPost 93 = .ok (.iinc 5 1, 3) := by decide +kernel
theorem dX7_bestPost_96 : decode cX7_bestPost 96 = .ok (.goto (-62), 3) := by decide +kernel
theorem dX7_bestPost_99 : decode cX7_bestPost 99 = .ok (.iload_n 2, 1) := by decide +kernel
theorem dX7_bestPost_100 : decode cX7_bestPost 100 = .ok (.ifCond .ne 7, 3) := by decide +kernel
theorem dX7_bestPost_103 : decode cX7_bestPost 103 = .ok (.iload_n 3, 1) := by decide +kernel
theorem dX7_bestPost_104 : decode cX7_bestPost 104 = .ok (.goto 5, 3) := by decide +kernel
theorem dX7_bestPost_107 : decode cX7_bestPost 107 = .ok (.iload 4, 2) := by decide +kernel
theorem dX7_bestPost_109 : decode cX7_bestPost 109 = .ok (.ireturn, 1) := by decide +kernel
set_option maxRecDepth 20000 in
theorem ggX7_mostRegretted_X7_findRegrets : GoodIn wsX7_mostRegretted wsX7_findRegrets := goodIn_r _ [7, 8, 2, 1, 9, 10, 6, 11, 12, 13, 14, 15, 16, 17, 18, 19, 20, 21, 22, 23, 24, 25, 26, 27, 28, 29, 30, 31] (by decide +kernel) (by decide +kernel)
set_option maxRecDepth 20000 in
theorem gX7_mostRegretted_X7_findRegrets : GoodIn wsX7_mostRegretted (wsV RX7 101 RX7 yX7_findRegrets wsX7_findRegrets) := goodIn_app (goodIn_of _ (by decide +kernel)) ggX7_mostRegretted_X7_findRegrets
set_option maxRecDepth 20000 in
theorem ggX7_mostRegretted_X7_ofL : GoodIn wsX7_mostRegretted wsX7_ofL := goodIn_r _ [11] (by decide +kernel) (by decide +kernel)
set_option maxRecDepth 20000 in
theorem gX7_mostRegretted_X7_ofL : GoodIn wsX7_mostRegretted (va_wsS RX7 47 yX7_ofL wsX7_ofL) := goodIn_app (goodIn_of _ (by decide +kernel)) ggX7_mostRegretted_X7_ofL
theorem dX7_mostRegretted_0 : decode cX7_mostRegretted 0 = .ok (.aload_n 0, 1) := by decide +kernel
theorem dX7_mostRegretted_1 : decode cX7_mostRegretted 1 = .ok (.invokevirtual 101, 3) := by decide +kernel
theorem dX7_mostRegretted_4 : decode cX7_mostRegretted 4 = .ok (.bipush (-6), 2) := by decide +kernel
theorem dX7_mostRegretted_6 : decode cX7_mostRegretted 6 = .ok (.istore_n 1, 1) := by decide +kernel
theorem dX7_mostRegretted_7 : decode cX7_mostRegretted 7 = .ok (.iconst 0, 1) := by decide +kernel
theorem dX7_mostRegretted_8 : decode cX7_mostRegretted 8 = .ok (.istore_n 2, 1) := by decide +kernel
theorem dX7_mostRegretted_9 : decode cX7_mostRegretted 9 = .ok (.iload_n 2, 1) := by decide +kernel
theorem dX7_mostRegretted_10 : decode cX7_mostRegretted 10 = .ok (.aload_n 0, 1) := by decide +kernel
theorem dX7_mostRegretted_11 : decode cX7_mostRegretted 11 = .ok (.getfield 7, 3) := by decide +kernel
theorem dX7_mostRegretted_14 : decode cX7_mostRegretted 14 = .ok (.iconst 5, 1) := by decide +kernel
theorem dX7_mostRegretted_15 : decode cX7_mostRegretted 15 = .ok (.iaload, 1) := by decide +kernel
theorem dX7_mostRegretted_16 : decode cX7_mostRegretted 16 = .ok (.if_icmp .ge 60, 3) := by decide +kernel
theorem dX7_mostRegretted_19 : decode cX7_mostRegretted 19 = .ok (.aload_n 0, 1) := by decide +kernel
theorem dX7_mostRegretted_20 : decode cX7_mostRegretted 20 = .ok (.getfield 7, 3) := by decide +kernel
theorem dX7_mostRegretted_23 : decode cX7_mostRegretted 23 = .ok (.iload_n 2, 1) := by decide +kernel
theorem dX7_mostRegretted_24 : decode cX7_mostRegretted 24 = .ok (.iconst 3, 1) := by decide +kernel
theorem dX7_mostRegretted_25 : decode cX7_mostRegretted 25 = .ok (.invokestatic 47, 3) := by decide +kernel
theorem dX7_mostRegretted_28 : decode cX7_mostRegretted 28 = .ok (.iaload, 1) := by decide +kernel
theorem dX7_mostRegretted_29 : decode cX7_mostRegretted 29 = .ok (.iconst 1, 1) := by decide +kernel
theorem dX7_mostRegretted_30 : decode cX7_mostRegretted 30 = .ok (.if_icmp .ne 28, 3) := by decide +kernel
theorem dX7_mostRegretted_33 : decode cX7_mostRegretted 33 = .ok (.iload_n 1, 1) := by decide +kernel
theorem dX7_mostRegretted_34 : decode cX7_mostRegretted 34 = .ok (.bipush (-6), 2) := by decide +kernel
theorem dX7_mostRegretted_36 : decode cX7_mostRegretted 36 = .ok (.if_icmp .eq 18, 3) := by decide +kernel
theorem dX7_mostRegretted_39 : decode cX7_mostRegretted 39 = .ok (.aload_n 0, 1) := by decide +kernel
theorem dX7_mostRegretted_40 : decode cX7_mostRegretted 40 = .ok (.getfield 29, 3) := by decide +kernel
theorem dX7_mostRegretted_43 : decode cX7_mostRegretted 43 = .ok (.iload_n 2, 1) := by decide +kernel
theorem dX7_mostRegretted_44 : decode cX7_mostRegretted 44 = .ok (.iaload, 1) := by decide +kernel
theorem dX7_mostRegretted_45 : decode cX7_mostRegretted 45 = .ok (.aload_n 0, 1) := by decide +kernel
theorem dX7_mostRegretted_46 : decode cX7_mostRegretted 46 = .ok (.getfield 29, 3) := by decide +kernel
theorem dX7_mostRegretted_49 : decode cX7_mostRegretted 49 = .ok (.iload_n 1, 1) := by decide +kernel
theorem dX7_mostRegretted_50 : decode cX7_mostRegretted 50 = .ok (.iaload, 1) := by decide +kernel
theorem dX7_mostRegretted_51 : decode cX7_mostRegretted 51 = .ok (.if_icmp .le 7, 3) := by decide +kernel
theorem dX7_mostRegretted_54 : decode cX7_mostRegretted 54 = .ok (.iconst 1, 1) := by decide +kernel
theorem dX7_mostRegretted_55 : decode cX7_mostRegretted 55 = .ok (.goto 4, 3) := by decide +kernel
theorem dX7_mostRegretted_58 : decode cX7_mostRegretted 58 = .ok (.iconst 0, 1) := by decide +kernel
theorem dX7_mostRegretted_59 : decode cX7_mostRegretted 59 = .ok (.istore_n 3, 1) := by decide +kernel
theorem dX7_mostRegretted_60 : decode cX7_mostRegretted 60 = .ok (.iload_n 3, 1) := by decide +kernel
theorem dX7_mostRegretted_61 : decode cX7_mostRegretted 61 = .ok (.ifCond .eq 7, 3) := by decide +kernel
theorem dX7_mostRegretted_64 : decode cX7_mostRegretted 64 = .ok (.iload_n 2, 1) := by decide +kernel
theorem dX7_mostRegretted_65 : decode cX7_mostRegretted 65 = .ok (.goto 4, 3) := by decide +kernel
theorem dX7_mostRegretted_68 : decode cX7_mostRegretted 68 = .ok (.iload_n 1, 1) := by decide +kernel
theorem dX7_mostRegretted_69 : decode cX7_mostRegretted 69 = .ok (.istore_n 1, 1) := by decide +kernel
theorem dX7_mostRegretted_70 : decode cX7_mostRegretted 70 = .ok (.iinc 2 1, 3) := by decide +kernel
theorem dX7_mostRegretted_73 : decode cX7_mostRegretted 73 = .ok (.goto (-64), 3) := by decide +kernel
theorem dX7_mostRegretted_76 : decode cX7_mostRegretted 76 = .ok (.iload_n 1, 1) := by decide +kernel
theorem dX7_mostRegretted_77 : decode cX7_mostRegretted 77 = .ok (.ireturn, 1) := by decide +kernel
set_option maxRecDepth 20000 in
theorem ggX7_ifSent_X7_isLetter : GoodIn wsX7_ifSent wsX7_isLetter := goodIn_r _ [6, 1, 7, 8, 5, 9, 44, 45, 46, 47, 48, 49, 50, 51, 52, 53, 54, 55, 56, 57, 58, 59] (by decide +kernel) (by decide +kernel)
set_option maxRecDepth 20000 in
theorem gX7_ifSent_X7_isLetter : GoodIn wsX7_ifSent (wsV RX7 61 RX7 yX7_isLetter wsX7_isLetter) := goodIn_app (goodIn_of _ (by decide +kernel)) ggX7_ifSent_X7_isLetter
set_option maxRecDepth 20000 in
theorem ggX7_ifSent_X7_ofL : GoodIn wsX7_ifSent wsX7_ofL := goodIn_r _ [12] (by decide +kernel) (by decide +kernel)
set_option maxRecDepth 20000 in
theorem gX7_ifSent_X7_ofL : GoodIn wsX7_ifSent (va_wsS RX7 47 yX7_ofL wsX7_ofL) := goodIn_app (goodIn_of _ (by decide +kernel)) ggX7_ifSent_X7_ofL
set_option maxRecDepth 20000 in
theorem ggX7_ifSent_X7_putAside : GoodIn wsX7_ifSent wsX7_putAside := goodIn_r _ [16, 17, 1, 44, 45, 46, 47, 48, 49, 50, 51, 52, 53, 54, 55, 56, 57, 58, 59] (by decide +kernel) (by decide +kernel)
set_option maxRecDepth 20000 in
theorem gX7_ifSent_X7_putAside : GoodIn wsX7_ifSent (wsV RX7 142 RX7 yX7_putAside wsX7_putAside) := goodIn_app (goodIn_of _ (by decide +kernel)) ggX7_ifSent_X7_putAside
set_option maxRecDepth 20000 in
theorem ggX7_ifSent_X7_heat : GoodIn wsX7_ifSent wsX7_heat := goodIn_r _ [21, 1, 10, 11, 5, 12, 44, 45, 46, 47, 48, 49, 50, 51, 52, 53, 54, 55, 56, 57, 58, 59] (by decide +kernel) (by decide +kernel)
set_option maxRecDepth 20000 in
theorem gX7_ifSent_X7_heat : GoodIn wsX7_ifSent (wsV RX7 50 RX7 yX7_heat wsX7_heat) := goodIn_app (goodIn_of _ (by decide +kernel)) ggX7_ifSent_X7_heat
set_option maxRecDepth 20000 in
theorem ggX7_ifSent_X7_ofLetter : GoodIn wsX7_ifSent wsX7_ofLetter := goodIn_r _ [25, 1, 26, 2, 3, 4, 5, 6, 7, 8, 9, 10, 11, 12, 18, 19, 20, 21, 27, 28, 29, 30, 31, 32, 33, 34, 35, 36, 37, 38, 39, 44, 45, 46, 47, 48, 49, 50, 51, 52, 53, 54, 55, 56, 57, 58, 59] (by decide +kernel) (by decide +kernel)
set_option maxRecDepth 20000 in
theorem gX7_ifSent_X7_ofLetter : GoodIn wsX7_ifSent (wsV RX7 148 RX7 yX7_ofLetter wsX7_ofLetter) := goodIn_app (goodIn_of _ (by decide +kernel)) ggX7_ifSent_X7_ofLetter
set_option maxRecDepth 20000 in
theorem ggX7_ifSent_X7_putBack : GoodIn wsX7_ifSent wsX7_putBack := goodIn_r _ [43, 1, 17, 44, 45, 46, 47, 48, 49, 50, 51, 52, 53, 54, 55, 56, 57, 58, 59] (by decide +kernel) (by decide +kernel)
set_option maxRecDepth 20000 in
theorem gX7_ifSent_X7_putBack : GoodIn wsX7_ifSent (wsV RX7 145 RX7 yX7_putBack wsX7_putBack) := goodIn_app (goodIn_of _ (by decide +kernel)) ggX7_ifSent_X7_putBack
theorem dX7_ifSent_0 : decode cX7_ifSent 0 = .ok (.aload_n 0, 1) := by decide +kernel
theorem dX7_ifSent_1 : decode cX7_ifSent 1 = .ok (.iload_n 1, 1) := by decide +kernel
theorem dX7_ifSent_2 : decode cX7_ifSent 2 = .ok (.invokevirtual 61, 3) := by decide +kernel
theorem dX7_ifSent_5 : decode cX7_ifSent 5 = .ok (.ifCond .eq 11, 3) := by decide +kernel
theorem dX7_ifSent_8 : decode cX7_ifSent 8 = .ok (.aload_n 0, 1) := by decide +kernel
theorem dX7_ifSent_9 : decode cX7_ifSent 9 = .ok (.iload_n 2, 1) := by decide +kernel
theorem dX7_ifSent_10 : decode cX7_ifSent 10 = .ok (.invokevirtual 61, 3) := by decide +kernel
theorem dX7_ifSent_13 : decode cX7_ifSent 13 = .ok (.ifCond .ne 5, 3) := by decide +kernel
theorem dX7_ifSent_16 : decode cX7_ifSent 16 = .ok (.iconst (-1), 1) := by decide +kernel
theorem dX7_ifSent_17 : decode cX7_ifSent 17 = .ok (.ireturn, 1) := by decide +kernel
theorem dX7_ifSent_18 : decode cX7_ifSent 18 = .ok (.aload_n 0, 1) := by decide +kernel
theorem dX7_ifSent_19 : decode cX7_ifSent 19 = .ok (.getfield 7, 3) := by decide +kernel
theorem dX7_ifSent_22 : decode cX7_ifSent 22 = .ok (.iload_n 1, 1) := by decide +kernel
theorem dX7_ifSent_23 : decode cX7_ifSent 23 = .ok (.iconst 3, 1) := by decide +kernel
theorem dX7_ifSent_24 : decode cX7_ifSent 24 = .ok (.invokestatic 47, 3) := by decide +kernel
theorem dX7_ifSent_27 : decode cX7_ifSent 27 = .ok (.iaload, 1) := by decide +kernel
theorem dX7_ifSent_28 : decode cX7_ifSent 28 = .ok (.iconst 1, 1) := by decide +kernel
theorem dX7_ifSent_29 : decode cX7_ifSent 29 = .ok (.if_icmp .ne 16, 3) := by decide +kernel
theorem dX7_ifSent_32 : decode cX7_ifSent 32 = .ok (.aload_n 0, 1) := by decide +kernel
theorem dX7_ifSent_33 : decode cX7_ifSent 33 = .ok (.getfield 7, 3) := by decide +kernel
theorem dX7_ifSent_36 : decode cX7_ifSent 36 = .ok (.iload_n 2, 1) := by decide +kernel
theorem dX7_ifSent_37 : decode cX7_ifSent 37 = .ok (.iconst 3, 1) := by decide +kernel
theorem dX7_ifSent_38 : decode cX7_ifSent 38 = .ok (.invokestatic 47, 3) := by decide +kernel
theorem dX7_ifSent_41 : decode cX7_ifSent 41 = .ok (.iaload, 1) := by decide +kernel
theorem dX7_ifSent_42 : decode cX7_ifSent 42 = .ok (.ifCond .eq 6, 3) := by decide +kernel
theorem dX7_ifSent_45 : decode cX7_ifSent 45 = .ok (.bipush (-5), 2) := by decide +kernel
theorem dX7_ifSent_47 : decode cX7_ifSent 47 = .ok (.ireturn, 1) := by decide +kernel
theorem dX7_ifSent_48 : decode cX7_ifSent 48 = .ok (.aload_n 0, 1) := by decide +kernel
theorem dX7_ifSent_49 : decode cX7_ifSent 49 = .ok (.invokevirtual 142, 3) := by decide +kernel
theorem dX7_ifSent_52 : decode cX7_ifSent 52 = .ok (.aload_n 0, 1) := by decide +kernel
theorem dX7_ifSent_53 : decode cX7_ifSent 53 = .ok (.getfield 7, 3) := by decide +kernel
theorem dX7_ifSent_56 : decode cX7_ifSent 56 = .ok (.iload_n 2, 1) := by decide +kernel
theorem dX7_ifSent_57 : decode cX7_ifSent 57 = .ok (.bipush 6, 2) := by decide +kernel
theorem dX7_ifSent_59 : decode cX7_ifSent 59 = .ok (.invokestatic 47, 3) := by decide +kernel
theorem dX7_ifSent_62 : decode cX7_ifSent 62 = .ok (.aload_n 0, 1) := by decide +kernel
theorem dX7_ifSent_63 : decode cX7_ifSent 63 = .ok (.iload_n 2, 1) := by decide +kernel
theorem dX7_ifSent_64 : decode cX7_ifSent 64 = .ok (.invokevirtual 50, 3) := by decide +kernel
theorem dX7_ifSent_67 : decode cX7_ifSent 67 = .ok (.iastore, 1) := by decide +kernel
theorem dX7_ifSent_68 : decode cX7_ifSent 68 = .ok (.aload_n 0, 1) := by decide +kernel
theorem dX7_ifSent_69 : decode cX7_ifSent 69 = .ok (.getfield 7, 3) := by decide +kernel
theorem dX7_ifSent_72 : decode cX7_ifSent 72 = .ok (.iload_n 2, 1) := by decide +kernel
theorem dX7_ifSent_73 : decode cX7_ifSent 73 = .ok (.iconst 3, 1) := by decide +kernel
theorem dX7_ifSent_74 : decode cX7_ifSent 74 = .ok (.invokestatic 47, 3) := by decide +kernel
theorem dX7_ifSent_77 : decode cX7_ifSent 77 = .ok (.iconst 1, 1) := by decide +kernel
theorem dX7_ifSent_78 : decode cX7_ifSent 78 = .ok (.iastore, 1) := by decide +kernel
theorem dX7_ifSent_79 : decode cX7_ifSent 79 = .ok (.aload_n 0, 1) := by decide +kernel
theorem dX7_ifSent_80 : decode cX7_ifSent 80 = .ok (.iload_n 1, 1) := by decide +kernel
theorem dX7_ifSent_81 : decode cX7_ifSent 81 = .ok (.bipush 7, 2) := by decide +kernel
theorem dX7_ifSent_83 : decode cX7_ifSent 83 = .ok (.invokevirtual 148, 3) := by decide +kernel
theorem dX7_ifSent_86 : decode cX7_ifSent 86 = .ok (.istore_n 3, 1) := by decide +kernel
theorem dX7_ifSent_87 : decode cX7_ifSent 87 = .ok (.aload_n 0, 1) := by decide +kernel
theorem dX7_ifSent_88 : decode cX7_ifSent 88 = .ok (.invokevirtual 145, 3) := by decide +kernel
theorem dX7_ifSent_91 : decode cX7_ifSent 91 = .ok (.iload_n 3, 1) := by decide +kernel
theorem dX7_ifSent_92 : decode cX7_ifSent 92 = .ok (.ireturn, 1) := by decide +kernel
set_option maxRecDepth 20000 in
theorem ggX7_put_X7_in : GoodIn wsX7_put wsX7_in := goodIn_r _ [7] (by decide +kernel) (by decide +kernel)
set_option maxRecDepth 20000 in
theorem gX7_put_X7_in : GoodIn wsX7_put (va_wsS RX7 39 yX7_in wsX7_in) := goodIn_app (goodIn_of _ (by decide +kernel)) ggX7_put_X7_in
theorem dX7_put_0 : decode cX7_put 0 = .ok (.iconst 0, 1) := by decide +kernel
theorem dX7_put_1 : decode cX7_put 1 = .ok (.istore_n 3, 1) := by decide +kernel
theorem dX7_put_2 : decode cX7_put 2 = .ok (.iconst 0, 1) := by decide +kernel
theorem dX7_put_3 : decode cX7_put 3 = .ok (.istore 4, 2) := by decide +kernel
theorem dX7_put_5 : decode cX7_put 5 = .ok (.iconst 0, 1) := by decide +kernel
theorem dX7_put_6 : decode cX7_put 6 = .ok (.istore 5, 2) := by decide +kernel
theorem dX7_put_8 : decode cX7_put 8 = .ok (.iload 5, 2) := by decide +kernel
theorem dX7_put_10 : decode cX7_put 10 = .ok (.bipush 8, 2) := by decide +kernel
theorem dX7_put_12 : decode cX7_put 12 = .ok (.if_icmp .ge 89, 3) := by decide +kernel
theorem dX7_put_15 : decode cX7_put 15 = .ok (.lload_n 1, 1) := by decide +kernel
theorem dX7_put_16 : decode cX7_put 16 = .ok (.bipush 8, 2) := by decide +kernel
theorem dX7_put_18 : decode cX7_put 18 = .ok (.iload 5, 2) := by decide +kernel
theorem dX7_put_20 : decode cX7_put 20 = .ok (.imul, 1) := by decide +kernel
theorem dX7_put_21 : decode cX7_put 21 = .ok (.lushr, 1) := by decide +kernel
theorem dX7_put_22 : decode cX7_put 22 = .ok (.ldc2_w 151, 3) := by decide +kernel
theorem dX7_put_25 : decode cX7_put 25 = .ok (.land, 1) := by decide +kernel
theorem dX7_put_26 : decode cX7_put 26 = .ok (.l2i, 1) := by decide +kernel
theorem dX7_put_27 : decode cX7_put 27 = .ok (.istore 6, 2) := by decide +kernel
theorem dX7_put_29 : decode cX7_put 29 = .ok (.iload 5, 2) := by decide +kernel
theorem dX7_put_31 : decode cX7_put 31 = .ok (.ifCond .le 19, 3) := by decide +kernel
theorem dX7_put_34 : decode cX7_put 34 = .ok (.lload_n 1, 1) := by decide +kernel
theorem dX7_put_35 : decode cX7_put 35 = .ok (.bipush 8, 2) := by decide +kernel
theorem dX7_put_37 : decode cX7_put 37 = .ok (.iload 5, 2) := by decide +kernel
theorem dX7_put_39 : decode cX7_put 39 = .ok (.imul, 1) := by decide +kernel
theorem dX7_put_40 : decode cX7_put 40 = .ok (.lushr, 1) := by decide +kernel
theorem dX7_put_41 : decode cX7_put 41 = .ok (.lconst 0, 1) := by decide +kernel
theorem dX7_put_42 : decode cX7_put 42 = .ok (.lcmp, 1) := by decide +kernel
theorem dX7_put_43 : decode cX7_put 43 = .ok (.ifCond .ne 7, 3) := by decide +kernel
theorem dX7_put_46 : decode cX7_put 46 = .ok (.iconst 1, 1) := by decide +kernel
theorem dX7_put_47 : decode cX7_put 47 = .ok (.goto 4, 3) := by decide +kernel
theorem dX7_put_50 : decode cX7_put 50 = .ok (.iconst 0, 1) := by decide +kernel
theorem dX7_put_51 : decode cX7_put 51 = .ok (.istore 7, 2) := by decide +kernel
theorem dX7_put_53 : decode cX7_put 53 = .ok (.iload 4, 2) := by decide +kernel
theorem dX7_put_55 : decode cX7_put 55 = .ok (.ifCond .ne 20, 3) := by decide +kernel
theorem dX7_put_58 : decode cX7_put 58 = .ok (.iload 7, 2) := by decide +kernel
theorem dX7_put_60 : decode cX7_put 60 = .ok (.ifCond .ne 19, 3) := by decide +kernel
theorem dX7_put_63 : decode cX7_put 63 = .ok (.iload 6, 2) := by decide +kernel
theorem dX7_put_65 : decode cX7_put 65 = .ok (.bipush 33, 2) := by decide +kernel
theorem dX7_put_67 : decode cX7_put 67 = .ok (.bipush 126, 2) := by decide +kernel
theorem dX7_put_69 : decode cX7_put 69 = .ok (.invokestatic 39, 3) := by decide +kernel
theorem dX7_put_72 : decode cX7_put 72 = .ok (.ifCond .ne 7, 3) := by decide +kernel
theorem dX7_put_75 : decode cX7_put 75 = .ok (.iconst 1, 1) := by decide +kernel
theorem dX7_put_76 : decode cX7_put 76 = .ok (.goto 4, 3) := by decide +kernel
theorem dX7_put_79 : decode cX7_put 79 = .ok (.iconst 0, 1) := by decide +kernel
theorem dX7_put_80 : decode cX7_put 80 = .ok (.istore 4, 2) := by decide +kernel
theorem dX7_put_82 : decode cX7_put 82 = .ok (.iload_n 3, 1) := by decide +kernel
theorem dX7_put_83 : decode cX7_put 83 = .ok (.iload 7, 2) := by decide +kernel
theorem dX7_put_85 : decode cX7_put 85 = .ok (.ifCond .eq 7, 3) := by decide +kernel
theorem dX7_put_88 : decode cX7_put 88 = .ok (.iconst 0, 1) := by decide +kernel
theorem dX7_put_89 : decode cX7_put 89 = .ok (.goto 4, 3) := by decide +kernel
theorem dX7_put_92 : decode cX7_put 92 = .ok (.iconst 1, 1) := by decide +kernel
theorem dX7_put_93 : decode cX7_put 93 = .ok (.iadd, 1) := by decide +kernel
theorem dX7_put_94 : decode cX7_put 94 = .ok (.istore_n 3, 1) := by decide +kernel
theorem dX7_put_95 : decode cX7_put 95 = .ok (.iinc 5 1, 3) := by decide +kernel
theorem dX7_put_98 : decode cX7_put 98 = .ok (.goto (-90), 3) := by decide +kernel
theorem dX7_put_101 : decode cX7_put 101 = .ok (.iload 4, 2) := by decide +kernel
theorem dX7_put_103 : decode cX7_put 103 = .ok (.ifCond .eq 6, 3) := by decide +kernel
theorem dX7_put_106 : decode cX7_put 106 = .ok (.bipush (-2), 2) := by decide +kernel
theorem dX7_put_108 : decode cX7_put 108 = .ok (.ireturn, 1) := by decide +kernel
theorem dX7_put_109 : decode cX7_put 109 = .ok (.aload_n 0, 1) := by decide +kernel
theorem dX7_put_110 : decode cX7_put 110 = .ok (.getfield 119, 3) := by decide +kernel
theorem dX7_put_113 : decode cX7_put 113 = .ok (.iload_n 3, 1) := by decide +kernel
theorem dX7_put_114 : decode cX7_put 114 = .ok (.iadd, 1) := by decide +kernel
theorem dX7_put_115 : decode cX7_put 115 = .ok (.bipush 80, 2) := by decide +kernel
theorem dX7_put_117 : decode cX7_put 117 = .ok (.if_icmp .le 6, 3) := by decide +kernel
theorem dX7_put_120 : decode cX7_put 120 = .ok (.bipush (-4), 2) := by decide +kernel
theorem dX7_put_122 : decode cX7_put 122 = .ok (.ireturn, 1) := by decide +kernel
theorem dX7_put_123 : decode cX7_put 123 = .ok (.iconst 0, 1) := by decide +kernel
theorem dX7_put_124 : decode cX7_put 124 = .ok (.istore 5, 2) := by decide +kernel
theorem dX7_put_126 : decode cX7_put 126 = .ok (.iload 5, 2) := by decide +kernel
theorem dX7_put_128 : decode cX7_put 128 = .ok (.iload_n 3, 1) := by decide +kernel
theorem dX7_put_129 : decode cX7_put 129 = .ok (.if_icmp .ge 37, 3) := by decide +kernel
theorem dX7_put_132 : decode cX7_put 132 = .ok (.aload_n 0, 1) := by decide +kernel
theorem dX7_put_133 : decode cX7_put 133 = .ok (.getfield 26, 3) := by decide +kernel
theorem dX7_put_136 : decode cX7_put 136 = .ok (.aload_n 0, 1) := by decide +kernel
theorem dX7_put_137 : decode cX7_put 137 = .ok (.getfield 119, 3) := by decide +kernel
theorem dX7_put_140 : decode cX7_put 140 = .ok (.iload_n 3, 1) := by decide +kernel
theorem dX7_put_141 : decode cX7_put 141 = .ok (.iadd, 1) := by decide +kernel
theorem dX7_put_142 : decode cX7_put 142 = .ok (.iconst 1, 1) := by decide +kernel
theorem dX7_put_143 : decode cX7_put 143 = .ok (.isub, 1) := by decide +kernel
theorem dX7_put_144 : decode cX7_put 144 = .ok (.iload 5, 2) := by decide +kernel
theorem dX7_put_146 : decode cX7_put 146 = .ok (.isub, 1) := by decide +kernel
theorem dX7_put_147 : decode cX7_put 147 = .ok (.lload_n 1, 1) := by decide +kernel
theorem dX7_put_148 : decode cX7_put 148 = .ok (.bipush 8, 2) := by decide +kernel
theorem dX7_put_150 : decode cX7_put 150 = .ok (.iload 5, 2) := by decide +kernel
theorem dX7_put_152 : decode cX7_put 152 = .ok (.imul, 1) := by decide +kernel
theorem dX7_put_153 : decode cX7_put 153 = .ok (.lushr, 1) := by decide +kernel
theorem dX7_put_154 : decode cX7_put 154 = .ok (.ldc2_w 151, 3) := by decide +kernel
theorem dX7_put_157 : decode cX7_put 157 = .ok (.land, 1) := by decide +kernel
theorem dX7_put_158 : decode cX7_put 158 = .ok (.l2i, 1) := by decide +kernel
theorem dX7_put_159 : decode cX7_put 159 = .ok (.iastore, 1) := by decide +kernel
theorem dX7_put_160 : decode cX7_put 160 = .ok (.iinc 5 1, 3) := by decide +kernel
theorem dX7_put_163 : decode cX7_put 163 = .ok (.goto (-37), 3) := by decide +kernel
theorem dX7_put_166 : decode cX7_put 166 = .ok (.aload_n 0, 1) := by decide +kernel
theorem dX7_put_167 : decode cX7_put 167 = .ok (.dup, 1) := by decide +kernel
theorem dX7_put_168 : decode cX7_put 168 = .ok (.getfield 119, 3) := by decide +kernel
theorem dX7_put_171 : decode cX7_put 171 = .ok (.iload_n 3, 1) := by decide +kernel
theorem dX7_put_172 : decode cX7_put 172 = .ok (.iadd, 1) := by decide +kernel
theorem dX7_put_173 : decode cX7_put 173 = .ok (.putfield 119, 3) := by decide +kernel
theorem dX7_put_176 : decode cX7_put 176 = .ok (.aload_n 0, 1) := by decide +kernel
theorem dX7_put_177 : decode cX7_put 177 = .ok (.getfield 119, 3) := by decide +kernel
theorem dX7_put_180 : decode cX7_put 180 = .ok (.ireturn, 1) := by decide +kernel
theorem dX7_wipe_0 : decode cX7_wipe 0 = .ok (.aload_n 0, 1) := by decide +kernel
theorem dX7_wipe_1 : decode cX7_wipe 1 = .ok (.getfield 119, 3) := by decide +kernel
theorem dX7_wipe_4 : decode cX7_wipe 4 = .ok (.istore_n 1, 1) := by decide +kernel
theorem dX7_wipe_5 : decode cX7_wipe 5 = .ok (.aload_n 0, 1) := by decide +kernel
theorem dX7_wipe_6 : decode cX7_wipe 6 = .ok (.iconst 0, 1) := by decide +kernel
theorem dX7_wipe_7 : decode cX7_wipe 7 = .ok (.putfield 119, 3) := by decide +kernel
theorem dX7_wipe_10 : decode cX7_wipe 10 = .ok (.iload_n 1, 1) := by decide +kernel
theorem dX7_wipe_11 : decode cX7_wipe 11 = .ok (.ireturn, 1) := by decide +kernel
set_option maxRecDepth 20000 in
theorem ggX7_sign_X7_in : GoodIn wsX7_sign wsX7_in := goodIn_r _ [8] (by decide +kernel) (by decide +kernel)
set_option maxRecDepth 20000 in
theorem gX7_sign_X7_in : GoodIn wsX7_sign (va_wsS RX7 39 yX7_in wsX7_in) := goodIn_app (goodIn_of _ (by decide +kernel)) ggX7_sign_X7_in
theorem dX7_sign_0 : decode cX7_sign 0 = .ok (.aload_n 0, 1) := by decide +kernel
theorem dX7_sign_1 : decode cX7_sign 1 = .ok (.getfield 153, 3) := by decide +kernel
theorem dX7_sign_4 : decode cX7_sign 4 = .ok (.aload_n 0, 1) := by decide +kernel
theorem dX7_sign_5 : decode cX7_sign 5 = .ok (.getfield 119, 3) := by decide +kernel
theorem dX7_sign_8 : decode cX7_sign 8 = .ok (.if_icmp .ge 15, 3) := by decide +kernel
theorem dX7_sign_11 : decode cX7_sign 11 = .ok (.aload_n 0, 1) := by decide +kernel
theorem dX7_sign_12 : decode cX7_sign 12 = .ok (.getfield 26, 3) := by decide +kernel
theorem dX7_sign_15 : decode cX7_sign 15 = .ok (.aload_n 0, 1) := by decide +kernel
theorem dX7_sign_16 : decode cX7_sign 16 = .ok (.getfield 153, 3) := by decide +kernel
theorem dX7_sign_19 : decode cX7_sign 19 = .ok (.iaload, 1) := by decide +kernel
theorem dX7_sign_20 : decode cX7_sign 20 = .ok (.goto 4, 3) := by decide +kernel
theorem dX7_sign_23 : decode cX7_sign 23 = .ok (.iconst 0, 1) := by decide +kernel
theorem dX7_sign_24 : decode cX7_sign 24 = .ok (.istore_n 3, 1) := by decide +kernel
theorem dX7_sign_25 : decode cX7_sign 25 = .ok (.aload_n 0, 1) := by decide +kernel
theorem dX7_sign_26 : decode cX7_sign 26 = .ok (.aload_n 0, 1) := by decide +kernel
theorem dX7_sign_27 : decode cX7_sign 27 = .ok (.getfield 156, 3) := by decide +kernel
theorem dX7_sign_30 : decode cX7_sign 30 = .ok (.ifCond .ne 12, 3) := by decide +kernel
theorem dX7_sign_33 : decode cX7_sign 33 = .ok (.iload_n 3, 1) := by decide +kernel
theorem dX7_sign_34 : decode cX7_sign 34 = .ok (.iload_n 1, 1) := by decide +kernel
theorem dX7_sign_35 : decode cX7_sign 35 = .ok (.iload_n 2, 1) := by decide +kernel
theorem dX7_sign_36 : decode cX7_sign 36 = .ok (.invokestatic 39, 3) := by decide +kernel
theorem dX7_sign_39 : decode cX7_sign 39 = .ok (.ifCond .ne 7, 3) := by decide +kernel
theorem dX7_sign_42 : decode cX7_sign 42 = .ok (.iconst 1, 1) := by decide +kernel
theorem dX7_sign_43 : decode cX7_sign 43 = .ok (.goto 4, 3) := by decide +kernel
theorem dX7_sign_46 : decode cX7_sign 46 = .ok (.iconst 0, 1) := by decide +kernel
theorem dX7_sign_47 : decode cX7_sign 47 = .ok (.putfield 156, 3) := by decide +kernel
theorem dX7_sign_50 : decode cX7_sign 50 = .ok (.aload_n 0, 1) := by decide +kernel
theorem dX7_sign_51 : decode cX7_sign 51 = .ok (.dup, 1) := by decide +kernel
theorem dX7_sign_52 : decode cX7_sign 52 = .ok (.getfield 153, 3) := by decide +kernel
theorem dX7_sign_55 : decode cX7_sign 55 = .ok (.aload_n 0, 1) := by decide +kernel
theorem dX7_sign_56 : decode cX7_sign 56 = .ok (.getfield 156, 3) := by decide +kernel
theorem dX7_sign_59 : decode cX7_sign 59 = .ok (.ifCond .eq 7, 3) := by decide +kernel
theorem dX7_sign_62 : decode cX7_sign 62 = .ok (.iconst 0, 1) := by decide +kernel
theorem dX7_sign_63 : decode cX7_sign 63 = .ok (.goto 4, 3) := by decide +kernel
theorem dX7_sign_66 : decode cX7_sign 66 = .ok (.iconst 1, 1) := by decide +kernel
theorem dX7_sign_67 : decode cX7_sign 67 = .ok (.iadd, 1) := by decide +kernel
theorem dX7_sign_68 : decode cX7_sign 68 = .ok (.putfield 153, 3) := by decide +kernel
theorem dX7_sign_71 : decode cX7_sign 71 = .ok (.iload_n 3, 1) := by decide +kernel
theorem dX7_sign_72 : decode cX7_sign 72 = .ok (.ireturn, 1) := by decide +kernel
set_option maxRecDepth 20000 in
theorem ggX7_isNext_X7_in : GoodIn wsX7_isNext wsX7_in := goodIn_r _ [8] (by decide +kernel) (by decide +kernel)
set_option maxRecDepth 20000 in
theorem gX7_isNext_X7_in : GoodIn wsX7_isNext (va_wsS RX7 39 yX7_in wsX7_in) := goodIn_app (goodIn_of _ (by decide +kernel)) ggX7_isNext_X7_in
theorem dX7_isNext_0 : decode cX7_isNext 0 = .ok (.aload_n 0, 1) := by decide +kernel
theorem dX7_isNext_1 : decode cX7_isNext 1 = .ok (.getfield 156, 3) := by decide +kernel
theorem dX7_isNext_4 : decode cX7_isNext 4 = .ok (.ifCond .ne 35, 3) := by decide +kernel
theorem dX7_isNext_7 : decode cX7_isNext 7 = .ok (.aload_n 0, 1) := by decide +kernel
theorem dX7_isNext_8 : decode cX7_isNext 8 = .ok (.getfield 153, 3) := by decide +kernel
theorem dX7_isNext_11 : decode cX7_isNext 11 = .ok (.aload_n 0, 1) := by decide +kernel
theorem dX7_isNext_12 : decode cX7_isNext 12 = .ok (.getfield 119, 3) := by decide +kernel
theorem dX7_isNext_15 : decode cX7_isNext 15 = .ok (.if_icmp .ge 24, 3) := by decide +kernel
theorem dX7_isNext_18 : decode cX7_isNext 18 = .ok (.aload_n 0, 1) := by decide +kernel
theorem dX7_isNext_19 : decode cX7_isNext 19 = .ok (.getfield 26, 3) := by decide +kernel
theorem dX7_isNext_22 : decode cX7_isNext 22 = .ok (.aload_n 0, 1) := by decide +kernel
theorem dX7_isNext_23 : decode cX7_isNext 23 = .ok (.getfield 153, 3) := by decide +kernel
theorem dX7_isNext_26 : decode cX7_isNext 26 = .ok (.iaload, 1) := by decide +kernel
theorem dX7_isNext_27 : decode cX7_isNext 27 = .ok (.iload_n 1, 1) := by decide +kernel
theorem dX7_isNext_28 : decode cX7_isNext 28 = .ok (.iload_n 2, 1) := by decide +kernel
theorem dX7_isNext_29 : decode cX7_isNext 29 = .ok (.invokestatic 39, 3) := by decide +kernel
theorem dX7_isNext_32 : decode cX7_isNext 32 = .ok (.ifCond .eq 7, 3) := by decide +kernel
theorem dX7_isNext_35 : decode cX7_isNext 35 = .ok (.iconst 1, 1) := by decide +kernel
theorem dX7_isNext_36 : decode cX7_isNext 36 = .ok (.goto 4, 3) := by decide +kernel
theorem dX7_isNext_39 : decode cX7_isNext 39 = .ok (.iconst 0, 1) := by decide +kernel
theorem dX7_isNext_40 : decode cX7_isNext 40 = .ok (.ireturn, 1) := by decide +kernel
set_option maxRecDepth 20000 in
theorem ggX7_number_X7_sign : GoodIn wsX7_number wsX7_sign := goodIn_r _ [5, 6, 7, 8, 9, 10, 11, 4, 12, 17, 18, 19, 20, 21, 22, 23, 24, 25, 26, 27, 28, 29, 30, 31, 32] (by decide +kernel) (by decide +kernel)
set_option maxRecDepth 20000 in
theorem gX7_number_X7_sign : GoodIn wsX7_number (wsV RX7 160 RX7 yX7_sign wsX7_sign) := goodIn_app (goodIn_of _ (by decide +kernel)) ggX7_number_X7_sign
set_option maxRecDepth 20000 in
theorem ggX7_number_X7_isNext : GoodIn wsX7_number wsX7_isNext := goodIn_r _ [16, 9, 6, 7, 8, 10, 11, 4, 12, 17, 18, 19, 20, 21, 22, 23, 24, 25, 26, 27, 28, 29, 30, 31, 32] (by decide +kernel) (by decide +kernel)
set_option maxRecDepth 20000 in
theorem gX7_number_X7_isNext : GoodIn wsX7_number (wsV RX7 163 RX7 yX7_isNext wsX7_isNext) := goodIn_app (goodIn_of _ (by decide +kernel)) ggX7_number_X7_isNext
theorem dX7_number_0 : decode cX7_number 0 = .ok (.aload_n 0, 1) := by decide +kernel
theorem dX7_number_1 : decode cX7_number 1 = .ok (.bipush 48, 2) := by decide +kernel
theorem dX7_number_3 : decode cX7_number 3 = .ok (.bipush 57, 2) := by decide +kernel
theorem dX7_number_5 : decode cX7_number 5 = .ok (.invokevirtual 160, 3) := by decide +kernel
theorem dX7_number_8 : decode cX7_number 8 = .ok (.bipush 48, 2) := by decide +kernel
theorem dX7_number_10 : decode cX7_number 10 = .ok (.isub, 1) := by decide +kernel
theorem dX7_number_11 : decode cX7_number 11 = .ok (.istore_n 1, 1) := by decide +kernel
theorem dX7_number_12 : decode cX7_number 12 = .ok (.iload_n 1, 1) := by decide +kernel
theorem dX7_number_13 : decode cX7_number 13 = .ok (.ifCond .le 33, 3) := by decide +kernel
theorem dX7_number_16 : decode cX7_number 16 = .ok (.aload_n 0, 1) := by decide +kernel
theorem dX7_number_17 : decode cX7_number 17 = .ok (.bipush 48, 2) := by decide +kernel
theorem dX7_number_19 : decode cX7_number 19 = .ok (.bipush 57, 2) := by decide +kernel
theorem dX7_number_21 : decode cX7_number 21 = .ok (.invokevirtual 163, 3) := by decide +kernel
theorem dX7_number_24 : decode cX7_number 24 = .ok (.ifCond .eq 22, 3) := by decide +kernel
theorem dX7_number_27 : decode cX7_number 27 = .ok (.bipush 10, 2) := by decide +kernel
theorem dX7_number_29 : decode cX7_number 29 = .ok (.iload_n 1, 1) := by decide +kernel
