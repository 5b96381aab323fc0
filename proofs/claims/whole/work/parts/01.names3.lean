theorem dX6_put_54 : decode cX6_put 54 = .ok (.l2i, 1) := by decide +kernel
theorem dX6_put_55 : decode cX6_put 55 = .ok (.i2c, 1) := by decide +kernel
theorem dX6_put_56 : decode cX6_put 56 = .ok (.invokevirtual 209, 3) := by decide +kernel
theorem dX6_put_59 : decode cX6_put 59 = .ok (.iinc 4 (-1), 3) := by decide +kernel
theorem dX6_put_62 : decode cX6_put 62 = .ok (.goto (-28), 3) := by decide +kernel
theorem dX6_put_65 : decode cX6_put 65 = .ok (.aload_n 0, 1) := by decide +kernel
theorem dX6_put_66 : decode cX6_put 66 = .ok (.getfield 26, 3) := by decide +kernel
theorem dX6_put_69 : decode cX6_put 69 = .ok (.getfield 177, 3) := by decide +kernel
theorem dX6_put_72 : decode cX6_put 72 = .ok (.ireturn, 1) := by decide +kernel
theorem dX6_wipe_0 : decode cX6_wipe 0 = .ok (.aload_n 0, 1) := by decide +kernel
theorem dX6_wipe_1 : decode cX6_wipe 1 = .ok (.getfield 26, 3) := by decide +kernel
theorem dX6_wipe_4 : decode cX6_wipe 4 = .ok (.getfield 177, 3) := by decide +kernel
theorem dX6_wipe_7 : decode cX6_wipe 7 = .ok (.istore_n 1, 1) := by decide +kernel
theorem dX6_wipe_8 : decode cX6_wipe 8 = .ok (.aload_n 0, 1) := by decide +kernel
theorem dX6_wipe_9 : decode cX6_wipe 9 = .ok (.getfield 26, 3) := by decide +kernel
theorem dX6_wipe_12 : decode cX6_wipe 12 = .ok (.iconst 0, 1) := by decide +kernel
theorem dX6_wipe_13 : decode cX6_wipe 13 = .ok (.putfield 177, 3) := by decide +kernel
theorem dX6_wipe_16 : decode cX6_wipe 16 = .ok (.iload_n 1, 1) := by decide +kernel
theorem dX6_wipe_17 : decode cX6_wipe 17 = .ok (.ireturn, 1) := by decide +kernel
set_option maxRecDepth 20000 in
theorem ggX6_fault_X4_faultIndex : GoodIn wsX6_fault wsX4_faultIndex := goodIn_r _ [6, 7, 8, 9, 10, 11, 5, 12, 13, 14, 15, 16, 17, 18, 19, 20, 21, 22, 23, 24, 25, 26, 27, 28, 29, 30, 31, 32, 33, 34, 35, 36, 37, 38, 39, 40, 41, 42, 43, 44, 45, 46, 47, 53, 54, 55, 56, 57, 58, 59] (by decide +kernel) (by decide +kernel)
set_option maxRecDepth 20000 in
theorem gX6_fault_X4_faultIndex : GoodIn wsX6_fault (wsV RX6 213 RX4 yX4_faultIndex wsX4_faultIndex) := goodIn_app (goodIn_of _ (by decide +kernel)) ggX6_fault_X4_faultIndex
theorem dX6_fault_0 : decode cX6_fault 0 = .ok (.aload_n 0, 1) := by decide +kernel
theorem dX6_fault_1 : decode cX6_fault 1 = .ok (.getfield 26, 3) := by decide +kernel
theorem dX6_fault_4 : decode cX6_fault 4 = .ok (.invokevirtual 213, 3) := by decide +kernel
theorem dX6_fault_7 : decode cX6_fault 7 = .ok (.ireturn, 1) := by decide +kernel
set_option maxRecDepth 20000 in
theorem ggX6_carryOut_X4_faultIndex : GoodIn wsX6_carryOut wsX4_faultIndex := goodIn_r _ [9, 10, 11, 12, 13, 14, 8, 15, 16, 17, 18, 19, 20, 21, 22, 23, 24, 25, 26, 27, 28, 29, 30, 31, 32, 33, 34, 35, 36, 37, 38, 39, 40, 41, 42, 43, 44, 45, 46, 47, 48, 49, 50, 234, 235, 236, 237, 238, 239, 240] (by decide +kernel) (by decide +kernel)
set_option maxRecDepth 20000 in
theorem gX6_carryOut_X4_faultIndex : GoodIn wsX6_carryOut (wsV RX6 213 RX4 yX4_faultIndex wsX4_faultIndex) := goodIn_app (goodIn_of _ (by decide +kernel)) ggX6_carryOut_X4_faultIndex
set_option maxRecDepth 20000 in
theorem ggX6_carryOut_X2_prepare : GoodIn wsX6_carryOut wsX2_prepare := goodIn_r _ [55, 56, 57, 58, 59, 60, 61, 62, 63, 64, 65, 66, 67, 68, 69, 70, 71, 72, 73, 74, 75, 76, 77, 78, 79, 80, 81, 82, 83, 84, 85, 86, 87, 88, 89, 90, 91, 92, 93, 94, 95, 96, 97, 98, 33, 99, 100, 101, 102, 103, 104, 105, 106, 107, 108, 109, 110, 111, 112, 113, 114, 115, 116, 241, 242, 243, 244, 245, 246, 247, 248, 249, 250, 251, 252, 253, 254, 255, 256, 257, 258] (by decide +kernel) (by decide +kernel)
set_option maxRecDepth 20000 in
theorem gX6_carryOut_X2_prepare : GoodIn wsX6_carryOut (wsV RX6 41 RX2 yX2_prepare wsX2_prepare) := goodIn_app (goodIn_of _ (by decide +kernel)) ggX6_carryOut_X2_prepare
set_option maxRecDepth 20000 in
theorem ggX6_carryOut_X6_carryOutOrders : GoodIn wsX6_carryOut wsX6_carryOutOrders := goodIn_r _ [120, 1, 121, 122, 13, 14, 8, 15, 16, 17, 18, 19, 20, 21, 10, 11, 22, 23, 24, 25, 26, 27, 28, 29, 30, 31, 32, 33, 34, 35, 36, 37, 38, 39, 40, 41, 42, 43, 44, 45, 46, 47, 48, 49, 50, 123, 124, 125, 126, 127, 3, 128, 129, 130, 131, 132, 133, 60, 134, 75, 135, 136, 137, 138, 139, 140, 141, 142, 143, 144, 74, 145, 116, 146, 147, 148, 149, 86, 90, 150, 151, 152, 153, 97, 154, 155, 156, 157, 71, 158, 159, 160, 161, 162, 67, 163, 164, 165, 166, 167, 168, 169, 70, 170, 81, 80, 82, 171, 172, 173, 174, 175, 176, 177, 178, 179, 180, 181, 182, 183, 184, 185, 186, 102, 187, 188, 189, 190, 191, 192, 193, 194, 195, 196, 197, 198, 199, 200, 201, 202, 203, 204, 205, 206, 207, 208, 209, 210, 211, 212, 213, 214, 215, 216, 217, 218, 219, 220, 229, 230, 231, 232, 233, 234, 235, 236, 237, 238, 239, 240, 243, 244, 245, 246, 251, 252, 253, 254, 255, 256, 257, 258, 247, 248, 249, 250] (by decide +kernel) (by decide +kernel)
set_option maxRecDepth 20000 in
theorem gX6_carryOut_X6_carryOutOrders : GoodIn wsX6_carryOut (wsV RX6 216 RX6 yX6_carryOutOrders wsX6_carryOutOrders) := goodIn_app (goodIn_of _ (by decide +kernel)) ggX6_carryOut_X6_carryOutOrders
set_option maxRecDepth 20000 in
theorem ggX6_carryOut_X6_recorded : GoodIn wsX6_carryOut wsX6_recorded := goodIn_r _ [224, 2, 225, 226, 227, 54, 228, 57, 56, 229, 230, 231, 232, 233, 241, 242] (by decide +kernel) (by decide +kernel)
set_option maxRecDepth 20000 in
theorem gX6_carryOut_X6_recorded : GoodIn wsX6_carryOut (wsV RX6 49 RX6 yX6_recorded wsX6_recorded) := goodIn_app (goodIn_of _ (by decide +kernel)) ggX6_carryOut_X6_recorded
theorem dX6_carryOut_0 : decode cX6_carryOut 0 = .ok (.aload_n 0, 1) := by decide +kernel
theorem dX6_carryOut_1 : decode cX6_carryOut 1 = .ok (.getfield 26, 3) := by decide +kernel
theorem dX6_carryOut_4 : decode cX6_carryOut 4 = .ok (.invokevirtual 213, 3) := by decide +kernel
theorem dX6_carryOut_7 : decode cX6_carryOut 7 = .ok (.bipush (-6), 2) := by decide +kernel
theorem dX6_carryOut_9 : decode cX6_carryOut 9 = .ok (.if_icmp .eq 6, 3) := by decide +kernel
theorem dX6_carryOut_12 : decode cX6_carryOut 12 = .ok (.bipush (-3), 2) := by decide +kernel
theorem dX6_carryOut_14 : decode cX6_carryOut 14 = .ok (.ireturn, 1) := by decide +kernel
theorem dX6_carryOut_15 : decode cX6_carryOut 15 = .ok (.aload_n 0, 1) := by decide +kernel
theorem dX6_carryOut_16 : decode cX6_carryOut 16 = .ok (.getfield 33, 3) := by decide +kernel
theorem dX6_carryOut_19 : decode cX6_carryOut 19 = .ok (.aload_n 0, 1) := by decide +kernel
theorem dX6_carryOut_20 : decode cX6_carryOut 20 = .ok (.getfield 10, 3) := by decide +kernel
theorem dX6_carryOut_23 : decode cX6_carryOut 23 = .ok (.invokevirtual 41, 3) := by decide +kernel
theorem dX6_carryOut_26 : decode cX6_carryOut 26 = .ok (.aload_n 0, 1) := by decide +kernel
theorem dX6_carryOut_27 : decode cX6_carryOut 27 = .ok (.invokevirtual 216, 3) := by decide +kernel
theorem dX6_carryOut_30 : decode cX6_carryOut 30 = .ok (.istore_n 1, 1) := by decide +kernel
theorem dX6_carryOut_31 : decode cX6_carryOut 31 = .ok (.aload_n 0, 1) := by decide +kernel
theorem dX6_carryOut_32 : decode cX6_carryOut 32 = .ok (.getfield 26, 3) := by decide +kernel
theorem dX6_carryOut_35 : decode cX6_carryOut 35 = .ok (.iconst 0, 1) := by decide +kernel
theorem dX6_carryOut_36 : decode cX6_carryOut 36 = .ok (.putfield 177, 3) := by decide +kernel
theorem dX6_carryOut_39 : decode cX6_carryOut 39 = .ok (.aload_n 0, 1) := by decide +kernel
theorem dX6_carryOut_40 : decode cX6_carryOut 40 = .ok (.iload_n 1, 1) := by decide +kernel
theorem dX6_carryOut_41 : decode cX6_carryOut 41 = .ok (.invokevirtual 49, 3) := by decide +kernel
theorem dX6_carryOut_44 : decode cX6_carryOut 44 = .ok (.ireturn, 1) := by decide +kernel
set_option maxRecDepth 20000 in
theorem ggX6_undo_X2_takeBack : GoodIn wsX6_undo wsX2_takeBack := goodIn_r _ [8, 9, 10, 11, 12, 13, 14, 15, 16, 17, 18, 19, 20, 21, 22, 23, 24, 25, 26, 27, 28, 29, 30, 31, 32, 33, 34, 35, 36, 37, 38, 39, 40, 41, 42, 43, 44, 45, 46, 47, 48, 49, 50, 51, 52, 58, 59, 60, 61, 62, 63, 64, 65, 66, 67, 68, 69, 70, 71, 72, 73, 74, 75] (by decide +kernel) (by decide +kernel)
set_option maxRecDepth 20000 in
theorem gX6_undo_X2_takeBack : GoodIn wsX6_undo (wsV RX6 219 RX2 yX2_takeBack wsX2_takeBack) := goodIn_app (goodIn_of _ (by decide +kernel)) ggX6_undo_X2_takeBack
theorem dX6_undo_0 : decode cX6_undo 0 = .ok (.aload_n 0, 1) := by decide +kernel
theorem dX6_undo_1 : decode cX6_undo 1 = .ok (.getfield 33, 3) := by decide +kernel
theorem dX6_undo_4 : decode cX6_undo 4 = .ok (.aload_n 0, 1) := by decide +kernel
theorem dX6_undo_5 : decode cX6_undo 5 = .ok (.getfield 10, 3) := by decide +kernel
theorem dX6_undo_8 : decode cX6_undo 8 = .ok (.invokevirtual 219, 3) := by decide +kernel
theorem dX6_undo_11 : decode cX6_undo 11 = .ok (.ifCond .eq 13, 3) := by decide +kernel
theorem dX6_undo_14 : decode cX6_undo 14 = .ok (.aload_n 0, 1) := by decide +kernel
theorem dX6_undo_15 : decode cX6_undo 15 = .ok (.getfield 33, 3) := by decide +kernel
theorem dX6_undo_18 : decode cX6_undo 18 = .ok (.getfield 180, 3) := by decide +kernel
theorem dX6_undo_21 : decode cX6_undo 21 = .ok (.goto 5, 3) := by decide +kernel
theorem dX6_undo_24 : decode cX6_undo 24 = .ok (.bipush (-5), 2) := by decide +kernel
theorem dX6_undo_26 : decode cX6_undo 26 = .ok (.ireturn, 1) := by decide +kernel
set_option maxRecDepth 20000 in
theorem ggX6_save_X0_init : GoodIn wsX6_save wsX0_init := goodIn_r _ [9, 10, 11, 12, 13, 14, 15, 16, 17, 18, 19, 20, 21, 22, 23, 24, 25, 26, 27, 28, 29, 30, 31, 32, 33, 34, 35, 36, 37, 38, 39, 70, 71, 72, 73, 82, 83, 84, 85, 74, 75, 76, 77, 78, 79, 80, 81] (by decide +kernel) (by decide +kernel)
set_option maxRecDepth 20000 in
theorem gX6_save_X0_init_n9 : GoodIn wsX6_save (wsX0_init) := ggX6_save_X0_init
set_option maxRecDepth 20000 in
theorem ggX6_save_X0_copyFrom : GoodIn wsX6_save wsX0_copyFrom := goodIn_r _ [43, 14, 44, 18, 22, 45, 46, 47, 48, 49, 50, 51, 52, 53, 54, 55, 56, 57, 58, 17, 59, 26, 27, 28, 29, 60, 61, 62, 21, 63, 64, 33, 34, 35, 36, 37, 38, 39, 70, 71, 72, 73, 82, 83, 84, 85, 74, 75, 76, 77, 78, 79, 80, 81] (by decide +kernel) (by decide +kernel)
set_option maxRecDepth 20000 in
theorem gX6_save_X0_copyFrom : GoodIn wsX6_save (wsV RX6 223 RX0 yX0_copyFrom wsX0_copyFrom) := goodIn_app (goodIn_of _ (by decide +kernel)) ggX6_save_X0_copyFrom
theorem dX6_save_0 : decode cX6_save 0 = .ok (.iload_n 1, 1) := by decide +kernel
theorem dX6_save_1 : decode cX6_save 1 = .ok (.ifCond .lt 8, 3) := by decide +kernel
theorem dX6_save_4 : decode cX6_save 4 = .ok (.iload_n 1, 1) := by decide +kernel
theorem dX6_save_5 : decode cX6_save 5 = .ok (.iconst 2, 1) := by decide +kernel
theorem dX6_save_6 : decode cX6_save 6 = .ok (.if_icmp .lt 6, 3) := by decide +kernel
theorem dX6_save_9 : decode cX6_save 9 = .ok (.bipush (-2), 2) := by decide +kernel
theorem dX6_save_11 : decode cX6_save 11 = .ok (.ireturn, 1) := by decide +kernel
theorem dX6_save_12 : decode cX6_save 12 = .ok (.aload_n 0, 1) := by decide +kernel
theorem dX6_save_13 : decode cX6_save 13 = .ok (.getfield 37, 3) := by decide +kernel
theorem dX6_save_16 : decode cX6_save 16 = .ok (.iload_n 1, 1) := by decide +kernel
theorem dX6_save_17 : decode cX6_save 17 = .ok (.aaload, 1) := by decide +kernel
theorem dX6_save_18 : decode cX6_save 18 = .ok (.astore_n 2, 1) := by decide +kernel
theorem dX6_save_19 : decode cX6_save 19 = .ok (.aload_n 2, 1) := by decide +kernel
theorem dX6_save_20 : decode cX6_save 20 = .ok (.ifnonnull 18, 3) := by decide +kernel
theorem dX6_save_23 : decode cX6_save 23 = .ok (.new 7, 3) := by decide +kernel
theorem dX6_save_26 : decode cX6_save 26 = .ok (.dup, 1) := by decide +kernel
theorem dX6_save_27 : decode cX6_save 27 = .ok (.invokespecial 9, 3) := by decide +kernel
theorem dX6_save_30 : decode cX6_save 30 = .ok (.astore_n 2, 1) := by decide +kernel
theorem dX6_save_31 : decode cX6_save 31 = .ok (.aload_n 0, 1) := by decide +kernel
theorem dX6_save_32 : decode cX6_save 32 = .ok (.getfield 37, 3) := by decide +kernel
theorem dX6_save_35 : decode cX6_save 35 = .ok (.iload_n 1, 1) := by decide +kernel
theorem dX6_save_36 : decode cX6_save 36 = .ok (.aload_n 2, 1) := by decide +kernel
theorem dX6_save_37 : decode cX6_save 37 = .ok (.aastore, 1) := by decide +kernel
theorem dX6_save_38 : decode cX6_save 38 = .ok (.aload_n 2, 1) := by decide +kernel
theorem dX6_save_39 : decode cX6_save 39 = .ok (.aload_n 0, 1) := by decide +kernel
theorem dX6_save_40 : decode cX6_save 40 = .ok (.getfield 10, 3) := by decide +kernel
theorem dX6_save_43 : decode cX6_save 43 = .ok (.invokevirtual 223, 3) := by decide +kernel
theorem dX6_save_46 : decode cX6_save 46 = .ok (.aload_n 0, 1) := by decide +kernel
theorem dX6_save_47 : decode cX6_save 47 = .ok (.getfield 10, 3) := by decide +kernel
theorem dX6_save_50 : decode cX6_save 50 = .ok (.getfield 75, 3) := by decide +kernel
theorem dX6_save_53 : decode cX6_save 53 = .ok (.getfield 161, 3) := by decide +kernel
theorem dX6_save_56 : decode cX6_save 56 = .ok (.ireturn, 1) := by decide +kernel
set_option maxRecDepth 20000 in
theorem ggX6_restore_X2_prepare : GoodIn wsX6_restore wsX2_prepare := goodIn_r _ [10, 11, 12, 13, 14, 15, 16, 17, 18, 19, 20, 21, 22, 23, 24, 25, 26, 27, 28, 29, 30, 31, 32, 33, 34, 35, 36, 37, 38, 39, 40, 41, 42, 43, 44, 45, 46, 47, 48, 49, 50, 51, 52, 53, 54, 55, 56, 57, 58, 59, 60, 61, 62, 63, 64, 65, 66, 67, 68, 69, 70, 71, 72, 99, 100, 87, 88, 89, 90, 101, 102, 103, 104, 91, 92, 93, 94, 95, 96, 97, 98] (by decide +kernel) (by decide +kernel)
set_option maxRecDepth 20000 in
theorem gX6_restore_X2_prepare : GoodIn wsX6_restore (wsV RX6 41 RX2 yX2_prepare wsX2_prepare) := goodIn_app (goodIn_of _ (by decide +kernel)) ggX6_restore_X2_prepare
set_option maxRecDepth 20000 in
theorem ggX6_restore_X0_copyFrom : GoodIn wsX6_restore wsX0_copyFrom := goodIn_r _ [51, 22, 52, 26, 30, 53, 54, 55, 56, 57, 58, 59, 60, 61, 62, 63, 64, 65, 66, 25, 67, 34, 35, 36, 37, 68, 69, 70, 29, 71, 72, 41, 42, 43, 44, 45, 46, 47, 87, 88, 89, 90, 101, 102, 103, 104, 91, 92, 93, 94, 95, 96, 97, 98] (by decide +kernel) (by decide +kernel)
set_option maxRecDepth 20000 in
theorem gX6_restore_X0_copyFrom : GoodIn wsX6_restore (wsV RX6 223 RX0 yX0_copyFrom wsX0_copyFrom) := goodIn_app (goodIn_of _ (by decide +kernel)) ggX6_restore_X0_copyFrom
set_option maxRecDepth 20000 in
theorem ggX6_restore_X6_recorded : GoodIn wsX6_restore wsX6_recorded := goodIn_r _ [77, 2, 78, 79, 80, 9, 81, 12, 11, 82, 83, 84, 85, 86, 99, 100] (by decide +kernel) (by decide +kernel)
set_option maxRecDepth 20000 in
theorem gX6_restore_X6_recorded : GoodIn wsX6_restore (wsV RX6 49 RX6 yX6_recorded wsX6_recorded) := goodIn_app (goodIn_of _ (by decide +kernel)) ggX6_restore_X6_recorded
theorem dX6_restore_0 : decode cX6_restore 0 = .ok (.iload_n 1, 1) := by decide +kernel
theorem dX6_restore_1 : decode cX6_restore 1 = .ok (.ifCond .lt 8, 3) := by decide +kernel
theorem dX6_restore_4 : decode cX6_restore 4 = .ok (.iload_n 1, 1) := by decide +kernel
theorem dX6_restore_5 : decode cX6_restore 5 = .ok (.iconst 2, 1) := by decide +kernel
theorem dX6_restore_6 : decode cX6_restore 6 = .ok (.if_icmp .lt 6, 3) := by decide +kernel
theorem dX6_restore_9 : decode cX6_restore 9 = .ok (.bipush (-2), 2) := by decide +kernel
theorem dX6_restore_11 : decode cX6_restore 11 = .ok (.ireturn, 1) := by decide +kernel
theorem dX6_restore_12 : decode cX6_restore 12 = .ok (.aload_n 0, 1) := by decide +kernel
theorem dX6_restore_13 : decode cX6_restore 13 = .ok (.getfield 37, 3) := by decide +kernel
theorem dX6_restore_16 : decode cX6_restore 16 = .ok (.iload_n 1, 1) := by decide +kernel
theorem dX6_restore_17 : decode cX6_restore 17 = .ok (.aaload, 1) := by decide +kernel
theorem dX6_restore_18 : decode cX6_restore 18 = .ok (.astore_n 2, 1) := by decide +kernel
theorem dX6_restore_19 : decode cX6_restore 19 = .ok (.aload_n 2, 1) := by decide +kernel
theorem dX6_restore_20 : decode cX6_restore 20 = .ok (.ifnonnull 6, 3) := by decide +kernel
theorem dX6_restore_23 : decode cX6_restore 23 = .ok (.bipush (-5), 2) := by decide +kernel
theorem dX6_restore_25 : decode cX6_restore 25 = .ok (.ireturn, 1) := by decide +kernel
theorem dX6_restore_26 : decode cX6_restore 26 = .ok (.aload_n 0, 1) := by decide +kernel
theorem dX6_restore_27 : decode cX6_restore 27 = .ok (.getfield 33, 3) := by decide +kernel
theorem dX6_restore_30 : decode cX6_restore 30 = .ok (.aload_n 0, 1) := by decide +kernel
theorem dX6_restore_31 : decode cX6_restore 31 = .ok (.getfield 10, 3) := by decide +kernel
theorem dX6_restore_34 : decode cX6_restore 34 = .ok (.invokevirtual 41, 3) := by decide +kernel
theorem dX6_restore_37 : decode cX6_restore 37 = .ok (.aload_n 0, 1) := by decide +kernel
theorem dX6_restore_38 : decode cX6_restore 38 = .ok (.getfield 10, 3) := by decide +kernel
theorem dX6_restore_41 : decode cX6_restore 41 = .ok (.aload_n 2, 1) := by decide +kernel
theorem dX6_restore_42 : decode cX6_restore 42 = .ok (.invokevirtual 223, 3) := by decide +kernel
theorem dX6_restore_45 : decode cX6_restore 45 = .ok (.aload_n 0, 1) := by decide +kernel
theorem dX6_restore_46 : decode cX6_restore 46 = .ok (.aload_n 0, 1) := by decide +kernel
theorem dX6_restore_47 : decode cX6_restore 47 = .ok (.getfield 10, 3) := by decide +kernel
theorem dX6_restore_50 : decode cX6_restore 50 = .ok (.getfield 75, 3) := by decide +kernel
theorem dX6_restore_53 : decode cX6_restore 53 = .ok (.getfield 161, 3) := by decide +kernel
theorem dX6_restore_56 : decode cX6_restore 56 = .ok (.invokevirtual 49, 3) := by decide +kernel
theorem dX6_restore_59 : decode cX6_restore 59 = .ok (.ireturn, 1) := by decide +kernel
set_option maxRecDepth 20000 in
theorem ggX6_carryOutOrders_X4_readOrder : GoodIn wsX6_carryOutOrders wsX4_readOrder := goodIn_r _ [7, 8, 9, 10, 11, 12, 6, 13, 14, 15, 16, 17, 18, 19, 20, 21, 22, 23, 24, 25, 26, 27, 28, 29, 30, 31, 32, 33, 34, 35, 36, 37, 38, 39, 40, 41, 42, 43, 44, 163, 164, 165, 166, 167, 168, 169] (by decide +kernel) (by decide +kernel)
set_option maxRecDepth 20000 in
theorem gX6_carryOutOrders_X4_readOrder : GoodIn wsX6_carryOutOrders (wsV RX6 229 RX4 yX4_readOrder wsX4_readOrder) := goodIn_app (goodIn_of _ (by decide +kernel)) ggX6_carryOutOrders_X4_readOrder
set_option maxRecDepth 20000 in
theorem ggX6_carryOutOrders_X6_carryOutOrder : GoodIn wsX6_carryOutOrders wsX6_carryOutOrder := goodIn_r _ [48, 1, 49, 50, 51, 52, 53, 54, 55, 56, 57, 58, 59, 60, 61, 62, 63, 64, 65, 66, 26, 27, 28, 67, 68, 69, 70, 71, 72, 73, 74, 75, 76, 77, 78, 79, 80, 81, 82, 83, 84, 85, 86, 87, 88, 89, 90, 91, 92, 93, 94, 95, 96, 97, 98, 99, 100, 101, 102, 103, 104, 105, 106, 107, 108, 109, 110, 111, 112, 113, 114, 115, 116, 117, 118, 119, 120, 121, 122, 123, 124, 125, 126, 127, 128, 129, 130, 131, 132, 133, 134, 135, 136, 137, 138, 139, 140, 141, 142, 143, 144, 145, 146, 147, 148, 149, 150, 151, 152, 153, 154, 155, 156, 158, 159, 160, 161, 162, 163, 164, 165, 166, 167, 168, 169, 170, 171, 172, 173, 174, 175, 176, 177, 178, 179, 180, 181, 182, 183, 184, 185] (by decide +kernel) (by decide +kernel)
set_option maxRecDepth 20000 in
theorem gX6_carryOutOrders_X6_carryOutOrder : GoodIn wsX6_carryOutOrders (wsV RX6 233 RX6 yX6_carryOutOrder wsX6_carryOutOrder) := goodIn_app (goodIn_of _ (by decide +kernel)) ggX6_carryOutOrders_X6_carryOutOrder
set_option maxRecDepth 20000 in
theorem ggX6_carryOutOrders_X4_take : GoodIn wsX6_carryOutOrders wsX4_take := goodIn_r _ [20, 14, 10, 11, 12, 6, 13, 15, 16, 163, 164, 165, 166, 167, 168, 169] (by decide +kernel) (by decide +kernel)
set_option maxRecDepth 20000 in
theorem gX6_carryOutOrders_X4_take : GoodIn wsX6_carryOutOrders (wsV RX6 236 RX4 yX4_take wsX4_take) := goodIn_app (goodIn_of _ (by decide +kernel)) ggX6_carryOutOrders_X4_take
theorem dX6_carryOutOrders_0 : decode cX6_carryOutOrders 0 = .ok (.aload_n 0, 1) := by decide +kernel
theorem dX6_carryOutOrders_1 : decode cX6_carryOutOrders 1 = .ok (.getfield 26, 3) := by decide +kernel
theorem dX6_carryOutOrders_4 : decode cX6_carryOutOrders 4 = .ok (.iconst 0, 1) := by decide +kernel
theorem dX6_carryOutOrders_5 : decode cX6_carryOutOrders 5 = .ok (.putfield 226, 3) := by decide +kernel
theorem dX6_carryOutOrders_8 : decode cX6_carryOutOrders 8 = .ok (.iconst 0, 1) := by decide +kernel
theorem dX6_carryOutOrders_9 : decode cX6_carryOutOrders 9 = .ok (.istore_n 1, 1) := by decide +kernel
theorem dX6_carryOutOrders_10 : decode cX6_carryOutOrders 10 = .ok (.iload_n 1, 1) := by decide +kernel
theorem dX6_carryOutOrders_11 : decode cX6_carryOutOrders 11 = .ok (.bipush 80, 2) := by decide +kernel
theorem dX6_carryOutOrders_13 : decode cX6_carryOutOrders 13 = .ok (.if_icmp .ge 44, 3) := by decide +kernel
theorem dX6_carryOutOrders_16 : decode cX6_carryOutOrders 16 = .ok (.aload_n 0, 1) := by decide +kernel
theorem dX6_carryOutOrders_17 : decode cX6_carryOutOrders 17 = .ok (.getfield 26, 3) := by decide +kernel
theorem dX6_carryOutOrders_20 : decode cX6_carryOutOrders 20 = .ok (.invokevirtual 229, 3) := by decide +kernel
theorem dX6_carryOutOrders_23 : decode cX6_carryOutOrders 23 = .ok (.ifCond .eq 10, 3) := by decide +kernel
theorem dX6_carryOutOrders_26 : decode cX6_carryOutOrders 26 = .ok (.aload_n 0, 1) := by decide +kernel
theorem dX6_carryOutOrders_27 : decode cX6_carryOutOrders 27 = .ok (.invokevirtual 233, 3) := by decide +kernel
theorem dX6_carryOutOrders_30 : decode cX6_carryOutOrders 30 = .ok (.ifCond .ge 5, 3) := by decide +kernel
theorem dX6_carryOutOrders_33 : decode cX6_carryOutOrders 33 = .ok (.iload_n 1, 1) := by decide +kernel
theorem dX6_carryOutOrders_34 : decode cX6_carryOutOrders 34 = .ok (.ireturn, 1) := by decide +kernel
theorem dX6_carryOutOrders_35 : decode cX6_carryOutOrders 35 = .ok (.aload_n 0, 1) := by decide +kernel
theorem dX6_carryOutOrders_36 : decode cX6_carryOutOrders 36 = .ok (.getfield 26, 3) := by decide +kernel
theorem dX6_carryOutOrders_39 : decode cX6_carryOutOrders 39 = .ok (.bipush 59, 2) := by decide +kernel
theorem dX6_carryOutOrders_41 : decode cX6_carryOutOrders 41 = .ok (.invokevirtual 236, 3) := by decide +kernel
theorem dX6_carryOutOrders_44 : decode cX6_carryOutOrders 44 = .ok (.ifCond .ne 7, 3) := by decide +kernel
theorem dX6_carryOutOrders_47 : decode cX6_carryOutOrders 47 = .ok (.iload_n 1, 1) := by decide +kernel
theorem dX6_carryOutOrders_48 : decode cX6_carryOutOrders 48 = .ok (.iconst 1, 1) := by decide +kernel
theorem dX6_carryOutOrders_49 : decode cX6_carryOutOrders 49 = .ok (.iadd, 1) := by decide +kernel
theorem dX6_carryOutOrders_50 : decode cX6_carryOutOrders 50 = .ok (.ireturn, 1) := by decide +kernel
theorem dX6_carryOutOrders_51 : decode cX6_carryOutOrders 51 = .ok (.iinc 1 1, 3) := by decide +kernel
theorem dX6_carryOutOrders_54 : decode cX6_carryOutOrders 54 = .ok (.goto (-44), 3) := by decide +kernel
theorem dX6_carryOutOrders_57 : decode cX6_carryOutOrders 57 = .ok (.bipush 80, 2) := by decide +kernel
theorem dX6_carryOutOrders_59 : decode cX6_carryOutOrders 59 = .ok (.ireturn, 1) := by decide +kernel
set_option maxRecDepth 20000 in
theorem ggX6_carryOutOrder_X0_writeLetter : GoodIn wsX6_carryOutOrder wsX0_writeLetter := goodIn_r _ [11, 12, 13, 14, 15, 16, 17, 18, 19, 20, 21, 22, 23, 24, 25, 26, 27, 28, 29, 30, 31, 32, 33, 34, 35, 36, 37, 10, 38, 39, 125, 126, 127, 128, 129, 130, 131, 132, 133, 134, 135, 136] (by decide +kernel) (by decide +kernel)
set_option maxRecDepth 20000 in
theorem gX6_carryOutOrder_X0_writeLetter : GoodIn wsX6_carryOutOrder (wsV RX6 53 RX0 yX0_writeLetter wsX0_writeLetter) := goodIn_app (goodIn_of _ (by decide +kernel)) ggX6_carryOutOrder_X0_writeLetter
set_option maxRecDepth 20000 in
theorem ggX6_carryOutOrder_X0_turnKey : GoodIn wsX6_carryOutOrder wsX0_turnKey := goodIn_r _ [43, 44, 45, 20, 21, 22, 125, 126, 127, 128, 137, 138, 139, 140] (by decide +kernel) (by decide +kernel)
set_option maxRecDepth 20000 in
theorem gX6_carryOutOrder_X0_turnKey : GoodIn wsX6_carryOutOrder (wsV RX6 57 RX0 yX0_turnKey wsX0_turnKey) := goodIn_app (goodIn_of _ (by decide +kernel)) ggX6_carryOutOrder_X0_turnKey
set_option maxRecDepth 20000 in
theorem ggX6_carryOutOrder_X0_passHours : GoodIn wsX6_carryOutOrder wsX0_passHours := goodIn_r _ [49, 39, 44, 50, 51, 52, 53, 10, 54, 55, 56, 57, 58, 59, 60, 61, 62, 63, 64, 65, 66, 12, 13, 45, 67, 68, 69, 26, 70, 33, 34, 35, 36, 37, 38, 71, 72, 73, 74, 16, 75, 17, 76, 77, 78, 79, 80, 81, 82, 83, 84, 85, 19, 14, 86, 87, 88, 89, 90, 91, 92, 93, 94, 95, 96, 125, 126, 127, 128, 137, 138, 139, 140, 129, 130, 131, 132, 133, 134, 135, 136] (by decide +kernel) (by decide +kernel)
set_option maxRecDepth 20000 in
theorem gX6_carryOutOrder_X0_passHours : GoodIn wsX6_carryOutOrder (wsV RX6 69 RX0 yX0_passHours wsX0_passHours) := goodIn_app (goodIn_of _ (by decide +kernel)) ggX6_carryOutOrder_X0_passHours
set_option maxRecDepth 20000 in
theorem ggX6_carryOutOrder_X0_burnLetter : GoodIn wsX6_carryOutOrder wsX0_burnLetter := goodIn_r _ [100, 12, 14, 15, 23, 24, 25, 26, 27, 28, 101, 102, 103, 10, 104, 44, 45, 20, 21, 22, 86, 87, 88, 89, 85, 17, 16, 50, 77, 78, 79, 80, 35, 36, 37, 38, 39, 125, 126, 127, 128, 129, 130, 131, 132, 133, 134, 135, 136, 137, 138, 139, 140] (by decide +kernel) (by decide +kernel)
set_option maxRecDepth 20000 in
theorem gX6_carryOutOrder_X0_burnLetter : GoodIn wsX6_carryOutOrder (wsV RX6 66 RX0 yX0_burnLetter wsX0_burnLetter) := goodIn_app (goodIn_of _ (by decide +kernel)) ggX6_carryOutOrder_X0_burnLetter
set_option maxRecDepth 20000 in
theorem ggX6_carryOutOrder_X0_changeHours : GoodIn wsX6_carryOutOrder wsX0_changeHours := goodIn_r _ [108, 44, 109, 110, 20, 21, 22, 111, 112, 125, 126, 127, 128, 137, 138, 139, 140] (by decide +kernel) (by decide +kernel)
set_option maxRecDepth 20000 in
theorem gX6_carryOutOrder_X0_changeHours : GoodIn wsX6_carryOutOrder (wsV RX6 63 RX0 yX0_changeHours wsX0_changeHours) := goodIn_app (goodIn_of _ (by decide +kernel)) ggX6_carryOutOrder_X0_changeHours
theorem dX6_carryOutOrder_0 : decode cX6_carryOutOrder 0 = .ok (.aload_n 0, 1) := by decide +kernel
theorem dX6_carryOutOrder_1 : decode cX6_carryOutOrder 1 = .ok (.getfield 26, 3) := by decide +kernel
theorem dX6_carryOutOrder_4 : decode cX6_carryOutOrder 4 = .ok (.getfield 240, 3) := by decide +kernel
theorem dX6_carryOutOrder_7 : decode cX6_carryOutOrder 7 = .ok (.lookupswitch 115 #[(43, 41), (98, 100), (107, 70), (116, 85)], 41) := by decide +kernel
theorem dX6_carryOutOrder_48 : decode cX6_carryOutOrder 48 = .ok (.aload_n 0, 1) := by decide +kernel
theorem dX6_carryOutOrder_49 : decode cX6_carryOutOrder 49 = .ok (.getfield 10, 3) := by decide +kernel
theorem dX6_carryOutOrder_52 : decode cX6_carryOutOrder 52 = .ok (.aload_n 0, 1) := by decide +kernel
theorem dX6_carryOutOrder_53 : decode cX6_carryOutOrder 53 = .ok (.getfield 26, 3) := by decide +kernel
theorem dX6_carryOutOrder_56 : decode cX6_carryOutOrder 56 = .ok (.getfield 243, 3) := by decide +kernel
theorem dX6_carryOutOrder_59 : decode cX6_carryOutOrder 59 = .ok (.aload_n 0, 1) := by decide +kernel
theorem dX6_carryOutOrder_60 : decode cX6_carryOutOrder 60 = .ok (.getfield 26, 3) := by decide +kernel
theorem dX6_carryOutOrder_63 : decode cX6_carryOutOrder 63 = .ok (.getfield 245, 3) := by decide +kernel
theorem dX6_carryOutOrder_66 : decode cX6_carryOutOrder 66 = .ok (.aload_n 0, 1) := by decide +kernel
theorem dX6_carryOutOrder_67 : decode cX6_carryOutOrder 67 = .ok (.getfield 26, 3) := by decide +kernel
theorem dX6_carryOutOrder_70 : decode cX6_carryOutOrder 70 = .ok (.getfield 248, 3) := by decide +kernel
theorem dX6_carryOutOrder_73 : decode cX6_carryOutOrder 73 = .ok (.invokevirtual 53, 3) := by decide +kernel
theorem dX6_carryOutOrder_76 : decode cX6_carryOutOrder 76 = .ok (.ireturn, 1) := by decide +kernel
theorem dX6_carryOutOrder_77 : decode cX6_carryOutOrder 77 = .ok (.aload_n 0, 1) := by decide +kernel
theorem dX6_carryOutOrder_78 : decode cX6_carryOutOrder 78 = .ok (.getfield 10, 3) := by decide +kernel
theorem dX6_carryOutOrder_81 : decode cX6_carryOutOrder 81 = .ok (.aload_n 0, 1) := by decide +kernel
theorem dX6_carryOutOrder_82 : decode cX6_carryOutOrder 82 = .ok (.getfield 26, 3) := by decide +kernel
theorem dX6_carryOutOrder_85 : decode cX6_carryOutOrder 85 = .ok (.getfield 243, 3) := by decide +kernel
theorem dX6_carryOutOrder_88 : decode cX6_carryOutOrder 88 = .ok (.invokevirtual 57, 3) := by decide +kernel
theorem dX6_carryOutOrder_91 : decode cX6_carryOutOrder 91 = .ok (.ireturn, 1) := by decide +kernel
theorem dX6_carryOutOrder_92 : decode cX6_carryOutOrder 92 = .ok (.aload_n 0, 1) := by decide +kernel
theorem dX6_carryOutOrder_93 : decode cX6_carryOutOrder 93 = .ok (.getfield 10, 3) := by decide +kernel
theorem dX6_carryOutOrder_96 : decode cX6_carryOutOrder 96 = .ok (.aload_n 0, 1) := by decide +kernel
theorem dX6_carryOutOrder_97 : decode cX6_carryOutOrder 97 = .ok (.getfield 26, 3) := by decide +kernel
theorem dX6_carryOutOrder_100 : decode cX6_carryOutOrder 100 = .ok (.getfield 245, 3) := by decide +kernel
theorem dX6_carryOutOrder_103 : decode cX6_carryOutOrder 103 = .ok (.invokevirtual 69, 3) := by decide +kernel
theorem dX6_carryOutOrder_106 : decode cX6_carryOutOrder 106 = .ok (.ireturn, 1) := by decide +kernel
theorem dX6_carryOutOrder_107 : decode cX6_carryOutOrder 107 = .ok (.aload_n 0, 1) := by decide +kernel
theorem dX6_carryOutOrder_108 : decode cX6_carryOutOrder 108 = .ok (.getfield 10, 3) := by decide +kernel
theorem dX6_carryOutOrder_111 : decode cX6_carryOutOrder 111 = .ok (.aload_n 0, 1) := by decide +kernel
theorem dX6_carryOutOrder_112 : decode cX6_carryOutOrder 112 = .ok (.getfield 26, 3) := by decide +kernel
theorem dX6_carryOutOrder_115 : decode cX6_carryOutOrder 115 = .ok (.getfield 245, 3) := by decide +kernel
theorem dX6_carryOutOrder_118 : decode cX6_carryOutOrder 118 = .ok (.invokevirtual 66, 3) := by decide +kernel
theorem dX6_carryOutOrder_121 : decode cX6_carryOutOrder 121 = .ok (.ireturn, 1) := by decide +kernel
theorem dX6_carryOutOrder_122 : decode cX6_carryOutOrder 122 = .ok (.aload_n 0, 1) := by decide +kernel
theorem dX6_carryOutOrder_123 : decode cX6_carryOutOrder 123 = .ok (.getfield 10, 3) := by decide +kernel
theorem dX6_carryOutOrder_126 : decode cX6_carryOutOrder 126 = .ok (.aload_n 0, 1) := by decide +kernel
theorem dX6_carryOutOrder_127 : decode cX6_carryOutOrder 127 = .ok (.getfield 26, 3) := by decide +kernel
theorem dX6_carryOutOrder_130 : decode cX6_carryOutOrder 130 = .ok (.getfield 243, 3) := by decide +kernel
theorem dX6_carryOutOrder_133 : decode cX6_carryOutOrder 133 = .ok (.aload_n 0, 1) := by decide +kernel
theorem dX6_carryOutOrder_134 : decode cX6_carryOutOrder 134 = .ok (.getfield 26, 3) := by decide +kernel
theorem dX6_carryOutOrder_137 : decode cX6_carryOutOrder 137 = .ok (.getfield 245, 3) := by decide +kernel
theorem dX6_carryOutOrder_140 : decode cX6_carryOutOrder 140 = .ok (.aload_n 0, 1) := by decide +kernel
theorem dX6_carryOutOrder_141 : decode cX6_carryOutOrder 141 = .ok (.getfield 26, 3) := by decide +kernel
theorem dX6_carryOutOrder_144 : decode cX6_carryOutOrder 144 = .ok (.getfield 248, 3) := by decide +kernel
theorem dX6_carryOutOrder_147 : decode cX6_carryOutOrder 147 = .ok (.invokevirtual 63, 3) := by decide +kernel
theorem dX6_carryOutOrder_150 : decode cX6_carryOutOrder 150 = .ok (.ireturn, 1) := by decide +kernel
theorem dX6_isMood_0 : decode cX6_isMood 0 = .ok (.iload_n 0, 1) := by decide +kernel
theorem dX6_isMood_1 : decode cX6_isMood 1 = .ok (.ifCond .lt 13, 3) := by decide +kernel
theorem dX6_isMood_4 : decode cX6_isMood 4 = .ok (.iload_n 0, 1) := by decide +kernel
theorem dX6_isMood_5 : decode cX6_isMood 5 = .ok (.bipush 6, 2) := by decide +kernel
theorem dX6_isMood_7 : decode cX6_isMood 7 = .ok (.if_icmp .ge 7, 3) := by decide +kernel
theorem dX6_isMood_10 : decode cX6_isMood 10 = .ok (.iconst 1, 1) := by decide +kernel
theorem dX6_isMood_11 : decode cX6_isMood 11 = .ok (.goto 4, 3) := by decide +kernel
theorem dX6_isMood_14 : decode cX6_isMood 14 = .ok (.iconst 0, 1) := by decide +kernel
theorem dX6_isMood_15 : decode cX6_isMood 15 = .ok (.ireturn, 1) := by decide +kernel
theorem dX6_isHour_0 : decode cX6_isHour 0 = .ok (.iload_n 0, 1) := by decide +kernel
theorem dX6_isHour_1 : decode cX6_isHour 1 = .ok (.ifCond .lt 13, 3) := by decide +kernel
theorem dX6_isHour_4 : decode cX6_isHour 4 = .ok (.iload_n 0, 1) := by decide +kernel
theorem dX6_isHour_5 : decode cX6_isHour 5 = .ok (.bipush 24, 2) := by decide +kernel
theorem dX6_isHour_7 : decode cX6_isHour 7 = .ok (.if_icmp .ge 7, 3) := by decide +kernel
theorem dX6_isHour_10 : decode cX6_isHour 10 = .ok (.iconst 1, 1) := by decide +kernel
theorem dX6_isHour_11 : decode cX6_isHour 11 = .ok (.goto 4, 3) := by decide +kernel
theorem dX6_isHour_14 : decode cX6_isHour 14 = .ok (.iconst 0, 1) := by decide +kernel
theorem dX6_isHour_15 : decode cX6_isHour 15 = .ok (.ireturn, 1) := by decide +kernel
theorem dX6_copy_0 : decode cX6_copy 0 = .ok (.aload_n 0, 1) := by decide +kernel
theorem dX6_copy_1 : decode cX6_copy 1 = .ok (.iconst 0, 1) := by decide +kernel
theorem dX6_copy_2 : decode cX6_copy 2 = .ok (.aload_n 1, 1) := by decide +kernel
theorem dX6_copy_3 : decode cX6_copy 3 = .ok (.iconst 0, 1) := by decide +kernel
theorem dX6_copy_4 : decode cX6_copy 4 = .ok (.aload_n 0, 1) := by decide +kernel
theorem dX6_copy_5 : decode cX6_copy 5 = .ok (.arraylength, 1) := by decide +kernel
theorem dX6_copy_6 : decode cX6_copy 6 = .ok (.aload_n 1, 1) := by decide +kernel
theorem dX6_copy_7 : decode cX6_copy 7 = .ok (.arraylength, 1) := by decide +kernel
theorem dX6_copy_8 : decode cX6_copy 8 = .ok (.invokestatic 251, 3) := by decide +kernel
theorem dX6_copy_11 : decode cX6_copy 11 = .ok (.invokestatic 256, 3) := by decide +kernel
theorem dX6_copy_14 : decode cX6_copy 14 = .ok (.return_, 1) := by decide +kernel
theorem dX6_charactersIn_0 : decode cX6_charactersIn 0 = .ok (.iconst 0, 1) := by decide +kernel
theorem dX6_charactersIn_1 : decode cX6_charactersIn 1 = .ok (.istore_n 2, 1) := by decide +kernel
theorem dX6_charactersIn_2 : decode cX6_charactersIn 2 = .ok (.lload_n 0, 1) := by decide +kernel
theorem dX6_charactersIn_3 : decode cX6_charactersIn 3 = .ok (.lstore_n 3, 1) := by decide +kernel
theorem dX6_charactersIn_4 : decode cX6_charactersIn 4 = .ok (.lload_n 3, 1) := by decide +kernel
theorem dX6_charactersIn_5 : decode cX6_charactersIn 5 = .ok (.lconst 0, 1) := by decide +kernel
theorem dX6_charactersIn_6 : decode cX6_charactersIn 6 = .ok (.lcmp, 1) := by decide +kernel
theorem dX6_charactersIn_7 : decode cX6_charactersIn 7 = .ok (.ifCond .eq 47, 3) := by decide +kernel
theorem dX6_charactersIn_10 : decode cX6_charactersIn 10 = .ok (.iload_n 2, 1) := by decide +kernel
theorem dX6_charactersIn_11 : decode cX6_charactersIn 11 = .ok (.bipush 8, 2) := by decide +kernel
theorem dX6_charactersIn_13 : decode cX6_charactersIn 13 = .ok (.if_icmp .ge 41, 3) := by decide +kernel
theorem dX6_charactersIn_16 : decode cX6_charactersIn 16 = .ok (.lload_n 3, 1) := by decide +kernel
theorem dX6_charactersIn_17 : decode cX6_charactersIn 17 = .ok (.ldc2_w 207, 3) := by decide +kernel
theorem dX6_charactersIn_20 : decode cX6_charactersIn 20 = .ok (.land, 1) := by decide +kernel
theorem dX6_charactersIn_21 : decode cX6_charactersIn 21 = .ok (.lstore 5, 2) := by decide +kernel
theorem dX6_charactersIn_23 : decode cX6_charactersIn 23 = .ok (.lload 5, 2) := by decide +kernel
theorem dX6_charactersIn_25 : decode cX6_charactersIn 25 = .ok (.ldc2_w 262, 3) := by decide +kernel
theorem dX6_charactersIn_28 : decode cX6_charactersIn 28 = .ok (.lcmp, 1) := by decide +kernel
theorem dX6_charactersIn_29 : decode cX6_charactersIn 29 = .ok (.ifCond .lt 12, 3) := by decide +kernel
theorem dX6_charactersIn_32 : decode cX6_charactersIn 32 = .ok (.lload 5, 2) := by decide +kernel
theorem dX6_charactersIn_34 : decode cX6_charactersIn 34 = .ok (.ldc2_w 264, 3) := by decide +kernel
theorem dX6_charactersIn_37 : decode cX6_charactersIn 37 = .ok (.lcmp, 1) := by decide +kernel
theorem dX6_charactersIn_38 : decode cX6_charactersIn 38 = .ok (.ifCond .le 5, 3) := by decide +kernel
theorem dX6_charactersIn_41 : decode cX6_charactersIn 41 = .ok (.iconst 0, 1) := by decide +kernel
theorem dX6_charactersIn_42 : decode cX6_charactersIn 42 = .ok (.ireturn, 1) := by decide +kernel
theorem dX6_charactersIn_43 : decode cX6_charactersIn 43 = .ok (.iinc 2 1, 3) := by decide +kernel
theorem dX6_charactersIn_46 : decode cX6_charactersIn 46 = .ok (.lload_n 3, 1) := by decide +kernel
theorem dX6_charactersIn_47 : decode cX6_charactersIn 47 = .ok (.bipush 8, 2) := by decide +kernel
theorem dX6_charactersIn_49 : decode cX6_charactersIn 49 = .ok (.lushr, 1) := by decide +kernel
theorem dX6_charactersIn_50 : decode cX6_charactersIn 50 = .ok (.lstore_n 3, 1) := by decide +kernel
theorem dX6_charactersIn_51 : decode cX6_charactersIn 51 = .ok (.goto (-47), 3) := by decide +kernel
theorem dX6_charactersIn_54 : decode cX6_charactersIn 54 = .ok (.iload_n 2, 1) := by decide +kernel
theorem dX6_charactersIn_55 : decode cX6_charactersIn 55 = .ok (.ireturn, 1) := by decide +kernel
theorem dX6_bitsOf_0 : decode cX6_bitsOf 0 = .ok (.dload_n 0, 1) := by decide +kernel
theorem dX6_bitsOf_1 : decode cX6_bitsOf 1 = .ok (.dconst 0, 1) := by decide +kernel
theorem dX6_bitsOf_2 : decode cX6_bitsOf 2 = .ok (.dcmp .g, 1) := by decide +kernel
theorem dX6_bitsOf_3 : decode cX6_bitsOf 3 = .ok (.ifCond .gt 5, 3) := by decide +kernel
theorem dX6_bitsOf_6 : decode cX6_bitsOf 6 = .ok (.lconst 0, 1) := by decide +kernel
theorem dX6_bitsOf_7 : decode cX6_bitsOf 7 = .ok (.lreturn, 1) := by decide +kernel
theorem dX6_bitsOf_8 : decode cX6_bitsOf 8 = .ok (.iconst 0, 1) := by decide +kernel
theorem dX6_bitsOf_9 : decode cX6_bitsOf 9 = .ok (.istore 4, 2) := by decide +kernel
theorem dX6_bitsOf_11 : decode cX6_bitsOf 11 = .ok (.dload_n 0, 1) := by decide +kernel
theorem dX6_bitsOf_12 : decode cX6_bitsOf 12 = .ok (.dstore 5, 2) := by decide +kernel
theorem dX6_bitsOf_14 : decode cX6_bitsOf 14 = .ok (.dload 5, 2) := by decide +kernel
theorem dX6_bitsOf_16 : decode cX6_bitsOf 16 = .ok (.ldc2_w 266, 3) := by decide +kernel
theorem dX6_bitsOf_19 : decode cX6_bitsOf 19 = .ok (.dcmp .l, 1) := by decide +kernel
theorem dX6_bitsOf_20 : decode cX6_bitsOf 20 = .ok (.ifCond .lt 23, 3) := by decide +kernel
theorem dX6_bitsOf_23 : decode cX6_bitsOf 23 = .ok (.iload 4, 2) := by decide +kernel
theorem dX6_bitsOf_25 : decode cX6_bitsOf 25 = .ok (.iload_n 2, 1) := by decide +kernel
theorem dX6_bitsOf_26 : decode cX6_bitsOf 26 = .ok (.if_icmp .ge 17, 3) := by decide +kernel
theorem dX6_bitsOf_29 : decode cX6_bitsOf 29 = .ok (.dload 5, 2) := by decide +kernel
theorem dX6_bitsOf_31 : decode cX6_bitsOf 31 = .ok (.ldc2_w 266, 3) := by decide +kernel
theorem dX6_bitsOf_34 : decode cX6_bitsOf 34 = .ok (.ddiv, 1) := by decide +kernel
theorem dX6_bitsOf_35 : decode cX6_bitsOf 35 = .ok (.dstore 5, 2) := by decide +kernel
theorem dX6_bitsOf_37 : decode cX6_bitsOf 37 = .ok (.iinc 4 1, 3) := by decide +kernel
theorem dX6_bitsOf_40 : decode cX6_bitsOf 40 = .ok (.goto (-26), 3) := by decide +kernel
theorem dX6_bitsOf_43 : decode cX6_bitsOf 43 = .ok (.dload 5, 2) := by decide +kernel
theorem dX6_bitsOf_45 : decode cX6_bitsOf 45 = .ok (.dconst 1, 1) := by decide +kernel
theorem dX6_bitsOf_46 : decode cX6_bitsOf 46 = .ok (.dcmp .g, 1) := by decide +kernel
theorem dX6_bitsOf_47 : decode cX6_bitsOf 47 = .ok (.ifCond .ge 25, 3) := by decide +kernel
theorem dX6_bitsOf_50 : decode cX6_bitsOf 50 = .ok (.iload 4, 2) := by decide +kernel
theorem dX6_bitsOf_52 : decode cX6_bitsOf 52 = .ok (.iconst 1, 1) := by decide +kernel
theorem dX6_bitsOf_53 : decode cX6_bitsOf 53 = .ok (.iload_n 2, 1) := by decide +kernel
theorem dX6_bitsOf_54 : decode cX6_bitsOf 54 = .ok (.isub, 1) := by decide +kernel
theorem dX6_bitsOf_55 : decode cX6_bitsOf 55 = .ok (.if_icmp .le 17, 3) := by decide +kernel
theorem dX6_bitsOf_58 : decode cX6_bitsOf 58 = .ok (.dload 5, 2) := by decide +kernel
theorem dX6_bitsOf_60 : decode cX6_bitsOf 60 = .ok (.ldc2_w 266, 3) := by decide +kernel
theorem dX6_bitsOf_63 : decode cX6_bitsOf 63 = .ok (.dmul, 1) := by decide +kernel
theorem dX6_bitsOf_64 : decode cX6_bitsOf 64 = .ok (.dstore 5, 2) := by decide +kernel
theorem dX6_bitsOf_66 : decode cX6_bitsOf 66 = .ok (.iinc 4 (-1), 3) := by decide +kernel
theorem dX6_bitsOf_69 : decode cX6_bitsOf 69 = .ok (.goto (-26), 3) := by decide +kernel
theorem dX6_bitsOf_72 : decode cX6_bitsOf 72 = .ok (.dload 5, 2) := by decide +kernel
theorem dX6_bitsOf_74 : decode cX6_bitsOf 74 = .ok (.dconst 1, 1) := by decide +kernel
theorem dX6_bitsOf_75 : decode cX6_bitsOf 75 = .ok (.dsub, 1) := by decide +kernel
theorem dX6_bitsOf_76 : decode cX6_bitsOf 76 = .ok (.lconst 1, 1) := by decide +kernel
theorem dX6_bitsOf_77 : decode cX6_bitsOf 77 = .ok (.iload_n 3, 1) := by decide +kernel
theorem dX6_bitsOf_78 : decode cX6_bitsOf 78 = .ok (.lshl, 1) := by decide +kernel
theorem dX6_bitsOf_79 : decode cX6_bitsOf 79 = .ok (.l2d, 1) := by decide +kernel
theorem dX6_bitsOf_80 : decode cX6_bitsOf 80 = .ok (.dmul, 1) := by decide +kernel
theorem dX6_bitsOf_81 : decode cX6_bitsOf 81 = .ok (.d2l, 1) := by decide +kernel
theorem dX6_bitsOf_82 : decode cX6_bitsOf 82 = .ok (.lstore 7, 2) := by decide +kernel
theorem dX6_bitsOf_84 : decode cX6_bitsOf 84 = .ok (.iload 4, 2) := by decide +kernel
theorem dX6_bitsOf_86 : decode cX6_bitsOf 86 = .ok (.iload_n 2, 1) := by decide +kernel
theorem dX6_bitsOf_87 : decode cX6_bitsOf 87 = .ok (.iadd, 1) := by decide +kernel
theorem dX6_bitsOf_88 : decode cX6_bitsOf 88 = .ok (.i2l, 1) := by decide +kernel
theorem dX6_bitsOf_89 : decode cX6_bitsOf 89 = .ok (.iload_n 3, 1) := by decide +kernel
theorem dX6_bitsOf_90 : decode cX6_bitsOf 90 = .ok (.lshl, 1) := by decide +kernel
theorem dX6_bitsOf_91 : decode cX6_bitsOf 91 = .ok (.lload 7, 2) := by decide +kernel
theorem dX6_bitsOf_93 : decode cX6_bitsOf 93 = .ok (.ladd, 1) := by decide +kernel
theorem dX6_bitsOf_94 : decode cX6_bitsOf 94 = .ok (.lreturn, 1) := by decide +kernel
set_option maxRecDepth 20000 in
theorem ggX7_init_X7_ofD : GoodIn wsX7_init wsX7_ofD := goodIn_r _ [17] (by decide +kernel) (by decide +kernel)
set_option maxRecDepth 20000 in
theorem gX7_init_X7_ofD : GoodIn wsX7_init (va_wsS RX7 35 yX7_ofD wsX7_ofD) := goodIn_app (goodIn_of _ (by decide +kernel)) ggX7_init_X7_ofD
theorem dX7_init_0 : decode cX7_init 0 = .ok (.aload_n 0, 1) := by decide +kernel
theorem dX7_init_1 : decode cX7_init 1 = .ok (.invokespecial 1, 3) := by decide +kernel
theorem dX7_init_4 : decode cX7_init 4 = .ok (.aload_n 0, 1) := by decide +kernel
theorem dX7_init_5 : decode cX7_init 5 = .ok (.sipush 240, 3) := by decide +kernel
theorem dX7_init_8 : decode cX7_init 8 = .ok (.newarray .int, 2) := by decide +kernel
theorem dX7_init_10 : decode cX7_init 10 = .ok (.putfield 7, 3) := by decide +kernel
theorem dX7_init_13 : decode cX7_init 13 = .ok (.aload_n 0, 1) := by decide +kernel
theorem dX7_init_14 : decode cX7_init 14 = .ok (.sipush 240, 3) := by decide +kernel
theorem dX7_init_17 : decode cX7_init 17 = .ok (.newarray .int, 2) := by decide +kernel
theorem dX7_init_19 : decode cX7_init 19 = .ok (.putfield 13, 3) := by decide +kernel
theorem dX7_init_22 : decode cX7_init 22 = .ok (.aload_n 0, 1) := by decide +kernel
theorem dX7_init_23 : decode cX7_init 23 = .ok (.sipush 1440, 3) := by decide +kernel
theorem dX7_init_26 : decode cX7_init 26 = .ok (.newarray .int, 2) := by decide +kernel
theorem dX7_init_28 : decode cX7_init 28 = .ok (.putfield 16, 3) := by decide +kernel
theorem dX7_init_31 : decode cX7_init 31 = .ok (.aload_n 0, 1) := by decide +kernel
theorem dX7_init_32 : decode cX7_init 32 = .ok (.sipush 480, 3) := by decide +kernel
theorem dX7_init_35 : decode cX7_init 35 = .ok (.newarray .int, 2) := by decide +kernel
theorem dX7_init_37 : decode cX7_init 37 = .ok (.putfield 19, 3) := by decide +kernel
theorem dX7_init_40 : decode cX7_init 40 = .ok (.aload_n 0, 1) := by decide +kernel
theorem dX7_init_41 : decode cX7_init 41 = .ok (.iconst 2, 1) := by decide +kernel
theorem dX7_init_42 : decode cX7_init 42 = .ok (.newarray .boolean, 2) := by decide +kernel
theorem dX7_init_44 : decode cX7_init 44 = .ok (.putfield 22, 3) := by decide +kernel
theorem dX7_init_47 : decode cX7_init 47 = .ok (.aload_n 0, 1) := by decide +kernel
theorem dX7_init_48 : decode cX7_init 48 = .ok (.bipush 80, 2) := by decide +kernel
theorem dX7_init_50 : decode cX7_init 50 = .ok (.newarray .int, 2) := by decide +kernel
theorem dX7_init_52 : decode cX7_init 52 = .ok (.putfield 26, 3) := by decide +kernel
theorem dX7_init_55 : decode cX7_init 55 = .ok (.aload_n 0, 1) := by decide +kernel
theorem dX7_init_56 : decode cX7_init 56 = .ok (.bipush 30, 2) := by decide +kernel
theorem dX7_init_58 : decode cX7_init 58 = .ok (.newarray .int, 2) := by decide +kernel
theorem dX7_init_60 : decode cX7_init 60 = .ok (.putfield 29, 3) := by decide +kernel
theorem dX7_init_63 : decode cX7_init 63 = .ok (.aload_n 0, 1) := by decide +kernel
theorem dX7_init_64 : decode cX7_init 64 = .ok (.bipush 30, 2) := by decide +kernel
theorem dX7_init_66 : decode cX7_init 66 = .ok (.newarray .int, 2) := by decide +kernel
theorem dX7_init_68 : decode cX7_init 68 = .ok (.putfield 32, 3) := by decide +kernel
theorem dX7_init_71 : decode cX7_init 71 = .ok (.aload_n 0, 1) := by decide +kernel
theorem dX7_init_72 : decode cX7_init 72 = .ok (.getfield 7, 3) := by decide +kernel
theorem dX7_init_75 : decode cX7_init 75 = .ok (.iconst 0, 1) := by decide +kernel
theorem dX7_init_76 : decode cX7_init 76 = .ok (.bipush 17, 2) := by decide +kernel
theorem dX7_init_78 : decode cX7_init 78 = .ok (.iastore, 1) := by decide +kernel
theorem dX7_init_79 : decode cX7_init 79 = .ok (.aload_n 0, 1) := by decide +kernel
theorem dX7_init_80 : decode cX7_init 80 = .ok (.getfield 7, 3) := by decide +kernel
theorem dX7_init_83 : decode cX7_init 83 = .ok (.iconst 1, 1) := by decide +kernel
theorem dX7_init_84 : decode cX7_init 84 = .ok (.bipush 30, 2) := by decide +kernel
theorem dX7_init_86 : decode cX7_init 86 = .ok (.iastore, 1) := by decide +kernel
theorem dX7_init_87 : decode cX7_init 87 = .ok (.aload_n 0, 1) := by decide +kernel
theorem dX7_init_88 : decode cX7_init 88 = .ok (.getfield 7, 3) := by decide +kernel
theorem dX7_init_91 : decode cX7_init 91 = .ok (.iconst 2, 1) := by decide +kernel
theorem dX7_init_92 : decode cX7_init 92 = .ok (.iconst 5, 1) := by decide +kernel
theorem dX7_init_93 : decode cX7_init 93 = .ok (.iastore, 1) := by decide +kernel
theorem dX7_init_94 : decode cX7_init 94 = .ok (.iconst 0, 1) := by decide +kernel
theorem dX7_init_95 : decode cX7_init 95 = .ok (.istore_n 1, 1) := by decide +kernel
theorem dX7_init_96 : decode cX7_init 96 = .ok (.iload_n 1, 1) := by decide +kernel
theorem dX7_init_97 : decode cX7_init 97 = .ok (.bipush 6, 2) := by decide +kernel
theorem dX7_init_99 : decode cX7_init 99 = .ok (.if_icmp .ge 44, 3) := by decide +kernel
theorem dX7_init_102 : decode cX7_init 102 = .ok (.aload_n 0, 1) := by decide +kernel
theorem dX7_init_103 : decode cX7_init 103 = .ok (.getfield 7, 3) := by decide +kernel
theorem dX7_init_106 : decode cX7_init 106 = .ok (.iload_n 1, 1) := by decide +kernel
theorem dX7_init_107 : decode cX7_init 107 = .ok (.iconst 1, 1) := by decide +kernel
theorem dX7_init_108 : decode cX7_init 108 = .ok (.invokestatic 35, 3) := by decide +kernel
theorem dX7_init_111 : decode cX7_init 111 = .ok (.iconst 2, 1) := by decide +kernel
theorem dX7_init_112 : decode cX7_init 112 = .ok (.iastore, 1) := by decide +kernel
theorem dX7_init_113 : decode cX7_init 113 = .ok (.aload_n 0, 1) := by decide +kernel
theorem dX7_init_114 : decode cX7_init 114 = .ok (.getfield 7, 3) := by decide +kernel
theorem dX7_init_117 : decode cX7_init 117 = .ok (.iload_n 1, 1) := by decide +kernel
theorem dX7_init_118 : decode cX7_init 118 = .ok (.iconst 2, 1) := by decide +kernel
theorem dX7_init_119 : decode cX7_init 119 = .ok (.invokestatic 35, 3) := by decide +kernel
theorem dX7_init_122 : decode cX7_init 122 = .ok (.bipush (-6), 2) := by decide +kernel
theorem dX7_init_124 : decode cX7_init 124 = .ok (.iastore, 1) := by decide +kernel
theorem dX7_init_125 : decode cX7_init 125 = .ok (.aload_n 0, 1) := by decide +kernel
theorem dX7_init_126 : decode cX7_init 126 = .ok (.getfield 7, 3) := by decide +kernel
theorem dX7_init_129 : decode cX7_init 129 = .ok (.iload_n 1, 1) := by decide +kernel
theorem dX7_init_130 : decode cX7_init 130 = .ok (.iconst 3, 1) := by decide +kernel
theorem dX7_init_131 : decode cX7_init 131 = .ok (.invokestatic 35, 3) := by decide +kernel
theorem dX7_init_134 : decode cX7_init 134 = .ok (.bipush (-6), 2) := by decide +kernel
theorem dX7_init_136 : decode cX7_init 136 = .ok (.iastore, 1) := by decide +kernel
theorem dX7_init_137 : decode cX7_init 137 = .ok (.iinc 1 1, 3) := by decide +kernel
theorem dX7_init_140 : decode cX7_init 140 = .ok (.goto (-44), 3) := by decide +kernel
theorem dX7_init_143 : decode cX7_init 143 = .ok (.return_, 1) := by decide +kernel
theorem dX7_in_0 : decode cX7_in 0 = .ok (.iload_n 0, 1) := by decide +kernel
theorem dX7_in_1 : decode cX7_in 1 = .ok (.iload_n 1, 1) := by decide +kernel
theorem dX7_in_2 : decode cX7_in 2 = .ok (.if_icmp .lt 12, 3) := by decide +kernel
theorem dX7_in_5 : decode cX7_in 5 = .ok (.iload_n 0, 1) := by decide +kernel
theorem dX7_in_6 : decode cX7_in 6 = .ok (.iload_n 2, 1) := by decide +kernel
theorem dX7_in_7 : decode cX7_in 7 = .ok (.if_icmp .gt 7, 3) := by decide +kernel
theorem dX7_in_10 : decode cX7_in 10 = .ok (.iconst 1, 1) := by decide +kernel
theorem dX7_in_11 : decode cX7_in 11 = .ok (.goto 4, 3) := by decide +kernel
theorem dX7_in_14 : decode cX7_in 14 = .ok (.iconst 0, 1) := by decide +kernel
theorem dX7_in_15 : decode cX7_in 15 = .ok (.ireturn, 1) := by decide +kernel
theorem dX7_ofD_0 : decode cX7_ofD 0 = .ok (.bipush 6, 2) := by decide +kernel
theorem dX7_ofD_2 : decode cX7_ofD 2 = .ok (.iconst 4, 1) := by decide +kernel
theorem dX7_ofD_3 : decode cX7_ofD 3 = .ok (.iload_n 0, 1) := by decide +kernel
theorem dX7_ofD_4 : decode cX7_ofD 4 = .ok (.imul, 1) := by decide +kernel
theorem dX7_ofD_5 : decode cX7_ofD 5 = .ok (.iadd, 1) := by decide +kernel
theorem dX7_ofD_6 : decode cX7_ofD 6 = .ok (.iload_n 1, 1) := by decide +kernel
theorem dX7_ofD_7 : decode cX7_ofD 7 = .ok (.iadd, 1) := by decide +kernel
theorem dX7_ofD_8 : decode cX7_ofD 8 = .ok (.ireturn, 1) := by decide +kernel
theorem dX7_ofL_0 : decode cX7_ofL 0 = .ok (.bipush 30, 2) := by decide +kernel
theorem dX7_ofL_2 : decode cX7_ofL 2 = .ok (.bipush 7, 2) := by decide +kernel
theorem dX7_ofL_4 : decode cX7_ofL 4 = .ok (.iload_n 0, 1) := by decide +kernel
theorem dX7_ofL_5 : decode cX7_ofL 5 = .ok (.imul, 1) := by decide +kernel
theorem dX7_ofL_6 : decode cX7_ofL 6 = .ok (.iadd, 1) := by decide +kernel
theorem dX7_ofL_7 : decode cX7_ofL 7 = .ok (.iload_n 1, 1) := by decide +kernel
theorem dX7_ofL_8 : decode cX7_ofL 8 = .ok (.iadd, 1) := by decide +kernel
theorem dX7_ofL_9 : decode cX7_ofL 9 = .ok (.ireturn, 1) := by decide +kernel
set_option maxRecDepth 20000 in
theorem ggX7_isMood_X7_in : GoodIn wsX7_isMood wsX7_in := goodIn_r _ [4] (by decide +kernel) (by decide +kernel)
set_option maxRecDepth 20000 in
theorem gX7_isMood_X7_in : GoodIn wsX7_isMood (va_wsS RX7 39 yX7_in wsX7_in) := goodIn_app (goodIn_of _ (by decide +kernel)) ggX7_isMood_X7_in
theorem dX7_isMood_0 : decode cX7_isMood 0 = .ok (.iload_n 0, 1) := by decide +kernel
theorem dX7_isMood_1 : decode cX7_isMood 1 = .ok (.iconst 0, 1) := by decide +kernel
theorem dX7_isMood_2 : decode cX7_isMood 2 = .ok (.iconst 5, 1) := by decide +kernel
theorem dX7_isMood_3 : decode cX7_isMood 3 = .ok (.invokestatic 39, 3) := by decide +kernel
theorem dX7_isMood_6 : decode cX7_isMood 6 = .ok (.ireturn, 1) := by decide +kernel
set_option maxRecDepth 20000 in
theorem ggX7_isLetter_X7_in : GoodIn wsX7_isLetter wsX7_in := goodIn_r _ [5] (by decide +kernel) (by decide +kernel)
set_option maxRecDepth 20000 in
theorem gX7_isLetter_X7_in : GoodIn wsX7_isLetter (va_wsS RX7 39 yX7_in wsX7_in) := goodIn_app (goodIn_of _ (by decide +kernel)) ggX7_isLetter_X7_in
theorem dX7_isLetter_0 : decode cX7_isLetter 0 = .ok (.iload_n 1, 1) := by decide +kernel
theorem dX7_isLetter_1 : decode cX7_isLetter 1 = .ok (.iconst 0, 1) := by decide +kernel
theorem dX7_isLetter_2 : decode cX7_isLetter 2 = .ok (.aload_n 0, 1) := by decide +kernel
theorem dX7_isLetter_3 : decode cX7_isLetter 3 = .ok (.getfield 7, 3) := by decide +kernel
theorem dX7_isLetter_6 : decode cX7_isLetter 6 = .ok (.iconst 5, 1) := by decide +kernel
theorem dX7_isLetter_7 : decode cX7_isLetter 7 = .ok (.iaload, 1) := by decide +kernel
theorem dX7_isLetter_8 : decode cX7_isLetter 8 = .ok (.iconst 1, 1) := by decide +kernel
theorem dX7_isLetter_9 : decode cX7_isLetter 9 = .ok (.isub, 1) := by decide +kernel
theorem dX7_isLetter_10 : decode cX7_isLetter 10 = .ok (.invokestatic 39, 3) := by decide +kernel
theorem dX7_isLetter_13 : decode cX7_isLetter 13 = .ok (.ireturn, 1) := by decide +kernel
theorem dX7_know_0 : decode cX7_know 0 = .ok (.aload_n 0, 1) := by decide +kernel
theorem dX7_know_1 : decode cX7_know 1 = .ok (.getfield 43, 3) := by decide +kernel
theorem dX7_know_4 : decode cX7_know 4 = .ok (.bipush 6, 2) := by decide +kernel
theorem dX7_know_6 : decode cX7_know 6 = .ok (.if_icmp .ne 44, 3) := by decide +kernel
theorem dX7_know_9 : decode cX7_know 9 = .ok (.iconst 0, 1) := by decide +kernel
theorem dX7_know_10 : decode cX7_know 10 = .ok (.istore_n 1, 1) := by decide +kernel
theorem dX7_know_11 : decode cX7_know 11 = .ok (.iload_n 1, 1) := by decide +kernel
theorem dX7_know_12 : decode cX7_know 12 = .ok (.sipush 1200, 3) := by decide +kernel
theorem dX7_know_15 : decode cX7_know 15 = .ok (.if_icmp .ge 25, 3) := by decide +kernel
theorem dX7_know_18 : decode cX7_know 18 = .ok (.aload_n 0, 1) := by decide +kernel
theorem dX7_know_19 : decode cX7_know 19 = .ok (.getfield 16, 3) := by decide +kernel
theorem dX7_know_22 : decode cX7_know 22 = .ok (.iload_n 1, 1) := by decide +kernel
theorem dX7_know_23 : decode cX7_know 23 = .ok (.aload_n 0, 1) := by decide +kernel
theorem dX7_know_24 : decode cX7_know 24 = .ok (.getfield 16, 3) := by decide +kernel
theorem dX7_know_27 : decode cX7_know 27 = .ok (.sipush 240, 3) := by decide +kernel
theorem dX7_know_30 : decode cX7_know 30 = .ok (.iload_n 1, 1) := by decide +kernel
theorem dX7_know_31 : decode cX7_know 31 = .ok (.iadd, 1) := by decide +kernel
theorem dX7_know_32 : decode cX7_know 32 = .ok (.iaload, 1) := by decide +kernel
theorem dX7_know_33 : decode cX7_know 33 = .ok (.iastore, 1) := by decide +kernel
theorem dX7_know_34 : decode cX7_know 34 = .ok (.iinc 1 1, 3) := by decide +kernel
theorem dX7_know_37 : decode cX7_know 37 = .ok (.goto (-26), 3) := by decide +kernel
theorem dX7_know_40 : decode cX7_know 40 = .ok (.aload_n 0, 1) := by decide +kernel
theorem dX7_know_41 : decode cX7_know 41 = .ok (.dup, 1) := by decide +kernel
theorem dX7_know_42 : decode cX7_know 42 = .ok (.getfield 43, 3) := by decide +kernel
theorem dX7_know_45 : decode cX7_know 45 = .ok (.iconst 1, 1) := by decide +kernel
theorem dX7_know_46 : decode cX7_know 46 = .ok (.isub, 1) := by decide +kernel
theorem dX7_know_47 : decode cX7_know 47 = .ok (.putfield 43, 3) := by decide +kernel
theorem dX7_know_50 : decode cX7_know 50 = .ok (.iconst 0, 1) := by decide +kernel
theorem dX7_know_51 : decode cX7_know 51 = .ok (.istore_n 1, 1) := by decide +kernel
theorem dX7_know_52 : decode cX7_know 52 = .ok (.iload_n 1, 1) := by decide +kernel
theorem dX7_know_53 : decode cX7_know 53 = .ok (.sipush 240, 3) := by decide +kernel
theorem dX7_know_56 : decode cX7_know 56 = .ok (.if_icmp .ge 30, 3) := by decide +kernel
theorem dX7_know_59 : decode cX7_know 59 = .ok (.aload_n 0, 1) := by decide +kernel
theorem dX7_know_60 : decode cX7_know 60 = .ok (.getfield 16, 3) := by decide +kernel
theorem dX7_know_63 : decode cX7_know 63 = .ok (.sipush 240, 3) := by decide +kernel
theorem dX7_know_66 : decode cX7_know 66 = .ok (.aload_n 0, 1) := by decide +kernel
theorem dX7_know_67 : decode cX7_know 67 = .ok (.getfield 43, 3) := by decide +kernel
theorem dX7_know_70 : decode cX7_know 70 = .ok (.imul, 1) := by decide +kernel
theorem dX7_know_71 : decode cX7_know 71 = .ok (.iload_n 1, 1) := by decide +kernel
theorem dX7_know_72 : decode cX7_know 72 = .ok (.iadd, 1) := by decide +kernel
theorem dX7_know_73 : decode cX7_know 73 = .ok (.aload_n 0, 1) := by decide +kernel
theorem dX7_know_74 : decode cX7_know 74 = .ok (.getfield 7, 3) := by decide +kernel
theorem dX7_know_77 : decode cX7_know 77 = .ok (.iload_n 1, 1) := by decide +kernel
theorem dX7_know_78 : decode cX7_know 78 = .ok (.iaload, 1) := by decide +kernel
theorem dX7_know_79 : decode cX7_know 79 = .ok (.iastore, 1) := by decide +kernel
theorem dX7_know_80 : decode cX7_know 80 = .ok (.iinc 1 1, 3) := by decide +kernel
theorem dX7_know_83 : decode cX7_know 83 = .ok (.goto (-31), 3) := by decide +kernel
theorem dX7_know_86 : decode cX7_know 86 = .ok (.aload_n 0, 1) := by decide +kernel
theorem dX7_know_87 : decode cX7_know 87 = .ok (.dup, 1) := by decide +kernel
theorem dX7_know_88 : decode cX7_know 88 = .ok (.getfield 43, 3) := by decide +kernel
theorem dX7_know_91 : decode cX7_know 91 = .ok (.iconst 1, 1) := by decide +kernel
theorem dX7_know_92 : decode cX7_know 92 = .ok (.iadd, 1) := by decide +kernel
theorem dX7_know_93 : decode cX7_know 93 = .ok (.putfield 43, 3) := by decide +kernel
theorem dX7_know_96 : decode cX7_know 96 = .ok (.return_, 1) := by decide +kernel
theorem dX7_putAside_0 : decode cX7_putAside 0 = .ok (.iconst 0, 1) := by decide +kernel
theorem dX7_putAside_1 : decode cX7_putAside 1 = .ok (.istore_n 1, 1) := by decide +kernel
theorem dX7_putAside_2 : decode cX7_putAside 2 = .ok (.iload_n 1, 1) := by decide +kernel
theorem dX7_putAside_3 : decode cX7_putAside 3 = .ok (.sipush 240, 3) := by decide +kernel
theorem dX7_putAside_6 : decode cX7_putAside 6 = .ok (.if_icmp .ge 21, 3) := by decide +kernel
theorem dX7_putAside_9 : decode cX7_putAside 9 = .ok (.aload_n 0, 1) := by decide +kernel
theorem dX7_putAside_10 : decode cX7_putAside 10 = .ok (.getfield 13, 3) := by decide +kernel
theorem dX7_putAside_13 : decode cX7_putAside 13 = .ok (.iload_n 1, 1) := by decide +kernel
theorem dX7_putAside_14 : decode cX7_putAside 14 = .ok (.aload_n 0, 1) := by decide +kernel
theorem dX7_putAside_15 : decode cX7_putAside 15 = .ok (.getfield 7, 3) := by decide +kernel
theorem dX7_putAside_18 : decode cX7_putAside 18 = .ok (.iload_n 1, 1) := by decide +kernel
theorem dX7_putAside_19 : decode cX7_putAside 19 = .ok (.iaload, 1) := by decide +kernel
theorem dX7_putAside_20 : decode cX7_putAside 20 = .ok (.iastore, 1) := by decide +kernel
theorem dX7_putAside_21 : decode cX7_putAside 21 = .ok (.iinc 1 1, 3) := by decide +kernel
theorem dX7_putAside_24 : decode cX7_putAside 24 = .ok (.goto (-22), 3) := by decide +kernel
theorem dX7_putAside_27 : decode cX7_putAside 27 = .ok (.return_, 1) := by decide +kernel
theorem dX7_putBack_0 : decode cX7_putBack 0 = .ok (.iconst 0, 1) := by decide +kernel
theorem dX7_putBack_1 : decode cX7_putBack 1 = .ok (.istore_n 1, 1) := by decide +kernel
theorem dX7_putBack_2 : decode cX7_putBack 2 = .ok (.iload_n 1, 1) := by decide +kernel
theorem dX7_putBack_3 : decode cX7_putBack 3 = .ok (.sipush 240, 3) := by decide +kernel
theorem dX7_putBack_6 : decode cX7_putBack 6 = .ok (.if_icmp .ge 21, 3) := by decide +kernel
theorem dX7_putBack_9 : decode cX7_putBack 9 = .ok (.aload_n 0, 1) := by decide +kernel
theorem dX7_putBack_10 : decode cX7_putBack 10 = .ok (.getfield 7, 3) := by decide +kernel
theorem dX7_putBack_13 : decode cX7_putBack 13 = .ok (.iload_n 1, 1) := by decide +kernel
theorem dX7_putBack_14 : decode cX7_putBack 14 = .ok (.aload_n 0, 1) := by decide +kernel
theorem dX7_putBack_15 : decode cX7_putBack 15 = .ok (.getfield 13, 3) := by decide +kernel
theorem dX7_putBack_18 : decode cX7_putBack 18 = .ok (.iload_n 1, 1) := by decide +kernel
theorem dX7_putBack_19 : decode cX7_putBack 19 = .ok (.iaload, 1) := by decide +kernel
theorem dX7_putBack_20 : decode cX7_putBack 20 = .ok (.iastore, 1) := by decide +kernel
theorem dX7_putBack_21 : decode cX7_putBack 21 = .ok (.iinc 1 1, 3) := by decide +kernel
theorem dX7_putBack_24 : decode cX7_putBack 24 = .ok (.goto (-22), 3) := by decide +kernel
theorem dX7_putBack_27 : decode cX7_putBack 27 = .ok (.return_, 1) := by decide +kernel
set_option maxRecDepth 20000 in
theorem ggX7_heat_X7_ofL : GoodIn wsX7_heat wsX7_ofL := goodIn_r _ [5] (by decide +kernel) (by decide +kernel)
set_option maxRecDepth 20000 in
theorem gX7_heat_X7_ofL : GoodIn wsX7_heat (va_wsS RX7 47 yX7_ofL wsX7_ofL) := goodIn_app (goodIn_of _ (by decide +kernel)) ggX7_heat_X7_ofL
theorem dX7_heat_0 : decode cX7_heat 0 = .ok (.aload_n 0, 1) := by decide +kernel
theorem dX7_heat_1 : decode cX7_heat 1 = .ok (.getfield 7, 3) := by decide +kernel
theorem dX7_heat_4 : decode cX7_heat 4 = .ok (.iload_n 1, 1) := by decide +kernel
theorem dX7_heat_5 : decode cX7_heat 5 = .ok (.iconst 3, 1) := by decide +kernel
theorem dX7_heat_6 : decode cX7_heat 6 = .ok (.invokestatic 47, 3) := by decide +kernel
theorem dX7_heat_9 : decode cX7_heat 9 = .ok (.iaload, 1) := by decide +kernel
theorem dX7_heat_10 : decode cX7_heat 10 = .ok (.iconst 1, 1) := by decide +kernel
theorem dX7_heat_11 : decode cX7_heat 11 = .ok (.if_icmp .ne 15, 3) := by decide +kernel
theorem dX7_heat_14 : decode cX7_heat 14 = .ok (.aload_n 0, 1) := by decide +kernel
theorem dX7_heat_15 : decode cX7_heat 15 = .ok (.getfield 7, 3) := by decide +kernel
theorem dX7_heat_18 : decode cX7_heat 18 = .ok (.iload_n 1, 1) := by decide +kernel
theorem dX7_heat_19 : decode cX7_heat 19 = .ok (.bipush 6, 2) := by decide +kernel
theorem dX7_heat_21 : decode cX7_heat 21 = .ok (.invokestatic 47, 3) := by decide +kernel
theorem dX7_heat_24 : decode cX7_heat 24 = .ok (.iaload, 1) := by decide +kernel
theorem dX7_heat_25 : decode cX7_heat 25 = .ok (.ireturn, 1) := by decide +kernel
theorem dX7_heat_26 : decode cX7_heat 26 = .ok (.aload_n 0, 1) := by decide +kernel
theorem dX7_heat_27 : decode cX7_heat 27 = .ok (.getfield 7, 3) := by decide +kernel
theorem dX7_heat_30 : decode cX7_heat 30 = .ok (.iload_n 1, 1) := by decide +kernel
theorem dX7_heat_31 : decode cX7_heat 31 = .ok (.iconst 1, 1) := by decide +kernel
theorem dX7_heat_32 : decode cX7_heat 32 = .ok (.invokestatic 47, 3) := by decide +kernel
theorem dX7_heat_35 : decode cX7_heat 35 = .ok (.iaload, 1) := by decide +kernel
theorem dX7_heat_36 : decode cX7_heat 36 = .ok (.aload_n 0, 1) := by decide +kernel
theorem dX7_heat_37 : decode cX7_heat 37 = .ok (.getfield 7, 3) := by decide +kernel
theorem dX7_heat_40 : decode cX7_heat 40 = .ok (.iconst 2, 1) := by decide +kernel
theorem dX7_heat_41 : decode cX7_heat 41 = .ok (.iaload, 1) := by decide +kernel
theorem dX7_heat_42 : decode cX7_heat 42 = .ok (.aload_n 0, 1) := by decide +kernel
theorem dX7_heat_43 : decode cX7_heat 43 = .ok (.getfield 7, 3) := by decide +kernel
theorem dX7_heat_46 : decode cX7_heat 46 = .ok (.iconst 3, 1) := by decide +kernel
theorem dX7_heat_47 : decode cX7_heat 47 = .ok (.iaload, 1) := by decide +kernel
theorem dX7_heat_48 : decode cX7_heat 48 = .ok (.aload_n 0, 1) := by decide +kernel
theorem dX7_heat_49 : decode cX7_heat 49 = .ok (.getfield 7, 3) := by decide +kernel
theorem dX7_heat_52 : decode cX7_heat 52 = .ok (.iload_n 1, 1) := by decide +kernel
theorem dX7_heat_53 : decode cX7_heat 53 = .ok (.iconst 2, 1) := by decide +kernel
theorem dX7_heat_54 : decode cX7_heat 54 = .ok (.invokestatic 47, 3) := by decide +kernel
theorem dX7_heat_57 : decode cX7_heat 57 = .ok (.iaload, 1) := by decide +kernel
theorem dX7_heat_58 : decode cX7_heat 58 = .ok (.isub, 1) := by decide +kernel
theorem dX7_heat_59 : decode cX7_heat 59 = .ok (.imul, 1) := by decide +kernel
theorem dX7_heat_60 : decode cX7_heat 60 = .ok (.isub, 1) := by decide +kernel
theorem dX7_heat_61 : decode cX7_heat 61 = .ok (.istore_n 2, 1) := by decide +kernel
theorem dX7_heat_62 : decode cX7_heat 62 = .ok (.iload_n 2, 1) := by decide +kernel
theorem dX7_heat_63 : decode cX7_heat 63 = .ok (.ifCond .ge 7, 3) := by decide +kernel
theorem dX7_heat_66 : decode cX7_heat 66 = .ok (.iconst 0, 1) := by decide +kernel
theorem dX7_heat_67 : decode cX7_heat 67 = .ok (.goto 4, 3) := by decide +kernel
theorem dX7_heat_70 : decode cX7_heat 70 = .ok (.iload_n 2, 1) := by decide +kernel
theorem dX7_heat_71 : decode cX7_heat 71 = .ok (.ireturn, 1) := by decide +kernel
set_option maxRecDepth 20000 in
theorem ggX7_many_X7_ofL : GoodIn wsX7_many wsX7_ofL := goodIn_r _ [5] (by decide +kernel) (by decide +kernel)
set_option maxRecDepth 20000 in
theorem gX7_many_X7_ofL : GoodIn wsX7_many (va_wsS RX7 47 yX7_ofL wsX7_ofL) := goodIn_app (goodIn_of _ (by decide +kernel)) ggX7_many_X7_ofL
theorem dX7_many_0 : decode cX7_many 0 = .ok (.iconst 0, 1) := by decide +kernel
theorem dX7_many_1 : decode cX7_many 1 = .ok (.istore_n 3, 1) := by decide +kernel
theorem dX7_many_2 : decode cX7_many 2 = .ok (.iconst 0, 1) := by decide +kernel
theorem dX7_many_3 : decode cX7_many 3 = .ok (.istore 4, 2) := by decide +kernel
theorem dX7_many_5 : decode cX7_many 5 = .ok (.iload 4, 2) := by decide +kernel
theorem dX7_many_7 : decode cX7_many 7 = .ok (.aload_n 0, 1) := by decide +kernel
theorem dX7_many_8 : decode cX7_many 8 = .ok (.getfield 7, 3) := by decide +kernel
theorem dX7_many_11 : decode cX7_many 11 = .ok (.iconst 5, 1) := by decide +kernel
theorem dX7_many_12 : decode cX7_many 12 = .ok (.iaload, 1) := by decide +kernel
theorem dX7_many_13 : decode cX7_many 13 = .ok (.if_icmp .ge 53, 3) := by decide +kernel
theorem dX7_many_16 : decode cX7_many 16 = .ok (.iload_n 3, 1) := by decide +kernel
theorem dX7_many_17 : decode cX7_many 17 = .ok (.aload_n 0, 1) := by decide +kernel
theorem dX7_many_18 : decode cX7_many 18 = .ok (.getfield 7, 3) := by decide +kernel
theorem dX7_many_21 : decode cX7_many 21 = .ok (.iload 4, 2) := by decide +kernel
theorem dX7_many_23 : decode cX7_many 23 = .ok (.iconst 3, 1) := by decide +kernel
theorem dX7_many_24 : decode cX7_many 24 = .ok (.invokestatic 47, 3) := by decide +kernel
theorem dX7_many_27 : decode cX7_many 27 = .ok (.iaload, 1) := by decide +kernel
theorem dX7_many_28 : decode cX7_many 28 = .ok (.iload_n 2, 1) := by decide +kernel
theorem dX7_many_29 : decode cX7_many 29 = .ok (.if_icmp .ne 28, 3) := by decide +kernel
theorem dX7_many_32 : decode cX7_many 32 = .ok (.iload_n 1, 1) := by decide +kernel
theorem dX7_many_33 : decode cX7_many 33 = .ok (.bipush 6, 2) := by decide +kernel
theorem dX7_many_35 : decode cX7_many 35 = .ok (.if_icmp .eq 18, 3) := by decide +kernel
theorem dX7_many_38 : decode cX7_many 38 = .ok (.aload_n 0, 1) := by decide +kernel
theorem dX7_many_39 : decode cX7_many 39 = .ok (.getfield 7, 3) := by decide +kernel
theorem dX7_many_42 : decode cX7_many 42 = .ok (.iload 4, 2) := by decide +kernel
theorem dX7_many_44 : decode cX7_many 44 = .ok (.iconst 0, 1) := by decide +kernel
theorem dX7_many_45 : decode cX7_many 45 = .ok (.invokestatic 47, 3) := by decide +kernel
theorem dX7_many_48 : decode cX7_many 48 = .ok (.iaload, 1) := by decide +kernel
theorem dX7_many_49 : decode cX7_many 49 = .ok (.iload_n 1, 1) := by decide +kernel
theorem dX7_many_50 : decode cX7_many 50 = .ok (.if_icmp .ne 7, 3) := by decide +kernel
theorem dX7_many_53 : decode cX7_many 53 = .ok (.iconst 1, 1) := by decide +kernel
theorem dX7_many_54 : decode cX7_many 54 = .ok (.goto 4, 3) := by decide +kernel
theorem dX7_many_57 : decode cX7_many 57 = .ok (.iconst 0, 1) := by decide +kernel
theorem dX7_many_58 : decode cX7_many 58 = .ok (.iadd, 1) := by decide +kernel
theorem dX7_many_59 : decode cX7_many 59 = .ok (.istore_n 3, 1) := by decide +kernel
theorem dX7_many_60 : decode cX7_many 60 = .ok (.iinc 4 1, 3) := by decide +kernel
theorem dX7_many_63 : decode cX7_many 63 = .ok (.goto (-58), 3) := by decide +kernel
theorem dX7_many_66 : decode cX7_many 66 = .ok (.iload_n 3, 1) := by decide +kernel
theorem dX7_many_67 : decode cX7_many 67 = .ok (.ireturn, 1) := by decide +kernel
set_option maxRecDepth 20000 in
theorem ggX7_wouldGo_X7_ofL : GoodIn wsX7_wouldGo wsX7_ofL := goodIn_r _ [5] (by decide +kernel) (by decide +kernel)
set_option maxRecDepth 20000 in
theorem gX7_wouldGo_X7_ofL : GoodIn wsX7_wouldGo (va_wsS RX7 47 yX7_ofL wsX7_ofL) := goodIn_app (goodIn_of _ (by decide +kernel)) ggX7_wouldGo_X7_ofL
set_option maxRecDepth 20000 in
theorem ggX7_wouldGo_X7_ofD : GoodIn wsX7_wouldGo wsX7_ofD := goodIn_r _ [8] (by decide +kernel) (by decide +kernel)
set_option maxRecDepth 20000 in
theorem gX7_wouldGo_X7_ofD : GoodIn wsX7_wouldGo (va_wsS RX7 35 yX7_ofD wsX7_ofD) := goodIn_app (goodIn_of _ (by decide +kernel)) ggX7_wouldGo_X7_ofD
set_option maxRecDepth 20000 in
theorem ggX7_wouldGo_X7_heat : GoodIn wsX7_wouldGo wsX7_heat := goodIn_r _ [12, 1, 2, 3, 4, 5, 13, 14, 15, 16, 17, 18, 19, 20, 21, 22, 23, 24, 25, 26, 27, 28] (by decide +kernel) (by decide +kernel)
set_option maxRecDepth 20000 in
theorem gX7_wouldGo_X7_heat : GoodIn wsX7_wouldGo (wsV RX7 50 RX7 yX7_heat wsX7_heat) := goodIn_app (goodIn_of _ (by decide +kernel)) ggX7_wouldGo_X7_heat
theorem dX7_wouldGo_0 : decode cX7_wouldGo 0 = .ok (.aload_n 0, 1) := by decide +kernel
theorem dX7_wouldGo_1 : decode cX7_wouldGo 1 = .ok (.getfield 7, 3) := by decide +kernel
theorem dX7_wouldGo_4 : decode cX7_wouldGo 4 = .ok (.iload_n 1, 1) := by decide +kernel
theorem dX7_wouldGo_5 : decode cX7_wouldGo 5 = .ok (.iconst 0, 1) := by decide +kernel
theorem dX7_wouldGo_6 : decode cX7_wouldGo 6 = .ok (.invokestatic 47, 3) := by decide +kernel
theorem dX7_wouldGo_9 : decode cX7_wouldGo 9 = .ok (.iaload, 1) := by decide +kernel
theorem dX7_wouldGo_10 : decode cX7_wouldGo 10 = .ok (.istore_n 2, 1) := by decide +kernel
theorem dX7_wouldGo_11 : decode cX7_wouldGo 11 = .ok (.aload_n 0, 1) := by decide +kernel
theorem dX7_wouldGo_12 : decode cX7_wouldGo 12 = .ok (.getfield 7, 3) := by decide +kernel
theorem dX7_wouldGo_15 : decode cX7_wouldGo 15 = .ok (.iload_n 1, 1) := by decide +kernel
theorem dX7_wouldGo_16 : decode cX7_wouldGo 16 = .ok (.iconst 3, 1) := by decide +kernel
theorem dX7_wouldGo_17 : decode cX7_wouldGo 17 = .ok (.invokestatic 47, 3) := by decide +kernel
theorem dX7_wouldGo_20 : decode cX7_wouldGo 20 = .ok (.iaload, 1) := by decide +kernel
theorem dX7_wouldGo_21 : decode cX7_wouldGo 21 = .ok (.ifCond .ne 20, 3) := by decide +kernel
theorem dX7_wouldGo_24 : decode cX7_wouldGo 24 = .ok (.aload_n 0, 1) := by decide +kernel
theorem dX7_wouldGo_25 : decode cX7_wouldGo 25 = .ok (.getfield 7, 3) := by decide +kernel
theorem dX7_wouldGo_28 : decode cX7_wouldGo 28 = .ok (.iload_n 2, 1) := by decide +kernel
theorem dX7_wouldGo_29 : decode cX7_wouldGo 29 = .ok (.iconst 0, 1) := by decide +kernel
theorem dX7_wouldGo_30 : decode cX7_wouldGo 30 = .ok (.invokestatic 35, 3) := by decide +kernel
theorem dX7_wouldGo_33 : decode cX7_wouldGo 33 = .ok (.iaload, 1) := by decide +kernel
theorem dX7_wouldGo_34 : decode cX7_wouldGo 34 = .ok (.ifCond .ne 7, 3) := by decide +kernel
theorem dX7_wouldGo_37 : decode cX7_wouldGo 37 = .ok (.iconst 1, 1) := by decide +kernel
theorem dX7_wouldGo_38 : decode cX7_wouldGo 38 = .ok (.goto 4, 3) := by decide +kernel
theorem dX7_wouldGo_41 : decode cX7_wouldGo 41 = .ok (.iconst 0, 1) := by decide +kernel
theorem dX7_wouldGo_42 : decode cX7_wouldGo 42 = .ok (.istore_n 3, 1) := by decide +kernel
theorem dX7_wouldGo_43 : decode cX7_wouldGo 43 = .ok (.iload_n 3, 1) := by decide +kernel
theorem dX7_wouldGo_44 : decode cX7_wouldGo 44 = .ok (.ifCond .eq 51, 3) := by decide +kernel
theorem dX7_wouldGo_47 : decode cX7_wouldGo 47 = .ok (.aload_n 0, 1) := by decide +kernel
theorem dX7_wouldGo_48 : decode cX7_wouldGo 48 = .ok (.getfield 7, 3) := by decide +kernel
theorem dX7_wouldGo_51 : decode cX7_wouldGo 51 = .ok (.iconst 3, 1) := by decide +kernel
theorem dX7_wouldGo_52 : decode cX7_wouldGo 52 = .ok (.iaload, 1) := by decide +kernel
theorem dX7_wouldGo_53 : decode cX7_wouldGo 53 = .ok (.aload_n 0, 1) := by decide +kernel
theorem dX7_wouldGo_54 : decode cX7_wouldGo 54 = .ok (.getfield 7, 3) := by decide +kernel
theorem dX7_wouldGo_57 : decode cX7_wouldGo 57 = .ok (.iload_n 1, 1) := by decide +kernel
theorem dX7_wouldGo_58 : decode cX7_wouldGo 58 = .ok (.iconst 2, 1) := by decide +kernel
theorem dX7_wouldGo_59 : decode cX7_wouldGo 59 = .ok (.invokestatic 47, 3) := by decide +kernel
theorem dX7_wouldGo_62 : decode cX7_wouldGo 62 = .ok (.iaload, 1) := by decide +kernel
theorem dX7_wouldGo_63 : decode cX7_wouldGo 63 = .ok (.isub, 1) := by decide +kernel
theorem dX7_wouldGo_64 : decode cX7_wouldGo 64 = .ok (.aload_n 0, 1) := by decide +kernel
theorem dX7_wouldGo_65 : decode cX7_wouldGo 65 = .ok (.getfield 7, 3) := by decide +kernel
theorem dX7_wouldGo_68 : decode cX7_wouldGo 68 = .ok (.iload_n 2, 1) := by decide +kernel
theorem dX7_wouldGo_69 : decode cX7_wouldGo 69 = .ok (.iconst 1, 1) := by decide +kernel
theorem dX7_wouldGo_70 : decode cX7_wouldGo 70 = .ok (.invokestatic 35, 3) := by decide +kernel
theorem dX7_wouldGo_73 : decode cX7_wouldGo 73 = .ok (.iaload, 1) := by decide +kernel
theorem dX7_wouldGo_74 : decode cX7_wouldGo 74 = .ok (.if_icmp .lt 21, 3) := by decide +kernel
theorem dX7_wouldGo_77 : decode cX7_wouldGo 77 = .ok (.aload_n 0, 1) := by decide +kernel
theorem dX7_wouldGo_78 : decode cX7_wouldGo 78 = .ok (.iload_n 1, 1) := by decide +kernel
theorem dX7_wouldGo_79 : decode cX7_wouldGo 79 = .ok (.invokevirtual 50, 3) := by decide +kernel
theorem dX7_wouldGo_82 : decode cX7_wouldGo 82 = .ok (.aload_n 0, 1) := by decide +kernel
theorem dX7_wouldGo_83 : decode cX7_wouldGo 83 = .ok (.getfield 7, 3) := by decide +kernel
theorem dX7_wouldGo_86 : decode cX7_wouldGo 86 = .ok (.iconst 1, 1) := by decide +kernel
theorem dX7_wouldGo_87 : decode cX7_wouldGo 87 = .ok (.iaload, 1) := by decide +kernel
theorem dX7_wouldGo_88 : decode cX7_wouldGo 88 = .ok (.if_icmp .gt 7, 3) := by decide +kernel
theorem dX7_wouldGo_91 : decode cX7_wouldGo 91 = .ok (.iconst 1, 1) := by decide +kernel
theorem dX7_wouldGo_92 : decode cX7_wouldGo 92 = .ok (.goto 4, 3) := by decide +kernel
theorem dX7_wouldGo_95 : decode cX7_wouldGo 95 = .ok (.iconst 0, 1) := by decide +kernel
theorem dX7_wouldGo_96 : decode cX7_wouldGo 96 = .ok (.ireturn, 1) := by decide +kernel
set_option maxRecDepth 20000 in
theorem ggX7_hour_X7_ofD : GoodIn wsX7_hour wsX7_ofD := goodIn_r _ [5] (by decide +kernel) (by decide +kernel)
set_option maxRecDepth 20000 in
theorem gX7_hour_X7_ofD : GoodIn wsX7_hour (va_wsS RX7 35 yX7_ofD wsX7_ofD) := goodIn_app (goodIn_of _ (by decide +kernel)) ggX7_hour_X7_ofD
set_option maxRecDepth 20000 in
theorem ggX7_hour_X7_wouldGo : GoodIn wsX7_hour wsX7_wouldGo := goodIn_r _ [9, 1, 10, 11, 4, 12, 2, 3, 5, 13, 14, 15, 16, 17, 18, 19, 20, 21, 22, 23, 24, 25, 26, 27, 28, 29, 30, 31, 32] (by decide +kernel) (by decide +kernel)
set_option maxRecDepth 20000 in
theorem gX7_hour_X7_wouldGo : GoodIn wsX7_hour (wsV RX7 54 RX7 yX7_wouldGo wsX7_wouldGo) := goodIn_app (goodIn_of _ (by decide +kernel)) ggX7_hour_X7_wouldGo
set_option maxRecDepth 20000 in
theorem ggX7_hour_X7_ofL : GoodIn wsX7_hour wsX7_ofL := goodIn_r _ [12] (by decide +kernel) (by decide +kernel)
set_option maxRecDepth 20000 in
theorem gX7_hour_X7_ofL : GoodIn wsX7_hour (va_wsS RX7 47 yX7_ofL wsX7_ofL) := goodIn_app (goodIn_of _ (by decide +kernel)) ggX7_hour_X7_ofL
set_option maxRecDepth 20000 in
theorem ggX7_hour_X7_heat : GoodIn wsX7_hour wsX7_heat := goodIn_r _ [16, 1, 10, 11, 4, 12, 17, 18, 19, 20, 21, 22, 23, 24, 25, 26, 27, 28, 29, 30, 31, 32] (by decide +kernel) (by decide +kernel)
set_option maxRecDepth 20000 in
theorem gX7_hour_X7_heat : GoodIn wsX7_hour (wsV RX7 50 RX7 yX7_heat wsX7_heat) := goodIn_app (goodIn_of _ (by decide +kernel)) ggX7_hour_X7_heat
theorem dX7_hour_0 : decode cX7_hour 0 = .ok (.iconst 0, 1) := by decide +kernel
theorem dX7_hour_1 : decode cX7_hour 1 = .ok (.istore_n 1, 1) := by decide +kernel
theorem dX7_hour_2 : decode cX7_hour 2 = .ok (.iload_n 1, 1) := by decide +kernel
theorem dX7_hour_3 : decode cX7_hour 3 = .ok (.bipush 6, 2) := by decide +kernel
theorem dX7_hour_5 : decode cX7_hour 5 = .ok (.if_icmp .ge 75, 3) := by decide +kernel
theorem dX7_hour_8 : decode cX7_hour 8 = .ok (.aload_n 0, 1) := by decide +kernel
theorem dX7_hour_9 : decode cX7_hour 9 = .ok (.getfield 7, 3) := by decide +kernel
theorem dX7_hour_12 : decode cX7_hour 12 = .ok (.iload_n 1, 1) := by decide +kernel
theorem dX7_hour_13 : decode cX7_hour 13 = .ok (.iconst 0, 1) := by decide +kernel
theorem dX7_hour_14 : decode cX7_hour 14 = .ok (.invokestatic 35, 3) := by decide +kernel
theorem dX7_hour_17 : decode cX7_hour 17 = .ok (.aload_n 0, 1) := by decide +kernel
theorem dX7_hour_18 : decode cX7_hour 18 = .ok (.getfield 7, 3) := by decide +kernel
theorem dX7_hour_21 : decode cX7_hour 21 = .ok (.iload_n 1, 1) := by decide +kernel
theorem dX7_hour_22 : decode cX7_hour 22 = .ok (.iconst 2, 1) := by decide +kernel
theorem dX7_hour_23 : decode cX7_hour 23 = .ok (.invokestatic 35, 3) := by decide +kernel
theorem dX7_hour_26 : decode cX7_hour 26 = .ok (.iaload, 1) := by decide +kernel
theorem dX7_hour_27 : decode cX7_hour 27 = .ok (.aload_n 0, 1) := by decide +kernel
theorem dX7_hour_28 : decode cX7_hour 28 = .ok (.getfield 7, 3) := by decide +kernel
theorem dX7_hour_31 : decode cX7_hour 31 = .ok (.iconst 4, 1) := by decide +kernel
theorem dX7_hour_32 : decode cX7_hour 32 = .ok (.iaload, 1) := by decide +kernel
theorem dX7_hour_33 : decode cX7_hour 33 = .ok (.if_icmp .ne 7, 3) := by decide +kernel
theorem dX7_hour_36 : decode cX7_hour 36 = .ok (.iconst 0, 1) := by decide +kernel
theorem dX7_hour_37 : decode cX7_hour 37 = .ok (.goto 36, 3) := by decide +kernel
theorem dX7_hour_40 : decode cX7_hour 40 = .ok (.aload_n 0, 1) := by decide +kernel
theorem dX7_hour_41 : decode cX7_hour 41 = .ok (.getfield 7, 3) := by decide +kernel
theorem dX7_hour_44 : decode cX7_hour 44 = .ok (.iload_n 1, 1) := by decide +kernel
theorem dX7_hour_45 : decode cX7_hour 45 = .ok (.iconst 3, 1) := by decide +kernel
theorem dX7_hour_46 : decode cX7_hour 46 = .ok (.invokestatic 35, 3) := by decide +kernel
theorem dX7_hour_49 : decode cX7_hour 49 = .ok (.iaload, 1) := by decide +kernel
theorem dX7_hour_50 : decode cX7_hour 50 = .ok (.aload_n 0, 1) := by decide +kernel
theorem dX7_hour_51 : decode cX7_hour 51 = .ok (.getfield 7, 3) := by decide +kernel
theorem dX7_hour_54 : decode cX7_hour 54 = .ok (.iconst 4, 1) := by decide +kernel
theorem dX7_hour_55 : decode cX7_hour 55 = .ok (.iaload, 1) := by decide +kernel
theorem dX7_hour_56 : decode cX7_hour 56 = .ok (.if_icmp .ne 7, 3) := by decide +kernel
theorem dX7_hour_59 : decode cX7_hour 59 = .ok (.iconst 1, 1) := by decide +kernel
theorem dX7_hour_60 : decode cX7_hour 60 = .ok (.goto 13, 3) := by decide +kernel
theorem dX7_hour_63 : decode cX7_hour 63 = .ok (.aload_n 0, 1) := by decide +kernel
theorem dX7_hour_64 : decode cX7_hour 64 = .ok (.getfield 7, 3) := by decide +kernel
theorem dX7_hour_67 : decode cX7_hour 67 = .ok (.iload_n 1, 1) := by decide +kernel
theorem dX7_hour_68 : decode cX7_hour 68 = .ok (.iconst 0, 1) := by decide +kernel
theorem dX7_hour_69 : decode cX7_hour 69 = .ok (.invokestatic 35, 3) := by decide +kernel
theorem dX7_hour_72 : decode cX7_hour 72 = .ok (.iaload, 1) := by decide +kernel
theorem dX7_hour_73 : decode cX7_hour 73 = .ok (.iastore, 1) := by decide +kernel
theorem dX7_hour_74 : decode cX7_hour 74 = .ok (.iinc 1 1, 3) := by decide +kernel
theorem dX7_hour_77 : decode cX7_hour 77 = .ok (.goto (-75), 3) := by decide +kernel
theorem dX7_hour_80 : decode cX7_hour 80 = .ok (.iconst 0, 1) := by decide +kernel
theorem dX7_hour_81 : decode cX7_hour 81 = .ok (.istore_n 1, 1) := by decide +kernel
theorem dX7_hour_82 : decode cX7_hour 82 = .ok (.iload_n 1, 1) := by decide +kernel
theorem dX7_hour_83 : decode cX7_hour 83 = .ok (.aload_n 0, 1) := by decide +kernel
theorem dX7_hour_84 : decode cX7_hour 84 = .ok (.getfield 7, 3) := by decide +kernel
theorem dX7_hour_87 : decode cX7_hour 87 = .ok (.iconst 5, 1) := by decide +kernel
theorem dX7_hour_88 : decode cX7_hour 88 = .ok (.iaload, 1) := by decide +kernel
theorem dX7_hour_89 : decode cX7_hour 89 = .ok (.if_icmp .ge 75, 3) := by decide +kernel
theorem dX7_hour_92 : decode cX7_hour 92 = .ok (.aload_n 0, 1) := by decide +kernel
theorem dX7_hour_93 : decode cX7_hour 93 = .ok (.getfield 7, 3) := by decide +kernel
theorem dX7_hour_96 : decode cX7_hour 96 = .ok (.iconst 4, 1) := by decide +kernel
theorem dX7_hour_97 : decode cX7_hour 97 = .ok (.iaload, 1) := by decide +kernel
theorem dX7_hour_98 : decode cX7_hour 98 = .ok (.aload_n 0, 1) := by decide +kernel
theorem dX7_hour_99 : decode cX7_hour 99 = .ok (.getfield 7, 3) := by decide +kernel
theorem dX7_hour_102 : decode cX7_hour 102 = .ok (.iconst 0, 1) := by decide +kernel
theorem dX7_hour_103 : decode cX7_hour 103 = .ok (.iaload, 1) := by decide +kernel
theorem dX7_hour_104 : decode cX7_hour 104 = .ok (.if_icmp .ne 60, 3) := by decide +kernel
theorem dX7_hour_107 : decode cX7_hour 107 = .ok (.aload_n 0, 1) := by decide +kernel
theorem dX7_hour_108 : decode cX7_hour 108 = .ok (.iload_n 1, 1) := by decide +kernel
theorem dX7_hour_109 : decode cX7_hour 109 = .ok (.invokevirtual 54, 3) := by decide +kernel
theorem dX7_hour_112 : decode cX7_hour 112 = .ok (.ifCond .eq 46, 3) := by decide +kernel
theorem dX7_hour_115 : decode cX7_hour 115 = .ok (.aload_n 0, 1) := by decide +kernel
theorem dX7_hour_116 : decode cX7_hour 116 = .ok (.getfield 7, 3) := by decide +kernel
theorem dX7_hour_119 : decode cX7_hour 119 = .ok (.iload_n 1, 1) := by decide +kernel
theorem dX7_hour_120 : decode cX7_hour 120 = .ok (.bipush 6, 2) := by decide +kernel
theorem dX7_hour_122 : decode cX7_hour 122 = .ok (.invokestatic 47, 3) := by decide +kernel
theorem dX7_hour_125 : decode cX7_hour 125 = .ok (.aload_n 0, 1) := by decide +kernel
theorem dX7_hour_126 : decode cX7_hour 126 = .ok (.iload_n 1, 1) := by decide +kernel
theorem dX7_hour_127 : decode cX7_hour 127 = .ok (.invokevirtual 50, 3) := by decide +kernel
theorem dX7_hour_130 : decode cX7_hour 130 = .ok (.iastore, 1) := by decide +kernel
theorem dX7_hour_131 : decode cX7_hour 131 = .ok (.aload_n 0, 1) := by decide +kernel
theorem dX7_hour_132 : decode cX7_hour 132 = .ok (.getfield 7, 3) := by decide +kernel
theorem dX7_hour_135 : decode cX7_hour 135 = .ok (.iload_n 1, 1) := by decide +kernel
theorem dX7_hour_136 : decode cX7_hour 136 = .ok (.iconst 4, 1) := by decide +kernel
theorem dX7_hour_137 : decode cX7_hour 137 = .ok (.invokestatic 47, 3) := by decide +kernel
theorem dX7_hour_140 : decode cX7_hour 140 = .ok (.aload_n 0, 1) := by decide +kernel
theorem dX7_hour_141 : decode cX7_hour 141 = .ok (.getfield 7, 3) := by decide +kernel
theorem dX7_hour_144 : decode cX7_hour 144 = .ok (.iconst 3, 1) := by decide +kernel
theorem dX7_hour_145 : decode cX7_hour 145 = .ok (.iaload, 1) := by decide +kernel
theorem dX7_hour_146 : decode cX7_hour 146 = .ok (.iastore, 1) := by decide +kernel
theorem dX7_hour_147 : decode cX7_hour 147 = .ok (.aload_n 0, 1) := by decide +kernel
theorem dX7_hour_148 : decode cX7_hour 148 = .ok (.getfield 7, 3) := by decide +kernel
theorem dX7_hour_151 : decode cX7_hour 151 = .ok (.iload_n 1, 1) := by decide +kernel
theorem dX7_hour_152 : decode cX7_hour 152 = .ok (.iconst 3, 1) := by decide +kernel
theorem dX7_hour_153 : decode cX7_hour 153 = .ok (.invokestatic 47, 3) := by decide +kernel
theorem dX7_hour_156 : decode cX7_hour 156 = .ok (.iconst 1, 1) := by decide +kernel
theorem dX7_hour_157 : decode cX7_hour 157 = .ok (.iastore, 1) := by decide +kernel
theorem dX7_hour_158 : decode cX7_hour 158 = .ok (.iinc 1 1, 3) := by decide +kernel
theorem dX7_hour_161 : decode cX7_hour 161 = .ok (.goto (-79), 3) := by decide +kernel
theorem dX7_hour_164 : decode cX7_hour 164 = .ok (.aload_n 0, 1) := by decide +kernel
theorem dX7_hour_165 : decode cX7_hour 165 = .ok (.getfield 7, 3) := by decide +kernel
theorem dX7_hour_168 : decode cX7_hour 168 = .ok (.iconst 4, 1) := by decide +kernel
theorem dX7_hour_169 : decode cX7_hour 169 = .ok (.dup2, 1) := by decide +kernel
theorem dX7_hour_170 : decode cX7_hour 170 = .ok (.iaload, 1) := by decide +kernel
theorem dX7_hour_171 : decode cX7_hour 171 = .ok (.iconst 1, 1) := by decide +kernel
theorem dX7_hour_172 : decode cX7_hour 172 = .ok (.iadd, 1) := by decide +kernel
theorem dX7_hour_173 : decode cX7_hour 173 = .ok (.iastore, 1) := by decide +kernel
theorem dX7_hour_174 : decode cX7_hour 174 = .ok (.aload_n 0, 1) := by decide +kernel
theorem dX7_hour_175 : decode cX7_hour 175 = .ok (.getfield 7, 3) := by decide +kernel
theorem dX7_hour_178 : decode cX7_hour 178 = .ok (.iconst 4, 1) := by decide +kernel
theorem dX7_hour_179 : decode cX7_hour 179 = .ok (.iaload, 1) := by decide +kernel
theorem dX7_hour_180 : decode cX7_hour 180 = .ok (.bipush 24, 2) := by decide +kernel
theorem dX7_hour_182 : decode cX7_hour 182 = .ok (.if_icmp .ne 20, 3) := by decide +kernel
theorem dX7_hour_185 : decode cX7_hour 185 = .ok (.aload_n 0, 1) := by decide +kernel
theorem dX7_hour_186 : decode cX7_hour 186 = .ok (.getfield 7, 3) := by decide +kernel
theorem dX7_hour_189 : decode cX7_hour 189 = .ok (.iconst 4, 1) := by decide +kernel
theorem dX7_hour_190 : decode cX7_hour 190 = .ok (.iconst 0, 1) := by decide +kernel
theorem dX7_hour_191 : decode cX7_hour 191 = .ok (.iastore, 1) := by decide +kernel
theorem dX7_hour_192 : decode cX7_hour 192 = .ok (.aload_n 0, 1) := by decide +kernel
theorem dX7_hour_193 : decode cX7_hour 193 = .ok (.getfield 7, 3) := by decide +kernel
theorem dX7_hour_196 : decode cX7_hour 196 = .ok (.iconst 3, 1) := by decide +kernel
theorem dX7_hour_197 : decode cX7_hour 197 = .ok (.dup2, 1) := by decide +kernel
theorem dX7_hour_198 : decode cX7_hour 198 = .ok (.iaload, 1) := by decide +kernel
theorem dX7_hour_199 : decode cX7_hour 199 = .ok (.iconst 1, 1) := by decide +kernel
theorem dX7_hour_200 : decode cX7_hour 200 = .ok (.iadd, 1) := by decide +kernel
theorem dX7_hour_201 : decode cX7_hour 201 = .ok (.iastore, 1) := by decide +kernel
theorem dX7_hour_202 : decode cX7_hour 202 = .ok (.return_, 1) := by decide +kernel
set_option maxRecDepth 20000 in
theorem ggX7_findRegrets_X7_ofL : GoodIn wsX7_findRegrets wsX7_ofL := goodIn_r _ [7] (by decide +kernel) (by decide +kernel)
set_option maxRecDepth 20000 in
theorem gX7_findRegrets_X7_ofL : GoodIn wsX7_findRegrets (va_wsS RX7 47 yX7_ofL wsX7_ofL) := goodIn_app (goodIn_of _ (by decide +kernel)) ggX7_findRegrets_X7_ofL
set_option maxRecDepth 20000 in
theorem ggX7_findRegrets_X7_heat : GoodIn wsX7_findRegrets wsX7_heat := goodIn_r _ [11, 3, 4, 5, 6, 7, 12, 13, 14, 15, 16, 17, 18, 19, 20, 21, 22, 23, 24, 25, 26, 27] (by decide +kernel) (by decide +kernel)
set_option maxRecDepth 20000 in
theorem gX7_findRegrets_X7_heat : GoodIn wsX7_findRegrets (wsV RX7 50 RX7 yX7_heat wsX7_heat) := goodIn_app (goodIn_of _ (by decide +kernel)) ggX7_findRegrets_X7_heat
theorem dX7_findRegrets_0 : decode cX7_findRegrets 0 = .ok (.iconst 0, 1) := by decide +kernel
theorem dX7_findRegrets_1 : decode cX7_findRegrets 1 = .ok (.istore_n 1, 1) := by decide +kernel
theorem dX7_findRegrets_2 : decode cX7_findRegrets 2 = .ok (.iload_n 1, 1) := by decide +kernel
theorem dX7_findRegrets_3 : decode cX7_findRegrets 3 = .ok (.bipush 30, 2) := by decide +kernel
theorem dX7_findRegrets_5 : decode cX7_findRegrets 5 = .ok (.if_icmp .ge 23, 3) := by decide +kernel
theorem dX7_findRegrets_8 : decode cX7_findRegrets 8 = .ok (.aload_n 0, 1) := by decide +kernel
theorem dX7_findRegrets_9 : decode cX7_findRegrets 9 = .ok (.getfield 32, 3) := by decide +kernel
theorem dX7_findRegrets_12 : decode cX7_findRegrets 12 = .ok (.iload_n 1, 1) := by decide +kernel
theorem dX7_findRegrets_13 : decode cX7_findRegrets 13 = .ok (.iconst 0, 1) := by decide +kernel
theorem dX7_findRegrets_14 : decode cX7_findRegrets 14 = .ok (.iastore, 1) := by decide +kernel
theorem dX7_findRegrets_15 : decode cX7_findRegrets 15 = .ok (.aload_n 0, 1) := by decide +kernel
theorem dX7_findRegrets_16 : decode cX7_findRegrets 16 = .ok (.getfield 29, 3) := by decide +kernel
theorem dX7_findRegrets_19 : decode cX7_findRegrets 19 = .ok (.iload_n 1, 1) := by decide +kernel
theorem dX7_findRegrets_20 : decode cX7_findRegrets 20 = .ok (.iconst 0, 1) := by decide +kernel
theorem dX7_findRegrets_21 : decode cX7_findRegrets 21 = .ok (.iastore, 1) := by decide +kernel
theorem dX7_findRegrets_22 : decode cX7_findRegrets 22 = .ok (.iinc 1 1, 3) := by decide +kernel
theorem dX7_findRegrets_25 : decode cX7_findRegrets 25 = .ok (.goto (-23), 3) := by decide +kernel
theorem dX7_findRegrets_28 : decode cX7_findRegrets 28 = .ok (.aload_n 0, 1) := by decide +kernel
theorem dX7_findRegrets_29 : decode cX7_findRegrets 29 = .ok (.getfield 7, 3) := by decide +kernel
theorem dX7_findRegrets_32 : decode cX7_findRegrets 32 = .ok (.iconst 5, 1) := by decide +kernel
theorem dX7_findRegrets_33 : decode cX7_findRegrets 33 = .ok (.iaload, 1) := by decide +kernel
theorem dX7_findRegrets_34 : decode cX7_findRegrets 34 = .ok (.iconst 1, 1) := by decide +kernel
theorem dX7_findRegrets_35 : decode cX7_findRegrets 35 = .ok (.isub, 1) := by decide +kernel
theorem dX7_findRegrets_36 : decode cX7_findRegrets 36 = .ok (.istore_n 1, 1) := by decide +kernel
theorem dX7_findRegrets_37 : decode cX7_findRegrets 37 = .ok (.iload_n 1, 1) := by decide +kernel
theorem dX7_findRegrets_38 : decode cX7_findRegrets 38 = .ok (.ifCond .lt 100, 3) := by decide +kernel
theorem dX7_findRegrets_41 : decode cX7_findRegrets 41 = .ok (.aload_n 0, 1) := by decide +kernel
theorem dX7_findRegrets_42 : decode cX7_findRegrets 42 = .ok (.getfield 29, 3) := by decide +kernel
theorem dX7_findRegrets_45 : decode cX7_findRegrets 45 = .ok (.iload_n 1, 1) := by decide +kernel
theorem dX7_findRegrets_46 : decode cX7_findRegrets 46 = .ok (.aload_n 0, 1) := by decide +kernel
theorem dX7_findRegrets_47 : decode cX7_findRegrets 47 = .ok (.getfield 7, 3) := by decide +kernel
theorem dX7_findRegrets_50 : decode cX7_findRegrets 50 = .ok (.iload_n 1, 1) := by decide +kernel
theorem dX7_findRegrets_51 : decode cX7_findRegrets 51 = .ok (.iconst 3, 1) := by decide +kernel
theorem dX7_findRegrets_52 : decode cX7_findRegrets 52 = .ok (.invokestatic 47, 3) := by decide +kernel
theorem dX7_findRegrets_55 : decode cX7_findRegrets 55 = .ok (.iaload, 1) := by decide +kernel
theorem dX7_findRegrets_56 : decode cX7_findRegrets 56 = .ok (.iconst 1, 1) := by decide +kernel
theorem dX7_findRegrets_57 : decode cX7_findRegrets 57 = .ok (.if_icmp .ne 20, 3) := by decide +kernel
theorem dX7_findRegrets_60 : decode cX7_findRegrets 60 = .ok (.aload_n 0, 1) := by decide +kernel
theorem dX7_findRegrets_61 : decode cX7_findRegrets 61 = .ok (.iload_n 1, 1) := by decide +kernel
theorem dX7_findRegrets_62 : decode cX7_findRegrets 62 = .ok (.invokevirtual 50, 3) := by decide +kernel
theorem dX7_findRegrets_65 : decode cX7_findRegrets 65 = .ok (.aload_n 0, 1) := by decide +kernel
theorem dX7_findRegrets_66 : decode cX7_findRegrets 66 = .ok (.getfield 32, 3) := by decide +kernel
theorem dX7_findRegrets_69 : decode cX7_findRegrets 69 = .ok (.iload_n 1, 1) := by decide +kernel
theorem dX7_findRegrets_70 : decode cX7_findRegrets 70 = .ok (.iaload, 1) := by decide +kernel
theorem dX7_findRegrets_71 : decode cX7_findRegrets 71 = .ok (.iconst 2, 1) := by decide +kernel
theorem dX7_findRegrets_72 : decode cX7_findRegrets 72 = .ok (.idiv, 1) := by decide +kernel
theorem dX7_findRegrets_73 : decode cX7_findRegrets 73 = .ok (.iadd, 1) := by decide +kernel
theorem dX7_findRegrets_74 : decode cX7_findRegrets 74 = .ok (.goto 4, 3) := by decide +kernel
theorem dX7_findRegrets_77 : decode cX7_findRegrets 77 = .ok (.iconst 0, 1) := by decide +kernel
theorem dX7_findRegrets_78 : decode cX7_findRegrets 78 = .ok (.iastore, 1) := by decide +kernel
theorem dX7_findRegrets_79 : decode cX7_findRegrets 79 = .ok (.aload_n 0, 1) := by decide +kernel
theorem dX7_findRegrets_80 : decode cX7_findRegrets 80 = .ok (.getfield 7, 3) := by decide +kernel
theorem dX7_findRegrets_83 : decode cX7_findRegrets 83 = .ok (.iload_n 1, 1) := by decide +kernel
theorem dX7_findRegrets_84 : decode cX7_findRegrets 84 = .ok (.iconst 5, 1) := by decide +kernel
theorem dX7_findRegrets_85 : decode cX7_findRegrets 85 = .ok (.invokestatic 47, 3) := by decide +kernel
theorem dX7_findRegrets_88 : decode cX7_findRegrets 88 = .ok (.iaload, 1) := by decide +kernel
theorem dX7_findRegrets_89 : decode cX7_findRegrets 89 = .ok (.istore_n 2, 1) := by decide +kernel
theorem dX7_findRegrets_90 : decode cX7_findRegrets 90 = .ok (.iload_n 2, 1) := by decide +kernel
theorem dX7_findRegrets_91 : decode cX7_findRegrets 91 = .ok (.bipush (-6), 2) := by decide +kernel
theorem dX7_findRegrets_93 : decode cX7_findRegrets 93 = .ok (.if_icmp .eq 39, 3) := by decide +kernel
theorem dX7_findRegrets_96 : decode cX7_findRegrets 96 = .ok (.aload_n 0, 1) := by decide +kernel
theorem dX7_findRegrets_97 : decode cX7_findRegrets 97 = .ok (.getfield 32, 3) := by decide +kernel
theorem dX7_findRegrets_100 : decode cX7_findRegrets 100 = .ok (.iload_n 2, 1) := by decide +kernel
theorem dX7_findRegrets_101 : decode cX7_findRegrets 101 = .ok (.aload_n 0, 1) := by decide +kernel
theorem dX7_findRegrets_102 : decode cX7_findRegrets 102 = .ok (.getfield 29, 3) := by decide +kernel
theorem dX7_findRegrets_105 : decode cX7_findRegrets 105 = .ok (.iload_n 1, 1) := by decide +kernel
theorem dX7_findRegrets_106 : decode cX7_findRegrets 106 = .ok (.iaload, 1) := by decide +kernel
theorem dX7_findRegrets_107 : decode cX7_findRegrets 107 = .ok (.aload_n 0, 1) := by decide +kernel
theorem dX7_findRegrets_108 : decode cX7_findRegrets 108 = .ok (.getfield 32, 3) := by decide +kernel
theorem dX7_findRegrets_111 : decode cX7_findRegrets 111 = .ok (.iload_n 2, 1) := by decide +kernel
theorem dX7_findRegrets_112 : decode cX7_findRegrets 112 = .ok (.iaload, 1) := by decide +kernel
theorem dX7_findRegrets_113 : decode cX7_findRegrets 113 = .ok (.if_icmp .le 12, 3) := by decide +kernel
theorem dX7_findRegrets_116 : decode cX7_findRegrets 116 = .ok (.aload_n 0, 1) := by decide +kernel
theorem dX7_findRegrets_117 : decode cX7_findRegrets 117 = .ok (.getfield 29, 3) := by decide +kernel
theorem dX7_findRegrets_120 : decode cX7_findRegrets 120 = .ok (.iload_n 1, 1) := by decide +kernel
theorem dX7_findRegrets_121 : decode cX7_findRegrets 121 = .ok (.iaload, 1) := by decide +kernel
theorem dX7_findRegrets_122 : decode cX7_findRegrets 122 = .ok (.goto 9, 3) := by decide +kernel
theorem dX7_findRegrets_125 : decode cX7_findRegrets 125 = .ok (.aload_n 0, 1) := by decide +kernel
theorem dX7_findRegrets_126 : decode cX7_findRegrets 126 = .ok (.getfield 32, 3) := by decide +kernel
theorem dX7_findRegrets_129 : decode cX7_findRegrets 129 = .ok (.iload_n 2, 1) := by decide +kernel
theorem dX7_findRegrets_130 : decode cX7_findRegrets 130 = .ok (.iaload, 1) := by decide +kernel
theorem dX7_findRegrets_131 : decode cX7_findRegrets 131 = .ok (.iastore, 1) := by decide +kernel
theorem dX7_findRegrets_132 : decode cX7_findRegrets 132 = .ok (.iinc 1 (-1), 3) := by decide +kernel
theorem dX7_findRegrets_135 : decode cX7_findRegrets 135 = .ok (.goto (-98), 3) := by decide +kernel
theorem dX7_findRegrets_138 : decode cX7_findRegrets 138 = .ok (.return_, 1) := by decide +kernel
set_option maxRecDepth 20000 in
theorem ggX7_writeFault_X7_isMood : GoodIn wsX7_writeFault wsX7_isMood := goodIn_r _ [5, 6, 7, 4, 8] (by decide +kernel) (by decide +kernel)
set_option maxRecDepth 20000 in
theorem gX7_writeFault_X7_isMood : GoodIn wsX7_writeFault (va_wsS RX7 58 yX7_isMood wsX7_isMood) := goodIn_app (goodIn_of _ (by decide +kernel)) ggX7_writeFault_X7_isMood
set_option maxRecDepth 20000 in
theorem ggX7_writeFault_X7_isLetter : GoodIn wsX7_writeFault wsX7_isLetter := goodIn_r _ [12, 1, 6, 7, 4, 8, 20, 21, 22, 23, 24, 25, 26, 27, 28, 29, 30, 31, 32, 33, 34, 35] (by decide +kernel) (by decide +kernel)
set_option maxRecDepth 20000 in
theorem gX7_writeFault_X7_isLetter : GoodIn wsX7_writeFault (wsV RX7 61 RX7 yX7_isLetter wsX7_isLetter) := goodIn_app (goodIn_of _ (by decide +kernel)) ggX7_writeFault_X7_isLetter
set_option maxRecDepth 20000 in
theorem ggX7_writeFault_X7_in : GoodIn wsX7_writeFault wsX7_in := goodIn_r _ [8] (by decide +kernel) (by decide +kernel)
set_option maxRecDepth 20000 in
theorem gX7_writeFault_X7_in : GoodIn wsX7_writeFault (va_wsS RX7 39 yX7_in wsX7_in) := goodIn_app (goodIn_of _ (by decide +kernel)) ggX7_writeFault_X7_in
set_option maxRecDepth 20000 in
theorem ggX7_writeFault_X7_many : GoodIn wsX7_writeFault wsX7_many := goodIn_r _ [16, 1, 17, 18, 4, 19, 20, 21, 22, 23, 24, 25, 26, 27, 28, 29, 30, 31, 32, 33, 34, 35] (by decide +kernel) (by decide +kernel)
set_option maxRecDepth 20000 in
theorem gX7_writeFault_X7_many : GoodIn wsX7_writeFault (wsV RX7 64 RX7 yX7_many wsX7_many) := goodIn_app (goodIn_of _ (by decide +kernel)) ggX7_writeFault_X7_many
set_option maxRecDepth 20000 in
theorem ggX7_writeFault_X7_ofL : GoodIn wsX7_writeFault wsX7_ofL := goodIn_r _ [19] (by decide +kernel) (by decide +kernel)
set_option maxRecDepth 20000 in
theorem gX7_writeFault_X7_ofL : GoodIn wsX7_writeFault (va_wsS RX7 47 yX7_ofL wsX7_ofL) := goodIn_app (goodIn_of _ (by decide +kernel)) ggX7_writeFault_X7_ofL
theorem dX7_writeFault_0 : decode cX7_writeFault 0 = .ok (.iload_n 1, 1) := by decide +kernel
theorem dX7_writeFault_1 : decode cX7_writeFault 1 = .ok (.invokestatic 58, 3) := by decide +kernel
theorem dX7_writeFault_4 : decode cX7_writeFault 4 = .ok (.ifCond .eq 17, 3) := by decide +kernel
theorem dX7_writeFault_7 : decode cX7_writeFault 7 = .ok (.iload_n 3, 1) := by decide +kernel
theorem dX7_writeFault_8 : decode cX7_writeFault 8 = .ok (.bipush (-6), 2) := by decide +kernel
theorem dX7_writeFault_10 : decode cX7_writeFault 10 = .ok (.if_icmp .eq 13, 3) := by decide +kernel
theorem dX7_writeFault_13 : decode cX7_writeFault 13 = .ok (.aload_n 0, 1) := by decide +kernel
theorem dX7_writeFault_14 : decode cX7_writeFault 14 = .ok (.iload_n 3, 1) := by decide +kernel
theorem dX7_writeFault_15 : decode cX7_writeFault 15 = .ok (.invokevirtual 61, 3) := by decide +kernel
theorem dX7_writeFault_18 : decode cX7_writeFault 18 = .ok (.ifCond .ne 5, 3) := by decide +kernel
theorem dX7_writeFault_21 : decode cX7_writeFault 21 = .ok (.iconst (-1), 1) := by decide +kernel
theorem dX7_writeFault_22 : decode cX7_writeFault 22 = .ok (.ireturn, 1) := by decide +kernel
theorem dX7_writeFault_23 : decode cX7_writeFault 23 = .ok (.iload_n 2, 1) := by decide +kernel
theorem dX7_writeFault_24 : decode cX7_writeFault 24 = .ok (.iconst 0, 1) := by decide +kernel
theorem dX7_writeFault_25 : decode cX7_writeFault 25 = .ok (.bipush 99, 2) := by decide +kernel
theorem dX7_writeFault_27 : decode cX7_writeFault 27 = .ok (.invokestatic 39, 3) := by decide +kernel
theorem dX7_writeFault_30 : decode cX7_writeFault 30 = .ok (.ifCond .ne 6, 3) := by decide +kernel
theorem dX7_writeFault_33 : decode cX7_writeFault 33 = .ok (.bipush (-2), 2) := by decide +kernel
theorem dX7_writeFault_35 : decode cX7_writeFault 35 = .ok (.ireturn, 1) := by decide +kernel
theorem dX7_writeFault_36 : decode cX7_writeFault 36 = .ok (.aload_n 0, 1) := by decide +kernel
theorem dX7_writeFault_37 : decode cX7_writeFault 37 = .ok (.getfield 7, 3) := by decide +kernel
theorem dX7_writeFault_40 : decode cX7_writeFault 40 = .ok (.iconst 5, 1) := by decide +kernel
theorem dX7_writeFault_41 : decode cX7_writeFault 41 = .ok (.iaload, 1) := by decide +kernel
theorem dX7_writeFault_42 : decode cX7_writeFault 42 = .ok (.bipush 30, 2) := by decide +kernel
theorem dX7_writeFault_44 : decode cX7_writeFault 44 = .ok (.if_icmp .eq 14, 3) := by decide +kernel
theorem dX7_writeFault_47 : decode cX7_writeFault 47 = .ok (.aload_n 0, 1) := by decide +kernel
theorem dX7_writeFault_48 : decode cX7_writeFault 48 = .ok (.iload_n 1, 1) := by decide +kernel
theorem dX7_writeFault_49 : decode cX7_writeFault 49 = .ok (.iconst 0, 1) := by decide +kernel
theorem dX7_writeFault_50 : decode cX7_writeFault 50 = .ok (.invokevirtual 64, 3) := by decide +kernel
theorem dX7_writeFault_53 : decode cX7_writeFault 53 = .ok (.bipush 8, 2) := by decide +kernel
theorem dX7_writeFault_55 : decode cX7_writeFault 55 = .ok (.if_icmp .ne 6, 3) := by decide +kernel
theorem dX7_writeFault_58 : decode cX7_writeFault 58 = .ok (.bipush (-4), 2) := by decide +kernel
theorem dX7_writeFault_60 : decode cX7_writeFault 60 = .ok (.ireturn, 1) := by decide +kernel
theorem dX7_writeFault_61 : decode cX7_writeFault 61 = .ok (.iload_n 3, 1) := by decide +kernel
theorem dX7_writeFault_62 : decode cX7_writeFault 62 = .ok (.bipush (-6), 2) := by decide +kernel
theorem dX7_writeFault_64 : decode cX7_writeFault 64 = .ok (.if_icmp .eq 22, 3) := by decide +kernel
theorem dX7_writeFault_67 : decode cX7_writeFault 67 = .ok (.aload_n 0, 1) := by decide +kernel
theorem dX7_writeFault_68 : decode cX7_writeFault 68 = .ok (.getfield 7, 3) := by decide +kernel
theorem dX7_writeFault_71 : decode cX7_writeFault 71 = .ok (.iload_n 3, 1) := by decide +kernel
theorem dX7_writeFault_72 : decode cX7_writeFault 72 = .ok (.iconst 3, 1) := by decide +kernel
theorem dX7_writeFault_73 : decode cX7_writeFault 73 = .ok (.invokestatic 47, 3) := by decide +kernel
theorem dX7_writeFault_76 : decode cX7_writeFault 76 = .ok (.iaload, 1) := by decide +kernel
theorem dX7_writeFault_77 : decode cX7_writeFault 77 = .ok (.iconst 1, 1) := by decide +kernel
theorem dX7_writeFault_78 : decode cX7_writeFault 78 = .ok (.if_icmp .eq 8, 3) := by decide +kernel
theorem dX7_writeFault_81 : decode cX7_writeFault 81 = .ok (.bipush (-5), 2) := by decide +kernel
theorem dX7_writeFault_83 : decode cX7_writeFault 83 = .ok (.goto 4, 3) := by decide +kernel
theorem dX7_writeFault_86 : decode cX7_writeFault 86 = .ok (.iconst 0, 1) := by decide +kernel
theorem dX7_writeFault_87 : decode cX7_writeFault 87 = .ok (.ireturn, 1) := by decide +kernel
set_option maxRecDepth 20000 in
theorem ggX7_writes_X7_ofL : GoodIn wsX7_writes wsX7_ofL := goodIn_r _ [5] (by decide +kernel) (by decide +kernel)
set_option maxRecDepth 20000 in
theorem gX7_writes_X7_ofL : GoodIn wsX7_writes (va_wsS RX7 47 yX7_ofL wsX7_ofL) := goodIn_app (goodIn_of _ (by decide +kernel)) ggX7_writes_X7_ofL
theorem dX7_writes_0 : decode cX7_writes 0 = .ok (.aload_n 0, 1) := by decide +kernel
theorem dX7_writes_1 : decode cX7_writes 1 = .ok (.getfield 7, 3) := by decide +kernel
theorem dX7_writes_4 : decode cX7_writes 4 = .ok (.iconst 5, 1) := by decide +kernel
theorem dX7_writes_5 : decode cX7_writes 5 = .ok (.iaload, 1) := by decide +kernel
theorem dX7_writes_6 : decode cX7_writes 6 = .ok (.istore 4, 2) := by decide +kernel
theorem dX7_writes_8 : decode cX7_writes 8 = .ok (.aload_n 0, 1) := by decide +kernel
theorem dX7_writes_9 : decode cX7_writes 9 = .ok (.getfield 7, 3) := by decide +kernel
theorem dX7_writes_12 : decode cX7_writes 12 = .ok (.iload 4, 2) := by decide +kernel
theorem dX7_writes_14 : decode cX7_writes 14 = .ok (.iconst 0, 1) := by decide +kernel
theorem dX7_writes_15 : decode cX7_writes 15 = .ok (.invokestatic 47, 3) := by decide +kernel
theorem dX7_writes_18 : decode cX7_writes 18 = .ok (.iload_n 1, 1) := by decide +kernel
theorem dX7_writes_19 : decode cX7_writes 19 = .ok (.iastore, 1) := by decide +kernel
theorem dX7_writes_20 : decode cX7_writes 20 = .ok (.aload_n 0, 1) := by decide +kernel
theorem dX7_writes_21 : decode cX7_writes 21 = .ok (.getfield 7, 3) := by decide +kernel
theorem dX7_writes_24 : decode cX7_writes 24 = .ok (.iload 4, 2) := by decide +kernel
theorem dX7_writes_26 : decode cX7_writes 26 = .ok (.iconst 1, 1) := by decide +kernel
theorem dX7_writes_27 : decode cX7_writes 27 = .ok (.invokestatic 47, 3) := by decide +kernel
theorem dX7_writes_30 : decode cX7_writes 30 = .ok (.iload_n 2, 1) := by decide +kernel
theorem dX7_writes_31 : decode cX7_writes 31 = .ok (.iastore, 1) := by decide +kernel
theorem dX7_writes_32 : decode cX7_writes 32 = .ok (.aload_n 0, 1) := by decide +kernel
theorem dX7_writes_33 : decode cX7_writes 33 = .ok (.getfield 7, 3) := by decide +kernel
theorem dX7_writes_36 : decode cX7_writes 36 = .ok (.iload 4, 2) := by decide +kernel
theorem dX7_writes_38 : decode cX7_writes 38 = .ok (.iconst 2, 1) := by decide +kernel
theorem dX7_writes_39 : decode cX7_writes 39 = .ok (.invokestatic 47, 3) := by decide +kernel
theorem dX7_writes_42 : decode cX7_writes 42 = .ok (.aload_n 0, 1) := by decide +kernel
theorem dX7_writes_43 : decode cX7_writes 43 = .ok (.getfield 7, 3) := by decide +kernel
theorem dX7_writes_46 : decode cX7_writes 46 = .ok (.iconst 3, 1) := by decide +kernel
theorem dX7_writes_47 : decode cX7_writes 47 = .ok (.iaload, 1) := by decide +kernel
theorem dX7_writes_48 : decode cX7_writes 48 = .ok (.iastore, 1) := by decide +kernel
theorem dX7_writes_49 : decode cX7_writes 49 = .ok (.aload_n 0, 1) := by decide +kernel
theorem dX7_writes_50 : decode cX7_writes 50 = .ok (.getfield 7, 3) := by decide +kernel
theorem dX7_writes_53 : decode cX7_writes 53 = .ok (.iload 4, 2) := by decide +kernel
theorem dX7_writes_55 : decode cX7_writes 55 = .ok (.iconst 3, 1) := by decide +kernel
theorem dX7_writes_56 : decode cX7_writes 56 = .ok (.invokestatic 47, 3) := by decide +kernel
theorem dX7_writes_59 : decode cX7_writes 59 = .ok (.iconst 0, 1) := by decide +kernel
theorem dX7_writes_60 : decode cX7_writes 60 = .ok (.iastore, 1) := by decide +kernel
theorem dX7_writes_61 : decode cX7_writes 61 = .ok (.aload_n 0, 1) := by decide +kernel
theorem dX7_writes_62 : decode cX7_writes 62 = .ok (.getfield 7, 3) := by decide +kernel
theorem dX7_writes_65 : decode cX7_writes 65 = .ok (.iload 4, 2) := by decide +kernel
theorem dX7_writes_67 : decode cX7_writes 67 = .ok (.iconst 4, 1) := by decide +kernel
theorem dX7_writes_68 : decode cX7_writes 68 = .ok (.invokestatic 47, 3) := by decide +kernel
theorem dX7_writes_71 : decode cX7_writes 71 = .ok (.bipush (-6), 2) := by decide +kernel
theorem dX7_writes_73 : decode cX7_writes 73 = .ok (.iastore, 1) := by decide +kernel
theorem dX7_writes_74 : decode cX7_writes 74 = .ok (.aload_n 0, 1) := by decide +kernel
theorem dX7_writes_75 : decode cX7_writes 75 = .ok (.getfield 7, 3) := by decide +kernel
theorem dX7_writes_78 : decode cX7_writes 78 = .ok (.iload 4, 2) := by decide +kernel
theorem dX7_writes_80 : decode cX7_writes 80 = .ok (.iconst 5, 1) := by decide +kernel
theorem dX7_writes_81 : decode cX7_writes 81 = .ok (.invokestatic 47, 3) := by decide +kernel
theorem dX7_writes_84 : decode cX7_writes 84 = .ok (.iload_n 3, 1) := by decide +kernel
theorem dX7_writes_85 : decode cX7_writes 85 = .ok (.iastore, 1) := by decide +kernel
theorem dX7_writes_86 : decode cX7_writes 86 = .ok (.aload_n 0, 1) := by decide +kernel
theorem dX7_writes_87 : decode cX7_writes 87 = .ok (.getfield 7, 3) := by decide +kernel
theorem dX7_writes_90 : decode cX7_writes 90 = .ok (.iload 4, 2) := by decide +kernel
theorem dX7_writes_92 : decode cX7_writes 92 = .ok (.bipush 6, 2) := by decide +kernel
theorem dX7_writes_94 : decode cX7_writes 94 = .ok (.invokestatic 47, 3) := by decide +kernel
theorem dX7_writes_97 : decode cX7_writes 97 = .ok (.iconst 0, 1) := by decide +kernel
theorem dX7_writes_98 : decode cX7_writes 98 = .ok (.iastore, 1) := by decide +kernel
theorem dX7_writes_99 : decode cX7_writes 99 = .ok (.aload_n 0, 1) := by decide +kernel
theorem dX7_writes_100 : decode cX7_writes 100 = .ok (.getfield 7, 3) := by decide +kernel
theorem dX7_writes_103 : decode cX7_writes 103 = .ok (.iconst 5, 1) := by decide +kernel
theorem dX7_writes_104 : decode cX7_writes 104 = .ok (.dup2, 1) := by decide +kernel
theorem dX7_writes_105 : decode cX7_writes 105 = .ok (.iaload, 1) := by decide +kernel
theorem dX7_writes_106 : decode cX7_writes 106 = .ok (.iconst 1, 1) := by decide +kernel
theorem dX7_writes_107 : decode cX7_writes 107 = .ok (.iadd, 1) := by decide +kernel
theorem dX7_writes_108 : decode cX7_writes 108 = .ok (.iastore, 1) := by decide +kernel
theorem dX7_writes_109 : decode cX7_writes 109 = .ok (.iload 4, 2) := by decide +kernel
theorem dX7_writes_111 : decode cX7_writes 111 = .ok (.ireturn, 1) := by decide +kernel
set_option maxRecDepth 20000 in
theorem ggX7_turns_X7_ofD : GoodIn wsX7_turns wsX7_ofD := goodIn_r _ [5] (by decide +kernel) (by decide +kernel)
set_option maxRecDepth 20000 in
theorem gX7_turns_X7_ofD : GoodIn wsX7_turns (va_wsS RX7 35 yX7_ofD wsX7_ofD) := goodIn_app (goodIn_of _ (by decide +kernel)) ggX7_turns_X7_ofD
theorem dX7_turns_0 : decode cX7_turns 0 = .ok (.aload_n 0, 1) := by decide +kernel
theorem dX7_turns_1 : decode cX7_turns 1 = .ok (.getfield 7, 3) := by decide +kernel
theorem dX7_turns_4 : decode cX7_turns 4 = .ok (.iload_n 1, 1) := by decide +kernel
theorem dX7_turns_5 : decode cX7_turns 5 = .ok (.iconst 0, 1) := by decide +kernel
theorem dX7_turns_6 : decode cX7_turns 6 = .ok (.invokestatic 35, 3) := by decide +kernel
theorem dX7_turns_9 : decode cX7_turns 9 = .ok (.iconst 1, 1) := by decide +kernel
theorem dX7_turns_10 : decode cX7_turns 10 = .ok (.aload_n 0, 1) := by decide +kernel
theorem dX7_turns_11 : decode cX7_turns 11 = .ok (.getfield 7, 3) := by decide +kernel
theorem dX7_turns_14 : decode cX7_turns 14 = .ok (.iload_n 1, 1) := by decide +kernel
theorem dX7_turns_15 : decode cX7_turns 15 = .ok (.iconst 0, 1) := by decide +kernel
theorem dX7_turns_16 : decode cX7_turns 16 = .ok (.invokestatic 35, 3) := by decide +kernel
theorem dX7_turns_19 : decode cX7_turns 19 = .ok (.iaload, 1) := by decide +kernel
theorem dX7_turns_20 : decode cX7_turns 20 = .ok (.isub, 1) := by decide +kernel
theorem dX7_turns_21 : decode cX7_turns 21 = .ok (.iastore, 1) := by decide +kernel
theorem dX7_turns_22 : decode cX7_turns 22 = .ok (.aload_n 0, 1) := by decide +kernel
theorem dX7_turns_23 : decode cX7_turns 23 = .ok (.getfield 7, 3) := by decide +kernel
theorem dX7_turns_26 : decode cX7_turns 26 = .ok (.iload_n 1, 1) := by decide +kernel
theorem dX7_turns_27 : decode cX7_turns 27 = .ok (.iconst 0, 1) := by decide +kernel
theorem dX7_turns_28 : decode cX7_turns 28 = .ok (.invokestatic 35, 3) := by decide +kernel
theorem dX7_turns_31 : decode cX7_turns 31 = .ok (.iaload, 1) := by decide +kernel
theorem dX7_turns_32 : decode cX7_turns 32 = .ok (.ireturn, 1) := by decide +kernel
set_option maxRecDepth 20000 in
theorem ggX7_hoursFault_X7_isMood : GoodIn wsX7_hoursFault wsX7_isMood := goodIn_r _ [4, 5, 6, 3, 7] (by decide +kernel) (by decide +kernel)
set_option maxRecDepth 20000 in
theorem gX7_hoursFault_X7_isMood : GoodIn wsX7_hoursFault (va_wsS RX7 58 yX7_isMood wsX7_isMood) := goodIn_app (goodIn_of _ (by decide +kernel)) ggX7_hoursFault_X7_isMood
set_option maxRecDepth 20000 in
theorem ggX7_hoursFault_X7_in : GoodIn wsX7_hoursFault wsX7_in := goodIn_r _ [7] (by decide +kernel) (by decide +kernel)
set_option maxRecDepth 20000 in
theorem gX7_hoursFault_X7_in : GoodIn wsX7_hoursFault (va_wsS RX7 39 yX7_in wsX7_in) := goodIn_app (goodIn_of _ (by decide +kernel)) ggX7_hoursFault_X7_in
theorem dX7_hoursFault_0 : decode cX7_hoursFault 0 = .ok (.iload_n 1, 1) := by decide +kernel
theorem dX7_hoursFault_1 : decode cX7_hoursFault 1 = .ok (.invokestatic 58, 3) := by decide +kernel
theorem dX7_hoursFault_4 : decode cX7_hoursFault 4 = .ok (.ifCond .ne 5, 3) := by decide +kernel
theorem dX7_hoursFault_7 : decode cX7_hoursFault 7 = .ok (.iconst (-1), 1) := by decide +kernel
theorem dX7_hoursFault_8 : decode cX7_hoursFault 8 = .ok (.ireturn, 1) := by decide +kernel
theorem dX7_hoursFault_9 : decode cX7_hoursFault 9 = .ok (.iload_n 2, 1) := by decide +kernel
theorem dX7_hoursFault_10 : decode cX7_hoursFault 10 = .ok (.bipush (-6), 2) := by decide +kernel
theorem dX7_hoursFault_12 : decode cX7_hoursFault 12 = .ok (.if_icmp .eq 28, 3) := by decide +kernel
theorem dX7_hoursFault_15 : decode cX7_hoursFault 15 = .ok (.iload_n 2, 1) := by decide +kernel
theorem dX7_hoursFault_16 : decode cX7_hoursFault 16 = .ok (.iconst 0, 1) := by decide +kernel
theorem dX7_hoursFault_17 : decode cX7_hoursFault 17 = .ok (.bipush 23, 2) := by decide +kernel
theorem dX7_hoursFault_19 : decode cX7_hoursFault 19 = .ok (.invokestatic 39, 3) := by decide +kernel
theorem dX7_hoursFault_22 : decode cX7_hoursFault 22 = .ok (.ifCond .eq 22, 3) := by decide +kernel
theorem dX7_hoursFault_25 : decode cX7_hoursFault 25 = .ok (.iload_n 3, 1) := by decide +kernel
theorem dX7_hoursFault_26 : decode cX7_hoursFault 26 = .ok (.iconst 0, 1) := by decide +kernel
theorem dX7_hoursFault_27 : decode cX7_hoursFault 27 = .ok (.bipush 23, 2) := by decide +kernel
theorem dX7_hoursFault_29 : decode cX7_hoursFault 29 = .ok (.invokestatic 39, 3) := by decide +kernel
theorem dX7_hoursFault_32 : decode cX7_hoursFault 32 = .ok (.ifCond .eq 12, 3) := by decide +kernel
theorem dX7_hoursFault_35 : decode cX7_hoursFault 35 = .ok (.iload_n 2, 1) := by decide +kernel
theorem dX7_hoursFault_36 : decode cX7_hoursFault 36 = .ok (.iload_n 3, 1) := by decide +kernel
theorem dX7_hoursFault_37 : decode cX7_hoursFault 37 = .ok (.if_icmp .eq 7, 3) := by decide +kernel
theorem dX7_hoursFault_40 : decode cX7_hoursFault 40 = .ok (.iconst 0, 1) := by decide +kernel
theorem dX7_hoursFault_41 : decode cX7_hoursFault 41 = .ok (.goto 5, 3) := by decide +kernel
theorem dX7_hoursFault_44 : decode cX7_hoursFault 44 = .ok (.bipush (-2), 2) := by decide +kernel
theorem dX7_hoursFault_46 : decode cX7_hoursFault 46 = .ok (.ireturn, 1) := by decide +kernel
set_option maxRecDepth 20000 in
theorem ggX7_putsHours_X7_ofD : GoodIn wsX7_putsHours wsX7_ofD := goodIn_r _ [5] (by decide +kernel) (by decide +kernel)
set_option maxRecDepth 20000 in
theorem gX7_putsHours_X7_ofD : GoodIn wsX7_putsHours (va_wsS RX7 35 yX7_ofD wsX7_ofD) := goodIn_app (goodIn_of _ (by decide +kernel)) ggX7_putsHours_X7_ofD
theorem dX7_putsHours_0 : decode cX7_putsHours 0 = .ok (.aload_n 0, 1) := by decide +kernel
theorem dX7_putsHours_1 : decode cX7_putsHours 1 = .ok (.getfield 7, 3) := by decide +kernel
theorem dX7_putsHours_4 : decode cX7_putsHours 4 = .ok (.iload_n 1, 1) := by decide +kernel
theorem dX7_putsHours_5 : decode cX7_putsHours 5 = .ok (.iconst 2, 1) := by decide +kernel
theorem dX7_putsHours_6 : decode cX7_putsHours 6 = .ok (.invokestatic 35, 3) := by decide +kernel
theorem dX7_putsHours_9 : decode cX7_putsHours 9 = .ok (.iaload, 1) := by decide +kernel
theorem dX7_putsHours_10 : decode cX7_putsHours 10 = .ok (.bipush (-6), 2) := by decide +kernel
theorem dX7_putsHours_12 : decode cX7_putsHours 12 = .ok (.if_icmp .ne 7, 3) := by decide +kernel
theorem dX7_putsHours_15 : decode cX7_putsHours 15 = .ok (.iconst 0, 1) := by decide +kernel
theorem dX7_putsHours_16 : decode cX7_putsHours 16 = .ok (.goto 4, 3) := by decide +kernel
theorem dX7_putsHours_19 : decode cX7_putsHours 19 = .ok (.iconst 1, 1) := by decide +kernel
theorem dX7_putsHours_20 : decode cX7_putsHours 20 = .ok (.istore 4, 2) := by decide +kernel
theorem dX7_putsHours_22 : decode cX7_putsHours 22 = .ok (.aload_n 0, 1) := by decide +kernel
theorem dX7_putsHours_23 : decode cX7_putsHours 23 = .ok (.getfield 7, 3) := by decide +kernel
theorem dX7_putsHours_26 : decode cX7_putsHours 26 = .ok (.iload_n 1, 1) := by decide +kernel
theorem dX7_putsHours_27 : decode cX7_putsHours 27 = .ok (.iconst 2, 1) := by decide +kernel
theorem dX7_putsHours_28 : decode cX7_putsHours 28 = .ok (.invokestatic 35, 3) := by decide +kernel
theorem dX7_putsHours_31 : decode cX7_putsHours 31 = .ok (.iload_n 2, 1) := by decide +kernel
theorem dX7_putsHours_32 : decode cX7_putsHours 32 = .ok (.iastore, 1) := by decide +kernel
theorem dX7_putsHours_33 : decode cX7_putsHours 33 = .ok (.aload_n 0, 1) := by decide +kernel
theorem dX7_putsHours_34 : decode cX7_putsHours 34 = .ok (.getfield 7, 3) := by decide +kernel
theorem dX7_putsHours_37 : decode cX7_putsHours 37 = .ok (.iload_n 1, 1) := by decide +kernel
theorem dX7_putsHours_38 : decode cX7_putsHours 38 = .ok (.iconst 3, 1) := by decide +kernel
theorem dX7_putsHours_39 : decode cX7_putsHours 39 = .ok (.invokestatic 35, 3) := by decide +kernel
theorem dX7_putsHours_42 : decode cX7_putsHours 42 = .ok (.iload_n 2, 1) := by decide +kernel
theorem dX7_putsHours_43 : decode cX7_putsHours 43 = .ok (.bipush (-6), 2) := by decide +kernel
theorem dX7_putsHours_45 : decode cX7_putsHours 45 = .ok (.if_icmp .ne 8, 3) := by decide +kernel
theorem dX7_putsHours_48 : decode cX7_putsHours 48 = .ok (.bipush (-6), 2) := by decide +kernel
theorem dX7_putsHours_50 : decode cX7_putsHours 50 = .ok (.goto 4, 3) := by decide +kernel
theorem dX7_putsHours_53 : decode cX7_putsHours 53 = .ok (.iload_n 3, 1) := by decide +kernel
theorem dX7_putsHours_54 : decode cX7_putsHours 54 = .ok (.iastore, 1) := by decide +kernel
theorem dX7_putsHours_55 : decode cX7_putsHours 55 = .ok (.iload 4, 2) := by decide +kernel
theorem dX7_putsHours_57 : decode cX7_putsHours 57 = .ok (.ireturn, 1) := by decide +kernel
set_option maxRecDepth 20000 in
theorem ggX7_burnFault_X7_isLetter : GoodIn wsX7_burnFault wsX7_isLetter := goodIn_r _ [6, 1, 7, 8, 5, 9, 16, 17, 18, 19, 20, 21, 22, 23, 24, 25, 26, 27, 28, 29, 30, 31] (by decide +kernel) (by decide +kernel)
set_option maxRecDepth 20000 in
theorem gX7_burnFault_X7_isLetter : GoodIn wsX7_burnFault (wsV RX7 61 RX7 yX7_isLetter wsX7_isLetter) := goodIn_app (goodIn_of _ (by decide +kernel)) ggX7_burnFault_X7_isLetter
set_option maxRecDepth 20000 in
theorem ggX7_burnFault_X7_ofL : GoodIn wsX7_burnFault wsX7_ofL := goodIn_r _ [12] (by decide +kernel) (by decide +kernel)
set_option maxRecDepth 20000 in
theorem gX7_burnFault_X7_ofL : GoodIn wsX7_burnFault (va_wsS RX7 47 yX7_ofL wsX7_ofL) := goodIn_app (goodIn_of _ (by decide +kernel)) ggX7_burnFault_X7_ofL
set_option maxRecDepth 20000 in
theorem ggX7_burnFault_X7_ofD : GoodIn wsX7_burnFault wsX7_ofD := goodIn_r _ [15] (by decide +kernel) (by decide +kernel)
set_option maxRecDepth 20000 in
theorem gX7_burnFault_X7_ofD : GoodIn wsX7_burnFault (va_wsS RX7 35 yX7_ofD wsX7_ofD) := goodIn_app (goodIn_of _ (by decide +kernel)) ggX7_burnFault_X7_ofD
theorem dX7_burnFault_0 : decode cX7_burnFault 0 = .ok (.aload_n 0, 1) := by decide +kernel
theorem dX7_burnFault_1 : decode cX7_burnFault 1 = .ok (.iload_n 1, 1) := by decide +kernel
theorem dX7_burnFault_2 : decode cX7_burnFault 2 = .ok (.invokevirtual 61, 3) := by decide +kernel
theorem dX7_burnFault_5 : decode cX7_burnFault 5 = .ok (.ifCond .ne 7, 3) := by decide +kernel
theorem dX7_burnFault_8 : decode cX7_burnFault 8 = .ok (.iconst (-1), 1) := by decide +kernel
theorem dX7_burnFault_9 : decode cX7_burnFault 9 = .ok (.goto 45, 3) := by decide +kernel
theorem dX7_burnFault_12 : decode cX7_burnFault 12 = .ok (.aload_n 0, 1) := by decide +kernel
theorem dX7_burnFault_13 : decode cX7_burnFault 13 = .ok (.getfield 7, 3) := by decide +kernel
theorem dX7_burnFault_16 : decode cX7_burnFault 16 = .ok (.iload_n 1, 1) := by decide +kernel
theorem dX7_burnFault_17 : decode cX7_burnFault 17 = .ok (.iconst 3, 1) := by decide +kernel
theorem dX7_burnFault_18 : decode cX7_burnFault 18 = .ok (.invokestatic 47, 3) := by decide +kernel
theorem dX7_burnFault_21 : decode cX7_burnFault 21 = .ok (.iaload, 1) := by decide +kernel
theorem dX7_burnFault_22 : decode cX7_burnFault 22 = .ok (.ifCond .ne 26, 3) := by decide +kernel
theorem dX7_burnFault_25 : decode cX7_burnFault 25 = .ok (.aload_n 0, 1) := by decide +kernel
theorem dX7_burnFault_26 : decode cX7_burnFault 26 = .ok (.getfield 7, 3) := by decide +kernel
theorem dX7_burnFault_29 : decode cX7_burnFault 29 = .ok (.aload_n 0, 1) := by decide +kernel
theorem dX7_burnFault_30 : decode cX7_burnFault 30 = .ok (.getfield 7, 3) := by decide +kernel
theorem dX7_burnFault_33 : decode cX7_burnFault 33 = .ok (.iload_n 1, 1) := by decide +kernel
theorem dX7_burnFault_34 : decode cX7_burnFault 34 = .ok (.iconst 0, 1) := by decide +kernel
theorem dX7_burnFault_35 : decode cX7_burnFault 35 = .ok (.invokestatic 47, 3) := by decide +kernel
theorem dX7_burnFault_38 : decode cX7_burnFault 38 = .ok (.iaload, 1) := by decide +kernel
theorem dX7_burnFault_39 : decode cX7_burnFault 39 = .ok (.iconst 0, 1) := by decide +kernel
theorem dX7_burnFault_40 : decode cX7_burnFault 40 = .ok (.invokestatic 35, 3) := by decide +kernel
theorem dX7_burnFault_43 : decode cX7_burnFault 43 = .ok (.iaload, 1) := by decide +kernel
theorem dX7_burnFault_44 : decode cX7_burnFault 44 = .ok (.iconst 1, 1) := by decide +kernel
theorem dX7_burnFault_45 : decode cX7_burnFault 45 = .ok (.if_icmp .ne 8, 3) := by decide +kernel
theorem dX7_burnFault_48 : decode cX7_burnFault 48 = .ok (.bipush (-5), 2) := by decide +kernel
theorem dX7_burnFault_50 : decode cX7_burnFault 50 = .ok (.goto 4, 3) := by decide +kernel
theorem dX7_burnFault_53 : decode cX7_burnFault 53 = .ok (.iconst 0, 1) := by decide +kernel
theorem dX7_burnFault_54 : decode cX7_burnFault 54 = .ok (.ireturn, 1) := by decide +kernel
set_option maxRecDepth 20000 in
theorem ggX7_burns_X7_ofL : GoodIn wsX7_burns wsX7_ofL := goodIn_r _ [5] (by decide +kernel) (by decide +kernel)
set_option maxRecDepth 20000 in
theorem gX7_burns_X7_ofL : GoodIn wsX7_burns (va_wsS RX7 47 yX7_ofL wsX7_ofL) := goodIn_app (goodIn_of _ (by decide +kernel)) ggX7_burns_X7_ofL
set_option maxRecDepth 20000 in
theorem ggX7_burns_X7_heat : GoodIn wsX7_burns wsX7_heat := goodIn_r _ [9, 1, 2, 3, 4, 5, 10, 11, 12, 13, 14, 15, 16, 17, 18, 19, 20, 21, 22, 23, 24, 25] (by decide +kernel) (by decide +kernel)
set_option maxRecDepth 20000 in
theorem gX7_burns_X7_heat : GoodIn wsX7_burns (wsV RX7 50 RX7 yX7_heat wsX7_heat) := goodIn_app (goodIn_of _ (by decide +kernel)) ggX7_burns_X7_heat
theorem dX7_burns_0 : decode cX7_burns 0 = .ok (.aload_n 0, 1) := by decide +kernel
theorem dX7_burns_1 : decode cX7_burns 1 = .ok (.getfield 7, 3) := by decide +kernel
theorem dX7_burns_4 : decode cX7_burns 4 = .ok (.iload_n 1, 1) := by decide +kernel
theorem dX7_burns_5 : decode cX7_burns 5 = .ok (.iconst 3, 1) := by decide +kernel
theorem dX7_burns_6 : decode cX7_burns 6 = .ok (.invokestatic 47, 3) := by decide +kernel
