theorem dX0_init_0 : decode cX0_init 0 = .ok (.aload_n 0, 1) := by decide +kernel
theorem dX0_init_1 : decode cX0_init 1 = .ok (.invokespecial 3, 3) := by decide +kernel
theorem dX0_init_4 : decode cX0_init 4 = .ok (.aload_n 0, 1) := by decide +kernel
theorem dX0_init_5 : decode cX0_init 5 = .ok (.iconst 3, 1) := by decide +kernel
theorem dX0_init_6 : decode cX0_init 6 = .ok (.newarray .int, 2) := by decide +kernel
theorem dX0_init_8 : decode cX0_init 8 = .ok (.dup, 1) := by decide +kernel
theorem dX0_init_9 : decode cX0_init 9 = .ok (.iconst 0, 1) := by decide +kernel
theorem dX0_init_10 : decode cX0_init 10 = .ok (.bipush 17, 2) := by decide +kernel
theorem dX0_init_12 : decode cX0_init 12 = .ok (.iastore, 1) := by decide +kernel
theorem dX0_init_13 : decode cX0_init 13 = .ok (.dup, 1) := by decide +kernel
theorem dX0_init_14 : decode cX0_init 14 = .ok (.iconst 1, 1) := by decide +kernel
theorem dX0_init_15 : decode cX0_init 15 = .ok (.bipush 30, 2) := by decide +kernel
theorem dX0_init_17 : decode cX0_init 17 = .ok (.iastore, 1) := by decide +kernel
theorem dX0_init_18 : decode cX0_init 18 = .ok (.dup, 1) := by decide +kernel
theorem dX0_init_19 : decode cX0_init 19 = .ok (.iconst 2, 1) := by decide +kernel
theorem dX0_init_20 : decode cX0_init 20 = .ok (.iconst 5, 1) := by decide +kernel
theorem dX0_init_21 : decode cX0_init 21 = .ok (.iastore, 1) := by decide +kernel
theorem dX0_init_22 : decode cX0_init 22 = .ok (.putfield 9, 3) := by decide +kernel
theorem dX0_init_25 : decode cX0_init 25 = .ok (.aload_n 0, 1) := by decide +kernel
theorem dX0_init_26 : decode cX0_init 26 = .ok (.new 15, 3) := by decide +kernel
theorem dX0_init_29 : decode cX0_init 29 = .ok (.dup, 1) := by decide +kernel
theorem dX0_init_30 : decode cX0_init 30 = .ok (.invokespecial 17, 3) := by decide +kernel
theorem dX0_init_33 : decode cX0_init 33 = .ok (.putfield 18, 3) := by decide +kernel
theorem dX0_init_36 : decode cX0_init 36 = .ok (.aload_n 0, 1) := by decide +kernel
theorem dX0_init_37 : decode cX0_init 37 = .ok (.new 22, 3) := by decide +kernel
theorem dX0_init_40 : decode cX0_init 40 = .ok (.dup, 1) := by decide +kernel
theorem dX0_init_41 : decode cX0_init 41 = .ok (.invokespecial 24, 3) := by decide +kernel
theorem dX0_init_44 : decode cX0_init 44 = .ok (.putfield 25, 3) := by decide +kernel
theorem dX0_init_47 : decode cX0_init 47 = .ok (.return_, 1) := by decide +kernel
set_option maxRecDepth 20000 in
theorem ggX0_copyFrom_X6_copy : GoodIn wsX0_copyFrom wsX6_copy := goodIn_r _ [7, 8, 9, 10, 11, 12, 13, 14, 15] (by decide +kernel) (by decide +kernel)
set_option maxRecDepth 20000 in
theorem gX0_copyFrom_X6_copy_n29 : GoodIn wsX0_copyFrom (wsX6_copy) := ggX0_copyFrom_X6_copy
set_option maxRecDepth 20000 in
theorem ggX0_copyFrom_X1_copyFrom : GoodIn wsX0_copyFrom wsX1_copyFrom := goodIn_r _ [20, 21, 22, 23, 24, 5, 6, 7, 8, 9, 10, 11, 12, 13, 14, 15, 42, 43, 44, 45] (by decide +kernel) (by decide +kernel)
set_option maxRecDepth 20000 in
theorem gX0_copyFrom_X1_copyFrom : GoodIn wsX0_copyFrom (wsV RX0 37 RX1 yX1_copyFrom wsX1_copyFrom) := goodIn_app (goodIn_of _ (by decide +kernel)) ggX0_copyFrom_X1_copyFrom
set_option maxRecDepth 20000 in
theorem ggX0_copyFrom_X3_copyFrom : GoodIn wsX0_copyFrom wsX3_copyFrom := goodIn_r _ [29, 30, 31, 32, 33, 34, 35, 36, 37, 5, 6, 7, 8, 9, 10, 11, 12, 13, 14, 15, 46, 47, 48, 49, 50, 51, 52, 53] (by decide +kernel) (by decide +kernel)
set_option maxRecDepth 20000 in
theorem gX0_copyFrom_X3_copyFrom : GoodIn wsX0_copyFrom (wsV RX0 41 RX3 yX3_copyFrom wsX3_copyFrom) := goodIn_app (goodIn_of _ (by decide +kernel)) ggX0_copyFrom_X3_copyFrom
theorem dX0_copyFrom_0 : decode cX0_copyFrom 0 = .ok (.aload_n 1, 1) := by decide +kernel
theorem dX0_copyFrom_1 : decode cX0_copyFrom 1 = .ok (.getfield 9, 3) := by decide +kernel
theorem dX0_copyFrom_4 : decode cX0_copyFrom 4 = .ok (.aload_n 0, 1) := by decide +kernel
theorem dX0_copyFrom_5 : decode cX0_copyFrom 5 = .ok (.getfield 9, 3) := by decide +kernel
theorem dX0_copyFrom_8 : decode cX0_copyFrom 8 = .ok (.invokestatic 29, 3) := by decide +kernel
theorem dX0_copyFrom_11 : decode cX0_copyFrom 11 = .ok (.aload_n 0, 1) := by decide +kernel
theorem dX0_copyFrom_12 : decode cX0_copyFrom 12 = .ok (.aload_n 1, 1) := by decide +kernel
theorem dX0_copyFrom_13 : decode cX0_copyFrom 13 = .ok (.getfield 33, 3) := by decide +kernel
theorem dX0_copyFrom_16 : decode cX0_copyFrom 16 = .ok (.putfield 33, 3) := by decide +kernel
theorem dX0_copyFrom_19 : decode cX0_copyFrom 19 = .ok (.aload_n 0, 1) := by decide +kernel
theorem dX0_copyFrom_20 : decode cX0_copyFrom 20 = .ok (.getfield 18, 3) := by decide +kernel
theorem dX0_copyFrom_23 : decode cX0_copyFrom 23 = .ok (.aload_n 1, 1) := by decide +kernel
theorem dX0_copyFrom_24 : decode cX0_copyFrom 24 = .ok (.getfield 18, 3) := by decide +kernel
theorem dX0_copyFrom_27 : decode cX0_copyFrom 27 = .ok (.invokevirtual 37, 3) := by decide +kernel
theorem dX0_copyFrom_30 : decode cX0_copyFrom 30 = .ok (.aload_n 0, 1) := by decide +kernel
theorem dX0_copyFrom_31 : decode cX0_copyFrom 31 = .ok (.getfield 25, 3) := by decide +kernel
theorem dX0_copyFrom_34 : decode cX0_copyFrom 34 = .ok (.aload_n 1, 1) := by decide +kernel
theorem dX0_copyFrom_35 : decode cX0_copyFrom 35 = .ok (.getfield 25, 3) := by decide +kernel
theorem dX0_copyFrom_38 : decode cX0_copyFrom 38 = .ok (.invokevirtual 41, 3) := by decide +kernel
theorem dX0_copyFrom_41 : decode cX0_copyFrom 41 = .ok (.return_, 1) := by decide +kernel
theorem dX0_today_0 : decode cX0_today 0 = .ok (.aload_n 0, 1) := by decide +kernel
theorem dX0_today_1 : decode cX0_today 1 = .ok (.getfield 33, 3) := by decide +kernel
theorem dX0_today_4 : decode cX0_today 4 = .ok (.bipush 24, 2) := by decide +kernel
theorem dX0_today_6 : decode cX0_today 6 = .ok (.idiv, 1) := by decide +kernel
theorem dX0_today_7 : decode cX0_today 7 = .ok (.ireturn, 1) := by decide +kernel
theorem dX0_hourOfDay_0 : decode cX0_hourOfDay 0 = .ok (.aload_n 0, 1) := by decide +kernel
theorem dX0_hourOfDay_1 : decode cX0_hourOfDay 1 = .ok (.getfield 33, 3) := by decide +kernel
theorem dX0_hourOfDay_4 : decode cX0_hourOfDay 4 = .ok (.bipush 24, 2) := by decide +kernel
theorem dX0_hourOfDay_6 : decode cX0_hourOfDay 6 = .ok (.irem, 1) := by decide +kernel
theorem dX0_hourOfDay_7 : decode cX0_hourOfDay 7 = .ok (.ireturn, 1) := by decide +kernel
theorem dX0_changeSetting_0 : decode cX0_changeSetting 0 = .ok (.iload_n 1, 1) := by decide +kernel
theorem dX0_changeSetting_1 : decode cX0_changeSetting 1 = .ok (.ifCond .lt 21, 3) := by decide +kernel
theorem dX0_changeSetting_4 : decode cX0_changeSetting 4 = .ok (.iload_n 1, 1) := by decide +kernel
theorem dX0_changeSetting_5 : decode cX0_changeSetting 5 = .ok (.iconst 2, 1) := by decide +kernel
theorem dX0_changeSetting_6 : decode cX0_changeSetting 6 = .ok (.if_icmp .gt 16, 3) := by decide +kernel
theorem dX0_changeSetting_9 : decode cX0_changeSetting 9 = .ok (.iload_n 2, 1) := by decide +kernel
theorem dX0_changeSetting_10 : decode cX0_changeSetting 10 = .ok (.ifCond .lt 12, 3) := by decide +kernel
theorem dX0_changeSetting_13 : decode cX0_changeSetting 13 = .ok (.iload_n 2, 1) := by decide +kernel
theorem dX0_changeSetting_14 : decode cX0_changeSetting 14 = .ok (.getstatic 44, 3) := by decide +kernel
theorem dX0_changeSetting_17 : decode cX0_changeSetting 17 = .ok (.iload_n 1, 1) := by decide +kernel
theorem dX0_changeSetting_18 : decode cX0_changeSetting 18 = .ok (.iaload, 1) := by decide +kernel
theorem dX0_changeSetting_19 : decode cX0_changeSetting 19 = .ok (.if_icmp .le 6, 3) := by decide +kernel
theorem dX0_changeSetting_22 : decode cX0_changeSetting 22 = .ok (.bipush (-2), 2) := by decide +kernel
theorem dX0_changeSetting_24 : decode cX0_changeSetting 24 = .ok (.ireturn, 1) := by decide +kernel
theorem dX0_changeSetting_25 : decode cX0_changeSetting 25 = .ok (.aload_n 0, 1) := by decide +kernel
theorem dX0_changeSetting_26 : decode cX0_changeSetting 26 = .ok (.getfield 9, 3) := by decide +kernel
theorem dX0_changeSetting_29 : decode cX0_changeSetting 29 = .ok (.iload_n 1, 1) := by decide +kernel
theorem dX0_changeSetting_30 : decode cX0_changeSetting 30 = .ok (.iaload, 1) := by decide +kernel
theorem dX0_changeSetting_31 : decode cX0_changeSetting 31 = .ok (.istore_n 3, 1) := by decide +kernel
theorem dX0_changeSetting_32 : decode cX0_changeSetting 32 = .ok (.aload_n 0, 1) := by decide +kernel
theorem dX0_changeSetting_33 : decode cX0_changeSetting 33 = .ok (.getfield 9, 3) := by decide +kernel
theorem dX0_changeSetting_36 : decode cX0_changeSetting 36 = .ok (.iload_n 1, 1) := by decide +kernel
theorem dX0_changeSetting_37 : decode cX0_changeSetting 37 = .ok (.iload_n 2, 1) := by decide +kernel
theorem dX0_changeSetting_38 : decode cX0_changeSetting 38 = .ok (.iastore, 1) := by decide +kernel
theorem dX0_changeSetting_39 : decode cX0_changeSetting 39 = .ok (.iload_n 3, 1) := by decide +kernel
theorem dX0_changeSetting_40 : decode cX0_changeSetting 40 = .ok (.ireturn, 1) := by decide +kernel
set_option maxRecDepth 20000 in
theorem ggX0_writeLetter_X6_isMood : GoodIn wsX0_writeLetter wsX6_isMood := goodIn_r _ [11] (by decide +kernel) (by decide +kernel)
set_option maxRecDepth 20000 in
theorem gX0_writeLetter_X6_isMood_n47 : GoodIn wsX0_writeLetter (wsX6_isMood) := ggX0_writeLetter_X6_isMood
set_option maxRecDepth 20000 in
theorem ggX0_writeLetter_X3_isLetter : GoodIn wsX0_writeLetter wsX3_isLetter := goodIn_r _ [16, 17, 34, 35, 36, 37, 38, 39, 40, 41] (by decide +kernel) (by decide +kernel)
set_option maxRecDepth 20000 in
theorem gX0_writeLetter_X3_isLetter : GoodIn wsX0_writeLetter (wsV RX0 51 RX3 yX3_isLetter wsX3_isLetter) := goodIn_app (goodIn_of _ (by decide +kernel)) ggX0_writeLetter_X3_isLetter
set_option maxRecDepth 20000 in
theorem ggX0_writeLetter_X3_ofMood : GoodIn wsX0_writeLetter wsX3_ofMood := goodIn_r _ [21, 17, 22, 23, 34, 35, 36, 37, 38, 39, 40, 41] (by decide +kernel) (by decide +kernel)
set_option maxRecDepth 20000 in
theorem gX0_writeLetter_X3_ofMood : GoodIn wsX0_writeLetter (wsV RX0 57 RX3 yX3_ofMood wsX3_ofMood) := goodIn_app (goodIn_of _ (by decide +kernel)) ggX0_writeLetter_X3_ofMood
set_option maxRecDepth 20000 in
theorem ggX0_writeLetter_X0_today : GoodIn wsX0_writeLetter wsX0_today := goodIn_r _ [28, 29, 30, 31, 32, 33] (by decide +kernel) (by decide +kernel)
set_option maxRecDepth 20000 in
theorem gX0_writeLetter_X0_today : GoodIn wsX0_writeLetter (wsV RX0 73 RX0 yX0_today wsX0_today) := goodIn_app (goodIn_of _ (by decide +kernel)) ggX0_writeLetter_X0_today
theorem dX0_writeLetter_0 : decode cX0_writeLetter 0 = .ok (.iload_n 1, 1) := by decide +kernel
theorem dX0_writeLetter_1 : decode cX0_writeLetter 1 = .ok (.invokestatic 47, 3) := by decide +kernel
theorem dX0_writeLetter_4 : decode cX0_writeLetter 4 = .ok (.ifCond .eq 20, 3) := by decide +kernel
theorem dX0_writeLetter_7 : decode cX0_writeLetter 7 = .ok (.iload_n 3, 1) := by decide +kernel
theorem dX0_writeLetter_8 : decode cX0_writeLetter 8 = .ok (.bipush (-6), 2) := by decide +kernel
theorem dX0_writeLetter_10 : decode cX0_writeLetter 10 = .ok (.if_icmp .eq 16, 3) := by decide +kernel
theorem dX0_writeLetter_13 : decode cX0_writeLetter 13 = .ok (.aload_n 0, 1) := by decide +kernel
theorem dX0_writeLetter_14 : decode cX0_writeLetter 14 = .ok (.getfield 25, 3) := by decide +kernel
theorem dX0_writeLetter_17 : decode cX0_writeLetter 17 = .ok (.iload_n 3, 1) := by decide +kernel
theorem dX0_writeLetter_18 : decode cX0_writeLetter 18 = .ok (.invokevirtual 51, 3) := by decide +kernel
theorem dX0_writeLetter_21 : decode cX0_writeLetter 21 = .ok (.ifCond .ne 5, 3) := by decide +kernel
theorem dX0_writeLetter_24 : decode cX0_writeLetter 24 = .ok (.iconst (-1), 1) := by decide +kernel
theorem dX0_writeLetter_25 : decode cX0_writeLetter 25 = .ok (.ireturn, 1) := by decide +kernel
theorem dX0_writeLetter_26 : decode cX0_writeLetter 26 = .ok (.iload_n 2, 1) := by decide +kernel
theorem dX0_writeLetter_27 : decode cX0_writeLetter 27 = .ok (.ifCond .lt 9, 3) := by decide +kernel
theorem dX0_writeLetter_30 : decode cX0_writeLetter 30 = .ok (.iload_n 2, 1) := by decide +kernel
theorem dX0_writeLetter_31 : decode cX0_writeLetter 31 = .ok (.bipush 99, 2) := by decide +kernel
theorem dX0_writeLetter_33 : decode cX0_writeLetter 33 = .ok (.if_icmp .le 6, 3) := by decide +kernel
theorem dX0_writeLetter_36 : decode cX0_writeLetter 36 = .ok (.bipush (-2), 2) := by decide +kernel
theorem dX0_writeLetter_38 : decode cX0_writeLetter 38 = .ok (.ireturn, 1) := by decide +kernel
theorem dX0_writeLetter_39 : decode cX0_writeLetter 39 = .ok (.aload_n 0, 1) := by decide +kernel
theorem dX0_writeLetter_40 : decode cX0_writeLetter 40 = .ok (.getfield 25, 3) := by decide +kernel
theorem dX0_writeLetter_43 : decode cX0_writeLetter 43 = .ok (.getfield 54, 3) := by decide +kernel
theorem dX0_writeLetter_46 : decode cX0_writeLetter 46 = .ok (.istore 4, 2) := by decide +kernel
theorem dX0_writeLetter_48 : decode cX0_writeLetter 48 = .ok (.iload 4, 2) := by decide +kernel
theorem dX0_writeLetter_50 : decode cX0_writeLetter 50 = .ok (.bipush 30, 2) := by decide +kernel
theorem dX0_writeLetter_52 : decode cX0_writeLetter 52 = .ok (.if_icmp .ge 17, 3) := by decide +kernel
theorem dX0_writeLetter_55 : decode cX0_writeLetter 55 = .ok (.aload_n 0, 1) := by decide +kernel
theorem dX0_writeLetter_56 : decode cX0_writeLetter 56 = .ok (.getfield 25, 3) := by decide +kernel
theorem dX0_writeLetter_59 : decode cX0_writeLetter 59 = .ok (.iload_n 1, 1) := by decide +kernel
theorem dX0_writeLetter_60 : decode cX0_writeLetter 60 = .ok (.iconst 0, 1) := by decide +kernel
theorem dX0_writeLetter_61 : decode cX0_writeLetter 61 = .ok (.invokevirtual 57, 3) := by decide +kernel
theorem dX0_writeLetter_64 : decode cX0_writeLetter 64 = .ok (.bipush 8, 2) := by decide +kernel
theorem dX0_writeLetter_66 : decode cX0_writeLetter 66 = .ok (.if_icmp .lt 6, 3) := by decide +kernel
theorem dX0_writeLetter_69 : decode cX0_writeLetter 69 = .ok (.bipush (-4), 2) := by decide +kernel
theorem dX0_writeLetter_71 : decode cX0_writeLetter 71 = .ok (.ireturn, 1) := by decide +kernel
theorem dX0_writeLetter_72 : decode cX0_writeLetter 72 = .ok (.iload_n 3, 1) := by decide +kernel
theorem dX0_writeLetter_73 : decode cX0_writeLetter 73 = .ok (.bipush (-6), 2) := by decide +kernel
theorem dX0_writeLetter_75 : decode cX0_writeLetter 75 = .ok (.if_icmp .eq 19, 3) := by decide +kernel
theorem dX0_writeLetter_78 : decode cX0_writeLetter 78 = .ok (.aload_n 0, 1) := by decide +kernel
theorem dX0_writeLetter_79 : decode cX0_writeLetter 79 = .ok (.getfield 25, 3) := by decide +kernel
theorem dX0_writeLetter_82 : decode cX0_writeLetter 82 = .ok (.getfield 61, 3) := by decide +kernel
theorem dX0_writeLetter_85 : decode cX0_writeLetter 85 = .ok (.iload_n 3, 1) := by decide +kernel
theorem dX0_writeLetter_86 : decode cX0_writeLetter 86 = .ok (.iaload, 1) := by decide +kernel
theorem dX0_writeLetter_87 : decode cX0_writeLetter 87 = .ok (.iconst 1, 1) := by decide +kernel
theorem dX0_writeLetter_88 : decode cX0_writeLetter 88 = .ok (.if_icmp .eq 6, 3) := by decide +kernel
theorem dX0_writeLetter_91 : decode cX0_writeLetter 91 = .ok (.bipush (-5), 2) := by decide +kernel
theorem dX0_writeLetter_93 : decode cX0_writeLetter 93 = .ok (.ireturn, 1) := by decide +kernel
theorem dX0_writeLetter_94 : decode cX0_writeLetter 94 = .ok (.aload_n 0, 1) := by decide +kernel
theorem dX0_writeLetter_95 : decode cX0_writeLetter 95 = .ok (.getfield 25, 3) := by decide +kernel
theorem dX0_writeLetter_98 : decode cX0_writeLetter 98 = .ok (.getfield 64, 3) := by decide +kernel
theorem dX0_writeLetter_101 : decode cX0_writeLetter 101 = .ok (.iload 4, 2) := by decide +kernel
theorem dX0_writeLetter_103 : decode cX0_writeLetter 103 = .ok (.iload_n 1, 1) := by decide +kernel
theorem dX0_writeLetter_104 : decode cX0_writeLetter 104 = .ok (.iastore, 1) := by decide +kernel
theorem dX0_writeLetter_105 : decode cX0_writeLetter 105 = .ok (.aload_n 0, 1) := by decide +kernel
theorem dX0_writeLetter_106 : decode cX0_writeLetter 106 = .ok (.getfield 25, 3) := by decide +kernel
theorem dX0_writeLetter_109 : decode cX0_writeLetter 109 = .ok (.getfield 67, 3) := by decide +kernel
theorem dX0_writeLetter_112 : decode cX0_writeLetter 112 = .ok (.iload 4, 2) := by decide +kernel
theorem dX0_writeLetter_114 : decode cX0_writeLetter 114 = .ok (.iload_n 2, 1) := by decide +kernel
theorem dX0_writeLetter_115 : decode cX0_writeLetter 115 = .ok (.iastore, 1) := by decide +kernel
theorem dX0_writeLetter_116 : decode cX0_writeLetter 116 = .ok (.aload_n 0, 1) := by decide +kernel
theorem dX0_writeLetter_117 : decode cX0_writeLetter 117 = .ok (.getfield 25, 3) := by decide +kernel
theorem dX0_writeLetter_120 : decode cX0_writeLetter 120 = .ok (.getfield 70, 3) := by decide +kernel
theorem dX0_writeLetter_123 : decode cX0_writeLetter 123 = .ok (.iload 4, 2) := by decide +kernel
theorem dX0_writeLetter_125 : decode cX0_writeLetter 125 = .ok (.aload_n 0, 1) := by decide +kernel
theorem dX0_writeLetter_126 : decode cX0_writeLetter 126 = .ok (.invokevirtual 73, 3) := by decide +kernel
theorem dX0_writeLetter_129 : decode cX0_writeLetter 129 = .ok (.iastore, 1) := by decide +kernel
theorem dX0_writeLetter_130 : decode cX0_writeLetter 130 = .ok (.aload_n 0, 1) := by decide +kernel
theorem dX0_writeLetter_131 : decode cX0_writeLetter 131 = .ok (.getfield 25, 3) := by decide +kernel
theorem dX0_writeLetter_134 : decode cX0_writeLetter 134 = .ok (.getfield 77, 3) := by decide +kernel
theorem dX0_writeLetter_137 : decode cX0_writeLetter 137 = .ok (.iload 4, 2) := by decide +kernel
theorem dX0_writeLetter_139 : decode cX0_writeLetter 139 = .ok (.iload_n 3, 1) := by decide +kernel
theorem dX0_writeLetter_140 : decode cX0_writeLetter 140 = .ok (.iastore, 1) := by decide +kernel
theorem dX0_writeLetter_141 : decode cX0_writeLetter 141 = .ok (.aload_n 0, 1) := by decide +kernel
theorem dX0_writeLetter_142 : decode cX0_writeLetter 142 = .ok (.getfield 25, 3) := by decide +kernel
theorem dX0_writeLetter_145 : decode cX0_writeLetter 145 = .ok (.getfield 61, 3) := by decide +kernel
theorem dX0_writeLetter_148 : decode cX0_writeLetter 148 = .ok (.iload 4, 2) := by decide +kernel
theorem dX0_writeLetter_150 : decode cX0_writeLetter 150 = .ok (.iconst 0, 1) := by decide +kernel
theorem dX0_writeLetter_151 : decode cX0_writeLetter 151 = .ok (.iastore, 1) := by decide +kernel
theorem dX0_writeLetter_152 : decode cX0_writeLetter 152 = .ok (.aload_n 0, 1) := by decide +kernel
theorem dX0_writeLetter_153 : decode cX0_writeLetter 153 = .ok (.getfield 25, 3) := by decide +kernel
theorem dX0_writeLetter_156 : decode cX0_writeLetter 156 = .ok (.getfield 80, 3) := by decide +kernel
theorem dX0_writeLetter_159 : decode cX0_writeLetter 159 = .ok (.iload 4, 2) := by decide +kernel
theorem dX0_writeLetter_161 : decode cX0_writeLetter 161 = .ok (.bipush (-6), 2) := by decide +kernel
theorem dX0_writeLetter_163 : decode cX0_writeLetter 163 = .ok (.iastore, 1) := by decide +kernel
theorem dX0_writeLetter_164 : decode cX0_writeLetter 164 = .ok (.aload_n 0, 1) := by decide +kernel
theorem dX0_writeLetter_165 : decode cX0_writeLetter 165 = .ok (.getfield 25, 3) := by decide +kernel
theorem dX0_writeLetter_168 : decode cX0_writeLetter 168 = .ok (.iload 4, 2) := by decide +kernel
theorem dX0_writeLetter_170 : decode cX0_writeLetter 170 = .ok (.iconst 1, 1) := by decide +kernel
theorem dX0_writeLetter_171 : decode cX0_writeLetter 171 = .ok (.iadd, 1) := by decide +kernel
theorem dX0_writeLetter_172 : decode cX0_writeLetter 172 = .ok (.putfield 54, 3) := by decide +kernel
theorem dX0_writeLetter_175 : decode cX0_writeLetter 175 = .ok (.iload 4, 2) := by decide +kernel
theorem dX0_writeLetter_177 : decode cX0_writeLetter 177 = .ok (.ireturn, 1) := by decide +kernel
set_option maxRecDepth 20000 in
theorem ggX0_turnKey_X6_isMood : GoodIn wsX0_turnKey wsX6_isMood := goodIn_r _ [5] (by decide +kernel) (by decide +kernel)
set_option maxRecDepth 20000 in
theorem gX0_turnKey_X6_isMood_n47 : GoodIn wsX0_turnKey (wsX6_isMood) := ggX0_turnKey_X6_isMood
theorem dX0_turnKey_0 : decode cX0_turnKey 0 = .ok (.iload_n 1, 1) := by decide +kernel
theorem dX0_turnKey_1 : decode cX0_turnKey 1 = .ok (.invokestatic 47, 3) := by decide +kernel
theorem dX0_turnKey_4 : decode cX0_turnKey 4 = .ok (.ifCond .ne 5, 3) := by decide +kernel
theorem dX0_turnKey_7 : decode cX0_turnKey 7 = .ok (.iconst (-1), 1) := by decide +kernel
theorem dX0_turnKey_8 : decode cX0_turnKey 8 = .ok (.ireturn, 1) := by decide +kernel
theorem dX0_turnKey_9 : decode cX0_turnKey 9 = .ok (.aload_n 0, 1) := by decide +kernel
theorem dX0_turnKey_10 : decode cX0_turnKey 10 = .ok (.getfield 18, 3) := by decide +kernel
theorem dX0_turnKey_13 : decode cX0_turnKey 13 = .ok (.getfield 83, 3) := by decide +kernel
theorem dX0_turnKey_16 : decode cX0_turnKey 16 = .ok (.iload_n 1, 1) := by decide +kernel
theorem dX0_turnKey_17 : decode cX0_turnKey 17 = .ok (.iconst 1, 1) := by decide +kernel
theorem dX0_turnKey_18 : decode cX0_turnKey 18 = .ok (.aload_n 0, 1) := by decide +kernel
theorem dX0_turnKey_19 : decode cX0_turnKey 19 = .ok (.getfield 18, 3) := by decide +kernel
theorem dX0_turnKey_22 : decode cX0_turnKey 22 = .ok (.getfield 83, 3) := by decide +kernel
theorem dX0_turnKey_25 : decode cX0_turnKey 25 = .ok (.iload_n 1, 1) := by decide +kernel
theorem dX0_turnKey_26 : decode cX0_turnKey 26 = .ok (.iaload, 1) := by decide +kernel
theorem dX0_turnKey_27 : decode cX0_turnKey 27 = .ok (.isub, 1) := by decide +kernel
theorem dX0_turnKey_28 : decode cX0_turnKey 28 = .ok (.iastore, 1) := by decide +kernel
theorem dX0_turnKey_29 : decode cX0_turnKey 29 = .ok (.aload_n 0, 1) := by decide +kernel
theorem dX0_turnKey_30 : decode cX0_turnKey 30 = .ok (.getfield 18, 3) := by decide +kernel
theorem dX0_turnKey_33 : decode cX0_turnKey 33 = .ok (.getfield 83, 3) := by decide +kernel
theorem dX0_turnKey_36 : decode cX0_turnKey 36 = .ok (.iload_n 1, 1) := by decide +kernel
theorem dX0_turnKey_37 : decode cX0_turnKey 37 = .ok (.iaload, 1) := by decide +kernel
theorem dX0_turnKey_38 : decode cX0_turnKey 38 = .ok (.ireturn, 1) := by decide +kernel
set_option maxRecDepth 20000 in
theorem ggX0_changeRest_X6_isMood : GoodIn wsX0_changeRest wsX6_isMood := goodIn_r _ [5] (by decide +kernel) (by decide +kernel)
set_option maxRecDepth 20000 in
theorem gX0_changeRest_X6_isMood_n47 : GoodIn wsX0_changeRest (wsX6_isMood) := ggX0_changeRest_X6_isMood
theorem dX0_changeRest_0 : decode cX0_changeRest 0 = .ok (.iload_n 1, 1) := by decide +kernel
theorem dX0_changeRest_1 : decode cX0_changeRest 1 = .ok (.invokestatic 47, 3) := by decide +kernel
theorem dX0_changeRest_4 : decode cX0_changeRest 4 = .ok (.ifCond .ne 5, 3) := by decide +kernel
theorem dX0_changeRest_7 : decode cX0_changeRest 7 = .ok (.iconst (-1), 1) := by decide +kernel
theorem dX0_changeRest_8 : decode cX0_changeRest 8 = .ok (.ireturn, 1) := by decide +kernel
theorem dX0_changeRest_9 : decode cX0_changeRest 9 = .ok (.iload_n 2, 1) := by decide +kernel
theorem dX0_changeRest_10 : decode cX0_changeRest 10 = .ok (.ifCond .lt 9, 3) := by decide +kernel
theorem dX0_changeRest_13 : decode cX0_changeRest 13 = .ok (.iload_n 2, 1) := by decide +kernel
theorem dX0_changeRest_14 : decode cX0_changeRest 14 = .ok (.bipush 30, 2) := by decide +kernel
theorem dX0_changeRest_16 : decode cX0_changeRest 16 = .ok (.if_icmp .le 6, 3) := by decide +kernel
theorem dX0_changeRest_19 : decode cX0_changeRest 19 = .ok (.bipush (-2), 2) := by decide +kernel
theorem dX0_changeRest_21 : decode cX0_changeRest 21 = .ok (.ireturn, 1) := by decide +kernel
theorem dX0_changeRest_22 : decode cX0_changeRest 22 = .ok (.aload_n 0, 1) := by decide +kernel
theorem dX0_changeRest_23 : decode cX0_changeRest 23 = .ok (.getfield 18, 3) := by decide +kernel
theorem dX0_changeRest_26 : decode cX0_changeRest 26 = .ok (.getfield 86, 3) := by decide +kernel
theorem dX0_changeRest_29 : decode cX0_changeRest 29 = .ok (.iload_n 1, 1) := by decide +kernel
theorem dX0_changeRest_30 : decode cX0_changeRest 30 = .ok (.iaload, 1) := by decide +kernel
theorem dX0_changeRest_31 : decode cX0_changeRest 31 = .ok (.istore_n 3, 1) := by decide +kernel
theorem dX0_changeRest_32 : decode cX0_changeRest 32 = .ok (.aload_n 0, 1) := by decide +kernel
theorem dX0_changeRest_33 : decode cX0_changeRest 33 = .ok (.getfield 18, 3) := by decide +kernel
theorem dX0_changeRest_36 : decode cX0_changeRest 36 = .ok (.getfield 86, 3) := by decide +kernel
theorem dX0_changeRest_39 : decode cX0_changeRest 39 = .ok (.iload_n 1, 1) := by decide +kernel
theorem dX0_changeRest_40 : decode cX0_changeRest 40 = .ok (.iload_n 2, 1) := by decide +kernel
theorem dX0_changeRest_41 : decode cX0_changeRest 41 = .ok (.iastore, 1) := by decide +kernel
theorem dX0_changeRest_42 : decode cX0_changeRest 42 = .ok (.iload_n 3, 1) := by decide +kernel
theorem dX0_changeRest_43 : decode cX0_changeRest 43 = .ok (.ireturn, 1) := by decide +kernel
set_option maxRecDepth 20000 in
theorem ggX0_changeHours_X6_isMood : GoodIn wsX0_changeHours wsX6_isMood := goodIn_r _ [6] (by decide +kernel) (by decide +kernel)
set_option maxRecDepth 20000 in
theorem gX0_changeHours_X6_isMood_n47 : GoodIn wsX0_changeHours (wsX6_isMood) := ggX0_changeHours_X6_isMood
set_option maxRecDepth 20000 in
theorem ggX0_changeHours_X6_isHour : GoodIn wsX0_changeHours wsX6_isHour := goodIn_r _ [8] (by decide +kernel) (by decide +kernel)
set_option maxRecDepth 20000 in
theorem gX0_changeHours_X6_isHour_n89 : GoodIn wsX0_changeHours (wsX6_isHour) := ggX0_changeHours_X6_isHour
theorem dX0_changeHours_0 : decode cX0_changeHours 0 = .ok (.iload_n 1, 1) := by decide +kernel
theorem dX0_changeHours_1 : decode cX0_changeHours 1 = .ok (.invokestatic 47, 3) := by decide +kernel
theorem dX0_changeHours_4 : decode cX0_changeHours 4 = .ok (.ifCond .ne 5, 3) := by decide +kernel
theorem dX0_changeHours_7 : decode cX0_changeHours 7 = .ok (.iconst (-1), 1) := by decide +kernel
theorem dX0_changeHours_8 : decode cX0_changeHours 8 = .ok (.ireturn, 1) := by decide +kernel
theorem dX0_changeHours_9 : decode cX0_changeHours 9 = .ok (.iload_n 2, 1) := by decide +kernel
theorem dX0_changeHours_10 : decode cX0_changeHours 10 = .ok (.bipush (-6), 2) := by decide +kernel
theorem dX0_changeHours_12 : decode cX0_changeHours 12 = .ok (.if_icmp .eq 25, 3) := by decide +kernel
theorem dX0_changeHours_15 : decode cX0_changeHours 15 = .ok (.iload_n 2, 1) := by decide +kernel
theorem dX0_changeHours_16 : decode cX0_changeHours 16 = .ok (.invokestatic 89, 3) := by decide +kernel
theorem dX0_changeHours_19 : decode cX0_changeHours 19 = .ok (.ifCond .eq 15, 3) := by decide +kernel
theorem dX0_changeHours_22 : decode cX0_changeHours 22 = .ok (.iload_n 3, 1) := by decide +kernel
theorem dX0_changeHours_23 : decode cX0_changeHours 23 = .ok (.invokestatic 89, 3) := by decide +kernel
theorem dX0_changeHours_26 : decode cX0_changeHours 26 = .ok (.ifCond .eq 8, 3) := by decide +kernel
theorem dX0_changeHours_29 : decode cX0_changeHours 29 = .ok (.iload_n 2, 1) := by decide +kernel
theorem dX0_changeHours_30 : decode cX0_changeHours 30 = .ok (.iload_n 3, 1) := by decide +kernel
theorem dX0_changeHours_31 : decode cX0_changeHours 31 = .ok (.if_icmp .ne 6, 3) := by decide +kernel
theorem dX0_changeHours_34 : decode cX0_changeHours 34 = .ok (.bipush (-2), 2) := by decide +kernel
theorem dX0_changeHours_36 : decode cX0_changeHours 36 = .ok (.ireturn, 1) := by decide +kernel
theorem dX0_changeHours_37 : decode cX0_changeHours 37 = .ok (.aload_n 0, 1) := by decide +kernel
theorem dX0_changeHours_38 : decode cX0_changeHours 38 = .ok (.getfield 18, 3) := by decide +kernel
theorem dX0_changeHours_41 : decode cX0_changeHours 41 = .ok (.getfield 92, 3) := by decide +kernel
theorem dX0_changeHours_44 : decode cX0_changeHours 44 = .ok (.iload_n 1, 1) := by decide +kernel
theorem dX0_changeHours_45 : decode cX0_changeHours 45 = .ok (.iaload, 1) := by decide +kernel
theorem dX0_changeHours_46 : decode cX0_changeHours 46 = .ok (.bipush (-6), 2) := by decide +kernel
theorem dX0_changeHours_48 : decode cX0_changeHours 48 = .ok (.if_icmp .ne 7, 3) := by decide +kernel
theorem dX0_changeHours_51 : decode cX0_changeHours 51 = .ok (.iconst 0, 1) := by decide +kernel
theorem dX0_changeHours_52 : decode cX0_changeHours 52 = .ok (.goto 4, 3) := by decide +kernel
theorem dX0_changeHours_55 : decode cX0_changeHours 55 = .ok (.iconst 1, 1) := by decide +kernel
theorem dX0_changeHours_56 : decode cX0_changeHours 56 = .ok (.istore 4, 2) := by decide +kernel
theorem dX0_changeHours_58 : decode cX0_changeHours 58 = .ok (.aload_n 0, 1) := by decide +kernel
theorem dX0_changeHours_59 : decode cX0_changeHours 59 = .ok (.getfield 18, 3) := by decide +kernel
theorem dX0_changeHours_62 : decode cX0_changeHours 62 = .ok (.getfield 92, 3) := by decide +kernel
theorem dX0_changeHours_65 : decode cX0_changeHours 65 = .ok (.iload_n 1, 1) := by decide +kernel
theorem dX0_changeHours_66 : decode cX0_changeHours 66 = .ok (.iload_n 2, 1) := by decide +kernel
theorem dX0_changeHours_67 : decode cX0_changeHours 67 = .ok (.iastore, 1) := by decide +kernel
theorem dX0_changeHours_68 : decode cX0_changeHours 68 = .ok (.aload_n 0, 1) := by decide +kernel
theorem dX0_changeHours_69 : decode cX0_changeHours 69 = .ok (.getfield 18, 3) := by decide +kernel
theorem dX0_changeHours_72 : decode cX0_changeHours 72 = .ok (.getfield 95, 3) := by decide +kernel
theorem dX0_changeHours_75 : decode cX0_changeHours 75 = .ok (.iload_n 1, 1) := by decide +kernel
theorem dX0_changeHours_76 : decode cX0_changeHours 76 = .ok (.iload_n 2, 1) := by decide +kernel
theorem dX0_changeHours_77 : decode cX0_changeHours 77 = .ok (.bipush (-6), 2) := by decide +kernel
theorem dX0_changeHours_79 : decode cX0_changeHours 79 = .ok (.if_icmp .ne 8, 3) := by decide +kernel
theorem dX0_changeHours_82 : decode cX0_changeHours 82 = .ok (.bipush (-6), 2) := by decide +kernel
theorem dX0_changeHours_84 : decode cX0_changeHours 84 = .ok (.goto 4, 3) := by decide +kernel
theorem dX0_changeHours_87 : decode cX0_changeHours 87 = .ok (.iload_n 3, 1) := by decide +kernel
theorem dX0_changeHours_88 : decode cX0_changeHours 88 = .ok (.iastore, 1) := by decide +kernel
theorem dX0_changeHours_89 : decode cX0_changeHours 89 = .ok (.iload 4, 2) := by decide +kernel
theorem dX0_changeHours_91 : decode cX0_changeHours 91 = .ok (.ireturn, 1) := by decide +kernel
set_option maxRecDepth 20000 in
theorem ggX0_burnLetter_X3_isLetter : GoodIn wsX0_burnLetter wsX3_isLetter := goodIn_r _ [8, 9, 41, 42, 43, 44, 45, 46, 47, 48] (by decide +kernel) (by decide +kernel)
set_option maxRecDepth 20000 in
theorem gX0_burnLetter_X3_isLetter : GoodIn wsX0_burnLetter (wsV RX0 51 RX3 yX3_isLetter wsX3_isLetter) := goodIn_app (goodIn_of _ (by decide +kernel)) ggX0_burnLetter_X3_isLetter
set_option maxRecDepth 20000 in
theorem ggX0_burnLetter_X0_isShut : GoodIn wsX0_burnLetter wsX0_isShut := goodIn_r _ [14, 15, 16, 17, 18, 19, 37, 38, 39, 40, 49, 50, 51, 52] (by decide +kernel) (by decide +kernel)
set_option maxRecDepth 20000 in
theorem gX0_burnLetter_X0_isShut : GoodIn wsX0_burnLetter (wsV RX0 98 RX0 yX0_isShut wsX0_isShut) := goodIn_app (goodIn_of _ (by decide +kernel)) ggX0_burnLetter_X0_isShut
set_option maxRecDepth 20000 in
theorem ggX0_burnLetter_X0_heatNow : GoodIn wsX0_burnLetter wsX0_heatNow := goodIn_r _ [23, 1, 2, 24, 25, 26, 27, 28, 29, 30, 31, 32, 33, 34, 13, 35, 36, 37, 38, 39, 40, 41, 42, 43, 44, 45, 46, 47, 48] (by decide +kernel) (by decide +kernel)
set_option maxRecDepth 20000 in
theorem gX0_burnLetter_X0_heatNow : GoodIn wsX0_burnLetter (wsV RX0 101 RX0 yX0_heatNow wsX0_heatNow) := goodIn_app (goodIn_of _ (by decide +kernel)) ggX0_burnLetter_X0_heatNow
theorem dX0_burnLetter_0 : decode cX0_burnLetter 0 = .ok (.aload_n 0, 1) := by decide +kernel
theorem dX0_burnLetter_1 : decode cX0_burnLetter 1 = .ok (.getfield 25, 3) := by decide +kernel
theorem dX0_burnLetter_4 : decode cX0_burnLetter 4 = .ok (.iload_n 1, 1) := by decide +kernel
theorem dX0_burnLetter_5 : decode cX0_burnLetter 5 = .ok (.invokevirtual 51, 3) := by decide +kernel
theorem dX0_burnLetter_8 : decode cX0_burnLetter 8 = .ok (.ifCond .ne 5, 3) := by decide +kernel
theorem dX0_burnLetter_11 : decode cX0_burnLetter 11 = .ok (.iconst (-1), 1) := by decide +kernel
theorem dX0_burnLetter_12 : decode cX0_burnLetter 12 = .ok (.ireturn, 1) := by decide +kernel
theorem dX0_burnLetter_13 : decode cX0_burnLetter 13 = .ok (.aload_n 0, 1) := by decide +kernel
theorem dX0_burnLetter_14 : decode cX0_burnLetter 14 = .ok (.getfield 25, 3) := by decide +kernel
theorem dX0_burnLetter_17 : decode cX0_burnLetter 17 = .ok (.getfield 61, 3) := by decide +kernel
theorem dX0_burnLetter_20 : decode cX0_burnLetter 20 = .ok (.iload_n 1, 1) := by decide +kernel
theorem dX0_burnLetter_21 : decode cX0_burnLetter 21 = .ok (.iaload, 1) := by decide +kernel
theorem dX0_burnLetter_22 : decode cX0_burnLetter 22 = .ok (.ifCond .ne 19, 3) := by decide +kernel
theorem dX0_burnLetter_25 : decode cX0_burnLetter 25 = .ok (.aload_n 0, 1) := by decide +kernel
theorem dX0_burnLetter_26 : decode cX0_burnLetter 26 = .ok (.aload_n 0, 1) := by decide +kernel
theorem dX0_burnLetter_27 : decode cX0_burnLetter 27 = .ok (.getfield 25, 3) := by decide +kernel
theorem dX0_burnLetter_30 : decode cX0_burnLetter 30 = .ok (.getfield 64, 3) := by decide +kernel
theorem dX0_burnLetter_33 : decode cX0_burnLetter 33 = .ok (.iload_n 1, 1) := by decide +kernel
theorem dX0_burnLetter_34 : decode cX0_burnLetter 34 = .ok (.iaload, 1) := by decide +kernel
theorem dX0_burnLetter_35 : decode cX0_burnLetter 35 = .ok (.invokevirtual 98, 3) := by decide +kernel
theorem dX0_burnLetter_38 : decode cX0_burnLetter 38 = .ok (.ifCond .eq 6, 3) := by decide +kernel
theorem dX0_burnLetter_41 : decode cX0_burnLetter 41 = .ok (.bipush (-5), 2) := by decide +kernel
theorem dX0_burnLetter_43 : decode cX0_burnLetter 43 = .ok (.ireturn, 1) := by decide +kernel
theorem dX0_burnLetter_44 : decode cX0_burnLetter 44 = .ok (.aload_n 0, 1) := by decide +kernel
theorem dX0_burnLetter_45 : decode cX0_burnLetter 45 = .ok (.getfield 25, 3) := by decide +kernel
theorem dX0_burnLetter_48 : decode cX0_burnLetter 48 = .ok (.getfield 61, 3) := by decide +kernel
theorem dX0_burnLetter_51 : decode cX0_burnLetter 51 = .ok (.iload_n 1, 1) := by decide +kernel
theorem dX0_burnLetter_52 : decode cX0_burnLetter 52 = .ok (.iconst 2, 1) := by decide +kernel
theorem dX0_burnLetter_53 : decode cX0_burnLetter 53 = .ok (.iastore, 1) := by decide +kernel
theorem dX0_burnLetter_54 : decode cX0_burnLetter 54 = .ok (.aload_n 0, 1) := by decide +kernel
theorem dX0_burnLetter_55 : decode cX0_burnLetter 55 = .ok (.iload_n 1, 1) := by decide +kernel
theorem dX0_burnLetter_56 : decode cX0_burnLetter 56 = .ok (.invokevirtual 101, 3) := by decide +kernel
theorem dX0_burnLetter_59 : decode cX0_burnLetter 59 = .ok (.ireturn, 1) := by decide +kernel
set_option maxRecDepth 20000 in
theorem ggX0_isShut_X6_isMood : GoodIn wsX0_isShut wsX6_isMood := goodIn_r _ [5] (by decide +kernel) (by decide +kernel)
set_option maxRecDepth 20000 in
theorem gX0_isShut_X6_isMood_n47 : GoodIn wsX0_isShut (wsX6_isMood) := ggX0_isShut_X6_isMood
theorem dX0_isShut_0 : decode cX0_isShut 0 = .ok (.iload_n 1, 1) := by decide +kernel
theorem dX0_isShut_1 : decode cX0_isShut 1 = .ok (.invokestatic 47, 3) := by decide +kernel
theorem dX0_isShut_4 : decode cX0_isShut 4 = .ok (.ifCond .eq 20, 3) := by decide +kernel
theorem dX0_isShut_7 : decode cX0_isShut 7 = .ok (.aload_n 0, 1) := by decide +kernel
theorem dX0_isShut_8 : decode cX0_isShut 8 = .ok (.getfield 18, 3) := by decide +kernel
theorem dX0_isShut_11 : decode cX0_isShut 11 = .ok (.getfield 83, 3) := by decide +kernel
theorem dX0_isShut_14 : decode cX0_isShut 14 = .ok (.iload_n 1, 1) := by decide +kernel
theorem dX0_isShut_15 : decode cX0_isShut 15 = .ok (.iaload, 1) := by decide +kernel
theorem dX0_isShut_16 : decode cX0_isShut 16 = .ok (.iconst 1, 1) := by decide +kernel
theorem dX0_isShut_17 : decode cX0_isShut 17 = .ok (.if_icmp .ne 7, 3) := by decide +kernel
theorem dX0_isShut_20 : decode cX0_isShut 20 = .ok (.iconst 1, 1) := by decide +kernel
theorem dX0_isShut_21 : decode cX0_isShut 21 = .ok (.goto 4, 3) := by decide +kernel
theorem dX0_isShut_24 : decode cX0_isShut 24 = .ok (.iconst 0, 1) := by decide +kernel
theorem dX0_isShut_25 : decode cX0_isShut 25 = .ok (.ireturn, 1) := by decide +kernel
set_option maxRecDepth 20000 in
theorem ggX0_passHours_X0_hourOfDay : GoodIn wsX0_passHours wsX0_hourOfDay := goodIn_r _ [8, 1, 65, 66, 67, 68] (by decide +kernel) (by decide +kernel)
set_option maxRecDepth 20000 in
theorem gX0_passHours_X0_hourOfDay : GoodIn wsX0_passHours (wsV RX0 105 RX0 yX0_hourOfDay wsX0_hourOfDay) := goodIn_app (goodIn_of _ (by decide +kernel)) ggX0_passHours_X0_hourOfDay
set_option maxRecDepth 20000 in
theorem ggX0_passHours_X1_turnKeysBy : GoodIn wsX0_passHours wsX1_turnKeysBy := goodIn_r _ [13, 14, 15, 16, 69, 70, 71, 72] (by decide +kernel) (by decide +kernel)
set_option maxRecDepth 20000 in
theorem gX0_passHours_X1_turnKeysBy : GoodIn wsX0_passHours (wsV RX0 108 RX1 yX1_turnKeysBy wsX1_turnKeysBy) := goodIn_app (goodIn_of _ (by decide +kernel)) ggX0_passHours_X1_turnKeysBy
set_option maxRecDepth 20000 in
theorem ggX0_passHours_X0_setThatWouldGo : GoodIn wsX0_passHours wsX0_setThatWouldGo := goodIn_r _ [20, 21, 22, 2, 23, 24, 25, 26, 27, 28, 29, 30, 31, 32, 33, 7, 34, 1, 35, 36, 37, 38, 39, 3, 40, 41, 42, 43, 44, 45, 46, 65, 66, 67, 68, 73, 74, 75, 76, 77, 78, 79, 80, 69, 70, 71, 72] (by decide +kernel) (by decide +kernel)
set_option maxRecDepth 20000 in
theorem gX0_passHours_X0_setThatWouldGo : GoodIn wsX0_passHours (wsV RX0 112 RX0 yX0_setThatWouldGo wsX0_setThatWouldGo) := goodIn_app (goodIn_of _ (by decide +kernel)) ggX0_passHours_X0_setThatWouldGo
set_option maxRecDepth 20000 in
theorem ggX0_passHours_X0_send : GoodIn wsX0_passHours wsX0_send := goodIn_r _ [50, 21, 22, 51, 52, 53, 54, 55, 56, 7, 57, 41, 39, 3, 43, 44, 45, 46, 31, 32, 33, 34, 1, 58, 59, 60, 61, 62, 63, 64, 65, 66, 67, 68, 73, 74, 75, 76, 77, 78, 79, 80] (by decide +kernel) (by decide +kernel)
set_option maxRecDepth 20000 in
theorem gX0_passHours_X0_send : GoodIn wsX0_passHours (wsV RX0 116 RX0 yX0_send wsX0_send) := goodIn_app (goodIn_of _ (by decide +kernel)) ggX0_passHours_X0_send
theorem dX0_passHours_0 : decode cX0_passHours 0 = .ok (.iload_n 1, 1) := by decide +kernel
theorem dX0_passHours_1 : decode cX0_passHours 1 = .ok (.iconst 1, 1) := by decide +kernel
theorem dX0_passHours_2 : decode cX0_passHours 2 = .ok (.if_icmp .lt 10, 3) := by decide +kernel
theorem dX0_passHours_5 : decode cX0_passHours 5 = .ok (.iload_n 1, 1) := by decide +kernel
theorem dX0_passHours_6 : decode cX0_passHours 6 = .ok (.sipush 240, 3) := by decide +kernel
theorem dX0_passHours_9 : decode cX0_passHours 9 = .ok (.if_icmp .le 6, 3) := by decide +kernel
theorem dX0_passHours_12 : decode cX0_passHours 12 = .ok (.bipush (-2), 2) := by decide +kernel
theorem dX0_passHours_14 : decode cX0_passHours 14 = .ok (.ireturn, 1) := by decide +kernel
theorem dX0_passHours_15 : decode cX0_passHours 15 = .ok (.aload_n 0, 1) := by decide +kernel
theorem dX0_passHours_16 : decode cX0_passHours 16 = .ok (.getfield 33, 3) := by decide +kernel
theorem dX0_passHours_19 : decode cX0_passHours 19 = .ok (.iload_n 1, 1) := by decide +kernel
theorem dX0_passHours_20 : decode cX0_passHours 20 = .ok (.iadd, 1) := by decide +kernel
theorem dX0_passHours_21 : decode cX0_passHours 21 = .ok (.bipush 24, 2) := by decide +kernel
theorem dX0_passHours_23 : decode cX0_passHours 23 = .ok (.idiv, 1) := by decide +kernel
theorem dX0_passHours_24 : decode cX0_passHours 24 = .ok (.sipush 999, 3) := by decide +kernel
theorem dX0_passHours_27 : decode cX0_passHours 27 = .ok (.if_icmp .le 6, 3) := by decide +kernel
theorem dX0_passHours_30 : decode cX0_passHours 30 = .ok (.bipush (-5), 2) := by decide +kernel
theorem dX0_passHours_32 : decode cX0_passHours 32 = .ok (.ireturn, 1) := by decide +kernel
theorem dX0_passHours_33 : decode cX0_passHours 33 = .ok (.iconst 0, 1) := by decide +kernel
theorem dX0_passHours_34 : decode cX0_passHours 34 = .ok (.istore_n 2, 1) := by decide +kernel
theorem dX0_passHours_35 : decode cX0_passHours 35 = .ok (.iconst 0, 1) := by decide +kernel
theorem dX0_passHours_36 : decode cX0_passHours 36 = .ok (.istore_n 3, 1) := by decide +kernel
theorem dX0_passHours_37 : decode cX0_passHours 37 = .ok (.iload_n 3, 1) := by decide +kernel
theorem dX0_passHours_38 : decode cX0_passHours 38 = .ok (.iload_n 1, 1) := by decide +kernel
theorem dX0_passHours_39 : decode cX0_passHours 39 = .ok (.if_icmp .ge 54, 3) := by decide +kernel
theorem dX0_passHours_42 : decode cX0_passHours 42 = .ok (.aload_n 0, 1) := by decide +kernel
theorem dX0_passHours_43 : decode cX0_passHours 43 = .ok (.getfield 18, 3) := by decide +kernel
theorem dX0_passHours_46 : decode cX0_passHours 46 = .ok (.aload_n 0, 1) := by decide +kernel
theorem dX0_passHours_47 : decode cX0_passHours 47 = .ok (.invokevirtual 105, 3) := by decide +kernel
theorem dX0_passHours_50 : decode cX0_passHours 50 = .ok (.invokevirtual 108, 3) := by decide +kernel
theorem dX0_passHours_53 : decode cX0_passHours 53 = .ok (.aload_n 0, 1) := by decide +kernel
theorem dX0_passHours_54 : decode cX0_passHours 54 = .ok (.invokevirtual 105, 3) := by decide +kernel
theorem dX0_passHours_57 : decode cX0_passHours 57 = .ok (.aload_n 0, 1) := by decide +kernel
theorem dX0_passHours_58 : decode cX0_passHours 58 = .ok (.getfield 9, 3) := by decide +kernel
theorem dX0_passHours_61 : decode cX0_passHours 61 = .ok (.iconst 0, 1) := by decide +kernel
theorem dX0_passHours_62 : decode cX0_passHours 62 = .ok (.iaload, 1) := by decide +kernel
theorem dX0_passHours_63 : decode cX0_passHours 63 = .ok (.if_icmp .ne 14, 3) := by decide +kernel
theorem dX0_passHours_66 : decode cX0_passHours 66 = .ok (.iload_n 2, 1) := by decide +kernel
theorem dX0_passHours_67 : decode cX0_passHours 67 = .ok (.aload_n 0, 1) := by decide +kernel
theorem dX0_passHours_68 : decode cX0_passHours 68 = .ok (.aload_n 0, 1) := by decide +kernel
theorem dX0_passHours_69 : decode cX0_passHours 69 = .ok (.invokevirtual 112, 3) := by decide +kernel
theorem dX0_passHours_72 : decode cX0_passHours 72 = .ok (.invokevirtual 116, 3) := by decide +kernel
theorem dX0_passHours_75 : decode cX0_passHours 75 = .ok (.iadd, 1) := by decide +kernel
theorem dX0_passHours_76 : decode cX0_passHours 76 = .ok (.istore_n 2, 1) := by decide +kernel
theorem dX0_passHours_77 : decode cX0_passHours 77 = .ok (.aload_n 0, 1) := by decide +kernel
theorem dX0_passHours_78 : decode cX0_passHours 78 = .ok (.dup, 1) := by decide +kernel
theorem dX0_passHours_79 : decode cX0_passHours 79 = .ok (.getfield 33, 3) := by decide +kernel
theorem dX0_passHours_82 : decode cX0_passHours 82 = .ok (.iconst 1, 1) := by decide +kernel
theorem dX0_passHours_83 : decode cX0_passHours 83 = .ok (.iadd, 1) := by decide +kernel
theorem dX0_passHours_84 : decode cX0_passHours 84 = .ok (.putfield 33, 3) := by decide +kernel
theorem dX0_passHours_87 : decode cX0_passHours 87 = .ok (.iinc 3 1, 3) := by decide +kernel
theorem dX0_passHours_90 : decode cX0_passHours 90 = .ok (.goto (-53), 3) := by decide +kernel
theorem dX0_passHours_93 : decode cX0_passHours 93 = .ok (.iload_n 2, 1) := by decide +kernel
theorem dX0_passHours_94 : decode cX0_passHours 94 = .ok (.ireturn, 1) := by decide +kernel
set_option maxRecDepth 20000 in
theorem ggX0_send_X0_heatNow : GoodIn wsX0_send wsX0_heatNow := goodIn_r _ [10, 1, 5, 3, 11, 12, 13, 14, 15, 16, 17, 18, 19, 20, 9, 21, 22, 30, 31, 32, 33, 34, 35, 36, 37, 38, 39, 40, 41] (by decide +kernel) (by decide +kernel)
set_option maxRecDepth 20000 in
theorem gX0_send_X0_heatNow : GoodIn wsX0_send (wsV RX0 101 RX0 yX0_heatNow wsX0_heatNow) := goodIn_app (goodIn_of _ (by decide +kernel)) ggX0_send_X0_heatNow
set_option maxRecDepth 20000 in
theorem ggX0_send_X0_today : GoodIn wsX0_send wsX0_today := goodIn_r _ [21, 22, 30, 31, 32, 33] (by decide +kernel) (by decide +kernel)
set_option maxRecDepth 20000 in
theorem gX0_send_X0_today : GoodIn wsX0_send (wsV RX0 73 RX0 yX0_today wsX0_today) := goodIn_app (goodIn_of _ (by decide +kernel)) ggX0_send_X0_today
set_option maxRecDepth 20000 in
theorem ggX0_send_J13_bitCount_95d88 : GoodIn wsX0_send wsJ13_bitCount_95d88 := goodIn_r _ [26, 27, 28, 29] (by decide +kernel) (by decide +kernel)
set_option maxRecDepth 20000 in
theorem gX0_send_J13_bitCount_95d88 : GoodIn wsX0_send (va_wsS RX0 123 yJ13_bitCount_95d88 wsJ13_bitCount_95d88) := goodIn_app (goodIn_of _ (by decide +kernel)) ggX0_send_J13_bitCount_95d88
theorem dX0_send_0 : decode cX0_send 0 = .ok (.iconst 0, 1) := by decide +kernel
theorem dX0_send_1 : decode cX0_send 1 = .ok (.istore_n 3, 1) := by decide +kernel
theorem dX0_send_2 : decode cX0_send 2 = .ok (.iload_n 3, 1) := by decide +kernel
theorem dX0_send_3 : decode cX0_send 3 = .ok (.aload_n 0, 1) := by decide +kernel
theorem dX0_send_4 : decode cX0_send 4 = .ok (.getfield 25, 3) := by decide +kernel
theorem dX0_send_7 : decode cX0_send 7 = .ok (.getfield 54, 3) := by decide +kernel
theorem dX0_send_10 : decode cX0_send 10 = .ok (.if_icmp .ge 56, 3) := by decide +kernel
theorem dX0_send_13 : decode cX0_send 13 = .ok (.lload_n 1, 1) := by decide +kernel
theorem dX0_send_14 : decode cX0_send 14 = .ok (.iload_n 3, 1) := by decide +kernel
theorem dX0_send_15 : decode cX0_send 15 = .ok (.lushr, 1) := by decide +kernel
theorem dX0_send_16 : decode cX0_send 16 = .ok (.lconst 1, 1) := by decide +kernel
theorem dX0_send_17 : decode cX0_send 17 = .ok (.land, 1) := by decide +kernel
theorem dX0_send_18 : decode cX0_send 18 = .ok (.lconst 1, 1) := by decide +kernel
theorem dX0_send_19 : decode cX0_send 19 = .ok (.lcmp, 1) := by decide +kernel
theorem dX0_send_20 : decode cX0_send 20 = .ok (.ifCond .ne 40, 3) := by decide +kernel
theorem dX0_send_23 : decode cX0_send 23 = .ok (.aload_n 0, 1) := by decide +kernel
theorem dX0_send_24 : decode cX0_send 24 = .ok (.getfield 25, 3) := by decide +kernel
theorem dX0_send_27 : decode cX0_send 27 = .ok (.getfield 120, 3) := by decide +kernel
theorem dX0_send_30 : decode cX0_send 30 = .ok (.iload_n 3, 1) := by decide +kernel
theorem dX0_send_31 : decode cX0_send 31 = .ok (.aload_n 0, 1) := by decide +kernel
theorem dX0_send_32 : decode cX0_send 32 = .ok (.iload_n 3, 1) := by decide +kernel
theorem dX0_send_33 : decode cX0_send 33 = .ok (.invokevirtual 101, 3) := by decide +kernel
theorem dX0_send_36 : decode cX0_send 36 = .ok (.iastore, 1) := by decide +kernel
theorem dX0_send_37 : decode cX0_send 37 = .ok (.aload_n 0, 1) := by decide +kernel
theorem dX0_send_38 : decode cX0_send 38 = .ok (.getfield 25, 3) := by decide +kernel
theorem dX0_send_41 : decode cX0_send 41 = .ok (.getfield 80, 3) := by decide +kernel
theorem dX0_send_44 : decode cX0_send 44 = .ok (.iload_n 3, 1) := by decide +kernel
theorem dX0_send_45 : decode cX0_send 45 = .ok (.aload_n 0, 1) := by decide +kernel
theorem dX0_send_46 : decode cX0_send 46 = .ok (.invokevirtual 73, 3) := by decide +kernel
theorem dX0_send_49 : decode cX0_send 49 = .ok (.iastore, 1) := by decide +kernel
theorem dX0_send_50 : decode cX0_send 50 = .ok (.aload_n 0, 1) := by decide +kernel
theorem dX0_send_51 : decode cX0_send 51 = .ok (.getfield 25, 3) := by decide +kernel
theorem dX0_send_54 : decode cX0_send 54 = .ok (.getfield 61, 3) := by decide +kernel
theorem dX0_send_57 : decode cX0_send 57 = .ok (.iload_n 3, 1) := by decide +kernel
theorem dX0_send_58 : decode cX0_send 58 = .ok (.iconst 1, 1) := by decide +kernel
theorem dX0_send_59 : decode cX0_send 59 = .ok (.iastore, 1) := by decide +kernel
theorem dX0_send_60 : decode cX0_send 60 = .ok (.iinc 3 1, 3) := by decide +kernel
theorem dX0_send_63 : decode cX0_send 63 = .ok (.goto (-61), 3) := by decide +kernel
theorem dX0_send_66 : decode cX0_send 66 = .ok (.lload_n 1, 1) := by decide +kernel
theorem dX0_send_67 : decode cX0_send 67 = .ok (.invokestatic 123, 3) := by decide +kernel
theorem dX0_send_70 : decode cX0_send 70 = .ok (.ireturn, 1) := by decide +kernel
set_option maxRecDepth 20000 in
theorem ggX0_setThatWouldGo_X3_lies : GoodIn wsX0_setThatWouldGo wsX3_lies := goodIn_r _ [9, 10, 11, 35, 36, 37, 38, 39, 40, 41, 42] (by decide +kernel) (by decide +kernel)
set_option maxRecDepth 20000 in
theorem gX0_setThatWouldGo_X3_lies : GoodIn wsX0_setThatWouldGo (wsV RX0 128 RX3 yX3_lies wsX3_lies) := goodIn_app (goodIn_of _ (by decide +kernel)) ggX0_setThatWouldGo_X3_lies
set_option maxRecDepth 20000 in
theorem ggX0_setThatWouldGo_X0_today : GoodIn wsX0_setThatWouldGo wsX0_today := goodIn_r _ [16, 17, 31, 32, 33, 34] (by decide +kernel) (by decide +kernel)
set_option maxRecDepth 20000 in
theorem gX0_setThatWouldGo_X0_today : GoodIn wsX0_setThatWouldGo (wsV RX0 73 RX0 yX0_today wsX0_today) := goodIn_app (goodIn_of _ (by decide +kernel)) ggX0_setThatWouldGo_X0_today
set_option maxRecDepth 20000 in
theorem ggX0_setThatWouldGo_X0_readyDay : GoodIn wsX0_setThatWouldGo wsX0_readyDay := goodIn_r _ [21, 1, 22, 23, 24, 25, 3, 26, 27, 28, 29, 30, 31, 32, 33, 34, 35, 36, 37, 38, 39, 40, 41, 42, 43, 44, 45, 46] (by decide +kernel) (by decide +kernel)
set_option maxRecDepth 20000 in
theorem gX0_setThatWouldGo_X0_readyDay : GoodIn wsX0_setThatWouldGo (wsV RX0 132 RX0 yX0_readyDay wsX0_readyDay) := goodIn_app (goodIn_of _ (by decide +kernel)) ggX0_setThatWouldGo_X0_readyDay
theorem dX0_setThatWouldGo_0 : decode cX0_setThatWouldGo 0 = .ok (.lconst 0, 1) := by decide +kernel
theorem dX0_setThatWouldGo_1 : decode cX0_setThatWouldGo 1 = .ok (.lstore_n 1, 1) := by decide +kernel
theorem dX0_setThatWouldGo_2 : decode cX0_setThatWouldGo 2 = .ok (.iconst 0, 1) := by decide +kernel
theorem dX0_setThatWouldGo_3 : decode cX0_setThatWouldGo 3 = .ok (.istore_n 3, 1) := by decide +kernel
theorem dX0_setThatWouldGo_4 : decode cX0_setThatWouldGo 4 = .ok (.iload_n 3, 1) := by decide +kernel
theorem dX0_setThatWouldGo_5 : decode cX0_setThatWouldGo 5 = .ok (.bipush 6, 2) := by decide +kernel
theorem dX0_setThatWouldGo_7 : decode cX0_setThatWouldGo 7 = .ok (.if_icmp .ge 76, 3) := by decide +kernel
theorem dX0_setThatWouldGo_10 : decode cX0_setThatWouldGo 10 = .ok (.iconst 0, 1) := by decide +kernel
theorem dX0_setThatWouldGo_11 : decode cX0_setThatWouldGo 11 = .ok (.istore 4, 2) := by decide +kernel
theorem dX0_setThatWouldGo_13 : decode cX0_setThatWouldGo 13 = .ok (.iload 4, 2) := by decide +kernel
theorem dX0_setThatWouldGo_15 : decode cX0_setThatWouldGo 15 = .ok (.aload_n 0, 1) := by decide +kernel
theorem dX0_setThatWouldGo_16 : decode cX0_setThatWouldGo 16 = .ok (.getfield 25, 3) := by decide +kernel
theorem dX0_setThatWouldGo_19 : decode cX0_setThatWouldGo 19 = .ok (.getfield 54, 3) := by decide +kernel
theorem dX0_setThatWouldGo_22 : decode cX0_setThatWouldGo 22 = .ok (.if_icmp .ge 55, 3) := by decide +kernel
theorem dX0_setThatWouldGo_25 : decode cX0_setThatWouldGo 25 = .ok (.aload_n 0, 1) := by decide +kernel
theorem dX0_setThatWouldGo_26 : decode cX0_setThatWouldGo 26 = .ok (.getfield 18, 3) := by decide +kernel
theorem dX0_setThatWouldGo_29 : decode cX0_setThatWouldGo 29 = .ok (.getfield 83, 3) := by decide +kernel
theorem dX0_setThatWouldGo_32 : decode cX0_setThatWouldGo 32 = .ok (.iload_n 3, 1) := by decide +kernel
theorem dX0_setThatWouldGo_33 : decode cX0_setThatWouldGo 33 = .ok (.iaload, 1) := by decide +kernel
theorem dX0_setThatWouldGo_34 : decode cX0_setThatWouldGo 34 = .ok (.ifCond .ne 37, 3) := by decide +kernel
theorem dX0_setThatWouldGo_37 : decode cX0_setThatWouldGo 37 = .ok (.aload_n 0, 1) := by decide +kernel
theorem dX0_setThatWouldGo_38 : decode cX0_setThatWouldGo 38 = .ok (.getfield 25, 3) := by decide +kernel
theorem dX0_setThatWouldGo_41 : decode cX0_setThatWouldGo 41 = .ok (.iload 4, 2) := by decide +kernel
theorem dX0_setThatWouldGo_43 : decode cX0_setThatWouldGo 43 = .ok (.iload_n 3, 1) := by decide +kernel
theorem dX0_setThatWouldGo_44 : decode cX0_setThatWouldGo 44 = .ok (.invokevirtual 128, 3) := by decide +kernel
theorem dX0_setThatWouldGo_47 : decode cX0_setThatWouldGo 47 = .ok (.ifCond .eq 24, 3) := by decide +kernel
theorem dX0_setThatWouldGo_50 : decode cX0_setThatWouldGo 50 = .ok (.aload_n 0, 1) := by decide +kernel
theorem dX0_setThatWouldGo_51 : decode cX0_setThatWouldGo 51 = .ok (.invokevirtual 73, 3) := by decide +kernel
theorem dX0_setThatWouldGo_54 : decode cX0_setThatWouldGo 54 = .ok (.aload_n 0, 1) := by decide +kernel
theorem dX0_setThatWouldGo_55 : decode cX0_setThatWouldGo 55 = .ok (.iload 4, 2) := by decide +kernel
theorem dX0_setThatWouldGo_57 : decode cX0_setThatWouldGo 57 = .ok (.iload_n 3, 1) := by decide +kernel
theorem dX0_setThatWouldGo_58 : decode cX0_setThatWouldGo 58 = .ok (.invokevirtual 132, 3) := by decide +kernel
theorem dX0_setThatWouldGo_61 : decode cX0_setThatWouldGo 61 = .ok (.if_icmp .lt 10, 3) := by decide +kernel
theorem dX0_setThatWouldGo_64 : decode cX0_setThatWouldGo 64 = .ok (.lload_n 1, 1) := by decide +kernel
theorem dX0_setThatWouldGo_65 : decode cX0_setThatWouldGo 65 = .ok (.lconst 1, 1) := by decide +kernel
theorem dX0_setThatWouldGo_66 : decode cX0_setThatWouldGo 66 = .ok (.iload 4, 2) := by decide +kernel
theorem dX0_setThatWouldGo_68 : decode cX0_setThatWouldGo 68 = .ok (.lshl, 1) := by decide +kernel
theorem dX0_setThatWouldGo_69 : decode cX0_setThatWouldGo 69 = .ok (.lor, 1) := by decide +kernel
theorem dX0_setThatWouldGo_70 : decode cX0_setThatWouldGo 70 = .ok (.lstore_n 1, 1) := by decide +kernel
theorem dX0_setThatWouldGo_71 : decode cX0_setThatWouldGo 71 = .ok (.iinc 4 1, 3) := by decide +kernel
theorem dX0_setThatWouldGo_74 : decode cX0_setThatWouldGo 74 = .ok (.goto (-61), 3) := by decide +kernel
theorem dX0_setThatWouldGo_77 : decode cX0_setThatWouldGo 77 = .ok (.iinc 3 1, 3) := by decide +kernel
theorem dX0_setThatWouldGo_80 : decode cX0_setThatWouldGo 80 = .ok (.goto (-76), 3) := by decide +kernel
theorem dX0_setThatWouldGo_83 : decode cX0_setThatWouldGo 83 = .ok (.lload_n 1, 1) := by decide +kernel
theorem dX0_setThatWouldGo_84 : decode cX0_setThatWouldGo 84 = .ok (.lreturn, 1) := by decide +kernel
theorem dX0_readyDay_0 : decode cX0_readyDay 0 = .ok (.aload_n 0, 1) := by decide +kernel
theorem dX0_readyDay_1 : decode cX0_readyDay 1 = .ok (.getfield 25, 3) := by decide +kernel
theorem dX0_readyDay_4 : decode cX0_readyDay 4 = .ok (.getfield 67, 3) := by decide +kernel
theorem dX0_readyDay_7 : decode cX0_readyDay 7 = .ok (.iload_n 1, 1) := by decide +kernel
theorem dX0_readyDay_8 : decode cX0_readyDay 8 = .ok (.iaload, 1) := by decide +kernel
theorem dX0_readyDay_9 : decode cX0_readyDay 9 = .ok (.aload_n 0, 1) := by decide +kernel
theorem dX0_readyDay_10 : decode cX0_readyDay 10 = .ok (.getfield 9, 3) := by decide +kernel
theorem dX0_readyDay_13 : decode cX0_readyDay 13 = .ok (.iconst 1, 1) := by decide +kernel
theorem dX0_readyDay_14 : decode cX0_readyDay 14 = .ok (.iaload, 1) := by decide +kernel
theorem dX0_readyDay_15 : decode cX0_readyDay 15 = .ok (.isub, 1) := by decide +kernel
theorem dX0_readyDay_16 : decode cX0_readyDay 16 = .ok (.istore_n 3, 1) := by decide +kernel
theorem dX0_readyDay_17 : decode cX0_readyDay 17 = .ok (.aload_n 0, 1) := by decide +kernel
theorem dX0_readyDay_18 : decode cX0_readyDay 18 = .ok (.getfield 9, 3) := by decide +kernel
theorem dX0_readyDay_21 : decode cX0_readyDay 21 = .ok (.iconst 2, 1) := by decide +kernel
theorem dX0_readyDay_22 : decode cX0_readyDay 22 = .ok (.iaload, 1) := by decide +kernel
theorem dX0_readyDay_23 : decode cX0_readyDay 23 = .ok (.istore 4, 2) := by decide +kernel
theorem dX0_readyDay_25 : decode cX0_readyDay 25 = .ok (.iconst 0, 1) := by decide +kernel
theorem dX0_readyDay_26 : decode cX0_readyDay 26 = .ok (.istore 5, 2) := by decide +kernel
theorem dX0_readyDay_28 : decode cX0_readyDay 28 = .ok (.iload_n 3, 1) := by decide +kernel
theorem dX0_readyDay_29 : decode cX0_readyDay 29 = .ok (.ifCond .le 22, 3) := by decide +kernel
theorem dX0_readyDay_32 : decode cX0_readyDay 32 = .ok (.iload 4, 2) := by decide +kernel
theorem dX0_readyDay_34 : decode cX0_readyDay 34 = .ok (.ifCond .gt 6, 3) := by decide +kernel
theorem dX0_readyDay_37 : decode cX0_readyDay 37 = .ok (.ldc 135, 2) := by decide +kernel
theorem dX0_readyDay_39 : decode cX0_readyDay 39 = .ok (.ireturn, 1) := by decide +kernel
theorem dX0_readyDay_40 : decode cX0_readyDay 40 = .ok (.iload_n 3, 1) := by decide +kernel
theorem dX0_readyDay_41 : decode cX0_readyDay 41 = .ok (.iload 4, 2) := by decide +kernel
theorem dX0_readyDay_43 : decode cX0_readyDay 43 = .ok (.iadd, 1) := by decide +kernel
theorem dX0_readyDay_44 : decode cX0_readyDay 44 = .ok (.iconst 1, 1) := by decide +kernel
theorem dX0_readyDay_45 : decode cX0_readyDay 45 = .ok (.isub, 1) := by decide +kernel
theorem dX0_readyDay_46 : decode cX0_readyDay 46 = .ok (.iload 4, 2) := by decide +kernel
theorem dX0_readyDay_48 : decode cX0_readyDay 48 = .ok (.idiv, 1) := by decide +kernel
theorem dX0_readyDay_49 : decode cX0_readyDay 49 = .ok (.istore 5, 2) := by decide +kernel
theorem dX0_readyDay_51 : decode cX0_readyDay 51 = .ok (.aload_n 0, 1) := by decide +kernel
theorem dX0_readyDay_52 : decode cX0_readyDay 52 = .ok (.getfield 25, 3) := by decide +kernel
theorem dX0_readyDay_55 : decode cX0_readyDay 55 = .ok (.getfield 70, 3) := by decide +kernel
theorem dX0_readyDay_58 : decode cX0_readyDay 58 = .ok (.iload_n 1, 1) := by decide +kernel
theorem dX0_readyDay_59 : decode cX0_readyDay 59 = .ok (.iaload, 1) := by decide +kernel
theorem dX0_readyDay_60 : decode cX0_readyDay 60 = .ok (.iload 5, 2) := by decide +kernel
theorem dX0_readyDay_62 : decode cX0_readyDay 62 = .ok (.aload_n 0, 1) := by decide +kernel
theorem dX0_readyDay_63 : decode cX0_readyDay 63 = .ok (.getfield 18, 3) := by decide +kernel
theorem dX0_readyDay_66 : decode cX0_readyDay 66 = .ok (.getfield 86, 3) := by decide +kernel
theorem dX0_readyDay_69 : decode cX0_readyDay 69 = .ok (.iload_n 2, 1) := by decide +kernel
theorem dX0_readyDay_70 : decode cX0_readyDay 70 = .ok (.iaload, 1) := by decide +kernel
theorem dX0_readyDay_71 : decode cX0_readyDay 71 = .ok (.invokestatic 136, 3) := by decide +kernel
theorem dX0_readyDay_74 : decode cX0_readyDay 74 = .ok (.iadd, 1) := by decide +kernel
theorem dX0_readyDay_75 : decode cX0_readyDay 75 = .ok (.ireturn, 1) := by decide +kernel
set_option maxRecDepth 20000 in
theorem ggX0_heatNow_X0_today : GoodIn wsX0_heatNow wsX0_today := goodIn_r _ [15, 16, 17, 18, 19, 20] (by decide +kernel) (by decide +kernel)
set_option maxRecDepth 20000 in
theorem gX0_heatNow_X0_today : GoodIn wsX0_heatNow (wsV RX0 73 RX0 yX0_today wsX0_today) := goodIn_app (goodIn_of _ (by decide +kernel)) ggX0_heatNow_X0_today
theorem dX0_heatNow_0 : decode cX0_heatNow 0 = .ok (.aload_n 0, 1) := by decide +kernel
theorem dX0_heatNow_1 : decode cX0_heatNow 1 = .ok (.getfield 25, 3) := by decide +kernel
theorem dX0_heatNow_4 : decode cX0_heatNow 4 = .ok (.getfield 61, 3) := by decide +kernel
theorem dX0_heatNow_7 : decode cX0_heatNow 7 = .ok (.iload_n 1, 1) := by decide +kernel
theorem dX0_heatNow_8 : decode cX0_heatNow 8 = .ok (.iaload, 1) := by decide +kernel
theorem dX0_heatNow_9 : decode cX0_heatNow 9 = .ok (.iconst 1, 1) := by decide +kernel
theorem dX0_heatNow_10 : decode cX0_heatNow 10 = .ok (.if_icmp .ne 13, 3) := by decide +kernel
theorem dX0_heatNow_13 : decode cX0_heatNow 13 = .ok (.aload_n 0, 1) := by decide +kernel
theorem dX0_heatNow_14 : decode cX0_heatNow 14 = .ok (.getfield 25, 3) := by decide +kernel
theorem dX0_heatNow_17 : decode cX0_heatNow 17 = .ok (.getfield 120, 3) := by decide +kernel
theorem dX0_heatNow_20 : decode cX0_heatNow 20 = .ok (.iload_n 1, 1) := by decide +kernel
theorem dX0_heatNow_21 : decode cX0_heatNow 21 = .ok (.iaload, 1) := by decide +kernel
theorem dX0_heatNow_22 : decode cX0_heatNow 22 = .ok (.ireturn, 1) := by decide +kernel
theorem dX0_heatNow_23 : decode cX0_heatNow 23 = .ok (.aload_n 0, 1) := by decide +kernel
theorem dX0_heatNow_24 : decode cX0_heatNow 24 = .ok (.invokevirtual 73, 3) := by decide +kernel
theorem dX0_heatNow_27 : decode cX0_heatNow 27 = .ok (.aload_n 0, 1) := by decide +kernel
theorem dX0_heatNow_28 : decode cX0_heatNow 28 = .ok (.getfield 25, 3) := by decide +kernel
theorem dX0_heatNow_31 : decode cX0_heatNow 31 = .ok (.getfield 70, 3) := by decide +kernel
theorem dX0_heatNow_34 : decode cX0_heatNow 34 = .ok (.iload_n 1, 1) := by decide +kernel
theorem dX0_heatNow_35 : decode cX0_heatNow 35 = .ok (.iaload, 1) := by decide +kernel
theorem dX0_heatNow_36 : decode cX0_heatNow 36 = .ok (.isub, 1) := by decide +kernel
theorem dX0_heatNow_37 : decode cX0_heatNow 37 = .ok (.istore_n 2, 1) := by decide +kernel
theorem dX0_heatNow_38 : decode cX0_heatNow 38 = .ok (.iconst 0, 1) := by decide +kernel
theorem dX0_heatNow_39 : decode cX0_heatNow 39 = .ok (.aload_n 0, 1) := by decide +kernel
theorem dX0_heatNow_40 : decode cX0_heatNow 40 = .ok (.getfield 25, 3) := by decide +kernel
theorem dX0_heatNow_43 : decode cX0_heatNow 43 = .ok (.getfield 67, 3) := by decide +kernel
theorem dX0_heatNow_46 : decode cX0_heatNow 46 = .ok (.iload_n 1, 1) := by decide +kernel
theorem dX0_heatNow_47 : decode cX0_heatNow 47 = .ok (.iaload, 1) := by decide +kernel
theorem dX0_heatNow_48 : decode cX0_heatNow 48 = .ok (.aload_n 0, 1) := by decide +kernel
theorem dX0_heatNow_49 : decode cX0_heatNow 49 = .ok (.getfield 9, 3) := by decide +kernel
theorem dX0_heatNow_52 : decode cX0_heatNow 52 = .ok (.iconst 2, 1) := by decide +kernel
theorem dX0_heatNow_53 : decode cX0_heatNow 53 = .ok (.iaload, 1) := by decide +kernel
theorem dX0_heatNow_54 : decode cX0_heatNow 54 = .ok (.iload_n 2, 1) := by decide +kernel
theorem dX0_heatNow_55 : decode cX0_heatNow 55 = .ok (.imul, 1) := by decide +kernel
theorem dX0_heatNow_56 : decode cX0_heatNow 56 = .ok (.isub, 1) := by decide +kernel
theorem dX0_heatNow_57 : decode cX0_heatNow 57 = .ok (.invokestatic 136, 3) := by decide +kernel
theorem dX0_heatNow_60 : decode cX0_heatNow 60 = .ok (.ireturn, 1) := by decide +kernel
set_option maxRecDepth 20000 in
theorem ggX0_heatInDrawer_X3_lies : GoodIn wsX0_heatInDrawer wsX3_lies := goodIn_r _ [7, 8, 9, 33, 34, 35, 36, 37, 38, 39, 40] (by decide +kernel) (by decide +kernel)
set_option maxRecDepth 20000 in
theorem gX0_heatInDrawer_X3_lies : GoodIn wsX0_heatInDrawer (wsV RX0 128 RX3 yX3_lies wsX3_lies) := goodIn_app (goodIn_of _ (by decide +kernel)) ggX0_heatInDrawer_X3_lies
set_option maxRecDepth 20000 in
theorem ggX0_heatInDrawer_X0_heatNow : GoodIn wsX0_heatInDrawer wsX0_heatNow := goodIn_r _ [14, 1, 15, 16, 17, 18, 19, 20, 21, 22, 23, 24, 25, 26, 13, 27, 28, 29, 30, 31, 32, 33, 34, 35, 36, 37, 38, 39, 40] (by decide +kernel) (by decide +kernel)
set_option maxRecDepth 20000 in
theorem gX0_heatInDrawer_X0_heatNow : GoodIn wsX0_heatInDrawer (wsV RX0 101 RX0 yX0_heatNow wsX0_heatNow) := goodIn_app (goodIn_of _ (by decide +kernel)) ggX0_heatInDrawer_X0_heatNow
theorem dX0_heatInDrawer_0 : decode cX0_heatInDrawer 0 = .ok (.iconst 0, 1) := by decide +kernel
theorem dX0_heatInDrawer_1 : decode cX0_heatInDrawer 1 = .ok (.istore_n 2, 1) := by decide +kernel
theorem dX0_heatInDrawer_2 : decode cX0_heatInDrawer 2 = .ok (.iconst 0, 1) := by decide +kernel
theorem dX0_heatInDrawer_3 : decode cX0_heatInDrawer 3 = .ok (.istore_n 3, 1) := by decide +kernel
theorem dX0_heatInDrawer_4 : decode cX0_heatInDrawer 4 = .ok (.iload_n 3, 1) := by decide +kernel
theorem dX0_heatInDrawer_5 : decode cX0_heatInDrawer 5 = .ok (.aload_n 0, 1) := by decide +kernel
theorem dX0_heatInDrawer_6 : decode cX0_heatInDrawer 6 = .ok (.getfield 25, 3) := by decide +kernel
theorem dX0_heatInDrawer_9 : decode cX0_heatInDrawer 9 = .ok (.getfield 54, 3) := by decide +kernel
theorem dX0_heatInDrawer_12 : decode cX0_heatInDrawer 12 = .ok (.if_icmp .ge 29, 3) := by decide +kernel
theorem dX0_heatInDrawer_15 : decode cX0_heatInDrawer 15 = .ok (.aload_n 0, 1) := by decide +kernel
theorem dX0_heatInDrawer_16 : decode cX0_heatInDrawer 16 = .ok (.getfield 25, 3) := by decide +kernel
theorem dX0_heatInDrawer_19 : decode cX0_heatInDrawer 19 = .ok (.iload_n 3, 1) := by decide +kernel
theorem dX0_heatInDrawer_20 : decode cX0_heatInDrawer 20 = .ok (.iload_n 1, 1) := by decide +kernel
theorem dX0_heatInDrawer_21 : decode cX0_heatInDrawer 21 = .ok (.invokevirtual 128, 3) := by decide +kernel
theorem dX0_heatInDrawer_24 : decode cX0_heatInDrawer 24 = .ok (.ifCond .eq 11, 3) := by decide +kernel
theorem dX0_heatInDrawer_27 : decode cX0_heatInDrawer 27 = .ok (.iload_n 2, 1) := by decide +kernel
theorem dX0_heatInDrawer_28 : decode cX0_heatInDrawer 28 = .ok (.aload_n 0, 1) := by decide +kernel
theorem dX0_heatInDrawer_29 : decode cX0_heatInDrawer 29 = .ok (.iload_n 3, 1) := by decide +kernel
theorem dX0_heatInDrawer_30 : decode cX0_heatInDrawer 30 = .ok (.invokevirtual 101, 3) := by decide +kernel
theorem dX0_heatInDrawer_33 : decode cX0_heatInDrawer 33 = .ok (.iadd, 1) := by decide +kernel
theorem dX0_heatInDrawer_34 : decode cX0_heatInDrawer 34 = .ok (.istore_n 2, 1) := by decide +kernel
theorem dX0_heatInDrawer_35 : decode cX0_heatInDrawer 35 = .ok (.iinc 3 1, 3) := by decide +kernel
theorem dX0_heatInDrawer_38 : decode cX0_heatInDrawer 38 = .ok (.goto (-34), 3) := by decide +kernel
theorem dX0_heatInDrawer_41 : decode cX0_heatInDrawer 41 = .ok (.iload_n 2, 1) := by decide +kernel
theorem dX0_heatInDrawer_42 : decode cX0_heatInDrawer 42 = .ok (.ireturn, 1) := by decide +kernel
set_option maxRecDepth 20000 in
theorem ggX0_hoursTillSent_X6_isMood : GoodIn wsX0_hoursTillSent wsX6_isMood := goodIn_r _ [11] (by decide +kernel) (by decide +kernel)
set_option maxRecDepth 20000 in
theorem gX0_hoursTillSent_X6_isMood_n47 : GoodIn wsX0_hoursTillSent (wsX6_isMood) := ggX0_hoursTillSent_X6_isMood
set_option maxRecDepth 20000 in
theorem ggX0_hoursTillSent_X0_readyDay : GoodIn wsX0_hoursTillSent wsX0_readyDay := goodIn_r _ [16, 1, 17, 18, 19, 20, 8, 21, 4, 5, 6, 7, 38, 39, 40, 41, 42, 43, 44, 45, 46, 47, 48, 49, 50, 51, 52, 53] (by decide +kernel) (by decide +kernel)
set_option maxRecDepth 20000 in
theorem gX0_hoursTillSent_X0_readyDay : GoodIn wsX0_hoursTillSent (wsV RX0 132 RX0 yX0_readyDay wsX0_readyDay) := goodIn_app (goodIn_of _ (by decide +kernel)) ggX0_hoursTillSent_X0_readyDay
set_option maxRecDepth 20000 in
theorem ggX0_hoursTillSent_J9_floorMod_7cf53 : GoodIn wsX0_hoursTillSent wsJ9_floorMod_7cf53 := goodIn_r _ [25] (by decide +kernel) (by decide +kernel)
set_option maxRecDepth 20000 in
theorem gX0_hoursTillSent_J9_floorMod_7cf53 : GoodIn wsX0_hoursTillSent (va_wsS RX0 141 yJ9_floorMod_7cf53 wsJ9_floorMod_7cf53) := goodIn_app (goodIn_of _ (by decide +kernel)) ggX0_hoursTillSent_J9_floorMod_7cf53
set_option maxRecDepth 20000 in
theorem ggX0_hoursTillSent_X1_isLockedAt : GoodIn wsX0_hoursTillSent wsX1_isLockedAt := goodIn_r _ [30, 31, 32, 33, 34, 35, 6, 36, 37, 23, 24, 25, 50, 51, 52, 53] (by decide +kernel) (by decide +kernel)
set_option maxRecDepth 20000 in
theorem gX0_hoursTillSent_X1_isLockedAt : GoodIn wsX0_hoursTillSent (wsV RX0 144 RX1 yX1_isLockedAt wsX1_isLockedAt) := goodIn_app (goodIn_of _ (by decide +kernel)) ggX0_hoursTillSent_X1_isLockedAt
theorem dX0_hoursTillSent_0 : decode cX0_hoursTillSent 0 = .ok (.aload_n 0, 1) := by decide +kernel
theorem dX0_hoursTillSent_1 : decode cX0_hoursTillSent 1 = .ok (.getfield 25, 3) := by decide +kernel
theorem dX0_hoursTillSent_4 : decode cX0_hoursTillSent 4 = .ok (.getfield 64, 3) := by decide +kernel
theorem dX0_hoursTillSent_7 : decode cX0_hoursTillSent 7 = .ok (.iload_n 1, 1) := by decide +kernel
theorem dX0_hoursTillSent_8 : decode cX0_hoursTillSent 8 = .ok (.iaload, 1) := by decide +kernel
theorem dX0_hoursTillSent_9 : decode cX0_hoursTillSent 9 = .ok (.istore 4, 2) := by decide +kernel
theorem dX0_hoursTillSent_11 : decode cX0_hoursTillSent 11 = .ok (.iload 4, 2) := by decide +kernel
theorem dX0_hoursTillSent_13 : decode cX0_hoursTillSent 13 = .ok (.invokestatic 47, 3) := by decide +kernel
theorem dX0_hoursTillSent_16 : decode cX0_hoursTillSent 16 = .ok (.ifCond .ne 6, 3) := by decide +kernel
theorem dX0_hoursTillSent_19 : decode cX0_hoursTillSent 19 = .ok (.bipush (-6), 2) := by decide +kernel
theorem dX0_hoursTillSent_21 : decode cX0_hoursTillSent 21 = .ok (.ireturn, 1) := by decide +kernel
theorem dX0_hoursTillSent_22 : decode cX0_hoursTillSent 22 = .ok (.aload_n 0, 1) := by decide +kernel
theorem dX0_hoursTillSent_23 : decode cX0_hoursTillSent 23 = .ok (.getfield 33, 3) := by decide +kernel
theorem dX0_hoursTillSent_26 : decode cX0_hoursTillSent 26 = .ok (.aload_n 0, 1) := by decide +kernel
theorem dX0_hoursTillSent_27 : decode cX0_hoursTillSent 27 = .ok (.iload_n 1, 1) := by decide +kernel
theorem dX0_hoursTillSent_28 : decode cX0_hoursTillSent 28 = .ok (.iload 4, 2) := by decide +kernel
theorem dX0_hoursTillSent_30 : decode cX0_hoursTillSent 30 = .ok (.invokevirtual 132, 3) := by decide +kernel
theorem dX0_hoursTillSent_33 : decode cX0_hoursTillSent 33 = .ok (.bipush 24, 2) := by decide +kernel
theorem dX0_hoursTillSent_35 : decode cX0_hoursTillSent 35 = .ok (.imul, 1) := by decide +kernel
theorem dX0_hoursTillSent_36 : decode cX0_hoursTillSent 36 = .ok (.invokestatic 136, 3) := by decide +kernel
theorem dX0_hoursTillSent_39 : decode cX0_hoursTillSent 39 = .ok (.istore 5, 2) := by decide +kernel
theorem dX0_hoursTillSent_41 : decode cX0_hoursTillSent 41 = .ok (.iload 5, 2) := by decide +kernel
theorem dX0_hoursTillSent_43 : decode cX0_hoursTillSent 43 = .ok (.iload_n 2, 1) := by decide +kernel
theorem dX0_hoursTillSent_44 : decode cX0_hoursTillSent 44 = .ok (.iload 5, 2) := by decide +kernel
theorem dX0_hoursTillSent_46 : decode cX0_hoursTillSent 46 = .ok (.isub, 1) := by decide +kernel
theorem dX0_hoursTillSent_47 : decode cX0_hoursTillSent 47 = .ok (.bipush 24, 2) := by decide +kernel
theorem dX0_hoursTillSent_49 : decode cX0_hoursTillSent 49 = .ok (.invokestatic 141, 3) := by decide +kernel
theorem dX0_hoursTillSent_52 : decode cX0_hoursTillSent 52 = .ok (.iadd, 1) := by decide +kernel
theorem dX0_hoursTillSent_53 : decode cX0_hoursTillSent 53 = .ok (.istore 6, 2) := by decide +kernel
theorem dX0_hoursTillSent_55 : decode cX0_hoursTillSent 55 = .ok (.iconst 0, 1) := by decide +kernel
theorem dX0_hoursTillSent_56 : decode cX0_hoursTillSent 56 = .ok (.istore 7, 2) := by decide +kernel
theorem dX0_hoursTillSent_58 : decode cX0_hoursTillSent 58 = .ok (.iload 7, 2) := by decide +kernel
theorem dX0_hoursTillSent_60 : decode cX0_hoursTillSent 60 = .ok (.iconst 2, 1) := by decide +kernel
theorem dX0_hoursTillSent_61 : decode cX0_hoursTillSent 61 = .ok (.if_icmp .ge 54, 3) := by decide +kernel
theorem dX0_hoursTillSent_64 : decode cX0_hoursTillSent 64 = .ok (.iload 6, 2) := by decide +kernel
theorem dX0_hoursTillSent_66 : decode cX0_hoursTillSent 66 = .ok (.aload_n 0, 1) := by decide +kernel
theorem dX0_hoursTillSent_67 : decode cX0_hoursTillSent 67 = .ok (.getfield 33, 3) := by decide +kernel
theorem dX0_hoursTillSent_70 : decode cX0_hoursTillSent 70 = .ok (.isub, 1) := by decide +kernel
theorem dX0_hoursTillSent_71 : decode cX0_hoursTillSent 71 = .ok (.iload_n 3, 1) := by decide +kernel
theorem dX0_hoursTillSent_72 : decode cX0_hoursTillSent 72 = .ok (.if_icmp .lt 6, 3) := by decide +kernel
theorem dX0_hoursTillSent_75 : decode cX0_hoursTillSent 75 = .ok (.bipush (-6), 2) := by decide +kernel
theorem dX0_hoursTillSent_77 : decode cX0_hoursTillSent 77 = .ok (.ireturn, 1) := by decide +kernel
theorem dX0_hoursTillSent_78 : decode cX0_hoursTillSent 78 = .ok (.aload_n 0, 1) := by decide +kernel
theorem dX0_hoursTillSent_79 : decode cX0_hoursTillSent 79 = .ok (.getfield 18, 3) := by decide +kernel
theorem dX0_hoursTillSent_82 : decode cX0_hoursTillSent 82 = .ok (.iload 4, 2) := by decide +kernel
theorem dX0_hoursTillSent_84 : decode cX0_hoursTillSent 84 = .ok (.aload_n 0, 1) := by decide +kernel
theorem dX0_hoursTillSent_85 : decode cX0_hoursTillSent 85 = .ok (.getfield 33, 3) := by decide +kernel
theorem dX0_hoursTillSent_88 : decode cX0_hoursTillSent 88 = .ok (.iload 6, 2) := by decide +kernel
theorem dX0_hoursTillSent_90 : decode cX0_hoursTillSent 90 = .ok (.invokevirtual 144, 3) := by decide +kernel
theorem dX0_hoursTillSent_93 : decode cX0_hoursTillSent 93 = .ok (.ifCond .ne 13, 3) := by decide +kernel
theorem dX0_hoursTillSent_96 : decode cX0_hoursTillSent 96 = .ok (.iload 6, 2) := by decide +kernel
theorem dX0_hoursTillSent_98 : decode cX0_hoursTillSent 98 = .ok (.aload_n 0, 1) := by decide +kernel
theorem dX0_hoursTillSent_99 : decode cX0_hoursTillSent 99 = .ok (.getfield 33, 3) := by decide +kernel
theorem dX0_hoursTillSent_102 : decode cX0_hoursTillSent 102 = .ok (.isub, 1) := by decide +kernel
theorem dX0_hoursTillSent_103 : decode cX0_hoursTillSent 103 = .ok (.iconst 1, 1) := by decide +kernel
theorem dX0_hoursTillSent_104 : decode cX0_hoursTillSent 104 = .ok (.iadd, 1) := by decide +kernel
theorem dX0_hoursTillSent_105 : decode cX0_hoursTillSent 105 = .ok (.ireturn, 1) := by decide +kernel
theorem dX0_hoursTillSent_106 : decode cX0_hoursTillSent 106 = .ok (.iinc 6 24, 3) := by decide +kernel
theorem dX0_hoursTillSent_109 : decode cX0_hoursTillSent 109 = .ok (.iinc 7 1, 3) := by decide +kernel
theorem dX0_hoursTillSent_112 : decode cX0_hoursTillSent 112 = .ok (.goto (-54), 3) := by decide +kernel
theorem dX0_hoursTillSent_115 : decode cX0_hoursTillSent 115 = .ok (.bipush (-6), 2) := by decide +kernel
theorem dX0_hoursTillSent_117 : decode cX0_hoursTillSent 117 = .ok (.ireturn, 1) := by decide +kernel
set_option maxRecDepth 20000 in
theorem ggX0_sentWithin_X0_hoursTillSent : GoodIn wsX0_sentWithin wsX0_hoursTillSent := goodIn_r _ [8, 1, 9, 10, 11, 12, 13, 14, 15, 16, 17, 18, 19, 20, 21, 7, 22, 23, 24, 25, 26, 27, 28, 29, 30, 31, 32, 33, 34, 35, 36, 37, 38, 39, 40, 41, 42, 43, 44, 45, 46, 47, 48, 49, 50, 51, 52, 53, 54, 55, 56, 57, 58, 59] (by decide +kernel) (by decide +kernel)
set_option maxRecDepth 20000 in
theorem gX0_sentWithin_X0_hoursTillSent : GoodIn wsX0_sentWithin (wsV RX0 148 RX0 yX0_hoursTillSent wsX0_hoursTillSent) := goodIn_app (goodIn_of _ (by decide +kernel)) ggX0_sentWithin_X0_hoursTillSent
theorem dX0_sentWithin_0 : decode cX0_sentWithin 0 = .ok (.iconst 0, 1) := by decide +kernel
theorem dX0_sentWithin_1 : decode cX0_sentWithin 1 = .ok (.istore_n 3, 1) := by decide +kernel
theorem dX0_sentWithin_2 : decode cX0_sentWithin 2 = .ok (.iconst 0, 1) := by decide +kernel
theorem dX0_sentWithin_3 : decode cX0_sentWithin 3 = .ok (.istore 4, 2) := by decide +kernel
theorem dX0_sentWithin_5 : decode cX0_sentWithin 5 = .ok (.iload 4, 2) := by decide +kernel
theorem dX0_sentWithin_7 : decode cX0_sentWithin 7 = .ok (.aload_n 0, 1) := by decide +kernel
theorem dX0_sentWithin_8 : decode cX0_sentWithin 8 = .ok (.getfield 25, 3) := by decide +kernel
theorem dX0_sentWithin_11 : decode cX0_sentWithin 11 = .ok (.getfield 54, 3) := by decide +kernel
theorem dX0_sentWithin_14 : decode cX0_sentWithin 14 = .ok (.if_icmp .ge 38, 3) := by decide +kernel
theorem dX0_sentWithin_17 : decode cX0_sentWithin 17 = .ok (.aload_n 0, 1) := by decide +kernel
theorem dX0_sentWithin_18 : decode cX0_sentWithin 18 = .ok (.getfield 25, 3) := by decide +kernel
theorem dX0_sentWithin_21 : decode cX0_sentWithin 21 = .ok (.getfield 61, 3) := by decide +kernel
theorem dX0_sentWithin_24 : decode cX0_sentWithin 24 = .ok (.iload 4, 2) := by decide +kernel
theorem dX0_sentWithin_26 : decode cX0_sentWithin 26 = .ok (.iaload, 1) := by decide +kernel
theorem dX0_sentWithin_27 : decode cX0_sentWithin 27 = .ok (.ifCond .ne 19, 3) := by decide +kernel
theorem dX0_sentWithin_30 : decode cX0_sentWithin 30 = .ok (.aload_n 0, 1) := by decide +kernel
theorem dX0_sentWithin_31 : decode cX0_sentWithin 31 = .ok (.iload 4, 2) := by decide +kernel
theorem dX0_sentWithin_33 : decode cX0_sentWithin 33 = .ok (.iload_n 1, 1) := by decide +kernel
theorem dX0_sentWithin_34 : decode cX0_sentWithin 34 = .ok (.iload_n 2, 1) := by decide +kernel
theorem dX0_sentWithin_35 : decode cX0_sentWithin 35 = .ok (.invokevirtual 148, 3) := by decide +kernel
theorem dX0_sentWithin_38 : decode cX0_sentWithin 38 = .ok (.bipush (-6), 2) := by decide +kernel
theorem dX0_sentWithin_40 : decode cX0_sentWithin 40 = .ok (.if_icmp .eq 6, 3) := by decide +kernel
theorem dX0_sentWithin_43 : decode cX0_sentWithin 43 = .ok (.iinc 3 1, 3) := by decide +kernel
theorem dX0_sentWithin_46 : decode cX0_sentWithin 46 = .ok (.iinc 4 1, 3) := by decide +kernel
theorem dX0_sentWithin_49 : decode cX0_sentWithin 49 = .ok (.goto (-44), 3) := by decide +kernel
theorem dX0_sentWithin_52 : decode cX0_sentWithin 52 = .ok (.iload_n 3, 1) := by decide +kernel
theorem dX0_sentWithin_53 : decode cX0_sentWithin 53 = .ok (.ireturn, 1) := by decide +kernel
theorem dX1_init_0 : decode cX1_init 0 = .ok (.aload_n 0, 1) := by decide +kernel
theorem dX1_init_1 : decode cX1_init 1 = .ok (.invokespecial 3, 3) := by decide +kernel
theorem dX1_init_4 : decode cX1_init 4 = .ok (.aload_n 0, 1) := by decide +kernel
theorem dX1_init_5 : decode cX1_init 5 = .ok (.bipush 6, 2) := by decide +kernel
theorem dX1_init_7 : decode cX1_init 7 = .ok (.newarray .int, 2) := by decide +kernel
theorem dX1_init_9 : decode cX1_init 9 = .ok (.dup, 1) := by decide +kernel
theorem dX1_init_10 : decode cX1_init 10 = .ok (.iconst 0, 1) := by decide +kernel
theorem dX1_init_11 : decode cX1_init 11 = .ok (.iconst 2, 1) := by decide +kernel
theorem dX1_init_12 : decode cX1_init 12 = .ok (.iastore, 1) := by decide +kernel
theorem dX1_init_13 : decode cX1_init 13 = .ok (.dup, 1) := by decide +kernel
theorem dX1_init_14 : decode cX1_init 14 = .ok (.iconst 1, 1) := by decide +kernel
theorem dX1_init_15 : decode cX1_init 15 = .ok (.iconst 2, 1) := by decide +kernel
theorem dX1_init_16 : decode cX1_init 16 = .ok (.iastore, 1) := by decide +kernel
theorem dX1_init_17 : decode cX1_init 17 = .ok (.dup, 1) := by decide +kernel
theorem dX1_init_18 : decode cX1_init 18 = .ok (.iconst 2, 1) := by decide +kernel
theorem dX1_init_19 : decode cX1_init 19 = .ok (.iconst 2, 1) := by decide +kernel
theorem dX1_init_20 : decode cX1_init 20 = .ok (.iastore, 1) := by decide +kernel
theorem dX1_init_21 : decode cX1_init 21 = .ok (.dup, 1) := by decide +kernel
theorem dX1_init_22 : decode cX1_init 22 = .ok (.iconst 3, 1) := by decide +kernel
theorem dX1_init_23 : decode cX1_init 23 = .ok (.iconst 2, 1) := by decide +kernel
theorem dX1_init_24 : decode cX1_init 24 = .ok (.iastore, 1) := by decide +kernel
theorem dX1_init_25 : decode cX1_init 25 = .ok (.dup, 1) := by decide +kernel
theorem dX1_init_26 : decode cX1_init 26 = .ok (.iconst 4, 1) := by decide +kernel
theorem dX1_init_27 : decode cX1_init 27 = .ok (.iconst 2, 1) := by decide +kernel
theorem dX1_init_28 : decode cX1_init 28 = .ok (.iastore, 1) := by decide +kernel
theorem dX1_init_29 : decode cX1_init 29 = .ok (.dup, 1) := by decide +kernel
theorem dX1_init_30 : decode cX1_init 30 = .ok (.iconst 5, 1) := by decide +kernel
theorem dX1_init_31 : decode cX1_init 31 = .ok (.iconst 2, 1) := by decide +kernel
theorem dX1_init_32 : decode cX1_init 32 = .ok (.iastore, 1) := by decide +kernel
theorem dX1_init_33 : decode cX1_init 33 = .ok (.putfield 9, 3) := by decide +kernel
theorem dX1_init_36 : decode cX1_init 36 = .ok (.aload_n 0, 1) := by decide +kernel
theorem dX1_init_37 : decode cX1_init 37 = .ok (.bipush 6, 2) := by decide +kernel
theorem dX1_init_39 : decode cX1_init 39 = .ok (.newarray .int, 2) := by decide +kernel
theorem dX1_init_41 : decode cX1_init 41 = .ok (.putfield 15, 3) := by decide +kernel
theorem dX1_init_44 : decode cX1_init 44 = .ok (.aload_n 0, 1) := by decide +kernel
theorem dX1_init_45 : decode cX1_init 45 = .ok (.bipush 6, 2) := by decide +kernel
theorem dX1_init_47 : decode cX1_init 47 = .ok (.newarray .int, 2) := by decide +kernel
theorem dX1_init_49 : decode cX1_init 49 = .ok (.dup, 1) := by decide +kernel
theorem dX1_init_50 : decode cX1_init 50 = .ok (.iconst 0, 1) := by decide +kernel
theorem dX1_init_51 : decode cX1_init 51 = .ok (.bipush (-6), 2) := by decide +kernel
theorem dX1_init_53 : decode cX1_init 53 = .ok (.iastore, 1) := by decide +kernel
theorem dX1_init_54 : decode cX1_init 54 = .ok (.dup, 1) := by decide +kernel
theorem dX1_init_55 : decode cX1_init 55 = .ok (.iconst 1, 1) := by decide +kernel
theorem dX1_init_56 : decode cX1_init 56 = .ok (.bipush (-6), 2) := by decide +kernel
theorem dX1_init_58 : decode cX1_init 58 = .ok (.iastore, 1) := by decide +kernel
theorem dX1_init_59 : decode cX1_init 59 = .ok (.dup, 1) := by decide +kernel
theorem dX1_init_60 : decode cX1_init 60 = .ok (.iconst 2, 1) := by decide +kernel
theorem dX1_init_61 : decode cX1_init 61 = .ok (.bipush (-6), 2) := by decide +kernel
theorem dX1_init_63 : decode cX1_init 63 = .ok (.iastore, 1) := by decide +kernel
theorem dX1_init_64 : decode cX1_init 64 = .ok (.dup, 1) := by decide +kernel
theorem dX1_init_65 : decode cX1_init 65 = .ok (.iconst 3, 1) := by decide +kernel
theorem dX1_init_66 : decode cX1_init 66 = .ok (.bipush (-6), 2) := by decide +kernel
theorem dX1_init_68 : decode cX1_init 68 = .ok (.iastore, 1) := by decide +kernel
theorem dX1_init_69 : decode cX1_init 69 = .ok (.dup, 1) := by decide +kernel
theorem dX1_init_70 : decode cX1_init 70 = .ok (.iconst 4, 1) := by decide +kernel
theorem dX1_init_71 : decode cX1_init 71 = .ok (.bipush (-6), 2) := by decide +kernel
theorem dX1_init_73 : decode cX1_init 73 = .ok (.iastore, 1) := by decide +kernel
theorem dX1_init_74 : decode cX1_init 74 = .ok (.dup, 1) := by decide +kernel
theorem dX1_init_75 : decode cX1_init 75 = .ok (.iconst 5, 1) := by decide +kernel
theorem dX1_init_76 : decode cX1_init 76 = .ok (.bipush (-6), 2) := by decide +kernel
theorem dX1_init_78 : decode cX1_init 78 = .ok (.iastore, 1) := by decide +kernel
theorem dX1_init_79 : decode cX1_init 79 = .ok (.putfield 18, 3) := by decide +kernel
theorem dX1_init_82 : decode cX1_init 82 = .ok (.aload_n 0, 1) := by decide +kernel
theorem dX1_init_83 : decode cX1_init 83 = .ok (.bipush 6, 2) := by decide +kernel
theorem dX1_init_85 : decode cX1_init 85 = .ok (.newarray .int, 2) := by decide +kernel
theorem dX1_init_87 : decode cX1_init 87 = .ok (.dup, 1) := by decide +kernel
theorem dX1_init_88 : decode cX1_init 88 = .ok (.iconst 0, 1) := by decide +kernel
theorem dX1_init_89 : decode cX1_init 89 = .ok (.bipush (-6), 2) := by decide +kernel
theorem dX1_init_91 : decode cX1_init 91 = .ok (.iastore, 1) := by decide +kernel
theorem dX1_init_92 : decode cX1_init 92 = .ok (.dup, 1) := by decide +kernel
theorem dX1_init_93 : decode cX1_init 93 = .ok (.iconst 1, 1) := by decide +kernel
theorem dX1_init_94 : decode cX1_init 94 = .ok (.bipush (-6), 2) := by decide +kernel
theorem dX1_init_96 : decode cX1_init 96 = .ok (.iastore, 1) := by decide +kernel
theorem dX1_init_97 : decode cX1_init 97 = .ok (.dup, 1) := by decide +kernel
theorem dX1_init_98 : decode cX1_init 98 = .ok (.iconst 2, 1) := by decide +kernel
theorem dX1_init_99 : decode cX1_init 99 = .ok (.bipush (-6), 2) := by decide +kernel
theorem dX1_init_101 : decode cX1_init 101 = .ok (.iastore, 1) := by decide +kernel
theorem dX1_init_102 : decode cX1_init 102 = .ok (.dup, 1) := by decide +kernel
theorem dX1_init_103 : decode cX1_init 103 = .ok (.iconst 3, 1) := by decide +kernel
theorem dX1_init_104 : decode cX1_init 104 = .ok (.bipush (-6), 2) := by decide +kernel
theorem dX1_init_106 : decode cX1_init 106 = .ok (.iastore, 1) := by decide +kernel
theorem dX1_init_107 : decode cX1_init 107 = .ok (.dup, 1) := by decide +kernel
theorem dX1_init_108 : decode cX1_init 108 = .ok (.iconst 4, 1) := by decide +kernel
theorem dX1_init_109 : decode cX1_init 109 = .ok (.bipush (-6), 2) := by decide +kernel
theorem dX1_init_111 : decode cX1_init 111 = .ok (.iastore, 1) := by decide +kernel
theorem dX1_init_112 : decode cX1_init 112 = .ok (.dup, 1) := by decide +kernel
theorem dX1_init_113 : decode cX1_init 113 = .ok (.iconst 5, 1) := by decide +kernel
theorem dX1_init_114 : decode cX1_init 114 = .ok (.bipush (-6), 2) := by decide +kernel
theorem dX1_init_116 : decode cX1_init 116 = .ok (.iastore, 1) := by decide +kernel
theorem dX1_init_117 : decode cX1_init 117 = .ok (.putfield 21, 3) := by decide +kernel
theorem dX1_init_120 : decode cX1_init 120 = .ok (.return_, 1) := by decide +kernel
set_option maxRecDepth 20000 in
theorem ggX1_copyFrom_X6_copy : GoodIn wsX1_copyFrom wsX6_copy := goodIn_r _ [7, 8, 9, 10, 11, 12, 13, 14, 15] (by decide +kernel) (by decide +kernel)
set_option maxRecDepth 20000 in
theorem gX1_copyFrom_X6_copy_n24 : GoodIn wsX1_copyFrom (wsX6_copy) := ggX1_copyFrom_X6_copy
theorem dX1_copyFrom_0 : decode cX1_copyFrom 0 = .ok (.aload_n 1, 1) := by decide +kernel
theorem dX1_copyFrom_1 : decode cX1_copyFrom 1 = .ok (.getfield 9, 3) := by decide +kernel
theorem dX1_copyFrom_4 : decode cX1_copyFrom 4 = .ok (.aload_n 0, 1) := by decide +kernel
theorem dX1_copyFrom_5 : decode cX1_copyFrom 5 = .ok (.getfield 9, 3) := by decide +kernel
theorem dX1_copyFrom_8 : decode cX1_copyFrom 8 = .ok (.invokestatic 24, 3) := by decide +kernel
theorem dX1_copyFrom_11 : decode cX1_copyFrom 11 = .ok (.aload_n 1, 1) := by decide +kernel
theorem dX1_copyFrom_12 : decode cX1_copyFrom 12 = .ok (.getfield 15, 3) := by decide +kernel
theorem dX1_copyFrom_15 : decode cX1_copyFrom 15 = .ok (.aload_n 0, 1) := by decide +kernel
theorem dX1_copyFrom_16 : decode cX1_copyFrom 16 = .ok (.getfield 15, 3) := by decide +kernel
theorem dX1_copyFrom_19 : decode cX1_copyFrom 19 = .ok (.invokestatic 24, 3) := by decide +kernel
theorem dX1_copyFrom_22 : decode cX1_copyFrom 22 = .ok (.aload_n 1, 1) := by decide +kernel
theorem dX1_copyFrom_23 : decode cX1_copyFrom 23 = .ok (.getfield 18, 3) := by decide +kernel
theorem dX1_copyFrom_26 : decode cX1_copyFrom 26 = .ok (.aload_n 0, 1) := by decide +kernel
theorem dX1_copyFrom_27 : decode cX1_copyFrom 27 = .ok (.getfield 18, 3) := by decide +kernel
theorem dX1_copyFrom_30 : decode cX1_copyFrom 30 = .ok (.invokestatic 24, 3) := by decide +kernel
theorem dX1_copyFrom_33 : decode cX1_copyFrom 33 = .ok (.aload_n 1, 1) := by decide +kernel
theorem dX1_copyFrom_34 : decode cX1_copyFrom 34 = .ok (.getfield 21, 3) := by decide +kernel
theorem dX1_copyFrom_37 : decode cX1_copyFrom 37 = .ok (.aload_n 0, 1) := by decide +kernel
theorem dX1_copyFrom_38 : decode cX1_copyFrom 38 = .ok (.getfield 21, 3) := by decide +kernel
theorem dX1_copyFrom_41 : decode cX1_copyFrom 41 = .ok (.invokestatic 24, 3) := by decide +kernel
theorem dX1_copyFrom_44 : decode cX1_copyFrom 44 = .ok (.return_, 1) := by decide +kernel
theorem dX1_howManyLocked_0 : decode cX1_howManyLocked 0 = .ok (.iconst 0, 1) := by decide +kernel
theorem dX1_howManyLocked_1 : decode cX1_howManyLocked 1 = .ok (.istore_n 1, 1) := by decide +kernel
theorem dX1_howManyLocked_2 : decode cX1_howManyLocked 2 = .ok (.iconst 0, 1) := by decide +kernel
theorem dX1_howManyLocked_3 : decode cX1_howManyLocked 3 = .ok (.istore_n 2, 1) := by decide +kernel
theorem dX1_howManyLocked_4 : decode cX1_howManyLocked 4 = .ok (.iload_n 2, 1) := by decide +kernel
theorem dX1_howManyLocked_5 : decode cX1_howManyLocked 5 = .ok (.bipush 6, 2) := by decide +kernel
theorem dX1_howManyLocked_7 : decode cX1_howManyLocked 7 = .ok (.if_icmp .ge 18, 3) := by decide +kernel
theorem dX1_howManyLocked_10 : decode cX1_howManyLocked 10 = .ok (.iload_n 1, 1) := by decide +kernel
theorem dX1_howManyLocked_11 : decode cX1_howManyLocked 11 = .ok (.aload_n 0, 1) := by decide +kernel
theorem dX1_howManyLocked_12 : decode cX1_howManyLocked 12 = .ok (.getfield 15, 3) := by decide +kernel
theorem dX1_howManyLocked_15 : decode cX1_howManyLocked 15 = .ok (.iload_n 2, 1) := by decide +kernel
theorem dX1_howManyLocked_16 : decode cX1_howManyLocked 16 = .ok (.iaload, 1) := by decide +kernel
theorem dX1_howManyLocked_17 : decode cX1_howManyLocked 17 = .ok (.iadd, 1) := by decide +kernel
theorem dX1_howManyLocked_18 : decode cX1_howManyLocked 18 = .ok (.istore_n 1, 1) := by decide +kernel
theorem dX1_howManyLocked_19 : decode cX1_howManyLocked 19 = .ok (.iinc 2 1, 3) := by decide +kernel
theorem dX1_howManyLocked_22 : decode cX1_howManyLocked 22 = .ok (.goto (-18), 3) := by decide +kernel
theorem dX1_howManyLocked_25 : decode cX1_howManyLocked 25 = .ok (.iload_n 1, 1) := by decide +kernel
theorem dX1_howManyLocked_26 : decode cX1_howManyLocked 26 = .ok (.ireturn, 1) := by decide +kernel
theorem dX1_turnKeysBy_0 : decode cX1_turnKeysBy 0 = .ok (.iconst 0, 1) := by decide +kernel
theorem dX1_turnKeysBy_1 : decode cX1_turnKeysBy 1 = .ok (.istore_n 2, 1) := by decide +kernel
theorem dX1_turnKeysBy_2 : decode cX1_turnKeysBy 2 = .ok (.iload_n 2, 1) := by decide +kernel
theorem dX1_turnKeysBy_3 : decode cX1_turnKeysBy 3 = .ok (.bipush 6, 2) := by decide +kernel
theorem dX1_turnKeysBy_5 : decode cX1_turnKeysBy 5 = .ok (.if_icmp .ge 43, 3) := by decide +kernel
theorem dX1_turnKeysBy_8 : decode cX1_turnKeysBy 8 = .ok (.aload_n 0, 1) := by decide +kernel
theorem dX1_turnKeysBy_9 : decode cX1_turnKeysBy 9 = .ok (.getfield 18, 3) := by decide +kernel
theorem dX1_turnKeysBy_12 : decode cX1_turnKeysBy 12 = .ok (.iload_n 2, 1) := by decide +kernel
theorem dX1_turnKeysBy_13 : decode cX1_turnKeysBy 13 = .ok (.iaload, 1) := by decide +kernel
theorem dX1_turnKeysBy_14 : decode cX1_turnKeysBy 14 = .ok (.iload_n 1, 1) := by decide +kernel
theorem dX1_turnKeysBy_15 : decode cX1_turnKeysBy 15 = .ok (.if_icmp .ne 10, 3) := by decide +kernel
theorem dX1_turnKeysBy_18 : decode cX1_turnKeysBy 18 = .ok (.aload_n 0, 1) := by decide +kernel
theorem dX1_turnKeysBy_19 : decode cX1_turnKeysBy 19 = .ok (.getfield 15, 3) := by decide +kernel
theorem dX1_turnKeysBy_22 : decode cX1_turnKeysBy 22 = .ok (.iload_n 2, 1) := by decide +kernel
theorem dX1_turnKeysBy_23 : decode cX1_turnKeysBy 23 = .ok (.iconst 0, 1) := by decide +kernel
theorem dX1_turnKeysBy_24 : decode cX1_turnKeysBy 24 = .ok (.iastore, 1) := by decide +kernel
theorem dX1_turnKeysBy_25 : decode cX1_turnKeysBy 25 = .ok (.aload_n 0, 1) := by decide +kernel
theorem dX1_turnKeysBy_26 : decode cX1_turnKeysBy 26 = .ok (.getfield 21, 3) := by decide +kernel
theorem dX1_turnKeysBy_29 : decode cX1_turnKeysBy 29 = .ok (.iload_n 2, 1) := by decide +kernel
theorem dX1_turnKeysBy_30 : decode cX1_turnKeysBy 30 = .ok (.iaload, 1) := by decide +kernel
theorem dX1_turnKeysBy_31 : decode cX1_turnKeysBy 31 = .ok (.iload_n 1, 1) := by decide +kernel
theorem dX1_turnKeysBy_32 : decode cX1_turnKeysBy 32 = .ok (.if_icmp .ne 10, 3) := by decide +kernel
theorem dX1_turnKeysBy_35 : decode cX1_turnKeysBy 35 = .ok (.aload_n 0, 1) := by decide +kernel
theorem dX1_turnKeysBy_36 : decode cX1_turnKeysBy 36 = .ok (.getfield 15, 3) := by decide +kernel
theorem dX1_turnKeysBy_39 : decode cX1_turnKeysBy 39 = .ok (.iload_n 2, 1) := by decide +kernel
theorem dX1_turnKeysBy_40 : decode cX1_turnKeysBy 40 = .ok (.iconst 1, 1) := by decide +kernel
theorem dX1_turnKeysBy_41 : decode cX1_turnKeysBy 41 = .ok (.iastore, 1) := by decide +kernel
theorem dX1_turnKeysBy_42 : decode cX1_turnKeysBy 42 = .ok (.iinc 2 1, 3) := by decide +kernel
theorem dX1_turnKeysBy_45 : decode cX1_turnKeysBy 45 = .ok (.goto (-43), 3) := by decide +kernel
theorem dX1_turnKeysBy_48 : decode cX1_turnKeysBy 48 = .ok (.return_, 1) := by decide +kernel
set_option maxRecDepth 20000 in
theorem ggX1_isLockedAt_J9_floorMod_7cf53 : GoodIn wsX1_isLockedAt wsJ9_floorMod_7cf53 := goodIn_r _ [11] (by decide +kernel) (by decide +kernel)
set_option maxRecDepth 20000 in
theorem gX1_isLockedAt_J9_floorMod_7cf53 : GoodIn wsX1_isLockedAt (va_wsS RX1 28 yJ9_floorMod_7cf53 wsJ9_floorMod_7cf53) := goodIn_app (goodIn_of _ (by decide +kernel)) ggX1_isLockedAt_J9_floorMod_7cf53
theorem dX1_isLockedAt_0 : decode cX1_isLockedAt 0 = .ok (.aload_n 0, 1) := by decide +kernel
theorem dX1_isLockedAt_1 : decode cX1_isLockedAt 1 = .ok (.getfield 18, 3) := by decide +kernel
theorem dX1_isLockedAt_4 : decode cX1_isLockedAt 4 = .ok (.iload_n 1, 1) := by decide +kernel
theorem dX1_isLockedAt_5 : decode cX1_isLockedAt 5 = .ok (.iaload, 1) := by decide +kernel
theorem dX1_isLockedAt_6 : decode cX1_isLockedAt 6 = .ok (.bipush (-6), 2) := by decide +kernel
theorem dX1_isLockedAt_8 : decode cX1_isLockedAt 8 = .ok (.if_icmp .ne 19, 3) := by decide +kernel
theorem dX1_isLockedAt_11 : decode cX1_isLockedAt 11 = .ok (.aload_n 0, 1) := by decide +kernel
theorem dX1_isLockedAt_12 : decode cX1_isLockedAt 12 = .ok (.getfield 15, 3) := by decide +kernel
theorem dX1_isLockedAt_15 : decode cX1_isLockedAt 15 = .ok (.iload_n 1, 1) := by decide +kernel
theorem dX1_isLockedAt_16 : decode cX1_isLockedAt 16 = .ok (.iaload, 1) := by decide +kernel
theorem dX1_isLockedAt_17 : decode cX1_isLockedAt 17 = .ok (.iconst 1, 1) := by decide +kernel
theorem dX1_isLockedAt_18 : decode cX1_isLockedAt 18 = .ok (.if_icmp .ne 7, 3) := by decide +kernel
theorem dX1_isLockedAt_21 : decode cX1_isLockedAt 21 = .ok (.iconst 1, 1) := by decide +kernel
theorem dX1_isLockedAt_22 : decode cX1_isLockedAt 22 = .ok (.goto 4, 3) := by decide +kernel
theorem dX1_isLockedAt_25 : decode cX1_isLockedAt 25 = .ok (.iconst 0, 1) := by decide +kernel
theorem dX1_isLockedAt_26 : decode cX1_isLockedAt 26 = .ok (.ireturn, 1) := by decide +kernel
theorem dX1_isLockedAt_27 : decode cX1_isLockedAt 27 = .ok (.iload_n 3, 1) := by decide +kernel
theorem dX1_isLockedAt_28 : decode cX1_isLockedAt 28 = .ok (.aload_n 0, 1) := by decide +kernel
theorem dX1_isLockedAt_29 : decode cX1_isLockedAt 29 = .ok (.getfield 18, 3) := by decide +kernel
theorem dX1_isLockedAt_32 : decode cX1_isLockedAt 32 = .ok (.iload_n 1, 1) := by decide +kernel
theorem dX1_isLockedAt_33 : decode cX1_isLockedAt 33 = .ok (.iaload, 1) := by decide +kernel
theorem dX1_isLockedAt_34 : decode cX1_isLockedAt 34 = .ok (.isub, 1) := by decide +kernel
theorem dX1_isLockedAt_35 : decode cX1_isLockedAt 35 = .ok (.bipush 24, 2) := by decide +kernel
theorem dX1_isLockedAt_37 : decode cX1_isLockedAt 37 = .ok (.invokestatic 28, 3) := by decide +kernel
theorem dX1_isLockedAt_40 : decode cX1_isLockedAt 40 = .ok (.istore 4, 2) := by decide +kernel
theorem dX1_isLockedAt_42 : decode cX1_isLockedAt 42 = .ok (.iload_n 3, 1) := by decide +kernel
theorem dX1_isLockedAt_43 : decode cX1_isLockedAt 43 = .ok (.aload_n 0, 1) := by decide +kernel
theorem dX1_isLockedAt_44 : decode cX1_isLockedAt 44 = .ok (.getfield 21, 3) := by decide +kernel
theorem dX1_isLockedAt_47 : decode cX1_isLockedAt 47 = .ok (.iload_n 1, 1) := by decide +kernel
theorem dX1_isLockedAt_48 : decode cX1_isLockedAt 48 = .ok (.iaload, 1) := by decide +kernel
theorem dX1_isLockedAt_49 : decode cX1_isLockedAt 49 = .ok (.isub, 1) := by decide +kernel
theorem dX1_isLockedAt_50 : decode cX1_isLockedAt 50 = .ok (.bipush 24, 2) := by decide +kernel
theorem dX1_isLockedAt_52 : decode cX1_isLockedAt 52 = .ok (.invokestatic 28, 3) := by decide +kernel
theorem dX1_isLockedAt_55 : decode cX1_isLockedAt 55 = .ok (.istore 5, 2) := by decide +kernel
theorem dX1_isLockedAt_57 : decode cX1_isLockedAt 57 = .ok (.iload 4, 2) := by decide +kernel
theorem dX1_isLockedAt_59 : decode cX1_isLockedAt 59 = .ok (.iload 5, 2) := by decide +kernel
theorem dX1_isLockedAt_61 : decode cX1_isLockedAt 61 = .ok (.invokestatic 34, 3) := by decide +kernel
theorem dX1_isLockedAt_64 : decode cX1_isLockedAt 64 = .ok (.iload_n 3, 1) := by decide +kernel
theorem dX1_isLockedAt_65 : decode cX1_isLockedAt 65 = .ok (.iload_n 2, 1) := by decide +kernel
theorem dX1_isLockedAt_66 : decode cX1_isLockedAt 66 = .ok (.isub, 1) := by decide +kernel
theorem dX1_isLockedAt_67 : decode cX1_isLockedAt 67 = .ok (.if_icmp .le 19, 3) := by decide +kernel
theorem dX1_isLockedAt_70 : decode cX1_isLockedAt 70 = .ok (.aload_n 0, 1) := by decide +kernel
theorem dX1_isLockedAt_71 : decode cX1_isLockedAt 71 = .ok (.getfield 15, 3) := by decide +kernel
theorem dX1_isLockedAt_74 : decode cX1_isLockedAt 74 = .ok (.iload_n 1, 1) := by decide +kernel
theorem dX1_isLockedAt_75 : decode cX1_isLockedAt 75 = .ok (.iaload, 1) := by decide +kernel
theorem dX1_isLockedAt_76 : decode cX1_isLockedAt 76 = .ok (.iconst 1, 1) := by decide +kernel
theorem dX1_isLockedAt_77 : decode cX1_isLockedAt 77 = .ok (.if_icmp .ne 7, 3) := by decide +kernel
theorem dX1_isLockedAt_80 : decode cX1_isLockedAt 80 = .ok (.iconst 1, 1) := by decide +kernel
theorem dX1_isLockedAt_81 : decode cX1_isLockedAt 81 = .ok (.goto 4, 3) := by decide +kernel
theorem dX1_isLockedAt_84 : decode cX1_isLockedAt 84 = .ok (.iconst 0, 1) := by decide +kernel
theorem dX1_isLockedAt_85 : decode cX1_isLockedAt 85 = .ok (.ireturn, 1) := by decide +kernel
theorem dX1_isLockedAt_86 : decode cX1_isLockedAt 86 = .ok (.iload 5, 2) := by decide +kernel
theorem dX1_isLockedAt_88 : decode cX1_isLockedAt 88 = .ok (.iload 4, 2) := by decide +kernel
theorem dX1_isLockedAt_90 : decode cX1_isLockedAt 90 = .ok (.if_icmp .ge 7, 3) := by decide +kernel
theorem dX1_isLockedAt_93 : decode cX1_isLockedAt 93 = .ok (.iconst 1, 1) := by decide +kernel
theorem dX1_isLockedAt_94 : decode cX1_isLockedAt 94 = .ok (.goto 4, 3) := by decide +kernel
theorem dX1_isLockedAt_97 : decode cX1_isLockedAt 97 = .ok (.iconst 0, 1) := by decide +kernel
theorem dX1_isLockedAt_98 : decode cX1_isLockedAt 98 = .ok (.ireturn, 1) := by decide +kernel
theorem dX2_init_0 : decode cX2_init 0 = .ok (.aload_n 0, 1) := by decide +kernel
theorem dX2_init_1 : decode cX2_init 1 = .ok (.invokespecial 3, 3) := by decide +kernel
theorem dX2_init_4 : decode cX2_init 4 = .ok (.aload_n 0, 1) := by decide +kernel
theorem dX2_init_5 : decode cX2_init 5 = .ok (.bipush 7, 2) := by decide +kernel
theorem dX2_init_7 : decode cX2_init 7 = .ok (.anewarray 9, 3) := by decide +kernel
theorem dX2_init_10 : decode cX2_init 10 = .ok (.putfield 11, 3) := by decide +kernel
theorem dX2_init_13 : decode cX2_init 13 = .ok (.return_, 1) := by decide +kernel
set_option maxRecDepth 20000 in
theorem ggX2_prepare_X0_init : GoodIn wsX2_prepare wsX0_init := goodIn_r _ [7, 8, 9, 10, 11, 12, 13, 14, 15, 16, 17, 18, 19, 20, 21, 22, 23, 24, 25, 26, 27, 28, 29, 30, 31, 32, 33, 34, 35, 36, 37, 65, 66, 67, 68, 69, 70, 71, 72, 73, 74, 75, 76, 77, 78, 79, 80] (by decide +kernel) (by decide +kernel)
set_option maxRecDepth 20000 in
theorem gX2_prepare_X0_init_n21 : GoodIn wsX2_prepare (wsX0_init) := ggX2_prepare_X0_init
set_option maxRecDepth 20000 in
theorem ggX2_prepare_X0_copyFrom : GoodIn wsX2_prepare wsX0_copyFrom := goodIn_r _ [41, 12, 42, 16, 20, 43, 44, 45, 46, 47, 48, 49, 50, 51, 52, 53, 54, 55, 56, 15, 57, 24, 25, 26, 27, 58, 59, 60, 19, 61, 62, 31, 32, 33, 34, 35, 36, 37, 65, 66, 67, 68, 69, 70, 71, 72, 73, 74, 75, 76, 77, 78, 79, 80] (by decide +kernel) (by decide +kernel)
set_option maxRecDepth 20000 in
theorem gX2_prepare_X0_copyFrom : GoodIn wsX2_prepare (wsV RX2 22 RX0 yX0_copyFrom wsX0_copyFrom) := goodIn_app (goodIn_of _ (by decide +kernel)) ggX2_prepare_X0_copyFrom
theorem dX2_prepare_0 : decode cX2_prepare 0 = .ok (.aload_n 0, 1) := by decide +kernel
theorem dX2_prepare_1 : decode cX2_prepare 1 = .ok (.getfield 11, 3) := by decide +kernel
theorem dX2_prepare_4 : decode cX2_prepare 4 = .ok (.aload_n 0, 1) := by decide +kernel
theorem dX2_prepare_5 : decode cX2_prepare 5 = .ok (.getfield 17, 3) := by decide +kernel
theorem dX2_prepare_8 : decode cX2_prepare 8 = .ok (.aaload, 1) := by decide +kernel
theorem dX2_prepare_9 : decode cX2_prepare 9 = .ok (.astore_n 2, 1) := by decide +kernel
theorem dX2_prepare_10 : decode cX2_prepare 10 = .ok (.aload_n 2, 1) := by decide +kernel
theorem dX2_prepare_11 : decode cX2_prepare 11 = .ok (.ifnonnull 21, 3) := by decide +kernel
theorem dX2_prepare_14 : decode cX2_prepare 14 = .ok (.new 9, 3) := by decide +kernel
theorem dX2_prepare_17 : decode cX2_prepare 17 = .ok (.dup, 1) := by decide +kernel
theorem dX2_prepare_18 : decode cX2_prepare 18 = .ok (.invokespecial 21, 3) := by decide +kernel
theorem dX2_prepare_21 : decode cX2_prepare 21 = .ok (.astore_n 2, 1) := by decide +kernel
theorem dX2_prepare_22 : decode cX2_prepare 22 = .ok (.aload_n 0, 1) := by decide +kernel
theorem dX2_prepare_23 : decode cX2_prepare 23 = .ok (.getfield 11, 3) := by decide +kernel
theorem dX2_prepare_26 : decode cX2_prepare 26 = .ok (.aload_n 0, 1) := by decide +kernel
theorem dX2_prepare_27 : decode cX2_prepare 27 = .ok (.getfield 17, 3) := by decide +kernel
theorem dX2_prepare_30 : decode cX2_prepare 30 = .ok (.aload_n 2, 1) := by decide +kernel
theorem dX2_prepare_31 : decode cX2_prepare 31 = .ok (.aastore, 1) := by decide +kernel
theorem dX2_prepare_32 : decode cX2_prepare 32 = .ok (.aload_n 2, 1) := by decide +kernel
theorem dX2_prepare_33 : decode cX2_prepare 33 = .ok (.aload_n 1, 1) := by decide +kernel
theorem dX2_prepare_34 : decode cX2_prepare 34 = .ok (.invokevirtual 22, 3) := by decide +kernel
theorem dX2_prepare_37 : decode cX2_prepare 37 = .ok (.return_, 1) := by decide +kernel
theorem dX2_keepPrepared_0 : decode cX2_keepPrepared 0 = .ok (.aload_n 0, 1) := by decide +kernel
theorem dX2_keepPrepared_1 : decode cX2_keepPrepared 1 = .ok (.getfield 17, 3) := by decide +kernel
theorem dX2_keepPrepared_4 : decode cX2_keepPrepared 4 = .ok (.bipush 6, 2) := by decide +kernel
theorem dX2_keepPrepared_6 : decode cX2_keepPrepared 6 = .ok (.if_icmp .ge 14, 3) := by decide +kernel
theorem dX2_keepPrepared_9 : decode cX2_keepPrepared 9 = .ok (.aload_n 0, 1) := by decide +kernel
theorem dX2_keepPrepared_10 : decode cX2_keepPrepared 10 = .ok (.dup, 1) := by decide +kernel
theorem dX2_keepPrepared_11 : decode cX2_keepPrepared 11 = .ok (.getfield 17, 3) := by decide +kernel
theorem dX2_keepPrepared_14 : decode cX2_keepPrepared 14 = .ok (.iconst 1, 1) := by decide +kernel
theorem dX2_keepPrepared_15 : decode cX2_keepPrepared 15 = .ok (.iadd, 1) := by decide +kernel
theorem dX2_keepPrepared_16 : decode cX2_keepPrepared 16 = .ok (.putfield 17, 3) := by decide +kernel
theorem dX2_keepPrepared_19 : decode cX2_keepPrepared 19 = .ok (.return_, 1) := by decide +kernel
theorem dX2_keepPrepared_20 : decode cX2_keepPrepared 20 = .ok (.aload_n 0, 1) := by decide +kernel
theorem dX2_keepPrepared_21 : decode cX2_keepPrepared 21 = .ok (.getfield 11, 3) := by decide +kernel
theorem dX2_keepPrepared_24 : decode cX2_keepPrepared 24 = .ok (.iconst 0, 1) := by decide +kernel
theorem dX2_keepPrepared_25 : decode cX2_keepPrepared 25 = .ok (.aaload, 1) := by decide +kernel
theorem dX2_keepPrepared_26 : decode cX2_keepPrepared 26 = .ok (.astore_n 1, 1) := by decide +kernel
theorem dX2_keepPrepared_27 : decode cX2_keepPrepared 27 = .ok (.iconst 0, 1) := by decide +kernel
theorem dX2_keepPrepared_28 : decode cX2_keepPrepared 28 = .ok (.istore_n 2, 1) := by decide +kernel
theorem dX2_keepPrepared_29 : decode cX2_keepPrepared 29 = .ok (.iload_n 2, 1) := by decide +kernel
theorem dX2_keepPrepared_30 : decode cX2_keepPrepared 30 = .ok (.bipush 6, 2) := by decide +kernel
theorem dX2_keepPrepared_32 : decode cX2_keepPrepared 32 = .ok (.if_icmp .ge 23, 3) := by decide +kernel
theorem dX2_keepPrepared_35 : decode cX2_keepPrepared 35 = .ok (.aload_n 0, 1) := by decide +kernel
theorem dX2_keepPrepared_36 : decode cX2_keepPrepared 36 = .ok (.getfield 11, 3) := by decide +kernel
theorem dX2_keepPrepared_39 : decode cX2_keepPrepared 39 = .ok (.iload_n 2, 1) := by decide +kernel
theorem dX2_keepPrepared_40 : decode cX2_keepPrepared 40 = .ok (.aload_n 0, 1) := by decide +kernel
theorem dX2_keepPrepared_41 : decode cX2_keepPrepared 41 = .ok (.getfield 11, 3) := by decide +kernel
theorem dX2_keepPrepared_44 : decode cX2_keepPrepared 44 = .ok (.iload_n 2, 1) := by decide +kernel
theorem dX2_keepPrepared_45 : decode cX2_keepPrepared 45 = .ok (.iconst 1, 1) := by decide +kernel
theorem dX2_keepPrepared_46 : decode cX2_keepPrepared 46 = .ok (.iadd, 1) := by decide +kernel
theorem dX2_keepPrepared_47 : decode cX2_keepPrepared 47 = .ok (.aaload, 1) := by decide +kernel
theorem dX2_keepPrepared_48 : decode cX2_keepPrepared 48 = .ok (.aastore, 1) := by decide +kernel
theorem dX2_keepPrepared_49 : decode cX2_keepPrepared 49 = .ok (.iinc 2 1, 3) := by decide +kernel
theorem dX2_keepPrepared_52 : decode cX2_keepPrepared 52 = .ok (.goto (-23), 3) := by decide +kernel
theorem dX2_keepPrepared_55 : decode cX2_keepPrepared 55 = .ok (.aload_n 0, 1) := by decide +kernel
theorem dX2_keepPrepared_56 : decode cX2_keepPrepared 56 = .ok (.getfield 11, 3) := by decide +kernel
theorem dX2_keepPrepared_59 : decode cX2_keepPrepared 59 = .ok (.bipush 6, 2) := by decide +kernel
theorem dX2_keepPrepared_61 : decode cX2_keepPrepared 61 = .ok (.aload_n 1, 1) := by decide +kernel
theorem dX2_keepPrepared_62 : decode cX2_keepPrepared 62 = .ok (.aastore, 1) := by decide +kernel
theorem dX2_keepPrepared_63 : decode cX2_keepPrepared 63 = .ok (.return_, 1) := by decide +kernel
set_option maxRecDepth 20000 in
theorem ggX2_takeBack_X0_copyFrom : GoodIn wsX2_takeBack wsX0_copyFrom := goodIn_r _ [7, 8, 9, 10, 11, 12, 13, 14, 15, 16, 17, 18, 19, 20, 21, 22, 23, 24, 25, 26, 27, 28, 29, 30, 31, 32, 33, 34, 35, 36, 37, 38, 39, 40, 41, 42, 43, 44, 47, 48, 49, 50, 51, 52, 53, 54, 55, 56, 57, 58, 59, 60, 61, 62] (by decide +kernel) (by decide +kernel)
set_option maxRecDepth 20000 in
theorem gX2_takeBack_X0_copyFrom : GoodIn wsX2_takeBack (wsV RX2 22 RX0 yX0_copyFrom wsX0_copyFrom) := goodIn_app (goodIn_of _ (by decide +kernel)) ggX2_takeBack_X0_copyFrom
theorem dX2_takeBack_0 : decode cX2_takeBack 0 = .ok (.aload_n 0, 1) := by decide +kernel
theorem dX2_takeBack_1 : decode cX2_takeBack 1 = .ok (.getfield 17, 3) := by decide +kernel
theorem dX2_takeBack_4 : decode cX2_takeBack 4 = .ok (.iconst 1, 1) := by decide +kernel
theorem dX2_takeBack_5 : decode cX2_takeBack 5 = .ok (.if_icmp .ge 5, 3) := by decide +kernel
theorem dX2_takeBack_8 : decode cX2_takeBack 8 = .ok (.iconst 0, 1) := by decide +kernel
theorem dX2_takeBack_9 : decode cX2_takeBack 9 = .ok (.ireturn, 1) := by decide +kernel
theorem dX2_takeBack_10 : decode cX2_takeBack 10 = .ok (.aload_n 0, 1) := by decide +kernel
theorem dX2_takeBack_11 : decode cX2_takeBack 11 = .ok (.getfield 11, 3) := by decide +kernel
theorem dX2_takeBack_14 : decode cX2_takeBack 14 = .ok (.aload_n 0, 1) := by decide +kernel
theorem dX2_takeBack_15 : decode cX2_takeBack 15 = .ok (.getfield 17, 3) := by decide +kernel
theorem dX2_takeBack_18 : decode cX2_takeBack 18 = .ok (.iconst 1, 1) := by decide +kernel
theorem dX2_takeBack_19 : decode cX2_takeBack 19 = .ok (.isub, 1) := by decide +kernel
theorem dX2_takeBack_20 : decode cX2_takeBack 20 = .ok (.aaload, 1) := by decide +kernel
theorem dX2_takeBack_21 : decode cX2_takeBack 21 = .ok (.astore_n 2, 1) := by decide +kernel
theorem dX2_takeBack_22 : decode cX2_takeBack 22 = .ok (.aload_n 2, 1) := by decide +kernel
theorem dX2_takeBack_23 : decode cX2_takeBack 23 = .ok (.ifnonnull 5, 3) := by decide +kernel
theorem dX2_takeBack_26 : decode cX2_takeBack 26 = .ok (.iconst 0, 1) := by decide +kernel
theorem dX2_takeBack_27 : decode cX2_takeBack 27 = .ok (.ireturn, 1) := by decide +kernel
theorem dX2_takeBack_28 : decode cX2_takeBack 28 = .ok (.aload_n 0, 1) := by decide +kernel
theorem dX2_takeBack_29 : decode cX2_takeBack 29 = .ok (.dup, 1) := by decide +kernel
theorem dX2_takeBack_30 : decode cX2_takeBack 30 = .ok (.getfield 17, 3) := by decide +kernel
theorem dX2_takeBack_33 : decode cX2_takeBack 33 = .ok (.iconst 1, 1) := by decide +kernel
theorem dX2_takeBack_34 : decode cX2_takeBack 34 = .ok (.isub, 1) := by decide +kernel
theorem dX2_takeBack_35 : decode cX2_takeBack 35 = .ok (.putfield 17, 3) := by decide +kernel
theorem dX2_takeBack_38 : decode cX2_takeBack 38 = .ok (.aload_n 1, 1) := by decide +kernel
theorem dX2_takeBack_39 : decode cX2_takeBack 39 = .ok (.aload_n 2, 1) := by decide +kernel
theorem dX2_takeBack_40 : decode cX2_takeBack 40 = .ok (.invokevirtual 22, 3) := by decide +kernel
theorem dX2_takeBack_43 : decode cX2_takeBack 43 = .ok (.iconst 1, 1) := by decide +kernel
theorem dX2_takeBack_44 : decode cX2_takeBack 44 = .ok (.ireturn, 1) := by decide +kernel
theorem dX3_init_0 : decode cX3_init 0 = .ok (.aload_n 0, 1) := by decide +kernel
theorem dX3_init_1 : decode cX3_init 1 = .ok (.invokespecial 3, 3) := by decide +kernel
theorem dX3_init_4 : decode cX3_init 4 = .ok (.aload_n 0, 1) := by decide +kernel
theorem dX3_init_5 : decode cX3_init 5 = .ok (.bipush 30, 2) := by decide +kernel
theorem dX3_init_7 : decode cX3_init 7 = .ok (.newarray .int, 2) := by decide +kernel
theorem dX3_init_9 : decode cX3_init 9 = .ok (.putfield 9, 3) := by decide +kernel
theorem dX3_init_12 : decode cX3_init 12 = .ok (.aload_n 0, 1) := by decide +kernel
theorem dX3_init_13 : decode cX3_init 13 = .ok (.bipush 30, 2) := by decide +kernel
theorem dX3_init_15 : decode cX3_init 15 = .ok (.newarray .int, 2) := by decide +kernel
theorem dX3_init_17 : decode cX3_init 17 = .ok (.putfield 15, 3) := by decide +kernel
theorem dX3_init_20 : decode cX3_init 20 = .ok (.aload_n 0, 1) := by decide +kernel
theorem dX3_init_21 : decode cX3_init 21 = .ok (.bipush 30, 2) := by decide +kernel
theorem dX3_init_23 : decode cX3_init 23 = .ok (.newarray .int, 2) := by decide +kernel
theorem dX3_init_25 : decode cX3_init 25 = .ok (.putfield 18, 3) := by decide +kernel
theorem dX3_init_28 : decode cX3_init 28 = .ok (.aload_n 0, 1) := by decide +kernel
theorem dX3_init_29 : decode cX3_init 29 = .ok (.bipush 30, 2) := by decide +kernel
theorem dX3_init_31 : decode cX3_init 31 = .ok (.newarray .int, 2) := by decide +kernel
theorem dX3_init_33 : decode cX3_init 33 = .ok (.putfield 21, 3) := by decide +kernel
theorem dX3_init_36 : decode cX3_init 36 = .ok (.aload_n 0, 1) := by decide +kernel
theorem dX3_init_37 : decode cX3_init 37 = .ok (.bipush 30, 2) := by decide +kernel
theorem dX3_init_39 : decode cX3_init 39 = .ok (.newarray .int, 2) := by decide +kernel
theorem dX3_init_41 : decode cX3_init 41 = .ok (.putfield 24, 3) := by decide +kernel
theorem dX3_init_44 : decode cX3_init 44 = .ok (.aload_n 0, 1) := by decide +kernel
theorem dX3_init_45 : decode cX3_init 45 = .ok (.bipush 30, 2) := by decide +kernel
theorem dX3_init_47 : decode cX3_init 47 = .ok (.newarray .int, 2) := by decide +kernel
theorem dX3_init_49 : decode cX3_init 49 = .ok (.putfield 27, 3) := by decide +kernel
theorem dX3_init_52 : decode cX3_init 52 = .ok (.aload_n 0, 1) := by decide +kernel
theorem dX3_init_53 : decode cX3_init 53 = .ok (.bipush 30, 2) := by decide +kernel
theorem dX3_init_55 : decode cX3_init 55 = .ok (.newarray .int, 2) := by decide +kernel
theorem dX3_init_57 : decode cX3_init 57 = .ok (.putfield 30, 3) := by decide +kernel
theorem dX3_init_60 : decode cX3_init 60 = .ok (.return_, 1) := by decide +kernel
set_option maxRecDepth 20000 in
theorem ggX3_copyFrom_X6_copy : GoodIn wsX3_copyFrom wsX6_copy := goodIn_r _ [11, 12, 13, 14, 15, 16, 17, 18, 19] (by decide +kernel) (by decide +kernel)
set_option maxRecDepth 20000 in
theorem gX3_copyFrom_X6_copy_n37 : GoodIn wsX3_copyFrom (wsX6_copy) := ggX3_copyFrom_X6_copy
theorem dX3_copyFrom_0 : decode cX3_copyFrom 0 = .ok (.aload_n 0, 1) := by decide +kernel
theorem dX3_copyFrom_1 : decode cX3_copyFrom 1 = .ok (.aload_n 1, 1) := by decide +kernel
theorem dX3_copyFrom_2 : decode cX3_copyFrom 2 = .ok (.getfield 33, 3) := by decide +kernel
theorem dX3_copyFrom_5 : decode cX3_copyFrom 5 = .ok (.putfield 33, 3) := by decide +kernel
theorem dX3_copyFrom_8 : decode cX3_copyFrom 8 = .ok (.aload_n 1, 1) := by decide +kernel
theorem dX3_copyFrom_9 : decode cX3_copyFrom 9 = .ok (.getfield 9, 3) := by decide +kernel
theorem dX3_copyFrom_12 : decode cX3_copyFrom 12 = .ok (.aload_n 0, 1) := by decide +kernel
theorem dX3_copyFrom_13 : decode cX3_copyFrom 13 = .ok (.getfield 9, 3) := by decide +kernel
theorem dX3_copyFrom_16 : decode cX3_copyFrom 16 = .ok (.invokestatic 37, 3) := by decide +kernel
theorem dX3_copyFrom_19 : decode cX3_copyFrom 19 = .ok (.aload_n 1, 1) := by decide +kernel
theorem dX3_copyFrom_20 : decode cX3_copyFrom 20 = .ok (.getfield 15, 3) := by decide +kernel
theorem dX3_copyFrom_23 : decode cX3_copyFrom 23 = .ok (.aload_n 0, 1) := by decide +kernel
theorem dX3_copyFrom_24 : decode cX3_copyFrom 24 = .ok (.getfield 15, 3) := by decide +kernel
theorem dX3_copyFrom_27 : decode cX3_copyFrom 27 = .ok (.invokestatic 37, 3) := by decide +kernel
theorem dX3_copyFrom_30 : decode cX3_copyFrom 30 = .ok (.aload_n 1, 1) := by decide +kernel
theorem dX3_copyFrom_31 : decode cX3_copyFrom 31 = .ok (.getfield 18, 3) := by decide +kernel
theorem dX3_copyFrom_34 : decode cX3_copyFrom 34 = .ok (.aload_n 0, 1) := by decide +kernel
theorem dX3_copyFrom_35 : decode cX3_copyFrom 35 = .ok (.getfield 18, 3) := by decide +kernel
theorem dX3_copyFrom_38 : decode cX3_copyFrom 38 = .ok (.invokestatic 37, 3) := by decide +kernel
theorem dX3_copyFrom_41 : decode cX3_copyFrom 41 = .ok (.aload_n 1, 1) := by decide +kernel
theorem dX3_copyFrom_42 : decode cX3_copyFrom 42 = .ok (.getfield 21, 3) := by decide +kernel
theorem dX3_copyFrom_45 : decode cX3_copyFrom 45 = .ok (.aload_n 0, 1) := by decide +kernel
theorem dX3_copyFrom_46 : decode cX3_copyFrom 46 = .ok (.getfield 21, 3) := by decide +kernel
theorem dX3_copyFrom_49 : decode cX3_copyFrom 49 = .ok (.invokestatic 37, 3) := by decide +kernel
theorem dX3_copyFrom_52 : decode cX3_copyFrom 52 = .ok (.aload_n 1, 1) := by decide +kernel
theorem dX3_copyFrom_53 : decode cX3_copyFrom 53 = .ok (.getfield 24, 3) := by decide +kernel
theorem dX3_copyFrom_56 : decode cX3_copyFrom 56 = .ok (.aload_n 0, 1) := by decide +kernel
theorem dX3_copyFrom_57 : decode cX3_copyFrom 57 = .ok (.getfield 24, 3) := by decide +kernel
theorem dX3_copyFrom_60 : decode cX3_copyFrom 60 = .ok (.invokestatic 37, 3) := by decide +kernel
theorem dX3_copyFrom_63 : decode cX3_copyFrom 63 = .ok (.aload_n 1, 1) := by decide +kernel
theorem dX3_copyFrom_64 : decode cX3_copyFrom 64 = .ok (.getfield 27, 3) := by decide +kernel
theorem dX3_copyFrom_67 : decode cX3_copyFrom 67 = .ok (.aload_n 0, 1) := by decide +kernel
theorem dX3_copyFrom_68 : decode cX3_copyFrom 68 = .ok (.getfield 27, 3) := by decide +kernel
theorem dX3_copyFrom_71 : decode cX3_copyFrom 71 = .ok (.invokestatic 37, 3) := by decide +kernel
theorem dX3_copyFrom_74 : decode cX3_copyFrom 74 = .ok (.aload_n 1, 1) := by decide +kernel
theorem dX3_copyFrom_75 : decode cX3_copyFrom 75 = .ok (.getfield 30, 3) := by decide +kernel
theorem dX3_copyFrom_78 : decode cX3_copyFrom 78 = .ok (.aload_n 0, 1) := by decide +kernel
theorem dX3_copyFrom_79 : decode cX3_copyFrom 79 = .ok (.getfield 30, 3) := by decide +kernel
theorem dX3_copyFrom_82 : decode cX3_copyFrom 82 = .ok (.invokestatic 37, 3) := by decide +kernel
theorem dX3_copyFrom_85 : decode cX3_copyFrom 85 = .ok (.return_, 1) := by decide +kernel
theorem dX3_isLetter_0 : decode cX3_isLetter 0 = .ok (.iload_n 1, 1) := by decide +kernel
theorem dX3_isLetter_1 : decode cX3_isLetter 1 = .ok (.ifCond .lt 21, 3) := by decide +kernel
theorem dX3_isLetter_4 : decode cX3_isLetter 4 = .ok (.iload_n 1, 1) := by decide +kernel
theorem dX3_isLetter_5 : decode cX3_isLetter 5 = .ok (.aload_n 0, 1) := by decide +kernel
theorem dX3_isLetter_6 : decode cX3_isLetter 6 = .ok (.getfield 33, 3) := by decide +kernel
theorem dX3_isLetter_9 : decode cX3_isLetter 9 = .ok (.if_icmp .ge 13, 3) := by decide +kernel
theorem dX3_isLetter_12 : decode cX3_isLetter 12 = .ok (.iload_n 1, 1) := by decide +kernel
theorem dX3_isLetter_13 : decode cX3_isLetter 13 = .ok (.bipush 30, 2) := by decide +kernel
theorem dX3_isLetter_15 : decode cX3_isLetter 15 = .ok (.if_icmp .ge 7, 3) := by decide +kernel
theorem dX3_isLetter_18 : decode cX3_isLetter 18 = .ok (.iconst 1, 1) := by decide +kernel
theorem dX3_isLetter_19 : decode cX3_isLetter 19 = .ok (.goto 4, 3) := by decide +kernel
theorem dX3_isLetter_22 : decode cX3_isLetter 22 = .ok (.iconst 0, 1) := by decide +kernel
theorem dX3_isLetter_23 : decode cX3_isLetter 23 = .ok (.ireturn, 1) := by decide +kernel
theorem dX3_lies_0 : decode cX3_lies 0 = .ok (.aload_n 0, 1) := by decide +kernel
theorem dX3_lies_1 : decode cX3_lies 1 = .ok (.getfield 9, 3) := by decide +kernel
theorem dX3_lies_4 : decode cX3_lies 4 = .ok (.iload_n 1, 1) := by decide +kernel
theorem dX3_lies_5 : decode cX3_lies 5 = .ok (.iaload, 1) := by decide +kernel
theorem dX3_lies_6 : decode cX3_lies 6 = .ok (.iload_n 2, 1) := by decide +kernel
theorem dX3_lies_7 : decode cX3_lies 7 = .ok (.if_icmp .ne 16, 3) := by decide +kernel
theorem dX3_lies_10 : decode cX3_lies 10 = .ok (.aload_n 0, 1) := by decide +kernel
theorem dX3_lies_11 : decode cX3_lies 11 = .ok (.getfield 24, 3) := by decide +kernel
theorem dX3_lies_14 : decode cX3_lies 14 = .ok (.iload_n 1, 1) := by decide +kernel
theorem dX3_lies_15 : decode cX3_lies 15 = .ok (.iaload, 1) := by decide +kernel
theorem dX3_lies_16 : decode cX3_lies 16 = .ok (.ifCond .ne 7, 3) := by decide +kernel
theorem dX3_lies_19 : decode cX3_lies 19 = .ok (.iconst 1, 1) := by decide +kernel
theorem dX3_lies_20 : decode cX3_lies 20 = .ok (.goto 4, 3) := by decide +kernel
theorem dX3_lies_23 : decode cX3_lies 23 = .ok (.iconst 0, 1) := by decide +kernel
theorem dX3_lies_24 : decode cX3_lies 24 = .ok (.ireturn, 1) := by decide +kernel
theorem dX3_ofMood_0 : decode cX3_ofMood 0 = .ok (.iconst 0, 1) := by decide +kernel
theorem dX3_ofMood_1 : decode cX3_ofMood 1 = .ok (.istore_n 3, 1) := by decide +kernel
theorem dX3_ofMood_2 : decode cX3_ofMood 2 = .ok (.iconst 0, 1) := by decide +kernel
theorem dX3_ofMood_3 : decode cX3_ofMood 3 = .ok (.istore 4, 2) := by decide +kernel
theorem dX3_ofMood_5 : decode cX3_ofMood 5 = .ok (.iload 4, 2) := by decide +kernel
theorem dX3_ofMood_7 : decode cX3_ofMood 7 = .ok (.aload_n 0, 1) := by decide +kernel
theorem dX3_ofMood_8 : decode cX3_ofMood 8 = .ok (.getfield 33, 3) := by decide +kernel
theorem dX3_ofMood_11 : decode cX3_ofMood 11 = .ok (.if_icmp .ge 34, 3) := by decide +kernel
theorem dX3_ofMood_14 : decode cX3_ofMood 14 = .ok (.aload_n 0, 1) := by decide +kernel
theorem dX3_ofMood_15 : decode cX3_ofMood 15 = .ok (.getfield 9, 3) := by decide +kernel
theorem dX3_ofMood_18 : decode cX3_ofMood 18 = .ok (.iload 4, 2) := by decide +kernel
theorem dX3_ofMood_20 : decode cX3_ofMood 20 = .ok (.iaload, 1) := by decide +kernel
theorem dX3_ofMood_21 : decode cX3_ofMood 21 = .ok (.iload_n 1, 1) := by decide +kernel
