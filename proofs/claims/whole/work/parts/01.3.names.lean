theorem dX7_init_85 : decode cX7_init 85 = .ok (.imul, 1) := by decide +kernel
theorem dX7_init_86 : decode cX7_init 86 = .ok (.bipush 9, 2) := by decide +kernel
theorem dX7_init_88 : decode cX7_init 88 = .ok (.iadd, 1) := by decide +kernel
theorem dX7_init_89 : decode cX7_init 89 = .ok (.bipush 100, 2) := by decide +kernel
theorem dX7_init_91 : decode cX7_init 91 = .ok (.iastore, 1) := by decide +kernel
theorem dX7_init_92 : decode cX7_init 92 = .ok (.aload_n 0, 1) := by decide +kernel
theorem dX7_init_93 : decode cX7_init 93 = .ok (.getfield 19, 3) := by decide +kernel
theorem dX7_init_96 : decode cX7_init 96 = .ok (.bipush 13, 2) := by decide +kernel
theorem dX7_init_98 : decode cX7_init 98 = .ok (.iload_n 1, 1) := by decide +kernel
theorem dX7_init_99 : decode cX7_init 99 = .ok (.imul, 1) := by decide +kernel
theorem dX7_init_100 : decode cX7_init 100 = .ok (.bipush 10, 2) := by decide +kernel
theorem dX7_init_102 : decode cX7_init 102 = .ok (.iadd, 1) := by decide +kernel
theorem dX7_init_103 : decode cX7_init 103 = .ok (.iconst 0, 1) := by decide +kernel
theorem dX7_init_104 : decode cX7_init 104 = .ok (.iastore, 1) := by decide +kernel
theorem dX7_init_105 : decode cX7_init 105 = .ok (.aload_n 0, 1) := by decide +kernel
theorem dX7_init_106 : decode cX7_init 106 = .ok (.getfield 19, 3) := by decide +kernel
theorem dX7_init_109 : decode cX7_init 109 = .ok (.bipush 13, 2) := by decide +kernel
theorem dX7_init_111 : decode cX7_init 111 = .ok (.iload_n 1, 1) := by decide +kernel
theorem dX7_init_112 : decode cX7_init 112 = .ok (.imul, 1) := by decide +kernel
theorem dX7_init_113 : decode cX7_init 113 = .ok (.bipush 11, 2) := by decide +kernel
theorem dX7_init_115 : decode cX7_init 115 = .ok (.iadd, 1) := by decide +kernel
theorem dX7_init_116 : decode cX7_init 116 = .ok (.sipush 500, 3) := by decide +kernel
theorem dX7_init_119 : decode cX7_init 119 = .ok (.iastore, 1) := by decide +kernel
theorem dX7_init_120 : decode cX7_init 120 = .ok (.aload_n 0, 1) := by decide +kernel
theorem dX7_init_121 : decode cX7_init 121 = .ok (.getfield 19, 3) := by decide +kernel
theorem dX7_init_124 : decode cX7_init 124 = .ok (.bipush 13, 2) := by decide +kernel
theorem dX7_init_126 : decode cX7_init 126 = .ok (.iload_n 1, 1) := by decide +kernel
theorem dX7_init_127 : decode cX7_init 127 = .ok (.imul, 1) := by decide +kernel
theorem dX7_init_128 : decode cX7_init 128 = .ok (.bipush 12, 2) := by decide +kernel
theorem dX7_init_130 : decode cX7_init 130 = .ok (.iadd, 1) := by decide +kernel
theorem dX7_init_131 : decode cX7_init 131 = .ok (.sipush 500, 3) := by decide +kernel
theorem dX7_init_134 : decode cX7_init 134 = .ok (.iastore, 1) := by decide +kernel
theorem dX7_init_135 : decode cX7_init 135 = .ok (.iinc 1 1, 3) := by decide +kernel
theorem dX7_init_138 : decode cX7_init 138 = .ok (.goto (-100), 3) := by decide +kernel
theorem dX7_init_141 : decode cX7_init 141 = .ok (.return_, 1) := by decide +kernel
theorem dX7_lays_0 : decode cX7_lays 0 = .ok (.bipush 13, 2) := by decide +kernel
theorem dX7_lays_2 : decode cX7_lays 2 = .ok (.iload_n 1, 1) := by decide +kernel
theorem dX7_lays_3 : decode cX7_lays 3 = .ok (.imul, 1) := by decide +kernel
theorem dX7_lays_4 : decode cX7_lays 4 = .ok (.istore 10, 2) := by decide +kernel
theorem dX7_lays_6 : decode cX7_lays 6 = .ok (.aload_n 0, 1) := by decide +kernel
theorem dX7_lays_7 : decode cX7_lays 7 = .ok (.getfield 19, 3) := by decide +kernel
theorem dX7_lays_10 : decode cX7_lays 10 = .ok (.iload 10, 2) := by decide +kernel
theorem dX7_lays_12 : decode cX7_lays 12 = .ok (.iload_n 2, 1) := by decide +kernel
theorem dX7_lays_13 : decode cX7_lays 13 = .ok (.iastore, 1) := by decide +kernel
theorem dX7_lays_14 : decode cX7_lays 14 = .ok (.aload_n 0, 1) := by decide +kernel
theorem dX7_lays_15 : decode cX7_lays 15 = .ok (.getfield 19, 3) := by decide +kernel
theorem dX7_lays_18 : decode cX7_lays 18 = .ok (.iload 10, 2) := by decide +kernel
theorem dX7_lays_20 : decode cX7_lays 20 = .ok (.iconst 1, 1) := by decide +kernel
theorem dX7_lays_21 : decode cX7_lays 21 = .ok (.iadd, 1) := by decide +kernel
theorem dX7_lays_22 : decode cX7_lays 22 = .ok (.iload_n 3, 1) := by decide +kernel
theorem dX7_lays_23 : decode cX7_lays 23 = .ok (.iastore, 1) := by decide +kernel
theorem dX7_lays_24 : decode cX7_lays 24 = .ok (.aload_n 0, 1) := by decide +kernel
theorem dX7_lays_25 : decode cX7_lays 25 = .ok (.getfield 19, 3) := by decide +kernel
theorem dX7_lays_28 : decode cX7_lays 28 = .ok (.iload 10, 2) := by decide +kernel
theorem dX7_lays_30 : decode cX7_lays 30 = .ok (.iconst 2, 1) := by decide +kernel
theorem dX7_lays_31 : decode cX7_lays 31 = .ok (.iadd, 1) := by decide +kernel
theorem dX7_lays_32 : decode cX7_lays 32 = .ok (.iload 4, 2) := by decide +kernel
theorem dX7_lays_34 : decode cX7_lays 34 = .ok (.iastore, 1) := by decide +kernel
theorem dX7_lays_35 : decode cX7_lays 35 = .ok (.aload_n 0, 1) := by decide +kernel
theorem dX7_lays_36 : decode cX7_lays 36 = .ok (.getfield 19, 3) := by decide +kernel
theorem dX7_lays_39 : decode cX7_lays 39 = .ok (.iload 10, 2) := by decide +kernel
theorem dX7_lays_41 : decode cX7_lays 41 = .ok (.iconst 3, 1) := by decide +kernel
theorem dX7_lays_42 : decode cX7_lays 42 = .ok (.iadd, 1) := by decide +kernel
theorem dX7_lays_43 : decode cX7_lays 43 = .ok (.iload 5, 2) := by decide +kernel
theorem dX7_lays_45 : decode cX7_lays 45 = .ok (.iastore, 1) := by decide +kernel
theorem dX7_lays_46 : decode cX7_lays 46 = .ok (.aload_n 0, 1) := by decide +kernel
theorem dX7_lays_47 : decode cX7_lays 47 = .ok (.getfield 19, 3) := by decide +kernel
theorem dX7_lays_50 : decode cX7_lays 50 = .ok (.iload 10, 2) := by decide +kernel
theorem dX7_lays_52 : decode cX7_lays 52 = .ok (.iconst 4, 1) := by decide +kernel
theorem dX7_lays_53 : decode cX7_lays 53 = .ok (.iadd, 1) := by decide +kernel
theorem dX7_lays_54 : decode cX7_lays 54 = .ok (.iload 6, 2) := by decide +kernel
theorem dX7_lays_56 : decode cX7_lays 56 = .ok (.iastore, 1) := by decide +kernel
theorem dX7_lays_57 : decode cX7_lays 57 = .ok (.aload_n 0, 1) := by decide +kernel
theorem dX7_lays_58 : decode cX7_lays 58 = .ok (.getfield 19, 3) := by decide +kernel
theorem dX7_lays_61 : decode cX7_lays 61 = .ok (.iload 10, 2) := by decide +kernel
theorem dX7_lays_63 : decode cX7_lays 63 = .ok (.iconst 5, 1) := by decide +kernel
theorem dX7_lays_64 : decode cX7_lays 64 = .ok (.iadd, 1) := by decide +kernel
theorem dX7_lays_65 : decode cX7_lays 65 = .ok (.iload 7, 2) := by decide +kernel
theorem dX7_lays_67 : decode cX7_lays 67 = .ok (.iastore, 1) := by decide +kernel
theorem dX7_lays_68 : decode cX7_lays 68 = .ok (.aload_n 0, 1) := by decide +kernel
theorem dX7_lays_69 : decode cX7_lays 69 = .ok (.getfield 19, 3) := by decide +kernel
theorem dX7_lays_72 : decode cX7_lays 72 = .ok (.iload 10, 2) := by decide +kernel
theorem dX7_lays_74 : decode cX7_lays 74 = .ok (.bipush 6, 2) := by decide +kernel
theorem dX7_lays_76 : decode cX7_lays 76 = .ok (.iadd, 1) := by decide +kernel
theorem dX7_lays_77 : decode cX7_lays 77 = .ok (.iload 8, 2) := by decide +kernel
theorem dX7_lays_79 : decode cX7_lays 79 = .ok (.iastore, 1) := by decide +kernel
theorem dX7_lays_80 : decode cX7_lays 80 = .ok (.aload_n 0, 1) := by decide +kernel
theorem dX7_lays_81 : decode cX7_lays 81 = .ok (.getfield 19, 3) := by decide +kernel
theorem dX7_lays_84 : decode cX7_lays 84 = .ok (.iload 10, 2) := by decide +kernel
theorem dX7_lays_86 : decode cX7_lays 86 = .ok (.bipush 7, 2) := by decide +kernel
theorem dX7_lays_88 : decode cX7_lays 88 = .ok (.iadd, 1) := by decide +kernel
theorem dX7_lays_89 : decode cX7_lays 89 = .ok (.iload 9, 2) := by decide +kernel
theorem dX7_lays_91 : decode cX7_lays 91 = .ok (.iastore, 1) := by decide +kernel
theorem dX7_lays_92 : decode cX7_lays 92 = .ok (.return_, 1) := by decide +kernel
set_option maxRecDepth 20000 in
theorem ggX7_isHanging_X7_in : GoodIn wsX7_isHanging wsX7_in := goodIn_r _ [4] (by decide +kernel) (by decide +kernel)
set_option maxRecDepth 20000 in
theorem gX7_isHanging_X7_in : GoodIn wsX7_isHanging (va_wsS RX7 38 yX7_in wsX7_in) := goodIn_app (goodIn_of _ (by decide +kernel)) ggX7_isHanging_X7_in
theorem dX7_isHanging_0 : decode cX7_isHanging 0 = .ok (.iload_n 0, 1) := by decide +kernel
theorem dX7_isHanging_1 : decode cX7_isHanging 1 = .ok (.iconst 0, 1) := by decide +kernel
theorem dX7_isHanging_2 : decode cX7_isHanging 2 = .ok (.iconst 3, 1) := by decide +kernel
theorem dX7_isHanging_3 : decode cX7_isHanging 3 = .ok (.invokestatic 38, 3) := by decide +kernel
theorem dX7_isHanging_6 : decode cX7_isHanging 6 = .ok (.ireturn, 1) := by decide +kernel
set_option maxRecDepth 20000 in
theorem ggX7_isAt_X7_in : GoodIn wsX7_isAt wsX7_in := goodIn_r _ [4] (by decide +kernel) (by decide +kernel)
set_option maxRecDepth 20000 in
theorem gX7_isAt_X7_in : GoodIn wsX7_isAt (va_wsS RX7 38 yX7_in wsX7_in) := goodIn_app (goodIn_of _ (by decide +kernel)) ggX7_isAt_X7_in
theorem dX7_isAt_0 : decode cX7_isAt 0 = .ok (.iload_n 0, 1) := by decide +kernel
theorem dX7_isAt_1 : decode cX7_isAt 1 = .ok (.sipush (-1000), 3) := by decide +kernel
theorem dX7_isAt_4 : decode cX7_isAt 4 = .ok (.sipush 1000, 3) := by decide +kernel
theorem dX7_isAt_7 : decode cX7_isAt 7 = .ok (.invokestatic 38, 3) := by decide +kernel
theorem dX7_isAt_10 : decode cX7_isAt 10 = .ok (.ireturn, 1) := by decide +kernel
set_option maxRecDepth 20000 in
theorem ggX7_isLong_X7_in : GoodIn wsX7_isLong wsX7_in := goodIn_r _ [4] (by decide +kernel) (by decide +kernel)
set_option maxRecDepth 20000 in
theorem gX7_isLong_X7_in : GoodIn wsX7_isLong (va_wsS RX7 38 yX7_in wsX7_in) := goodIn_app (goodIn_of _ (by decide +kernel)) ggX7_isLong_X7_in
theorem dX7_isLong_0 : decode cX7_isLong 0 = .ok (.iload_n 0, 1) := by decide +kernel
theorem dX7_isLong_1 : decode cX7_isLong 1 = .ok (.bipush 50, 2) := by decide +kernel
theorem dX7_isLong_3 : decode cX7_isLong 3 = .ok (.sipush 1000, 3) := by decide +kernel
theorem dX7_isLong_6 : decode cX7_isLong 6 = .ok (.invokestatic 38, 3) := by decide +kernel
theorem dX7_isLong_9 : decode cX7_isLong 9 = .ok (.ireturn, 1) := by decide +kernel
set_option maxRecDepth 20000 in
theorem ggX7_hang_X7_isHanging : GoodIn wsX7_hang wsX7_isHanging := goodIn_r _ [4, 5, 6, 3, 7] (by decide +kernel) (by decide +kernel)
set_option maxRecDepth 20000 in
theorem gX7_hang_X7_isHanging : GoodIn wsX7_hang (va_wsS RX7 42 yX7_isHanging wsX7_isHanging) := goodIn_app (goodIn_of _ (by decide +kernel)) ggX7_hang_X7_isHanging
set_option maxRecDepth 20000 in
theorem ggX7_hang_X7_isAt : GoodIn wsX7_hang wsX7_isAt := goodIn_r _ [10, 5, 6, 3, 7] (by decide +kernel) (by decide +kernel)
set_option maxRecDepth 20000 in
theorem gX7_hang_X7_isAt : GoodIn wsX7_hang (va_wsS RX7 46 yX7_isAt wsX7_isAt) := goodIn_app (goodIn_of _ (by decide +kernel)) ggX7_hang_X7_isAt
set_option maxRecDepth 20000 in
theorem ggX7_hang_X7_isLong : GoodIn wsX7_hang wsX7_isLong := goodIn_r _ [13, 5, 6, 3, 7] (by decide +kernel) (by decide +kernel)
set_option maxRecDepth 20000 in
theorem gX7_hang_X7_isLong : GoodIn wsX7_hang (va_wsS RX7 49 yX7_isLong wsX7_isLong) := goodIn_app (goodIn_of _ (by decide +kernel)) ggX7_hang_X7_isLong
set_option maxRecDepth 20000 in
theorem ggX7_hang_X7_lays : GoodIn wsX7_hang wsX7_lays := goodIn_r _ [17, 18, 19, 20, 21, 22, 23, 24, 25, 26, 27, 28, 29, 30, 31, 32, 33, 34, 35, 36, 37, 38, 39, 40] (by decide +kernel) (by decide +kernel)
set_option maxRecDepth 20000 in
theorem gX7_hang_X7_lays : GoodIn wsX7_hang (wsV RX7 34 RX7 yX7_lays wsX7_lays) := goodIn_app (goodIn_of _ (by decide +kernel)) ggX7_hang_X7_lays
theorem dX7_hang_0 : decode cX7_hang 0 = .ok (.iload_n 1, 1) := by decide +kernel
theorem dX7_hang_1 : decode cX7_hang 1 = .ok (.invokestatic 42, 3) := by decide +kernel
theorem dX7_hang_4 : decode cX7_hang 4 = .ok (.ifCond .eq 69, 3) := by decide +kernel
theorem dX7_hang_7 : decode cX7_hang 7 = .ok (.iload_n 2, 1) := by decide +kernel
theorem dX7_hang_8 : decode cX7_hang 8 = .ok (.invokestatic 46, 3) := by decide +kernel
theorem dX7_hang_11 : decode cX7_hang 11 = .ok (.ifCond .eq 62, 3) := by decide +kernel
theorem dX7_hang_14 : decode cX7_hang 14 = .ok (.iload_n 3, 1) := by decide +kernel
theorem dX7_hang_15 : decode cX7_hang 15 = .ok (.invokestatic 46, 3) := by decide +kernel
theorem dX7_hang_18 : decode cX7_hang 18 = .ok (.ifCond .eq 55, 3) := by decide +kernel
theorem dX7_hang_21 : decode cX7_hang 21 = .ok (.iload 4, 2) := by decide +kernel
theorem dX7_hang_23 : decode cX7_hang 23 = .ok (.invokestatic 46, 3) := by decide +kernel
theorem dX7_hang_26 : decode cX7_hang 26 = .ok (.ifCond .eq 47, 3) := by decide +kernel
theorem dX7_hang_29 : decode cX7_hang 29 = .ok (.iload 5, 2) := by decide +kernel
theorem dX7_hang_31 : decode cX7_hang 31 = .ok (.invokestatic 46, 3) := by decide +kernel
theorem dX7_hang_34 : decode cX7_hang 34 = .ok (.ifCond .eq 39, 3) := by decide +kernel
theorem dX7_hang_37 : decode cX7_hang 37 = .ok (.iload 6, 2) := by decide +kernel
theorem dX7_hang_39 : decode cX7_hang 39 = .ok (.invokestatic 49, 3) := by decide +kernel
theorem dX7_hang_42 : decode cX7_hang 42 = .ok (.ifCond .eq 31, 3) := by decide +kernel
theorem dX7_hang_45 : decode cX7_hang 45 = .ok (.iload 7, 2) := by decide +kernel
theorem dX7_hang_47 : decode cX7_hang 47 = .ok (.invokestatic 49, 3) := by decide +kernel
theorem dX7_hang_50 : decode cX7_hang 50 = .ok (.ifCond .eq 23, 3) := by decide +kernel
theorem dX7_hang_53 : decode cX7_hang 53 = .ok (.iload 8, 2) := by decide +kernel
theorem dX7_hang_55 : decode cX7_hang 55 = .ok (.invokestatic 49, 3) := by decide +kernel
theorem dX7_hang_58 : decode cX7_hang 58 = .ok (.ifCond .eq 15, 3) := by decide +kernel
theorem dX7_hang_61 : decode cX7_hang 61 = .ok (.iload 9, 2) := by decide +kernel
theorem dX7_hang_63 : decode cX7_hang 63 = .ok (.iconst 1, 1) := by decide +kernel
theorem dX7_hang_64 : decode cX7_hang 64 = .ok (.if_icmp .eq 12, 3) := by decide +kernel
theorem dX7_hang_67 : decode cX7_hang 67 = .ok (.iload 9, 2) := by decide +kernel
theorem dX7_hang_69 : decode cX7_hang 69 = .ok (.iconst (-1), 1) := by decide +kernel
theorem dX7_hang_70 : decode cX7_hang 70 = .ok (.if_icmp .eq 6, 3) := by decide +kernel
theorem dX7_hang_73 : decode cX7_hang 73 = .ok (.bipush (-2), 2) := by decide +kernel
theorem dX7_hang_75 : decode cX7_hang 75 = .ok (.ireturn, 1) := by decide +kernel
theorem dX7_hang_76 : decode cX7_hang 76 = .ok (.aload_n 0, 1) := by decide +kernel
theorem dX7_hang_77 : decode cX7_hang 77 = .ok (.iload_n 1, 1) := by decide +kernel
theorem dX7_hang_78 : decode cX7_hang 78 = .ok (.iload_n 2, 1) := by decide +kernel
theorem dX7_hang_79 : decode cX7_hang 79 = .ok (.iload_n 3, 1) := by decide +kernel
theorem dX7_hang_80 : decode cX7_hang 80 = .ok (.iload 4, 2) := by decide +kernel
theorem dX7_hang_82 : decode cX7_hang 82 = .ok (.iload 5, 2) := by decide +kernel
theorem dX7_hang_84 : decode cX7_hang 84 = .ok (.iload 6, 2) := by decide +kernel
theorem dX7_hang_86 : decode cX7_hang 86 = .ok (.iload 7, 2) := by decide +kernel
theorem dX7_hang_88 : decode cX7_hang 88 = .ok (.iload 8, 2) := by decide +kernel
theorem dX7_hang_90 : decode cX7_hang 90 = .ok (.iload 9, 2) := by decide +kernel
theorem dX7_hang_92 : decode cX7_hang 92 = .ok (.invokevirtual 34, 3) := by decide +kernel
theorem dX7_hang_95 : decode cX7_hang 95 = .ok (.iconst 1, 1) := by decide +kernel
theorem dX7_hang_96 : decode cX7_hang 96 = .ok (.ireturn, 1) := by decide +kernel
set_option maxRecDepth 20000 in
theorem ggX7_wheel_X7_isHanging : GoodIn wsX7_wheel wsX7_isHanging := goodIn_r _ [5, 6, 7, 4, 8] (by decide +kernel) (by decide +kernel)
set_option maxRecDepth 20000 in
theorem gX7_wheel_X7_isHanging : GoodIn wsX7_wheel (va_wsS RX7 42 yX7_isHanging wsX7_isHanging) := goodIn_app (goodIn_of _ (by decide +kernel)) ggX7_wheel_X7_isHanging
set_option maxRecDepth 20000 in
theorem ggX7_wheel_X7_isAt : GoodIn wsX7_wheel wsX7_isAt := goodIn_r _ [11, 6, 7, 4, 8] (by decide +kernel) (by decide +kernel)
set_option maxRecDepth 20000 in
theorem gX7_wheel_X7_isAt : GoodIn wsX7_wheel (va_wsS RX7 46 yX7_isAt wsX7_isAt) := goodIn_app (goodIn_of _ (by decide +kernel)) ggX7_wheel_X7_isAt
theorem dX7_wheel_0 : decode cX7_wheel 0 = .ok (.iload_n 1, 1) := by decide +kernel
theorem dX7_wheel_1 : decode cX7_wheel 1 = .ok (.invokestatic 42, 3) := by decide +kernel
theorem dX7_wheel_4 : decode cX7_wheel 4 = .ok (.ifCond .eq 17, 3) := by decide +kernel
theorem dX7_wheel_7 : decode cX7_wheel 7 = .ok (.iload_n 2, 1) := by decide +kernel
theorem dX7_wheel_8 : decode cX7_wheel 8 = .ok (.invokestatic 46, 3) := by decide +kernel
theorem dX7_wheel_11 : decode cX7_wheel 11 = .ok (.ifCond .eq 10, 3) := by decide +kernel
theorem dX7_wheel_14 : decode cX7_wheel 14 = .ok (.iload_n 3, 1) := by decide +kernel
theorem dX7_wheel_15 : decode cX7_wheel 15 = .ok (.invokestatic 46, 3) := by decide +kernel
theorem dX7_wheel_18 : decode cX7_wheel 18 = .ok (.ifCond .ne 6, 3) := by decide +kernel
theorem dX7_wheel_21 : decode cX7_wheel 21 = .ok (.bipush (-2), 2) := by decide +kernel
theorem dX7_wheel_23 : decode cX7_wheel 23 = .ok (.ireturn, 1) := by decide +kernel
theorem dX7_wheel_24 : decode cX7_wheel 24 = .ok (.aload_n 0, 1) := by decide +kernel
theorem dX7_wheel_25 : decode cX7_wheel 25 = .ok (.getfield 19, 3) := by decide +kernel
theorem dX7_wheel_28 : decode cX7_wheel 28 = .ok (.bipush 13, 2) := by decide +kernel
theorem dX7_wheel_30 : decode cX7_wheel 30 = .ok (.iload_n 1, 1) := by decide +kernel
theorem dX7_wheel_31 : decode cX7_wheel 31 = .ok (.imul, 1) := by decide +kernel
theorem dX7_wheel_32 : decode cX7_wheel 32 = .ok (.bipush 8, 2) := by decide +kernel
theorem dX7_wheel_34 : decode cX7_wheel 34 = .ok (.iadd, 1) := by decide +kernel
theorem dX7_wheel_35 : decode cX7_wheel 35 = .ok (.iload_n 2, 1) := by decide +kernel
theorem dX7_wheel_36 : decode cX7_wheel 36 = .ok (.iastore, 1) := by decide +kernel
theorem dX7_wheel_37 : decode cX7_wheel 37 = .ok (.aload_n 0, 1) := by decide +kernel
theorem dX7_wheel_38 : decode cX7_wheel 38 = .ok (.getfield 19, 3) := by decide +kernel
theorem dX7_wheel_41 : decode cX7_wheel 41 = .ok (.bipush 13, 2) := by decide +kernel
theorem dX7_wheel_43 : decode cX7_wheel 43 = .ok (.iload_n 1, 1) := by decide +kernel
theorem dX7_wheel_44 : decode cX7_wheel 44 = .ok (.imul, 1) := by decide +kernel
theorem dX7_wheel_45 : decode cX7_wheel 45 = .ok (.bipush 9, 2) := by decide +kernel
theorem dX7_wheel_47 : decode cX7_wheel 47 = .ok (.iadd, 1) := by decide +kernel
theorem dX7_wheel_48 : decode cX7_wheel 48 = .ok (.iload_n 3, 1) := by decide +kernel
theorem dX7_wheel_49 : decode cX7_wheel 49 = .ok (.iastore, 1) := by decide +kernel
theorem dX7_wheel_50 : decode cX7_wheel 50 = .ok (.iconst 1, 1) := by decide +kernel
theorem dX7_wheel_51 : decode cX7_wheel 51 = .ok (.ireturn, 1) := by decide +kernel
set_option maxRecDepth 20000 in
theorem ggX7_spring_X7_isHanging : GoodIn wsX7_spring wsX7_isHanging := goodIn_r _ [5, 6, 7, 4, 8] (by decide +kernel) (by decide +kernel)
set_option maxRecDepth 20000 in
theorem gX7_spring_X7_isHanging : GoodIn wsX7_spring (va_wsS RX7 42 yX7_isHanging wsX7_isHanging) := goodIn_app (goodIn_of _ (by decide +kernel)) ggX7_spring_X7_isHanging
set_option maxRecDepth 20000 in
theorem ggX7_spring_X7_isAt : GoodIn wsX7_spring wsX7_isAt := goodIn_r _ [11, 6, 7, 4, 8] (by decide +kernel) (by decide +kernel)
set_option maxRecDepth 20000 in
theorem gX7_spring_X7_isAt : GoodIn wsX7_spring (va_wsS RX7 46 yX7_isAt wsX7_isAt) := goodIn_app (goodIn_of _ (by decide +kernel)) ggX7_spring_X7_isAt
set_option maxRecDepth 20000 in
theorem ggX7_spring_X7_in : GoodIn wsX7_spring wsX7_in := goodIn_r _ [8] (by decide +kernel) (by decide +kernel)
set_option maxRecDepth 20000 in
theorem gX7_spring_X7_in : GoodIn wsX7_spring (va_wsS RX7 38 yX7_in wsX7_in) := goodIn_app (goodIn_of _ (by decide +kernel)) ggX7_spring_X7_in
theorem dX7_spring_0 : decode cX7_spring 0 = .ok (.iload_n 1, 1) := by decide +kernel
theorem dX7_spring_1 : decode cX7_spring 1 = .ok (.invokestatic 42, 3) := by decide +kernel
theorem dX7_spring_4 : decode cX7_spring 4 = .ok (.ifCond .eq 29, 3) := by decide +kernel
theorem dX7_spring_7 : decode cX7_spring 7 = .ok (.iload_n 2, 1) := by decide +kernel
theorem dX7_spring_8 : decode cX7_spring 8 = .ok (.invokestatic 46, 3) := by decide +kernel
theorem dX7_spring_11 : decode cX7_spring 11 = .ok (.ifCond .eq 22, 3) := by decide +kernel
theorem dX7_spring_14 : decode cX7_spring 14 = .ok (.iload_n 3, 1) := by decide +kernel
theorem dX7_spring_15 : decode cX7_spring 15 = .ok (.invokestatic 46, 3) := by decide +kernel
theorem dX7_spring_18 : decode cX7_spring 18 = .ok (.ifCond .eq 15, 3) := by decide +kernel
theorem dX7_spring_21 : decode cX7_spring 21 = .ok (.iload 4, 2) := by decide +kernel
theorem dX7_spring_23 : decode cX7_spring 23 = .ok (.iconst 0, 1) := by decide +kernel
theorem dX7_spring_24 : decode cX7_spring 24 = .ok (.sipush 1000, 3) := by decide +kernel
theorem dX7_spring_27 : decode cX7_spring 27 = .ok (.invokestatic 38, 3) := by decide +kernel
theorem dX7_spring_30 : decode cX7_spring 30 = .ok (.ifCond .ne 6, 3) := by decide +kernel
theorem dX7_spring_33 : decode cX7_spring 33 = .ok (.bipush (-2), 2) := by decide +kernel
theorem dX7_spring_35 : decode cX7_spring 35 = .ok (.ireturn, 1) := by decide +kernel
theorem dX7_spring_36 : decode cX7_spring 36 = .ok (.aload_n 0, 1) := by decide +kernel
theorem dX7_spring_37 : decode cX7_spring 37 = .ok (.getfield 19, 3) := by decide +kernel
theorem dX7_spring_40 : decode cX7_spring 40 = .ok (.bipush 13, 2) := by decide +kernel
theorem dX7_spring_42 : decode cX7_spring 42 = .ok (.iload_n 1, 1) := by decide +kernel
theorem dX7_spring_43 : decode cX7_spring 43 = .ok (.imul, 1) := by decide +kernel
theorem dX7_spring_44 : decode cX7_spring 44 = .ok (.bipush 10, 2) := by decide +kernel
theorem dX7_spring_46 : decode cX7_spring 46 = .ok (.iadd, 1) := by decide +kernel
theorem dX7_spring_47 : decode cX7_spring 47 = .ok (.iload_n 2, 1) := by decide +kernel
theorem dX7_spring_48 : decode cX7_spring 48 = .ok (.iastore, 1) := by decide +kernel
theorem dX7_spring_49 : decode cX7_spring 49 = .ok (.aload_n 0, 1) := by decide +kernel
theorem dX7_spring_50 : decode cX7_spring 50 = .ok (.getfield 19, 3) := by decide +kernel
theorem dX7_spring_53 : decode cX7_spring 53 = .ok (.bipush 13, 2) := by decide +kernel
theorem dX7_spring_55 : decode cX7_spring 55 = .ok (.iload_n 1, 1) := by decide +kernel
theorem dX7_spring_56 : decode cX7_spring 56 = .ok (.imul, 1) := by decide +kernel
theorem dX7_spring_57 : decode cX7_spring 57 = .ok (.bipush 11, 2) := by decide +kernel
theorem dX7_spring_59 : decode cX7_spring 59 = .ok (.iadd, 1) := by decide +kernel
theorem dX7_spring_60 : decode cX7_spring 60 = .ok (.iload_n 3, 1) := by decide +kernel
theorem dX7_spring_61 : decode cX7_spring 61 = .ok (.iastore, 1) := by decide +kernel
theorem dX7_spring_62 : decode cX7_spring 62 = .ok (.aload_n 0, 1) := by decide +kernel
theorem dX7_spring_63 : decode cX7_spring 63 = .ok (.getfield 19, 3) := by decide +kernel
theorem dX7_spring_66 : decode cX7_spring 66 = .ok (.bipush 13, 2) := by decide +kernel
theorem dX7_spring_68 : decode cX7_spring 68 = .ok (.iload_n 1, 1) := by decide +kernel
theorem dX7_spring_69 : decode cX7_spring 69 = .ok (.imul, 1) := by decide +kernel
theorem dX7_spring_70 : decode cX7_spring 70 = .ok (.bipush 12, 2) := by decide +kernel
theorem dX7_spring_72 : decode cX7_spring 72 = .ok (.iadd, 1) := by decide +kernel
theorem dX7_spring_73 : decode cX7_spring 73 = .ok (.iload 4, 2) := by decide +kernel
theorem dX7_spring_75 : decode cX7_spring 75 = .ok (.iastore, 1) := by decide +kernel
theorem dX7_spring_76 : decode cX7_spring 76 = .ok (.iconst 1, 1) := by decide +kernel
theorem dX7_spring_77 : decode cX7_spring 77 = .ok (.ireturn, 1) := by decide +kernel
set_option maxRecDepth 20000 in
theorem ggX7_mirror_X7_isHanging : GoodIn wsX7_mirror wsX7_isHanging := goodIn_r _ [5, 6, 7, 4, 8] (by decide +kernel) (by decide +kernel)
set_option maxRecDepth 20000 in
theorem gX7_mirror_X7_isHanging : GoodIn wsX7_mirror (va_wsS RX7 42 yX7_isHanging wsX7_isHanging) := goodIn_app (goodIn_of _ (by decide +kernel)) ggX7_mirror_X7_isHanging
theorem dX7_mirror_0 : decode cX7_mirror 0 = .ok (.iload_n 1, 1) := by decide +kernel
theorem dX7_mirror_1 : decode cX7_mirror 1 = .ok (.invokestatic 42, 3) := by decide +kernel
theorem dX7_mirror_4 : decode cX7_mirror 4 = .ok (.ifCond .eq 10, 3) := by decide +kernel
theorem dX7_mirror_7 : decode cX7_mirror 7 = .ok (.iload_n 2, 1) := by decide +kernel
theorem dX7_mirror_8 : decode cX7_mirror 8 = .ok (.invokestatic 42, 3) := by decide +kernel
theorem dX7_mirror_11 : decode cX7_mirror 11 = .ok (.ifCond .ne 6, 3) := by decide +kernel
theorem dX7_mirror_14 : decode cX7_mirror 14 = .ok (.bipush (-2), 2) := by decide +kernel
theorem dX7_mirror_16 : decode cX7_mirror 16 = .ok (.ireturn, 1) := by decide +kernel
theorem dX7_mirror_17 : decode cX7_mirror 17 = .ok (.iconst 0, 1) := by decide +kernel
theorem dX7_mirror_18 : decode cX7_mirror 18 = .ok (.istore_n 3, 1) := by decide +kernel
theorem dX7_mirror_19 : decode cX7_mirror 19 = .ok (.iload_n 3, 1) := by decide +kernel
theorem dX7_mirror_20 : decode cX7_mirror 20 = .ok (.bipush 13, 2) := by decide +kernel
theorem dX7_mirror_22 : decode cX7_mirror 22 = .ok (.if_icmp .ge 62, 3) := by decide +kernel
theorem dX7_mirror_25 : decode cX7_mirror 25 = .ok (.aload_n 0, 1) := by decide +kernel
theorem dX7_mirror_26 : decode cX7_mirror 26 = .ok (.getfield 19, 3) := by decide +kernel
theorem dX7_mirror_29 : decode cX7_mirror 29 = .ok (.bipush 13, 2) := by decide +kernel
theorem dX7_mirror_31 : decode cX7_mirror 31 = .ok (.iload_n 1, 1) := by decide +kernel
theorem dX7_mirror_32 : decode cX7_mirror 32 = .ok (.imul, 1) := by decide +kernel
theorem dX7_mirror_33 : decode cX7_mirror 33 = .ok (.iload_n 3, 1) := by decide +kernel
theorem dX7_mirror_34 : decode cX7_mirror 34 = .ok (.iadd, 1) := by decide +kernel
theorem dX7_mirror_35 : decode cX7_mirror 35 = .ok (.iaload, 1) := by decide +kernel
theorem dX7_mirror_36 : decode cX7_mirror 36 = .ok (.istore 4, 2) := by decide +kernel
theorem dX7_mirror_38 : decode cX7_mirror 38 = .ok (.aload_n 0, 1) := by decide +kernel
theorem dX7_mirror_39 : decode cX7_mirror 39 = .ok (.getfield 19, 3) := by decide +kernel
theorem dX7_mirror_42 : decode cX7_mirror 42 = .ok (.bipush 13, 2) := by decide +kernel
theorem dX7_mirror_44 : decode cX7_mirror 44 = .ok (.iload_n 2, 1) := by decide +kernel
theorem dX7_mirror_45 : decode cX7_mirror 45 = .ok (.imul, 1) := by decide +kernel
theorem dX7_mirror_46 : decode cX7_mirror 46 = .ok (.iload_n 3, 1) := by decide +kernel
theorem dX7_mirror_47 : decode cX7_mirror 47 = .ok (.iadd, 1) := by decide +kernel
theorem dX7_mirror_48 : decode cX7_mirror 48 = .ok (.iload_n 3, 1) := by decide +kernel
theorem dX7_mirror_49 : decode cX7_mirror 49 = .ok (.ifCond .eq 20, 3) := by decide +kernel
theorem dX7_mirror_52 : decode cX7_mirror 52 = .ok (.iload_n 3, 1) := by decide +kernel
theorem dX7_mirror_53 : decode cX7_mirror 53 = .ok (.iconst 2, 1) := by decide +kernel
theorem dX7_mirror_54 : decode cX7_mirror 54 = .ok (.if_icmp .eq 15, 3) := by decide +kernel
theorem dX7_mirror_57 : decode cX7_mirror 57 = .ok (.iload_n 3, 1) := by decide +kernel
theorem dX7_mirror_58 : decode cX7_mirror 58 = .ok (.bipush 7, 2) := by decide +kernel
theorem dX7_mirror_60 : decode cX7_mirror 60 = .ok (.if_icmp .eq 9, 3) := by decide +kernel
theorem dX7_mirror_63 : decode cX7_mirror 63 = .ok (.iload_n 3, 1) := by decide +kernel
theorem dX7_mirror_64 : decode cX7_mirror 64 = .ok (.bipush 10, 2) := by decide +kernel
theorem dX7_mirror_66 : decode cX7_mirror 66 = .ok (.if_icmp .ne 9, 3) := by decide +kernel
theorem dX7_mirror_69 : decode cX7_mirror 69 = .ok (.iload 4, 2) := by decide +kernel
theorem dX7_mirror_71 : decode cX7_mirror 71 = .ok (.ineg, 1) := by decide +kernel
theorem dX7_mirror_72 : decode cX7_mirror 72 = .ok (.goto 5, 3) := by decide +kernel
theorem dX7_mirror_75 : decode cX7_mirror 75 = .ok (.iload 4, 2) := by decide +kernel
theorem dX7_mirror_77 : decode cX7_mirror 77 = .ok (.iastore, 1) := by decide +kernel
theorem dX7_mirror_78 : decode cX7_mirror 78 = .ok (.iinc 3 1, 3) := by decide +kernel
theorem dX7_mirror_81 : decode cX7_mirror 81 = .ok (.goto (-62), 3) := by decide +kernel
theorem dX7_mirror_84 : decode cX7_mirror 84 = .ok (.iconst 1, 1) := by decide +kernel
theorem dX7_mirror_85 : decode cX7_mirror 85 = .ok (.ireturn, 1) := by decide +kernel
set_option maxRecDepth 20000 in
theorem ggX7_poses_X7_root : GoodIn wsX7_poses wsX7_root := goodIn_r _ [12, 13, 4, 14, 15] (by decide +kernel) (by decide +kernel)
set_option maxRecDepth 20000 in
theorem gX7_poses_X7_root : GoodIn wsX7_poses (va_wsS RX7 52 yX7_root wsX7_root) := goodIn_app (goodIn_of _ (by decide +kernel)) ggX7_poses_X7_root
theorem dX7_poses_0 : decode cX7_poses 0 = .ok (.bipush 13, 2) := by decide +kernel
theorem dX7_poses_2 : decode cX7_poses 2 = .ok (.iload_n 1, 1) := by decide +kernel
theorem dX7_poses_3 : decode cX7_poses 3 = .ok (.imul, 1) := by decide +kernel
theorem dX7_poses_4 : decode cX7_poses 4 = .ok (.istore_n 3, 1) := by decide +kernel
theorem dX7_poses_5 : decode cX7_poses 5 = .ok (.aload_n 0, 1) := by decide +kernel
theorem dX7_poses_6 : decode cX7_poses 6 = .ok (.getfield 19, 3) := by decide +kernel
theorem dX7_poses_9 : decode cX7_poses 9 = .ok (.iload_n 3, 1) := by decide +kernel
theorem dX7_poses_10 : decode cX7_poses 10 = .ok (.iconst 4, 1) := by decide +kernel
theorem dX7_poses_11 : decode cX7_poses 11 = .ok (.iadd, 1) := by decide +kernel
theorem dX7_poses_12 : decode cX7_poses 12 = .ok (.iaload, 1) := by decide +kernel
theorem dX7_poses_13 : decode cX7_poses 13 = .ok (.istore 4, 2) := by decide +kernel
theorem dX7_poses_15 : decode cX7_poses 15 = .ok (.aload_n 0, 1) := by decide +kernel
theorem dX7_poses_16 : decode cX7_poses 16 = .ok (.getfield 19, 3) := by decide +kernel
theorem dX7_poses_19 : decode cX7_poses 19 = .ok (.iload_n 3, 1) := by decide +kernel
theorem dX7_poses_20 : decode cX7_poses 20 = .ok (.iconst 5, 1) := by decide +kernel
theorem dX7_poses_21 : decode cX7_poses 21 = .ok (.iadd, 1) := by decide +kernel
theorem dX7_poses_22 : decode cX7_poses 22 = .ok (.iaload, 1) := by decide +kernel
theorem dX7_poses_23 : decode cX7_poses 23 = .ok (.istore 5, 2) := by decide +kernel
theorem dX7_poses_25 : decode cX7_poses 25 = .ok (.aload_n 0, 1) := by decide +kernel
theorem dX7_poses_26 : decode cX7_poses 26 = .ok (.getfield 19, 3) := by decide +kernel
theorem dX7_poses_29 : decode cX7_poses 29 = .ok (.iload_n 3, 1) := by decide +kernel
theorem dX7_poses_30 : decode cX7_poses 30 = .ok (.bipush 6, 2) := by decide +kernel
theorem dX7_poses_32 : decode cX7_poses 32 = .ok (.iadd, 1) := by decide +kernel
theorem dX7_poses_33 : decode cX7_poses 33 = .ok (.iaload, 1) := by decide +kernel
theorem dX7_poses_34 : decode cX7_poses 34 = .ok (.istore 6, 2) := by decide +kernel
theorem dX7_poses_36 : decode cX7_poses 36 = .ok (.iload_n 2, 1) := by decide +kernel
theorem dX7_poses_37 : decode cX7_poses 37 = .ok (.aload_n 0, 1) := by decide +kernel
theorem dX7_poses_38 : decode cX7_poses 38 = .ok (.getfield 19, 3) := by decide +kernel
theorem dX7_poses_41 : decode cX7_poses 41 = .ok (.iload_n 3, 1) := by decide +kernel
theorem dX7_poses_42 : decode cX7_poses 42 = .ok (.iconst 3, 1) := by decide +kernel
theorem dX7_poses_43 : decode cX7_poses 43 = .ok (.iadd, 1) := by decide +kernel
theorem dX7_poses_44 : decode cX7_poses 44 = .ok (.iaload, 1) := by decide +kernel
theorem dX7_poses_45 : decode cX7_poses 45 = .ok (.isub, 1) := by decide +kernel
theorem dX7_poses_46 : decode cX7_poses 46 = .ok (.istore 7, 2) := by decide +kernel
theorem dX7_poses_48 : decode cX7_poses 48 = .ok (.iload 5, 2) := by decide +kernel
theorem dX7_poses_50 : decode cX7_poses 50 = .ok (.iload 5, 2) := by decide +kernel
theorem dX7_poses_52 : decode cX7_poses 52 = .ok (.imul, 1) := by decide +kernel
theorem dX7_poses_53 : decode cX7_poses 53 = .ok (.iload 7, 2) := by decide +kernel
theorem dX7_poses_55 : decode cX7_poses 55 = .ok (.iload 7, 2) := by decide +kernel
theorem dX7_poses_57 : decode cX7_poses 57 = .ok (.imul, 1) := by decide +kernel
theorem dX7_poses_58 : decode cX7_poses 58 = .ok (.isub, 1) := by decide +kernel
theorem dX7_poses_59 : decode cX7_poses 59 = .ok (.istore 8, 2) := by decide +kernel
theorem dX7_poses_61 : decode cX7_poses 61 = .ok (.iload 8, 2) := by decide +kernel
theorem dX7_poses_63 : decode cX7_poses 63 = .ok (.ifCond .ge 5, 3) := by decide +kernel
theorem dX7_poses_66 : decode cX7_poses 66 = .ok (.iconst 0, 1) := by decide +kernel
theorem dX7_poses_67 : decode cX7_poses 67 = .ok (.ireturn, 1) := by decide +kernel
theorem dX7_poses_68 : decode cX7_poses 68 = .ok (.aload_n 0, 1) := by decide +kernel
theorem dX7_poses_69 : decode cX7_poses 69 = .ok (.aload_n 0, 1) := by decide +kernel
theorem dX7_poses_70 : decode cX7_poses 70 = .ok (.getfield 19, 3) := by decide +kernel
theorem dX7_poses_73 : decode cX7_poses 73 = .ok (.iload_n 3, 1) := by decide +kernel
theorem dX7_poses_74 : decode cX7_poses 74 = .ok (.iconst 2, 1) := by decide +kernel
theorem dX7_poses_75 : decode cX7_poses 75 = .ok (.iadd, 1) := by decide +kernel
theorem dX7_poses_76 : decode cX7_poses 76 = .ok (.iaload, 1) := by decide +kernel
theorem dX7_poses_77 : decode cX7_poses 77 = .ok (.i2d, 1) := by decide +kernel
theorem dX7_poses_78 : decode cX7_poses 78 = .ok (.iload 8, 2) := by decide +kernel
theorem dX7_poses_80 : decode cX7_poses 80 = .ok (.i2d, 1) := by decide +kernel
theorem dX7_poses_81 : decode cX7_poses 81 = .ok (.invokestatic 52, 3) := by decide +kernel
theorem dX7_poses_84 : decode cX7_poses 84 = .ok (.dadd, 1) := by decide +kernel
theorem dX7_poses_85 : decode cX7_poses 85 = .ok (.putfield 56, 3) := by decide +kernel
theorem dX7_poses_88 : decode cX7_poses 88 = .ok (.aload_n 0, 1) := by decide +kernel
theorem dX7_poses_89 : decode cX7_poses 89 = .ok (.iload_n 2, 1) := by decide +kernel
theorem dX7_poses_90 : decode cX7_poses 90 = .ok (.i2d, 1) := by decide +kernel
theorem dX7_poses_91 : decode cX7_poses 91 = .ok (.putfield 60, 3) := by decide +kernel
theorem dX7_poses_94 : decode cX7_poses 94 = .ok (.aload_n 0, 1) := by decide +kernel
theorem dX7_poses_95 : decode cX7_poses 95 = .ok (.getfield 19, 3) := by decide +kernel
theorem dX7_poses_98 : decode cX7_poses 98 = .ok (.iload_n 3, 1) := by decide +kernel
theorem dX7_poses_99 : decode cX7_poses 99 = .ok (.iaload, 1) := by decide +kernel
theorem dX7_poses_100 : decode cX7_poses 100 = .ok (.i2d, 1) := by decide +kernel
theorem dX7_poses_101 : decode cX7_poses 101 = .ok (.aload_n 0, 1) := by decide +kernel
theorem dX7_poses_102 : decode cX7_poses 102 = .ok (.getfield 56, 3) := by decide +kernel
theorem dX7_poses_105 : decode cX7_poses 105 = .ok (.dsub, 1) := by decide +kernel
theorem dX7_poses_106 : decode cX7_poses 106 = .ok (.dstore 9, 2) := by decide +kernel
theorem dX7_poses_108 : decode cX7_poses 108 = .ok (.aload_n 0, 1) := by decide +kernel
theorem dX7_poses_109 : decode cX7_poses 109 = .ok (.getfield 19, 3) := by decide +kernel
theorem dX7_poses_112 : decode cX7_poses 112 = .ok (.iload_n 3, 1) := by decide +kernel
theorem dX7_poses_113 : decode cX7_poses 113 = .ok (.iconst 1, 1) := by decide +kernel
theorem dX7_poses_114 : decode cX7_poses 114 = .ok (.iadd, 1) := by decide +kernel
theorem dX7_poses_115 : decode cX7_poses 115 = .ok (.iaload, 1) := by decide +kernel
theorem dX7_poses_116 : decode cX7_poses 116 = .ok (.i2d, 1) := by decide +kernel
theorem dX7_poses_117 : decode cX7_poses 117 = .ok (.aload_n 0, 1) := by decide +kernel
theorem dX7_poses_118 : decode cX7_poses 118 = .ok (.getfield 60, 3) := by decide +kernel
theorem dX7_poses_121 : decode cX7_poses 121 = .ok (.dsub, 1) := by decide +kernel
theorem dX7_poses_122 : decode cX7_poses 122 = .ok (.dstore 11, 2) := by decide +kernel
theorem dX7_poses_124 : decode cX7_poses 124 = .ok (.dload 9, 2) := by decide +kernel
theorem dX7_poses_126 : decode cX7_poses 126 = .ok (.dload 9, 2) := by decide +kernel
theorem dX7_poses_128 : decode cX7_poses 128 = .ok (.dmul, 1) := by decide +kernel
theorem dX7_poses_129 : decode cX7_poses 129 = .ok (.dload 11, 2) := by decide +kernel
theorem dX7_poses_131 : decode cX7_poses 131 = .ok (.dload 11, 2) := by decide +kernel
theorem dX7_poses_133 : decode cX7_poses 133 = .ok (.dmul, 1) := by decide +kernel
theorem dX7_poses_134 : decode cX7_poses 134 = .ok (.dadd, 1) := by decide +kernel
theorem dX7_poses_135 : decode cX7_poses 135 = .ok (.dstore 13, 2) := by decide +kernel
theorem dX7_poses_137 : decode cX7_poses 137 = .ok (.dload 13, 2) := by decide +kernel
theorem dX7_poses_139 : decode cX7_poses 139 = .ok (.dconst 0, 1) := by decide +kernel
theorem dX7_poses_140 : decode cX7_poses 140 = .ok (.dcmp .l, 1) := by decide +kernel
theorem dX7_poses_141 : decode cX7_poses 141 = .ok (.ifCond .ne 5, 3) := by decide +kernel
theorem dX7_poses_144 : decode cX7_poses 144 = .ok (.iconst 0, 1) := by decide +kernel
theorem dX7_poses_145 : decode cX7_poses 145 = .ok (.ireturn, 1) := by decide +kernel
theorem dX7_poses_146 : decode cX7_poses 146 = .ok (.iload 6, 2) := by decide +kernel
theorem dX7_poses_148 : decode cX7_poses 148 = .ok (.iload 6, 2) := by decide +kernel
theorem dX7_poses_150 : decode cX7_poses 150 = .ok (.imul, 1) := by decide +kernel
theorem dX7_poses_151 : decode cX7_poses 151 = .ok (.iload 4, 2) := by decide +kernel
theorem dX7_poses_153 : decode cX7_poses 153 = .ok (.iload 4, 2) := by decide +kernel
theorem dX7_poses_155 : decode cX7_poses 155 = .ok (.imul, 1) := by decide +kernel
theorem dX7_poses_156 : decode cX7_poses 156 = .ok (.isub, 1) := by decide +kernel
theorem dX7_poses_157 : decode cX7_poses 157 = .ok (.i2d, 1) := by decide +kernel
theorem dX7_poses_158 : decode cX7_poses 158 = .ok (.dload 13, 2) := by decide +kernel
theorem dX7_poses_160 : decode cX7_poses 160 = .ok (.dadd, 1) := by decide +kernel
theorem dX7_poses_161 : decode cX7_poses 161 = .ok (.ldc2_w 3, 3) := by decide +kernel
theorem dX7_poses_164 : decode cX7_poses 164 = .ok (.dload 13, 2) := by decide +kernel
theorem dX7_poses_166 : decode cX7_poses 166 = .ok (.dmul, 1) := by decide +kernel
theorem dX7_poses_167 : decode cX7_poses 167 = .ok (.ddiv, 1) := by decide +kernel
theorem dX7_poses_168 : decode cX7_poses 168 = .ok (.dstore 15, 2) := by decide +kernel
theorem dX7_poses_170 : decode cX7_poses 170 = .ok (.iload 6, 2) := by decide +kernel
theorem dX7_poses_172 : decode cX7_poses 172 = .ok (.iload 6, 2) := by decide +kernel
theorem dX7_poses_174 : decode cX7_poses 174 = .ok (.imul, 1) := by decide +kernel
theorem dX7_poses_175 : decode cX7_poses 175 = .ok (.i2d, 1) := by decide +kernel
theorem dX7_poses_176 : decode cX7_poses 176 = .ok (.dload 13, 2) := by decide +kernel
theorem dX7_poses_178 : decode cX7_poses 178 = .ok (.ddiv, 1) := by decide +kernel
theorem dX7_poses_179 : decode cX7_poses 179 = .ok (.dload 15, 2) := by decide +kernel
theorem dX7_poses_181 : decode cX7_poses 181 = .ok (.dload 15, 2) := by decide +kernel
theorem dX7_poses_183 : decode cX7_poses 183 = .ok (.dmul, 1) := by decide +kernel
theorem dX7_poses_184 : decode cX7_poses 184 = .ok (.dsub, 1) := by decide +kernel
theorem dX7_poses_185 : decode cX7_poses 185 = .ok (.dstore 17, 2) := by decide +kernel
theorem dX7_poses_187 : decode cX7_poses 187 = .ok (.dload 17, 2) := by decide +kernel
theorem dX7_poses_189 : decode cX7_poses 189 = .ok (.dconst 0, 1) := by decide +kernel
theorem dX7_poses_190 : decode cX7_poses 190 = .ok (.dcmp .g, 1) := by decide +kernel
theorem dX7_poses_191 : decode cX7_poses 191 = .ok (.ifCond .ge 5, 3) := by decide +kernel
theorem dX7_poses_194 : decode cX7_poses 194 = .ok (.iconst 0, 1) := by decide +kernel
theorem dX7_poses_195 : decode cX7_poses 195 = .ok (.ireturn, 1) := by decide +kernel
theorem dX7_poses_196 : decode cX7_poses 196 = .ok (.aload_n 0, 1) := by decide +kernel
theorem dX7_poses_197 : decode cX7_poses 197 = .ok (.getfield 19, 3) := by decide +kernel
theorem dX7_poses_200 : decode cX7_poses 200 = .ok (.iload_n 3, 1) := by decide +kernel
theorem dX7_poses_201 : decode cX7_poses 201 = .ok (.bipush 7, 2) := by decide +kernel
theorem dX7_poses_203 : decode cX7_poses 203 = .ok (.iadd, 1) := by decide +kernel
theorem dX7_poses_204 : decode cX7_poses 204 = .ok (.iaload, 1) := by decide +kernel
theorem dX7_poses_205 : decode cX7_poses 205 = .ok (.i2d, 1) := by decide +kernel
theorem dX7_poses_206 : decode cX7_poses 206 = .ok (.dload 17, 2) := by decide +kernel
theorem dX7_poses_208 : decode cX7_poses 208 = .ok (.invokestatic 52, 3) := by decide +kernel
theorem dX7_poses_211 : decode cX7_poses 211 = .ok (.dmul, 1) := by decide +kernel
theorem dX7_poses_212 : decode cX7_poses 212 = .ok (.dstore 19, 2) := by decide +kernel
theorem dX7_poses_214 : decode cX7_poses 214 = .ok (.aload_n 0, 1) := by decide +kernel
theorem dX7_poses_215 : decode cX7_poses 215 = .ok (.aload_n 0, 1) := by decide +kernel
theorem dX7_poses_216 : decode cX7_poses 216 = .ok (.getfield 56, 3) := by decide +kernel
theorem dX7_poses_219 : decode cX7_poses 219 = .ok (.dload 15, 2) := by decide +kernel
theorem dX7_poses_221 : decode cX7_poses 221 = .ok (.dload 9, 2) := by decide +kernel
theorem dX7_poses_223 : decode cX7_poses 223 = .ok (.dmul, 1) := by decide +kernel
theorem dX7_poses_224 : decode cX7_poses 224 = .ok (.dadd, 1) := by decide +kernel
theorem dX7_poses_225 : decode cX7_poses 225 = .ok (.dload 19, 2) := by decide +kernel
theorem dX7_poses_227 : decode cX7_poses 227 = .ok (.dload 11, 2) := by decide +kernel
theorem dX7_poses_229 : decode cX7_poses 229 = .ok (.dmul, 1) := by decide +kernel
theorem dX7_poses_230 : decode cX7_poses 230 = .ok (.dadd, 1) := by decide +kernel
theorem dX7_poses_231 : decode cX7_poses 231 = .ok (.putfield 63, 3) := by decide +kernel
theorem dX7_poses_234 : decode cX7_poses 234 = .ok (.aload_n 0, 1) := by decide +kernel
theorem dX7_poses_235 : decode cX7_poses 235 = .ok (.aload_n 0, 1) := by decide +kernel
theorem dX7_poses_236 : decode cX7_poses 236 = .ok (.getfield 60, 3) := by decide +kernel
theorem dX7_poses_239 : decode cX7_poses 239 = .ok (.dload 15, 2) := by decide +kernel
theorem dX7_poses_241 : decode cX7_poses 241 = .ok (.dload 11, 2) := by decide +kernel
theorem dX7_poses_243 : decode cX7_poses 243 = .ok (.dmul, 1) := by decide +kernel
theorem dX7_poses_244 : decode cX7_poses 244 = .ok (.dadd, 1) := by decide +kernel
theorem dX7_poses_245 : decode cX7_poses 245 = .ok (.dload 19, 2) := by decide +kernel
theorem dX7_poses_247 : decode cX7_poses 247 = .ok (.dload 9, 2) := by decide +kernel
theorem dX7_poses_249 : decode cX7_poses 249 = .ok (.dmul, 1) := by decide +kernel
theorem dX7_poses_250 : decode cX7_poses 250 = .ok (.dsub, 1) := by decide +kernel
theorem dX7_poses_251 : decode cX7_poses 251 = .ok (.putfield 66, 3) := by decide +kernel
theorem dX7_poses_254 : decode cX7_poses 254 = .ok (.aload_n 0, 1) := by decide +kernel
theorem dX7_poses_255 : decode cX7_poses 255 = .ok (.aload_n 0, 1) := by decide +kernel
theorem dX7_poses_256 : decode cX7_poses 256 = .ok (.getfield 63, 3) := by decide +kernel
theorem dX7_poses_259 : decode cX7_poses 259 = .ok (.aload_n 0, 1) := by decide +kernel
theorem dX7_poses_260 : decode cX7_poses 260 = .ok (.getfield 56, 3) := by decide +kernel
theorem dX7_poses_263 : decode cX7_poses 263 = .ok (.dsub, 1) := by decide +kernel
theorem dX7_poses_264 : decode cX7_poses 264 = .ok (.iload 6, 2) := by decide +kernel
theorem dX7_poses_266 : decode cX7_poses 266 = .ok (.i2d, 1) := by decide +kernel
theorem dX7_poses_267 : decode cX7_poses 267 = .ok (.ddiv, 1) := by decide +kernel
theorem dX7_poses_268 : decode cX7_poses 268 = .ok (.putfield 69, 3) := by decide +kernel
theorem dX7_poses_271 : decode cX7_poses 271 = .ok (.aload_n 0, 1) := by decide +kernel
theorem dX7_poses_272 : decode cX7_poses 272 = .ok (.aload_n 0, 1) := by decide +kernel
theorem dX7_poses_273 : decode cX7_poses 273 = .ok (.getfield 66, 3) := by decide +kernel
theorem dX7_poses_276 : decode cX7_poses 276 = .ok (.aload_n 0, 1) := by decide +kernel
theorem dX7_poses_277 : decode cX7_poses 277 = .ok (.getfield 60, 3) := by decide +kernel
theorem dX7_poses_280 : decode cX7_poses 280 = .ok (.dsub, 1) := by decide +kernel
theorem dX7_poses_281 : decode cX7_poses 281 = .ok (.iload 6, 2) := by decide +kernel
theorem dX7_poses_283 : decode cX7_poses 283 = .ok (.i2d, 1) := by decide +kernel
theorem dX7_poses_284 : decode cX7_poses 284 = .ok (.ddiv, 1) := by decide +kernel
theorem dX7_poses_285 : decode cX7_poses 285 = .ok (.putfield 72, 3) := by decide +kernel
theorem dX7_poses_288 : decode cX7_poses 288 = .ok (.iconst 1, 1) := by decide +kernel
theorem dX7_poses_289 : decode cX7_poses 289 = .ok (.ireturn, 1) := by decide +kernel
theorem dX7_road_0 : decode cX7_road 0 = .ok (.aload_n 0, 1) := by decide +kernel
theorem dX7_road_1 : decode cX7_road 1 = .ok (.getfield 19, 3) := by decide +kernel
theorem dX7_road_4 : decode cX7_road 4 = .ok (.bipush 13, 2) := by decide +kernel
theorem dX7_road_6 : decode cX7_road 6 = .ok (.iload_n 1, 1) := by decide +kernel
theorem dX7_road_7 : decode cX7_road 7 = .ok (.imul, 1) := by decide +kernel
theorem dX7_road_8 : decode cX7_road 8 = .ok (.bipush 8, 2) := by decide +kernel
theorem dX7_road_10 : decode cX7_road 10 = .ok (.iadd, 1) := by decide +kernel
theorem dX7_road_11 : decode cX7_road 11 = .ok (.iaload, 1) := by decide +kernel
theorem dX7_road_12 : decode cX7_road 12 = .ok (.istore_n 2, 1) := by decide +kernel
theorem dX7_road_13 : decode cX7_road 13 = .ok (.aload_n 0, 1) := by decide +kernel
theorem dX7_road_14 : decode cX7_road 14 = .ok (.getfield 19, 3) := by decide +kernel
theorem dX7_road_17 : decode cX7_road 17 = .ok (.bipush 13, 2) := by decide +kernel
theorem dX7_road_19 : decode cX7_road 19 = .ok (.iload_n 1, 1) := by decide +kernel
theorem dX7_road_20 : decode cX7_road 20 = .ok (.imul, 1) := by decide +kernel
theorem dX7_road_21 : decode cX7_road 21 = .ok (.bipush 9, 2) := by decide +kernel
theorem dX7_road_23 : decode cX7_road 23 = .ok (.iadd, 1) := by decide +kernel
theorem dX7_road_24 : decode cX7_road 24 = .ok (.iaload, 1) := by decide +kernel
theorem dX7_road_25 : decode cX7_road 25 = .ok (.istore_n 3, 1) := by decide +kernel
theorem dX7_road_26 : decode cX7_road 26 = .ok (.aload_n 0, 1) := by decide +kernel
theorem dX7_road_27 : decode cX7_road 27 = .ok (.aload_n 0, 1) := by decide +kernel
theorem dX7_road_28 : decode cX7_road 28 = .ok (.getfield 56, 3) := by decide +kernel
theorem dX7_road_31 : decode cX7_road 31 = .ok (.iload_n 2, 1) := by decide +kernel
theorem dX7_road_32 : decode cX7_road 32 = .ok (.i2d, 1) := by decide +kernel
theorem dX7_road_33 : decode cX7_road 33 = .ok (.aload_n 0, 1) := by decide +kernel
theorem dX7_road_34 : decode cX7_road 34 = .ok (.getfield 69, 3) := by decide +kernel
theorem dX7_road_37 : decode cX7_road 37 = .ok (.dmul, 1) := by decide +kernel
theorem dX7_road_38 : decode cX7_road 38 = .ok (.dadd, 1) := by decide +kernel
theorem dX7_road_39 : decode cX7_road 39 = .ok (.iload_n 3, 1) := by decide +kernel
theorem dX7_road_40 : decode cX7_road 40 = .ok (.i2d, 1) := by decide +kernel
theorem dX7_road_41 : decode cX7_road 41 = .ok (.aload_n 0, 1) := by decide +kernel
theorem dX7_road_42 : decode cX7_road 42 = .ok (.getfield 72, 3) := by decide +kernel
theorem dX7_road_45 : decode cX7_road 45 = .ok (.dmul, 1) := by decide +kernel
theorem dX7_road_46 : decode cX7_road 46 = .ok (.dadd, 1) := by decide +kernel
theorem dX7_road_47 : decode cX7_road 47 = .ok (.putfield 75, 3) := by decide +kernel
theorem dX7_road_50 : decode cX7_road 50 = .ok (.aload_n 0, 1) := by decide +kernel
theorem dX7_road_51 : decode cX7_road 51 = .ok (.aload_n 0, 1) := by decide +kernel
theorem dX7_road_52 : decode cX7_road 52 = .ok (.getfield 60, 3) := by decide +kernel
theorem dX7_road_55 : decode cX7_road 55 = .ok (.iload_n 2, 1) := by decide +kernel
theorem dX7_road_56 : decode cX7_road 56 = .ok (.i2d, 1) := by decide +kernel
theorem dX7_road_57 : decode cX7_road 57 = .ok (.aload_n 0, 1) := by decide +kernel
theorem dX7_road_58 : decode cX7_road 58 = .ok (.getfield 72, 3) := by decide +kernel
theorem dX7_road_61 : decode cX7_road 61 = .ok (.dmul, 1) := by decide +kernel
theorem dX7_road_62 : decode cX7_road 62 = .ok (.dadd, 1) := by decide +kernel
theorem dX7_road_63 : decode cX7_road 63 = .ok (.iload_n 3, 1) := by decide +kernel
theorem dX7_road_64 : decode cX7_road 64 = .ok (.i2d, 1) := by decide +kernel
theorem dX7_road_65 : decode cX7_road 65 = .ok (.aload_n 0, 1) := by decide +kernel
theorem dX7_road_66 : decode cX7_road 66 = .ok (.getfield 69, 3) := by decide +kernel
theorem dX7_road_69 : decode cX7_road 69 = .ok (.dmul, 1) := by decide +kernel
theorem dX7_road_70 : decode cX7_road 70 = .ok (.dsub, 1) := by decide +kernel
theorem dX7_road_71 : decode cX7_road 71 = .ok (.putfield 78, 3) := by decide +kernel
theorem dX7_road_74 : decode cX7_road 74 = .ok (.return_, 1) := by decide +kernel
theorem dX7_hasCentre_0 : decode cX7_hasCentre 0 = .ok (.bipush 13, 2) := by decide +kernel
theorem dX7_hasCentre_2 : decode cX7_hasCentre 2 = .ok (.iload_n 1, 1) := by decide +kernel
theorem dX7_hasCentre_3 : decode cX7_hasCentre 3 = .ok (.imul, 1) := by decide +kernel
theorem dX7_hasCentre_4 : decode cX7_hasCentre 4 = .ok (.istore_n 2, 1) := by decide +kernel
theorem dX7_hasCentre_5 : decode cX7_hasCentre 5 = .ok (.aload_n 0, 1) := by decide +kernel
theorem dX7_hasCentre_6 : decode cX7_hasCentre 6 = .ok (.getfield 19, 3) := by decide +kernel
theorem dX7_hasCentre_9 : decode cX7_hasCentre 9 = .ok (.iload_n 2, 1) := by decide +kernel
theorem dX7_hasCentre_10 : decode cX7_hasCentre 10 = .ok (.iaload, 1) := by decide +kernel
theorem dX7_hasCentre_11 : decode cX7_hasCentre 11 = .ok (.istore_n 3, 1) := by decide +kernel
theorem dX7_hasCentre_12 : decode cX7_hasCentre 12 = .ok (.aload_n 0, 1) := by decide +kernel
theorem dX7_hasCentre_13 : decode cX7_hasCentre 13 = .ok (.getfield 19, 3) := by decide +kernel
theorem dX7_hasCentre_16 : decode cX7_hasCentre 16 = .ok (.iload_n 2, 1) := by decide +kernel
theorem dX7_hasCentre_17 : decode cX7_hasCentre 17 = .ok (.iconst 1, 1) := by decide +kernel
theorem dX7_hasCentre_18 : decode cX7_hasCentre 18 = .ok (.iadd, 1) := by decide +kernel
theorem dX7_hasCentre_19 : decode cX7_hasCentre 19 = .ok (.iaload, 1) := by decide +kernel
theorem dX7_hasCentre_20 : decode cX7_hasCentre 20 = .ok (.istore 4, 2) := by decide +kernel
theorem dX7_hasCentre_22 : decode cX7_hasCentre 22 = .ok (.aload_n 0, 1) := by decide +kernel
theorem dX7_hasCentre_23 : decode cX7_hasCentre 23 = .ok (.getfield 19, 3) := by decide +kernel
theorem dX7_hasCentre_26 : decode cX7_hasCentre 26 = .ok (.iload_n 2, 1) := by decide +kernel
theorem dX7_hasCentre_27 : decode cX7_hasCentre 27 = .ok (.iconst 2, 1) := by decide +kernel
theorem dX7_hasCentre_28 : decode cX7_hasCentre 28 = .ok (.iadd, 1) := by decide +kernel
theorem dX7_hasCentre_29 : decode cX7_hasCentre 29 = .ok (.iaload, 1) := by decide +kernel
theorem dX7_hasCentre_30 : decode cX7_hasCentre 30 = .ok (.istore 5, 2) := by decide +kernel
theorem dX7_hasCentre_32 : decode cX7_hasCentre 32 = .ok (.aload_n 0, 1) := by decide +kernel
theorem dX7_hasCentre_33 : decode cX7_hasCentre 33 = .ok (.getfield 19, 3) := by decide +kernel
theorem dX7_hasCentre_36 : decode cX7_hasCentre 36 = .ok (.iload_n 2, 1) := by decide +kernel
theorem dX7_hasCentre_37 : decode cX7_hasCentre 37 = .ok (.iconst 3, 1) := by decide +kernel
theorem dX7_hasCentre_38 : decode cX7_hasCentre 38 = .ok (.iadd, 1) := by decide +kernel
theorem dX7_hasCentre_39 : decode cX7_hasCentre 39 = .ok (.iaload, 1) := by decide +kernel
theorem dX7_hasCentre_40 : decode cX7_hasCentre 40 = .ok (.istore 6, 2) := by decide +kernel
theorem dX7_hasCentre_42 : decode cX7_hasCentre 42 = .ok (.aload_n 0, 1) := by decide +kernel
theorem dX7_hasCentre_43 : decode cX7_hasCentre 43 = .ok (.getfield 63, 3) := by decide +kernel
theorem dX7_hasCentre_46 : decode cX7_hasCentre 46 = .ok (.iload_n 3, 1) := by decide +kernel
theorem dX7_hasCentre_47 : decode cX7_hasCentre 47 = .ok (.i2d, 1) := by decide +kernel
theorem dX7_hasCentre_48 : decode cX7_hasCentre 48 = .ok (.dsub, 1) := by decide +kernel
theorem dX7_hasCentre_49 : decode cX7_hasCentre 49 = .ok (.aload_n 0, 1) := by decide +kernel
theorem dX7_hasCentre_50 : decode cX7_hasCentre 50 = .ok (.getfield 60, 3) := by decide +kernel
theorem dX7_hasCentre_53 : decode cX7_hasCentre 53 = .ok (.iload 6, 2) := by decide +kernel
theorem dX7_hasCentre_55 : decode cX7_hasCentre 55 = .ok (.i2d, 1) := by decide +kernel
theorem dX7_hasCentre_56 : decode cX7_hasCentre 56 = .ok (.dsub, 1) := by decide +kernel
theorem dX7_hasCentre_57 : decode cX7_hasCentre 57 = .ok (.dmul, 1) := by decide +kernel
theorem dX7_hasCentre_58 : decode cX7_hasCentre 58 = .ok (.aload_n 0, 1) := by decide +kernel
theorem dX7_hasCentre_59 : decode cX7_hasCentre 59 = .ok (.getfield 66, 3) := by decide +kernel
theorem dX7_hasCentre_62 : decode cX7_hasCentre 62 = .ok (.iload 4, 2) := by decide +kernel
theorem dX7_hasCentre_64 : decode cX7_hasCentre 64 = .ok (.i2d, 1) := by decide +kernel
theorem dX7_hasCentre_65 : decode cX7_hasCentre 65 = .ok (.dsub, 1) := by decide +kernel
theorem dX7_hasCentre_66 : decode cX7_hasCentre 66 = .ok (.aload_n 0, 1) := by decide +kernel
theorem dX7_hasCentre_67 : decode cX7_hasCentre 67 = .ok (.getfield 56, 3) := by decide +kernel
theorem dX7_hasCentre_70 : decode cX7_hasCentre 70 = .ok (.iload 5, 2) := by decide +kernel
theorem dX7_hasCentre_72 : decode cX7_hasCentre 72 = .ok (.i2d, 1) := by decide +kernel
theorem dX7_hasCentre_73 : decode cX7_hasCentre 73 = .ok (.dsub, 1) := by decide +kernel
theorem dX7_hasCentre_74 : decode cX7_hasCentre 74 = .ok (.dmul, 1) := by decide +kernel
theorem dX7_hasCentre_75 : decode cX7_hasCentre 75 = .ok (.dsub, 1) := by decide +kernel
theorem dX7_hasCentre_76 : decode cX7_hasCentre 76 = .ok (.dstore 7, 2) := by decide +kernel
theorem dX7_hasCentre_78 : decode cX7_hasCentre 78 = .ok (.dload 7, 2) := by decide +kernel
theorem dX7_hasCentre_80 : decode cX7_hasCentre 80 = .ok (.dconst 0, 1) := by decide +kernel
theorem dX7_hasCentre_81 : decode cX7_hasCentre 81 = .ok (.dcmp .l, 1) := by decide +kernel
theorem dX7_hasCentre_82 : decode cX7_hasCentre 82 = .ok (.ifCond .ne 5, 3) := by decide +kernel
theorem dX7_hasCentre_85 : decode cX7_hasCentre 85 = .ok (.iconst 0, 1) := by decide +kernel
theorem dX7_hasCentre_86 : decode cX7_hasCentre 86 = .ok (.ireturn, 1) := by decide +kernel
theorem dX7_hasCentre_87 : decode cX7_hasCentre 87 = .ok (.iload 5, 2) := by decide +kernel
theorem dX7_hasCentre_89 : decode cX7_hasCentre 89 = .ok (.iload_n 3, 1) := by decide +kernel
theorem dX7_hasCentre_90 : decode cX7_hasCentre 90 = .ok (.isub, 1) := by decide +kernel
theorem dX7_hasCentre_91 : decode cX7_hasCentre 91 = .ok (.i2d, 1) := by decide +kernel
theorem dX7_hasCentre_92 : decode cX7_hasCentre 92 = .ok (.aload_n 0, 1) := by decide +kernel
theorem dX7_hasCentre_93 : decode cX7_hasCentre 93 = .ok (.getfield 60, 3) := by decide +kernel
theorem dX7_hasCentre_96 : decode cX7_hasCentre 96 = .ok (.iload 6, 2) := by decide +kernel
theorem dX7_hasCentre_98 : decode cX7_hasCentre 98 = .ok (.i2d, 1) := by decide +kernel
theorem dX7_hasCentre_99 : decode cX7_hasCentre 99 = .ok (.dsub, 1) := by decide +kernel
theorem dX7_hasCentre_100 : decode cX7_hasCentre 100 = .ok (.dmul, 1) := by decide +kernel
theorem dX7_hasCentre_101 : decode cX7_hasCentre 101 = .ok (.iload 6, 2) := by decide +kernel
theorem dX7_hasCentre_103 : decode cX7_hasCentre 103 = .ok (.iload 4, 2) := by decide +kernel
theorem dX7_hasCentre_105 : decode cX7_hasCentre 105 = .ok (.isub, 1) := by decide +kernel
theorem dX7_hasCentre_106 : decode cX7_hasCentre 106 = .ok (.i2d, 1) := by decide +kernel
theorem dX7_hasCentre_107 : decode cX7_hasCentre 107 = .ok (.aload_n 0, 1) := by decide +kernel
theorem dX7_hasCentre_108 : decode cX7_hasCentre 108 = .ok (.getfield 56, 3) := by decide +kernel
theorem dX7_hasCentre_111 : decode cX7_hasCentre 111 = .ok (.iload 5, 2) := by decide +kernel
theorem dX7_hasCentre_113 : decode cX7_hasCentre 113 = .ok (.i2d, 1) := by decide +kernel
theorem dX7_hasCentre_114 : decode cX7_hasCentre 114 = .ok (.dsub, 1) := by decide +kernel
theorem dX7_hasCentre_115 : decode cX7_hasCentre 115 = .ok (.dmul, 1) := by decide +kernel
theorem dX7_hasCentre_116 : decode cX7_hasCentre 116 = .ok (.dsub, 1) := by decide +kernel
theorem dX7_hasCentre_117 : decode cX7_hasCentre 117 = .ok (.dload 7, 2) := by decide +kernel
theorem dX7_hasCentre_119 : decode cX7_hasCentre 119 = .ok (.ddiv, 1) := by decide +kernel
theorem dX7_hasCentre_120 : decode cX7_hasCentre 120 = .ok (.dstore 9, 2) := by decide +kernel
theorem dX7_hasCentre_122 : decode cX7_hasCentre 122 = .ok (.aload_n 0, 1) := by decide +kernel
theorem dX7_hasCentre_123 : decode cX7_hasCentre 123 = .ok (.iload_n 3, 1) := by decide +kernel
theorem dX7_hasCentre_124 : decode cX7_hasCentre 124 = .ok (.i2d, 1) := by decide +kernel
theorem dX7_hasCentre_125 : decode cX7_hasCentre 125 = .ok (.dload 9, 2) := by decide +kernel
theorem dX7_hasCentre_127 : decode cX7_hasCentre 127 = .ok (.aload_n 0, 1) := by decide +kernel
theorem dX7_hasCentre_128 : decode cX7_hasCentre 128 = .ok (.getfield 63, 3) := by decide +kernel
theorem dX7_hasCentre_131 : decode cX7_hasCentre 131 = .ok (.iload_n 3, 1) := by decide +kernel
theorem dX7_hasCentre_132 : decode cX7_hasCentre 132 = .ok (.i2d, 1) := by decide +kernel
theorem dX7_hasCentre_133 : decode cX7_hasCentre 133 = .ok (.dsub, 1) := by decide +kernel
theorem dX7_hasCentre_134 : decode cX7_hasCentre 134 = .ok (.dmul, 1) := by decide +kernel
theorem dX7_hasCentre_135 : decode cX7_hasCentre 135 = .ok (.dadd, 1) := by decide +kernel
theorem dX7_hasCentre_136 : decode cX7_hasCentre 136 = .ok (.putfield 81, 3) := by decide +kernel
theorem dX7_hasCentre_139 : decode cX7_hasCentre 139 = .ok (.aload_n 0, 1) := by decide +kernel
theorem dX7_hasCentre_140 : decode cX7_hasCentre 140 = .ok (.iload 4, 2) := by decide +kernel
theorem dX7_hasCentre_142 : decode cX7_hasCentre 142 = .ok (.i2d, 1) := by decide +kernel
theorem dX7_hasCentre_143 : decode cX7_hasCentre 143 = .ok (.dload 9, 2) := by decide +kernel
theorem dX7_hasCentre_145 : decode cX7_hasCentre 145 = .ok (.aload_n 0, 1) := by decide +kernel
theorem dX7_hasCentre_146 : decode cX7_hasCentre 146 = .ok (.getfield 66, 3) := by decide +kernel
theorem dX7_hasCentre_149 : decode cX7_hasCentre 149 = .ok (.iload 4, 2) := by decide +kernel
theorem dX7_hasCentre_151 : decode cX7_hasCentre 151 = .ok (.i2d, 1) := by decide +kernel
theorem dX7_hasCentre_152 : decode cX7_hasCentre 152 = .ok (.dsub, 1) := by decide +kernel
theorem dX7_hasCentre_153 : decode cX7_hasCentre 153 = .ok (.dmul, 1) := by decide +kernel
theorem dX7_hasCentre_154 : decode cX7_hasCentre 154 = .ok (.dadd, 1) := by decide +kernel
theorem dX7_hasCentre_155 : decode cX7_hasCentre 155 = .ok (.putfield 84, 3) := by decide +kernel
theorem dX7_hasCentre_158 : decode cX7_hasCentre 158 = .ok (.iconst 1, 1) := by decide +kernel
theorem dX7_hasCentre_159 : decode cX7_hasCentre 159 = .ok (.ireturn, 1) := by decide +kernel
set_option maxRecDepth 20000 in
theorem ggX7_lengthAt_X7_root : GoodIn wsX7_lengthAt wsX7_root := goodIn_r _ [8, 9, 10, 11, 12] (by decide +kernel) (by decide +kernel)
set_option maxRecDepth 20000 in
theorem gX7_lengthAt_X7_root : GoodIn wsX7_lengthAt (va_wsS RX7 52 yX7_root wsX7_root) := goodIn_app (goodIn_of _ (by decide +kernel)) ggX7_lengthAt_X7_root
theorem dX7_lengthAt_0 : decode cX7_lengthAt 0 = .ok (.bipush 13, 2) := by decide +kernel
theorem dX7_lengthAt_2 : decode cX7_lengthAt 2 = .ok (.iload_n 1, 1) := by decide +kernel
theorem dX7_lengthAt_3 : decode cX7_lengthAt 3 = .ok (.imul, 1) := by decide +kernel
theorem dX7_lengthAt_4 : decode cX7_lengthAt 4 = .ok (.istore_n 2, 1) := by decide +kernel
theorem dX7_lengthAt_5 : decode cX7_lengthAt 5 = .ok (.aload_n 0, 1) := by decide +kernel
theorem dX7_lengthAt_6 : decode cX7_lengthAt 6 = .ok (.getfield 19, 3) := by decide +kernel
theorem dX7_lengthAt_9 : decode cX7_lengthAt 9 = .ok (.iload_n 2, 1) := by decide +kernel
theorem dX7_lengthAt_10 : decode cX7_lengthAt 10 = .ok (.bipush 12, 2) := by decide +kernel
theorem dX7_lengthAt_12 : decode cX7_lengthAt 12 = .ok (.iadd, 1) := by decide +kernel
theorem dX7_lengthAt_13 : decode cX7_lengthAt 13 = .ok (.iaload, 1) := by decide +kernel
theorem dX7_lengthAt_14 : decode cX7_lengthAt 14 = .ok (.istore_n 3, 1) := by decide +kernel
theorem dX7_lengthAt_15 : decode cX7_lengthAt 15 = .ok (.aload_n 0, 1) := by decide +kernel
theorem dX7_lengthAt_16 : decode cX7_lengthAt 16 = .ok (.getfield 19, 3) := by decide +kernel
theorem dX7_lengthAt_19 : decode cX7_lengthAt 19 = .ok (.iload_n 2, 1) := by decide +kernel
theorem dX7_lengthAt_20 : decode cX7_lengthAt 20 = .ok (.iconst 2, 1) := by decide +kernel
theorem dX7_lengthAt_21 : decode cX7_lengthAt 21 = .ok (.iadd, 1) := by decide +kernel
theorem dX7_lengthAt_22 : decode cX7_lengthAt 22 = .ok (.iaload, 1) := by decide +kernel
theorem dX7_lengthAt_23 : decode cX7_lengthAt 23 = .ok (.i2d, 1) := by decide +kernel
theorem dX7_lengthAt_24 : decode cX7_lengthAt 24 = .ok (.iload_n 3, 1) := by decide +kernel
theorem dX7_lengthAt_25 : decode cX7_lengthAt 25 = .ok (.i2d, 1) := by decide +kernel
theorem dX7_lengthAt_26 : decode cX7_lengthAt 26 = .ok (.aload_n 0, 1) := by decide +kernel
theorem dX7_lengthAt_27 : decode cX7_lengthAt 27 = .ok (.getfield 56, 3) := by decide +kernel
theorem dX7_lengthAt_30 : decode cX7_lengthAt 30 = .ok (.aload_n 0, 1) := by decide +kernel
theorem dX7_lengthAt_31 : decode cX7_lengthAt 31 = .ok (.getfield 19, 3) := by decide +kernel
theorem dX7_lengthAt_34 : decode cX7_lengthAt 34 = .ok (.iload_n 2, 1) := by decide +kernel
theorem dX7_lengthAt_35 : decode cX7_lengthAt 35 = .ok (.iconst 2, 1) := by decide +kernel
theorem dX7_lengthAt_36 : decode cX7_lengthAt 36 = .ok (.iadd, 1) := by decide +kernel
theorem dX7_lengthAt_37 : decode cX7_lengthAt 37 = .ok (.iaload, 1) := by decide +kernel
theorem dX7_lengthAt_38 : decode cX7_lengthAt 38 = .ok (.i2d, 1) := by decide +kernel
theorem dX7_lengthAt_39 : decode cX7_lengthAt 39 = .ok (.dsub, 1) := by decide +kernel
theorem dX7_lengthAt_40 : decode cX7_lengthAt 40 = .ok (.dmul, 1) := by decide +kernel
theorem dX7_lengthAt_41 : decode cX7_lengthAt 41 = .ok (.ldc2_w 87, 3) := by decide +kernel
theorem dX7_lengthAt_44 : decode cX7_lengthAt 44 = .ok (.ddiv, 1) := by decide +kernel
theorem dX7_lengthAt_45 : decode cX7_lengthAt 45 = .ok (.dadd, 1) := by decide +kernel
theorem dX7_lengthAt_46 : decode cX7_lengthAt 46 = .ok (.dstore 4, 2) := by decide +kernel
theorem dX7_lengthAt_48 : decode cX7_lengthAt 48 = .ok (.aload_n 0, 1) := by decide +kernel
theorem dX7_lengthAt_49 : decode cX7_lengthAt 49 = .ok (.getfield 19, 3) := by decide +kernel
theorem dX7_lengthAt_52 : decode cX7_lengthAt 52 = .ok (.iload_n 2, 1) := by decide +kernel
theorem dX7_lengthAt_53 : decode cX7_lengthAt 53 = .ok (.iconst 3, 1) := by decide +kernel
theorem dX7_lengthAt_54 : decode cX7_lengthAt 54 = .ok (.iadd, 1) := by decide +kernel
theorem dX7_lengthAt_55 : decode cX7_lengthAt 55 = .ok (.iaload, 1) := by decide +kernel
theorem dX7_lengthAt_56 : decode cX7_lengthAt 56 = .ok (.i2d, 1) := by decide +kernel
theorem dX7_lengthAt_57 : decode cX7_lengthAt 57 = .ok (.iload_n 3, 1) := by decide +kernel
theorem dX7_lengthAt_58 : decode cX7_lengthAt 58 = .ok (.i2d, 1) := by decide +kernel
theorem dX7_lengthAt_59 : decode cX7_lengthAt 59 = .ok (.aload_n 0, 1) := by decide +kernel
theorem dX7_lengthAt_60 : decode cX7_lengthAt 60 = .ok (.getfield 60, 3) := by decide +kernel
theorem dX7_lengthAt_63 : decode cX7_lengthAt 63 = .ok (.aload_n 0, 1) := by decide +kernel
theorem dX7_lengthAt_64 : decode cX7_lengthAt 64 = .ok (.getfield 19, 3) := by decide +kernel
theorem dX7_lengthAt_67 : decode cX7_lengthAt 67 = .ok (.iload_n 2, 1) := by decide +kernel
theorem dX7_lengthAt_68 : decode cX7_lengthAt 68 = .ok (.iconst 3, 1) := by decide +kernel
theorem dX7_lengthAt_69 : decode cX7_lengthAt 69 = .ok (.iadd, 1) := by decide +kernel
theorem dX7_lengthAt_70 : decode cX7_lengthAt 70 = .ok (.iaload, 1) := by decide +kernel
theorem dX7_lengthAt_71 : decode cX7_lengthAt 71 = .ok (.i2d, 1) := by decide +kernel
theorem dX7_lengthAt_72 : decode cX7_lengthAt 72 = .ok (.dsub, 1) := by decide +kernel
theorem dX7_lengthAt_73 : decode cX7_lengthAt 73 = .ok (.dmul, 1) := by decide +kernel
theorem dX7_lengthAt_74 : decode cX7_lengthAt 74 = .ok (.ldc2_w 87, 3) := by decide +kernel
theorem dX7_lengthAt_77 : decode cX7_lengthAt 77 = .ok (.ddiv, 1) := by decide +kernel
theorem dX7_lengthAt_78 : decode cX7_lengthAt 78 = .ok (.dadd, 1) := by decide +kernel
theorem dX7_lengthAt_79 : decode cX7_lengthAt 79 = .ok (.dstore 6, 2) := by decide +kernel
theorem dX7_lengthAt_81 : decode cX7_lengthAt 81 = .ok (.dload 4, 2) := by decide +kernel
theorem dX7_lengthAt_83 : decode cX7_lengthAt 83 = .ok (.aload_n 0, 1) := by decide +kernel
theorem dX7_lengthAt_84 : decode cX7_lengthAt 84 = .ok (.getfield 19, 3) := by decide +kernel
theorem dX7_lengthAt_87 : decode cX7_lengthAt 87 = .ok (.iload_n 2, 1) := by decide +kernel
theorem dX7_lengthAt_88 : decode cX7_lengthAt 88 = .ok (.bipush 10, 2) := by decide +kernel
theorem dX7_lengthAt_90 : decode cX7_lengthAt 90 = .ok (.iadd, 1) := by decide +kernel
theorem dX7_lengthAt_91 : decode cX7_lengthAt 91 = .ok (.iaload, 1) := by decide +kernel
theorem dX7_lengthAt_92 : decode cX7_lengthAt 92 = .ok (.i2d, 1) := by decide +kernel
theorem dX7_lengthAt_93 : decode cX7_lengthAt 93 = .ok (.dsub, 1) := by decide +kernel
theorem dX7_lengthAt_94 : decode cX7_lengthAt 94 = .ok (.dstore 8, 2) := by decide +kernel
theorem dX7_lengthAt_96 : decode cX7_lengthAt 96 = .ok (.dload 6, 2) := by decide +kernel
theorem dX7_lengthAt_98 : decode cX7_lengthAt 98 = .ok (.aload_n 0, 1) := by decide +kernel
theorem dX7_lengthAt_99 : decode cX7_lengthAt 99 = .ok (.getfield 19, 3) := by decide +kernel
theorem dX7_lengthAt_102 : decode cX7_lengthAt 102 = .ok (.iload_n 2, 1) := by decide +kernel
theorem dX7_lengthAt_103 : decode cX7_lengthAt 103 = .ok (.bipush 11, 2) := by decide +kernel
theorem dX7_lengthAt_105 : decode cX7_lengthAt 105 = .ok (.iadd, 1) := by decide +kernel
theorem dX7_lengthAt_106 : decode cX7_lengthAt 106 = .ok (.iaload, 1) := by decide +kernel
theorem dX7_lengthAt_107 : decode cX7_lengthAt 107 = .ok (.i2d, 1) := by decide +kernel
theorem dX7_lengthAt_108 : decode cX7_lengthAt 108 = .ok (.dsub, 1) := by decide +kernel
theorem dX7_lengthAt_109 : decode cX7_lengthAt 109 = .ok (.dstore 10, 2) := by decide +kernel
theorem dX7_lengthAt_111 : decode cX7_lengthAt 111 = .ok (.dload 8, 2) := by decide +kernel
theorem dX7_lengthAt_113 : decode cX7_lengthAt 113 = .ok (.dload 8, 2) := by decide +kernel
theorem dX7_lengthAt_115 : decode cX7_lengthAt 115 = .ok (.dmul, 1) := by decide +kernel
theorem dX7_lengthAt_116 : decode cX7_lengthAt 116 = .ok (.dload 10, 2) := by decide +kernel
theorem dX7_lengthAt_118 : decode cX7_lengthAt 118 = .ok (.dload 10, 2) := by decide +kernel
theorem dX7_lengthAt_120 : decode cX7_lengthAt 120 = .ok (.dmul, 1) := by decide +kernel
theorem dX7_lengthAt_121 : decode cX7_lengthAt 121 = .ok (.dadd, 1) := by decide +kernel
theorem dX7_lengthAt_122 : decode cX7_lengthAt 122 = .ok (.invokestatic 52, 3) := by decide +kernel
theorem dX7_lengthAt_125 : decode cX7_lengthAt 125 = .ok (.dreturn, 1) := by decide +kernel
set_option maxRecDepth 20000 in
theorem ggX7_share_X7_poses : GoodIn wsX7_share wsX7_poses := goodIn_r _ [7, 8, 9, 10, 2, 11, 12, 13, 14, 15, 16, 6, 17, 18, 19, 20, 31, 32, 33, 34, 35, 36, 37, 38, 39, 40, 41, 42, 43, 44, 45, 46, 47, 48, 49, 50, 51, 52] (by decide +kernel) (by decide +kernel)
set_option maxRecDepth 20000 in
theorem gX7_share_X7_poses : GoodIn wsX7_share (wsV RX7 89 RX7 yX7_poses wsX7_poses) := goodIn_app (goodIn_of _ (by decide +kernel)) ggX7_share_X7_poses
set_option maxRecDepth 20000 in
theorem ggX7_share_X7_lengthAt : GoodIn wsX7_share wsX7_lengthAt := goodIn_r _ [24, 8, 9, 25, 10, 15, 16, 6, 17, 18, 2, 19, 20, 31, 32, 33, 34, 35, 36, 37, 38, 39, 40, 41, 42, 43, 44, 45, 46, 47, 48, 49, 50, 51, 52] (by decide +kernel) (by decide +kernel)
set_option maxRecDepth 20000 in
theorem gX7_share_X7_lengthAt : GoodIn wsX7_share (wsV RX7 95 RX7 yX7_lengthAt wsX7_lengthAt) := goodIn_app (goodIn_of _ (by decide +kernel)) ggX7_share_X7_lengthAt
set_option maxRecDepth 20000 in
theorem ggX7_share_X7_bitsOf : GoodIn wsX7_share wsX7_bitsOf := goodIn_r _ [28, 18, 2, 19, 29, 30] (by decide +kernel) (by decide +kernel)
set_option maxRecDepth 20000 in
theorem gX7_share_X7_bitsOf : GoodIn wsX7_share (va_wsS RX7 99 yX7_bitsOf wsX7_bitsOf) := goodIn_app (goodIn_of _ (by decide +kernel)) ggX7_share_X7_bitsOf
theorem dX7_share_0 : decode cX7_share 0 = .ok (.aload_n 0, 1) := by decide +kernel
theorem dX7_share_1 : decode cX7_share 1 = .ok (.iload_n 1, 1) := by decide +kernel
theorem dX7_share_2 : decode cX7_share 2 = .ok (.iload_n 2, 1) := by decide +kernel
theorem dX7_share_3 : decode cX7_share 3 = .ok (.iconst 1, 1) := by decide +kernel
theorem dX7_share_4 : decode cX7_share 4 = .ok (.isub, 1) := by decide +kernel
theorem dX7_share_5 : decode cX7_share 5 = .ok (.invokevirtual 89, 3) := by decide +kernel
theorem dX7_share_8 : decode cX7_share 8 = .ok (.ifCond .ne 7, 3) := by decide +kernel
theorem dX7_share_11 : decode cX7_share 11 = .ok (.ldc2_w 93, 3) := by decide +kernel
theorem dX7_share_14 : decode cX7_share 14 = .ok (.lreturn, 1) := by decide +kernel
theorem dX7_share_15 : decode cX7_share 15 = .ok (.aload_n 0, 1) := by decide +kernel
theorem dX7_share_16 : decode cX7_share 16 = .ok (.iload_n 1, 1) := by decide +kernel
theorem dX7_share_17 : decode cX7_share 17 = .ok (.invokevirtual 95, 3) := by decide +kernel
theorem dX7_share_20 : decode cX7_share 20 = .ok (.dstore_n 3, 1) := by decide +kernel
theorem dX7_share_21 : decode cX7_share 21 = .ok (.aload_n 0, 1) := by decide +kernel
theorem dX7_share_22 : decode cX7_share 22 = .ok (.iload_n 1, 1) := by decide +kernel
theorem dX7_share_23 : decode cX7_share 23 = .ok (.iload_n 2, 1) := by decide +kernel
theorem dX7_share_24 : decode cX7_share 24 = .ok (.iconst 1, 1) := by decide +kernel
theorem dX7_share_25 : decode cX7_share 25 = .ok (.iadd, 1) := by decide +kernel
theorem dX7_share_26 : decode cX7_share 26 = .ok (.invokevirtual 89, 3) := by decide +kernel
theorem dX7_share_29 : decode cX7_share 29 = .ok (.ifCond .ne 7, 3) := by decide +kernel
theorem dX7_share_32 : decode cX7_share 32 = .ok (.ldc2_w 93, 3) := by decide +kernel
theorem dX7_share_35 : decode cX7_share 35 = .ok (.lreturn, 1) := by decide +kernel
theorem dX7_share_36 : decode cX7_share 36 = .ok (.dload_n 3, 1) := by decide +kernel
theorem dX7_share_37 : decode cX7_share 37 = .ok (.aload_n 0, 1) := by decide +kernel
theorem dX7_share_38 : decode cX7_share 38 = .ok (.iload_n 1, 1) := by decide +kernel
theorem dX7_share_39 : decode cX7_share 39 = .ok (.invokevirtual 95, 3) := by decide +kernel
theorem dX7_share_42 : decode cX7_share 42 = .ok (.dsub, 1) := by decide +kernel
theorem dX7_share_43 : decode cX7_share 43 = .ok (.ldc2_w 3, 3) := by decide +kernel
theorem dX7_share_46 : decode cX7_share 46 = .ok (.ddiv, 1) := by decide +kernel
theorem dX7_share_47 : decode cX7_share 47 = .ok (.invokestatic 99, 3) := by decide +kernel
theorem dX7_share_50 : decode cX7_share 50 = .ok (.lreturn, 1) := by decide +kernel
set_option maxRecDepth 20000 in
theorem ggX7_told_X7_road : GoodIn wsX7_told wsX7_road := goodIn_r _ [16, 17, 1, 7, 5, 8, 2, 9, 39, 40, 41, 42, 43, 44, 45, 46, 47, 48, 49, 50, 51, 52, 53, 54, 55, 56, 57, 58, 59, 60] (by decide +kernel) (by decide +kernel)
set_option maxRecDepth 20000 in
theorem gX7_told_X7_road : GoodIn wsX7_told (wsV RX7 103 RX7 yX7_road wsX7_road) := goodIn_app (goodIn_of _ (by decide +kernel)) ggX7_told_X7_road
set_option maxRecDepth 20000 in
theorem ggX7_told_X7_bitsOf : GoodIn wsX7_told wsX7_bitsOf := goodIn_r _ [20, 21, 22, 23, 24, 25] (by decide +kernel) (by decide +kernel)
set_option maxRecDepth 20000 in
theorem gX7_told_X7_bitsOf : GoodIn wsX7_told (va_wsS RX7 99 yX7_bitsOf wsX7_bitsOf) := goodIn_app (goodIn_of _ (by decide +kernel)) ggX7_told_X7_bitsOf
set_option maxRecDepth 20000 in
theorem ggX7_told_X7_lengthAt : GoodIn wsX7_told wsX7_lengthAt := goodIn_r _ [29, 17, 1, 30, 2, 31, 32, 15, 33, 21, 22, 23, 34, 39, 40, 41, 42, 43, 44, 45, 46, 47, 48, 49, 50, 51, 52, 53, 54, 55, 56, 57, 58, 59, 60] (by decide +kernel) (by decide +kernel)
set_option maxRecDepth 20000 in
theorem gX7_told_X7_lengthAt : GoodIn wsX7_told (wsV RX7 95 RX7 yX7_lengthAt wsX7_lengthAt) := goodIn_app (goodIn_of _ (by decide +kernel)) ggX7_told_X7_lengthAt
set_option maxRecDepth 20000 in
theorem ggX7_told_X7_hasCentre : GoodIn wsX7_told wsX7_hasCentre := goodIn_r _ [38, 17, 3, 2, 4, 1, 10, 11, 39, 40, 41, 42, 43, 44, 45, 46, 47, 48, 49, 50, 51, 52, 53, 54, 55, 56, 57, 58, 59, 60] (by decide +kernel) (by decide +kernel)
set_option maxRecDepth 20000 in
theorem gX7_told_X7_hasCentre : GoodIn wsX7_told (wsV RX7 107 RX7 yX7_hasCentre wsX7_hasCentre) := goodIn_app (goodIn_of _ (by decide +kernel)) ggX7_told_X7_hasCentre
theorem dX7_told_0 : decode cX7_told 0 = .ok (.aload_n 0, 1) := by decide +kernel
theorem dX7_told_1 : decode cX7_told 1 = .ok (.iload_n 1, 1) := by decide +kernel
theorem dX7_told_2 : decode cX7_told 2 = .ok (.invokevirtual 103, 3) := by decide +kernel
theorem dX7_told_5 : decode cX7_told 5 = .ok (.iload_n 2, 1) := by decide +kernel
theorem dX7_told_6 : decode cX7_told 6 = .ok (.tableswitch 143 0 10 #[58, 66, 74, 82, 90, 118, 126, 143, 143, 143, 134], 58) := by decide +kernel
theorem dX7_told_64 : decode cX7_told 64 = .ok (.aload_n 0, 1) := by decide +kernel
theorem dX7_told_65 : decode cX7_told 65 = .ok (.getfield 56, 3) := by decide +kernel
theorem dX7_told_68 : decode cX7_told 68 = .ok (.invokestatic 99, 3) := by decide +kernel
theorem dX7_told_71 : decode cX7_told 71 = .ok (.lreturn, 1) := by decide +kernel
theorem dX7_told_72 : decode cX7_told 72 = .ok (.aload_n 0, 1) := by decide +kernel
theorem dX7_told_73 : decode cX7_told 73 = .ok (.getfield 60, 3) := by decide +kernel
theorem dX7_told_76 : decode cX7_told 76 = .ok (.invokestatic 99, 3) := by decide +kernel
theorem dX7_told_79 : decode cX7_told 79 = .ok (.lreturn, 1) := by decide +kernel
theorem dX7_told_80 : decode cX7_told 80 = .ok (.aload_n 0, 1) := by decide +kernel
theorem dX7_told_81 : decode cX7_told 81 = .ok (.getfield 63, 3) := by decide +kernel
theorem dX7_told_84 : decode cX7_told 84 = .ok (.invokestatic 99, 3) := by decide +kernel
theorem dX7_told_87 : decode cX7_told 87 = .ok (.lreturn, 1) := by decide +kernel
theorem dX7_told_88 : decode cX7_told 88 = .ok (.aload_n 0, 1) := by decide +kernel
theorem dX7_told_89 : decode cX7_told 89 = .ok (.getfield 66, 3) := by decide +kernel
theorem dX7_told_92 : decode cX7_told 92 = .ok (.invokestatic 99, 3) := by decide +kernel
theorem dX7_told_95 : decode cX7_told 95 = .ok (.lreturn, 1) := by decide +kernel
theorem dX7_told_96 : decode cX7_told 96 = .ok (.aload_n 0, 1) := by decide +kernel
theorem dX7_told_97 : decode cX7_told 97 = .ok (.getfield 72, 3) := by decide +kernel
theorem dX7_told_100 : decode cX7_told 100 = .ok (.dconst 0, 1) := by decide +kernel
theorem dX7_told_101 : decode cX7_told 101 = .ok (.dcmp .l, 1) := by decide +kernel
theorem dX7_told_102 : decode cX7_told 102 = .ok (.ifCond .ne 9, 3) := by decide +kernel
theorem dX7_told_105 : decode cX7_told 105 = .ok (.ldc2_w 93, 3) := by decide +kernel
theorem dX7_told_108 : decode cX7_told 108 = .ok (.goto 15, 3) := by decide +kernel
theorem dX7_told_111 : decode cX7_told 111 = .ok (.aload_n 0, 1) := by decide +kernel
theorem dX7_told_112 : decode cX7_told 112 = .ok (.getfield 69, 3) := by decide +kernel
theorem dX7_told_115 : decode cX7_told 115 = .ok (.aload_n 0, 1) := by decide +kernel
theorem dX7_told_116 : decode cX7_told 116 = .ok (.getfield 72, 3) := by decide +kernel
theorem dX7_told_119 : decode cX7_told 119 = .ok (.ddiv, 1) := by decide +kernel
theorem dX7_told_120 : decode cX7_told 120 = .ok (.invokestatic 99, 3) := by decide +kernel
theorem dX7_told_123 : decode cX7_told 123 = .ok (.lreturn, 1) := by decide +kernel
theorem dX7_told_124 : decode cX7_told 124 = .ok (.aload_n 0, 1) := by decide +kernel
theorem dX7_told_125 : decode cX7_told 125 = .ok (.getfield 75, 3) := by decide +kernel
theorem dX7_told_128 : decode cX7_told 128 = .ok (.invokestatic 99, 3) := by decide +kernel
theorem dX7_told_131 : decode cX7_told 131 = .ok (.lreturn, 1) := by decide +kernel
theorem dX7_told_132 : decode cX7_told 132 = .ok (.aload_n 0, 1) := by decide +kernel
theorem dX7_told_133 : decode cX7_told 133 = .ok (.getfield 78, 3) := by decide +kernel
theorem dX7_told_136 : decode cX7_told 136 = .ok (.invokestatic 99, 3) := by decide +kernel
theorem dX7_told_139 : decode cX7_told 139 = .ok (.lreturn, 1) := by decide +kernel
theorem dX7_told_140 : decode cX7_told 140 = .ok (.aload_n 0, 1) := by decide +kernel
theorem dX7_told_141 : decode cX7_told 141 = .ok (.iload_n 1, 1) := by decide +kernel
theorem dX7_told_142 : decode cX7_told 142 = .ok (.invokevirtual 95, 3) := by decide +kernel
theorem dX7_told_145 : decode cX7_told 145 = .ok (.invokestatic 99, 3) := by decide +kernel
theorem dX7_told_148 : decode cX7_told 148 = .ok (.lreturn, 1) := by decide +kernel
theorem dX7_told_149 : decode cX7_told 149 = .ok (.aload_n 0, 1) := by decide +kernel
theorem dX7_told_150 : decode cX7_told 150 = .ok (.iload_n 1, 1) := by decide +kernel
theorem dX7_told_151 : decode cX7_told 151 = .ok (.invokevirtual 107, 3) := by decide +kernel
theorem dX7_told_154 : decode cX7_told 154 = .ok (.ifCond .ne 7, 3) := by decide +kernel
theorem dX7_told_157 : decode cX7_told 157 = .ok (.ldc2_w 93, 3) := by decide +kernel
theorem dX7_told_160 : decode cX7_told 160 = .ok (.lreturn, 1) := by decide +kernel
theorem dX7_told_161 : decode cX7_told 161 = .ok (.iload_n 2, 1) := by decide +kernel
theorem dX7_told_162 : decode cX7_told 162 = .ok (.bipush 9, 2) := by decide +kernel
theorem dX7_told_164 : decode cX7_told 164 = .ok (.if_icmp .ge 24, 3) := by decide +kernel
theorem dX7_told_167 : decode cX7_told 167 = .ok (.iload_n 2, 1) := by decide +kernel
theorem dX7_told_168 : decode cX7_told 168 = .ok (.bipush 7, 2) := by decide +kernel
theorem dX7_told_170 : decode cX7_told 170 = .ok (.if_icmp .ne 10, 3) := by decide +kernel
theorem dX7_told_173 : decode cX7_told 173 = .ok (.aload_n 0, 1) := by decide +kernel
theorem dX7_told_174 : decode cX7_told 174 = .ok (.getfield 81, 3) := by decide +kernel
theorem dX7_told_177 : decode cX7_told 177 = .ok (.goto 7, 3) := by decide +kernel
theorem dX7_told_180 : decode cX7_told 180 = .ok (.aload_n 0, 1) := by decide +kernel
theorem dX7_told_181 : decode cX7_told 181 = .ok (.getfield 84, 3) := by decide +kernel
theorem dX7_told_184 : decode cX7_told 184 = .ok (.invokestatic 99, 3) := by decide +kernel
theorem dX7_told_187 : decode cX7_told 187 = .ok (.lreturn, 1) := by decide +kernel
theorem dX7_told_188 : decode cX7_told 188 = .ok (.aload_n 0, 1) := by decide +kernel
theorem dX7_told_189 : decode cX7_told 189 = .ok (.getfield 81, 3) := by decide +kernel
theorem dX7_told_192 : decode cX7_told 192 = .ok (.aload_n 0, 1) := by decide +kernel
theorem dX7_told_193 : decode cX7_told 193 = .ok (.getfield 75, 3) := by decide +kernel
theorem dX7_told_196 : decode cX7_told 196 = .ok (.dsub, 1) := by decide +kernel
theorem dX7_told_197 : decode cX7_told 197 = .ok (.dconst 0, 1) := by decide +kernel
theorem dX7_told_198 : decode cX7_told 198 = .ok (.dcmp .l, 1) := by decide +kernel
theorem dX7_told_199 : decode cX7_told 199 = .ok (.ifCond .ne 9, 3) := by decide +kernel
theorem dX7_told_202 : decode cX7_told 202 = .ok (.ldc2_w 93, 3) := by decide +kernel
theorem dX7_told_205 : decode cX7_told 205 = .ok (.goto 37, 3) := by decide +kernel
theorem dX7_told_208 : decode cX7_told 208 = .ok (.aload_n 0, 1) := by decide +kernel
theorem dX7_told_209 : decode cX7_told 209 = .ok (.getfield 78, 3) := by decide +kernel
theorem dX7_told_212 : decode cX7_told 212 = .ok (.dconst 0, 1) := by decide +kernel
theorem dX7_told_213 : decode cX7_told 213 = .ok (.aload_n 0, 1) := by decide +kernel
theorem dX7_told_214 : decode cX7_told 214 = .ok (.getfield 75, 3) := by decide +kernel
theorem dX7_told_217 : decode cX7_told 217 = .ok (.dsub, 1) := by decide +kernel
theorem dX7_told_218 : decode cX7_told 218 = .ok (.aload_n 0, 1) := by decide +kernel
theorem dX7_told_219 : decode cX7_told 219 = .ok (.getfield 84, 3) := by decide +kernel
theorem dX7_told_222 : decode cX7_told 222 = .ok (.aload_n 0, 1) := by decide +kernel
theorem dX7_told_223 : decode cX7_told 223 = .ok (.getfield 78, 3) := by decide +kernel
theorem dX7_told_226 : decode cX7_told 226 = .ok (.dsub, 1) := by decide +kernel
theorem dX7_told_227 : decode cX7_told 227 = .ok (.dmul, 1) := by decide +kernel
theorem dX7_told_228 : decode cX7_told 228 = .ok (.aload_n 0, 1) := by decide +kernel
theorem dX7_told_229 : decode cX7_told 229 = .ok (.getfield 81, 3) := by decide +kernel
theorem dX7_told_232 : decode cX7_told 232 = .ok (.aload_n 0, 1) := by decide +kernel
theorem dX7_told_233 : decode cX7_told 233 = .ok (.getfield 75, 3) := by decide +kernel
theorem dX7_told_236 : decode cX7_told 236 = .ok (.dsub, 1) := by decide +kernel
theorem dX7_told_237 : decode cX7_told 237 = .ok (.ddiv, 1) := by decide +kernel
theorem dX7_told_238 : decode cX7_told 238 = .ok (.dadd, 1) := by decide +kernel
theorem dX7_told_239 : decode cX7_told 239 = .ok (.invokestatic 99, 3) := by decide +kernel
theorem dX7_told_242 : decode cX7_told 242 = .ok (.lreturn, 1) := by decide +kernel
set_option maxRecDepth 20000 in
theorem ggX7_pose_X7_isHanging : GoodIn wsX7_pose wsX7_isHanging := goodIn_r _ [6, 7, 8, 5, 9] (by decide +kernel) (by decide +kernel)
set_option maxRecDepth 20000 in
theorem gX7_pose_X7_isHanging : GoodIn wsX7_pose (va_wsS RX7 42 yX7_isHanging wsX7_isHanging) := goodIn_app (goodIn_of _ (by decide +kernel)) ggX7_pose_X7_isHanging
set_option maxRecDepth 20000 in
theorem ggX7_pose_X7_isAt : GoodIn wsX7_pose wsX7_isAt := goodIn_r _ [12, 7, 8, 5, 9] (by decide +kernel) (by decide +kernel)
set_option maxRecDepth 20000 in
theorem gX7_pose_X7_isAt : GoodIn wsX7_pose (va_wsS RX7 46 yX7_isAt wsX7_isAt) := goodIn_app (goodIn_of _ (by decide +kernel)) ggX7_pose_X7_isAt
set_option maxRecDepth 20000 in
theorem ggX7_pose_X7_in : GoodIn wsX7_pose wsX7_in := goodIn_r _ [9] (by decide +kernel) (by decide +kernel)
set_option maxRecDepth 20000 in
theorem gX7_pose_X7_in : GoodIn wsX7_pose (va_wsS RX7 38 yX7_in wsX7_in) := goodIn_app (goodIn_of _ (by decide +kernel)) ggX7_pose_X7_in
set_option maxRecDepth 20000 in
theorem ggX7_pose_X7_share : GoodIn wsX7_pose wsX7_share := goodIn_r _ [16, 2, 17, 18, 19, 20, 5, 21, 22, 23, 24, 25, 26, 27, 28, 29, 30, 31, 32, 33, 34, 35, 36, 37, 38, 39, 40, 41, 42, 43, 44, 61, 62, 63, 64, 65, 66, 67, 68, 69, 70, 71, 72, 73, 74, 75, 76, 77, 78, 79, 80, 81, 82] (by decide +kernel) (by decide +kernel)
set_option maxRecDepth 20000 in
theorem gX7_pose_X7_share : GoodIn wsX7_pose (wsV RX7 112 RX7 yX7_share wsX7_share) := goodIn_app (goodIn_of _ (by decide +kernel)) ggX7_pose_X7_share
set_option maxRecDepth 20000 in
theorem ggX7_pose_X7_poses : GoodIn wsX7_pose wsX7_poses := goodIn_r _ [21, 22, 23, 24, 17, 25, 26, 27, 28, 29, 30, 5, 31, 32, 33, 34, 61, 62, 63, 64, 65, 66, 67, 68, 69, 70, 71, 72, 73, 74, 75, 76, 77, 78, 79, 80, 81, 82] (by decide +kernel) (by decide +kernel)
set_option maxRecDepth 20000 in
theorem gX7_pose_X7_poses : GoodIn wsX7_pose (wsV RX7 89 RX7 yX7_poses wsX7_poses) := goodIn_app (goodIn_of _ (by decide +kernel)) ggX7_pose_X7_poses
set_option maxRecDepth 20000 in
theorem ggX7_pose_X7_told : GoodIn wsX7_pose wsX7_told := goodIn_r _ [48, 23, 24, 25, 26, 28, 2, 27, 49, 50, 51, 52, 53, 54, 55, 5, 56, 22, 40, 41, 42, 32, 17, 33, 43, 44, 35, 36, 37, 38, 39, 29, 30, 31, 34, 57, 58, 59, 60, 61, 62, 63, 64, 65, 66, 67, 68, 69, 70, 71, 72, 73, 74, 75, 76, 77, 78, 79, 80, 81, 82] (by decide +kernel) (by decide +kernel)
set_option maxRecDepth 20000 in
theorem gX7_pose_X7_told : GoodIn wsX7_pose (wsV RX7 116 RX7 yX7_told wsX7_told) := goodIn_app (goodIn_of _ (by decide +kernel)) ggX7_pose_X7_told
theorem dX7_pose_0 : decode cX7_pose 0 = .ok (.iload_n 1, 1) := by decide +kernel
theorem dX7_pose_1 : decode cX7_pose 1 = .ok (.invokestatic 42, 3) := by decide +kernel
theorem dX7_pose_4 : decode cX7_pose 4 = .ok (.ifCond .eq 20, 3) := by decide +kernel
theorem dX7_pose_7 : decode cX7_pose 7 = .ok (.iload_n 2, 1) := by decide +kernel
theorem dX7_pose_8 : decode cX7_pose 8 = .ok (.invokestatic 46, 3) := by decide +kernel
theorem dX7_pose_11 : decode cX7_pose 11 = .ok (.ifCond .eq 13, 3) := by decide +kernel
theorem dX7_pose_14 : decode cX7_pose 14 = .ok (.iload_n 3, 1) := by decide +kernel
theorem dX7_pose_15 : decode cX7_pose 15 = .ok (.iconst 0, 1) := by decide +kernel
theorem dX7_pose_16 : decode cX7_pose 16 = .ok (.bipush 11, 2) := by decide +kernel
theorem dX7_pose_18 : decode cX7_pose 18 = .ok (.invokestatic 38, 3) := by decide +kernel
theorem dX7_pose_21 : decode cX7_pose 21 = .ok (.ifCond .ne 7, 3) := by decide +kernel
theorem dX7_pose_24 : decode cX7_pose 24 = .ok (.ldc2_w 110, 3) := by decide +kernel
theorem dX7_pose_27 : decode cX7_pose 27 = .ok (.lreturn, 1) := by decide +kernel
theorem dX7_pose_28 : decode cX7_pose 28 = .ok (.iload_n 3, 1) := by decide +kernel
theorem dX7_pose_29 : decode cX7_pose 29 = .ok (.bipush 11, 2) := by decide +kernel
theorem dX7_pose_31 : decode cX7_pose 31 = .ok (.if_icmp .ne 10, 3) := by decide +kernel
theorem dX7_pose_34 : decode cX7_pose 34 = .ok (.aload_n 0, 1) := by decide +kernel
theorem dX7_pose_35 : decode cX7_pose 35 = .ok (.iload_n 1, 1) := by decide +kernel
theorem dX7_pose_36 : decode cX7_pose 36 = .ok (.iload_n 2, 1) := by decide +kernel
theorem dX7_pose_37 : decode cX7_pose 37 = .ok (.invokevirtual 112, 3) := by decide +kernel
theorem dX7_pose_40 : decode cX7_pose 40 = .ok (.lreturn, 1) := by decide +kernel
theorem dX7_pose_41 : decode cX7_pose 41 = .ok (.aload_n 0, 1) := by decide +kernel
theorem dX7_pose_42 : decode cX7_pose 42 = .ok (.iload_n 1, 1) := by decide +kernel
theorem dX7_pose_43 : decode cX7_pose 43 = .ok (.iload_n 2, 1) := by decide +kernel
theorem dX7_pose_44 : decode cX7_pose 44 = .ok (.invokevirtual 89, 3) := by decide +kernel
theorem dX7_pose_47 : decode cX7_pose 47 = .ok (.ifCond .eq 12, 3) := by decide +kernel
theorem dX7_pose_50 : decode cX7_pose 50 = .ok (.aload_n 0, 1) := by decide +kernel
theorem dX7_pose_51 : decode cX7_pose 51 = .ok (.iload_n 1, 1) := by decide +kernel
theorem dX7_pose_52 : decode cX7_pose 52 = .ok (.iload_n 3, 1) := by decide +kernel
theorem dX7_pose_53 : decode cX7_pose 53 = .ok (.invokevirtual 116, 3) := by decide +kernel
theorem dX7_pose_56 : decode cX7_pose 56 = .ok (.goto 6, 3) := by decide +kernel
theorem dX7_pose_59 : decode cX7_pose 59 = .ok (.ldc2_w 93, 3) := by decide +kernel
theorem dX7_pose_62 : decode cX7_pose 62 = .ok (.lreturn, 1) := by decide +kernel
set_option maxRecDepth 20000 in
theorem ggX7_lock_X7_isHanging : GoodIn wsX7_lock wsX7_isHanging := goodIn_r _ [4, 5, 6, 3, 7] (by decide +kernel) (by decide +kernel)
set_option maxRecDepth 20000 in
theorem gX7_lock_X7_isHanging : GoodIn wsX7_lock (va_wsS RX7 42 yX7_isHanging wsX7_isHanging) := goodIn_app (goodIn_of _ (by decide +kernel)) ggX7_lock_X7_isHanging
set_option maxRecDepth 20000 in
theorem ggX7_lock_X7_isAt : GoodIn wsX7_lock wsX7_isAt := goodIn_r _ [10, 5, 6, 3, 7] (by decide +kernel) (by decide +kernel)
set_option maxRecDepth 20000 in
theorem gX7_lock_X7_isAt : GoodIn wsX7_lock (va_wsS RX7 46 yX7_isAt wsX7_isAt) := goodIn_app (goodIn_of _ (by decide +kernel)) ggX7_lock_X7_isAt
set_option maxRecDepth 20000 in
theorem ggX7_lock_X7_in : GoodIn wsX7_lock wsX7_in := goodIn_r _ [7] (by decide +kernel) (by decide +kernel)
set_option maxRecDepth 20000 in
theorem gX7_lock_X7_in : GoodIn wsX7_lock (va_wsS RX7 38 yX7_in wsX7_in) := goodIn_app (goodIn_of _ (by decide +kernel)) ggX7_lock_X7_in
set_option maxRecDepth 20000 in
theorem ggX7_lock_X7_poses : GoodIn wsX7_lock wsX7_poses := goodIn_r _ [14, 15, 16, 17, 18, 19, 20, 21, 22, 23, 24, 3, 25, 26, 27, 28, 29, 30, 31, 32, 33, 34, 35, 36, 37, 38, 39, 40, 41, 42, 43, 44, 45, 46, 47, 48, 49, 50] (by decide +kernel) (by decide +kernel)
set_option maxRecDepth 20000 in
theorem gX7_lock_X7_poses : GoodIn wsX7_lock (wsV RX7 89 RX7 yX7_poses wsX7_poses) := goodIn_app (goodIn_of _ (by decide +kernel)) ggX7_lock_X7_poses
theorem dX7_lock_0 : decode cX7_lock 0 = .ok (.iload_n 1, 1) := by decide +kernel
theorem dX7_lock_1 : decode cX7_lock 1 = .ok (.invokestatic 42, 3) := by decide +kernel
theorem dX7_lock_4 : decode cX7_lock 4 = .ok (.ifCond .eq 21, 3) := by decide +kernel
theorem dX7_lock_7 : decode cX7_lock 7 = .ok (.iload_n 2, 1) := by decide +kernel
theorem dX7_lock_8 : decode cX7_lock 8 = .ok (.invokestatic 46, 3) := by decide +kernel
theorem dX7_lock_11 : decode cX7_lock 11 = .ok (.ifCond .eq 14, 3) := by decide +kernel
theorem dX7_lock_14 : decode cX7_lock 14 = .ok (.iload_n 3, 1) := by decide +kernel
theorem dX7_lock_15 : decode cX7_lock 15 = .ok (.iload_n 2, 1) := by decide +kernel
theorem dX7_lock_16 : decode cX7_lock 16 = .ok (.sipush 1000, 3) := by decide +kernel
theorem dX7_lock_19 : decode cX7_lock 19 = .ok (.invokestatic 38, 3) := by decide +kernel
theorem dX7_lock_22 : decode cX7_lock 22 = .ok (.ifCond .ne 7, 3) := by decide +kernel
theorem dX7_lock_25 : decode cX7_lock 25 = .ok (.sipush (-2000), 3) := by decide +kernel
theorem dX7_lock_28 : decode cX7_lock 28 = .ok (.ireturn, 1) := by decide +kernel
theorem dX7_lock_29 : decode cX7_lock 29 = .ok (.iload_n 2, 1) := by decide +kernel
theorem dX7_lock_30 : decode cX7_lock 30 = .ok (.istore 4, 2) := by decide +kernel
theorem dX7_lock_32 : decode cX7_lock 32 = .ok (.iload 4, 2) := by decide +kernel
theorem dX7_lock_34 : decode cX7_lock 34 = .ok (.iload_n 3, 1) := by decide +kernel
theorem dX7_lock_35 : decode cX7_lock 35 = .ok (.if_icmp .gt 22, 3) := by decide +kernel
theorem dX7_lock_38 : decode cX7_lock 38 = .ok (.aload_n 0, 1) := by decide +kernel
theorem dX7_lock_39 : decode cX7_lock 39 = .ok (.iload_n 1, 1) := by decide +kernel
theorem dX7_lock_40 : decode cX7_lock 40 = .ok (.iload 4, 2) := by decide +kernel
theorem dX7_lock_42 : decode cX7_lock 42 = .ok (.invokevirtual 89, 3) := by decide +kernel
theorem dX7_lock_45 : decode cX7_lock 45 = .ok (.ifCond .ne 6, 3) := by decide +kernel
theorem dX7_lock_48 : decode cX7_lock 48 = .ok (.iload 4, 2) := by decide +kernel
theorem dX7_lock_50 : decode cX7_lock 50 = .ok (.ireturn, 1) := by decide +kernel
theorem dX7_lock_51 : decode cX7_lock 51 = .ok (.iinc 4 1, 3) := by decide +kernel
theorem dX7_lock_54 : decode cX7_lock 54 = .ok (.goto (-22), 3) := by decide +kernel
theorem dX7_lock_57 : decode cX7_lock 57 = .ok (.iconst (-1), 1) := by decide +kernel
theorem dX7_lock_58 : decode cX7_lock 58 = .ok (.ireturn, 1) := by decide +kernel
set_option maxRecDepth 20000 in
theorem ggX7_weight_X7_in : GoodIn wsX7_weight wsX7_in := goodIn_r _ [8] (by decide +kernel) (by decide +kernel)
set_option maxRecDepth 20000 in
theorem gX7_weight_X7_in : GoodIn wsX7_weight (va_wsS RX7 38 yX7_in wsX7_in) := goodIn_app (goodIn_of _ (by decide +kernel)) ggX7_weight_X7_in
theorem dX7_weight_0 : decode cX7_weight 0 = .ok (.iload_n 1, 1) := by decide +kernel
theorem dX7_weight_1 : decode cX7_weight 1 = .ok (.iconst 0, 1) := by decide +kernel
theorem dX7_weight_2 : decode cX7_weight 2 = .ok (.ldc 119, 2) := by decide +kernel
theorem dX7_weight_4 : decode cX7_weight 4 = .ok (.invokestatic 38, 3) := by decide +kernel
theorem dX7_weight_7 : decode cX7_weight 7 = .ok (.ifCond .eq 27, 3) := by decide +kernel
theorem dX7_weight_10 : decode cX7_weight 10 = .ok (.iload_n 2, 1) := by decide +kernel
theorem dX7_weight_11 : decode cX7_weight 11 = .ok (.iconst 0, 1) := by decide +kernel
theorem dX7_weight_12 : decode cX7_weight 12 = .ok (.sipush 1000, 3) := by decide +kernel
theorem dX7_weight_15 : decode cX7_weight 15 = .ok (.invokestatic 38, 3) := by decide +kernel
theorem dX7_weight_18 : decode cX7_weight 18 = .ok (.ifCond .eq 16, 3) := by decide +kernel
theorem dX7_weight_21 : decode cX7_weight 21 = .ok (.iload_n 3, 1) := by decide +kernel
theorem dX7_weight_22 : decode cX7_weight 22 = .ok (.sipush (-500), 3) := by decide +kernel
theorem dX7_weight_25 : decode cX7_weight 25 = .ok (.sipush 500, 3) := by decide +kernel
theorem dX7_weight_28 : decode cX7_weight 28 = .ok (.invokestatic 38, 3) := by decide +kernel
theorem dX7_weight_31 : decode cX7_weight 31 = .ok (.ifCond .ne 6, 3) := by decide +kernel
theorem dX7_weight_34 : decode cX7_weight 34 = .ok (.bipush (-2), 2) := by decide +kernel
theorem dX7_weight_36 : decode cX7_weight 36 = .ok (.ireturn, 1) := by decide +kernel
theorem dX7_weight_37 : decode cX7_weight 37 = .ok (.aload_n 0, 1) := by decide +kernel
theorem dX7_weight_38 : decode cX7_weight 38 = .ok (.iload_n 1, 1) := by decide +kernel
theorem dX7_weight_39 : decode cX7_weight 39 = .ok (.putfield 120, 3) := by decide +kernel
theorem dX7_weight_42 : decode cX7_weight 42 = .ok (.aload_n 0, 1) := by decide +kernel
theorem dX7_weight_43 : decode cX7_weight 43 = .ok (.iload_n 2, 1) := by decide +kernel
theorem dX7_weight_44 : decode cX7_weight 44 = .ok (.putfield 124, 3) := by decide +kernel
theorem dX7_weight_47 : decode cX7_weight 47 = .ok (.aload_n 0, 1) := by decide +kernel
theorem dX7_weight_48 : decode cX7_weight 48 = .ok (.iload_n 3, 1) := by decide +kernel
theorem dX7_weight_49 : decode cX7_weight 49 = .ok (.putfield 127, 3) := by decide +kernel
theorem dX7_weight_52 : decode cX7_weight 52 = .ok (.iconst 1, 1) := by decide +kernel
theorem dX7_weight_53 : decode cX7_weight 53 = .ok (.ireturn, 1) := by decide +kernel
set_option maxRecDepth 20000 in
theorem ggX7_push_X7_in : GoodIn wsX7_push wsX7_in := goodIn_r _ [8] (by decide +kernel) (by decide +kernel)
set_option maxRecDepth 20000 in
theorem gX7_push_X7_in : GoodIn wsX7_push (va_wsS RX7 38 yX7_in wsX7_in) := goodIn_app (goodIn_of _ (by decide +kernel)) ggX7_push_X7_in
theorem dX7_push_0 : decode cX7_push 0 = .ok (.iload_n 1, 1) := by decide +kernel
theorem dX7_push_1 : decode cX7_push 1 = .ok (.ldc 130, 2) := by decide +kernel
theorem dX7_push_3 : decode cX7_push 3 = .ok (.ldc 119, 2) := by decide +kernel
theorem dX7_push_5 : decode cX7_push 5 = .ok (.invokestatic 38, 3) := by decide +kernel
theorem dX7_push_8 : decode cX7_push 8 = .ok (.ifCond .eq 14, 3) := by decide +kernel
theorem dX7_push_11 : decode cX7_push 11 = .ok (.iload_n 2, 1) := by decide +kernel
theorem dX7_push_12 : decode cX7_push 12 = .ok (.iconst 0, 1) := by decide +kernel
theorem dX7_push_13 : decode cX7_push 13 = .ok (.sipush 1000, 3) := by decide +kernel
theorem dX7_push_16 : decode cX7_push 16 = .ok (.invokestatic 38, 3) := by decide +kernel
theorem dX7_push_19 : decode cX7_push 19 = .ok (.ifCond .ne 6, 3) := by decide +kernel
theorem dX7_push_22 : decode cX7_push 22 = .ok (.bipush (-2), 2) := by decide +kernel
theorem dX7_push_24 : decode cX7_push 24 = .ok (.ireturn, 1) := by decide +kernel
theorem dX7_push_25 : decode cX7_push 25 = .ok (.aload_n 0, 1) := by decide +kernel
theorem dX7_push_26 : decode cX7_push 26 = .ok (.iload_n 1, 1) := by decide +kernel
theorem dX7_push_27 : decode cX7_push 27 = .ok (.putfield 131, 3) := by decide +kernel
theorem dX7_push_30 : decode cX7_push 30 = .ok (.aload_n 0, 1) := by decide +kernel
theorem dX7_push_31 : decode cX7_push 31 = .ok (.iload_n 2, 1) := by decide +kernel
theorem dX7_push_32 : decode cX7_push 32 = .ok (.putfield 134, 3) := by decide +kernel
theorem dX7_push_35 : decode cX7_push 35 = .ok (.iconst 1, 1) := by decide +kernel
theorem dX7_push_36 : decode cX7_push 36 = .ok (.ireturn, 1) := by decide +kernel
set_option maxRecDepth 20000 in
theorem ggX7_carries_X7_in : GoodIn wsX7_carries wsX7_in := goodIn_r _ [10] (by decide +kernel) (by decide +kernel)
set_option maxRecDepth 20000 in
theorem gX7_carries_X7_in : GoodIn wsX7_carries (va_wsS RX7 38 yX7_in wsX7_in) := goodIn_app (goodIn_of _ (by decide +kernel)) ggX7_carries_X7_in
theorem dX7_carries_0 : decode cX7_carries 0 = .ok (.iload_n 1, 1) := by decide +kernel
theorem dX7_carries_1 : decode cX7_carries 1 = .ok (.iconst 0, 1) := by decide +kernel
theorem dX7_carries_2 : decode cX7_carries 2 = .ok (.iconst 3, 1) := by decide +kernel
theorem dX7_carries_3 : decode cX7_carries 3 = .ok (.invokestatic 38, 3) := by decide +kernel
theorem dX7_carries_6 : decode cX7_carries 6 = .ok (.ifCond .ne 6, 3) := by decide +kernel
theorem dX7_carries_9 : decode cX7_carries 9 = .ok (.ldc 136, 2) := by decide +kernel
theorem dX7_carries_11 : decode cX7_carries 11 = .ok (.ireturn, 1) := by decide +kernel
theorem dX7_carries_12 : decode cX7_carries 12 = .ok (.aload_n 0, 1) := by decide +kernel
theorem dX7_carries_13 : decode cX7_carries 13 = .ok (.getfield 120, 3) := by decide +kernel
theorem dX7_carries_16 : decode cX7_carries 16 = .ok (.aload_n 0, 1) := by decide +kernel
theorem dX7_carries_17 : decode cX7_carries 17 = .ok (.getfield 124, 3) := by decide +kernel
theorem dX7_carries_20 : decode cX7_carries 20 = .ok (.imul, 1) := by decide +kernel
theorem dX7_carries_21 : decode cX7_carries 21 = .ok (.sipush 1000, 3) := by decide +kernel
theorem dX7_carries_24 : decode cX7_carries 24 = .ok (.idiv, 1) := by decide +kernel
theorem dX7_carries_25 : decode cX7_carries 25 = .ok (.istore_n 2, 1) := by decide +kernel
theorem dX7_carries_26 : decode cX7_carries 26 = .ok (.iload_n 1, 1) := by decide +kernel
theorem dX7_carries_27 : decode cX7_carries 27 = .ok (.iconst 2, 1) := by decide +kernel
theorem dX7_carries_28 : decode cX7_carries 28 = .ok (.if_icmp .ge 12, 3) := by decide +kernel
theorem dX7_carries_31 : decode cX7_carries 31 = .ok (.aload_n 0, 1) := by decide +kernel
theorem dX7_carries_32 : decode cX7_carries 32 = .ok (.getfield 120, 3) := by decide +kernel
theorem dX7_carries_35 : decode cX7_carries 35 = .ok (.iload_n 2, 1) := by decide +kernel
theorem dX7_carries_36 : decode cX7_carries 36 = .ok (.isub, 1) := by decide +kernel
theorem dX7_carries_37 : decode cX7_carries 37 = .ok (.goto 4, 3) := by decide +kernel
theorem dX7_carries_40 : decode cX7_carries 40 = .ok (.iload_n 2, 1) := by decide +kernel
theorem dX7_carries_41 : decode cX7_carries 41 = .ok (.istore_n 3, 1) := by decide +kernel
theorem dX7_carries_42 : decode cX7_carries 42 = .ok (.aload_n 0, 1) := by decide +kernel
theorem dX7_carries_43 : decode cX7_carries 43 = .ok (.getfield 131, 3) := by decide +kernel
theorem dX7_carries_46 : decode cX7_carries 46 = .ok (.aload_n 0, 1) := by decide +kernel
theorem dX7_carries_47 : decode cX7_carries 47 = .ok (.getfield 134, 3) := by decide +kernel
theorem dX7_carries_50 : decode cX7_carries 50 = .ok (.imul, 1) := by decide +kernel
theorem dX7_carries_51 : decode cX7_carries 51 = .ok (.sipush 1000, 3) := by decide +kernel
theorem dX7_carries_54 : decode cX7_carries 54 = .ok (.idiv, 1) := by decide +kernel
theorem dX7_carries_55 : decode cX7_carries 55 = .ok (.istore 4, 2) := by decide +kernel
theorem dX7_carries_57 : decode cX7_carries 57 = .ok (.iload_n 3, 1) := by decide +kernel
theorem dX7_carries_58 : decode cX7_carries 58 = .ok (.sipush 500, 3) := by decide +kernel
theorem dX7_carries_61 : decode cX7_carries 61 = .ok (.aload_n 0, 1) := by decide +kernel
theorem dX7_carries_62 : decode cX7_carries 62 = .ok (.getfield 127, 3) := by decide +kernel
theorem dX7_carries_65 : decode cX7_carries 65 = .ok (.iadd, 1) := by decide +kernel
theorem dX7_carries_66 : decode cX7_carries 66 = .ok (.imul, 1) := by decide +kernel
theorem dX7_carries_67 : decode cX7_carries 67 = .ok (.sipush 1000, 3) := by decide +kernel
theorem dX7_carries_70 : decode cX7_carries 70 = .ok (.idiv, 1) := by decide +kernel
theorem dX7_carries_71 : decode cX7_carries 71 = .ok (.iload_n 1, 1) := by decide +kernel
theorem dX7_carries_72 : decode cX7_carries 72 = .ok (.iconst 2, 1) := by decide +kernel
theorem dX7_carries_73 : decode cX7_carries 73 = .ok (.if_icmp .ge 8, 3) := by decide +kernel
theorem dX7_carries_76 : decode cX7_carries 76 = .ok (.iload 4, 2) := by decide +kernel
theorem dX7_carries_78 : decode cX7_carries 78 = .ok (.goto 10, 3) := by decide +kernel
theorem dX7_carries_81 : decode cX7_carries 81 = .ok (.aload_n 0, 1) := by decide +kernel
theorem dX7_carries_82 : decode cX7_carries 82 = .ok (.getfield 131, 3) := by decide +kernel
theorem dX7_carries_85 : decode cX7_carries 85 = .ok (.iload 4, 2) := by decide +kernel
theorem dX7_carries_87 : decode cX7_carries 87 = .ok (.isub, 1) := by decide +kernel
theorem dX7_carries_88 : decode cX7_carries 88 = .ok (.iadd, 1) := by decide +kernel
theorem dX7_carries_89 : decode cX7_carries 89 = .ok (.istore 5, 2) := by decide +kernel
theorem dX7_carries_91 : decode cX7_carries 91 = .ok (.iload_n 1, 1) := by decide +kernel
theorem dX7_carries_92 : decode cX7_carries 92 = .ok (.iconst 2, 1) := by decide +kernel
theorem dX7_carries_93 : decode cX7_carries 93 = .ok (.irem, 1) := by decide +kernel
theorem dX7_carries_94 : decode cX7_carries 94 = .ok (.iconst 1, 1) := by decide +kernel
theorem dX7_carries_95 : decode cX7_carries 95 = .ok (.if_icmp .ne 8, 3) := by decide +kernel
theorem dX7_carries_98 : decode cX7_carries 98 = .ok (.iload 5, 2) := by decide +kernel
theorem dX7_carries_100 : decode cX7_carries 100 = .ok (.goto 7, 3) := by decide +kernel
theorem dX7_carries_103 : decode cX7_carries 103 = .ok (.iload_n 3, 1) := by decide +kernel
theorem dX7_carries_104 : decode cX7_carries 104 = .ok (.iload 5, 2) := by decide +kernel
theorem dX7_carries_106 : decode cX7_carries 106 = .ok (.isub, 1) := by decide +kernel
theorem dX7_carries_107 : decode cX7_carries 107 = .ok (.ireturn, 1) := by decide +kernel
set_option maxRecDepth 20000 in
theorem ggX7_shim_X7_in : GoodIn wsX7_shim wsX7_in := goodIn_r _ [6] (by decide +kernel) (by decide +kernel)
set_option maxRecDepth 20000 in
theorem gX7_shim_X7_in : GoodIn wsX7_shim (va_wsS RX7 38 yX7_in wsX7_in) := goodIn_app (goodIn_of _ (by decide +kernel)) ggX7_shim_X7_in
theorem dX7_shim_0 : decode cX7_shim 0 = .ok (.iload_n 1, 1) := by decide +kernel
theorem dX7_shim_1 : decode cX7_shim 1 = .ok (.iconst 1, 1) := by decide +kernel
theorem dX7_shim_2 : decode cX7_shim 2 = .ok (.sipush 500, 3) := by decide +kernel
theorem dX7_shim_5 : decode cX7_shim 5 = .ok (.invokestatic 38, 3) := by decide +kernel
theorem dX7_shim_8 : decode cX7_shim 8 = .ok (.ifCond .ne 6, 3) := by decide +kernel
theorem dX7_shim_11 : decode cX7_shim 11 = .ok (.bipush (-2), 2) := by decide +kernel
theorem dX7_shim_13 : decode cX7_shim 13 = .ok (.ireturn, 1) := by decide +kernel
theorem dX7_shim_14 : decode cX7_shim 14 = .ok (.aload_n 0, 1) := by decide +kernel
theorem dX7_shim_15 : decode cX7_shim 15 = .ok (.getfield 137, 3) := by decide +kernel
theorem dX7_shim_18 : decode cX7_shim 18 = .ok (.bipush 10, 2) := by decide +kernel
theorem dX7_shim_20 : decode cX7_shim 20 = .ok (.if_icmp .ne 6, 3) := by decide +kernel
theorem dX7_shim_23 : decode cX7_shim 23 = .ok (.bipush (-4), 2) := by decide +kernel
theorem dX7_shim_25 : decode cX7_shim 25 = .ok (.ireturn, 1) := by decide +kernel
theorem dX7_shim_26 : decode cX7_shim 26 = .ok (.aload_n 0, 1) := by decide +kernel
theorem dX7_shim_27 : decode cX7_shim 27 = .ok (.getfield 25, 3) := by decide +kernel
theorem dX7_shim_30 : decode cX7_shim 30 = .ok (.aload_n 0, 1) := by decide +kernel
theorem dX7_shim_31 : decode cX7_shim 31 = .ok (.getfield 137, 3) := by decide +kernel
theorem dX7_shim_34 : decode cX7_shim 34 = .ok (.iload_n 1, 1) := by decide +kernel
theorem dX7_shim_35 : decode cX7_shim 35 = .ok (.iastore, 1) := by decide +kernel
theorem dX7_shim_36 : decode cX7_shim 36 = .ok (.aload_n 0, 1) := by decide +kernel
theorem dX7_shim_37 : decode cX7_shim 37 = .ok (.dup, 1) := by decide +kernel
theorem dX7_shim_38 : decode cX7_shim 38 = .ok (.getfield 137, 3) := by decide +kernel
theorem dX7_shim_41 : decode cX7_shim 41 = .ok (.iconst 1, 1) := by decide +kernel
theorem dX7_shim_42 : decode cX7_shim 42 = .ok (.iadd, 1) := by decide +kernel
theorem dX7_shim_43 : decode cX7_shim 43 = .ok (.putfield 137, 3) := by decide +kernel
theorem dX7_shim_46 : decode cX7_shim 46 = .ok (.aload_n 0, 1) := by decide +kernel
theorem dX7_shim_47 : decode cX7_shim 47 = .ok (.getfield 137, 3) := by decide +kernel
theorem dX7_shim_50 : decode cX7_shim 50 = .ok (.iconst 1, 1) := by decide +kernel
theorem dX7_shim_51 : decode cX7_shim 51 = .ok (.isub, 1) := by decide +kernel
theorem dX7_shim_52 : decode cX7_shim 52 = .ok (.ireturn, 1) := by decide +kernel
set_option maxRecDepth 20000 in
theorem ggX7_best_X7_in : GoodIn wsX7_best wsX7_in := goodIn_r _ [6] (by decide +kernel) (by decide +kernel)
set_option maxRecDepth 20000 in
theorem gX7_best_X7_in : GoodIn wsX7_best (va_wsS RX7 38 yX7_in wsX7_in) := goodIn_app (goodIn_of _ (by decide +kernel)) ggX7_best_X7_in
theorem dX7_best_0 : decode cX7_best 0 = .ok (.iload_n 1, 1) := by decide +kernel
theorem dX7_best_1 : decode cX7_best 1 = .ok (.iconst 0, 1) := by decide +kernel
theorem dX7_best_2 : decode cX7_best 2 = .ok (.sipush 2000, 3) := by decide +kernel
theorem dX7_best_5 : decode cX7_best 5 = .ok (.invokestatic 38, 3) := by decide +kernel
theorem dX7_best_8 : decode cX7_best 8 = .ok (.ifCond .eq 12, 3) := by decide +kernel
theorem dX7_best_11 : decode cX7_best 11 = .ok (.iload_n 2, 1) := by decide +kernel
theorem dX7_best_12 : decode cX7_best 12 = .ok (.iconst 0, 1) := by decide +kernel
theorem dX7_best_13 : decode cX7_best 13 = .ok (.iconst 3, 1) := by decide +kernel
theorem dX7_best_14 : decode cX7_best 14 = .ok (.invokestatic 38, 3) := by decide +kernel
theorem dX7_best_17 : decode cX7_best 17 = .ok (.ifCond .ne 6, 3) := by decide +kernel
theorem dX7_best_20 : decode cX7_best 20 = .ok (.bipush (-2), 2) := by decide +kernel
theorem dX7_best_22 : decode cX7_best 22 = .ok (.ireturn, 1) := by decide +kernel
theorem dX7_best_23 : decode cX7_best 23 = .ok (.iconst 0, 1) := by decide +kernel
theorem dX7_best_24 : decode cX7_best 24 = .ok (.istore_n 3, 1) := by decide +kernel
theorem dX7_best_25 : decode cX7_best 25 = .ok (.iload_n 1, 1) := by decide +kernel
theorem dX7_best_26 : decode cX7_best 26 = .ok (.istore 4, 2) := by decide +kernel
theorem dX7_best_28 : decode cX7_best 28 = .ok (.iconst 0, 1) := by decide +kernel
theorem dX7_best_29 : decode cX7_best 29 = .ok (.istore 5, 2) := by decide +kernel
theorem dX7_best_31 : decode cX7_best 31 = .ok (.iconst 1, 1) := by decide +kernel
theorem dX7_best_32 : decode cX7_best 32 = .ok (.istore 6, 2) := by decide +kernel
theorem dX7_best_34 : decode cX7_best 34 = .ok (.iload 6, 2) := by decide +kernel
theorem dX7_best_36 : decode cX7_best 36 = .ok (.iconst 1, 1) := by decide +kernel
theorem dX7_best_37 : decode cX7_best 37 = .ok (.aload_n 0, 1) := by decide +kernel
theorem dX7_best_38 : decode cX7_best 38 = .ok (.getfield 137, 3) := by decide +kernel
theorem dX7_best_41 : decode cX7_best 41 = .ok (.ishl, 1) := by decide +kernel
theorem dX7_best_42 : decode cX7_best 42 = .ok (.if_icmp .ge 129, 3) := by decide +kernel
theorem dX7_best_45 : decode cX7_best 45 = .ok (.iconst 0, 1) := by decide +kernel
theorem dX7_best_46 : decode cX7_best 46 = .ok (.istore 7, 2) := by decide +kernel
theorem dX7_best_48 : decode cX7_best 48 = .ok (.iconst 0, 1) := by decide +kernel
theorem dX7_best_49 : decode cX7_best 49 = .ok (.istore 8, 2) := by decide +kernel
theorem dX7_best_51 : decode cX7_best 51 = .ok (.iconst 0, 1) := by decide +kernel
theorem dX7_best_52 : decode cX7_best 52 = .ok (.istore 9, 2) := by decide +kernel
theorem dX7_best_54 : decode cX7_best 54 = .ok (.iload 9, 2) := by decide +kernel
theorem dX7_best_56 : decode cX7_best 56 = .ok (.aload_n 0, 1) := by decide +kernel
theorem dX7_best_57 : decode cX7_best 57 = .ok (.getfield 137, 3) := by decide +kernel
theorem dX7_best_60 : decode cX7_best 60 = .ok (.if_icmp .ge 48, 3) := by decide +kernel
theorem dX7_best_63 : decode cX7_best 63 = .ok (.iload 7, 2) := by decide +kernel
theorem dX7_best_65 : decode cX7_best 65 = .ok (.iload 6, 2) := by decide +kernel
theorem dX7_best_67 : decode cX7_best 67 = .ok (.iload 9, 2) := by decide +kernel
theorem dX7_best_69 : decode cX7_best 69 = .ok (.ishr, 1) := by decide +kernel
theorem dX7_best_70 : decode cX7_best 70 = .ok (.iconst 1, 1) := by decide +kernel
theorem dX7_best_71 : decode cX7_best 71 = .ok (.iand, 1) := by decide +kernel
theorem dX7_best_72 : decode cX7_best 72 = .ok (.iconst 1, 1) := by decide +kernel
theorem dX7_best_73 : decode cX7_best 73 = .ok (.if_icmp .ne 13, 3) := by decide +kernel
theorem dX7_best_76 : decode cX7_best 76 = .ok (.aload_n 0, 1) := by decide +kernel
theorem dX7_best_77 : decode cX7_best 77 = .ok (.getfield 25, 3) := by decide +kernel
theorem dX7_best_80 : decode cX7_best 80 = .ok (.iload 9, 2) := by decide +kernel
theorem dX7_best_82 : decode cX7_best 82 = .ok (.iaload, 1) := by decide +kernel
theorem dX7_best_83 : decode cX7_best 83 = .ok (.goto 4, 3) := by decide +kernel
theorem dX7_best_86 : decode cX7_best 86 = .ok (.iconst 0, 1) := by decide +kernel
theorem dX7_best_87 : decode cX7_best 87 = .ok (.iadd, 1) := by decide +kernel
theorem dX7_best_88 : decode cX7_best 88 = .ok (.istore 7, 2) := by decide +kernel
theorem dX7_best_90 : decode cX7_best 90 = .ok (.iload 8, 2) := by decide +kernel
theorem dX7_best_92 : decode cX7_best 92 = .ok (.iload 6, 2) := by decide +kernel
theorem dX7_best_94 : decode cX7_best 94 = .ok (.iload 9, 2) := by decide +kernel
theorem dX7_best_96 : decode cX7_best 96 = .ok (.ishr, 1) := by decide +kernel
theorem dX7_best_97 : decode cX7_best 97 = .ok (.iconst 1, 1) := by decide +kernel
theorem dX7_best_98 : decode cX7_best 98 = .ok (.iand, 1) := by decide +kernel
theorem dX7_best_99 : decode cX7_best 99 = .ok (.iadd, 1) := by decide +kernel
theorem dX7_best_100 : decode cX7_best 100 = .ok (.istore 8, 2) := by decide +kernel
theorem dX7_best_102 : decode cX7_best 102 = .ok (.iinc 9 1, 3) := by decide +kernel
theorem dX7_best_105 : decode cX7_best 105 = .ok (.goto (-51), 3) := by decide +kernel
theorem dX7_best_108 : decode cX7_best 108 = .ok (.iload 7, 2) := by decide +kernel
theorem dX7_best_110 : decode cX7_best 110 = .ok (.iload_n 1, 1) := by decide +kernel
theorem dX7_best_111 : decode cX7_best 111 = .ok (.if_icmp .le 10, 3) := by decide +kernel
theorem dX7_best_114 : decode cX7_best 114 = .ok (.iload 7, 2) := by decide +kernel
theorem dX7_best_116 : decode cX7_best 116 = .ok (.iload_n 1, 1) := by decide +kernel
theorem dX7_best_117 : decode cX7_best 117 = .ok (.isub, 1) := by decide +kernel
theorem dX7_best_118 : decode cX7_best 118 = .ok (.goto 7, 3) := by decide +kernel
theorem dX7_best_121 : decode cX7_best 121 = .ok (.iload_n 1, 1) := by decide +kernel
theorem dX7_best_122 : decode cX7_best 122 = .ok (.iload 7, 2) := by decide +kernel
theorem dX7_best_124 : decode cX7_best 124 = .ok (.isub, 1) := by decide +kernel
theorem dX7_best_125 : decode cX7_best 125 = .ok (.istore 9, 2) := by decide +kernel
theorem dX7_best_127 : decode cX7_best 127 = .ok (.iload 8, 2) := by decide +kernel
theorem dX7_best_129 : decode cX7_best 129 = .ok (.iload_n 2, 1) := by decide +kernel
theorem dX7_best_130 : decode cX7_best 130 = .ok (.if_icmp .gt 35, 3) := by decide +kernel
theorem dX7_best_133 : decode cX7_best 133 = .ok (.iload 9, 2) := by decide +kernel
theorem dX7_best_135 : decode cX7_best 135 = .ok (.iload 4, 2) := by decide +kernel
theorem dX7_best_137 : decode cX7_best 137 = .ok (.if_icmp .lt 17, 3) := by decide +kernel
theorem dX7_best_140 : decode cX7_best 140 = .ok (.iload 9, 2) := by decide +kernel
theorem dX7_best_142 : decode cX7_best 142 = .ok (.iload 4, 2) := by decide +kernel
theorem dX7_best_144 : decode cX7_best 144 = .ok (.if_icmp .ne 21, 3) := by decide +kernel
theorem dX7_best_147 : decode cX7_best 147 = .ok (.iload 8, 2) := by decide +kernel
theorem dX7_best_149 : decode cX7_best 149 = .ok (.iload 5, 2) := by decide +kernel
theorem dX7_best_151 : decode cX7_best 151 = .ok (.if_icmp .ge 14, 3) := by decide +kernel
theorem dX7_best_154 : decode cX7_best 154 = .ok (.iload 6, 2) := by decide +kernel
theorem dX7_best_156 : decode cX7_best 156 = .ok (.istore_n 3, 1) := by decide +kernel
theorem dX7_best_157 : decode cX7_best 157 = .ok (.iload 9, 2) := by decide +kernel
theorem dX7_best_159 : decode cX7_best 159 = .ok (.istore 4, 2) := by decide +kernel
theorem dX7_best_161 : decode cX7_best 161 = .ok (.iload 8, 2) := by decide +kernel
theorem dX7_best_163 : decode cX7_best 163 = .ok (.istore 5, 2) := by decide +kernel
theorem dX7_best_165 : decode cX7_best 165 = .ok (.iinc 6 1, 3) := by decide +kernel
theorem dX7_best_168 : decode cX7_best 168 = .ok (.goto (-134), 3) := by decide +kernel
theorem dX7_best_171 : decode cX7_best 171 = .ok (.iload_n 3, 1) := by decide +kernel
theorem dX7_best_172 : decode cX7_best 172 = .ok (.ireturn, 1) := by decide +kernel
set_option maxRecDepth 20000 in
theorem ggX7_reading_X7_isAt : GoodIn wsX7_reading wsX7_isAt := goodIn_r _ [7, 8, 9, 6, 10] (by decide +kernel) (by decide +kernel)
set_option maxRecDepth 20000 in
theorem gX7_reading_X7_isAt : GoodIn wsX7_reading (va_wsS RX7 46 yX7_isAt wsX7_isAt) := goodIn_app (goodIn_of _ (by decide +kernel)) ggX7_reading_X7_isAt
set_option maxRecDepth 20000 in
theorem ggX7_reading_X7_in : GoodIn wsX7_reading wsX7_in := goodIn_r _ [10] (by decide +kernel) (by decide +kernel)
set_option maxRecDepth 20000 in
theorem gX7_reading_X7_in : GoodIn wsX7_reading (va_wsS RX7 38 yX7_in wsX7_in) := goodIn_app (goodIn_of _ (by decide +kernel)) ggX7_reading_X7_in
theorem dX7_reading_0 : decode cX7_reading 0 = .ok (.iload_n 1, 1) := by decide +kernel
theorem dX7_reading_1 : decode cX7_reading 1 = .ok (.invokestatic 46, 3) := by decide +kernel
theorem dX7_reading_4 : decode cX7_reading 4 = .ok (.ifCond .eq 16, 3) := by decide +kernel
theorem dX7_reading_7 : decode cX7_reading 7 = .ok (.iload_n 2, 1) := by decide +kernel
theorem dX7_reading_8 : decode cX7_reading 8 = .ok (.sipush (-5000), 3) := by decide +kernel
theorem dX7_reading_11 : decode cX7_reading 11 = .ok (.sipush 5000, 3) := by decide +kernel
theorem dX7_reading_14 : decode cX7_reading 14 = .ok (.invokestatic 38, 3) := by decide +kernel
theorem dX7_reading_17 : decode cX7_reading 17 = .ok (.ifCond .ne 6, 3) := by decide +kernel
theorem dX7_reading_20 : decode cX7_reading 20 = .ok (.bipush (-2), 2) := by decide +kernel
theorem dX7_reading_22 : decode cX7_reading 22 = .ok (.ireturn, 1) := by decide +kernel
theorem dX7_reading_23 : decode cX7_reading 23 = .ok (.aload_n 0, 1) := by decide +kernel
theorem dX7_reading_24 : decode cX7_reading 24 = .ok (.getfield 140, 3) := by decide +kernel
theorem dX7_reading_27 : decode cX7_reading 27 = .ok (.bipush 12, 2) := by decide +kernel
theorem dX7_reading_29 : decode cX7_reading 29 = .ok (.if_icmp .ne 6, 3) := by decide +kernel
theorem dX7_reading_32 : decode cX7_reading 32 = .ok (.bipush (-4), 2) := by decide +kernel
theorem dX7_reading_34 : decode cX7_reading 34 = .ok (.ireturn, 1) := by decide +kernel
theorem dX7_reading_35 : decode cX7_reading 35 = .ok (.aload_n 0, 1) := by decide +kernel
theorem dX7_reading_36 : decode cX7_reading 36 = .ok (.getfield 28, 3) := by decide +kernel
theorem dX7_reading_39 : decode cX7_reading 39 = .ok (.aload_n 0, 1) := by decide +kernel
theorem dX7_reading_40 : decode cX7_reading 40 = .ok (.getfield 140, 3) := by decide +kernel
theorem dX7_reading_43 : decode cX7_reading 43 = .ok (.iload_n 1, 1) := by decide +kernel
theorem dX7_reading_44 : decode cX7_reading 44 = .ok (.iastore, 1) := by decide +kernel
theorem dX7_reading_45 : decode cX7_reading 45 = .ok (.aload_n 0, 1) := by decide +kernel
theorem dX7_reading_46 : decode cX7_reading 46 = .ok (.getfield 31, 3) := by decide +kernel
theorem dX7_reading_49 : decode cX7_reading 49 = .ok (.aload_n 0, 1) := by decide +kernel
theorem dX7_reading_50 : decode cX7_reading 50 = .ok (.getfield 140, 3) := by decide +kernel
theorem dX7_reading_53 : decode cX7_reading 53 = .ok (.iload_n 2, 1) := by decide +kernel
theorem dX7_reading_54 : decode cX7_reading 54 = .ok (.iastore, 1) := by decide +kernel
