theorem dX7_reading_55 : decode cX7_reading 55 = .ok (.aload_n 0, 1) := by decide +kernel
theorem dX7_reading_56 : decode cX7_reading 56 = .ok (.dup, 1) := by decide +kernel
theorem dX7_reading_57 : decode cX7_reading 57 = .ok (.getfield 140, 3) := by decide +kernel
theorem dX7_reading_60 : decode cX7_reading 60 = .ok (.iconst 1, 1) := by decide +kernel
theorem dX7_reading_61 : decode cX7_reading 61 = .ok (.iadd, 1) := by decide +kernel
theorem dX7_reading_62 : decode cX7_reading 62 = .ok (.putfield 140, 3) := by decide +kernel
theorem dX7_reading_65 : decode cX7_reading 65 = .ok (.aload_n 0, 1) := by decide +kernel
theorem dX7_reading_66 : decode cX7_reading 66 = .ok (.getfield 140, 3) := by decide +kernel
theorem dX7_reading_69 : decode cX7_reading 69 = .ok (.iconst 1, 1) := by decide +kernel
theorem dX7_reading_70 : decode cX7_reading 70 = .ok (.isub, 1) := by decide +kernel
theorem dX7_reading_71 : decode cX7_reading 71 = .ok (.ireturn, 1) := by decide +kernel
theorem dX7_clear_0 : decode cX7_clear 0 = .ok (.aload_n 0, 1) := by decide +kernel
theorem dX7_clear_1 : decode cX7_clear 1 = .ok (.getfield 140, 3) := by decide +kernel
theorem dX7_clear_4 : decode cX7_clear 4 = .ok (.istore_n 1, 1) := by decide +kernel
theorem dX7_clear_5 : decode cX7_clear 5 = .ok (.aload_n 0, 1) := by decide +kernel
theorem dX7_clear_6 : decode cX7_clear 6 = .ok (.iconst 0, 1) := by decide +kernel
theorem dX7_clear_7 : decode cX7_clear 7 = .ok (.putfield 140, 3) := by decide +kernel
theorem dX7_clear_10 : decode cX7_clear 10 = .ok (.iload_n 1, 1) := by decide +kernel
theorem dX7_clear_11 : decode cX7_clear 11 = .ok (.ireturn, 1) := by decide +kernel
set_option maxRecDepth 20000 in
theorem ggX7_isOff_X7_poses : GoodIn wsX7_isOff wsX7_poses := goodIn_r _ [12, 13, 14, 15, 16, 17, 18, 6, 4, 19, 20, 11, 21, 22, 23, 24, 25, 26, 27, 28, 29, 30, 31, 32, 33, 34, 35, 36, 37, 38, 39, 40, 41, 42, 43, 44, 45, 46] (by decide +kernel) (by decide +kernel)
set_option maxRecDepth 20000 in
theorem gX7_isOff_X7_poses : GoodIn wsX7_isOff (wsV RX7 89 RX7 yX7_poses wsX7_poses) := goodIn_app (goodIn_of _ (by decide +kernel)) ggX7_isOff_X7_poses
theorem dX7_isOff_0 : decode cX7_isOff 0 = .ok (.aload_n 0, 1) := by decide +kernel
theorem dX7_isOff_1 : decode cX7_isOff 1 = .ok (.dconst 0, 1) := by decide +kernel
theorem dX7_isOff_2 : decode cX7_isOff 2 = .ok (.putfield 143, 3) := by decide +kernel
theorem dX7_isOff_5 : decode cX7_isOff 5 = .ok (.iconst 0, 1) := by decide +kernel
theorem dX7_isOff_6 : decode cX7_isOff 6 = .ok (.istore_n 2, 1) := by decide +kernel
theorem dX7_isOff_7 : decode cX7_isOff 7 = .ok (.iload_n 2, 1) := by decide +kernel
theorem dX7_isOff_8 : decode cX7_isOff 8 = .ok (.aload_n 0, 1) := by decide +kernel
theorem dX7_isOff_9 : decode cX7_isOff 9 = .ok (.getfield 140, 3) := by decide +kernel
theorem dX7_isOff_12 : decode cX7_isOff 12 = .ok (.if_icmp .ge 68, 3) := by decide +kernel
theorem dX7_isOff_15 : decode cX7_isOff 15 = .ok (.aload_n 0, 1) := by decide +kernel
theorem dX7_isOff_16 : decode cX7_isOff 16 = .ok (.iload_n 1, 1) := by decide +kernel
theorem dX7_isOff_17 : decode cX7_isOff 17 = .ok (.aload_n 0, 1) := by decide +kernel
theorem dX7_isOff_18 : decode cX7_isOff 18 = .ok (.getfield 28, 3) := by decide +kernel
theorem dX7_isOff_21 : decode cX7_isOff 21 = .ok (.iload_n 2, 1) := by decide +kernel
theorem dX7_isOff_22 : decode cX7_isOff 22 = .ok (.iaload, 1) := by decide +kernel
theorem dX7_isOff_23 : decode cX7_isOff 23 = .ok (.invokevirtual 89, 3) := by decide +kernel
theorem dX7_isOff_26 : decode cX7_isOff 26 = .ok (.ifCond .eq 12, 3) := by decide +kernel
theorem dX7_isOff_29 : decode cX7_isOff 29 = .ok (.aload_n 0, 1) := by decide +kernel
theorem dX7_isOff_30 : decode cX7_isOff 30 = .ok (.getfield 72, 3) := by decide +kernel
theorem dX7_isOff_33 : decode cX7_isOff 33 = .ok (.dconst 0, 1) := by decide +kernel
theorem dX7_isOff_34 : decode cX7_isOff 34 = .ok (.dcmp .l, 1) := by decide +kernel
theorem dX7_isOff_35 : decode cX7_isOff 35 = .ok (.ifCond .ne 5, 3) := by decide +kernel
theorem dX7_isOff_38 : decode cX7_isOff 38 = .ok (.iconst 0, 1) := by decide +kernel
theorem dX7_isOff_39 : decode cX7_isOff 39 = .ok (.ireturn, 1) := by decide +kernel
theorem dX7_isOff_40 : decode cX7_isOff 40 = .ok (.ldc2_w 87, 3) := by decide +kernel
theorem dX7_isOff_43 : decode cX7_isOff 43 = .ok (.aload_n 0, 1) := by decide +kernel
theorem dX7_isOff_44 : decode cX7_isOff 44 = .ok (.getfield 69, 3) := by decide +kernel
theorem dX7_isOff_47 : decode cX7_isOff 47 = .ok (.aload_n 0, 1) := by decide +kernel
theorem dX7_isOff_48 : decode cX7_isOff 48 = .ok (.getfield 72, 3) := by decide +kernel
theorem dX7_isOff_51 : decode cX7_isOff 51 = .ok (.ddiv, 1) := by decide +kernel
theorem dX7_isOff_52 : decode cX7_isOff 52 = .ok (.dmul, 1) := by decide +kernel
theorem dX7_isOff_53 : decode cX7_isOff 53 = .ok (.aload_n 0, 1) := by decide +kernel
theorem dX7_isOff_54 : decode cX7_isOff 54 = .ok (.getfield 31, 3) := by decide +kernel
theorem dX7_isOff_57 : decode cX7_isOff 57 = .ok (.iload_n 2, 1) := by decide +kernel
theorem dX7_isOff_58 : decode cX7_isOff 58 = .ok (.iaload, 1) := by decide +kernel
theorem dX7_isOff_59 : decode cX7_isOff 59 = .ok (.i2d, 1) := by decide +kernel
theorem dX7_isOff_60 : decode cX7_isOff 60 = .ok (.dsub, 1) := by decide +kernel
theorem dX7_isOff_61 : decode cX7_isOff 61 = .ok (.dstore_n 3, 1) := by decide +kernel
theorem dX7_isOff_62 : decode cX7_isOff 62 = .ok (.aload_n 0, 1) := by decide +kernel
theorem dX7_isOff_63 : decode cX7_isOff 63 = .ok (.aload_n 0, 1) := by decide +kernel
theorem dX7_isOff_64 : decode cX7_isOff 64 = .ok (.getfield 143, 3) := by decide +kernel
theorem dX7_isOff_67 : decode cX7_isOff 67 = .ok (.dload_n 3, 1) := by decide +kernel
theorem dX7_isOff_68 : decode cX7_isOff 68 = .ok (.dload_n 3, 1) := by decide +kernel
theorem dX7_isOff_69 : decode cX7_isOff 69 = .ok (.dmul, 1) := by decide +kernel
theorem dX7_isOff_70 : decode cX7_isOff 70 = .ok (.dadd, 1) := by decide +kernel
theorem dX7_isOff_71 : decode cX7_isOff 71 = .ok (.putfield 143, 3) := by decide +kernel
theorem dX7_isOff_74 : decode cX7_isOff 74 = .ok (.iinc 2 1, 3) := by decide +kernel
theorem dX7_isOff_77 : decode cX7_isOff 77 = .ok (.goto (-70), 3) := by decide +kernel
theorem dX7_isOff_80 : decode cX7_isOff 80 = .ok (.iconst 1, 1) := by decide +kernel
theorem dX7_isOff_81 : decode cX7_isOff 81 = .ok (.ireturn, 1) := by decide +kernel
set_option maxRecDepth 20000 in
theorem ggX7_off_X7_isHanging : GoodIn wsX7_off wsX7_isHanging := goodIn_r _ [7, 8, 9, 6, 10] (by decide +kernel) (by decide +kernel)
set_option maxRecDepth 20000 in
theorem gX7_off_X7_isHanging : GoodIn wsX7_off (va_wsS RX7 42 yX7_isHanging wsX7_isHanging) := goodIn_app (goodIn_of _ (by decide +kernel)) ggX7_off_X7_isHanging
set_option maxRecDepth 20000 in
theorem ggX7_off_X7_isOff : GoodIn wsX7_off wsX7_isOff := goodIn_r _ [14, 2, 15, 16, 17, 18, 19, 20, 21, 22, 23, 6, 24, 25, 26, 27, 28, 29, 30, 31, 32, 33, 34, 35, 36, 42, 43, 44, 45, 46, 47, 48, 49, 50, 51, 52, 53, 54, 55, 56, 57, 58, 59, 60, 61, 62, 63] (by decide +kernel) (by decide +kernel)
set_option maxRecDepth 20000 in
theorem gX7_off_X7_isOff : GoodIn wsX7_off (wsV RX7 146 RX7 yX7_isOff wsX7_isOff) := goodIn_app (goodIn_of _ (by decide +kernel)) ggX7_off_X7_isOff
set_option maxRecDepth 20000 in
theorem ggX7_off_X7_bitsOf : GoodIn wsX7_off wsX7_bitsOf := goodIn_r _ [39, 34, 28, 35, 40, 41] (by decide +kernel) (by decide +kernel)
set_option maxRecDepth 20000 in
theorem gX7_off_X7_bitsOf : GoodIn wsX7_off (va_wsS RX7 99 yX7_bitsOf wsX7_bitsOf) := goodIn_app (goodIn_of _ (by decide +kernel)) ggX7_off_X7_bitsOf
theorem dX7_off_0 : decode cX7_off 0 = .ok (.iload_n 1, 1) := by decide +kernel
theorem dX7_off_1 : decode cX7_off 1 = .ok (.invokestatic 42, 3) := by decide +kernel
theorem dX7_off_4 : decode cX7_off 4 = .ok (.ifCond .ne 9, 3) := by decide +kernel
theorem dX7_off_7 : decode cX7_off 7 = .ok (.ldc2_w 110, 3) := by decide +kernel
theorem dX7_off_10 : decode cX7_off 10 = .ok (.goto 24, 3) := by decide +kernel
theorem dX7_off_13 : decode cX7_off 13 = .ok (.aload_n 0, 1) := by decide +kernel
theorem dX7_off_14 : decode cX7_off 14 = .ok (.iload_n 1, 1) := by decide +kernel
theorem dX7_off_15 : decode cX7_off 15 = .ok (.invokevirtual 146, 3) := by decide +kernel
theorem dX7_off_18 : decode cX7_off 18 = .ok (.ifCond .eq 13, 3) := by decide +kernel
theorem dX7_off_21 : decode cX7_off 21 = .ok (.aload_n 0, 1) := by decide +kernel
theorem dX7_off_22 : decode cX7_off 22 = .ok (.getfield 143, 3) := by decide +kernel
theorem dX7_off_25 : decode cX7_off 25 = .ok (.invokestatic 99, 3) := by decide +kernel
theorem dX7_off_28 : decode cX7_off 28 = .ok (.goto 6, 3) := by decide +kernel
theorem dX7_off_31 : decode cX7_off 31 = .ok (.ldc2_w 93, 3) := by decide +kernel
theorem dX7_off_34 : decode cX7_off 34 = .ok (.lreturn, 1) := by decide +kernel
set_option maxRecDepth 20000 in
theorem ggX7_found_X7_isHanging : GoodIn wsX7_found wsX7_isHanging := goodIn_r _ [8, 9, 10, 7, 11] (by decide +kernel) (by decide +kernel)
set_option maxRecDepth 20000 in
theorem gX7_found_X7_isHanging : GoodIn wsX7_found (va_wsS RX7 42 yX7_isHanging wsX7_isHanging) := goodIn_app (goodIn_of _ (by decide +kernel)) ggX7_found_X7_isHanging
set_option maxRecDepth 20000 in
theorem ggX7_found_X7_in : GoodIn wsX7_found wsX7_in := goodIn_r _ [11] (by decide +kernel) (by decide +kernel)
set_option maxRecDepth 20000 in
theorem gX7_found_X7_in : GoodIn wsX7_found (va_wsS RX7 38 yX7_in wsX7_in) := goodIn_app (goodIn_of _ (by decide +kernel)) ggX7_found_X7_in
set_option maxRecDepth 20000 in
theorem ggX7_found_X7_isAt : GoodIn wsX7_found wsX7_isAt := goodIn_r _ [14, 9, 10, 7, 11] (by decide +kernel) (by decide +kernel)
set_option maxRecDepth 20000 in
theorem gX7_found_X7_isAt : GoodIn wsX7_found (va_wsS RX7 46 yX7_isAt wsX7_isAt) := goodIn_app (goodIn_of _ (by decide +kernel)) ggX7_found_X7_isAt
set_option maxRecDepth 20000 in
theorem ggX7_found_X7_isOff : GoodIn wsX7_found wsX7_isOff := goodIn_r _ [18, 3, 19, 20, 21, 22, 23, 24, 25, 26, 27, 7, 28, 2, 29, 30, 31, 32, 33, 34, 35, 36, 37, 38, 39, 45, 46, 47, 48, 49, 50, 51, 52, 53, 54, 55, 56, 57, 58, 59, 60, 61, 62, 63, 64, 65, 66] (by decide +kernel) (by decide +kernel)
set_option maxRecDepth 20000 in
theorem gX7_found_X7_isOff : GoodIn wsX7_found (wsV RX7 146 RX7 yX7_isOff wsX7_isOff) := goodIn_app (goodIn_of _ (by decide +kernel)) ggX7_found_X7_isOff
set_option maxRecDepth 20000 in
theorem ggX7_found_X7_bitsOf : GoodIn wsX7_found wsX7_bitsOf := goodIn_r _ [42, 37, 31, 38, 43, 44] (by decide +kernel) (by decide +kernel)
set_option maxRecDepth 20000 in
theorem gX7_found_X7_bitsOf : GoodIn wsX7_found (va_wsS RX7 99 yX7_bitsOf wsX7_bitsOf) := goodIn_app (goodIn_of _ (by decide +kernel)) ggX7_found_X7_bitsOf
theorem dX7_found_0 : decode cX7_found 0 = .ok (.iload_n 1, 1) := by decide +kernel
theorem dX7_found_1 : decode cX7_found 1 = .ok (.invokestatic 42, 3) := by decide +kernel
theorem dX7_found_4 : decode cX7_found 4 = .ok (.ifCond .eq 21, 3) := by decide +kernel
theorem dX7_found_7 : decode cX7_found 7 = .ok (.iload_n 2, 1) := by decide +kernel
theorem dX7_found_8 : decode cX7_found 8 = .ok (.iconst 0, 1) := by decide +kernel
theorem dX7_found_9 : decode cX7_found 9 = .ok (.iconst 3, 1) := by decide +kernel
theorem dX7_found_10 : decode cX7_found 10 = .ok (.invokestatic 38, 3) := by decide +kernel
theorem dX7_found_13 : decode cX7_found 13 = .ok (.ifCond .eq 12, 3) := by decide +kernel
theorem dX7_found_16 : decode cX7_found 16 = .ok (.iload_n 3, 1) := by decide +kernel
theorem dX7_found_17 : decode cX7_found 17 = .ok (.iconst 0, 1) := by decide +kernel
theorem dX7_found_18 : decode cX7_found 18 = .ok (.iconst 2, 1) := by decide +kernel
theorem dX7_found_19 : decode cX7_found 19 = .ok (.invokestatic 38, 3) := by decide +kernel
theorem dX7_found_22 : decode cX7_found 22 = .ok (.ifCond .ne 7, 3) := by decide +kernel
theorem dX7_found_25 : decode cX7_found 25 = .ok (.ldc2_w 110, 3) := by decide +kernel
theorem dX7_found_28 : decode cX7_found 28 = .ok (.lreturn, 1) := by decide +kernel
theorem dX7_found_29 : decode cX7_found 29 = .ok (.aload_n 0, 1) := by decide +kernel
theorem dX7_found_30 : decode cX7_found 30 = .ok (.getfield 19, 3) := by decide +kernel
theorem dX7_found_33 : decode cX7_found 33 = .ok (.bipush 13, 2) := by decide +kernel
theorem dX7_found_35 : decode cX7_found 35 = .ok (.iload_n 1, 1) := by decide +kernel
theorem dX7_found_36 : decode cX7_found 36 = .ok (.imul, 1) := by decide +kernel
theorem dX7_found_37 : decode cX7_found 37 = .ok (.iaload, 1) := by decide +kernel
theorem dX7_found_38 : decode cX7_found 38 = .ok (.istore 4, 2) := by decide +kernel
theorem dX7_found_40 : decode cX7_found 40 = .ok (.aload_n 0, 1) := by decide +kernel
theorem dX7_found_41 : decode cX7_found 41 = .ok (.getfield 19, 3) := by decide +kernel
theorem dX7_found_44 : decode cX7_found 44 = .ok (.bipush 13, 2) := by decide +kernel
theorem dX7_found_46 : decode cX7_found 46 = .ok (.iload_n 1, 1) := by decide +kernel
theorem dX7_found_47 : decode cX7_found 47 = .ok (.imul, 1) := by decide +kernel
theorem dX7_found_48 : decode cX7_found 48 = .ok (.iconst 1, 1) := by decide +kernel
theorem dX7_found_49 : decode cX7_found 49 = .ok (.iadd, 1) := by decide +kernel
theorem dX7_found_50 : decode cX7_found 50 = .ok (.iaload, 1) := by decide +kernel
theorem dX7_found_51 : decode cX7_found 51 = .ok (.istore 5, 2) := by decide +kernel
theorem dX7_found_53 : decode cX7_found 53 = .ok (.iconst 0, 1) := by decide +kernel
theorem dX7_found_54 : decode cX7_found 54 = .ok (.istore 6, 2) := by decide +kernel
theorem dX7_found_56 : decode cX7_found 56 = .ok (.dconst 0, 1) := by decide +kernel
theorem dX7_found_57 : decode cX7_found 57 = .ok (.dstore 7, 2) := by decide +kernel
theorem dX7_found_59 : decode cX7_found 59 = .ok (.iconst 0, 1) := by decide +kernel
theorem dX7_found_60 : decode cX7_found 60 = .ok (.istore 9, 2) := by decide +kernel
theorem dX7_found_62 : decode cX7_found 62 = .ok (.iconst 0, 1) := by decide +kernel
theorem dX7_found_63 : decode cX7_found 63 = .ok (.istore 10, 2) := by decide +kernel
theorem dX7_found_65 : decode cX7_found 65 = .ok (.iload_n 2, 1) := by decide +kernel
theorem dX7_found_66 : decode cX7_found 66 = .ok (.ineg, 1) := by decide +kernel
theorem dX7_found_67 : decode cX7_found 67 = .ok (.istore 11, 2) := by decide +kernel
theorem dX7_found_69 : decode cX7_found 69 = .ok (.iload 11, 2) := by decide +kernel
theorem dX7_found_71 : decode cX7_found 71 = .ok (.iload_n 2, 1) := by decide +kernel
theorem dX7_found_72 : decode cX7_found 72 = .ok (.if_icmp .gt 117, 3) := by decide +kernel
theorem dX7_found_75 : decode cX7_found 75 = .ok (.iload_n 2, 1) := by decide +kernel
theorem dX7_found_76 : decode cX7_found 76 = .ok (.ineg, 1) := by decide +kernel
theorem dX7_found_77 : decode cX7_found 77 = .ok (.istore 12, 2) := by decide +kernel
theorem dX7_found_79 : decode cX7_found 79 = .ok (.iload 12, 2) := by decide +kernel
theorem dX7_found_81 : decode cX7_found 81 = .ok (.iload_n 2, 1) := by decide +kernel
theorem dX7_found_82 : decode cX7_found 82 = .ok (.if_icmp .gt 101, 3) := by decide +kernel
theorem dX7_found_85 : decode cX7_found 85 = .ok (.iload 4, 2) := by decide +kernel
theorem dX7_found_87 : decode cX7_found 87 = .ok (.iload 11, 2) := by decide +kernel
theorem dX7_found_89 : decode cX7_found 89 = .ok (.iadd, 1) := by decide +kernel
theorem dX7_found_90 : decode cX7_found 90 = .ok (.invokestatic 46, 3) := by decide +kernel
theorem dX7_found_93 : decode cX7_found 93 = .ok (.ifCond .eq 84, 3) := by decide +kernel
theorem dX7_found_96 : decode cX7_found 96 = .ok (.iload 5, 2) := by decide +kernel
theorem dX7_found_98 : decode cX7_found 98 = .ok (.iload 12, 2) := by decide +kernel
theorem dX7_found_100 : decode cX7_found 100 = .ok (.iadd, 1) := by decide +kernel
theorem dX7_found_101 : decode cX7_found 101 = .ok (.invokestatic 46, 3) := by decide +kernel
theorem dX7_found_104 : decode cX7_found 104 = .ok (.ifCond .eq 73, 3) := by decide +kernel
theorem dX7_found_107 : decode cX7_found 107 = .ok (.aload_n 0, 1) := by decide +kernel
theorem dX7_found_108 : decode cX7_found 108 = .ok (.getfield 19, 3) := by decide +kernel
theorem dX7_found_111 : decode cX7_found 111 = .ok (.bipush 13, 2) := by decide +kernel
theorem dX7_found_113 : decode cX7_found 113 = .ok (.iload_n 1, 1) := by decide +kernel
theorem dX7_found_114 : decode cX7_found 114 = .ok (.imul, 1) := by decide +kernel
theorem dX7_found_115 : decode cX7_found 115 = .ok (.iload 4, 2) := by decide +kernel
theorem dX7_found_117 : decode cX7_found 117 = .ok (.iload 11, 2) := by decide +kernel
theorem dX7_found_119 : decode cX7_found 119 = .ok (.iadd, 1) := by decide +kernel
theorem dX7_found_120 : decode cX7_found 120 = .ok (.iastore, 1) := by decide +kernel
theorem dX7_found_121 : decode cX7_found 121 = .ok (.aload_n 0, 1) := by decide +kernel
theorem dX7_found_122 : decode cX7_found 122 = .ok (.getfield 19, 3) := by decide +kernel
theorem dX7_found_125 : decode cX7_found 125 = .ok (.bipush 13, 2) := by decide +kernel
theorem dX7_found_127 : decode cX7_found 127 = .ok (.iload_n 1, 1) := by decide +kernel
theorem dX7_found_128 : decode cX7_found 128 = .ok (.imul, 1) := by decide +kernel
theorem dX7_found_129 : decode cX7_found 129 = .ok (.iconst 1, 1) := by decide +kernel
theorem dX7_found_130 : decode cX7_found 130 = .ok (.iadd, 1) := by decide +kernel
theorem dX7_found_131 : decode cX7_found 131 = .ok (.iload 5, 2) := by decide +kernel
theorem dX7_found_133 : decode cX7_found 133 = .ok (.iload 12, 2) := by decide +kernel
theorem dX7_found_135 : decode cX7_found 135 = .ok (.iadd, 1) := by decide +kernel
theorem dX7_found_136 : decode cX7_found 136 = .ok (.iastore, 1) := by decide +kernel
theorem dX7_found_137 : decode cX7_found 137 = .ok (.aload_n 0, 1) := by decide +kernel
theorem dX7_found_138 : decode cX7_found 138 = .ok (.iload_n 1, 1) := by decide +kernel
theorem dX7_found_139 : decode cX7_found 139 = .ok (.invokevirtual 146, 3) := by decide +kernel
theorem dX7_found_142 : decode cX7_found 142 = .ok (.ifCond .eq 35, 3) := by decide +kernel
theorem dX7_found_145 : decode cX7_found 145 = .ok (.iload 6, 2) := by decide +kernel
theorem dX7_found_147 : decode cX7_found 147 = .ok (.ifCond .eq 13, 3) := by decide +kernel
theorem dX7_found_150 : decode cX7_found 150 = .ok (.aload_n 0, 1) := by decide +kernel
theorem dX7_found_151 : decode cX7_found 151 = .ok (.getfield 143, 3) := by decide +kernel
theorem dX7_found_154 : decode cX7_found 154 = .ok (.dload 7, 2) := by decide +kernel
theorem dX7_found_156 : decode cX7_found 156 = .ok (.dcmp .g, 1) := by decide +kernel
theorem dX7_found_157 : decode cX7_found 157 = .ok (.ifCond .ge 20, 3) := by decide +kernel
theorem dX7_found_160 : decode cX7_found 160 = .ok (.iconst 1, 1) := by decide +kernel
theorem dX7_found_161 : decode cX7_found 161 = .ok (.istore 6, 2) := by decide +kernel
theorem dX7_found_163 : decode cX7_found 163 = .ok (.aload_n 0, 1) := by decide +kernel
theorem dX7_found_164 : decode cX7_found 164 = .ok (.getfield 143, 3) := by decide +kernel
theorem dX7_found_167 : decode cX7_found 167 = .ok (.dstore 7, 2) := by decide +kernel
theorem dX7_found_169 : decode cX7_found 169 = .ok (.iload 11, 2) := by decide +kernel
theorem dX7_found_171 : decode cX7_found 171 = .ok (.istore 9, 2) := by decide +kernel
theorem dX7_found_173 : decode cX7_found 173 = .ok (.iload 12, 2) := by decide +kernel
theorem dX7_found_175 : decode cX7_found 175 = .ok (.istore 10, 2) := by decide +kernel
theorem dX7_found_177 : decode cX7_found 177 = .ok (.iinc 12 1, 3) := by decide +kernel
theorem dX7_found_180 : decode cX7_found 180 = .ok (.goto (-101), 3) := by decide +kernel
theorem dX7_found_183 : decode cX7_found 183 = .ok (.iinc 11 1, 3) := by decide +kernel
theorem dX7_found_186 : decode cX7_found 186 = .ok (.goto (-117), 3) := by decide +kernel
theorem dX7_found_189 : decode cX7_found 189 = .ok (.aload_n 0, 1) := by decide +kernel
theorem dX7_found_190 : decode cX7_found 190 = .ok (.getfield 19, 3) := by decide +kernel
theorem dX7_found_193 : decode cX7_found 193 = .ok (.bipush 13, 2) := by decide +kernel
theorem dX7_found_195 : decode cX7_found 195 = .ok (.iload_n 1, 1) := by decide +kernel
theorem dX7_found_196 : decode cX7_found 196 = .ok (.imul, 1) := by decide +kernel
theorem dX7_found_197 : decode cX7_found 197 = .ok (.iload 4, 2) := by decide +kernel
theorem dX7_found_199 : decode cX7_found 199 = .ok (.iastore, 1) := by decide +kernel
theorem dX7_found_200 : decode cX7_found 200 = .ok (.aload_n 0, 1) := by decide +kernel
theorem dX7_found_201 : decode cX7_found 201 = .ok (.getfield 19, 3) := by decide +kernel
theorem dX7_found_204 : decode cX7_found 204 = .ok (.bipush 13, 2) := by decide +kernel
theorem dX7_found_206 : decode cX7_found 206 = .ok (.iload_n 1, 1) := by decide +kernel
theorem dX7_found_207 : decode cX7_found 207 = .ok (.imul, 1) := by decide +kernel
theorem dX7_found_208 : decode cX7_found 208 = .ok (.iconst 1, 1) := by decide +kernel
theorem dX7_found_209 : decode cX7_found 209 = .ok (.iadd, 1) := by decide +kernel
theorem dX7_found_210 : decode cX7_found 210 = .ok (.iload 5, 2) := by decide +kernel
theorem dX7_found_212 : decode cX7_found 212 = .ok (.iastore, 1) := by decide +kernel
theorem dX7_found_213 : decode cX7_found 213 = .ok (.iload 6, 2) := by decide +kernel
theorem dX7_found_215 : decode cX7_found 215 = .ok (.ifCond .ne 9, 3) := by decide +kernel
theorem dX7_found_218 : decode cX7_found 218 = .ok (.ldc2_w 93, 3) := by decide +kernel
theorem dX7_found_221 : decode cX7_found 221 = .ok (.goto 35, 3) := by decide +kernel
theorem dX7_found_224 : decode cX7_found 224 = .ok (.iload_n 3, 1) := by decide +kernel
theorem dX7_found_225 : decode cX7_found 225 = .ok (.ifCond .ne 12, 3) := by decide +kernel
theorem dX7_found_228 : decode cX7_found 228 = .ok (.iload 9, 2) := by decide +kernel
theorem dX7_found_230 : decode cX7_found 230 = .ok (.bipush 10, 2) := by decide +kernel
theorem dX7_found_232 : decode cX7_found 232 = .ok (.iadd, 1) := by decide +kernel
theorem dX7_found_233 : decode cX7_found 233 = .ok (.i2l, 1) := by decide +kernel
theorem dX7_found_234 : decode cX7_found 234 = .ok (.goto 22, 3) := by decide +kernel
theorem dX7_found_237 : decode cX7_found 237 = .ok (.iload_n 3, 1) := by decide +kernel
theorem dX7_found_238 : decode cX7_found 238 = .ok (.iconst 1, 1) := by decide +kernel
theorem dX7_found_239 : decode cX7_found 239 = .ok (.if_icmp .ne 12, 3) := by decide +kernel
theorem dX7_found_242 : decode cX7_found 242 = .ok (.iload 10, 2) := by decide +kernel
theorem dX7_found_244 : decode cX7_found 244 = .ok (.bipush 10, 2) := by decide +kernel
theorem dX7_found_246 : decode cX7_found 246 = .ok (.iadd, 1) := by decide +kernel
theorem dX7_found_247 : decode cX7_found 247 = .ok (.i2l, 1) := by decide +kernel
theorem dX7_found_248 : decode cX7_found 248 = .ok (.goto 8, 3) := by decide +kernel
theorem dX7_found_251 : decode cX7_found 251 = .ok (.dload 7, 2) := by decide +kernel
theorem dX7_found_253 : decode cX7_found 253 = .ok (.invokestatic 99, 3) := by decide +kernel
theorem dX7_found_256 : decode cX7_found 256 = .ok (.lreturn, 1) := by decide +kernel
theorem dX7_isFree_0 : decode cX7_isFree 0 = .ok (.aload_n 0, 1) := by decide +kernel
theorem dX7_isFree_1 : decode cX7_isFree 1 = .ok (.getfield 19, 3) := by decide +kernel
theorem dX7_isFree_4 : decode cX7_isFree 4 = .ok (.bipush 13, 2) := by decide +kernel
theorem dX7_isFree_6 : decode cX7_isFree 6 = .ok (.iload_n 1, 1) := by decide +kernel
theorem dX7_isFree_7 : decode cX7_isFree 7 = .ok (.imul, 1) := by decide +kernel
theorem dX7_isFree_8 : decode cX7_isFree 8 = .ok (.bipush 6, 2) := by decide +kernel
theorem dX7_isFree_10 : decode cX7_isFree 10 = .ok (.iadd, 1) := by decide +kernel
theorem dX7_isFree_11 : decode cX7_isFree 11 = .ok (.iaload, 1) := by decide +kernel
theorem dX7_isFree_12 : decode cX7_isFree 12 = .ok (.istore 5, 2) := by decide +kernel
theorem dX7_isFree_14 : decode cX7_isFree 14 = .ok (.iload_n 2, 1) := by decide +kernel
theorem dX7_isFree_15 : decode cX7_isFree 15 = .ok (.i2d, 1) := by decide +kernel
theorem dX7_isFree_16 : decode cX7_isFree 16 = .ok (.aload_n 0, 1) := by decide +kernel
theorem dX7_isFree_17 : decode cX7_isFree 17 = .ok (.getfield 56, 3) := by decide +kernel
theorem dX7_isFree_20 : decode cX7_isFree 20 = .ok (.dsub, 1) := by decide +kernel
theorem dX7_isFree_21 : decode cX7_isFree 21 = .ok (.aload_n 0, 1) := by decide +kernel
theorem dX7_isFree_22 : decode cX7_isFree 22 = .ok (.getfield 63, 3) := by decide +kernel
theorem dX7_isFree_25 : decode cX7_isFree 25 = .ok (.aload_n 0, 1) := by decide +kernel
theorem dX7_isFree_26 : decode cX7_isFree 26 = .ok (.getfield 56, 3) := by decide +kernel
theorem dX7_isFree_29 : decode cX7_isFree 29 = .ok (.dsub, 1) := by decide +kernel
theorem dX7_isFree_30 : decode cX7_isFree 30 = .ok (.dmul, 1) := by decide +kernel
theorem dX7_isFree_31 : decode cX7_isFree 31 = .ok (.iload_n 3, 1) := by decide +kernel
theorem dX7_isFree_32 : decode cX7_isFree 32 = .ok (.i2d, 1) := by decide +kernel
theorem dX7_isFree_33 : decode cX7_isFree 33 = .ok (.aload_n 0, 1) := by decide +kernel
theorem dX7_isFree_34 : decode cX7_isFree 34 = .ok (.getfield 60, 3) := by decide +kernel
theorem dX7_isFree_37 : decode cX7_isFree 37 = .ok (.dsub, 1) := by decide +kernel
theorem dX7_isFree_38 : decode cX7_isFree 38 = .ok (.aload_n 0, 1) := by decide +kernel
theorem dX7_isFree_39 : decode cX7_isFree 39 = .ok (.getfield 66, 3) := by decide +kernel
theorem dX7_isFree_42 : decode cX7_isFree 42 = .ok (.aload_n 0, 1) := by decide +kernel
theorem dX7_isFree_43 : decode cX7_isFree 43 = .ok (.getfield 60, 3) := by decide +kernel
theorem dX7_isFree_46 : decode cX7_isFree 46 = .ok (.dsub, 1) := by decide +kernel
theorem dX7_isFree_47 : decode cX7_isFree 47 = .ok (.dmul, 1) := by decide +kernel
theorem dX7_isFree_48 : decode cX7_isFree 48 = .ok (.dadd, 1) := by decide +kernel
theorem dX7_isFree_49 : decode cX7_isFree 49 = .ok (.iload 5, 2) := by decide +kernel
theorem dX7_isFree_51 : decode cX7_isFree 51 = .ok (.iload 5, 2) := by decide +kernel
theorem dX7_isFree_53 : decode cX7_isFree 53 = .ok (.imul, 1) := by decide +kernel
theorem dX7_isFree_54 : decode cX7_isFree 54 = .ok (.i2d, 1) := by decide +kernel
theorem dX7_isFree_55 : decode cX7_isFree 55 = .ok (.ddiv, 1) := by decide +kernel
theorem dX7_isFree_56 : decode cX7_isFree 56 = .ok (.dstore 6, 2) := by decide +kernel
theorem dX7_isFree_58 : decode cX7_isFree 58 = .ok (.dload 6, 2) := by decide +kernel
theorem dX7_isFree_60 : decode cX7_isFree 60 = .ok (.dconst 0, 1) := by decide +kernel
theorem dX7_isFree_61 : decode cX7_isFree 61 = .ok (.dcmp .g, 1) := by decide +kernel
theorem dX7_isFree_62 : decode cX7_isFree 62 = .ok (.ifCond .ge 7, 3) := by decide +kernel
theorem dX7_isFree_65 : decode cX7_isFree 65 = .ok (.dconst 0, 1) := by decide +kernel
theorem dX7_isFree_66 : decode cX7_isFree 66 = .ok (.goto 16, 3) := by decide +kernel
theorem dX7_isFree_69 : decode cX7_isFree 69 = .ok (.dload 6, 2) := by decide +kernel
theorem dX7_isFree_71 : decode cX7_isFree 71 = .ok (.dconst 1, 1) := by decide +kernel
theorem dX7_isFree_72 : decode cX7_isFree 72 = .ok (.dcmp .l, 1) := by decide +kernel
theorem dX7_isFree_73 : decode cX7_isFree 73 = .ok (.ifCond .le 7, 3) := by decide +kernel
theorem dX7_isFree_76 : decode cX7_isFree 76 = .ok (.dconst 1, 1) := by decide +kernel
theorem dX7_isFree_77 : decode cX7_isFree 77 = .ok (.goto 5, 3) := by decide +kernel
theorem dX7_isFree_80 : decode cX7_isFree 80 = .ok (.dload 6, 2) := by decide +kernel
theorem dX7_isFree_82 : decode cX7_isFree 82 = .ok (.dstore 6, 2) := by decide +kernel
theorem dX7_isFree_84 : decode cX7_isFree 84 = .ok (.iload_n 2, 1) := by decide +kernel
theorem dX7_isFree_85 : decode cX7_isFree 85 = .ok (.i2d, 1) := by decide +kernel
theorem dX7_isFree_86 : decode cX7_isFree 86 = .ok (.aload_n 0, 1) := by decide +kernel
theorem dX7_isFree_87 : decode cX7_isFree 87 = .ok (.getfield 56, 3) := by decide +kernel
theorem dX7_isFree_90 : decode cX7_isFree 90 = .ok (.dload 6, 2) := by decide +kernel
theorem dX7_isFree_92 : decode cX7_isFree 92 = .ok (.aload_n 0, 1) := by decide +kernel
theorem dX7_isFree_93 : decode cX7_isFree 93 = .ok (.getfield 63, 3) := by decide +kernel
theorem dX7_isFree_96 : decode cX7_isFree 96 = .ok (.aload_n 0, 1) := by decide +kernel
theorem dX7_isFree_97 : decode cX7_isFree 97 = .ok (.getfield 56, 3) := by decide +kernel
theorem dX7_isFree_100 : decode cX7_isFree 100 = .ok (.dsub, 1) := by decide +kernel
theorem dX7_isFree_101 : decode cX7_isFree 101 = .ok (.dmul, 1) := by decide +kernel
theorem dX7_isFree_102 : decode cX7_isFree 102 = .ok (.dadd, 1) := by decide +kernel
theorem dX7_isFree_103 : decode cX7_isFree 103 = .ok (.dsub, 1) := by decide +kernel
theorem dX7_isFree_104 : decode cX7_isFree 104 = .ok (.dstore 8, 2) := by decide +kernel
theorem dX7_isFree_106 : decode cX7_isFree 106 = .ok (.iload_n 3, 1) := by decide +kernel
theorem dX7_isFree_107 : decode cX7_isFree 107 = .ok (.i2d, 1) := by decide +kernel
theorem dX7_isFree_108 : decode cX7_isFree 108 = .ok (.aload_n 0, 1) := by decide +kernel
theorem dX7_isFree_109 : decode cX7_isFree 109 = .ok (.getfield 60, 3) := by decide +kernel
theorem dX7_isFree_112 : decode cX7_isFree 112 = .ok (.dload 6, 2) := by decide +kernel
theorem dX7_isFree_114 : decode cX7_isFree 114 = .ok (.aload_n 0, 1) := by decide +kernel
theorem dX7_isFree_115 : decode cX7_isFree 115 = .ok (.getfield 66, 3) := by decide +kernel
theorem dX7_isFree_118 : decode cX7_isFree 118 = .ok (.aload_n 0, 1) := by decide +kernel
theorem dX7_isFree_119 : decode cX7_isFree 119 = .ok (.getfield 60, 3) := by decide +kernel
theorem dX7_isFree_122 : decode cX7_isFree 122 = .ok (.dsub, 1) := by decide +kernel
theorem dX7_isFree_123 : decode cX7_isFree 123 = .ok (.dmul, 1) := by decide +kernel
theorem dX7_isFree_124 : decode cX7_isFree 124 = .ok (.dadd, 1) := by decide +kernel
theorem dX7_isFree_125 : decode cX7_isFree 125 = .ok (.dsub, 1) := by decide +kernel
theorem dX7_isFree_126 : decode cX7_isFree 126 = .ok (.dstore 10, 2) := by decide +kernel
theorem dX7_isFree_128 : decode cX7_isFree 128 = .ok (.dload 8, 2) := by decide +kernel
theorem dX7_isFree_130 : decode cX7_isFree 130 = .ok (.dload 8, 2) := by decide +kernel
theorem dX7_isFree_132 : decode cX7_isFree 132 = .ok (.dmul, 1) := by decide +kernel
theorem dX7_isFree_133 : decode cX7_isFree 133 = .ok (.dload 10, 2) := by decide +kernel
theorem dX7_isFree_135 : decode cX7_isFree 135 = .ok (.dload 10, 2) := by decide +kernel
theorem dX7_isFree_137 : decode cX7_isFree 137 = .ok (.dmul, 1) := by decide +kernel
theorem dX7_isFree_138 : decode cX7_isFree 138 = .ok (.dadd, 1) := by decide +kernel
theorem dX7_isFree_139 : decode cX7_isFree 139 = .ok (.iload 4, 2) := by decide +kernel
theorem dX7_isFree_141 : decode cX7_isFree 141 = .ok (.iload 4, 2) := by decide +kernel
theorem dX7_isFree_143 : decode cX7_isFree 143 = .ok (.imul, 1) := by decide +kernel
theorem dX7_isFree_144 : decode cX7_isFree 144 = .ok (.i2d, 1) := by decide +kernel
theorem dX7_isFree_145 : decode cX7_isFree 145 = .ok (.dcmp .l, 1) := by decide +kernel
theorem dX7_isFree_146 : decode cX7_isFree 146 = .ok (.ifCond .lt 7, 3) := by decide +kernel
theorem dX7_isFree_149 : decode cX7_isFree 149 = .ok (.iconst 1, 1) := by decide +kernel
theorem dX7_isFree_150 : decode cX7_isFree 150 = .ok (.goto 4, 3) := by decide +kernel
theorem dX7_isFree_153 : decode cX7_isFree 153 = .ok (.iconst 0, 1) := by decide +kernel
theorem dX7_isFree_154 : decode cX7_isFree 154 = .ok (.ireturn, 1) := by decide +kernel
set_option maxRecDepth 20000 in
theorem ggX7_isClear_X7_isHanging : GoodIn wsX7_isClear wsX7_isHanging := goodIn_r _ [4, 5, 6, 3, 7] (by decide +kernel) (by decide +kernel)
set_option maxRecDepth 20000 in
theorem gX7_isClear_X7_isHanging : GoodIn wsX7_isClear (va_wsS RX7 42 yX7_isHanging wsX7_isHanging) := goodIn_app (goodIn_of _ (by decide +kernel)) ggX7_isClear_X7_isHanging
set_option maxRecDepth 20000 in
theorem ggX7_isClear_X7_isAt : GoodIn wsX7_isClear wsX7_isAt := goodIn_r _ [10, 5, 6, 3, 7] (by decide +kernel) (by decide +kernel)
set_option maxRecDepth 20000 in
theorem gX7_isClear_X7_isAt : GoodIn wsX7_isClear (va_wsS RX7 46 yX7_isAt wsX7_isAt) := goodIn_app (goodIn_of _ (by decide +kernel)) ggX7_isClear_X7_isAt
set_option maxRecDepth 20000 in
theorem ggX7_isClear_X7_in : GoodIn wsX7_isClear wsX7_in := goodIn_r _ [7] (by decide +kernel) (by decide +kernel)
set_option maxRecDepth 20000 in
theorem gX7_isClear_X7_in : GoodIn wsX7_isClear (va_wsS RX7 38 yX7_in wsX7_in) := goodIn_app (goodIn_of _ (by decide +kernel)) ggX7_isClear_X7_in
set_option maxRecDepth 20000 in
theorem ggX7_isClear_X7_poses : GoodIn wsX7_isClear wsX7_poses := goodIn_r _ [14, 15, 16, 17, 18, 19, 20, 21, 22, 23, 24, 3, 25, 26, 27, 28, 33, 34, 35, 36, 37, 38, 39, 40, 41, 42, 43, 44, 45, 46, 47, 48, 49, 50, 51, 52, 53, 54] (by decide +kernel) (by decide +kernel)
set_option maxRecDepth 20000 in
theorem gX7_isClear_X7_poses : GoodIn wsX7_isClear (wsV RX7 89 RX7 yX7_poses wsX7_poses) := goodIn_app (goodIn_of _ (by decide +kernel)) ggX7_isClear_X7_poses
set_option maxRecDepth 20000 in
theorem ggX7_isClear_X7_isFree : GoodIn wsX7_isClear wsX7_isFree := goodIn_r _ [32, 15, 16, 19, 17, 20, 33, 34, 35, 36, 37, 38, 39, 40, 41, 42, 43, 44, 45, 46, 47, 48, 49, 50, 51, 52, 53, 54] (by decide +kernel) (by decide +kernel)
set_option maxRecDepth 20000 in
theorem gX7_isClear_X7_isFree : GoodIn wsX7_isClear (wsV RX7 149 RX7 yX7_isFree wsX7_isFree) := goodIn_app (goodIn_of _ (by decide +kernel)) ggX7_isClear_X7_isFree
theorem dX7_isClear_0 : decode cX7_isClear 0 = .ok (.iload_n 1, 1) := by decide +kernel
theorem dX7_isClear_1 : decode cX7_isClear 1 = .ok (.invokestatic 42, 3) := by decide +kernel
theorem dX7_isClear_4 : decode cX7_isClear 4 = .ok (.ifCond .eq 50, 3) := by decide +kernel
theorem dX7_isClear_7 : decode cX7_isClear 7 = .ok (.iload_n 2, 1) := by decide +kernel
theorem dX7_isClear_8 : decode cX7_isClear 8 = .ok (.invokestatic 46, 3) := by decide +kernel
theorem dX7_isClear_11 : decode cX7_isClear 11 = .ok (.ifCond .eq 43, 3) := by decide +kernel
theorem dX7_isClear_14 : decode cX7_isClear 14 = .ok (.iload_n 3, 1) := by decide +kernel
theorem dX7_isClear_15 : decode cX7_isClear 15 = .ok (.invokestatic 46, 3) := by decide +kernel
theorem dX7_isClear_18 : decode cX7_isClear 18 = .ok (.ifCond .eq 36, 3) := by decide +kernel
theorem dX7_isClear_21 : decode cX7_isClear 21 = .ok (.iload 4, 2) := by decide +kernel
theorem dX7_isClear_23 : decode cX7_isClear 23 = .ok (.iconst 0, 1) := by decide +kernel
theorem dX7_isClear_24 : decode cX7_isClear 24 = .ok (.sipush 500, 3) := by decide +kernel
theorem dX7_isClear_27 : decode cX7_isClear 27 = .ok (.invokestatic 38, 3) := by decide +kernel
theorem dX7_isClear_30 : decode cX7_isClear 30 = .ok (.ifCond .eq 24, 3) := by decide +kernel
theorem dX7_isClear_33 : decode cX7_isClear 33 = .ok (.iload 5, 2) := by decide +kernel
theorem dX7_isClear_35 : decode cX7_isClear 35 = .ok (.invokestatic 46, 3) := by decide +kernel
theorem dX7_isClear_38 : decode cX7_isClear 38 = .ok (.ifCond .eq 16, 3) := by decide +kernel
theorem dX7_isClear_41 : decode cX7_isClear 41 = .ok (.iload 6, 2) := by decide +kernel
theorem dX7_isClear_43 : decode cX7_isClear 43 = .ok (.iload 5, 2) := by decide +kernel
theorem dX7_isClear_45 : decode cX7_isClear 45 = .ok (.sipush 1000, 3) := by decide +kernel
theorem dX7_isClear_48 : decode cX7_isClear 48 = .ok (.invokestatic 38, 3) := by decide +kernel
theorem dX7_isClear_51 : decode cX7_isClear 51 = .ok (.ifCond .ne 6, 3) := by decide +kernel
theorem dX7_isClear_54 : decode cX7_isClear 54 = .ok (.bipush (-2), 2) := by decide +kernel
theorem dX7_isClear_56 : decode cX7_isClear 56 = .ok (.ireturn, 1) := by decide +kernel
theorem dX7_isClear_57 : decode cX7_isClear 57 = .ok (.iload 5, 2) := by decide +kernel
theorem dX7_isClear_59 : decode cX7_isClear 59 = .ok (.istore 7, 2) := by decide +kernel
theorem dX7_isClear_61 : decode cX7_isClear 61 = .ok (.iload 7, 2) := by decide +kernel
theorem dX7_isClear_63 : decode cX7_isClear 63 = .ok (.iload 6, 2) := by decide +kernel
theorem dX7_isClear_65 : decode cX7_isClear 65 = .ok (.if_icmp .gt 33, 3) := by decide +kernel
theorem dX7_isClear_68 : decode cX7_isClear 68 = .ok (.aload_n 0, 1) := by decide +kernel
theorem dX7_isClear_69 : decode cX7_isClear 69 = .ok (.iload_n 1, 1) := by decide +kernel
theorem dX7_isClear_70 : decode cX7_isClear 70 = .ok (.iload 7, 2) := by decide +kernel
theorem dX7_isClear_72 : decode cX7_isClear 72 = .ok (.invokevirtual 89, 3) := by decide +kernel
theorem dX7_isClear_75 : decode cX7_isClear 75 = .ok (.ifCond .eq 17, 3) := by decide +kernel
theorem dX7_isClear_78 : decode cX7_isClear 78 = .ok (.aload_n 0, 1) := by decide +kernel
theorem dX7_isClear_79 : decode cX7_isClear 79 = .ok (.iload_n 1, 1) := by decide +kernel
theorem dX7_isClear_80 : decode cX7_isClear 80 = .ok (.iload_n 2, 1) := by decide +kernel
theorem dX7_isClear_81 : decode cX7_isClear 81 = .ok (.iload_n 3, 1) := by decide +kernel
theorem dX7_isClear_82 : decode cX7_isClear 82 = .ok (.iload 4, 2) := by decide +kernel
theorem dX7_isClear_84 : decode cX7_isClear 84 = .ok (.invokevirtual 149, 3) := by decide +kernel
theorem dX7_isClear_87 : decode cX7_isClear 87 = .ok (.ifCond .ne 5, 3) := by decide +kernel
theorem dX7_isClear_90 : decode cX7_isClear 90 = .ok (.iconst 0, 1) := by decide +kernel
theorem dX7_isClear_91 : decode cX7_isClear 91 = .ok (.ireturn, 1) := by decide +kernel
theorem dX7_isClear_92 : decode cX7_isClear 92 = .ok (.iinc 7 1, 3) := by decide +kernel
theorem dX7_isClear_95 : decode cX7_isClear 95 = .ok (.goto (-34), 3) := by decide +kernel
theorem dX7_isClear_98 : decode cX7_isClear 98 = .ok (.iconst 1, 1) := by decide +kernel
theorem dX7_isClear_99 : decode cX7_isClear 99 = .ok (.ireturn, 1) := by decide +kernel
theorem dX7_count_0 : decode cX7_count 0 = .ok (.iload_n 1, 1) := by decide +kernel
theorem dX7_count_1 : decode cX7_count 1 = .ok (.ifCond .ne 10, 3) := by decide +kernel
theorem dX7_count_4 : decode cX7_count 4 = .ok (.aload_n 0, 1) := by decide +kernel
theorem dX7_count_5 : decode cX7_count 5 = .ok (.getfield 137, 3) := by decide +kernel
theorem dX7_count_8 : decode cX7_count 8 = .ok (.goto 17, 3) := by decide +kernel
theorem dX7_count_11 : decode cX7_count 11 = .ok (.iload_n 1, 1) := by decide +kernel
theorem dX7_count_12 : decode cX7_count 12 = .ok (.iconst 1, 1) := by decide +kernel
theorem dX7_count_13 : decode cX7_count 13 = .ok (.if_icmp .ne 10, 3) := by decide +kernel
theorem dX7_count_16 : decode cX7_count 16 = .ok (.aload_n 0, 1) := by decide +kernel
theorem dX7_count_17 : decode cX7_count 17 = .ok (.getfield 140, 3) := by decide +kernel
theorem dX7_count_20 : decode cX7_count 20 = .ok (.goto 5, 3) := by decide +kernel
theorem dX7_count_23 : decode cX7_count 23 = .ok (.bipush (-2), 2) := by decide +kernel
theorem dX7_count_25 : decode cX7_count 25 = .ok (.ireturn, 1) := by decide +kernel
set_option maxRecDepth 20000 in
theorem ggX7_digest_X7_carries : GoodIn wsX7_digest wsX7_carries := goodIn_r _ [13, 14, 15, 16, 17, 18, 19, 20, 21, 12, 22, 23, 24, 25, 26, 27, 28, 29, 30, 31, 32, 33, 34, 35, 36, 37, 38, 39, 40, 41, 42, 43, 44] (by decide +kernel) (by decide +kernel)
set_option maxRecDepth 20000 in
theorem gX7_digest_X7_carries : GoodIn wsX7_digest (wsV RX7 157 RX7 yX7_carries wsX7_carries) := goodIn_app (goodIn_of _ (by decide +kernel)) ggX7_digest_X7_carries
theorem dX7_digest_0 : decode cX7_digest 0 = .ok (.ldc2_w 153, 3) := by decide +kernel
theorem dX7_digest_3 : decode cX7_digest 3 = .ok (.ldc2_w 155, 3) := by decide +kernel
theorem dX7_digest_6 : decode cX7_digest 6 = .ok (.aload_n 0, 1) := by decide +kernel
theorem dX7_digest_7 : decode cX7_digest 7 = .ok (.getfield 137, 3) := by decide +kernel
theorem dX7_digest_10 : decode cX7_digest 10 = .ok (.i2l, 1) := by decide +kernel
theorem dX7_digest_11 : decode cX7_digest 11 = .ok (.ladd, 1) := by decide +kernel
theorem dX7_digest_12 : decode cX7_digest 12 = .ok (.lmul, 1) := by decide +kernel
theorem dX7_digest_13 : decode cX7_digest 13 = .ok (.aload_n 0, 1) := by decide +kernel
theorem dX7_digest_14 : decode cX7_digest 14 = .ok (.getfield 140, 3) := by decide +kernel
theorem dX7_digest_17 : decode cX7_digest 17 = .ok (.i2l, 1) := by decide +kernel
theorem dX7_digest_18 : decode cX7_digest 18 = .ok (.ladd, 1) := by decide +kernel
theorem dX7_digest_19 : decode cX7_digest 19 = .ok (.lstore_n 1, 1) := by decide +kernel
theorem dX7_digest_20 : decode cX7_digest 20 = .ok (.iconst 0, 1) := by decide +kernel
theorem dX7_digest_21 : decode cX7_digest 21 = .ok (.istore_n 3, 1) := by decide +kernel
theorem dX7_digest_22 : decode cX7_digest 22 = .ok (.iload_n 3, 1) := by decide +kernel
theorem dX7_digest_23 : decode cX7_digest 23 = .ok (.bipush 52, 2) := by decide +kernel
theorem dX7_digest_25 : decode cX7_digest 25 = .ok (.if_icmp .ge 23, 3) := by decide +kernel
theorem dX7_digest_28 : decode cX7_digest 28 = .ok (.ldc2_w 153, 3) := by decide +kernel
theorem dX7_digest_31 : decode cX7_digest 31 = .ok (.lload_n 1, 1) := by decide +kernel
theorem dX7_digest_32 : decode cX7_digest 32 = .ok (.lmul, 1) := by decide +kernel
theorem dX7_digest_33 : decode cX7_digest 33 = .ok (.aload_n 0, 1) := by decide +kernel
theorem dX7_digest_34 : decode cX7_digest 34 = .ok (.getfield 19, 3) := by decide +kernel
theorem dX7_digest_37 : decode cX7_digest 37 = .ok (.iload_n 3, 1) := by decide +kernel
theorem dX7_digest_38 : decode cX7_digest 38 = .ok (.iaload, 1) := by decide +kernel
theorem dX7_digest_39 : decode cX7_digest 39 = .ok (.i2l, 1) := by decide +kernel
theorem dX7_digest_40 : decode cX7_digest 40 = .ok (.ladd, 1) := by decide +kernel
theorem dX7_digest_41 : decode cX7_digest 41 = .ok (.lstore_n 1, 1) := by decide +kernel
theorem dX7_digest_42 : decode cX7_digest 42 = .ok (.iinc 3 1, 3) := by decide +kernel
theorem dX7_digest_45 : decode cX7_digest 45 = .ok (.goto (-23), 3) := by decide +kernel
theorem dX7_digest_48 : decode cX7_digest 48 = .ok (.iconst 0, 1) := by decide +kernel
theorem dX7_digest_49 : decode cX7_digest 49 = .ok (.istore_n 3, 1) := by decide +kernel
theorem dX7_digest_50 : decode cX7_digest 50 = .ok (.iload_n 3, 1) := by decide +kernel
theorem dX7_digest_51 : decode cX7_digest 51 = .ok (.iconst 4, 1) := by decide +kernel
theorem dX7_digest_52 : decode cX7_digest 52 = .ok (.if_icmp .ge 22, 3) := by decide +kernel
theorem dX7_digest_55 : decode cX7_digest 55 = .ok (.ldc2_w 153, 3) := by decide +kernel
theorem dX7_digest_58 : decode cX7_digest 58 = .ok (.lload_n 1, 1) := by decide +kernel
theorem dX7_digest_59 : decode cX7_digest 59 = .ok (.lmul, 1) := by decide +kernel
theorem dX7_digest_60 : decode cX7_digest 60 = .ok (.aload_n 0, 1) := by decide +kernel
theorem dX7_digest_61 : decode cX7_digest 61 = .ok (.iload_n 3, 1) := by decide +kernel
theorem dX7_digest_62 : decode cX7_digest 62 = .ok (.invokevirtual 157, 3) := by decide +kernel
theorem dX7_digest_65 : decode cX7_digest 65 = .ok (.i2l, 1) := by decide +kernel
theorem dX7_digest_66 : decode cX7_digest 66 = .ok (.ladd, 1) := by decide +kernel
theorem dX7_digest_67 : decode cX7_digest 67 = .ok (.lstore_n 1, 1) := by decide +kernel
theorem dX7_digest_68 : decode cX7_digest 68 = .ok (.iinc 3 1, 3) := by decide +kernel
theorem dX7_digest_71 : decode cX7_digest 71 = .ok (.goto (-21), 3) := by decide +kernel
theorem dX7_digest_74 : decode cX7_digest 74 = .ok (.iconst 0, 1) := by decide +kernel
theorem dX7_digest_75 : decode cX7_digest 75 = .ok (.istore_n 3, 1) := by decide +kernel
theorem dX7_digest_76 : decode cX7_digest 76 = .ok (.iload_n 3, 1) := by decide +kernel
theorem dX7_digest_77 : decode cX7_digest 77 = .ok (.aload_n 0, 1) := by decide +kernel
theorem dX7_digest_78 : decode cX7_digest 78 = .ok (.getfield 137, 3) := by decide +kernel
theorem dX7_digest_81 : decode cX7_digest 81 = .ok (.if_icmp .ge 23, 3) := by decide +kernel
theorem dX7_digest_84 : decode cX7_digest 84 = .ok (.ldc2_w 153, 3) := by decide +kernel
theorem dX7_digest_87 : decode cX7_digest 87 = .ok (.lload_n 1, 1) := by decide +kernel
theorem dX7_digest_88 : decode cX7_digest 88 = .ok (.lmul, 1) := by decide +kernel
theorem dX7_digest_89 : decode cX7_digest 89 = .ok (.aload_n 0, 1) := by decide +kernel
theorem dX7_digest_90 : decode cX7_digest 90 = .ok (.getfield 25, 3) := by decide +kernel
theorem dX7_digest_93 : decode cX7_digest 93 = .ok (.iload_n 3, 1) := by decide +kernel
theorem dX7_digest_94 : decode cX7_digest 94 = .ok (.iaload, 1) := by decide +kernel
theorem dX7_digest_95 : decode cX7_digest 95 = .ok (.i2l, 1) := by decide +kernel
theorem dX7_digest_96 : decode cX7_digest 96 = .ok (.ladd, 1) := by decide +kernel
theorem dX7_digest_97 : decode cX7_digest 97 = .ok (.lstore_n 1, 1) := by decide +kernel
theorem dX7_digest_98 : decode cX7_digest 98 = .ok (.iinc 3 1, 3) := by decide +kernel
theorem dX7_digest_101 : decode cX7_digest 101 = .ok (.goto (-25), 3) := by decide +kernel
theorem dX7_digest_104 : decode cX7_digest 104 = .ok (.iconst 0, 1) := by decide +kernel
theorem dX7_digest_105 : decode cX7_digest 105 = .ok (.istore_n 3, 1) := by decide +kernel
theorem dX7_digest_106 : decode cX7_digest 106 = .ok (.iload_n 3, 1) := by decide +kernel
theorem dX7_digest_107 : decode cX7_digest 107 = .ok (.aload_n 0, 1) := by decide +kernel
theorem dX7_digest_108 : decode cX7_digest 108 = .ok (.getfield 140, 3) := by decide +kernel
theorem dX7_digest_111 : decode cX7_digest 111 = .ok (.if_icmp .ge 35, 3) := by decide +kernel
theorem dX7_digest_114 : decode cX7_digest 114 = .ok (.ldc2_w 153, 3) := by decide +kernel
theorem dX7_digest_117 : decode cX7_digest 117 = .ok (.ldc2_w 153, 3) := by decide +kernel
theorem dX7_digest_120 : decode cX7_digest 120 = .ok (.lload_n 1, 1) := by decide +kernel
theorem dX7_digest_121 : decode cX7_digest 121 = .ok (.lmul, 1) := by decide +kernel
theorem dX7_digest_122 : decode cX7_digest 122 = .ok (.aload_n 0, 1) := by decide +kernel
theorem dX7_digest_123 : decode cX7_digest 123 = .ok (.getfield 28, 3) := by decide +kernel
theorem dX7_digest_126 : decode cX7_digest 126 = .ok (.iload_n 3, 1) := by decide +kernel
theorem dX7_digest_127 : decode cX7_digest 127 = .ok (.iaload, 1) := by decide +kernel
theorem dX7_digest_128 : decode cX7_digest 128 = .ok (.i2l, 1) := by decide +kernel
theorem dX7_digest_129 : decode cX7_digest 129 = .ok (.ladd, 1) := by decide +kernel
theorem dX7_digest_130 : decode cX7_digest 130 = .ok (.lmul, 1) := by decide +kernel
theorem dX7_digest_131 : decode cX7_digest 131 = .ok (.aload_n 0, 1) := by decide +kernel
theorem dX7_digest_132 : decode cX7_digest 132 = .ok (.getfield 31, 3) := by decide +kernel
theorem dX7_digest_135 : decode cX7_digest 135 = .ok (.iload_n 3, 1) := by decide +kernel
theorem dX7_digest_136 : decode cX7_digest 136 = .ok (.iaload, 1) := by decide +kernel
theorem dX7_digest_137 : decode cX7_digest 137 = .ok (.i2l, 1) := by decide +kernel
theorem dX7_digest_138 : decode cX7_digest 138 = .ok (.ladd, 1) := by decide +kernel
theorem dX7_digest_139 : decode cX7_digest 139 = .ok (.lstore_n 1, 1) := by decide +kernel
theorem dX7_digest_140 : decode cX7_digest 140 = .ok (.iinc 3 1, 3) := by decide +kernel
theorem dX7_digest_143 : decode cX7_digest 143 = .ok (.goto (-37), 3) := by decide +kernel
theorem dX7_digest_146 : decode cX7_digest 146 = .ok (.lload_n 1, 1) := by decide +kernel
theorem dX7_digest_147 : decode cX7_digest 147 = .ok (.lreturn, 1) := by decide +kernel
theorem dJ6_bitCount_0f7a4_0 : decode cJ6_bitCount_0f7a4 0 = .ok (.iload_n 0, 1) := by decide +kernel
theorem dJ6_bitCount_0f7a4_1 : decode cJ6_bitCount_0f7a4 1 = .ok (.iload_n 0, 1) := by decide +kernel
theorem dJ6_bitCount_0f7a4_2 : decode cJ6_bitCount_0f7a4 2 = .ok (.iconst 1, 1) := by decide +kernel
theorem dJ6_bitCount_0f7a4_3 : decode cJ6_bitCount_0f7a4 3 = .ok (.iushr, 1) := by decide +kernel
theorem dJ6_bitCount_0f7a4_4 : decode cJ6_bitCount_0f7a4 4 = .ok (.ldc_w 265, 3) := by decide +kernel
theorem dJ6_bitCount_0f7a4_7 : decode cJ6_bitCount_0f7a4 7 = .ok (.iand, 1) := by decide +kernel
theorem dJ6_bitCount_0f7a4_8 : decode cJ6_bitCount_0f7a4 8 = .ok (.isub, 1) := by decide +kernel
theorem dJ6_bitCount_0f7a4_9 : decode cJ6_bitCount_0f7a4 9 = .ok (.istore_n 0, 1) := by decide +kernel
theorem dJ6_bitCount_0f7a4_10 : decode cJ6_bitCount_0f7a4 10 = .ok (.iload_n 0, 1) := by decide +kernel
theorem dJ6_bitCount_0f7a4_11 : decode cJ6_bitCount_0f7a4 11 = .ok (.ldc_w 266, 3) := by decide +kernel
theorem dJ6_bitCount_0f7a4_14 : decode cJ6_bitCount_0f7a4 14 = .ok (.iand, 1) := by decide +kernel
theorem dJ6_bitCount_0f7a4_15 : decode cJ6_bitCount_0f7a4 15 = .ok (.iload_n 0, 1) := by decide +kernel
theorem dJ6_bitCount_0f7a4_16 : decode cJ6_bitCount_0f7a4 16 = .ok (.iconst 2, 1) := by decide +kernel
theorem dJ6_bitCount_0f7a4_17 : decode cJ6_bitCount_0f7a4 17 = .ok (.iushr, 1) := by decide +kernel
theorem dJ6_bitCount_0f7a4_18 : decode cJ6_bitCount_0f7a4 18 = .ok (.ldc_w 266, 3) := by decide +kernel
theorem dJ6_bitCount_0f7a4_21 : decode cJ6_bitCount_0f7a4 21 = .ok (.iand, 1) := by decide +kernel
theorem dJ6_bitCount_0f7a4_22 : decode cJ6_bitCount_0f7a4 22 = .ok (.iadd, 1) := by decide +kernel
theorem dJ6_bitCount_0f7a4_23 : decode cJ6_bitCount_0f7a4 23 = .ok (.istore_n 0, 1) := by decide +kernel
theorem dJ6_bitCount_0f7a4_24 : decode cJ6_bitCount_0f7a4 24 = .ok (.iload_n 0, 1) := by decide +kernel
theorem dJ6_bitCount_0f7a4_25 : decode cJ6_bitCount_0f7a4 25 = .ok (.iload_n 0, 1) := by decide +kernel
theorem dJ6_bitCount_0f7a4_26 : decode cJ6_bitCount_0f7a4 26 = .ok (.iconst 4, 1) := by decide +kernel
theorem dJ6_bitCount_0f7a4_27 : decode cJ6_bitCount_0f7a4 27 = .ok (.iushr, 1) := by decide +kernel
theorem dJ6_bitCount_0f7a4_28 : decode cJ6_bitCount_0f7a4 28 = .ok (.iadd, 1) := by decide +kernel
theorem dJ6_bitCount_0f7a4_29 : decode cJ6_bitCount_0f7a4 29 = .ok (.ldc_w 267, 3) := by decide +kernel
theorem dJ6_bitCount_0f7a4_32 : decode cJ6_bitCount_0f7a4 32 = .ok (.iand, 1) := by decide +kernel
theorem dJ6_bitCount_0f7a4_33 : decode cJ6_bitCount_0f7a4 33 = .ok (.istore_n 0, 1) := by decide +kernel
theorem dJ6_bitCount_0f7a4_34 : decode cJ6_bitCount_0f7a4 34 = .ok (.iload_n 0, 1) := by decide +kernel
theorem dJ6_bitCount_0f7a4_35 : decode cJ6_bitCount_0f7a4 35 = .ok (.iload_n 0, 1) := by decide +kernel
theorem dJ6_bitCount_0f7a4_36 : decode cJ6_bitCount_0f7a4 36 = .ok (.bipush 8, 2) := by decide +kernel
theorem dJ6_bitCount_0f7a4_38 : decode cJ6_bitCount_0f7a4 38 = .ok (.iushr, 1) := by decide +kernel
theorem dJ6_bitCount_0f7a4_39 : decode cJ6_bitCount_0f7a4 39 = .ok (.iadd, 1) := by decide +kernel
theorem dJ6_bitCount_0f7a4_40 : decode cJ6_bitCount_0f7a4 40 = .ok (.istore_n 0, 1) := by decide +kernel
theorem dJ6_bitCount_0f7a4_41 : decode cJ6_bitCount_0f7a4 41 = .ok (.iload_n 0, 1) := by decide +kernel
theorem dJ6_bitCount_0f7a4_42 : decode cJ6_bitCount_0f7a4 42 = .ok (.iload_n 0, 1) := by decide +kernel
theorem dJ6_bitCount_0f7a4_43 : decode cJ6_bitCount_0f7a4 43 = .ok (.bipush 16, 2) := by decide +kernel
theorem dJ6_bitCount_0f7a4_45 : decode cJ6_bitCount_0f7a4 45 = .ok (.iushr, 1) := by decide +kernel
theorem dJ6_bitCount_0f7a4_46 : decode cJ6_bitCount_0f7a4 46 = .ok (.iadd, 1) := by decide +kernel
theorem dJ6_bitCount_0f7a4_47 : decode cJ6_bitCount_0f7a4 47 = .ok (.istore_n 0, 1) := by decide +kernel
theorem dJ6_bitCount_0f7a4_48 : decode cJ6_bitCount_0f7a4 48 = .ok (.iload_n 0, 1) := by decide +kernel
theorem dJ6_bitCount_0f7a4_49 : decode cJ6_bitCount_0f7a4 49 = .ok (.bipush 63, 2) := by decide +kernel
theorem dJ6_bitCount_0f7a4_51 : decode cJ6_bitCount_0f7a4 51 = .ok (.iand, 1) := by decide +kernel
theorem dJ6_bitCount_0f7a4_52 : decode cJ6_bitCount_0f7a4 52 = .ok (.ireturn, 1) := by decide +kernel
theorem dJ9_abs_0f7a4_0 : decode cJ9_abs_0f7a4 0 = .ok (.iload_n 0, 1) := by decide +kernel
theorem dJ9_abs_0f7a4_1 : decode cJ9_abs_0f7a4 1 = .ok (.ifCond .ge 8, 3) := by decide +kernel
theorem dJ9_abs_0f7a4_4 : decode cJ9_abs_0f7a4 4 = .ok (.iload_n 0, 1) := by decide +kernel
theorem dJ9_abs_0f7a4_5 : decode cJ9_abs_0f7a4 5 = .ok (.ineg, 1) := by decide +kernel
theorem dJ9_abs_0f7a4_6 : decode cJ9_abs_0f7a4 6 = .ok (.goto 4, 3) := by decide +kernel
theorem dJ9_abs_0f7a4_9 : decode cJ9_abs_0f7a4 9 = .ok (.iload_n 0, 1) := by decide +kernel
theorem dJ9_abs_0f7a4_10 : decode cJ9_abs_0f7a4 10 = .ok (.ireturn, 1) := by decide +kernel
set_option maxRecDepth 20000 in
theorem ggL_law_X6_init : GoodIn wsL_law wsX6_init := goodIn_r _ [8, 9, 10, 11, 12, 13, 14, 15, 16, 17, 18, 19, 20, 21, 22, 23, 24, 25, 26, 27, 28, 29, 30, 31, 32, 33, 34, 35, 36, 37, 38, 39, 40, 41, 42, 43, 44, 45, 46, 47, 48, 49, 50, 51, 52, 53, 54, 55, 56, 57, 58, 59, 60, 61, 62, 63, 64, 65, 483, 484, 485, 486, 487, 510, 511, 512, 513, 514, 515, 516, 517, 518, 519, 520, 521, 522, 523, 524, 525, 526, 527, 528, 529, 530, 531, 532, 533, 534, 535, 536, 537, 538, 539, 540, 541, 542, 543, 544, 545, 546] (by decide +kernel) (by decide +kernel)
set_option maxRecDepth 20000 in
theorem gL_law_X6_init : GoodIn wsL_law (wsX6_init) := ggL_law_X6_init
set_option maxRecDepth 20000 in
theorem ggL_law_X7_init : GoodIn wsL_law wsX7_init := goodIn_r _ [68, 69, 10, 11, 41, 70, 71, 72, 73, 74, 75, 76, 5, 77, 488, 489, 490, 491, 492, 493, 494, 495, 496, 497, 498, 499, 500, 501, 502, 503, 504, 505, 506, 507, 508, 509] (by decide +kernel) (by decide +kernel)
set_option maxRecDepth 20000 in
theorem gL_law_X7_init : GoodIn wsL_law (wsX7_init) := ggL_law_X7_init
set_option maxRecDepth 20000 in
theorem ggL_law_X6_hang : GoodIn wsL_law wsX6_hang := goodIn_r _ [81, 13, 82, 83, 2, 84, 85, 86, 87, 88, 89, 90, 91, 92, 93, 94, 95, 96, 97, 31, 98, 99, 53, 54, 55, 100, 101, 102, 56, 57, 58, 103, 104, 105, 59, 60, 483, 484, 485, 486, 487, 534, 535, 536, 537, 538, 539, 540, 541, 542, 543, 544, 545, 546] (by decide +kernel) (by decide +kernel)
set_option maxRecDepth 20000 in
theorem gL_law_X6_hang : GoodIn wsL_law (wsV RL 13 RX6 yX6_hang wsX6_hang) := goodIn_app (goodIn_of _ (by decide +kernel)) ggL_law_X6_hang
set_option maxRecDepth 20000 in
theorem ggL_law_X7_hang : GoodIn wsL_law wsX7_hang := goodIn_r _ [109, 110, 111, 5, 112, 113, 114, 115, 116, 117, 118, 119, 120, 121, 74, 75, 76, 77, 70, 488, 489, 490, 491, 492, 493, 494, 495, 496, 497, 498, 499, 500, 501, 502, 503, 504, 505, 506, 507, 508, 509] (by decide +kernel) (by decide +kernel)
set_option maxRecDepth 20000 in
theorem gL_law_X7_hang : GoodIn wsL_law (wsV RL 17 RX7 yX7_hang wsX7_hang) := goodIn_app (goodIn_of _ (by decide +kernel)) ggL_law_X7_hang
set_option maxRecDepth 20000 in
theorem ggL_law_X6_wheel : GoodIn wsL_law wsX6_wheel := goodIn_r _ [125, 13, 82, 83, 2, 84, 85, 86, 87, 88, 89, 90, 91, 92, 93, 126, 31, 127, 128, 61, 62, 483, 484, 485, 486, 487, 534, 535, 536, 537, 538, 539, 540, 541, 542, 543, 544, 545, 546] (by decide +kernel) (by decide +kernel)
set_option maxRecDepth 20000 in
theorem gL_law_X6_wheel : GoodIn wsL_law (wsV RL 18 RX6 yX6_wheel wsX6_wheel) := goodIn_app (goodIn_of _ (by decide +kernel)) ggL_law_X6_wheel
set_option maxRecDepth 20000 in
theorem ggL_law_X7_wheel : GoodIn wsL_law wsX7_wheel := goodIn_r _ [132, 70, 110, 111, 5, 112, 113, 114, 115, 116, 117, 118, 488, 489, 490, 491, 492, 493, 494, 495, 496, 497, 498, 499, 500, 501, 502, 503, 504, 505, 506, 507, 508, 509] (by decide +kernel) (by decide +kernel)
set_option maxRecDepth 20000 in
theorem gL_law_X7_wheel : GoodIn wsL_law (wsV RL 22 RX7 yX7_wheel wsX7_wheel) := goodIn_app (goodIn_of _ (by decide +kernel)) ggL_law_X7_wheel
set_option maxRecDepth 20000 in
theorem ggL_law_X6_spring : GoodIn wsL_law wsX6_spring := goodIn_r _ [136, 13, 82, 83, 2, 84, 85, 86, 87, 88, 89, 90, 91, 92, 93, 137, 31, 138, 139, 63, 64, 65, 483, 484, 485, 486, 487, 534, 535, 536, 537, 538, 539, 540, 541, 542, 543, 544, 545, 546] (by decide +kernel) (by decide +kernel)
set_option maxRecDepth 20000 in
theorem gL_law_X6_spring : GoodIn wsL_law (wsV RL 23 RX6 yX6_spring wsX6_spring) := goodIn_app (goodIn_of _ (by decide +kernel)) ggL_law_X6_spring
set_option maxRecDepth 20000 in
theorem ggL_law_X7_spring : GoodIn wsL_law wsX7_spring := goodIn_r _ [143, 70, 110, 111, 5, 112, 113, 114, 115, 116, 117, 118, 488, 489, 490, 491, 492, 493, 494, 495, 496, 497, 498, 499, 500, 501, 502, 503, 504, 505, 506, 507, 508, 509] (by decide +kernel) (by decide +kernel)
set_option maxRecDepth 20000 in
theorem gL_law_X7_spring : GoodIn wsL_law (wsV RL 27 RX7 yX7_spring wsX7_spring) := goodIn_app (goodIn_of _ (by decide +kernel)) ggL_law_X7_spring
set_option maxRecDepth 20000 in
theorem ggL_law_X6_mirror : GoodIn wsL_law wsX6_mirror := goodIn_r _ [147, 13, 82, 83, 2, 84, 85, 86, 87, 148, 31, 149, 150, 53, 54, 55, 56, 57, 58, 59, 60, 61, 62, 63, 64, 65, 151, 97, 98, 99, 152, 100, 101, 102, 153, 103, 104, 105, 154, 126, 127, 128, 155, 137, 138, 139, 483, 484, 485, 486, 487, 534, 535, 536, 537, 538, 539, 540, 541, 542, 543, 544, 545, 546] (by decide +kernel) (by decide +kernel)
set_option maxRecDepth 20000 in
theorem gL_law_X6_mirror : GoodIn wsL_law (wsV RL 28 RX6 yX6_mirror wsX6_mirror) := goodIn_app (goodIn_of _ (by decide +kernel)) ggL_law_X6_mirror
set_option maxRecDepth 20000 in
theorem ggL_law_X7_mirror : GoodIn wsL_law wsX7_mirror := goodIn_r _ [159, 70, 110, 111, 5, 112, 113, 114, 115, 488, 489, 490, 491, 492, 493, 494, 495, 496, 497, 498, 499, 500, 501, 502, 503, 504, 505, 506, 507, 508, 509] (by decide +kernel) (by decide +kernel)
set_option maxRecDepth 20000 in
theorem gL_law_X7_mirror : GoodIn wsL_law (wsV RL 32 RX7 yX7_mirror wsX7_mirror) := goodIn_app (goodIn_of _ (by decide +kernel)) ggL_law_X7_mirror
set_option maxRecDepth 20000 in
theorem ggL_law_X6_pose : GoodIn wsL_law wsX6_pose := goodIn_r _ [163, 164, 13, 17, 165, 82, 83, 2, 84, 85, 86, 87, 91, 92, 93, 166, 167, 168, 169, 170, 171, 16, 172, 173, 174, 175, 176, 177, 178, 179, 180, 181, 182, 183, 184, 185, 186, 187, 188, 189, 190, 191, 192, 193, 194, 195, 196, 197, 198, 199, 200, 201, 202, 203, 204, 205, 206, 207, 208, 209, 210, 211, 212, 213, 214, 215, 216, 217, 218, 219, 220, 221, 222, 223, 224, 225, 226, 227, 228, 229, 230, 231, 232, 233, 234, 235, 236, 483, 484, 485, 486, 487, 534, 535, 536, 537, 538, 539, 540, 541, 542, 543, 544, 545, 546, 510, 511, 512, 513, 514, 515, 516, 517, 518, 519, 520, 521, 522, 523] (by decide +kernel) (by decide +kernel)
set_option maxRecDepth 20000 in
theorem gL_law_X6_pose : GoodIn wsL_law (wsV RL 33 RX6 yX6_pose wsX6_pose) := goodIn_app (goodIn_of _ (by decide +kernel)) ggL_law_X6_pose
set_option maxRecDepth 20000 in
theorem ggL_law_X7_pose : GoodIn wsL_law wsX7_pose := goodIn_r _ [240, 241, 242, 110, 111, 5, 112, 113, 114, 115, 116, 117, 118, 243, 244, 245, 246, 247, 248, 249, 250, 251, 70, 252, 253, 254, 255, 256, 257, 258, 259, 260, 261, 262, 263, 264, 265, 266, 267, 268, 269, 270, 271, 272, 273, 274, 275, 276, 277, 278, 279, 280, 281, 282, 283, 284, 285, 286, 287, 288, 289, 488, 489, 490, 491, 492, 493, 494, 495, 496, 497, 498, 499, 500, 501, 502, 503, 504, 505, 506, 507, 508, 509] (by decide +kernel) (by decide +kernel)
set_option maxRecDepth 20000 in
theorem gL_law_X7_pose : GoodIn wsL_law (wsV RL 37 RX7 yX7_pose wsX7_pose) := goodIn_app (goodIn_of _ (by decide +kernel)) ggL_law_X7_pose
set_option maxRecDepth 20000 in
theorem ggL_law_X6_lock : GoodIn wsL_law wsX6_lock := goodIn_r _ [293, 13, 17, 82, 83, 2, 84, 85, 86, 87, 294, 295, 296, 91, 92, 93, 171, 16, 172, 173, 174, 175, 176, 177, 178, 179, 180, 181, 182, 183, 184, 185, 186, 187, 188, 189, 190, 191, 192, 193, 194, 195, 196, 483, 484, 485, 486, 487, 534, 535, 536, 537, 538, 539, 540, 541, 542, 543, 544, 545, 546, 510, 511, 512, 513, 514, 515, 516, 517, 518, 519, 520, 521, 522, 523] (by decide +kernel) (by decide +kernel)
set_option maxRecDepth 20000 in
theorem gL_law_X6_lock : GoodIn wsL_law (wsV RL 38 RX6 yX6_lock wsX6_lock) := goodIn_app (goodIn_of _ (by decide +kernel)) ggL_law_X6_lock
set_option maxRecDepth 20000 in
theorem ggL_law_X7_lock : GoodIn wsL_law wsX7_lock := goodIn_r _ [300, 110, 111, 5, 112, 113, 114, 115, 116, 117, 118, 248, 249, 250, 251, 70, 252, 253, 247, 254, 255, 256, 257, 258, 259, 260, 261, 262, 263, 488, 489, 490, 491, 492, 493, 494, 495, 496, 497, 498, 499, 500, 501, 502, 503, 504, 505, 506, 507, 508, 509] (by decide +kernel) (by decide +kernel)
set_option maxRecDepth 20000 in
theorem gL_law_X7_lock : GoodIn wsL_law (wsV RL 41 RX7 yX7_lock wsX7_lock) := goodIn_app (goodIn_of _ (by decide +kernel)) ggL_law_X7_lock
set_option maxRecDepth 20000 in
theorem ggL_law_X6_weight : GoodIn wsL_law wsX6_weight := goodIn_r _ [304, 305, 21, 85, 86, 2, 87, 306, 20, 307, 308, 309, 310, 311, 483, 484, 485, 486, 487, 524, 525, 526, 527, 528] (by decide +kernel) (by decide +kernel)
set_option maxRecDepth 20000 in
theorem gL_law_X6_weight : GoodIn wsL_law (wsV RL 42 RX6 yX6_weight wsX6_weight) := goodIn_app (goodIn_of _ (by decide +kernel)) ggL_law_X6_weight
set_option maxRecDepth 20000 in
theorem ggL_law_X7_weight : GoodIn wsL_law wsX7_weight := goodIn_r _ [315, 316, 317, 318, 319, 113, 114, 5, 115, 488, 489, 490, 491, 492, 493, 494, 495, 496, 497, 498, 499, 500, 501, 502, 503, 504, 505, 506, 507, 508, 509] (by decide +kernel) (by decide +kernel)
set_option maxRecDepth 20000 in
theorem gL_law_X7_weight : GoodIn wsL_law (wsV RL 45 RX7 yX7_weight wsX7_weight) := goodIn_app (goodIn_of _ (by decide +kernel)) ggL_law_X7_weight
set_option maxRecDepth 20000 in
theorem ggL_law_X6_push : GoodIn wsL_law wsX6_push := goodIn_r _ [323, 324, 305, 21, 85, 86, 2, 87, 325, 20, 326, 327, 328, 329, 483, 484, 485, 486, 487, 524, 525, 526, 527, 528] (by decide +kernel) (by decide +kernel)
set_option maxRecDepth 20000 in
theorem gL_law_X6_push : GoodIn wsL_law (wsV RL 46 RX6 yX6_push wsX6_push) := goodIn_app (goodIn_of _ (by decide +kernel)) ggL_law_X6_push
set_option maxRecDepth 20000 in
theorem ggL_law_X7_push : GoodIn wsL_law wsX7_push := goodIn_r _ [333, 334, 316, 335, 336, 113, 114, 5, 115, 488, 489, 490, 491, 492, 493, 494, 495, 496, 497, 498, 499, 500, 501, 502, 503, 504, 505, 506, 507, 508, 509] (by decide +kernel) (by decide +kernel)
set_option maxRecDepth 20000 in
theorem gL_law_X7_push : GoodIn wsL_law (wsV RL 49 RX7 yX7_push wsX7_push) := goodIn_app (goodIn_of _ (by decide +kernel)) ggL_law_X7_push
set_option maxRecDepth 20000 in
theorem ggL_law_X6_carries : GoodIn wsL_law wsX6_carries := goodIn_r _ [340, 21, 341, 85, 86, 2, 87, 342, 20, 343, 344, 309, 310, 328, 329, 311, 483, 484, 485, 486, 487, 524, 525, 526, 527, 528] (by decide +kernel) (by decide +kernel)
set_option maxRecDepth 20000 in
theorem gL_law_X6_carries : GoodIn wsL_law (wsV RL 50 RX6 yX6_carries wsX6_carries) := goodIn_app (goodIn_of _ (by decide +kernel)) ggL_law_X6_carries
set_option maxRecDepth 20000 in
theorem ggL_law_X7_carries : GoodIn wsL_law wsX7_carries := goodIn_r _ [348, 349, 317, 318, 335, 336, 319, 113, 114, 5, 115, 488, 489, 490, 491, 492, 493, 494, 495, 496, 497, 498, 499, 500, 501, 502, 503, 504, 505, 506, 507, 508, 509] (by decide +kernel) (by decide +kernel)
set_option maxRecDepth 20000 in
theorem gL_law_X7_carries : GoodIn wsL_law (wsV RL 54 RX7 yX7_carries wsX7_carries) := goodIn_app (goodIn_of _ (by decide +kernel)) ggL_law_X7_carries
set_option maxRecDepth 20000 in
theorem ggL_law_X6_shim : GoodIn wsL_law wsX6_shim := goodIn_r _ [353, 25, 85, 86, 2, 87, 354, 24, 355, 356, 43, 42, 483, 484, 485, 486, 487, 529, 530] (by decide +kernel) (by decide +kernel)
set_option maxRecDepth 20000 in
theorem gL_law_X6_shim : GoodIn wsL_law (wsV RL 55 RX6 yX6_shim wsX6_shim) := goodIn_app (goodIn_of _ (by decide +kernel)) ggL_law_X6_shim
set_option maxRecDepth 20000 in
theorem ggL_law_X7_shim : GoodIn wsL_law wsX7_shim := goodIn_r _ [360, 361, 71, 113, 114, 5, 115, 488, 489, 490, 491, 492, 493, 494, 495, 496, 497, 498, 499, 500, 501, 502, 503, 504, 505, 506, 507, 508, 509] (by decide +kernel) (by decide +kernel)
set_option maxRecDepth 20000 in
theorem gL_law_X7_shim : GoodIn wsL_law (wsV RL 58 RX7 yX7_shim wsX7_shim) := goodIn_app (goodIn_of _ (by decide +kernel)) ggL_law_X7_shim
set_option maxRecDepth 20000 in
theorem ggL_law_X6_best : GoodIn wsL_law wsX6_best := goodIn_r _ [365, 25, 85, 86, 2, 87, 366, 24, 367, 368, 43, 369, 370, 371, 372, 373, 374, 375, 376, 377, 378, 379, 380, 381, 382, 383, 42, 483, 484, 485, 486, 487, 529, 530] (by decide +kernel) (by decide +kernel)
set_option maxRecDepth 20000 in
theorem gL_law_X6_best : GoodIn wsL_law (wsV RL 59 RX6 yX6_best wsX6_best) := goodIn_app (goodIn_of _ (by decide +kernel)) ggL_law_X6_best
set_option maxRecDepth 20000 in
theorem ggL_law_X7_best : GoodIn wsL_law wsX7_best := goodIn_r _ [387, 361, 71, 113, 114, 5, 115, 488, 489, 490, 491, 492, 493, 494, 495, 496, 497, 498, 499, 500, 501, 502, 503, 504, 505, 506, 507, 508, 509] (by decide +kernel) (by decide +kernel)
set_option maxRecDepth 20000 in
theorem gL_law_X7_best : GoodIn wsL_law (wsV RL 62 RX7 yX7_best wsX7_best) := goodIn_app (goodIn_of _ (by decide +kernel)) ggL_law_X7_best
set_option maxRecDepth 20000 in
theorem ggL_law_X6_reading : GoodIn wsL_law wsX6_reading := goodIn_r _ [391, 29, 91, 92, 2, 93, 85, 86, 87, 392, 28, 393, 394, 49, 47, 48, 483, 484, 485, 486, 487, 531, 532, 533] (by decide +kernel) (by decide +kernel)
set_option maxRecDepth 20000 in
theorem gL_law_X6_reading : GoodIn wsL_law (wsV RL 63 RX6 yX6_reading wsX6_reading) := goodIn_app (goodIn_of _ (by decide +kernel)) ggL_law_X6_reading
set_option maxRecDepth 20000 in
theorem ggL_law_X7_reading : GoodIn wsL_law wsX7_reading := goodIn_r _ [398, 399, 72, 73, 116, 117, 5, 118, 113, 114, 115, 488, 489, 490, 491, 492, 493, 494, 495, 496, 497, 498, 499, 500, 501, 502, 503, 504, 505, 506, 507, 508, 509] (by decide +kernel) (by decide +kernel)
set_option maxRecDepth 20000 in
theorem gL_law_X7_reading : GoodIn wsL_law (wsV RL 66 RX7 yX7_reading wsX7_reading) := goodIn_app (goodIn_of _ (by decide +kernel)) ggL_law_X7_reading
set_option maxRecDepth 20000 in
theorem ggL_law_X6_clear : GoodIn wsL_law wsX6_clear := goodIn_r _ [403, 29, 483, 484, 485, 486, 487, 531, 532, 533] (by decide +kernel) (by decide +kernel)
set_option maxRecDepth 20000 in
theorem gL_law_X6_clear : GoodIn wsL_law (wsV RL 67 RX6 yX6_clear wsX6_clear) := goodIn_app (goodIn_of _ (by decide +kernel)) ggL_law_X6_clear
set_option maxRecDepth 20000 in
theorem ggL_law_X7_clear : GoodIn wsL_law wsX7_clear := goodIn_r _ [407, 399, 488, 489, 490, 491, 492, 493, 494, 495, 496, 497, 498, 499, 500, 501, 502, 503, 504, 505, 506, 507, 508, 509] (by decide +kernel) (by decide +kernel)
set_option maxRecDepth 20000 in
theorem gL_law_X7_clear : GoodIn wsL_law (wsV RL 71 RX7 yX7_clear wsX7_clear) := goodIn_app (goodIn_of _ (by decide +kernel)) ggL_law_X7_clear
set_option maxRecDepth 20000 in
theorem ggL_law_X6_off : GoodIn wsL_law wsX6_off := goodIn_r _ [411, 164, 13, 165, 82, 83, 2, 84, 85, 86, 87, 412, 413, 414, 415, 416, 29, 17, 417, 88, 89, 90, 91, 92, 93, 171, 16, 172, 173, 174, 175, 176, 177, 178, 179, 180, 181, 182, 183, 184, 185, 186, 187, 188, 189, 190, 191, 192, 193, 194, 195, 196, 206, 207, 208, 209, 210, 211, 212, 201, 202, 203, 204, 205, 483, 484, 485, 486, 487, 534, 535, 536, 537, 538, 539, 540, 541, 542, 543, 544, 545, 546, 531, 532, 533, 510, 511, 512, 513, 514, 515, 516, 517, 518, 519, 520, 521, 522, 523] (by decide +kernel) (by decide +kernel)
set_option maxRecDepth 20000 in
theorem gL_law_X6_off : GoodIn wsL_law (wsV RL 72 RX6 yX6_off wsX6_off) := goodIn_app (goodIn_of _ (by decide +kernel)) ggL_law_X6_off
set_option maxRecDepth 20000 in
theorem ggL_law_X7_off : GoodIn wsL_law wsX7_off := goodIn_r _ [421, 241, 422, 242, 110, 111, 5, 112, 113, 114, 115, 423, 424, 425, 426, 399, 72, 257, 268, 256, 73, 248, 249, 250, 251, 70, 252, 253, 247, 254, 255, 258, 259, 260, 261, 262, 263, 269, 270, 271, 272, 273, 488, 489, 490, 491, 492, 493, 494, 495, 496, 497, 498, 499, 500, 501, 502, 503, 504, 505, 506, 507, 508, 509] (by decide +kernel) (by decide +kernel)
set_option maxRecDepth 20000 in
theorem gL_law_X7_off : GoodIn wsL_law (wsV RL 76 RX7 yX7_off wsX7_off) := goodIn_app (goodIn_of _ (by decide +kernel)) ggL_law_X7_off
set_option maxRecDepth 20000 in
theorem ggL_law_X6_found : GoodIn wsL_law wsX6_found := goodIn_r _ [430, 164, 416, 13, 165, 82, 83, 2, 84, 85, 86, 87, 412, 413, 414, 415, 29, 17, 417, 88, 89, 90, 91, 92, 93, 171, 16, 172, 173, 174, 175, 176, 177, 178, 179, 180, 181, 182, 183, 184, 185, 186, 187, 188, 189, 190, 191, 192, 193, 194, 195, 196, 206, 207, 208, 209, 210, 211, 212, 201, 202, 203, 204, 205, 483, 484, 485, 486, 487, 534, 535, 536, 537, 538, 539, 540, 541, 542, 543, 544, 545, 546, 531, 532, 533, 510, 511, 512, 513, 514, 515, 516, 517, 518, 519, 520, 521, 522, 523] (by decide +kernel) (by decide +kernel)
set_option maxRecDepth 20000 in
theorem gL_law_X6_found : GoodIn wsL_law (wsV RL 77 RX6 yX6_found wsX6_found) := goodIn_app (goodIn_of _ (by decide +kernel)) ggL_law_X6_found
set_option maxRecDepth 20000 in
theorem ggL_law_X7_found : GoodIn wsL_law wsX7_found := goodIn_r _ [434, 241, 70, 422, 242, 110, 111, 5, 112, 113, 114, 115, 116, 117, 118, 423, 424, 425, 426, 399, 72, 257, 268, 256, 73, 248, 249, 250, 251, 252, 253, 247, 254, 255, 258, 259, 260, 261, 262, 263, 269, 270, 271, 272, 273, 488, 489, 490, 491, 492, 493, 494, 495, 496, 497, 498, 499, 500, 501, 502, 503, 504, 505, 506, 507, 508, 509] (by decide +kernel) (by decide +kernel)
set_option maxRecDepth 20000 in
theorem gL_law_X7_found : GoodIn wsL_law (wsV RL 80 RX7 yX7_found wsX7_found) := goodIn_app (goodIn_of _ (by decide +kernel)) ggL_law_X7_found
set_option maxRecDepth 20000 in
theorem ggL_law_X6_isClear : GoodIn wsL_law wsX6_isClear := goodIn_r _ [438, 13, 17, 82, 83, 2, 84, 85, 86, 87, 88, 89, 90, 91, 92, 93, 294, 295, 296, 171, 16, 172, 173, 174, 175, 176, 177, 178, 179, 180, 181, 182, 183, 184, 185, 186, 187, 188, 189, 190, 191, 192, 193, 194, 195, 196, 206, 207, 208, 209, 210, 211, 212, 439, 440, 441, 483, 484, 485, 486, 487, 534, 535, 536, 537, 538, 539, 540, 541, 542, 543, 544, 545, 546, 510, 511, 512, 513, 514, 515, 516, 517, 518, 519, 520, 521, 522, 523] (by decide +kernel) (by decide +kernel)
set_option maxRecDepth 20000 in
theorem gL_law_X6_isClear : GoodIn wsL_law (wsV RL 81 RX6 yX6_isClear wsX6_isClear) := goodIn_app (goodIn_of _ (by decide +kernel)) ggL_law_X6_isClear
set_option maxRecDepth 20000 in
theorem ggL_law_X7_isClear : GoodIn wsL_law wsX7_isClear := goodIn_r _ [445, 110, 111, 5, 112, 113, 114, 115, 116, 117, 118, 248, 249, 250, 251, 70, 252, 253, 247, 254, 255, 256, 257, 258, 259, 260, 261, 262, 263, 446, 447, 448, 449, 488, 489, 490, 491, 492, 493, 494, 495, 496, 497, 498, 499, 500, 501, 502, 503, 504, 505, 506, 507, 508, 509] (by decide +kernel) (by decide +kernel)
set_option maxRecDepth 20000 in
theorem gL_law_X7_isClear : GoodIn wsL_law (wsV RL 85 RX7 yX7_isClear wsX7_isClear) := goodIn_app (goodIn_of _ (by decide +kernel)) ggL_law_X7_isClear
set_option maxRecDepth 20000 in
theorem ggL_law_X6_count : GoodIn wsL_law wsX6_count := goodIn_r _ [453, 25, 29, 85, 86, 2, 87, 483, 484, 485, 486, 487, 529, 530, 531, 532, 533] (by decide +kernel) (by decide +kernel)
set_option maxRecDepth 20000 in
theorem gL_law_X6_count : GoodIn wsL_law (wsV RL 86 RX6 yX6_count wsX6_count) := goodIn_app (goodIn_of _ (by decide +kernel)) ggL_law_X6_count
set_option maxRecDepth 20000 in
theorem ggL_law_X7_count : GoodIn wsL_law wsX7_count := goodIn_r _ [457, 361, 399, 488, 489, 490, 491, 492, 493, 494, 495, 496, 497, 498, 499, 500, 501, 502, 503, 504, 505, 506, 507, 508, 509] (by decide +kernel) (by decide +kernel)
set_option maxRecDepth 20000 in
theorem gL_law_X7_count : GoodIn wsL_law (wsV RL 89 RX7 yX7_count wsX7_count) := goodIn_app (goodIn_of _ (by decide +kernel)) ggL_law_X7_count
set_option maxRecDepth 20000 in
theorem ggL_law_X6_digest : GoodIn wsL_law wsX6_digest := goodIn_r _ [461, 462, 25, 29, 13, 21, 463, 464, 2, 465, 466, 467, 31, 468, 469, 53, 54, 56, 57, 55, 58, 59, 60, 61, 62, 63, 64, 65, 342, 20, 343, 344, 309, 310, 328, 329, 311, 470, 24, 471, 472, 43, 42, 473, 28, 474, 475, 49, 47, 48, 483, 484, 485, 486, 487, 529, 530, 531, 532, 533, 534, 535, 536, 537, 538, 539, 540, 541, 542, 543, 544, 545, 546, 524, 525, 526, 527, 528] (by decide +kernel) (by decide +kernel)
set_option maxRecDepth 20000 in
theorem gL_law_X6_digest : GoodIn wsL_law (wsV RL 90 RX6 yX6_digest wsX6_digest) := goodIn_app (goodIn_of _ (by decide +kernel)) ggL_law_X6_digest
set_option maxRecDepth 20000 in
theorem ggL_law_X7_digest : GoodIn wsL_law wsX7_digest := goodIn_r _ [479, 480, 481, 361, 399, 70, 71, 72, 73, 482, 346, 347, 5, 348, 349, 317, 318, 335, 336, 319, 113, 114, 115, 488, 489, 490, 491, 492, 493, 494, 495, 496, 497, 498, 499, 500, 501, 502, 503, 504, 505, 506, 507, 508, 509] (by decide +kernel) (by decide +kernel)
set_option maxRecDepth 20000 in
theorem gL_law_X7_digest : GoodIn wsL_law (wsV RL 94 RX7 yX7_digest wsX7_digest) := goodIn_app (goodIn_of _ (by decide +kernel)) ggL_law_X7_digest
theorem dL_law_0 : decode cL_law 0 = .ok (.new 7, 3) := by decide +kernel
theorem dL_law_3 : decode cL_law 3 = .ok (.dup, 1) := by decide +kernel
theorem dL_law_4 : decode cL_law 4 = .ok (.invokespecial 9, 3) := by decide +kernel
theorem dL_law_7 : decode cL_law 7 = .ok (.astore_n 1, 1) := by decide +kernel
theorem dL_law_8 : decode cL_law 8 = .ok (.new 10, 3) := by decide +kernel
theorem dL_law_11 : decode cL_law 11 = .ok (.dup, 1) := by decide +kernel
theorem dL_law_12 : decode cL_law 12 = .ok (.invokespecial 12, 3) := by decide +kernel
theorem dL_law_15 : decode cL_law 15 = .ok (.astore_n 2, 1) := by decide +kernel
theorem dL_law_16 : decode cL_law 16 = .ok (.iconst 0, 1) := by decide +kernel
theorem dL_law_17 : decode cL_law 17 = .ok (.istore_n 3, 1) := by decide +kernel
theorem dL_law_18 : decode cL_law 18 = .ok (.iload_n 3, 1) := by decide +kernel
theorem dL_law_19 : decode cL_law 19 = .ok (.aload_n 0, 1) := by decide +kernel
theorem dL_law_20 : decode cL_law 20 = .ok (.arraylength, 1) := by decide +kernel
theorem dL_law_21 : decode cL_law 21 = .ok (.bipush 10, 2) := by decide +kernel
theorem dL_law_23 : decode cL_law 23 = .ok (.isub, 1) := by decide +kernel
theorem dL_law_24 : decode cL_law 24 = .ok (.if_icmp .gt 810, 3) := by decide +kernel
theorem dL_law_27 : decode cL_law 27 = .ok (.aload_n 0, 1) := by decide +kernel
theorem dL_law_28 : decode cL_law 28 = .ok (.iload_n 3, 1) := by decide +kernel
theorem dL_law_29 : decode cL_law 29 = .ok (.iaload, 1) := by decide +kernel
theorem dL_law_30 : decode cL_law 30 = .ok (.bipush 31, 2) := by decide +kernel
theorem dL_law_32 : decode cL_law 32 = .ok (.iand, 1) := by decide +kernel
theorem dL_law_33 : decode cL_law 33 = .ok (.tableswitch 795 0 17 #[87, 198, 241, 294, 327, 371, 414, 457, 490, 513, 536, 569, 602, 615, 639, 683, 758, 781], 87) := by decide +kernel
theorem dL_law_120 : decode cL_law 120 = .ok (.aload_n 1, 1) := by decide +kernel
theorem dL_law_121 : decode cL_law 121 = .ok (.aload_n 0, 1) := by decide +kernel
theorem dL_law_122 : decode cL_law 122 = .ok (.iload_n 3, 1) := by decide +kernel
theorem dL_law_123 : decode cL_law 123 = .ok (.iconst 1, 1) := by decide +kernel
theorem dL_law_124 : decode cL_law 124 = .ok (.iadd, 1) := by decide +kernel
theorem dL_law_125 : decode cL_law 125 = .ok (.iaload, 1) := by decide +kernel
theorem dL_law_126 : decode cL_law 126 = .ok (.aload_n 0, 1) := by decide +kernel
theorem dL_law_127 : decode cL_law 127 = .ok (.iload_n 3, 1) := by decide +kernel
theorem dL_law_128 : decode cL_law 128 = .ok (.iconst 2, 1) := by decide +kernel
theorem dL_law_129 : decode cL_law 129 = .ok (.iadd, 1) := by decide +kernel
theorem dL_law_130 : decode cL_law 130 = .ok (.iaload, 1) := by decide +kernel
theorem dL_law_131 : decode cL_law 131 = .ok (.aload_n 0, 1) := by decide +kernel
theorem dL_law_132 : decode cL_law 132 = .ok (.iload_n 3, 1) := by decide +kernel
theorem dL_law_133 : decode cL_law 133 = .ok (.iconst 3, 1) := by decide +kernel
theorem dL_law_134 : decode cL_law 134 = .ok (.iadd, 1) := by decide +kernel
theorem dL_law_135 : decode cL_law 135 = .ok (.iaload, 1) := by decide +kernel
theorem dL_law_136 : decode cL_law 136 = .ok (.aload_n 0, 1) := by decide +kernel
theorem dL_law_137 : decode cL_law 137 = .ok (.iload_n 3, 1) := by decide +kernel
theorem dL_law_138 : decode cL_law 138 = .ok (.iconst 4, 1) := by decide +kernel
theorem dL_law_139 : decode cL_law 139 = .ok (.iadd, 1) := by decide +kernel
theorem dL_law_140 : decode cL_law 140 = .ok (.iaload, 1) := by decide +kernel
theorem dL_law_141 : decode cL_law 141 = .ok (.aload_n 0, 1) := by decide +kernel
theorem dL_law_142 : decode cL_law 142 = .ok (.iload_n 3, 1) := by decide +kernel
theorem dL_law_143 : decode cL_law 143 = .ok (.iconst 5, 1) := by decide +kernel
theorem dL_law_144 : decode cL_law 144 = .ok (.iadd, 1) := by decide +kernel
theorem dL_law_145 : decode cL_law 145 = .ok (.iaload, 1) := by decide +kernel
theorem dL_law_146 : decode cL_law 146 = .ok (.aload_n 0, 1) := by decide +kernel
theorem dL_law_147 : decode cL_law 147 = .ok (.iload_n 3, 1) := by decide +kernel
theorem dL_law_148 : decode cL_law 148 = .ok (.bipush 6, 2) := by decide +kernel
theorem dL_law_150 : decode cL_law 150 = .ok (.iadd, 1) := by decide +kernel
theorem dL_law_151 : decode cL_law 151 = .ok (.iaload, 1) := by decide +kernel
theorem dL_law_152 : decode cL_law 152 = .ok (.aload_n 0, 1) := by decide +kernel
theorem dL_law_153 : decode cL_law 153 = .ok (.iload_n 3, 1) := by decide +kernel
theorem dL_law_154 : decode cL_law 154 = .ok (.bipush 7, 2) := by decide +kernel
theorem dL_law_156 : decode cL_law 156 = .ok (.iadd, 1) := by decide +kernel
theorem dL_law_157 : decode cL_law 157 = .ok (.iaload, 1) := by decide +kernel
theorem dL_law_158 : decode cL_law 158 = .ok (.aload_n 0, 1) := by decide +kernel
theorem dL_law_159 : decode cL_law 159 = .ok (.iload_n 3, 1) := by decide +kernel
theorem dL_law_160 : decode cL_law 160 = .ok (.bipush 8, 2) := by decide +kernel
theorem dL_law_162 : decode cL_law 162 = .ok (.iadd, 1) := by decide +kernel
theorem dL_law_163 : decode cL_law 163 = .ok (.iaload, 1) := by decide +kernel
theorem dL_law_164 : decode cL_law 164 = .ok (.aload_n 0, 1) := by decide +kernel
theorem dL_law_165 : decode cL_law 165 = .ok (.iload_n 3, 1) := by decide +kernel
theorem dL_law_166 : decode cL_law 166 = .ok (.bipush 9, 2) := by decide +kernel
theorem dL_law_168 : decode cL_law 168 = .ok (.iadd, 1) := by decide +kernel
theorem dL_law_169 : decode cL_law 169 = .ok (.iaload, 1) := by decide +kernel
theorem dL_law_170 : decode cL_law 170 = .ok (.invokevirtual 13, 3) := by decide +kernel
theorem dL_law_173 : decode cL_law 173 = .ok (.aload_n 2, 1) := by decide +kernel
theorem dL_law_174 : decode cL_law 174 = .ok (.aload_n 0, 1) := by decide +kernel
theorem dL_law_175 : decode cL_law 175 = .ok (.iload_n 3, 1) := by decide +kernel
theorem dL_law_176 : decode cL_law 176 = .ok (.iconst 1, 1) := by decide +kernel
theorem dL_law_177 : decode cL_law 177 = .ok (.iadd, 1) := by decide +kernel
theorem dL_law_178 : decode cL_law 178 = .ok (.iaload, 1) := by decide +kernel
theorem dL_law_179 : decode cL_law 179 = .ok (.aload_n 0, 1) := by decide +kernel
theorem dL_law_180 : decode cL_law 180 = .ok (.iload_n 3, 1) := by decide +kernel
theorem dL_law_181 : decode cL_law 181 = .ok (.iconst 2, 1) := by decide +kernel
theorem dL_law_182 : decode cL_law 182 = .ok (.iadd, 1) := by decide +kernel
theorem dL_law_183 : decode cL_law 183 = .ok (.iaload, 1) := by decide +kernel
theorem dL_law_184 : decode cL_law 184 = .ok (.aload_n 0, 1) := by decide +kernel
theorem dL_law_185 : decode cL_law 185 = .ok (.iload_n 3, 1) := by decide +kernel
theorem dL_law_186 : decode cL_law 186 = .ok (.iconst 3, 1) := by decide +kernel
theorem dL_law_187 : decode cL_law 187 = .ok (.iadd, 1) := by decide +kernel
theorem dL_law_188 : decode cL_law 188 = .ok (.iaload, 1) := by decide +kernel
theorem dL_law_189 : decode cL_law 189 = .ok (.aload_n 0, 1) := by decide +kernel
theorem dL_law_190 : decode cL_law 190 = .ok (.iload_n 3, 1) := by decide +kernel
theorem dL_law_191 : decode cL_law 191 = .ok (.iconst 4, 1) := by decide +kernel
theorem dL_law_192 : decode cL_law 192 = .ok (.iadd, 1) := by decide +kernel
theorem dL_law_193 : decode cL_law 193 = .ok (.iaload, 1) := by decide +kernel
theorem dL_law_194 : decode cL_law 194 = .ok (.aload_n 0, 1) := by decide +kernel
theorem dL_law_195 : decode cL_law 195 = .ok (.iload_n 3, 1) := by decide +kernel
theorem dL_law_196 : decode cL_law 196 = .ok (.iconst 5, 1) := by decide +kernel
theorem dL_law_197 : decode cL_law 197 = .ok (.iadd, 1) := by decide +kernel
theorem dL_law_198 : decode cL_law 198 = .ok (.iaload, 1) := by decide +kernel
theorem dL_law_199 : decode cL_law 199 = .ok (.aload_n 0, 1) := by decide +kernel
theorem dL_law_200 : decode cL_law 200 = .ok (.iload_n 3, 1) := by decide +kernel
theorem dL_law_201 : decode cL_law 201 = .ok (.bipush 6, 2) := by decide +kernel
theorem dL_law_203 : decode cL_law 203 = .ok (.iadd, 1) := by decide +kernel
theorem dL_law_204 : decode cL_law 204 = .ok (.iaload, 1) := by decide +kernel
theorem dL_law_205 : decode cL_law 205 = .ok (.aload_n 0, 1) := by decide +kernel
theorem dL_law_206 : decode cL_law 206 = .ok (.iload_n 3, 1) := by decide +kernel
theorem dL_law_207 : decode cL_law 207 = .ok (.bipush 7, 2) := by decide +kernel
theorem dL_law_209 : decode cL_law 209 = .ok (.iadd, 1) := by decide +kernel
theorem dL_law_210 : decode cL_law 210 = .ok (.iaload, 1) := by decide +kernel
theorem dL_law_211 : decode cL_law 211 = .ok (.aload_n 0, 1) := by decide +kernel
theorem dL_law_212 : decode cL_law 212 = .ok (.iload_n 3, 1) := by decide +kernel
theorem dL_law_213 : decode cL_law 213 = .ok (.bipush 8, 2) := by decide +kernel
theorem dL_law_215 : decode cL_law 215 = .ok (.iadd, 1) := by decide +kernel
theorem dL_law_216 : decode cL_law 216 = .ok (.iaload, 1) := by decide +kernel
theorem dL_law_217 : decode cL_law 217 = .ok (.aload_n 0, 1) := by decide +kernel
theorem dL_law_218 : decode cL_law 218 = .ok (.iload_n 3, 1) := by decide +kernel
theorem dL_law_219 : decode cL_law 219 = .ok (.bipush 9, 2) := by decide +kernel
theorem dL_law_221 : decode cL_law 221 = .ok (.iadd, 1) := by decide +kernel
theorem dL_law_222 : decode cL_law 222 = .ok (.iaload, 1) := by decide +kernel
theorem dL_law_223 : decode cL_law 223 = .ok (.invokevirtual 17, 3) := by decide +kernel
theorem dL_law_226 : decode cL_law 226 = .ok (.if_icmp .eq 602, 3) := by decide +kernel
theorem dL_law_229 : decode cL_law 229 = .ok (.iconst 0, 1) := by decide +kernel
theorem dL_law_230 : decode cL_law 230 = .ok (.ireturn, 1) := by decide +kernel
theorem dL_law_231 : decode cL_law 231 = .ok (.aload_n 1, 1) := by decide +kernel
theorem dL_law_232 : decode cL_law 232 = .ok (.aload_n 0, 1) := by decide +kernel
theorem dL_law_233 : decode cL_law 233 = .ok (.iload_n 3, 1) := by decide +kernel
theorem dL_law_234 : decode cL_law 234 = .ok (.iconst 1, 1) := by decide +kernel
theorem dL_law_235 : decode cL_law 235 = .ok (.iadd, 1) := by decide +kernel
theorem dL_law_236 : decode cL_law 236 = .ok (.iaload, 1) := by decide +kernel
theorem dL_law_237 : decode cL_law 237 = .ok (.aload_n 0, 1) := by decide +kernel
theorem dL_law_238 : decode cL_law 238 = .ok (.iload_n 3, 1) := by decide +kernel
theorem dL_law_239 : decode cL_law 239 = .ok (.iconst 2, 1) := by decide +kernel
theorem dL_law_240 : decode cL_law 240 = .ok (.iadd, 1) := by decide +kernel
theorem dL_law_241 : decode cL_law 241 = .ok (.iaload, 1) := by decide +kernel
theorem dL_law_242 : decode cL_law 242 = .ok (.aload_n 0, 1) := by decide +kernel
theorem dL_law_243 : decode cL_law 243 = .ok (.iload_n 3, 1) := by decide +kernel
theorem dL_law_244 : decode cL_law 244 = .ok (.iconst 3, 1) := by decide +kernel
theorem dL_law_245 : decode cL_law 245 = .ok (.iadd, 1) := by decide +kernel
theorem dL_law_246 : decode cL_law 246 = .ok (.iaload, 1) := by decide +kernel
theorem dL_law_247 : decode cL_law 247 = .ok (.invokevirtual 18, 3) := by decide +kernel
theorem dL_law_250 : decode cL_law 250 = .ok (.aload_n 2, 1) := by decide +kernel
theorem dL_law_251 : decode cL_law 251 = .ok (.aload_n 0, 1) := by decide +kernel
theorem dL_law_252 : decode cL_law 252 = .ok (.iload_n 3, 1) := by decide +kernel
theorem dL_law_253 : decode cL_law 253 = .ok (.iconst 1, 1) := by decide +kernel
theorem dL_law_254 : decode cL_law 254 = .ok (.iadd, 1) := by decide +kernel
theorem dL_law_255 : decode cL_law 255 = .ok (.iaload, 1) := by decide +kernel
theorem dL_law_256 : decode cL_law 256 = .ok (.aload_n 0, 1) := by decide +kernel
theorem dL_law_257 : decode cL_law 257 = .ok (.iload_n 3, 1) := by decide +kernel
theorem dL_law_258 : decode cL_law 258 = .ok (.iconst 2, 1) := by decide +kernel
theorem dL_law_259 : decode cL_law 259 = .ok (.iadd, 1) := by decide +kernel
theorem dL_law_260 : decode cL_law 260 = .ok (.iaload, 1) := by decide +kernel
theorem dL_law_261 : decode cL_law 261 = .ok (.aload_n 0, 1) := by decide +kernel
theorem dL_law_262 : decode cL_law 262 = .ok (.iload_n 3, 1) := by decide +kernel
theorem dL_law_263 : decode cL_law 263 = .ok (.iconst 3, 1) := by decide +kernel
theorem dL_law_264 : decode cL_law 264 = .ok (.iadd, 1) := by decide +kernel
theorem dL_law_265 : decode cL_law 265 = .ok (.iaload, 1) := by decide +kernel
theorem dL_law_266 : decode cL_law 266 = .ok (.invokevirtual 22, 3) := by decide +kernel
theorem dL_law_269 : decode cL_law 269 = .ok (.if_icmp .eq 559, 3) := by decide +kernel
theorem dL_law_272 : decode cL_law 272 = .ok (.iconst 0, 1) := by decide +kernel
theorem dL_law_273 : decode cL_law 273 = .ok (.ireturn, 1) := by decide +kernel
theorem dL_law_274 : decode cL_law 274 = .ok (.aload_n 1, 1) := by decide +kernel
theorem dL_law_275 : decode cL_law 275 = .ok (.aload_n 0, 1) := by decide +kernel
theorem dL_law_276 : decode cL_law 276 = .ok (.iload_n 3, 1) := by decide +kernel
theorem dL_law_277 : decode cL_law 277 = .ok (.iconst 1, 1) := by decide +kernel
theorem dL_law_278 : decode cL_law 278 = .ok (.iadd, 1) := by decide +kernel
theorem dL_law_279 : decode cL_law 279 = .ok (.iaload, 1) := by decide +kernel
theorem dL_law_280 : decode cL_law 280 = .ok (.aload_n 0, 1) := by decide +kernel
theorem dL_law_281 : decode cL_law 281 = .ok (.iload_n 3, 1) := by decide +kernel
theorem dL_law_282 : decode cL_law 282 = .ok (.iconst 2, 1) := by decide +kernel
theorem dL_law_283 : decode cL_law 283 = .ok (.iadd, 1) := by decide +kernel
theorem dL_law_284 : decode cL_law 284 = .ok (.iaload, 1) := by decide +kernel
theorem dL_law_285 : decode cL_law 285 = .ok (.aload_n 0, 1) := by decide +kernel
theorem dL_law_286 : decode cL_law 286 = .ok (.iload_n 3, 1) := by decide +kernel
theorem dL_law_287 : decode cL_law 287 = .ok (.iconst 3, 1) := by decide +kernel
theorem dL_law_288 : decode cL_law 288 = .ok (.iadd, 1) := by decide +kernel
theorem dL_law_289 : decode cL_law 289 = .ok (.iaload, 1) := by decide +kernel
theorem dL_law_290 : decode cL_law 290 = .ok (.aload_n 0, 1) := by decide +kernel
theorem dL_law_291 : decode cL_law 291 = .ok (.iload_n 3, 1) := by decide +kernel
theorem dL_law_292 : decode cL_law 292 = .ok (.iconst 4, 1) := by decide +kernel
theorem dL_law_293 : decode cL_law 293 = .ok (.iadd, 1) := by decide +kernel
theorem dL_law_294 : decode cL_law 294 = .ok (.iaload, 1) := by decide +kernel
theorem dL_law_295 : decode cL_law 295 = .ok (.invokevirtual 23, 3) := by decide +kernel
theorem dL_law_298 : decode cL_law 298 = .ok (.aload_n 2, 1) := by decide +kernel
theorem dL_law_299 : decode cL_law 299 = .ok (.aload_n 0, 1) := by decide +kernel
theorem dL_law_300 : decode cL_law 300 = .ok (.iload_n 3, 1) := by decide +kernel
theorem dL_law_301 : decode cL_law 301 = .ok (.iconst 1, 1) := by decide +kernel
theorem dL_law_302 : decode cL_law 302 = .ok (.iadd, 1) := by decide +kernel
theorem dL_law_303 : decode cL_law 303 = .ok (.iaload, 1) := by decide +kernel
theorem dL_law_304 : decode cL_law 304 = .ok (.aload_n 0, 1) := by decide +kernel
theorem dL_law_305 : decode cL_law 305 = .ok (.iload_n 3, 1) := by decide +kernel
theorem dL_law_306 : decode cL_law 306 = .ok (.iconst 2, 1) := by decide +kernel
theorem dL_law_307 : decode cL_law 307 = .ok (.iadd, 1) := by decide +kernel
theorem dL_law_308 : decode cL_law 308 = .ok (.iaload, 1) := by decide +kernel
theorem dL_law_309 : decode cL_law 309 = .ok (.aload_n 0, 1) := by decide +kernel
theorem dL_law_310 : decode cL_law 310 = .ok (.iload_n 3, 1) := by decide +kernel
theorem dL_law_311 : decode cL_law 311 = .ok (.iconst 3, 1) := by decide +kernel
theorem dL_law_312 : decode cL_law 312 = .ok (.iadd, 1) := by decide +kernel
theorem dL_law_313 : decode cL_law 313 = .ok (.iaload, 1) := by decide +kernel
theorem dL_law_314 : decode cL_law 314 = .ok (.aload_n 0, 1) := by decide +kernel
theorem dL_law_315 : decode cL_law 315 = .ok (.iload_n 3, 1) := by decide +kernel
theorem dL_law_316 : decode cL_law 316 = .ok (.iconst 4, 1) := by decide +kernel
theorem dL_law_317 : decode cL_law 317 = .ok (.iadd, 1) := by decide +kernel
theorem dL_law_318 : decode cL_law 318 = .ok (.iaload, 1) := by decide +kernel
theorem dL_law_319 : decode cL_law 319 = .ok (.invokevirtual 27, 3) := by decide +kernel
theorem dL_law_322 : decode cL_law 322 = .ok (.if_icmp .eq 506, 3) := by decide +kernel
theorem dL_law_325 : decode cL_law 325 = .ok (.iconst 0, 1) := by decide +kernel
theorem dL_law_326 : decode cL_law 326 = .ok (.ireturn, 1) := by decide +kernel
theorem dL_law_327 : decode cL_law 327 = .ok (.aload_n 1, 1) := by decide +kernel
theorem dL_law_328 : decode cL_law 328 = .ok (.aload_n 0, 1) := by decide +kernel
theorem dL_law_329 : decode cL_law 329 = .ok (.iload_n 3, 1) := by decide +kernel
theorem dL_law_330 : decode cL_law 330 = .ok (.iconst 1, 1) := by decide +kernel
theorem dL_law_331 : decode cL_law 331 = .ok (.iadd, 1) := by decide +kernel
theorem dL_law_332 : decode cL_law 332 = .ok (.iaload, 1) := by decide +kernel
theorem dL_law_333 : decode cL_law 333 = .ok (.aload_n 0, 1) := by decide +kernel
theorem dL_law_334 : decode cL_law 334 = .ok (.iload_n 3, 1) := by decide +kernel
theorem dL_law_335 : decode cL_law 335 = .ok (.iconst 2, 1) := by decide +kernel
theorem dL_law_336 : decode cL_law 336 = .ok (.iadd, 1) := by decide +kernel
theorem dL_law_337 : decode cL_law 337 = .ok (.iaload, 1) := by decide +kernel
theorem dL_law_338 : decode cL_law 338 = .ok (.invokevirtual 28, 3) := by decide +kernel
theorem dL_law_341 : decode cL_law 341 = .ok (.aload_n 2, 1) := by decide +kernel
theorem dL_law_342 : decode cL_law 342 = .ok (.aload_n 0, 1) := by decide +kernel
theorem dL_law_343 : decode cL_law 343 = .ok (.iload_n 3, 1) := by decide +kernel
theorem dL_law_344 : decode cL_law 344 = .ok (.iconst 1, 1) := by decide +kernel
theorem dL_law_345 : decode cL_law 345 = .ok (.iadd, 1) := by decide +kernel
theorem dL_law_346 : decode cL_law 346 = .ok (.iaload, 1) := by decide +kernel
theorem dL_law_347 : decode cL_law 347 = .ok (.aload_n 0, 1) := by decide +kernel
theorem dL_law_348 : decode cL_law 348 = .ok (.iload_n 3, 1) := by decide +kernel
theorem dL_law_349 : decode cL_law 349 = .ok (.iconst 2, 1) := by decide +kernel
theorem dL_law_350 : decode cL_law 350 = .ok (.iadd, 1) := by decide +kernel
theorem dL_law_351 : decode cL_law 351 = .ok (.iaload, 1) := by decide +kernel
theorem dL_law_352 : decode cL_law 352 = .ok (.invokevirtual 32, 3) := by decide +kernel
theorem dL_law_355 : decode cL_law 355 = .ok (.if_icmp .eq 473, 3) := by decide +kernel
theorem dL_law_358 : decode cL_law 358 = .ok (.iconst 0, 1) := by decide +kernel
theorem dL_law_359 : decode cL_law 359 = .ok (.ireturn, 1) := by decide +kernel
theorem dL_law_360 : decode cL_law 360 = .ok (.aload_n 1, 1) := by decide +kernel
theorem dL_law_361 : decode cL_law 361 = .ok (.aload_n 0, 1) := by decide +kernel
theorem dL_law_362 : decode cL_law 362 = .ok (.iload_n 3, 1) := by decide +kernel
theorem dL_law_363 : decode cL_law 363 = .ok (.iconst 1, 1) := by decide +kernel
theorem dL_law_364 : decode cL_law 364 = .ok (.iadd, 1) := by decide +kernel
theorem dL_law_365 : decode cL_law 365 = .ok (.iaload, 1) := by decide +kernel
theorem dL_law_366 : decode cL_law 366 = .ok (.aload_n 0, 1) := by decide +kernel
theorem dL_law_367 : decode cL_law 367 = .ok (.iload_n 3, 1) := by decide +kernel
theorem dL_law_368 : decode cL_law 368 = .ok (.iconst 2, 1) := by decide +kernel
theorem dL_law_369 : decode cL_law 369 = .ok (.iadd, 1) := by decide +kernel
theorem dL_law_370 : decode cL_law 370 = .ok (.iaload, 1) := by decide +kernel
theorem dL_law_371 : decode cL_law 371 = .ok (.aload_n 0, 1) := by decide +kernel
theorem dL_law_372 : decode cL_law 372 = .ok (.iload_n 3, 1) := by decide +kernel
theorem dL_law_373 : decode cL_law 373 = .ok (.iconst 3, 1) := by decide +kernel
theorem dL_law_374 : decode cL_law 374 = .ok (.iadd, 1) := by decide +kernel
theorem dL_law_375 : decode cL_law 375 = .ok (.iaload, 1) := by decide +kernel
theorem dL_law_376 : decode cL_law 376 = .ok (.invokevirtual 33, 3) := by decide +kernel
theorem dL_law_379 : decode cL_law 379 = .ok (.aload_n 2, 1) := by decide +kernel
theorem dL_law_380 : decode cL_law 380 = .ok (.aload_n 0, 1) := by decide +kernel
theorem dL_law_381 : decode cL_law 381 = .ok (.iload_n 3, 1) := by decide +kernel
theorem dL_law_382 : decode cL_law 382 = .ok (.iconst 1, 1) := by decide +kernel
theorem dL_law_383 : decode cL_law 383 = .ok (.iadd, 1) := by decide +kernel
theorem dL_law_384 : decode cL_law 384 = .ok (.iaload, 1) := by decide +kernel
theorem dL_law_385 : decode cL_law 385 = .ok (.aload_n 0, 1) := by decide +kernel
theorem dL_law_386 : decode cL_law 386 = .ok (.iload_n 3, 1) := by decide +kernel
theorem dL_law_387 : decode cL_law 387 = .ok (.iconst 2, 1) := by decide +kernel
theorem dL_law_388 : decode cL_law 388 = .ok (.iadd, 1) := by decide +kernel
theorem dL_law_389 : decode cL_law 389 = .ok (.iaload, 1) := by decide +kernel
theorem dL_law_390 : decode cL_law 390 = .ok (.aload_n 0, 1) := by decide +kernel
theorem dL_law_391 : decode cL_law 391 = .ok (.iload_n 3, 1) := by decide +kernel
theorem dL_law_392 : decode cL_law 392 = .ok (.iconst 3, 1) := by decide +kernel
theorem dL_law_393 : decode cL_law 393 = .ok (.iadd, 1) := by decide +kernel
theorem dL_law_394 : decode cL_law 394 = .ok (.iaload, 1) := by decide +kernel
theorem dL_law_395 : decode cL_law 395 = .ok (.invokevirtual 37, 3) := by decide +kernel
theorem dL_law_398 : decode cL_law 398 = .ok (.lcmp, 1) := by decide +kernel
theorem dL_law_399 : decode cL_law 399 = .ok (.ifCond .eq 429, 3) := by decide +kernel
theorem dL_law_402 : decode cL_law 402 = .ok (.iconst 0, 1) := by decide +kernel
theorem dL_law_403 : decode cL_law 403 = .ok (.ireturn, 1) := by decide +kernel
theorem dL_law_404 : decode cL_law 404 = .ok (.aload_n 1, 1) := by decide +kernel
theorem dL_law_405 : decode cL_law 405 = .ok (.aload_n 0, 1) := by decide +kernel
theorem dL_law_406 : decode cL_law 406 = .ok (.iload_n 3, 1) := by decide +kernel
theorem dL_law_407 : decode cL_law 407 = .ok (.iconst 1, 1) := by decide +kernel
theorem dL_law_408 : decode cL_law 408 = .ok (.iadd, 1) := by decide +kernel
theorem dL_law_409 : decode cL_law 409 = .ok (.iaload, 1) := by decide +kernel
theorem dL_law_410 : decode cL_law 410 = .ok (.aload_n 0, 1) := by decide +kernel
theorem dL_law_411 : decode cL_law 411 = .ok (.iload_n 3, 1) := by decide +kernel
theorem dL_law_412 : decode cL_law 412 = .ok (.iconst 2, 1) := by decide +kernel
theorem dL_law_413 : decode cL_law 413 = .ok (.iadd, 1) := by decide +kernel
theorem dL_law_414 : decode cL_law 414 = .ok (.iaload, 1) := by decide +kernel
theorem dL_law_415 : decode cL_law 415 = .ok (.aload_n 0, 1) := by decide +kernel
theorem dL_law_416 : decode cL_law 416 = .ok (.iload_n 3, 1) := by decide +kernel
theorem dL_law_417 : decode cL_law 417 = .ok (.iconst 3, 1) := by decide +kernel
theorem dL_law_418 : decode cL_law 418 = .ok (.iadd, 1) := by decide +kernel
theorem dL_law_419 : decode cL_law 419 = .ok (.iaload, 1) := by decide +kernel
theorem dL_law_420 : decode cL_law 420 = .ok (.invokevirtual 38, 3) := by decide +kernel
theorem dL_law_423 : decode cL_law 423 = .ok (.aload_n 2, 1) := by decide +kernel
theorem dL_law_424 : decode cL_law 424 = .ok (.aload_n 0, 1) := by decide +kernel
theorem dL_law_425 : decode cL_law 425 = .ok (.iload_n 3, 1) := by decide +kernel
theorem dL_law_426 : decode cL_law 426 = .ok (.iconst 1, 1) := by decide +kernel
theorem dL_law_427 : decode cL_law 427 = .ok (.iadd, 1) := by decide +kernel
theorem dL_law_428 : decode cL_law 428 = .ok (.iaload, 1) := by decide +kernel
theorem dL_law_429 : decode cL_law 429 = .ok (.aload_n 0, 1) := by decide +kernel
theorem dL_law_430 : decode cL_law 430 = .ok (.iload_n 3, 1) := by decide +kernel
theorem dL_law_431 : decode cL_law 431 = .ok (.iconst 2, 1) := by decide +kernel
theorem dL_law_432 : decode cL_law 432 = .ok (.iadd, 1) := by decide +kernel
theorem dL_law_433 : decode cL_law 433 = .ok (.iaload, 1) := by decide +kernel
theorem dL_law_434 : decode cL_law 434 = .ok (.aload_n 0, 1) := by decide +kernel
theorem dL_law_435 : decode cL_law 435 = .ok (.iload_n 3, 1) := by decide +kernel
theorem dL_law_436 : decode cL_law 436 = .ok (.iconst 3, 1) := by decide +kernel
theorem dL_law_437 : decode cL_law 437 = .ok (.iadd, 1) := by decide +kernel
theorem dL_law_438 : decode cL_law 438 = .ok (.iaload, 1) := by decide +kernel
theorem dL_law_439 : decode cL_law 439 = .ok (.invokevirtual 41, 3) := by decide +kernel
theorem dL_law_442 : decode cL_law 442 = .ok (.if_icmp .eq 386, 3) := by decide +kernel
theorem dL_law_445 : decode cL_law 445 = .ok (.iconst 0, 1) := by decide +kernel
theorem dL_law_446 : decode cL_law 446 = .ok (.ireturn, 1) := by decide +kernel
theorem dL_law_447 : decode cL_law 447 = .ok (.aload_n 1, 1) := by decide +kernel
theorem dL_law_448 : decode cL_law 448 = .ok (.aload_n 0, 1) := by decide +kernel
theorem dL_law_449 : decode cL_law 449 = .ok (.iload_n 3, 1) := by decide +kernel
theorem dL_law_450 : decode cL_law 450 = .ok (.iconst 1, 1) := by decide +kernel
theorem dL_law_451 : decode cL_law 451 = .ok (.iadd, 1) := by decide +kernel
theorem dL_law_452 : decode cL_law 452 = .ok (.iaload, 1) := by decide +kernel
theorem dL_law_453 : decode cL_law 453 = .ok (.aload_n 0, 1) := by decide +kernel
theorem dL_law_454 : decode cL_law 454 = .ok (.iload_n 3, 1) := by decide +kernel
theorem dL_law_455 : decode cL_law 455 = .ok (.iconst 2, 1) := by decide +kernel
theorem dL_law_456 : decode cL_law 456 = .ok (.iadd, 1) := by decide +kernel
theorem dL_law_457 : decode cL_law 457 = .ok (.iaload, 1) := by decide +kernel
theorem dL_law_458 : decode cL_law 458 = .ok (.aload_n 0, 1) := by decide +kernel
theorem dL_law_459 : decode cL_law 459 = .ok (.iload_n 3, 1) := by decide +kernel
theorem dL_law_460 : decode cL_law 460 = .ok (.iconst 3, 1) := by decide +kernel
theorem dL_law_461 : decode cL_law 461 = .ok (.iadd, 1) := by decide +kernel
theorem dL_law_462 : decode cL_law 462 = .ok (.iaload, 1) := by decide +kernel
theorem dL_law_463 : decode cL_law 463 = .ok (.invokevirtual 42, 3) := by decide +kernel
theorem dL_law_466 : decode cL_law 466 = .ok (.aload_n 2, 1) := by decide +kernel
theorem dL_law_467 : decode cL_law 467 = .ok (.aload_n 0, 1) := by decide +kernel
theorem dL_law_468 : decode cL_law 468 = .ok (.iload_n 3, 1) := by decide +kernel
theorem dL_law_469 : decode cL_law 469 = .ok (.iconst 1, 1) := by decide +kernel
theorem dL_law_470 : decode cL_law 470 = .ok (.iadd, 1) := by decide +kernel
theorem dL_law_471 : decode cL_law 471 = .ok (.iaload, 1) := by decide +kernel
theorem dL_law_472 : decode cL_law 472 = .ok (.aload_n 0, 1) := by decide +kernel
theorem dL_law_473 : decode cL_law 473 = .ok (.iload_n 3, 1) := by decide +kernel
theorem dL_law_474 : decode cL_law 474 = .ok (.iconst 2, 1) := by decide +kernel
theorem dL_law_475 : decode cL_law 475 = .ok (.iadd, 1) := by decide +kernel
theorem dL_law_476 : decode cL_law 476 = .ok (.iaload, 1) := by decide +kernel
theorem dL_law_477 : decode cL_law 477 = .ok (.aload_n 0, 1) := by decide +kernel
theorem dL_law_478 : decode cL_law 478 = .ok (.iload_n 3, 1) := by decide +kernel
theorem dL_law_479 : decode cL_law 479 = .ok (.iconst 3, 1) := by decide +kernel
theorem dL_law_480 : decode cL_law 480 = .ok (.iadd, 1) := by decide +kernel
theorem dL_law_481 : decode cL_law 481 = .ok (.iaload, 1) := by decide +kernel
theorem dL_law_482 : decode cL_law 482 = .ok (.invokevirtual 45, 3) := by decide +kernel
theorem dL_law_485 : decode cL_law 485 = .ok (.if_icmp .eq 343, 3) := by decide +kernel
theorem dL_law_488 : decode cL_law 488 = .ok (.iconst 0, 1) := by decide +kernel
theorem dL_law_489 : decode cL_law 489 = .ok (.ireturn, 1) := by decide +kernel
theorem dL_law_490 : decode cL_law 490 = .ok (.aload_n 1, 1) := by decide +kernel
theorem dL_law_491 : decode cL_law 491 = .ok (.aload_n 0, 1) := by decide +kernel
theorem dL_law_492 : decode cL_law 492 = .ok (.iload_n 3, 1) := by decide +kernel
theorem dL_law_493 : decode cL_law 493 = .ok (.iconst 1, 1) := by decide +kernel
theorem dL_law_494 : decode cL_law 494 = .ok (.iadd, 1) := by decide +kernel
theorem dL_law_495 : decode cL_law 495 = .ok (.iaload, 1) := by decide +kernel
theorem dL_law_496 : decode cL_law 496 = .ok (.aload_n 0, 1) := by decide +kernel
theorem dL_law_497 : decode cL_law 497 = .ok (.iload_n 3, 1) := by decide +kernel
theorem dL_law_498 : decode cL_law 498 = .ok (.iconst 2, 1) := by decide +kernel
theorem dL_law_499 : decode cL_law 499 = .ok (.iadd, 1) := by decide +kernel
theorem dL_law_500 : decode cL_law 500 = .ok (.iaload, 1) := by decide +kernel
theorem dL_law_501 : decode cL_law 501 = .ok (.invokevirtual 46, 3) := by decide +kernel
theorem dL_law_504 : decode cL_law 504 = .ok (.aload_n 2, 1) := by decide +kernel
theorem dL_law_505 : decode cL_law 505 = .ok (.aload_n 0, 1) := by decide +kernel
theorem dL_law_506 : decode cL_law 506 = .ok (.iload_n 3, 1) := by decide +kernel
theorem dL_law_507 : decode cL_law 507 = .ok (.iconst 1, 1) := by decide +kernel
theorem dL_law_508 : decode cL_law 508 = .ok (.iadd, 1) := by decide +kernel
theorem dL_law_509 : decode cL_law 509 = .ok (.iaload, 1) := by decide +kernel
theorem dL_law_510 : decode cL_law 510 = .ok (.aload_n 0, 1) := by decide +kernel
theorem dL_law_511 : decode cL_law 511 = .ok (.iload_n 3, 1) := by decide +kernel
theorem dL_law_512 : decode cL_law 512 = .ok (.iconst 2, 1) := by decide +kernel
theorem dL_law_513 : decode cL_law 513 = .ok (.iadd, 1) := by decide +kernel
theorem dL_law_514 : decode cL_law 514 = .ok (.iaload, 1) := by decide +kernel
theorem dL_law_515 : decode cL_law 515 = .ok (.invokevirtual 49, 3) := by decide +kernel
theorem dL_law_518 : decode cL_law 518 = .ok (.if_icmp .eq 310, 3) := by decide +kernel
theorem dL_law_521 : decode cL_law 521 = .ok (.iconst 0, 1) := by decide +kernel
theorem dL_law_522 : decode cL_law 522 = .ok (.ireturn, 1) := by decide +kernel
theorem dL_law_523 : decode cL_law 523 = .ok (.aload_n 1, 1) := by decide +kernel
theorem dL_law_524 : decode cL_law 524 = .ok (.aload_n 0, 1) := by decide +kernel
theorem dL_law_525 : decode cL_law 525 = .ok (.iload_n 3, 1) := by decide +kernel
theorem dL_law_526 : decode cL_law 526 = .ok (.iconst 1, 1) := by decide +kernel
theorem dL_law_527 : decode cL_law 527 = .ok (.iadd, 1) := by decide +kernel
theorem dL_law_528 : decode cL_law 528 = .ok (.iaload, 1) := by decide +kernel
theorem dL_law_529 : decode cL_law 529 = .ok (.invokevirtual 50, 3) := by decide +kernel
theorem dL_law_532 : decode cL_law 532 = .ok (.aload_n 2, 1) := by decide +kernel
theorem dL_law_533 : decode cL_law 533 = .ok (.aload_n 0, 1) := by decide +kernel
theorem dL_law_534 : decode cL_law 534 = .ok (.iload_n 3, 1) := by decide +kernel
theorem dL_law_535 : decode cL_law 535 = .ok (.iconst 1, 1) := by decide +kernel
theorem dL_law_536 : decode cL_law 536 = .ok (.iadd, 1) := by decide +kernel
theorem dL_law_537 : decode cL_law 537 = .ok (.iaload, 1) := by decide +kernel
theorem dL_law_538 : decode cL_law 538 = .ok (.invokevirtual 54, 3) := by decide +kernel
theorem dL_law_541 : decode cL_law 541 = .ok (.if_icmp .eq 287, 3) := by decide +kernel
theorem dL_law_544 : decode cL_law 544 = .ok (.iconst 0, 1) := by decide +kernel
theorem dL_law_545 : decode cL_law 545 = .ok (.ireturn, 1) := by decide +kernel
theorem dL_law_546 : decode cL_law 546 = .ok (.aload_n 1, 1) := by decide +kernel
theorem dL_law_547 : decode cL_law 547 = .ok (.aload_n 0, 1) := by decide +kernel
theorem dL_law_548 : decode cL_law 548 = .ok (.iload_n 3, 1) := by decide +kernel
theorem dL_law_549 : decode cL_law 549 = .ok (.iconst 1, 1) := by decide +kernel
theorem dL_law_550 : decode cL_law 550 = .ok (.iadd, 1) := by decide +kernel
theorem dL_law_551 : decode cL_law 551 = .ok (.iaload, 1) := by decide +kernel
theorem dL_law_552 : decode cL_law 552 = .ok (.invokevirtual 55, 3) := by decide +kernel
theorem dL_law_555 : decode cL_law 555 = .ok (.aload_n 2, 1) := by decide +kernel
theorem dL_law_556 : decode cL_law 556 = .ok (.aload_n 0, 1) := by decide +kernel
theorem dL_law_557 : decode cL_law 557 = .ok (.iload_n 3, 1) := by decide +kernel
theorem dL_law_558 : decode cL_law 558 = .ok (.iconst 1, 1) := by decide +kernel
theorem dL_law_559 : decode cL_law 559 = .ok (.iadd, 1) := by decide +kernel
theorem dL_law_560 : decode cL_law 560 = .ok (.iaload, 1) := by decide +kernel
theorem dL_law_561 : decode cL_law 561 = .ok (.invokevirtual 58, 3) := by decide +kernel
theorem dL_law_564 : decode cL_law 564 = .ok (.if_icmp .eq 264, 3) := by decide +kernel
theorem dL_law_567 : decode cL_law 567 = .ok (.iconst 0, 1) := by decide +kernel
theorem dL_law_568 : decode cL_law 568 = .ok (.ireturn, 1) := by decide +kernel
theorem dL_law_569 : decode cL_law 569 = .ok (.aload_n 1, 1) := by decide +kernel
theorem dL_law_570 : decode cL_law 570 = .ok (.aload_n 0, 1) := by decide +kernel
theorem dL_law_571 : decode cL_law 571 = .ok (.iload_n 3, 1) := by decide +kernel
theorem dL_law_572 : decode cL_law 572 = .ok (.iconst 1, 1) := by decide +kernel
theorem dL_law_573 : decode cL_law 573 = .ok (.iadd, 1) := by decide +kernel
theorem dL_law_574 : decode cL_law 574 = .ok (.iaload, 1) := by decide +kernel
theorem dL_law_575 : decode cL_law 575 = .ok (.aload_n 0, 1) := by decide +kernel
theorem dL_law_576 : decode cL_law 576 = .ok (.iload_n 3, 1) := by decide +kernel
theorem dL_law_577 : decode cL_law 577 = .ok (.iconst 2, 1) := by decide +kernel
theorem dL_law_578 : decode cL_law 578 = .ok (.iadd, 1) := by decide +kernel
theorem dL_law_579 : decode cL_law 579 = .ok (.iaload, 1) := by decide +kernel
theorem dL_law_580 : decode cL_law 580 = .ok (.invokevirtual 59, 3) := by decide +kernel
theorem dL_law_583 : decode cL_law 583 = .ok (.aload_n 2, 1) := by decide +kernel
theorem dL_law_584 : decode cL_law 584 = .ok (.aload_n 0, 1) := by decide +kernel
theorem dL_law_585 : decode cL_law 585 = .ok (.iload_n 3, 1) := by decide +kernel
theorem dL_law_586 : decode cL_law 586 = .ok (.iconst 1, 1) := by decide +kernel
theorem dL_law_587 : decode cL_law 587 = .ok (.iadd, 1) := by decide +kernel
theorem dL_law_588 : decode cL_law 588 = .ok (.iaload, 1) := by decide +kernel
theorem dL_law_589 : decode cL_law 589 = .ok (.aload_n 0, 1) := by decide +kernel
theorem dL_law_590 : decode cL_law 590 = .ok (.iload_n 3, 1) := by decide +kernel
theorem dL_law_591 : decode cL_law 591 = .ok (.iconst 2, 1) := by decide +kernel
theorem dL_law_592 : decode cL_law 592 = .ok (.iadd, 1) := by decide +kernel
theorem dL_law_593 : decode cL_law 593 = .ok (.iaload, 1) := by decide +kernel
theorem dL_law_594 : decode cL_law 594 = .ok (.invokevirtual 62, 3) := by decide +kernel
theorem dL_law_597 : decode cL_law 597 = .ok (.if_icmp .eq 231, 3) := by decide +kernel
theorem dL_law_600 : decode cL_law 600 = .ok (.iconst 0, 1) := by decide +kernel
theorem dL_law_601 : decode cL_law 601 = .ok (.ireturn, 1) := by decide +kernel
theorem dL_law_602 : decode cL_law 602 = .ok (.aload_n 1, 1) := by decide +kernel
theorem dL_law_603 : decode cL_law 603 = .ok (.aload_n 0, 1) := by decide +kernel
theorem dL_law_604 : decode cL_law 604 = .ok (.iload_n 3, 1) := by decide +kernel
theorem dL_law_605 : decode cL_law 605 = .ok (.iconst 1, 1) := by decide +kernel
theorem dL_law_606 : decode cL_law 606 = .ok (.iadd, 1) := by decide +kernel
theorem dL_law_607 : decode cL_law 607 = .ok (.iaload, 1) := by decide +kernel
theorem dL_law_608 : decode cL_law 608 = .ok (.aload_n 0, 1) := by decide +kernel
theorem dL_law_609 : decode cL_law 609 = .ok (.iload_n 3, 1) := by decide +kernel
theorem dL_law_610 : decode cL_law 610 = .ok (.iconst 2, 1) := by decide +kernel
theorem dL_law_611 : decode cL_law 611 = .ok (.iadd, 1) := by decide +kernel
theorem dL_law_612 : decode cL_law 612 = .ok (.iaload, 1) := by decide +kernel
theorem dL_law_613 : decode cL_law 613 = .ok (.invokevirtual 63, 3) := by decide +kernel
theorem dL_law_616 : decode cL_law 616 = .ok (.aload_n 2, 1) := by decide +kernel
theorem dL_law_617 : decode cL_law 617 = .ok (.aload_n 0, 1) := by decide +kernel
theorem dL_law_618 : decode cL_law 618 = .ok (.iload_n 3, 1) := by decide +kernel
theorem dL_law_619 : decode cL_law 619 = .ok (.iconst 1, 1) := by decide +kernel
theorem dL_law_620 : decode cL_law 620 = .ok (.iadd, 1) := by decide +kernel
theorem dL_law_621 : decode cL_law 621 = .ok (.iaload, 1) := by decide +kernel
theorem dL_law_622 : decode cL_law 622 = .ok (.aload_n 0, 1) := by decide +kernel
theorem dL_law_623 : decode cL_law 623 = .ok (.iload_n 3, 1) := by decide +kernel
theorem dL_law_624 : decode cL_law 624 = .ok (.iconst 2, 1) := by decide +kernel
theorem dL_law_625 : decode cL_law 625 = .ok (.iadd, 1) := by decide +kernel
theorem dL_law_626 : decode cL_law 626 = .ok (.iaload, 1) := by decide +kernel
theorem dL_law_627 : decode cL_law 627 = .ok (.invokevirtual 66, 3) := by decide +kernel
theorem dL_law_630 : decode cL_law 630 = .ok (.if_icmp .eq 198, 3) := by decide +kernel
theorem dL_law_633 : decode cL_law 633 = .ok (.iconst 0, 1) := by decide +kernel
theorem dL_law_634 : decode cL_law 634 = .ok (.ireturn, 1) := by decide +kernel
theorem dL_law_635 : decode cL_law 635 = .ok (.aload_n 1, 1) := by decide +kernel
theorem dL_law_636 : decode cL_law 636 = .ok (.invokevirtual 67, 3) := by decide +kernel
theorem dL_law_639 : decode cL_law 639 = .ok (.aload_n 2, 1) := by decide +kernel
theorem dL_law_640 : decode cL_law 640 = .ok (.invokevirtual 71, 3) := by decide +kernel
theorem dL_law_643 : decode cL_law 643 = .ok (.if_icmp .eq 185, 3) := by decide +kernel
theorem dL_law_646 : decode cL_law 646 = .ok (.iconst 0, 1) := by decide +kernel
theorem dL_law_647 : decode cL_law 647 = .ok (.ireturn, 1) := by decide +kernel
theorem dL_law_648 : decode cL_law 648 = .ok (.aload_n 1, 1) := by decide +kernel
theorem dL_law_649 : decode cL_law 649 = .ok (.aload_n 0, 1) := by decide +kernel
theorem dL_law_650 : decode cL_law 650 = .ok (.iload_n 3, 1) := by decide +kernel
theorem dL_law_651 : decode cL_law 651 = .ok (.iconst 1, 1) := by decide +kernel
theorem dL_law_652 : decode cL_law 652 = .ok (.iadd, 1) := by decide +kernel
theorem dL_law_653 : decode cL_law 653 = .ok (.iaload, 1) := by decide +kernel
theorem dL_law_654 : decode cL_law 654 = .ok (.invokevirtual 72, 3) := by decide +kernel
theorem dL_law_657 : decode cL_law 657 = .ok (.aload_n 2, 1) := by decide +kernel
theorem dL_law_658 : decode cL_law 658 = .ok (.aload_n 0, 1) := by decide +kernel
theorem dL_law_659 : decode cL_law 659 = .ok (.iload_n 3, 1) := by decide +kernel
theorem dL_law_660 : decode cL_law 660 = .ok (.iconst 1, 1) := by decide +kernel
theorem dL_law_661 : decode cL_law 661 = .ok (.iadd, 1) := by decide +kernel
theorem dL_law_662 : decode cL_law 662 = .ok (.iaload, 1) := by decide +kernel
theorem dL_law_663 : decode cL_law 663 = .ok (.invokevirtual 76, 3) := by decide +kernel
theorem dL_law_666 : decode cL_law 666 = .ok (.lcmp, 1) := by decide +kernel
theorem dL_law_667 : decode cL_law 667 = .ok (.ifCond .eq 161, 3) := by decide +kernel
theorem dL_law_670 : decode cL_law 670 = .ok (.iconst 0, 1) := by decide +kernel
theorem dL_law_671 : decode cL_law 671 = .ok (.ireturn, 1) := by decide +kernel
theorem dL_law_672 : decode cL_law 672 = .ok (.aload_n 1, 1) := by decide +kernel
theorem dL_law_673 : decode cL_law 673 = .ok (.aload_n 0, 1) := by decide +kernel
theorem dL_law_674 : decode cL_law 674 = .ok (.iload_n 3, 1) := by decide +kernel
theorem dL_law_675 : decode cL_law 675 = .ok (.iconst 1, 1) := by decide +kernel
theorem dL_law_676 : decode cL_law 676 = .ok (.iadd, 1) := by decide +kernel
theorem dL_law_677 : decode cL_law 677 = .ok (.iaload, 1) := by decide +kernel
theorem dL_law_678 : decode cL_law 678 = .ok (.aload_n 0, 1) := by decide +kernel
theorem dL_law_679 : decode cL_law 679 = .ok (.iload_n 3, 1) := by decide +kernel
theorem dL_law_680 : decode cL_law 680 = .ok (.iconst 2, 1) := by decide +kernel
theorem dL_law_681 : decode cL_law 681 = .ok (.iadd, 1) := by decide +kernel
theorem dL_law_682 : decode cL_law 682 = .ok (.iaload, 1) := by decide +kernel
theorem dL_law_683 : decode cL_law 683 = .ok (.aload_n 0, 1) := by decide +kernel
theorem dL_law_684 : decode cL_law 684 = .ok (.iload_n 3, 1) := by decide +kernel
theorem dL_law_685 : decode cL_law 685 = .ok (.iconst 3, 1) := by decide +kernel
theorem dL_law_686 : decode cL_law 686 = .ok (.iadd, 1) := by decide +kernel
theorem dL_law_687 : decode cL_law 687 = .ok (.iaload, 1) := by decide +kernel
theorem dL_law_688 : decode cL_law 688 = .ok (.invokevirtual 77, 3) := by decide +kernel
theorem dL_law_691 : decode cL_law 691 = .ok (.aload_n 2, 1) := by decide +kernel
theorem dL_law_692 : decode cL_law 692 = .ok (.aload_n 0, 1) := by decide +kernel
theorem dL_law_693 : decode cL_law 693 = .ok (.iload_n 3, 1) := by decide +kernel
theorem dL_law_694 : decode cL_law 694 = .ok (.iconst 1, 1) := by decide +kernel
theorem dL_law_695 : decode cL_law 695 = .ok (.iadd, 1) := by decide +kernel
theorem dL_law_696 : decode cL_law 696 = .ok (.iaload, 1) := by decide +kernel
theorem dL_law_697 : decode cL_law 697 = .ok (.aload_n 0, 1) := by decide +kernel
theorem dL_law_698 : decode cL_law 698 = .ok (.iload_n 3, 1) := by decide +kernel
theorem dL_law_699 : decode cL_law 699 = .ok (.iconst 2, 1) := by decide +kernel
theorem dL_law_700 : decode cL_law 700 = .ok (.iadd, 1) := by decide +kernel
theorem dL_law_701 : decode cL_law 701 = .ok (.iaload, 1) := by decide +kernel
theorem dL_law_702 : decode cL_law 702 = .ok (.aload_n 0, 1) := by decide +kernel
theorem dL_law_703 : decode cL_law 703 = .ok (.iload_n 3, 1) := by decide +kernel
theorem dL_law_704 : decode cL_law 704 = .ok (.iconst 3, 1) := by decide +kernel
theorem dL_law_705 : decode cL_law 705 = .ok (.iadd, 1) := by decide +kernel
theorem dL_law_706 : decode cL_law 706 = .ok (.iaload, 1) := by decide +kernel
theorem dL_law_707 : decode cL_law 707 = .ok (.invokevirtual 80, 3) := by decide +kernel
theorem dL_law_710 : decode cL_law 710 = .ok (.lcmp, 1) := by decide +kernel
theorem dL_law_711 : decode cL_law 711 = .ok (.ifCond .eq 117, 3) := by decide +kernel
theorem dL_law_714 : decode cL_law 714 = .ok (.iconst 0, 1) := by decide +kernel
theorem dL_law_715 : decode cL_law 715 = .ok (.ireturn, 1) := by decide +kernel
theorem dL_law_716 : decode cL_law 716 = .ok (.aload_n 1, 1) := by decide +kernel
theorem dL_law_717 : decode cL_law 717 = .ok (.aload_n 0, 1) := by decide +kernel
theorem dL_law_718 : decode cL_law 718 = .ok (.iload_n 3, 1) := by decide +kernel
theorem dL_law_719 : decode cL_law 719 = .ok (.iconst 1, 1) := by decide +kernel
theorem dL_law_720 : decode cL_law 720 = .ok (.iadd, 1) := by decide +kernel
theorem dL_law_721 : decode cL_law 721 = .ok (.iaload, 1) := by decide +kernel
theorem dL_law_722 : decode cL_law 722 = .ok (.aload_n 0, 1) := by decide +kernel
theorem dL_law_723 : decode cL_law 723 = .ok (.iload_n 3, 1) := by decide +kernel
theorem dL_law_724 : decode cL_law 724 = .ok (.iconst 2, 1) := by decide +kernel
theorem dL_law_725 : decode cL_law 725 = .ok (.iadd, 1) := by decide +kernel
theorem dL_law_726 : decode cL_law 726 = .ok (.iaload, 1) := by decide +kernel
theorem dL_law_727 : decode cL_law 727 = .ok (.aload_n 0, 1) := by decide +kernel
theorem dL_law_728 : decode cL_law 728 = .ok (.iload_n 3, 1) := by decide +kernel
theorem dL_law_729 : decode cL_law 729 = .ok (.iconst 3, 1) := by decide +kernel
theorem dL_law_730 : decode cL_law 730 = .ok (.iadd, 1) := by decide +kernel
theorem dL_law_731 : decode cL_law 731 = .ok (.iaload, 1) := by decide +kernel
theorem dL_law_732 : decode cL_law 732 = .ok (.aload_n 0, 1) := by decide +kernel
theorem dL_law_733 : decode cL_law 733 = .ok (.iload_n 3, 1) := by decide +kernel
theorem dL_law_734 : decode cL_law 734 = .ok (.iconst 4, 1) := by decide +kernel
theorem dL_law_735 : decode cL_law 735 = .ok (.iadd, 1) := by decide +kernel
theorem dL_law_736 : decode cL_law 736 = .ok (.iaload, 1) := by decide +kernel
theorem dL_law_737 : decode cL_law 737 = .ok (.aload_n 0, 1) := by decide +kernel
theorem dL_law_738 : decode cL_law 738 = .ok (.iload_n 3, 1) := by decide +kernel
theorem dL_law_739 : decode cL_law 739 = .ok (.iconst 5, 1) := by decide +kernel
theorem dL_law_740 : decode cL_law 740 = .ok (.iadd, 1) := by decide +kernel
theorem dL_law_741 : decode cL_law 741 = .ok (.iaload, 1) := by decide +kernel
theorem dL_law_742 : decode cL_law 742 = .ok (.aload_n 0, 1) := by decide +kernel
theorem dL_law_743 : decode cL_law 743 = .ok (.iload_n 3, 1) := by decide +kernel
theorem dL_law_744 : decode cL_law 744 = .ok (.bipush 6, 2) := by decide +kernel
theorem dL_law_746 : decode cL_law 746 = .ok (.iadd, 1) := by decide +kernel
theorem dL_law_747 : decode cL_law 747 = .ok (.iaload, 1) := by decide +kernel
theorem dL_law_748 : decode cL_law 748 = .ok (.invokevirtual 81, 3) := by decide +kernel
theorem dL_law_751 : decode cL_law 751 = .ok (.aload_n 2, 1) := by decide +kernel
theorem dL_law_752 : decode cL_law 752 = .ok (.aload_n 0, 1) := by decide +kernel
theorem dL_law_753 : decode cL_law 753 = .ok (.iload_n 3, 1) := by decide +kernel
theorem dL_law_754 : decode cL_law 754 = .ok (.iconst 1, 1) := by decide +kernel
theorem dL_law_755 : decode cL_law 755 = .ok (.iadd, 1) := by decide +kernel
theorem dL_law_756 : decode cL_law 756 = .ok (.iaload, 1) := by decide +kernel
theorem dL_law_757 : decode cL_law 757 = .ok (.aload_n 0, 1) := by decide +kernel
theorem dL_law_758 : decode cL_law 758 = .ok (.iload_n 3, 1) := by decide +kernel
theorem dL_law_759 : decode cL_law 759 = .ok (.iconst 2, 1) := by decide +kernel
theorem dL_law_760 : decode cL_law 760 = .ok (.iadd, 1) := by decide +kernel
theorem dL_law_761 : decode cL_law 761 = .ok (.iaload, 1) := by decide +kernel
theorem dL_law_762 : decode cL_law 762 = .ok (.aload_n 0, 1) := by decide +kernel
theorem dL_law_763 : decode cL_law 763 = .ok (.iload_n 3, 1) := by decide +kernel
theorem dL_law_764 : decode cL_law 764 = .ok (.iconst 3, 1) := by decide +kernel
theorem dL_law_765 : decode cL_law 765 = .ok (.iadd, 1) := by decide +kernel
theorem dL_law_766 : decode cL_law 766 = .ok (.iaload, 1) := by decide +kernel
theorem dL_law_767 : decode cL_law 767 = .ok (.aload_n 0, 1) := by decide +kernel
theorem dL_law_768 : decode cL_law 768 = .ok (.iload_n 3, 1) := by decide +kernel
theorem dL_law_769 : decode cL_law 769 = .ok (.iconst 4, 1) := by decide +kernel
theorem dL_law_770 : decode cL_law 770 = .ok (.iadd, 1) := by decide +kernel
theorem dL_law_771 : decode cL_law 771 = .ok (.iaload, 1) := by decide +kernel
theorem dL_law_772 : decode cL_law 772 = .ok (.aload_n 0, 1) := by decide +kernel
theorem dL_law_773 : decode cL_law 773 = .ok (.iload_n 3, 1) := by decide +kernel
theorem dL_law_774 : decode cL_law 774 = .ok (.iconst 5, 1) := by decide +kernel
theorem dL_law_775 : decode cL_law 775 = .ok (.iadd, 1) := by decide +kernel
theorem dL_law_776 : decode cL_law 776 = .ok (.iaload, 1) := by decide +kernel
theorem dL_law_777 : decode cL_law 777 = .ok (.aload_n 0, 1) := by decide +kernel
theorem dL_law_778 : decode cL_law 778 = .ok (.iload_n 3, 1) := by decide +kernel
theorem dL_law_779 : decode cL_law 779 = .ok (.bipush 6, 2) := by decide +kernel
theorem dL_law_781 : decode cL_law 781 = .ok (.iadd, 1) := by decide +kernel
theorem dL_law_782 : decode cL_law 782 = .ok (.iaload, 1) := by decide +kernel
theorem dL_law_783 : decode cL_law 783 = .ok (.invokevirtual 85, 3) := by decide +kernel
theorem dL_law_786 : decode cL_law 786 = .ok (.if_icmp .eq 42, 3) := by decide +kernel
theorem dL_law_789 : decode cL_law 789 = .ok (.iconst 0, 1) := by decide +kernel
theorem dL_law_790 : decode cL_law 790 = .ok (.ireturn, 1) := by decide +kernel
theorem dL_law_791 : decode cL_law 791 = .ok (.aload_n 1, 1) := by decide +kernel
theorem dL_law_792 : decode cL_law 792 = .ok (.aload_n 0, 1) := by decide +kernel
theorem dL_law_793 : decode cL_law 793 = .ok (.iload_n 3, 1) := by decide +kernel
theorem dL_law_794 : decode cL_law 794 = .ok (.iconst 1, 1) := by decide +kernel
theorem dL_law_795 : decode cL_law 795 = .ok (.iadd, 1) := by decide +kernel
theorem dL_law_796 : decode cL_law 796 = .ok (.iaload, 1) := by decide +kernel
theorem dL_law_797 : decode cL_law 797 = .ok (.invokevirtual 86, 3) := by decide +kernel
theorem dL_law_800 : decode cL_law 800 = .ok (.aload_n 2, 1) := by decide +kernel
theorem dL_law_801 : decode cL_law 801 = .ok (.aload_n 0, 1) := by decide +kernel
theorem dL_law_802 : decode cL_law 802 = .ok (.iload_n 3, 1) := by decide +kernel
theorem dL_law_803 : decode cL_law 803 = .ok (.iconst 1, 1) := by decide +kernel
theorem dL_law_804 : decode cL_law 804 = .ok (.iadd, 1) := by decide +kernel
theorem dL_law_805 : decode cL_law 805 = .ok (.iaload, 1) := by decide +kernel
theorem dL_law_806 : decode cL_law 806 = .ok (.invokevirtual 89, 3) := by decide +kernel
theorem dL_law_809 : decode cL_law 809 = .ok (.if_icmp .eq 19, 3) := by decide +kernel
theorem dL_law_812 : decode cL_law 812 = .ok (.iconst 0, 1) := by decide +kernel
theorem dL_law_813 : decode cL_law 813 = .ok (.ireturn, 1) := by decide +kernel
theorem dL_law_814 : decode cL_law 814 = .ok (.aload_n 1, 1) := by decide +kernel
theorem dL_law_815 : decode cL_law 815 = .ok (.invokevirtual 90, 3) := by decide +kernel
theorem dL_law_818 : decode cL_law 818 = .ok (.aload_n 2, 1) := by decide +kernel
theorem dL_law_819 : decode cL_law 819 = .ok (.invokevirtual 94, 3) := by decide +kernel
theorem dL_law_822 : decode cL_law 822 = .ok (.lcmp, 1) := by decide +kernel
theorem dL_law_823 : decode cL_law 823 = .ok (.ifCond .eq 5, 3) := by decide +kernel
theorem dL_law_826 : decode cL_law 826 = .ok (.iconst 0, 1) := by decide +kernel
theorem dL_law_827 : decode cL_law 827 = .ok (.ireturn, 1) := by decide +kernel
theorem dL_law_828 : decode cL_law 828 = .ok (.iinc 3 10, 3) := by decide +kernel
theorem dL_law_831 : decode cL_law 831 = .ok (.goto (-813), 3) := by decide +kernel
theorem dL_law_834 : decode cL_law 834 = .ok (.iconst 1, 1) := by decide +kernel
theorem dL_law_835 : decode cL_law 835 = .ok (.ireturn, 1) := by decide +kernel
abbrev vwCl : List vw_C := [(RX0, TX0, 5), (RX2, TX2, 13), (RX3, TX3, 3), (RX4, TX4, 2), (RX5, TX5, 14), (RX6, TX6, 5), (RX7, TX7, 22)]
