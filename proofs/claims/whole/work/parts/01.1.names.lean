theorem dX0_init_0 : decode cX0_init 0 = .ok (.aload_n 0, 1) := by decide +kernel
theorem dX0_init_1 : decode cX0_init 1 = .ok (.invokespecial 1, 3) := by decide +kernel
theorem dX0_init_4 : decode cX0_init 4 = .ok (.return_, 1) := by decide +kernel
theorem dX0_load_0 : decode cX0_load 0 = .ok (.aload_n 0, 1) := by decide +kernel
theorem dX0_load_1 : decode cX0_load 1 = .ok (.iload_n 1, 1) := by decide +kernel
theorem dX0_load_2 : decode cX0_load 2 = .ok (.putfield 7, 3) := by decide +kernel
theorem dX0_load_5 : decode cX0_load 5 = .ok (.aload_n 0, 1) := by decide +kernel
theorem dX0_load_6 : decode cX0_load 6 = .ok (.iload_n 2, 1) := by decide +kernel
theorem dX0_load_7 : decode cX0_load 7 = .ok (.putfield 13, 3) := by decide +kernel
theorem dX0_load_10 : decode cX0_load 10 = .ok (.aload_n 0, 1) := by decide +kernel
theorem dX0_load_11 : decode cX0_load 11 = .ok (.iload_n 3, 1) := by decide +kernel
theorem dX0_load_12 : decode cX0_load 12 = .ok (.putfield 16, 3) := by decide +kernel
theorem dX0_load_15 : decode cX0_load 15 = .ok (.return_, 1) := by decide +kernel
theorem dX0_lean_0 : decode cX0_lean 0 = .ok (.aload_n 0, 1) := by decide +kernel
theorem dX0_lean_1 : decode cX0_lean 1 = .ok (.iload_n 1, 1) := by decide +kernel
theorem dX0_lean_2 : decode cX0_lean 2 = .ok (.putfield 19, 3) := by decide +kernel
theorem dX0_lean_5 : decode cX0_lean 5 = .ok (.aload_n 0, 1) := by decide +kernel
theorem dX0_lean_6 : decode cX0_lean 6 = .ok (.iload_n 2, 1) := by decide +kernel
theorem dX0_lean_7 : decode cX0_lean 7 = .ok (.putfield 22, 3) := by decide +kernel
theorem dX0_lean_10 : decode cX0_lean 10 = .ok (.return_, 1) := by decide +kernel
theorem dX0_loadOf_0 : decode cX0_loadOf 0 = .ok (.iload_n 1, 1) := by decide +kernel
theorem dX0_loadOf_1 : decode cX0_loadOf 1 = .ok (.iconst 2, 1) := by decide +kernel
theorem dX0_loadOf_2 : decode cX0_loadOf 2 = .ok (.if_icmp .ge 7, 3) := by decide +kernel
theorem dX0_loadOf_5 : decode cX0_loadOf 5 = .ok (.iconst 1, 1) := by decide +kernel
theorem dX0_loadOf_6 : decode cX0_loadOf 6 = .ok (.goto 4, 3) := by decide +kernel
theorem dX0_loadOf_9 : decode cX0_loadOf 9 = .ok (.iconst 0, 1) := by decide +kernel
theorem dX0_loadOf_10 : decode cX0_loadOf 10 = .ok (.istore_n 2, 1) := by decide +kernel
theorem dX0_loadOf_11 : decode cX0_loadOf 11 = .ok (.aload_n 0, 1) := by decide +kernel
theorem dX0_loadOf_12 : decode cX0_loadOf 12 = .ok (.getfield 7, 3) := by decide +kernel
theorem dX0_loadOf_15 : decode cX0_loadOf 15 = .ok (.aload_n 0, 1) := by decide +kernel
theorem dX0_loadOf_16 : decode cX0_loadOf 16 = .ok (.getfield 13, 3) := by decide +kernel
theorem dX0_loadOf_19 : decode cX0_loadOf 19 = .ok (.imul, 1) := by decide +kernel
theorem dX0_loadOf_20 : decode cX0_loadOf 20 = .ok (.sipush 1000, 3) := by decide +kernel
theorem dX0_loadOf_23 : decode cX0_loadOf 23 = .ok (.idiv, 1) := by decide +kernel
theorem dX0_loadOf_24 : decode cX0_loadOf 24 = .ok (.istore_n 3, 1) := by decide +kernel
theorem dX0_loadOf_25 : decode cX0_loadOf 25 = .ok (.iload_n 2, 1) := by decide +kernel
theorem dX0_loadOf_26 : decode cX0_loadOf 26 = .ok (.ifCond .eq 12, 3) := by decide +kernel
theorem dX0_loadOf_29 : decode cX0_loadOf 29 = .ok (.aload_n 0, 1) := by decide +kernel
theorem dX0_loadOf_30 : decode cX0_loadOf 30 = .ok (.getfield 7, 3) := by decide +kernel
theorem dX0_loadOf_33 : decode cX0_loadOf 33 = .ok (.iload_n 3, 1) := by decide +kernel
theorem dX0_loadOf_34 : decode cX0_loadOf 34 = .ok (.isub, 1) := by decide +kernel
theorem dX0_loadOf_35 : decode cX0_loadOf 35 = .ok (.goto 4, 3) := by decide +kernel
theorem dX0_loadOf_38 : decode cX0_loadOf 38 = .ok (.iload_n 3, 1) := by decide +kernel
theorem dX0_loadOf_39 : decode cX0_loadOf 39 = .ok (.istore 4, 2) := by decide +kernel
theorem dX0_loadOf_41 : decode cX0_loadOf 41 = .ok (.aload_n 0, 1) := by decide +kernel
theorem dX0_loadOf_42 : decode cX0_loadOf 42 = .ok (.getfield 19, 3) := by decide +kernel
theorem dX0_loadOf_45 : decode cX0_loadOf 45 = .ok (.aload_n 0, 1) := by decide +kernel
theorem dX0_loadOf_46 : decode cX0_loadOf 46 = .ok (.getfield 22, 3) := by decide +kernel
theorem dX0_loadOf_49 : decode cX0_loadOf 49 = .ok (.imul, 1) := by decide +kernel
theorem dX0_loadOf_50 : decode cX0_loadOf 50 = .ok (.sipush 1000, 3) := by decide +kernel
theorem dX0_loadOf_53 : decode cX0_loadOf 53 = .ok (.idiv, 1) := by decide +kernel
theorem dX0_loadOf_54 : decode cX0_loadOf 54 = .ok (.istore 5, 2) := by decide +kernel
theorem dX0_loadOf_56 : decode cX0_loadOf 56 = .ok (.iload_n 2, 1) := by decide +kernel
theorem dX0_loadOf_57 : decode cX0_loadOf 57 = .ok (.ifCond .eq 8, 3) := by decide +kernel
theorem dX0_loadOf_60 : decode cX0_loadOf 60 = .ok (.iload 5, 2) := by decide +kernel
theorem dX0_loadOf_62 : decode cX0_loadOf 62 = .ok (.goto 10, 3) := by decide +kernel
theorem dX0_loadOf_65 : decode cX0_loadOf 65 = .ok (.aload_n 0, 1) := by decide +kernel
theorem dX0_loadOf_66 : decode cX0_loadOf 66 = .ok (.getfield 19, 3) := by decide +kernel
theorem dX0_loadOf_69 : decode cX0_loadOf 69 = .ok (.iload 5, 2) := by decide +kernel
theorem dX0_loadOf_71 : decode cX0_loadOf 71 = .ok (.isub, 1) := by decide +kernel
theorem dX0_loadOf_72 : decode cX0_loadOf 72 = .ok (.istore 6, 2) := by decide +kernel
theorem dX0_loadOf_74 : decode cX0_loadOf 74 = .ok (.iload 4, 2) := by decide +kernel
theorem dX0_loadOf_76 : decode cX0_loadOf 76 = .ok (.sipush 500, 3) := by decide +kernel
theorem dX0_loadOf_79 : decode cX0_loadOf 79 = .ok (.aload_n 0, 1) := by decide +kernel
theorem dX0_loadOf_80 : decode cX0_loadOf 80 = .ok (.getfield 16, 3) := by decide +kernel
theorem dX0_loadOf_83 : decode cX0_loadOf 83 = .ok (.iadd, 1) := by decide +kernel
theorem dX0_loadOf_84 : decode cX0_loadOf 84 = .ok (.imul, 1) := by decide +kernel
theorem dX0_loadOf_85 : decode cX0_loadOf 85 = .ok (.sipush 1000, 3) := by decide +kernel
theorem dX0_loadOf_88 : decode cX0_loadOf 88 = .ok (.idiv, 1) := by decide +kernel
theorem dX0_loadOf_89 : decode cX0_loadOf 89 = .ok (.iload 6, 2) := by decide +kernel
theorem dX0_loadOf_91 : decode cX0_loadOf 91 = .ok (.iadd, 1) := by decide +kernel
theorem dX0_loadOf_92 : decode cX0_loadOf 92 = .ok (.istore 7, 2) := by decide +kernel
theorem dX0_loadOf_94 : decode cX0_loadOf 94 = .ok (.iload_n 1, 1) := by decide +kernel
theorem dX0_loadOf_95 : decode cX0_loadOf 95 = .ok (.iconst 1, 1) := by decide +kernel
theorem dX0_loadOf_96 : decode cX0_loadOf 96 = .ok (.iand, 1) := by decide +kernel
theorem dX0_loadOf_97 : decode cX0_loadOf 97 = .ok (.iconst 1, 1) := by decide +kernel
theorem dX0_loadOf_98 : decode cX0_loadOf 98 = .ok (.if_icmp .ne 7, 3) := by decide +kernel
theorem dX0_loadOf_101 : decode cX0_loadOf 101 = .ok (.iconst 1, 1) := by decide +kernel
theorem dX0_loadOf_102 : decode cX0_loadOf 102 = .ok (.goto 4, 3) := by decide +kernel
theorem dX0_loadOf_105 : decode cX0_loadOf 105 = .ok (.iconst 0, 1) := by decide +kernel
theorem dX0_loadOf_106 : decode cX0_loadOf 106 = .ok (.istore 8, 2) := by decide +kernel
theorem dX0_loadOf_108 : decode cX0_loadOf 108 = .ok (.iload 8, 2) := by decide +kernel
theorem dX0_loadOf_110 : decode cX0_loadOf 110 = .ok (.ifCond .eq 8, 3) := by decide +kernel
theorem dX0_loadOf_113 : decode cX0_loadOf 113 = .ok (.iload 7, 2) := by decide +kernel
theorem dX0_loadOf_115 : decode cX0_loadOf 115 = .ok (.goto 8, 3) := by decide +kernel
theorem dX0_loadOf_118 : decode cX0_loadOf 118 = .ok (.iload 4, 2) := by decide +kernel
theorem dX0_loadOf_120 : decode cX0_loadOf 120 = .ok (.iload 7, 2) := by decide +kernel
theorem dX0_loadOf_122 : decode cX0_loadOf 122 = .ok (.isub, 1) := by decide +kernel
theorem dX0_loadOf_123 : decode cX0_loadOf 123 = .ok (.ireturn, 1) := by decide +kernel
set_option maxRecDepth 20000 in
theorem ggX1_squareRoot_X1_rootOfPart : GoodIn wsX1_squareRoot wsX1_rootOfPart := goodIn_r _ [6, 2, 7, 8, 9, 10, 5, 11, 12] (by decide +kernel) (by decide +kernel)
set_option maxRecDepth 20000 in
theorem gX1_squareRoot_X1_rootOfPart : GoodIn wsX1_squareRoot (va_wsS RX1 13 yX1_rootOfPart wsX1_rootOfPart) := goodIn_app (goodIn_of _ (by decide +kernel)) ggX1_squareRoot_X1_rootOfPart
theorem dX1_squareRoot_0 : decode cX1_squareRoot 0 = .ok (.dload_n 0, 1) := by decide +kernel
theorem dX1_squareRoot_1 : decode cX1_squareRoot 1 = .ok (.dconst 0, 1) := by decide +kernel
theorem dX1_squareRoot_2 : decode cX1_squareRoot 2 = .ok (.dcmp .g, 1) := by decide +kernel
theorem dX1_squareRoot_3 : decode cX1_squareRoot 3 = .ok (.ifCond .gt 5, 3) := by decide +kernel
theorem dX1_squareRoot_6 : decode cX1_squareRoot 6 = .ok (.dconst 0, 1) := by decide +kernel
theorem dX1_squareRoot_7 : decode cX1_squareRoot 7 = .ok (.dreturn, 1) := by decide +kernel
theorem dX1_squareRoot_8 : decode cX1_squareRoot 8 = .ok (.dload_n 0, 1) := by decide +kernel
theorem dX1_squareRoot_9 : decode cX1_squareRoot 9 = .ok (.dstore_n 2, 1) := by decide +kernel
theorem dX1_squareRoot_10 : decode cX1_squareRoot 10 = .ok (.dconst 1, 1) := by decide +kernel
theorem dX1_squareRoot_11 : decode cX1_squareRoot 11 = .ok (.dstore 4, 2) := by decide +kernel
theorem dX1_squareRoot_13 : decode cX1_squareRoot 13 = .ok (.iconst 0, 1) := by decide +kernel
theorem dX1_squareRoot_14 : decode cX1_squareRoot 14 = .ok (.istore 6, 2) := by decide +kernel
theorem dX1_squareRoot_16 : decode cX1_squareRoot 16 = .ok (.iload 6, 2) := by decide +kernel
theorem dX1_squareRoot_18 : decode cX1_squareRoot 18 = .ok (.sipush 1100, 3) := by decide +kernel
theorem dX1_squareRoot_21 : decode cX1_squareRoot 21 = .ok (.if_icmp .ge 31, 3) := by decide +kernel
theorem dX1_squareRoot_24 : decode cX1_squareRoot 24 = .ok (.dload_n 2, 1) := by decide +kernel
theorem dX1_squareRoot_25 : decode cX1_squareRoot 25 = .ok (.ldc2_w 9, 3) := by decide +kernel
theorem dX1_squareRoot_28 : decode cX1_squareRoot 28 = .ok (.dcmp .l, 1) := by decide +kernel
theorem dX1_squareRoot_29 : decode cX1_squareRoot 29 = .ok (.ifCond .lt 23, 3) := by decide +kernel
theorem dX1_squareRoot_32 : decode cX1_squareRoot 32 = .ok (.dload_n 2, 1) := by decide +kernel
theorem dX1_squareRoot_33 : decode cX1_squareRoot 33 = .ok (.ldc2_w 9, 3) := by decide +kernel
theorem dX1_squareRoot_36 : decode cX1_squareRoot 36 = .ok (.ddiv, 1) := by decide +kernel
theorem dX1_squareRoot_37 : decode cX1_squareRoot 37 = .ok (.dstore_n 2, 1) := by decide +kernel
theorem dX1_squareRoot_38 : decode cX1_squareRoot 38 = .ok (.dload 4, 2) := by decide +kernel
theorem dX1_squareRoot_40 : decode cX1_squareRoot 40 = .ok (.ldc2_w 11, 3) := by decide +kernel
theorem dX1_squareRoot_43 : decode cX1_squareRoot 43 = .ok (.dmul, 1) := by decide +kernel
theorem dX1_squareRoot_44 : decode cX1_squareRoot 44 = .ok (.dstore 4, 2) := by decide +kernel
theorem dX1_squareRoot_46 : decode cX1_squareRoot 46 = .ok (.iinc 6 1, 3) := by decide +kernel
theorem dX1_squareRoot_49 : decode cX1_squareRoot 49 = .ok (.goto (-33), 3) := by decide +kernel
theorem dX1_squareRoot_52 : decode cX1_squareRoot 52 = .ok (.iconst 0, 1) := by decide +kernel
theorem dX1_squareRoot_53 : decode cX1_squareRoot 53 = .ok (.istore 6, 2) := by decide +kernel
theorem dX1_squareRoot_55 : decode cX1_squareRoot 55 = .ok (.iload 6, 2) := by decide +kernel
theorem dX1_squareRoot_57 : decode cX1_squareRoot 57 = .ok (.sipush 1100, 3) := by decide +kernel
theorem dX1_squareRoot_60 : decode cX1_squareRoot 60 = .ok (.if_icmp .ge 29, 3) := by decide +kernel
theorem dX1_squareRoot_63 : decode cX1_squareRoot 63 = .ok (.dload_n 2, 1) := by decide +kernel
theorem dX1_squareRoot_64 : decode cX1_squareRoot 64 = .ok (.dconst 1, 1) := by decide +kernel
theorem dX1_squareRoot_65 : decode cX1_squareRoot 65 = .ok (.dcmp .g, 1) := by decide +kernel
theorem dX1_squareRoot_66 : decode cX1_squareRoot 66 = .ok (.ifCond .ge 23, 3) := by decide +kernel
theorem dX1_squareRoot_69 : decode cX1_squareRoot 69 = .ok (.dload_n 2, 1) := by decide +kernel
theorem dX1_squareRoot_70 : decode cX1_squareRoot 70 = .ok (.ldc2_w 9, 3) := by decide +kernel
theorem dX1_squareRoot_73 : decode cX1_squareRoot 73 = .ok (.dmul, 1) := by decide +kernel
theorem dX1_squareRoot_74 : decode cX1_squareRoot 74 = .ok (.dstore_n 2, 1) := by decide +kernel
theorem dX1_squareRoot_75 : decode cX1_squareRoot 75 = .ok (.dload 4, 2) := by decide +kernel
theorem dX1_squareRoot_77 : decode cX1_squareRoot 77 = .ok (.ldc2_w 11, 3) := by decide +kernel
theorem dX1_squareRoot_80 : decode cX1_squareRoot 80 = .ok (.ddiv, 1) := by decide +kernel
theorem dX1_squareRoot_81 : decode cX1_squareRoot 81 = .ok (.dstore 4, 2) := by decide +kernel
theorem dX1_squareRoot_83 : decode cX1_squareRoot 83 = .ok (.iinc 6 1, 3) := by decide +kernel
theorem dX1_squareRoot_86 : decode cX1_squareRoot 86 = .ok (.goto (-31), 3) := by decide +kernel
theorem dX1_squareRoot_89 : decode cX1_squareRoot 89 = .ok (.dload_n 2, 1) := by decide +kernel
theorem dX1_squareRoot_90 : decode cX1_squareRoot 90 = .ok (.invokestatic 13, 3) := by decide +kernel
theorem dX1_squareRoot_93 : decode cX1_squareRoot 93 = .ok (.dload 4, 2) := by decide +kernel
theorem dX1_squareRoot_95 : decode cX1_squareRoot 95 = .ok (.dmul, 1) := by decide +kernel
theorem dX1_squareRoot_96 : decode cX1_squareRoot 96 = .ok (.dreturn, 1) := by decide +kernel
set_option maxRecDepth 20000 in
theorem ggX1_rootOfPart_X1_roundedRoot : GoodIn wsX1_rootOfPart wsX1_roundedRoot := goodIn_r _ [7, 8] (by decide +kernel) (by decide +kernel)
set_option maxRecDepth 20000 in
theorem gX1_rootOfPart_X1_roundedRoot : GoodIn wsX1_rootOfPart (va_wsS RX1 21 yX1_roundedRoot wsX1_roundedRoot) := goodIn_app (goodIn_of _ (by decide +kernel)) ggX1_rootOfPart_X1_roundedRoot
theorem dX1_rootOfPart_0 : decode cX1_rootOfPart 0 = .ok (.dload_n 0, 1) := by decide +kernel
theorem dX1_rootOfPart_1 : decode cX1_rootOfPart 1 = .ok (.ldc2_w 11, 3) := by decide +kernel
theorem dX1_rootOfPart_4 : decode cX1_rootOfPart 4 = .ok (.dadd, 1) := by decide +kernel
theorem dX1_rootOfPart_5 : decode cX1_rootOfPart 5 = .ok (.ldc2_w 17, 3) := by decide +kernel
theorem dX1_rootOfPart_8 : decode cX1_rootOfPart 8 = .ok (.ddiv, 1) := by decide +kernel
theorem dX1_rootOfPart_9 : decode cX1_rootOfPart 9 = .ok (.dstore_n 2, 1) := by decide +kernel
theorem dX1_rootOfPart_10 : decode cX1_rootOfPart 10 = .ok (.iconst 0, 1) := by decide +kernel
theorem dX1_rootOfPart_11 : decode cX1_rootOfPart 11 = .ok (.istore 4, 2) := by decide +kernel
theorem dX1_rootOfPart_13 : decode cX1_rootOfPart 13 = .ok (.iload 4, 2) := by decide +kernel
theorem dX1_rootOfPart_15 : decode cX1_rootOfPart 15 = .ok (.iconst 4, 1) := by decide +kernel
theorem dX1_rootOfPart_16 : decode cX1_rootOfPart 16 = .ok (.if_icmp .ge 19, 3) := by decide +kernel
theorem dX1_rootOfPart_19 : decode cX1_rootOfPart 19 = .ok (.dload_n 2, 1) := by decide +kernel
theorem dX1_rootOfPart_20 : decode cX1_rootOfPart 20 = .ok (.dload_n 0, 1) := by decide +kernel
theorem dX1_rootOfPart_21 : decode cX1_rootOfPart 21 = .ok (.dload_n 2, 1) := by decide +kernel
theorem dX1_rootOfPart_22 : decode cX1_rootOfPart 22 = .ok (.ddiv, 1) := by decide +kernel
theorem dX1_rootOfPart_23 : decode cX1_rootOfPart 23 = .ok (.dadd, 1) := by decide +kernel
theorem dX1_rootOfPart_24 : decode cX1_rootOfPart 24 = .ok (.ldc2_w 11, 3) := by decide +kernel
theorem dX1_rootOfPart_27 : decode cX1_rootOfPart 27 = .ok (.ddiv, 1) := by decide +kernel
theorem dX1_rootOfPart_28 : decode cX1_rootOfPart 28 = .ok (.dstore_n 2, 1) := by decide +kernel
theorem dX1_rootOfPart_29 : decode cX1_rootOfPart 29 = .ok (.iinc 4 1, 3) := by decide +kernel
theorem dX1_rootOfPart_32 : decode cX1_rootOfPart 32 = .ok (.goto (-19), 3) := by decide +kernel
theorem dX1_rootOfPart_35 : decode cX1_rootOfPart 35 = .ok (.dload_n 0, 1) := by decide +kernel
theorem dX1_rootOfPart_36 : decode cX1_rootOfPart 36 = .ok (.ldc2_w 19, 3) := by decide +kernel
theorem dX1_rootOfPart_39 : decode cX1_rootOfPart 39 = .ok (.dmul, 1) := by decide +kernel
theorem dX1_rootOfPart_40 : decode cX1_rootOfPart 40 = .ok (.d2l, 1) := by decide +kernel
theorem dX1_rootOfPart_41 : decode cX1_rootOfPart 41 = .ok (.dload_n 2, 1) := by decide +kernel
theorem dX1_rootOfPart_42 : decode cX1_rootOfPart 42 = .ok (.ldc2_w 19, 3) := by decide +kernel
theorem dX1_rootOfPart_45 : decode cX1_rootOfPart 45 = .ok (.dmul, 1) := by decide +kernel
theorem dX1_rootOfPart_46 : decode cX1_rootOfPart 46 = .ok (.d2l, 1) := by decide +kernel
theorem dX1_rootOfPart_47 : decode cX1_rootOfPart 47 = .ok (.invokestatic 21, 3) := by decide +kernel
theorem dX1_rootOfPart_50 : decode cX1_rootOfPart 50 = .ok (.lstore 4, 2) := by decide +kernel
theorem dX1_rootOfPart_52 : decode cX1_rootOfPart 52 = .ok (.lload 4, 2) := by decide +kernel
theorem dX1_rootOfPart_54 : decode cX1_rootOfPart 54 = .ok (.l2d, 1) := by decide +kernel
theorem dX1_rootOfPart_55 : decode cX1_rootOfPart 55 = .ok (.ldc2_w 19, 3) := by decide +kernel
theorem dX1_rootOfPart_58 : decode cX1_rootOfPart 58 = .ok (.ddiv, 1) := by decide +kernel
theorem dX1_rootOfPart_59 : decode cX1_rootOfPart 59 = .ok (.dreturn, 1) := by decide +kernel
theorem dX1_roundedRoot_0 : decode cX1_roundedRoot 0 = .ok (.lload_n 2, 1) := by decide +kernel
theorem dX1_roundedRoot_1 : decode cX1_roundedRoot 1 = .ok (.lstore 4, 2) := by decide +kernel
theorem dX1_roundedRoot_3 : decode cX1_roundedRoot 3 = .ok (.lload_n 0, 1) := by decide +kernel
theorem dX1_roundedRoot_4 : decode cX1_roundedRoot 4 = .ok (.bipush 52, 2) := by decide +kernel
theorem dX1_roundedRoot_6 : decode cX1_roundedRoot 6 = .ok (.lshl, 1) := by decide +kernel
theorem dX1_roundedRoot_7 : decode cX1_roundedRoot 7 = .ok (.lload 4, 2) := by decide +kernel
theorem dX1_roundedRoot_9 : decode cX1_roundedRoot 9 = .ok (.lload 4, 2) := by decide +kernel
theorem dX1_roundedRoot_11 : decode cX1_roundedRoot 11 = .ok (.lmul, 1) := by decide +kernel
theorem dX1_roundedRoot_12 : decode cX1_roundedRoot 12 = .ok (.lsub, 1) := by decide +kernel
theorem dX1_roundedRoot_13 : decode cX1_roundedRoot 13 = .ok (.lstore 6, 2) := by decide +kernel
theorem dX1_roundedRoot_15 : decode cX1_roundedRoot 15 = .ok (.iconst 0, 1) := by decide +kernel
theorem dX1_roundedRoot_16 : decode cX1_roundedRoot 16 = .ok (.istore 8, 2) := by decide +kernel
theorem dX1_roundedRoot_18 : decode cX1_roundedRoot 18 = .ok (.iload 8, 2) := by decide +kernel
theorem dX1_roundedRoot_20 : decode cX1_roundedRoot 20 = .ok (.bipush 16, 2) := by decide +kernel
theorem dX1_roundedRoot_22 : decode cX1_roundedRoot 22 = .ok (.if_icmp .ge 35, 3) := by decide +kernel
theorem dX1_roundedRoot_25 : decode cX1_roundedRoot 25 = .ok (.lload 6, 2) := by decide +kernel
theorem dX1_roundedRoot_27 : decode cX1_roundedRoot 27 = .ok (.lconst 0, 1) := by decide +kernel
theorem dX1_roundedRoot_28 : decode cX1_roundedRoot 28 = .ok (.lcmp, 1) := by decide +kernel
theorem dX1_roundedRoot_29 : decode cX1_roundedRoot 29 = .ok (.ifCond .ge 28, 3) := by decide +kernel
theorem dX1_roundedRoot_32 : decode cX1_roundedRoot 32 = .ok (.lload 4, 2) := by decide +kernel
theorem dX1_roundedRoot_34 : decode cX1_roundedRoot 34 = .ok (.lconst 1, 1) := by decide +kernel
theorem dX1_roundedRoot_35 : decode cX1_roundedRoot 35 = .ok (.lsub, 1) := by decide +kernel
theorem dX1_roundedRoot_36 : decode cX1_roundedRoot 36 = .ok (.lstore 4, 2) := by decide +kernel
theorem dX1_roundedRoot_38 : decode cX1_roundedRoot 38 = .ok (.lload 6, 2) := by decide +kernel
theorem dX1_roundedRoot_40 : decode cX1_roundedRoot 40 = .ok (.ldc2_w 25, 3) := by decide +kernel
theorem dX1_roundedRoot_43 : decode cX1_roundedRoot 43 = .ok (.lload 4, 2) := by decide +kernel
theorem dX1_roundedRoot_45 : decode cX1_roundedRoot 45 = .ok (.lmul, 1) := by decide +kernel
theorem dX1_roundedRoot_46 : decode cX1_roundedRoot 46 = .ok (.lconst 1, 1) := by decide +kernel
theorem dX1_roundedRoot_47 : decode cX1_roundedRoot 47 = .ok (.ladd, 1) := by decide +kernel
theorem dX1_roundedRoot_48 : decode cX1_roundedRoot 48 = .ok (.ladd, 1) := by decide +kernel
theorem dX1_roundedRoot_49 : decode cX1_roundedRoot 49 = .ok (.lstore 6, 2) := by decide +kernel
theorem dX1_roundedRoot_51 : decode cX1_roundedRoot 51 = .ok (.iinc 8 1, 3) := by decide +kernel
theorem dX1_roundedRoot_54 : decode cX1_roundedRoot 54 = .ok (.goto (-36), 3) := by decide +kernel
theorem dX1_roundedRoot_57 : decode cX1_roundedRoot 57 = .ok (.lload 6, 2) := by decide +kernel
theorem dX1_roundedRoot_59 : decode cX1_roundedRoot 59 = .ok (.lload 4, 2) := by decide +kernel
theorem dX1_roundedRoot_61 : decode cX1_roundedRoot 61 = .ok (.lcmp, 1) := by decide +kernel
theorem dX1_roundedRoot_62 : decode cX1_roundedRoot 62 = .ok (.ifCond .le 10, 3) := by decide +kernel
theorem dX1_roundedRoot_65 : decode cX1_roundedRoot 65 = .ok (.lload 4, 2) := by decide +kernel
theorem dX1_roundedRoot_67 : decode cX1_roundedRoot 67 = .ok (.lconst 1, 1) := by decide +kernel
theorem dX1_roundedRoot_68 : decode cX1_roundedRoot 68 = .ok (.ladd, 1) := by decide +kernel
theorem dX1_roundedRoot_69 : decode cX1_roundedRoot 69 = .ok (.goto 5, 3) := by decide +kernel
theorem dX1_roundedRoot_72 : decode cX1_roundedRoot 72 = .ok (.lload 4, 2) := by decide +kernel
theorem dX1_roundedRoot_74 : decode cX1_roundedRoot 74 = .ok (.lreturn, 1) := by decide +kernel
theorem dX1_bits_0 : decode cX1_bits 0 = .ok (.dload_n 0, 1) := by decide +kernel
theorem dX1_bits_1 : decode cX1_bits 1 = .ok (.dconst 0, 1) := by decide +kernel
theorem dX1_bits_2 : decode cX1_bits 2 = .ok (.dcmp .l, 1) := by decide +kernel
theorem dX1_bits_3 : decode cX1_bits 3 = .ok (.ifCond .ne 5, 3) := by decide +kernel
theorem dX1_bits_6 : decode cX1_bits 6 = .ok (.lconst 0, 1) := by decide +kernel
theorem dX1_bits_7 : decode cX1_bits 7 = .ok (.lreturn, 1) := by decide +kernel
theorem dX1_bits_8 : decode cX1_bits 8 = .ok (.dload_n 0, 1) := by decide +kernel
theorem dX1_bits_9 : decode cX1_bits 9 = .ok (.dconst 0, 1) := by decide +kernel
theorem dX1_bits_10 : decode cX1_bits 10 = .ok (.dcmp .g, 1) := by decide +kernel
theorem dX1_bits_11 : decode cX1_bits 11 = .ok (.ifCond .ge 8, 3) := by decide +kernel
theorem dX1_bits_14 : decode cX1_bits 14 = .ok (.dload_n 0, 1) := by decide +kernel
theorem dX1_bits_15 : decode cX1_bits 15 = .ok (.dneg, 1) := by decide +kernel
theorem dX1_bits_16 : decode cX1_bits 16 = .ok (.goto 4, 3) := by decide +kernel
theorem dX1_bits_19 : decode cX1_bits 19 = .ok (.dload_n 0, 1) := by decide +kernel
theorem dX1_bits_20 : decode cX1_bits 20 = .ok (.dstore_n 2, 1) := by decide +kernel
theorem dX1_bits_21 : decode cX1_bits 21 = .ok (.ldc2_w 27, 3) := by decide +kernel
theorem dX1_bits_24 : decode cX1_bits 24 = .ok (.lstore 4, 2) := by decide +kernel
theorem dX1_bits_26 : decode cX1_bits 26 = .ok (.iconst 0, 1) := by decide +kernel
theorem dX1_bits_27 : decode cX1_bits 27 = .ok (.istore 6, 2) := by decide +kernel
theorem dX1_bits_29 : decode cX1_bits 29 = .ok (.iload 6, 2) := by decide +kernel
theorem dX1_bits_31 : decode cX1_bits 31 = .ok (.sipush 1100, 3) := by decide +kernel
theorem dX1_bits_34 : decode cX1_bits 34 = .ok (.if_icmp .ge 29, 3) := by decide +kernel
theorem dX1_bits_37 : decode cX1_bits 37 = .ok (.dload_n 2, 1) := by decide +kernel
theorem dX1_bits_38 : decode cX1_bits 38 = .ok (.ldc2_w 11, 3) := by decide +kernel
theorem dX1_bits_41 : decode cX1_bits 41 = .ok (.dcmp .l, 1) := by decide +kernel
theorem dX1_bits_42 : decode cX1_bits 42 = .ok (.ifCond .lt 21, 3) := by decide +kernel
theorem dX1_bits_45 : decode cX1_bits 45 = .ok (.dload_n 2, 1) := by decide +kernel
theorem dX1_bits_46 : decode cX1_bits 46 = .ok (.ldc2_w 11, 3) := by decide +kernel
theorem dX1_bits_49 : decode cX1_bits 49 = .ok (.ddiv, 1) := by decide +kernel
theorem dX1_bits_50 : decode cX1_bits 50 = .ok (.dstore_n 2, 1) := by decide +kernel
theorem dX1_bits_51 : decode cX1_bits 51 = .ok (.lload 4, 2) := by decide +kernel
theorem dX1_bits_53 : decode cX1_bits 53 = .ok (.lconst 1, 1) := by decide +kernel
theorem dX1_bits_54 : decode cX1_bits 54 = .ok (.ladd, 1) := by decide +kernel
theorem dX1_bits_55 : decode cX1_bits 55 = .ok (.lstore 4, 2) := by decide +kernel
theorem dX1_bits_57 : decode cX1_bits 57 = .ok (.iinc 6 1, 3) := by decide +kernel
theorem dX1_bits_60 : decode cX1_bits 60 = .ok (.goto (-31), 3) := by decide +kernel
theorem dX1_bits_63 : decode cX1_bits 63 = .ok (.iconst 0, 1) := by decide +kernel
theorem dX1_bits_64 : decode cX1_bits 64 = .ok (.istore 6, 2) := by decide +kernel
theorem dX1_bits_66 : decode cX1_bits 66 = .ok (.iload 6, 2) := by decide +kernel
theorem dX1_bits_68 : decode cX1_bits 68 = .ok (.sipush 1100, 3) := by decide +kernel
theorem dX1_bits_71 : decode cX1_bits 71 = .ok (.if_icmp .ge 27, 3) := by decide +kernel
theorem dX1_bits_74 : decode cX1_bits 74 = .ok (.dload_n 2, 1) := by decide +kernel
theorem dX1_bits_75 : decode cX1_bits 75 = .ok (.dconst 1, 1) := by decide +kernel
theorem dX1_bits_76 : decode cX1_bits 76 = .ok (.dcmp .g, 1) := by decide +kernel
theorem dX1_bits_77 : decode cX1_bits 77 = .ok (.ifCond .ge 21, 3) := by decide +kernel
theorem dX1_bits_80 : decode cX1_bits 80 = .ok (.dload_n 2, 1) := by decide +kernel
theorem dX1_bits_81 : decode cX1_bits 81 = .ok (.ldc2_w 11, 3) := by decide +kernel
theorem dX1_bits_84 : decode cX1_bits 84 = .ok (.dmul, 1) := by decide +kernel
theorem dX1_bits_85 : decode cX1_bits 85 = .ok (.dstore_n 2, 1) := by decide +kernel
theorem dX1_bits_86 : decode cX1_bits 86 = .ok (.lload 4, 2) := by decide +kernel
theorem dX1_bits_88 : decode cX1_bits 88 = .ok (.lconst 1, 1) := by decide +kernel
theorem dX1_bits_89 : decode cX1_bits 89 = .ok (.lsub, 1) := by decide +kernel
theorem dX1_bits_90 : decode cX1_bits 90 = .ok (.lstore 4, 2) := by decide +kernel
theorem dX1_bits_92 : decode cX1_bits 92 = .ok (.iinc 6 1, 3) := by decide +kernel
theorem dX1_bits_95 : decode cX1_bits 95 = .ok (.goto (-29), 3) := by decide +kernel
theorem dX1_bits_98 : decode cX1_bits 98 = .ok (.dload_n 2, 1) := by decide +kernel
theorem dX1_bits_99 : decode cX1_bits 99 = .ok (.ldc2_w 19, 3) := by decide +kernel
theorem dX1_bits_102 : decode cX1_bits 102 = .ok (.dmul, 1) := by decide +kernel
theorem dX1_bits_103 : decode cX1_bits 103 = .ok (.d2l, 1) := by decide +kernel
theorem dX1_bits_104 : decode cX1_bits 104 = .ok (.ldc2_w 29, 3) := by decide +kernel
theorem dX1_bits_107 : decode cX1_bits 107 = .ok (.lsub, 1) := by decide +kernel
theorem dX1_bits_108 : decode cX1_bits 108 = .ok (.lstore 6, 2) := by decide +kernel
theorem dX1_bits_110 : decode cX1_bits 110 = .ok (.dload_n 0, 1) := by decide +kernel
theorem dX1_bits_111 : decode cX1_bits 111 = .ok (.dconst 0, 1) := by decide +kernel
theorem dX1_bits_112 : decode cX1_bits 112 = .ok (.dcmp .g, 1) := by decide +kernel
theorem dX1_bits_113 : decode cX1_bits 113 = .ok (.ifCond .ge 9, 3) := by decide +kernel
theorem dX1_bits_116 : decode cX1_bits 116 = .ok (.ldc2_w 31, 3) := by decide +kernel
theorem dX1_bits_119 : decode cX1_bits 119 = .ok (.goto 4, 3) := by decide +kernel
theorem dX1_bits_122 : decode cX1_bits 122 = .ok (.lconst 0, 1) := by decide +kernel
theorem dX1_bits_123 : decode cX1_bits 123 = .ok (.lload 4, 2) := by decide +kernel
theorem dX1_bits_125 : decode cX1_bits 125 = .ok (.bipush 52, 2) := by decide +kernel
theorem dX1_bits_127 : decode cX1_bits 127 = .ok (.lshl, 1) := by decide +kernel
theorem dX1_bits_128 : decode cX1_bits 128 = .ok (.ladd, 1) := by decide +kernel
theorem dX1_bits_129 : decode cX1_bits 129 = .ok (.lload 6, 2) := by decide +kernel
theorem dX1_bits_131 : decode cX1_bits 131 = .ok (.ladd, 1) := by decide +kernel
theorem dX1_bits_132 : decode cX1_bits 132 = .ok (.lreturn, 1) := by decide +kernel
theorem dX2_init_0 : decode cX2_init 0 = .ok (.aload_n 0, 1) := by decide +kernel
theorem dX2_init_1 : decode cX2_init 1 = .ok (.invokespecial 1, 3) := by decide +kernel
theorem dX2_init_4 : decode cX2_init 4 = .ok (.aload_n 0, 1) := by decide +kernel
theorem dX2_init_5 : decode cX2_init 5 = .ok (.iconst 0, 1) := by decide +kernel
theorem dX2_init_6 : decode cX2_init 6 = .ok (.putfield 7, 3) := by decide +kernel
theorem dX2_init_9 : decode cX2_init 9 = .ok (.aload_n 0, 1) := by decide +kernel
theorem dX2_init_10 : decode cX2_init 10 = .ok (.sipush 300, 3) := by decide +kernel
theorem dX2_init_13 : decode cX2_init 13 = .ok (.putfield 13, 3) := by decide +kernel
theorem dX2_init_16 : decode cX2_init 16 = .ok (.aload_n 0, 1) := by decide +kernel
theorem dX2_init_17 : decode cX2_init 17 = .ok (.sipush 300, 3) := by decide +kernel
theorem dX2_init_20 : decode cX2_init 20 = .ok (.putfield 16, 3) := by decide +kernel
theorem dX2_init_23 : decode cX2_init 23 = .ok (.aload_n 0, 1) := by decide +kernel
theorem dX2_init_24 : decode cX2_init 24 = .ok (.iconst 0, 1) := by decide +kernel
theorem dX2_init_25 : decode cX2_init 25 = .ok (.putfield 19, 3) := by decide +kernel
theorem dX2_init_28 : decode cX2_init 28 = .ok (.aload_n 0, 1) := by decide +kernel
theorem dX2_init_29 : decode cX2_init 29 = .ok (.iconst 0, 1) := by decide +kernel
theorem dX2_init_30 : decode cX2_init 30 = .ok (.putfield 22, 3) := by decide +kernel
theorem dX2_init_33 : decode cX2_init 33 = .ok (.aload_n 0, 1) := by decide +kernel
theorem dX2_init_34 : decode cX2_init 34 = .ok (.sipush 400, 3) := by decide +kernel
theorem dX2_init_37 : decode cX2_init 37 = .ok (.putfield 25, 3) := by decide +kernel
theorem dX2_init_40 : decode cX2_init 40 = .ok (.aload_n 0, 1) := by decide +kernel
theorem dX2_init_41 : decode cX2_init 41 = .ok (.sipush 300, 3) := by decide +kernel
theorem dX2_init_44 : decode cX2_init 44 = .ok (.putfield 28, 3) := by decide +kernel
theorem dX2_init_47 : decode cX2_init 47 = .ok (.aload_n 0, 1) := by decide +kernel
theorem dX2_init_48 : decode cX2_init 48 = .ok (.iconst 1, 1) := by decide +kernel
theorem dX2_init_49 : decode cX2_init 49 = .ok (.putfield 31, 3) := by decide +kernel
theorem dX2_init_52 : decode cX2_init 52 = .ok (.aload_n 0, 1) := by decide +kernel
theorem dX2_init_53 : decode cX2_init 53 = .ok (.bipush (-100), 2) := by decide +kernel
theorem dX2_init_55 : decode cX2_init 55 = .ok (.putfield 34, 3) := by decide +kernel
theorem dX2_init_58 : decode cX2_init 58 = .ok (.aload_n 0, 1) := by decide +kernel
theorem dX2_init_59 : decode cX2_init 59 = .ok (.bipush 100, 2) := by decide +kernel
theorem dX2_init_61 : decode cX2_init 61 = .ok (.putfield 37, 3) := by decide +kernel
theorem dX2_init_64 : decode cX2_init 64 = .ok (.aload_n 0, 1) := by decide +kernel
theorem dX2_init_65 : decode cX2_init 65 = .ok (.iconst 0, 1) := by decide +kernel
theorem dX2_init_66 : decode cX2_init 66 = .ok (.putfield 40, 3) := by decide +kernel
theorem dX2_init_69 : decode cX2_init 69 = .ok (.aload_n 0, 1) := by decide +kernel
theorem dX2_init_70 : decode cX2_init 70 = .ok (.sipush 500, 3) := by decide +kernel
theorem dX2_init_73 : decode cX2_init 73 = .ok (.putfield 43, 3) := by decide +kernel
theorem dX2_init_76 : decode cX2_init 76 = .ok (.aload_n 0, 1) := by decide +kernel
theorem dX2_init_77 : decode cX2_init 77 = .ok (.sipush 500, 3) := by decide +kernel
theorem dX2_init_80 : decode cX2_init 80 = .ok (.putfield 46, 3) := by decide +kernel
theorem dX2_init_83 : decode cX2_init 83 = .ok (.return_, 1) := by decide +kernel
theorem dX2_setUpperArm_0 : decode cX2_setUpperArm 0 = .ok (.aload_n 0, 1) := by decide +kernel
theorem dX2_setUpperArm_1 : decode cX2_setUpperArm 1 = .ok (.iload_n 1, 1) := by decide +kernel
theorem dX2_setUpperArm_2 : decode cX2_setUpperArm 2 = .ok (.putfield 7, 3) := by decide +kernel
theorem dX2_setUpperArm_5 : decode cX2_setUpperArm 5 = .ok (.aload_n 0, 1) := by decide +kernel
theorem dX2_setUpperArm_6 : decode cX2_setUpperArm 6 = .ok (.iload_n 2, 1) := by decide +kernel
theorem dX2_setUpperArm_7 : decode cX2_setUpperArm 7 = .ok (.putfield 13, 3) := by decide +kernel
theorem dX2_setUpperArm_10 : decode cX2_setUpperArm 10 = .ok (.aload_n 0, 1) := by decide +kernel
theorem dX2_setUpperArm_11 : decode cX2_setUpperArm 11 = .ok (.iload_n 3, 1) := by decide +kernel
theorem dX2_setUpperArm_12 : decode cX2_setUpperArm 12 = .ok (.putfield 16, 3) := by decide +kernel
theorem dX2_setUpperArm_15 : decode cX2_setUpperArm 15 = .ok (.return_, 1) := by decide +kernel
theorem dX2_setLowerArm_0 : decode cX2_setLowerArm 0 = .ok (.aload_n 0, 1) := by decide +kernel
theorem dX2_setLowerArm_1 : decode cX2_setLowerArm 1 = .ok (.iload_n 1, 1) := by decide +kernel
theorem dX2_setLowerArm_2 : decode cX2_setLowerArm 2 = .ok (.putfield 19, 3) := by decide +kernel
theorem dX2_setLowerArm_5 : decode cX2_setLowerArm 5 = .ok (.aload_n 0, 1) := by decide +kernel
theorem dX2_setLowerArm_6 : decode cX2_setLowerArm 6 = .ok (.iload_n 2, 1) := by decide +kernel
theorem dX2_setLowerArm_7 : decode cX2_setLowerArm 7 = .ok (.putfield 22, 3) := by decide +kernel
theorem dX2_setLowerArm_10 : decode cX2_setLowerArm 10 = .ok (.aload_n 0, 1) := by decide +kernel
theorem dX2_setLowerArm_11 : decode cX2_setLowerArm 11 = .ok (.iload_n 3, 1) := by decide +kernel
theorem dX2_setLowerArm_12 : decode cX2_setLowerArm 12 = .ok (.putfield 25, 3) := by decide +kernel
theorem dX2_setLowerArm_15 : decode cX2_setLowerArm 15 = .ok (.return_, 1) := by decide +kernel
theorem dX2_setUpright_0 : decode cX2_setUpright 0 = .ok (.aload_n 0, 1) := by decide +kernel
theorem dX2_setUpright_1 : decode cX2_setUpright 1 = .ok (.iload_n 1, 1) := by decide +kernel
theorem dX2_setUpright_2 : decode cX2_setUpright 2 = .ok (.putfield 28, 3) := by decide +kernel
theorem dX2_setUpright_5 : decode cX2_setUpright 5 = .ok (.aload_n 0, 1) := by decide +kernel
theorem dX2_setUpright_6 : decode cX2_setUpright 6 = .ok (.iload_n 2, 1) := by decide +kernel
theorem dX2_setUpright_7 : decode cX2_setUpright 7 = .ok (.putfield 31, 3) := by decide +kernel
theorem dX2_setUpright_10 : decode cX2_setUpright 10 = .ok (.return_, 1) := by decide +kernel
theorem dX2_setRoadPoint_0 : decode cX2_setRoadPoint 0 = .ok (.aload_n 0, 1) := by decide +kernel
theorem dX2_setRoadPoint_1 : decode cX2_setRoadPoint 1 = .ok (.iload_n 1, 1) := by decide +kernel
theorem dX2_setRoadPoint_2 : decode cX2_setRoadPoint 2 = .ok (.putfield 34, 3) := by decide +kernel
theorem dX2_setRoadPoint_5 : decode cX2_setRoadPoint 5 = .ok (.aload_n 0, 1) := by decide +kernel
theorem dX2_setRoadPoint_6 : decode cX2_setRoadPoint 6 = .ok (.iload_n 2, 1) := by decide +kernel
theorem dX2_setRoadPoint_7 : decode cX2_setRoadPoint 7 = .ok (.putfield 37, 3) := by decide +kernel
theorem dX2_setRoadPoint_10 : decode cX2_setRoadPoint 10 = .ok (.return_, 1) := by decide +kernel
theorem dX2_setSpring_0 : decode cX2_setSpring 0 = .ok (.aload_n 0, 1) := by decide +kernel
theorem dX2_setSpring_1 : decode cX2_setSpring 1 = .ok (.iload_n 1, 1) := by decide +kernel
theorem dX2_setSpring_2 : decode cX2_setSpring 2 = .ok (.putfield 40, 3) := by decide +kernel
theorem dX2_setSpring_5 : decode cX2_setSpring 5 = .ok (.aload_n 0, 1) := by decide +kernel
theorem dX2_setSpring_6 : decode cX2_setSpring 6 = .ok (.iload_n 2, 1) := by decide +kernel
theorem dX2_setSpring_7 : decode cX2_setSpring 7 = .ok (.putfield 43, 3) := by decide +kernel
theorem dX2_setSpring_10 : decode cX2_setSpring 10 = .ok (.aload_n 0, 1) := by decide +kernel
theorem dX2_setSpring_11 : decode cX2_setSpring 11 = .ok (.iload_n 3, 1) := by decide +kernel
theorem dX2_setSpring_12 : decode cX2_setSpring 12 = .ok (.putfield 46, 3) := by decide +kernel
theorem dX2_setSpring_15 : decode cX2_setSpring 15 = .ok (.return_, 1) := by decide +kernel
set_option maxRecDepth 20000 in
theorem ggX2_becomeMirrorOf_X2_setUpperArm : GoodIn wsX2_becomeMirrorOf wsX2_setUpperArm := goodIn_r _ [18, 1, 2, 3, 35, 36, 37, 38, 39, 40, 41, 42, 43, 44, 45, 46, 47] (by decide +kernel) (by decide +kernel)
set_option maxRecDepth 20000 in
theorem gX2_becomeMirrorOf_X2_setUpperArm : GoodIn wsX2_becomeMirrorOf (wsV RX2 49 RX2 yX2_setUpperArm wsX2_setUpperArm) := goodIn_app (goodIn_of _ (by decide +kernel)) ggX2_becomeMirrorOf_X2_setUpperArm
set_option maxRecDepth 20000 in
theorem ggX2_becomeMirrorOf_X2_setLowerArm : GoodIn wsX2_becomeMirrorOf wsX2_setLowerArm := goodIn_r _ [22, 4, 5, 6, 35, 36, 37, 38, 39, 40, 41, 42, 43, 44, 45, 46, 47] (by decide +kernel) (by decide +kernel)
set_option maxRecDepth 20000 in
theorem gX2_becomeMirrorOf_X2_setLowerArm : GoodIn wsX2_becomeMirrorOf (wsV RX2 53 RX2 yX2_setLowerArm wsX2_setLowerArm) := goodIn_app (goodIn_of _ (by decide +kernel)) ggX2_becomeMirrorOf_X2_setLowerArm
set_option maxRecDepth 20000 in
theorem ggX2_becomeMirrorOf_X2_setUpright : GoodIn wsX2_becomeMirrorOf wsX2_setUpright := goodIn_r _ [26, 7, 8, 35, 36, 37, 38, 39, 40, 41, 42, 43, 44, 45, 46, 47] (by decide +kernel) (by decide +kernel)
set_option maxRecDepth 20000 in
theorem gX2_becomeMirrorOf_X2_setUpright : GoodIn wsX2_becomeMirrorOf (wsV RX2 56 RX2 yX2_setUpright wsX2_setUpright) := goodIn_app (goodIn_of _ (by decide +kernel)) ggX2_becomeMirrorOf_X2_setUpright
set_option maxRecDepth 20000 in
theorem ggX2_becomeMirrorOf_X2_setRoadPoint : GoodIn wsX2_becomeMirrorOf wsX2_setRoadPoint := goodIn_r _ [30, 9, 10, 35, 36, 37, 38, 39, 40, 41, 42, 43, 44, 45, 46, 47] (by decide +kernel) (by decide +kernel)
set_option maxRecDepth 20000 in
theorem gX2_becomeMirrorOf_X2_setRoadPoint : GoodIn wsX2_becomeMirrorOf (wsV RX2 60 RX2 yX2_setRoadPoint wsX2_setRoadPoint) := goodIn_app (goodIn_of _ (by decide +kernel)) ggX2_becomeMirrorOf_X2_setRoadPoint
set_option maxRecDepth 20000 in
theorem ggX2_becomeMirrorOf_X2_setSpring : GoodIn wsX2_becomeMirrorOf wsX2_setSpring := goodIn_r _ [34, 11, 12, 13, 35, 36, 37, 38, 39, 40, 41, 42, 43, 44, 45, 46, 47] (by decide +kernel) (by decide +kernel)
set_option maxRecDepth 20000 in
theorem gX2_becomeMirrorOf_X2_setSpring : GoodIn wsX2_becomeMirrorOf (wsV RX2 63 RX2 yX2_setSpring wsX2_setSpring) := goodIn_app (goodIn_of _ (by decide +kernel)) ggX2_becomeMirrorOf_X2_setSpring
theorem dX2_becomeMirrorOf_0 : decode cX2_becomeMirrorOf 0 = .ok (.aload_n 0, 1) := by decide +kernel
theorem dX2_becomeMirrorOf_1 : decode cX2_becomeMirrorOf 1 = .ok (.aload_n 1, 1) := by decide +kernel
theorem dX2_becomeMirrorOf_2 : decode cX2_becomeMirrorOf 2 = .ok (.getfield 7, 3) := by decide +kernel
theorem dX2_becomeMirrorOf_5 : decode cX2_becomeMirrorOf 5 = .ok (.ineg, 1) := by decide +kernel
theorem dX2_becomeMirrorOf_6 : decode cX2_becomeMirrorOf 6 = .ok (.aload_n 1, 1) := by decide +kernel
theorem dX2_becomeMirrorOf_7 : decode cX2_becomeMirrorOf 7 = .ok (.getfield 13, 3) := by decide +kernel
theorem dX2_becomeMirrorOf_10 : decode cX2_becomeMirrorOf 10 = .ok (.aload_n 1, 1) := by decide +kernel
theorem dX2_becomeMirrorOf_11 : decode cX2_becomeMirrorOf 11 = .ok (.getfield 16, 3) := by decide +kernel
theorem dX2_becomeMirrorOf_14 : decode cX2_becomeMirrorOf 14 = .ok (.invokevirtual 49, 3) := by decide +kernel
theorem dX2_becomeMirrorOf_17 : decode cX2_becomeMirrorOf 17 = .ok (.aload_n 0, 1) := by decide +kernel
theorem dX2_becomeMirrorOf_18 : decode cX2_becomeMirrorOf 18 = .ok (.aload_n 1, 1) := by decide +kernel
theorem dX2_becomeMirrorOf_19 : decode cX2_becomeMirrorOf 19 = .ok (.getfield 19, 3) := by decide +kernel
theorem dX2_becomeMirrorOf_22 : decode cX2_becomeMirrorOf 22 = .ok (.ineg, 1) := by decide +kernel
theorem dX2_becomeMirrorOf_23 : decode cX2_becomeMirrorOf 23 = .ok (.aload_n 1, 1) := by decide +kernel
theorem dX2_becomeMirrorOf_24 : decode cX2_becomeMirrorOf 24 = .ok (.getfield 22, 3) := by decide +kernel
theorem dX2_becomeMirrorOf_27 : decode cX2_becomeMirrorOf 27 = .ok (.aload_n 1, 1) := by decide +kernel
theorem dX2_becomeMirrorOf_28 : decode cX2_becomeMirrorOf 28 = .ok (.getfield 25, 3) := by decide +kernel
theorem dX2_becomeMirrorOf_31 : decode cX2_becomeMirrorOf 31 = .ok (.invokevirtual 53, 3) := by decide +kernel
theorem dX2_becomeMirrorOf_34 : decode cX2_becomeMirrorOf 34 = .ok (.aload_n 0, 1) := by decide +kernel
theorem dX2_becomeMirrorOf_35 : decode cX2_becomeMirrorOf 35 = .ok (.aload_n 1, 1) := by decide +kernel
theorem dX2_becomeMirrorOf_36 : decode cX2_becomeMirrorOf 36 = .ok (.getfield 28, 3) := by decide +kernel
theorem dX2_becomeMirrorOf_39 : decode cX2_becomeMirrorOf 39 = .ok (.aload_n 1, 1) := by decide +kernel
theorem dX2_becomeMirrorOf_40 : decode cX2_becomeMirrorOf 40 = .ok (.getfield 31, 3) := by decide +kernel
theorem dX2_becomeMirrorOf_43 : decode cX2_becomeMirrorOf 43 = .ok (.ineg, 1) := by decide +kernel
theorem dX2_becomeMirrorOf_44 : decode cX2_becomeMirrorOf 44 = .ok (.invokevirtual 56, 3) := by decide +kernel
theorem dX2_becomeMirrorOf_47 : decode cX2_becomeMirrorOf 47 = .ok (.aload_n 0, 1) := by decide +kernel
theorem dX2_becomeMirrorOf_48 : decode cX2_becomeMirrorOf 48 = .ok (.aload_n 1, 1) := by decide +kernel
theorem dX2_becomeMirrorOf_49 : decode cX2_becomeMirrorOf 49 = .ok (.getfield 34, 3) := by decide +kernel
theorem dX2_becomeMirrorOf_52 : decode cX2_becomeMirrorOf 52 = .ok (.aload_n 1, 1) := by decide +kernel
theorem dX2_becomeMirrorOf_53 : decode cX2_becomeMirrorOf 53 = .ok (.getfield 37, 3) := by decide +kernel
theorem dX2_becomeMirrorOf_56 : decode cX2_becomeMirrorOf 56 = .ok (.invokevirtual 60, 3) := by decide +kernel
theorem dX2_becomeMirrorOf_59 : decode cX2_becomeMirrorOf 59 = .ok (.aload_n 0, 1) := by decide +kernel
theorem dX2_becomeMirrorOf_60 : decode cX2_becomeMirrorOf 60 = .ok (.aload_n 1, 1) := by decide +kernel
theorem dX2_becomeMirrorOf_61 : decode cX2_becomeMirrorOf 61 = .ok (.getfield 40, 3) := by decide +kernel
theorem dX2_becomeMirrorOf_64 : decode cX2_becomeMirrorOf 64 = .ok (.ineg, 1) := by decide +kernel
theorem dX2_becomeMirrorOf_65 : decode cX2_becomeMirrorOf 65 = .ok (.aload_n 1, 1) := by decide +kernel
theorem dX2_becomeMirrorOf_66 : decode cX2_becomeMirrorOf 66 = .ok (.getfield 43, 3) := by decide +kernel
theorem dX2_becomeMirrorOf_69 : decode cX2_becomeMirrorOf 69 = .ok (.aload_n 1, 1) := by decide +kernel
theorem dX2_becomeMirrorOf_70 : decode cX2_becomeMirrorOf 70 = .ok (.getfield 46, 3) := by decide +kernel
theorem dX2_becomeMirrorOf_73 : decode cX2_becomeMirrorOf 73 = .ok (.invokevirtual 63, 3) := by decide +kernel
theorem dX2_becomeMirrorOf_76 : decode cX2_becomeMirrorOf 76 = .ok (.return_, 1) := by decide +kernel
set_option maxRecDepth 20000 in
theorem ggX2_mixInto_X6_mix : GoodIn wsX2_mixInto wsX6_mix := goodIn_r _ [16, 17] (by decide +kernel) (by decide +kernel)
set_option maxRecDepth 20000 in
theorem gX2_mixInto_X6_mix_n66 : GoodIn wsX2_mixInto (wsX6_mix) := ggX2_mixInto_X6_mix
theorem dX2_mixInto_0 : decode cX2_mixInto 0 = .ok (.lload_n 1, 1) := by decide +kernel
theorem dX2_mixInto_1 : decode cX2_mixInto 1 = .ok (.aload_n 0, 1) := by decide +kernel
theorem dX2_mixInto_2 : decode cX2_mixInto 2 = .ok (.getfield 7, 3) := by decide +kernel
theorem dX2_mixInto_5 : decode cX2_mixInto 5 = .ok (.invokestatic 66, 3) := by decide +kernel
theorem dX2_mixInto_8 : decode cX2_mixInto 8 = .ok (.aload_n 0, 1) := by decide +kernel
theorem dX2_mixInto_9 : decode cX2_mixInto 9 = .ok (.getfield 13, 3) := by decide +kernel
theorem dX2_mixInto_12 : decode cX2_mixInto 12 = .ok (.invokestatic 66, 3) := by decide +kernel
theorem dX2_mixInto_15 : decode cX2_mixInto 15 = .ok (.aload_n 0, 1) := by decide +kernel
theorem dX2_mixInto_16 : decode cX2_mixInto 16 = .ok (.getfield 19, 3) := by decide +kernel
theorem dX2_mixInto_19 : decode cX2_mixInto 19 = .ok (.invokestatic 66, 3) := by decide +kernel
theorem dX2_mixInto_22 : decode cX2_mixInto 22 = .ok (.aload_n 0, 1) := by decide +kernel
theorem dX2_mixInto_23 : decode cX2_mixInto 23 = .ok (.getfield 22, 3) := by decide +kernel
theorem dX2_mixInto_26 : decode cX2_mixInto 26 = .ok (.invokestatic 66, 3) := by decide +kernel
theorem dX2_mixInto_29 : decode cX2_mixInto 29 = .ok (.lstore_n 3, 1) := by decide +kernel
theorem dX2_mixInto_30 : decode cX2_mixInto 30 = .ok (.lload_n 3, 1) := by decide +kernel
theorem dX2_mixInto_31 : decode cX2_mixInto 31 = .ok (.aload_n 0, 1) := by decide +kernel
theorem dX2_mixInto_32 : decode cX2_mixInto 32 = .ok (.getfield 16, 3) := by decide +kernel
theorem dX2_mixInto_35 : decode cX2_mixInto 35 = .ok (.invokestatic 66, 3) := by decide +kernel
theorem dX2_mixInto_38 : decode cX2_mixInto 38 = .ok (.aload_n 0, 1) := by decide +kernel
theorem dX2_mixInto_39 : decode cX2_mixInto 39 = .ok (.getfield 25, 3) := by decide +kernel
theorem dX2_mixInto_42 : decode cX2_mixInto 42 = .ok (.invokestatic 66, 3) := by decide +kernel
theorem dX2_mixInto_45 : decode cX2_mixInto 45 = .ok (.aload_n 0, 1) := by decide +kernel
theorem dX2_mixInto_46 : decode cX2_mixInto 46 = .ok (.getfield 28, 3) := by decide +kernel
theorem dX2_mixInto_49 : decode cX2_mixInto 49 = .ok (.invokestatic 66, 3) := by decide +kernel
theorem dX2_mixInto_52 : decode cX2_mixInto 52 = .ok (.aload_n 0, 1) := by decide +kernel
theorem dX2_mixInto_53 : decode cX2_mixInto 53 = .ok (.getfield 31, 3) := by decide +kernel
theorem dX2_mixInto_56 : decode cX2_mixInto 56 = .ok (.invokestatic 66, 3) := by decide +kernel
theorem dX2_mixInto_59 : decode cX2_mixInto 59 = .ok (.lstore_n 3, 1) := by decide +kernel
theorem dX2_mixInto_60 : decode cX2_mixInto 60 = .ok (.lload_n 3, 1) := by decide +kernel
theorem dX2_mixInto_61 : decode cX2_mixInto 61 = .ok (.aload_n 0, 1) := by decide +kernel
theorem dX2_mixInto_62 : decode cX2_mixInto 62 = .ok (.getfield 34, 3) := by decide +kernel
theorem dX2_mixInto_65 : decode cX2_mixInto 65 = .ok (.invokestatic 66, 3) := by decide +kernel
theorem dX2_mixInto_68 : decode cX2_mixInto 68 = .ok (.aload_n 0, 1) := by decide +kernel
theorem dX2_mixInto_69 : decode cX2_mixInto 69 = .ok (.getfield 37, 3) := by decide +kernel
theorem dX2_mixInto_72 : decode cX2_mixInto 72 = .ok (.invokestatic 66, 3) := by decide +kernel
theorem dX2_mixInto_75 : decode cX2_mixInto 75 = .ok (.lstore_n 3, 1) := by decide +kernel
theorem dX2_mixInto_76 : decode cX2_mixInto 76 = .ok (.lload_n 3, 1) := by decide +kernel
theorem dX2_mixInto_77 : decode cX2_mixInto 77 = .ok (.aload_n 0, 1) := by decide +kernel
theorem dX2_mixInto_78 : decode cX2_mixInto 78 = .ok (.getfield 40, 3) := by decide +kernel
theorem dX2_mixInto_81 : decode cX2_mixInto 81 = .ok (.invokestatic 66, 3) := by decide +kernel
theorem dX2_mixInto_84 : decode cX2_mixInto 84 = .ok (.aload_n 0, 1) := by decide +kernel
theorem dX2_mixInto_85 : decode cX2_mixInto 85 = .ok (.getfield 43, 3) := by decide +kernel
theorem dX2_mixInto_88 : decode cX2_mixInto 88 = .ok (.invokestatic 66, 3) := by decide +kernel
theorem dX2_mixInto_91 : decode cX2_mixInto 91 = .ok (.aload_n 0, 1) := by decide +kernel
theorem dX2_mixInto_92 : decode cX2_mixInto 92 = .ok (.getfield 46, 3) := by decide +kernel
theorem dX2_mixInto_95 : decode cX2_mixInto 95 = .ok (.invokestatic 66, 3) := by decide +kernel
theorem dX2_mixInto_98 : decode cX2_mixInto 98 = .ok (.lreturn, 1) := by decide +kernel
theorem dX3_init_0 : decode cX3_init 0 = .ok (.aload_n 0, 1) := by decide +kernel
theorem dX3_init_1 : decode cX3_init 1 = .ok (.invokespecial 3, 3) := by decide +kernel
theorem dX3_init_4 : decode cX3_init 4 = .ok (.aload_n 0, 1) := by decide +kernel
theorem dX3_init_5 : decode cX3_init 5 = .ok (.bipush 12, 2) := by decide +kernel
theorem dX3_init_7 : decode cX3_init 7 = .ok (.newarray .int, 2) := by decide +kernel
theorem dX3_init_9 : decode cX3_init 9 = .ok (.putfield 11, 3) := by decide +kernel
theorem dX3_init_12 : decode cX3_init 12 = .ok (.aload_n 0, 1) := by decide +kernel
theorem dX3_init_13 : decode cX3_init 13 = .ok (.bipush 12, 2) := by decide +kernel
theorem dX3_init_15 : decode cX3_init 15 = .ok (.newarray .int, 2) := by decide +kernel
theorem dX3_init_17 : decode cX3_init 17 = .ok (.putfield 15, 3) := by decide +kernel
theorem dX3_init_20 : decode cX3_init 20 = .ok (.aload_n 0, 1) := by decide +kernel
theorem dX3_init_21 : decode cX3_init 21 = .ok (.iconst 0, 1) := by decide +kernel
theorem dX3_init_22 : decode cX3_init 22 = .ok (.putfield 18, 3) := by decide +kernel
theorem dX3_init_25 : decode cX3_init 25 = .ok (.return_, 1) := by decide +kernel
theorem dX3_add_0 : decode cX3_add 0 = .ok (.aload_n 0, 1) := by decide +kernel
theorem dX3_add_1 : decode cX3_add 1 = .ok (.getfield 18, 3) := by decide +kernel
theorem dX3_add_4 : decode cX3_add 4 = .ok (.bipush 12, 2) := by decide +kernel
theorem dX3_add_6 : decode cX3_add 6 = .ok (.if_icmp .lt 6, 3) := by decide +kernel
theorem dX3_add_9 : decode cX3_add 9 = .ok (.bipush (-4), 2) := by decide +kernel
theorem dX3_add_11 : decode cX3_add 11 = .ok (.ireturn, 1) := by decide +kernel
theorem dX3_add_12 : decode cX3_add 12 = .ok (.aload_n 0, 1) := by decide +kernel
theorem dX3_add_13 : decode cX3_add 13 = .ok (.getfield 11, 3) := by decide +kernel
theorem dX3_add_16 : decode cX3_add 16 = .ok (.aload_n 0, 1) := by decide +kernel
theorem dX3_add_17 : decode cX3_add 17 = .ok (.getfield 18, 3) := by decide +kernel
theorem dX3_add_20 : decode cX3_add 20 = .ok (.iload_n 1, 1) := by decide +kernel
theorem dX3_add_21 : decode cX3_add 21 = .ok (.iastore, 1) := by decide +kernel
theorem dX3_add_22 : decode cX3_add 22 = .ok (.aload_n 0, 1) := by decide +kernel
theorem dX3_add_23 : decode cX3_add 23 = .ok (.getfield 15, 3) := by decide +kernel
theorem dX3_add_26 : decode cX3_add 26 = .ok (.aload_n 0, 1) := by decide +kernel
theorem dX3_add_27 : decode cX3_add 27 = .ok (.getfield 18, 3) := by decide +kernel
theorem dX3_add_30 : decode cX3_add 30 = .ok (.iload_n 2, 1) := by decide +kernel
theorem dX3_add_31 : decode cX3_add 31 = .ok (.iastore, 1) := by decide +kernel
theorem dX3_add_32 : decode cX3_add 32 = .ok (.aload_n 0, 1) := by decide +kernel
theorem dX3_add_33 : decode cX3_add 33 = .ok (.dup, 1) := by decide +kernel
theorem dX3_add_34 : decode cX3_add 34 = .ok (.getfield 18, 3) := by decide +kernel
theorem dX3_add_37 : decode cX3_add 37 = .ok (.iconst 1, 1) := by decide +kernel
theorem dX3_add_38 : decode cX3_add 38 = .ok (.iadd, 1) := by decide +kernel
theorem dX3_add_39 : decode cX3_add 39 = .ok (.putfield 18, 3) := by decide +kernel
theorem dX3_add_42 : decode cX3_add 42 = .ok (.aload_n 0, 1) := by decide +kernel
theorem dX3_add_43 : decode cX3_add 43 = .ok (.getfield 18, 3) := by decide +kernel
theorem dX3_add_46 : decode cX3_add 46 = .ok (.iconst 1, 1) := by decide +kernel
theorem dX3_add_47 : decode cX3_add 47 = .ok (.isub, 1) := by decide +kernel
theorem dX3_add_48 : decode cX3_add 48 = .ok (.ireturn, 1) := by decide +kernel
set_option maxRecDepth 20000 in
theorem ggX3_mixInto_X6_mix : GoodIn wsX3_mixInto wsX6_mix := goodIn_r _ [6, 7] (by decide +kernel) (by decide +kernel)
set_option maxRecDepth 20000 in
theorem gX3_mixInto_X6_mix_n22 : GoodIn wsX3_mixInto (wsX6_mix) := ggX3_mixInto_X6_mix
theorem dX3_mixInto_0 : decode cX3_mixInto 0 = .ok (.lload_n 1, 1) := by decide +kernel
theorem dX3_mixInto_1 : decode cX3_mixInto 1 = .ok (.lstore_n 3, 1) := by decide +kernel
theorem dX3_mixInto_2 : decode cX3_mixInto 2 = .ok (.iconst 0, 1) := by decide +kernel
theorem dX3_mixInto_3 : decode cX3_mixInto 3 = .ok (.istore 5, 2) := by decide +kernel
theorem dX3_mixInto_5 : decode cX3_mixInto 5 = .ok (.iload 5, 2) := by decide +kernel
theorem dX3_mixInto_7 : decode cX3_mixInto 7 = .ok (.aload_n 0, 1) := by decide +kernel
theorem dX3_mixInto_8 : decode cX3_mixInto 8 = .ok (.getfield 18, 3) := by decide +kernel
theorem dX3_mixInto_11 : decode cX3_mixInto 11 = .ok (.if_icmp .ge 31, 3) := by decide +kernel
theorem dX3_mixInto_14 : decode cX3_mixInto 14 = .ok (.lload_n 3, 1) := by decide +kernel
theorem dX3_mixInto_15 : decode cX3_mixInto 15 = .ok (.aload_n 0, 1) := by decide +kernel
theorem dX3_mixInto_16 : decode cX3_mixInto 16 = .ok (.getfield 11, 3) := by decide +kernel
theorem dX3_mixInto_19 : decode cX3_mixInto 19 = .ok (.iload 5, 2) := by decide +kernel
theorem dX3_mixInto_21 : decode cX3_mixInto 21 = .ok (.iaload, 1) := by decide +kernel
theorem dX3_mixInto_22 : decode cX3_mixInto 22 = .ok (.invokestatic 22, 3) := by decide +kernel
theorem dX3_mixInto_25 : decode cX3_mixInto 25 = .ok (.aload_n 0, 1) := by decide +kernel
theorem dX3_mixInto_26 : decode cX3_mixInto 26 = .ok (.getfield 15, 3) := by decide +kernel
theorem dX3_mixInto_29 : decode cX3_mixInto 29 = .ok (.iload 5, 2) := by decide +kernel
theorem dX3_mixInto_31 : decode cX3_mixInto 31 = .ok (.iaload, 1) := by decide +kernel
theorem dX3_mixInto_32 : decode cX3_mixInto 32 = .ok (.invokestatic 22, 3) := by decide +kernel
theorem dX3_mixInto_35 : decode cX3_mixInto 35 = .ok (.lstore_n 3, 1) := by decide +kernel
theorem dX3_mixInto_36 : decode cX3_mixInto 36 = .ok (.iinc 5 1, 3) := by decide +kernel
theorem dX3_mixInto_39 : decode cX3_mixInto 39 = .ok (.goto (-34), 3) := by decide +kernel
theorem dX3_mixInto_42 : decode cX3_mixInto 42 = .ok (.lload_n 3, 1) := by decide +kernel
theorem dX3_mixInto_43 : decode cX3_mixInto 43 = .ok (.lreturn, 1) := by decide +kernel
theorem dX4_init_0 : decode cX4_init 0 = .ok (.aload_n 0, 1) := by decide +kernel
theorem dX4_init_1 : decode cX4_init 1 = .ok (.invokespecial 3, 3) := by decide +kernel
theorem dX4_init_4 : decode cX4_init 4 = .ok (.aload_n 0, 1) := by decide +kernel
theorem dX4_init_5 : decode cX4_init 5 = .ok (.bipush 10, 2) := by decide +kernel
theorem dX4_init_7 : decode cX4_init 7 = .ok (.newarray .int, 2) := by decide +kernel
theorem dX4_init_9 : decode cX4_init 9 = .ok (.putfield 11, 3) := by decide +kernel
theorem dX4_init_12 : decode cX4_init 12 = .ok (.aload_n 0, 1) := by decide +kernel
theorem dX4_init_13 : decode cX4_init 13 = .ok (.iconst 0, 1) := by decide +kernel
theorem dX4_init_14 : decode cX4_init 14 = .ok (.putfield 15, 3) := by decide +kernel
theorem dX4_init_17 : decode cX4_init 17 = .ok (.return_, 1) := by decide +kernel
theorem dX4_add_0 : decode cX4_add 0 = .ok (.aload_n 0, 1) := by decide +kernel
theorem dX4_add_1 : decode cX4_add 1 = .ok (.getfield 15, 3) := by decide +kernel
theorem dX4_add_4 : decode cX4_add 4 = .ok (.bipush 10, 2) := by decide +kernel
theorem dX4_add_6 : decode cX4_add 6 = .ok (.if_icmp .lt 6, 3) := by decide +kernel
theorem dX4_add_9 : decode cX4_add 9 = .ok (.bipush (-4), 2) := by decide +kernel
theorem dX4_add_11 : decode cX4_add 11 = .ok (.ireturn, 1) := by decide +kernel
theorem dX4_add_12 : decode cX4_add 12 = .ok (.aload_n 0, 1) := by decide +kernel
theorem dX4_add_13 : decode cX4_add 13 = .ok (.getfield 11, 3) := by decide +kernel
theorem dX4_add_16 : decode cX4_add 16 = .ok (.aload_n 0, 1) := by decide +kernel
theorem dX4_add_17 : decode cX4_add 17 = .ok (.getfield 15, 3) := by decide +kernel
theorem dX4_add_20 : decode cX4_add 20 = .ok (.iload_n 1, 1) := by decide +kernel
theorem dX4_add_21 : decode cX4_add 21 = .ok (.iastore, 1) := by decide +kernel
theorem dX4_add_22 : decode cX4_add 22 = .ok (.aload_n 0, 1) := by decide +kernel
theorem dX4_add_23 : decode cX4_add 23 = .ok (.dup, 1) := by decide +kernel
theorem dX4_add_24 : decode cX4_add 24 = .ok (.getfield 15, 3) := by decide +kernel
theorem dX4_add_27 : decode cX4_add 27 = .ok (.iconst 1, 1) := by decide +kernel
theorem dX4_add_28 : decode cX4_add 28 = .ok (.iadd, 1) := by decide +kernel
theorem dX4_add_29 : decode cX4_add 29 = .ok (.putfield 15, 3) := by decide +kernel
theorem dX4_add_32 : decode cX4_add 32 = .ok (.aload_n 0, 1) := by decide +kernel
theorem dX4_add_33 : decode cX4_add 33 = .ok (.getfield 15, 3) := by decide +kernel
theorem dX4_add_36 : decode cX4_add 36 = .ok (.iconst 1, 1) := by decide +kernel
theorem dX4_add_37 : decode cX4_add 37 = .ok (.isub, 1) := by decide +kernel
theorem dX4_add_38 : decode cX4_add 38 = .ok (.ireturn, 1) := by decide +kernel
set_option maxRecDepth 20000 in
theorem ggX4_nearestSet_J6_bitCount_0f7a4 : GoodIn wsX4_nearestSet wsJ6_bitCount_0f7a4 := goodIn_r _ [9, 10, 11, 12] (by decide +kernel) (by decide +kernel)
set_option maxRecDepth 20000 in
theorem gX4_nearestSet_J6_bitCount_0f7a4 : GoodIn wsX4_nearestSet (va_wsS RX4 19 yJ6_bitCount_0f7a4 wsJ6_bitCount_0f7a4) := goodIn_app (goodIn_of _ (by decide +kernel)) ggX4_nearestSet_J6_bitCount_0f7a4
set_option maxRecDepth 20000 in
theorem ggX4_nearestSet_X4_sumOf : GoodIn wsX4_nearestSet wsX4_sumOf := goodIn_r _ [17, 1, 18, 19, 20] (by decide +kernel) (by decide +kernel)
set_option maxRecDepth 20000 in
theorem gX4_nearestSet_X4_sumOf : GoodIn wsX4_nearestSet (wsV RX4 25 RX4 yX4_sumOf wsX4_sumOf) := goodIn_app (goodIn_of _ (by decide +kernel)) ggX4_nearestSet_X4_sumOf
theorem dX4_nearestSet_0 : decode cX4_nearestSet 0 = .ok (.iconst 0, 1) := by decide +kernel
theorem dX4_nearestSet_1 : decode cX4_nearestSet 1 = .ok (.istore_n 3, 1) := by decide +kernel
theorem dX4_nearestSet_2 : decode cX4_nearestSet 2 = .ok (.iload_n 1, 1) := by decide +kernel
theorem dX4_nearestSet_3 : decode cX4_nearestSet 3 = .ok (.istore 4, 2) := by decide +kernel
theorem dX4_nearestSet_5 : decode cX4_nearestSet 5 = .ok (.iconst 0, 1) := by decide +kernel
theorem dX4_nearestSet_6 : decode cX4_nearestSet 6 = .ok (.istore 5, 2) := by decide +kernel
theorem dX4_nearestSet_8 : decode cX4_nearestSet 8 = .ok (.iconst 1, 1) := by decide +kernel
theorem dX4_nearestSet_9 : decode cX4_nearestSet 9 = .ok (.istore 6, 2) := by decide +kernel
theorem dX4_nearestSet_11 : decode cX4_nearestSet 11 = .ok (.iload 6, 2) := by decide +kernel
theorem dX4_nearestSet_13 : decode cX4_nearestSet 13 = .ok (.iconst 1, 1) := by decide +kernel
theorem dX4_nearestSet_14 : decode cX4_nearestSet 14 = .ok (.aload_n 0, 1) := by decide +kernel
theorem dX4_nearestSet_15 : decode cX4_nearestSet 15 = .ok (.getfield 15, 3) := by decide +kernel
theorem dX4_nearestSet_18 : decode cX4_nearestSet 18 = .ok (.ishl, 1) := by decide +kernel
theorem dX4_nearestSet_19 : decode cX4_nearestSet 19 = .ok (.if_icmp .ge 67, 3) := by decide +kernel
theorem dX4_nearestSet_22 : decode cX4_nearestSet 22 = .ok (.iload 6, 2) := by decide +kernel
theorem dX4_nearestSet_24 : decode cX4_nearestSet 24 = .ok (.invokestatic 19, 3) := by decide +kernel
theorem dX4_nearestSet_27 : decode cX4_nearestSet 27 = .ok (.istore 7, 2) := by decide +kernel
theorem dX4_nearestSet_29 : decode cX4_nearestSet 29 = .ok (.iload_n 1, 1) := by decide +kernel
theorem dX4_nearestSet_30 : decode cX4_nearestSet 30 = .ok (.aload_n 0, 1) := by decide +kernel
theorem dX4_nearestSet_31 : decode cX4_nearestSet 31 = .ok (.iload 6, 2) := by decide +kernel
theorem dX4_nearestSet_33 : decode cX4_nearestSet 33 = .ok (.invokevirtual 25, 3) := by decide +kernel
theorem dX4_nearestSet_36 : decode cX4_nearestSet 36 = .ok (.isub, 1) := by decide +kernel
theorem dX4_nearestSet_37 : decode cX4_nearestSet 37 = .ok (.invokestatic 28, 3) := by decide +kernel
theorem dX4_nearestSet_40 : decode cX4_nearestSet 40 = .ok (.istore 8, 2) := by decide +kernel
theorem dX4_nearestSet_42 : decode cX4_nearestSet 42 = .ok (.iload 7, 2) := by decide +kernel
theorem dX4_nearestSet_44 : decode cX4_nearestSet 44 = .ok (.iload_n 2, 1) := by decide +kernel
theorem dX4_nearestSet_45 : decode cX4_nearestSet 45 = .ok (.if_icmp .gt 35, 3) := by decide +kernel
theorem dX4_nearestSet_48 : decode cX4_nearestSet 48 = .ok (.iload 8, 2) := by decide +kernel
theorem dX4_nearestSet_50 : decode cX4_nearestSet 50 = .ok (.iload 4, 2) := by decide +kernel
theorem dX4_nearestSet_52 : decode cX4_nearestSet 52 = .ok (.if_icmp .lt 17, 3) := by decide +kernel
theorem dX4_nearestSet_55 : decode cX4_nearestSet 55 = .ok (.iload 8, 2) := by decide +kernel
theorem dX4_nearestSet_57 : decode cX4_nearestSet 57 = .ok (.iload 4, 2) := by decide +kernel
theorem dX4_nearestSet_59 : decode cX4_nearestSet 59 = .ok (.if_icmp .ne 21, 3) := by decide +kernel
theorem dX4_nearestSet_62 : decode cX4_nearestSet 62 = .ok (.iload 7, 2) := by decide +kernel
theorem dX4_nearestSet_64 : decode cX4_nearestSet 64 = .ok (.iload 5, 2) := by decide +kernel
theorem dX4_nearestSet_66 : decode cX4_nearestSet 66 = .ok (.if_icmp .ge 14, 3) := by decide +kernel
theorem dX4_nearestSet_69 : decode cX4_nearestSet 69 = .ok (.iload 6, 2) := by decide +kernel
theorem dX4_nearestSet_71 : decode cX4_nearestSet 71 = .ok (.istore_n 3, 1) := by decide +kernel
theorem dX4_nearestSet_72 : decode cX4_nearestSet 72 = .ok (.iload 8, 2) := by decide +kernel
theorem dX4_nearestSet_74 : decode cX4_nearestSet 74 = .ok (.istore 4, 2) := by decide +kernel
theorem dX4_nearestSet_76 : decode cX4_nearestSet 76 = .ok (.iload 7, 2) := by decide +kernel
theorem dX4_nearestSet_78 : decode cX4_nearestSet 78 = .ok (.istore 5, 2) := by decide +kernel
theorem dX4_nearestSet_80 : decode cX4_nearestSet 80 = .ok (.iinc 6 1, 3) := by decide +kernel
theorem dX4_nearestSet_83 : decode cX4_nearestSet 83 = .ok (.goto (-72), 3) := by decide +kernel
theorem dX4_nearestSet_86 : decode cX4_nearestSet 86 = .ok (.iload_n 3, 1) := by decide +kernel
theorem dX4_nearestSet_87 : decode cX4_nearestSet 87 = .ok (.ireturn, 1) := by decide +kernel
theorem dX4_sumOf_0 : decode cX4_sumOf 0 = .ok (.iconst 0, 1) := by decide +kernel
theorem dX4_sumOf_1 : decode cX4_sumOf 1 = .ok (.istore_n 2, 1) := by decide +kernel
theorem dX4_sumOf_2 : decode cX4_sumOf 2 = .ok (.iconst 0, 1) := by decide +kernel
theorem dX4_sumOf_3 : decode cX4_sumOf 3 = .ok (.istore_n 3, 1) := by decide +kernel
theorem dX4_sumOf_4 : decode cX4_sumOf 4 = .ok (.iload_n 3, 1) := by decide +kernel
theorem dX4_sumOf_5 : decode cX4_sumOf 5 = .ok (.aload_n 0, 1) := by decide +kernel
theorem dX4_sumOf_6 : decode cX4_sumOf 6 = .ok (.getfield 15, 3) := by decide +kernel
theorem dX4_sumOf_9 : decode cX4_sumOf 9 = .ok (.if_icmp .ge 31, 3) := by decide +kernel
theorem dX4_sumOf_12 : decode cX4_sumOf 12 = .ok (.iload_n 2, 1) := by decide +kernel
theorem dX4_sumOf_13 : decode cX4_sumOf 13 = .ok (.iload_n 1, 1) := by decide +kernel
theorem dX4_sumOf_14 : decode cX4_sumOf 14 = .ok (.iload_n 3, 1) := by decide +kernel
theorem dX4_sumOf_15 : decode cX4_sumOf 15 = .ok (.ishr, 1) := by decide +kernel
theorem dX4_sumOf_16 : decode cX4_sumOf 16 = .ok (.iconst 1, 1) := by decide +kernel
theorem dX4_sumOf_17 : decode cX4_sumOf 17 = .ok (.iand, 1) := by decide +kernel
theorem dX4_sumOf_18 : decode cX4_sumOf 18 = .ok (.iconst 1, 1) := by decide +kernel
theorem dX4_sumOf_19 : decode cX4_sumOf 19 = .ok (.if_icmp .ne 12, 3) := by decide +kernel
theorem dX4_sumOf_22 : decode cX4_sumOf 22 = .ok (.aload_n 0, 1) := by decide +kernel
theorem dX4_sumOf_23 : decode cX4_sumOf 23 = .ok (.getfield 11, 3) := by decide +kernel
theorem dX4_sumOf_26 : decode cX4_sumOf 26 = .ok (.iload_n 3, 1) := by decide +kernel
theorem dX4_sumOf_27 : decode cX4_sumOf 27 = .ok (.iaload, 1) := by decide +kernel
theorem dX4_sumOf_28 : decode cX4_sumOf 28 = .ok (.goto 4, 3) := by decide +kernel
theorem dX4_sumOf_31 : decode cX4_sumOf 31 = .ok (.iconst 0, 1) := by decide +kernel
theorem dX4_sumOf_32 : decode cX4_sumOf 32 = .ok (.iadd, 1) := by decide +kernel
theorem dX4_sumOf_33 : decode cX4_sumOf 33 = .ok (.istore_n 2, 1) := by decide +kernel
theorem dX4_sumOf_34 : decode cX4_sumOf 34 = .ok (.iinc 3 1, 3) := by decide +kernel
theorem dX4_sumOf_37 : decode cX4_sumOf 37 = .ok (.goto (-33), 3) := by decide +kernel
theorem dX4_sumOf_40 : decode cX4_sumOf 40 = .ok (.iload_n 2, 1) := by decide +kernel
theorem dX4_sumOf_41 : decode cX4_sumOf 41 = .ok (.ireturn, 1) := by decide +kernel
set_option maxRecDepth 20000 in
theorem ggX4_mixInto_X6_mix : GoodIn wsX4_mixInto wsX6_mix := goodIn_r _ [5, 6] (by decide +kernel) (by decide +kernel)
set_option maxRecDepth 20000 in
theorem gX4_mixInto_X6_mix_n33 : GoodIn wsX4_mixInto (wsX6_mix) := ggX4_mixInto_X6_mix
theorem dX4_mixInto_0 : decode cX4_mixInto 0 = .ok (.lload_n 1, 1) := by decide +kernel
theorem dX4_mixInto_1 : decode cX4_mixInto 1 = .ok (.lstore_n 3, 1) := by decide +kernel
theorem dX4_mixInto_2 : decode cX4_mixInto 2 = .ok (.iconst 0, 1) := by decide +kernel
theorem dX4_mixInto_3 : decode cX4_mixInto 3 = .ok (.istore 5, 2) := by decide +kernel
theorem dX4_mixInto_5 : decode cX4_mixInto 5 = .ok (.iload 5, 2) := by decide +kernel
theorem dX4_mixInto_7 : decode cX4_mixInto 7 = .ok (.aload_n 0, 1) := by decide +kernel
theorem dX4_mixInto_8 : decode cX4_mixInto 8 = .ok (.getfield 15, 3) := by decide +kernel
theorem dX4_mixInto_11 : decode cX4_mixInto 11 = .ok (.if_icmp .ge 21, 3) := by decide +kernel
theorem dX4_mixInto_14 : decode cX4_mixInto 14 = .ok (.lload_n 3, 1) := by decide +kernel
theorem dX4_mixInto_15 : decode cX4_mixInto 15 = .ok (.aload_n 0, 1) := by decide +kernel
theorem dX4_mixInto_16 : decode cX4_mixInto 16 = .ok (.getfield 11, 3) := by decide +kernel
theorem dX4_mixInto_19 : decode cX4_mixInto 19 = .ok (.iload 5, 2) := by decide +kernel
theorem dX4_mixInto_21 : decode cX4_mixInto 21 = .ok (.iaload, 1) := by decide +kernel
theorem dX4_mixInto_22 : decode cX4_mixInto 22 = .ok (.invokestatic 33, 3) := by decide +kernel
theorem dX4_mixInto_25 : decode cX4_mixInto 25 = .ok (.lstore_n 3, 1) := by decide +kernel
theorem dX4_mixInto_26 : decode cX4_mixInto 26 = .ok (.iinc 5 1, 3) := by decide +kernel
theorem dX4_mixInto_29 : decode cX4_mixInto 29 = .ok (.goto (-24), 3) := by decide +kernel
theorem dX4_mixInto_32 : decode cX4_mixInto 32 = .ok (.lload_n 3, 1) := by decide +kernel
theorem dX4_mixInto_33 : decode cX4_mixInto 33 = .ok (.lreturn, 1) := by decide +kernel
theorem dX5_init_0 : decode cX5_init 0 = .ok (.aload_n 0, 1) := by decide +kernel
theorem dX5_init_1 : decode cX5_init 1 = .ok (.invokespecial 1, 3) := by decide +kernel
theorem dX5_init_4 : decode cX5_init 4 = .ok (.return_, 1) := by decide +kernel
set_option maxRecDepth 20000 in
theorem ggX5_reach_X1_squareRoot : GoodIn wsX5_reach wsX1_squareRoot := goodIn_r _ [12, 13, 14, 15, 16, 11, 17, 18, 19, 20, 21, 22, 23] (by decide +kernel) (by decide +kernel)
set_option maxRecDepth 20000 in
theorem gX5_reach_X1_squareRoot_n27 : GoodIn wsX5_reach (wsX1_squareRoot) := ggX5_reach_X1_squareRoot
theorem dX5_reach_0 : decode cX5_reach 0 = .ok (.aload_n 1, 1) := by decide +kernel
theorem dX5_reach_1 : decode cX5_reach 1 = .ok (.getfield 7, 3) := by decide +kernel
theorem dX5_reach_4 : decode cX5_reach 4 = .ok (.aload_n 1, 1) := by decide +kernel
theorem dX5_reach_5 : decode cX5_reach 5 = .ok (.getfield 7, 3) := by decide +kernel
theorem dX5_reach_8 : decode cX5_reach 8 = .ok (.imul, 1) := by decide +kernel
theorem dX5_reach_9 : decode cX5_reach 9 = .ok (.iload 4, 2) := by decide +kernel
theorem dX5_reach_11 : decode cX5_reach 11 = .ok (.aload_n 1, 1) := by decide +kernel
theorem dX5_reach_12 : decode cX5_reach 12 = .ok (.getfield 13, 3) := by decide +kernel
theorem dX5_reach_15 : decode cX5_reach 15 = .ok (.isub, 1) := by decide +kernel
theorem dX5_reach_16 : decode cX5_reach 16 = .ok (.iload 4, 2) := by decide +kernel
theorem dX5_reach_18 : decode cX5_reach 18 = .ok (.aload_n 1, 1) := by decide +kernel
theorem dX5_reach_19 : decode cX5_reach 19 = .ok (.getfield 13, 3) := by decide +kernel
theorem dX5_reach_22 : decode cX5_reach 22 = .ok (.isub, 1) := by decide +kernel
theorem dX5_reach_23 : decode cX5_reach 23 = .ok (.imul, 1) := by decide +kernel
theorem dX5_reach_24 : decode cX5_reach 24 = .ok (.isub, 1) := by decide +kernel
theorem dX5_reach_25 : decode cX5_reach 25 = .ok (.istore 5, 2) := by decide +kernel
theorem dX5_reach_27 : decode cX5_reach 27 = .ok (.iload 5, 2) := by decide +kernel
theorem dX5_reach_29 : decode cX5_reach 29 = .ok (.ifCond .ge 5, 3) := by decide +kernel
theorem dX5_reach_32 : decode cX5_reach 32 = .ok (.iconst 0, 1) := by decide +kernel
theorem dX5_reach_33 : decode cX5_reach 33 = .ok (.ireturn, 1) := by decide +kernel
theorem dX5_reach_34 : decode cX5_reach 34 = .ok (.aload_n 0, 1) := by decide +kernel
theorem dX5_reach_35 : decode cX5_reach 35 = .ok (.iload_n 2, 1) := by decide +kernel
theorem dX5_reach_36 : decode cX5_reach 36 = .ok (.putfield 16, 3) := by decide +kernel
theorem dX5_reach_39 : decode cX5_reach 39 = .ok (.aload_n 0, 1) := by decide +kernel
theorem dX5_reach_40 : decode cX5_reach 40 = .ok (.iload_n 3, 1) := by decide +kernel
theorem dX5_reach_41 : decode cX5_reach 41 = .ok (.putfield 21, 3) := by decide +kernel
theorem dX5_reach_44 : decode cX5_reach 44 = .ok (.aload_n 0, 1) := by decide +kernel
theorem dX5_reach_45 : decode cX5_reach 45 = .ok (.aload_n 1, 1) := by decide +kernel
theorem dX5_reach_46 : decode cX5_reach 46 = .ok (.getfield 24, 3) := by decide +kernel
theorem dX5_reach_49 : decode cX5_reach 49 = .ok (.i2d, 1) := by decide +kernel
theorem dX5_reach_50 : decode cX5_reach 50 = .ok (.iload 5, 2) := by decide +kernel
theorem dX5_reach_52 : decode cX5_reach 52 = .ok (.i2d, 1) := by decide +kernel
theorem dX5_reach_53 : decode cX5_reach 53 = .ok (.invokestatic 27, 3) := by decide +kernel
theorem dX5_reach_56 : decode cX5_reach 56 = .ok (.dadd, 1) := by decide +kernel
theorem dX5_reach_57 : decode cX5_reach 57 = .ok (.putfield 33, 3) := by decide +kernel
theorem dX5_reach_60 : decode cX5_reach 60 = .ok (.aload_n 0, 1) := by decide +kernel
theorem dX5_reach_61 : decode cX5_reach 61 = .ok (.iload 4, 2) := by decide +kernel
theorem dX5_reach_63 : decode cX5_reach 63 = .ok (.i2d, 1) := by decide +kernel
theorem dX5_reach_64 : decode cX5_reach 64 = .ok (.putfield 37, 3) := by decide +kernel
theorem dX5_reach_67 : decode cX5_reach 67 = .ok (.aload_n 0, 1) := by decide +kernel
theorem dX5_reach_68 : decode cX5_reach 68 = .ok (.aload_n 0, 1) := by decide +kernel
theorem dX5_reach_69 : decode cX5_reach 69 = .ok (.getfield 16, 3) := by decide +kernel
theorem dX5_reach_72 : decode cX5_reach 72 = .ok (.i2d, 1) := by decide +kernel
theorem dX5_reach_73 : decode cX5_reach 73 = .ok (.aload_n 0, 1) := by decide +kernel
theorem dX5_reach_74 : decode cX5_reach 74 = .ok (.getfield 33, 3) := by decide +kernel
theorem dX5_reach_77 : decode cX5_reach 77 = .ok (.dsub, 1) := by decide +kernel
theorem dX5_reach_78 : decode cX5_reach 78 = .ok (.putfield 40, 3) := by decide +kernel
theorem dX5_reach_81 : decode cX5_reach 81 = .ok (.aload_n 0, 1) := by decide +kernel
theorem dX5_reach_82 : decode cX5_reach 82 = .ok (.aload_n 0, 1) := by decide +kernel
theorem dX5_reach_83 : decode cX5_reach 83 = .ok (.getfield 21, 3) := by decide +kernel
theorem dX5_reach_86 : decode cX5_reach 86 = .ok (.i2d, 1) := by decide +kernel
theorem dX5_reach_87 : decode cX5_reach 87 = .ok (.aload_n 0, 1) := by decide +kernel
theorem dX5_reach_88 : decode cX5_reach 88 = .ok (.getfield 37, 3) := by decide +kernel
theorem dX5_reach_91 : decode cX5_reach 91 = .ok (.dsub, 1) := by decide +kernel
theorem dX5_reach_92 : decode cX5_reach 92 = .ok (.putfield 43, 3) := by decide +kernel
theorem dX5_reach_95 : decode cX5_reach 95 = .ok (.aload_n 0, 1) := by decide +kernel
theorem dX5_reach_96 : decode cX5_reach 96 = .ok (.getfield 40, 3) := by decide +kernel
theorem dX5_reach_99 : decode cX5_reach 99 = .ok (.aload_n 0, 1) := by decide +kernel
theorem dX5_reach_100 : decode cX5_reach 100 = .ok (.getfield 40, 3) := by decide +kernel
theorem dX5_reach_103 : decode cX5_reach 103 = .ok (.dmul, 1) := by decide +kernel
theorem dX5_reach_104 : decode cX5_reach 104 = .ok (.aload_n 0, 1) := by decide +kernel
theorem dX5_reach_105 : decode cX5_reach 105 = .ok (.getfield 43, 3) := by decide +kernel
theorem dX5_reach_108 : decode cX5_reach 108 = .ok (.aload_n 0, 1) := by decide +kernel
theorem dX5_reach_109 : decode cX5_reach 109 = .ok (.getfield 43, 3) := by decide +kernel
theorem dX5_reach_112 : decode cX5_reach 112 = .ok (.dmul, 1) := by decide +kernel
theorem dX5_reach_113 : decode cX5_reach 113 = .ok (.dadd, 1) := by decide +kernel
theorem dX5_reach_114 : decode cX5_reach 114 = .ok (.dstore 6, 2) := by decide +kernel
theorem dX5_reach_116 : decode cX5_reach 116 = .ok (.dload 6, 2) := by decide +kernel
theorem dX5_reach_118 : decode cX5_reach 118 = .ok (.dconst 0, 1) := by decide +kernel
theorem dX5_reach_119 : decode cX5_reach 119 = .ok (.dcmp .l, 1) := by decide +kernel
theorem dX5_reach_120 : decode cX5_reach 120 = .ok (.ifCond .ne 5, 3) := by decide +kernel
theorem dX5_reach_123 : decode cX5_reach 123 = .ok (.iconst 0, 1) := by decide +kernel
theorem dX5_reach_124 : decode cX5_reach 124 = .ok (.ireturn, 1) := by decide +kernel
theorem dX5_reach_125 : decode cX5_reach 125 = .ok (.aload_n 0, 1) := by decide +kernel
theorem dX5_reach_126 : decode cX5_reach 126 = .ok (.aload_n 1, 1) := by decide +kernel
theorem dX5_reach_127 : decode cX5_reach 127 = .ok (.getfield 46, 3) := by decide +kernel
theorem dX5_reach_130 : decode cX5_reach 130 = .ok (.aload_n 1, 1) := by decide +kernel
theorem dX5_reach_131 : decode cX5_reach 131 = .ok (.getfield 46, 3) := by decide +kernel
theorem dX5_reach_134 : decode cX5_reach 134 = .ok (.imul, 1) := by decide +kernel
theorem dX5_reach_135 : decode cX5_reach 135 = .ok (.aload_n 1, 1) := by decide +kernel
theorem dX5_reach_136 : decode cX5_reach 136 = .ok (.getfield 49, 3) := by decide +kernel
theorem dX5_reach_139 : decode cX5_reach 139 = .ok (.aload_n 1, 1) := by decide +kernel
theorem dX5_reach_140 : decode cX5_reach 140 = .ok (.getfield 49, 3) := by decide +kernel
theorem dX5_reach_143 : decode cX5_reach 143 = .ok (.imul, 1) := by decide +kernel
theorem dX5_reach_144 : decode cX5_reach 144 = .ok (.isub, 1) := by decide +kernel
theorem dX5_reach_145 : decode cX5_reach 145 = .ok (.i2d, 1) := by decide +kernel
theorem dX5_reach_146 : decode cX5_reach 146 = .ok (.dload 6, 2) := by decide +kernel
theorem dX5_reach_148 : decode cX5_reach 148 = .ok (.dadd, 1) := by decide +kernel
theorem dX5_reach_149 : decode cX5_reach 149 = .ok (.ldc2_w 52, 3) := by decide +kernel
theorem dX5_reach_152 : decode cX5_reach 152 = .ok (.dload 6, 2) := by decide +kernel
theorem dX5_reach_154 : decode cX5_reach 154 = .ok (.dmul, 1) := by decide +kernel
theorem dX5_reach_155 : decode cX5_reach 155 = .ok (.ddiv, 1) := by decide +kernel
theorem dX5_reach_156 : decode cX5_reach 156 = .ok (.putfield 54, 3) := by decide +kernel
theorem dX5_reach_159 : decode cX5_reach 159 = .ok (.aload_n 0, 1) := by decide +kernel
theorem dX5_reach_160 : decode cX5_reach 160 = .ok (.aload_n 1, 1) := by decide +kernel
theorem dX5_reach_161 : decode cX5_reach 161 = .ok (.getfield 46, 3) := by decide +kernel
theorem dX5_reach_164 : decode cX5_reach 164 = .ok (.aload_n 1, 1) := by decide +kernel
theorem dX5_reach_165 : decode cX5_reach 165 = .ok (.getfield 46, 3) := by decide +kernel
theorem dX5_reach_168 : decode cX5_reach 168 = .ok (.imul, 1) := by decide +kernel
theorem dX5_reach_169 : decode cX5_reach 169 = .ok (.i2d, 1) := by decide +kernel
theorem dX5_reach_170 : decode cX5_reach 170 = .ok (.dload 6, 2) := by decide +kernel
theorem dX5_reach_172 : decode cX5_reach 172 = .ok (.ddiv, 1) := by decide +kernel
theorem dX5_reach_173 : decode cX5_reach 173 = .ok (.aload_n 0, 1) := by decide +kernel
theorem dX5_reach_174 : decode cX5_reach 174 = .ok (.getfield 54, 3) := by decide +kernel
theorem dX5_reach_177 : decode cX5_reach 177 = .ok (.aload_n 0, 1) := by decide +kernel
theorem dX5_reach_178 : decode cX5_reach 178 = .ok (.getfield 54, 3) := by decide +kernel
theorem dX5_reach_181 : decode cX5_reach 181 = .ok (.dmul, 1) := by decide +kernel
theorem dX5_reach_182 : decode cX5_reach 182 = .ok (.dsub, 1) := by decide +kernel
theorem dX5_reach_183 : decode cX5_reach 183 = .ok (.putfield 57, 3) := by decide +kernel
theorem dX5_reach_186 : decode cX5_reach 186 = .ok (.aload_n 0, 1) := by decide +kernel
theorem dX5_reach_187 : decode cX5_reach 187 = .ok (.getfield 57, 3) := by decide +kernel
theorem dX5_reach_190 : decode cX5_reach 190 = .ok (.dconst 0, 1) := by decide +kernel
theorem dX5_reach_191 : decode cX5_reach 191 = .ok (.dcmp .l, 1) := by decide +kernel
theorem dX5_reach_192 : decode cX5_reach 192 = .ok (.ifCond .lt 7, 3) := by decide +kernel
theorem dX5_reach_195 : decode cX5_reach 195 = .ok (.iconst 1, 1) := by decide +kernel
theorem dX5_reach_196 : decode cX5_reach 196 = .ok (.goto 4, 3) := by decide +kernel
theorem dX5_reach_199 : decode cX5_reach 199 = .ok (.iconst 0, 1) := by decide +kernel
theorem dX5_reach_200 : decode cX5_reach 200 = .ok (.ireturn, 1) := by decide +kernel
set_option maxRecDepth 20000 in
theorem ggX5_placeUpright_X1_squareRoot : GoodIn wsX5_placeUpright wsX1_squareRoot := goodIn_r _ [13, 14, 15, 16, 17, 12, 18, 19, 20, 21, 22, 23, 24] (by decide +kernel) (by decide +kernel)
set_option maxRecDepth 20000 in
theorem gX5_placeUpright_X1_squareRoot_n27 : GoodIn wsX5_placeUpright (wsX1_squareRoot) := ggX5_placeUpright_X1_squareRoot
theorem dX5_placeUpright_0 : decode cX5_placeUpright 0 = .ok (.aload_n 1, 1) := by decide +kernel
theorem dX5_placeUpright_1 : decode cX5_placeUpright 1 = .ok (.getfield 60, 3) := by decide +kernel
theorem dX5_placeUpright_4 : decode cX5_placeUpright 4 = .ok (.i2d, 1) := by decide +kernel
theorem dX5_placeUpright_5 : decode cX5_placeUpright 5 = .ok (.aload_n 0, 1) := by decide +kernel
theorem dX5_placeUpright_6 : decode cX5_placeUpright 6 = .ok (.getfield 57, 3) := by decide +kernel
theorem dX5_placeUpright_9 : decode cX5_placeUpright 9 = .ok (.invokestatic 27, 3) := by decide +kernel
theorem dX5_placeUpright_12 : decode cX5_placeUpright 12 = .ok (.dmul, 1) := by decide +kernel
theorem dX5_placeUpright_13 : decode cX5_placeUpright 13 = .ok (.dstore_n 2, 1) := by decide +kernel
theorem dX5_placeUpright_14 : decode cX5_placeUpright 14 = .ok (.aload_n 0, 1) := by decide +kernel
theorem dX5_placeUpright_15 : decode cX5_placeUpright 15 = .ok (.aload_n 0, 1) := by decide +kernel
theorem dX5_placeUpright_16 : decode cX5_placeUpright 16 = .ok (.getfield 33, 3) := by decide +kernel
theorem dX5_placeUpright_19 : decode cX5_placeUpright 19 = .ok (.aload_n 0, 1) := by decide +kernel
theorem dX5_placeUpright_20 : decode cX5_placeUpright 20 = .ok (.getfield 54, 3) := by decide +kernel
theorem dX5_placeUpright_23 : decode cX5_placeUpright 23 = .ok (.aload_n 0, 1) := by decide +kernel
theorem dX5_placeUpright_24 : decode cX5_placeUpright 24 = .ok (.getfield 40, 3) := by decide +kernel
theorem dX5_placeUpright_27 : decode cX5_placeUpright 27 = .ok (.dmul, 1) := by decide +kernel
theorem dX5_placeUpright_28 : decode cX5_placeUpright 28 = .ok (.dadd, 1) := by decide +kernel
theorem dX5_placeUpright_29 : decode cX5_placeUpright 29 = .ok (.dload_n 2, 1) := by decide +kernel
theorem dX5_placeUpright_30 : decode cX5_placeUpright 30 = .ok (.aload_n 0, 1) := by decide +kernel
theorem dX5_placeUpright_31 : decode cX5_placeUpright 31 = .ok (.getfield 43, 3) := by decide +kernel
theorem dX5_placeUpright_34 : decode cX5_placeUpright 34 = .ok (.dmul, 1) := by decide +kernel
theorem dX5_placeUpright_35 : decode cX5_placeUpright 35 = .ok (.dadd, 1) := by decide +kernel
theorem dX5_placeUpright_36 : decode cX5_placeUpright 36 = .ok (.putfield 63, 3) := by decide +kernel
theorem dX5_placeUpright_39 : decode cX5_placeUpright 39 = .ok (.aload_n 0, 1) := by decide +kernel
theorem dX5_placeUpright_40 : decode cX5_placeUpright 40 = .ok (.aload_n 0, 1) := by decide +kernel
theorem dX5_placeUpright_41 : decode cX5_placeUpright 41 = .ok (.getfield 37, 3) := by decide +kernel
theorem dX5_placeUpright_44 : decode cX5_placeUpright 44 = .ok (.aload_n 0, 1) := by decide +kernel
theorem dX5_placeUpright_45 : decode cX5_placeUpright 45 = .ok (.getfield 54, 3) := by decide +kernel
theorem dX5_placeUpright_48 : decode cX5_placeUpright 48 = .ok (.aload_n 0, 1) := by decide +kernel
theorem dX5_placeUpright_49 : decode cX5_placeUpright 49 = .ok (.getfield 43, 3) := by decide +kernel
theorem dX5_placeUpright_52 : decode cX5_placeUpright 52 = .ok (.dmul, 1) := by decide +kernel
theorem dX5_placeUpright_53 : decode cX5_placeUpright 53 = .ok (.dadd, 1) := by decide +kernel
theorem dX5_placeUpright_54 : decode cX5_placeUpright 54 = .ok (.dload_n 2, 1) := by decide +kernel
theorem dX5_placeUpright_55 : decode cX5_placeUpright 55 = .ok (.aload_n 0, 1) := by decide +kernel
theorem dX5_placeUpright_56 : decode cX5_placeUpright 56 = .ok (.getfield 40, 3) := by decide +kernel
theorem dX5_placeUpright_59 : decode cX5_placeUpright 59 = .ok (.dmul, 1) := by decide +kernel
theorem dX5_placeUpright_60 : decode cX5_placeUpright 60 = .ok (.dsub, 1) := by decide +kernel
theorem dX5_placeUpright_61 : decode cX5_placeUpright 61 = .ok (.putfield 66, 3) := by decide +kernel
theorem dX5_placeUpright_64 : decode cX5_placeUpright 64 = .ok (.aload_n 0, 1) := by decide +kernel
theorem dX5_placeUpright_65 : decode cX5_placeUpright 65 = .ok (.aload_n 0, 1) := by decide +kernel
theorem dX5_placeUpright_66 : decode cX5_placeUpright 66 = .ok (.getfield 63, 3) := by decide +kernel
theorem dX5_placeUpright_69 : decode cX5_placeUpright 69 = .ok (.aload_n 0, 1) := by decide +kernel
theorem dX5_placeUpright_70 : decode cX5_placeUpright 70 = .ok (.getfield 33, 3) := by decide +kernel
theorem dX5_placeUpright_73 : decode cX5_placeUpright 73 = .ok (.dsub, 1) := by decide +kernel
theorem dX5_placeUpright_74 : decode cX5_placeUpright 74 = .ok (.aload_n 1, 1) := by decide +kernel
theorem dX5_placeUpright_75 : decode cX5_placeUpright 75 = .ok (.getfield 46, 3) := by decide +kernel
theorem dX5_placeUpright_78 : decode cX5_placeUpright 78 = .ok (.i2d, 1) := by decide +kernel
theorem dX5_placeUpright_79 : decode cX5_placeUpright 79 = .ok (.ddiv, 1) := by decide +kernel
theorem dX5_placeUpright_80 : decode cX5_placeUpright 80 = .ok (.putfield 69, 3) := by decide +kernel
theorem dX5_placeUpright_83 : decode cX5_placeUpright 83 = .ok (.aload_n 0, 1) := by decide +kernel
theorem dX5_placeUpright_84 : decode cX5_placeUpright 84 = .ok (.aload_n 0, 1) := by decide +kernel
theorem dX5_placeUpright_85 : decode cX5_placeUpright 85 = .ok (.getfield 66, 3) := by decide +kernel
theorem dX5_placeUpright_88 : decode cX5_placeUpright 88 = .ok (.aload_n 0, 1) := by decide +kernel
theorem dX5_placeUpright_89 : decode cX5_placeUpright 89 = .ok (.getfield 37, 3) := by decide +kernel
theorem dX5_placeUpright_92 : decode cX5_placeUpright 92 = .ok (.dsub, 1) := by decide +kernel
theorem dX5_placeUpright_93 : decode cX5_placeUpright 93 = .ok (.aload_n 1, 1) := by decide +kernel
theorem dX5_placeUpright_94 : decode cX5_placeUpright 94 = .ok (.getfield 46, 3) := by decide +kernel
theorem dX5_placeUpright_97 : decode cX5_placeUpright 97 = .ok (.i2d, 1) := by decide +kernel
theorem dX5_placeUpright_98 : decode cX5_placeUpright 98 = .ok (.ddiv, 1) := by decide +kernel
theorem dX5_placeUpright_99 : decode cX5_placeUpright 99 = .ok (.putfield 72, 3) := by decide +kernel
theorem dX5_placeUpright_102 : decode cX5_placeUpright 102 = .ok (.return_, 1) := by decide +kernel
theorem dX5_roadX_0 : decode cX5_roadX 0 = .ok (.aload_n 0, 1) := by decide +kernel
theorem dX5_roadX_1 : decode cX5_roadX 1 = .ok (.getfield 33, 3) := by decide +kernel
theorem dX5_roadX_4 : decode cX5_roadX 4 = .ok (.aload_n 1, 1) := by decide +kernel
theorem dX5_roadX_5 : decode cX5_roadX 5 = .ok (.getfield 75, 3) := by decide +kernel
theorem dX5_roadX_8 : decode cX5_roadX 8 = .ok (.i2d, 1) := by decide +kernel
theorem dX5_roadX_9 : decode cX5_roadX 9 = .ok (.aload_n 0, 1) := by decide +kernel
theorem dX5_roadX_10 : decode cX5_roadX 10 = .ok (.getfield 69, 3) := by decide +kernel
theorem dX5_roadX_13 : decode cX5_roadX 13 = .ok (.dmul, 1) := by decide +kernel
theorem dX5_roadX_14 : decode cX5_roadX 14 = .ok (.dadd, 1) := by decide +kernel
theorem dX5_roadX_15 : decode cX5_roadX 15 = .ok (.aload_n 1, 1) := by decide +kernel
theorem dX5_roadX_16 : decode cX5_roadX 16 = .ok (.getfield 78, 3) := by decide +kernel
theorem dX5_roadX_19 : decode cX5_roadX 19 = .ok (.i2d, 1) := by decide +kernel
theorem dX5_roadX_20 : decode cX5_roadX 20 = .ok (.aload_n 0, 1) := by decide +kernel
theorem dX5_roadX_21 : decode cX5_roadX 21 = .ok (.getfield 72, 3) := by decide +kernel
theorem dX5_roadX_24 : decode cX5_roadX 24 = .ok (.dmul, 1) := by decide +kernel
theorem dX5_roadX_25 : decode cX5_roadX 25 = .ok (.dadd, 1) := by decide +kernel
theorem dX5_roadX_26 : decode cX5_roadX 26 = .ok (.dreturn, 1) := by decide +kernel
theorem dX5_roadY_0 : decode cX5_roadY 0 = .ok (.aload_n 0, 1) := by decide +kernel
theorem dX5_roadY_1 : decode cX5_roadY 1 = .ok (.getfield 37, 3) := by decide +kernel
theorem dX5_roadY_4 : decode cX5_roadY 4 = .ok (.aload_n 1, 1) := by decide +kernel
theorem dX5_roadY_5 : decode cX5_roadY 5 = .ok (.getfield 75, 3) := by decide +kernel
theorem dX5_roadY_8 : decode cX5_roadY 8 = .ok (.i2d, 1) := by decide +kernel
theorem dX5_roadY_9 : decode cX5_roadY 9 = .ok (.aload_n 0, 1) := by decide +kernel
theorem dX5_roadY_10 : decode cX5_roadY 10 = .ok (.getfield 72, 3) := by decide +kernel
theorem dX5_roadY_13 : decode cX5_roadY 13 = .ok (.dmul, 1) := by decide +kernel
theorem dX5_roadY_14 : decode cX5_roadY 14 = .ok (.dadd, 1) := by decide +kernel
theorem dX5_roadY_15 : decode cX5_roadY 15 = .ok (.aload_n 1, 1) := by decide +kernel
theorem dX5_roadY_16 : decode cX5_roadY 16 = .ok (.getfield 78, 3) := by decide +kernel
theorem dX5_roadY_19 : decode cX5_roadY 19 = .ok (.i2d, 1) := by decide +kernel
theorem dX5_roadY_20 : decode cX5_roadY 20 = .ok (.aload_n 0, 1) := by decide +kernel
theorem dX5_roadY_21 : decode cX5_roadY 21 = .ok (.getfield 69, 3) := by decide +kernel
theorem dX5_roadY_24 : decode cX5_roadY 24 = .ok (.dmul, 1) := by decide +kernel
theorem dX5_roadY_25 : decode cX5_roadY 25 = .ok (.dsub, 1) := by decide +kernel
theorem dX5_roadY_26 : decode cX5_roadY 26 = .ok (.dreturn, 1) := by decide +kernel
theorem dX5_findCentre_0 : decode cX5_findCentre 0 = .ok (.aload_n 0, 1) := by decide +kernel
theorem dX5_findCentre_1 : decode cX5_findCentre 1 = .ok (.getfield 63, 3) := by decide +kernel
theorem dX5_findCentre_4 : decode cX5_findCentre 4 = .ok (.aload_n 0, 1) := by decide +kernel
theorem dX5_findCentre_5 : decode cX5_findCentre 5 = .ok (.getfield 16, 3) := by decide +kernel
theorem dX5_findCentre_8 : decode cX5_findCentre 8 = .ok (.i2d, 1) := by decide +kernel
theorem dX5_findCentre_9 : decode cX5_findCentre 9 = .ok (.dsub, 1) := by decide +kernel
theorem dX5_findCentre_10 : decode cX5_findCentre 10 = .ok (.aload_n 0, 1) := by decide +kernel
theorem dX5_findCentre_11 : decode cX5_findCentre 11 = .ok (.getfield 37, 3) := by decide +kernel
theorem dX5_findCentre_14 : decode cX5_findCentre 14 = .ok (.aload_n 1, 1) := by decide +kernel
theorem dX5_findCentre_15 : decode cX5_findCentre 15 = .ok (.getfield 13, 3) := by decide +kernel
theorem dX5_findCentre_18 : decode cX5_findCentre 18 = .ok (.i2d, 1) := by decide +kernel
theorem dX5_findCentre_19 : decode cX5_findCentre 19 = .ok (.dsub, 1) := by decide +kernel
theorem dX5_findCentre_20 : decode cX5_findCentre 20 = .ok (.dmul, 1) := by decide +kernel
theorem dX5_findCentre_21 : decode cX5_findCentre 21 = .ok (.aload_n 0, 1) := by decide +kernel
theorem dX5_findCentre_22 : decode cX5_findCentre 22 = .ok (.getfield 66, 3) := by decide +kernel
theorem dX5_findCentre_25 : decode cX5_findCentre 25 = .ok (.aload_n 0, 1) := by decide +kernel
theorem dX5_findCentre_26 : decode cX5_findCentre 26 = .ok (.getfield 21, 3) := by decide +kernel
theorem dX5_findCentre_29 : decode cX5_findCentre 29 = .ok (.i2d, 1) := by decide +kernel
theorem dX5_findCentre_30 : decode cX5_findCentre 30 = .ok (.dsub, 1) := by decide +kernel
theorem dX5_findCentre_31 : decode cX5_findCentre 31 = .ok (.aload_n 0, 1) := by decide +kernel
theorem dX5_findCentre_32 : decode cX5_findCentre 32 = .ok (.getfield 33, 3) := by decide +kernel
theorem dX5_findCentre_35 : decode cX5_findCentre 35 = .ok (.aload_n 1, 1) := by decide +kernel
theorem dX5_findCentre_36 : decode cX5_findCentre 36 = .ok (.getfield 24, 3) := by decide +kernel
theorem dX5_findCentre_39 : decode cX5_findCentre 39 = .ok (.i2d, 1) := by decide +kernel
theorem dX5_findCentre_40 : decode cX5_findCentre 40 = .ok (.dsub, 1) := by decide +kernel
theorem dX5_findCentre_41 : decode cX5_findCentre 41 = .ok (.dmul, 1) := by decide +kernel
theorem dX5_findCentre_42 : decode cX5_findCentre 42 = .ok (.dsub, 1) := by decide +kernel
theorem dX5_findCentre_43 : decode cX5_findCentre 43 = .ok (.dstore_n 2, 1) := by decide +kernel
theorem dX5_findCentre_44 : decode cX5_findCentre 44 = .ok (.dload_n 2, 1) := by decide +kernel
theorem dX5_findCentre_45 : decode cX5_findCentre 45 = .ok (.dconst 0, 1) := by decide +kernel
theorem dX5_findCentre_46 : decode cX5_findCentre 46 = .ok (.dcmp .l, 1) := by decide +kernel
theorem dX5_findCentre_47 : decode cX5_findCentre 47 = .ok (.ifCond .ne 5, 3) := by decide +kernel
theorem dX5_findCentre_50 : decode cX5_findCentre 50 = .ok (.iconst 0, 1) := by decide +kernel
theorem dX5_findCentre_51 : decode cX5_findCentre 51 = .ok (.ireturn, 1) := by decide +kernel
theorem dX5_findCentre_52 : decode cX5_findCentre 52 = .ok (.aload_n 1, 1) := by decide +kernel
theorem dX5_findCentre_53 : decode cX5_findCentre 53 = .ok (.getfield 24, 3) := by decide +kernel
theorem dX5_findCentre_56 : decode cX5_findCentre 56 = .ok (.aload_n 0, 1) := by decide +kernel
theorem dX5_findCentre_57 : decode cX5_findCentre 57 = .ok (.getfield 16, 3) := by decide +kernel
theorem dX5_findCentre_60 : decode cX5_findCentre 60 = .ok (.isub, 1) := by decide +kernel
theorem dX5_findCentre_61 : decode cX5_findCentre 61 = .ok (.i2d, 1) := by decide +kernel
theorem dX5_findCentre_62 : decode cX5_findCentre 62 = .ok (.aload_n 0, 1) := by decide +kernel
theorem dX5_findCentre_63 : decode cX5_findCentre 63 = .ok (.getfield 37, 3) := by decide +kernel
theorem dX5_findCentre_66 : decode cX5_findCentre 66 = .ok (.aload_n 1, 1) := by decide +kernel
theorem dX5_findCentre_67 : decode cX5_findCentre 67 = .ok (.getfield 13, 3) := by decide +kernel
theorem dX5_findCentre_70 : decode cX5_findCentre 70 = .ok (.i2d, 1) := by decide +kernel
theorem dX5_findCentre_71 : decode cX5_findCentre 71 = .ok (.dsub, 1) := by decide +kernel
theorem dX5_findCentre_72 : decode cX5_findCentre 72 = .ok (.dmul, 1) := by decide +kernel
theorem dX5_findCentre_73 : decode cX5_findCentre 73 = .ok (.aload_n 1, 1) := by decide +kernel
theorem dX5_findCentre_74 : decode cX5_findCentre 74 = .ok (.getfield 13, 3) := by decide +kernel
theorem dX5_findCentre_77 : decode cX5_findCentre 77 = .ok (.aload_n 0, 1) := by decide +kernel
theorem dX5_findCentre_78 : decode cX5_findCentre 78 = .ok (.getfield 21, 3) := by decide +kernel
theorem dX5_findCentre_81 : decode cX5_findCentre 81 = .ok (.isub, 1) := by decide +kernel
theorem dX5_findCentre_82 : decode cX5_findCentre 82 = .ok (.i2d, 1) := by decide +kernel
theorem dX5_findCentre_83 : decode cX5_findCentre 83 = .ok (.aload_n 0, 1) := by decide +kernel
theorem dX5_findCentre_84 : decode cX5_findCentre 84 = .ok (.getfield 33, 3) := by decide +kernel
theorem dX5_findCentre_87 : decode cX5_findCentre 87 = .ok (.aload_n 1, 1) := by decide +kernel
theorem dX5_findCentre_88 : decode cX5_findCentre 88 = .ok (.getfield 24, 3) := by decide +kernel
theorem dX5_findCentre_91 : decode cX5_findCentre 91 = .ok (.i2d, 1) := by decide +kernel
theorem dX5_findCentre_92 : decode cX5_findCentre 92 = .ok (.dsub, 1) := by decide +kernel
theorem dX5_findCentre_93 : decode cX5_findCentre 93 = .ok (.dmul, 1) := by decide +kernel
theorem dX5_findCentre_94 : decode cX5_findCentre 94 = .ok (.dsub, 1) := by decide +kernel
theorem dX5_findCentre_95 : decode cX5_findCentre 95 = .ok (.dload_n 2, 1) := by decide +kernel
theorem dX5_findCentre_96 : decode cX5_findCentre 96 = .ok (.ddiv, 1) := by decide +kernel
theorem dX5_findCentre_97 : decode cX5_findCentre 97 = .ok (.dstore 4, 2) := by decide +kernel
theorem dX5_findCentre_99 : decode cX5_findCentre 99 = .ok (.aload_n 0, 1) := by decide +kernel
theorem dX5_findCentre_100 : decode cX5_findCentre 100 = .ok (.aload_n 0, 1) := by decide +kernel
theorem dX5_findCentre_101 : decode cX5_findCentre 101 = .ok (.getfield 16, 3) := by decide +kernel
theorem dX5_findCentre_104 : decode cX5_findCentre 104 = .ok (.i2d, 1) := by decide +kernel
theorem dX5_findCentre_105 : decode cX5_findCentre 105 = .ok (.dload 4, 2) := by decide +kernel
theorem dX5_findCentre_107 : decode cX5_findCentre 107 = .ok (.aload_n 0, 1) := by decide +kernel
theorem dX5_findCentre_108 : decode cX5_findCentre 108 = .ok (.getfield 63, 3) := by decide +kernel
theorem dX5_findCentre_111 : decode cX5_findCentre 111 = .ok (.aload_n 0, 1) := by decide +kernel
theorem dX5_findCentre_112 : decode cX5_findCentre 112 = .ok (.getfield 16, 3) := by decide +kernel
theorem dX5_findCentre_115 : decode cX5_findCentre 115 = .ok (.i2d, 1) := by decide +kernel
theorem dX5_findCentre_116 : decode cX5_findCentre 116 = .ok (.dsub, 1) := by decide +kernel
theorem dX5_findCentre_117 : decode cX5_findCentre 117 = .ok (.dmul, 1) := by decide +kernel
theorem dX5_findCentre_118 : decode cX5_findCentre 118 = .ok (.dadd, 1) := by decide +kernel
theorem dX5_findCentre_119 : decode cX5_findCentre 119 = .ok (.putfield 81, 3) := by decide +kernel
theorem dX5_findCentre_122 : decode cX5_findCentre 122 = .ok (.aload_n 0, 1) := by decide +kernel
theorem dX5_findCentre_123 : decode cX5_findCentre 123 = .ok (.aload_n 0, 1) := by decide +kernel
theorem dX5_findCentre_124 : decode cX5_findCentre 124 = .ok (.getfield 21, 3) := by decide +kernel
theorem dX5_findCentre_127 : decode cX5_findCentre 127 = .ok (.i2d, 1) := by decide +kernel
theorem dX5_findCentre_128 : decode cX5_findCentre 128 = .ok (.dload 4, 2) := by decide +kernel
theorem dX5_findCentre_130 : decode cX5_findCentre 130 = .ok (.aload_n 0, 1) := by decide +kernel
theorem dX5_findCentre_131 : decode cX5_findCentre 131 = .ok (.getfield 66, 3) := by decide +kernel
theorem dX5_findCentre_134 : decode cX5_findCentre 134 = .ok (.aload_n 0, 1) := by decide +kernel
theorem dX5_findCentre_135 : decode cX5_findCentre 135 = .ok (.getfield 21, 3) := by decide +kernel
theorem dX5_findCentre_138 : decode cX5_findCentre 138 = .ok (.i2d, 1) := by decide +kernel
theorem dX5_findCentre_139 : decode cX5_findCentre 139 = .ok (.dsub, 1) := by decide +kernel
theorem dX5_findCentre_140 : decode cX5_findCentre 140 = .ok (.dmul, 1) := by decide +kernel
theorem dX5_findCentre_141 : decode cX5_findCentre 141 = .ok (.dadd, 1) := by decide +kernel
theorem dX5_findCentre_142 : decode cX5_findCentre 142 = .ok (.putfield 84, 3) := by decide +kernel
theorem dX5_findCentre_145 : decode cX5_findCentre 145 = .ok (.iconst 1, 1) := by decide +kernel
theorem dX5_findCentre_146 : decode cX5_findCentre 146 = .ok (.ireturn, 1) := by decide +kernel
set_option maxRecDepth 20000 in
theorem ggX5_springLength_X1_squareRoot : GoodIn wsX5_springLength wsX1_squareRoot := goodIn_r _ [6, 7, 8, 9, 10, 5, 11, 12, 13, 14, 15, 16, 17] (by decide +kernel) (by decide +kernel)
set_option maxRecDepth 20000 in
theorem gX5_springLength_X1_squareRoot_n27 : GoodIn wsX5_springLength (wsX1_squareRoot) := ggX5_springLength_X1_squareRoot
theorem dX5_springLength_0 : decode cX5_springLength 0 = .ok (.aload_n 1, 1) := by decide +kernel
theorem dX5_springLength_1 : decode cX5_springLength 1 = .ok (.getfield 24, 3) := by decide +kernel
theorem dX5_springLength_4 : decode cX5_springLength 4 = .ok (.i2d, 1) := by decide +kernel
theorem dX5_springLength_5 : decode cX5_springLength 5 = .ok (.aload_n 1, 1) := by decide +kernel
theorem dX5_springLength_6 : decode cX5_springLength 6 = .ok (.getfield 87, 3) := by decide +kernel
theorem dX5_springLength_9 : decode cX5_springLength 9 = .ok (.i2d, 1) := by decide +kernel
theorem dX5_springLength_10 : decode cX5_springLength 10 = .ok (.aload_n 0, 1) := by decide +kernel
theorem dX5_springLength_11 : decode cX5_springLength 11 = .ok (.getfield 33, 3) := by decide +kernel
theorem dX5_springLength_14 : decode cX5_springLength 14 = .ok (.aload_n 1, 1) := by decide +kernel
theorem dX5_springLength_15 : decode cX5_springLength 15 = .ok (.getfield 24, 3) := by decide +kernel
theorem dX5_springLength_18 : decode cX5_springLength 18 = .ok (.i2d, 1) := by decide +kernel
theorem dX5_springLength_19 : decode cX5_springLength 19 = .ok (.dsub, 1) := by decide +kernel
theorem dX5_springLength_20 : decode cX5_springLength 20 = .ok (.dmul, 1) := by decide +kernel
theorem dX5_springLength_21 : decode cX5_springLength 21 = .ok (.ldc2_w 90, 3) := by decide +kernel
theorem dX5_springLength_24 : decode cX5_springLength 24 = .ok (.ddiv, 1) := by decide +kernel
theorem dX5_springLength_25 : decode cX5_springLength 25 = .ok (.dadd, 1) := by decide +kernel
theorem dX5_springLength_26 : decode cX5_springLength 26 = .ok (.dstore_n 2, 1) := by decide +kernel
theorem dX5_springLength_27 : decode cX5_springLength 27 = .ok (.aload_n 1, 1) := by decide +kernel
theorem dX5_springLength_28 : decode cX5_springLength 28 = .ok (.getfield 13, 3) := by decide +kernel
theorem dX5_springLength_31 : decode cX5_springLength 31 = .ok (.i2d, 1) := by decide +kernel
theorem dX5_springLength_32 : decode cX5_springLength 32 = .ok (.aload_n 1, 1) := by decide +kernel
theorem dX5_springLength_33 : decode cX5_springLength 33 = .ok (.getfield 87, 3) := by decide +kernel
theorem dX5_springLength_36 : decode cX5_springLength 36 = .ok (.i2d, 1) := by decide +kernel
theorem dX5_springLength_37 : decode cX5_springLength 37 = .ok (.aload_n 0, 1) := by decide +kernel
theorem dX5_springLength_38 : decode cX5_springLength 38 = .ok (.getfield 37, 3) := by decide +kernel
theorem dX5_springLength_41 : decode cX5_springLength 41 = .ok (.aload_n 1, 1) := by decide +kernel
theorem dX5_springLength_42 : decode cX5_springLength 42 = .ok (.getfield 13, 3) := by decide +kernel
theorem dX5_springLength_45 : decode cX5_springLength 45 = .ok (.i2d, 1) := by decide +kernel
theorem dX5_springLength_46 : decode cX5_springLength 46 = .ok (.dsub, 1) := by decide +kernel
theorem dX5_springLength_47 : decode cX5_springLength 47 = .ok (.dmul, 1) := by decide +kernel
theorem dX5_springLength_48 : decode cX5_springLength 48 = .ok (.ldc2_w 90, 3) := by decide +kernel
theorem dX5_springLength_51 : decode cX5_springLength 51 = .ok (.ddiv, 1) := by decide +kernel
theorem dX5_springLength_52 : decode cX5_springLength 52 = .ok (.dadd, 1) := by decide +kernel
theorem dX5_springLength_53 : decode cX5_springLength 53 = .ok (.dstore 4, 2) := by decide +kernel
theorem dX5_springLength_55 : decode cX5_springLength 55 = .ok (.dload_n 2, 1) := by decide +kernel
theorem dX5_springLength_56 : decode cX5_springLength 56 = .ok (.aload_n 1, 1) := by decide +kernel
theorem dX5_springLength_57 : decode cX5_springLength 57 = .ok (.getfield 92, 3) := by decide +kernel
theorem dX5_springLength_60 : decode cX5_springLength 60 = .ok (.i2d, 1) := by decide +kernel
theorem dX5_springLength_61 : decode cX5_springLength 61 = .ok (.dsub, 1) := by decide +kernel
theorem dX5_springLength_62 : decode cX5_springLength 62 = .ok (.dload_n 2, 1) := by decide +kernel
theorem dX5_springLength_63 : decode cX5_springLength 63 = .ok (.aload_n 1, 1) := by decide +kernel
theorem dX5_springLength_64 : decode cX5_springLength 64 = .ok (.getfield 92, 3) := by decide +kernel
theorem dX5_springLength_67 : decode cX5_springLength 67 = .ok (.i2d, 1) := by decide +kernel
theorem dX5_springLength_68 : decode cX5_springLength 68 = .ok (.dsub, 1) := by decide +kernel
theorem dX5_springLength_69 : decode cX5_springLength 69 = .ok (.dmul, 1) := by decide +kernel
theorem dX5_springLength_70 : decode cX5_springLength 70 = .ok (.dload 4, 2) := by decide +kernel
theorem dX5_springLength_72 : decode cX5_springLength 72 = .ok (.aload_n 1, 1) := by decide +kernel
theorem dX5_springLength_73 : decode cX5_springLength 73 = .ok (.getfield 95, 3) := by decide +kernel
theorem dX5_springLength_76 : decode cX5_springLength 76 = .ok (.i2d, 1) := by decide +kernel
theorem dX5_springLength_77 : decode cX5_springLength 77 = .ok (.dsub, 1) := by decide +kernel
theorem dX5_springLength_78 : decode cX5_springLength 78 = .ok (.dload 4, 2) := by decide +kernel
theorem dX5_springLength_80 : decode cX5_springLength 80 = .ok (.aload_n 1, 1) := by decide +kernel
theorem dX5_springLength_81 : decode cX5_springLength 81 = .ok (.getfield 95, 3) := by decide +kernel
theorem dX5_springLength_84 : decode cX5_springLength 84 = .ok (.i2d, 1) := by decide +kernel
theorem dX5_springLength_85 : decode cX5_springLength 85 = .ok (.dsub, 1) := by decide +kernel
theorem dX5_springLength_86 : decode cX5_springLength 86 = .ok (.dmul, 1) := by decide +kernel
theorem dX5_springLength_87 : decode cX5_springLength 87 = .ok (.dadd, 1) := by decide +kernel
theorem dX5_springLength_88 : decode cX5_springLength 88 = .ok (.invokestatic 27, 3) := by decide +kernel
theorem dX5_springLength_91 : decode cX5_springLength 91 = .ok (.dreturn, 1) := by decide +kernel
theorem dX5_squareFrom_0 : decode cX5_squareFrom 0 = .ok (.iload_n 2, 1) := by decide +kernel
theorem dX5_squareFrom_1 : decode cX5_squareFrom 1 = .ok (.i2d, 1) := by decide +kernel
theorem dX5_squareFrom_2 : decode cX5_squareFrom 2 = .ok (.aload_n 0, 1) := by decide +kernel
theorem dX5_squareFrom_3 : decode cX5_squareFrom 3 = .ok (.getfield 33, 3) := by decide +kernel
theorem dX5_squareFrom_6 : decode cX5_squareFrom 6 = .ok (.dsub, 1) := by decide +kernel
theorem dX5_squareFrom_7 : decode cX5_squareFrom 7 = .ok (.aload_n 0, 1) := by decide +kernel
theorem dX5_squareFrom_8 : decode cX5_squareFrom 8 = .ok (.getfield 63, 3) := by decide +kernel
theorem dX5_squareFrom_11 : decode cX5_squareFrom 11 = .ok (.aload_n 0, 1) := by decide +kernel
theorem dX5_squareFrom_12 : decode cX5_squareFrom 12 = .ok (.getfield 33, 3) := by decide +kernel
theorem dX5_squareFrom_15 : decode cX5_squareFrom 15 = .ok (.dsub, 1) := by decide +kernel
theorem dX5_squareFrom_16 : decode cX5_squareFrom 16 = .ok (.dmul, 1) := by decide +kernel
theorem dX5_squareFrom_17 : decode cX5_squareFrom 17 = .ok (.iload_n 3, 1) := by decide +kernel
theorem dX5_squareFrom_18 : decode cX5_squareFrom 18 = .ok (.i2d, 1) := by decide +kernel
theorem dX5_squareFrom_19 : decode cX5_squareFrom 19 = .ok (.aload_n 0, 1) := by decide +kernel
theorem dX5_squareFrom_20 : decode cX5_squareFrom 20 = .ok (.getfield 37, 3) := by decide +kernel
theorem dX5_squareFrom_23 : decode cX5_squareFrom 23 = .ok (.dsub, 1) := by decide +kernel
theorem dX5_squareFrom_24 : decode cX5_squareFrom 24 = .ok (.aload_n 0, 1) := by decide +kernel
theorem dX5_squareFrom_25 : decode cX5_squareFrom 25 = .ok (.getfield 66, 3) := by decide +kernel
theorem dX5_squareFrom_28 : decode cX5_squareFrom 28 = .ok (.aload_n 0, 1) := by decide +kernel
theorem dX5_squareFrom_29 : decode cX5_squareFrom 29 = .ok (.getfield 37, 3) := by decide +kernel
theorem dX5_squareFrom_32 : decode cX5_squareFrom 32 = .ok (.dsub, 1) := by decide +kernel
theorem dX5_squareFrom_33 : decode cX5_squareFrom 33 = .ok (.dmul, 1) := by decide +kernel
theorem dX5_squareFrom_34 : decode cX5_squareFrom 34 = .ok (.dadd, 1) := by decide +kernel
theorem dX5_squareFrom_35 : decode cX5_squareFrom 35 = .ok (.aload_n 1, 1) := by decide +kernel
theorem dX5_squareFrom_36 : decode cX5_squareFrom 36 = .ok (.getfield 46, 3) := by decide +kernel
theorem dX5_squareFrom_39 : decode cX5_squareFrom 39 = .ok (.aload_n 1, 1) := by decide +kernel
theorem dX5_squareFrom_40 : decode cX5_squareFrom 40 = .ok (.getfield 46, 3) := by decide +kernel
theorem dX5_squareFrom_43 : decode cX5_squareFrom 43 = .ok (.imul, 1) := by decide +kernel
theorem dX5_squareFrom_44 : decode cX5_squareFrom 44 = .ok (.i2d, 1) := by decide +kernel
theorem dX5_squareFrom_45 : decode cX5_squareFrom 45 = .ok (.ddiv, 1) := by decide +kernel
theorem dX5_squareFrom_46 : decode cX5_squareFrom 46 = .ok (.dstore 4, 2) := by decide +kernel
theorem dX5_squareFrom_48 : decode cX5_squareFrom 48 = .ok (.dload 4, 2) := by decide +kernel
theorem dX5_squareFrom_50 : decode cX5_squareFrom 50 = .ok (.dconst 0, 1) := by decide +kernel
theorem dX5_squareFrom_51 : decode cX5_squareFrom 51 = .ok (.dcmp .g, 1) := by decide +kernel
theorem dX5_squareFrom_52 : decode cX5_squareFrom 52 = .ok (.ifCond .ge 7, 3) := by decide +kernel
theorem dX5_squareFrom_55 : decode cX5_squareFrom 55 = .ok (.dconst 0, 1) := by decide +kernel
theorem dX5_squareFrom_56 : decode cX5_squareFrom 56 = .ok (.goto 5, 3) := by decide +kernel
theorem dX5_squareFrom_59 : decode cX5_squareFrom 59 = .ok (.dload 4, 2) := by decide +kernel
theorem dX5_squareFrom_61 : decode cX5_squareFrom 61 = .ok (.dstore 4, 2) := by decide +kernel
theorem dX5_squareFrom_63 : decode cX5_squareFrom 63 = .ok (.dload 4, 2) := by decide +kernel
theorem dX5_squareFrom_65 : decode cX5_squareFrom 65 = .ok (.dconst 1, 1) := by decide +kernel
theorem dX5_squareFrom_66 : decode cX5_squareFrom 66 = .ok (.dcmp .l, 1) := by decide +kernel
theorem dX5_squareFrom_67 : decode cX5_squareFrom 67 = .ok (.ifCond .le 7, 3) := by decide +kernel
theorem dX5_squareFrom_70 : decode cX5_squareFrom 70 = .ok (.dconst 1, 1) := by decide +kernel
theorem dX5_squareFrom_71 : decode cX5_squareFrom 71 = .ok (.goto 5, 3) := by decide +kernel
theorem dX5_squareFrom_74 : decode cX5_squareFrom 74 = .ok (.dload 4, 2) := by decide +kernel
theorem dX5_squareFrom_76 : decode cX5_squareFrom 76 = .ok (.dstore 4, 2) := by decide +kernel
theorem dX5_squareFrom_78 : decode cX5_squareFrom 78 = .ok (.iload_n 2, 1) := by decide +kernel
theorem dX5_squareFrom_79 : decode cX5_squareFrom 79 = .ok (.i2d, 1) := by decide +kernel
theorem dX5_squareFrom_80 : decode cX5_squareFrom 80 = .ok (.aload_n 0, 1) := by decide +kernel
theorem dX5_squareFrom_81 : decode cX5_squareFrom 81 = .ok (.getfield 33, 3) := by decide +kernel
theorem dX5_squareFrom_84 : decode cX5_squareFrom 84 = .ok (.dload 4, 2) := by decide +kernel
theorem dX5_squareFrom_86 : decode cX5_squareFrom 86 = .ok (.aload_n 0, 1) := by decide +kernel
theorem dX5_squareFrom_87 : decode cX5_squareFrom 87 = .ok (.getfield 63, 3) := by decide +kernel
theorem dX5_squareFrom_90 : decode cX5_squareFrom 90 = .ok (.aload_n 0, 1) := by decide +kernel
theorem dX5_squareFrom_91 : decode cX5_squareFrom 91 = .ok (.getfield 33, 3) := by decide +kernel
theorem dX5_squareFrom_94 : decode cX5_squareFrom 94 = .ok (.dsub, 1) := by decide +kernel
theorem dX5_squareFrom_95 : decode cX5_squareFrom 95 = .ok (.dmul, 1) := by decide +kernel
theorem dX5_squareFrom_96 : decode cX5_squareFrom 96 = .ok (.dadd, 1) := by decide +kernel
theorem dX5_squareFrom_97 : decode cX5_squareFrom 97 = .ok (.dsub, 1) := by decide +kernel
theorem dX5_squareFrom_98 : decode cX5_squareFrom 98 = .ok (.dstore 6, 2) := by decide +kernel
theorem dX5_squareFrom_100 : decode cX5_squareFrom 100 = .ok (.iload_n 3, 1) := by decide +kernel
theorem dX5_squareFrom_101 : decode cX5_squareFrom 101 = .ok (.i2d, 1) := by decide +kernel
theorem dX5_squareFrom_102 : decode cX5_squareFrom 102 = .ok (.aload_n 0, 1) := by decide +kernel
theorem dX5_squareFrom_103 : decode cX5_squareFrom 103 = .ok (.getfield 37, 3) := by decide +kernel
theorem dX5_squareFrom_106 : decode cX5_squareFrom 106 = .ok (.dload 4, 2) := by decide +kernel
theorem dX5_squareFrom_108 : decode cX5_squareFrom 108 = .ok (.aload_n 0, 1) := by decide +kernel
theorem dX5_squareFrom_109 : decode cX5_squareFrom 109 = .ok (.getfield 66, 3) := by decide +kernel
theorem dX5_squareFrom_112 : decode cX5_squareFrom 112 = .ok (.aload_n 0, 1) := by decide +kernel
theorem dX5_squareFrom_113 : decode cX5_squareFrom 113 = .ok (.getfield 37, 3) := by decide +kernel
theorem dX5_squareFrom_116 : decode cX5_squareFrom 116 = .ok (.dsub, 1) := by decide +kernel
theorem dX5_squareFrom_117 : decode cX5_squareFrom 117 = .ok (.dmul, 1) := by decide +kernel
theorem dX5_squareFrom_118 : decode cX5_squareFrom 118 = .ok (.dadd, 1) := by decide +kernel
theorem dX5_squareFrom_119 : decode cX5_squareFrom 119 = .ok (.dsub, 1) := by decide +kernel
theorem dX5_squareFrom_120 : decode cX5_squareFrom 120 = .ok (.dstore 8, 2) := by decide +kernel
theorem dX5_squareFrom_122 : decode cX5_squareFrom 122 = .ok (.dload 6, 2) := by decide +kernel
theorem dX5_squareFrom_124 : decode cX5_squareFrom 124 = .ok (.dload 6, 2) := by decide +kernel
theorem dX5_squareFrom_126 : decode cX5_squareFrom 126 = .ok (.dmul, 1) := by decide +kernel
theorem dX5_squareFrom_127 : decode cX5_squareFrom 127 = .ok (.dload 8, 2) := by decide +kernel
theorem dX5_squareFrom_129 : decode cX5_squareFrom 129 = .ok (.dload 8, 2) := by decide +kernel
theorem dX5_squareFrom_131 : decode cX5_squareFrom 131 = .ok (.dmul, 1) := by decide +kernel
theorem dX5_squareFrom_132 : decode cX5_squareFrom 132 = .ok (.dadd, 1) := by decide +kernel
theorem dX5_squareFrom_133 : decode cX5_squareFrom 133 = .ok (.dreturn, 1) := by decide +kernel
set_option maxRecDepth 20000 in
theorem ggX6_init_X5_init : GoodIn wsX6_init wsX5_init := goodIn_r _ [25, 26, 2, 3] (by decide +kernel) (by decide +kernel)
set_option maxRecDepth 20000 in
theorem gX6_init_X5_init_n17 : GoodIn wsX6_init (wsX5_init) := ggX6_init_X5_init
set_option maxRecDepth 20000 in
theorem ggX6_init_X0_init : GoodIn wsX6_init wsX0_init := goodIn_r _ [28, 29, 2, 3] (by decide +kernel) (by decide +kernel)
set_option maxRecDepth 20000 in
theorem gX6_init_X0_init_n24 : GoodIn wsX6_init (wsX0_init) := ggX6_init_X0_init
set_option maxRecDepth 20000 in
theorem ggX6_init_X4_init : GoodIn wsX6_init wsX4_init := goodIn_r _ [31, 32, 2, 3, 33, 34, 35, 82, 83] (by decide +kernel) (by decide +kernel)
set_option maxRecDepth 20000 in
theorem gX6_init_X4_init_n31 : GoodIn wsX6_init (wsX4_init) := ggX6_init_X4_init
set_option maxRecDepth 20000 in
theorem ggX6_init_X3_init : GoodIn wsX6_init wsX3_init := goodIn_r _ [37, 38, 2, 3, 33, 39, 40, 41, 84, 85, 86] (by decide +kernel) (by decide +kernel)
set_option maxRecDepth 20000 in
theorem gX6_init_X3_init_n38 : GoodIn wsX6_init (wsX3_init) := ggX6_init_X3_init
set_option maxRecDepth 20000 in
theorem ggX6_init_X2_init : GoodIn wsX6_init wsX2_init := goodIn_r _ [43, 44, 2, 3, 45, 46, 47, 48, 49, 50, 51, 52, 53, 54, 55, 56, 57, 87, 88, 89, 90, 91, 92, 93, 94, 95, 96, 97, 98, 99] (by decide +kernel) (by decide +kernel)
set_option maxRecDepth 20000 in
theorem gX6_init_X2_init_n43 : GoodIn wsX6_init (wsX2_init) := ggX6_init_X2_init
theorem dX6_init_0 : decode cX6_init 0 = .ok (.aload_n 0, 1) := by decide +kernel
theorem dX6_init_1 : decode cX6_init 1 = .ok (.invokespecial 1, 3) := by decide +kernel
theorem dX6_init_4 : decode cX6_init 4 = .ok (.aload_n 0, 1) := by decide +kernel
theorem dX6_init_5 : decode cX6_init 5 = .ok (.iconst 4, 1) := by decide +kernel
theorem dX6_init_6 : decode cX6_init 6 = .ok (.anewarray 9, 3) := by decide +kernel
theorem dX6_init_9 : decode cX6_init 9 = .ok (.putfield 11, 3) := by decide +kernel
theorem dX6_init_12 : decode cX6_init 12 = .ok (.aload_n 0, 1) := by decide +kernel
theorem dX6_init_13 : decode cX6_init 13 = .ok (.new 15, 3) := by decide +kernel
theorem dX6_init_16 : decode cX6_init 16 = .ok (.dup, 1) := by decide +kernel
theorem dX6_init_17 : decode cX6_init 17 = .ok (.invokespecial 17, 3) := by decide +kernel
theorem dX6_init_20 : decode cX6_init 20 = .ok (.putfield 18, 3) := by decide +kernel
theorem dX6_init_23 : decode cX6_init 23 = .ok (.aload_n 0, 1) := by decide +kernel
theorem dX6_init_24 : decode cX6_init 24 = .ok (.new 22, 3) := by decide +kernel
theorem dX6_init_27 : decode cX6_init 27 = .ok (.dup, 1) := by decide +kernel
theorem dX6_init_28 : decode cX6_init 28 = .ok (.invokespecial 24, 3) := by decide +kernel
theorem dX6_init_31 : decode cX6_init 31 = .ok (.putfield 25, 3) := by decide +kernel
theorem dX6_init_34 : decode cX6_init 34 = .ok (.aload_n 0, 1) := by decide +kernel
theorem dX6_init_35 : decode cX6_init 35 = .ok (.new 29, 3) := by decide +kernel
theorem dX6_init_38 : decode cX6_init 38 = .ok (.dup, 1) := by decide +kernel
theorem dX6_init_39 : decode cX6_init 39 = .ok (.invokespecial 31, 3) := by decide +kernel
theorem dX6_init_42 : decode cX6_init 42 = .ok (.putfield 32, 3) := by decide +kernel
theorem dX6_init_45 : decode cX6_init 45 = .ok (.aload_n 0, 1) := by decide +kernel
theorem dX6_init_46 : decode cX6_init 46 = .ok (.new 36, 3) := by decide +kernel
theorem dX6_init_49 : decode cX6_init 49 = .ok (.dup, 1) := by decide +kernel
theorem dX6_init_50 : decode cX6_init 50 = .ok (.invokespecial 38, 3) := by decide +kernel
theorem dX6_init_53 : decode cX6_init 53 = .ok (.putfield 39, 3) := by decide +kernel
theorem dX6_init_56 : decode cX6_init 56 = .ok (.iconst 0, 1) := by decide +kernel
theorem dX6_init_57 : decode cX6_init 57 = .ok (.istore_n 1, 1) := by decide +kernel
theorem dX6_init_58 : decode cX6_init 58 = .ok (.iload_n 1, 1) := by decide +kernel
theorem dX6_init_59 : decode cX6_init 59 = .ok (.aload_n 0, 1) := by decide +kernel
theorem dX6_init_60 : decode cX6_init 60 = .ok (.getfield 11, 3) := by decide +kernel
theorem dX6_init_63 : decode cX6_init 63 = .ok (.arraylength, 1) := by decide +kernel
theorem dX6_init_64 : decode cX6_init 64 = .ok (.if_icmp .ge 22, 3) := by decide +kernel
theorem dX6_init_67 : decode cX6_init 67 = .ok (.aload_n 0, 1) := by decide +kernel
theorem dX6_init_68 : decode cX6_init 68 = .ok (.getfield 11, 3) := by decide +kernel
theorem dX6_init_71 : decode cX6_init 71 = .ok (.iload_n 1, 1) := by decide +kernel
theorem dX6_init_72 : decode cX6_init 72 = .ok (.new 9, 3) := by decide +kernel
theorem dX6_init_75 : decode cX6_init 75 = .ok (.dup, 1) := by decide +kernel
theorem dX6_init_76 : decode cX6_init 76 = .ok (.invokespecial 43, 3) := by decide +kernel
theorem dX6_init_79 : decode cX6_init 79 = .ok (.aastore, 1) := by decide +kernel
theorem dX6_init_80 : decode cX6_init 80 = .ok (.iinc 1 1, 3) := by decide +kernel
theorem dX6_init_83 : decode cX6_init 83 = .ok (.goto (-25), 3) := by decide +kernel
theorem dX6_init_86 : decode cX6_init 86 = .ok (.return_, 1) := by decide +kernel
set_option maxRecDepth 20000 in
theorem ggX6_hang_X6_isHanging : GoodIn wsX6_hang wsX6_isHanging := goodIn_r _ [5, 6, 7, 4, 8] (by decide +kernel) (by decide +kernel)
set_option maxRecDepth 20000 in
theorem gX6_hang_X6_isHanging : GoodIn wsX6_hang (va_wsS RX6 44 yX6_isHanging wsX6_isHanging) := goodIn_app (goodIn_of _ (by decide +kernel)) ggX6_hang_X6_isHanging
set_option maxRecDepth 20000 in
theorem ggX6_hang_X6_isPoint : GoodIn wsX6_hang wsX6_isPoint := goodIn_r _ [11, 12, 13, 4, 14, 6, 7, 8] (by decide +kernel) (by decide +kernel)
set_option maxRecDepth 20000 in
theorem gX6_hang_X6_isPoint : GoodIn wsX6_hang (va_wsS RX6 48 yX6_isPoint wsX6_isPoint) := goodIn_app (goodIn_of _ (by decide +kernel)) ggX6_hang_X6_isPoint
set_option maxRecDepth 20000 in
theorem ggX6_hang_X6_isArm : GoodIn wsX6_hang wsX6_isArm := goodIn_r _ [17, 6, 7, 4, 8] (by decide +kernel) (by decide +kernel)
set_option maxRecDepth 20000 in
theorem gX6_hang_X6_isArm : GoodIn wsX6_hang (va_wsS RX6 52 yX6_isArm wsX6_isArm) := goodIn_app (goodIn_of _ (by decide +kernel)) ggX6_hang_X6_isArm
set_option maxRecDepth 20000 in
theorem ggX6_hang_X2_setUpperArm : GoodIn wsX6_hang wsX2_setUpperArm := goodIn_r _ [21, 22, 23, 24, 41, 42, 43, 44, 45, 46, 47, 48, 49, 50, 51, 52, 53] (by decide +kernel) (by decide +kernel)
set_option maxRecDepth 20000 in
theorem gX6_hang_X2_setUpperArm_n55 : GoodIn wsX6_hang (wsX2_setUpperArm) := ggX6_hang_X2_setUpperArm
set_option maxRecDepth 20000 in
theorem ggX6_hang_X2_setLowerArm : GoodIn wsX6_hang wsX2_setLowerArm := goodIn_r _ [27, 28, 29, 30, 41, 42, 43, 44, 45, 46, 47, 48, 49, 50, 51, 52, 53] (by decide +kernel) (by decide +kernel)
set_option maxRecDepth 20000 in
theorem gX6_hang_X2_setLowerArm_n59 : GoodIn wsX6_hang (wsX2_setLowerArm) := ggX6_hang_X2_setLowerArm
set_option maxRecDepth 20000 in
theorem ggX6_hang_X2_setUpright : GoodIn wsX6_hang wsX2_setUpright := goodIn_r _ [33, 34, 35, 41, 42, 43, 44, 45, 46, 47, 48, 49, 50, 51, 52, 53] (by decide +kernel) (by decide +kernel)
set_option maxRecDepth 20000 in
theorem gX6_hang_X2_setUpright_n62 : GoodIn wsX6_hang (wsX2_setUpright) := ggX6_hang_X2_setUpright
theorem dX6_hang_0 : decode cX6_hang 0 = .ok (.iload_n 1, 1) := by decide +kernel
theorem dX6_hang_1 : decode cX6_hang 1 = .ok (.invokestatic 44, 3) := by decide +kernel
theorem dX6_hang_4 : decode cX6_hang 4 = .ok (.ifCond .eq 21, 3) := by decide +kernel
theorem dX6_hang_7 : decode cX6_hang 7 = .ok (.iload_n 2, 1) := by decide +kernel
theorem dX6_hang_8 : decode cX6_hang 8 = .ok (.iload_n 3, 1) := by decide +kernel
theorem dX6_hang_9 : decode cX6_hang 9 = .ok (.invokestatic 48, 3) := by decide +kernel
theorem dX6_hang_12 : decode cX6_hang 12 = .ok (.ifCond .eq 13, 3) := by decide +kernel
theorem dX6_hang_15 : decode cX6_hang 15 = .ok (.iload 4, 2) := by decide +kernel
theorem dX6_hang_17 : decode cX6_hang 17 = .ok (.iload 5, 2) := by decide +kernel
theorem dX6_hang_19 : decode cX6_hang 19 = .ok (.invokestatic 48, 3) := by decide +kernel
theorem dX6_hang_22 : decode cX6_hang 22 = .ok (.ifCond .ne 6, 3) := by decide +kernel
theorem dX6_hang_25 : decode cX6_hang 25 = .ok (.bipush (-2), 2) := by decide +kernel
theorem dX6_hang_27 : decode cX6_hang 27 = .ok (.ireturn, 1) := by decide +kernel
theorem dX6_hang_28 : decode cX6_hang 28 = .ok (.iload 6, 2) := by decide +kernel
theorem dX6_hang_30 : decode cX6_hang 30 = .ok (.invokestatic 52, 3) := by decide +kernel
theorem dX6_hang_33 : decode cX6_hang 33 = .ok (.ifCond .eq 31, 3) := by decide +kernel
theorem dX6_hang_36 : decode cX6_hang 36 = .ok (.iload 7, 2) := by decide +kernel
theorem dX6_hang_38 : decode cX6_hang 38 = .ok (.invokestatic 52, 3) := by decide +kernel
theorem dX6_hang_41 : decode cX6_hang 41 = .ok (.ifCond .eq 23, 3) := by decide +kernel
theorem dX6_hang_44 : decode cX6_hang 44 = .ok (.iload 8, 2) := by decide +kernel
theorem dX6_hang_46 : decode cX6_hang 46 = .ok (.invokestatic 52, 3) := by decide +kernel
theorem dX6_hang_49 : decode cX6_hang 49 = .ok (.ifCond .eq 15, 3) := by decide +kernel
theorem dX6_hang_52 : decode cX6_hang 52 = .ok (.iload 9, 2) := by decide +kernel
theorem dX6_hang_54 : decode cX6_hang 54 = .ok (.iconst 1, 1) := by decide +kernel
theorem dX6_hang_55 : decode cX6_hang 55 = .ok (.if_icmp .eq 12, 3) := by decide +kernel
theorem dX6_hang_58 : decode cX6_hang 58 = .ok (.iload 9, 2) := by decide +kernel
theorem dX6_hang_60 : decode cX6_hang 60 = .ok (.iconst (-1), 1) := by decide +kernel
theorem dX6_hang_61 : decode cX6_hang 61 = .ok (.if_icmp .eq 6, 3) := by decide +kernel
theorem dX6_hang_64 : decode cX6_hang 64 = .ok (.bipush (-2), 2) := by decide +kernel
theorem dX6_hang_66 : decode cX6_hang 66 = .ok (.ireturn, 1) := by decide +kernel
theorem dX6_hang_67 : decode cX6_hang 67 = .ok (.aload_n 0, 1) := by decide +kernel
theorem dX6_hang_68 : decode cX6_hang 68 = .ok (.getfield 11, 3) := by decide +kernel
theorem dX6_hang_71 : decode cX6_hang 71 = .ok (.iload_n 1, 1) := by decide +kernel
theorem dX6_hang_72 : decode cX6_hang 72 = .ok (.aaload, 1) := by decide +kernel
theorem dX6_hang_73 : decode cX6_hang 73 = .ok (.iload_n 2, 1) := by decide +kernel
theorem dX6_hang_74 : decode cX6_hang 74 = .ok (.iload_n 3, 1) := by decide +kernel
