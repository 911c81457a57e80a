theorem dX6_hang_75 : decode cX6_hang 75 = .ok (.iload 6, 2) := by decide +kernel
theorem dX6_hang_77 : decode cX6_hang 77 = .ok (.invokevirtual 55, 3) := by decide +kernel
theorem dX6_hang_80 : decode cX6_hang 80 = .ok (.aload_n 0, 1) := by decide +kernel
theorem dX6_hang_81 : decode cX6_hang 81 = .ok (.getfield 11, 3) := by decide +kernel
theorem dX6_hang_84 : decode cX6_hang 84 = .ok (.iload_n 1, 1) := by decide +kernel
theorem dX6_hang_85 : decode cX6_hang 85 = .ok (.aaload, 1) := by decide +kernel
theorem dX6_hang_86 : decode cX6_hang 86 = .ok (.iload 4, 2) := by decide +kernel
theorem dX6_hang_88 : decode cX6_hang 88 = .ok (.iload 5, 2) := by decide +kernel
theorem dX6_hang_90 : decode cX6_hang 90 = .ok (.iload 7, 2) := by decide +kernel
theorem dX6_hang_92 : decode cX6_hang 92 = .ok (.invokevirtual 59, 3) := by decide +kernel
theorem dX6_hang_95 : decode cX6_hang 95 = .ok (.aload_n 0, 1) := by decide +kernel
theorem dX6_hang_96 : decode cX6_hang 96 = .ok (.getfield 11, 3) := by decide +kernel
theorem dX6_hang_99 : decode cX6_hang 99 = .ok (.iload_n 1, 1) := by decide +kernel
theorem dX6_hang_100 : decode cX6_hang 100 = .ok (.aaload, 1) := by decide +kernel
theorem dX6_hang_101 : decode cX6_hang 101 = .ok (.iload 8, 2) := by decide +kernel
theorem dX6_hang_103 : decode cX6_hang 103 = .ok (.iload 9, 2) := by decide +kernel
theorem dX6_hang_105 : decode cX6_hang 105 = .ok (.invokevirtual 62, 3) := by decide +kernel
theorem dX6_hang_108 : decode cX6_hang 108 = .ok (.iconst 1, 1) := by decide +kernel
theorem dX6_hang_109 : decode cX6_hang 109 = .ok (.ireturn, 1) := by decide +kernel
set_option maxRecDepth 20000 in
theorem ggX6_wheel_X6_isHanging : GoodIn wsX6_wheel wsX6_isHanging := goodIn_r _ [5, 6, 7, 4, 8] (by decide +kernel) (by decide +kernel)
set_option maxRecDepth 20000 in
theorem gX6_wheel_X6_isHanging : GoodIn wsX6_wheel (va_wsS RX6 44 yX6_isHanging wsX6_isHanging) := goodIn_app (goodIn_of _ (by decide +kernel)) ggX6_wheel_X6_isHanging
set_option maxRecDepth 20000 in
theorem ggX6_wheel_X6_isPoint : GoodIn wsX6_wheel wsX6_isPoint := goodIn_r _ [11, 12, 13, 4, 14, 6, 7, 8] (by decide +kernel) (by decide +kernel)
set_option maxRecDepth 20000 in
theorem gX6_wheel_X6_isPoint : GoodIn wsX6_wheel (va_wsS RX6 48 yX6_isPoint wsX6_isPoint) := goodIn_app (goodIn_of _ (by decide +kernel)) ggX6_wheel_X6_isPoint
set_option maxRecDepth 20000 in
theorem ggX6_wheel_X2_setRoadPoint : GoodIn wsX6_wheel wsX2_setRoadPoint := goodIn_r _ [18, 19, 20, 26, 27, 28, 29, 30, 31, 32, 33, 34, 35, 36, 37, 38] (by decide +kernel) (by decide +kernel)
set_option maxRecDepth 20000 in
theorem gX6_wheel_X2_setRoadPoint_n66 : GoodIn wsX6_wheel (wsX2_setRoadPoint) := ggX6_wheel_X2_setRoadPoint
theorem dX6_wheel_0 : decode cX6_wheel 0 = .ok (.iload_n 1, 1) := by decide +kernel
theorem dX6_wheel_1 : decode cX6_wheel 1 = .ok (.invokestatic 44, 3) := by decide +kernel
theorem dX6_wheel_4 : decode cX6_wheel 4 = .ok (.ifCond .eq 11, 3) := by decide +kernel
theorem dX6_wheel_7 : decode cX6_wheel 7 = .ok (.iload_n 2, 1) := by decide +kernel
theorem dX6_wheel_8 : decode cX6_wheel 8 = .ok (.iload_n 3, 1) := by decide +kernel
theorem dX6_wheel_9 : decode cX6_wheel 9 = .ok (.invokestatic 48, 3) := by decide +kernel
theorem dX6_wheel_12 : decode cX6_wheel 12 = .ok (.ifCond .ne 6, 3) := by decide +kernel
theorem dX6_wheel_15 : decode cX6_wheel 15 = .ok (.bipush (-2), 2) := by decide +kernel
theorem dX6_wheel_17 : decode cX6_wheel 17 = .ok (.ireturn, 1) := by decide +kernel
theorem dX6_wheel_18 : decode cX6_wheel 18 = .ok (.aload_n 0, 1) := by decide +kernel
theorem dX6_wheel_19 : decode cX6_wheel 19 = .ok (.getfield 11, 3) := by decide +kernel
theorem dX6_wheel_22 : decode cX6_wheel 22 = .ok (.iload_n 1, 1) := by decide +kernel
theorem dX6_wheel_23 : decode cX6_wheel 23 = .ok (.aaload, 1) := by decide +kernel
theorem dX6_wheel_24 : decode cX6_wheel 24 = .ok (.iload_n 2, 1) := by decide +kernel
theorem dX6_wheel_25 : decode cX6_wheel 25 = .ok (.iload_n 3, 1) := by decide +kernel
theorem dX6_wheel_26 : decode cX6_wheel 26 = .ok (.invokevirtual 66, 3) := by decide +kernel
theorem dX6_wheel_29 : decode cX6_wheel 29 = .ok (.iconst 1, 1) := by decide +kernel
theorem dX6_wheel_30 : decode cX6_wheel 30 = .ok (.ireturn, 1) := by decide +kernel
set_option maxRecDepth 20000 in
theorem ggX6_spring_X6_isHanging : GoodIn wsX6_spring wsX6_isHanging := goodIn_r _ [5, 6, 7, 4, 8] (by decide +kernel) (by decide +kernel)
set_option maxRecDepth 20000 in
theorem gX6_spring_X6_isHanging : GoodIn wsX6_spring (va_wsS RX6 44 yX6_isHanging wsX6_isHanging) := goodIn_app (goodIn_of _ (by decide +kernel)) ggX6_spring_X6_isHanging
set_option maxRecDepth 20000 in
theorem ggX6_spring_X6_isPoint : GoodIn wsX6_spring wsX6_isPoint := goodIn_r _ [11, 12, 13, 4, 14, 6, 7, 8] (by decide +kernel) (by decide +kernel)
set_option maxRecDepth 20000 in
theorem gX6_spring_X6_isPoint : GoodIn wsX6_spring (va_wsS RX6 48 yX6_isPoint wsX6_isPoint) := goodIn_app (goodIn_of _ (by decide +kernel)) ggX6_spring_X6_isPoint
set_option maxRecDepth 20000 in
theorem ggX6_spring_X6_isWithin : GoodIn wsX6_spring wsX6_isWithin := goodIn_r _ [8] (by decide +kernel) (by decide +kernel)
set_option maxRecDepth 20000 in
theorem gX6_spring_X6_isWithin : GoodIn wsX6_spring (va_wsS RX6 69 yX6_isWithin wsX6_isWithin) := goodIn_app (goodIn_of _ (by decide +kernel)) ggX6_spring_X6_isWithin
set_option maxRecDepth 20000 in
theorem ggX6_spring_X2_setSpring : GoodIn wsX6_spring wsX2_setSpring := goodIn_r _ [18, 19, 20, 21, 27, 28, 29, 30, 31, 32, 33, 34, 35, 36, 37, 38, 39] (by decide +kernel) (by decide +kernel)
set_option maxRecDepth 20000 in
theorem gX6_spring_X2_setSpring_n73 : GoodIn wsX6_spring (wsX2_setSpring) := ggX6_spring_X2_setSpring
theorem dX6_spring_0 : decode cX6_spring 0 = .ok (.iload_n 1, 1) := by decide +kernel
theorem dX6_spring_1 : decode cX6_spring 1 = .ok (.invokestatic 44, 3) := by decide +kernel
theorem dX6_spring_4 : decode cX6_spring 4 = .ok (.ifCond .eq 23, 3) := by decide +kernel
theorem dX6_spring_7 : decode cX6_spring 7 = .ok (.iload_n 2, 1) := by decide +kernel
theorem dX6_spring_8 : decode cX6_spring 8 = .ok (.iload_n 3, 1) := by decide +kernel
theorem dX6_spring_9 : decode cX6_spring 9 = .ok (.invokestatic 48, 3) := by decide +kernel
theorem dX6_spring_12 : decode cX6_spring 12 = .ok (.ifCond .eq 15, 3) := by decide +kernel
theorem dX6_spring_15 : decode cX6_spring 15 = .ok (.iload 4, 2) := by decide +kernel
theorem dX6_spring_17 : decode cX6_spring 17 = .ok (.iconst 0, 1) := by decide +kernel
theorem dX6_spring_18 : decode cX6_spring 18 = .ok (.sipush 1000, 3) := by decide +kernel
theorem dX6_spring_21 : decode cX6_spring 21 = .ok (.invokestatic 69, 3) := by decide +kernel
theorem dX6_spring_24 : decode cX6_spring 24 = .ok (.ifCond .ne 6, 3) := by decide +kernel
theorem dX6_spring_27 : decode cX6_spring 27 = .ok (.bipush (-2), 2) := by decide +kernel
theorem dX6_spring_29 : decode cX6_spring 29 = .ok (.ireturn, 1) := by decide +kernel
theorem dX6_spring_30 : decode cX6_spring 30 = .ok (.aload_n 0, 1) := by decide +kernel
theorem dX6_spring_31 : decode cX6_spring 31 = .ok (.getfield 11, 3) := by decide +kernel
theorem dX6_spring_34 : decode cX6_spring 34 = .ok (.iload_n 1, 1) := by decide +kernel
theorem dX6_spring_35 : decode cX6_spring 35 = .ok (.aaload, 1) := by decide +kernel
theorem dX6_spring_36 : decode cX6_spring 36 = .ok (.iload_n 2, 1) := by decide +kernel
theorem dX6_spring_37 : decode cX6_spring 37 = .ok (.iload_n 3, 1) := by decide +kernel
theorem dX6_spring_38 : decode cX6_spring 38 = .ok (.iload 4, 2) := by decide +kernel
theorem dX6_spring_40 : decode cX6_spring 40 = .ok (.invokevirtual 73, 3) := by decide +kernel
theorem dX6_spring_43 : decode cX6_spring 43 = .ok (.iconst 1, 1) := by decide +kernel
theorem dX6_spring_44 : decode cX6_spring 44 = .ok (.ireturn, 1) := by decide +kernel
set_option maxRecDepth 20000 in
theorem ggX6_mirror_X6_isHanging : GoodIn wsX6_mirror wsX6_isHanging := goodIn_r _ [5, 6, 7, 4, 8] (by decide +kernel) (by decide +kernel)
set_option maxRecDepth 20000 in
theorem gX6_mirror_X6_isHanging : GoodIn wsX6_mirror (va_wsS RX6 44 yX6_isHanging wsX6_isHanging) := goodIn_app (goodIn_of _ (by decide +kernel)) ggX6_mirror_X6_isHanging
set_option maxRecDepth 20000 in
theorem ggX6_mirror_X2_becomeMirrorOf : GoodIn wsX6_mirror wsX2_becomeMirrorOf := goodIn_r _ [12, 13, 14, 15, 16, 17, 18, 19, 20, 21, 22, 23, 24, 25, 26, 27, 28, 10, 29, 30, 31, 32, 33, 34, 35, 36, 37, 38, 39, 40, 41, 42, 43, 44, 45, 51, 52, 53, 54, 55, 56, 57, 58, 59, 60, 61, 62, 63] (by decide +kernel) (by decide +kernel)
set_option maxRecDepth 20000 in
theorem gX6_mirror_X2_becomeMirrorOf_n76 : GoodIn wsX6_mirror (wsX2_becomeMirrorOf) := ggX6_mirror_X2_becomeMirrorOf
theorem dX6_mirror_0 : decode cX6_mirror 0 = .ok (.iload_n 1, 1) := by decide +kernel
theorem dX6_mirror_1 : decode cX6_mirror 1 = .ok (.invokestatic 44, 3) := by decide +kernel
theorem dX6_mirror_4 : decode cX6_mirror 4 = .ok (.ifCond .eq 10, 3) := by decide +kernel
theorem dX6_mirror_7 : decode cX6_mirror 7 = .ok (.iload_n 2, 1) := by decide +kernel
theorem dX6_mirror_8 : decode cX6_mirror 8 = .ok (.invokestatic 44, 3) := by decide +kernel
theorem dX6_mirror_11 : decode cX6_mirror 11 = .ok (.ifCond .ne 6, 3) := by decide +kernel
theorem dX6_mirror_14 : decode cX6_mirror 14 = .ok (.bipush (-2), 2) := by decide +kernel
theorem dX6_mirror_16 : decode cX6_mirror 16 = .ok (.ireturn, 1) := by decide +kernel
theorem dX6_mirror_17 : decode cX6_mirror 17 = .ok (.aload_n 0, 1) := by decide +kernel
theorem dX6_mirror_18 : decode cX6_mirror 18 = .ok (.getfield 11, 3) := by decide +kernel
theorem dX6_mirror_21 : decode cX6_mirror 21 = .ok (.iload_n 2, 1) := by decide +kernel
theorem dX6_mirror_22 : decode cX6_mirror 22 = .ok (.aaload, 1) := by decide +kernel
theorem dX6_mirror_23 : decode cX6_mirror 23 = .ok (.aload_n 0, 1) := by decide +kernel
theorem dX6_mirror_24 : decode cX6_mirror 24 = .ok (.getfield 11, 3) := by decide +kernel
theorem dX6_mirror_27 : decode cX6_mirror 27 = .ok (.iload_n 1, 1) := by decide +kernel
theorem dX6_mirror_28 : decode cX6_mirror 28 = .ok (.aaload, 1) := by decide +kernel
theorem dX6_mirror_29 : decode cX6_mirror 29 = .ok (.invokevirtual 76, 3) := by decide +kernel
theorem dX6_mirror_32 : decode cX6_mirror 32 = .ok (.iconst 1, 1) := by decide +kernel
theorem dX6_mirror_33 : decode cX6_mirror 33 = .ok (.ireturn, 1) := by decide +kernel
set_option maxRecDepth 20000 in
theorem ggX6_pose_X6_isHanging : GoodIn wsX6_pose wsX6_isHanging := goodIn_r _ [8, 9, 10, 7, 11] (by decide +kernel) (by decide +kernel)
set_option maxRecDepth 20000 in
theorem gX6_pose_X6_isHanging : GoodIn wsX6_pose (va_wsS RX6 44 yX6_isHanging wsX6_isHanging) := goodIn_app (goodIn_of _ (by decide +kernel)) ggX6_pose_X6_isHanging
set_option maxRecDepth 20000 in
theorem ggX6_pose_X6_isCoordinate : GoodIn wsX6_pose wsX6_isCoordinate := goodIn_r _ [14, 9, 10, 7, 11] (by decide +kernel) (by decide +kernel)
set_option maxRecDepth 20000 in
theorem gX6_pose_X6_isCoordinate : GoodIn wsX6_pose (va_wsS RX6 80 yX6_isCoordinate wsX6_isCoordinate) := goodIn_app (goodIn_of _ (by decide +kernel)) ggX6_pose_X6_isCoordinate
set_option maxRecDepth 20000 in
theorem ggX6_pose_X6_isWithin : GoodIn wsX6_pose wsX6_isWithin := goodIn_r _ [11] (by decide +kernel) (by decide +kernel)
set_option maxRecDepth 20000 in
theorem gX6_pose_X6_isWithin : GoodIn wsX6_pose (va_wsS RX6 69 yX6_isWithin wsX6_isWithin) := goodIn_app (goodIn_of _ (by decide +kernel)) ggX6_pose_X6_isWithin
set_option maxRecDepth 20000 in
theorem ggX6_pose_X6_springShare : GoodIn wsX6_pose wsX6_springShare := goodIn_r _ [18, 3, 4, 19, 20, 21, 22, 23, 24, 25, 26, 27, 28, 29, 30, 31, 32, 33, 34, 35, 36, 37, 38, 39, 40, 41, 42, 43, 44, 45, 46, 47, 48, 49, 50, 51, 52, 53, 54, 55, 87, 88, 89, 90, 91, 92, 93, 94, 95, 96, 97, 98, 99, 100, 101, 102, 103, 104, 105, 106, 107, 108, 109, 110, 111, 112, 113, 114, 115, 116, 117, 118] (by decide +kernel) (by decide +kernel)
set_option maxRecDepth 20000 in
theorem gX6_pose_X6_springShare : GoodIn wsX6_pose (wsV RX6 85 RX6 yX6_springShare wsX6_springShare) := goodIn_app (goodIn_of _ (by decide +kernel)) ggX6_pose_X6_springShare
set_option maxRecDepth 20000 in
theorem ggX6_pose_X5_reach : GoodIn wsX6_pose wsX5_reach := goodIn_r _ [23, 24, 25, 26, 27, 28, 29, 30, 31, 32, 33, 34, 35, 36, 37, 38, 39, 40, 41, 42, 43, 44, 45, 46, 92, 93, 94, 95, 96, 97, 98, 99, 100, 101, 102, 103, 104, 105, 106, 107, 108, 109, 110, 111, 112, 113, 114, 115, 116, 117, 118] (by decide +kernel) (by decide +kernel)
set_option maxRecDepth 20000 in
theorem gX6_pose_X5_reach_n96 : GoodIn wsX6_pose (wsX5_reach) := ggX6_pose_X5_reach
set_option maxRecDepth 20000 in
theorem ggX6_pose_X5_placeUpright : GoodIn wsX6_pose wsX5_placeUpright := goodIn_r _ [58, 32, 26, 31, 28, 29, 59, 27, 60, 61, 62, 33, 34, 35, 36, 37, 38, 39, 40, 41, 42, 43, 44, 45, 46, 92, 93, 94, 95, 96, 97, 98, 99, 100, 101, 102, 103, 104, 105, 106, 107, 108, 109, 110, 111, 112, 113, 114, 115, 116, 117, 118] (by decide +kernel) (by decide +kernel)
set_option maxRecDepth 20000 in
theorem gX6_pose_X5_placeUpright_n102 : GoodIn wsX6_pose (wsX5_placeUpright) := ggX6_pose_X5_placeUpright
set_option maxRecDepth 20000 in
theorem ggX6_pose_X6_tellWheel : GoodIn wsX6_pose wsX6_tellWheel := goodIn_r _ [66, 3, 4, 51, 34, 52, 53, 37, 42, 54, 55, 67, 68, 69, 7, 70, 71, 72, 21, 73, 74, 26, 61, 62, 75, 76, 77, 27, 87, 88, 89, 90, 91, 105, 106, 107, 108, 109, 110, 111, 112, 113, 114, 115, 116, 117, 118, 92, 93, 94, 95, 96, 97, 98, 99, 100, 101, 102, 103, 104] (by decide +kernel) (by decide +kernel)
set_option maxRecDepth 20000 in
theorem gX6_pose_X6_tellWheel : GoodIn wsX6_pose (wsV RX6 105 RX6 yX6_tellWheel wsX6_tellWheel) := goodIn_app (goodIn_of _ (by decide +kernel)) ggX6_pose_X6_tellWheel
set_option maxRecDepth 20000 in
theorem ggX6_pose_X6_tellTravel : GoodIn wsX6_pose wsX6_tellTravel := goodIn_r _ [81, 3, 4, 47, 21, 48, 49, 26, 50, 27, 33, 34, 35, 36, 37, 38, 39, 40, 41, 42, 43, 44, 45, 46, 51, 52, 53, 54, 55, 82, 83, 84, 59, 24, 60, 25, 85, 86, 72, 73, 74, 61, 62, 75, 76, 77, 87, 88, 89, 90, 91, 105, 106, 107, 108, 109, 110, 111, 112, 113, 114, 115, 116, 117, 118, 92, 93, 94, 95, 96, 97, 98, 99, 100, 101, 102, 103, 104] (by decide +kernel) (by decide +kernel)
set_option maxRecDepth 20000 in
theorem gX6_pose_X6_tellTravel : GoodIn wsX6_pose (wsV RX6 108 RX6 yX6_tellTravel wsX6_tellTravel) := goodIn_app (goodIn_of _ (by decide +kernel)) ggX6_pose_X6_tellTravel
theorem dX6_pose_0 : decode cX6_pose 0 = .ok (.iload_n 1, 1) := by decide +kernel
theorem dX6_pose_1 : decode cX6_pose 1 = .ok (.invokestatic 44, 3) := by decide +kernel
theorem dX6_pose_4 : decode cX6_pose 4 = .ok (.ifCond .eq 20, 3) := by decide +kernel
theorem dX6_pose_7 : decode cX6_pose 7 = .ok (.iload_n 2, 1) := by decide +kernel
theorem dX6_pose_8 : decode cX6_pose 8 = .ok (.invokestatic 80, 3) := by decide +kernel
theorem dX6_pose_11 : decode cX6_pose 11 = .ok (.ifCond .eq 13, 3) := by decide +kernel
theorem dX6_pose_14 : decode cX6_pose 14 = .ok (.iload_n 3, 1) := by decide +kernel
theorem dX6_pose_15 : decode cX6_pose 15 = .ok (.iconst 0, 1) := by decide +kernel
theorem dX6_pose_16 : decode cX6_pose 16 = .ok (.bipush 11, 2) := by decide +kernel
theorem dX6_pose_18 : decode cX6_pose 18 = .ok (.invokestatic 69, 3) := by decide +kernel
theorem dX6_pose_21 : decode cX6_pose 21 = .ok (.ifCond .ne 7, 3) := by decide +kernel
theorem dX6_pose_24 : decode cX6_pose 24 = .ok (.ldc2_w 83, 3) := by decide +kernel
theorem dX6_pose_27 : decode cX6_pose 27 = .ok (.lreturn, 1) := by decide +kernel
theorem dX6_pose_28 : decode cX6_pose 28 = .ok (.aload_n 0, 1) := by decide +kernel
theorem dX6_pose_29 : decode cX6_pose 29 = .ok (.getfield 11, 3) := by decide +kernel
theorem dX6_pose_32 : decode cX6_pose 32 = .ok (.iload_n 1, 1) := by decide +kernel
theorem dX6_pose_33 : decode cX6_pose 33 = .ok (.aaload, 1) := by decide +kernel
theorem dX6_pose_34 : decode cX6_pose 34 = .ok (.astore 4, 2) := by decide +kernel
theorem dX6_pose_36 : decode cX6_pose 36 = .ok (.iload_n 3, 1) := by decide +kernel
theorem dX6_pose_37 : decode cX6_pose 37 = .ok (.bipush 11, 2) := by decide +kernel
theorem dX6_pose_39 : decode cX6_pose 39 = .ok (.if_icmp .ne 11, 3) := by decide +kernel
theorem dX6_pose_42 : decode cX6_pose 42 = .ok (.aload_n 0, 1) := by decide +kernel
theorem dX6_pose_43 : decode cX6_pose 43 = .ok (.aload 4, 2) := by decide +kernel
theorem dX6_pose_45 : decode cX6_pose 45 = .ok (.iload_n 2, 1) := by decide +kernel
theorem dX6_pose_46 : decode cX6_pose 46 = .ok (.invokevirtual 85, 3) := by decide +kernel
theorem dX6_pose_49 : decode cX6_pose 49 = .ok (.lreturn, 1) := by decide +kernel
theorem dX6_pose_50 : decode cX6_pose 50 = .ok (.aload_n 0, 1) := by decide +kernel
theorem dX6_pose_51 : decode cX6_pose 51 = .ok (.getfield 18, 3) := by decide +kernel
theorem dX6_pose_54 : decode cX6_pose 54 = .ok (.aload 4, 2) := by decide +kernel
theorem dX6_pose_56 : decode cX6_pose 56 = .ok (.aload 4, 2) := by decide +kernel
theorem dX6_pose_58 : decode cX6_pose 58 = .ok (.getfield 89, 3) := by decide +kernel
theorem dX6_pose_61 : decode cX6_pose 61 = .ok (.aload 4, 2) := by decide +kernel
theorem dX6_pose_63 : decode cX6_pose 63 = .ok (.getfield 93, 3) := by decide +kernel
theorem dX6_pose_66 : decode cX6_pose 66 = .ok (.iload_n 2, 1) := by decide +kernel
theorem dX6_pose_67 : decode cX6_pose 67 = .ok (.invokevirtual 96, 3) := by decide +kernel
theorem dX6_pose_70 : decode cX6_pose 70 = .ok (.ifCond .ne 7, 3) := by decide +kernel
theorem dX6_pose_73 : decode cX6_pose 73 = .ok (.ldc2_w 100, 3) := by decide +kernel
theorem dX6_pose_76 : decode cX6_pose 76 = .ok (.lreturn, 1) := by decide +kernel
theorem dX6_pose_77 : decode cX6_pose 77 = .ok (.aload_n 0, 1) := by decide +kernel
theorem dX6_pose_78 : decode cX6_pose 78 = .ok (.getfield 18, 3) := by decide +kernel
theorem dX6_pose_81 : decode cX6_pose 81 = .ok (.aload 4, 2) := by decide +kernel
theorem dX6_pose_83 : decode cX6_pose 83 = .ok (.invokevirtual 102, 3) := by decide +kernel
theorem dX6_pose_86 : decode cX6_pose 86 = .ok (.iload_n 3, 1) := by decide +kernel
theorem dX6_pose_87 : decode cX6_pose 87 = .ok (.bipush 7, 2) := by decide +kernel
theorem dX6_pose_89 : decode cX6_pose 89 = .ok (.if_icmp .ge 13, 3) := by decide +kernel
theorem dX6_pose_92 : decode cX6_pose 92 = .ok (.aload_n 0, 1) := by decide +kernel
theorem dX6_pose_93 : decode cX6_pose 93 = .ok (.aload 4, 2) := by decide +kernel
theorem dX6_pose_95 : decode cX6_pose 95 = .ok (.iload_n 3, 1) := by decide +kernel
theorem dX6_pose_96 : decode cX6_pose 96 = .ok (.invokevirtual 105, 3) := by decide +kernel
theorem dX6_pose_99 : decode cX6_pose 99 = .ok (.goto 10, 3) := by decide +kernel
theorem dX6_pose_102 : decode cX6_pose 102 = .ok (.aload_n 0, 1) := by decide +kernel
theorem dX6_pose_103 : decode cX6_pose 103 = .ok (.aload 4, 2) := by decide +kernel
theorem dX6_pose_105 : decode cX6_pose 105 = .ok (.iload_n 3, 1) := by decide +kernel
theorem dX6_pose_106 : decode cX6_pose 106 = .ok (.invokevirtual 108, 3) := by decide +kernel
theorem dX6_pose_109 : decode cX6_pose 109 = .ok (.lreturn, 1) := by decide +kernel
set_option maxRecDepth 20000 in
theorem ggX6_lock_X6_isHanging : GoodIn wsX6_lock wsX6_isHanging := goodIn_r _ [6, 7, 8, 5, 9] (by decide +kernel) (by decide +kernel)
set_option maxRecDepth 20000 in
theorem gX6_lock_X6_isHanging : GoodIn wsX6_lock (va_wsS RX6 44 yX6_isHanging wsX6_isHanging) := goodIn_app (goodIn_of _ (by decide +kernel)) ggX6_lock_X6_isHanging
set_option maxRecDepth 20000 in
theorem ggX6_lock_X6_isSpan : GoodIn wsX6_lock wsX6_isSpan := goodIn_r _ [12, 13, 14, 5, 15, 7, 8, 9] (by decide +kernel) (by decide +kernel)
set_option maxRecDepth 20000 in
theorem gX6_lock_X6_isSpan : GoodIn wsX6_lock (va_wsS RX6 111 yX6_isSpan wsX6_isSpan) := goodIn_app (goodIn_of _ (by decide +kernel)) ggX6_lock_X6_isSpan
set_option maxRecDepth 20000 in
theorem ggX6_lock_X5_reach : GoodIn wsX6_lock wsX5_reach := goodIn_r _ [19, 20, 21, 22, 23, 24, 25, 26, 27, 28, 29, 30, 31, 32, 33, 34, 35, 36, 37, 38, 39, 40, 41, 42, 48, 49, 50, 51, 52, 53, 54, 55, 56, 57, 58, 59, 60, 61, 62, 63, 64, 65, 66, 67, 68, 69, 70, 71, 72, 73, 74] (by decide +kernel) (by decide +kernel)
set_option maxRecDepth 20000 in
theorem gX6_lock_X5_reach_n96 : GoodIn wsX6_lock (wsX5_reach) := ggX6_lock_X5_reach
theorem dX6_lock_0 : decode cX6_lock 0 = .ok (.iload_n 1, 1) := by decide +kernel
theorem dX6_lock_1 : decode cX6_lock 1 = .ok (.invokestatic 44, 3) := by decide +kernel
theorem dX6_lock_4 : decode cX6_lock 4 = .ok (.ifCond .eq 11, 3) := by decide +kernel
theorem dX6_lock_7 : decode cX6_lock 7 = .ok (.iload_n 2, 1) := by decide +kernel
theorem dX6_lock_8 : decode cX6_lock 8 = .ok (.iload_n 3, 1) := by decide +kernel
theorem dX6_lock_9 : decode cX6_lock 9 = .ok (.invokestatic 111, 3) := by decide +kernel
theorem dX6_lock_12 : decode cX6_lock 12 = .ok (.ifCond .ne 7, 3) := by decide +kernel
theorem dX6_lock_15 : decode cX6_lock 15 = .ok (.sipush (-2000), 3) := by decide +kernel
theorem dX6_lock_18 : decode cX6_lock 18 = .ok (.ireturn, 1) := by decide +kernel
theorem dX6_lock_19 : decode cX6_lock 19 = .ok (.aload_n 0, 1) := by decide +kernel
theorem dX6_lock_20 : decode cX6_lock 20 = .ok (.getfield 11, 3) := by decide +kernel
theorem dX6_lock_23 : decode cX6_lock 23 = .ok (.iload_n 1, 1) := by decide +kernel
theorem dX6_lock_24 : decode cX6_lock 24 = .ok (.aaload, 1) := by decide +kernel
theorem dX6_lock_25 : decode cX6_lock 25 = .ok (.astore 4, 2) := by decide +kernel
theorem dX6_lock_27 : decode cX6_lock 27 = .ok (.iload_n 2, 1) := by decide +kernel
theorem dX6_lock_28 : decode cX6_lock 28 = .ok (.istore 5, 2) := by decide +kernel
theorem dX6_lock_30 : decode cX6_lock 30 = .ok (.iload 5, 2) := by decide +kernel
theorem dX6_lock_32 : decode cX6_lock 32 = .ok (.iload_n 3, 1) := by decide +kernel
theorem dX6_lock_33 : decode cX6_lock 33 = .ok (.if_icmp .gt 36, 3) := by decide +kernel
theorem dX6_lock_36 : decode cX6_lock 36 = .ok (.aload_n 0, 1) := by decide +kernel
theorem dX6_lock_37 : decode cX6_lock 37 = .ok (.getfield 18, 3) := by decide +kernel
theorem dX6_lock_40 : decode cX6_lock 40 = .ok (.aload 4, 2) := by decide +kernel
theorem dX6_lock_42 : decode cX6_lock 42 = .ok (.aload 4, 2) := by decide +kernel
theorem dX6_lock_44 : decode cX6_lock 44 = .ok (.getfield 89, 3) := by decide +kernel
theorem dX6_lock_47 : decode cX6_lock 47 = .ok (.aload 4, 2) := by decide +kernel
theorem dX6_lock_49 : decode cX6_lock 49 = .ok (.getfield 93, 3) := by decide +kernel
theorem dX6_lock_52 : decode cX6_lock 52 = .ok (.iload 5, 2) := by decide +kernel
theorem dX6_lock_54 : decode cX6_lock 54 = .ok (.invokevirtual 96, 3) := by decide +kernel
theorem dX6_lock_57 : decode cX6_lock 57 = .ok (.ifCond .ne 6, 3) := by decide +kernel
theorem dX6_lock_60 : decode cX6_lock 60 = .ok (.iload 5, 2) := by decide +kernel
theorem dX6_lock_62 : decode cX6_lock 62 = .ok (.ireturn, 1) := by decide +kernel
theorem dX6_lock_63 : decode cX6_lock 63 = .ok (.iinc 5 1, 3) := by decide +kernel
theorem dX6_lock_66 : decode cX6_lock 66 = .ok (.goto (-36), 3) := by decide +kernel
theorem dX6_lock_69 : decode cX6_lock 69 = .ok (.iconst (-1), 1) := by decide +kernel
theorem dX6_lock_70 : decode cX6_lock 70 = .ok (.ireturn, 1) := by decide +kernel
set_option maxRecDepth 20000 in
theorem ggX6_weight_X6_isWithin : GoodIn wsX6_weight wsX6_isWithin := goodIn_r _ [6] (by decide +kernel) (by decide +kernel)
set_option maxRecDepth 20000 in
theorem gX6_weight_X6_isWithin : GoodIn wsX6_weight (va_wsS RX6 69 yX6_isWithin wsX6_isWithin) := goodIn_app (goodIn_of _ (by decide +kernel)) ggX6_weight_X6_isWithin
set_option maxRecDepth 20000 in
theorem ggX6_weight_X0_load : GoodIn wsX6_weight wsX0_load := goodIn_r _ [10, 11, 12, 13, 19, 20, 21, 22, 23] (by decide +kernel) (by decide +kernel)
set_option maxRecDepth 20000 in
theorem gX6_weight_X0_load_n115 : GoodIn wsX6_weight (wsX0_load) := ggX6_weight_X0_load
theorem dX6_weight_0 : decode cX6_weight 0 = .ok (.iload_n 1, 1) := by decide +kernel
theorem dX6_weight_1 : decode cX6_weight 1 = .ok (.iconst 0, 1) := by decide +kernel
theorem dX6_weight_2 : decode cX6_weight 2 = .ok (.ldc 114, 2) := by decide +kernel
theorem dX6_weight_4 : decode cX6_weight 4 = .ok (.invokestatic 69, 3) := by decide +kernel
theorem dX6_weight_7 : decode cX6_weight 7 = .ok (.ifCond .eq 27, 3) := by decide +kernel
theorem dX6_weight_10 : decode cX6_weight 10 = .ok (.iload_n 2, 1) := by decide +kernel
theorem dX6_weight_11 : decode cX6_weight 11 = .ok (.iconst 0, 1) := by decide +kernel
theorem dX6_weight_12 : decode cX6_weight 12 = .ok (.sipush 1000, 3) := by decide +kernel
theorem dX6_weight_15 : decode cX6_weight 15 = .ok (.invokestatic 69, 3) := by decide +kernel
theorem dX6_weight_18 : decode cX6_weight 18 = .ok (.ifCond .eq 16, 3) := by decide +kernel
theorem dX6_weight_21 : decode cX6_weight 21 = .ok (.iload_n 3, 1) := by decide +kernel
theorem dX6_weight_22 : decode cX6_weight 22 = .ok (.sipush (-500), 3) := by decide +kernel
theorem dX6_weight_25 : decode cX6_weight 25 = .ok (.sipush 500, 3) := by decide +kernel
theorem dX6_weight_28 : decode cX6_weight 28 = .ok (.invokestatic 69, 3) := by decide +kernel
theorem dX6_weight_31 : decode cX6_weight 31 = .ok (.ifCond .ne 6, 3) := by decide +kernel
theorem dX6_weight_34 : decode cX6_weight 34 = .ok (.bipush (-2), 2) := by decide +kernel
theorem dX6_weight_36 : decode cX6_weight 36 = .ok (.ireturn, 1) := by decide +kernel
theorem dX6_weight_37 : decode cX6_weight 37 = .ok (.aload_n 0, 1) := by decide +kernel
theorem dX6_weight_38 : decode cX6_weight 38 = .ok (.getfield 25, 3) := by decide +kernel
theorem dX6_weight_41 : decode cX6_weight 41 = .ok (.iload_n 1, 1) := by decide +kernel
theorem dX6_weight_42 : decode cX6_weight 42 = .ok (.iload_n 2, 1) := by decide +kernel
theorem dX6_weight_43 : decode cX6_weight 43 = .ok (.iload_n 3, 1) := by decide +kernel
theorem dX6_weight_44 : decode cX6_weight 44 = .ok (.invokevirtual 115, 3) := by decide +kernel
theorem dX6_weight_47 : decode cX6_weight 47 = .ok (.iconst 1, 1) := by decide +kernel
theorem dX6_weight_48 : decode cX6_weight 48 = .ok (.ireturn, 1) := by decide +kernel
set_option maxRecDepth 20000 in
theorem ggX6_push_X6_isWithin : GoodIn wsX6_push wsX6_isWithin := goodIn_r _ [7] (by decide +kernel) (by decide +kernel)
set_option maxRecDepth 20000 in
theorem gX6_push_X6_isWithin : GoodIn wsX6_push (va_wsS RX6 69 yX6_isWithin wsX6_isWithin) := goodIn_app (goodIn_of _ (by decide +kernel)) ggX6_push_X6_isWithin
set_option maxRecDepth 20000 in
theorem ggX6_push_X0_lean : GoodIn wsX6_push wsX0_lean := goodIn_r _ [11, 12, 13, 19, 20, 21, 22, 23] (by decide +kernel) (by decide +kernel)
set_option maxRecDepth 20000 in
theorem gX6_push_X0_lean_n119 : GoodIn wsX6_push (wsX0_lean) := ggX6_push_X0_lean
theorem dX6_push_0 : decode cX6_push 0 = .ok (.iload_n 1, 1) := by decide +kernel
theorem dX6_push_1 : decode cX6_push 1 = .ok (.ldc 118, 2) := by decide +kernel
theorem dX6_push_3 : decode cX6_push 3 = .ok (.ldc 114, 2) := by decide +kernel
theorem dX6_push_5 : decode cX6_push 5 = .ok (.invokestatic 69, 3) := by decide +kernel
theorem dX6_push_8 : decode cX6_push 8 = .ok (.ifCond .eq 14, 3) := by decide +kernel
theorem dX6_push_11 : decode cX6_push 11 = .ok (.iload_n 2, 1) := by decide +kernel
theorem dX6_push_12 : decode cX6_push 12 = .ok (.iconst 0, 1) := by decide +kernel
theorem dX6_push_13 : decode cX6_push 13 = .ok (.sipush 1000, 3) := by decide +kernel
theorem dX6_push_16 : decode cX6_push 16 = .ok (.invokestatic 69, 3) := by decide +kernel
theorem dX6_push_19 : decode cX6_push 19 = .ok (.ifCond .ne 6, 3) := by decide +kernel
theorem dX6_push_22 : decode cX6_push 22 = .ok (.bipush (-2), 2) := by decide +kernel
theorem dX6_push_24 : decode cX6_push 24 = .ok (.ireturn, 1) := by decide +kernel
theorem dX6_push_25 : decode cX6_push 25 = .ok (.aload_n 0, 1) := by decide +kernel
theorem dX6_push_26 : decode cX6_push 26 = .ok (.getfield 25, 3) := by decide +kernel
theorem dX6_push_29 : decode cX6_push 29 = .ok (.iload_n 1, 1) := by decide +kernel
theorem dX6_push_30 : decode cX6_push 30 = .ok (.iload_n 2, 1) := by decide +kernel
theorem dX6_push_31 : decode cX6_push 31 = .ok (.invokevirtual 119, 3) := by decide +kernel
theorem dX6_push_34 : decode cX6_push 34 = .ok (.iconst 1, 1) := by decide +kernel
theorem dX6_push_35 : decode cX6_push 35 = .ok (.ireturn, 1) := by decide +kernel
set_option maxRecDepth 20000 in
theorem ggX6_carries_X6_isWithin : GoodIn wsX6_carries wsX6_isWithin := goodIn_r _ [6] (by decide +kernel) (by decide +kernel)
set_option maxRecDepth 20000 in
theorem gX6_carries_X6_isWithin : GoodIn wsX6_carries (va_wsS RX6 69 yX6_isWithin wsX6_isWithin) := goodIn_app (goodIn_of _ (by decide +kernel)) ggX6_carries_X6_isWithin
set_option maxRecDepth 20000 in
theorem ggX6_carries_X0_loadOf : GoodIn wsX6_carries wsX0_loadOf := goodIn_r _ [10, 11, 12, 13, 14, 15, 21, 22, 23, 24, 25] (by decide +kernel) (by decide +kernel)
set_option maxRecDepth 20000 in
theorem gX6_carries_X0_loadOf_n122 : GoodIn wsX6_carries (wsX0_loadOf) := ggX6_carries_X0_loadOf
theorem dX6_carries_0 : decode cX6_carries 0 = .ok (.iload_n 1, 1) := by decide +kernel
theorem dX6_carries_1 : decode cX6_carries 1 = .ok (.iconst 0, 1) := by decide +kernel
theorem dX6_carries_2 : decode cX6_carries 2 = .ok (.iconst 3, 1) := by decide +kernel
theorem dX6_carries_3 : decode cX6_carries 3 = .ok (.invokestatic 69, 3) := by decide +kernel
theorem dX6_carries_6 : decode cX6_carries 6 = .ok (.ifCond .eq 14, 3) := by decide +kernel
theorem dX6_carries_9 : decode cX6_carries 9 = .ok (.aload_n 0, 1) := by decide +kernel
theorem dX6_carries_10 : decode cX6_carries 10 = .ok (.getfield 25, 3) := by decide +kernel
theorem dX6_carries_13 : decode cX6_carries 13 = .ok (.iload_n 1, 1) := by decide +kernel
theorem dX6_carries_14 : decode cX6_carries 14 = .ok (.invokevirtual 122, 3) := by decide +kernel
theorem dX6_carries_17 : decode cX6_carries 17 = .ok (.goto 5, 3) := by decide +kernel
theorem dX6_carries_20 : decode cX6_carries 20 = .ok (.ldc 126, 2) := by decide +kernel
theorem dX6_carries_22 : decode cX6_carries 22 = .ok (.ireturn, 1) := by decide +kernel
set_option maxRecDepth 20000 in
theorem ggX6_shim_X6_isWithin : GoodIn wsX6_shim wsX6_isWithin := goodIn_r _ [5] (by decide +kernel) (by decide +kernel)
set_option maxRecDepth 20000 in
theorem gX6_shim_X6_isWithin : GoodIn wsX6_shim (va_wsS RX6 69 yX6_isWithin wsX6_isWithin) := goodIn_app (goodIn_of _ (by decide +kernel)) ggX6_shim_X6_isWithin
set_option maxRecDepth 20000 in
theorem ggX6_shim_X4_add : GoodIn wsX6_shim wsX4_add := goodIn_r _ [9, 10, 11, 17, 18] (by decide +kernel) (by decide +kernel)
set_option maxRecDepth 20000 in
theorem gX6_shim_X4_add_n127 : GoodIn wsX6_shim (wsX4_add) := ggX6_shim_X4_add
theorem dX6_shim_0 : decode cX6_shim 0 = .ok (.iload_n 1, 1) := by decide +kernel
theorem dX6_shim_1 : decode cX6_shim 1 = .ok (.iconst 1, 1) := by decide +kernel
theorem dX6_shim_2 : decode cX6_shim 2 = .ok (.sipush 500, 3) := by decide +kernel
theorem dX6_shim_5 : decode cX6_shim 5 = .ok (.invokestatic 69, 3) := by decide +kernel
theorem dX6_shim_8 : decode cX6_shim 8 = .ok (.ifCond .eq 14, 3) := by decide +kernel
theorem dX6_shim_11 : decode cX6_shim 11 = .ok (.aload_n 0, 1) := by decide +kernel
theorem dX6_shim_12 : decode cX6_shim 12 = .ok (.getfield 32, 3) := by decide +kernel
theorem dX6_shim_15 : decode cX6_shim 15 = .ok (.iload_n 1, 1) := by decide +kernel
theorem dX6_shim_16 : decode cX6_shim 16 = .ok (.invokevirtual 127, 3) := by decide +kernel
theorem dX6_shim_19 : decode cX6_shim 19 = .ok (.goto 5, 3) := by decide +kernel
theorem dX6_shim_22 : decode cX6_shim 22 = .ok (.bipush (-2), 2) := by decide +kernel
theorem dX6_shim_24 : decode cX6_shim 24 = .ok (.ireturn, 1) := by decide +kernel
set_option maxRecDepth 20000 in
theorem ggX6_best_X6_isWithin : GoodIn wsX6_best wsX6_isWithin := goodIn_r _ [5] (by decide +kernel) (by decide +kernel)
set_option maxRecDepth 20000 in
theorem gX6_best_X6_isWithin : GoodIn wsX6_best (va_wsS RX6 69 yX6_isWithin wsX6_isWithin) := goodIn_app (goodIn_of _ (by decide +kernel)) ggX6_best_X6_isWithin
set_option maxRecDepth 20000 in
theorem ggX6_best_X4_nearestSet : GoodIn wsX6_best wsX4_nearestSet := goodIn_r _ [9, 10, 11, 12, 13, 14, 15, 16, 17, 18, 19, 20, 21, 22, 23, 24, 7, 25, 26, 32, 33] (by decide +kernel) (by decide +kernel)
set_option maxRecDepth 20000 in
theorem gX6_best_X4_nearestSet_n130 : GoodIn wsX6_best (wsX4_nearestSet) := ggX6_best_X4_nearestSet
theorem dX6_best_0 : decode cX6_best 0 = .ok (.iload_n 1, 1) := by decide +kernel
theorem dX6_best_1 : decode cX6_best 1 = .ok (.iconst 0, 1) := by decide +kernel
theorem dX6_best_2 : decode cX6_best 2 = .ok (.sipush 2000, 3) := by decide +kernel
theorem dX6_best_5 : decode cX6_best 5 = .ok (.invokestatic 69, 3) := by decide +kernel
theorem dX6_best_8 : decode cX6_best 8 = .ok (.ifCond .eq 24, 3) := by decide +kernel
theorem dX6_best_11 : decode cX6_best 11 = .ok (.iload_n 2, 1) := by decide +kernel
theorem dX6_best_12 : decode cX6_best 12 = .ok (.iconst 0, 1) := by decide +kernel
theorem dX6_best_13 : decode cX6_best 13 = .ok (.iconst 3, 1) := by decide +kernel
theorem dX6_best_14 : decode cX6_best 14 = .ok (.invokestatic 69, 3) := by decide +kernel
theorem dX6_best_17 : decode cX6_best 17 = .ok (.ifCond .eq 15, 3) := by decide +kernel
theorem dX6_best_20 : decode cX6_best 20 = .ok (.aload_n 0, 1) := by decide +kernel
theorem dX6_best_21 : decode cX6_best 21 = .ok (.getfield 32, 3) := by decide +kernel
theorem dX6_best_24 : decode cX6_best 24 = .ok (.iload_n 1, 1) := by decide +kernel
theorem dX6_best_25 : decode cX6_best 25 = .ok (.iload_n 2, 1) := by decide +kernel
theorem dX6_best_26 : decode cX6_best 26 = .ok (.invokevirtual 130, 3) := by decide +kernel
theorem dX6_best_29 : decode cX6_best 29 = .ok (.goto 5, 3) := by decide +kernel
theorem dX6_best_32 : decode cX6_best 32 = .ok (.bipush (-2), 2) := by decide +kernel
theorem dX6_best_34 : decode cX6_best 34 = .ok (.ireturn, 1) := by decide +kernel
set_option maxRecDepth 20000 in
theorem ggX6_reading_X6_isCoordinate : GoodIn wsX6_reading wsX6_isCoordinate := goodIn_r _ [5, 6, 7, 4, 8] (by decide +kernel) (by decide +kernel)
set_option maxRecDepth 20000 in
theorem gX6_reading_X6_isCoordinate : GoodIn wsX6_reading (va_wsS RX6 80 yX6_isCoordinate wsX6_isCoordinate) := goodIn_app (goodIn_of _ (by decide +kernel)) ggX6_reading_X6_isCoordinate
set_option maxRecDepth 20000 in
theorem ggX6_reading_X6_isWithin : GoodIn wsX6_reading wsX6_isWithin := goodIn_r _ [8] (by decide +kernel) (by decide +kernel)
set_option maxRecDepth 20000 in
theorem gX6_reading_X6_isWithin : GoodIn wsX6_reading (va_wsS RX6 69 yX6_isWithin wsX6_isWithin) := goodIn_app (goodIn_of _ (by decide +kernel)) ggX6_reading_X6_isWithin
set_option maxRecDepth 20000 in
theorem ggX6_reading_X3_add : GoodIn wsX6_reading wsX3_add := goodIn_r _ [12, 13, 14, 15, 21, 22, 23] (by decide +kernel) (by decide +kernel)
set_option maxRecDepth 20000 in
theorem gX6_reading_X3_add_n134 : GoodIn wsX6_reading (wsX3_add) := ggX6_reading_X3_add
theorem dX6_reading_0 : decode cX6_reading 0 = .ok (.iload_n 1, 1) := by decide +kernel
theorem dX6_reading_1 : decode cX6_reading 1 = .ok (.invokestatic 80, 3) := by decide +kernel
theorem dX6_reading_4 : decode cX6_reading 4 = .ok (.ifCond .eq 28, 3) := by decide +kernel
theorem dX6_reading_7 : decode cX6_reading 7 = .ok (.iload_n 2, 1) := by decide +kernel
theorem dX6_reading_8 : decode cX6_reading 8 = .ok (.sipush (-5000), 3) := by decide +kernel
theorem dX6_reading_11 : decode cX6_reading 11 = .ok (.sipush 5000, 3) := by decide +kernel
theorem dX6_reading_14 : decode cX6_reading 14 = .ok (.invokestatic 69, 3) := by decide +kernel
theorem dX6_reading_17 : decode cX6_reading 17 = .ok (.ifCond .eq 15, 3) := by decide +kernel
theorem dX6_reading_20 : decode cX6_reading 20 = .ok (.aload_n 0, 1) := by decide +kernel
theorem dX6_reading_21 : decode cX6_reading 21 = .ok (.getfield 39, 3) := by decide +kernel
theorem dX6_reading_24 : decode cX6_reading 24 = .ok (.iload_n 1, 1) := by decide +kernel
theorem dX6_reading_25 : decode cX6_reading 25 = .ok (.iload_n 2, 1) := by decide +kernel
theorem dX6_reading_26 : decode cX6_reading 26 = .ok (.invokevirtual 134, 3) := by decide +kernel
theorem dX6_reading_29 : decode cX6_reading 29 = .ok (.goto 5, 3) := by decide +kernel
theorem dX6_reading_32 : decode cX6_reading 32 = .ok (.bipush (-2), 2) := by decide +kernel
theorem dX6_reading_34 : decode cX6_reading 34 = .ok (.ireturn, 1) := by decide +kernel
theorem dX6_clear_0 : decode cX6_clear 0 = .ok (.aload_n 0, 1) := by decide +kernel
theorem dX6_clear_1 : decode cX6_clear 1 = .ok (.getfield 39, 3) := by decide +kernel
theorem dX6_clear_4 : decode cX6_clear 4 = .ok (.getfield 136, 3) := by decide +kernel
theorem dX6_clear_7 : decode cX6_clear 7 = .ok (.istore_n 1, 1) := by decide +kernel
theorem dX6_clear_8 : decode cX6_clear 8 = .ok (.aload_n 0, 1) := by decide +kernel
theorem dX6_clear_9 : decode cX6_clear 9 = .ok (.getfield 39, 3) := by decide +kernel
theorem dX6_clear_12 : decode cX6_clear 12 = .ok (.iconst 0, 1) := by decide +kernel
theorem dX6_clear_13 : decode cX6_clear 13 = .ok (.putfield 136, 3) := by decide +kernel
theorem dX6_clear_16 : decode cX6_clear 16 = .ok (.iload_n 1, 1) := by decide +kernel
theorem dX6_clear_17 : decode cX6_clear 17 = .ok (.ireturn, 1) := by decide +kernel
set_option maxRecDepth 20000 in
theorem ggX6_off_X6_isHanging : GoodIn wsX6_off wsX6_isHanging := goodIn_r _ [7, 8, 9, 6, 10] (by decide +kernel) (by decide +kernel)
set_option maxRecDepth 20000 in
theorem gX6_off_X6_isHanging : GoodIn wsX6_off (va_wsS RX6 44 yX6_isHanging wsX6_isHanging) := goodIn_app (goodIn_of _ (by decide +kernel)) ggX6_off_X6_isHanging
set_option maxRecDepth 20000 in
theorem ggX6_off_X6_howFarOff : GoodIn wsX6_off wsX6_howFarOff := goodIn_r _ [14, 15, 16, 17, 18, 19, 20, 6, 21, 22, 23, 24, 8, 9, 10, 25, 26, 27, 28, 29, 30, 31, 32, 33, 34, 35, 36, 37, 38, 39, 40, 41, 42, 43, 44, 45, 46, 47, 48, 49, 50, 51, 52, 53, 54, 55, 56, 57, 58, 69, 70, 71, 72, 73, 74, 75, 76, 77, 78, 79, 80, 81, 64, 65, 66, 67, 68, 82, 83, 84, 85, 86, 87, 88, 89, 90, 91, 92, 93, 94, 95, 96, 97, 98] (by decide +kernel) (by decide +kernel)
set_option maxRecDepth 20000 in
theorem gX6_off_X6_howFarOff : GoodIn wsX6_off (wsV RX6 139 RX6 yX6_howFarOff wsX6_howFarOff) := goodIn_app (goodIn_of _ (by decide +kernel)) ggX6_off_X6_howFarOff
set_option maxRecDepth 20000 in
theorem ggX6_off_X1_bits : GoodIn wsX6_off wsX1_bits := goodIn_r _ [60, 61, 42, 47, 62, 63] (by decide +kernel) (by decide +kernel)
set_option maxRecDepth 20000 in
theorem gX6_off_X1_bits_n143 : GoodIn wsX6_off (wsX1_bits) := ggX6_off_X1_bits
theorem dX6_off_0 : decode cX6_off 0 = .ok (.iload_n 1, 1) := by decide +kernel
theorem dX6_off_1 : decode cX6_off 1 = .ok (.invokestatic 44, 3) := by decide +kernel
theorem dX6_off_4 : decode cX6_off 4 = .ok (.ifCond .ne 7, 3) := by decide +kernel
theorem dX6_off_7 : decode cX6_off 7 = .ok (.ldc2_w 83, 3) := by decide +kernel
theorem dX6_off_10 : decode cX6_off 10 = .ok (.lreturn, 1) := by decide +kernel
theorem dX6_off_11 : decode cX6_off 11 = .ok (.aload_n 0, 1) := by decide +kernel
theorem dX6_off_12 : decode cX6_off 12 = .ok (.aload_n 0, 1) := by decide +kernel
theorem dX6_off_13 : decode cX6_off 13 = .ok (.getfield 11, 3) := by decide +kernel
theorem dX6_off_16 : decode cX6_off 16 = .ok (.iload_n 1, 1) := by decide +kernel
theorem dX6_off_17 : decode cX6_off 17 = .ok (.aaload, 1) := by decide +kernel
theorem dX6_off_18 : decode cX6_off 18 = .ok (.iconst 0, 1) := by decide +kernel
theorem dX6_off_19 : decode cX6_off 19 = .ok (.iconst 0, 1) := by decide +kernel
theorem dX6_off_20 : decode cX6_off 20 = .ok (.invokevirtual 139, 3) := by decide +kernel
theorem dX6_off_23 : decode cX6_off 23 = .ok (.dstore_n 2, 1) := by decide +kernel
theorem dX6_off_24 : decode cX6_off 24 = .ok (.dload_n 2, 1) := by decide +kernel
theorem dX6_off_25 : decode cX6_off 25 = .ok (.dconst 0, 1) := by decide +kernel
theorem dX6_off_26 : decode cX6_off 26 = .ok (.dcmp .g, 1) := by decide +kernel
theorem dX6_off_27 : decode cX6_off 27 = .ok (.ifCond .ge 9, 3) := by decide +kernel
theorem dX6_off_30 : decode cX6_off 30 = .ok (.ldc2_w 100, 3) := by decide +kernel
theorem dX6_off_33 : decode cX6_off 33 = .ok (.goto 7, 3) := by decide +kernel
theorem dX6_off_36 : decode cX6_off 36 = .ok (.dload_n 2, 1) := by decide +kernel
theorem dX6_off_37 : decode cX6_off 37 = .ok (.invokestatic 143, 3) := by decide +kernel
theorem dX6_off_40 : decode cX6_off 40 = .ok (.lreturn, 1) := by decide +kernel
set_option maxRecDepth 20000 in
theorem ggX6_found_X6_isHanging : GoodIn wsX6_found wsX6_isHanging := goodIn_r _ [8, 9, 10, 7, 11] (by decide +kernel) (by decide +kernel)
set_option maxRecDepth 20000 in
theorem gX6_found_X6_isHanging : GoodIn wsX6_found (va_wsS RX6 44 yX6_isHanging wsX6_isHanging) := goodIn_app (goodIn_of _ (by decide +kernel)) ggX6_found_X6_isHanging
set_option maxRecDepth 20000 in
theorem ggX6_found_X6_isWithin : GoodIn wsX6_found wsX6_isWithin := goodIn_r _ [11] (by decide +kernel) (by decide +kernel)
set_option maxRecDepth 20000 in
theorem gX6_found_X6_isWithin : GoodIn wsX6_found (va_wsS RX6 69 yX6_isWithin wsX6_isWithin) := goodIn_app (goodIn_of _ (by decide +kernel)) ggX6_found_X6_isWithin
set_option maxRecDepth 20000 in
theorem ggX6_found_X6_howFarOff : GoodIn wsX6_found wsX6_howFarOff := goodIn_r _ [15, 2, 16, 17, 18, 19, 20, 7, 21, 22, 23, 24, 9, 10, 11, 25, 26, 27, 28, 29, 30, 31, 32, 33, 34, 35, 36, 37, 38, 39, 40, 41, 42, 43, 44, 45, 46, 47, 48, 49, 50, 51, 52, 53, 54, 55, 56, 57, 58, 69, 70, 71, 72, 73, 74, 75, 76, 77, 78, 79, 80, 81, 64, 65, 66, 67, 68, 82, 83, 84, 85, 86, 87, 88, 89, 90, 91, 92, 93, 94, 95, 96, 97, 98] (by decide +kernel) (by decide +kernel)
set_option maxRecDepth 20000 in
theorem gX6_found_X6_howFarOff : GoodIn wsX6_found (wsV RX6 139 RX6 yX6_howFarOff wsX6_howFarOff) := goodIn_app (goodIn_of _ (by decide +kernel)) ggX6_found_X6_howFarOff
set_option maxRecDepth 20000 in
theorem ggX6_found_X1_bits : GoodIn wsX6_found wsX1_bits := goodIn_r _ [60, 61, 42, 47, 62, 63] (by decide +kernel) (by decide +kernel)
set_option maxRecDepth 20000 in
theorem gX6_found_X1_bits_n143 : GoodIn wsX6_found (wsX1_bits) := ggX6_found_X1_bits
theorem dX6_found_0 : decode cX6_found 0 = .ok (.iload_n 1, 1) := by decide +kernel
theorem dX6_found_1 : decode cX6_found 1 = .ok (.invokestatic 44, 3) := by decide +kernel
theorem dX6_found_4 : decode cX6_found 4 = .ok (.ifCond .eq 21, 3) := by decide +kernel
theorem dX6_found_7 : decode cX6_found 7 = .ok (.iload_n 2, 1) := by decide +kernel
theorem dX6_found_8 : decode cX6_found 8 = .ok (.iconst 0, 1) := by decide +kernel
theorem dX6_found_9 : decode cX6_found 9 = .ok (.iconst 3, 1) := by decide +kernel
theorem dX6_found_10 : decode cX6_found 10 = .ok (.invokestatic 69, 3) := by decide +kernel
theorem dX6_found_13 : decode cX6_found 13 = .ok (.ifCond .eq 12, 3) := by decide +kernel
theorem dX6_found_16 : decode cX6_found 16 = .ok (.iload_n 3, 1) := by decide +kernel
theorem dX6_found_17 : decode cX6_found 17 = .ok (.iconst 0, 1) := by decide +kernel
theorem dX6_found_18 : decode cX6_found 18 = .ok (.iconst 2, 1) := by decide +kernel
theorem dX6_found_19 : decode cX6_found 19 = .ok (.invokestatic 69, 3) := by decide +kernel
theorem dX6_found_22 : decode cX6_found 22 = .ok (.ifCond .ne 7, 3) := by decide +kernel
theorem dX6_found_25 : decode cX6_found 25 = .ok (.ldc2_w 83, 3) := by decide +kernel
theorem dX6_found_28 : decode cX6_found 28 = .ok (.lreturn, 1) := by decide +kernel
theorem dX6_found_29 : decode cX6_found 29 = .ok (.ldc2_w 149, 3) := by decide +kernel
theorem dX6_found_32 : decode cX6_found 32 = .ok (.dstore 4, 2) := by decide +kernel
theorem dX6_found_34 : decode cX6_found 34 = .ok (.iconst 0, 1) := by decide +kernel
theorem dX6_found_35 : decode cX6_found 35 = .ok (.istore 6, 2) := by decide +kernel
theorem dX6_found_37 : decode cX6_found 37 = .ok (.iconst 0, 1) := by decide +kernel
theorem dX6_found_38 : decode cX6_found 38 = .ok (.istore 7, 2) := by decide +kernel
theorem dX6_found_40 : decode cX6_found 40 = .ok (.iload_n 2, 1) := by decide +kernel
theorem dX6_found_41 : decode cX6_found 41 = .ok (.ineg, 1) := by decide +kernel
theorem dX6_found_42 : decode cX6_found 42 = .ok (.istore 8, 2) := by decide +kernel
theorem dX6_found_44 : decode cX6_found 44 = .ok (.iload 8, 2) := by decide +kernel
theorem dX6_found_46 : decode cX6_found 46 = .ok (.iload_n 2, 1) := by decide +kernel
theorem dX6_found_47 : decode cX6_found 47 = .ok (.if_icmp .gt 75, 3) := by decide +kernel
theorem dX6_found_50 : decode cX6_found 50 = .ok (.iload_n 2, 1) := by decide +kernel
theorem dX6_found_51 : decode cX6_found 51 = .ok (.ineg, 1) := by decide +kernel
theorem dX6_found_52 : decode cX6_found 52 = .ok (.istore 9, 2) := by decide +kernel
theorem dX6_found_54 : decode cX6_found 54 = .ok (.iload 9, 2) := by decide +kernel
theorem dX6_found_56 : decode cX6_found 56 = .ok (.iload_n 2, 1) := by decide +kernel
theorem dX6_found_57 : decode cX6_found 57 = .ok (.if_icmp .gt 59, 3) := by decide +kernel
theorem dX6_found_60 : decode cX6_found 60 = .ok (.aload_n 0, 1) := by decide +kernel
theorem dX6_found_61 : decode cX6_found 61 = .ok (.aload_n 0, 1) := by decide +kernel
theorem dX6_found_62 : decode cX6_found 62 = .ok (.getfield 11, 3) := by decide +kernel
theorem dX6_found_65 : decode cX6_found 65 = .ok (.iload_n 1, 1) := by decide +kernel
theorem dX6_found_66 : decode cX6_found 66 = .ok (.aaload, 1) := by decide +kernel
theorem dX6_found_67 : decode cX6_found 67 = .ok (.iload 8, 2) := by decide +kernel
theorem dX6_found_69 : decode cX6_found 69 = .ok (.iload 9, 2) := by decide +kernel
theorem dX6_found_71 : decode cX6_found 71 = .ok (.invokevirtual 139, 3) := by decide +kernel
theorem dX6_found_74 : decode cX6_found 74 = .ok (.dstore 10, 2) := by decide +kernel
theorem dX6_found_76 : decode cX6_found 76 = .ok (.dload 10, 2) := by decide +kernel
theorem dX6_found_78 : decode cX6_found 78 = .ok (.dconst 0, 1) := by decide +kernel
theorem dX6_found_79 : decode cX6_found 79 = .ok (.dcmp .l, 1) := by decide +kernel
theorem dX6_found_80 : decode cX6_found 80 = .ok (.ifCond .lt 30, 3) := by decide +kernel
theorem dX6_found_83 : decode cX6_found 83 = .ok (.dload 4, 2) := by decide +kernel
theorem dX6_found_85 : decode cX6_found 85 = .ok (.dconst 0, 1) := by decide +kernel
theorem dX6_found_86 : decode cX6_found 86 = .ok (.dcmp .g, 1) := by decide +kernel
theorem dX6_found_87 : decode cX6_found 87 = .ok (.ifCond .lt 11, 3) := by decide +kernel
theorem dX6_found_90 : decode cX6_found 90 = .ok (.dload 10, 2) := by decide +kernel
theorem dX6_found_92 : decode cX6_found 92 = .ok (.dload 4, 2) := by decide +kernel
theorem dX6_found_94 : decode cX6_found 94 = .ok (.dcmp .g, 1) := by decide +kernel
theorem dX6_found_95 : decode cX6_found 95 = .ok (.ifCond .ge 15, 3) := by decide +kernel
theorem dX6_found_98 : decode cX6_found 98 = .ok (.dload 10, 2) := by decide +kernel
theorem dX6_found_100 : decode cX6_found 100 = .ok (.dstore 4, 2) := by decide +kernel
theorem dX6_found_102 : decode cX6_found 102 = .ok (.iload 8, 2) := by decide +kernel
theorem dX6_found_104 : decode cX6_found 104 = .ok (.istore 6, 2) := by decide +kernel
theorem dX6_found_106 : decode cX6_found 106 = .ok (.iload 9, 2) := by decide +kernel
theorem dX6_found_108 : decode cX6_found 108 = .ok (.istore 7, 2) := by decide +kernel
theorem dX6_found_110 : decode cX6_found 110 = .ok (.iinc 9 1, 3) := by decide +kernel
theorem dX6_found_113 : decode cX6_found 113 = .ok (.goto (-59), 3) := by decide +kernel
theorem dX6_found_116 : decode cX6_found 116 = .ok (.iinc 8 1, 3) := by decide +kernel
theorem dX6_found_119 : decode cX6_found 119 = .ok (.goto (-75), 3) := by decide +kernel
theorem dX6_found_122 : decode cX6_found 122 = .ok (.dload 4, 2) := by decide +kernel
theorem dX6_found_124 : decode cX6_found 124 = .ok (.dconst 0, 1) := by decide +kernel
theorem dX6_found_125 : decode cX6_found 125 = .ok (.dcmp .g, 1) := by decide +kernel
theorem dX6_found_126 : decode cX6_found 126 = .ok (.ifCond .ge 7, 3) := by decide +kernel
theorem dX6_found_129 : decode cX6_found 129 = .ok (.ldc2_w 100, 3) := by decide +kernel
theorem dX6_found_132 : decode cX6_found 132 = .ok (.lreturn, 1) := by decide +kernel
theorem dX6_found_133 : decode cX6_found 133 = .ok (.iload_n 3, 1) := by decide +kernel
theorem dX6_found_134 : decode cX6_found 134 = .ok (.iconst 2, 1) := by decide +kernel
theorem dX6_found_135 : decode cX6_found 135 = .ok (.if_icmp .ne 9, 3) := by decide +kernel
theorem dX6_found_138 : decode cX6_found 138 = .ok (.dload 4, 2) := by decide +kernel
theorem dX6_found_140 : decode cX6_found 140 = .ok (.invokestatic 143, 3) := by decide +kernel
theorem dX6_found_143 : decode cX6_found 143 = .ok (.lreturn, 1) := by decide +kernel
theorem dX6_found_144 : decode cX6_found 144 = .ok (.iload_n 3, 1) := by decide +kernel
theorem dX6_found_145 : decode cX6_found 145 = .ok (.ifCond .ne 8, 3) := by decide +kernel
theorem dX6_found_148 : decode cX6_found 148 = .ok (.iload 6, 2) := by decide +kernel
theorem dX6_found_150 : decode cX6_found 150 = .ok (.goto 5, 3) := by decide +kernel
theorem dX6_found_153 : decode cX6_found 153 = .ok (.iload 7, 2) := by decide +kernel
theorem dX6_found_155 : decode cX6_found 155 = .ok (.bipush 10, 2) := by decide +kernel
theorem dX6_found_157 : decode cX6_found 157 = .ok (.iadd, 1) := by decide +kernel
theorem dX6_found_158 : decode cX6_found 158 = .ok (.i2l, 1) := by decide +kernel
theorem dX6_found_159 : decode cX6_found 159 = .ok (.lreturn, 1) := by decide +kernel
set_option maxRecDepth 20000 in
theorem ggX6_isClear_X6_isHanging : GoodIn wsX6_isClear wsX6_isHanging := goodIn_r _ [6, 7, 8, 5, 9] (by decide +kernel) (by decide +kernel)
set_option maxRecDepth 20000 in
theorem gX6_isClear_X6_isHanging : GoodIn wsX6_isClear (va_wsS RX6 44 yX6_isHanging wsX6_isHanging) := goodIn_app (goodIn_of _ (by decide +kernel)) ggX6_isClear_X6_isHanging
set_option maxRecDepth 20000 in
theorem ggX6_isClear_X6_isPoint : GoodIn wsX6_isClear wsX6_isPoint := goodIn_r _ [12, 13, 14, 5, 15, 7, 8, 9] (by decide +kernel) (by decide +kernel)
set_option maxRecDepth 20000 in
theorem gX6_isClear_X6_isPoint : GoodIn wsX6_isClear (va_wsS RX6 48 yX6_isPoint wsX6_isPoint) := goodIn_app (goodIn_of _ (by decide +kernel)) ggX6_isClear_X6_isPoint
set_option maxRecDepth 20000 in
theorem ggX6_isClear_X6_isWithin : GoodIn wsX6_isClear wsX6_isWithin := goodIn_r _ [9] (by decide +kernel) (by decide +kernel)
set_option maxRecDepth 20000 in
theorem gX6_isClear_X6_isWithin : GoodIn wsX6_isClear (va_wsS RX6 69 yX6_isWithin wsX6_isWithin) := goodIn_app (goodIn_of _ (by decide +kernel)) ggX6_isClear_X6_isWithin
set_option maxRecDepth 20000 in
theorem ggX6_isClear_X6_isSpan : GoodIn wsX6_isClear wsX6_isSpan := goodIn_r _ [18, 13, 14, 5, 15, 7, 8, 9] (by decide +kernel) (by decide +kernel)
set_option maxRecDepth 20000 in
theorem gX6_isClear_X6_isSpan : GoodIn wsX6_isClear (va_wsS RX6 111 yX6_isSpan wsX6_isSpan) := goodIn_app (goodIn_of _ (by decide +kernel)) ggX6_isClear_X6_isSpan
set_option maxRecDepth 20000 in
theorem ggX6_isClear_X5_reach : GoodIn wsX6_isClear wsX5_reach := goodIn_r _ [22, 23, 24, 25, 26, 27, 28, 29, 30, 31, 32, 33, 34, 35, 36, 37, 38, 39, 40, 41, 42, 43, 44, 45, 61, 62, 63, 64, 65, 66, 67, 68, 69, 70, 71, 72, 73, 74, 75, 76, 77, 78, 79, 80, 81, 82, 83, 84, 85, 86, 87] (by decide +kernel) (by decide +kernel)
set_option maxRecDepth 20000 in
theorem gX6_isClear_X5_reach_n96 : GoodIn wsX6_isClear (wsX5_reach) := ggX6_isClear_X5_reach
set_option maxRecDepth 20000 in
theorem ggX6_isClear_X5_placeUpright : GoodIn wsX6_isClear wsX5_placeUpright := goodIn_r _ [48, 31, 25, 30, 27, 28, 49, 26, 50, 51, 52, 32, 33, 34, 35, 36, 37, 38, 39, 40, 41, 42, 43, 44, 45, 61, 62, 63, 64, 65, 66, 67, 68, 69, 70, 71, 72, 73, 74, 75, 76, 77, 78, 79, 80, 81, 82, 83, 84, 85, 86, 87] (by decide +kernel) (by decide +kernel)
set_option maxRecDepth 20000 in
theorem gX6_isClear_X5_placeUpright_n102 : GoodIn wsX6_isClear (wsX5_placeUpright) := ggX6_isClear_X5_placeUpright
set_option maxRecDepth 20000 in
theorem ggX6_isClear_X5_squareFrom : GoodIn wsX6_isClear wsX5_squareFrom := goodIn_r _ [55, 25, 49, 26, 50, 74, 75, 76, 77, 78, 79, 80, 81, 82, 83, 84, 85, 86, 87, 61, 62, 63, 64, 65, 66, 67, 68, 69, 70, 71, 72, 73] (by decide +kernel) (by decide +kernel)
set_option maxRecDepth 20000 in
theorem gX6_isClear_X5_squareFrom_n151 : GoodIn wsX6_isClear (wsX5_squareFrom) := ggX6_isClear_X5_squareFrom
theorem dX6_isClear_0 : decode cX6_isClear 0 = .ok (.iload_n 1, 1) := by decide +kernel
theorem dX6_isClear_1 : decode cX6_isClear 1 = .ok (.invokestatic 44, 3) := by decide +kernel
theorem dX6_isClear_4 : decode cX6_isClear 4 = .ok (.ifCond .eq 33, 3) := by decide +kernel
theorem dX6_isClear_7 : decode cX6_isClear 7 = .ok (.iload_n 2, 1) := by decide +kernel
theorem dX6_isClear_8 : decode cX6_isClear 8 = .ok (.iload_n 3, 1) := by decide +kernel
theorem dX6_isClear_9 : decode cX6_isClear 9 = .ok (.invokestatic 48, 3) := by decide +kernel
theorem dX6_isClear_12 : decode cX6_isClear 12 = .ok (.ifCond .eq 25, 3) := by decide +kernel
theorem dX6_isClear_15 : decode cX6_isClear 15 = .ok (.iload 4, 2) := by decide +kernel
theorem dX6_isClear_17 : decode cX6_isClear 17 = .ok (.iconst 0, 1) := by decide +kernel
theorem dX6_isClear_18 : decode cX6_isClear 18 = .ok (.sipush 500, 3) := by decide +kernel
theorem dX6_isClear_21 : decode cX6_isClear 21 = .ok (.invokestatic 69, 3) := by decide +kernel
theorem dX6_isClear_24 : decode cX6_isClear 24 = .ok (.ifCond .eq 13, 3) := by decide +kernel
theorem dX6_isClear_27 : decode cX6_isClear 27 = .ok (.iload 5, 2) := by decide +kernel
theorem dX6_isClear_29 : decode cX6_isClear 29 = .ok (.iload 6, 2) := by decide +kernel
theorem dX6_isClear_31 : decode cX6_isClear 31 = .ok (.invokestatic 111, 3) := by decide +kernel
theorem dX6_isClear_34 : decode cX6_isClear 34 = .ok (.ifCond .ne 6, 3) := by decide +kernel
theorem dX6_isClear_37 : decode cX6_isClear 37 = .ok (.bipush (-2), 2) := by decide +kernel
theorem dX6_isClear_39 : decode cX6_isClear 39 = .ok (.ireturn, 1) := by decide +kernel
theorem dX6_isClear_40 : decode cX6_isClear 40 = .ok (.aload_n 0, 1) := by decide +kernel
theorem dX6_isClear_41 : decode cX6_isClear 41 = .ok (.getfield 11, 3) := by decide +kernel
theorem dX6_isClear_44 : decode cX6_isClear 44 = .ok (.iload_n 1, 1) := by decide +kernel
theorem dX6_isClear_45 : decode cX6_isClear 45 = .ok (.aaload, 1) := by decide +kernel
theorem dX6_isClear_46 : decode cX6_isClear 46 = .ok (.astore 7, 2) := by decide +kernel
theorem dX6_isClear_48 : decode cX6_isClear 48 = .ok (.iload 5, 2) := by decide +kernel
theorem dX6_isClear_50 : decode cX6_isClear 50 = .ok (.istore 8, 2) := by decide +kernel
theorem dX6_isClear_52 : decode cX6_isClear 52 = .ok (.iload 8, 2) := by decide +kernel
theorem dX6_isClear_54 : decode cX6_isClear 54 = .ok (.iload 6, 2) := by decide +kernel
theorem dX6_isClear_56 : decode cX6_isClear 56 = .ok (.if_icmp .gt 65, 3) := by decide +kernel
theorem dX6_isClear_59 : decode cX6_isClear 59 = .ok (.aload_n 0, 1) := by decide +kernel
theorem dX6_isClear_60 : decode cX6_isClear 60 = .ok (.getfield 18, 3) := by decide +kernel
theorem dX6_isClear_63 : decode cX6_isClear 63 = .ok (.aload 7, 2) := by decide +kernel
theorem dX6_isClear_65 : decode cX6_isClear 65 = .ok (.aload 7, 2) := by decide +kernel
theorem dX6_isClear_67 : decode cX6_isClear 67 = .ok (.getfield 89, 3) := by decide +kernel
theorem dX6_isClear_70 : decode cX6_isClear 70 = .ok (.aload 7, 2) := by decide +kernel
theorem dX6_isClear_72 : decode cX6_isClear 72 = .ok (.getfield 93, 3) := by decide +kernel
theorem dX6_isClear_75 : decode cX6_isClear 75 = .ok (.iload 8, 2) := by decide +kernel
theorem dX6_isClear_77 : decode cX6_isClear 77 = .ok (.invokevirtual 96, 3) := by decide +kernel
theorem dX6_isClear_80 : decode cX6_isClear 80 = .ok (.ifCond .eq 35, 3) := by decide +kernel
theorem dX6_isClear_83 : decode cX6_isClear 83 = .ok (.aload_n 0, 1) := by decide +kernel
theorem dX6_isClear_84 : decode cX6_isClear 84 = .ok (.getfield 18, 3) := by decide +kernel
theorem dX6_isClear_87 : decode cX6_isClear 87 = .ok (.aload 7, 2) := by decide +kernel
theorem dX6_isClear_89 : decode cX6_isClear 89 = .ok (.invokevirtual 102, 3) := by decide +kernel
theorem dX6_isClear_92 : decode cX6_isClear 92 = .ok (.aload_n 0, 1) := by decide +kernel
theorem dX6_isClear_93 : decode cX6_isClear 93 = .ok (.getfield 18, 3) := by decide +kernel
theorem dX6_isClear_96 : decode cX6_isClear 96 = .ok (.aload 7, 2) := by decide +kernel
theorem dX6_isClear_98 : decode cX6_isClear 98 = .ok (.iload_n 2, 1) := by decide +kernel
theorem dX6_isClear_99 : decode cX6_isClear 99 = .ok (.iload_n 3, 1) := by decide +kernel
theorem dX6_isClear_100 : decode cX6_isClear 100 = .ok (.invokevirtual 151, 3) := by decide +kernel
theorem dX6_isClear_103 : decode cX6_isClear 103 = .ok (.iload 4, 2) := by decide +kernel
theorem dX6_isClear_105 : decode cX6_isClear 105 = .ok (.iload 4, 2) := by decide +kernel
theorem dX6_isClear_107 : decode cX6_isClear 107 = .ok (.imul, 1) := by decide +kernel
theorem dX6_isClear_108 : decode cX6_isClear 108 = .ok (.i2d, 1) := by decide +kernel
theorem dX6_isClear_109 : decode cX6_isClear 109 = .ok (.dcmp .g, 1) := by decide +kernel
theorem dX6_isClear_110 : decode cX6_isClear 110 = .ok (.ifCond .ge 5, 3) := by decide +kernel
theorem dX6_isClear_113 : decode cX6_isClear 113 = .ok (.iconst 0, 1) := by decide +kernel
theorem dX6_isClear_114 : decode cX6_isClear 114 = .ok (.ireturn, 1) := by decide +kernel
theorem dX6_isClear_115 : decode cX6_isClear 115 = .ok (.iinc 8 1, 3) := by decide +kernel
theorem dX6_isClear_118 : decode cX6_isClear 118 = .ok (.goto (-66), 3) := by decide +kernel
theorem dX6_isClear_121 : decode cX6_isClear 121 = .ok (.iconst 1, 1) := by decide +kernel
theorem dX6_isClear_122 : decode cX6_isClear 122 = .ok (.ireturn, 1) := by decide +kernel
set_option maxRecDepth 20000 in
theorem ggX6_count_X6_isWithin : GoodIn wsX6_count wsX6_isWithin := goodIn_r _ [6] (by decide +kernel) (by decide +kernel)
set_option maxRecDepth 20000 in
theorem gX6_count_X6_isWithin : GoodIn wsX6_count (va_wsS RX6 69 yX6_isWithin wsX6_isWithin) := goodIn_app (goodIn_of _ (by decide +kernel)) ggX6_count_X6_isWithin
theorem dX6_count_0 : decode cX6_count 0 = .ok (.iload_n 1, 1) := by decide +kernel
theorem dX6_count_1 : decode cX6_count 1 = .ok (.iconst 0, 1) := by decide +kernel
theorem dX6_count_2 : decode cX6_count 2 = .ok (.iconst 1, 1) := by decide +kernel
theorem dX6_count_3 : decode cX6_count 3 = .ok (.invokestatic 69, 3) := by decide +kernel
theorem dX6_count_6 : decode cX6_count 6 = .ok (.ifCond .ne 6, 3) := by decide +kernel
theorem dX6_count_9 : decode cX6_count 9 = .ok (.bipush (-2), 2) := by decide +kernel
theorem dX6_count_11 : decode cX6_count 11 = .ok (.ireturn, 1) := by decide +kernel
theorem dX6_count_12 : decode cX6_count 12 = .ok (.iload_n 1, 1) := by decide +kernel
theorem dX6_count_13 : decode cX6_count 13 = .ok (.ifCond .ne 13, 3) := by decide +kernel
theorem dX6_count_16 : decode cX6_count 16 = .ok (.aload_n 0, 1) := by decide +kernel
theorem dX6_count_17 : decode cX6_count 17 = .ok (.getfield 32, 3) := by decide +kernel
theorem dX6_count_20 : decode cX6_count 20 = .ok (.getfield 154, 3) := by decide +kernel
theorem dX6_count_23 : decode cX6_count 23 = .ok (.goto 10, 3) := by decide +kernel
theorem dX6_count_26 : decode cX6_count 26 = .ok (.aload_n 0, 1) := by decide +kernel
theorem dX6_count_27 : decode cX6_count 27 = .ok (.getfield 39, 3) := by decide +kernel
theorem dX6_count_30 : decode cX6_count 30 = .ok (.getfield 136, 3) := by decide +kernel
theorem dX6_count_33 : decode cX6_count 33 = .ok (.ireturn, 1) := by decide +kernel
set_option maxRecDepth 20000 in
theorem ggX6_digest_X6_mix : GoodIn wsX6_digest wsX6_mix := goodIn_r _ [9, 10] (by decide +kernel) (by decide +kernel)
set_option maxRecDepth 20000 in
theorem gX6_digest_X6_mix : GoodIn wsX6_digest (va_wsS RX6 157 yX6_mix wsX6_mix) := goodIn_app (goodIn_of _ (by decide +kernel)) ggX6_digest_X6_mix
set_option maxRecDepth 20000 in
theorem ggX6_digest_X2_mixInto : GoodIn wsX6_digest wsX2_mixInto := goodIn_r _ [14, 15, 16, 17, 18, 19, 20, 21, 22, 23, 24, 25, 26, 27, 7, 8, 9, 10, 60, 61, 62, 63, 64, 65, 66, 67, 68, 69, 70, 71, 72] (by decide +kernel) (by decide +kernel)
set_option maxRecDepth 20000 in
theorem gX6_digest_X2_mixInto_n161 : GoodIn wsX6_digest (wsX2_mixInto) := ggX6_digest_X2_mixInto
set_option maxRecDepth 20000 in
theorem ggX6_digest_X0_loadOf : GoodIn wsX6_digest wsX0_loadOf := goodIn_r _ [31, 32, 33, 34, 35, 36, 73, 74, 75, 76, 77] (by decide +kernel) (by decide +kernel)
set_option maxRecDepth 20000 in
theorem gX6_digest_X0_loadOf_n122 : GoodIn wsX6_digest (wsX0_loadOf) := ggX6_digest_X0_loadOf
set_option maxRecDepth 20000 in
theorem ggX6_digest_X4_mixInto : GoodIn wsX6_digest wsX4_mixInto := goodIn_r _ [40, 41, 42, 7, 8, 9, 10, 55, 56] (by decide +kernel) (by decide +kernel)
set_option maxRecDepth 20000 in
theorem gX6_digest_X4_mixInto_n165 : GoodIn wsX6_digest (wsX4_mixInto) := ggX6_digest_X4_mixInto
set_option maxRecDepth 20000 in
theorem ggX6_digest_X3_mixInto : GoodIn wsX6_digest wsX3_mixInto := goodIn_r _ [46, 47, 48, 49, 7, 8, 9, 10, 57, 58, 59] (by decide +kernel) (by decide +kernel)
set_option maxRecDepth 20000 in
theorem gX6_digest_X3_mixInto_n166 : GoodIn wsX6_digest (wsX3_mixInto) := ggX6_digest_X3_mixInto
theorem dX6_digest_0 : decode cX6_digest 0 = .ok (.ldc2_w 155, 3) := by decide +kernel
theorem dX6_digest_3 : decode cX6_digest 3 = .ok (.aload_n 0, 1) := by decide +kernel
theorem dX6_digest_4 : decode cX6_digest 4 = .ok (.getfield 32, 3) := by decide +kernel
theorem dX6_digest_7 : decode cX6_digest 7 = .ok (.getfield 154, 3) := by decide +kernel
theorem dX6_digest_10 : decode cX6_digest 10 = .ok (.invokestatic 157, 3) := by decide +kernel
theorem dX6_digest_13 : decode cX6_digest 13 = .ok (.aload_n 0, 1) := by decide +kernel
theorem dX6_digest_14 : decode cX6_digest 14 = .ok (.getfield 39, 3) := by decide +kernel
theorem dX6_digest_17 : decode cX6_digest 17 = .ok (.getfield 136, 3) := by decide +kernel
theorem dX6_digest_20 : decode cX6_digest 20 = .ok (.invokestatic 157, 3) := by decide +kernel
theorem dX6_digest_23 : decode cX6_digest 23 = .ok (.lstore_n 1, 1) := by decide +kernel
theorem dX6_digest_24 : decode cX6_digest 24 = .ok (.iconst 0, 1) := by decide +kernel
theorem dX6_digest_25 : decode cX6_digest 25 = .ok (.istore_n 3, 1) := by decide +kernel
theorem dX6_digest_26 : decode cX6_digest 26 = .ok (.iload_n 3, 1) := by decide +kernel
theorem dX6_digest_27 : decode cX6_digest 27 = .ok (.aload_n 0, 1) := by decide +kernel
theorem dX6_digest_28 : decode cX6_digest 28 = .ok (.getfield 11, 3) := by decide +kernel
theorem dX6_digest_31 : decode cX6_digest 31 = .ok (.arraylength, 1) := by decide +kernel
theorem dX6_digest_32 : decode cX6_digest 32 = .ok (.if_icmp .ge 20, 3) := by decide +kernel
theorem dX6_digest_35 : decode cX6_digest 35 = .ok (.aload_n 0, 1) := by decide +kernel
theorem dX6_digest_36 : decode cX6_digest 36 = .ok (.getfield 11, 3) := by decide +kernel
theorem dX6_digest_39 : decode cX6_digest 39 = .ok (.iload_n 3, 1) := by decide +kernel
theorem dX6_digest_40 : decode cX6_digest 40 = .ok (.aaload, 1) := by decide +kernel
theorem dX6_digest_41 : decode cX6_digest 41 = .ok (.lload_n 1, 1) := by decide +kernel
theorem dX6_digest_42 : decode cX6_digest 42 = .ok (.invokevirtual 161, 3) := by decide +kernel
theorem dX6_digest_45 : decode cX6_digest 45 = .ok (.lstore_n 1, 1) := by decide +kernel
theorem dX6_digest_46 : decode cX6_digest 46 = .ok (.iinc 3 1, 3) := by decide +kernel
theorem dX6_digest_49 : decode cX6_digest 49 = .ok (.goto (-23), 3) := by decide +kernel
theorem dX6_digest_52 : decode cX6_digest 52 = .ok (.iconst 0, 1) := by decide +kernel
theorem dX6_digest_53 : decode cX6_digest 53 = .ok (.istore_n 3, 1) := by decide +kernel
theorem dX6_digest_54 : decode cX6_digest 54 = .ok (.iload_n 3, 1) := by decide +kernel
theorem dX6_digest_55 : decode cX6_digest 55 = .ok (.iconst 4, 1) := by decide +kernel
theorem dX6_digest_56 : decode cX6_digest 56 = .ok (.if_icmp .ge 22, 3) := by decide +kernel
theorem dX6_digest_59 : decode cX6_digest 59 = .ok (.lload_n 1, 1) := by decide +kernel
theorem dX6_digest_60 : decode cX6_digest 60 = .ok (.aload_n 0, 1) := by decide +kernel
theorem dX6_digest_61 : decode cX6_digest 61 = .ok (.getfield 25, 3) := by decide +kernel
theorem dX6_digest_64 : decode cX6_digest 64 = .ok (.iload_n 3, 1) := by decide +kernel
theorem dX6_digest_65 : decode cX6_digest 65 = .ok (.invokevirtual 122, 3) := by decide +kernel
theorem dX6_digest_68 : decode cX6_digest 68 = .ok (.invokestatic 157, 3) := by decide +kernel
theorem dX6_digest_71 : decode cX6_digest 71 = .ok (.lstore_n 1, 1) := by decide +kernel
theorem dX6_digest_72 : decode cX6_digest 72 = .ok (.iinc 3 1, 3) := by decide +kernel
theorem dX6_digest_75 : decode cX6_digest 75 = .ok (.goto (-21), 3) := by decide +kernel
theorem dX6_digest_78 : decode cX6_digest 78 = .ok (.aload_n 0, 1) := by decide +kernel
theorem dX6_digest_79 : decode cX6_digest 79 = .ok (.getfield 39, 3) := by decide +kernel
theorem dX6_digest_82 : decode cX6_digest 82 = .ok (.aload_n 0, 1) := by decide +kernel
theorem dX6_digest_83 : decode cX6_digest 83 = .ok (.getfield 32, 3) := by decide +kernel
theorem dX6_digest_86 : decode cX6_digest 86 = .ok (.lload_n 1, 1) := by decide +kernel
theorem dX6_digest_87 : decode cX6_digest 87 = .ok (.invokevirtual 165, 3) := by decide +kernel
theorem dX6_digest_90 : decode cX6_digest 90 = .ok (.invokevirtual 166, 3) := by decide +kernel
theorem dX6_digest_93 : decode cX6_digest 93 = .ok (.lreturn, 1) := by decide +kernel
theorem dX6_mix_0 : decode cX6_mix 0 = .ok (.ldc2_w 167, 3) := by decide +kernel
theorem dX6_mix_3 : decode cX6_mix 3 = .ok (.lload_n 0, 1) := by decide +kernel
theorem dX6_mix_4 : decode cX6_mix 4 = .ok (.lmul, 1) := by decide +kernel
theorem dX6_mix_5 : decode cX6_mix 5 = .ok (.iload_n 2, 1) := by decide +kernel
theorem dX6_mix_6 : decode cX6_mix 6 = .ok (.i2l, 1) := by decide +kernel
theorem dX6_mix_7 : decode cX6_mix 7 = .ok (.ladd, 1) := by decide +kernel
theorem dX6_mix_8 : decode cX6_mix 8 = .ok (.lreturn, 1) := by decide +kernel
theorem dX6_isWithin_0 : decode cX6_isWithin 0 = .ok (.iload_n 0, 1) := by decide +kernel
theorem dX6_isWithin_1 : decode cX6_isWithin 1 = .ok (.iload_n 1, 1) := by decide +kernel
theorem dX6_isWithin_2 : decode cX6_isWithin 2 = .ok (.if_icmp .lt 12, 3) := by decide +kernel
theorem dX6_isWithin_5 : decode cX6_isWithin 5 = .ok (.iload_n 0, 1) := by decide +kernel
theorem dX6_isWithin_6 : decode cX6_isWithin 6 = .ok (.iload_n 2, 1) := by decide +kernel
theorem dX6_isWithin_7 : decode cX6_isWithin 7 = .ok (.if_icmp .gt 7, 3) := by decide +kernel
theorem dX6_isWithin_10 : decode cX6_isWithin 10 = .ok (.iconst 1, 1) := by decide +kernel
theorem dX6_isWithin_11 : decode cX6_isWithin 11 = .ok (.goto 4, 3) := by decide +kernel
theorem dX6_isWithin_14 : decode cX6_isWithin 14 = .ok (.iconst 0, 1) := by decide +kernel
theorem dX6_isWithin_15 : decode cX6_isWithin 15 = .ok (.ireturn, 1) := by decide +kernel
set_option maxRecDepth 20000 in
theorem ggX6_isHanging_X6_isWithin : GoodIn wsX6_isHanging wsX6_isWithin := goodIn_r _ [4] (by decide +kernel) (by decide +kernel)
set_option maxRecDepth 20000 in
theorem gX6_isHanging_X6_isWithin : GoodIn wsX6_isHanging (va_wsS RX6 69 yX6_isWithin wsX6_isWithin) := goodIn_app (goodIn_of _ (by decide +kernel)) ggX6_isHanging_X6_isWithin
theorem dX6_isHanging_0 : decode cX6_isHanging 0 = .ok (.iload_n 0, 1) := by decide +kernel
theorem dX6_isHanging_1 : decode cX6_isHanging 1 = .ok (.iconst 0, 1) := by decide +kernel
theorem dX6_isHanging_2 : decode cX6_isHanging 2 = .ok (.iconst 3, 1) := by decide +kernel
theorem dX6_isHanging_3 : decode cX6_isHanging 3 = .ok (.invokestatic 69, 3) := by decide +kernel
theorem dX6_isHanging_6 : decode cX6_isHanging 6 = .ok (.ireturn, 1) := by decide +kernel
set_option maxRecDepth 20000 in
theorem ggX6_isCoordinate_X6_isWithin : GoodIn wsX6_isCoordinate wsX6_isWithin := goodIn_r _ [4] (by decide +kernel) (by decide +kernel)
set_option maxRecDepth 20000 in
theorem gX6_isCoordinate_X6_isWithin : GoodIn wsX6_isCoordinate (va_wsS RX6 69 yX6_isWithin wsX6_isWithin) := goodIn_app (goodIn_of _ (by decide +kernel)) ggX6_isCoordinate_X6_isWithin
theorem dX6_isCoordinate_0 : decode cX6_isCoordinate 0 = .ok (.iload_n 0, 1) := by decide +kernel
theorem dX6_isCoordinate_1 : decode cX6_isCoordinate 1 = .ok (.sipush (-1000), 3) := by decide +kernel
theorem dX6_isCoordinate_4 : decode cX6_isCoordinate 4 = .ok (.sipush 1000, 3) := by decide +kernel
theorem dX6_isCoordinate_7 : decode cX6_isCoordinate 7 = .ok (.invokestatic 69, 3) := by decide +kernel
theorem dX6_isCoordinate_10 : decode cX6_isCoordinate 10 = .ok (.ireturn, 1) := by decide +kernel
set_option maxRecDepth 20000 in
theorem ggX6_isPoint_X6_isCoordinate : GoodIn wsX6_isPoint wsX6_isCoordinate := goodIn_r _ [4, 5, 6, 3, 7] (by decide +kernel) (by decide +kernel)
set_option maxRecDepth 20000 in
theorem gX6_isPoint_X6_isCoordinate : GoodIn wsX6_isPoint (va_wsS RX6 80 yX6_isCoordinate wsX6_isCoordinate) := goodIn_app (goodIn_of _ (by decide +kernel)) ggX6_isPoint_X6_isCoordinate
theorem dX6_isPoint_0 : decode cX6_isPoint 0 = .ok (.iload_n 0, 1) := by decide +kernel
theorem dX6_isPoint_1 : decode cX6_isPoint 1 = .ok (.invokestatic 80, 3) := by decide +kernel
theorem dX6_isPoint_4 : decode cX6_isPoint 4 = .ok (.ifCond .eq 14, 3) := by decide +kernel
theorem dX6_isPoint_7 : decode cX6_isPoint 7 = .ok (.iload_n 1, 1) := by decide +kernel
theorem dX6_isPoint_8 : decode cX6_isPoint 8 = .ok (.invokestatic 80, 3) := by decide +kernel
theorem dX6_isPoint_11 : decode cX6_isPoint 11 = .ok (.ifCond .eq 7, 3) := by decide +kernel
theorem dX6_isPoint_14 : decode cX6_isPoint 14 = .ok (.iconst 1, 1) := by decide +kernel
theorem dX6_isPoint_15 : decode cX6_isPoint 15 = .ok (.goto 4, 3) := by decide +kernel
theorem dX6_isPoint_18 : decode cX6_isPoint 18 = .ok (.iconst 0, 1) := by decide +kernel
theorem dX6_isPoint_19 : decode cX6_isPoint 19 = .ok (.ireturn, 1) := by decide +kernel
set_option maxRecDepth 20000 in
theorem ggX6_isArm_X6_isWithin : GoodIn wsX6_isArm wsX6_isWithin := goodIn_r _ [4] (by decide +kernel) (by decide +kernel)
set_option maxRecDepth 20000 in
theorem gX6_isArm_X6_isWithin : GoodIn wsX6_isArm (va_wsS RX6 69 yX6_isWithin wsX6_isWithin) := goodIn_app (goodIn_of _ (by decide +kernel)) ggX6_isArm_X6_isWithin
theorem dX6_isArm_0 : decode cX6_isArm 0 = .ok (.iload_n 0, 1) := by decide +kernel
theorem dX6_isArm_1 : decode cX6_isArm 1 = .ok (.bipush 50, 2) := by decide +kernel
theorem dX6_isArm_3 : decode cX6_isArm 3 = .ok (.sipush 1000, 3) := by decide +kernel
theorem dX6_isArm_6 : decode cX6_isArm 6 = .ok (.invokestatic 69, 3) := by decide +kernel
theorem dX6_isArm_9 : decode cX6_isArm 9 = .ok (.ireturn, 1) := by decide +kernel
set_option maxRecDepth 20000 in
theorem ggX6_isSpan_X6_isCoordinate : GoodIn wsX6_isSpan wsX6_isCoordinate := goodIn_r _ [4, 5, 6, 3, 7] (by decide +kernel) (by decide +kernel)
set_option maxRecDepth 20000 in
theorem gX6_isSpan_X6_isCoordinate : GoodIn wsX6_isSpan (va_wsS RX6 80 yX6_isCoordinate wsX6_isCoordinate) := goodIn_app (goodIn_of _ (by decide +kernel)) ggX6_isSpan_X6_isCoordinate
theorem dX6_isSpan_0 : decode cX6_isSpan 0 = .ok (.iload_n 0, 1) := by decide +kernel
theorem dX6_isSpan_1 : decode cX6_isSpan 1 = .ok (.invokestatic 80, 3) := by decide +kernel
theorem dX6_isSpan_4 : decode cX6_isSpan 4 = .ok (.ifCond .eq 19, 3) := by decide +kernel
theorem dX6_isSpan_7 : decode cX6_isSpan 7 = .ok (.iload_n 1, 1) := by decide +kernel
theorem dX6_isSpan_8 : decode cX6_isSpan 8 = .ok (.invokestatic 80, 3) := by decide +kernel
theorem dX6_isSpan_11 : decode cX6_isSpan 11 = .ok (.ifCond .eq 12, 3) := by decide +kernel
theorem dX6_isSpan_14 : decode cX6_isSpan 14 = .ok (.iload_n 0, 1) := by decide +kernel
theorem dX6_isSpan_15 : decode cX6_isSpan 15 = .ok (.iload_n 1, 1) := by decide +kernel
theorem dX6_isSpan_16 : decode cX6_isSpan 16 = .ok (.if_icmp .gt 7, 3) := by decide +kernel
theorem dX6_isSpan_19 : decode cX6_isSpan 19 = .ok (.iconst 1, 1) := by decide +kernel
theorem dX6_isSpan_20 : decode cX6_isSpan 20 = .ok (.goto 4, 3) := by decide +kernel
theorem dX6_isSpan_23 : decode cX6_isSpan 23 = .ok (.iconst 0, 1) := by decide +kernel
theorem dX6_isSpan_24 : decode cX6_isSpan 24 = .ok (.ireturn, 1) := by decide +kernel
set_option maxRecDepth 20000 in
theorem ggX6_tellWheel_X1_bits : GoodIn wsX6_tellWheel wsX1_bits := goodIn_r _ [5, 6, 7, 8, 9, 10] (by decide +kernel) (by decide +kernel)
set_option maxRecDepth 20000 in
theorem gX6_tellWheel_X1_bits_n143 : GoodIn wsX6_tellWheel (wsX1_bits) := ggX6_tellWheel_X1_bits
set_option maxRecDepth 20000 in
theorem ggX6_tellWheel_X6_leanBits : GoodIn wsX6_tellWheel wsX6_leanBits := goodIn_r _ [15, 1, 16, 3, 4, 5, 6, 7, 8, 9, 10, 28, 29, 30, 31, 32, 33, 34, 35, 36, 37, 38, 39, 40, 41, 42, 43, 44, 45, 46] (by decide +kernel) (by decide +kernel)
set_option maxRecDepth 20000 in
theorem gX6_tellWheel_X6_leanBits : GoodIn wsX6_tellWheel (wsV RX6 185 RX6 yX6_leanBits wsX6_leanBits) := goodIn_app (goodIn_of _ (by decide +kernel)) ggX6_tellWheel_X6_leanBits
set_option maxRecDepth 20000 in
theorem ggX6_tellWheel_X5_roadX : GoodIn wsX6_tellWheel wsX5_roadX := goodIn_r _ [20, 21, 22, 23, 33, 34, 35, 36, 37, 38, 39, 40, 41, 42, 43, 44, 45, 46, 47, 48, 49, 50, 51, 52, 53, 54, 55, 56, 57, 58, 59] (by decide +kernel) (by decide +kernel)
set_option maxRecDepth 20000 in
theorem gX6_tellWheel_X5_roadX_n189 : GoodIn wsX6_tellWheel (wsX5_roadX) := ggX6_tellWheel_X5_roadX
set_option maxRecDepth 20000 in
theorem ggX6_tellWheel_X5_roadY : GoodIn wsX6_tellWheel wsX5_roadY := goodIn_r _ [26, 27, 23, 22, 33, 34, 35, 36, 37, 38, 39, 40, 41, 42, 43, 44, 45, 46, 47, 48, 49, 50, 51, 52, 53, 54, 55, 56, 57, 58, 59] (by decide +kernel) (by decide +kernel)
set_option maxRecDepth 20000 in
theorem gX6_tellWheel_X5_roadY_n193 : GoodIn wsX6_tellWheel (wsX5_roadY) := ggX6_tellWheel_X5_roadY
theorem dX6_tellWheel_0 : decode cX6_tellWheel 0 = .ok (.iload_n 2, 1) := by decide +kernel
theorem dX6_tellWheel_1 : decode cX6_tellWheel 1 = .ok (.tableswitch 118 0 5 #[39, 50, 61, 72, 83, 106], 39) := by decide +kernel
theorem dX6_tellWheel_40 : decode cX6_tellWheel 40 = .ok (.aload_n 0, 1) := by decide +kernel
theorem dX6_tellWheel_41 : decode cX6_tellWheel 41 = .ok (.getfield 18, 3) := by decide +kernel
theorem dX6_tellWheel_44 : decode cX6_tellWheel 44 = .ok (.getfield 169, 3) := by decide +kernel
theorem dX6_tellWheel_47 : decode cX6_tellWheel 47 = .ok (.invokestatic 143, 3) := by decide +kernel
theorem dX6_tellWheel_50 : decode cX6_tellWheel 50 = .ok (.lreturn, 1) := by decide +kernel
theorem dX6_tellWheel_51 : decode cX6_tellWheel 51 = .ok (.aload_n 0, 1) := by decide +kernel
theorem dX6_tellWheel_52 : decode cX6_tellWheel 52 = .ok (.getfield 18, 3) := by decide +kernel
theorem dX6_tellWheel_55 : decode cX6_tellWheel 55 = .ok (.getfield 173, 3) := by decide +kernel
theorem dX6_tellWheel_58 : decode cX6_tellWheel 58 = .ok (.invokestatic 143, 3) := by decide +kernel
theorem dX6_tellWheel_61 : decode cX6_tellWheel 61 = .ok (.lreturn, 1) := by decide +kernel
theorem dX6_tellWheel_62 : decode cX6_tellWheel 62 = .ok (.aload_n 0, 1) := by decide +kernel
theorem dX6_tellWheel_63 : decode cX6_tellWheel 63 = .ok (.getfield 18, 3) := by decide +kernel
theorem dX6_tellWheel_66 : decode cX6_tellWheel 66 = .ok (.getfield 176, 3) := by decide +kernel
theorem dX6_tellWheel_69 : decode cX6_tellWheel 69 = .ok (.invokestatic 143, 3) := by decide +kernel
theorem dX6_tellWheel_72 : decode cX6_tellWheel 72 = .ok (.lreturn, 1) := by decide +kernel
theorem dX6_tellWheel_73 : decode cX6_tellWheel 73 = .ok (.aload_n 0, 1) := by decide +kernel
theorem dX6_tellWheel_74 : decode cX6_tellWheel 74 = .ok (.getfield 18, 3) := by decide +kernel
theorem dX6_tellWheel_77 : decode cX6_tellWheel 77 = .ok (.getfield 179, 3) := by decide +kernel
theorem dX6_tellWheel_80 : decode cX6_tellWheel 80 = .ok (.invokestatic 143, 3) := by decide +kernel
theorem dX6_tellWheel_83 : decode cX6_tellWheel 83 = .ok (.lreturn, 1) := by decide +kernel
theorem dX6_tellWheel_84 : decode cX6_tellWheel 84 = .ok (.aload_n 0, 1) := by decide +kernel
theorem dX6_tellWheel_85 : decode cX6_tellWheel 85 = .ok (.getfield 18, 3) := by decide +kernel
theorem dX6_tellWheel_88 : decode cX6_tellWheel 88 = .ok (.getfield 182, 3) := by decide +kernel
theorem dX6_tellWheel_91 : decode cX6_tellWheel 91 = .ok (.dconst 0, 1) := by decide +kernel
theorem dX6_tellWheel_92 : decode cX6_tellWheel 92 = .ok (.dcmp .l, 1) := by decide +kernel
theorem dX6_tellWheel_93 : decode cX6_tellWheel 93 = .ok (.ifCond .ne 9, 3) := by decide +kernel
theorem dX6_tellWheel_96 : decode cX6_tellWheel 96 = .ok (.ldc2_w 100, 3) := by decide +kernel
theorem dX6_tellWheel_99 : decode cX6_tellWheel 99 = .ok (.goto 7, 3) := by decide +kernel
theorem dX6_tellWheel_102 : decode cX6_tellWheel 102 = .ok (.aload_n 0, 1) := by decide +kernel
theorem dX6_tellWheel_103 : decode cX6_tellWheel 103 = .ok (.invokevirtual 185, 3) := by decide +kernel
theorem dX6_tellWheel_106 : decode cX6_tellWheel 106 = .ok (.lreturn, 1) := by decide +kernel
theorem dX6_tellWheel_107 : decode cX6_tellWheel 107 = .ok (.aload_n 0, 1) := by decide +kernel
theorem dX6_tellWheel_108 : decode cX6_tellWheel 108 = .ok (.getfield 18, 3) := by decide +kernel
theorem dX6_tellWheel_111 : decode cX6_tellWheel 111 = .ok (.aload_n 1, 1) := by decide +kernel
theorem dX6_tellWheel_112 : decode cX6_tellWheel 112 = .ok (.invokevirtual 189, 3) := by decide +kernel
theorem dX6_tellWheel_115 : decode cX6_tellWheel 115 = .ok (.invokestatic 143, 3) := by decide +kernel
theorem dX6_tellWheel_118 : decode cX6_tellWheel 118 = .ok (.lreturn, 1) := by decide +kernel
theorem dX6_tellWheel_119 : decode cX6_tellWheel 119 = .ok (.aload_n 0, 1) := by decide +kernel
theorem dX6_tellWheel_120 : decode cX6_tellWheel 120 = .ok (.getfield 18, 3) := by decide +kernel
theorem dX6_tellWheel_123 : decode cX6_tellWheel 123 = .ok (.aload_n 1, 1) := by decide +kernel
theorem dX6_tellWheel_124 : decode cX6_tellWheel 124 = .ok (.invokevirtual 193, 3) := by decide +kernel
theorem dX6_tellWheel_127 : decode cX6_tellWheel 127 = .ok (.invokestatic 143, 3) := by decide +kernel
theorem dX6_tellWheel_130 : decode cX6_tellWheel 130 = .ok (.lreturn, 1) := by decide +kernel
set_option maxRecDepth 20000 in
theorem ggX6_leanBits_X1_bits : GoodIn wsX6_leanBits wsX1_bits := goodIn_r _ [5, 6, 7, 8, 9, 10] (by decide +kernel) (by decide +kernel)
set_option maxRecDepth 20000 in
theorem gX6_leanBits_X1_bits_n143 : GoodIn wsX6_leanBits (wsX1_bits) := ggX6_leanBits_X1_bits
theorem dX6_leanBits_0 : decode cX6_leanBits 0 = .ok (.aload_n 0, 1) := by decide +kernel
theorem dX6_leanBits_1 : decode cX6_leanBits 1 = .ok (.getfield 18, 3) := by decide +kernel
theorem dX6_leanBits_4 : decode cX6_leanBits 4 = .ok (.getfield 196, 3) := by decide +kernel
theorem dX6_leanBits_7 : decode cX6_leanBits 7 = .ok (.dconst 0, 1) := by decide +kernel
theorem dX6_leanBits_8 : decode cX6_leanBits 8 = .ok (.dcmp .l, 1) := by decide +kernel
theorem dX6_leanBits_9 : decode cX6_leanBits 9 = .ok (.ifCond .ne 23, 3) := by decide +kernel
theorem dX6_leanBits_12 : decode cX6_leanBits 12 = .ok (.aload_n 0, 1) := by decide +kernel
theorem dX6_leanBits_13 : decode cX6_leanBits 13 = .ok (.getfield 18, 3) := by decide +kernel
theorem dX6_leanBits_16 : decode cX6_leanBits 16 = .ok (.getfield 182, 3) := by decide +kernel
theorem dX6_leanBits_19 : decode cX6_leanBits 19 = .ok (.dconst 0, 1) := by decide +kernel
theorem dX6_leanBits_20 : decode cX6_leanBits 20 = .ok (.dcmp .g, 1) := by decide +kernel
theorem dX6_leanBits_21 : decode cX6_leanBits 21 = .ok (.ifCond .ge 9, 3) := by decide +kernel
theorem dX6_leanBits_24 : decode cX6_leanBits 24 = .ok (.ldc2_w 199, 3) := by decide +kernel
theorem dX6_leanBits_27 : decode cX6_leanBits 27 = .ok (.goto 4, 3) := by decide +kernel
theorem dX6_leanBits_30 : decode cX6_leanBits 30 = .ok (.lconst 0, 1) := by decide +kernel
theorem dX6_leanBits_31 : decode cX6_leanBits 31 = .ok (.lreturn, 1) := by decide +kernel
theorem dX6_leanBits_32 : decode cX6_leanBits 32 = .ok (.aload_n 0, 1) := by decide +kernel
theorem dX6_leanBits_33 : decode cX6_leanBits 33 = .ok (.getfield 18, 3) := by decide +kernel
theorem dX6_leanBits_36 : decode cX6_leanBits 36 = .ok (.getfield 196, 3) := by decide +kernel
theorem dX6_leanBits_39 : decode cX6_leanBits 39 = .ok (.aload_n 0, 1) := by decide +kernel
theorem dX6_leanBits_40 : decode cX6_leanBits 40 = .ok (.getfield 18, 3) := by decide +kernel
theorem dX6_leanBits_43 : decode cX6_leanBits 43 = .ok (.getfield 182, 3) := by decide +kernel
theorem dX6_leanBits_46 : decode cX6_leanBits 46 = .ok (.ddiv, 1) := by decide +kernel
theorem dX6_leanBits_47 : decode cX6_leanBits 47 = .ok (.invokestatic 143, 3) := by decide +kernel
theorem dX6_leanBits_50 : decode cX6_leanBits 50 = .ok (.lreturn, 1) := by decide +kernel
set_option maxRecDepth 20000 in
theorem ggX6_tellTravel_X5_springLength : GoodIn wsX6_tellTravel wsX5_springLength := goodIn_r _ [6, 7, 8, 9, 10, 11, 12, 13, 14, 15, 16, 17, 18, 19, 20, 21, 22, 23, 65, 66, 67, 68, 69, 70, 71, 72, 73, 74, 75, 76, 77, 51, 52, 53, 54, 55, 56, 57, 58, 59, 60, 61, 62, 63, 64] (by decide +kernel) (by decide +kernel)
set_option maxRecDepth 20000 in
theorem gX6_tellTravel_X5_springLength_n201 : GoodIn wsX6_tellTravel (wsX5_springLength) := ggX6_tellTravel_X5_springLength
set_option maxRecDepth 20000 in
theorem ggX6_tellTravel_X1_bits : GoodIn wsX6_tellTravel wsX1_bits := goodIn_r _ [25, 26, 14, 19, 27, 28] (by decide +kernel) (by decide +kernel)
set_option maxRecDepth 20000 in
theorem gX6_tellTravel_X1_bits_n143 : GoodIn wsX6_tellTravel (wsX1_bits) := ggX6_tellTravel_X1_bits
set_option maxRecDepth 20000 in
theorem ggX6_tellTravel_X5_findCentre : GoodIn wsX6_tellTravel wsX5_findCentre := goodIn_r _ [31, 32, 33, 9, 34, 35, 7, 36, 37, 51, 52, 53, 54, 55, 56, 57, 58, 59, 60, 61, 62, 63, 64, 65, 66, 67, 68, 69, 70, 71, 72, 73, 74, 75, 76, 77] (by decide +kernel) (by decide +kernel)
set_option maxRecDepth 20000 in
theorem gX6_tellTravel_X5_findCentre_n204 : GoodIn wsX6_tellTravel (wsX5_findCentre) := ggX6_tellTravel_X5_findCentre
set_option maxRecDepth 20000 in
theorem ggX6_tellTravel_X5_roadX : GoodIn wsX6_tellTravel wsX5_roadX := goodIn_r _ [40, 7, 41, 42, 51, 52, 53, 54, 55, 56, 57, 58, 59, 60, 61, 62, 63, 64, 65, 66, 67, 68, 69, 70, 71, 72, 73, 74, 75, 76, 77] (by decide +kernel) (by decide +kernel)
set_option maxRecDepth 20000 in
theorem gX6_tellTravel_X5_roadX_n189 : GoodIn wsX6_tellTravel (wsX5_roadX) := ggX6_tellTravel_X5_roadX
set_option maxRecDepth 20000 in
theorem ggX6_tellTravel_X5_roadY : GoodIn wsX6_tellTravel wsX5_roadY := goodIn_r _ [45, 9, 42, 41, 51, 52, 53, 54, 55, 56, 57, 58, 59, 60, 61, 62, 63, 64, 65, 66, 67, 68, 69, 70, 71, 72, 73, 74, 75, 76, 77] (by decide +kernel) (by decide +kernel)
set_option maxRecDepth 20000 in
theorem gX6_tellTravel_X5_roadY_n193 : GoodIn wsX6_tellTravel (wsX5_roadY) := ggX6_tellTravel_X5_roadY
theorem dX6_tellTravel_0 : decode cX6_tellTravel 0 = .ok (.iload_n 2, 1) := by decide +kernel
theorem dX6_tellTravel_1 : decode cX6_tellTravel 1 = .ok (.bipush 10, 2) := by decide +kernel
theorem dX6_tellTravel_3 : decode cX6_tellTravel 3 = .ok (.if_icmp .ne 15, 3) := by decide +kernel
theorem dX6_tellTravel_6 : decode cX6_tellTravel 6 = .ok (.aload_n 0, 1) := by decide +kernel
theorem dX6_tellTravel_7 : decode cX6_tellTravel 7 = .ok (.getfield 18, 3) := by decide +kernel
theorem dX6_tellTravel_10 : decode cX6_tellTravel 10 = .ok (.aload_n 1, 1) := by decide +kernel
theorem dX6_tellTravel_11 : decode cX6_tellTravel 11 = .ok (.invokevirtual 201, 3) := by decide +kernel
theorem dX6_tellTravel_14 : decode cX6_tellTravel 14 = .ok (.invokestatic 143, 3) := by decide +kernel
theorem dX6_tellTravel_17 : decode cX6_tellTravel 17 = .ok (.lreturn, 1) := by decide +kernel
theorem dX6_tellTravel_18 : decode cX6_tellTravel 18 = .ok (.aload_n 0, 1) := by decide +kernel
theorem dX6_tellTravel_19 : decode cX6_tellTravel 19 = .ok (.getfield 18, 3) := by decide +kernel
theorem dX6_tellTravel_22 : decode cX6_tellTravel 22 = .ok (.aload_n 1, 1) := by decide +kernel
theorem dX6_tellTravel_23 : decode cX6_tellTravel 23 = .ok (.invokevirtual 204, 3) := by decide +kernel
theorem dX6_tellTravel_26 : decode cX6_tellTravel 26 = .ok (.ifCond .ne 7, 3) := by decide +kernel
theorem dX6_tellTravel_29 : decode cX6_tellTravel 29 = .ok (.ldc2_w 100, 3) := by decide +kernel
theorem dX6_tellTravel_32 : decode cX6_tellTravel 32 = .ok (.lreturn, 1) := by decide +kernel
theorem dX6_tellTravel_33 : decode cX6_tellTravel 33 = .ok (.iload_n 2, 1) := by decide +kernel
theorem dX6_tellTravel_34 : decode cX6_tellTravel 34 = .ok (.bipush 7, 2) := by decide +kernel
theorem dX6_tellTravel_36 : decode cX6_tellTravel 36 = .ok (.if_icmp .ne 14, 3) := by decide +kernel
theorem dX6_tellTravel_39 : decode cX6_tellTravel 39 = .ok (.aload_n 0, 1) := by decide +kernel
theorem dX6_tellTravel_40 : decode cX6_tellTravel 40 = .ok (.getfield 18, 3) := by decide +kernel
theorem dX6_tellTravel_43 : decode cX6_tellTravel 43 = .ok (.getfield 208, 3) := by decide +kernel
theorem dX6_tellTravel_46 : decode cX6_tellTravel 46 = .ok (.invokestatic 143, 3) := by decide +kernel
theorem dX6_tellTravel_49 : decode cX6_tellTravel 49 = .ok (.lreturn, 1) := by decide +kernel
theorem dX6_tellTravel_50 : decode cX6_tellTravel 50 = .ok (.iload_n 2, 1) := by decide +kernel
theorem dX6_tellTravel_51 : decode cX6_tellTravel 51 = .ok (.bipush 8, 2) := by decide +kernel
theorem dX6_tellTravel_53 : decode cX6_tellTravel 53 = .ok (.if_icmp .ne 14, 3) := by decide +kernel
theorem dX6_tellTravel_56 : decode cX6_tellTravel 56 = .ok (.aload_n 0, 1) := by decide +kernel
theorem dX6_tellTravel_57 : decode cX6_tellTravel 57 = .ok (.getfield 18, 3) := by decide +kernel
theorem dX6_tellTravel_60 : decode cX6_tellTravel 60 = .ok (.getfield 211, 3) := by decide +kernel
theorem dX6_tellTravel_63 : decode cX6_tellTravel 63 = .ok (.invokestatic 143, 3) := by decide +kernel
theorem dX6_tellTravel_66 : decode cX6_tellTravel 66 = .ok (.lreturn, 1) := by decide +kernel
theorem dX6_tellTravel_67 : decode cX6_tellTravel 67 = .ok (.aload_n 0, 1) := by decide +kernel
theorem dX6_tellTravel_68 : decode cX6_tellTravel 68 = .ok (.getfield 18, 3) := by decide +kernel
theorem dX6_tellTravel_71 : decode cX6_tellTravel 71 = .ok (.aload_n 1, 1) := by decide +kernel
theorem dX6_tellTravel_72 : decode cX6_tellTravel 72 = .ok (.invokevirtual 189, 3) := by decide +kernel
theorem dX6_tellTravel_75 : decode cX6_tellTravel 75 = .ok (.dstore_n 3, 1) := by decide +kernel
theorem dX6_tellTravel_76 : decode cX6_tellTravel 76 = .ok (.aload_n 0, 1) := by decide +kernel
theorem dX6_tellTravel_77 : decode cX6_tellTravel 77 = .ok (.getfield 18, 3) := by decide +kernel
theorem dX6_tellTravel_80 : decode cX6_tellTravel 80 = .ok (.aload_n 1, 1) := by decide +kernel
theorem dX6_tellTravel_81 : decode cX6_tellTravel 81 = .ok (.invokevirtual 193, 3) := by decide +kernel
theorem dX6_tellTravel_84 : decode cX6_tellTravel 84 = .ok (.dstore 5, 2) := by decide +kernel
theorem dX6_tellTravel_86 : decode cX6_tellTravel 86 = .ok (.aload_n 0, 1) := by decide +kernel
theorem dX6_tellTravel_87 : decode cX6_tellTravel 87 = .ok (.getfield 18, 3) := by decide +kernel
theorem dX6_tellTravel_90 : decode cX6_tellTravel 90 = .ok (.getfield 208, 3) := by decide +kernel
theorem dX6_tellTravel_93 : decode cX6_tellTravel 93 = .ok (.dload_n 3, 1) := by decide +kernel
theorem dX6_tellTravel_94 : decode cX6_tellTravel 94 = .ok (.dsub, 1) := by decide +kernel
theorem dX6_tellTravel_95 : decode cX6_tellTravel 95 = .ok (.dconst 0, 1) := by decide +kernel
theorem dX6_tellTravel_96 : decode cX6_tellTravel 96 = .ok (.dcmp .l, 1) := by decide +kernel
theorem dX6_tellTravel_97 : decode cX6_tellTravel 97 = .ok (.ifCond .ne 7, 3) := by decide +kernel
theorem dX6_tellTravel_100 : decode cX6_tellTravel 100 = .ok (.ldc2_w 100, 3) := by decide +kernel
theorem dX6_tellTravel_103 : decode cX6_tellTravel 103 = .ok (.lreturn, 1) := by decide +kernel
theorem dX6_tellTravel_104 : decode cX6_tellTravel 104 = .ok (.dload 5, 2) := by decide +kernel
theorem dX6_tellTravel_106 : decode cX6_tellTravel 106 = .ok (.dconst 0, 1) := by decide +kernel
theorem dX6_tellTravel_107 : decode cX6_tellTravel 107 = .ok (.dload_n 3, 1) := by decide +kernel
theorem dX6_tellTravel_108 : decode cX6_tellTravel 108 = .ok (.dsub, 1) := by decide +kernel
theorem dX6_tellTravel_109 : decode cX6_tellTravel 109 = .ok (.aload_n 0, 1) := by decide +kernel
theorem dX6_tellTravel_110 : decode cX6_tellTravel 110 = .ok (.getfield 18, 3) := by decide +kernel
theorem dX6_tellTravel_113 : decode cX6_tellTravel 113 = .ok (.getfield 211, 3) := by decide +kernel
theorem dX6_tellTravel_116 : decode cX6_tellTravel 116 = .ok (.dload 5, 2) := by decide +kernel
theorem dX6_tellTravel_118 : decode cX6_tellTravel 118 = .ok (.dsub, 1) := by decide +kernel
theorem dX6_tellTravel_119 : decode cX6_tellTravel 119 = .ok (.dmul, 1) := by decide +kernel
theorem dX6_tellTravel_120 : decode cX6_tellTravel 120 = .ok (.aload_n 0, 1) := by decide +kernel
theorem dX6_tellTravel_121 : decode cX6_tellTravel 121 = .ok (.getfield 18, 3) := by decide +kernel
theorem dX6_tellTravel_124 : decode cX6_tellTravel 124 = .ok (.getfield 208, 3) := by decide +kernel
theorem dX6_tellTravel_127 : decode cX6_tellTravel 127 = .ok (.dload_n 3, 1) := by decide +kernel
theorem dX6_tellTravel_128 : decode cX6_tellTravel 128 = .ok (.dsub, 1) := by decide +kernel
theorem dX6_tellTravel_129 : decode cX6_tellTravel 129 = .ok (.ddiv, 1) := by decide +kernel
theorem dX6_tellTravel_130 : decode cX6_tellTravel 130 = .ok (.dadd, 1) := by decide +kernel
theorem dX6_tellTravel_131 : decode cX6_tellTravel 131 = .ok (.invokestatic 143, 3) := by decide +kernel
theorem dX6_tellTravel_134 : decode cX6_tellTravel 134 = .ok (.lreturn, 1) := by decide +kernel
set_option maxRecDepth 20000 in
theorem ggX6_springShare_X5_reach : GoodIn wsX6_springShare wsX5_reach := goodIn_r _ [7, 8, 9, 10, 11, 12, 13, 14, 15, 16, 17, 18, 19, 20, 21, 22, 23, 24, 25, 26, 27, 28, 29, 30, 45, 46, 47, 48, 49, 50, 51, 52, 53, 54, 55, 56, 57, 58, 59, 60, 61, 62, 63, 64, 65, 66, 67, 68, 69, 70, 71] (by decide +kernel) (by decide +kernel)
set_option maxRecDepth 20000 in
theorem gX6_springShare_X5_reach_n96 : GoodIn wsX6_springShare (wsX5_reach) := ggX6_springShare_X5_reach
set_option maxRecDepth 20000 in
theorem ggX6_springShare_X5_springLength : GoodIn wsX6_springShare wsX5_springLength := goodIn_r _ [33, 10, 34, 11, 17, 18, 19, 20, 21, 22, 23, 24, 25, 26, 27, 28, 29, 30, 45, 46, 47, 48, 49, 50, 51, 52, 53, 54, 55, 56, 57, 58, 59, 60, 61, 62, 63, 64, 65, 66, 67, 68, 69, 70, 71] (by decide +kernel) (by decide +kernel)
set_option maxRecDepth 20000 in
theorem gX6_springShare_X5_springLength_n201 : GoodIn wsX6_springShare (wsX5_springLength) := ggX6_springShare_X5_springLength
set_option maxRecDepth 20000 in
theorem ggX6_springShare_X1_bits : GoodIn wsX6_springShare wsX1_bits := goodIn_r _ [36, 37, 21, 26, 38, 39] (by decide +kernel) (by decide +kernel)
set_option maxRecDepth 20000 in
theorem gX6_springShare_X1_bits_n143 : GoodIn wsX6_springShare (wsX1_bits) := ggX6_springShare_X1_bits
theorem dX6_springShare_0 : decode cX6_springShare 0 = .ok (.aload_n 0, 1) := by decide +kernel
theorem dX6_springShare_1 : decode cX6_springShare 1 = .ok (.getfield 18, 3) := by decide +kernel
theorem dX6_springShare_4 : decode cX6_springShare 4 = .ok (.aload_n 1, 1) := by decide +kernel
theorem dX6_springShare_5 : decode cX6_springShare 5 = .ok (.aload_n 1, 1) := by decide +kernel
theorem dX6_springShare_6 : decode cX6_springShare 6 = .ok (.getfield 89, 3) := by decide +kernel
theorem dX6_springShare_9 : decode cX6_springShare 9 = .ok (.aload_n 1, 1) := by decide +kernel
theorem dX6_springShare_10 : decode cX6_springShare 10 = .ok (.getfield 93, 3) := by decide +kernel
theorem dX6_springShare_13 : decode cX6_springShare 13 = .ok (.iload_n 2, 1) := by decide +kernel
theorem dX6_springShare_14 : decode cX6_springShare 14 = .ok (.iconst 1, 1) := by decide +kernel
theorem dX6_springShare_15 : decode cX6_springShare 15 = .ok (.isub, 1) := by decide +kernel
theorem dX6_springShare_16 : decode cX6_springShare 16 = .ok (.invokevirtual 96, 3) := by decide +kernel
theorem dX6_springShare_19 : decode cX6_springShare 19 = .ok (.ifCond .ne 7, 3) := by decide +kernel
theorem dX6_springShare_22 : decode cX6_springShare 22 = .ok (.ldc2_w 100, 3) := by decide +kernel
theorem dX6_springShare_25 : decode cX6_springShare 25 = .ok (.lreturn, 1) := by decide +kernel
theorem dX6_springShare_26 : decode cX6_springShare 26 = .ok (.aload_n 0, 1) := by decide +kernel
theorem dX6_springShare_27 : decode cX6_springShare 27 = .ok (.getfield 18, 3) := by decide +kernel
theorem dX6_springShare_30 : decode cX6_springShare 30 = .ok (.aload_n 1, 1) := by decide +kernel
theorem dX6_springShare_31 : decode cX6_springShare 31 = .ok (.invokevirtual 201, 3) := by decide +kernel
theorem dX6_springShare_34 : decode cX6_springShare 34 = .ok (.dstore_n 3, 1) := by decide +kernel
theorem dX6_springShare_35 : decode cX6_springShare 35 = .ok (.aload_n 0, 1) := by decide +kernel
theorem dX6_springShare_36 : decode cX6_springShare 36 = .ok (.getfield 18, 3) := by decide +kernel
theorem dX6_springShare_39 : decode cX6_springShare 39 = .ok (.aload_n 1, 1) := by decide +kernel
theorem dX6_springShare_40 : decode cX6_springShare 40 = .ok (.aload_n 1, 1) := by decide +kernel
theorem dX6_springShare_41 : decode cX6_springShare 41 = .ok (.getfield 89, 3) := by decide +kernel
theorem dX6_springShare_44 : decode cX6_springShare 44 = .ok (.aload_n 1, 1) := by decide +kernel
theorem dX6_springShare_45 : decode cX6_springShare 45 = .ok (.getfield 93, 3) := by decide +kernel
theorem dX6_springShare_48 : decode cX6_springShare 48 = .ok (.iload_n 2, 1) := by decide +kernel
theorem dX6_springShare_49 : decode cX6_springShare 49 = .ok (.iconst 1, 1) := by decide +kernel
theorem dX6_springShare_50 : decode cX6_springShare 50 = .ok (.iadd, 1) := by decide +kernel
theorem dX6_springShare_51 : decode cX6_springShare 51 = .ok (.invokevirtual 96, 3) := by decide +kernel
theorem dX6_springShare_54 : decode cX6_springShare 54 = .ok (.ifCond .ne 7, 3) := by decide +kernel
theorem dX6_springShare_57 : decode cX6_springShare 57 = .ok (.ldc2_w 100, 3) := by decide +kernel
theorem dX6_springShare_60 : decode cX6_springShare 60 = .ok (.lreturn, 1) := by decide +kernel
theorem dX6_springShare_61 : decode cX6_springShare 61 = .ok (.dload_n 3, 1) := by decide +kernel
theorem dX6_springShare_62 : decode cX6_springShare 62 = .ok (.aload_n 0, 1) := by decide +kernel
theorem dX6_springShare_63 : decode cX6_springShare 63 = .ok (.getfield 18, 3) := by decide +kernel
theorem dX6_springShare_66 : decode cX6_springShare 66 = .ok (.aload_n 1, 1) := by decide +kernel
theorem dX6_springShare_67 : decode cX6_springShare 67 = .ok (.invokevirtual 201, 3) := by decide +kernel
theorem dX6_springShare_70 : decode cX6_springShare 70 = .ok (.dsub, 1) := by decide +kernel
theorem dX6_springShare_71 : decode cX6_springShare 71 = .ok (.ldc2_w 214, 3) := by decide +kernel
theorem dX6_springShare_74 : decode cX6_springShare 74 = .ok (.ddiv, 1) := by decide +kernel
theorem dX6_springShare_75 : decode cX6_springShare 75 = .ok (.invokestatic 143, 3) := by decide +kernel
theorem dX6_springShare_78 : decode cX6_springShare 78 = .ok (.lreturn, 1) := by decide +kernel
set_option maxRecDepth 20000 in
theorem ggX6_howFarOff_X6_isPoint : GoodIn wsX6_howFarOff wsX6_isPoint := goodIn_r _ [8, 9, 10, 7, 11, 12, 13, 14] (by decide +kernel) (by decide +kernel)
set_option maxRecDepth 20000 in
theorem gX6_howFarOff_X6_isPoint : GoodIn wsX6_howFarOff (va_wsS RX6 48 yX6_isPoint wsX6_isPoint) := goodIn_app (goodIn_of _ (by decide +kernel)) ggX6_howFarOff_X6_isPoint
set_option maxRecDepth 20000 in
theorem ggX6_howFarOff_X5_reach : GoodIn wsX6_howFarOff wsX5_reach := goodIn_r _ [18, 19, 20, 21, 22, 23, 24, 25, 26, 27, 28, 29, 30, 31, 32, 33, 34, 35, 36, 37, 38, 39, 40, 41, 49, 50, 51, 52, 53, 54, 55, 56, 57, 58, 59, 60, 61, 70, 71, 72, 73, 74, 75, 76, 77, 78, 79, 80, 81, 82, 83] (by decide +kernel) (by decide +kernel)
set_option maxRecDepth 20000 in
theorem gX6_howFarOff_X5_reach_n96 : GoodIn wsX6_howFarOff (wsX5_reach) := ggX6_howFarOff_X5_reach
set_option maxRecDepth 20000 in
theorem ggX6_howFarOff_X5_placeUpright : GoodIn wsX6_howFarOff wsX5_placeUpright := goodIn_r _ [44, 27, 21, 26, 23, 24, 45, 22, 46, 47, 48, 28, 29, 30, 31, 32, 33, 34, 35, 36, 37, 38, 39, 40, 41, 49, 50, 51, 52, 53, 54, 55, 56, 57, 58, 59, 60, 61, 70, 71, 72, 73, 74, 75, 76, 77, 78, 79, 80, 81, 82, 83] (by decide +kernel) (by decide +kernel)
set_option maxRecDepth 20000 in
theorem gX6_howFarOff_X5_placeUpright_n102 : GoodIn wsX6_howFarOff (wsX5_placeUpright) := ggX6_howFarOff_X5_placeUpright
theorem dX6_howFarOff_0 : decode cX6_howFarOff 0 = .ok (.aload_n 1, 1) := by decide +kernel
theorem dX6_howFarOff_1 : decode cX6_howFarOff 1 = .ok (.getfield 89, 3) := by decide +kernel
theorem dX6_howFarOff_4 : decode cX6_howFarOff 4 = .ok (.iload_n 2, 1) := by decide +kernel
theorem dX6_howFarOff_5 : decode cX6_howFarOff 5 = .ok (.iadd, 1) := by decide +kernel
theorem dX6_howFarOff_6 : decode cX6_howFarOff 6 = .ok (.istore 4, 2) := by decide +kernel
theorem dX6_howFarOff_8 : decode cX6_howFarOff 8 = .ok (.aload_n 1, 1) := by decide +kernel
theorem dX6_howFarOff_9 : decode cX6_howFarOff 9 = .ok (.getfield 93, 3) := by decide +kernel
theorem dX6_howFarOff_12 : decode cX6_howFarOff 12 = .ok (.iload_n 3, 1) := by decide +kernel
theorem dX6_howFarOff_13 : decode cX6_howFarOff 13 = .ok (.iadd, 1) := by decide +kernel
theorem dX6_howFarOff_14 : decode cX6_howFarOff 14 = .ok (.istore 5, 2) := by decide +kernel
theorem dX6_howFarOff_16 : decode cX6_howFarOff 16 = .ok (.iload 4, 2) := by decide +kernel
theorem dX6_howFarOff_18 : decode cX6_howFarOff 18 = .ok (.iload 5, 2) := by decide +kernel
theorem dX6_howFarOff_20 : decode cX6_howFarOff 20 = .ok (.invokestatic 48, 3) := by decide +kernel
theorem dX6_howFarOff_23 : decode cX6_howFarOff 23 = .ok (.ifCond .ne 7, 3) := by decide +kernel
theorem dX6_howFarOff_26 : decode cX6_howFarOff 26 = .ok (.ldc2_w 149, 3) := by decide +kernel
theorem dX6_howFarOff_29 : decode cX6_howFarOff 29 = .ok (.dreturn, 1) := by decide +kernel
theorem dX6_howFarOff_30 : decode cX6_howFarOff 30 = .ok (.dconst 0, 1) := by decide +kernel
theorem dX6_howFarOff_31 : decode cX6_howFarOff 31 = .ok (.dstore 6, 2) := by decide +kernel
theorem dX6_howFarOff_33 : decode cX6_howFarOff 33 = .ok (.iconst 0, 1) := by decide +kernel
theorem dX6_howFarOff_34 : decode cX6_howFarOff 34 = .ok (.istore 8, 2) := by decide +kernel
theorem dX6_howFarOff_36 : decode cX6_howFarOff 36 = .ok (.iload 8, 2) := by decide +kernel
theorem dX6_howFarOff_38 : decode cX6_howFarOff 38 = .ok (.aload_n 0, 1) := by decide +kernel
theorem dX6_howFarOff_39 : decode cX6_howFarOff 39 = .ok (.getfield 39, 3) := by decide +kernel
theorem dX6_howFarOff_42 : decode cX6_howFarOff 42 = .ok (.getfield 136, 3) := by decide +kernel
theorem dX6_howFarOff_45 : decode cX6_howFarOff 45 = .ok (.if_icmp .ge 105, 3) := by decide +kernel
theorem dX6_howFarOff_48 : decode cX6_howFarOff 48 = .ok (.aload_n 0, 1) := by decide +kernel
theorem dX6_howFarOff_49 : decode cX6_howFarOff 49 = .ok (.getfield 18, 3) := by decide +kernel
theorem dX6_howFarOff_52 : decode cX6_howFarOff 52 = .ok (.aload_n 1, 1) := by decide +kernel
theorem dX6_howFarOff_53 : decode cX6_howFarOff 53 = .ok (.iload 4, 2) := by decide +kernel
theorem dX6_howFarOff_55 : decode cX6_howFarOff 55 = .ok (.iload 5, 2) := by decide +kernel
theorem dX6_howFarOff_57 : decode cX6_howFarOff 57 = .ok (.aload_n 0, 1) := by decide +kernel
theorem dX6_howFarOff_58 : decode cX6_howFarOff 58 = .ok (.getfield 39, 3) := by decide +kernel
theorem dX6_howFarOff_61 : decode cX6_howFarOff 61 = .ok (.getfield 216, 3) := by decide +kernel
theorem dX6_howFarOff_64 : decode cX6_howFarOff 64 = .ok (.iload 8, 2) := by decide +kernel
theorem dX6_howFarOff_66 : decode cX6_howFarOff 66 = .ok (.iaload, 1) := by decide +kernel
theorem dX6_howFarOff_67 : decode cX6_howFarOff 67 = .ok (.invokevirtual 96, 3) := by decide +kernel
theorem dX6_howFarOff_70 : decode cX6_howFarOff 70 = .ok (.ifCond .ne 7, 3) := by decide +kernel
theorem dX6_howFarOff_73 : decode cX6_howFarOff 73 = .ok (.ldc2_w 149, 3) := by decide +kernel
theorem dX6_howFarOff_76 : decode cX6_howFarOff 76 = .ok (.dreturn, 1) := by decide +kernel
theorem dX6_howFarOff_77 : decode cX6_howFarOff 77 = .ok (.aload_n 0, 1) := by decide +kernel
theorem dX6_howFarOff_78 : decode cX6_howFarOff 78 = .ok (.getfield 18, 3) := by decide +kernel
theorem dX6_howFarOff_81 : decode cX6_howFarOff 81 = .ok (.aload_n 1, 1) := by decide +kernel
theorem dX6_howFarOff_82 : decode cX6_howFarOff 82 = .ok (.invokevirtual 102, 3) := by decide +kernel
theorem dX6_howFarOff_85 : decode cX6_howFarOff 85 = .ok (.aload_n 0, 1) := by decide +kernel
theorem dX6_howFarOff_86 : decode cX6_howFarOff 86 = .ok (.getfield 18, 3) := by decide +kernel
theorem dX6_howFarOff_89 : decode cX6_howFarOff 89 = .ok (.getfield 182, 3) := by decide +kernel
theorem dX6_howFarOff_92 : decode cX6_howFarOff 92 = .ok (.dconst 0, 1) := by decide +kernel
theorem dX6_howFarOff_93 : decode cX6_howFarOff 93 = .ok (.dcmp .l, 1) := by decide +kernel
theorem dX6_howFarOff_94 : decode cX6_howFarOff 94 = .ok (.ifCond .ne 7, 3) := by decide +kernel
theorem dX6_howFarOff_97 : decode cX6_howFarOff 97 = .ok (.ldc2_w 149, 3) := by decide +kernel
theorem dX6_howFarOff_100 : decode cX6_howFarOff 100 = .ok (.dreturn, 1) := by decide +kernel
theorem dX6_howFarOff_101 : decode cX6_howFarOff 101 = .ok (.ldc2_w 220, 3) := by decide +kernel
theorem dX6_howFarOff_104 : decode cX6_howFarOff 104 = .ok (.aload_n 0, 1) := by decide +kernel
theorem dX6_howFarOff_105 : decode cX6_howFarOff 105 = .ok (.getfield 18, 3) := by decide +kernel
theorem dX6_howFarOff_108 : decode cX6_howFarOff 108 = .ok (.getfield 196, 3) := by decide +kernel
theorem dX6_howFarOff_111 : decode cX6_howFarOff 111 = .ok (.aload_n 0, 1) := by decide +kernel
theorem dX6_howFarOff_112 : decode cX6_howFarOff 112 = .ok (.getfield 18, 3) := by decide +kernel
theorem dX6_howFarOff_115 : decode cX6_howFarOff 115 = .ok (.getfield 182, 3) := by decide +kernel
theorem dX6_howFarOff_118 : decode cX6_howFarOff 118 = .ok (.ddiv, 1) := by decide +kernel
theorem dX6_howFarOff_119 : decode cX6_howFarOff 119 = .ok (.dmul, 1) := by decide +kernel
theorem dX6_howFarOff_120 : decode cX6_howFarOff 120 = .ok (.aload_n 0, 1) := by decide +kernel
theorem dX6_howFarOff_121 : decode cX6_howFarOff 121 = .ok (.getfield 39, 3) := by decide +kernel
theorem dX6_howFarOff_124 : decode cX6_howFarOff 124 = .ok (.getfield 222, 3) := by decide +kernel
theorem dX6_howFarOff_127 : decode cX6_howFarOff 127 = .ok (.iload 8, 2) := by decide +kernel
theorem dX6_howFarOff_129 : decode cX6_howFarOff 129 = .ok (.iaload, 1) := by decide +kernel
theorem dX6_howFarOff_130 : decode cX6_howFarOff 130 = .ok (.i2d, 1) := by decide +kernel
theorem dX6_howFarOff_131 : decode cX6_howFarOff 131 = .ok (.dsub, 1) := by decide +kernel
theorem dX6_howFarOff_132 : decode cX6_howFarOff 132 = .ok (.dstore 9, 2) := by decide +kernel
theorem dX6_howFarOff_134 : decode cX6_howFarOff 134 = .ok (.dload 6, 2) := by decide +kernel
theorem dX6_howFarOff_136 : decode cX6_howFarOff 136 = .ok (.dload 9, 2) := by decide +kernel
theorem dX6_howFarOff_138 : decode cX6_howFarOff 138 = .ok (.dload 9, 2) := by decide +kernel
theorem dX6_howFarOff_140 : decode cX6_howFarOff 140 = .ok (.dmul, 1) := by decide +kernel
theorem dX6_howFarOff_141 : decode cX6_howFarOff 141 = .ok (.dadd, 1) := by decide +kernel
theorem dX6_howFarOff_142 : decode cX6_howFarOff 142 = .ok (.dstore 6, 2) := by decide +kernel
theorem dX6_howFarOff_144 : decode cX6_howFarOff 144 = .ok (.iinc 8 1, 3) := by decide +kernel
theorem dX6_howFarOff_147 : decode cX6_howFarOff 147 = .ok (.goto (-111), 3) := by decide +kernel
theorem dX6_howFarOff_150 : decode cX6_howFarOff 150 = .ok (.dload 6, 2) := by decide +kernel
theorem dX6_howFarOff_152 : decode cX6_howFarOff 152 = .ok (.dreturn, 1) := by decide +kernel
theorem dX7_in_0 : decode cX7_in 0 = .ok (.iload_n 0, 1) := by decide +kernel
theorem dX7_in_1 : decode cX7_in 1 = .ok (.iload_n 1, 1) := by decide +kernel
theorem dX7_in_2 : decode cX7_in 2 = .ok (.if_icmp .lt 12, 3) := by decide +kernel
theorem dX7_in_5 : decode cX7_in 5 = .ok (.iload_n 0, 1) := by decide +kernel
theorem dX7_in_6 : decode cX7_in 6 = .ok (.iload_n 2, 1) := by decide +kernel
theorem dX7_in_7 : decode cX7_in 7 = .ok (.if_icmp .gt 7, 3) := by decide +kernel
theorem dX7_in_10 : decode cX7_in 10 = .ok (.iconst 1, 1) := by decide +kernel
theorem dX7_in_11 : decode cX7_in 11 = .ok (.goto 4, 3) := by decide +kernel
theorem dX7_in_14 : decode cX7_in 14 = .ok (.iconst 0, 1) := by decide +kernel
theorem dX7_in_15 : decode cX7_in 15 = .ok (.ireturn, 1) := by decide +kernel
theorem dX7_bitsOf_0 : decode cX7_bitsOf 0 = .ok (.dload_n 0, 1) := by decide +kernel
theorem dX7_bitsOf_1 : decode cX7_bitsOf 1 = .ok (.dconst 0, 1) := by decide +kernel
theorem dX7_bitsOf_2 : decode cX7_bitsOf 2 = .ok (.dcmp .g, 1) := by decide +kernel
theorem dX7_bitsOf_3 : decode cX7_bitsOf 3 = .ok (.ifCond .lt 17, 3) := by decide +kernel
theorem dX7_bitsOf_6 : decode cX7_bitsOf 6 = .ok (.dload_n 0, 1) := by decide +kernel
theorem dX7_bitsOf_7 : decode cX7_bitsOf 7 = .ok (.dconst 0, 1) := by decide +kernel
theorem dX7_bitsOf_8 : decode cX7_bitsOf 8 = .ok (.dcmp .l, 1) := by decide +kernel
theorem dX7_bitsOf_9 : decode cX7_bitsOf 9 = .ok (.ifCond .ne 15, 3) := by decide +kernel
theorem dX7_bitsOf_12 : decode cX7_bitsOf 12 = .ok (.dconst 1, 1) := by decide +kernel
theorem dX7_bitsOf_13 : decode cX7_bitsOf 13 = .ok (.dload_n 0, 1) := by decide +kernel
theorem dX7_bitsOf_14 : decode cX7_bitsOf 14 = .ok (.ddiv, 1) := by decide +kernel
theorem dX7_bitsOf_15 : decode cX7_bitsOf 15 = .ok (.dconst 0, 1) := by decide +kernel
theorem dX7_bitsOf_16 : decode cX7_bitsOf 16 = .ok (.dcmp .g, 1) := by decide +kernel
theorem dX7_bitsOf_17 : decode cX7_bitsOf 17 = .ok (.ifCond .ge 7, 3) := by decide +kernel
theorem dX7_bitsOf_20 : decode cX7_bitsOf 20 = .ok (.iconst 1, 1) := by decide +kernel
theorem dX7_bitsOf_21 : decode cX7_bitsOf 21 = .ok (.goto 4, 3) := by decide +kernel
theorem dX7_bitsOf_24 : decode cX7_bitsOf 24 = .ok (.iconst 0, 1) := by decide +kernel
theorem dX7_bitsOf_25 : decode cX7_bitsOf 25 = .ok (.istore_n 2, 1) := by decide +kernel
theorem dX7_bitsOf_26 : decode cX7_bitsOf 26 = .ok (.iload_n 2, 1) := by decide +kernel
theorem dX7_bitsOf_27 : decode cX7_bitsOf 27 = .ok (.ifCond .eq 9, 3) := by decide +kernel
theorem dX7_bitsOf_30 : decode cX7_bitsOf 30 = .ok (.dconst 0, 1) := by decide +kernel
theorem dX7_bitsOf_31 : decode cX7_bitsOf 31 = .ok (.dload_n 0, 1) := by decide +kernel
theorem dX7_bitsOf_32 : decode cX7_bitsOf 32 = .ok (.dsub, 1) := by decide +kernel
theorem dX7_bitsOf_33 : decode cX7_bitsOf 33 = .ok (.goto 4, 3) := by decide +kernel
theorem dX7_bitsOf_36 : decode cX7_bitsOf 36 = .ok (.dload_n 0, 1) := by decide +kernel
theorem dX7_bitsOf_37 : decode cX7_bitsOf 37 = .ok (.dstore_n 3, 1) := by decide +kernel
theorem dX7_bitsOf_38 : decode cX7_bitsOf 38 = .ok (.sipush 1075, 3) := by decide +kernel
theorem dX7_bitsOf_41 : decode cX7_bitsOf 41 = .ok (.istore 5, 2) := by decide +kernel
theorem dX7_bitsOf_43 : decode cX7_bitsOf 43 = .ok (.dload_n 3, 1) := by decide +kernel
theorem dX7_bitsOf_44 : decode cX7_bitsOf 44 = .ok (.ldc2_w 1, 3) := by decide +kernel
theorem dX7_bitsOf_47 : decode cX7_bitsOf 47 = .ok (.dcmp .l, 1) := by decide +kernel
theorem dX7_bitsOf_48 : decode cX7_bitsOf 48 = .ok (.ifCond .lt 15, 3) := by decide +kernel
theorem dX7_bitsOf_51 : decode cX7_bitsOf 51 = .ok (.dload_n 3, 1) := by decide +kernel
theorem dX7_bitsOf_52 : decode cX7_bitsOf 52 = .ok (.ldc2_w 3, 3) := by decide +kernel
theorem dX7_bitsOf_55 : decode cX7_bitsOf 55 = .ok (.ddiv, 1) := by decide +kernel
theorem dX7_bitsOf_56 : decode cX7_bitsOf 56 = .ok (.dstore_n 3, 1) := by decide +kernel
theorem dX7_bitsOf_57 : decode cX7_bitsOf 57 = .ok (.iinc 5 1, 3) := by decide +kernel
theorem dX7_bitsOf_60 : decode cX7_bitsOf 60 = .ok (.goto (-17), 3) := by decide +kernel
theorem dX7_bitsOf_63 : decode cX7_bitsOf 63 = .ok (.dload_n 3, 1) := by decide +kernel
theorem dX7_bitsOf_64 : decode cX7_bitsOf 64 = .ok (.ldc2_w 5, 3) := by decide +kernel
theorem dX7_bitsOf_67 : decode cX7_bitsOf 67 = .ok (.dcmp .g, 1) := by decide +kernel
theorem dX7_bitsOf_68 : decode cX7_bitsOf 68 = .ok (.ifCond .ge 21, 3) := by decide +kernel
theorem dX7_bitsOf_71 : decode cX7_bitsOf 71 = .ok (.iload 5, 2) := by decide +kernel
theorem dX7_bitsOf_73 : decode cX7_bitsOf 73 = .ok (.iconst 1, 1) := by decide +kernel
theorem dX7_bitsOf_74 : decode cX7_bitsOf 74 = .ok (.if_icmp .le 15, 3) := by decide +kernel
theorem dX7_bitsOf_77 : decode cX7_bitsOf 77 = .ok (.dload_n 3, 1) := by decide +kernel
theorem dX7_bitsOf_78 : decode cX7_bitsOf 78 = .ok (.ldc2_w 3, 3) := by decide +kernel
theorem dX7_bitsOf_81 : decode cX7_bitsOf 81 = .ok (.dmul, 1) := by decide +kernel
theorem dX7_bitsOf_82 : decode cX7_bitsOf 82 = .ok (.dstore_n 3, 1) := by decide +kernel
theorem dX7_bitsOf_83 : decode cX7_bitsOf 83 = .ok (.iinc 5 (-1), 3) := by decide +kernel
theorem dX7_bitsOf_86 : decode cX7_bitsOf 86 = .ok (.goto (-23), 3) := by decide +kernel
theorem dX7_bitsOf_89 : decode cX7_bitsOf 89 = .ok (.dload_n 3, 1) := by decide +kernel
theorem dX7_bitsOf_90 : decode cX7_bitsOf 90 = .ok (.d2l, 1) := by decide +kernel
theorem dX7_bitsOf_91 : decode cX7_bitsOf 91 = .ok (.lstore 6, 2) := by decide +kernel
theorem dX7_bitsOf_93 : decode cX7_bitsOf 93 = .ok (.lload 6, 2) := by decide +kernel
theorem dX7_bitsOf_95 : decode cX7_bitsOf 95 = .ok (.ldc2_w 7, 3) := by decide +kernel
theorem dX7_bitsOf_98 : decode cX7_bitsOf 98 = .ok (.lcmp, 1) := by decide +kernel
theorem dX7_bitsOf_99 : decode cX7_bitsOf 99 = .ok (.ifCond .ge 8, 3) := by decide +kernel
theorem dX7_bitsOf_102 : decode cX7_bitsOf 102 = .ok (.lload 6, 2) := by decide +kernel
theorem dX7_bitsOf_104 : decode cX7_bitsOf 104 = .ok (.goto 16, 3) := by decide +kernel
theorem dX7_bitsOf_107 : decode cX7_bitsOf 107 = .ok (.lload 6, 2) := by decide +kernel
theorem dX7_bitsOf_109 : decode cX7_bitsOf 109 = .ok (.ldc2_w 7, 3) := by decide +kernel
theorem dX7_bitsOf_112 : decode cX7_bitsOf 112 = .ok (.lsub, 1) := by decide +kernel
theorem dX7_bitsOf_113 : decode cX7_bitsOf 113 = .ok (.iload 5, 2) := by decide +kernel
theorem dX7_bitsOf_115 : decode cX7_bitsOf 115 = .ok (.i2l, 1) := by decide +kernel
theorem dX7_bitsOf_116 : decode cX7_bitsOf 116 = .ok (.bipush 52, 2) := by decide +kernel
theorem dX7_bitsOf_118 : decode cX7_bitsOf 118 = .ok (.lshl, 1) := by decide +kernel
theorem dX7_bitsOf_119 : decode cX7_bitsOf 119 = .ok (.ladd, 1) := by decide +kernel
theorem dX7_bitsOf_120 : decode cX7_bitsOf 120 = .ok (.lstore 8, 2) := by decide +kernel
theorem dX7_bitsOf_122 : decode cX7_bitsOf 122 = .ok (.iload_n 2, 1) := by decide +kernel
theorem dX7_bitsOf_123 : decode cX7_bitsOf 123 = .ok (.ifCond .eq 12, 3) := by decide +kernel
theorem dX7_bitsOf_126 : decode cX7_bitsOf 126 = .ok (.lload 8, 2) := by decide +kernel
theorem dX7_bitsOf_128 : decode cX7_bitsOf 128 = .ok (.ldc2_w 9, 3) := by decide +kernel
theorem dX7_bitsOf_131 : decode cX7_bitsOf 131 = .ok (.lor, 1) := by decide +kernel
theorem dX7_bitsOf_132 : decode cX7_bitsOf 132 = .ok (.goto 5, 3) := by decide +kernel
theorem dX7_bitsOf_135 : decode cX7_bitsOf 135 = .ok (.lload 8, 2) := by decide +kernel
theorem dX7_bitsOf_137 : decode cX7_bitsOf 137 = .ok (.lreturn, 1) := by decide +kernel
theorem dX7_root_0 : decode cX7_root 0 = .ok (.dload_n 0, 1) := by decide +kernel
theorem dX7_root_1 : decode cX7_root 1 = .ok (.dconst 0, 1) := by decide +kernel
theorem dX7_root_2 : decode cX7_root 2 = .ok (.dcmp .l, 1) := by decide +kernel
theorem dX7_root_3 : decode cX7_root 3 = .ok (.ifCond .ne 5, 3) := by decide +kernel
theorem dX7_root_6 : decode cX7_root 6 = .ok (.dload_n 0, 1) := by decide +kernel
theorem dX7_root_7 : decode cX7_root 7 = .ok (.dreturn, 1) := by decide +kernel
theorem dX7_root_8 : decode cX7_root 8 = .ok (.dload_n 0, 1) := by decide +kernel
theorem dX7_root_9 : decode cX7_root 9 = .ok (.dstore_n 2, 1) := by decide +kernel
theorem dX7_root_10 : decode cX7_root 10 = .ok (.iconst 0, 1) := by decide +kernel
theorem dX7_root_11 : decode cX7_root 11 = .ok (.istore 4, 2) := by decide +kernel
theorem dX7_root_13 : decode cX7_root 13 = .ok (.dload_n 2, 1) := by decide +kernel
theorem dX7_root_14 : decode cX7_root 14 = .ok (.ldc2_w 1, 3) := by decide +kernel
theorem dX7_root_17 : decode cX7_root 17 = .ok (.dcmp .l, 1) := by decide +kernel
theorem dX7_root_18 : decode cX7_root 18 = .ok (.ifCond .lt 15, 3) := by decide +kernel
theorem dX7_root_21 : decode cX7_root 21 = .ok (.dload_n 2, 1) := by decide +kernel
theorem dX7_root_22 : decode cX7_root 22 = .ok (.ldc2_w 3, 3) := by decide +kernel
theorem dX7_root_25 : decode cX7_root 25 = .ok (.ddiv, 1) := by decide +kernel
theorem dX7_root_26 : decode cX7_root 26 = .ok (.dstore_n 2, 1) := by decide +kernel
theorem dX7_root_27 : decode cX7_root 27 = .ok (.iinc 4 1, 3) := by decide +kernel
theorem dX7_root_30 : decode cX7_root 30 = .ok (.goto (-17), 3) := by decide +kernel
theorem dX7_root_33 : decode cX7_root 33 = .ok (.dload_n 2, 1) := by decide +kernel
theorem dX7_root_34 : decode cX7_root 34 = .ok (.ldc2_w 5, 3) := by decide +kernel
theorem dX7_root_37 : decode cX7_root 37 = .ok (.dcmp .g, 1) := by decide +kernel
theorem dX7_root_38 : decode cX7_root 38 = .ok (.ifCond .ge 15, 3) := by decide +kernel
theorem dX7_root_41 : decode cX7_root 41 = .ok (.dload_n 2, 1) := by decide +kernel
theorem dX7_root_42 : decode cX7_root 42 = .ok (.ldc2_w 3, 3) := by decide +kernel
theorem dX7_root_45 : decode cX7_root 45 = .ok (.dmul, 1) := by decide +kernel
theorem dX7_root_46 : decode cX7_root 46 = .ok (.dstore_n 2, 1) := by decide +kernel
theorem dX7_root_47 : decode cX7_root 47 = .ok (.iinc 4 (-1), 3) := by decide +kernel
theorem dX7_root_50 : decode cX7_root 50 = .ok (.goto (-17), 3) := by decide +kernel
theorem dX7_root_53 : decode cX7_root 53 = .ok (.dload_n 2, 1) := by decide +kernel
theorem dX7_root_54 : decode cX7_root 54 = .ok (.d2l, 1) := by decide +kernel
theorem dX7_root_55 : decode cX7_root 55 = .ok (.lstore 5, 2) := by decide +kernel
theorem dX7_root_57 : decode cX7_root 57 = .ok (.iload 4, 2) := by decide +kernel
theorem dX7_root_59 : decode cX7_root 59 = .ok (.istore 7, 2) := by decide +kernel
theorem dX7_root_61 : decode cX7_root 61 = .ok (.iload 4, 2) := by decide +kernel
theorem dX7_root_63 : decode cX7_root 63 = .ok (.iconst 2, 1) := by decide +kernel
theorem dX7_root_64 : decode cX7_root 64 = .ok (.irem, 1) := by decide +kernel
theorem dX7_root_65 : decode cX7_root 65 = .ok (.ifCond .eq 13, 3) := by decide +kernel
theorem dX7_root_68 : decode cX7_root 68 = .ok (.lload 5, 2) := by decide +kernel
theorem dX7_root_70 : decode cX7_root 70 = .ok (.lload 5, 2) := by decide +kernel
theorem dX7_root_72 : decode cX7_root 72 = .ok (.ladd, 1) := by decide +kernel
theorem dX7_root_73 : decode cX7_root 73 = .ok (.lstore 5, 2) := by decide +kernel
theorem dX7_root_75 : decode cX7_root 75 = .ok (.iinc 7 (-1), 3) := by decide +kernel
theorem dX7_root_78 : decode cX7_root 78 = .ok (.lload 5, 2) := by decide +kernel
theorem dX7_root_80 : decode cX7_root 80 = .ok (.lload 5, 2) := by decide +kernel
theorem dX7_root_82 : decode cX7_root 82 = .ok (.ladd, 1) := by decide +kernel
theorem dX7_root_83 : decode cX7_root 83 = .ok (.lstore 5, 2) := by decide +kernel
theorem dX7_root_85 : decode cX7_root 85 = .ok (.lconst 0, 1) := by decide +kernel
theorem dX7_root_86 : decode cX7_root 86 = .ok (.lstore 8, 2) := by decide +kernel
theorem dX7_root_88 : decode cX7_root 88 = .ok (.lconst 0, 1) := by decide +kernel
theorem dX7_root_89 : decode cX7_root 89 = .ok (.lstore 10, 2) := by decide +kernel
theorem dX7_root_91 : decode cX7_root 91 = .ok (.ldc2_w 11, 3) := by decide +kernel
theorem dX7_root_94 : decode cX7_root 94 = .ok (.lstore 12, 2) := by decide +kernel
theorem dX7_root_96 : decode cX7_root 96 = .ok (.lload 12, 2) := by decide +kernel
theorem dX7_root_98 : decode cX7_root 98 = .ok (.lconst 0, 1) := by decide +kernel
theorem dX7_root_99 : decode cX7_root 99 = .ok (.lcmp, 1) := by decide +kernel
theorem dX7_root_100 : decode cX7_root 100 = .ok (.ifCond .eq 55, 3) := by decide +kernel
theorem dX7_root_103 : decode cX7_root 103 = .ok (.lload 10, 2) := by decide +kernel
theorem dX7_root_105 : decode cX7_root 105 = .ok (.lload 12, 2) := by decide +kernel
theorem dX7_root_107 : decode cX7_root 107 = .ok (.ladd, 1) := by decide +kernel
theorem dX7_root_108 : decode cX7_root 108 = .ok (.lstore 14, 2) := by decide +kernel
theorem dX7_root_110 : decode cX7_root 110 = .ok (.lload 14, 2) := by decide +kernel
theorem dX7_root_112 : decode cX7_root 112 = .ok (.lload 5, 2) := by decide +kernel
theorem dX7_root_114 : decode cX7_root 114 = .ok (.lcmp, 1) := by decide +kernel
theorem dX7_root_115 : decode cX7_root 115 = .ok (.ifCond .gt 24, 3) := by decide +kernel
theorem dX7_root_118 : decode cX7_root 118 = .ok (.lload 14, 2) := by decide +kernel
theorem dX7_root_120 : decode cX7_root 120 = .ok (.lload 12, 2) := by decide +kernel
theorem dX7_root_122 : decode cX7_root 122 = .ok (.ladd, 1) := by decide +kernel
theorem dX7_root_123 : decode cX7_root 123 = .ok (.lstore 10, 2) := by decide +kernel
theorem dX7_root_125 : decode cX7_root 125 = .ok (.lload 5, 2) := by decide +kernel
theorem dX7_root_127 : decode cX7_root 127 = .ok (.lload 14, 2) := by decide +kernel
theorem dX7_root_129 : decode cX7_root 129 = .ok (.lsub, 1) := by decide +kernel
theorem dX7_root_130 : decode cX7_root 130 = .ok (.lstore 5, 2) := by decide +kernel
theorem dX7_root_132 : decode cX7_root 132 = .ok (.lload 8, 2) := by decide +kernel
theorem dX7_root_134 : decode cX7_root 134 = .ok (.lload 12, 2) := by decide +kernel
theorem dX7_root_136 : decode cX7_root 136 = .ok (.ladd, 1) := by decide +kernel
theorem dX7_root_137 : decode cX7_root 137 = .ok (.lstore 8, 2) := by decide +kernel
theorem dX7_root_139 : decode cX7_root 139 = .ok (.lload 5, 2) := by decide +kernel
theorem dX7_root_141 : decode cX7_root 141 = .ok (.lload 5, 2) := by decide +kernel
theorem dX7_root_143 : decode cX7_root 143 = .ok (.ladd, 1) := by decide +kernel
theorem dX7_root_144 : decode cX7_root 144 = .ok (.lstore 5, 2) := by decide +kernel
theorem dX7_root_146 : decode cX7_root 146 = .ok (.lload 12, 2) := by decide +kernel
theorem dX7_root_148 : decode cX7_root 148 = .ok (.iconst 1, 1) := by decide +kernel
theorem dX7_root_149 : decode cX7_root 149 = .ok (.lshr, 1) := by decide +kernel
theorem dX7_root_150 : decode cX7_root 150 = .ok (.lstore 12, 2) := by decide +kernel
theorem dX7_root_152 : decode cX7_root 152 = .ok (.goto (-56), 3) := by decide +kernel
theorem dX7_root_155 : decode cX7_root 155 = .ok (.lload 8, 2) := by decide +kernel
theorem dX7_root_157 : decode cX7_root 157 = .ok (.lload 5, 2) := by decide +kernel
theorem dX7_root_159 : decode cX7_root 159 = .ok (.lconst 0, 1) := by decide +kernel
theorem dX7_root_160 : decode cX7_root 160 = .ok (.lcmp, 1) := by decide +kernel
theorem dX7_root_161 : decode cX7_root 161 = .ok (.ifCond .eq 10, 3) := by decide +kernel
theorem dX7_root_164 : decode cX7_root 164 = .ok (.lload 8, 2) := by decide +kernel
theorem dX7_root_166 : decode cX7_root 166 = .ok (.lconst 1, 1) := by decide +kernel
theorem dX7_root_167 : decode cX7_root 167 = .ok (.land, 1) := by decide +kernel
theorem dX7_root_168 : decode cX7_root 168 = .ok (.goto 4, 3) := by decide +kernel
theorem dX7_root_171 : decode cX7_root 171 = .ok (.lconst 0, 1) := by decide +kernel
theorem dX7_root_172 : decode cX7_root 172 = .ok (.ladd, 1) := by decide +kernel
theorem dX7_root_173 : decode cX7_root 173 = .ok (.lstore 8, 2) := by decide +kernel
theorem dX7_root_175 : decode cX7_root 175 = .ok (.lload 8, 2) := by decide +kernel
theorem dX7_root_177 : decode cX7_root 177 = .ok (.iconst 1, 1) := by decide +kernel
theorem dX7_root_178 : decode cX7_root 178 = .ok (.lshr, 1) := by decide +kernel
theorem dX7_root_179 : decode cX7_root 179 = .ok (.l2d, 1) := by decide +kernel
theorem dX7_root_180 : decode cX7_root 180 = .ok (.dstore 12, 2) := by decide +kernel
theorem dX7_root_182 : decode cX7_root 182 = .ok (.iload 7, 2) := by decide +kernel
theorem dX7_root_184 : decode cX7_root 184 = .ok (.iconst 2, 1) := by decide +kernel
theorem dX7_root_185 : decode cX7_root 185 = .ok (.idiv, 1) := by decide +kernel
theorem dX7_root_186 : decode cX7_root 186 = .ok (.bipush 26, 2) := by decide +kernel
theorem dX7_root_188 : decode cX7_root 188 = .ok (.isub, 1) := by decide +kernel
theorem dX7_root_189 : decode cX7_root 189 = .ok (.istore 14, 2) := by decide +kernel
theorem dX7_root_191 : decode cX7_root 191 = .ok (.iload 14, 2) := by decide +kernel
theorem dX7_root_193 : decode cX7_root 193 = .ok (.ifCond .le 17, 3) := by decide +kernel
theorem dX7_root_196 : decode cX7_root 196 = .ok (.dload 12, 2) := by decide +kernel
theorem dX7_root_198 : decode cX7_root 198 = .ok (.ldc2_w 3, 3) := by decide +kernel
theorem dX7_root_201 : decode cX7_root 201 = .ok (.dmul, 1) := by decide +kernel
theorem dX7_root_202 : decode cX7_root 202 = .ok (.dstore 12, 2) := by decide +kernel
theorem dX7_root_204 : decode cX7_root 204 = .ok (.iinc 14 (-1), 3) := by decide +kernel
theorem dX7_root_207 : decode cX7_root 207 = .ok (.goto (-16), 3) := by decide +kernel
theorem dX7_root_210 : decode cX7_root 210 = .ok (.iload 14, 2) := by decide +kernel
theorem dX7_root_212 : decode cX7_root 212 = .ok (.ifCond .ge 17, 3) := by decide +kernel
theorem dX7_root_215 : decode cX7_root 215 = .ok (.dload 12, 2) := by decide +kernel
theorem dX7_root_217 : decode cX7_root 217 = .ok (.ldc2_w 3, 3) := by decide +kernel
theorem dX7_root_220 : decode cX7_root 220 = .ok (.ddiv, 1) := by decide +kernel
theorem dX7_root_221 : decode cX7_root 221 = .ok (.dstore 12, 2) := by decide +kernel
theorem dX7_root_223 : decode cX7_root 223 = .ok (.iinc 14 1, 3) := by decide +kernel
theorem dX7_root_226 : decode cX7_root 226 = .ok (.goto (-16), 3) := by decide +kernel
theorem dX7_root_229 : decode cX7_root 229 = .ok (.dload 12, 2) := by decide +kernel
theorem dX7_root_231 : decode cX7_root 231 = .ok (.dreturn, 1) := by decide +kernel
set_option maxRecDepth 20000 in
theorem ggX7_init_X7_lays : GoodIn wsX7_init wsX7_lays := goodIn_r _ [13, 5, 14, 15, 16, 17, 18, 19, 20, 21, 22, 23, 24, 25, 26, 27, 28, 29, 30, 31, 32, 33, 34, 35] (by decide +kernel) (by decide +kernel)
set_option maxRecDepth 20000 in
theorem gX7_init_X7_lays : GoodIn wsX7_init (wsV RX7 34 RX7 yX7_lays wsX7_lays) := goodIn_app (goodIn_of _ (by decide +kernel)) ggX7_init_X7_lays
theorem dX7_init_0 : decode cX7_init 0 = .ok (.aload_n 0, 1) := by decide +kernel
theorem dX7_init_1 : decode cX7_init 1 = .ok (.invokespecial 13, 3) := by decide +kernel
theorem dX7_init_4 : decode cX7_init 4 = .ok (.aload_n 0, 1) := by decide +kernel
theorem dX7_init_5 : decode cX7_init 5 = .ok (.bipush 52, 2) := by decide +kernel
theorem dX7_init_7 : decode cX7_init 7 = .ok (.newarray .int, 2) := by decide +kernel
theorem dX7_init_9 : decode cX7_init 9 = .ok (.putfield 19, 3) := by decide +kernel
theorem dX7_init_12 : decode cX7_init 12 = .ok (.aload_n 0, 1) := by decide +kernel
theorem dX7_init_13 : decode cX7_init 13 = .ok (.bipush 10, 2) := by decide +kernel
theorem dX7_init_15 : decode cX7_init 15 = .ok (.newarray .int, 2) := by decide +kernel
theorem dX7_init_17 : decode cX7_init 17 = .ok (.putfield 25, 3) := by decide +kernel
theorem dX7_init_20 : decode cX7_init 20 = .ok (.aload_n 0, 1) := by decide +kernel
theorem dX7_init_21 : decode cX7_init 21 = .ok (.bipush 12, 2) := by decide +kernel
theorem dX7_init_23 : decode cX7_init 23 = .ok (.newarray .int, 2) := by decide +kernel
theorem dX7_init_25 : decode cX7_init 25 = .ok (.putfield 28, 3) := by decide +kernel
theorem dX7_init_28 : decode cX7_init 28 = .ok (.aload_n 0, 1) := by decide +kernel
theorem dX7_init_29 : decode cX7_init 29 = .ok (.bipush 12, 2) := by decide +kernel
theorem dX7_init_31 : decode cX7_init 31 = .ok (.newarray .int, 2) := by decide +kernel
theorem dX7_init_33 : decode cX7_init 33 = .ok (.putfield 31, 3) := by decide +kernel
theorem dX7_init_36 : decode cX7_init 36 = .ok (.iconst 0, 1) := by decide +kernel
theorem dX7_init_37 : decode cX7_init 37 = .ok (.istore_n 1, 1) := by decide +kernel
theorem dX7_init_38 : decode cX7_init 38 = .ok (.iload_n 1, 1) := by decide +kernel
theorem dX7_init_39 : decode cX7_init 39 = .ok (.iconst 4, 1) := by decide +kernel
theorem dX7_init_40 : decode cX7_init 40 = .ok (.if_icmp .ge 101, 3) := by decide +kernel
theorem dX7_init_43 : decode cX7_init 43 = .ok (.aload_n 0, 1) := by decide +kernel
theorem dX7_init_44 : decode cX7_init 44 = .ok (.iload_n 1, 1) := by decide +kernel
theorem dX7_init_45 : decode cX7_init 45 = .ok (.iconst 0, 1) := by decide +kernel
theorem dX7_init_46 : decode cX7_init 46 = .ok (.sipush 300, 3) := by decide +kernel
theorem dX7_init_49 : decode cX7_init 49 = .ok (.iconst 0, 1) := by decide +kernel
theorem dX7_init_50 : decode cX7_init 50 = .ok (.iconst 0, 1) := by decide +kernel
theorem dX7_init_51 : decode cX7_init 51 = .ok (.sipush 300, 3) := by decide +kernel
theorem dX7_init_54 : decode cX7_init 54 = .ok (.sipush 400, 3) := by decide +kernel
theorem dX7_init_57 : decode cX7_init 57 = .ok (.sipush 300, 3) := by decide +kernel
theorem dX7_init_60 : decode cX7_init 60 = .ok (.iconst 1, 1) := by decide +kernel
theorem dX7_init_61 : decode cX7_init 61 = .ok (.invokevirtual 34, 3) := by decide +kernel
theorem dX7_init_64 : decode cX7_init 64 = .ok (.aload_n 0, 1) := by decide +kernel
theorem dX7_init_65 : decode cX7_init 65 = .ok (.getfield 19, 3) := by decide +kernel
theorem dX7_init_68 : decode cX7_init 68 = .ok (.bipush 13, 2) := by decide +kernel
theorem dX7_init_70 : decode cX7_init 70 = .ok (.iload_n 1, 1) := by decide +kernel
theorem dX7_init_71 : decode cX7_init 71 = .ok (.imul, 1) := by decide +kernel
theorem dX7_init_72 : decode cX7_init 72 = .ok (.bipush 8, 2) := by decide +kernel
theorem dX7_init_74 : decode cX7_init 74 = .ok (.iadd, 1) := by decide +kernel
theorem dX7_init_75 : decode cX7_init 75 = .ok (.bipush (-100), 2) := by decide +kernel
theorem dX7_init_77 : decode cX7_init 77 = .ok (.iastore, 1) := by decide +kernel
theorem dX7_init_78 : decode cX7_init 78 = .ok (.aload_n 0, 1) := by decide +kernel
theorem dX7_init_79 : decode cX7_init 79 = .ok (.getfield 19, 3) := by decide +kernel
theorem dX7_init_82 : decode cX7_init 82 = .ok (.bipush 13, 2) := by decide +kernel
theorem dX7_init_84 : decode cX7_init 84 = .ok (.iload_n 1, 1) := by decide +kernel
