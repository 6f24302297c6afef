set_option maxRecDepth 20000 in
theorem ggX8_init_X4_init : GoodIn wsX8_init wsX4_init := goodIn_r _ [37, 38, 2, 3, 39, 40, 41, 42, 91, 92, 93, 94] (by decide +kernel) (by decide +kernel)
set_option maxRecDepth 20000 in
theorem gX8_init_X4_init_n9 : GoodIn wsX8_init (wsX4_init) := ggX8_init_X4_init
set_option maxRecDepth 20000 in
theorem ggX8_init_X7_init : GoodIn wsX8_init wsX7_init := goodIn_r _ [44, 45, 2, 3, 46, 47, 39, 48, 49, 50, 51, 52, 53, 54, 55, 56, 57, 58, 59, 60, 61, 62, 63, 64, 65, 66, 112, 113, 114, 115, 116, 117, 118, 119, 120, 121, 139, 140, 141, 142, 143, 144, 145] (by decide +kernel) (by decide +kernel)
set_option maxRecDepth 20000 in
theorem gX8_init_X7_init_n21 : GoodIn wsX8_init (wsX7_init) := ggX8_init_X7_init
set_option maxRecDepth 20000 in
theorem ggX8_init_X2_init : GoodIn wsX8_init wsX2_init := goodIn_r _ [68, 69, 2, 3] (by decide +kernel) (by decide +kernel)
set_option maxRecDepth 20000 in
theorem gX8_init_X2_init_n28 : GoodIn wsX8_init (wsX2_init) := ggX8_init_X2_init
set_option maxRecDepth 20000 in
theorem ggX8_init_X0_init : GoodIn wsX8_init wsX0_init := goodIn_r _ [71, 72, 2, 3] (by decide +kernel) (by decide +kernel)
set_option maxRecDepth 20000 in
theorem gX8_init_X0_init_n35 : GoodIn wsX8_init (wsX0_init) := ggX8_init_X0_init
set_option maxRecDepth 20000 in
theorem ggX8_init_X3_init : GoodIn wsX8_init wsX3_init := goodIn_r _ [74, 75, 2, 3, 76, 77, 78, 79, 80, 81, 82, 128, 129, 130, 131] (by decide +kernel) (by decide +kernel)
set_option maxRecDepth 20000 in
theorem gX8_init_X3_init_n42 : GoodIn wsX8_init (wsX3_init) := ggX8_init_X3_init
set_option maxRecDepth 20000 in
theorem ggX8_init_X1_init : GoodIn wsX8_init wsX1_init := goodIn_r _ [84, 85, 2, 3, 86, 132, 133, 134, 135, 136] (by decide +kernel) (by decide +kernel)
set_option maxRecDepth 20000 in
theorem gX8_init_X1_init_n49 : GoodIn wsX8_init (wsX1_init) := ggX8_init_X1_init
set_option maxRecDepth 20000 in
theorem ggX8_init_X6_init : GoodIn wsX8_init wsX6_init := goodIn_r _ [88, 89, 2, 3, 51, 90, 137, 138] (by decide +kernel) (by decide +kernel)
set_option maxRecDepth 20000 in
theorem gX8_init_X6_init_n56 : GoodIn wsX8_init (wsX6_init) := ggX8_init_X6_init
theorem dX8_init_0 : decode cX8_init 0 = .ok (.aload_n 0, 1) := by decide +kernel
theorem dX8_init_1 : decode cX8_init 1 = .ok (.invokespecial 1, 3) := by decide +kernel
theorem dX8_init_4 : decode cX8_init 4 = .ok (.aload_n 0, 1) := by decide +kernel
theorem dX8_init_5 : decode cX8_init 5 = .ok (.new 7, 3) := by decide +kernel
theorem dX8_init_8 : decode cX8_init 8 = .ok (.dup, 1) := by decide +kernel
theorem dX8_init_9 : decode cX8_init 9 = .ok (.invokespecial 9, 3) := by decide +kernel
theorem dX8_init_12 : decode cX8_init 12 = .ok (.putfield 10, 3) := by decide +kernel
theorem dX8_init_15 : decode cX8_init 15 = .ok (.aload_n 0, 1) := by decide +kernel
theorem dX8_init_16 : decode cX8_init 16 = .ok (.new 7, 3) := by decide +kernel
theorem dX8_init_19 : decode cX8_init 19 = .ok (.dup, 1) := by decide +kernel
theorem dX8_init_20 : decode cX8_init 20 = .ok (.invokespecial 9, 3) := by decide +kernel
theorem dX8_init_23 : decode cX8_init 23 = .ok (.putfield 16, 3) := by decide +kernel
theorem dX8_init_26 : decode cX8_init 26 = .ok (.aload_n 0, 1) := by decide +kernel
theorem dX8_init_27 : decode cX8_init 27 = .ok (.new 19, 3) := by decide +kernel
theorem dX8_init_30 : decode cX8_init 30 = .ok (.dup, 1) := by decide +kernel
theorem dX8_init_31 : decode cX8_init 31 = .ok (.invokespecial 21, 3) := by decide +kernel
theorem dX8_init_34 : decode cX8_init 34 = .ok (.putfield 22, 3) := by decide +kernel
theorem dX8_init_37 : decode cX8_init 37 = .ok (.aload_n 0, 1) := by decide +kernel
theorem dX8_init_38 : decode cX8_init 38 = .ok (.new 26, 3) := by decide +kernel
theorem dX8_init_41 : decode cX8_init 41 = .ok (.dup, 1) := by decide +kernel
theorem dX8_init_42 : decode cX8_init 42 = .ok (.invokespecial 28, 3) := by decide +kernel
theorem dX8_init_45 : decode cX8_init 45 = .ok (.putfield 29, 3) := by decide +kernel
theorem dX8_init_48 : decode cX8_init 48 = .ok (.aload_n 0, 1) := by decide +kernel
theorem dX8_init_49 : decode cX8_init 49 = .ok (.new 33, 3) := by decide +kernel
theorem dX8_init_52 : decode cX8_init 52 = .ok (.dup, 1) := by decide +kernel
theorem dX8_init_53 : decode cX8_init 53 = .ok (.invokespecial 35, 3) := by decide +kernel
theorem dX8_init_56 : decode cX8_init 56 = .ok (.putfield 36, 3) := by decide +kernel
theorem dX8_init_59 : decode cX8_init 59 = .ok (.aload_n 0, 1) := by decide +kernel
theorem dX8_init_60 : decode cX8_init 60 = .ok (.new 40, 3) := by decide +kernel
theorem dX8_init_63 : decode cX8_init 63 = .ok (.dup, 1) := by decide +kernel
theorem dX8_init_64 : decode cX8_init 64 = .ok (.invokespecial 42, 3) := by decide +kernel
theorem dX8_init_67 : decode cX8_init 67 = .ok (.putfield 43, 3) := by decide +kernel
theorem dX8_init_70 : decode cX8_init 70 = .ok (.aload_n 0, 1) := by decide +kernel
theorem dX8_init_71 : decode cX8_init 71 = .ok (.new 47, 3) := by decide +kernel
theorem dX8_init_74 : decode cX8_init 74 = .ok (.dup, 1) := by decide +kernel
theorem dX8_init_75 : decode cX8_init 75 = .ok (.invokespecial 49, 3) := by decide +kernel
theorem dX8_init_78 : decode cX8_init 78 = .ok (.putfield 50, 3) := by decide +kernel
theorem dX8_init_81 : decode cX8_init 81 = .ok (.aload_n 0, 1) := by decide +kernel
theorem dX8_init_82 : decode cX8_init 82 = .ok (.new 54, 3) := by decide +kernel
theorem dX8_init_85 : decode cX8_init 85 = .ok (.dup, 1) := by decide +kernel
theorem dX8_init_86 : decode cX8_init 86 = .ok (.invokespecial 56, 3) := by decide +kernel
theorem dX8_init_89 : decode cX8_init 89 = .ok (.putfield 57, 3) := by decide +kernel
theorem dX8_init_92 : decode cX8_init 92 = .ok (.aload_n 0, 1) := by decide +kernel
theorem dX8_init_93 : decode cX8_init 93 = .ok (.ldc2_w 61, 3) := by decide +kernel
theorem dX8_init_96 : decode cX8_init 96 = .ok (.putfield 63, 3) := by decide +kernel
theorem dX8_init_99 : decode cX8_init 99 = .ok (.aload_n 0, 1) := by decide +kernel
theorem dX8_init_100 : decode cX8_init 100 = .ok (.ldc2_w 61, 3) := by decide +kernel
theorem dX8_init_103 : decode cX8_init 103 = .ok (.putfield 67, 3) := by decide +kernel
theorem dX8_init_106 : decode cX8_init 106 = .ok (.return_, 1) := by decide +kernel
set_option maxRecDepth 20000 in
theorem ggX8_object_X8_within : GoodIn wsX8_object wsX8_within := goodIn_r _ [11] (by decide +kernel) (by decide +kernel)
set_option maxRecDepth 20000 in
theorem gX8_object_X8_within : GoodIn wsX8_object (va_wsS RX8 72 yX8_within wsX8_within) := goodIn_app (goodIn_of _ (by decide +kernel)) ggX8_object_X8_within
set_option maxRecDepth 20000 in
theorem ggX8_object_X8_isTime : GoodIn wsX8_object wsX8_isTime := goodIn_r _ [15, 16, 17, 8, 9, 10, 11, 27, 28, 29, 30, 31, 32, 33, 34, 35, 36, 37, 38, 39, 40, 41, 42, 43] (by decide +kernel) (by decide +kernel)
set_option maxRecDepth 20000 in
theorem gX8_object_X8_isTime : GoodIn wsX8_object (wsV RX8 84 RX8 yX8_isTime wsX8_isTime) := goodIn_app (goodIn_of _ (by decide +kernel)) ggX8_object_X8_isTime
set_option maxRecDepth 20000 in
theorem ggX8_object_X4_add : GoodIn wsX8_object wsX4_add := goodIn_r _ [22, 23, 24, 25, 26, 44, 45, 46, 47] (by decide +kernel) (by decide +kernel)
set_option maxRecDepth 20000 in
theorem gX8_object_X4_add : GoodIn wsX8_object (wsV RX8 88 RX4 yX4_add wsX4_add) := goodIn_app (goodIn_of _ (by decide +kernel)) ggX8_object_X4_add
theorem dX8_object_0 : decode cX8_object 0 = .ok (.iload_n 1, 1) := by decide +kernel
theorem dX8_object_1 : decode cX8_object 1 = .ok (.ifCond .eq 10, 3) := by decide +kernel
theorem dX8_object_4 : decode cX8_object 4 = .ok (.iload_n 1, 1) := by decide +kernel
theorem dX8_object_5 : decode cX8_object 5 = .ok (.iconst 1, 1) := by decide +kernel
theorem dX8_object_6 : decode cX8_object 6 = .ok (.if_icmp .eq 5, 3) := by decide +kernel
theorem dX8_object_9 : decode cX8_object 9 = .ok (.iconst (-1), 1) := by decide +kernel
theorem dX8_object_10 : decode cX8_object 10 = .ok (.ireturn, 1) := by decide +kernel
theorem dX8_object_11 : decode cX8_object 11 = .ok (.dload_n 2, 1) := by decide +kernel
theorem dX8_object_12 : decode cX8_object 12 = .ok (.dconst 0, 1) := by decide +kernel
theorem dX8_object_13 : decode cX8_object 13 = .ok (.ldc2_w 70, 3) := by decide +kernel
theorem dX8_object_16 : decode cX8_object 16 = .ok (.invokestatic 72, 3) := by decide +kernel
theorem dX8_object_19 : decode cX8_object 19 = .ok (.ifCond .eq 40, 3) := by decide +kernel
theorem dX8_object_22 : decode cX8_object 22 = .ok (.dload 4, 2) := by decide +kernel
theorem dX8_object_24 : decode cX8_object 24 = .ok (.ldc2_w 76, 3) := by decide +kernel
theorem dX8_object_27 : decode cX8_object 27 = .ok (.ldc2_w 78, 3) := by decide +kernel
theorem dX8_object_30 : decode cX8_object 30 = .ok (.invokestatic 72, 3) := by decide +kernel
theorem dX8_object_33 : decode cX8_object 33 = .ok (.ifCond .eq 26, 3) := by decide +kernel
theorem dX8_object_36 : decode cX8_object 36 = .ok (.dload 6, 2) := by decide +kernel
theorem dX8_object_38 : decode cX8_object 38 = .ok (.ldc2_w 80, 3) := by decide +kernel
theorem dX8_object_41 : decode cX8_object 41 = .ok (.ldc2_w 82, 3) := by decide +kernel
theorem dX8_object_44 : decode cX8_object 44 = .ok (.invokestatic 72, 3) := by decide +kernel
theorem dX8_object_47 : decode cX8_object 47 = .ok (.ifCond .eq 12, 3) := by decide +kernel
theorem dX8_object_50 : decode cX8_object 50 = .ok (.aload_n 0, 1) := by decide +kernel
theorem dX8_object_51 : decode cX8_object 51 = .ok (.dload 8, 2) := by decide +kernel
theorem dX8_object_53 : decode cX8_object 53 = .ok (.invokevirtual 84, 3) := by decide +kernel
theorem dX8_object_56 : decode cX8_object 56 = .ok (.ifCond .ne 6, 3) := by decide +kernel
theorem dX8_object_59 : decode cX8_object 59 = .ok (.bipush (-2), 2) := by decide +kernel
theorem dX8_object_61 : decode cX8_object 61 = .ok (.ireturn, 1) := by decide +kernel
theorem dX8_object_62 : decode cX8_object 62 = .ok (.iload_n 1, 1) := by decide +kernel
theorem dX8_object_63 : decode cX8_object 63 = .ok (.ifCond .ne 18, 3) := by decide +kernel
theorem dX8_object_66 : decode cX8_object 66 = .ok (.aload_n 0, 1) := by decide +kernel
theorem dX8_object_67 : decode cX8_object 67 = .ok (.getfield 10, 3) := by decide +kernel
theorem dX8_object_70 : decode cX8_object 70 = .ok (.dload_n 2, 1) := by decide +kernel
theorem dX8_object_71 : decode cX8_object 71 = .ok (.dload 4, 2) := by decide +kernel
theorem dX8_object_73 : decode cX8_object 73 = .ok (.dload 6, 2) := by decide +kernel
theorem dX8_object_75 : decode cX8_object 75 = .ok (.invokevirtual 88, 3) := by decide +kernel
theorem dX8_object_78 : decode cX8_object 78 = .ok (.goto 15, 3) := by decide +kernel
theorem dX8_object_81 : decode cX8_object 81 = .ok (.aload_n 0, 1) := by decide +kernel
theorem dX8_object_82 : decode cX8_object 82 = .ok (.getfield 16, 3) := by decide +kernel
theorem dX8_object_85 : decode cX8_object 85 = .ok (.dload_n 2, 1) := by decide +kernel
theorem dX8_object_86 : decode cX8_object 86 = .ok (.dload 4, 2) := by decide +kernel
theorem dX8_object_88 : decode cX8_object 88 = .ok (.dload 6, 2) := by decide +kernel
theorem dX8_object_90 : decode cX8_object 90 = .ok (.invokevirtual 88, 3) := by decide +kernel
theorem dX8_object_93 : decode cX8_object 93 = .ok (.ireturn, 1) := by decide +kernel
set_option maxRecDepth 20000 in
theorem ggX8_lane_X8_within : GoodIn wsX8_lane wsX8_within := goodIn_r _ [13] (by decide +kernel) (by decide +kernel)
set_option maxRecDepth 20000 in
theorem gX8_lane_X8_within : GoodIn wsX8_lane (va_wsS RX8 72 yX8_within wsX8_within) := goodIn_app (goodIn_of _ (by decide +kernel)) ggX8_lane_X8_within
theorem dX8_lane_0 : decode cX8_lane 0 = .ok (.dload_n 1, 1) := by decide +kernel
theorem dX8_lane_1 : decode cX8_lane 1 = .ok (.ldc2_w 92, 3) := by decide +kernel
theorem dX8_lane_4 : decode cX8_lane 4 = .ok (.ldc2_w 94, 3) := by decide +kernel
theorem dX8_lane_7 : decode cX8_lane 7 = .ok (.invokestatic 72, 3) := by decide +kernel
theorem dX8_lane_10 : decode cX8_lane 10 = .ok (.ifCond .eq 28, 3) := by decide +kernel
theorem dX8_lane_13 : decode cX8_lane 13 = .ok (.dload_n 3, 1) := by decide +kernel
theorem dX8_lane_14 : decode cX8_lane 14 = .ok (.ldc2_w 61, 3) := by decide +kernel
theorem dX8_lane_17 : decode cX8_lane 17 = .ok (.dconst 1, 1) := by decide +kernel
theorem dX8_lane_18 : decode cX8_lane 18 = .ok (.invokestatic 72, 3) := by decide +kernel
theorem dX8_lane_21 : decode cX8_lane 21 = .ok (.ifCond .eq 17, 3) := by decide +kernel
theorem dX8_lane_24 : decode cX8_lane 24 = .ok (.dload 5, 2) := by decide +kernel
theorem dX8_lane_26 : decode cX8_lane 26 = .ok (.ldc2_w 96, 3) := by decide +kernel
theorem dX8_lane_29 : decode cX8_lane 29 = .ok (.ldc2_w 98, 3) := by decide +kernel
theorem dX8_lane_32 : decode cX8_lane 32 = .ok (.invokestatic 72, 3) := by decide +kernel
theorem dX8_lane_35 : decode cX8_lane 35 = .ok (.ifCond .ne 6, 3) := by decide +kernel
theorem dX8_lane_38 : decode cX8_lane 38 = .ok (.bipush (-2), 2) := by decide +kernel
theorem dX8_lane_40 : decode cX8_lane 40 = .ok (.ireturn, 1) := by decide +kernel
theorem dX8_lane_41 : decode cX8_lane 41 = .ok (.aload_n 0, 1) := by decide +kernel
theorem dX8_lane_42 : decode cX8_lane 42 = .ok (.getfield 29, 3) := by decide +kernel
theorem dX8_lane_45 : decode cX8_lane 45 = .ok (.dload_n 1, 1) := by decide +kernel
theorem dX8_lane_46 : decode cX8_lane 46 = .ok (.putfield 100, 3) := by decide +kernel
theorem dX8_lane_49 : decode cX8_lane 49 = .ok (.aload_n 0, 1) := by decide +kernel
theorem dX8_lane_50 : decode cX8_lane 50 = .ok (.getfield 29, 3) := by decide +kernel
theorem dX8_lane_53 : decode cX8_lane 53 = .ok (.dload_n 3, 1) := by decide +kernel
theorem dX8_lane_54 : decode cX8_lane 54 = .ok (.putfield 103, 3) := by decide +kernel
theorem dX8_lane_57 : decode cX8_lane 57 = .ok (.aload_n 0, 1) := by decide +kernel
theorem dX8_lane_58 : decode cX8_lane 58 = .ok (.getfield 29, 3) := by decide +kernel
theorem dX8_lane_61 : decode cX8_lane 61 = .ok (.dload 5, 2) := by decide +kernel
theorem dX8_lane_63 : decode cX8_lane 63 = .ok (.putfield 106, 3) := by decide +kernel
theorem dX8_lane_66 : decode cX8_lane 66 = .ok (.iconst 1, 1) := by decide +kernel
theorem dX8_lane_67 : decode cX8_lane 67 = .ok (.ireturn, 1) := by decide +kernel
set_option maxRecDepth 20000 in
theorem ggX8_step_X8_within : GoodIn wsX8_step wsX8_within := goodIn_r _ [20] (by decide +kernel) (by decide +kernel)
set_option maxRecDepth 20000 in
theorem gX8_step_X8_within : GoodIn wsX8_step (va_wsS RX8 72 yX8_within wsX8_within) := goodIn_app (goodIn_of _ (by decide +kernel)) ggX8_step_X8_within
set_option maxRecDepth 20000 in
theorem ggX8_step_X8_isTime : GoodIn wsX8_step wsX8_isTime := goodIn_r _ [24, 3, 25, 17, 18, 19, 20, 223, 224, 225, 226, 227, 228, 229, 230, 231, 232, 233, 234, 235, 236, 237, 238, 239] (by decide +kernel) (by decide +kernel)
set_option maxRecDepth 20000 in
theorem gX8_step_X8_isTime : GoodIn wsX8_step (wsV RX8 84 RX8 yX8_isTime wsX8_isTime) := goodIn_app (goodIn_of _ (by decide +kernel)) ggX8_step_X8_isTime
set_option maxRecDepth 20000 in
theorem ggX8_step_X7_move : GoodIn wsX8_step wsX7_move := goodIn_r _ [30, 31, 32, 33, 240, 241, 242, 243, 244, 245, 246, 247, 248, 249] (by decide +kernel) (by decide +kernel)
set_option maxRecDepth 20000 in
theorem gX8_step_X7_move : GoodIn wsX8_step (wsV RX8 112 RX7 yX7_move wsX7_move) := goodIn_app (goodIn_of _ (by decide +kernel)) ggX8_step_X7_move
set_option maxRecDepth 20000 in
theorem ggX8_step_X8_joinMeasures : GoodIn wsX8_step wsX8_joinMeasures := goodIn_r _ [37, 2, 38, 39, 40, 41, 42, 43, 44, 45, 29, 46, 47, 48, 49, 50, 51, 52, 53, 54, 55, 56, 57, 58, 59, 60, 61, 62, 63, 64, 65, 66, 67, 68, 69, 70, 71, 72, 73, 74, 32, 75, 76, 77, 78, 79, 80, 81, 82, 31, 83, 19, 84, 85, 86, 87, 88, 89, 90, 91, 92, 93, 94, 95, 96, 97, 98, 99, 100, 33, 101, 102, 103, 104, 105, 106, 107, 108, 109, 110, 111, 223, 224, 225, 226, 227, 228, 229, 230, 231, 232, 233, 234, 235, 236, 237, 238, 239, 250, 251, 252, 253, 240, 241, 242, 243, 244, 245, 246, 247, 248, 249, 254, 255, 256, 257, 258, 259, 260] (by decide +kernel) (by decide +kernel)
set_option maxRecDepth 20000 in
theorem gX8_step_X8_joinMeasures : GoodIn wsX8_step (wsV RX8 119 RX8 yX8_joinMeasures wsX8_joinMeasures) := goodIn_app (goodIn_of _ (by decide +kernel)) ggX8_step_X8_joinMeasures
set_option maxRecDepth 20000 in
theorem ggX8_step_X7_age : GoodIn wsX8_step wsX7_age := goodIn_r _ [115, 31, 48, 107, 102, 32, 116, 240, 241, 242, 243, 244, 245, 246, 247, 248, 249] (by decide +kernel) (by decide +kernel)
set_option maxRecDepth 20000 in
theorem gX8_step_X7_age : GoodIn wsX8_step (wsV RX8 122 RX7 yX7_age wsX7_age) := goodIn_app (goodIn_of _ (by decide +kernel)) ggX8_step_X7_age
set_option maxRecDepth 20000 in
theorem ggX8_step_X7_leadOn : GoodIn wsX8_step wsX7_leadOn := goodIn_r _ [120, 31, 102, 75, 32, 121, 122, 123, 124, 125, 126, 127, 128, 129, 83, 19, 84, 240, 241, 242, 243, 244, 245, 246, 247, 248, 249, 261, 262, 263] (by decide +kernel) (by decide +kernel)
set_option maxRecDepth 20000 in
theorem gX8_step_X7_leadOn : GoodIn wsX8_step (wsV RX8 125 RX7 yX7_leadOn wsX7_leadOn) := goodIn_app (goodIn_of _ (by decide +kernel)) ggX8_step_X7_leadOn
set_option maxRecDepth 20000 in
theorem ggX8_step_X7_isThere : GoodIn wsX8_step wsX7_isThere := goodIn_r _ [82, 31, 240, 241, 242, 243, 244, 245, 246, 247, 248, 249] (by decide +kernel) (by decide +kernel)
set_option maxRecDepth 20000 in
theorem gX8_step_X7_isThere : GoodIn wsX8_step (wsV RX8 129 RX7 yX7_isThere wsX7_isThere) := goodIn_app (goodIn_of _ (by decide +kernel)) ggX8_step_X7_isThere
set_option maxRecDepth 20000 in
theorem ggX8_step_X7_secondsTo : GoodIn wsX8_step wsX7_secondsTo := goodIn_r _ [134, 135, 33, 32, 79, 80, 81, 29, 82, 31, 240, 241, 242, 243, 244, 245, 246, 247, 248, 249] (by decide +kernel) (by decide +kernel)
set_option maxRecDepth 20000 in
theorem gX8_step_X7_secondsTo : GoodIn wsX8_step (wsV RX8 133 RX7 yX7_secondsTo wsX7_secondsTo) := goodIn_app (goodIn_of _ (by decide +kernel)) ggX8_step_X7_secondsTo
set_option maxRecDepth 20000 in
theorem ggX8_step_X8_dueStage : GoodIn wsX8_step wsX8_dueStage := goodIn_r _ [139, 6, 15, 140, 141, 142, 143, 144, 145, 146, 147, 148, 149, 83, 19, 84, 223, 224, 225, 226, 227, 228, 229, 230, 231, 232, 233, 234, 235, 236, 237, 238, 239, 264, 265, 266] (by decide +kernel) (by decide +kernel)
set_option maxRecDepth 20000 in
theorem gX8_step_X8_dueStage : GoodIn wsX8_step (wsV RX8 145 RX8 yX8_dueStage wsX8_dueStage) := goodIn_app (goodIn_of _ (by decide +kernel)) ggX8_step_X8_dueStage
set_option maxRecDepth 20000 in
theorem ggX8_step_X8_nextStage : GoodIn wsX8_step wsX8_nextStage := goodIn_r _ [152] (by decide +kernel) (by decide +kernel)
set_option maxRecDepth 20000 in
theorem gX8_step_X8_nextStage : GoodIn wsX8_step (va_wsS RX8 149 yX8_nextStage wsX8_nextStage) := goodIn_app (goodIn_of _ (by decide +kernel)) ggX8_step_X8_nextStage
set_option maxRecDepth 20000 in
theorem ggX8_step_X1_pass : GoodIn wsX8_step wsX1_pass := goodIn_r _ [157, 158, 159, 160, 161, 162, 163, 164, 165, 166, 156, 167, 168, 267, 268, 269, 270, 271] (by decide +kernel) (by decide +kernel)
set_option maxRecDepth 20000 in
theorem gX8_step_X1_pass : GoodIn wsX8_step (wsV RX8 153 RX1 yX1_pass wsX1_pass) := goodIn_app (goodIn_of _ (by decide +kernel)) ggX8_step_X1_pass
set_option maxRecDepth 20000 in
theorem ggX8_step_X8_chosenMode : GoodIn wsX8_step wsX8_chosenMode := goodIn_r _ [172, 42, 11, 173, 3, 174, 175, 10, 15, 176, 177, 178, 165, 166, 156, 167, 158, 168, 223, 224, 225, 226, 227, 228, 229, 230, 231, 232, 233, 234, 235, 236, 237, 238, 239, 267, 268, 269, 270, 271, 264, 265, 266] (by decide +kernel) (by decide +kernel)
set_option maxRecDepth 20000 in
theorem gX8_step_X8_chosenMode : GoodIn wsX8_step (wsV RX8 156 RX8 yX8_chosenMode wsX8_chosenMode) := goodIn_app (goodIn_of _ (by decide +kernel)) ggX8_step_X8_chosenMode
set_option maxRecDepth 20000 in
theorem ggX8_step_X8_limitedPull : GoodIn wsX8_step wsX8_limitedPull := goodIn_r _ [182, 15, 176, 183, 11, 173, 4, 184, 177, 185, 10, 186, 187, 188, 189, 190, 191, 192, 19, 193, 194, 195, 2, 7, 196, 197, 198, 199, 12, 200, 201, 130, 80, 81, 29, 82, 31, 202, 203, 204, 205, 206, 207, 208, 209, 210, 223, 224, 225, 226, 227, 228, 229, 230, 231, 232, 233, 234, 235, 236, 237, 238, 239, 264, 265, 266, 267, 268, 269, 270, 271, 272, 273, 274, 275, 240, 241, 242, 243, 244, 245, 246, 247, 248, 249] (by decide +kernel) (by decide +kernel)
set_option maxRecDepth 20000 in
theorem gX8_step_X8_limitedPull : GoodIn wsX8_step (wsV RX8 163 RX8 yX8_limitedPull wsX8_limitedPull) := goodIn_app (goodIn_of _ (by decide +kernel)) ggX8_step_X8_limitedPull
set_option maxRecDepth 20000 in
theorem ggX8_step_X0_steers : GoodIn wsX8_step wsX0_steers := goodIn_r _ [148, 149, 83, 19, 84, 264, 265, 266] (by decide +kernel) (by decide +kernel)
set_option maxRecDepth 20000 in
theorem gX8_step_X0_steers : GoodIn wsX8_step (wsV RX8 175 RX0 yX0_steers wsX0_steers) := goodIn_app (goodIn_of _ (by decide +kernel)) ggX8_step_X0_steers
set_option maxRecDepth 20000 in
theorem ggX8_step_X2_straightening : GoodIn wsX8_step wsX2_straightening := goodIn_r _ [214, 215, 127, 216, 128, 217, 218, 206, 19, 207, 202, 203, 204, 208, 209, 210, 261, 262, 263] (by decide +kernel) (by decide +kernel)
set_option maxRecDepth 20000 in
theorem gX8_step_X2_straightening : GoodIn wsX8_step (wsV RX8 178 RX2 yX2_straightening wsX2_straightening) := goodIn_app (goodIn_of _ (by decide +kernel)) ggX8_step_X2_straightening
set_option maxRecDepth 20000 in
theorem ggX8_step_X8_turned : GoodIn wsX8_step wsX8_turned := goodIn_r _ [221, 16, 222, 83, 19, 84] (by decide +kernel) (by decide +kernel)
set_option maxRecDepth 20000 in
theorem gX8_step_X8_turned : GoodIn wsX8_step (va_wsS RX8 182 yX8_turned wsX8_turned) := goodIn_app (goodIn_of _ (by decide +kernel)) ggX8_step_X8_turned
theorem dX8_step_0 : decode cX8_step 0 = .ok (.dload_n 1, 1) := by decide +kernel
theorem dX8_step_1 : decode cX8_step 1 = .ok (.dconst 0, 1) := by decide +kernel
theorem dX8_step_2 : decode cX8_step 2 = .ok (.ldc2_w 82, 3) := by decide +kernel
theorem dX8_step_5 : decode cX8_step 5 = .ok (.invokestatic 72, 3) := by decide +kernel
theorem dX8_step_8 : decode cX8_step 8 = .ok (.ifCond .eq 11, 3) := by decide +kernel
theorem dX8_step_11 : decode cX8_step 11 = .ok (.aload_n 0, 1) := by decide +kernel
theorem dX8_step_12 : decode cX8_step 12 = .ok (.dload_n 3, 1) := by decide +kernel
theorem dX8_step_13 : decode cX8_step 13 = .ok (.invokevirtual 84, 3) := by decide +kernel
theorem dX8_step_16 : decode cX8_step 16 = .ok (.ifCond .ne 6, 3) := by decide +kernel
theorem dX8_step_19 : decode cX8_step 19 = .ok (.bipush (-2), 2) := by decide +kernel
theorem dX8_step_21 : decode cX8_step 21 = .ok (.ireturn, 1) := by decide +kernel
theorem dX8_step_22 : decode cX8_step 22 = .ok (.aload_n 0, 1) := by decide +kernel
theorem dX8_step_23 : decode cX8_step 23 = .ok (.getfield 22, 3) := by decide +kernel
theorem dX8_step_26 : decode cX8_step 26 = .ok (.dload_n 1, 1) := by decide +kernel
theorem dX8_step_27 : decode cX8_step 27 = .ok (.dload_n 3, 1) := by decide +kernel
theorem dX8_step_28 : decode cX8_step 28 = .ok (.aload_n 0, 1) := by decide +kernel
theorem dX8_step_29 : decode cX8_step 29 = .ok (.getfield 109, 3) := by decide +kernel
theorem dX8_step_32 : decode cX8_step 32 = .ok (.dsub, 1) := by decide +kernel
theorem dX8_step_33 : decode cX8_step 33 = .ok (.invokevirtual 112, 3) := by decide +kernel
theorem dX8_step_36 : decode cX8_step 36 = .ok (.aload_n 0, 1) := by decide +kernel
theorem dX8_step_37 : decode cX8_step 37 = .ok (.dload_n 3, 1) := by decide +kernel
theorem dX8_step_38 : decode cX8_step 38 = .ok (.putfield 109, 3) := by decide +kernel
theorem dX8_step_41 : decode cX8_step 41 = .ok (.aload_n 0, 1) := by decide +kernel
theorem dX8_step_42 : decode cX8_step 42 = .ok (.dload_n 1, 1) := by decide +kernel
theorem dX8_step_43 : decode cX8_step 43 = .ok (.putfield 116, 3) := by decide +kernel
theorem dX8_step_46 : decode cX8_step 46 = .ok (.aload_n 0, 1) := by decide +kernel
theorem dX8_step_47 : decode cX8_step 47 = .ok (.invokevirtual 119, 3) := by decide +kernel
theorem dX8_step_50 : decode cX8_step 50 = .ok (.aload_n 0, 1) := by decide +kernel
theorem dX8_step_51 : decode cX8_step 51 = .ok (.getfield 22, 3) := by decide +kernel
theorem dX8_step_54 : decode cX8_step 54 = .ok (.invokevirtual 122, 3) := by decide +kernel
theorem dX8_step_57 : decode cX8_step 57 = .ok (.aload_n 0, 1) := by decide +kernel
theorem dX8_step_58 : decode cX8_step 58 = .ok (.getfield 22, 3) := by decide +kernel
theorem dX8_step_61 : decode cX8_step 61 = .ok (.aload_n 0, 1) := by decide +kernel
theorem dX8_step_62 : decode cX8_step 62 = .ok (.getfield 29, 3) := by decide +kernel
theorem dX8_step_65 : decode cX8_step 65 = .ok (.invokevirtual 125, 3) := by decide +kernel
theorem dX8_step_68 : decode cX8_step 68 = .ok (.istore 5, 2) := by decide +kernel
theorem dX8_step_70 : decode cX8_step 70 = .ok (.aload_n 0, 1) := by decide +kernel
theorem dX8_step_71 : decode cX8_step 71 = .ok (.getfield 22, 3) := by decide +kernel
theorem dX8_step_74 : decode cX8_step 74 = .ok (.iload 5, 2) := by decide +kernel
theorem dX8_step_76 : decode cX8_step 76 = .ok (.invokevirtual 129, 3) := by decide +kernel
theorem dX8_step_79 : decode cX8_step 79 = .ok (.istore 6, 2) := by decide +kernel
theorem dX8_step_81 : decode cX8_step 81 = .ok (.aload_n 0, 1) := by decide +kernel
theorem dX8_step_82 : decode cX8_step 82 = .ok (.aload_n 0, 1) := by decide +kernel
theorem dX8_step_83 : decode cX8_step 83 = .ok (.getfield 22, 3) := by decide +kernel
theorem dX8_step_86 : decode cX8_step 86 = .ok (.iload 5, 2) := by decide +kernel
theorem dX8_step_88 : decode cX8_step 88 = .ok (.dload_n 1, 1) := by decide +kernel
theorem dX8_step_89 : decode cX8_step 89 = .ok (.invokevirtual 133, 3) := by decide +kernel
theorem dX8_step_92 : decode cX8_step 92 = .ok (.putfield 63, 3) := by decide +kernel
theorem dX8_step_95 : decode cX8_step 95 = .ok (.aload_n 0, 1) := by decide +kernel
theorem dX8_step_96 : decode cX8_step 96 = .ok (.iload 6, 2) := by decide +kernel
theorem dX8_step_98 : decode cX8_step 98 = .ok (.ifCond .eq 16, 3) := by decide +kernel
theorem dX8_step_101 : decode cX8_step 101 = .ok (.aload_n 0, 1) := by decide +kernel
theorem dX8_step_102 : decode cX8_step 102 = .ok (.getfield 22, 3) := by decide +kernel
theorem dX8_step_105 : decode cX8_step 105 = .ok (.getfield 137, 3) := by decide +kernel
theorem dX8_step_108 : decode cX8_step 108 = .ok (.iload 5, 2) := by decide +kernel
theorem dX8_step_110 : decode cX8_step 110 = .ok (.daload, 1) := by decide +kernel
theorem dX8_step_111 : decode cX8_step 111 = .ok (.goto 6, 3) := by decide +kernel
theorem dX8_step_114 : decode cX8_step 114 = .ok (.ldc2_w 61, 3) := by decide +kernel
theorem dX8_step_117 : decode cX8_step 117 = .ok (.putfield 67, 3) := by decide +kernel
theorem dX8_step_120 : decode cX8_step 120 = .ok (.aload_n 0, 1) := by decide +kernel
theorem dX8_step_121 : decode cX8_step 121 = .ok (.aload_n 0, 1) := by decide +kernel
theorem dX8_step_122 : decode cX8_step 122 = .ok (.getfield 141, 3) := by decide +kernel
theorem dX8_step_125 : decode cX8_step 125 = .ok (.aload_n 0, 1) := by decide +kernel
theorem dX8_step_126 : decode cX8_step 126 = .ok (.invokevirtual 145, 3) := by decide +kernel
theorem dX8_step_129 : decode cX8_step 129 = .ok (.invokestatic 149, 3) := by decide +kernel
theorem dX8_step_132 : decode cX8_step 132 = .ok (.putfield 141, 3) := by decide +kernel
theorem dX8_step_135 : decode cX8_step 135 = .ok (.aload_n 0, 1) := by decide +kernel
theorem dX8_step_136 : decode cX8_step 136 = .ok (.getfield 50, 3) := by decide +kernel
theorem dX8_step_139 : decode cX8_step 139 = .ok (.aload_n 0, 1) := by decide +kernel
theorem dX8_step_140 : decode cX8_step 140 = .ok (.getfield 109, 3) := by decide +kernel
theorem dX8_step_143 : decode cX8_step 143 = .ok (.dload_n 1, 1) := by decide +kernel
theorem dX8_step_144 : decode cX8_step 144 = .ok (.invokevirtual 153, 3) := by decide +kernel
theorem dX8_step_147 : decode cX8_step 147 = .ok (.aload_n 0, 1) := by decide +kernel
theorem dX8_step_148 : decode cX8_step 148 = .ok (.aload_n 0, 1) := by decide +kernel
theorem dX8_step_149 : decode cX8_step 149 = .ok (.iload 6, 2) := by decide +kernel
theorem dX8_step_151 : decode cX8_step 151 = .ok (.invokevirtual 156, 3) := by decide +kernel
theorem dX8_step_154 : decode cX8_step 154 = .ok (.putfield 160, 3) := by decide +kernel
theorem dX8_step_157 : decode cX8_step 157 = .ok (.aload_n 0, 1) := by decide +kernel
theorem dX8_step_158 : decode cX8_step 158 = .ok (.aload_n 0, 1) := by decide +kernel
theorem dX8_step_159 : decode cX8_step 159 = .ok (.iload 5, 2) := by decide +kernel
theorem dX8_step_161 : decode cX8_step 161 = .ok (.invokevirtual 163, 3) := by decide +kernel
theorem dX8_step_164 : decode cX8_step 164 = .ok (.putfield 167, 3) := by decide +kernel
theorem dX8_step_167 : decode cX8_step 167 = .ok (.aload_n 0, 1) := by decide +kernel
theorem dX8_step_168 : decode cX8_step 168 = .ok (.aload_n 0, 1) := by decide +kernel
theorem dX8_step_169 : decode cX8_step 169 = .ok (.getfield 170, 3) := by decide +kernel
theorem dX8_step_172 : decode cX8_step 172 = .ok (.aload_n 0, 1) := by decide +kernel
theorem dX8_step_173 : decode cX8_step 173 = .ok (.getfield 36, 3) := by decide +kernel
theorem dX8_step_176 : decode cX8_step 176 = .ok (.ldc2_w 173, 3) := by decide +kernel
theorem dX8_step_179 : decode cX8_step 179 = .ok (.invokevirtual 175, 3) := by decide +kernel
theorem dX8_step_182 : decode cX8_step 182 = .ok (.ifCond .eq 7, 3) := by decide +kernel
theorem dX8_step_185 : decode cX8_step 185 = .ok (.dconst 0, 1) := by decide +kernel
theorem dX8_step_186 : decode cX8_step 186 = .ok (.goto 10, 3) := by decide +kernel
theorem dX8_step_189 : decode cX8_step 189 = .ok (.aload_n 0, 1) := by decide +kernel
theorem dX8_step_190 : decode cX8_step 190 = .ok (.getfield 29, 3) := by decide +kernel
theorem dX8_step_193 : decode cX8_step 193 = .ok (.invokevirtual 178, 3) := by decide +kernel
theorem dX8_step_196 : decode cX8_step 196 = .ok (.invokestatic 182, 3) := by decide +kernel
theorem dX8_step_199 : decode cX8_step 199 = .ok (.putfield 170, 3) := by decide +kernel
theorem dX8_step_202 : decode cX8_step 202 = .ok (.aload_n 0, 1) := by decide +kernel
theorem dX8_step_203 : decode cX8_step 203 = .ok (.getfield 160, 3) := by decide +kernel
theorem dX8_step_206 : decode cX8_step 206 = .ok (.ireturn, 1) := by decide +kernel
set_option maxRecDepth 20000 in
theorem ggX8_wish_X8_unsignedZero : GoodIn wsX8_wish wsX8_unsignedZero := goodIn_r _ [8] (by decide +kernel) (by decide +kernel)
set_option maxRecDepth 20000 in
theorem gX8_wish_X8_unsignedZero : GoodIn wsX8_wish (va_wsS RX8 186 yX8_unsignedZero wsX8_unsignedZero) := goodIn_app (goodIn_of _ (by decide +kernel)) ggX8_wish_X8_unsignedZero
theorem dX8_wish_0 : decode cX8_wish 0 = .ok (.iload_n 1, 1) := by decide +kernel
theorem dX8_wish_1 : decode cX8_wish 1 = .ok (.tableswitch 63 0 3 #[31, 39, 47, 55], 31) := by decide +kernel
theorem dX8_wish_32 : decode cX8_wish 32 = .ok (.aload_n 0, 1) := by decide +kernel
theorem dX8_wish_33 : decode cX8_wish 33 = .ok (.getfield 167, 3) := by decide +kernel
theorem dX8_wish_36 : decode cX8_wish 36 = .ok (.invokestatic 186, 3) := by decide +kernel
theorem dX8_wish_39 : decode cX8_wish 39 = .ok (.dreturn, 1) := by decide +kernel
theorem dX8_wish_40 : decode cX8_wish 40 = .ok (.aload_n 0, 1) := by decide +kernel
theorem dX8_wish_41 : decode cX8_wish 41 = .ok (.getfield 170, 3) := by decide +kernel
theorem dX8_wish_44 : decode cX8_wish 44 = .ok (.invokestatic 186, 3) := by decide +kernel
theorem dX8_wish_47 : decode cX8_wish 47 = .ok (.dreturn, 1) := by decide +kernel
theorem dX8_wish_48 : decode cX8_wish 48 = .ok (.aload_n 0, 1) := by decide +kernel
theorem dX8_wish_49 : decode cX8_wish 49 = .ok (.getfield 63, 3) := by decide +kernel
theorem dX8_wish_52 : decode cX8_wish 52 = .ok (.invokestatic 186, 3) := by decide +kernel
theorem dX8_wish_55 : decode cX8_wish 55 = .ok (.dreturn, 1) := by decide +kernel
theorem dX8_wish_56 : decode cX8_wish 56 = .ok (.aload_n 0, 1) := by decide +kernel
theorem dX8_wish_57 : decode cX8_wish 57 = .ok (.getfield 67, 3) := by decide +kernel
theorem dX8_wish_60 : decode cX8_wish 60 = .ok (.invokestatic 186, 3) := by decide +kernel
theorem dX8_wish_63 : decode cX8_wish 63 = .ok (.dreturn, 1) := by decide +kernel
theorem dX8_wish_64 : decode cX8_wish 64 = .ok (.dconst 0, 1) := by decide +kernel
theorem dX8_wish_65 : decode cX8_wish 65 = .ok (.dreturn, 1) := by decide +kernel
theorem dX8_stage_0 : decode cX8_stage 0 = .ok (.aload_n 0, 1) := by decide +kernel
theorem dX8_stage_1 : decode cX8_stage 1 = .ok (.getfield 141, 3) := by decide +kernel
theorem dX8_stage_4 : decode cX8_stage 4 = .ok (.ireturn, 1) := by decide +kernel
set_option maxRecDepth 20000 in
theorem ggX8_time_X7_secondsTo : GoodIn wsX8_time wsX7_secondsTo := goodIn_r _ [7, 8, 9, 10, 11, 12, 13, 6, 14, 15, 37, 38, 39, 40, 41, 42, 43, 44, 45, 46] (by decide +kernel) (by decide +kernel)
set_option maxRecDepth 20000 in
theorem gX8_time_X7_secondsTo : GoodIn wsX8_time (wsV RX8 133 RX7 yX7_secondsTo wsX7_secondsTo) := goodIn_app (goodIn_of _ (by decide +kernel)) ggX8_time_X7_secondsTo
set_option maxRecDepth 20000 in
theorem ggX8_time_X8_unsignedZero : GoodIn wsX8_time wsX8_unsignedZero := goodIn_r _ [19] (by decide +kernel) (by decide +kernel)
set_option maxRecDepth 20000 in
theorem gX8_time_X8_unsignedZero : GoodIn wsX8_time (va_wsS RX8 186 yX8_unsignedZero wsX8_unsignedZero) := goodIn_app (goodIn_of _ (by decide +kernel)) ggX8_time_X8_unsignedZero
theorem dX8_time_0 : decode cX8_time 0 = .ok (.aload_n 0, 1) := by decide +kernel
theorem dX8_time_1 : decode cX8_time 1 = .ok (.getfield 22, 3) := by decide +kernel
theorem dX8_time_4 : decode cX8_time 4 = .ok (.iload_n 1, 1) := by decide +kernel
theorem dX8_time_5 : decode cX8_time 5 = .ok (.aload_n 0, 1) := by decide +kernel
theorem dX8_time_6 : decode cX8_time 6 = .ok (.getfield 116, 3) := by decide +kernel
theorem dX8_time_9 : decode cX8_time 9 = .ok (.invokevirtual 133, 3) := by decide +kernel
theorem dX8_time_12 : decode cX8_time 12 = .ok (.invokestatic 186, 3) := by decide +kernel
theorem dX8_time_15 : decode cX8_time 15 = .ok (.dreturn, 1) := by decide +kernel
theorem dX8_whole_0 : decode cX8_whole 0 = .ok (.lload_n 3, 1) := by decide +kernel
theorem dX8_whole_1 : decode cX8_whole 1 = .ok (.lconst 0, 1) := by decide +kernel
theorem dX8_whole_2 : decode cX8_whole 2 = .ok (.lcmp, 1) := by decide +kernel
theorem dX8_whole_3 : decode cX8_whole 3 = .ok (.ifCond .ne 13, 3) := by decide +kernel
theorem dX8_whole_6 : decode cX8_whole 6 = .ok (.new 190, 3) := by decide +kernel
theorem dX8_whole_9 : decode cX8_whole 9 = .ok (.dup, 1) := by decide +kernel
theorem dX8_whole_10 : decode cX8_whole 10 = .ok (.ldc 192, 2) := by decide +kernel
theorem dX8_whole_12 : decode cX8_whole 12 = .ok (.invokespecial 194, 3) := by decide +kernel
theorem dX8_whole_15 : decode cX8_whole 15 = .ok (.athrow, 1) := by decide +kernel
theorem dX8_whole_16 : decode cX8_whole 16 = .ok (.lload_n 1, 1) := by decide +kernel
theorem dX8_whole_17 : decode cX8_whole 17 = .ok (.lload_n 3, 1) := by decide +kernel
theorem dX8_whole_18 : decode cX8_whole 18 = .ok (.ldiv, 1) := by decide +kernel
theorem dX8_whole_19 : decode cX8_whole 19 = .ok (.lreturn, 1) := by decide +kernel
set_option maxRecDepth 20000 in
theorem ggX8_driver_X0_tell : GoodIn wsX8_driver wsX0_tell := goodIn_r _ [6, 7, 8, 9, 10, 11, 12, 13, 31, 32, 33] (by decide +kernel) (by decide +kernel)
set_option maxRecDepth 20000 in
theorem gX8_driver_X0_tell : GoodIn wsX8_driver (wsV RX8 197 RX0 yX0_tell wsX0_tell) := goodIn_app (goodIn_of _ (by decide +kernel)) ggX8_driver_X0_tell
theorem dX8_driver_0 : decode cX8_driver 0 = .ok (.iload_n 1, 1) := by decide +kernel
theorem dX8_driver_1 : decode cX8_driver 1 = .ok (.ifCond .lt 8, 3) := by decide +kernel
theorem dX8_driver_4 : decode cX8_driver 4 = .ok (.iload_n 1, 1) := by decide +kernel
theorem dX8_driver_5 : decode cX8_driver 5 = .ok (.iconst 2, 1) := by decide +kernel
theorem dX8_driver_6 : decode cX8_driver 6 = .ok (.if_icmp .le 5, 3) := by decide +kernel
theorem dX8_driver_9 : decode cX8_driver 9 = .ok (.iconst (-1), 1) := by decide +kernel
theorem dX8_driver_10 : decode cX8_driver 10 = .ok (.ireturn, 1) := by decide +kernel
theorem dX8_driver_11 : decode cX8_driver 11 = .ok (.aload_n 0, 1) := by decide +kernel
theorem dX8_driver_12 : decode cX8_driver 12 = .ok (.getfield 36, 3) := by decide +kernel
theorem dX8_driver_15 : decode cX8_driver 15 = .ok (.iload_n 1, 1) := by decide +kernel
theorem dX8_driver_16 : decode cX8_driver 16 = .ok (.dload_n 2, 1) := by decide +kernel
theorem dX8_driver_17 : decode cX8_driver 17 = .ok (.invokevirtual 197, 3) := by decide +kernel
theorem dX8_driver_20 : decode cX8_driver 20 = .ok (.ifCond .eq 7, 3) := by decide +kernel
theorem dX8_driver_23 : decode cX8_driver 23 = .ok (.iconst 1, 1) := by decide +kernel
theorem dX8_driver_24 : decode cX8_driver 24 = .ok (.goto 5, 3) := by decide +kernel
theorem dX8_driver_27 : decode cX8_driver 27 = .ok (.bipush (-2), 2) := by decide +kernel
theorem dX8_driver_29 : decode cX8_driver 29 = .ok (.ireturn, 1) := by decide +kernel
set_option maxRecDepth 20000 in
theorem ggX8_limit_X3_tell : GoodIn wsX8_limit wsX3_tell := goodIn_r _ [6, 7, 8, 9, 10, 11, 12, 5, 13, 14, 15, 16, 17, 18, 19, 20, 38, 39, 40, 41] (by decide +kernel) (by decide +kernel)
set_option maxRecDepth 20000 in
theorem gX8_limit_X3_tell : GoodIn wsX8_limit (wsV RX8 201 RX3 yX3_tell wsX3_tell) := goodIn_app (goodIn_of _ (by decide +kernel)) ggX8_limit_X3_tell
theorem dX8_limit_0 : decode cX8_limit 0 = .ok (.iload_n 1, 1) := by decide +kernel
theorem dX8_limit_1 : decode cX8_limit 1 = .ok (.ifCond .lt 8, 3) := by decide +kernel
theorem dX8_limit_4 : decode cX8_limit 4 = .ok (.iload_n 1, 1) := by decide +kernel
theorem dX8_limit_5 : decode cX8_limit 5 = .ok (.iconst 3, 1) := by decide +kernel
theorem dX8_limit_6 : decode cX8_limit 6 = .ok (.if_icmp .le 5, 3) := by decide +kernel
theorem dX8_limit_9 : decode cX8_limit 9 = .ok (.iconst (-1), 1) := by decide +kernel
theorem dX8_limit_10 : decode cX8_limit 10 = .ok (.ireturn, 1) := by decide +kernel
theorem dX8_limit_11 : decode cX8_limit 11 = .ok (.aload_n 0, 1) := by decide +kernel
theorem dX8_limit_12 : decode cX8_limit 12 = .ok (.getfield 43, 3) := by decide +kernel
theorem dX8_limit_15 : decode cX8_limit 15 = .ok (.iload_n 1, 1) := by decide +kernel
theorem dX8_limit_16 : decode cX8_limit 16 = .ok (.dload_n 2, 1) := by decide +kernel
theorem dX8_limit_17 : decode cX8_limit 17 = .ok (.invokevirtual 201, 3) := by decide +kernel
theorem dX8_limit_20 : decode cX8_limit 20 = .ok (.ifCond .eq 7, 3) := by decide +kernel
theorem dX8_limit_23 : decode cX8_limit 23 = .ok (.iconst 1, 1) := by decide +kernel
theorem dX8_limit_24 : decode cX8_limit 24 = .ok (.goto 5, 3) := by decide +kernel
theorem dX8_limit_27 : decode cX8_limit 27 = .ok (.bipush (-2), 2) := by decide +kernel
theorem dX8_limit_29 : decode cX8_limit 29 = .ok (.ireturn, 1) := by decide +kernel
set_option maxRecDepth 20000 in
theorem ggX8_track_X7_read : GoodIn wsX8_track wsX7_read := goodIn_r _ [6, 7, 8, 9, 10, 11, 12, 13, 14, 15, 5, 16, 17, 35, 36, 37, 38, 39, 40, 41, 42, 43, 44] (by decide +kernel) (by decide +kernel)
set_option maxRecDepth 20000 in
theorem gX8_track_X7_read : GoodIn wsX8_track (wsV RX8 202 RX7 yX7_read wsX7_read) := goodIn_app (goodIn_of _ (by decide +kernel)) ggX8_track_X7_read
theorem dX8_track_0 : decode cX8_track 0 = .ok (.iload_n 1, 1) := by decide +kernel
theorem dX8_track_1 : decode cX8_track 1 = .ok (.ifCond .lt 9, 3) := by decide +kernel
theorem dX8_track_4 : decode cX8_track 4 = .ok (.iload_n 1, 1) := by decide +kernel
theorem dX8_track_5 : decode cX8_track 5 = .ok (.bipush 8, 2) := by decide +kernel
theorem dX8_track_7 : decode cX8_track 7 = .ok (.if_icmp .lt 5, 3) := by decide +kernel
theorem dX8_track_10 : decode cX8_track 10 = .ok (.iconst (-1), 1) := by decide +kernel
theorem dX8_track_11 : decode cX8_track 11 = .ok (.ireturn, 1) := by decide +kernel
theorem dX8_track_12 : decode cX8_track 12 = .ok (.iload_n 2, 1) := by decide +kernel
theorem dX8_track_13 : decode cX8_track 13 = .ok (.ifCond .lt 8, 3) := by decide +kernel
theorem dX8_track_16 : decode cX8_track 16 = .ok (.iload_n 2, 1) := by decide +kernel
theorem dX8_track_17 : decode cX8_track 17 = .ok (.iconst 5, 1) := by decide +kernel
theorem dX8_track_18 : decode cX8_track 18 = .ok (.if_icmp .le 6, 3) := by decide +kernel
theorem dX8_track_21 : decode cX8_track 21 = .ok (.bipush (-2), 2) := by decide +kernel
theorem dX8_track_23 : decode cX8_track 23 = .ok (.ireturn, 1) := by decide +kernel
theorem dX8_track_24 : decode cX8_track 24 = .ok (.aload_n 0, 1) := by decide +kernel
theorem dX8_track_25 : decode cX8_track 25 = .ok (.getfield 22, 3) := by decide +kernel
theorem dX8_track_28 : decode cX8_track 28 = .ok (.iload_n 1, 1) := by decide +kernel
theorem dX8_track_29 : decode cX8_track 29 = .ok (.iload_n 2, 1) := by decide +kernel
theorem dX8_track_30 : decode cX8_track 30 = .ok (.invokevirtual 202, 3) := by decide +kernel
theorem dX8_track_33 : decode cX8_track 33 = .ok (.ireturn, 1) := by decide +kernel
set_option maxRecDepth 20000 in
theorem ggX8_sign_X6_see : GoodIn wsX8_sign wsX6_see := goodIn_r _ [6, 7, 8, 9, 10, 5, 11, 12, 13, 14, 15, 33, 34] (by decide +kernel) (by decide +kernel)
set_option maxRecDepth 20000 in
theorem gX8_sign_X6_see : GoodIn wsX8_sign (wsV RX8 205 RX6 yX6_see wsX6_see) := goodIn_app (goodIn_of _ (by decide +kernel)) ggX8_sign_X6_see
theorem dX8_sign_0 : decode cX8_sign 0 = .ok (.iload_n 1, 1) := by decide +kernel
theorem dX8_sign_1 : decode cX8_sign 1 = .ok (.iconst 1, 1) := by decide +kernel
theorem dX8_sign_2 : decode cX8_sign 2 = .ok (.if_icmp .lt 9, 3) := by decide +kernel
theorem dX8_sign_5 : decode cX8_sign 5 = .ok (.iload_n 1, 1) := by decide +kernel
theorem dX8_sign_6 : decode cX8_sign 6 = .ok (.bipush 13, 2) := by decide +kernel
theorem dX8_sign_8 : decode cX8_sign 8 = .ok (.if_icmp .le 5, 3) := by decide +kernel
theorem dX8_sign_11 : decode cX8_sign 11 = .ok (.iconst (-1), 1) := by decide +kernel
theorem dX8_sign_12 : decode cX8_sign 12 = .ok (.ireturn, 1) := by decide +kernel
theorem dX8_sign_13 : decode cX8_sign 13 = .ok (.iload_n 2, 1) := by decide +kernel
theorem dX8_sign_14 : decode cX8_sign 14 = .ok (.ifCond .lt 9, 3) := by decide +kernel
theorem dX8_sign_17 : decode cX8_sign 17 = .ok (.iload_n 2, 1) := by decide +kernel
theorem dX8_sign_18 : decode cX8_sign 18 = .ok (.bipush 100, 2) := by decide +kernel
theorem dX8_sign_20 : decode cX8_sign 20 = .ok (.if_icmp .le 6, 3) := by decide +kernel
theorem dX8_sign_23 : decode cX8_sign 23 = .ok (.bipush (-2), 2) := by decide +kernel
theorem dX8_sign_25 : decode cX8_sign 25 = .ok (.ireturn, 1) := by decide +kernel
theorem dX8_sign_26 : decode cX8_sign 26 = .ok (.aload_n 0, 1) := by decide +kernel
theorem dX8_sign_27 : decode cX8_sign 27 = .ok (.getfield 57, 3) := by decide +kernel
theorem dX8_sign_30 : decode cX8_sign 30 = .ok (.iload_n 1, 1) := by decide +kernel
theorem dX8_sign_31 : decode cX8_sign 31 = .ok (.iload_n 2, 1) := by decide +kernel
theorem dX8_sign_32 : decode cX8_sign 32 = .ok (.invokevirtual 205, 3) := by decide +kernel
theorem dX8_sign_35 : decode cX8_sign 35 = .ok (.ireturn, 1) := by decide +kernel
set_option maxRecDepth 20000 in
theorem ggX8_hands_X8_isTime : GoodIn wsX8_hands wsX8_isTime := goodIn_r _ [6, 7, 8, 9, 10, 5, 11, 19, 20, 21, 22, 23, 24, 25, 26, 27, 28, 29, 30, 31, 32, 33, 34, 35] (by decide +kernel) (by decide +kernel)
set_option maxRecDepth 20000 in
theorem gX8_hands_X8_isTime : GoodIn wsX8_hands (wsV RX8 84 RX8 yX8_isTime wsX8_isTime) := goodIn_app (goodIn_of _ (by decide +kernel)) ggX8_hands_X8_isTime
set_option maxRecDepth 20000 in
theorem ggX8_hands_X1_tell : GoodIn wsX8_hands wsX1_tell := goodIn_r _ [16, 17, 18, 36, 37, 38, 39, 40] (by decide +kernel) (by decide +kernel)
set_option maxRecDepth 20000 in
theorem gX8_hands_X1_tell : GoodIn wsX8_hands (wsV RX8 208 RX1 yX1_tell wsX1_tell) := goodIn_app (goodIn_of _ (by decide +kernel)) ggX8_hands_X1_tell
theorem dX8_hands_0 : decode cX8_hands 0 = .ok (.aload_n 0, 1) := by decide +kernel
theorem dX8_hands_1 : decode cX8_hands 1 = .ok (.dload_n 2, 1) := by decide +kernel
theorem dX8_hands_2 : decode cX8_hands 2 = .ok (.invokevirtual 84, 3) := by decide +kernel
theorem dX8_hands_5 : decode cX8_hands 5 = .ok (.ifCond .ne 6, 3) := by decide +kernel
theorem dX8_hands_8 : decode cX8_hands 8 = .ok (.bipush (-2), 2) := by decide +kernel
theorem dX8_hands_10 : decode cX8_hands 10 = .ok (.ireturn, 1) := by decide +kernel
theorem dX8_hands_11 : decode cX8_hands 11 = .ok (.aload_n 0, 1) := by decide +kernel
theorem dX8_hands_12 : decode cX8_hands 12 = .ok (.getfield 50, 3) := by decide +kernel
theorem dX8_hands_15 : decode cX8_hands 15 = .ok (.iload_n 1, 1) := by decide +kernel
theorem dX8_hands_16 : decode cX8_hands 16 = .ok (.dload_n 2, 1) := by decide +kernel
theorem dX8_hands_17 : decode cX8_hands 17 = .ok (.invokevirtual 208, 3) := by decide +kernel
theorem dX8_hands_20 : decode cX8_hands 20 = .ok (.ifCond .eq 7, 3) := by decide +kernel
theorem dX8_hands_23 : decode cX8_hands 23 = .ok (.iconst 1, 1) := by decide +kernel
theorem dX8_hands_24 : decode cX8_hands 24 = .ok (.goto 4, 3) := by decide +kernel
theorem dX8_hands_27 : decode cX8_hands 27 = .ok (.iconst 0, 1) := by decide +kernel
theorem dX8_hands_28 : decode cX8_hands 28 = .ok (.ireturn, 1) := by decide +kernel
set_option maxRecDepth 20000 in
theorem ggX8_handOver_X8_isTime : GoodIn wsX8_handOver wsX8_isTime := goodIn_r _ [6, 7, 8, 9, 10, 5, 11, 21, 22, 23, 24, 25, 26, 27, 28, 29, 30, 31, 32, 33, 34, 35, 36, 37] (by decide +kernel) (by decide +kernel)
set_option maxRecDepth 20000 in
theorem gX8_handOver_X8_isTime : GoodIn wsX8_handOver (wsV RX8 84 RX8 yX8_isTime wsX8_isTime) := goodIn_app (goodIn_of _ (by decide +kernel)) ggX8_handOver_X8_isTime
set_option maxRecDepth 20000 in
theorem ggX8_handOver_X1_ask : GoodIn wsX8_handOver wsX1_ask := goodIn_r _ [16, 17, 18, 19, 20, 38, 39, 40, 41, 42] (by decide +kernel) (by decide +kernel)
set_option maxRecDepth 20000 in
theorem gX8_handOver_X1_ask : GoodIn wsX8_handOver (wsV RX8 211 RX1 yX1_ask wsX1_ask) := goodIn_app (goodIn_of _ (by decide +kernel)) ggX8_handOver_X1_ask
theorem dX8_handOver_0 : decode cX8_handOver 0 = .ok (.aload_n 0, 1) := by decide +kernel
theorem dX8_handOver_1 : decode cX8_handOver 1 = .ok (.dload_n 1, 1) := by decide +kernel
theorem dX8_handOver_2 : decode cX8_handOver 2 = .ok (.invokevirtual 84, 3) := by decide +kernel
theorem dX8_handOver_5 : decode cX8_handOver 5 = .ok (.ifCond .ne 6, 3) := by decide +kernel
theorem dX8_handOver_8 : decode cX8_handOver 8 = .ok (.bipush (-2), 2) := by decide +kernel
theorem dX8_handOver_10 : decode cX8_handOver 10 = .ok (.ireturn, 1) := by decide +kernel
theorem dX8_handOver_11 : decode cX8_handOver 11 = .ok (.aload_n 0, 1) := by decide +kernel
theorem dX8_handOver_12 : decode cX8_handOver 12 = .ok (.getfield 50, 3) := by decide +kernel
theorem dX8_handOver_15 : decode cX8_handOver 15 = .ok (.dload_n 1, 1) := by decide +kernel
theorem dX8_handOver_16 : decode cX8_handOver 16 = .ok (.invokevirtual 211, 3) := by decide +kernel
theorem dX8_handOver_19 : decode cX8_handOver 19 = .ok (.ifCond .eq 7, 3) := by decide +kernel
theorem dX8_handOver_22 : decode cX8_handOver 22 = .ok (.iconst 1, 1) := by decide +kernel
theorem dX8_handOver_23 : decode cX8_handOver 23 = .ok (.goto 5, 3) := by decide +kernel
theorem dX8_handOver_26 : decode cX8_handOver 26 = .ok (.bipush (-3), 2) := by decide +kernel
theorem dX8_handOver_28 : decode cX8_handOver 28 = .ok (.ireturn, 1) := by decide +kernel
theorem dX8_mode_0 : decode cX8_mode 0 = .ok (.aload_n 0, 1) := by decide +kernel
theorem dX8_mode_1 : decode cX8_mode 1 = .ok (.getfield 160, 3) := by decide +kernel
theorem dX8_mode_4 : decode cX8_mode 4 = .ok (.ireturn, 1) := by decide +kernel
set_option maxRecDepth 20000 in
theorem ggX8_isTime_X8_within : GoodIn wsX8_isTime wsX8_within := goodIn_r _ [6] (by decide +kernel) (by decide +kernel)
set_option maxRecDepth 20000 in
theorem gX8_isTime_X8_within : GoodIn wsX8_isTime (va_wsS RX8 72 yX8_within wsX8_within) := goodIn_app (goodIn_of _ (by decide +kernel)) ggX8_isTime_X8_within
theorem dX8_isTime_0 : decode cX8_isTime 0 = .ok (.dload_n 1, 1) := by decide +kernel
theorem dX8_isTime_1 : decode cX8_isTime 1 = .ok (.aload_n 0, 1) := by decide +kernel
theorem dX8_isTime_2 : decode cX8_isTime 2 = .ok (.getfield 109, 3) := by decide +kernel
theorem dX8_isTime_5 : decode cX8_isTime 5 = .ok (.ldc2_w 214, 3) := by decide +kernel
theorem dX8_isTime_8 : decode cX8_isTime 8 = .ok (.invokestatic 72, 3) := by decide +kernel
theorem dX8_isTime_11 : decode cX8_isTime 11 = .ok (.ireturn, 1) := by decide +kernel
set_option maxRecDepth 20000 in
theorem ggX8_joinMeasures_X7_forgetMeetings : GoodIn wsX8_joinMeasures wsX7_forgetMeetings := goodIn_r _ [11, 12, 13, 102, 103, 104, 105, 106, 107, 108, 109, 110, 111] (by decide +kernel) (by decide +kernel)
set_option maxRecDepth 20000 in
theorem gX8_joinMeasures_X7_forgetMeetings : GoodIn wsX8_joinMeasures (wsV RX8 216 RX7 yX7_forgetMeetings wsX7_forgetMeetings) := goodIn_app (goodIn_of _ (by decide +kernel)) ggX8_joinMeasures_X7_forgetMeetings
set_option maxRecDepth 20000 in
theorem ggX8_joinMeasures_X7_meet : GoodIn wsX8_joinMeasures wsX7_meet := goodIn_r _ [17, 18, 19, 20, 21, 22, 23, 24, 25, 26, 27, 28, 29, 30, 31, 32, 33, 34, 35, 36, 37, 38, 10, 39, 40, 41, 42, 43, 44, 45, 46, 47, 48, 49, 50, 51, 52, 53, 54, 55, 56, 57, 58, 59, 60, 61, 62, 63, 64, 65, 66, 13, 67, 12, 68, 69, 70, 71, 72, 73, 74, 75, 76, 77, 78, 79, 80, 102, 103, 104, 105, 106, 107, 108, 109, 110, 111, 98, 99, 100, 101, 112, 113, 114, 115, 116, 117, 118] (by decide +kernel) (by decide +kernel)
set_option maxRecDepth 20000 in
theorem gX8_joinMeasures_X7_meet : GoodIn wsX8_joinMeasures (wsV RX8 219 RX7 yX7_meet wsX7_meet) := goodIn_app (goodIn_of _ (by decide +kernel)) ggX8_joinMeasures_X7_meet
theorem dX8_joinMeasures_0 : decode cX8_joinMeasures 0 = .ok (.aload_n 0, 1) := by decide +kernel
theorem dX8_joinMeasures_1 : decode cX8_joinMeasures 1 = .ok (.getfield 22, 3) := by decide +kernel
theorem dX8_joinMeasures_4 : decode cX8_joinMeasures 4 = .ok (.invokevirtual 216, 3) := by decide +kernel
theorem dX8_joinMeasures_7 : decode cX8_joinMeasures 7 = .ok (.aload_n 0, 1) := by decide +kernel
theorem dX8_joinMeasures_8 : decode cX8_joinMeasures 8 = .ok (.getfield 22, 3) := by decide +kernel
theorem dX8_joinMeasures_11 : decode cX8_joinMeasures 11 = .ok (.aload_n 0, 1) := by decide +kernel
theorem dX8_joinMeasures_12 : decode cX8_joinMeasures 12 = .ok (.getfield 10, 3) := by decide +kernel
theorem dX8_joinMeasures_15 : decode cX8_joinMeasures 15 = .ok (.invokevirtual 219, 3) := by decide +kernel
theorem dX8_joinMeasures_18 : decode cX8_joinMeasures 18 = .ok (.aload_n 0, 1) := by decide +kernel
theorem dX8_joinMeasures_19 : decode cX8_joinMeasures 19 = .ok (.getfield 22, 3) := by decide +kernel
theorem dX8_joinMeasures_22 : decode cX8_joinMeasures 22 = .ok (.aload_n 0, 1) := by decide +kernel
theorem dX8_joinMeasures_23 : decode cX8_joinMeasures 23 = .ok (.getfield 16, 3) := by decide +kernel
theorem dX8_joinMeasures_26 : decode cX8_joinMeasures 26 = .ok (.invokevirtual 219, 3) := by decide +kernel
theorem dX8_joinMeasures_29 : decode cX8_joinMeasures 29 = .ok (.aload_n 0, 1) := by decide +kernel
theorem dX8_joinMeasures_30 : decode cX8_joinMeasures 30 = .ok (.getfield 10, 3) := by decide +kernel
theorem dX8_joinMeasures_33 : decode cX8_joinMeasures 33 = .ok (.iconst 0, 1) := by decide +kernel
theorem dX8_joinMeasures_34 : decode cX8_joinMeasures 34 = .ok (.putfield 223, 3) := by decide +kernel
theorem dX8_joinMeasures_37 : decode cX8_joinMeasures 37 = .ok (.aload_n 0, 1) := by decide +kernel
theorem dX8_joinMeasures_38 : decode cX8_joinMeasures 38 = .ok (.getfield 16, 3) := by decide +kernel
theorem dX8_joinMeasures_41 : decode cX8_joinMeasures 41 = .ok (.iconst 0, 1) := by decide +kernel
theorem dX8_joinMeasures_42 : decode cX8_joinMeasures 42 = .ok (.putfield 223, 3) := by decide +kernel
theorem dX8_joinMeasures_45 : decode cX8_joinMeasures 45 = .ok (.aload_n 0, 1) := by decide +kernel
theorem dX8_joinMeasures_46 : decode cX8_joinMeasures 46 = .ok (.aload_n 0, 1) := by decide +kernel
theorem dX8_joinMeasures_47 : decode cX8_joinMeasures 47 = .ok (.getfield 22, 3) := by decide +kernel
theorem dX8_joinMeasures_50 : decode cX8_joinMeasures 50 = .ok (.getfield 226, 3) := by decide +kernel
theorem dX8_joinMeasures_53 : decode cX8_joinMeasures 53 = .ok (.ifCond .eq 12, 3) := by decide +kernel
theorem dX8_joinMeasures_56 : decode cX8_joinMeasures 56 = .ok (.aload_n 0, 1) := by decide +kernel
theorem dX8_joinMeasures_57 : decode cX8_joinMeasures 57 = .ok (.getfield 230, 3) := by decide +kernel
theorem dX8_joinMeasures_60 : decode cX8_joinMeasures 60 = .ok (.iconst 1, 1) := by decide +kernel
theorem dX8_joinMeasures_61 : decode cX8_joinMeasures 61 = .ok (.iadd, 1) := by decide +kernel
theorem dX8_joinMeasures_62 : decode cX8_joinMeasures 62 = .ok (.goto 4, 3) := by decide +kernel
theorem dX8_joinMeasures_65 : decode cX8_joinMeasures 65 = .ok (.iconst 0, 1) := by decide +kernel
theorem dX8_joinMeasures_66 : decode cX8_joinMeasures 66 = .ok (.putfield 230, 3) := by decide +kernel
theorem dX8_joinMeasures_69 : decode cX8_joinMeasures 69 = .ok (.return_, 1) := by decide +kernel
set_option maxRecDepth 20000 in
theorem ggX8_dueStage_X0_steers : GoodIn wsX8_dueStage wsX0_steers := goodIn_r _ [11, 12, 13, 14, 15, 33, 34, 35] (by decide +kernel) (by decide +kernel)
set_option maxRecDepth 20000 in
theorem gX8_dueStage_X0_steers : GoodIn wsX8_dueStage (wsV RX8 175 RX0 yX0_steers wsX0_steers) := goodIn_app (goodIn_of _ (by decide +kernel)) ggX8_dueStage_X0_steers
theorem dX8_dueStage_0 : decode cX8_dueStage 0 = .ok (.aload_n 0, 1) := by decide +kernel
theorem dX8_dueStage_1 : decode cX8_dueStage 1 = .ok (.getfield 63, 3) := by decide +kernel
theorem dX8_dueStage_4 : decode cX8_dueStage 4 = .ok (.dconst 0, 1) := by decide +kernel
theorem dX8_dueStage_5 : decode cX8_dueStage 5 = .ok (.dcmp .g, 1) := by decide +kernel
theorem dX8_dueStage_6 : decode cX8_dueStage 6 = .ok (.ifCond .lt 16, 3) := by decide +kernel
theorem dX8_dueStage_9 : decode cX8_dueStage 9 = .ok (.aload_n 0, 1) := by decide +kernel
theorem dX8_dueStage_10 : decode cX8_dueStage 10 = .ok (.getfield 36, 3) := by decide +kernel
theorem dX8_dueStage_13 : decode cX8_dueStage 13 = .ok (.ldc2_w 233, 3) := by decide +kernel
theorem dX8_dueStage_16 : decode cX8_dueStage 16 = .ok (.invokevirtual 175, 3) := by decide +kernel
theorem dX8_dueStage_19 : decode cX8_dueStage 19 = .ok (.ifCond .eq 5, 3) := by decide +kernel
theorem dX8_dueStage_22 : decode cX8_dueStage 22 = .ok (.iconst 0, 1) := by decide +kernel
theorem dX8_dueStage_23 : decode cX8_dueStage 23 = .ok (.ireturn, 1) := by decide +kernel
theorem dX8_dueStage_24 : decode cX8_dueStage 24 = .ok (.aload_n 0, 1) := by decide +kernel
theorem dX8_dueStage_25 : decode cX8_dueStage 25 = .ok (.getfield 63, 3) := by decide +kernel
theorem dX8_dueStage_28 : decode cX8_dueStage 28 = .ok (.ldc2_w 235, 3) := by decide +kernel
theorem dX8_dueStage_31 : decode cX8_dueStage 31 = .ok (.dcmp .g, 1) := by decide +kernel
theorem dX8_dueStage_32 : decode cX8_dueStage 32 = .ok (.ifCond .ge 5, 3) := by decide +kernel
theorem dX8_dueStage_35 : decode cX8_dueStage 35 = .ok (.iconst 3, 1) := by decide +kernel
theorem dX8_dueStage_36 : decode cX8_dueStage 36 = .ok (.ireturn, 1) := by decide +kernel
theorem dX8_dueStage_37 : decode cX8_dueStage 37 = .ok (.aload_n 0, 1) := by decide +kernel
theorem dX8_dueStage_38 : decode cX8_dueStage 38 = .ok (.getfield 63, 3) := by decide +kernel
theorem dX8_dueStage_41 : decode cX8_dueStage 41 = .ok (.ldc2_w 237, 3) := by decide +kernel
theorem dX8_dueStage_44 : decode cX8_dueStage 44 = .ok (.dcmp .g, 1) := by decide +kernel
theorem dX8_dueStage_45 : decode cX8_dueStage 45 = .ok (.ifCond .ge 5, 3) := by decide +kernel
theorem dX8_dueStage_48 : decode cX8_dueStage 48 = .ok (.iconst 2, 1) := by decide +kernel
theorem dX8_dueStage_49 : decode cX8_dueStage 49 = .ok (.ireturn, 1) := by decide +kernel
theorem dX8_dueStage_50 : decode cX8_dueStage 50 = .ok (.aload_n 0, 1) := by decide +kernel
theorem dX8_dueStage_51 : decode cX8_dueStage 51 = .ok (.getfield 63, 3) := by decide +kernel
theorem dX8_dueStage_54 : decode cX8_dueStage 54 = .ok (.ldc2_w 239, 3) := by decide +kernel
theorem dX8_dueStage_57 : decode cX8_dueStage 57 = .ok (.dcmp .g, 1) := by decide +kernel
theorem dX8_dueStage_58 : decode cX8_dueStage 58 = .ok (.ifCond .ge 7, 3) := by decide +kernel
theorem dX8_dueStage_61 : decode cX8_dueStage 61 = .ok (.iconst 1, 1) := by decide +kernel
theorem dX8_dueStage_62 : decode cX8_dueStage 62 = .ok (.goto 4, 3) := by decide +kernel
theorem dX8_dueStage_65 : decode cX8_dueStage 65 = .ok (.iconst 0, 1) := by decide +kernel
theorem dX8_dueStage_66 : decode cX8_dueStage 66 = .ok (.ireturn, 1) := by decide +kernel
set_option maxRecDepth 20000 in
theorem ggX8_chosenMode_X1_off : GoodIn wsX8_chosenMode wsX1_off := goodIn_r _ [15, 16, 17, 35, 36, 37, 38, 39] (by decide +kernel) (by decide +kernel)
set_option maxRecDepth 20000 in
theorem gX8_chosenMode_X1_off : GoodIn wsX8_chosenMode (wsV RX8 244 RX1 yX1_off wsX1_off) := goodIn_app (goodIn_of _ (by decide +kernel)) ggX8_chosenMode_X1_off
theorem dX8_chosenMode_0 : decode cX8_chosenMode 0 = .ok (.aload_n 0, 1) := by decide +kernel
theorem dX8_chosenMode_1 : decode cX8_chosenMode 1 = .ok (.getfield 230, 3) := by decide +kernel
theorem dX8_chosenMode_4 : decode cX8_chosenMode 4 = .ok (.iconst 3, 1) := by decide +kernel
theorem dX8_chosenMode_5 : decode cX8_chosenMode 5 = .ok (.if_icmp .lt 6, 3) := by decide +kernel
theorem dX8_chosenMode_8 : decode cX8_chosenMode 8 = .ok (.bipush 6, 2) := by decide +kernel
theorem dX8_chosenMode_10 : decode cX8_chosenMode 10 = .ok (.ireturn, 1) := by decide +kernel
theorem dX8_chosenMode_11 : decode cX8_chosenMode 11 = .ok (.aload_n 0, 1) := by decide +kernel
theorem dX8_chosenMode_12 : decode cX8_chosenMode 12 = .ok (.getfield 50, 3) := by decide +kernel
theorem dX8_chosenMode_15 : decode cX8_chosenMode 15 = .ok (.getfield 241, 3) := by decide +kernel
theorem dX8_chosenMode_18 : decode cX8_chosenMode 18 = .ok (.ifCond .eq 5, 3) := by decide +kernel
theorem dX8_chosenMode_21 : decode cX8_chosenMode 21 = .ok (.iconst 5, 1) := by decide +kernel
theorem dX8_chosenMode_22 : decode cX8_chosenMode 22 = .ok (.ireturn, 1) := by decide +kernel
theorem dX8_chosenMode_23 : decode cX8_chosenMode 23 = .ok (.aload_n 0, 1) := by decide +kernel
theorem dX8_chosenMode_24 : decode cX8_chosenMode 24 = .ok (.getfield 50, 3) := by decide +kernel
theorem dX8_chosenMode_27 : decode cX8_chosenMode 27 = .ok (.aload_n 0, 1) := by decide +kernel
theorem dX8_chosenMode_28 : decode cX8_chosenMode 28 = .ok (.getfield 109, 3) := by decide +kernel
theorem dX8_chosenMode_31 : decode cX8_chosenMode 31 = .ok (.invokevirtual 244, 3) := by decide +kernel
theorem dX8_chosenMode_34 : decode cX8_chosenMode 34 = .ok (.ldc2_w 247, 3) := by decide +kernel
theorem dX8_chosenMode_37 : decode cX8_chosenMode 37 = .ok (.dcmp .l, 1) := by decide +kernel
theorem dX8_chosenMode_38 : decode cX8_chosenMode 38 = .ok (.ifCond .ge 13, 3) := by decide +kernel
theorem dX8_chosenMode_41 : decode cX8_chosenMode 41 = .ok (.aload_n 0, 1) := by decide +kernel
theorem dX8_chosenMode_42 : decode cX8_chosenMode 42 = .ok (.getfield 50, 3) := by decide +kernel
theorem dX8_chosenMode_45 : decode cX8_chosenMode 45 = .ok (.getfield 249, 3) := by decide +kernel
theorem dX8_chosenMode_48 : decode cX8_chosenMode 48 = .ok (.ifCond .eq 5, 3) := by decide +kernel
theorem dX8_chosenMode_51 : decode cX8_chosenMode 51 = .ok (.iconst 4, 1) := by decide +kernel
theorem dX8_chosenMode_52 : decode cX8_chosenMode 52 = .ok (.ireturn, 1) := by decide +kernel
theorem dX8_chosenMode_53 : decode cX8_chosenMode 53 = .ok (.aload_n 0, 1) := by decide +kernel
theorem dX8_chosenMode_54 : decode cX8_chosenMode 54 = .ok (.getfield 141, 3) := by decide +kernel
theorem dX8_chosenMode_57 : decode cX8_chosenMode 57 = .ok (.iconst 2, 1) := by decide +kernel
theorem dX8_chosenMode_58 : decode cX8_chosenMode 58 = .ok (.if_icmp .lt 5, 3) := by decide +kernel
theorem dX8_chosenMode_61 : decode cX8_chosenMode 61 = .ok (.iconst 3, 1) := by decide +kernel
theorem dX8_chosenMode_62 : decode cX8_chosenMode 62 = .ok (.ireturn, 1) := by decide +kernel
theorem dX8_chosenMode_63 : decode cX8_chosenMode 63 = .ok (.aload_n 0, 1) := by decide +kernel
theorem dX8_chosenMode_64 : decode cX8_chosenMode 64 = .ok (.getfield 36, 3) := by decide +kernel
theorem dX8_chosenMode_67 : decode cX8_chosenMode 67 = .ok (.getfield 252, 3) := by decide +kernel
theorem dX8_chosenMode_70 : decode cX8_chosenMode 70 = .ok (.dconst 0, 1) := by decide +kernel
theorem dX8_chosenMode_71 : decode cX8_chosenMode 71 = .ok (.dcmp .l, 1) := by decide +kernel
theorem dX8_chosenMode_72 : decode cX8_chosenMode 72 = .ok (.ifCond .gt 15, 3) := by decide +kernel
theorem dX8_chosenMode_75 : decode cX8_chosenMode 75 = .ok (.aload_n 0, 1) := by decide +kernel
theorem dX8_chosenMode_76 : decode cX8_chosenMode 76 = .ok (.getfield 36, 3) := by decide +kernel
theorem dX8_chosenMode_79 : decode cX8_chosenMode 79 = .ok (.getfield 255, 3) := by decide +kernel
theorem dX8_chosenMode_82 : decode cX8_chosenMode 82 = .ok (.dconst 0, 1) := by decide +kernel
theorem dX8_chosenMode_83 : decode cX8_chosenMode 83 = .ok (.dcmp .l, 1) := by decide +kernel
theorem dX8_chosenMode_84 : decode cX8_chosenMode 84 = .ok (.ifCond .le 5, 3) := by decide +kernel
theorem dX8_chosenMode_87 : decode cX8_chosenMode 87 = .ok (.iconst 2, 1) := by decide +kernel
theorem dX8_chosenMode_88 : decode cX8_chosenMode 88 = .ok (.ireturn, 1) := by decide +kernel
theorem dX8_chosenMode_89 : decode cX8_chosenMode 89 = .ok (.iload_n 1, 1) := by decide +kernel
theorem dX8_chosenMode_90 : decode cX8_chosenMode 90 = .ok (.ifCond .eq 7, 3) := by decide +kernel
theorem dX8_chosenMode_93 : decode cX8_chosenMode 93 = .ok (.iconst 1, 1) := by decide +kernel
theorem dX8_chosenMode_94 : decode cX8_chosenMode 94 = .ok (.goto 4, 3) := by decide +kernel
theorem dX8_chosenMode_97 : decode cX8_chosenMode 97 = .ok (.iconst 0, 1) := by decide +kernel
theorem dX8_chosenMode_98 : decode cX8_chosenMode 98 = .ok (.ireturn, 1) := by decide +kernel
set_option maxRecDepth 20000 in
theorem ggX8_keptPull_X7_isThere : GoodIn wsX8_keptPull wsX7_isThere := goodIn_r _ [19, 20, 52, 53, 54, 55, 56, 57, 58, 59, 60, 61] (by decide +kernel) (by decide +kernel)
set_option maxRecDepth 20000 in
theorem gX8_keptPull_X7_isThere : GoodIn wsX8_keptPull (wsV RX8 129 RX7 yX7_isThere wsX7_isThere) := goodIn_app (goodIn_of _ (by decide +kernel)) ggX8_keptPull_X7_isThere
set_option maxRecDepth 20000 in
theorem ggX8_keptPull_X8_lesser : GoodIn wsX8_keptPull wsX8_lesser := goodIn_r _ [24] (by decide +kernel) (by decide +kernel)
set_option maxRecDepth 20000 in
theorem gX8_keptPull_X8_lesser : GoodIn wsX8_keptPull (va_wsS RX8 272 yX8_lesser wsX8_lesser) := goodIn_app (goodIn_of _ (by decide +kernel)) ggX8_keptPull_X8_lesser
set_option maxRecDepth 20000 in
theorem ggX8_keptPull_X8_between : GoodIn wsX8_keptPull wsX8_between := goodIn_r _ [27, 21, 22, 23, 24, 28, 29, 30] (by decide +kernel) (by decide +kernel)
set_option maxRecDepth 20000 in
theorem gX8_keptPull_X8_between : GoodIn wsX8_keptPull (va_wsS RX8 279 yX8_between wsX8_between) := goodIn_app (goodIn_of _ (by decide +kernel)) ggX8_keptPull_X8_between
theorem dX8_keptPull_0 : decode cX8_keptPull 0 = .ok (.aload_n 0, 1) := by decide +kernel
theorem dX8_keptPull_1 : decode cX8_keptPull 1 = .ok (.getfield 43, 3) := by decide +kernel
theorem dX8_keptPull_4 : decode cX8_keptPull 4 = .ok (.getfield 258, 3) := by decide +kernel
theorem dX8_keptPull_7 : decode cX8_keptPull 7 = .ok (.aload_n 0, 1) := by decide +kernel
theorem dX8_keptPull_8 : decode cX8_keptPull 8 = .ok (.getfield 116, 3) := by decide +kernel
theorem dX8_keptPull_11 : decode cX8_keptPull 11 = .ok (.dsub, 1) := by decide +kernel
theorem dX8_keptPull_12 : decode cX8_keptPull 12 = .ok (.ldc2_w 259, 3) := by decide +kernel
theorem dX8_keptPull_15 : decode cX8_keptPull 15 = .ok (.dmul, 1) := by decide +kernel
theorem dX8_keptPull_16 : decode cX8_keptPull 16 = .ok (.dstore_n 2, 1) := by decide +kernel
theorem dX8_keptPull_17 : decode cX8_keptPull 17 = .ok (.aload_n 0, 1) := by decide +kernel
theorem dX8_keptPull_18 : decode cX8_keptPull 18 = .ok (.getfield 22, 3) := by decide +kernel
theorem dX8_keptPull_21 : decode cX8_keptPull 21 = .ok (.iload_n 1, 1) := by decide +kernel
theorem dX8_keptPull_22 : decode cX8_keptPull 22 = .ok (.invokevirtual 129, 3) := by decide +kernel
theorem dX8_keptPull_25 : decode cX8_keptPull 25 = .ok (.ifCond .eq 61, 3) := by decide +kernel
theorem dX8_keptPull_28 : decode cX8_keptPull 28 = .ok (.aload_n 0, 1) := by decide +kernel
theorem dX8_keptPull_29 : decode cX8_keptPull 29 = .ok (.getfield 22, 3) := by decide +kernel
theorem dX8_keptPull_32 : decode cX8_keptPull 32 = .ok (.getfield 137, 3) := by decide +kernel
theorem dX8_keptPull_35 : decode cX8_keptPull 35 = .ok (.iload_n 1, 1) := by decide +kernel
theorem dX8_keptPull_36 : decode cX8_keptPull 36 = .ok (.daload, 1) := by decide +kernel
theorem dX8_keptPull_37 : decode cX8_keptPull 37 = .ok (.ldc2_w 261, 3) := by decide +kernel
theorem dX8_keptPull_40 : decode cX8_keptPull 40 = .ok (.aload_n 0, 1) := by decide +kernel
theorem dX8_keptPull_41 : decode cX8_keptPull 41 = .ok (.getfield 43, 3) := by decide +kernel
theorem dX8_keptPull_44 : decode cX8_keptPull 44 = .ok (.getfield 263, 3) := by decide +kernel
theorem dX8_keptPull_47 : decode cX8_keptPull 47 = .ok (.aload_n 0, 1) := by decide +kernel
theorem dX8_keptPull_48 : decode cX8_keptPull 48 = .ok (.getfield 116, 3) := by decide +kernel
theorem dX8_keptPull_51 : decode cX8_keptPull 51 = .ok (.dmul, 1) := by decide +kernel
theorem dX8_keptPull_52 : decode cX8_keptPull 52 = .ok (.dadd, 1) := by decide +kernel
theorem dX8_keptPull_53 : decode cX8_keptPull 53 = .ok (.dsub, 1) := by decide +kernel
theorem dX8_keptPull_54 : decode cX8_keptPull 54 = .ok (.dstore 4, 2) := by decide +kernel
theorem dX8_keptPull_56 : decode cX8_keptPull 56 = .ok (.dload_n 2, 1) := by decide +kernel
theorem dX8_keptPull_57 : decode cX8_keptPull 57 = .ok (.dload 4, 2) := by decide +kernel
theorem dX8_keptPull_59 : decode cX8_keptPull 59 = .ok (.ldc2_w 266, 3) := by decide +kernel
theorem dX8_keptPull_62 : decode cX8_keptPull 62 = .ok (.dmul, 1) := by decide +kernel
theorem dX8_keptPull_63 : decode cX8_keptPull 63 = .ok (.aload_n 0, 1) := by decide +kernel
theorem dX8_keptPull_64 : decode cX8_keptPull 64 = .ok (.getfield 22, 3) := by decide +kernel
theorem dX8_keptPull_67 : decode cX8_keptPull 67 = .ok (.getfield 268, 3) := by decide +kernel
theorem dX8_keptPull_70 : decode cX8_keptPull 70 = .ok (.iload_n 1, 1) := by decide +kernel
theorem dX8_keptPull_71 : decode cX8_keptPull 71 = .ok (.daload, 1) := by decide +kernel
theorem dX8_keptPull_72 : decode cX8_keptPull 72 = .ok (.aload_n 0, 1) := by decide +kernel
theorem dX8_keptPull_73 : decode cX8_keptPull 73 = .ok (.getfield 116, 3) := by decide +kernel
theorem dX8_keptPull_76 : decode cX8_keptPull 76 = .ok (.dsub, 1) := by decide +kernel
theorem dX8_keptPull_77 : decode cX8_keptPull 77 = .ok (.ldc2_w 270, 3) := by decide +kernel
theorem dX8_keptPull_80 : decode cX8_keptPull 80 = .ok (.dmul, 1) := by decide +kernel
theorem dX8_keptPull_81 : decode cX8_keptPull 81 = .ok (.dadd, 1) := by decide +kernel
theorem dX8_keptPull_82 : decode cX8_keptPull 82 = .ok (.invokestatic 272, 3) := by decide +kernel
theorem dX8_keptPull_85 : decode cX8_keptPull 85 = .ok (.dstore_n 2, 1) := by decide +kernel
theorem dX8_keptPull_86 : decode cX8_keptPull 86 = .ok (.aload_n 0, 1) := by decide +kernel
theorem dX8_keptPull_87 : decode cX8_keptPull 87 = .ok (.getfield 160, 3) := by decide +kernel
theorem dX8_keptPull_90 : decode cX8_keptPull 90 = .ok (.bipush 6, 2) := by decide +kernel
theorem dX8_keptPull_92 : decode cX8_keptPull 92 = .ok (.if_icmp .ne 9, 3) := by decide +kernel
theorem dX8_keptPull_95 : decode cX8_keptPull 95 = .ok (.dload_n 2, 1) := by decide +kernel
theorem dX8_keptPull_96 : decode cX8_keptPull 96 = .ok (.dconst 0, 1) := by decide +kernel
theorem dX8_keptPull_97 : decode cX8_keptPull 97 = .ok (.invokestatic 272, 3) := by decide +kernel
theorem dX8_keptPull_100 : decode cX8_keptPull 100 = .ok (.dstore_n 2, 1) := by decide +kernel
theorem dX8_keptPull_101 : decode cX8_keptPull 101 = .ok (.dload_n 2, 1) := by decide +kernel
theorem dX8_keptPull_102 : decode cX8_keptPull 102 = .ok (.ldc2_w 275, 3) := by decide +kernel
theorem dX8_keptPull_105 : decode cX8_keptPull 105 = .ok (.ldc2_w 277, 3) := by decide +kernel
theorem dX8_keptPull_108 : decode cX8_keptPull 108 = .ok (.invokestatic 279, 3) := by decide +kernel
theorem dX8_keptPull_111 : decode cX8_keptPull 111 = .ok (.dreturn, 1) := by decide +kernel
set_option maxRecDepth 20000 in
theorem ggX8_limitedPull_X8_keptPull : GoodIn wsX8_limitedPull wsX8_keptPull := goodIn_r _ [19, 12, 20, 6, 21, 22, 23, 3, 24, 25, 26, 27, 28, 29, 30, 31, 32, 33, 34, 35, 36, 37, 38, 18, 39, 40, 41, 42, 43, 44, 45, 46, 47, 48, 49, 50, 51, 52, 53, 54, 55, 56, 57, 58, 59, 60, 61, 62, 71, 72, 73, 74, 75, 76, 77, 78, 79, 80, 81, 82, 83, 84] (by decide +kernel) (by decide +kernel)
set_option maxRecDepth 20000 in
theorem gX8_limitedPull_X8_keptPull : GoodIn wsX8_limitedPull (wsV RX8 283 RX8 yX8_keptPull wsX8_keptPull) := goodIn_app (goodIn_of _ (by decide +kernel)) ggX8_limitedPull_X8_keptPull
set_option maxRecDepth 20000 in
theorem ggX8_limitedPull_X8_greater : GoodIn wsX8_limitedPull wsX8_greater := goodIn_r _ [45] (by decide +kernel) (by decide +kernel)
set_option maxRecDepth 20000 in
theorem gX8_limitedPull_X8_greater : GoodIn wsX8_limitedPull (va_wsS RX8 286 yX8_greater wsX8_greater) := goodIn_app (goodIn_of _ (by decide +kernel)) ggX8_limitedPull_X8_greater
set_option maxRecDepth 20000 in
theorem ggX8_limitedPull_X8_lesser : GoodIn wsX8_limitedPull wsX8_lesser := goodIn_r _ [39] (by decide +kernel) (by decide +kernel)
set_option maxRecDepth 20000 in
theorem gX8_limitedPull_X8_lesser : GoodIn wsX8_limitedPull (va_wsS RX8 272 yX8_lesser wsX8_lesser) := goodIn_app (goodIn_of _ (by decide +kernel)) ggX8_limitedPull_X8_lesser
set_option maxRecDepth 20000 in
theorem ggX8_limitedPull_X8_between : GoodIn wsX8_limitedPull wsX8_between := goodIn_r _ [42, 37, 38, 18, 39, 43, 44, 45] (by decide +kernel) (by decide +kernel)
set_option maxRecDepth 20000 in
theorem gX8_limitedPull_X8_between : GoodIn wsX8_limitedPull (va_wsS RX8 279 yX8_between wsX8_between) := goodIn_app (goodIn_of _ (by decide +kernel)) ggX8_limitedPull_X8_between
theorem dX8_limitedPull_0 : decode cX8_limitedPull 0 = .ok (.aload_n 0, 1) := by decide +kernel
theorem dX8_limitedPull_1 : decode cX8_limitedPull 1 = .ok (.iload_n 1, 1) := by decide +kernel
theorem dX8_limitedPull_2 : decode cX8_limitedPull 2 = .ok (.invokevirtual 283, 3) := by decide +kernel
theorem dX8_limitedPull_5 : decode cX8_limitedPull 5 = .ok (.dstore_n 2, 1) := by decide +kernel
theorem dX8_limitedPull_6 : decode cX8_limitedPull 6 = .ok (.aload_n 0, 1) := by decide +kernel
theorem dX8_limitedPull_7 : decode cX8_limitedPull 7 = .ok (.getfield 36, 3) := by decide +kernel
theorem dX8_limitedPull_10 : decode cX8_limitedPull 10 = .ok (.getfield 252, 3) := by decide +kernel
theorem dX8_limitedPull_13 : decode cX8_limitedPull 13 = .ok (.dconst 0, 1) := by decide +kernel
theorem dX8_limitedPull_14 : decode cX8_limitedPull 14 = .ok (.dcmp .l, 1) := by decide +kernel
theorem dX8_limitedPull_15 : decode cX8_limitedPull 15 = .ok (.ifCond .le 19, 3) := by decide +kernel
theorem dX8_limitedPull_18 : decode cX8_limitedPull 18 = .ok (.dload_n 2, 1) := by decide +kernel
theorem dX8_limitedPull_19 : decode cX8_limitedPull 19 = .ok (.ldc2_w 261, 3) := by decide +kernel
theorem dX8_limitedPull_22 : decode cX8_limitedPull 22 = .ok (.aload_n 0, 1) := by decide +kernel
theorem dX8_limitedPull_23 : decode cX8_limitedPull 23 = .ok (.getfield 36, 3) := by decide +kernel
theorem dX8_limitedPull_26 : decode cX8_limitedPull 26 = .ok (.getfield 252, 3) := by decide +kernel
theorem dX8_limitedPull_29 : decode cX8_limitedPull 29 = .ok (.dmul, 1) := by decide +kernel
theorem dX8_limitedPull_30 : decode cX8_limitedPull 30 = .ok (.invokestatic 286, 3) := by decide +kernel
theorem dX8_limitedPull_33 : decode cX8_limitedPull 33 = .ok (.dstore_n 2, 1) := by decide +kernel
theorem dX8_limitedPull_34 : decode cX8_limitedPull 34 = .ok (.aload_n 0, 1) := by decide +kernel
theorem dX8_limitedPull_35 : decode cX8_limitedPull 35 = .ok (.getfield 50, 3) := by decide +kernel
theorem dX8_limitedPull_38 : decode cX8_limitedPull 38 = .ok (.getfield 241, 3) := by decide +kernel
theorem dX8_limitedPull_41 : decode cX8_limitedPull 41 = .ok (.ifCond .eq 20, 3) := by decide +kernel
theorem dX8_limitedPull_44 : decode cX8_limitedPull 44 = .ok (.aload_n 0, 1) := by decide +kernel
theorem dX8_limitedPull_45 : decode cX8_limitedPull 45 = .ok (.getfield 116, 3) := by decide +kernel
theorem dX8_limitedPull_48 : decode cX8_limitedPull 48 = .ok (.dconst 0, 1) := by decide +kernel
theorem dX8_limitedPull_49 : decode cX8_limitedPull 49 = .ok (.dcmp .l, 1) := by decide +kernel
theorem dX8_limitedPull_50 : decode cX8_limitedPull 50 = .ok (.ifCond .ne 7, 3) := by decide +kernel
theorem dX8_limitedPull_53 : decode cX8_limitedPull 53 = .ok (.dconst 0, 1) := by decide +kernel
theorem dX8_limitedPull_54 : decode cX8_limitedPull 54 = .ok (.goto 6, 3) := by decide +kernel
theorem dX8_limitedPull_57 : decode cX8_limitedPull 57 = .ok (.ldc2_w 289, 3) := by decide +kernel
theorem dX8_limitedPull_60 : decode cX8_limitedPull 60 = .ok (.dstore_n 2, 1) := by decide +kernel
theorem dX8_limitedPull_61 : decode cX8_limitedPull 61 = .ok (.aload_n 0, 1) := by decide +kernel
theorem dX8_limitedPull_62 : decode cX8_limitedPull 62 = .ok (.getfield 36, 3) := by decide +kernel
theorem dX8_limitedPull_65 : decode cX8_limitedPull 65 = .ok (.getfield 255, 3) := by decide +kernel
theorem dX8_limitedPull_68 : decode cX8_limitedPull 68 = .ok (.dconst 0, 1) := by decide +kernel
theorem dX8_limitedPull_69 : decode cX8_limitedPull 69 = .ok (.dcmp .l, 1) := by decide +kernel
theorem dX8_limitedPull_70 : decode cX8_limitedPull 70 = .ok (.ifCond .le 15, 3) := by decide +kernel
theorem dX8_limitedPull_73 : decode cX8_limitedPull 73 = .ok (.ldc2_w 291, 3) := by decide +kernel
theorem dX8_limitedPull_76 : decode cX8_limitedPull 76 = .ok (.aload_n 0, 1) := by decide +kernel
theorem dX8_limitedPull_77 : decode cX8_limitedPull 77 = .ok (.getfield 36, 3) := by decide +kernel
theorem dX8_limitedPull_80 : decode cX8_limitedPull 80 = .ok (.getfield 255, 3) := by decide +kernel
theorem dX8_limitedPull_83 : decode cX8_limitedPull 83 = .ok (.dmul, 1) := by decide +kernel
theorem dX8_limitedPull_84 : decode cX8_limitedPull 84 = .ok (.dstore_n 2, 1) := by decide +kernel
theorem dX8_limitedPull_85 : decode cX8_limitedPull 85 = .ok (.aload_n 0, 1) := by decide +kernel
theorem dX8_limitedPull_86 : decode cX8_limitedPull 86 = .ok (.getfield 141, 3) := by decide +kernel
theorem dX8_limitedPull_89 : decode cX8_limitedPull 89 = .ok (.iconst 2, 1) := by decide +kernel
theorem dX8_limitedPull_90 : decode cX8_limitedPull 90 = .ok (.if_icmp .ne 11, 3) := by decide +kernel
theorem dX8_limitedPull_93 : decode cX8_limitedPull 93 = .ok (.dload_n 2, 1) := by decide +kernel
theorem dX8_limitedPull_94 : decode cX8_limitedPull 94 = .ok (.ldc2_w 293, 3) := by decide +kernel
theorem dX8_limitedPull_97 : decode cX8_limitedPull 97 = .ok (.invokestatic 272, 3) := by decide +kernel
theorem dX8_limitedPull_100 : decode cX8_limitedPull 100 = .ok (.dstore_n 2, 1) := by decide +kernel
theorem dX8_limitedPull_101 : decode cX8_limitedPull 101 = .ok (.aload_n 0, 1) := by decide +kernel
theorem dX8_limitedPull_102 : decode cX8_limitedPull 102 = .ok (.getfield 141, 3) := by decide +kernel
theorem dX8_limitedPull_105 : decode cX8_limitedPull 105 = .ok (.iconst 3, 1) := by decide +kernel
theorem dX8_limitedPull_106 : decode cX8_limitedPull 106 = .ok (.if_icmp .ne 11, 3) := by decide +kernel
theorem dX8_limitedPull_109 : decode cX8_limitedPull 109 = .ok (.dload_n 2, 1) := by decide +kernel
theorem dX8_limitedPull_110 : decode cX8_limitedPull 110 = .ok (.ldc2_w 291, 3) := by decide +kernel
theorem dX8_limitedPull_113 : decode cX8_limitedPull 113 = .ok (.invokestatic 272, 3) := by decide +kernel
theorem dX8_limitedPull_116 : decode cX8_limitedPull 116 = .ok (.dstore_n 2, 1) := by decide +kernel
theorem dX8_limitedPull_117 : decode cX8_limitedPull 117 = .ok (.dload_n 2, 1) := by decide +kernel
theorem dX8_limitedPull_118 : decode cX8_limitedPull 118 = .ok (.aload_n 0, 1) := by decide +kernel
theorem dX8_limitedPull_119 : decode cX8_limitedPull 119 = .ok (.getfield 43, 3) := by decide +kernel
theorem dX8_limitedPull_122 : decode cX8_limitedPull 122 = .ok (.getfield 295, 3) := by decide +kernel
theorem dX8_limitedPull_125 : decode cX8_limitedPull 125 = .ok (.dneg, 1) := by decide +kernel
theorem dX8_limitedPull_126 : decode cX8_limitedPull 126 = .ok (.aload_n 0, 1) := by decide +kernel
theorem dX8_limitedPull_127 : decode cX8_limitedPull 127 = .ok (.getfield 43, 3) := by decide +kernel
theorem dX8_limitedPull_130 : decode cX8_limitedPull 130 = .ok (.getfield 298, 3) := by decide +kernel
theorem dX8_limitedPull_133 : decode cX8_limitedPull 133 = .ok (.invokestatic 279, 3) := by decide +kernel
theorem dX8_limitedPull_136 : decode cX8_limitedPull 136 = .ok (.dreturn, 1) := by decide +kernel
theorem dX8_nextStage_0 : decode cX8_nextStage 0 = .ok (.iload_n 1, 1) := by decide +kernel
theorem dX8_nextStage_1 : decode cX8_nextStage 1 = .ok (.iload_n 0, 1) := by decide +kernel
theorem dX8_nextStage_2 : decode cX8_nextStage 2 = .ok (.if_icmp .le 9, 3) := by decide +kernel
theorem dX8_nextStage_5 : decode cX8_nextStage 5 = .ok (.iload_n 0, 1) := by decide +kernel
theorem dX8_nextStage_6 : decode cX8_nextStage 6 = .ok (.iconst 1, 1) := by decide +kernel
theorem dX8_nextStage_7 : decode cX8_nextStage 7 = .ok (.iadd, 1) := by decide +kernel
theorem dX8_nextStage_8 : decode cX8_nextStage 8 = .ok (.goto 4, 3) := by decide +kernel
theorem dX8_nextStage_11 : decode cX8_nextStage 11 = .ok (.iload_n 1, 1) := by decide +kernel
theorem dX8_nextStage_12 : decode cX8_nextStage 12 = .ok (.ireturn, 1) := by decide +kernel
set_option maxRecDepth 20000 in
theorem ggX8_turned_X8_magnitude : GoodIn wsX8_turned wsX8_magnitude := goodIn_r _ [5] (by decide +kernel) (by decide +kernel)
set_option maxRecDepth 20000 in
theorem gX8_turned_X8_magnitude : GoodIn wsX8_turned (va_wsS RX8 299 yX8_magnitude wsX8_magnitude) := goodIn_app (goodIn_of _ (by decide +kernel)) ggX8_turned_X8_magnitude
theorem dX8_turned_0 : decode cX8_turned 0 = .ok (.dload_n 2, 1) := by decide +kernel
theorem dX8_turned_1 : decode cX8_turned 1 = .ok (.dload_n 0, 1) := by decide +kernel
theorem dX8_turned_2 : decode cX8_turned 2 = .ok (.dsub, 1) := by decide +kernel
theorem dX8_turned_3 : decode cX8_turned 3 = .ok (.invokestatic 299, 3) := by decide +kernel
theorem dX8_turned_6 : decode cX8_turned 6 = .ok (.ldc2_w 173, 3) := by decide +kernel
theorem dX8_turned_9 : decode cX8_turned 9 = .ok (.dcmp .g, 1) := by decide +kernel
theorem dX8_turned_10 : decode cX8_turned 10 = .ok (.ifCond .gt 5, 3) := by decide +kernel
theorem dX8_turned_13 : decode cX8_turned 13 = .ok (.dload_n 2, 1) := by decide +kernel
theorem dX8_turned_14 : decode cX8_turned 14 = .ok (.dreturn, 1) := by decide +kernel
theorem dX8_turned_15 : decode cX8_turned 15 = .ok (.dload_n 2, 1) := by decide +kernel
theorem dX8_turned_16 : decode cX8_turned 16 = .ok (.dload_n 0, 1) := by decide +kernel
theorem dX8_turned_17 : decode cX8_turned 17 = .ok (.dcmp .l, 1) := by decide +kernel
theorem dX8_turned_18 : decode cX8_turned 18 = .ok (.ifCond .le 11, 3) := by decide +kernel
theorem dX8_turned_21 : decode cX8_turned 21 = .ok (.dload_n 0, 1) := by decide +kernel
theorem dX8_turned_22 : decode cX8_turned 22 = .ok (.ldc2_w 173, 3) := by decide +kernel
theorem dX8_turned_25 : decode cX8_turned 25 = .ok (.dadd, 1) := by decide +kernel
theorem dX8_turned_26 : decode cX8_turned 26 = .ok (.goto 8, 3) := by decide +kernel
theorem dX8_turned_29 : decode cX8_turned 29 = .ok (.dload_n 0, 1) := by decide +kernel
theorem dX8_turned_30 : decode cX8_turned 30 = .ok (.ldc2_w 173, 3) := by decide +kernel
theorem dX8_turned_33 : decode cX8_turned 33 = .ok (.dsub, 1) := by decide +kernel
theorem dX8_turned_34 : decode cX8_turned 34 = .ok (.dreturn, 1) := by decide +kernel
theorem dX8_within_0 : decode cX8_within 0 = .ok (.dload_n 0, 1) := by decide +kernel
theorem dX8_within_1 : decode cX8_within 1 = .ok (.dload_n 2, 1) := by decide +kernel
theorem dX8_within_2 : decode cX8_within 2 = .ok (.dcmp .l, 1) := by decide +kernel
theorem dX8_within_3 : decode cX8_within 3 = .ok (.ifCond .lt 14, 3) := by decide +kernel
theorem dX8_within_6 : decode cX8_within 6 = .ok (.dload_n 0, 1) := by decide +kernel
theorem dX8_within_7 : decode cX8_within 7 = .ok (.dload 4, 2) := by decide +kernel
theorem dX8_within_9 : decode cX8_within 9 = .ok (.dcmp .g, 1) := by decide +kernel
theorem dX8_within_10 : decode cX8_within 10 = .ok (.ifCond .gt 7, 3) := by decide +kernel
theorem dX8_within_13 : decode cX8_within 13 = .ok (.iconst 1, 1) := by decide +kernel
theorem dX8_within_14 : decode cX8_within 14 = .ok (.goto 4, 3) := by decide +kernel
theorem dX8_within_17 : decode cX8_within 17 = .ok (.iconst 0, 1) := by decide +kernel
theorem dX8_within_18 : decode cX8_within 18 = .ok (.ireturn, 1) := by decide +kernel
set_option maxRecDepth 20000 in
theorem ggX8_between_X8_lesser : GoodIn wsX8_between wsX8_lesser := goodIn_r _ [4] (by decide +kernel) (by decide +kernel)
set_option maxRecDepth 20000 in
theorem gX8_between_X8_lesser : GoodIn wsX8_between (va_wsS RX8 272 yX8_lesser wsX8_lesser) := goodIn_app (goodIn_of _ (by decide +kernel)) ggX8_between_X8_lesser
set_option maxRecDepth 20000 in
theorem ggX8_between_X8_greater : GoodIn wsX8_between wsX8_greater := goodIn_r _ [7] (by decide +kernel) (by decide +kernel)
set_option maxRecDepth 20000 in
theorem gX8_between_X8_greater : GoodIn wsX8_between (va_wsS RX8 286 yX8_greater wsX8_greater) := goodIn_app (goodIn_of _ (by decide +kernel)) ggX8_between_X8_greater
theorem dX8_between_0 : decode cX8_between 0 = .ok (.dload_n 2, 1) := by decide +kernel
theorem dX8_between_1 : decode cX8_between 1 = .ok (.dload_n 0, 1) := by decide +kernel
theorem dX8_between_2 : decode cX8_between 2 = .ok (.dload 4, 2) := by decide +kernel
theorem dX8_between_4 : decode cX8_between 4 = .ok (.invokestatic 272, 3) := by decide +kernel
theorem dX8_between_7 : decode cX8_between 7 = .ok (.invokestatic 286, 3) := by decide +kernel
theorem dX8_between_10 : decode cX8_between 10 = .ok (.dreturn, 1) := by decide +kernel
theorem dX8_lesser_0 : decode cX8_lesser 0 = .ok (.dload_n 0, 1) := by decide +kernel
theorem dX8_lesser_1 : decode cX8_lesser 1 = .ok (.dload_n 2, 1) := by decide +kernel
theorem dX8_lesser_2 : decode cX8_lesser 2 = .ok (.dcmp .g, 1) := by decide +kernel
theorem dX8_lesser_3 : decode cX8_lesser 3 = .ok (.ifCond .gt 7, 3) := by decide +kernel
theorem dX8_lesser_6 : decode cX8_lesser 6 = .ok (.dload_n 0, 1) := by decide +kernel
theorem dX8_lesser_7 : decode cX8_lesser 7 = .ok (.goto 4, 3) := by decide +kernel
theorem dX8_lesser_10 : decode cX8_lesser 10 = .ok (.dload_n 2, 1) := by decide +kernel
theorem dX8_lesser_11 : decode cX8_lesser 11 = .ok (.dreturn, 1) := by decide +kernel
theorem dX8_greater_0 : decode cX8_greater 0 = .ok (.dload_n 0, 1) := by decide +kernel
theorem dX8_greater_1 : decode cX8_greater 1 = .ok (.dload_n 2, 1) := by decide +kernel
theorem dX8_greater_2 : decode cX8_greater 2 = .ok (.dcmp .l, 1) := by decide +kernel
theorem dX8_greater_3 : decode cX8_greater 3 = .ok (.ifCond .lt 7, 3) := by decide +kernel
theorem dX8_greater_6 : decode cX8_greater 6 = .ok (.dload_n 0, 1) := by decide +kernel
theorem dX8_greater_7 : decode cX8_greater 7 = .ok (.goto 4, 3) := by decide +kernel
theorem dX8_greater_10 : decode cX8_greater 10 = .ok (.dload_n 2, 1) := by decide +kernel
theorem dX8_greater_11 : decode cX8_greater 11 = .ok (.dreturn, 1) := by decide +kernel
theorem dX8_magnitude_0 : decode cX8_magnitude 0 = .ok (.dload_n 0, 1) := by decide +kernel
theorem dX8_magnitude_1 : decode cX8_magnitude 1 = .ok (.dconst 0, 1) := by decide +kernel
theorem dX8_magnitude_2 : decode cX8_magnitude 2 = .ok (.dcmp .g, 1) := by decide +kernel
theorem dX8_magnitude_3 : decode cX8_magnitude 3 = .ok (.ifCond .ge 8, 3) := by decide +kernel
theorem dX8_magnitude_6 : decode cX8_magnitude 6 = .ok (.dload_n 0, 1) := by decide +kernel
theorem dX8_magnitude_7 : decode cX8_magnitude 7 = .ok (.dneg, 1) := by decide +kernel
theorem dX8_magnitude_8 : decode cX8_magnitude 8 = .ok (.goto 4, 3) := by decide +kernel
theorem dX8_magnitude_11 : decode cX8_magnitude 11 = .ok (.dload_n 0, 1) := by decide +kernel
theorem dX8_magnitude_12 : decode cX8_magnitude 12 = .ok (.dreturn, 1) := by decide +kernel
theorem dX8_unsignedZero_0 : decode cX8_unsignedZero 0 = .ok (.dload_n 0, 1) := by decide +kernel
theorem dX8_unsignedZero_1 : decode cX8_unsignedZero 1 = .ok (.dconst 0, 1) := by decide +kernel
theorem dX8_unsignedZero_2 : decode cX8_unsignedZero 2 = .ok (.dcmp .l, 1) := by decide +kernel
theorem dX8_unsignedZero_3 : decode cX8_unsignedZero 3 = .ok (.ifCond .ne 7, 3) := by decide +kernel
theorem dX8_unsignedZero_6 : decode cX8_unsignedZero 6 = .ok (.dconst 0, 1) := by decide +kernel
theorem dX8_unsignedZero_7 : decode cX8_unsignedZero 7 = .ok (.goto 4, 3) := by decide +kernel
theorem dX8_unsignedZero_10 : decode cX8_unsignedZero 10 = .ok (.dload_n 0, 1) := by decide +kernel
theorem dX8_unsignedZero_11 : decode cX8_unsignedZero 11 = .ok (.dreturn, 1) := by decide +kernel
