theorem dX0_init_0 : decode cX0_init 0 = .ok (.aload_n 0, 1) := by decide +kernel
theorem dX0_init_1 : decode cX0_init 1 = .ok (.invokespecial 1, 3) := by decide +kernel
theorem dX0_init_4 : decode cX0_init 4 = .ok (.return_, 1) := by decide +kernel
set_option maxRecDepth 20000 in
theorem ggX0_tell_X8_within : GoodIn wsX0_tell wsX8_within := goodIn_r _ [7] (by decide +kernel) (by decide +kernel)
set_option maxRecDepth 20000 in
theorem gX0_tell_X8_within_n9 : GoodIn wsX0_tell (wsX8_within) := ggX0_tell_X8_within
theorem dX0_tell_0 : decode cX0_tell 0 = .ok (.dload_n 2, 1) := by decide +kernel
theorem dX0_tell_1 : decode cX0_tell 1 = .ok (.iload_n 1, 1) := by decide +kernel
theorem dX0_tell_2 : decode cX0_tell 2 = .ok (.iconst 2, 1) := by decide +kernel
theorem dX0_tell_3 : decode cX0_tell 3 = .ok (.if_icmp .ne 9, 3) := by decide +kernel
theorem dX0_tell_6 : decode cX0_tell 6 = .ok (.ldc2_w 7, 3) := by decide +kernel
theorem dX0_tell_9 : decode cX0_tell 9 = .ok (.goto 4, 3) := by decide +kernel
theorem dX0_tell_12 : decode cX0_tell 12 = .ok (.dconst 0, 1) := by decide +kernel
theorem dX0_tell_13 : decode cX0_tell 13 = .ok (.dconst 1, 1) := by decide +kernel
theorem dX0_tell_14 : decode cX0_tell 14 = .ok (.invokestatic 9, 3) := by decide +kernel
theorem dX0_tell_17 : decode cX0_tell 17 = .ok (.ifCond .ne 5, 3) := by decide +kernel
theorem dX0_tell_20 : decode cX0_tell 20 = .ok (.iconst 0, 1) := by decide +kernel
theorem dX0_tell_21 : decode cX0_tell 21 = .ok (.ireturn, 1) := by decide +kernel
theorem dX0_tell_22 : decode cX0_tell 22 = .ok (.iload_n 1, 1) := by decide +kernel
theorem dX0_tell_23 : decode cX0_tell 23 = .ok (.lookupswitch 41 #[(0, 25), (1, 33)], 25) := by decide +kernel
theorem dX0_tell_48 : decode cX0_tell 48 = .ok (.aload_n 0, 1) := by decide +kernel
theorem dX0_tell_49 : decode cX0_tell 49 = .ok (.dload_n 2, 1) := by decide +kernel
theorem dX0_tell_50 : decode cX0_tell 50 = .ok (.putfield 15, 3) := by decide +kernel
theorem dX0_tell_53 : decode cX0_tell 53 = .ok (.goto 16, 3) := by decide +kernel
theorem dX0_tell_56 : decode cX0_tell 56 = .ok (.aload_n 0, 1) := by decide +kernel
theorem dX0_tell_57 : decode cX0_tell 57 = .ok (.dload_n 2, 1) := by decide +kernel
theorem dX0_tell_58 : decode cX0_tell 58 = .ok (.putfield 21, 3) := by decide +kernel
theorem dX0_tell_61 : decode cX0_tell 61 = .ok (.goto 8, 3) := by decide +kernel
theorem dX0_tell_64 : decode cX0_tell 64 = .ok (.aload_n 0, 1) := by decide +kernel
theorem dX0_tell_65 : decode cX0_tell 65 = .ok (.dload_n 2, 1) := by decide +kernel
theorem dX0_tell_66 : decode cX0_tell 66 = .ok (.putfield 24, 3) := by decide +kernel
theorem dX0_tell_69 : decode cX0_tell 69 = .ok (.iconst 1, 1) := by decide +kernel
theorem dX0_tell_70 : decode cX0_tell 70 = .ok (.ireturn, 1) := by decide +kernel
set_option maxRecDepth 20000 in
theorem ggX0_steers_X8_magnitude : GoodIn wsX0_steers wsX8_magnitude := goodIn_r _ [4] (by decide +kernel) (by decide +kernel)
set_option maxRecDepth 20000 in
theorem gX0_steers_X8_magnitude_n27 : GoodIn wsX0_steers (wsX8_magnitude) := ggX0_steers_X8_magnitude
theorem dX0_steers_0 : decode cX0_steers 0 = .ok (.aload_n 0, 1) := by decide +kernel
theorem dX0_steers_1 : decode cX0_steers 1 = .ok (.getfield 24, 3) := by decide +kernel
theorem dX0_steers_4 : decode cX0_steers 4 = .ok (.invokestatic 27, 3) := by decide +kernel
theorem dX0_steers_7 : decode cX0_steers 7 = .ok (.dload_n 1, 1) := by decide +kernel
theorem dX0_steers_8 : decode cX0_steers 8 = .ok (.dcmp .l, 1) := by decide +kernel
theorem dX0_steers_9 : decode cX0_steers 9 = .ok (.ifCond .le 7, 3) := by decide +kernel
theorem dX0_steers_12 : decode cX0_steers 12 = .ok (.iconst 1, 1) := by decide +kernel
theorem dX0_steers_13 : decode cX0_steers 13 = .ok (.goto 4, 3) := by decide +kernel
theorem dX0_steers_16 : decode cX0_steers 16 = .ok (.iconst 0, 1) := by decide +kernel
theorem dX0_steers_17 : decode cX0_steers 17 = .ok (.ireturn, 1) := by decide +kernel
theorem dX1_init_0 : decode cX1_init 0 = .ok (.aload_n 0, 1) := by decide +kernel
theorem dX1_init_1 : decode cX1_init 1 = .ok (.invokespecial 1, 3) := by decide +kernel
theorem dX1_init_4 : decode cX1_init 4 = .ok (.aload_n 0, 1) := by decide +kernel
theorem dX1_init_5 : decode cX1_init 5 = .ok (.iconst 1, 1) := by decide +kernel
theorem dX1_init_6 : decode cX1_init 6 = .ok (.putfield 7, 3) := by decide +kernel
theorem dX1_init_9 : decode cX1_init 9 = .ok (.return_, 1) := by decide +kernel
theorem dX1_tell_0 : decode cX1_tell 0 = .ok (.iload_n 1, 1) := by decide +kernel
theorem dX1_tell_1 : decode cX1_tell 1 = .ok (.aload_n 0, 1) := by decide +kernel
theorem dX1_tell_2 : decode cX1_tell 2 = .ok (.getfield 7, 3) := by decide +kernel
theorem dX1_tell_5 : decode cX1_tell 5 = .ok (.if_icmp .ne 5, 3) := by decide +kernel
theorem dX1_tell_8 : decode cX1_tell 8 = .ok (.iconst 0, 1) := by decide +kernel
theorem dX1_tell_9 : decode cX1_tell 9 = .ok (.ireturn, 1) := by decide +kernel
theorem dX1_tell_10 : decode cX1_tell 10 = .ok (.aload_n 0, 1) := by decide +kernel
theorem dX1_tell_11 : decode cX1_tell 11 = .ok (.iload_n 1, 1) := by decide +kernel
theorem dX1_tell_12 : decode cX1_tell 12 = .ok (.putfield 7, 3) := by decide +kernel
theorem dX1_tell_15 : decode cX1_tell 15 = .ok (.aload_n 0, 1) := by decide +kernel
theorem dX1_tell_16 : decode cX1_tell 16 = .ok (.dload_n 2, 1) := by decide +kernel
theorem dX1_tell_17 : decode cX1_tell 17 = .ok (.putfield 13, 3) := by decide +kernel
theorem dX1_tell_20 : decode cX1_tell 20 = .ok (.iconst 1, 1) := by decide +kernel
theorem dX1_tell_21 : decode cX1_tell 21 = .ok (.ireturn, 1) := by decide +kernel
theorem dX1_ask_0 : decode cX1_ask 0 = .ok (.aload_n 0, 1) := by decide +kernel
theorem dX1_ask_1 : decode cX1_ask 1 = .ok (.getfield 17, 3) := by decide +kernel
theorem dX1_ask_4 : decode cX1_ask 4 = .ok (.ifCond .ne 17, 3) := by decide +kernel
theorem dX1_ask_7 : decode cX1_ask 7 = .ok (.aload_n 0, 1) := by decide +kernel
theorem dX1_ask_8 : decode cX1_ask 8 = .ok (.getfield 7, 3) := by decide +kernel
theorem dX1_ask_11 : decode cX1_ask 11 = .ok (.ifCond .ne 10, 3) := by decide +kernel
theorem dX1_ask_14 : decode cX1_ask 14 = .ok (.aload_n 0, 1) := by decide +kernel
theorem dX1_ask_15 : decode cX1_ask 15 = .ok (.getfield 20, 3) := by decide +kernel
theorem dX1_ask_18 : decode cX1_ask 18 = .ok (.ifCond .eq 5, 3) := by decide +kernel
theorem dX1_ask_21 : decode cX1_ask 21 = .ok (.iconst 0, 1) := by decide +kernel
theorem dX1_ask_22 : decode cX1_ask 22 = .ok (.ireturn, 1) := by decide +kernel
theorem dX1_ask_23 : decode cX1_ask 23 = .ok (.aload_n 0, 1) := by decide +kernel
theorem dX1_ask_24 : decode cX1_ask 24 = .ok (.iconst 1, 1) := by decide +kernel
theorem dX1_ask_25 : decode cX1_ask 25 = .ok (.putfield 17, 3) := by decide +kernel
theorem dX1_ask_28 : decode cX1_ask 28 = .ok (.aload_n 0, 1) := by decide +kernel
theorem dX1_ask_29 : decode cX1_ask 29 = .ok (.dload_n 1, 1) := by decide +kernel
theorem dX1_ask_30 : decode cX1_ask 30 = .ok (.putfield 23, 3) := by decide +kernel
theorem dX1_ask_33 : decode cX1_ask 33 = .ok (.iconst 1, 1) := by decide +kernel
theorem dX1_ask_34 : decode cX1_ask 34 = .ok (.ireturn, 1) := by decide +kernel
theorem dX1_off_0 : decode cX1_off 0 = .ok (.aload_n 0, 1) := by decide +kernel
theorem dX1_off_1 : decode cX1_off 1 = .ok (.getfield 7, 3) := by decide +kernel
theorem dX1_off_4 : decode cX1_off 4 = .ok (.ifCond .eq 7, 3) := by decide +kernel
theorem dX1_off_7 : decode cX1_off 7 = .ok (.dconst 0, 1) := by decide +kernel
theorem dX1_off_8 : decode cX1_off 8 = .ok (.goto 9, 3) := by decide +kernel
theorem dX1_off_11 : decode cX1_off 11 = .ok (.dload_n 1, 1) := by decide +kernel
theorem dX1_off_12 : decode cX1_off 12 = .ok (.aload_n 0, 1) := by decide +kernel
theorem dX1_off_13 : decode cX1_off 13 = .ok (.getfield 13, 3) := by decide +kernel
theorem dX1_off_16 : decode cX1_off 16 = .ok (.dsub, 1) := by decide +kernel
theorem dX1_off_17 : decode cX1_off 17 = .ok (.dreturn, 1) := by decide +kernel
set_option maxRecDepth 20000 in
theorem ggX1_pass_X1_off : GoodIn wsX1_pass wsX1_off := goodIn_r _ [11, 1, 12, 13, 14, 15, 16, 17] (by decide +kernel) (by decide +kernel)
set_option maxRecDepth 20000 in
theorem gX1_pass_X1_off : GoodIn wsX1_pass (wsV RX1 26 RX1 yX1_off wsX1_off) := goodIn_app (goodIn_of _ (by decide +kernel)) ggX1_pass_X1_off
theorem dX1_pass_0 : decode cX1_pass 0 = .ok (.aload_n 0, 1) := by decide +kernel
theorem dX1_pass_1 : decode cX1_pass 1 = .ok (.getfield 7, 3) := by decide +kernel
theorem dX1_pass_4 : decode cX1_pass 4 = .ok (.ifCond .eq 33, 3) := by decide +kernel
theorem dX1_pass_7 : decode cX1_pass 7 = .ok (.aload_n 0, 1) := by decide +kernel
theorem dX1_pass_8 : decode cX1_pass 8 = .ok (.iconst 0, 1) := by decide +kernel
theorem dX1_pass_9 : decode cX1_pass 9 = .ok (.putfield 17, 3) := by decide +kernel
theorem dX1_pass_12 : decode cX1_pass 12 = .ok (.aload_n 0, 1) := by decide +kernel
theorem dX1_pass_13 : decode cX1_pass 13 = .ok (.aload_n 0, 1) := by decide +kernel
theorem dX1_pass_14 : decode cX1_pass 14 = .ok (.getfield 20, 3) := by decide +kernel
theorem dX1_pass_17 : decode cX1_pass 17 = .ok (.ifCond .eq 13, 3) := by decide +kernel
theorem dX1_pass_20 : decode cX1_pass 20 = .ok (.dload_n 3, 1) := by decide +kernel
theorem dX1_pass_21 : decode cX1_pass 21 = .ok (.dconst 0, 1) := by decide +kernel
theorem dX1_pass_22 : decode cX1_pass 22 = .ok (.dcmp .l, 1) := by decide +kernel
theorem dX1_pass_23 : decode cX1_pass 23 = .ok (.ifCond .eq 7, 3) := by decide +kernel
theorem dX1_pass_26 : decode cX1_pass 26 = .ok (.iconst 1, 1) := by decide +kernel
theorem dX1_pass_27 : decode cX1_pass 27 = .ok (.goto 4, 3) := by decide +kernel
theorem dX1_pass_30 : decode cX1_pass 30 = .ok (.iconst 0, 1) := by decide +kernel
theorem dX1_pass_31 : decode cX1_pass 31 = .ok (.putfield 20, 3) := by decide +kernel
theorem dX1_pass_34 : decode cX1_pass 34 = .ok (.goto 45, 3) := by decide +kernel
theorem dX1_pass_37 : decode cX1_pass 37 = .ok (.aload_n 0, 1) := by decide +kernel
theorem dX1_pass_38 : decode cX1_pass 38 = .ok (.dload_n 1, 1) := by decide +kernel
theorem dX1_pass_39 : decode cX1_pass 39 = .ok (.invokevirtual 26, 3) := by decide +kernel
theorem dX1_pass_42 : decode cX1_pass 42 = .ok (.ldc2_w 30, 3) := by decide +kernel
theorem dX1_pass_45 : decode cX1_pass 45 = .ok (.dcmp .l, 1) := by decide +kernel
theorem dX1_pass_46 : decode cX1_pass 46 = .ok (.ifCond .ge 23, 3) := by decide +kernel
theorem dX1_pass_49 : decode cX1_pass 49 = .ok (.aload_n 0, 1) := by decide +kernel
theorem dX1_pass_50 : decode cX1_pass 50 = .ok (.getfield 17, 3) := by decide +kernel
theorem dX1_pass_53 : decode cX1_pass 53 = .ok (.ifCond .eq 26, 3) := by decide +kernel
theorem dX1_pass_56 : decode cX1_pass 56 = .ok (.dload_n 1, 1) := by decide +kernel
theorem dX1_pass_57 : decode cX1_pass 57 = .ok (.aload_n 0, 1) := by decide +kernel
theorem dX1_pass_58 : decode cX1_pass 58 = .ok (.getfield 23, 3) := by decide +kernel
theorem dX1_pass_61 : decode cX1_pass 61 = .ok (.dsub, 1) := by decide +kernel
theorem dX1_pass_62 : decode cX1_pass 62 = .ok (.ldc2_w 32, 3) := by decide +kernel
theorem dX1_pass_65 : decode cX1_pass 65 = .ok (.dcmp .l, 1) := by decide +kernel
theorem dX1_pass_66 : decode cX1_pass 66 = .ok (.ifCond .lt 13, 3) := by decide +kernel
theorem dX1_pass_69 : decode cX1_pass 69 = .ok (.aload_n 0, 1) := by decide +kernel
theorem dX1_pass_70 : decode cX1_pass 70 = .ok (.iconst 0, 1) := by decide +kernel
theorem dX1_pass_71 : decode cX1_pass 71 = .ok (.putfield 17, 3) := by decide +kernel
theorem dX1_pass_74 : decode cX1_pass 74 = .ok (.aload_n 0, 1) := by decide +kernel
theorem dX1_pass_75 : decode cX1_pass 75 = .ok (.iconst 1, 1) := by decide +kernel
theorem dX1_pass_76 : decode cX1_pass 76 = .ok (.putfield 20, 3) := by decide +kernel
theorem dX1_pass_79 : decode cX1_pass 79 = .ok (.return_, 1) := by decide +kernel
theorem dX2_init_0 : decode cX2_init 0 = .ok (.aload_n 0, 1) := by decide +kernel
theorem dX2_init_1 : decode cX2_init 1 = .ok (.invokespecial 1, 3) := by decide +kernel
theorem dX2_init_4 : decode cX2_init 4 = .ok (.return_, 1) := by decide +kernel
theorem dX2_middle_0 : decode cX2_middle 0 = .ok (.aload_n 0, 1) := by decide +kernel
theorem dX2_middle_1 : decode cX2_middle 1 = .ok (.getfield 7, 3) := by decide +kernel
theorem dX2_middle_4 : decode cX2_middle 4 = .ok (.dload_n 1, 1) := by decide +kernel
theorem dX2_middle_5 : decode cX2_middle 5 = .ok (.aload_n 0, 1) := by decide +kernel
theorem dX2_middle_6 : decode cX2_middle 6 = .ok (.getfield 13, 3) := by decide +kernel
theorem dX2_middle_9 : decode cX2_middle 9 = .ok (.dload_n 1, 1) := by decide +kernel
theorem dX2_middle_10 : decode cX2_middle 10 = .ok (.aload_n 0, 1) := by decide +kernel
theorem dX2_middle_11 : decode cX2_middle 11 = .ok (.getfield 16, 3) := by decide +kernel
theorem dX2_middle_14 : decode cX2_middle 14 = .ok (.dmul, 1) := by decide +kernel
theorem dX2_middle_15 : decode cX2_middle 15 = .ok (.dadd, 1) := by decide +kernel
theorem dX2_middle_16 : decode cX2_middle 16 = .ok (.dmul, 1) := by decide +kernel
theorem dX2_middle_17 : decode cX2_middle 17 = .ok (.dadd, 1) := by decide +kernel
theorem dX2_middle_18 : decode cX2_middle 18 = .ok (.dreturn, 1) := by decide +kernel
set_option maxRecDepth 20000 in
theorem ggX2_straightening_X8_between : GoodIn wsX2_straightening wsX8_between := goodIn_r _ [9, 10, 11, 8, 12, 13, 14, 15] (by decide +kernel) (by decide +kernel)
set_option maxRecDepth 20000 in
theorem gX2_straightening_X8_between_n27 : GoodIn wsX2_straightening (wsX8_between) := ggX2_straightening_X8_between
theorem dX2_straightening_0 : decode cX2_straightening 0 = .ok (.dconst 0, 1) := by decide +kernel
theorem dX2_straightening_1 : decode cX2_straightening 1 = .ok (.ldc2_w 19, 3) := by decide +kernel
theorem dX2_straightening_4 : decode cX2_straightening 4 = .ok (.aload_n 0, 1) := by decide +kernel
theorem dX2_straightening_5 : decode cX2_straightening 5 = .ok (.getfield 7, 3) := by decide +kernel
theorem dX2_straightening_8 : decode cX2_straightening 8 = .ok (.dmul, 1) := by decide +kernel
theorem dX2_straightening_9 : decode cX2_straightening 9 = .ok (.ldc2_w 21, 3) := by decide +kernel
theorem dX2_straightening_12 : decode cX2_straightening 12 = .ok (.aload_n 0, 1) := by decide +kernel
theorem dX2_straightening_13 : decode cX2_straightening 13 = .ok (.getfield 13, 3) := by decide +kernel
theorem dX2_straightening_16 : decode cX2_straightening 16 = .ok (.dmul, 1) := by decide +kernel
theorem dX2_straightening_17 : decode cX2_straightening 17 = .ok (.dadd, 1) := by decide +kernel
theorem dX2_straightening_18 : decode cX2_straightening 18 = .ok (.dsub, 1) := by decide +kernel
theorem dX2_straightening_19 : decode cX2_straightening 19 = .ok (.ldc2_w 23, 3) := by decide +kernel
theorem dX2_straightening_22 : decode cX2_straightening 22 = .ok (.ldc2_w 25, 3) := by decide +kernel
theorem dX2_straightening_25 : decode cX2_straightening 25 = .ok (.invokestatic 27, 3) := by decide +kernel
theorem dX2_straightening_28 : decode cX2_straightening 28 = .ok (.dreturn, 1) := by decide +kernel
theorem dX3_init_0 : decode cX3_init 0 = .ok (.aload_n 0, 1) := by decide +kernel
theorem dX3_init_1 : decode cX3_init 1 = .ok (.invokespecial 1, 3) := by decide +kernel
theorem dX3_init_4 : decode cX3_init 4 = .ok (.aload_n 0, 1) := by decide +kernel
theorem dX3_init_5 : decode cX3_init 5 = .ok (.dconst 0, 1) := by decide +kernel
theorem dX3_init_6 : decode cX3_init 6 = .ok (.putfield 7, 3) := by decide +kernel
theorem dX3_init_9 : decode cX3_init 9 = .ok (.aload_n 0, 1) := by decide +kernel
theorem dX3_init_10 : decode cX3_init 10 = .ok (.ldc2_w 13, 3) := by decide +kernel
theorem dX3_init_13 : decode cX3_init 13 = .ok (.putfield 15, 3) := by decide +kernel
theorem dX3_init_16 : decode cX3_init 16 = .ok (.aload_n 0, 1) := by decide +kernel
theorem dX3_init_17 : decode cX3_init 17 = .ok (.ldc2_w 18, 3) := by decide +kernel
theorem dX3_init_20 : decode cX3_init 20 = .ok (.putfield 20, 3) := by decide +kernel
theorem dX3_init_23 : decode cX3_init 23 = .ok (.aload_n 0, 1) := by decide +kernel
theorem dX3_init_24 : decode cX3_init 24 = .ok (.ldc2_w 23, 3) := by decide +kernel
theorem dX3_init_27 : decode cX3_init 27 = .ok (.putfield 25, 3) := by decide +kernel
theorem dX3_init_30 : decode cX3_init 30 = .ok (.return_, 1) := by decide +kernel
set_option maxRecDepth 20000 in
theorem ggX3_tell_X3_fits : GoodIn wsX3_tell wsX3_fits := goodIn_r _ [8, 9, 10, 11, 12, 13, 14, 15] (by decide +kernel) (by decide +kernel)
set_option maxRecDepth 20000 in
theorem gX3_tell_X3_fits : GoodIn wsX3_tell (va_wsS RX3 28 yX3_fits wsX3_fits) := goodIn_app (goodIn_of _ (by decide +kernel)) ggX3_tell_X3_fits
theorem dX3_tell_0 : decode cX3_tell 0 = .ok (.iload_n 1, 1) := by decide +kernel
theorem dX3_tell_1 : decode cX3_tell 1 = .ok (.dload_n 2, 1) := by decide +kernel
theorem dX3_tell_2 : decode cX3_tell 2 = .ok (.invokestatic 28, 3) := by decide +kernel
theorem dX3_tell_5 : decode cX3_tell 5 = .ok (.ifCond .ne 5, 3) := by decide +kernel
theorem dX3_tell_8 : decode cX3_tell 8 = .ok (.iconst 0, 1) := by decide +kernel
theorem dX3_tell_9 : decode cX3_tell 9 = .ok (.ireturn, 1) := by decide +kernel
theorem dX3_tell_10 : decode cX3_tell 10 = .ok (.iload_n 1, 1) := by decide +kernel
theorem dX3_tell_11 : decode cX3_tell 11 = .ok (.tableswitch 49 0 2 #[25, 33, 41], 25) := by decide +kernel
theorem dX3_tell_36 : decode cX3_tell 36 = .ok (.aload_n 0, 1) := by decide +kernel
theorem dX3_tell_37 : decode cX3_tell 37 = .ok (.dload_n 2, 1) := by decide +kernel
theorem dX3_tell_38 : decode cX3_tell 38 = .ok (.putfield 7, 3) := by decide +kernel
theorem dX3_tell_41 : decode cX3_tell 41 = .ok (.goto 24, 3) := by decide +kernel
theorem dX3_tell_44 : decode cX3_tell 44 = .ok (.aload_n 0, 1) := by decide +kernel
theorem dX3_tell_45 : decode cX3_tell 45 = .ok (.dload_n 2, 1) := by decide +kernel
theorem dX3_tell_46 : decode cX3_tell 46 = .ok (.putfield 15, 3) := by decide +kernel
theorem dX3_tell_49 : decode cX3_tell 49 = .ok (.goto 16, 3) := by decide +kernel
theorem dX3_tell_52 : decode cX3_tell 52 = .ok (.aload_n 0, 1) := by decide +kernel
theorem dX3_tell_53 : decode cX3_tell 53 = .ok (.dload_n 2, 1) := by decide +kernel
theorem dX3_tell_54 : decode cX3_tell 54 = .ok (.putfield 20, 3) := by decide +kernel
theorem dX3_tell_57 : decode cX3_tell 57 = .ok (.goto 8, 3) := by decide +kernel
theorem dX3_tell_60 : decode cX3_tell 60 = .ok (.aload_n 0, 1) := by decide +kernel
theorem dX3_tell_61 : decode cX3_tell 61 = .ok (.dload_n 2, 1) := by decide +kernel
theorem dX3_tell_62 : decode cX3_tell 62 = .ok (.putfield 25, 3) := by decide +kernel
theorem dX3_tell_65 : decode cX3_tell 65 = .ok (.iconst 1, 1) := by decide +kernel
theorem dX3_tell_66 : decode cX3_tell 66 = .ok (.ireturn, 1) := by decide +kernel
set_option maxRecDepth 20000 in
theorem ggX3_fits_X8_within : GoodIn wsX3_fits wsX8_within := goodIn_r _ [7] (by decide +kernel) (by decide +kernel)
set_option maxRecDepth 20000 in
theorem gX3_fits_X8_within_n34 : GoodIn wsX3_fits (wsX8_within) := ggX3_fits_X8_within
theorem dX3_fits_0 : decode cX3_fits 0 = .ok (.iload_n 0, 1) := by decide +kernel
theorem dX3_fits_1 : decode cX3_fits 1 = .ok (.tableswitch 56 0 2 #[27, 36, 47], 27) := by decide +kernel
theorem dX3_fits_28 : decode cX3_fits 28 = .ok (.dload_n 1, 1) := by decide +kernel
theorem dX3_fits_29 : decode cX3_fits 29 = .ok (.dconst 0, 1) := by decide +kernel
theorem dX3_fits_30 : decode cX3_fits 30 = .ok (.ldc2_w 32, 3) := by decide +kernel
theorem dX3_fits_33 : decode cX3_fits 33 = .ok (.invokestatic 34, 3) := by decide +kernel
theorem dX3_fits_36 : decode cX3_fits 36 = .ok (.ireturn, 1) := by decide +kernel
theorem dX3_fits_37 : decode cX3_fits 37 = .ok (.dload_n 1, 1) := by decide +kernel
theorem dX3_fits_38 : decode cX3_fits 38 = .ok (.ldc2_w 40, 3) := by decide +kernel
theorem dX3_fits_41 : decode cX3_fits 41 = .ok (.ldc2_w 42, 3) := by decide +kernel
theorem dX3_fits_44 : decode cX3_fits 44 = .ok (.invokestatic 34, 3) := by decide +kernel
theorem dX3_fits_47 : decode cX3_fits 47 = .ok (.ireturn, 1) := by decide +kernel
theorem dX3_fits_48 : decode cX3_fits 48 = .ok (.dload_n 1, 1) := by decide +kernel
theorem dX3_fits_49 : decode cX3_fits 49 = .ok (.dconst 1, 1) := by decide +kernel
theorem dX3_fits_50 : decode cX3_fits 50 = .ok (.ldc2_w 18, 3) := by decide +kernel
theorem dX3_fits_53 : decode cX3_fits 53 = .ok (.invokestatic 34, 3) := by decide +kernel
theorem dX3_fits_56 : decode cX3_fits 56 = .ok (.ireturn, 1) := by decide +kernel
theorem dX3_fits_57 : decode cX3_fits 57 = .ok (.dload_n 1, 1) := by decide +kernel
theorem dX3_fits_58 : decode cX3_fits 58 = .ok (.dconst 0, 1) := by decide +kernel
theorem dX3_fits_59 : decode cX3_fits 59 = .ok (.ldc2_w 42, 3) := by decide +kernel
theorem dX3_fits_62 : decode cX3_fits 62 = .ok (.invokestatic 34, 3) := by decide +kernel
theorem dX3_fits_65 : decode cX3_fits 65 = .ok (.ireturn, 1) := by decide +kernel
theorem dX4_init_0 : decode cX4_init 0 = .ok (.aload_n 0, 1) := by decide +kernel
theorem dX4_init_1 : decode cX4_init 1 = .ok (.invokespecial 3, 3) := by decide +kernel
theorem dX4_init_4 : decode cX4_init 4 = .ok (.aload_n 0, 1) := by decide +kernel
theorem dX4_init_5 : decode cX4_init 5 = .ok (.iconst 4, 1) := by decide +kernel
theorem dX4_init_6 : decode cX4_init 6 = .ok (.newarray .double, 2) := by decide +kernel
theorem dX4_init_8 : decode cX4_init 8 = .ok (.putfield 9, 3) := by decide +kernel
theorem dX4_init_11 : decode cX4_init 11 = .ok (.aload_n 0, 1) := by decide +kernel
theorem dX4_init_12 : decode cX4_init 12 = .ok (.iconst 4, 1) := by decide +kernel
theorem dX4_init_13 : decode cX4_init 13 = .ok (.newarray .double, 2) := by decide +kernel
theorem dX4_init_15 : decode cX4_init 15 = .ok (.putfield 15, 3) := by decide +kernel
theorem dX4_init_18 : decode cX4_init 18 = .ok (.aload_n 0, 1) := by decide +kernel
theorem dX4_init_19 : decode cX4_init 19 = .ok (.iconst 4, 1) := by decide +kernel
theorem dX4_init_20 : decode cX4_init 20 = .ok (.newarray .double, 2) := by decide +kernel
theorem dX4_init_22 : decode cX4_init 22 = .ok (.putfield 18, 3) := by decide +kernel
theorem dX4_init_25 : decode cX4_init 25 = .ok (.return_, 1) := by decide +kernel
theorem dX4_add_0 : decode cX4_add 0 = .ok (.aload_n 0, 1) := by decide +kernel
theorem dX4_add_1 : decode cX4_add 1 = .ok (.getfield 21, 3) := by decide +kernel
theorem dX4_add_4 : decode cX4_add 4 = .ok (.ifCond .lt 11, 3) := by decide +kernel
theorem dX4_add_7 : decode cX4_add 7 = .ok (.aload_n 0, 1) := by decide +kernel
theorem dX4_add_8 : decode cX4_add 8 = .ok (.getfield 21, 3) := by decide +kernel
theorem dX4_add_11 : decode cX4_add 11 = .ok (.iconst 4, 1) := by decide +kernel
theorem dX4_add_12 : decode cX4_add 12 = .ok (.if_icmp .lt 6, 3) := by decide +kernel
theorem dX4_add_15 : decode cX4_add 15 = .ok (.bipush (-4), 2) := by decide +kernel
theorem dX4_add_17 : decode cX4_add 17 = .ok (.ireturn, 1) := by decide +kernel
theorem dX4_add_18 : decode cX4_add 18 = .ok (.aload_n 0, 1) := by decide +kernel
theorem dX4_add_19 : decode cX4_add 19 = .ok (.getfield 9, 3) := by decide +kernel
theorem dX4_add_22 : decode cX4_add 22 = .ok (.aload_n 0, 1) := by decide +kernel
theorem dX4_add_23 : decode cX4_add 23 = .ok (.getfield 21, 3) := by decide +kernel
theorem dX4_add_26 : decode cX4_add 26 = .ok (.dload_n 1, 1) := by decide +kernel
theorem dX4_add_27 : decode cX4_add 27 = .ok (.dastore, 1) := by decide +kernel
theorem dX4_add_28 : decode cX4_add 28 = .ok (.aload_n 0, 1) := by decide +kernel
theorem dX4_add_29 : decode cX4_add 29 = .ok (.getfield 15, 3) := by decide +kernel
theorem dX4_add_32 : decode cX4_add 32 = .ok (.aload_n 0, 1) := by decide +kernel
theorem dX4_add_33 : decode cX4_add 33 = .ok (.getfield 21, 3) := by decide +kernel
theorem dX4_add_36 : decode cX4_add 36 = .ok (.dload_n 3, 1) := by decide +kernel
theorem dX4_add_37 : decode cX4_add 37 = .ok (.dastore, 1) := by decide +kernel
theorem dX4_add_38 : decode cX4_add 38 = .ok (.aload_n 0, 1) := by decide +kernel
theorem dX4_add_39 : decode cX4_add 39 = .ok (.getfield 18, 3) := by decide +kernel
theorem dX4_add_42 : decode cX4_add 42 = .ok (.aload_n 0, 1) := by decide +kernel
theorem dX4_add_43 : decode cX4_add 43 = .ok (.getfield 21, 3) := by decide +kernel
theorem dX4_add_46 : decode cX4_add 46 = .ok (.dload 5, 2) := by decide +kernel
theorem dX4_add_48 : decode cX4_add 48 = .ok (.dastore, 1) := by decide +kernel
theorem dX4_add_49 : decode cX4_add 49 = .ok (.aload_n 0, 1) := by decide +kernel
theorem dX4_add_50 : decode cX4_add 50 = .ok (.dup, 1) := by decide +kernel
theorem dX4_add_51 : decode cX4_add 51 = .ok (.getfield 21, 3) := by decide +kernel
theorem dX4_add_54 : decode cX4_add 54 = .ok (.iconst 1, 1) := by decide +kernel
theorem dX4_add_55 : decode cX4_add 55 = .ok (.iadd, 1) := by decide +kernel
theorem dX4_add_56 : decode cX4_add 56 = .ok (.putfield 21, 3) := by decide +kernel
theorem dX4_add_59 : decode cX4_add 59 = .ok (.aload_n 0, 1) := by decide +kernel
theorem dX4_add_60 : decode cX4_add 60 = .ok (.getfield 21, 3) := by decide +kernel
theorem dX4_add_63 : decode cX4_add 63 = .ok (.ireturn, 1) := by decide +kernel
theorem dX5_init_0 : decode cX5_init 0 = .ok (.aload_n 0, 1) := by decide +kernel
theorem dX5_init_1 : decode cX5_init 1 = .ok (.invokespecial 3, 3) := by decide +kernel
theorem dX5_init_4 : decode cX5_init 4 = .ok (.aload_n 0, 1) := by decide +kernel
theorem dX5_init_5 : decode cX5_init 5 = .ok (.iconst 4, 1) := by decide +kernel
theorem dX5_init_6 : decode cX5_init 6 = .ok (.newarray .int, 2) := by decide +kernel
theorem dX5_init_8 : decode cX5_init 8 = .ok (.putfield 9, 3) := by decide +kernel
theorem dX5_init_11 : decode cX5_init 11 = .ok (.aload_n 0, 1) := by decide +kernel
theorem dX5_init_12 : decode cX5_init 12 = .ok (.iconst 4, 1) := by decide +kernel
theorem dX5_init_13 : decode cX5_init 13 = .ok (.newarray .int, 2) := by decide +kernel
theorem dX5_init_15 : decode cX5_init 15 = .ok (.putfield 15, 3) := by decide +kernel
theorem dX5_init_18 : decode cX5_init 18 = .ok (.aload_n 0, 1) := by decide +kernel
theorem dX5_init_19 : decode cX5_init 19 = .ok (.bipush 32, 2) := by decide +kernel
theorem dX5_init_21 : decode cX5_init 21 = .ok (.newarray .int, 2) := by decide +kernel
theorem dX5_init_23 : decode cX5_init 23 = .ok (.putfield 18, 3) := by decide +kernel
theorem dX5_init_26 : decode cX5_init 26 = .ok (.aload_n 0, 1) := by decide +kernel
theorem dX5_init_27 : decode cX5_init 27 = .ok (.bipush 8, 2) := by decide +kernel
theorem dX5_init_29 : decode cX5_init 29 = .ok (.newarray .boolean, 2) := by decide +kernel
theorem dX5_init_31 : decode cX5_init 31 = .ok (.putfield 21, 3) := by decide +kernel
theorem dX5_init_34 : decode cX5_init 34 = .ok (.return_, 1) := by decide +kernel
set_option maxRecDepth 20000 in
theorem ggX5_solve_X7_cost : GoodIn wsX5_solve wsX7_cost := goodIn_r _ [12, 13, 14, 15, 16, 17, 18, 19, 20, 11, 21, 22, 23, 24, 25, 48, 49, 50, 51, 52, 53, 54, 55, 56, 57] (by decide +kernel) (by decide +kernel)
set_option maxRecDepth 20000 in
theorem gX5_solve_X7_cost : GoodIn wsX5_solve (wsV RX5 45 RX7 yX7_cost wsX7_cost) := goodIn_app (goodIn_of _ (by decide +kernel)) ggX5_solve_X7_cost
set_option maxRecDepth 20000 in
theorem ggX5_solve_X5_search : GoodIn wsX5_solve wsX5_search := goodIn_r _ [29, 2, 3, 4, 5, 30, 31, 32, 33, 34, 28, 35, 36, 26, 27, 41, 42, 43, 44, 45, 46, 47] (by decide +kernel) (by decide +kernel)
set_option maxRecDepth 20000 in
theorem gX5_solve_X5_search : GoodIn wsX5_solve (va_wsS RX5 51 yX5_search wsX5_search) := goodIn_app (goodIn_of _ (by decide +kernel)) ggX5_solve_X5_search
theorem dX5_solve_0 : decode cX5_solve 0 = .ok (.aload_n 0, 1) := by decide +kernel
theorem dX5_solve_1 : decode cX5_solve 1 = .ok (.aload_n 1, 1) := by decide +kernel
theorem dX5_solve_2 : decode cX5_solve 2 = .ok (.getfield 25, 3) := by decide +kernel
theorem dX5_solve_5 : decode cX5_solve 5 = .ok (.putfield 31, 3) := by decide +kernel
theorem dX5_solve_8 : decode cX5_solve 8 = .ok (.aload_n 0, 1) := by decide +kernel
theorem dX5_solve_9 : decode cX5_solve 9 = .ok (.iconst (-1), 1) := by decide +kernel
theorem dX5_solve_10 : decode cX5_solve 10 = .ok (.putfield 32, 3) := by decide +kernel
theorem dX5_solve_13 : decode cX5_solve 13 = .ok (.aload_n 0, 1) := by decide +kernel
theorem dX5_solve_14 : decode cX5_solve 14 = .ok (.iconst 0, 1) := by decide +kernel
theorem dX5_solve_15 : decode cX5_solve 15 = .ok (.putfield 35, 3) := by decide +kernel
theorem dX5_solve_18 : decode cX5_solve 18 = .ok (.iconst 0, 1) := by decide +kernel
theorem dX5_solve_19 : decode cX5_solve 19 = .ok (.istore_n 3, 1) := by decide +kernel
theorem dX5_solve_20 : decode cX5_solve 20 = .ok (.iload_n 3, 1) := by decide +kernel
theorem dX5_solve_21 : decode cX5_solve 21 = .ok (.iconst 4, 1) := by decide +kernel
theorem dX5_solve_22 : decode cX5_solve 22 = .ok (.if_icmp .ge 63, 3) := by decide +kernel
theorem dX5_solve_25 : decode cX5_solve 25 = .ok (.iload_n 3, 1) := by decide +kernel
theorem dX5_solve_26 : decode cX5_solve 26 = .ok (.aload_n 0, 1) := by decide +kernel
theorem dX5_solve_27 : decode cX5_solve 27 = .ok (.getfield 31, 3) := by decide +kernel
theorem dX5_solve_30 : decode cX5_solve 30 = .ok (.if_icmp .ge 55, 3) := by decide +kernel
theorem dX5_solve_33 : decode cX5_solve 33 = .ok (.iconst 0, 1) := by decide +kernel
theorem dX5_solve_34 : decode cX5_solve 34 = .ok (.istore 4, 2) := by decide +kernel
theorem dX5_solve_36 : decode cX5_solve 36 = .ok (.iload 4, 2) := by decide +kernel
theorem dX5_solve_38 : decode cX5_solve 38 = .ok (.bipush 8, 2) := by decide +kernel
theorem dX5_solve_40 : decode cX5_solve 40 = .ok (.if_icmp .ge 39, 3) := by decide +kernel
theorem dX5_solve_43 : decode cX5_solve 43 = .ok (.aload_n 0, 1) := by decide +kernel
theorem dX5_solve_44 : decode cX5_solve 44 = .ok (.getfield 18, 3) := by decide +kernel
theorem dX5_solve_47 : decode cX5_solve 47 = .ok (.iload_n 3, 1) := by decide +kernel
theorem dX5_solve_48 : decode cX5_solve 48 = .ok (.bipush 8, 2) := by decide +kernel
theorem dX5_solve_50 : decode cX5_solve 50 = .ok (.imul, 1) := by decide +kernel
theorem dX5_solve_51 : decode cX5_solve 51 = .ok (.iload 4, 2) := by decide +kernel
theorem dX5_solve_53 : decode cX5_solve 53 = .ok (.iadd, 1) := by decide +kernel
theorem dX5_solve_54 : decode cX5_solve 54 = .ok (.aload_n 2, 1) := by decide +kernel
theorem dX5_solve_55 : decode cX5_solve 55 = .ok (.iload 4, 2) := by decide +kernel
theorem dX5_solve_57 : decode cX5_solve 57 = .ok (.aload_n 1, 1) := by decide +kernel
theorem dX5_solve_58 : decode cX5_solve 58 = .ok (.getfield 38, 3) := by decide +kernel
theorem dX5_solve_61 : decode cX5_solve 61 = .ok (.iload_n 3, 1) := by decide +kernel
theorem dX5_solve_62 : decode cX5_solve 62 = .ok (.daload, 1) := by decide +kernel
theorem dX5_solve_63 : decode cX5_solve 63 = .ok (.aload_n 1, 1) := by decide +kernel
theorem dX5_solve_64 : decode cX5_solve 64 = .ok (.getfield 42, 3) := by decide +kernel
theorem dX5_solve_67 : decode cX5_solve 67 = .ok (.iload_n 3, 1) := by decide +kernel
theorem dX5_solve_68 : decode cX5_solve 68 = .ok (.daload, 1) := by decide +kernel
theorem dX5_solve_69 : decode cX5_solve 69 = .ok (.invokevirtual 45, 3) := by decide +kernel
theorem dX5_solve_72 : decode cX5_solve 72 = .ok (.iastore, 1) := by decide +kernel
theorem dX5_solve_73 : decode cX5_solve 73 = .ok (.iinc 4 1, 3) := by decide +kernel
theorem dX5_solve_76 : decode cX5_solve 76 = .ok (.goto (-40), 3) := by decide +kernel
theorem dX5_solve_79 : decode cX5_solve 79 = .ok (.iinc 3 1, 3) := by decide +kernel
theorem dX5_solve_82 : decode cX5_solve 82 = .ok (.goto (-62), 3) := by decide +kernel
theorem dX5_solve_85 : decode cX5_solve 85 = .ok (.aload_n 0, 1) := by decide +kernel
theorem dX5_solve_86 : decode cX5_solve 86 = .ok (.iconst 0, 1) := by decide +kernel
theorem dX5_solve_87 : decode cX5_solve 87 = .ok (.iconst 0, 1) := by decide +kernel
theorem dX5_solve_88 : decode cX5_solve 88 = .ok (.iconst 0, 1) := by decide +kernel
theorem dX5_solve_89 : decode cX5_solve 89 = .ok (.invokestatic 51, 3) := by decide +kernel
theorem dX5_solve_92 : decode cX5_solve 92 = .ok (.return_, 1) := by decide +kernel
set_option maxRecDepth 20000 in
theorem ggX5_search_X5_keep : GoodIn wsX5_search wsX5_keep := goodIn_r _ [11, 2, 3, 12, 6, 15, 16, 17, 18, 19, 20, 21] (by decide +kernel) (by decide +kernel)
set_option maxRecDepth 20000 in
theorem gX5_search_X5_keep : GoodIn wsX5_search (wsV RX5 55 RX5 yX5_keep wsX5_keep) := goodIn_app (goodIn_of _ (by decide +kernel)) ggX5_search_X5_keep
set_option maxRecDepth 20000 in
theorem ggX5_search_X5_search : GoodIn wsX5_search wsX5_search := goodIn_r _ [0, 1, 2, 3, 4, 5, 6, 7, 8, 9, 10, 11, 12, 13, 14, 15, 16, 17, 18, 19, 20, 21] (by decide +kernel) (by decide +kernel)
set_option maxRecDepth 20000 in
theorem gX5_search_X5_search : GoodIn wsX5_search (va_wsS RX5 51 yX5_search wsX5_search) := goodIn_app (goodIn_of _ (by decide +kernel)) ggX5_search_X5_search
theorem dX5_search_0 : decode cX5_search 0 = .ok (.iload_n 2, 1) := by decide +kernel
theorem dX5_search_1 : decode cX5_search 1 = .ok (.aload_n 0, 1) := by decide +kernel
theorem dX5_search_2 : decode cX5_search 2 = .ok (.getfield 31, 3) := by decide +kernel
theorem dX5_search_5 : decode cX5_search 5 = .ok (.iadd, 1) := by decide +kernel
theorem dX5_search_6 : decode cX5_search 6 = .ok (.iload_n 1, 1) := by decide +kernel
theorem dX5_search_7 : decode cX5_search 7 = .ok (.isub, 1) := by decide +kernel
theorem dX5_search_8 : decode cX5_search 8 = .ok (.istore 4, 2) := by decide +kernel
theorem dX5_search_10 : decode cX5_search 10 = .ok (.iload 4, 2) := by decide +kernel
theorem dX5_search_12 : decode cX5_search 12 = .ok (.aload_n 0, 1) := by decide +kernel
theorem dX5_search_13 : decode cX5_search 13 = .ok (.getfield 32, 3) := by decide +kernel
theorem dX5_search_16 : decode cX5_search 16 = .ok (.if_icmp .lt 20, 3) := by decide +kernel
theorem dX5_search_19 : decode cX5_search 19 = .ok (.iload 4, 2) := by decide +kernel
theorem dX5_search_21 : decode cX5_search 21 = .ok (.aload_n 0, 1) := by decide +kernel
theorem dX5_search_22 : decode cX5_search 22 = .ok (.getfield 32, 3) := by decide +kernel
theorem dX5_search_25 : decode cX5_search 25 = .ok (.if_icmp .ne 12, 3) := by decide +kernel
theorem dX5_search_28 : decode cX5_search 28 = .ok (.iload_n 3, 1) := by decide +kernel
theorem dX5_search_29 : decode cX5_search 29 = .ok (.aload_n 0, 1) := by decide +kernel
theorem dX5_search_30 : decode cX5_search 30 = .ok (.getfield 35, 3) := by decide +kernel
theorem dX5_search_33 : decode cX5_search 33 = .ok (.if_icmp .lt 4, 3) := by decide +kernel
theorem dX5_search_36 : decode cX5_search 36 = .ok (.return_, 1) := by decide +kernel
theorem dX5_search_37 : decode cX5_search 37 = .ok (.iload_n 1, 1) := by decide +kernel
theorem dX5_search_38 : decode cX5_search 38 = .ok (.ifCond .lt 16, 3) := by decide +kernel
theorem dX5_search_41 : decode cX5_search 41 = .ok (.iload_n 1, 1) := by decide +kernel
theorem dX5_search_42 : decode cX5_search 42 = .ok (.iconst 4, 1) := by decide +kernel
theorem dX5_search_43 : decode cX5_search 43 = .ok (.if_icmp .ge 11, 3) := by decide +kernel
theorem dX5_search_46 : decode cX5_search 46 = .ok (.iload_n 1, 1) := by decide +kernel
theorem dX5_search_47 : decode cX5_search 47 = .ok (.aload_n 0, 1) := by decide +kernel
theorem dX5_search_48 : decode cX5_search 48 = .ok (.getfield 31, 3) := by decide +kernel
theorem dX5_search_51 : decode cX5_search 51 = .ok (.if_icmp .lt 10, 3) := by decide +kernel
theorem dX5_search_54 : decode cX5_search 54 = .ok (.aload_n 0, 1) := by decide +kernel
theorem dX5_search_55 : decode cX5_search 55 = .ok (.iload_n 2, 1) := by decide +kernel
theorem dX5_search_56 : decode cX5_search 56 = .ok (.iload_n 3, 1) := by decide +kernel
theorem dX5_search_57 : decode cX5_search 57 = .ok (.invokevirtual 55, 3) := by decide +kernel
theorem dX5_search_60 : decode cX5_search 60 = .ok (.return_, 1) := by decide +kernel
theorem dX5_search_61 : decode cX5_search 61 = .ok (.iconst 0, 1) := by decide +kernel
theorem dX5_search_62 : decode cX5_search 62 = .ok (.istore 5, 2) := by decide +kernel
theorem dX5_search_64 : decode cX5_search 64 = .ok (.iload 5, 2) := by decide +kernel
theorem dX5_search_66 : decode cX5_search 66 = .ok (.bipush 8, 2) := by decide +kernel
theorem dX5_search_68 : decode cX5_search 68 = .ok (.if_icmp .ge 77, 3) := by decide +kernel
theorem dX5_search_71 : decode cX5_search 71 = .ok (.aload_n 0, 1) := by decide +kernel
theorem dX5_search_72 : decode cX5_search 72 = .ok (.getfield 18, 3) := by decide +kernel
theorem dX5_search_75 : decode cX5_search 75 = .ok (.iload_n 1, 1) := by decide +kernel
theorem dX5_search_76 : decode cX5_search 76 = .ok (.bipush 8, 2) := by decide +kernel
theorem dX5_search_78 : decode cX5_search 78 = .ok (.imul, 1) := by decide +kernel
theorem dX5_search_79 : decode cX5_search 79 = .ok (.iload 5, 2) := by decide +kernel
theorem dX5_search_81 : decode cX5_search 81 = .ok (.iadd, 1) := by decide +kernel
theorem dX5_search_82 : decode cX5_search 82 = .ok (.iaload, 1) := by decide +kernel
theorem dX5_search_83 : decode cX5_search 83 = .ok (.istore 6, 2) := by decide +kernel
theorem dX5_search_85 : decode cX5_search 85 = .ok (.iload 6, 2) := by decide +kernel
theorem dX5_search_87 : decode cX5_search 87 = .ok (.iconst (-1), 1) := by decide +kernel
theorem dX5_search_88 : decode cX5_search 88 = .ok (.if_icmp .eq 51, 3) := by decide +kernel
theorem dX5_search_91 : decode cX5_search 91 = .ok (.aload_n 0, 1) := by decide +kernel
theorem dX5_search_92 : decode cX5_search 92 = .ok (.getfield 21, 3) := by decide +kernel
theorem dX5_search_95 : decode cX5_search 95 = .ok (.iload 5, 2) := by decide +kernel
theorem dX5_search_97 : decode cX5_search 97 = .ok (.baload, 1) := by decide +kernel
theorem dX5_search_98 : decode cX5_search 98 = .ok (.ifCond .ne 41, 3) := by decide +kernel
theorem dX5_search_101 : decode cX5_search 101 = .ok (.aload_n 0, 1) := by decide +kernel
theorem dX5_search_102 : decode cX5_search 102 = .ok (.getfield 21, 3) := by decide +kernel
theorem dX5_search_105 : decode cX5_search 105 = .ok (.iload 5, 2) := by decide +kernel
theorem dX5_search_107 : decode cX5_search 107 = .ok (.iconst 1, 1) := by decide +kernel
theorem dX5_search_108 : decode cX5_search 108 = .ok (.bastore, 1) := by decide +kernel
theorem dX5_search_109 : decode cX5_search 109 = .ok (.aload_n 0, 1) := by decide +kernel
theorem dX5_search_110 : decode cX5_search 110 = .ok (.getfield 15, 3) := by decide +kernel
theorem dX5_search_113 : decode cX5_search 113 = .ok (.iload_n 1, 1) := by decide +kernel
theorem dX5_search_114 : decode cX5_search 114 = .ok (.iload 5, 2) := by decide +kernel
theorem dX5_search_116 : decode cX5_search 116 = .ok (.iastore, 1) := by decide +kernel
theorem dX5_search_117 : decode cX5_search 117 = .ok (.aload_n 0, 1) := by decide +kernel
theorem dX5_search_118 : decode cX5_search 118 = .ok (.iload_n 1, 1) := by decide +kernel
theorem dX5_search_119 : decode cX5_search 119 = .ok (.iconst 1, 1) := by decide +kernel
theorem dX5_search_120 : decode cX5_search 120 = .ok (.iadd, 1) := by decide +kernel
theorem dX5_search_121 : decode cX5_search 121 = .ok (.iload_n 2, 1) := by decide +kernel
theorem dX5_search_122 : decode cX5_search 122 = .ok (.iconst 1, 1) := by decide +kernel
theorem dX5_search_123 : decode cX5_search 123 = .ok (.iadd, 1) := by decide +kernel
theorem dX5_search_124 : decode cX5_search 124 = .ok (.iload_n 3, 1) := by decide +kernel
theorem dX5_search_125 : decode cX5_search 125 = .ok (.iload 6, 2) := by decide +kernel
theorem dX5_search_127 : decode cX5_search 127 = .ok (.iadd, 1) := by decide +kernel
theorem dX5_search_128 : decode cX5_search 128 = .ok (.invokestatic 51, 3) := by decide +kernel
theorem dX5_search_131 : decode cX5_search 131 = .ok (.aload_n 0, 1) := by decide +kernel
theorem dX5_search_132 : decode cX5_search 132 = .ok (.getfield 21, 3) := by decide +kernel
theorem dX5_search_135 : decode cX5_search 135 = .ok (.iload 5, 2) := by decide +kernel
theorem dX5_search_137 : decode cX5_search 137 = .ok (.iconst 0, 1) := by decide +kernel
theorem dX5_search_138 : decode cX5_search 138 = .ok (.bastore, 1) := by decide +kernel
theorem dX5_search_139 : decode cX5_search 139 = .ok (.iinc 5 1, 3) := by decide +kernel
theorem dX5_search_142 : decode cX5_search 142 = .ok (.goto (-78), 3) := by decide +kernel
theorem dX5_search_145 : decode cX5_search 145 = .ok (.aload_n 0, 1) := by decide +kernel
theorem dX5_search_146 : decode cX5_search 146 = .ok (.getfield 15, 3) := by decide +kernel
theorem dX5_search_149 : decode cX5_search 149 = .ok (.iload_n 1, 1) := by decide +kernel
theorem dX5_search_150 : decode cX5_search 150 = .ok (.iconst (-1), 1) := by decide +kernel
theorem dX5_search_151 : decode cX5_search 151 = .ok (.iastore, 1) := by decide +kernel
theorem dX5_search_152 : decode cX5_search 152 = .ok (.aload_n 0, 1) := by decide +kernel
theorem dX5_search_153 : decode cX5_search 153 = .ok (.iload_n 1, 1) := by decide +kernel
theorem dX5_search_154 : decode cX5_search 154 = .ok (.iconst 1, 1) := by decide +kernel
theorem dX5_search_155 : decode cX5_search 155 = .ok (.iadd, 1) := by decide +kernel
theorem dX5_search_156 : decode cX5_search 156 = .ok (.iload_n 2, 1) := by decide +kernel
theorem dX5_search_157 : decode cX5_search 157 = .ok (.iload_n 3, 1) := by decide +kernel
theorem dX5_search_158 : decode cX5_search 158 = .ok (.invokestatic 51, 3) := by decide +kernel
theorem dX5_search_161 : decode cX5_search 161 = .ok (.return_, 1) := by decide +kernel
theorem dX5_keep_0 : decode cX5_keep 0 = .ok (.aload_n 0, 1) := by decide +kernel
theorem dX5_keep_1 : decode cX5_keep 1 = .ok (.iload_n 1, 1) := by decide +kernel
theorem dX5_keep_2 : decode cX5_keep 2 = .ok (.putfield 32, 3) := by decide +kernel
theorem dX5_keep_5 : decode cX5_keep 5 = .ok (.aload_n 0, 1) := by decide +kernel
theorem dX5_keep_6 : decode cX5_keep 6 = .ok (.iload_n 2, 1) := by decide +kernel
theorem dX5_keep_7 : decode cX5_keep 7 = .ok (.putfield 35, 3) := by decide +kernel
theorem dX5_keep_10 : decode cX5_keep 10 = .ok (.iconst 0, 1) := by decide +kernel
theorem dX5_keep_11 : decode cX5_keep 11 = .ok (.istore_n 3, 1) := by decide +kernel
theorem dX5_keep_12 : decode cX5_keep 12 = .ok (.iload_n 3, 1) := by decide +kernel
theorem dX5_keep_13 : decode cX5_keep 13 = .ok (.iconst 4, 1) := by decide +kernel
theorem dX5_keep_14 : decode cX5_keep 14 = .ok (.if_icmp .ge 21, 3) := by decide +kernel
theorem dX5_keep_17 : decode cX5_keep 17 = .ok (.aload_n 0, 1) := by decide +kernel
theorem dX5_keep_18 : decode cX5_keep 18 = .ok (.getfield 9, 3) := by decide +kernel
theorem dX5_keep_21 : decode cX5_keep 21 = .ok (.iload_n 3, 1) := by decide +kernel
theorem dX5_keep_22 : decode cX5_keep 22 = .ok (.aload_n 0, 1) := by decide +kernel
theorem dX5_keep_23 : decode cX5_keep 23 = .ok (.getfield 15, 3) := by decide +kernel
theorem dX5_keep_26 : decode cX5_keep 26 = .ok (.iload_n 3, 1) := by decide +kernel
theorem dX5_keep_27 : decode cX5_keep 27 = .ok (.iaload, 1) := by decide +kernel
theorem dX5_keep_28 : decode cX5_keep 28 = .ok (.iastore, 1) := by decide +kernel
theorem dX5_keep_29 : decode cX5_keep 29 = .ok (.iinc 3 1, 3) := by decide +kernel
theorem dX5_keep_32 : decode cX5_keep 32 = .ok (.goto (-20), 3) := by decide +kernel
theorem dX5_keep_35 : decode cX5_keep 35 = .ok (.return_, 1) := by decide +kernel
theorem dX6_init_0 : decode cX6_init 0 = .ok (.aload_n 0, 1) := by decide +kernel
theorem dX6_init_1 : decode cX6_init 1 = .ok (.invokespecial 3, 3) := by decide +kernel
theorem dX6_init_4 : decode cX6_init 4 = .ok (.aload_n 0, 1) := by decide +kernel
theorem dX6_init_5 : decode cX6_init 5 = .ok (.bipush 14, 2) := by decide +kernel
theorem dX6_init_7 : decode cX6_init 7 = .ok (.newarray .int, 2) := by decide +kernel
theorem dX6_init_9 : decode cX6_init 9 = .ok (.putfield 9, 3) := by decide +kernel
theorem dX6_init_12 : decode cX6_init 12 = .ok (.return_, 1) := by decide +kernel
set_option maxRecDepth 20000 in
theorem ggX6_see_X6_weight : GoodIn wsX6_see wsX6_weight := goodIn_r _ [6] (by decide +kernel) (by decide +kernel)
set_option maxRecDepth 20000 in
theorem gX6_see_X6_weight : GoodIn wsX6_see (va_wsS RX6 15 yX6_weight wsX6_weight) := goodIn_app (goodIn_of _ (by decide +kernel)) ggX6_see_X6_weight
set_option maxRecDepth 20000 in
theorem ggX6_see_X6_take : GoodIn wsX6_see wsX6_take := goodIn_r _ [10, 2, 1, 11, 12] (by decide +kernel) (by decide +kernel)
set_option maxRecDepth 20000 in
theorem gX6_see_X6_take : GoodIn wsX6_see (wsV RX6 19 RX6 yX6_take wsX6_take) := goodIn_app (goodIn_of _ (by decide +kernel)) ggX6_see_X6_take
theorem dX6_see_0 : decode cX6_see 0 = .ok (.iconst 0, 1) := by decide +kernel
theorem dX6_see_1 : decode cX6_see 1 = .ok (.istore_n 3, 1) := by decide +kernel
theorem dX6_see_2 : decode cX6_see 2 = .ok (.iconst 1, 1) := by decide +kernel
theorem dX6_see_3 : decode cX6_see 3 = .ok (.istore 4, 2) := by decide +kernel
theorem dX6_see_5 : decode cX6_see 5 = .ok (.iload 4, 2) := by decide +kernel
theorem dX6_see_7 : decode cX6_see 7 = .ok (.bipush 13, 2) := by decide +kernel
theorem dX6_see_9 : decode cX6_see 9 = .ok (.if_icmp .gt 80, 3) := by decide +kernel
theorem dX6_see_12 : decode cX6_see 12 = .ok (.iload 4, 2) := by decide +kernel
theorem dX6_see_14 : decode cX6_see 14 = .ok (.iload_n 1, 1) := by decide +kernel
theorem dX6_see_15 : decode cX6_see 15 = .ok (.if_icmp .ne 42, 3) := by decide +kernel
theorem dX6_see_18 : decode cX6_see 18 = .ok (.aload_n 0, 1) := by decide +kernel
theorem dX6_see_19 : decode cX6_see 19 = .ok (.getfield 9, 3) := by decide +kernel
theorem dX6_see_22 : decode cX6_see 22 = .ok (.iload 4, 2) := by decide +kernel
theorem dX6_see_24 : decode cX6_see 24 = .ok (.aload_n 0, 1) := by decide +kernel
theorem dX6_see_25 : decode cX6_see 25 = .ok (.getfield 9, 3) := by decide +kernel
theorem dX6_see_28 : decode cX6_see 28 = .ok (.iload 4, 2) := by decide +kernel
theorem dX6_see_30 : decode cX6_see 30 = .ok (.iaload, 1) := by decide +kernel
theorem dX6_see_31 : decode cX6_see 31 = .ok (.iload_n 2, 1) := by decide +kernel
theorem dX6_see_32 : decode cX6_see 32 = .ok (.invokestatic 15, 3) := by decide +kernel
theorem dX6_see_35 : decode cX6_see 35 = .ok (.iadd, 1) := by decide +kernel
theorem dX6_see_36 : decode cX6_see 36 = .ok (.iastore, 1) := by decide +kernel
theorem dX6_see_37 : decode cX6_see 37 = .ok (.aload_n 0, 1) := by decide +kernel
theorem dX6_see_38 : decode cX6_see 38 = .ok (.getfield 9, 3) := by decide +kernel
theorem dX6_see_41 : decode cX6_see 41 = .ok (.iload 4, 2) := by decide +kernel
theorem dX6_see_43 : decode cX6_see 43 = .ok (.iaload, 1) := by decide +kernel
theorem dX6_see_44 : decode cX6_see 44 = .ok (.iconst 4, 1) := by decide +kernel
theorem dX6_see_45 : decode cX6_see 45 = .ok (.if_icmp .lt 7, 3) := by decide +kernel
theorem dX6_see_48 : decode cX6_see 48 = .ok (.iconst 1, 1) := by decide +kernel
theorem dX6_see_49 : decode cX6_see 49 = .ok (.goto 4, 3) := by decide +kernel
theorem dX6_see_52 : decode cX6_see 52 = .ok (.iconst 0, 1) := by decide +kernel
theorem dX6_see_53 : decode cX6_see 53 = .ok (.istore_n 3, 1) := by decide +kernel
theorem dX6_see_54 : decode cX6_see 54 = .ok (.goto 29, 3) := by decide +kernel
theorem dX6_see_57 : decode cX6_see 57 = .ok (.aload_n 0, 1) := by decide +kernel
theorem dX6_see_58 : decode cX6_see 58 = .ok (.getfield 9, 3) := by decide +kernel
theorem dX6_see_61 : decode cX6_see 61 = .ok (.iload 4, 2) := by decide +kernel
theorem dX6_see_63 : decode cX6_see 63 = .ok (.iaload, 1) := by decide +kernel
theorem dX6_see_64 : decode cX6_see 64 = .ok (.ifCond .le 19, 3) := by decide +kernel
theorem dX6_see_67 : decode cX6_see 67 = .ok (.aload_n 0, 1) := by decide +kernel
theorem dX6_see_68 : decode cX6_see 68 = .ok (.getfield 9, 3) := by decide +kernel
theorem dX6_see_71 : decode cX6_see 71 = .ok (.iload 4, 2) := by decide +kernel
theorem dX6_see_73 : decode cX6_see 73 = .ok (.aload_n 0, 1) := by decide +kernel
theorem dX6_see_74 : decode cX6_see 74 = .ok (.getfield 9, 3) := by decide +kernel
theorem dX6_see_77 : decode cX6_see 77 = .ok (.iload 4, 2) := by decide +kernel
theorem dX6_see_79 : decode cX6_see 79 = .ok (.iaload, 1) := by decide +kernel
theorem dX6_see_80 : decode cX6_see 80 = .ok (.iconst 1, 1) := by decide +kernel
theorem dX6_see_81 : decode cX6_see 81 = .ok (.isub, 1) := by decide +kernel
theorem dX6_see_82 : decode cX6_see 82 = .ok (.iastore, 1) := by decide +kernel
theorem dX6_see_83 : decode cX6_see 83 = .ok (.iinc 4 1, 3) := by decide +kernel
theorem dX6_see_86 : decode cX6_see 86 = .ok (.goto (-81), 3) := by decide +kernel
theorem dX6_see_89 : decode cX6_see 89 = .ok (.iload_n 3, 1) := by decide +kernel
theorem dX6_see_90 : decode cX6_see 90 = .ok (.ifCond .eq 8, 3) := by decide +kernel
theorem dX6_see_93 : decode cX6_see 93 = .ok (.aload_n 0, 1) := by decide +kernel
theorem dX6_see_94 : decode cX6_see 94 = .ok (.iload_n 1, 1) := by decide +kernel
theorem dX6_see_95 : decode cX6_see 95 = .ok (.invokevirtual 19, 3) := by decide +kernel
theorem dX6_see_98 : decode cX6_see 98 = .ok (.aload_n 0, 1) := by decide +kernel
theorem dX6_see_99 : decode cX6_see 99 = .ok (.getfield 23, 3) := by decide +kernel
theorem dX6_see_102 : decode cX6_see 102 = .ok (.ireturn, 1) := by decide +kernel
theorem dX6_take_0 : decode cX6_take 0 = .ok (.aload_n 0, 1) := by decide +kernel
theorem dX6_take_1 : decode cX6_take 1 = .ok (.iload_n 1, 1) := by decide +kernel
theorem dX6_take_2 : decode cX6_take 2 = .ok (.putfield 23, 3) := by decide +kernel
theorem dX6_take_5 : decode cX6_take 5 = .ok (.iconst 1, 1) := by decide +kernel
theorem dX6_take_6 : decode cX6_take 6 = .ok (.istore_n 2, 1) := by decide +kernel
theorem dX6_take_7 : decode cX6_take 7 = .ok (.iload_n 2, 1) := by decide +kernel
theorem dX6_take_8 : decode cX6_take 8 = .ok (.bipush 13, 2) := by decide +kernel
theorem dX6_take_10 : decode cX6_take 10 = .ok (.if_icmp .gt 16, 3) := by decide +kernel
theorem dX6_take_13 : decode cX6_take 13 = .ok (.aload_n 0, 1) := by decide +kernel
theorem dX6_take_14 : decode cX6_take 14 = .ok (.getfield 9, 3) := by decide +kernel
theorem dX6_take_17 : decode cX6_take 17 = .ok (.iload_n 2, 1) := by decide +kernel
theorem dX6_take_18 : decode cX6_take 18 = .ok (.iconst 0, 1) := by decide +kernel
theorem dX6_take_19 : decode cX6_take 19 = .ok (.iastore, 1) := by decide +kernel
theorem dX6_take_20 : decode cX6_take 20 = .ok (.iinc 2 1, 3) := by decide +kernel
theorem dX6_take_23 : decode cX6_take 23 = .ok (.goto (-16), 3) := by decide +kernel
theorem dX6_take_26 : decode cX6_take 26 = .ok (.return_, 1) := by decide +kernel
theorem dX6_weight_0 : decode cX6_weight 0 = .ok (.iload_n 0, 1) := by decide +kernel
theorem dX6_weight_1 : decode cX6_weight 1 = .ok (.bipush 60, 2) := by decide +kernel
theorem dX6_weight_3 : decode cX6_weight 3 = .ok (.if_icmp .lt 5, 3) := by decide +kernel
theorem dX6_weight_6 : decode cX6_weight 6 = .ok (.iconst 2, 1) := by decide +kernel
theorem dX6_weight_7 : decode cX6_weight 7 = .ok (.ireturn, 1) := by decide +kernel
theorem dX6_weight_8 : decode cX6_weight 8 = .ok (.iload_n 0, 1) := by decide +kernel
theorem dX6_weight_9 : decode cX6_weight 9 = .ok (.bipush 30, 2) := by decide +kernel
theorem dX6_weight_11 : decode cX6_weight 11 = .ok (.if_icmp .lt 7, 3) := by decide +kernel
theorem dX6_weight_14 : decode cX6_weight 14 = .ok (.iconst 1, 1) := by decide +kernel
theorem dX6_weight_15 : decode cX6_weight 15 = .ok (.goto 4, 3) := by decide +kernel
theorem dX6_weight_18 : decode cX6_weight 18 = .ok (.iconst 0, 1) := by decide +kernel
theorem dX6_weight_19 : decode cX6_weight 19 = .ok (.ireturn, 1) := by decide +kernel
set_option maxRecDepth 20000 in
theorem ggX7_init_X5_init : GoodIn wsX7_init wsX5_init := goodIn_r _ [20, 21, 2, 3, 10, 22, 23, 24, 4, 25, 36, 37, 38, 39, 40, 41, 42] (by decide +kernel) (by decide +kernel)
set_option maxRecDepth 20000 in
theorem gX7_init_X5_init_n40 : GoodIn wsX7_init (wsX5_init) := ggX7_init_X5_init
theorem dX7_init_0 : decode cX7_init 0 = .ok (.aload_n 0, 1) := by decide +kernel
theorem dX7_init_1 : decode cX7_init 1 = .ok (.invokespecial 3, 3) := by decide +kernel
theorem dX7_init_4 : decode cX7_init 4 = .ok (.aload_n 0, 1) := by decide +kernel
theorem dX7_init_5 : decode cX7_init 5 = .ok (.bipush 8, 2) := by decide +kernel
theorem dX7_init_7 : decode cX7_init 7 = .ok (.newarray .boolean, 2) := by decide +kernel
theorem dX7_init_9 : decode cX7_init 9 = .ok (.putfield 9, 3) := by decide +kernel
theorem dX7_init_12 : decode cX7_init 12 = .ok (.aload_n 0, 1) := by decide +kernel
theorem dX7_init_13 : decode cX7_init 13 = .ok (.bipush 8, 2) := by decide +kernel
theorem dX7_init_15 : decode cX7_init 15 = .ok (.newarray .double, 2) := by decide +kernel
theorem dX7_init_17 : decode cX7_init 17 = .ok (.putfield 15, 3) := by decide +kernel
theorem dX7_init_20 : decode cX7_init 20 = .ok (.aload_n 0, 1) := by decide +kernel
theorem dX7_init_21 : decode cX7_init 21 = .ok (.bipush 8, 2) := by decide +kernel
theorem dX7_init_23 : decode cX7_init 23 = .ok (.newarray .double, 2) := by decide +kernel
theorem dX7_init_25 : decode cX7_init 25 = .ok (.putfield 19, 3) := by decide +kernel
theorem dX7_init_28 : decode cX7_init 28 = .ok (.aload_n 0, 1) := by decide +kernel
theorem dX7_init_29 : decode cX7_init 29 = .ok (.bipush 8, 2) := by decide +kernel
theorem dX7_init_31 : decode cX7_init 31 = .ok (.newarray .double, 2) := by decide +kernel
theorem dX7_init_33 : decode cX7_init 33 = .ok (.putfield 22, 3) := by decide +kernel
theorem dX7_init_36 : decode cX7_init 36 = .ok (.aload_n 0, 1) := by decide +kernel
theorem dX7_init_37 : decode cX7_init 37 = .ok (.bipush 8, 2) := by decide +kernel
theorem dX7_init_39 : decode cX7_init 39 = .ok (.newarray .int, 2) := by decide +kernel
theorem dX7_init_41 : decode cX7_init 41 = .ok (.putfield 25, 3) := by decide +kernel
theorem dX7_init_44 : decode cX7_init 44 = .ok (.aload_n 0, 1) := by decide +kernel
theorem dX7_init_45 : decode cX7_init 45 = .ok (.bipush 8, 2) := by decide +kernel
theorem dX7_init_47 : decode cX7_init 47 = .ok (.newarray .int, 2) := by decide +kernel
theorem dX7_init_49 : decode cX7_init 49 = .ok (.putfield 29, 3) := by decide +kernel
theorem dX7_init_52 : decode cX7_init 52 = .ok (.aload_n 0, 1) := by decide +kernel
theorem dX7_init_53 : decode cX7_init 53 = .ok (.bipush 8, 2) := by decide +kernel
theorem dX7_init_55 : decode cX7_init 55 = .ok (.newarray .boolean, 2) := by decide +kernel
theorem dX7_init_57 : decode cX7_init 57 = .ok (.putfield 32, 3) := by decide +kernel
theorem dX7_init_60 : decode cX7_init 60 = .ok (.aload_n 0, 1) := by decide +kernel
theorem dX7_init_61 : decode cX7_init 61 = .ok (.bipush 8, 2) := by decide +kernel
theorem dX7_init_63 : decode cX7_init 63 = .ok (.newarray .double, 2) := by decide +kernel
theorem dX7_init_65 : decode cX7_init 65 = .ok (.putfield 35, 3) := by decide +kernel
theorem dX7_init_68 : decode cX7_init 68 = .ok (.aload_n 0, 1) := by decide +kernel
theorem dX7_init_69 : decode cX7_init 69 = .ok (.new 38, 3) := by decide +kernel
theorem dX7_init_72 : decode cX7_init 72 = .ok (.dup, 1) := by decide +kernel
theorem dX7_init_73 : decode cX7_init 73 = .ok (.invokespecial 40, 3) := by decide +kernel
theorem dX7_init_76 : decode cX7_init 76 = .ok (.putfield 41, 3) := by decide +kernel
theorem dX7_init_79 : decode cX7_init 79 = .ok (.return_, 1) := by decide +kernel
theorem dX7_isThere_0 : decode cX7_isThere 0 = .ok (.iload_n 1, 1) := by decide +kernel
theorem dX7_isThere_1 : decode cX7_isThere 1 = .ok (.ifCond .lt 22, 3) := by decide +kernel
theorem dX7_isThere_4 : decode cX7_isThere 4 = .ok (.iload_n 1, 1) := by decide +kernel
theorem dX7_isThere_5 : decode cX7_isThere 5 = .ok (.bipush 8, 2) := by decide +kernel
theorem dX7_isThere_7 : decode cX7_isThere 7 = .ok (.if_icmp .ge 16, 3) := by decide +kernel
theorem dX7_isThere_10 : decode cX7_isThere 10 = .ok (.aload_n 0, 1) := by decide +kernel
theorem dX7_isThere_11 : decode cX7_isThere 11 = .ok (.getfield 9, 3) := by decide +kernel
theorem dX7_isThere_14 : decode cX7_isThere 14 = .ok (.iload_n 1, 1) := by decide +kernel
theorem dX7_isThere_15 : decode cX7_isThere 15 = .ok (.baload, 1) := by decide +kernel
theorem dX7_isThere_16 : decode cX7_isThere 16 = .ok (.ifCond .eq 7, 3) := by decide +kernel
theorem dX7_isThere_19 : decode cX7_isThere 19 = .ok (.iconst 1, 1) := by decide +kernel
theorem dX7_isThere_20 : decode cX7_isThere 20 = .ok (.goto 4, 3) := by decide +kernel
theorem dX7_isThere_23 : decode cX7_isThere 23 = .ok (.iconst 0, 1) := by decide +kernel
theorem dX7_isThere_24 : decode cX7_isThere 24 = .ok (.ireturn, 1) := by decide +kernel
theorem dX7_move_0 : decode cX7_move 0 = .ok (.iconst 0, 1) := by decide +kernel
theorem dX7_move_1 : decode cX7_move 1 = .ok (.istore 5, 2) := by decide +kernel
theorem dX7_move_3 : decode cX7_move 3 = .ok (.iload 5, 2) := by decide +kernel
theorem dX7_move_5 : decode cX7_move 5 = .ok (.bipush 8, 2) := by decide +kernel
theorem dX7_move_7 : decode cX7_move 7 = .ok (.if_icmp .ge 45, 3) := by decide +kernel
theorem dX7_move_10 : decode cX7_move 10 = .ok (.aload_n 0, 1) := by decide +kernel
theorem dX7_move_11 : decode cX7_move 11 = .ok (.getfield 9, 3) := by decide +kernel
theorem dX7_move_14 : decode cX7_move 14 = .ok (.iload 5, 2) := by decide +kernel
theorem dX7_move_16 : decode cX7_move 16 = .ok (.baload, 1) := by decide +kernel
theorem dX7_move_17 : decode cX7_move 17 = .ok (.ifCond .eq 29, 3) := by decide +kernel
theorem dX7_move_20 : decode cX7_move 20 = .ok (.aload_n 0, 1) := by decide +kernel
theorem dX7_move_21 : decode cX7_move 21 = .ok (.getfield 15, 3) := by decide +kernel
theorem dX7_move_24 : decode cX7_move 24 = .ok (.iload 5, 2) := by decide +kernel
theorem dX7_move_26 : decode cX7_move 26 = .ok (.aload_n 0, 1) := by decide +kernel
theorem dX7_move_27 : decode cX7_move 27 = .ok (.getfield 15, 3) := by decide +kernel
theorem dX7_move_30 : decode cX7_move 30 = .ok (.iload 5, 2) := by decide +kernel
theorem dX7_move_32 : decode cX7_move 32 = .ok (.daload, 1) := by decide +kernel
theorem dX7_move_33 : decode cX7_move 33 = .ok (.aload_n 0, 1) := by decide +kernel
theorem dX7_move_34 : decode cX7_move 34 = .ok (.getfield 22, 3) := by decide +kernel
theorem dX7_move_37 : decode cX7_move 37 = .ok (.iload 5, 2) := by decide +kernel
theorem dX7_move_39 : decode cX7_move 39 = .ok (.daload, 1) := by decide +kernel
theorem dX7_move_40 : decode cX7_move 40 = .ok (.dload_n 1, 1) := by decide +kernel
theorem dX7_move_41 : decode cX7_move 41 = .ok (.dsub, 1) := by decide +kernel
theorem dX7_move_42 : decode cX7_move 42 = .ok (.dload_n 3, 1) := by decide +kernel
theorem dX7_move_43 : decode cX7_move 43 = .ok (.dmul, 1) := by decide +kernel
theorem dX7_move_44 : decode cX7_move 44 = .ok (.dadd, 1) := by decide +kernel
theorem dX7_move_45 : decode cX7_move 45 = .ok (.dastore, 1) := by decide +kernel
theorem dX7_move_46 : decode cX7_move 46 = .ok (.iinc 5 1, 3) := by decide +kernel
theorem dX7_move_49 : decode cX7_move 49 = .ok (.goto (-46), 3) := by decide +kernel
theorem dX7_move_52 : decode cX7_move 52 = .ok (.return_, 1) := by decide +kernel
theorem dX7_forgetMeetings_0 : decode cX7_forgetMeetings 0 = .ok (.aload_n 0, 1) := by decide +kernel
theorem dX7_forgetMeetings_1 : decode cX7_forgetMeetings 1 = .ok (.iconst 0, 1) := by decide +kernel
theorem dX7_forgetMeetings_2 : decode cX7_forgetMeetings 2 = .ok (.putfield 45, 3) := by decide +kernel
theorem dX7_forgetMeetings_5 : decode cX7_forgetMeetings 5 = .ok (.iconst 0, 1) := by decide +kernel
theorem dX7_forgetMeetings_6 : decode cX7_forgetMeetings 6 = .ok (.istore_n 1, 1) := by decide +kernel
theorem dX7_forgetMeetings_7 : decode cX7_forgetMeetings 7 = .ok (.iload_n 1, 1) := by decide +kernel
theorem dX7_forgetMeetings_8 : decode cX7_forgetMeetings 8 = .ok (.bipush 8, 2) := by decide +kernel
theorem dX7_forgetMeetings_10 : decode cX7_forgetMeetings 10 = .ok (.if_icmp .ge 16, 3) := by decide +kernel
theorem dX7_forgetMeetings_13 : decode cX7_forgetMeetings 13 = .ok (.aload_n 0, 1) := by decide +kernel
theorem dX7_forgetMeetings_14 : decode cX7_forgetMeetings 14 = .ok (.getfield 32, 3) := by decide +kernel
theorem dX7_forgetMeetings_17 : decode cX7_forgetMeetings 17 = .ok (.iload_n 1, 1) := by decide +kernel
theorem dX7_forgetMeetings_18 : decode cX7_forgetMeetings 18 = .ok (.iconst 0, 1) := by decide +kernel
theorem dX7_forgetMeetings_19 : decode cX7_forgetMeetings 19 = .ok (.bastore, 1) := by decide +kernel
theorem dX7_forgetMeetings_20 : decode cX7_forgetMeetings 20 = .ok (.iinc 1 1, 3) := by decide +kernel
theorem dX7_forgetMeetings_23 : decode cX7_forgetMeetings 23 = .ok (.goto (-16), 3) := by decide +kernel
theorem dX7_forgetMeetings_26 : decode cX7_forgetMeetings 26 = .ok (.return_, 1) := by decide +kernel
set_option maxRecDepth 20000 in
theorem ggX7_meet_X5_solve : GoodIn wsX7_meet wsX5_solve := goodIn_r _ [11, 12, 13, 14, 15, 16, 17, 18, 19, 20, 21, 22, 23, 24, 25, 26, 27, 28, 29, 30, 31, 32, 33, 34, 35, 36, 37, 38, 10, 39, 40, 41, 42, 43, 44, 45, 46, 77, 78, 79, 80, 81, 82, 83, 84, 85, 86, 87, 67, 68, 69, 70, 71, 72, 73, 74, 75, 76] (by decide +kernel) (by decide +kernel)
set_option maxRecDepth 20000 in
theorem gX7_meet_X5_solve : GoodIn wsX7_meet (wsV RX7 49 RX5 yX5_solve wsX5_solve) := goodIn_app (goodIn_of _ (by decide +kernel)) ggX7_meet_X5_solve
set_option maxRecDepth 20000 in
theorem ggX7_meet_X7_isThere : GoodIn wsX7_meet wsX7_isThere := goodIn_r _ [32, 33, 67, 68, 69, 70, 71, 72, 73, 74, 75, 76] (by decide +kernel) (by decide +kernel)
set_option maxRecDepth 20000 in
theorem gX7_meet_X7_isThere : GoodIn wsX7_meet (wsV RX7 62 RX7 yX7_isThere wsX7_isThere) := goodIn_app (goodIn_of _ (by decide +kernel)) ggX7_meet_X7_isThere
set_option maxRecDepth 20000 in
theorem ggX7_meet_X7_join : GoodIn wsX7_meet wsX7_join := goodIn_r _ [50, 51, 52, 26, 53, 24, 54, 25, 55, 56, 57, 34, 35, 36, 58, 59, 60, 22, 61, 62, 67, 68, 69, 70, 71, 72, 73, 74, 75, 76] (by decide +kernel) (by decide +kernel)
set_option maxRecDepth 20000 in
theorem gX7_meet_X7_join : GoodIn wsX7_meet (wsV RX7 69 RX7 yX7_join wsX7_join) := goodIn_app (goodIn_of _ (by decide +kernel)) ggX7_meet_X7_join
set_option maxRecDepth 20000 in
theorem ggX7_meet_X7_make : GoodIn wsX7_meet wsX7_make := goodIn_r _ [66, 33, 24, 25, 55, 57, 58, 59, 60, 22, 61, 62, 51, 52, 67, 68, 69, 70, 71, 72, 73, 74, 75, 76] (by decide +kernel) (by decide +kernel)
set_option maxRecDepth 20000 in
theorem gX7_meet_X7_make : GoodIn wsX7_meet (wsV RX7 73 RX7 yX7_make wsX7_make) := goodIn_app (goodIn_of _ (by decide +kernel)) ggX7_meet_X7_make
theorem dX7_meet_0 : decode cX7_meet 0 = .ok (.aload_n 0, 1) := by decide +kernel
theorem dX7_meet_1 : decode cX7_meet 1 = .ok (.getfield 41, 3) := by decide +kernel
theorem dX7_meet_4 : decode cX7_meet 4 = .ok (.aload_n 1, 1) := by decide +kernel
theorem dX7_meet_5 : decode cX7_meet 5 = .ok (.aload_n 0, 1) := by decide +kernel
theorem dX7_meet_6 : decode cX7_meet 6 = .ok (.invokevirtual 49, 3) := by decide +kernel
theorem dX7_meet_9 : decode cX7_meet 9 = .ok (.iconst 0, 1) := by decide +kernel
theorem dX7_meet_10 : decode cX7_meet 10 = .ok (.istore_n 2, 1) := by decide +kernel
theorem dX7_meet_11 : decode cX7_meet 11 = .ok (.iload_n 2, 1) := by decide +kernel
theorem dX7_meet_12 : decode cX7_meet 12 = .ok (.iconst 4, 1) := by decide +kernel
theorem dX7_meet_13 : decode cX7_meet 13 = .ok (.if_icmp .ge 83, 3) := by decide +kernel
theorem dX7_meet_16 : decode cX7_meet 16 = .ok (.iload_n 2, 1) := by decide +kernel
theorem dX7_meet_17 : decode cX7_meet 17 = .ok (.aload_n 1, 1) := by decide +kernel
theorem dX7_meet_18 : decode cX7_meet 18 = .ok (.getfield 53, 3) := by decide +kernel
theorem dX7_meet_21 : decode cX7_meet 21 = .ok (.if_icmp .ge 75, 3) := by decide +kernel
theorem dX7_meet_24 : decode cX7_meet 24 = .ok (.aload_n 0, 1) := by decide +kernel
theorem dX7_meet_25 : decode cX7_meet 25 = .ok (.getfield 41, 3) := by decide +kernel
theorem dX7_meet_28 : decode cX7_meet 28 = .ok (.getfield 59, 3) := by decide +kernel
theorem dX7_meet_31 : decode cX7_meet 31 = .ok (.iload_n 2, 1) := by decide +kernel
theorem dX7_meet_32 : decode cX7_meet 32 = .ok (.iaload, 1) := by decide +kernel
theorem dX7_meet_33 : decode cX7_meet 33 = .ok (.istore_n 3, 1) := by decide +kernel
theorem dX7_meet_34 : decode cX7_meet 34 = .ok (.aload_n 0, 1) := by decide +kernel
theorem dX7_meet_35 : decode cX7_meet 35 = .ok (.iload_n 3, 1) := by decide +kernel
theorem dX7_meet_36 : decode cX7_meet 36 = .ok (.invokevirtual 62, 3) := by decide +kernel
theorem dX7_meet_39 : decode cX7_meet 39 = .ok (.ifCond .eq 29, 3) := by decide +kernel
theorem dX7_meet_42 : decode cX7_meet 42 = .ok (.aload_n 0, 1) := by decide +kernel
theorem dX7_meet_43 : decode cX7_meet 43 = .ok (.iload_n 3, 1) := by decide +kernel
theorem dX7_meet_44 : decode cX7_meet 44 = .ok (.aload_n 1, 1) := by decide +kernel
theorem dX7_meet_45 : decode cX7_meet 45 = .ok (.getfield 66, 3) := by decide +kernel
theorem dX7_meet_48 : decode cX7_meet 48 = .ok (.iload_n 2, 1) := by decide +kernel
theorem dX7_meet_49 : decode cX7_meet 49 = .ok (.daload, 1) := by decide +kernel
theorem dX7_meet_50 : decode cX7_meet 50 = .ok (.aload_n 1, 1) := by decide +kernel
theorem dX7_meet_51 : decode cX7_meet 51 = .ok (.getfield 67, 3) := by decide +kernel
theorem dX7_meet_54 : decode cX7_meet 54 = .ok (.iload_n 2, 1) := by decide +kernel
theorem dX7_meet_55 : decode cX7_meet 55 = .ok (.daload, 1) := by decide +kernel
theorem dX7_meet_56 : decode cX7_meet 56 = .ok (.aload_n 1, 1) := by decide +kernel
theorem dX7_meet_57 : decode cX7_meet 57 = .ok (.getfield 68, 3) := by decide +kernel
theorem dX7_meet_60 : decode cX7_meet 60 = .ok (.iload_n 2, 1) := by decide +kernel
theorem dX7_meet_61 : decode cX7_meet 61 = .ok (.daload, 1) := by decide +kernel
theorem dX7_meet_62 : decode cX7_meet 62 = .ok (.invokevirtual 69, 3) := by decide +kernel
theorem dX7_meet_65 : decode cX7_meet 65 = .ok (.goto 25, 3) := by decide +kernel
theorem dX7_meet_68 : decode cX7_meet 68 = .ok (.aload_n 0, 1) := by decide +kernel
theorem dX7_meet_69 : decode cX7_meet 69 = .ok (.aload_n 1, 1) := by decide +kernel
theorem dX7_meet_70 : decode cX7_meet 70 = .ok (.getfield 66, 3) := by decide +kernel
theorem dX7_meet_73 : decode cX7_meet 73 = .ok (.iload_n 2, 1) := by decide +kernel
theorem dX7_meet_74 : decode cX7_meet 74 = .ok (.daload, 1) := by decide +kernel
theorem dX7_meet_75 : decode cX7_meet 75 = .ok (.aload_n 1, 1) := by decide +kernel
theorem dX7_meet_76 : decode cX7_meet 76 = .ok (.getfield 67, 3) := by decide +kernel
theorem dX7_meet_79 : decode cX7_meet 79 = .ok (.iload_n 2, 1) := by decide +kernel
theorem dX7_meet_80 : decode cX7_meet 80 = .ok (.daload, 1) := by decide +kernel
theorem dX7_meet_81 : decode cX7_meet 81 = .ok (.aload_n 1, 1) := by decide +kernel
theorem dX7_meet_82 : decode cX7_meet 82 = .ok (.getfield 68, 3) := by decide +kernel
theorem dX7_meet_85 : decode cX7_meet 85 = .ok (.iload_n 2, 1) := by decide +kernel
theorem dX7_meet_86 : decode cX7_meet 86 = .ok (.daload, 1) := by decide +kernel
theorem dX7_meet_87 : decode cX7_meet 87 = .ok (.invokevirtual 73, 3) := by decide +kernel
theorem dX7_meet_90 : decode cX7_meet 90 = .ok (.iinc 2 1, 3) := by decide +kernel
theorem dX7_meet_93 : decode cX7_meet 93 = .ok (.goto (-82), 3) := by decide +kernel
theorem dX7_meet_96 : decode cX7_meet 96 = .ok (.return_, 1) := by decide +kernel
set_option maxRecDepth 20000 in
theorem ggX7_cost_X7_isThere : GoodIn wsX7_cost wsX7_isThere := goodIn_r _ [10, 11, 15, 16, 17, 18, 19, 20, 21, 22, 23, 24] (by decide +kernel) (by decide +kernel)
set_option maxRecDepth 20000 in
theorem gX7_cost_X7_isThere : GoodIn wsX7_cost (wsV RX7 62 RX7 yX7_isThere wsX7_isThere) := goodIn_app (goodIn_of _ (by decide +kernel)) ggX7_cost_X7_isThere
set_option maxRecDepth 20000 in
theorem ggX7_cost_X8_magnitude : GoodIn wsX7_cost wsX8_magnitude := goodIn_r _ [14] (by decide +kernel) (by decide +kernel)
set_option maxRecDepth 20000 in
theorem gX7_cost_X8_magnitude_n77 : GoodIn wsX7_cost (wsX8_magnitude) := ggX7_cost_X8_magnitude
theorem dX7_cost_0 : decode cX7_cost 0 = .ok (.aload_n 0, 1) := by decide +kernel
theorem dX7_cost_1 : decode cX7_cost 1 = .ok (.iload_n 1, 1) := by decide +kernel
theorem dX7_cost_2 : decode cX7_cost 2 = .ok (.invokevirtual 62, 3) := by decide +kernel
theorem dX7_cost_5 : decode cX7_cost 5 = .ok (.ifCond .ne 5, 3) := by decide +kernel
theorem dX7_cost_8 : decode cX7_cost 8 = .ok (.iconst (-1), 1) := by decide +kernel
theorem dX7_cost_9 : decode cX7_cost 9 = .ok (.ireturn, 1) := by decide +kernel
theorem dX7_cost_10 : decode cX7_cost 10 = .ok (.dload_n 2, 1) := by decide +kernel
theorem dX7_cost_11 : decode cX7_cost 11 = .ok (.aload_n 0, 1) := by decide +kernel
theorem dX7_cost_12 : decode cX7_cost 12 = .ok (.getfield 15, 3) := by decide +kernel
theorem dX7_cost_15 : decode cX7_cost 15 = .ok (.iload_n 1, 1) := by decide +kernel
theorem dX7_cost_16 : decode cX7_cost 16 = .ok (.daload, 1) := by decide +kernel
theorem dX7_cost_17 : decode cX7_cost 17 = .ok (.dsub, 1) := by decide +kernel
theorem dX7_cost_18 : decode cX7_cost 18 = .ok (.invokestatic 77, 3) := by decide +kernel
theorem dX7_cost_21 : decode cX7_cost 21 = .ok (.dstore 6, 2) := by decide +kernel
theorem dX7_cost_23 : decode cX7_cost 23 = .ok (.dload 4, 2) := by decide +kernel
theorem dX7_cost_25 : decode cX7_cost 25 = .ok (.aload_n 0, 1) := by decide +kernel
theorem dX7_cost_26 : decode cX7_cost 26 = .ok (.getfield 19, 3) := by decide +kernel
theorem dX7_cost_29 : decode cX7_cost 29 = .ok (.iload_n 1, 1) := by decide +kernel
theorem dX7_cost_30 : decode cX7_cost 30 = .ok (.daload, 1) := by decide +kernel
theorem dX7_cost_31 : decode cX7_cost 31 = .ok (.dsub, 1) := by decide +kernel
theorem dX7_cost_32 : decode cX7_cost 32 = .ok (.invokestatic 77, 3) := by decide +kernel
theorem dX7_cost_35 : decode cX7_cost 35 = .ok (.dstore 8, 2) := by decide +kernel
theorem dX7_cost_37 : decode cX7_cost 37 = .ok (.dload 6, 2) := by decide +kernel
theorem dX7_cost_39 : decode cX7_cost 39 = .ok (.ldc2_w 81, 3) := by decide +kernel
theorem dX7_cost_42 : decode cX7_cost 42 = .ok (.dcmp .l, 1) := by decide +kernel
theorem dX7_cost_43 : decode cX7_cost 43 = .ok (.ifCond .gt 12, 3) := by decide +kernel
theorem dX7_cost_46 : decode cX7_cost 46 = .ok (.dload 8, 2) := by decide +kernel
theorem dX7_cost_48 : decode cX7_cost 48 = .ok (.ldc2_w 83, 3) := by decide +kernel
theorem dX7_cost_51 : decode cX7_cost 51 = .ok (.dcmp .l, 1) := by decide +kernel
theorem dX7_cost_52 : decode cX7_cost 52 = .ok (.ifCond .le 5, 3) := by decide +kernel
theorem dX7_cost_55 : decode cX7_cost 55 = .ok (.iconst (-1), 1) := by decide +kernel
theorem dX7_cost_56 : decode cX7_cost 56 = .ok (.ireturn, 1) := by decide +kernel
theorem dX7_cost_57 : decode cX7_cost 57 = .ok (.ldc2_w 85, 3) := by decide +kernel
theorem dX7_cost_60 : decode cX7_cost 60 = .ok (.dload 6, 2) := by decide +kernel
theorem dX7_cost_62 : decode cX7_cost 62 = .ok (.dmul, 1) := by decide +kernel
theorem dX7_cost_63 : decode cX7_cost 63 = .ok (.ldc2_w 85, 3) := by decide +kernel
theorem dX7_cost_66 : decode cX7_cost 66 = .ok (.dload 8, 2) := by decide +kernel
theorem dX7_cost_68 : decode cX7_cost 68 = .ok (.dmul, 1) := by decide +kernel
theorem dX7_cost_69 : decode cX7_cost 69 = .ok (.dadd, 1) := by decide +kernel
theorem dX7_cost_70 : decode cX7_cost 70 = .ok (.d2i, 1) := by decide +kernel
theorem dX7_cost_71 : decode cX7_cost 71 = .ok (.ireturn, 1) := by decide +kernel
set_option maxRecDepth 20000 in
theorem ggX7_join_X8_magnitude : GoodIn wsX7_join wsX8_magnitude := goodIn_r _ [13] (by decide +kernel) (by decide +kernel)
set_option maxRecDepth 20000 in
theorem gX7_join_X8_magnitude_n77 : GoodIn wsX7_join (wsX8_magnitude) := ggX7_join_X8_magnitude
set_option maxRecDepth 20000 in
theorem ggX7_join_X7_meeting : GoodIn wsX7_join wsX7_meeting := goodIn_r _ [18, 19, 1, 2, 20, 21, 22, 23, 24, 25, 26, 27, 28, 29] (by decide +kernel) (by decide +kernel)
set_option maxRecDepth 20000 in
theorem gX7_join_X7_meeting : GoodIn wsX7_join (wsV RX7 91 RX7 yX7_meeting wsX7_meeting) := goodIn_app (goodIn_of _ (by decide +kernel)) ggX7_join_X7_meeting
theorem dX7_join_0 : decode cX7_join 0 = .ok (.aload_n 0, 1) := by decide +kernel
theorem dX7_join_1 : decode cX7_join 1 = .ok (.getfield 32, 3) := by decide +kernel
theorem dX7_join_4 : decode cX7_join 4 = .ok (.iload_n 1, 1) := by decide +kernel
theorem dX7_join_5 : decode cX7_join 5 = .ok (.baload, 1) := by decide +kernel
theorem dX7_join_6 : decode cX7_join 6 = .ok (.ifCond .eq 27, 3) := by decide +kernel
theorem dX7_join_9 : decode cX7_join 9 = .ok (.aload_n 0, 1) := by decide +kernel
theorem dX7_join_10 : decode cX7_join 10 = .ok (.getfield 35, 3) := by decide +kernel
theorem dX7_join_13 : decode cX7_join 13 = .ok (.iload_n 1, 1) := by decide +kernel
theorem dX7_join_14 : decode cX7_join 14 = .ok (.daload, 1) := by decide +kernel
theorem dX7_join_15 : decode cX7_join 15 = .ok (.dload 6, 2) := by decide +kernel
theorem dX7_join_17 : decode cX7_join 17 = .ok (.dsub, 1) := by decide +kernel
theorem dX7_join_18 : decode cX7_join 18 = .ok (.invokestatic 77, 3) := by decide +kernel
theorem dX7_join_21 : decode cX7_join 21 = .ok (.ldc2_w 81, 3) := by decide +kernel
theorem dX7_join_24 : decode cX7_join 24 = .ok (.dcmp .l, 1) := by decide +kernel
theorem dX7_join_25 : decode cX7_join 25 = .ok (.ifCond .le 8, 3) := by decide +kernel
theorem dX7_join_28 : decode cX7_join 28 = .ok (.aload_n 0, 1) := by decide +kernel
theorem dX7_join_29 : decode cX7_join 29 = .ok (.iconst 1, 1) := by decide +kernel
theorem dX7_join_30 : decode cX7_join 30 = .ok (.putfield 45, 3) := by decide +kernel
theorem dX7_join_33 : decode cX7_join 33 = .ok (.aload_n 0, 1) := by decide +kernel
theorem dX7_join_34 : decode cX7_join 34 = .ok (.getfield 15, 3) := by decide +kernel
theorem dX7_join_37 : decode cX7_join 37 = .ok (.iload_n 1, 1) := by decide +kernel
theorem dX7_join_38 : decode cX7_join 38 = .ok (.aload_n 0, 1) := by decide +kernel
theorem dX7_join_39 : decode cX7_join 39 = .ok (.getfield 15, 3) := by decide +kernel
theorem dX7_join_42 : decode cX7_join 42 = .ok (.iload_n 1, 1) := by decide +kernel
theorem dX7_join_43 : decode cX7_join 43 = .ok (.daload, 1) := by decide +kernel
theorem dX7_join_44 : decode cX7_join 44 = .ok (.ldc2_w 87, 3) := by decide +kernel
theorem dX7_join_47 : decode cX7_join 47 = .ok (.dload_n 2, 1) := by decide +kernel
theorem dX7_join_48 : decode cX7_join 48 = .ok (.aload_n 0, 1) := by decide +kernel
theorem dX7_join_49 : decode cX7_join 49 = .ok (.getfield 15, 3) := by decide +kernel
theorem dX7_join_52 : decode cX7_join 52 = .ok (.iload_n 1, 1) := by decide +kernel
theorem dX7_join_53 : decode cX7_join 53 = .ok (.daload, 1) := by decide +kernel
theorem dX7_join_54 : decode cX7_join 54 = .ok (.dsub, 1) := by decide +kernel
theorem dX7_join_55 : decode cX7_join 55 = .ok (.dmul, 1) := by decide +kernel
theorem dX7_join_56 : decode cX7_join 56 = .ok (.dadd, 1) := by decide +kernel
theorem dX7_join_57 : decode cX7_join 57 = .ok (.dastore, 1) := by decide +kernel
theorem dX7_join_58 : decode cX7_join 58 = .ok (.aload_n 0, 1) := by decide +kernel
theorem dX7_join_59 : decode cX7_join 59 = .ok (.getfield 19, 3) := by decide +kernel
theorem dX7_join_62 : decode cX7_join 62 = .ok (.iload_n 1, 1) := by decide +kernel
theorem dX7_join_63 : decode cX7_join 63 = .ok (.aload_n 0, 1) := by decide +kernel
theorem dX7_join_64 : decode cX7_join 64 = .ok (.getfield 19, 3) := by decide +kernel
theorem dX7_join_67 : decode cX7_join 67 = .ok (.iload_n 1, 1) := by decide +kernel
theorem dX7_join_68 : decode cX7_join 68 = .ok (.daload, 1) := by decide +kernel
theorem dX7_join_69 : decode cX7_join 69 = .ok (.ldc2_w 87, 3) := by decide +kernel
theorem dX7_join_72 : decode cX7_join 72 = .ok (.dload 4, 2) := by decide +kernel
theorem dX7_join_74 : decode cX7_join 74 = .ok (.aload_n 0, 1) := by decide +kernel
theorem dX7_join_75 : decode cX7_join 75 = .ok (.getfield 19, 3) := by decide +kernel
theorem dX7_join_78 : decode cX7_join 78 = .ok (.iload_n 1, 1) := by decide +kernel
theorem dX7_join_79 : decode cX7_join 79 = .ok (.daload, 1) := by decide +kernel
theorem dX7_join_80 : decode cX7_join 80 = .ok (.dsub, 1) := by decide +kernel
theorem dX7_join_81 : decode cX7_join 81 = .ok (.dmul, 1) := by decide +kernel
theorem dX7_join_82 : decode cX7_join 82 = .ok (.dadd, 1) := by decide +kernel
theorem dX7_join_83 : decode cX7_join 83 = .ok (.dastore, 1) := by decide +kernel
theorem dX7_join_84 : decode cX7_join 84 = .ok (.aload_n 0, 1) := by decide +kernel
theorem dX7_join_85 : decode cX7_join 85 = .ok (.getfield 22, 3) := by decide +kernel
theorem dX7_join_88 : decode cX7_join 88 = .ok (.iload_n 1, 1) := by decide +kernel
theorem dX7_join_89 : decode cX7_join 89 = .ok (.aload_n 0, 1) := by decide +kernel
theorem dX7_join_90 : decode cX7_join 90 = .ok (.getfield 22, 3) := by decide +kernel
theorem dX7_join_93 : decode cX7_join 93 = .ok (.iload_n 1, 1) := by decide +kernel
theorem dX7_join_94 : decode cX7_join 94 = .ok (.daload, 1) := by decide +kernel
theorem dX7_join_95 : decode cX7_join 95 = .ok (.ldc2_w 89, 3) := by decide +kernel
theorem dX7_join_98 : decode cX7_join 98 = .ok (.dload 6, 2) := by decide +kernel
theorem dX7_join_100 : decode cX7_join 100 = .ok (.aload_n 0, 1) := by decide +kernel
theorem dX7_join_101 : decode cX7_join 101 = .ok (.getfield 22, 3) := by decide +kernel
theorem dX7_join_104 : decode cX7_join 104 = .ok (.iload_n 1, 1) := by decide +kernel
theorem dX7_join_105 : decode cX7_join 105 = .ok (.daload, 1) := by decide +kernel
theorem dX7_join_106 : decode cX7_join 106 = .ok (.dsub, 1) := by decide +kernel
theorem dX7_join_107 : decode cX7_join 107 = .ok (.dmul, 1) := by decide +kernel
theorem dX7_join_108 : decode cX7_join 108 = .ok (.dadd, 1) := by decide +kernel
theorem dX7_join_109 : decode cX7_join 109 = .ok (.dastore, 1) := by decide +kernel
theorem dX7_join_110 : decode cX7_join 110 = .ok (.aload_n 0, 1) := by decide +kernel
theorem dX7_join_111 : decode cX7_join 111 = .ok (.getfield 25, 3) := by decide +kernel
theorem dX7_join_114 : decode cX7_join 114 = .ok (.iload_n 1, 1) := by decide +kernel
theorem dX7_join_115 : decode cX7_join 115 = .ok (.aload_n 0, 1) := by decide +kernel
theorem dX7_join_116 : decode cX7_join 116 = .ok (.getfield 25, 3) := by decide +kernel
theorem dX7_join_119 : decode cX7_join 119 = .ok (.iload_n 1, 1) := by decide +kernel
theorem dX7_join_120 : decode cX7_join 120 = .ok (.iaload, 1) := by decide +kernel
theorem dX7_join_121 : decode cX7_join 121 = .ok (.iconst 5, 1) := by decide +kernel
theorem dX7_join_122 : decode cX7_join 122 = .ok (.if_icmp .ge 14, 3) := by decide +kernel
theorem dX7_join_125 : decode cX7_join 125 = .ok (.aload_n 0, 1) := by decide +kernel
theorem dX7_join_126 : decode cX7_join 126 = .ok (.getfield 25, 3) := by decide +kernel
theorem dX7_join_129 : decode cX7_join 129 = .ok (.iload_n 1, 1) := by decide +kernel
theorem dX7_join_130 : decode cX7_join 130 = .ok (.iaload, 1) := by decide +kernel
theorem dX7_join_131 : decode cX7_join 131 = .ok (.iconst 1, 1) := by decide +kernel
theorem dX7_join_132 : decode cX7_join 132 = .ok (.iadd, 1) := by decide +kernel
theorem dX7_join_133 : decode cX7_join 133 = .ok (.goto 4, 3) := by decide +kernel
theorem dX7_join_136 : decode cX7_join 136 = .ok (.iconst 5, 1) := by decide +kernel
theorem dX7_join_137 : decode cX7_join 137 = .ok (.iastore, 1) := by decide +kernel
theorem dX7_join_138 : decode cX7_join 138 = .ok (.aload_n 0, 1) := by decide +kernel
theorem dX7_join_139 : decode cX7_join 139 = .ok (.iload_n 1, 1) := by decide +kernel
theorem dX7_join_140 : decode cX7_join 140 = .ok (.dload 6, 2) := by decide +kernel
theorem dX7_join_142 : decode cX7_join 142 = .ok (.invokevirtual 91, 3) := by decide +kernel
theorem dX7_join_145 : decode cX7_join 145 = .ok (.return_, 1) := by decide +kernel
set_option maxRecDepth 20000 in
theorem ggX7_make_X7_meeting : GoodIn wsX7_make wsX7_meeting := goodIn_r _ [10, 11, 12, 13, 14, 15, 16, 17, 18, 19, 20, 21, 22, 23] (by decide +kernel) (by decide +kernel)
set_option maxRecDepth 20000 in
theorem gX7_make_X7_meeting : GoodIn wsX7_make (wsV RX7 91 RX7 yX7_meeting wsX7_meeting) := goodIn_app (goodIn_of _ (by decide +kernel)) ggX7_make_X7_meeting
theorem dX7_make_0 : decode cX7_make 0 = .ok (.iconst 0, 1) := by decide +kernel
theorem dX7_make_1 : decode cX7_make 1 = .ok (.istore 7, 2) := by decide +kernel
theorem dX7_make_3 : decode cX7_make 3 = .ok (.iload 7, 2) := by decide +kernel
theorem dX7_make_5 : decode cX7_make 5 = .ok (.bipush 8, 2) := by decide +kernel
theorem dX7_make_7 : decode cX7_make 7 = .ok (.if_icmp .ge 69, 3) := by decide +kernel
theorem dX7_make_10 : decode cX7_make 10 = .ok (.aload_n 0, 1) := by decide +kernel
theorem dX7_make_11 : decode cX7_make 11 = .ok (.getfield 9, 3) := by decide +kernel
theorem dX7_make_14 : decode cX7_make 14 = .ok (.iload 7, 2) := by decide +kernel
theorem dX7_make_16 : decode cX7_make 16 = .ok (.baload, 1) := by decide +kernel
theorem dX7_make_17 : decode cX7_make 17 = .ok (.ifCond .ne 53, 3) := by decide +kernel
theorem dX7_make_20 : decode cX7_make 20 = .ok (.aload_n 0, 1) := by decide +kernel
theorem dX7_make_21 : decode cX7_make 21 = .ok (.getfield 9, 3) := by decide +kernel
theorem dX7_make_24 : decode cX7_make 24 = .ok (.iload 7, 2) := by decide +kernel
theorem dX7_make_26 : decode cX7_make 26 = .ok (.iconst 1, 1) := by decide +kernel
theorem dX7_make_27 : decode cX7_make 27 = .ok (.bastore, 1) := by decide +kernel
theorem dX7_make_28 : decode cX7_make 28 = .ok (.aload_n 0, 1) := by decide +kernel
theorem dX7_make_29 : decode cX7_make 29 = .ok (.getfield 15, 3) := by decide +kernel
theorem dX7_make_32 : decode cX7_make 32 = .ok (.iload 7, 2) := by decide +kernel
theorem dX7_make_34 : decode cX7_make 34 = .ok (.dload_n 1, 1) := by decide +kernel
theorem dX7_make_35 : decode cX7_make 35 = .ok (.dastore, 1) := by decide +kernel
theorem dX7_make_36 : decode cX7_make 36 = .ok (.aload_n 0, 1) := by decide +kernel
theorem dX7_make_37 : decode cX7_make 37 = .ok (.getfield 19, 3) := by decide +kernel
theorem dX7_make_40 : decode cX7_make 40 = .ok (.iload 7, 2) := by decide +kernel
theorem dX7_make_42 : decode cX7_make 42 = .ok (.dload_n 3, 1) := by decide +kernel
theorem dX7_make_43 : decode cX7_make 43 = .ok (.dastore, 1) := by decide +kernel
theorem dX7_make_44 : decode cX7_make 44 = .ok (.aload_n 0, 1) := by decide +kernel
theorem dX7_make_45 : decode cX7_make 45 = .ok (.getfield 22, 3) := by decide +kernel
theorem dX7_make_48 : decode cX7_make 48 = .ok (.iload 7, 2) := by decide +kernel
theorem dX7_make_50 : decode cX7_make 50 = .ok (.dload 5, 2) := by decide +kernel
theorem dX7_make_52 : decode cX7_make 52 = .ok (.dastore, 1) := by decide +kernel
theorem dX7_make_53 : decode cX7_make 53 = .ok (.aload_n 0, 1) := by decide +kernel
theorem dX7_make_54 : decode cX7_make 54 = .ok (.getfield 25, 3) := by decide +kernel
theorem dX7_make_57 : decode cX7_make 57 = .ok (.iload 7, 2) := by decide +kernel
theorem dX7_make_59 : decode cX7_make 59 = .ok (.iconst 1, 1) := by decide +kernel
theorem dX7_make_60 : decode cX7_make 60 = .ok (.iastore, 1) := by decide +kernel
theorem dX7_make_61 : decode cX7_make 61 = .ok (.aload_n 0, 1) := by decide +kernel
theorem dX7_make_62 : decode cX7_make 62 = .ok (.iload 7, 2) := by decide +kernel
theorem dX7_make_64 : decode cX7_make 64 = .ok (.dload 5, 2) := by decide +kernel
theorem dX7_make_66 : decode cX7_make 66 = .ok (.invokevirtual 91, 3) := by decide +kernel
theorem dX7_make_69 : decode cX7_make 69 = .ok (.return_, 1) := by decide +kernel
theorem dX7_make_70 : decode cX7_make 70 = .ok (.iinc 7 1, 3) := by decide +kernel
theorem dX7_make_73 : decode cX7_make 73 = .ok (.goto (-70), 3) := by decide +kernel
theorem dX7_make_76 : decode cX7_make 76 = .ok (.return_, 1) := by decide +kernel
theorem dX7_meeting_0 : decode cX7_meeting 0 = .ok (.aload_n 0, 1) := by decide +kernel
theorem dX7_meeting_1 : decode cX7_meeting 1 = .ok (.getfield 29, 3) := by decide +kernel
theorem dX7_meeting_4 : decode cX7_meeting 4 = .ok (.iload_n 1, 1) := by decide +kernel
theorem dX7_meeting_5 : decode cX7_meeting 5 = .ok (.iconst 0, 1) := by decide +kernel
theorem dX7_meeting_6 : decode cX7_meeting 6 = .ok (.iastore, 1) := by decide +kernel
theorem dX7_meeting_7 : decode cX7_meeting 7 = .ok (.aload_n 0, 1) := by decide +kernel
theorem dX7_meeting_8 : decode cX7_meeting 8 = .ok (.getfield 32, 3) := by decide +kernel
theorem dX7_meeting_11 : decode cX7_meeting 11 = .ok (.iload_n 1, 1) := by decide +kernel
theorem dX7_meeting_12 : decode cX7_meeting 12 = .ok (.iconst 1, 1) := by decide +kernel
theorem dX7_meeting_13 : decode cX7_meeting 13 = .ok (.bastore, 1) := by decide +kernel
theorem dX7_meeting_14 : decode cX7_meeting 14 = .ok (.aload_n 0, 1) := by decide +kernel
theorem dX7_meeting_15 : decode cX7_meeting 15 = .ok (.getfield 35, 3) := by decide +kernel
theorem dX7_meeting_18 : decode cX7_meeting 18 = .ok (.iload_n 1, 1) := by decide +kernel
theorem dX7_meeting_19 : decode cX7_meeting 19 = .ok (.dload_n 2, 1) := by decide +kernel
theorem dX7_meeting_20 : decode cX7_meeting 20 = .ok (.dastore, 1) := by decide +kernel
theorem dX7_meeting_21 : decode cX7_meeting 21 = .ok (.return_, 1) := by decide +kernel
theorem dX7_age_0 : decode cX7_age 0 = .ok (.iconst 0, 1) := by decide +kernel
theorem dX7_age_1 : decode cX7_age 1 = .ok (.istore_n 1, 1) := by decide +kernel
theorem dX7_age_2 : decode cX7_age 2 = .ok (.iload_n 1, 1) := by decide +kernel
theorem dX7_age_3 : decode cX7_age 3 = .ok (.bipush 8, 2) := by decide +kernel
theorem dX7_age_5 : decode cX7_age 5 = .ok (.if_icmp .ge 110, 3) := by decide +kernel
theorem dX7_age_8 : decode cX7_age 8 = .ok (.aload_n 0, 1) := by decide +kernel
theorem dX7_age_9 : decode cX7_age 9 = .ok (.getfield 9, 3) := by decide +kernel
theorem dX7_age_12 : decode cX7_age 12 = .ok (.iload_n 1, 1) := by decide +kernel
theorem dX7_age_13 : decode cX7_age 13 = .ok (.baload, 1) := by decide +kernel
theorem dX7_age_14 : decode cX7_age 14 = .ok (.ifCond .eq 54, 3) := by decide +kernel
theorem dX7_age_17 : decode cX7_age 17 = .ok (.aload_n 0, 1) := by decide +kernel
theorem dX7_age_18 : decode cX7_age 18 = .ok (.getfield 32, 3) := by decide +kernel
theorem dX7_age_21 : decode cX7_age 21 = .ok (.iload_n 1, 1) := by decide +kernel
theorem dX7_age_22 : decode cX7_age 22 = .ok (.baload, 1) := by decide +kernel
theorem dX7_age_23 : decode cX7_age 23 = .ok (.ifCond .ne 45, 3) := by decide +kernel
theorem dX7_age_26 : decode cX7_age 26 = .ok (.aload_n 0, 1) := by decide +kernel
theorem dX7_age_27 : decode cX7_age 27 = .ok (.getfield 29, 3) := by decide +kernel
theorem dX7_age_30 : decode cX7_age 30 = .ok (.iload_n 1, 1) := by decide +kernel
theorem dX7_age_31 : decode cX7_age 31 = .ok (.aload_n 0, 1) := by decide +kernel
theorem dX7_age_32 : decode cX7_age 32 = .ok (.getfield 29, 3) := by decide +kernel
theorem dX7_age_35 : decode cX7_age 35 = .ok (.iload_n 1, 1) := by decide +kernel
theorem dX7_age_36 : decode cX7_age 36 = .ok (.iaload, 1) := by decide +kernel
theorem dX7_age_37 : decode cX7_age 37 = .ok (.iconst 1, 1) := by decide +kernel
theorem dX7_age_38 : decode cX7_age 38 = .ok (.iadd, 1) := by decide +kernel
theorem dX7_age_39 : decode cX7_age 39 = .ok (.iastore, 1) := by decide +kernel
theorem dX7_age_40 : decode cX7_age 40 = .ok (.aload_n 0, 1) := by decide +kernel
theorem dX7_age_41 : decode cX7_age 41 = .ok (.getfield 25, 3) := by decide +kernel
theorem dX7_age_44 : decode cX7_age 44 = .ok (.iload_n 1, 1) := by decide +kernel
theorem dX7_age_45 : decode cX7_age 45 = .ok (.aload_n 0, 1) := by decide +kernel
theorem dX7_age_46 : decode cX7_age 46 = .ok (.getfield 25, 3) := by decide +kernel
theorem dX7_age_49 : decode cX7_age 49 = .ok (.iload_n 1, 1) := by decide +kernel
theorem dX7_age_50 : decode cX7_age 50 = .ok (.iaload, 1) := by decide +kernel
theorem dX7_age_51 : decode cX7_age 51 = .ok (.iconst 1, 1) := by decide +kernel
theorem dX7_age_52 : decode cX7_age 52 = .ok (.if_icmp .le 14, 3) := by decide +kernel
theorem dX7_age_55 : decode cX7_age 55 = .ok (.aload_n 0, 1) := by decide +kernel
theorem dX7_age_56 : decode cX7_age 56 = .ok (.getfield 25, 3) := by decide +kernel
theorem dX7_age_59 : decode cX7_age 59 = .ok (.iload_n 1, 1) := by decide +kernel
theorem dX7_age_60 : decode cX7_age 60 = .ok (.iaload, 1) := by decide +kernel
theorem dX7_age_61 : decode cX7_age 61 = .ok (.iconst 1, 1) := by decide +kernel
theorem dX7_age_62 : decode cX7_age 62 = .ok (.isub, 1) := by decide +kernel
theorem dX7_age_63 : decode cX7_age 63 = .ok (.goto 4, 3) := by decide +kernel
theorem dX7_age_66 : decode cX7_age 66 = .ok (.iconst 1, 1) := by decide +kernel
theorem dX7_age_67 : decode cX7_age 67 = .ok (.iastore, 1) := by decide +kernel
theorem dX7_age_68 : decode cX7_age 68 = .ok (.aload_n 0, 1) := by decide +kernel
theorem dX7_age_69 : decode cX7_age 69 = .ok (.getfield 29, 3) := by decide +kernel
theorem dX7_age_72 : decode cX7_age 72 = .ok (.iload_n 1, 1) := by decide +kernel
theorem dX7_age_73 : decode cX7_age 73 = .ok (.iaload, 1) := by decide +kernel
theorem dX7_age_74 : decode cX7_age 74 = .ok (.iconst 4, 1) := by decide +kernel
theorem dX7_age_75 : decode cX7_age 75 = .ok (.if_icmp .ge 27, 3) := by decide +kernel
theorem dX7_age_78 : decode cX7_age 78 = .ok (.aload_n 0, 1) := by decide +kernel
theorem dX7_age_79 : decode cX7_age 79 = .ok (.getfield 15, 3) := by decide +kernel
theorem dX7_age_82 : decode cX7_age 82 = .ok (.iload_n 1, 1) := by decide +kernel
theorem dX7_age_83 : decode cX7_age 83 = .ok (.daload, 1) := by decide +kernel
theorem dX7_age_84 : decode cX7_age 84 = .ok (.dconst 0, 1) := by decide +kernel
theorem dX7_age_85 : decode cX7_age 85 = .ok (.dcmp .g, 1) := by decide +kernel
theorem dX7_age_86 : decode cX7_age 86 = .ok (.ifCond .lt 16, 3) := by decide +kernel
theorem dX7_age_89 : decode cX7_age 89 = .ok (.aload_n 0, 1) := by decide +kernel
theorem dX7_age_90 : decode cX7_age 90 = .ok (.getfield 15, 3) := by decide +kernel
theorem dX7_age_93 : decode cX7_age 93 = .ok (.iload_n 1, 1) := by decide +kernel
theorem dX7_age_94 : decode cX7_age 94 = .ok (.daload, 1) := by decide +kernel
theorem dX7_age_95 : decode cX7_age 95 = .ok (.ldc2_w 95, 3) := by decide +kernel
theorem dX7_age_98 : decode cX7_age 98 = .ok (.dcmp .l, 1) := by decide +kernel
theorem dX7_age_99 : decode cX7_age 99 = .ok (.ifCond .le 10, 3) := by decide +kernel
theorem dX7_age_102 : decode cX7_age 102 = .ok (.aload_n 0, 1) := by decide +kernel
theorem dX7_age_103 : decode cX7_age 103 = .ok (.getfield 9, 3) := by decide +kernel
theorem dX7_age_106 : decode cX7_age 106 = .ok (.iload_n 1, 1) := by decide +kernel
theorem dX7_age_107 : decode cX7_age 107 = .ok (.iconst 0, 1) := by decide +kernel
theorem dX7_age_108 : decode cX7_age 108 = .ok (.bastore, 1) := by decide +kernel
theorem dX7_age_109 : decode cX7_age 109 = .ok (.iinc 1 1, 3) := by decide +kernel
theorem dX7_age_112 : decode cX7_age 112 = .ok (.goto (-110), 3) := by decide +kernel
theorem dX7_age_115 : decode cX7_age 115 = .ok (.return_, 1) := by decide +kernel
set_option maxRecDepth 20000 in
theorem ggX7_leadOn_X2_middle : GoodIn wsX7_leadOn wsX2_middle := goodIn_r _ [10, 11, 12, 13, 27, 28, 29] (by decide +kernel) (by decide +kernel)
set_option maxRecDepth 20000 in
theorem gX7_leadOn_X2_middle : GoodIn wsX7_leadOn (wsV RX7 97 RX2 yX2_middle wsX2_middle) := goodIn_app (goodIn_of _ (by decide +kernel)) ggX7_leadOn_X2_middle
set_option maxRecDepth 20000 in
theorem ggX7_leadOn_X8_magnitude : GoodIn wsX7_leadOn wsX8_magnitude := goodIn_r _ [16] (by decide +kernel) (by decide +kernel)
set_option maxRecDepth 20000 in
theorem gX7_leadOn_X8_magnitude_n77 : GoodIn wsX7_leadOn (wsX8_magnitude) := ggX7_leadOn_X8_magnitude
theorem dX7_leadOn_0 : decode cX7_leadOn 0 = .ok (.iconst (-1), 1) := by decide +kernel
theorem dX7_leadOn_1 : decode cX7_leadOn 1 = .ok (.istore_n 2, 1) := by decide +kernel
theorem dX7_leadOn_2 : decode cX7_leadOn 2 = .ok (.dconst 0, 1) := by decide +kernel
theorem dX7_leadOn_3 : decode cX7_leadOn 3 = .ok (.dstore_n 3, 1) := by decide +kernel
theorem dX7_leadOn_4 : decode cX7_leadOn 4 = .ok (.iconst 0, 1) := by decide +kernel
theorem dX7_leadOn_5 : decode cX7_leadOn 5 = .ok (.istore 5, 2) := by decide +kernel
theorem dX7_leadOn_7 : decode cX7_leadOn 7 = .ok (.iload 5, 2) := by decide +kernel
theorem dX7_leadOn_9 : decode cX7_leadOn 9 = .ok (.bipush 8, 2) := by decide +kernel
theorem dX7_leadOn_11 : decode cX7_leadOn 11 = .ok (.if_icmp .ge 99, 3) := by decide +kernel
theorem dX7_leadOn_14 : decode cX7_leadOn 14 = .ok (.aload_n 0, 1) := by decide +kernel
theorem dX7_leadOn_15 : decode cX7_leadOn 15 = .ok (.getfield 9, 3) := by decide +kernel
theorem dX7_leadOn_18 : decode cX7_leadOn 18 = .ok (.iload 5, 2) := by decide +kernel
theorem dX7_leadOn_20 : decode cX7_leadOn 20 = .ok (.baload, 1) := by decide +kernel
theorem dX7_leadOn_21 : decode cX7_leadOn 21 = .ok (.ifCond .eq 47, 3) := by decide +kernel
theorem dX7_leadOn_24 : decode cX7_leadOn 24 = .ok (.aload_n 0, 1) := by decide +kernel
theorem dX7_leadOn_25 : decode cX7_leadOn 25 = .ok (.getfield 25, 3) := by decide +kernel
theorem dX7_leadOn_28 : decode cX7_leadOn 28 = .ok (.iload 5, 2) := by decide +kernel
theorem dX7_leadOn_30 : decode cX7_leadOn 30 = .ok (.iaload, 1) := by decide +kernel
theorem dX7_leadOn_31 : decode cX7_leadOn 31 = .ok (.iconst 3, 1) := by decide +kernel
theorem dX7_leadOn_32 : decode cX7_leadOn 32 = .ok (.if_icmp .lt 36, 3) := by decide +kernel
theorem dX7_leadOn_35 : decode cX7_leadOn 35 = .ok (.aload_n 0, 1) := by decide +kernel
theorem dX7_leadOn_36 : decode cX7_leadOn 36 = .ok (.getfield 19, 3) := by decide +kernel
theorem dX7_leadOn_39 : decode cX7_leadOn 39 = .ok (.iload 5, 2) := by decide +kernel
theorem dX7_leadOn_41 : decode cX7_leadOn 41 = .ok (.daload, 1) := by decide +kernel
theorem dX7_leadOn_42 : decode cX7_leadOn 42 = .ok (.aload_n 1, 1) := by decide +kernel
theorem dX7_leadOn_43 : decode cX7_leadOn 43 = .ok (.aload_n 0, 1) := by decide +kernel
theorem dX7_leadOn_44 : decode cX7_leadOn 44 = .ok (.getfield 15, 3) := by decide +kernel
theorem dX7_leadOn_47 : decode cX7_leadOn 47 = .ok (.iload 5, 2) := by decide +kernel
theorem dX7_leadOn_49 : decode cX7_leadOn 49 = .ok (.daload, 1) := by decide +kernel
theorem dX7_leadOn_50 : decode cX7_leadOn 50 = .ok (.invokevirtual 97, 3) := by decide +kernel
theorem dX7_leadOn_53 : decode cX7_leadOn 53 = .ok (.dsub, 1) := by decide +kernel
theorem dX7_leadOn_54 : decode cX7_leadOn 54 = .ok (.invokestatic 77, 3) := by decide +kernel
theorem dX7_leadOn_57 : decode cX7_leadOn 57 = .ok (.ldc2_w 102, 3) := by decide +kernel
theorem dX7_leadOn_60 : decode cX7_leadOn 60 = .ok (.dcmp .g, 1) := by decide +kernel
theorem dX7_leadOn_61 : decode cX7_leadOn 61 = .ok (.ifCond .gt 7, 3) := by decide +kernel
theorem dX7_leadOn_64 : decode cX7_leadOn 64 = .ok (.iconst 1, 1) := by decide +kernel
theorem dX7_leadOn_65 : decode cX7_leadOn 65 = .ok (.goto 4, 3) := by decide +kernel
theorem dX7_leadOn_68 : decode cX7_leadOn 68 = .ok (.iconst 0, 1) := by decide +kernel
theorem dX7_leadOn_69 : decode cX7_leadOn 69 = .ok (.istore 6, 2) := by decide +kernel
theorem dX7_leadOn_71 : decode cX7_leadOn 71 = .ok (.iload 6, 2) := by decide +kernel
theorem dX7_leadOn_73 : decode cX7_leadOn 73 = .ok (.ifCond .eq 31, 3) := by decide +kernel
theorem dX7_leadOn_76 : decode cX7_leadOn 76 = .ok (.iload_n 2, 1) := by decide +kernel
theorem dX7_leadOn_77 : decode cX7_leadOn 77 = .ok (.iconst (-1), 1) := by decide +kernel
theorem dX7_leadOn_78 : decode cX7_leadOn 78 = .ok (.if_icmp .eq 15, 3) := by decide +kernel
theorem dX7_leadOn_81 : decode cX7_leadOn 81 = .ok (.aload_n 0, 1) := by decide +kernel
theorem dX7_leadOn_82 : decode cX7_leadOn 82 = .ok (.getfield 15, 3) := by decide +kernel
theorem dX7_leadOn_85 : decode cX7_leadOn 85 = .ok (.iload 5, 2) := by decide +kernel
theorem dX7_leadOn_87 : decode cX7_leadOn 87 = .ok (.daload, 1) := by decide +kernel
theorem dX7_leadOn_88 : decode cX7_leadOn 88 = .ok (.dload_n 3, 1) := by decide +kernel
theorem dX7_leadOn_89 : decode cX7_leadOn 89 = .ok (.dcmp .g, 1) := by decide +kernel
theorem dX7_leadOn_90 : decode cX7_leadOn 90 = .ok (.ifCond .ge 14, 3) := by decide +kernel
theorem dX7_leadOn_93 : decode cX7_leadOn 93 = .ok (.iload 5, 2) := by decide +kernel
theorem dX7_leadOn_95 : decode cX7_leadOn 95 = .ok (.istore_n 2, 1) := by decide +kernel
theorem dX7_leadOn_96 : decode cX7_leadOn 96 = .ok (.aload_n 0, 1) := by decide +kernel
theorem dX7_leadOn_97 : decode cX7_leadOn 97 = .ok (.getfield 15, 3) := by decide +kernel
theorem dX7_leadOn_100 : decode cX7_leadOn 100 = .ok (.iload 5, 2) := by decide +kernel
theorem dX7_leadOn_102 : decode cX7_leadOn 102 = .ok (.daload, 1) := by decide +kernel
theorem dX7_leadOn_103 : decode cX7_leadOn 103 = .ok (.dstore_n 3, 1) := by decide +kernel
theorem dX7_leadOn_104 : decode cX7_leadOn 104 = .ok (.iinc 5 1, 3) := by decide +kernel
theorem dX7_leadOn_107 : decode cX7_leadOn 107 = .ok (.goto (-100), 3) := by decide +kernel
theorem dX7_leadOn_110 : decode cX7_leadOn 110 = .ok (.iload_n 2, 1) := by decide +kernel
theorem dX7_leadOn_111 : decode cX7_leadOn 111 = .ok (.ireturn, 1) := by decide +kernel
set_option maxRecDepth 20000 in
theorem ggX7_secondsTo_X7_isThere : GoodIn wsX7_secondsTo wsX7_isThere := goodIn_r _ [8, 9, 10, 11, 12, 13, 14, 15, 16, 17, 18, 19] (by decide +kernel) (by decide +kernel)
set_option maxRecDepth 20000 in
theorem gX7_secondsTo_X7_isThere : GoodIn wsX7_secondsTo (wsV RX7 62 RX7 yX7_isThere wsX7_isThere) := goodIn_app (goodIn_of _ (by decide +kernel)) ggX7_secondsTo_X7_isThere
theorem dX7_secondsTo_0 : decode cX7_secondsTo 0 = .ok (.aload_n 0, 1) := by decide +kernel
theorem dX7_secondsTo_1 : decode cX7_secondsTo 1 = .ok (.iload_n 1, 1) := by decide +kernel
theorem dX7_secondsTo_2 : decode cX7_secondsTo 2 = .ok (.invokevirtual 62, 3) := by decide +kernel
theorem dX7_secondsTo_5 : decode cX7_secondsTo 5 = .ok (.ifCond .ne 7, 3) := by decide +kernel
theorem dX7_secondsTo_8 : decode cX7_secondsTo 8 = .ok (.ldc2_w 104, 3) := by decide +kernel
theorem dX7_secondsTo_11 : decode cX7_secondsTo 11 = .ok (.dreturn, 1) := by decide +kernel
theorem dX7_secondsTo_12 : decode cX7_secondsTo 12 = .ok (.dload_n 2, 1) := by decide +kernel
theorem dX7_secondsTo_13 : decode cX7_secondsTo 13 = .ok (.aload_n 0, 1) := by decide +kernel
theorem dX7_secondsTo_14 : decode cX7_secondsTo 14 = .ok (.getfield 22, 3) := by decide +kernel
theorem dX7_secondsTo_17 : decode cX7_secondsTo 17 = .ok (.iload_n 1, 1) := by decide +kernel
theorem dX7_secondsTo_18 : decode cX7_secondsTo 18 = .ok (.daload, 1) := by decide +kernel
theorem dX7_secondsTo_19 : decode cX7_secondsTo 19 = .ok (.dsub, 1) := by decide +kernel
theorem dX7_secondsTo_20 : decode cX7_secondsTo 20 = .ok (.dstore 4, 2) := by decide +kernel
theorem dX7_secondsTo_22 : decode cX7_secondsTo 22 = .ok (.dload 4, 2) := by decide +kernel
theorem dX7_secondsTo_24 : decode cX7_secondsTo 24 = .ok (.dconst 0, 1) := by decide +kernel
theorem dX7_secondsTo_25 : decode cX7_secondsTo 25 = .ok (.dcmp .l, 1) := by decide +kernel
theorem dX7_secondsTo_26 : decode cX7_secondsTo 26 = .ok (.ifCond .le 15, 3) := by decide +kernel
theorem dX7_secondsTo_29 : decode cX7_secondsTo 29 = .ok (.aload_n 0, 1) := by decide +kernel
theorem dX7_secondsTo_30 : decode cX7_secondsTo 30 = .ok (.getfield 15, 3) := by decide +kernel
theorem dX7_secondsTo_33 : decode cX7_secondsTo 33 = .ok (.iload_n 1, 1) := by decide +kernel
theorem dX7_secondsTo_34 : decode cX7_secondsTo 34 = .ok (.daload, 1) := by decide +kernel
theorem dX7_secondsTo_35 : decode cX7_secondsTo 35 = .ok (.dload 4, 2) := by decide +kernel
theorem dX7_secondsTo_37 : decode cX7_secondsTo 37 = .ok (.ddiv, 1) := by decide +kernel
theorem dX7_secondsTo_38 : decode cX7_secondsTo 38 = .ok (.goto 6, 3) := by decide +kernel
theorem dX7_secondsTo_41 : decode cX7_secondsTo 41 = .ok (.ldc2_w 104, 3) := by decide +kernel
theorem dX7_secondsTo_44 : decode cX7_secondsTo 44 = .ok (.dreturn, 1) := by decide +kernel
set_option maxRecDepth 20000 in
theorem ggX7_read_X7_isThere : GoodIn wsX7_read wsX7_isThere := goodIn_r _ [11, 12, 13, 14, 15, 16, 17, 18, 19, 20, 21, 22] (by decide +kernel) (by decide +kernel)
set_option maxRecDepth 20000 in
theorem gX7_read_X7_isThere : GoodIn wsX7_read (wsV RX7 62 RX7 yX7_isThere wsX7_isThere) := goodIn_app (goodIn_of _ (by decide +kernel)) ggX7_read_X7_isThere
theorem dX7_read_0 : decode cX7_read 0 = .ok (.aload_n 0, 1) := by decide +kernel
theorem dX7_read_1 : decode cX7_read 1 = .ok (.iload_n 1, 1) := by decide +kernel
theorem dX7_read_2 : decode cX7_read 2 = .ok (.invokevirtual 62, 3) := by decide +kernel
theorem dX7_read_5 : decode cX7_read 5 = .ok (.ifCond .ne 5, 3) := by decide +kernel
theorem dX7_read_8 : decode cX7_read 8 = .ok (.iconst 0, 1) := by decide +kernel
theorem dX7_read_9 : decode cX7_read 9 = .ok (.ireturn, 1) := by decide +kernel
theorem dX7_read_10 : decode cX7_read 10 = .ok (.iload_n 2, 1) := by decide +kernel
theorem dX7_read_11 : decode cX7_read 11 = .ok (.tableswitch 73 0 4 #[33, 35, 42, 49, 61], 33) := by decide +kernel
theorem dX7_read_44 : decode cX7_read 44 = .ok (.iconst 1, 1) := by decide +kernel
theorem dX7_read_45 : decode cX7_read 45 = .ok (.ireturn, 1) := by decide +kernel
theorem dX7_read_46 : decode cX7_read 46 = .ok (.aload_n 0, 1) := by decide +kernel
theorem dX7_read_47 : decode cX7_read 47 = .ok (.getfield 25, 3) := by decide +kernel
theorem dX7_read_50 : decode cX7_read 50 = .ok (.iload_n 1, 1) := by decide +kernel
theorem dX7_read_51 : decode cX7_read 51 = .ok (.iaload, 1) := by decide +kernel
theorem dX7_read_52 : decode cX7_read 52 = .ok (.ireturn, 1) := by decide +kernel
theorem dX7_read_53 : decode cX7_read 53 = .ok (.aload_n 0, 1) := by decide +kernel
theorem dX7_read_54 : decode cX7_read 54 = .ok (.getfield 29, 3) := by decide +kernel
theorem dX7_read_57 : decode cX7_read 57 = .ok (.iload_n 1, 1) := by decide +kernel
theorem dX7_read_58 : decode cX7_read 58 = .ok (.iaload, 1) := by decide +kernel
theorem dX7_read_59 : decode cX7_read 59 = .ok (.ireturn, 1) := by decide +kernel
theorem dX7_read_60 : decode cX7_read 60 = .ok (.aload_n 0, 1) := by decide +kernel
theorem dX7_read_61 : decode cX7_read 61 = .ok (.getfield 15, 3) := by decide +kernel
theorem dX7_read_64 : decode cX7_read 64 = .ok (.iload_n 1, 1) := by decide +kernel
theorem dX7_read_65 : decode cX7_read 65 = .ok (.daload, 1) := by decide +kernel
theorem dX7_read_66 : decode cX7_read 66 = .ok (.ldc2_w 85, 3) := by decide +kernel
theorem dX7_read_69 : decode cX7_read 69 = .ok (.dmul, 1) := by decide +kernel
theorem dX7_read_70 : decode cX7_read 70 = .ok (.d2i, 1) := by decide +kernel
theorem dX7_read_71 : decode cX7_read 71 = .ok (.ireturn, 1) := by decide +kernel
theorem dX7_read_72 : decode cX7_read 72 = .ok (.aload_n 0, 1) := by decide +kernel
theorem dX7_read_73 : decode cX7_read 73 = .ok (.getfield 19, 3) := by decide +kernel
theorem dX7_read_76 : decode cX7_read 76 = .ok (.iload_n 1, 1) := by decide +kernel
theorem dX7_read_77 : decode cX7_read 77 = .ok (.daload, 1) := by decide +kernel
theorem dX7_read_78 : decode cX7_read 78 = .ok (.ldc2_w 85, 3) := by decide +kernel
theorem dX7_read_81 : decode cX7_read 81 = .ok (.dmul, 1) := by decide +kernel
theorem dX7_read_82 : decode cX7_read 82 = .ok (.d2i, 1) := by decide +kernel
theorem dX7_read_83 : decode cX7_read 83 = .ok (.ireturn, 1) := by decide +kernel
theorem dX7_read_84 : decode cX7_read 84 = .ok (.aload_n 0, 1) := by decide +kernel
theorem dX7_read_85 : decode cX7_read 85 = .ok (.getfield 22, 3) := by decide +kernel
theorem dX7_read_88 : decode cX7_read 88 = .ok (.iload_n 1, 1) := by decide +kernel
theorem dX7_read_89 : decode cX7_read 89 = .ok (.daload, 1) := by decide +kernel
theorem dX7_read_90 : decode cX7_read 90 = .ok (.ldc2_w 85, 3) := by decide +kernel
theorem dX7_read_93 : decode cX7_read 93 = .ok (.dmul, 1) := by decide +kernel
theorem dX7_read_94 : decode cX7_read 94 = .ok (.d2i, 1) := by decide +kernel
theorem dX7_read_95 : decode cX7_read 95 = .ok (.ireturn, 1) := by decide +kernel
