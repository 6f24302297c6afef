theorem dX9_init_0 : decode cX9_init 0 = .ok (.aload_n 0, 1) := by decide +kernel
theorem dX9_init_1 : decode cX9_init 1 = .ok (.invokespecial 1, 3) := by decide +kernel
theorem dX9_init_4 : decode cX9_init 4 = .ok (.aload_n 0, 1) := by decide +kernel
theorem dX9_init_5 : decode cX9_init 5 = .ok (.bipush 8, 2) := by decide +kernel
theorem dX9_init_7 : decode cX9_init 7 = .ok (.newarray .boolean, 2) := by decide +kernel
theorem dX9_init_9 : decode cX9_init 9 = .ok (.putfield 7, 3) := by decide +kernel
theorem dX9_init_12 : decode cX9_init 12 = .ok (.aload_n 0, 1) := by decide +kernel
theorem dX9_init_13 : decode cX9_init 13 = .ok (.bipush 8, 2) := by decide +kernel
theorem dX9_init_15 : decode cX9_init 15 = .ok (.newarray .double, 2) := by decide +kernel
theorem dX9_init_17 : decode cX9_init 17 = .ok (.putfield 13, 3) := by decide +kernel
theorem dX9_init_20 : decode cX9_init 20 = .ok (.aload_n 0, 1) := by decide +kernel
theorem dX9_init_21 : decode cX9_init 21 = .ok (.bipush 8, 2) := by decide +kernel
theorem dX9_init_23 : decode cX9_init 23 = .ok (.newarray .double, 2) := by decide +kernel
theorem dX9_init_25 : decode cX9_init 25 = .ok (.putfield 17, 3) := by decide +kernel
theorem dX9_init_28 : decode cX9_init 28 = .ok (.aload_n 0, 1) := by decide +kernel
theorem dX9_init_29 : decode cX9_init 29 = .ok (.bipush 8, 2) := by decide +kernel
theorem dX9_init_31 : decode cX9_init 31 = .ok (.newarray .double, 2) := by decide +kernel
theorem dX9_init_33 : decode cX9_init 33 = .ok (.putfield 20, 3) := by decide +kernel
theorem dX9_init_36 : decode cX9_init 36 = .ok (.aload_n 0, 1) := by decide +kernel
theorem dX9_init_37 : decode cX9_init 37 = .ok (.bipush 8, 2) := by decide +kernel
theorem dX9_init_39 : decode cX9_init 39 = .ok (.newarray .int, 2) := by decide +kernel
theorem dX9_init_41 : decode cX9_init 41 = .ok (.putfield 23, 3) := by decide +kernel
theorem dX9_init_44 : decode cX9_init 44 = .ok (.aload_n 0, 1) := by decide +kernel
theorem dX9_init_45 : decode cX9_init 45 = .ok (.bipush 8, 2) := by decide +kernel
theorem dX9_init_47 : decode cX9_init 47 = .ok (.newarray .int, 2) := by decide +kernel
theorem dX9_init_49 : decode cX9_init 49 = .ok (.putfield 27, 3) := by decide +kernel
theorem dX9_init_52 : decode cX9_init 52 = .ok (.aload_n 0, 1) := by decide +kernel
theorem dX9_init_53 : decode cX9_init 53 = .ok (.iconst 2, 1) := by decide +kernel
theorem dX9_init_54 : decode cX9_init 54 = .ok (.newarray .int, 2) := by decide +kernel
theorem dX9_init_56 : decode cX9_init 56 = .ok (.putfield 30, 3) := by decide +kernel
theorem dX9_init_59 : decode cX9_init 59 = .ok (.aload_n 0, 1) := by decide +kernel
theorem dX9_init_60 : decode cX9_init 60 = .ok (.bipush 8, 2) := by decide +kernel
theorem dX9_init_62 : decode cX9_init 62 = .ok (.newarray .double, 2) := by decide +kernel
theorem dX9_init_64 : decode cX9_init 64 = .ok (.putfield 33, 3) := by decide +kernel
theorem dX9_init_67 : decode cX9_init 67 = .ok (.aload_n 0, 1) := by decide +kernel
theorem dX9_init_68 : decode cX9_init 68 = .ok (.bipush 8, 2) := by decide +kernel
theorem dX9_init_70 : decode cX9_init 70 = .ok (.newarray .double, 2) := by decide +kernel
theorem dX9_init_72 : decode cX9_init 72 = .ok (.putfield 36, 3) := by decide +kernel
theorem dX9_init_75 : decode cX9_init 75 = .ok (.aload_n 0, 1) := by decide +kernel
theorem dX9_init_76 : decode cX9_init 76 = .ok (.bipush 8, 2) := by decide +kernel
theorem dX9_init_78 : decode cX9_init 78 = .ok (.newarray .double, 2) := by decide +kernel
theorem dX9_init_80 : decode cX9_init 80 = .ok (.putfield 39, 3) := by decide +kernel
theorem dX9_init_83 : decode cX9_init 83 = .ok (.aload_n 0, 1) := by decide +kernel
theorem dX9_init_84 : decode cX9_init 84 = .ok (.iconst 4, 1) := by decide +kernel
theorem dX9_init_85 : decode cX9_init 85 = .ok (.newarray .int, 2) := by decide +kernel
theorem dX9_init_87 : decode cX9_init 87 = .ok (.putfield 42, 3) := by decide +kernel
theorem dX9_init_90 : decode cX9_init 90 = .ok (.aload_n 0, 1) := by decide +kernel
theorem dX9_init_91 : decode cX9_init 91 = .ok (.iconst 4, 1) := by decide +kernel
theorem dX9_init_92 : decode cX9_init 92 = .ok (.newarray .int, 2) := by decide +kernel
theorem dX9_init_94 : decode cX9_init 94 = .ok (.putfield 45, 3) := by decide +kernel
theorem dX9_init_97 : decode cX9_init 97 = .ok (.aload_n 0, 1) := by decide +kernel
theorem dX9_init_98 : decode cX9_init 98 = .ok (.bipush 8, 2) := by decide +kernel
theorem dX9_init_100 : decode cX9_init 100 = .ok (.newarray .boolean, 2) := by decide +kernel
theorem dX9_init_102 : decode cX9_init 102 = .ok (.putfield 48, 3) := by decide +kernel
theorem dX9_init_105 : decode cX9_init 105 = .ok (.aload_n 0, 1) := by decide +kernel
theorem dX9_init_106 : decode cX9_init 106 = .ok (.bipush 8, 2) := by decide +kernel
theorem dX9_init_108 : decode cX9_init 108 = .ok (.newarray .boolean, 2) := by decide +kernel
theorem dX9_init_110 : decode cX9_init 110 = .ok (.putfield 51, 3) := by decide +kernel
theorem dX9_init_113 : decode cX9_init 113 = .ok (.aload_n 0, 1) := by decide +kernel
theorem dX9_init_114 : decode cX9_init 114 = .ok (.bipush 8, 2) := by decide +kernel
theorem dX9_init_116 : decode cX9_init 116 = .ok (.newarray .double, 2) := by decide +kernel
theorem dX9_init_118 : decode cX9_init 118 = .ok (.putfield 54, 3) := by decide +kernel
theorem dX9_init_121 : decode cX9_init 121 = .ok (.aload_n 0, 1) := by decide +kernel
theorem dX9_init_122 : decode cX9_init 122 = .ok (.iconst 1, 1) := by decide +kernel
theorem dX9_init_123 : decode cX9_init 123 = .ok (.putfield 57, 3) := by decide +kernel
theorem dX9_init_126 : decode cX9_init 126 = .ok (.aload_n 0, 1) := by decide +kernel
theorem dX9_init_127 : decode cX9_init 127 = .ok (.ldc2_w 61, 3) := by decide +kernel
theorem dX9_init_130 : decode cX9_init 130 = .ok (.putfield 63, 3) := by decide +kernel
theorem dX9_init_133 : decode cX9_init 133 = .ok (.aload_n 0, 1) := by decide +kernel
theorem dX9_init_134 : decode cX9_init 134 = .ok (.ldc2_w 67, 3) := by decide +kernel
theorem dX9_init_137 : decode cX9_init 137 = .ok (.putfield 69, 3) := by decide +kernel
theorem dX9_init_140 : decode cX9_init 140 = .ok (.aload_n 0, 1) := by decide +kernel
theorem dX9_init_141 : decode cX9_init 141 = .ok (.ldc2_w 72, 3) := by decide +kernel
theorem dX9_init_144 : decode cX9_init 144 = .ok (.putfield 74, 3) := by decide +kernel
theorem dX9_init_147 : decode cX9_init 147 = .ok (.aload_n 0, 1) := by decide +kernel
theorem dX9_init_148 : decode cX9_init 148 = .ok (.iconst (-1), 1) := by decide +kernel
theorem dX9_init_149 : decode cX9_init 149 = .ok (.putfield 77, 3) := by decide +kernel
theorem dX9_init_152 : decode cX9_init 152 = .ok (.aload_n 0, 1) := by decide +kernel
theorem dX9_init_153 : decode cX9_init 153 = .ok (.ldc2_w 81, 3) := by decide +kernel
theorem dX9_init_156 : decode cX9_init 156 = .ok (.putfield 83, 3) := by decide +kernel
theorem dX9_init_159 : decode cX9_init 159 = .ok (.aload_n 0, 1) := by decide +kernel
theorem dX9_init_160 : decode cX9_init 160 = .ok (.ldc2_w 81, 3) := by decide +kernel
theorem dX9_init_163 : decode cX9_init 163 = .ok (.putfield 86, 3) := by decide +kernel
theorem dX9_init_166 : decode cX9_init 166 = .ok (.aload_n 0, 1) := by decide +kernel
theorem dX9_init_167 : decode cX9_init 167 = .ok (.bipush 14, 2) := by decide +kernel
theorem dX9_init_169 : decode cX9_init 169 = .ok (.newarray .int, 2) := by decide +kernel
theorem dX9_init_171 : decode cX9_init 171 = .ok (.putfield 89, 3) := by decide +kernel
theorem dX9_init_174 : decode cX9_init 174 = .ok (.return_, 1) := by decide +kernel
theorem dX9_thrown_0 : decode cX9_thrown 0 = .ok (.aload_n 0, 1) := by decide +kernel
theorem dX9_thrown_1 : decode cX9_thrown 1 = .ok (.getfield 92, 3) := by decide +kernel
theorem dX9_thrown_4 : decode cX9_thrown 4 = .ok (.ireturn, 1) := by decide +kernel
theorem dX9_in_0 : decode cX9_in 0 = .ok (.dload_n 0, 1) := by decide +kernel
theorem dX9_in_1 : decode cX9_in 1 = .ok (.dload_n 2, 1) := by decide +kernel
theorem dX9_in_2 : decode cX9_in 2 = .ok (.dcmp .l, 1) := by decide +kernel
theorem dX9_in_3 : decode cX9_in 3 = .ok (.ifCond .lt 14, 3) := by decide +kernel
theorem dX9_in_6 : decode cX9_in 6 = .ok (.dload_n 0, 1) := by decide +kernel
theorem dX9_in_7 : decode cX9_in 7 = .ok (.dload 4, 2) := by decide +kernel
theorem dX9_in_9 : decode cX9_in 9 = .ok (.dcmp .g, 1) := by decide +kernel
theorem dX9_in_10 : decode cX9_in 10 = .ok (.ifCond .gt 7, 3) := by decide +kernel
theorem dX9_in_13 : decode cX9_in 13 = .ok (.iconst 1, 1) := by decide +kernel
theorem dX9_in_14 : decode cX9_in 14 = .ok (.goto 4, 3) := by decide +kernel
theorem dX9_in_17 : decode cX9_in 17 = .ok (.iconst 0, 1) := by decide +kernel
theorem dX9_in_18 : decode cX9_in 18 = .ok (.ireturn, 1) := by decide +kernel
theorem dX9_size_0 : decode cX9_size 0 = .ok (.dload_n 0, 1) := by decide +kernel
theorem dX9_size_1 : decode cX9_size 1 = .ok (.dconst 0, 1) := by decide +kernel
theorem dX9_size_2 : decode cX9_size 2 = .ok (.dcmp .g, 1) := by decide +kernel
theorem dX9_size_3 : decode cX9_size 3 = .ok (.ifCond .ge 9, 3) := by decide +kernel
theorem dX9_size_6 : decode cX9_size 6 = .ok (.dconst 0, 1) := by decide +kernel
theorem dX9_size_7 : decode cX9_size 7 = .ok (.dload_n 0, 1) := by decide +kernel
theorem dX9_size_8 : decode cX9_size 8 = .ok (.dsub, 1) := by decide +kernel
theorem dX9_size_9 : decode cX9_size 9 = .ok (.goto 4, 3) := by decide +kernel
theorem dX9_size_12 : decode cX9_size 12 = .ok (.dload_n 0, 1) := by decide +kernel
theorem dX9_size_13 : decode cX9_size 13 = .ok (.dreturn, 1) := by decide +kernel
theorem dX9_between_0 : decode cX9_between 0 = .ok (.dload_n 0, 1) := by decide +kernel
theorem dX9_between_1 : decode cX9_between 1 = .ok (.dload_n 2, 1) := by decide +kernel
theorem dX9_between_2 : decode cX9_between 2 = .ok (.dcmp .g, 1) := by decide +kernel
theorem dX9_between_3 : decode cX9_between 3 = .ok (.ifCond .ge 7, 3) := by decide +kernel
theorem dX9_between_6 : decode cX9_between 6 = .ok (.dload_n 2, 1) := by decide +kernel
theorem dX9_between_7 : decode cX9_between 7 = .ok (.goto 16, 3) := by decide +kernel
theorem dX9_between_10 : decode cX9_between 10 = .ok (.dload_n 0, 1) := by decide +kernel
theorem dX9_between_11 : decode cX9_between 11 = .ok (.dload 4, 2) := by decide +kernel
theorem dX9_between_13 : decode cX9_between 13 = .ok (.dcmp .l, 1) := by decide +kernel
theorem dX9_between_14 : decode cX9_between 14 = .ok (.ifCond .le 8, 3) := by decide +kernel
theorem dX9_between_17 : decode cX9_between 17 = .ok (.dload 4, 2) := by decide +kernel
theorem dX9_between_19 : decode cX9_between 19 = .ok (.goto 4, 3) := by decide +kernel
theorem dX9_between_22 : decode cX9_between 22 = .ok (.dload_n 0, 1) := by decide +kernel
theorem dX9_between_23 : decode cX9_between 23 = .ok (.dreturn, 1) := by decide +kernel
set_option maxRecDepth 20000 in
theorem ggX9_object_X9_in : GoodIn wsX9_object wsX9_in := goodIn_r _ [16] (by decide +kernel) (by decide +kernel)
set_option maxRecDepth 20000 in
theorem gX9_object_X9_in : GoodIn wsX9_object (va_wsS RX9 97 yX9_in wsX9_in) := goodIn_app (goodIn_of _ (by decide +kernel)) ggX9_object_X9_in
theorem dX9_object_0 : decode cX9_object 0 = .ok (.aload_n 0, 1) := by decide +kernel
theorem dX9_object_1 : decode cX9_object 1 = .ok (.iconst 0, 1) := by decide +kernel
theorem dX9_object_2 : decode cX9_object 2 = .ok (.putfield 92, 3) := by decide +kernel
theorem dX9_object_5 : decode cX9_object 5 = .ok (.iload_n 1, 1) := by decide +kernel
theorem dX9_object_6 : decode cX9_object 6 = .ok (.ifCond .lt 8, 3) := by decide +kernel
theorem dX9_object_9 : decode cX9_object 9 = .ok (.iload_n 1, 1) := by decide +kernel
theorem dX9_object_10 : decode cX9_object 10 = .ok (.iconst 1, 1) := by decide +kernel
theorem dX9_object_11 : decode cX9_object 11 = .ok (.if_icmp .le 5, 3) := by decide +kernel
theorem dX9_object_14 : decode cX9_object 14 = .ok (.iconst (-1), 1) := by decide +kernel
theorem dX9_object_15 : decode cX9_object 15 = .ok (.ireturn, 1) := by decide +kernel
theorem dX9_object_16 : decode cX9_object 16 = .ok (.dload_n 2, 1) := by decide +kernel
theorem dX9_object_17 : decode cX9_object 17 = .ok (.dconst 0, 1) := by decide +kernel
theorem dX9_object_18 : decode cX9_object 18 = .ok (.ldc2_w 95, 3) := by decide +kernel
theorem dX9_object_21 : decode cX9_object 21 = .ok (.invokestatic 97, 3) := by decide +kernel
theorem dX9_object_24 : decode cX9_object 24 = .ok (.ifCond .eq 46, 3) := by decide +kernel
theorem dX9_object_27 : decode cX9_object 27 = .ok (.dload 4, 2) := by decide +kernel
theorem dX9_object_29 : decode cX9_object 29 = .ok (.ldc2_w 101, 3) := by decide +kernel
theorem dX9_object_32 : decode cX9_object 32 = .ok (.ldc2_w 103, 3) := by decide +kernel
theorem dX9_object_35 : decode cX9_object 35 = .ok (.invokestatic 97, 3) := by decide +kernel
theorem dX9_object_38 : decode cX9_object 38 = .ok (.ifCond .eq 32, 3) := by decide +kernel
theorem dX9_object_41 : decode cX9_object 41 = .ok (.dload 6, 2) := by decide +kernel
theorem dX9_object_43 : decode cX9_object 43 = .ok (.ldc2_w 105, 3) := by decide +kernel
theorem dX9_object_46 : decode cX9_object 46 = .ok (.ldc2_w 107, 3) := by decide +kernel
theorem dX9_object_49 : decode cX9_object 49 = .ok (.invokestatic 97, 3) := by decide +kernel
theorem dX9_object_52 : decode cX9_object 52 = .ok (.ifCond .eq 18, 3) := by decide +kernel
theorem dX9_object_55 : decode cX9_object 55 = .ok (.dload 8, 2) := by decide +kernel
theorem dX9_object_57 : decode cX9_object 57 = .ok (.aload_n 0, 1) := by decide +kernel
theorem dX9_object_58 : decode cX9_object 58 = .ok (.getfield 109, 3) := by decide +kernel
theorem dX9_object_61 : decode cX9_object 61 = .ok (.ldc2_w 112, 3) := by decide +kernel
theorem dX9_object_64 : decode cX9_object 64 = .ok (.invokestatic 97, 3) := by decide +kernel
theorem dX9_object_67 : decode cX9_object 67 = .ok (.ifCond .ne 6, 3) := by decide +kernel
theorem dX9_object_70 : decode cX9_object 70 = .ok (.bipush (-2), 2) := by decide +kernel
theorem dX9_object_72 : decode cX9_object 72 = .ok (.ireturn, 1) := by decide +kernel
theorem dX9_object_73 : decode cX9_object 73 = .ok (.aload_n 0, 1) := by decide +kernel
theorem dX9_object_74 : decode cX9_object 74 = .ok (.getfield 30, 3) := by decide +kernel
theorem dX9_object_77 : decode cX9_object 77 = .ok (.iload_n 1, 1) := by decide +kernel
theorem dX9_object_78 : decode cX9_object 78 = .ok (.iaload, 1) := by decide +kernel
theorem dX9_object_79 : decode cX9_object 79 = .ok (.iconst 4, 1) := by decide +kernel
theorem dX9_object_80 : decode cX9_object 80 = .ok (.if_icmp .ne 6, 3) := by decide +kernel
theorem dX9_object_83 : decode cX9_object 83 = .ok (.bipush (-4), 2) := by decide +kernel
theorem dX9_object_85 : decode cX9_object 85 = .ok (.ireturn, 1) := by decide +kernel
theorem dX9_object_86 : decode cX9_object 86 = .ok (.iconst 4, 1) := by decide +kernel
theorem dX9_object_87 : decode cX9_object 87 = .ok (.iload_n 1, 1) := by decide +kernel
theorem dX9_object_88 : decode cX9_object 88 = .ok (.imul, 1) := by decide +kernel
theorem dX9_object_89 : decode cX9_object 89 = .ok (.aload_n 0, 1) := by decide +kernel
theorem dX9_object_90 : decode cX9_object 90 = .ok (.getfield 30, 3) := by decide +kernel
theorem dX9_object_93 : decode cX9_object 93 = .ok (.iload_n 1, 1) := by decide +kernel
theorem dX9_object_94 : decode cX9_object 94 = .ok (.iaload, 1) := by decide +kernel
theorem dX9_object_95 : decode cX9_object 95 = .ok (.iadd, 1) := by decide +kernel
theorem dX9_object_96 : decode cX9_object 96 = .ok (.istore 10, 2) := by decide +kernel
theorem dX9_object_98 : decode cX9_object 98 = .ok (.aload_n 0, 1) := by decide +kernel
theorem dX9_object_99 : decode cX9_object 99 = .ok (.getfield 33, 3) := by decide +kernel
theorem dX9_object_102 : decode cX9_object 102 = .ok (.iload 10, 2) := by decide +kernel
theorem dX9_object_104 : decode cX9_object 104 = .ok (.dload_n 2, 1) := by decide +kernel
theorem dX9_object_105 : decode cX9_object 105 = .ok (.dastore, 1) := by decide +kernel
theorem dX9_object_106 : decode cX9_object 106 = .ok (.aload_n 0, 1) := by decide +kernel
theorem dX9_object_107 : decode cX9_object 107 = .ok (.getfield 36, 3) := by decide +kernel
theorem dX9_object_110 : decode cX9_object 110 = .ok (.iload 10, 2) := by decide +kernel
theorem dX9_object_112 : decode cX9_object 112 = .ok (.dload 4, 2) := by decide +kernel
theorem dX9_object_114 : decode cX9_object 114 = .ok (.dastore, 1) := by decide +kernel
theorem dX9_object_115 : decode cX9_object 115 = .ok (.aload_n 0, 1) := by decide +kernel
theorem dX9_object_116 : decode cX9_object 116 = .ok (.getfield 39, 3) := by decide +kernel
theorem dX9_object_119 : decode cX9_object 119 = .ok (.iload 10, 2) := by decide +kernel
theorem dX9_object_121 : decode cX9_object 121 = .ok (.dload 6, 2) := by decide +kernel
theorem dX9_object_123 : decode cX9_object 123 = .ok (.dastore, 1) := by decide +kernel
theorem dX9_object_124 : decode cX9_object 124 = .ok (.aload_n 0, 1) := by decide +kernel
theorem dX9_object_125 : decode cX9_object 125 = .ok (.getfield 30, 3) := by decide +kernel
theorem dX9_object_128 : decode cX9_object 128 = .ok (.iload_n 1, 1) := by decide +kernel
theorem dX9_object_129 : decode cX9_object 129 = .ok (.dup2, 1) := by decide +kernel
theorem dX9_object_130 : decode cX9_object 130 = .ok (.iaload, 1) := by decide +kernel
theorem dX9_object_131 : decode cX9_object 131 = .ok (.iconst 1, 1) := by decide +kernel
theorem dX9_object_132 : decode cX9_object 132 = .ok (.iadd, 1) := by decide +kernel
theorem dX9_object_133 : decode cX9_object 133 = .ok (.iastore, 1) := by decide +kernel
theorem dX9_object_134 : decode cX9_object 134 = .ok (.aload_n 0, 1) := by decide +kernel
theorem dX9_object_135 : decode cX9_object 135 = .ok (.getfield 30, 3) := by decide +kernel
theorem dX9_object_138 : decode cX9_object 138 = .ok (.iload_n 1, 1) := by decide +kernel
theorem dX9_object_139 : decode cX9_object 139 = .ok (.iaload, 1) := by decide +kernel
theorem dX9_object_140 : decode cX9_object 140 = .ok (.ireturn, 1) := by decide +kernel
set_option maxRecDepth 20000 in
theorem ggX9_lane_X9_in : GoodIn wsX9_lane wsX9_in := goodIn_r _ [13] (by decide +kernel) (by decide +kernel)
set_option maxRecDepth 20000 in
theorem gX9_lane_X9_in : GoodIn wsX9_lane (va_wsS RX9 97 yX9_in wsX9_in) := goodIn_app (goodIn_of _ (by decide +kernel)) ggX9_lane_X9_in
theorem dX9_lane_0 : decode cX9_lane 0 = .ok (.aload_n 0, 1) := by decide +kernel
theorem dX9_lane_1 : decode cX9_lane 1 = .ok (.iconst 0, 1) := by decide +kernel
theorem dX9_lane_2 : decode cX9_lane 2 = .ok (.putfield 92, 3) := by decide +kernel
theorem dX9_lane_5 : decode cX9_lane 5 = .ok (.dload_n 1, 1) := by decide +kernel
theorem dX9_lane_6 : decode cX9_lane 6 = .ok (.ldc2_w 114, 3) := by decide +kernel
theorem dX9_lane_9 : decode cX9_lane 9 = .ok (.ldc2_w 116, 3) := by decide +kernel
theorem dX9_lane_12 : decode cX9_lane 12 = .ok (.invokestatic 97, 3) := by decide +kernel
theorem dX9_lane_15 : decode cX9_lane 15 = .ok (.ifCond .eq 28, 3) := by decide +kernel
theorem dX9_lane_18 : decode cX9_lane 18 = .ok (.dload_n 3, 1) := by decide +kernel
theorem dX9_lane_19 : decode cX9_lane 19 = .ok (.ldc2_w 81, 3) := by decide +kernel
theorem dX9_lane_22 : decode cX9_lane 22 = .ok (.dconst 1, 1) := by decide +kernel
theorem dX9_lane_23 : decode cX9_lane 23 = .ok (.invokestatic 97, 3) := by decide +kernel
theorem dX9_lane_26 : decode cX9_lane 26 = .ok (.ifCond .eq 17, 3) := by decide +kernel
theorem dX9_lane_29 : decode cX9_lane 29 = .ok (.dload 5, 2) := by decide +kernel
theorem dX9_lane_31 : decode cX9_lane 31 = .ok (.ldc2_w 118, 3) := by decide +kernel
theorem dX9_lane_34 : decode cX9_lane 34 = .ok (.ldc2_w 120, 3) := by decide +kernel
theorem dX9_lane_37 : decode cX9_lane 37 = .ok (.invokestatic 97, 3) := by decide +kernel
theorem dX9_lane_40 : decode cX9_lane 40 = .ok (.ifCond .ne 6, 3) := by decide +kernel
theorem dX9_lane_43 : decode cX9_lane 43 = .ok (.bipush (-2), 2) := by decide +kernel
theorem dX9_lane_45 : decode cX9_lane 45 = .ok (.ireturn, 1) := by decide +kernel
theorem dX9_lane_46 : decode cX9_lane 46 = .ok (.aload_n 0, 1) := by decide +kernel
theorem dX9_lane_47 : decode cX9_lane 47 = .ok (.dload_n 1, 1) := by decide +kernel
theorem dX9_lane_48 : decode cX9_lane 48 = .ok (.putfield 122, 3) := by decide +kernel
theorem dX9_lane_51 : decode cX9_lane 51 = .ok (.aload_n 0, 1) := by decide +kernel
theorem dX9_lane_52 : decode cX9_lane 52 = .ok (.dload_n 3, 1) := by decide +kernel
theorem dX9_lane_53 : decode cX9_lane 53 = .ok (.putfield 125, 3) := by decide +kernel
theorem dX9_lane_56 : decode cX9_lane 56 = .ok (.aload_n 0, 1) := by decide +kernel
theorem dX9_lane_57 : decode cX9_lane 57 = .ok (.dload 5, 2) := by decide +kernel
theorem dX9_lane_59 : decode cX9_lane 59 = .ok (.putfield 128, 3) := by decide +kernel
theorem dX9_lane_62 : decode cX9_lane 62 = .ok (.iconst 1, 1) := by decide +kernel
theorem dX9_lane_63 : decode cX9_lane 63 = .ok (.ireturn, 1) := by decide +kernel
set_option maxRecDepth 20000 in
theorem ggX9_driver_X9_in : GoodIn wsX9_driver wsX9_in := goodIn_r _ [9] (by decide +kernel) (by decide +kernel)
set_option maxRecDepth 20000 in
theorem gX9_driver_X9_in : GoodIn wsX9_driver (va_wsS RX9 97 yX9_in wsX9_in) := goodIn_app (goodIn_of _ (by decide +kernel)) ggX9_driver_X9_in
theorem dX9_driver_0 : decode cX9_driver 0 = .ok (.aload_n 0, 1) := by decide +kernel
theorem dX9_driver_1 : decode cX9_driver 1 = .ok (.iconst 0, 1) := by decide +kernel
theorem dX9_driver_2 : decode cX9_driver 2 = .ok (.putfield 92, 3) := by decide +kernel
theorem dX9_driver_5 : decode cX9_driver 5 = .ok (.iload_n 1, 1) := by decide +kernel
theorem dX9_driver_6 : decode cX9_driver 6 = .ok (.ifCond .lt 8, 3) := by decide +kernel
theorem dX9_driver_9 : decode cX9_driver 9 = .ok (.iload_n 1, 1) := by decide +kernel
theorem dX9_driver_10 : decode cX9_driver 10 = .ok (.iconst 2, 1) := by decide +kernel
theorem dX9_driver_11 : decode cX9_driver 11 = .ok (.if_icmp .le 5, 3) := by decide +kernel
theorem dX9_driver_14 : decode cX9_driver 14 = .ok (.iconst (-1), 1) := by decide +kernel
theorem dX9_driver_15 : decode cX9_driver 15 = .ok (.ireturn, 1) := by decide +kernel
theorem dX9_driver_16 : decode cX9_driver 16 = .ok (.dload_n 2, 1) := by decide +kernel
theorem dX9_driver_17 : decode cX9_driver 17 = .ok (.iload_n 1, 1) := by decide +kernel
theorem dX9_driver_18 : decode cX9_driver 18 = .ok (.iconst 2, 1) := by decide +kernel
theorem dX9_driver_19 : decode cX9_driver 19 = .ok (.if_icmp .ne 9, 3) := by decide +kernel
theorem dX9_driver_22 : decode cX9_driver 22 = .ok (.ldc2_w 81, 3) := by decide +kernel
theorem dX9_driver_25 : decode cX9_driver 25 = .ok (.goto 4, 3) := by decide +kernel
theorem dX9_driver_28 : decode cX9_driver 28 = .ok (.dconst 0, 1) := by decide +kernel
theorem dX9_driver_29 : decode cX9_driver 29 = .ok (.dconst 1, 1) := by decide +kernel
theorem dX9_driver_30 : decode cX9_driver 30 = .ok (.invokestatic 97, 3) := by decide +kernel
theorem dX9_driver_33 : decode cX9_driver 33 = .ok (.ifCond .ne 6, 3) := by decide +kernel
theorem dX9_driver_36 : decode cX9_driver 36 = .ok (.bipush (-2), 2) := by decide +kernel
theorem dX9_driver_38 : decode cX9_driver 38 = .ok (.ireturn, 1) := by decide +kernel
theorem dX9_driver_39 : decode cX9_driver 39 = .ok (.iload_n 1, 1) := by decide +kernel
theorem dX9_driver_40 : decode cX9_driver 40 = .ok (.ifCond .ne 11, 3) := by decide +kernel
theorem dX9_driver_43 : decode cX9_driver 43 = .ok (.aload_n 0, 1) := by decide +kernel
theorem dX9_driver_44 : decode cX9_driver 44 = .ok (.dload_n 2, 1) := by decide +kernel
theorem dX9_driver_45 : decode cX9_driver 45 = .ok (.putfield 131, 3) := by decide +kernel
theorem dX9_driver_48 : decode cX9_driver 48 = .ok (.goto 21, 3) := by decide +kernel
theorem dX9_driver_51 : decode cX9_driver 51 = .ok (.iload_n 1, 1) := by decide +kernel
theorem dX9_driver_52 : decode cX9_driver 52 = .ok (.iconst 1, 1) := by decide +kernel
theorem dX9_driver_53 : decode cX9_driver 53 = .ok (.if_icmp .ne 11, 3) := by decide +kernel
theorem dX9_driver_56 : decode cX9_driver 56 = .ok (.aload_n 0, 1) := by decide +kernel
theorem dX9_driver_57 : decode cX9_driver 57 = .ok (.dload_n 2, 1) := by decide +kernel
theorem dX9_driver_58 : decode cX9_driver 58 = .ok (.putfield 134, 3) := by decide +kernel
theorem dX9_driver_61 : decode cX9_driver 61 = .ok (.goto 8, 3) := by decide +kernel
theorem dX9_driver_64 : decode cX9_driver 64 = .ok (.aload_n 0, 1) := by decide +kernel
theorem dX9_driver_65 : decode cX9_driver 65 = .ok (.dload_n 2, 1) := by decide +kernel
theorem dX9_driver_66 : decode cX9_driver 66 = .ok (.putfield 137, 3) := by decide +kernel
theorem dX9_driver_69 : decode cX9_driver 69 = .ok (.iconst 1, 1) := by decide +kernel
theorem dX9_driver_70 : decode cX9_driver 70 = .ok (.ireturn, 1) := by decide +kernel
set_option maxRecDepth 20000 in
theorem ggX9_limit_X9_in : GoodIn wsX9_limit wsX9_in := goodIn_r _ [13] (by decide +kernel) (by decide +kernel)
set_option maxRecDepth 20000 in
theorem gX9_limit_X9_in : GoodIn wsX9_limit (va_wsS RX9 97 yX9_in wsX9_in) := goodIn_app (goodIn_of _ (by decide +kernel)) ggX9_limit_X9_in
theorem dX9_limit_0 : decode cX9_limit 0 = .ok (.aload_n 0, 1) := by decide +kernel
theorem dX9_limit_1 : decode cX9_limit 1 = .ok (.iconst 0, 1) := by decide +kernel
theorem dX9_limit_2 : decode cX9_limit 2 = .ok (.putfield 92, 3) := by decide +kernel
theorem dX9_limit_5 : decode cX9_limit 5 = .ok (.iload_n 1, 1) := by decide +kernel
theorem dX9_limit_6 : decode cX9_limit 6 = .ok (.ifCond .lt 8, 3) := by decide +kernel
theorem dX9_limit_9 : decode cX9_limit 9 = .ok (.iload_n 1, 1) := by decide +kernel
theorem dX9_limit_10 : decode cX9_limit 10 = .ok (.iconst 3, 1) := by decide +kernel
theorem dX9_limit_11 : decode cX9_limit 11 = .ok (.if_icmp .le 5, 3) := by decide +kernel
theorem dX9_limit_14 : decode cX9_limit 14 = .ok (.iconst (-1), 1) := by decide +kernel
theorem dX9_limit_15 : decode cX9_limit 15 = .ok (.ireturn, 1) := by decide +kernel
theorem dX9_limit_16 : decode cX9_limit 16 = .ok (.iload_n 1, 1) := by decide +kernel
theorem dX9_limit_17 : decode cX9_limit 17 = .ok (.ifCond .ne 14, 3) := by decide +kernel
theorem dX9_limit_20 : decode cX9_limit 20 = .ok (.dload_n 2, 1) := by decide +kernel
theorem dX9_limit_21 : decode cX9_limit 21 = .ok (.dconst 0, 1) := by decide +kernel
theorem dX9_limit_22 : decode cX9_limit 22 = .ok (.ldc2_w 140, 3) := by decide +kernel
theorem dX9_limit_25 : decode cX9_limit 25 = .ok (.invokestatic 97, 3) := by decide +kernel
theorem dX9_limit_28 : decode cX9_limit 28 = .ok (.goto 45, 3) := by decide +kernel
theorem dX9_limit_31 : decode cX9_limit 31 = .ok (.iload_n 1, 1) := by decide +kernel
theorem dX9_limit_32 : decode cX9_limit 32 = .ok (.iconst 1, 1) := by decide +kernel
theorem dX9_limit_33 : decode cX9_limit 33 = .ok (.if_icmp .ne 16, 3) := by decide +kernel
theorem dX9_limit_36 : decode cX9_limit 36 = .ok (.dload_n 2, 1) := by decide +kernel
theorem dX9_limit_37 : decode cX9_limit 37 = .ok (.ldc2_w 142, 3) := by decide +kernel
theorem dX9_limit_40 : decode cX9_limit 40 = .ok (.ldc2_w 144, 3) := by decide +kernel
theorem dX9_limit_43 : decode cX9_limit 43 = .ok (.invokestatic 97, 3) := by decide +kernel
theorem dX9_limit_46 : decode cX9_limit 46 = .ok (.goto 27, 3) := by decide +kernel
theorem dX9_limit_49 : decode cX9_limit 49 = .ok (.iload_n 1, 1) := by decide +kernel
theorem dX9_limit_50 : decode cX9_limit 50 = .ok (.iconst 2, 1) := by decide +kernel
theorem dX9_limit_51 : decode cX9_limit 51 = .ok (.if_icmp .ne 14, 3) := by decide +kernel
theorem dX9_limit_54 : decode cX9_limit 54 = .ok (.dload_n 2, 1) := by decide +kernel
theorem dX9_limit_55 : decode cX9_limit 55 = .ok (.dconst 1, 1) := by decide +kernel
theorem dX9_limit_56 : decode cX9_limit 56 = .ok (.ldc2_w 67, 3) := by decide +kernel
theorem dX9_limit_59 : decode cX9_limit 59 = .ok (.invokestatic 97, 3) := by decide +kernel
theorem dX9_limit_62 : decode cX9_limit 62 = .ok (.goto 11, 3) := by decide +kernel
theorem dX9_limit_65 : decode cX9_limit 65 = .ok (.dload_n 2, 1) := by decide +kernel
theorem dX9_limit_66 : decode cX9_limit 66 = .ok (.dconst 0, 1) := by decide +kernel
theorem dX9_limit_67 : decode cX9_limit 67 = .ok (.ldc2_w 144, 3) := by decide +kernel
theorem dX9_limit_70 : decode cX9_limit 70 = .ok (.invokestatic 97, 3) := by decide +kernel
theorem dX9_limit_73 : decode cX9_limit 73 = .ok (.istore 4, 2) := by decide +kernel
theorem dX9_limit_75 : decode cX9_limit 75 = .ok (.iload 4, 2) := by decide +kernel
theorem dX9_limit_77 : decode cX9_limit 77 = .ok (.ifCond .ne 6, 3) := by decide +kernel
theorem dX9_limit_80 : decode cX9_limit 80 = .ok (.bipush (-2), 2) := by decide +kernel
theorem dX9_limit_82 : decode cX9_limit 82 = .ok (.ireturn, 1) := by decide +kernel
theorem dX9_limit_83 : decode cX9_limit 83 = .ok (.iload_n 1, 1) := by decide +kernel
theorem dX9_limit_84 : decode cX9_limit 84 = .ok (.ifCond .ne 11, 3) := by decide +kernel
theorem dX9_limit_87 : decode cX9_limit 87 = .ok (.aload_n 0, 1) := by decide +kernel
theorem dX9_limit_88 : decode cX9_limit 88 = .ok (.dload_n 2, 1) := by decide +kernel
theorem dX9_limit_89 : decode cX9_limit 89 = .ok (.putfield 146, 3) := by decide +kernel
theorem dX9_limit_92 : decode cX9_limit 92 = .ok (.goto 34, 3) := by decide +kernel
theorem dX9_limit_95 : decode cX9_limit 95 = .ok (.iload_n 1, 1) := by decide +kernel
theorem dX9_limit_96 : decode cX9_limit 96 = .ok (.iconst 1, 1) := by decide +kernel
theorem dX9_limit_97 : decode cX9_limit 97 = .ok (.if_icmp .ne 11, 3) := by decide +kernel
theorem dX9_limit_100 : decode cX9_limit 100 = .ok (.aload_n 0, 1) := by decide +kernel
theorem dX9_limit_101 : decode cX9_limit 101 = .ok (.dload_n 2, 1) := by decide +kernel
theorem dX9_limit_102 : decode cX9_limit 102 = .ok (.putfield 63, 3) := by decide +kernel
theorem dX9_limit_105 : decode cX9_limit 105 = .ok (.goto 21, 3) := by decide +kernel
theorem dX9_limit_108 : decode cX9_limit 108 = .ok (.iload_n 1, 1) := by decide +kernel
theorem dX9_limit_109 : decode cX9_limit 109 = .ok (.iconst 2, 1) := by decide +kernel
theorem dX9_limit_110 : decode cX9_limit 110 = .ok (.if_icmp .ne 11, 3) := by decide +kernel
theorem dX9_limit_113 : decode cX9_limit 113 = .ok (.aload_n 0, 1) := by decide +kernel
theorem dX9_limit_114 : decode cX9_limit 114 = .ok (.dload_n 2, 1) := by decide +kernel
theorem dX9_limit_115 : decode cX9_limit 115 = .ok (.putfield 69, 3) := by decide +kernel
theorem dX9_limit_118 : decode cX9_limit 118 = .ok (.goto 8, 3) := by decide +kernel
theorem dX9_limit_121 : decode cX9_limit 121 = .ok (.aload_n 0, 1) := by decide +kernel
theorem dX9_limit_122 : decode cX9_limit 122 = .ok (.dload_n 2, 1) := by decide +kernel
theorem dX9_limit_123 : decode cX9_limit 123 = .ok (.putfield 74, 3) := by decide +kernel
theorem dX9_limit_126 : decode cX9_limit 126 = .ok (.iconst 1, 1) := by decide +kernel
theorem dX9_limit_127 : decode cX9_limit 127 = .ok (.ireturn, 1) := by decide +kernel
set_option maxRecDepth 20000 in
theorem ggX9_hands_X9_in : GoodIn wsX9_hands wsX9_in := goodIn_r _ [9] (by decide +kernel) (by decide +kernel)
set_option maxRecDepth 20000 in
theorem gX9_hands_X9_in : GoodIn wsX9_hands (va_wsS RX9 97 yX9_in wsX9_in) := goodIn_app (goodIn_of _ (by decide +kernel)) ggX9_hands_X9_in
theorem dX9_hands_0 : decode cX9_hands 0 = .ok (.aload_n 0, 1) := by decide +kernel
theorem dX9_hands_1 : decode cX9_hands 1 = .ok (.iconst 0, 1) := by decide +kernel
theorem dX9_hands_2 : decode cX9_hands 2 = .ok (.putfield 92, 3) := by decide +kernel
theorem dX9_hands_5 : decode cX9_hands 5 = .ok (.dload_n 2, 1) := by decide +kernel
theorem dX9_hands_6 : decode cX9_hands 6 = .ok (.aload_n 0, 1) := by decide +kernel
theorem dX9_hands_7 : decode cX9_hands 7 = .ok (.getfield 109, 3) := by decide +kernel
theorem dX9_hands_10 : decode cX9_hands 10 = .ok (.ldc2_w 112, 3) := by decide +kernel
theorem dX9_hands_13 : decode cX9_hands 13 = .ok (.invokestatic 97, 3) := by decide +kernel
theorem dX9_hands_16 : decode cX9_hands 16 = .ok (.ifCond .ne 6, 3) := by decide +kernel
theorem dX9_hands_19 : decode cX9_hands 19 = .ok (.bipush (-2), 2) := by decide +kernel
theorem dX9_hands_21 : decode cX9_hands 21 = .ok (.ireturn, 1) := by decide +kernel
theorem dX9_hands_22 : decode cX9_hands 22 = .ok (.iload_n 1, 1) := by decide +kernel
theorem dX9_hands_23 : decode cX9_hands 23 = .ok (.aload_n 0, 1) := by decide +kernel
theorem dX9_hands_24 : decode cX9_hands 24 = .ok (.getfield 57, 3) := by decide +kernel
theorem dX9_hands_27 : decode cX9_hands 27 = .ok (.if_icmp .ne 5, 3) := by decide +kernel
theorem dX9_hands_30 : decode cX9_hands 30 = .ok (.iconst 0, 1) := by decide +kernel
theorem dX9_hands_31 : decode cX9_hands 31 = .ok (.ireturn, 1) := by decide +kernel
theorem dX9_hands_32 : decode cX9_hands 32 = .ok (.aload_n 0, 1) := by decide +kernel
theorem dX9_hands_33 : decode cX9_hands 33 = .ok (.iload_n 1, 1) := by decide +kernel
theorem dX9_hands_34 : decode cX9_hands 34 = .ok (.putfield 57, 3) := by decide +kernel
theorem dX9_hands_37 : decode cX9_hands 37 = .ok (.aload_n 0, 1) := by decide +kernel
theorem dX9_hands_38 : decode cX9_hands 38 = .ok (.dload_n 2, 1) := by decide +kernel
theorem dX9_hands_39 : decode cX9_hands 39 = .ok (.putfield 149, 3) := by decide +kernel
theorem dX9_hands_42 : decode cX9_hands 42 = .ok (.iconst 1, 1) := by decide +kernel
theorem dX9_hands_43 : decode cX9_hands 43 = .ok (.ireturn, 1) := by decide +kernel
set_option maxRecDepth 20000 in
theorem ggX9_handOver_X9_in : GoodIn wsX9_handOver wsX9_in := goodIn_r _ [11] (by decide +kernel) (by decide +kernel)
set_option maxRecDepth 20000 in
theorem gX9_handOver_X9_in : GoodIn wsX9_handOver (va_wsS RX9 97 yX9_in wsX9_in) := goodIn_app (goodIn_of _ (by decide +kernel)) ggX9_handOver_X9_in
theorem dX9_handOver_0 : decode cX9_handOver 0 = .ok (.aload_n 0, 1) := by decide +kernel
theorem dX9_handOver_1 : decode cX9_handOver 1 = .ok (.iconst 0, 1) := by decide +kernel
theorem dX9_handOver_2 : decode cX9_handOver 2 = .ok (.putfield 92, 3) := by decide +kernel
theorem dX9_handOver_5 : decode cX9_handOver 5 = .ok (.dload_n 1, 1) := by decide +kernel
theorem dX9_handOver_6 : decode cX9_handOver 6 = .ok (.aload_n 0, 1) := by decide +kernel
theorem dX9_handOver_7 : decode cX9_handOver 7 = .ok (.getfield 109, 3) := by decide +kernel
theorem dX9_handOver_10 : decode cX9_handOver 10 = .ok (.ldc2_w 112, 3) := by decide +kernel
theorem dX9_handOver_13 : decode cX9_handOver 13 = .ok (.invokestatic 97, 3) := by decide +kernel
theorem dX9_handOver_16 : decode cX9_handOver 16 = .ok (.ifCond .ne 6, 3) := by decide +kernel
theorem dX9_handOver_19 : decode cX9_handOver 19 = .ok (.bipush (-2), 2) := by decide +kernel
theorem dX9_handOver_21 : decode cX9_handOver 21 = .ok (.ireturn, 1) := by decide +kernel
theorem dX9_handOver_22 : decode cX9_handOver 22 = .ok (.aload_n 0, 1) := by decide +kernel
theorem dX9_handOver_23 : decode cX9_handOver 23 = .ok (.getfield 152, 3) := by decide +kernel
theorem dX9_handOver_26 : decode cX9_handOver 26 = .ok (.ifCond .ne 17, 3) := by decide +kernel
theorem dX9_handOver_29 : decode cX9_handOver 29 = .ok (.aload_n 0, 1) := by decide +kernel
theorem dX9_handOver_30 : decode cX9_handOver 30 = .ok (.getfield 57, 3) := by decide +kernel
theorem dX9_handOver_33 : decode cX9_handOver 33 = .ok (.ifCond .ne 10, 3) := by decide +kernel
theorem dX9_handOver_36 : decode cX9_handOver 36 = .ok (.aload_n 0, 1) := by decide +kernel
theorem dX9_handOver_37 : decode cX9_handOver 37 = .ok (.getfield 155, 3) := by decide +kernel
theorem dX9_handOver_40 : decode cX9_handOver 40 = .ok (.ifCond .eq 6, 3) := by decide +kernel
theorem dX9_handOver_43 : decode cX9_handOver 43 = .ok (.bipush (-3), 2) := by decide +kernel
theorem dX9_handOver_45 : decode cX9_handOver 45 = .ok (.ireturn, 1) := by decide +kernel
theorem dX9_handOver_46 : decode cX9_handOver 46 = .ok (.aload_n 0, 1) := by decide +kernel
theorem dX9_handOver_47 : decode cX9_handOver 47 = .ok (.iconst 1, 1) := by decide +kernel
theorem dX9_handOver_48 : decode cX9_handOver 48 = .ok (.putfield 152, 3) := by decide +kernel
theorem dX9_handOver_51 : decode cX9_handOver 51 = .ok (.aload_n 0, 1) := by decide +kernel
theorem dX9_handOver_52 : decode cX9_handOver 52 = .ok (.dload_n 1, 1) := by decide +kernel
theorem dX9_handOver_53 : decode cX9_handOver 53 = .ok (.putfield 158, 3) := by decide +kernel
theorem dX9_handOver_56 : decode cX9_handOver 56 = .ok (.iconst 1, 1) := by decide +kernel
theorem dX9_handOver_57 : decode cX9_handOver 57 = .ok (.ireturn, 1) := by decide +kernel
theorem dX9_sign_0 : decode cX9_sign 0 = .ok (.aload_n 0, 1) := by decide +kernel
theorem dX9_sign_1 : decode cX9_sign 1 = .ok (.iconst 0, 1) := by decide +kernel
theorem dX9_sign_2 : decode cX9_sign 2 = .ok (.putfield 92, 3) := by decide +kernel
theorem dX9_sign_5 : decode cX9_sign 5 = .ok (.iload_n 1, 1) := by decide +kernel
theorem dX9_sign_6 : decode cX9_sign 6 = .ok (.iconst 1, 1) := by decide +kernel
theorem dX9_sign_7 : decode cX9_sign 7 = .ok (.if_icmp .lt 9, 3) := by decide +kernel
theorem dX9_sign_10 : decode cX9_sign 10 = .ok (.iload_n 1, 1) := by decide +kernel
theorem dX9_sign_11 : decode cX9_sign 11 = .ok (.bipush 13, 2) := by decide +kernel
theorem dX9_sign_13 : decode cX9_sign 13 = .ok (.if_icmp .le 5, 3) := by decide +kernel
theorem dX9_sign_16 : decode cX9_sign 16 = .ok (.iconst (-1), 1) := by decide +kernel
theorem dX9_sign_17 : decode cX9_sign 17 = .ok (.ireturn, 1) := by decide +kernel
theorem dX9_sign_18 : decode cX9_sign 18 = .ok (.iload_n 2, 1) := by decide +kernel
theorem dX9_sign_19 : decode cX9_sign 19 = .ok (.ifCond .lt 9, 3) := by decide +kernel
theorem dX9_sign_22 : decode cX9_sign 22 = .ok (.iload_n 2, 1) := by decide +kernel
theorem dX9_sign_23 : decode cX9_sign 23 = .ok (.bipush 100, 2) := by decide +kernel
theorem dX9_sign_25 : decode cX9_sign 25 = .ok (.if_icmp .le 6, 3) := by decide +kernel
theorem dX9_sign_28 : decode cX9_sign 28 = .ok (.bipush (-2), 2) := by decide +kernel
theorem dX9_sign_30 : decode cX9_sign 30 = .ok (.ireturn, 1) := by decide +kernel
theorem dX9_sign_31 : decode cX9_sign 31 = .ok (.iconst 1, 1) := by decide +kernel
theorem dX9_sign_32 : decode cX9_sign 32 = .ok (.istore_n 3, 1) := by decide +kernel
theorem dX9_sign_33 : decode cX9_sign 33 = .ok (.iload_n 3, 1) := by decide +kernel
theorem dX9_sign_34 : decode cX9_sign 34 = .ok (.bipush 13, 2) := by decide +kernel
theorem dX9_sign_36 : decode cX9_sign 36 = .ok (.if_icmp .gt 74, 3) := by decide +kernel
theorem dX9_sign_39 : decode cX9_sign 39 = .ok (.iload_n 3, 1) := by decide +kernel
theorem dX9_sign_40 : decode cX9_sign 40 = .ok (.iload_n 1, 1) := by decide +kernel
theorem dX9_sign_41 : decode cX9_sign 41 = .ok (.if_icmp .ne 36, 3) := by decide +kernel
theorem dX9_sign_44 : decode cX9_sign 44 = .ok (.aload_n 0, 1) := by decide +kernel
theorem dX9_sign_45 : decode cX9_sign 45 = .ok (.getfield 89, 3) := by decide +kernel
theorem dX9_sign_48 : decode cX9_sign 48 = .ok (.iload_n 3, 1) := by decide +kernel
theorem dX9_sign_49 : decode cX9_sign 49 = .ok (.dup2, 1) := by decide +kernel
theorem dX9_sign_50 : decode cX9_sign 50 = .ok (.iaload, 1) := by decide +kernel
theorem dX9_sign_51 : decode cX9_sign 51 = .ok (.iload_n 2, 1) := by decide +kernel
theorem dX9_sign_52 : decode cX9_sign 52 = .ok (.bipush 60, 2) := by decide +kernel
theorem dX9_sign_54 : decode cX9_sign 54 = .ok (.if_icmp .lt 7, 3) := by decide +kernel
theorem dX9_sign_57 : decode cX9_sign 57 = .ok (.iconst 2, 1) := by decide +kernel
theorem dX9_sign_58 : decode cX9_sign 58 = .ok (.goto 14, 3) := by decide +kernel
theorem dX9_sign_61 : decode cX9_sign 61 = .ok (.iload_n 2, 1) := by decide +kernel
theorem dX9_sign_62 : decode cX9_sign 62 = .ok (.bipush 30, 2) := by decide +kernel
theorem dX9_sign_64 : decode cX9_sign 64 = .ok (.if_icmp .lt 7, 3) := by decide +kernel
theorem dX9_sign_67 : decode cX9_sign 67 = .ok (.iconst 1, 1) := by decide +kernel
theorem dX9_sign_68 : decode cX9_sign 68 = .ok (.goto 4, 3) := by decide +kernel
theorem dX9_sign_71 : decode cX9_sign 71 = .ok (.iconst 0, 1) := by decide +kernel
theorem dX9_sign_72 : decode cX9_sign 72 = .ok (.iadd, 1) := by decide +kernel
theorem dX9_sign_73 : decode cX9_sign 73 = .ok (.iastore, 1) := by decide +kernel
theorem dX9_sign_74 : decode cX9_sign 74 = .ok (.goto 30, 3) := by decide +kernel
theorem dX9_sign_77 : decode cX9_sign 77 = .ok (.aload_n 0, 1) := by decide +kernel
theorem dX9_sign_78 : decode cX9_sign 78 = .ok (.getfield 89, 3) := by decide +kernel
theorem dX9_sign_81 : decode cX9_sign 81 = .ok (.iload_n 3, 1) := by decide +kernel
theorem dX9_sign_82 : decode cX9_sign 82 = .ok (.aload_n 0, 1) := by decide +kernel
theorem dX9_sign_83 : decode cX9_sign 83 = .ok (.getfield 89, 3) := by decide +kernel
theorem dX9_sign_86 : decode cX9_sign 86 = .ok (.iload_n 3, 1) := by decide +kernel
theorem dX9_sign_87 : decode cX9_sign 87 = .ok (.iaload, 1) := by decide +kernel
theorem dX9_sign_88 : decode cX9_sign 88 = .ok (.ifCond .le 14, 3) := by decide +kernel
theorem dX9_sign_91 : decode cX9_sign 91 = .ok (.aload_n 0, 1) := by decide +kernel
theorem dX9_sign_92 : decode cX9_sign 92 = .ok (.getfield 89, 3) := by decide +kernel
theorem dX9_sign_95 : decode cX9_sign 95 = .ok (.iload_n 3, 1) := by decide +kernel
theorem dX9_sign_96 : decode cX9_sign 96 = .ok (.iaload, 1) := by decide +kernel
theorem dX9_sign_97 : decode cX9_sign 97 = .ok (.iconst 1, 1) := by decide +kernel
theorem dX9_sign_98 : decode cX9_sign 98 = .ok (.isub, 1) := by decide +kernel
theorem dX9_sign_99 : decode cX9_sign 99 = .ok (.goto 4, 3) := by decide +kernel
theorem dX9_sign_102 : decode cX9_sign 102 = .ok (.iconst 0, 1) := by decide +kernel
theorem dX9_sign_103 : decode cX9_sign 103 = .ok (.iastore, 1) := by decide +kernel
theorem dX9_sign_104 : decode cX9_sign 104 = .ok (.iinc 3 1, 3) := by decide +kernel
theorem dX9_sign_107 : decode cX9_sign 107 = .ok (.goto (-74), 3) := by decide +kernel
theorem dX9_sign_110 : decode cX9_sign 110 = .ok (.aload_n 0, 1) := by decide +kernel
theorem dX9_sign_111 : decode cX9_sign 111 = .ok (.getfield 89, 3) := by decide +kernel
theorem dX9_sign_114 : decode cX9_sign 114 = .ok (.iload_n 1, 1) := by decide +kernel
theorem dX9_sign_115 : decode cX9_sign 115 = .ok (.iaload, 1) := by decide +kernel
theorem dX9_sign_116 : decode cX9_sign 116 = .ok (.iconst 4, 1) := by decide +kernel
theorem dX9_sign_117 : decode cX9_sign 117 = .ok (.if_icmp .lt 29, 3) := by decide +kernel
theorem dX9_sign_120 : decode cX9_sign 120 = .ok (.aload_n 0, 1) := by decide +kernel
theorem dX9_sign_121 : decode cX9_sign 121 = .ok (.iload_n 1, 1) := by decide +kernel
theorem dX9_sign_122 : decode cX9_sign 122 = .ok (.putfield 161, 3) := by decide +kernel
theorem dX9_sign_125 : decode cX9_sign 125 = .ok (.iconst 1, 1) := by decide +kernel
theorem dX9_sign_126 : decode cX9_sign 126 = .ok (.istore_n 3, 1) := by decide +kernel
theorem dX9_sign_127 : decode cX9_sign 127 = .ok (.iload_n 3, 1) := by decide +kernel
theorem dX9_sign_128 : decode cX9_sign 128 = .ok (.bipush 13, 2) := by decide +kernel
theorem dX9_sign_130 : decode cX9_sign 130 = .ok (.if_icmp .gt 16, 3) := by decide +kernel
theorem dX9_sign_133 : decode cX9_sign 133 = .ok (.aload_n 0, 1) := by decide +kernel
theorem dX9_sign_134 : decode cX9_sign 134 = .ok (.getfield 89, 3) := by decide +kernel
theorem dX9_sign_137 : decode cX9_sign 137 = .ok (.iload_n 3, 1) := by decide +kernel
theorem dX9_sign_138 : decode cX9_sign 138 = .ok (.iconst 0, 1) := by decide +kernel
theorem dX9_sign_139 : decode cX9_sign 139 = .ok (.iastore, 1) := by decide +kernel
theorem dX9_sign_140 : decode cX9_sign 140 = .ok (.iinc 3 1, 3) := by decide +kernel
theorem dX9_sign_143 : decode cX9_sign 143 = .ok (.goto (-16), 3) := by decide +kernel
theorem dX9_sign_146 : decode cX9_sign 146 = .ok (.aload_n 0, 1) := by decide +kernel
theorem dX9_sign_147 : decode cX9_sign 147 = .ok (.getfield 161, 3) := by decide +kernel
theorem dX9_sign_150 : decode cX9_sign 150 = .ok (.ireturn, 1) := by decide +kernel
set_option maxRecDepth 20000 in
theorem ggX9_may_X9_size : GoodIn wsX9_may wsX9_size := goodIn_r _ [11] (by decide +kernel) (by decide +kernel)
set_option maxRecDepth 20000 in
theorem gX9_may_X9_size : GoodIn wsX9_may (va_wsS RX9 164 yX9_size wsX9_size) := goodIn_app (goodIn_of _ (by decide +kernel)) ggX9_may_X9_size
theorem dX9_may_0 : decode cX9_may 0 = .ok (.aload_n 0, 1) := by decide +kernel
theorem dX9_may_1 : decode cX9_may 1 = .ok (.getfield 7, 3) := by decide +kernel
theorem dX9_may_4 : decode cX9_may 4 = .ok (.iload_n 2, 1) := by decide +kernel
theorem dX9_may_5 : decode cX9_may 5 = .ok (.baload, 1) := by decide +kernel
theorem dX9_may_6 : decode cX9_may 6 = .ok (.ifCond .eq 53, 3) := by decide +kernel
theorem dX9_may_9 : decode cX9_may 9 = .ok (.aload_n 0, 1) := by decide +kernel
theorem dX9_may_10 : decode cX9_may 10 = .ok (.getfield 33, 3) := by decide +kernel
theorem dX9_may_13 : decode cX9_may 13 = .ok (.iload_n 1, 1) := by decide +kernel
theorem dX9_may_14 : decode cX9_may 14 = .ok (.daload, 1) := by decide +kernel
theorem dX9_may_15 : decode cX9_may 15 = .ok (.aload_n 0, 1) := by decide +kernel
theorem dX9_may_16 : decode cX9_may 16 = .ok (.getfield 13, 3) := by decide +kernel
theorem dX9_may_19 : decode cX9_may 19 = .ok (.iload_n 2, 1) := by decide +kernel
theorem dX9_may_20 : decode cX9_may 20 = .ok (.daload, 1) := by decide +kernel
theorem dX9_may_21 : decode cX9_may 21 = .ok (.dsub, 1) := by decide +kernel
theorem dX9_may_22 : decode cX9_may 22 = .ok (.invokestatic 164, 3) := by decide +kernel
theorem dX9_may_25 : decode cX9_may 25 = .ok (.ldc2_w 116, 3) := by decide +kernel
theorem dX9_may_28 : decode cX9_may 28 = .ok (.dcmp .g, 1) := by decide +kernel
theorem dX9_may_29 : decode cX9_may 29 = .ok (.ifCond .gt 30, 3) := by decide +kernel
theorem dX9_may_32 : decode cX9_may 32 = .ok (.aload_n 0, 1) := by decide +kernel
theorem dX9_may_33 : decode cX9_may 33 = .ok (.getfield 36, 3) := by decide +kernel
theorem dX9_may_36 : decode cX9_may 36 = .ok (.iload_n 1, 1) := by decide +kernel
theorem dX9_may_37 : decode cX9_may 37 = .ok (.daload, 1) := by decide +kernel
theorem dX9_may_38 : decode cX9_may 38 = .ok (.aload_n 0, 1) := by decide +kernel
theorem dX9_may_39 : decode cX9_may 39 = .ok (.getfield 17, 3) := by decide +kernel
theorem dX9_may_42 : decode cX9_may 42 = .ok (.iload_n 2, 1) := by decide +kernel
theorem dX9_may_43 : decode cX9_may 43 = .ok (.daload, 1) := by decide +kernel
theorem dX9_may_44 : decode cX9_may 44 = .ok (.dsub, 1) := by decide +kernel
theorem dX9_may_45 : decode cX9_may 45 = .ok (.invokestatic 164, 3) := by decide +kernel
theorem dX9_may_48 : decode cX9_may 48 = .ok (.ldc2_w 72, 3) := by decide +kernel
theorem dX9_may_51 : decode cX9_may 51 = .ok (.dcmp .g, 1) := by decide +kernel
theorem dX9_may_52 : decode cX9_may 52 = .ok (.ifCond .gt 7, 3) := by decide +kernel
theorem dX9_may_55 : decode cX9_may 55 = .ok (.iconst 1, 1) := by decide +kernel
theorem dX9_may_56 : decode cX9_may 56 = .ok (.goto 4, 3) := by decide +kernel
theorem dX9_may_59 : decode cX9_may 59 = .ok (.iconst 0, 1) := by decide +kernel
theorem dX9_may_60 : decode cX9_may 60 = .ok (.ireturn, 1) := by decide +kernel
set_option maxRecDepth 20000 in
theorem ggX9_cost_X9_size : GoodIn wsX9_cost wsX9_size := goodIn_r _ [9] (by decide +kernel) (by decide +kernel)
set_option maxRecDepth 20000 in
theorem gX9_cost_X9_size : GoodIn wsX9_cost (va_wsS RX9 164 yX9_size wsX9_size) := goodIn_app (goodIn_of _ (by decide +kernel)) ggX9_cost_X9_size
theorem dX9_cost_0 : decode cX9_cost 0 = .ok (.ldc2_w 168, 3) := by decide +kernel
theorem dX9_cost_3 : decode cX9_cost 3 = .ok (.aload_n 0, 1) := by decide +kernel
theorem dX9_cost_4 : decode cX9_cost 4 = .ok (.getfield 33, 3) := by decide +kernel
theorem dX9_cost_7 : decode cX9_cost 7 = .ok (.iload_n 1, 1) := by decide +kernel
theorem dX9_cost_8 : decode cX9_cost 8 = .ok (.daload, 1) := by decide +kernel
theorem dX9_cost_9 : decode cX9_cost 9 = .ok (.aload_n 0, 1) := by decide +kernel
theorem dX9_cost_10 : decode cX9_cost 10 = .ok (.getfield 13, 3) := by decide +kernel
theorem dX9_cost_13 : decode cX9_cost 13 = .ok (.iload_n 2, 1) := by decide +kernel
theorem dX9_cost_14 : decode cX9_cost 14 = .ok (.daload, 1) := by decide +kernel
theorem dX9_cost_15 : decode cX9_cost 15 = .ok (.dsub, 1) := by decide +kernel
theorem dX9_cost_16 : decode cX9_cost 16 = .ok (.invokestatic 164, 3) := by decide +kernel
theorem dX9_cost_19 : decode cX9_cost 19 = .ok (.dmul, 1) := by decide +kernel
theorem dX9_cost_20 : decode cX9_cost 20 = .ok (.ldc2_w 168, 3) := by decide +kernel
theorem dX9_cost_23 : decode cX9_cost 23 = .ok (.aload_n 0, 1) := by decide +kernel
theorem dX9_cost_24 : decode cX9_cost 24 = .ok (.getfield 36, 3) := by decide +kernel
theorem dX9_cost_27 : decode cX9_cost 27 = .ok (.iload_n 1, 1) := by decide +kernel
theorem dX9_cost_28 : decode cX9_cost 28 = .ok (.daload, 1) := by decide +kernel
theorem dX9_cost_29 : decode cX9_cost 29 = .ok (.aload_n 0, 1) := by decide +kernel
theorem dX9_cost_30 : decode cX9_cost 30 = .ok (.getfield 17, 3) := by decide +kernel
theorem dX9_cost_33 : decode cX9_cost 33 = .ok (.iload_n 2, 1) := by decide +kernel
theorem dX9_cost_34 : decode cX9_cost 34 = .ok (.daload, 1) := by decide +kernel
theorem dX9_cost_35 : decode cX9_cost 35 = .ok (.dsub, 1) := by decide +kernel
theorem dX9_cost_36 : decode cX9_cost 36 = .ok (.invokestatic 164, 3) := by decide +kernel
theorem dX9_cost_39 : decode cX9_cost 39 = .ok (.dmul, 1) := by decide +kernel
theorem dX9_cost_40 : decode cX9_cost 40 = .ok (.dadd, 1) := by decide +kernel
theorem dX9_cost_41 : decode cX9_cost 41 = .ok (.d2i, 1) := by decide +kernel
theorem dX9_cost_42 : decode cX9_cost 42 = .ok (.ireturn, 1) := by decide +kernel
set_option maxRecDepth 20000 in
theorem ggX9_isWay_X9_may : GoodIn wsX9_isWay wsX9_may := goodIn_r _ [7, 8, 9, 10, 11, 12, 13, 14, 15, 16, 6, 17, 18, 19, 20, 21, 22, 23, 24, 25, 26, 27, 28, 29, 30, 31, 32, 33, 34, 35, 36, 37, 38, 39, 40, 41, 42, 43, 44, 45, 46, 47, 48, 49, 50, 51, 52, 53, 54, 55, 56, 57, 58, 59, 60, 61] (by decide +kernel) (by decide +kernel)
set_option maxRecDepth 20000 in
theorem gX9_isWay_X9_may : GoodIn wsX9_isWay (wsV RX9 170 RX9 yX9_may wsX9_may) := goodIn_app (goodIn_of _ (by decide +kernel)) ggX9_isWay_X9_may
theorem dX9_isWay_0 : decode cX9_isWay 0 = .ok (.iconst 0, 1) := by decide +kernel
theorem dX9_isWay_1 : decode cX9_isWay 1 = .ok (.istore_n 2, 1) := by decide +kernel
theorem dX9_isWay_2 : decode cX9_isWay 2 = .ok (.iload_n 2, 1) := by decide +kernel
theorem dX9_isWay_3 : decode cX9_isWay 3 = .ok (.aload_n 0, 1) := by decide +kernel
theorem dX9_isWay_4 : decode cX9_isWay 4 = .ok (.getfield 30, 3) := by decide +kernel
theorem dX9_isWay_7 : decode cX9_isWay 7 = .ok (.iload_n 1, 1) := by decide +kernel
theorem dX9_isWay_8 : decode cX9_isWay 8 = .ok (.iaload, 1) := by decide +kernel
theorem dX9_isWay_9 : decode cX9_isWay 9 = .ok (.if_icmp .ge 73, 3) := by decide +kernel
theorem dX9_isWay_12 : decode cX9_isWay 12 = .ok (.aload_n 0, 1) := by decide +kernel
theorem dX9_isWay_13 : decode cX9_isWay 13 = .ok (.getfield 45, 3) := by decide +kernel
theorem dX9_isWay_16 : decode cX9_isWay 16 = .ok (.iload_n 2, 1) := by decide +kernel
theorem dX9_isWay_17 : decode cX9_isWay 17 = .ok (.iaload, 1) := by decide +kernel
theorem dX9_isWay_18 : decode cX9_isWay 18 = .ok (.bipush 8, 2) := by decide +kernel
theorem dX9_isWay_20 : decode cX9_isWay 20 = .ok (.if_icmp .ne 6, 3) := by decide +kernel
theorem dX9_isWay_23 : decode cX9_isWay 23 = .ok (.goto 53, 3) := by decide +kernel
theorem dX9_isWay_26 : decode cX9_isWay 26 = .ok (.aload_n 0, 1) := by decide +kernel
theorem dX9_isWay_27 : decode cX9_isWay 27 = .ok (.iconst 4, 1) := by decide +kernel
theorem dX9_isWay_28 : decode cX9_isWay 28 = .ok (.iload_n 1, 1) := by decide +kernel
theorem dX9_isWay_29 : decode cX9_isWay 29 = .ok (.imul, 1) := by decide +kernel
theorem dX9_isWay_30 : decode cX9_isWay 30 = .ok (.iload_n 2, 1) := by decide +kernel
theorem dX9_isWay_31 : decode cX9_isWay 31 = .ok (.iadd, 1) := by decide +kernel
theorem dX9_isWay_32 : decode cX9_isWay 32 = .ok (.aload_n 0, 1) := by decide +kernel
theorem dX9_isWay_33 : decode cX9_isWay 33 = .ok (.getfield 45, 3) := by decide +kernel
theorem dX9_isWay_36 : decode cX9_isWay 36 = .ok (.iload_n 2, 1) := by decide +kernel
theorem dX9_isWay_37 : decode cX9_isWay 37 = .ok (.iaload, 1) := by decide +kernel
theorem dX9_isWay_38 : decode cX9_isWay 38 = .ok (.invokevirtual 170, 3) := by decide +kernel
theorem dX9_isWay_41 : decode cX9_isWay 41 = .ok (.ifCond .ne 5, 3) := by decide +kernel
theorem dX9_isWay_44 : decode cX9_isWay 44 = .ok (.iconst 0, 1) := by decide +kernel
theorem dX9_isWay_45 : decode cX9_isWay 45 = .ok (.ireturn, 1) := by decide +kernel
theorem dX9_isWay_46 : decode cX9_isWay 46 = .ok (.iconst 0, 1) := by decide +kernel
theorem dX9_isWay_47 : decode cX9_isWay 47 = .ok (.istore_n 3, 1) := by decide +kernel
theorem dX9_isWay_48 : decode cX9_isWay 48 = .ok (.iload_n 3, 1) := by decide +kernel
theorem dX9_isWay_49 : decode cX9_isWay 49 = .ok (.iload_n 2, 1) := by decide +kernel
theorem dX9_isWay_50 : decode cX9_isWay 50 = .ok (.if_icmp .ge 26, 3) := by decide +kernel
theorem dX9_isWay_53 : decode cX9_isWay 53 = .ok (.aload_n 0, 1) := by decide +kernel
theorem dX9_isWay_54 : decode cX9_isWay 54 = .ok (.getfield 45, 3) := by decide +kernel
theorem dX9_isWay_57 : decode cX9_isWay 57 = .ok (.iload_n 3, 1) := by decide +kernel
theorem dX9_isWay_58 : decode cX9_isWay 58 = .ok (.iaload, 1) := by decide +kernel
theorem dX9_isWay_59 : decode cX9_isWay 59 = .ok (.aload_n 0, 1) := by decide +kernel
theorem dX9_isWay_60 : decode cX9_isWay 60 = .ok (.getfield 45, 3) := by decide +kernel
theorem dX9_isWay_63 : decode cX9_isWay 63 = .ok (.iload_n 2, 1) := by decide +kernel
theorem dX9_isWay_64 : decode cX9_isWay 64 = .ok (.iaload, 1) := by decide +kernel
theorem dX9_isWay_65 : decode cX9_isWay 65 = .ok (.if_icmp .ne 5, 3) := by decide +kernel
theorem dX9_isWay_68 : decode cX9_isWay 68 = .ok (.iconst 0, 1) := by decide +kernel
theorem dX9_isWay_69 : decode cX9_isWay 69 = .ok (.ireturn, 1) := by decide +kernel
theorem dX9_isWay_70 : decode cX9_isWay 70 = .ok (.iinc 3 1, 3) := by decide +kernel
theorem dX9_isWay_73 : decode cX9_isWay 73 = .ok (.goto (-25), 3) := by decide +kernel
theorem dX9_isWay_76 : decode cX9_isWay 76 = .ok (.iinc 2 1, 3) := by decide +kernel
theorem dX9_isWay_79 : decode cX9_isWay 79 = .ok (.goto (-77), 3) := by decide +kernel
theorem dX9_isWay_82 : decode cX9_isWay 82 = .ok (.iconst 1, 1) := by decide +kernel
theorem dX9_isWay_83 : decode cX9_isWay 83 = .ok (.ireturn, 1) := by decide +kernel
set_option maxRecDepth 20000 in
theorem ggX9_findWay_X9_isWay : GoodIn wsX9_findWay wsX9_isWay := goodIn_r _ [8, 1, 2, 9, 10, 11, 7, 12, 13, 14, 15, 16, 17, 18, 19, 20, 21, 22, 28, 29, 30, 31, 32, 33, 34, 35, 36, 37, 38, 39, 40, 41, 42, 43, 44, 45, 46, 47, 48, 49, 50, 51, 52, 53, 54, 55, 56, 57, 58, 59, 60, 61, 62, 63, 64, 65, 66, 67, 68, 69, 70, 71] (by decide +kernel) (by decide +kernel)
set_option maxRecDepth 20000 in
theorem gX9_findWay_X9_isWay : GoodIn wsX9_findWay (wsV RX9 174 RX9 yX9_isWay wsX9_isWay) := goodIn_app (goodIn_of _ (by decide +kernel)) ggX9_findWay_X9_isWay
set_option maxRecDepth 20000 in
theorem ggX9_findWay_X9_cost : GoodIn wsX9_findWay wsX9_cost := goodIn_r _ [26, 27, 14, 15, 17, 18, 20, 21, 7, 22, 28, 29, 30, 31, 32, 33, 34, 35, 36, 37, 38, 39, 40, 41, 42, 43, 44, 45, 46, 47, 48, 49, 50, 51, 52, 53, 54, 55, 56, 57, 58, 59, 60, 61, 62, 63, 64, 65, 66, 67, 68, 69, 70, 71] (by decide +kernel) (by decide +kernel)
set_option maxRecDepth 20000 in
theorem gX9_findWay_X9_cost : GoodIn wsX9_findWay (wsV RX9 178 RX9 yX9_cost wsX9_cost) := goodIn_app (goodIn_of _ (by decide +kernel)) ggX9_findWay_X9_cost
theorem dX9_findWay_0 : decode cX9_findWay 0 = .ok (.aload_n 0, 1) := by decide +kernel
theorem dX9_findWay_1 : decode cX9_findWay 1 = .ok (.getfield 30, 3) := by decide +kernel
theorem dX9_findWay_4 : decode cX9_findWay 4 = .ok (.iload_n 1, 1) := by decide +kernel
theorem dX9_findWay_5 : decode cX9_findWay 5 = .ok (.iaload, 1) := by decide +kernel
theorem dX9_findWay_6 : decode cX9_findWay 6 = .ok (.istore_n 2, 1) := by decide +kernel
theorem dX9_findWay_7 : decode cX9_findWay 7 = .ok (.iconst 1, 1) := by decide +kernel
theorem dX9_findWay_8 : decode cX9_findWay 8 = .ok (.istore_n 3, 1) := by decide +kernel
theorem dX9_findWay_9 : decode cX9_findWay 9 = .ok (.iconst 0, 1) := by decide +kernel
theorem dX9_findWay_10 : decode cX9_findWay 10 = .ok (.istore 4, 2) := by decide +kernel
theorem dX9_findWay_12 : decode cX9_findWay 12 = .ok (.iload 4, 2) := by decide +kernel
theorem dX9_findWay_14 : decode cX9_findWay 14 = .ok (.iload_n 2, 1) := by decide +kernel
theorem dX9_findWay_15 : decode cX9_findWay 15 = .ok (.if_icmp .ge 14, 3) := by decide +kernel
theorem dX9_findWay_18 : decode cX9_findWay 18 = .ok (.iload_n 3, 1) := by decide +kernel
theorem dX9_findWay_19 : decode cX9_findWay 19 = .ok (.bipush 9, 2) := by decide +kernel
theorem dX9_findWay_21 : decode cX9_findWay 21 = .ok (.imul, 1) := by decide +kernel
theorem dX9_findWay_22 : decode cX9_findWay 22 = .ok (.istore_n 3, 1) := by decide +kernel
theorem dX9_findWay_23 : decode cX9_findWay 23 = .ok (.iinc 4 1, 3) := by decide +kernel
theorem dX9_findWay_26 : decode cX9_findWay 26 = .ok (.goto (-14), 3) := by decide +kernel
theorem dX9_findWay_29 : decode cX9_findWay 29 = .ok (.iconst (-1), 1) := by decide +kernel
theorem dX9_findWay_30 : decode cX9_findWay 30 = .ok (.istore 4, 2) := by decide +kernel
theorem dX9_findWay_32 : decode cX9_findWay 32 = .ok (.iconst 0, 1) := by decide +kernel
theorem dX9_findWay_33 : decode cX9_findWay 33 = .ok (.istore 5, 2) := by decide +kernel
theorem dX9_findWay_35 : decode cX9_findWay 35 = .ok (.iconst 0, 1) := by decide +kernel
theorem dX9_findWay_36 : decode cX9_findWay 36 = .ok (.istore 6, 2) := by decide +kernel
theorem dX9_findWay_38 : decode cX9_findWay 38 = .ok (.iload 6, 2) := by decide +kernel
theorem dX9_findWay_40 : decode cX9_findWay 40 = .ok (.iload_n 3, 1) := by decide +kernel
theorem dX9_findWay_41 : decode cX9_findWay 41 = .ok (.if_icmp .ge 175, 3) := by decide +kernel
theorem dX9_findWay_44 : decode cX9_findWay 44 = .ok (.iload 6, 2) := by decide +kernel
theorem dX9_findWay_46 : decode cX9_findWay 46 = .ok (.istore 7, 2) := by decide +kernel
theorem dX9_findWay_48 : decode cX9_findWay 48 = .ok (.iload_n 2, 1) := by decide +kernel
theorem dX9_findWay_49 : decode cX9_findWay 49 = .ok (.iconst 1, 1) := by decide +kernel
theorem dX9_findWay_50 : decode cX9_findWay 50 = .ok (.isub, 1) := by decide +kernel
theorem dX9_findWay_51 : decode cX9_findWay 51 = .ok (.istore 8, 2) := by decide +kernel
theorem dX9_findWay_53 : decode cX9_findWay 53 = .ok (.iload 8, 2) := by decide +kernel
theorem dX9_findWay_55 : decode cX9_findWay 55 = .ok (.ifCond .lt 28, 3) := by decide +kernel
theorem dX9_findWay_58 : decode cX9_findWay 58 = .ok (.aload_n 0, 1) := by decide +kernel
theorem dX9_findWay_59 : decode cX9_findWay 59 = .ok (.getfield 45, 3) := by decide +kernel
theorem dX9_findWay_62 : decode cX9_findWay 62 = .ok (.iload 8, 2) := by decide +kernel
theorem dX9_findWay_64 : decode cX9_findWay 64 = .ok (.iload 7, 2) := by decide +kernel
theorem dX9_findWay_66 : decode cX9_findWay 66 = .ok (.bipush 9, 2) := by decide +kernel
theorem dX9_findWay_68 : decode cX9_findWay 68 = .ok (.irem, 1) := by decide +kernel
theorem dX9_findWay_69 : decode cX9_findWay 69 = .ok (.iastore, 1) := by decide +kernel
theorem dX9_findWay_70 : decode cX9_findWay 70 = .ok (.iload 7, 2) := by decide +kernel
theorem dX9_findWay_72 : decode cX9_findWay 72 = .ok (.bipush 9, 2) := by decide +kernel
theorem dX9_findWay_74 : decode cX9_findWay 74 = .ok (.idiv, 1) := by decide +kernel
theorem dX9_findWay_75 : decode cX9_findWay 75 = .ok (.istore 7, 2) := by decide +kernel
theorem dX9_findWay_77 : decode cX9_findWay 77 = .ok (.iinc 8 (-1), 3) := by decide +kernel
theorem dX9_findWay_80 : decode cX9_findWay 80 = .ok (.goto (-27), 3) := by decide +kernel
theorem dX9_findWay_83 : decode cX9_findWay 83 = .ok (.aload_n 0, 1) := by decide +kernel
theorem dX9_findWay_84 : decode cX9_findWay 84 = .ok (.iload_n 1, 1) := by decide +kernel
theorem dX9_findWay_85 : decode cX9_findWay 85 = .ok (.invokevirtual 174, 3) := by decide +kernel
theorem dX9_findWay_88 : decode cX9_findWay 88 = .ok (.ifCond .ne 6, 3) := by decide +kernel
theorem dX9_findWay_91 : decode cX9_findWay 91 = .ok (.goto 119, 3) := by decide +kernel
theorem dX9_findWay_94 : decode cX9_findWay 94 = .ok (.iconst 0, 1) := by decide +kernel
theorem dX9_findWay_95 : decode cX9_findWay 95 = .ok (.istore 8, 2) := by decide +kernel
theorem dX9_findWay_97 : decode cX9_findWay 97 = .ok (.iconst 0, 1) := by decide +kernel
theorem dX9_findWay_98 : decode cX9_findWay 98 = .ok (.istore 9, 2) := by decide +kernel
theorem dX9_findWay_100 : decode cX9_findWay 100 = .ok (.iconst 0, 1) := by decide +kernel
theorem dX9_findWay_101 : decode cX9_findWay 101 = .ok (.istore 10, 2) := by decide +kernel
theorem dX9_findWay_103 : decode cX9_findWay 103 = .ok (.iload 10, 2) := by decide +kernel
theorem dX9_findWay_105 : decode cX9_findWay 105 = .ok (.iload_n 2, 1) := by decide +kernel
theorem dX9_findWay_106 : decode cX9_findWay 106 = .ok (.if_icmp .ge 46, 3) := by decide +kernel
theorem dX9_findWay_109 : decode cX9_findWay 109 = .ok (.aload_n 0, 1) := by decide +kernel
theorem dX9_findWay_110 : decode cX9_findWay 110 = .ok (.getfield 45, 3) := by decide +kernel
theorem dX9_findWay_113 : decode cX9_findWay 113 = .ok (.iload 10, 2) := by decide +kernel
theorem dX9_findWay_115 : decode cX9_findWay 115 = .ok (.iaload, 1) := by decide +kernel
theorem dX9_findWay_116 : decode cX9_findWay 116 = .ok (.bipush 8, 2) := by decide +kernel
theorem dX9_findWay_118 : decode cX9_findWay 118 = .ok (.if_icmp .ge 28, 3) := by decide +kernel
theorem dX9_findWay_121 : decode cX9_findWay 121 = .ok (.iinc 8 1, 3) := by decide +kernel
theorem dX9_findWay_124 : decode cX9_findWay 124 = .ok (.iload 9, 2) := by decide +kernel
theorem dX9_findWay_126 : decode cX9_findWay 126 = .ok (.aload_n 0, 1) := by decide +kernel
theorem dX9_findWay_127 : decode cX9_findWay 127 = .ok (.iconst 4, 1) := by decide +kernel
theorem dX9_findWay_128 : decode cX9_findWay 128 = .ok (.iload_n 1, 1) := by decide +kernel
theorem dX9_findWay_129 : decode cX9_findWay 129 = .ok (.imul, 1) := by decide +kernel
theorem dX9_findWay_130 : decode cX9_findWay 130 = .ok (.iload 10, 2) := by decide +kernel
theorem dX9_findWay_132 : decode cX9_findWay 132 = .ok (.iadd, 1) := by decide +kernel
theorem dX9_findWay_133 : decode cX9_findWay 133 = .ok (.aload_n 0, 1) := by decide +kernel
theorem dX9_findWay_134 : decode cX9_findWay 134 = .ok (.getfield 45, 3) := by decide +kernel
theorem dX9_findWay_137 : decode cX9_findWay 137 = .ok (.iload 10, 2) := by decide +kernel
theorem dX9_findWay_139 : decode cX9_findWay 139 = .ok (.iaload, 1) := by decide +kernel
theorem dX9_findWay_140 : decode cX9_findWay 140 = .ok (.invokevirtual 178, 3) := by decide +kernel
theorem dX9_findWay_143 : decode cX9_findWay 143 = .ok (.iadd, 1) := by decide +kernel
theorem dX9_findWay_144 : decode cX9_findWay 144 = .ok (.istore 9, 2) := by decide +kernel
theorem dX9_findWay_146 : decode cX9_findWay 146 = .ok (.iinc 10 1, 3) := by decide +kernel
theorem dX9_findWay_149 : decode cX9_findWay 149 = .ok (.goto (-46), 3) := by decide +kernel
theorem dX9_findWay_152 : decode cX9_findWay 152 = .ok (.iload 8, 2) := by decide +kernel
theorem dX9_findWay_154 : decode cX9_findWay 154 = .ok (.iload 4, 2) := by decide +kernel
theorem dX9_findWay_156 : decode cX9_findWay 156 = .ok (.if_icmp .gt 17, 3) := by decide +kernel
theorem dX9_findWay_159 : decode cX9_findWay 159 = .ok (.iload 8, 2) := by decide +kernel
theorem dX9_findWay_161 : decode cX9_findWay 161 = .ok (.iload 4, 2) := by decide +kernel
theorem dX9_findWay_163 : decode cX9_findWay 163 = .ok (.if_icmp .ne 47, 3) := by decide +kernel
theorem dX9_findWay_166 : decode cX9_findWay 166 = .ok (.iload 9, 2) := by decide +kernel
theorem dX9_findWay_168 : decode cX9_findWay 168 = .ok (.iload 5, 2) := by decide +kernel
theorem dX9_findWay_170 : decode cX9_findWay 170 = .ok (.if_icmp .ge 40, 3) := by decide +kernel
theorem dX9_findWay_173 : decode cX9_findWay 173 = .ok (.iload 8, 2) := by decide +kernel
theorem dX9_findWay_175 : decode cX9_findWay 175 = .ok (.istore 4, 2) := by decide +kernel
theorem dX9_findWay_177 : decode cX9_findWay 177 = .ok (.iload 9, 2) := by decide +kernel
theorem dX9_findWay_179 : decode cX9_findWay 179 = .ok (.istore 5, 2) := by decide +kernel
theorem dX9_findWay_181 : decode cX9_findWay 181 = .ok (.iconst 0, 1) := by decide +kernel
theorem dX9_findWay_182 : decode cX9_findWay 182 = .ok (.istore 10, 2) := by decide +kernel
theorem dX9_findWay_184 : decode cX9_findWay 184 = .ok (.iload 10, 2) := by decide +kernel
theorem dX9_findWay_186 : decode cX9_findWay 186 = .ok (.iload_n 2, 1) := by decide +kernel
theorem dX9_findWay_187 : decode cX9_findWay 187 = .ok (.if_icmp .ge 23, 3) := by decide +kernel
theorem dX9_findWay_190 : decode cX9_findWay 190 = .ok (.aload_n 0, 1) := by decide +kernel
theorem dX9_findWay_191 : decode cX9_findWay 191 = .ok (.getfield 42, 3) := by decide +kernel
theorem dX9_findWay_194 : decode cX9_findWay 194 = .ok (.iload 10, 2) := by decide +kernel
theorem dX9_findWay_196 : decode cX9_findWay 196 = .ok (.aload_n 0, 1) := by decide +kernel
theorem dX9_findWay_197 : decode cX9_findWay 197 = .ok (.getfield 45, 3) := by decide +kernel
theorem dX9_findWay_200 : decode cX9_findWay 200 = .ok (.iload 10, 2) := by decide +kernel
theorem dX9_findWay_202 : decode cX9_findWay 202 = .ok (.iaload, 1) := by decide +kernel
theorem dX9_findWay_203 : decode cX9_findWay 203 = .ok (.iastore, 1) := by decide +kernel
theorem dX9_findWay_204 : decode cX9_findWay 204 = .ok (.iinc 10 1, 3) := by decide +kernel
theorem dX9_findWay_207 : decode cX9_findWay 207 = .ok (.goto (-23), 3) := by decide +kernel
theorem dX9_findWay_210 : decode cX9_findWay 210 = .ok (.iinc 6 1, 3) := by decide +kernel
theorem dX9_findWay_213 : decode cX9_findWay 213 = .ok (.goto (-175), 3) := by decide +kernel
theorem dX9_findWay_216 : decode cX9_findWay 216 = .ok (.return_, 1) := by decide +kernel
set_option maxRecDepth 20000 in
theorem ggX9_tell_X9_size : GoodIn wsX9_tell wsX9_size := goodIn_r _ [9] (by decide +kernel) (by decide +kernel)
set_option maxRecDepth 20000 in
theorem gX9_tell_X9_size : GoodIn wsX9_tell (va_wsS RX9 164 yX9_size wsX9_size) := goodIn_app (goodIn_of _ (by decide +kernel)) ggX9_tell_X9_size
theorem dX9_tell_0 : decode cX9_tell 0 = .ok (.iload_n 1, 1) := by decide +kernel
theorem dX9_tell_1 : decode cX9_tell 1 = .ok (.ifCond .ne 20, 3) := by decide +kernel
theorem dX9_tell_4 : decode cX9_tell 4 = .ok (.aload_n 0, 1) := by decide +kernel
theorem dX9_tell_5 : decode cX9_tell 5 = .ok (.getfield 48, 3) := by decide +kernel
theorem dX9_tell_8 : decode cX9_tell 8 = .ok (.iload_n 2, 1) := by decide +kernel
theorem dX9_tell_9 : decode cX9_tell 9 = .ok (.iconst 1, 1) := by decide +kernel
theorem dX9_tell_10 : decode cX9_tell 10 = .ok (.bastore, 1) := by decide +kernel
theorem dX9_tell_11 : decode cX9_tell 11 = .ok (.aload_n 0, 1) := by decide +kernel
theorem dX9_tell_12 : decode cX9_tell 12 = .ok (.getfield 54, 3) := by decide +kernel
theorem dX9_tell_15 : decode cX9_tell 15 = .ok (.iload_n 2, 1) := by decide +kernel
theorem dX9_tell_16 : decode cX9_tell 16 = .ok (.dload_n 3, 1) := by decide +kernel
theorem dX9_tell_17 : decode cX9_tell 17 = .ok (.dastore, 1) := by decide +kernel
theorem dX9_tell_18 : decode cX9_tell 18 = .ok (.goto 53, 3) := by decide +kernel
theorem dX9_tell_21 : decode cX9_tell 21 = .ok (.aload_n 0, 1) := by decide +kernel
theorem dX9_tell_22 : decode cX9_tell 22 = .ok (.getfield 51, 3) := by decide +kernel
theorem dX9_tell_25 : decode cX9_tell 25 = .ok (.iload_n 2, 1) := by decide +kernel
theorem dX9_tell_26 : decode cX9_tell 26 = .ok (.iconst 1, 1) := by decide +kernel
theorem dX9_tell_27 : decode cX9_tell 27 = .ok (.bastore, 1) := by decide +kernel
theorem dX9_tell_28 : decode cX9_tell 28 = .ok (.aload_n 0, 1) := by decide +kernel
theorem dX9_tell_29 : decode cX9_tell 29 = .ok (.aload_n 0, 1) := by decide +kernel
theorem dX9_tell_30 : decode cX9_tell 30 = .ok (.getfield 182, 3) := by decide +kernel
theorem dX9_tell_33 : decode cX9_tell 33 = .ok (.ifCond .ne 30, 3) := by decide +kernel
theorem dX9_tell_36 : decode cX9_tell 36 = .ok (.aload_n 0, 1) := by decide +kernel
theorem dX9_tell_37 : decode cX9_tell 37 = .ok (.getfield 48, 3) := by decide +kernel
theorem dX9_tell_40 : decode cX9_tell 40 = .ok (.iload_n 2, 1) := by decide +kernel
theorem dX9_tell_41 : decode cX9_tell 41 = .ok (.baload, 1) := by decide +kernel
theorem dX9_tell_42 : decode cX9_tell 42 = .ok (.ifCond .eq 25, 3) := by decide +kernel
theorem dX9_tell_45 : decode cX9_tell 45 = .ok (.aload_n 0, 1) := by decide +kernel
theorem dX9_tell_46 : decode cX9_tell 46 = .ok (.getfield 54, 3) := by decide +kernel
theorem dX9_tell_49 : decode cX9_tell 49 = .ok (.iload_n 2, 1) := by decide +kernel
theorem dX9_tell_50 : decode cX9_tell 50 = .ok (.daload, 1) := by decide +kernel
theorem dX9_tell_51 : decode cX9_tell 51 = .ok (.dload_n 3, 1) := by decide +kernel
theorem dX9_tell_52 : decode cX9_tell 52 = .ok (.dsub, 1) := by decide +kernel
theorem dX9_tell_53 : decode cX9_tell 53 = .ok (.invokestatic 164, 3) := by decide +kernel
theorem dX9_tell_56 : decode cX9_tell 56 = .ok (.ldc2_w 116, 3) := by decide +kernel
theorem dX9_tell_59 : decode cX9_tell 59 = .ok (.dcmp .l, 1) := by decide +kernel
theorem dX9_tell_60 : decode cX9_tell 60 = .ok (.ifCond .le 7, 3) := by decide +kernel
theorem dX9_tell_63 : decode cX9_tell 63 = .ok (.iconst 1, 1) := by decide +kernel
theorem dX9_tell_64 : decode cX9_tell 64 = .ok (.goto 4, 3) := by decide +kernel
theorem dX9_tell_67 : decode cX9_tell 67 = .ok (.iconst 0, 1) := by decide +kernel
theorem dX9_tell_68 : decode cX9_tell 68 = .ok (.putfield 182, 3) := by decide +kernel
theorem dX9_tell_71 : decode cX9_tell 71 = .ok (.return_, 1) := by decide +kernel
set_option maxRecDepth 20000 in
theorem ggX9_joinSensor_X9_findWay : GoodIn wsX9_joinSensor wsX9_findWay := goodIn_r _ [16, 1, 17, 2, 18, 19, 20, 15, 21, 22, 23, 24, 25, 26, 5, 3, 27, 7, 6, 28, 29, 30, 31, 32, 33, 34, 35, 36, 50, 51, 52, 53, 54, 55, 56, 57, 58, 59, 60, 61, 62, 63, 64, 65, 66, 67, 68, 69, 70, 71, 72, 73, 74, 75, 76, 77, 78, 79, 80, 81, 82, 83, 84, 85, 86, 87, 88, 89, 90, 91, 92, 93] (by decide +kernel) (by decide +kernel)
set_option maxRecDepth 20000 in
theorem gX9_joinSensor_X9_findWay : GoodIn wsX9_joinSensor (wsV RX9 185 RX9 yX9_findWay wsX9_findWay) := goodIn_app (goodIn_of _ (by decide +kernel)) ggX9_joinSensor_X9_findWay
set_option maxRecDepth 20000 in
theorem ggX9_joinSensor_X9_tell : GoodIn wsX9_joinSensor wsX9_tell := goodIn_r _ [40, 41, 42, 43, 44, 27, 29, 30, 15, 31, 50, 51, 52, 53, 54, 55, 56, 57, 58, 59, 60, 61, 62, 63, 64, 65, 66, 67, 68, 69, 70, 71, 72, 73, 74, 75, 76, 77, 78, 79, 80, 81, 82, 83, 84, 85, 86, 87, 88, 89, 90, 91, 92, 93] (by decide +kernel) (by decide +kernel)
set_option maxRecDepth 20000 in
theorem gX9_joinSensor_X9_tell : GoodIn wsX9_joinSensor (wsV RX9 191 RX9 yX9_tell wsX9_tell) := goodIn_app (goodIn_of _ (by decide +kernel)) ggX9_joinSensor_X9_tell
set_option maxRecDepth 20000 in
theorem ggX9_joinSensor_X9_begin : GoodIn wsX9_joinSensor wsX9_begin := goodIn_r _ [48, 26, 3, 5, 6, 7, 8, 10, 11, 49, 37, 38, 39, 15, 40, 41, 42, 43, 44, 27, 29, 30, 31, 50, 51, 52, 53, 54, 55, 56, 57, 58, 59, 60, 61, 62, 63, 64, 65, 66, 67, 68, 69, 70, 71, 72, 73, 74, 75, 76, 77, 78, 79, 80, 81, 82, 83, 84, 85, 86, 87, 88, 89, 90, 91, 92, 93] (by decide +kernel) (by decide +kernel)
set_option maxRecDepth 20000 in
theorem gX9_joinSensor_X9_begin : GoodIn wsX9_joinSensor (wsV RX9 195 RX9 yX9_begin wsX9_begin) := goodIn_app (goodIn_of _ (by decide +kernel)) ggX9_joinSensor_X9_begin
theorem dX9_joinSensor_0 : decode cX9_joinSensor 0 = .ok (.aload_n 0, 1) := by decide +kernel
theorem dX9_joinSensor_1 : decode cX9_joinSensor 1 = .ok (.iload_n 1, 1) := by decide +kernel
theorem dX9_joinSensor_2 : decode cX9_joinSensor 2 = .ok (.invokevirtual 185, 3) := by decide +kernel
theorem dX9_joinSensor_5 : decode cX9_joinSensor 5 = .ok (.aload_n 0, 1) := by decide +kernel
theorem dX9_joinSensor_6 : decode cX9_joinSensor 6 = .ok (.getfield 30, 3) := by decide +kernel
theorem dX9_joinSensor_9 : decode cX9_joinSensor 9 = .ok (.iload_n 1, 1) := by decide +kernel
theorem dX9_joinSensor_10 : decode cX9_joinSensor 10 = .ok (.iaload, 1) := by decide +kernel
theorem dX9_joinSensor_11 : decode cX9_joinSensor 11 = .ok (.istore_n 2, 1) := by decide +kernel
theorem dX9_joinSensor_12 : decode cX9_joinSensor 12 = .ok (.iconst 0, 1) := by decide +kernel
theorem dX9_joinSensor_13 : decode cX9_joinSensor 13 = .ok (.istore_n 3, 1) := by decide +kernel
theorem dX9_joinSensor_14 : decode cX9_joinSensor 14 = .ok (.iload_n 3, 1) := by decide +kernel
theorem dX9_joinSensor_15 : decode cX9_joinSensor 15 = .ok (.iload_n 2, 1) := by decide +kernel
theorem dX9_joinSensor_16 : decode cX9_joinSensor 16 = .ok (.if_icmp .ge 178, 3) := by decide +kernel
theorem dX9_joinSensor_19 : decode cX9_joinSensor 19 = .ok (.aload_n 0, 1) := by decide +kernel
theorem dX9_joinSensor_20 : decode cX9_joinSensor 20 = .ok (.getfield 42, 3) := by decide +kernel
theorem dX9_joinSensor_23 : decode cX9_joinSensor 23 = .ok (.iload_n 3, 1) := by decide +kernel
theorem dX9_joinSensor_24 : decode cX9_joinSensor 24 = .ok (.iaload, 1) := by decide +kernel
theorem dX9_joinSensor_25 : decode cX9_joinSensor 25 = .ok (.istore 4, 2) := by decide +kernel
theorem dX9_joinSensor_27 : decode cX9_joinSensor 27 = .ok (.iconst 4, 1) := by decide +kernel
theorem dX9_joinSensor_28 : decode cX9_joinSensor 28 = .ok (.iload_n 1, 1) := by decide +kernel
theorem dX9_joinSensor_29 : decode cX9_joinSensor 29 = .ok (.imul, 1) := by decide +kernel
theorem dX9_joinSensor_30 : decode cX9_joinSensor 30 = .ok (.iload_n 3, 1) := by decide +kernel
theorem dX9_joinSensor_31 : decode cX9_joinSensor 31 = .ok (.iadd, 1) := by decide +kernel
theorem dX9_joinSensor_32 : decode cX9_joinSensor 32 = .ok (.istore 5, 2) := by decide +kernel
theorem dX9_joinSensor_34 : decode cX9_joinSensor 34 = .ok (.iload 4, 2) := by decide +kernel
theorem dX9_joinSensor_36 : decode cX9_joinSensor 36 = .ok (.bipush 8, 2) := by decide +kernel
theorem dX9_joinSensor_38 : decode cX9_joinSensor 38 = .ok (.if_icmp .ge 150, 3) := by decide +kernel
theorem dX9_joinSensor_41 : decode cX9_joinSensor 41 = .ok (.aload_n 0, 1) := by decide +kernel
theorem dX9_joinSensor_42 : decode cX9_joinSensor 42 = .ok (.getfield 13, 3) := by decide +kernel
theorem dX9_joinSensor_45 : decode cX9_joinSensor 45 = .ok (.iload 4, 2) := by decide +kernel
theorem dX9_joinSensor_47 : decode cX9_joinSensor 47 = .ok (.aload_n 0, 1) := by decide +kernel
theorem dX9_joinSensor_48 : decode cX9_joinSensor 48 = .ok (.getfield 13, 3) := by decide +kernel
theorem dX9_joinSensor_51 : decode cX9_joinSensor 51 = .ok (.iload 4, 2) := by decide +kernel
theorem dX9_joinSensor_53 : decode cX9_joinSensor 53 = .ok (.daload, 1) := by decide +kernel
theorem dX9_joinSensor_54 : decode cX9_joinSensor 54 = .ok (.ldc2_w 142, 3) := by decide +kernel
theorem dX9_joinSensor_57 : decode cX9_joinSensor 57 = .ok (.aload_n 0, 1) := by decide +kernel
theorem dX9_joinSensor_58 : decode cX9_joinSensor 58 = .ok (.getfield 33, 3) := by decide +kernel
theorem dX9_joinSensor_61 : decode cX9_joinSensor 61 = .ok (.iload 5, 2) := by decide +kernel
theorem dX9_joinSensor_63 : decode cX9_joinSensor 63 = .ok (.daload, 1) := by decide +kernel
theorem dX9_joinSensor_64 : decode cX9_joinSensor 64 = .ok (.aload_n 0, 1) := by decide +kernel
theorem dX9_joinSensor_65 : decode cX9_joinSensor 65 = .ok (.getfield 13, 3) := by decide +kernel
theorem dX9_joinSensor_68 : decode cX9_joinSensor 68 = .ok (.iload 4, 2) := by decide +kernel
theorem dX9_joinSensor_70 : decode cX9_joinSensor 70 = .ok (.daload, 1) := by decide +kernel
theorem dX9_joinSensor_71 : decode cX9_joinSensor 71 = .ok (.dsub, 1) := by decide +kernel
theorem dX9_joinSensor_72 : decode cX9_joinSensor 72 = .ok (.dmul, 1) := by decide +kernel
theorem dX9_joinSensor_73 : decode cX9_joinSensor 73 = .ok (.dadd, 1) := by decide +kernel
theorem dX9_joinSensor_74 : decode cX9_joinSensor 74 = .ok (.dastore, 1) := by decide +kernel
theorem dX9_joinSensor_75 : decode cX9_joinSensor 75 = .ok (.aload_n 0, 1) := by decide +kernel
theorem dX9_joinSensor_76 : decode cX9_joinSensor 76 = .ok (.getfield 17, 3) := by decide +kernel
theorem dX9_joinSensor_79 : decode cX9_joinSensor 79 = .ok (.iload 4, 2) := by decide +kernel
theorem dX9_joinSensor_81 : decode cX9_joinSensor 81 = .ok (.aload_n 0, 1) := by decide +kernel
theorem dX9_joinSensor_82 : decode cX9_joinSensor 82 = .ok (.getfield 17, 3) := by decide +kernel
theorem dX9_joinSensor_85 : decode cX9_joinSensor 85 = .ok (.iload 4, 2) := by decide +kernel
theorem dX9_joinSensor_87 : decode cX9_joinSensor 87 = .ok (.daload, 1) := by decide +kernel
theorem dX9_joinSensor_88 : decode cX9_joinSensor 88 = .ok (.ldc2_w 142, 3) := by decide +kernel
theorem dX9_joinSensor_91 : decode cX9_joinSensor 91 = .ok (.aload_n 0, 1) := by decide +kernel
theorem dX9_joinSensor_92 : decode cX9_joinSensor 92 = .ok (.getfield 36, 3) := by decide +kernel
theorem dX9_joinSensor_95 : decode cX9_joinSensor 95 = .ok (.iload 5, 2) := by decide +kernel
theorem dX9_joinSensor_97 : decode cX9_joinSensor 97 = .ok (.daload, 1) := by decide +kernel
theorem dX9_joinSensor_98 : decode cX9_joinSensor 98 = .ok (.aload_n 0, 1) := by decide +kernel
theorem dX9_joinSensor_99 : decode cX9_joinSensor 99 = .ok (.getfield 17, 3) := by decide +kernel
theorem dX9_joinSensor_102 : decode cX9_joinSensor 102 = .ok (.iload 4, 2) := by decide +kernel
theorem dX9_joinSensor_104 : decode cX9_joinSensor 104 = .ok (.daload, 1) := by decide +kernel
theorem dX9_joinSensor_105 : decode cX9_joinSensor 105 = .ok (.dsub, 1) := by decide +kernel
theorem dX9_joinSensor_106 : decode cX9_joinSensor 106 = .ok (.dmul, 1) := by decide +kernel
theorem dX9_joinSensor_107 : decode cX9_joinSensor 107 = .ok (.dadd, 1) := by decide +kernel
theorem dX9_joinSensor_108 : decode cX9_joinSensor 108 = .ok (.dastore, 1) := by decide +kernel
theorem dX9_joinSensor_109 : decode cX9_joinSensor 109 = .ok (.aload_n 0, 1) := by decide +kernel
theorem dX9_joinSensor_110 : decode cX9_joinSensor 110 = .ok (.getfield 20, 3) := by decide +kernel
theorem dX9_joinSensor_113 : decode cX9_joinSensor 113 = .ok (.iload 4, 2) := by decide +kernel
theorem dX9_joinSensor_115 : decode cX9_joinSensor 115 = .ok (.aload_n 0, 1) := by decide +kernel
theorem dX9_joinSensor_116 : decode cX9_joinSensor 116 = .ok (.getfield 20, 3) := by decide +kernel
theorem dX9_joinSensor_119 : decode cX9_joinSensor 119 = .ok (.iload 4, 2) := by decide +kernel
theorem dX9_joinSensor_121 : decode cX9_joinSensor 121 = .ok (.daload, 1) := by decide +kernel
theorem dX9_joinSensor_122 : decode cX9_joinSensor 122 = .ok (.ldc2_w 189, 3) := by decide +kernel
theorem dX9_joinSensor_125 : decode cX9_joinSensor 125 = .ok (.aload_n 0, 1) := by decide +kernel
theorem dX9_joinSensor_126 : decode cX9_joinSensor 126 = .ok (.getfield 39, 3) := by decide +kernel
theorem dX9_joinSensor_129 : decode cX9_joinSensor 129 = .ok (.iload 5, 2) := by decide +kernel
theorem dX9_joinSensor_131 : decode cX9_joinSensor 131 = .ok (.daload, 1) := by decide +kernel
theorem dX9_joinSensor_132 : decode cX9_joinSensor 132 = .ok (.aload_n 0, 1) := by decide +kernel
theorem dX9_joinSensor_133 : decode cX9_joinSensor 133 = .ok (.getfield 20, 3) := by decide +kernel
theorem dX9_joinSensor_136 : decode cX9_joinSensor 136 = .ok (.iload 4, 2) := by decide +kernel
theorem dX9_joinSensor_138 : decode cX9_joinSensor 138 = .ok (.daload, 1) := by decide +kernel
theorem dX9_joinSensor_139 : decode cX9_joinSensor 139 = .ok (.dsub, 1) := by decide +kernel
theorem dX9_joinSensor_140 : decode cX9_joinSensor 140 = .ok (.dmul, 1) := by decide +kernel
theorem dX9_joinSensor_141 : decode cX9_joinSensor 141 = .ok (.dadd, 1) := by decide +kernel
theorem dX9_joinSensor_142 : decode cX9_joinSensor 142 = .ok (.dastore, 1) := by decide +kernel
theorem dX9_joinSensor_143 : decode cX9_joinSensor 143 = .ok (.aload_n 0, 1) := by decide +kernel
theorem dX9_joinSensor_144 : decode cX9_joinSensor 144 = .ok (.getfield 23, 3) := by decide +kernel
theorem dX9_joinSensor_147 : decode cX9_joinSensor 147 = .ok (.iload 4, 2) := by decide +kernel
theorem dX9_joinSensor_149 : decode cX9_joinSensor 149 = .ok (.aload_n 0, 1) := by decide +kernel
theorem dX9_joinSensor_150 : decode cX9_joinSensor 150 = .ok (.getfield 23, 3) := by decide +kernel
theorem dX9_joinSensor_153 : decode cX9_joinSensor 153 = .ok (.iload 4, 2) := by decide +kernel
theorem dX9_joinSensor_155 : decode cX9_joinSensor 155 = .ok (.iaload, 1) := by decide +kernel
theorem dX9_joinSensor_156 : decode cX9_joinSensor 156 = .ok (.iconst 5, 1) := by decide +kernel
theorem dX9_joinSensor_157 : decode cX9_joinSensor 157 = .ok (.if_icmp .ge 15, 3) := by decide +kernel
theorem dX9_joinSensor_160 : decode cX9_joinSensor 160 = .ok (.aload_n 0, 1) := by decide +kernel
theorem dX9_joinSensor_161 : decode cX9_joinSensor 161 = .ok (.getfield 23, 3) := by decide +kernel
theorem dX9_joinSensor_164 : decode cX9_joinSensor 164 = .ok (.iload 4, 2) := by decide +kernel
theorem dX9_joinSensor_166 : decode cX9_joinSensor 166 = .ok (.iaload, 1) := by decide +kernel
theorem dX9_joinSensor_167 : decode cX9_joinSensor 167 = .ok (.iconst 1, 1) := by decide +kernel
theorem dX9_joinSensor_168 : decode cX9_joinSensor 168 = .ok (.iadd, 1) := by decide +kernel
theorem dX9_joinSensor_169 : decode cX9_joinSensor 169 = .ok (.goto 4, 3) := by decide +kernel
theorem dX9_joinSensor_172 : decode cX9_joinSensor 172 = .ok (.iconst 5, 1) := by decide +kernel
theorem dX9_joinSensor_173 : decode cX9_joinSensor 173 = .ok (.iastore, 1) := by decide +kernel
theorem dX9_joinSensor_174 : decode cX9_joinSensor 174 = .ok (.aload_n 0, 1) := by decide +kernel
theorem dX9_joinSensor_175 : decode cX9_joinSensor 175 = .ok (.iload_n 1, 1) := by decide +kernel
theorem dX9_joinSensor_176 : decode cX9_joinSensor 176 = .ok (.iload 4, 2) := by decide +kernel
theorem dX9_joinSensor_178 : decode cX9_joinSensor 178 = .ok (.aload_n 0, 1) := by decide +kernel
theorem dX9_joinSensor_179 : decode cX9_joinSensor 179 = .ok (.getfield 39, 3) := by decide +kernel
theorem dX9_joinSensor_182 : decode cX9_joinSensor 182 = .ok (.iload 5, 2) := by decide +kernel
theorem dX9_joinSensor_184 : decode cX9_joinSensor 184 = .ok (.daload, 1) := by decide +kernel
theorem dX9_joinSensor_185 : decode cX9_joinSensor 185 = .ok (.invokevirtual 191, 3) := by decide +kernel
theorem dX9_joinSensor_188 : decode cX9_joinSensor 188 = .ok (.iinc 3 1, 3) := by decide +kernel
theorem dX9_joinSensor_191 : decode cX9_joinSensor 191 = .ok (.goto (-177), 3) := by decide +kernel
theorem dX9_joinSensor_194 : decode cX9_joinSensor 194 = .ok (.iconst 0, 1) := by decide +kernel
theorem dX9_joinSensor_195 : decode cX9_joinSensor 195 = .ok (.istore_n 3, 1) := by decide +kernel
theorem dX9_joinSensor_196 : decode cX9_joinSensor 196 = .ok (.iload_n 3, 1) := by decide +kernel
theorem dX9_joinSensor_197 : decode cX9_joinSensor 197 = .ok (.iload_n 2, 1) := by decide +kernel
theorem dX9_joinSensor_198 : decode cX9_joinSensor 198 = .ok (.if_icmp .ge 30, 3) := by decide +kernel
theorem dX9_joinSensor_201 : decode cX9_joinSensor 201 = .ok (.aload_n 0, 1) := by decide +kernel
theorem dX9_joinSensor_202 : decode cX9_joinSensor 202 = .ok (.getfield 42, 3) := by decide +kernel
theorem dX9_joinSensor_205 : decode cX9_joinSensor 205 = .ok (.iload_n 3, 1) := by decide +kernel
theorem dX9_joinSensor_206 : decode cX9_joinSensor 206 = .ok (.iaload, 1) := by decide +kernel
theorem dX9_joinSensor_207 : decode cX9_joinSensor 207 = .ok (.bipush 8, 2) := by decide +kernel
theorem dX9_joinSensor_209 : decode cX9_joinSensor 209 = .ok (.if_icmp .ne 13, 3) := by decide +kernel
theorem dX9_joinSensor_212 : decode cX9_joinSensor 212 = .ok (.aload_n 0, 1) := by decide +kernel
theorem dX9_joinSensor_213 : decode cX9_joinSensor 213 = .ok (.iload_n 1, 1) := by decide +kernel
theorem dX9_joinSensor_214 : decode cX9_joinSensor 214 = .ok (.iconst 4, 1) := by decide +kernel
theorem dX9_joinSensor_215 : decode cX9_joinSensor 215 = .ok (.iload_n 1, 1) := by decide +kernel
theorem dX9_joinSensor_216 : decode cX9_joinSensor 216 = .ok (.imul, 1) := by decide +kernel
theorem dX9_joinSensor_217 : decode cX9_joinSensor 217 = .ok (.iload_n 3, 1) := by decide +kernel
theorem dX9_joinSensor_218 : decode cX9_joinSensor 218 = .ok (.iadd, 1) := by decide +kernel
theorem dX9_joinSensor_219 : decode cX9_joinSensor 219 = .ok (.invokevirtual 195, 3) := by decide +kernel
theorem dX9_joinSensor_222 : decode cX9_joinSensor 222 = .ok (.iinc 3 1, 3) := by decide +kernel
theorem dX9_joinSensor_225 : decode cX9_joinSensor 225 = .ok (.goto (-29), 3) := by decide +kernel
theorem dX9_joinSensor_228 : decode cX9_joinSensor 228 = .ok (.aload_n 0, 1) := by decide +kernel
theorem dX9_joinSensor_229 : decode cX9_joinSensor 229 = .ok (.getfield 30, 3) := by decide +kernel
theorem dX9_joinSensor_232 : decode cX9_joinSensor 232 = .ok (.iload_n 1, 1) := by decide +kernel
theorem dX9_joinSensor_233 : decode cX9_joinSensor 233 = .ok (.iconst 0, 1) := by decide +kernel
theorem dX9_joinSensor_234 : decode cX9_joinSensor 234 = .ok (.iastore, 1) := by decide +kernel
theorem dX9_joinSensor_235 : decode cX9_joinSensor 235 = .ok (.return_, 1) := by decide +kernel
set_option maxRecDepth 20000 in
theorem ggX9_begin_X9_tell : GoodIn wsX9_begin wsX9_tell := goodIn_r _ [14, 15, 16, 17, 18, 19, 20, 21, 13, 22, 23, 24, 25, 26, 27, 28, 29, 30, 31, 32, 33, 34, 35, 36, 37, 38, 39, 40, 41, 42, 43, 44, 45, 46, 47, 48, 49, 50, 51, 52, 53, 54, 55, 56, 57, 58, 59, 60, 61, 62, 63, 64, 65, 66] (by decide +kernel) (by decide +kernel)
set_option maxRecDepth 20000 in
theorem gX9_begin_X9_tell : GoodIn wsX9_begin (wsV RX9 191 RX9 yX9_tell wsX9_tell) := goodIn_app (goodIn_of _ (by decide +kernel)) ggX9_begin_X9_tell
theorem dX9_begin_0 : decode cX9_begin 0 = .ok (.iconst 0, 1) := by decide +kernel
theorem dX9_begin_1 : decode cX9_begin 1 = .ok (.istore_n 3, 1) := by decide +kernel
theorem dX9_begin_2 : decode cX9_begin 2 = .ok (.iload_n 3, 1) := by decide +kernel
theorem dX9_begin_3 : decode cX9_begin 3 = .ok (.bipush 8, 2) := by decide +kernel
theorem dX9_begin_5 : decode cX9_begin 5 = .ok (.if_icmp .ge 18, 3) := by decide +kernel
theorem dX9_begin_8 : decode cX9_begin 8 = .ok (.aload_n 0, 1) := by decide +kernel
theorem dX9_begin_9 : decode cX9_begin 9 = .ok (.getfield 7, 3) := by decide +kernel
theorem dX9_begin_12 : decode cX9_begin 12 = .ok (.iload_n 3, 1) := by decide +kernel
theorem dX9_begin_13 : decode cX9_begin 13 = .ok (.baload, 1) := by decide +kernel
theorem dX9_begin_14 : decode cX9_begin 14 = .ok (.ifCond .eq 9, 3) := by decide +kernel
theorem dX9_begin_17 : decode cX9_begin 17 = .ok (.iinc 3 1, 3) := by decide +kernel
theorem dX9_begin_20 : decode cX9_begin 20 = .ok (.goto (-18), 3) := by decide +kernel
theorem dX9_begin_23 : decode cX9_begin 23 = .ok (.iload_n 3, 1) := by decide +kernel
theorem dX9_begin_24 : decode cX9_begin 24 = .ok (.bipush 8, 2) := by decide +kernel
theorem dX9_begin_26 : decode cX9_begin 26 = .ok (.if_icmp .ge 72, 3) := by decide +kernel
theorem dX9_begin_29 : decode cX9_begin 29 = .ok (.aload_n 0, 1) := by decide +kernel
theorem dX9_begin_30 : decode cX9_begin 30 = .ok (.getfield 7, 3) := by decide +kernel
theorem dX9_begin_33 : decode cX9_begin 33 = .ok (.iload_n 3, 1) := by decide +kernel
theorem dX9_begin_34 : decode cX9_begin 34 = .ok (.iconst 1, 1) := by decide +kernel
theorem dX9_begin_35 : decode cX9_begin 35 = .ok (.bastore, 1) := by decide +kernel
theorem dX9_begin_36 : decode cX9_begin 36 = .ok (.aload_n 0, 1) := by decide +kernel
theorem dX9_begin_37 : decode cX9_begin 37 = .ok (.getfield 13, 3) := by decide +kernel
theorem dX9_begin_40 : decode cX9_begin 40 = .ok (.iload_n 3, 1) := by decide +kernel
theorem dX9_begin_41 : decode cX9_begin 41 = .ok (.aload_n 0, 1) := by decide +kernel
theorem dX9_begin_42 : decode cX9_begin 42 = .ok (.getfield 33, 3) := by decide +kernel
theorem dX9_begin_45 : decode cX9_begin 45 = .ok (.iload_n 2, 1) := by decide +kernel
theorem dX9_begin_46 : decode cX9_begin 46 = .ok (.daload, 1) := by decide +kernel
theorem dX9_begin_47 : decode cX9_begin 47 = .ok (.dastore, 1) := by decide +kernel
theorem dX9_begin_48 : decode cX9_begin 48 = .ok (.aload_n 0, 1) := by decide +kernel
theorem dX9_begin_49 : decode cX9_begin 49 = .ok (.getfield 17, 3) := by decide +kernel
theorem dX9_begin_52 : decode cX9_begin 52 = .ok (.iload_n 3, 1) := by decide +kernel
theorem dX9_begin_53 : decode cX9_begin 53 = .ok (.aload_n 0, 1) := by decide +kernel
theorem dX9_begin_54 : decode cX9_begin 54 = .ok (.getfield 36, 3) := by decide +kernel
theorem dX9_begin_57 : decode cX9_begin 57 = .ok (.iload_n 2, 1) := by decide +kernel
theorem dX9_begin_58 : decode cX9_begin 58 = .ok (.daload, 1) := by decide +kernel
theorem dX9_begin_59 : decode cX9_begin 59 = .ok (.dastore, 1) := by decide +kernel
theorem dX9_begin_60 : decode cX9_begin 60 = .ok (.aload_n 0, 1) := by decide +kernel
theorem dX9_begin_61 : decode cX9_begin 61 = .ok (.getfield 20, 3) := by decide +kernel
theorem dX9_begin_64 : decode cX9_begin 64 = .ok (.iload_n 3, 1) := by decide +kernel
theorem dX9_begin_65 : decode cX9_begin 65 = .ok (.aload_n 0, 1) := by decide +kernel
theorem dX9_begin_66 : decode cX9_begin 66 = .ok (.getfield 39, 3) := by decide +kernel
theorem dX9_begin_69 : decode cX9_begin 69 = .ok (.iload_n 2, 1) := by decide +kernel
theorem dX9_begin_70 : decode cX9_begin 70 = .ok (.daload, 1) := by decide +kernel
theorem dX9_begin_71 : decode cX9_begin 71 = .ok (.dastore, 1) := by decide +kernel
theorem dX9_begin_72 : decode cX9_begin 72 = .ok (.aload_n 0, 1) := by decide +kernel
theorem dX9_begin_73 : decode cX9_begin 73 = .ok (.getfield 23, 3) := by decide +kernel
theorem dX9_begin_76 : decode cX9_begin 76 = .ok (.iload_n 3, 1) := by decide +kernel
theorem dX9_begin_77 : decode cX9_begin 77 = .ok (.iconst 1, 1) := by decide +kernel
theorem dX9_begin_78 : decode cX9_begin 78 = .ok (.iastore, 1) := by decide +kernel
theorem dX9_begin_79 : decode cX9_begin 79 = .ok (.aload_n 0, 1) := by decide +kernel
theorem dX9_begin_80 : decode cX9_begin 80 = .ok (.getfield 27, 3) := by decide +kernel
theorem dX9_begin_83 : decode cX9_begin 83 = .ok (.iload_n 3, 1) := by decide +kernel
theorem dX9_begin_84 : decode cX9_begin 84 = .ok (.iconst 0, 1) := by decide +kernel
theorem dX9_begin_85 : decode cX9_begin 85 = .ok (.iastore, 1) := by decide +kernel
theorem dX9_begin_86 : decode cX9_begin 86 = .ok (.aload_n 0, 1) := by decide +kernel
theorem dX9_begin_87 : decode cX9_begin 87 = .ok (.iload_n 1, 1) := by decide +kernel
theorem dX9_begin_88 : decode cX9_begin 88 = .ok (.iload_n 3, 1) := by decide +kernel
theorem dX9_begin_89 : decode cX9_begin 89 = .ok (.aload_n 0, 1) := by decide +kernel
theorem dX9_begin_90 : decode cX9_begin 90 = .ok (.getfield 39, 3) := by decide +kernel
theorem dX9_begin_93 : decode cX9_begin 93 = .ok (.iload_n 2, 1) := by decide +kernel
theorem dX9_begin_94 : decode cX9_begin 94 = .ok (.daload, 1) := by decide +kernel
theorem dX9_begin_95 : decode cX9_begin 95 = .ok (.invokevirtual 191, 3) := by decide +kernel
theorem dX9_begin_98 : decode cX9_begin 98 = .ok (.return_, 1) := by decide +kernel
theorem dX9_coastAll_0 : decode cX9_coastAll 0 = .ok (.iconst 0, 1) := by decide +kernel
theorem dX9_coastAll_1 : decode cX9_coastAll 1 = .ok (.istore_n 1, 1) := by decide +kernel
theorem dX9_coastAll_2 : decode cX9_coastAll 2 = .ok (.iload_n 1, 1) := by decide +kernel
theorem dX9_coastAll_3 : decode cX9_coastAll 3 = .ok (.bipush 8, 2) := by decide +kernel
theorem dX9_coastAll_5 : decode cX9_coastAll 5 = .ok (.if_icmp .ge 149, 3) := by decide +kernel
theorem dX9_coastAll_8 : decode cX9_coastAll 8 = .ok (.aload_n 0, 1) := by decide +kernel
theorem dX9_coastAll_9 : decode cX9_coastAll 9 = .ok (.getfield 7, 3) := by decide +kernel
theorem dX9_coastAll_12 : decode cX9_coastAll 12 = .ok (.iload_n 1, 1) := by decide +kernel
theorem dX9_coastAll_13 : decode cX9_coastAll 13 = .ok (.baload, 1) := by decide +kernel
theorem dX9_coastAll_14 : decode cX9_coastAll 14 = .ok (.ifCond .eq 83, 3) := by decide +kernel
theorem dX9_coastAll_17 : decode cX9_coastAll 17 = .ok (.aload_n 0, 1) := by decide +kernel
theorem dX9_coastAll_18 : decode cX9_coastAll 18 = .ok (.getfield 48, 3) := by decide +kernel
theorem dX9_coastAll_21 : decode cX9_coastAll 21 = .ok (.iload_n 1, 1) := by decide +kernel
theorem dX9_coastAll_22 : decode cX9_coastAll 22 = .ok (.baload, 1) := by decide +kernel
theorem dX9_coastAll_23 : decode cX9_coastAll 23 = .ok (.ifCond .ne 74, 3) := by decide +kernel
theorem dX9_coastAll_26 : decode cX9_coastAll 26 = .ok (.aload_n 0, 1) := by decide +kernel
theorem dX9_coastAll_27 : decode cX9_coastAll 27 = .ok (.getfield 51, 3) := by decide +kernel
theorem dX9_coastAll_30 : decode cX9_coastAll 30 = .ok (.iload_n 1, 1) := by decide +kernel
theorem dX9_coastAll_31 : decode cX9_coastAll 31 = .ok (.baload, 1) := by decide +kernel
theorem dX9_coastAll_32 : decode cX9_coastAll 32 = .ok (.ifCond .ne 65, 3) := by decide +kernel
theorem dX9_coastAll_35 : decode cX9_coastAll 35 = .ok (.aload_n 0, 1) := by decide +kernel
theorem dX9_coastAll_36 : decode cX9_coastAll 36 = .ok (.getfield 27, 3) := by decide +kernel
theorem dX9_coastAll_39 : decode cX9_coastAll 39 = .ok (.iload_n 1, 1) := by decide +kernel
theorem dX9_coastAll_40 : decode cX9_coastAll 40 = .ok (.dup2, 1) := by decide +kernel
theorem dX9_coastAll_41 : decode cX9_coastAll 41 = .ok (.iaload, 1) := by decide +kernel
theorem dX9_coastAll_42 : decode cX9_coastAll 42 = .ok (.iconst 1, 1) := by decide +kernel
theorem dX9_coastAll_43 : decode cX9_coastAll 43 = .ok (.iadd, 1) := by decide +kernel
theorem dX9_coastAll_44 : decode cX9_coastAll 44 = .ok (.iastore, 1) := by decide +kernel
theorem dX9_coastAll_45 : decode cX9_coastAll 45 = .ok (.aload_n 0, 1) := by decide +kernel
theorem dX9_coastAll_46 : decode cX9_coastAll 46 = .ok (.getfield 23, 3) := by decide +kernel
theorem dX9_coastAll_49 : decode cX9_coastAll 49 = .ok (.iload_n 1, 1) := by decide +kernel
theorem dX9_coastAll_50 : decode cX9_coastAll 50 = .ok (.aload_n 0, 1) := by decide +kernel
theorem dX9_coastAll_51 : decode cX9_coastAll 51 = .ok (.getfield 23, 3) := by decide +kernel
theorem dX9_coastAll_54 : decode cX9_coastAll 54 = .ok (.iload_n 1, 1) := by decide +kernel
theorem dX9_coastAll_55 : decode cX9_coastAll 55 = .ok (.iaload, 1) := by decide +kernel
theorem dX9_coastAll_56 : decode cX9_coastAll 56 = .ok (.iconst 1, 1) := by decide +kernel
theorem dX9_coastAll_57 : decode cX9_coastAll 57 = .ok (.if_icmp .le 14, 3) := by decide +kernel
theorem dX9_coastAll_60 : decode cX9_coastAll 60 = .ok (.aload_n 0, 1) := by decide +kernel
theorem dX9_coastAll_61 : decode cX9_coastAll 61 = .ok (.getfield 23, 3) := by decide +kernel
theorem dX9_coastAll_64 : decode cX9_coastAll 64 = .ok (.iload_n 1, 1) := by decide +kernel
theorem dX9_coastAll_65 : decode cX9_coastAll 65 = .ok (.iaload, 1) := by decide +kernel
theorem dX9_coastAll_66 : decode cX9_coastAll 66 = .ok (.iconst 1, 1) := by decide +kernel
theorem dX9_coastAll_67 : decode cX9_coastAll 67 = .ok (.isub, 1) := by decide +kernel
theorem dX9_coastAll_68 : decode cX9_coastAll 68 = .ok (.goto 4, 3) := by decide +kernel
theorem dX9_coastAll_71 : decode cX9_coastAll 71 = .ok (.iconst 1, 1) := by decide +kernel
theorem dX9_coastAll_72 : decode cX9_coastAll 72 = .ok (.iastore, 1) := by decide +kernel
theorem dX9_coastAll_73 : decode cX9_coastAll 73 = .ok (.aload_n 0, 1) := by decide +kernel
theorem dX9_coastAll_74 : decode cX9_coastAll 74 = .ok (.getfield 7, 3) := by decide +kernel
theorem dX9_coastAll_77 : decode cX9_coastAll 77 = .ok (.iload_n 1, 1) := by decide +kernel
theorem dX9_coastAll_78 : decode cX9_coastAll 78 = .ok (.aload_n 0, 1) := by decide +kernel
theorem dX9_coastAll_79 : decode cX9_coastAll 79 = .ok (.getfield 27, 3) := by decide +kernel
theorem dX9_coastAll_82 : decode cX9_coastAll 82 = .ok (.iload_n 1, 1) := by decide +kernel
theorem dX9_coastAll_83 : decode cX9_coastAll 83 = .ok (.iaload, 1) := by decide +kernel
theorem dX9_coastAll_84 : decode cX9_coastAll 84 = .ok (.iconst 4, 1) := by decide +kernel
theorem dX9_coastAll_85 : decode cX9_coastAll 85 = .ok (.if_icmp .ge 7, 3) := by decide +kernel
theorem dX9_coastAll_88 : decode cX9_coastAll 88 = .ok (.iconst 1, 1) := by decide +kernel
theorem dX9_coastAll_89 : decode cX9_coastAll 89 = .ok (.goto 4, 3) := by decide +kernel
theorem dX9_coastAll_92 : decode cX9_coastAll 92 = .ok (.iconst 0, 1) := by decide +kernel
theorem dX9_coastAll_93 : decode cX9_coastAll 93 = .ok (.bastore, 1) := by decide +kernel
theorem dX9_coastAll_94 : decode cX9_coastAll 94 = .ok (.goto 10, 3) := by decide +kernel
theorem dX9_coastAll_97 : decode cX9_coastAll 97 = .ok (.aload_n 0, 1) := by decide +kernel
theorem dX9_coastAll_98 : decode cX9_coastAll 98 = .ok (.getfield 27, 3) := by decide +kernel
theorem dX9_coastAll_101 : decode cX9_coastAll 101 = .ok (.iload_n 1, 1) := by decide +kernel
theorem dX9_coastAll_102 : decode cX9_coastAll 102 = .ok (.iconst 0, 1) := by decide +kernel
theorem dX9_coastAll_103 : decode cX9_coastAll 103 = .ok (.iastore, 1) := by decide +kernel
theorem dX9_coastAll_104 : decode cX9_coastAll 104 = .ok (.aload_n 0, 1) := by decide +kernel
theorem dX9_coastAll_105 : decode cX9_coastAll 105 = .ok (.getfield 7, 3) := by decide +kernel
theorem dX9_coastAll_108 : decode cX9_coastAll 108 = .ok (.iload_n 1, 1) := by decide +kernel
theorem dX9_coastAll_109 : decode cX9_coastAll 109 = .ok (.aload_n 0, 1) := by decide +kernel
theorem dX9_coastAll_110 : decode cX9_coastAll 110 = .ok (.getfield 7, 3) := by decide +kernel
theorem dX9_coastAll_113 : decode cX9_coastAll 113 = .ok (.iload_n 1, 1) := by decide +kernel
theorem dX9_coastAll_114 : decode cX9_coastAll 114 = .ok (.baload, 1) := by decide +kernel
theorem dX9_coastAll_115 : decode cX9_coastAll 115 = .ok (.ifCond .eq 31, 3) := by decide +kernel
theorem dX9_coastAll_118 : decode cX9_coastAll 118 = .ok (.aload_n 0, 1) := by decide +kernel
theorem dX9_coastAll_119 : decode cX9_coastAll 119 = .ok (.getfield 13, 3) := by decide +kernel
theorem dX9_coastAll_122 : decode cX9_coastAll 122 = .ok (.iload_n 1, 1) := by decide +kernel
theorem dX9_coastAll_123 : decode cX9_coastAll 123 = .ok (.daload, 1) := by decide +kernel
theorem dX9_coastAll_124 : decode cX9_coastAll 124 = .ok (.dconst 0, 1) := by decide +kernel
theorem dX9_coastAll_125 : decode cX9_coastAll 125 = .ok (.dcmp .g, 1) := by decide +kernel
theorem dX9_coastAll_126 : decode cX9_coastAll 126 = .ok (.ifCond .lt 20, 3) := by decide +kernel
theorem dX9_coastAll_129 : decode cX9_coastAll 129 = .ok (.aload_n 0, 1) := by decide +kernel
theorem dX9_coastAll_130 : decode cX9_coastAll 130 = .ok (.getfield 13, 3) := by decide +kernel
theorem dX9_coastAll_133 : decode cX9_coastAll 133 = .ok (.iload_n 1, 1) := by decide +kernel
theorem dX9_coastAll_134 : decode cX9_coastAll 134 = .ok (.daload, 1) := by decide +kernel
theorem dX9_coastAll_135 : decode cX9_coastAll 135 = .ok (.ldc2_w 199, 3) := by decide +kernel
theorem dX9_coastAll_138 : decode cX9_coastAll 138 = .ok (.dcmp .l, 1) := by decide +kernel
theorem dX9_coastAll_139 : decode cX9_coastAll 139 = .ok (.ifCond .gt 7, 3) := by decide +kernel
theorem dX9_coastAll_142 : decode cX9_coastAll 142 = .ok (.iconst 1, 1) := by decide +kernel
theorem dX9_coastAll_143 : decode cX9_coastAll 143 = .ok (.goto 4, 3) := by decide +kernel
theorem dX9_coastAll_146 : decode cX9_coastAll 146 = .ok (.iconst 0, 1) := by decide +kernel
theorem dX9_coastAll_147 : decode cX9_coastAll 147 = .ok (.bastore, 1) := by decide +kernel
theorem dX9_coastAll_148 : decode cX9_coastAll 148 = .ok (.iinc 1 1, 3) := by decide +kernel
theorem dX9_coastAll_151 : decode cX9_coastAll 151 = .ok (.goto (-149), 3) := by decide +kernel
theorem dX9_coastAll_154 : decode cX9_coastAll 154 = .ok (.return_, 1) := by decide +kernel
set_option maxRecDepth 20000 in
theorem ggX9_findLead_X9_size : GoodIn wsX9_findLead wsX9_size := goodIn_r _ [18] (by decide +kernel) (by decide +kernel)
set_option maxRecDepth 20000 in
theorem gX9_findLead_X9_size : GoodIn wsX9_findLead (va_wsS RX9 164 yX9_size wsX9_size) := goodIn_app (goodIn_of _ (by decide +kernel)) ggX9_findLead_X9_size
theorem dX9_findLead_0 : decode cX9_findLead 0 = .ok (.aload_n 0, 1) := by decide +kernel
theorem dX9_findLead_1 : decode cX9_findLead 1 = .ok (.iconst (-1), 1) := by decide +kernel
theorem dX9_findLead_2 : decode cX9_findLead 2 = .ok (.putfield 77, 3) := by decide +kernel
theorem dX9_findLead_5 : decode cX9_findLead 5 = .ok (.iconst 0, 1) := by decide +kernel
theorem dX9_findLead_6 : decode cX9_findLead 6 = .ok (.istore_n 1, 1) := by decide +kernel
theorem dX9_findLead_7 : decode cX9_findLead 7 = .ok (.iload_n 1, 1) := by decide +kernel
theorem dX9_findLead_8 : decode cX9_findLead 8 = .ok (.bipush 8, 2) := by decide +kernel
theorem dX9_findLead_10 : decode cX9_findLead 10 = .ok (.if_icmp .ge 106, 3) := by decide +kernel
theorem dX9_findLead_13 : decode cX9_findLead 13 = .ok (.aload_n 0, 1) := by decide +kernel
theorem dX9_findLead_14 : decode cX9_findLead 14 = .ok (.getfield 122, 3) := by decide +kernel
theorem dX9_findLead_17 : decode cX9_findLead 17 = .ok (.aload_n 0, 1) := by decide +kernel
theorem dX9_findLead_18 : decode cX9_findLead 18 = .ok (.getfield 13, 3) := by decide +kernel
theorem dX9_findLead_21 : decode cX9_findLead 21 = .ok (.iload_n 1, 1) := by decide +kernel
theorem dX9_findLead_22 : decode cX9_findLead 22 = .ok (.daload, 1) := by decide +kernel
theorem dX9_findLead_23 : decode cX9_findLead 23 = .ok (.aload_n 0, 1) := by decide +kernel
theorem dX9_findLead_24 : decode cX9_findLead 24 = .ok (.getfield 125, 3) := by decide +kernel
theorem dX9_findLead_27 : decode cX9_findLead 27 = .ok (.aload_n 0, 1) := by decide +kernel
theorem dX9_findLead_28 : decode cX9_findLead 28 = .ok (.getfield 13, 3) := by decide +kernel
theorem dX9_findLead_31 : decode cX9_findLead 31 = .ok (.iload_n 1, 1) := by decide +kernel
theorem dX9_findLead_32 : decode cX9_findLead 32 = .ok (.daload, 1) := by decide +kernel
theorem dX9_findLead_33 : decode cX9_findLead 33 = .ok (.aload_n 0, 1) := by decide +kernel
theorem dX9_findLead_34 : decode cX9_findLead 34 = .ok (.getfield 128, 3) := by decide +kernel
theorem dX9_findLead_37 : decode cX9_findLead 37 = .ok (.dmul, 1) := by decide +kernel
theorem dX9_findLead_38 : decode cX9_findLead 38 = .ok (.dadd, 1) := by decide +kernel
theorem dX9_findLead_39 : decode cX9_findLead 39 = .ok (.dmul, 1) := by decide +kernel
theorem dX9_findLead_40 : decode cX9_findLead 40 = .ok (.dadd, 1) := by decide +kernel
theorem dX9_findLead_41 : decode cX9_findLead 41 = .ok (.dstore_n 2, 1) := by decide +kernel
theorem dX9_findLead_42 : decode cX9_findLead 42 = .ok (.aload_n 0, 1) := by decide +kernel
theorem dX9_findLead_43 : decode cX9_findLead 43 = .ok (.getfield 7, 3) := by decide +kernel
theorem dX9_findLead_46 : decode cX9_findLead 46 = .ok (.iload_n 1, 1) := by decide +kernel
theorem dX9_findLead_47 : decode cX9_findLead 47 = .ok (.baload, 1) := by decide +kernel
theorem dX9_findLead_48 : decode cX9_findLead 48 = .ok (.ifCond .eq 62, 3) := by decide +kernel
theorem dX9_findLead_51 : decode cX9_findLead 51 = .ok (.aload_n 0, 1) := by decide +kernel
theorem dX9_findLead_52 : decode cX9_findLead 52 = .ok (.getfield 23, 3) := by decide +kernel
theorem dX9_findLead_55 : decode cX9_findLead 55 = .ok (.iload_n 1, 1) := by decide +kernel
theorem dX9_findLead_56 : decode cX9_findLead 56 = .ok (.iaload, 1) := by decide +kernel
theorem dX9_findLead_57 : decode cX9_findLead 57 = .ok (.iconst 3, 1) := by decide +kernel
theorem dX9_findLead_58 : decode cX9_findLead 58 = .ok (.if_icmp .lt 52, 3) := by decide +kernel
theorem dX9_findLead_61 : decode cX9_findLead 61 = .ok (.aload_n 0, 1) := by decide +kernel
theorem dX9_findLead_62 : decode cX9_findLead 62 = .ok (.getfield 17, 3) := by decide +kernel
theorem dX9_findLead_65 : decode cX9_findLead 65 = .ok (.iload_n 1, 1) := by decide +kernel
theorem dX9_findLead_66 : decode cX9_findLead 66 = .ok (.daload, 1) := by decide +kernel
theorem dX9_findLead_67 : decode cX9_findLead 67 = .ok (.dload_n 2, 1) := by decide +kernel
theorem dX9_findLead_68 : decode cX9_findLead 68 = .ok (.dsub, 1) := by decide +kernel
theorem dX9_findLead_69 : decode cX9_findLead 69 = .ok (.invokestatic 164, 3) := by decide +kernel
theorem dX9_findLead_72 : decode cX9_findLead 72 = .ok (.ldc2_w 201, 3) := by decide +kernel
theorem dX9_findLead_75 : decode cX9_findLead 75 = .ok (.dcmp .g, 1) := by decide +kernel
theorem dX9_findLead_76 : decode cX9_findLead 76 = .ok (.ifCond .gt 34, 3) := by decide +kernel
theorem dX9_findLead_79 : decode cX9_findLead 79 = .ok (.aload_n 0, 1) := by decide +kernel
theorem dX9_findLead_80 : decode cX9_findLead 80 = .ok (.getfield 77, 3) := by decide +kernel
theorem dX9_findLead_83 : decode cX9_findLead 83 = .ok (.ifCond .lt 22, 3) := by decide +kernel
theorem dX9_findLead_86 : decode cX9_findLead 86 = .ok (.aload_n 0, 1) := by decide +kernel
theorem dX9_findLead_87 : decode cX9_findLead 87 = .ok (.getfield 13, 3) := by decide +kernel
theorem dX9_findLead_90 : decode cX9_findLead 90 = .ok (.iload_n 1, 1) := by decide +kernel
theorem dX9_findLead_91 : decode cX9_findLead 91 = .ok (.daload, 1) := by decide +kernel
theorem dX9_findLead_92 : decode cX9_findLead 92 = .ok (.aload_n 0, 1) := by decide +kernel
theorem dX9_findLead_93 : decode cX9_findLead 93 = .ok (.getfield 13, 3) := by decide +kernel
theorem dX9_findLead_96 : decode cX9_findLead 96 = .ok (.aload_n 0, 1) := by decide +kernel
theorem dX9_findLead_97 : decode cX9_findLead 97 = .ok (.getfield 77, 3) := by decide +kernel
theorem dX9_findLead_100 : decode cX9_findLead 100 = .ok (.daload, 1) := by decide +kernel
theorem dX9_findLead_101 : decode cX9_findLead 101 = .ok (.dcmp .g, 1) := by decide +kernel
theorem dX9_findLead_102 : decode cX9_findLead 102 = .ok (.ifCond .ge 8, 3) := by decide +kernel
theorem dX9_findLead_105 : decode cX9_findLead 105 = .ok (.aload_n 0, 1) := by decide +kernel
theorem dX9_findLead_106 : decode cX9_findLead 106 = .ok (.iload_n 1, 1) := by decide +kernel
theorem dX9_findLead_107 : decode cX9_findLead 107 = .ok (.putfield 77, 3) := by decide +kernel
theorem dX9_findLead_110 : decode cX9_findLead 110 = .ok (.iinc 1 1, 3) := by decide +kernel
theorem dX9_findLead_113 : decode cX9_findLead 113 = .ok (.goto (-106), 3) := by decide +kernel
theorem dX9_findLead_116 : decode cX9_findLead 116 = .ok (.aload_n 0, 1) := by decide +kernel
theorem dX9_findLead_117 : decode cX9_findLead 117 = .ok (.aload_n 0, 1) := by decide +kernel
theorem dX9_findLead_118 : decode cX9_findLead 118 = .ok (.getfield 77, 3) := by decide +kernel
theorem dX9_findLead_121 : decode cX9_findLead 121 = .ok (.ifCond .ge 9, 3) := by decide +kernel
theorem dX9_findLead_124 : decode cX9_findLead 124 = .ok (.ldc2_w 81, 3) := by decide +kernel
theorem dX9_findLead_127 : decode cX9_findLead 127 = .ok (.goto 12, 3) := by decide +kernel
theorem dX9_findLead_130 : decode cX9_findLead 130 = .ok (.aload_n 0, 1) := by decide +kernel
theorem dX9_findLead_131 : decode cX9_findLead 131 = .ok (.getfield 13, 3) := by decide +kernel
theorem dX9_findLead_134 : decode cX9_findLead 134 = .ok (.aload_n 0, 1) := by decide +kernel
theorem dX9_findLead_135 : decode cX9_findLead 135 = .ok (.getfield 77, 3) := by decide +kernel
theorem dX9_findLead_138 : decode cX9_findLead 138 = .ok (.daload, 1) := by decide +kernel
theorem dX9_findLead_139 : decode cX9_findLead 139 = .ok (.putfield 86, 3) := by decide +kernel
theorem dX9_findLead_142 : decode cX9_findLead 142 = .ok (.aload_n 0, 1) := by decide +kernel
theorem dX9_findLead_143 : decode cX9_findLead 143 = .ok (.aload_n 0, 1) := by decide +kernel
theorem dX9_findLead_144 : decode cX9_findLead 144 = .ok (.getfield 77, 3) := by decide +kernel
theorem dX9_findLead_147 : decode cX9_findLead 147 = .ok (.ifCond .lt 47, 3) := by decide +kernel
theorem dX9_findLead_150 : decode cX9_findLead 150 = .ok (.aload_n 0, 1) := by decide +kernel
theorem dX9_findLead_151 : decode cX9_findLead 151 = .ok (.getfield 203, 3) := by decide +kernel
theorem dX9_findLead_154 : decode cX9_findLead 154 = .ok (.aload_n 0, 1) := by decide +kernel
theorem dX9_findLead_155 : decode cX9_findLead 155 = .ok (.getfield 20, 3) := by decide +kernel
theorem dX9_findLead_158 : decode cX9_findLead 158 = .ok (.aload_n 0, 1) := by decide +kernel
theorem dX9_findLead_159 : decode cX9_findLead 159 = .ok (.getfield 77, 3) := by decide +kernel
theorem dX9_findLead_162 : decode cX9_findLead 162 = .ok (.daload, 1) := by decide +kernel
theorem dX9_findLead_163 : decode cX9_findLead 163 = .ok (.dcmp .l, 1) := by decide +kernel
theorem dX9_findLead_164 : decode cX9_findLead 164 = .ok (.ifCond .le 30, 3) := by decide +kernel
theorem dX9_findLead_167 : decode cX9_findLead 167 = .ok (.aload_n 0, 1) := by decide +kernel
theorem dX9_findLead_168 : decode cX9_findLead 168 = .ok (.getfield 13, 3) := by decide +kernel
theorem dX9_findLead_171 : decode cX9_findLead 171 = .ok (.aload_n 0, 1) := by decide +kernel
theorem dX9_findLead_172 : decode cX9_findLead 172 = .ok (.getfield 77, 3) := by decide +kernel
theorem dX9_findLead_175 : decode cX9_findLead 175 = .ok (.daload, 1) := by decide +kernel
theorem dX9_findLead_176 : decode cX9_findLead 176 = .ok (.aload_n 0, 1) := by decide +kernel
theorem dX9_findLead_177 : decode cX9_findLead 177 = .ok (.getfield 203, 3) := by decide +kernel
theorem dX9_findLead_180 : decode cX9_findLead 180 = .ok (.aload_n 0, 1) := by decide +kernel
theorem dX9_findLead_181 : decode cX9_findLead 181 = .ok (.getfield 20, 3) := by decide +kernel
theorem dX9_findLead_184 : decode cX9_findLead 184 = .ok (.aload_n 0, 1) := by decide +kernel
theorem dX9_findLead_185 : decode cX9_findLead 185 = .ok (.getfield 77, 3) := by decide +kernel
theorem dX9_findLead_188 : decode cX9_findLead 188 = .ok (.daload, 1) := by decide +kernel
theorem dX9_findLead_189 : decode cX9_findLead 189 = .ok (.dsub, 1) := by decide +kernel
theorem dX9_findLead_190 : decode cX9_findLead 190 = .ok (.ddiv, 1) := by decide +kernel
theorem dX9_findLead_191 : decode cX9_findLead 191 = .ok (.goto 6, 3) := by decide +kernel
theorem dX9_findLead_194 : decode cX9_findLead 194 = .ok (.ldc2_w 81, 3) := by decide +kernel
theorem dX9_findLead_197 : decode cX9_findLead 197 = .ok (.putfield 83, 3) := by decide +kernel
theorem dX9_findLead_200 : decode cX9_findLead 200 = .ok (.return_, 1) := by decide +kernel
set_option maxRecDepth 20000 in
theorem ggX9_rise_X9_size : GoodIn wsX9_rise wsX9_size := goodIn_r _ [11] (by decide +kernel) (by decide +kernel)
set_option maxRecDepth 20000 in
theorem gX9_rise_X9_size : GoodIn wsX9_rise (va_wsS RX9 164 yX9_size wsX9_size) := goodIn_app (goodIn_of _ (by decide +kernel)) ggX9_rise_X9_size
theorem dX9_rise_0 : decode cX9_rise 0 = .ok (.aload_n 0, 1) := by decide +kernel
theorem dX9_rise_1 : decode cX9_rise 1 = .ok (.getfield 83, 3) := by decide +kernel
theorem dX9_rise_4 : decode cX9_rise 4 = .ok (.dconst 0, 1) := by decide +kernel
theorem dX9_rise_5 : decode cX9_rise 5 = .ok (.dcmp .g, 1) := by decide +kernel
theorem dX9_rise_6 : decode cX9_rise 6 = .ok (.ifCond .ge 7, 3) := by decide +kernel
theorem dX9_rise_9 : decode cX9_rise 9 = .ok (.iconst 0, 1) := by decide +kernel
theorem dX9_rise_10 : decode cX9_rise 10 = .ok (.goto 49, 3) := by decide +kernel
theorem dX9_rise_13 : decode cX9_rise 13 = .ok (.aload_n 0, 1) := by decide +kernel
theorem dX9_rise_14 : decode cX9_rise 14 = .ok (.getfield 83, 3) := by decide +kernel
theorem dX9_rise_17 : decode cX9_rise 17 = .ok (.ldc2_w 206, 3) := by decide +kernel
theorem dX9_rise_20 : decode cX9_rise 20 = .ok (.dcmp .g, 1) := by decide +kernel
theorem dX9_rise_21 : decode cX9_rise 21 = .ok (.ifCond .ge 7, 3) := by decide +kernel
theorem dX9_rise_24 : decode cX9_rise 24 = .ok (.iconst 3, 1) := by decide +kernel
theorem dX9_rise_25 : decode cX9_rise 25 = .ok (.goto 34, 3) := by decide +kernel
theorem dX9_rise_28 : decode cX9_rise 28 = .ok (.aload_n 0, 1) := by decide +kernel
theorem dX9_rise_29 : decode cX9_rise 29 = .ok (.getfield 83, 3) := by decide +kernel
theorem dX9_rise_32 : decode cX9_rise 32 = .ok (.ldc2_w 208, 3) := by decide +kernel
theorem dX9_rise_35 : decode cX9_rise 35 = .ok (.dcmp .g, 1) := by decide +kernel
theorem dX9_rise_36 : decode cX9_rise 36 = .ok (.ifCond .ge 7, 3) := by decide +kernel
theorem dX9_rise_39 : decode cX9_rise 39 = .ok (.iconst 2, 1) := by decide +kernel
theorem dX9_rise_40 : decode cX9_rise 40 = .ok (.goto 19, 3) := by decide +kernel
theorem dX9_rise_43 : decode cX9_rise 43 = .ok (.aload_n 0, 1) := by decide +kernel
theorem dX9_rise_44 : decode cX9_rise 44 = .ok (.getfield 83, 3) := by decide +kernel
theorem dX9_rise_47 : decode cX9_rise 47 = .ok (.ldc2_w 210, 3) := by decide +kernel
theorem dX9_rise_50 : decode cX9_rise 50 = .ok (.dcmp .g, 1) := by decide +kernel
theorem dX9_rise_51 : decode cX9_rise 51 = .ok (.ifCond .ge 7, 3) := by decide +kernel
theorem dX9_rise_54 : decode cX9_rise 54 = .ok (.iconst 1, 1) := by decide +kernel
theorem dX9_rise_55 : decode cX9_rise 55 = .ok (.goto 4, 3) := by decide +kernel
theorem dX9_rise_58 : decode cX9_rise 58 = .ok (.iconst 0, 1) := by decide +kernel
theorem dX9_rise_59 : decode cX9_rise 59 = .ok (.istore_n 1, 1) := by decide +kernel
theorem dX9_rise_60 : decode cX9_rise 60 = .ok (.aload_n 0, 1) := by decide +kernel
theorem dX9_rise_61 : decode cX9_rise 61 = .ok (.getfield 137, 3) := by decide +kernel
theorem dX9_rise_64 : decode cX9_rise 64 = .ok (.invokestatic 164, 3) := by decide +kernel
theorem dX9_rise_67 : decode cX9_rise 67 = .ok (.ldc2_w 212, 3) := by decide +kernel
theorem dX9_rise_70 : decode cX9_rise 70 = .ok (.dcmp .l, 1) := by decide +kernel
theorem dX9_rise_71 : decode cX9_rise 71 = .ok (.ifCond .le 7, 3) := by decide +kernel
theorem dX9_rise_74 : decode cX9_rise 74 = .ok (.iconst 0, 1) := by decide +kernel
theorem dX9_rise_75 : decode cX9_rise 75 = .ok (.goto 4, 3) := by decide +kernel
theorem dX9_rise_78 : decode cX9_rise 78 = .ok (.iload_n 1, 1) := by decide +kernel
theorem dX9_rise_79 : decode cX9_rise 79 = .ok (.istore_n 1, 1) := by decide +kernel
theorem dX9_rise_80 : decode cX9_rise 80 = .ok (.aload_n 0, 1) := by decide +kernel
theorem dX9_rise_81 : decode cX9_rise 81 = .ok (.iload_n 1, 1) := by decide +kernel
theorem dX9_rise_82 : decode cX9_rise 82 = .ok (.aload_n 0, 1) := by decide +kernel
theorem dX9_rise_83 : decode cX9_rise 83 = .ok (.getfield 214, 3) := by decide +kernel
theorem dX9_rise_86 : decode cX9_rise 86 = .ok (.if_icmp .le 12, 3) := by decide +kernel
theorem dX9_rise_89 : decode cX9_rise 89 = .ok (.aload_n 0, 1) := by decide +kernel
theorem dX9_rise_90 : decode cX9_rise 90 = .ok (.getfield 214, 3) := by decide +kernel
theorem dX9_rise_93 : decode cX9_rise 93 = .ok (.iconst 1, 1) := by decide +kernel
theorem dX9_rise_94 : decode cX9_rise 94 = .ok (.iadd, 1) := by decide +kernel
theorem dX9_rise_95 : decode cX9_rise 95 = .ok (.goto 4, 3) := by decide +kernel
theorem dX9_rise_98 : decode cX9_rise 98 = .ok (.iload_n 1, 1) := by decide +kernel
theorem dX9_rise_99 : decode cX9_rise 99 = .ok (.putfield 214, 3) := by decide +kernel
theorem dX9_rise_102 : decode cX9_rise 102 = .ok (.return_, 1) := by decide +kernel
theorem dX9_off_0 : decode cX9_off 0 = .ok (.aload_n 0, 1) := by decide +kernel
theorem dX9_off_1 : decode cX9_off 1 = .ok (.getfield 57, 3) := by decide +kernel
theorem dX9_off_4 : decode cX9_off 4 = .ok (.ifCond .eq 7, 3) := by decide +kernel
theorem dX9_off_7 : decode cX9_off 7 = .ok (.dconst 0, 1) := by decide +kernel
theorem dX9_off_8 : decode cX9_off 8 = .ok (.goto 12, 3) := by decide +kernel
theorem dX9_off_11 : decode cX9_off 11 = .ok (.aload_n 0, 1) := by decide +kernel
theorem dX9_off_12 : decode cX9_off 12 = .ok (.getfield 109, 3) := by decide +kernel
theorem dX9_off_15 : decode cX9_off 15 = .ok (.aload_n 0, 1) := by decide +kernel
theorem dX9_off_16 : decode cX9_off 16 = .ok (.getfield 149, 3) := by decide +kernel
theorem dX9_off_19 : decode cX9_off 19 = .ok (.dsub, 1) := by decide +kernel
theorem dX9_off_20 : decode cX9_off 20 = .ok (.dreturn, 1) := by decide +kernel
set_option maxRecDepth 20000 in
theorem ggX9_lookAtHands_X9_off : GoodIn wsX9_lookAtHands wsX9_off := goodIn_r _ [13, 1, 4, 14, 15, 16, 17, 18, 19, 20, 21, 22, 23, 24, 25, 26, 27, 28, 29, 30, 31, 32, 33, 34, 35, 36, 37, 38, 39, 40, 41, 42, 43, 44, 45, 46, 47, 48, 49, 50, 51, 52, 53, 54, 55, 56, 57, 58] (by decide +kernel) (by decide +kernel)
set_option maxRecDepth 20000 in
theorem gX9_lookAtHands_X9_off : GoodIn wsX9_lookAtHands (wsV RX9 217 RX9 yX9_off wsX9_off) := goodIn_app (goodIn_of _ (by decide +kernel)) ggX9_lookAtHands_X9_off
theorem dX9_lookAtHands_0 : decode cX9_lookAtHands 0 = .ok (.aload_n 0, 1) := by decide +kernel
theorem dX9_lookAtHands_1 : decode cX9_lookAtHands 1 = .ok (.getfield 57, 3) := by decide +kernel
theorem dX9_lookAtHands_4 : decode cX9_lookAtHands 4 = .ok (.ifCond .ne 41, 3) := by decide +kernel
theorem dX9_lookAtHands_7 : decode cX9_lookAtHands 7 = .ok (.aload_n 0, 1) := by decide +kernel
theorem dX9_lookAtHands_8 : decode cX9_lookAtHands 8 = .ok (.invokevirtual 217, 3) := by decide +kernel
theorem dX9_lookAtHands_11 : decode cX9_lookAtHands 11 = .ok (.ldc2_w 221, 3) := by decide +kernel
theorem dX9_lookAtHands_14 : decode cX9_lookAtHands 14 = .ok (.dcmp .l, 1) := by decide +kernel
theorem dX9_lookAtHands_15 : decode cX9_lookAtHands 15 = .ok (.ifCond .ge 26, 3) := by decide +kernel
theorem dX9_lookAtHands_18 : decode cX9_lookAtHands 18 = .ok (.aload_n 0, 1) := by decide +kernel
theorem dX9_lookAtHands_19 : decode cX9_lookAtHands 19 = .ok (.getfield 152, 3) := by decide +kernel
theorem dX9_lookAtHands_22 : decode cX9_lookAtHands 22 = .ok (.ifCond .eq 23, 3) := by decide +kernel
theorem dX9_lookAtHands_25 : decode cX9_lookAtHands 25 = .ok (.aload_n 0, 1) := by decide +kernel
theorem dX9_lookAtHands_26 : decode cX9_lookAtHands 26 = .ok (.getfield 109, 3) := by decide +kernel
theorem dX9_lookAtHands_29 : decode cX9_lookAtHands 29 = .ok (.aload_n 0, 1) := by decide +kernel
theorem dX9_lookAtHands_30 : decode cX9_lookAtHands 30 = .ok (.getfield 158, 3) := by decide +kernel
theorem dX9_lookAtHands_33 : decode cX9_lookAtHands 33 = .ok (.dsub, 1) := by decide +kernel
theorem dX9_lookAtHands_34 : decode cX9_lookAtHands 34 = .ok (.ldc2_w 223, 3) := by decide +kernel
theorem dX9_lookAtHands_37 : decode cX9_lookAtHands 37 = .ok (.dcmp .l, 1) := by decide +kernel
theorem dX9_lookAtHands_38 : decode cX9_lookAtHands 38 = .ok (.ifCond .lt 7, 3) := by decide +kernel
theorem dX9_lookAtHands_41 : decode cX9_lookAtHands 41 = .ok (.iconst 1, 1) := by decide +kernel
theorem dX9_lookAtHands_42 : decode cX9_lookAtHands 42 = .ok (.goto 4, 3) := by decide +kernel
theorem dX9_lookAtHands_45 : decode cX9_lookAtHands 45 = .ok (.iconst 0, 1) := by decide +kernel
theorem dX9_lookAtHands_46 : decode cX9_lookAtHands 46 = .ok (.istore_n 1, 1) := by decide +kernel
theorem dX9_lookAtHands_47 : decode cX9_lookAtHands 47 = .ok (.aload_n 0, 1) := by decide +kernel
theorem dX9_lookAtHands_48 : decode cX9_lookAtHands 48 = .ok (.aload_n 0, 1) := by decide +kernel
theorem dX9_lookAtHands_49 : decode cX9_lookAtHands 49 = .ok (.getfield 155, 3) := by decide +kernel
theorem dX9_lookAtHands_52 : decode cX9_lookAtHands 52 = .ok (.ifCond .ne 7, 3) := by decide +kernel
theorem dX9_lookAtHands_55 : decode cX9_lookAtHands 55 = .ok (.iload_n 1, 1) := by decide +kernel
theorem dX9_lookAtHands_56 : decode cX9_lookAtHands 56 = .ok (.ifCond .eq 7, 3) := by decide +kernel
theorem dX9_lookAtHands_59 : decode cX9_lookAtHands 59 = .ok (.iconst 1, 1) := by decide +kernel
theorem dX9_lookAtHands_60 : decode cX9_lookAtHands 60 = .ok (.goto 4, 3) := by decide +kernel
theorem dX9_lookAtHands_63 : decode cX9_lookAtHands 63 = .ok (.iconst 0, 1) := by decide +kernel
theorem dX9_lookAtHands_64 : decode cX9_lookAtHands 64 = .ok (.putfield 155, 3) := by decide +kernel
theorem dX9_lookAtHands_67 : decode cX9_lookAtHands 67 = .ok (.aload_n 0, 1) := by decide +kernel
theorem dX9_lookAtHands_68 : decode cX9_lookAtHands 68 = .ok (.aload_n 0, 1) := by decide +kernel
theorem dX9_lookAtHands_69 : decode cX9_lookAtHands 69 = .ok (.getfield 155, 3) := by decide +kernel
theorem dX9_lookAtHands_72 : decode cX9_lookAtHands 72 = .ok (.ifCond .eq 23, 3) := by decide +kernel
theorem dX9_lookAtHands_75 : decode cX9_lookAtHands 75 = .ok (.aload_n 0, 1) := by decide +kernel
theorem dX9_lookAtHands_76 : decode cX9_lookAtHands 76 = .ok (.getfield 57, 3) := by decide +kernel
theorem dX9_lookAtHands_79 : decode cX9_lookAtHands 79 = .ok (.ifCond .eq 12, 3) := by decide +kernel
theorem dX9_lookAtHands_82 : decode cX9_lookAtHands 82 = .ok (.aload_n 0, 1) := by decide +kernel
theorem dX9_lookAtHands_83 : decode cX9_lookAtHands 83 = .ok (.getfield 203, 3) := by decide +kernel
theorem dX9_lookAtHands_86 : decode cX9_lookAtHands 86 = .ok (.dconst 0, 1) := by decide +kernel
theorem dX9_lookAtHands_87 : decode cX9_lookAtHands 87 = .ok (.dcmp .l, 1) := by decide +kernel
theorem dX9_lookAtHands_88 : decode cX9_lookAtHands 88 = .ok (.ifCond .eq 7, 3) := by decide +kernel
theorem dX9_lookAtHands_91 : decode cX9_lookAtHands 91 = .ok (.iconst 1, 1) := by decide +kernel
theorem dX9_lookAtHands_92 : decode cX9_lookAtHands 92 = .ok (.goto 4, 3) := by decide +kernel
theorem dX9_lookAtHands_95 : decode cX9_lookAtHands 95 = .ok (.iconst 0, 1) := by decide +kernel
theorem dX9_lookAtHands_96 : decode cX9_lookAtHands 96 = .ok (.putfield 155, 3) := by decide +kernel
theorem dX9_lookAtHands_99 : decode cX9_lookAtHands 99 = .ok (.aload_n 0, 1) := by decide +kernel
theorem dX9_lookAtHands_100 : decode cX9_lookAtHands 100 = .ok (.aload_n 0, 1) := by decide +kernel
theorem dX9_lookAtHands_101 : decode cX9_lookAtHands 101 = .ok (.getfield 152, 3) := by decide +kernel
theorem dX9_lookAtHands_104 : decode cX9_lookAtHands 104 = .ok (.ifCond .eq 21, 3) := by decide +kernel
theorem dX9_lookAtHands_107 : decode cX9_lookAtHands 107 = .ok (.aload_n 0, 1) := by decide +kernel
theorem dX9_lookAtHands_108 : decode cX9_lookAtHands 108 = .ok (.getfield 57, 3) := by decide +kernel
theorem dX9_lookAtHands_111 : decode cX9_lookAtHands 111 = .ok (.ifCond .ne 14, 3) := by decide +kernel
theorem dX9_lookAtHands_114 : decode cX9_lookAtHands 114 = .ok (.aload_n 0, 1) := by decide +kernel
theorem dX9_lookAtHands_115 : decode cX9_lookAtHands 115 = .ok (.getfield 155, 3) := by decide +kernel
theorem dX9_lookAtHands_118 : decode cX9_lookAtHands 118 = .ok (.ifCond .ne 7, 3) := by decide +kernel
theorem dX9_lookAtHands_121 : decode cX9_lookAtHands 121 = .ok (.iconst 1, 1) := by decide +kernel
theorem dX9_lookAtHands_122 : decode cX9_lookAtHands 122 = .ok (.goto 4, 3) := by decide +kernel
theorem dX9_lookAtHands_125 : decode cX9_lookAtHands 125 = .ok (.iconst 0, 1) := by decide +kernel
theorem dX9_lookAtHands_126 : decode cX9_lookAtHands 126 = .ok (.putfield 152, 3) := by decide +kernel
theorem dX9_lookAtHands_129 : decode cX9_lookAtHands 129 = .ok (.return_, 1) := by decide +kernel
set_option maxRecDepth 20000 in
theorem ggX9_findMode_X9_off : GoodIn wsX9_findMode wsX9_off := goodIn_r _ [14, 3, 15, 16, 17, 18, 19, 20, 21, 22, 23, 24, 25, 26, 27, 28, 29, 30, 31, 32, 33, 34, 35, 36, 37, 38, 39, 40, 41, 42, 43, 44, 45, 46, 47, 48, 49, 50, 51, 52, 53, 54, 55, 56, 57, 58, 59, 60] (by decide +kernel) (by decide +kernel)
set_option maxRecDepth 20000 in
theorem gX9_findMode_X9_off : GoodIn wsX9_findMode (wsV RX9 217 RX9 yX9_off wsX9_off) := goodIn_app (goodIn_of _ (by decide +kernel)) ggX9_findMode_X9_off
theorem dX9_findMode_0 : decode cX9_findMode 0 = .ok (.aload_n 0, 1) := by decide +kernel
theorem dX9_findMode_1 : decode cX9_findMode 1 = .ok (.getfield 225, 3) := by decide +kernel
theorem dX9_findMode_4 : decode cX9_findMode 4 = .ok (.iconst 3, 1) := by decide +kernel
theorem dX9_findMode_5 : decode cX9_findMode 5 = .ok (.if_icmp .lt 6, 3) := by decide +kernel
theorem dX9_findMode_8 : decode cX9_findMode 8 = .ok (.bipush 6, 2) := by decide +kernel
theorem dX9_findMode_10 : decode cX9_findMode 10 = .ok (.ireturn, 1) := by decide +kernel
theorem dX9_findMode_11 : decode cX9_findMode 11 = .ok (.aload_n 0, 1) := by decide +kernel
theorem dX9_findMode_12 : decode cX9_findMode 12 = .ok (.getfield 155, 3) := by decide +kernel
theorem dX9_findMode_15 : decode cX9_findMode 15 = .ok (.ifCond .eq 5, 3) := by decide +kernel
theorem dX9_findMode_18 : decode cX9_findMode 18 = .ok (.iconst 5, 1) := by decide +kernel
theorem dX9_findMode_19 : decode cX9_findMode 19 = .ok (.ireturn, 1) := by decide +kernel
theorem dX9_findMode_20 : decode cX9_findMode 20 = .ok (.aload_n 0, 1) := by decide +kernel
theorem dX9_findMode_21 : decode cX9_findMode 21 = .ok (.getfield 57, 3) := by decide +kernel
theorem dX9_findMode_24 : decode cX9_findMode 24 = .ok (.ifCond .ne 14, 3) := by decide +kernel
theorem dX9_findMode_27 : decode cX9_findMode 27 = .ok (.aload_n 0, 1) := by decide +kernel
theorem dX9_findMode_28 : decode cX9_findMode 28 = .ok (.invokevirtual 217, 3) := by decide +kernel
theorem dX9_findMode_31 : decode cX9_findMode 31 = .ok (.ldc2_w 228, 3) := by decide +kernel
theorem dX9_findMode_34 : decode cX9_findMode 34 = .ok (.dcmp .l, 1) := by decide +kernel
theorem dX9_findMode_35 : decode cX9_findMode 35 = .ok (.ifCond .ge 10, 3) := by decide +kernel
theorem dX9_findMode_38 : decode cX9_findMode 38 = .ok (.aload_n 0, 1) := by decide +kernel
theorem dX9_findMode_39 : decode cX9_findMode 39 = .ok (.getfield 152, 3) := by decide +kernel
theorem dX9_findMode_42 : decode cX9_findMode 42 = .ok (.ifCond .eq 5, 3) := by decide +kernel
theorem dX9_findMode_45 : decode cX9_findMode 45 = .ok (.iconst 4, 1) := by decide +kernel
theorem dX9_findMode_46 : decode cX9_findMode 46 = .ok (.ireturn, 1) := by decide +kernel
theorem dX9_findMode_47 : decode cX9_findMode 47 = .ok (.aload_n 0, 1) := by decide +kernel
theorem dX9_findMode_48 : decode cX9_findMode 48 = .ok (.getfield 214, 3) := by decide +kernel
theorem dX9_findMode_51 : decode cX9_findMode 51 = .ok (.iconst 1, 1) := by decide +kernel
theorem dX9_findMode_52 : decode cX9_findMode 52 = .ok (.if_icmp .le 7, 3) := by decide +kernel
theorem dX9_findMode_55 : decode cX9_findMode 55 = .ok (.iconst 3, 1) := by decide +kernel
theorem dX9_findMode_56 : decode cX9_findMode 56 = .ok (.goto 37, 3) := by decide +kernel
theorem dX9_findMode_59 : decode cX9_findMode 59 = .ok (.aload_n 0, 1) := by decide +kernel
theorem dX9_findMode_60 : decode cX9_findMode 60 = .ok (.getfield 131, 3) := by decide +kernel
theorem dX9_findMode_63 : decode cX9_findMode 63 = .ok (.dconst 0, 1) := by decide +kernel
theorem dX9_findMode_64 : decode cX9_findMode 64 = .ok (.dcmp .l, 1) := by decide +kernel
theorem dX9_findMode_65 : decode cX9_findMode 65 = .ok (.ifCond .gt 12, 3) := by decide +kernel
theorem dX9_findMode_68 : decode cX9_findMode 68 = .ok (.aload_n 0, 1) := by decide +kernel
theorem dX9_findMode_69 : decode cX9_findMode 69 = .ok (.getfield 134, 3) := by decide +kernel
theorem dX9_findMode_72 : decode cX9_findMode 72 = .ok (.dconst 0, 1) := by decide +kernel
theorem dX9_findMode_73 : decode cX9_findMode 73 = .ok (.dcmp .l, 1) := by decide +kernel
theorem dX9_findMode_74 : decode cX9_findMode 74 = .ok (.ifCond .le 7, 3) := by decide +kernel
theorem dX9_findMode_77 : decode cX9_findMode 77 = .ok (.iconst 2, 1) := by decide +kernel
theorem dX9_findMode_78 : decode cX9_findMode 78 = .ok (.goto 15, 3) := by decide +kernel
theorem dX9_findMode_81 : decode cX9_findMode 81 = .ok (.aload_n 0, 1) := by decide +kernel
theorem dX9_findMode_82 : decode cX9_findMode 82 = .ok (.getfield 77, 3) := by decide +kernel
theorem dX9_findMode_85 : decode cX9_findMode 85 = .ok (.ifCond .lt 7, 3) := by decide +kernel
theorem dX9_findMode_88 : decode cX9_findMode 88 = .ok (.iconst 1, 1) := by decide +kernel
theorem dX9_findMode_89 : decode cX9_findMode 89 = .ok (.goto 4, 3) := by decide +kernel
theorem dX9_findMode_92 : decode cX9_findMode 92 = .ok (.iconst 0, 1) := by decide +kernel
theorem dX9_findMode_93 : decode cX9_findMode 93 = .ok (.ireturn, 1) := by decide +kernel
set_option maxRecDepth 20000 in
theorem ggX9_findForce_X9_between : GoodIn wsX9_findForce wsX9_between := goodIn_r _ [26] (by decide +kernel) (by decide +kernel)
set_option maxRecDepth 20000 in
theorem gX9_findForce_X9_between : GoodIn wsX9_findForce (va_wsS RX9 239 yX9_between wsX9_between) := goodIn_app (goodIn_of _ (by decide +kernel)) ggX9_findForce_X9_between
theorem dX9_findForce_0 : decode cX9_findForce 0 = .ok (.aload_n 0, 1) := by decide +kernel
theorem dX9_findForce_1 : decode cX9_findForce 1 = .ok (.getfield 146, 3) := by decide +kernel
theorem dX9_findForce_4 : decode cX9_findForce 4 = .ok (.aload_n 0, 1) := by decide +kernel
theorem dX9_findForce_5 : decode cX9_findForce 5 = .ok (.getfield 203, 3) := by decide +kernel
theorem dX9_findForce_8 : decode cX9_findForce 8 = .ok (.dsub, 1) := by decide +kernel
theorem dX9_findForce_9 : decode cX9_findForce 9 = .ok (.ldc2_w 142, 3) := by decide +kernel
theorem dX9_findForce_12 : decode cX9_findForce 12 = .ok (.dmul, 1) := by decide +kernel
theorem dX9_findForce_13 : decode cX9_findForce 13 = .ok (.dstore_n 1, 1) := by decide +kernel
theorem dX9_findForce_14 : decode cX9_findForce 14 = .ok (.aload_n 0, 1) := by decide +kernel
theorem dX9_findForce_15 : decode cX9_findForce 15 = .ok (.getfield 77, 3) := by decide +kernel
theorem dX9_findForce_18 : decode cX9_findForce 18 = .ok (.ifCond .lt 62, 3) := by decide +kernel
theorem dX9_findForce_21 : decode cX9_findForce 21 = .ok (.aload_n 0, 1) := by decide +kernel
theorem dX9_findForce_22 : decode cX9_findForce 22 = .ok (.getfield 13, 3) := by decide +kernel
theorem dX9_findForce_25 : decode cX9_findForce 25 = .ok (.aload_n 0, 1) := by decide +kernel
theorem dX9_findForce_26 : decode cX9_findForce 26 = .ok (.getfield 77, 3) := by decide +kernel
theorem dX9_findForce_29 : decode cX9_findForce 29 = .ok (.daload, 1) := by decide +kernel
theorem dX9_findForce_30 : decode cX9_findForce 30 = .ok (.ldc2_w 144, 3) := by decide +kernel
theorem dX9_findForce_33 : decode cX9_findForce 33 = .ok (.aload_n 0, 1) := by decide +kernel
theorem dX9_findForce_34 : decode cX9_findForce 34 = .ok (.getfield 63, 3) := by decide +kernel
theorem dX9_findForce_37 : decode cX9_findForce 37 = .ok (.aload_n 0, 1) := by decide +kernel
theorem dX9_findForce_38 : decode cX9_findForce 38 = .ok (.getfield 203, 3) := by decide +kernel
theorem dX9_findForce_41 : decode cX9_findForce 41 = .ok (.dmul, 1) := by decide +kernel
theorem dX9_findForce_42 : decode cX9_findForce 42 = .ok (.dadd, 1) := by decide +kernel
theorem dX9_findForce_43 : decode cX9_findForce 43 = .ok (.dsub, 1) := by decide +kernel
theorem dX9_findForce_44 : decode cX9_findForce 44 = .ok (.ldc2_w 230, 3) := by decide +kernel
theorem dX9_findForce_47 : decode cX9_findForce 47 = .ok (.dmul, 1) := by decide +kernel
theorem dX9_findForce_48 : decode cX9_findForce 48 = .ok (.aload_n 0, 1) := by decide +kernel
theorem dX9_findForce_49 : decode cX9_findForce 49 = .ok (.getfield 20, 3) := by decide +kernel
theorem dX9_findForce_52 : decode cX9_findForce 52 = .ok (.aload_n 0, 1) := by decide +kernel
theorem dX9_findForce_53 : decode cX9_findForce 53 = .ok (.getfield 77, 3) := by decide +kernel
theorem dX9_findForce_56 : decode cX9_findForce 56 = .ok (.daload, 1) := by decide +kernel
theorem dX9_findForce_57 : decode cX9_findForce 57 = .ok (.aload_n 0, 1) := by decide +kernel
theorem dX9_findForce_58 : decode cX9_findForce 58 = .ok (.getfield 203, 3) := by decide +kernel
theorem dX9_findForce_61 : decode cX9_findForce 61 = .ok (.dsub, 1) := by decide +kernel
theorem dX9_findForce_62 : decode cX9_findForce 62 = .ok (.ldc2_w 232, 3) := by decide +kernel
theorem dX9_findForce_65 : decode cX9_findForce 65 = .ok (.dmul, 1) := by decide +kernel
theorem dX9_findForce_66 : decode cX9_findForce 66 = .ok (.dadd, 1) := by decide +kernel
theorem dX9_findForce_67 : decode cX9_findForce 67 = .ok (.dstore_n 3, 1) := by decide +kernel
theorem dX9_findForce_68 : decode cX9_findForce 68 = .ok (.dload_n 3, 1) := by decide +kernel
theorem dX9_findForce_69 : decode cX9_findForce 69 = .ok (.dload_n 1, 1) := by decide +kernel
theorem dX9_findForce_70 : decode cX9_findForce 70 = .ok (.dcmp .g, 1) := by decide +kernel
theorem dX9_findForce_71 : decode cX9_findForce 71 = .ok (.ifCond .ge 7, 3) := by decide +kernel
theorem dX9_findForce_74 : decode cX9_findForce 74 = .ok (.dload_n 3, 1) := by decide +kernel
theorem dX9_findForce_75 : decode cX9_findForce 75 = .ok (.goto 4, 3) := by decide +kernel
theorem dX9_findForce_78 : decode cX9_findForce 78 = .ok (.dload_n 1, 1) := by decide +kernel
theorem dX9_findForce_79 : decode cX9_findForce 79 = .ok (.dstore_n 1, 1) := by decide +kernel
theorem dX9_findForce_80 : decode cX9_findForce 80 = .ok (.aload_n 0, 1) := by decide +kernel
theorem dX9_findForce_81 : decode cX9_findForce 81 = .ok (.getfield 234, 3) := by decide +kernel
theorem dX9_findForce_84 : decode cX9_findForce 84 = .ok (.bipush 6, 2) := by decide +kernel
theorem dX9_findForce_86 : decode cX9_findForce 86 = .ok (.if_icmp .ne 13, 3) := by decide +kernel
theorem dX9_findForce_89 : decode cX9_findForce 89 = .ok (.dload_n 1, 1) := by decide +kernel
theorem dX9_findForce_90 : decode cX9_findForce 90 = .ok (.dconst 0, 1) := by decide +kernel
theorem dX9_findForce_91 : decode cX9_findForce 91 = .ok (.dcmp .l, 1) := by decide +kernel
theorem dX9_findForce_92 : decode cX9_findForce 92 = .ok (.ifCond .le 7, 3) := by decide +kernel
theorem dX9_findForce_95 : decode cX9_findForce 95 = .ok (.dconst 0, 1) := by decide +kernel
theorem dX9_findForce_96 : decode cX9_findForce 96 = .ok (.goto 4, 3) := by decide +kernel
theorem dX9_findForce_99 : decode cX9_findForce 99 = .ok (.dload_n 1, 1) := by decide +kernel
theorem dX9_findForce_100 : decode cX9_findForce 100 = .ok (.dstore_n 1, 1) := by decide +kernel
theorem dX9_findForce_101 : decode cX9_findForce 101 = .ok (.dload_n 1, 1) := by decide +kernel
theorem dX9_findForce_102 : decode cX9_findForce 102 = .ok (.ldc2_w 237, 3) := by decide +kernel
theorem dX9_findForce_105 : decode cX9_findForce 105 = .ok (.ldc2_w 72, 3) := by decide +kernel
theorem dX9_findForce_108 : decode cX9_findForce 108 = .ok (.invokestatic 239, 3) := by decide +kernel
theorem dX9_findForce_111 : decode cX9_findForce 111 = .ok (.dstore_n 1, 1) := by decide +kernel
theorem dX9_findForce_112 : decode cX9_findForce 112 = .ok (.aload_n 0, 1) := by decide +kernel
theorem dX9_findForce_113 : decode cX9_findForce 113 = .ok (.getfield 131, 3) := by decide +kernel
theorem dX9_findForce_116 : decode cX9_findForce 116 = .ok (.dconst 0, 1) := by decide +kernel
theorem dX9_findForce_117 : decode cX9_findForce 117 = .ok (.dcmp .l, 1) := by decide +kernel
theorem dX9_findForce_118 : decode cX9_findForce 118 = .ok (.ifCond .le 29, 3) := by decide +kernel
theorem dX9_findForce_121 : decode cX9_findForce 121 = .ok (.ldc2_w 144, 3) := by decide +kernel
theorem dX9_findForce_124 : decode cX9_findForce 124 = .ok (.aload_n 0, 1) := by decide +kernel
theorem dX9_findForce_125 : decode cX9_findForce 125 = .ok (.getfield 131, 3) := by decide +kernel
theorem dX9_findForce_128 : decode cX9_findForce 128 = .ok (.dmul, 1) := by decide +kernel
theorem dX9_findForce_129 : decode cX9_findForce 129 = .ok (.dload_n 1, 1) := by decide +kernel
theorem dX9_findForce_130 : decode cX9_findForce 130 = .ok (.dcmp .l, 1) := by decide +kernel
theorem dX9_findForce_131 : decode cX9_findForce 131 = .ok (.ifCond .le 14, 3) := by decide +kernel
theorem dX9_findForce_134 : decode cX9_findForce 134 = .ok (.ldc2_w 144, 3) := by decide +kernel
theorem dX9_findForce_137 : decode cX9_findForce 137 = .ok (.aload_n 0, 1) := by decide +kernel
theorem dX9_findForce_138 : decode cX9_findForce 138 = .ok (.getfield 131, 3) := by decide +kernel
theorem dX9_findForce_141 : decode cX9_findForce 141 = .ok (.dmul, 1) := by decide +kernel
theorem dX9_findForce_142 : decode cX9_findForce 142 = .ok (.goto 4, 3) := by decide +kernel
theorem dX9_findForce_145 : decode cX9_findForce 145 = .ok (.dload_n 1, 1) := by decide +kernel
theorem dX9_findForce_146 : decode cX9_findForce 146 = .ok (.dstore_n 1, 1) := by decide +kernel
theorem dX9_findForce_147 : decode cX9_findForce 147 = .ok (.aload_n 0, 1) := by decide +kernel
theorem dX9_findForce_148 : decode cX9_findForce 148 = .ok (.getfield 155, 3) := by decide +kernel
theorem dX9_findForce_151 : decode cX9_findForce 151 = .ok (.ifCond .eq 20, 3) := by decide +kernel
theorem dX9_findForce_154 : decode cX9_findForce 154 = .ok (.aload_n 0, 1) := by decide +kernel
theorem dX9_findForce_155 : decode cX9_findForce 155 = .ok (.getfield 203, 3) := by decide +kernel
theorem dX9_findForce_158 : decode cX9_findForce 158 = .ok (.dconst 0, 1) := by decide +kernel
theorem dX9_findForce_159 : decode cX9_findForce 159 = .ok (.dcmp .l, 1) := by decide +kernel
theorem dX9_findForce_160 : decode cX9_findForce 160 = .ok (.ifCond .ne 7, 3) := by decide +kernel
theorem dX9_findForce_163 : decode cX9_findForce 163 = .ok (.dconst 0, 1) := by decide +kernel
theorem dX9_findForce_164 : decode cX9_findForce 164 = .ok (.goto 6, 3) := by decide +kernel
theorem dX9_findForce_167 : decode cX9_findForce 167 = .ok (.ldc2_w 243, 3) := by decide +kernel
theorem dX9_findForce_170 : decode cX9_findForce 170 = .ok (.dstore_n 1, 1) := by decide +kernel
theorem dX9_findForce_171 : decode cX9_findForce 171 = .ok (.aload_n 0, 1) := by decide +kernel
theorem dX9_findForce_172 : decode cX9_findForce 172 = .ok (.getfield 134, 3) := by decide +kernel
theorem dX9_findForce_175 : decode cX9_findForce 175 = .ok (.dconst 0, 1) := by decide +kernel
theorem dX9_findForce_176 : decode cX9_findForce 176 = .ok (.dcmp .l, 1) := by decide +kernel
theorem dX9_findForce_177 : decode cX9_findForce 177 = .ok (.ifCond .le 12, 3) := by decide +kernel
theorem dX9_findForce_180 : decode cX9_findForce 180 = .ok (.ldc2_w 245, 3) := by decide +kernel
theorem dX9_findForce_183 : decode cX9_findForce 183 = .ok (.aload_n 0, 1) := by decide +kernel
theorem dX9_findForce_184 : decode cX9_findForce 184 = .ok (.getfield 134, 3) := by decide +kernel
theorem dX9_findForce_187 : decode cX9_findForce 187 = .ok (.dmul, 1) := by decide +kernel
theorem dX9_findForce_188 : decode cX9_findForce 188 = .ok (.dstore_n 1, 1) := by decide +kernel
theorem dX9_findForce_189 : decode cX9_findForce 189 = .ok (.aload_n 0, 1) := by decide +kernel
theorem dX9_findForce_190 : decode cX9_findForce 190 = .ok (.getfield 214, 3) := by decide +kernel
theorem dX9_findForce_193 : decode cX9_findForce 193 = .ok (.iconst 2, 1) := by decide +kernel
theorem dX9_findForce_194 : decode cX9_findForce 194 = .ok (.if_icmp .ne 22, 3) := by decide +kernel
theorem dX9_findForce_197 : decode cX9_findForce 197 = .ok (.dload_n 1, 1) := by decide +kernel
theorem dX9_findForce_198 : decode cX9_findForce 198 = .ok (.ldc2_w 247, 3) := by decide +kernel
theorem dX9_findForce_201 : decode cX9_findForce 201 = .ok (.dcmp .l, 1) := by decide +kernel
theorem dX9_findForce_202 : decode cX9_findForce 202 = .ok (.ifCond .le 9, 3) := by decide +kernel
theorem dX9_findForce_205 : decode cX9_findForce 205 = .ok (.ldc2_w 247, 3) := by decide +kernel
theorem dX9_findForce_208 : decode cX9_findForce 208 = .ok (.goto 4, 3) := by decide +kernel
theorem dX9_findForce_211 : decode cX9_findForce 211 = .ok (.dload_n 1, 1) := by decide +kernel
theorem dX9_findForce_212 : decode cX9_findForce 212 = .ok (.dstore_n 1, 1) := by decide +kernel
theorem dX9_findForce_213 : decode cX9_findForce 213 = .ok (.goto 27, 3) := by decide +kernel
theorem dX9_findForce_216 : decode cX9_findForce 216 = .ok (.aload_n 0, 1) := by decide +kernel
theorem dX9_findForce_217 : decode cX9_findForce 217 = .ok (.getfield 214, 3) := by decide +kernel
theorem dX9_findForce_220 : decode cX9_findForce 220 = .ok (.iconst 3, 1) := by decide +kernel
theorem dX9_findForce_221 : decode cX9_findForce 221 = .ok (.if_icmp .ne 19, 3) := by decide +kernel
theorem dX9_findForce_224 : decode cX9_findForce 224 = .ok (.dload_n 1, 1) := by decide +kernel
theorem dX9_findForce_225 : decode cX9_findForce 225 = .ok (.ldc2_w 245, 3) := by decide +kernel
theorem dX9_findForce_228 : decode cX9_findForce 228 = .ok (.dcmp .l, 1) := by decide +kernel
theorem dX9_findForce_229 : decode cX9_findForce 229 = .ok (.ifCond .le 9, 3) := by decide +kernel
theorem dX9_findForce_232 : decode cX9_findForce 232 = .ok (.ldc2_w 245, 3) := by decide +kernel
theorem dX9_findForce_235 : decode cX9_findForce 235 = .ok (.goto 4, 3) := by decide +kernel
theorem dX9_findForce_238 : decode cX9_findForce 238 = .ok (.dload_n 1, 1) := by decide +kernel
theorem dX9_findForce_239 : decode cX9_findForce 239 = .ok (.dstore_n 1, 1) := by decide +kernel
theorem dX9_findForce_240 : decode cX9_findForce 240 = .ok (.dload_n 1, 1) := by decide +kernel
theorem dX9_findForce_241 : decode cX9_findForce 241 = .ok (.dconst 0, 1) := by decide +kernel
theorem dX9_findForce_242 : decode cX9_findForce 242 = .ok (.aload_n 0, 1) := by decide +kernel
theorem dX9_findForce_243 : decode cX9_findForce 243 = .ok (.getfield 69, 3) := by decide +kernel
theorem dX9_findForce_246 : decode cX9_findForce 246 = .ok (.dsub, 1) := by decide +kernel
theorem dX9_findForce_247 : decode cX9_findForce 247 = .ok (.aload_n 0, 1) := by decide +kernel
theorem dX9_findForce_248 : decode cX9_findForce 248 = .ok (.getfield 74, 3) := by decide +kernel
theorem dX9_findForce_251 : decode cX9_findForce 251 = .ok (.invokestatic 239, 3) := by decide +kernel
theorem dX9_findForce_254 : decode cX9_findForce 254 = .ok (.dreturn, 1) := by decide +kernel
set_option maxRecDepth 20000 in
theorem ggX9_turn_X9_between : GoodIn wsX9_turn wsX9_between := goodIn_r _ [13] (by decide +kernel) (by decide +kernel)
set_option maxRecDepth 20000 in
theorem gX9_turn_X9_between : GoodIn wsX9_turn (va_wsS RX9 239 yX9_between wsX9_between) := goodIn_app (goodIn_of _ (by decide +kernel)) ggX9_turn_X9_between
set_option maxRecDepth 20000 in
theorem ggX9_turn_X9_size : GoodIn wsX9_turn wsX9_size := goodIn_r _ [16] (by decide +kernel) (by decide +kernel)
set_option maxRecDepth 20000 in
theorem gX9_turn_X9_size : GoodIn wsX9_turn (va_wsS RX9 164 yX9_size wsX9_size) := goodIn_app (goodIn_of _ (by decide +kernel)) ggX9_turn_X9_size
theorem dX9_turn_0 : decode cX9_turn 0 = .ok (.dconst 0, 1) := by decide +kernel
theorem dX9_turn_1 : decode cX9_turn 1 = .ok (.ldc2_w 249, 3) := by decide +kernel
theorem dX9_turn_4 : decode cX9_turn 4 = .ok (.aload_n 0, 1) := by decide +kernel
theorem dX9_turn_5 : decode cX9_turn 5 = .ok (.getfield 122, 3) := by decide +kernel
theorem dX9_turn_8 : decode cX9_turn 8 = .ok (.dmul, 1) := by decide +kernel
theorem dX9_turn_9 : decode cX9_turn 9 = .ok (.ldc2_w 142, 3) := by decide +kernel
theorem dX9_turn_12 : decode cX9_turn 12 = .ok (.aload_n 0, 1) := by decide +kernel
theorem dX9_turn_13 : decode cX9_turn 13 = .ok (.getfield 125, 3) := by decide +kernel
theorem dX9_turn_16 : decode cX9_turn 16 = .ok (.dmul, 1) := by decide +kernel
theorem dX9_turn_17 : decode cX9_turn 17 = .ok (.dadd, 1) := by decide +kernel
theorem dX9_turn_18 : decode cX9_turn 18 = .ok (.dsub, 1) := by decide +kernel
theorem dX9_turn_19 : decode cX9_turn 19 = .ok (.ldc2_w 251, 3) := by decide +kernel
theorem dX9_turn_22 : decode cX9_turn 22 = .ok (.ldc2_w 212, 3) := by decide +kernel
theorem dX9_turn_25 : decode cX9_turn 25 = .ok (.invokestatic 239, 3) := by decide +kernel
theorem dX9_turn_28 : decode cX9_turn 28 = .ok (.dstore_n 1, 1) := by decide +kernel
theorem dX9_turn_29 : decode cX9_turn 29 = .ok (.aload_n 0, 1) := by decide +kernel
theorem dX9_turn_30 : decode cX9_turn 30 = .ok (.getfield 137, 3) := by decide +kernel
theorem dX9_turn_33 : decode cX9_turn 33 = .ok (.invokestatic 164, 3) := by decide +kernel
theorem dX9_turn_36 : decode cX9_turn 36 = .ok (.ldc2_w 253, 3) := by decide +kernel
theorem dX9_turn_39 : decode cX9_turn 39 = .ok (.dcmp .l, 1) := by decide +kernel
theorem dX9_turn_40 : decode cX9_turn 40 = .ok (.ifCond .le 7, 3) := by decide +kernel
theorem dX9_turn_43 : decode cX9_turn 43 = .ok (.dconst 0, 1) := by decide +kernel
theorem dX9_turn_44 : decode cX9_turn 44 = .ok (.goto 4, 3) := by decide +kernel
theorem dX9_turn_47 : decode cX9_turn 47 = .ok (.dload_n 1, 1) := by decide +kernel
theorem dX9_turn_48 : decode cX9_turn 48 = .ok (.dstore_n 1, 1) := by decide +kernel
theorem dX9_turn_49 : decode cX9_turn 49 = .ok (.aload_n 0, 1) := by decide +kernel
theorem dX9_turn_50 : decode cX9_turn 50 = .ok (.dload_n 1, 1) := by decide +kernel
theorem dX9_turn_51 : decode cX9_turn 51 = .ok (.aload_n 0, 1) := by decide +kernel
theorem dX9_turn_52 : decode cX9_turn 52 = .ok (.getfield 255, 3) := by decide +kernel
theorem dX9_turn_55 : decode cX9_turn 55 = .ok (.dsub, 1) := by decide +kernel
theorem dX9_turn_56 : decode cX9_turn 56 = .ok (.invokestatic 164, 3) := by decide +kernel
theorem dX9_turn_59 : decode cX9_turn 59 = .ok (.ldc2_w 253, 3) := by decide +kernel
theorem dX9_turn_62 : decode cX9_turn 62 = .ok (.dcmp .g, 1) := by decide +kernel
theorem dX9_turn_63 : decode cX9_turn 63 = .ok (.ifCond .gt 7, 3) := by decide +kernel
theorem dX9_turn_66 : decode cX9_turn 66 = .ok (.dload_n 1, 1) := by decide +kernel
theorem dX9_turn_67 : decode cX9_turn 67 = .ok (.goto 31, 3) := by decide +kernel
theorem dX9_turn_70 : decode cX9_turn 70 = .ok (.dload_n 1, 1) := by decide +kernel
theorem dX9_turn_71 : decode cX9_turn 71 = .ok (.aload_n 0, 1) := by decide +kernel
theorem dX9_turn_72 : decode cX9_turn 72 = .ok (.getfield 255, 3) := by decide +kernel
theorem dX9_turn_75 : decode cX9_turn 75 = .ok (.dcmp .l, 1) := by decide +kernel
theorem dX9_turn_76 : decode cX9_turn 76 = .ok (.ifCond .le 14, 3) := by decide +kernel
theorem dX9_turn_79 : decode cX9_turn 79 = .ok (.aload_n 0, 1) := by decide +kernel
theorem dX9_turn_80 : decode cX9_turn 80 = .ok (.getfield 255, 3) := by decide +kernel
theorem dX9_turn_83 : decode cX9_turn 83 = .ok (.ldc2_w 253, 3) := by decide +kernel
theorem dX9_turn_86 : decode cX9_turn 86 = .ok (.dadd, 1) := by decide +kernel
theorem dX9_turn_87 : decode cX9_turn 87 = .ok (.goto 11, 3) := by decide +kernel
theorem dX9_turn_90 : decode cX9_turn 90 = .ok (.aload_n 0, 1) := by decide +kernel
theorem dX9_turn_91 : decode cX9_turn 91 = .ok (.getfield 255, 3) := by decide +kernel
theorem dX9_turn_94 : decode cX9_turn 94 = .ok (.ldc2_w 253, 3) := by decide +kernel
theorem dX9_turn_97 : decode cX9_turn 97 = .ok (.dsub, 1) := by decide +kernel
theorem dX9_turn_98 : decode cX9_turn 98 = .ok (.putfield 255, 3) := by decide +kernel
theorem dX9_turn_101 : decode cX9_turn 101 = .ok (.return_, 1) := by decide +kernel
set_option maxRecDepth 20000 in
theorem ggX9_step_X9_in : GoodIn wsX9_step wsX9_in := goodIn_r _ [17] (by decide +kernel) (by decide +kernel)
set_option maxRecDepth 20000 in
theorem gX9_step_X9_in : GoodIn wsX9_step (va_wsS RX9 97 yX9_in wsX9_in) := goodIn_app (goodIn_of _ (by decide +kernel)) ggX9_step_X9_in
set_option maxRecDepth 20000 in
theorem ggX9_step_X9_joinSensor : GoodIn wsX9_step wsX9_joinSensor := goodIn_r _ [21, 22, 23, 7, 24, 25, 26, 27, 8, 28, 29, 30, 31, 32, 33, 16, 34, 35, 36, 37, 38, 39, 40, 41, 42, 43, 44, 45, 46, 47, 48, 49, 50, 51, 52, 53, 54, 55, 56, 57, 58, 9, 59, 10, 6, 60, 61, 62, 63, 64, 140, 141, 142, 143, 144, 145, 146, 147, 148, 149, 150, 151, 152, 153, 154, 155, 156, 157, 158, 159, 160, 161, 162, 163, 164, 165, 166, 167, 168, 169, 170, 171, 172, 173, 174, 175, 176, 177, 178, 179, 180, 181, 182, 183] (by decide +kernel) (by decide +kernel)
set_option maxRecDepth 20000 in
theorem gX9_step_X9_joinSensor : GoodIn wsX9_step (wsV RX9 258 RX9 yX9_joinSensor wsX9_joinSensor) := goodIn_app (goodIn_of _ (by decide +kernel)) ggX9_step_X9_joinSensor
set_option maxRecDepth 20000 in
theorem ggX9_step_X9_coastAll : GoodIn wsX9_step wsX9_coastAll := goodIn_r _ [68, 44, 9, 10, 64, 30, 7, 69, 140, 141, 142, 143, 144, 145, 146, 147, 148, 149, 150, 151, 152, 153, 154, 155, 156, 157, 158, 159, 160, 161, 162, 163, 164, 165, 166, 167, 168, 169, 170, 171, 172, 173, 174, 175, 176, 177, 178, 179, 180, 181, 182, 183] (by decide +kernel) (by decide +kernel)
set_option maxRecDepth 20000 in
theorem gX9_step_X9_coastAll : GoodIn wsX9_step (wsV RX9 261 RX9 yX9_coastAll wsX9_coastAll) := goodIn_app (goodIn_of _ (by decide +kernel)) ggX9_step_X9_coastAll
set_option maxRecDepth 20000 in
theorem ggX9_step_X9_findLead : GoodIn wsX9_step wsX9_findLead := goodIn_r _ [73, 74, 75, 7, 76, 77, 44, 30, 26, 78, 79, 80, 5, 8, 81, 47, 48, 16, 49, 140, 141, 142, 143, 144, 145, 146, 147, 148, 149, 150, 151, 152, 153, 154, 155, 156, 157, 158, 159, 160, 161, 162, 163, 164, 165, 166, 167, 168, 169, 170, 171, 172, 173, 174, 175, 176, 177, 178, 179, 180, 181, 182, 183] (by decide +kernel) (by decide +kernel)
set_option maxRecDepth 20000 in
theorem gX9_step_X9_findLead : GoodIn wsX9_step (wsV RX9 264 RX9 yX9_findLead wsX9_findLead) := goodIn_app (goodIn_of _ (by decide +kernel)) ggX9_step_X9_findLead
set_option maxRecDepth 20000 in
theorem ggX9_step_X9_rise : GoodIn wsX9_step wsX9_rise := goodIn_r _ [85, 81, 86, 87, 88, 89, 90, 91, 47, 48, 16, 49, 140, 141, 142, 143, 144, 145, 146, 147, 148, 149, 150, 151, 152, 153, 154, 155, 156, 157, 158, 159, 160, 161, 162, 163, 164, 165, 166, 167, 168, 169, 170, 171, 172, 173, 174, 175, 176, 177, 178, 179, 180, 181, 182, 183] (by decide +kernel) (by decide +kernel)
set_option maxRecDepth 20000 in
theorem gX9_step_X9_rise : GoodIn wsX9_step (wsV RX9 267 RX9 yX9_rise wsX9_rise) := goodIn_app (goodIn_of _ (by decide +kernel)) ggX9_step_X9_rise
set_option maxRecDepth 20000 in
theorem ggX9_step_X9_lookAtHands : GoodIn wsX9_step wsX9_lookAtHands := goodIn_r _ [95, 96, 97, 98, 3, 99, 100, 101, 5, 102, 103, 104, 16, 105, 106, 140, 141, 142, 143, 144, 145, 146, 147, 148, 149, 150, 151, 152, 153, 154, 155, 156, 157, 158, 159, 160, 161, 162, 163, 164, 165, 166, 167, 168, 169, 170, 171, 172, 173, 174, 175, 176, 177, 178, 179, 180, 181, 182, 183] (by decide +kernel) (by decide +kernel)
set_option maxRecDepth 20000 in
theorem gX9_step_X9_lookAtHands : GoodIn wsX9_step (wsV RX9 270 RX9 yX9_lookAtHands wsX9_lookAtHands) := goodIn_app (goodIn_of _ (by decide +kernel)) ggX9_step_X9_lookAtHands
set_option maxRecDepth 20000 in
theorem ggX9_step_X9_findMode : GoodIn wsX9_step wsX9_findMode := goodIn_r _ [110, 11, 101, 96, 111, 98, 91, 112, 113, 74, 102, 103, 104, 16, 105, 3, 106, 140, 141, 142, 143, 144, 145, 146, 147, 148, 149, 150, 151, 152, 153, 154, 155, 156, 157, 158, 159, 160, 161, 162, 163, 164, 165, 166, 167, 168, 169, 170, 171, 172, 173, 174, 175, 176, 177, 178, 179, 180, 181, 182, 183] (by decide +kernel) (by decide +kernel)
set_option maxRecDepth 20000 in
theorem gX9_step_X9_findMode : GoodIn wsX9_step (wsV RX9 273 RX9 yX9_findMode wsX9_findMode) := goodIn_app (goodIn_of _ (by decide +kernel)) ggX9_step_X9_findMode
set_option maxRecDepth 20000 in
theorem ggX9_step_X9_findForce : GoodIn wsX9_step wsX9_findForce := goodIn_r _ [117, 118, 5, 24, 74, 7, 119, 120, 121, 8, 122, 12, 123, 46, 112, 101, 124, 113, 125, 91, 126, 127, 128, 129, 130, 16, 131, 140, 141, 142, 143, 144, 145, 146, 147, 148, 149, 150, 151, 152, 153, 154, 155, 156, 157, 158, 159, 160, 161, 162, 163, 164, 165, 166, 167, 168, 169, 170, 171, 172, 173, 174, 175, 176, 177, 178, 179, 180, 181, 182, 183] (by decide +kernel) (by decide +kernel)
set_option maxRecDepth 20000 in
theorem gX9_step_X9_findForce : GoodIn wsX9_step (wsV RX9 277 RX9 yX9_findForce wsX9_findForce) := goodIn_app (goodIn_of _ (by decide +kernel)) ggX9_step_X9_findForce
set_option maxRecDepth 20000 in
theorem ggX9_step_X9_turn : GoodIn wsX9_step wsX9_turn := goodIn_r _ [135, 136, 75, 24, 76, 137, 90, 89, 138, 139, 129, 130, 16, 131, 47, 48, 49, 140, 141, 142, 143, 144, 145, 146, 147, 148, 149, 150, 151, 152, 153, 154, 155, 156, 157, 158, 159, 160, 161, 162, 163, 164, 165, 166, 167, 168, 169, 170, 171, 172, 173, 174, 175, 176, 177, 178, 179, 180, 181, 182, 183] (by decide +kernel) (by decide +kernel)
set_option maxRecDepth 20000 in
theorem gX9_step_X9_turn : GoodIn wsX9_step (wsV RX9 283 RX9 yX9_turn wsX9_turn) := goodIn_app (goodIn_of _ (by decide +kernel)) ggX9_step_X9_turn
theorem dX9_step_0 : decode cX9_step 0 = .ok (.aload_n 0, 1) := by decide +kernel
theorem dX9_step_1 : decode cX9_step 1 = .ok (.iconst 0, 1) := by decide +kernel
theorem dX9_step_2 : decode cX9_step 2 = .ok (.putfield 92, 3) := by decide +kernel
theorem dX9_step_5 : decode cX9_step 5 = .ok (.dload_n 1, 1) := by decide +kernel
theorem dX9_step_6 : decode cX9_step 6 = .ok (.dconst 0, 1) := by decide +kernel
theorem dX9_step_7 : decode cX9_step 7 = .ok (.ldc2_w 107, 3) := by decide +kernel
theorem dX9_step_10 : decode cX9_step 10 = .ok (.invokestatic 97, 3) := by decide +kernel
theorem dX9_step_13 : decode cX9_step 13 = .ok (.ifCond .eq 17, 3) := by decide +kernel
theorem dX9_step_16 : decode cX9_step 16 = .ok (.dload_n 3, 1) := by decide +kernel
theorem dX9_step_17 : decode cX9_step 17 = .ok (.aload_n 0, 1) := by decide +kernel
theorem dX9_step_18 : decode cX9_step 18 = .ok (.getfield 109, 3) := by decide +kernel
theorem dX9_step_21 : decode cX9_step 21 = .ok (.ldc2_w 112, 3) := by decide +kernel
theorem dX9_step_24 : decode cX9_step 24 = .ok (.invokestatic 97, 3) := by decide +kernel
theorem dX9_step_27 : decode cX9_step 27 = .ok (.ifCond .ne 6, 3) := by decide +kernel
theorem dX9_step_30 : decode cX9_step 30 = .ok (.bipush (-2), 2) := by decide +kernel
theorem dX9_step_32 : decode cX9_step 32 = .ok (.ireturn, 1) := by decide +kernel
theorem dX9_step_33 : decode cX9_step 33 = .ok (.dload_n 3, 1) := by decide +kernel
theorem dX9_step_34 : decode cX9_step 34 = .ok (.aload_n 0, 1) := by decide +kernel
theorem dX9_step_35 : decode cX9_step 35 = .ok (.getfield 109, 3) := by decide +kernel
theorem dX9_step_38 : decode cX9_step 38 = .ok (.dsub, 1) := by decide +kernel
theorem dX9_step_39 : decode cX9_step 39 = .ok (.dstore 5, 2) := by decide +kernel
theorem dX9_step_41 : decode cX9_step 41 = .ok (.aload_n 0, 1) := by decide +kernel
theorem dX9_step_42 : decode cX9_step 42 = .ok (.dload_n 3, 1) := by decide +kernel
theorem dX9_step_43 : decode cX9_step 43 = .ok (.putfield 109, 3) := by decide +kernel
theorem dX9_step_46 : decode cX9_step 46 = .ok (.aload_n 0, 1) := by decide +kernel
theorem dX9_step_47 : decode cX9_step 47 = .ok (.dload_n 1, 1) := by decide +kernel
theorem dX9_step_48 : decode cX9_step 48 = .ok (.putfield 203, 3) := by decide +kernel
theorem dX9_step_51 : decode cX9_step 51 = .ok (.aload_n 0, 1) := by decide +kernel
theorem dX9_step_52 : decode cX9_step 52 = .ok (.iconst 0, 1) := by decide +kernel
theorem dX9_step_53 : decode cX9_step 53 = .ok (.putfield 182, 3) := by decide +kernel
theorem dX9_step_56 : decode cX9_step 56 = .ok (.iconst 0, 1) := by decide +kernel
theorem dX9_step_57 : decode cX9_step 57 = .ok (.istore 7, 2) := by decide +kernel
theorem dX9_step_59 : decode cX9_step 59 = .ok (.iload 7, 2) := by decide +kernel
theorem dX9_step_61 : decode cX9_step 61 = .ok (.bipush 8, 2) := by decide +kernel
theorem dX9_step_63 : decode cX9_step 63 = .ok (.if_icmp .ge 55, 3) := by decide +kernel
theorem dX9_step_66 : decode cX9_step 66 = .ok (.aload_n 0, 1) := by decide +kernel
theorem dX9_step_67 : decode cX9_step 67 = .ok (.getfield 13, 3) := by decide +kernel
theorem dX9_step_70 : decode cX9_step 70 = .ok (.iload 7, 2) := by decide +kernel
theorem dX9_step_72 : decode cX9_step 72 = .ok (.aload_n 0, 1) := by decide +kernel
theorem dX9_step_73 : decode cX9_step 73 = .ok (.getfield 13, 3) := by decide +kernel
theorem dX9_step_76 : decode cX9_step 76 = .ok (.iload 7, 2) := by decide +kernel
theorem dX9_step_78 : decode cX9_step 78 = .ok (.daload, 1) := by decide +kernel
theorem dX9_step_79 : decode cX9_step 79 = .ok (.aload_n 0, 1) := by decide +kernel
theorem dX9_step_80 : decode cX9_step 80 = .ok (.getfield 20, 3) := by decide +kernel
theorem dX9_step_83 : decode cX9_step 83 = .ok (.iload 7, 2) := by decide +kernel
theorem dX9_step_85 : decode cX9_step 85 = .ok (.daload, 1) := by decide +kernel
theorem dX9_step_86 : decode cX9_step 86 = .ok (.aload_n 0, 1) := by decide +kernel
theorem dX9_step_87 : decode cX9_step 87 = .ok (.getfield 203, 3) := by decide +kernel
theorem dX9_step_90 : decode cX9_step 90 = .ok (.dsub, 1) := by decide +kernel
theorem dX9_step_91 : decode cX9_step 91 = .ok (.dload 5, 2) := by decide +kernel
theorem dX9_step_93 : decode cX9_step 93 = .ok (.dmul, 1) := by decide +kernel
theorem dX9_step_94 : decode cX9_step 94 = .ok (.dadd, 1) := by decide +kernel
theorem dX9_step_95 : decode cX9_step 95 = .ok (.dastore, 1) := by decide +kernel
theorem dX9_step_96 : decode cX9_step 96 = .ok (.aload_n 0, 1) := by decide +kernel
theorem dX9_step_97 : decode cX9_step 97 = .ok (.getfield 48, 3) := by decide +kernel
theorem dX9_step_100 : decode cX9_step 100 = .ok (.iload 7, 2) := by decide +kernel
theorem dX9_step_102 : decode cX9_step 102 = .ok (.iconst 0, 1) := by decide +kernel
theorem dX9_step_103 : decode cX9_step 103 = .ok (.bastore, 1) := by decide +kernel
theorem dX9_step_104 : decode cX9_step 104 = .ok (.aload_n 0, 1) := by decide +kernel
theorem dX9_step_105 : decode cX9_step 105 = .ok (.getfield 51, 3) := by decide +kernel
theorem dX9_step_108 : decode cX9_step 108 = .ok (.iload 7, 2) := by decide +kernel
theorem dX9_step_110 : decode cX9_step 110 = .ok (.iconst 0, 1) := by decide +kernel
theorem dX9_step_111 : decode cX9_step 111 = .ok (.bastore, 1) := by decide +kernel
theorem dX9_step_112 : decode cX9_step 112 = .ok (.iinc 7 1, 3) := by decide +kernel
theorem dX9_step_115 : decode cX9_step 115 = .ok (.goto (-56), 3) := by decide +kernel
theorem dX9_step_118 : decode cX9_step 118 = .ok (.aload_n 0, 1) := by decide +kernel
theorem dX9_step_119 : decode cX9_step 119 = .ok (.iconst 0, 1) := by decide +kernel
theorem dX9_step_120 : decode cX9_step 120 = .ok (.invokevirtual 258, 3) := by decide +kernel
theorem dX9_step_123 : decode cX9_step 123 = .ok (.aload_n 0, 1) := by decide +kernel
theorem dX9_step_124 : decode cX9_step 124 = .ok (.iconst 1, 1) := by decide +kernel
theorem dX9_step_125 : decode cX9_step 125 = .ok (.invokevirtual 258, 3) := by decide +kernel
theorem dX9_step_128 : decode cX9_step 128 = .ok (.aload_n 0, 1) := by decide +kernel
theorem dX9_step_129 : decode cX9_step 129 = .ok (.aload_n 0, 1) := by decide +kernel
theorem dX9_step_130 : decode cX9_step 130 = .ok (.getfield 182, 3) := by decide +kernel
theorem dX9_step_133 : decode cX9_step 133 = .ok (.ifCond .eq 12, 3) := by decide +kernel
theorem dX9_step_136 : decode cX9_step 136 = .ok (.aload_n 0, 1) := by decide +kernel
theorem dX9_step_137 : decode cX9_step 137 = .ok (.getfield 225, 3) := by decide +kernel
theorem dX9_step_140 : decode cX9_step 140 = .ok (.iconst 1, 1) := by decide +kernel
theorem dX9_step_141 : decode cX9_step 141 = .ok (.iadd, 1) := by decide +kernel
theorem dX9_step_142 : decode cX9_step 142 = .ok (.goto 4, 3) := by decide +kernel
theorem dX9_step_145 : decode cX9_step 145 = .ok (.iconst 0, 1) := by decide +kernel
theorem dX9_step_146 : decode cX9_step 146 = .ok (.putfield 225, 3) := by decide +kernel
theorem dX9_step_149 : decode cX9_step 149 = .ok (.aload_n 0, 1) := by decide +kernel
theorem dX9_step_150 : decode cX9_step 150 = .ok (.invokevirtual 261, 3) := by decide +kernel
theorem dX9_step_153 : decode cX9_step 153 = .ok (.aload_n 0, 1) := by decide +kernel
theorem dX9_step_154 : decode cX9_step 154 = .ok (.invokevirtual 264, 3) := by decide +kernel
theorem dX9_step_157 : decode cX9_step 157 = .ok (.aload_n 0, 1) := by decide +kernel
theorem dX9_step_158 : decode cX9_step 158 = .ok (.invokevirtual 267, 3) := by decide +kernel
theorem dX9_step_161 : decode cX9_step 161 = .ok (.aload_n 0, 1) := by decide +kernel
theorem dX9_step_162 : decode cX9_step 162 = .ok (.invokevirtual 270, 3) := by decide +kernel
theorem dX9_step_165 : decode cX9_step 165 = .ok (.aload_n 0, 1) := by decide +kernel
theorem dX9_step_166 : decode cX9_step 166 = .ok (.aload_n 0, 1) := by decide +kernel
theorem dX9_step_167 : decode cX9_step 167 = .ok (.invokevirtual 273, 3) := by decide +kernel
theorem dX9_step_170 : decode cX9_step 170 = .ok (.putfield 234, 3) := by decide +kernel
theorem dX9_step_173 : decode cX9_step 173 = .ok (.aload_n 0, 1) := by decide +kernel
theorem dX9_step_174 : decode cX9_step 174 = .ok (.aload_n 0, 1) := by decide +kernel
theorem dX9_step_175 : decode cX9_step 175 = .ok (.invokevirtual 277, 3) := by decide +kernel
theorem dX9_step_178 : decode cX9_step 178 = .ok (.putfield 280, 3) := by decide +kernel
theorem dX9_step_181 : decode cX9_step 181 = .ok (.aload_n 0, 1) := by decide +kernel
theorem dX9_step_182 : decode cX9_step 182 = .ok (.invokevirtual 283, 3) := by decide +kernel
theorem dX9_step_185 : decode cX9_step 185 = .ok (.aload_n 0, 1) := by decide +kernel
theorem dX9_step_186 : decode cX9_step 186 = .ok (.getfield 234, 3) := by decide +kernel
theorem dX9_step_189 : decode cX9_step 189 = .ok (.ireturn, 1) := by decide +kernel
theorem dX9_plain_0 : decode cX9_plain 0 = .ok (.dload_n 0, 1) := by decide +kernel
theorem dX9_plain_1 : decode cX9_plain 1 = .ok (.dconst 0, 1) := by decide +kernel
theorem dX9_plain_2 : decode cX9_plain 2 = .ok (.dcmp .l, 1) := by decide +kernel
theorem dX9_plain_3 : decode cX9_plain 3 = .ok (.ifCond .ne 7, 3) := by decide +kernel
theorem dX9_plain_6 : decode cX9_plain 6 = .ok (.dconst 0, 1) := by decide +kernel
theorem dX9_plain_7 : decode cX9_plain 7 = .ok (.goto 4, 3) := by decide +kernel
theorem dX9_plain_10 : decode cX9_plain 10 = .ok (.dload_n 0, 1) := by decide +kernel
theorem dX9_plain_11 : decode cX9_plain 11 = .ok (.dreturn, 1) := by decide +kernel
set_option maxRecDepth 20000 in
theorem ggX9_wish_X9_plain : GoodIn wsX9_wish wsX9_plain := goodIn_r _ [9] (by decide +kernel) (by decide +kernel)
set_option maxRecDepth 20000 in
theorem gX9_wish_X9_plain : GoodIn wsX9_wish (va_wsS RX9 286 yX9_plain wsX9_plain) := goodIn_app (goodIn_of _ (by decide +kernel)) ggX9_wish_X9_plain
theorem dX9_wish_0 : decode cX9_wish 0 = .ok (.aload_n 0, 1) := by decide +kernel
theorem dX9_wish_1 : decode cX9_wish 1 = .ok (.iconst 0, 1) := by decide +kernel
theorem dX9_wish_2 : decode cX9_wish 2 = .ok (.putfield 92, 3) := by decide +kernel
theorem dX9_wish_5 : decode cX9_wish 5 = .ok (.iload_n 1, 1) := by decide +kernel
theorem dX9_wish_6 : decode cX9_wish 6 = .ok (.ifCond .ne 13, 3) := by decide +kernel
theorem dX9_wish_9 : decode cX9_wish 9 = .ok (.aload_n 0, 1) := by decide +kernel
theorem dX9_wish_10 : decode cX9_wish 10 = .ok (.getfield 280, 3) := by decide +kernel
theorem dX9_wish_13 : decode cX9_wish 13 = .ok (.invokestatic 286, 3) := by decide +kernel
theorem dX9_wish_16 : decode cX9_wish 16 = .ok (.goto 49, 3) := by decide +kernel
theorem dX9_wish_19 : decode cX9_wish 19 = .ok (.iload_n 1, 1) := by decide +kernel
theorem dX9_wish_20 : decode cX9_wish 20 = .ok (.iconst 1, 1) := by decide +kernel
theorem dX9_wish_21 : decode cX9_wish 21 = .ok (.if_icmp .ne 13, 3) := by decide +kernel
theorem dX9_wish_24 : decode cX9_wish 24 = .ok (.aload_n 0, 1) := by decide +kernel
theorem dX9_wish_25 : decode cX9_wish 25 = .ok (.getfield 255, 3) := by decide +kernel
theorem dX9_wish_28 : decode cX9_wish 28 = .ok (.invokestatic 286, 3) := by decide +kernel
theorem dX9_wish_31 : decode cX9_wish 31 = .ok (.goto 34, 3) := by decide +kernel
theorem dX9_wish_34 : decode cX9_wish 34 = .ok (.iload_n 1, 1) := by decide +kernel
theorem dX9_wish_35 : decode cX9_wish 35 = .ok (.iconst 2, 1) := by decide +kernel
theorem dX9_wish_36 : decode cX9_wish 36 = .ok (.if_icmp .ne 13, 3) := by decide +kernel
theorem dX9_wish_39 : decode cX9_wish 39 = .ok (.aload_n 0, 1) := by decide +kernel
theorem dX9_wish_40 : decode cX9_wish 40 = .ok (.getfield 83, 3) := by decide +kernel
theorem dX9_wish_43 : decode cX9_wish 43 = .ok (.invokestatic 286, 3) := by decide +kernel
theorem dX9_wish_46 : decode cX9_wish 46 = .ok (.goto 19, 3) := by decide +kernel
theorem dX9_wish_49 : decode cX9_wish 49 = .ok (.iload_n 1, 1) := by decide +kernel
theorem dX9_wish_50 : decode cX9_wish 50 = .ok (.iconst 3, 1) := by decide +kernel
theorem dX9_wish_51 : decode cX9_wish 51 = .ok (.if_icmp .ne 13, 3) := by decide +kernel
theorem dX9_wish_54 : decode cX9_wish 54 = .ok (.aload_n 0, 1) := by decide +kernel
theorem dX9_wish_55 : decode cX9_wish 55 = .ok (.getfield 86, 3) := by decide +kernel
theorem dX9_wish_58 : decode cX9_wish 58 = .ok (.invokestatic 286, 3) := by decide +kernel
theorem dX9_wish_61 : decode cX9_wish 61 = .ok (.goto 4, 3) := by decide +kernel
theorem dX9_wish_64 : decode cX9_wish 64 = .ok (.dconst 0, 1) := by decide +kernel
theorem dX9_wish_65 : decode cX9_wish 65 = .ok (.dreturn, 1) := by decide +kernel
theorem dX9_stage_0 : decode cX9_stage 0 = .ok (.aload_n 0, 1) := by decide +kernel
theorem dX9_stage_1 : decode cX9_stage 1 = .ok (.iconst 0, 1) := by decide +kernel
theorem dX9_stage_2 : decode cX9_stage 2 = .ok (.putfield 92, 3) := by decide +kernel
theorem dX9_stage_5 : decode cX9_stage 5 = .ok (.aload_n 0, 1) := by decide +kernel
theorem dX9_stage_6 : decode cX9_stage 6 = .ok (.getfield 214, 3) := by decide +kernel
theorem dX9_stage_9 : decode cX9_stage 9 = .ok (.ireturn, 1) := by decide +kernel
theorem dX9_mode_0 : decode cX9_mode 0 = .ok (.aload_n 0, 1) := by decide +kernel
theorem dX9_mode_1 : decode cX9_mode 1 = .ok (.iconst 0, 1) := by decide +kernel
theorem dX9_mode_2 : decode cX9_mode 2 = .ok (.putfield 92, 3) := by decide +kernel
theorem dX9_mode_5 : decode cX9_mode 5 = .ok (.aload_n 0, 1) := by decide +kernel
theorem dX9_mode_6 : decode cX9_mode 6 = .ok (.getfield 234, 3) := by decide +kernel
theorem dX9_mode_9 : decode cX9_mode 9 = .ok (.ireturn, 1) := by decide +kernel
set_option maxRecDepth 20000 in
theorem ggX9_time_X9_plain : GoodIn wsX9_time wsX9_plain := goodIn_r _ [10] (by decide +kernel) (by decide +kernel)
set_option maxRecDepth 20000 in
theorem gX9_time_X9_plain : GoodIn wsX9_time (va_wsS RX9 286 yX9_plain wsX9_plain) := goodIn_app (goodIn_of _ (by decide +kernel)) ggX9_time_X9_plain
theorem dX9_time_0 : decode cX9_time 0 = .ok (.aload_n 0, 1) := by decide +kernel
theorem dX9_time_1 : decode cX9_time 1 = .ok (.iconst 0, 1) := by decide +kernel
theorem dX9_time_2 : decode cX9_time 2 = .ok (.putfield 92, 3) := by decide +kernel
theorem dX9_time_5 : decode cX9_time 5 = .ok (.iload_n 1, 1) := by decide +kernel
theorem dX9_time_6 : decode cX9_time 6 = .ok (.ifCond .lt 56, 3) := by decide +kernel
theorem dX9_time_9 : decode cX9_time 9 = .ok (.iload_n 1, 1) := by decide +kernel
theorem dX9_time_10 : decode cX9_time 10 = .ok (.bipush 8, 2) := by decide +kernel
theorem dX9_time_12 : decode cX9_time 12 = .ok (.if_icmp .ge 50, 3) := by decide +kernel
theorem dX9_time_15 : decode cX9_time 15 = .ok (.aload_n 0, 1) := by decide +kernel
theorem dX9_time_16 : decode cX9_time 16 = .ok (.getfield 7, 3) := by decide +kernel
theorem dX9_time_19 : decode cX9_time 19 = .ok (.iload_n 1, 1) := by decide +kernel
theorem dX9_time_20 : decode cX9_time 20 = .ok (.baload, 1) := by decide +kernel
theorem dX9_time_21 : decode cX9_time 21 = .ok (.ifCond .eq 41, 3) := by decide +kernel
theorem dX9_time_24 : decode cX9_time 24 = .ok (.aload_n 0, 1) := by decide +kernel
theorem dX9_time_25 : decode cX9_time 25 = .ok (.getfield 203, 3) := by decide +kernel
theorem dX9_time_28 : decode cX9_time 28 = .ok (.aload_n 0, 1) := by decide +kernel
theorem dX9_time_29 : decode cX9_time 29 = .ok (.getfield 20, 3) := by decide +kernel
theorem dX9_time_32 : decode cX9_time 32 = .ok (.iload_n 1, 1) := by decide +kernel
theorem dX9_time_33 : decode cX9_time 33 = .ok (.daload, 1) := by decide +kernel
theorem dX9_time_34 : decode cX9_time 34 = .ok (.dcmp .l, 1) := by decide +kernel
theorem dX9_time_35 : decode cX9_time 35 = .ok (.ifCond .le 27, 3) := by decide +kernel
theorem dX9_time_38 : decode cX9_time 38 = .ok (.aload_n 0, 1) := by decide +kernel
theorem dX9_time_39 : decode cX9_time 39 = .ok (.getfield 13, 3) := by decide +kernel
theorem dX9_time_42 : decode cX9_time 42 = .ok (.iload_n 1, 1) := by decide +kernel
theorem dX9_time_43 : decode cX9_time 43 = .ok (.daload, 1) := by decide +kernel
theorem dX9_time_44 : decode cX9_time 44 = .ok (.aload_n 0, 1) := by decide +kernel
theorem dX9_time_45 : decode cX9_time 45 = .ok (.getfield 203, 3) := by decide +kernel
theorem dX9_time_48 : decode cX9_time 48 = .ok (.aload_n 0, 1) := by decide +kernel
theorem dX9_time_49 : decode cX9_time 49 = .ok (.getfield 20, 3) := by decide +kernel
theorem dX9_time_52 : decode cX9_time 52 = .ok (.iload_n 1, 1) := by decide +kernel
theorem dX9_time_53 : decode cX9_time 53 = .ok (.daload, 1) := by decide +kernel
theorem dX9_time_54 : decode cX9_time 54 = .ok (.dsub, 1) := by decide +kernel
theorem dX9_time_55 : decode cX9_time 55 = .ok (.ddiv, 1) := by decide +kernel
theorem dX9_time_56 : decode cX9_time 56 = .ok (.invokestatic 286, 3) := by decide +kernel
theorem dX9_time_59 : decode cX9_time 59 = .ok (.goto 6, 3) := by decide +kernel
theorem dX9_time_62 : decode cX9_time 62 = .ok (.ldc2_w 81, 3) := by decide +kernel
theorem dX9_time_65 : decode cX9_time 65 = .ok (.dreturn, 1) := by decide +kernel
theorem dX9_whole_0 : decode cX9_whole 0 = .ok (.aload_n 0, 1) := by decide +kernel
theorem dX9_whole_1 : decode cX9_whole 1 = .ok (.lload_n 3, 1) := by decide +kernel
theorem dX9_whole_2 : decode cX9_whole 2 = .ok (.lconst 0, 1) := by decide +kernel
theorem dX9_whole_3 : decode cX9_whole 3 = .ok (.lcmp, 1) := by decide +kernel
theorem dX9_whole_4 : decode cX9_whole 4 = .ok (.ifCond .ne 7, 3) := by decide +kernel
theorem dX9_whole_7 : decode cX9_whole 7 = .ok (.iconst 1, 1) := by decide +kernel
theorem dX9_whole_8 : decode cX9_whole 8 = .ok (.goto 4, 3) := by decide +kernel
theorem dX9_whole_11 : decode cX9_whole 11 = .ok (.iconst 0, 1) := by decide +kernel
theorem dX9_whole_12 : decode cX9_whole 12 = .ok (.putfield 92, 3) := by decide +kernel
theorem dX9_whole_15 : decode cX9_whole 15 = .ok (.lload_n 3, 1) := by decide +kernel
theorem dX9_whole_16 : decode cX9_whole 16 = .ok (.lconst 0, 1) := by decide +kernel
theorem dX9_whole_17 : decode cX9_whole 17 = .ok (.lcmp, 1) := by decide +kernel
theorem dX9_whole_18 : decode cX9_whole 18 = .ok (.ifCond .ne 7, 3) := by decide +kernel
theorem dX9_whole_21 : decode cX9_whole 21 = .ok (.lconst 0, 1) := by decide +kernel
theorem dX9_whole_22 : decode cX9_whole 22 = .ok (.goto 6, 3) := by decide +kernel
theorem dX9_whole_25 : decode cX9_whole 25 = .ok (.lload_n 1, 1) := by decide +kernel
theorem dX9_whole_26 : decode cX9_whole 26 = .ok (.lload_n 3, 1) := by decide +kernel
theorem dX9_whole_27 : decode cX9_whole 27 = .ok (.ldiv, 1) := by decide +kernel
theorem dX9_whole_28 : decode cX9_whole 28 = .ok (.lreturn, 1) := by decide +kernel
theorem dX9_track_0 : decode cX9_track 0 = .ok (.aload_n 0, 1) := by decide +kernel
theorem dX9_track_1 : decode cX9_track 1 = .ok (.iconst 0, 1) := by decide +kernel
theorem dX9_track_2 : decode cX9_track 2 = .ok (.putfield 92, 3) := by decide +kernel
theorem dX9_track_5 : decode cX9_track 5 = .ok (.iload_n 1, 1) := by decide +kernel
theorem dX9_track_6 : decode cX9_track 6 = .ok (.ifCond .lt 9, 3) := by decide +kernel
theorem dX9_track_9 : decode cX9_track 9 = .ok (.iload_n 1, 1) := by decide +kernel
theorem dX9_track_10 : decode cX9_track 10 = .ok (.bipush 8, 2) := by decide +kernel
theorem dX9_track_12 : decode cX9_track 12 = .ok (.if_icmp .lt 5, 3) := by decide +kernel
theorem dX9_track_15 : decode cX9_track 15 = .ok (.iconst (-1), 1) := by decide +kernel
theorem dX9_track_16 : decode cX9_track 16 = .ok (.ireturn, 1) := by decide +kernel
theorem dX9_track_17 : decode cX9_track 17 = .ok (.iload_n 2, 1) := by decide +kernel
theorem dX9_track_18 : decode cX9_track 18 = .ok (.ifCond .lt 8, 3) := by decide +kernel
theorem dX9_track_21 : decode cX9_track 21 = .ok (.iload_n 2, 1) := by decide +kernel
theorem dX9_track_22 : decode cX9_track 22 = .ok (.iconst 5, 1) := by decide +kernel
theorem dX9_track_23 : decode cX9_track 23 = .ok (.if_icmp .le 6, 3) := by decide +kernel
theorem dX9_track_26 : decode cX9_track 26 = .ok (.bipush (-2), 2) := by decide +kernel
theorem dX9_track_28 : decode cX9_track 28 = .ok (.ireturn, 1) := by decide +kernel
theorem dX9_track_29 : decode cX9_track 29 = .ok (.aload_n 0, 1) := by decide +kernel
theorem dX9_track_30 : decode cX9_track 30 = .ok (.getfield 7, 3) := by decide +kernel
theorem dX9_track_33 : decode cX9_track 33 = .ok (.iload_n 1, 1) := by decide +kernel
theorem dX9_track_34 : decode cX9_track 34 = .ok (.baload, 1) := by decide +kernel
theorem dX9_track_35 : decode cX9_track 35 = .ok (.ifCond .ne 5, 3) := by decide +kernel
theorem dX9_track_38 : decode cX9_track 38 = .ok (.iconst 0, 1) := by decide +kernel
theorem dX9_track_39 : decode cX9_track 39 = .ok (.ireturn, 1) := by decide +kernel
theorem dX9_track_40 : decode cX9_track 40 = .ok (.iload_n 2, 1) := by decide +kernel
theorem dX9_track_41 : decode cX9_track 41 = .ok (.tableswitch 75 0 4 #[35, 37, 44, 51, 63], 35) := by decide +kernel
theorem dX9_track_76 : decode cX9_track 76 = .ok (.iconst 1, 1) := by decide +kernel
theorem dX9_track_77 : decode cX9_track 77 = .ok (.ireturn, 1) := by decide +kernel
theorem dX9_track_78 : decode cX9_track 78 = .ok (.aload_n 0, 1) := by decide +kernel
theorem dX9_track_79 : decode cX9_track 79 = .ok (.getfield 23, 3) := by decide +kernel
theorem dX9_track_82 : decode cX9_track 82 = .ok (.iload_n 1, 1) := by decide +kernel
theorem dX9_track_83 : decode cX9_track 83 = .ok (.iaload, 1) := by decide +kernel
theorem dX9_track_84 : decode cX9_track 84 = .ok (.ireturn, 1) := by decide +kernel
theorem dX9_track_85 : decode cX9_track 85 = .ok (.aload_n 0, 1) := by decide +kernel
theorem dX9_track_86 : decode cX9_track 86 = .ok (.getfield 27, 3) := by decide +kernel
theorem dX9_track_89 : decode cX9_track 89 = .ok (.iload_n 1, 1) := by decide +kernel
theorem dX9_track_90 : decode cX9_track 90 = .ok (.iaload, 1) := by decide +kernel
theorem dX9_track_91 : decode cX9_track 91 = .ok (.ireturn, 1) := by decide +kernel
theorem dX9_track_92 : decode cX9_track 92 = .ok (.aload_n 0, 1) := by decide +kernel
theorem dX9_track_93 : decode cX9_track 93 = .ok (.getfield 13, 3) := by decide +kernel
theorem dX9_track_96 : decode cX9_track 96 = .ok (.iload_n 1, 1) := by decide +kernel
theorem dX9_track_97 : decode cX9_track 97 = .ok (.daload, 1) := by decide +kernel
theorem dX9_track_98 : decode cX9_track 98 = .ok (.ldc2_w 168, 3) := by decide +kernel
theorem dX9_track_101 : decode cX9_track 101 = .ok (.dmul, 1) := by decide +kernel
theorem dX9_track_102 : decode cX9_track 102 = .ok (.d2i, 1) := by decide +kernel
theorem dX9_track_103 : decode cX9_track 103 = .ok (.ireturn, 1) := by decide +kernel
theorem dX9_track_104 : decode cX9_track 104 = .ok (.aload_n 0, 1) := by decide +kernel
theorem dX9_track_105 : decode cX9_track 105 = .ok (.getfield 17, 3) := by decide +kernel
theorem dX9_track_108 : decode cX9_track 108 = .ok (.iload_n 1, 1) := by decide +kernel
theorem dX9_track_109 : decode cX9_track 109 = .ok (.daload, 1) := by decide +kernel
theorem dX9_track_110 : decode cX9_track 110 = .ok (.ldc2_w 168, 3) := by decide +kernel
theorem dX9_track_113 : decode cX9_track 113 = .ok (.dmul, 1) := by decide +kernel
theorem dX9_track_114 : decode cX9_track 114 = .ok (.d2i, 1) := by decide +kernel
theorem dX9_track_115 : decode cX9_track 115 = .ok (.ireturn, 1) := by decide +kernel
theorem dX9_track_116 : decode cX9_track 116 = .ok (.aload_n 0, 1) := by decide +kernel
theorem dX9_track_117 : decode cX9_track 117 = .ok (.getfield 20, 3) := by decide +kernel
theorem dX9_track_120 : decode cX9_track 120 = .ok (.iload_n 1, 1) := by decide +kernel
theorem dX9_track_121 : decode cX9_track 121 = .ok (.daload, 1) := by decide +kernel
theorem dX9_track_122 : decode cX9_track 122 = .ok (.ldc2_w 168, 3) := by decide +kernel
theorem dX9_track_125 : decode cX9_track 125 = .ok (.dmul, 1) := by decide +kernel
theorem dX9_track_126 : decode cX9_track 126 = .ok (.d2i, 1) := by decide +kernel
theorem dX9_track_127 : decode cX9_track 127 = .ok (.ireturn, 1) := by decide +kernel
