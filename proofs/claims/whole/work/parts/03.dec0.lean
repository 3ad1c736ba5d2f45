theorem dX10_init_0 : decode cX10_init 0 = .ok (.aload_n 0, 1) := by decide +kernel
theorem dX10_init_1 : decode cX10_init 1 = .ok (.invokespecial 1, 3) := by decide +kernel
theorem dX10_init_4 : decode cX10_init 4 = .ok (.aload_n 0, 1) := by decide +kernel
theorem dX10_init_5 : decode cX10_init 5 = .ok (.bipush 20, 2) := by decide +kernel
theorem dX10_init_7 : decode cX10_init 7 = .ok (.anewarray 9, 3) := by decide +kernel
theorem dX10_init_10 : decode cX10_init 10 = .ok (.putfield 11, 3) := by decide +kernel
theorem dX10_init_13 : decode cX10_init 13 = .ok (.iconst 0, 1) := by decide +kernel
theorem dX10_init_14 : decode cX10_init 14 = .ok (.istore_n 1, 1) := by decide +kernel
theorem dX10_init_15 : decode cX10_init 15 = .ok (.iload_n 1, 1) := by decide +kernel
theorem dX10_init_16 : decode cX10_init 16 = .ok (.bipush 20, 2) := by decide +kernel
theorem dX10_init_18 : decode cX10_init 18 = .ok (.if_icmp .ge 22, 3) := by decide +kernel
theorem dX10_init_21 : decode cX10_init 21 = .ok (.aload_n 0, 1) := by decide +kernel
theorem dX10_init_22 : decode cX10_init 22 = .ok (.getfield 11, 3) := by decide +kernel
theorem dX10_init_25 : decode cX10_init 25 = .ok (.iload_n 1, 1) := by decide +kernel
theorem dX10_init_26 : decode cX10_init 26 = .ok (.new 9, 3) := by decide +kernel
theorem dX10_init_29 : decode cX10_init 29 = .ok (.dup, 1) := by decide +kernel
theorem dX10_init_30 : decode cX10_init 30 = .ok (.invokespecial 15, 3) := by decide +kernel
theorem dX10_init_33 : decode cX10_init 33 = .ok (.aastore, 1) := by decide +kernel
theorem dX10_init_34 : decode cX10_init 34 = .ok (.iinc 1 1, 3) := by decide +kernel
theorem dX10_init_37 : decode cX10_init 37 = .ok (.goto (-22), 3) := by decide +kernel
theorem dX10_init_40 : decode cX10_init 40 = .ok (.aload_n 0, 1) := by decide +kernel
theorem dX10_init_41 : decode cX10_init 41 = .ok (.iconst 0, 1) := by decide +kernel
theorem dX10_init_42 : decode cX10_init 42 = .ok (.putfield 16, 3) := by decide +kernel
theorem dX10_init_45 : decode cX10_init 45 = .ok (.aload_n 0, 1) := by decide +kernel
theorem dX10_init_46 : decode cX10_init 46 = .ok (.new 20, 3) := by decide +kernel
theorem dX10_init_49 : decode cX10_init 49 = .ok (.dup, 1) := by decide +kernel
theorem dX10_init_50 : decode cX10_init 50 = .ok (.invokespecial 22, 3) := by decide +kernel
theorem dX10_init_53 : decode cX10_init 53 = .ok (.putfield 23, 3) := by decide +kernel
theorem dX10_init_56 : decode cX10_init 56 = .ok (.aload_n 0, 1) := by decide +kernel
theorem dX10_init_57 : decode cX10_init 57 = .ok (.new 27, 3) := by decide +kernel
theorem dX10_init_60 : decode cX10_init 60 = .ok (.dup, 1) := by decide +kernel
theorem dX10_init_61 : decode cX10_init 61 = .ok (.invokespecial 29, 3) := by decide +kernel
theorem dX10_init_64 : decode cX10_init 64 = .ok (.putfield 30, 3) := by decide +kernel
theorem dX10_init_67 : decode cX10_init 67 = .ok (.aload_n 0, 1) := by decide +kernel
theorem dX10_init_68 : decode cX10_init 68 = .ok (.new 34, 3) := by decide +kernel
theorem dX10_init_71 : decode cX10_init 71 = .ok (.dup, 1) := by decide +kernel
theorem dX10_init_72 : decode cX10_init 72 = .ok (.invokespecial 36, 3) := by decide +kernel
theorem dX10_init_75 : decode cX10_init 75 = .ok (.putfield 37, 3) := by decide +kernel
theorem dX10_init_78 : decode cX10_init 78 = .ok (.aload_n 0, 1) := by decide +kernel
theorem dX10_init_79 : decode cX10_init 79 = .ok (.bipush 12, 2) := by decide +kernel
theorem dX10_init_81 : decode cX10_init 81 = .ok (.anewarray 41, 3) := by decide +kernel
theorem dX10_init_84 : decode cX10_init 84 = .ok (.putfield 43, 3) := by decide +kernel
theorem dX10_init_87 : decode cX10_init 87 = .ok (.iconst 0, 1) := by decide +kernel
theorem dX10_init_88 : decode cX10_init 88 = .ok (.istore_n 1, 1) := by decide +kernel
theorem dX10_init_89 : decode cX10_init 89 = .ok (.iload_n 1, 1) := by decide +kernel
theorem dX10_init_90 : decode cX10_init 90 = .ok (.bipush 12, 2) := by decide +kernel
theorem dX10_init_92 : decode cX10_init 92 = .ok (.if_icmp .ge 22, 3) := by decide +kernel
theorem dX10_init_95 : decode cX10_init 95 = .ok (.aload_n 0, 1) := by decide +kernel
theorem dX10_init_96 : decode cX10_init 96 = .ok (.getfield 43, 3) := by decide +kernel
theorem dX10_init_99 : decode cX10_init 99 = .ok (.iload_n 1, 1) := by decide +kernel
theorem dX10_init_100 : decode cX10_init 100 = .ok (.new 41, 3) := by decide +kernel
theorem dX10_init_103 : decode cX10_init 103 = .ok (.dup, 1) := by decide +kernel
theorem dX10_init_104 : decode cX10_init 104 = .ok (.invokespecial 47, 3) := by decide +kernel
theorem dX10_init_107 : decode cX10_init 107 = .ok (.aastore, 1) := by decide +kernel
theorem dX10_init_108 : decode cX10_init 108 = .ok (.iinc 1 1, 3) := by decide +kernel
theorem dX10_init_111 : decode cX10_init 111 = .ok (.goto (-22), 3) := by decide +kernel
theorem dX10_init_114 : decode cX10_init 114 = .ok (.aload_n 0, 1) := by decide +kernel
theorem dX10_init_115 : decode cX10_init 115 = .ok (.iconst 0, 1) := by decide +kernel
theorem dX10_init_116 : decode cX10_init 116 = .ok (.putfield 48, 3) := by decide +kernel
theorem dX10_init_119 : decode cX10_init 119 = .ok (.aload_n 0, 1) := by decide +kernel
theorem dX10_init_120 : decode cX10_init 120 = .ok (.iconst 0, 1) := by decide +kernel
theorem dX10_init_121 : decode cX10_init 121 = .ok (.putfield 51, 3) := by decide +kernel
theorem dX10_init_124 : decode cX10_init 124 = .ok (.return_, 1) := by decide +kernel
theorem dX1_init_0 : decode cX1_init 0 = .ok (.aload_n 0, 1) := by decide +kernel
theorem dX1_init_1 : decode cX1_init 1 = .ok (.invokespecial 3, 3) := by decide +kernel
theorem dX1_init_4 : decode cX1_init 4 = .ok (.aload_n 0, 1) := by decide +kernel
theorem dX1_init_5 : decode cX1_init 5 = .ok (.new 9, 3) := by decide +kernel
theorem dX1_init_8 : decode cX1_init 8 = .ok (.dup, 1) := by decide +kernel
theorem dX1_init_9 : decode cX1_init 9 = .ok (.invokespecial 11, 3) := by decide +kernel
theorem dX1_init_12 : decode cX1_init 12 = .ok (.putfield 12, 3) := by decide +kernel
theorem dX1_init_15 : decode cX1_init 15 = .ok (.aload_n 0, 1) := by decide +kernel
theorem dX1_init_16 : decode cX1_init 16 = .ok (.new 9, 3) := by decide +kernel
theorem dX1_init_19 : decode cX1_init 19 = .ok (.dup, 1) := by decide +kernel
theorem dX1_init_20 : decode cX1_init 20 = .ok (.invokespecial 11, 3) := by decide +kernel
theorem dX1_init_23 : decode cX1_init 23 = .ok (.putfield 18, 3) := by decide +kernel
theorem dX1_init_26 : decode cX1_init 26 = .ok (.aload_n 0, 1) := by decide +kernel
theorem dX1_init_27 : decode cX1_init 27 = .ok (.new 21, 3) := by decide +kernel
theorem dX1_init_30 : decode cX1_init 30 = .ok (.dup, 1) := by decide +kernel
theorem dX1_init_31 : decode cX1_init 31 = .ok (.invokespecial 23, 3) := by decide +kernel
theorem dX1_init_34 : decode cX1_init 34 = .ok (.putfield 24, 3) := by decide +kernel
theorem dX1_init_37 : decode cX1_init 37 = .ok (.aload_n 0, 1) := by decide +kernel
theorem dX1_init_38 : decode cX1_init 38 = .ok (.iconst 2, 1) := by decide +kernel
theorem dX1_init_39 : decode cX1_init 39 = .ok (.newarray .int, 2) := by decide +kernel
theorem dX1_init_41 : decode cX1_init 41 = .ok (.putfield 28, 3) := by decide +kernel
theorem dX1_init_44 : decode cX1_init 44 = .ok (.aload_n 0, 1) := by decide +kernel
theorem dX1_init_45 : decode cX1_init 45 = .ok (.new 32, 3) := by decide +kernel
theorem dX1_init_48 : decode cX1_init 48 = .ok (.dup, 1) := by decide +kernel
theorem dX1_init_49 : decode cX1_init 49 = .ok (.invokespecial 34, 3) := by decide +kernel
theorem dX1_init_52 : decode cX1_init 52 = .ok (.putfield 35, 3) := by decide +kernel
theorem dX1_init_55 : decode cX1_init 55 = .ok (.return_, 1) := by decide +kernel
theorem dX2_init_0 : decode cX2_init 0 = .ok (.aload_n 0, 1) := by decide +kernel
theorem dX2_init_1 : decode cX2_init 1 = .ok (.invokespecial 3, 3) := by decide +kernel
theorem dX2_init_4 : decode cX2_init 4 = .ok (.aload_n 0, 1) := by decide +kernel
theorem dX2_init_5 : decode cX2_init 5 = .ok (.iconst 2, 1) := by decide +kernel
theorem dX2_init_6 : decode cX2_init 6 = .ok (.newarray .int, 2) := by decide +kernel
theorem dX2_init_8 : decode cX2_init 8 = .ok (.putfield 9, 3) := by decide +kernel
theorem dX2_init_11 : decode cX2_init 11 = .ok (.return_, 1) := by decide +kernel
theorem dX7_init_0 : decode cX7_init 0 = .ok (.aload_n 0, 1) := by decide +kernel
theorem dX7_init_1 : decode cX7_init 1 = .ok (.invokespecial 3, 3) := by decide +kernel
theorem dX7_init_4 : decode cX7_init 4 = .ok (.aload_n 0, 1) := by decide +kernel
theorem dX7_init_5 : decode cX7_init 5 = .ok (.bipush 6, 2) := by decide +kernel
theorem dX7_init_7 : decode cX7_init 7 = .ok (.newarray .int, 2) := by decide +kernel
theorem dX7_init_9 : decode cX7_init 9 = .ok (.putfield 9, 3) := by decide +kernel
theorem dX7_init_12 : decode cX7_init 12 = .ok (.aload_n 0, 1) := by decide +kernel
theorem dX7_init_13 : decode cX7_init 13 = .ok (.bipush 6, 2) := by decide +kernel
theorem dX7_init_15 : decode cX7_init 15 = .ok (.newarray .int, 2) := by decide +kernel
theorem dX7_init_17 : decode cX7_init 17 = .ok (.putfield 15, 3) := by decide +kernel
theorem dX7_init_20 : decode cX7_init 20 = .ok (.aload_n 0, 1) := by decide +kernel
theorem dX7_init_21 : decode cX7_init 21 = .ok (.bipush 6, 2) := by decide +kernel
theorem dX7_init_23 : decode cX7_init 23 = .ok (.newarray .int, 2) := by decide +kernel
theorem dX7_init_25 : decode cX7_init 25 = .ok (.putfield 18, 3) := by decide +kernel
theorem dX7_init_28 : decode cX7_init 28 = .ok (.aload_n 0, 1) := by decide +kernel
theorem dX7_init_29 : decode cX7_init 29 = .ok (.bipush 6, 2) := by decide +kernel
theorem dX7_init_31 : decode cX7_init 31 = .ok (.newarray .int, 2) := by decide +kernel
theorem dX7_init_33 : decode cX7_init 33 = .ok (.putfield 21, 3) := by decide +kernel
theorem dX7_init_36 : decode cX7_init 36 = .ok (.aload_n 0, 1) := by decide +kernel
theorem dX7_init_37 : decode cX7_init 37 = .ok (.iconst (-1), 1) := by decide +kernel
theorem dX7_init_38 : decode cX7_init 38 = .ok (.putfield 24, 3) := by decide +kernel
theorem dX7_init_41 : decode cX7_init 41 = .ok (.return_, 1) := by decide +kernel
theorem dX5_init_0 : decode cX5_init 0 = .ok (.aload_n 0, 1) := by decide +kernel
theorem dX5_init_1 : decode cX5_init 1 = .ok (.invokespecial 3, 3) := by decide +kernel
theorem dX5_init_4 : decode cX5_init 4 = .ok (.aload_n 0, 1) := by decide +kernel
theorem dX5_init_5 : decode cX5_init 5 = .ok (.iconst 0, 1) := by decide +kernel
theorem dX5_init_6 : decode cX5_init 6 = .ok (.putfield 9, 3) := by decide +kernel
theorem dX5_init_9 : decode cX5_init 9 = .ok (.aload_n 0, 1) := by decide +kernel
theorem dX5_init_10 : decode cX5_init 10 = .ok (.iconst 0, 1) := by decide +kernel
theorem dX5_init_11 : decode cX5_init 11 = .ok (.putfield 15, 3) := by decide +kernel
theorem dX5_init_14 : decode cX5_init 14 = .ok (.aload_n 0, 1) := by decide +kernel
theorem dX5_init_15 : decode cX5_init 15 = .ok (.bipush 100, 2) := by decide +kernel
theorem dX5_init_17 : decode cX5_init 17 = .ok (.putfield 18, 3) := by decide +kernel
theorem dX5_init_20 : decode cX5_init 20 = .ok (.return_, 1) := by decide +kernel
theorem dX4_init_0 : decode cX4_init 0 = .ok (.aload_n 0, 1) := by decide +kernel
theorem dX4_init_1 : decode cX4_init 1 = .ok (.invokespecial 3, 3) := by decide +kernel
theorem dX4_init_4 : decode cX4_init 4 = .ok (.aload_n 0, 1) := by decide +kernel
theorem dX4_init_5 : decode cX4_init 5 = .ok (.bipush 6, 2) := by decide +kernel
theorem dX4_init_7 : decode cX4_init 7 = .ok (.newarray .int, 2) := by decide +kernel
theorem dX4_init_9 : decode cX4_init 9 = .ok (.putfield 9, 3) := by decide +kernel
theorem dX4_init_12 : decode cX4_init 12 = .ok (.aload_n 0, 1) := by decide +kernel
theorem dX4_init_13 : decode cX4_init 13 = .ok (.bipush 6, 2) := by decide +kernel
theorem dX4_init_15 : decode cX4_init 15 = .ok (.anewarray 15, 3) := by decide +kernel
theorem dX4_init_18 : decode cX4_init 18 = .ok (.putfield 17, 3) := by decide +kernel
theorem dX4_init_21 : decode cX4_init 21 = .ok (.aload_n 0, 1) := by decide +kernel
theorem dX4_init_22 : decode cX4_init 22 = .ok (.new 15, 3) := by decide +kernel
theorem dX4_init_25 : decode cX4_init 25 = .ok (.dup, 1) := by decide +kernel
theorem dX4_init_26 : decode cX4_init 26 = .ok (.bipush 90, 2) := by decide +kernel
theorem dX4_init_28 : decode cX4_init 28 = .ok (.invokespecial 21, 3) := by decide +kernel
theorem dX4_init_31 : decode cX4_init 31 = .ok (.putfield 24, 3) := by decide +kernel
theorem dX4_init_34 : decode cX4_init 34 = .ok (.aload_n 0, 1) := by decide +kernel
theorem dX4_init_35 : decode cX4_init 35 = .ok (.new 15, 3) := by decide +kernel
theorem dX4_init_38 : decode cX4_init 38 = .ok (.dup, 1) := by decide +kernel
theorem dX4_init_39 : decode cX4_init 39 = .ok (.bipush 91, 2) := by decide +kernel
theorem dX4_init_41 : decode cX4_init 41 = .ok (.invokespecial 21, 3) := by decide +kernel
theorem dX4_init_44 : decode cX4_init 44 = .ok (.putfield 28, 3) := by decide +kernel
theorem dX4_init_47 : decode cX4_init 47 = .ok (.aload_n 0, 1) := by decide +kernel
theorem dX4_init_48 : decode cX4_init 48 = .ok (.iconst 3, 1) := by decide +kernel
theorem dX4_init_49 : decode cX4_init 49 = .ok (.anewarray 31, 3) := by decide +kernel
theorem dX4_init_52 : decode cX4_init 52 = .ok (.putfield 33, 3) := by decide +kernel
theorem dX4_init_55 : decode cX4_init 55 = .ok (.aload_n 0, 1) := by decide +kernel
theorem dX4_init_56 : decode cX4_init 56 = .ok (.iconst 4, 1) := by decide +kernel
theorem dX4_init_57 : decode cX4_init 57 = .ok (.anewarray 37, 3) := by decide +kernel
theorem dX4_init_60 : decode cX4_init 60 = .ok (.putfield 39, 3) := by decide +kernel
theorem dX4_init_63 : decode cX4_init 63 = .ok (.iconst 0, 1) := by decide +kernel
theorem dX4_init_64 : decode cX4_init 64 = .ok (.istore_n 1, 1) := by decide +kernel
theorem dX4_init_65 : decode cX4_init 65 = .ok (.iload_n 1, 1) := by decide +kernel
theorem dX4_init_66 : decode cX4_init 66 = .ok (.bipush 6, 2) := by decide +kernel
theorem dX4_init_68 : decode cX4_init 68 = .ok (.if_icmp .ge 24, 3) := by decide +kernel
theorem dX4_init_71 : decode cX4_init 71 = .ok (.aload_n 0, 1) := by decide +kernel
theorem dX4_init_72 : decode cX4_init 72 = .ok (.getfield 17, 3) := by decide +kernel
theorem dX4_init_75 : decode cX4_init 75 = .ok (.iload_n 1, 1) := by decide +kernel
theorem dX4_init_76 : decode cX4_init 76 = .ok (.new 15, 3) := by decide +kernel
theorem dX4_init_79 : decode cX4_init 79 = .ok (.dup, 1) := by decide +kernel
theorem dX4_init_80 : decode cX4_init 80 = .ok (.bipush 24, 2) := by decide +kernel
theorem dX4_init_82 : decode cX4_init 82 = .ok (.invokespecial 21, 3) := by decide +kernel
theorem dX4_init_85 : decode cX4_init 85 = .ok (.aastore, 1) := by decide +kernel
theorem dX4_init_86 : decode cX4_init 86 = .ok (.iinc 1 1, 3) := by decide +kernel
theorem dX4_init_89 : decode cX4_init 89 = .ok (.goto (-24), 3) := by decide +kernel
theorem dX4_init_92 : decode cX4_init 92 = .ok (.iconst 0, 1) := by decide +kernel
theorem dX4_init_93 : decode cX4_init 93 = .ok (.istore_n 1, 1) := by decide +kernel
theorem dX4_init_94 : decode cX4_init 94 = .ok (.iload_n 1, 1) := by decide +kernel
theorem dX4_init_95 : decode cX4_init 95 = .ok (.iconst 3, 1) := by decide +kernel
theorem dX4_init_96 : decode cX4_init 96 = .ok (.if_icmp .ge 22, 3) := by decide +kernel
theorem dX4_init_99 : decode cX4_init 99 = .ok (.aload_n 0, 1) := by decide +kernel
theorem dX4_init_100 : decode cX4_init 100 = .ok (.getfield 33, 3) := by decide +kernel
theorem dX4_init_103 : decode cX4_init 103 = .ok (.iload_n 1, 1) := by decide +kernel
theorem dX4_init_104 : decode cX4_init 104 = .ok (.new 31, 3) := by decide +kernel
theorem dX4_init_107 : decode cX4_init 107 = .ok (.dup, 1) := by decide +kernel
theorem dX4_init_108 : decode cX4_init 108 = .ok (.invokespecial 43, 3) := by decide +kernel
theorem dX4_init_111 : decode cX4_init 111 = .ok (.aastore, 1) := by decide +kernel
theorem dX4_init_112 : decode cX4_init 112 = .ok (.iinc 1 1, 3) := by decide +kernel
theorem dX4_init_115 : decode cX4_init 115 = .ok (.goto (-21), 3) := by decide +kernel
theorem dX4_init_118 : decode cX4_init 118 = .ok (.iconst 0, 1) := by decide +kernel
theorem dX4_init_119 : decode cX4_init 119 = .ok (.istore_n 1, 1) := by decide +kernel
theorem dX4_init_120 : decode cX4_init 120 = .ok (.iload_n 1, 1) := by decide +kernel
theorem dX4_init_121 : decode cX4_init 121 = .ok (.iconst 4, 1) := by decide +kernel
theorem dX4_init_122 : decode cX4_init 122 = .ok (.if_icmp .ge 22, 3) := by decide +kernel
theorem dX4_init_125 : decode cX4_init 125 = .ok (.aload_n 0, 1) := by decide +kernel
theorem dX4_init_126 : decode cX4_init 126 = .ok (.getfield 39, 3) := by decide +kernel
theorem dX4_init_129 : decode cX4_init 129 = .ok (.iload_n 1, 1) := by decide +kernel
theorem dX4_init_130 : decode cX4_init 130 = .ok (.new 37, 3) := by decide +kernel
theorem dX4_init_133 : decode cX4_init 133 = .ok (.dup, 1) := by decide +kernel
theorem dX4_init_134 : decode cX4_init 134 = .ok (.invokespecial 44, 3) := by decide +kernel
theorem dX4_init_137 : decode cX4_init 137 = .ok (.aastore, 1) := by decide +kernel
theorem dX4_init_138 : decode cX4_init 138 = .ok (.iinc 1 1, 3) := by decide +kernel
theorem dX4_init_141 : decode cX4_init 141 = .ok (.goto (-21), 3) := by decide +kernel
theorem dX4_init_144 : decode cX4_init 144 = .ok (.return_, 1) := by decide +kernel
theorem dX9_init_0 : decode cX9_init 0 = .ok (.aload_n 0, 1) := by decide +kernel
theorem dX9_init_1 : decode cX9_init 1 = .ok (.invokespecial 3, 3) := by decide +kernel
theorem dX9_init_4 : decode cX9_init 4 = .ok (.aload_n 0, 1) := by decide +kernel
theorem dX9_init_5 : decode cX9_init 5 = .ok (.iload_n 1, 1) := by decide +kernel
theorem dX9_init_6 : decode cX9_init 6 = .ok (.newarray .int, 2) := by decide +kernel
theorem dX9_init_8 : decode cX9_init 8 = .ok (.putfield 9, 3) := by decide +kernel
theorem dX9_init_11 : decode cX9_init 11 = .ok (.return_, 1) := by decide +kernel
theorem dX8_init_0 : decode cX8_init 0 = .ok (.aload_n 0, 1) := by decide +kernel
theorem dX8_init_1 : decode cX8_init 1 = .ok (.invokespecial 3, 3) := by decide +kernel
theorem dX8_init_4 : decode cX8_init 4 = .ok (.return_, 1) := by decide +kernel
theorem dX3_init_0 : decode cX3_init 0 = .ok (.aload_n 0, 1) := by decide +kernel
theorem dX3_init_1 : decode cX3_init 1 = .ok (.invokespecial 1, 3) := by decide +kernel
theorem dX3_init_4 : decode cX3_init 4 = .ok (.aload_n 0, 1) := by decide +kernel
theorem dX3_init_5 : decode cX3_init 5 = .ok (.new 7, 3) := by decide +kernel
theorem dX3_init_8 : decode cX3_init 8 = .ok (.dup, 1) := by decide +kernel
theorem dX3_init_9 : decode cX3_init 9 = .ok (.invokespecial 9, 3) := by decide +kernel
theorem dX3_init_12 : decode cX3_init 12 = .ok (.putfield 10, 3) := by decide +kernel
theorem dX3_init_15 : decode cX3_init 15 = .ok (.return_, 1) := by decide +kernel
theorem dX0_init_0 : decode cX0_init 0 = .ok (.aload_n 0, 1) := by decide +kernel
theorem dX0_init_1 : decode cX0_init 1 = .ok (.invokespecial 3, 3) := by decide +kernel
theorem dX0_init_4 : decode cX0_init 4 = .ok (.return_, 1) := by decide +kernel
theorem dX6_init_0 : decode cX6_init 0 = .ok (.aload_n 0, 1) := by decide +kernel
theorem dX6_init_1 : decode cX6_init 1 = .ok (.invokespecial 3, 3) := by decide +kernel
theorem dX6_init_4 : decode cX6_init 4 = .ok (.return_, 1) := by decide +kernel
theorem dX10_domain_0 : decode cX10_domain 0 = .ok (.iload_n 1, 1) := by decide +kernel
theorem dX10_domain_1 : decode cX10_domain 1 = .ok (.iconst (-1), 1) := by decide +kernel
theorem dX10_domain_2 : decode cX10_domain 2 = .ok (.if_icmp .eq 13, 3) := by decide +kernel
theorem dX10_domain_5 : decode cX10_domain 5 = .ok (.aload_n 0, 1) := by decide +kernel
theorem dX10_domain_6 : decode cX10_domain 6 = .ok (.iload_n 1, 1) := by decide +kernel
theorem dX10_domain_7 : decode cX10_domain 7 = .ok (.invokevirtual 54, 3) := by decide +kernel
theorem dX10_domain_10 : decode cX10_domain 10 = .ok (.ifCond .ne 5, 3) := by decide +kernel
theorem dX10_domain_13 : decode cX10_domain 13 = .ok (.iconst (-1), 1) := by decide +kernel
theorem dX10_domain_14 : decode cX10_domain 14 = .ok (.ireturn, 1) := by decide +kernel
theorem dX10_domain_15 : decode cX10_domain 15 = .ok (.aload_n 0, 1) := by decide +kernel
theorem dX10_domain_16 : decode cX10_domain 16 = .ok (.getfield 16, 3) := by decide +kernel
theorem dX10_domain_19 : decode cX10_domain 19 = .ok (.bipush 20, 2) := by decide +kernel
theorem dX10_domain_21 : decode cX10_domain 21 = .ok (.if_icmp .lt 6, 3) := by decide +kernel
theorem dX10_domain_24 : decode cX10_domain 24 = .ok (.bipush (-2), 2) := by decide +kernel
theorem dX10_domain_26 : decode cX10_domain 26 = .ok (.ireturn, 1) := by decide +kernel
theorem dX10_domain_27 : decode cX10_domain 27 = .ok (.aload_n 0, 1) := by decide +kernel
theorem dX10_domain_28 : decode cX10_domain 28 = .ok (.getfield 16, 3) := by decide +kernel
theorem dX10_domain_31 : decode cX10_domain 31 = .ok (.istore_n 3, 1) := by decide +kernel
theorem dX10_domain_32 : decode cX10_domain 32 = .ok (.aload_n 0, 1) := by decide +kernel
theorem dX10_domain_33 : decode cX10_domain 33 = .ok (.getfield 11, 3) := by decide +kernel
theorem dX10_domain_36 : decode cX10_domain 36 = .ok (.iload_n 3, 1) := by decide +kernel
theorem dX10_domain_37 : decode cX10_domain 37 = .ok (.aaload, 1) := by decide +kernel
theorem dX10_domain_38 : decode cX10_domain 38 = .ok (.iload_n 2, 1) := by decide +kernel
theorem dX10_domain_39 : decode cX10_domain 39 = .ok (.ifCond .ne 8, 3) := by decide +kernel
theorem dX10_domain_42 : decode cX10_domain 42 = .ok (.iload_n 1, 1) := by decide +kernel
theorem dX10_domain_43 : decode cX10_domain 43 = .ok (.iconst (-1), 1) := by decide +kernel
theorem dX10_domain_44 : decode cX10_domain 44 = .ok (.if_icmp .ne 7, 3) := by decide +kernel
theorem dX10_domain_47 : decode cX10_domain 47 = .ok (.iconst 1, 1) := by decide +kernel
theorem dX10_domain_48 : decode cX10_domain 48 = .ok (.goto 4, 3) := by decide +kernel
theorem dX10_domain_51 : decode cX10_domain 51 = .ok (.iconst 0, 1) := by decide +kernel
theorem dX10_domain_52 : decode cX10_domain 52 = .ok (.putfield 58, 3) := by decide +kernel
theorem dX10_domain_55 : decode cX10_domain 55 = .ok (.aload_n 0, 1) := by decide +kernel
theorem dX10_domain_56 : decode cX10_domain 56 = .ok (.getfield 11, 3) := by decide +kernel
theorem dX10_domain_59 : decode cX10_domain 59 = .ok (.iload_n 3, 1) := by decide +kernel
theorem dX10_domain_60 : decode cX10_domain 60 = .ok (.aaload, 1) := by decide +kernel
theorem dX10_domain_61 : decode cX10_domain 61 = .ok (.aload_n 0, 1) := by decide +kernel
theorem dX10_domain_62 : decode cX10_domain 62 = .ok (.iload_n 1, 1) := by decide +kernel
theorem dX10_domain_63 : decode cX10_domain 63 = .ok (.iload_n 3, 1) := by decide +kernel
theorem dX10_domain_64 : decode cX10_domain 64 = .ok (.invokevirtual 62, 3) := by decide +kernel
theorem dX10_domain_67 : decode cX10_domain 67 = .ok (.putfield 66, 3) := by decide +kernel
theorem dX10_domain_70 : decode cX10_domain 70 = .ok (.aload_n 0, 1) := by decide +kernel
theorem dX10_domain_71 : decode cX10_domain 71 = .ok (.dup, 1) := by decide +kernel
theorem dX10_domain_72 : decode cX10_domain 72 = .ok (.getfield 16, 3) := by decide +kernel
theorem dX10_domain_75 : decode cX10_domain 75 = .ok (.iconst 1, 1) := by decide +kernel
theorem dX10_domain_76 : decode cX10_domain 76 = .ok (.iadd, 1) := by decide +kernel
theorem dX10_domain_77 : decode cX10_domain 77 = .ok (.putfield 16, 3) := by decide +kernel
theorem dX10_domain_80 : decode cX10_domain 80 = .ok (.iload_n 3, 1) := by decide +kernel
theorem dX10_domain_81 : decode cX10_domain 81 = .ok (.ireturn, 1) := by decide +kernel
theorem dX10_isDomain_0 : decode cX10_isDomain 0 = .ok (.iload_n 1, 1) := by decide +kernel
theorem dX10_isDomain_1 : decode cX10_isDomain 1 = .ok (.iconst 0, 1) := by decide +kernel
theorem dX10_isDomain_2 : decode cX10_isDomain 2 = .ok (.aload_n 0, 1) := by decide +kernel
theorem dX10_isDomain_3 : decode cX10_isDomain 3 = .ok (.getfield 16, 3) := by decide +kernel
theorem dX10_isDomain_6 : decode cX10_isDomain 6 = .ok (.iconst 1, 1) := by decide +kernel
theorem dX10_isDomain_7 : decode cX10_isDomain 7 = .ok (.isub, 1) := by decide +kernel
theorem dX10_isDomain_8 : decode cX10_isDomain 8 = .ok (.invokestatic 72, 3) := by decide +kernel
theorem dX10_isDomain_11 : decode cX10_isDomain 11 = .ok (.ireturn, 1) := by decide +kernel
theorem dX10_isWithin_0 : decode cX10_isWithin 0 = .ok (.iload_n 0, 1) := by decide +kernel
theorem dX10_isWithin_1 : decode cX10_isWithin 1 = .ok (.iload_n 1, 1) := by decide +kernel
theorem dX10_isWithin_2 : decode cX10_isWithin 2 = .ok (.if_icmp .lt 12, 3) := by decide +kernel
theorem dX10_isWithin_5 : decode cX10_isWithin 5 = .ok (.iload_n 0, 1) := by decide +kernel
theorem dX10_isWithin_6 : decode cX10_isWithin 6 = .ok (.iload_n 2, 1) := by decide +kernel
theorem dX10_isWithin_7 : decode cX10_isWithin 7 = .ok (.if_icmp .gt 7, 3) := by decide +kernel
theorem dX10_isWithin_10 : decode cX10_isWithin 10 = .ok (.iconst 1, 1) := by decide +kernel
theorem dX10_isWithin_11 : decode cX10_isWithin 11 = .ok (.goto 4, 3) := by decide +kernel
theorem dX10_isWithin_14 : decode cX10_isWithin 14 = .ok (.iconst 0, 1) := by decide +kernel
theorem dX10_isWithin_15 : decode cX10_isWithin 15 = .ok (.ireturn, 1) := by decide +kernel
theorem dX10_homeUnder_0 : decode cX10_homeUnder 0 = .ok (.aload_n 0, 1) := by decide +kernel
theorem dX10_homeUnder_1 : decode cX10_homeUnder 1 = .ok (.getfield 11, 3) := by decide +kernel
theorem dX10_homeUnder_4 : decode cX10_homeUnder 4 = .ok (.iload_n 2, 1) := by decide +kernel
theorem dX10_homeUnder_5 : decode cX10_homeUnder 5 = .ok (.aaload, 1) := by decide +kernel
theorem dX10_homeUnder_6 : decode cX10_homeUnder 6 = .ok (.getfield 58, 3) := by decide +kernel
theorem dX10_homeUnder_9 : decode cX10_homeUnder 9 = .ok (.ifCond .ne 15, 3) := by decide +kernel
theorem dX10_homeUnder_12 : decode cX10_homeUnder 12 = .ok (.aload_n 0, 1) := by decide +kernel
theorem dX10_homeUnder_13 : decode cX10_homeUnder 13 = .ok (.getfield 11, 3) := by decide +kernel
theorem dX10_homeUnder_16 : decode cX10_homeUnder 16 = .ok (.iload_n 1, 1) := by decide +kernel
theorem dX10_homeUnder_17 : decode cX10_homeUnder 17 = .ok (.aaload, 1) := by decide +kernel
theorem dX10_homeUnder_18 : decode cX10_homeUnder 18 = .ok (.getfield 58, 3) := by decide +kernel
theorem dX10_homeUnder_21 : decode cX10_homeUnder 21 = .ok (.ifCond .eq 5, 3) := by decide +kernel
theorem dX10_homeUnder_24 : decode cX10_homeUnder 24 = .ok (.iload_n 2, 1) := by decide +kernel
theorem dX10_homeUnder_25 : decode cX10_homeUnder 25 = .ok (.ireturn, 1) := by decide +kernel
theorem dX10_homeUnder_26 : decode cX10_homeUnder 26 = .ok (.aload_n 0, 1) := by decide +kernel
theorem dX10_homeUnder_27 : decode cX10_homeUnder 27 = .ok (.getfield 11, 3) := by decide +kernel
theorem dX10_homeUnder_30 : decode cX10_homeUnder 30 = .ok (.iload_n 1, 1) := by decide +kernel
theorem dX10_homeUnder_31 : decode cX10_homeUnder 31 = .ok (.aaload, 1) := by decide +kernel
theorem dX10_homeUnder_32 : decode cX10_homeUnder 32 = .ok (.getfield 66, 3) := by decide +kernel
theorem dX10_homeUnder_35 : decode cX10_homeUnder 35 = .ok (.ireturn, 1) := by decide +kernel
theorem dX10_home_0 : decode cX10_home 0 = .ok (.aload_n 0, 1) := by decide +kernel
theorem dX10_home_1 : decode cX10_home 1 = .ok (.iload_n 1, 1) := by decide +kernel
theorem dX10_home_2 : decode cX10_home 2 = .ok (.invokevirtual 54, 3) := by decide +kernel
theorem dX10_home_5 : decode cX10_home 5 = .ok (.ifCond .eq 15, 3) := by decide +kernel
theorem dX10_home_8 : decode cX10_home 8 = .ok (.aload_n 0, 1) := by decide +kernel
theorem dX10_home_9 : decode cX10_home 9 = .ok (.getfield 11, 3) := by decide +kernel
theorem dX10_home_12 : decode cX10_home 12 = .ok (.iload_n 1, 1) := by decide +kernel
theorem dX10_home_13 : decode cX10_home 13 = .ok (.aaload, 1) := by decide +kernel
theorem dX10_home_14 : decode cX10_home 14 = .ok (.getfield 66, 3) := by decide +kernel
theorem dX10_home_17 : decode cX10_home 17 = .ok (.goto 4, 3) := by decide +kernel
theorem dX10_home_20 : decode cX10_home 20 = .ok (.iconst (-1), 1) := by decide +kernel
theorem dX10_home_21 : decode cX10_home 21 = .ok (.ireturn, 1) := by decide +kernel
theorem dX10_silent_0 : decode cX10_silent 0 = .ok (.aload_n 0, 1) := by decide +kernel
theorem dX10_silent_1 : decode cX10_silent 1 = .ok (.iload_n 1, 1) := by decide +kernel
theorem dX10_silent_2 : decode cX10_silent 2 = .ok (.invokevirtual 54, 3) := by decide +kernel
theorem dX10_silent_5 : decode cX10_silent 5 = .ok (.ifCond .ne 5, 3) := by decide +kernel
theorem dX10_silent_8 : decode cX10_silent 8 = .ok (.iconst 0, 1) := by decide +kernel
theorem dX10_silent_9 : decode cX10_silent 9 = .ok (.ireturn, 1) := by decide +kernel
theorem dX10_silent_10 : decode cX10_silent 10 = .ok (.aload_n 0, 1) := by decide +kernel
theorem dX10_silent_11 : decode cX10_silent 11 = .ok (.getfield 11, 3) := by decide +kernel
theorem dX10_silent_14 : decode cX10_silent 14 = .ok (.iload_n 1, 1) := by decide +kernel
theorem dX10_silent_15 : decode cX10_silent 15 = .ok (.aaload, 1) := by decide +kernel
theorem dX10_silent_16 : decode cX10_silent 16 = .ok (.iload_n 2, 1) := by decide +kernel
theorem dX10_silent_17 : decode cX10_silent 17 = .ok (.putfield 69, 3) := by decide +kernel
theorem dX10_silent_20 : decode cX10_silent 20 = .ok (.iconst 1, 1) := by decide +kernel
theorem dX10_silent_21 : decode cX10_silent 21 = .ok (.ireturn, 1) := by decide +kernel
theorem dX10_host_0 : decode cX10_host 0 = .ok (.aload_n 0, 1) := by decide +kernel
theorem dX10_host_1 : decode cX10_host 1 = .ok (.iload_n 1, 1) := by decide +kernel
theorem dX10_host_2 : decode cX10_host 2 = .ok (.invokevirtual 54, 3) := by decide +kernel
theorem dX10_host_5 : decode cX10_host 5 = .ok (.ifCond .eq 12, 3) := by decide +kernel
theorem dX10_host_8 : decode cX10_host 8 = .ok (.iload_n 2, 1) := by decide +kernel
theorem dX10_host_9 : decode cX10_host 9 = .ok (.iconst 0, 1) := by decide +kernel
theorem dX10_host_10 : decode cX10_host 10 = .ok (.iconst 1, 1) := by decide +kernel
theorem dX10_host_11 : decode cX10_host 11 = .ok (.invokestatic 72, 3) := by decide +kernel
theorem dX10_host_14 : decode cX10_host 14 = .ok (.ifCond .ne 5, 3) := by decide +kernel
theorem dX10_host_17 : decode cX10_host 17 = .ok (.iconst (-1), 1) := by decide +kernel
theorem dX10_host_18 : decode cX10_host 18 = .ok (.ireturn, 1) := by decide +kernel
theorem dX10_host_19 : decode cX10_host 19 = .ok (.iload_n 2, 1) := by decide +kernel
theorem dX10_host_20 : decode cX10_host 20 = .ok (.ifCond .ne 17, 3) := by decide +kernel
theorem dX10_host_23 : decode cX10_host 23 = .ok (.aload_n 0, 1) := by decide +kernel
theorem dX10_host_24 : decode cX10_host 24 = .ok (.getfield 11, 3) := by decide +kernel
theorem dX10_host_27 : decode cX10_host 27 = .ok (.iload_n 1, 1) := by decide +kernel
theorem dX10_host_28 : decode cX10_host 28 = .ok (.aaload, 1) := by decide +kernel
theorem dX10_host_29 : decode cX10_host 29 = .ok (.getfield 76, 3) := by decide +kernel
theorem dX10_host_32 : decode cX10_host 32 = .ok (.iload_n 3, 1) := by decide +kernel
theorem dX10_host_33 : decode cX10_host 33 = .ok (.invokevirtual 80, 3) := by decide +kernel
theorem dX10_host_36 : decode cX10_host 36 = .ok (.ireturn, 1) := by decide +kernel
theorem dX10_host_37 : decode cX10_host 37 = .ok (.aload_n 0, 1) := by decide +kernel
theorem dX10_host_38 : decode cX10_host 38 = .ok (.iload_n 3, 1) := by decide +kernel
theorem dX10_host_39 : decode cX10_host 39 = .ok (.invokevirtual 54, 3) := by decide +kernel
theorem dX10_host_42 : decode cX10_host 42 = .ok (.ifCond .eq 19, 3) := by decide +kernel
theorem dX10_host_45 : decode cX10_host 45 = .ok (.aload_n 0, 1) := by decide +kernel
theorem dX10_host_46 : decode cX10_host 46 = .ok (.getfield 11, 3) := by decide +kernel
theorem dX10_host_49 : decode cX10_host 49 = .ok (.iload_n 1, 1) := by decide +kernel
theorem dX10_host_50 : decode cX10_host 50 = .ok (.aaload, 1) := by decide +kernel
theorem dX10_host_51 : decode cX10_host 51 = .ok (.getfield 86, 3) := by decide +kernel
theorem dX10_host_54 : decode cX10_host 54 = .ok (.iload_n 3, 1) := by decide +kernel
theorem dX10_host_55 : decode cX10_host 55 = .ok (.invokevirtual 80, 3) := by decide +kernel
theorem dX10_host_58 : decode cX10_host 58 = .ok (.goto 4, 3) := by decide +kernel
theorem dX10_host_61 : decode cX10_host 61 = .ok (.iconst (-1), 1) := by decide +kernel
theorem dX10_host_62 : decode cX10_host 62 = .ok (.ireturn, 1) := by decide +kernel
theorem dX2_append_0 : decode cX2_append 0 = .ok (.aload_n 0, 1) := by decide +kernel
theorem dX2_append_1 : decode cX2_append 1 = .ok (.getfield 15, 3) := by decide +kernel
theorem dX2_append_4 : decode cX2_append 4 = .ok (.iconst 2, 1) := by decide +kernel
theorem dX2_append_5 : decode cX2_append 5 = .ok (.if_icmp .lt 6, 3) := by decide +kernel
theorem dX2_append_8 : decode cX2_append 8 = .ok (.bipush (-2), 2) := by decide +kernel
theorem dX2_append_10 : decode cX2_append 10 = .ok (.ireturn, 1) := by decide +kernel
theorem dX2_append_11 : decode cX2_append 11 = .ok (.aload_n 0, 1) := by decide +kernel
theorem dX2_append_12 : decode cX2_append 12 = .ok (.getfield 9, 3) := by decide +kernel
theorem dX2_append_15 : decode cX2_append 15 = .ok (.aload_n 0, 1) := by decide +kernel
theorem dX2_append_16 : decode cX2_append 16 = .ok (.getfield 15, 3) := by decide +kernel
theorem dX2_append_19 : decode cX2_append 19 = .ok (.iload_n 1, 1) := by decide +kernel
theorem dX2_append_20 : decode cX2_append 20 = .ok (.iastore, 1) := by decide +kernel
theorem dX2_append_21 : decode cX2_append 21 = .ok (.aload_n 0, 1) := by decide +kernel
theorem dX2_append_22 : decode cX2_append 22 = .ok (.dup, 1) := by decide +kernel
theorem dX2_append_23 : decode cX2_append 23 = .ok (.getfield 15, 3) := by decide +kernel
theorem dX2_append_26 : decode cX2_append 26 = .ok (.iconst 1, 1) := by decide +kernel
theorem dX2_append_27 : decode cX2_append 27 = .ok (.iadd, 1) := by decide +kernel
theorem dX2_append_28 : decode cX2_append 28 = .ok (.putfield 15, 3) := by decide +kernel
theorem dX2_append_31 : decode cX2_append 31 = .ok (.aload_n 0, 1) := by decide +kernel
theorem dX2_append_32 : decode cX2_append 32 = .ok (.getfield 15, 3) := by decide +kernel
theorem dX2_append_35 : decode cX2_append 35 = .ok (.ireturn, 1) := by decide +kernel
theorem dX10_rule_0 : decode cX10_rule 0 = .ok (.aload_n 0, 1) := by decide +kernel
theorem dX10_rule_1 : decode cX10_rule 1 = .ok (.iload_n 1, 1) := by decide +kernel
theorem dX10_rule_2 : decode cX10_rule 2 = .ok (.invokevirtual 54, 3) := by decide +kernel
theorem dX10_rule_5 : decode cX10_rule 5 = .ok (.ifCond .eq 13, 3) := by decide +kernel
theorem dX10_rule_8 : decode cX10_rule 8 = .ok (.iload_n 3, 1) := by decide +kernel
theorem dX10_rule_9 : decode cX10_rule 9 = .ok (.iconst 0, 1) := by decide +kernel
theorem dX10_rule_10 : decode cX10_rule 10 = .ok (.bipush 6, 2) := by decide +kernel
theorem dX10_rule_12 : decode cX10_rule 12 = .ok (.invokestatic 72, 3) := by decide +kernel
theorem dX10_rule_15 : decode cX10_rule 15 = .ok (.ifCond .ne 5, 3) := by decide +kernel
theorem dX10_rule_18 : decode cX10_rule 18 = .ok (.iconst (-1), 1) := by decide +kernel
theorem dX10_rule_19 : decode cX10_rule 19 = .ok (.ireturn, 1) := by decide +kernel
theorem dX10_rule_20 : decode cX10_rule 20 = .ok (.iload_n 3, 1) := by decide +kernel
theorem dX10_rule_21 : decode cX10_rule 21 = .ok (.iconst 2, 1) := by decide +kernel
theorem dX10_rule_22 : decode cX10_rule 22 = .ok (.if_icmp .lt 14, 3) := by decide +kernel
theorem dX10_rule_25 : decode cX10_rule 25 = .ok (.aload_n 0, 1) := by decide +kernel
theorem dX10_rule_26 : decode cX10_rule 26 = .ok (.iload 4, 2) := by decide +kernel
theorem dX10_rule_28 : decode cX10_rule 28 = .ok (.invokevirtual 54, 3) := by decide +kernel
theorem dX10_rule_31 : decode cX10_rule 31 = .ok (.ifCond .ne 5, 3) := by decide +kernel
theorem dX10_rule_34 : decode cX10_rule 34 = .ok (.iconst (-1), 1) := by decide +kernel
theorem dX10_rule_35 : decode cX10_rule 35 = .ok (.ireturn, 1) := by decide +kernel
theorem dX10_rule_36 : decode cX10_rule 36 = .ok (.aload_n 0, 1) := by decide +kernel
theorem dX10_rule_37 : decode cX10_rule 37 = .ok (.getfield 11, 3) := by decide +kernel
theorem dX10_rule_40 : decode cX10_rule 40 = .ok (.iload_n 1, 1) := by decide +kernel
theorem dX10_rule_41 : decode cX10_rule 41 = .ok (.aaload, 1) := by decide +kernel
theorem dX10_rule_42 : decode cX10_rule 42 = .ok (.getfield 89, 3) := by decide +kernel
theorem dX10_rule_45 : decode cX10_rule 45 = .ok (.astore 6, 2) := by decide +kernel
theorem dX10_rule_47 : decode cX10_rule 47 = .ok (.iload_n 3, 1) := by decide +kernel
theorem dX10_rule_48 : decode cX10_rule 48 = .ok (.bipush 6, 2) := by decide +kernel
theorem dX10_rule_50 : decode cX10_rule 50 = .ok (.if_icmp .ne 11, 3) := by decide +kernel
theorem dX10_rule_53 : decode cX10_rule 53 = .ok (.aload 6, 2) := by decide +kernel
theorem dX10_rule_55 : decode cX10_rule 55 = .ok (.iload 4, 2) := by decide +kernel
theorem dX10_rule_57 : decode cX10_rule 57 = .ok (.invokevirtual 93, 3) := by decide +kernel
theorem dX10_rule_60 : decode cX10_rule 60 = .ok (.ireturn, 1) := by decide +kernel
theorem dX10_rule_61 : decode cX10_rule 61 = .ok (.iload_n 2, 1) := by decide +kernel
theorem dX10_rule_62 : decode cX10_rule 62 = .ok (.iconst 0, 1) := by decide +kernel
theorem dX10_rule_63 : decode cX10_rule 63 = .ok (.iconst 3, 1) := by decide +kernel
theorem dX10_rule_64 : decode cX10_rule 64 = .ok (.invokestatic 72, 3) := by decide +kernel
theorem dX10_rule_67 : decode cX10_rule 67 = .ok (.ifCond .eq 21, 3) := by decide +kernel
theorem dX10_rule_70 : decode cX10_rule 70 = .ok (.iload_n 3, 1) := by decide +kernel
theorem dX10_rule_71 : decode cX10_rule 71 = .ok (.invokestatic 98, 3) := by decide +kernel
theorem dX10_rule_74 : decode cX10_rule 74 = .ok (.ifCond .eq 16, 3) := by decide +kernel
theorem dX10_rule_77 : decode cX10_rule 77 = .ok (.iload 5, 2) := by decide +kernel
theorem dX10_rule_79 : decode cX10_rule 79 = .ok (.iconst 0, 1) := by decide +kernel
theorem dX10_rule_80 : decode cX10_rule 80 = .ok (.bipush 32, 2) := by decide +kernel
theorem dX10_rule_82 : decode cX10_rule 82 = .ok (.invokestatic 72, 3) := by decide +kernel
theorem dX10_rule_85 : decode cX10_rule 85 = .ok (.ifCond .ne 5, 3) := by decide +kernel
theorem dX10_rule_88 : decode cX10_rule 88 = .ok (.iconst (-1), 1) := by decide +kernel
theorem dX10_rule_89 : decode cX10_rule 89 = .ok (.ireturn, 1) := by decide +kernel
theorem dX10_rule_90 : decode cX10_rule 90 = .ok (.aload 6, 2) := by decide +kernel
theorem dX10_rule_92 : decode cX10_rule 92 = .ok (.iload_n 2, 1) := by decide +kernel
theorem dX10_rule_93 : decode cX10_rule 93 = .ok (.iload_n 3, 1) := by decide +kernel
theorem dX10_rule_94 : decode cX10_rule 94 = .ok (.iload 4, 2) := by decide +kernel
theorem dX10_rule_96 : decode cX10_rule 96 = .ok (.iload 5, 2) := by decide +kernel
theorem dX10_rule_98 : decode cX10_rule 98 = .ok (.invokevirtual 101, 3) := by decide +kernel
theorem dX10_rule_101 : decode cX10_rule 101 = .ok (.ireturn, 1) := by decide +kernel
theorem dX7_redirectTo_0 : decode cX7_redirectTo 0 = .ok (.aload_n 0, 1) := by decide +kernel
theorem dX7_redirectTo_1 : decode cX7_redirectTo 1 = .ok (.iload_n 1, 1) := by decide +kernel
theorem dX7_redirectTo_2 : decode cX7_redirectTo 2 = .ok (.putfield 24, 3) := by decide +kernel
theorem dX7_redirectTo_5 : decode cX7_redirectTo 5 = .ok (.aload_n 0, 1) := by decide +kernel
theorem dX7_redirectTo_6 : decode cX7_redirectTo 6 = .ok (.iconst 1, 1) := by decide +kernel
theorem dX7_redirectTo_7 : decode cX7_redirectTo 7 = .ok (.putfield 31, 3) := by decide +kernel
theorem dX7_redirectTo_10 : decode cX7_redirectTo 10 = .ok (.aload_n 0, 1) := by decide +kernel
theorem dX7_redirectTo_11 : decode cX7_redirectTo 11 = .ok (.getfield 28, 3) := by decide +kernel
theorem dX7_redirectTo_14 : decode cX7_redirectTo 14 = .ok (.ireturn, 1) := by decide +kernel
theorem dX10_hasLength_0 : decode cX10_hasLength 0 = .ok (.iload_n 0, 1) := by decide +kernel
theorem dX10_hasLength_1 : decode cX10_hasLength 1 = .ok (.iconst 1, 1) := by decide +kernel
theorem dX10_hasLength_2 : decode cX10_hasLength 2 = .ok (.iconst 3, 1) := by decide +kernel
theorem dX10_hasLength_3 : decode cX10_hasLength 3 = .ok (.invokestatic 72, 3) := by decide +kernel
theorem dX10_hasLength_6 : decode cX10_hasLength 6 = .ok (.ireturn, 1) := by decide +kernel
theorem dX7_append_0 : decode cX7_append 0 = .ok (.aload_n 0, 1) := by decide +kernel
theorem dX7_append_1 : decode cX7_append 1 = .ok (.getfield 28, 3) := by decide +kernel
theorem dX7_append_4 : decode cX7_append 4 = .ok (.bipush 6, 2) := by decide +kernel
theorem dX7_append_6 : decode cX7_append 6 = .ok (.if_icmp .lt 6, 3) := by decide +kernel
theorem dX7_append_9 : decode cX7_append 9 = .ok (.bipush (-2), 2) := by decide +kernel
theorem dX7_append_11 : decode cX7_append 11 = .ok (.ireturn, 1) := by decide +kernel
theorem dX7_append_12 : decode cX7_append 12 = .ok (.aload_n 0, 1) := by decide +kernel
theorem dX7_append_13 : decode cX7_append 13 = .ok (.getfield 9, 3) := by decide +kernel
theorem dX7_append_16 : decode cX7_append 16 = .ok (.aload_n 0, 1) := by decide +kernel
theorem dX7_append_17 : decode cX7_append 17 = .ok (.getfield 28, 3) := by decide +kernel
theorem dX7_append_20 : decode cX7_append 20 = .ok (.iload_n 1, 1) := by decide +kernel
theorem dX7_append_21 : decode cX7_append 21 = .ok (.iastore, 1) := by decide +kernel
theorem dX7_append_22 : decode cX7_append 22 = .ok (.aload_n 0, 1) := by decide +kernel
theorem dX7_append_23 : decode cX7_append 23 = .ok (.getfield 15, 3) := by decide +kernel
theorem dX7_append_26 : decode cX7_append 26 = .ok (.aload_n 0, 1) := by decide +kernel
theorem dX7_append_27 : decode cX7_append 27 = .ok (.getfield 28, 3) := by decide +kernel
theorem dX7_append_30 : decode cX7_append 30 = .ok (.iload_n 2, 1) := by decide +kernel
theorem dX7_append_31 : decode cX7_append 31 = .ok (.iastore, 1) := by decide +kernel
theorem dX7_append_32 : decode cX7_append 32 = .ok (.aload_n 0, 1) := by decide +kernel
theorem dX7_append_33 : decode cX7_append 33 = .ok (.getfield 18, 3) := by decide +kernel
theorem dX7_append_36 : decode cX7_append 36 = .ok (.aload_n 0, 1) := by decide +kernel
theorem dX7_append_37 : decode cX7_append 37 = .ok (.getfield 28, 3) := by decide +kernel
theorem dX7_append_40 : decode cX7_append 40 = .ok (.iload_n 3, 1) := by decide +kernel
theorem dX7_append_41 : decode cX7_append 41 = .ok (.iastore, 1) := by decide +kernel
theorem dX7_append_42 : decode cX7_append 42 = .ok (.aload_n 0, 1) := by decide +kernel
theorem dX7_append_43 : decode cX7_append 43 = .ok (.getfield 21, 3) := by decide +kernel
theorem dX7_append_46 : decode cX7_append 46 = .ok (.aload_n 0, 1) := by decide +kernel
theorem dX7_append_47 : decode cX7_append 47 = .ok (.getfield 28, 3) := by decide +kernel
theorem dX7_append_50 : decode cX7_append 50 = .ok (.iload 4, 2) := by decide +kernel
theorem dX7_append_52 : decode cX7_append 52 = .ok (.iastore, 1) := by decide +kernel
theorem dX7_append_53 : decode cX7_append 53 = .ok (.aload_n 0, 1) := by decide +kernel
theorem dX7_append_54 : decode cX7_append 54 = .ok (.dup, 1) := by decide +kernel
theorem dX7_append_55 : decode cX7_append 55 = .ok (.getfield 28, 3) := by decide +kernel
theorem dX7_append_58 : decode cX7_append 58 = .ok (.iconst 1, 1) := by decide +kernel
theorem dX7_append_59 : decode cX7_append 59 = .ok (.iadd, 1) := by decide +kernel
theorem dX7_append_60 : decode cX7_append 60 = .ok (.putfield 28, 3) := by decide +kernel
theorem dX7_append_63 : decode cX7_append 63 = .ok (.aload_n 0, 1) := by decide +kernel
theorem dX7_append_64 : decode cX7_append 64 = .ok (.iconst 1, 1) := by decide +kernel
theorem dX7_append_65 : decode cX7_append 65 = .ok (.putfield 31, 3) := by decide +kernel
theorem dX7_append_68 : decode cX7_append 68 = .ok (.aload_n 0, 1) := by decide +kernel
theorem dX7_append_69 : decode cX7_append 69 = .ok (.getfield 28, 3) := by decide +kernel
theorem dX7_append_72 : decode cX7_append 72 = .ok (.ireturn, 1) := by decide +kernel
theorem dX10_key_0 : decode cX10_key 0 = .ok (.aload_n 0, 1) := by decide +kernel
theorem dX10_key_1 : decode cX10_key 1 = .ok (.iload_n 1, 1) := by decide +kernel
theorem dX10_key_2 : decode cX10_key 2 = .ok (.invokevirtual 54, 3) := by decide +kernel
theorem dX10_key_5 : decode cX10_key 5 = .ok (.ifCond .eq 20, 3) := by decide +kernel
theorem dX10_key_8 : decode cX10_key 8 = .ok (.iload_n 2, 1) := by decide +kernel
theorem dX10_key_9 : decode cX10_key 9 = .ok (.invokestatic 104, 3) := by decide +kernel
theorem dX10_key_12 : decode cX10_key 12 = .ok (.ifCond .eq 13, 3) := by decide +kernel
theorem dX10_key_15 : decode cX10_key 15 = .ok (.iload_n 3, 1) := by decide +kernel
theorem dX10_key_16 : decode cX10_key 16 = .ok (.iconst 0, 1) := by decide +kernel
theorem dX10_key_17 : decode cX10_key 17 = .ok (.ldc 107, 2) := by decide +kernel
theorem dX10_key_19 : decode cX10_key 19 = .ok (.invokestatic 72, 3) := by decide +kernel
theorem dX10_key_22 : decode cX10_key 22 = .ok (.ifCond .ne 5, 3) := by decide +kernel
theorem dX10_key_25 : decode cX10_key 25 = .ok (.iconst 0, 1) := by decide +kernel
theorem dX10_key_26 : decode cX10_key 26 = .ok (.ireturn, 1) := by decide +kernel
theorem dX10_key_27 : decode cX10_key 27 = .ok (.aload_n 0, 1) := by decide +kernel
theorem dX10_key_28 : decode cX10_key 28 = .ok (.getfield 11, 3) := by decide +kernel
theorem dX10_key_31 : decode cX10_key 31 = .ok (.iload_n 1, 1) := by decide +kernel
theorem dX10_key_32 : decode cX10_key 32 = .ok (.aaload, 1) := by decide +kernel
theorem dX10_key_33 : decode cX10_key 33 = .ok (.getfield 108, 3) := by decide +kernel
theorem dX10_key_36 : decode cX10_key 36 = .ok (.iload_n 2, 1) := by decide +kernel
theorem dX10_key_37 : decode cX10_key 37 = .ok (.iload_n 3, 1) := by decide +kernel
theorem dX10_key_38 : decode cX10_key 38 = .ok (.iastore, 1) := by decide +kernel
theorem dX10_key_39 : decode cX10_key 39 = .ok (.iconst 1, 1) := by decide +kernel
theorem dX10_key_40 : decode cX10_key 40 = .ok (.ireturn, 1) := by decide +kernel
theorem dX10_isSelector_0 : decode cX10_isSelector 0 = .ok (.iload_n 0, 1) := by decide +kernel
theorem dX10_isSelector_1 : decode cX10_isSelector 1 = .ok (.iconst 0, 1) := by decide +kernel
theorem dX10_isSelector_2 : decode cX10_isSelector 2 = .ok (.iconst 1, 1) := by decide +kernel
theorem dX10_isSelector_3 : decode cX10_isSelector 3 = .ok (.invokestatic 72, 3) := by decide +kernel
theorem dX10_isSelector_6 : decode cX10_isSelector 6 = .ok (.ireturn, 1) := by decide +kernel
theorem dX10_policy_0 : decode cX10_policy 0 = .ok (.aload_n 0, 1) := by decide +kernel
theorem dX10_policy_1 : decode cX10_policy 1 = .ok (.iload_n 1, 1) := by decide +kernel
theorem dX10_policy_2 : decode cX10_policy 2 = .ok (.invokevirtual 54, 3) := by decide +kernel
theorem dX10_policy_5 : decode cX10_policy 5 = .ok (.ifCond .ne 5, 3) := by decide +kernel
theorem dX10_policy_8 : decode cX10_policy 8 = .ok (.iconst 0, 1) := by decide +kernel
theorem dX10_policy_9 : decode cX10_policy 9 = .ok (.ireturn, 1) := by decide +kernel
theorem dX10_policy_10 : decode cX10_policy 10 = .ok (.aload_n 0, 1) := by decide +kernel
theorem dX10_policy_11 : decode cX10_policy 11 = .ok (.getfield 11, 3) := by decide +kernel
theorem dX10_policy_14 : decode cX10_policy 14 = .ok (.iload_n 1, 1) := by decide +kernel
theorem dX10_policy_15 : decode cX10_policy 15 = .ok (.aaload, 1) := by decide +kernel
theorem dX10_policy_16 : decode cX10_policy 16 = .ok (.getfield 112, 3) := by decide +kernel
theorem dX10_policy_19 : decode cX10_policy 19 = .ok (.astore 6, 2) := by decide +kernel
theorem dX10_policy_21 : decode cX10_policy 21 = .ok (.iload_n 2, 1) := by decide +kernel
theorem dX10_policy_22 : decode cX10_policy 22 = .ok (.iconst (-1), 1) := by decide +kernel
theorem dX10_policy_23 : decode cX10_policy 23 = .ok (.if_icmp .ne 11, 3) := by decide +kernel
theorem dX10_policy_26 : decode cX10_policy 26 = .ok (.aload 6, 2) := by decide +kernel
theorem dX10_policy_28 : decode cX10_policy 28 = .ok (.iconst 0, 1) := by decide +kernel
theorem dX10_policy_29 : decode cX10_policy 29 = .ok (.putfield 115, 3) := by decide +kernel
theorem dX10_policy_32 : decode cX10_policy 32 = .ok (.iconst 1, 1) := by decide +kernel
theorem dX10_policy_33 : decode cX10_policy 33 = .ok (.ireturn, 1) := by decide +kernel
theorem dX10_policy_34 : decode cX10_policy 34 = .ok (.iload_n 2, 1) := by decide +kernel
theorem dX10_policy_35 : decode cX10_policy 35 = .ok (.iconst 0, 1) := by decide +kernel
theorem dX10_policy_36 : decode cX10_policy 36 = .ok (.iconst 2, 1) := by decide +kernel
theorem dX10_policy_37 : decode cX10_policy 37 = .ok (.invokestatic 72, 3) := by decide +kernel
theorem dX10_policy_40 : decode cX10_policy 40 = .ok (.ifCond .eq 33, 3) := by decide +kernel
theorem dX10_policy_43 : decode cX10_policy 43 = .ok (.iload_n 3, 1) := by decide +kernel
theorem dX10_policy_44 : decode cX10_policy 44 = .ok (.iconst 0, 1) := by decide +kernel
theorem dX10_policy_45 : decode cX10_policy 45 = .ok (.iconst 2, 1) := by decide +kernel
theorem dX10_policy_46 : decode cX10_policy 46 = .ok (.invokestatic 72, 3) := by decide +kernel
theorem dX10_policy_49 : decode cX10_policy 49 = .ok (.ifCond .eq 24, 3) := by decide +kernel
theorem dX10_policy_52 : decode cX10_policy 52 = .ok (.iload 4, 2) := by decide +kernel
theorem dX10_policy_54 : decode cX10_policy 54 = .ok (.iconst 0, 1) := by decide +kernel
theorem dX10_policy_55 : decode cX10_policy 55 = .ok (.iconst 3, 1) := by decide +kernel
theorem dX10_policy_56 : decode cX10_policy 56 = .ok (.invokestatic 72, 3) := by decide +kernel
theorem dX10_policy_59 : decode cX10_policy 59 = .ok (.ifCond .eq 14, 3) := by decide +kernel
theorem dX10_policy_62 : decode cX10_policy 62 = .ok (.iload 5, 2) := by decide +kernel
theorem dX10_policy_64 : decode cX10_policy 64 = .ok (.iconst 0, 1) := by decide +kernel
theorem dX10_policy_65 : decode cX10_policy 65 = .ok (.bipush 100, 2) := by decide +kernel
theorem dX10_policy_67 : decode cX10_policy 67 = .ok (.invokestatic 72, 3) := by decide +kernel
theorem dX10_policy_70 : decode cX10_policy 70 = .ok (.ifCond .ne 5, 3) := by decide +kernel
theorem dX10_policy_73 : decode cX10_policy 73 = .ok (.iconst 0, 1) := by decide +kernel
theorem dX10_policy_74 : decode cX10_policy 74 = .ok (.ireturn, 1) := by decide +kernel
theorem dX10_policy_75 : decode cX10_policy 75 = .ok (.aload 6, 2) := by decide +kernel
theorem dX10_policy_77 : decode cX10_policy 77 = .ok (.iload_n 2, 1) := by decide +kernel
theorem dX10_policy_78 : decode cX10_policy 78 = .ok (.iload_n 3, 1) := by decide +kernel
theorem dX10_policy_79 : decode cX10_policy 79 = .ok (.iload 4, 2) := by decide +kernel
theorem dX10_policy_81 : decode cX10_policy 81 = .ok (.iload 5, 2) := by decide +kernel
theorem dX10_policy_83 : decode cX10_policy 83 = .ok (.invokevirtual 118, 3) := by decide +kernel
theorem dX10_policy_86 : decode cX10_policy 86 = .ok (.iconst 1, 1) := by decide +kernel
theorem dX10_policy_87 : decode cX10_policy 87 = .ok (.ireturn, 1) := by decide +kernel
theorem dX5_fill_0 : decode cX5_fill 0 = .ok (.aload_n 0, 1) := by decide +kernel
theorem dX5_fill_1 : decode cX5_fill 1 = .ok (.iload_n 1, 1) := by decide +kernel
theorem dX5_fill_2 : decode cX5_fill 2 = .ok (.putfield 9, 3) := by decide +kernel
theorem dX5_fill_5 : decode cX5_fill 5 = .ok (.aload_n 0, 1) := by decide +kernel
theorem dX5_fill_6 : decode cX5_fill 6 = .ok (.iload_n 2, 1) := by decide +kernel
theorem dX5_fill_7 : decode cX5_fill 7 = .ok (.putfield 15, 3) := by decide +kernel
theorem dX5_fill_10 : decode cX5_fill 10 = .ok (.aload_n 0, 1) := by decide +kernel
theorem dX5_fill_11 : decode cX5_fill 11 = .ok (.iload_n 3, 1) := by decide +kernel
theorem dX5_fill_12 : decode cX5_fill 12 = .ok (.putfield 21, 3) := by decide +kernel
theorem dX5_fill_15 : decode cX5_fill 15 = .ok (.aload_n 0, 1) := by decide +kernel
theorem dX5_fill_16 : decode cX5_fill 16 = .ok (.iload 4, 2) := by decide +kernel
theorem dX5_fill_18 : decode cX5_fill 18 = .ok (.putfield 18, 3) := by decide +kernel
theorem dX5_fill_21 : decode cX5_fill 21 = .ok (.aload_n 0, 1) := by decide +kernel
theorem dX5_fill_22 : decode cX5_fill 22 = .ok (.iconst 1, 1) := by decide +kernel
theorem dX5_fill_23 : decode cX5_fill 23 = .ok (.putfield 24, 3) := by decide +kernel
theorem dX5_fill_26 : decode cX5_fill 26 = .ok (.return_, 1) := by decide +kernel
theorem dX10_mail_0 : decode cX10_mail 0 = .ok (.aload_n 0, 1) := by decide +kernel
theorem dX10_mail_1 : decode cX10_mail 1 = .ok (.iload_n 1, 1) := by decide +kernel
theorem dX10_mail_2 : decode cX10_mail 2 = .ok (.invokevirtual 54, 3) := by decide +kernel
theorem dX10_mail_5 : decode cX10_mail 5 = .ok (.ifCond .eq 11, 3) := by decide +kernel
theorem dX10_mail_8 : decode cX10_mail 8 = .ok (.aload_n 0, 1) := by decide +kernel
theorem dX10_mail_9 : decode cX10_mail 9 = .ok (.iload_n 2, 1) := by decide +kernel
theorem dX10_mail_10 : decode cX10_mail 10 = .ok (.invokevirtual 54, 3) := by decide +kernel
theorem dX10_mail_13 : decode cX10_mail 13 = .ok (.ifCond .ne 5, 3) := by decide +kernel
theorem dX10_mail_16 : decode cX10_mail 16 = .ok (.iconst 0, 1) := by decide +kernel
theorem dX10_mail_17 : decode cX10_mail 17 = .ok (.ireturn, 1) := by decide +kernel
theorem dX10_mail_18 : decode cX10_mail 18 = .ok (.aload_n 0, 1) := by decide +kernel
theorem dX10_mail_19 : decode cX10_mail 19 = .ok (.getfield 30, 3) := by decide +kernel
theorem dX10_mail_22 : decode cX10_mail 22 = .ok (.iload_n 1, 1) := by decide +kernel
theorem dX10_mail_23 : decode cX10_mail 23 = .ok (.iload_n 2, 1) := by decide +kernel
theorem dX10_mail_24 : decode cX10_mail 24 = .ok (.iload_n 3, 1) := by decide +kernel
theorem dX10_mail_25 : decode cX10_mail 25 = .ok (.invokevirtual 122, 3) := by decide +kernel
theorem dX10_mail_28 : decode cX10_mail 28 = .ok (.iconst 1, 1) := by decide +kernel
theorem dX10_mail_29 : decode cX10_mail 29 = .ok (.ireturn, 1) := by decide +kernel
theorem dX4_begin_0 : decode cX4_begin 0 = .ok (.aload_n 0, 1) := by decide +kernel
theorem dX4_begin_1 : decode cX4_begin 1 = .ok (.iload_n 1, 1) := by decide +kernel
theorem dX4_begin_2 : decode cX4_begin 2 = .ok (.putfield 45, 3) := by decide +kernel
theorem dX4_begin_5 : decode cX4_begin 5 = .ok (.aload_n 0, 1) := by decide +kernel
theorem dX4_begin_6 : decode cX4_begin 6 = .ok (.iload_n 2, 1) := by decide +kernel
theorem dX4_begin_7 : decode cX4_begin 7 = .ok (.putfield 49, 3) := by decide +kernel
theorem dX4_begin_10 : decode cX4_begin 10 = .ok (.aload_n 0, 1) := by decide +kernel
theorem dX4_begin_11 : decode cX4_begin 11 = .ok (.iload_n 3, 1) := by decide +kernel
theorem dX4_begin_12 : decode cX4_begin 12 = .ok (.putfield 52, 3) := by decide +kernel
theorem dX4_begin_15 : decode cX4_begin 15 = .ok (.aload_n 0, 1) := by decide +kernel
theorem dX4_begin_16 : decode cX4_begin 16 = .ok (.iconst 1, 1) := by decide +kernel
theorem dX4_begin_17 : decode cX4_begin 17 = .ok (.putfield 55, 3) := by decide +kernel
theorem dX4_begin_20 : decode cX4_begin 20 = .ok (.aload_n 0, 1) := by decide +kernel
theorem dX4_begin_21 : decode cX4_begin 21 = .ok (.iconst 0, 1) := by decide +kernel
theorem dX4_begin_22 : decode cX4_begin 22 = .ok (.putfield 59, 3) := by decide +kernel
theorem dX4_begin_25 : decode cX4_begin 25 = .ok (.aload_n 0, 1) := by decide +kernel
theorem dX4_begin_26 : decode cX4_begin 26 = .ok (.getfield 24, 3) := by decide +kernel
theorem dX4_begin_29 : decode cX4_begin 29 = .ok (.iconst 0, 1) := by decide +kernel
theorem dX4_begin_30 : decode cX4_begin 30 = .ok (.putfield 62, 3) := by decide +kernel
theorem dX4_begin_33 : decode cX4_begin 33 = .ok (.aload_n 0, 1) := by decide +kernel
theorem dX4_begin_34 : decode cX4_begin 34 = .ok (.iconst 0, 1) := by decide +kernel
theorem dX4_begin_35 : decode cX4_begin 35 = .ok (.putfield 65, 3) := by decide +kernel
theorem dX4_begin_38 : decode cX4_begin 38 = .ok (.aload_n 0, 1) := by decide +kernel
theorem dX4_begin_39 : decode cX4_begin 39 = .ok (.iconst 0, 1) := by decide +kernel
theorem dX4_begin_40 : decode cX4_begin 40 = .ok (.putfield 68, 3) := by decide +kernel
theorem dX4_begin_43 : decode cX4_begin 43 = .ok (.return_, 1) := by decide +kernel
theorem dX10_header_0 : decode cX10_header 0 = .ok (.aload_n 0, 1) := by decide +kernel
theorem dX10_header_1 : decode cX10_header 1 = .ok (.getfield 30, 3) := by decide +kernel
theorem dX10_header_4 : decode cX10_header 4 = .ok (.getfield 126, 3) := by decide +kernel
theorem dX10_header_7 : decode cX10_header 7 = .ok (.ifCond .eq 13, 3) := by decide +kernel
theorem dX10_header_10 : decode cX10_header 10 = .ok (.iload_n 1, 1) := by decide +kernel
theorem dX10_header_11 : decode cX10_header 11 = .ok (.iconst 0, 1) := by decide +kernel
theorem dX10_header_12 : decode cX10_header 12 = .ok (.bipush 7, 2) := by decide +kernel
theorem dX10_header_14 : decode cX10_header 14 = .ok (.invokestatic 72, 3) := by decide +kernel
theorem dX10_header_17 : decode cX10_header 17 = .ok (.ifCond .ne 5, 3) := by decide +kernel
theorem dX10_header_20 : decode cX10_header 20 = .ok (.iconst (-1), 1) := by decide +kernel
theorem dX10_header_21 : decode cX10_header 21 = .ok (.ireturn, 1) := by decide +kernel
theorem dX10_header_22 : decode cX10_header 22 = .ok (.aload_n 0, 1) := by decide +kernel
theorem dX10_header_23 : decode cX10_header 23 = .ok (.getfield 30, 3) := by decide +kernel
theorem dX10_header_26 : decode cX10_header 26 = .ok (.iload_n 1, 1) := by decide +kernel
theorem dX10_header_27 : decode cX10_header 27 = .ok (.invokevirtual 127, 3) := by decide +kernel
theorem dX10_header_30 : decode cX10_header 30 = .ok (.ireturn, 1) := by decide +kernel
theorem dX4_appendHeader_0 : decode cX4_appendHeader 0 = .ok (.aload_n 0, 1) := by decide +kernel
theorem dX4_appendHeader_1 : decode cX4_appendHeader 1 = .ok (.getfield 59, 3) := by decide +kernel
theorem dX4_appendHeader_4 : decode cX4_appendHeader 4 = .ok (.bipush 6, 2) := by decide +kernel
theorem dX4_appendHeader_6 : decode cX4_appendHeader 6 = .ok (.if_icmp .lt 6, 3) := by decide +kernel
theorem dX4_appendHeader_9 : decode cX4_appendHeader 9 = .ok (.bipush (-2), 2) := by decide +kernel
theorem dX4_appendHeader_11 : decode cX4_appendHeader 11 = .ok (.ireturn, 1) := by decide +kernel
theorem dX4_appendHeader_12 : decode cX4_appendHeader 12 = .ok (.aload_n 0, 1) := by decide +kernel
theorem dX4_appendHeader_13 : decode cX4_appendHeader 13 = .ok (.getfield 9, 3) := by decide +kernel
theorem dX4_appendHeader_16 : decode cX4_appendHeader 16 = .ok (.aload_n 0, 1) := by decide +kernel
theorem dX4_appendHeader_17 : decode cX4_appendHeader 17 = .ok (.getfield 59, 3) := by decide +kernel
theorem dX4_appendHeader_20 : decode cX4_appendHeader 20 = .ok (.iload_n 1, 1) := by decide +kernel
theorem dX4_appendHeader_21 : decode cX4_appendHeader 21 = .ok (.iastore, 1) := by decide +kernel
theorem dX4_appendHeader_22 : decode cX4_appendHeader 22 = .ok (.aload_n 0, 1) := by decide +kernel
theorem dX4_appendHeader_23 : decode cX4_appendHeader 23 = .ok (.getfield 17, 3) := by decide +kernel
theorem dX4_appendHeader_26 : decode cX4_appendHeader 26 = .ok (.aload_n 0, 1) := by decide +kernel
theorem dX4_appendHeader_27 : decode cX4_appendHeader 27 = .ok (.getfield 59, 3) := by decide +kernel
theorem dX4_appendHeader_30 : decode cX4_appendHeader 30 = .ok (.aaload, 1) := by decide +kernel
theorem dX4_appendHeader_31 : decode cX4_appendHeader 31 = .ok (.iconst 0, 1) := by decide +kernel
theorem dX4_appendHeader_32 : decode cX4_appendHeader 32 = .ok (.putfield 62, 3) := by decide +kernel
theorem dX4_appendHeader_35 : decode cX4_appendHeader 35 = .ok (.aload_n 0, 1) := by decide +kernel
theorem dX4_appendHeader_36 : decode cX4_appendHeader 36 = .ok (.dup, 1) := by decide +kernel
theorem dX4_appendHeader_37 : decode cX4_appendHeader 37 = .ok (.getfield 59, 3) := by decide +kernel
theorem dX4_appendHeader_40 : decode cX4_appendHeader 40 = .ok (.iconst 1, 1) := by decide +kernel
theorem dX4_appendHeader_41 : decode cX4_appendHeader 41 = .ok (.iadd, 1) := by decide +kernel
theorem dX4_appendHeader_42 : decode cX4_appendHeader 42 = .ok (.putfield 59, 3) := by decide +kernel
theorem dX4_appendHeader_45 : decode cX4_appendHeader 45 = .ok (.aload_n 0, 1) := by decide +kernel
theorem dX4_appendHeader_46 : decode cX4_appendHeader 46 = .ok (.getfield 59, 3) := by decide +kernel
theorem dX4_appendHeader_49 : decode cX4_appendHeader 49 = .ok (.iconst 1, 1) := by decide +kernel
theorem dX4_appendHeader_50 : decode cX4_appendHeader 50 = .ok (.isub, 1) := by decide +kernel
theorem dX4_appendHeader_51 : decode cX4_appendHeader 51 = .ok (.ireturn, 1) := by decide +kernel
theorem dX10_type_0 : decode cX10_type 0 = .ok (.aload_n 0, 1) := by decide +kernel
theorem dX10_type_1 : decode cX10_type 1 = .ok (.getfield 30, 3) := by decide +kernel
theorem dX10_type_4 : decode cX10_type 4 = .ok (.iload_n 1, 1) := by decide +kernel
theorem dX10_type_5 : decode cX10_type 5 = .ok (.invokevirtual 130, 3) := by decide +kernel
theorem dX10_type_8 : decode cX10_type 8 = .ok (.astore 5, 2) := by decide +kernel
theorem dX10_type_10 : decode cX10_type 10 = .ok (.aload 5, 2) := by decide +kernel
theorem dX10_type_12 : decode cX10_type 12 = .ok (.ifnull 33, 3) := by decide +kernel
theorem dX10_type_15 : decode cX10_type 15 = .ok (.iload 4, 2) := by decide +kernel
theorem dX10_type_17 : decode cX10_type 17 = .ok (.iconst 1, 1) := by decide +kernel
theorem dX10_type_18 : decode cX10_type 18 = .ok (.bipush 8, 2) := by decide +kernel
theorem dX10_type_20 : decode cX10_type 20 = .ok (.invokestatic 72, 3) := by decide +kernel
theorem dX10_type_23 : decode cX10_type 23 = .ok (.ifCond .eq 22, 3) := by decide +kernel
theorem dX10_type_26 : decode cX10_type 26 = .ok (.lload_n 2, 1) := by decide +kernel
theorem dX10_type_27 : decode cX10_type 27 = .ok (.iload 4, 2) := by decide +kernel
theorem dX10_type_29 : decode cX10_type 29 = .ok (.iload_n 1, 1) := by decide +kernel
theorem dX10_type_30 : decode cX10_type 30 = .ok (.iconst (-1), 1) := by decide +kernel
theorem dX10_type_31 : decode cX10_type 31 = .ok (.if_icmp .ne 7, 3) := by decide +kernel
theorem dX10_type_34 : decode cX10_type 34 = .ok (.iconst 1, 1) := by decide +kernel
theorem dX10_type_35 : decode cX10_type 35 = .ok (.goto 4, 3) := by decide +kernel
theorem dX10_type_38 : decode cX10_type 38 = .ok (.iconst 0, 1) := by decide +kernel
theorem dX10_type_39 : decode cX10_type 39 = .ok (.invokestatic 134, 3) := by decide +kernel
theorem dX10_type_42 : decode cX10_type 42 = .ok (.ifCond .ne 5, 3) := by decide +kernel
theorem dX10_type_45 : decode cX10_type 45 = .ok (.iconst (-1), 1) := by decide +kernel
theorem dX10_type_46 : decode cX10_type 46 = .ok (.ireturn, 1) := by decide +kernel
theorem dX10_type_47 : decode cX10_type 47 = .ok (.aload 5, 2) := by decide +kernel
theorem dX10_type_49 : decode cX10_type 49 = .ok (.lload_n 2, 1) := by decide +kernel
theorem dX10_type_50 : decode cX10_type 50 = .ok (.iload 4, 2) := by decide +kernel
theorem dX10_type_52 : decode cX10_type 52 = .ok (.invokevirtual 138, 3) := by decide +kernel
theorem dX10_type_55 : decode cX10_type 55 = .ok (.ireturn, 1) := by decide +kernel
theorem dX4_partAt_0 : decode cX4_partAt 0 = .ok (.aload_n 0, 1) := by decide +kernel
theorem dX4_partAt_1 : decode cX4_partAt 1 = .ok (.getfield 55, 3) := by decide +kernel
theorem dX4_partAt_4 : decode cX4_partAt 4 = .ok (.ifCond .eq 13, 3) := by decide +kernel
theorem dX4_partAt_7 : decode cX4_partAt 7 = .ok (.iload_n 1, 1) := by decide +kernel
theorem dX4_partAt_8 : decode cX4_partAt 8 = .ok (.iconst (-1), 1) := by decide +kernel
theorem dX4_partAt_9 : decode cX4_partAt 9 = .ok (.if_icmp .ne 8, 3) := by decide +kernel
theorem dX4_partAt_12 : decode cX4_partAt 12 = .ok (.aload_n 0, 1) := by decide +kernel
theorem dX4_partAt_13 : decode cX4_partAt 13 = .ok (.getfield 24, 3) := by decide +kernel
theorem dX4_partAt_16 : decode cX4_partAt 16 = .ok (.areturn, 1) := by decide +kernel
theorem dX4_partAt_17 : decode cX4_partAt 17 = .ok (.iload_n 1, 1) := by decide +kernel
theorem dX4_partAt_18 : decode cX4_partAt 18 = .ok (.iconst 0, 1) := by decide +kernel
theorem dX4_partAt_19 : decode cX4_partAt 19 = .ok (.aload_n 0, 1) := by decide +kernel
theorem dX4_partAt_20 : decode cX4_partAt 20 = .ok (.getfield 59, 3) := by decide +kernel
theorem dX4_partAt_23 : decode cX4_partAt 23 = .ok (.iconst 1, 1) := by decide +kernel
theorem dX4_partAt_24 : decode cX4_partAt 24 = .ok (.isub, 1) := by decide +kernel
theorem dX4_partAt_25 : decode cX4_partAt 25 = .ok (.invokestatic 71, 3) := by decide +kernel
theorem dX4_partAt_28 : decode cX4_partAt 28 = .ok (.ifCond .eq 12, 3) := by decide +kernel
theorem dX4_partAt_31 : decode cX4_partAt 31 = .ok (.aload_n 0, 1) := by decide +kernel
theorem dX4_partAt_32 : decode cX4_partAt 32 = .ok (.getfield 17, 3) := by decide +kernel
theorem dX4_partAt_35 : decode cX4_partAt 35 = .ok (.iload_n 1, 1) := by decide +kernel
theorem dX4_partAt_36 : decode cX4_partAt 36 = .ok (.aaload, 1) := by decide +kernel
theorem dX4_partAt_37 : decode cX4_partAt 37 = .ok (.goto 4, 3) := by decide +kernel
theorem dX4_partAt_40 : decode cX4_partAt 40 = .ok (.aconst_null, 1) := by decide +kernel
theorem dX4_partAt_41 : decode cX4_partAt 41 = .ok (.areturn, 1) := by decide +kernel
theorem dX10_areAllowed_0 : decode cX10_areAllowed 0 = .ok (.iconst 0, 1) := by decide +kernel
theorem dX10_areAllowed_1 : decode cX10_areAllowed 1 = .ok (.istore 4, 2) := by decide +kernel
theorem dX10_areAllowed_3 : decode cX10_areAllowed 3 = .ok (.iload 4, 2) := by decide +kernel
theorem dX10_areAllowed_5 : decode cX10_areAllowed 5 = .ok (.iload_n 2, 1) := by decide +kernel
theorem dX10_areAllowed_6 : decode cX10_areAllowed 6 = .ok (.if_icmp .ge 53, 3) := by decide +kernel
theorem dX10_areAllowed_9 : decode cX10_areAllowed 9 = .ok (.lload_n 0, 1) := by decide +kernel
theorem dX10_areAllowed_10 : decode cX10_areAllowed 10 = .ok (.iload 4, 2) := by decide +kernel
theorem dX10_areAllowed_12 : decode cX10_areAllowed 12 = .ok (.invokestatic 237, 3) := by decide +kernel
theorem dX10_areAllowed_15 : decode cX10_areAllowed 15 = .ok (.istore 5, 2) := by decide +kernel
theorem dX10_areAllowed_17 : decode cX10_areAllowed 17 = .ok (.iload 5, 2) := by decide +kernel
theorem dX10_areAllowed_19 : decode cX10_areAllowed 19 = .ok (.bipush 32, 2) := by decide +kernel
theorem dX10_areAllowed_21 : decode cX10_areAllowed 21 = .ok (.bipush 126, 2) := by decide +kernel
theorem dX10_areAllowed_23 : decode cX10_areAllowed 23 = .ok (.invokestatic 72, 3) := by decide +kernel
theorem dX10_areAllowed_26 : decode cX10_areAllowed 26 = .ok (.istore 6, 2) := by decide +kernel
theorem dX10_areAllowed_28 : decode cX10_areAllowed 28 = .ok (.iload 6, 2) := by decide +kernel
theorem dX10_areAllowed_30 : decode cX10_areAllowed 30 = .ok (.ifCond .ne 23, 3) := by decide +kernel
theorem dX10_areAllowed_33 : decode cX10_areAllowed 33 = .ok (.iload 5, 2) := by decide +kernel
theorem dX10_areAllowed_35 : decode cX10_areAllowed 35 = .ok (.bipush 9, 2) := by decide +kernel
theorem dX10_areAllowed_37 : decode cX10_areAllowed 37 = .ok (.if_icmp .eq 16, 3) := by decide +kernel
theorem dX10_areAllowed_40 : decode cX10_areAllowed 40 = .ok (.iload_n 3, 1) := by decide +kernel
theorem dX10_areAllowed_41 : decode cX10_areAllowed 41 = .ok (.ifCond .eq 10, 3) := by decide +kernel
theorem dX10_areAllowed_44 : decode cX10_areAllowed 44 = .ok (.iload 5, 2) := by decide +kernel
theorem dX10_areAllowed_46 : decode cX10_areAllowed 46 = .ok (.bipush 10, 2) := by decide +kernel
theorem dX10_areAllowed_48 : decode cX10_areAllowed 48 = .ok (.if_icmp .eq 5, 3) := by decide +kernel
theorem dX10_areAllowed_51 : decode cX10_areAllowed 51 = .ok (.iconst 0, 1) := by decide +kernel
theorem dX10_areAllowed_52 : decode cX10_areAllowed 52 = .ok (.ireturn, 1) := by decide +kernel
theorem dX10_areAllowed_53 : decode cX10_areAllowed 53 = .ok (.iinc 4 1, 3) := by decide +kernel
theorem dX10_areAllowed_56 : decode cX10_areAllowed 56 = .ok (.goto (-53), 3) := by decide +kernel
theorem dX10_areAllowed_59 : decode cX10_areAllowed 59 = .ok (.iconst 1, 1) := by decide +kernel
theorem dX10_areAllowed_60 : decode cX10_areAllowed 60 = .ok (.ireturn, 1) := by decide +kernel
theorem dX10_byteAt_0 : decode cX10_byteAt 0 = .ok (.lload_n 0, 1) := by decide +kernel
theorem dX10_byteAt_1 : decode cX10_byteAt 1 = .ok (.bipush 8, 2) := by decide +kernel
theorem dX10_byteAt_3 : decode cX10_byteAt 3 = .ok (.iload_n 2, 1) := by decide +kernel
theorem dX10_byteAt_4 : decode cX10_byteAt 4 = .ok (.imul, 1) := by decide +kernel
theorem dX10_byteAt_5 : decode cX10_byteAt 5 = .ok (.lushr, 1) := by decide +kernel
theorem dX10_byteAt_6 : decode cX10_byteAt 6 = .ok (.l2i, 1) := by decide +kernel
theorem dX10_byteAt_7 : decode cX10_byteAt 7 = .ok (.sipush 255, 3) := by decide +kernel
theorem dX10_byteAt_10 : decode cX10_byteAt 10 = .ok (.iand, 1) := by decide +kernel
theorem dX10_byteAt_11 : decode cX10_byteAt 11 = .ok (.ireturn, 1) := by decide +kernel
theorem dX9_appendBytes_0 : decode cX9_appendBytes 0 = .ok (.aload_n 0, 1) := by decide +kernel
theorem dX9_appendBytes_1 : decode cX9_appendBytes 1 = .ok (.getfield 15, 3) := by decide +kernel
theorem dX9_appendBytes_4 : decode cX9_appendBytes 4 = .ok (.iload_n 3, 1) := by decide +kernel
theorem dX9_appendBytes_5 : decode cX9_appendBytes 5 = .ok (.iadd, 1) := by decide +kernel
theorem dX9_appendBytes_6 : decode cX9_appendBytes 6 = .ok (.aload_n 0, 1) := by decide +kernel
theorem dX9_appendBytes_7 : decode cX9_appendBytes 7 = .ok (.getfield 9, 3) := by decide +kernel
theorem dX9_appendBytes_10 : decode cX9_appendBytes 10 = .ok (.arraylength, 1) := by decide +kernel
theorem dX9_appendBytes_11 : decode cX9_appendBytes 11 = .ok (.if_icmp .le 6, 3) := by decide +kernel
theorem dX9_appendBytes_14 : decode cX9_appendBytes 14 = .ok (.bipush (-2), 2) := by decide +kernel
theorem dX9_appendBytes_16 : decode cX9_appendBytes 16 = .ok (.ireturn, 1) := by decide +kernel
theorem dX9_appendBytes_17 : decode cX9_appendBytes 17 = .ok (.iload_n 3, 1) := by decide +kernel
theorem dX9_appendBytes_18 : decode cX9_appendBytes 18 = .ok (.iconst 1, 1) := by decide +kernel
theorem dX9_appendBytes_19 : decode cX9_appendBytes 19 = .ok (.isub, 1) := by decide +kernel
theorem dX9_appendBytes_20 : decode cX9_appendBytes 20 = .ok (.istore 4, 2) := by decide +kernel
theorem dX9_appendBytes_22 : decode cX9_appendBytes 22 = .ok (.iload 4, 2) := by decide +kernel
theorem dX9_appendBytes_24 : decode cX9_appendBytes 24 = .ok (.ifCond .lt 19, 3) := by decide +kernel
theorem dX9_appendBytes_27 : decode cX9_appendBytes 27 = .ok (.aload_n 0, 1) := by decide +kernel
theorem dX9_appendBytes_28 : decode cX9_appendBytes 28 = .ok (.lload_n 1, 1) := by decide +kernel
theorem dX9_appendBytes_29 : decode cX9_appendBytes 29 = .ok (.iload 4, 2) := by decide +kernel
theorem dX9_appendBytes_31 : decode cX9_appendBytes 31 = .ok (.invokestatic 19, 3) := by decide +kernel
theorem dX9_appendBytes_34 : decode cX9_appendBytes 34 = .ok (.invokevirtual 23, 3) := by decide +kernel
theorem dX9_appendBytes_37 : decode cX9_appendBytes 37 = .ok (.iinc 4 (-1), 3) := by decide +kernel
theorem dX9_appendBytes_40 : decode cX9_appendBytes 40 = .ok (.goto (-18), 3) := by decide +kernel
theorem dX9_appendBytes_43 : decode cX9_appendBytes 43 = .ok (.aload_n 0, 1) := by decide +kernel
theorem dX9_appendBytes_44 : decode cX9_appendBytes 44 = .ok (.getfield 15, 3) := by decide +kernel
theorem dX9_appendBytes_47 : decode cX9_appendBytes 47 = .ok (.ireturn, 1) := by decide +kernel
theorem dX9_append_0 : decode cX9_append 0 = .ok (.aload_n 0, 1) := by decide +kernel
theorem dX9_append_1 : decode cX9_append 1 = .ok (.getfield 15, 3) := by decide +kernel
theorem dX9_append_4 : decode cX9_append 4 = .ok (.aload_n 0, 1) := by decide +kernel
theorem dX9_append_5 : decode cX9_append 5 = .ok (.getfield 9, 3) := by decide +kernel
theorem dX9_append_8 : decode cX9_append 8 = .ok (.arraylength, 1) := by decide +kernel
theorem dX9_append_9 : decode cX9_append 9 = .ok (.if_icmp .ge 23, 3) := by decide +kernel
theorem dX9_append_12 : decode cX9_append 12 = .ok (.aload_n 0, 1) := by decide +kernel
theorem dX9_append_13 : decode cX9_append 13 = .ok (.getfield 9, 3) := by decide +kernel
theorem dX9_append_16 : decode cX9_append 16 = .ok (.aload_n 0, 1) := by decide +kernel
theorem dX9_append_17 : decode cX9_append 17 = .ok (.getfield 15, 3) := by decide +kernel
theorem dX9_append_20 : decode cX9_append 20 = .ok (.iload_n 1, 1) := by decide +kernel
theorem dX9_append_21 : decode cX9_append 21 = .ok (.iastore, 1) := by decide +kernel
theorem dX9_append_22 : decode cX9_append 22 = .ok (.aload_n 0, 1) := by decide +kernel
theorem dX9_append_23 : decode cX9_append 23 = .ok (.dup, 1) := by decide +kernel
theorem dX9_append_24 : decode cX9_append 24 = .ok (.getfield 15, 3) := by decide +kernel
theorem dX9_append_27 : decode cX9_append 27 = .ok (.iconst 1, 1) := by decide +kernel
theorem dX9_append_28 : decode cX9_append 28 = .ok (.iadd, 1) := by decide +kernel
theorem dX9_append_29 : decode cX9_append 29 = .ok (.putfield 15, 3) := by decide +kernel
theorem dX9_append_32 : decode cX9_append 32 = .ok (.return_, 1) := by decide +kernel
theorem dX10_length_0 : decode cX10_length 0 = .ok (.aload_n 0, 1) := by decide +kernel
theorem dX10_length_1 : decode cX10_length 1 = .ok (.getfield 30, 3) := by decide +kernel
theorem dX10_length_4 : decode cX10_length 4 = .ok (.iload_n 1, 1) := by decide +kernel
theorem dX10_length_5 : decode cX10_length 5 = .ok (.invokevirtual 130, 3) := by decide +kernel
theorem dX10_length_8 : decode cX10_length 8 = .ok (.astore_n 3, 1) := by decide +kernel
theorem dX10_length_9 : decode cX10_length 9 = .ok (.aload_n 3, 1) := by decide +kernel
theorem dX10_length_10 : decode cX10_length 10 = .ok (.ifnonnull 5, 3) := by decide +kernel
theorem dX10_length_13 : decode cX10_length 13 = .ok (.iconst (-1), 1) := by decide +kernel
theorem dX10_length_14 : decode cX10_length 14 = .ok (.ireturn, 1) := by decide +kernel
theorem dX10_length_15 : decode cX10_length 15 = .ok (.iload_n 1, 1) := by decide +kernel
theorem dX10_length_16 : decode cX10_length 16 = .ok (.iconst (-1), 1) := by decide +kernel
theorem dX10_length_17 : decode cX10_length 17 = .ok (.if_icmp .ne 17, 3) := by decide +kernel
theorem dX10_length_20 : decode cX10_length 20 = .ok (.aload_n 0, 1) := by decide +kernel
theorem dX10_length_21 : decode cX10_length 21 = .ok (.getfield 30, 3) := by decide +kernel
theorem dX10_length_24 : decode cX10_length 24 = .ok (.iload_n 2, 1) := by decide +kernel
theorem dX10_length_25 : decode cX10_length 25 = .ok (.invokevirtual 144, 3) := by decide +kernel
theorem dX10_length_28 : decode cX10_length 28 = .ok (.getfield 148, 3) := by decide +kernel
theorem dX10_length_31 : decode cX10_length 31 = .ok (.goto 15, 3) := by decide +kernel
theorem dX10_length_34 : decode cX10_length 34 = .ok (.aload_n 0, 1) := by decide +kernel
theorem dX10_length_35 : decode cX10_length 35 = .ok (.getfield 30, 3) := by decide +kernel
theorem dX10_length_38 : decode cX10_length 38 = .ok (.aload_n 3, 1) := by decide +kernel
theorem dX10_length_39 : decode cX10_length 39 = .ok (.iload_n 2, 1) := by decide +kernel
theorem dX10_length_40 : decode cX10_length 40 = .ok (.invokevirtual 151, 3) := by decide +kernel
theorem dX10_length_43 : decode cX10_length 43 = .ok (.getfield 148, 3) := by decide +kernel
theorem dX10_length_46 : decode cX10_length 46 = .ok (.ireturn, 1) := by decide +kernel
theorem dX4_bodyForm_0 : decode cX4_bodyForm 0 = .ok (.iload_n 1, 1) := by decide +kernel
theorem dX4_bodyForm_1 : decode cX4_bodyForm 1 = .ok (.ifCond .eq 18, 3) := by decide +kernel
theorem dX4_bodyForm_4 : decode cX4_bodyForm 4 = .ok (.aload_n 0, 1) := by decide +kernel
theorem dX4_bodyForm_5 : decode cX4_bodyForm 5 = .ok (.getfield 28, 3) := by decide +kernel
theorem dX4_bodyForm_8 : decode cX4_bodyForm 8 = .ok (.aload_n 0, 1) := by decide +kernel
theorem dX4_bodyForm_9 : decode cX4_bodyForm 9 = .ok (.getfield 24, 3) := by decide +kernel
theorem dX4_bodyForm_12 : decode cX4_bodyForm 12 = .ok (.iconst 1, 1) := by decide +kernel
theorem dX4_bodyForm_13 : decode cX4_bodyForm 13 = .ok (.invokevirtual 75, 3) := by decide +kernel
theorem dX4_bodyForm_16 : decode cX4_bodyForm 16 = .ok (.goto 14, 3) := by decide +kernel
theorem dX4_bodyForm_19 : decode cX4_bodyForm 19 = .ok (.aload_n 0, 1) := by decide +kernel
theorem dX4_bodyForm_20 : decode cX4_bodyForm 20 = .ok (.getfield 28, 3) := by decide +kernel
theorem dX4_bodyForm_23 : decode cX4_bodyForm 23 = .ok (.aload_n 0, 1) := by decide +kernel
theorem dX4_bodyForm_24 : decode cX4_bodyForm 24 = .ok (.getfield 24, 3) := by decide +kernel
theorem dX4_bodyForm_27 : decode cX4_bodyForm 27 = .ok (.invokevirtual 79, 3) := by decide +kernel
theorem dX4_bodyForm_30 : decode cX4_bodyForm 30 = .ok (.aload_n 0, 1) := by decide +kernel
theorem dX4_bodyForm_31 : decode cX4_bodyForm 31 = .ok (.getfield 28, 3) := by decide +kernel
theorem dX4_bodyForm_34 : decode cX4_bodyForm 34 = .ok (.invokevirtual 83, 3) := by decide +kernel
theorem dX4_bodyForm_37 : decode cX4_bodyForm 37 = .ok (.aload_n 0, 1) := by decide +kernel
theorem dX4_bodyForm_38 : decode cX4_bodyForm 38 = .ok (.getfield 28, 3) := by decide +kernel
theorem dX4_bodyForm_41 : decode cX4_bodyForm 41 = .ok (.areturn, 1) := by decide +kernel
theorem dX9_becomeRelaxed_0 : decode cX9_becomeRelaxed 0 = .ok (.aload_n 0, 1) := by decide +kernel
theorem dX9_becomeRelaxed_1 : decode cX9_becomeRelaxed 1 = .ok (.iconst 0, 1) := by decide +kernel
theorem dX9_becomeRelaxed_2 : decode cX9_becomeRelaxed 2 = .ok (.putfield 15, 3) := by decide +kernel
theorem dX9_becomeRelaxed_5 : decode cX9_becomeRelaxed 5 = .ok (.iconst 0, 1) := by decide +kernel
theorem dX9_becomeRelaxed_6 : decode cX9_becomeRelaxed 6 = .ok (.istore_n 3, 1) := by decide +kernel
theorem dX9_becomeRelaxed_7 : decode cX9_becomeRelaxed 7 = .ok (.iconst 0, 1) := by decide +kernel
theorem dX9_becomeRelaxed_8 : decode cX9_becomeRelaxed 8 = .ok (.istore 4, 2) := by decide +kernel
theorem dX9_becomeRelaxed_10 : decode cX9_becomeRelaxed 10 = .ok (.iload 4, 2) := by decide +kernel
theorem dX9_becomeRelaxed_12 : decode cX9_becomeRelaxed 12 = .ok (.aload_n 1, 1) := by decide +kernel
theorem dX9_becomeRelaxed_13 : decode cX9_becomeRelaxed 13 = .ok (.getfield 15, 3) := by decide +kernel
theorem dX9_becomeRelaxed_16 : decode cX9_becomeRelaxed 16 = .ok (.if_icmp .ge 67, 3) := by decide +kernel
theorem dX9_becomeRelaxed_19 : decode cX9_becomeRelaxed 19 = .ok (.aload_n 1, 1) := by decide +kernel
theorem dX9_becomeRelaxed_20 : decode cX9_becomeRelaxed 20 = .ok (.getfield 9, 3) := by decide +kernel
theorem dX9_becomeRelaxed_23 : decode cX9_becomeRelaxed 23 = .ok (.iload 4, 2) := by decide +kernel
theorem dX9_becomeRelaxed_25 : decode cX9_becomeRelaxed 25 = .ok (.iaload, 1) := by decide +kernel
theorem dX9_becomeRelaxed_26 : decode cX9_becomeRelaxed 26 = .ok (.istore 5, 2) := by decide +kernel
theorem dX9_becomeRelaxed_28 : decode cX9_becomeRelaxed 28 = .ok (.iload 5, 2) := by decide +kernel
theorem dX9_becomeRelaxed_30 : decode cX9_becomeRelaxed 30 = .ok (.invokestatic 27, 3) := by decide +kernel
theorem dX9_becomeRelaxed_33 : decode cX9_becomeRelaxed 33 = .ok (.ifCond .eq 8, 3) := by decide +kernel
theorem dX9_becomeRelaxed_36 : decode cX9_becomeRelaxed 36 = .ok (.iconst 1, 1) := by decide +kernel
theorem dX9_becomeRelaxed_37 : decode cX9_becomeRelaxed 37 = .ok (.istore_n 3, 1) := by decide +kernel
theorem dX9_becomeRelaxed_38 : decode cX9_becomeRelaxed 38 = .ok (.goto 39, 3) := by decide +kernel
theorem dX9_becomeRelaxed_41 : decode cX9_becomeRelaxed 41 = .ok (.iload_n 3, 1) := by decide +kernel
theorem dX9_becomeRelaxed_42 : decode cX9_becomeRelaxed 42 = .ok (.ifCond .eq 27, 3) := by decide +kernel
theorem dX9_becomeRelaxed_45 : decode cX9_becomeRelaxed 45 = .ok (.iload 5, 2) := by decide +kernel
theorem dX9_becomeRelaxed_47 : decode cX9_becomeRelaxed 47 = .ok (.bipush 10, 2) := by decide +kernel
theorem dX9_becomeRelaxed_49 : decode cX9_becomeRelaxed 49 = .ok (.if_icmp .eq 20, 3) := by decide +kernel
theorem dX9_becomeRelaxed_52 : decode cX9_becomeRelaxed 52 = .ok (.iload_n 2, 1) := by decide +kernel
theorem dX9_becomeRelaxed_53 : decode cX9_becomeRelaxed 53 = .ok (.ifCond .ne 10, 3) := by decide +kernel
theorem dX9_becomeRelaxed_56 : decode cX9_becomeRelaxed 56 = .ok (.aload_n 0, 1) := by decide +kernel
theorem dX9_becomeRelaxed_57 : decode cX9_becomeRelaxed 57 = .ok (.getfield 15, 3) := by decide +kernel
theorem dX9_becomeRelaxed_60 : decode cX9_becomeRelaxed 60 = .ok (.ifCond .le 9, 3) := by decide +kernel
theorem dX9_becomeRelaxed_63 : decode cX9_becomeRelaxed 63 = .ok (.aload_n 0, 1) := by decide +kernel
theorem dX9_becomeRelaxed_64 : decode cX9_becomeRelaxed 64 = .ok (.bipush 32, 2) := by decide +kernel
theorem dX9_becomeRelaxed_66 : decode cX9_becomeRelaxed 66 = .ok (.invokevirtual 23, 3) := by decide +kernel
theorem dX9_becomeRelaxed_69 : decode cX9_becomeRelaxed 69 = .ok (.iconst 0, 1) := by decide +kernel
theorem dX9_becomeRelaxed_70 : decode cX9_becomeRelaxed 70 = .ok (.istore_n 3, 1) := by decide +kernel
theorem dX9_becomeRelaxed_71 : decode cX9_becomeRelaxed 71 = .ok (.aload_n 0, 1) := by decide +kernel
theorem dX9_becomeRelaxed_72 : decode cX9_becomeRelaxed 72 = .ok (.iload 5, 2) := by decide +kernel
theorem dX9_becomeRelaxed_74 : decode cX9_becomeRelaxed 74 = .ok (.invokevirtual 23, 3) := by decide +kernel
theorem dX9_becomeRelaxed_77 : decode cX9_becomeRelaxed 77 = .ok (.iinc 4 1, 3) := by decide +kernel
theorem dX9_becomeRelaxed_80 : decode cX9_becomeRelaxed 80 = .ok (.goto (-70), 3) := by decide +kernel
theorem dX9_becomeRelaxed_83 : decode cX9_becomeRelaxed 83 = .ok (.return_, 1) := by decide +kernel
