theorem dX11_isBlank_0 : decode cX11_isBlank 0 = .ok (.iload_n 0, 1) := by decide +kernel
theorem dX11_isBlank_1 : decode cX11_isBlank 1 = .ok (.bipush 9, 2) := by decide +kernel
theorem dX11_isBlank_3 : decode cX11_isBlank 3 = .ok (.if_icmp .eq 9, 3) := by decide +kernel
theorem dX11_isBlank_6 : decode cX11_isBlank 6 = .ok (.iload_n 0, 1) := by decide +kernel
theorem dX11_isBlank_7 : decode cX11_isBlank 7 = .ok (.bipush 32, 2) := by decide +kernel
theorem dX11_isBlank_9 : decode cX11_isBlank 9 = .ok (.if_icmp .ne 7, 3) := by decide +kernel
theorem dX11_isBlank_12 : decode cX11_isBlank 12 = .ok (.iconst 1, 1) := by decide +kernel
theorem dX11_isBlank_13 : decode cX11_isBlank 13 = .ok (.goto 4, 3) := by decide +kernel
theorem dX11_isBlank_16 : decode cX11_isBlank 16 = .ok (.iconst 0, 1) := by decide +kernel
theorem dX11_isBlank_17 : decode cX11_isBlank 17 = .ok (.ireturn, 1) := by decide +kernel
theorem dX11_add_0 : decode cX11_add 0 = .ok (.aload_n 0, 1) := by decide +kernel
theorem dX11_add_1 : decode cX11_add 1 = .ok (.getfield 104, 3) := by decide +kernel
theorem dX11_add_4 : decode cX11_add 4 = .ok (.aload_n 0, 1) := by decide +kernel
theorem dX11_add_5 : decode cX11_add 5 = .ok (.getfield 217, 3) := by decide +kernel
theorem dX11_add_8 : decode cX11_add 8 = .ok (.iload_n 1, 1) := by decide +kernel
theorem dX11_add_9 : decode cX11_add 9 = .ok (.iastore, 1) := by decide +kernel
theorem dX11_add_10 : decode cX11_add 10 = .ok (.aload_n 0, 1) := by decide +kernel
theorem dX11_add_11 : decode cX11_add 11 = .ok (.dup, 1) := by decide +kernel
theorem dX11_add_12 : decode cX11_add 12 = .ok (.getfield 217, 3) := by decide +kernel
theorem dX11_add_15 : decode cX11_add 15 = .ok (.iconst 1, 1) := by decide +kernel
theorem dX11_add_16 : decode cX11_add 16 = .ok (.iadd, 1) := by decide +kernel
theorem dX11_add_17 : decode cX11_add 17 = .ok (.putfield 217, 3) := by decide +kernel
theorem dX11_add_20 : decode cX11_add 20 = .ok (.return_, 1) := by decide +kernel
theorem dX11_makeHeader_0 : decode cX11_makeHeader 0 = .ok (.aload_n 0, 1) := by decide +kernel
theorem dX11_makeHeader_1 : decode cX11_makeHeader 1 = .ok (.iconst 0, 1) := by decide +kernel
theorem dX11_makeHeader_2 : decode cX11_makeHeader 2 = .ok (.putfield 217, 3) := by decide +kernel
theorem dX11_makeHeader_5 : decode cX11_makeHeader 5 = .ok (.iconst 0, 1) := by decide +kernel
theorem dX11_makeHeader_6 : decode cX11_makeHeader 6 = .ok (.istore_n 3, 1) := by decide +kernel
theorem dX11_makeHeader_7 : decode cX11_makeHeader 7 = .ok (.iconst 0, 1) := by decide +kernel
theorem dX11_makeHeader_8 : decode cX11_makeHeader 8 = .ok (.istore 4, 2) := by decide +kernel
theorem dX11_makeHeader_10 : decode cX11_makeHeader 10 = .ok (.iload 4, 2) := by decide +kernel
theorem dX11_makeHeader_12 : decode cX11_makeHeader 12 = .ok (.aload_n 0, 1) := by decide +kernel
theorem dX11_makeHeader_13 : decode cX11_makeHeader 13 = .ok (.getfield 65, 3) := by decide +kernel
theorem dX11_makeHeader_16 : decode cX11_makeHeader 16 = .ok (.iload_n 1, 1) := by decide +kernel
theorem dX11_makeHeader_17 : decode cX11_makeHeader 17 = .ok (.iaload, 1) := by decide +kernel
theorem dX11_makeHeader_18 : decode cX11_makeHeader 18 = .ok (.if_icmp .ge 69, 3) := by decide +kernel
theorem dX11_makeHeader_21 : decode cX11_makeHeader 21 = .ok (.aload_n 0, 1) := by decide +kernel
theorem dX11_makeHeader_22 : decode cX11_makeHeader 22 = .ok (.getfield 68, 3) := by decide +kernel
theorem dX11_makeHeader_25 : decode cX11_makeHeader 25 = .ok (.bipush 24, 2) := by decide +kernel
theorem dX11_makeHeader_27 : decode cX11_makeHeader 27 = .ok (.iload_n 1, 1) := by decide +kernel
theorem dX11_makeHeader_28 : decode cX11_makeHeader 28 = .ok (.imul, 1) := by decide +kernel
theorem dX11_makeHeader_29 : decode cX11_makeHeader 29 = .ok (.iload 4, 2) := by decide +kernel
theorem dX11_makeHeader_31 : decode cX11_makeHeader 31 = .ok (.iadd, 1) := by decide +kernel
theorem dX11_makeHeader_32 : decode cX11_makeHeader 32 = .ok (.iaload, 1) := by decide +kernel
theorem dX11_makeHeader_33 : decode cX11_makeHeader 33 = .ok (.istore 5, 2) := by decide +kernel
theorem dX11_makeHeader_35 : decode cX11_makeHeader 35 = .ok (.iload_n 2, 1) := by decide +kernel
theorem dX11_makeHeader_36 : decode cX11_makeHeader 36 = .ok (.ifCond .eq 27, 3) := by decide +kernel
theorem dX11_makeHeader_39 : decode cX11_makeHeader 39 = .ok (.iload 5, 2) := by decide +kernel
theorem dX11_makeHeader_41 : decode cX11_makeHeader 41 = .ok (.invokestatic 220, 3) := by decide +kernel
theorem dX11_makeHeader_44 : decode cX11_makeHeader 44 = .ok (.ifCond .eq 19, 3) := by decide +kernel
theorem dX11_makeHeader_47 : decode cX11_makeHeader 47 = .ok (.aload_n 0, 1) := by decide +kernel
theorem dX11_makeHeader_48 : decode cX11_makeHeader 48 = .ok (.getfield 217, 3) := by decide +kernel
theorem dX11_makeHeader_51 : decode cX11_makeHeader 51 = .ok (.ifCond .le 7, 3) := by decide +kernel
theorem dX11_makeHeader_54 : decode cX11_makeHeader 54 = .ok (.iconst 1, 1) := by decide +kernel
theorem dX11_makeHeader_55 : decode cX11_makeHeader 55 = .ok (.goto 4, 3) := by decide +kernel
theorem dX11_makeHeader_58 : decode cX11_makeHeader 58 = .ok (.iconst 0, 1) := by decide +kernel
theorem dX11_makeHeader_59 : decode cX11_makeHeader 59 = .ok (.istore_n 3, 1) := by decide +kernel
theorem dX11_makeHeader_60 : decode cX11_makeHeader 60 = .ok (.goto 21, 3) := by decide +kernel
theorem dX11_makeHeader_63 : decode cX11_makeHeader 63 = .ok (.iload_n 3, 1) := by decide +kernel
theorem dX11_makeHeader_64 : decode cX11_makeHeader 64 = .ok (.ifCond .eq 9, 3) := by decide +kernel
theorem dX11_makeHeader_67 : decode cX11_makeHeader 67 = .ok (.aload_n 0, 1) := by decide +kernel
theorem dX11_makeHeader_68 : decode cX11_makeHeader 68 = .ok (.bipush 32, 2) := by decide +kernel
theorem dX11_makeHeader_70 : decode cX11_makeHeader 70 = .ok (.invokevirtual 223, 3) := by decide +kernel
theorem dX11_makeHeader_73 : decode cX11_makeHeader 73 = .ok (.iconst 0, 1) := by decide +kernel
theorem dX11_makeHeader_74 : decode cX11_makeHeader 74 = .ok (.istore_n 3, 1) := by decide +kernel
theorem dX11_makeHeader_75 : decode cX11_makeHeader 75 = .ok (.aload_n 0, 1) := by decide +kernel
theorem dX11_makeHeader_76 : decode cX11_makeHeader 76 = .ok (.iload 5, 2) := by decide +kernel
theorem dX11_makeHeader_78 : decode cX11_makeHeader 78 = .ok (.invokevirtual 223, 3) := by decide +kernel
theorem dX11_makeHeader_81 : decode cX11_makeHeader 81 = .ok (.iinc 4 1, 3) := by decide +kernel
theorem dX11_makeHeader_84 : decode cX11_makeHeader 84 = .ok (.goto (-74), 3) := by decide +kernel
theorem dX11_makeHeader_87 : decode cX11_makeHeader 87 = .ok (.return_, 1) := by decide +kernel
theorem dX11_sign_0 : decode cX11_sign 0 = .ok (.aload_n 0, 1) := by decide +kernel
theorem dX11_sign_1 : decode cX11_sign 1 = .ok (.getfield 190, 3) := by decide +kernel
theorem dX11_sign_4 : decode cX11_sign 4 = .ok (.ifCond .eq 36, 3) := by decide +kernel
theorem dX11_sign_7 : decode cX11_sign 7 = .ok (.aload_n 0, 1) := by decide +kernel
theorem dX11_sign_8 : decode cX11_sign 8 = .ok (.iload_n 1, 1) := by decide +kernel
theorem dX11_sign_9 : decode cX11_sign 9 = .ok (.invokevirtual 132, 3) := by decide +kernel
theorem dX11_sign_12 : decode cX11_sign 12 = .ok (.ifCond .eq 28, 3) := by decide +kernel
theorem dX11_sign_15 : decode cX11_sign 15 = .ok (.iload_n 2, 1) := by decide +kernel
theorem dX11_sign_16 : decode cX11_sign 16 = .ok (.ifCond .lt 24, 3) := by decide +kernel
theorem dX11_sign_19 : decode cX11_sign 19 = .ok (.iload_n 2, 1) := by decide +kernel
theorem dX11_sign_20 : decode cX11_sign 20 = .ok (.bipush 7, 2) := by decide +kernel
theorem dX11_sign_22 : decode cX11_sign 22 = .ok (.if_icmp .gt 18, 3) := by decide +kernel
theorem dX11_sign_25 : decode cX11_sign 25 = .ok (.aload_n 0, 1) := by decide +kernel
theorem dX11_sign_26 : decode cX11_sign 26 = .ok (.getfield 47, 3) := by decide +kernel
theorem dX11_sign_29 : decode cX11_sign 29 = .ok (.iconst 2, 1) := by decide +kernel
theorem dX11_sign_30 : decode cX11_sign 30 = .ok (.iload_n 1, 1) := by decide +kernel
theorem dX11_sign_31 : decode cX11_sign 31 = .ok (.imul, 1) := by decide +kernel
theorem dX11_sign_32 : decode cX11_sign 32 = .ok (.iload_n 2, 1) := by decide +kernel
theorem dX11_sign_33 : decode cX11_sign 33 = .ok (.iconst 2, 1) := by decide +kernel
theorem dX11_sign_34 : decode cX11_sign 34 = .ok (.irem, 1) := by decide +kernel
theorem dX11_sign_35 : decode cX11_sign 35 = .ok (.iadd, 1) := by decide +kernel
theorem dX11_sign_36 : decode cX11_sign 36 = .ok (.iaload, 1) := by decide +kernel
theorem dX11_sign_37 : decode cX11_sign 37 = .ok (.ifCond .ne 5, 3) := by decide +kernel
theorem dX11_sign_40 : decode cX11_sign 40 = .ok (.iconst (-1), 1) := by decide +kernel
theorem dX11_sign_41 : decode cX11_sign 41 = .ok (.ireturn, 1) := by decide +kernel
theorem dX11_sign_42 : decode cX11_sign 42 = .ok (.iload_n 2, 1) := by decide +kernel
theorem dX11_sign_43 : decode cX11_sign 43 = .ok (.iconst 2, 1) := by decide +kernel
theorem dX11_sign_44 : decode cX11_sign 44 = .ok (.idiv, 1) := by decide +kernel
theorem dX11_sign_45 : decode cX11_sign 45 = .ok (.istore 6, 2) := by decide +kernel
theorem dX11_sign_47 : decode cX11_sign 47 = .ok (.iload_n 3, 1) := by decide +kernel
theorem dX11_sign_48 : decode cX11_sign 48 = .ok (.ifCond .lt 40, 3) := by decide +kernel
theorem dX11_sign_51 : decode cX11_sign 51 = .ok (.iload_n 3, 1) := by decide +kernel
theorem dX11_sign_52 : decode cX11_sign 52 = .ok (.sipush 255, 3) := by decide +kernel
theorem dX11_sign_55 : decode cX11_sign 55 = .ok (.if_icmp .gt 33, 3) := by decide +kernel
theorem dX11_sign_58 : decode cX11_sign 58 = .ok (.iload 4, 2) := by decide +kernel
theorem dX11_sign_60 : decode cX11_sign 60 = .ok (.iconst (-1), 1) := by decide +kernel
theorem dX11_sign_61 : decode cX11_sign 61 = .ok (.if_icmp .lt 27, 3) := by decide +kernel
theorem dX11_sign_64 : decode cX11_sign 64 = .ok (.iload 5, 2) := by decide +kernel
theorem dX11_sign_66 : decode cX11_sign 66 = .ok (.iconst (-1), 1) := by decide +kernel
theorem dX11_sign_67 : decode cX11_sign 67 = .ok (.if_icmp .lt 21, 3) := by decide +kernel
theorem dX11_sign_70 : decode cX11_sign 70 = .ok (.iload 5, 2) := by decide +kernel
theorem dX11_sign_72 : decode cX11_sign 72 = .ok (.ldc 252, 2) := by decide +kernel
theorem dX11_sign_74 : decode cX11_sign 74 = .ok (.if_icmp .gt 14, 3) := by decide +kernel
theorem dX11_sign_77 : decode cX11_sign 77 = .ok (.iload 4, 2) := by decide +kernel
theorem dX11_sign_79 : decode cX11_sign 79 = .ok (.aload_n 0, 1) := by decide +kernel
theorem dX11_sign_80 : decode cX11_sign 80 = .ok (.iload 6, 2) := by decide +kernel
theorem dX11_sign_82 : decode cX11_sign 82 = .ok (.invokevirtual 253, 3) := by decide +kernel
theorem dX11_sign_85 : decode cX11_sign 85 = .ok (.if_icmp .le 5, 3) := by decide +kernel
theorem dX11_sign_88 : decode cX11_sign 88 = .ok (.iconst (-1), 1) := by decide +kernel
theorem dX11_sign_89 : decode cX11_sign 89 = .ok (.ireturn, 1) := by decide +kernel
theorem dX11_sign_90 : decode cX11_sign 90 = .ok (.aload_n 0, 1) := by decide +kernel
theorem dX11_sign_91 : decode cX11_sign 91 = .ok (.getfield 206, 3) := by decide +kernel
theorem dX11_sign_94 : decode cX11_sign 94 = .ok (.iconst 3, 1) := by decide +kernel
theorem dX11_sign_95 : decode cX11_sign 95 = .ok (.if_icmp .ne 6, 3) := by decide +kernel
theorem dX11_sign_98 : decode cX11_sign 98 = .ok (.bipush (-2), 2) := by decide +kernel
theorem dX11_sign_100 : decode cX11_sign 100 = .ok (.ireturn, 1) := by decide +kernel
theorem dX11_sign_101 : decode cX11_sign 101 = .ok (.aload_n 0, 1) := by decide +kernel
theorem dX11_sign_102 : decode cX11_sign 102 = .ok (.aload_n 0, 1) := by decide +kernel
theorem dX11_sign_103 : decode cX11_sign 103 = .ok (.getfield 206, 3) := by decide +kernel
theorem dX11_sign_106 : decode cX11_sign 106 = .ok (.iload_n 1, 1) := by decide +kernel
theorem dX11_sign_107 : decode cX11_sign 107 = .ok (.iload_n 2, 1) := by decide +kernel
theorem dX11_sign_108 : decode cX11_sign 108 = .ok (.iconst 2, 1) := by decide +kernel
theorem dX11_sign_109 : decode cX11_sign 109 = .ok (.irem, 1) := by decide +kernel
theorem dX11_sign_110 : decode cX11_sign 110 = .ok (.iload 6, 2) := by decide +kernel
theorem dX11_sign_112 : decode cX11_sign 112 = .ok (.iload_n 3, 1) := by decide +kernel
theorem dX11_sign_113 : decode cX11_sign 113 = .ok (.iload 4, 2) := by decide +kernel
theorem dX11_sign_115 : decode cX11_sign 115 = .ok (.iload 5, 2) := by decide +kernel
theorem dX11_sign_117 : decode cX11_sign 117 = .ok (.ifCond .ge 7, 3) := by decide +kernel
theorem dX11_sign_120 : decode cX11_sign 120 = .ok (.iconst (-1), 1) := by decide +kernel
theorem dX11_sign_121 : decode cX11_sign 121 = .ok (.goto 10, 3) := by decide +kernel
theorem dX11_sign_124 : decode cX11_sign 124 = .ok (.aload_n 0, 1) := by decide +kernel
theorem dX11_sign_125 : decode cX11_sign 125 = .ok (.getfield 256, 3) := by decide +kernel
theorem dX11_sign_128 : decode cX11_sign 128 = .ok (.iload 5, 2) := by decide +kernel
theorem dX11_sign_130 : decode cX11_sign 130 = .ok (.iadd, 1) := by decide +kernel
theorem dX11_sign_131 : decode cX11_sign 131 = .ok (.invokevirtual 259, 3) := by decide +kernel
theorem dX11_sign_134 : decode cX11_sign 134 = .ok (.aload_n 0, 1) := by decide +kernel
theorem dX11_sign_135 : decode cX11_sign 135 = .ok (.dup, 1) := by decide +kernel
theorem dX11_sign_136 : decode cX11_sign 136 = .ok (.getfield 206, 3) := by decide +kernel
theorem dX11_sign_139 : decode cX11_sign 139 = .ok (.iconst 1, 1) := by decide +kernel
theorem dX11_sign_140 : decode cX11_sign 140 = .ok (.iadd, 1) := by decide +kernel
theorem dX11_sign_141 : decode cX11_sign 141 = .ok (.putfield 206, 3) := by decide +kernel
theorem dX11_sign_144 : decode cX11_sign 144 = .ok (.aload_n 0, 1) := by decide +kernel
theorem dX11_sign_145 : decode cX11_sign 145 = .ok (.getfield 206, 3) := by decide +kernel
theorem dX11_sign_148 : decode cX11_sign 148 = .ok (.iconst 1, 1) := by decide +kernel
theorem dX11_sign_149 : decode cX11_sign 149 = .ok (.isub, 1) := by decide +kernel
theorem dX11_sign_150 : decode cX11_sign 150 = .ok (.ireturn, 1) := by decide +kernel
theorem dX11_bodyLength_0 : decode cX11_bodyLength 0 = .ok (.aload_n 0, 1) := by decide +kernel
theorem dX11_bodyLength_1 : decode cX11_bodyLength 1 = .ok (.iload_n 1, 1) := by decide +kernel
theorem dX11_bodyLength_2 : decode cX11_bodyLength 2 = .ok (.iconst 2, 1) := by decide +kernel
theorem dX11_bodyLength_3 : decode cX11_bodyLength 3 = .ok (.iand, 1) := by decide +kernel
theorem dX11_bodyLength_4 : decode cX11_bodyLength 4 = .ok (.ifCond .eq 7, 3) := by decide +kernel
theorem dX11_bodyLength_7 : decode cX11_bodyLength 7 = .ok (.iconst 1, 1) := by decide +kernel
theorem dX11_bodyLength_8 : decode cX11_bodyLength 8 = .ok (.goto 4, 3) := by decide +kernel
theorem dX11_bodyLength_11 : decode cX11_bodyLength 11 = .ok (.iconst 0, 1) := by decide +kernel
theorem dX11_bodyLength_12 : decode cX11_bodyLength 12 = .ok (.invokevirtual 226, 3) := by decide +kernel
theorem dX11_bodyLength_15 : decode cX11_bodyLength 15 = .ok (.aload_n 0, 1) := by decide +kernel
theorem dX11_bodyLength_16 : decode cX11_bodyLength 16 = .ok (.getfield 217, 3) := by decide +kernel
theorem dX11_bodyLength_19 : decode cX11_bodyLength 19 = .ok (.ireturn, 1) := by decide +kernel
theorem dX11_make_0 : decode cX11_make 0 = .ok (.aload_n 0, 1) := by decide +kernel
theorem dX11_make_1 : decode cX11_make 1 = .ok (.getfield 74, 3) := by decide +kernel
theorem dX11_make_4 : decode cX11_make 4 = .ok (.iload_n 1, 1) := by decide +kernel
theorem dX11_make_5 : decode cX11_make 5 = .ok (.iload_n 2, 1) := by decide +kernel
theorem dX11_make_6 : decode cX11_make 6 = .ok (.iastore, 1) := by decide +kernel
theorem dX11_make_7 : decode cX11_make 7 = .ok (.aload_n 0, 1) := by decide +kernel
theorem dX11_make_8 : decode cX11_make 8 = .ok (.getfield 77, 3) := by decide +kernel
theorem dX11_make_11 : decode cX11_make 11 = .ok (.iload_n 1, 1) := by decide +kernel
theorem dX11_make_12 : decode cX11_make 12 = .ok (.iload_n 3, 1) := by decide +kernel
theorem dX11_make_13 : decode cX11_make 13 = .ok (.iastore, 1) := by decide +kernel
theorem dX11_make_14 : decode cX11_make 14 = .ok (.aload_n 0, 1) := by decide +kernel
theorem dX11_make_15 : decode cX11_make 15 = .ok (.getfield 80, 3) := by decide +kernel
theorem dX11_make_18 : decode cX11_make 18 = .ok (.iload_n 1, 1) := by decide +kernel
theorem dX11_make_19 : decode cX11_make 19 = .ok (.iload 4, 2) := by decide +kernel
theorem dX11_make_21 : decode cX11_make 21 = .ok (.iastore, 1) := by decide +kernel
theorem dX11_make_22 : decode cX11_make 22 = .ok (.aload_n 0, 1) := by decide +kernel
theorem dX11_make_23 : decode cX11_make 23 = .ok (.getfield 83, 3) := by decide +kernel
theorem dX11_make_26 : decode cX11_make 26 = .ok (.iload_n 1, 1) := by decide +kernel
theorem dX11_make_27 : decode cX11_make 27 = .ok (.iload 5, 2) := by decide +kernel
theorem dX11_make_29 : decode cX11_make 29 = .ok (.iastore, 1) := by decide +kernel
theorem dX11_make_30 : decode cX11_make 30 = .ok (.aload_n 0, 1) := by decide +kernel
theorem dX11_make_31 : decode cX11_make 31 = .ok (.getfield 86, 3) := by decide +kernel
theorem dX11_make_34 : decode cX11_make 34 = .ok (.iload_n 1, 1) := by decide +kernel
theorem dX11_make_35 : decode cX11_make 35 = .ok (.iload 6, 2) := by decide +kernel
theorem dX11_make_37 : decode cX11_make 37 = .ok (.iastore, 1) := by decide +kernel
theorem dX11_make_38 : decode cX11_make 38 = .ok (.aload_n 0, 1) := by decide +kernel
theorem dX11_make_39 : decode cX11_make 39 = .ok (.getfield 89, 3) := by decide +kernel
theorem dX11_make_42 : decode cX11_make 42 = .ok (.iload_n 1, 1) := by decide +kernel
theorem dX11_make_43 : decode cX11_make 43 = .ok (.iload 7, 2) := by decide +kernel
theorem dX11_make_45 : decode cX11_make 45 = .ok (.iastore, 1) := by decide +kernel
theorem dX11_make_46 : decode cX11_make 46 = .ok (.aload_n 0, 1) := by decide +kernel
theorem dX11_make_47 : decode cX11_make 47 = .ok (.getfield 92, 3) := by decide +kernel
theorem dX11_make_50 : decode cX11_make 50 = .ok (.iload_n 1, 1) := by decide +kernel
theorem dX11_make_51 : decode cX11_make 51 = .ok (.aload_n 0, 1) := by decide +kernel
theorem dX11_make_52 : decode cX11_make 52 = .ok (.iload 4, 2) := by decide +kernel
theorem dX11_make_54 : decode cX11_make 54 = .ok (.iload 6, 2) := by decide +kernel
theorem dX11_make_56 : decode cX11_make 56 = .ok (.invokevirtual 246, 3) := by decide +kernel
theorem dX11_make_59 : decode cX11_make 59 = .ok (.iastore, 1) := by decide +kernel
theorem dX11_make_60 : decode cX11_make 60 = .ok (.aload_n 0, 1) := by decide +kernel
theorem dX11_make_61 : decode cX11_make 61 = .ok (.getfield 95, 3) := by decide +kernel
theorem dX11_make_64 : decode cX11_make 64 = .ok (.iload_n 1, 1) := by decide +kernel
theorem dX11_make_65 : decode cX11_make 65 = .ok (.aload_n 0, 1) := by decide +kernel
theorem dX11_make_66 : decode cX11_make 66 = .ok (.iload_n 1, 1) := by decide +kernel
theorem dX11_make_67 : decode cX11_make 67 = .ok (.invokevirtual 249, 3) := by decide +kernel
theorem dX11_make_70 : decode cX11_make 70 = .ok (.iastore, 1) := by decide +kernel
theorem dX11_make_71 : decode cX11_make 71 = .ok (.return_, 1) := by decide +kernel
theorem dX11_bodyDigest_0 : decode cX11_bodyDigest 0 = .ok (.aload_n 0, 1) := by decide +kernel
theorem dX11_bodyDigest_1 : decode cX11_bodyDigest 1 = .ok (.iload_n 1, 1) := by decide +kernel
theorem dX11_bodyDigest_2 : decode cX11_bodyDigest 2 = .ok (.iconst 2, 1) := by decide +kernel
theorem dX11_bodyDigest_3 : decode cX11_bodyDigest 3 = .ok (.iand, 1) := by decide +kernel
theorem dX11_bodyDigest_4 : decode cX11_bodyDigest 4 = .ok (.ifCond .eq 7, 3) := by decide +kernel
theorem dX11_bodyDigest_7 : decode cX11_bodyDigest 7 = .ok (.iconst 1, 1) := by decide +kernel
theorem dX11_bodyDigest_8 : decode cX11_bodyDigest 8 = .ok (.goto 4, 3) := by decide +kernel
theorem dX11_bodyDigest_11 : decode cX11_bodyDigest 11 = .ok (.iconst 0, 1) := by decide +kernel
theorem dX11_bodyDigest_12 : decode cX11_bodyDigest 12 = .ok (.invokevirtual 226, 3) := by decide +kernel
theorem dX11_bodyDigest_15 : decode cX11_bodyDigest 15 = .ok (.aload_n 0, 1) := by decide +kernel
theorem dX11_bodyDigest_16 : decode cX11_bodyDigest 16 = .ok (.lconst 0, 1) := by decide +kernel
theorem dX11_bodyDigest_17 : decode cX11_bodyDigest 17 = .ok (.putfield 234, 3) := by decide +kernel
theorem dX11_bodyDigest_20 : decode cX11_bodyDigest 20 = .ok (.iconst 0, 1) := by decide +kernel
theorem dX11_bodyDigest_21 : decode cX11_bodyDigest 21 = .ok (.istore_n 3, 1) := by decide +kernel
theorem dX11_bodyDigest_22 : decode cX11_bodyDigest 22 = .ok (.iload_n 3, 1) := by decide +kernel
theorem dX11_bodyDigest_23 : decode cX11_bodyDigest 23 = .ok (.aload_n 0, 1) := by decide +kernel
theorem dX11_bodyDigest_24 : decode cX11_bodyDigest 24 = .ok (.getfield 217, 3) := by decide +kernel
theorem dX11_bodyDigest_27 : decode cX11_bodyDigest 27 = .ok (.if_icmp .ge 28, 3) := by decide +kernel
theorem dX11_bodyDigest_30 : decode cX11_bodyDigest 30 = .ok (.iload_n 2, 1) := by decide +kernel
theorem dX11_bodyDigest_31 : decode cX11_bodyDigest 31 = .ok (.ifCond .lt 8, 3) := by decide +kernel
theorem dX11_bodyDigest_34 : decode cX11_bodyDigest 34 = .ok (.iload_n 3, 1) := by decide +kernel
theorem dX11_bodyDigest_35 : decode cX11_bodyDigest 35 = .ok (.iload_n 2, 1) := by decide +kernel
theorem dX11_bodyDigest_36 : decode cX11_bodyDigest 36 = .ok (.if_icmp .ge 19, 3) := by decide +kernel
theorem dX11_bodyDigest_39 : decode cX11_bodyDigest 39 = .ok (.aload_n 0, 1) := by decide +kernel
theorem dX11_bodyDigest_40 : decode cX11_bodyDigest 40 = .ok (.aload_n 0, 1) := by decide +kernel
theorem dX11_bodyDigest_41 : decode cX11_bodyDigest 41 = .ok (.getfield 104, 3) := by decide +kernel
theorem dX11_bodyDigest_44 : decode cX11_bodyDigest 44 = .ok (.iload_n 3, 1) := by decide +kernel
theorem dX11_bodyDigest_45 : decode cX11_bodyDigest 45 = .ok (.iaload, 1) := by decide +kernel
theorem dX11_bodyDigest_46 : decode cX11_bodyDigest 46 = .ok (.invokevirtual 240, 3) := by decide +kernel
theorem dX11_bodyDigest_49 : decode cX11_bodyDigest 49 = .ok (.iinc 3 1, 3) := by decide +kernel
theorem dX11_bodyDigest_52 : decode cX11_bodyDigest 52 = .ok (.goto (-30), 3) := by decide +kernel
theorem dX11_bodyDigest_55 : decode cX11_bodyDigest 55 = .ok (.aload_n 0, 1) := by decide +kernel
theorem dX11_bodyDigest_56 : decode cX11_bodyDigest 56 = .ok (.invokevirtual 243, 3) := by decide +kernel
theorem dX11_bodyDigest_59 : decode cX11_bodyDigest 59 = .ok (.ireturn, 1) := by decide +kernel
theorem dX11_mix_0 : decode cX11_mix 0 = .ok (.aload_n 0, 1) := by decide +kernel
theorem dX11_mix_1 : decode cX11_mix 1 = .ok (.getfield 234, 3) := by decide +kernel
theorem dX11_mix_4 : decode cX11_mix 4 = .ok (.iload_n 1, 1) := by decide +kernel
theorem dX11_mix_5 : decode cX11_mix 5 = .ok (.i2l, 1) := by decide +kernel
theorem dX11_mix_6 : decode cX11_mix 6 = .ok (.lxor, 1) := by decide +kernel
theorem dX11_mix_7 : decode cX11_mix 7 = .ok (.ldc2_w 238, 3) := by decide +kernel
theorem dX11_mix_10 : decode cX11_mix 10 = .ok (.lmul, 1) := by decide +kernel
theorem dX11_mix_11 : decode cX11_mix 11 = .ok (.lstore_n 2, 1) := by decide +kernel
theorem dX11_mix_12 : decode cX11_mix 12 = .ok (.aload_n 0, 1) := by decide +kernel
theorem dX11_mix_13 : decode cX11_mix 13 = .ok (.lload_n 2, 1) := by decide +kernel
theorem dX11_mix_14 : decode cX11_mix 14 = .ok (.lload_n 2, 1) := by decide +kernel
theorem dX11_mix_15 : decode cX11_mix 15 = .ok (.bipush 30, 2) := by decide +kernel
theorem dX11_mix_17 : decode cX11_mix 17 = .ok (.lushr, 1) := by decide +kernel
theorem dX11_mix_18 : decode cX11_mix 18 = .ok (.lxor, 1) := by decide +kernel
theorem dX11_mix_19 : decode cX11_mix 19 = .ok (.putfield 234, 3) := by decide +kernel
theorem dX11_mix_22 : decode cX11_mix 22 = .ok (.return_, 1) := by decide +kernel
theorem dX11_digest_0 : decode cX11_digest 0 = .ok (.aload_n 0, 1) := by decide +kernel
theorem dX11_digest_1 : decode cX11_digest 1 = .ok (.getfield 234, 3) := by decide +kernel
theorem dX11_digest_4 : decode cX11_digest 4 = .ok (.bipush 33, 2) := by decide +kernel
theorem dX11_digest_6 : decode cX11_digest 6 = .ok (.lushr, 1) := by decide +kernel
theorem dX11_digest_7 : decode cX11_digest 7 = .ok (.l2i, 1) := by decide +kernel
theorem dX11_digest_8 : decode cX11_digest 8 = .ok (.ireturn, 1) := by decide +kernel
theorem dX11_sealOf_0 : decode cX11_sealOf 0 = .ok (.aload_n 0, 1) := by decide +kernel
theorem dX11_sealOf_1 : decode cX11_sealOf 1 = .ok (.lconst 0, 1) := by decide +kernel
theorem dX11_sealOf_2 : decode cX11_sealOf 2 = .ok (.putfield 234, 3) := by decide +kernel
theorem dX11_sealOf_5 : decode cX11_sealOf 5 = .ok (.aload_n 0, 1) := by decide +kernel
theorem dX11_sealOf_6 : decode cX11_sealOf 6 = .ok (.aload_n 0, 1) := by decide +kernel
theorem dX11_sealOf_7 : decode cX11_sealOf 7 = .ok (.getfield 47, 3) := by decide +kernel
theorem dX11_sealOf_10 : decode cX11_sealOf 10 = .ok (.iconst 2, 1) := by decide +kernel
theorem dX11_sealOf_11 : decode cX11_sealOf 11 = .ok (.aload_n 0, 1) := by decide +kernel
theorem dX11_sealOf_12 : decode cX11_sealOf 12 = .ok (.getfield 74, 3) := by decide +kernel
theorem dX11_sealOf_15 : decode cX11_sealOf 15 = .ok (.iload_n 1, 1) := by decide +kernel
theorem dX11_sealOf_16 : decode cX11_sealOf 16 = .ok (.iaload, 1) := by decide +kernel
theorem dX11_sealOf_17 : decode cX11_sealOf 17 = .ok (.imul, 1) := by decide +kernel
theorem dX11_sealOf_18 : decode cX11_sealOf 18 = .ok (.aload_n 0, 1) := by decide +kernel
theorem dX11_sealOf_19 : decode cX11_sealOf 19 = .ok (.getfield 77, 3) := by decide +kernel
theorem dX11_sealOf_22 : decode cX11_sealOf 22 = .ok (.iload_n 1, 1) := by decide +kernel
theorem dX11_sealOf_23 : decode cX11_sealOf 23 = .ok (.iaload, 1) := by decide +kernel
theorem dX11_sealOf_24 : decode cX11_sealOf 24 = .ok (.iadd, 1) := by decide +kernel
theorem dX11_sealOf_25 : decode cX11_sealOf 25 = .ok (.iaload, 1) := by decide +kernel
theorem dX11_sealOf_26 : decode cX11_sealOf 26 = .ok (.invokevirtual 240, 3) := by decide +kernel
theorem dX11_sealOf_29 : decode cX11_sealOf 29 = .ok (.aload_n 0, 1) := by decide +kernel
theorem dX11_sealOf_30 : decode cX11_sealOf 30 = .ok (.aload_n 0, 1) := by decide +kernel
theorem dX11_sealOf_31 : decode cX11_sealOf 31 = .ok (.getfield 74, 3) := by decide +kernel
theorem dX11_sealOf_34 : decode cX11_sealOf 34 = .ok (.iload_n 1, 1) := by decide +kernel
theorem dX11_sealOf_35 : decode cX11_sealOf 35 = .ok (.iaload, 1) := by decide +kernel
theorem dX11_sealOf_36 : decode cX11_sealOf 36 = .ok (.invokevirtual 240, 3) := by decide +kernel
theorem dX11_sealOf_39 : decode cX11_sealOf 39 = .ok (.aload_n 0, 1) := by decide +kernel
theorem dX11_sealOf_40 : decode cX11_sealOf 40 = .ok (.aload_n 0, 1) := by decide +kernel
theorem dX11_sealOf_41 : decode cX11_sealOf 41 = .ok (.getfield 77, 3) := by decide +kernel
theorem dX11_sealOf_44 : decode cX11_sealOf 44 = .ok (.iload_n 1, 1) := by decide +kernel
theorem dX11_sealOf_45 : decode cX11_sealOf 45 = .ok (.iaload, 1) := by decide +kernel
theorem dX11_sealOf_46 : decode cX11_sealOf 46 = .ok (.invokevirtual 240, 3) := by decide +kernel
theorem dX11_sealOf_49 : decode cX11_sealOf 49 = .ok (.aload_n 0, 1) := by decide +kernel
theorem dX11_sealOf_50 : decode cX11_sealOf 50 = .ok (.aload_n 0, 1) := by decide +kernel
theorem dX11_sealOf_51 : decode cX11_sealOf 51 = .ok (.getfield 80, 3) := by decide +kernel
theorem dX11_sealOf_54 : decode cX11_sealOf 54 = .ok (.iload_n 1, 1) := by decide +kernel
theorem dX11_sealOf_55 : decode cX11_sealOf 55 = .ok (.iaload, 1) := by decide +kernel
theorem dX11_sealOf_56 : decode cX11_sealOf 56 = .ok (.invokevirtual 240, 3) := by decide +kernel
theorem dX11_sealOf_59 : decode cX11_sealOf 59 = .ok (.aload_n 0, 1) := by decide +kernel
theorem dX11_sealOf_60 : decode cX11_sealOf 60 = .ok (.aload_n 0, 1) := by decide +kernel
theorem dX11_sealOf_61 : decode cX11_sealOf 61 = .ok (.getfield 83, 3) := by decide +kernel
theorem dX11_sealOf_64 : decode cX11_sealOf 64 = .ok (.iload_n 1, 1) := by decide +kernel
theorem dX11_sealOf_65 : decode cX11_sealOf 65 = .ok (.iaload, 1) := by decide +kernel
theorem dX11_sealOf_66 : decode cX11_sealOf 66 = .ok (.invokevirtual 240, 3) := by decide +kernel
theorem dX11_sealOf_69 : decode cX11_sealOf 69 = .ok (.aload_n 0, 1) := by decide +kernel
theorem dX11_sealOf_70 : decode cX11_sealOf 70 = .ok (.aload_n 0, 1) := by decide +kernel
theorem dX11_sealOf_71 : decode cX11_sealOf 71 = .ok (.getfield 86, 3) := by decide +kernel
theorem dX11_sealOf_74 : decode cX11_sealOf 74 = .ok (.iload_n 1, 1) := by decide +kernel
theorem dX11_sealOf_75 : decode cX11_sealOf 75 = .ok (.iaload, 1) := by decide +kernel
theorem dX11_sealOf_76 : decode cX11_sealOf 76 = .ok (.invokevirtual 240, 3) := by decide +kernel
theorem dX11_sealOf_79 : decode cX11_sealOf 79 = .ok (.aload_n 0, 1) := by decide +kernel
theorem dX11_sealOf_80 : decode cX11_sealOf 80 = .ok (.aload_n 0, 1) := by decide +kernel
theorem dX11_sealOf_81 : decode cX11_sealOf 81 = .ok (.getfield 89, 3) := by decide +kernel
theorem dX11_sealOf_84 : decode cX11_sealOf 84 = .ok (.iload_n 1, 1) := by decide +kernel
theorem dX11_sealOf_85 : decode cX11_sealOf 85 = .ok (.iaload, 1) := by decide +kernel
theorem dX11_sealOf_86 : decode cX11_sealOf 86 = .ok (.invokevirtual 240, 3) := by decide +kernel
theorem dX11_sealOf_89 : decode cX11_sealOf 89 = .ok (.aload_n 0, 1) := by decide +kernel
theorem dX11_sealOf_90 : decode cX11_sealOf 90 = .ok (.aload_n 0, 1) := by decide +kernel
theorem dX11_sealOf_91 : decode cX11_sealOf 91 = .ok (.getfield 92, 3) := by decide +kernel
theorem dX11_sealOf_94 : decode cX11_sealOf 94 = .ok (.iload_n 1, 1) := by decide +kernel
theorem dX11_sealOf_95 : decode cX11_sealOf 95 = .ok (.iaload, 1) := by decide +kernel
theorem dX11_sealOf_96 : decode cX11_sealOf 96 = .ok (.invokevirtual 240, 3) := by decide +kernel
theorem dX11_sealOf_99 : decode cX11_sealOf 99 = .ok (.iconst 0, 1) := by decide +kernel
theorem dX11_sealOf_100 : decode cX11_sealOf 100 = .ok (.istore_n 2, 1) := by decide +kernel
theorem dX11_sealOf_101 : decode cX11_sealOf 101 = .ok (.iload_n 2, 1) := by decide +kernel
theorem dX11_sealOf_102 : decode cX11_sealOf 102 = .ok (.aload_n 0, 1) := by decide +kernel
theorem dX11_sealOf_103 : decode cX11_sealOf 103 = .ok (.getfield 200, 3) := by decide +kernel
theorem dX11_sealOf_106 : decode cX11_sealOf 106 = .ok (.if_icmp .ge 90, 3) := by decide +kernel
theorem dX11_sealOf_109 : decode cX11_sealOf 109 = .ok (.aload_n 0, 1) := by decide +kernel
theorem dX11_sealOf_110 : decode cX11_sealOf 110 = .ok (.getfield 83, 3) := by decide +kernel
theorem dX11_sealOf_113 : decode cX11_sealOf 113 = .ok (.iload_n 1, 1) := by decide +kernel
theorem dX11_sealOf_114 : decode cX11_sealOf 114 = .ok (.iaload, 1) := by decide +kernel
theorem dX11_sealOf_115 : decode cX11_sealOf 115 = .ok (.aload_n 0, 1) := by decide +kernel
theorem dX11_sealOf_116 : decode cX11_sealOf 116 = .ok (.getfield 62, 3) := by decide +kernel
theorem dX11_sealOf_119 : decode cX11_sealOf 119 = .ok (.iload_n 2, 1) := by decide +kernel
theorem dX11_sealOf_120 : decode cX11_sealOf 120 = .ok (.iaload, 1) := by decide +kernel
theorem dX11_sealOf_121 : decode cX11_sealOf 121 = .ok (.ishr, 1) := by decide +kernel
theorem dX11_sealOf_122 : decode cX11_sealOf 122 = .ok (.iconst 1, 1) := by decide +kernel
theorem dX11_sealOf_123 : decode cX11_sealOf 123 = .ok (.iand, 1) := by decide +kernel
theorem dX11_sealOf_124 : decode cX11_sealOf 124 = .ok (.iconst 1, 1) := by decide +kernel
theorem dX11_sealOf_125 : decode cX11_sealOf 125 = .ok (.if_icmp .ne 65, 3) := by decide +kernel
theorem dX11_sealOf_128 : decode cX11_sealOf 128 = .ok (.aload_n 0, 1) := by decide +kernel
theorem dX11_sealOf_129 : decode cX11_sealOf 129 = .ok (.iload_n 2, 1) := by decide +kernel
theorem dX11_sealOf_130 : decode cX11_sealOf 130 = .ok (.aload_n 0, 1) := by decide +kernel
theorem dX11_sealOf_131 : decode cX11_sealOf 131 = .ok (.getfield 80, 3) := by decide +kernel
theorem dX11_sealOf_134 : decode cX11_sealOf 134 = .ok (.iload_n 1, 1) := by decide +kernel
theorem dX11_sealOf_135 : decode cX11_sealOf 135 = .ok (.iaload, 1) := by decide +kernel
theorem dX11_sealOf_136 : decode cX11_sealOf 136 = .ok (.iconst 1, 1) := by decide +kernel
theorem dX11_sealOf_137 : decode cX11_sealOf 137 = .ok (.iand, 1) := by decide +kernel
theorem dX11_sealOf_138 : decode cX11_sealOf 138 = .ok (.ifCond .eq 7, 3) := by decide +kernel
theorem dX11_sealOf_141 : decode cX11_sealOf 141 = .ok (.iconst 1, 1) := by decide +kernel
theorem dX11_sealOf_142 : decode cX11_sealOf 142 = .ok (.goto 4, 3) := by decide +kernel
theorem dX11_sealOf_145 : decode cX11_sealOf 145 = .ok (.iconst 0, 1) := by decide +kernel
theorem dX11_sealOf_146 : decode cX11_sealOf 146 = .ok (.invokevirtual 230, 3) := by decide +kernel
theorem dX11_sealOf_149 : decode cX11_sealOf 149 = .ok (.aload_n 0, 1) := by decide +kernel
theorem dX11_sealOf_150 : decode cX11_sealOf 150 = .ok (.aload_n 0, 1) := by decide +kernel
theorem dX11_sealOf_151 : decode cX11_sealOf 151 = .ok (.getfield 62, 3) := by decide +kernel
theorem dX11_sealOf_154 : decode cX11_sealOf 154 = .ok (.iload_n 2, 1) := by decide +kernel
theorem dX11_sealOf_155 : decode cX11_sealOf 155 = .ok (.iaload, 1) := by decide +kernel
theorem dX11_sealOf_156 : decode cX11_sealOf 156 = .ok (.invokevirtual 240, 3) := by decide +kernel
theorem dX11_sealOf_159 : decode cX11_sealOf 159 = .ok (.iconst 0, 1) := by decide +kernel
theorem dX11_sealOf_160 : decode cX11_sealOf 160 = .ok (.istore_n 3, 1) := by decide +kernel
theorem dX11_sealOf_161 : decode cX11_sealOf 161 = .ok (.iload_n 3, 1) := by decide +kernel
theorem dX11_sealOf_162 : decode cX11_sealOf 162 = .ok (.aload_n 0, 1) := by decide +kernel
theorem dX11_sealOf_163 : decode cX11_sealOf 163 = .ok (.getfield 217, 3) := by decide +kernel
theorem dX11_sealOf_166 : decode cX11_sealOf 166 = .ok (.if_icmp .ge 19, 3) := by decide +kernel
theorem dX11_sealOf_169 : decode cX11_sealOf 169 = .ok (.aload_n 0, 1) := by decide +kernel
theorem dX11_sealOf_170 : decode cX11_sealOf 170 = .ok (.aload_n 0, 1) := by decide +kernel
theorem dX11_sealOf_171 : decode cX11_sealOf 171 = .ok (.getfield 104, 3) := by decide +kernel
theorem dX11_sealOf_174 : decode cX11_sealOf 174 = .ok (.iload_n 3, 1) := by decide +kernel
theorem dX11_sealOf_175 : decode cX11_sealOf 175 = .ok (.iaload, 1) := by decide +kernel
theorem dX11_sealOf_176 : decode cX11_sealOf 176 = .ok (.invokevirtual 240, 3) := by decide +kernel
theorem dX11_sealOf_179 : decode cX11_sealOf 179 = .ok (.iinc 3 1, 3) := by decide +kernel
theorem dX11_sealOf_182 : decode cX11_sealOf 182 = .ok (.goto (-21), 3) := by decide +kernel
theorem dX11_sealOf_185 : decode cX11_sealOf 185 = .ok (.aload_n 0, 1) := by decide +kernel
theorem dX11_sealOf_186 : decode cX11_sealOf 186 = .ok (.iconst 0, 1) := by decide +kernel
theorem dX11_sealOf_187 : decode cX11_sealOf 187 = .ok (.invokevirtual 240, 3) := by decide +kernel
theorem dX11_sealOf_190 : decode cX11_sealOf 190 = .ok (.iinc 2 1, 3) := by decide +kernel
theorem dX11_sealOf_193 : decode cX11_sealOf 193 = .ok (.goto (-92), 3) := by decide +kernel
theorem dX11_sealOf_196 : decode cX11_sealOf 196 = .ok (.aload_n 0, 1) := by decide +kernel
theorem dX11_sealOf_197 : decode cX11_sealOf 197 = .ok (.invokevirtual 243, 3) := by decide +kernel
theorem dX11_sealOf_200 : decode cX11_sealOf 200 = .ok (.ireturn, 1) := by decide +kernel
theorem dX11_spoil_0 : decode cX11_spoil 0 = .ok (.aload_n 0, 1) := by decide +kernel
theorem dX11_spoil_1 : decode cX11_spoil 1 = .ok (.getfield 190, 3) := by decide +kernel
theorem dX11_spoil_4 : decode cX11_spoil 4 = .ok (.ifCond .eq 15, 3) := by decide +kernel
theorem dX11_spoil_7 : decode cX11_spoil 7 = .ok (.iload_n 1, 1) := by decide +kernel
theorem dX11_spoil_8 : decode cX11_spoil 8 = .ok (.ifCond .lt 11, 3) := by decide +kernel
theorem dX11_spoil_11 : decode cX11_spoil 11 = .ok (.iload_n 1, 1) := by decide +kernel
theorem dX11_spoil_12 : decode cX11_spoil 12 = .ok (.aload_n 0, 1) := by decide +kernel
theorem dX11_spoil_13 : decode cX11_spoil 13 = .ok (.getfield 206, 3) := by decide +kernel
theorem dX11_spoil_16 : decode cX11_spoil 16 = .ok (.if_icmp .lt 5, 3) := by decide +kernel
theorem dX11_spoil_19 : decode cX11_spoil 19 = .ok (.iconst 0, 1) := by decide +kernel
theorem dX11_spoil_20 : decode cX11_spoil 20 = .ok (.ireturn, 1) := by decide +kernel
theorem dX11_spoil_21 : decode cX11_spoil 21 = .ok (.aload_n 0, 1) := by decide +kernel
theorem dX11_spoil_22 : decode cX11_spoil 22 = .ok (.getfield 95, 3) := by decide +kernel
theorem dX11_spoil_25 : decode cX11_spoil 25 = .ok (.iload_n 1, 1) := by decide +kernel
theorem dX11_spoil_26 : decode cX11_spoil 26 = .ok (.aload_n 0, 1) := by decide +kernel
theorem dX11_spoil_27 : decode cX11_spoil 27 = .ok (.getfield 95, 3) := by decide +kernel
theorem dX11_spoil_30 : decode cX11_spoil 30 = .ok (.iload_n 1, 1) := by decide +kernel
theorem dX11_spoil_31 : decode cX11_spoil 31 = .ok (.iaload, 1) := by decide +kernel
theorem dX11_spoil_32 : decode cX11_spoil 32 = .ok (.iload_n 2, 1) := by decide +kernel
theorem dX11_spoil_33 : decode cX11_spoil 33 = .ok (.iadd, 1) := by decide +kernel
theorem dX11_spoil_34 : decode cX11_spoil 34 = .ok (.iastore, 1) := by decide +kernel
theorem dX11_spoil_35 : decode cX11_spoil 35 = .ok (.iconst 1, 1) := by decide +kernel
theorem dX11_spoil_36 : decode cX11_spoil 36 = .ok (.ireturn, 1) := by decide +kernel
theorem dX11_signature_0 : decode cX11_signature 0 = .ok (.aload_n 0, 1) := by decide +kernel
theorem dX11_signature_1 : decode cX11_signature 1 = .ok (.getfield 190, 3) := by decide +kernel
theorem dX11_signature_4 : decode cX11_signature 4 = .ok (.ifCond .eq 15, 3) := by decide +kernel
theorem dX11_signature_7 : decode cX11_signature 7 = .ok (.iload_n 1, 1) := by decide +kernel
theorem dX11_signature_8 : decode cX11_signature 8 = .ok (.ifCond .lt 11, 3) := by decide +kernel
theorem dX11_signature_11 : decode cX11_signature 11 = .ok (.iload_n 1, 1) := by decide +kernel
theorem dX11_signature_12 : decode cX11_signature 12 = .ok (.aload_n 0, 1) := by decide +kernel
theorem dX11_signature_13 : decode cX11_signature 13 = .ok (.getfield 206, 3) := by decide +kernel
theorem dX11_signature_16 : decode cX11_signature 16 = .ok (.if_icmp .lt 7, 3) := by decide +kernel
theorem dX11_signature_19 : decode cX11_signature 19 = .ok (.iconst (-1), 1) := by decide +kernel
theorem dX11_signature_20 : decode cX11_signature 20 = .ok (.goto 8, 3) := by decide +kernel
theorem dX11_signature_23 : decode cX11_signature 23 = .ok (.aload_n 0, 1) := by decide +kernel
theorem dX11_signature_24 : decode cX11_signature 24 = .ok (.iload_n 1, 1) := by decide +kernel
theorem dX11_signature_25 : decode cX11_signature 25 = .ok (.invokevirtual 263, 3) := by decide +kernel
theorem dX11_signature_28 : decode cX11_signature 28 = .ok (.ireturn, 1) := by decide +kernel
theorem dX11_checkSignature_0 : decode cX11_checkSignature 0 = .ok (.aload_n 0, 1) := by decide +kernel
theorem dX11_checkSignature_1 : decode cX11_checkSignature 1 = .ok (.getfield 17, 3) := by decide +kernel
theorem dX11_checkSignature_4 : decode cX11_checkSignature 4 = .ok (.aload_n 0, 1) := by decide +kernel
theorem dX11_checkSignature_5 : decode cX11_checkSignature 5 = .ok (.getfield 74, 3) := by decide +kernel
theorem dX11_checkSignature_8 : decode cX11_checkSignature 8 = .ok (.iload_n 1, 1) := by decide +kernel
theorem dX11_checkSignature_9 : decode cX11_checkSignature 9 = .ok (.iaload, 1) := by decide +kernel
theorem dX11_checkSignature_10 : decode cX11_checkSignature 10 = .ok (.baload, 1) := by decide +kernel
theorem dX11_checkSignature_11 : decode cX11_checkSignature 11 = .ok (.ifCond .eq 5, 3) := by decide +kernel
theorem dX11_checkSignature_14 : decode cX11_checkSignature 14 = .ok (.iconst 5, 1) := by decide +kernel
theorem dX11_checkSignature_15 : decode cX11_checkSignature 15 = .ok (.ireturn, 1) := by decide +kernel
theorem dX11_checkSignature_16 : decode cX11_checkSignature 16 = .ok (.aload_n 0, 1) := by decide +kernel
theorem dX11_checkSignature_17 : decode cX11_checkSignature 17 = .ok (.getfield 89, 3) := by decide +kernel
theorem dX11_checkSignature_20 : decode cX11_checkSignature 20 = .ok (.iload_n 1, 1) := by decide +kernel
theorem dX11_checkSignature_21 : decode cX11_checkSignature 21 = .ok (.iaload, 1) := by decide +kernel
theorem dX11_checkSignature_22 : decode cX11_checkSignature 22 = .ok (.ifCond .lt 20, 3) := by decide +kernel
theorem dX11_checkSignature_25 : decode cX11_checkSignature 25 = .ok (.aload_n 0, 1) := by decide +kernel
theorem dX11_checkSignature_26 : decode cX11_checkSignature 26 = .ok (.getfield 89, 3) := by decide +kernel
theorem dX11_checkSignature_29 : decode cX11_checkSignature 29 = .ok (.iload_n 1, 1) := by decide +kernel
theorem dX11_checkSignature_30 : decode cX11_checkSignature 30 = .ok (.iaload, 1) := by decide +kernel
theorem dX11_checkSignature_31 : decode cX11_checkSignature 31 = .ok (.aload_n 0, 1) := by decide +kernel
theorem dX11_checkSignature_32 : decode cX11_checkSignature 32 = .ok (.getfield 256, 3) := by decide +kernel
theorem dX11_checkSignature_35 : decode cX11_checkSignature 35 = .ok (.if_icmp .gt 7, 3) := by decide +kernel
theorem dX11_checkSignature_38 : decode cX11_checkSignature 38 = .ok (.iconst 1, 1) := by decide +kernel
theorem dX11_checkSignature_39 : decode cX11_checkSignature 39 = .ok (.goto 4, 3) := by decide +kernel
theorem dX11_checkSignature_42 : decode cX11_checkSignature 42 = .ok (.iconst 0, 1) := by decide +kernel
theorem dX11_checkSignature_43 : decode cX11_checkSignature 43 = .ok (.istore_n 2, 1) := by decide +kernel
theorem dX11_checkSignature_44 : decode cX11_checkSignature 44 = .ok (.aload_n 0, 1) := by decide +kernel
theorem dX11_checkSignature_45 : decode cX11_checkSignature 45 = .ok (.getfield 47, 3) := by decide +kernel
theorem dX11_checkSignature_48 : decode cX11_checkSignature 48 = .ok (.iconst 2, 1) := by decide +kernel
theorem dX11_checkSignature_49 : decode cX11_checkSignature 49 = .ok (.aload_n 0, 1) := by decide +kernel
theorem dX11_checkSignature_50 : decode cX11_checkSignature 50 = .ok (.getfield 74, 3) := by decide +kernel
theorem dX11_checkSignature_53 : decode cX11_checkSignature 53 = .ok (.iload_n 1, 1) := by decide +kernel
theorem dX11_checkSignature_54 : decode cX11_checkSignature 54 = .ok (.iaload, 1) := by decide +kernel
theorem dX11_checkSignature_55 : decode cX11_checkSignature 55 = .ok (.imul, 1) := by decide +kernel
theorem dX11_checkSignature_56 : decode cX11_checkSignature 56 = .ok (.aload_n 0, 1) := by decide +kernel
theorem dX11_checkSignature_57 : decode cX11_checkSignature 57 = .ok (.getfield 77, 3) := by decide +kernel
theorem dX11_checkSignature_60 : decode cX11_checkSignature 60 = .ok (.iload_n 1, 1) := by decide +kernel
theorem dX11_checkSignature_61 : decode cX11_checkSignature 61 = .ok (.iaload, 1) := by decide +kernel
theorem dX11_checkSignature_62 : decode cX11_checkSignature 62 = .ok (.iadd, 1) := by decide +kernel
theorem dX11_checkSignature_63 : decode cX11_checkSignature 63 = .ok (.iaload, 1) := by decide +kernel
theorem dX11_checkSignature_64 : decode cX11_checkSignature 64 = .ok (.ifCond .eq 26, 3) := by decide +kernel
theorem dX11_checkSignature_67 : decode cX11_checkSignature 67 = .ok (.iload_n 2, 1) := by decide +kernel
theorem dX11_checkSignature_68 : decode cX11_checkSignature 68 = .ok (.ifCond .ne 22, 3) := by decide +kernel
theorem dX11_checkSignature_71 : decode cX11_checkSignature 71 = .ok (.aload_n 0, 1) := by decide +kernel
theorem dX11_checkSignature_72 : decode cX11_checkSignature 72 = .ok (.getfield 86, 3) := by decide +kernel
theorem dX11_checkSignature_75 : decode cX11_checkSignature 75 = .ok (.iload_n 1, 1) := by decide +kernel
theorem dX11_checkSignature_76 : decode cX11_checkSignature 76 = .ok (.iaload, 1) := by decide +kernel
theorem dX11_checkSignature_77 : decode cX11_checkSignature 77 = .ok (.aload_n 0, 1) := by decide +kernel
theorem dX11_checkSignature_78 : decode cX11_checkSignature 78 = .ok (.aload_n 0, 1) := by decide +kernel
theorem dX11_checkSignature_79 : decode cX11_checkSignature 79 = .ok (.getfield 80, 3) := by decide +kernel
theorem dX11_checkSignature_82 : decode cX11_checkSignature 82 = .ok (.iload_n 1, 1) := by decide +kernel
theorem dX11_checkSignature_83 : decode cX11_checkSignature 83 = .ok (.iaload, 1) := by decide +kernel
theorem dX11_checkSignature_84 : decode cX11_checkSignature 84 = .ok (.invokevirtual 253, 3) := by decide +kernel
theorem dX11_checkSignature_87 : decode cX11_checkSignature 87 = .ok (.if_icmp .le 6, 3) := by decide +kernel
theorem dX11_checkSignature_90 : decode cX11_checkSignature 90 = .ok (.bipush 6, 2) := by decide +kernel
theorem dX11_checkSignature_92 : decode cX11_checkSignature 92 = .ok (.ireturn, 1) := by decide +kernel
theorem dX11_checkSignature_93 : decode cX11_checkSignature 93 = .ok (.aload_n 0, 1) := by decide +kernel
theorem dX11_checkSignature_94 : decode cX11_checkSignature 94 = .ok (.getfield 92, 3) := by decide +kernel
theorem dX11_checkSignature_97 : decode cX11_checkSignature 97 = .ok (.iload_n 1, 1) := by decide +kernel
theorem dX11_checkSignature_98 : decode cX11_checkSignature 98 = .ok (.iaload, 1) := by decide +kernel
theorem dX11_checkSignature_99 : decode cX11_checkSignature 99 = .ok (.aload_n 0, 1) := by decide +kernel
theorem dX11_checkSignature_100 : decode cX11_checkSignature 100 = .ok (.aload_n 0, 1) := by decide +kernel
theorem dX11_checkSignature_101 : decode cX11_checkSignature 101 = .ok (.getfield 80, 3) := by decide +kernel
theorem dX11_checkSignature_104 : decode cX11_checkSignature 104 = .ok (.iload_n 1, 1) := by decide +kernel
theorem dX11_checkSignature_105 : decode cX11_checkSignature 105 = .ok (.iaload, 1) := by decide +kernel
theorem dX11_checkSignature_106 : decode cX11_checkSignature 106 = .ok (.aload_n 0, 1) := by decide +kernel
theorem dX11_checkSignature_107 : decode cX11_checkSignature 107 = .ok (.getfield 86, 3) := by decide +kernel
theorem dX11_checkSignature_110 : decode cX11_checkSignature 110 = .ok (.iload_n 1, 1) := by decide +kernel
theorem dX11_checkSignature_111 : decode cX11_checkSignature 111 = .ok (.iaload, 1) := by decide +kernel
theorem dX11_checkSignature_112 : decode cX11_checkSignature 112 = .ok (.invokevirtual 246, 3) := by decide +kernel
theorem dX11_checkSignature_115 : decode cX11_checkSignature 115 = .ok (.if_icmp .eq 5, 3) := by decide +kernel
theorem dX11_checkSignature_118 : decode cX11_checkSignature 118 = .ok (.iconst 2, 1) := by decide +kernel
theorem dX11_checkSignature_119 : decode cX11_checkSignature 119 = .ok (.ireturn, 1) := by decide +kernel
theorem dX11_checkSignature_120 : decode cX11_checkSignature 120 = .ok (.aload_n 0, 1) := by decide +kernel
theorem dX11_checkSignature_121 : decode cX11_checkSignature 121 = .ok (.getfield 95, 3) := by decide +kernel
theorem dX11_checkSignature_124 : decode cX11_checkSignature 124 = .ok (.iload_n 1, 1) := by decide +kernel
theorem dX11_checkSignature_125 : decode cX11_checkSignature 125 = .ok (.iaload, 1) := by decide +kernel
theorem dX11_checkSignature_126 : decode cX11_checkSignature 126 = .ok (.aload_n 0, 1) := by decide +kernel
theorem dX11_checkSignature_127 : decode cX11_checkSignature 127 = .ok (.iload_n 1, 1) := by decide +kernel
theorem dX11_checkSignature_128 : decode cX11_checkSignature 128 = .ok (.invokevirtual 249, 3) := by decide +kernel
theorem dX11_checkSignature_131 : decode cX11_checkSignature 131 = .ok (.if_icmp .eq 7, 3) := by decide +kernel
theorem dX11_checkSignature_134 : decode cX11_checkSignature 134 = .ok (.iconst 2, 1) := by decide +kernel
theorem dX11_checkSignature_135 : decode cX11_checkSignature 135 = .ok (.goto 4, 3) := by decide +kernel
theorem dX11_checkSignature_138 : decode cX11_checkSignature 138 = .ok (.iconst 1, 1) := by decide +kernel
theorem dX11_checkSignature_139 : decode cX11_checkSignature 139 = .ok (.ireturn, 1) := by decide +kernel
theorem dX11_chain_0 : decode cX11_chain 0 = .ok (.aload_n 0, 1) := by decide +kernel
theorem dX11_chain_1 : decode cX11_chain 1 = .ok (.getfield 190, 3) := by decide +kernel
theorem dX11_chain_4 : decode cX11_chain 4 = .ok (.ifCond .eq 10, 3) := by decide +kernel
theorem dX11_chain_7 : decode cX11_chain 7 = .ok (.aload_n 0, 1) := by decide +kernel
theorem dX11_chain_8 : decode cX11_chain 8 = .ok (.invokevirtual 269, 3) := by decide +kernel
theorem dX11_chain_11 : decode cX11_chain 11 = .ok (.goto 4, 3) := by decide +kernel
theorem dX11_chain_14 : decode cX11_chain 14 = .ok (.iconst (-1), 1) := by decide +kernel
theorem dX11_chain_15 : decode cX11_chain 15 = .ok (.ireturn, 1) := by decide +kernel
theorem dX11_chainState_0 : decode cX11_chainState 0 = .ok (.aload_n 0, 1) := by decide +kernel
theorem dX11_chainState_1 : decode cX11_chainState 1 = .ok (.getfield 209, 3) := by decide +kernel
theorem dX11_chainState_4 : decode cX11_chainState 4 = .ok (.ifCond .ne 5, 3) := by decide +kernel
theorem dX11_chainState_7 : decode cX11_chainState 7 = .ok (.iconst 0, 1) := by decide +kernel
theorem dX11_chainState_8 : decode cX11_chainState 8 = .ok (.ireturn, 1) := by decide +kernel
theorem dX11_chainState_9 : decode cX11_chainState 9 = .ok (.iconst 1, 1) := by decide +kernel
theorem dX11_chainState_10 : decode cX11_chainState 10 = .ok (.istore_n 1, 1) := by decide +kernel
theorem dX11_chainState_11 : decode cX11_chainState 11 = .ok (.iconst 0, 1) := by decide +kernel
theorem dX11_chainState_12 : decode cX11_chainState 12 = .ok (.istore_n 2, 1) := by decide +kernel
theorem dX11_chainState_13 : decode cX11_chainState 13 = .ok (.iload_n 2, 1) := by decide +kernel
theorem dX11_chainState_14 : decode cX11_chainState 14 = .ok (.aload_n 0, 1) := by decide +kernel
theorem dX11_chainState_15 : decode cX11_chainState 15 = .ok (.getfield 209, 3) := by decide +kernel
theorem dX11_chainState_18 : decode cX11_chainState 18 = .ok (.if_icmp .ge 89, 3) := by decide +kernel
theorem dX11_chainState_21 : decode cX11_chainState 21 = .ok (.aload_n 0, 1) := by decide +kernel
theorem dX11_chainState_22 : decode cX11_chainState 22 = .ok (.getfield 74, 3) := by decide +kernel
theorem dX11_chainState_25 : decode cX11_chainState 25 = .ok (.iconst 3, 1) := by decide +kernel
theorem dX11_chainState_26 : decode cX11_chainState 26 = .ok (.iload_n 2, 1) := by decide +kernel
theorem dX11_chainState_27 : decode cX11_chainState 27 = .ok (.iadd, 1) := by decide +kernel
theorem dX11_chainState_28 : decode cX11_chainState 28 = .ok (.iaload, 1) := by decide +kernel
theorem dX11_chainState_29 : decode cX11_chainState 29 = .ok (.istore_n 3, 1) := by decide +kernel
theorem dX11_chainState_30 : decode cX11_chainState 30 = .ok (.iload_n 1, 1) := by decide +kernel
theorem dX11_chainState_31 : decode cX11_chainState 31 = .ok (.ifCond .eq 68, 3) := by decide +kernel
theorem dX11_chainState_34 : decode cX11_chainState 34 = .ok (.aload_n 0, 1) := by decide +kernel
theorem dX11_chainState_35 : decode cX11_chainState 35 = .ok (.getfield 17, 3) := by decide +kernel
theorem dX11_chainState_38 : decode cX11_chainState 38 = .ok (.iload_n 3, 1) := by decide +kernel
theorem dX11_chainState_39 : decode cX11_chainState 39 = .ok (.baload, 1) := by decide +kernel
theorem dX11_chainState_40 : decode cX11_chainState 40 = .ok (.ifCond .ne 59, 3) := by decide +kernel
theorem dX11_chainState_43 : decode cX11_chainState 43 = .ok (.aload_n 0, 1) := by decide +kernel
theorem dX11_chainState_44 : decode cX11_chainState 44 = .ok (.getfield 47, 3) := by decide +kernel
theorem dX11_chainState_47 : decode cX11_chainState 47 = .ok (.iconst 2, 1) := by decide +kernel
theorem dX11_chainState_48 : decode cX11_chainState 48 = .ok (.iload_n 3, 1) := by decide +kernel
theorem dX11_chainState_49 : decode cX11_chainState 49 = .ok (.imul, 1) := by decide +kernel
theorem dX11_chainState_50 : decode cX11_chainState 50 = .ok (.aload_n 0, 1) := by decide +kernel
theorem dX11_chainState_51 : decode cX11_chainState 51 = .ok (.getfield 77, 3) := by decide +kernel
theorem dX11_chainState_54 : decode cX11_chainState 54 = .ok (.iconst 3, 1) := by decide +kernel
theorem dX11_chainState_55 : decode cX11_chainState 55 = .ok (.iload_n 2, 1) := by decide +kernel
theorem dX11_chainState_56 : decode cX11_chainState 56 = .ok (.iadd, 1) := by decide +kernel
theorem dX11_chainState_57 : decode cX11_chainState 57 = .ok (.iaload, 1) := by decide +kernel
theorem dX11_chainState_58 : decode cX11_chainState 58 = .ok (.iadd, 1) := by decide +kernel
theorem dX11_chainState_59 : decode cX11_chainState 59 = .ok (.iaload, 1) := by decide +kernel
theorem dX11_chainState_60 : decode cX11_chainState 60 = .ok (.ifCond .le 39, 3) := by decide +kernel
theorem dX11_chainState_63 : decode cX11_chainState 63 = .ok (.aload_n 0, 1) := by decide +kernel
theorem dX11_chainState_64 : decode cX11_chainState 64 = .ok (.getfield 98, 3) := by decide +kernel
theorem dX11_chainState_67 : decode cX11_chainState 67 = .ok (.iload_n 2, 1) := by decide +kernel
theorem dX11_chainState_68 : decode cX11_chainState 68 = .ok (.iaload, 1) := by decide +kernel
theorem dX11_chainState_69 : decode cX11_chainState 69 = .ok (.iload_n 2, 1) := by decide +kernel
theorem dX11_chainState_70 : decode cX11_chainState 70 = .ok (.ifCond .ne 7, 3) := by decide +kernel
theorem dX11_chainState_73 : decode cX11_chainState 73 = .ok (.iconst 0, 1) := by decide +kernel
theorem dX11_chainState_74 : decode cX11_chainState 74 = .ok (.goto 4, 3) := by decide +kernel
theorem dX11_chainState_77 : decode cX11_chainState 77 = .ok (.iconst 1, 1) := by decide +kernel
theorem dX11_chainState_78 : decode cX11_chainState 78 = .ok (.if_icmp .ne 21, 3) := by decide +kernel
theorem dX11_chainState_81 : decode cX11_chainState 81 = .ok (.aload_n 0, 1) := by decide +kernel
theorem dX11_chainState_82 : decode cX11_chainState 82 = .ok (.getfield 101, 3) := by decide +kernel
theorem dX11_chainState_85 : decode cX11_chainState 85 = .ok (.iload_n 2, 1) := by decide +kernel
theorem dX11_chainState_86 : decode cX11_chainState 86 = .ok (.iaload, 1) := by decide +kernel
theorem dX11_chainState_87 : decode cX11_chainState 87 = .ok (.aload_n 0, 1) := by decide +kernel
theorem dX11_chainState_88 : decode cX11_chainState 88 = .ok (.iload_n 2, 1) := by decide +kernel
theorem dX11_chainState_89 : decode cX11_chainState 89 = .ok (.invokevirtual 266, 3) := by decide +kernel
theorem dX11_chainState_92 : decode cX11_chainState 92 = .ok (.if_icmp .ne 7, 3) := by decide +kernel
theorem dX11_chainState_95 : decode cX11_chainState 95 = .ok (.iconst 1, 1) := by decide +kernel
theorem dX11_chainState_96 : decode cX11_chainState 96 = .ok (.goto 4, 3) := by decide +kernel
theorem dX11_chainState_99 : decode cX11_chainState 99 = .ok (.iconst 0, 1) := by decide +kernel
theorem dX11_chainState_100 : decode cX11_chainState 100 = .ok (.istore_n 1, 1) := by decide +kernel
theorem dX11_chainState_101 : decode cX11_chainState 101 = .ok (.iinc 2 1, 3) := by decide +kernel
theorem dX11_chainState_104 : decode cX11_chainState 104 = .ok (.goto (-91), 3) := by decide +kernel
theorem dX11_chainState_107 : decode cX11_chainState 107 = .ok (.iload_n 1, 1) := by decide +kernel
theorem dX11_chainState_108 : decode cX11_chainState 108 = .ok (.ifCond .eq 21, 3) := by decide +kernel
theorem dX11_chainState_111 : decode cX11_chainState 111 = .ok (.aload_n 0, 1) := by decide +kernel
theorem dX11_chainState_112 : decode cX11_chainState 112 = .ok (.iconst 2, 1) := by decide +kernel
theorem dX11_chainState_113 : decode cX11_chainState 113 = .ok (.aload_n 0, 1) := by decide +kernel
theorem dX11_chainState_114 : decode cX11_chainState 114 = .ok (.getfield 209, 3) := by decide +kernel
theorem dX11_chainState_117 : decode cX11_chainState 117 = .ok (.iadd, 1) := by decide +kernel
theorem dX11_chainState_118 : decode cX11_chainState 118 = .ok (.invokevirtual 263, 3) := by decide +kernel
theorem dX11_chainState_121 : decode cX11_chainState 121 = .ok (.iconst 1, 1) := by decide +kernel
theorem dX11_chainState_122 : decode cX11_chainState 122 = .ok (.if_icmp .ne 7, 3) := by decide +kernel
theorem dX11_chainState_125 : decode cX11_chainState 125 = .ok (.iconst 1, 1) := by decide +kernel
theorem dX11_chainState_126 : decode cX11_chainState 126 = .ok (.goto 4, 3) := by decide +kernel
theorem dX11_chainState_129 : decode cX11_chainState 129 = .ok (.iconst 2, 1) := by decide +kernel
theorem dX11_chainState_130 : decode cX11_chainState 130 = .ok (.ireturn, 1) := by decide +kernel
theorem dX11_coverOf_0 : decode cX11_coverOf 0 = .ok (.iconst 3, 1) := by decide +kernel
theorem dX11_coverOf_1 : decode cX11_coverOf 1 = .ok (.iload_n 1, 1) := by decide +kernel
theorem dX11_coverOf_2 : decode cX11_coverOf 2 = .ok (.iadd, 1) := by decide +kernel
theorem dX11_coverOf_3 : decode cX11_coverOf 3 = .ok (.istore_n 2, 1) := by decide +kernel
theorem dX11_coverOf_4 : decode cX11_coverOf 4 = .ok (.aload_n 0, 1) := by decide +kernel
theorem dX11_coverOf_5 : decode cX11_coverOf 5 = .ok (.lconst 0, 1) := by decide +kernel
theorem dX11_coverOf_6 : decode cX11_coverOf 6 = .ok (.putfield 234, 3) := by decide +kernel
theorem dX11_coverOf_9 : decode cX11_coverOf 9 = .ok (.aload_n 0, 1) := by decide +kernel
theorem dX11_coverOf_10 : decode cX11_coverOf 10 = .ok (.aload_n 0, 1) := by decide +kernel
theorem dX11_coverOf_11 : decode cX11_coverOf 11 = .ok (.getfield 47, 3) := by decide +kernel
theorem dX11_coverOf_14 : decode cX11_coverOf 14 = .ok (.iconst 2, 1) := by decide +kernel
theorem dX11_coverOf_15 : decode cX11_coverOf 15 = .ok (.aload_n 0, 1) := by decide +kernel
theorem dX11_coverOf_16 : decode cX11_coverOf 16 = .ok (.getfield 74, 3) := by decide +kernel
theorem dX11_coverOf_19 : decode cX11_coverOf 19 = .ok (.iload_n 2, 1) := by decide +kernel
theorem dX11_coverOf_20 : decode cX11_coverOf 20 = .ok (.iaload, 1) := by decide +kernel
theorem dX11_coverOf_21 : decode cX11_coverOf 21 = .ok (.imul, 1) := by decide +kernel
theorem dX11_coverOf_22 : decode cX11_coverOf 22 = .ok (.aload_n 0, 1) := by decide +kernel
theorem dX11_coverOf_23 : decode cX11_coverOf 23 = .ok (.getfield 77, 3) := by decide +kernel
theorem dX11_coverOf_26 : decode cX11_coverOf 26 = .ok (.iload_n 2, 1) := by decide +kernel
theorem dX11_coverOf_27 : decode cX11_coverOf 27 = .ok (.iaload, 1) := by decide +kernel
theorem dX11_coverOf_28 : decode cX11_coverOf 28 = .ok (.iadd, 1) := by decide +kernel
theorem dX11_coverOf_29 : decode cX11_coverOf 29 = .ok (.iaload, 1) := by decide +kernel
theorem dX11_coverOf_30 : decode cX11_coverOf 30 = .ok (.invokevirtual 240, 3) := by decide +kernel
theorem dX11_coverOf_33 : decode cX11_coverOf 33 = .ok (.aload_n 0, 1) := by decide +kernel
theorem dX11_coverOf_34 : decode cX11_coverOf 34 = .ok (.aload_n 0, 1) := by decide +kernel
theorem dX11_coverOf_35 : decode cX11_coverOf 35 = .ok (.getfield 74, 3) := by decide +kernel
theorem dX11_coverOf_38 : decode cX11_coverOf 38 = .ok (.iload_n 2, 1) := by decide +kernel
theorem dX11_coverOf_39 : decode cX11_coverOf 39 = .ok (.iaload, 1) := by decide +kernel
theorem dX11_coverOf_40 : decode cX11_coverOf 40 = .ok (.invokevirtual 240, 3) := by decide +kernel
theorem dX11_coverOf_43 : decode cX11_coverOf 43 = .ok (.aload_n 0, 1) := by decide +kernel
theorem dX11_coverOf_44 : decode cX11_coverOf 44 = .ok (.aload_n 0, 1) := by decide +kernel
theorem dX11_coverOf_45 : decode cX11_coverOf 45 = .ok (.getfield 77, 3) := by decide +kernel
theorem dX11_coverOf_48 : decode cX11_coverOf 48 = .ok (.iload_n 2, 1) := by decide +kernel
theorem dX11_coverOf_49 : decode cX11_coverOf 49 = .ok (.iaload, 1) := by decide +kernel
theorem dX11_coverOf_50 : decode cX11_coverOf 50 = .ok (.invokevirtual 240, 3) := by decide +kernel
theorem dX11_coverOf_53 : decode cX11_coverOf 53 = .ok (.aload_n 0, 1) := by decide +kernel
theorem dX11_coverOf_54 : decode cX11_coverOf 54 = .ok (.aload_n 0, 1) := by decide +kernel
theorem dX11_coverOf_55 : decode cX11_coverOf 55 = .ok (.getfield 98, 3) := by decide +kernel
theorem dX11_coverOf_58 : decode cX11_coverOf 58 = .ok (.iload_n 1, 1) := by decide +kernel
theorem dX11_coverOf_59 : decode cX11_coverOf 59 = .ok (.iaload, 1) := by decide +kernel
theorem dX11_coverOf_60 : decode cX11_coverOf 60 = .ok (.invokevirtual 240, 3) := by decide +kernel
theorem dX11_coverOf_63 : decode cX11_coverOf 63 = .ok (.aload_n 0, 1) := by decide +kernel
theorem dX11_coverOf_64 : decode cX11_coverOf 64 = .ok (.aload_n 0, 1) := by decide +kernel
theorem dX11_coverOf_65 : decode cX11_coverOf 65 = .ok (.getfield 95, 3) := by decide +kernel
theorem dX11_coverOf_68 : decode cX11_coverOf 68 = .ok (.iload_n 2, 1) := by decide +kernel
theorem dX11_coverOf_69 : decode cX11_coverOf 69 = .ok (.iaload, 1) := by decide +kernel
theorem dX11_coverOf_70 : decode cX11_coverOf 70 = .ok (.invokevirtual 240, 3) := by decide +kernel
theorem dX11_coverOf_73 : decode cX11_coverOf 73 = .ok (.iconst 0, 1) := by decide +kernel
theorem dX11_coverOf_74 : decode cX11_coverOf 74 = .ok (.istore_n 3, 1) := by decide +kernel
theorem dX11_coverOf_75 : decode cX11_coverOf 75 = .ok (.iload_n 3, 1) := by decide +kernel
theorem dX11_coverOf_76 : decode cX11_coverOf 76 = .ok (.iload_n 1, 1) := by decide +kernel
theorem dX11_coverOf_77 : decode cX11_coverOf 77 = .ok (.if_icmp .ge 19, 3) := by decide +kernel
theorem dX11_coverOf_80 : decode cX11_coverOf 80 = .ok (.aload_n 0, 1) := by decide +kernel
theorem dX11_coverOf_81 : decode cX11_coverOf 81 = .ok (.aload_n 0, 1) := by decide +kernel
theorem dX11_coverOf_82 : decode cX11_coverOf 82 = .ok (.getfield 101, 3) := by decide +kernel
theorem dX11_coverOf_85 : decode cX11_coverOf 85 = .ok (.iload_n 3, 1) := by decide +kernel
theorem dX11_coverOf_86 : decode cX11_coverOf 86 = .ok (.iaload, 1) := by decide +kernel
theorem dX11_coverOf_87 : decode cX11_coverOf 87 = .ok (.invokevirtual 240, 3) := by decide +kernel
theorem dX11_coverOf_90 : decode cX11_coverOf 90 = .ok (.iinc 3 1, 3) := by decide +kernel
theorem dX11_coverOf_93 : decode cX11_coverOf 93 = .ok (.goto (-18), 3) := by decide +kernel
theorem dX11_coverOf_96 : decode cX11_coverOf 96 = .ok (.aload_n 0, 1) := by decide +kernel
theorem dX11_coverOf_97 : decode cX11_coverOf 97 = .ok (.invokevirtual 243, 3) := by decide +kernel
theorem dX11_coverOf_100 : decode cX11_coverOf 100 = .ok (.ireturn, 1) := by decide +kernel
theorem dX11_link_0 : decode cX11_link 0 = .ok (.aload_n 0, 1) := by decide +kernel
theorem dX11_link_1 : decode cX11_link 1 = .ok (.getfield 190, 3) := by decide +kernel
theorem dX11_link_4 : decode cX11_link 4 = .ok (.ifCond .eq 33, 3) := by decide +kernel
theorem dX11_link_7 : decode cX11_link 7 = .ok (.aload_n 0, 1) := by decide +kernel
theorem dX11_link_8 : decode cX11_link 8 = .ok (.iload_n 1, 1) := by decide +kernel
theorem dX11_link_9 : decode cX11_link 9 = .ok (.invokevirtual 132, 3) := by decide +kernel
theorem dX11_link_12 : decode cX11_link 12 = .ok (.ifCond .eq 25, 3) := by decide +kernel
theorem dX11_link_15 : decode cX11_link 15 = .ok (.iload_n 2, 1) := by decide +kernel
theorem dX11_link_16 : decode cX11_link 16 = .ok (.ifCond .lt 21, 3) := by decide +kernel
theorem dX11_link_19 : decode cX11_link 19 = .ok (.iload_n 2, 1) := by decide +kernel
theorem dX11_link_20 : decode cX11_link 20 = .ok (.iconst 1, 1) := by decide +kernel
theorem dX11_link_21 : decode cX11_link 21 = .ok (.if_icmp .gt 16, 3) := by decide +kernel
theorem dX11_link_24 : decode cX11_link 24 = .ok (.aload_n 0, 1) := by decide +kernel
theorem dX11_link_25 : decode cX11_link 25 = .ok (.getfield 47, 3) := by decide +kernel
theorem dX11_link_28 : decode cX11_link 28 = .ok (.iconst 2, 1) := by decide +kernel
theorem dX11_link_29 : decode cX11_link 29 = .ok (.iload_n 1, 1) := by decide +kernel
theorem dX11_link_30 : decode cX11_link 30 = .ok (.imul, 1) := by decide +kernel
theorem dX11_link_31 : decode cX11_link 31 = .ok (.iload_n 2, 1) := by decide +kernel
theorem dX11_link_32 : decode cX11_link 32 = .ok (.iadd, 1) := by decide +kernel
theorem dX11_link_33 : decode cX11_link 33 = .ok (.iaload, 1) := by decide +kernel
theorem dX11_link_34 : decode cX11_link 34 = .ok (.ifCond .ne 5, 3) := by decide +kernel
theorem dX11_link_37 : decode cX11_link 37 = .ok (.iconst (-1), 1) := by decide +kernel
theorem dX11_link_38 : decode cX11_link 38 = .ok (.ireturn, 1) := by decide +kernel
theorem dX11_link_39 : decode cX11_link 39 = .ok (.aload_n 0, 1) := by decide +kernel
theorem dX11_link_40 : decode cX11_link 40 = .ok (.invokevirtual 269, 3) := by decide +kernel
theorem dX11_link_43 : decode cX11_link 43 = .ok (.istore_n 3, 1) := by decide +kernel
theorem dX11_link_44 : decode cX11_link 44 = .ok (.iload_n 3, 1) := by decide +kernel
theorem dX11_link_45 : decode cX11_link 45 = .ok (.iconst 2, 1) := by decide +kernel
theorem dX11_link_46 : decode cX11_link 46 = .ok (.if_icmp .ne 5, 3) := by decide +kernel
theorem dX11_link_49 : decode cX11_link 49 = .ok (.iconst (-1), 1) := by decide +kernel
theorem dX11_link_50 : decode cX11_link 50 = .ok (.ireturn, 1) := by decide +kernel
theorem dX11_link_51 : decode cX11_link 51 = .ok (.aload_n 0, 1) := by decide +kernel
theorem dX11_link_52 : decode cX11_link 52 = .ok (.getfield 209, 3) := by decide +kernel
theorem dX11_link_55 : decode cX11_link 55 = .ok (.iconst 4, 1) := by decide +kernel
theorem dX11_link_56 : decode cX11_link 56 = .ok (.if_icmp .ne 6, 3) := by decide +kernel
theorem dX11_link_59 : decode cX11_link 59 = .ok (.bipush (-2), 2) := by decide +kernel
theorem dX11_link_61 : decode cX11_link 61 = .ok (.ireturn, 1) := by decide +kernel
theorem dX11_link_62 : decode cX11_link 62 = .ok (.aload_n 0, 1) := by decide +kernel
theorem dX11_link_63 : decode cX11_link 63 = .ok (.iconst 3, 1) := by decide +kernel
theorem dX11_link_64 : decode cX11_link 64 = .ok (.aload_n 0, 1) := by decide +kernel
theorem dX11_link_65 : decode cX11_link 65 = .ok (.getfield 209, 3) := by decide +kernel
theorem dX11_link_68 : decode cX11_link 68 = .ok (.iadd, 1) := by decide +kernel
theorem dX11_link_69 : decode cX11_link 69 = .ok (.iload_n 1, 1) := by decide +kernel
theorem dX11_link_70 : decode cX11_link 70 = .ok (.iload_n 2, 1) := by decide +kernel
theorem dX11_link_71 : decode cX11_link 71 = .ok (.iconst 3, 1) := by decide +kernel
theorem dX11_link_72 : decode cX11_link 72 = .ok (.sipush 255, 3) := by decide +kernel
theorem dX11_link_75 : decode cX11_link 75 = .ok (.iconst (-1), 1) := by decide +kernel
theorem dX11_link_76 : decode cX11_link 76 = .ok (.iconst (-1), 1) := by decide +kernel
theorem dX11_link_77 : decode cX11_link 77 = .ok (.invokevirtual 259, 3) := by decide +kernel
theorem dX11_link_80 : decode cX11_link 80 = .ok (.aload_n 0, 1) := by decide +kernel
theorem dX11_link_81 : decode cX11_link 81 = .ok (.getfield 98, 3) := by decide +kernel
theorem dX11_link_84 : decode cX11_link 84 = .ok (.aload_n 0, 1) := by decide +kernel
theorem dX11_link_85 : decode cX11_link 85 = .ok (.getfield 209, 3) := by decide +kernel
theorem dX11_link_88 : decode cX11_link 88 = .ok (.iload_n 3, 1) := by decide +kernel
theorem dX11_link_89 : decode cX11_link 89 = .ok (.iastore, 1) := by decide +kernel
theorem dX11_link_90 : decode cX11_link 90 = .ok (.aload_n 0, 1) := by decide +kernel
theorem dX11_link_91 : decode cX11_link 91 = .ok (.getfield 101, 3) := by decide +kernel
theorem dX11_link_94 : decode cX11_link 94 = .ok (.aload_n 0, 1) := by decide +kernel
theorem dX11_link_95 : decode cX11_link 95 = .ok (.getfield 209, 3) := by decide +kernel
theorem dX11_link_98 : decode cX11_link 98 = .ok (.aload_n 0, 1) := by decide +kernel
theorem dX11_link_99 : decode cX11_link 99 = .ok (.aload_n 0, 1) := by decide +kernel
theorem dX11_link_100 : decode cX11_link 100 = .ok (.getfield 209, 3) := by decide +kernel
theorem dX11_link_103 : decode cX11_link 103 = .ok (.invokevirtual 266, 3) := by decide +kernel
theorem dX11_link_106 : decode cX11_link 106 = .ok (.iastore, 1) := by decide +kernel
theorem dX11_link_107 : decode cX11_link 107 = .ok (.aload_n 0, 1) := by decide +kernel
theorem dX11_link_108 : decode cX11_link 108 = .ok (.dup, 1) := by decide +kernel
theorem dX11_link_109 : decode cX11_link 109 = .ok (.getfield 209, 3) := by decide +kernel
theorem dX11_link_112 : decode cX11_link 112 = .ok (.iconst 1, 1) := by decide +kernel
theorem dX11_link_113 : decode cX11_link 113 = .ok (.iadd, 1) := by decide +kernel
theorem dX11_link_114 : decode cX11_link 114 = .ok (.putfield 209, 3) := by decide +kernel
theorem dX11_link_117 : decode cX11_link 117 = .ok (.aload_n 0, 1) := by decide +kernel
theorem dX11_link_118 : decode cX11_link 118 = .ok (.getfield 209, 3) := by decide +kernel
theorem dX11_link_121 : decode cX11_link 121 = .ok (.iconst 1, 1) := by decide +kernel
theorem dX11_link_122 : decode cX11_link 122 = .ok (.isub, 1) := by decide +kernel
theorem dX11_link_123 : decode cX11_link 123 = .ok (.ireturn, 1) := by decide +kernel
theorem dX11_judge_0 : decode cX11_judge 0 = .ok (.aload_n 0, 1) := by decide +kernel
theorem dX11_judge_1 : decode cX11_judge 1 = .ok (.getfield 190, 3) := by decide +kernel
theorem dX11_judge_4 : decode cX11_judge 4 = .ok (.ifCond .eq 13, 3) := by decide +kernel
theorem dX11_judge_7 : decode cX11_judge 7 = .ok (.iload_n 1, 1) := by decide +kernel
theorem dX11_judge_8 : decode cX11_judge 8 = .ok (.ifCond .lt 9, 3) := by decide +kernel
theorem dX11_judge_11 : decode cX11_judge 11 = .ok (.iload_n 1, 1) := by decide +kernel
theorem dX11_judge_12 : decode cX11_judge 12 = .ok (.bipush 99, 2) := by decide +kernel
theorem dX11_judge_14 : decode cX11_judge 14 = .ok (.if_icmp .le 5, 3) := by decide +kernel
theorem dX11_judge_17 : decode cX11_judge 17 = .ok (.iconst (-1), 1) := by decide +kernel
theorem dX11_judge_18 : decode cX11_judge 18 = .ok (.ireturn, 1) := by decide +kernel
theorem dX11_judge_19 : decode cX11_judge 19 = .ok (.aload_n 0, 1) := by decide +kernel
theorem dX11_judge_20 : decode cX11_judge 20 = .ok (.aload_n 0, 1) := by decide +kernel
theorem dX11_judge_21 : decode cX11_judge 21 = .ok (.getfield 197, 3) := by decide +kernel
theorem dX11_judge_24 : decode cX11_judge 24 = .ok (.invokevirtual 136, 3) := by decide +kernel
theorem dX11_judge_27 : decode cX11_judge 27 = .ok (.istore_n 2, 1) := by decide +kernel
theorem dX11_judge_28 : decode cX11_judge 28 = .ok (.aload_n 0, 1) := by decide +kernel
theorem dX11_judge_29 : decode cX11_judge 29 = .ok (.getfield 50, 3) := by decide +kernel
theorem dX11_judge_32 : decode cX11_judge 32 = .ok (.aload_n 0, 1) := by decide +kernel
theorem dX11_judge_33 : decode cX11_judge 33 = .ok (.getfield 197, 3) := by decide +kernel
theorem dX11_judge_36 : decode cX11_judge 36 = .ok (.iaload, 1) := by decide +kernel
theorem dX11_judge_37 : decode cX11_judge 37 = .ok (.ifCond .lt 10, 3) := by decide +kernel
theorem dX11_judge_40 : decode cX11_judge 40 = .ok (.aload_n 0, 1) := by decide +kernel
theorem dX11_judge_41 : decode cX11_judge 41 = .ok (.getfield 197, 3) := by decide +kernel
theorem dX11_judge_44 : decode cX11_judge 44 = .ok (.goto 17, 3) := by decide +kernel
theorem dX11_judge_47 : decode cX11_judge 47 = .ok (.aload_n 0, 1) := by decide +kernel
theorem dX11_judge_48 : decode cX11_judge 48 = .ok (.getfield 50, 3) := by decide +kernel
theorem dX11_judge_51 : decode cX11_judge 51 = .ok (.iload_n 2, 1) := by decide +kernel
theorem dX11_judge_52 : decode cX11_judge 52 = .ok (.iaload, 1) := by decide +kernel
theorem dX11_judge_53 : decode cX11_judge 53 = .ok (.ifCond .lt 7, 3) := by decide +kernel
theorem dX11_judge_56 : decode cX11_judge 56 = .ok (.iload_n 2, 1) := by decide +kernel
theorem dX11_judge_57 : decode cX11_judge 57 = .ok (.goto 4, 3) := by decide +kernel
theorem dX11_judge_60 : decode cX11_judge 60 = .ok (.iconst (-1), 1) := by decide +kernel
theorem dX11_judge_61 : decode cX11_judge 61 = .ok (.istore_n 3, 1) := by decide +kernel
theorem dX11_judge_62 : decode cX11_judge 62 = .ok (.aload_n 0, 1) := by decide +kernel
theorem dX11_judge_63 : decode cX11_judge 63 = .ok (.getfield 17, 3) := by decide +kernel
theorem dX11_judge_66 : decode cX11_judge 66 = .ok (.aload_n 0, 1) := by decide +kernel
theorem dX11_judge_67 : decode cX11_judge 67 = .ok (.getfield 197, 3) := by decide +kernel
theorem dX11_judge_70 : decode cX11_judge 70 = .ok (.baload, 1) := by decide +kernel
theorem dX11_judge_71 : decode cX11_judge 71 = .ok (.ifCond .ne 12, 3) := by decide +kernel
theorem dX11_judge_74 : decode cX11_judge 74 = .ok (.aload_n 0, 1) := by decide +kernel
theorem dX11_judge_75 : decode cX11_judge 75 = .ok (.getfield 17, 3) := by decide +kernel
theorem dX11_judge_78 : decode cX11_judge 78 = .ok (.iload_n 2, 1) := by decide +kernel
theorem dX11_judge_79 : decode cX11_judge 79 = .ok (.baload, 1) := by decide +kernel
theorem dX11_judge_80 : decode cX11_judge 80 = .ok (.ifCond .eq 7, 3) := by decide +kernel
theorem dX11_judge_83 : decode cX11_judge 83 = .ok (.iconst (-1), 1) := by decide +kernel
theorem dX11_judge_84 : decode cX11_judge 84 = .ok (.goto 4, 3) := by decide +kernel
theorem dX11_judge_87 : decode cX11_judge 87 = .ok (.iload_n 3, 1) := by decide +kernel
theorem dX11_judge_88 : decode cX11_judge 88 = .ok (.istore_n 3, 1) := by decide +kernel
theorem dX11_judge_89 : decode cX11_judge 89 = .ok (.iload_n 3, 1) := by decide +kernel
theorem dX11_judge_90 : decode cX11_judge 90 = .ok (.ifCond .ge 7, 3) := by decide +kernel
theorem dX11_judge_93 : decode cX11_judge 93 = .ok (.iconst 0, 1) := by decide +kernel
theorem dX11_judge_94 : decode cX11_judge 94 = .ok (.goto 9, 3) := by decide +kernel
theorem dX11_judge_97 : decode cX11_judge 97 = .ok (.aload_n 0, 1) := by decide +kernel
theorem dX11_judge_98 : decode cX11_judge 98 = .ok (.getfield 56, 3) := by decide +kernel
theorem dX11_judge_101 : decode cX11_judge 101 = .ok (.iload_n 3, 1) := by decide +kernel
theorem dX11_judge_102 : decode cX11_judge 102 = .ok (.iaload, 1) := by decide +kernel
theorem dX11_judge_103 : decode cX11_judge 103 = .ok (.istore 4, 2) := by decide +kernel
theorem dX11_judge_105 : decode cX11_judge 105 = .ok (.iload_n 3, 1) := by decide +kernel
theorem dX11_judge_106 : decode cX11_judge 106 = .ok (.ifCond .ge 7, 3) := by decide +kernel
theorem dX11_judge_109 : decode cX11_judge 109 = .ok (.iconst 0, 1) := by decide +kernel
theorem dX11_judge_110 : decode cX11_judge 110 = .ok (.goto 26, 3) := by decide +kernel
theorem dX11_judge_113 : decode cX11_judge 113 = .ok (.iload_n 3, 1) := by decide +kernel
theorem dX11_judge_114 : decode cX11_judge 114 = .ok (.aload_n 0, 1) := by decide +kernel
theorem dX11_judge_115 : decode cX11_judge 115 = .ok (.getfield 197, 3) := by decide +kernel
theorem dX11_judge_118 : decode cX11_judge 118 = .ok (.if_icmp .ne 12, 3) := by decide +kernel
theorem dX11_judge_121 : decode cX11_judge 121 = .ok (.aload_n 0, 1) := by decide +kernel
theorem dX11_judge_122 : decode cX11_judge 122 = .ok (.getfield 50, 3) := by decide +kernel
theorem dX11_judge_125 : decode cX11_judge 125 = .ok (.iload_n 3, 1) := by decide +kernel
theorem dX11_judge_126 : decode cX11_judge 126 = .ok (.iaload, 1) := by decide +kernel
theorem dX11_judge_127 : decode cX11_judge 127 = .ok (.goto 9, 3) := by decide +kernel
theorem dX11_judge_130 : decode cX11_judge 130 = .ok (.aload_n 0, 1) := by decide +kernel
theorem dX11_judge_131 : decode cX11_judge 131 = .ok (.getfield 53, 3) := by decide +kernel
theorem dX11_judge_134 : decode cX11_judge 134 = .ok (.iload_n 3, 1) := by decide +kernel
theorem dX11_judge_135 : decode cX11_judge 135 = .ok (.iaload, 1) := by decide +kernel
theorem dX11_judge_136 : decode cX11_judge 136 = .ok (.istore 5, 2) := by decide +kernel
theorem dX11_judge_138 : decode cX11_judge 138 = .ok (.iload_n 3, 1) := by decide +kernel
theorem dX11_judge_139 : decode cX11_judge 139 = .ok (.ifCond .ge 8, 3) := by decide +kernel
theorem dX11_judge_142 : decode cX11_judge 142 = .ok (.bipush 100, 2) := by decide +kernel
theorem dX11_judge_144 : decode cX11_judge 144 = .ok (.goto 9, 3) := by decide +kernel
theorem dX11_judge_147 : decode cX11_judge 147 = .ok (.aload_n 0, 1) := by decide +kernel
theorem dX11_judge_148 : decode cX11_judge 148 = .ok (.getfield 59, 3) := by decide +kernel
theorem dX11_judge_151 : decode cX11_judge 151 = .ok (.iload_n 3, 1) := by decide +kernel
theorem dX11_judge_152 : decode cX11_judge 152 = .ok (.iaload, 1) := by decide +kernel
theorem dX11_judge_153 : decode cX11_judge 153 = .ok (.istore 6, 2) := by decide +kernel
theorem dX11_judge_155 : decode cX11_judge 155 = .ok (.aload_n 0, 1) := by decide +kernel
theorem dX11_judge_156 : decode cX11_judge 156 = .ok (.invokevirtual 194, 3) := by decide +kernel
theorem dX11_judge_159 : decode cX11_judge 159 = .ok (.istore 7, 2) := by decide +kernel
theorem dX11_judge_161 : decode cX11_judge 161 = .ok (.iload 7, 2) := by decide +kernel
theorem dX11_judge_163 : decode cX11_judge 163 = .ok (.iconst 1, 1) := by decide +kernel
theorem dX11_judge_164 : decode cX11_judge 164 = .ok (.if_icmp .ne 30, 3) := by decide +kernel
theorem dX11_judge_167 : decode cX11_judge 167 = .ok (.aload_n 0, 1) := by decide +kernel
theorem dX11_judge_168 : decode cX11_judge 168 = .ok (.aload_n 0, 1) := by decide +kernel
theorem dX11_judge_169 : decode cX11_judge 169 = .ok (.getfield 184, 3) := by decide +kernel
theorem dX11_judge_172 : decode cX11_judge 172 = .ok (.iload 4, 2) := by decide +kernel
theorem dX11_judge_174 : decode cX11_judge 174 = .ok (.iconst 2, 1) := by decide +kernel
theorem dX11_judge_175 : decode cX11_judge 175 = .ok (.iand, 1) := by decide +kernel
theorem dX11_judge_176 : decode cX11_judge 176 = .ok (.ifCond .eq 7, 3) := by decide +kernel
theorem dX11_judge_179 : decode cX11_judge 179 = .ok (.iconst 1, 1) := by decide +kernel
theorem dX11_judge_180 : decode cX11_judge 180 = .ok (.goto 4, 3) := by decide +kernel
theorem dX11_judge_183 : decode cX11_judge 183 = .ok (.iconst 0, 1) := by decide +kernel
theorem dX11_judge_184 : decode cX11_judge 184 = .ok (.invokevirtual 275, 3) := by decide +kernel
theorem dX11_judge_187 : decode cX11_judge 187 = .ok (.ifCond .eq 7, 3) := by decide +kernel
theorem dX11_judge_190 : decode cX11_judge 190 = .ok (.iconst 1, 1) := by decide +kernel
theorem dX11_judge_191 : decode cX11_judge 191 = .ok (.goto 4, 3) := by decide +kernel
theorem dX11_judge_194 : decode cX11_judge 194 = .ok (.iconst 0, 1) := by decide +kernel
theorem dX11_judge_195 : decode cX11_judge 195 = .ok (.istore 8, 2) := by decide +kernel
theorem dX11_judge_197 : decode cX11_judge 197 = .ok (.iconst 0, 1) := by decide +kernel
theorem dX11_judge_198 : decode cX11_judge 198 = .ok (.istore 9, 2) := by decide +kernel
theorem dX11_judge_200 : decode cX11_judge 200 = .ok (.iload 9, 2) := by decide +kernel
theorem dX11_judge_202 : decode cX11_judge 202 = .ok (.aload_n 0, 1) := by decide +kernel
theorem dX11_judge_203 : decode cX11_judge 203 = .ok (.getfield 206, 3) := by decide +kernel
theorem dX11_judge_206 : decode cX11_judge 206 = .ok (.if_icmp .ge 57, 3) := by decide +kernel
theorem dX11_judge_209 : decode cX11_judge 209 = .ok (.iload 8, 2) := by decide +kernel
theorem dX11_judge_211 : decode cX11_judge 211 = .ok (.ifCond .ne 39, 3) := by decide +kernel
theorem dX11_judge_214 : decode cX11_judge 214 = .ok (.aload_n 0, 1) := by decide +kernel
theorem dX11_judge_215 : decode cX11_judge 215 = .ok (.aload_n 0, 1) := by decide +kernel
theorem dX11_judge_216 : decode cX11_judge 216 = .ok (.getfield 74, 3) := by decide +kernel
theorem dX11_judge_219 : decode cX11_judge 219 = .ok (.iload 9, 2) := by decide +kernel
theorem dX11_judge_221 : decode cX11_judge 221 = .ok (.iaload, 1) := by decide +kernel
theorem dX11_judge_222 : decode cX11_judge 222 = .ok (.iload 4, 2) := by decide +kernel
theorem dX11_judge_224 : decode cX11_judge 224 = .ok (.iconst 1, 1) := by decide +kernel
theorem dX11_judge_225 : decode cX11_judge 225 = .ok (.iand, 1) := by decide +kernel
theorem dX11_judge_226 : decode cX11_judge 226 = .ok (.ifCond .eq 7, 3) := by decide +kernel
theorem dX11_judge_229 : decode cX11_judge 229 = .ok (.iconst 1, 1) := by decide +kernel
theorem dX11_judge_230 : decode cX11_judge 230 = .ok (.goto 4, 3) := by decide +kernel
theorem dX11_judge_233 : decode cX11_judge 233 = .ok (.iconst 0, 1) := by decide +kernel
theorem dX11_judge_234 : decode cX11_judge 234 = .ok (.invokevirtual 275, 3) := by decide +kernel
theorem dX11_judge_237 : decode cX11_judge 237 = .ok (.ifCond .eq 17, 3) := by decide +kernel
theorem dX11_judge_240 : decode cX11_judge 240 = .ok (.aload_n 0, 1) := by decide +kernel
theorem dX11_judge_241 : decode cX11_judge 241 = .ok (.iload 9, 2) := by decide +kernel
theorem dX11_judge_243 : decode cX11_judge 243 = .ok (.invokevirtual 263, 3) := by decide +kernel
theorem dX11_judge_246 : decode cX11_judge 246 = .ok (.iconst 1, 1) := by decide +kernel
theorem dX11_judge_247 : decode cX11_judge 247 = .ok (.if_icmp .ne 7, 3) := by decide +kernel
theorem dX11_judge_250 : decode cX11_judge 250 = .ok (.iconst 1, 1) := by decide +kernel
theorem dX11_judge_251 : decode cX11_judge 251 = .ok (.goto 4, 3) := by decide +kernel
theorem dX11_judge_254 : decode cX11_judge 254 = .ok (.iconst 0, 1) := by decide +kernel
theorem dX11_judge_255 : decode cX11_judge 255 = .ok (.istore 8, 2) := by decide +kernel
theorem dX11_judge_257 : decode cX11_judge 257 = .ok (.iinc 9 1, 3) := by decide +kernel
theorem dX11_judge_260 : decode cX11_judge 260 = .ok (.goto (-60), 3) := by decide +kernel
theorem dX11_judge_263 : decode cX11_judge 263 = .ok (.iload 8, 2) := by decide +kernel
theorem dX11_judge_265 : decode cX11_judge 265 = .ok (.ifCond .ne 8, 3) := by decide +kernel
theorem dX11_judge_268 : decode cX11_judge 268 = .ok (.iload 5, 2) := by decide +kernel
theorem dX11_judge_270 : decode cX11_judge 270 = .ok (.ifCond .ne 7, 3) := by decide +kernel
theorem dX11_judge_273 : decode cX11_judge 273 = .ok (.iconst 0, 1) := by decide +kernel
theorem dX11_judge_274 : decode cX11_judge 274 = .ok (.goto 18, 3) := by decide +kernel
theorem dX11_judge_277 : decode cX11_judge 277 = .ok (.iload_n 1, 1) := by decide +kernel
theorem dX11_judge_278 : decode cX11_judge 278 = .ok (.iload 6, 2) := by decide +kernel
theorem dX11_judge_280 : decode cX11_judge 280 = .ok (.if_icmp .lt 10, 3) := by decide +kernel
theorem dX11_judge_283 : decode cX11_judge 283 = .ok (.iload 5, 2) := by decide +kernel
theorem dX11_judge_285 : decode cX11_judge 285 = .ok (.iconst 1, 1) := by decide +kernel
theorem dX11_judge_286 : decode cX11_judge 286 = .ok (.isub, 1) := by decide +kernel
theorem dX11_judge_287 : decode cX11_judge 287 = .ok (.goto 5, 3) := by decide +kernel
theorem dX11_judge_290 : decode cX11_judge 290 = .ok (.iload 5, 2) := by decide +kernel
theorem dX11_judge_292 : decode cX11_judge 292 = .ok (.istore 9, 2) := by decide +kernel
theorem dX11_judge_294 : decode cX11_judge 294 = .ok (.aload_n 0, 1) := by decide +kernel
theorem dX11_judge_295 : decode cX11_judge 295 = .ok (.iload 9, 2) := by decide +kernel
theorem dX11_judge_297 : decode cX11_judge 297 = .ok (.iload 7, 2) := by decide +kernel
theorem dX11_judge_299 : decode cX11_judge 299 = .ok (.invokevirtual 279, 3) := by decide +kernel
theorem dX11_judge_302 : decode cX11_judge 302 = .ok (.iload 8, 2) := by decide +kernel
theorem dX11_judge_304 : decode cX11_judge 304 = .ok (.ifCond .eq 10, 3) := by decide +kernel
theorem dX11_judge_307 : decode cX11_judge 307 = .ok (.iload 9, 2) := by decide +kernel
theorem dX11_judge_309 : decode cX11_judge 309 = .ok (.iconst 4, 1) := by decide +kernel
theorem dX11_judge_310 : decode cX11_judge 310 = .ok (.iadd, 1) := by decide +kernel
theorem dX11_judge_311 : decode cX11_judge 311 = .ok (.goto 5, 3) := by decide +kernel
theorem dX11_judge_314 : decode cX11_judge 314 = .ok (.iload 9, 2) := by decide +kernel
theorem dX11_judge_316 : decode cX11_judge 316 = .ok (.ireturn, 1) := by decide +kernel
